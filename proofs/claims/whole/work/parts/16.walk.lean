/-! walks: X9_undo X9_lot X9_homeBits X9_firstHome X9_home X9_oddsBy X9_inLeastTerms X9_odds X9_enough X9_picture X9_forget X9_could X9_isClock -/
theorem in_X9_undo_X0 : ∀ w ∈ wsX00, w ∈ wsX9_undo := fun w h => List.mem_cons_of_mem _ (List.mem_append_left _ (List.mem_append_right _ h))
theorem in_X9_undo_X7 : ∀ w ∈ wsX70, w ∈ wsX9_undo := fun w h => List.mem_cons_of_mem _ (List.mem_append_right _ h)
theorem in_X9_undo_X9 : ∀ w ∈ wsX90, w ∈ wsX9_undo := fun w h => List.mem_cons_of_mem _ (List.mem_append_left _ (List.mem_append_left _ (List.mem_append_right _ h)))
set_option maxRecDepth 100000 in
set_option maxHeartbeats 4000000 in
theorem c_X9_undo (l : Launch) (G : Gt) (A : Nat → Prop) (S : St)   (q : Int32 × St) (hf : f_X9_undo S = some q) : Met l yX9_undo wsX9_undo ({ frames := 2, cells := 0, slots := 0, locals := 45 } : Room) (va_Pc [.ref (gC G 0)] (PK G A (CW G S))) (va_Qi (fun (r2 : Int32) S2 => r2 = q.1 ∧ S2 = q.2) (fun S2 : St => PK G A (CW G S2)) A) 0 0 A := by
  refine mstart_i (Wd := CW G) (cc := cX9_undo) (maxL := 1) (by decide) rfl (Nat.le_of_ble_eq_true rfl) (fun p e s m below meth c Qm ls hC hH hl fin => ?_)
  obtain ⟨hx, hb, hml, hown, hts⟩ := id hC.1
  have hl : lv_has ls 1 [(0, .ref (gC G 0))] := hl
  have hf := hf
  rw [f_X9_undo] at hf
  refine lv_aload_n hx hb dX9_undo_0 rfl (lv_at hl 0 rfl) ?_
  refine getO hC hH (0) rfl rfl in_X9_undo_X9 5 (by decide) (index := 41) (List.mem_of_getElem? (i := 1) rfl) rfl dX9_undo_1 ?_
  refine getN hC hH (18) rfl rfl in_X9_undo_X0 4 (by decide) (index := 101) (List.mem_of_getElem? (i := 6) rfl) rfl dX9_undo_4 ?_
  refine lv_if_ne (tgt := 13) hx hb dX9_undo_7 (by decide) (fun c1 => ?_) (fun c1 => ?_)
  · replace hf := it_f c1 hf
    refine lv_aload_n hx hb dX9_undo_13 rfl (lv_at hl 0 rfl) ?_
    refine getO hC hH (0) rfl rfl in_X9_undo_X9 5 (by decide) (index := 41) (List.mem_of_getElem? (i := 1) rfl) rfl dX9_undo_14 ?_
    refine lv_aload_n hx hb dX9_undo_17 rfl (lv_at hl 0 rfl) ?_
    refine getO hC hH (0) rfl rfl in_X9_undo_X9 2 (by decide) (index := 24) (List.mem_of_getElem? (i := 2) rfl) rfl dX9_undo_18 ?_
    obtain ⟨r2, hr2, hf⟩ := ob hf
    refine callV_v [.ref (gC G (4 + 5 * 0))] [] hC hH (c_X0_takeBackLast l G A S 0 (by decide) _ hr2) (cwV 1 hts gX9_undo_X0_takeBackLast rfl rfl rfl (by decide +kernel) ⟨Nat.le_of_ble_eq_true rfl, Nat.le_of_ble_eq_true rfl⟩) (recvW hC hH (c0 := 18) (ci := 0) rfl rfl) rfl hl.1 rfl (Nat.le_of_ble_eq_true rfl) dX9_undo_21 (fun H locs hH => ?_)
    refine lv_aload_n hx hb dX9_undo_24 rfl (lv_at hl 0 rfl) ?_
    refine getO hC hH (0) rfl rfl in_X9_undo_X9 5 (by decide) (index := 41) (List.mem_of_getElem? (i := 1) rfl) rfl dX9_undo_25 ?_
    refine getN hC hH (18) rfl rfl in_X9_undo_X0 4 (by decide) (index := 101) (List.mem_of_getElem? (i := 6) rfl) rfl dX9_undo_28 ?_
    exact fin (gI r2 18 4) r2 _ _ _ _ (congrArg Prod.fst (Option.some.inj hf)) (congrArg Prod.snd (Option.some.inj hf)) hH dX9_undo_31
  · replace hf := it_t c1 hf
    refine lv_bipush (v := -2) hx hb dX9_undo_10 (by decide) ?_
    exact fin (-2 : Int32) S _ _ _ _ (congrArg Prod.fst (Option.some.inj hf)) (congrArg Prod.snd (Option.some.inj hf)) hH dX9_undo_12
theorem in_X9_lot_X7 : ∀ w ∈ wsX70, w ∈ wsX9_lot := fun w h => List.mem_cons_of_mem _ (List.mem_append_right _ h)
theorem in_X9_lot_X9 : ∀ w ∈ wsX90, w ∈ wsX9_lot := fun w h => List.mem_cons_of_mem _ (List.mem_append_left _ (List.mem_append_right _ h))
set_option maxRecDepth 100000 in
set_option maxHeartbeats 4000000 in
theorem c_X9_lot (l : Launch) (G : Gt) (A : Nat → Prop) (S : St)  (a1 : Int32) (q : Int32 × St) (hf : f_X9_lot S a1 = some q) : Met l yX9_lot wsX9_lot ({ frames := 0, cells := 0, slots := 0, locals := 0 } : Room) (va_Pc [.ref (gC G 0), .int a1] (PK G A (CW G S))) (va_Qi (fun (r2 : Int32) S2 => r2 = q.1 ∧ S2 = q.2) (fun S2 : St => PK G A (CW G S2)) A) 0 0 A := by
  refine mstart_i (Wd := CW G) (cc := cX9_lot) (maxL := 3) (by decide) rfl (Nat.le_of_ble_eq_true rfl) (fun p e s m below meth c Qm ls hC hH hl fin => ?_)
  obtain ⟨hx, hb, hml, hown, hts⟩ := id hC.1
  have hl : lv_has ls 3 [(0, .ref (gC G 0)), (1, .int a1)] := hl
  have hf := hf
  rw [f_X9_lot] at hf
  refine lv_aload_n hx hb dX9_lot_0 rfl (lv_at hl 0 rfl) ?_
  refine getO hC hH (0) rfl rfl in_X9_lot_X9 2 (by decide) (index := 24) (List.mem_of_getElem? (i := 1) rfl) rfl dX9_lot_1 ?_
  refine getN hC hH (4 + 5 * 0) (cw_runs (i := 0) (by decide)) rfl in_X9_lot_X7 3 (by decide) (index := 215) (List.mem_of_getElem? (i := 3) rfl) rfl dX9_lot_4 ?_
  refine lv_topi (fun b1 eb1 => ?_)
  replace hf := bn eb1 hf
  refine lv_istore_n (lv' := [(2, .int b1), (0, .ref (gC G 0)), (1, .int a1)]) hx hb dX9_lot_7 rfl hl (by decide) rfl (fun ls hl => ?_)
  refine lv_aload_n hx hb dX9_lot_8 rfl (lv_at hl 1 rfl) ?_
  refine getO hC hH (0) rfl rfl in_X9_lot_X9 2 (by decide) (index := 24) (List.mem_of_getElem? (i := 1) rfl) rfl dX9_lot_9 ?_
  refine lv_iload_n hx hb dX9_lot_12 rfl (lv_at hl 2 rfl) ?_
  refine putN hC hH (4 + 5 * 0) (cw_runs (i := 0) (by decide)) rfl in_X9_lot_X7 tyX7 tyX7_ok nmX7 3 (by decide) (index := 215) (List.mem_of_getElem? (i := 3) rfl) rfl rfl rfl (Nat.le_of_ble_eq_true rfl) (cs_runs_3 (i := 0) (by decide)) dX9_lot_13 (fun H locs hH => ?_)
  obtain ⟨S2, eS2⟩ : ∃ Z : St, Z = sI S (4 + 5 * 0) 3 a1 := ⟨_, rfl⟩
  rw [← eS2] at hH
  replace hf := bn eS2 hf
  refine lv_iload_n hx hb dX9_lot_16 rfl (lv_at hl 0 rfl) ?_
  exact fin b1 S2 _ _ _ _ (congrArg Prod.fst (Option.some.inj hf)) (congrArg Prod.snd (Option.some.inj hf)) hH dX9_lot_17
theorem in_X9_homeBits_X3 : ∀ w ∈ wsX30, w ∈ wsX9_homeBits := fun w h => List.mem_cons_of_mem _ (List.mem_append_left _ (List.mem_append_right _ h))
theorem in_X9_homeBits_X7 : ∀ w ∈ wsX70, w ∈ wsX9_homeBits := fun w h => List.mem_cons_of_mem _ (List.mem_append_right _ h)
theorem in_X9_homeBits_X9 : ∀ w ∈ wsX90, w ∈ wsX9_homeBits := fun w h => List.mem_cons_of_mem _ (List.mem_append_left _ (List.mem_append_left _ (List.mem_append_right _ h)))
set_option maxRecDepth 100000 in
set_option maxHeartbeats 4000000 in
theorem c_X9_homeBits (l : Launch) (G : Gt) (A : Nat → Prop) (N : Nat) (S : St)   (q : Int32) (hf : f_X9_homeBits N S = some q) : Met l yX9_homeBits wsX9_homeBits ({ frames := 3, cells := 0, slots := 0, locals := 63 } : Room) (va_Pc [.ref (gC G 0)] (PK G A (CW G S))) (va_Qi (fun (r2 : Int32) S2 => r2 = q ∧ S2 = S) (fun S2 : St => PK G A (CW G S2)) A) 0 0 A := by
  refine mstart_i (Wd := CW G) (cc := cX9_homeBits) (maxL := 3) (by decide) rfl (Nat.le_of_ble_eq_true rfl) (fun p e s m below meth c Qm ls hC hH hl fin => ?_)
  obtain ⟨hx, hb, hml, hown, hts⟩ := id hC.1
  have hl : lv_has ls 3 [(0, .ref (gC G 0))] := hl
  have kL4 : ∀ (n : Nat), ∀ (x1 : Int32) (x2 : Int32) (H : Heap) (locs : List Loc) (ls : Array Slot), HW G A (CW G S) s H locs → lv_has ls 3 [(0, .ref (gC G 0)), (1, .int x1), (2, .int x2)] → g_X9_homeBits_4 N S n x1 x2 = some q → W p l e ({ frames := 3, cells := 0, slots := 0, locals := 63 } : Room) s m [.ref (gC G 0)].toArray below meth c H locs 0 0 Qm (F0 m 4 ls []) := by
    intro n
    induction n with
    | zero => intro x1 x2 H locs ls hH hl hf; exact absurd hf.symm (Option.some_ne_none q)
    | succ n ih =>
      intro x1 x2 H locs ls hH hl hf
      have hrec := ih
      have hf : s_X9_homeBits_4 N S (g_X9_homeBits_4 N S n) x1 x2 = some q := hf
      rw [s_X9_homeBits_4] at hf
      refine lv_iload_n hx hb dX9_homeBits_4 rfl (lv_at hl 2 rfl) ?_
      refine lv_aload_n hx hb dX9_homeBits_5 rfl (lv_at hl 0 rfl) ?_
      refine getO hC hH (0) rfl rfl in_X9_homeBits_X9 9 (by decide) (index := 69) (List.mem_of_getElem? (i := 1) rfl) rfl dX9_homeBits_6 ?_
      refine getN hC hH (33 + 5 * (gCo S).toNat) (cw_lane (i := (gCo S).toNat) (Bool.toNat_lt _)) rfl in_X9_homeBits_X3 5 (by decide) (index := 292) (List.mem_of_getElem? (i := 15) rfl) rfl dX9_homeBits_9 ?_
      refine lv_icmp_ge (tgt := 35) hx hb dX9_homeBits_12 (by decide) (fun c1 => ?_) (fun c1 => ?_)
      · replace hf := it_t c1 hf
        refine lv_iload_n hx hb dX9_homeBits_35 rfl (lv_at hl 1 rfl) ?_
        exact fin x1 S _ _ _ _ (Option.some.inj hf) rfl hH dX9_homeBits_36
      · replace hf := it_f c1 hf
        refine lv_aload_n hx hb dX9_homeBits_15 rfl (lv_at hl 0 rfl) ?_
        refine lv_iload_n hx hb dX9_homeBits_16 rfl (lv_at hl 2 rfl) ?_
        obtain ⟨r2, hr2, hf⟩ := ob hf
        refine callV_i [.int x2] [] hC hH (c_X9_isHome l G A S x2 _ hr2) (cwV 1 hts gX9_homeBits_X9_isHome rfl rfl rfl (by decide +kernel) ⟨Nat.le_of_ble_eq_true rfl, Nat.le_of_ble_eq_true rfl⟩) (recvW hC hH (c0 := 0) (ci := 9) rfl rfl) rfl hl.1 rfl (Nat.le_of_ble_eq_true rfl) dX9_homeBits_17 (fun H locs hH => ?_)
        refine lv_if_eq (tgt := 29) hx hb dX9_homeBits_20 (by decide) (fun c3 => ?_) (fun c3 => ?_)
        · replace hf := it_t c3 hf
          refine lv_iinc (v := x2 + (1 : Int32)) (lv' := [(2, .int (x2 + (1 : Int32))), (0, .ref (gC G 0)), (1, .int x1)]) hx hb dX9_homeBits_29 hl (k := 2) rfl rfl (by decide) rfl (fun ls hl => ?_)
          refine lv_goto (tgt := 4) hx hb dX9_homeBits_32 (by decide) ?_
          exact hrec x1 (x2 + (1 : Int32)) _ _ _ hH (lv_sub hl [1, 2, 0] rfl) hf
        · replace hf := it_f c3 hf
          refine lv_iload_n hx hb dX9_homeBits_23 rfl (lv_at hl 1 rfl) ?_
          refine lv_iconst (v := 1) hx hb dX9_homeBits_24 (by decide) ?_
          refine lv_iload_n hx hb dX9_homeBits_25 rfl (lv_at hl 2 rfl) ?_
          refine lv_ishl hx hb dX9_homeBits_26 ?_
          refine lv_ior hx hb dX9_homeBits_27 ?_
          refine lv_topi (fun b4 eb4 => ?_)
          replace hf := bn eb4 hf
          refine lv_istore_n (lv' := [(1, .int b4), (0, .ref (gC G 0)), (2, .int x2)]) hx hb dX9_homeBits_28 rfl hl (by decide) rfl (fun ls hl => ?_)
          refine lv_iinc (v := x2 + (1 : Int32)) (lv' := [(2, .int (x2 + (1 : Int32))), (1, .int b4), (0, .ref (gC G 0))]) hx hb dX9_homeBits_29 hl (k := 2) rfl rfl (by decide) rfl (fun ls hl => ?_)
          refine lv_goto (tgt := 4) hx hb dX9_homeBits_32 (by decide) ?_
          exact hrec b4 (x2 + (1 : Int32)) _ _ _ hH (lv_sub hl [2, 1, 0] rfl) hf
  have hf := hf
  rw [f_X9_homeBits] at hf
  refine lv_iconst (v := 0) hx hb dX9_homeBits_0 (by decide) ?_
  refine lv_istore_n (lv' := [(1, .int (0 : Int32)), (0, .ref (gC G 0))]) hx hb dX9_homeBits_1 rfl hl (by decide) rfl (fun ls hl => ?_)
  refine lv_iconst (v := 0) hx hb dX9_homeBits_2 (by decide) ?_
  refine lv_istore_n (lv' := [(2, .int (0 : Int32)), (1, .int (0 : Int32)), (0, .ref (gC G 0))]) hx hb dX9_homeBits_3 rfl hl (by decide) rfl (fun ls hl => ?_)
  refine kL4 N (0 : Int32) (0 : Int32) _ _ _ hH (lv_sub hl [2, 1, 0] rfl) hf
theorem in_X9_firstHome_X3 : ∀ w ∈ wsX30, w ∈ wsX9_firstHome := fun w h => List.mem_cons_of_mem _ (List.mem_append_left _ (List.mem_append_right _ h))
theorem in_X9_firstHome_X7 : ∀ w ∈ wsX70, w ∈ wsX9_firstHome := fun w h => List.mem_cons_of_mem _ (List.mem_append_right _ h)
theorem in_X9_firstHome_X9 : ∀ w ∈ wsX90, w ∈ wsX9_firstHome := fun w h => List.mem_cons_of_mem _ (List.mem_append_left _ (List.mem_append_left _ (List.mem_append_right _ h)))
set_option maxRecDepth 100000 in
set_option maxHeartbeats 4000000 in
theorem c_X9_firstHome (l : Launch) (G : Gt) (A : Nat → Prop) (N : Nat) (S : St)   (q : Int32) (hf : f_X9_firstHome N S = some q) : Met l yX9_firstHome wsX9_firstHome ({ frames := 3, cells := 0, slots := 0, locals := 63 } : Room) (va_Pc [.ref (gC G 0)] (PK G A (CW G S))) (va_Qi (fun (r2 : Int32) S2 => r2 = q ∧ S2 = S) (fun S2 : St => PK G A (CW G S2)) A) 0 0 A := by
  refine mstart_i (Wd := CW G) (cc := cX9_firstHome) (maxL := 4) (by decide) rfl (Nat.le_of_ble_eq_true rfl) (fun p e s m below meth c Qm ls hC hH hl fin => ?_)
  obtain ⟨hx, hb, hml, hown, hts⟩ := id hC.1
  have hl : lv_has ls 4 [(0, .ref (gC G 0))] := hl
  have kJ44 : ∀ (rec : Int32 → Int32 → Int32 → Option Int32) (hrec : ∀ (x1 : Int32) (x2 : Int32) (x3 : Int32) (H : Heap) (locs : List Loc) (ls : Array Slot), HW G A (CW G S) s H locs → lv_has ls 4 [(0, .ref (gC G 0)), (1, .int x1), (2, .int x2), (3, .int x3)] → rec x1 x2 x3 = some q → W p l e ({ frames := 3, cells := 0, slots := 0, locals := 63 } : Room) s m [.ref (gC G 0)].toArray below meth c H locs 0 0 Qm (F0 m 7 ls [])) , ∀ (x3 : Int32) (H : Heap) (locs : List Loc) (ls : Array Slot), HW G A (CW G S) s H locs → lv_has ls 4 [(0, .ref (gC G 0)), (3, .int x3)] → f_X9_firstHome_44 N S rec x3 = some q → W p l e ({ frames := 3, cells := 0, slots := 0, locals := 63 } : Room) s m [.ref (gC G 0)].toArray below meth c H locs 0 0 Qm (F0 m 44 ls []) := by
    intro rec hrec x3 H locs ls hH hl hf
    rw [f_X9_firstHome_44] at hf
    refine lv_iload_n hx hb dX9_firstHome_44 rfl (lv_at hl 1 rfl) ?_
    refine lv_istore_n (lv' := [(1, .int x3), (0, .ref (gC G 0)), (3, .int x3)]) hx hb dX9_firstHome_45 rfl hl (by decide) rfl (fun ls hl => ?_)
    refine lv_aload_n hx hb dX9_firstHome_46 rfl (lv_at hl 1 rfl) ?_
    refine getO hC hH (0) rfl rfl in_X9_firstHome_X9 2 (by decide) (index := 24) (List.mem_of_getElem? (i := 2) rfl) rfl dX9_firstHome_47 ?_
    refine lv_iload_n hx hb dX9_firstHome_50 rfl (lv_at hl 2 rfl) ?_
    obtain ⟨r5, hr5, hf⟩ := ob hf
    refine callV_i [.int x3] [] hC hH (c_X7_beatsOf l G A S 0 (by decide) x3 _ hr5) (cwV 1 hts gX9_firstHome_X7_beatsOf rfl rfl rfl (by decide +kernel) ⟨Nat.le_of_ble_eq_true rfl, Nat.le_of_ble_eq_true rfl⟩) (recvW hC hH (c0 := 4 + 5 * 0) (ci := 7) (cw_runs (i := 0) (by decide)) rfl) rfl hl.1 rfl (Nat.le_of_ble_eq_true rfl) dX9_firstHome_51 (fun H locs hH => ?_)
    refine lv_istore_n (lv' := [(2, .int r5), (1, .int x3), (0, .ref (gC G 0)), (3, .int x3)]) hx hb dX9_firstHome_54 rfl hl (by decide) rfl (fun ls hl => ?_)
    refine lv_iinc (v := x3 + (1 : Int32)) (lv' := [(3, .int (x3 + (1 : Int32))), (2, .int r5), (1, .int x3), (0, .ref (gC G 0))]) hx hb dX9_firstHome_55 hl (k := 3) rfl rfl (by decide) rfl (fun ls hl => ?_)
    refine lv_goto (tgt := 7) hx hb dX9_firstHome_58 (by decide) ?_
    exact hrec x3 r5 (x3 + (1 : Int32)) _ _ _ hH (lv_sub hl [3, 2, 1, 0] rfl) hf
  have kL7 : ∀ (n : Nat), ∀ (x1 : Int32) (x2 : Int32) (x3 : Int32) (H : Heap) (locs : List Loc) (ls : Array Slot), HW G A (CW G S) s H locs → lv_has ls 4 [(0, .ref (gC G 0)), (1, .int x1), (2, .int x2), (3, .int x3)] → g_X9_firstHome_7 N S n x1 x2 x3 = some q → W p l e ({ frames := 3, cells := 0, slots := 0, locals := 63 } : Room) s m [.ref (gC G 0)].toArray below meth c H locs 0 0 Qm (F0 m 7 ls []) := by
    intro n
    induction n with
    | zero => intro x1 x2 x3 H locs ls hH hl hf; exact absurd hf.symm (Option.some_ne_none q)
    | succ n ih =>
      intro x1 x2 x3 H locs ls hH hl hf
      have hrec := ih
      have hf : s_X9_firstHome_7 N S (g_X9_firstHome_7 N S n) x1 x2 x3 = some q := hf
      rw [s_X9_firstHome_7] at hf
      refine lv_iload_n hx hb dX9_firstHome_7 rfl (lv_at hl 3 rfl) ?_
      refine lv_aload_n hx hb dX9_firstHome_8 rfl (lv_at hl 0 rfl) ?_
      refine getO hC hH (0) rfl rfl in_X9_firstHome_X9 9 (by decide) (index := 69) (List.mem_of_getElem? (i := 1) rfl) rfl dX9_firstHome_9 ?_
      refine getN hC hH (33 + 5 * (gCo S).toNat) (cw_lane (i := (gCo S).toNat) (Bool.toNat_lt _)) rfl in_X9_firstHome_X3 5 (by decide) (index := 292) (List.mem_of_getElem? (i := 15) rfl) rfl dX9_firstHome_12 ?_
      refine lv_icmp_ge (tgt := 61) hx hb dX9_firstHome_15 (by decide) (fun c1 => ?_) (fun c1 => ?_)
      · replace hf := it_t c1 hf
        refine lv_iload_n hx hb dX9_firstHome_61 rfl (lv_at hl 1 rfl) ?_
        exact fin x1 S _ _ _ _ (Option.some.inj hf) rfl hH dX9_firstHome_62
      · replace hf := it_f c1 hf
        refine lv_aload_n hx hb dX9_firstHome_18 rfl (lv_at hl 0 rfl) ?_
        refine lv_iload_n hx hb dX9_firstHome_19 rfl (lv_at hl 3 rfl) ?_
        obtain ⟨r2, hr2, hf⟩ := ob hf
        refine callV_i [.int x3] [] hC hH (c_X9_isHome l G A S x3 _ hr2) (cwV 1 hts gX9_firstHome_X9_isHome rfl rfl rfl (by decide +kernel) ⟨Nat.le_of_ble_eq_true rfl, Nat.le_of_ble_eq_true rfl⟩) (recvW hC hH (c0 := 0) (ci := 9) rfl rfl) rfl hl.1 rfl (Nat.le_of_ble_eq_true rfl) dX9_firstHome_20 (fun H locs hH => ?_)
        refine lv_if_eq (tgt := 55) hx hb dX9_firstHome_23 (by decide) (fun c3 => ?_) (fun c3 => ?_)
        · replace hf := it_t c3 hf
          refine lv_iinc (v := x3 + (1 : Int32)) (lv' := [(3, .int (x3 + (1 : Int32))), (0, .ref (gC G 0)), (1, .int x1), (2, .int x2)]) hx hb dX9_firstHome_55 hl (k := 3) rfl rfl (by decide) rfl (fun ls hl => ?_)
          refine lv_goto (tgt := 7) hx hb dX9_firstHome_58 (by decide) ?_
          exact hrec x1 x2 (x3 + (1 : Int32)) _ _ _ hH (lv_sub hl [1, 2, 3, 0] rfl) hf
        · replace hf := it_f c3 hf
          refine lv_iload_n hx hb dX9_firstHome_26 rfl (lv_at hl 1 rfl) ?_
          refine lv_bipush (v := -9) hx hb dX9_firstHome_27 (by decide) ?_
          refine lv_icmp_eq (tgt := 44) hx hb dX9_firstHome_29 (by decide) (fun c4 => ?_) (fun c4 => ?_)
          · replace hf := it_t c4 hf
            exact kJ44 _ hrec x3 _ _ _ hH (lv_sub hl [0, 3] rfl) hf
          · replace hf := it_f c4 hf
            refine lv_aload_n hx hb dX9_firstHome_32 rfl (lv_at hl 0 rfl) ?_
            refine getO hC hH (0) rfl rfl in_X9_firstHome_X9 2 (by decide) (index := 24) (List.mem_of_getElem? (i := 2) rfl) rfl dX9_firstHome_33 ?_
            refine lv_iload_n hx hb dX9_firstHome_36 rfl (lv_at hl 3 rfl) ?_
            obtain ⟨r6, hr6, hf⟩ := ob hf
            refine callV_i [.int x3] [] hC hH (c_X7_beatsOf l G A S 0 (by decide) x3 _ hr6) (cwV 1 hts gX9_firstHome_X7_beatsOf rfl rfl rfl (by decide +kernel) ⟨Nat.le_of_ble_eq_true rfl, Nat.le_of_ble_eq_true rfl⟩) (recvW hC hH (c0 := 4 + 5 * 0) (ci := 7) (cw_runs (i := 0) (by decide)) rfl) rfl hl.1 rfl (Nat.le_of_ble_eq_true rfl) dX9_firstHome_37 (fun H locs hH => ?_)
            refine lv_iload_n hx hb dX9_firstHome_40 rfl (lv_at hl 2 rfl) ?_
            refine lv_icmp_ge (tgt := 55) hx hb dX9_firstHome_41 (by decide) (fun c7 => ?_) (fun c7 => ?_)
            · replace hf := it_t c7 hf
              refine lv_iinc (v := x3 + (1 : Int32)) (lv' := [(3, .int (x3 + (1 : Int32))), (0, .ref (gC G 0)), (1, .int x1), (2, .int x2)]) hx hb dX9_firstHome_55 hl (k := 3) rfl rfl (by decide) rfl (fun ls hl => ?_)
              refine lv_goto (tgt := 7) hx hb dX9_firstHome_58 (by decide) ?_
              exact hrec x1 x2 (x3 + (1 : Int32)) _ _ _ hH (lv_sub hl [1, 2, 3, 0] rfl) hf
            · replace hf := it_f c7 hf
              exact kJ44 _ hrec x3 _ _ _ hH (lv_sub hl [0, 3] rfl) hf
  have hf := hf
  rw [f_X9_firstHome] at hf
  refine lv_bipush (v := -9) hx hb dX9_firstHome_0 (by decide) ?_
  refine lv_istore_n (lv' := [(1, .int (-9 : Int32)), (0, .ref (gC G 0))]) hx hb dX9_firstHome_2 rfl hl (by decide) rfl (fun ls hl => ?_)
  refine lv_iconst (v := 0) hx hb dX9_firstHome_3 (by decide) ?_
  refine lv_istore_n (lv' := [(2, .int (0 : Int32)), (1, .int (-9 : Int32)), (0, .ref (gC G 0))]) hx hb dX9_firstHome_4 rfl hl (by decide) rfl (fun ls hl => ?_)
  refine lv_iconst (v := 0) hx hb dX9_firstHome_5 (by decide) ?_
  refine lv_istore_n (lv' := [(3, .int (0 : Int32)), (2, .int (0 : Int32)), (1, .int (-9 : Int32)), (0, .ref (gC G 0))]) hx hb dX9_firstHome_6 rfl hl (by decide) rfl (fun ls hl => ?_)
  refine kL7 N (-9 : Int32) (0 : Int32) (0 : Int32) _ _ _ hH (lv_sub hl [3, 2, 1, 0] rfl) hf
theorem in_X9_home_X3 : ∀ w ∈ wsX30, w ∈ wsX9_home := fun w h => List.mem_cons_of_mem _ (List.mem_append_left _ (List.mem_append_right _ h))
theorem in_X9_home_X7 : ∀ w ∈ wsX70, w ∈ wsX9_home := fun w h => List.mem_cons_of_mem _ (List.mem_append_right _ h)
theorem in_X9_home_X9 : ∀ w ∈ wsX90, w ∈ wsX9_home := fun w h => List.mem_cons_of_mem _ (List.mem_append_left _ (List.mem_append_left _ (List.mem_append_right _ h)))
set_option maxRecDepth 100000 in
set_option maxHeartbeats 4000000 in
theorem c_X9_home (l : Launch) (G : Gt) (A : Nat → Prop) (N : Nat) (S : St)  (a1 : Int32) (q : Int32) (hf : f_X9_home N S a1 = some q) : Met l yX9_home wsX9_home ({ frames := 4, cells := 0, slots := 0, locals := 86 } : Room) (va_Pc [.ref (gC G 0), .int a1] (PK G A (CW G S))) (va_Qi (fun (r2 : Int32) S2 => r2 = q ∧ S2 = S) (fun S2 : St => PK G A (CW G S2)) A) 0 0 A := by
  refine mstart_i (Wd := CW G) (cc := cX9_home) (maxL := 2) (by decide) rfl (Nat.le_of_ble_eq_true rfl) (fun p e s m below meth c Qm ls hC hH hl fin => ?_)
  obtain ⟨hx, hb, hml, hown, hts⟩ := id hC.1
  have hl : lv_has ls 2 [(0, .ref (gC G 0)), (1, .int a1)] := hl
  have hf := hf
  rw [f_X9_home] at hf
  refine lv_iload_n hx hb dX9_home_0 rfl (lv_at hl 1 rfl) ?_
  obtain ⟨r1, hr1, hf⟩ := ob hf
  refine callS_i [.int a1] [] hC hH (c_X9_isBit l G A S a1 _ hr1) (va_cwS 1 hts gX9_home_X9_isBit rfl rfl rfl (by decide +kernel) ⟨Nat.le_of_ble_eq_true rfl, Nat.le_of_ble_eq_true rfl⟩) rfl hl.1 rfl (Nat.le_of_ble_eq_true rfl) dX9_home_1 (fun H locs hH => ?_)
  refine lv_if_ne (tgt := 9) hx hb dX9_home_4 (by decide) (fun c2 => ?_) (fun c2 => ?_)
  · replace hf := it_f c2 hf
    refine lv_iload_n hx hb dX9_home_9 rfl (lv_at hl 1 rfl) ?_
    refine lv_if_ne (tgt := 20) hx hb dX9_home_10 (by decide) (fun c3 => ?_) (fun c3 => ?_)
    · replace hf := it_f c3 hf
      refine lv_aload_n hx hb dX9_home_20 rfl (lv_at hl 0 rfl) ?_
      obtain ⟨r4, hr4, hf⟩ := ob hf
      refine callV_i [] [] hC hH (c_X9_firstHome l G A N S _ hr4) (cwV 0 hts gX9_home_X9_firstHome rfl rfl rfl (by decide +kernel) ⟨Nat.le_of_ble_eq_true rfl, Nat.le_of_ble_eq_true rfl⟩) (recvW hC hH (c0 := 0) (ci := 9) rfl rfl) rfl hl.1 rfl (Nat.le_of_ble_eq_true rfl) dX9_home_21 (fun H locs hH => ?_)
      exact fin r4 S _ _ _ _ (Option.some.inj hf) rfl hH dX9_home_24
    · replace hf := it_t c3 hf
      refine lv_aload_n hx hb dX9_home_13 rfl (lv_at hl 0 rfl) ?_
      obtain ⟨r5, hr5, hf⟩ := ob hf
      refine callV_i [] [] hC hH (c_X9_homeBits l G A N S _ hr5) (cwV 0 hts gX9_home_X9_homeBits rfl rfl rfl (by decide +kernel) ⟨Nat.le_of_ble_eq_true rfl, Nat.le_of_ble_eq_true rfl⟩) (recvW hC hH (c0 := 0) (ci := 9) rfl rfl) rfl hl.1 rfl (Nat.le_of_ble_eq_true rfl) dX9_home_14 (fun H locs hH => ?_)
      refine lv_goto (tgt := 24) hx hb dX9_home_17 (by decide) ?_
      exact fin r5 S _ _ _ _ (Option.some.inj hf) rfl hH dX9_home_24
  · replace hf := it_t c2 hf
    refine lv_iconst (v := -1) hx hb dX9_home_7 (by decide) ?_
    exact fin (-1 : Int32) S _ _ _ _ (Option.some.inj hf) rfl hH dX9_home_8
theorem in_X9_oddsBy_X3 : ∀ w ∈ wsX30, w ∈ wsX9_oddsBy := fun w h => List.mem_cons_of_mem _ (List.mem_append_left _ (List.mem_append_left _ (List.mem_append_right _ h)))
theorem in_X9_oddsBy_X4 : ∀ w ∈ wsX40, w ∈ wsX9_oddsBy := fun w h => List.mem_cons_of_mem _ (List.mem_append_right _ h)
theorem in_X9_oddsBy_X7 : ∀ w ∈ wsX70, w ∈ wsX9_oddsBy := fun w h => List.mem_cons_of_mem _ (List.mem_append_left _ (List.mem_append_right _ h))
theorem in_X9_oddsBy_X9 : ∀ w ∈ wsX90, w ∈ wsX9_oddsBy := fun w h => List.mem_cons_of_mem _ (List.mem_append_left _ (List.mem_append_left _ (List.mem_append_left _ (List.mem_append_right _ h))))
set_option maxRecDepth 100000 in
set_option maxHeartbeats 4000000 in
theorem c_X9_oddsBy (l : Launch) (G : Gt) (A : Nat → Prop) (S : St)  (a1 : Int32) (a2 : Int32) (q : Int64) (hf : f_X9_oddsBy S a1 a2 = some q) : Met l yX9_oddsBy wsX9_oddsBy ({ frames := 2, cells := 0, slots := 0, locals := 46 } : Room) (va_Pc [.ref (gC G 0), .int a1, .int a2] (PK G A (CW G S))) (va_Ql (fun (r2 : Int64) S2 => r2 = q ∧ S2 = S) (fun S2 : St => PK G A (CW G S2)) A) 0 0 A := by
  refine mstart_l (Wd := CW G) (cc := cX9_oddsBy) (maxL := 4) (by decide) rfl (Nat.le_of_ble_eq_true rfl) (fun p e s m below meth c Qm ls hC hH hl fin => ?_)
  obtain ⟨hx, hb, hml, hown, hts⟩ := id hC.1
  have hl : lv_has ls 4 [(0, .ref (gC G 0)), (1, .int a1), (2, .int a2)] := hl
  have hf := hf
  rw [f_X9_oddsBy] at hf
  refine lv_iconst (v := 0) hx hb dX9_oddsBy_0 (by decide) ?_
  refine lv_aload_n hx hb dX9_oddsBy_1 rfl (lv_at hl 0 rfl) ?_
  refine getO hC hH (0) rfl rfl in_X9_oddsBy_X9 9 (by decide) (index := 69) (List.mem_of_getElem? (i := 1) rfl) rfl dX9_oddsBy_2 ?_
  refine getN hC hH (33 + 5 * (gCo S).toNat) (cw_lane (i := (gCo S).toNat) (Bool.toNat_lt _)) rfl in_X9_oddsBy_X3 7 (by decide) (index := 126) (List.mem_of_getElem? (i := 20) rfl) rfl dX9_oddsBy_5 ?_
  refine lv_aload_n hx hb dX9_oddsBy_8 rfl (lv_at hl 0 rfl) ?_
  refine getO hC hH (0) rfl rfl in_X9_oddsBy_X9 2 (by decide) (index := 24) (List.mem_of_getElem? (i := 2) rfl) rfl dX9_oddsBy_9 ?_
  refine lv_iload_n hx hb dX9_oddsBy_12 rfl (lv_at hl 1 rfl) ?_
  obtain ⟨r1, hr1, hf⟩ := ob hf
  refine callV_i [.int a1] [.int (gI S (33 + 5 * (gCo S).toNat) 7), .int (0 : Int32)] hC hH (c_X7_goodOf l G A S 0 (by decide) a1 _ hr1) (cwV 1 hts gX9_oddsBy_X7_goodOf rfl rfl rfl (by decide +kernel) ⟨Nat.le_of_ble_eq_true rfl, Nat.le_of_ble_eq_true rfl⟩) (recvW hC hH (c0 := 4 + 5 * 0) (ci := 7) (cw_runs (i := 0) (by decide)) rfl) rfl hl.1 rfl (Nat.le_of_ble_eq_true rfl) dX9_oddsBy_13 (fun H locs hH => ?_)
  refine lv_isub hx hb dX9_oddsBy_16 ?_
  refine va_mmax hx hb (by rw [hml]; exact hl.1.symm) hown (hts _ (List.mem_of_getElem? (i := 3) rfl)) (hts _ (List.mem_of_getElem? (i := 4) rfl)) (hts _ (List.mem_of_getElem? (i := 5) rfl)) (hts _ (List.mem_of_getElem? (i := 6) rfl)) (Nat.le_of_ble_eq_true rfl) (Nat.le_of_ble_eq_true rfl) (Nat.zero_le _) (Nat.zero_le _) dX9_oddsBy_17 ?_
  refine lv_topi (fun b2 eb2 => ?_)
  replace hf := bn eb2 hf
  refine lv_istore_n (lv' := [(3, .int b2), (0, .ref (gC G 0)), (1, .int a1), (2, .int a2)]) hx hb dX9_oddsBy_20 rfl hl (by decide) rfl (fun ls hl => ?_)
  refine lv_aload_n hx hb dX9_oddsBy_21 rfl (lv_at hl 1 rfl) ?_
  refine getO hC hH (0) rfl rfl in_X9_oddsBy_X9 8 (by decide) (index := 62) (List.mem_of_getElem? (i := 7) rfl) rfl dX9_oddsBy_22 ?_
  refine lv_iload_n hx hb dX9_oddsBy_25 rfl (lv_at hl 3 rfl) ?_
  refine lv_aload_n hx hb dX9_oddsBy_26 rfl (lv_at hl 1 rfl) ?_
  refine getO hC hH (0) rfl rfl in_X9_oddsBy_X9 2 (by decide) (index := 24) (List.mem_of_getElem? (i := 2) rfl) rfl dX9_oddsBy_27 ?_
  refine lv_iload_n hx hb dX9_oddsBy_30 rfl (lv_at hl 2 rfl) ?_
  obtain ⟨r3, hr3, hf⟩ := ob hf
  refine callV_i [.int a1] [.int a2, .ref (gC G 27)] hC hH (c_X7_beatsOf l G A S 0 (by decide) a1 _ hr3) (cwV 1 hts gX9_oddsBy_X7_beatsOf rfl rfl rfl (by decide +kernel) ⟨Nat.le_of_ble_eq_true rfl, Nat.le_of_ble_eq_true rfl⟩) (recvW hC hH (c0 := 4 + 5 * 0) (ci := 7) (cw_runs (i := 0) (by decide)) rfl) rfl hl.1 rfl (Nat.le_of_ble_eq_true rfl) dX9_oddsBy_31 (fun H locs hH => ?_)
  refine lv_isub hx hb dX9_oddsBy_34 ?_
  refine lv_aload_n hx hb dX9_oddsBy_35 rfl (lv_at hl 1 rfl) ?_
  refine getO hC hH (0) rfl rfl in_X9_oddsBy_X9 2 (by decide) (index := 24) (List.mem_of_getElem? (i := 2) rfl) rfl dX9_oddsBy_36 ?_
  refine lv_iload_n hx hb dX9_oddsBy_39 rfl (lv_at hl 2 rfl) ?_
  obtain ⟨r4, hr4, hf⟩ := ob hf
  refine callV_i [.int a1] [.int (a2 - r3), .ref (gC G 27)] hC hH (c_X7_yardOf l G A S 0 (by decide) a1 _ hr4) (cwV 1 hts gX9_oddsBy_X7_yardOf rfl rfl rfl (by decide +kernel) ⟨Nat.le_of_ble_eq_true rfl, Nat.le_of_ble_eq_true rfl⟩) (recvW hC hH (c0 := 4 + 5 * 0) (ci := 7) (cw_runs (i := 0) (by decide)) rfl) rfl hl.1 rfl (Nat.le_of_ble_eq_true rfl) dX9_oddsBy_40 (fun H locs hH => ?_)
  refine lv_iload_n hx hb dX9_oddsBy_43 rfl (lv_at hl 0 rfl) ?_
  obtain ⟨r5, hr5, hf⟩ := ob hf
  refine callV_l [.int (a2 - r3), .int r4, .int b2] [] hC hH (c_X4_chance l G A S (a2 - r3) r4 b2 _ hr5) (cwV 3 hts gX9_oddsBy_X4_chance rfl rfl rfl (by decide +kernel) ⟨Nat.le_of_ble_eq_true rfl, Nat.le_of_ble_eq_true rfl⟩) (recvW hC hH (c0 := 27) (ci := 4) rfl rfl) rfl hl.1 rfl (Nat.le_of_ble_eq_true rfl) dX9_oddsBy_44 (fun H locs hH => ?_)
  exact fin r5 S _ _ _ _ (Option.some.inj hf) rfl hH dX9_oddsBy_47
set_option maxRecDepth 100000 in
set_option maxHeartbeats 4000000 in
theorem c_X9_inLeastTerms (l : Launch) (G : Gt) (A : Nat → Prop) (N : Nat) (S : St)  (a0 : Int64) (a2 : Int64) (a4 : Int32) (q : Int64) (hf : f_X9_inLeastTerms N a0 a2 a4 = some q) : Met l yX9_inLeastTerms wsX9_inLeastTerms ({ frames := 0, cells := 0, slots := 0, locals := 0 } : Room) (va_Pc [.long a0, .long a2, .int a4] (PK G A (CW G S))) (va_Ql (fun (r2 : Int64) S2 => r2 = q ∧ S2 = S) (fun S2 : St => PK G A (CW G S2)) A) 0 0 A := by
  refine mstart_l (Wd := CW G) (cc := cX9_inLeastTerms) (maxL := 12) (by decide) rfl (Nat.le_of_ble_eq_true rfl) (fun p e s m below meth c Qm ls hC hH hl fin => ?_)
  obtain ⟨hx, hb, hml, hown, hts⟩ := id hC.1
  have hl : lv_has ls 12 [(0, .long a0), (2, .long a2), (4, .int a4)] := hl
  have kL9 : ∀ (k44 : Int64 → Option Int64) (hk44 : ∀ (x5 : Int64) (H : Heap) (locs : List Loc) (ls : Array Slot), HW G A (CW G S) s H locs → lv_has ls 12 [(0, .long a0), (2, .long a2), (4, .int a4), (5, .long x5)] → k44 x5 = some q → W p l e ({ frames := 0, cells := 0, slots := 0, locals := 0 } : Room) s m [.long a0, .long a2, .int a4].toArray below meth c H locs 0 0 Qm (F0 m 44 ls [])) , ∀ (n : Nat), ∀ (x5 : Int64) (x7 : Int64) (x9 : Int32) (H : Heap) (locs : List Loc) (ls : Array Slot), HW G A (CW G S) s H locs → lv_has ls 12 [(0, .long a0), (2, .long a2), (4, .int a4), (5, .long x5), (7, .long x7), (9, .int x9)] → g_X9_inLeastTerms_9 N a0 a2 a4 k44 n x5 x7 x9 = some q → W p l e ({ frames := 0, cells := 0, slots := 0, locals := 0 } : Room) s m [.long a0, .long a2, .int a4].toArray below meth c H locs 0 0 Qm (F0 m 9 ls []) := by
    intro k44 hk44 n
    induction n with
    | zero => intro x5 x7 x9 H locs ls hH hl hf; exact absurd hf.symm (Option.some_ne_none q)
    | succ n ih =>
      intro x5 x7 x9 H locs ls hH hl hf
      have hrec := ih
      have hf : s_X9_inLeastTerms_9 N a0 a2 a4 k44 (g_X9_inLeastTerms_9 N a0 a2 a4 k44 n) x5 x7 x9 = some q := hf
      rw [s_X9_inLeastTerms_9] at hf
      refine lv_iload hx hb dX9_inLeastTerms_9 (lv_at hl 5 rfl) ?_
      refine lv_bipush (v := 100) hx hb dX9_inLeastTerms_11 (by decide) ?_
      refine lv_icmp_ge (tgt := 44) hx hb dX9_inLeastTerms_13 (by decide) (fun c1 => ?_) (fun c1 => ?_)
      · replace hf := it_t c1 hf
        exact hk44 x5 _ _ _ hH (lv_sub hl [0, 1, 2, 3] rfl) hf
      · replace hf := it_f c1 hf
        refine lv_lload hx hb dX9_inLeastTerms_16 (lv_at hl 4 rfl) ?_
        refine lv_lconst (v := 0) hx hb dX9_inLeastTerms_18 (by decide) ?_
        refine W.lcmp hx hb dX9_inLeastTerms_19 ?_
        refine lv_if_eq (tgt := 44) hx hb dX9_inLeastTerms_20 (by decide) (fun c2 => ?_) (fun c2 => ?_)
        · replace hf := it_t c2 hf
          exact hk44 x5 _ _ _ hH (lv_sub hl [0, 1, 2, 3] rfl) hf
        · replace hf := it_f c2 hf
          refine lv_lload hx hb dX9_inLeastTerms_23 (lv_at hl 3 rfl) ?_
          refine lv_lload hx hb dX9_inLeastTerms_25 (lv_at hl 4 rfl) ?_
          obtain ⟨g3, hf⟩ := gd hf
          refine lv_lrem hx hb dX9_inLeastTerms_27 g3 ?_
          refine lv_topl (fun b4 eb4 => ?_)
          replace hf := bn eb4 hf
          refine lv_lstore (lv' := [(10, .long b4), (0, .long a0), (2, .long a2), (4, .int a4), (5, .long x5), (7, .long x7), (9, .int x9)]) hx hb dX9_inLeastTerms_28 hl (by decide) rfl (fun ls hl => ?_)
          refine lv_lload hx hb dX9_inLeastTerms_30 (lv_at hl 5 rfl) ?_
          refine lv_lstore (lv' := [(5, .long x7), (10, .long b4), (0, .long a0), (2, .long a2), (4, .int a4), (7, .long x7), (9, .int x9)]) hx hb dX9_inLeastTerms_32 hl (by decide) rfl (fun ls hl => ?_)
          refine lv_lload hx hb dX9_inLeastTerms_34 (lv_at hl 1 rfl) ?_
          refine lv_lstore (lv' := [(7, .long b4), (5, .long x7), (10, .long b4), (0, .long a0), (2, .long a2), (4, .int a4), (9, .int x9)]) hx hb dX9_inLeastTerms_36 hl (by decide) rfl (fun ls hl => ?_)
          refine lv_iinc (v := x9 + (1 : Int32)) (lv' := [(9, .int (x9 + (1 : Int32))), (7, .long b4), (5, .long x7), (10, .long b4), (0, .long a0), (2, .long a2), (4, .int a4)]) hx hb dX9_inLeastTerms_38 hl (k := 6) rfl rfl (by decide) rfl (fun ls hl => ?_)
          refine lv_goto (tgt := 9) hx hb dX9_inLeastTerms_41 (by decide) ?_
          exact hrec x7 b4 (x9 + (1 : Int32)) _ _ _ hH (lv_sub hl [4, 5, 6, 2, 1, 0] rfl) hf
  have kJ44 : ∀ (x5 : Int64) (H : Heap) (locs : List Loc) (ls : Array Slot), HW G A (CW G S) s H locs → lv_has ls 12 [(0, .long a0), (2, .long a2), (4, .int a4), (5, .long x5)] → f_X9_inLeastTerms_44 N a0 a2 a4 x5 = some q → W p l e ({ frames := 0, cells := 0, slots := 0, locals := 0 } : Room) s m [.long a0, .long a2, .int a4].toArray below meth c H locs 0 0 Qm (F0 m 44 ls []) := by
    intro x5 H locs ls hH hl hf
    rw [f_X9_inLeastTerms_44] at hf
    refine lv_lload hx hb dX9_inLeastTerms_44 (lv_at hl 3 rfl) ?_
    refine lv_lconst (v := 0) hx hb dX9_inLeastTerms_46 (by decide) ?_
    refine W.lcmp hx hb dX9_inLeastTerms_47 ?_
    refine lv_if_ne (tgt := 53) hx hb dX9_inLeastTerms_48 (by decide) (fun c6 => ?_) (fun c6 => ?_)
    · replace hf := it_f c6 hf
      refine lv_iload hx hb dX9_inLeastTerms_53 (lv_at hl 2 rfl) ?_
      refine lv_if_ne (tgt := 62) hx hb dX9_inLeastTerms_55 (by decide) (fun c7 => ?_) (fun c7 => ?_)
      · replace hf := it_f c7 hf
        refine lv_lload_n hx hb dX9_inLeastTerms_62 rfl (lv_at hl 1 rfl) ?_
        refine lv_lload hx hb dX9_inLeastTerms_63 (lv_at hl 3 rfl) ?_
        obtain ⟨g8, hf⟩ := gd hf
        refine lv_ldiv hx hb dX9_inLeastTerms_65 g8 ?_
        exact fin (a2 / x5) S _ _ _ _ (Option.some.inj hf) rfl hH dX9_inLeastTerms_66
      · replace hf := it_t c7 hf
        refine lv_lload_n hx hb dX9_inLeastTerms_58 rfl (lv_at hl 0 rfl) ?_
        refine lv_goto (tgt := 63) hx hb dX9_inLeastTerms_59 (by decide) ?_
        refine lv_lload hx hb dX9_inLeastTerms_63 (lv_at hl 3 rfl) ?_
        obtain ⟨g9, hf⟩ := gd hf
        refine lv_ldiv hx hb dX9_inLeastTerms_65 g9 ?_
        exact fin (a0 / x5) S _ _ _ _ (Option.some.inj hf) rfl hH dX9_inLeastTerms_66
    · replace hf := it_t c6 hf
      refine lv_lconst (v := 0) hx hb dX9_inLeastTerms_51 (by decide) ?_
      exact fin (0 : Int64) S _ _ _ _ (Option.some.inj hf) rfl hH dX9_inLeastTerms_52
  have hf := hf
  rw [f_X9_inLeastTerms] at hf
  refine lv_lload_n hx hb dX9_inLeastTerms_0 rfl (lv_at hl 1 rfl) ?_
  refine lv_lstore (lv' := [(5, .long a2), (0, .long a0), (2, .long a2), (4, .int a4)]) hx hb dX9_inLeastTerms_1 hl (by decide) rfl (fun ls hl => ?_)
  refine lv_lload_n hx hb dX9_inLeastTerms_3 rfl (lv_at hl 1 rfl) ?_
  refine lv_lstore (lv' := [(7, .long a0), (5, .long a2), (0, .long a0), (2, .long a2), (4, .int a4)]) hx hb dX9_inLeastTerms_4 hl (by decide) rfl (fun ls hl => ?_)
  refine lv_iconst (v := 0) hx hb dX9_inLeastTerms_6 (by decide) ?_
  refine lv_istore (lv' := [(9, .int (0 : Int32)), (7, .long a0), (5, .long a2), (0, .long a0), (2, .long a2), (4, .int a4)]) hx hb dX9_inLeastTerms_7 hl (by decide) rfl (fun ls hl => ?_)
  refine kL9 _ ?_ N a2 a0 (0 : Int32) _ _ _ hH (lv_sub hl [3, 4, 5, 2, 1, 0] rfl) hf
  intro y5 H locs ls hH hl hf
  exact kJ44  y5 _ _ _ hH (lv_sub hl [0, 1, 2, 3] rfl) hf
theorem in_X9_odds_X1 : ∀ w ∈ wsX10, w ∈ wsX9_odds := fun w h => List.mem_cons_of_mem _ (List.mem_append_left _ (List.mem_append_right _ h))
theorem in_X9_odds_X3 : ∀ w ∈ wsX30, w ∈ wsX9_odds := fun w h => List.mem_cons_of_mem _ (List.mem_append_left _ (List.mem_append_left _ (List.mem_append_left _ (List.mem_append_right _ h))))
theorem in_X9_odds_X4 : ∀ w ∈ wsX40, w ∈ wsX9_odds := fun w h => List.mem_cons_of_mem _ (List.mem_append_left _ (List.mem_append_left _ (List.mem_append_right _ h)))
theorem in_X9_odds_X7 : ∀ w ∈ wsX70, w ∈ wsX9_odds := fun w h => List.mem_cons_of_mem _ (List.mem_append_right _ h)
theorem in_X9_odds_X9 : ∀ w ∈ wsX90, w ∈ wsX9_odds := fun w h => List.mem_cons_of_mem _ (List.mem_append_left _ (List.mem_append_left _ (List.mem_append_left _ (List.mem_append_left _ (List.mem_append_right _ h)))))
set_option maxRecDepth 100000 in
set_option maxHeartbeats 4000000 in
theorem c_X9_odds (l : Launch) (G : Gt) (A : Nat → Prop) (N : Nat) (S : St)  (a1 : Int32) (a2 : Int32) (a3 : Int32) (q : Int64 × St) (hf : f_X9_odds N S a1 a2 a3 = some q) : Met l yX9_odds wsX9_odds ({ frames := 6, cells := 0, slots := 0, locals := 154 } : Room) (va_Pc [.ref (gC G 0), .int a1, .int a2, .int a3] (PK G A (CW G S))) (va_Ql (fun (r2 : Int64) S2 => r2 = q.1 ∧ S2 = q.2) (fun S2 : St => PK G A (CW G S2)) A) 0 0 A := by
  refine mstart_l (Wd := CW G) (cc := cX9_odds) (maxL := 4) (by decide) rfl (Nat.le_of_ble_eq_true rfl) (fun p e s m below meth c Qm ls hC hH hl fin => ?_)
  obtain ⟨hx, hb, hml, hown, hts⟩ := id hC.1
  have hl : lv_has ls 4 [(0, .ref (gC G 0)), (1, .int a1), (2, .int a2), (3, .int a3)] := hl
  have hf := hf
  rw [f_X9_odds] at hf
  refine lv_aload_n hx hb dX9_odds_0 rfl (lv_at hl 0 rfl) ?_
  refine getO hC hH (0) rfl rfl in_X9_odds_X9 9 (by decide) (index := 69) (List.mem_of_getElem? (i := 1) rfl) rfl dX9_odds_1 ?_
  refine lv_iload_n hx hb dX9_odds_4 rfl (lv_at hl 1 rfl) ?_
  obtain ⟨r1, hr1, hf⟩ := ob hf
  refine callV_i [.int a1] [] hC hH (c_X3_isRunner l G A S ((gCo S).toNat) (Bool.toNat_lt _) a1 _ hr1) (cwV 1 hts gX9_odds_X3_isRunner rfl rfl rfl (by decide +kernel) ⟨Nat.le_of_ble_eq_true rfl, Nat.le_of_ble_eq_true rfl⟩) (recvW hC hH (c0 := 33 + 5 * (gCo S).toNat) (ci := 3) (cw_lane (i := (gCo S).toNat) (Bool.toNat_lt _)) rfl) rfl hl.1 rfl (Nat.le_of_ble_eq_true rfl) dX9_odds_5 (fun H locs hH => ?_)
  refine lv_if_eq (tgt := 28) hx hb dX9_odds_8 (by decide) (fun c2 => ?_) (fun c2 => ?_)
  · replace hf := it_t c2 hf
    refine lv_ldc2 (v := -1) hx hb hown (hts (.constantLong RX9 224 (-1)) (List.mem_of_getElem? (i := 2) rfl)) dX9_odds_28 ?_
    exact fin (-1 : Int64) S _ _ _ _ (congrArg Prod.fst (Option.some.inj hf)) (congrArg Prod.snd (Option.some.inj hf)) hH dX9_odds_31
  · replace hf := it_f c2 hf
    refine lv_iload_n hx hb dX9_odds_11 rfl (lv_at hl 2 rfl) ?_
    refine lv_if_lt (tgt := 28) hx hb dX9_odds_12 (by decide) (fun c3 => ?_) (fun c3 => ?_)
    · replace hf := it_t c3 hf
      refine lv_ldc2 (v := -1) hx hb hown (hts (.constantLong RX9 224 (-1)) (List.mem_of_getElem? (i := 2) rfl)) dX9_odds_28 ?_
      exact fin (-1 : Int64) S _ _ _ _ (congrArg Prod.fst (Option.some.inj hf)) (congrArg Prod.snd (Option.some.inj hf)) hH dX9_odds_31
    · replace hf := it_f c3 hf
      refine lv_iload_n hx hb dX9_odds_15 rfl (lv_at hl 2 rfl) ?_
      refine lv_bipush (v := 24) hx hb dX9_odds_16 (by decide) ?_
      refine lv_icmp_gt (tgt := 28) hx hb dX9_odds_18 (by decide) (fun c4 => ?_) (fun c4 => ?_)
      · replace hf := it_t c4 hf
        refine lv_ldc2 (v := -1) hx hb hown (hts (.constantLong RX9 224 (-1)) (List.mem_of_getElem? (i := 2) rfl)) dX9_odds_28 ?_
        exact fin (-1 : Int64) S _ _ _ _ (congrArg Prod.fst (Option.some.inj hf)) (congrArg Prod.snd (Option.some.inj hf)) hH dX9_odds_31
      · replace hf := it_f c4 hf
        refine lv_iload_n hx hb dX9_odds_21 rfl (lv_at hl 3 rfl) ?_
        obtain ⟨r5, hr5, hf⟩ := ob hf
        refine callS_i [.int a3] [] hC hH (c_X9_isBit l G A S a3 _ hr5) (va_cwS 1 hts gX9_odds_X9_isBit rfl rfl rfl (by decide +kernel) ⟨Nat.le_of_ble_eq_true rfl, Nat.le_of_ble_eq_true rfl⟩) rfl hl.1 rfl (Nat.le_of_ble_eq_true rfl) dX9_odds_22 (fun H locs hH => ?_)
        refine lv_if_ne (tgt := 32) hx hb dX9_odds_25 (by decide) (fun c6 => ?_) (fun c6 => ?_)
        · replace hf := it_f c6 hf
          refine lv_aload_n hx hb dX9_odds_32 rfl (lv_at hl 0 rfl) ?_
          refine getO hC hH (0) rfl rfl in_X9_odds_X9 8 (by decide) (index := 62) (List.mem_of_getElem? (i := 3) rfl) rfl dX9_odds_33 ?_
          refine lv_aload_n hx hb dX9_odds_36 rfl (lv_at hl 0 rfl) ?_
          refine getO hC hH (0) rfl rfl in_X9_odds_X9 9 (by decide) (index := 69) (List.mem_of_getElem? (i := 1) rfl) rfl dX9_odds_37 ?_
          refine lv_iload_n hx hb dX9_odds_40 rfl (lv_at hl 1 rfl) ?_
          refine lv_aload_n hx hb dX9_odds_41 rfl (lv_at hl 0 rfl) ?_
          refine getO hC hH (0) rfl rfl in_X9_odds_X9 7 (by decide) (index := 55) (List.mem_of_getElem? (i := 4) rfl) rfl dX9_odds_42 ?_
          obtain ⟨r7, hr7, hf⟩ := ob hf
          refine callV_v [.ref (gC G (33 + 5 * (gCo S).toNat)), .int a1, .ref (gC G 26)] [] hC hH (c_X4_fill l G A N S ((gCo S).toNat) (Bool.toNat_lt _) a1 _ hr7) (cwV 3 hts gX9_odds_X4_fill rfl rfl rfl (by decide +kernel) ⟨Nat.le_of_ble_eq_true rfl, Nat.le_of_ble_eq_true rfl⟩) (recvW hC hH (c0 := 27) (ci := 4) rfl rfl) rfl hl.1 rfl (Nat.le_of_ble_eq_true rfl) dX9_odds_45 (fun H locs hH => ?_)
          refine lv_aload_n hx hb dX9_odds_48 rfl (lv_at hl 0 rfl) ?_
          refine lv_iload_n hx hb dX9_odds_49 rfl (lv_at hl 1 rfl) ?_
          refine lv_iload_n hx hb dX9_odds_50 rfl (lv_at hl 2 rfl) ?_
          obtain ⟨r8, hr8, hf⟩ := ob hf
          refine callV_l [.int a1, .int a2] [] hC hH (c_X9_oddsBy l G A r7 a1 a2 _ hr8) (cwV 2 hts gX9_odds_X9_oddsBy rfl rfl rfl (by decide +kernel) ⟨Nat.le_of_ble_eq_true rfl, Nat.le_of_ble_eq_true rfl⟩) (recvW hC hH (c0 := 0) (ci := 9) rfl rfl) rfl hl.1 rfl (Nat.le_of_ble_eq_true rfl) dX9_odds_51 (fun H locs hH => ?_)
          refine lv_ldc2 (v := 1000000000000) hx hb hown (hts (.constantLong RX9 234 (1000000000000)) (List.mem_of_getElem? (i := 5) rfl)) dX9_odds_54 ?_
          refine lv_iload_n hx hb dX9_odds_57 rfl (lv_at hl 3 rfl) ?_
          obtain ⟨r9, hr9, hf⟩ := ob hf
          refine callS_l [.long r8, .long (1000000000000 : Int64), .int a3] [] hC hH (c_X9_inLeastTerms l G A N r7 r8 (1000000000000 : Int64) a3 _ hr9) (va_cwS 3 hts gX9_odds_X9_inLeastTerms rfl rfl rfl (by decide +kernel) ⟨Nat.le_of_ble_eq_true rfl, Nat.le_of_ble_eq_true rfl⟩) rfl hl.1 rfl (Nat.le_of_ble_eq_true rfl) dX9_odds_58 (fun H locs hH => ?_)
          exact fin r9 r7 _ _ _ _ (congrArg Prod.fst (Option.some.inj hf)) (congrArg Prod.snd (Option.some.inj hf)) hH dX9_odds_61
        · replace hf := it_t c6 hf
          refine lv_ldc2 (v := -1) hx hb hown (hts (.constantLong RX9 224 (-1)) (List.mem_of_getElem? (i := 2) rfl)) dX9_odds_28 ?_
          exact fin (-1 : Int64) S _ _ _ _ (congrArg Prod.fst (Option.some.inj hf)) (congrArg Prod.snd (Option.some.inj hf)) hH dX9_odds_31
theorem in_X9_enough_X1 : ∀ w ∈ wsX10, w ∈ wsX9_enough := fun w h => List.mem_cons_of_mem _ (List.mem_append_left _ (List.mem_append_right _ h))
theorem in_X9_enough_X3 : ∀ w ∈ wsX30, w ∈ wsX9_enough := fun w h => List.mem_cons_of_mem _ (List.mem_append_left _ (List.mem_append_left _ (List.mem_append_left _ (List.mem_append_right _ h))))
theorem in_X9_enough_X4 : ∀ w ∈ wsX40, w ∈ wsX9_enough := fun w h => List.mem_cons_of_mem _ (List.mem_append_left _ (List.mem_append_left _ (List.mem_append_right _ h)))
theorem in_X9_enough_X7 : ∀ w ∈ wsX70, w ∈ wsX9_enough := fun w h => List.mem_cons_of_mem _ (List.mem_append_right _ h)
theorem in_X9_enough_X9 : ∀ w ∈ wsX90, w ∈ wsX9_enough := fun w h => List.mem_cons_of_mem _ (List.mem_append_left _ (List.mem_append_left _ (List.mem_append_left _ (List.mem_append_left _ (List.mem_append_right _ h)))))
set_option maxRecDepth 100000 in
set_option maxHeartbeats 4000000 in
theorem c_X9_enough (l : Launch) (G : Gt) (A : Nat → Prop) (N : Nat) (S : St)  (a1 : Int32) (a2 : Int32) (q : Int32 × St) (hf : f_X9_enough N S a1 a2 = some q) : Met l yX9_enough wsX9_enough ({ frames := 6, cells := 0, slots := 0, locals := 154 } : Room) (va_Pc [.ref (gC G 0), .int a1, .int a2] (PK G A (CW G S))) (va_Qi (fun (r2 : Int32) S2 => r2 = q.1 ∧ S2 = q.2) (fun S2 : St => PK G A (CW G S2)) A) 0 0 A := by
  refine mstart_i (Wd := CW G) (cc := cX9_enough) (maxL := 4) (by decide) rfl (Nat.le_of_ble_eq_true rfl) (fun p e s m below meth c Qm ls hC hH hl fin => ?_)
  obtain ⟨hx, hb, hml, hown, hts⟩ := id hC.1
  have hl : lv_has ls 4 [(0, .ref (gC G 0)), (1, .int a1), (2, .int a2)] := hl
  have kL41 : ∀ (n : Nat), ∀ (S : St) (x3 : Int32) (H : Heap) (locs : List Loc) (ls : Array Slot), HW G A (CW G S) s H locs → lv_has ls 4 [(0, .ref (gC G 0)), (1, .int a1), (2, .int a2), (3, .int x3)] → g_X9_enough_41 N a1 a2 n S x3 = some q → W p l e ({ frames := 6, cells := 0, slots := 0, locals := 154 } : Room) s m [.ref (gC G 0), .int a1, .int a2].toArray below meth c H locs 0 0 Qm (F0 m 41 ls []) := by
    intro n
    induction n with
    | zero => intro S x3 H locs ls hH hl hf; exact absurd hf.symm (Option.some_ne_none q)
    | succ n ih =>
      intro S x3 H locs ls hH hl hf
      have hrec := ih
      have hf : s_X9_enough_41 N a1 a2 (g_X9_enough_41 N a1 a2 n) S x3 = some q := hf
      rw [s_X9_enough_41] at hf
      refine lv_iload_n hx hb dX9_enough_41 rfl (lv_at hl 3 rfl) ?_
      refine lv_bipush (v := 24) hx hb dX9_enough_42 (by decide) ?_
      refine lv_icmp_gt (tgt := 75) hx hb dX9_enough_44 (by decide) (fun c6 => ?_) (fun c6 => ?_)
      · replace hf := it_t c6 hf
        refine lv_bipush (v := -9) hx hb dX9_enough_75 (by decide) ?_
        exact fin (-9 : Int32) S _ _ _ _ (congrArg Prod.fst (Option.some.inj hf)) (congrArg Prod.snd (Option.some.inj hf)) hH dX9_enough_77
      · replace hf := it_f c6 hf
        refine lv_aload_n hx hb dX9_enough_47 rfl (lv_at hl 0 rfl) ?_
        refine lv_iload_n hx hb dX9_enough_48 rfl (lv_at hl 1 rfl) ?_
        refine lv_iload_n hx hb dX9_enough_49 rfl (lv_at hl 3 rfl) ?_
        obtain ⟨r7, hr7, hf⟩ := ob hf
        refine callV_l [.int a1, .int x3] [] hC hH (c_X9_oddsBy l G A S a1 x3 _ hr7) (cwV 2 hts gX9_enough_X9_oddsBy rfl rfl rfl (by decide +kernel) ⟨Nat.le_of_ble_eq_true rfl, Nat.le_of_ble_eq_true rfl⟩) (recvW hC hH (c0 := 0) (ci := 9) rfl rfl) rfl hl.1 rfl (Nat.le_of_ble_eq_true rfl) dX9_enough_50 (fun H locs hH => ?_)
        refine lv_ldc2 (v := 10) hx hb hown (hts (.constantLong RX9 240 (10)) (List.mem_of_getElem? (i := 4) rfl)) dX9_enough_53 ?_
        refine lv_lmul hx hb dX9_enough_56 ?_
        refine lv_iload_n hx hb dX9_enough_57 rfl (lv_at hl 2 rfl) ?_
        refine lv_i2l hx hb dX9_enough_58 rfl ?_
        refine lv_ldc2 (v := 1000000000000) hx hb hown (hts (.constantLong RX9 234 (1000000000000)) (List.mem_of_getElem? (i := 5) rfl)) dX9_enough_59 ?_
        refine lv_lmul hx hb dX9_enough_62 ?_
        refine W.lcmp hx hb dX9_enough_63 ?_
        refine lv_if_lt (tgt := 69) hx hb dX9_enough_64 (by decide) (fun c8 => ?_) (fun c8 => ?_)
        · replace hf := it_t c8 hf
          refine lv_iinc (v := x3 + (1 : Int32)) (lv' := [(3, .int (x3 + (1 : Int32))), (0, .ref (gC G 0)), (1, .int a1), (2, .int a2)]) hx hb dX9_enough_69 hl (k := 3) rfl rfl (by decide) rfl (fun ls hl => ?_)
          refine lv_goto (tgt := 41) hx hb dX9_enough_72 (by decide) ?_
          exact hrec S (x3 + (1 : Int32)) _ _ _ hH (lv_sub hl [1, 2, 3, 0] rfl) hf
        · replace hf := it_f c8 hf
          refine lv_iload_n hx hb dX9_enough_67 rfl (lv_at hl 3 rfl) ?_
          exact fin x3 S _ _ _ _ (congrArg Prod.fst (Option.some.inj hf)) (congrArg Prod.snd (Option.some.inj hf)) hH dX9_enough_68
  have hf := hf
  rw [f_X9_enough] at hf
  refine lv_aload_n hx hb dX9_enough_0 rfl (lv_at hl 0 rfl) ?_
  refine getO hC hH (0) rfl rfl in_X9_enough_X9 9 (by decide) (index := 69) (List.mem_of_getElem? (i := 1) rfl) rfl dX9_enough_1 ?_
  refine lv_iload_n hx hb dX9_enough_4 rfl (lv_at hl 1 rfl) ?_
  obtain ⟨r1, hr1, hf⟩ := ob hf
  refine callV_i [.int a1] [] hC hH (c_X3_isRunner l G A S ((gCo S).toNat) (Bool.toNat_lt _) a1 _ hr1) (cwV 1 hts gX9_enough_X3_isRunner rfl rfl rfl (by decide +kernel) ⟨Nat.le_of_ble_eq_true rfl, Nat.le_of_ble_eq_true rfl⟩) (recvW hC hH (c0 := 33 + 5 * (gCo S).toNat) (ci := 3) (cw_lane (i := (gCo S).toNat) (Bool.toNat_lt _)) rfl) rfl hl.1 rfl (Nat.le_of_ble_eq_true rfl) dX9_enough_5 (fun H locs hH => ?_)
  refine lv_if_eq (tgt := 21) hx hb dX9_enough_8 (by decide) (fun c2 => ?_) (fun c2 => ?_)
  · replace hf := it_t c2 hf
    refine lv_iconst (v := -1) hx hb dX9_enough_21 (by decide) ?_
    exact fin (-1 : Int32) S _ _ _ _ (congrArg Prod.fst (Option.some.inj hf)) (congrArg Prod.snd (Option.some.inj hf)) hH dX9_enough_22
  · replace hf := it_f c2 hf
    refine lv_iload_n hx hb dX9_enough_11 rfl (lv_at hl 2 rfl) ?_
    refine lv_if_lt (tgt := 21) hx hb dX9_enough_12 (by decide) (fun c3 => ?_) (fun c3 => ?_)
    · replace hf := it_t c3 hf
      refine lv_iconst (v := -1) hx hb dX9_enough_21 (by decide) ?_
      exact fin (-1 : Int32) S _ _ _ _ (congrArg Prod.fst (Option.some.inj hf)) (congrArg Prod.snd (Option.some.inj hf)) hH dX9_enough_22
    · replace hf := it_f c3 hf
      refine lv_iload_n hx hb dX9_enough_15 rfl (lv_at hl 2 rfl) ?_
      refine lv_bipush (v := 10) hx hb dX9_enough_16 (by decide) ?_
      refine lv_icmp_le (tgt := 23) hx hb dX9_enough_18 (by decide) (fun c4 => ?_) (fun c4 => ?_)
      · replace hf := it_t c4 hf
        refine lv_aload_n hx hb dX9_enough_23 rfl (lv_at hl 0 rfl) ?_
        refine getO hC hH (0) rfl rfl in_X9_enough_X9 8 (by decide) (index := 62) (List.mem_of_getElem? (i := 2) rfl) rfl dX9_enough_24 ?_
        refine lv_aload_n hx hb dX9_enough_27 rfl (lv_at hl 0 rfl) ?_
        refine getO hC hH (0) rfl rfl in_X9_enough_X9 9 (by decide) (index := 69) (List.mem_of_getElem? (i := 1) rfl) rfl dX9_enough_28 ?_
        refine lv_iload_n hx hb dX9_enough_31 rfl (lv_at hl 1 rfl) ?_
        refine lv_aload_n hx hb dX9_enough_32 rfl (lv_at hl 0 rfl) ?_
        refine getO hC hH (0) rfl rfl in_X9_enough_X9 7 (by decide) (index := 55) (List.mem_of_getElem? (i := 3) rfl) rfl dX9_enough_33 ?_
        obtain ⟨r5, hr5, hf⟩ := ob hf
        refine callV_v [.ref (gC G (33 + 5 * (gCo S).toNat)), .int a1, .ref (gC G 26)] [] hC hH (c_X4_fill l G A N S ((gCo S).toNat) (Bool.toNat_lt _) a1 _ hr5) (cwV 3 hts gX9_enough_X4_fill rfl rfl rfl (by decide +kernel) ⟨Nat.le_of_ble_eq_true rfl, Nat.le_of_ble_eq_true rfl⟩) (recvW hC hH (c0 := 27) (ci := 4) rfl rfl) rfl hl.1 rfl (Nat.le_of_ble_eq_true rfl) dX9_enough_36 (fun H locs hH => ?_)
        refine lv_iconst (v := 0) hx hb dX9_enough_39 (by decide) ?_
        refine lv_istore_n (lv' := [(3, .int (0 : Int32)), (0, .ref (gC G 0)), (1, .int a1), (2, .int a2)]) hx hb dX9_enough_40 rfl hl (by decide) rfl (fun ls hl => ?_)
        refine kL41 N r5 (0 : Int32) _ _ _ hH (lv_sub hl [1, 2, 3, 0] rfl) hf
      · replace hf := it_f c4 hf
        refine lv_iconst (v := -1) hx hb dX9_enough_21 (by decide) ?_
        exact fin (-1 : Int32) S _ _ _ _ (congrArg Prod.fst (Option.some.inj hf)) (congrArg Prod.snd (Option.some.inj hf)) hH dX9_enough_22
theorem in_X9_picture_X5 : ∀ w ∈ wsX50, w ∈ wsX9_picture := fun w h => List.mem_cons_of_mem _ (List.mem_append_right _ h)
theorem in_X9_picture_X9 : ∀ w ∈ wsX90, w ∈ wsX9_picture := fun w h => List.mem_cons_of_mem _ (List.mem_append_left _ (List.mem_append_right _ h))
set_option maxRecDepth 100000 in
set_option maxHeartbeats 4000000 in
theorem c_X9_picture (l : Launch) (G : Gt) (A : Nat → Prop) (S : St)  (a1 : Int32) (a2 : Int32) (q : Int32 × St) (hf : f_X9_picture S a1 a2 = some q) : Met l yX9_picture wsX9_picture ({ frames := 1, cells := 0, slots := 0, locals := 22 } : Room) (va_Pc [.ref (gC G 0), .int a1, .int a2] (PK G A (CW G S))) (va_Qi (fun (r2 : Int32) S2 => r2 = q.1 ∧ S2 = q.2) (fun S2 : St => PK G A (CW G S2)) A) 0 0 A := by
  refine mstart_i (Wd := CW G) (cc := cX9_picture) (maxL := 3) (by decide) rfl (Nat.le_of_ble_eq_true rfl) (fun p e s m below meth c Qm ls hC hH hl fin => ?_)
  obtain ⟨hx, hb, hml, hown, hts⟩ := id hC.1
  have hl : lv_has ls 3 [(0, .ref (gC G 0)), (1, .int a1), (2, .int a2)] := hl
  have hf := hf
  rw [f_X9_picture] at hf
  refine lv_iload_n hx hb dX9_picture_0 rfl (lv_at hl 1 rfl) ?_
  refine lv_iconst (v := 1) hx hb dX9_picture_1 (by decide) ?_
  refine lv_icmp_lt (tgt := 20) hx hb dX9_picture_2 (by decide) (fun c1 => ?_) (fun c1 => ?_)
  · replace hf := it_t c1 hf
    refine lv_iconst (v := -1) hx hb dX9_picture_20 (by decide) ?_
    exact fin (-1 : Int32) S _ _ _ _ (congrArg Prod.fst (Option.some.inj hf)) (congrArg Prod.snd (Option.some.inj hf)) hH dX9_picture_21
  · replace hf := it_f c1 hf
    refine lv_iload_n hx hb dX9_picture_5 rfl (lv_at hl 1 rfl) ?_
    refine lv_bipush (v := 8) hx hb dX9_picture_6 (by decide) ?_
    refine lv_icmp_gt (tgt := 20) hx hb dX9_picture_8 (by decide) (fun c2 => ?_) (fun c2 => ?_)
    · replace hf := it_t c2 hf
      refine lv_iconst (v := -1) hx hb dX9_picture_20 (by decide) ?_
      exact fin (-1 : Int32) S _ _ _ _ (congrArg Prod.fst (Option.some.inj hf)) (congrArg Prod.snd (Option.some.inj hf)) hH dX9_picture_21
    · replace hf := it_f c2 hf
      refine lv_iload_n hx hb dX9_picture_11 rfl (lv_at hl 2 rfl) ?_
      refine lv_if_lt (tgt := 20) hx hb dX9_picture_12 (by decide) (fun c3 => ?_) (fun c3 => ?_)
      · replace hf := it_t c3 hf
        refine lv_iconst (v := -1) hx hb dX9_picture_20 (by decide) ?_
        exact fin (-1 : Int32) S _ _ _ _ (congrArg Prod.fst (Option.some.inj hf)) (congrArg Prod.snd (Option.some.inj hf)) hH dX9_picture_21
      · replace hf := it_f c3 hf
        refine lv_iload_n hx hb dX9_picture_15 rfl (lv_at hl 2 rfl) ?_
        refine lv_iconst (v := 3) hx hb dX9_picture_16 (by decide) ?_
        refine lv_icmp_le (tgt := 22) hx hb dX9_picture_17 (by decide) (fun c4 => ?_) (fun c4 => ?_)
        · replace hf := it_t c4 hf
          refine lv_aload_n hx hb dX9_picture_22 rfl (lv_at hl 0 rfl) ?_
          refine getO hC hH (0) rfl rfl in_X9_picture_X9 6 (by decide) (index := 48) (List.mem_of_getElem? (i := 1) rfl) rfl dX9_picture_23 ?_
          refine getN hC hH (23) rfl rfl in_X9_picture_X5 2 (by decide) (index := 104) (List.mem_of_getElem? (i := 7) rfl) rfl dX9_picture_26 ?_
          refine lv_bipush (v := 6) hx hb dX9_picture_29 (by decide) ?_
          refine lv_icmp_lt (tgt := 37) hx hb dX9_picture_31 (by decide) (fun c5 => ?_) (fun c5 => ?_)
          · replace hf := it_t c5 hf
            refine lv_aload_n hx hb dX9_picture_37 rfl (lv_at hl 0 rfl) ?_
            refine getO hC hH (0) rfl rfl in_X9_picture_X9 6 (by decide) (index := 48) (List.mem_of_getElem? (i := 1) rfl) rfl dX9_picture_38 ?_
            refine lv_iload_n hx hb dX9_picture_41 rfl (lv_at hl 1 rfl) ?_
            refine lv_iload_n hx hb dX9_picture_42 rfl (lv_at hl 2 rfl) ?_
            obtain ⟨r6, hr6, hf⟩ := ob hf
            refine callV_v [.int a1, .int a2] [] hC hH (c_X5_append l G A S a1 a2 _ hr6) (cwV 2 hts gX9_picture_X5_append rfl rfl rfl (by decide +kernel) ⟨Nat.le_of_ble_eq_true rfl, Nat.le_of_ble_eq_true rfl⟩) (recvW hC hH (c0 := 23) (ci := 5) rfl rfl) rfl hl.1 rfl (Nat.le_of_ble_eq_true rfl) dX9_picture_43 (fun H locs hH => ?_)
            refine lv_aload_n hx hb dX9_picture_46 rfl (lv_at hl 0 rfl) ?_
            refine getO hC hH (0) rfl rfl in_X9_picture_X9 6 (by decide) (index := 48) (List.mem_of_getElem? (i := 1) rfl) rfl dX9_picture_47 ?_
            refine getN hC hH (23) rfl rfl in_X9_picture_X5 2 (by decide) (index := 104) (List.mem_of_getElem? (i := 7) rfl) rfl dX9_picture_50 ?_
            exact fin (gI r6 23 2) r6 _ _ _ _ (congrArg Prod.fst (Option.some.inj hf)) (congrArg Prod.snd (Option.some.inj hf)) hH dX9_picture_53
          · replace hf := it_f c5 hf
            refine lv_bipush (v := -3) hx hb dX9_picture_34 (by decide) ?_
            exact fin (-3 : Int32) S _ _ _ _ (congrArg Prod.fst (Option.some.inj hf)) (congrArg Prod.snd (Option.some.inj hf)) hH dX9_picture_36
        · replace hf := it_f c4 hf
          refine lv_iconst (v := -1) hx hb dX9_picture_20 (by decide) ?_
          exact fin (-1 : Int32) S _ _ _ _ (congrArg Prod.fst (Option.some.inj hf)) (congrArg Prod.snd (Option.some.inj hf)) hH dX9_picture_21
theorem in_X9_forget_X5 : ∀ w ∈ wsX50, w ∈ wsX9_forget := fun w h => List.mem_cons_of_mem _ (List.mem_append_right _ h)
theorem in_X9_forget_X9 : ∀ w ∈ wsX90, w ∈ wsX9_forget := fun w h => List.mem_cons_of_mem _ (List.mem_append_left _ (List.mem_append_right _ h))
set_option maxRecDepth 100000 in
set_option maxHeartbeats 4000000 in
theorem c_X9_forget (l : Launch) (G : Gt) (A : Nat → Prop) (S : St)   (q : Int32 × St) (hf : f_X9_forget S = some q) : Met l yX9_forget wsX9_forget ({ frames := 0, cells := 0, slots := 0, locals := 0 } : Room) (va_Pc [.ref (gC G 0)] (PK G A (CW G S))) (va_Qi (fun (r2 : Int32) S2 => r2 = q.1 ∧ S2 = q.2) (fun S2 : St => PK G A (CW G S2)) A) 0 0 A := by
  refine mstart_i (Wd := CW G) (cc := cX9_forget) (maxL := 2) (by decide) rfl (Nat.le_of_ble_eq_true rfl) (fun p e s m below meth c Qm ls hC hH hl fin => ?_)
  obtain ⟨hx, hb, hml, hown, hts⟩ := id hC.1
  have hl : lv_has ls 2 [(0, .ref (gC G 0))] := hl
  have hf := hf
  rw [f_X9_forget] at hf
  refine lv_aload_n hx hb dX9_forget_0 rfl (lv_at hl 0 rfl) ?_
  refine getO hC hH (0) rfl rfl in_X9_forget_X9 6 (by decide) (index := 48) (List.mem_of_getElem? (i := 1) rfl) rfl dX9_forget_1 ?_
  refine getN hC hH (23) rfl rfl in_X9_forget_X5 2 (by decide) (index := 104) (List.mem_of_getElem? (i := 7) rfl) rfl dX9_forget_4 ?_
  refine lv_topi (fun b1 eb1 => ?_)
  replace hf := bn eb1 hf
  refine lv_istore_n (lv' := [(1, .int b1), (0, .ref (gC G 0))]) hx hb dX9_forget_7 rfl hl (by decide) rfl (fun ls hl => ?_)
  refine lv_aload_n hx hb dX9_forget_8 rfl (lv_at hl 1 rfl) ?_
  refine getO hC hH (0) rfl rfl in_X9_forget_X9 6 (by decide) (index := 48) (List.mem_of_getElem? (i := 1) rfl) rfl dX9_forget_9 ?_
  refine lv_iconst (v := 0) hx hb dX9_forget_12 (by decide) ?_
  refine putN hC hH (23) rfl rfl in_X9_forget_X5 tyX5 tyX5_ok nmX5 2 (by decide) (index := 104) (List.mem_of_getElem? (i := 7) rfl) rfl rfl rfl (Nat.le_of_ble_eq_true rfl) cs_23_2 dX9_forget_13 (fun H locs hH => ?_)
  obtain ⟨S2, eS2⟩ : ∃ Z : St, Z = sI S 23 2 (0 : Int32) := ⟨_, rfl⟩
  rw [← eS2] at hH
  replace hf := bn eS2 hf
  refine lv_iload_n hx hb dX9_forget_16 rfl (lv_at hl 0 rfl) ?_
  exact fin b1 S2 _ _ _ _ (congrArg Prod.fst (Option.some.inj hf)) (congrArg Prod.snd (Option.some.inj hf)) hH dX9_forget_17
theorem in_X9_could_X5 : ∀ w ∈ wsX50, w ∈ wsX9_could := fun w h => List.mem_cons_of_mem _ (List.mem_append_right _ h)
theorem in_X9_could_X9 : ∀ w ∈ wsX90, w ∈ wsX9_could := fun w h => List.mem_cons_of_mem _ (List.mem_append_left _ (List.mem_append_right _ h))
set_option maxRecDepth 100000 in
set_option maxHeartbeats 4000000 in
theorem c_X9_could (l : Launch) (G : Gt) (A : Nat → Prop) (N : Nat) (S : St)  (a1 : Int32) (q : Int32) (hf : f_X9_could N S a1 = some q) : Met l yX9_could wsX9_could ({ frames := 2, cells := 0, slots := 0, locals := 44 } : Room) (va_Pc [.ref (gC G 0), .int a1] (PK G A (CW G S))) (va_Qi (fun (r2 : Int32) S2 => r2 = q ∧ S2 = S) (fun S2 : St => PK G A (CW G S2)) A) 0 0 A := by
  refine mstart_i (Wd := CW G) (cc := cX9_could) (maxL := 5) (by decide) rfl (Nat.le_of_ble_eq_true rfl) (fun p e s m below meth c Qm ls hC hH hl fin => ?_)
  obtain ⟨hx, hb, hml, hown, hts⟩ := id hC.1
  have hl : lv_has ls 5 [(0, .ref (gC G 0)), (1, .int a1)] := hl
  have kL21 : ∀ (k63 : Int32 → Int32 → Option Int32) (hk63 : ∀ (x2 : Int32) (x3 : Int32) (H : Heap) (locs : List Loc) (ls : Array Slot), HW G A (CW G S) s H locs → lv_has ls 5 [(0, .ref (gC G 0)), (1, .int a1), (2, .int x2), (3, .int x3)] → k63 x2 x3 = some q → W p l e ({ frames := 2, cells := 0, slots := 0, locals := 44 } : Room) s m [.ref (gC G 0), .int a1].toArray below meth c H locs 0 0 Qm (F0 m 63 ls [])) , ∀ (n : Nat), ∀ (x2 : Int32) (x3 : Int32) (x4 : Int32) (H : Heap) (locs : List Loc) (ls : Array Slot), HW G A (CW G S) s H locs → lv_has ls 5 [(0, .ref (gC G 0)), (1, .int a1), (2, .int x2), (3, .int x3), (4, .int x4)] → g_X9_could_21 N S a1 k63 n x2 x3 x4 = some q → W p l e ({ frames := 2, cells := 0, slots := 0, locals := 44 } : Room) s m [.ref (gC G 0), .int a1].toArray below meth c H locs 0 0 Qm (F0 m 21 ls []) := by
    intro k63 hk63 n
    induction n with
    | zero => intro x2 x3 x4 H locs ls hH hl hf; exact absurd hf.symm (Option.some_ne_none q)
    | succ n ih =>
      intro x2 x3 x4 H locs ls hH hl hf
      have hrec := ih
      have hf : s_X9_could_21 N S a1 k63 (g_X9_could_21 N S a1 k63 n) x2 x3 x4 = some q := hf
      rw [s_X9_could_21] at hf
      refine lv_iload hx hb dX9_could_21 (lv_at hl 4 rfl) ?_
      refine lv_bipush (v := 7) hx hb dX9_could_23 (by decide) ?_
      refine lv_icmp_gt (tgt := 63) hx hb dX9_could_25 (by decide) (fun c4 => ?_) (fun c4 => ?_)
      · replace hf := it_t c4 hf
        exact hk63 x2 x3 _ _ _ hH (lv_sub hl [0, 1, 2, 3] rfl) hf
      · replace hf := it_f c4 hf
        refine lv_aload_n hx hb dX9_could_28 rfl (lv_at hl 0 rfl) ?_
        refine getO hC hH (0) rfl rfl in_X9_could_X9 6 (by decide) (index := 48) (List.mem_of_getElem? (i := 1) rfl) rfl dX9_could_29 ?_
        refine lv_iload_n hx hb dX9_could_32 rfl (lv_at hl 3 rfl) ?_
        refine lv_iload hx hb dX9_could_33 (lv_at hl 4 rfl) ?_
        obtain ⟨r5, hr5, hf⟩ := ob hf
        refine callV_i [.int x3, .int x4] [] hC hH (c_X5_allow l G A N S x3 x4 _ hr5) (cwV 2 hts gX9_could_X5_allow rfl rfl rfl (by decide +kernel) ⟨Nat.le_of_ble_eq_true rfl, Nat.le_of_ble_eq_true rfl⟩) (recvW hC hH (c0 := 23) (ci := 5) rfl rfl) rfl hl.1 rfl (Nat.le_of_ble_eq_true rfl) dX9_could_35 (fun H locs hH => ?_)
        refine lv_if_eq (tgt := 57) hx hb dX9_could_38 (by decide) (fun c6 => ?_) (fun c6 => ?_)
        · replace hf := it_t c6 hf
          refine lv_iinc (v := x4 + (1 : Int32)) (lv' := [(4, .int (x4 + (1 : Int32))), (0, .ref (gC G 0)), (1, .int a1), (2, .int x2), (3, .int x3)]) hx hb dX9_could_57 hl (k := 4) rfl rfl (by decide) rfl (fun ls hl => ?_)
          refine lv_goto (tgt := 21) hx hb dX9_could_60 (by decide) ?_
          exact hrec x2 x3 (x4 + (1 : Int32)) _ _ _ hH (lv_sub hl [1, 2, 3, 4, 0] rfl) hf
        · replace hf := it_f c6 hf
          refine lv_iload_n hx hb dX9_could_41 rfl (lv_at hl 1 rfl) ?_
          refine lv_if_eq (tgt := 54) hx hb dX9_could_42 (by decide) (fun c7 => ?_) (fun c7 => ?_)
          · replace hf := it_t c7 hf
            refine lv_iinc (v := x2 + (1 : Int32)) (lv' := [(2, .int (x2 + (1 : Int32))), (0, .ref (gC G 0)), (1, .int a1), (3, .int x3), (4, .int x4)]) hx hb dX9_could_54 hl (k := 2) rfl rfl (by decide) rfl (fun ls hl => ?_)
            refine lv_iinc (v := x4 + (1 : Int32)) (lv' := [(4, .int (x4 + (1 : Int32))), (2, .int (x2 + (1 : Int32))), (0, .ref (gC G 0)), (1, .int a1), (3, .int x3)]) hx hb dX9_could_57 hl (k := 4) rfl rfl (by decide) rfl (fun ls hl => ?_)
            refine lv_goto (tgt := 21) hx hb dX9_could_60 (by decide) ?_
            exact hrec (x2 + (1 : Int32)) x3 (x4 + (1 : Int32)) _ _ _ hH (lv_sub hl [2, 3, 1, 4, 0] rfl) hf
          · replace hf := it_f c7 hf
            refine lv_iload_n hx hb dX9_could_45 rfl (lv_at hl 3 rfl) ?_
            refine lv_iload hx hb dX9_could_46 (lv_at hl 4 rfl) ?_
            obtain ⟨r8, hr8, hf⟩ := ob hf
            refine callS_i [.int x3, .int x4] [] hC hH (c_X9_isTurned l G A S x3 x4 _ hr8) (va_cwS 2 hts gX9_could_X9_isTurned rfl rfl rfl (by decide +kernel) ⟨Nat.le_of_ble_eq_true rfl, Nat.le_of_ble_eq_true rfl⟩) rfl hl.1 rfl (Nat.le_of_ble_eq_true rfl) dX9_could_48 (fun H locs hH => ?_)
            refine lv_if_eq (tgt := 57) hx hb dX9_could_51 (by decide) (fun c9 => ?_) (fun c9 => ?_)
            · replace hf := it_t c9 hf
              refine lv_iinc (v := x4 + (1 : Int32)) (lv' := [(4, .int (x4 + (1 : Int32))), (0, .ref (gC G 0)), (1, .int a1), (2, .int x2), (3, .int x3)]) hx hb dX9_could_57 hl (k := 4) rfl rfl (by decide) rfl (fun ls hl => ?_)
              refine lv_goto (tgt := 21) hx hb dX9_could_60 (by decide) ?_
              exact hrec x2 x3 (x4 + (1 : Int32)) _ _ _ hH (lv_sub hl [1, 2, 3, 4, 0] rfl) hf
            · replace hf := it_f c9 hf
              refine lv_iinc (v := x2 + (1 : Int32)) (lv' := [(2, .int (x2 + (1 : Int32))), (0, .ref (gC G 0)), (1, .int a1), (3, .int x3), (4, .int x4)]) hx hb dX9_could_54 hl (k := 2) rfl rfl (by decide) rfl (fun ls hl => ?_)
              refine lv_iinc (v := x4 + (1 : Int32)) (lv' := [(4, .int (x4 + (1 : Int32))), (2, .int (x2 + (1 : Int32))), (0, .ref (gC G 0)), (1, .int a1), (3, .int x3)]) hx hb dX9_could_57 hl (k := 4) rfl rfl (by decide) rfl (fun ls hl => ?_)
              refine lv_goto (tgt := 21) hx hb dX9_could_60 (by decide) ?_
              exact hrec (x2 + (1 : Int32)) x3 (x4 + (1 : Int32)) _ _ _ hH (lv_sub hl [2, 3, 1, 4, 0] rfl) hf
  have kL13 : ∀ (n : Nat), ∀ (x2 : Int32) (x3 : Int32) (H : Heap) (locs : List Loc) (ls : Array Slot), HW G A (CW G S) s H locs → lv_has ls 5 [(0, .ref (gC G 0)), (1, .int a1), (2, .int x2), (3, .int x3)] → g_X9_could_13 N S a1 n x2 x3 = some q → W p l e ({ frames := 2, cells := 0, slots := 0, locals := 44 } : Room) s m [.ref (gC G 0), .int a1].toArray below meth c H locs 0 0 Qm (F0 m 13 ls []) := by
    intro n
    induction n with
    | zero => intro x2 x3 H locs ls hH hl hf; exact absurd hf.symm (Option.some_ne_none q)
    | succ n ih =>
      intro x2 x3 H locs ls hH hl hf
      have hrec := ih
      have hf : s_X9_could_13 N S a1 (g_X9_could_13 N S a1 n) x2 x3 = some q := hf
      rw [s_X9_could_13] at hf
      refine lv_iload_n hx hb dX9_could_13 rfl (lv_at hl 3 rfl) ?_
      refine lv_iconst (v := 4) hx hb dX9_could_14 (by decide) ?_
      refine lv_icmp_gt (tgt := 69) hx hb dX9_could_15 (by decide) (fun c3 => ?_) (fun c3 => ?_)
      · replace hf := it_t c3 hf
        refine lv_iload_n hx hb dX9_could_69 rfl (lv_at hl 2 rfl) ?_
        exact fin x2 S _ _ _ _ (Option.some.inj hf) rfl hH dX9_could_70
      · replace hf := it_f c3 hf
        refine lv_iconst (v := 0) hx hb dX9_could_18 (by decide) ?_
        refine lv_istore (lv' := [(4, .int (0 : Int32)), (0, .ref (gC G 0)), (1, .int a1), (2, .int x2), (3, .int x3)]) hx hb dX9_could_19 hl (by decide) rfl (fun ls hl => ?_)
        refine kL21 _ ?_ N x2 x3 (0 : Int32) _ _ _ hH (lv_sub hl [1, 2, 3, 4, 0] rfl) hf
        intro y10 y11 H locs ls hH hl hf
        refine lv_iinc (v := y11 + (1 : Int32)) (lv' := [(3, .int (y11 + (1 : Int32))), (0, .ref (gC G 0)), (1, .int a1), (2, .int y10)]) hx hb dX9_could_63 hl (k := 3) rfl rfl (by decide) rfl (fun ls hl => ?_)
        refine lv_goto (tgt := 13) hx hb dX9_could_66 (by decide) ?_
        exact hrec y10 (y11 + (1 : Int32)) _ _ _ hH (lv_sub hl [1, 2, 3, 0] rfl) hf
  have hf := hf
  rw [f_X9_could] at hf
  refine lv_iload_n hx hb dX9_could_0 rfl (lv_at hl 1 rfl) ?_
  obtain ⟨r1, hr1, hf⟩ := ob hf
  refine callS_i [.int a1] [] hC hH (c_X9_isBit l G A S a1 _ hr1) (va_cwS 1 hts gX9_could_X9_isBit rfl rfl rfl (by decide +kernel) ⟨Nat.le_of_ble_eq_true rfl, Nat.le_of_ble_eq_true rfl⟩) rfl hl.1 rfl (Nat.le_of_ble_eq_true rfl) dX9_could_1 (fun H locs hH => ?_)
  refine lv_if_ne (tgt := 9) hx hb dX9_could_4 (by decide) (fun c2 => ?_) (fun c2 => ?_)
  · replace hf := it_f c2 hf
    refine lv_iconst (v := 0) hx hb dX9_could_9 (by decide) ?_
    refine lv_istore_n (lv' := [(2, .int (0 : Int32)), (0, .ref (gC G 0)), (1, .int a1)]) hx hb dX9_could_10 rfl hl (by decide) rfl (fun ls hl => ?_)
    refine lv_iconst (v := 1) hx hb dX9_could_11 (by decide) ?_
    refine lv_istore_n (lv' := [(3, .int (1 : Int32)), (2, .int (0 : Int32)), (0, .ref (gC G 0)), (1, .int a1)]) hx hb dX9_could_12 rfl hl (by decide) rfl (fun ls hl => ?_)
    refine kL13 N (0 : Int32) (1 : Int32) _ _ _ hH (lv_sub hl [2, 3, 1, 0] rfl) hf
  · replace hf := it_t c2 hf
    refine lv_iconst (v := -1) hx hb dX9_could_7 (by decide) ?_
    exact fin (-1 : Int32) S _ _ _ _ (Option.some.inj hf) rfl hH dX9_could_8
set_option maxRecDepth 100000 in
set_option maxHeartbeats 4000000 in
theorem c_X9_isClock (l : Launch) (G : Gt) (A : Nat → Prop) (S : St)  (a0 : Int32) (a1 : Int32) (q : Int32) (hf : f_X9_isClock a0 a1 = some q) : Met l yX9_isClock wsX9_isClock ({ frames := 0, cells := 0, slots := 0, locals := 0 } : Room) (va_Pc [.int a0, .int a1] (PK G A (CW G S))) (va_Qi (fun (r2 : Int32) S2 => r2 = q ∧ S2 = S) (fun S2 : St => PK G A (CW G S2)) A) 0 0 A := by
  refine mstart_z (ty := .boolean) (Wd := CW G) (cc := cX9_isClock) (maxL := 2) (by decide) rfl (Nat.le_of_ble_eq_true rfl) (fun p e s m below meth c Qm ls hC hH hl fin => ?_)
  obtain ⟨hx, hb, hml, hown, hts⟩ := id hC.1
  have hl : lv_has ls 2 [(0, .int a0), (1, .int a1)] := hl
  have hf := hf
  rw [f_X9_isClock] at hf
  refine lv_iload_n hx hb dX9_isClock_0 rfl (lv_at hl 0 rfl) ?_
  refine lv_if_lt (tgt := 25) hx hb dX9_isClock_1 (by decide) (fun c1 => ?_) (fun c1 => ?_)
  · replace hf := it_t c1 hf
    refine lv_iconst (v := 0) hx hb dX9_isClock_25 (by decide) ?_
    exact fin (0 : Int32) S _ _ _ _ rfl (Option.some.inj hf) rfl hH dX9_isClock_26
  · replace hf := it_f c1 hf
    refine lv_iload_n hx hb dX9_isClock_4 rfl (lv_at hl 0 rfl) ?_
    refine lv_sipush (v := 999) hx hb dX9_isClock_5 (by decide) ?_
    refine lv_icmp_gt (tgt := 25) hx hb dX9_isClock_8 (by decide) (fun c2 => ?_) (fun c2 => ?_)
    · replace hf := it_t c2 hf
      refine lv_iconst (v := 0) hx hb dX9_isClock_25 (by decide) ?_
      exact fin (0 : Int32) S _ _ _ _ rfl (Option.some.inj hf) rfl hH dX9_isClock_26
    · replace hf := it_f c2 hf
      refine lv_iload_n hx hb dX9_isClock_11 rfl (lv_at hl 1 rfl) ?_
      refine lv_if_lt (tgt := 25) hx hb dX9_isClock_12 (by decide) (fun c3 => ?_) (fun c3 => ?_)
      · replace hf := it_t c3 hf
        refine lv_iconst (v := 0) hx hb dX9_isClock_25 (by decide) ?_
        exact fin (0 : Int32) S _ _ _ _ rfl (Option.some.inj hf) rfl hH dX9_isClock_26
      · replace hf := it_f c3 hf
        refine lv_iload_n hx hb dX9_isClock_15 rfl (lv_at hl 1 rfl) ?_
        refine lv_bipush (v := 99) hx hb dX9_isClock_16 (by decide) ?_
        refine lv_icmp_gt (tgt := 25) hx hb dX9_isClock_18 (by decide) (fun c4 => ?_) (fun c4 => ?_)
        · replace hf := it_t c4 hf
          refine lv_iconst (v := 0) hx hb dX9_isClock_25 (by decide) ?_
          exact fin (0 : Int32) S _ _ _ _ rfl (Option.some.inj hf) rfl hH dX9_isClock_26
        · replace hf := it_f c4 hf
          refine lv_iconst (v := 1) hx hb dX9_isClock_21 (by decide) ?_
          refine lv_goto (tgt := 26) hx hb dX9_isClock_22 (by decide) ?_
          exact fin (1 : Int32) S _ _ _ _ rfl (Option.some.inj hf) rfl hH dX9_isClock_26
