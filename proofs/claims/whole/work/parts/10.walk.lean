/-! walks: X0_loseOldest X7_yardOf X7_beatsOf X7_goodOf X0_remember X7_put X0_takeBackLast X9_quarters X9_isTurned X1_leastTurnOver X9_beatsInAir X3_paceOf X3_yardOnRun X3_yardAfter X3_windAt X3_comesDown X3_panOf X3_isYard X3_isWet -/
theorem in_X0_loseOldest_X0 : ∀ w ∈ wsX00, w ∈ wsX0_loseOldest := fun w h => List.mem_cons_of_mem _ (List.mem_append_right _ h)
set_option maxRecDepth 100000 in
set_option maxHeartbeats 4000000 in
theorem c_X0_loseOldest (l : Launch) (G : Gt) (A : Nat → Prop) (N : Nat) (S : St)   (q : St) (hf : f_X0_loseOldest N S = some q) : Met l yX0_loseOldest wsX0_loseOldest ({ frames := 0, cells := 0, slots := 0, locals := 0 } : Room) (va_Pc [.ref (gC G 18)] (PK G A (CW G S))) (va_Qv (fun S2 => S2 = q) (fun S2 : St => PK G A (CW G S2)) A) 0 0 A := by
  refine mstart_v (Wd := CW G) (cc := cX0_loseOldest) (maxL := 2) (by decide) rfl (Nat.le_of_ble_eq_true rfl) (fun p e s m below meth c Qm ls hC hH hl fin => ?_)
  obtain ⟨hx, hb, hml, hown, hts⟩ := id hC.1
  have hl : lv_has ls 2 [(0, .ref (gC G 18))] := hl
  have kL2 : ∀ (k70 : St → Option St) (hk70 : ∀ (S : St) (H : Heap) (locs : List Loc) (ls : Array Slot), HW G A (CW G S) s H locs → lv_has ls 2 [(0, .ref (gC G 18))] → k70 S = some q → W p l e ({ frames := 0, cells := 0, slots := 0, locals := 0 } : Room) s m [.ref (gC G 18)].toArray below meth c H locs 0 0 Qm (F0 m 70 ls [])) , ∀ (n : Nat), ∀ (S : St) (x1 : Int32) (H : Heap) (locs : List Loc) (ls : Array Slot), HW G A (CW G S) s H locs → lv_has ls 2 [(0, .ref (gC G 18)), (1, .int x1)] → g_X0_loseOldest_2 N k70 n S x1 = some q → W p l e ({ frames := 0, cells := 0, slots := 0, locals := 0 } : Room) s m [.ref (gC G 18)].toArray below meth c H locs 0 0 Qm (F0 m 2 ls []) := by
    intro k70 hk70 n
    induction n with
    | zero => intro S x1 H locs ls hH hl hf; exact absurd hf.symm (Option.some_ne_none q)
    | succ n ih =>
      intro S x1 H locs ls hH hl hf
      have hrec := ih
      have hf : s_X0_loseOldest_2 N k70 (g_X0_loseOldest_2 N k70 n) S x1 = some q := hf
      rw [s_X0_loseOldest_2] at hf
      refine lv_iload_n hx hb dX0_loseOldest_2 rfl (lv_at hl 1 rfl) ?_
      refine lv_bipush (v := 10) hx hb dX0_loseOldest_3 (by decide) ?_
      refine lv_icmp_ge (tgt := 70) hx hb dX0_loseOldest_5 (by decide) (fun c1 => ?_) (fun c1 => ?_)
      · replace hf := it_t c1 hf
        exact hk70 S _ _ _ hH (lv_sub hl [0] rfl) hf
      · replace hf := it_f c1 hf
        refine lv_aload_n hx hb dX0_loseOldest_8 rfl (lv_at hl 0 rfl) ?_
        refine getO hC hH (18) rfl rfl in_X0_loseOldest_X0 0 (by decide) (index := 9) (List.mem_of_getElem? (i := 1) rfl) rfl dX0_loseOldest_9 ?_
        refine lv_iload_n hx hb dX0_loseOldest_12 rfl (lv_at hl 1 rfl) ?_
        refine lv_iconst (v := 1) hx hb dX0_loseOldest_13 (by decide) ?_
        refine lv_isub hx hb dX0_loseOldest_14 ?_
        refine lv_aload_n hx hb dX0_loseOldest_15 rfl (lv_at hl 0 rfl) ?_
        refine getO hC hH (18) rfl rfl in_X0_loseOldest_X0 0 (by decide) (index := 9) (List.mem_of_getElem? (i := 1) rfl) rfl dX0_loseOldest_16 ?_
        refine lv_iload_n hx hb dX0_loseOldest_19 rfl (lv_at hl 1 rfl) ?_
        obtain ⟨g2, hf⟩ := gd hf
        refine aldI hC hH (19) rfl g2 dX0_loseOldest_20 ?_
        obtain ⟨g3, hf⟩ := gd hf
        refine astI hC hH (19) rfl g3 ct_19 dX0_loseOldest_21 (fun H locs hH => ?_)
        obtain ⟨S4, eS4⟩ : ∃ Z : St, Z = sA S 19 (upd (gA S 19) (x1 - (1 : Int32)).toNatClampNeg (gA S 19 x1.toNatClampNeg)) := ⟨_, rfl⟩
        rw [← eS4] at hH
        replace hf := bn eS4 hf
        refine lv_aload_n hx hb dX0_loseOldest_22 rfl (lv_at hl 0 rfl) ?_
        refine getO hC hH (18) rfl rfl in_X0_loseOldest_X0 1 (by decide) (index := 13) (List.mem_of_getElem? (i := 2) rfl) rfl dX0_loseOldest_23 ?_
        refine lv_iload_n hx hb dX0_loseOldest_26 rfl (lv_at hl 1 rfl) ?_
        refine lv_iconst (v := 1) hx hb dX0_loseOldest_27 (by decide) ?_
        refine lv_isub hx hb dX0_loseOldest_28 ?_
        refine lv_aload_n hx hb dX0_loseOldest_29 rfl (lv_at hl 0 rfl) ?_
        refine getO hC hH (18) rfl rfl in_X0_loseOldest_X0 1 (by decide) (index := 13) (List.mem_of_getElem? (i := 2) rfl) rfl dX0_loseOldest_30 ?_
        refine lv_iload_n hx hb dX0_loseOldest_33 rfl (lv_at hl 1 rfl) ?_
        obtain ⟨g5, hf⟩ := gd hf
        refine aldI hC hH (20) rfl g5 dX0_loseOldest_34 ?_
        obtain ⟨g6, hf⟩ := gd hf
        refine astI hC hH (20) rfl g6 ct_20 dX0_loseOldest_35 (fun H locs hH => ?_)
        obtain ⟨S7, eS7⟩ : ∃ Z : St, Z = sA S4 20 (upd (gA S4 20) (x1 - (1 : Int32)).toNatClampNeg (gA S4 20 x1.toNatClampNeg)) := ⟨_, rfl⟩
        rw [← eS7] at hH
        replace hf := bn eS7 hf
        refine lv_aload_n hx hb dX0_loseOldest_36 rfl (lv_at hl 0 rfl) ?_
        refine getO hC hH (18) rfl rfl in_X0_loseOldest_X0 2 (by decide) (index := 16) (List.mem_of_getElem? (i := 3) rfl) rfl dX0_loseOldest_37 ?_
        refine lv_iload_n hx hb dX0_loseOldest_40 rfl (lv_at hl 1 rfl) ?_
        refine lv_iconst (v := 1) hx hb dX0_loseOldest_41 (by decide) ?_
        refine lv_isub hx hb dX0_loseOldest_42 ?_
        refine lv_aload_n hx hb dX0_loseOldest_43 rfl (lv_at hl 0 rfl) ?_
        refine getO hC hH (18) rfl rfl in_X0_loseOldest_X0 2 (by decide) (index := 16) (List.mem_of_getElem? (i := 3) rfl) rfl dX0_loseOldest_44 ?_
        refine lv_iload_n hx hb dX0_loseOldest_47 rfl (lv_at hl 1 rfl) ?_
        obtain ⟨g8, hf⟩ := gd hf
        refine aldI hC hH (21) rfl g8 dX0_loseOldest_48 ?_
        obtain ⟨g9, hf⟩ := gd hf
        refine astI hC hH (21) rfl g9 ct_21 dX0_loseOldest_49 (fun H locs hH => ?_)
        obtain ⟨S10, eS10⟩ : ∃ Z : St, Z = sA S7 21 (upd (gA S7 21) (x1 - (1 : Int32)).toNatClampNeg (gA S7 21 x1.toNatClampNeg)) := ⟨_, rfl⟩
        rw [← eS10] at hH
        replace hf := bn eS10 hf
        refine lv_aload_n hx hb dX0_loseOldest_50 rfl (lv_at hl 0 rfl) ?_
        refine getO hC hH (18) rfl rfl in_X0_loseOldest_X0 3 (by decide) (index := 19) (List.mem_of_getElem? (i := 4) rfl) rfl dX0_loseOldest_51 ?_
        refine lv_iload_n hx hb dX0_loseOldest_54 rfl (lv_at hl 1 rfl) ?_
        refine lv_iconst (v := 1) hx hb dX0_loseOldest_55 (by decide) ?_
        refine lv_isub hx hb dX0_loseOldest_56 ?_
        refine lv_aload_n hx hb dX0_loseOldest_57 rfl (lv_at hl 0 rfl) ?_
        refine getO hC hH (18) rfl rfl in_X0_loseOldest_X0 3 (by decide) (index := 19) (List.mem_of_getElem? (i := 4) rfl) rfl dX0_loseOldest_58 ?_
        refine lv_iload_n hx hb dX0_loseOldest_61 rfl (lv_at hl 1 rfl) ?_
        obtain ⟨g11, hf⟩ := gd hf
        refine aldI hC hH (22) rfl g11 dX0_loseOldest_62 ?_
        obtain ⟨g12, hf⟩ := gd hf
        refine astI hC hH (22) rfl g12 ct_22 dX0_loseOldest_63 (fun H locs hH => ?_)
        obtain ⟨S13, eS13⟩ : ∃ Z : St, Z = sA S10 22 (upd (gA S10 22) (x1 - (1 : Int32)).toNatClampNeg (gA S10 22 x1.toNatClampNeg)) := ⟨_, rfl⟩
        rw [← eS13] at hH
        replace hf := bn eS13 hf
        refine lv_iinc (v := x1 + (1 : Int32)) (lv' := [(1, .int (x1 + (1 : Int32))), (0, .ref (gC G 18))]) hx hb dX0_loseOldest_64 hl (k := 1) rfl rfl (by decide) rfl (fun ls hl => ?_)
        refine lv_goto (tgt := 2) hx hb dX0_loseOldest_67 (by decide) ?_
        exact hrec S13 (x1 + (1 : Int32)) _ _ _ hH (lv_sub hl [1, 0] rfl) hf
  have hf := hf
  rw [f_X0_loseOldest] at hf
  refine lv_iconst (v := 1) hx hb dX0_loseOldest_0 (by decide) ?_
  refine lv_istore_n (lv' := [(1, .int (1 : Int32)), (0, .ref (gC G 18))]) hx hb dX0_loseOldest_1 rfl hl (by decide) rfl (fun ls hl => ?_)
  refine kL2 _ ?_ N S (1 : Int32) _ _ _ hH (lv_sub hl [1, 0] rfl) hf
  intro S14 H locs ls hH hl hf
  refine lv_aload_n hx hb dX0_loseOldest_70 rfl (lv_at hl 0 rfl) ?_
  refine lv_bipush (v := 9) hx hb dX0_loseOldest_71 (by decide) ?_
  refine putO hC hH (18) rfl rfl in_X0_loseOldest_X0 tyX0 tyX0_ok nmX0 4 (by decide) (index := 22) (List.mem_of_getElem? (i := 5) rfl) rfl rfl rfl (Nat.le_of_ble_eq_true rfl) cs_18_4 dX0_loseOldest_73 (fun H locs hH => ?_)
  obtain ⟨S15, eS15⟩ : ∃ Z : St, Z = sI S14 18 4 (9 : Int32) := ⟨_, rfl⟩
  rw [← eS15] at hH
  replace hf := bn eS15 hf
  exact fin S15 _ _ _ _ (Option.some.inj hf) hH dX0_loseOldest_76
theorem in_X7_yardOf_X7 : ∀ w ∈ wsX70, w ∈ wsX7_yardOf := fun w h => List.mem_cons_of_mem _ (List.mem_append_right _ h)
set_option maxRecDepth 100000 in
set_option maxHeartbeats 4000000 in
theorem c_X7_yardOf (l : Launch) (G : Gt) (A : Nat → Prop) (S : St) (i : Nat) (hi : i < 3) (a1 : Int32) (q : Int32) (hf : f_X7_yardOf S i a1 = some q) : Met l yX7_yardOf wsX7_yardOf ({ frames := 0, cells := 0, slots := 0, locals := 0 } : Room) (va_Pc [.ref (gC G (4 + 5 * i)), .int a1] (PK G A (CW G S))) (va_Qi (fun (r2 : Int32) S2 => r2 = q ∧ S2 = S) (fun S2 : St => PK G A (CW G S2)) A) 0 0 A := by
  refine mstart_i (Wd := CW G) (cc := cX7_yardOf) (maxL := 2) (by decide) rfl (Nat.le_of_ble_eq_true rfl) (fun p e s m below meth c Qm ls hC hH hl fin => ?_)
  obtain ⟨hx, hb, hml, hown, hts⟩ := id hC.1
  have hl : lv_has ls 2 [(0, .ref (gC G (4 + 5 * i))), (1, .int a1)] := hl
  have hf := hf
  rw [f_X7_yardOf] at hf
  refine lv_iload_n hx hb dX7_yardOf_0 rfl (lv_at hl 1 rfl) ?_
  refine lv_if_lt (tgt := 22) hx hb dX7_yardOf_1 (by decide) (fun c1 => ?_) (fun c1 => ?_)
  · replace hf := it_t c1 hf
    refine lv_iconst (v := 0) hx hb dX7_yardOf_22 (by decide) ?_
    exact fin (0 : Int32) S _ _ _ _ (Option.some.inj hf) rfl hH dX7_yardOf_23
  · replace hf := it_f c1 hf
    refine lv_iload_n hx hb dX7_yardOf_4 rfl (lv_at hl 1 rfl) ?_
    refine lv_aload_n hx hb dX7_yardOf_5 rfl (lv_at hl 0 rfl) ?_
    refine getO hC hH (4 + 5 * i) (cw_runs (i := i) hi) rfl in_X7_yardOf_X7 0 (by decide) (index := 9) (List.mem_of_getElem? (i := 1) rfl) rfl dX7_yardOf_6 ?_
    refine alen hC hH (5 + 5 * i) 0 (cw_yard (i := i) hi) rfl (v := 3) rfl dX7_yardOf_9 ?_
    refine lv_icmp_ge (tgt := 22) hx hb dX7_yardOf_10 (by decide) (fun c2 => ?_) (fun c2 => ?_)
    · replace hf := it_t c2 hf
      refine lv_iconst (v := 0) hx hb dX7_yardOf_22 (by decide) ?_
      exact fin (0 : Int32) S _ _ _ _ (Option.some.inj hf) rfl hH dX7_yardOf_23
    · replace hf := it_f c2 hf
      refine lv_aload_n hx hb dX7_yardOf_13 rfl (lv_at hl 0 rfl) ?_
      refine getO hC hH (4 + 5 * i) (cw_runs (i := i) hi) rfl in_X7_yardOf_X7 0 (by decide) (index := 9) (List.mem_of_getElem? (i := 1) rfl) rfl dX7_yardOf_14 ?_
      refine lv_iload_n hx hb dX7_yardOf_17 rfl (lv_at hl 1 rfl) ?_
      obtain ⟨g3, hf⟩ := gd hf
      refine aldI hC hH (5 + 5 * i) (cw_yard (i := i) hi) g3 dX7_yardOf_18 ?_
      refine lv_goto (tgt := 23) hx hb dX7_yardOf_19 (by decide) ?_
      exact fin (gA S (5 + 5 * i) a1.toNatClampNeg) S _ _ _ _ (Option.some.inj hf) rfl hH dX7_yardOf_23
theorem in_X7_beatsOf_X7 : ∀ w ∈ wsX70, w ∈ wsX7_beatsOf := fun w h => List.mem_cons_of_mem _ (List.mem_append_right _ h)
set_option maxRecDepth 100000 in
set_option maxHeartbeats 4000000 in
theorem c_X7_beatsOf (l : Launch) (G : Gt) (A : Nat → Prop) (S : St) (i : Nat) (hi : i < 3) (a1 : Int32) (q : Int32) (hf : f_X7_beatsOf S i a1 = some q) : Met l yX7_beatsOf wsX7_beatsOf ({ frames := 0, cells := 0, slots := 0, locals := 0 } : Room) (va_Pc [.ref (gC G (4 + 5 * i)), .int a1] (PK G A (CW G S))) (va_Qi (fun (r2 : Int32) S2 => r2 = q ∧ S2 = S) (fun S2 : St => PK G A (CW G S2)) A) 0 0 A := by
  refine mstart_i (Wd := CW G) (cc := cX7_beatsOf) (maxL := 2) (by decide) rfl (Nat.le_of_ble_eq_true rfl) (fun p e s m below meth c Qm ls hC hH hl fin => ?_)
  obtain ⟨hx, hb, hml, hown, hts⟩ := id hC.1
  have hl : lv_has ls 2 [(0, .ref (gC G (4 + 5 * i))), (1, .int a1)] := hl
  have hf := hf
  rw [f_X7_beatsOf] at hf
  refine lv_iload_n hx hb dX7_beatsOf_0 rfl (lv_at hl 1 rfl) ?_
  refine lv_if_lt (tgt := 22) hx hb dX7_beatsOf_1 (by decide) (fun c1 => ?_) (fun c1 => ?_)
  · replace hf := it_t c1 hf
    refine lv_iconst (v := 0) hx hb dX7_beatsOf_22 (by decide) ?_
    exact fin (0 : Int32) S _ _ _ _ (Option.some.inj hf) rfl hH dX7_beatsOf_23
  · replace hf := it_f c1 hf
    refine lv_iload_n hx hb dX7_beatsOf_4 rfl (lv_at hl 1 rfl) ?_
    refine lv_aload_n hx hb dX7_beatsOf_5 rfl (lv_at hl 0 rfl) ?_
    refine getO hC hH (4 + 5 * i) (cw_runs (i := i) hi) rfl in_X7_beatsOf_X7 1 (by decide) (index := 15) (List.mem_of_getElem? (i := 1) rfl) rfl dX7_beatsOf_6 ?_
    refine alen hC hH (6 + 5 * i) 0 (cw_beats (i := i) hi) rfl (v := 3) rfl dX7_beatsOf_9 ?_
    refine lv_icmp_ge (tgt := 22) hx hb dX7_beatsOf_10 (by decide) (fun c2 => ?_) (fun c2 => ?_)
    · replace hf := it_t c2 hf
      refine lv_iconst (v := 0) hx hb dX7_beatsOf_22 (by decide) ?_
      exact fin (0 : Int32) S _ _ _ _ (Option.some.inj hf) rfl hH dX7_beatsOf_23
    · replace hf := it_f c2 hf
      refine lv_aload_n hx hb dX7_beatsOf_13 rfl (lv_at hl 0 rfl) ?_
      refine getO hC hH (4 + 5 * i) (cw_runs (i := i) hi) rfl in_X7_beatsOf_X7 1 (by decide) (index := 15) (List.mem_of_getElem? (i := 1) rfl) rfl dX7_beatsOf_14 ?_
      refine lv_iload_n hx hb dX7_beatsOf_17 rfl (lv_at hl 1 rfl) ?_
      obtain ⟨g3, hf⟩ := gd hf
      refine aldI hC hH (6 + 5 * i) (cw_beats (i := i) hi) g3 dX7_beatsOf_18 ?_
      refine lv_goto (tgt := 23) hx hb dX7_beatsOf_19 (by decide) ?_
      exact fin (gA S (6 + 5 * i) a1.toNatClampNeg) S _ _ _ _ (Option.some.inj hf) rfl hH dX7_beatsOf_23
theorem in_X7_goodOf_X7 : ∀ w ∈ wsX70, w ∈ wsX7_goodOf := fun w h => List.mem_cons_of_mem _ (List.mem_append_right _ h)
set_option maxRecDepth 100000 in
set_option maxHeartbeats 4000000 in
theorem c_X7_goodOf (l : Launch) (G : Gt) (A : Nat → Prop) (S : St) (i : Nat) (hi : i < 3) (a1 : Int32) (q : Int32) (hf : f_X7_goodOf S i a1 = some q) : Met l yX7_goodOf wsX7_goodOf ({ frames := 0, cells := 0, slots := 0, locals := 0 } : Room) (va_Pc [.ref (gC G (4 + 5 * i)), .int a1] (PK G A (CW G S))) (va_Qi (fun (r2 : Int32) S2 => r2 = q ∧ S2 = S) (fun S2 : St => PK G A (CW G S2)) A) 0 0 A := by
  refine mstart_i (Wd := CW G) (cc := cX7_goodOf) (maxL := 2) (by decide) rfl (Nat.le_of_ble_eq_true rfl) (fun p e s m below meth c Qm ls hC hH hl fin => ?_)
  obtain ⟨hx, hb, hml, hown, hts⟩ := id hC.1
  have hl : lv_has ls 2 [(0, .ref (gC G (4 + 5 * i))), (1, .int a1)] := hl
  have hf := hf
  rw [f_X7_goodOf] at hf
  refine lv_iload_n hx hb dX7_goodOf_0 rfl (lv_at hl 1 rfl) ?_
  refine lv_if_lt (tgt := 22) hx hb dX7_goodOf_1 (by decide) (fun c1 => ?_) (fun c1 => ?_)
  · replace hf := it_t c1 hf
    refine lv_iconst (v := 0) hx hb dX7_goodOf_22 (by decide) ?_
    exact fin (0 : Int32) S _ _ _ _ (Option.some.inj hf) rfl hH dX7_goodOf_23
  · replace hf := it_f c1 hf
    refine lv_iload_n hx hb dX7_goodOf_4 rfl (lv_at hl 1 rfl) ?_
    refine lv_aload_n hx hb dX7_goodOf_5 rfl (lv_at hl 0 rfl) ?_
    refine getO hC hH (4 + 5 * i) (cw_runs (i := i) hi) rfl in_X7_goodOf_X7 2 (by decide) (index := 18) (List.mem_of_getElem? (i := 1) rfl) rfl dX7_goodOf_6 ?_
    refine alen hC hH (7 + 5 * i) 0 (cw_good (i := i) hi) rfl (v := 3) rfl dX7_goodOf_9 ?_
    refine lv_icmp_ge (tgt := 22) hx hb dX7_goodOf_10 (by decide) (fun c2 => ?_) (fun c2 => ?_)
    · replace hf := it_t c2 hf
      refine lv_iconst (v := 0) hx hb dX7_goodOf_22 (by decide) ?_
      exact fin (0 : Int32) S _ _ _ _ (Option.some.inj hf) rfl hH dX7_goodOf_23
    · replace hf := it_f c2 hf
      refine lv_aload_n hx hb dX7_goodOf_13 rfl (lv_at hl 0 rfl) ?_
      refine getO hC hH (4 + 5 * i) (cw_runs (i := i) hi) rfl in_X7_goodOf_X7 2 (by decide) (index := 18) (List.mem_of_getElem? (i := 1) rfl) rfl dX7_goodOf_14 ?_
      refine lv_iload_n hx hb dX7_goodOf_17 rfl (lv_at hl 1 rfl) ?_
      obtain ⟨g3, hf⟩ := gd hf
      refine aldI hC hH (7 + 5 * i) (cw_good (i := i) hi) g3 dX7_goodOf_18 ?_
      refine lv_goto (tgt := 23) hx hb dX7_goodOf_19 (by decide) ?_
      exact fin (gA S (7 + 5 * i) a1.toNatClampNeg) S _ _ _ _ (Option.some.inj hf) rfl hH dX7_goodOf_23
theorem in_X0_remember_X0 : ∀ w ∈ wsX00, w ∈ wsX0_remember := fun w h => List.mem_cons_of_mem _ (List.mem_append_left _ (List.mem_append_right _ h))
theorem in_X0_remember_X7 : ∀ w ∈ wsX70, w ∈ wsX0_remember := fun w h => List.mem_cons_of_mem _ (List.mem_append_right _ h)
set_option maxRecDepth 100000 in
set_option maxHeartbeats 4000000 in
theorem c_X0_remember (l : Launch) (G : Gt) (A : Nat → Prop) (N : Nat) (S : St) (j2 : Nat) (hj2 : j2 < 3) (a1 : Int32) (q : St) (hf : f_X0_remember N S j2 a1 = some q) : Met l yX0_remember wsX0_remember ({ frames := 1, cells := 0, slots := 0, locals := 21 } : Room) (va_Pc [.ref (gC G 18), .int a1, .ref (gC G (4 + 5 * j2))] (PK G A (CW G S))) (va_Qv (fun S2 => S2 = q) (fun S2 : St => PK G A (CW G S2)) A) 0 0 A := by
  refine mstart_v (Wd := CW G) (cc := cX0_remember) (maxL := 3) (by decide) rfl (Nat.le_of_ble_eq_true rfl) (fun p e s m below meth c Qm ls hC hH hl fin => ?_)
  obtain ⟨hx, hb, hml, hown, hts⟩ := id hC.1
  have hl : lv_has ls 3 [(0, .ref (gC G 18)), (1, .int a1), (2, .ref (gC G (4 + 5 * j2)))] := hl
  have kJ13 : ∀ (S : St) (H : Heap) (locs : List Loc) (ls : Array Slot), HW G A (CW G S) s H locs → lv_has ls 3 [(0, .ref (gC G 18)), (1, .int a1), (2, .ref (gC G (4 + 5 * j2)))] → f_X0_remember_13 N j2 a1 S = some q → W p l e ({ frames := 1, cells := 0, slots := 0, locals := 21 } : Room) s m [.ref (gC G 18), .int a1, .ref (gC G (4 + 5 * j2))].toArray below meth c H locs 0 0 Qm (F0 m 13 ls []) := by
    intro S H locs ls hH hl hf
    rw [f_X0_remember_13] at hf
    refine lv_aload_n hx hb dX0_remember_13 rfl (lv_at hl 0 rfl) ?_
    refine getO hC hH (18) rfl rfl in_X0_remember_X0 4 (by decide) (index := 22) (List.mem_of_getElem? (i := 1) rfl) rfl dX0_remember_14 ?_
    refine lv_if_lt (tgt := 91) hx hb dX0_remember_17 (by decide) (fun c2 => ?_) (fun c2 => ?_)
    · replace hf := it_t c2 hf
      exact fin S _ _ _ _ (Option.some.inj hf) hH dX0_remember_91
    · replace hf := it_f c2 hf
      refine lv_aload_n hx hb dX0_remember_20 rfl (lv_at hl 0 rfl) ?_
      refine getO hC hH (18) rfl rfl in_X0_remember_X0 4 (by decide) (index := 22) (List.mem_of_getElem? (i := 1) rfl) rfl dX0_remember_21 ?_
      refine lv_bipush (v := 10) hx hb dX0_remember_24 (by decide) ?_
      refine lv_icmp_ge (tgt := 91) hx hb dX0_remember_26 (by decide) (fun c3 => ?_) (fun c3 => ?_)
      · replace hf := it_t c3 hf
        exact fin S _ _ _ _ (Option.some.inj hf) hH dX0_remember_91
      · replace hf := it_f c3 hf
        refine lv_aload_n hx hb dX0_remember_29 rfl (lv_at hl 0 rfl) ?_
        refine getO hC hH (18) rfl rfl in_X0_remember_X0 0 (by decide) (index := 9) (List.mem_of_getElem? (i := 2) rfl) rfl dX0_remember_30 ?_
        refine lv_aload_n hx hb dX0_remember_33 rfl (lv_at hl 0 rfl) ?_
        refine getO hC hH (18) rfl rfl in_X0_remember_X0 4 (by decide) (index := 22) (List.mem_of_getElem? (i := 1) rfl) rfl dX0_remember_34 ?_
        refine lv_iload_n hx hb dX0_remember_37 rfl (lv_at hl 1 rfl) ?_
        obtain ⟨g4, hf⟩ := gd hf
        refine astI hC hH (19) rfl g4 ct_19 dX0_remember_38 (fun H locs hH => ?_)
        obtain ⟨S5, eS5⟩ : ∃ Z : St, Z = sA S 19 (upd (gA S 19) (gI S 18 4).toNatClampNeg a1) := ⟨_, rfl⟩
        rw [← eS5] at hH
        replace hf := bn eS5 hf
        refine lv_aload_n hx hb dX0_remember_39 rfl (lv_at hl 0 rfl) ?_
        refine getO hC hH (18) rfl rfl in_X0_remember_X0 1 (by decide) (index := 13) (List.mem_of_getElem? (i := 3) rfl) rfl dX0_remember_40 ?_
        refine lv_aload_n hx hb dX0_remember_43 rfl (lv_at hl 0 rfl) ?_
        refine getO hC hH (18) rfl rfl in_X0_remember_X0 4 (by decide) (index := 22) (List.mem_of_getElem? (i := 1) rfl) rfl dX0_remember_44 ?_
        refine lv_aload_n hx hb dX0_remember_47 rfl (lv_at hl 2 rfl) ?_
        refine lv_iload_n hx hb dX0_remember_48 rfl (lv_at hl 1 rfl) ?_
        obtain ⟨r6, hr6, hf⟩ := ob hf
        refine callV_i [.int a1] [.int (gI S5 18 4), .ref (gC G 20)] hC hH (c_X7_yardOf l G A S5 j2 hj2 a1 _ hr6) (cwV 1 hts gX0_remember_X7_yardOf rfl rfl rfl (by decide +kernel) ⟨Nat.le_of_ble_eq_true rfl, Nat.le_of_ble_eq_true rfl⟩) (recvW hC hH (c0 := 4 + 5 * j2) (ci := 7) (cw_runs (i := j2) hj2) rfl) rfl hl.1 rfl (Nat.le_of_ble_eq_true rfl) dX0_remember_49 (fun H locs hH => ?_)
        obtain ⟨g7, hf⟩ := gd hf
        refine astI hC hH (20) rfl g7 ct_20 dX0_remember_52 (fun H locs hH => ?_)
        obtain ⟨S8, eS8⟩ : ∃ Z : St, Z = sA S5 20 (upd (gA S5 20) (gI S5 18 4).toNatClampNeg r6) := ⟨_, rfl⟩
        rw [← eS8] at hH
        replace hf := bn eS8 hf
        refine lv_aload_n hx hb dX0_remember_53 rfl (lv_at hl 0 rfl) ?_
        refine getO hC hH (18) rfl rfl in_X0_remember_X0 2 (by decide) (index := 16) (List.mem_of_getElem? (i := 4) rfl) rfl dX0_remember_54 ?_
        refine lv_aload_n hx hb dX0_remember_57 rfl (lv_at hl 0 rfl) ?_
        refine getO hC hH (18) rfl rfl in_X0_remember_X0 4 (by decide) (index := 22) (List.mem_of_getElem? (i := 1) rfl) rfl dX0_remember_58 ?_
        refine lv_aload_n hx hb dX0_remember_61 rfl (lv_at hl 2 rfl) ?_
        refine lv_iload_n hx hb dX0_remember_62 rfl (lv_at hl 1 rfl) ?_
        obtain ⟨r9, hr9, hf⟩ := ob hf
        refine callV_i [.int a1] [.int (gI S8 18 4), .ref (gC G 21)] hC hH (c_X7_beatsOf l G A S8 j2 hj2 a1 _ hr9) (cwV 1 hts gX0_remember_X7_beatsOf rfl rfl rfl (by decide +kernel) ⟨Nat.le_of_ble_eq_true rfl, Nat.le_of_ble_eq_true rfl⟩) (recvW hC hH (c0 := 4 + 5 * j2) (ci := 7) (cw_runs (i := j2) hj2) rfl) rfl hl.1 rfl (Nat.le_of_ble_eq_true rfl) dX0_remember_63 (fun H locs hH => ?_)
        obtain ⟨g10, hf⟩ := gd hf
        refine astI hC hH (21) rfl g10 ct_21 dX0_remember_66 (fun H locs hH => ?_)
        obtain ⟨S11, eS11⟩ : ∃ Z : St, Z = sA S8 21 (upd (gA S8 21) (gI S8 18 4).toNatClampNeg r9) := ⟨_, rfl⟩
        rw [← eS11] at hH
        replace hf := bn eS11 hf
        refine lv_aload_n hx hb dX0_remember_67 rfl (lv_at hl 0 rfl) ?_
        refine getO hC hH (18) rfl rfl in_X0_remember_X0 3 (by decide) (index := 19) (List.mem_of_getElem? (i := 5) rfl) rfl dX0_remember_68 ?_
        refine lv_aload_n hx hb dX0_remember_71 rfl (lv_at hl 0 rfl) ?_
        refine getO hC hH (18) rfl rfl in_X0_remember_X0 4 (by decide) (index := 22) (List.mem_of_getElem? (i := 1) rfl) rfl dX0_remember_72 ?_
        refine lv_aload_n hx hb dX0_remember_75 rfl (lv_at hl 2 rfl) ?_
        refine lv_iload_n hx hb dX0_remember_76 rfl (lv_at hl 1 rfl) ?_
        obtain ⟨r12, hr12, hf⟩ := ob hf
        refine callV_i [.int a1] [.int (gI S11 18 4), .ref (gC G 22)] hC hH (c_X7_goodOf l G A S11 j2 hj2 a1 _ hr12) (cwV 1 hts gX0_remember_X7_goodOf rfl rfl rfl (by decide +kernel) ⟨Nat.le_of_ble_eq_true rfl, Nat.le_of_ble_eq_true rfl⟩) (recvW hC hH (c0 := 4 + 5 * j2) (ci := 7) (cw_runs (i := j2) hj2) rfl) rfl hl.1 rfl (Nat.le_of_ble_eq_true rfl) dX0_remember_77 (fun H locs hH => ?_)
        obtain ⟨g13, hf⟩ := gd hf
        refine astI hC hH (22) rfl g13 ct_22 dX0_remember_80 (fun H locs hH => ?_)
        obtain ⟨S14, eS14⟩ : ∃ Z : St, Z = sA S11 22 (upd (gA S11 22) (gI S11 18 4).toNatClampNeg r12) := ⟨_, rfl⟩
        rw [← eS14] at hH
        replace hf := bn eS14 hf
        refine lv_aload_n hx hb dX0_remember_81 rfl (lv_at hl 0 rfl) ?_
        refine lv_dup hx hb dX0_remember_82 rfl ?_
        refine getO hC hH (18) rfl rfl in_X0_remember_X0 4 (by decide) (index := 22) (List.mem_of_getElem? (i := 1) rfl) rfl dX0_remember_83 ?_
        refine lv_iconst (v := 1) hx hb dX0_remember_86 (by decide) ?_
        refine lv_iadd hx hb dX0_remember_87 ?_
        refine putO hC hH (18) rfl rfl in_X0_remember_X0 tyX0 tyX0_ok nmX0 4 (by decide) (index := 22) (List.mem_of_getElem? (i := 1) rfl) rfl rfl rfl (Nat.le_of_ble_eq_true rfl) cs_18_4 dX0_remember_88 (fun H locs hH => ?_)
        obtain ⟨S15, eS15⟩ : ∃ Z : St, Z = sI S14 18 4 ((gI S14 18 4) + (1 : Int32)) := ⟨_, rfl⟩
        rw [← eS15] at hH
        replace hf := bn eS15 hf
        exact fin S15 _ _ _ _ (Option.some.inj hf) hH dX0_remember_91
  have hf := hf
  rw [f_X0_remember] at hf
  refine lv_aload_n hx hb dX0_remember_0 rfl (lv_at hl 0 rfl) ?_
  refine getO hC hH (18) rfl rfl in_X0_remember_X0 4 (by decide) (index := 22) (List.mem_of_getElem? (i := 1) rfl) rfl dX0_remember_1 ?_
  refine lv_bipush (v := 10) hx hb dX0_remember_4 (by decide) ?_
  refine lv_icmp_lt (tgt := 13) hx hb dX0_remember_6 (by decide) (fun c1 => ?_) (fun c1 => ?_)
  · replace hf := it_t c1 hf
    exact kJ13  S _ _ _ hH (lv_sub hl [0, 1, 2] rfl) hf
  · replace hf := it_f c1 hf
    refine lv_aload_n hx hb dX0_remember_9 rfl (lv_at hl 0 rfl) ?_
    obtain ⟨r16, hr16, hf⟩ := ob hf
    refine callV_v [] [] hC hH (c_X0_loseOldest l G A N S _ hr16) (cwV 0 hts gX0_remember_X0_loseOldest rfl rfl rfl (by decide +kernel) ⟨Nat.le_of_ble_eq_true rfl, Nat.le_of_ble_eq_true rfl⟩) (recvW hC hH (c0 := 18) (ci := 0) rfl rfl) rfl hl.1 rfl (Nat.le_of_ble_eq_true rfl) dX0_remember_10 (fun H locs hH => ?_)
    exact kJ13  r16 _ _ _ hH (lv_sub hl [0, 1, 2] rfl) hf
theorem in_X7_put_X7 : ∀ w ∈ wsX70, w ∈ wsX7_put := fun w h => List.mem_cons_of_mem _ (List.mem_append_right _ h)
set_option maxRecDepth 100000 in
set_option maxHeartbeats 4000000 in
theorem c_X7_put (l : Launch) (G : Gt) (A : Nat → Prop) (S : St) (i : Nat) (hi : i < 3) (a1 : Int32) (a2 : Int32) (a3 : Int32) (a4 : Int32) (q : St) (hf : f_X7_put S i a1 a2 a3 a4 = some q) : Met l yX7_put wsX7_put ({ frames := 0, cells := 0, slots := 0, locals := 0 } : Room) (va_Pc [.ref (gC G (4 + 5 * i)), .int a1, .int a2, .int a3, .int a4] (PK G A (CW G S))) (va_Qv (fun S2 => S2 = q) (fun S2 : St => PK G A (CW G S2)) A) 0 0 A := by
  refine mstart_v (Wd := CW G) (cc := cX7_put) (maxL := 5) (by decide) rfl (Nat.le_of_ble_eq_true rfl) (fun p e s m below meth c Qm ls hC hH hl fin => ?_)
  obtain ⟨hx, hb, hml, hown, hts⟩ := id hC.1
  have hl : lv_has ls 5 [(0, .ref (gC G (4 + 5 * i))), (1, .int a1), (2, .int a2), (3, .int a3), (4, .int a4)] := hl
  have hf := hf
  rw [f_X7_put] at hf
  refine lv_iload_n hx hb dX7_put_0 rfl (lv_at hl 1 rfl) ?_
  refine lv_if_lt (tgt := 53) hx hb dX7_put_1 (by decide) (fun c1 => ?_) (fun c1 => ?_)
  · replace hf := it_t c1 hf
    exact fin S _ _ _ _ (Option.some.inj hf) hH dX7_put_53
  · replace hf := it_f c1 hf
    refine lv_iload_n hx hb dX7_put_4 rfl (lv_at hl 1 rfl) ?_
    refine lv_aload_n hx hb dX7_put_5 rfl (lv_at hl 0 rfl) ?_
    refine getO hC hH (4 + 5 * i) (cw_runs (i := i) hi) rfl in_X7_put_X7 0 (by decide) (index := 9) (List.mem_of_getElem? (i := 1) rfl) rfl dX7_put_6 ?_
    refine alen hC hH (5 + 5 * i) 0 (cw_yard (i := i) hi) rfl (v := 3) rfl dX7_put_9 ?_
    refine lv_icmp_ge (tgt := 53) hx hb dX7_put_10 (by decide) (fun c2 => ?_) (fun c2 => ?_)
    · replace hf := it_t c2 hf
      exact fin S _ _ _ _ (Option.some.inj hf) hH dX7_put_53
    · replace hf := it_f c2 hf
      refine lv_iload_n hx hb dX7_put_13 rfl (lv_at hl 1 rfl) ?_
      refine lv_aload_n hx hb dX7_put_14 rfl (lv_at hl 0 rfl) ?_
      refine getO hC hH (4 + 5 * i) (cw_runs (i := i) hi) rfl in_X7_put_X7 1 (by decide) (index := 15) (List.mem_of_getElem? (i := 2) rfl) rfl dX7_put_15 ?_
      refine alen hC hH (6 + 5 * i) 0 (cw_beats (i := i) hi) rfl (v := 3) rfl dX7_put_18 ?_
      refine lv_icmp_ge (tgt := 53) hx hb dX7_put_19 (by decide) (fun c3 => ?_) (fun c3 => ?_)
      · replace hf := it_t c3 hf
        exact fin S _ _ _ _ (Option.some.inj hf) hH dX7_put_53
      · replace hf := it_f c3 hf
        refine lv_iload_n hx hb dX7_put_22 rfl (lv_at hl 1 rfl) ?_
        refine lv_aload_n hx hb dX7_put_23 rfl (lv_at hl 0 rfl) ?_
        refine getO hC hH (4 + 5 * i) (cw_runs (i := i) hi) rfl in_X7_put_X7 2 (by decide) (index := 18) (List.mem_of_getElem? (i := 3) rfl) rfl dX7_put_24 ?_
        refine alen hC hH (7 + 5 * i) 0 (cw_good (i := i) hi) rfl (v := 3) rfl dX7_put_27 ?_
        refine lv_icmp_ge (tgt := 53) hx hb dX7_put_28 (by decide) (fun c4 => ?_) (fun c4 => ?_)
        · replace hf := it_t c4 hf
          exact fin S _ _ _ _ (Option.some.inj hf) hH dX7_put_53
        · replace hf := it_f c4 hf
          refine lv_aload_n hx hb dX7_put_31 rfl (lv_at hl 0 rfl) ?_
          refine getO hC hH (4 + 5 * i) (cw_runs (i := i) hi) rfl in_X7_put_X7 0 (by decide) (index := 9) (List.mem_of_getElem? (i := 1) rfl) rfl dX7_put_32 ?_
          refine lv_iload_n hx hb dX7_put_35 rfl (lv_at hl 1 rfl) ?_
          refine lv_iload_n hx hb dX7_put_36 rfl (lv_at hl 2 rfl) ?_
          obtain ⟨g5, hf⟩ := gd hf
          refine astI hC hH (5 + 5 * i) (cw_yard (i := i) hi) g5 (ct_yard (i := i) hi) dX7_put_37 (fun H locs hH => ?_)
          obtain ⟨S6, eS6⟩ : ∃ Z : St, Z = sA S (5 + 5 * i) (upd (gA S (5 + 5 * i)) a1.toNatClampNeg a2) := ⟨_, rfl⟩
          rw [← eS6] at hH
          replace hf := bn eS6 hf
          refine lv_aload_n hx hb dX7_put_38 rfl (lv_at hl 0 rfl) ?_
          refine getO hC hH (4 + 5 * i) (cw_runs (i := i) hi) rfl in_X7_put_X7 1 (by decide) (index := 15) (List.mem_of_getElem? (i := 2) rfl) rfl dX7_put_39 ?_
          refine lv_iload_n hx hb dX7_put_42 rfl (lv_at hl 1 rfl) ?_
          refine lv_iload_n hx hb dX7_put_43 rfl (lv_at hl 3 rfl) ?_
          obtain ⟨g7, hf⟩ := gd hf
          refine astI hC hH (6 + 5 * i) (cw_beats (i := i) hi) g7 (ct_beats (i := i) hi) dX7_put_44 (fun H locs hH => ?_)
          obtain ⟨S8, eS8⟩ : ∃ Z : St, Z = sA S6 (6 + 5 * i) (upd (gA S6 (6 + 5 * i)) a1.toNatClampNeg a3) := ⟨_, rfl⟩
          rw [← eS8] at hH
          replace hf := bn eS8 hf
          refine lv_aload_n hx hb dX7_put_45 rfl (lv_at hl 0 rfl) ?_
          refine getO hC hH (4 + 5 * i) (cw_runs (i := i) hi) rfl in_X7_put_X7 2 (by decide) (index := 18) (List.mem_of_getElem? (i := 3) rfl) rfl dX7_put_46 ?_
          refine lv_iload_n hx hb dX7_put_49 rfl (lv_at hl 1 rfl) ?_
          refine lv_iload hx hb dX7_put_50 (lv_at hl 4 rfl) ?_
          obtain ⟨g9, hf⟩ := gd hf
          refine astI hC hH (7 + 5 * i) (cw_good (i := i) hi) g9 (ct_good (i := i) hi) dX7_put_52 (fun H locs hH => ?_)
          obtain ⟨S10, eS10⟩ : ∃ Z : St, Z = sA S8 (7 + 5 * i) (upd (gA S8 (7 + 5 * i)) a1.toNatClampNeg a4) := ⟨_, rfl⟩
          rw [← eS10] at hH
          replace hf := bn eS10 hf
          exact fin S10 _ _ _ _ (Option.some.inj hf) hH dX7_put_53
theorem in_X0_takeBackLast_X0 : ∀ w ∈ wsX00, w ∈ wsX0_takeBackLast := fun w h => List.mem_cons_of_mem _ (List.mem_append_left _ (List.mem_append_right _ h))
theorem in_X0_takeBackLast_X7 : ∀ w ∈ wsX70, w ∈ wsX0_takeBackLast := fun w h => List.mem_cons_of_mem _ (List.mem_append_right _ h)
set_option maxRecDepth 100000 in
set_option maxHeartbeats 4000000 in
theorem c_X0_takeBackLast (l : Launch) (G : Gt) (A : Nat → Prop) (S : St) (j1 : Nat) (hj1 : j1 < 3)  (q : St) (hf : f_X0_takeBackLast S j1 = some q) : Met l yX0_takeBackLast wsX0_takeBackLast ({ frames := 1, cells := 0, slots := 0, locals := 24 } : Room) (va_Pc [.ref (gC G 18), .ref (gC G (4 + 5 * j1))] (PK G A (CW G S))) (va_Qv (fun S2 => S2 = q) (fun S2 : St => PK G A (CW G S2)) A) 0 0 A := by
  refine mstart_v (Wd := CW G) (cc := cX0_takeBackLast) (maxL := 2) (by decide) rfl (Nat.le_of_ble_eq_true rfl) (fun p e s m below meth c Qm ls hC hH hl fin => ?_)
  obtain ⟨hx, hb, hml, hown, hts⟩ := id hC.1
  have hl : lv_has ls 2 [(0, .ref (gC G 18)), (1, .ref (gC G (4 + 5 * j1)))] := hl
  have hf := hf
  rw [f_X0_takeBackLast] at hf
  refine lv_aload_n hx hb dX0_takeBackLast_0 rfl (lv_at hl 0 rfl) ?_
  refine getO hC hH (18) rfl rfl in_X0_takeBackLast_X0 4 (by decide) (index := 22) (List.mem_of_getElem? (i := 1) rfl) rfl dX0_takeBackLast_1 ?_
  refine lv_if_le (tgt := 66) hx hb dX0_takeBackLast_4 (by decide) (fun c1 => ?_) (fun c1 => ?_)
  · replace hf := it_t c1 hf
    exact fin S _ _ _ _ (Option.some.inj hf) hH dX0_takeBackLast_66
  · replace hf := it_f c1 hf
    refine lv_aload_n hx hb dX0_takeBackLast_7 rfl (lv_at hl 0 rfl) ?_
    refine getO hC hH (18) rfl rfl in_X0_takeBackLast_X0 4 (by decide) (index := 22) (List.mem_of_getElem? (i := 1) rfl) rfl dX0_takeBackLast_8 ?_
    refine lv_bipush (v := 10) hx hb dX0_takeBackLast_11 (by decide) ?_
    refine lv_icmp_gt (tgt := 66) hx hb dX0_takeBackLast_13 (by decide) (fun c2 => ?_) (fun c2 => ?_)
    · replace hf := it_t c2 hf
      exact fin S _ _ _ _ (Option.some.inj hf) hH dX0_takeBackLast_66
    · replace hf := it_f c2 hf
      refine lv_aload_n hx hb dX0_takeBackLast_16 rfl (lv_at hl 0 rfl) ?_
      refine lv_dup hx hb dX0_takeBackLast_17 rfl ?_
      refine getO hC hH (18) rfl rfl in_X0_takeBackLast_X0 4 (by decide) (index := 22) (List.mem_of_getElem? (i := 1) rfl) rfl dX0_takeBackLast_18 ?_
      refine lv_iconst (v := 1) hx hb dX0_takeBackLast_21 (by decide) ?_
      refine lv_isub hx hb dX0_takeBackLast_22 ?_
      refine putO hC hH (18) rfl rfl in_X0_takeBackLast_X0 tyX0 tyX0_ok nmX0 4 (by decide) (index := 22) (List.mem_of_getElem? (i := 1) rfl) rfl rfl rfl (Nat.le_of_ble_eq_true rfl) cs_18_4 dX0_takeBackLast_23 (fun H locs hH => ?_)
      obtain ⟨S3, eS3⟩ : ∃ Z : St, Z = sI S 18 4 ((gI S 18 4) - (1 : Int32)) := ⟨_, rfl⟩
      rw [← eS3] at hH
      replace hf := bn eS3 hf
      refine lv_aload_n hx hb dX0_takeBackLast_26 rfl (lv_at hl 1 rfl) ?_
      refine lv_aload_n hx hb dX0_takeBackLast_27 rfl (lv_at hl 0 rfl) ?_
      refine getO hC hH (18) rfl rfl in_X0_takeBackLast_X0 0 (by decide) (index := 9) (List.mem_of_getElem? (i := 2) rfl) rfl dX0_takeBackLast_28 ?_
      refine lv_aload_n hx hb dX0_takeBackLast_31 rfl (lv_at hl 0 rfl) ?_
      refine getO hC hH (18) rfl rfl in_X0_takeBackLast_X0 4 (by decide) (index := 22) (List.mem_of_getElem? (i := 1) rfl) rfl dX0_takeBackLast_32 ?_
      obtain ⟨g4, hf⟩ := gd hf
      refine aldI hC hH (19) rfl g4 dX0_takeBackLast_35 ?_
      refine lv_aload_n hx hb dX0_takeBackLast_36 rfl (lv_at hl 0 rfl) ?_
      refine getO hC hH (18) rfl rfl in_X0_takeBackLast_X0 1 (by decide) (index := 13) (List.mem_of_getElem? (i := 3) rfl) rfl dX0_takeBackLast_37 ?_
      refine lv_aload_n hx hb dX0_takeBackLast_40 rfl (lv_at hl 0 rfl) ?_
      refine getO hC hH (18) rfl rfl in_X0_takeBackLast_X0 4 (by decide) (index := 22) (List.mem_of_getElem? (i := 1) rfl) rfl dX0_takeBackLast_41 ?_
      obtain ⟨g5, hf⟩ := gd hf
      refine aldI hC hH (20) rfl g5 dX0_takeBackLast_44 ?_
      refine lv_aload_n hx hb dX0_takeBackLast_45 rfl (lv_at hl 0 rfl) ?_
      refine getO hC hH (18) rfl rfl in_X0_takeBackLast_X0 2 (by decide) (index := 16) (List.mem_of_getElem? (i := 4) rfl) rfl dX0_takeBackLast_46 ?_
      refine lv_aload_n hx hb dX0_takeBackLast_49 rfl (lv_at hl 0 rfl) ?_
      refine getO hC hH (18) rfl rfl in_X0_takeBackLast_X0 4 (by decide) (index := 22) (List.mem_of_getElem? (i := 1) rfl) rfl dX0_takeBackLast_50 ?_
      obtain ⟨g6, hf⟩ := gd hf
      refine aldI hC hH (21) rfl g6 dX0_takeBackLast_53 ?_
      refine lv_aload_n hx hb dX0_takeBackLast_54 rfl (lv_at hl 0 rfl) ?_
      refine getO hC hH (18) rfl rfl in_X0_takeBackLast_X0 3 (by decide) (index := 19) (List.mem_of_getElem? (i := 5) rfl) rfl dX0_takeBackLast_55 ?_
      refine lv_aload_n hx hb dX0_takeBackLast_58 rfl (lv_at hl 0 rfl) ?_
      refine getO hC hH (18) rfl rfl in_X0_takeBackLast_X0 4 (by decide) (index := 22) (List.mem_of_getElem? (i := 1) rfl) rfl dX0_takeBackLast_59 ?_
      obtain ⟨g7, hf⟩ := gd hf
      refine aldI hC hH (22) rfl g7 dX0_takeBackLast_62 ?_
      obtain ⟨r8, hr8, hf⟩ := ob hf
      refine callV_v [.int (gA S3 19 (gI S3 18 4).toNatClampNeg), .int (gA S3 20 (gI S3 18 4).toNatClampNeg), .int (gA S3 21 (gI S3 18 4).toNatClampNeg), .int (gA S3 22 (gI S3 18 4).toNatClampNeg)] [] hC hH (c_X7_put l G A S3 j1 hj1 (gA S3 19 (gI S3 18 4).toNatClampNeg) (gA S3 20 (gI S3 18 4).toNatClampNeg) (gA S3 21 (gI S3 18 4).toNatClampNeg) (gA S3 22 (gI S3 18 4).toNatClampNeg) _ hr8) (cwV 4 hts gX0_takeBackLast_X7_put rfl rfl rfl (by decide +kernel) ⟨Nat.le_of_ble_eq_true rfl, Nat.le_of_ble_eq_true rfl⟩) (recvW hC hH (c0 := 4 + 5 * j1) (ci := 7) (cw_runs (i := j1) hj1) rfl) rfl hl.1 rfl (Nat.le_of_ble_eq_true rfl) dX0_takeBackLast_63 (fun H locs hH => ?_)
      exact fin r8 _ _ _ _ (Option.some.inj hf) hH dX0_takeBackLast_66
set_option maxRecDepth 100000 in
set_option maxHeartbeats 4000000 in
theorem c_X9_quarters (l : Launch) (G : Gt) (A : Nat → Prop) (S : St)  (a0 : Int32) (a1 : Int32) (q : Int32) (hf : f_X9_quarters a0 a1 = some q) : Met l yX9_quarters wsX9_quarters ({ frames := 0, cells := 0, slots := 0, locals := 0 } : Room) (va_Pc [.int a0, .int a1] (PK G A (CW G S))) (va_Qi (fun (r2 : Int32) S2 => r2 = q ∧ S2 = S) (fun S2 : St => PK G A (CW G S2)) A) 0 0 A := by
  refine mstart_i (Wd := CW G) (cc := cX9_quarters) (maxL := 2) (by decide) rfl (Nat.le_of_ble_eq_true rfl) (fun p e s m below meth c Qm ls hC hH hl fin => ?_)
  obtain ⟨hx, hb, hml, hown, hts⟩ := id hC.1
  have hl : lv_has ls 2 [(0, .int a0), (1, .int a1)] := hl
  have hf := hf
  rw [f_X9_quarters] at hf
  refine lv_iload_n hx hb dX9_quarters_0 rfl (lv_at hl 1 rfl) ?_
  refine lv_iload_n hx hb dX9_quarters_1 rfl (lv_at hl 0 rfl) ?_
  refine lv_imul hx hb dX9_quarters_2 ?_
  exact fin (a1 * a0) S _ _ _ _ (Option.some.inj hf) rfl hH dX9_quarters_3
set_option maxRecDepth 100000 in
set_option maxHeartbeats 4000000 in
theorem c_X9_isTurned (l : Launch) (G : Gt) (A : Nat → Prop) (S : St)  (a0 : Int32) (a1 : Int32) (q : Int32) (hf : f_X9_isTurned a0 a1 = some q) : Met l yX9_isTurned wsX9_isTurned ({ frames := 1, cells := 0, slots := 0, locals := 21 } : Room) (va_Pc [.int a0, .int a1] (PK G A (CW G S))) (va_Qi (fun (r2 : Int32) S2 => r2 = q ∧ S2 = S) (fun S2 : St => PK G A (CW G S2)) A) 0 0 A := by
  refine mstart_z (ty := .boolean) (Wd := CW G) (cc := cX9_isTurned) (maxL := 2) (by decide) rfl (Nat.le_of_ble_eq_true rfl) (fun p e s m below meth c Qm ls hC hH hl fin => ?_)
  obtain ⟨hx, hb, hml, hown, hts⟩ := id hC.1
  have hl : lv_has ls 2 [(0, .int a0), (1, .int a1)] := hl
  have hf := hf
  rw [f_X9_isTurned] at hf
  refine lv_iload_n hx hb dX9_isTurned_0 rfl (lv_at hl 0 rfl) ?_
  refine lv_iload_n hx hb dX9_isTurned_1 rfl (lv_at hl 1 rfl) ?_
  obtain ⟨r1, hr1, hf⟩ := ob hf
  refine callS_i [.int a0, .int a1] [] hC hH (c_X9_quarters l G A S a0 a1 _ hr1) (va_cwS 2 hts gX9_isTurned_X9_quarters rfl rfl rfl (by decide +kernel) ⟨Nat.le_of_ble_eq_true rfl, Nat.le_of_ble_eq_true rfl⟩) rfl hl.1 rfl (Nat.le_of_ble_eq_true rfl) dX9_isTurned_2 (fun H locs hH => ?_)
  refine lv_iconst (v := 4) hx hb dX9_isTurned_5 (by decide) ?_
  refine lv_irem hx hb dX9_isTurned_6 (by decide) ?_
  refine lv_iconst (v := 2) hx hb dX9_isTurned_7 (by decide) ?_
  refine lv_icmp_ne (tgt := 15) hx hb dX9_isTurned_8 (by decide) (fun c2 => ?_) (fun c2 => ?_)
  · replace hf := it_f c2 hf
    refine lv_iconst (v := 0) hx hb dX9_isTurned_15 (by decide) ?_
    exact fin (0 : Int32) S _ _ _ _ rfl (Option.some.inj hf) rfl hH dX9_isTurned_16
  · replace hf := it_t c2 hf
    refine lv_iconst (v := 1) hx hb dX9_isTurned_11 (by decide) ?_
    refine lv_goto (tgt := 16) hx hb dX9_isTurned_12 (by decide) ?_
    exact fin (1 : Int32) S _ _ _ _ rfl (Option.some.inj hf) rfl hH dX9_isTurned_16
set_option maxRecDepth 100000 in
set_option maxHeartbeats 4000000 in
theorem c_X1_leastTurnOver (l : Launch) (G : Gt) (A : Nat → Prop) (N : Nat) (S : St)  (a0 : Int32) (q : Int32) (hf : f_X1_leastTurnOver N a0 = some q) : Met l yX1_leastTurnOver wsX1_leastTurnOver ({ frames := 2, cells := 0, slots := 0, locals := 42 } : Room) (va_Pc [.int a0] (PK G A (CW G S))) (va_Qi (fun (r2 : Int32) S2 => r2 = q ∧ S2 = S) (fun S2 : St => PK G A (CW G S2)) A) 0 0 A := by
  refine mstart_i (Wd := CW G) (cc := cX1_leastTurnOver) (maxL := 2) (by decide) rfl (Nat.le_of_ble_eq_true rfl) (fun p e s m below meth c Qm ls hC hH hl fin => ?_)
  obtain ⟨hx, hb, hml, hown, hts⟩ := id hC.1
  have hl : lv_has ls 2 [(0, .int a0)] := hl
  have kL2 : ∀ (n : Nat), ∀ (x1 : Int32) (H : Heap) (locs : List Loc) (ls : Array Slot), HW G A (CW G S) s H locs → lv_has ls 2 [(0, .int a0), (1, .int x1)] → g_X1_leastTurnOver_2 N a0 n x1 = some q → W p l e ({ frames := 2, cells := 0, slots := 0, locals := 42 } : Room) s m [.int a0].toArray below meth c H locs 0 0 Qm (F0 m 2 ls []) := by
    intro n
    induction n with
    | zero => intro x1 H locs ls hH hl hf; exact absurd hf.symm (Option.some_ne_none q)
    | succ n ih =>
      intro x1 H locs ls hH hl hf
      have hrec := ih
      have hf : s_X1_leastTurnOver_2 N a0 (g_X1_leastTurnOver_2 N a0 n) x1 = some q := hf
      rw [s_X1_leastTurnOver_2] at hf
      refine lv_iload_n hx hb dX1_leastTurnOver_2 rfl (lv_at hl 1 rfl) ?_
      refine lv_bipush (v := 7) hx hb dX1_leastTurnOver_3 (by decide) ?_
      refine lv_icmp_gt (tgt := 22) hx hb dX1_leastTurnOver_5 (by decide) (fun c1 => ?_) (fun c1 => ?_)
      · replace hf := it_t c1 hf
        refine lv_iload_n hx hb dX1_leastTurnOver_22 rfl (lv_at hl 1 rfl) ?_
        exact fin x1 S _ _ _ _ (Option.some.inj hf) rfl hH dX1_leastTurnOver_23
      · replace hf := it_f c1 hf
        refine lv_iload_n hx hb dX1_leastTurnOver_8 rfl (lv_at hl 0 rfl) ?_
        refine lv_iload_n hx hb dX1_leastTurnOver_9 rfl (lv_at hl 1 rfl) ?_
        obtain ⟨r2, hr2, hf⟩ := ob hf
        refine callN_i [.int a0, .int x1] [] hC hH (c_X9_isTurned l G A S a0 x1 _ hr2) ⟨va_cnB 2 hts gX1_leastTurnOver_X9_isTurned_n37 rfl rfl rfl (hC.2.2.1.2 _ (List.mem_of_getElem? (i := 0) rfl)) (hts _ (List.mem_of_getElem? (i := 2) rfl)) (by decide +kernel) ⟨Nat.le_of_ble_eq_true rfl, Nat.le_of_ble_eq_true rfl⟩, hts _ (List.mem_of_getElem? (i := 1) rfl), trivial⟩ rfl hl.1 rfl (Nat.le_of_ble_eq_true rfl) dX1_leastTurnOver_10 (fun H locs hH => ?_)
        refine lv_if_ne (tgt := 22) hx hb dX1_leastTurnOver_13 (by decide) (fun c3 => ?_) (fun c3 => ?_)
        · replace hf := it_f c3 hf
          refine lv_iload_n hx hb dX1_leastTurnOver_22 rfl (lv_at hl 1 rfl) ?_
          exact fin x1 S _ _ _ _ (Option.some.inj hf) rfl hH dX1_leastTurnOver_23
        · replace hf := it_t c3 hf
          refine lv_iinc (v := x1 + (1 : Int32)) (lv' := [(1, .int (x1 + (1 : Int32))), (0, .int a0)]) hx hb dX1_leastTurnOver_16 hl (k := 1) rfl rfl (by decide) rfl (fun ls hl => ?_)
          refine lv_goto (tgt := 2) hx hb dX1_leastTurnOver_19 (by decide) ?_
          exact hrec (x1 + (1 : Int32)) _ _ _ hH (lv_sub hl [1, 0] rfl) hf
  have hf := hf
  rw [f_X1_leastTurnOver] at hf
  refine lv_iconst (v := 0) hx hb dX1_leastTurnOver_0 (by decide) ?_
  refine lv_istore_n (lv' := [(1, .int (0 : Int32)), (0, .int a0)]) hx hb dX1_leastTurnOver_1 rfl hl (by decide) rfl (fun ls hl => ?_)
  refine kL2 N (0 : Int32) _ _ _ hH (lv_sub hl [1, 0] rfl) hf
set_option maxRecDepth 100000 in
set_option maxHeartbeats 4000000 in
theorem c_X9_beatsInAir (l : Launch) (G : Gt) (A : Nat → Prop) (S : St)  (a0 : Int32) (q : Int32) (hf : f_X9_beatsInAir a0 = some q) : Met l yX9_beatsInAir wsX9_beatsInAir ({ frames := 0, cells := 0, slots := 0, locals := 0 } : Room) (va_Pc [.int a0] (PK G A (CW G S))) (va_Qi (fun (r2 : Int32) S2 => r2 = q ∧ S2 = S) (fun S2 : St => PK G A (CW G S2)) A) 0 0 A := by
  refine mstart_i (Wd := CW G) (cc := cX9_beatsInAir) (maxL := 1) (by decide) rfl (Nat.le_of_ble_eq_true rfl) (fun p e s m below meth c Qm ls hC hH hl fin => ?_)
  obtain ⟨hx, hb, hml, hown, hts⟩ := id hC.1
  have hl : lv_has ls 1 [(0, .int a0)] := hl
  have hf := hf
  rw [f_X9_beatsInAir] at hf
  refine lv_iconst (v := 2) hx hb dX9_beatsInAir_0 (by decide) ?_
  refine lv_iload_n hx hb dX9_beatsInAir_1 rfl (lv_at hl 0 rfl) ?_
  refine lv_imul hx hb dX9_beatsInAir_2 ?_
  exact fin ((2 : Int32) * a0) S _ _ _ _ (Option.some.inj hf) rfl hH dX9_beatsInAir_3
theorem in_X3_paceOf_X3 : ∀ w ∈ wsX30, w ∈ wsX3_paceOf := fun w h => List.mem_cons_of_mem _ (List.mem_append_right _ h)
set_option maxRecDepth 100000 in
set_option maxHeartbeats 4000000 in
theorem c_X3_paceOf (l : Launch) (G : Gt) (A : Nat → Prop) (S : St) (i : Nat) (hi : i < 2) (a1 : Int32) (q : Int32) (hf : f_X3_paceOf S i a1 = some q) : Met l yX3_paceOf wsX3_paceOf ({ frames := 0, cells := 0, slots := 0, locals := 0 } : Room) (va_Pc [.ref (gC G (33 + 5 * i)), .int a1] (PK G A (CW G S))) (va_Qi (fun (r2 : Int32) S2 => r2 = q ∧ S2 = S) (fun S2 : St => PK G A (CW G S2)) A) 0 0 A := by
  refine mstart_i (Wd := CW G) (cc := cX3_paceOf) (maxL := 2) (by decide) rfl (Nat.le_of_ble_eq_true rfl) (fun p e s m below meth c Qm ls hC hH hl fin => ?_)
  obtain ⟨hx, hb, hml, hown, hts⟩ := id hC.1
  have hl : lv_has ls 2 [(0, .ref (gC G (33 + 5 * i))), (1, .int a1)] := hl
  have hf := hf
  rw [f_X3_paceOf] at hf
  refine lv_iload_n hx hb dX3_paceOf_0 rfl (lv_at hl 1 rfl) ?_
  refine lv_if_lt (tgt := 22) hx hb dX3_paceOf_1 (by decide) (fun c1 => ?_) (fun c1 => ?_)
  · replace hf := it_t c1 hf
    refine lv_iconst (v := 0) hx hb dX3_paceOf_22 (by decide) ?_
    exact fin (0 : Int32) S _ _ _ _ (Option.some.inj hf) rfl hH dX3_paceOf_23
  · replace hf := it_f c1 hf
    refine lv_iload_n hx hb dX3_paceOf_4 rfl (lv_at hl 1 rfl) ?_
    refine lv_aload_n hx hb dX3_paceOf_5 rfl (lv_at hl 0 rfl) ?_
    refine getO hC hH (33 + 5 * i) (cw_lane (i := i) hi) rfl in_X3_paceOf_X3 2 (by decide) (index := 19) (List.mem_of_getElem? (i := 1) rfl) rfl dX3_paceOf_6 ?_
    refine alen hC hH (36 + 5 * i) 0 (cw_pace (i := i) hi) rfl (v := 3) rfl dX3_paceOf_9 ?_
    refine lv_icmp_ge (tgt := 22) hx hb dX3_paceOf_10 (by decide) (fun c2 => ?_) (fun c2 => ?_)
    · replace hf := it_t c2 hf
      refine lv_iconst (v := 0) hx hb dX3_paceOf_22 (by decide) ?_
      exact fin (0 : Int32) S _ _ _ _ (Option.some.inj hf) rfl hH dX3_paceOf_23
    · replace hf := it_f c2 hf
      refine lv_aload_n hx hb dX3_paceOf_13 rfl (lv_at hl 0 rfl) ?_
      refine getO hC hH (33 + 5 * i) (cw_lane (i := i) hi) rfl in_X3_paceOf_X3 2 (by decide) (index := 19) (List.mem_of_getElem? (i := 1) rfl) rfl dX3_paceOf_14 ?_
      refine lv_iload_n hx hb dX3_paceOf_17 rfl (lv_at hl 1 rfl) ?_
      obtain ⟨g3, hf⟩ := gd hf
      refine aldI hC hH (36 + 5 * i) (cw_pace (i := i) hi) g3 dX3_paceOf_18 ?_
      refine lv_goto (tgt := 23) hx hb dX3_paceOf_19 (by decide) ?_
      exact fin (gA S (36 + 5 * i) a1.toNatClampNeg) S _ _ _ _ (Option.some.inj hf) rfl hH dX3_paceOf_23
theorem in_X3_yardOnRun_X3 : ∀ w ∈ wsX30, w ∈ wsX3_yardOnRun := fun w h => List.mem_cons_of_mem _ (List.mem_append_right _ h)
set_option maxRecDepth 100000 in
set_option maxHeartbeats 4000000 in
theorem c_X3_yardOnRun (l : Launch) (G : Gt) (A : Nat → Prop) (S : St) (i : Nat) (hi : i < 2) (a1 : Int32) (a2 : Int32) (a3 : Int32) (q : Int32) (hf : f_X3_yardOnRun S i a1 a2 a3 = some q) : Met l yX3_yardOnRun wsX3_yardOnRun ({ frames := 1, cells := 0, slots := 0, locals := 24 } : Room) (va_Pc [.ref (gC G (33 + 5 * i)), .int a1, .int a2, .int a3] (PK G A (CW G S))) (va_Qi (fun (r2 : Int32) S2 => r2 = q ∧ S2 = S) (fun S2 : St => PK G A (CW G S2)) A) 0 0 A := by
  refine mstart_i (Wd := CW G) (cc := cX3_yardOnRun) (maxL := 4) (by decide) rfl (Nat.le_of_ble_eq_true rfl) (fun p e s m below meth c Qm ls hC hH hl fin => ?_)
  obtain ⟨hx, hb, hml, hown, hts⟩ := id hC.1
  have hl : lv_has ls 4 [(0, .ref (gC G (33 + 5 * i))), (1, .int a1), (2, .int a2), (3, .int a3)] := hl
  have hf := hf
  rw [f_X3_yardOnRun] at hf
  refine lv_aload_n hx hb dX3_yardOnRun_0 rfl (lv_at hl 0 rfl) ?_
  refine getO hC hH (33 + 5 * i) (cw_lane (i := i) hi) rfl in_X3_yardOnRun_X3 4 (by decide) (index := 25) (List.mem_of_getElem? (i := 1) rfl) rfl dX3_yardOnRun_1 ?_
  refine lv_iload_n hx hb dX3_yardOnRun_4 rfl (lv_at hl 2 rfl) ?_
  refine lv_aload_n hx hb dX3_yardOnRun_5 rfl (lv_at hl 0 rfl) ?_
  refine lv_iload_n hx hb dX3_yardOnRun_6 rfl (lv_at hl 1 rfl) ?_
  obtain ⟨r1, hr1, hf⟩ := ob hf
  refine callV_i [.int a1] [.int a2, .int (gI S (33 + 5 * i) 4)] hC hH (c_X3_paceOf l G A S i hi a1 _ hr1) (cwV 1 hts gX3_yardOnRun_X3_paceOf rfl rfl rfl (by decide +kernel) ⟨Nat.le_of_ble_eq_true rfl, Nat.le_of_ble_eq_true rfl⟩) (recvW hC hH (c0 := 33 + 5 * i) (ci := 3) (cw_lane (i := i) hi) rfl) rfl hl.1 rfl (Nat.le_of_ble_eq_true rfl) dX3_yardOnRun_7 (fun H locs hH => ?_)
  refine lv_iload_n hx hb dX3_yardOnRun_10 rfl (lv_at hl 3 rfl) ?_
  refine lv_imul hx hb dX3_yardOnRun_11 ?_
  refine lv_iadd hx hb dX3_yardOnRun_12 ?_
  refine va_mmin hx hb (by rw [hml]; exact hl.1.symm) hown (hts _ (List.mem_of_getElem? (i := 2) rfl)) (hts _ (List.mem_of_getElem? (i := 3) rfl)) (hts _ (List.mem_of_getElem? (i := 4) rfl)) (hts _ (List.mem_of_getElem? (i := 5) rfl)) (Nat.le_of_ble_eq_true rfl) (Nat.le_of_ble_eq_true rfl) (Nat.zero_le _) (Nat.zero_le _) dX3_yardOnRun_13 ?_
  exact fin (if (a2 + (r1 * a3)) < (gI S (33 + 5 * i) 4) then (a2 + (r1 * a3)) else (gI S (33 + 5 * i) 4)) S _ _ _ _ (Option.some.inj hf) rfl hH dX3_yardOnRun_16
theorem in_X3_yardAfter_X3 : ∀ w ∈ wsX30, w ∈ wsX3_yardAfter := fun w h => List.mem_cons_of_mem _ (List.mem_append_right _ h)
set_option maxRecDepth 100000 in
set_option maxHeartbeats 4000000 in
theorem c_X3_yardAfter (l : Launch) (G : Gt) (A : Nat → Prop) (S : St) (i : Nat) (hi : i < 2) (a1 : Int32) (a2 : Int32) (a3 : Int32) (a4 : Int32) (q : Int32) (hf : f_X3_yardAfter S i a1 a2 a3 a4 = some q) : Met l yX3_yardAfter wsX3_yardAfter ({ frames := 2, cells := 0, slots := 0, locals := 47 } : Room) (va_Pc [.ref (gC G (33 + 5 * i)), .int a1, .int a2, .int a3, .int a4] (PK G A (CW G S))) (va_Qi (fun (r2 : Int32) S2 => r2 = q ∧ S2 = S) (fun S2 : St => PK G A (CW G S2)) A) 0 0 A := by
  refine mstart_i (Wd := CW G) (cc := cX3_yardAfter) (maxL := 5) (by decide) rfl (Nat.le_of_ble_eq_true rfl) (fun p e s m below meth c Qm ls hC hH hl fin => ?_)
  obtain ⟨hx, hb, hml, hown, hts⟩ := id hC.1
  have hl : lv_has ls 5 [(0, .ref (gC G (33 + 5 * i))), (1, .int a1), (2, .int a2), (3, .int a3), (4, .int a4)] := hl
  have hf := hf
  rw [f_X3_yardAfter] at hf
  refine lv_iload hx hb dX3_yardAfter_0 (lv_at hl 4 rfl) ?_
  refine lv_iconst (v := 1) hx hb dX3_yardAfter_2 (by decide) ?_
  refine lv_icmp_ne (tgt := 19) hx hb dX3_yardAfter_3 (by decide) (fun c1 => ?_) (fun c1 => ?_)
  · replace hf := it_f c1 hf
    refine lv_iload_n hx hb dX3_yardAfter_19 rfl (lv_at hl 2 rfl) ?_
    exact fin a2 S _ _ _ _ (Option.some.inj hf) rfl hH dX3_yardAfter_20
  · replace hf := it_t c1 hf
    refine lv_aload_n hx hb dX3_yardAfter_6 rfl (lv_at hl 0 rfl) ?_
    refine lv_iload_n hx hb dX3_yardAfter_7 rfl (lv_at hl 1 rfl) ?_
    refine lv_iload_n hx hb dX3_yardAfter_8 rfl (lv_at hl 2 rfl) ?_
    refine lv_iload_n hx hb dX3_yardAfter_9 rfl (lv_at hl 3 rfl) ?_
    obtain ⟨r2, hr2, hf⟩ := ob hf
    refine callN_i [.int a3] [.int a2, .int a1, .ref (gC G (33 + 5 * i))] hC hH (c_X9_beatsInAir l G A S a3 _ hr2) ⟨va_cnB 1 hts gX3_yardAfter_X9_beatsInAir_n58 rfl rfl rfl (hC.2.2.1.2 _ (List.mem_of_getElem? (i := 2) rfl)) (hts _ (List.mem_of_getElem? (i := 2) rfl)) (by decide +kernel) ⟨Nat.le_of_ble_eq_true rfl, Nat.le_of_ble_eq_true rfl⟩, hts _ (List.mem_of_getElem? (i := 1) rfl), trivial⟩ rfl hl.1 rfl (Nat.le_of_ble_eq_true rfl) dX3_yardAfter_10 (fun H locs hH => ?_)
    obtain ⟨r3, hr3, hf⟩ := ob hf
    refine callV_i [.int a1, .int a2, .int r2] [] hC hH (c_X3_yardOnRun l G A S i hi a1 a2 r2 _ hr3) (cwV 3 hts gX3_yardAfter_X3_yardOnRun rfl rfl rfl (by decide +kernel) ⟨Nat.le_of_ble_eq_true rfl, Nat.le_of_ble_eq_true rfl⟩) (recvW hC hH (c0 := 33 + 5 * i) (ci := 3) (cw_lane (i := i) hi) rfl) rfl hl.1 rfl (Nat.le_of_ble_eq_true rfl) dX3_yardAfter_13 (fun H locs hH => ?_)
    refine lv_goto (tgt := 20) hx hb dX3_yardAfter_16 (by decide) ?_
    exact fin r3 S _ _ _ _ (Option.some.inj hf) rfl hH dX3_yardAfter_20
theorem in_X3_windAt_X3 : ∀ w ∈ wsX30, w ∈ wsX3_windAt := fun w h => List.mem_cons_of_mem _ (List.mem_append_right _ h)
set_option maxRecDepth 100000 in
set_option maxHeartbeats 4000000 in
theorem c_X3_windAt (l : Launch) (G : Gt) (A : Nat → Prop) (S : St) (i : Nat) (hi : i < 2) (a1 : Int32) (q : Int32) (hf : f_X3_windAt S i a1 = some q) : Met l yX3_windAt wsX3_windAt ({ frames := 0, cells := 0, slots := 0, locals := 0 } : Room) (va_Pc [.ref (gC G (33 + 5 * i)), .int a1] (PK G A (CW G S))) (va_Qi (fun (r2 : Int32) S2 => r2 = q ∧ S2 = S) (fun S2 : St => PK G A (CW G S2)) A) 0 0 A := by
  refine mstart_i (Wd := CW G) (cc := cX3_windAt) (maxL := 2) (by decide) rfl (Nat.le_of_ble_eq_true rfl) (fun p e s m below meth c Qm ls hC hH hl fin => ?_)
  obtain ⟨hx, hb, hml, hown, hts⟩ := id hC.1
  have hl : lv_has ls 2 [(0, .ref (gC G (33 + 5 * i))), (1, .int a1)] := hl
  have hf := hf
  rw [f_X3_windAt] at hf
  refine lv_iload_n hx hb dX3_windAt_0 rfl (lv_at hl 1 rfl) ?_
  refine lv_if_lt (tgt := 22) hx hb dX3_windAt_1 (by decide) (fun c1 => ?_) (fun c1 => ?_)
  · replace hf := it_t c1 hf
    refine lv_iconst (v := 0) hx hb dX3_windAt_22 (by decide) ?_
    exact fin (0 : Int32) S _ _ _ _ (Option.some.inj hf) rfl hH dX3_windAt_23
  · replace hf := it_f c1 hf
    refine lv_iload_n hx hb dX3_windAt_4 rfl (lv_at hl 1 rfl) ?_
    refine lv_aload_n hx hb dX3_windAt_5 rfl (lv_at hl 0 rfl) ?_
    refine getO hC hH (33 + 5 * i) (cw_lane (i := i) hi) rfl in_X3_windAt_X3 0 (by decide) (index := 9) (List.mem_of_getElem? (i := 1) rfl) rfl dX3_windAt_6 ?_
    refine alen hC hH (34 + 5 * i) 0 (cw_wind (i := i) hi) rfl (v := 24) rfl dX3_windAt_9 ?_
    refine lv_icmp_ge (tgt := 22) hx hb dX3_windAt_10 (by decide) (fun c2 => ?_) (fun c2 => ?_)
    · replace hf := it_t c2 hf
      refine lv_iconst (v := 0) hx hb dX3_windAt_22 (by decide) ?_
      exact fin (0 : Int32) S _ _ _ _ (Option.some.inj hf) rfl hH dX3_windAt_23
    · replace hf := it_f c2 hf
      refine lv_aload_n hx hb dX3_windAt_13 rfl (lv_at hl 0 rfl) ?_
      refine getO hC hH (33 + 5 * i) (cw_lane (i := i) hi) rfl in_X3_windAt_X3 0 (by decide) (index := 9) (List.mem_of_getElem? (i := 1) rfl) rfl dX3_windAt_14 ?_
      refine lv_iload_n hx hb dX3_windAt_17 rfl (lv_at hl 1 rfl) ?_
      obtain ⟨g3, hf⟩ := gd hf
      refine aldI hC hH (34 + 5 * i) (cw_wind (i := i) hi) g3 dX3_windAt_18 ?_
      refine lv_goto (tgt := 23) hx hb dX3_windAt_19 (by decide) ?_
      exact fin (gA S (34 + 5 * i) a1.toNatClampNeg) S _ _ _ _ (Option.some.inj hf) rfl hH dX3_windAt_23
theorem in_X3_comesDown_X3 : ∀ w ∈ wsX30, w ∈ wsX3_comesDown := fun w h => List.mem_cons_of_mem _ (List.mem_append_right _ h)
set_option maxRecDepth 100000 in
set_option maxHeartbeats 4000000 in
theorem c_X3_comesDown (l : Launch) (G : Gt) (A : Nat → Prop) (S : St) (i : Nat) (hi : i < 2) (a1 : Int32) (a2 : Int32) (a3 : Int32) (q : Int32) (hf : f_X3_comesDown S i a1 a2 a3 = some q) : Met l yX3_comesDown wsX3_comesDown ({ frames := 1, cells := 0, slots := 0, locals := 21 } : Room) (va_Pc [.ref (gC G (33 + 5 * i)), .int a1, .int a2, .int a3] (PK G A (CW G S))) (va_Qi (fun (r2 : Int32) S2 => r2 = q ∧ S2 = S) (fun S2 : St => PK G A (CW G S2)) A) 0 0 A := by
  refine mstart_i (Wd := CW G) (cc := cX3_comesDown) (maxL := 4) (by decide) rfl (Nat.le_of_ble_eq_true rfl) (fun p e s m below meth c Qm ls hC hH hl fin => ?_)
  obtain ⟨hx, hb, hml, hown, hts⟩ := id hC.1
  have hl : lv_has ls 4 [(0, .ref (gC G (33 + 5 * i))), (1, .int a1), (2, .int a2), (3, .int a3)] := hl
  have hf := hf
  rw [f_X3_comesDown] at hf
  refine lv_iload_n hx hb dX3_comesDown_0 rfl (lv_at hl 1 rfl) ?_
  refine lv_iload_n hx hb dX3_comesDown_1 rfl (lv_at hl 3 rfl) ?_
  refine lv_iadd hx hb dX3_comesDown_2 ?_
  refine lv_iload_n hx hb dX3_comesDown_3 rfl (lv_at hl 2 rfl) ?_
  refine lv_aload_n hx hb dX3_comesDown_4 rfl (lv_at hl 0 rfl) ?_
  refine lv_iload_n hx hb dX3_comesDown_5 rfl (lv_at hl 1 rfl) ?_
  obtain ⟨r1, hr1, hf⟩ := ob hf
  refine callV_i [.int a1] [.int a2, .int (a1 + a3)] hC hH (c_X3_windAt l G A S i hi a1 _ hr1) (cwV 1 hts gX3_comesDown_X3_windAt rfl rfl rfl (by decide +kernel) ⟨Nat.le_of_ble_eq_true rfl, Nat.le_of_ble_eq_true rfl⟩) (recvW hC hH (c0 := 33 + 5 * i) (ci := 3) (cw_lane (i := i) hi) rfl) rfl hl.1 rfl (Nat.le_of_ble_eq_true rfl) dX3_comesDown_6 (fun H locs hH => ?_)
  refine lv_imul hx hb dX3_comesDown_9 ?_
  refine lv_isub hx hb dX3_comesDown_10 ?_
  exact fin ((a1 + a3) - (a2 * r1)) S _ _ _ _ (Option.some.inj hf) rfl hH dX3_comesDown_11
theorem in_X3_panOf_X3 : ∀ w ∈ wsX30, w ∈ wsX3_panOf := fun w h => List.mem_cons_of_mem _ (List.mem_append_right _ h)
set_option maxRecDepth 100000 in
set_option maxHeartbeats 4000000 in
theorem c_X3_panOf (l : Launch) (G : Gt) (A : Nat → Prop) (S : St) (i : Nat) (hi : i < 2) (a1 : Int32) (q : Int32) (hf : f_X3_panOf S i a1 = some q) : Met l yX3_panOf wsX3_panOf ({ frames := 0, cells := 0, slots := 0, locals := 0 } : Room) (va_Pc [.ref (gC G (33 + 5 * i)), .int a1] (PK G A (CW G S))) (va_Qi (fun (r2 : Int32) S2 => r2 = q ∧ S2 = S) (fun S2 : St => PK G A (CW G S2)) A) 0 0 A := by
  refine mstart_i (Wd := CW G) (cc := cX3_panOf) (maxL := 2) (by decide) rfl (Nat.le_of_ble_eq_true rfl) (fun p e s m below meth c Qm ls hC hH hl fin => ?_)
  obtain ⟨hx, hb, hml, hown, hts⟩ := id hC.1
  have hl : lv_has ls 2 [(0, .ref (gC G (33 + 5 * i))), (1, .int a1)] := hl
  have hf := hf
  rw [f_X3_panOf] at hf
  refine lv_iload_n hx hb dX3_panOf_0 rfl (lv_at hl 1 rfl) ?_
  refine lv_if_lt (tgt := 22) hx hb dX3_panOf_1 (by decide) (fun c1 => ?_) (fun c1 => ?_)
  · replace hf := it_t c1 hf
    refine lv_iconst (v := 0) hx hb dX3_panOf_22 (by decide) ?_
    exact fin (0 : Int32) S _ _ _ _ (Option.some.inj hf) rfl hH dX3_panOf_23
  · replace hf := it_f c1 hf
    refine lv_iload_n hx hb dX3_panOf_4 rfl (lv_at hl 1 rfl) ?_
    refine lv_aload_n hx hb dX3_panOf_5 rfl (lv_at hl 0 rfl) ?_
    refine getO hC hH (33 + 5 * i) (cw_lane (i := i) hi) rfl in_X3_panOf_X3 3 (by decide) (index := 22) (List.mem_of_getElem? (i := 1) rfl) rfl dX3_panOf_6 ?_
    refine alen hC hH (37 + 5 * i) 0 (cw_pan (i := i) hi) rfl (v := 3) rfl dX3_panOf_9 ?_
    refine lv_icmp_ge (tgt := 22) hx hb dX3_panOf_10 (by decide) (fun c2 => ?_) (fun c2 => ?_)
    · replace hf := it_t c2 hf
      refine lv_iconst (v := 0) hx hb dX3_panOf_22 (by decide) ?_
      exact fin (0 : Int32) S _ _ _ _ (Option.some.inj hf) rfl hH dX3_panOf_23
    · replace hf := it_f c2 hf
      refine lv_aload_n hx hb dX3_panOf_13 rfl (lv_at hl 0 rfl) ?_
      refine getO hC hH (33 + 5 * i) (cw_lane (i := i) hi) rfl in_X3_panOf_X3 3 (by decide) (index := 22) (List.mem_of_getElem? (i := 1) rfl) rfl dX3_panOf_14 ?_
      refine lv_iload_n hx hb dX3_panOf_17 rfl (lv_at hl 1 rfl) ?_
      obtain ⟨g3, hf⟩ := gd hf
      refine aldI hC hH (37 + 5 * i) (cw_pan (i := i) hi) g3 dX3_panOf_18 ?_
      refine lv_goto (tgt := 23) hx hb dX3_panOf_19 (by decide) ?_
      exact fin (gA S (37 + 5 * i) a1.toNatClampNeg) S _ _ _ _ (Option.some.inj hf) rfl hH dX3_panOf_23
theorem in_X3_isYard_X3 : ∀ w ∈ wsX30, w ∈ wsX3_isYard := fun w h => List.mem_cons_of_mem _ (List.mem_append_right _ h)
set_option maxRecDepth 100000 in
set_option maxHeartbeats 4000000 in
theorem c_X3_isYard (l : Launch) (G : Gt) (A : Nat → Prop) (S : St) (i : Nat) (hi : i < 2) (a1 : Int32) (q : Int32) (hf : f_X3_isYard S i a1 = some q) : Met l yX3_isYard wsX3_isYard ({ frames := 0, cells := 0, slots := 0, locals := 0 } : Room) (va_Pc [.ref (gC G (33 + 5 * i)), .int a1] (PK G A (CW G S))) (va_Qi (fun (r2 : Int32) S2 => r2 = q ∧ S2 = S) (fun S2 : St => PK G A (CW G S2)) A) 0 0 A := by
  refine mstart_z (ty := .boolean) (Wd := CW G) (cc := cX3_isYard) (maxL := 2) (by decide) rfl (Nat.le_of_ble_eq_true rfl) (fun p e s m below meth c Qm ls hC hH hl fin => ?_)
  obtain ⟨hx, hb, hml, hown, hts⟩ := id hC.1
  have hl : lv_has ls 2 [(0, .ref (gC G (33 + 5 * i))), (1, .int a1)] := hl
  have hf := hf
  rw [f_X3_isYard] at hf
  refine lv_iload_n hx hb dX3_isYard_0 rfl (lv_at hl 1 rfl) ?_
  refine lv_if_lt (tgt := 16) hx hb dX3_isYard_1 (by decide) (fun c1 => ?_) (fun c1 => ?_)
  · replace hf := it_t c1 hf
    refine lv_iconst (v := 0) hx hb dX3_isYard_16 (by decide) ?_
    exact fin (0 : Int32) S _ _ _ _ rfl (Option.some.inj hf) rfl hH dX3_isYard_17
  · replace hf := it_f c1 hf
    refine lv_iload_n hx hb dX3_isYard_4 rfl (lv_at hl 1 rfl) ?_
    refine lv_aload_n hx hb dX3_isYard_5 rfl (lv_at hl 0 rfl) ?_
    refine getO hC hH (33 + 5 * i) (cw_lane (i := i) hi) rfl in_X3_isYard_X3 4 (by decide) (index := 25) (List.mem_of_getElem? (i := 1) rfl) rfl dX3_isYard_6 ?_
    refine lv_icmp_ge (tgt := 16) hx hb dX3_isYard_9 (by decide) (fun c2 => ?_) (fun c2 => ?_)
    · replace hf := it_t c2 hf
      refine lv_iconst (v := 0) hx hb dX3_isYard_16 (by decide) ?_
      exact fin (0 : Int32) S _ _ _ _ rfl (Option.some.inj hf) rfl hH dX3_isYard_17
    · replace hf := it_f c2 hf
      refine lv_iconst (v := 1) hx hb dX3_isYard_12 (by decide) ?_
      refine lv_goto (tgt := 17) hx hb dX3_isYard_13 (by decide) ?_
      exact fin (1 : Int32) S _ _ _ _ rfl (Option.some.inj hf) rfl hH dX3_isYard_17
theorem in_X3_isWet_X3 : ∀ w ∈ wsX30, w ∈ wsX3_isWet := fun w h => List.mem_cons_of_mem _ (List.mem_append_right _ h)
set_option maxRecDepth 100000 in
set_option maxHeartbeats 4000000 in
theorem c_X3_isWet (l : Launch) (G : Gt) (A : Nat → Prop) (S : St) (i : Nat) (hi : i < 2) (a1 : Int32) (q : Int32) (hf : f_X3_isWet S i a1 = some q) : Met l yX3_isWet wsX3_isWet ({ frames := 1, cells := 0, slots := 0, locals := 21 } : Room) (va_Pc [.ref (gC G (33 + 5 * i)), .int a1] (PK G A (CW G S))) (va_Qi (fun (r2 : Int32) S2 => r2 = q ∧ S2 = S) (fun S2 : St => PK G A (CW G S2)) A) 0 0 A := by
  refine mstart_z (ty := .boolean) (Wd := CW G) (cc := cX3_isWet) (maxL := 2) (by decide) rfl (Nat.le_of_ble_eq_true rfl) (fun p e s m below meth c Qm ls hC hH hl fin => ?_)
  obtain ⟨hx, hb, hml, hown, hts⟩ := id hC.1
  have hl : lv_has ls 2 [(0, .ref (gC G (33 + 5 * i))), (1, .int a1)] := hl
  have hf := hf
  rw [f_X3_isWet] at hf
  refine lv_aload_n hx hb dX3_isWet_0 rfl (lv_at hl 0 rfl) ?_
  refine lv_iload_n hx hb dX3_isWet_1 rfl (lv_at hl 1 rfl) ?_
  obtain ⟨r1, hr1, hf⟩ := ob hf
  refine callV_i [.int a1] [] hC hH (c_X3_isYard l G A S i hi a1 _ hr1) (cwV 1 hts gX3_isWet_X3_isYard rfl rfl rfl (by decide +kernel) ⟨Nat.le_of_ble_eq_true rfl, Nat.le_of_ble_eq_true rfl⟩) (recvW hC hH (c0 := 33 + 5 * i) (ci := 3) (cw_lane (i := i) hi) rfl) rfl hl.1 rfl (Nat.le_of_ble_eq_true rfl) dX3_isWet_2 (fun H locs hH => ?_)
  refine lv_if_eq (tgt := 30) hx hb dX3_isWet_5 (by decide) (fun c2 => ?_) (fun c2 => ?_)
  · replace hf := it_t c2 hf
    refine lv_iconst (v := 0) hx hb dX3_isWet_30 (by decide) ?_
    exact fin (0 : Int32) S _ _ _ _ rfl (Option.some.inj hf) rfl hH dX3_isWet_31
  · replace hf := it_f c2 hf
    refine lv_iload_n hx hb dX3_isWet_8 rfl (lv_at hl 1 rfl) ?_
    refine lv_aload_n hx hb dX3_isWet_9 rfl (lv_at hl 0 rfl) ?_
    refine getO hC hH (33 + 5 * i) (cw_lane (i := i) hi) rfl in_X3_isWet_X3 1 (by decide) (index := 15) (List.mem_of_getElem? (i := 1) rfl) rfl dX3_isWet_10 ?_
    refine alen hC hH (35 + 5 * i) 2 (cw_wet (i := i) hi) rfl (v := 24) rfl dX3_isWet_13 ?_
    refine lv_icmp_ge (tgt := 30) hx hb dX3_isWet_14 (by decide) (fun c3 => ?_) (fun c3 => ?_)
    · replace hf := it_t c3 hf
      refine lv_iconst (v := 0) hx hb dX3_isWet_30 (by decide) ?_
      exact fin (0 : Int32) S _ _ _ _ rfl (Option.some.inj hf) rfl hH dX3_isWet_31
    · replace hf := it_f c3 hf
      refine lv_aload_n hx hb dX3_isWet_17 rfl (lv_at hl 0 rfl) ?_
      refine getO hC hH (33 + 5 * i) (cw_lane (i := i) hi) rfl in_X3_isWet_X3 1 (by decide) (index := 15) (List.mem_of_getElem? (i := 1) rfl) rfl dX3_isWet_18 ?_
      refine lv_iload_n hx hb dX3_isWet_21 rfl (lv_at hl 1 rfl) ?_
      obtain ⟨g4, hf⟩ := gd hf
      refine aldZ hC hH (35 + 5 * i) (cw_wet (i := i) hi) g4 dX3_isWet_22 ?_
      refine lv_if_eq (tgt := 30) hx hb dX3_isWet_23 (by decide) (fun c5 => ?_) (fun c5 => ?_)
      · replace hf := it_t c5 hf
        refine lv_iconst (v := 0) hx hb dX3_isWet_30 (by decide) ?_
        exact fin (0 : Int32) S _ _ _ _ rfl (Option.some.inj hf) rfl hH dX3_isWet_31
      · replace hf := it_f c5 hf
        refine lv_iconst (v := 1) hx hb dX3_isWet_26 (by decide) ?_
        refine lv_goto (tgt := 31) hx hb dX3_isWet_27 (by decide) ?_
        exact fin (1 : Int32) S _ _ _ _ rfl (Option.some.inj hf) rfl hH dX3_isWet_31
