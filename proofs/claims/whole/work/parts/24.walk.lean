/-! walks: X10_keep X10_back X10_count X10_trace -/
theorem in_X10_keep_X10 : ∀ w ∈ wsX100, w ∈ wsX10_keep := fun w h => List.mem_cons_of_mem _ (List.mem_append_right _ h)
set_option maxRecDepth 100000 in
set_option maxHeartbeats 4000000 in
theorem c_X10_keep (l : Launch) (G : Gt) (A : Nat → Prop) (N : Nat) (S : St)  (a1 : Int32) (q : Int32 × St) (hf : f_X10_keep N S a1 = some q) : Met l yX10_keep wsX10_keep ({ frames := 2, cells := 0, slots := 0, locals := 43 } : Room) (va_Pc [.ref (gM G 0), .int a1] (PK G A (MW G S))) (va_Qi (fun (r2 : Int32) S2 => r2 = q.1 ∧ S2 = q.2) (fun S2 : St => PK G A (MW G S2)) A) 0 0 A := by
  refine mstart_i (Wd := MW G) (cc := cX10_keep) (maxL := 3) (by decide) rfl (Nat.le_of_ble_eq_true rfl) (fun p e s m below meth c Qm ls hC hH hl fin => ?_)
  obtain ⟨hx, hb, hml, hown, hts⟩ := id hC.1
  have hl : lv_has ls 3 [(0, .ref (gM G 0)), (1, .int a1)] := hl
  have kL18 : ∀ (k47 : St → Option (Int32 × St)) (hk47 : ∀ (S : St) (H : Heap) (locs : List Loc) (ls : Array Slot), HW G A (MW G S) s H locs → lv_has ls 3 [(0, .ref (gM G 0)), (1, .int a1)] → k47 S = some q → W p l e ({ frames := 2, cells := 0, slots := 0, locals := 43 } : Room) s m [.ref (gM G 0), .int a1].toArray below meth c H locs 0 0 Qm (F0 m 47 ls [])) , ∀ (n : Nat), ∀ (S : St) (x2 : Int32) (H : Heap) (locs : List Loc) (ls : Array Slot), HW G A (MW G S) s H locs → lv_has ls 3 [(0, .ref (gM G 0)), (1, .int a1), (2, .int x2)] → g_X10_keep_18 N a1 k47 n S x2 = some q → W p l e ({ frames := 2, cells := 0, slots := 0, locals := 43 } : Room) s m [.ref (gM G 0), .int a1].toArray below meth c H locs 0 0 Qm (F0 m 18 ls []) := by
    intro k47 hk47 n
    induction n with
    | zero => intro S x2 H locs ls hH hl hf; exact absurd hf.symm (Option.some_ne_none q)
    | succ n ih =>
      intro S x2 H locs ls hH hl hf
      have hrec := ih
      have hf : s_X10_keep_18 N a1 k47 (g_X10_keep_18 N a1 k47 n) S x2 = some q := hf
      rw [s_X10_keep_18] at hf
      refine lv_iload_n hx hb dX10_keep_18 rfl (lv_at hl 2 rfl) ?_
      refine lv_bipush (v := 10) hx hb dX10_keep_19 (by decide) ?_
      refine lv_icmp_ge (tgt := 47) hx hb dX10_keep_21 (by decide) (fun c4 => ?_) (fun c4 => ?_)
      · replace hf := it_t c4 hf
        exact hk47 S _ _ _ hH (lv_sub hl [0, 1] rfl) hf
      · replace hf := it_f c4 hf
        refine lv_aload_n hx hb dX10_keep_24 rfl (lv_at hl 0 rfl) ?_
        refine getO hC hH (0) rfl rfl in_X10_keep_X10 19 (by decide) (index := 31) (List.mem_of_getElem? (i := 2) rfl) rfl dX10_keep_25 ?_
        refine lv_bipush (v := 10) hx hb dX10_keep_28 (by decide) ?_
        refine lv_iload_n hx hb dX10_keep_30 rfl (lv_at hl 1 rfl) ?_
        refine lv_imul hx hb dX10_keep_31 ?_
        refine lv_iload_n hx hb dX10_keep_32 rfl (lv_at hl 2 rfl) ?_
        refine lv_iadd hx hb dX10_keep_33 ?_
        refine lv_aload_n hx hb dX10_keep_34 rfl (lv_at hl 0 rfl) ?_
        refine getO hC hH (0) rfl rfl in_X10_keep_X10 18 (by decide) (index := 28) (List.mem_of_getElem? (i := 3) rfl) rfl dX10_keep_35 ?_
        refine lv_iload_n hx hb dX10_keep_38 rfl (lv_at hl 2 rfl) ?_
        obtain ⟨g5, hf⟩ := gd hf
        refine aldI hC hH (7) rfl g5 dX10_keep_39 ?_
        obtain ⟨g6, hf⟩ := gd hf
        refine astI hC hH (8) rfl g6 mt_8 dX10_keep_40 (fun H locs hH => ?_)
        obtain ⟨S7, eS7⟩ : ∃ Z : St, Z = sA S 8 (upd (gA S 8) (((10 : Int32) * a1) + x2).toNatClampNeg (gA S 7 x2.toNatClampNeg)) := ⟨_, rfl⟩
        rw [← eS7] at hH
        replace hf := bn eS7 hf
        refine lv_iinc (v := x2 + (1 : Int32)) (lv' := [(2, .int (x2 + (1 : Int32))), (0, .ref (gM G 0)), (1, .int a1)]) hx hb dX10_keep_41 hl (k := 2) rfl rfl (by decide) rfl (fun ls hl => ?_)
        refine lv_goto (tgt := 18) hx hb dX10_keep_44 (by decide) ?_
        exact hrec S7 (x2 + (1 : Int32)) _ _ _ hH (lv_sub hl [1, 2, 0] rfl) hf
  have hf := hf
  rw [f_X10_keep] at hf
  refine lv_aload_n hx hb dX10_keep_0 rfl (lv_at hl 0 rfl) ?_
  refine lv_iconst (v := 0) hx hb dX10_keep_1 (by decide) ?_
  refine putO hC hH (0) rfl rfl in_X10_keep_X10 tyX10 tyX10_ok nmX10 0 (by decide) (index := 58) (List.mem_of_getElem? (i := 1) rfl) rfl rfl rfl (Nat.le_of_ble_eq_true rfl) ms_0_0 dX10_keep_2 (fun H locs hH => ?_)
  obtain ⟨S1, eS1⟩ : ∃ Z : St, Z = sI S 0 0 (0 : Int32) := ⟨_, rfl⟩
  rw [← eS1] at hH
  replace hf := bn eS1 hf
  refine lv_iload_n hx hb dX10_keep_5 rfl (lv_at hl 1 rfl) ?_
  refine lv_iconst (v := 0) hx hb dX10_keep_6 (by decide) ?_
  refine lv_iconst (v := 1) hx hb dX10_keep_7 (by decide) ?_
  obtain ⟨r2, hr2, hf⟩ := ob hf
  refine callS_i [.int a1, .int (0 : Int32), .int (1 : Int32)] [] hC hH (c_X10_in l G A S1 a1 (0 : Int32) (1 : Int32) _ hr2) (va_cwS 3 hts gX10_keep_X10_in rfl rfl rfl (by decide +kernel) ⟨Nat.le_of_ble_eq_true rfl, Nat.le_of_ble_eq_true rfl⟩) rfl hl.1 rfl (Nat.le_of_ble_eq_true rfl) dX10_keep_8 (fun H locs hH => ?_)
  refine lv_if_ne (tgt := 16) hx hb dX10_keep_11 (by decide) (fun c3 => ?_) (fun c3 => ?_)
  · replace hf := it_f c3 hf
    refine lv_iconst (v := 0) hx hb dX10_keep_16 (by decide) ?_
    refine lv_istore_n (lv' := [(2, .int (0 : Int32)), (0, .ref (gM G 0)), (1, .int a1)]) hx hb dX10_keep_17 rfl hl (by decide) rfl (fun ls hl => ?_)
    refine kL18 _ ?_ N S1 (0 : Int32) _ _ _ hH (lv_sub hl [1, 2, 0] rfl) hf
    intro S8 H locs ls hH hl hf
    refine lv_aload_n hx hb dX10_keep_47 rfl (lv_at hl 0 rfl) ?_
    refine getO hC hH (0) rfl rfl in_X10_keep_X10 20 (by decide) (index := 34) (List.mem_of_getElem? (i := 4) rfl) rfl dX10_keep_48 ?_
    refine lv_iload_n hx hb dX10_keep_51 rfl (lv_at hl 1 rfl) ?_
    refine lv_iconst (v := 1) hx hb dX10_keep_52 (by decide) ?_
    obtain ⟨g9, hf⟩ := gd hf
    refine astZ hC hH (9) rfl g9 (y := (1 : Int32)) rfl mt_9 dX10_keep_53 (fun H locs hH => ?_)
    obtain ⟨S10, eS10⟩ : ∃ Z : St, Z = sA S8 9 (upd (gA S8 9) a1.toNatClampNeg (1 : Int32)) := ⟨_, rfl⟩
    rw [← eS10] at hH
    replace hf := bn eS10 hf
    refine lv_aload_n hx hb dX10_keep_54 rfl (lv_at hl 0 rfl) ?_
    obtain ⟨r11, hr11, hf⟩ := ob hf
    refine callV_i [] [] hC hH (c_X10_manyHome l G A N S10 _ hr11) (cwV 0 hts gX10_keep_X10_manyHome rfl rfl rfl (by decide +kernel) ⟨Nat.le_of_ble_eq_true rfl, Nat.le_of_ble_eq_true rfl⟩) (recvW hC hH (c0 := 0) (ci := 10) rfl rfl) rfl hl.1 rfl (Nat.le_of_ble_eq_true rfl) dX10_keep_55 (fun H locs hH => ?_)
    exact fin r11 S10 _ _ _ _ (congrArg Prod.fst (Option.some.inj hf)) (congrArg Prod.snd (Option.some.inj hf)) hH dX10_keep_58
  · replace hf := it_t c3 hf
    refine lv_iconst (v := -1) hx hb dX10_keep_14 (by decide) ?_
    exact fin (-1 : Int32) S1 _ _ _ _ (congrArg Prod.fst (Option.some.inj hf)) (congrArg Prod.snd (Option.some.inj hf)) hH dX10_keep_15
theorem in_X10_back_X10 : ∀ w ∈ wsX100, w ∈ wsX10_back := fun w h => List.mem_cons_of_mem _ (List.mem_append_right _ h)
set_option maxRecDepth 100000 in
set_option maxHeartbeats 4000000 in
theorem c_X10_back (l : Launch) (G : Gt) (A : Nat → Prop) (N : Nat) (S : St)  (a1 : Int32) (q : Int32 × St) (hf : f_X10_back N S a1 = some q) : Met l yX10_back wsX10_back ({ frames := 2, cells := 0, slots := 0, locals := 43 } : Room) (va_Pc [.ref (gM G 0), .int a1] (PK G A (MW G S))) (va_Qi (fun (r2 : Int32) S2 => r2 = q.1 ∧ S2 = q.2) (fun S2 : St => PK G A (MW G S2)) A) 0 0 A := by
  refine mstart_i (Wd := MW G) (cc := cX10_back) (maxL := 3) (by decide) rfl (Nat.le_of_ble_eq_true rfl) (fun p e s m below meth c Qm ls hC hH hl fin => ?_)
  obtain ⟨hx, hb, hml, hown, hts⟩ := id hC.1
  have hl : lv_has ls 3 [(0, .ref (gM G 0)), (1, .int a1)] := hl
  have kL30 : ∀ (k59 : St → Option (Int32 × St)) (hk59 : ∀ (S : St) (H : Heap) (locs : List Loc) (ls : Array Slot), HW G A (MW G S) s H locs → lv_has ls 3 [(0, .ref (gM G 0))] → k59 S = some q → W p l e ({ frames := 2, cells := 0, slots := 0, locals := 43 } : Room) s m [.ref (gM G 0), .int a1].toArray below meth c H locs 0 0 Qm (F0 m 59 ls [])) , ∀ (n : Nat), ∀ (S : St) (x2 : Int32) (H : Heap) (locs : List Loc) (ls : Array Slot), HW G A (MW G S) s H locs → lv_has ls 3 [(0, .ref (gM G 0)), (1, .int a1), (2, .int x2)] → g_X10_back_30 N a1 k59 n S x2 = some q → W p l e ({ frames := 2, cells := 0, slots := 0, locals := 43 } : Room) s m [.ref (gM G 0), .int a1].toArray below meth c H locs 0 0 Qm (F0 m 30 ls []) := by
    intro k59 hk59 n
    induction n with
    | zero => intro S x2 H locs ls hH hl hf; exact absurd hf.symm (Option.some_ne_none q)
    | succ n ih =>
      intro S x2 H locs ls hH hl hf
      have hrec := ih
      have hf : s_X10_back_30 N a1 k59 (g_X10_back_30 N a1 k59 n) S x2 = some q := hf
      rw [s_X10_back_30] at hf
      refine lv_iload_n hx hb dX10_back_30 rfl (lv_at hl 2 rfl) ?_
      refine lv_bipush (v := 10) hx hb dX10_back_31 (by decide) ?_
      refine lv_icmp_ge (tgt := 59) hx hb dX10_back_33 (by decide) (fun c6 => ?_) (fun c6 => ?_)
      · replace hf := it_t c6 hf
        exact hk59 S _ _ _ hH (lv_sub hl [0] rfl) hf
      · replace hf := it_f c6 hf
        refine lv_aload_n hx hb dX10_back_36 rfl (lv_at hl 0 rfl) ?_
        refine getO hC hH (0) rfl rfl in_X10_back_X10 18 (by decide) (index := 28) (List.mem_of_getElem? (i := 3) rfl) rfl dX10_back_37 ?_
        refine lv_iload_n hx hb dX10_back_40 rfl (lv_at hl 2 rfl) ?_
        refine lv_aload_n hx hb dX10_back_41 rfl (lv_at hl 0 rfl) ?_
        refine getO hC hH (0) rfl rfl in_X10_back_X10 19 (by decide) (index := 31) (List.mem_of_getElem? (i := 4) rfl) rfl dX10_back_42 ?_
        refine lv_bipush (v := 10) hx hb dX10_back_45 (by decide) ?_
        refine lv_iload_n hx hb dX10_back_47 rfl (lv_at hl 1 rfl) ?_
        refine lv_imul hx hb dX10_back_48 ?_
        refine lv_iload_n hx hb dX10_back_49 rfl (lv_at hl 2 rfl) ?_
        refine lv_iadd hx hb dX10_back_50 ?_
        obtain ⟨g7, hf⟩ := gd hf
        refine aldI hC hH (8) rfl g7 dX10_back_51 ?_
        obtain ⟨g8, hf⟩ := gd hf
        refine astI hC hH (7) rfl g8 mt_7 dX10_back_52 (fun H locs hH => ?_)
        obtain ⟨S9, eS9⟩ : ∃ Z : St, Z = sA S 7 (upd (gA S 7) x2.toNatClampNeg (gA S 8 (((10 : Int32) * a1) + x2).toNatClampNeg)) := ⟨_, rfl⟩
        rw [← eS9] at hH
        replace hf := bn eS9 hf
        refine lv_iinc (v := x2 + (1 : Int32)) (lv' := [(2, .int (x2 + (1 : Int32))), (0, .ref (gM G 0)), (1, .int a1)]) hx hb dX10_back_53 hl (k := 2) rfl rfl (by decide) rfl (fun ls hl => ?_)
        refine lv_goto (tgt := 30) hx hb dX10_back_56 (by decide) ?_
        exact hrec S9 (x2 + (1 : Int32)) _ _ _ hH (lv_sub hl [1, 2, 0] rfl) hf
  have hf := hf
  rw [f_X10_back] at hf
  refine lv_aload_n hx hb dX10_back_0 rfl (lv_at hl 0 rfl) ?_
  refine lv_iconst (v := 0) hx hb dX10_back_1 (by decide) ?_
  refine putO hC hH (0) rfl rfl in_X10_back_X10 tyX10 tyX10_ok nmX10 0 (by decide) (index := 58) (List.mem_of_getElem? (i := 1) rfl) rfl rfl rfl (Nat.le_of_ble_eq_true rfl) ms_0_0 dX10_back_2 (fun H locs hH => ?_)
  obtain ⟨S1, eS1⟩ : ∃ Z : St, Z = sI S 0 0 (0 : Int32) := ⟨_, rfl⟩
  rw [← eS1] at hH
  replace hf := bn eS1 hf
  refine lv_iload_n hx hb dX10_back_5 rfl (lv_at hl 1 rfl) ?_
  refine lv_iconst (v := 0) hx hb dX10_back_6 (by decide) ?_
  refine lv_iconst (v := 1) hx hb dX10_back_7 (by decide) ?_
  obtain ⟨r2, hr2, hf⟩ := ob hf
  refine callS_i [.int a1, .int (0 : Int32), .int (1 : Int32)] [] hC hH (c_X10_in l G A S1 a1 (0 : Int32) (1 : Int32) _ hr2) (va_cwS 3 hts gX10_back_X10_in rfl rfl rfl (by decide +kernel) ⟨Nat.le_of_ble_eq_true rfl, Nat.le_of_ble_eq_true rfl⟩) rfl hl.1 rfl (Nat.le_of_ble_eq_true rfl) dX10_back_8 (fun H locs hH => ?_)
  refine lv_if_ne (tgt := 16) hx hb dX10_back_11 (by decide) (fun c3 => ?_) (fun c3 => ?_)
  · replace hf := it_f c3 hf
    refine lv_aload_n hx hb dX10_back_16 rfl (lv_at hl 0 rfl) ?_
    refine getO hC hH (0) rfl rfl in_X10_back_X10 20 (by decide) (index := 34) (List.mem_of_getElem? (i := 2) rfl) rfl dX10_back_17 ?_
    refine lv_iload_n hx hb dX10_back_20 rfl (lv_at hl 1 rfl) ?_
    obtain ⟨g4, hf⟩ := gd hf
    refine aldZ hC hH (9) rfl g4 dX10_back_21 ?_
    refine lv_if_ne (tgt := 28) hx hb dX10_back_22 (by decide) (fun c5 => ?_) (fun c5 => ?_)
    · replace hf := it_f c5 hf
      refine lv_iconst (v := 0) hx hb dX10_back_28 (by decide) ?_
      refine lv_istore_n (lv' := [(2, .int (0 : Int32)), (0, .ref (gM G 0)), (1, .int a1)]) hx hb dX10_back_29 rfl hl (by decide) rfl (fun ls hl => ?_)
      refine kL30 _ ?_ N S1 (0 : Int32) _ _ _ hH (lv_sub hl [1, 2, 0] rfl) hf
      intro S10 H locs ls hH hl hf
      refine lv_aload_n hx hb dX10_back_59 rfl (lv_at hl 0 rfl) ?_
      refine lv_iconst (v := 0) hx hb dX10_back_60 (by decide) ?_
      refine putO hC hH (0) rfl rfl in_X10_back_X10 tyX10 tyX10_ok nmX10 22 (by decide) (index := 138) (List.mem_of_getElem? (i := 5) rfl) rfl rfl rfl (Nat.le_of_ble_eq_true rfl) ms_0_22 dX10_back_61 (fun H locs hH => ?_)
      obtain ⟨S11, eS11⟩ : ∃ Z : St, Z = sI S10 0 22 (0 : Int32) := ⟨_, rfl⟩
      rw [← eS11] at hH
      replace hf := bn eS11 hf
      refine lv_aload_n hx hb dX10_back_64 rfl (lv_at hl 0 rfl) ?_
      obtain ⟨r12, hr12, hf⟩ := ob hf
      refine callV_i [] [] hC hH (c_X10_manyHome l G A N S11 _ hr12) (cwV 0 hts gX10_back_X10_manyHome rfl rfl rfl (by decide +kernel) ⟨Nat.le_of_ble_eq_true rfl, Nat.le_of_ble_eq_true rfl⟩) (recvW hC hH (c0 := 0) (ci := 10) rfl rfl) rfl hl.1 rfl (Nat.le_of_ble_eq_true rfl) dX10_back_65 (fun H locs hH => ?_)
      exact fin r12 S11 _ _ _ _ (congrArg Prod.fst (Option.some.inj hf)) (congrArg Prod.snd (Option.some.inj hf)) hH dX10_back_68
    · replace hf := it_t c5 hf
      refine lv_bipush (v := -2) hx hb dX10_back_25 (by decide) ?_
      exact fin (-2 : Int32) S1 _ _ _ _ (congrArg Prod.fst (Option.some.inj hf)) (congrArg Prod.snd (Option.some.inj hf)) hH dX10_back_27
  · replace hf := it_t c3 hf
    refine lv_iconst (v := -1) hx hb dX10_back_14 (by decide) ?_
    exact fin (-1 : Int32) S1 _ _ _ _ (congrArg Prod.fst (Option.some.inj hf)) (congrArg Prod.snd (Option.some.inj hf)) hH dX10_back_15
theorem in_X10_count_X10 : ∀ w ∈ wsX100, w ∈ wsX10_count := fun w h => List.mem_cons_of_mem _ (List.mem_append_right _ h)
set_option maxRecDepth 100000 in
set_option maxHeartbeats 4000000 in
theorem c_X10_count (l : Launch) (G : Gt) (A : Nat → Prop) (S : St)  (a1 : Int32) (q : Int32 × St) (hf : f_X10_count S a1 = some q) : Met l yX10_count wsX10_count ({ frames := 0, cells := 0, slots := 0, locals := 0 } : Room) (va_Pc [.ref (gM G 0), .int a1] (PK G A (MW G S))) (va_Qi (fun (r2 : Int32) S2 => r2 = q.1 ∧ S2 = q.2) (fun S2 : St => PK G A (MW G S2)) A) 0 0 A := by
  refine mstart_i (Wd := MW G) (cc := cX10_count) (maxL := 2) (by decide) rfl (Nat.le_of_ble_eq_true rfl) (fun p e s m below meth c Qm ls hC hH hl fin => ?_)
  obtain ⟨hx, hb, hml, hown, hts⟩ := id hC.1
  have hl : lv_has ls 2 [(0, .ref (gM G 0)), (1, .int a1)] := hl
  have hf := hf
  rw [f_X10_count] at hf
  refine lv_aload_n hx hb dX10_count_0 rfl (lv_at hl 0 rfl) ?_
  refine lv_iconst (v := 0) hx hb dX10_count_1 (by decide) ?_
  refine putO hC hH (0) rfl rfl in_X10_count_X10 tyX10 tyX10_ok nmX10 0 (by decide) (index := 58) (List.mem_of_getElem? (i := 1) rfl) rfl rfl rfl (Nat.le_of_ble_eq_true rfl) ms_0_0 dX10_count_2 (fun H locs hH => ?_)
  obtain ⟨S1, eS1⟩ : ∃ Z : St, Z = sI S 0 0 (0 : Int32) := ⟨_, rfl⟩
  rw [← eS1] at hH
  replace hf := bn eS1 hf
  refine lv_iload_n hx hb dX10_count_5 rfl (lv_at hl 1 rfl) ?_
  refine lv_if_ne (tgt := 16) hx hb dX10_count_6 (by decide) (fun c2 => ?_) (fun c2 => ?_)
  · replace hf := it_f c2 hf
    refine lv_iload_n hx hb dX10_count_16 rfl (lv_at hl 1 rfl) ?_
    refine lv_iconst (v := 1) hx hb dX10_count_17 (by decide) ?_
    refine lv_icmp_ne (tgt := 28) hx hb dX10_count_18 (by decide) (fun c3 => ?_) (fun c3 => ?_)
    · replace hf := it_f c3 hf
      refine lv_iload_n hx hb dX10_count_28 rfl (lv_at hl 1 rfl) ?_
      refine lv_iconst (v := 2) hx hb dX10_count_29 (by decide) ?_
      refine lv_icmp_ne (tgt := 40) hx hb dX10_count_30 (by decide) (fun c4 => ?_) (fun c4 => ?_)
      · replace hf := it_f c4 hf
        refine lv_iload_n hx hb dX10_count_40 rfl (lv_at hl 1 rfl) ?_
        refine lv_iconst (v := 3) hx hb dX10_count_41 (by decide) ?_
        refine lv_icmp_ne (tgt := 52) hx hb dX10_count_42 (by decide) (fun c5 => ?_) (fun c5 => ?_)
        · replace hf := it_f c5 hf
          refine lv_iconst (v := -1) hx hb dX10_count_52 (by decide) ?_
          exact fin (-1 : Int32) S1 _ _ _ _ (congrArg Prod.fst (Option.some.inj hf)) (congrArg Prod.snd (Option.some.inj hf)) hH dX10_count_53
        · replace hf := it_t c5 hf
          refine lv_aload_n hx hb dX10_count_45 rfl (lv_at hl 0 rfl) ?_
          refine getO hC hH (0) rfl rfl in_X10_count_X10 3 (by decide) (index := 65) (List.mem_of_getElem? (i := 5) rfl) rfl dX10_count_46 ?_
          refine lv_goto (tgt := 53) hx hb dX10_count_49 (by decide) ?_
          exact fin (gI S1 0 3) S1 _ _ _ _ (congrArg Prod.fst (Option.some.inj hf)) (congrArg Prod.snd (Option.some.inj hf)) hH dX10_count_53
      · replace hf := it_t c4 hf
        refine lv_aload_n hx hb dX10_count_33 rfl (lv_at hl 0 rfl) ?_
        refine getO hC hH (0) rfl rfl in_X10_count_X10 22 (by decide) (index := 138) (List.mem_of_getElem? (i := 4) rfl) rfl dX10_count_34 ?_
        refine lv_goto (tgt := 53) hx hb dX10_count_37 (by decide) ?_
        exact fin (gI S1 0 22) S1 _ _ _ _ (congrArg Prod.fst (Option.some.inj hf)) (congrArg Prod.snd (Option.some.inj hf)) hH dX10_count_53
    · replace hf := it_t c3 hf
      refine lv_aload_n hx hb dX10_count_21 rfl (lv_at hl 0 rfl) ?_
      refine getO hC hH (0) rfl rfl in_X10_count_X10 24 (by decide) (index := 141) (List.mem_of_getElem? (i := 3) rfl) rfl dX10_count_22 ?_
      refine lv_goto (tgt := 53) hx hb dX10_count_25 (by decide) ?_
      exact fin (gI S1 0 24) S1 _ _ _ _ (congrArg Prod.fst (Option.some.inj hf)) (congrArg Prod.snd (Option.some.inj hf)) hH dX10_count_53
  · replace hf := it_t c2 hf
    refine lv_aload_n hx hb dX10_count_9 rfl (lv_at hl 0 rfl) ?_
    refine getO hC hH (0) rfl rfl in_X10_count_X10 15 (by decide) (index := 135) (List.mem_of_getElem? (i := 2) rfl) rfl dX10_count_10 ?_
    refine lv_goto (tgt := 53) hx hb dX10_count_13 (by decide) ?_
    exact fin (gI S1 0 15) S1 _ _ _ _ (congrArg Prod.fst (Option.some.inj hf)) (congrArg Prod.snd (Option.some.inj hf)) hH dX10_count_53
theorem in_X10_trace_X10 : ∀ w ∈ wsX100, w ∈ wsX10_trace := fun w h => List.mem_cons_of_mem _ (List.mem_append_right _ h)
set_option maxRecDepth 100000 in
set_option maxHeartbeats 4000000 in
theorem c_X10_trace (l : Launch) (G : Gt) (A : Nat → Prop) (S : St)   (q : Int64 × St) (hf : f_X10_trace S = some q) : Met l yX10_trace wsX10_trace ({ frames := 0, cells := 0, slots := 0, locals := 0 } : Room) (va_Pc [.ref (gM G 0)] (PK G A (MW G S))) (va_Ql (fun (r2 : Int64) S2 => r2 = q.1 ∧ S2 = q.2) (fun S2 : St => PK G A (MW G S2)) A) 0 0 A := by
  refine mstart_l (Wd := MW G) (cc := cX10_trace) (maxL := 1) (by decide) rfl (Nat.le_of_ble_eq_true rfl) (fun p e s m below meth c Qm ls hC hH hl fin => ?_)
  obtain ⟨hx, hb, hml, hown, hts⟩ := id hC.1
  have hl : lv_has ls 1 [(0, .ref (gM G 0))] := hl
  have hf := hf
  rw [f_X10_trace] at hf
  refine lv_aload_n hx hb dX10_trace_0 rfl (lv_at hl 0 rfl) ?_
  refine lv_iconst (v := 0) hx hb dX10_trace_1 (by decide) ?_
  refine putO hC hH (0) rfl rfl in_X10_trace_X10 tyX10 tyX10_ok nmX10 0 (by decide) (index := 58) (List.mem_of_getElem? (i := 1) rfl) rfl rfl rfl (Nat.le_of_ble_eq_true rfl) ms_0_0 dX10_trace_2 (fun H locs hH => ?_)
  obtain ⟨S1, eS1⟩ : ∃ Z : St, Z = sI S 0 0 (0 : Int32) := ⟨_, rfl⟩
  rw [← eS1] at hH
  replace hf := bn eS1 hf
  refine lv_aload_n hx hb dX10_trace_5 rfl (lv_at hl 0 rfl) ?_
  refine getO hC hH (0) rfl rfl in_X10_trace_X10 1 (by decide) (index := 218) (List.mem_of_getElem? (i := 2) rfl) rfl dX10_trace_6 ?_
  exact fin (gJ S1 0 1) S1 _ _ _ _ (congrArg Prod.fst (Option.some.inj hf)) (congrArg Prod.snd (Option.some.inj hf)) hH dX10_trace_9
