/-! walks: X3_catchOf X1_find X1_number X3_begin X3_setWind X3_setWet X3_addRunner X3_isRunner X4_placeOf X4_chance X4_chanceByToss X4_bestChance -/
theorem in_X3_catchOf_X3 : ∀ w ∈ wsX30, w ∈ wsX3_catchOf := fun w h => List.mem_cons_of_mem _ (List.mem_append_right _ h)
set_option maxRecDepth 100000 in
set_option maxHeartbeats 4000000 in
theorem c_X3_catchOf (l : Launch) (G : Gt) (A : Nat → Prop) (S : St) (i : Nat) (hi : i < 2) (a1 : Int32) (a2 : Int32) (a3 : Int32) (a4 : Int32) (a5 : Int32) (a6 : Int32) (q : Int32) (hf : f_X3_catchOf S i a1 a2 a3 a4 a5 a6 = some q) : Met l yX3_catchOf wsX3_catchOf ({ frames := 3, cells := 0, slots := 0, locals := 71 } : Room) (va_Pc [.ref (gC G (33 + 5 * i)), .int a1, .int a2, .int a3, .int a4, .int a5, .int a6] (PK G A (CW G S))) (va_Qi (fun (r2 : Int32) S2 => r2 = q ∧ S2 = S) (fun S2 : St => PK G A (CW G S2)) A) 0 0 A := by
  refine mstart_i (Wd := CW G) (cc := cX3_catchOf) (maxL := 10) (by decide) rfl (Nat.le_of_ble_eq_true rfl) (fun p e s m below meth c Qm ls hC hH hl fin => ?_)
  obtain ⟨hx, hb, hml, hown, hts⟩ := id hC.1
  have hl : lv_has ls 10 [(0, .ref (gC G (33 + 5 * i))), (1, .int a1), (2, .int a2), (3, .int a3), (4, .int a4), (5, .int a5), (6, .int a6)] := hl
  have kJ67 : ∀ (x9 : Int32) (H : Heap) (locs : List Loc) (ls : Array Slot), HW G A (CW G S) s H locs → lv_has ls 10 [(9, .int x9)] → f_X3_catchOf_67 S i x9 = some q → W p l e ({ frames := 3, cells := 0, slots := 0, locals := 71 } : Room) s m [.ref (gC G (33 + 5 * i)), .int a1, .int a2, .int a3, .int a4, .int a5, .int a6].toArray below meth c H locs 0 0 Qm (F0 m 67 ls []) := by
    intro x9 H locs ls hH hl hf
    rw [f_X3_catchOf_67] at hf
    refine lv_iconst (v := 0) hx hb dX3_catchOf_67 (by decide) ?_
    refine lv_bipush (v := 10) hx hb dX3_catchOf_68 (by decide) ?_
    refine lv_iload hx hb dX3_catchOf_70 (lv_at hl 0 rfl) ?_
    refine va_mmin hx hb (by rw [hml]; exact hl.1.symm) hown (hts _ (List.mem_of_getElem? (i := 5) rfl)) (hts _ (List.mem_of_getElem? (i := 6) rfl)) (hts _ (List.mem_of_getElem? (i := 3) rfl)) (hts _ (List.mem_of_getElem? (i := 7) rfl)) (Nat.le_of_ble_eq_true rfl) (Nat.le_of_ble_eq_true rfl) (Nat.zero_le _) (Nat.zero_le _) dX3_catchOf_72 ?_
    refine va_mmax hx hb (by rw [hml]; exact hl.1.symm) hown (hts _ (List.mem_of_getElem? (i := 8) rfl)) (hts _ (List.mem_of_getElem? (i := 9) rfl)) (hts _ (List.mem_of_getElem? (i := 3) rfl)) (hts _ (List.mem_of_getElem? (i := 10) rfl)) (Nat.le_of_ble_eq_true rfl) (Nat.le_of_ble_eq_true rfl) (Nat.zero_le _) (Nat.zero_le _) dX3_catchOf_75 ?_
    exact fin (if (0 : Int32) < (if x9 < (10 : Int32) then x9 else (10 : Int32)) then (if x9 < (10 : Int32) then x9 else (10 : Int32)) else (0 : Int32)) S _ _ _ _ (Option.some.inj hf) rfl hH dX3_catchOf_78
  have kJ55 : ∀ (x7 : Int32) (x9 : Int32) (H : Heap) (locs : List Loc) (ls : Array Slot), HW G A (CW G S) s H locs → lv_has ls 10 [(0, .ref (gC G (33 + 5 * i))), (7, .int x7), (9, .int x9)] → f_X3_catchOf_55 S i x7 x9 = some q → W p l e ({ frames := 3, cells := 0, slots := 0, locals := 71 } : Room) s m [.ref (gC G (33 + 5 * i)), .int a1, .int a2, .int a3, .int a4, .int a5, .int a6].toArray below meth c H locs 0 0 Qm (F0 m 55 ls []) := by
    intro x7 x9 H locs ls hH hl hf
    rw [f_X3_catchOf_55] at hf
    refine lv_aload_n hx hb dX3_catchOf_55 rfl (lv_at hl 0 rfl) ?_
    refine lv_iload hx hb dX3_catchOf_56 (lv_at hl 1 rfl) ?_
    obtain ⟨r8, hr8, hf⟩ := ob hf
    refine callV_i [.int x7] [] hC hH (c_X3_isWet l G A S i hi x7 _ hr8) (cwV 1 hts gX3_catchOf_X3_isWet rfl rfl rfl (by decide +kernel) ⟨Nat.le_of_ble_eq_true rfl, Nat.le_of_ble_eq_true rfl⟩) (recvW hC hH (c0 := 33 + 5 * i) (ci := 3) (cw_lane (i := i) hi) rfl) rfl hl.1 rfl (Nat.le_of_ble_eq_true rfl) dX3_catchOf_58 (fun H locs hH => ?_)
    refine lv_if_eq (tgt := 67) hx hb dX3_catchOf_61 (by decide) (fun c9 => ?_) (fun c9 => ?_)
    · replace hf := it_t c9 hf
      exact kJ67  x9 _ _ _ hH (lv_sub hl [2] rfl) hf
    · replace hf := it_f c9 hf
      refine lv_iinc (v := x9 + (-2 : Int32)) (lv' := [(9, .int (x9 + (-2 : Int32))), (0, .ref (gC G (33 + 5 * i))), (7, .int x7)]) hx hb dX3_catchOf_64 hl (k := 2) rfl rfl (by decide) rfl (fun ls hl => ?_)
      exact kJ67  (x9 + (-2 : Int32)) _ _ _ hH (lv_sub hl [0] rfl) hf
  have hf := hf
  rw [f_X3_catchOf] at hf
  refine lv_aload_n hx hb dX3_catchOf_0 rfl (lv_at hl 0 rfl) ?_
  refine lv_iload_n hx hb dX3_catchOf_1 rfl (lv_at hl 1 rfl) ?_
  refine lv_iload_n hx hb dX3_catchOf_2 rfl (lv_at hl 2 rfl) ?_
  refine lv_iload_n hx hb dX3_catchOf_3 rfl (lv_at hl 3 rfl) ?_
  refine lv_iload hx hb dX3_catchOf_4 (lv_at hl 6 rfl) ?_
  obtain ⟨r1, hr1, hf⟩ := ob hf
  refine callV_i [.int a1, .int a2, .int a3, .int a6] [] hC hH (c_X3_yardAfter l G A S i hi a1 a2 a3 a6 _ hr1) (cwV 4 hts gX3_catchOf_X3_yardAfter rfl rfl rfl (by decide +kernel) ⟨Nat.le_of_ble_eq_true rfl, Nat.le_of_ble_eq_true rfl⟩) (recvW hC hH (c0 := 33 + 5 * i) (ci := 3) (cw_lane (i := i) hi) rfl) rfl hl.1 rfl (Nat.le_of_ble_eq_true rfl) dX3_catchOf_6 (fun H locs hH => ?_)
  refine lv_istore (lv' := [(7, .int r1), (0, .ref (gC G (33 + 5 * i))), (1, .int a1), (2, .int a2), (3, .int a3), (4, .int a4), (5, .int a5), (6, .int a6)]) hx hb dX3_catchOf_9 hl (by decide) rfl (fun ls hl => ?_)
  refine lv_aload_n hx hb dX3_catchOf_11 rfl (lv_at hl 1 rfl) ?_
  refine lv_iload_n hx hb dX3_catchOf_12 rfl (lv_at hl 3 rfl) ?_
  refine lv_iload_n hx hb dX3_catchOf_13 rfl (lv_at hl 4 rfl) ?_
  refine lv_iload hx hb dX3_catchOf_14 (lv_at hl 5 rfl) ?_
  obtain ⟨r2, hr2, hf⟩ := ob hf
  refine callV_i [.int a2, .int a3, .int a4] [] hC hH (c_X3_comesDown l G A S i hi a2 a3 a4 _ hr2) (cwV 3 hts gX3_catchOf_X3_comesDown rfl rfl rfl (by decide +kernel) ⟨Nat.le_of_ble_eq_true rfl, Nat.le_of_ble_eq_true rfl⟩) (recvW hC hH (c0 := 33 + 5 * i) (ci := 3) (cw_lane (i := i) hi) rfl) rfl hl.1 rfl (Nat.le_of_ble_eq_true rfl) dX3_catchOf_16 (fun H locs hH => ?_)
  refine lv_iload hx hb dX3_catchOf_19 (lv_at hl 0 rfl) ?_
  refine lv_isub hx hb dX3_catchOf_21 ?_
  refine va_mabs hx hb (by rw [hml]; exact hl.1.symm) hown (hts _ (List.mem_of_getElem? (i := 1) rfl)) (hts _ (List.mem_of_getElem? (i := 2) rfl)) (hts _ (List.mem_of_getElem? (i := 3) rfl)) (hts _ (List.mem_of_getElem? (i := 4) rfl)) (Nat.le_of_ble_eq_true rfl) (Nat.le_of_ble_eq_true rfl) (Nat.zero_le _) (Nat.zero_le _) dX3_catchOf_22 ?_
  refine lv_topi (fun b3 eb3 => ?_)
  replace hf := bn eb3 hf
  refine lv_istore (lv' := [(8, .int b3), (7, .int r1), (0, .ref (gC G (33 + 5 * i))), (1, .int a1), (2, .int a2), (3, .int a3), (4, .int a4), (5, .int a5), (6, .int a6)]) hx hb dX3_catchOf_25 hl (by decide) rfl (fun ls hl => ?_)
  refine lv_aload_n hx hb dX3_catchOf_27 rfl (lv_at hl 2 rfl) ?_
  refine lv_iload_n hx hb dX3_catchOf_28 rfl (lv_at hl 3 rfl) ?_
  obtain ⟨r4, hr4, hf⟩ := ob hf
  refine callV_i [.int a1] [] hC hH (c_X3_panOf l G A S i hi a1 _ hr4) (cwV 1 hts gX3_catchOf_X3_panOf rfl rfl rfl (by decide +kernel) ⟨Nat.le_of_ble_eq_true rfl, Nat.le_of_ble_eq_true rfl⟩) (recvW hC hH (c0 := 33 + 5 * i) (ci := 3) (cw_lane (i := i) hi) rfl) rfl hl.1 rfl (Nat.le_of_ble_eq_true rfl) dX3_catchOf_29 (fun H locs hH => ?_)
  refine lv_iconst (v := 3) hx hb dX3_catchOf_32 (by decide) ?_
  refine lv_iadd hx hb dX3_catchOf_33 ?_
  refine lv_iconst (v := 3) hx hb dX3_catchOf_34 (by decide) ?_
  refine lv_iload hx hb dX3_catchOf_35 (lv_at hl 0 rfl) ?_
  refine lv_imul hx hb dX3_catchOf_37 ?_
  refine lv_isub hx hb dX3_catchOf_38 ?_
  refine lv_topi (fun b5 eb5 => ?_)
  replace hf := bn eb5 hf
  refine lv_istore (lv' := [(9, .int b5), (8, .int b3), (7, .int r1), (0, .ref (gC G (33 + 5 * i))), (1, .int a1), (2, .int a2), (3, .int a3), (4, .int a4), (5, .int a5), (6, .int a6)]) hx hb dX3_catchOf_39 hl (by decide) rfl (fun ls hl => ?_)
  refine lv_iload_n hx hb dX3_catchOf_41 rfl (lv_at hl 6 rfl) ?_
  refine lv_iload hx hb dX3_catchOf_42 (lv_at hl 8 rfl) ?_
  obtain ⟨r6, hr6, hf⟩ := ob hf
  refine callN_i [.int a3, .int a5] [] hC hH (c_X9_quarters l G A S a3 a5 _ hr6) ⟨va_cnB 2 hts gX3_catchOf_X9_quarters_n78 rfl rfl rfl (hC.2.2.1.2 _ (List.mem_of_getElem? (i := 3) rfl)) (hts _ (List.mem_of_getElem? (i := 17) rfl)) (by decide +kernel) ⟨Nat.le_of_ble_eq_true rfl, Nat.le_of_ble_eq_true rfl⟩, hts _ (List.mem_of_getElem? (i := 43) rfl), trivial⟩ rfl hl.1 rfl (Nat.le_of_ble_eq_true rfl) dX3_catchOf_44 (fun H locs hH => ?_)
  refine lv_iconst (v := 2) hx hb dX3_catchOf_47 (by decide) ?_
  refine lv_irem hx hb dX3_catchOf_48 (by decide) ?_
  refine lv_if_eq (tgt := 55) hx hb dX3_catchOf_49 (by decide) (fun c7 => ?_) (fun c7 => ?_)
  · replace hf := it_t c7 hf
    exact kJ55  r1 b5 _ _ _ hH (lv_sub hl [3, 2, 0] rfl) hf
  · replace hf := it_f c7 hf
    refine lv_iinc (v := b5 + (-2 : Int32)) (lv' := [(9, .int (b5 + (-2 : Int32))), (8, .int b3), (7, .int r1), (0, .ref (gC G (33 + 5 * i))), (1, .int a1), (2, .int a2), (3, .int a3), (4, .int a4), (5, .int a5), (6, .int a6)]) hx hb dX3_catchOf_52 hl (k := 0) rfl rfl (by decide) rfl (fun ls hl => ?_)
    exact kJ55  r1 (b5 + (-2 : Int32)) _ _ _ hH (lv_sub hl [3, 2, 0] rfl) hf
theorem in_X1_find_X1 : ∀ w ∈ wsX10, w ∈ wsX1_find := fun w h => List.mem_cons_of_mem _ (List.mem_append_left _ (List.mem_append_right _ h))
theorem in_X1_find_X3 : ∀ w ∈ wsX30, w ∈ wsX1_find := fun w h => List.mem_cons_of_mem _ (List.mem_append_right _ h)
set_option maxRecDepth 100000 in
set_option maxHeartbeats 4000000 in
theorem c_X1_find (l : Launch) (G : Gt) (A : Nat → Prop) (N : Nat) (S : St) (j1 : Nat) (hj1 : j1 < 2) (a2 : Int32) (a3 : Int32) (a4 : Int32) (q : St) (hf : f_X1_find N S j1 a2 a3 a4 = some q) : Met l yX1_find wsX1_find ({ frames := 4, cells := 0, slots := 0, locals := 100 } : Room) (va_Pc [.ref (gC G 26), .ref (gC G (33 + 5 * j1)), .int a2, .int a3, .int a4] (PK G A (CW G S))) (va_Qv (fun S2 => S2 = q) (fun S2 : St => PK G A (CW G S2)) A) 0 0 A := by
  refine mstart_v (Wd := CW G) (cc := cX1_find) (maxL := 9) (by decide) rfl (Nat.le_of_ble_eq_true rfl) (fun p e s m below meth c Qm ls hC hH hl fin => ?_)
  obtain ⟨hx, hb, hml, hown, hts⟩ := id hC.1
  have hl : lv_has ls 9 [(0, .ref (gC G 26)), (1, .ref (gC G (33 + 5 * j1))), (2, .int a2), (3, .int a3), (4, .int a4)] := hl
  have kL27 : ∀ (k96 : St → Int32 → Option St) (hk96 : ∀ (S : St) (x5 : Int32) (H : Heap) (locs : List Loc) (ls : Array Slot), HW G A (CW G S) s H locs → lv_has ls 9 [(0, .ref (gC G 26)), (1, .ref (gC G (33 + 5 * j1))), (2, .int a2), (3, .int a3), (4, .int a4), (5, .int x5)] → k96 S x5 = some q → W p l e ({ frames := 4, cells := 0, slots := 0, locals := 100 } : Room) s m [.ref (gC G 26), .ref (gC G (33 + 5 * j1)), .int a2, .int a3, .int a4].toArray below meth c H locs 0 0 Qm (F0 m 96 ls [])) , ∀ (n : Nat), ∀ (S : St) (x5 : Int32) (x6 : Int32) (x7 : Int32) (H : Heap) (locs : List Loc) (ls : Array Slot), HW G A (CW G S) s H locs → lv_has ls 9 [(0, .ref (gC G 26)), (1, .ref (gC G (33 + 5 * j1))), (2, .int a2), (3, .int a3), (4, .int a4), (5, .int x5), (6, .int x6), (7, .int x7)] → g_X1_find_27 N j1 a2 a3 a4 k96 n S x5 x6 x7 = some q → W p l e ({ frames := 4, cells := 0, slots := 0, locals := 100 } : Room) s m [.ref (gC G 26), .ref (gC G (33 + 5 * j1)), .int a2, .int a3, .int a4].toArray below meth c H locs 0 0 Qm (F0 m 27 ls []) := by
    intro k96 hk96 n
    induction n with
    | zero => intro S x5 x6 x7 H locs ls hH hl hf; exact absurd hf.symm (Option.some_ne_none q)
    | succ n ih =>
      intro S x5 x6 x7 H locs ls hH hl hf
      have hrec := ih
      have hf : s_X1_find_27 N j1 a2 a3 a4 k96 (g_X1_find_27 N j1 a2 a3 a4 k96 n) S x5 x6 x7 = some q := hf
      rw [s_X1_find_27] at hf
      refine lv_iload hx hb dX1_find_27 (lv_at hl 6 rfl) ?_
      refine lv_bipush (v := 7) hx hb dX1_find_29 (by decide) ?_
      refine lv_icmp_gt (tgt := 96) hx hb dX1_find_31 (by decide) (fun c5 => ?_) (fun c5 => ?_)
      · replace hf := it_t c5 hf
        exact hk96 S x5 _ _ _ hH (lv_sub hl [0, 1, 2, 3, 4, 5] rfl) hf
      · replace hf := it_f c5 hf
        refine lv_iload hx hb dX1_find_34 (lv_at hl 7 rfl) ?_
        refine lv_bipush (v := 9) hx hb dX1_find_36 (by decide) ?_
        refine lv_icmp_gt (tgt := 96) hx hb dX1_find_38 (by decide) (fun c6 => ?_) (fun c6 => ?_)
        · replace hf := it_t c6 hf
          exact hk96 S x5 _ _ _ hH (lv_sub hl [0, 1, 2, 3, 4, 5] rfl) hf
        · replace hf := it_f c6 hf
          refine lv_aload_n hx hb dX1_find_41 rfl (lv_at hl 1 rfl) ?_
          refine lv_iload_n hx hb dX1_find_42 rfl (lv_at hl 2 rfl) ?_
          refine lv_iload_n hx hb dX1_find_43 rfl (lv_at hl 3 rfl) ?_
          refine lv_iload hx hb dX1_find_44 (lv_at hl 5 rfl) ?_
          refine lv_iload hx hb dX1_find_46 (lv_at hl 7 rfl) ?_
          refine lv_iload hx hb dX1_find_48 (lv_at hl 6 rfl) ?_
          refine lv_iload hx hb dX1_find_50 (lv_at hl 4 rfl) ?_
          obtain ⟨r7, hr7, hf⟩ := ob hf
          refine callV_i [.int a2, .int a3, .int x5, .int x7, .int x6, .int a4] [] hC hH (c_X3_catchOf l G A S j1 hj1 a2 a3 x5 x7 x6 a4 _ hr7) (cwV 6 hts gX1_find_X3_catchOf rfl rfl rfl (by decide +kernel) ⟨Nat.le_of_ble_eq_true rfl, Nat.le_of_ble_eq_true rfl⟩) (recvW hC hH (c0 := 33 + 5 * j1) (ci := 3) (cw_lane (i := j1) hj1) rfl) rfl hl.1 rfl (Nat.le_of_ble_eq_true rfl) dX1_find_52 (fun H locs hH => ?_)
          refine lv_istore (lv' := [(8, .int r7), (0, .ref (gC G 26)), (1, .ref (gC G (33 + 5 * j1))), (2, .int a2), (3, .int a3), (4, .int a4), (5, .int x5), (6, .int x6), (7, .int x7)]) hx hb dX1_find_55 hl (by decide) rfl (fun ls hl => ?_)
          refine lv_iload hx hb dX1_find_57 (lv_at hl 0 rfl) ?_
          refine lv_aload_n hx hb dX1_find_59 rfl (lv_at hl 1 rfl) ?_
          refine getO hC hH (26) rfl rfl in_X1_find_X1 0 (by decide) (index := 9) (List.mem_of_getElem? (i := 1) rfl) rfl dX1_find_60 ?_
          refine lv_icmp_le (tgt := 90) hx hb dX1_find_63 (by decide) (fun c8 => ?_) (fun c8 => ?_)
          · replace hf := it_t c8 hf
            refine lv_iinc (v := x7 + (1 : Int32)) (lv' := [(7, .int (x7 + (1 : Int32))), (8, .int r7), (0, .ref (gC G 26)), (1, .ref (gC G (33 + 5 * j1))), (2, .int a2), (3, .int a3), (4, .int a4), (5, .int x5), (6, .int x6)]) hx hb dX1_find_90 hl (k := 8) rfl rfl (by decide) rfl (fun ls hl => ?_)
            refine lv_goto (tgt := 27) hx hb dX1_find_93 (by decide) ?_
            exact hrec S x5 x6 (x7 + (1 : Int32)) _ _ _ hH (lv_sub hl [2, 3, 4, 5, 6, 7, 8, 0] rfl) hf
          · replace hf := it_f c8 hf
            refine lv_aload_n hx hb dX1_find_66 rfl (lv_at hl 1 rfl) ?_
            refine lv_iload hx hb dX1_find_67 (lv_at hl 0 rfl) ?_
            refine putO hC hH (26) rfl rfl in_X1_find_X1 tyX1 tyX1_ok nmX1 0 (by decide) (index := 9) (List.mem_of_getElem? (i := 1) rfl) rfl rfl rfl (Nat.le_of_ble_eq_true rfl) cs_26_0 dX1_find_69 (fun H locs hH => ?_)
            obtain ⟨S9, eS9⟩ : ∃ Z : St, Z = sI S 26 0 r7 := ⟨_, rfl⟩
            rw [← eS9] at hH
            replace hf := bn eS9 hf
            refine lv_aload_n hx hb dX1_find_72 rfl (lv_at hl 1 rfl) ?_
            refine lv_iload hx hb dX1_find_73 (lv_at hl 6 rfl) ?_
            refine putO hC hH (26) rfl rfl in_X1_find_X1 tyX1 tyX1_ok nmX1 1 (by decide) (index := 15) (List.mem_of_getElem? (i := 2) rfl) rfl rfl rfl (Nat.le_of_ble_eq_true rfl) cs_26_1 dX1_find_75 (fun H locs hH => ?_)
            obtain ⟨S10, eS10⟩ : ∃ Z : St, Z = sI S9 26 1 x5 := ⟨_, rfl⟩
            rw [← eS10] at hH
            replace hf := bn eS10 hf
            refine lv_aload_n hx hb dX1_find_78 rfl (lv_at hl 1 rfl) ?_
            refine lv_iload hx hb dX1_find_79 (lv_at hl 8 rfl) ?_
            refine putO hC hH (26) rfl rfl in_X1_find_X1 tyX1 tyX1_ok nmX1 2 (by decide) (index := 18) (List.mem_of_getElem? (i := 3) rfl) rfl rfl rfl (Nat.le_of_ble_eq_true rfl) cs_26_2 dX1_find_81 (fun H locs hH => ?_)
            obtain ⟨S11, eS11⟩ : ∃ Z : St, Z = sI S10 26 2 x7 := ⟨_, rfl⟩
            rw [← eS11] at hH
            replace hf := bn eS11 hf
            refine lv_aload_n hx hb dX1_find_84 rfl (lv_at hl 1 rfl) ?_
            refine lv_iload hx hb dX1_find_85 (lv_at hl 7 rfl) ?_
            refine putO hC hH (26) rfl rfl in_X1_find_X1 tyX1 tyX1_ok nmX1 3 (by decide) (index := 21) (List.mem_of_getElem? (i := 4) rfl) rfl rfl rfl (Nat.le_of_ble_eq_true rfl) cs_26_3 dX1_find_87 (fun H locs hH => ?_)
            obtain ⟨S12, eS12⟩ : ∃ Z : St, Z = sI S11 26 3 x6 := ⟨_, rfl⟩
            rw [← eS12] at hH
            replace hf := bn eS12 hf
            refine lv_iinc (v := x7 + (1 : Int32)) (lv' := [(7, .int (x7 + (1 : Int32))), (8, .int r7), (0, .ref (gC G 26)), (1, .ref (gC G (33 + 5 * j1))), (2, .int a2), (3, .int a3), (4, .int a4), (5, .int x5), (6, .int x6)]) hx hb dX1_find_90 hl (k := 8) rfl rfl (by decide) rfl (fun ls hl => ?_)
            refine lv_goto (tgt := 27) hx hb dX1_find_93 (by decide) ?_
            exact hrec S12 x5 x6 (x7 + (1 : Int32)) _ _ _ hH (lv_sub hl [2, 3, 4, 5, 6, 7, 8, 0] rfl) hf
  have kL11 : ∀ (n : Nat), ∀ (S : St) (x5 : Int32) (H : Heap) (locs : List Loc) (ls : Array Slot), HW G A (CW G S) s H locs → lv_has ls 9 [(0, .ref (gC G 26)), (1, .ref (gC G (33 + 5 * j1))), (2, .int a2), (3, .int a3), (4, .int a4), (5, .int x5)] → g_X1_find_11 N j1 a2 a3 a4 n S x5 = some q → W p l e ({ frames := 4, cells := 0, slots := 0, locals := 100 } : Room) s m [.ref (gC G 26), .ref (gC G (33 + 5 * j1)), .int a2, .int a3, .int a4].toArray below meth c H locs 0 0 Qm (F0 m 11 ls []) := by
    intro n
    induction n with
    | zero => intro S x5 H locs ls hH hl hf; exact absurd hf.symm (Option.some_ne_none q)
    | succ n ih =>
      intro S x5 H locs ls hH hl hf
      have hrec := ih
      have hf : s_X1_find_11 N j1 a2 a3 a4 (g_X1_find_11 N j1 a2 a3 a4 n) S x5 = some q := hf
      rw [s_X1_find_11] at hf
      refine lv_iload hx hb dX1_find_11 (lv_at hl 5 rfl) ?_
      refine lv_iconst (v := 4) hx hb dX1_find_13 (by decide) ?_
      refine lv_icmp_gt (tgt := 102) hx hb dX1_find_14 (by decide) (fun c3 => ?_) (fun c3 => ?_)
      · replace hf := it_t c3 hf
        exact fin S _ _ _ _ (Option.some.inj hf) hH dX1_find_102
      · replace hf := it_f c3 hf
        refine lv_iload hx hb dX1_find_17 (lv_at hl 5 rfl) ?_
        obtain ⟨r4, hr4, hf⟩ := ob hf
        refine callS_i [.int x5] [] hC hH (c_X1_leastTurnOver l G A N S x5 _ hr4) (va_cwS 1 hts gX1_find_X1_leastTurnOver rfl rfl rfl (by decide +kernel) ⟨Nat.le_of_ble_eq_true rfl, Nat.le_of_ble_eq_true rfl⟩) rfl hl.1 rfl (Nat.le_of_ble_eq_true rfl) dX1_find_19 (fun H locs hH => ?_)
        refine lv_istore (lv' := [(6, .int r4), (0, .ref (gC G 26)), (1, .ref (gC G (33 + 5 * j1))), (2, .int a2), (3, .int a3), (4, .int a4), (5, .int x5)]) hx hb dX1_find_22 hl (by decide) rfl (fun ls hl => ?_)
        refine lv_iconst (v := 0) hx hb dX1_find_24 (by decide) ?_
        refine lv_istore (lv' := [(7, .int (0 : Int32)), (6, .int r4), (0, .ref (gC G 26)), (1, .ref (gC G (33 + 5 * j1))), (2, .int a2), (3, .int a3), (4, .int a4), (5, .int x5)]) hx hb dX1_find_25 hl (by decide) rfl (fun ls hl => ?_)
        refine kL27 _ ?_ N S x5 r4 (0 : Int32) _ _ _ hH (lv_sub hl [2, 3, 4, 5, 6, 7, 1, 0] rfl) hf
        intro S14 y13 H locs ls hH hl hf
        refine lv_iinc (v := y13 + (1 : Int32)) (lv' := [(5, .int (y13 + (1 : Int32))), (0, .ref (gC G 26)), (1, .ref (gC G (33 + 5 * j1))), (2, .int a2), (3, .int a3), (4, .int a4)]) hx hb dX1_find_96 hl (k := 5) rfl rfl (by decide) rfl (fun ls hl => ?_)
        refine lv_goto (tgt := 11) hx hb dX1_find_99 (by decide) ?_
        exact hrec S14 (y13 + (1 : Int32)) _ _ _ hH (lv_sub hl [1, 2, 3, 4, 5, 0] rfl) hf
  have hf := hf
  rw [f_X1_find] at hf
  refine lv_aload_n hx hb dX1_find_0 rfl (lv_at hl 0 rfl) ?_
  refine lv_iconst (v := -1) hx hb dX1_find_1 (by decide) ?_
  refine putO hC hH (26) rfl rfl in_X1_find_X1 tyX1 tyX1_ok nmX1 0 (by decide) (index := 9) (List.mem_of_getElem? (i := 1) rfl) rfl rfl rfl (Nat.le_of_ble_eq_true rfl) cs_26_0 dX1_find_2 (fun H locs hH => ?_)
  obtain ⟨S1, eS1⟩ : ∃ Z : St, Z = sI S 26 0 (-1 : Int32) := ⟨_, rfl⟩
  rw [← eS1] at hH
  replace hf := bn eS1 hf
  refine lv_aload_n hx hb dX1_find_5 rfl (lv_at hl 1 rfl) ?_
  refine getN hC hH (33 + 5 * j1) (cw_lane (i := j1) hj1) rfl in_X1_find_X3 6 (by decide) (index := 24) (List.mem_of_getElem? (i := 16) rfl) rfl dX1_find_6 ?_
  refine lv_topi (fun b2 eb2 => ?_)
  replace hf := bn eb2 hf
  refine lv_istore (lv' := [(5, .int b2), (0, .ref (gC G 26)), (1, .ref (gC G (33 + 5 * j1))), (2, .int a2), (3, .int a3), (4, .int a4)]) hx hb dX1_find_9 hl (by decide) rfl (fun ls hl => ?_)
  refine kL11 N S1 b2 _ _ _ hH (lv_sub hl [1, 2, 3, 4, 5, 0] rfl) hf
theorem in_X1_number_X1 : ∀ w ∈ wsX10, w ∈ wsX1_number := fun w h => List.mem_cons_of_mem _ (List.mem_append_right _ h)
set_option maxRecDepth 100000 in
set_option maxHeartbeats 4000000 in
theorem c_X1_number (l : Launch) (G : Gt) (A : Nat → Prop) (S : St)   (q : Int32) (hf : f_X1_number S = some q) : Met l yX1_number wsX1_number ({ frames := 0, cells := 0, slots := 0, locals := 0 } : Room) (va_Pc [.ref (gC G 26)] (PK G A (CW G S))) (va_Qi (fun (r2 : Int32) S2 => r2 = q ∧ S2 = S) (fun S2 : St => PK G A (CW G S2)) A) 0 0 A := by
  refine mstart_i (Wd := CW G) (cc := cX1_number) (maxL := 1) (by decide) rfl (Nat.le_of_ble_eq_true rfl) (fun p e s m below meth c Qm ls hC hH hl fin => ?_)
  obtain ⟨hx, hb, hml, hown, hts⟩ := id hC.1
  have hl : lv_has ls 1 [(0, .ref (gC G 26))] := hl
  have hf := hf
  rw [f_X1_number] at hf
  refine lv_bipush (v := 100) hx hb dX1_number_0 (by decide) ?_
  refine lv_aload_n hx hb dX1_number_2 rfl (lv_at hl 0 rfl) ?_
  refine getO hC hH (26) rfl rfl in_X1_number_X1 1 (by decide) (index := 15) (List.mem_of_getElem? (i := 1) rfl) rfl dX1_number_3 ?_
  refine lv_imul hx hb dX1_number_6 ?_
  refine lv_bipush (v := 10) hx hb dX1_number_7 (by decide) ?_
  refine lv_aload_n hx hb dX1_number_9 rfl (lv_at hl 0 rfl) ?_
  refine getO hC hH (26) rfl rfl in_X1_number_X1 2 (by decide) (index := 18) (List.mem_of_getElem? (i := 2) rfl) rfl dX1_number_10 ?_
  refine lv_imul hx hb dX1_number_13 ?_
  refine lv_iadd hx hb dX1_number_14 ?_
  refine lv_aload_n hx hb dX1_number_15 rfl (lv_at hl 0 rfl) ?_
  refine getO hC hH (26) rfl rfl in_X1_number_X1 3 (by decide) (index := 21) (List.mem_of_getElem? (i := 3) rfl) rfl dX1_number_16 ?_
  refine lv_iadd hx hb dX1_number_19 ?_
  exact fin ((((100 : Int32) * (gI S 26 1)) + ((10 : Int32) * (gI S 26 2))) + (gI S 26 3)) S _ _ _ _ (Option.some.inj hf) rfl hH dX1_number_20
theorem in_X3_begin_X3 : ∀ w ∈ wsX30, w ∈ wsX3_begin := fun w h => List.mem_cons_of_mem _ (List.mem_append_right _ h)
set_option maxRecDepth 100000 in
set_option maxHeartbeats 4000000 in
theorem c_X3_begin (l : Launch) (G : Gt) (A : Nat → Prop) (N : Nat) (S : St) (i : Nat) (hi : i < 2)  (q : St) (hf : f_X3_begin N S i = some q) : Met l yX3_begin wsX3_begin ({ frames := 0, cells := 0, slots := 0, locals := 0 } : Room) (va_Pc [.ref (gC G (33 + 5 * i))] (PK G A (CW G S))) (va_Qv (fun S2 => S2 = q) (fun S2 : St => PK G A (CW G S2)) A) 0 0 A := by
  refine mstart_v (Wd := CW G) (cc := cX3_begin) (maxL := 2) (by decide) rfl (Nat.le_of_ble_eq_true rfl) (fun p e s m below meth c Qm ls hC hH hl fin => ?_)
  obtain ⟨hx, hb, hml, hown, hts⟩ := id hC.1
  have hl : lv_has ls 2 [(0, .ref (gC G (33 + 5 * i)))] := hl
  have kL2 : ∀ (k40 : St → Option St) (hk40 : ∀ (S : St) (H : Heap) (locs : List Loc) (ls : Array Slot), HW G A (CW G S) s H locs → lv_has ls 2 [(0, .ref (gC G (33 + 5 * i)))] → k40 S = some q → W p l e ({ frames := 0, cells := 0, slots := 0, locals := 0 } : Room) s m [.ref (gC G (33 + 5 * i))].toArray below meth c H locs 0 0 Qm (F0 m 40 ls [])) , ∀ (n : Nat), ∀ (S : St) (x1 : Int32) (H : Heap) (locs : List Loc) (ls : Array Slot), HW G A (CW G S) s H locs → lv_has ls 2 [(0, .ref (gC G (33 + 5 * i))), (1, .int x1)] → g_X3_begin_2 N i k40 n S x1 = some q → W p l e ({ frames := 0, cells := 0, slots := 0, locals := 0 } : Room) s m [.ref (gC G (33 + 5 * i))].toArray below meth c H locs 0 0 Qm (F0 m 2 ls []) := by
    intro k40 hk40 n
    induction n with
    | zero => intro S x1 H locs ls hH hl hf; exact absurd hf.symm (Option.some_ne_none q)
    | succ n ih =>
      intro S x1 H locs ls hH hl hf
      have hrec := ih
      have hf : s_X3_begin_2 N i k40 (g_X3_begin_2 N i k40 n) S x1 = some q := hf
      rw [s_X3_begin_2] at hf
      refine lv_iload_n hx hb dX3_begin_2 rfl (lv_at hl 1 rfl) ?_
      refine lv_aload_n hx hb dX3_begin_3 rfl (lv_at hl 0 rfl) ?_
      refine getO hC hH (33 + 5 * i) (cw_lane (i := i) hi) rfl in_X3_begin_X3 0 (by decide) (index := 9) (List.mem_of_getElem? (i := 1) rfl) rfl dX3_begin_4 ?_
      refine alen hC hH (34 + 5 * i) 0 (cw_wind (i := i) hi) rfl (v := 24) rfl dX3_begin_7 ?_
      refine lv_icmp_ge (tgt := 40) hx hb dX3_begin_8 (by decide) (fun c1 => ?_) (fun c1 => ?_)
      · replace hf := it_t c1 hf
        exact hk40 S _ _ _ hH (lv_sub hl [0] rfl) hf
      · replace hf := it_f c1 hf
        refine lv_iload_n hx hb dX3_begin_11 rfl (lv_at hl 1 rfl) ?_
        refine lv_aload_n hx hb dX3_begin_12 rfl (lv_at hl 0 rfl) ?_
        refine getO hC hH (33 + 5 * i) (cw_lane (i := i) hi) rfl in_X3_begin_X3 1 (by decide) (index := 15) (List.mem_of_getElem? (i := 2) rfl) rfl dX3_begin_13 ?_
        refine alen hC hH (35 + 5 * i) 2 (cw_wet (i := i) hi) rfl (v := 24) rfl dX3_begin_16 ?_
        refine lv_icmp_ge (tgt := 40) hx hb dX3_begin_17 (by decide) (fun c2 => ?_) (fun c2 => ?_)
        · replace hf := it_t c2 hf
          exact hk40 S _ _ _ hH (lv_sub hl [0] rfl) hf
        · replace hf := it_f c2 hf
          refine lv_aload_n hx hb dX3_begin_20 rfl (lv_at hl 0 rfl) ?_
          refine getO hC hH (33 + 5 * i) (cw_lane (i := i) hi) rfl in_X3_begin_X3 0 (by decide) (index := 9) (List.mem_of_getElem? (i := 1) rfl) rfl dX3_begin_21 ?_
          refine lv_iload_n hx hb dX3_begin_24 rfl (lv_at hl 1 rfl) ?_
          refine lv_iconst (v := 0) hx hb dX3_begin_25 (by decide) ?_
          obtain ⟨g3, hf⟩ := gd hf
          refine astI hC hH (34 + 5 * i) (cw_wind (i := i) hi) g3 (ct_wind (i := i) hi) dX3_begin_26 (fun H locs hH => ?_)
          obtain ⟨S4, eS4⟩ : ∃ Z : St, Z = sA S (34 + 5 * i) (upd (gA S (34 + 5 * i)) x1.toNatClampNeg (0 : Int32)) := ⟨_, rfl⟩
          rw [← eS4] at hH
          replace hf := bn eS4 hf
          refine lv_aload_n hx hb dX3_begin_27 rfl (lv_at hl 0 rfl) ?_
          refine getO hC hH (33 + 5 * i) (cw_lane (i := i) hi) rfl in_X3_begin_X3 1 (by decide) (index := 15) (List.mem_of_getElem? (i := 2) rfl) rfl dX3_begin_28 ?_
          refine lv_iload_n hx hb dX3_begin_31 rfl (lv_at hl 1 rfl) ?_
          refine lv_iconst (v := 0) hx hb dX3_begin_32 (by decide) ?_
          obtain ⟨g5, hf⟩ := gd hf
          refine astZ hC hH (35 + 5 * i) (cw_wet (i := i) hi) g5 (y := (0 : Int32)) rfl (ct_wet (i := i) hi) dX3_begin_33 (fun H locs hH => ?_)
          obtain ⟨S6, eS6⟩ : ∃ Z : St, Z = sA S4 (35 + 5 * i) (upd (gA S4 (35 + 5 * i)) x1.toNatClampNeg (0 : Int32)) := ⟨_, rfl⟩
          rw [← eS6] at hH
          replace hf := bn eS6 hf
          refine lv_iinc (v := x1 + (1 : Int32)) (lv' := [(1, .int (x1 + (1 : Int32))), (0, .ref (gC G (33 + 5 * i)))]) hx hb dX3_begin_34 hl (k := 1) rfl rfl (by decide) rfl (fun ls hl => ?_)
          refine lv_goto (tgt := 2) hx hb dX3_begin_37 (by decide) ?_
          exact hrec S6 (x1 + (1 : Int32)) _ _ _ hH (lv_sub hl [1, 0] rfl) hf
  have kJ40 : ∀ (S : St) (H : Heap) (locs : List Loc) (ls : Array Slot), HW G A (CW G S) s H locs → lv_has ls 2 [(0, .ref (gC G (33 + 5 * i)))] → f_X3_begin_40 N i S = some q → W p l e ({ frames := 0, cells := 0, slots := 0, locals := 0 } : Room) s m [.ref (gC G (33 + 5 * i))].toArray below meth c H locs 0 0 Qm (F0 m 40 ls []) := by
    intro S H locs ls hH hl hf
    rw [f_X3_begin_40] at hf
    refine lv_aload_n hx hb dX3_begin_40 rfl (lv_at hl 0 rfl) ?_
    refine lv_bipush (v := 12) hx hb dX3_begin_41 (by decide) ?_
    refine putO hC hH (33 + 5 * i) (cw_lane (i := i) hi) rfl in_X3_begin_X3 tyX3 tyX3_ok nmX3 4 (by decide) (index := 25) (List.mem_of_getElem? (i := 3) rfl) rfl rfl rfl (Nat.le_of_ble_eq_true rfl) (cs_lane_4 (i := i) hi) dX3_begin_43 (fun H locs hH => ?_)
    obtain ⟨S8, eS8⟩ : ∃ Z : St, Z = sI S (33 + 5 * i) 4 (12 : Int32) := ⟨_, rfl⟩
    rw [← eS8] at hH
    replace hf := bn eS8 hf
    refine lv_aload_n hx hb dX3_begin_46 rfl (lv_at hl 0 rfl) ?_
    refine lv_iconst (v := 0) hx hb dX3_begin_47 (by decide) ?_
    refine putO hC hH (33 + 5 * i) (cw_lane (i := i) hi) rfl in_X3_begin_X3 tyX3 tyX3_ok nmX3 5 (by decide) (index := 29) (List.mem_of_getElem? (i := 4) rfl) rfl rfl rfl (Nat.le_of_ble_eq_true rfl) (cs_lane_5 (i := i) hi) dX3_begin_48 (fun H locs hH => ?_)
    obtain ⟨S9, eS9⟩ : ∃ Z : St, Z = sI S8 (33 + 5 * i) 5 (0 : Int32) := ⟨_, rfl⟩
    rw [← eS9] at hH
    replace hf := bn eS9 hf
    refine lv_aload_n hx hb dX3_begin_51 rfl (lv_at hl 0 rfl) ?_
    refine lv_iconst (v := 2) hx hb dX3_begin_52 (by decide) ?_
    refine putO hC hH (33 + 5 * i) (cw_lane (i := i) hi) rfl in_X3_begin_X3 tyX3 tyX3_ok nmX3 6 (by decide) (index := 32) (List.mem_of_getElem? (i := 5) rfl) rfl rfl rfl (Nat.le_of_ble_eq_true rfl) (cs_lane_6 (i := i) hi) dX3_begin_53 (fun H locs hH => ?_)
    obtain ⟨S10, eS10⟩ : ∃ Z : St, Z = sI S9 (33 + 5 * i) 6 (2 : Int32) := ⟨_, rfl⟩
    rw [← eS10] at hH
    replace hf := bn eS10 hf
    refine lv_aload_n hx hb dX3_begin_56 rfl (lv_at hl 0 rfl) ?_
    refine lv_iconst (v := 3) hx hb dX3_begin_57 (by decide) ?_
    refine putO hC hH (33 + 5 * i) (cw_lane (i := i) hi) rfl in_X3_begin_X3 tyX3 tyX3_ok nmX3 7 (by decide) (index := 35) (List.mem_of_getElem? (i := 6) rfl) rfl rfl rfl (Nat.le_of_ble_eq_true rfl) (cs_lane_7 (i := i) hi) dX3_begin_58 (fun H locs hH => ?_)
    obtain ⟨S11, eS11⟩ : ∃ Z : St, Z = sI S10 (33 + 5 * i) 7 (3 : Int32) := ⟨_, rfl⟩
    rw [← eS11] at hH
    replace hf := bn eS11 hf
    refine lv_aload_n hx hb dX3_begin_61 rfl (lv_at hl 0 rfl) ?_
    refine lv_iconst (v := 3) hx hb dX3_begin_62 (by decide) ?_
    refine putO hC hH (33 + 5 * i) (cw_lane (i := i) hi) rfl in_X3_begin_X3 tyX3 tyX3_ok nmX3 8 (by decide) (index := 38) (List.mem_of_getElem? (i := 7) rfl) rfl rfl rfl (Nat.le_of_ble_eq_true rfl) (cs_lane_8 (i := i) hi) dX3_begin_63 (fun H locs hH => ?_)
    obtain ⟨S12, eS12⟩ : ∃ Z : St, Z = sI S11 (33 + 5 * i) 8 (3 : Int32) := ⟨_, rfl⟩
    rw [← eS12] at hH
    replace hf := bn eS12 hf
    exact fin S12 _ _ _ _ (Option.some.inj hf) hH dX3_begin_66
  have hf := hf
  rw [f_X3_begin] at hf
  refine lv_iconst (v := 0) hx hb dX3_begin_0 (by decide) ?_
  refine lv_istore_n (lv' := [(1, .int (0 : Int32)), (0, .ref (gC G (33 + 5 * i)))]) hx hb dX3_begin_1 rfl hl (by decide) rfl (fun ls hl => ?_)
  refine kL2 _ ?_ N S (0 : Int32) _ _ _ hH (lv_sub hl [1, 0] rfl) hf
  intro S7 H locs ls hH hl hf
  exact kJ40  S7 _ _ _ hH (lv_sub hl [0] rfl) hf
theorem in_X3_setWind_X3 : ∀ w ∈ wsX30, w ∈ wsX3_setWind := fun w h => List.mem_cons_of_mem _ (List.mem_append_right _ h)
set_option maxRecDepth 100000 in
set_option maxHeartbeats 4000000 in
theorem c_X3_setWind (l : Launch) (G : Gt) (A : Nat → Prop) (S : St) (i : Nat) (hi : i < 2) (a1 : Int32) (a2 : Int32) (q : St) (hf : f_X3_setWind S i a1 a2 = some q) : Met l yX3_setWind wsX3_setWind ({ frames := 0, cells := 0, slots := 0, locals := 0 } : Room) (va_Pc [.ref (gC G (33 + 5 * i)), .int a1, .int a2] (PK G A (CW G S))) (va_Qv (fun S2 => S2 = q) (fun S2 : St => PK G A (CW G S2)) A) 0 0 A := by
  refine mstart_v (Wd := CW G) (cc := cX3_setWind) (maxL := 3) (by decide) rfl (Nat.le_of_ble_eq_true rfl) (fun p e s m below meth c Qm ls hC hH hl fin => ?_)
  obtain ⟨hx, hb, hml, hown, hts⟩ := id hC.1
  have hl : lv_has ls 3 [(0, .ref (gC G (33 + 5 * i))), (1, .int a1), (2, .int a2)] := hl
  have hf := hf
  rw [f_X3_setWind] at hf
  refine lv_iload_n hx hb dX3_setWind_0 rfl (lv_at hl 1 rfl) ?_
  refine lv_if_lt (tgt := 20) hx hb dX3_setWind_1 (by decide) (fun c1 => ?_) (fun c1 => ?_)
  · replace hf := it_t c1 hf
    exact fin S _ _ _ _ (Option.some.inj hf) hH dX3_setWind_20
  · replace hf := it_f c1 hf
    refine lv_iload_n hx hb dX3_setWind_4 rfl (lv_at hl 1 rfl) ?_
    refine lv_aload_n hx hb dX3_setWind_5 rfl (lv_at hl 0 rfl) ?_
    refine getO hC hH (33 + 5 * i) (cw_lane (i := i) hi) rfl in_X3_setWind_X3 0 (by decide) (index := 9) (List.mem_of_getElem? (i := 1) rfl) rfl dX3_setWind_6 ?_
    refine alen hC hH (34 + 5 * i) 0 (cw_wind (i := i) hi) rfl (v := 24) rfl dX3_setWind_9 ?_
    refine lv_icmp_ge (tgt := 20) hx hb dX3_setWind_10 (by decide) (fun c2 => ?_) (fun c2 => ?_)
    · replace hf := it_t c2 hf
      exact fin S _ _ _ _ (Option.some.inj hf) hH dX3_setWind_20
    · replace hf := it_f c2 hf
      refine lv_aload_n hx hb dX3_setWind_13 rfl (lv_at hl 0 rfl) ?_
      refine getO hC hH (33 + 5 * i) (cw_lane (i := i) hi) rfl in_X3_setWind_X3 0 (by decide) (index := 9) (List.mem_of_getElem? (i := 1) rfl) rfl dX3_setWind_14 ?_
      refine lv_iload_n hx hb dX3_setWind_17 rfl (lv_at hl 1 rfl) ?_
      refine lv_iload_n hx hb dX3_setWind_18 rfl (lv_at hl 2 rfl) ?_
      obtain ⟨g3, hf⟩ := gd hf
      refine astI hC hH (34 + 5 * i) (cw_wind (i := i) hi) g3 (ct_wind (i := i) hi) dX3_setWind_19 (fun H locs hH => ?_)
      obtain ⟨S4, eS4⟩ : ∃ Z : St, Z = sA S (34 + 5 * i) (upd (gA S (34 + 5 * i)) a1.toNatClampNeg a2) := ⟨_, rfl⟩
      rw [← eS4] at hH
      replace hf := bn eS4 hf
      exact fin S4 _ _ _ _ (Option.some.inj hf) hH dX3_setWind_20
theorem in_X3_setWet_X3 : ∀ w ∈ wsX30, w ∈ wsX3_setWet := fun w h => List.mem_cons_of_mem _ (List.mem_append_right _ h)
set_option maxRecDepth 100000 in
set_option maxHeartbeats 4000000 in
theorem c_X3_setWet (l : Launch) (G : Gt) (A : Nat → Prop) (S : St) (i : Nat) (hi : i < 2) (a1 : Int32) (q : St) (hf : f_X3_setWet S i a1 = some q) : Met l yX3_setWet wsX3_setWet ({ frames := 0, cells := 0, slots := 0, locals := 0 } : Room) (va_Pc [.ref (gC G (33 + 5 * i)), .int a1] (PK G A (CW G S))) (va_Qv (fun S2 => S2 = q) (fun S2 : St => PK G A (CW G S2)) A) 0 0 A := by
  refine mstart_v (Wd := CW G) (cc := cX3_setWet) (maxL := 2) (by decide) rfl (Nat.le_of_ble_eq_true rfl) (fun p e s m below meth c Qm ls hC hH hl fin => ?_)
  obtain ⟨hx, hb, hml, hown, hts⟩ := id hC.1
  have hl : lv_has ls 2 [(0, .ref (gC G (33 + 5 * i))), (1, .int a1)] := hl
  have hf := hf
  rw [f_X3_setWet] at hf
  refine lv_iload_n hx hb dX3_setWet_0 rfl (lv_at hl 1 rfl) ?_
  refine lv_if_lt (tgt := 20) hx hb dX3_setWet_1 (by decide) (fun c1 => ?_) (fun c1 => ?_)
  · replace hf := it_t c1 hf
    exact fin S _ _ _ _ (Option.some.inj hf) hH dX3_setWet_20
  · replace hf := it_f c1 hf
    refine lv_iload_n hx hb dX3_setWet_4 rfl (lv_at hl 1 rfl) ?_
    refine lv_aload_n hx hb dX3_setWet_5 rfl (lv_at hl 0 rfl) ?_
    refine getO hC hH (33 + 5 * i) (cw_lane (i := i) hi) rfl in_X3_setWet_X3 1 (by decide) (index := 15) (List.mem_of_getElem? (i := 1) rfl) rfl dX3_setWet_6 ?_
    refine alen hC hH (35 + 5 * i) 2 (cw_wet (i := i) hi) rfl (v := 24) rfl dX3_setWet_9 ?_
    refine lv_icmp_ge (tgt := 20) hx hb dX3_setWet_10 (by decide) (fun c2 => ?_) (fun c2 => ?_)
    · replace hf := it_t c2 hf
      exact fin S _ _ _ _ (Option.some.inj hf) hH dX3_setWet_20
    · replace hf := it_f c2 hf
      refine lv_aload_n hx hb dX3_setWet_13 rfl (lv_at hl 0 rfl) ?_
      refine getO hC hH (33 + 5 * i) (cw_lane (i := i) hi) rfl in_X3_setWet_X3 1 (by decide) (index := 15) (List.mem_of_getElem? (i := 1) rfl) rfl dX3_setWet_14 ?_
      refine lv_iload_n hx hb dX3_setWet_17 rfl (lv_at hl 1 rfl) ?_
      refine lv_iconst (v := 1) hx hb dX3_setWet_18 (by decide) ?_
      obtain ⟨g3, hf⟩ := gd hf
      refine astZ hC hH (35 + 5 * i) (cw_wet (i := i) hi) g3 (y := (1 : Int32)) rfl (ct_wet (i := i) hi) dX3_setWet_19 (fun H locs hH => ?_)
      obtain ⟨S4, eS4⟩ : ∃ Z : St, Z = sA S (35 + 5 * i) (upd (gA S (35 + 5 * i)) a1.toNatClampNeg (1 : Int32)) := ⟨_, rfl⟩
      rw [← eS4] at hH
      replace hf := bn eS4 hf
      exact fin S4 _ _ _ _ (Option.some.inj hf) hH dX3_setWet_20
theorem in_X3_addRunner_X3 : ∀ w ∈ wsX30, w ∈ wsX3_addRunner := fun w h => List.mem_cons_of_mem _ (List.mem_append_right _ h)
set_option maxRecDepth 100000 in
set_option maxHeartbeats 4000000 in
theorem c_X3_addRunner (l : Launch) (G : Gt) (A : Nat → Prop) (S : St) (i : Nat) (hi : i < 2) (a1 : Int32) (a2 : Int32) (q : St) (hf : f_X3_addRunner S i a1 a2 = some q) : Met l yX3_addRunner wsX3_addRunner ({ frames := 0, cells := 0, slots := 0, locals := 0 } : Room) (va_Pc [.ref (gC G (33 + 5 * i)), .int a1, .int a2] (PK G A (CW G S))) (va_Qv (fun S2 => S2 = q) (fun S2 : St => PK G A (CW G S2)) A) 0 0 A := by
  refine mstart_v (Wd := CW G) (cc := cX3_addRunner) (maxL := 3) (by decide) rfl (Nat.le_of_ble_eq_true rfl) (fun p e s m below meth c Qm ls hC hH hl fin => ?_)
  obtain ⟨hx, hb, hml, hown, hts⟩ := id hC.1
  have hl : lv_has ls 3 [(0, .ref (gC G (33 + 5 * i))), (1, .int a1), (2, .int a2)] := hl
  have hf := hf
  rw [f_X3_addRunner] at hf
  refine lv_aload_n hx hb dX3_addRunner_0 rfl (lv_at hl 0 rfl) ?_
  refine getO hC hH (33 + 5 * i) (cw_lane (i := i) hi) rfl in_X3_addRunner_X3 5 (by decide) (index := 29) (List.mem_of_getElem? (i := 1) rfl) rfl dX3_addRunner_1 ?_
  refine lv_if_lt (tgt := 61) hx hb dX3_addRunner_4 (by decide) (fun c1 => ?_) (fun c1 => ?_)
  · replace hf := it_t c1 hf
    exact fin S _ _ _ _ (Option.some.inj hf) hH dX3_addRunner_61
  · replace hf := it_f c1 hf
    refine lv_aload_n hx hb dX3_addRunner_7 rfl (lv_at hl 0 rfl) ?_
    refine getO hC hH (33 + 5 * i) (cw_lane (i := i) hi) rfl in_X3_addRunner_X3 5 (by decide) (index := 29) (List.mem_of_getElem? (i := 1) rfl) rfl dX3_addRunner_8 ?_
    refine lv_aload_n hx hb dX3_addRunner_11 rfl (lv_at hl 0 rfl) ?_
    refine getO hC hH (33 + 5 * i) (cw_lane (i := i) hi) rfl in_X3_addRunner_X3 2 (by decide) (index := 19) (List.mem_of_getElem? (i := 2) rfl) rfl dX3_addRunner_12 ?_
    refine alen hC hH (36 + 5 * i) 0 (cw_pace (i := i) hi) rfl (v := 3) rfl dX3_addRunner_15 ?_
    refine lv_icmp_ge (tgt := 61) hx hb dX3_addRunner_16 (by decide) (fun c2 => ?_) (fun c2 => ?_)
    · replace hf := it_t c2 hf
      exact fin S _ _ _ _ (Option.some.inj hf) hH dX3_addRunner_61
    · replace hf := it_f c2 hf
      refine lv_aload_n hx hb dX3_addRunner_19 rfl (lv_at hl 0 rfl) ?_
      refine getO hC hH (33 + 5 * i) (cw_lane (i := i) hi) rfl in_X3_addRunner_X3 5 (by decide) (index := 29) (List.mem_of_getElem? (i := 1) rfl) rfl dX3_addRunner_20 ?_
      refine lv_aload_n hx hb dX3_addRunner_23 rfl (lv_at hl 0 rfl) ?_
      refine getO hC hH (33 + 5 * i) (cw_lane (i := i) hi) rfl in_X3_addRunner_X3 3 (by decide) (index := 22) (List.mem_of_getElem? (i := 3) rfl) rfl dX3_addRunner_24 ?_
      refine alen hC hH (37 + 5 * i) 0 (cw_pan (i := i) hi) rfl (v := 3) rfl dX3_addRunner_27 ?_
      refine lv_icmp_ge (tgt := 61) hx hb dX3_addRunner_28 (by decide) (fun c3 => ?_) (fun c3 => ?_)
      · replace hf := it_t c3 hf
        exact fin S _ _ _ _ (Option.some.inj hf) hH dX3_addRunner_61
      · replace hf := it_f c3 hf
        refine lv_aload_n hx hb dX3_addRunner_31 rfl (lv_at hl 0 rfl) ?_
        refine getO hC hH (33 + 5 * i) (cw_lane (i := i) hi) rfl in_X3_addRunner_X3 2 (by decide) (index := 19) (List.mem_of_getElem? (i := 2) rfl) rfl dX3_addRunner_32 ?_
        refine lv_aload_n hx hb dX3_addRunner_35 rfl (lv_at hl 0 rfl) ?_
        refine getO hC hH (33 + 5 * i) (cw_lane (i := i) hi) rfl in_X3_addRunner_X3 5 (by decide) (index := 29) (List.mem_of_getElem? (i := 1) rfl) rfl dX3_addRunner_36 ?_
        refine lv_iload_n hx hb dX3_addRunner_39 rfl (lv_at hl 1 rfl) ?_
        obtain ⟨g4, hf⟩ := gd hf
        refine astI hC hH (36 + 5 * i) (cw_pace (i := i) hi) g4 (ct_pace (i := i) hi) dX3_addRunner_40 (fun H locs hH => ?_)
        obtain ⟨S5, eS5⟩ : ∃ Z : St, Z = sA S (36 + 5 * i) (upd (gA S (36 + 5 * i)) (gI S (33 + 5 * i) 5).toNatClampNeg a1) := ⟨_, rfl⟩
        rw [← eS5] at hH
        replace hf := bn eS5 hf
        refine lv_aload_n hx hb dX3_addRunner_41 rfl (lv_at hl 0 rfl) ?_
        refine getO hC hH (33 + 5 * i) (cw_lane (i := i) hi) rfl in_X3_addRunner_X3 3 (by decide) (index := 22) (List.mem_of_getElem? (i := 3) rfl) rfl dX3_addRunner_42 ?_
        refine lv_aload_n hx hb dX3_addRunner_45 rfl (lv_at hl 0 rfl) ?_
        refine getO hC hH (33 + 5 * i) (cw_lane (i := i) hi) rfl in_X3_addRunner_X3 5 (by decide) (index := 29) (List.mem_of_getElem? (i := 1) rfl) rfl dX3_addRunner_46 ?_
        refine lv_iload_n hx hb dX3_addRunner_49 rfl (lv_at hl 2 rfl) ?_
        obtain ⟨g6, hf⟩ := gd hf
        refine astI hC hH (37 + 5 * i) (cw_pan (i := i) hi) g6 (ct_pan (i := i) hi) dX3_addRunner_50 (fun H locs hH => ?_)
        obtain ⟨S7, eS7⟩ : ∃ Z : St, Z = sA S5 (37 + 5 * i) (upd (gA S5 (37 + 5 * i)) (gI S5 (33 + 5 * i) 5).toNatClampNeg a2) := ⟨_, rfl⟩
        rw [← eS7] at hH
        replace hf := bn eS7 hf
        refine lv_aload_n hx hb dX3_addRunner_51 rfl (lv_at hl 0 rfl) ?_
        refine lv_dup hx hb dX3_addRunner_52 rfl ?_
        refine getO hC hH (33 + 5 * i) (cw_lane (i := i) hi) rfl in_X3_addRunner_X3 5 (by decide) (index := 29) (List.mem_of_getElem? (i := 1) rfl) rfl dX3_addRunner_53 ?_
        refine lv_iconst (v := 1) hx hb dX3_addRunner_56 (by decide) ?_
        refine lv_iadd hx hb dX3_addRunner_57 ?_
        refine putO hC hH (33 + 5 * i) (cw_lane (i := i) hi) rfl in_X3_addRunner_X3 tyX3 tyX3_ok nmX3 5 (by decide) (index := 29) (List.mem_of_getElem? (i := 1) rfl) rfl rfl rfl (Nat.le_of_ble_eq_true rfl) (cs_lane_5 (i := i) hi) dX3_addRunner_58 (fun H locs hH => ?_)
        obtain ⟨S8, eS8⟩ : ∃ Z : St, Z = sI S7 (33 + 5 * i) 5 ((gI S7 (33 + 5 * i) 5) + (1 : Int32)) := ⟨_, rfl⟩
        rw [← eS8] at hH
        replace hf := bn eS8 hf
        exact fin S8 _ _ _ _ (Option.some.inj hf) hH dX3_addRunner_61
theorem in_X3_isRunner_X3 : ∀ w ∈ wsX30, w ∈ wsX3_isRunner := fun w h => List.mem_cons_of_mem _ (List.mem_append_right _ h)
set_option maxRecDepth 100000 in
set_option maxHeartbeats 4000000 in
theorem c_X3_isRunner (l : Launch) (G : Gt) (A : Nat → Prop) (S : St) (i : Nat) (hi : i < 2) (a1 : Int32) (q : Int32) (hf : f_X3_isRunner S i a1 = some q) : Met l yX3_isRunner wsX3_isRunner ({ frames := 0, cells := 0, slots := 0, locals := 0 } : Room) (va_Pc [.ref (gC G (33 + 5 * i)), .int a1] (PK G A (CW G S))) (va_Qi (fun (r2 : Int32) S2 => r2 = q ∧ S2 = S) (fun S2 : St => PK G A (CW G S2)) A) 0 0 A := by
  refine mstart_z (ty := .boolean) (Wd := CW G) (cc := cX3_isRunner) (maxL := 2) (by decide) rfl (Nat.le_of_ble_eq_true rfl) (fun p e s m below meth c Qm ls hC hH hl fin => ?_)
  obtain ⟨hx, hb, hml, hown, hts⟩ := id hC.1
  have hl : lv_has ls 2 [(0, .ref (gC G (33 + 5 * i))), (1, .int a1)] := hl
  have hf := hf
  rw [f_X3_isRunner] at hf
  refine lv_iload_n hx hb dX3_isRunner_0 rfl (lv_at hl 1 rfl) ?_
  refine lv_if_lt (tgt := 16) hx hb dX3_isRunner_1 (by decide) (fun c1 => ?_) (fun c1 => ?_)
  · replace hf := it_t c1 hf
    refine lv_iconst (v := 0) hx hb dX3_isRunner_16 (by decide) ?_
    exact fin (0 : Int32) S _ _ _ _ rfl (Option.some.inj hf) rfl hH dX3_isRunner_17
  · replace hf := it_f c1 hf
    refine lv_iload_n hx hb dX3_isRunner_4 rfl (lv_at hl 1 rfl) ?_
    refine lv_aload_n hx hb dX3_isRunner_5 rfl (lv_at hl 0 rfl) ?_
    refine getO hC hH (33 + 5 * i) (cw_lane (i := i) hi) rfl in_X3_isRunner_X3 5 (by decide) (index := 29) (List.mem_of_getElem? (i := 1) rfl) rfl dX3_isRunner_6 ?_
    refine lv_icmp_ge (tgt := 16) hx hb dX3_isRunner_9 (by decide) (fun c2 => ?_) (fun c2 => ?_)
    · replace hf := it_t c2 hf
      refine lv_iconst (v := 0) hx hb dX3_isRunner_16 (by decide) ?_
      exact fin (0 : Int32) S _ _ _ _ rfl (Option.some.inj hf) rfl hH dX3_isRunner_17
    · replace hf := it_f c2 hf
      refine lv_iconst (v := 1) hx hb dX3_isRunner_12 (by decide) ?_
      refine lv_goto (tgt := 17) hx hb dX3_isRunner_13 (by decide) ?_
      exact fin (1 : Int32) S _ _ _ _ rfl (Option.some.inj hf) rfl hH dX3_isRunner_17
set_option maxRecDepth 100000 in
set_option maxHeartbeats 4000000 in
theorem c_X4_placeOf (l : Launch) (G : Gt) (A : Nat → Prop) (S : St)  (a0 : Int32) (a1 : Int32) (a2 : Int32) (q : Int32) (hf : f_X4_placeOf a0 a1 a2 = some q) : Met l yX4_placeOf wsX4_placeOf ({ frames := 0, cells := 0, slots := 0, locals := 0 } : Room) (va_Pc [.int a0, .int a1, .int a2] (PK G A (CW G S))) (va_Qi (fun (r2 : Int32) S2 => r2 = q ∧ S2 = S) (fun S2 : St => PK G A (CW G S2)) A) 0 0 A := by
  refine mstart_i (Wd := CW G) (cc := cX4_placeOf) (maxL := 3) (by decide) rfl (Nat.le_of_ble_eq_true rfl) (fun p e s m below meth c Qm ls hC hH hl fin => ?_)
  obtain ⟨hx, hb, hml, hown, hts⟩ := id hC.1
  have hl : lv_has ls 3 [(0, .int a0), (1, .int a1), (2, .int a2)] := hl
  have hf := hf
  rw [f_X4_placeOf] at hf
  refine lv_iload_n hx hb dX4_placeOf_0 rfl (lv_at hl 0 rfl) ?_
  refine lv_if_lt (tgt := 29) hx hb dX4_placeOf_1 (by decide) (fun c1 => ?_) (fun c1 => ?_)
  · replace hf := it_t c1 hf
    refine lv_iconst (v := -1) hx hb dX4_placeOf_29 (by decide) ?_
    exact fin (-1 : Int32) S _ _ _ _ (Option.some.inj hf) rfl hH dX4_placeOf_30
  · replace hf := it_f c1 hf
    refine lv_iload_n hx hb dX4_placeOf_4 rfl (lv_at hl 0 rfl) ?_
    refine lv_bipush (v := 24) hx hb dX4_placeOf_5 (by decide) ?_
    refine lv_icmp_gt (tgt := 29) hx hb dX4_placeOf_7 (by decide) (fun c2 => ?_) (fun c2 => ?_)
    · replace hf := it_t c2 hf
      refine lv_iconst (v := -1) hx hb dX4_placeOf_29 (by decide) ?_
      exact fin (-1 : Int32) S _ _ _ _ (Option.some.inj hf) rfl hH dX4_placeOf_30
    · replace hf := it_f c2 hf
      refine lv_iload_n hx hb dX4_placeOf_10 rfl (lv_at hl 1 rfl) ?_
      refine lv_if_lt (tgt := 29) hx hb dX4_placeOf_11 (by decide) (fun c3 => ?_) (fun c3 => ?_)
      · replace hf := it_t c3 hf
        refine lv_iconst (v := -1) hx hb dX4_placeOf_29 (by decide) ?_
        exact fin (-1 : Int32) S _ _ _ _ (Option.some.inj hf) rfl hH dX4_placeOf_30
      · replace hf := it_f c3 hf
        refine lv_iload_n hx hb dX4_placeOf_14 rfl (lv_at hl 1 rfl) ?_
        refine lv_bipush (v := 24) hx hb dX4_placeOf_15 (by decide) ?_
        refine lv_icmp_gt (tgt := 29) hx hb dX4_placeOf_17 (by decide) (fun c4 => ?_) (fun c4 => ?_)
        · replace hf := it_t c4 hf
          refine lv_iconst (v := -1) hx hb dX4_placeOf_29 (by decide) ?_
          exact fin (-1 : Int32) S _ _ _ _ (Option.some.inj hf) rfl hH dX4_placeOf_30
        · replace hf := it_f c4 hf
          refine lv_iload_n hx hb dX4_placeOf_20 rfl (lv_at hl 2 rfl) ?_
          refine lv_if_lt (tgt := 29) hx hb dX4_placeOf_21 (by decide) (fun c5 => ?_) (fun c5 => ?_)
          · replace hf := it_t c5 hf
            refine lv_iconst (v := -1) hx hb dX4_placeOf_29 (by decide) ?_
            exact fin (-1 : Int32) S _ _ _ _ (Option.some.inj hf) rfl hH dX4_placeOf_30
          · replace hf := it_f c5 hf
            refine lv_iload_n hx hb dX4_placeOf_24 rfl (lv_at hl 2 rfl) ?_
            refine lv_iconst (v := 4) hx hb dX4_placeOf_25 (by decide) ?_
            refine lv_icmp_le (tgt := 31) hx hb dX4_placeOf_26 (by decide) (fun c6 => ?_) (fun c6 => ?_)
            · replace hf := it_t c6 hf
              refine lv_iload_n hx hb dX4_placeOf_31 rfl (lv_at hl 0 rfl) ?_
              refine lv_bipush (v := 25) hx hb dX4_placeOf_32 (by decide) ?_
              refine lv_imul hx hb dX4_placeOf_34 ?_
              refine lv_iload_n hx hb dX4_placeOf_35 rfl (lv_at hl 1 rfl) ?_
              refine lv_iadd hx hb dX4_placeOf_36 ?_
              refine lv_iconst (v := 5) hx hb dX4_placeOf_37 (by decide) ?_
              refine lv_imul hx hb dX4_placeOf_38 ?_
              refine lv_iload_n hx hb dX4_placeOf_39 rfl (lv_at hl 2 rfl) ?_
              refine lv_iadd hx hb dX4_placeOf_40 ?_
              exact fin ((((a0 * (25 : Int32)) + a1) * (5 : Int32)) + a2) S _ _ _ _ (Option.some.inj hf) rfl hH dX4_placeOf_41
            · replace hf := it_f c6 hf
              refine lv_iconst (v := -1) hx hb dX4_placeOf_29 (by decide) ?_
              exact fin (-1 : Int32) S _ _ _ _ (Option.some.inj hf) rfl hH dX4_placeOf_30
theorem in_X4_chance_X4 : ∀ w ∈ wsX40, w ∈ wsX4_chance := fun w h => List.mem_cons_of_mem _ (List.mem_append_right _ h)
set_option maxRecDepth 100000 in
set_option maxHeartbeats 4000000 in
theorem c_X4_chance (l : Launch) (G : Gt) (A : Nat → Prop) (S : St)  (a1 : Int32) (a2 : Int32) (a3 : Int32) (q : Int64) (hf : f_X4_chance S a1 a2 a3 = some q) : Met l yX4_chance wsX4_chance ({ frames := 1, cells := 0, slots := 0, locals := 22 } : Room) (va_Pc [.ref (gC G 27), .int a1, .int a2, .int a3] (PK G A (CW G S))) (va_Ql (fun (r2 : Int64) S2 => r2 = q ∧ S2 = S) (fun S2 : St => PK G A (CW G S2)) A) 0 0 A := by
  refine mstart_l (Wd := CW G) (cc := cX4_chance) (maxL := 5) (by decide) rfl (Nat.le_of_ble_eq_true rfl) (fun p e s m below meth c Qm ls hC hH hl fin => ?_)
  obtain ⟨hx, hb, hml, hown, hts⟩ := id hC.1
  have hl : lv_has ls 5 [(0, .ref (gC G 27)), (1, .int a1), (2, .int a2), (3, .int a3)] := hl
  have hf := hf
  rw [f_X4_chance] at hf
  refine lv_iload_n hx hb dX4_chance_0 rfl (lv_at hl 1 rfl) ?_
  refine lv_iload_n hx hb dX4_chance_1 rfl (lv_at hl 2 rfl) ?_
  refine lv_iload_n hx hb dX4_chance_2 rfl (lv_at hl 3 rfl) ?_
  obtain ⟨r1, hr1, hf⟩ := ob hf
  refine callS_i [.int a1, .int a2, .int a3] [] hC hH (c_X4_placeOf l G A S a1 a2 a3 _ hr1) (va_cwS 3 hts gX4_chance_X4_placeOf rfl rfl rfl (by decide +kernel) ⟨Nat.le_of_ble_eq_true rfl, Nat.le_of_ble_eq_true rfl⟩) rfl hl.1 rfl (Nat.le_of_ble_eq_true rfl) dX4_chance_3 (fun H locs hH => ?_)
  refine lv_istore (lv' := [(4, .int r1), (0, .ref (gC G 27)), (1, .int a1), (2, .int a2), (3, .int a3)]) hx hb dX4_chance_6 hl (by decide) rfl (fun ls hl => ?_)
  refine lv_iload hx hb dX4_chance_8 (lv_at hl 0 rfl) ?_
  refine lv_if_lt (tgt := 33) hx hb dX4_chance_10 (by decide) (fun c2 => ?_) (fun c2 => ?_)
  · replace hf := it_t c2 hf
    refine lv_lconst (v := 0) hx hb dX4_chance_33 (by decide) ?_
    exact fin (0 : Int64) S _ _ _ _ (Option.some.inj hf) rfl hH dX4_chance_34
  · replace hf := it_f c2 hf
    refine lv_iload hx hb dX4_chance_13 (lv_at hl 0 rfl) ?_
    refine lv_aload_n hx hb dX4_chance_15 rfl (lv_at hl 1 rfl) ?_
    refine getO hC hH (27) rfl rfl in_X4_chance_X4 0 (by decide) (index := 9) (List.mem_of_getElem? (i := 1) rfl) rfl dX4_chance_16 ?_
    refine alen hC hH (28) 1 rfl rfl (v := 3125) rfl dX4_chance_19 ?_
    refine lv_icmp_ge (tgt := 33) hx hb dX4_chance_20 (by decide) (fun c3 => ?_) (fun c3 => ?_)
    · replace hf := it_t c3 hf
      refine lv_lconst (v := 0) hx hb dX4_chance_33 (by decide) ?_
      exact fin (0 : Int64) S _ _ _ _ (Option.some.inj hf) rfl hH dX4_chance_34
    · replace hf := it_f c3 hf
      refine lv_aload_n hx hb dX4_chance_23 rfl (lv_at hl 1 rfl) ?_
      refine getO hC hH (27) rfl rfl in_X4_chance_X4 0 (by decide) (index := 9) (List.mem_of_getElem? (i := 1) rfl) rfl dX4_chance_24 ?_
      refine lv_iload hx hb dX4_chance_27 (lv_at hl 0 rfl) ?_
      obtain ⟨g4, hf⟩ := gd hf
      refine aldJ hC hH (28) rfl g4 dX4_chance_29 ?_
      refine lv_goto (tgt := 34) hx hb dX4_chance_30 (by decide) ?_
      exact fin (gB S 28 r1.toNatClampNeg) S _ _ _ _ (Option.some.inj hf) rfl hH dX4_chance_34
theorem in_X4_chanceByToss_X3 : ∀ w ∈ wsX30, w ∈ wsX4_chanceByToss := fun w h => List.mem_cons_of_mem _ (List.mem_append_left _ (List.mem_append_right _ h))
theorem in_X4_chanceByToss_X4 : ∀ w ∈ wsX40, w ∈ wsX4_chanceByToss := fun w h => List.mem_cons_of_mem _ (List.mem_append_right _ h)
set_option maxRecDepth 100000 in
set_option maxHeartbeats 4000000 in
theorem c_X4_chanceByToss (l : Launch) (G : Gt) (A : Nat → Prop) (S : St) (j1 : Nat) (hj1 : j1 < 2) (a2 : Int32) (a3 : Int32) (a4 : Int32) (a5 : Int32) (q : Int64) (hf : f_X4_chanceByToss S j1 a2 a3 a4 a5 = some q) : Met l yX4_chanceByToss wsX4_chanceByToss ({ frames := 2, cells := 0, slots := 0, locals := 46 } : Room) (va_Pc [.ref (gC G 27), .ref (gC G (33 + 5 * j1)), .int a2, .int a3, .int a4, .int a5] (PK G A (CW G S))) (va_Ql (fun (r2 : Int64) S2 => r2 = q ∧ S2 = S) (fun S2 : St => PK G A (CW G S2)) A) 0 0 A := by
  refine mstart_l (Wd := CW G) (cc := cX4_chanceByToss) (maxL := 10) (by decide) rfl (Nat.le_of_ble_eq_true rfl) (fun p e s m below meth c Qm ls hC hH hl fin => ?_)
  obtain ⟨hx, hb, hml, hown, hts⟩ := id hC.1
  have hl : lv_has ls 10 [(0, .ref (gC G 27)), (1, .ref (gC G (33 + 5 * j1))), (2, .int a2), (3, .int a3), (4, .int a4), (5, .int a5)] := hl
  have hf := hf
  rw [f_X4_chanceByToss] at hf
  refine lv_aload_n hx hb dX4_chanceByToss_0 rfl (lv_at hl 0 rfl) ?_
  refine lv_iload_n hx hb dX4_chanceByToss_1 rfl (lv_at hl 3 rfl) ?_
  refine lv_iload_n hx hb dX4_chanceByToss_2 rfl (lv_at hl 2 rfl) ?_
  refine lv_iconst (v := 0) hx hb dX4_chanceByToss_3 (by decide) ?_
  refine lv_iload hx hb dX4_chanceByToss_4 (lv_at hl 4 rfl) ?_
  refine lv_iconst (v := 1) hx hb dX4_chanceByToss_6 (by decide) ?_
  refine lv_isub hx hb dX4_chanceByToss_7 ?_
  refine va_mmax hx hb (by rw [hml]; exact hl.1.symm) hown (hts _ (List.mem_of_getElem? (i := 1) rfl)) (hts _ (List.mem_of_getElem? (i := 2) rfl)) (hts _ (List.mem_of_getElem? (i := 3) rfl)) (hts _ (List.mem_of_getElem? (i := 4) rfl)) (Nat.le_of_ble_eq_true rfl) (Nat.le_of_ble_eq_true rfl) (Nat.zero_le _) (Nat.zero_le _) dX4_chanceByToss_8 ?_
  obtain ⟨r1, hr1, hf⟩ := ob hf
  refine callV_l [.int a3, .int a2, .int (if (0 : Int32) < (a4 - (1 : Int32)) then (a4 - (1 : Int32)) else (0 : Int32))] [] hC hH (c_X4_chance l G A S a3 a2 (if (0 : Int32) < (a4 - (1 : Int32)) then (a4 - (1 : Int32)) else (0 : Int32)) _ hr1) (cwV 3 hts gX4_chanceByToss_X4_chance rfl rfl rfl (by decide +kernel) ⟨Nat.le_of_ble_eq_true rfl, Nat.le_of_ble_eq_true rfl⟩) (recvW hC hH (c0 := 27) (ci := 4) rfl rfl) rfl hl.1 rfl (Nat.le_of_ble_eq_true rfl) dX4_chanceByToss_11 (fun H locs hH => ?_)
  refine lv_lstore (lv' := [(6, .long r1), (0, .ref (gC G 27)), (1, .ref (gC G (33 + 5 * j1))), (2, .int a2), (3, .int a3), (4, .int a4), (5, .int a5)]) hx hb dX4_chanceByToss_14 hl (by decide) rfl (fun ls hl => ?_)
  refine lv_aload_n hx hb dX4_chanceByToss_16 rfl (lv_at hl 1 rfl) ?_
  refine lv_iload_n hx hb dX4_chanceByToss_17 rfl (lv_at hl 4 rfl) ?_
  refine lv_aload_n hx hb dX4_chanceByToss_18 rfl (lv_at hl 2 rfl) ?_
  refine getN hC hH (33 + 5 * j1) (cw_lane (i := j1) hj1) rfl in_X4_chanceByToss_X3 8 (by decide) (index := 90) (List.mem_of_getElem? (i := 23) rfl) rfl dX4_chanceByToss_19 ?_
  refine lv_isub hx hb dX4_chanceByToss_22 ?_
  refine lv_iload_n hx hb dX4_chanceByToss_23 rfl (lv_at hl 3 rfl) ?_
  refine lv_iload hx hb dX4_chanceByToss_24 (lv_at hl 5 rfl) ?_
  obtain ⟨r2, hr2, hf⟩ := ob hf
  refine callV_l [.int (a3 - (gI S (33 + 5 * j1) 8)), .int a2, .int a4] [] hC hH (c_X4_chance l G A S (a3 - (gI S (33 + 5 * j1) 8)) a2 a4 _ hr2) (cwV 3 hts gX4_chanceByToss_X4_chance rfl rfl rfl (by decide +kernel) ⟨Nat.le_of_ble_eq_true rfl, Nat.le_of_ble_eq_true rfl⟩) (recvW hC hH (c0 := 27) (ci := 4) rfl rfl) rfl hl.1 rfl (Nat.le_of_ble_eq_true rfl) dX4_chanceByToss_26 (fun H locs hH => ?_)
  refine lv_lstore (lv' := [(8, .long r2), (6, .long r1), (0, .ref (gC G 27)), (1, .ref (gC G (33 + 5 * j1))), (2, .int a2), (3, .int a3), (4, .int a4), (5, .int a5)]) hx hb dX4_chanceByToss_29 hl (by decide) rfl (fun ls hl => ?_)
  refine lv_iload hx hb dX4_chanceByToss_31 (lv_at hl 7 rfl) ?_
  refine lv_i2l hx hb dX4_chanceByToss_33 rfl ?_
  refine lv_lload hx hb dX4_chanceByToss_34 (lv_at hl 1 rfl) ?_
  refine lv_lmul hx hb dX4_chanceByToss_36 ?_
  refine lv_bipush (v := 10) hx hb dX4_chanceByToss_37 (by decide) ?_
  refine lv_iload hx hb dX4_chanceByToss_39 (lv_at hl 7 rfl) ?_
  refine lv_isub hx hb dX4_chanceByToss_41 ?_
  refine lv_i2l hx hb dX4_chanceByToss_42 rfl ?_
  refine lv_lload hx hb dX4_chanceByToss_43 (lv_at hl 0 rfl) ?_
  refine lv_lmul hx hb dX4_chanceByToss_45 ?_
  refine lv_ladd hx hb dX4_chanceByToss_46 ?_
  refine lv_ldc2 (v := 10) hx hb hown (hts (.constantLong RX4 93 (10)) (List.mem_of_getElem? (i := 5) rfl)) dX4_chanceByToss_47 ?_
  refine lv_ldiv hx hb dX4_chanceByToss_50 (by decide) ?_
  exact fin ((((a5.toInt64) * r1) + ((((10 : Int32) - a5).toInt64) * r2)) / (10 : Int64)) S _ _ _ _ (Option.some.inj hf) rfl hH dX4_chanceByToss_51
theorem in_X4_bestChance_X3 : ∀ w ∈ wsX30, w ∈ wsX4_bestChance := fun w h => List.mem_cons_of_mem _ (List.mem_append_left _ (List.mem_append_right _ h))
theorem in_X4_bestChance_X4 : ∀ w ∈ wsX40, w ∈ wsX4_bestChance := fun w h => List.mem_cons_of_mem _ (List.mem_append_right _ h)
set_option maxRecDepth 100000 in
set_option maxHeartbeats 4000000 in
theorem c_X4_bestChance (l : Launch) (G : Gt) (A : Nat → Prop) (S : St) (j1 : Nat) (hj1 : j1 < 2) (a2 : Int32) (a3 : Int32) (a4 : Int32) (a5 : Int32) (q : Int64) (hf : f_X4_bestChance S j1 a2 a3 a4 a5 = some q) : Met l yX4_bestChance wsX4_bestChance ({ frames := 3, cells := 0, slots := 0, locals := 75 } : Room) (va_Pc [.ref (gC G 27), .ref (gC G (33 + 5 * j1)), .int a2, .int a3, .int a4, .int a5] (PK G A (CW G S))) (va_Ql (fun (r2 : Int64) S2 => r2 = q ∧ S2 = S) (fun S2 : St => PK G A (CW G S2)) A) 0 0 A := by
  refine mstart_l (Wd := CW G) (cc := cX4_bestChance) (maxL := 12) (by decide) rfl (Nat.le_of_ble_eq_true rfl) (fun p e s m below meth c Qm ls hC hH hl fin => ?_)
  obtain ⟨hx, hb, hml, hown, hts⟩ := id hC.1
  have hl : lv_has ls 12 [(0, .ref (gC G 27)), (1, .ref (gC G (33 + 5 * j1))), (2, .int a2), (3, .int a3), (4, .int a4), (5, .int a5)] := hl
  have kJ21 : ∀ (H : Heap) (locs : List Loc) (ls : Array Slot), HW G A (CW G S) s H locs → lv_has ls 12 [(5, .int a5)] → f_X4_bestChance_21 S j1 a5 () = some q → W p l e ({ frames := 3, cells := 0, slots := 0, locals := 75 } : Room) s m [.ref (gC G 27), .ref (gC G (33 + 5 * j1)), .int a2, .int a3, .int a4, .int a5].toArray below meth c H locs 0 0 Qm (F0 m 21 ls []) := by
    intro H locs ls hH hl hf
    rw [f_X4_bestChance_21] at hf
    refine lv_iload hx hb dX4_bestChance_21 (lv_at hl 0 rfl) ?_
    refine lv_if_ne (tgt := 32) hx hb dX4_bestChance_23 (by decide) (fun c2 => ?_) (fun c2 => ?_)
    · replace hf := it_f c2 hf
      refine lv_lconst (v := 0) hx hb dX4_bestChance_32 (by decide) ?_
      exact fin (0 : Int64) S _ _ _ _ (Option.some.inj hf) rfl hH dX4_bestChance_33
    · replace hf := it_t c2 hf
      refine lv_ldc2 (v := 1000000000000) hx hb hown (hts (.constantLong RX4 61 (1000000000000)) (List.mem_of_getElem? (i := 1) rfl)) dX4_bestChance_26 ?_
      refine lv_goto (tgt := 33) hx hb dX4_bestChance_29 (by decide) ?_
      exact fin (1000000000000 : Int64) S _ _ _ _ (Option.some.inj hf) rfl hH dX4_bestChance_33
  have hf := hf
  rw [f_X4_bestChance] at hf
  refine lv_iload hx hb dX4_bestChance_0 (lv_at hl 4 rfl) ?_
  refine lv_if_lt (tgt := 21) hx hb dX4_bestChance_2 (by decide) (fun c1 => ?_) (fun c1 => ?_)
  · replace hf := it_t c1 hf
    exact kJ21   _ _ _ hH (lv_sub hl [5] rfl) hf
  · replace hf := it_f c1 hf
    refine lv_iload hx hb dX4_bestChance_5 (lv_at hl 4 rfl) ?_
    refine lv_aload_n hx hb dX4_bestChance_7 rfl (lv_at hl 1 rfl) ?_
    refine getN hC hH (33 + 5 * j1) (cw_lane (i := j1) hj1) rfl in_X4_bestChance_X3 4 (by decide) (index := 28) (List.mem_of_getElem? (i := 11) rfl) rfl dX4_bestChance_8 ?_
    refine lv_icmp_ge (tgt := 21) hx hb dX4_bestChance_11 (by decide) (fun c3 => ?_) (fun c3 => ?_)
    · replace hf := it_t c3 hf
      exact kJ21   _ _ _ hH (lv_sub hl [5] rfl) hf
    · replace hf := it_f c3 hf
      refine lv_iload hx hb dX4_bestChance_14 (lv_at hl 4 rfl) ?_
      refine lv_bipush (v := 24) hx hb dX4_bestChance_16 (by decide) ?_
      refine lv_icmp_lt (tgt := 34) hx hb dX4_bestChance_18 (by decide) (fun c4 => ?_) (fun c4 => ?_)
      · replace hf := it_t c4 hf
        refine lv_aload_n hx hb dX4_bestChance_34 rfl (lv_at hl 0 rfl) ?_
        refine lv_iload_n hx hb dX4_bestChance_35 rfl (lv_at hl 3 rfl) ?_
        refine lv_iconst (v := 1) hx hb dX4_bestChance_36 (by decide) ?_
        refine lv_isub hx hb dX4_bestChance_37 ?_
        refine lv_aload_n hx hb dX4_bestChance_38 rfl (lv_at hl 1 rfl) ?_
        refine lv_iload_n hx hb dX4_bestChance_39 rfl (lv_at hl 2 rfl) ?_
        refine lv_iload hx hb dX4_bestChance_40 (lv_at hl 4 rfl) ?_
        refine lv_iconst (v := 1) hx hb dX4_bestChance_42 (by decide) ?_
        obtain ⟨r5, hr5, hf⟩ := ob hf
        refine callV_i [.int a2, .int a4, .int (1 : Int32)] [.int (a3 - (1 : Int32)), .ref (gC G 27)] hC hH (c_X3_yardOnRun l G A S j1 hj1 a2 a4 (1 : Int32) _ hr5) (cwV 3 hts gX4_bestChance_X3_yardOnRun rfl rfl rfl (by decide +kernel) ⟨Nat.le_of_ble_eq_true rfl, Nat.le_of_ble_eq_true rfl⟩) (recvW hC hH (c0 := 33 + 5 * j1) (ci := 3) (cw_lane (i := j1) hj1) rfl) rfl hl.1 rfl (Nat.le_of_ble_eq_true rfl) dX4_bestChance_43 (fun H locs hH => ?_)
        refine lv_iload hx hb dX4_bestChance_46 (lv_at hl 5 rfl) ?_
        obtain ⟨r6, hr6, hf⟩ := ob hf
        refine callV_l [.int (a3 - (1 : Int32)), .int r5, .int a5] [] hC hH (c_X4_chance l G A S (a3 - (1 : Int32)) r5 a5 _ hr6) (cwV 3 hts gX4_bestChance_X4_chance rfl rfl rfl (by decide +kernel) ⟨Nat.le_of_ble_eq_true rfl, Nat.le_of_ble_eq_true rfl⟩) (recvW hC hH (c0 := 27) (ci := 4) rfl rfl) rfl hl.1 rfl (Nat.le_of_ble_eq_true rfl) dX4_bestChance_48 (fun H locs hH => ?_)
        refine lv_lstore (lv' := [(6, .long r6), (0, .ref (gC G 27)), (1, .ref (gC G (33 + 5 * j1))), (2, .int a2), (3, .int a3), (4, .int a4), (5, .int a5)]) hx hb dX4_bestChance_51 hl (by decide) rfl (fun ls hl => ?_)
        refine lv_aload_n hx hb dX4_bestChance_53 rfl (lv_at hl 1 rfl) ?_
        refine lv_aload_n hx hb dX4_bestChance_54 rfl (lv_at hl 2 rfl) ?_
        refine lv_iload hx hb dX4_bestChance_55 (lv_at hl 5 rfl) ?_
        refine lv_iload_n hx hb dX4_bestChance_57 rfl (lv_at hl 4 rfl) ?_
        refine lv_aload_n hx hb dX4_bestChance_58 rfl (lv_at hl 1 rfl) ?_
        refine getO hC hH (27) rfl rfl in_X4_bestChance_X4 3 (by decide) (index := 22) (List.mem_of_getElem? (i := 2) rfl) rfl dX4_bestChance_59 ?_
        refine lv_iload hx hb dX4_bestChance_62 (lv_at hl 5 rfl) ?_
        obtain ⟨g7, hf⟩ := gd hf
        refine aldI hC hH (31) rfl g7 dX4_bestChance_64 ?_
        obtain ⟨r8, hr8, hf⟩ := ob hf
        refine callN_i [.int (gA S 31 a4.toNatClampNeg)] [.int a3, .int a4, .ref (gC G (33 + 5 * j1)), .ref (gC G 27)] hC hH (c_X9_beatsInAir l G A S (gA S 31 a4.toNatClampNeg) _ hr8) ⟨va_cnB 1 hts gX4_bestChance_X9_beatsInAir_n70 rfl rfl rfl (hC.2.2.1.2 _ (List.mem_of_getElem? (i := 4) rfl)) (hts _ (List.mem_of_getElem? (i := 34) rfl)) (by decide +kernel) ⟨Nat.le_of_ble_eq_true rfl, Nat.le_of_ble_eq_true rfl⟩, hts _ (List.mem_of_getElem? (i := 33) rfl), trivial⟩ rfl hl.1 rfl (Nat.le_of_ble_eq_true rfl) dX4_bestChance_65 (fun H locs hH => ?_)
        refine lv_isub hx hb dX4_bestChance_68 ?_
        refine lv_iload hx hb dX4_bestChance_69 (lv_at hl 6 rfl) ?_
        refine lv_aload_n hx hb dX4_bestChance_71 rfl (lv_at hl 1 rfl) ?_
        refine getO hC hH (27) rfl rfl in_X4_bestChance_X4 1 (by decide) (index := 15) (List.mem_of_getElem? (i := 3) rfl) rfl dX4_bestChance_72 ?_
        refine lv_iload hx hb dX4_bestChance_75 (lv_at hl 5 rfl) ?_
        obtain ⟨g9, hf⟩ := gd hf
        refine aldI hC hH (29) rfl g9 dX4_bestChance_77 ?_
        obtain ⟨r10, hr10, hf⟩ := ob hf
        refine callV_l [.ref (gC G (33 + 5 * j1)), .int a4, .int (a3 - r8), .int a5, .int (gA S 29 a4.toNatClampNeg)] [] hC hH (c_X4_chanceByToss l G A S j1 hj1 a4 (a3 - r8) a5 (gA S 29 a4.toNatClampNeg) _ hr10) (cwV 5 hts gX4_bestChance_X4_chanceByToss rfl rfl rfl (by decide +kernel) ⟨Nat.le_of_ble_eq_true rfl, Nat.le_of_ble_eq_true rfl⟩) (recvW hC hH (c0 := 27) (ci := 4) rfl rfl) rfl hl.1 rfl (Nat.le_of_ble_eq_true rfl) dX4_bestChance_78 (fun H locs hH => ?_)
        refine lv_lstore (lv' := [(8, .long r10), (6, .long r6), (0, .ref (gC G 27)), (1, .ref (gC G (33 + 5 * j1))), (2, .int a2), (3, .int a3), (4, .int a4), (5, .int a5)]) hx hb dX4_bestChance_81 hl (by decide) rfl (fun ls hl => ?_)
        refine lv_aload_n hx hb dX4_bestChance_83 rfl (lv_at hl 2 rfl) ?_
        refine lv_aload_n hx hb dX4_bestChance_84 rfl (lv_at hl 3 rfl) ?_
        refine lv_aload_n hx hb dX4_bestChance_85 rfl (lv_at hl 3 rfl) ?_
        refine lv_iload_n hx hb dX4_bestChance_86 rfl (lv_at hl 4 rfl) ?_
        refine lv_iload hx hb dX4_bestChance_87 (lv_at hl 6 rfl) ?_
        refine lv_aload_n hx hb dX4_bestChance_89 rfl (lv_at hl 2 rfl) ?_
        refine getO hC hH (27) rfl rfl in_X4_bestChance_X4 4 (by decide) (index := 25) (List.mem_of_getElem? (i := 4) rfl) rfl dX4_bestChance_90 ?_
        refine lv_iload hx hb dX4_bestChance_93 (lv_at hl 6 rfl) ?_
        obtain ⟨g11, hf⟩ := gd hf
        refine aldI hC hH (32) rfl g11 dX4_bestChance_95 ?_
        refine lv_iconst (v := 1) hx hb dX4_bestChance_96 (by decide) ?_
        obtain ⟨r12, hr12, hf⟩ := ob hf
        refine callV_i [.int a2, .int a4, .int (gA S 32 a4.toNatClampNeg), .int (1 : Int32)] [.ref (gC G (33 + 5 * j1)), .ref (gC G 27)] hC hH (c_X3_yardAfter l G A S j1 hj1 a2 a4 (gA S 32 a4.toNatClampNeg) (1 : Int32) _ hr12) (cwV 4 hts gX4_bestChance_X3_yardAfter rfl rfl rfl (by decide +kernel) ⟨Nat.le_of_ble_eq_true rfl, Nat.le_of_ble_eq_true rfl⟩) (recvW hC hH (c0 := 33 + 5 * j1) (ci := 3) (cw_lane (i := j1) hj1) rfl) rfl hl.1 rfl (Nat.le_of_ble_eq_true rfl) dX4_bestChance_97 (fun H locs hH => ?_)
        refine lv_iload_n hx hb dX4_bestChance_100 rfl (lv_at hl 5 rfl) ?_
        refine lv_aload_n hx hb dX4_bestChance_101 rfl (lv_at hl 2 rfl) ?_
        refine getO hC hH (27) rfl rfl in_X4_bestChance_X4 4 (by decide) (index := 25) (List.mem_of_getElem? (i := 4) rfl) rfl dX4_bestChance_102 ?_
        refine lv_iload hx hb dX4_bestChance_105 (lv_at hl 6 rfl) ?_
        obtain ⟨g13, hf⟩ := gd hf
        refine aldI hC hH (32) rfl g13 dX4_bestChance_107 ?_
        obtain ⟨r14, hr14, hf⟩ := ob hf
        refine callN_i [.int (gA S 32 a4.toNatClampNeg)] [.int a3, .int r12, .ref (gC G (33 + 5 * j1)), .ref (gC G 27)] hC hH (c_X9_beatsInAir l G A S (gA S 32 a4.toNatClampNeg) _ hr14) ⟨va_cnB 1 hts gX4_bestChance_X9_beatsInAir_n70 rfl rfl rfl (hC.2.2.1.2 _ (List.mem_of_getElem? (i := 4) rfl)) (hts _ (List.mem_of_getElem? (i := 34) rfl)) (by decide +kernel) ⟨Nat.le_of_ble_eq_true rfl, Nat.le_of_ble_eq_true rfl⟩, hts _ (List.mem_of_getElem? (i := 33) rfl), trivial⟩ rfl hl.1 rfl (Nat.le_of_ble_eq_true rfl) dX4_bestChance_108 (fun H locs hH => ?_)
        refine lv_isub hx hb dX4_bestChance_111 ?_
        refine lv_iload hx hb dX4_bestChance_112 (lv_at hl 7 rfl) ?_
        refine lv_aload_n hx hb dX4_bestChance_114 rfl (lv_at hl 2 rfl) ?_
        refine getO hC hH (27) rfl rfl in_X4_bestChance_X4 2 (by decide) (index := 19) (List.mem_of_getElem? (i := 5) rfl) rfl dX4_bestChance_115 ?_
        refine lv_iload hx hb dX4_bestChance_118 (lv_at hl 6 rfl) ?_
        obtain ⟨g15, hf⟩ := gd hf
        refine aldI hC hH (30) rfl g15 dX4_bestChance_120 ?_
        obtain ⟨r16, hr16, hf⟩ := ob hf
        refine callV_l [.ref (gC G (33 + 5 * j1)), .int r12, .int (a3 - r14), .int a5, .int (gA S 30 a4.toNatClampNeg)] [] hC hH (c_X4_chanceByToss l G A S j1 hj1 r12 (a3 - r14) a5 (gA S 30 a4.toNatClampNeg) _ hr16) (cwV 5 hts gX4_bestChance_X4_chanceByToss rfl rfl rfl (by decide +kernel) ⟨Nat.le_of_ble_eq_true rfl, Nat.le_of_ble_eq_true rfl⟩) (recvW hC hH (c0 := 27) (ci := 4) rfl rfl) rfl hl.1 rfl (Nat.le_of_ble_eq_true rfl) dX4_bestChance_121 (fun H locs hH => ?_)
        refine lv_lstore (lv' := [(10, .long r16), (8, .long r10), (6, .long r6), (0, .ref (gC G 27)), (1, .ref (gC G (33 + 5 * j1))), (2, .int a2), (3, .int a3), (4, .int a4), (5, .int a5)]) hx hb dX4_bestChance_124 hl (by decide) rfl (fun ls hl => ?_)
        refine lv_lload hx hb dX4_bestChance_126 (lv_at hl 2 rfl) ?_
        refine lv_lload hx hb dX4_bestChance_128 (lv_at hl 1 rfl) ?_
        refine lv_lload hx hb dX4_bestChance_130 (lv_at hl 0 rfl) ?_
        refine va_mmax_long hx hb (by rw [hml]; exact hl.1.symm) hown (hts _ (List.mem_of_getElem? (i := 6) rfl)) (hts _ (List.mem_of_getElem? (i := 7) rfl)) (hts _ (List.mem_of_getElem? (i := 8) rfl)) (hts _ (List.mem_of_getElem? (i := 9) rfl)) (Nat.le_of_ble_eq_true rfl) (Nat.le_of_ble_eq_true rfl) (Nat.zero_le _) (Nat.zero_le _) dX4_bestChance_132 ?_
        refine va_mmax_long hx hb (by rw [hml]; exact hl.1.symm) hown (hts _ (List.mem_of_getElem? (i := 6) rfl)) (hts _ (List.mem_of_getElem? (i := 7) rfl)) (hts _ (List.mem_of_getElem? (i := 8) rfl)) (hts _ (List.mem_of_getElem? (i := 9) rfl)) (Nat.le_of_ble_eq_true rfl) (Nat.le_of_ble_eq_true rfl) (Nat.zero_le _) (Nat.zero_le _) dX4_bestChance_135 ?_
        exact fin (if (if r16 < r10 then r10 else r16) < r6 then r6 else (if r16 < r10 then r10 else r16)) S _ _ _ _ (Option.some.inj hf) rfl hH dX4_bestChance_138
      · replace hf := it_f c4 hf
        exact kJ21   _ _ _ hH (lv_sub hl [5] rfl) hf
