/-! walks: X4_setChance X4_fill X5_append X5_allow X8_byteAt X6_skipBlanks X6_isLetter J0_coder_7d493 J0_length_8abf5 J0_isLatin1_aae02 J3_checkIndex_8e157 J0_checkIndex_df160 J1_charAt_3b067 J0_charAt_5068e X8_holds -/
theorem in_X4_setChance_X4 : ∀ w ∈ wsX40, w ∈ wsX4_setChance := fun w h => List.mem_cons_of_mem _ (List.mem_append_right _ h)
set_option maxRecDepth 100000 in
set_option maxHeartbeats 4000000 in
theorem c_X4_setChance (l : Launch) (G : Gt) (A : Nat → Prop) (S : St)  (a1 : Int32) (a2 : Int32) (a3 : Int32) (a4 : Int64) (q : St) (hf : f_X4_setChance S a1 a2 a3 a4 = some q) : Met l yX4_setChance wsX4_setChance ({ frames := 1, cells := 0, slots := 0, locals := 22 } : Room) (va_Pc [.ref (gC G 27), .int a1, .int a2, .int a3, .long a4] (PK G A (CW G S))) (va_Qv (fun S2 => S2 = q) (fun S2 : St => PK G A (CW G S2)) A) 0 0 A := by
  refine mstart_v (Wd := CW G) (cc := cX4_setChance) (maxL := 7) (by decide) rfl (Nat.le_of_ble_eq_true rfl) (fun p e s m below meth c Qm ls hC hH hl fin => ?_)
  obtain ⟨hx, hb, hml, hown, hts⟩ := id hC.1
  have hl : lv_has ls 7 [(0, .ref (gC G 27)), (1, .int a1), (2, .int a2), (3, .int a3), (4, .long a4)] := hl
  have hf := hf
  rw [f_X4_setChance] at hf
  refine lv_iload_n hx hb dX4_setChance_0 rfl (lv_at hl 1 rfl) ?_
  refine lv_iload_n hx hb dX4_setChance_1 rfl (lv_at hl 2 rfl) ?_
  refine lv_iload_n hx hb dX4_setChance_2 rfl (lv_at hl 3 rfl) ?_
  obtain ⟨r1, hr1, hf⟩ := ob hf
  refine callS_i [.int a1, .int a2, .int a3] [] hC hH (c_X4_placeOf l G A S a1 a2 a3 _ hr1) (va_cwS 3 hts gX4_setChance_X4_placeOf rfl rfl rfl (by decide +kernel) ⟨Nat.le_of_ble_eq_true rfl, Nat.le_of_ble_eq_true rfl⟩) rfl hl.1 rfl (Nat.le_of_ble_eq_true rfl) dX4_setChance_3 (fun H locs hH => ?_)
  refine lv_istore (lv' := [(6, .int r1), (0, .ref (gC G 27)), (1, .int a1), (2, .int a2), (3, .int a3), (4, .long a4)]) hx hb dX4_setChance_6 hl (by decide) rfl (fun ls hl => ?_)
  refine lv_iload hx hb dX4_setChance_8 (lv_at hl 0 rfl) ?_
  refine lv_if_lt (tgt := 32) hx hb dX4_setChance_10 (by decide) (fun c2 => ?_) (fun c2 => ?_)
  · replace hf := it_t c2 hf
    exact fin S _ _ _ _ (Option.some.inj hf) hH dX4_setChance_32
  · replace hf := it_f c2 hf
    refine lv_iload hx hb dX4_setChance_13 (lv_at hl 0 rfl) ?_
    refine lv_aload_n hx hb dX4_setChance_15 rfl (lv_at hl 1 rfl) ?_
    refine getO hC hH (27) rfl rfl in_X4_setChance_X4 0 (by decide) (index := 9) (List.mem_of_getElem? (i := 1) rfl) rfl dX4_setChance_16 ?_
    refine alen hC hH (28) 1 rfl rfl (v := 3125) rfl dX4_setChance_19 ?_
    refine lv_icmp_ge (tgt := 32) hx hb dX4_setChance_20 (by decide) (fun c3 => ?_) (fun c3 => ?_)
    · replace hf := it_t c3 hf
      exact fin S _ _ _ _ (Option.some.inj hf) hH dX4_setChance_32
    · replace hf := it_f c3 hf
      refine lv_aload_n hx hb dX4_setChance_23 rfl (lv_at hl 1 rfl) ?_
      refine getO hC hH (27) rfl rfl in_X4_setChance_X4 0 (by decide) (index := 9) (List.mem_of_getElem? (i := 1) rfl) rfl dX4_setChance_24 ?_
      refine lv_iload hx hb dX4_setChance_27 (lv_at hl 0 rfl) ?_
      refine lv_lload hx hb dX4_setChance_29 (lv_at hl 5 rfl) ?_
      obtain ⟨g4, hf⟩ := gd hf
      refine astJ hC hH (28) rfl g4 ct_28 dX4_setChance_31 (fun H locs hH => ?_)
      obtain ⟨S5, eS5⟩ : ∃ Z : St, Z = sB S 28 (vp_updL (gB S 28) r1.toNatClampNeg a4) := ⟨_, rfl⟩
      rw [← eS5] at hH
      replace hf := bn eS5 hf
      exact fin S5 _ _ _ _ (Option.some.inj hf) hH dX4_setChance_32
theorem in_X4_fill_X1 : ∀ w ∈ wsX10, w ∈ wsX4_fill := fun w h => List.mem_cons_of_mem _ (List.mem_append_right _ h)
theorem in_X4_fill_X3 : ∀ w ∈ wsX30, w ∈ wsX4_fill := fun w h => List.mem_cons_of_mem _ (List.mem_append_left _ (List.mem_append_left _ (List.mem_append_right _ h)))
theorem in_X4_fill_X4 : ∀ w ∈ wsX40, w ∈ wsX4_fill := fun w h => List.mem_cons_of_mem _ (List.mem_append_left _ (List.mem_append_right _ h))
set_option maxRecDepth 100000 in
set_option maxHeartbeats 4000000 in
theorem c_X4_fill (l : Launch) (G : Gt) (A : Nat → Prop) (N : Nat) (S : St) (j1 : Nat) (hj1 : j1 < 2) (a2 : Int32) (q : St) (hf : f_X4_fill N S j1 a2 = some q) : Met l yX4_fill wsX4_fill ({ frames := 5, cells := 0, slots := 0, locals := 128 } : Room) (va_Pc [.ref (gC G 27), .ref (gC G (33 + 5 * j1)), .int a2, .ref (gC G 26)] (PK G A (CW G S))) (va_Qv (fun S2 => S2 = q) (fun S2 : St => PK G A (CW G S2)) A) 0 0 A := by
  refine mstart_v (Wd := CW G) (cc := cX4_fill) (maxL := 7) (by decide) rfl (Nat.le_of_ble_eq_true rfl) (fun p e s m below meth c Qm ls hC hH hl fin => ?_)
  obtain ⟨hx, hb, hml, hown, hts⟩ := id hC.1
  have hl : lv_has ls 7 [(0, .ref (gC G 27)), (1, .ref (gC G (33 + 5 * j1))), (2, .int a2), (3, .ref (gC G 26))] := hl
  have kL3 : ∀ (k87 : St → Option St) (hk87 : ∀ (S : St) (H : Heap) (locs : List Loc) (ls : Array Slot), HW G A (CW G S) s H locs → lv_has ls 7 [(0, .ref (gC G 27)), (1, .ref (gC G (33 + 5 * j1))), (2, .int a2)] → k87 S = some q → W p l e ({ frames := 5, cells := 0, slots := 0, locals := 128 } : Room) s m [.ref (gC G 27), .ref (gC G (33 + 5 * j1)), .int a2, .ref (gC G 26)].toArray below meth c H locs 0 0 Qm (F0 m 87 ls [])) , ∀ (n : Nat), ∀ (S : St) (x4 : Int32) (H : Heap) (locs : List Loc) (ls : Array Slot), HW G A (CW G S) s H locs → lv_has ls 7 [(0, .ref (gC G 27)), (1, .ref (gC G (33 + 5 * j1))), (2, .int a2), (3, .ref (gC G 26)), (4, .int x4)] → g_X4_fill_3 N j1 a2 k87 n S x4 = some q → W p l e ({ frames := 5, cells := 0, slots := 0, locals := 128 } : Room) s m [.ref (gC G 27), .ref (gC G (33 + 5 * j1)), .int a2, .ref (gC G 26)].toArray below meth c H locs 0 0 Qm (F0 m 3 ls []) := by
    intro k87 hk87 n
    induction n with
    | zero => intro S x4 H locs ls hH hl hf; exact absurd hf.symm (Option.some_ne_none q)
    | succ n ih =>
      intro S x4 H locs ls hH hl hf
      have hrec := ih
      have hf : s_X4_fill_3 N j1 a2 k87 (g_X4_fill_3 N j1 a2 k87 n) S x4 = some q := hf
      rw [s_X4_fill_3] at hf
      refine lv_iload hx hb dX4_fill_3 (lv_at hl 4 rfl) ?_
      refine lv_aload_n hx hb dX4_fill_5 rfl (lv_at hl 1 rfl) ?_
      refine getN hC hH (33 + 5 * j1) (cw_lane (i := j1) hj1) rfl in_X4_fill_X3 4 (by decide) (index := 28) (List.mem_of_getElem? (i := 11) rfl) rfl dX4_fill_6 ?_
      refine lv_icmp_ge (tgt := 87) hx hb dX4_fill_9 (by decide) (fun c1 => ?_) (fun c1 => ?_)
      · replace hf := it_t c1 hf
        exact hk87 S _ _ _ hH (lv_sub hl [0, 1, 2] rfl) hf
      · replace hf := it_f c1 hf
        refine lv_iload hx hb dX4_fill_12 (lv_at hl 4 rfl) ?_
        refine lv_bipush (v := 24) hx hb dX4_fill_14 (by decide) ?_
        refine lv_icmp_ge (tgt := 87) hx hb dX4_fill_16 (by decide) (fun c2 => ?_) (fun c2 => ?_)
        · replace hf := it_t c2 hf
          exact hk87 S _ _ _ hH (lv_sub hl [0, 1, 2] rfl) hf
        · replace hf := it_f c2 hf
          refine lv_aload_n hx hb dX4_fill_19 rfl (lv_at hl 3 rfl) ?_
          refine lv_aload_n hx hb dX4_fill_20 rfl (lv_at hl 1 rfl) ?_
          refine lv_iload_n hx hb dX4_fill_21 rfl (lv_at hl 2 rfl) ?_
          refine lv_iload hx hb dX4_fill_22 (lv_at hl 4 rfl) ?_
          refine lv_iconst (v := 0) hx hb dX4_fill_24 (by decide) ?_
          obtain ⟨r3, hr3, hf⟩ := ob hf
          refine callV_v [.ref (gC G (33 + 5 * j1)), .int a2, .int x4, .int (0 : Int32)] [] hC hH (c_X1_find l G A N S j1 hj1 a2 x4 (0 : Int32) _ hr3) (cwV 4 hts gX4_fill_X1_find rfl rfl rfl (by decide +kernel) ⟨Nat.le_of_ble_eq_true rfl, Nat.le_of_ble_eq_true rfl⟩) (recvW hC hH (c0 := 26) (ci := 1) rfl rfl) rfl hl.1 rfl (Nat.le_of_ble_eq_true rfl) dX4_fill_25 (fun H locs hH => ?_)
          refine lv_aload_n hx hb dX4_fill_28 rfl (lv_at hl 0 rfl) ?_
          refine getO hC hH (27) rfl rfl in_X4_fill_X4 1 (by decide) (index := 15) (List.mem_of_getElem? (i := 1) rfl) rfl dX4_fill_29 ?_
          refine lv_iload hx hb dX4_fill_32 (lv_at hl 4 rfl) ?_
          refine lv_aload_n hx hb dX4_fill_34 rfl (lv_at hl 3 rfl) ?_
          refine getN hC hH (26) rfl rfl in_X4_fill_X1 0 (by decide) (index := 40) (List.mem_of_getElem? (i := 8) rfl) rfl dX4_fill_35 ?_
          obtain ⟨g4, hf⟩ := gd hf
          refine astI hC hH (29) rfl g4 ct_29 dX4_fill_38 (fun H locs hH => ?_)
          obtain ⟨S5, eS5⟩ : ∃ Z : St, Z = sA r3 29 (upd (gA r3 29) x4.toNatClampNeg (gI r3 26 0)) := ⟨_, rfl⟩
          rw [← eS5] at hH
          replace hf := bn eS5 hf
          refine lv_aload_n hx hb dX4_fill_39 rfl (lv_at hl 0 rfl) ?_
          refine getO hC hH (27) rfl rfl in_X4_fill_X4 3 (by decide) (index := 22) (List.mem_of_getElem? (i := 2) rfl) rfl dX4_fill_40 ?_
          refine lv_iload hx hb dX4_fill_43 (lv_at hl 4 rfl) ?_
          refine lv_aload_n hx hb dX4_fill_45 rfl (lv_at hl 3 rfl) ?_
          refine getN hC hH (26) rfl rfl in_X4_fill_X1 1 (by decide) (index := 43) (List.mem_of_getElem? (i := 10) rfl) rfl dX4_fill_46 ?_
          obtain ⟨g6, hf⟩ := gd hf
          refine astI hC hH (31) rfl g6 ct_31 dX4_fill_49 (fun H locs hH => ?_)
          obtain ⟨S7, eS7⟩ : ∃ Z : St, Z = sA S5 31 (upd (gA S5 31) x4.toNatClampNeg (gI S5 26 1)) := ⟨_, rfl⟩
          rw [← eS7] at hH
          replace hf := bn eS7 hf
          refine lv_aload_n hx hb dX4_fill_50 rfl (lv_at hl 3 rfl) ?_
          refine lv_aload_n hx hb dX4_fill_51 rfl (lv_at hl 1 rfl) ?_
          refine lv_iload_n hx hb dX4_fill_52 rfl (lv_at hl 2 rfl) ?_
          refine lv_iload hx hb dX4_fill_53 (lv_at hl 4 rfl) ?_
          refine lv_iconst (v := 1) hx hb dX4_fill_55 (by decide) ?_
          obtain ⟨r8, hr8, hf⟩ := ob hf
          refine callV_v [.ref (gC G (33 + 5 * j1)), .int a2, .int x4, .int (1 : Int32)] [] hC hH (c_X1_find l G A N S7 j1 hj1 a2 x4 (1 : Int32) _ hr8) (cwV 4 hts gX4_fill_X1_find rfl rfl rfl (by decide +kernel) ⟨Nat.le_of_ble_eq_true rfl, Nat.le_of_ble_eq_true rfl⟩) (recvW hC hH (c0 := 26) (ci := 1) rfl rfl) rfl hl.1 rfl (Nat.le_of_ble_eq_true rfl) dX4_fill_56 (fun H locs hH => ?_)
          refine lv_aload_n hx hb dX4_fill_59 rfl (lv_at hl 0 rfl) ?_
          refine getO hC hH (27) rfl rfl in_X4_fill_X4 2 (by decide) (index := 19) (List.mem_of_getElem? (i := 3) rfl) rfl dX4_fill_60 ?_
          refine lv_iload hx hb dX4_fill_63 (lv_at hl 4 rfl) ?_
          refine lv_aload_n hx hb dX4_fill_65 rfl (lv_at hl 3 rfl) ?_
          refine getN hC hH (26) rfl rfl in_X4_fill_X1 0 (by decide) (index := 40) (List.mem_of_getElem? (i := 8) rfl) rfl dX4_fill_66 ?_
          obtain ⟨g9, hf⟩ := gd hf
          refine astI hC hH (30) rfl g9 ct_30 dX4_fill_69 (fun H locs hH => ?_)
          obtain ⟨S10, eS10⟩ : ∃ Z : St, Z = sA r8 30 (upd (gA r8 30) x4.toNatClampNeg (gI r8 26 0)) := ⟨_, rfl⟩
          rw [← eS10] at hH
          replace hf := bn eS10 hf
          refine lv_aload_n hx hb dX4_fill_70 rfl (lv_at hl 0 rfl) ?_
          refine getO hC hH (27) rfl rfl in_X4_fill_X4 4 (by decide) (index := 25) (List.mem_of_getElem? (i := 4) rfl) rfl dX4_fill_71 ?_
          refine lv_iload hx hb dX4_fill_74 (lv_at hl 4 rfl) ?_
          refine lv_aload_n hx hb dX4_fill_76 rfl (lv_at hl 3 rfl) ?_
          refine getN hC hH (26) rfl rfl in_X4_fill_X1 1 (by decide) (index := 43) (List.mem_of_getElem? (i := 10) rfl) rfl dX4_fill_77 ?_
          obtain ⟨g11, hf⟩ := gd hf
          refine astI hC hH (32) rfl g11 ct_32 dX4_fill_80 (fun H locs hH => ?_)
          obtain ⟨S12, eS12⟩ : ∃ Z : St, Z = sA S10 32 (upd (gA S10 32) x4.toNatClampNeg (gI S10 26 1)) := ⟨_, rfl⟩
          rw [← eS12] at hH
          replace hf := bn eS12 hf
          refine lv_iinc (v := x4 + (1 : Int32)) (lv' := [(4, .int (x4 + (1 : Int32))), (0, .ref (gC G 27)), (1, .ref (gC G (33 + 5 * j1))), (2, .int a2), (3, .ref (gC G 26))]) hx hb dX4_fill_81 hl (k := 4) rfl rfl (by decide) rfl (fun ls hl => ?_)
          refine lv_goto (tgt := 3) hx hb dX4_fill_84 (by decide) ?_
          exact hrec S12 (x4 + (1 : Int32)) _ _ _ hH (lv_sub hl [1, 2, 3, 4, 0] rfl) hf
  have kL112 : ∀ (k149 : St → Int32 → Int32 → Option St) (hk149 : ∀ (S : St) (x4 : Int32) (x5 : Int32) (H : Heap) (locs : List Loc) (ls : Array Slot), HW G A (CW G S) s H locs → lv_has ls 7 [(0, .ref (gC G 27)), (1, .ref (gC G (33 + 5 * j1))), (2, .int a2), (4, .int x4), (5, .int x5)] → k149 S x4 x5 = some q → W p l e ({ frames := 5, cells := 0, slots := 0, locals := 128 } : Room) s m [.ref (gC G 27), .ref (gC G (33 + 5 * j1)), .int a2, .ref (gC G 26)].toArray below meth c H locs 0 0 Qm (F0 m 149 ls [])) , ∀ (n : Nat), ∀ (S : St) (x4 : Int32) (x5 : Int32) (x6 : Int32) (H : Heap) (locs : List Loc) (ls : Array Slot), HW G A (CW G S) s H locs → lv_has ls 7 [(0, .ref (gC G 27)), (1, .ref (gC G (33 + 5 * j1))), (2, .int a2), (4, .int x4), (5, .int x5), (6, .int x6)] → g_X4_fill_112 N j1 a2 k149 n S x4 x5 x6 = some q → W p l e ({ frames := 5, cells := 0, slots := 0, locals := 128 } : Room) s m [.ref (gC G 27), .ref (gC G (33 + 5 * j1)), .int a2, .ref (gC G 26)].toArray below meth c H locs 0 0 Qm (F0 m 112 ls []) := by
    intro k149 hk149 n
    induction n with
    | zero => intro S x4 x5 x6 H locs ls hH hl hf; exact absurd hf.symm (Option.some_ne_none q)
    | succ n ih =>
      intro S x4 x5 x6 H locs ls hH hl hf
      have hrec := ih
      have hf : s_X4_fill_112 N j1 a2 k149 (g_X4_fill_112 N j1 a2 k149 n) S x4 x5 x6 = some q := hf
      rw [s_X4_fill_112] at hf
      refine lv_iload hx hb dX4_fill_112 (lv_at hl 5 rfl) ?_
      refine lv_aload_n hx hb dX4_fill_114 rfl (lv_at hl 1 rfl) ?_
      refine getN hC hH (33 + 5 * j1) (cw_lane (i := j1) hj1) rfl in_X4_fill_X3 7 (by decide) (index := 46) (List.mem_of_getElem? (i := 19) rfl) rfl dX4_fill_115 ?_
      refine lv_icmp_gt (tgt := 149) hx hb dX4_fill_118 (by decide) (fun c16 => ?_) (fun c16 => ?_)
      · replace hf := it_t c16 hf
        exact hk149 S x4 x5 _ _ _ hH (lv_sub hl [0, 1, 2, 3, 4] rfl) hf
      · replace hf := it_f c16 hf
        refine lv_aload_n hx hb dX4_fill_121 rfl (lv_at hl 0 rfl) ?_
        refine lv_iload hx hb dX4_fill_122 (lv_at hl 3 rfl) ?_
        refine lv_iload hx hb dX4_fill_124 (lv_at hl 4 rfl) ?_
        refine lv_iload hx hb dX4_fill_126 (lv_at hl 5 rfl) ?_
        refine lv_aload_n hx hb dX4_fill_128 rfl (lv_at hl 0 rfl) ?_
        refine lv_aload_n hx hb dX4_fill_129 rfl (lv_at hl 1 rfl) ?_
        refine lv_iload_n hx hb dX4_fill_130 rfl (lv_at hl 2 rfl) ?_
        refine lv_iload hx hb dX4_fill_131 (lv_at hl 3 rfl) ?_
        refine lv_iload hx hb dX4_fill_133 (lv_at hl 4 rfl) ?_
        refine lv_iload hx hb dX4_fill_135 (lv_at hl 5 rfl) ?_
        obtain ⟨r17, hr17, hf⟩ := ob hf
        refine callV_l [.ref (gC G (33 + 5 * j1)), .int a2, .int x4, .int x5, .int x6] [.int x6, .int x5, .int x4, .ref (gC G 27)] hC hH (c_X4_bestChance l G A S j1 hj1 a2 x4 x5 x6 _ hr17) (cwV 5 hts gX4_fill_X4_bestChance rfl rfl rfl (by decide +kernel) ⟨Nat.le_of_ble_eq_true rfl, Nat.le_of_ble_eq_true rfl⟩) (recvW hC hH (c0 := 27) (ci := 4) rfl rfl) rfl hl.1 rfl (Nat.le_of_ble_eq_true rfl) dX4_fill_137 (fun H locs hH => ?_)
        obtain ⟨r18, hr18, hf⟩ := ob hf
        refine callV_v [.int x4, .int x5, .int x6, .long r17] [] hC hH (c_X4_setChance l G A S x4 x5 x6 r17 _ hr18) (cwV 4 hts gX4_fill_X4_setChance rfl rfl rfl (by decide +kernel) ⟨Nat.le_of_ble_eq_true rfl, Nat.le_of_ble_eq_true rfl⟩) (recvW hC hH (c0 := 27) (ci := 4) rfl rfl) rfl hl.1 rfl (Nat.le_of_ble_eq_true rfl) dX4_fill_140 (fun H locs hH => ?_)
        refine lv_iinc (v := x6 + (1 : Int32)) (lv' := [(6, .int (x6 + (1 : Int32))), (0, .ref (gC G 27)), (1, .ref (gC G (33 + 5 * j1))), (2, .int a2), (4, .int x4), (5, .int x5)]) hx hb dX4_fill_143 hl (k := 5) rfl rfl (by decide) rfl (fun ls hl => ?_)
        refine lv_goto (tgt := 112) hx hb dX4_fill_146 (by decide) ?_
        exact hrec r18 x4 x5 (x6 + (1 : Int32)) _ _ _ hH (lv_sub hl [1, 2, 3, 4, 5, 0] rfl) hf
  have kL100 : ∀ (k155 : St → Int32 → Option St) (hk155 : ∀ (S : St) (x4 : Int32) (H : Heap) (locs : List Loc) (ls : Array Slot), HW G A (CW G S) s H locs → lv_has ls 7 [(0, .ref (gC G 27)), (1, .ref (gC G (33 + 5 * j1))), (2, .int a2), (4, .int x4)] → k155 S x4 = some q → W p l e ({ frames := 5, cells := 0, slots := 0, locals := 128 } : Room) s m [.ref (gC G 27), .ref (gC G (33 + 5 * j1)), .int a2, .ref (gC G 26)].toArray below meth c H locs 0 0 Qm (F0 m 155 ls [])) , ∀ (n : Nat), ∀ (S : St) (x4 : Int32) (x5 : Int32) (H : Heap) (locs : List Loc) (ls : Array Slot), HW G A (CW G S) s H locs → lv_has ls 7 [(0, .ref (gC G 27)), (1, .ref (gC G (33 + 5 * j1))), (2, .int a2), (4, .int x4), (5, .int x5)] → g_X4_fill_100 N j1 a2 k155 n S x4 x5 = some q → W p l e ({ frames := 5, cells := 0, slots := 0, locals := 128 } : Room) s m [.ref (gC G 27), .ref (gC G (33 + 5 * j1)), .int a2, .ref (gC G 26)].toArray below meth c H locs 0 0 Qm (F0 m 100 ls []) := by
    intro k155 hk155 n
    induction n with
    | zero => intro S x4 x5 H locs ls hH hl hf; exact absurd hf.symm (Option.some_ne_none q)
    | succ n ih =>
      intro S x4 x5 H locs ls hH hl hf
      have hrec := ih
      have hf : s_X4_fill_100 N j1 a2 k155 (g_X4_fill_100 N j1 a2 k155 n) S x4 x5 = some q := hf
      rw [s_X4_fill_100] at hf
      refine lv_iload hx hb dX4_fill_100 (lv_at hl 4 rfl) ?_
      refine lv_aload_n hx hb dX4_fill_102 rfl (lv_at hl 1 rfl) ?_
      refine getN hC hH (33 + 5 * j1) (cw_lane (i := j1) hj1) rfl in_X4_fill_X3 4 (by decide) (index := 28) (List.mem_of_getElem? (i := 11) rfl) rfl dX4_fill_103 ?_
      refine lv_icmp_gt (tgt := 155) hx hb dX4_fill_106 (by decide) (fun c15 => ?_) (fun c15 => ?_)
      · replace hf := it_t c15 hf
        exact hk155 S x4 _ _ _ hH (lv_sub hl [0, 1, 2, 3] rfl) hf
      · replace hf := it_f c15 hf
        refine lv_iconst (v := 0) hx hb dX4_fill_109 (by decide) ?_
        refine lv_istore (lv' := [(6, .int (0 : Int32)), (0, .ref (gC G 27)), (1, .ref (gC G (33 + 5 * j1))), (2, .int a2), (4, .int x4), (5, .int x5)]) hx hb dX4_fill_110 hl (by decide) rfl (fun ls hl => ?_)
        refine kL112 _ ?_ N S x4 x5 (0 : Int32) _ _ _ hH (lv_sub hl [1, 2, 3, 4, 5, 0] rfl) hf
        intro S21 y19 y20 H locs ls hH hl hf
        refine lv_iinc (v := y20 + (1 : Int32)) (lv' := [(5, .int (y20 + (1 : Int32))), (0, .ref (gC G 27)), (1, .ref (gC G (33 + 5 * j1))), (2, .int a2), (4, .int y19)]) hx hb dX4_fill_149 hl (k := 4) rfl rfl (by decide) rfl (fun ls hl => ?_)
        refine lv_goto (tgt := 100) hx hb dX4_fill_152 (by decide) ?_
        exact hrec S21 y19 (y20 + (1 : Int32)) _ _ _ hH (lv_sub hl [1, 2, 3, 4, 0] rfl) hf
  have kL90 : ∀ (n : Nat), ∀ (S : St) (x4 : Int32) (H : Heap) (locs : List Loc) (ls : Array Slot), HW G A (CW G S) s H locs → lv_has ls 7 [(0, .ref (gC G 27)), (1, .ref (gC G (33 + 5 * j1))), (2, .int a2), (4, .int x4)] → g_X4_fill_90 N j1 a2 n S x4 = some q → W p l e ({ frames := 5, cells := 0, slots := 0, locals := 128 } : Room) s m [.ref (gC G 27), .ref (gC G (33 + 5 * j1)), .int a2, .ref (gC G 26)].toArray below meth c H locs 0 0 Qm (F0 m 90 ls []) := by
    intro n
    induction n with
    | zero => intro S x4 H locs ls hH hl hf; exact absurd hf.symm (Option.some_ne_none q)
    | succ n ih =>
      intro S x4 H locs ls hH hl hf
      have hrec := ih
      have hf : s_X4_fill_90 N j1 a2 (g_X4_fill_90 N j1 a2 n) S x4 = some q := hf
      rw [s_X4_fill_90] at hf
      refine lv_iload hx hb dX4_fill_90 (lv_at hl 3 rfl) ?_
      refine lv_bipush (v := 24) hx hb dX4_fill_92 (by decide) ?_
      refine lv_icmp_gt (tgt := 161) hx hb dX4_fill_94 (by decide) (fun c14 => ?_) (fun c14 => ?_)
      · replace hf := it_t c14 hf
        exact fin S _ _ _ _ (Option.some.inj hf) hH dX4_fill_161
      · replace hf := it_f c14 hf
        refine lv_iconst (v := 0) hx hb dX4_fill_97 (by decide) ?_
        refine lv_istore (lv' := [(5, .int (0 : Int32)), (0, .ref (gC G 27)), (1, .ref (gC G (33 + 5 * j1))), (2, .int a2), (4, .int x4)]) hx hb dX4_fill_98 hl (by decide) rfl (fun ls hl => ?_)
        refine kL100 _ ?_ N S x4 (0 : Int32) _ _ _ hH (lv_sub hl [1, 2, 3, 4, 0] rfl) hf
        intro S23 y22 H locs ls hH hl hf
        refine lv_iinc (v := y22 + (1 : Int32)) (lv' := [(4, .int (y22 + (1 : Int32))), (0, .ref (gC G 27)), (1, .ref (gC G (33 + 5 * j1))), (2, .int a2)]) hx hb dX4_fill_155 hl (k := 3) rfl rfl (by decide) rfl (fun ls hl => ?_)
        refine lv_goto (tgt := 90) hx hb dX4_fill_158 (by decide) ?_
        exact hrec S23 (y22 + (1 : Int32)) _ _ _ hH (lv_sub hl [1, 2, 3, 0] rfl) hf
  have kJ87 : ∀ (S : St) (H : Heap) (locs : List Loc) (ls : Array Slot), HW G A (CW G S) s H locs → lv_has ls 7 [(0, .ref (gC G 27)), (1, .ref (gC G (33 + 5 * j1))), (2, .int a2)] → f_X4_fill_87 N j1 a2 S = some q → W p l e ({ frames := 5, cells := 0, slots := 0, locals := 128 } : Room) s m [.ref (gC G 27), .ref (gC G (33 + 5 * j1)), .int a2, .ref (gC G 26)].toArray below meth c H locs 0 0 Qm (F0 m 87 ls []) := by
    intro S H locs ls hH hl hf
    rw [f_X4_fill_87] at hf
    refine lv_iconst (v := 0) hx hb dX4_fill_87 (by decide) ?_
    refine lv_istore (lv' := [(4, .int (0 : Int32)), (0, .ref (gC G 27)), (1, .ref (gC G (33 + 5 * j1))), (2, .int a2)]) hx hb dX4_fill_88 hl (by decide) rfl (fun ls hl => ?_)
    refine kL90 N S (0 : Int32) _ _ _ hH (lv_sub hl [1, 2, 3, 0] rfl) hf
  have hf := hf
  rw [f_X4_fill] at hf
  refine lv_iconst (v := 0) hx hb dX4_fill_0 (by decide) ?_
  refine lv_istore (lv' := [(4, .int (0 : Int32)), (0, .ref (gC G 27)), (1, .ref (gC G (33 + 5 * j1))), (2, .int a2), (3, .ref (gC G 26))]) hx hb dX4_fill_1 hl (by decide) rfl (fun ls hl => ?_)
  refine kL3 _ ?_ N S (0 : Int32) _ _ _ hH (lv_sub hl [1, 2, 3, 4, 0] rfl) hf
  intro S13 H locs ls hH hl hf
  exact kJ87  S13 _ _ _ hH (lv_sub hl [0, 1, 2] rfl) hf
theorem in_X5_append_X5 : ∀ w ∈ wsX50, w ∈ wsX5_append := fun w h => List.mem_cons_of_mem _ (List.mem_append_right _ h)
set_option maxRecDepth 100000 in
set_option maxHeartbeats 4000000 in
theorem c_X5_append (l : Launch) (G : Gt) (A : Nat → Prop) (S : St)  (a1 : Int32) (a2 : Int32) (q : St) (hf : f_X5_append S a1 a2 = some q) : Met l yX5_append wsX5_append ({ frames := 0, cells := 0, slots := 0, locals := 0 } : Room) (va_Pc [.ref (gC G 23), .int a1, .int a2] (PK G A (CW G S))) (va_Qv (fun S2 => S2 = q) (fun S2 : St => PK G A (CW G S2)) A) 0 0 A := by
  refine mstart_v (Wd := CW G) (cc := cX5_append) (maxL := 3) (by decide) rfl (Nat.le_of_ble_eq_true rfl) (fun p e s m below meth c Qm ls hC hH hl fin => ?_)
  obtain ⟨hx, hb, hml, hown, hts⟩ := id hC.1
  have hl : lv_has ls 3 [(0, .ref (gC G 23)), (1, .int a1), (2, .int a2)] := hl
  have hf := hf
  rw [f_X5_append] at hf
  refine lv_aload_n hx hb dX5_append_0 rfl (lv_at hl 0 rfl) ?_
  refine getO hC hH (23) rfl rfl in_X5_append_X5 2 (by decide) (index := 16) (List.mem_of_getElem? (i := 1) rfl) rfl dX5_append_1 ?_
  refine lv_if_lt (tgt := 46) hx hb dX5_append_4 (by decide) (fun c1 => ?_) (fun c1 => ?_)
  · replace hf := it_t c1 hf
    exact fin S _ _ _ _ (Option.some.inj hf) hH dX5_append_46
  · replace hf := it_f c1 hf
    refine lv_aload_n hx hb dX5_append_7 rfl (lv_at hl 0 rfl) ?_
    refine getO hC hH (23) rfl rfl in_X5_append_X5 2 (by decide) (index := 16) (List.mem_of_getElem? (i := 1) rfl) rfl dX5_append_8 ?_
    refine lv_bipush (v := 6) hx hb dX5_append_11 (by decide) ?_
    refine lv_icmp_ge (tgt := 46) hx hb dX5_append_13 (by decide) (fun c2 => ?_) (fun c2 => ?_)
    · replace hf := it_t c2 hf
      exact fin S _ _ _ _ (Option.some.inj hf) hH dX5_append_46
    · replace hf := it_f c2 hf
      refine lv_aload_n hx hb dX5_append_16 rfl (lv_at hl 0 rfl) ?_
      refine getO hC hH (23) rfl rfl in_X5_append_X5 0 (by decide) (index := 9) (List.mem_of_getElem? (i := 2) rfl) rfl dX5_append_17 ?_
      refine lv_aload_n hx hb dX5_append_20 rfl (lv_at hl 0 rfl) ?_
      refine getO hC hH (23) rfl rfl in_X5_append_X5 2 (by decide) (index := 16) (List.mem_of_getElem? (i := 1) rfl) rfl dX5_append_21 ?_
      refine lv_iload_n hx hb dX5_append_24 rfl (lv_at hl 1 rfl) ?_
      obtain ⟨g3, hf⟩ := gd hf
      refine astI hC hH (24) rfl g3 ct_24 dX5_append_25 (fun H locs hH => ?_)
      obtain ⟨S4, eS4⟩ : ∃ Z : St, Z = sA S 24 (upd (gA S 24) (gI S 23 2).toNatClampNeg a1) := ⟨_, rfl⟩
      rw [← eS4] at hH
      replace hf := bn eS4 hf
      refine lv_aload_n hx hb dX5_append_26 rfl (lv_at hl 0 rfl) ?_
      refine getO hC hH (23) rfl rfl in_X5_append_X5 1 (by decide) (index := 13) (List.mem_of_getElem? (i := 3) rfl) rfl dX5_append_27 ?_
      refine lv_aload_n hx hb dX5_append_30 rfl (lv_at hl 0 rfl) ?_
      refine getO hC hH (23) rfl rfl in_X5_append_X5 2 (by decide) (index := 16) (List.mem_of_getElem? (i := 1) rfl) rfl dX5_append_31 ?_
      refine lv_iload_n hx hb dX5_append_34 rfl (lv_at hl 2 rfl) ?_
      obtain ⟨g5, hf⟩ := gd hf
      refine astI hC hH (25) rfl g5 ct_25 dX5_append_35 (fun H locs hH => ?_)
      obtain ⟨S6, eS6⟩ : ∃ Z : St, Z = sA S4 25 (upd (gA S4 25) (gI S4 23 2).toNatClampNeg a2) := ⟨_, rfl⟩
      rw [← eS6] at hH
      replace hf := bn eS6 hf
      refine lv_aload_n hx hb dX5_append_36 rfl (lv_at hl 0 rfl) ?_
      refine lv_dup hx hb dX5_append_37 rfl ?_
      refine getO hC hH (23) rfl rfl in_X5_append_X5 2 (by decide) (index := 16) (List.mem_of_getElem? (i := 1) rfl) rfl dX5_append_38 ?_
      refine lv_iconst (v := 1) hx hb dX5_append_41 (by decide) ?_
      refine lv_iadd hx hb dX5_append_42 ?_
      refine putO hC hH (23) rfl rfl in_X5_append_X5 tyX5 tyX5_ok nmX5 2 (by decide) (index := 16) (List.mem_of_getElem? (i := 1) rfl) rfl rfl rfl (Nat.le_of_ble_eq_true rfl) cs_23_2 dX5_append_43 (fun H locs hH => ?_)
      obtain ⟨S7, eS7⟩ : ∃ Z : St, Z = sI S6 23 2 ((gI S6 23 2) + (1 : Int32)) := ⟨_, rfl⟩
      rw [← eS7] at hH
      replace hf := bn eS7 hf
      exact fin S7 _ _ _ _ (Option.some.inj hf) hH dX5_append_46
theorem in_X5_allow_X5 : ∀ w ∈ wsX50, w ∈ wsX5_allow := fun w h => List.mem_cons_of_mem _ (List.mem_append_right _ h)
set_option maxRecDepth 100000 in
set_option maxHeartbeats 4000000 in
theorem c_X5_allow (l : Launch) (G : Gt) (A : Nat → Prop) (N : Nat) (S : St)  (a1 : Int32) (a2 : Int32) (q : Int32) (hf : f_X5_allow N S a1 a2 = some q) : Met l yX5_allow wsX5_allow ({ frames := 1, cells := 0, slots := 0, locals := 20 } : Room) (va_Pc [.ref (gC G 23), .int a1, .int a2] (PK G A (CW G S))) (va_Qi (fun (r2 : Int32) S2 => r2 = q ∧ S2 = S) (fun S2 : St => PK G A (CW G S2)) A) 0 0 A := by
  refine mstart_z (ty := .boolean) (Wd := CW G) (cc := cX5_allow) (maxL := 5) (by decide) rfl (Nat.le_of_ble_eq_true rfl) (fun p e s m below meth c Qm ls hC hH hl fin => ?_)
  obtain ⟨hx, hb, hml, hown, hts⟩ := id hC.1
  have hl : lv_has ls 5 [(0, .ref (gC G 23)), (1, .int a1), (2, .int a2)] := hl
  have kJ34 : ∀ (rec : Int32 → Option Int32) (hrec : ∀ (x3 : Int32) (H : Heap) (locs : List Loc) (ls : Array Slot), HW G A (CW G S) s H locs → lv_has ls 5 [(0, .ref (gC G 23)), (1, .int a1), (2, .int a2), (3, .int x3)] → rec x3 = some q → W p l e ({ frames := 1, cells := 0, slots := 0, locals := 20 } : Room) s m [.ref (gC G 23), .int a1, .int a2].toArray below meth c H locs 0 0 Qm (F0 m 2 ls [])) , ∀ (x3 : Int32) (t0 : Int32) (H : Heap) (locs : List Loc) (ls : Array Slot), HW G A (CW G S) s H locs → lv_has ls 5 [(0, .ref (gC G 23)), (1, .int a1), (2, .int a2), (3, .int x3)] → f_X5_allow_34 N S a1 a2 rec x3 t0 = some q → W p l e ({ frames := 1, cells := 0, slots := 0, locals := 20 } : Room) s m [.ref (gC G 23), .int a1, .int a2].toArray below meth c H locs 0 0 Qm (F0 m 34 ls [.int t0]) := by
    intro rec hrec x3 t0 H locs ls hH hl hf
    rw [f_X5_allow_34] at hf
    refine lv_istore (lv' := [(4, .int t0), (0, .ref (gC G 23)), (1, .int a1), (2, .int a2), (3, .int x3)]) hx hb dX5_allow_34 hl (by decide) rfl (fun ls hl => ?_)
    refine lv_iload hx hb dX5_allow_36 (lv_at hl 0 rfl) ?_
    refine lv_if_eq (tgt := 62) hx hb dX5_allow_38 (by decide) (fun c6 => ?_) (fun c6 => ?_)
    · replace hf := it_t c6 hf
      refine lv_iconst (v := 0) hx hb dX5_allow_62 (by decide) ?_
      exact fin (0 : Int32) S _ _ _ _ rfl (Option.some.inj hf) rfl hH dX5_allow_63
    · replace hf := it_f c6 hf
      refine lv_iload_n hx hb dX5_allow_41 rfl (lv_at hl 3 rfl) ?_
      refine lv_aload_n hx hb dX5_allow_42 rfl (lv_at hl 1 rfl) ?_
      refine getO hC hH (23) rfl rfl in_X5_allow_X5 0 (by decide) (index := 9) (List.mem_of_getElem? (i := 2) rfl) rfl dX5_allow_43 ?_
      refine lv_iload_n hx hb dX5_allow_46 rfl (lv_at hl 4 rfl) ?_
      obtain ⟨g7, hf⟩ := gd hf
      refine aldI hC hH (24) rfl g7 dX5_allow_47 ?_
      refine lv_imul hx hb dX5_allow_48 ?_
      refine lv_iconst (v := 2) hx hb dX5_allow_49 (by decide) ?_
      refine lv_idiv hx hb dX5_allow_50 (by decide) ?_
      refine lv_iconst (v := 4) hx hb dX5_allow_51 (by decide) ?_
      refine lv_irem hx hb dX5_allow_52 (by decide) ?_
      refine lv_aload_n hx hb dX5_allow_53 rfl (lv_at hl 1 rfl) ?_
      refine getO hC hH (23) rfl rfl in_X5_allow_X5 1 (by decide) (index := 13) (List.mem_of_getElem? (i := 3) rfl) rfl dX5_allow_54 ?_
      refine lv_iload_n hx hb dX5_allow_57 rfl (lv_at hl 4 rfl) ?_
      obtain ⟨g8, hf⟩ := gd hf
      refine aldI hC hH (25) rfl g8 dX5_allow_58 ?_
      refine lv_icmp_eq (tgt := 64) hx hb dX5_allow_59 (by decide) (fun c9 => ?_) (fun c9 => ?_)
      · replace hf := it_t c9 hf
        refine lv_iinc (v := x3 + (1 : Int32)) (lv' := [(3, .int (x3 + (1 : Int32))), (4, .int t0), (0, .ref (gC G 23)), (1, .int a1), (2, .int a2)]) hx hb dX5_allow_64 hl (k := 4) rfl rfl (by decide) rfl (fun ls hl => ?_)
        refine lv_goto (tgt := 2) hx hb dX5_allow_67 (by decide) ?_
        exact hrec (x3 + (1 : Int32)) _ _ _ hH (lv_sub hl [2, 3, 4, 0] rfl) hf
      · replace hf := it_f c9 hf
        refine lv_iconst (v := 0) hx hb dX5_allow_62 (by decide) ?_
        exact fin (0 : Int32) S _ _ _ _ rfl (Option.some.inj hf) rfl hH dX5_allow_63
  have kL2 : ∀ (n : Nat), ∀ (x3 : Int32) (H : Heap) (locs : List Loc) (ls : Array Slot), HW G A (CW G S) s H locs → lv_has ls 5 [(0, .ref (gC G 23)), (1, .int a1), (2, .int a2), (3, .int x3)] → g_X5_allow_2 N S a1 a2 n x3 = some q → W p l e ({ frames := 1, cells := 0, slots := 0, locals := 20 } : Room) s m [.ref (gC G 23), .int a1, .int a2].toArray below meth c H locs 0 0 Qm (F0 m 2 ls []) := by
    intro n
    induction n with
    | zero => intro x3 H locs ls hH hl hf; exact absurd hf.symm (Option.some_ne_none q)
    | succ n ih =>
      intro x3 H locs ls hH hl hf
      have hrec := ih
      have hf : s_X5_allow_2 N S a1 a2 (g_X5_allow_2 N S a1 a2 n) x3 = some q := hf
      rw [s_X5_allow_2] at hf
      refine lv_iload_n hx hb dX5_allow_2 rfl (lv_at hl 3 rfl) ?_
      refine lv_aload_n hx hb dX5_allow_3 rfl (lv_at hl 0 rfl) ?_
      refine getO hC hH (23) rfl rfl in_X5_allow_X5 2 (by decide) (index := 16) (List.mem_of_getElem? (i := 1) rfl) rfl dX5_allow_4 ?_
      refine lv_icmp_ge (tgt := 70) hx hb dX5_allow_7 (by decide) (fun c1 => ?_) (fun c1 => ?_)
      · replace hf := it_t c1 hf
        refine lv_iconst (v := 1) hx hb dX5_allow_70 (by decide) ?_
        exact fin (1 : Int32) S _ _ _ _ rfl (Option.some.inj hf) rfl hH dX5_allow_71
      · replace hf := it_f c1 hf
        refine lv_iload_n hx hb dX5_allow_10 rfl (lv_at hl 3 rfl) ?_
        refine lv_bipush (v := 6) hx hb dX5_allow_11 (by decide) ?_
        refine lv_icmp_ge (tgt := 70) hx hb dX5_allow_13 (by decide) (fun c2 => ?_) (fun c2 => ?_)
        · replace hf := it_t c2 hf
          refine lv_iconst (v := 1) hx hb dX5_allow_70 (by decide) ?_
          exact fin (1 : Int32) S _ _ _ _ rfl (Option.some.inj hf) rfl hH dX5_allow_71
        · replace hf := it_f c2 hf
          refine lv_aload_n hx hb dX5_allow_16 rfl (lv_at hl 0 rfl) ?_
          refine getO hC hH (23) rfl rfl in_X5_allow_X5 0 (by decide) (index := 9) (List.mem_of_getElem? (i := 2) rfl) rfl dX5_allow_17 ?_
          refine lv_iload_n hx hb dX5_allow_20 rfl (lv_at hl 3 rfl) ?_
          obtain ⟨g3, hf⟩ := gd hf
          refine aldI hC hH (24) rfl g3 dX5_allow_21 ?_
          refine lv_iload_n hx hb dX5_allow_22 rfl (lv_at hl 1 rfl) ?_
          obtain ⟨r4, hr4, hf⟩ := ob hf
          refine callN_i [.int a1] [.int (gA S 24 x3.toNatClampNeg)] hC hH (c_X9_beatsInAir l G A S a1 _ hr4) ⟨va_cnB 1 hts gX5_allow_X9_beatsInAir_n20 rfl rfl rfl (hC.2.2.1.2 _ (List.mem_of_getElem? (i := 5) rfl)) (hts _ (List.mem_of_getElem? (i := 5) rfl)) (by decide +kernel) ⟨Nat.le_of_ble_eq_true rfl, Nat.le_of_ble_eq_true rfl⟩, hts _ (List.mem_of_getElem? (i := 4) rfl), trivial⟩ rfl hl.1 rfl (Nat.le_of_ble_eq_true rfl) dX5_allow_23 (fun H locs hH => ?_)
          refine lv_icmp_ge (tgt := 33) hx hb dX5_allow_26 (by decide) (fun c5 => ?_) (fun c5 => ?_)
          · replace hf := it_t c5 hf
            refine lv_iconst (v := 0) hx hb dX5_allow_33 (by decide) ?_
            exact kJ34 _ hrec x3 (0 : Int32) _ _ _ hH (lv_sub hl [0, 1, 2, 3] rfl) hf
          · replace hf := it_f c5 hf
            refine lv_iconst (v := 1) hx hb dX5_allow_29 (by decide) ?_
            refine lv_goto (tgt := 34) hx hb dX5_allow_30 (by decide) ?_
            exact kJ34 _ hrec x3 (1 : Int32) _ _ _ hH (lv_sub hl [0, 1, 2, 3] rfl) hf
  have hf := hf
  rw [f_X5_allow] at hf
  refine lv_iconst (v := 0) hx hb dX5_allow_0 (by decide) ?_
  refine lv_istore_n (lv' := [(3, .int (0 : Int32)), (0, .ref (gC G 23)), (1, .int a1), (2, .int a2)]) hx hb dX5_allow_1 rfl hl (by decide) rfl (fun ls hl => ?_)
  refine kL2 N (0 : Int32) _ _ _ hH (lv_sub hl [1, 2, 3, 0] rfl) hf
theorem in_X8_byteAt_X8 : ∀ w ∈ wsX80, w ∈ wsX8_byteAt := fun w h => List.mem_cons_of_mem _ (List.mem_append_right _ h)
set_option maxRecDepth 100000 in
set_option maxHeartbeats 4000000 in
theorem c_X8_byteAt (l : Launch) (G : Gt) (A : Nat → Prop) (S : St)  (a1 : Int32) (q : Int32) (hf : f_X8_byteAt S a1 = some q) : Met l yX8_byteAt wsX8_byteAt ({ frames := 0, cells := 0, slots := 0, locals := 0 } : Room) (va_Pc [.ref (gC G 1), .int a1] (PK G A (CW G S))) (va_Qi (fun (r2 : Int32) S2 => r2 = q ∧ S2 = S) (fun S2 : St => PK G A (CW G S2)) A) 0 0 A := by
  refine mstart_i (Wd := CW G) (cc := cX8_byteAt) (maxL := 2) (by decide) rfl (Nat.le_of_ble_eq_true rfl) (fun p e s m below meth c Qm ls hC hH hl fin => ?_)
  obtain ⟨hx, hb, hml, hown, hts⟩ := id hC.1
  have hl : lv_has ls 2 [(0, .ref (gC G 1)), (1, .int a1)] := hl
  have hf := hf
  rw [f_X8_byteAt] at hf
  refine lv_iload_n hx hb dX8_byteAt_0 rfl (lv_at hl 1 rfl) ?_
  refine lv_if_lt (tgt := 30) hx hb dX8_byteAt_1 (by decide) (fun c1 => ?_) (fun c1 => ?_)
  · replace hf := it_t c1 hf
    refine lv_iconst (v := 0) hx hb dX8_byteAt_30 (by decide) ?_
    exact fin (0 : Int32) S _ _ _ _ (Option.some.inj hf) rfl hH dX8_byteAt_31
  · replace hf := it_f c1 hf
    refine lv_iload_n hx hb dX8_byteAt_4 rfl (lv_at hl 1 rfl) ?_
    refine lv_aload_n hx hb dX8_byteAt_5 rfl (lv_at hl 0 rfl) ?_
    refine getO hC hH (1) rfl rfl in_X8_byteAt_X8 1 (by decide) (index := 13) (List.mem_of_getElem? (i := 1) rfl) rfl dX8_byteAt_6 ?_
    refine lv_icmp_ge (tgt := 30) hx hb dX8_byteAt_9 (by decide) (fun c2 => ?_) (fun c2 => ?_)
    · replace hf := it_t c2 hf
      refine lv_iconst (v := 0) hx hb dX8_byteAt_30 (by decide) ?_
      exact fin (0 : Int32) S _ _ _ _ (Option.some.inj hf) rfl hH dX8_byteAt_31
    · replace hf := it_f c2 hf
      refine lv_iload_n hx hb dX8_byteAt_12 rfl (lv_at hl 1 rfl) ?_
      refine lv_aload_n hx hb dX8_byteAt_13 rfl (lv_at hl 0 rfl) ?_
      refine getO hC hH (1) rfl rfl in_X8_byteAt_X8 0 (by decide) (index := 9) (List.mem_of_getElem? (i := 2) rfl) rfl dX8_byteAt_14 ?_
      refine alen hC hH (2) 0 rfl rfl (v := 300) rfl dX8_byteAt_17 ?_
      refine lv_icmp_ge (tgt := 30) hx hb dX8_byteAt_18 (by decide) (fun c3 => ?_) (fun c3 => ?_)
      · replace hf := it_t c3 hf
        refine lv_iconst (v := 0) hx hb dX8_byteAt_30 (by decide) ?_
        exact fin (0 : Int32) S _ _ _ _ (Option.some.inj hf) rfl hH dX8_byteAt_31
      · replace hf := it_f c3 hf
        refine lv_aload_n hx hb dX8_byteAt_21 rfl (lv_at hl 0 rfl) ?_
        refine getO hC hH (1) rfl rfl in_X8_byteAt_X8 0 (by decide) (index := 9) (List.mem_of_getElem? (i := 2) rfl) rfl dX8_byteAt_22 ?_
        refine lv_iload_n hx hb dX8_byteAt_25 rfl (lv_at hl 1 rfl) ?_
        obtain ⟨g4, hf⟩ := gd hf
        refine aldI hC hH (2) rfl g4 dX8_byteAt_26 ?_
        refine lv_goto (tgt := 31) hx hb dX8_byteAt_27 (by decide) ?_
        exact fin (gA S 2 a1.toNatClampNeg) S _ _ _ _ (Option.some.inj hf) rfl hH dX8_byteAt_31
theorem in_X6_skipBlanks_X6 : ∀ w ∈ wsX60, w ∈ wsX6_skipBlanks := fun w h => List.mem_cons_of_mem _ (List.mem_append_left _ (List.mem_append_right _ h))
theorem in_X6_skipBlanks_X8 : ∀ w ∈ wsX80, w ∈ wsX6_skipBlanks := fun w h => List.mem_cons_of_mem _ (List.mem_append_right _ h)
set_option maxRecDepth 100000 in
set_option maxHeartbeats 4000000 in
theorem c_X6_skipBlanks (l : Launch) (G : Gt) (A : Nat → Prop) (N : Nat) (S : St)   (q : St) (hf : f_X6_skipBlanks N S = some q) : Met l yX6_skipBlanks wsX6_skipBlanks ({ frames := 1, cells := 0, slots := 0, locals := 21 } : Room) (va_Pc [.ref (gC G 3)] (PK G A (CW G S))) (va_Qv (fun S2 => S2 = q) (fun S2 : St => PK G A (CW G S2)) A) 0 0 A := by
  refine mstart_v (Wd := CW G) (cc := cX6_skipBlanks) (maxL := 1) (by decide) rfl (Nat.le_of_ble_eq_true rfl) (fun p e s m below meth c Qm ls hC hH hl fin => ?_)
  obtain ⟨hx, hb, hml, hown, hts⟩ := id hC.1
  have hl : lv_has ls 1 [(0, .ref (gC G 3))] := hl
  have kL0 : ∀ (n : Nat), ∀ (S : St) (H : Heap) (locs : List Loc) (ls : Array Slot), HW G A (CW G S) s H locs → lv_has ls 1 [(0, .ref (gC G 3))] → g_X6_skipBlanks_0 N n S = some q → W p l e ({ frames := 1, cells := 0, slots := 0, locals := 21 } : Room) s m [.ref (gC G 3)].toArray below meth c H locs 0 0 Qm (F0 m 0 ls []) := by
    intro n
    induction n with
    | zero => intro S H locs ls hH hl hf; exact absurd hf.symm (Option.some_ne_none q)
    | succ n ih =>
      intro S H locs ls hH hl hf
      have hrec := ih
      have hf : s_X6_skipBlanks_0 N (g_X6_skipBlanks_0 N n) S = some q := hf
      rw [s_X6_skipBlanks_0] at hf
      refine lv_aload_n hx hb dX6_skipBlanks_0 rfl (lv_at hl 0 rfl) ?_
      refine getO hC hH (3) rfl rfl in_X6_skipBlanks_X6 1 (by decide) (index := 18) (List.mem_of_getElem? (i := 1) rfl) rfl dX6_skipBlanks_1 ?_
      refine lv_aload_n hx hb dX6_skipBlanks_4 rfl (lv_at hl 0 rfl) ?_
      refine getO hC hH (3) rfl rfl in_X6_skipBlanks_X6 0 (by decide) (index := 12) (List.mem_of_getElem? (i := 2) rfl) rfl dX6_skipBlanks_5 ?_
      refine getN hC hH (1) rfl rfl in_X6_skipBlanks_X8 1 (by decide) (index := 91) (List.mem_of_getElem? (i := 1) rfl) rfl dX6_skipBlanks_8 ?_
      refine lv_icmp_ge (tgt := 43) hx hb dX6_skipBlanks_11 (by decide) (fun c1 => ?_) (fun c1 => ?_)
      · replace hf := it_t c1 hf
        exact fin S _ _ _ _ (Option.some.inj hf) hH dX6_skipBlanks_43
      · replace hf := it_f c1 hf
        refine lv_aload_n hx hb dX6_skipBlanks_14 rfl (lv_at hl 0 rfl) ?_
        refine getO hC hH (3) rfl rfl in_X6_skipBlanks_X6 0 (by decide) (index := 12) (List.mem_of_getElem? (i := 2) rfl) rfl dX6_skipBlanks_15 ?_
        refine lv_aload_n hx hb dX6_skipBlanks_18 rfl (lv_at hl 0 rfl) ?_
        refine getO hC hH (3) rfl rfl in_X6_skipBlanks_X6 1 (by decide) (index := 18) (List.mem_of_getElem? (i := 1) rfl) rfl dX6_skipBlanks_19 ?_
        obtain ⟨r2, hr2, hf⟩ := ob hf
        refine callV_i [.int (gI S 3 1)] [] hC hH (c_X8_byteAt l G A S (gI S 3 1) _ hr2) (cwV 1 hts gX6_skipBlanks_X8_byteAt rfl rfl rfl (by decide +kernel) ⟨Nat.le_of_ble_eq_true rfl, Nat.le_of_ble_eq_true rfl⟩) (recvW hC hH (c0 := 1) (ci := 8) rfl rfl) rfl hl.1 rfl (Nat.le_of_ble_eq_true rfl) dX6_skipBlanks_22 (fun H locs hH => ?_)
        refine lv_bipush (v := 32) hx hb dX6_skipBlanks_25 (by decide) ?_
        refine lv_icmp_ne (tgt := 43) hx hb dX6_skipBlanks_27 (by decide) (fun c3 => ?_) (fun c3 => ?_)
        · replace hf := it_f c3 hf
          exact fin S _ _ _ _ (Option.some.inj hf) hH dX6_skipBlanks_43
        · replace hf := it_t c3 hf
          refine lv_aload_n hx hb dX6_skipBlanks_30 rfl (lv_at hl 0 rfl) ?_
          refine lv_dup hx hb dX6_skipBlanks_31 rfl ?_
          refine getO hC hH (3) rfl rfl in_X6_skipBlanks_X6 1 (by decide) (index := 18) (List.mem_of_getElem? (i := 1) rfl) rfl dX6_skipBlanks_32 ?_
          refine lv_iconst (v := 1) hx hb dX6_skipBlanks_35 (by decide) ?_
          refine lv_iadd hx hb dX6_skipBlanks_36 ?_
          refine putO hC hH (3) rfl rfl in_X6_skipBlanks_X6 tyX6 tyX6_ok nmX6 1 (by decide) (index := 18) (List.mem_of_getElem? (i := 1) rfl) rfl rfl rfl (Nat.le_of_ble_eq_true rfl) cs_3_1 dX6_skipBlanks_37 (fun H locs hH => ?_)
          obtain ⟨S4, eS4⟩ : ∃ Z : St, Z = sI S 3 1 ((gI S 3 1) + (1 : Int32)) := ⟨_, rfl⟩
          rw [← eS4] at hH
          replace hf := bn eS4 hf
          refine lv_goto (tgt := 0) hx hb dX6_skipBlanks_40 (by decide) ?_
          exact hrec S4 _ _ _ hH (lv_sub hl [0] rfl) hf
  have hf := hf
  rw [f_X6_skipBlanks] at hf
  refine kL0 N S _ _ _ hH (lv_sub hl [0] rfl) hf
set_option maxRecDepth 100000 in
set_option maxHeartbeats 4000000 in
theorem c_X6_isLetter (l : Launch) (G : Gt) (A : Nat → Prop) (S : St)  (a0 : Int32) (q : Int32) (hf : f_X6_isLetter a0 = some q) : Met l yX6_isLetter wsX6_isLetter ({ frames := 0, cells := 0, slots := 0, locals := 0 } : Room) (va_Pc [.int a0] (PK G A (CW G S))) (va_Qi (fun (r2 : Int32) S2 => r2 = q ∧ S2 = S) (fun S2 : St => PK G A (CW G S2)) A) 0 0 A := by
  refine mstart_z (ty := .boolean) (Wd := CW G) (cc := cX6_isLetter) (maxL := 1) (by decide) rfl (Nat.le_of_ble_eq_true rfl) (fun p e s m below meth c Qm ls hC hH hl fin => ?_)
  obtain ⟨hx, hb, hml, hown, hts⟩ := id hC.1
  have hl : lv_has ls 1 [(0, .int a0)] := hl
  have hf := hf
  rw [f_X6_isLetter] at hf
  refine lv_iload_n hx hb dX6_isLetter_0 rfl (lv_at hl 0 rfl) ?_
  refine lv_bipush (v := 97) hx hb dX6_isLetter_1 (by decide) ?_
  refine lv_icmp_lt (tgt := 16) hx hb dX6_isLetter_3 (by decide) (fun c1 => ?_) (fun c1 => ?_)
  · replace hf := it_t c1 hf
    refine lv_iconst (v := 0) hx hb dX6_isLetter_16 (by decide) ?_
    exact fin (0 : Int32) S _ _ _ _ rfl (Option.some.inj hf) rfl hH dX6_isLetter_17
  · replace hf := it_f c1 hf
    refine lv_iload_n hx hb dX6_isLetter_6 rfl (lv_at hl 0 rfl) ?_
    refine lv_bipush (v := 122) hx hb dX6_isLetter_7 (by decide) ?_
    refine lv_icmp_gt (tgt := 16) hx hb dX6_isLetter_9 (by decide) (fun c2 => ?_) (fun c2 => ?_)
    · replace hf := it_t c2 hf
      refine lv_iconst (v := 0) hx hb dX6_isLetter_16 (by decide) ?_
      exact fin (0 : Int32) S _ _ _ _ rfl (Option.some.inj hf) rfl hH dX6_isLetter_17
    · replace hf := it_f c2 hf
      refine lv_iconst (v := 1) hx hb dX6_isLetter_12 (by decide) ?_
      refine lv_goto (tgt := 17) hx hb dX6_isLetter_13 (by decide) ?_
      exact fin (1 : Int32) S _ _ _ _ rfl (Option.some.inj hf) rfl hH dX6_isLetter_17
set_option maxRecDepth 100000 in
set_option maxHeartbeats 4000000 in
theorem c_J0_coder_7d493 (l : Launch) (G : Gt) (A : Nat → Prop) (S : St) (t : Nat) (ht : t < 7)  (q : Int32) (hf : f_J0_coder_7d493 S t = some q) : Met l yJ0_coder_7d493 wsJ0_coder_7d493 ({ frames := 0, cells := 0, slots := 0, locals := 0 } : Room) (va_Pc [.ref (gK G t)] (PK G A (CW G S))) (va_Qi (fun (r2 : Int32) S2 => r2 = q ∧ S2 = S) (fun S2 : St => PK G A (CW G S2)) A) 0 0 A := by
  refine mstart_z (ty := .byte) (Wd := CW G) (cc := cJ0_coder_7d493) (maxL := 1) (by decide) rfl (Nat.le_of_ble_eq_true rfl) (fun p e s m below meth c Qm ls hC hH hl fin => ?_)
  obtain ⟨hx, hb, hml, hown, hts⟩ := id hC.1
  have hl : lv_has ls 1 [(0, .ref (gK G t))] := hl
  have hf := hf
  rw [f_J0_coder_7d493] at hf
  refine va_gets hx hb hC.2.2.2.2.2.1 hH.2.2 hown (hts (.fieldLink RJ0 38 "java/lang/String" "COMPACT_STRINGS" "Z") (List.mem_of_getElem? (i := 1) rfl)) (fun _ h => h) dJ0_coder_7d493_0 ?_
  refine lv_if_eq (tgt := 13) hx hb dJ0_coder_7d493_3 (by decide) (fun c1 => ?_) (fun c1 => ?_)
  · replace hf := it_t c1 hf
    refine lv_iconst (v := 1) hx hb dJ0_coder_7d493_13 (by decide) ?_
    exact fin (1 : Int32) S _ _ _ _ rfl (Option.some.inj hf) rfl hH dJ0_coder_7d493_14
  · replace hf := it_f c1 hf
    refine lv_aload_n hx hb dJ0_coder_7d493_6 rfl (lv_at hl 0 rfl) ?_
    refine vk_getf hx hb (hC.2.2.2.1.1 t ht).2.1 hH.2.2 hown (hts (.fieldLink RJ0 15 "java/lang/String" "coder" "B") (List.mem_of_getElem? (i := 2) rfl)) (fun _ h => h) dJ0_coder_7d493_7 ?_
    refine lv_goto (tgt := 14) hx hb dJ0_coder_7d493_10 (by decide) ?_
    exact fin (0 : Int32) S _ _ _ _ rfl (Option.some.inj hf) rfl hH dJ0_coder_7d493_14
set_option maxRecDepth 100000 in
set_option maxHeartbeats 4000000 in
theorem c_J0_length_8abf5 (l : Launch) (G : Gt) (A : Nat → Prop) (S : St) (t : Nat) (ht : t < 7)  (q : Int32) (hf : f_J0_length_8abf5 S t = some q) : Met l yJ0_length_8abf5 wsJ0_length_8abf5 ({ frames := 1, cells := 0, slots := 0, locals := 20 } : Room) (va_Pc [.ref (gK G t)] (PK G A (CW G S))) (va_Qi (fun (r2 : Int32) S2 => r2 = q ∧ S2 = S) (fun S2 : St => PK G A (CW G S2)) A) 0 0 A := by
  refine mstart_i (Wd := CW G) (cc := cJ0_length_8abf5) (maxL := 1) (by decide) rfl (Nat.le_of_ble_eq_true rfl) (fun p e s m below meth c Qm ls hC hH hl fin => ?_)
  obtain ⟨hx, hb, hml, hown, hts⟩ := id hC.1
  have hl : lv_has ls 1 [(0, .ref (gK G t))] := hl
  have hf := hf
  rw [f_J0_length_8abf5] at hf
  refine lv_aload_n hx hb dJ0_length_8abf5_0 rfl (lv_at hl 0 rfl) ?_
  refine vk_getf hx hb (hC.2.2.2.1.1 t ht).2.2.1 hH.2.2 hown (hts (.fieldLink RJ0 9 "java/lang/String" "value" "[B") (List.mem_of_getElem? (i := 1) rfl)) (fun _ h => h) dJ0_length_8abf5_1 ?_
  refine va_tlen hx hb (hC.2.2.2.1.1 t ht).2.2.2 hH.2.2 (v := Int32.ofNat (txL.getD t 0)) rfl dJ0_length_8abf5_4 ?_
  refine lv_aload_n hx hb dJ0_length_8abf5_5 rfl (lv_at hl 0 rfl) ?_
  obtain ⟨r1, hr1, hf⟩ := ob hf
  refine callV_i [] [.int (Int32.ofNat (txL.getD t 0))] hC hH (c_J0_coder_7d493 l G A S t ht _ hr1) (cwV 0 hts gJ0_length_8abf5_J0_coder_7d493 rfl rfl rfl (by decide +kernel) ⟨Nat.le_of_ble_eq_true rfl, Nat.le_of_ble_eq_true rfl⟩) (vk_recv hC.2.2.2.1 ht hH.2.2) rfl hl.1 rfl (Nat.le_of_ble_eq_true rfl) dJ0_length_8abf5_6 (fun H locs hH => ?_)
  refine lv_ishr hx hb dJ0_length_8abf5_9 ?_
  exact fin ((Int32.ofNat (txL.getD t 0)) >>> (r1 &&& 31)) S _ _ _ _ (Option.some.inj hf) rfl hH dJ0_length_8abf5_10
set_option maxRecDepth 100000 in
set_option maxHeartbeats 4000000 in
theorem c_J0_isLatin1_aae02 (l : Launch) (G : Gt) (A : Nat → Prop) (S : St) (t : Nat) (ht : t < 7)  (q : Int32) (hf : f_J0_isLatin1_aae02 S t = some q) : Met l yJ0_isLatin1_aae02 wsJ0_isLatin1_aae02 ({ frames := 0, cells := 0, slots := 0, locals := 0 } : Room) (va_Pc [.ref (gK G t)] (PK G A (CW G S))) (va_Qi (fun (r2 : Int32) S2 => r2 = q ∧ S2 = S) (fun S2 : St => PK G A (CW G S2)) A) 0 0 A := by
  refine mstart_z (ty := .boolean) (Wd := CW G) (cc := cJ0_isLatin1_aae02) (maxL := 1) (by decide) rfl (Nat.le_of_ble_eq_true rfl) (fun p e s m below meth c Qm ls hC hH hl fin => ?_)
  obtain ⟨hx, hb, hml, hown, hts⟩ := id hC.1
  have hl : lv_has ls 1 [(0, .ref (gK G t))] := hl
  have hf := hf
  rw [f_J0_isLatin1_aae02] at hf
  refine va_gets hx hb hC.2.2.2.2.2.1 hH.2.2 hown (hts (.fieldLink RJ0 38 "java/lang/String" "COMPACT_STRINGS" "Z") (List.mem_of_getElem? (i := 1) rfl)) (fun _ h => h) dJ0_isLatin1_aae02_0 ?_
  refine lv_if_eq (tgt := 17) hx hb dJ0_isLatin1_aae02_3 (by decide) (fun c1 => ?_) (fun c1 => ?_)
  · replace hf := it_t c1 hf
    refine lv_iconst (v := 0) hx hb dJ0_isLatin1_aae02_17 (by decide) ?_
    exact fin (0 : Int32) S _ _ _ _ rfl (Option.some.inj hf) rfl hH dJ0_isLatin1_aae02_18
  · replace hf := it_f c1 hf
    refine lv_aload_n hx hb dJ0_isLatin1_aae02_6 rfl (lv_at hl 0 rfl) ?_
    refine vk_getf hx hb (hC.2.2.2.1.1 t ht).2.1 hH.2.2 hown (hts (.fieldLink RJ0 15 "java/lang/String" "coder" "B") (List.mem_of_getElem? (i := 2) rfl)) (fun _ h => h) dJ0_isLatin1_aae02_7 ?_
    refine lv_if_ne (tgt := 17) hx hb dJ0_isLatin1_aae02_10 (by decide) (fun c2 => ?_) (fun c2 => ?_)
    · replace hf := it_f c2 hf
      refine lv_iconst (v := 0) hx hb dJ0_isLatin1_aae02_17 (by decide) ?_
      exact fin (0 : Int32) S _ _ _ _ rfl (Option.some.inj hf) rfl hH dJ0_isLatin1_aae02_18
    · replace hf := it_t c2 hf
      refine lv_iconst (v := 1) hx hb dJ0_isLatin1_aae02_13 (by decide) ?_
      refine lv_goto (tgt := 18) hx hb dJ0_isLatin1_aae02_14 (by decide) ?_
      exact fin (1 : Int32) S _ _ _ _ rfl (Option.some.inj hf) rfl hH dJ0_isLatin1_aae02_18
set_option maxRecDepth 100000 in
set_option maxHeartbeats 4000000 in
theorem c_J3_checkIndex_8e157 (t : Nat) (l : Launch) (G : Gt) (A : Nat → Prop) (S : St)  (a0 : Int32) (a1 : Int32) (q : Int32) (hf : f_J3_checkIndex_8e157 a0 a1 = some q) : Met l yJ3_checkIndex_8e157 wsJ3_checkIndex_8e157 ({ frames := 1, cells := 0, slots := 0, locals := 24 } : Room) (va_Pc [.int a0, .int a1, .ref t] (PK G A (CW G S))) (va_Qi (fun (r2 : Int32) S2 => r2 = q ∧ S2 = S) (fun S2 : St => PK G A (CW G S2)) A) 0 0 A := by
  refine mstart_i (Wd := CW G) (cc := cJ3_checkIndex_8e157) (maxL := 3) (by decide) rfl (Nat.le_of_ble_eq_true rfl) (fun p e s m below meth c Qm ls hC hH hl fin => ?_)
  obtain ⟨hx, hb, hml, hown, hts⟩ := id hC.1
  have hl : lv_has ls 3 [(0, .int a0), (1, .int a1), (2, .ref t)] := hl
  have kJ9 : ∀ (H : Heap) (locs : List Loc) (ls : Array Slot), HW G A (CW G S) s H locs → lv_has ls 3 [(0, .int a0), (1, .int a1), (2, .ref t)] → f_J3_checkIndex_8e157_9 a0 a1 () = some q → W p l e ({ frames := 1, cells := 0, slots := 0, locals := 24 } : Room) s m [.int a0, .int a1, .ref t].toArray below meth c H locs 0 0 Qm (F0 m 9 ls []) := by
    intro H locs ls hH hl hf
    rw [f_J3_checkIndex_8e157_9] at hf
    exact absurd hf.symm (Option.some_ne_none q)
  have hf := hf
  rw [f_J3_checkIndex_8e157] at hf
  refine lv_iload_n hx hb dJ3_checkIndex_8e157_0 rfl (lv_at hl 0 rfl) ?_
  refine lv_if_lt (tgt := 9) hx hb dJ3_checkIndex_8e157_1 (by decide) (fun c1 => ?_) (fun c1 => ?_)
  · replace hf := it_t c1 hf
    exact kJ9   _ _ _ hH (lv_sub hl [0, 1, 2] rfl) hf
  · replace hf := it_f c1 hf
    refine lv_iload_n hx hb dJ3_checkIndex_8e157_4 rfl (lv_at hl 0 rfl) ?_
    refine lv_iload_n hx hb dJ3_checkIndex_8e157_5 rfl (lv_at hl 1 rfl) ?_
    refine lv_icmp_lt (tgt := 16) hx hb dJ3_checkIndex_8e157_6 (by decide) (fun c2 => ?_) (fun c2 => ?_)
    · replace hf := it_t c2 hf
      refine lv_iload_n hx hb dJ3_checkIndex_8e157_16 rfl (lv_at hl 0 rfl) ?_
      exact fin a0 S _ _ _ _ (Option.some.inj hf) rfl hH dJ3_checkIndex_8e157_17
    · replace hf := it_f c2 hf
      exact kJ9   _ _ _ hH (lv_sub hl [0, 1, 2] rfl) hf
set_option maxRecDepth 100000 in
set_option maxHeartbeats 4000000 in
theorem c_J3_checkIndex_8e157n (l : Launch) (G : Gt) (A : Nat → Prop) (S : St)  (a0 : Int32) (a1 : Int32) (q : Int32) (hf : f_J3_checkIndex_8e157 a0 a1 = some q) : Met l yJ3_checkIndex_8e157 wsJ3_checkIndex_8e157 ({ frames := 1, cells := 0, slots := 0, locals := 24 } : Room) (va_Pc [.int a0, .int a1, .null] (PK G A (CW G S))) (va_Qi (fun (r2 : Int32) S2 => r2 = q ∧ S2 = S) (fun S2 : St => PK G A (CW G S2)) A) 0 0 A := by
  refine mstart_i (Wd := CW G) (cc := cJ3_checkIndex_8e157) (maxL := 3) (by decide) rfl (Nat.le_of_ble_eq_true rfl) (fun p e s m below meth c Qm ls hC hH hl fin => ?_)
  obtain ⟨hx, hb, hml, hown, hts⟩ := id hC.1
  have hl : lv_has ls 3 [(0, .int a0), (1, .int a1), (2, .null)] := hl
  have kJ9 : ∀ (H : Heap) (locs : List Loc) (ls : Array Slot), HW G A (CW G S) s H locs → lv_has ls 3 [(0, .int a0), (1, .int a1), (2, .null)] → f_J3_checkIndex_8e157_9 a0 a1 () = some q → W p l e ({ frames := 1, cells := 0, slots := 0, locals := 24 } : Room) s m [.int a0, .int a1, .null].toArray below meth c H locs 0 0 Qm (F0 m 9 ls []) := by
    intro H locs ls hH hl hf
    rw [f_J3_checkIndex_8e157_9] at hf
    exact absurd hf.symm (Option.some_ne_none q)
  have hf := hf
  rw [f_J3_checkIndex_8e157] at hf
  refine lv_iload_n hx hb dJ3_checkIndex_8e157_0 rfl (lv_at hl 0 rfl) ?_
  refine lv_if_lt (tgt := 9) hx hb dJ3_checkIndex_8e157_1 (by decide) (fun c1 => ?_) (fun c1 => ?_)
  · replace hf := it_t c1 hf
    exact kJ9   _ _ _ hH (lv_sub hl [0, 1, 2] rfl) hf
  · replace hf := it_f c1 hf
    refine lv_iload_n hx hb dJ3_checkIndex_8e157_4 rfl (lv_at hl 0 rfl) ?_
    refine lv_iload_n hx hb dJ3_checkIndex_8e157_5 rfl (lv_at hl 1 rfl) ?_
    refine lv_icmp_lt (tgt := 16) hx hb dJ3_checkIndex_8e157_6 (by decide) (fun c2 => ?_) (fun c2 => ?_)
    · replace hf := it_t c2 hf
      refine lv_iload_n hx hb dJ3_checkIndex_8e157_16 rfl (lv_at hl 0 rfl) ?_
      exact fin a0 S _ _ _ _ (Option.some.inj hf) rfl hH dJ3_checkIndex_8e157_17
    · replace hf := it_f c2 hf
      exact kJ9   _ _ _ hH (lv_sub hl [0, 1, 2] rfl) hf
set_option maxRecDepth 100000 in
set_option maxHeartbeats 4000000 in
theorem c_J0_checkIndex_df160 (l : Launch) (G : Gt) (A : Nat → Prop) (S : St)  (a0 : Int32) (a1 : Int32) (q : Unit) (hf : f_J0_checkIndex_df160 a0 a1 = some q) : Met l yJ0_checkIndex_df160 wsJ0_checkIndex_df160 ({ frames := 2, cells := 0, slots := 0, locals := 46 } : Room) (va_Pc [.int a0, .int a1] (PK G A (CW G S))) (va_Qv (fun S2 => S2 = S) (fun S2 : St => PK G A (CW G S2)) A) 0 0 A := by
  refine mstart_v (Wd := CW G) (cc := cJ0_checkIndex_df160) (maxL := 2) (by decide) rfl (Nat.le_of_ble_eq_true rfl) (fun p e s m below meth c Qm ls hC hH hl fin => ?_)
  obtain ⟨hx, hb, hml, hown, hts⟩ := id hC.1
  have hl : lv_has ls 2 [(0, .int a0), (1, .int a1)] := hl
  have hf := hf
  rw [f_J0_checkIndex_df160] at hf
  refine lv_iload_n hx hb dJ0_checkIndex_df160_0 rfl (lv_at hl 0 rfl) ?_
  refine lv_iload_n hx hb dJ0_checkIndex_df160_1 rfl (lv_at hl 1 rfl) ?_
  rcases hC.2.2.2.2.2.2 with hz | ⟨t, hz⟩
  · refine va_gets hx hb hz hH.2.2 hown (hts (.fieldLink RJ0 1053 "jdk/internal/util/Preconditions" "SIOOBE_FORMATTER" "Ljava/util/function/BiFunction;") (List.mem_of_getElem? (i := 1) rfl)) (fun _ h => h) dJ0_checkIndex_df160_2 ?_
    obtain ⟨r1, hr1, hf⟩ := ob hf
    refine callS_i [.int a0, .int a1, .null] [] hC hH (c_J3_checkIndex_8e157n l G A S a0 a1 _ hr1) (va_cwS 3 hts gJ0_checkIndex_df160_J3_checkIndex_8e157 rfl rfl rfl (by decide +kernel) ⟨Nat.le_of_ble_eq_true rfl, Nat.le_of_ble_eq_true rfl⟩) rfl hl.1 rfl (Nat.le_of_ble_eq_true rfl) dJ0_checkIndex_df160_5 (fun H locs hH => ?_)
    refine lv_pop hx hb dJ0_checkIndex_df160_8 rfl ?_
    exact fin S _ _ _ _ rfl hH dJ0_checkIndex_df160_9
  · refine va_gets hx hb hz hH.2.2 hown (hts (.fieldLink RJ0 1053 "jdk/internal/util/Preconditions" "SIOOBE_FORMATTER" "Ljava/util/function/BiFunction;") (List.mem_of_getElem? (i := 1) rfl)) (fun _ h => h) dJ0_checkIndex_df160_2 ?_
    obtain ⟨r1, hr1, hf⟩ := ob hf
    refine callS_i [.int a0, .int a1, .ref t] [] hC hH (c_J3_checkIndex_8e157 t l G A S a0 a1 _ hr1) (va_cwS 3 hts gJ0_checkIndex_df160_J3_checkIndex_8e157 rfl rfl rfl (by decide +kernel) ⟨Nat.le_of_ble_eq_true rfl, Nat.le_of_ble_eq_true rfl⟩) rfl hl.1 rfl (Nat.le_of_ble_eq_true rfl) dJ0_checkIndex_df160_5 (fun H locs hH => ?_)
    refine lv_pop hx hb dJ0_checkIndex_df160_8 rfl ?_
    exact fin S _ _ _ _ rfl hH dJ0_checkIndex_df160_9
set_option maxRecDepth 100000 in
set_option maxHeartbeats 4000000 in
theorem c_J1_charAt_3b067 (l : Launch) (G : Gt) (A : Nat → Prop) (S : St) (t0 : Nat) (ht0 : t0 < 7) (a1 : Int32) (q : Int32) (hf : f_J1_charAt_3b067 S t0 a1 = some q) : Met l yJ1_charAt_3b067 wsJ1_charAt_3b067 ({ frames := 3, cells := 0, slots := 0, locals := 67 } : Room) (va_Pc [.ref (gV G t0), .int a1] (PK G A (CW G S))) (va_Qi (fun (r2 : Int32) S2 => r2 = q ∧ S2 = S) (fun S2 : St => PK G A (CW G S2)) A) 0 0 A := by
  refine mstart_z (ty := .char) (Wd := CW G) (cc := cJ1_charAt_3b067) (maxL := 2) (by decide) rfl (Nat.le_of_ble_eq_true rfl) (fun p e s m below meth c Qm ls hC hH hl fin => ?_)
  obtain ⟨hx, hb, hml, hown, hts⟩ := id hC.1
  have hl : lv_has ls 2 [(0, .ref (gV G t0)), (1, .int a1)] := hl
  have hf := hf
  rw [f_J1_charAt_3b067] at hf
  refine lv_iload_n hx hb dJ1_charAt_3b067_0 rfl (lv_at hl 1 rfl) ?_
  refine lv_aload_n hx hb dJ1_charAt_3b067_1 rfl (lv_at hl 0 rfl) ?_
  refine va_tlen hx hb (hC.2.2.2.1.1 t0 ht0).2.2.2 hH.2.2 (v := Int32.ofNat (txL.getD t0 0)) rfl dJ1_charAt_3b067_2 ?_
  obtain ⟨r1, hr1, hf⟩ := ob hf
  refine callS_v [.int a1, .int (Int32.ofNat (txL.getD t0 0))] [] hC hH (c_J0_checkIndex_df160 l G A S a1 (Int32.ofNat (txL.getD t0 0)) _ hr1) (va_cwS 2 hts gJ1_charAt_3b067_J0_checkIndex_df160 rfl rfl rfl (by decide +kernel) ⟨Nat.le_of_ble_eq_true rfl, Nat.le_of_ble_eq_true rfl⟩) rfl hl.1 rfl (Nat.le_of_ble_eq_true rfl) dJ1_charAt_3b067_3 (fun H locs hH => ?_)
  refine lv_aload_n hx hb dJ1_charAt_3b067_6 rfl (lv_at hl 0 rfl) ?_
  refine lv_iload_n hx hb dJ1_charAt_3b067_7 rfl (lv_at hl 1 rfl) ?_
  obtain ⟨g2, hf⟩ := gd hf
  refine va_tb hx hb (hC.2.2.2.1.1 t0 ht0).2.2.2 hH.2.2 g2 (v := .int ((txB.getD t0 []).getD a1.toNatClampNeg 0)) rfl dJ1_charAt_3b067_8 ?_
  refine lv_sipush (v := 255) hx hb dJ1_charAt_3b067_9 (by decide) ?_
  refine lv_iand hx hb dJ1_charAt_3b067_12 ?_
  refine lv_i2c hx hb dJ1_charAt_3b067_13 rfl ?_
  obtain ⟨g3, hf⟩ := gd hf
  exact fin ((((txB.getD t0 []).getD a1.toNatClampNeg 0) &&& (255 : Int32)).toUInt32.toUInt16.toUInt32.toInt32) S _ _ _ _ (congrArg Value.int (Decidable.not_not.mp g3)) (Option.some.inj hf) rfl hH dJ1_charAt_3b067_14
set_option maxRecDepth 100000 in
set_option maxHeartbeats 4000000 in
theorem c_J0_charAt_5068e (l : Launch) (G : Gt) (A : Nat → Prop) (S : St) (t : Nat) (ht : t < 7) (a1 : Int32) (q : Int32) (hf : f_J0_charAt_5068e S t a1 = some q) : Met l yJ0_charAt_5068e wsJ0_charAt_5068e ({ frames := 5, cells := 0, slots := 0, locals := 109 } : Room) (va_Pc [.ref (gK G t), .int a1] (PK G A (CW G S))) (va_Qi (fun (r2 : Int32) S2 => r2 = q ∧ S2 = S) (fun S2 : St => PK G A (CW G S2)) A) 0 0 A := by
  refine mstart_z (ty := .char) (Wd := CW G) (cc := cJ0_charAt_5068e) (maxL := 2) (by decide) rfl (Nat.le_of_ble_eq_true rfl) (fun p e s m below meth c Qm ls hC hH hl fin => ?_)
  obtain ⟨hx, hb, hml, hown, hts⟩ := id hC.1
  have hl : lv_has ls 2 [(0, .ref (gK G t)), (1, .int a1)] := hl
  have hf := hf
  rw [f_J0_charAt_5068e] at hf
  refine lv_aload_n hx hb dJ0_charAt_5068e_0 rfl (lv_at hl 0 rfl) ?_
  obtain ⟨r1, hr1, hf⟩ := ob hf
  refine callV_i [] [] hC hH (c_J0_isLatin1_aae02 l G A S t ht _ hr1) (cwV 0 hts gJ0_charAt_5068e_J0_isLatin1_aae02 rfl rfl rfl (by decide +kernel) ⟨Nat.le_of_ble_eq_true rfl, Nat.le_of_ble_eq_true rfl⟩) (vk_recv hC.2.2.2.1 ht hH.2.2) rfl hl.1 rfl (Nat.le_of_ble_eq_true rfl) dJ0_charAt_5068e_1 (fun H locs hH => ?_)
  refine lv_if_eq (tgt := 16) hx hb dJ0_charAt_5068e_4 (by decide) (fun c2 => ?_) (fun c2 => ?_)
  · replace hf := it_t c2 hf
    exact absurd hf.symm (Option.some_ne_none q)
  · replace hf := it_f c2 hf
    refine lv_aload_n hx hb dJ0_charAt_5068e_7 rfl (lv_at hl 0 rfl) ?_
    refine vk_getf hx hb (hC.2.2.2.1.1 t ht).2.2.1 hH.2.2 hown (hts (.fieldLink RJ0 9 "java/lang/String" "value" "[B") (List.mem_of_getElem? (i := 1) rfl)) (fun _ h => h) dJ0_charAt_5068e_8 ?_
    refine lv_iload_n hx hb dJ0_charAt_5068e_11 rfl (lv_at hl 1 rfl) ?_
    obtain ⟨r3, hr3, hf⟩ := ob hf
    refine callS_i [.ref (gV G t), .int a1] [] hC hH (c_J1_charAt_3b067 l G A S t ht a1 _ hr3) (va_cwS 2 hts gJ0_charAt_5068e_J1_charAt_3b067 rfl rfl rfl (by decide +kernel) ⟨Nat.le_of_ble_eq_true rfl, Nat.le_of_ble_eq_true rfl⟩) rfl hl.1 rfl (Nat.le_of_ble_eq_true rfl) dJ0_charAt_5068e_12 (fun H locs hH => ?_)
    obtain ⟨g4, hf⟩ := gd hf
    exact fin r3 S _ _ _ _ (congrArg Value.int (Decidable.not_not.mp g4)) (Option.some.inj hf) rfl hH dJ0_charAt_5068e_15
theorem in_X8_holds_X8 : ∀ w ∈ wsX80, w ∈ wsX8_holds := fun w h => List.mem_cons_of_mem _ (List.mem_append_right _ h)
set_option maxRecDepth 100000 in
set_option maxHeartbeats 4000000 in
theorem c_X8_holds (l : Launch) (G : Gt) (A : Nat → Prop) (N : Nat) (S : St) (t1 : Nat) (ht1 : t1 < 7) (a2 : Int32) (a3 : Int32) (q : Int32) (hf : f_X8_holds N S t1 a2 a3 = some q) : Met l yX8_holds wsX8_holds ({ frames := 6, cells := 0, slots := 0, locals := 130 } : Room) (va_Pc [.ref (gC G 1), .ref (gK G t1), .int a2, .int a3] (PK G A (CW G S))) (va_Qi (fun (r2 : Int32) S2 => r2 = q ∧ S2 = S) (fun S2 : St => PK G A (CW G S2)) A) 0 0 A := by
  refine mstart_z (ty := .boolean) (Wd := CW G) (cc := cX8_holds) (maxL := 5) (by decide) rfl (Nat.le_of_ble_eq_true rfl) (fun p e s m below meth c Qm ls hC hH hl fin => ?_)
  obtain ⟨hx, hb, hml, hown, hts⟩ := id hC.1
  have hl : lv_has ls 5 [(0, .ref (gC G 1)), (1, .ref (gK G t1)), (2, .int a2), (3, .int a3)] := hl
  have kL28 : ∀ (n : Nat), ∀ (x4 : Int32) (H : Heap) (locs : List Loc) (ls : Array Slot), HW G A (CW G S) s H locs → lv_has ls 5 [(0, .ref (gC G 1)), (1, .ref (gK G t1)), (2, .int a2), (4, .int x4)] → g_X8_holds_28 N S t1 a2 n x4 = some q → W p l e ({ frames := 6, cells := 0, slots := 0, locals := 130 } : Room) s m [.ref (gC G 1), .ref (gK G t1), .int a2, .int a3].toArray below meth c H locs 0 0 Qm (F0 m 28 ls []) := by
    intro n
    induction n with
    | zero => intro x4 H locs ls hH hl hf; exact absurd hf.symm (Option.some_ne_none q)
    | succ n ih =>
      intro x4 H locs ls hH hl hf
      have hrec := ih
      have hf : s_X8_holds_28 N S t1 a2 (g_X8_holds_28 N S t1 a2 n) x4 = some q := hf
      rw [s_X8_holds_28] at hf
      refine lv_iload hx hb dX8_holds_28 (lv_at hl 3 rfl) ?_
      refine lv_aload_n hx hb dX8_holds_30 rfl (lv_at hl 1 rfl) ?_
      obtain ⟨r5, hr5, hf⟩ := ob hf
      refine callV_i [] [.int x4] hC hH (c_J0_length_8abf5 l G A S t1 ht1 _ hr5) (cwV 0 hts gX8_holds_J0_length_8abf5 rfl rfl rfl (by decide +kernel) ⟨Nat.le_of_ble_eq_true rfl, Nat.le_of_ble_eq_true rfl⟩) (vk_recv hC.2.2.2.1 ht1 hH.2.2) rfl hl.1 rfl (Nat.le_of_ble_eq_true rfl) dX8_holds_31 (fun H locs hH => ?_)
      refine lv_icmp_ge (tgt := 63) hx hb dX8_holds_34 (by decide) (fun c6 => ?_) (fun c6 => ?_)
      · replace hf := it_t c6 hf
        refine lv_iconst (v := 1) hx hb dX8_holds_63 (by decide) ?_
        exact fin (1 : Int32) S _ _ _ _ rfl (Option.some.inj hf) rfl hH dX8_holds_64
      · replace hf := it_f c6 hf
        refine lv_aload_n hx hb dX8_holds_37 rfl (lv_at hl 0 rfl) ?_
        refine getO hC hH (1) rfl rfl in_X8_holds_X8 0 (by decide) (index := 9) (List.mem_of_getElem? (i := 1) rfl) rfl dX8_holds_38 ?_
        refine lv_iload_n hx hb dX8_holds_41 rfl (lv_at hl 2 rfl) ?_
        refine lv_iload hx hb dX8_holds_42 (lv_at hl 3 rfl) ?_
        refine lv_iadd hx hb dX8_holds_44 ?_
        obtain ⟨g7, hf⟩ := gd hf
        refine aldI hC hH (2) rfl g7 dX8_holds_45 ?_
        refine lv_aload_n hx hb dX8_holds_46 rfl (lv_at hl 1 rfl) ?_
        refine lv_iload hx hb dX8_holds_47 (lv_at hl 3 rfl) ?_
        obtain ⟨r8, hr8, hf⟩ := ob hf
        refine callV_i [.int x4] [.int (gA S 2 (a2 + x4).toNatClampNeg)] hC hH (c_J0_charAt_5068e l G A S t1 ht1 x4 _ hr8) (cwV 1 hts gX8_holds_J0_charAt_5068e rfl rfl rfl (by decide +kernel) ⟨Nat.le_of_ble_eq_true rfl, Nat.le_of_ble_eq_true rfl⟩) (vk_recv hC.2.2.2.1 ht1 hH.2.2) rfl hl.1 rfl (Nat.le_of_ble_eq_true rfl) dX8_holds_49 (fun H locs hH => ?_)
        refine lv_icmp_eq (tgt := 57) hx hb dX8_holds_52 (by decide) (fun c9 => ?_) (fun c9 => ?_)
        · replace hf := it_t c9 hf
          refine lv_iinc (v := x4 + (1 : Int32)) (lv' := [(4, .int (x4 + (1 : Int32))), (0, .ref (gC G 1)), (1, .ref (gK G t1)), (2, .int a2)]) hx hb dX8_holds_57 hl (k := 3) rfl rfl (by decide) rfl (fun ls hl => ?_)
          refine lv_goto (tgt := 28) hx hb dX8_holds_60 (by decide) ?_
          exact hrec (x4 + (1 : Int32)) _ _ _ hH (lv_sub hl [1, 2, 3, 0] rfl) hf
        · replace hf := it_f c9 hf
          refine lv_iconst (v := 0) hx hb dX8_holds_55 (by decide) ?_
          exact fin (0 : Int32) S _ _ _ _ rfl (Option.some.inj hf) rfl hH dX8_holds_56
  have hf := hf
  rw [f_X8_holds] at hf
  refine lv_iload_n hx hb dX8_holds_0 rfl (lv_at hl 2 rfl) ?_
  refine lv_if_lt (tgt := 23) hx hb dX8_holds_1 (by decide) (fun c1 => ?_) (fun c1 => ?_)
  · replace hf := it_t c1 hf
    refine lv_iconst (v := 0) hx hb dX8_holds_23 (by decide) ?_
    exact fin (0 : Int32) S _ _ _ _ rfl (Option.some.inj hf) rfl hH dX8_holds_24
  · replace hf := it_f c1 hf
    refine lv_iload_n hx hb dX8_holds_4 rfl (lv_at hl 3 rfl) ?_
    refine lv_aload_n hx hb dX8_holds_5 rfl (lv_at hl 0 rfl) ?_
    refine getO hC hH (1) rfl rfl in_X8_holds_X8 0 (by decide) (index := 9) (List.mem_of_getElem? (i := 1) rfl) rfl dX8_holds_6 ?_
    refine alen hC hH (2) 0 rfl rfl (v := 300) rfl dX8_holds_9 ?_
    refine lv_icmp_gt (tgt := 23) hx hb dX8_holds_10 (by decide) (fun c2 => ?_) (fun c2 => ?_)
    · replace hf := it_t c2 hf
      refine lv_iconst (v := 0) hx hb dX8_holds_23 (by decide) ?_
      exact fin (0 : Int32) S _ _ _ _ rfl (Option.some.inj hf) rfl hH dX8_holds_24
    · replace hf := it_f c2 hf
      refine lv_iload_n hx hb dX8_holds_13 rfl (lv_at hl 3 rfl) ?_
      refine lv_iload_n hx hb dX8_holds_14 rfl (lv_at hl 2 rfl) ?_
      refine lv_isub hx hb dX8_holds_15 ?_
      refine lv_aload_n hx hb dX8_holds_16 rfl (lv_at hl 1 rfl) ?_
      obtain ⟨r3, hr3, hf⟩ := ob hf
      refine callV_i [] [.int (a3 - a2)] hC hH (c_J0_length_8abf5 l G A S t1 ht1 _ hr3) (cwV 0 hts gX8_holds_J0_length_8abf5 rfl rfl rfl (by decide +kernel) ⟨Nat.le_of_ble_eq_true rfl, Nat.le_of_ble_eq_true rfl⟩) (vk_recv hC.2.2.2.1 ht1 hH.2.2) rfl hl.1 rfl (Nat.le_of_ble_eq_true rfl) dX8_holds_17 (fun H locs hH => ?_)
      refine lv_icmp_eq (tgt := 25) hx hb dX8_holds_20 (by decide) (fun c4 => ?_) (fun c4 => ?_)
      · replace hf := it_t c4 hf
        refine lv_iconst (v := 0) hx hb dX8_holds_25 (by decide) ?_
        refine lv_istore (lv' := [(4, .int (0 : Int32)), (0, .ref (gC G 1)), (1, .ref (gK G t1)), (2, .int a2), (3, .int a3)]) hx hb dX8_holds_26 hl (by decide) rfl (fun ls hl => ?_)
        refine kL28 N (0 : Int32) _ _ _ hH (lv_sub hl [1, 2, 3, 0] rfl) hf
      · replace hf := it_f c4 hf
        refine lv_iconst (v := 0) hx hb dX8_holds_23 (by decide) ?_
        exact fin (0 : Int32) S _ _ _ _ rfl (Option.some.inj hf) rfl hH dX8_holds_24
