/-! walks: X6_tell X6_readInto X6_fault X7_begin X7_copyFrom X7_draw X8_append X9_type X9_clear X9_lane X9_yard X9_told -/
theorem in_X6_tell_X3 : ∀ w ∈ wsX30, w ∈ wsX6_tell := fun w h => List.mem_cons_of_mem _ (List.mem_append_right _ h)
theorem in_X6_tell_X6 : ∀ w ∈ wsX60, w ∈ wsX6_tell := fun w h => List.mem_cons_of_mem _ (List.mem_append_left _ (List.mem_append_right _ h))
set_option maxRecDepth 100000 in
set_option maxHeartbeats 4000000 in
theorem c_X6_tell (l : Launch) (G : Gt) (A : Nat → Prop) (S : St) (j1 : Nat) (hj1 : j1 < 2) (a2 : Int32) (a3 : Int32) (a4 : Int32) (q : St) (hf : f_X6_tell S j1 a2 a3 a4 = some q) : Met l yX6_tell wsX6_tell ({ frames := 1, cells := 0, slots := 0, locals := 22 } : Room) (va_Pc [.ref (gC G 3), .ref (gC G (33 + 5 * j1)), .int a2, .int a3, .int a4] (PK G A (CW G S))) (va_Qv (fun S2 => S2 = q) (fun S2 : St => PK G A (CW G S2)) A) 0 0 A := by
  refine mstart_v (Wd := CW G) (cc := cX6_tell) (maxL := 5) (by decide) rfl (Nat.le_of_ble_eq_true rfl) (fun p e s m below meth c Qm ls hC hH hl fin => ?_)
  obtain ⟨hx, hb, hml, hown, hts⟩ := id hC.1
  have hl : lv_has ls 5 [(0, .ref (gC G 3)), (1, .ref (gC G (33 + 5 * j1))), (2, .int a2), (3, .int a3), (4, .int a4)] := hl
  have hf := hf
  rw [f_X6_tell] at hf
  refine lv_aload_n hx hb dX6_tell_0 rfl (lv_at hl 0 rfl) ?_
  refine lv_dup hx hb dX6_tell_1 rfl ?_
  refine getO hC hH (3) rfl rfl in_X6_tell_X6 5 (by decide) (index := 31) (List.mem_of_getElem? (i := 1) rfl) rfl dX6_tell_2 ?_
  refine lv_iconst (v := 1) hx hb dX6_tell_5 (by decide) ?_
  refine lv_iload_n hx hb dX6_tell_6 rfl (lv_at hl 2 rfl) ?_
  refine lv_ishl hx hb dX6_tell_7 ?_
  refine lv_ior hx hb dX6_tell_8 ?_
  refine putO hC hH (3) rfl rfl in_X6_tell_X6 tyX6 tyX6_ok nmX6 5 (by decide) (index := 31) (List.mem_of_getElem? (i := 1) rfl) rfl rfl rfl (Nat.le_of_ble_eq_true rfl) cs_3_5 dX6_tell_9 (fun H locs hH => ?_)
  obtain ⟨S1, eS1⟩ : ∃ Z : St, Z = sI S 3 5 ((gI S 3 5) ||| ((1 : Int32) <<< (a2 &&& 31))) := ⟨_, rfl⟩
  rw [← eS1] at hH
  replace hf := bn eS1 hf
  refine lv_iload_n hx hb dX6_tell_12 rfl (lv_at hl 2 rfl) ?_
  by_cases c2 : a2 = (1 : Int32)
  · replace hf := it_t c2 hf
    refine lv_tableIn (tgt := 52) hx hb dX6_tell_13 (by rw [c2]; decide) (by rw [c2]; decide) (by rw [c2]; rfl) (by decide) ?_
    refine lv_aload_n hx hb dX6_tell_52 rfl (lv_at hl 1 rfl) ?_
    refine lv_iload_n hx hb dX6_tell_53 rfl (lv_at hl 3 rfl) ?_
    refine putN hC hH (33 + 5 * j1) (cw_lane (i := j1) hj1) rfl in_X6_tell_X3 tyX3 tyX3_ok nmX3 4 (by decide) (index := 65) (List.mem_of_getElem? (i := 13) rfl) rfl rfl rfl (Nat.le_of_ble_eq_true rfl) (cs_lane_4 (i := j1) hj1) dX6_tell_54 (fun H locs hH => ?_)
    obtain ⟨S3, eS3⟩ : ∃ Z : St, Z = sI S1 (33 + 5 * j1) 4 a3 := ⟨_, rfl⟩
    rw [← eS3] at hH
    replace hf := bn eS3 hf
    refine lv_goto (tgt := 109) hx hb dX6_tell_57 (by decide) ?_
    exact fin S3 _ _ _ _ (Option.some.inj hf) hH dX6_tell_109
  replace hf := it_f c2 hf
  by_cases c4 : a2 = (2 : Int32)
  · replace hf := it_t c4 hf
    refine lv_tableIn (tgt := 60) hx hb dX6_tell_13 (by rw [c4]; decide) (by rw [c4]; decide) (by rw [c4]; rfl) (by decide) ?_
    refine lv_aload_n hx hb dX6_tell_60 rfl (lv_at hl 1 rfl) ?_
    refine lv_iload_n hx hb dX6_tell_61 rfl (lv_at hl 3 rfl) ?_
    refine lv_iload hx hb dX6_tell_62 (lv_at hl 4 rfl) ?_
    obtain ⟨r5, hr5, hf⟩ := ob hf
    refine callV_v [.int a3, .int a4] [] hC hH (c_X3_setWind l G A S1 j1 hj1 a3 a4 _ hr5) (cwV 2 hts gX6_tell_X3_setWind rfl rfl rfl (by decide +kernel) ⟨Nat.le_of_ble_eq_true rfl, Nat.le_of_ble_eq_true rfl⟩) (recvW hC hH (c0 := 33 + 5 * j1) (ci := 3) (cw_lane (i := j1) hj1) rfl) rfl hl.1 rfl (Nat.le_of_ble_eq_true rfl) dX6_tell_64 (fun H locs hH => ?_)
    refine lv_goto (tgt := 109) hx hb dX6_tell_67 (by decide) ?_
    exact fin r5 _ _ _ _ (Option.some.inj hf) hH dX6_tell_109
  replace hf := it_f c4 hf
  by_cases c6 : a2 = (3 : Int32)
  · replace hf := it_t c6 hf
    refine lv_tableIn (tgt := 70) hx hb dX6_tell_13 (by rw [c6]; decide) (by rw [c6]; decide) (by rw [c6]; rfl) (by decide) ?_
    refine lv_aload_n hx hb dX6_tell_70 rfl (lv_at hl 1 rfl) ?_
    refine lv_iload_n hx hb dX6_tell_71 rfl (lv_at hl 3 rfl) ?_
    obtain ⟨r7, hr7, hf⟩ := ob hf
    refine callV_v [.int a3] [] hC hH (c_X3_setWet l G A S1 j1 hj1 a3 _ hr7) (cwV 1 hts gX6_tell_X3_setWet rfl rfl rfl (by decide +kernel) ⟨Nat.le_of_ble_eq_true rfl, Nat.le_of_ble_eq_true rfl⟩) (recvW hC hH (c0 := 33 + 5 * j1) (ci := 3) (cw_lane (i := j1) hj1) rfl) rfl hl.1 rfl (Nat.le_of_ble_eq_true rfl) dX6_tell_72 (fun H locs hH => ?_)
    refine lv_goto (tgt := 109) hx hb dX6_tell_75 (by decide) ?_
    exact fin r7 _ _ _ _ (Option.some.inj hf) hH dX6_tell_109
  replace hf := it_f c6 hf
  by_cases c8 : a2 = (4 : Int32)
  · replace hf := it_t c8 hf
    refine lv_tableIn (tgt := 78) hx hb dX6_tell_13 (by rw [c8]; decide) (by rw [c8]; decide) (by rw [c8]; rfl) (by decide) ?_
    refine lv_aload_n hx hb dX6_tell_78 rfl (lv_at hl 1 rfl) ?_
    refine lv_iload_n hx hb dX6_tell_79 rfl (lv_at hl 3 rfl) ?_
    refine lv_iload hx hb dX6_tell_80 (lv_at hl 4 rfl) ?_
    obtain ⟨r9, hr9, hf⟩ := ob hf
    refine callV_v [.int a3, .int a4] [] hC hH (c_X3_addRunner l G A S1 j1 hj1 a3 a4 _ hr9) (cwV 2 hts gX6_tell_X3_addRunner rfl rfl rfl (by decide +kernel) ⟨Nat.le_of_ble_eq_true rfl, Nat.le_of_ble_eq_true rfl⟩) (recvW hC hH (c0 := 33 + 5 * j1) (ci := 3) (cw_lane (i := j1) hj1) rfl) rfl hl.1 rfl (Nat.le_of_ble_eq_true rfl) dX6_tell_82 (fun H locs hH => ?_)
    refine lv_goto (tgt := 109) hx hb dX6_tell_85 (by decide) ?_
    exact fin r9 _ _ _ _ (Option.some.inj hf) hH dX6_tell_109
  replace hf := it_f c8 hf
  by_cases c10 : a2 = (5 : Int32)
  · replace hf := it_t c10 hf
    refine lv_tableIn (tgt := 88) hx hb dX6_tell_13 (by rw [c10]; decide) (by rw [c10]; decide) (by rw [c10]; rfl) (by decide) ?_
    refine lv_aload_n hx hb dX6_tell_88 rfl (lv_at hl 1 rfl) ?_
    refine lv_iload_n hx hb dX6_tell_89 rfl (lv_at hl 3 rfl) ?_
    refine putN hC hH (33 + 5 * j1) (cw_lane (i := j1) hj1) rfl in_X6_tell_X3 tyX3 tyX3_ok nmX3 6 (by decide) (index := 79) (List.mem_of_getElem? (i := 18) rfl) rfl rfl rfl (Nat.le_of_ble_eq_true rfl) (cs_lane_6 (i := j1) hj1) dX6_tell_90 (fun H locs hH => ?_)
    obtain ⟨S11, eS11⟩ : ∃ Z : St, Z = sI S1 (33 + 5 * j1) 6 a3 := ⟨_, rfl⟩
    rw [← eS11] at hH
    replace hf := bn eS11 hf
    refine lv_goto (tgt := 109) hx hb dX6_tell_93 (by decide) ?_
    exact fin S11 _ _ _ _ (Option.some.inj hf) hH dX6_tell_109
  replace hf := it_f c10 hf
  by_cases c12 : a2 = (6 : Int32)
  · replace hf := it_t c12 hf
    refine lv_tableIn (tgt := 96) hx hb dX6_tell_13 (by rw [c12]; decide) (by rw [c12]; decide) (by rw [c12]; rfl) (by decide) ?_
    refine lv_aload_n hx hb dX6_tell_96 rfl (lv_at hl 1 rfl) ?_
    refine lv_iload_n hx hb dX6_tell_97 rfl (lv_at hl 3 rfl) ?_
    refine putN hC hH (33 + 5 * j1) (cw_lane (i := j1) hj1) rfl in_X6_tell_X3 tyX3 tyX3_ok nmX3 7 (by decide) (index := 82) (List.mem_of_getElem? (i := 21) rfl) rfl rfl rfl (Nat.le_of_ble_eq_true rfl) (cs_lane_7 (i := j1) hj1) dX6_tell_98 (fun H locs hH => ?_)
    obtain ⟨S13, eS13⟩ : ∃ Z : St, Z = sI S1 (33 + 5 * j1) 7 a3 := ⟨_, rfl⟩
    rw [← eS13] at hH
    replace hf := bn eS13 hf
    refine lv_goto (tgt := 109) hx hb dX6_tell_101 (by decide) ?_
    exact fin S13 _ _ _ _ (Option.some.inj hf) hH dX6_tell_109
  replace hf := it_f c12 hf
  refine lv_tableOut (tgt := 104) hx hb dX6_tell_13 (by have z0 := lv_neT (a := 1) c2 (by decide); have z1 := lv_neT (a := 2) c4 (by decide); have z2 := lv_neT (a := 3) c6 (by decide); have z3 := lv_neT (a := 4) c8 (by decide); have z4 := lv_neT (a := 5) c10 (by decide); have z5 := lv_neT (a := 6) c12 (by decide); omega) (by decide) ?_
  refine lv_aload_n hx hb dX6_tell_104 rfl (lv_at hl 1 rfl) ?_
  refine lv_iload_n hx hb dX6_tell_105 rfl (lv_at hl 3 rfl) ?_
  refine putN hC hH (33 + 5 * j1) (cw_lane (i := j1) hj1) rfl in_X6_tell_X3 tyX3 tyX3_ok nmX3 8 (by decide) (index := 85) (List.mem_of_getElem? (i := 24) rfl) rfl rfl rfl (Nat.le_of_ble_eq_true rfl) (cs_lane_8 (i := j1) hj1) dX6_tell_106 (fun H locs hH => ?_)
  obtain ⟨S14, eS14⟩ : ∃ Z : St, Z = sI S1 (33 + 5 * j1) 8 a3 := ⟨_, rfl⟩
  rw [← eS14] at hH
  replace hf := bn eS14 hf
  exact fin S14 _ _ _ _ (Option.some.inj hf) hH dX6_tell_109
theorem in_X6_readInto_X3 : ∀ w ∈ wsX30, w ∈ wsX6_readInto := fun w h => List.mem_cons_of_mem _ (List.mem_append_left _ (List.mem_append_right _ h))
theorem in_X6_readInto_X6 : ∀ w ∈ wsX60, w ∈ wsX6_readInto := fun w h => List.mem_cons_of_mem _ (List.mem_append_left _ (List.mem_append_left _ (List.mem_append_right _ h)))
theorem in_X6_readInto_X8 : ∀ w ∈ wsX80, w ∈ wsX6_readInto := fun w h => List.mem_cons_of_mem _ (List.mem_append_right _ h)
set_option maxRecDepth 100000 in
set_option maxHeartbeats 4000000 in
theorem c_X6_readInto (l : Launch) (G : Gt) (A : Nat → Prop) (N : Nat) (S : St) (j1 : Nat) (hj1 : j1 < 2)  (q : Int32 × St) (hf : f_X6_readInto N S j1 = some q) : Met l yX6_readInto wsX6_readInto ({ frames := 10, cells := 0, slots := 0, locals := 217 } : Room) (va_Pc [.ref (gC G 3), .ref (gC G (33 + 5 * j1))] (PK G A (CW G S))) (va_Qi (fun (r2 : Int32) S2 => r2 = q.1 ∧ S2 = q.2) (fun S2 : St => PK G A (CW G S2)) A) 0 0 A := by
  refine mstart_i (Wd := CW G) (cc := cX6_readInto) (maxL := 5) (by decide) rfl (Nat.le_of_ble_eq_true rfl) (fun p e s m below meth c Qm ls hC hH hl fin => ?_)
  obtain ⟨hx, hb, hml, hown, hts⟩ := id hC.1
  have hl : lv_has ls 5 [(0, .ref (gC G 3)), (1, .ref (gC G (33 + 5 * j1)))] := hl
  have kJ105 : ∀ (rec : St → Int32 → Option (Int32 × St)) (hrec : ∀ (S : St) (x2 : Int32) (H : Heap) (locs : List Loc) (ls : Array Slot), HW G A (CW G S) s H locs → lv_has ls 5 [(0, .ref (gC G 3)), (1, .ref (gC G (33 + 5 * j1))), (2, .int x2)] → rec S x2 = some q → W p l e ({ frames := 10, cells := 0, slots := 0, locals := 217 } : Room) s m [.ref (gC G 3), .ref (gC G (33 + 5 * j1))].toArray below meth c H locs 0 0 Qm (F0 m 16 ls [])) , ∀ (S : St) (x2 : Int32) (x3 : Int32) (x4 : Int32) (H : Heap) (locs : List Loc) (ls : Array Slot), HW G A (CW G S) s H locs → lv_has ls 5 [(0, .ref (gC G 3)), (1, .ref (gC G (33 + 5 * j1))), (2, .int x2), (3, .int x3), (4, .int x4)] → f_X6_readInto_105 N j1 rec S x2 x3 x4 = some q → W p l e ({ frames := 10, cells := 0, slots := 0, locals := 217 } : Room) s m [.ref (gC G 3), .ref (gC G (33 + 5 * j1))].toArray below meth c H locs 0 0 Qm (F0 m 105 ls []) := by
    intro rec hrec S x2 x3 x4 H locs ls hH hl hf
    rw [f_X6_readInto_105] at hf
    refine lv_aload_n hx hb dX6_readInto_105 rfl (lv_at hl 0 rfl) ?_
    refine lv_aload_n hx hb dX6_readInto_106 rfl (lv_at hl 1 rfl) ?_
    refine lv_iload_n hx hb dX6_readInto_107 rfl (lv_at hl 3 rfl) ?_
    refine lv_iload hx hb dX6_readInto_108 (lv_at hl 4 rfl) ?_
    refine lv_aload_n hx hb dX6_readInto_110 rfl (lv_at hl 0 rfl) ?_
    refine getO hC hH (3) rfl rfl in_X6_readInto_X6 4 (by decide) (index := 28) (List.mem_of_getElem? (i := 4) rfl) rfl dX6_readInto_111 ?_
    obtain ⟨r17, hr17, hf⟩ := ob hf
    refine callV_v [.ref (gC G (33 + 5 * j1)), .int x3, .int x4, .int (gI S 3 4)] [] hC hH (c_X6_tell l G A S j1 hj1 x3 x4 (gI S 3 4) _ hr17) (cwV 4 hts gX6_readInto_X6_tell rfl rfl rfl (by decide +kernel) ⟨Nat.le_of_ble_eq_true rfl, Nat.le_of_ble_eq_true rfl⟩) (recvW hC hH (c0 := 3) (ci := 6) rfl rfl) rfl hl.1 rfl (Nat.le_of_ble_eq_true rfl) dX6_readInto_114 (fun H locs hH => ?_)
    refine lv_aload_n hx hb dX6_readInto_117 rfl (lv_at hl 0 rfl) ?_
    obtain ⟨r18, hr18, hf⟩ := ob hf
    refine callV_v [] [] hC hH (c_X6_readToken l G A N r17 _ hr18) (cwV 0 hts gX6_readInto_X6_readToken rfl rfl rfl (by decide +kernel) ⟨Nat.le_of_ble_eq_true rfl, Nat.le_of_ble_eq_true rfl⟩) (recvW hC hH (c0 := 3) (ci := 6) rfl rfl) rfl hl.1 rfl (Nat.le_of_ble_eq_true rfl) dX6_readInto_118 (fun H locs hH => ?_)
    refine lv_aload_n hx hb dX6_readInto_121 rfl (lv_at hl 0 rfl) ?_
    refine getO hC hH (3) rfl rfl in_X6_readInto_X6 3 (by decide) (index := 25) (List.mem_of_getElem? (i := 3) rfl) rfl dX6_readInto_122 ?_
    refine lv_bipush (v := 9) hx hb dX6_readInto_125 (by decide) ?_
    refine lv_icmp_eq (tgt := 132) hx hb dX6_readInto_127 (by decide) (fun c19 => ?_) (fun c19 => ?_)
    · replace hf := it_t c19 hf
      refine lv_iinc (v := x2 + (1 : Int32)) (lv' := [(2, .int (x2 + (1 : Int32))), (0, .ref (gC G 3)), (1, .ref (gC G (33 + 5 * j1))), (3, .int x3), (4, .int x4)]) hx hb dX6_readInto_132 hl (k := 2) rfl rfl (by decide) rfl (fun ls hl => ?_)
      refine lv_goto (tgt := 16) hx hb dX6_readInto_135 (by decide) ?_
      exact hrec r18 (x2 + (1 : Int32)) _ _ _ hH (lv_sub hl [1, 2, 0] rfl) hf
    · replace hf := it_f c19 hf
      refine lv_iconst (v := -1) hx hb dX6_readInto_130 (by decide) ?_
      exact fin (-1 : Int32) r18 _ _ _ _ (congrArg Prod.fst (Option.some.inj hf)) (congrArg Prod.snd (Option.some.inj hf)) hH dX6_readInto_131
  have kJ88 : ∀ (rec : St → Int32 → Option (Int32 × St)) (hrec : ∀ (S : St) (x2 : Int32) (H : Heap) (locs : List Loc) (ls : Array Slot), HW G A (CW G S) s H locs → lv_has ls 5 [(0, .ref (gC G 3)), (1, .ref (gC G (33 + 5 * j1))), (2, .int x2)] → rec S x2 = some q → W p l e ({ frames := 10, cells := 0, slots := 0, locals := 217 } : Room) s m [.ref (gC G 3), .ref (gC G (33 + 5 * j1))].toArray below meth c H locs 0 0 Qm (F0 m 16 ls [])) , ∀ (S : St) (x2 : Int32) (x3 : Int32) (x4 : Int32) (H : Heap) (locs : List Loc) (ls : Array Slot), HW G A (CW G S) s H locs → lv_has ls 5 [(0, .ref (gC G 3)), (1, .ref (gC G (33 + 5 * j1))), (2, .int x2), (3, .int x3), (4, .int x4)] → f_X6_readInto_88 N j1 rec S x2 x3 x4 = some q → W p l e ({ frames := 10, cells := 0, slots := 0, locals := 217 } : Room) s m [.ref (gC G 3), .ref (gC G (33 + 5 * j1))].toArray below meth c H locs 0 0 Qm (F0 m 88 ls []) := by
    intro rec hrec S x2 x3 x4 H locs ls hH hl hf
    rw [f_X6_readInto_88] at hf
    refine lv_iload_n hx hb dX6_readInto_88 rfl (lv_at hl 3 rfl) ?_
    refine lv_iconst (v := 4) hx hb dX6_readInto_89 (by decide) ?_
    refine lv_icmp_ne (tgt := 105) hx hb dX6_readInto_90 (by decide) (fun c16 => ?_) (fun c16 => ?_)
    · replace hf := it_f c16 hf
      exact kJ105 _ hrec S x2 x3 x4 _ _ _ hH (lv_sub hl [0, 1, 2, 3, 4] rfl) hf
    · replace hf := it_t c16 hf
      refine lv_aload_n hx hb dX6_readInto_93 rfl (lv_at hl 0 rfl) ?_
      refine lv_iconst (v := 0) hx hb dX6_readInto_94 (by decide) ?_
      refine lv_bipush (v := 9) hx hb dX6_readInto_95 (by decide) ?_
      obtain ⟨r20, hr20, hf⟩ := ob hf
      refine callV_i [.int (0 : Int32), .int (9 : Int32)] [] hC hH (c_X6_readNumber l G A N S (0 : Int32) (9 : Int32) _ hr20) (cwV 2 hts gX6_readInto_X6_readNumber rfl rfl rfl (by decide +kernel) ⟨Nat.le_of_ble_eq_true rfl, Nat.le_of_ble_eq_true rfl⟩) (recvW hC hH (c0 := 3) (ci := 6) rfl rfl) rfl hl.1 rfl (Nat.le_of_ble_eq_true rfl) dX6_readInto_97 (fun H locs hH => ?_)
      refine lv_if_ne (tgt := 105) hx hb dX6_readInto_100 (by decide) (fun c21 => ?_) (fun c21 => ?_)
      · replace hf := it_f c21 hf
        exact kJ105 _ hrec r20.2 x2 x3 x4 _ _ _ hH (lv_sub hl [0, 1, 2, 3, 4] rfl) hf
      · replace hf := it_t c21 hf
        refine lv_iconst (v := -1) hx hb dX6_readInto_103 (by decide) ?_
        have hz : ((-1 : Int32), r20.2) = q := Option.some.inj hf
        have hz1 := congrArg Prod.fst hz
        have hz2 := congrArg Prod.snd hz
        exact fin (-1 : Int32) r20.2 _ _ _ _ hz1 hz2 hH dX6_readInto_104
  have kL16 : ∀ (n : Nat), ∀ (S : St) (x2 : Int32) (H : Heap) (locs : List Loc) (ls : Array Slot), HW G A (CW G S) s H locs → lv_has ls 5 [(0, .ref (gC G 3)), (1, .ref (gC G (33 + 5 * j1))), (2, .int x2)] → g_X6_readInto_16 N j1 n S x2 = some q → W p l e ({ frames := 10, cells := 0, slots := 0, locals := 217 } : Room) s m [.ref (gC G 3), .ref (gC G (33 + 5 * j1))].toArray below meth c H locs 0 0 Qm (F0 m 16 ls []) := by
    intro n
    induction n with
    | zero => intro S x2 H locs ls hH hl hf; exact absurd hf.symm (Option.some_ne_none q)
    | succ n ih =>
      intro S x2 H locs ls hH hl hf
      have hrec := ih
      have hf : s_X6_readInto_16 N j1 (g_X6_readInto_16 N j1 n) S x2 = some q := hf
      rw [s_X6_readInto_16] at hf
      refine lv_iload_n hx hb dX6_readInto_16 rfl (lv_at hl 2 rfl) ?_
      refine lv_sipush (v := 300) hx hb dX6_readInto_17 (by decide) ?_
      refine lv_icmp_gt (tgt := 138) hx hb dX6_readInto_20 (by decide) (fun c4 => ?_) (fun c4 => ?_)
      · replace hf := it_t c4 hf
        refine lv_iconst (v := -1) hx hb dX6_readInto_138 (by decide) ?_
        exact fin (-1 : Int32) S _ _ _ _ (congrArg Prod.fst (Option.some.inj hf)) (congrArg Prod.snd (Option.some.inj hf)) hH dX6_readInto_139
      · replace hf := it_f c4 hf
        refine lv_aload_n hx hb dX6_readInto_23 rfl (lv_at hl 0 rfl) ?_
        obtain ⟨r5, hr5, hf⟩ := ob hf
        refine callV_v [] [] hC hH (c_X6_readToken l G A N S _ hr5) (cwV 0 hts gX6_readInto_X6_readToken rfl rfl rfl (by decide +kernel) ⟨Nat.le_of_ble_eq_true rfl, Nat.le_of_ble_eq_true rfl⟩) (recvW hC hH (c0 := 3) (ci := 6) rfl rfl) rfl hl.1 rfl (Nat.le_of_ble_eq_true rfl) dX6_readInto_24 (fun H locs hH => ?_)
        refine lv_aload_n hx hb dX6_readInto_27 rfl (lv_at hl 0 rfl) ?_
        refine getO hC hH (3) rfl rfl in_X6_readInto_X6 3 (by decide) (index := 25) (List.mem_of_getElem? (i := 3) rfl) rfl dX6_readInto_28 ?_
        refine lv_if_ne (tgt := 36) hx hb dX6_readInto_31 (by decide) (fun c6 => ?_) (fun c6 => ?_)
        · replace hf := it_f c6 hf
          refine lv_aload_n hx hb dX6_readInto_36 rfl (lv_at hl 0 rfl) ?_
          refine getO hC hH (3) rfl rfl in_X6_readInto_X6 3 (by decide) (index := 25) (List.mem_of_getElem? (i := 3) rfl) rfl dX6_readInto_37 ?_
          refine lv_topi (fun b7 eb7 => ?_)
          replace hf := bn eb7 hf
          refine lv_istore_n (lv' := [(3, .int b7), (0, .ref (gC G 3)), (1, .ref (gC G (33 + 5 * j1))), (2, .int x2)]) hx hb dX6_readInto_40 rfl hl (by decide) rfl (fun ls hl => ?_)
          refine lv_aload_n hx hb dX6_readInto_41 rfl (lv_at hl 1 rfl) ?_
          refine lv_aload_n hx hb dX6_readInto_42 rfl (lv_at hl 2 rfl) ?_
          refine lv_iload_n hx hb dX6_readInto_43 rfl (lv_at hl 3 rfl) ?_
          obtain ⟨r8, hr8, hf⟩ := ob hf
          refine callV_i [.ref (gC G (33 + 5 * j1)), .int x2] [] hC hH (c_X6_mayBegin l G A r5 j1 hj1 x2 _ hr8) (cwV 2 hts gX6_readInto_X6_mayBegin rfl rfl rfl (by decide +kernel) ⟨Nat.le_of_ble_eq_true rfl, Nat.le_of_ble_eq_true rfl⟩) (recvW hC hH (c0 := 3) (ci := 6) rfl rfl) rfl hl.1 rfl (Nat.le_of_ble_eq_true rfl) dX6_readInto_44 (fun H locs hH => ?_)
          refine lv_if_eq (tgt := 66) hx hb dX6_readInto_47 (by decide) (fun c9 => ?_) (fun c9 => ?_)
          · replace hf := it_t c9 hf
            refine lv_iconst (v := -1) hx hb dX6_readInto_66 (by decide) ?_
            exact fin (-1 : Int32) r5 _ _ _ _ (congrArg Prod.fst (Option.some.inj hf)) (congrArg Prod.snd (Option.some.inj hf)) hH dX6_readInto_67
          · replace hf := it_f c9 hf
            refine lv_aload_n hx hb dX6_readInto_50 rfl (lv_at hl 1 rfl) ?_
            refine lv_iload_n hx hb dX6_readInto_51 rfl (lv_at hl 0 rfl) ?_
            obtain ⟨r10, hr10, hf⟩ := ob hf
            refine callS_i [.int b7] [.ref (gC G 3)] hC hH (c_X6_leastFirst l G A r5 b7 _ hr10) (va_cwS 1 hts gX6_readInto_X6_leastFirst rfl rfl rfl (by decide +kernel) ⟨Nat.le_of_ble_eq_true rfl, Nat.le_of_ble_eq_true rfl⟩) rfl hl.1 rfl (Nat.le_of_ble_eq_true rfl) dX6_readInto_52 (fun H locs hH => ?_)
            refine lv_iload_n hx hb dX6_readInto_55 rfl (lv_at hl 0 rfl) ?_
            refine lv_aload_n hx hb dX6_readInto_56 rfl (lv_at hl 2 rfl) ?_
            obtain ⟨r11, hr11, hf⟩ := ob hf
            refine callS_i [.int b7, .ref (gC G (33 + 5 * j1))] [.int r10, .ref (gC G 3)] hC hH (c_X6_mostFirst l G A r5 j1 hj1 b7 _ hr11) (va_cwS 2 hts gX6_readInto_X6_mostFirst rfl rfl rfl (by decide +kernel) ⟨Nat.le_of_ble_eq_true rfl, Nat.le_of_ble_eq_true rfl⟩) rfl hl.1 rfl (Nat.le_of_ble_eq_true rfl) dX6_readInto_57 (fun H locs hH => ?_)
            obtain ⟨r12, hr12, hf⟩ := ob hf
            refine callV_i [.int r10, .int r11] [] hC hH (c_X6_readNumber l G A N r5 r10 r11 _ hr12) (cwV 2 hts gX6_readInto_X6_readNumber rfl rfl rfl (by decide +kernel) ⟨Nat.le_of_ble_eq_true rfl, Nat.le_of_ble_eq_true rfl⟩) (recvW hC hH (c0 := 3) (ci := 6) rfl rfl) rfl hl.1 rfl (Nat.le_of_ble_eq_true rfl) dX6_readInto_60 (fun H locs hH => ?_)
            refine lv_if_ne (tgt := 68) hx hb dX6_readInto_63 (by decide) (fun c13 => ?_) (fun c13 => ?_)
            · replace hf := it_f c13 hf
              refine lv_aload_n hx hb dX6_readInto_68 rfl (lv_at hl 1 rfl) ?_
              refine getO hC hH (3) rfl rfl in_X6_readInto_X6 4 (by decide) (index := 28) (List.mem_of_getElem? (i := 4) rfl) rfl dX6_readInto_69 ?_
              refine lv_topi (fun b14 eb14 => ?_)
              replace hf := bn eb14 hf
              refine lv_istore (lv' := [(4, .int b14), (3, .int b7), (0, .ref (gC G 3)), (1, .ref (gC G (33 + 5 * j1))), (2, .int x2)]) hx hb dX6_readInto_72 hl (by decide) rfl (fun ls hl => ?_)
              refine lv_iload_n hx hb dX6_readInto_74 rfl (lv_at hl 1 rfl) ?_
              refine lv_iconst (v := 2) hx hb dX6_readInto_75 (by decide) ?_
              refine lv_icmp_ne (tgt := 88) hx hb dX6_readInto_76 (by decide) (fun c15 => ?_) (fun c15 => ?_)
              · replace hf := it_f c15 hf
                exact kJ88 _ hrec r12.2 x2 b7 b14 _ _ _ hH (lv_sub hl [2, 3, 4, 1, 0] rfl) hf
              · replace hf := it_t c15 hf
                refine lv_aload_n hx hb dX6_readInto_79 rfl (lv_at hl 2 rfl) ?_
                refine lv_iconst (v := 1) hx hb dX6_readInto_80 (by decide) ?_
                refine lv_iconst (v := 3) hx hb dX6_readInto_81 (by decide) ?_
                obtain ⟨r22, hr22, hf⟩ := ob hf
                refine callV_i [.int (1 : Int32), .int (3 : Int32)] [] hC hH (c_X6_readNumber l G A N r12.2 (1 : Int32) (3 : Int32) _ hr22) (cwV 2 hts gX6_readInto_X6_readNumber rfl rfl rfl (by decide +kernel) ⟨Nat.le_of_ble_eq_true rfl, Nat.le_of_ble_eq_true rfl⟩) (recvW hC hH (c0 := 3) (ci := 6) rfl rfl) rfl hl.1 rfl (Nat.le_of_ble_eq_true rfl) dX6_readInto_82 (fun H locs hH => ?_)
                refine lv_if_eq (tgt := 103) hx hb dX6_readInto_85 (by decide) (fun c23 => ?_) (fun c23 => ?_)
                · replace hf := it_t c23 hf
                  refine lv_iconst (v := -1) hx hb dX6_readInto_103 (by decide) ?_
                  have hz : ((-1 : Int32), r22.2) = q := Option.some.inj hf
                  have hz1 := congrArg Prod.fst hz
                  have hz2 := congrArg Prod.snd hz
                  exact fin (-1 : Int32) r22.2 _ _ _ _ hz1 hz2 hH dX6_readInto_104
                · replace hf := it_f c23 hf
                  exact kJ88 _ hrec r22.2 x2 b7 b14 _ _ _ hH (lv_sub hl [2, 3, 4, 1, 0] rfl) hf
            · replace hf := it_t c13 hf
              refine lv_iconst (v := -1) hx hb dX6_readInto_66 (by decide) ?_
              have hz : ((-1 : Int32), r12.2) = q := Option.some.inj hf
              have hz1 := congrArg Prod.fst hz
              have hz2 := congrArg Prod.snd hz
              exact fin (-1 : Int32) r12.2 _ _ _ _ hz1 hz2 hH dX6_readInto_67
        · replace hf := it_t c6 hf
          refine lv_iload_n hx hb dX6_readInto_34 rfl (lv_at hl 2 rfl) ?_
          exact fin x2 r5 _ _ _ _ (congrArg Prod.fst (Option.some.inj hf)) (congrArg Prod.snd (Option.some.inj hf)) hH dX6_readInto_35
  have hf := hf
  rw [f_X6_readInto] at hf
  refine lv_aload_n hx hb dX6_readInto_0 rfl (lv_at hl 1 rfl) ?_
  obtain ⟨r1, hr1, hf⟩ := ob hf
  refine callV_v [] [] hC hH (c_X3_begin l G A N S j1 hj1 _ hr1) (cwV 0 hts gX6_readInto_X3_begin rfl rfl rfl (by decide +kernel) ⟨Nat.le_of_ble_eq_true rfl, Nat.le_of_ble_eq_true rfl⟩) (recvW hC hH (c0 := 33 + 5 * j1) (ci := 3) (cw_lane (i := j1) hj1) rfl) rfl hl.1 rfl (Nat.le_of_ble_eq_true rfl) dX6_readInto_1 (fun H locs hH => ?_)
  refine lv_aload_n hx hb dX6_readInto_4 rfl (lv_at hl 0 rfl) ?_
  refine lv_iconst (v := 0) hx hb dX6_readInto_5 (by decide) ?_
  refine putO hC hH (3) rfl rfl in_X6_readInto_X6 tyX6 tyX6_ok nmX6 1 (by decide) (index := 18) (List.mem_of_getElem? (i := 1) rfl) rfl rfl rfl (Nat.le_of_ble_eq_true rfl) cs_3_1 dX6_readInto_6 (fun H locs hH => ?_)
  obtain ⟨S2, eS2⟩ : ∃ Z : St, Z = sI r1 3 1 (0 : Int32) := ⟨_, rfl⟩
  rw [← eS2] at hH
  replace hf := bn eS2 hf
  refine lv_aload_n hx hb dX6_readInto_9 rfl (lv_at hl 0 rfl) ?_
  refine lv_iconst (v := 0) hx hb dX6_readInto_10 (by decide) ?_
  refine putO hC hH (3) rfl rfl in_X6_readInto_X6 tyX6 tyX6_ok nmX6 5 (by decide) (index := 31) (List.mem_of_getElem? (i := 2) rfl) rfl rfl rfl (Nat.le_of_ble_eq_true rfl) cs_3_5 dX6_readInto_11 (fun H locs hH => ?_)
  obtain ⟨S3, eS3⟩ : ∃ Z : St, Z = sI S2 3 5 (0 : Int32) := ⟨_, rfl⟩
  rw [← eS3] at hH
  replace hf := bn eS3 hf
  refine lv_iconst (v := 0) hx hb dX6_readInto_14 (by decide) ?_
  refine lv_istore_n (lv' := [(2, .int (0 : Int32)), (0, .ref (gC G 3)), (1, .ref (gC G (33 + 5 * j1)))]) hx hb dX6_readInto_15 rfl hl (by decide) rfl (fun ls hl => ?_)
  refine kL16 N S3 (0 : Int32) _ _ _ hH (lv_sub hl [1, 2, 0] rfl) hf
theorem in_X6_fault_X6 : ∀ w ∈ wsX60, w ∈ wsX6_fault := fun w h => List.mem_cons_of_mem _ (List.mem_append_right _ h)
set_option maxRecDepth 100000 in
set_option maxHeartbeats 4000000 in
theorem c_X6_fault (l : Launch) (G : Gt) (A : Nat → Prop) (S : St)   (q : Int32) (hf : f_X6_fault S = some q) : Met l yX6_fault wsX6_fault ({ frames := 0, cells := 0, slots := 0, locals := 0 } : Room) (va_Pc [.ref (gC G 3)] (PK G A (CW G S))) (va_Qi (fun (r2 : Int32) S2 => r2 = q ∧ S2 = S) (fun S2 : St => PK G A (CW G S2)) A) 0 0 A := by
  refine mstart_i (Wd := CW G) (cc := cX6_fault) (maxL := 1) (by decide) rfl (Nat.le_of_ble_eq_true rfl) (fun p e s m below meth c Qm ls hC hH hl fin => ?_)
  obtain ⟨hx, hb, hml, hown, hts⟩ := id hC.1
  have hl : lv_has ls 1 [(0, .ref (gC G 3))] := hl
  have hf := hf
  rw [f_X6_fault] at hf
  refine lv_aload_n hx hb dX6_fault_0 rfl (lv_at hl 0 rfl) ?_
  refine getO hC hH (3) rfl rfl in_X6_fault_X6 2 (by decide) (index := 22) (List.mem_of_getElem? (i := 1) rfl) rfl dX6_fault_1 ?_
  exact fin (gI S 3 2) S _ _ _ _ (Option.some.inj hf) rfl hH dX6_fault_4
theorem in_X7_begin_X7 : ∀ w ∈ wsX70, w ∈ wsX7_begin := fun w h => List.mem_cons_of_mem _ (List.mem_append_right _ h)
set_option maxRecDepth 100000 in
set_option maxHeartbeats 4000000 in
theorem c_X7_begin (l : Launch) (G : Gt) (A : Nat → Prop) (N : Nat) (S : St) (i : Nat) (hi : i < 3)  (q : St) (hf : f_X7_begin N S i = some q) : Met l yX7_begin wsX7_begin ({ frames := 1, cells := 0, slots := 0, locals := 24 } : Room) (va_Pc [.ref (gC G (4 + 5 * i))] (PK G A (CW G S))) (va_Qv (fun S2 => S2 = q) (fun S2 : St => PK G A (CW G S2)) A) 0 0 A := by
  refine mstart_v (Wd := CW G) (cc := cX7_begin) (maxL := 2) (by decide) rfl (Nat.le_of_ble_eq_true rfl) (fun p e s m below meth c Qm ls hC hH hl fin => ?_)
  obtain ⟨hx, hb, hml, hown, hts⟩ := id hC.1
  have hl : lv_has ls 2 [(0, .ref (gC G (4 + 5 * i)))] := hl
  have kL2 : ∀ (n : Nat), ∀ (S : St) (x1 : Int32) (H : Heap) (locs : List Loc) (ls : Array Slot), HW G A (CW G S) s H locs → lv_has ls 2 [(0, .ref (gC G (4 + 5 * i))), (1, .int x1)] → g_X7_begin_2 N i n S x1 = some q → W p l e ({ frames := 1, cells := 0, slots := 0, locals := 24 } : Room) s m [.ref (gC G (4 + 5 * i))].toArray below meth c H locs 0 0 Qm (F0 m 2 ls []) := by
    intro n
    induction n with
    | zero => intro S x1 H locs ls hH hl hf; exact absurd hf.symm (Option.some_ne_none q)
    | succ n ih =>
      intro S x1 H locs ls hH hl hf
      have hrec := ih
      have hf : s_X7_begin_2 N i (g_X7_begin_2 N i n) S x1 = some q := hf
      rw [s_X7_begin_2] at hf
      refine lv_iload_n hx hb dX7_begin_2 rfl (lv_at hl 1 rfl) ?_
      refine lv_iconst (v := 3) hx hb dX7_begin_3 (by decide) ?_
      refine lv_icmp_ge (tgt := 21) hx hb dX7_begin_4 (by decide) (fun c1 => ?_) (fun c1 => ?_)
      · replace hf := it_t c1 hf
        exact fin S _ _ _ _ (Option.some.inj hf) hH dX7_begin_21
      · replace hf := it_f c1 hf
        refine lv_aload_n hx hb dX7_begin_7 rfl (lv_at hl 0 rfl) ?_
        refine lv_iload_n hx hb dX7_begin_8 rfl (lv_at hl 1 rfl) ?_
        refine lv_iconst (v := 0) hx hb dX7_begin_9 (by decide) ?_
        refine lv_iconst (v := 0) hx hb dX7_begin_10 (by decide) ?_
        refine lv_iconst (v := 0) hx hb dX7_begin_11 (by decide) ?_
        obtain ⟨r2, hr2, hf⟩ := ob hf
        refine callV_v [.int x1, .int (0 : Int32), .int (0 : Int32), .int (0 : Int32)] [] hC hH (c_X7_put l G A S i hi x1 (0 : Int32) (0 : Int32) (0 : Int32) _ hr2) (cwV 4 hts gX7_begin_X7_put rfl rfl rfl (by decide +kernel) ⟨Nat.le_of_ble_eq_true rfl, Nat.le_of_ble_eq_true rfl⟩) (recvW hC hH (c0 := 4 + 5 * i) (ci := 7) (cw_runs (i := i) hi) rfl) rfl hl.1 rfl (Nat.le_of_ble_eq_true rfl) dX7_begin_12 (fun H locs hH => ?_)
        refine lv_iinc (v := x1 + (1 : Int32)) (lv' := [(1, .int (x1 + (1 : Int32))), (0, .ref (gC G (4 + 5 * i)))]) hx hb dX7_begin_15 hl (k := 1) rfl rfl (by decide) rfl (fun ls hl => ?_)
        refine lv_goto (tgt := 2) hx hb dX7_begin_18 (by decide) ?_
        exact hrec r2 (x1 + (1 : Int32)) _ _ _ hH (lv_sub hl [1, 0] rfl) hf
  have hf := hf
  rw [f_X7_begin] at hf
  refine lv_iconst (v := 0) hx hb dX7_begin_0 (by decide) ?_
  refine lv_istore_n (lv' := [(1, .int (0 : Int32)), (0, .ref (gC G (4 + 5 * i)))]) hx hb dX7_begin_1 rfl hl (by decide) rfl (fun ls hl => ?_)
  refine kL2 N S (0 : Int32) _ _ _ hH (lv_sub hl [1, 0] rfl) hf
theorem in_X7_copyFrom_X7 : ∀ w ∈ wsX70, w ∈ wsX7_copyFrom := fun w h => List.mem_cons_of_mem _ (List.mem_append_right _ h)
set_option maxRecDepth 100000 in
set_option maxHeartbeats 4000000 in
theorem c_X7_copyFrom (l : Launch) (G : Gt) (A : Nat → Prop) (N : Nat) (S : St) (i : Nat) (hi : i < 3) (j1 : Nat) (hj1 : j1 < 3)  (q : St) (hf : f_X7_copyFrom N S i j1 = some q) : Met l yX7_copyFrom wsX7_copyFrom ({ frames := 1, cells := 0, slots := 0, locals := 24 } : Room) (va_Pc [.ref (gC G (4 + 5 * i)), .ref (gC G (4 + 5 * j1))] (PK G A (CW G S))) (va_Qv (fun S2 => S2 = q) (fun S2 : St => PK G A (CW G S2)) A) 0 0 A := by
  refine mstart_v (Wd := CW G) (cc := cX7_copyFrom) (maxL := 3) (by decide) rfl (Nat.le_of_ble_eq_true rfl) (fun p e s m below meth c Qm ls hC hH hl fin => ?_)
  obtain ⟨hx, hb, hml, hown, hts⟩ := id hC.1
  have hl : lv_has ls 3 [(0, .ref (gC G (4 + 5 * i))), (1, .ref (gC G (4 + 5 * j1)))] := hl
  have kL2 : ∀ (k33 : St → Option St) (hk33 : ∀ (S : St) (H : Heap) (locs : List Loc) (ls : Array Slot), HW G A (CW G S) s H locs → lv_has ls 3 [(0, .ref (gC G (4 + 5 * i))), (1, .ref (gC G (4 + 5 * j1)))] → k33 S = some q → W p l e ({ frames := 1, cells := 0, slots := 0, locals := 24 } : Room) s m [.ref (gC G (4 + 5 * i)), .ref (gC G (4 + 5 * j1))].toArray below meth c H locs 0 0 Qm (F0 m 33 ls [])) , ∀ (n : Nat), ∀ (S : St) (x2 : Int32) (H : Heap) (locs : List Loc) (ls : Array Slot), HW G A (CW G S) s H locs → lv_has ls 3 [(0, .ref (gC G (4 + 5 * i))), (1, .ref (gC G (4 + 5 * j1))), (2, .int x2)] → g_X7_copyFrom_2 N i j1 k33 n S x2 = some q → W p l e ({ frames := 1, cells := 0, slots := 0, locals := 24 } : Room) s m [.ref (gC G (4 + 5 * i)), .ref (gC G (4 + 5 * j1))].toArray below meth c H locs 0 0 Qm (F0 m 2 ls []) := by
    intro k33 hk33 n
    induction n with
    | zero => intro S x2 H locs ls hH hl hf; exact absurd hf.symm (Option.some_ne_none q)
    | succ n ih =>
      intro S x2 H locs ls hH hl hf
      have hrec := ih
      have hf : s_X7_copyFrom_2 N i j1 k33 (g_X7_copyFrom_2 N i j1 k33 n) S x2 = some q := hf
      rw [s_X7_copyFrom_2] at hf
      refine lv_iload_n hx hb dX7_copyFrom_2 rfl (lv_at hl 2 rfl) ?_
      refine lv_iconst (v := 3) hx hb dX7_copyFrom_3 (by decide) ?_
      refine lv_icmp_ge (tgt := 33) hx hb dX7_copyFrom_4 (by decide) (fun c1 => ?_) (fun c1 => ?_)
      · replace hf := it_t c1 hf
        exact hk33 S _ _ _ hH (lv_sub hl [0, 1] rfl) hf
      · replace hf := it_f c1 hf
        refine lv_aload_n hx hb dX7_copyFrom_7 rfl (lv_at hl 0 rfl) ?_
        refine lv_iload_n hx hb dX7_copyFrom_8 rfl (lv_at hl 2 rfl) ?_
        refine lv_aload_n hx hb dX7_copyFrom_9 rfl (lv_at hl 1 rfl) ?_
        refine lv_iload_n hx hb dX7_copyFrom_10 rfl (lv_at hl 2 rfl) ?_
        obtain ⟨r2, hr2, hf⟩ := ob hf
        refine callV_i [.int x2] [.int x2, .ref (gC G (4 + 5 * i))] hC hH (c_X7_yardOf l G A S j1 hj1 x2 _ hr2) (cwV 1 hts gX7_copyFrom_X7_yardOf rfl rfl rfl (by decide +kernel) ⟨Nat.le_of_ble_eq_true rfl, Nat.le_of_ble_eq_true rfl⟩) (recvW hC hH (c0 := 4 + 5 * j1) (ci := 7) (cw_runs (i := j1) hj1) rfl) rfl hl.1 rfl (Nat.le_of_ble_eq_true rfl) dX7_copyFrom_11 (fun H locs hH => ?_)
        refine lv_aload_n hx hb dX7_copyFrom_14 rfl (lv_at hl 1 rfl) ?_
        refine lv_iload_n hx hb dX7_copyFrom_15 rfl (lv_at hl 2 rfl) ?_
        obtain ⟨r3, hr3, hf⟩ := ob hf
        refine callV_i [.int x2] [.int r2, .int x2, .ref (gC G (4 + 5 * i))] hC hH (c_X7_beatsOf l G A S j1 hj1 x2 _ hr3) (cwV 1 hts gX7_copyFrom_X7_beatsOf rfl rfl rfl (by decide +kernel) ⟨Nat.le_of_ble_eq_true rfl, Nat.le_of_ble_eq_true rfl⟩) (recvW hC hH (c0 := 4 + 5 * j1) (ci := 7) (cw_runs (i := j1) hj1) rfl) rfl hl.1 rfl (Nat.le_of_ble_eq_true rfl) dX7_copyFrom_16 (fun H locs hH => ?_)
        refine lv_aload_n hx hb dX7_copyFrom_19 rfl (lv_at hl 1 rfl) ?_
        refine lv_iload_n hx hb dX7_copyFrom_20 rfl (lv_at hl 2 rfl) ?_
        obtain ⟨r4, hr4, hf⟩ := ob hf
        refine callV_i [.int x2] [.int r3, .int r2, .int x2, .ref (gC G (4 + 5 * i))] hC hH (c_X7_goodOf l G A S j1 hj1 x2 _ hr4) (cwV 1 hts gX7_copyFrom_X7_goodOf rfl rfl rfl (by decide +kernel) ⟨Nat.le_of_ble_eq_true rfl, Nat.le_of_ble_eq_true rfl⟩) (recvW hC hH (c0 := 4 + 5 * j1) (ci := 7) (cw_runs (i := j1) hj1) rfl) rfl hl.1 rfl (Nat.le_of_ble_eq_true rfl) dX7_copyFrom_21 (fun H locs hH => ?_)
        obtain ⟨r5, hr5, hf⟩ := ob hf
        refine callV_v [.int x2, .int r2, .int r3, .int r4] [] hC hH (c_X7_put l G A S i hi x2 r2 r3 r4 _ hr5) (cwV 4 hts gX7_copyFrom_X7_put rfl rfl rfl (by decide +kernel) ⟨Nat.le_of_ble_eq_true rfl, Nat.le_of_ble_eq_true rfl⟩) (recvW hC hH (c0 := 4 + 5 * i) (ci := 7) (cw_runs (i := i) hi) rfl) rfl hl.1 rfl (Nat.le_of_ble_eq_true rfl) dX7_copyFrom_24 (fun H locs hH => ?_)
        refine lv_iinc (v := x2 + (1 : Int32)) (lv' := [(2, .int (x2 + (1 : Int32))), (0, .ref (gC G (4 + 5 * i))), (1, .ref (gC G (4 + 5 * j1)))]) hx hb dX7_copyFrom_27 hl (k := 2) rfl rfl (by decide) rfl (fun ls hl => ?_)
        refine lv_goto (tgt := 2) hx hb dX7_copyFrom_30 (by decide) ?_
        exact hrec r5 (x2 + (1 : Int32)) _ _ _ hH (lv_sub hl [1, 2, 0] rfl) hf
  have hf := hf
  rw [f_X7_copyFrom] at hf
  refine lv_iconst (v := 0) hx hb dX7_copyFrom_0 (by decide) ?_
  refine lv_istore_n (lv' := [(2, .int (0 : Int32)), (0, .ref (gC G (4 + 5 * i))), (1, .ref (gC G (4 + 5 * j1)))]) hx hb dX7_copyFrom_1 rfl hl (by decide) rfl (fun ls hl => ?_)
  refine kL2 _ ?_ N S (0 : Int32) _ _ _ hH (lv_sub hl [1, 2, 0] rfl) hf
  intro S6 H locs ls hH hl hf
  refine lv_aload_n hx hb dX7_copyFrom_33 rfl (lv_at hl 0 rfl) ?_
  refine lv_aload_n hx hb dX7_copyFrom_34 rfl (lv_at hl 1 rfl) ?_
  refine getO hC hH (4 + 5 * j1) (cw_runs (i := j1) hj1) rfl in_X7_copyFrom_X7 3 (by decide) (index := 21) (List.mem_of_getElem? (i := 1) rfl) rfl dX7_copyFrom_35 ?_
  refine putO hC hH (4 + 5 * i) (cw_runs (i := i) hi) rfl in_X7_copyFrom_X7 tyX7 tyX7_ok nmX7 3 (by decide) (index := 21) (List.mem_of_getElem? (i := 1) rfl) rfl rfl rfl (Nat.le_of_ble_eq_true rfl) (cs_runs_3 (i := i) hi) dX7_copyFrom_38 (fun H locs hH => ?_)
  obtain ⟨S7, eS7⟩ : ∃ Z : St, Z = sI S6 (4 + 5 * i) 3 (gI S6 (4 + 5 * j1) 3) := ⟨_, rfl⟩
  rw [← eS7] at hH
  replace hf := bn eS7 hf
  exact fin S7 _ _ _ _ (Option.some.inj hf) hH dX7_copyFrom_41
theorem in_X7_draw_X7 : ∀ w ∈ wsX70, w ∈ wsX7_draw := fun w h => List.mem_cons_of_mem _ (List.mem_append_right _ h)
set_option maxRecDepth 100000 in
set_option maxHeartbeats 4000000 in
theorem c_X7_draw (l : Launch) (G : Gt) (A : Nat → Prop) (S : St) (i : Nat) (hi : i < 3)  (q : Int32 × St) (hf : f_X7_draw S i = some q) : Met l yX7_draw wsX7_draw ({ frames := 0, cells := 0, slots := 0, locals := 0 } : Room) (va_Pc [.ref (gC G (4 + 5 * i))] (PK G A (CW G S))) (va_Qi (fun (r2 : Int32) S2 => r2 = q.1 ∧ S2 = q.2) (fun S2 : St => PK G A (CW G S2)) A) 0 0 A := by
  refine mstart_i (Wd := CW G) (cc := cX7_draw) (maxL := 1) (by decide) rfl (Nat.le_of_ble_eq_true rfl) (fun p e s m below meth c Qm ls hC hH hl fin => ?_)
  obtain ⟨hx, hb, hml, hown, hts⟩ := id hC.1
  have hl : lv_has ls 1 [(0, .ref (gC G (4 + 5 * i)))] := hl
  have hf := hf
  rw [f_X7_draw] at hf
  refine lv_aload_n hx hb dX7_draw_0 rfl (lv_at hl 0 rfl) ?_
  refine lv_aload_n hx hb dX7_draw_1 rfl (lv_at hl 0 rfl) ?_
  refine getO hC hH (4 + 5 * i) (cw_runs (i := i) hi) rfl in_X7_draw_X7 3 (by decide) (index := 21) (List.mem_of_getElem? (i := 1) rfl) rfl dX7_draw_2 ?_
  refine lv_ldc (v := 1103515245) hx hb hown (hts (.constant RX7 39 (1103515245)) (List.mem_of_getElem? (i := 2) rfl)) dX7_draw_5 ?_
  refine lv_imul hx hb dX7_draw_7 ?_
  refine lv_sipush (v := 12345) hx hb dX7_draw_8 (by decide) ?_
  refine lv_iadd hx hb dX7_draw_11 ?_
  refine putO hC hH (4 + 5 * i) (cw_runs (i := i) hi) rfl in_X7_draw_X7 tyX7 tyX7_ok nmX7 3 (by decide) (index := 21) (List.mem_of_getElem? (i := 1) rfl) rfl rfl rfl (Nat.le_of_ble_eq_true rfl) (cs_runs_3 (i := i) hi) dX7_draw_12 (fun H locs hH => ?_)
  obtain ⟨S1, eS1⟩ : ∃ Z : St, Z = sI S (4 + 5 * i) 3 (((gI S (4 + 5 * i) 3) * (1103515245 : Int32)) + (12345 : Int32)) := ⟨_, rfl⟩
  rw [← eS1] at hH
  replace hf := bn eS1 hf
  refine lv_aload_n hx hb dX7_draw_15 rfl (lv_at hl 0 rfl) ?_
  refine getO hC hH (4 + 5 * i) (cw_runs (i := i) hi) rfl in_X7_draw_X7 3 (by decide) (index := 21) (List.mem_of_getElem? (i := 1) rfl) rfl dX7_draw_16 ?_
  refine lv_bipush (v := 16) hx hb dX7_draw_19 (by decide) ?_
  refine lv_iushr hx hb dX7_draw_21 rfl ?_
  refine lv_bipush (v := 10) hx hb dX7_draw_22 (by decide) ?_
  refine lv_irem hx hb dX7_draw_24 (by decide) ?_
  have hz : ((((gI S1 (4 + 5 * i) 3).toUInt32 >>> ((16 : Int32).toUInt32 &&& Int32.toUInt32 31)).toInt32) - (((gI S1 (4 + 5 * i) 3).toUInt32 >>> ((16 : Int32).toUInt32 &&& Int32.toUInt32 31)).toInt32) / (10 : Int32) * (10 : Int32), S1) = q := Option.some.inj hf
  have hz1 := congrArg Prod.fst hz
  have hz2 := congrArg Prod.snd hz
  exact fin ((((gI S1 (4 + 5 * i) 3).toUInt32 >>> ((16 : Int32).toUInt32 &&& Int32.toUInt32 31)).toInt32) - (((gI S1 (4 + 5 * i) 3).toUInt32 >>> ((16 : Int32).toUInt32 &&& Int32.toUInt32 31)).toInt32) / (10 : Int32) * (10 : Int32)) S1 _ _ _ _ hz1 hz2 hH dX7_draw_25
theorem in_X8_append_X8 : ∀ w ∈ wsX80, w ∈ wsX8_append := fun w h => List.mem_cons_of_mem _ (List.mem_append_right _ h)
set_option maxRecDepth 100000 in
set_option maxHeartbeats 4000000 in
theorem c_X8_append (l : Launch) (G : Gt) (A : Nat → Prop) (S : St)  (a1 : Int32) (q : St) (hf : f_X8_append S a1 = some q) : Met l yX8_append wsX8_append ({ frames := 0, cells := 0, slots := 0, locals := 0 } : Room) (va_Pc [.ref (gC G 1), .int a1] (PK G A (CW G S))) (va_Qv (fun S2 => S2 = q) (fun S2 : St => PK G A (CW G S2)) A) 0 0 A := by
  refine mstart_v (Wd := CW G) (cc := cX8_append) (maxL := 2) (by decide) rfl (Nat.le_of_ble_eq_true rfl) (fun p e s m below meth c Qm ls hC hH hl fin => ?_)
  obtain ⟨hx, hb, hml, hown, hts⟩ := id hC.1
  have hl : lv_has ls 2 [(0, .ref (gC G 1)), (1, .int a1)] := hl
  have hf := hf
  rw [f_X8_append] at hf
  refine lv_aload_n hx hb dX8_append_0 rfl (lv_at hl 0 rfl) ?_
  refine getO hC hH (1) rfl rfl in_X8_append_X8 1 (by decide) (index := 13) (List.mem_of_getElem? (i := 1) rfl) rfl dX8_append_1 ?_
  refine lv_if_lt (tgt := 39) hx hb dX8_append_4 (by decide) (fun c1 => ?_) (fun c1 => ?_)
  · replace hf := it_t c1 hf
    exact fin S _ _ _ _ (Option.some.inj hf) hH dX8_append_39
  · replace hf := it_f c1 hf
    refine lv_aload_n hx hb dX8_append_7 rfl (lv_at hl 0 rfl) ?_
    refine getO hC hH (1) rfl rfl in_X8_append_X8 1 (by decide) (index := 13) (List.mem_of_getElem? (i := 1) rfl) rfl dX8_append_8 ?_
    refine lv_aload_n hx hb dX8_append_11 rfl (lv_at hl 0 rfl) ?_
    refine getO hC hH (1) rfl rfl in_X8_append_X8 0 (by decide) (index := 9) (List.mem_of_getElem? (i := 2) rfl) rfl dX8_append_12 ?_
    refine alen hC hH (2) 0 rfl rfl (v := 300) rfl dX8_append_15 ?_
    refine lv_icmp_ge (tgt := 39) hx hb dX8_append_16 (by decide) (fun c2 => ?_) (fun c2 => ?_)
    · replace hf := it_t c2 hf
      exact fin S _ _ _ _ (Option.some.inj hf) hH dX8_append_39
    · replace hf := it_f c2 hf
      refine lv_aload_n hx hb dX8_append_19 rfl (lv_at hl 0 rfl) ?_
      refine getO hC hH (1) rfl rfl in_X8_append_X8 0 (by decide) (index := 9) (List.mem_of_getElem? (i := 2) rfl) rfl dX8_append_20 ?_
      refine lv_aload_n hx hb dX8_append_23 rfl (lv_at hl 0 rfl) ?_
      refine getO hC hH (1) rfl rfl in_X8_append_X8 1 (by decide) (index := 13) (List.mem_of_getElem? (i := 1) rfl) rfl dX8_append_24 ?_
      refine lv_iload_n hx hb dX8_append_27 rfl (lv_at hl 1 rfl) ?_
      obtain ⟨g3, hf⟩ := gd hf
      refine astI hC hH (2) rfl g3 ct_2 dX8_append_28 (fun H locs hH => ?_)
      obtain ⟨S4, eS4⟩ : ∃ Z : St, Z = sA S 2 (upd (gA S 2) (gI S 1 1).toNatClampNeg a1) := ⟨_, rfl⟩
      rw [← eS4] at hH
      replace hf := bn eS4 hf
      refine lv_aload_n hx hb dX8_append_29 rfl (lv_at hl 0 rfl) ?_
      refine lv_dup hx hb dX8_append_30 rfl ?_
      refine getO hC hH (1) rfl rfl in_X8_append_X8 1 (by decide) (index := 13) (List.mem_of_getElem? (i := 1) rfl) rfl dX8_append_31 ?_
      refine lv_iconst (v := 1) hx hb dX8_append_34 (by decide) ?_
      refine lv_iadd hx hb dX8_append_35 ?_
      refine putO hC hH (1) rfl rfl in_X8_append_X8 tyX8 tyX8_ok nmX8 1 (by decide) (index := 13) (List.mem_of_getElem? (i := 1) rfl) rfl rfl rfl (Nat.le_of_ble_eq_true rfl) cs_1_1 dX8_append_36 (fun H locs hH => ?_)
      obtain ⟨S5, eS5⟩ : ∃ Z : St, Z = sI S4 1 1 ((gI S4 1 1) + (1 : Int32)) := ⟨_, rfl⟩
      rw [← eS5] at hH
      replace hf := bn eS5 hf
      exact fin S5 _ _ _ _ (Option.some.inj hf) hH dX8_append_39
theorem in_X9_type_X8 : ∀ w ∈ wsX80, w ∈ wsX9_type := fun w h => List.mem_cons_of_mem _ (List.mem_append_right _ h)
theorem in_X9_type_X9 : ∀ w ∈ wsX90, w ∈ wsX9_type := fun w h => List.mem_cons_of_mem _ (List.mem_append_left _ (List.mem_append_right _ h))
set_option maxRecDepth 100000 in
set_option maxHeartbeats 4000000 in
theorem c_X9_type (l : Launch) (G : Gt) (A : Nat → Prop) (N : Nat) (S : St)  (a1 : Int64) (a3 : Int32) (q : Int32 × St) (hf : f_X9_type N S a1 a3 = some q) : Met l yX9_type wsX9_type ({ frames := 1, cells := 0, slots := 0, locals := 21 } : Room) (va_Pc [.ref (gC G 0), .long a1, .int a3] (PK G A (CW G S))) (va_Qi (fun (r2 : Int32) S2 => r2 = q.1 ∧ S2 = q.2) (fun S2 : St => PK G A (CW G S2)) A) 0 0 A := by
  refine mstart_i (Wd := CW G) (cc := cX9_type) (maxL := 5) (by decide) rfl (Nat.le_of_ble_eq_true rfl) (fun p e s m below meth c Qm ls hC hH hl fin => ?_)
  obtain ⟨hx, hb, hml, hown, hts⟩ := id hC.1
  have hl : lv_has ls 5 [(0, .ref (gC G 0)), (1, .long a1), (3, .int a3)] := hl
  have kL36 : ∀ (n : Nat), ∀ (S : St) (x4 : Int32) (H : Heap) (locs : List Loc) (ls : Array Slot), HW G A (CW G S) s H locs → lv_has ls 5 [(0, .ref (gC G 0)), (1, .long a1), (4, .int x4)] → g_X9_type_36 N a1 n S x4 = some q → W p l e ({ frames := 1, cells := 0, slots := 0, locals := 21 } : Room) s m [.ref (gC G 0), .long a1, .int a3].toArray below meth c H locs 0 0 Qm (F0 m 36 ls []) := by
    intro n
    induction n with
    | zero => intro S x4 H locs ls hH hl hf; exact absurd hf.symm (Option.some_ne_none q)
    | succ n ih =>
      intro S x4 H locs ls hH hl hf
      have hrec := ih
      have hf : s_X9_type_36 N a1 (g_X9_type_36 N a1 n) S x4 = some q := hf
      rw [s_X9_type_36] at hf
      refine lv_iload hx hb dX9_type_36 (lv_at hl 2 rfl) ?_
      refine lv_if_lt (tgt := 66) hx hb dX9_type_38 (by decide) (fun c5 => ?_) (fun c5 => ?_)
      · replace hf := it_t c5 hf
        refine lv_aload_n hx hb dX9_type_66 rfl (lv_at hl 0 rfl) ?_
        refine getO hC hH (0) rfl rfl in_X9_type_X9 1 (by decide) (index := 20) (List.mem_of_getElem? (i := 1) rfl) rfl dX9_type_67 ?_
        refine getN hC hH (1) rfl rfl in_X9_type_X8 1 (by decide) (index := 80) (List.mem_of_getElem? (i := 0) rfl) rfl dX9_type_70 ?_
        exact fin (gI S 1 1) S _ _ _ _ (congrArg Prod.fst (Option.some.inj hf)) (congrArg Prod.snd (Option.some.inj hf)) hH dX9_type_73
      · replace hf := it_f c5 hf
        refine lv_aload_n hx hb dX9_type_41 rfl (lv_at hl 0 rfl) ?_
        refine getO hC hH (0) rfl rfl in_X9_type_X9 1 (by decide) (index := 20) (List.mem_of_getElem? (i := 1) rfl) rfl dX9_type_42 ?_
        refine lv_lload_n hx hb dX9_type_45 rfl (lv_at hl 1 rfl) ?_
        refine lv_bipush (v := 8) hx hb dX9_type_46 (by decide) ?_
        refine lv_iload hx hb dX9_type_48 (lv_at hl 2 rfl) ?_
        refine lv_imul hx hb dX9_type_50 ?_
        refine lv_lushr hx hb dX9_type_51 rfl ?_
        refine lv_l2i hx hb dX9_type_52 rfl ?_
        refine lv_sipush (v := 255) hx hb dX9_type_53 (by decide) ?_
        refine lv_iand hx hb dX9_type_56 ?_
        obtain ⟨r6, hr6, hf⟩ := ob hf
        refine callV_v [.int ((((a1.toUInt64 >>> (((8 : Int32) * x4).toInt64.toUInt64 &&& 63)).toInt64).toInt32) &&& (255 : Int32))] [] hC hH (c_X8_append l G A S ((((a1.toUInt64 >>> (((8 : Int32) * x4).toInt64.toUInt64 &&& 63)).toInt64).toInt32) &&& (255 : Int32)) _ hr6) (cwV 1 hts gX9_type_X8_append rfl rfl rfl (by decide +kernel) ⟨Nat.le_of_ble_eq_true rfl, Nat.le_of_ble_eq_true rfl⟩) (recvW hC hH (c0 := 1) (ci := 8) rfl rfl) rfl hl.1 rfl (Nat.le_of_ble_eq_true rfl) dX9_type_57 (fun H locs hH => ?_)
        refine lv_iinc (v := x4 + (-1 : Int32)) (lv' := [(4, .int (x4 + (-1 : Int32))), (0, .ref (gC G 0)), (1, .long a1)]) hx hb dX9_type_60 hl (k := 2) rfl rfl (by decide) rfl (fun ls hl => ?_)
        refine lv_goto (tgt := 36) hx hb dX9_type_63 (by decide) ?_
        exact hrec r6 (x4 + (-1 : Int32)) _ _ _ hH (lv_sub hl [1, 2, 0] rfl) hf
  have hf := hf
  rw [f_X9_type] at hf
  refine lv_iload_n hx hb dX9_type_0 rfl (lv_at hl 2 rfl) ?_
  refine lv_iconst (v := 1) hx hb dX9_type_1 (by decide) ?_
  refine lv_icmp_lt (tgt := 11) hx hb dX9_type_2 (by decide) (fun c1 => ?_) (fun c1 => ?_)
  · replace hf := it_t c1 hf
    refine lv_iconst (v := -1) hx hb dX9_type_11 (by decide) ?_
    exact fin (-1 : Int32) S _ _ _ _ (congrArg Prod.fst (Option.some.inj hf)) (congrArg Prod.snd (Option.some.inj hf)) hH dX9_type_12
  · replace hf := it_f c1 hf
    refine lv_iload_n hx hb dX9_type_5 rfl (lv_at hl 2 rfl) ?_
    refine lv_bipush (v := 8) hx hb dX9_type_6 (by decide) ?_
    refine lv_icmp_le (tgt := 13) hx hb dX9_type_8 (by decide) (fun c2 => ?_) (fun c2 => ?_)
    · replace hf := it_t c2 hf
      refine lv_aload_n hx hb dX9_type_13 rfl (lv_at hl 0 rfl) ?_
      refine getO hC hH (0) rfl rfl in_X9_type_X9 1 (by decide) (index := 20) (List.mem_of_getElem? (i := 1) rfl) rfl dX9_type_14 ?_
      refine getN hC hH (1) rfl rfl in_X9_type_X8 1 (by decide) (index := 80) (List.mem_of_getElem? (i := 0) rfl) rfl dX9_type_17 ?_
      refine lv_sipush (v := 300) hx hb dX9_type_20 (by decide) ?_
      refine lv_iload_n hx hb dX9_type_23 rfl (lv_at hl 2 rfl) ?_
      refine lv_isub hx hb dX9_type_24 ?_
      refine lv_icmp_le (tgt := 31) hx hb dX9_type_25 (by decide) (fun c3 => ?_) (fun c3 => ?_)
      · replace hf := it_t c3 hf
        refine lv_iload_n hx hb dX9_type_31 rfl (lv_at hl 2 rfl) ?_
        refine lv_iconst (v := 1) hx hb dX9_type_32 (by decide) ?_
        refine lv_isub hx hb dX9_type_33 ?_
        refine lv_topi (fun b4 eb4 => ?_)
        replace hf := bn eb4 hf
        refine lv_istore (lv' := [(4, .int b4), (0, .ref (gC G 0)), (1, .long a1), (3, .int a3)]) hx hb dX9_type_34 hl (by decide) rfl (fun ls hl => ?_)
        refine kL36 N S b4 _ _ _ hH (lv_sub hl [1, 2, 0] rfl) hf
      · replace hf := it_f c3 hf
        refine lv_bipush (v := -3) hx hb dX9_type_28 (by decide) ?_
        exact fin (-3 : Int32) S _ _ _ _ (congrArg Prod.fst (Option.some.inj hf)) (congrArg Prod.snd (Option.some.inj hf)) hH dX9_type_30
    · replace hf := it_f c2 hf
      refine lv_iconst (v := -1) hx hb dX9_type_11 (by decide) ?_
      exact fin (-1 : Int32) S _ _ _ _ (congrArg Prod.fst (Option.some.inj hf)) (congrArg Prod.snd (Option.some.inj hf)) hH dX9_type_12
theorem in_X9_clear_X8 : ∀ w ∈ wsX80, w ∈ wsX9_clear := fun w h => List.mem_cons_of_mem _ (List.mem_append_right _ h)
theorem in_X9_clear_X9 : ∀ w ∈ wsX90, w ∈ wsX9_clear := fun w h => List.mem_cons_of_mem _ (List.mem_append_left _ (List.mem_append_right _ h))
set_option maxRecDepth 100000 in
set_option maxHeartbeats 4000000 in
theorem c_X9_clear (l : Launch) (G : Gt) (A : Nat → Prop) (S : St)   (q : Int32 × St) (hf : f_X9_clear S = some q) : Met l yX9_clear wsX9_clear ({ frames := 0, cells := 0, slots := 0, locals := 0 } : Room) (va_Pc [.ref (gC G 0)] (PK G A (CW G S))) (va_Qi (fun (r2 : Int32) S2 => r2 = q.1 ∧ S2 = q.2) (fun S2 : St => PK G A (CW G S2)) A) 0 0 A := by
  refine mstart_i (Wd := CW G) (cc := cX9_clear) (maxL := 2) (by decide) rfl (Nat.le_of_ble_eq_true rfl) (fun p e s m below meth c Qm ls hC hH hl fin => ?_)
  obtain ⟨hx, hb, hml, hown, hts⟩ := id hC.1
  have hl : lv_has ls 2 [(0, .ref (gC G 0))] := hl
  have hf := hf
  rw [f_X9_clear] at hf
  refine lv_aload_n hx hb dX9_clear_0 rfl (lv_at hl 0 rfl) ?_
  refine getO hC hH (0) rfl rfl in_X9_clear_X9 1 (by decide) (index := 20) (List.mem_of_getElem? (i := 1) rfl) rfl dX9_clear_1 ?_
  refine getN hC hH (1) rfl rfl in_X9_clear_X8 1 (by decide) (index := 80) (List.mem_of_getElem? (i := 0) rfl) rfl dX9_clear_4 ?_
  refine lv_topi (fun b1 eb1 => ?_)
  replace hf := bn eb1 hf
  refine lv_istore_n (lv' := [(1, .int b1), (0, .ref (gC G 0))]) hx hb dX9_clear_7 rfl hl (by decide) rfl (fun ls hl => ?_)
  refine lv_aload_n hx hb dX9_clear_8 rfl (lv_at hl 1 rfl) ?_
  refine getO hC hH (0) rfl rfl in_X9_clear_X9 1 (by decide) (index := 20) (List.mem_of_getElem? (i := 1) rfl) rfl dX9_clear_9 ?_
  refine lv_iconst (v := 0) hx hb dX9_clear_12 (by decide) ?_
  refine putN hC hH (1) rfl rfl in_X9_clear_X8 tyX8 tyX8_ok nmX8 1 (by decide) (index := 80) (List.mem_of_getElem? (i := 0) rfl) rfl rfl rfl (Nat.le_of_ble_eq_true rfl) cs_1_1 dX9_clear_13 (fun H locs hH => ?_)
  obtain ⟨S2, eS2⟩ : ∃ Z : St, Z = sI S 1 1 (0 : Int32) := ⟨_, rfl⟩
  rw [← eS2] at hH
  replace hf := bn eS2 hf
  refine lv_iload_n hx hb dX9_clear_16 rfl (lv_at hl 0 rfl) ?_
  exact fin b1 S2 _ _ _ _ (congrArg Prod.fst (Option.some.inj hf)) (congrArg Prod.snd (Option.some.inj hf)) hH dX9_clear_17
theorem in_X9_lane_X0 : ∀ w ∈ wsX00, w ∈ wsX9_lane := fun w h => List.mem_cons_of_mem _ (List.mem_append_left _ (List.mem_append_left _ (List.mem_append_left _ (List.mem_append_left _ (List.mem_append_left _ (List.mem_append_right _ h))))))
theorem in_X9_lane_X2 : ∀ w ∈ wsX20, w ∈ wsX9_lane := fun w h => List.mem_cons_of_mem _ (List.mem_append_left _ (List.mem_append_left _ (List.mem_append_left _ (List.mem_append_right _ h))))
theorem in_X9_lane_X3 : ∀ w ∈ wsX30, w ∈ wsX9_lane := fun w h => List.mem_cons_of_mem _ (List.mem_append_left _ (List.mem_append_right _ h))
theorem in_X9_lane_X5 : ∀ w ∈ wsX50, w ∈ wsX9_lane := fun w h => List.mem_cons_of_mem _ (List.mem_append_left _ (List.mem_append_left _ (List.mem_append_left _ (List.mem_append_left _ (List.mem_append_right _ h)))))
theorem in_X9_lane_X6 : ∀ w ∈ wsX60, w ∈ wsX9_lane := fun w h => List.mem_cons_of_mem _ (List.mem_append_left _ (List.mem_append_left _ (List.mem_append_right _ h)))
theorem in_X9_lane_X7 : ∀ w ∈ wsX70, w ∈ wsX9_lane := fun w h => List.mem_cons_of_mem _ (List.mem_append_right _ h)
theorem in_X9_lane_X8 : ∀ w ∈ wsX80, w ∈ wsX9_lane := fun w h => List.mem_cons_of_mem _ (List.mem_append_left _ (List.mem_append_left _ (List.mem_append_left _ (List.mem_append_left _ (List.mem_append_left _ (List.mem_append_left _ (List.mem_append_right _ h)))))))
theorem in_X9_lane_X9 : ∀ w ∈ wsX90, w ∈ wsX9_lane := fun w h => List.mem_cons_of_mem _ (List.mem_append_left _ (List.mem_append_left _ (List.mem_append_left _ (List.mem_append_left _ (List.mem_append_left _ (List.mem_append_left _ (List.mem_append_left _ (List.mem_append_right _ h))))))))
set_option maxRecDepth 100000 in
set_option maxHeartbeats 4000000 in
theorem c_X9_lane (l : Launch) (G : Gt) (A : Nat → Prop) (N : Nat) (S : St)   (q : Int32 × St) (hf : f_X9_lane N S = some q) : Met l yX9_lane wsX9_lane ({ frames := 11, cells := 0, slots := 0, locals := 241 } : Room) (va_Pc [.ref (gC G 0)] (PK G A (CW G S))) (va_Qi (fun (r2 : Int32) S2 => r2 = q.1 ∧ S2 = q.2) (fun S2 : St => PK G A (CW G S2)) A) 0 0 A := by
  refine mstart_i (Wd := CW G) (cc := cX9_lane) (maxL := 3) (by decide) rfl (Nat.le_of_ble_eq_true rfl) (fun p e s m below meth c Qm ls hC hH hl fin => ?_)
  obtain ⟨hx, hb, hml, hown, hts⟩ := id hC.1
  have hl : lv_has ls 3 [(0, .ref (gC G 0))] := hl
  have hf := hf
  rw [f_X9_lane] at hf
  refine lv_aload_n hx hb dX9_lane_0 rfl (lv_at hl 0 rfl) ?_
  refine getO hC hH (0) rfl rfl in_X9_lane_X9 0 (by decide) (index := 10) (List.mem_of_getElem? (i := 1) rfl) rfl dX9_lane_1 ?_
  refine lv_aload_n hx hb dX9_lane_4 rfl (lv_at hl 0 rfl) ?_
  refine getO hC hH (0) rfl rfl in_X9_lane_X9 10 (by decide) (index := 73) (List.mem_of_getElem? (i := 2) rfl) rfl dX9_lane_5 ?_
  obtain ⟨r1, hr1, hf⟩ := ob hf
  refine callV_i [.ref (gC G (33 + 5 * (gSp S).toNat))] [] hC hH (c_X6_readInto l G A N S ((gSp S).toNat) (Bool.toNat_lt _) _ hr1) (cwV 1 hts gX9_lane_X6_readInto rfl rfl rfl (by decide +kernel) ⟨Nat.le_of_ble_eq_true rfl, Nat.le_of_ble_eq_true rfl⟩) (recvW hC hH (c0 := 3) (ci := 6) rfl rfl) rfl hl.1 rfl (Nat.le_of_ble_eq_true rfl) dX9_lane_8 (fun H locs hH => ?_)
  refine lv_istore_n (lv' := [(1, .int r1.1), (0, .ref (gC G 0))]) hx hb dX9_lane_11 rfl hl (by decide) rfl (fun ls hl => ?_)
  refine lv_iload_n hx hb dX9_lane_12 rfl (lv_at hl 0 rfl) ?_
  refine lv_iconst (v := -1) hx hb dX9_lane_13 (by decide) ?_
  refine lv_icmp_ne (tgt := 28) hx hb dX9_lane_14 (by decide) (fun c2 => ?_) (fun c2 => ?_)
  · replace hf := it_f c2 hf
    refine lv_aload_n hx hb dX9_lane_28 rfl (lv_at hl 1 rfl) ?_
    refine getO hC hH (0) rfl rfl in_X9_lane_X9 9 (by decide) (index := 69) (List.mem_of_getElem? (i := 3) rfl) rfl dX9_lane_29 ?_
    refine lv_astore_n (lv' := [(2, .ref (gC G (33 + 5 * (gCo r1.2).toNat))), (1, .int r1.1), (0, .ref (gC G 0))]) hx hb dX9_lane_32 rfl hl (by decide) rfl (fun ls hl => ?_)
    refine lv_aload_n hx hb dX9_lane_33 rfl (lv_at hl 2 rfl) ?_
    refine lv_aload_n hx hb dX9_lane_34 rfl (lv_at hl 2 rfl) ?_
    refine getO hC hH (0) rfl rfl in_X9_lane_X9 10 (by decide) (index := 73) (List.mem_of_getElem? (i := 2) rfl) rfl dX9_lane_35 ?_
    refine putO hC hH (0) rfl rfl in_X9_lane_X9 tyX9 tyX9_ok nmX9 9 (by decide) (index := 69) (List.mem_of_getElem? (i := 3) rfl) rfl rfl rfl (Nat.le_of_ble_eq_true rfl) cs_0_9 dX9_lane_38 (fun H locs hH => ?_)
    obtain ⟨S3, eS3⟩ : ∃ Z : St, Z = sCo r1.2 (gSp r1.2) := ⟨_, rfl⟩
    rw [← eS3] at hH
    replace hf := bn eS3 hf
    refine lv_aload_n hx hb dX9_lane_41 rfl (lv_at hl 2 rfl) ?_
    refine lv_aload_n hx hb dX9_lane_42 rfl (lv_at hl 0 rfl) ?_
    refine putO hC hH (0) rfl rfl in_X9_lane_X9 tyX9 tyX9_ok nmX9 10 (by decide) (index := 73) (List.mem_of_getElem? (i := 2) rfl) rfl rfl rfl (Nat.le_of_ble_eq_true rfl) cs_0_10 dX9_lane_43 (fun H locs hH => ?_)
    obtain ⟨S4, eS4⟩ : ∃ Z : St, Z = sSp S3 (gCo r1.2) := ⟨_, rfl⟩
    rw [← eS4] at hH
    replace hf := bn eS4 hf
    refine lv_aload_n hx hb dX9_lane_46 rfl (lv_at hl 2 rfl) ?_
    refine getO hC hH (0) rfl rfl in_X9_lane_X9 1 (by decide) (index := 20) (List.mem_of_getElem? (i := 4) rfl) rfl dX9_lane_47 ?_
    refine lv_iconst (v := 0) hx hb dX9_lane_50 (by decide) ?_
    refine putN hC hH (1) rfl rfl in_X9_lane_X8 tyX8 tyX8_ok nmX8 1 (by decide) (index := 80) (List.mem_of_getElem? (i := 0) rfl) rfl rfl rfl (Nat.le_of_ble_eq_true rfl) cs_1_1 dX9_lane_51 (fun H locs hH => ?_)
    obtain ⟨S5, eS5⟩ : ∃ Z : St, Z = sI S4 1 1 (0 : Int32) := ⟨_, rfl⟩
    rw [← eS5] at hH
    replace hf := bn eS5 hf
    refine lv_aload_n hx hb dX9_lane_54 rfl (lv_at hl 2 rfl) ?_
    refine getO hC hH (0) rfl rfl in_X9_lane_X9 2 (by decide) (index := 24) (List.mem_of_getElem? (i := 5) rfl) rfl dX9_lane_55 ?_
    obtain ⟨r6, hr6, hf⟩ := ob hf
    refine callV_v [] [] hC hH (c_X7_begin l G A N S5 0 (by decide) _ hr6) (cwV 0 hts gX9_lane_X7_begin rfl rfl rfl (by decide +kernel) ⟨Nat.le_of_ble_eq_true rfl, Nat.le_of_ble_eq_true rfl⟩) (recvW hC hH (c0 := 4 + 5 * 0) (ci := 7) (cw_runs (i := 0) (by decide)) rfl) rfl hl.1 rfl (Nat.le_of_ble_eq_true rfl) dX9_lane_58 (fun H locs hH => ?_)
    refine lv_aload_n hx hb dX9_lane_61 rfl (lv_at hl 2 rfl) ?_
    refine getO hC hH (0) rfl rfl in_X9_lane_X9 5 (by decide) (index := 41) (List.mem_of_getElem? (i := 6) rfl) rfl dX9_lane_62 ?_
    refine lv_iconst (v := 0) hx hb dX9_lane_65 (by decide) ?_
    refine putN hC hH (18) rfl rfl in_X9_lane_X0 tyX0 tyX0_ok nmX0 4 (by decide) (index := 101) (List.mem_of_getElem? (i := 6) rfl) rfl rfl rfl (Nat.le_of_ble_eq_true rfl) cs_18_4 dX9_lane_66 (fun H locs hH => ?_)
    obtain ⟨S7, eS7⟩ : ∃ Z : St, Z = sI r6 18 4 (0 : Int32) := ⟨_, rfl⟩
    rw [← eS7] at hH
    replace hf := bn eS7 hf
    refine lv_aload_n hx hb dX9_lane_69 rfl (lv_at hl 2 rfl) ?_
    refine getO hC hH (0) rfl rfl in_X9_lane_X9 6 (by decide) (index := 48) (List.mem_of_getElem? (i := 7) rfl) rfl dX9_lane_70 ?_
    refine lv_iconst (v := 0) hx hb dX9_lane_73 (by decide) ?_
    refine putN hC hH (23) rfl rfl in_X9_lane_X5 tyX5 tyX5_ok nmX5 2 (by decide) (index := 104) (List.mem_of_getElem? (i := 7) rfl) rfl rfl rfl (Nat.le_of_ble_eq_true rfl) cs_23_2 dX9_lane_74 (fun H locs hH => ?_)
    obtain ⟨S8, eS8⟩ : ∃ Z : St, Z = sI S7 23 2 (0 : Int32) := ⟨_, rfl⟩
    rw [← eS8] at hH
    replace hf := bn eS8 hf
    refine lv_aload_n hx hb dX9_lane_77 rfl (lv_at hl 2 rfl) ?_
    refine getO hC hH (0) rfl rfl in_X9_lane_X9 3 (by decide) (index := 31) (List.mem_of_getElem? (i := 8) rfl) rfl dX9_lane_78 ?_
    refine lv_iconst (v := 0) hx hb dX9_lane_81 (by decide) ?_
    refine putN hC hH (8 + 5 * 0) (cw_imag (i := 0) (by decide)) rfl in_X9_lane_X2 tyX2 tyX2_ok nmX2 1 (by decide) (index := 105) (List.mem_of_getElem? (i := 5) rfl) rfl rfl rfl (Nat.le_of_ble_eq_true rfl) (cs_imag_1 (i := 0) (by decide)) dX9_lane_82 (fun H locs hH => ?_)
    obtain ⟨S9, eS9⟩ : ∃ Z : St, Z = sI S8 (8 + 5 * 0) 1 (0 : Int32) := ⟨_, rfl⟩
    rw [← eS9] at hH
    replace hf := bn eS9 hf
    refine lv_aload_n hx hb dX9_lane_85 rfl (lv_at hl 2 rfl) ?_
    refine getO hC hH (0) rfl rfl in_X9_lane_X9 4 (by decide) (index := 35) (List.mem_of_getElem? (i := 9) rfl) rfl dX9_lane_86 ?_
    refine lv_iconst (v := 0) hx hb dX9_lane_89 (by decide) ?_
    refine putN hC hH (8 + 5 * 1) (cw_imag (i := 1) (by decide)) rfl in_X9_lane_X2 tyX2 tyX2_ok nmX2 1 (by decide) (index := 105) (List.mem_of_getElem? (i := 5) rfl) rfl rfl rfl (Nat.le_of_ble_eq_true rfl) (cs_imag_1 (i := 1) (by decide)) dX9_lane_90 (fun H locs hH => ?_)
    obtain ⟨S10, eS10⟩ : ∃ Z : St, Z = sI S9 (8 + 5 * 1) 1 (0 : Int32) := ⟨_, rfl⟩
    rw [← eS10] at hH
    replace hf := bn eS10 hf
    refine lv_iload_n hx hb dX9_lane_93 rfl (lv_at hl 1 rfl) ?_
    have hz : (r1.1, S10) = q := Option.some.inj hf
    have hz1 := congrArg Prod.fst hz
    have hz2 := congrArg Prod.snd hz
    exact fin r1.1 S10 _ _ _ _ hz1 hz2 hH dX9_lane_94
  · replace hf := it_t c2 hf
    refine lv_bipush (v := -10) hx hb dX9_lane_17 (by decide) ?_
    refine lv_aload_n hx hb dX9_lane_19 rfl (lv_at hl 1 rfl) ?_
    refine getO hC hH (0) rfl rfl in_X9_lane_X9 0 (by decide) (index := 10) (List.mem_of_getElem? (i := 1) rfl) rfl dX9_lane_20 ?_
    obtain ⟨r11, hr11, hf⟩ := ob hf
    refine callV_i [] [.int (-10 : Int32)] hC hH (c_X6_fault l G A r1.2 _ hr11) (cwV 0 hts gX9_lane_X6_fault rfl rfl rfl (by decide +kernel) ⟨Nat.le_of_ble_eq_true rfl, Nat.le_of_ble_eq_true rfl⟩) (recvW hC hH (c0 := 3) (ci := 6) rfl rfl) rfl hl.1 rfl (Nat.le_of_ble_eq_true rfl) dX9_lane_23 (fun H locs hH => ?_)
    refine lv_isub hx hb dX9_lane_26 ?_
    have hz : ((-10 : Int32) - r11, r1.2) = q := Option.some.inj hf
    have hz1 := congrArg Prod.fst hz
    have hz2 := congrArg Prod.snd hz
    exact fin ((-10 : Int32) - r11) r1.2 _ _ _ _ hz1 hz2 hH dX9_lane_27
theorem in_X9_yard_X3 : ∀ w ∈ wsX30, w ∈ wsX9_yard := fun w h => List.mem_cons_of_mem _ (List.mem_append_right _ h)
theorem in_X9_yard_X9 : ∀ w ∈ wsX90, w ∈ wsX9_yard := fun w h => List.mem_cons_of_mem _ (List.mem_append_left _ (List.mem_append_right _ h))
set_option maxRecDepth 100000 in
set_option maxHeartbeats 4000000 in
theorem c_X9_yard (l : Launch) (G : Gt) (A : Nat → Prop) (S : St)  (a1 : Int32) (a2 : Int32) (q : Int32) (hf : f_X9_yard S a1 a2 = some q) : Met l yX9_yard wsX9_yard ({ frames := 2, cells := 0, slots := 0, locals := 42 } : Room) (va_Pc [.ref (gC G 0), .int a1, .int a2] (PK G A (CW G S))) (va_Qi (fun (r2 : Int32) S2 => r2 = q ∧ S2 = S) (fun S2 : St => PK G A (CW G S2)) A) 0 0 A := by
  refine mstart_i (Wd := CW G) (cc := cX9_yard) (maxL := 3) (by decide) rfl (Nat.le_of_ble_eq_true rfl) (fun p e s m below meth c Qm ls hC hH hl fin => ?_)
  obtain ⟨hx, hb, hml, hown, hts⟩ := id hC.1
  have hl : lv_has ls 3 [(0, .ref (gC G 0)), (1, .int a1), (2, .int a2)] := hl
  have hf := hf
  rw [f_X9_yard] at hf
  refine lv_aload_n hx hb dX9_yard_0 rfl (lv_at hl 0 rfl) ?_
  refine getO hC hH (0) rfl rfl in_X9_yard_X9 9 (by decide) (index := 69) (List.mem_of_getElem? (i := 1) rfl) rfl dX9_yard_1 ?_
  refine lv_iload_n hx hb dX9_yard_4 rfl (lv_at hl 1 rfl) ?_
  obtain ⟨r1, hr1, hf⟩ := ob hf
  refine callV_i [.int a1] [] hC hH (c_X3_isYard l G A S ((gCo S).toNat) (Bool.toNat_lt _) a1 _ hr1) (cwV 1 hts gX9_yard_X3_isYard rfl rfl rfl (by decide +kernel) ⟨Nat.le_of_ble_eq_true rfl, Nat.le_of_ble_eq_true rfl⟩) (recvW hC hH (c0 := 33 + 5 * (gCo S).toNat) (ci := 3) (cw_lane (i := (gCo S).toNat) (Bool.toNat_lt _)) rfl) rfl hl.1 rfl (Nat.le_of_ble_eq_true rfl) dX9_yard_5 (fun H locs hH => ?_)
  refine lv_if_eq (tgt := 20) hx hb dX9_yard_8 (by decide) (fun c2 => ?_) (fun c2 => ?_)
  · replace hf := it_t c2 hf
    refine lv_iconst (v := -1) hx hb dX9_yard_20 (by decide) ?_
    exact fin (-1 : Int32) S _ _ _ _ (Option.some.inj hf) rfl hH dX9_yard_21
  · replace hf := it_f c2 hf
    refine lv_iload_n hx hb dX9_yard_11 rfl (lv_at hl 2 rfl) ?_
    refine lv_if_lt (tgt := 20) hx hb dX9_yard_12 (by decide) (fun c3 => ?_) (fun c3 => ?_)
    · replace hf := it_t c3 hf
      refine lv_iconst (v := -1) hx hb dX9_yard_20 (by decide) ?_
      exact fin (-1 : Int32) S _ _ _ _ (Option.some.inj hf) rfl hH dX9_yard_21
    · replace hf := it_f c3 hf
      refine lv_iload_n hx hb dX9_yard_15 rfl (lv_at hl 2 rfl) ?_
      refine lv_iconst (v := 1) hx hb dX9_yard_16 (by decide) ?_
      refine lv_icmp_le (tgt := 22) hx hb dX9_yard_17 (by decide) (fun c4 => ?_) (fun c4 => ?_)
      · replace hf := it_t c4 hf
        refine lv_iload_n hx hb dX9_yard_22 rfl (lv_at hl 2 rfl) ?_
        refine lv_if_ne (tgt := 37) hx hb dX9_yard_23 (by decide) (fun c5 => ?_) (fun c5 => ?_)
        · replace hf := it_f c5 hf
          refine lv_aload_n hx hb dX9_yard_37 rfl (lv_at hl 0 rfl) ?_
          refine getO hC hH (0) rfl rfl in_X9_yard_X9 9 (by decide) (index := 69) (List.mem_of_getElem? (i := 1) rfl) rfl dX9_yard_38 ?_
          refine lv_iload_n hx hb dX9_yard_41 rfl (lv_at hl 1 rfl) ?_
          obtain ⟨r6, hr6, hf⟩ := ob hf
          refine callV_i [.int a1] [] hC hH (c_X3_isWet l G A S ((gCo S).toNat) (Bool.toNat_lt _) a1 _ hr6) (cwV 1 hts gX9_yard_X3_isWet rfl rfl rfl (by decide +kernel) ⟨Nat.le_of_ble_eq_true rfl, Nat.le_of_ble_eq_true rfl⟩) (recvW hC hH (c0 := 33 + 5 * (gCo S).toNat) (ci := 3) (cw_lane (i := (gCo S).toNat) (Bool.toNat_lt _)) rfl) rfl hl.1 rfl (Nat.le_of_ble_eq_true rfl) dX9_yard_42 (fun H locs hH => ?_)
          refine lv_if_eq (tgt := 52) hx hb dX9_yard_45 (by decide) (fun c7 => ?_) (fun c7 => ?_)
          · replace hf := it_t c7 hf
            refine lv_iconst (v := 0) hx hb dX9_yard_52 (by decide) ?_
            exact fin (0 : Int32) S _ _ _ _ (Option.some.inj hf) rfl hH dX9_yard_53
          · replace hf := it_f c7 hf
            refine lv_iconst (v := 1) hx hb dX9_yard_48 (by decide) ?_
            refine lv_goto (tgt := 53) hx hb dX9_yard_49 (by decide) ?_
            exact fin (1 : Int32) S _ _ _ _ (Option.some.inj hf) rfl hH dX9_yard_53
        · replace hf := it_t c5 hf
          refine lv_aload_n hx hb dX9_yard_26 rfl (lv_at hl 0 rfl) ?_
          refine getO hC hH (0) rfl rfl in_X9_yard_X9 9 (by decide) (index := 69) (List.mem_of_getElem? (i := 1) rfl) rfl dX9_yard_27 ?_
          refine lv_iload_n hx hb dX9_yard_30 rfl (lv_at hl 1 rfl) ?_
          obtain ⟨r8, hr8, hf⟩ := ob hf
          refine callV_i [.int a1] [] hC hH (c_X3_windAt l G A S ((gCo S).toNat) (Bool.toNat_lt _) a1 _ hr8) (cwV 1 hts gX9_yard_X3_windAt rfl rfl rfl (by decide +kernel) ⟨Nat.le_of_ble_eq_true rfl, Nat.le_of_ble_eq_true rfl⟩) (recvW hC hH (c0 := 33 + 5 * (gCo S).toNat) (ci := 3) (cw_lane (i := (gCo S).toNat) (Bool.toNat_lt _)) rfl) rfl hl.1 rfl (Nat.le_of_ble_eq_true rfl) dX9_yard_31 (fun H locs hH => ?_)
          refine lv_goto (tgt := 53) hx hb dX9_yard_34 (by decide) ?_
          exact fin r8 S _ _ _ _ (Option.some.inj hf) rfl hH dX9_yard_53
      · replace hf := it_f c4 hf
        refine lv_iconst (v := -1) hx hb dX9_yard_20 (by decide) ?_
        exact fin (-1 : Int32) S _ _ _ _ (Option.some.inj hf) rfl hH dX9_yard_21
theorem in_X9_told_X3 : ∀ w ∈ wsX30, w ∈ wsX9_told := fun w h => List.mem_cons_of_mem _ (List.mem_append_right _ h)
theorem in_X9_told_X9 : ∀ w ∈ wsX90, w ∈ wsX9_told := fun w h => List.mem_cons_of_mem _ (List.mem_append_left _ (List.mem_append_right _ h))
set_option maxRecDepth 100000 in
set_option maxHeartbeats 4000000 in
theorem c_X9_told (l : Launch) (G : Gt) (A : Nat → Prop) (S : St)  (a1 : Int32) (q : Int32) (hf : f_X9_told S a1 = some q) : Met l yX9_told wsX9_told ({ frames := 0, cells := 0, slots := 0, locals := 0 } : Room) (va_Pc [.ref (gC G 0), .int a1] (PK G A (CW G S))) (va_Qi (fun (r2 : Int32) S2 => r2 = q ∧ S2 = S) (fun S2 : St => PK G A (CW G S2)) A) 0 0 A := by
  refine mstart_i (Wd := CW G) (cc := cX9_told) (maxL := 2) (by decide) rfl (Nat.le_of_ble_eq_true rfl) (fun p e s m below meth c Qm ls hC hH hl fin => ?_)
  obtain ⟨hx, hb, hml, hown, hts⟩ := id hC.1
  have hl : lv_has ls 2 [(0, .ref (gC G 0)), (1, .int a1)] := hl
  have hf := hf
  rw [f_X9_told] at hf
  refine lv_iload_n hx hb dX9_told_0 rfl (lv_at hl 1 rfl) ?_
  by_cases c1 : a1 = (0 : Int32)
  · replace hf := it_t c1 hf
    refine lv_tableIn (tgt := 32) hx hb dX9_told_1 (by rw [c1]; decide) (by rw [c1]; decide) (by rw [c1]; rfl) (by decide) ?_
    refine lv_aload_n hx hb dX9_told_32 rfl (lv_at hl 0 rfl) ?_
    refine getO hC hH (0) rfl rfl in_X9_told_X9 9 (by decide) (index := 69) (List.mem_of_getElem? (i := 1) rfl) rfl dX9_told_33 ?_
    refine getN hC hH (33 + 5 * (gCo S).toNat) (cw_lane (i := (gCo S).toNat) (Bool.toNat_lt _)) rfl in_X9_told_X3 4 (by decide) (index := 120) (List.mem_of_getElem? (i := 12) rfl) rfl dX9_told_36 ?_
    exact fin (gI S (33 + 5 * (gCo S).toNat) 4) S _ _ _ _ (Option.some.inj hf) rfl hH dX9_told_39
  replace hf := it_f c1 hf
  by_cases c2 : a1 = (1 : Int32)
  · replace hf := it_t c2 hf
    refine lv_tableIn (tgt := 40) hx hb dX9_told_1 (by rw [c2]; decide) (by rw [c2]; decide) (by rw [c2]; rfl) (by decide) ?_
    refine lv_aload_n hx hb dX9_told_40 rfl (lv_at hl 0 rfl) ?_
    refine getO hC hH (0) rfl rfl in_X9_told_X9 9 (by decide) (index := 69) (List.mem_of_getElem? (i := 1) rfl) rfl dX9_told_41 ?_
    refine getN hC hH (33 + 5 * (gCo S).toNat) (cw_lane (i := (gCo S).toNat) (Bool.toNat_lt _)) rfl in_X9_told_X3 6 (by decide) (index := 123) (List.mem_of_getElem? (i := 17) rfl) rfl dX9_told_44 ?_
    exact fin (gI S (33 + 5 * (gCo S).toNat) 6) S _ _ _ _ (Option.some.inj hf) rfl hH dX9_told_47
  replace hf := it_f c2 hf
  by_cases c3 : a1 = (2 : Int32)
  · replace hf := it_t c3 hf
    refine lv_tableIn (tgt := 48) hx hb dX9_told_1 (by rw [c3]; decide) (by rw [c3]; decide) (by rw [c3]; rfl) (by decide) ?_
    refine lv_aload_n hx hb dX9_told_48 rfl (lv_at hl 0 rfl) ?_
    refine getO hC hH (0) rfl rfl in_X9_told_X9 9 (by decide) (index := 69) (List.mem_of_getElem? (i := 1) rfl) rfl dX9_told_49 ?_
    refine getN hC hH (33 + 5 * (gCo S).toNat) (cw_lane (i := (gCo S).toNat) (Bool.toNat_lt _)) rfl in_X9_told_X3 7 (by decide) (index := 126) (List.mem_of_getElem? (i := 20) rfl) rfl dX9_told_52 ?_
    exact fin (gI S (33 + 5 * (gCo S).toNat) 7) S _ _ _ _ (Option.some.inj hf) rfl hH dX9_told_55
  replace hf := it_f c3 hf
  by_cases c4 : a1 = (3 : Int32)
  · replace hf := it_t c4 hf
    refine lv_tableIn (tgt := 56) hx hb dX9_told_1 (by rw [c4]; decide) (by rw [c4]; decide) (by rw [c4]; rfl) (by decide) ?_
    refine lv_aload_n hx hb dX9_told_56 rfl (lv_at hl 0 rfl) ?_
    refine getO hC hH (0) rfl rfl in_X9_told_X9 9 (by decide) (index := 69) (List.mem_of_getElem? (i := 1) rfl) rfl dX9_told_57 ?_
    refine getN hC hH (33 + 5 * (gCo S).toNat) (cw_lane (i := (gCo S).toNat) (Bool.toNat_lt _)) rfl in_X9_told_X3 8 (by decide) (index := 129) (List.mem_of_getElem? (i := 22) rfl) rfl dX9_told_60 ?_
    exact fin (gI S (33 + 5 * (gCo S).toNat) 8) S _ _ _ _ (Option.some.inj hf) rfl hH dX9_told_63
  replace hf := it_f c4 hf
  refine lv_tableOut (tgt := 64) hx hb dX9_told_1 (by have z0 := lv_neT (a := 0) c1 (by decide); have z1 := lv_neT (a := 1) c2 (by decide); have z2 := lv_neT (a := 2) c3 (by decide); have z3 := lv_neT (a := 3) c4 (by decide); omega) (by decide) ?_
  refine lv_iconst (v := -1) hx hb dX9_told_64 (by decide) ?_
  exact fin (-1 : Int32) S _ _ _ _ (Option.some.inj hf) rfl hH dX9_told_65
