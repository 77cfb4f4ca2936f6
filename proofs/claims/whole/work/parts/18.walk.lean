/-! walks: X10_byteAt X10_add X10_named X10_wordOf X10_advances X10_isWell X10_takes X10_number X10_mayBegin -/
theorem in_X10_byteAt_X10 : ∀ w ∈ wsX100, w ∈ wsX10_byteAt := fun w h => List.mem_cons_of_mem _ (List.mem_append_right _ h)
set_option maxRecDepth 100000 in
set_option maxHeartbeats 4000000 in
theorem c_X10_byteAt (l : Launch) (G : Gt) (A : Nat → Prop) (S : St)  (a1 : Int32) (q : Int32) (hf : f_X10_byteAt S a1 = some q) : Met l yX10_byteAt wsX10_byteAt ({ frames := 0, cells := 0, slots := 0, locals := 0 } : Room) (va_Pc [.ref (gM G 0), .int a1] (PK G A (MW G S))) (va_Qi (fun (r2 : Int32) S2 => r2 = q ∧ S2 = S) (fun S2 : St => PK G A (MW G S2)) A) 0 0 A := by
  refine mstart_i (Wd := MW G) (cc := cX10_byteAt) (maxL := 2) (by decide) rfl (Nat.le_of_ble_eq_true rfl) (fun p e s m below meth c Qm ls hC hH hl fin => ?_)
  obtain ⟨hx, hb, hml, hown, hts⟩ := id hC.1
  have hl : lv_has ls 2 [(0, .ref (gM G 0)), (1, .int a1)] := hl
  have hf := hf
  rw [f_X10_byteAt] at hf
  refine lv_iload_n hx hb dX10_byteAt_0 rfl (lv_at hl 1 rfl) ?_
  refine lv_aload_n hx hb dX10_byteAt_1 rfl (lv_at hl 0 rfl) ?_
  refine getO hC hH (0) rfl rfl in_X10_byteAt_X10 3 (by decide) (index := 65) (List.mem_of_getElem? (i := 1) rfl) rfl dX10_byteAt_2 ?_
  refine lv_icmp_ge (tgt := 17) hx hb dX10_byteAt_5 (by decide) (fun c1 => ?_) (fun c1 => ?_)
  · replace hf := it_t c1 hf
    refine lv_iconst (v := -1) hx hb dX10_byteAt_17 (by decide) ?_
    exact fin (-1 : Int32) S _ _ _ _ (Option.some.inj hf) rfl hH dX10_byteAt_18
  · replace hf := it_f c1 hf
    refine lv_aload_n hx hb dX10_byteAt_8 rfl (lv_at hl 0 rfl) ?_
    refine getO hC hH (0) rfl rfl in_X10_byteAt_X10 2 (by decide) (index := 7) (List.mem_of_getElem? (i := 2) rfl) rfl dX10_byteAt_9 ?_
    refine lv_iload_n hx hb dX10_byteAt_12 rfl (lv_at hl 1 rfl) ?_
    obtain ⟨g2, hf⟩ := gd hf
    refine aldI hC hH (1) rfl g2 dX10_byteAt_13 ?_
    refine lv_goto (tgt := 18) hx hb dX10_byteAt_14 (by decide) ?_
    exact fin (gA S 1 a1.toNatClampNeg) S _ _ _ _ (Option.some.inj hf) rfl hH dX10_byteAt_18
set_option maxRecDepth 100000 in
set_option maxHeartbeats 4000000 in
theorem c_X10_add (l : Launch) (G : Gt) (A : Nat → Prop) (S : St)  (a0 : Int64) (a2 : Int32) (q : Int64) (hf : f_X10_add a0 a2 = some q) : Met l yX10_add wsX10_add ({ frames := 0, cells := 0, slots := 0, locals := 0 } : Room) (va_Pc [.long a0, .int a2] (PK G A (MW G S))) (va_Ql (fun (r2 : Int64) S2 => r2 = q ∧ S2 = S) (fun S2 : St => PK G A (MW G S2)) A) 0 0 A := by
  refine mstart_l (Wd := MW G) (cc := cX10_add) (maxL := 3) (by decide) rfl (Nat.le_of_ble_eq_true rfl) (fun p e s m below meth c Qm ls hC hH hl fin => ?_)
  obtain ⟨hx, hb, hml, hown, hts⟩ := id hC.1
  have hl : lv_has ls 3 [(0, .long a0), (2, .int a2)] := hl
  have hf := hf
  rw [f_X10_add] at hf
  refine lv_iload_n hx hb dX10_add_0 rfl (lv_at hl 1 rfl) ?_
  refine lv_if_ne (tgt := 8) hx hb dX10_add_1 (by decide) (fun c1 => ?_) (fun c1 => ?_)
  · replace hf := it_f c1 hf
    refine lv_ldc2 (v := 256) hx hb hown (hts (.constantLong RX10 70 (256)) (List.mem_of_getElem? (i := 1) rfl)) dX10_add_8 ?_
    refine lv_lload_n hx hb dX10_add_11 rfl (lv_at hl 0 rfl) ?_
    refine lv_lmul hx hb dX10_add_12 ?_
    refine lv_iload_n hx hb dX10_add_13 rfl (lv_at hl 1 rfl) ?_
    refine lv_i2l hx hb dX10_add_14 rfl ?_
    refine lv_ladd hx hb dX10_add_15 ?_
    exact fin (((256 : Int64) * a0) + (a2.toInt64)) S _ _ _ _ (Option.some.inj hf) rfl hH dX10_add_16
  · replace hf := it_t c1 hf
    refine lv_lload_n hx hb dX10_add_4 rfl (lv_at hl 0 rfl) ?_
    refine lv_goto (tgt := 16) hx hb dX10_add_5 (by decide) ?_
    exact fin a0 S _ _ _ _ (Option.some.inj hf) rfl hH dX10_add_16
set_option maxRecDepth 100000 in
set_option maxHeartbeats 4000000 in
theorem c_X10_named (l : Launch) (G : Gt) (A : Nat → Prop) (S : St)  (a0 : Int32) (a1 : Int32) (a2 : Int32) (a3 : Int32) (a4 : Int32) (a5 : Int32) (q : Int64) (hf : f_X10_named a0 a1 a2 a3 a4 a5 = some q) : Met l yX10_named wsX10_named ({ frames := 1, cells := 0, slots := 0, locals := 22 } : Room) (va_Pc [.int a0, .int a1, .int a2, .int a3, .int a4, .int a5] (PK G A (MW G S))) (va_Ql (fun (r2 : Int64) S2 => r2 = q ∧ S2 = S) (fun S2 : St => PK G A (MW G S2)) A) 0 0 A := by
  refine mstart_l (Wd := MW G) (cc := cX10_named) (maxL := 6) (by decide) rfl (Nat.le_of_ble_eq_true rfl) (fun p e s m below meth c Qm ls hC hH hl fin => ?_)
  obtain ⟨hx, hb, hml, hown, hts⟩ := id hC.1
  have hl : lv_has ls 6 [(0, .int a0), (1, .int a1), (2, .int a2), (3, .int a3), (4, .int a4), (5, .int a5)] := hl
  have hf := hf
  rw [f_X10_named] at hf
  refine lv_lconst (v := 0) hx hb dX10_named_0 (by decide) ?_
  refine lv_iload_n hx hb dX10_named_1 rfl (lv_at hl 0 rfl) ?_
  obtain ⟨r1, hr1, hf⟩ := ob hf
  refine callS_l [.long (0 : Int64), .int a0] [] hC hH (c_X10_add l G A S (0 : Int64) a0 _ hr1) (va_cwS 2 hts gX10_named_X10_add rfl rfl rfl (by decide +kernel) ⟨Nat.le_of_ble_eq_true rfl, Nat.le_of_ble_eq_true rfl⟩) rfl hl.1 rfl (Nat.le_of_ble_eq_true rfl) dX10_named_2 (fun H locs hH => ?_)
  refine lv_iload_n hx hb dX10_named_5 rfl (lv_at hl 1 rfl) ?_
  obtain ⟨r2, hr2, hf⟩ := ob hf
  refine callS_l [.long r1, .int a1] [] hC hH (c_X10_add l G A S r1 a1 _ hr2) (va_cwS 2 hts gX10_named_X10_add rfl rfl rfl (by decide +kernel) ⟨Nat.le_of_ble_eq_true rfl, Nat.le_of_ble_eq_true rfl⟩) rfl hl.1 rfl (Nat.le_of_ble_eq_true rfl) dX10_named_6 (fun H locs hH => ?_)
  refine lv_iload_n hx hb dX10_named_9 rfl (lv_at hl 2 rfl) ?_
  obtain ⟨r3, hr3, hf⟩ := ob hf
  refine callS_l [.long r2, .int a2] [] hC hH (c_X10_add l G A S r2 a2 _ hr3) (va_cwS 2 hts gX10_named_X10_add rfl rfl rfl (by decide +kernel) ⟨Nat.le_of_ble_eq_true rfl, Nat.le_of_ble_eq_true rfl⟩) rfl hl.1 rfl (Nat.le_of_ble_eq_true rfl) dX10_named_10 (fun H locs hH => ?_)
  refine lv_iload_n hx hb dX10_named_13 rfl (lv_at hl 3 rfl) ?_
  obtain ⟨r4, hr4, hf⟩ := ob hf
  refine callS_l [.long r3, .int a3] [] hC hH (c_X10_add l G A S r3 a3 _ hr4) (va_cwS 2 hts gX10_named_X10_add rfl rfl rfl (by decide +kernel) ⟨Nat.le_of_ble_eq_true rfl, Nat.le_of_ble_eq_true rfl⟩) rfl hl.1 rfl (Nat.le_of_ble_eq_true rfl) dX10_named_14 (fun H locs hH => ?_)
  refine lv_iload hx hb dX10_named_17 (lv_at hl 4 rfl) ?_
  obtain ⟨r5, hr5, hf⟩ := ob hf
  refine callS_l [.long r4, .int a4] [] hC hH (c_X10_add l G A S r4 a4 _ hr5) (va_cwS 2 hts gX10_named_X10_add rfl rfl rfl (by decide +kernel) ⟨Nat.le_of_ble_eq_true rfl, Nat.le_of_ble_eq_true rfl⟩) rfl hl.1 rfl (Nat.le_of_ble_eq_true rfl) dX10_named_19 (fun H locs hH => ?_)
  refine lv_iload hx hb dX10_named_22 (lv_at hl 5 rfl) ?_
  obtain ⟨r6, hr6, hf⟩ := ob hf
  refine callS_l [.long r5, .int a5] [] hC hH (c_X10_add l G A S r5 a5 _ hr6) (va_cwS 2 hts gX10_named_X10_add rfl rfl rfl (by decide +kernel) ⟨Nat.le_of_ble_eq_true rfl, Nat.le_of_ble_eq_true rfl⟩) rfl hl.1 rfl (Nat.le_of_ble_eq_true rfl) dX10_named_24 (fun H locs hH => ?_)
  exact fin r6 S _ _ _ _ (Option.some.inj hf) rfl hH dX10_named_27
set_option maxRecDepth 100000 in
set_option maxHeartbeats 4000000 in
theorem c_X10_wordOf (l : Launch) (G : Gt) (A : Nat → Prop) (S : St)  (a0 : Int64) (q : Int32) (hf : f_X10_wordOf a0 = some q) : Met l yX10_wordOf wsX10_wordOf ({ frames := 2, cells := 0, slots := 0, locals := 47 } : Room) (va_Pc [.long a0] (PK G A (MW G S))) (va_Qi (fun (r2 : Int32) S2 => r2 = q ∧ S2 = S) (fun S2 : St => PK G A (MW G S2)) A) 0 0 A := by
  refine mstart_i (Wd := MW G) (cc := cX10_wordOf) (maxL := 4) (by decide) rfl (Nat.le_of_ble_eq_true rfl) (fun p e s m below meth c Qm ls hC hH hl fin => ?_)
  obtain ⟨hx, hb, hml, hown, hts⟩ := id hC.1
  have hl : lv_has ls 4 [(0, .long a0)] := hl
  have kJ115 : ∀ (t0 : Int32) (H : Heap) (locs : List Loc) (ls : Array Slot), HW G A (MW G S) s H locs → lv_has ls 4 [(0, .long a0)] → f_X10_wordOf_115 a0 t0 = some q → W p l e ({ frames := 2, cells := 0, slots := 0, locals := 47 } : Room) s m [.long a0].toArray below meth c H locs 0 0 Qm (F0 m 115 ls [.int t0]) := by
    intro t0 H locs ls hH hl hf
    rw [f_X10_wordOf_115] at hf
    refine lv_istore_n (lv' := [(3, .int t0), (0, .long a0)]) hx hb dX10_wordOf_115 rfl hl (by decide) rfl (fun ls hl => ?_)
    refine lv_lload_n hx hb dX10_wordOf_116 rfl (lv_at hl 1 rfl) ?_
    refine lv_bipush (v := 110) hx hb dX10_wordOf_117 (by decide) ?_
    refine lv_bipush (v := 101) hx hb dX10_wordOf_119 (by decide) ?_
    refine lv_bipush (v := 101) hx hb dX10_wordOf_121 (by decide) ?_
    refine lv_bipush (v := 100) hx hb dX10_wordOf_123 (by decide) ?_
    refine lv_iconst (v := 0) hx hb dX10_wordOf_125 (by decide) ?_
    refine lv_iconst (v := 0) hx hb dX10_wordOf_126 (by decide) ?_
    obtain ⟨r11, hr11, hf⟩ := ob hf
    refine callS_l [.int (110 : Int32), .int (101 : Int32), .int (101 : Int32), .int (100 : Int32), .int (0 : Int32), .int (0 : Int32)] [.long a0] hC hH (c_X10_named l G A S (110 : Int32) (101 : Int32) (101 : Int32) (100 : Int32) (0 : Int32) (0 : Int32) _ hr11) (va_cwS 6 hts gX10_wordOf_X10_named rfl rfl rfl (by decide +kernel) ⟨Nat.le_of_ble_eq_true rfl, Nat.le_of_ble_eq_true rfl⟩) rfl hl.1 rfl (Nat.le_of_ble_eq_true rfl) dX10_wordOf_127 (fun H locs hH => ?_)
    refine W.lcmp hx hb dX10_wordOf_130 ?_
    refine lv_if_ne (tgt := 138) hx hb dX10_wordOf_131 (by decide) (fun c12 => ?_) (fun c12 => ?_)
    · replace hf := it_f c12 hf
      refine lv_lload_n hx hb dX10_wordOf_138 rfl (lv_at hl 1 rfl) ?_
      refine lv_bipush (v := 100) hx hb dX10_wordOf_139 (by decide) ?_
      refine lv_bipush (v := 114) hx hb dX10_wordOf_141 (by decide) ?_
      refine lv_bipush (v := 111) hx hb dX10_wordOf_143 (by decide) ?_
      refine lv_bipush (v := 112) hx hb dX10_wordOf_145 (by decide) ?_
      refine lv_iconst (v := 0) hx hb dX10_wordOf_147 (by decide) ?_
      refine lv_iconst (v := 0) hx hb dX10_wordOf_148 (by decide) ?_
      obtain ⟨r13, hr13, hf⟩ := ob hf
      refine callS_l [.int (100 : Int32), .int (114 : Int32), .int (111 : Int32), .int (112 : Int32), .int (0 : Int32), .int (0 : Int32)] [.long a0] hC hH (c_X10_named l G A S (100 : Int32) (114 : Int32) (111 : Int32) (112 : Int32) (0 : Int32) (0 : Int32) _ hr13) (va_cwS 6 hts gX10_wordOf_X10_named rfl rfl rfl (by decide +kernel) ⟨Nat.le_of_ble_eq_true rfl, Nat.le_of_ble_eq_true rfl⟩) rfl hl.1 rfl (Nat.le_of_ble_eq_true rfl) dX10_wordOf_149 (fun H locs hH => ?_)
      refine W.lcmp hx hb dX10_wordOf_152 ?_
      refine lv_if_ne (tgt := 161) hx hb dX10_wordOf_153 (by decide) (fun c14 => ?_) (fun c14 => ?_)
      · replace hf := it_f c14 hf
        refine lv_iload_n hx hb dX10_wordOf_161 rfl (lv_at hl 0 rfl) ?_
        exact fin t0 S _ _ _ _ (Option.some.inj hf) rfl hH dX10_wordOf_162
      · replace hf := it_t c14 hf
        refine lv_bipush (v := 6) hx hb dX10_wordOf_156 (by decide) ?_
        refine lv_goto (tgt := 162) hx hb dX10_wordOf_158 (by decide) ?_
        exact fin (6 : Int32) S _ _ _ _ (Option.some.inj hf) rfl hH dX10_wordOf_162
    · replace hf := it_t c12 hf
      refine lv_iconst (v := 5) hx hb dX10_wordOf_134 (by decide) ?_
      refine lv_goto (tgt := 162) hx hb dX10_wordOf_135 (by decide) ?_
      exact fin (5 : Int32) S _ _ _ _ (Option.some.inj hf) rfl hH dX10_wordOf_162
  have kJ67 : ∀ (t0 : Int32) (H : Heap) (locs : List Loc) (ls : Array Slot), HW G A (MW G S) s H locs → lv_has ls 4 [(0, .long a0)] → f_X10_wordOf_67 a0 t0 = some q → W p l e ({ frames := 2, cells := 0, slots := 0, locals := 47 } : Room) s m [.long a0].toArray below meth c H locs 0 0 Qm (F0 m 67 ls [.int t0]) := by
    intro t0 H locs ls hH hl hf
    rw [f_X10_wordOf_67] at hf
    refine lv_istore_n (lv' := [(2, .int t0), (0, .long a0)]) hx hb dX10_wordOf_67 rfl hl (by decide) rfl (fun ls hl => ?_)
    refine lv_lload_n hx hb dX10_wordOf_68 rfl (lv_at hl 1 rfl) ?_
    refine lv_bipush (v := 114) hx hb dX10_wordOf_69 (by decide) ?_
    refine lv_bipush (v := 117) hx hb dX10_wordOf_71 (by decide) ?_
    refine lv_bipush (v := 110) hx hb dX10_wordOf_73 (by decide) ?_
    refine lv_bipush (v := 110) hx hb dX10_wordOf_75 (by decide) ?_
    refine lv_bipush (v := 101) hx hb dX10_wordOf_77 (by decide) ?_
    refine lv_bipush (v := 114) hx hb dX10_wordOf_79 (by decide) ?_
    obtain ⟨r7, hr7, hf⟩ := ob hf
    refine callS_l [.int (114 : Int32), .int (117 : Int32), .int (110 : Int32), .int (110 : Int32), .int (101 : Int32), .int (114 : Int32)] [.long a0] hC hH (c_X10_named l G A S (114 : Int32) (117 : Int32) (110 : Int32) (110 : Int32) (101 : Int32) (114 : Int32) _ hr7) (va_cwS 6 hts gX10_wordOf_X10_named rfl rfl rfl (by decide +kernel) ⟨Nat.le_of_ble_eq_true rfl, Nat.le_of_ble_eq_true rfl⟩) rfl hl.1 rfl (Nat.le_of_ble_eq_true rfl) dX10_wordOf_81 (fun H locs hH => ?_)
    refine W.lcmp hx hb dX10_wordOf_84 ?_
    refine lv_if_ne (tgt := 92) hx hb dX10_wordOf_85 (by decide) (fun c8 => ?_) (fun c8 => ?_)
    · replace hf := it_f c8 hf
      refine lv_lload_n hx hb dX10_wordOf_92 rfl (lv_at hl 1 rfl) ?_
      refine lv_bipush (v := 114) hx hb dX10_wordOf_93 (by decide) ?_
      refine lv_bipush (v := 111) hx hb dX10_wordOf_95 (by decide) ?_
      refine lv_bipush (v := 112) hx hb dX10_wordOf_97 (by decide) ?_
      refine lv_bipush (v := 101) hx hb dX10_wordOf_99 (by decide) ?_
      refine lv_iconst (v := 0) hx hb dX10_wordOf_101 (by decide) ?_
      refine lv_iconst (v := 0) hx hb dX10_wordOf_102 (by decide) ?_
      obtain ⟨r9, hr9, hf⟩ := ob hf
      refine callS_l [.int (114 : Int32), .int (111 : Int32), .int (112 : Int32), .int (101 : Int32), .int (0 : Int32), .int (0 : Int32)] [.long a0] hC hH (c_X10_named l G A S (114 : Int32) (111 : Int32) (112 : Int32) (101 : Int32) (0 : Int32) (0 : Int32) _ hr9) (va_cwS 6 hts gX10_wordOf_X10_named rfl rfl rfl (by decide +kernel) ⟨Nat.le_of_ble_eq_true rfl, Nat.le_of_ble_eq_true rfl⟩) rfl hl.1 rfl (Nat.le_of_ble_eq_true rfl) dX10_wordOf_103 (fun H locs hH => ?_)
      refine W.lcmp hx hb dX10_wordOf_106 ?_
      refine lv_if_ne (tgt := 114) hx hb dX10_wordOf_107 (by decide) (fun c10 => ?_) (fun c10 => ?_)
      · replace hf := it_f c10 hf
        refine lv_iload_n hx hb dX10_wordOf_114 rfl (lv_at hl 0 rfl) ?_
        exact kJ115  t0 _ _ _ hH (lv_sub hl [1] rfl) hf
      · replace hf := it_t c10 hf
        refine lv_iconst (v := 4) hx hb dX10_wordOf_110 (by decide) ?_
        refine lv_goto (tgt := 115) hx hb dX10_wordOf_111 (by decide) ?_
        exact kJ115  (4 : Int32) _ _ _ hH (lv_sub hl [1] rfl) hf
    · replace hf := it_t c8 hf
      refine lv_iconst (v := 3) hx hb dX10_wordOf_88 (by decide) ?_
      refine lv_goto (tgt := 115) hx hb dX10_wordOf_89 (by decide) ?_
      exact kJ115  (3 : Int32) _ _ _ hH (lv_sub hl [1] rfl) hf
  have hf := hf
  rw [f_X10_wordOf] at hf
  refine lv_lload_n hx hb dX10_wordOf_0 rfl (lv_at hl 0 rfl) ?_
  refine lv_bipush (v := 108) hx hb dX10_wordOf_1 (by decide) ?_
  refine lv_bipush (v := 97) hx hb dX10_wordOf_3 (by decide) ?_
  refine lv_bipush (v := 110) hx hb dX10_wordOf_5 (by decide) ?_
  refine lv_bipush (v := 101) hx hb dX10_wordOf_7 (by decide) ?_
  refine lv_iconst (v := 0) hx hb dX10_wordOf_9 (by decide) ?_
  refine lv_iconst (v := 0) hx hb dX10_wordOf_10 (by decide) ?_
  obtain ⟨r1, hr1, hf⟩ := ob hf
  refine callS_l [.int (108 : Int32), .int (97 : Int32), .int (110 : Int32), .int (101 : Int32), .int (0 : Int32), .int (0 : Int32)] [.long a0] hC hH (c_X10_named l G A S (108 : Int32) (97 : Int32) (110 : Int32) (101 : Int32) (0 : Int32) (0 : Int32) _ hr1) (va_cwS 6 hts gX10_wordOf_X10_named rfl rfl rfl (by decide +kernel) ⟨Nat.le_of_ble_eq_true rfl, Nat.le_of_ble_eq_true rfl⟩) rfl hl.1 rfl (Nat.le_of_ble_eq_true rfl) dX10_wordOf_11 (fun H locs hH => ?_)
  refine W.lcmp hx hb dX10_wordOf_14 ?_
  refine lv_if_ne (tgt := 22) hx hb dX10_wordOf_15 (by decide) (fun c2 => ?_) (fun c2 => ?_)
  · replace hf := it_f c2 hf
    refine lv_lload_n hx hb dX10_wordOf_22 rfl (lv_at hl 0 rfl) ?_
    refine lv_bipush (v := 119) hx hb dX10_wordOf_23 (by decide) ?_
    refine lv_bipush (v := 105) hx hb dX10_wordOf_25 (by decide) ?_
    refine lv_bipush (v := 110) hx hb dX10_wordOf_27 (by decide) ?_
    refine lv_bipush (v := 100) hx hb dX10_wordOf_29 (by decide) ?_
    refine lv_iconst (v := 0) hx hb dX10_wordOf_31 (by decide) ?_
    refine lv_iconst (v := 0) hx hb dX10_wordOf_32 (by decide) ?_
    obtain ⟨r3, hr3, hf⟩ := ob hf
    refine callS_l [.int (119 : Int32), .int (105 : Int32), .int (110 : Int32), .int (100 : Int32), .int (0 : Int32), .int (0 : Int32)] [.long a0] hC hH (c_X10_named l G A S (119 : Int32) (105 : Int32) (110 : Int32) (100 : Int32) (0 : Int32) (0 : Int32) _ hr3) (va_cwS 6 hts gX10_wordOf_X10_named rfl rfl rfl (by decide +kernel) ⟨Nat.le_of_ble_eq_true rfl, Nat.le_of_ble_eq_true rfl⟩) rfl hl.1 rfl (Nat.le_of_ble_eq_true rfl) dX10_wordOf_33 (fun H locs hH => ?_)
    refine W.lcmp hx hb dX10_wordOf_36 ?_
    refine lv_if_ne (tgt := 44) hx hb dX10_wordOf_37 (by decide) (fun c4 => ?_) (fun c4 => ?_)
    · replace hf := it_f c4 hf
      refine lv_lload_n hx hb dX10_wordOf_44 rfl (lv_at hl 0 rfl) ?_
      refine lv_bipush (v := 119) hx hb dX10_wordOf_45 (by decide) ?_
      refine lv_bipush (v := 101) hx hb dX10_wordOf_47 (by decide) ?_
      refine lv_bipush (v := 116) hx hb dX10_wordOf_49 (by decide) ?_
      refine lv_iconst (v := 0) hx hb dX10_wordOf_51 (by decide) ?_
      refine lv_iconst (v := 0) hx hb dX10_wordOf_52 (by decide) ?_
      refine lv_iconst (v := 0) hx hb dX10_wordOf_53 (by decide) ?_
      obtain ⟨r5, hr5, hf⟩ := ob hf
      refine callS_l [.int (119 : Int32), .int (101 : Int32), .int (116 : Int32), .int (0 : Int32), .int (0 : Int32), .int (0 : Int32)] [.long a0] hC hH (c_X10_named l G A S (119 : Int32) (101 : Int32) (116 : Int32) (0 : Int32) (0 : Int32) (0 : Int32) _ hr5) (va_cwS 6 hts gX10_wordOf_X10_named rfl rfl rfl (by decide +kernel) ⟨Nat.le_of_ble_eq_true rfl, Nat.le_of_ble_eq_true rfl⟩) rfl hl.1 rfl (Nat.le_of_ble_eq_true rfl) dX10_wordOf_54 (fun H locs hH => ?_)
      refine W.lcmp hx hb dX10_wordOf_57 ?_
      refine lv_if_ne (tgt := 65) hx hb dX10_wordOf_58 (by decide) (fun c6 => ?_) (fun c6 => ?_)
      · replace hf := it_f c6 hf
        refine lv_bipush (v := -9) hx hb dX10_wordOf_65 (by decide) ?_
        exact kJ67  (-9 : Int32) _ _ _ hH (lv_sub hl [0] rfl) hf
      · replace hf := it_t c6 hf
        refine lv_iconst (v := 2) hx hb dX10_wordOf_61 (by decide) ?_
        refine lv_goto (tgt := 67) hx hb dX10_wordOf_62 (by decide) ?_
        exact kJ67  (2 : Int32) _ _ _ hH (lv_sub hl [0] rfl) hf
    · replace hf := it_t c4 hf
      refine lv_iconst (v := 1) hx hb dX10_wordOf_40 (by decide) ?_
      refine lv_goto (tgt := 67) hx hb dX10_wordOf_41 (by decide) ?_
      exact kJ67  (1 : Int32) _ _ _ hH (lv_sub hl [0] rfl) hf
  · replace hf := it_t c2 hf
    refine lv_iconst (v := 0) hx hb dX10_wordOf_18 (by decide) ?_
    refine lv_goto (tgt := 67) hx hb dX10_wordOf_19 (by decide) ?_
    exact kJ67  (0 : Int32) _ _ _ hH (lv_sub hl [0] rfl) hf
theorem in_X10_advances_X10 : ∀ w ∈ wsX100, w ∈ wsX10_advances := fun w h => List.mem_cons_of_mem _ (List.mem_append_right _ h)
set_option maxRecDepth 100000 in
set_option maxHeartbeats 4000000 in
theorem c_X10_advances (l : Launch) (G : Gt) (A : Nat → Prop) (N : Nat) (S : St)   (q : St) (hf : f_X10_advances N S = some q) : Met l yX10_advances wsX10_advances ({ frames := 3, cells := 0, slots := 0, locals := 70 } : Room) (va_Pc [.ref (gM G 0)] (PK G A (MW G S))) (va_Qv (fun S2 => S2 = q) (fun S2 : St => PK G A (MW G S2)) A) 0 0 A := by
  refine mstart_v (Wd := MW G) (cc := cX10_advances) (maxL := 4) (by decide) rfl (Nat.le_of_ble_eq_true rfl) (fun p e s m below meth c Qm ls hC hH hl fin => ?_)
  obtain ⟨hx, hb, hml, hown, hts⟩ := id hC.1
  have hl : lv_has ls 4 [(0, .ref (gM G 0))] := hl
  have kL0 : ∀ (k26 : St → Option St) (hk26 : ∀ (S : St) (H : Heap) (locs : List Loc) (ls : Array Slot), HW G A (MW G S) s H locs → lv_has ls 4 [(0, .ref (gM G 0))] → k26 S = some q → W p l e ({ frames := 3, cells := 0, slots := 0, locals := 70 } : Room) s m [.ref (gM G 0)].toArray below meth c H locs 0 0 Qm (F0 m 26 ls [])) , ∀ (n : Nat), ∀ (S : St) (H : Heap) (locs : List Loc) (ls : Array Slot), HW G A (MW G S) s H locs → lv_has ls 4 [(0, .ref (gM G 0))] → g_X10_advances_0 N k26 n S = some q → W p l e ({ frames := 3, cells := 0, slots := 0, locals := 70 } : Room) s m [.ref (gM G 0)].toArray below meth c H locs 0 0 Qm (F0 m 0 ls []) := by
    intro k26 hk26 n
    induction n with
    | zero => intro S H locs ls hH hl hf; exact absurd hf.symm (Option.some_ne_none q)
    | succ n ih =>
      intro S H locs ls hH hl hf
      have hrec := ih
      have hf : s_X10_advances_0 N k26 (g_X10_advances_0 N k26 n) S = some q := hf
      rw [s_X10_advances_0] at hf
      refine lv_aload_n hx hb dX10_advances_0 rfl (lv_at hl 0 rfl) ?_
      refine lv_aload_n hx hb dX10_advances_1 rfl (lv_at hl 0 rfl) ?_
      refine getO hC hH (0) rfl rfl in_X10_advances_X10 4 (by decide) (index := 80) (List.mem_of_getElem? (i := 1) rfl) rfl dX10_advances_2 ?_
      obtain ⟨r1, hr1, hf⟩ := ob hf
      refine callV_i [.int (gI S 0 4)] [] hC hH (c_X10_byteAt l G A S (gI S 0 4) _ hr1) (cwV 1 hts gX10_advances_X10_byteAt rfl rfl rfl (by decide +kernel) ⟨Nat.le_of_ble_eq_true rfl, Nat.le_of_ble_eq_true rfl⟩) (recvW hC hH (c0 := 0) (ci := 10) rfl rfl) rfl hl.1 rfl (Nat.le_of_ble_eq_true rfl) dX10_advances_5 (fun H locs hH => ?_)
      refine lv_bipush (v := 32) hx hb dX10_advances_8 (by decide) ?_
      refine lv_icmp_ne (tgt := 26) hx hb dX10_advances_10 (by decide) (fun c2 => ?_) (fun c2 => ?_)
      · replace hf := it_f c2 hf
        exact hk26 S _ _ _ hH (lv_sub hl [0] rfl) hf
      · replace hf := it_t c2 hf
        refine lv_aload_n hx hb dX10_advances_13 rfl (lv_at hl 0 rfl) ?_
        refine lv_dup hx hb dX10_advances_14 rfl ?_
        refine getO hC hH (0) rfl rfl in_X10_advances_X10 4 (by decide) (index := 80) (List.mem_of_getElem? (i := 1) rfl) rfl dX10_advances_15 ?_
        refine lv_iconst (v := 1) hx hb dX10_advances_18 (by decide) ?_
        refine lv_iadd hx hb dX10_advances_19 ?_
        refine putO hC hH (0) rfl rfl in_X10_advances_X10 tyX10 tyX10_ok nmX10 4 (by decide) (index := 80) (List.mem_of_getElem? (i := 1) rfl) rfl rfl rfl (Nat.le_of_ble_eq_true rfl) ms_0_4 dX10_advances_20 (fun H locs hH => ?_)
        obtain ⟨S3, eS3⟩ : ∃ Z : St, Z = sI S 0 4 ((gI S 0 4) + (1 : Int32)) := ⟨_, rfl⟩
        rw [← eS3] at hH
        replace hf := bn eS3 hf
        refine lv_goto (tgt := 0) hx hb dX10_advances_23 (by decide) ?_
        exact hrec S3 _ _ _ hH (lv_sub hl [0] rfl) hf
  have kJ307 : ∀ (S : St) (t1 : Int32) (H : Heap) (locs : List Loc) (ls : Array Slot), HW G A (MW G S) s H locs → lv_has ls 4 [] → f_X10_advances_307 N S t1 = some q → W p l e ({ frames := 3, cells := 0, slots := 0, locals := 70 } : Room) s m [.ref (gM G 0)].toArray below meth c H locs 0 0 Qm (F0 m 307 ls [.int t1, .ref (gM G 0)]) := by
    intro S t1 H locs ls hH hl hf
    rw [f_X10_advances_307] at hf
    refine putO hC hH (0) rfl rfl in_X10_advances_X10 tyX10 tyX10_ok nmX10 5 (by decide) (index := 90) (List.mem_of_getElem? (i := 3) rfl) rfl rfl rfl (Nat.le_of_ble_eq_true rfl) ms_0_5 dX10_advances_307 (fun H locs hH => ?_)
    obtain ⟨S14, eS14⟩ : ∃ Z : St, Z = sI S 0 5 t1 := ⟨_, rfl⟩
    rw [← eS14] at hH
    replace hf := bn eS14 hf
    exact fin S14 _ _ _ _ (Option.some.inj hf) hH dX10_advances_310
  have kJ229 : ∀ (k245 : St → Int32 → Option St) (hk245 : ∀ (S : St) (x1 : Int32) (H : Heap) (locs : List Loc) (ls : Array Slot), HW G A (MW G S) s H locs → lv_has ls 4 [(0, .ref (gM G 0)), (1, .int x1)] → k245 S x1 = some q → W p l e ({ frames := 3, cells := 0, slots := 0, locals := 70 } : Room) s m [.ref (gM G 0)].toArray below meth c H locs 0 0 Qm (F0 m 245 ls [])) (rec : St → Int32 → Option St) (hrec : ∀ (S : St) (x1 : Int32) (H : Heap) (locs : List Loc) (ls : Array Slot), HW G A (MW G S) s H locs → lv_has ls 4 [(0, .ref (gM G 0)), (1, .int x1)] → rec S x1 = some q → W p l e ({ frames := 3, cells := 0, slots := 0, locals := 70 } : Room) s m [.ref (gM G 0)].toArray below meth c H locs 0 0 Qm (F0 m 175 ls [])) , ∀ (S : St) (x1 : Int32) (t1 : Int32) (H : Heap) (locs : List Loc) (ls : Array Slot), HW G A (MW G S) s H locs → lv_has ls 4 [(0, .ref (gM G 0)), (1, .int x1)] → f_X10_advances_229 N k245 rec S x1 t1 = some q → W p l e ({ frames := 3, cells := 0, slots := 0, locals := 70 } : Room) s m [.ref (gM G 0)].toArray below meth c H locs 0 0 Qm (F0 m 229 ls [.int t1, .ref (gM G 0)]) := by
    intro k245 hk245 rec hrec S x1 t1 H locs ls hH hl hf
    rw [f_X10_advances_229] at hf
    refine putO hC hH (0) rfl rfl in_X10_advances_X10 tyX10 tyX10_ok nmX10 7 (by decide) (index := 97) (List.mem_of_getElem? (i := 4) rfl) rfl rfl rfl (Nat.le_of_ble_eq_true rfl) ms_0_7 dX10_advances_229 (fun H locs hH => ?_)
    obtain ⟨S21, eS21⟩ : ∃ Z : St, Z = sI S 0 7 t1 := ⟨_, rfl⟩
    rw [← eS21] at hH
    replace hf := bn eS21 hf
    refine lv_aload_n hx hb dX10_advances_232 rfl (lv_at hl 0 rfl) ?_
    refine lv_dup hx hb dX10_advances_233 rfl ?_
    refine getO hC hH (0) rfl rfl in_X10_advances_X10 4 (by decide) (index := 80) (List.mem_of_getElem? (i := 1) rfl) rfl dX10_advances_234 ?_
    refine lv_iconst (v := 1) hx hb dX10_advances_237 (by decide) ?_
    refine lv_iadd hx hb dX10_advances_238 ?_
    refine putO hC hH (0) rfl rfl in_X10_advances_X10 tyX10 tyX10_ok nmX10 4 (by decide) (index := 80) (List.mem_of_getElem? (i := 1) rfl) rfl rfl rfl (Nat.le_of_ble_eq_true rfl) ms_0_4 dX10_advances_239 (fun H locs hH => ?_)
    obtain ⟨S22, eS22⟩ : ∃ Z : St, Z = sI S21 0 4 ((gI S21 0 4) + (1 : Int32)) := ⟨_, rfl⟩
    rw [← eS22] at hH
    replace hf := bn eS22 hf
    refine lv_goto (tgt := 175) hx hb dX10_advances_242 (by decide) ?_
    exact hrec S22 x1 _ _ _ hH (lv_sub hl [0, 1] rfl) hf
  have kL175 : ∀ (k245 : St → Int32 → Option St) (hk245 : ∀ (S : St) (x1 : Int32) (H : Heap) (locs : List Loc) (ls : Array Slot), HW G A (MW G S) s H locs → lv_has ls 4 [(0, .ref (gM G 0)), (1, .int x1)] → k245 S x1 = some q → W p l e ({ frames := 3, cells := 0, slots := 0, locals := 70 } : Room) s m [.ref (gM G 0)].toArray below meth c H locs 0 0 Qm (F0 m 245 ls [])) , ∀ (n : Nat), ∀ (S : St) (x1 : Int32) (H : Heap) (locs : List Loc) (ls : Array Slot), HW G A (MW G S) s H locs → lv_has ls 4 [(0, .ref (gM G 0)), (1, .int x1)] → g_X10_advances_175 N k245 n S x1 = some q → W p l e ({ frames := 3, cells := 0, slots := 0, locals := 70 } : Room) s m [.ref (gM G 0)].toArray below meth c H locs 0 0 Qm (F0 m 175 ls []) := by
    intro k245 hk245 n
    induction n with
    | zero => intro S x1 H locs ls hH hl hf; exact absurd hf.symm (Option.some_ne_none q)
    | succ n ih =>
      intro S x1 H locs ls hH hl hf
      have hrec := ih
      have hf : s_X10_advances_175 N k245 (g_X10_advances_175 N k245 n) S x1 = some q := hf
      rw [s_X10_advances_175] at hf
      refine lv_aload_n hx hb dX10_advances_175 rfl (lv_at hl 0 rfl) ?_
      refine lv_aload_n hx hb dX10_advances_176 rfl (lv_at hl 0 rfl) ?_
      refine getO hC hH (0) rfl rfl in_X10_advances_X10 4 (by decide) (index := 80) (List.mem_of_getElem? (i := 1) rfl) rfl dX10_advances_177 ?_
      obtain ⟨r16, hr16, hf⟩ := ob hf
      refine callV_i [.int (gI S 0 4)] [] hC hH (c_X10_byteAt l G A S (gI S 0 4) _ hr16) (cwV 1 hts gX10_advances_X10_byteAt rfl rfl rfl (by decide +kernel) ⟨Nat.le_of_ble_eq_true rfl, Nat.le_of_ble_eq_true rfl⟩) (recvW hC hH (c0 := 0) (ci := 10) rfl rfl) rfl hl.1 rfl (Nat.le_of_ble_eq_true rfl) dX10_advances_180 (fun H locs hH => ?_)
      refine lv_bipush (v := 48) hx hb dX10_advances_183 (by decide) ?_
      refine lv_bipush (v := 57) hx hb dX10_advances_185 (by decide) ?_
      obtain ⟨r17, hr17, hf⟩ := ob hf
      refine callS_i [.int r16, .int (48 : Int32), .int (57 : Int32)] [] hC hH (c_X10_in l G A S r16 (48 : Int32) (57 : Int32) _ hr17) (va_cwS 3 hts gX10_advances_X10_in rfl rfl rfl (by decide +kernel) ⟨Nat.le_of_ble_eq_true rfl, Nat.le_of_ble_eq_true rfl⟩) rfl hl.1 rfl (Nat.le_of_ble_eq_true rfl) dX10_advances_187 (fun H locs hH => ?_)
      refine lv_if_eq (tgt := 245) hx hb dX10_advances_190 (by decide) (fun c18 => ?_) (fun c18 => ?_)
      · replace hf := it_t c18 hf
        exact hk245 S x1 _ _ _ hH (lv_sub hl [0, 1] rfl) hf
      · replace hf := it_f c18 hf
        refine lv_aload_n hx hb dX10_advances_193 rfl (lv_at hl 0 rfl) ?_
        refine lv_aload_n hx hb dX10_advances_194 rfl (lv_at hl 0 rfl) ?_
        refine getO hC hH (0) rfl rfl in_X10_advances_X10 7 (by decide) (index := 97) (List.mem_of_getElem? (i := 4) rfl) rfl dX10_advances_195 ?_
        refine lv_bipush (v := 99) hx hb dX10_advances_198 (by decide) ?_
        refine lv_icmp_le (tgt := 210) hx hb dX10_advances_200 (by decide) (fun c19 => ?_) (fun c19 => ?_)
        · replace hf := it_t c19 hf
          refine lv_bipush (v := 10) hx hb dX10_advances_210 (by decide) ?_
          refine lv_aload_n hx hb dX10_advances_212 rfl (lv_at hl 0 rfl) ?_
          refine getO hC hH (0) rfl rfl in_X10_advances_X10 7 (by decide) (index := 97) (List.mem_of_getElem? (i := 4) rfl) rfl dX10_advances_213 ?_
          refine lv_imul hx hb dX10_advances_216 ?_
          refine lv_aload_n hx hb dX10_advances_217 rfl (lv_at hl 0 rfl) ?_
          refine lv_aload_n hx hb dX10_advances_218 rfl (lv_at hl 0 rfl) ?_
          refine getO hC hH (0) rfl rfl in_X10_advances_X10 4 (by decide) (index := 80) (List.mem_of_getElem? (i := 1) rfl) rfl dX10_advances_219 ?_
          obtain ⟨r20, hr20, hf⟩ := ob hf
          refine callV_i [.int (gI S 0 4)] [.int ((10 : Int32) * (gI S 0 7)), .ref (gM G 0)] hC hH (c_X10_byteAt l G A S (gI S 0 4) _ hr20) (cwV 1 hts gX10_advances_X10_byteAt rfl rfl rfl (by decide +kernel) ⟨Nat.le_of_ble_eq_true rfl, Nat.le_of_ble_eq_true rfl⟩) (recvW hC hH (c0 := 0) (ci := 10) rfl rfl) rfl hl.1 rfl (Nat.le_of_ble_eq_true rfl) dX10_advances_222 (fun H locs hH => ?_)
          refine lv_iadd hx hb dX10_advances_225 ?_
          refine lv_bipush (v := 48) hx hb dX10_advances_226 (by decide) ?_
          refine lv_isub hx hb dX10_advances_228 ?_
          exact kJ229 k245 hk245 _ hrec S x1 ((((10 : Int32) * (gI S 0 7)) + r20) - (48 : Int32)) _ _ _ hH (lv_sub hl [0, 1] rfl) hf
        · replace hf := it_f c19 hf
          refine lv_aload_n hx hb dX10_advances_203 rfl (lv_at hl 0 rfl) ?_
          refine getO hC hH (0) rfl rfl in_X10_advances_X10 7 (by decide) (index := 97) (List.mem_of_getElem? (i := 4) rfl) rfl dX10_advances_204 ?_
          refine lv_goto (tgt := 229) hx hb dX10_advances_207 (by decide) ?_
          exact kJ229 k245 hk245 _ hrec S x1 (gI S 0 7) _ _ _ hH (lv_sub hl [0, 1] rfl) hf
  have kJ279 : ∀ (S : St) (t1 : Int32) (H : Heap) (locs : List Loc) (ls : Array Slot), HW G A (MW G S) s H locs → lv_has ls 4 [] → f_X10_advances_279 N S t1 = some q → W p l e ({ frames := 3, cells := 0, slots := 0, locals := 70 } : Room) s m [.ref (gM G 0)].toArray below meth c H locs 0 0 Qm (F0 m 279 ls [.int t1, .ref (gM G 0)]) := by
    intro S t1 H locs ls hH hl hf
    rw [f_X10_advances_279] at hf
    refine putO hC hH (0) rfl rfl in_X10_advances_X10 tyX10 tyX10_ok nmX10 5 (by decide) (index := 90) (List.mem_of_getElem? (i := 3) rfl) rfl rfl rfl (Nat.le_of_ble_eq_true rfl) ms_0_5 dX10_advances_279 (fun H locs hH => ?_)
    obtain ⟨S26, eS26⟩ : ∃ Z : St, Z = sI S 0 5 t1 := ⟨_, rfl⟩
    rw [← eS26] at hH
    replace hf := bn eS26 hf
    refine lv_goto (tgt := 310) hx hb dX10_advances_282 (by decide) ?_
    exact fin S26 _ _ _ _ (Option.some.inj hf) hH dX10_advances_310
  have kJ274 : ∀ (S : St) (H : Heap) (locs : List Loc) (ls : Array Slot), HW G A (MW G S) s H locs → lv_has ls 4 [] → f_X10_advances_274 N S = some q → W p l e ({ frames := 3, cells := 0, slots := 0, locals := 70 } : Room) s m [.ref (gM G 0)].toArray below meth c H locs 0 0 Qm (F0 m 274 ls [.ref (gM G 0)]) := by
    intro S H locs ls hH hl hf
    rw [f_X10_advances_274] at hf
    refine lv_iconst (v := 4) hx hb dX10_advances_274 (by decide) ?_
    refine lv_goto (tgt := 279) hx hb dX10_advances_275 (by decide) ?_
    exact kJ279  S (4 : Int32) _ _ _ hH (lv_sub hl [] rfl) hf
  have kJ278 : ∀ (S : St) (H : Heap) (locs : List Loc) (ls : Array Slot), HW G A (MW G S) s H locs → lv_has ls 4 [] → f_X10_advances_278 N S = some q → W p l e ({ frames := 3, cells := 0, slots := 0, locals := 70 } : Room) s m [.ref (gM G 0)].toArray below meth c H locs 0 0 Qm (F0 m 278 ls [.ref (gM G 0)]) := by
    intro S H locs ls hH hl hf
    rw [f_X10_advances_278] at hf
    refine lv_iconst (v := 2) hx hb dX10_advances_278 (by decide) ?_
    exact kJ279  S (2 : Int32) _ _ _ hH (lv_sub hl [] rfl) hf
  have kJ116 : ∀ (k130 : St → Int64 → Option St) (hk130 : ∀ (S : St) (x2 : Int64) (H : Heap) (locs : List Loc) (ls : Array Slot), HW G A (MW G S) s H locs → lv_has ls 4 [(0, .ref (gM G 0)), (2, .long x2)] → k130 S x2 = some q → W p l e ({ frames := 3, cells := 0, slots := 0, locals := 70 } : Room) s m [.ref (gM G 0)].toArray below meth c H locs 0 0 Qm (F0 m 130 ls [])) (rec : St → Int64 → Option St) (hrec : ∀ (S : St) (x2 : Int64) (H : Heap) (locs : List Loc) (ls : Array Slot), HW G A (MW G S) s H locs → lv_has ls 4 [(0, .ref (gM G 0)), (2, .long x2)] → rec S x2 = some q → W p l e ({ frames := 3, cells := 0, slots := 0, locals := 70 } : Room) s m [.ref (gM G 0)].toArray below meth c H locs 0 0 Qm (F0 m 68 ls [])) , ∀ (S : St) (t0 : Int64) (H : Heap) (locs : List Loc) (ls : Array Slot), HW G A (MW G S) s H locs → lv_has ls 4 [(0, .ref (gM G 0))] → f_X10_advances_116 N k130 rec S t0 = some q → W p l e ({ frames := 3, cells := 0, slots := 0, locals := 70 } : Room) s m [.ref (gM G 0)].toArray below meth c H locs 0 0 Qm (F0 m 116 ls [.long t0]) := by
    intro k130 hk130 rec hrec S t0 H locs ls hH hl hf
    rw [f_X10_advances_116] at hf
    refine lv_lstore_n (lv' := [(2, .long t0), (0, .ref (gM G 0))]) hx hb dX10_advances_116 rfl hl (by decide) rfl (fun ls hl => ?_)
    refine lv_aload_n hx hb dX10_advances_117 rfl (lv_at hl 1 rfl) ?_
    refine lv_dup hx hb dX10_advances_118 rfl ?_
    refine getO hC hH (0) rfl rfl in_X10_advances_X10 4 (by decide) (index := 80) (List.mem_of_getElem? (i := 1) rfl) rfl dX10_advances_119 ?_
    refine lv_iconst (v := 1) hx hb dX10_advances_122 (by decide) ?_
    refine lv_iadd hx hb dX10_advances_123 ?_
    refine putO hC hH (0) rfl rfl in_X10_advances_X10 tyX10 tyX10_ok nmX10 4 (by decide) (index := 80) (List.mem_of_getElem? (i := 1) rfl) rfl rfl rfl (Nat.le_of_ble_eq_true rfl) ms_0_4 dX10_advances_124 (fun H locs hH => ?_)
    obtain ⟨S33, eS33⟩ : ∃ Z : St, Z = sI S 0 4 ((gI S 0 4) + (1 : Int32)) := ⟨_, rfl⟩
    rw [← eS33] at hH
    replace hf := bn eS33 hf
    refine lv_goto (tgt := 68) hx hb dX10_advances_127 (by decide) ?_
    exact hrec S33 t0 _ _ _ hH (lv_sub hl [1, 0] rfl) hf
  have kL68 : ∀ (k130 : St → Int64 → Option St) (hk130 : ∀ (S : St) (x2 : Int64) (H : Heap) (locs : List Loc) (ls : Array Slot), HW G A (MW G S) s H locs → lv_has ls 4 [(0, .ref (gM G 0)), (2, .long x2)] → k130 S x2 = some q → W p l e ({ frames := 3, cells := 0, slots := 0, locals := 70 } : Room) s m [.ref (gM G 0)].toArray below meth c H locs 0 0 Qm (F0 m 130 ls [])) , ∀ (n : Nat), ∀ (S : St) (x2 : Int64) (H : Heap) (locs : List Loc) (ls : Array Slot), HW G A (MW G S) s H locs → lv_has ls 4 [(0, .ref (gM G 0)), (2, .long x2)] → g_X10_advances_68 N k130 n S x2 = some q → W p l e ({ frames := 3, cells := 0, slots := 0, locals := 70 } : Room) s m [.ref (gM G 0)].toArray below meth c H locs 0 0 Qm (F0 m 68 ls []) := by
    intro k130 hk130 n
    induction n with
    | zero => intro S x2 H locs ls hH hl hf; exact absurd hf.symm (Option.some_ne_none q)
    | succ n ih =>
      intro S x2 H locs ls hH hl hf
      have hrec := ih
      have hf : s_X10_advances_68 N k130 (g_X10_advances_68 N k130 n) S x2 = some q := hf
      rw [s_X10_advances_68] at hf
      refine lv_aload_n hx hb dX10_advances_68 rfl (lv_at hl 0 rfl) ?_
      refine lv_aload_n hx hb dX10_advances_69 rfl (lv_at hl 0 rfl) ?_
      refine getO hC hH (0) rfl rfl in_X10_advances_X10 4 (by decide) (index := 80) (List.mem_of_getElem? (i := 1) rfl) rfl dX10_advances_70 ?_
      obtain ⟨r29, hr29, hf⟩ := ob hf
      refine callV_i [.int (gI S 0 4)] [] hC hH (c_X10_byteAt l G A S (gI S 0 4) _ hr29) (cwV 1 hts gX10_advances_X10_byteAt rfl rfl rfl (by decide +kernel) ⟨Nat.le_of_ble_eq_true rfl, Nat.le_of_ble_eq_true rfl⟩) (recvW hC hH (c0 := 0) (ci := 10) rfl rfl) rfl hl.1 rfl (Nat.le_of_ble_eq_true rfl) dX10_advances_73 (fun H locs hH => ?_)
      refine lv_bipush (v := 97) hx hb dX10_advances_76 (by decide) ?_
      refine lv_bipush (v := 122) hx hb dX10_advances_78 (by decide) ?_
      obtain ⟨r30, hr30, hf⟩ := ob hf
      refine callS_i [.int r29, .int (97 : Int32), .int (122 : Int32)] [] hC hH (c_X10_in l G A S r29 (97 : Int32) (122 : Int32) _ hr30) (va_cwS 3 hts gX10_advances_X10_in rfl rfl rfl (by decide +kernel) ⟨Nat.le_of_ble_eq_true rfl, Nat.le_of_ble_eq_true rfl⟩) rfl hl.1 rfl (Nat.le_of_ble_eq_true rfl) dX10_advances_80 (fun H locs hH => ?_)
      refine lv_if_eq (tgt := 130) hx hb dX10_advances_83 (by decide) (fun c31 => ?_) (fun c31 => ?_)
      · replace hf := it_t c31 hf
        exact hk130 S x2 _ _ _ hH (lv_sub hl [0, 1] rfl) hf
      · replace hf := it_f c31 hf
        refine lv_aload_n hx hb dX10_advances_86 rfl (lv_at hl 0 rfl) ?_
        refine getO hC hH (0) rfl rfl in_X10_advances_X10 4 (by decide) (index := 80) (List.mem_of_getElem? (i := 1) rfl) rfl dX10_advances_87 ?_
        refine lv_aload_n hx hb dX10_advances_90 rfl (lv_at hl 0 rfl) ?_
        refine getO hC hH (0) rfl rfl in_X10_advances_X10 6 (by decide) (index := 87) (List.mem_of_getElem? (i := 2) rfl) rfl dX10_advances_91 ?_
        refine lv_isub hx hb dX10_advances_94 ?_
        refine lv_bipush (v := 7) hx hb dX10_advances_95 (by decide) ?_
        refine lv_icmp_ge (tgt := 115) hx hb dX10_advances_97 (by decide) (fun c32 => ?_) (fun c32 => ?_)
        · replace hf := it_t c32 hf
          refine lv_lload_n hx hb dX10_advances_115 rfl (lv_at hl 1 rfl) ?_
          exact kJ116 k130 hk130 _ hrec S x2 _ _ _ hH (lv_sub hl [0] rfl) hf
        · replace hf := it_f c32 hf
          refine lv_lload_n hx hb dX10_advances_100 rfl (lv_at hl 1 rfl) ?_
          refine lv_aload_n hx hb dX10_advances_101 rfl (lv_at hl 0 rfl) ?_
          refine lv_aload_n hx hb dX10_advances_102 rfl (lv_at hl 0 rfl) ?_
          refine getO hC hH (0) rfl rfl in_X10_advances_X10 4 (by decide) (index := 80) (List.mem_of_getElem? (i := 1) rfl) rfl dX10_advances_103 ?_
          obtain ⟨r34, hr34, hf⟩ := ob hf
          refine callV_i [.int (gI S 0 4)] [.long x2] hC hH (c_X10_byteAt l G A S (gI S 0 4) _ hr34) (cwV 1 hts gX10_advances_X10_byteAt rfl rfl rfl (by decide +kernel) ⟨Nat.le_of_ble_eq_true rfl, Nat.le_of_ble_eq_true rfl⟩) (recvW hC hH (c0 := 0) (ci := 10) rfl rfl) rfl hl.1 rfl (Nat.le_of_ble_eq_true rfl) dX10_advances_106 (fun H locs hH => ?_)
          obtain ⟨r35, hr35, hf⟩ := ob hf
          refine callS_l [.long x2, .int r34] [] hC hH (c_X10_add l G A S x2 r34 _ hr35) (va_cwS 2 hts gX10_advances_X10_add rfl rfl rfl (by decide +kernel) ⟨Nat.le_of_ble_eq_true rfl, Nat.le_of_ble_eq_true rfl⟩) rfl hl.1 rfl (Nat.le_of_ble_eq_true rfl) dX10_advances_109 (fun H locs hH => ?_)
          refine lv_goto (tgt := 116) hx hb dX10_advances_112 (by decide) ?_
          exact kJ116 k130 hk130 _ hrec S r35 _ _ _ hH (lv_sub hl [0] rfl) hf
  have kJ153 : ∀ (S : St) (t1 : Int32) (H : Heap) (locs : List Loc) (ls : Array Slot), HW G A (MW G S) s H locs → lv_has ls 4 [] → f_X10_advances_153 N S t1 = some q → W p l e ({ frames := 3, cells := 0, slots := 0, locals := 70 } : Room) s m [.ref (gM G 0)].toArray below meth c H locs 0 0 Qm (F0 m 153 ls [.int t1, .ref (gM G 0)]) := by
    intro S t1 H locs ls hH hl hf
    rw [f_X10_advances_153] at hf
    refine putO hC hH (0) rfl rfl in_X10_advances_X10 tyX10 tyX10_ok nmX10 5 (by decide) (index := 90) (List.mem_of_getElem? (i := 3) rfl) rfl rfl rfl (Nat.le_of_ble_eq_true rfl) ms_0_5 dX10_advances_153 (fun H locs hH => ?_)
    obtain ⟨S41, eS41⟩ : ∃ Z : St, Z = sI S 0 5 t1 := ⟨_, rfl⟩
    rw [← eS41] at hH
    replace hf := bn eS41 hf
    refine lv_goto (tgt := 310) hx hb dX10_advances_156 (by decide) ?_
    exact fin S41 _ _ _ _ (Option.some.inj hf) hH dX10_advances_310
  have hf := hf
  rw [f_X10_advances] at hf
  refine kL0 _ ?_ N S _ _ _ hH (lv_sub hl [0] rfl) hf
  intro S4 H locs ls hH hl hf
  refine lv_aload_n hx hb dX10_advances_26 rfl (lv_at hl 0 rfl) ?_
  refine lv_aload_n hx hb dX10_advances_27 rfl (lv_at hl 0 rfl) ?_
  refine getO hC hH (0) rfl rfl in_X10_advances_X10 4 (by decide) (index := 80) (List.mem_of_getElem? (i := 1) rfl) rfl dX10_advances_28 ?_
  refine putO hC hH (0) rfl rfl in_X10_advances_X10 tyX10 tyX10_ok nmX10 6 (by decide) (index := 87) (List.mem_of_getElem? (i := 2) rfl) rfl rfl rfl (Nat.le_of_ble_eq_true rfl) ms_0_6 dX10_advances_31 (fun H locs hH => ?_)
  obtain ⟨S5, eS5⟩ : ∃ Z : St, Z = sI S4 0 6 (gI S4 0 4) := ⟨_, rfl⟩
  rw [← eS5] at hH
  replace hf := bn eS5 hf
  refine lv_aload_n hx hb dX10_advances_34 rfl (lv_at hl 0 rfl) ?_
  refine lv_aload_n hx hb dX10_advances_35 rfl (lv_at hl 0 rfl) ?_
  refine getO hC hH (0) rfl rfl in_X10_advances_X10 4 (by decide) (index := 80) (List.mem_of_getElem? (i := 1) rfl) rfl dX10_advances_36 ?_
  obtain ⟨r6, hr6, hf⟩ := ob hf
  refine callV_i [.int (gI S5 0 4)] [] hC hH (c_X10_byteAt l G A S5 (gI S5 0 4) _ hr6) (cwV 1 hts gX10_advances_X10_byteAt rfl rfl rfl (by decide +kernel) ⟨Nat.le_of_ble_eq_true rfl, Nat.le_of_ble_eq_true rfl⟩) (recvW hC hH (c0 := 0) (ci := 10) rfl rfl) rfl hl.1 rfl (Nat.le_of_ble_eq_true rfl) dX10_advances_39 (fun H locs hH => ?_)
  refine lv_istore_n (lv' := [(1, .int r6), (0, .ref (gM G 0))]) hx hb dX10_advances_42 rfl hl (by decide) rfl (fun ls hl => ?_)
  refine lv_iload_n hx hb dX10_advances_43 rfl (lv_at hl 0 rfl) ?_
  refine lv_if_ge (tgt := 55) hx hb dX10_advances_44 (by decide) (fun c7 => ?_) (fun c7 => ?_)
  · replace hf := it_t c7 hf
    refine lv_iload_n hx hb dX10_advances_55 rfl (lv_at hl 0 rfl) ?_
    refine lv_bipush (v := 97) hx hb dX10_advances_56 (by decide) ?_
    refine lv_bipush (v := 122) hx hb dX10_advances_58 (by decide) ?_
    obtain ⟨r8, hr8, hf⟩ := ob hf
    refine callS_i [.int r6, .int (97 : Int32), .int (122 : Int32)] [] hC hH (c_X10_in l G A S5 r6 (97 : Int32) (122 : Int32) _ hr8) (va_cwS 3 hts gX10_advances_X10_in rfl rfl rfl (by decide +kernel) ⟨Nat.le_of_ble_eq_true rfl, Nat.le_of_ble_eq_true rfl⟩) rfl hl.1 rfl (Nat.le_of_ble_eq_true rfl) dX10_advances_60 (fun H locs hH => ?_)
    refine lv_if_eq (tgt := 159) hx hb dX10_advances_63 (by decide) (fun c9 => ?_) (fun c9 => ?_)
    · replace hf := it_t c9 hf
      refine lv_iload_n hx hb dX10_advances_159 rfl (lv_at hl 0 rfl) ?_
      refine lv_bipush (v := 48) hx hb dX10_advances_160 (by decide) ?_
      refine lv_bipush (v := 57) hx hb dX10_advances_162 (by decide) ?_
      obtain ⟨r10, hr10, hf⟩ := ob hf
      refine callS_i [.int r6, .int (48 : Int32), .int (57 : Int32)] [] hC hH (c_X10_in l G A S5 r6 (48 : Int32) (57 : Int32) _ hr10) (va_cwS 3 hts gX10_advances_X10_in rfl rfl rfl (by decide +kernel) ⟨Nat.le_of_ble_eq_true rfl, Nat.le_of_ble_eq_true rfl⟩) rfl hl.1 rfl (Nat.le_of_ble_eq_true rfl) dX10_advances_164 (fun H locs hH => ?_)
      refine lv_if_eq (tgt := 285) hx hb dX10_advances_167 (by decide) (fun c11 => ?_) (fun c11 => ?_)
      · replace hf := it_t c11 hf
        refine lv_aload_n hx hb dX10_advances_285 rfl (lv_at hl 1 rfl) ?_
        refine lv_dup hx hb dX10_advances_286 rfl ?_
        refine getO hC hH (0) rfl rfl in_X10_advances_X10 4 (by decide) (index := 80) (List.mem_of_getElem? (i := 1) rfl) rfl dX10_advances_287 ?_
        refine lv_iconst (v := 1) hx hb dX10_advances_290 (by decide) ?_
        refine lv_iadd hx hb dX10_advances_291 ?_
        refine putO hC hH (0) rfl rfl in_X10_advances_X10 tyX10 tyX10_ok nmX10 4 (by decide) (index := 80) (List.mem_of_getElem? (i := 1) rfl) rfl rfl rfl (Nat.le_of_ble_eq_true rfl) ms_0_4 dX10_advances_292 (fun H locs hH => ?_)
        obtain ⟨S12, eS12⟩ : ∃ Z : St, Z = sI S5 0 4 ((gI S5 0 4) + (1 : Int32)) := ⟨_, rfl⟩
        rw [← eS12] at hH
        replace hf := bn eS12 hf
        refine lv_aload_n hx hb dX10_advances_295 rfl (lv_at hl 1 rfl) ?_
        refine lv_iload_n hx hb dX10_advances_296 rfl (lv_at hl 0 rfl) ?_
        refine lv_bipush (v := 59) hx hb dX10_advances_297 (by decide) ?_
        refine lv_icmp_ne (tgt := 306) hx hb dX10_advances_299 (by decide) (fun c13 => ?_) (fun c13 => ?_)
        · replace hf := it_f c13 hf
          refine lv_iconst (v := 4) hx hb dX10_advances_306 (by decide) ?_
          exact kJ307  S12 (4 : Int32) _ _ _ hH (lv_sub hl [] rfl) hf
        · replace hf := it_t c13 hf
          refine lv_iconst (v := 3) hx hb dX10_advances_302 (by decide) ?_
          refine lv_goto (tgt := 307) hx hb dX10_advances_303 (by decide) ?_
          exact kJ307  S12 (3 : Int32) _ _ _ hH (lv_sub hl [] rfl) hf
      · replace hf := it_f c11 hf
        refine lv_aload_n hx hb dX10_advances_170 rfl (lv_at hl 1 rfl) ?_
        refine lv_iconst (v := 0) hx hb dX10_advances_171 (by decide) ?_
        refine putO hC hH (0) rfl rfl in_X10_advances_X10 tyX10 tyX10_ok nmX10 7 (by decide) (index := 97) (List.mem_of_getElem? (i := 4) rfl) rfl rfl rfl (Nat.le_of_ble_eq_true rfl) ms_0_7 dX10_advances_172 (fun H locs hH => ?_)
        obtain ⟨S15, eS15⟩ : ∃ Z : St, Z = sI S5 0 7 (0 : Int32) := ⟨_, rfl⟩
        rw [← eS15] at hH
        replace hf := bn eS15 hf
        refine kL175 _ ?_ N S15 r6 _ _ _ hH (lv_sub hl [1, 0] rfl) hf
        intro S24 y23 H locs ls hH hl hf
        refine lv_aload_n hx hb dX10_advances_245 rfl (lv_at hl 0 rfl) ?_
        refine lv_aload_n hx hb dX10_advances_246 rfl (lv_at hl 0 rfl) ?_
        refine getO hC hH (0) rfl rfl in_X10_advances_X10 7 (by decide) (index := 97) (List.mem_of_getElem? (i := 4) rfl) rfl dX10_advances_247 ?_
        refine lv_bipush (v := 99) hx hb dX10_advances_250 (by decide) ?_
        refine lv_icmp_gt (tgt := 274) hx hb dX10_advances_252 (by decide) (fun c25 => ?_) (fun c25 => ?_)
        · replace hf := it_t c25 hf
          exact kJ274  S24 _ _ _ hH (lv_sub hl [] rfl) hf
        · replace hf := it_f c25 hf
          refine lv_iload_n hx hb dX10_advances_255 rfl (lv_at hl 1 rfl) ?_
          refine lv_bipush (v := 48) hx hb dX10_advances_256 (by decide) ?_
          refine lv_icmp_ne (tgt := 278) hx hb dX10_advances_258 (by decide) (fun c27 => ?_) (fun c27 => ?_)
          · replace hf := it_f c27 hf
            exact kJ278  S24 _ _ _ hH (lv_sub hl [] rfl) hf
          · replace hf := it_t c27 hf
            refine lv_aload_n hx hb dX10_advances_261 rfl (lv_at hl 0 rfl) ?_
            refine getO hC hH (0) rfl rfl in_X10_advances_X10 4 (by decide) (index := 80) (List.mem_of_getElem? (i := 1) rfl) rfl dX10_advances_262 ?_
            refine lv_aload_n hx hb dX10_advances_265 rfl (lv_at hl 0 rfl) ?_
            refine getO hC hH (0) rfl rfl in_X10_advances_X10 6 (by decide) (index := 87) (List.mem_of_getElem? (i := 2) rfl) rfl dX10_advances_266 ?_
            refine lv_isub hx hb dX10_advances_269 ?_
            refine lv_iconst (v := 1) hx hb dX10_advances_270 (by decide) ?_
            refine lv_icmp_le (tgt := 278) hx hb dX10_advances_271 (by decide) (fun c28 => ?_) (fun c28 => ?_)
            · replace hf := it_t c28 hf
              exact kJ278  S24 _ _ _ hH (lv_sub hl [] rfl) hf
            · replace hf := it_f c28 hf
              exact kJ274  S24 _ _ _ hH (lv_sub hl [] rfl) hf
    · replace hf := it_f c9 hf
      refine lv_lconst (v := 0) hx hb dX10_advances_66 (by decide) ?_
      refine lv_lstore_n (lv' := [(2, .long (0 : Int64)), (1, .int r6), (0, .ref (gM G 0))]) hx hb dX10_advances_67 rfl hl (by decide) rfl (fun ls hl => ?_)
      refine kL68 _ ?_ N S5 (0 : Int64) _ _ _ hH (lv_sub hl [2, 0] rfl) hf
      intro S37 y36 H locs ls hH hl hf
      refine lv_aload_n hx hb dX10_advances_130 rfl (lv_at hl 0 rfl) ?_
      refine lv_lload_n hx hb dX10_advances_131 rfl (lv_at hl 1 rfl) ?_
      obtain ⟨r38, hr38, hf⟩ := ob hf
      refine callS_i [.long y36] [.ref (gM G 0)] hC hH (c_X10_wordOf l G A S37 y36 _ hr38) (va_cwS 1 hts gX10_advances_X10_wordOf rfl rfl rfl (by decide +kernel) ⟨Nat.le_of_ble_eq_true rfl, Nat.le_of_ble_eq_true rfl⟩) rfl hl.1 rfl (Nat.le_of_ble_eq_true rfl) dX10_advances_132 (fun H locs hH => ?_)
      refine putO hC hH (0) rfl rfl in_X10_advances_X10 tyX10 tyX10_ok nmX10 7 (by decide) (index := 97) (List.mem_of_getElem? (i := 4) rfl) rfl rfl rfl (Nat.le_of_ble_eq_true rfl) ms_0_7 dX10_advances_135 (fun H locs hH => ?_)
      obtain ⟨S39, eS39⟩ : ∃ Z : St, Z = sI S37 0 7 r38 := ⟨_, rfl⟩
      rw [← eS39] at hH
      replace hf := bn eS39 hf
      refine lv_aload_n hx hb dX10_advances_138 rfl (lv_at hl 0 rfl) ?_
      refine lv_aload_n hx hb dX10_advances_139 rfl (lv_at hl 0 rfl) ?_
      refine getO hC hH (0) rfl rfl in_X10_advances_X10 7 (by decide) (index := 97) (List.mem_of_getElem? (i := 4) rfl) rfl dX10_advances_140 ?_
      refine lv_bipush (v := -9) hx hb dX10_advances_143 (by decide) ?_
      refine lv_icmp_ne (tgt := 152) hx hb dX10_advances_145 (by decide) (fun c40 => ?_) (fun c40 => ?_)
      · replace hf := it_f c40 hf
        refine lv_iconst (v := 1) hx hb dX10_advances_152 (by decide) ?_
        exact kJ153  S39 (1 : Int32) _ _ _ hH (lv_sub hl [] rfl) hf
      · replace hf := it_t c40 hf
        refine lv_iconst (v := 4) hx hb dX10_advances_148 (by decide) ?_
        refine lv_goto (tgt := 153) hx hb dX10_advances_149 (by decide) ?_
        exact kJ153  S39 (4 : Int32) _ _ _ hH (lv_sub hl [] rfl) hf
  · replace hf := it_f c7 hf
    refine lv_aload_n hx hb dX10_advances_47 rfl (lv_at hl 1 rfl) ?_
    refine lv_iconst (v := 0) hx hb dX10_advances_48 (by decide) ?_
    refine putO hC hH (0) rfl rfl in_X10_advances_X10 tyX10 tyX10_ok nmX10 5 (by decide) (index := 90) (List.mem_of_getElem? (i := 3) rfl) rfl rfl rfl (Nat.le_of_ble_eq_true rfl) ms_0_5 dX10_advances_49 (fun H locs hH => ?_)
    obtain ⟨S42, eS42⟩ : ∃ Z : St, Z = sI S5 0 5 (0 : Int32) := ⟨_, rfl⟩
    rw [← eS42] at hH
    replace hf := bn eS42 hf
    refine lv_goto (tgt := 310) hx hb dX10_advances_52 (by decide) ?_
    exact fin S42 _ _ _ _ (Option.some.inj hf) hH dX10_advances_310
theorem in_X10_isWell_X10 : ∀ w ∈ wsX100, w ∈ wsX10_isWell := fun w h => List.mem_cons_of_mem _ (List.mem_append_right _ h)
set_option maxRecDepth 100000 in
set_option maxHeartbeats 4000000 in
theorem c_X10_isWell (l : Launch) (G : Gt) (A : Nat → Prop) (S : St)   (q : Int32) (hf : f_X10_isWell S = some q) : Met l yX10_isWell wsX10_isWell ({ frames := 0, cells := 0, slots := 0, locals := 0 } : Room) (va_Pc [.ref (gM G 0)] (PK G A (MW G S))) (va_Qi (fun (r2 : Int32) S2 => r2 = q ∧ S2 = S) (fun S2 : St => PK G A (MW G S2)) A) 0 0 A := by
  refine mstart_z (ty := .boolean) (Wd := MW G) (cc := cX10_isWell) (maxL := 1) (by decide) rfl (Nat.le_of_ble_eq_true rfl) (fun p e s m below meth c Qm ls hC hH hl fin => ?_)
  obtain ⟨hx, hb, hml, hown, hts⟩ := id hC.1
  have hl : lv_has ls 1 [(0, .ref (gM G 0))] := hl
  have hf := hf
  rw [f_X10_isWell] at hf
  refine lv_aload_n hx hb dX10_isWell_0 rfl (lv_at hl 0 rfl) ?_
  refine getO hC hH (0) rfl rfl in_X10_isWell_X10 8 (by decide) (index := 100) (List.mem_of_getElem? (i := 1) rfl) rfl dX10_isWell_1 ?_
  refine lv_if_ge (tgt := 11) hx hb dX10_isWell_4 (by decide) (fun c1 => ?_) (fun c1 => ?_)
  · replace hf := it_t c1 hf
    refine lv_iconst (v := 0) hx hb dX10_isWell_11 (by decide) ?_
    exact fin (0 : Int32) S _ _ _ _ rfl (Option.some.inj hf) rfl hH dX10_isWell_12
  · replace hf := it_f c1 hf
    refine lv_iconst (v := 1) hx hb dX10_isWell_7 (by decide) ?_
    refine lv_goto (tgt := 12) hx hb dX10_isWell_8 (by decide) ?_
    exact fin (1 : Int32) S _ _ _ _ rfl (Option.some.inj hf) rfl hH dX10_isWell_12
theorem in_X10_takes_X10 : ∀ w ∈ wsX100, w ∈ wsX10_takes := fun w h => List.mem_cons_of_mem _ (List.mem_append_right _ h)
set_option maxRecDepth 100000 in
set_option maxHeartbeats 4000000 in
theorem c_X10_takes (l : Launch) (G : Gt) (A : Nat → Prop) (N : Nat) (S : St)  (a1 : Int32) (q : Int32 × St) (hf : f_X10_takes N S a1 = some q) : Met l yX10_takes wsX10_takes ({ frames := 4, cells := 0, slots := 0, locals := 93 } : Room) (va_Pc [.ref (gM G 0), .int a1] (PK G A (MW G S))) (va_Qi (fun (r2 : Int32) S2 => r2 = q.1 ∧ S2 = q.2) (fun S2 : St => PK G A (MW G S2)) A) 0 0 A := by
  refine mstart_i (Wd := MW G) (cc := cX10_takes) (maxL := 3) (by decide) rfl (Nat.le_of_ble_eq_true rfl) (fun p e s m below meth c Qm ls hC hH hl fin => ?_)
  obtain ⟨hx, hb, hml, hown, hts⟩ := id hC.1
  have hl : lv_has ls 3 [(0, .ref (gM G 0)), (1, .int a1)] := hl
  have hf := hf
  rw [f_X10_takes] at hf
  refine lv_aload_n hx hb dX10_takes_0 rfl (lv_at hl 0 rfl) ?_
  obtain ⟨r1, hr1, hf⟩ := ob hf
  refine callV_i [] [] hC hH (c_X10_isWell l G A S _ hr1) (cwV 0 hts gX10_takes_X10_isWell rfl rfl rfl (by decide +kernel) ⟨Nat.le_of_ble_eq_true rfl, Nat.le_of_ble_eq_true rfl⟩) (recvW hC hH (c0 := 0) (ci := 10) rfl rfl) rfl hl.1 rfl (Nat.le_of_ble_eq_true rfl) dX10_takes_1 (fun H locs hH => ?_)
  refine lv_if_ne (tgt := 9) hx hb dX10_takes_4 (by decide) (fun c2 => ?_) (fun c2 => ?_)
  · replace hf := it_f c2 hf
    refine lv_iload_n hx hb dX10_takes_9 rfl (lv_at hl 1 rfl) ?_
    refine lv_if_ne (tgt := 23) hx hb dX10_takes_10 (by decide) (fun c3 => ?_) (fun c3 => ?_)
    · replace hf := it_f c3 hf
      refine lv_aload_n hx hb dX10_takes_23 rfl (lv_at hl 0 rfl) ?_
      refine getO hC hH (0) rfl rfl in_X10_takes_X10 7 (by decide) (index := 97) (List.mem_of_getElem? (i := 3) rfl) rfl dX10_takes_24 ?_
      refine lv_topi (fun b4 eb4 => ?_)
      replace hf := bn eb4 hf
      refine lv_istore_n (lv' := [(2, .int b4), (0, .ref (gM G 0)), (1, .int a1)]) hx hb dX10_takes_27 rfl hl (by decide) rfl (fun ls hl => ?_)
      refine lv_aload_n hx hb dX10_takes_28 rfl (lv_at hl 1 rfl) ?_
      obtain ⟨r5, hr5, hf⟩ := ob hf
      refine callV_v [] [] hC hH (c_X10_advances l G A N S _ hr5) (cwV 0 hts gX10_takes_X10_advances rfl rfl rfl (by decide +kernel) ⟨Nat.le_of_ble_eq_true rfl, Nat.le_of_ble_eq_true rfl⟩) (recvW hC hH (c0 := 0) (ci := 10) rfl rfl) rfl hl.1 rfl (Nat.le_of_ble_eq_true rfl) dX10_takes_29 (fun H locs hH => ?_)
      refine lv_iload_n hx hb dX10_takes_32 rfl (lv_at hl 0 rfl) ?_
      exact fin b4 r5 _ _ _ _ (congrArg Prod.fst (Option.some.inj hf)) (congrArg Prod.snd (Option.some.inj hf)) hH dX10_takes_33
    · replace hf := it_t c3 hf
      refine lv_aload_n hx hb dX10_takes_13 rfl (lv_at hl 0 rfl) ?_
      refine lv_aload_n hx hb dX10_takes_14 rfl (lv_at hl 0 rfl) ?_
      refine getO hC hH (0) rfl rfl in_X10_takes_X10 6 (by decide) (index := 87) (List.mem_of_getElem? (i := 1) rfl) rfl dX10_takes_15 ?_
      refine putO hC hH (0) rfl rfl in_X10_takes_X10 tyX10 tyX10_ok nmX10 8 (by decide) (index := 100) (List.mem_of_getElem? (i := 2) rfl) rfl rfl rfl (Nat.le_of_ble_eq_true rfl) ms_0_8 dX10_takes_18 (fun H locs hH => ?_)
      obtain ⟨S6, eS6⟩ : ∃ Z : St, Z = sI S 0 8 (gI S 0 6) := ⟨_, rfl⟩
      rw [← eS6] at hH
      replace hf := bn eS6 hf
      refine lv_iconst (v := 0) hx hb dX10_takes_21 (by decide) ?_
      exact fin (0 : Int32) S6 _ _ _ _ (congrArg Prod.fst (Option.some.inj hf)) (congrArg Prod.snd (Option.some.inj hf)) hH dX10_takes_22
  · replace hf := it_t c2 hf
    refine lv_iconst (v := 0) hx hb dX10_takes_7 (by decide) ?_
    exact fin (0 : Int32) S _ _ _ _ (congrArg Prod.fst (Option.some.inj hf)) (congrArg Prod.snd (Option.some.inj hf)) hH dX10_takes_8
theorem in_X10_number_X10 : ∀ w ∈ wsX100, w ∈ wsX10_number := fun w h => List.mem_cons_of_mem _ (List.mem_append_right _ h)
set_option maxRecDepth 100000 in
set_option maxHeartbeats 4000000 in
theorem c_X10_number (l : Launch) (G : Gt) (A : Nat → Prop) (N : Nat) (S : St)  (a1 : Int32) (a2 : Int32) (q : Int32 × St) (hf : f_X10_number N S a1 a2 = some q) : Met l yX10_number wsX10_number ({ frames := 5, cells := 0, slots := 0, locals := 115 } : Room) (va_Pc [.ref (gM G 0), .int a1, .int a2] (PK G A (MW G S))) (va_Qi (fun (r2 : Int32) S2 => r2 = q.1 ∧ S2 = q.2) (fun S2 : St => PK G A (MW G S2)) A) 0 0 A := by
  refine mstart_i (Wd := MW G) (cc := cX10_number) (maxL := 3) (by decide) rfl (Nat.le_of_ble_eq_true rfl) (fun p e s m below meth c Qm ls hC hH hl fin => ?_)
  obtain ⟨hx, hb, hml, hown, hts⟩ := id hC.1
  have hl : lv_has ls 3 [(0, .ref (gM G 0)), (1, .int a1), (2, .int a2)] := hl
  have kJ26 : ∀ (S : St) (t1 : Int32) (H : Heap) (locs : List Loc) (ls : Array Slot), HW G A (MW G S) s H locs → lv_has ls 3 [] → f_X10_number_26 N S t1 = some q → W p l e ({ frames := 5, cells := 0, slots := 0, locals := 115 } : Room) s m [.ref (gM G 0), .int a1, .int a2].toArray below meth c H locs 0 0 Qm (F0 m 26 ls [.int t1, .ref (gM G 0)]) := by
    intro S t1 H locs ls hH hl hf
    rw [f_X10_number_26] at hf
    obtain ⟨r2, hr2, hf⟩ := ob hf
    refine callV_i [.int t1] [] hC hH (c_X10_takes l G A N S t1 _ hr2) (cwV 1 hts gX10_number_X10_takes rfl rfl rfl (by decide +kernel) ⟨Nat.le_of_ble_eq_true rfl, Nat.le_of_ble_eq_true rfl⟩) (recvW hC hH (c0 := 0) (ci := 10) rfl rfl) rfl hl.1 rfl (Nat.le_of_ble_eq_true rfl) dX10_number_26 (fun H locs hH => ?_)
    have hz : (r2.1, r2.2) = q := Option.some.inj hf
    have hz1 := congrArg Prod.fst hz
    have hz2 := congrArg Prod.snd hz
    exact fin r2.1 r2.2 _ _ _ _ hz1 hz2 hH dX10_number_29
  have kJ25 : ∀ (S : St) (H : Heap) (locs : List Loc) (ls : Array Slot), HW G A (MW G S) s H locs → lv_has ls 3 [] → f_X10_number_25 N S = some q → W p l e ({ frames := 5, cells := 0, slots := 0, locals := 115 } : Room) s m [.ref (gM G 0), .int a1, .int a2].toArray below meth c H locs 0 0 Qm (F0 m 25 ls [.ref (gM G 0)]) := by
    intro S H locs ls hH hl hf
    rw [f_X10_number_25] at hf
    refine lv_iconst (v := 0) hx hb dX10_number_25 (by decide) ?_
    exact kJ26  S (0 : Int32) _ _ _ hH (lv_sub hl [] rfl) hf
  have hf := hf
  rw [f_X10_number] at hf
  refine lv_aload_n hx hb dX10_number_0 rfl (lv_at hl 0 rfl) ?_
  refine lv_aload_n hx hb dX10_number_1 rfl (lv_at hl 0 rfl) ?_
  refine getO hC hH (0) rfl rfl in_X10_number_X10 5 (by decide) (index := 90) (List.mem_of_getElem? (i := 1) rfl) rfl dX10_number_2 ?_
  refine lv_iconst (v := 2) hx hb dX10_number_5 (by decide) ?_
  refine lv_icmp_ne (tgt := 25) hx hb dX10_number_6 (by decide) (fun c1 => ?_) (fun c1 => ?_)
  · replace hf := it_f c1 hf
    exact kJ25  S _ _ _ hH (lv_sub hl [] rfl) hf
  · replace hf := it_t c1 hf
    refine lv_aload_n hx hb dX10_number_9 rfl (lv_at hl 0 rfl) ?_
    refine getO hC hH (0) rfl rfl in_X10_number_X10 7 (by decide) (index := 97) (List.mem_of_getElem? (i := 2) rfl) rfl dX10_number_10 ?_
    refine lv_iload_n hx hb dX10_number_13 rfl (lv_at hl 1 rfl) ?_
    refine lv_iload_n hx hb dX10_number_14 rfl (lv_at hl 2 rfl) ?_
    obtain ⟨r3, hr3, hf⟩ := ob hf
    refine callS_i [.int (gI S 0 7), .int a1, .int a2] [.ref (gM G 0)] hC hH (c_X10_in l G A S (gI S 0 7) a1 a2 _ hr3) (va_cwS 3 hts gX10_number_X10_in rfl rfl rfl (by decide +kernel) ⟨Nat.le_of_ble_eq_true rfl, Nat.le_of_ble_eq_true rfl⟩) rfl hl.1 rfl (Nat.le_of_ble_eq_true rfl) dX10_number_15 (fun H locs hH => ?_)
    refine lv_if_eq (tgt := 25) hx hb dX10_number_18 (by decide) (fun c4 => ?_) (fun c4 => ?_)
    · replace hf := it_t c4 hf
      exact kJ25  S _ _ _ hH (lv_sub hl [] rfl) hf
    · replace hf := it_f c4 hf
      refine lv_iconst (v := 1) hx hb dX10_number_21 (by decide) ?_
      refine lv_goto (tgt := 26) hx hb dX10_number_22 (by decide) ?_
      exact kJ26  S (1 : Int32) _ _ _ hH (lv_sub hl [] rfl) hf
theorem in_X10_mayBegin_X10 : ∀ w ∈ wsX100, w ∈ wsX10_mayBegin := fun w h => List.mem_cons_of_mem _ (List.mem_append_right _ h)
set_option maxRecDepth 100000 in
set_option maxHeartbeats 4000000 in
theorem c_X10_mayBegin (l : Launch) (G : Gt) (A : Nat → Prop) (S : St)  (a1 : Int32) (q : Int32) (hf : f_X10_mayBegin S a1 = some q) : Met l yX10_mayBegin wsX10_mayBegin ({ frames := 0, cells := 0, slots := 0, locals := 0 } : Room) (va_Pc [.ref (gM G 0), .int a1] (PK G A (MW G S))) (va_Qi (fun (r2 : Int32) S2 => r2 = q ∧ S2 = S) (fun S2 : St => PK G A (MW G S2)) A) 0 0 A := by
  refine mstart_z (ty := .boolean) (Wd := MW G) (cc := cX10_mayBegin) (maxL := 2) (by decide) rfl (Nat.le_of_ble_eq_true rfl) (fun p e s m below meth c Qm ls hC hH hl fin => ?_)
  obtain ⟨hx, hb, hml, hown, hts⟩ := id hC.1
  have hl : lv_has ls 2 [(0, .ref (gM G 0)), (1, .int a1)] := hl
  have hf := hf
  rw [f_X10_mayBegin] at hf
  refine lv_aload_n hx hb dX10_mayBegin_0 rfl (lv_at hl 0 rfl) ?_
  refine getO hC hH (0) rfl rfl in_X10_mayBegin_X10 7 (by decide) (index := 97) (List.mem_of_getElem? (i := 1) rfl) rfl dX10_mayBegin_1 ?_
  refine lv_if_ne (tgt := 19) hx hb dX10_mayBegin_4 (by decide) (fun c1 => ?_) (fun c1 => ?_)
  · replace hf := it_f c1 hf
    refine lv_aload_n hx hb dX10_mayBegin_19 rfl (lv_at hl 0 rfl) ?_
    refine getO hC hH (0) rfl rfl in_X10_mayBegin_X10 7 (by decide) (index := 97) (List.mem_of_getElem? (i := 1) rfl) rfl dX10_mayBegin_20 ?_
    refine lv_iconst (v := 3) hx hb dX10_mayBegin_23 (by decide) ?_
    refine lv_icmp_ne (tgt := 43) hx hb dX10_mayBegin_24 (by decide) (fun c2 => ?_) (fun c2 => ?_)
    · replace hf := it_f c2 hf
      refine lv_aload_n hx hb dX10_mayBegin_43 rfl (lv_at hl 0 rfl) ?_
      refine getO hC hH (0) rfl rfl in_X10_mayBegin_X10 7 (by decide) (index := 97) (List.mem_of_getElem? (i := 1) rfl) rfl dX10_mayBegin_44 ?_
      refine lv_iconst (v := 3) hx hb dX10_mayBegin_47 (by decide) ?_
      refine lv_icmp_lt (tgt := 68) hx hb dX10_mayBegin_48 (by decide) (fun c3 => ?_) (fun c3 => ?_)
      · replace hf := it_t c3 hf
        refine lv_iconst (v := 1) hx hb dX10_mayBegin_68 (by decide) ?_
        refine lv_goto (tgt := 73) hx hb dX10_mayBegin_69 (by decide) ?_
        exact fin (1 : Int32) S _ _ _ _ rfl (Option.some.inj hf) rfl hH dX10_mayBegin_73
      · replace hf := it_f c3 hf
        refine lv_aload_n hx hb dX10_mayBegin_51 rfl (lv_at hl 0 rfl) ?_
        refine getO hC hH (0) rfl rfl in_X10_mayBegin_X10 13 (by decide) (index := 25) (List.mem_of_getElem? (i := 3) rfl) rfl dX10_mayBegin_52 ?_
        refine lv_bipush (v := 7) hx hb dX10_mayBegin_55 (by decide) ?_
        refine lv_aload_n hx hb dX10_mayBegin_57 rfl (lv_at hl 0 rfl) ?_
        refine getO hC hH (0) rfl rfl in_X10_mayBegin_X10 7 (by decide) (index := 97) (List.mem_of_getElem? (i := 1) rfl) rfl dX10_mayBegin_58 ?_
        refine lv_iadd hx hb dX10_mayBegin_61 ?_
        obtain ⟨g4, hf⟩ := gd hf
        refine aldI hC hH (6) rfl g4 dX10_mayBegin_62 ?_
        refine lv_bipush (v := -9) hx hb dX10_mayBegin_63 (by decide) ?_
        refine lv_icmp_ne (tgt := 72) hx hb dX10_mayBegin_65 (by decide) (fun c5 => ?_) (fun c5 => ?_)
        · replace hf := it_f c5 hf
          refine lv_iconst (v := 0) hx hb dX10_mayBegin_72 (by decide) ?_
          exact fin (0 : Int32) S _ _ _ _ rfl (Option.some.inj hf) rfl hH dX10_mayBegin_73
        · replace hf := it_t c5 hf
          refine lv_iconst (v := 1) hx hb dX10_mayBegin_68 (by decide) ?_
          refine lv_goto (tgt := 73) hx hb dX10_mayBegin_69 (by decide) ?_
          exact fin (1 : Int32) S _ _ _ _ rfl (Option.some.inj hf) rfl hH dX10_mayBegin_73
    · replace hf := it_t c2 hf
      refine lv_aload_n hx hb dX10_mayBegin_27 rfl (lv_at hl 0 rfl) ?_
      refine getO hC hH (0) rfl rfl in_X10_mayBegin_X10 17 (by decide) (index := 114) (List.mem_of_getElem? (i := 2) rfl) rfl dX10_mayBegin_28 ?_
      refine lv_iconst (v := 3) hx hb dX10_mayBegin_31 (by decide) ?_
      refine lv_icmp_ge (tgt := 39) hx hb dX10_mayBegin_32 (by decide) (fun c6 => ?_) (fun c6 => ?_)
      · replace hf := it_t c6 hf
        refine lv_iconst (v := 0) hx hb dX10_mayBegin_39 (by decide) ?_
        refine lv_goto (tgt := 73) hx hb dX10_mayBegin_40 (by decide) ?_
        exact fin (0 : Int32) S _ _ _ _ rfl (Option.some.inj hf) rfl hH dX10_mayBegin_73
      · replace hf := it_f c6 hf
        refine lv_iconst (v := 1) hx hb dX10_mayBegin_35 (by decide) ?_
        refine lv_goto (tgt := 73) hx hb dX10_mayBegin_36 (by decide) ?_
        exact fin (1 : Int32) S _ _ _ _ rfl (Option.some.inj hf) rfl hH dX10_mayBegin_73
  · replace hf := it_t c1 hf
    refine lv_iload_n hx hb dX10_mayBegin_7 rfl (lv_at hl 1 rfl) ?_
    refine lv_if_ne (tgt := 15) hx hb dX10_mayBegin_8 (by decide) (fun c7 => ?_) (fun c7 => ?_)
    · replace hf := it_f c7 hf
      refine lv_iconst (v := 0) hx hb dX10_mayBegin_15 (by decide) ?_
      refine lv_goto (tgt := 73) hx hb dX10_mayBegin_16 (by decide) ?_
      exact fin (0 : Int32) S _ _ _ _ rfl (Option.some.inj hf) rfl hH dX10_mayBegin_73
    · replace hf := it_t c7 hf
      refine lv_iconst (v := 1) hx hb dX10_mayBegin_11 (by decide) ?_
      refine lv_goto (tgt := 73) hx hb dX10_mayBegin_12 (by decide) ?_
      exact fin (1 : Int32) S _ _ _ _ rfl (Option.some.inj hf) rfl hH dX10_mayBegin_73
