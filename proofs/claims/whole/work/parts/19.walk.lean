/-! walks: X10_readsItem X10_settles X10_lane X10_isYard -/
theorem in_X10_readsItem_X10 : ∀ w ∈ wsX100, w ∈ wsX10_readsItem := fun w h => List.mem_cons_of_mem _ (List.mem_append_right _ h)
set_option maxRecDepth 100000 in
set_option maxHeartbeats 4000000 in
theorem c_X10_readsItem (l : Launch) (G : Gt) (A : Nat → Prop) (N : Nat) (S : St)  (a1 : Int32) (q : St) (hf : f_X10_readsItem N S a1 = some q) : Met l yX10_readsItem wsX10_readsItem ({ frames := 6, cells := 0, slots := 0, locals := 137 } : Room) (va_Pc [.ref (gM G 0), .int a1] (PK G A (MW G S))) (va_Qv (fun S2 => S2 = q) (fun S2 : St => PK G A (MW G S2)) A) 0 0 A := by
  refine mstart_v (Wd := MW G) (cc := cX10_readsItem) (maxL := 4) (by decide) rfl (Nat.le_of_ble_eq_true rfl) (fun p e s m below meth c Qm ls hC hH hl fin => ?_)
  obtain ⟨hx, hb, hml, hown, hts⟩ := id hC.1
  have hl : lv_has ls 4 [(0, .ref (gM G 0)), (1, .int a1)] := hl
  have kJ222 : ∀ (S : St) (t1 : Int32) (t3 : Int32) (t4 : Int32) (H : Heap) (locs : List Loc) (ls : Array Slot), HW G A (MW G S) s H locs → lv_has ls 4 [] → f_X10_readsItem_222 N S t1 t3 t4 = some q → W p l e ({ frames := 6, cells := 0, slots := 0, locals := 137 } : Room) s m [.ref (gM G 0), .int a1].toArray below meth c H locs 0 0 Qm (F0 m 222 ls [.int t4, .int t3, .ref (gM G 0), .int t1, .ref (gM G 6)]) := by
    intro S t1 t3 t4 H locs ls hH hl hf
    rw [f_X10_readsItem_222] at hf
    obtain ⟨r7, hr7, hf⟩ := ob hf
    refine callV_i [.int t3, .int t4] [.int t1, .ref (gM G 6)] hC hH (c_X10_number l G A N S t3 t4 _ hr7) (cwV 2 hts gX10_readsItem_X10_number rfl rfl rfl (by decide +kernel) ⟨Nat.le_of_ble_eq_true rfl, Nat.le_of_ble_eq_true rfl⟩) (recvW hC hH (c0 := 0) (ci := 10) rfl rfl) rfl hl.1 rfl (Nat.le_of_ble_eq_true rfl) dX10_readsItem_222 (fun H locs hH => ?_)
    obtain ⟨g8, hf⟩ := gd hf
    refine astI hC hH (6) rfl g8 mt_6 dX10_readsItem_225 (fun H locs hH => ?_)
    obtain ⟨S9, eS9⟩ : ∃ Z : St, Z = sA r7.2 6 (upd (gA r7.2 6) t1.toNatClampNeg r7.1) := ⟨_, rfl⟩
    rw [← eS9] at hH
    replace hf := bn eS9 hf
    exact fin S9 _ _ _ _ (Option.some.inj hf) hH dX10_readsItem_226
  have kJ135 : ∀ (S : St) (t1 : Int32) (t2 : Int32) (H : Heap) (locs : List Loc) (ls : Array Slot), HW G A (MW G S) s H locs → lv_has ls 4 [] → f_X10_readsItem_135 N S t1 t2 = some q → W p l e ({ frames := 6, cells := 0, slots := 0, locals := 137 } : Room) s m [.ref (gM G 0), .int a1].toArray below meth c H locs 0 0 Qm (F0 m 135 ls [.int t2, .int t1, .ref (gM G 3)]) := by
    intro S t1 t2 H locs ls hH hl hf
    rw [f_X10_readsItem_135] at hf
    obtain ⟨g21, hf⟩ := gd hf
    refine astI hC hH (3) rfl g21 mt_3 dX10_readsItem_135 (fun H locs hH => ?_)
    obtain ⟨S22, eS22⟩ : ∃ Z : St, Z = sA S 3 (upd (gA S 3) t1.toNatClampNeg t2) := ⟨_, rfl⟩
    rw [← eS22] at hH
    replace hf := bn eS22 hf
    refine lv_goto (tgt := 226) hx hb dX10_readsItem_136 (by decide) ?_
    exact fin S22 _ _ _ _ (Option.some.inj hf) hH dX10_readsItem_226
  have kJ86 : ∀ (S : St) (t1 : Int32) (t2 : Int32) (H : Heap) (locs : List Loc) (ls : Array Slot), HW G A (MW G S) s H locs → lv_has ls 4 [] → f_X10_readsItem_86 N S t1 t2 = some q → W p l e ({ frames := 6, cells := 0, slots := 0, locals := 137 } : Room) s m [.ref (gM G 0), .int a1].toArray below meth c H locs 0 0 Qm (F0 m 86 ls [.int t2, .int t1, .ref (gM G 2)]) := by
    intro S t1 t2 H locs ls hH hl hf
    rw [f_X10_readsItem_86] at hf
    obtain ⟨g28, hf⟩ := gd hf
    refine astI hC hH (2) rfl g28 mt_2 dX10_readsItem_86 (fun H locs hH => ?_)
    obtain ⟨S29, eS29⟩ : ∃ Z : St, Z = sA S 2 (upd (gA S 2) t1.toNatClampNeg t2) := ⟨_, rfl⟩
    rw [← eS29] at hH
    replace hf := bn eS29 hf
    refine lv_goto (tgt := 226) hx hb dX10_readsItem_87 (by decide) ?_
    exact fin S29 _ _ _ _ (Option.some.inj hf) hH dX10_readsItem_226
  have kJ28 : ∀ (S : St) (t1 : Int32) (H : Heap) (locs : List Loc) (ls : Array Slot), HW G A (MW G S) s H locs → lv_has ls 4 [] → f_X10_readsItem_28 N S t1 = some q → W p l e ({ frames := 6, cells := 0, slots := 0, locals := 137 } : Room) s m [.ref (gM G 0), .int a1].toArray below meth c H locs 0 0 Qm (F0 m 28 ls [.int t1, .ref (gM G 0)]) := by
    intro S t1 H locs ls hH hl hf
    rw [f_X10_readsItem_28] at hf
    refine putO hC hH (0) rfl rfl in_X10_readsItem_X10 tyX10 tyX10_ok nmX10 16 (by decide) (index := 121) (List.mem_of_getElem? (i := 1) rfl) rfl rfl rfl (Nat.le_of_ble_eq_true rfl) ms_0_16 dX10_readsItem_28 (fun H locs hH => ?_)
    obtain ⟨S33, eS33⟩ : ∃ Z : St, Z = sI S 0 16 t1 := ⟨_, rfl⟩
    rw [← eS33] at hH
    replace hf := bn eS33 hf
    refine lv_goto (tgt := 226) hx hb dX10_readsItem_31 (by decide) ?_
    exact fin S33 _ _ _ _ (Option.some.inj hf) hH dX10_readsItem_226
  have hf := hf
  rw [f_X10_readsItem] at hf
  refine lv_iload_n hx hb dX10_readsItem_0 rfl (lv_at hl 1 rfl) ?_
  refine lv_if_ne (tgt := 34) hx hb dX10_readsItem_1 (by decide) (fun c1 => ?_) (fun c1 => ?_)
  · replace hf := it_f c1 hf
    refine lv_iload_n hx hb dX10_readsItem_34 rfl (lv_at hl 1 rfl) ?_
    refine lv_iconst (v := 1) hx hb dX10_readsItem_35 (by decide) ?_
    refine lv_icmp_ne (tgt := 90) hx hb dX10_readsItem_36 (by decide) (fun c2 => ?_) (fun c2 => ?_)
    · replace hf := it_f c2 hf
      refine lv_iload_n hx hb dX10_readsItem_90 rfl (lv_at hl 1 rfl) ?_
      refine lv_iconst (v := 2) hx hb dX10_readsItem_91 (by decide) ?_
      refine lv_icmp_ne (tgt := 139) hx hb dX10_readsItem_92 (by decide) (fun c3 => ?_) (fun c3 => ?_)
      · replace hf := it_f c3 hf
        refine lv_iload_n hx hb dX10_readsItem_139 rfl (lv_at hl 1 rfl) ?_
        refine lv_iconst (v := 3) hx hb dX10_readsItem_140 (by decide) ?_
        refine lv_icmp_ne (tgt := 192) hx hb dX10_readsItem_141 (by decide) (fun c4 => ?_) (fun c4 => ?_)
        · replace hf := it_f c4 hf
          refine lv_aload_n hx hb dX10_readsItem_192 rfl (lv_at hl 0 rfl) ?_
          refine getO hC hH (0) rfl rfl in_X10_readsItem_X10 13 (by decide) (index := 25) (List.mem_of_getElem? (i := 7) rfl) rfl dX10_readsItem_193 ?_
          refine lv_bipush (v := 7) hx hb dX10_readsItem_196 (by decide) ?_
          refine lv_iload_n hx hb dX10_readsItem_198 rfl (lv_at hl 1 rfl) ?_
          refine lv_iadd hx hb dX10_readsItem_199 ?_
          refine lv_aload_n hx hb dX10_readsItem_200 rfl (lv_at hl 0 rfl) ?_
          refine lv_iconst (v := 1) hx hb dX10_readsItem_201 (by decide) ?_
          refine lv_iload_n hx hb dX10_readsItem_202 rfl (lv_at hl 1 rfl) ?_
          refine lv_iconst (v := 4) hx hb dX10_readsItem_203 (by decide) ?_
          refine lv_icmp_ne (tgt := 211) hx hb dX10_readsItem_204 (by decide) (fun c5 => ?_) (fun c5 => ?_)
          · replace hf := it_f c5 hf
            refine lv_iload_n hx hb dX10_readsItem_211 rfl (lv_at hl 1 rfl) ?_
            refine lv_iconst (v := 5) hx hb dX10_readsItem_212 (by decide) ?_
            refine lv_icmp_ne (tgt := 220) hx hb dX10_readsItem_213 (by decide) (fun c6 => ?_) (fun c6 => ?_)
            · replace hf := it_f c6 hf
              refine lv_bipush (v := 9) hx hb dX10_readsItem_220 (by decide) ?_
              exact kJ222  S ((7 : Int32) + a1) (1 : Int32) (9 : Int32) _ _ _ hH (lv_sub hl [] rfl) hf
            · replace hf := it_t c6 hf
              refine lv_iconst (v := 4) hx hb dX10_readsItem_216 (by decide) ?_
              refine lv_goto (tgt := 222) hx hb dX10_readsItem_217 (by decide) ?_
              exact kJ222  S ((7 : Int32) + a1) (1 : Int32) (4 : Int32) _ _ _ hH (lv_sub hl [] rfl) hf
          · replace hf := it_t c5 hf
            refine lv_iconst (v := 3) hx hb dX10_readsItem_207 (by decide) ?_
            refine lv_goto (tgt := 222) hx hb dX10_readsItem_208 (by decide) ?_
            exact kJ222  S ((7 : Int32) + a1) (1 : Int32) (3 : Int32) _ _ _ hH (lv_sub hl [] rfl) hf
        · replace hf := it_t c4 hf
          refine lv_aload_n hx hb dX10_readsItem_144 rfl (lv_at hl 0 rfl) ?_
          refine getO hC hH (0) rfl rfl in_X10_readsItem_X10 11 (by decide) (index := 19) (List.mem_of_getElem? (i := 4) rfl) rfl dX10_readsItem_145 ?_
          refine lv_iconst (v := 3) hx hb dX10_readsItem_148 (by decide) ?_
          refine lv_aload_n hx hb dX10_readsItem_149 rfl (lv_at hl 0 rfl) ?_
          refine getO hC hH (0) rfl rfl in_X10_readsItem_X10 17 (by decide) (index := 114) (List.mem_of_getElem? (i := 5) rfl) rfl dX10_readsItem_150 ?_
          refine lv_iadd hx hb dX10_readsItem_153 ?_
          refine lv_aload_n hx hb dX10_readsItem_154 rfl (lv_at hl 0 rfl) ?_
          refine lv_iconst (v := 1) hx hb dX10_readsItem_155 (by decide) ?_
          refine lv_iconst (v := 4) hx hb dX10_readsItem_156 (by decide) ?_
          obtain ⟨r10, hr10, hf⟩ := ob hf
          refine callV_i [.int (1 : Int32), .int (4 : Int32)] [.int ((3 : Int32) + (gI S 0 17)), .ref (gM G 4)] hC hH (c_X10_number l G A N S (1 : Int32) (4 : Int32) _ hr10) (cwV 2 hts gX10_readsItem_X10_number rfl rfl rfl (by decide +kernel) ⟨Nat.le_of_ble_eq_true rfl, Nat.le_of_ble_eq_true rfl⟩) (recvW hC hH (c0 := 0) (ci := 10) rfl rfl) rfl hl.1 rfl (Nat.le_of_ble_eq_true rfl) dX10_readsItem_157 (fun H locs hH => ?_)
          obtain ⟨g11, hf⟩ := gd hf
          refine astI hC hH (4) rfl g11 mt_4 dX10_readsItem_160 (fun H locs hH => ?_)
          obtain ⟨S12, eS12⟩ : ∃ Z : St, Z = sA r10.2 4 (upd (gA r10.2 4) ((3 : Int32) + (gI S 0 17)).toNatClampNeg r10.1) := ⟨_, rfl⟩
          rw [← eS12] at hH
          replace hf := bn eS12 hf
          refine lv_aload_n hx hb dX10_readsItem_161 rfl (lv_at hl 0 rfl) ?_
          refine getO hC hH (0) rfl rfl in_X10_readsItem_X10 12 (by decide) (index := 22) (List.mem_of_getElem? (i := 6) rfl) rfl dX10_readsItem_162 ?_
          refine lv_iconst (v := 3) hx hb dX10_readsItem_165 (by decide) ?_
          refine lv_aload_n hx hb dX10_readsItem_166 rfl (lv_at hl 0 rfl) ?_
          refine getO hC hH (0) rfl rfl in_X10_readsItem_X10 17 (by decide) (index := 114) (List.mem_of_getElem? (i := 5) rfl) rfl dX10_readsItem_167 ?_
          refine lv_iadd hx hb dX10_readsItem_170 ?_
          refine lv_aload_n hx hb dX10_readsItem_171 rfl (lv_at hl 0 rfl) ?_
          refine lv_iconst (v := 0) hx hb dX10_readsItem_172 (by decide) ?_
          refine lv_bipush (v := 9) hx hb dX10_readsItem_173 (by decide) ?_
          obtain ⟨r13, hr13, hf⟩ := ob hf
          refine callV_i [.int (0 : Int32), .int (9 : Int32)] [.int ((3 : Int32) + (gI S12 0 17)), .ref (gM G 5)] hC hH (c_X10_number l G A N S12 (0 : Int32) (9 : Int32) _ hr13) (cwV 2 hts gX10_readsItem_X10_number rfl rfl rfl (by decide +kernel) ⟨Nat.le_of_ble_eq_true rfl, Nat.le_of_ble_eq_true rfl⟩) (recvW hC hH (c0 := 0) (ci := 10) rfl rfl) rfl hl.1 rfl (Nat.le_of_ble_eq_true rfl) dX10_readsItem_175 (fun H locs hH => ?_)
          obtain ⟨g14, hf⟩ := gd hf
          refine astI hC hH (5) rfl g14 mt_5 dX10_readsItem_178 (fun H locs hH => ?_)
          obtain ⟨S15, eS15⟩ : ∃ Z : St, Z = sA r13.2 5 (upd (gA r13.2 5) ((3 : Int32) + (gI S12 0 17)).toNatClampNeg r13.1) := ⟨_, rfl⟩
          rw [← eS15] at hH
          replace hf := bn eS15 hf
          refine lv_aload_n hx hb dX10_readsItem_179 rfl (lv_at hl 0 rfl) ?_
          refine lv_dup hx hb dX10_readsItem_180 rfl ?_
          refine getO hC hH (0) rfl rfl in_X10_readsItem_X10 17 (by decide) (index := 114) (List.mem_of_getElem? (i := 5) rfl) rfl dX10_readsItem_181 ?_
          refine lv_iconst (v := 1) hx hb dX10_readsItem_184 (by decide) ?_
          refine lv_iadd hx hb dX10_readsItem_185 ?_
          refine putO hC hH (0) rfl rfl in_X10_readsItem_X10 tyX10 tyX10_ok nmX10 17 (by decide) (index := 114) (List.mem_of_getElem? (i := 5) rfl) rfl rfl rfl (Nat.le_of_ble_eq_true rfl) ms_0_17 dX10_readsItem_186 (fun H locs hH => ?_)
          obtain ⟨S16, eS16⟩ : ∃ Z : St, Z = sI S15 0 17 ((gI S15 0 17) + (1 : Int32)) := ⟨_, rfl⟩
          rw [← eS16] at hH
          replace hf := bn eS16 hf
          refine lv_goto (tgt := 226) hx hb dX10_readsItem_189 (by decide) ?_
          exact fin S16 _ _ _ _ (Option.some.inj hf) hH dX10_readsItem_226
      · replace hf := it_t c3 hf
        refine lv_aload_n hx hb dX10_readsItem_95 rfl (lv_at hl 0 rfl) ?_
        refine lv_iconst (v := 0) hx hb dX10_readsItem_96 (by decide) ?_
        refine lv_aload_n hx hb dX10_readsItem_97 rfl (lv_at hl 0 rfl) ?_
        refine getO hC hH (0) rfl rfl in_X10_readsItem_X10 16 (by decide) (index := 121) (List.mem_of_getElem? (i := 1) rfl) rfl dX10_readsItem_98 ?_
        refine lv_iconst (v := 1) hx hb dX10_readsItem_101 (by decide) ?_
        refine lv_isub hx hb dX10_readsItem_102 ?_
        obtain ⟨r17, hr17, hf⟩ := ob hf
        refine callV_i [.int (0 : Int32), .int ((gI S 0 16) - (1 : Int32))] [] hC hH (c_X10_number l G A N S (0 : Int32) ((gI S 0 16) - (1 : Int32)) _ hr17) (cwV 2 hts gX10_readsItem_X10_number rfl rfl rfl (by decide +kernel) ⟨Nat.le_of_ble_eq_true rfl, Nat.le_of_ble_eq_true rfl⟩) (recvW hC hH (c0 := 0) (ci := 10) rfl rfl) rfl hl.1 rfl (Nat.le_of_ble_eq_true rfl) dX10_readsItem_103 (fun H locs hH => ?_)
        refine lv_istore_n (lv' := [(2, .int r17.1), (0, .ref (gM G 0)), (1, .int a1)]) hx hb dX10_readsItem_106 rfl hl (by decide) rfl (fun ls hl => ?_)
        refine lv_aload_n hx hb dX10_readsItem_107 rfl (lv_at hl 1 rfl) ?_
        refine getO hC hH (0) rfl rfl in_X10_readsItem_X10 10 (by decide) (index := 16) (List.mem_of_getElem? (i := 3) rfl) rfl dX10_readsItem_108 ?_
        refine lv_bipush (v := 24) hx hb dX10_readsItem_111 (by decide) ?_
        refine lv_iload_n hx hb dX10_readsItem_113 rfl (lv_at hl 0 rfl) ?_
        refine lv_iadd hx hb dX10_readsItem_114 ?_
        refine lv_aload_n hx hb dX10_readsItem_115 rfl (lv_at hl 1 rfl) ?_
        obtain ⟨r18, hr18, hf⟩ := ob hf
        refine callV_i [] [.int ((24 : Int32) + r17.1), .ref (gM G 3)] hC hH (c_X10_isWell l G A r17.2 _ hr18) (cwV 0 hts gX10_readsItem_X10_isWell rfl rfl rfl (by decide +kernel) ⟨Nat.le_of_ble_eq_true rfl, Nat.le_of_ble_eq_true rfl⟩) (recvW hC hH (c0 := 0) (ci := 10) rfl rfl) rfl hl.1 rfl (Nat.le_of_ble_eq_true rfl) dX10_readsItem_116 (fun H locs hH => ?_)
        refine lv_if_eq (tgt := 126) hx hb dX10_readsItem_119 (by decide) (fun c19 => ?_) (fun c19 => ?_)
        · replace hf := it_t c19 hf
          refine lv_aload_n hx hb dX10_readsItem_126 rfl (lv_at hl 1 rfl) ?_
          refine getO hC hH (0) rfl rfl in_X10_readsItem_X10 10 (by decide) (index := 16) (List.mem_of_getElem? (i := 3) rfl) rfl dX10_readsItem_127 ?_
          refine lv_bipush (v := 24) hx hb dX10_readsItem_130 (by decide) ?_
          refine lv_iload_n hx hb dX10_readsItem_132 rfl (lv_at hl 0 rfl) ?_
          refine lv_iadd hx hb dX10_readsItem_133 ?_
          obtain ⟨g20, hf⟩ := gd hf
          refine aldI hC hH (3) rfl g20 dX10_readsItem_134 ?_
          exact kJ135  r17.2 ((24 : Int32) + r17.1) (gA r17.2 3 ((24 : Int32) + r17.1).toNatClampNeg) _ _ _ hH (lv_sub hl [] rfl) hf
        · replace hf := it_f c19 hf
          refine lv_iconst (v := 1) hx hb dX10_readsItem_122 (by decide) ?_
          refine lv_goto (tgt := 135) hx hb dX10_readsItem_123 (by decide) ?_
          exact kJ135  r17.2 ((24 : Int32) + r17.1) (1 : Int32) _ _ _ hH (lv_sub hl [] rfl) hf
    · replace hf := it_t c2 hf
      refine lv_aload_n hx hb dX10_readsItem_39 rfl (lv_at hl 0 rfl) ?_
      refine lv_iconst (v := 0) hx hb dX10_readsItem_40 (by decide) ?_
      refine lv_aload_n hx hb dX10_readsItem_41 rfl (lv_at hl 0 rfl) ?_
      refine getO hC hH (0) rfl rfl in_X10_readsItem_X10 16 (by decide) (index := 121) (List.mem_of_getElem? (i := 1) rfl) rfl dX10_readsItem_42 ?_
      refine lv_iconst (v := 1) hx hb dX10_readsItem_45 (by decide) ?_
      refine lv_isub hx hb dX10_readsItem_46 ?_
      obtain ⟨r23, hr23, hf⟩ := ob hf
      refine callV_i [.int (0 : Int32), .int ((gI S 0 16) - (1 : Int32))] [] hC hH (c_X10_number l G A N S (0 : Int32) ((gI S 0 16) - (1 : Int32)) _ hr23) (cwV 2 hts gX10_readsItem_X10_number rfl rfl rfl (by decide +kernel) ⟨Nat.le_of_ble_eq_true rfl, Nat.le_of_ble_eq_true rfl⟩) (recvW hC hH (c0 := 0) (ci := 10) rfl rfl) rfl hl.1 rfl (Nat.le_of_ble_eq_true rfl) dX10_readsItem_47 (fun H locs hH => ?_)
      refine lv_istore_n (lv' := [(2, .int r23.1), (0, .ref (gM G 0)), (1, .int a1)]) hx hb dX10_readsItem_50 rfl hl (by decide) rfl (fun ls hl => ?_)
      refine lv_aload_n hx hb dX10_readsItem_51 rfl (lv_at hl 1 rfl) ?_
      refine lv_iconst (v := 1) hx hb dX10_readsItem_52 (by decide) ?_
      refine lv_iconst (v := 3) hx hb dX10_readsItem_53 (by decide) ?_
      obtain ⟨r24, hr24, hf⟩ := ob hf
      refine callV_i [.int (1 : Int32), .int (3 : Int32)] [] hC hH (c_X10_number l G A N r23.2 (1 : Int32) (3 : Int32) _ hr24) (cwV 2 hts gX10_readsItem_X10_number rfl rfl rfl (by decide +kernel) ⟨Nat.le_of_ble_eq_true rfl, Nat.le_of_ble_eq_true rfl⟩) (recvW hC hH (c0 := 0) (ci := 10) rfl rfl) rfl hl.1 rfl (Nat.le_of_ble_eq_true rfl) dX10_readsItem_54 (fun H locs hH => ?_)
      refine lv_istore_n (lv' := [(3, .int r24.1), (2, .int r23.1), (0, .ref (gM G 0)), (1, .int a1)]) hx hb dX10_readsItem_57 rfl hl (by decide) rfl (fun ls hl => ?_)
      refine lv_aload_n hx hb dX10_readsItem_58 rfl (lv_at hl 2 rfl) ?_
      refine getO hC hH (0) rfl rfl in_X10_readsItem_X10 9 (by decide) (index := 13) (List.mem_of_getElem? (i := 2) rfl) rfl dX10_readsItem_59 ?_
      refine lv_bipush (v := 24) hx hb dX10_readsItem_62 (by decide) ?_
      refine lv_iload_n hx hb dX10_readsItem_64 rfl (lv_at hl 1 rfl) ?_
      refine lv_iadd hx hb dX10_readsItem_65 ?_
      refine lv_aload_n hx hb dX10_readsItem_66 rfl (lv_at hl 2 rfl) ?_
      obtain ⟨r25, hr25, hf⟩ := ob hf
      refine callV_i [] [.int ((24 : Int32) + r23.1), .ref (gM G 2)] hC hH (c_X10_isWell l G A r24.2 _ hr25) (cwV 0 hts gX10_readsItem_X10_isWell rfl rfl rfl (by decide +kernel) ⟨Nat.le_of_ble_eq_true rfl, Nat.le_of_ble_eq_true rfl⟩) (recvW hC hH (c0 := 0) (ci := 10) rfl rfl) rfl hl.1 rfl (Nat.le_of_ble_eq_true rfl) dX10_readsItem_67 (fun H locs hH => ?_)
      refine lv_if_eq (tgt := 77) hx hb dX10_readsItem_70 (by decide) (fun c26 => ?_) (fun c26 => ?_)
      · replace hf := it_t c26 hf
        refine lv_aload_n hx hb dX10_readsItem_77 rfl (lv_at hl 2 rfl) ?_
        refine getO hC hH (0) rfl rfl in_X10_readsItem_X10 9 (by decide) (index := 13) (List.mem_of_getElem? (i := 2) rfl) rfl dX10_readsItem_78 ?_
        refine lv_bipush (v := 24) hx hb dX10_readsItem_81 (by decide) ?_
        refine lv_iload_n hx hb dX10_readsItem_83 rfl (lv_at hl 1 rfl) ?_
        refine lv_iadd hx hb dX10_readsItem_84 ?_
        obtain ⟨g27, hf⟩ := gd hf
        refine aldI hC hH (2) rfl g27 dX10_readsItem_85 ?_
        exact kJ86  r24.2 ((24 : Int32) + r23.1) (gA r24.2 2 ((24 : Int32) + r23.1).toNatClampNeg) _ _ _ hH (lv_sub hl [] rfl) hf
      · replace hf := it_f c26 hf
        refine lv_iload_n hx hb dX10_readsItem_73 rfl (lv_at hl 0 rfl) ?_
        refine lv_goto (tgt := 86) hx hb dX10_readsItem_74 (by decide) ?_
        exact kJ86  r24.2 ((24 : Int32) + r23.1) r24.1 _ _ _ hH (lv_sub hl [] rfl) hf
  · replace hf := it_t c1 hf
    refine lv_aload_n hx hb dX10_readsItem_4 rfl (lv_at hl 0 rfl) ?_
    refine lv_iconst (v := 4) hx hb dX10_readsItem_5 (by decide) ?_
    refine lv_bipush (v := 24) hx hb dX10_readsItem_6 (by decide) ?_
    obtain ⟨r30, hr30, hf⟩ := ob hf
    refine callV_i [.int (4 : Int32), .int (24 : Int32)] [] hC hH (c_X10_number l G A N S (4 : Int32) (24 : Int32) _ hr30) (cwV 2 hts gX10_readsItem_X10_number rfl rfl rfl (by decide +kernel) ⟨Nat.le_of_ble_eq_true rfl, Nat.le_of_ble_eq_true rfl⟩) (recvW hC hH (c0 := 0) (ci := 10) rfl rfl) rfl hl.1 rfl (Nat.le_of_ble_eq_true rfl) dX10_readsItem_8 (fun H locs hH => ?_)
    refine lv_istore_n (lv' := [(2, .int r30.1), (0, .ref (gM G 0)), (1, .int a1)]) hx hb dX10_readsItem_11 rfl hl (by decide) rfl (fun ls hl => ?_)
    refine lv_aload_n hx hb dX10_readsItem_12 rfl (lv_at hl 1 rfl) ?_
    refine lv_aload_n hx hb dX10_readsItem_13 rfl (lv_at hl 1 rfl) ?_
    obtain ⟨r31, hr31, hf⟩ := ob hf
    refine callV_i [] [.ref (gM G 0)] hC hH (c_X10_isWell l G A r30.2 _ hr31) (cwV 0 hts gX10_readsItem_X10_isWell rfl rfl rfl (by decide +kernel) ⟨Nat.le_of_ble_eq_true rfl, Nat.le_of_ble_eq_true rfl⟩) (recvW hC hH (c0 := 0) (ci := 10) rfl rfl) rfl hl.1 rfl (Nat.le_of_ble_eq_true rfl) dX10_readsItem_14 (fun H locs hH => ?_)
    refine lv_if_eq (tgt := 24) hx hb dX10_readsItem_17 (by decide) (fun c32 => ?_) (fun c32 => ?_)
    · replace hf := it_t c32 hf
      refine lv_aload_n hx hb dX10_readsItem_24 rfl (lv_at hl 1 rfl) ?_
      refine getO hC hH (0) rfl rfl in_X10_readsItem_X10 16 (by decide) (index := 121) (List.mem_of_getElem? (i := 1) rfl) rfl dX10_readsItem_25 ?_
      exact kJ28  r30.2 (gI r30.2 0 16) _ _ _ hH (lv_sub hl [] rfl) hf
    · replace hf := it_f c32 hf
      refine lv_iload_n hx hb dX10_readsItem_20 rfl (lv_at hl 0 rfl) ?_
      refine lv_goto (tgt := 28) hx hb dX10_readsItem_21 (by decide) ?_
      exact kJ28  r30.2 r30.1 _ _ _ hH (lv_sub hl [] rfl) hf
theorem in_X10_settles_X10 : ∀ w ∈ wsX100, w ∈ wsX10_settles := fun w h => List.mem_cons_of_mem _ (List.mem_append_right _ h)
set_option maxRecDepth 100000 in
set_option maxHeartbeats 4000000 in
theorem c_X10_settles (l : Launch) (G : Gt) (A : Nat → Prop) (N : Nat) (S : St)   (q : St) (hf : f_X10_settles N S = some q) : Met l yX10_settles wsX10_settles ({ frames := 0, cells := 0, slots := 0, locals := 0 } : Room) (va_Pc [.ref (gM G 0)] (PK G A (MW G S))) (va_Qv (fun S2 => S2 = q) (fun S2 : St => PK G A (MW G S2)) A) 0 0 A := by
  refine mstart_v (Wd := MW G) (cc := cX10_settles) (maxL := 2) (by decide) rfl (Nat.le_of_ble_eq_true rfl) (fun p e s m below meth c Qm ls hC hH hl fin => ?_)
  obtain ⟨hx, hb, hml, hown, hts⟩ := id hC.1
  have hl : lv_has ls 2 [(0, .ref (gM G 0))] := hl
  have kL18 : ∀ (k60 : St → Option St) (hk60 : ∀ (S : St) (H : Heap) (locs : List Loc) (ls : Array Slot), HW G A (MW G S) s H locs → lv_has ls 2 [(0, .ref (gM G 0))] → k60 S = some q → W p l e ({ frames := 0, cells := 0, slots := 0, locals := 0 } : Room) s m [.ref (gM G 0)].toArray below meth c H locs 0 0 Qm (F0 m 60 ls [])) , ∀ (n : Nat), ∀ (S : St) (x1 : Int32) (H : Heap) (locs : List Loc) (ls : Array Slot), HW G A (MW G S) s H locs → lv_has ls 2 [(0, .ref (gM G 0)), (1, .int x1)] → g_X10_settles_18 N k60 n S x1 = some q → W p l e ({ frames := 0, cells := 0, slots := 0, locals := 0 } : Room) s m [.ref (gM G 0)].toArray below meth c H locs 0 0 Qm (F0 m 18 ls []) := by
    intro k60 hk60 n
    induction n with
    | zero => intro S x1 H locs ls hH hl hf; exact absurd hf.symm (Option.some_ne_none q)
    | succ n ih =>
      intro S x1 H locs ls hH hl hf
      have hrec := ih
      have hf : s_X10_settles_18 N k60 (g_X10_settles_18 N k60 n) S x1 = some q := hf
      rw [s_X10_settles_18] at hf
      refine lv_iload_n hx hb dX10_settles_18 rfl (lv_at hl 1 rfl) ?_
      refine lv_bipush (v := 24) hx hb dX10_settles_19 (by decide) ?_
      refine lv_icmp_ge (tgt := 60) hx hb dX10_settles_21 (by decide) (fun c3 => ?_) (fun c3 => ?_)
      · replace hf := it_t c3 hf
        exact hk60 S _ _ _ hH (lv_sub hl [0] rfl) hf
      · replace hf := it_f c3 hf
        refine lv_aload_n hx hb dX10_settles_24 rfl (lv_at hl 0 rfl) ?_
        refine getO hC hH (0) rfl rfl in_X10_settles_X10 9 (by decide) (index := 13) (List.mem_of_getElem? (i := 5) rfl) rfl dX10_settles_25 ?_
        refine lv_iload_n hx hb dX10_settles_28 rfl (lv_at hl 1 rfl) ?_
        refine lv_aload_n hx hb dX10_settles_29 rfl (lv_at hl 0 rfl) ?_
        refine getO hC hH (0) rfl rfl in_X10_settles_X10 9 (by decide) (index := 13) (List.mem_of_getElem? (i := 5) rfl) rfl dX10_settles_30 ?_
        refine lv_bipush (v := 24) hx hb dX10_settles_33 (by decide) ?_
        refine lv_iload_n hx hb dX10_settles_35 rfl (lv_at hl 1 rfl) ?_
        refine lv_iadd hx hb dX10_settles_36 ?_
        obtain ⟨g4, hf⟩ := gd hf
        refine aldI hC hH (2) rfl g4 dX10_settles_37 ?_
        obtain ⟨g5, hf⟩ := gd hf
        refine astI hC hH (2) rfl g5 mt_2 dX10_settles_38 (fun H locs hH => ?_)
        obtain ⟨S6, eS6⟩ : ∃ Z : St, Z = sA S 2 (upd (gA S 2) x1.toNatClampNeg (gA S 2 ((24 : Int32) + x1).toNatClampNeg)) := ⟨_, rfl⟩
        rw [← eS6] at hH
        replace hf := bn eS6 hf
        refine lv_aload_n hx hb dX10_settles_39 rfl (lv_at hl 0 rfl) ?_
        refine getO hC hH (0) rfl rfl in_X10_settles_X10 10 (by decide) (index := 16) (List.mem_of_getElem? (i := 6) rfl) rfl dX10_settles_40 ?_
        refine lv_iload_n hx hb dX10_settles_43 rfl (lv_at hl 1 rfl) ?_
        refine lv_aload_n hx hb dX10_settles_44 rfl (lv_at hl 0 rfl) ?_
        refine getO hC hH (0) rfl rfl in_X10_settles_X10 10 (by decide) (index := 16) (List.mem_of_getElem? (i := 6) rfl) rfl dX10_settles_45 ?_
        refine lv_bipush (v := 24) hx hb dX10_settles_48 (by decide) ?_
        refine lv_iload_n hx hb dX10_settles_50 rfl (lv_at hl 1 rfl) ?_
        refine lv_iadd hx hb dX10_settles_51 ?_
        obtain ⟨g7, hf⟩ := gd hf
        refine aldI hC hH (3) rfl g7 dX10_settles_52 ?_
        obtain ⟨g8, hf⟩ := gd hf
        refine astI hC hH (3) rfl g8 mt_3 dX10_settles_53 (fun H locs hH => ?_)
        obtain ⟨S9, eS9⟩ : ∃ Z : St, Z = sA S6 3 (upd (gA S6 3) x1.toNatClampNeg (gA S6 3 ((24 : Int32) + x1).toNatClampNeg)) := ⟨_, rfl⟩
        rw [← eS9] at hH
        replace hf := bn eS9 hf
        refine lv_iinc (v := x1 + (1 : Int32)) (lv' := [(1, .int (x1 + (1 : Int32))), (0, .ref (gM G 0))]) hx hb dX10_settles_54 hl (k := 1) rfl rfl (by decide) rfl (fun ls hl => ?_)
        refine lv_goto (tgt := 18) hx hb dX10_settles_57 (by decide) ?_
        exact hrec S9 (x1 + (1 : Int32)) _ _ _ hH (lv_sub hl [1, 0] rfl) hf
  have kL62 : ∀ (k101 : St → Option St) (hk101 : ∀ (S : St) (H : Heap) (locs : List Loc) (ls : Array Slot), HW G A (MW G S) s H locs → lv_has ls 2 [(0, .ref (gM G 0))] → k101 S = some q → W p l e ({ frames := 0, cells := 0, slots := 0, locals := 0 } : Room) s m [.ref (gM G 0)].toArray below meth c H locs 0 0 Qm (F0 m 101 ls [])) , ∀ (n : Nat), ∀ (S : St) (x1 : Int32) (H : Heap) (locs : List Loc) (ls : Array Slot), HW G A (MW G S) s H locs → lv_has ls 2 [(0, .ref (gM G 0)), (1, .int x1)] → g_X10_settles_62 N k101 n S x1 = some q → W p l e ({ frames := 0, cells := 0, slots := 0, locals := 0 } : Room) s m [.ref (gM G 0)].toArray below meth c H locs 0 0 Qm (F0 m 62 ls []) := by
    intro k101 hk101 n
    induction n with
    | zero => intro S x1 H locs ls hH hl hf; exact absurd hf.symm (Option.some_ne_none q)
    | succ n ih =>
      intro S x1 H locs ls hH hl hf
      have hrec := ih
      have hf : s_X10_settles_62 N k101 (g_X10_settles_62 N k101 n) S x1 = some q := hf
      rw [s_X10_settles_62] at hf
      refine lv_iload_n hx hb dX10_settles_62 rfl (lv_at hl 1 rfl) ?_
      refine lv_iconst (v := 3) hx hb dX10_settles_63 (by decide) ?_
      refine lv_icmp_ge (tgt := 101) hx hb dX10_settles_64 (by decide) (fun c11 => ?_) (fun c11 => ?_)
      · replace hf := it_t c11 hf
        exact hk101 S _ _ _ hH (lv_sub hl [0] rfl) hf
      · replace hf := it_f c11 hf
        refine lv_aload_n hx hb dX10_settles_67 rfl (lv_at hl 0 rfl) ?_
        refine getO hC hH (0) rfl rfl in_X10_settles_X10 11 (by decide) (index := 19) (List.mem_of_getElem? (i := 7) rfl) rfl dX10_settles_68 ?_
        refine lv_iload_n hx hb dX10_settles_71 rfl (lv_at hl 1 rfl) ?_
        refine lv_aload_n hx hb dX10_settles_72 rfl (lv_at hl 0 rfl) ?_
        refine getO hC hH (0) rfl rfl in_X10_settles_X10 11 (by decide) (index := 19) (List.mem_of_getElem? (i := 7) rfl) rfl dX10_settles_73 ?_
        refine lv_iconst (v := 3) hx hb dX10_settles_76 (by decide) ?_
        refine lv_iload_n hx hb dX10_settles_77 rfl (lv_at hl 1 rfl) ?_
        refine lv_iadd hx hb dX10_settles_78 ?_
        obtain ⟨g12, hf⟩ := gd hf
        refine aldI hC hH (4) rfl g12 dX10_settles_79 ?_
        obtain ⟨g13, hf⟩ := gd hf
        refine astI hC hH (4) rfl g13 mt_4 dX10_settles_80 (fun H locs hH => ?_)
        obtain ⟨S14, eS14⟩ : ∃ Z : St, Z = sA S 4 (upd (gA S 4) x1.toNatClampNeg (gA S 4 ((3 : Int32) + x1).toNatClampNeg)) := ⟨_, rfl⟩
        rw [← eS14] at hH
        replace hf := bn eS14 hf
        refine lv_aload_n hx hb dX10_settles_81 rfl (lv_at hl 0 rfl) ?_
        refine getO hC hH (0) rfl rfl in_X10_settles_X10 12 (by decide) (index := 22) (List.mem_of_getElem? (i := 8) rfl) rfl dX10_settles_82 ?_
        refine lv_iload_n hx hb dX10_settles_85 rfl (lv_at hl 1 rfl) ?_
        refine lv_aload_n hx hb dX10_settles_86 rfl (lv_at hl 0 rfl) ?_
        refine getO hC hH (0) rfl rfl in_X10_settles_X10 12 (by decide) (index := 22) (List.mem_of_getElem? (i := 8) rfl) rfl dX10_settles_87 ?_
        refine lv_iconst (v := 3) hx hb dX10_settles_90 (by decide) ?_
        refine lv_iload_n hx hb dX10_settles_91 rfl (lv_at hl 1 rfl) ?_
        refine lv_iadd hx hb dX10_settles_92 ?_
        obtain ⟨g15, hf⟩ := gd hf
        refine aldI hC hH (5) rfl g15 dX10_settles_93 ?_
        obtain ⟨g16, hf⟩ := gd hf
        refine astI hC hH (5) rfl g16 mt_5 dX10_settles_94 (fun H locs hH => ?_)
        obtain ⟨S17, eS17⟩ : ∃ Z : St, Z = sA S14 5 (upd (gA S14 5) x1.toNatClampNeg (gA S14 5 ((3 : Int32) + x1).toNatClampNeg)) := ⟨_, rfl⟩
        rw [← eS17] at hH
        replace hf := bn eS17 hf
        refine lv_iinc (v := x1 + (1 : Int32)) (lv' := [(1, .int (x1 + (1 : Int32))), (0, .ref (gM G 0))]) hx hb dX10_settles_95 hl (k := 1) rfl rfl (by decide) rfl (fun ls hl => ?_)
        refine lv_goto (tgt := 62) hx hb dX10_settles_98 (by decide) ?_
        exact hrec S17 (x1 + (1 : Int32)) _ _ _ hH (lv_sub hl [1, 0] rfl) hf
  have kL191 : ∀ (k210 : St → Option St) (hk210 : ∀ (S : St) (H : Heap) (locs : List Loc) (ls : Array Slot), HW G A (MW G S) s H locs → lv_has ls 2 [(0, .ref (gM G 0))] → k210 S = some q → W p l e ({ frames := 0, cells := 0, slots := 0, locals := 0 } : Room) s m [.ref (gM G 0)].toArray below meth c H locs 0 0 Qm (F0 m 210 ls [])) , ∀ (n : Nat), ∀ (S : St) (x1 : Int32) (H : Heap) (locs : List Loc) (ls : Array Slot), HW G A (MW G S) s H locs → lv_has ls 2 [(0, .ref (gM G 0)), (1, .int x1)] → g_X10_settles_191 N k210 n S x1 = some q → W p l e ({ frames := 0, cells := 0, slots := 0, locals := 0 } : Room) s m [.ref (gM G 0)].toArray below meth c H locs 0 0 Qm (F0 m 191 ls []) := by
    intro k210 hk210 n
    induction n with
    | zero => intro S x1 H locs ls hH hl hf; exact absurd hf.symm (Option.some_ne_none q)
    | succ n ih =>
      intro S x1 H locs ls hH hl hf
      have hrec := ih
      have hf : s_X10_settles_191 N k210 (g_X10_settles_191 N k210 n) S x1 = some q := hf
      rw [s_X10_settles_191] at hf
      refine lv_iload_n hx hb dX10_settles_191 rfl (lv_at hl 1 rfl) ?_
      refine lv_bipush (v := 9) hx hb dX10_settles_192 (by decide) ?_
      refine lv_icmp_ge (tgt := 210) hx hb dX10_settles_194 (by decide) (fun c34 => ?_) (fun c34 => ?_)
      · replace hf := it_t c34 hf
        exact hk210 S _ _ _ hH (lv_sub hl [0] rfl) hf
      · replace hf := it_f c34 hf
        refine lv_aload_n hx hb dX10_settles_197 rfl (lv_at hl 0 rfl) ?_
        refine getO hC hH (0) rfl rfl in_X10_settles_X10 18 (by decide) (index := 28) (List.mem_of_getElem? (i := 10) rfl) rfl dX10_settles_198 ?_
        refine lv_iload_n hx hb dX10_settles_201 rfl (lv_at hl 1 rfl) ?_
        refine lv_iconst (v := 0) hx hb dX10_settles_202 (by decide) ?_
        obtain ⟨g35, hf⟩ := gd hf
        refine astI hC hH (7) rfl g35 mt_7 dX10_settles_203 (fun H locs hH => ?_)
        obtain ⟨S36, eS36⟩ : ∃ Z : St, Z = sA S 7 (upd (gA S 7) x1.toNatClampNeg (0 : Int32)) := ⟨_, rfl⟩
        rw [← eS36] at hH
        replace hf := bn eS36 hf
        refine lv_iinc (v := x1 + (1 : Int32)) (lv' := [(1, .int (x1 + (1 : Int32))), (0, .ref (gM G 0))]) hx hb dX10_settles_204 hl (k := 1) rfl rfl (by decide) rfl (fun ls hl => ?_)
        refine lv_goto (tgt := 191) hx hb dX10_settles_207 (by decide) ?_
        exact hrec S36 (x1 + (1 : Int32)) _ _ _ hH (lv_sub hl [1, 0] rfl) hf
  have kJ188 : ∀ (S : St) (t1 : Int32) (t2 : Int32) (H : Heap) (locs : List Loc) (ls : Array Slot), HW G A (MW G S) s H locs → lv_has ls 2 [(0, .ref (gM G 0))] → f_X10_settles_188 N S t1 t2 = some q → W p l e ({ frames := 0, cells := 0, slots := 0, locals := 0 } : Room) s m [.ref (gM G 0)].toArray below meth c H locs 0 0 Qm (F0 m 188 ls [.int t2, .int t1, .ref (gM G 6)]) := by
    intro S t1 t2 H locs ls hH hl hf
    rw [f_X10_settles_188] at hf
    obtain ⟨g32, hf⟩ := gd hf
    refine astI hC hH (6) rfl g32 mt_6 dX10_settles_188 (fun H locs hH => ?_)
    obtain ⟨S33, eS33⟩ : ∃ Z : St, Z = sA S 6 (upd (gA S 6) t1.toNatClampNeg t2) := ⟨_, rfl⟩
    rw [← eS33] at hH
    replace hf := bn eS33 hf
    refine lv_iconst (v := 0) hx hb dX10_settles_189 (by decide) ?_
    refine lv_istore_n (lv' := [(1, .int (0 : Int32)), (0, .ref (gM G 0))]) hx hb dX10_settles_190 rfl hl (by decide) rfl (fun ls hl => ?_)
    refine kL191 _ ?_ N S33 (0 : Int32) _ _ _ hH (lv_sub hl [1, 0] rfl) hf
    intro S37 H locs ls hH hl hf
    refine lv_aload_n hx hb dX10_settles_210 rfl (lv_at hl 0 rfl) ?_
    refine lv_iconst (v := 0) hx hb dX10_settles_211 (by decide) ?_
    refine putO hC hH (0) rfl rfl in_X10_settles_X10 tyX10 tyX10_ok nmX10 3 (by decide) (index := 65) (List.mem_of_getElem? (i := 11) rfl) rfl rfl rfl (Nat.le_of_ble_eq_true rfl) ms_0_3 dX10_settles_212 (fun H locs hH => ?_)
    obtain ⟨S38, eS38⟩ : ∃ Z : St, Z = sI S37 0 3 (0 : Int32) := ⟨_, rfl⟩
    rw [← eS38] at hH
    replace hf := bn eS38 hf
    refine lv_aload_n hx hb dX10_settles_215 rfl (lv_at hl 0 rfl) ?_
    refine lv_iconst (v := 0) hx hb dX10_settles_216 (by decide) ?_
    refine putO hC hH (0) rfl rfl in_X10_settles_X10 tyX10 tyX10_ok nmX10 22 (by decide) (index := 138) (List.mem_of_getElem? (i := 12) rfl) rfl rfl rfl (Nat.le_of_ble_eq_true rfl) ms_0_22 dX10_settles_217 (fun H locs hH => ?_)
    obtain ⟨S39, eS39⟩ : ∃ Z : St, Z = sI S38 0 22 (0 : Int32) := ⟨_, rfl⟩
    rw [← eS39] at hH
    replace hf := bn eS39 hf
    refine lv_aload_n hx hb dX10_settles_220 rfl (lv_at hl 0 rfl) ?_
    refine lv_iconst (v := 0) hx hb dX10_settles_221 (by decide) ?_
    refine putO hC hH (0) rfl rfl in_X10_settles_X10 tyX10 tyX10_ok nmX10 24 (by decide) (index := 141) (List.mem_of_getElem? (i := 13) rfl) rfl rfl rfl (Nat.le_of_ble_eq_true rfl) ms_0_24 dX10_settles_222 (fun H locs hH => ?_)
    obtain ⟨S40, eS40⟩ : ∃ Z : St, Z = sI S39 0 24 (0 : Int32) := ⟨_, rfl⟩
    rw [← eS40] at hH
    replace hf := bn eS40 hf
    refine lv_aload_n hx hb dX10_settles_225 rfl (lv_at hl 0 rfl) ?_
    refine getO hC hH (0) rfl rfl in_X10_settles_X10 20 (by decide) (index := 34) (List.mem_of_getElem? (i := 14) rfl) rfl dX10_settles_226 ?_
    refine lv_iconst (v := 0) hx hb dX10_settles_229 (by decide) ?_
    refine lv_iconst (v := 0) hx hb dX10_settles_230 (by decide) ?_
    obtain ⟨g41, hf⟩ := gd hf
    refine astZ hC hH (9) rfl g41 (y := (0 : Int32)) rfl mt_9 dX10_settles_231 (fun H locs hH => ?_)
    obtain ⟨S42, eS42⟩ : ∃ Z : St, Z = sA S40 9 (upd (gA S40 9) (0 : Int32).toNatClampNeg (0 : Int32)) := ⟨_, rfl⟩
    rw [← eS42] at hH
    replace hf := bn eS42 hf
    refine lv_aload_n hx hb dX10_settles_232 rfl (lv_at hl 0 rfl) ?_
    refine getO hC hH (0) rfl rfl in_X10_settles_X10 20 (by decide) (index := 34) (List.mem_of_getElem? (i := 14) rfl) rfl dX10_settles_233 ?_
    refine lv_iconst (v := 1) hx hb dX10_settles_236 (by decide) ?_
    refine lv_iconst (v := 0) hx hb dX10_settles_237 (by decide) ?_
    obtain ⟨g43, hf⟩ := gd hf
    refine astZ hC hH (9) rfl g43 (y := (0 : Int32)) rfl mt_9 dX10_settles_238 (fun H locs hH => ?_)
    obtain ⟨S44, eS44⟩ : ∃ Z : St, Z = sA S42 9 (upd (gA S42 9) (1 : Int32).toNatClampNeg (0 : Int32)) := ⟨_, rfl⟩
    rw [← eS44] at hH
    replace hf := bn eS44 hf
    exact fin S44 _ _ _ _ (Option.some.inj hf) hH dX10_settles_239
  have kJ158 : ∀ (S : St) (t1 : Int32) (t2 : Int32) (H : Heap) (locs : List Loc) (ls : Array Slot), HW G A (MW G S) s H locs → lv_has ls 2 [(0, .ref (gM G 0))] → f_X10_settles_158 N S t1 t2 = some q → W p l e ({ frames := 0, cells := 0, slots := 0, locals := 0 } : Room) s m [.ref (gM G 0)].toArray below meth c H locs 0 0 Qm (F0 m 158 ls [.int t2, .int t1, .ref (gM G 6)]) := by
    intro S t1 t2 H locs ls hH hl hf
    rw [f_X10_settles_158] at hf
    obtain ⟨g27, hf⟩ := gd hf
    refine astI hC hH (6) rfl g27 mt_6 dX10_settles_158 (fun H locs hH => ?_)
    obtain ⟨S28, eS28⟩ : ∃ Z : St, Z = sA S 6 (upd (gA S 6) t1.toNatClampNeg t2) := ⟨_, rfl⟩
    rw [← eS28] at hH
    replace hf := bn eS28 hf
    refine lv_aload_n hx hb dX10_settles_159 rfl (lv_at hl 0 rfl) ?_
    refine getO hC hH (0) rfl rfl in_X10_settles_X10 13 (by decide) (index := 25) (List.mem_of_getElem? (i := 9) rfl) rfl dX10_settles_160 ?_
    refine lv_bipush (v := 6) hx hb dX10_settles_163 (by decide) ?_
    refine lv_aload_n hx hb dX10_settles_165 rfl (lv_at hl 0 rfl) ?_
    refine getO hC hH (0) rfl rfl in_X10_settles_X10 13 (by decide) (index := 25) (List.mem_of_getElem? (i := 9) rfl) rfl dX10_settles_166 ?_
    refine lv_bipush (v := 13) hx hb dX10_settles_169 (by decide) ?_
    obtain ⟨g29, hf⟩ := gd hf
    refine aldI hC hH (6) rfl g29 dX10_settles_171 ?_
    refine lv_bipush (v := -9) hx hb dX10_settles_172 (by decide) ?_
    refine lv_icmp_ne (tgt := 181) hx hb dX10_settles_174 (by decide) (fun c30 => ?_) (fun c30 => ?_)
    · replace hf := it_f c30 hf
      refine lv_aload_n hx hb dX10_settles_181 rfl (lv_at hl 0 rfl) ?_
      refine getO hC hH (0) rfl rfl in_X10_settles_X10 13 (by decide) (index := 25) (List.mem_of_getElem? (i := 9) rfl) rfl dX10_settles_182 ?_
      refine lv_bipush (v := 13) hx hb dX10_settles_185 (by decide) ?_
      obtain ⟨g31, hf⟩ := gd hf
      refine aldI hC hH (6) rfl g31 dX10_settles_187 ?_
      exact kJ188  S28 (6 : Int32) (gA S28 6 (13 : Int32).toNatClampNeg) _ _ _ hH (lv_sub hl [0] rfl) hf
    · replace hf := it_t c30 hf
      refine lv_iconst (v := 3) hx hb dX10_settles_177 (by decide) ?_
      refine lv_goto (tgt := 188) hx hb dX10_settles_178 (by decide) ?_
      exact kJ188  S28 (6 : Int32) (3 : Int32) _ _ _ hH (lv_sub hl [0] rfl) hf
  have kJ129 : ∀ (S : St) (t1 : Int32) (t2 : Int32) (H : Heap) (locs : List Loc) (ls : Array Slot), HW G A (MW G S) s H locs → lv_has ls 2 [(0, .ref (gM G 0))] → f_X10_settles_129 N S t1 t2 = some q → W p l e ({ frames := 0, cells := 0, slots := 0, locals := 0 } : Room) s m [.ref (gM G 0)].toArray below meth c H locs 0 0 Qm (F0 m 129 ls [.int t2, .int t1, .ref (gM G 6)]) := by
    intro S t1 t2 H locs ls hH hl hf
    rw [f_X10_settles_129] at hf
    obtain ⟨g22, hf⟩ := gd hf
    refine astI hC hH (6) rfl g22 mt_6 dX10_settles_129 (fun H locs hH => ?_)
    obtain ⟨S23, eS23⟩ : ∃ Z : St, Z = sA S 6 (upd (gA S 6) t1.toNatClampNeg t2) := ⟨_, rfl⟩
    rw [← eS23] at hH
    replace hf := bn eS23 hf
    refine lv_aload_n hx hb dX10_settles_130 rfl (lv_at hl 0 rfl) ?_
    refine getO hC hH (0) rfl rfl in_X10_settles_X10 13 (by decide) (index := 25) (List.mem_of_getElem? (i := 9) rfl) rfl dX10_settles_131 ?_
    refine lv_iconst (v := 5) hx hb dX10_settles_134 (by decide) ?_
    refine lv_aload_n hx hb dX10_settles_135 rfl (lv_at hl 0 rfl) ?_
    refine getO hC hH (0) rfl rfl in_X10_settles_X10 13 (by decide) (index := 25) (List.mem_of_getElem? (i := 9) rfl) rfl dX10_settles_136 ?_
    refine lv_bipush (v := 12) hx hb dX10_settles_139 (by decide) ?_
    obtain ⟨g24, hf⟩ := gd hf
    refine aldI hC hH (6) rfl g24 dX10_settles_141 ?_
    refine lv_bipush (v := -9) hx hb dX10_settles_142 (by decide) ?_
    refine lv_icmp_ne (tgt := 151) hx hb dX10_settles_144 (by decide) (fun c25 => ?_) (fun c25 => ?_)
    · replace hf := it_f c25 hf
      refine lv_aload_n hx hb dX10_settles_151 rfl (lv_at hl 0 rfl) ?_
      refine getO hC hH (0) rfl rfl in_X10_settles_X10 13 (by decide) (index := 25) (List.mem_of_getElem? (i := 9) rfl) rfl dX10_settles_152 ?_
      refine lv_bipush (v := 12) hx hb dX10_settles_155 (by decide) ?_
      obtain ⟨g26, hf⟩ := gd hf
      refine aldI hC hH (6) rfl g26 dX10_settles_157 ?_
      exact kJ158  S23 (5 : Int32) (gA S23 6 (12 : Int32).toNatClampNeg) _ _ _ hH (lv_sub hl [0] rfl) hf
    · replace hf := it_t c25 hf
      refine lv_iconst (v := 3) hx hb dX10_settles_147 (by decide) ?_
      refine lv_goto (tgt := 158) hx hb dX10_settles_148 (by decide) ?_
      exact kJ158  S23 (5 : Int32) (3 : Int32) _ _ _ hH (lv_sub hl [0] rfl) hf
  have hf := hf
  rw [f_X10_settles] at hf
  refine lv_aload_n hx hb dX10_settles_0 rfl (lv_at hl 0 rfl) ?_
  refine lv_aload_n hx hb dX10_settles_1 rfl (lv_at hl 0 rfl) ?_
  refine getO hC hH (0) rfl rfl in_X10_settles_X10 16 (by decide) (index := 121) (List.mem_of_getElem? (i := 1) rfl) rfl dX10_settles_2 ?_
  refine putO hC hH (0) rfl rfl in_X10_settles_X10 tyX10 tyX10_ok nmX10 14 (by decide) (index := 54) (List.mem_of_getElem? (i := 2) rfl) rfl rfl rfl (Nat.le_of_ble_eq_true rfl) ms_0_14 dX10_settles_5 (fun H locs hH => ?_)
  obtain ⟨S1, eS1⟩ : ∃ Z : St, Z = sI S 0 14 (gI S 0 16) := ⟨_, rfl⟩
  rw [← eS1] at hH
  replace hf := bn eS1 hf
  refine lv_aload_n hx hb dX10_settles_8 rfl (lv_at hl 0 rfl) ?_
  refine lv_aload_n hx hb dX10_settles_9 rfl (lv_at hl 0 rfl) ?_
  refine getO hC hH (0) rfl rfl in_X10_settles_X10 17 (by decide) (index := 114) (List.mem_of_getElem? (i := 3) rfl) rfl dX10_settles_10 ?_
  refine putO hC hH (0) rfl rfl in_X10_settles_X10 tyX10 tyX10_ok nmX10 15 (by decide) (index := 135) (List.mem_of_getElem? (i := 4) rfl) rfl rfl rfl (Nat.le_of_ble_eq_true rfl) ms_0_15 dX10_settles_13 (fun H locs hH => ?_)
  obtain ⟨S2, eS2⟩ : ∃ Z : St, Z = sI S1 0 15 (gI S1 0 17) := ⟨_, rfl⟩
  rw [← eS2] at hH
  replace hf := bn eS2 hf
  refine lv_iconst (v := 0) hx hb dX10_settles_16 (by decide) ?_
  refine lv_istore_n (lv' := [(1, .int (0 : Int32)), (0, .ref (gM G 0))]) hx hb dX10_settles_17 rfl hl (by decide) rfl (fun ls hl => ?_)
  refine kL18 _ ?_ N S2 (0 : Int32) _ _ _ hH (lv_sub hl [1, 0] rfl) hf
  intro S10 H locs ls hH hl hf
  refine lv_iconst (v := 0) hx hb dX10_settles_60 (by decide) ?_
  refine lv_istore_n (lv' := [(1, .int (0 : Int32)), (0, .ref (gM G 0))]) hx hb dX10_settles_61 rfl hl (by decide) rfl (fun ls hl => ?_)
  refine kL62 _ ?_ N S10 (0 : Int32) _ _ _ hH (lv_sub hl [1, 0] rfl) hf
  intro S18 H locs ls hH hl hf
  refine lv_aload_n hx hb dX10_settles_101 rfl (lv_at hl 0 rfl) ?_
  refine getO hC hH (0) rfl rfl in_X10_settles_X10 13 (by decide) (index := 25) (List.mem_of_getElem? (i := 9) rfl) rfl dX10_settles_102 ?_
  refine lv_iconst (v := 4) hx hb dX10_settles_105 (by decide) ?_
  refine lv_aload_n hx hb dX10_settles_106 rfl (lv_at hl 0 rfl) ?_
  refine getO hC hH (0) rfl rfl in_X10_settles_X10 13 (by decide) (index := 25) (List.mem_of_getElem? (i := 9) rfl) rfl dX10_settles_107 ?_
  refine lv_bipush (v := 11) hx hb dX10_settles_110 (by decide) ?_
  obtain ⟨g19, hf⟩ := gd hf
  refine aldI hC hH (6) rfl g19 dX10_settles_112 ?_
  refine lv_bipush (v := -9) hx hb dX10_settles_113 (by decide) ?_
  refine lv_icmp_ne (tgt := 122) hx hb dX10_settles_115 (by decide) (fun c20 => ?_) (fun c20 => ?_)
  · replace hf := it_f c20 hf
    refine lv_aload_n hx hb dX10_settles_122 rfl (lv_at hl 0 rfl) ?_
    refine getO hC hH (0) rfl rfl in_X10_settles_X10 13 (by decide) (index := 25) (List.mem_of_getElem? (i := 9) rfl) rfl dX10_settles_123 ?_
    refine lv_bipush (v := 11) hx hb dX10_settles_126 (by decide) ?_
    obtain ⟨g21, hf⟩ := gd hf
    refine aldI hC hH (6) rfl g21 dX10_settles_128 ?_
    exact kJ129  S18 (4 : Int32) (gA S18 6 (11 : Int32).toNatClampNeg) _ _ _ hH (lv_sub hl [0] rfl) hf
  · replace hf := it_t c20 hf
    refine lv_iconst (v := 2) hx hb dX10_settles_118 (by decide) ?_
    refine lv_goto (tgt := 129) hx hb dX10_settles_119 (by decide) ?_
    exact kJ129  S18 (4 : Int32) (2 : Int32) _ _ _ hH (lv_sub hl [0] rfl) hf
theorem in_X10_lane_X10 : ∀ w ∈ wsX100, w ∈ wsX10_lane := fun w h => List.mem_cons_of_mem _ (List.mem_append_right _ h)
set_option maxRecDepth 100000 in
set_option maxHeartbeats 4000000 in
theorem c_X10_lane (l : Launch) (G : Gt) (A : Nat → Prop) (N : Nat) (S : St)   (q : Int32 × St) (hf : f_X10_lane N S = some q) : Met l yX10_lane wsX10_lane ({ frames := 7, cells := 0, slots := 0, locals := 160 } : Room) (va_Pc [.ref (gM G 0)] (PK G A (MW G S))) (va_Qi (fun (r2 : Int32) S2 => r2 = q.1 ∧ S2 = q.2) (fun S2 : St => PK G A (MW G S2)) A) 0 0 A := by
  refine mstart_i (Wd := MW G) (cc := cX10_lane) (maxL := 3) (by decide) rfl (Nat.le_of_ble_eq_true rfl) (fun p e s m below meth c Qm ls hC hH hl fin => ?_)
  obtain ⟨hx, hb, hml, hown, hts⟩ := id hC.1
  have hl : lv_has ls 3 [(0, .ref (gM G 0))] := hl
  have kL31 : ∀ (k57 : St → Int32 → Option (Int32 × St)) (hk57 : ∀ (S : St) (x1 : Int32) (H : Heap) (locs : List Loc) (ls : Array Slot), HW G A (MW G S) s H locs → lv_has ls 3 [(0, .ref (gM G 0)), (1, .int x1)] → k57 S x1 = some q → W p l e ({ frames := 7, cells := 0, slots := 0, locals := 160 } : Room) s m [.ref (gM G 0)].toArray below meth c H locs 0 0 Qm (F0 m 57 ls [])) , ∀ (n : Nat), ∀ (S : St) (x1 : Int32) (x2 : Int32) (H : Heap) (locs : List Loc) (ls : Array Slot), HW G A (MW G S) s H locs → lv_has ls 3 [(0, .ref (gM G 0)), (1, .int x1), (2, .int x2)] → g_X10_lane_31 N k57 n S x1 x2 = some q → W p l e ({ frames := 7, cells := 0, slots := 0, locals := 160 } : Room) s m [.ref (gM G 0)].toArray below meth c H locs 0 0 Qm (F0 m 31 ls []) := by
    intro k57 hk57 n
    induction n with
    | zero => intro S x1 x2 H locs ls hH hl hf; exact absurd hf.symm (Option.some_ne_none q)
    | succ n ih =>
      intro S x1 x2 H locs ls hH hl hf
      have hrec := ih
      have hf : s_X10_lane_31 N k57 (g_X10_lane_31 N k57 n) S x1 x2 = some q := hf
      rw [s_X10_lane_31] at hf
      refine lv_iload_n hx hb dX10_lane_31 rfl (lv_at hl 2 rfl) ?_
      refine lv_bipush (v := 48) hx hb dX10_lane_32 (by decide) ?_
      refine lv_icmp_ge (tgt := 57) hx hb dX10_lane_34 (by decide) (fun c6 => ?_) (fun c6 => ?_)
      · replace hf := it_t c6 hf
        exact hk57 S x1 _ _ _ hH (lv_sub hl [0, 1] rfl) hf
      · replace hf := it_f c6 hf
        refine lv_aload_n hx hb dX10_lane_37 rfl (lv_at hl 0 rfl) ?_
        refine getO hC hH (0) rfl rfl in_X10_lane_X10 9 (by decide) (index := 13) (List.mem_of_getElem? (i := 6) rfl) rfl dX10_lane_38 ?_
        refine lv_iload_n hx hb dX10_lane_41 rfl (lv_at hl 2 rfl) ?_
        refine lv_iconst (v := 0) hx hb dX10_lane_42 (by decide) ?_
        obtain ⟨g7, hf⟩ := gd hf
        refine astI hC hH (2) rfl g7 mt_2 dX10_lane_43 (fun H locs hH => ?_)
        obtain ⟨S8, eS8⟩ : ∃ Z : St, Z = sA S 2 (upd (gA S 2) x2.toNatClampNeg (0 : Int32)) := ⟨_, rfl⟩
        rw [← eS8] at hH
        replace hf := bn eS8 hf
        refine lv_aload_n hx hb dX10_lane_44 rfl (lv_at hl 0 rfl) ?_
        refine getO hC hH (0) rfl rfl in_X10_lane_X10 10 (by decide) (index := 16) (List.mem_of_getElem? (i := 7) rfl) rfl dX10_lane_45 ?_
        refine lv_iload_n hx hb dX10_lane_48 rfl (lv_at hl 2 rfl) ?_
        refine lv_iconst (v := 0) hx hb dX10_lane_49 (by decide) ?_
        obtain ⟨g9, hf⟩ := gd hf
        refine astI hC hH (3) rfl g9 mt_3 dX10_lane_50 (fun H locs hH => ?_)
        obtain ⟨S10, eS10⟩ : ∃ Z : St, Z = sA S8 3 (upd (gA S8 3) x2.toNatClampNeg (0 : Int32)) := ⟨_, rfl⟩
        rw [← eS10] at hH
        replace hf := bn eS10 hf
        refine lv_iinc (v := x2 + (1 : Int32)) (lv' := [(2, .int (x2 + (1 : Int32))), (0, .ref (gM G 0)), (1, .int x1)]) hx hb dX10_lane_51 hl (k := 2) rfl rfl (by decide) rfl (fun ls hl => ?_)
        refine lv_goto (tgt := 31) hx hb dX10_lane_54 (by decide) ?_
        exact hrec S10 x1 (x2 + (1 : Int32)) _ _ _ hH (lv_sub hl [1, 2, 0] rfl) hf
  have kL60 : ∀ (k80 : St → Int32 → Option (Int32 × St)) (hk80 : ∀ (S : St) (x1 : Int32) (H : Heap) (locs : List Loc) (ls : Array Slot), HW G A (MW G S) s H locs → lv_has ls 3 [(0, .ref (gM G 0)), (1, .int x1)] → k80 S x1 = some q → W p l e ({ frames := 7, cells := 0, slots := 0, locals := 160 } : Room) s m [.ref (gM G 0)].toArray below meth c H locs 0 0 Qm (F0 m 80 ls [])) , ∀ (n : Nat), ∀ (S : St) (x1 : Int32) (x2 : Int32) (H : Heap) (locs : List Loc) (ls : Array Slot), HW G A (MW G S) s H locs → lv_has ls 3 [(0, .ref (gM G 0)), (1, .int x1), (2, .int x2)] → g_X10_lane_60 N k80 n S x1 x2 = some q → W p l e ({ frames := 7, cells := 0, slots := 0, locals := 160 } : Room) s m [.ref (gM G 0)].toArray below meth c H locs 0 0 Qm (F0 m 60 ls []) := by
    intro k80 hk80 n
    induction n with
    | zero => intro S x1 x2 H locs ls hH hl hf; exact absurd hf.symm (Option.some_ne_none q)
    | succ n ih =>
      intro S x1 x2 H locs ls hH hl hf
      have hrec := ih
      have hf : s_X10_lane_60 N k80 (g_X10_lane_60 N k80 n) S x1 x2 = some q := hf
      rw [s_X10_lane_60] at hf
      refine lv_iload_n hx hb dX10_lane_60 rfl (lv_at hl 2 rfl) ?_
      refine lv_bipush (v := 14) hx hb dX10_lane_61 (by decide) ?_
      refine lv_icmp_ge (tgt := 80) hx hb dX10_lane_63 (by decide) (fun c13 => ?_) (fun c13 => ?_)
      · replace hf := it_t c13 hf
        exact hk80 S x1 _ _ _ hH (lv_sub hl [0, 1] rfl) hf
      · replace hf := it_f c13 hf
        refine lv_aload_n hx hb dX10_lane_66 rfl (lv_at hl 0 rfl) ?_
        refine getO hC hH (0) rfl rfl in_X10_lane_X10 13 (by decide) (index := 25) (List.mem_of_getElem? (i := 8) rfl) rfl dX10_lane_67 ?_
        refine lv_iload_n hx hb dX10_lane_70 rfl (lv_at hl 2 rfl) ?_
        refine lv_bipush (v := -9) hx hb dX10_lane_71 (by decide) ?_
        obtain ⟨g14, hf⟩ := gd hf
        refine astI hC hH (6) rfl g14 mt_6 dX10_lane_73 (fun H locs hH => ?_)
        obtain ⟨S15, eS15⟩ : ∃ Z : St, Z = sA S 6 (upd (gA S 6) x2.toNatClampNeg (-9 : Int32)) := ⟨_, rfl⟩
        rw [← eS15] at hH
        replace hf := bn eS15 hf
        refine lv_iinc (v := x2 + (1 : Int32)) (lv' := [(2, .int (x2 + (1 : Int32))), (0, .ref (gM G 0)), (1, .int x1)]) hx hb dX10_lane_74 hl (k := 2) rfl rfl (by decide) rfl (fun ls hl => ?_)
        refine lv_goto (tgt := 60) hx hb dX10_lane_77 (by decide) ?_
        exact hrec S15 x1 (x2 + (1 : Int32)) _ _ _ hH (lv_sub hl [1, 2, 0] rfl) hf
  have kJ150 : ∀ (k160 : St → Int32 → Option (Int32 × St)) (hk160 : ∀ (S : St) (x1 : Int32) (H : Heap) (locs : List Loc) (ls : Array Slot), HW G A (MW G S) s H locs → lv_has ls 3 [(0, .ref (gM G 0)), (1, .int x1)] → k160 S x1 = some q → W p l e ({ frames := 7, cells := 0, slots := 0, locals := 160 } : Room) s m [.ref (gM G 0)].toArray below meth c H locs 0 0 Qm (F0 m 160 ls [])) (rec : St → Int32 → Option (Int32 × St)) (hrec : ∀ (S : St) (x1 : Int32) (H : Heap) (locs : List Loc) (ls : Array Slot), HW G A (MW G S) s H locs → lv_has ls 3 [(0, .ref (gM G 0)), (1, .int x1)] → rec S x1 = some q → W p l e ({ frames := 7, cells := 0, slots := 0, locals := 160 } : Room) s m [.ref (gM G 0)].toArray below meth c H locs 0 0 Qm (F0 m 84 ls [])) , ∀ (S : St) (x1 : Int32) (t1 : Int32) (H : Heap) (locs : List Loc) (ls : Array Slot), HW G A (MW G S) s H locs → lv_has ls 3 [(0, .ref (gM G 0)), (1, .int x1)] → f_X10_lane_150 N k160 rec S x1 t1 = some q → W p l e ({ frames := 7, cells := 0, slots := 0, locals := 160 } : Room) s m [.ref (gM G 0)].toArray below meth c H locs 0 0 Qm (F0 m 150 ls [.int t1, .ref (gM G 0)]) := by
    intro k160 hk160 rec hrec S x1 t1 H locs ls hH hl hf
    rw [f_X10_lane_150] at hf
    obtain ⟨r27, hr27, hf⟩ := ob hf
    refine callV_i [.int t1] [] hC hH (c_X10_takes l G A N S t1 _ hr27) (cwV 1 hts gX10_lane_X10_takes rfl rfl rfl (by decide +kernel) ⟨Nat.le_of_ble_eq_true rfl, Nat.le_of_ble_eq_true rfl⟩) (recvW hC hH (c0 := 0) (ci := 10) rfl rfl) rfl hl.1 rfl (Nat.le_of_ble_eq_true rfl) dX10_lane_150 (fun H locs hH => ?_)
    refine lv_pop hx hb dX10_lane_153 rfl ?_
    refine lv_iinc (v := x1 + (1 : Int32)) (lv' := [(1, .int (x1 + (1 : Int32))), (0, .ref (gM G 0))]) hx hb dX10_lane_154 hl (k := 1) rfl rfl (by decide) rfl (fun ls hl => ?_)
    refine lv_goto (tgt := 84) hx hb dX10_lane_157 (by decide) ?_
    exact hrec r27.2 (x1 + (1 : Int32)) _ _ _ hH (lv_sub hl [1, 0] rfl) hf
  have kJ136 : ∀ (k160 : St → Int32 → Option (Int32 × St)) (hk160 : ∀ (S : St) (x1 : Int32) (H : Heap) (locs : List Loc) (ls : Array Slot), HW G A (MW G S) s H locs → lv_has ls 3 [(0, .ref (gM G 0)), (1, .int x1)] → k160 S x1 = some q → W p l e ({ frames := 7, cells := 0, slots := 0, locals := 160 } : Room) s m [.ref (gM G 0)].toArray below meth c H locs 0 0 Qm (F0 m 160 ls [])) (rec : St → Int32 → Option (Int32 × St)) (hrec : ∀ (S : St) (x1 : Int32) (H : Heap) (locs : List Loc) (ls : Array Slot), HW G A (MW G S) s H locs → lv_has ls 3 [(0, .ref (gM G 0)), (1, .int x1)] → rec S x1 = some q → W p l e ({ frames := 7, cells := 0, slots := 0, locals := 160 } : Room) s m [.ref (gM G 0)].toArray below meth c H locs 0 0 Qm (F0 m 84 ls [])) , ∀ (S : St) (x1 : Int32) (H : Heap) (locs : List Loc) (ls : Array Slot), HW G A (MW G S) s H locs → lv_has ls 3 [(0, .ref (gM G 0)), (1, .int x1)] → f_X10_lane_136 N k160 rec S x1 = some q → W p l e ({ frames := 7, cells := 0, slots := 0, locals := 160 } : Room) s m [.ref (gM G 0)].toArray below meth c H locs 0 0 Qm (F0 m 136 ls []) := by
    intro k160 hk160 rec hrec S x1 H locs ls hH hl hf
    rw [f_X10_lane_136] at hf
    refine lv_aload_n hx hb dX10_lane_136 rfl (lv_at hl 0 rfl) ?_
    refine lv_aload_n hx hb dX10_lane_137 rfl (lv_at hl 0 rfl) ?_
    refine getO hC hH (0) rfl rfl in_X10_lane_X10 5 (by decide) (index := 90) (List.mem_of_getElem? (i := 9) rfl) rfl dX10_lane_138 ?_
    refine lv_iconst (v := 3) hx hb dX10_lane_141 (by decide) ?_
    refine lv_icmp_ne (tgt := 149) hx hb dX10_lane_142 (by decide) (fun c26 => ?_) (fun c26 => ?_)
    · replace hf := it_f c26 hf
      refine lv_iconst (v := 0) hx hb dX10_lane_149 (by decide) ?_
      exact kJ150 k160 hk160 _ hrec S x1 (0 : Int32) _ _ _ hH (lv_sub hl [0, 1] rfl) hf
    · replace hf := it_t c26 hf
      refine lv_iconst (v := 1) hx hb dX10_lane_145 (by decide) ?_
      refine lv_goto (tgt := 150) hx hb dX10_lane_146 (by decide) ?_
      exact kJ150 k160 hk160 _ hrec S x1 (1 : Int32) _ _ _ hH (lv_sub hl [0, 1] rfl) hf
  have kJ120 : ∀ (k160 : St → Int32 → Option (Int32 × St)) (hk160 : ∀ (S : St) (x1 : Int32) (H : Heap) (locs : List Loc) (ls : Array Slot), HW G A (MW G S) s H locs → lv_has ls 3 [(0, .ref (gM G 0)), (1, .int x1)] → k160 S x1 = some q → W p l e ({ frames := 7, cells := 0, slots := 0, locals := 160 } : Room) s m [.ref (gM G 0)].toArray below meth c H locs 0 0 Qm (F0 m 160 ls [])) (rec : St → Int32 → Option (Int32 × St)) (hrec : ∀ (S : St) (x1 : Int32) (H : Heap) (locs : List Loc) (ls : Array Slot), HW G A (MW G S) s H locs → lv_has ls 3 [(0, .ref (gM G 0)), (1, .int x1)] → rec S x1 = some q → W p l e ({ frames := 7, cells := 0, slots := 0, locals := 160 } : Room) s m [.ref (gM G 0)].toArray below meth c H locs 0 0 Qm (F0 m 84 ls [])) , ∀ (S : St) (x1 : Int32) (t1 : Int32) (H : Heap) (locs : List Loc) (ls : Array Slot), HW G A (MW G S) s H locs → lv_has ls 3 [(0, .ref (gM G 0)), (1, .int x1)] → f_X10_lane_120 N k160 rec S x1 t1 = some q → W p l e ({ frames := 7, cells := 0, slots := 0, locals := 160 } : Room) s m [.ref (gM G 0)].toArray below meth c H locs 0 0 Qm (F0 m 120 ls [.int t1, .ref (gM G 0)]) := by
    intro k160 hk160 rec hrec S x1 t1 H locs ls hH hl hf
    rw [f_X10_lane_120] at hf
    obtain ⟨r23, hr23, hf⟩ := ob hf
    refine callV_i [.int t1] [] hC hH (c_X10_takes l G A N S t1 _ hr23) (cwV 1 hts gX10_lane_X10_takes rfl rfl rfl (by decide +kernel) ⟨Nat.le_of_ble_eq_true rfl, Nat.le_of_ble_eq_true rfl⟩) (recvW hC hH (c0 := 0) (ci := 10) rfl rfl) rfl hl.1 rfl (Nat.le_of_ble_eq_true rfl) dX10_lane_120 (fun H locs hH => ?_)
    refine lv_istore_n (lv' := [(2, .int r23.1), (0, .ref (gM G 0)), (1, .int x1)]) hx hb dX10_lane_123 rfl hl (by decide) rfl (fun ls hl => ?_)
    refine lv_aload_n hx hb dX10_lane_124 rfl (lv_at hl 1 rfl) ?_
    obtain ⟨r24, hr24, hf⟩ := ob hf
    refine callV_i [] [] hC hH (c_X10_isWell l G A r23.2 _ hr24) (cwV 0 hts gX10_lane_X10_isWell rfl rfl rfl (by decide +kernel) ⟨Nat.le_of_ble_eq_true rfl, Nat.le_of_ble_eq_true rfl⟩) (recvW hC hH (c0 := 0) (ci := 10) rfl rfl) rfl hl.1 rfl (Nat.le_of_ble_eq_true rfl) dX10_lane_125 (fun H locs hH => ?_)
    refine lv_if_eq (tgt := 136) hx hb dX10_lane_128 (by decide) (fun c25 => ?_) (fun c25 => ?_)
    · replace hf := it_t c25 hf
      exact kJ136 k160 hk160 _ hrec r23.2 x1 _ _ _ hH (lv_sub hl [1, 2] rfl) hf
    · replace hf := it_f c25 hf
      refine lv_aload_n hx hb dX10_lane_131 rfl (lv_at hl 1 rfl) ?_
      refine lv_iload_n hx hb dX10_lane_132 rfl (lv_at hl 0 rfl) ?_
      obtain ⟨r28, hr28, hf⟩ := ob hf
      refine callV_v [.int r23.1] [] hC hH (c_X10_readsItem l G A N r23.2 r23.1 _ hr28) (cwV 1 hts gX10_lane_X10_readsItem rfl rfl rfl (by decide +kernel) ⟨Nat.le_of_ble_eq_true rfl, Nat.le_of_ble_eq_true rfl⟩) (recvW hC hH (c0 := 0) (ci := 10) rfl rfl) rfl hl.1 rfl (Nat.le_of_ble_eq_true rfl) dX10_lane_133 (fun H locs hH => ?_)
      exact kJ136 k160 hk160 _ hrec r28 x1 _ _ _ hH (lv_sub hl [1, 2] rfl) hf
  have kJ119 : ∀ (k160 : St → Int32 → Option (Int32 × St)) (hk160 : ∀ (S : St) (x1 : Int32) (H : Heap) (locs : List Loc) (ls : Array Slot), HW G A (MW G S) s H locs → lv_has ls 3 [(0, .ref (gM G 0)), (1, .int x1)] → k160 S x1 = some q → W p l e ({ frames := 7, cells := 0, slots := 0, locals := 160 } : Room) s m [.ref (gM G 0)].toArray below meth c H locs 0 0 Qm (F0 m 160 ls [])) (rec : St → Int32 → Option (Int32 × St)) (hrec : ∀ (S : St) (x1 : Int32) (H : Heap) (locs : List Loc) (ls : Array Slot), HW G A (MW G S) s H locs → lv_has ls 3 [(0, .ref (gM G 0)), (1, .int x1)] → rec S x1 = some q → W p l e ({ frames := 7, cells := 0, slots := 0, locals := 160 } : Room) s m [.ref (gM G 0)].toArray below meth c H locs 0 0 Qm (F0 m 84 ls [])) , ∀ (S : St) (x1 : Int32) (H : Heap) (locs : List Loc) (ls : Array Slot), HW G A (MW G S) s H locs → lv_has ls 3 [(0, .ref (gM G 0)), (1, .int x1)] → f_X10_lane_119 N k160 rec S x1 = some q → W p l e ({ frames := 7, cells := 0, slots := 0, locals := 160 } : Room) s m [.ref (gM G 0)].toArray below meth c H locs 0 0 Qm (F0 m 119 ls [.ref (gM G 0)]) := by
    intro k160 hk160 rec hrec S x1 H locs ls hH hl hf
    rw [f_X10_lane_119] at hf
    refine lv_iconst (v := 0) hx hb dX10_lane_119 (by decide) ?_
    exact kJ120 k160 hk160 _ hrec S x1 (0 : Int32) _ _ _ hH (lv_sub hl [0, 1] rfl) hf
  have kL84 : ∀ (k160 : St → Int32 → Option (Int32 × St)) (hk160 : ∀ (S : St) (x1 : Int32) (H : Heap) (locs : List Loc) (ls : Array Slot), HW G A (MW G S) s H locs → lv_has ls 3 [(0, .ref (gM G 0)), (1, .int x1)] → k160 S x1 = some q → W p l e ({ frames := 7, cells := 0, slots := 0, locals := 160 } : Room) s m [.ref (gM G 0)].toArray below meth c H locs 0 0 Qm (F0 m 160 ls [])) , ∀ (n : Nat), ∀ (S : St) (x1 : Int32) (H : Heap) (locs : List Loc) (ls : Array Slot), HW G A (MW G S) s H locs → lv_has ls 3 [(0, .ref (gM G 0)), (1, .int x1)] → g_X10_lane_84 N k160 n S x1 = some q → W p l e ({ frames := 7, cells := 0, slots := 0, locals := 160 } : Room) s m [.ref (gM G 0)].toArray below meth c H locs 0 0 Qm (F0 m 84 ls []) := by
    intro k160 hk160 n
    induction n with
    | zero => intro S x1 H locs ls hH hl hf; exact absurd hf.symm (Option.some_ne_none q)
    | succ n ih =>
      intro S x1 H locs ls hH hl hf
      have hrec := ih
      have hf : s_X10_lane_84 N k160 (g_X10_lane_84 N k160 n) S x1 = some q := hf
      rw [s_X10_lane_84] at hf
      refine lv_aload_n hx hb dX10_lane_84 rfl (lv_at hl 0 rfl) ?_
      obtain ⟨r19, hr19, hf⟩ := ob hf
      refine callV_i [] [] hC hH (c_X10_isWell l G A S _ hr19) (cwV 0 hts gX10_lane_X10_isWell rfl rfl rfl (by decide +kernel) ⟨Nat.le_of_ble_eq_true rfl, Nat.le_of_ble_eq_true rfl⟩) (recvW hC hH (c0 := 0) (ci := 10) rfl rfl) rfl hl.1 rfl (Nat.le_of_ble_eq_true rfl) dX10_lane_85 (fun H locs hH => ?_)
      refine lv_if_eq (tgt := 160) hx hb dX10_lane_88 (by decide) (fun c20 => ?_) (fun c20 => ?_)
      · replace hf := it_t c20 hf
        exact hk160 S x1 _ _ _ hH (lv_sub hl [0, 1] rfl) hf
      · replace hf := it_f c20 hf
        refine lv_aload_n hx hb dX10_lane_91 rfl (lv_at hl 0 rfl) ?_
        refine getO hC hH (0) rfl rfl in_X10_lane_X10 5 (by decide) (index := 90) (List.mem_of_getElem? (i := 9) rfl) rfl dX10_lane_92 ?_
        refine lv_if_eq (tgt := 160) hx hb dX10_lane_95 (by decide) (fun c21 => ?_) (fun c21 => ?_)
        · replace hf := it_t c21 hf
          exact hk160 S x1 _ _ _ hH (lv_sub hl [0, 1] rfl) hf
        · replace hf := it_f c21 hf
          refine lv_aload_n hx hb dX10_lane_98 rfl (lv_at hl 0 rfl) ?_
          refine lv_aload_n hx hb dX10_lane_99 rfl (lv_at hl 0 rfl) ?_
          refine getO hC hH (0) rfl rfl in_X10_lane_X10 5 (by decide) (index := 90) (List.mem_of_getElem? (i := 9) rfl) rfl dX10_lane_100 ?_
          refine lv_iconst (v := 1) hx hb dX10_lane_103 (by decide) ?_
          refine lv_icmp_ne (tgt := 119) hx hb dX10_lane_104 (by decide) (fun c22 => ?_) (fun c22 => ?_)
          · replace hf := it_f c22 hf
            exact kJ119 k160 hk160 _ hrec S x1 _ _ _ hH (lv_sub hl [0, 1] rfl) hf
          · replace hf := it_t c22 hf
            refine lv_aload_n hx hb dX10_lane_107 rfl (lv_at hl 0 rfl) ?_
            refine lv_iload_n hx hb dX10_lane_108 rfl (lv_at hl 1 rfl) ?_
            obtain ⟨r29, hr29, hf⟩ := ob hf
            refine callV_i [.int x1] [.ref (gM G 0)] hC hH (c_X10_mayBegin l G A S x1 _ hr29) (cwV 1 hts gX10_lane_X10_mayBegin rfl rfl rfl (by decide +kernel) ⟨Nat.le_of_ble_eq_true rfl, Nat.le_of_ble_eq_true rfl⟩) (recvW hC hH (c0 := 0) (ci := 10) rfl rfl) rfl hl.1 rfl (Nat.le_of_ble_eq_true rfl) dX10_lane_109 (fun H locs hH => ?_)
            refine lv_if_eq (tgt := 119) hx hb dX10_lane_112 (by decide) (fun c30 => ?_) (fun c30 => ?_)
            · replace hf := it_t c30 hf
              exact kJ119 k160 hk160 _ hrec S x1 _ _ _ hH (lv_sub hl [0, 1] rfl) hf
            · replace hf := it_f c30 hf
              refine lv_iconst (v := 1) hx hb dX10_lane_115 (by decide) ?_
              refine lv_goto (tgt := 120) hx hb dX10_lane_116 (by decide) ?_
              exact kJ120 k160 hk160 _ hrec S x1 (1 : Int32) _ _ _ hH (lv_sub hl [0, 1] rfl) hf
  have kJ160 : ∀ (S : St) (x1 : Int32) (H : Heap) (locs : List Loc) (ls : Array Slot), HW G A (MW G S) s H locs → lv_has ls 3 [(0, .ref (gM G 0)), (1, .int x1)] → f_X10_lane_160 N S x1 = some q → W p l e ({ frames := 7, cells := 0, slots := 0, locals := 160 } : Room) s m [.ref (gM G 0)].toArray below meth c H locs 0 0 Qm (F0 m 160 ls []) := by
    intro S x1 H locs ls hH hl hf
    rw [f_X10_lane_160] at hf
    refine lv_aload_n hx hb dX10_lane_160 rfl (lv_at hl 0 rfl) ?_
    obtain ⟨r33, hr33, hf⟩ := ob hf
    refine callV_i [] [] hC hH (c_X10_isWell l G A S _ hr33) (cwV 0 hts gX10_lane_X10_isWell rfl rfl rfl (by decide +kernel) ⟨Nat.le_of_ble_eq_true rfl, Nat.le_of_ble_eq_true rfl⟩) (recvW hC hH (c0 := 0) (ci := 10) rfl rfl) rfl hl.1 rfl (Nat.le_of_ble_eq_true rfl) dX10_lane_161 (fun H locs hH => ?_)
    refine lv_if_ne (tgt := 175) hx hb dX10_lane_164 (by decide) (fun c34 => ?_) (fun c34 => ?_)
    · replace hf := it_f c34 hf
      refine lv_aload_n hx hb dX10_lane_175 rfl (lv_at hl 0 rfl) ?_
      obtain ⟨r35, hr35, hf⟩ := ob hf
      refine callV_v [] [] hC hH (c_X10_settles l G A N S _ hr35) (cwV 0 hts gX10_lane_X10_settles rfl rfl rfl (by decide +kernel) ⟨Nat.le_of_ble_eq_true rfl, Nat.le_of_ble_eq_true rfl⟩) (recvW hC hH (c0 := 0) (ci := 10) rfl rfl) rfl hl.1 rfl (Nat.le_of_ble_eq_true rfl) dX10_lane_176 (fun H locs hH => ?_)
      refine lv_iload_n hx hb dX10_lane_179 rfl (lv_at hl 1 rfl) ?_
      exact fin x1 r35 _ _ _ _ (congrArg Prod.fst (Option.some.inj hf)) (congrArg Prod.snd (Option.some.inj hf)) hH dX10_lane_180
    · replace hf := it_t c34 hf
      refine lv_bipush (v := -10) hx hb dX10_lane_167 (by decide) ?_
      refine lv_aload_n hx hb dX10_lane_169 rfl (lv_at hl 0 rfl) ?_
      refine getO hC hH (0) rfl rfl in_X10_lane_X10 8 (by decide) (index := 100) (List.mem_of_getElem? (i := 2) rfl) rfl dX10_lane_170 ?_
      refine lv_isub hx hb dX10_lane_173 ?_
      have hz : ((-10 : Int32) - (gI S 0 8), S) = q := Option.some.inj hf
      have hz1 := congrArg Prod.fst hz
      have hz2 := congrArg Prod.snd hz
      exact fin ((-10 : Int32) - (gI S 0 8)) S _ _ _ _ hz1 hz2 hH dX10_lane_174
  have hf := hf
  rw [f_X10_lane] at hf
  refine lv_aload_n hx hb dX10_lane_0 rfl (lv_at hl 0 rfl) ?_
  refine lv_iconst (v := 0) hx hb dX10_lane_1 (by decide) ?_
  refine putO hC hH (0) rfl rfl in_X10_lane_X10 tyX10 tyX10_ok nmX10 0 (by decide) (index := 58) (List.mem_of_getElem? (i := 1) rfl) rfl rfl rfl (Nat.le_of_ble_eq_true rfl) ms_0_0 dX10_lane_2 (fun H locs hH => ?_)
  obtain ⟨S1, eS1⟩ : ∃ Z : St, Z = sI S 0 0 (0 : Int32) := ⟨_, rfl⟩
  rw [← eS1] at hH
  replace hf := bn eS1 hf
  refine lv_aload_n hx hb dX10_lane_5 rfl (lv_at hl 0 rfl) ?_
  refine lv_iconst (v := -1) hx hb dX10_lane_6 (by decide) ?_
  refine putO hC hH (0) rfl rfl in_X10_lane_X10 tyX10 tyX10_ok nmX10 8 (by decide) (index := 100) (List.mem_of_getElem? (i := 2) rfl) rfl rfl rfl (Nat.le_of_ble_eq_true rfl) ms_0_8 dX10_lane_7 (fun H locs hH => ?_)
  obtain ⟨S2, eS2⟩ : ∃ Z : St, Z = sI S1 0 8 (-1 : Int32) := ⟨_, rfl⟩
  rw [← eS2] at hH
  replace hf := bn eS2 hf
  refine lv_aload_n hx hb dX10_lane_10 rfl (lv_at hl 0 rfl) ?_
  refine lv_iconst (v := 0) hx hb dX10_lane_11 (by decide) ?_
  refine putO hC hH (0) rfl rfl in_X10_lane_X10 tyX10 tyX10_ok nmX10 4 (by decide) (index := 80) (List.mem_of_getElem? (i := 3) rfl) rfl rfl rfl (Nat.le_of_ble_eq_true rfl) ms_0_4 dX10_lane_12 (fun H locs hH => ?_)
  obtain ⟨S3, eS3⟩ : ∃ Z : St, Z = sI S2 0 4 (0 : Int32) := ⟨_, rfl⟩
  rw [← eS3] at hH
  replace hf := bn eS3 hf
  refine lv_iconst (v := 0) hx hb dX10_lane_15 (by decide) ?_
  refine lv_istore_n (lv' := [(1, .int (0 : Int32)), (0, .ref (gM G 0))]) hx hb dX10_lane_16 rfl hl (by decide) rfl (fun ls hl => ?_)
  refine lv_aload_n hx hb dX10_lane_17 rfl (lv_at hl 1 rfl) ?_
  refine lv_bipush (v := 12) hx hb dX10_lane_18 (by decide) ?_
  refine putO hC hH (0) rfl rfl in_X10_lane_X10 tyX10 tyX10_ok nmX10 16 (by decide) (index := 121) (List.mem_of_getElem? (i := 4) rfl) rfl rfl rfl (Nat.le_of_ble_eq_true rfl) ms_0_16 dX10_lane_20 (fun H locs hH => ?_)
  obtain ⟨S4, eS4⟩ : ∃ Z : St, Z = sI S3 0 16 (12 : Int32) := ⟨_, rfl⟩
  rw [← eS4] at hH
  replace hf := bn eS4 hf
  refine lv_aload_n hx hb dX10_lane_23 rfl (lv_at hl 1 rfl) ?_
  refine lv_iconst (v := 0) hx hb dX10_lane_24 (by decide) ?_
  refine putO hC hH (0) rfl rfl in_X10_lane_X10 tyX10 tyX10_ok nmX10 17 (by decide) (index := 114) (List.mem_of_getElem? (i := 5) rfl) rfl rfl rfl (Nat.le_of_ble_eq_true rfl) ms_0_17 dX10_lane_25 (fun H locs hH => ?_)
  obtain ⟨S5, eS5⟩ : ∃ Z : St, Z = sI S4 0 17 (0 : Int32) := ⟨_, rfl⟩
  rw [← eS5] at hH
  replace hf := bn eS5 hf
  refine lv_bipush (v := 24) hx hb dX10_lane_28 (by decide) ?_
  refine lv_istore_n (lv' := [(2, .int (24 : Int32)), (1, .int (0 : Int32)), (0, .ref (gM G 0))]) hx hb dX10_lane_30 rfl hl (by decide) rfl (fun ls hl => ?_)
  refine kL31 _ ?_ N S5 (0 : Int32) (24 : Int32) _ _ _ hH (lv_sub hl [2, 1, 0] rfl) hf
  intro S12 y11 H locs ls hH hl hf
  refine lv_bipush (v := 7) hx hb dX10_lane_57 (by decide) ?_
  refine lv_istore_n (lv' := [(2, .int (7 : Int32)), (0, .ref (gM G 0)), (1, .int y11)]) hx hb dX10_lane_59 rfl hl (by decide) rfl (fun ls hl => ?_)
  refine kL60 _ ?_ N S12 y11 (7 : Int32) _ _ _ hH (lv_sub hl [1, 2, 0] rfl) hf
  intro S17 y16 H locs ls hH hl hf
  refine lv_aload_n hx hb dX10_lane_80 rfl (lv_at hl 0 rfl) ?_
  obtain ⟨r18, hr18, hf⟩ := ob hf
  refine callV_v [] [] hC hH (c_X10_advances l G A N S17 _ hr18) (cwV 0 hts gX10_lane_X10_advances rfl rfl rfl (by decide +kernel) ⟨Nat.le_of_ble_eq_true rfl, Nat.le_of_ble_eq_true rfl⟩) (recvW hC hH (c0 := 0) (ci := 10) rfl rfl) rfl hl.1 rfl (Nat.le_of_ble_eq_true rfl) dX10_lane_81 (fun H locs hH => ?_)
  refine kL84 _ ?_ N r18 y16 _ _ _ hH (lv_sub hl [0, 1] rfl) hf
  intro S32 y31 H locs ls hH hl hf
  exact kJ160  S32 y31 _ _ _ hH (lv_sub hl [0, 1] rfl) hf
theorem in_X10_isYard_X10 : ∀ w ∈ wsX100, w ∈ wsX10_isYard := fun w h => List.mem_cons_of_mem _ (List.mem_append_right _ h)
set_option maxRecDepth 100000 in
set_option maxHeartbeats 4000000 in
theorem c_X10_isYard (l : Launch) (G : Gt) (A : Nat → Prop) (S : St)  (a1 : Int32) (q : Int32) (hf : f_X10_isYard S a1 = some q) : Met l yX10_isYard wsX10_isYard ({ frames := 1, cells := 0, slots := 0, locals := 22 } : Room) (va_Pc [.ref (gM G 0), .int a1] (PK G A (MW G S))) (va_Qi (fun (r2 : Int32) S2 => r2 = q ∧ S2 = S) (fun S2 : St => PK G A (MW G S2)) A) 0 0 A := by
  refine mstart_z (ty := .boolean) (Wd := MW G) (cc := cX10_isYard) (maxL := 2) (by decide) rfl (Nat.le_of_ble_eq_true rfl) (fun p e s m below meth c Qm ls hC hH hl fin => ?_)
  obtain ⟨hx, hb, hml, hown, hts⟩ := id hC.1
  have hl : lv_has ls 2 [(0, .ref (gM G 0)), (1, .int a1)] := hl
  have hf := hf
  rw [f_X10_isYard] at hf
  refine lv_iload_n hx hb dX10_isYard_0 rfl (lv_at hl 1 rfl) ?_
  refine lv_iconst (v := 0) hx hb dX10_isYard_1 (by decide) ?_
  refine lv_aload_n hx hb dX10_isYard_2 rfl (lv_at hl 0 rfl) ?_
  refine getO hC hH (0) rfl rfl in_X10_isYard_X10 14 (by decide) (index := 54) (List.mem_of_getElem? (i := 1) rfl) rfl dX10_isYard_3 ?_
  refine lv_iconst (v := 1) hx hb dX10_isYard_6 (by decide) ?_
  refine lv_isub hx hb dX10_isYard_7 ?_
  obtain ⟨r1, hr1, hf⟩ := ob hf
  refine callS_i [.int a1, .int (0 : Int32), .int ((gI S 0 14) - (1 : Int32))] [] hC hH (c_X10_in l G A S a1 (0 : Int32) ((gI S 0 14) - (1 : Int32)) _ hr1) (va_cwS 3 hts gX10_isYard_X10_in rfl rfl rfl (by decide +kernel) ⟨Nat.le_of_ble_eq_true rfl, Nat.le_of_ble_eq_true rfl⟩) rfl hl.1 rfl (Nat.le_of_ble_eq_true rfl) dX10_isYard_8 (fun H locs hH => ?_)
  obtain ⟨g2, hf⟩ := gd hf
  exact fin r1 S _ _ _ _ (congrArg Value.int (Decidable.not_not.mp g2)) (Option.some.inj hf) rfl hH dX10_isYard_11
