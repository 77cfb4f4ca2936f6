/-! walks: X6_readWord X6_isDigit X6_readDigits X6_readToken X6_mayBegin X6_leastFirst X6_mostFirst X6_readNumber -/
theorem in_X6_readWord_X6 : ∀ w ∈ wsX60, w ∈ wsX6_readWord := fun w h => List.mem_cons_of_mem _ (List.mem_append_left _ (List.mem_append_right _ h))
theorem in_X6_readWord_X8 : ∀ w ∈ wsX80, w ∈ wsX6_readWord := fun w h => List.mem_cons_of_mem _ (List.mem_append_right _ h)
set_option maxRecDepth 100000 in
set_option maxHeartbeats 4000000 in
theorem c_X6_readWord (l : Launch) (G : Gt) (A : Nat → Prop) (N : Nat) (S : St)   (q : St) (hf : f_X6_readWord N S = some q) : Met l yX6_readWord wsX6_readWord ({ frames := 7, cells := 0, slots := 0, locals := 154 } : Room) (va_Pc [.ref (gC G 3)] (PK G A (CW G S))) (va_Qv (fun S2 => S2 = q) (fun S2 : St => PK G A (CW G S2)) A) 0 0 A := by
  refine mstart_v (Wd := CW G) (cc := cX6_readWord) (maxL := 1) (by decide) rfl (Nat.le_of_ble_eq_true rfl) (fun p e s m below meth c Qm ls hC hH hl fin => ?_)
  obtain ⟨hx, hb, hml, hown, hts⟩ := id hC.1
  have hl : lv_has ls 1 [(0, .ref (gC G 3))] := hl
  have kL0 : ∀ (k44 : St → Option St) (hk44 : ∀ (S : St) (H : Heap) (locs : List Loc) (ls : Array Slot), HW G A (CW G S) s H locs → lv_has ls 1 [(0, .ref (gC G 3))] → k44 S = some q → W p l e ({ frames := 7, cells := 0, slots := 0, locals := 154 } : Room) s m [.ref (gC G 3)].toArray below meth c H locs 0 0 Qm (F0 m 44 ls [])) , ∀ (n : Nat), ∀ (S : St) (H : Heap) (locs : List Loc) (ls : Array Slot), HW G A (CW G S) s H locs → lv_has ls 1 [(0, .ref (gC G 3))] → g_X6_readWord_0 N k44 n S = some q → W p l e ({ frames := 7, cells := 0, slots := 0, locals := 154 } : Room) s m [.ref (gC G 3)].toArray below meth c H locs 0 0 Qm (F0 m 0 ls []) := by
    intro k44 hk44 n
    induction n with
    | zero => intro S H locs ls hH hl hf; exact absurd hf.symm (Option.some_ne_none q)
    | succ n ih =>
      intro S H locs ls hH hl hf
      have hrec := ih
      have hf : s_X6_readWord_0 N k44 (g_X6_readWord_0 N k44 n) S = some q := hf
      rw [s_X6_readWord_0] at hf
      refine lv_aload_n hx hb dX6_readWord_0 rfl (lv_at hl 0 rfl) ?_
      refine getO hC hH (3) rfl rfl in_X6_readWord_X6 1 (by decide) (index := 18) (List.mem_of_getElem? (i := 1) rfl) rfl dX6_readWord_1 ?_
      refine lv_aload_n hx hb dX6_readWord_4 rfl (lv_at hl 0 rfl) ?_
      refine getO hC hH (3) rfl rfl in_X6_readWord_X6 0 (by decide) (index := 12) (List.mem_of_getElem? (i := 2) rfl) rfl dX6_readWord_5 ?_
      refine getN hC hH (1) rfl rfl in_X6_readWord_X8 1 (by decide) (index := 91) (List.mem_of_getElem? (i := 1) rfl) rfl dX6_readWord_8 ?_
      refine lv_icmp_ge (tgt := 44) hx hb dX6_readWord_11 (by decide) (fun c1 => ?_) (fun c1 => ?_)
      · replace hf := it_t c1 hf
        exact hk44 S _ _ _ hH (lv_sub hl [0] rfl) hf
      · replace hf := it_f c1 hf
        refine lv_aload_n hx hb dX6_readWord_14 rfl (lv_at hl 0 rfl) ?_
        refine getO hC hH (3) rfl rfl in_X6_readWord_X6 0 (by decide) (index := 12) (List.mem_of_getElem? (i := 2) rfl) rfl dX6_readWord_15 ?_
        refine lv_aload_n hx hb dX6_readWord_18 rfl (lv_at hl 0 rfl) ?_
        refine getO hC hH (3) rfl rfl in_X6_readWord_X6 1 (by decide) (index := 18) (List.mem_of_getElem? (i := 1) rfl) rfl dX6_readWord_19 ?_
        obtain ⟨r2, hr2, hf⟩ := ob hf
        refine callV_i [.int (gI S 3 1)] [] hC hH (c_X8_byteAt l G A S (gI S 3 1) _ hr2) (cwV 1 hts gX6_readWord_X8_byteAt rfl rfl rfl (by decide +kernel) ⟨Nat.le_of_ble_eq_true rfl, Nat.le_of_ble_eq_true rfl⟩) (recvW hC hH (c0 := 1) (ci := 8) rfl rfl) rfl hl.1 rfl (Nat.le_of_ble_eq_true rfl) dX6_readWord_22 (fun H locs hH => ?_)
        obtain ⟨r3, hr3, hf⟩ := ob hf
        refine callS_i [.int r2] [] hC hH (c_X6_isLetter l G A S r2 _ hr3) (va_cwS 1 hts gX6_readWord_X6_isLetter rfl rfl rfl (by decide +kernel) ⟨Nat.le_of_ble_eq_true rfl, Nat.le_of_ble_eq_true rfl⟩) rfl hl.1 rfl (Nat.le_of_ble_eq_true rfl) dX6_readWord_25 (fun H locs hH => ?_)
        refine lv_if_eq (tgt := 44) hx hb dX6_readWord_28 (by decide) (fun c4 => ?_) (fun c4 => ?_)
        · replace hf := it_t c4 hf
          exact hk44 S _ _ _ hH (lv_sub hl [0] rfl) hf
        · replace hf := it_f c4 hf
          refine lv_aload_n hx hb dX6_readWord_31 rfl (lv_at hl 0 rfl) ?_
          refine lv_dup hx hb dX6_readWord_32 rfl ?_
          refine getO hC hH (3) rfl rfl in_X6_readWord_X6 1 (by decide) (index := 18) (List.mem_of_getElem? (i := 1) rfl) rfl dX6_readWord_33 ?_
          refine lv_iconst (v := 1) hx hb dX6_readWord_36 (by decide) ?_
          refine lv_iadd hx hb dX6_readWord_37 ?_
          refine putO hC hH (3) rfl rfl in_X6_readWord_X6 tyX6 tyX6_ok nmX6 1 (by decide) (index := 18) (List.mem_of_getElem? (i := 1) rfl) rfl rfl rfl (Nat.le_of_ble_eq_true rfl) cs_3_1 dX6_readWord_38 (fun H locs hH => ?_)
          obtain ⟨S5, eS5⟩ : ∃ Z : St, Z = sI S 3 1 ((gI S 3 1) + (1 : Int32)) := ⟨_, rfl⟩
          rw [← eS5] at hH
          replace hf := bn eS5 hf
          refine lv_goto (tgt := 0) hx hb dX6_readWord_41 (by decide) ?_
          exact hrec S5 _ _ _ hH (lv_sub hl [0] rfl) hf
  have kJ44 : ∀ (S : St) (H : Heap) (locs : List Loc) (ls : Array Slot), HW G A (CW G S) s H locs → lv_has ls 1 [(0, .ref (gC G 3))] → f_X6_readWord_44 N S = some q → W p l e ({ frames := 7, cells := 0, slots := 0, locals := 154 } : Room) s m [.ref (gC G 3)].toArray below meth c H locs 0 0 Qm (F0 m 44 ls []) := by
    intro S H locs ls hH hl hf
    rw [f_X6_readWord_44] at hf
    refine lv_aload_n hx hb dX6_readWord_44 rfl (lv_at hl 0 rfl) ?_
    refine getO hC hH (3) rfl rfl in_X6_readWord_X6 0 (by decide) (index := 12) (List.mem_of_getElem? (i := 2) rfl) rfl dX6_readWord_45 ?_
    refine va_ldcS hx hb hown (hC.2.2.2.2.1 0 (by decide)) dX6_readWord_48 ?_
    refine lv_aload_n hx hb dX6_readWord_50 rfl (lv_at hl 0 rfl) ?_
    refine getO hC hH (3) rfl rfl in_X6_readWord_X6 2 (by decide) (index := 22) (List.mem_of_getElem? (i := 3) rfl) rfl dX6_readWord_51 ?_
    refine lv_aload_n hx hb dX6_readWord_54 rfl (lv_at hl 0 rfl) ?_
    refine getO hC hH (3) rfl rfl in_X6_readWord_X6 1 (by decide) (index := 18) (List.mem_of_getElem? (i := 1) rfl) rfl dX6_readWord_55 ?_
    obtain ⟨r7, hr7, hf⟩ := ob hf
    refine callV_i [.ref (gK G 0), .int (gI S 3 2), .int (gI S 3 1)] [] hC hH (c_X8_holds l G A N S 0 (by decide) (gI S 3 2) (gI S 3 1) _ hr7) (cwV 3 hts gX6_readWord_X8_holds rfl rfl rfl (by decide +kernel) ⟨Nat.le_of_ble_eq_true rfl, Nat.le_of_ble_eq_true rfl⟩) (recvW hC hH (c0 := 1) (ci := 8) rfl rfl) rfl hl.1 rfl (Nat.le_of_ble_eq_true rfl) dX6_readWord_58 (fun H locs hH => ?_)
    refine lv_if_eq (tgt := 72) hx hb dX6_readWord_61 (by decide) (fun c8 => ?_) (fun c8 => ?_)
    · replace hf := it_t c8 hf
      refine lv_aload_n hx hb dX6_readWord_72 rfl (lv_at hl 0 rfl) ?_
      refine getO hC hH (3) rfl rfl in_X6_readWord_X6 0 (by decide) (index := 12) (List.mem_of_getElem? (i := 2) rfl) rfl dX6_readWord_73 ?_
      refine va_ldcS hx hb hown (hC.2.2.2.2.1 1 (by decide)) dX6_readWord_76 ?_
      refine lv_aload_n hx hb dX6_readWord_78 rfl (lv_at hl 0 rfl) ?_
      refine getO hC hH (3) rfl rfl in_X6_readWord_X6 2 (by decide) (index := 22) (List.mem_of_getElem? (i := 3) rfl) rfl dX6_readWord_79 ?_
      refine lv_aload_n hx hb dX6_readWord_82 rfl (lv_at hl 0 rfl) ?_
      refine getO hC hH (3) rfl rfl in_X6_readWord_X6 1 (by decide) (index := 18) (List.mem_of_getElem? (i := 1) rfl) rfl dX6_readWord_83 ?_
      obtain ⟨r9, hr9, hf⟩ := ob hf
      refine callV_i [.ref (gK G 1), .int (gI S 3 2), .int (gI S 3 1)] [] hC hH (c_X8_holds l G A N S 1 (by decide) (gI S 3 2) (gI S 3 1) _ hr9) (cwV 3 hts gX6_readWord_X8_holds rfl rfl rfl (by decide +kernel) ⟨Nat.le_of_ble_eq_true rfl, Nat.le_of_ble_eq_true rfl⟩) (recvW hC hH (c0 := 1) (ci := 8) rfl rfl) rfl hl.1 rfl (Nat.le_of_ble_eq_true rfl) dX6_readWord_86 (fun H locs hH => ?_)
      refine lv_if_eq (tgt := 100) hx hb dX6_readWord_89 (by decide) (fun c10 => ?_) (fun c10 => ?_)
      · replace hf := it_t c10 hf
        refine lv_aload_n hx hb dX6_readWord_100 rfl (lv_at hl 0 rfl) ?_
        refine getO hC hH (3) rfl rfl in_X6_readWord_X6 0 (by decide) (index := 12) (List.mem_of_getElem? (i := 2) rfl) rfl dX6_readWord_101 ?_
        refine va_ldcS hx hb hown (hC.2.2.2.2.1 2 (by decide)) dX6_readWord_104 ?_
        refine lv_aload_n hx hb dX6_readWord_106 rfl (lv_at hl 0 rfl) ?_
        refine getO hC hH (3) rfl rfl in_X6_readWord_X6 2 (by decide) (index := 22) (List.mem_of_getElem? (i := 3) rfl) rfl dX6_readWord_107 ?_
        refine lv_aload_n hx hb dX6_readWord_110 rfl (lv_at hl 0 rfl) ?_
        refine getO hC hH (3) rfl rfl in_X6_readWord_X6 1 (by decide) (index := 18) (List.mem_of_getElem? (i := 1) rfl) rfl dX6_readWord_111 ?_
        obtain ⟨r11, hr11, hf⟩ := ob hf
        refine callV_i [.ref (gK G 2), .int (gI S 3 2), .int (gI S 3 1)] [] hC hH (c_X8_holds l G A N S 2 (by decide) (gI S 3 2) (gI S 3 1) _ hr11) (cwV 3 hts gX6_readWord_X8_holds rfl rfl rfl (by decide +kernel) ⟨Nat.le_of_ble_eq_true rfl, Nat.le_of_ble_eq_true rfl⟩) (recvW hC hH (c0 := 1) (ci := 8) rfl rfl) rfl hl.1 rfl (Nat.le_of_ble_eq_true rfl) dX6_readWord_114 (fun H locs hH => ?_)
        refine lv_if_eq (tgt := 128) hx hb dX6_readWord_117 (by decide) (fun c12 => ?_) (fun c12 => ?_)
        · replace hf := it_t c12 hf
          refine lv_aload_n hx hb dX6_readWord_128 rfl (lv_at hl 0 rfl) ?_
          refine getO hC hH (3) rfl rfl in_X6_readWord_X6 0 (by decide) (index := 12) (List.mem_of_getElem? (i := 2) rfl) rfl dX6_readWord_129 ?_
          refine va_ldcS hx hb hown (hC.2.2.2.2.1 3 (by decide)) dX6_readWord_132 ?_
          refine lv_aload_n hx hb dX6_readWord_134 rfl (lv_at hl 0 rfl) ?_
          refine getO hC hH (3) rfl rfl in_X6_readWord_X6 2 (by decide) (index := 22) (List.mem_of_getElem? (i := 3) rfl) rfl dX6_readWord_135 ?_
          refine lv_aload_n hx hb dX6_readWord_138 rfl (lv_at hl 0 rfl) ?_
          refine getO hC hH (3) rfl rfl in_X6_readWord_X6 1 (by decide) (index := 18) (List.mem_of_getElem? (i := 1) rfl) rfl dX6_readWord_139 ?_
          obtain ⟨r13, hr13, hf⟩ := ob hf
          refine callV_i [.ref (gK G 3), .int (gI S 3 2), .int (gI S 3 1)] [] hC hH (c_X8_holds l G A N S 3 (by decide) (gI S 3 2) (gI S 3 1) _ hr13) (cwV 3 hts gX6_readWord_X8_holds rfl rfl rfl (by decide +kernel) ⟨Nat.le_of_ble_eq_true rfl, Nat.le_of_ble_eq_true rfl⟩) (recvW hC hH (c0 := 1) (ci := 8) rfl rfl) rfl hl.1 rfl (Nat.le_of_ble_eq_true rfl) dX6_readWord_142 (fun H locs hH => ?_)
          refine lv_if_eq (tgt := 156) hx hb dX6_readWord_145 (by decide) (fun c14 => ?_) (fun c14 => ?_)
          · replace hf := it_t c14 hf
            refine lv_aload_n hx hb dX6_readWord_156 rfl (lv_at hl 0 rfl) ?_
            refine getO hC hH (3) rfl rfl in_X6_readWord_X6 0 (by decide) (index := 12) (List.mem_of_getElem? (i := 2) rfl) rfl dX6_readWord_157 ?_
            refine va_ldcS hx hb hown (hC.2.2.2.2.1 4 (by decide)) dX6_readWord_160 ?_
            refine lv_aload_n hx hb dX6_readWord_162 rfl (lv_at hl 0 rfl) ?_
            refine getO hC hH (3) rfl rfl in_X6_readWord_X6 2 (by decide) (index := 22) (List.mem_of_getElem? (i := 3) rfl) rfl dX6_readWord_163 ?_
            refine lv_aload_n hx hb dX6_readWord_166 rfl (lv_at hl 0 rfl) ?_
            refine getO hC hH (3) rfl rfl in_X6_readWord_X6 1 (by decide) (index := 18) (List.mem_of_getElem? (i := 1) rfl) rfl dX6_readWord_167 ?_
            obtain ⟨r15, hr15, hf⟩ := ob hf
            refine callV_i [.ref (gK G 4), .int (gI S 3 2), .int (gI S 3 1)] [] hC hH (c_X8_holds l G A N S 4 (by decide) (gI S 3 2) (gI S 3 1) _ hr15) (cwV 3 hts gX6_readWord_X8_holds rfl rfl rfl (by decide +kernel) ⟨Nat.le_of_ble_eq_true rfl, Nat.le_of_ble_eq_true rfl⟩) (recvW hC hH (c0 := 1) (ci := 8) rfl rfl) rfl hl.1 rfl (Nat.le_of_ble_eq_true rfl) dX6_readWord_170 (fun H locs hH => ?_)
            refine lv_if_eq (tgt := 184) hx hb dX6_readWord_173 (by decide) (fun c16 => ?_) (fun c16 => ?_)
            · replace hf := it_t c16 hf
              refine lv_aload_n hx hb dX6_readWord_184 rfl (lv_at hl 0 rfl) ?_
              refine getO hC hH (3) rfl rfl in_X6_readWord_X6 0 (by decide) (index := 12) (List.mem_of_getElem? (i := 2) rfl) rfl dX6_readWord_185 ?_
              refine va_ldcS hx hb hown (hC.2.2.2.2.1 5 (by decide)) dX6_readWord_188 ?_
              refine lv_aload_n hx hb dX6_readWord_190 rfl (lv_at hl 0 rfl) ?_
              refine getO hC hH (3) rfl rfl in_X6_readWord_X6 2 (by decide) (index := 22) (List.mem_of_getElem? (i := 3) rfl) rfl dX6_readWord_191 ?_
              refine lv_aload_n hx hb dX6_readWord_194 rfl (lv_at hl 0 rfl) ?_
              refine getO hC hH (3) rfl rfl in_X6_readWord_X6 1 (by decide) (index := 18) (List.mem_of_getElem? (i := 1) rfl) rfl dX6_readWord_195 ?_
              obtain ⟨r17, hr17, hf⟩ := ob hf
              refine callV_i [.ref (gK G 5), .int (gI S 3 2), .int (gI S 3 1)] [] hC hH (c_X8_holds l G A N S 5 (by decide) (gI S 3 2) (gI S 3 1) _ hr17) (cwV 3 hts gX6_readWord_X8_holds rfl rfl rfl (by decide +kernel) ⟨Nat.le_of_ble_eq_true rfl, Nat.le_of_ble_eq_true rfl⟩) (recvW hC hH (c0 := 1) (ci := 8) rfl rfl) rfl hl.1 rfl (Nat.le_of_ble_eq_true rfl) dX6_readWord_198 (fun H locs hH => ?_)
              refine lv_if_eq (tgt := 213) hx hb dX6_readWord_201 (by decide) (fun c18 => ?_) (fun c18 => ?_)
              · replace hf := it_t c18 hf
                refine lv_aload_n hx hb dX6_readWord_213 rfl (lv_at hl 0 rfl) ?_
                refine getO hC hH (3) rfl rfl in_X6_readWord_X6 0 (by decide) (index := 12) (List.mem_of_getElem? (i := 2) rfl) rfl dX6_readWord_214 ?_
                refine va_ldcS hx hb hown (hC.2.2.2.2.1 6 (by decide)) dX6_readWord_217 ?_
                refine lv_aload_n hx hb dX6_readWord_219 rfl (lv_at hl 0 rfl) ?_
                refine getO hC hH (3) rfl rfl in_X6_readWord_X6 2 (by decide) (index := 22) (List.mem_of_getElem? (i := 3) rfl) rfl dX6_readWord_220 ?_
                refine lv_aload_n hx hb dX6_readWord_223 rfl (lv_at hl 0 rfl) ?_
                refine getO hC hH (3) rfl rfl in_X6_readWord_X6 1 (by decide) (index := 18) (List.mem_of_getElem? (i := 1) rfl) rfl dX6_readWord_224 ?_
                obtain ⟨r19, hr19, hf⟩ := ob hf
                refine callV_i [.ref (gK G 6), .int (gI S 3 2), .int (gI S 3 1)] [] hC hH (c_X8_holds l G A N S 6 (by decide) (gI S 3 2) (gI S 3 1) _ hr19) (cwV 3 hts gX6_readWord_X8_holds rfl rfl rfl (by decide +kernel) ⟨Nat.le_of_ble_eq_true rfl, Nat.le_of_ble_eq_true rfl⟩) (recvW hC hH (c0 := 1) (ci := 8) rfl rfl) rfl hl.1 rfl (Nat.le_of_ble_eq_true rfl) dX6_readWord_227 (fun H locs hH => ?_)
                refine lv_if_eq (tgt := 242) hx hb dX6_readWord_230 (by decide) (fun c20 => ?_) (fun c20 => ?_)
                · replace hf := it_t c20 hf
                  refine lv_aload_n hx hb dX6_readWord_242 rfl (lv_at hl 0 rfl) ?_
                  refine lv_bipush (v := 10) hx hb dX6_readWord_243 (by decide) ?_
                  refine putO hC hH (3) rfl rfl in_X6_readWord_X6 tyX6 tyX6_ok nmX6 3 (by decide) (index := 25) (List.mem_of_getElem? (i := 4) rfl) rfl rfl rfl (Nat.le_of_ble_eq_true rfl) cs_3_3 dX6_readWord_245 (fun H locs hH => ?_)
                  obtain ⟨S21, eS21⟩ : ∃ Z : St, Z = sI S 3 3 (10 : Int32) := ⟨_, rfl⟩
                  rw [← eS21] at hH
                  replace hf := bn eS21 hf
                  exact fin S21 _ _ _ _ (Option.some.inj hf) hH dX6_readWord_248
                · replace hf := it_f c20 hf
                  refine lv_aload_n hx hb dX6_readWord_233 rfl (lv_at hl 0 rfl) ?_
                  refine lv_bipush (v := 7) hx hb dX6_readWord_234 (by decide) ?_
                  refine putO hC hH (3) rfl rfl in_X6_readWord_X6 tyX6 tyX6_ok nmX6 3 (by decide) (index := 25) (List.mem_of_getElem? (i := 4) rfl) rfl rfl rfl (Nat.le_of_ble_eq_true rfl) cs_3_3 dX6_readWord_236 (fun H locs hH => ?_)
                  obtain ⟨S22, eS22⟩ : ∃ Z : St, Z = sI S 3 3 (7 : Int32) := ⟨_, rfl⟩
                  rw [← eS22] at hH
                  replace hf := bn eS22 hf
                  refine lv_goto (tgt := 248) hx hb dX6_readWord_239 (by decide) ?_
                  exact fin S22 _ _ _ _ (Option.some.inj hf) hH dX6_readWord_248
              · replace hf := it_f c18 hf
                refine lv_aload_n hx hb dX6_readWord_204 rfl (lv_at hl 0 rfl) ?_
                refine lv_bipush (v := 6) hx hb dX6_readWord_205 (by decide) ?_
                refine putO hC hH (3) rfl rfl in_X6_readWord_X6 tyX6 tyX6_ok nmX6 3 (by decide) (index := 25) (List.mem_of_getElem? (i := 4) rfl) rfl rfl rfl (Nat.le_of_ble_eq_true rfl) cs_3_3 dX6_readWord_207 (fun H locs hH => ?_)
                obtain ⟨S23, eS23⟩ : ∃ Z : St, Z = sI S 3 3 (6 : Int32) := ⟨_, rfl⟩
                rw [← eS23] at hH
                replace hf := bn eS23 hf
                refine lv_goto (tgt := 248) hx hb dX6_readWord_210 (by decide) ?_
                exact fin S23 _ _ _ _ (Option.some.inj hf) hH dX6_readWord_248
            · replace hf := it_f c16 hf
              refine lv_aload_n hx hb dX6_readWord_176 rfl (lv_at hl 0 rfl) ?_
              refine lv_iconst (v := 5) hx hb dX6_readWord_177 (by decide) ?_
              refine putO hC hH (3) rfl rfl in_X6_readWord_X6 tyX6 tyX6_ok nmX6 3 (by decide) (index := 25) (List.mem_of_getElem? (i := 4) rfl) rfl rfl rfl (Nat.le_of_ble_eq_true rfl) cs_3_3 dX6_readWord_178 (fun H locs hH => ?_)
              obtain ⟨S24, eS24⟩ : ∃ Z : St, Z = sI S 3 3 (5 : Int32) := ⟨_, rfl⟩
              rw [← eS24] at hH
              replace hf := bn eS24 hf
              refine lv_goto (tgt := 248) hx hb dX6_readWord_181 (by decide) ?_
              exact fin S24 _ _ _ _ (Option.some.inj hf) hH dX6_readWord_248
          · replace hf := it_f c14 hf
            refine lv_aload_n hx hb dX6_readWord_148 rfl (lv_at hl 0 rfl) ?_
            refine lv_iconst (v := 4) hx hb dX6_readWord_149 (by decide) ?_
            refine putO hC hH (3) rfl rfl in_X6_readWord_X6 tyX6 tyX6_ok nmX6 3 (by decide) (index := 25) (List.mem_of_getElem? (i := 4) rfl) rfl rfl rfl (Nat.le_of_ble_eq_true rfl) cs_3_3 dX6_readWord_150 (fun H locs hH => ?_)
            obtain ⟨S25, eS25⟩ : ∃ Z : St, Z = sI S 3 3 (4 : Int32) := ⟨_, rfl⟩
            rw [← eS25] at hH
            replace hf := bn eS25 hf
            refine lv_goto (tgt := 248) hx hb dX6_readWord_153 (by decide) ?_
            exact fin S25 _ _ _ _ (Option.some.inj hf) hH dX6_readWord_248
        · replace hf := it_f c12 hf
          refine lv_aload_n hx hb dX6_readWord_120 rfl (lv_at hl 0 rfl) ?_
          refine lv_iconst (v := 3) hx hb dX6_readWord_121 (by decide) ?_
          refine putO hC hH (3) rfl rfl in_X6_readWord_X6 tyX6 tyX6_ok nmX6 3 (by decide) (index := 25) (List.mem_of_getElem? (i := 4) rfl) rfl rfl rfl (Nat.le_of_ble_eq_true rfl) cs_3_3 dX6_readWord_122 (fun H locs hH => ?_)
          obtain ⟨S26, eS26⟩ : ∃ Z : St, Z = sI S 3 3 (3 : Int32) := ⟨_, rfl⟩
          rw [← eS26] at hH
          replace hf := bn eS26 hf
          refine lv_goto (tgt := 248) hx hb dX6_readWord_125 (by decide) ?_
          exact fin S26 _ _ _ _ (Option.some.inj hf) hH dX6_readWord_248
      · replace hf := it_f c10 hf
        refine lv_aload_n hx hb dX6_readWord_92 rfl (lv_at hl 0 rfl) ?_
        refine lv_iconst (v := 2) hx hb dX6_readWord_93 (by decide) ?_
        refine putO hC hH (3) rfl rfl in_X6_readWord_X6 tyX6 tyX6_ok nmX6 3 (by decide) (index := 25) (List.mem_of_getElem? (i := 4) rfl) rfl rfl rfl (Nat.le_of_ble_eq_true rfl) cs_3_3 dX6_readWord_94 (fun H locs hH => ?_)
        obtain ⟨S27, eS27⟩ : ∃ Z : St, Z = sI S 3 3 (2 : Int32) := ⟨_, rfl⟩
        rw [← eS27] at hH
        replace hf := bn eS27 hf
        refine lv_goto (tgt := 248) hx hb dX6_readWord_97 (by decide) ?_
        exact fin S27 _ _ _ _ (Option.some.inj hf) hH dX6_readWord_248
    · replace hf := it_f c8 hf
      refine lv_aload_n hx hb dX6_readWord_64 rfl (lv_at hl 0 rfl) ?_
      refine lv_iconst (v := 1) hx hb dX6_readWord_65 (by decide) ?_
      refine putO hC hH (3) rfl rfl in_X6_readWord_X6 tyX6 tyX6_ok nmX6 3 (by decide) (index := 25) (List.mem_of_getElem? (i := 4) rfl) rfl rfl rfl (Nat.le_of_ble_eq_true rfl) cs_3_3 dX6_readWord_66 (fun H locs hH => ?_)
      obtain ⟨S28, eS28⟩ : ∃ Z : St, Z = sI S 3 3 (1 : Int32) := ⟨_, rfl⟩
      rw [← eS28] at hH
      replace hf := bn eS28 hf
      refine lv_goto (tgt := 248) hx hb dX6_readWord_69 (by decide) ?_
      exact fin S28 _ _ _ _ (Option.some.inj hf) hH dX6_readWord_248
  have hf := hf
  rw [f_X6_readWord] at hf
  refine kL0 _ ?_ N S _ _ _ hH (lv_sub hl [0] rfl) hf
  intro S6 H locs ls hH hl hf
  exact kJ44  S6 _ _ _ hH (lv_sub hl [0] rfl) hf
set_option maxRecDepth 100000 in
set_option maxHeartbeats 4000000 in
theorem c_X6_isDigit (l : Launch) (G : Gt) (A : Nat → Prop) (S : St)  (a0 : Int32) (q : Int32) (hf : f_X6_isDigit a0 = some q) : Met l yX6_isDigit wsX6_isDigit ({ frames := 0, cells := 0, slots := 0, locals := 0 } : Room) (va_Pc [.int a0] (PK G A (CW G S))) (va_Qi (fun (r2 : Int32) S2 => r2 = q ∧ S2 = S) (fun S2 : St => PK G A (CW G S2)) A) 0 0 A := by
  refine mstart_z (ty := .boolean) (Wd := CW G) (cc := cX6_isDigit) (maxL := 1) (by decide) rfl (Nat.le_of_ble_eq_true rfl) (fun p e s m below meth c Qm ls hC hH hl fin => ?_)
  obtain ⟨hx, hb, hml, hown, hts⟩ := id hC.1
  have hl : lv_has ls 1 [(0, .int a0)] := hl
  have hf := hf
  rw [f_X6_isDigit] at hf
  refine lv_iload_n hx hb dX6_isDigit_0 rfl (lv_at hl 0 rfl) ?_
  refine lv_bipush (v := 48) hx hb dX6_isDigit_1 (by decide) ?_
  refine lv_icmp_lt (tgt := 16) hx hb dX6_isDigit_3 (by decide) (fun c1 => ?_) (fun c1 => ?_)
  · replace hf := it_t c1 hf
    refine lv_iconst (v := 0) hx hb dX6_isDigit_16 (by decide) ?_
    exact fin (0 : Int32) S _ _ _ _ rfl (Option.some.inj hf) rfl hH dX6_isDigit_17
  · replace hf := it_f c1 hf
    refine lv_iload_n hx hb dX6_isDigit_6 rfl (lv_at hl 0 rfl) ?_
    refine lv_bipush (v := 57) hx hb dX6_isDigit_7 (by decide) ?_
    refine lv_icmp_gt (tgt := 16) hx hb dX6_isDigit_9 (by decide) (fun c2 => ?_) (fun c2 => ?_)
    · replace hf := it_t c2 hf
      refine lv_iconst (v := 0) hx hb dX6_isDigit_16 (by decide) ?_
      exact fin (0 : Int32) S _ _ _ _ rfl (Option.some.inj hf) rfl hH dX6_isDigit_17
    · replace hf := it_f c2 hf
      refine lv_iconst (v := 1) hx hb dX6_isDigit_12 (by decide) ?_
      refine lv_goto (tgt := 17) hx hb dX6_isDigit_13 (by decide) ?_
      exact fin (1 : Int32) S _ _ _ _ rfl (Option.some.inj hf) rfl hH dX6_isDigit_17
theorem in_X6_readDigits_X6 : ∀ w ∈ wsX60, w ∈ wsX6_readDigits := fun w h => List.mem_cons_of_mem _ (List.mem_append_left _ (List.mem_append_right _ h))
theorem in_X6_readDigits_X8 : ∀ w ∈ wsX80, w ∈ wsX6_readDigits := fun w h => List.mem_cons_of_mem _ (List.mem_append_right _ h)
set_option maxRecDepth 100000 in
set_option maxHeartbeats 4000000 in
theorem c_X6_readDigits (l : Launch) (G : Gt) (A : Nat → Prop) (N : Nat) (S : St)   (q : St) (hf : f_X6_readDigits N S = some q) : Met l yX6_readDigits wsX6_readDigits ({ frames := 1, cells := 0, slots := 0, locals := 24 } : Room) (va_Pc [.ref (gC G 3)] (PK G A (CW G S))) (va_Qv (fun S2 => S2 = q) (fun S2 : St => PK G A (CW G S2)) A) 0 0 A := by
  refine mstart_v (Wd := CW G) (cc := cX6_readDigits) (maxL := 2) (by decide) rfl (Nat.le_of_ble_eq_true rfl) (fun p e s m below meth c Qm ls hC hH hl fin => ?_)
  obtain ⟨hx, hb, hml, hown, hts⟩ := id hC.1
  have hl : lv_has ls 2 [(0, .ref (gC G 3))] := hl
  have kL5 : ∀ (k80 : St → Option St) (hk80 : ∀ (S : St) (H : Heap) (locs : List Loc) (ls : Array Slot), HW G A (CW G S) s H locs → lv_has ls 2 [(0, .ref (gC G 3))] → k80 S = some q → W p l e ({ frames := 1, cells := 0, slots := 0, locals := 24 } : Room) s m [.ref (gC G 3)].toArray below meth c H locs 0 0 Qm (F0 m 80 ls [])) , ∀ (n : Nat), ∀ (S : St) (H : Heap) (locs : List Loc) (ls : Array Slot), HW G A (CW G S) s H locs → lv_has ls 2 [(0, .ref (gC G 3))] → g_X6_readDigits_5 N k80 n S = some q → W p l e ({ frames := 1, cells := 0, slots := 0, locals := 24 } : Room) s m [.ref (gC G 3)].toArray below meth c H locs 0 0 Qm (F0 m 5 ls []) := by
    intro k80 hk80 n
    induction n with
    | zero => intro S H locs ls hH hl hf; exact absurd hf.symm (Option.some_ne_none q)
    | succ n ih =>
      intro S H locs ls hH hl hf
      have hrec := ih
      have hf : s_X6_readDigits_5 N k80 (g_X6_readDigits_5 N k80 n) S = some q := hf
      rw [s_X6_readDigits_5] at hf
      refine lv_aload_n hx hb dX6_readDigits_5 rfl (lv_at hl 0 rfl) ?_
      refine getO hC hH (3) rfl rfl in_X6_readDigits_X6 1 (by decide) (index := 18) (List.mem_of_getElem? (i := 2) rfl) rfl dX6_readDigits_6 ?_
      refine lv_aload_n hx hb dX6_readDigits_9 rfl (lv_at hl 0 rfl) ?_
      refine getO hC hH (3) rfl rfl in_X6_readDigits_X6 0 (by decide) (index := 12) (List.mem_of_getElem? (i := 3) rfl) rfl dX6_readDigits_10 ?_
      refine getN hC hH (1) rfl rfl in_X6_readDigits_X8 1 (by decide) (index := 91) (List.mem_of_getElem? (i := 1) rfl) rfl dX6_readDigits_13 ?_
      refine lv_icmp_ge (tgt := 80) hx hb dX6_readDigits_16 (by decide) (fun c2 => ?_) (fun c2 => ?_)
      · replace hf := it_t c2 hf
        exact hk80 S _ _ _ hH (lv_sub hl [0] rfl) hf
      · replace hf := it_f c2 hf
        refine lv_aload_n hx hb dX6_readDigits_19 rfl (lv_at hl 0 rfl) ?_
        refine getO hC hH (3) rfl rfl in_X6_readDigits_X6 0 (by decide) (index := 12) (List.mem_of_getElem? (i := 3) rfl) rfl dX6_readDigits_20 ?_
        refine lv_aload_n hx hb dX6_readDigits_23 rfl (lv_at hl 0 rfl) ?_
        refine getO hC hH (3) rfl rfl in_X6_readDigits_X6 1 (by decide) (index := 18) (List.mem_of_getElem? (i := 2) rfl) rfl dX6_readDigits_24 ?_
        obtain ⟨r3, hr3, hf⟩ := ob hf
        refine callV_i [.int (gI S 3 1)] [] hC hH (c_X8_byteAt l G A S (gI S 3 1) _ hr3) (cwV 1 hts gX6_readDigits_X8_byteAt rfl rfl rfl (by decide +kernel) ⟨Nat.le_of_ble_eq_true rfl, Nat.le_of_ble_eq_true rfl⟩) (recvW hC hH (c0 := 1) (ci := 8) rfl rfl) rfl hl.1 rfl (Nat.le_of_ble_eq_true rfl) dX6_readDigits_27 (fun H locs hH => ?_)
        obtain ⟨r4, hr4, hf⟩ := ob hf
        refine callS_i [.int r3] [] hC hH (c_X6_isDigit l G A S r3 _ hr4) (va_cwS 1 hts gX6_readDigits_X6_isDigit rfl rfl rfl (by decide +kernel) ⟨Nat.le_of_ble_eq_true rfl, Nat.le_of_ble_eq_true rfl⟩) rfl hl.1 rfl (Nat.le_of_ble_eq_true rfl) dX6_readDigits_30 (fun H locs hH => ?_)
        refine lv_if_eq (tgt := 80) hx hb dX6_readDigits_33 (by decide) (fun c5 => ?_) (fun c5 => ?_)
        · replace hf := it_t c5 hf
          exact hk80 S _ _ _ hH (lv_sub hl [0] rfl) hf
        · replace hf := it_f c5 hf
          refine lv_aload_n hx hb dX6_readDigits_36 rfl (lv_at hl 0 rfl) ?_
          refine lv_bipush (v := 100) hx hb dX6_readDigits_37 (by decide) ?_
          refine lv_aload_n hx hb dX6_readDigits_39 rfl (lv_at hl 0 rfl) ?_
          refine getO hC hH (3) rfl rfl in_X6_readDigits_X6 4 (by decide) (index := 28) (List.mem_of_getElem? (i := 1) rfl) rfl dX6_readDigits_40 ?_
          refine lv_bipush (v := 10) hx hb dX6_readDigits_43 (by decide) ?_
          refine lv_imul hx hb dX6_readDigits_45 ?_
          refine lv_aload_n hx hb dX6_readDigits_46 rfl (lv_at hl 0 rfl) ?_
          refine getO hC hH (3) rfl rfl in_X6_readDigits_X6 0 (by decide) (index := 12) (List.mem_of_getElem? (i := 3) rfl) rfl dX6_readDigits_47 ?_
          refine lv_aload_n hx hb dX6_readDigits_50 rfl (lv_at hl 0 rfl) ?_
          refine getO hC hH (3) rfl rfl in_X6_readDigits_X6 1 (by decide) (index := 18) (List.mem_of_getElem? (i := 2) rfl) rfl dX6_readDigits_51 ?_
          obtain ⟨r6, hr6, hf⟩ := ob hf
          refine callV_i [.int (gI S 3 1)] [.int ((gI S 3 4) * (10 : Int32)), .int (100 : Int32), .ref (gC G 3)] hC hH (c_X8_byteAt l G A S (gI S 3 1) _ hr6) (cwV 1 hts gX6_readDigits_X8_byteAt rfl rfl rfl (by decide +kernel) ⟨Nat.le_of_ble_eq_true rfl, Nat.le_of_ble_eq_true rfl⟩) (recvW hC hH (c0 := 1) (ci := 8) rfl rfl) rfl hl.1 rfl (Nat.le_of_ble_eq_true rfl) dX6_readDigits_54 (fun H locs hH => ?_)
          refine lv_iadd hx hb dX6_readDigits_57 ?_
          refine lv_bipush (v := 48) hx hb dX6_readDigits_58 (by decide) ?_
          refine lv_isub hx hb dX6_readDigits_60 ?_
          refine va_mmin hx hb (by rw [hml]; exact hl.1.symm) hown (hts _ (List.mem_of_getElem? (i := 4) rfl)) (hts _ (List.mem_of_getElem? (i := 5) rfl)) (hts _ (List.mem_of_getElem? (i := 6) rfl)) (hts _ (List.mem_of_getElem? (i := 7) rfl)) (Nat.le_of_ble_eq_true rfl) (Nat.le_of_ble_eq_true rfl) (Nat.zero_le _) (Nat.zero_le _) dX6_readDigits_61 ?_
          refine putO hC hH (3) rfl rfl in_X6_readDigits_X6 tyX6 tyX6_ok nmX6 4 (by decide) (index := 28) (List.mem_of_getElem? (i := 1) rfl) rfl rfl rfl (Nat.le_of_ble_eq_true rfl) cs_3_4 dX6_readDigits_64 (fun H locs hH => ?_)
          obtain ⟨S7, eS7⟩ : ∃ Z : St, Z = sI S 3 4 (if ((((gI S 3 4) * (10 : Int32)) + r6) - (48 : Int32)) < (100 : Int32) then ((((gI S 3 4) * (10 : Int32)) + r6) - (48 : Int32)) else (100 : Int32)) := ⟨_, rfl⟩
          rw [← eS7] at hH
          replace hf := bn eS7 hf
          refine lv_aload_n hx hb dX6_readDigits_67 rfl (lv_at hl 0 rfl) ?_
          refine lv_dup hx hb dX6_readDigits_68 rfl ?_
          refine getO hC hH (3) rfl rfl in_X6_readDigits_X6 1 (by decide) (index := 18) (List.mem_of_getElem? (i := 2) rfl) rfl dX6_readDigits_69 ?_
          refine lv_iconst (v := 1) hx hb dX6_readDigits_72 (by decide) ?_
          refine lv_iadd hx hb dX6_readDigits_73 ?_
          refine putO hC hH (3) rfl rfl in_X6_readDigits_X6 tyX6 tyX6_ok nmX6 1 (by decide) (index := 18) (List.mem_of_getElem? (i := 2) rfl) rfl rfl rfl (Nat.le_of_ble_eq_true rfl) cs_3_1 dX6_readDigits_74 (fun H locs hH => ?_)
          obtain ⟨S8, eS8⟩ : ∃ Z : St, Z = sI S7 3 1 ((gI S7 3 1) + (1 : Int32)) := ⟨_, rfl⟩
          rw [← eS8] at hH
          replace hf := bn eS8 hf
          refine lv_goto (tgt := 5) hx hb dX6_readDigits_77 (by decide) ?_
          exact hrec S8 _ _ _ hH (lv_sub hl [0] rfl) hf
  have kJ136 : ∀ (S : St) (t1 : Int32) (H : Heap) (locs : List Loc) (ls : Array Slot), HW G A (CW G S) s H locs → lv_has ls 2 [] → f_X6_readDigits_136 N S t1 = some q → W p l e ({ frames := 1, cells := 0, slots := 0, locals := 24 } : Room) s m [.ref (gC G 3)].toArray below meth c H locs 0 0 Qm (F0 m 136 ls [.int t1, .ref (gC G 3)]) := by
    intro S t1 H locs ls hH hl hf
    rw [f_X6_readDigits_136] at hf
    refine putO hC hH (3) rfl rfl in_X6_readDigits_X6 tyX6 tyX6_ok nmX6 3 (by decide) (index := 25) (List.mem_of_getElem? (i := 9) rfl) rfl rfl rfl (Nat.le_of_ble_eq_true rfl) cs_3_3 dX6_readDigits_136 (fun H locs hH => ?_)
    obtain ⟨S13, eS13⟩ : ∃ Z : St, Z = sI S 3 3 t1 := ⟨_, rfl⟩
    rw [← eS13] at hH
    replace hf := bn eS13 hf
    exact fin S13 _ _ _ _ (Option.some.inj hf) hH dX6_readDigits_139
  have kJ129 : ∀ (S : St) (H : Heap) (locs : List Loc) (ls : Array Slot), HW G A (CW G S) s H locs → lv_has ls 2 [] → f_X6_readDigits_129 N S = some q → W p l e ({ frames := 1, cells := 0, slots := 0, locals := 24 } : Room) s m [.ref (gC G 3)].toArray below meth c H locs 0 0 Qm (F0 m 129 ls [.ref (gC G 3)]) := by
    intro S H locs ls hH hl hf
    rw [f_X6_readDigits_129] at hf
    refine lv_bipush (v := 10) hx hb dX6_readDigits_129 (by decide) ?_
    refine lv_goto (tgt := 136) hx hb dX6_readDigits_131 (by decide) ?_
    exact kJ136  S (10 : Int32) _ _ _ hH (lv_sub hl [] rfl) hf
  have kJ114 : ∀ (S : St) (t0 : Int32) (H : Heap) (locs : List Loc) (ls : Array Slot), HW G A (CW G S) s H locs → lv_has ls 2 [(0, .ref (gC G 3))] → f_X6_readDigits_114 N S t0 = some q → W p l e ({ frames := 1, cells := 0, slots := 0, locals := 24 } : Room) s m [.ref (gC G 3)].toArray below meth c H locs 0 0 Qm (F0 m 114 ls [.int t0]) := by
    intro S t0 H locs ls hH hl hf
    rw [f_X6_readDigits_114] at hf
    refine lv_istore_n (lv' := [(1, .int t0), (0, .ref (gC G 3))]) hx hb dX6_readDigits_114 rfl hl (by decide) rfl (fun ls hl => ?_)
    refine lv_aload_n hx hb dX6_readDigits_115 rfl (lv_at hl 1 rfl) ?_
    refine lv_iload_n hx hb dX6_readDigits_116 rfl (lv_at hl 0 rfl) ?_
    refine lv_if_ne (tgt := 129) hx hb dX6_readDigits_117 (by decide) (fun c12 => ?_) (fun c12 => ?_)
    · replace hf := it_f c12 hf
      exact kJ129  S _ _ _ hH (lv_sub hl [] rfl) hf
    · replace hf := it_t c12 hf
      refine lv_aload_n hx hb dX6_readDigits_120 rfl (lv_at hl 1 rfl) ?_
      refine getO hC hH (3) rfl rfl in_X6_readDigits_X6 4 (by decide) (index := 28) (List.mem_of_getElem? (i := 1) rfl) rfl dX6_readDigits_121 ?_
      refine lv_bipush (v := 99) hx hb dX6_readDigits_124 (by decide) ?_
      refine lv_icmp_le (tgt := 134) hx hb dX6_readDigits_126 (by decide) (fun c14 => ?_) (fun c14 => ?_)
      · replace hf := it_t c14 hf
        refine lv_bipush (v := 8) hx hb dX6_readDigits_134 (by decide) ?_
        exact kJ136  S (8 : Int32) _ _ _ hH (lv_sub hl [] rfl) hf
      · replace hf := it_f c14 hf
        exact kJ129  S _ _ _ hH (lv_sub hl [] rfl) hf
  have kJ113 : ∀ (S : St) (H : Heap) (locs : List Loc) (ls : Array Slot), HW G A (CW G S) s H locs → lv_has ls 2 [(0, .ref (gC G 3))] → f_X6_readDigits_113 N S = some q → W p l e ({ frames := 1, cells := 0, slots := 0, locals := 24 } : Room) s m [.ref (gC G 3)].toArray below meth c H locs 0 0 Qm (F0 m 113 ls []) := by
    intro S H locs ls hH hl hf
    rw [f_X6_readDigits_113] at hf
    refine lv_iconst (v := 0) hx hb dX6_readDigits_113 (by decide) ?_
    exact kJ114  S (0 : Int32) _ _ _ hH (lv_sub hl [0] rfl) hf
  have kJ80 : ∀ (S : St) (H : Heap) (locs : List Loc) (ls : Array Slot), HW G A (CW G S) s H locs → lv_has ls 2 [(0, .ref (gC G 3))] → f_X6_readDigits_80 N S = some q → W p l e ({ frames := 1, cells := 0, slots := 0, locals := 24 } : Room) s m [.ref (gC G 3)].toArray below meth c H locs 0 0 Qm (F0 m 80 ls []) := by
    intro S H locs ls hH hl hf
    rw [f_X6_readDigits_80] at hf
    refine lv_aload_n hx hb dX6_readDigits_80 rfl (lv_at hl 0 rfl) ?_
    refine getO hC hH (3) rfl rfl in_X6_readDigits_X6 0 (by decide) (index := 12) (List.mem_of_getElem? (i := 3) rfl) rfl dX6_readDigits_81 ?_
    refine lv_aload_n hx hb dX6_readDigits_84 rfl (lv_at hl 0 rfl) ?_
    refine getO hC hH (3) rfl rfl in_X6_readDigits_X6 2 (by decide) (index := 22) (List.mem_of_getElem? (i := 8) rfl) rfl dX6_readDigits_85 ?_
    obtain ⟨r10, hr10, hf⟩ := ob hf
    refine callV_i [.int (gI S 3 2)] [] hC hH (c_X8_byteAt l G A S (gI S 3 2) _ hr10) (cwV 1 hts gX6_readDigits_X8_byteAt rfl rfl rfl (by decide +kernel) ⟨Nat.le_of_ble_eq_true rfl, Nat.le_of_ble_eq_true rfl⟩) (recvW hC hH (c0 := 1) (ci := 8) rfl rfl) rfl hl.1 rfl (Nat.le_of_ble_eq_true rfl) dX6_readDigits_88 (fun H locs hH => ?_)
    refine lv_bipush (v := 48) hx hb dX6_readDigits_91 (by decide) ?_
    refine lv_icmp_ne (tgt := 113) hx hb dX6_readDigits_93 (by decide) (fun c11 => ?_) (fun c11 => ?_)
    · replace hf := it_f c11 hf
      exact kJ113  S _ _ _ hH (lv_sub hl [0] rfl) hf
    · replace hf := it_t c11 hf
      refine lv_aload_n hx hb dX6_readDigits_96 rfl (lv_at hl 0 rfl) ?_
      refine getO hC hH (3) rfl rfl in_X6_readDigits_X6 1 (by decide) (index := 18) (List.mem_of_getElem? (i := 2) rfl) rfl dX6_readDigits_97 ?_
      refine lv_aload_n hx hb dX6_readDigits_100 rfl (lv_at hl 0 rfl) ?_
      refine getO hC hH (3) rfl rfl in_X6_readDigits_X6 2 (by decide) (index := 22) (List.mem_of_getElem? (i := 8) rfl) rfl dX6_readDigits_101 ?_
      refine lv_isub hx hb dX6_readDigits_104 ?_
      refine lv_iconst (v := 1) hx hb dX6_readDigits_105 (by decide) ?_
      refine lv_icmp_le (tgt := 113) hx hb dX6_readDigits_106 (by decide) (fun c15 => ?_) (fun c15 => ?_)
      · replace hf := it_t c15 hf
        exact kJ113  S _ _ _ hH (lv_sub hl [0] rfl) hf
      · replace hf := it_f c15 hf
        refine lv_iconst (v := 1) hx hb dX6_readDigits_109 (by decide) ?_
        refine lv_goto (tgt := 114) hx hb dX6_readDigits_110 (by decide) ?_
        exact kJ114  S (1 : Int32) _ _ _ hH (lv_sub hl [0] rfl) hf
  have hf := hf
  rw [f_X6_readDigits] at hf
  refine lv_aload_n hx hb dX6_readDigits_0 rfl (lv_at hl 0 rfl) ?_
  refine lv_iconst (v := 0) hx hb dX6_readDigits_1 (by decide) ?_
  refine putO hC hH (3) rfl rfl in_X6_readDigits_X6 tyX6 tyX6_ok nmX6 4 (by decide) (index := 28) (List.mem_of_getElem? (i := 1) rfl) rfl rfl rfl (Nat.le_of_ble_eq_true rfl) cs_3_4 dX6_readDigits_2 (fun H locs hH => ?_)
  obtain ⟨S1, eS1⟩ : ∃ Z : St, Z = sI S 3 4 (0 : Int32) := ⟨_, rfl⟩
  rw [← eS1] at hH
  replace hf := bn eS1 hf
  refine kL5 _ ?_ N S1 _ _ _ hH (lv_sub hl [0] rfl) hf
  intro S9 H locs ls hH hl hf
  exact kJ80  S9 _ _ _ hH (lv_sub hl [0] rfl) hf
theorem in_X6_readToken_X6 : ∀ w ∈ wsX60, w ∈ wsX6_readToken := fun w h => List.mem_cons_of_mem _ (List.mem_append_left _ (List.mem_append_right _ h))
theorem in_X6_readToken_X8 : ∀ w ∈ wsX80, w ∈ wsX6_readToken := fun w h => List.mem_cons_of_mem _ (List.mem_append_right _ h)
set_option maxRecDepth 100000 in
set_option maxHeartbeats 4000000 in
theorem c_X6_readToken (l : Launch) (G : Gt) (A : Nat → Prop) (N : Nat) (S : St)   (q : St) (hf : f_X6_readToken N S = some q) : Met l yX6_readToken wsX6_readToken ({ frames := 8, cells := 0, slots := 0, locals := 174 } : Room) (va_Pc [.ref (gC G 3)] (PK G A (CW G S))) (va_Qv (fun S2 => S2 = q) (fun S2 : St => PK G A (CW G S2)) A) 0 0 A := by
  refine mstart_v (Wd := CW G) (cc := cX6_readToken) (maxL := 2) (by decide) rfl (Nat.le_of_ble_eq_true rfl) (fun p e s m below meth c Qm ls hC hH hl fin => ?_)
  obtain ⟨hx, hb, hml, hown, hts⟩ := id hC.1
  have hl : lv_has ls 2 [(0, .ref (gC G 3))] := hl
  have kJ96 : ∀ (S : St) (t1 : Int32) (H : Heap) (locs : List Loc) (ls : Array Slot), HW G A (CW G S) s H locs → lv_has ls 2 [] → f_X6_readToken_96 N S t1 = some q → W p l e ({ frames := 8, cells := 0, slots := 0, locals := 174 } : Room) s m [.ref (gC G 3)].toArray below meth c H locs 0 0 Qm (F0 m 96 ls [.int t1, .ref (gC G 3)]) := by
    intro S t1 H locs ls hH hl hf
    rw [f_X6_readToken_96] at hf
    refine putO hC hH (3) rfl rfl in_X6_readToken_X6 tyX6 tyX6_ok nmX6 3 (by decide) (index := 25) (List.mem_of_getElem? (i := 4) rfl) rfl rfl rfl (Nat.le_of_ble_eq_true rfl) cs_3_3 dX6_readToken_96 (fun H locs hH => ?_)
    obtain ⟨S11, eS11⟩ : ∃ Z : St, Z = sI S 3 3 t1 := ⟨_, rfl⟩
    rw [← eS11] at hH
    replace hf := bn eS11 hf
    exact fin S11 _ _ _ _ (Option.some.inj hf) hH dX6_readToken_99
  have hf := hf
  rw [f_X6_readToken] at hf
  refine lv_aload_n hx hb dX6_readToken_0 rfl (lv_at hl 0 rfl) ?_
  obtain ⟨r1, hr1, hf⟩ := ob hf
  refine callV_v [] [] hC hH (c_X6_skipBlanks l G A N S _ hr1) (cwV 0 hts gX6_readToken_X6_skipBlanks rfl rfl rfl (by decide +kernel) ⟨Nat.le_of_ble_eq_true rfl, Nat.le_of_ble_eq_true rfl⟩) (recvW hC hH (c0 := 3) (ci := 6) rfl rfl) rfl hl.1 rfl (Nat.le_of_ble_eq_true rfl) dX6_readToken_1 (fun H locs hH => ?_)
  refine lv_aload_n hx hb dX6_readToken_4 rfl (lv_at hl 0 rfl) ?_
  refine lv_aload_n hx hb dX6_readToken_5 rfl (lv_at hl 0 rfl) ?_
  refine getO hC hH (3) rfl rfl in_X6_readToken_X6 1 (by decide) (index := 18) (List.mem_of_getElem? (i := 1) rfl) rfl dX6_readToken_6 ?_
  refine putO hC hH (3) rfl rfl in_X6_readToken_X6 tyX6 tyX6_ok nmX6 2 (by decide) (index := 22) (List.mem_of_getElem? (i := 2) rfl) rfl rfl rfl (Nat.le_of_ble_eq_true rfl) cs_3_2 dX6_readToken_9 (fun H locs hH => ?_)
  obtain ⟨S2, eS2⟩ : ∃ Z : St, Z = sI r1 3 2 (gI r1 3 1) := ⟨_, rfl⟩
  rw [← eS2] at hH
  replace hf := bn eS2 hf
  refine lv_aload_n hx hb dX6_readToken_12 rfl (lv_at hl 0 rfl) ?_
  refine getO hC hH (3) rfl rfl in_X6_readToken_X6 1 (by decide) (index := 18) (List.mem_of_getElem? (i := 1) rfl) rfl dX6_readToken_13 ?_
  refine lv_aload_n hx hb dX6_readToken_16 rfl (lv_at hl 0 rfl) ?_
  refine getO hC hH (3) rfl rfl in_X6_readToken_X6 0 (by decide) (index := 12) (List.mem_of_getElem? (i := 3) rfl) rfl dX6_readToken_17 ?_
  refine getN hC hH (1) rfl rfl in_X6_readToken_X8 1 (by decide) (index := 91) (List.mem_of_getElem? (i := 1) rfl) rfl dX6_readToken_20 ?_
  refine lv_icmp_lt (tgt := 32) hx hb dX6_readToken_23 (by decide) (fun c3 => ?_) (fun c3 => ?_)
  · replace hf := it_t c3 hf
    refine lv_aload_n hx hb dX6_readToken_32 rfl (lv_at hl 0 rfl) ?_
    refine getO hC hH (3) rfl rfl in_X6_readToken_X6 0 (by decide) (index := 12) (List.mem_of_getElem? (i := 3) rfl) rfl dX6_readToken_33 ?_
    refine lv_aload_n hx hb dX6_readToken_36 rfl (lv_at hl 0 rfl) ?_
    refine getO hC hH (3) rfl rfl in_X6_readToken_X6 1 (by decide) (index := 18) (List.mem_of_getElem? (i := 1) rfl) rfl dX6_readToken_37 ?_
    obtain ⟨r4, hr4, hf⟩ := ob hf
    refine callV_i [.int (gI S2 3 1)] [] hC hH (c_X8_byteAt l G A S2 (gI S2 3 1) _ hr4) (cwV 1 hts gX6_readToken_X8_byteAt rfl rfl rfl (by decide +kernel) ⟨Nat.le_of_ble_eq_true rfl, Nat.le_of_ble_eq_true rfl⟩) (recvW hC hH (c0 := 1) (ci := 8) rfl rfl) rfl hl.1 rfl (Nat.le_of_ble_eq_true rfl) dX6_readToken_40 (fun H locs hH => ?_)
    refine lv_istore_n (lv' := [(1, .int r4), (0, .ref (gC G 3))]) hx hb dX6_readToken_43 rfl hl (by decide) rfl (fun ls hl => ?_)
    refine lv_iload_n hx hb dX6_readToken_44 rfl (lv_at hl 0 rfl) ?_
    obtain ⟨r5, hr5, hf⟩ := ob hf
    refine callS_i [.int r4] [] hC hH (c_X6_isLetter l G A S2 r4 _ hr5) (va_cwS 1 hts gX6_readToken_X6_isLetter rfl rfl rfl (by decide +kernel) ⟨Nat.le_of_ble_eq_true rfl, Nat.le_of_ble_eq_true rfl⟩) rfl hl.1 rfl (Nat.le_of_ble_eq_true rfl) dX6_readToken_45 (fun H locs hH => ?_)
    refine lv_if_eq (tgt := 58) hx hb dX6_readToken_48 (by decide) (fun c6 => ?_) (fun c6 => ?_)
    · replace hf := it_t c6 hf
      refine lv_iload_n hx hb dX6_readToken_58 rfl (lv_at hl 0 rfl) ?_
      obtain ⟨r7, hr7, hf⟩ := ob hf
      refine callS_i [.int r4] [] hC hH (c_X6_isDigit l G A S2 r4 _ hr7) (va_cwS 1 hts gX6_readToken_X6_isDigit rfl rfl rfl (by decide +kernel) ⟨Nat.le_of_ble_eq_true rfl, Nat.le_of_ble_eq_true rfl⟩) rfl hl.1 rfl (Nat.le_of_ble_eq_true rfl) dX6_readToken_59 (fun H locs hH => ?_)
      refine lv_if_eq (tgt := 72) hx hb dX6_readToken_62 (by decide) (fun c8 => ?_) (fun c8 => ?_)
      · replace hf := it_t c8 hf
        refine lv_aload_n hx hb dX6_readToken_72 rfl (lv_at hl 1 rfl) ?_
        refine lv_dup hx hb dX6_readToken_73 rfl ?_
        refine getO hC hH (3) rfl rfl in_X6_readToken_X6 1 (by decide) (index := 18) (List.mem_of_getElem? (i := 1) rfl) rfl dX6_readToken_74 ?_
        refine lv_iconst (v := 1) hx hb dX6_readToken_77 (by decide) ?_
        refine lv_iadd hx hb dX6_readToken_78 ?_
        refine putO hC hH (3) rfl rfl in_X6_readToken_X6 tyX6 tyX6_ok nmX6 1 (by decide) (index := 18) (List.mem_of_getElem? (i := 1) rfl) rfl rfl rfl (Nat.le_of_ble_eq_true rfl) cs_3_1 dX6_readToken_79 (fun H locs hH => ?_)
        obtain ⟨S9, eS9⟩ : ∃ Z : St, Z = sI S2 3 1 ((gI S2 3 1) + (1 : Int32)) := ⟨_, rfl⟩
        rw [← eS9] at hH
        replace hf := bn eS9 hf
        refine lv_aload_n hx hb dX6_readToken_82 rfl (lv_at hl 1 rfl) ?_
        refine lv_iload_n hx hb dX6_readToken_83 rfl (lv_at hl 0 rfl) ?_
        refine lv_bipush (v := 59) hx hb dX6_readToken_84 (by decide) ?_
        refine lv_icmp_ne (tgt := 94) hx hb dX6_readToken_86 (by decide) (fun c10 => ?_) (fun c10 => ?_)
        · replace hf := it_f c10 hf
          refine lv_bipush (v := 10) hx hb dX6_readToken_94 (by decide) ?_
          exact kJ96  S9 (10 : Int32) _ _ _ hH (lv_sub hl [] rfl) hf
        · replace hf := it_t c10 hf
          refine lv_bipush (v := 9) hx hb dX6_readToken_89 (by decide) ?_
          refine lv_goto (tgt := 96) hx hb dX6_readToken_91 (by decide) ?_
          exact kJ96  S9 (9 : Int32) _ _ _ hH (lv_sub hl [] rfl) hf
      · replace hf := it_f c8 hf
        refine lv_aload_n hx hb dX6_readToken_65 rfl (lv_at hl 1 rfl) ?_
        obtain ⟨r12, hr12, hf⟩ := ob hf
        refine callV_v [] [] hC hH (c_X6_readDigits l G A N S2 _ hr12) (cwV 0 hts gX6_readToken_X6_readDigits rfl rfl rfl (by decide +kernel) ⟨Nat.le_of_ble_eq_true rfl, Nat.le_of_ble_eq_true rfl⟩) (recvW hC hH (c0 := 3) (ci := 6) rfl rfl) rfl hl.1 rfl (Nat.le_of_ble_eq_true rfl) dX6_readToken_66 (fun H locs hH => ?_)
        refine lv_goto (tgt := 99) hx hb dX6_readToken_69 (by decide) ?_
        exact fin r12 _ _ _ _ (Option.some.inj hf) hH dX6_readToken_99
    · replace hf := it_f c6 hf
      refine lv_aload_n hx hb dX6_readToken_51 rfl (lv_at hl 1 rfl) ?_
      obtain ⟨r13, hr13, hf⟩ := ob hf
      refine callV_v [] [] hC hH (c_X6_readWord l G A N S2 _ hr13) (cwV 0 hts gX6_readToken_X6_readWord rfl rfl rfl (by decide +kernel) ⟨Nat.le_of_ble_eq_true rfl, Nat.le_of_ble_eq_true rfl⟩) (recvW hC hH (c0 := 3) (ci := 6) rfl rfl) rfl hl.1 rfl (Nat.le_of_ble_eq_true rfl) dX6_readToken_52 (fun H locs hH => ?_)
      refine lv_goto (tgt := 99) hx hb dX6_readToken_55 (by decide) ?_
      exact fin r13 _ _ _ _ (Option.some.inj hf) hH dX6_readToken_99
  · replace hf := it_f c3 hf
    refine lv_aload_n hx hb dX6_readToken_26 rfl (lv_at hl 0 rfl) ?_
    refine lv_iconst (v := 0) hx hb dX6_readToken_27 (by decide) ?_
    refine putO hC hH (3) rfl rfl in_X6_readToken_X6 tyX6 tyX6_ok nmX6 3 (by decide) (index := 25) (List.mem_of_getElem? (i := 4) rfl) rfl rfl rfl (Nat.le_of_ble_eq_true rfl) cs_3_3 dX6_readToken_28 (fun H locs hH => ?_)
    obtain ⟨S14, eS14⟩ : ∃ Z : St, Z = sI S2 3 3 (0 : Int32) := ⟨_, rfl⟩
    rw [← eS14] at hH
    replace hf := bn eS14 hf
    exact fin S14 _ _ _ _ (Option.some.inj hf) hH dX6_readToken_31
theorem in_X6_mayBegin_X3 : ∀ w ∈ wsX30, w ∈ wsX6_mayBegin := fun w h => List.mem_cons_of_mem _ (List.mem_append_right _ h)
theorem in_X6_mayBegin_X6 : ∀ w ∈ wsX60, w ∈ wsX6_mayBegin := fun w h => List.mem_cons_of_mem _ (List.mem_append_left _ (List.mem_append_right _ h))
set_option maxRecDepth 100000 in
set_option maxHeartbeats 4000000 in
theorem c_X6_mayBegin (l : Launch) (G : Gt) (A : Nat → Prop) (S : St) (j1 : Nat) (hj1 : j1 < 2) (a2 : Int32) (q : Int32) (hf : f_X6_mayBegin S j1 a2 = some q) : Met l yX6_mayBegin wsX6_mayBegin ({ frames := 0, cells := 0, slots := 0, locals := 0 } : Room) (va_Pc [.ref (gC G 3), .ref (gC G (33 + 5 * j1)), .int a2] (PK G A (CW G S))) (va_Qi (fun (r2 : Int32) S2 => r2 = q ∧ S2 = S) (fun S2 : St => PK G A (CW G S2)) A) 0 0 A := by
  refine mstart_z (ty := .boolean) (Wd := CW G) (cc := cX6_mayBegin) (maxL := 3) (by decide) rfl (Nat.le_of_ble_eq_true rfl) (fun p e s m below meth c Qm ls hC hH hl fin => ?_)
  obtain ⟨hx, hb, hml, hown, hts⟩ := id hC.1
  have hl : lv_has ls 3 [(0, .ref (gC G 3)), (1, .ref (gC G (33 + 5 * j1))), (2, .int a2)] := hl
  have hf := hf
  rw [f_X6_mayBegin] at hf
  refine lv_aload_n hx hb dX6_mayBegin_0 rfl (lv_at hl 0 rfl) ?_
  refine getO hC hH (3) rfl rfl in_X6_mayBegin_X6 3 (by decide) (index := 25) (List.mem_of_getElem? (i := 1) rfl) rfl dX6_mayBegin_1 ?_
  by_cases c1 : (gI S 3 3) = (1 : Int32)
  · replace hf := it_t c1 hf
    refine lv_tableIn (tgt := 48) hx hb dX6_mayBegin_4 (by rw [c1]; decide) (by rw [c1]; decide) (by rw [c1]; rfl) (by decide) ?_
    refine lv_iload_n hx hb dX6_mayBegin_48 rfl (lv_at hl 2 rfl) ?_
    refine lv_if_ne (tgt := 56) hx hb dX6_mayBegin_49 (by decide) (fun c2 => ?_) (fun c2 => ?_)
    · replace hf := it_f c2 hf
      refine lv_iconst (v := 0) hx hb dX6_mayBegin_56 (by decide) ?_
      exact fin (0 : Int32) S _ _ _ _ rfl (Option.some.inj hf) rfl hH dX6_mayBegin_57
    · replace hf := it_t c2 hf
      refine lv_iconst (v := 1) hx hb dX6_mayBegin_52 (by decide) ?_
      refine lv_goto (tgt := 57) hx hb dX6_mayBegin_53 (by decide) ?_
      exact fin (1 : Int32) S _ _ _ _ rfl (Option.some.inj hf) rfl hH dX6_mayBegin_57
  replace hf := it_f c1 hf
  by_cases c3 : (gI S 3 3) = (2 : Int32)
  · replace hf := it_t c3 hf
    refine lv_tableIn (tgt := 58) hx hb dX6_mayBegin_4 (by rw [c3]; decide) (by rw [c3]; decide) (by rw [c3]; rfl) (by decide) ?_
    refine lv_iconst (v := 1) hx hb dX6_mayBegin_58 (by decide) ?_
    exact fin (1 : Int32) S _ _ _ _ rfl (Option.some.inj hf) rfl hH dX6_mayBegin_59
  replace hf := it_f c3 hf
  by_cases c4 : (gI S 3 3) = (3 : Int32)
  · replace hf := it_t c4 hf
    refine lv_tableIn (tgt := 58) hx hb dX6_mayBegin_4 (by rw [c4]; decide) (by rw [c4]; decide) (by rw [c4]; rfl) (by decide) ?_
    refine lv_iconst (v := 1) hx hb dX6_mayBegin_58 (by decide) ?_
    exact fin (1 : Int32) S _ _ _ _ rfl (Option.some.inj hf) rfl hH dX6_mayBegin_59
  replace hf := it_f c4 hf
  by_cases c5 : (gI S 3 3) = (4 : Int32)
  · replace hf := it_t c5 hf
    refine lv_tableIn (tgt := 60) hx hb dX6_mayBegin_4 (by rw [c5]; decide) (by rw [c5]; decide) (by rw [c5]; rfl) (by decide) ?_
    refine lv_aload_n hx hb dX6_mayBegin_60 rfl (lv_at hl 1 rfl) ?_
    refine getN hC hH (33 + 5 * j1) (cw_lane (i := j1) hj1) rfl in_X6_mayBegin_X3 5 (by decide) (index := 62) (List.mem_of_getElem? (i := 14) rfl) rfl dX6_mayBegin_61 ?_
    refine lv_iconst (v := 3) hx hb dX6_mayBegin_64 (by decide) ?_
    refine lv_icmp_ge (tgt := 72) hx hb dX6_mayBegin_65 (by decide) (fun c6 => ?_) (fun c6 => ?_)
    · replace hf := it_t c6 hf
      refine lv_iconst (v := 0) hx hb dX6_mayBegin_72 (by decide) ?_
      exact fin (0 : Int32) S _ _ _ _ rfl (Option.some.inj hf) rfl hH dX6_mayBegin_73
    · replace hf := it_f c6 hf
      refine lv_iconst (v := 1) hx hb dX6_mayBegin_68 (by decide) ?_
      refine lv_goto (tgt := 73) hx hb dX6_mayBegin_69 (by decide) ?_
      exact fin (1 : Int32) S _ _ _ _ rfl (Option.some.inj hf) rfl hH dX6_mayBegin_73
  replace hf := it_f c5 hf
  by_cases c7 : (gI S 3 3) = (5 : Int32)
  · replace hf := it_t c7 hf
    refine lv_tableIn (tgt := 74) hx hb dX6_mayBegin_4 (by rw [c7]; decide) (by rw [c7]; decide) (by rw [c7]; rfl) (by decide) ?_
    refine lv_aload_n hx hb dX6_mayBegin_74 rfl (lv_at hl 0 rfl) ?_
    refine getO hC hH (3) rfl rfl in_X6_mayBegin_X6 5 (by decide) (index := 31) (List.mem_of_getElem? (i := 2) rfl) rfl dX6_mayBegin_75 ?_
    refine lv_iconst (v := 1) hx hb dX6_mayBegin_78 (by decide) ?_
    refine lv_aload_n hx hb dX6_mayBegin_79 rfl (lv_at hl 0 rfl) ?_
    refine getO hC hH (3) rfl rfl in_X6_mayBegin_X6 3 (by decide) (index := 25) (List.mem_of_getElem? (i := 1) rfl) rfl dX6_mayBegin_80 ?_
    refine lv_ishl hx hb dX6_mayBegin_83 ?_
    refine lv_iand hx hb dX6_mayBegin_84 ?_
    refine lv_if_ne (tgt := 92) hx hb dX6_mayBegin_85 (by decide) (fun c8 => ?_) (fun c8 => ?_)
    · replace hf := it_f c8 hf
      refine lv_iconst (v := 0) hx hb dX6_mayBegin_92 (by decide) ?_
      exact fin (0 : Int32) S _ _ _ _ rfl (Option.some.inj hf) rfl hH dX6_mayBegin_93
    · replace hf := it_t c8 hf
      refine lv_iconst (v := 1) hx hb dX6_mayBegin_88 (by decide) ?_
      refine lv_goto (tgt := 93) hx hb dX6_mayBegin_89 (by decide) ?_
      exact fin (1 : Int32) S _ _ _ _ rfl (Option.some.inj hf) rfl hH dX6_mayBegin_93
  replace hf := it_f c7 hf
  by_cases c9 : (gI S 3 3) = (6 : Int32)
  · replace hf := it_t c9 hf
    refine lv_tableIn (tgt := 74) hx hb dX6_mayBegin_4 (by rw [c9]; decide) (by rw [c9]; decide) (by rw [c9]; rfl) (by decide) ?_
    refine lv_aload_n hx hb dX6_mayBegin_74 rfl (lv_at hl 0 rfl) ?_
    refine getO hC hH (3) rfl rfl in_X6_mayBegin_X6 5 (by decide) (index := 31) (List.mem_of_getElem? (i := 2) rfl) rfl dX6_mayBegin_75 ?_
    refine lv_iconst (v := 1) hx hb dX6_mayBegin_78 (by decide) ?_
    refine lv_aload_n hx hb dX6_mayBegin_79 rfl (lv_at hl 0 rfl) ?_
    refine getO hC hH (3) rfl rfl in_X6_mayBegin_X6 3 (by decide) (index := 25) (List.mem_of_getElem? (i := 1) rfl) rfl dX6_mayBegin_80 ?_
    refine lv_ishl hx hb dX6_mayBegin_83 ?_
    refine lv_iand hx hb dX6_mayBegin_84 ?_
    refine lv_if_ne (tgt := 92) hx hb dX6_mayBegin_85 (by decide) (fun c10 => ?_) (fun c10 => ?_)
    · replace hf := it_f c10 hf
      refine lv_iconst (v := 0) hx hb dX6_mayBegin_92 (by decide) ?_
      exact fin (0 : Int32) S _ _ _ _ rfl (Option.some.inj hf) rfl hH dX6_mayBegin_93
    · replace hf := it_t c10 hf
      refine lv_iconst (v := 1) hx hb dX6_mayBegin_88 (by decide) ?_
      refine lv_goto (tgt := 93) hx hb dX6_mayBegin_89 (by decide) ?_
      exact fin (1 : Int32) S _ _ _ _ rfl (Option.some.inj hf) rfl hH dX6_mayBegin_93
  replace hf := it_f c9 hf
  by_cases c11 : (gI S 3 3) = (7 : Int32)
  · replace hf := it_t c11 hf
    refine lv_tableIn (tgt := 74) hx hb dX6_mayBegin_4 (by rw [c11]; decide) (by rw [c11]; decide) (by rw [c11]; rfl) (by decide) ?_
    refine lv_aload_n hx hb dX6_mayBegin_74 rfl (lv_at hl 0 rfl) ?_
    refine getO hC hH (3) rfl rfl in_X6_mayBegin_X6 5 (by decide) (index := 31) (List.mem_of_getElem? (i := 2) rfl) rfl dX6_mayBegin_75 ?_
    refine lv_iconst (v := 1) hx hb dX6_mayBegin_78 (by decide) ?_
    refine lv_aload_n hx hb dX6_mayBegin_79 rfl (lv_at hl 0 rfl) ?_
    refine getO hC hH (3) rfl rfl in_X6_mayBegin_X6 3 (by decide) (index := 25) (List.mem_of_getElem? (i := 1) rfl) rfl dX6_mayBegin_80 ?_
    refine lv_ishl hx hb dX6_mayBegin_83 ?_
    refine lv_iand hx hb dX6_mayBegin_84 ?_
    refine lv_if_ne (tgt := 92) hx hb dX6_mayBegin_85 (by decide) (fun c12 => ?_) (fun c12 => ?_)
    · replace hf := it_f c12 hf
      refine lv_iconst (v := 0) hx hb dX6_mayBegin_92 (by decide) ?_
      exact fin (0 : Int32) S _ _ _ _ rfl (Option.some.inj hf) rfl hH dX6_mayBegin_93
    · replace hf := it_t c12 hf
      refine lv_iconst (v := 1) hx hb dX6_mayBegin_88 (by decide) ?_
      refine lv_goto (tgt := 93) hx hb dX6_mayBegin_89 (by decide) ?_
      exact fin (1 : Int32) S _ _ _ _ rfl (Option.some.inj hf) rfl hH dX6_mayBegin_93
  replace hf := it_f c11 hf
  refine lv_tableOut (tgt := 94) hx hb dX6_mayBegin_4 (by have z0 := lv_neT (a := 1) c1 (by decide); have z1 := lv_neT (a := 2) c3 (by decide); have z2 := lv_neT (a := 3) c4 (by decide); have z3 := lv_neT (a := 4) c5 (by decide); have z4 := lv_neT (a := 5) c7 (by decide); have z5 := lv_neT (a := 6) c9 (by decide); have z6 := lv_neT (a := 7) c11 (by decide); omega) (by decide) ?_
  refine lv_iconst (v := 0) hx hb dX6_mayBegin_94 (by decide) ?_
  exact fin (0 : Int32) S _ _ _ _ rfl (Option.some.inj hf) rfl hH dX6_mayBegin_95
set_option maxRecDepth 100000 in
set_option maxHeartbeats 4000000 in
theorem c_X6_leastFirst (l : Launch) (G : Gt) (A : Nat → Prop) (S : St)  (a0 : Int32) (q : Int32) (hf : f_X6_leastFirst a0 = some q) : Met l yX6_leastFirst wsX6_leastFirst ({ frames := 0, cells := 0, slots := 0, locals := 0 } : Room) (va_Pc [.int a0] (PK G A (CW G S))) (va_Qi (fun (r2 : Int32) S2 => r2 = q ∧ S2 = S) (fun S2 : St => PK G A (CW G S2)) A) 0 0 A := by
  refine mstart_i (Wd := CW G) (cc := cX6_leastFirst) (maxL := 1) (by decide) rfl (Nat.le_of_ble_eq_true rfl) (fun p e s m below meth c Qm ls hC hH hl fin => ?_)
  obtain ⟨hx, hb, hml, hown, hts⟩ := id hC.1
  have hl : lv_has ls 1 [(0, .int a0)] := hl
  have hf := hf
  rw [f_X6_leastFirst] at hf
  refine lv_iload_n hx hb dX6_leastFirst_0 rfl (lv_at hl 0 rfl) ?_
  by_cases c1 : a0 = (1 : Int32)
  · replace hf := it_t c1 hf
    refine lv_tableIn (tgt := 28) hx hb dX6_leastFirst_1 (by rw [c1]; decide) (by rw [c1]; decide) (by rw [c1]; rfl) (by decide) ?_
    refine lv_iconst (v := 4) hx hb dX6_leastFirst_28 (by decide) ?_
    exact fin (4 : Int32) S _ _ _ _ (Option.some.inj hf) rfl hH dX6_leastFirst_29
  replace hf := it_f c1 hf
  by_cases c2 : a0 = (2 : Int32)
  · replace hf := it_t c2 hf
    refine lv_tableIn (tgt := 30) hx hb dX6_leastFirst_1 (by rw [c2]; decide) (by rw [c2]; decide) (by rw [c2]; rfl) (by decide) ?_
    refine lv_iconst (v := 0) hx hb dX6_leastFirst_30 (by decide) ?_
    exact fin (0 : Int32) S _ _ _ _ (Option.some.inj hf) rfl hH dX6_leastFirst_31
  replace hf := it_f c2 hf
  by_cases c3 : a0 = (3 : Int32)
  · replace hf := it_t c3 hf
    refine lv_tableIn (tgt := 30) hx hb dX6_leastFirst_1 (by rw [c3]; decide) (by rw [c3]; decide) (by rw [c3]; rfl) (by decide) ?_
    refine lv_iconst (v := 0) hx hb dX6_leastFirst_30 (by decide) ?_
    exact fin (0 : Int32) S _ _ _ _ (Option.some.inj hf) rfl hH dX6_leastFirst_31
  replace hf := it_f c3 hf
  refine lv_tableOut (tgt := 32) hx hb dX6_leastFirst_1 (by have z0 := lv_neT (a := 1) c1 (by decide); have z1 := lv_neT (a := 2) c2 (by decide); have z2 := lv_neT (a := 3) c3 (by decide); omega) (by decide) ?_
  refine lv_iconst (v := 1) hx hb dX6_leastFirst_32 (by decide) ?_
  exact fin (1 : Int32) S _ _ _ _ (Option.some.inj hf) rfl hH dX6_leastFirst_33
theorem in_X6_mostFirst_X3 : ∀ w ∈ wsX30, w ∈ wsX6_mostFirst := fun w h => List.mem_cons_of_mem _ (List.mem_append_right _ h)
set_option maxRecDepth 100000 in
set_option maxHeartbeats 4000000 in
theorem c_X6_mostFirst (l : Launch) (G : Gt) (A : Nat → Prop) (S : St) (j1 : Nat) (hj1 : j1 < 2) (a0 : Int32) (q : Int32) (hf : f_X6_mostFirst S j1 a0 = some q) : Met l yX6_mostFirst wsX6_mostFirst ({ frames := 0, cells := 0, slots := 0, locals := 0 } : Room) (va_Pc [.int a0, .ref (gC G (33 + 5 * j1))] (PK G A (CW G S))) (va_Qi (fun (r2 : Int32) S2 => r2 = q ∧ S2 = S) (fun S2 : St => PK G A (CW G S2)) A) 0 0 A := by
  refine mstart_i (Wd := CW G) (cc := cX6_mostFirst) (maxL := 2) (by decide) rfl (Nat.le_of_ble_eq_true rfl) (fun p e s m below meth c Qm ls hC hH hl fin => ?_)
  obtain ⟨hx, hb, hml, hown, hts⟩ := id hC.1
  have hl : lv_has ls 2 [(0, .int a0), (1, .ref (gC G (33 + 5 * j1)))] := hl
  have hf := hf
  rw [f_X6_mostFirst] at hf
  refine lv_iload_n hx hb dX6_mostFirst_0 rfl (lv_at hl 0 rfl) ?_
  by_cases c1 : a0 = (1 : Int32)
  · replace hf := it_t c1 hf
    refine lv_tableIn (tgt := 40) hx hb dX6_mostFirst_1 (by rw [c1]; decide) (by rw [c1]; decide) (by rw [c1]; rfl) (by decide) ?_
    refine lv_bipush (v := 24) hx hb dX6_mostFirst_40 (by decide) ?_
    exact fin (24 : Int32) S _ _ _ _ (Option.some.inj hf) rfl hH dX6_mostFirst_42
  replace hf := it_f c1 hf
  by_cases c2 : a0 = (2 : Int32)
  · replace hf := it_t c2 hf
    refine lv_tableIn (tgt := 43) hx hb dX6_mostFirst_1 (by rw [c2]; decide) (by rw [c2]; decide) (by rw [c2]; rfl) (by decide) ?_
    refine lv_aload_n hx hb dX6_mostFirst_43 rfl (lv_at hl 1 rfl) ?_
    refine getN hC hH (33 + 5 * j1) (cw_lane (i := j1) hj1) rfl in_X6_mostFirst_X3 4 (by decide) (index := 65) (List.mem_of_getElem? (i := 13) rfl) rfl dX6_mostFirst_44 ?_
    refine lv_iconst (v := 1) hx hb dX6_mostFirst_47 (by decide) ?_
    refine lv_isub hx hb dX6_mostFirst_48 ?_
    exact fin ((gI S (33 + 5 * j1) 4) - (1 : Int32)) S _ _ _ _ (Option.some.inj hf) rfl hH dX6_mostFirst_49
  replace hf := it_f c2 hf
  by_cases c3 : a0 = (3 : Int32)
  · replace hf := it_t c3 hf
    refine lv_tableIn (tgt := 43) hx hb dX6_mostFirst_1 (by rw [c3]; decide) (by rw [c3]; decide) (by rw [c3]; rfl) (by decide) ?_
    refine lv_aload_n hx hb dX6_mostFirst_43 rfl (lv_at hl 1 rfl) ?_
    refine getN hC hH (33 + 5 * j1) (cw_lane (i := j1) hj1) rfl in_X6_mostFirst_X3 4 (by decide) (index := 65) (List.mem_of_getElem? (i := 13) rfl) rfl dX6_mostFirst_44 ?_
    refine lv_iconst (v := 1) hx hb dX6_mostFirst_47 (by decide) ?_
    refine lv_isub hx hb dX6_mostFirst_48 ?_
    exact fin ((gI S (33 + 5 * j1) 4) - (1 : Int32)) S _ _ _ _ (Option.some.inj hf) rfl hH dX6_mostFirst_49
  replace hf := it_f c3 hf
  by_cases c4 : a0 = (4 : Int32)
  · replace hf := it_t c4 hf
    refine lv_tableIn (tgt := 50) hx hb dX6_mostFirst_1 (by rw [c4]; decide) (by rw [c4]; decide) (by rw [c4]; rfl) (by decide) ?_
    refine lv_iconst (v := 4) hx hb dX6_mostFirst_50 (by decide) ?_
    exact fin (4 : Int32) S _ _ _ _ (Option.some.inj hf) rfl hH dX6_mostFirst_51
  replace hf := it_f c4 hf
  by_cases c5 : a0 = (5 : Int32)
  · replace hf := it_t c5 hf
    refine lv_tableIn (tgt := 52) hx hb dX6_mostFirst_1 (by rw [c5]; decide) (by rw [c5]; decide) (by rw [c5]; rfl) (by decide) ?_
    refine lv_iconst (v := 3) hx hb dX6_mostFirst_52 (by decide) ?_
    exact fin (3 : Int32) S _ _ _ _ (Option.some.inj hf) rfl hH dX6_mostFirst_53
  replace hf := it_f c5 hf
  by_cases c6 : a0 = (6 : Int32)
  · replace hf := it_t c6 hf
    refine lv_tableIn (tgt := 54) hx hb dX6_mostFirst_1 (by rw [c6]; decide) (by rw [c6]; decide) (by rw [c6]; rfl) (by decide) ?_
    refine lv_iconst (v := 4) hx hb dX6_mostFirst_54 (by decide) ?_
    exact fin (4 : Int32) S _ _ _ _ (Option.some.inj hf) rfl hH dX6_mostFirst_55
  replace hf := it_f c6 hf
  refine lv_tableOut (tgt := 56) hx hb dX6_mostFirst_1 (by have z0 := lv_neT (a := 1) c1 (by decide); have z1 := lv_neT (a := 2) c2 (by decide); have z2 := lv_neT (a := 3) c3 (by decide); have z3 := lv_neT (a := 4) c4 (by decide); have z4 := lv_neT (a := 5) c5 (by decide); have z5 := lv_neT (a := 6) c6 (by decide); omega) (by decide) ?_
  refine lv_bipush (v := 9) hx hb dX6_mostFirst_56 (by decide) ?_
  exact fin (9 : Int32) S _ _ _ _ (Option.some.inj hf) rfl hH dX6_mostFirst_58
theorem in_X6_readNumber_X6 : ∀ w ∈ wsX60, w ∈ wsX6_readNumber := fun w h => List.mem_cons_of_mem _ (List.mem_append_left _ (List.mem_append_right _ h))
theorem in_X6_readNumber_X8 : ∀ w ∈ wsX80, w ∈ wsX6_readNumber := fun w h => List.mem_cons_of_mem _ (List.mem_append_right _ h)
set_option maxRecDepth 100000 in
set_option maxHeartbeats 4000000 in
theorem c_X6_readNumber (l : Launch) (G : Gt) (A : Nat → Prop) (N : Nat) (S : St)  (a1 : Int32) (a2 : Int32) (q : Int32 × St) (hf : f_X6_readNumber N S a1 a2 = some q) : Met l yX6_readNumber wsX6_readNumber ({ frames := 9, cells := 0, slots := 0, locals := 195 } : Room) (va_Pc [.ref (gC G 3), .int a1, .int a2] (PK G A (CW G S))) (va_Qi (fun (r2 : Int32) S2 => r2 = q.1 ∧ S2 = q.2) (fun S2 : St => PK G A (CW G S2)) A) 0 0 A := by
  refine mstart_z (ty := .boolean) (Wd := CW G) (cc := cX6_readNumber) (maxL := 3) (by decide) rfl (Nat.le_of_ble_eq_true rfl) (fun p e s m below meth c Qm ls hC hH hl fin => ?_)
  obtain ⟨hx, hb, hml, hown, hts⟩ := id hC.1
  have hl : lv_has ls 3 [(0, .ref (gC G 3)), (1, .int a1), (2, .int a2)] := hl
  have hf := hf
  rw [f_X6_readNumber] at hf
  refine lv_aload_n hx hb dX6_readNumber_0 rfl (lv_at hl 0 rfl) ?_
  obtain ⟨r1, hr1, hf⟩ := ob hf
  refine callV_v [] [] hC hH (c_X6_readToken l G A N S _ hr1) (cwV 0 hts gX6_readNumber_X6_readToken rfl rfl rfl (by decide +kernel) ⟨Nat.le_of_ble_eq_true rfl, Nat.le_of_ble_eq_true rfl⟩) (recvW hC hH (c0 := 3) (ci := 6) rfl rfl) rfl hl.1 rfl (Nat.le_of_ble_eq_true rfl) dX6_readNumber_1 (fun H locs hH => ?_)
  refine lv_aload_n hx hb dX6_readNumber_4 rfl (lv_at hl 0 rfl) ?_
  refine getO hC hH (3) rfl rfl in_X6_readNumber_X6 3 (by decide) (index := 25) (List.mem_of_getElem? (i := 1) rfl) rfl dX6_readNumber_5 ?_
  refine lv_bipush (v := 8) hx hb dX6_readNumber_8 (by decide) ?_
  refine lv_icmp_ne (tgt := 33) hx hb dX6_readNumber_10 (by decide) (fun c2 => ?_) (fun c2 => ?_)
  · replace hf := it_f c2 hf
    refine lv_iconst (v := 0) hx hb dX6_readNumber_33 (by decide) ?_
    exact fin (0 : Int32) r1 _ _ _ _ rfl (congrArg Prod.fst (Option.some.inj hf)) (congrArg Prod.snd (Option.some.inj hf)) hH dX6_readNumber_34
  · replace hf := it_t c2 hf
    refine lv_aload_n hx hb dX6_readNumber_13 rfl (lv_at hl 0 rfl) ?_
    refine getO hC hH (3) rfl rfl in_X6_readNumber_X6 4 (by decide) (index := 28) (List.mem_of_getElem? (i := 2) rfl) rfl dX6_readNumber_14 ?_
    refine lv_iload_n hx hb dX6_readNumber_17 rfl (lv_at hl 1 rfl) ?_
    refine lv_icmp_lt (tgt := 33) hx hb dX6_readNumber_18 (by decide) (fun c3 => ?_) (fun c3 => ?_)
    · replace hf := it_t c3 hf
      refine lv_iconst (v := 0) hx hb dX6_readNumber_33 (by decide) ?_
      exact fin (0 : Int32) r1 _ _ _ _ rfl (congrArg Prod.fst (Option.some.inj hf)) (congrArg Prod.snd (Option.some.inj hf)) hH dX6_readNumber_34
    · replace hf := it_f c3 hf
      refine lv_aload_n hx hb dX6_readNumber_21 rfl (lv_at hl 0 rfl) ?_
      refine getO hC hH (3) rfl rfl in_X6_readNumber_X6 4 (by decide) (index := 28) (List.mem_of_getElem? (i := 2) rfl) rfl dX6_readNumber_22 ?_
      refine lv_iload_n hx hb dX6_readNumber_25 rfl (lv_at hl 2 rfl) ?_
      refine lv_icmp_gt (tgt := 33) hx hb dX6_readNumber_26 (by decide) (fun c4 => ?_) (fun c4 => ?_)
      · replace hf := it_t c4 hf
        refine lv_iconst (v := 0) hx hb dX6_readNumber_33 (by decide) ?_
        exact fin (0 : Int32) r1 _ _ _ _ rfl (congrArg Prod.fst (Option.some.inj hf)) (congrArg Prod.snd (Option.some.inj hf)) hH dX6_readNumber_34
      · replace hf := it_f c4 hf
        refine lv_iconst (v := 1) hx hb dX6_readNumber_29 (by decide) ?_
        refine lv_goto (tgt := 34) hx hb dX6_readNumber_30 (by decide) ?_
        exact fin (1 : Int32) r1 _ _ _ _ rfl (congrArg Prod.fst (Option.some.inj hf)) (congrArg Prod.snd (Option.some.inj hf)) hH dX6_readNumber_34
