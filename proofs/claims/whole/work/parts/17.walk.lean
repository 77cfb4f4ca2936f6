/-! walks: X9_towns X9_rateToss X9_rateStanding X9_rateRunning X9_rateFolded X9_rateDropped X9_rateLow X9_rate X9_imageOf J6_bitCount_0f7a4 X9_keep X9_back X9_count X9_trace X10_in X10_type X10_clear -/
set_option maxRecDepth 100000 in
set_option maxHeartbeats 4000000 in
theorem c_X9_towns (l : Launch) (G : Gt) (A : Nat → Prop) (N : Nat) (S : St)  (a1 : Int32) (a2 : Int32) (a3 : Int32) (a4 : Int32) (a5 : Int32) (q : Int32) (hf : f_X9_towns N a1 a2 a3 a4 a5 = some q) : Met l yX9_towns wsX9_towns ({ frames := 1, cells := 0, slots := 0, locals := 31 } : Room) (va_Pc [.ref (gC G 0), .int a1, .int a2, .int a3, .int a4, .int a5] (PK G A (CW G S))) (va_Qi (fun (r2 : Int32) S2 => r2 = q ∧ S2 = S) (fun S2 : St => PK G A (CW G S2)) A) 0 0 A := by
  refine mstart_i (Wd := CW G) (cc := cX9_towns) (maxL := 9) (by decide) rfl (Nat.le_of_ble_eq_true rfl) (fun p e s m below meth c Qm ls hC hH hl fin => ?_)
  obtain ⟨hx, hb, hml, hown, hts⟩ := id hC.1
  have hl : lv_has ls 9 [(0, .ref (gC G 0)), (1, .int a1), (2, .int a2), (3, .int a3), (4, .int a4), (5, .int a5)] := hl
  have kL43 : ∀ (k78 : Int32 → Int32 → Option Int32) (hk78 : ∀ (x6 : Int32) (x7 : Int32) (H : Heap) (locs : List Loc) (ls : Array Slot), HW G A (CW G S) s H locs → lv_has ls 9 [(2, .int a2), (5, .int a5), (6, .int x6), (7, .int x7)] → k78 x6 x7 = some q → W p l e ({ frames := 1, cells := 0, slots := 0, locals := 31 } : Room) s m [.ref (gC G 0), .int a1, .int a2, .int a3, .int a4, .int a5].toArray below meth c H locs 0 0 Qm (F0 m 78 ls [])) , ∀ (n : Nat), ∀ (x6 : Int32) (x7 : Int32) (x8 : Int32) (H : Heap) (locs : List Loc) (ls : Array Slot), HW G A (CW G S) s H locs → lv_has ls 9 [(1, .int a1), (2, .int a2), (3, .int a3), (4, .int a4), (5, .int a5), (6, .int x6), (7, .int x7), (8, .int x8)] → g_X9_towns_43 N a1 a2 a3 a4 a5 k78 n x6 x7 x8 = some q → W p l e ({ frames := 1, cells := 0, slots := 0, locals := 31 } : Room) s m [.ref (gC G 0), .int a1, .int a2, .int a3, .int a4, .int a5].toArray below meth c H locs 0 0 Qm (F0 m 43 ls []) := by
    intro k78 hk78 n
    induction n with
    | zero => intro x6 x7 x8 H locs ls hH hl hf; exact absurd hf.symm (Option.some_ne_none q)
    | succ n ih =>
      intro x6 x7 x8 H locs ls hH hl hf
      have hrec := ih
      have hf : s_X9_towns_43 N a1 a2 a3 a4 a5 k78 (g_X9_towns_43 N a1 a2 a3 a4 a5 k78 n) x6 x7 x8 = some q := hf
      rw [s_X9_towns_43] at hf
      refine lv_iload hx hb dX9_towns_43 (lv_at hl 7 rfl) ?_
      refine lv_iload_n hx hb dX9_towns_45 rfl (lv_at hl 0 rfl) ?_
      refine lv_iload_n hx hb dX9_towns_46 rfl (lv_at hl 1 rfl) ?_
      refine lv_iadd hx hb dX9_towns_47 ?_
      refine lv_icmp_gt (tgt := 78) hx hb dX9_towns_48 (by decide) (fun c9 => ?_) (fun c9 => ?_)
      · replace hf := it_t c9 hf
        exact hk78 x6 x7 _ _ _ hH (lv_sub hl [1, 4, 5, 6] rfl) hf
      · replace hf := it_f c9 hf
        refine lv_iload hx hb dX9_towns_51 (lv_at hl 6 rfl) ?_
        refine lv_iconst (v := 0) hx hb dX9_towns_53 (by decide) ?_
        refine lv_iload hx hb dX9_towns_54 (lv_at hl 5 rfl) ?_
        refine lv_iload_n hx hb dX9_towns_56 rfl (lv_at hl 2 rfl) ?_
        refine lv_iload hx hb dX9_towns_57 (lv_at hl 3 rfl) ?_
        refine lv_iadd hx hb dX9_towns_59 ?_
        refine lv_iload hx hb dX9_towns_60 (lv_at hl 7 rfl) ?_
        refine lv_isub hx hb dX9_towns_62 ?_
        refine va_mmin hx hb (by rw [hml]; exact hl.1.symm) hown (hts _ (List.mem_of_getElem? (i := 1) rfl)) (hts _ (List.mem_of_getElem? (i := 2) rfl)) (hts _ (List.mem_of_getElem? (i := 3) rfl)) (hts _ (List.mem_of_getElem? (i := 4) rfl)) (Nat.le_of_ble_eq_true rfl) (Nat.le_of_ble_eq_true rfl) (Nat.zero_le _) (Nat.zero_le _) dX9_towns_63 ?_
        refine va_mmax hx hb (by rw [hml]; exact hl.1.symm) hown (hts _ (List.mem_of_getElem? (i := 5) rfl)) (hts _ (List.mem_of_getElem? (i := 6) rfl)) (hts _ (List.mem_of_getElem? (i := 3) rfl)) (hts _ (List.mem_of_getElem? (i := 7) rfl)) (Nat.le_of_ble_eq_true rfl) (Nat.le_of_ble_eq_true rfl) (Nat.zero_le _) (Nat.zero_le _) dX9_towns_66 ?_
        refine lv_iadd hx hb dX9_towns_69 ?_
        refine lv_topi (fun b10 eb10 => ?_)
        replace hf := bn eb10 hf
        refine lv_istore (lv' := [(7, .int b10), (1, .int a1), (2, .int a2), (3, .int a3), (4, .int a4), (5, .int a5), (6, .int x6), (8, .int x8)]) hx hb dX9_towns_70 hl (by decide) rfl (fun ls hl => ?_)
        refine lv_iinc (v := x8 + (1 : Int32)) (lv' := [(8, .int (x8 + (1 : Int32))), (7, .int b10), (1, .int a1), (2, .int a2), (3, .int a3), (4, .int a4), (5, .int a5), (6, .int x6)]) hx hb dX9_towns_72 hl (k := 7) rfl rfl (by decide) rfl (fun ls hl => ?_)
        refine lv_goto (tgt := 43) hx hb dX9_towns_75 (by decide) ?_
        exact hrec x6 b10 (x8 + (1 : Int32)) _ _ _ hH (lv_sub hl [2, 3, 4, 5, 6, 7, 1, 0] rfl) hf
  have hf := hf
  rw [f_X9_towns] at hf
  refine lv_iload_n hx hb dX9_towns_0 rfl (lv_at hl 1 rfl) ?_
  refine lv_iload_n hx hb dX9_towns_1 rfl (lv_at hl 2 rfl) ?_
  obtain ⟨r1, hr1, hf⟩ := ob hf
  refine callS_i [.int a1, .int a2] [] hC hH (c_X9_isClock l G A S a1 a2 _ hr1) (va_cwS 2 hts gX9_towns_X9_isClock rfl rfl rfl (by decide +kernel) ⟨Nat.le_of_ble_eq_true rfl, Nat.le_of_ble_eq_true rfl⟩) rfl hl.1 rfl (Nat.le_of_ble_eq_true rfl) dX9_towns_2 (fun H locs hH => ?_)
  refine lv_if_eq (tgt := 25) hx hb dX9_towns_5 (by decide) (fun c2 => ?_) (fun c2 => ?_)
  · replace hf := it_t c2 hf
    refine lv_iconst (v := -1) hx hb dX9_towns_25 (by decide) ?_
    exact fin (-1 : Int32) S _ _ _ _ (Option.some.inj hf) rfl hH dX9_towns_26
  · replace hf := it_f c2 hf
    refine lv_iload_n hx hb dX9_towns_8 rfl (lv_at hl 3 rfl) ?_
    refine lv_iload hx hb dX9_towns_9 (lv_at hl 4 rfl) ?_
    obtain ⟨r3, hr3, hf⟩ := ob hf
    refine callS_i [.int a3, .int a4] [] hC hH (c_X9_isClock l G A S a3 a4 _ hr3) (va_cwS 2 hts gX9_towns_X9_isClock rfl rfl rfl (by decide +kernel) ⟨Nat.le_of_ble_eq_true rfl, Nat.le_of_ble_eq_true rfl⟩) rfl hl.1 rfl (Nat.le_of_ble_eq_true rfl) dX9_towns_11 (fun H locs hH => ?_)
    refine lv_if_eq (tgt := 25) hx hb dX9_towns_14 (by decide) (fun c4 => ?_) (fun c4 => ?_)
    · replace hf := it_t c4 hf
      refine lv_iconst (v := -1) hx hb dX9_towns_25 (by decide) ?_
      exact fin (-1 : Int32) S _ _ _ _ (Option.some.inj hf) rfl hH dX9_towns_26
    · replace hf := it_f c4 hf
      refine lv_iload hx hb dX9_towns_17 (lv_at hl 5 rfl) ?_
      obtain ⟨r5, hr5, hf⟩ := ob hf
      refine callS_i [.int a5] [] hC hH (c_X9_isBit l G A S a5 _ hr5) (va_cwS 1 hts gX9_towns_X9_isBit rfl rfl rfl (by decide +kernel) ⟨Nat.le_of_ble_eq_true rfl, Nat.le_of_ble_eq_true rfl⟩) rfl hl.1 rfl (Nat.le_of_ble_eq_true rfl) dX9_towns_19 (fun H locs hH => ?_)
      refine lv_if_ne (tgt := 27) hx hb dX9_towns_22 (by decide) (fun c6 => ?_) (fun c6 => ?_)
      · replace hf := it_f c6 hf
        refine lv_iconst (v := 2) hx hb dX9_towns_27 (by decide) ?_
        refine lv_iload hx hb dX9_towns_28 (lv_at hl 4 rfl) ?_
        refine lv_imul hx hb dX9_towns_30 ?_
        refine lv_iconst (v := 1) hx hb dX9_towns_31 (by decide) ?_
        refine lv_iadd hx hb dX9_towns_32 ?_
        refine lv_topi (fun b7 eb7 => ?_)
        replace hf := bn eb7 hf
        refine lv_istore (lv' := [(6, .int b7), (0, .ref (gC G 0)), (1, .int a1), (2, .int a2), (3, .int a3), (4, .int a4), (5, .int a5)]) hx hb dX9_towns_33 hl (by decide) rfl (fun ls hl => ?_)
        refine lv_iconst (v := 0) hx hb dX9_towns_35 (by decide) ?_
        refine lv_istore (lv' := [(7, .int (0 : Int32)), (6, .int b7), (0, .ref (gC G 0)), (1, .int a1), (2, .int a2), (3, .int a3), (4, .int a4), (5, .int a5)]) hx hb dX9_towns_36 hl (by decide) rfl (fun ls hl => ?_)
        refine lv_iload_n hx hb dX9_towns_38 rfl (lv_at hl 3 rfl) ?_
        refine lv_iload_n hx hb dX9_towns_39 rfl (lv_at hl 4 rfl) ?_
        refine lv_isub hx hb dX9_towns_40 ?_
        refine lv_topi (fun b8 eb8 => ?_)
        replace hf := bn eb8 hf
        refine lv_istore (lv' := [(8, .int b8), (7, .int (0 : Int32)), (6, .int b7), (0, .ref (gC G 0)), (1, .int a1), (2, .int a2), (3, .int a3), (4, .int a4), (5, .int a5)]) hx hb dX9_towns_41 hl (by decide) rfl (fun ls hl => ?_)
        refine kL43 _ ?_ N b7 (0 : Int32) b8 _ _ _ hH (lv_sub hl [4, 5, 6, 7, 8, 2, 1, 0] rfl) hf
        intro y11 y12 H locs ls hH hl hf
        refine lv_iload hx hb dX9_towns_78 (lv_at hl 3 rfl) ?_
        refine lv_i2l hx hb dX9_towns_80 rfl ?_
        refine lv_iconst (v := 2) hx hb dX9_towns_81 (by decide) ?_
        refine lv_iload_n hx hb dX9_towns_82 rfl (lv_at hl 0 rfl) ?_
        refine lv_imul hx hb dX9_towns_83 ?_
        refine lv_iconst (v := 1) hx hb dX9_towns_84 (by decide) ?_
        refine lv_iadd hx hb dX9_towns_85 ?_
        refine lv_iload hx hb dX9_towns_86 (lv_at hl 2 rfl) ?_
        refine lv_imul hx hb dX9_towns_88 ?_
        refine lv_i2l hx hb dX9_towns_89 rfl ?_
        refine lv_iload hx hb dX9_towns_90 (lv_at hl 1 rfl) ?_
        obtain ⟨r13, hr13, hf⟩ := ob hf
        refine callS_l [.long (y12.toInt64), .long (((((2 : Int32) * a2) + (1 : Int32)) * y11).toInt64), .int a5] [] hC hH (c_X9_inLeastTerms l G A N S (y12.toInt64) (((((2 : Int32) * a2) + (1 : Int32)) * y11).toInt64) a5 _ hr13) (va_cwS 3 hts gX9_towns_X9_inLeastTerms rfl rfl rfl (by decide +kernel) ⟨Nat.le_of_ble_eq_true rfl, Nat.le_of_ble_eq_true rfl⟩) rfl hl.1 rfl (Nat.le_of_ble_eq_true rfl) dX9_towns_92 (fun H locs hH => ?_)
        refine lv_l2i hx hb dX9_towns_95 rfl ?_
        exact fin (r13.toInt32) S _ _ _ _ (Option.some.inj hf) rfl hH dX9_towns_96
      · replace hf := it_t c6 hf
        refine lv_iconst (v := -1) hx hb dX9_towns_25 (by decide) ?_
        exact fin (-1 : Int32) S _ _ _ _ (Option.some.inj hf) rfl hH dX9_towns_26
theorem in_X9_rateToss_X9 : ∀ w ∈ wsX90, w ∈ wsX9_rateToss := fun w h => List.mem_cons_of_mem _ (List.mem_append_right _ h)
set_option maxRecDepth 100000 in
set_option maxHeartbeats 4000000 in
theorem c_X9_rateToss (l : Launch) (G : Gt) (A : Nat → Prop) (S : St)  (a1 : Int32) (q : Int32 × St) (hf : f_X9_rateToss S a1 = some q) : Met l yX9_rateToss wsX9_rateToss ({ frames := 1, cells := 0, slots := 0, locals := 20 } : Room) (va_Pc [.ref (gC G 0), .int a1] (PK G A (CW G S))) (va_Qi (fun (r2 : Int32) S2 => r2 = q.1 ∧ S2 = q.2) (fun S2 : St => PK G A (CW G S2)) A) 0 0 A := by
  refine mstart_i (Wd := CW G) (cc := cX9_rateToss) (maxL := 2) (by decide) rfl (Nat.le_of_ble_eq_true rfl) (fun p e s m below meth c Qm ls hC hH hl fin => ?_)
  obtain ⟨hx, hb, hml, hown, hts⟩ := id hC.1
  have hl : lv_has ls 2 [(0, .ref (gC G 0)), (1, .int a1)] := hl
  have hf := hf
  rw [f_X9_rateToss] at hf
  refine lv_aload_n hx hb dX9_rateToss_0 rfl (lv_at hl 0 rfl) ?_
  refine lv_dup hx hb dX9_rateToss_1 rfl ?_
  refine getO hC hH (0) rfl rfl in_X9_rateToss_X9 11 (by decide) (index := 76) (List.mem_of_getElem? (i := 1) rfl) rfl dX9_rateToss_2 ?_
  refine lv_lconst (v := 1) hx hb dX9_rateToss_5 (by decide) ?_
  refine lv_ladd hx hb dX9_rateToss_6 ?_
  refine putO hC hH (0) rfl rfl in_X9_rateToss_X9 tyX9 tyX9_ok nmX9 11 (by decide) (index := 76) (List.mem_of_getElem? (i := 1) rfl) rfl rfl rfl (Nat.le_of_ble_eq_true rfl) cs_0_11 dX9_rateToss_7 (fun H locs hH => ?_)
  obtain ⟨S1, eS1⟩ : ∃ Z : St, Z = sJ S 0 11 ((gJ S 0 11) + (1 : Int64)) := ⟨_, rfl⟩
  rw [← eS1] at hH
  replace hf := bn eS1 hf
  refine lv_iload_n hx hb dX9_rateToss_10 rfl (lv_at hl 1 rfl) ?_
  obtain ⟨r2, hr2, hf⟩ := ob hf
  refine callS_i [.int a1] [] hC hH (c_X9_beatsInAir l G A S1 a1 _ hr2) (va_cwS 1 hts gX9_rateToss_X9_beatsInAir rfl rfl rfl (by decide +kernel) ⟨Nat.le_of_ble_eq_true rfl, Nat.le_of_ble_eq_true rfl⟩) rfl hl.1 rfl (Nat.le_of_ble_eq_true rfl) dX9_rateToss_11 (fun H locs hH => ?_)
  exact fin r2 S1 _ _ _ _ (congrArg Prod.fst (Option.some.inj hf)) (congrArg Prod.snd (Option.some.inj hf)) hH dX9_rateToss_14
theorem in_X9_rateStanding_X9 : ∀ w ∈ wsX90, w ∈ wsX9_rateStanding := fun w h => List.mem_cons_of_mem _ (List.mem_append_right _ h)
set_option maxRecDepth 100000 in
set_option maxHeartbeats 4000000 in
theorem c_X9_rateStanding (l : Launch) (G : Gt) (A : Nat → Prop) (S : St)  (a1 : Int32) (a2 : Int32) (q : Int32 × St) (hf : f_X9_rateStanding S a1 a2 = some q) : Met l yX9_rateStanding wsX9_rateStanding ({ frames := 2, cells := 0, slots := 0, locals := 41 } : Room) (va_Pc [.ref (gC G 0), .int a1, .int a2] (PK G A (CW G S))) (va_Qi (fun (r2 : Int32) S2 => r2 = q.1 ∧ S2 = q.2) (fun S2 : St => PK G A (CW G S2)) A) 0 0 A := by
  refine mstart_i (Wd := CW G) (cc := cX9_rateStanding) (maxL := 3) (by decide) rfl (Nat.le_of_ble_eq_true rfl) (fun p e s m below meth c Qm ls hC hH hl fin => ?_)
  obtain ⟨hx, hb, hml, hown, hts⟩ := id hC.1
  have hl : lv_has ls 3 [(0, .ref (gC G 0)), (1, .int a1), (2, .int a2)] := hl
  have hf := hf
  rw [f_X9_rateStanding] at hf
  refine lv_aload_n hx hb dX9_rateStanding_0 rfl (lv_at hl 0 rfl) ?_
  refine lv_dup hx hb dX9_rateStanding_1 rfl ?_
  refine getO hC hH (0) rfl rfl in_X9_rateStanding_X9 11 (by decide) (index := 76) (List.mem_of_getElem? (i := 1) rfl) rfl dX9_rateStanding_2 ?_
  refine lv_ldc2 (v := 10) hx hb hown (hts (.constantLong RX9 240 (10)) (List.mem_of_getElem? (i := 2) rfl)) dX9_rateStanding_5 ?_
  refine lv_ladd hx hb dX9_rateStanding_8 ?_
  refine putO hC hH (0) rfl rfl in_X9_rateStanding_X9 tyX9 tyX9_ok nmX9 11 (by decide) (index := 76) (List.mem_of_getElem? (i := 1) rfl) rfl rfl rfl (Nat.le_of_ble_eq_true rfl) cs_0_11 dX9_rateStanding_9 (fun H locs hH => ?_)
  obtain ⟨S1, eS1⟩ : ∃ Z : St, Z = sJ S 0 11 ((gJ S 0 11) + (10 : Int64)) := ⟨_, rfl⟩
  rw [← eS1] at hH
  replace hf := bn eS1 hf
  refine lv_aload_n hx hb dX9_rateStanding_12 rfl (lv_at hl 0 rfl) ?_
  refine lv_iload_n hx hb dX9_rateStanding_13 rfl (lv_at hl 1 rfl) ?_
  obtain ⟨r2, hr2, hf⟩ := ob hf
  refine callV_i [.int a1] [] hC hH (c_X9_rateToss l G A S1 a1 _ hr2) (cwV 1 hts gX9_rateStanding_X9_rateToss rfl rfl rfl (by decide +kernel) ⟨Nat.le_of_ble_eq_true rfl, Nat.le_of_ble_eq_true rfl⟩) (recvW hC hH (c0 := 0) (ci := 9) rfl rfl) rfl hl.1 rfl (Nat.le_of_ble_eq_true rfl) dX9_rateStanding_14 (fun H locs hH => ?_)
  refine lv_iload_n hx hb dX9_rateStanding_17 rfl (lv_at hl 1 rfl) ?_
  refine lv_iload_n hx hb dX9_rateStanding_18 rfl (lv_at hl 2 rfl) ?_
  obtain ⟨r3, hr3, hf⟩ := ob hf
  refine callS_i [.int a1, .int a2] [.int r2.1] hC hH (c_X9_quarters l G A r2.2 a1 a2 _ hr3) (va_cwS 2 hts gX9_rateStanding_X9_quarters rfl rfl rfl (by decide +kernel) ⟨Nat.le_of_ble_eq_true rfl, Nat.le_of_ble_eq_true rfl⟩) rfl hl.1 rfl (Nat.le_of_ble_eq_true rfl) dX9_rateStanding_19 (fun H locs hH => ?_)
  refine lv_iadd hx hb dX9_rateStanding_22 ?_
  have hz : (r2.1 + r3, r2.2) = q := Option.some.inj hf
  have hz1 := congrArg Prod.fst hz
  have hz2 := congrArg Prod.snd hz
  exact fin (r2.1 + r3) r2.2 _ _ _ _ hz1 hz2 hH dX9_rateStanding_23
theorem in_X9_rateRunning_X9 : ∀ w ∈ wsX90, w ∈ wsX9_rateRunning := fun w h => List.mem_cons_of_mem _ (List.mem_append_right _ h)
set_option maxRecDepth 100000 in
set_option maxHeartbeats 4000000 in
theorem c_X9_rateRunning (l : Launch) (G : Gt) (A : Nat → Prop) (S : St)  (a1 : Int32) (a2 : Int32) (q : Int32 × St) (hf : f_X9_rateRunning S a1 a2 = some q) : Met l yX9_rateRunning wsX9_rateRunning ({ frames := 2, cells := 0, slots := 0, locals := 41 } : Room) (va_Pc [.ref (gC G 0), .int a1, .int a2] (PK G A (CW G S))) (va_Qi (fun (r2 : Int32) S2 => r2 = q.1 ∧ S2 = q.2) (fun S2 : St => PK G A (CW G S2)) A) 0 0 A := by
  refine mstart_i (Wd := CW G) (cc := cX9_rateRunning) (maxL := 3) (by decide) rfl (Nat.le_of_ble_eq_true rfl) (fun p e s m below meth c Qm ls hC hH hl fin => ?_)
  obtain ⟨hx, hb, hml, hown, hts⟩ := id hC.1
  have hl : lv_has ls 3 [(0, .ref (gC G 0)), (1, .int a1), (2, .int a2)] := hl
  have hf := hf
  rw [f_X9_rateRunning] at hf
  refine lv_aload_n hx hb dX9_rateRunning_0 rfl (lv_at hl 0 rfl) ?_
  refine lv_dup hx hb dX9_rateRunning_1 rfl ?_
  refine getO hC hH (0) rfl rfl in_X9_rateRunning_X9 11 (by decide) (index := 76) (List.mem_of_getElem? (i := 1) rfl) rfl dX9_rateRunning_2 ?_
  refine lv_ldc2 (v := 100) hx hb hown (hts (.constantLong RX9 298 (100)) (List.mem_of_getElem? (i := 2) rfl)) dX9_rateRunning_5 ?_
  refine lv_ladd hx hb dX9_rateRunning_8 ?_
  refine putO hC hH (0) rfl rfl in_X9_rateRunning_X9 tyX9 tyX9_ok nmX9 11 (by decide) (index := 76) (List.mem_of_getElem? (i := 1) rfl) rfl rfl rfl (Nat.le_of_ble_eq_true rfl) cs_0_11 dX9_rateRunning_9 (fun H locs hH => ?_)
  obtain ⟨S1, eS1⟩ : ∃ Z : St, Z = sJ S 0 11 ((gJ S 0 11) + (100 : Int64)) := ⟨_, rfl⟩
  rw [← eS1] at hH
  replace hf := bn eS1 hf
  refine lv_aload_n hx hb dX9_rateRunning_12 rfl (lv_at hl 0 rfl) ?_
  refine lv_iload_n hx hb dX9_rateRunning_13 rfl (lv_at hl 1 rfl) ?_
  obtain ⟨r2, hr2, hf⟩ := ob hf
  refine callV_i [.int a1] [] hC hH (c_X9_rateToss l G A S1 a1 _ hr2) (cwV 1 hts gX9_rateRunning_X9_rateToss rfl rfl rfl (by decide +kernel) ⟨Nat.le_of_ble_eq_true rfl, Nat.le_of_ble_eq_true rfl⟩) (recvW hC hH (c0 := 0) (ci := 9) rfl rfl) rfl hl.1 rfl (Nat.le_of_ble_eq_true rfl) dX9_rateRunning_14 (fun H locs hH => ?_)
  refine lv_iload_n hx hb dX9_rateRunning_17 rfl (lv_at hl 2 rfl) ?_
  refine lv_isub hx hb dX9_rateRunning_18 ?_
  have hz : (r2.1 - a2, r2.2) = q := Option.some.inj hf
  have hz1 := congrArg Prod.fst hz
  have hz2 := congrArg Prod.snd hz
  exact fin (r2.1 - a2) r2.2 _ _ _ _ hz1 hz2 hH dX9_rateRunning_19
theorem in_X9_rateFolded_X9 : ∀ w ∈ wsX90, w ∈ wsX9_rateFolded := fun w h => List.mem_cons_of_mem _ (List.mem_append_right _ h)
set_option maxRecDepth 100000 in
set_option maxHeartbeats 4000000 in
theorem c_X9_rateFolded (l : Launch) (G : Gt) (A : Nat → Prop) (S : St)  (a1 : Int32) (a2 : Int32) (q : Int32 × St) (hf : f_X9_rateFolded S a1 a2 = some q) : Met l yX9_rateFolded wsX9_rateFolded ({ frames := 3, cells := 0, slots := 0, locals := 63 } : Room) (va_Pc [.ref (gC G 0), .int a1, .int a2] (PK G A (CW G S))) (va_Qi (fun (r2 : Int32) S2 => r2 = q.1 ∧ S2 = q.2) (fun S2 : St => PK G A (CW G S2)) A) 0 0 A := by
  refine mstart_i (Wd := CW G) (cc := cX9_rateFolded) (maxL := 3) (by decide) rfl (Nat.le_of_ble_eq_true rfl) (fun p e s m below meth c Qm ls hC hH hl fin => ?_)
  obtain ⟨hx, hb, hml, hown, hts⟩ := id hC.1
  have hl : lv_has ls 3 [(0, .ref (gC G 0)), (1, .int a1), (2, .int a2)] := hl
  have hf := hf
  rw [f_X9_rateFolded] at hf
  refine lv_aload_n hx hb dX9_rateFolded_0 rfl (lv_at hl 0 rfl) ?_
  refine lv_dup hx hb dX9_rateFolded_1 rfl ?_
  refine getO hC hH (0) rfl rfl in_X9_rateFolded_X9 11 (by decide) (index := 76) (List.mem_of_getElem? (i := 1) rfl) rfl dX9_rateFolded_2 ?_
  refine lv_ldc2 (v := 1000) hx hb hown (hts (.constantLong RX9 300 (1000)) (List.mem_of_getElem? (i := 2) rfl)) dX9_rateFolded_5 ?_
  refine lv_ladd hx hb dX9_rateFolded_8 ?_
  refine putO hC hH (0) rfl rfl in_X9_rateFolded_X9 tyX9 tyX9_ok nmX9 11 (by decide) (index := 76) (List.mem_of_getElem? (i := 1) rfl) rfl rfl rfl (Nat.le_of_ble_eq_true rfl) cs_0_11 dX9_rateFolded_9 (fun H locs hH => ?_)
  obtain ⟨S1, eS1⟩ : ∃ Z : St, Z = sJ S 0 11 ((gJ S 0 11) + (1000 : Int64)) := ⟨_, rfl⟩
  rw [← eS1] at hH
  replace hf := bn eS1 hf
  refine lv_iconst (v := 2) hx hb dX9_rateFolded_12 (by decide) ?_
  refine lv_aload_n hx hb dX9_rateFolded_13 rfl (lv_at hl 0 rfl) ?_
  refine lv_iload_n hx hb dX9_rateFolded_14 rfl (lv_at hl 1 rfl) ?_
  refine lv_iload_n hx hb dX9_rateFolded_15 rfl (lv_at hl 2 rfl) ?_
  obtain ⟨r2, hr2, hf⟩ := ob hf
  refine callV_i [.int a1, .int a2] [.int (2 : Int32)] hC hH (c_X9_rateStanding l G A S1 a1 a2 _ hr2) (cwV 2 hts gX9_rateFolded_X9_rateStanding rfl rfl rfl (by decide +kernel) ⟨Nat.le_of_ble_eq_true rfl, Nat.le_of_ble_eq_true rfl⟩) (recvW hC hH (c0 := 0) (ci := 9) rfl rfl) rfl hl.1 rfl (Nat.le_of_ble_eq_true rfl) dX9_rateFolded_16 (fun H locs hH => ?_)
  refine lv_imul hx hb dX9_rateFolded_19 ?_
  have hz : ((2 : Int32) * r2.1, r2.2) = q := Option.some.inj hf
  have hz1 := congrArg Prod.fst hz
  have hz2 := congrArg Prod.snd hz
  exact fin ((2 : Int32) * r2.1) r2.2 _ _ _ _ hz1 hz2 hH dX9_rateFolded_20
theorem in_X9_rateDropped_X3 : ∀ w ∈ wsX30, w ∈ wsX9_rateDropped := fun w h => List.mem_cons_of_mem _ (List.mem_append_right _ h)
theorem in_X9_rateDropped_X9 : ∀ w ∈ wsX90, w ∈ wsX9_rateDropped := fun w h => List.mem_cons_of_mem _ (List.mem_append_left _ (List.mem_append_right _ h))
set_option maxRecDepth 100000 in
set_option maxHeartbeats 4000000 in
theorem c_X9_rateDropped (l : Launch) (G : Gt) (A : Nat → Prop) (S : St)  (a1 : Int32) (a2 : Int32) (q : Int32 × St) (hf : f_X9_rateDropped S a1 a2 = some q) : Met l yX9_rateDropped wsX9_rateDropped ({ frames := 3, cells := 0, slots := 0, locals := 63 } : Room) (va_Pc [.ref (gC G 0), .int a1, .int a2] (PK G A (CW G S))) (va_Qi (fun (r2 : Int32) S2 => r2 = q.1 ∧ S2 = q.2) (fun S2 : St => PK G A (CW G S2)) A) 0 0 A := by
  refine mstart_i (Wd := CW G) (cc := cX9_rateDropped) (maxL := 3) (by decide) rfl (Nat.le_of_ble_eq_true rfl) (fun p e s m below meth c Qm ls hC hH hl fin => ?_)
  obtain ⟨hx, hb, hml, hown, hts⟩ := id hC.1
  have hl : lv_has ls 3 [(0, .ref (gC G 0)), (1, .int a1), (2, .int a2)] := hl
  have hf := hf
  rw [f_X9_rateDropped] at hf
  refine lv_aload_n hx hb dX9_rateDropped_0 rfl (lv_at hl 0 rfl) ?_
  refine lv_dup hx hb dX9_rateDropped_1 rfl ?_
  refine getO hC hH (0) rfl rfl in_X9_rateDropped_X9 11 (by decide) (index := 76) (List.mem_of_getElem? (i := 1) rfl) rfl dX9_rateDropped_2 ?_
  refine lv_ldc2 (v := 10000) hx hb hown (hts (.constantLong RX9 302 (10000)) (List.mem_of_getElem? (i := 2) rfl)) dX9_rateDropped_5 ?_
  refine lv_ladd hx hb dX9_rateDropped_8 ?_
  refine putO hC hH (0) rfl rfl in_X9_rateDropped_X9 tyX9 tyX9_ok nmX9 11 (by decide) (index := 76) (List.mem_of_getElem? (i := 1) rfl) rfl rfl rfl (Nat.le_of_ble_eq_true rfl) cs_0_11 dX9_rateDropped_9 (fun H locs hH => ?_)
  obtain ⟨S1, eS1⟩ : ∃ Z : St, Z = sJ S 0 11 ((gJ S 0 11) + (10000 : Int64)) := ⟨_, rfl⟩
  rw [← eS1] at hH
  replace hf := bn eS1 hf
  refine lv_aload_n hx hb dX9_rateDropped_12 rfl (lv_at hl 0 rfl) ?_
  refine lv_iload_n hx hb dX9_rateDropped_13 rfl (lv_at hl 1 rfl) ?_
  refine lv_iload_n hx hb dX9_rateDropped_14 rfl (lv_at hl 2 rfl) ?_
  obtain ⟨r2, hr2, hf⟩ := ob hf
  refine callV_i [.int a1, .int a2] [] hC hH (c_X9_rateRunning l G A S1 a1 a2 _ hr2) (cwV 2 hts gX9_rateDropped_X9_rateRunning rfl rfl rfl (by decide +kernel) ⟨Nat.le_of_ble_eq_true rfl, Nat.le_of_ble_eq_true rfl⟩) (recvW hC hH (c0 := 0) (ci := 9) rfl rfl) rfl hl.1 rfl (Nat.le_of_ble_eq_true rfl) dX9_rateDropped_15 (fun H locs hH => ?_)
  refine lv_aload_n hx hb dX9_rateDropped_18 rfl (lv_at hl 0 rfl) ?_
  refine getO hC hH (0) rfl rfl in_X9_rateDropped_X9 9 (by decide) (index := 69) (List.mem_of_getElem? (i := 3) rfl) rfl dX9_rateDropped_19 ?_
  refine getN hC hH (33 + 5 * (gCo r2.2).toNat) (cw_lane (i := (gCo r2.2).toNat) (Bool.toNat_lt _)) rfl in_X9_rateDropped_X3 8 (by decide) (index := 129) (List.mem_of_getElem? (i := 22) rfl) rfl dX9_rateDropped_22 ?_
  refine lv_iadd hx hb dX9_rateDropped_25 ?_
  have hz : (r2.1 + (gI r2.2 (33 + 5 * (gCo r2.2).toNat) 8), r2.2) = q := Option.some.inj hf
  have hz1 := congrArg Prod.fst hz
  have hz2 := congrArg Prod.snd hz
  exact fin (r2.1 + (gI r2.2 (33 + 5 * (gCo r2.2).toNat) 8)) r2.2 _ _ _ _ hz1 hz2 hH dX9_rateDropped_26
theorem in_X9_rateLow_X3 : ∀ w ∈ wsX30, w ∈ wsX9_rateLow := fun w h => List.mem_cons_of_mem _ (List.mem_append_right _ h)
theorem in_X9_rateLow_X9 : ∀ w ∈ wsX90, w ∈ wsX9_rateLow := fun w h => List.mem_cons_of_mem _ (List.mem_append_left _ (List.mem_append_right _ h))
set_option maxRecDepth 100000 in
set_option maxHeartbeats 4000000 in
theorem c_X9_rateLow (l : Launch) (G : Gt) (A : Nat → Prop) (S : St)  (a1 : Int32) (q : Int32 × St) (hf : f_X9_rateLow S a1 = some q) : Met l yX9_rateLow wsX9_rateLow ({ frames := 2, cells := 0, slots := 0, locals := 41 } : Room) (va_Pc [.ref (gC G 0), .int a1] (PK G A (CW G S))) (va_Qi (fun (r2 : Int32) S2 => r2 = q.1 ∧ S2 = q.2) (fun S2 : St => PK G A (CW G S2)) A) 0 0 A := by
  refine mstart_i (Wd := CW G) (cc := cX9_rateLow) (maxL := 2) (by decide) rfl (Nat.le_of_ble_eq_true rfl) (fun p e s m below meth c Qm ls hC hH hl fin => ?_)
  obtain ⟨hx, hb, hml, hown, hts⟩ := id hC.1
  have hl : lv_has ls 2 [(0, .ref (gC G 0)), (1, .int a1)] := hl
  have hf := hf
  rw [f_X9_rateLow] at hf
  refine lv_aload_n hx hb dX9_rateLow_0 rfl (lv_at hl 0 rfl) ?_
  refine lv_dup hx hb dX9_rateLow_1 rfl ?_
  refine getO hC hH (0) rfl rfl in_X9_rateLow_X9 11 (by decide) (index := 76) (List.mem_of_getElem? (i := 1) rfl) rfl dX9_rateLow_2 ?_
  refine lv_ldc2 (v := 100000) hx hb hown (hts (.constantLong RX9 304 (100000)) (List.mem_of_getElem? (i := 2) rfl)) dX9_rateLow_5 ?_
  refine lv_ladd hx hb dX9_rateLow_8 ?_
  refine putO hC hH (0) rfl rfl in_X9_rateLow_X9 tyX9 tyX9_ok nmX9 11 (by decide) (index := 76) (List.mem_of_getElem? (i := 1) rfl) rfl rfl rfl (Nat.le_of_ble_eq_true rfl) cs_0_11 dX9_rateLow_9 (fun H locs hH => ?_)
  obtain ⟨S1, eS1⟩ : ∃ Z : St, Z = sJ S 0 11 ((gJ S 0 11) + (100000 : Int64)) := ⟨_, rfl⟩
  rw [← eS1] at hH
  replace hf := bn eS1 hf
  refine lv_aload_n hx hb dX9_rateLow_12 rfl (lv_at hl 0 rfl) ?_
  refine lv_iload_n hx hb dX9_rateLow_13 rfl (lv_at hl 1 rfl) ?_
  obtain ⟨r2, hr2, hf⟩ := ob hf
  refine callV_i [.int a1] [] hC hH (c_X9_rateToss l G A S1 a1 _ hr2) (cwV 1 hts gX9_rateLow_X9_rateToss rfl rfl rfl (by decide +kernel) ⟨Nat.le_of_ble_eq_true rfl, Nat.le_of_ble_eq_true rfl⟩) (recvW hC hH (c0 := 0) (ci := 9) rfl rfl) rfl hl.1 rfl (Nat.le_of_ble_eq_true rfl) dX9_rateLow_14 (fun H locs hH => ?_)
  refine lv_aload_n hx hb dX9_rateLow_17 rfl (lv_at hl 0 rfl) ?_
  refine getO hC hH (0) rfl rfl in_X9_rateLow_X9 9 (by decide) (index := 69) (List.mem_of_getElem? (i := 3) rfl) rfl dX9_rateLow_18 ?_
  refine getN hC hH (33 + 5 * (gCo r2.2).toNat) (cw_lane (i := (gCo r2.2).toNat) (Bool.toNat_lt _)) rfl in_X9_rateLow_X3 6 (by decide) (index := 123) (List.mem_of_getElem? (i := 17) rfl) rfl dX9_rateLow_21 ?_
  refine lv_isub hx hb dX9_rateLow_24 ?_
  have hz : (r2.1 - (gI r2.2 (33 + 5 * (gCo r2.2).toNat) 6), r2.2) = q := Option.some.inj hf
  have hz1 := congrArg Prod.fst hz
  have hz2 := congrArg Prod.snd hz
  exact fin (r2.1 - (gI r2.2 (33 + 5 * (gCo r2.2).toNat) 6)) r2.2 _ _ _ _ hz1 hz2 hH dX9_rateLow_25
theorem in_X9_rate_X3 : ∀ w ∈ wsX30, w ∈ wsX9_rate := fun w h => List.mem_cons_of_mem _ (List.mem_append_right _ h)
theorem in_X9_rate_X9 : ∀ w ∈ wsX90, w ∈ wsX9_rate := fun w h => List.mem_cons_of_mem _ (List.mem_append_left _ (List.mem_append_right _ h))
set_option maxRecDepth 100000 in
set_option maxHeartbeats 4000000 in
theorem c_X9_rate (l : Launch) (G : Gt) (A : Nat → Prop) (S : St)  (a1 : Int32) (a2 : Int32) (a3 : Int32) (q : Int32 × St) (hf : f_X9_rate S a1 a2 a3 = some q) : Met l yX9_rate wsX9_rate ({ frames := 4, cells := 0, slots := 0, locals := 85 } : Room) (va_Pc [.ref (gC G 0), .int a1, .int a2, .int a3] (PK G A (CW G S))) (va_Qi (fun (r2 : Int32) S2 => r2 = q.1 ∧ S2 = q.2) (fun S2 : St => PK G A (CW G S2)) A) 0 0 A := by
  refine mstart_i (Wd := CW G) (cc := cX9_rate) (maxL := 4) (by decide) rfl (Nat.le_of_ble_eq_true rfl) (fun p e s m below meth c Qm ls hC hH hl fin => ?_)
  obtain ⟨hx, hb, hml, hown, hts⟩ := id hC.1
  have hl : lv_has ls 4 [(0, .ref (gC G 0)), (1, .int a1), (2, .int a2), (3, .int a3)] := hl
  have hf := hf
  rw [f_X9_rate] at hf
  refine lv_iload_n hx hb dX9_rate_0 rfl (lv_at hl 2 rfl) ?_
  refine lv_iconst (v := 1) hx hb dX9_rate_1 (by decide) ?_
  refine lv_icmp_lt (tgt := 20) hx hb dX9_rate_2 (by decide) (fun c1 => ?_) (fun c1 => ?_)
  · replace hf := it_t c1 hf
    refine lv_ldc (v := -1000000) hx hb hown (hts (.constant RX9 157 (-1000000)) (List.mem_of_getElem? (i := 1) rfl)) dX9_rate_20 ?_
    exact fin (-1000000 : Int32) S _ _ _ _ (congrArg Prod.fst (Option.some.inj hf)) (congrArg Prod.snd (Option.some.inj hf)) hH dX9_rate_22
  · replace hf := it_f c1 hf
    refine lv_iload_n hx hb dX9_rate_5 rfl (lv_at hl 2 rfl) ?_
    refine lv_iconst (v := 4) hx hb dX9_rate_6 (by decide) ?_
    refine lv_icmp_gt (tgt := 20) hx hb dX9_rate_7 (by decide) (fun c2 => ?_) (fun c2 => ?_)
    · replace hf := it_t c2 hf
      refine lv_ldc (v := -1000000) hx hb hown (hts (.constant RX9 157 (-1000000)) (List.mem_of_getElem? (i := 1) rfl)) dX9_rate_20 ?_
      exact fin (-1000000 : Int32) S _ _ _ _ (congrArg Prod.fst (Option.some.inj hf)) (congrArg Prod.snd (Option.some.inj hf)) hH dX9_rate_22
    · replace hf := it_f c2 hf
      refine lv_iload_n hx hb dX9_rate_10 rfl (lv_at hl 3 rfl) ?_
      refine lv_if_lt (tgt := 20) hx hb dX9_rate_11 (by decide) (fun c3 => ?_) (fun c3 => ?_)
      · replace hf := it_t c3 hf
        refine lv_ldc (v := -1000000) hx hb hown (hts (.constant RX9 157 (-1000000)) (List.mem_of_getElem? (i := 1) rfl)) dX9_rate_20 ?_
        exact fin (-1000000 : Int32) S _ _ _ _ (congrArg Prod.fst (Option.some.inj hf)) (congrArg Prod.snd (Option.some.inj hf)) hH dX9_rate_22
      · replace hf := it_f c3 hf
        refine lv_iload_n hx hb dX9_rate_14 rfl (lv_at hl 3 rfl) ?_
        refine lv_bipush (v := 7) hx hb dX9_rate_15 (by decide) ?_
        refine lv_icmp_le (tgt := 23) hx hb dX9_rate_17 (by decide) (fun c4 => ?_) (fun c4 => ?_)
        · replace hf := it_t c4 hf
          refine lv_iload_n hx hb dX9_rate_23 rfl (lv_at hl 1 rfl) ?_
          by_cases c5 : a1 = (0 : Int32)
          · replace hf := it_t c5 hf
            refine lv_tableIn (tgt := 64) hx hb dX9_rate_24 (by rw [c5]; decide) (by rw [c5]; decide) (by rw [c5]; rfl) (by decide) ?_
            refine lv_aload_n hx hb dX9_rate_64 rfl (lv_at hl 0 rfl) ?_
            refine lv_iload_n hx hb dX9_rate_65 rfl (lv_at hl 2 rfl) ?_
            obtain ⟨r6, hr6, hf⟩ := ob hf
            refine callV_i [.int a2] [] hC hH (c_X9_rateToss l G A S a2 _ hr6) (cwV 1 hts gX9_rate_X9_rateToss rfl rfl rfl (by decide +kernel) ⟨Nat.le_of_ble_eq_true rfl, Nat.le_of_ble_eq_true rfl⟩) (recvW hC hH (c0 := 0) (ci := 9) rfl rfl) rfl hl.1 rfl (Nat.le_of_ble_eq_true rfl) dX9_rate_66 (fun H locs hH => ?_)
            have hz : (r6.1, r6.2) = q := Option.some.inj hf
            have hz1 := congrArg Prod.fst hz
            have hz2 := congrArg Prod.snd hz
            exact fin r6.1 r6.2 _ _ _ _ hz1 hz2 hH dX9_rate_69
          replace hf := it_f c5 hf
          by_cases c7 : a1 = (1 : Int32)
          · replace hf := it_t c7 hf
            refine lv_tableIn (tgt := 70) hx hb dX9_rate_24 (by rw [c7]; decide) (by rw [c7]; decide) (by rw [c7]; rfl) (by decide) ?_
            refine lv_aload_n hx hb dX9_rate_70 rfl (lv_at hl 0 rfl) ?_
            refine lv_iload_n hx hb dX9_rate_71 rfl (lv_at hl 2 rfl) ?_
            refine lv_iload_n hx hb dX9_rate_72 rfl (lv_at hl 3 rfl) ?_
            obtain ⟨r8, hr8, hf⟩ := ob hf
            refine callV_i [.int a2, .int a3] [] hC hH (c_X9_rateStanding l G A S a2 a3 _ hr8) (cwV 2 hts gX9_rate_X9_rateStanding rfl rfl rfl (by decide +kernel) ⟨Nat.le_of_ble_eq_true rfl, Nat.le_of_ble_eq_true rfl⟩) (recvW hC hH (c0 := 0) (ci := 9) rfl rfl) rfl hl.1 rfl (Nat.le_of_ble_eq_true rfl) dX9_rate_73 (fun H locs hH => ?_)
            have hz : (r8.1, r8.2) = q := Option.some.inj hf
            have hz1 := congrArg Prod.fst hz
            have hz2 := congrArg Prod.snd hz
            exact fin r8.1 r8.2 _ _ _ _ hz1 hz2 hH dX9_rate_76
          replace hf := it_f c7 hf
          by_cases c9 : a1 = (2 : Int32)
          · replace hf := it_t c9 hf
            refine lv_tableIn (tgt := 77) hx hb dX9_rate_24 (by rw [c9]; decide) (by rw [c9]; decide) (by rw [c9]; rfl) (by decide) ?_
            refine lv_aload_n hx hb dX9_rate_77 rfl (lv_at hl 0 rfl) ?_
            refine lv_iload_n hx hb dX9_rate_78 rfl (lv_at hl 2 rfl) ?_
            refine lv_iload_n hx hb dX9_rate_79 rfl (lv_at hl 3 rfl) ?_
            obtain ⟨r10, hr10, hf⟩ := ob hf
            refine callV_i [.int a2, .int a3] [] hC hH (c_X9_rateRunning l G A S a2 a3 _ hr10) (cwV 2 hts gX9_rate_X9_rateRunning rfl rfl rfl (by decide +kernel) ⟨Nat.le_of_ble_eq_true rfl, Nat.le_of_ble_eq_true rfl⟩) (recvW hC hH (c0 := 0) (ci := 9) rfl rfl) rfl hl.1 rfl (Nat.le_of_ble_eq_true rfl) dX9_rate_80 (fun H locs hH => ?_)
            have hz : (r10.1, r10.2) = q := Option.some.inj hf
            have hz1 := congrArg Prod.fst hz
            have hz2 := congrArg Prod.snd hz
            exact fin r10.1 r10.2 _ _ _ _ hz1 hz2 hH dX9_rate_83
          replace hf := it_f c9 hf
          by_cases c11 : a1 = (3 : Int32)
          · replace hf := it_t c11 hf
            refine lv_tableIn (tgt := 84) hx hb dX9_rate_24 (by rw [c11]; decide) (by rw [c11]; decide) (by rw [c11]; rfl) (by decide) ?_
            refine lv_aload_n hx hb dX9_rate_84 rfl (lv_at hl 0 rfl) ?_
            refine lv_iload_n hx hb dX9_rate_85 rfl (lv_at hl 2 rfl) ?_
            refine lv_iload_n hx hb dX9_rate_86 rfl (lv_at hl 3 rfl) ?_
            obtain ⟨r12, hr12, hf⟩ := ob hf
            refine callV_i [.int a2, .int a3] [] hC hH (c_X9_rateFolded l G A S a2 a3 _ hr12) (cwV 2 hts gX9_rate_X9_rateFolded rfl rfl rfl (by decide +kernel) ⟨Nat.le_of_ble_eq_true rfl, Nat.le_of_ble_eq_true rfl⟩) (recvW hC hH (c0 := 0) (ci := 9) rfl rfl) rfl hl.1 rfl (Nat.le_of_ble_eq_true rfl) dX9_rate_87 (fun H locs hH => ?_)
            have hz : (r12.1, r12.2) = q := Option.some.inj hf
            have hz1 := congrArg Prod.fst hz
            have hz2 := congrArg Prod.snd hz
            exact fin r12.1 r12.2 _ _ _ _ hz1 hz2 hH dX9_rate_90
          replace hf := it_f c11 hf
          by_cases c13 : a1 = (4 : Int32)
          · replace hf := it_t c13 hf
            refine lv_tableIn (tgt := 91) hx hb dX9_rate_24 (by rw [c13]; decide) (by rw [c13]; decide) (by rw [c13]; rfl) (by decide) ?_
            refine lv_aload_n hx hb dX9_rate_91 rfl (lv_at hl 0 rfl) ?_
            refine lv_iload_n hx hb dX9_rate_92 rfl (lv_at hl 2 rfl) ?_
            refine lv_iload_n hx hb dX9_rate_93 rfl (lv_at hl 3 rfl) ?_
            obtain ⟨r14, hr14, hf⟩ := ob hf
            refine callV_i [.int a2, .int a3] [] hC hH (c_X9_rateDropped l G A S a2 a3 _ hr14) (cwV 2 hts gX9_rate_X9_rateDropped rfl rfl rfl (by decide +kernel) ⟨Nat.le_of_ble_eq_true rfl, Nat.le_of_ble_eq_true rfl⟩) (recvW hC hH (c0 := 0) (ci := 9) rfl rfl) rfl hl.1 rfl (Nat.le_of_ble_eq_true rfl) dX9_rate_94 (fun H locs hH => ?_)
            have hz : (r14.1, r14.2) = q := Option.some.inj hf
            have hz1 := congrArg Prod.fst hz
            have hz2 := congrArg Prod.snd hz
            exact fin r14.1 r14.2 _ _ _ _ hz1 hz2 hH dX9_rate_97
          replace hf := it_f c13 hf
          by_cases c15 : a1 = (5 : Int32)
          · replace hf := it_t c15 hf
            refine lv_tableIn (tgt := 98) hx hb dX9_rate_24 (by rw [c15]; decide) (by rw [c15]; decide) (by rw [c15]; rfl) (by decide) ?_
            refine lv_aload_n hx hb dX9_rate_98 rfl (lv_at hl 0 rfl) ?_
            refine lv_iload_n hx hb dX9_rate_99 rfl (lv_at hl 2 rfl) ?_
            obtain ⟨r16, hr16, hf⟩ := ob hf
            refine callV_i [.int a2] [] hC hH (c_X9_rateLow l G A S a2 _ hr16) (cwV 1 hts gX9_rate_X9_rateLow rfl rfl rfl (by decide +kernel) ⟨Nat.le_of_ble_eq_true rfl, Nat.le_of_ble_eq_true rfl⟩) (recvW hC hH (c0 := 0) (ci := 9) rfl rfl) rfl hl.1 rfl (Nat.le_of_ble_eq_true rfl) dX9_rate_100 (fun H locs hH => ?_)
            have hz : (r16.1, r16.2) = q := Option.some.inj hf
            have hz1 := congrArg Prod.fst hz
            have hz2 := congrArg Prod.snd hz
            exact fin r16.1 r16.2 _ _ _ _ hz1 hz2 hH dX9_rate_103
          replace hf := it_f c15 hf
          refine lv_tableOut (tgt := 104) hx hb dX9_rate_24 (by have z0 := lv_neT (a := 0) c5 (by decide); have z1 := lv_neT (a := 1) c7 (by decide); have z2 := lv_neT (a := 2) c9 (by decide); have z3 := lv_neT (a := 3) c11 (by decide); have z4 := lv_neT (a := 4) c13 (by decide); have z5 := lv_neT (a := 5) c15 (by decide); omega) (by decide) ?_
          refine lv_ldc (v := -1000000) hx hb hown (hts (.constant RX9 157 (-1000000)) (List.mem_of_getElem? (i := 1) rfl)) dX9_rate_104 ?_
          exact fin (-1000000 : Int32) S _ _ _ _ (congrArg Prod.fst (Option.some.inj hf)) (congrArg Prod.snd (Option.some.inj hf)) hH dX9_rate_106
        · replace hf := it_f c4 hf
          refine lv_ldc (v := -1000000) hx hb hown (hts (.constant RX9 157 (-1000000)) (List.mem_of_getElem? (i := 1) rfl)) dX9_rate_20 ?_
          exact fin (-1000000 : Int32) S _ _ _ _ (congrArg Prod.fst (Option.some.inj hf)) (congrArg Prod.snd (Option.some.inj hf)) hH dX9_rate_22
theorem in_X9_imageOf_X9 : ∀ w ∈ wsX90, w ∈ wsX9_imageOf := fun w h => List.mem_cons_of_mem _ (List.mem_append_right _ h)
set_option maxRecDepth 100000 in
set_option maxHeartbeats 4000000 in
theorem c_X9_imageOf (l : Launch) (G : Gt) (A : Nat → Prop) (S : St)  (a1 : Int32) (q : Nat) (hf : f_X9_imageOf S a1 = some q) : Met l yX9_imageOf wsX9_imageOf ({ frames := 0, cells := 0, slots := 0, locals := 0 } : Room) (va_Pc [.ref (gC G 0), .int a1] (PK G A (CW G S))) (va_Qr (fun u : Nat × St => u = (q, S)) (fun (u : Nat × St) a t => a = gC G (8 + 5 * u.1) ∧ PK G A (CW G u.2) t) A) 0 0 A := by
  refine mstart_r (hWd := rfl) (Wd := CW G) (cc := cX9_imageOf) (maxL := 2) (by decide) rfl (Nat.le_of_ble_eq_true rfl) (fun p e s m below meth c Qm ls hC hH hl fin => ?_)
  obtain ⟨hx, hb, hml, hown, hts⟩ := id hC.1
  have hl : lv_has ls 2 [(0, .ref (gC G 0)), (1, .int a1)] := hl
  have hf := hf
  rw [f_X9_imageOf] at hf
  refine lv_iload_n hx hb dX9_imageOf_0 rfl (lv_at hl 1 rfl) ?_
  refine lv_if_ne (tgt := 11) hx hb dX9_imageOf_1 (by decide) (fun c1 => ?_) (fun c1 => ?_)
  · replace hf := it_f c1 hf
    refine lv_aload_n hx hb dX9_imageOf_11 rfl (lv_at hl 0 rfl) ?_
    refine getO hC hH (0) rfl rfl in_X9_imageOf_X9 4 (by decide) (index := 35) (List.mem_of_getElem? (i := 2) rfl) rfl dX9_imageOf_12 ?_
    exact fin (1) S _ _ _ _ (Option.some.inj hf) rfl hH dX9_imageOf_15
  · replace hf := it_t c1 hf
    refine lv_aload_n hx hb dX9_imageOf_4 rfl (lv_at hl 0 rfl) ?_
    refine getO hC hH (0) rfl rfl in_X9_imageOf_X9 3 (by decide) (index := 31) (List.mem_of_getElem? (i := 1) rfl) rfl dX9_imageOf_5 ?_
    refine lv_goto (tgt := 15) hx hb dX9_imageOf_8 (by decide) ?_
    exact fin (0) S _ _ _ _ (Option.some.inj hf) rfl hH dX9_imageOf_15
set_option maxRecDepth 100000 in
set_option maxHeartbeats 4000000 in
theorem c_J6_bitCount_0f7a4 (l : Launch) (G : Gt) (A : Nat → Prop) (S : St)  (a0 : Int32) (q : Int32) (hf : f_J6_bitCount_0f7a4 a0 = some q) : Met l yJ6_bitCount_0f7a4 wsJ6_bitCount_0f7a4 ({ frames := 0, cells := 0, slots := 0, locals := 0 } : Room) (va_Pc [.int a0] (PK G A (CW G S))) (va_Qi (fun (r2 : Int32) S2 => r2 = q ∧ S2 = S) (fun S2 : St => PK G A (CW G S2)) A) 0 0 A := by
  refine mstart_i (Wd := CW G) (cc := cJ6_bitCount_0f7a4) (maxL := 1) (by decide) rfl (Nat.le_of_ble_eq_true rfl) (fun p e s m below meth c Qm ls hC hH hl fin => ?_)
  obtain ⟨hx, hb, hml, hown, hts⟩ := id hC.1
  have hl : lv_has ls 1 [(0, .int a0)] := hl
  have hf := hf
  rw [f_J6_bitCount_0f7a4] at hf
  refine lv_iload_n hx hb dJ6_bitCount_0f7a4_0 rfl (lv_at hl 0 rfl) ?_
  refine lv_iload_n hx hb dJ6_bitCount_0f7a4_1 rfl (lv_at hl 0 rfl) ?_
  refine lv_iconst (v := 1) hx hb dJ6_bitCount_0f7a4_2 (by decide) ?_
  refine lv_iushr hx hb dJ6_bitCount_0f7a4_3 rfl ?_
  refine lv_ldcw (v := 1431655765) hx hb hown (hts (.constant RJ6 265 (1431655765)) (List.mem_of_getElem? (i := 1) rfl)) dJ6_bitCount_0f7a4_4 ?_
  refine lv_iand hx hb dJ6_bitCount_0f7a4_7 ?_
  refine lv_isub hx hb dJ6_bitCount_0f7a4_8 ?_
  refine lv_topi (fun b1 eb1 => ?_)
  replace hf := bn eb1 hf
  refine lv_istore_n (lv' := [(0, .int b1)]) hx hb dJ6_bitCount_0f7a4_9 rfl hl (by decide) rfl (fun ls hl => ?_)
  refine lv_iload_n hx hb dJ6_bitCount_0f7a4_10 rfl (lv_at hl 0 rfl) ?_
  refine lv_ldcw (v := 858993459) hx hb hown (hts (.constant RJ6 266 (858993459)) (List.mem_of_getElem? (i := 2) rfl)) dJ6_bitCount_0f7a4_11 ?_
  refine lv_iand hx hb dJ6_bitCount_0f7a4_14 ?_
  refine lv_iload_n hx hb dJ6_bitCount_0f7a4_15 rfl (lv_at hl 0 rfl) ?_
  refine lv_iconst (v := 2) hx hb dJ6_bitCount_0f7a4_16 (by decide) ?_
  refine lv_iushr hx hb dJ6_bitCount_0f7a4_17 rfl ?_
  refine lv_ldcw (v := 858993459) hx hb hown (hts (.constant RJ6 266 (858993459)) (List.mem_of_getElem? (i := 2) rfl)) dJ6_bitCount_0f7a4_18 ?_
  refine lv_iand hx hb dJ6_bitCount_0f7a4_21 ?_
  refine lv_iadd hx hb dJ6_bitCount_0f7a4_22 ?_
  refine lv_topi (fun b2 eb2 => ?_)
  replace hf := bn eb2 hf
  refine lv_istore_n (lv' := [(0, .int b2)]) hx hb dJ6_bitCount_0f7a4_23 rfl hl (by decide) rfl (fun ls hl => ?_)
  refine lv_iload_n hx hb dJ6_bitCount_0f7a4_24 rfl (lv_at hl 0 rfl) ?_
  refine lv_iload_n hx hb dJ6_bitCount_0f7a4_25 rfl (lv_at hl 0 rfl) ?_
  refine lv_iconst (v := 4) hx hb dJ6_bitCount_0f7a4_26 (by decide) ?_
  refine lv_iushr hx hb dJ6_bitCount_0f7a4_27 rfl ?_
  refine lv_iadd hx hb dJ6_bitCount_0f7a4_28 ?_
  refine lv_ldcw (v := 252645135) hx hb hown (hts (.constant RJ6 267 (252645135)) (List.mem_of_getElem? (i := 3) rfl)) dJ6_bitCount_0f7a4_29 ?_
  refine lv_iand hx hb dJ6_bitCount_0f7a4_32 ?_
  refine lv_topi (fun b3 eb3 => ?_)
  replace hf := bn eb3 hf
  refine lv_istore_n (lv' := [(0, .int b3)]) hx hb dJ6_bitCount_0f7a4_33 rfl hl (by decide) rfl (fun ls hl => ?_)
  refine lv_iload_n hx hb dJ6_bitCount_0f7a4_34 rfl (lv_at hl 0 rfl) ?_
  refine lv_iload_n hx hb dJ6_bitCount_0f7a4_35 rfl (lv_at hl 0 rfl) ?_
  refine lv_bipush (v := 8) hx hb dJ6_bitCount_0f7a4_36 (by decide) ?_
  refine lv_iushr hx hb dJ6_bitCount_0f7a4_38 rfl ?_
  refine lv_iadd hx hb dJ6_bitCount_0f7a4_39 ?_
  refine lv_topi (fun b4 eb4 => ?_)
  replace hf := bn eb4 hf
  refine lv_istore_n (lv' := [(0, .int b4)]) hx hb dJ6_bitCount_0f7a4_40 rfl hl (by decide) rfl (fun ls hl => ?_)
  refine lv_iload_n hx hb dJ6_bitCount_0f7a4_41 rfl (lv_at hl 0 rfl) ?_
  refine lv_iload_n hx hb dJ6_bitCount_0f7a4_42 rfl (lv_at hl 0 rfl) ?_
  refine lv_bipush (v := 16) hx hb dJ6_bitCount_0f7a4_43 (by decide) ?_
  refine lv_iushr hx hb dJ6_bitCount_0f7a4_45 rfl ?_
  refine lv_iadd hx hb dJ6_bitCount_0f7a4_46 ?_
  refine lv_topi (fun b5 eb5 => ?_)
  replace hf := bn eb5 hf
  refine lv_istore_n (lv' := [(0, .int b5)]) hx hb dJ6_bitCount_0f7a4_47 rfl hl (by decide) rfl (fun ls hl => ?_)
  refine lv_iload_n hx hb dJ6_bitCount_0f7a4_48 rfl (lv_at hl 0 rfl) ?_
  refine lv_bipush (v := 63) hx hb dJ6_bitCount_0f7a4_49 (by decide) ?_
  refine lv_iand hx hb dJ6_bitCount_0f7a4_51 ?_
  exact fin (b5 &&& (63 : Int32)) S _ _ _ _ (Option.some.inj hf) rfl hH dJ6_bitCount_0f7a4_52
theorem in_X9_keep_X2 : ∀ w ∈ wsX20, w ∈ wsX9_keep := fun w h => List.mem_cons_of_mem _ (List.mem_append_left _ (List.mem_append_left _ (List.mem_append_left _ (List.mem_append_right _ h))))
theorem in_X9_keep_X3 : ∀ w ∈ wsX30, w ∈ wsX9_keep := fun w h => List.mem_cons_of_mem _ (List.mem_append_right _ h)
theorem in_X9_keep_X7 : ∀ w ∈ wsX70, w ∈ wsX9_keep := fun w h => List.mem_cons_of_mem _ (List.mem_append_left _ (List.mem_append_right _ h))
theorem in_X9_keep_X9 : ∀ w ∈ wsX90, w ∈ wsX9_keep := fun w h => List.mem_cons_of_mem _ (List.mem_append_left _ (List.mem_append_left _ (List.mem_append_right _ h)))
set_option maxRecDepth 100000 in
set_option maxHeartbeats 4000000 in
theorem c_X9_keep (l : Launch) (G : Gt) (A : Nat → Prop) (N : Nat) (S : St)  (a1 : Int32) (q : Int32 × St) (hf : f_X9_keep N S a1 = some q) : Met l yX9_keep wsX9_keep ({ frames := 4, cells := 0, slots := 0, locals := 85 } : Room) (va_Pc [.ref (gC G 0), .int a1] (PK G A (CW G S))) (va_Qi (fun (r2 : Int32) S2 => r2 = q.1 ∧ S2 = q.2) (fun S2 : St => PK G A (CW G S2)) A) 0 0 A := by
  refine mstart_i (Wd := CW G) (cc := cX9_keep) (maxL := 3) (by decide) rfl (Nat.le_of_ble_eq_true rfl) (fun p e s m below meth c Qm ls hC hH hl fin => ?_)
  obtain ⟨hx, hb, hml, hown, hts⟩ := id hC.1
  have hl : lv_has ls 3 [(0, .ref (gC G 0)), (1, .int a1)] := hl
  have hf := hf
  rw [f_X9_keep] at hf
  refine lv_iload_n hx hb dX9_keep_0 rfl (lv_at hl 1 rfl) ?_
  obtain ⟨r1, hr1, hf⟩ := ob hf
  refine callS_i [.int a1] [] hC hH (c_X9_isBit l G A S a1 _ hr1) (va_cwS 1 hts gX9_keep_X9_isBit rfl rfl rfl (by decide +kernel) ⟨Nat.le_of_ble_eq_true rfl, Nat.le_of_ble_eq_true rfl⟩) rfl hl.1 rfl (Nat.le_of_ble_eq_true rfl) dX9_keep_1 (fun H locs hH => ?_)
  refine lv_if_ne (tgt := 9) hx hb dX9_keep_4 (by decide) (fun c2 => ?_) (fun c2 => ?_)
  · replace hf := it_f c2 hf
    refine lv_aload_n hx hb dX9_keep_9 rfl (lv_at hl 0 rfl) ?_
    refine lv_iload_n hx hb dX9_keep_10 rfl (lv_at hl 1 rfl) ?_
    obtain ⟨r3, hr3, hf⟩ := ob hf
    refine callV_r [.int a1] [] hC hH (c_X9_imageOf l G A S a1 _ hr3) (cwV 1 hts gX9_keep_X9_imageOf rfl rfl rfl (by decide +kernel) ⟨Nat.le_of_ble_eq_true rfl, Nat.le_of_ble_eq_true rfl⟩) (recvW hC hH (c0 := 0) (ci := 9) rfl rfl) rfl hl.1 rfl (Nat.le_of_ble_eq_true rfl) dX9_keep_11 (fun H locs hH => ?_)
    obtain ⟨g4, hf⟩ := gd hf
    refine lv_astore_n (lv' := [(2, .ref (gC G (8 + 5 * r3))), (0, .ref (gC G 0)), (1, .int a1)]) hx hb dX9_keep_14 rfl hl (by decide) rfl (fun ls hl => ?_)
    refine lv_aload_n hx hb dX9_keep_15 rfl (lv_at hl 0 rfl) ?_
    refine getN hC hH (8 + 5 * r3) (cw_imag (i := r3) (Nat.lt_of_not_le g4)) rfl in_X9_keep_X2 0 (by decide) (index := 281) (List.mem_of_getElem? (i := 4) rfl) rfl dX9_keep_16 ?_
    refine lv_aload_n hx hb dX9_keep_19 rfl (lv_at hl 1 rfl) ?_
    refine getO hC hH (0) rfl rfl in_X9_keep_X9 2 (by decide) (index := 24) (List.mem_of_getElem? (i := 1) rfl) rfl dX9_keep_20 ?_
    obtain ⟨r5, hr5, hf⟩ := ob hf
    refine callV_v [.ref (gC G (4 + 5 * 0))] [] hC hH (c_X7_copyFrom l G A N S (r3 + 1) (Nat.succ_lt_succ (Nat.lt_of_not_le g4)) 0 (by decide) _ hr5) (cwV 1 hts gX9_keep_X7_copyFrom rfl rfl rfl (by decide +kernel) ⟨Nat.le_of_ble_eq_true rfl, Nat.le_of_ble_eq_true rfl⟩) (recvW hC hH (c0 := 4 + 5 * (r3 + 1)) (ci := 7) (cw_runs (i := (r3 + 1)) (Nat.succ_lt_succ (Nat.lt_of_not_le g4))) rfl) rfl hl.1 rfl (Nat.le_of_ble_eq_true rfl) dX9_keep_23 (fun H locs hH => ?_)
    refine lv_aload_n hx hb dX9_keep_26 rfl (lv_at hl 0 rfl) ?_
    refine lv_iconst (v := 1) hx hb dX9_keep_27 (by decide) ?_
    refine putN hC hH (8 + 5 * r3) (cw_imag (i := r3) (Nat.lt_of_not_le g4)) rfl in_X9_keep_X2 tyX2 tyX2_ok nmX2 1 (by decide) (index := 105) (List.mem_of_getElem? (i := 5) rfl) rfl rfl rfl (Nat.le_of_ble_eq_true rfl) (cs_imag_1 (i := r3) (Nat.lt_of_not_le g4)) dX9_keep_28 (fun H locs hH => ?_)
    obtain ⟨S6, eS6⟩ : ∃ Z : St, Z = sI r5 (8 + 5 * r3) 1 (1 : Int32) := ⟨_, rfl⟩
    rw [← eS6] at hH
    replace hf := bn eS6 hf
    refine lv_aload_n hx hb dX9_keep_31 rfl (lv_at hl 1 rfl) ?_
    obtain ⟨r7, hr7, hf⟩ := ob hf
    refine callV_i [] [] hC hH (c_X9_homeBits l G A N S6 _ hr7) (cwV 0 hts gX9_keep_X9_homeBits rfl rfl rfl (by decide +kernel) ⟨Nat.le_of_ble_eq_true rfl, Nat.le_of_ble_eq_true rfl⟩) (recvW hC hH (c0 := 0) (ci := 9) rfl rfl) rfl hl.1 rfl (Nat.le_of_ble_eq_true rfl) dX9_keep_32 (fun H locs hH => ?_)
    obtain ⟨r8, hr8, hf⟩ := ob hf
    refine callS_i [.int r7] [] hC hH (c_J6_bitCount_0f7a4 l G A S6 r7 _ hr8) (va_cwS 1 hts gX9_keep_J6_bitCount_0f7a4 rfl rfl rfl (by decide +kernel) ⟨Nat.le_of_ble_eq_true rfl, Nat.le_of_ble_eq_true rfl⟩) rfl hl.1 rfl (Nat.le_of_ble_eq_true rfl) dX9_keep_35 (fun H locs hH => ?_)
    exact fin r8 S6 _ _ _ _ (congrArg Prod.fst (Option.some.inj hf)) (congrArg Prod.snd (Option.some.inj hf)) hH dX9_keep_38
  · replace hf := it_t c2 hf
    refine lv_iconst (v := -1) hx hb dX9_keep_7 (by decide) ?_
    exact fin (-1 : Int32) S _ _ _ _ (congrArg Prod.fst (Option.some.inj hf)) (congrArg Prod.snd (Option.some.inj hf)) hH dX9_keep_8
theorem in_X9_back_X0 : ∀ w ∈ wsX00, w ∈ wsX9_back := fun w h => List.mem_cons_of_mem _ (List.mem_append_left _ (List.mem_append_left _ (List.mem_append_right _ h)))
theorem in_X9_back_X2 : ∀ w ∈ wsX20, w ∈ wsX9_back := fun w h => List.mem_cons_of_mem _ (List.mem_append_left _ (List.mem_append_left _ (List.mem_append_left _ (List.mem_append_left _ (List.mem_append_right _ h)))))
theorem in_X9_back_X3 : ∀ w ∈ wsX30, w ∈ wsX9_back := fun w h => List.mem_cons_of_mem _ (List.mem_append_right _ h)
theorem in_X9_back_X7 : ∀ w ∈ wsX70, w ∈ wsX9_back := fun w h => List.mem_cons_of_mem _ (List.mem_append_left _ (List.mem_append_right _ h))
theorem in_X9_back_X9 : ∀ w ∈ wsX90, w ∈ wsX9_back := fun w h => List.mem_cons_of_mem _ (List.mem_append_left _ (List.mem_append_left _ (List.mem_append_left _ (List.mem_append_right _ h))))
set_option maxRecDepth 100000 in
set_option maxHeartbeats 4000000 in
theorem c_X9_back (l : Launch) (G : Gt) (A : Nat → Prop) (N : Nat) (S : St)  (a1 : Int32) (q : Int32 × St) (hf : f_X9_back N S a1 = some q) : Met l yX9_back wsX9_back ({ frames := 4, cells := 0, slots := 0, locals := 85 } : Room) (va_Pc [.ref (gC G 0), .int a1] (PK G A (CW G S))) (va_Qi (fun (r2 : Int32) S2 => r2 = q.1 ∧ S2 = q.2) (fun S2 : St => PK G A (CW G S2)) A) 0 0 A := by
  refine mstart_i (Wd := CW G) (cc := cX9_back) (maxL := 3) (by decide) rfl (Nat.le_of_ble_eq_true rfl) (fun p e s m below meth c Qm ls hC hH hl fin => ?_)
  obtain ⟨hx, hb, hml, hown, hts⟩ := id hC.1
  have hl : lv_has ls 3 [(0, .ref (gC G 0)), (1, .int a1)] := hl
  have hf := hf
  rw [f_X9_back] at hf
  refine lv_iload_n hx hb dX9_back_0 rfl (lv_at hl 1 rfl) ?_
  obtain ⟨r1, hr1, hf⟩ := ob hf
  refine callS_i [.int a1] [] hC hH (c_X9_isBit l G A S a1 _ hr1) (va_cwS 1 hts gX9_back_X9_isBit rfl rfl rfl (by decide +kernel) ⟨Nat.le_of_ble_eq_true rfl, Nat.le_of_ble_eq_true rfl⟩) rfl hl.1 rfl (Nat.le_of_ble_eq_true rfl) dX9_back_1 (fun H locs hH => ?_)
  refine lv_if_ne (tgt := 9) hx hb dX9_back_4 (by decide) (fun c2 => ?_) (fun c2 => ?_)
  · replace hf := it_f c2 hf
    refine lv_aload_n hx hb dX9_back_9 rfl (lv_at hl 0 rfl) ?_
    refine lv_iload_n hx hb dX9_back_10 rfl (lv_at hl 1 rfl) ?_
    obtain ⟨r3, hr3, hf⟩ := ob hf
    refine callV_r [.int a1] [] hC hH (c_X9_imageOf l G A S a1 _ hr3) (cwV 1 hts gX9_back_X9_imageOf rfl rfl rfl (by decide +kernel) ⟨Nat.le_of_ble_eq_true rfl, Nat.le_of_ble_eq_true rfl⟩) (recvW hC hH (c0 := 0) (ci := 9) rfl rfl) rfl hl.1 rfl (Nat.le_of_ble_eq_true rfl) dX9_back_11 (fun H locs hH => ?_)
    obtain ⟨g4, hf⟩ := gd hf
    refine lv_astore_n (lv' := [(2, .ref (gC G (8 + 5 * r3))), (0, .ref (gC G 0)), (1, .int a1)]) hx hb dX9_back_14 rfl hl (by decide) rfl (fun ls hl => ?_)
    refine lv_aload_n hx hb dX9_back_15 rfl (lv_at hl 0 rfl) ?_
    refine getN hC hH (8 + 5 * r3) (cw_imag (i := r3) (Nat.lt_of_not_le g4)) rfl in_X9_back_X2 1 (by decide) (index := 105) (List.mem_of_getElem? (i := 5) rfl) rfl dX9_back_16 ?_
    refine lv_if_ne (tgt := 25) hx hb dX9_back_19 (by decide) (fun c5 => ?_) (fun c5 => ?_)
    · replace hf := it_f c5 hf
      refine lv_aload_n hx hb dX9_back_25 rfl (lv_at hl 1 rfl) ?_
      refine getO hC hH (0) rfl rfl in_X9_back_X9 2 (by decide) (index := 24) (List.mem_of_getElem? (i := 1) rfl) rfl dX9_back_26 ?_
      refine lv_aload_n hx hb dX9_back_29 rfl (lv_at hl 0 rfl) ?_
      refine getN hC hH (8 + 5 * r3) (cw_imag (i := r3) (Nat.lt_of_not_le g4)) rfl in_X9_back_X2 0 (by decide) (index := 281) (List.mem_of_getElem? (i := 4) rfl) rfl dX9_back_30 ?_
      obtain ⟨r6, hr6, hf⟩ := ob hf
      refine callV_v [.ref (gC G (4 + 5 * (r3 + 1)))] [] hC hH (c_X7_copyFrom l G A N S 0 (by decide) (r3 + 1) (Nat.succ_lt_succ (Nat.lt_of_not_le g4)) _ hr6) (cwV 1 hts gX9_back_X7_copyFrom rfl rfl rfl (by decide +kernel) ⟨Nat.le_of_ble_eq_true rfl, Nat.le_of_ble_eq_true rfl⟩) (recvW hC hH (c0 := 4 + 5 * 0) (ci := 7) (cw_runs (i := 0) (by decide)) rfl) rfl hl.1 rfl (Nat.le_of_ble_eq_true rfl) dX9_back_33 (fun H locs hH => ?_)
      refine lv_aload_n hx hb dX9_back_36 rfl (lv_at hl 1 rfl) ?_
      refine getO hC hH (0) rfl rfl in_X9_back_X9 5 (by decide) (index := 41) (List.mem_of_getElem? (i := 2) rfl) rfl dX9_back_37 ?_
      refine lv_iconst (v := 0) hx hb dX9_back_40 (by decide) ?_
      refine putN hC hH (18) rfl rfl in_X9_back_X0 tyX0 tyX0_ok nmX0 4 (by decide) (index := 101) (List.mem_of_getElem? (i := 6) rfl) rfl rfl rfl (Nat.le_of_ble_eq_true rfl) cs_18_4 dX9_back_41 (fun H locs hH => ?_)
      obtain ⟨S7, eS7⟩ : ∃ Z : St, Z = sI r6 18 4 (0 : Int32) := ⟨_, rfl⟩
      rw [← eS7] at hH
      replace hf := bn eS7 hf
      refine lv_aload_n hx hb dX9_back_44 rfl (lv_at hl 1 rfl) ?_
      obtain ⟨r8, hr8, hf⟩ := ob hf
      refine callV_i [] [] hC hH (c_X9_homeBits l G A N S7 _ hr8) (cwV 0 hts gX9_back_X9_homeBits rfl rfl rfl (by decide +kernel) ⟨Nat.le_of_ble_eq_true rfl, Nat.le_of_ble_eq_true rfl⟩) (recvW hC hH (c0 := 0) (ci := 9) rfl rfl) rfl hl.1 rfl (Nat.le_of_ble_eq_true rfl) dX9_back_45 (fun H locs hH => ?_)
      obtain ⟨r9, hr9, hf⟩ := ob hf
      refine callS_i [.int r8] [] hC hH (c_J6_bitCount_0f7a4 l G A S7 r8 _ hr9) (va_cwS 1 hts gX9_back_J6_bitCount_0f7a4 rfl rfl rfl (by decide +kernel) ⟨Nat.le_of_ble_eq_true rfl, Nat.le_of_ble_eq_true rfl⟩) rfl hl.1 rfl (Nat.le_of_ble_eq_true rfl) dX9_back_48 (fun H locs hH => ?_)
      exact fin r9 S7 _ _ _ _ (congrArg Prod.fst (Option.some.inj hf)) (congrArg Prod.snd (Option.some.inj hf)) hH dX9_back_51
    · replace hf := it_t c5 hf
      refine lv_bipush (v := -2) hx hb dX9_back_22 (by decide) ?_
      exact fin (-2 : Int32) S _ _ _ _ (congrArg Prod.fst (Option.some.inj hf)) (congrArg Prod.snd (Option.some.inj hf)) hH dX9_back_24
  · replace hf := it_t c2 hf
    refine lv_iconst (v := -1) hx hb dX9_back_7 (by decide) ?_
    exact fin (-1 : Int32) S _ _ _ _ (congrArg Prod.fst (Option.some.inj hf)) (congrArg Prod.snd (Option.some.inj hf)) hH dX9_back_8
theorem in_X9_count_X0 : ∀ w ∈ wsX00, w ∈ wsX9_count := fun w h => List.mem_cons_of_mem _ (List.mem_append_left _ (List.mem_append_right _ h))
theorem in_X9_count_X3 : ∀ w ∈ wsX30, w ∈ wsX9_count := fun w h => List.mem_cons_of_mem _ (List.mem_append_left _ (List.mem_append_left _ (List.mem_append_left _ (List.mem_append_right _ h))))
theorem in_X9_count_X5 : ∀ w ∈ wsX50, w ∈ wsX9_count := fun w h => List.mem_cons_of_mem _ (List.mem_append_left _ (List.mem_append_left _ (List.mem_append_right _ h)))
theorem in_X9_count_X8 : ∀ w ∈ wsX80, w ∈ wsX9_count := fun w h => List.mem_cons_of_mem _ (List.mem_append_right _ h)
theorem in_X9_count_X9 : ∀ w ∈ wsX90, w ∈ wsX9_count := fun w h => List.mem_cons_of_mem _ (List.mem_append_left _ (List.mem_append_left _ (List.mem_append_left _ (List.mem_append_left _ (List.mem_append_right _ h)))))
set_option maxRecDepth 100000 in
set_option maxHeartbeats 4000000 in
theorem c_X9_count (l : Launch) (G : Gt) (A : Nat → Prop) (S : St)  (a1 : Int32) (q : Int32) (hf : f_X9_count S a1 = some q) : Met l yX9_count wsX9_count ({ frames := 0, cells := 0, slots := 0, locals := 0 } : Room) (va_Pc [.ref (gC G 0), .int a1] (PK G A (CW G S))) (va_Qi (fun (r2 : Int32) S2 => r2 = q ∧ S2 = S) (fun S2 : St => PK G A (CW G S2)) A) 0 0 A := by
  refine mstart_i (Wd := CW G) (cc := cX9_count) (maxL := 2) (by decide) rfl (Nat.le_of_ble_eq_true rfl) (fun p e s m below meth c Qm ls hC hH hl fin => ?_)
  obtain ⟨hx, hb, hml, hown, hts⟩ := id hC.1
  have hl : lv_has ls 2 [(0, .ref (gC G 0)), (1, .int a1)] := hl
  have hf := hf
  rw [f_X9_count] at hf
  refine lv_iload_n hx hb dX9_count_0 rfl (lv_at hl 1 rfl) ?_
  by_cases c1 : a1 = (0 : Int32)
  · replace hf := it_t c1 hf
    refine lv_tableIn (tgt := 32) hx hb dX9_count_1 (by rw [c1]; decide) (by rw [c1]; decide) (by rw [c1]; rfl) (by decide) ?_
    refine lv_aload_n hx hb dX9_count_32 rfl (lv_at hl 0 rfl) ?_
    refine getO hC hH (0) rfl rfl in_X9_count_X9 9 (by decide) (index := 69) (List.mem_of_getElem? (i := 1) rfl) rfl dX9_count_33 ?_
    refine getN hC hH (33 + 5 * (gCo S).toNat) (cw_lane (i := (gCo S).toNat) (Bool.toNat_lt _)) rfl in_X9_count_X3 5 (by decide) (index := 292) (List.mem_of_getElem? (i := 15) rfl) rfl dX9_count_36 ?_
    exact fin (gI S (33 + 5 * (gCo S).toNat) 5) S _ _ _ _ (Option.some.inj hf) rfl hH dX9_count_39
  replace hf := it_f c1 hf
  by_cases c2 : a1 = (1 : Int32)
  · replace hf := it_t c2 hf
    refine lv_tableIn (tgt := 40) hx hb dX9_count_1 (by rw [c2]; decide) (by rw [c2]; decide) (by rw [c2]; rfl) (by decide) ?_
    refine lv_aload_n hx hb dX9_count_40 rfl (lv_at hl 0 rfl) ?_
    refine getO hC hH (0) rfl rfl in_X9_count_X9 6 (by decide) (index := 48) (List.mem_of_getElem? (i := 2) rfl) rfl dX9_count_41 ?_
    refine getN hC hH (23) rfl rfl in_X9_count_X5 2 (by decide) (index := 104) (List.mem_of_getElem? (i := 7) rfl) rfl dX9_count_44 ?_
    exact fin (gI S 23 2) S _ _ _ _ (Option.some.inj hf) rfl hH dX9_count_47
  replace hf := it_f c2 hf
  by_cases c3 : a1 = (2 : Int32)
  · replace hf := it_t c3 hf
    refine lv_tableIn (tgt := 48) hx hb dX9_count_1 (by rw [c3]; decide) (by rw [c3]; decide) (by rw [c3]; rfl) (by decide) ?_
    refine lv_aload_n hx hb dX9_count_48 rfl (lv_at hl 0 rfl) ?_
    refine getO hC hH (0) rfl rfl in_X9_count_X9 5 (by decide) (index := 41) (List.mem_of_getElem? (i := 3) rfl) rfl dX9_count_49 ?_
    refine getN hC hH (18) rfl rfl in_X9_count_X0 4 (by decide) (index := 101) (List.mem_of_getElem? (i := 6) rfl) rfl dX9_count_52 ?_
    exact fin (gI S 18 4) S _ _ _ _ (Option.some.inj hf) rfl hH dX9_count_55
  replace hf := it_f c3 hf
  by_cases c4 : a1 = (3 : Int32)
  · replace hf := it_t c4 hf
    refine lv_tableIn (tgt := 56) hx hb dX9_count_1 (by rw [c4]; decide) (by rw [c4]; decide) (by rw [c4]; rfl) (by decide) ?_
    refine lv_aload_n hx hb dX9_count_56 rfl (lv_at hl 0 rfl) ?_
    refine getO hC hH (0) rfl rfl in_X9_count_X9 1 (by decide) (index := 20) (List.mem_of_getElem? (i := 4) rfl) rfl dX9_count_57 ?_
    refine getN hC hH (1) rfl rfl in_X9_count_X8 1 (by decide) (index := 80) (List.mem_of_getElem? (i := 0) rfl) rfl dX9_count_60 ?_
    exact fin (gI S 1 1) S _ _ _ _ (Option.some.inj hf) rfl hH dX9_count_63
  replace hf := it_f c4 hf
  refine lv_tableOut (tgt := 64) hx hb dX9_count_1 (by have z0 := lv_neT (a := 0) c1 (by decide); have z1 := lv_neT (a := 1) c2 (by decide); have z2 := lv_neT (a := 2) c3 (by decide); have z3 := lv_neT (a := 3) c4 (by decide); omega) (by decide) ?_
  refine lv_iconst (v := -1) hx hb dX9_count_64 (by decide) ?_
  exact fin (-1 : Int32) S _ _ _ _ (Option.some.inj hf) rfl hH dX9_count_65
theorem in_X9_trace_X9 : ∀ w ∈ wsX90, w ∈ wsX9_trace := fun w h => List.mem_cons_of_mem _ (List.mem_append_right _ h)
set_option maxRecDepth 100000 in
set_option maxHeartbeats 4000000 in
theorem c_X9_trace (l : Launch) (G : Gt) (A : Nat → Prop) (S : St)   (q : Int64) (hf : f_X9_trace S = some q) : Met l yX9_trace wsX9_trace ({ frames := 0, cells := 0, slots := 0, locals := 0 } : Room) (va_Pc [.ref (gC G 0)] (PK G A (CW G S))) (va_Ql (fun (r2 : Int64) S2 => r2 = q ∧ S2 = S) (fun S2 : St => PK G A (CW G S2)) A) 0 0 A := by
  refine mstart_l (Wd := CW G) (cc := cX9_trace) (maxL := 1) (by decide) rfl (Nat.le_of_ble_eq_true rfl) (fun p e s m below meth c Qm ls hC hH hl fin => ?_)
  obtain ⟨hx, hb, hml, hown, hts⟩ := id hC.1
  have hl : lv_has ls 1 [(0, .ref (gC G 0))] := hl
  have hf := hf
  rw [f_X9_trace] at hf
  refine lv_aload_n hx hb dX9_trace_0 rfl (lv_at hl 0 rfl) ?_
  refine getO hC hH (0) rfl rfl in_X9_trace_X9 11 (by decide) (index := 76) (List.mem_of_getElem? (i := 1) rfl) rfl dX9_trace_1 ?_
  exact fin (gJ S 0 11) S _ _ _ _ (Option.some.inj hf) rfl hH dX9_trace_4
set_option maxRecDepth 100000 in
set_option maxHeartbeats 4000000 in
theorem c_X10_in (l : Launch) (G : Gt) (A : Nat → Prop) (S : St)  (a0 : Int32) (a1 : Int32) (a2 : Int32) (q : Int32) (hf : f_X10_in a0 a1 a2 = some q) : Met l yX10_in wsX10_in ({ frames := 0, cells := 0, slots := 0, locals := 0 } : Room) (va_Pc [.int a0, .int a1, .int a2] (PK G A (MW G S))) (va_Qi (fun (r2 : Int32) S2 => r2 = q ∧ S2 = S) (fun S2 : St => PK G A (MW G S2)) A) 0 0 A := by
  refine mstart_z (ty := .boolean) (Wd := MW G) (cc := cX10_in) (maxL := 3) (by decide) rfl (Nat.le_of_ble_eq_true rfl) (fun p e s m below meth c Qm ls hC hH hl fin => ?_)
  obtain ⟨hx, hb, hml, hown, hts⟩ := id hC.1
  have hl : lv_has ls 3 [(0, .int a0), (1, .int a1), (2, .int a2)] := hl
  have hf := hf
  rw [f_X10_in] at hf
  refine lv_iload_n hx hb dX10_in_0 rfl (lv_at hl 0 rfl) ?_
  refine lv_iload_n hx hb dX10_in_1 rfl (lv_at hl 1 rfl) ?_
  refine lv_icmp_lt (tgt := 14) hx hb dX10_in_2 (by decide) (fun c1 => ?_) (fun c1 => ?_)
  · replace hf := it_t c1 hf
    refine lv_iconst (v := 0) hx hb dX10_in_14 (by decide) ?_
    exact fin (0 : Int32) S _ _ _ _ rfl (Option.some.inj hf) rfl hH dX10_in_15
  · replace hf := it_f c1 hf
    refine lv_iload_n hx hb dX10_in_5 rfl (lv_at hl 0 rfl) ?_
    refine lv_iload_n hx hb dX10_in_6 rfl (lv_at hl 2 rfl) ?_
    refine lv_icmp_gt (tgt := 14) hx hb dX10_in_7 (by decide) (fun c2 => ?_) (fun c2 => ?_)
    · replace hf := it_t c2 hf
      refine lv_iconst (v := 0) hx hb dX10_in_14 (by decide) ?_
      exact fin (0 : Int32) S _ _ _ _ rfl (Option.some.inj hf) rfl hH dX10_in_15
    · replace hf := it_f c2 hf
      refine lv_iconst (v := 1) hx hb dX10_in_10 (by decide) ?_
      refine lv_goto (tgt := 15) hx hb dX10_in_11 (by decide) ?_
      exact fin (1 : Int32) S _ _ _ _ rfl (Option.some.inj hf) rfl hH dX10_in_15
theorem in_X10_type_X10 : ∀ w ∈ wsX100, w ∈ wsX10_type := fun w h => List.mem_cons_of_mem _ (List.mem_append_right _ h)
set_option maxRecDepth 100000 in
set_option maxHeartbeats 4000000 in
theorem c_X10_type (l : Launch) (G : Gt) (A : Nat → Prop) (N : Nat) (S : St)  (a1 : Int64) (a3 : Int32) (q : Int32 × St) (hf : f_X10_type N S a1 a3 = some q) : Met l yX10_type wsX10_type ({ frames := 1, cells := 0, slots := 0, locals := 22 } : Room) (va_Pc [.ref (gM G 0), .long a1, .int a3] (PK G A (MW G S))) (va_Qi (fun (r2 : Int32) S2 => r2 = q.1 ∧ S2 = q.2) (fun S2 : St => PK G A (MW G S2)) A) 0 0 A := by
  refine mstart_i (Wd := MW G) (cc := cX10_type) (maxL := 5) (by decide) rfl (Nat.le_of_ble_eq_true rfl) (fun p e s m below meth c Qm ls hC hH hl fin => ?_)
  obtain ⟨hx, hb, hml, hown, hts⟩ := id hC.1
  have hl : lv_has ls 5 [(0, .ref (gM G 0)), (1, .long a1), (3, .int a3)] := hl
  have kL37 : ∀ (n : Nat), ∀ (S : St) (x4 : Int32) (H : Heap) (locs : List Loc) (ls : Array Slot), HW G A (MW G S) s H locs → lv_has ls 5 [(0, .ref (gM G 0)), (1, .long a1), (4, .int x4)] → g_X10_type_37 N a1 n S x4 = some q → W p l e ({ frames := 1, cells := 0, slots := 0, locals := 22 } : Room) s m [.ref (gM G 0), .long a1, .int a3].toArray below meth c H locs 0 0 Qm (F0 m 37 ls []) := by
    intro n
    induction n with
    | zero => intro S x4 H locs ls hH hl hf; exact absurd hf.symm (Option.some_ne_none q)
    | succ n ih =>
      intro S x4 H locs ls hH hl hf
      have hrec := ih
      have hf : s_X10_type_37 N a1 (g_X10_type_37 N a1 n) S x4 = some q := hf
      rw [s_X10_type_37] at hf
      refine lv_iload hx hb dX10_type_37 (lv_at hl 2 rfl) ?_
      refine lv_if_lt (tgt := 79) hx hb dX10_type_39 (by decide) (fun c6 => ?_) (fun c6 => ?_)
      · replace hf := it_t c6 hf
        refine lv_aload_n hx hb dX10_type_79 rfl (lv_at hl 0 rfl) ?_
        refine getO hC hH (0) rfl rfl in_X10_type_X10 3 (by decide) (index := 65) (List.mem_of_getElem? (i := 2) rfl) rfl dX10_type_80 ?_
        exact fin (gI S 0 3) S _ _ _ _ (congrArg Prod.fst (Option.some.inj hf)) (congrArg Prod.snd (Option.some.inj hf)) hH dX10_type_83
      · replace hf := it_f c6 hf
        refine lv_aload_n hx hb dX10_type_42 rfl (lv_at hl 0 rfl) ?_
        refine getO hC hH (0) rfl rfl in_X10_type_X10 2 (by decide) (index := 7) (List.mem_of_getElem? (i := 3) rfl) rfl dX10_type_43 ?_
        refine lv_aload_n hx hb dX10_type_46 rfl (lv_at hl 0 rfl) ?_
        refine getO hC hH (0) rfl rfl in_X10_type_X10 3 (by decide) (index := 65) (List.mem_of_getElem? (i := 2) rfl) rfl dX10_type_47 ?_
        refine lv_lload_n hx hb dX10_type_50 rfl (lv_at hl 1 rfl) ?_
        refine lv_bipush (v := 8) hx hb dX10_type_51 (by decide) ?_
        refine lv_iload hx hb dX10_type_53 (lv_at hl 2 rfl) ?_
        refine lv_imul hx hb dX10_type_55 ?_
        refine lv_lshr hx hb dX10_type_56 rfl ?_
        refine lv_ldc2 (v := 255) hx hb hown (hts (.constantLong RX10 68 (255)) (List.mem_of_getElem? (i := 4) rfl)) dX10_type_57 ?_
        refine lv_land hx hb dX10_type_60 ?_
        refine lv_l2i hx hb dX10_type_61 rfl ?_
        obtain ⟨g7, hf⟩ := gd hf
        refine astI hC hH (1) rfl g7 mt_1 dX10_type_62 (fun H locs hH => ?_)
        obtain ⟨S8, eS8⟩ : ∃ Z : St, Z = sA S 1 (upd (gA S 1) (gI S 0 3).toNatClampNeg (((a1 >>> (((8 : Int32) * x4).toInt64 &&& 63)) &&& (255 : Int64)).toInt32)) := ⟨_, rfl⟩
        rw [← eS8] at hH
        replace hf := bn eS8 hf
        refine lv_aload_n hx hb dX10_type_63 rfl (lv_at hl 0 rfl) ?_
        refine lv_dup hx hb dX10_type_64 rfl ?_
        refine getO hC hH (0) rfl rfl in_X10_type_X10 3 (by decide) (index := 65) (List.mem_of_getElem? (i := 2) rfl) rfl dX10_type_65 ?_
        refine lv_iconst (v := 1) hx hb dX10_type_68 (by decide) ?_
        refine lv_iadd hx hb dX10_type_69 ?_
        refine putO hC hH (0) rfl rfl in_X10_type_X10 tyX10 tyX10_ok nmX10 3 (by decide) (index := 65) (List.mem_of_getElem? (i := 2) rfl) rfl rfl rfl (Nat.le_of_ble_eq_true rfl) ms_0_3 dX10_type_70 (fun H locs hH => ?_)
        obtain ⟨S9, eS9⟩ : ∃ Z : St, Z = sI S8 0 3 ((gI S8 0 3) + (1 : Int32)) := ⟨_, rfl⟩
        rw [← eS9] at hH
        replace hf := bn eS9 hf
        refine lv_iinc (v := x4 + (-1 : Int32)) (lv' := [(4, .int (x4 + (-1 : Int32))), (0, .ref (gM G 0)), (1, .long a1)]) hx hb dX10_type_73 hl (k := 2) rfl rfl (by decide) rfl (fun ls hl => ?_)
        refine lv_goto (tgt := 37) hx hb dX10_type_76 (by decide) ?_
        exact hrec S9 (x4 + (-1 : Int32)) _ _ _ hH (lv_sub hl [1, 2, 0] rfl) hf
  have hf := hf
  rw [f_X10_type] at hf
  refine lv_aload_n hx hb dX10_type_0 rfl (lv_at hl 0 rfl) ?_
  refine lv_iconst (v := 0) hx hb dX10_type_1 (by decide) ?_
  refine putO hC hH (0) rfl rfl in_X10_type_X10 tyX10 tyX10_ok nmX10 0 (by decide) (index := 58) (List.mem_of_getElem? (i := 1) rfl) rfl rfl rfl (Nat.le_of_ble_eq_true rfl) ms_0_0 dX10_type_2 (fun H locs hH => ?_)
  obtain ⟨S1, eS1⟩ : ∃ Z : St, Z = sI S 0 0 (0 : Int32) := ⟨_, rfl⟩
  rw [← eS1] at hH
  replace hf := bn eS1 hf
  refine lv_iload_n hx hb dX10_type_5 rfl (lv_at hl 2 rfl) ?_
  refine lv_iconst (v := 1) hx hb dX10_type_6 (by decide) ?_
  refine lv_bipush (v := 8) hx hb dX10_type_7 (by decide) ?_
  obtain ⟨r2, hr2, hf⟩ := ob hf
  refine callS_i [.int a3, .int (1 : Int32), .int (8 : Int32)] [] hC hH (c_X10_in l G A S1 a3 (1 : Int32) (8 : Int32) _ hr2) (va_cwS 3 hts gX10_type_X10_in rfl rfl rfl (by decide +kernel) ⟨Nat.le_of_ble_eq_true rfl, Nat.le_of_ble_eq_true rfl⟩) rfl hl.1 rfl (Nat.le_of_ble_eq_true rfl) dX10_type_9 (fun H locs hH => ?_)
  refine lv_if_ne (tgt := 17) hx hb dX10_type_12 (by decide) (fun c3 => ?_) (fun c3 => ?_)
  · replace hf := it_f c3 hf
    refine lv_aload_n hx hb dX10_type_17 rfl (lv_at hl 0 rfl) ?_
    refine getO hC hH (0) rfl rfl in_X10_type_X10 3 (by decide) (index := 65) (List.mem_of_getElem? (i := 2) rfl) rfl dX10_type_18 ?_
    refine lv_iload_n hx hb dX10_type_21 rfl (lv_at hl 2 rfl) ?_
    refine lv_iadd hx hb dX10_type_22 ?_
    refine lv_sipush (v := 300) hx hb dX10_type_23 (by decide) ?_
    refine lv_icmp_le (tgt := 32) hx hb dX10_type_26 (by decide) (fun c4 => ?_) (fun c4 => ?_)
    · replace hf := it_t c4 hf
      refine lv_iload_n hx hb dX10_type_32 rfl (lv_at hl 2 rfl) ?_
      refine lv_iconst (v := 1) hx hb dX10_type_33 (by decide) ?_
      refine lv_isub hx hb dX10_type_34 ?_
      refine lv_topi (fun b5 eb5 => ?_)
      replace hf := bn eb5 hf
      refine lv_istore (lv' := [(4, .int b5), (0, .ref (gM G 0)), (1, .long a1), (3, .int a3)]) hx hb dX10_type_35 hl (by decide) rfl (fun ls hl => ?_)
      refine kL37 N S1 b5 _ _ _ hH (lv_sub hl [1, 2, 0] rfl) hf
    · replace hf := it_f c4 hf
      refine lv_bipush (v := -3) hx hb dX10_type_29 (by decide) ?_
      exact fin (-3 : Int32) S1 _ _ _ _ (congrArg Prod.fst (Option.some.inj hf)) (congrArg Prod.snd (Option.some.inj hf)) hH dX10_type_31
  · replace hf := it_t c3 hf
    refine lv_iconst (v := -1) hx hb dX10_type_15 (by decide) ?_
    exact fin (-1 : Int32) S1 _ _ _ _ (congrArg Prod.fst (Option.some.inj hf)) (congrArg Prod.snd (Option.some.inj hf)) hH dX10_type_16
theorem in_X10_clear_X10 : ∀ w ∈ wsX100, w ∈ wsX10_clear := fun w h => List.mem_cons_of_mem _ (List.mem_append_right _ h)
set_option maxRecDepth 100000 in
set_option maxHeartbeats 4000000 in
theorem c_X10_clear (l : Launch) (G : Gt) (A : Nat → Prop) (S : St)   (q : Int32 × St) (hf : f_X10_clear S = some q) : Met l yX10_clear wsX10_clear ({ frames := 0, cells := 0, slots := 0, locals := 0 } : Room) (va_Pc [.ref (gM G 0)] (PK G A (MW G S))) (va_Qi (fun (r2 : Int32) S2 => r2 = q.1 ∧ S2 = q.2) (fun S2 : St => PK G A (MW G S2)) A) 0 0 A := by
  refine mstart_i (Wd := MW G) (cc := cX10_clear) (maxL := 2) (by decide) rfl (Nat.le_of_ble_eq_true rfl) (fun p e s m below meth c Qm ls hC hH hl fin => ?_)
  obtain ⟨hx, hb, hml, hown, hts⟩ := id hC.1
  have hl : lv_has ls 2 [(0, .ref (gM G 0))] := hl
  have hf := hf
  rw [f_X10_clear] at hf
  refine lv_aload_n hx hb dX10_clear_0 rfl (lv_at hl 0 rfl) ?_
  refine lv_iconst (v := 0) hx hb dX10_clear_1 (by decide) ?_
  refine putO hC hH (0) rfl rfl in_X10_clear_X10 tyX10 tyX10_ok nmX10 0 (by decide) (index := 58) (List.mem_of_getElem? (i := 1) rfl) rfl rfl rfl (Nat.le_of_ble_eq_true rfl) ms_0_0 dX10_clear_2 (fun H locs hH => ?_)
  obtain ⟨S1, eS1⟩ : ∃ Z : St, Z = sI S 0 0 (0 : Int32) := ⟨_, rfl⟩
  rw [← eS1] at hH
  replace hf := bn eS1 hf
  refine lv_aload_n hx hb dX10_clear_5 rfl (lv_at hl 0 rfl) ?_
  refine getO hC hH (0) rfl rfl in_X10_clear_X10 3 (by decide) (index := 65) (List.mem_of_getElem? (i := 2) rfl) rfl dX10_clear_6 ?_
  refine lv_topi (fun b2 eb2 => ?_)
  replace hf := bn eb2 hf
  refine lv_istore_n (lv' := [(1, .int b2), (0, .ref (gM G 0))]) hx hb dX10_clear_9 rfl hl (by decide) rfl (fun ls hl => ?_)
  refine lv_aload_n hx hb dX10_clear_10 rfl (lv_at hl 1 rfl) ?_
  refine lv_iconst (v := 0) hx hb dX10_clear_11 (by decide) ?_
  refine putO hC hH (0) rfl rfl in_X10_clear_X10 tyX10 tyX10_ok nmX10 3 (by decide) (index := 65) (List.mem_of_getElem? (i := 2) rfl) rfl rfl rfl (Nat.le_of_ble_eq_true rfl) ms_0_3 dX10_clear_12 (fun H locs hH => ?_)
  obtain ⟨S3, eS3⟩ : ∃ Z : St, Z = sI S1 0 3 (0 : Int32) := ⟨_, rfl⟩
  rw [← eS3] at hH
  replace hf := bn eS3 hf
  refine lv_iload_n hx hb dX10_clear_15 rfl (lv_at hl 0 rfl) ?_
  exact fin b2 S3 _ _ _ _ (congrArg Prod.fst (Option.some.inj hf)) (congrArg Prod.snd (Option.some.inj hf)) hH dX10_clear_16
