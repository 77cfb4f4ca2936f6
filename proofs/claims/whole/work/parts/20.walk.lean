/-! walks: X10_isRunner X10_isToss X10_yard X10_told X10_isHome X10_runner X10_reckons X10_comes X10_bestOf X10_sureOf -/
theorem in_X10_isRunner_X10 : ∀ w ∈ wsX100, w ∈ wsX10_isRunner := fun w h => List.mem_cons_of_mem _ (List.mem_append_right _ h)
set_option maxRecDepth 100000 in
set_option maxHeartbeats 4000000 in
theorem c_X10_isRunner (l : Launch) (G : Gt) (A : Nat → Prop) (S : St)  (a1 : Int32) (q : Int32) (hf : f_X10_isRunner S a1 = some q) : Met l yX10_isRunner wsX10_isRunner ({ frames := 1, cells := 0, slots := 0, locals := 22 } : Room) (va_Pc [.ref (gM G 0), .int a1] (PK G A (MW G S))) (va_Qi (fun (r2 : Int32) S2 => r2 = q ∧ S2 = S) (fun S2 : St => PK G A (MW G S2)) A) 0 0 A := by
  refine mstart_z (ty := .boolean) (Wd := MW G) (cc := cX10_isRunner) (maxL := 2) (by decide) rfl (Nat.le_of_ble_eq_true rfl) (fun p e s m below meth c Qm ls hC hH hl fin => ?_)
  obtain ⟨hx, hb, hml, hown, hts⟩ := id hC.1
  have hl : lv_has ls 2 [(0, .ref (gM G 0)), (1, .int a1)] := hl
  have hf := hf
  rw [f_X10_isRunner] at hf
  refine lv_iload_n hx hb dX10_isRunner_0 rfl (lv_at hl 1 rfl) ?_
  refine lv_iconst (v := 0) hx hb dX10_isRunner_1 (by decide) ?_
  refine lv_aload_n hx hb dX10_isRunner_2 rfl (lv_at hl 0 rfl) ?_
  refine getO hC hH (0) rfl rfl in_X10_isRunner_X10 15 (by decide) (index := 135) (List.mem_of_getElem? (i := 1) rfl) rfl dX10_isRunner_3 ?_
  refine lv_iconst (v := 1) hx hb dX10_isRunner_6 (by decide) ?_
  refine lv_isub hx hb dX10_isRunner_7 ?_
  obtain ⟨r1, hr1, hf⟩ := ob hf
  refine callS_i [.int a1, .int (0 : Int32), .int ((gI S 0 15) - (1 : Int32))] [] hC hH (c_X10_in l G A S a1 (0 : Int32) ((gI S 0 15) - (1 : Int32)) _ hr1) (va_cwS 3 hts gX10_isRunner_X10_in rfl rfl rfl (by decide +kernel) ⟨Nat.le_of_ble_eq_true rfl, Nat.le_of_ble_eq_true rfl⟩) rfl hl.1 rfl (Nat.le_of_ble_eq_true rfl) dX10_isRunner_8 (fun H locs hH => ?_)
  obtain ⟨g2, hf⟩ := gd hf
  exact fin r1 S _ _ _ _ (congrArg Value.int (Decidable.not_not.mp g2)) (Option.some.inj hf) rfl hH dX10_isRunner_11
set_option maxRecDepth 100000 in
set_option maxHeartbeats 4000000 in
theorem c_X10_isToss (l : Launch) (G : Gt) (A : Nat → Prop) (S : St)  (a0 : Int32) (a1 : Int32) (a2 : Int32) (a3 : Int32) (q : Int32) (hf : f_X10_isToss a0 a1 a2 a3 = some q) : Met l yX10_isToss wsX10_isToss ({ frames := 1, cells := 0, slots := 0, locals := 22 } : Room) (va_Pc [.int a0, .int a1, .int a2, .int a3] (PK G A (MW G S))) (va_Qi (fun (r2 : Int32) S2 => r2 = q ∧ S2 = S) (fun S2 : St => PK G A (MW G S2)) A) 0 0 A := by
  refine mstart_z (ty := .boolean) (Wd := MW G) (cc := cX10_isToss) (maxL := 4) (by decide) rfl (Nat.le_of_ble_eq_true rfl) (fun p e s m below meth c Qm ls hC hH hl fin => ?_)
  obtain ⟨hx, hb, hml, hown, hts⟩ := id hC.1
  have hl : lv_has ls 4 [(0, .int a0), (1, .int a1), (2, .int a2), (3, .int a3)] := hl
  have hf := hf
  rw [f_X10_isToss] at hf
  refine lv_iload_n hx hb dX10_isToss_0 rfl (lv_at hl 0 rfl) ?_
  refine lv_iconst (v := 1) hx hb dX10_isToss_1 (by decide) ?_
  refine lv_iconst (v := 4) hx hb dX10_isToss_2 (by decide) ?_
  obtain ⟨r1, hr1, hf⟩ := ob hf
  refine callS_i [.int a0, .int (1 : Int32), .int (4 : Int32)] [] hC hH (c_X10_in l G A S a0 (1 : Int32) (4 : Int32) _ hr1) (va_cwS 3 hts gX10_isToss_X10_in rfl rfl rfl (by decide +kernel) ⟨Nat.le_of_ble_eq_true rfl, Nat.le_of_ble_eq_true rfl⟩) rfl hl.1 rfl (Nat.le_of_ble_eq_true rfl) dX10_isToss_3 (fun H locs hH => ?_)
  refine lv_if_eq (tgt := 42) hx hb dX10_isToss_6 (by decide) (fun c2 => ?_) (fun c2 => ?_)
  · replace hf := it_t c2 hf
    refine lv_iconst (v := 0) hx hb dX10_isToss_42 (by decide) ?_
    exact fin (0 : Int32) S _ _ _ _ rfl (Option.some.inj hf) rfl hH dX10_isToss_43
  · replace hf := it_f c2 hf
    refine lv_iload_n hx hb dX10_isToss_9 rfl (lv_at hl 1 rfl) ?_
    refine lv_iconst (v := 0) hx hb dX10_isToss_10 (by decide) ?_
    refine lv_bipush (v := 9) hx hb dX10_isToss_11 (by decide) ?_
    obtain ⟨r3, hr3, hf⟩ := ob hf
    refine callS_i [.int a1, .int (0 : Int32), .int (9 : Int32)] [] hC hH (c_X10_in l G A S a1 (0 : Int32) (9 : Int32) _ hr3) (va_cwS 3 hts gX10_isToss_X10_in rfl rfl rfl (by decide +kernel) ⟨Nat.le_of_ble_eq_true rfl, Nat.le_of_ble_eq_true rfl⟩) rfl hl.1 rfl (Nat.le_of_ble_eq_true rfl) dX10_isToss_13 (fun H locs hH => ?_)
    refine lv_if_eq (tgt := 42) hx hb dX10_isToss_16 (by decide) (fun c4 => ?_) (fun c4 => ?_)
    · replace hf := it_t c4 hf
      refine lv_iconst (v := 0) hx hb dX10_isToss_42 (by decide) ?_
      exact fin (0 : Int32) S _ _ _ _ rfl (Option.some.inj hf) rfl hH dX10_isToss_43
    · replace hf := it_f c4 hf
      refine lv_iload_n hx hb dX10_isToss_19 rfl (lv_at hl 2 rfl) ?_
      refine lv_iconst (v := 0) hx hb dX10_isToss_20 (by decide) ?_
      refine lv_bipush (v := 7) hx hb dX10_isToss_21 (by decide) ?_
      obtain ⟨r5, hr5, hf⟩ := ob hf
      refine callS_i [.int a2, .int (0 : Int32), .int (7 : Int32)] [] hC hH (c_X10_in l G A S a2 (0 : Int32) (7 : Int32) _ hr5) (va_cwS 3 hts gX10_isToss_X10_in rfl rfl rfl (by decide +kernel) ⟨Nat.le_of_ble_eq_true rfl, Nat.le_of_ble_eq_true rfl⟩) rfl hl.1 rfl (Nat.le_of_ble_eq_true rfl) dX10_isToss_23 (fun H locs hH => ?_)
      refine lv_if_eq (tgt := 42) hx hb dX10_isToss_26 (by decide) (fun c6 => ?_) (fun c6 => ?_)
      · replace hf := it_t c6 hf
        refine lv_iconst (v := 0) hx hb dX10_isToss_42 (by decide) ?_
        exact fin (0 : Int32) S _ _ _ _ rfl (Option.some.inj hf) rfl hH dX10_isToss_43
      · replace hf := it_f c6 hf
        refine lv_iload_n hx hb dX10_isToss_29 rfl (lv_at hl 3 rfl) ?_
        refine lv_iconst (v := 0) hx hb dX10_isToss_30 (by decide) ?_
        refine lv_iconst (v := 1) hx hb dX10_isToss_31 (by decide) ?_
        obtain ⟨r7, hr7, hf⟩ := ob hf
        refine callS_i [.int a3, .int (0 : Int32), .int (1 : Int32)] [] hC hH (c_X10_in l G A S a3 (0 : Int32) (1 : Int32) _ hr7) (va_cwS 3 hts gX10_isToss_X10_in rfl rfl rfl (by decide +kernel) ⟨Nat.le_of_ble_eq_true rfl, Nat.le_of_ble_eq_true rfl⟩) rfl hl.1 rfl (Nat.le_of_ble_eq_true rfl) dX10_isToss_32 (fun H locs hH => ?_)
        refine lv_if_eq (tgt := 42) hx hb dX10_isToss_35 (by decide) (fun c8 => ?_) (fun c8 => ?_)
        · replace hf := it_t c8 hf
          refine lv_iconst (v := 0) hx hb dX10_isToss_42 (by decide) ?_
          exact fin (0 : Int32) S _ _ _ _ rfl (Option.some.inj hf) rfl hH dX10_isToss_43
        · replace hf := it_f c8 hf
          refine lv_iconst (v := 1) hx hb dX10_isToss_38 (by decide) ?_
          refine lv_goto (tgt := 43) hx hb dX10_isToss_39 (by decide) ?_
          exact fin (1 : Int32) S _ _ _ _ rfl (Option.some.inj hf) rfl hH dX10_isToss_43
theorem in_X10_yard_X10 : ∀ w ∈ wsX100, w ∈ wsX10_yard := fun w h => List.mem_cons_of_mem _ (List.mem_append_right _ h)
set_option maxRecDepth 100000 in
set_option maxHeartbeats 4000000 in
theorem c_X10_yard (l : Launch) (G : Gt) (A : Nat → Prop) (S : St)  (a1 : Int32) (a2 : Int32) (q : Int32 × St) (hf : f_X10_yard S a1 a2 = some q) : Met l yX10_yard wsX10_yard ({ frames := 2, cells := 0, slots := 0, locals := 43 } : Room) (va_Pc [.ref (gM G 0), .int a1, .int a2] (PK G A (MW G S))) (va_Qi (fun (r2 : Int32) S2 => r2 = q.1 ∧ S2 = q.2) (fun S2 : St => PK G A (MW G S2)) A) 0 0 A := by
  refine mstart_i (Wd := MW G) (cc := cX10_yard) (maxL := 3) (by decide) rfl (Nat.le_of_ble_eq_true rfl) (fun p e s m below meth c Qm ls hC hH hl fin => ?_)
  obtain ⟨hx, hb, hml, hown, hts⟩ := id hC.1
  have hl : lv_has ls 3 [(0, .ref (gM G 0)), (1, .int a1), (2, .int a2)] := hl
  have hf := hf
  rw [f_X10_yard] at hf
  refine lv_aload_n hx hb dX10_yard_0 rfl (lv_at hl 0 rfl) ?_
  refine lv_iconst (v := 0) hx hb dX10_yard_1 (by decide) ?_
  refine putO hC hH (0) rfl rfl in_X10_yard_X10 tyX10 tyX10_ok nmX10 0 (by decide) (index := 58) (List.mem_of_getElem? (i := 1) rfl) rfl rfl rfl (Nat.le_of_ble_eq_true rfl) ms_0_0 dX10_yard_2 (fun H locs hH => ?_)
  obtain ⟨S1, eS1⟩ : ∃ Z : St, Z = sI S 0 0 (0 : Int32) := ⟨_, rfl⟩
  rw [← eS1] at hH
  replace hf := bn eS1 hf
  refine lv_aload_n hx hb dX10_yard_5 rfl (lv_at hl 0 rfl) ?_
  refine lv_iload_n hx hb dX10_yard_6 rfl (lv_at hl 1 rfl) ?_
  obtain ⟨r2, hr2, hf⟩ := ob hf
  refine callV_i [.int a1] [] hC hH (c_X10_isYard l G A S1 a1 _ hr2) (cwV 1 hts gX10_yard_X10_isYard rfl rfl rfl (by decide +kernel) ⟨Nat.le_of_ble_eq_true rfl, Nat.le_of_ble_eq_true rfl⟩) (recvW hC hH (c0 := 0) (ci := 10) rfl rfl) rfl hl.1 rfl (Nat.le_of_ble_eq_true rfl) dX10_yard_7 (fun H locs hH => ?_)
  refine lv_if_eq (tgt := 44) hx hb dX10_yard_10 (by decide) (fun c3 => ?_) (fun c3 => ?_)
  · replace hf := it_t c3 hf
    refine lv_iconst (v := -1) hx hb dX10_yard_44 (by decide) ?_
    exact fin (-1 : Int32) S1 _ _ _ _ (congrArg Prod.fst (Option.some.inj hf)) (congrArg Prod.snd (Option.some.inj hf)) hH dX10_yard_45
  · replace hf := it_f c3 hf
    refine lv_iload_n hx hb dX10_yard_13 rfl (lv_at hl 2 rfl) ?_
    refine lv_iconst (v := 0) hx hb dX10_yard_14 (by decide) ?_
    refine lv_iconst (v := 1) hx hb dX10_yard_15 (by decide) ?_
    obtain ⟨r4, hr4, hf⟩ := ob hf
    refine callS_i [.int a2, .int (0 : Int32), .int (1 : Int32)] [] hC hH (c_X10_in l G A S1 a2 (0 : Int32) (1 : Int32) _ hr4) (va_cwS 3 hts gX10_yard_X10_in rfl rfl rfl (by decide +kernel) ⟨Nat.le_of_ble_eq_true rfl, Nat.le_of_ble_eq_true rfl⟩) rfl hl.1 rfl (Nat.le_of_ble_eq_true rfl) dX10_yard_16 (fun H locs hH => ?_)
    refine lv_if_eq (tgt := 44) hx hb dX10_yard_19 (by decide) (fun c5 => ?_) (fun c5 => ?_)
    · replace hf := it_t c5 hf
      refine lv_iconst (v := -1) hx hb dX10_yard_44 (by decide) ?_
      exact fin (-1 : Int32) S1 _ _ _ _ (congrArg Prod.fst (Option.some.inj hf)) (congrArg Prod.snd (Option.some.inj hf)) hH dX10_yard_45
    · replace hf := it_f c5 hf
      refine lv_iload_n hx hb dX10_yard_22 rfl (lv_at hl 2 rfl) ?_
      refine lv_if_ne (tgt := 35) hx hb dX10_yard_23 (by decide) (fun c6 => ?_) (fun c6 => ?_)
      · replace hf := it_f c6 hf
        refine lv_aload_n hx hb dX10_yard_35 rfl (lv_at hl 0 rfl) ?_
        refine getO hC hH (0) rfl rfl in_X10_yard_X10 10 (by decide) (index := 16) (List.mem_of_getElem? (i := 3) rfl) rfl dX10_yard_36 ?_
        refine lv_iload_n hx hb dX10_yard_39 rfl (lv_at hl 1 rfl) ?_
        obtain ⟨g7, hf⟩ := gd hf
        refine aldI hC hH (3) rfl g7 dX10_yard_40 ?_
        refine lv_goto (tgt := 45) hx hb dX10_yard_41 (by decide) ?_
        have hz : (gA S1 3 a1.toNatClampNeg, S1) = q := Option.some.inj hf
        have hz1 := congrArg Prod.fst hz
        have hz2 := congrArg Prod.snd hz
        exact fin (gA S1 3 a1.toNatClampNeg) S1 _ _ _ _ hz1 hz2 hH dX10_yard_45
      · replace hf := it_t c6 hf
        refine lv_aload_n hx hb dX10_yard_26 rfl (lv_at hl 0 rfl) ?_
        refine getO hC hH (0) rfl rfl in_X10_yard_X10 9 (by decide) (index := 13) (List.mem_of_getElem? (i := 2) rfl) rfl dX10_yard_27 ?_
        refine lv_iload_n hx hb dX10_yard_30 rfl (lv_at hl 1 rfl) ?_
        obtain ⟨g8, hf⟩ := gd hf
        refine aldI hC hH (2) rfl g8 dX10_yard_31 ?_
        refine lv_goto (tgt := 45) hx hb dX10_yard_32 (by decide) ?_
        have hz : (gA S1 2 a1.toNatClampNeg, S1) = q := Option.some.inj hf
        have hz1 := congrArg Prod.fst hz
        have hz2 := congrArg Prod.snd hz
        exact fin (gA S1 2 a1.toNatClampNeg) S1 _ _ _ _ hz1 hz2 hH dX10_yard_45
theorem in_X10_told_X10 : ∀ w ∈ wsX100, w ∈ wsX10_told := fun w h => List.mem_cons_of_mem _ (List.mem_append_right _ h)
set_option maxRecDepth 100000 in
set_option maxHeartbeats 4000000 in
theorem c_X10_told (l : Launch) (G : Gt) (A : Nat → Prop) (S : St)  (a1 : Int32) (q : Int32 × St) (hf : f_X10_told S a1 = some q) : Met l yX10_told wsX10_told ({ frames := 1, cells := 0, slots := 0, locals := 22 } : Room) (va_Pc [.ref (gM G 0), .int a1] (PK G A (MW G S))) (va_Qi (fun (r2 : Int32) S2 => r2 = q.1 ∧ S2 = q.2) (fun S2 : St => PK G A (MW G S2)) A) 0 0 A := by
  refine mstart_i (Wd := MW G) (cc := cX10_told) (maxL := 2) (by decide) rfl (Nat.le_of_ble_eq_true rfl) (fun p e s m below meth c Qm ls hC hH hl fin => ?_)
  obtain ⟨hx, hb, hml, hown, hts⟩ := id hC.1
  have hl : lv_has ls 2 [(0, .ref (gM G 0)), (1, .int a1)] := hl
  have hf := hf
  rw [f_X10_told] at hf
  refine lv_aload_n hx hb dX10_told_0 rfl (lv_at hl 0 rfl) ?_
  refine lv_iconst (v := 0) hx hb dX10_told_1 (by decide) ?_
  refine putO hC hH (0) rfl rfl in_X10_told_X10 tyX10 tyX10_ok nmX10 0 (by decide) (index := 58) (List.mem_of_getElem? (i := 1) rfl) rfl rfl rfl (Nat.le_of_ble_eq_true rfl) ms_0_0 dX10_told_2 (fun H locs hH => ?_)
  obtain ⟨S1, eS1⟩ : ∃ Z : St, Z = sI S 0 0 (0 : Int32) := ⟨_, rfl⟩
  rw [← eS1] at hH
  replace hf := bn eS1 hf
  refine lv_iload_n hx hb dX10_told_5 rfl (lv_at hl 1 rfl) ?_
  refine lv_if_ne (tgt := 16) hx hb dX10_told_6 (by decide) (fun c2 => ?_) (fun c2 => ?_)
  · replace hf := it_f c2 hf
    refine lv_iload_n hx hb dX10_told_16 rfl (lv_at hl 1 rfl) ?_
    refine lv_iconst (v := 1) hx hb dX10_told_17 (by decide) ?_
    refine lv_iconst (v := 3) hx hb dX10_told_18 (by decide) ?_
    obtain ⟨r3, hr3, hf⟩ := ob hf
    refine callS_i [.int a1, .int (1 : Int32), .int (3 : Int32)] [] hC hH (c_X10_in l G A S1 a1 (1 : Int32) (3 : Int32) _ hr3) (va_cwS 3 hts gX10_told_X10_in rfl rfl rfl (by decide +kernel) ⟨Nat.le_of_ble_eq_true rfl, Nat.le_of_ble_eq_true rfl⟩) rfl hl.1 rfl (Nat.le_of_ble_eq_true rfl) dX10_told_19 (fun H locs hH => ?_)
    refine lv_if_eq (tgt := 38) hx hb dX10_told_22 (by decide) (fun c4 => ?_) (fun c4 => ?_)
    · replace hf := it_t c4 hf
      refine lv_iconst (v := -1) hx hb dX10_told_38 (by decide) ?_
      exact fin (-1 : Int32) S1 _ _ _ _ (congrArg Prod.fst (Option.some.inj hf)) (congrArg Prod.snd (Option.some.inj hf)) hH dX10_told_39
    · replace hf := it_f c4 hf
      refine lv_aload_n hx hb dX10_told_25 rfl (lv_at hl 0 rfl) ?_
      refine getO hC hH (0) rfl rfl in_X10_told_X10 13 (by decide) (index := 25) (List.mem_of_getElem? (i := 3) rfl) rfl dX10_told_26 ?_
      refine lv_iconst (v := 4) hx hb dX10_told_29 (by decide) ?_
      refine lv_iload_n hx hb dX10_told_30 rfl (lv_at hl 1 rfl) ?_
      refine lv_iadd hx hb dX10_told_31 ?_
      refine lv_iconst (v := 1) hx hb dX10_told_32 (by decide) ?_
      refine lv_isub hx hb dX10_told_33 ?_
      obtain ⟨g5, hf⟩ := gd hf
      refine aldI hC hH (6) rfl g5 dX10_told_34 ?_
      refine lv_goto (tgt := 39) hx hb dX10_told_35 (by decide) ?_
      have hz : (gA S1 6 (((4 : Int32) + a1) - (1 : Int32)).toNatClampNeg, S1) = q := Option.some.inj hf
      have hz1 := congrArg Prod.fst hz
      have hz2 := congrArg Prod.snd hz
      exact fin (gA S1 6 (((4 : Int32) + a1) - (1 : Int32)).toNatClampNeg) S1 _ _ _ _ hz1 hz2 hH dX10_told_39
  · replace hf := it_t c2 hf
    refine lv_aload_n hx hb dX10_told_9 rfl (lv_at hl 0 rfl) ?_
    refine getO hC hH (0) rfl rfl in_X10_told_X10 14 (by decide) (index := 54) (List.mem_of_getElem? (i := 2) rfl) rfl dX10_told_10 ?_
    refine lv_goto (tgt := 39) hx hb dX10_told_13 (by decide) ?_
    exact fin (gI S1 0 14) S1 _ _ _ _ (congrArg Prod.fst (Option.some.inj hf)) (congrArg Prod.snd (Option.some.inj hf)) hH dX10_told_39
theorem in_X10_isHome_X10 : ∀ w ∈ wsX100, w ∈ wsX10_isHome := fun w h => List.mem_cons_of_mem _ (List.mem_append_right _ h)
set_option maxRecDepth 100000 in
set_option maxHeartbeats 4000000 in
theorem c_X10_isHome (l : Launch) (G : Gt) (A : Nat → Prop) (S : St)  (a1 : Int32) (q : Int32) (hf : f_X10_isHome S a1 = some q) : Met l yX10_isHome wsX10_isHome ({ frames := 0, cells := 0, slots := 0, locals := 0 } : Room) (va_Pc [.ref (gM G 0), .int a1] (PK G A (MW G S))) (va_Qi (fun (r2 : Int32) S2 => r2 = q ∧ S2 = S) (fun S2 : St => PK G A (MW G S2)) A) 0 0 A := by
  refine mstart_z (ty := .boolean) (Wd := MW G) (cc := cX10_isHome) (maxL := 2) (by decide) rfl (Nat.le_of_ble_eq_true rfl) (fun p e s m below meth c Qm ls hC hH hl fin => ?_)
  obtain ⟨hx, hb, hml, hown, hts⟩ := id hC.1
  have hl : lv_has ls 2 [(0, .ref (gM G 0)), (1, .int a1)] := hl
  have hf := hf
  rw [f_X10_isHome] at hf
  refine lv_aload_n hx hb dX10_isHome_0 rfl (lv_at hl 0 rfl) ?_
  refine getO hC hH (0) rfl rfl in_X10_isHome_X10 18 (by decide) (index := 28) (List.mem_of_getElem? (i := 1) rfl) rfl dX10_isHome_1 ?_
  refine lv_iconst (v := 3) hx hb dX10_isHome_4 (by decide) ?_
  refine lv_iload_n hx hb dX10_isHome_5 rfl (lv_at hl 1 rfl) ?_
  refine lv_imul hx hb dX10_isHome_6 ?_
  obtain ⟨g1, hf⟩ := gd hf
  refine aldI hC hH (7) rfl g1 dX10_isHome_7 ?_
  refine lv_aload_n hx hb dX10_isHome_8 rfl (lv_at hl 0 rfl) ?_
  refine getO hC hH (0) rfl rfl in_X10_isHome_X10 14 (by decide) (index := 54) (List.mem_of_getElem? (i := 2) rfl) rfl dX10_isHome_9 ?_
  refine lv_icmp_ne (tgt := 38) hx hb dX10_isHome_12 (by decide) (fun c2 => ?_) (fun c2 => ?_)
  · replace hf := it_f c2 hf
    refine lv_iconst (v := 0) hx hb dX10_isHome_38 (by decide) ?_
    exact fin (0 : Int32) S _ _ _ _ rfl (Option.some.inj hf) rfl hH dX10_isHome_39
  · replace hf := it_t c2 hf
    refine lv_aload_n hx hb dX10_isHome_15 rfl (lv_at hl 0 rfl) ?_
    refine getO hC hH (0) rfl rfl in_X10_isHome_X10 18 (by decide) (index := 28) (List.mem_of_getElem? (i := 1) rfl) rfl dX10_isHome_16 ?_
    refine lv_iconst (v := 3) hx hb dX10_isHome_19 (by decide) ?_
    refine lv_iload_n hx hb dX10_isHome_20 rfl (lv_at hl 1 rfl) ?_
    refine lv_imul hx hb dX10_isHome_21 ?_
    refine lv_iconst (v := 2) hx hb dX10_isHome_22 (by decide) ?_
    refine lv_iadd hx hb dX10_isHome_23 ?_
    obtain ⟨g3, hf⟩ := gd hf
    refine aldI hC hH (7) rfl g3 dX10_isHome_24 ?_
    refine lv_aload_n hx hb dX10_isHome_25 rfl (lv_at hl 0 rfl) ?_
    refine getO hC hH (0) rfl rfl in_X10_isHome_X10 13 (by decide) (index := 25) (List.mem_of_getElem? (i := 3) rfl) rfl dX10_isHome_26 ?_
    refine lv_iconst (v := 5) hx hb dX10_isHome_29 (by decide) ?_
    obtain ⟨g4, hf⟩ := gd hf
    refine aldI hC hH (6) rfl g4 dX10_isHome_30 ?_
    refine lv_icmp_lt (tgt := 38) hx hb dX10_isHome_31 (by decide) (fun c5 => ?_) (fun c5 => ?_)
    · replace hf := it_t c5 hf
      refine lv_iconst (v := 0) hx hb dX10_isHome_38 (by decide) ?_
      exact fin (0 : Int32) S _ _ _ _ rfl (Option.some.inj hf) rfl hH dX10_isHome_39
    · replace hf := it_f c5 hf
      refine lv_iconst (v := 1) hx hb dX10_isHome_34 (by decide) ?_
      refine lv_goto (tgt := 39) hx hb dX10_isHome_35 (by decide) ?_
      exact fin (1 : Int32) S _ _ _ _ rfl (Option.some.inj hf) rfl hH dX10_isHome_39
theorem in_X10_runner_X10 : ∀ w ∈ wsX100, w ∈ wsX10_runner := fun w h => List.mem_cons_of_mem _ (List.mem_append_right _ h)
set_option maxRecDepth 100000 in
set_option maxHeartbeats 4000000 in
theorem c_X10_runner (l : Launch) (G : Gt) (A : Nat → Prop) (S : St)  (a1 : Int32) (a2 : Int32) (q : Int32 × St) (hf : f_X10_runner S a1 a2 = some q) : Met l yX10_runner wsX10_runner ({ frames := 2, cells := 0, slots := 0, locals := 43 } : Room) (va_Pc [.ref (gM G 0), .int a1, .int a2] (PK G A (MW G S))) (va_Qi (fun (r2 : Int32) S2 => r2 = q.1 ∧ S2 = q.2) (fun S2 : St => PK G A (MW G S2)) A) 0 0 A := by
  refine mstart_i (Wd := MW G) (cc := cX10_runner) (maxL := 3) (by decide) rfl (Nat.le_of_ble_eq_true rfl) (fun p e s m below meth c Qm ls hC hH hl fin => ?_)
  obtain ⟨hx, hb, hml, hown, hts⟩ := id hC.1
  have hl : lv_has ls 3 [(0, .ref (gM G 0)), (1, .int a1), (2, .int a2)] := hl
  have hf := hf
  rw [f_X10_runner] at hf
  refine lv_aload_n hx hb dX10_runner_0 rfl (lv_at hl 0 rfl) ?_
  refine lv_iconst (v := 0) hx hb dX10_runner_1 (by decide) ?_
  refine putO hC hH (0) rfl rfl in_X10_runner_X10 tyX10 tyX10_ok nmX10 0 (by decide) (index := 58) (List.mem_of_getElem? (i := 1) rfl) rfl rfl rfl (Nat.le_of_ble_eq_true rfl) ms_0_0 dX10_runner_2 (fun H locs hH => ?_)
  obtain ⟨S1, eS1⟩ : ∃ Z : St, Z = sI S 0 0 (0 : Int32) := ⟨_, rfl⟩
  rw [← eS1] at hH
  replace hf := bn eS1 hf
  refine lv_aload_n hx hb dX10_runner_5 rfl (lv_at hl 0 rfl) ?_
  refine lv_iload_n hx hb dX10_runner_6 rfl (lv_at hl 1 rfl) ?_
  obtain ⟨r2, hr2, hf⟩ := ob hf
  refine callV_i [.int a1] [] hC hH (c_X10_isRunner l G A S1 a1 _ hr2) (cwV 1 hts gX10_runner_X10_isRunner rfl rfl rfl (by decide +kernel) ⟨Nat.le_of_ble_eq_true rfl, Nat.le_of_ble_eq_true rfl⟩) (recvW hC hH (c0 := 0) (ci := 10) rfl rfl) rfl hl.1 rfl (Nat.le_of_ble_eq_true rfl) dX10_runner_7 (fun H locs hH => ?_)
  refine lv_if_eq (tgt := 22) hx hb dX10_runner_10 (by decide) (fun c3 => ?_) (fun c3 => ?_)
  · replace hf := it_t c3 hf
    refine lv_iconst (v := -1) hx hb dX10_runner_22 (by decide) ?_
    exact fin (-1 : Int32) S1 _ _ _ _ (congrArg Prod.fst (Option.some.inj hf)) (congrArg Prod.snd (Option.some.inj hf)) hH dX10_runner_23
  · replace hf := it_f c3 hf
    refine lv_iload_n hx hb dX10_runner_13 rfl (lv_at hl 2 rfl) ?_
    refine lv_iconst (v := 0) hx hb dX10_runner_14 (by decide) ?_
    refine lv_iconst (v := 5) hx hb dX10_runner_15 (by decide) ?_
    obtain ⟨r4, hr4, hf⟩ := ob hf
    refine callS_i [.int a2, .int (0 : Int32), .int (5 : Int32)] [] hC hH (c_X10_in l G A S1 a2 (0 : Int32) (5 : Int32) _ hr4) (va_cwS 3 hts gX10_runner_X10_in rfl rfl rfl (by decide +kernel) ⟨Nat.le_of_ble_eq_true rfl, Nat.le_of_ble_eq_true rfl⟩) rfl hl.1 rfl (Nat.le_of_ble_eq_true rfl) dX10_runner_16 (fun H locs hH => ?_)
    refine lv_if_ne (tgt := 24) hx hb dX10_runner_19 (by decide) (fun c5 => ?_) (fun c5 => ?_)
    · replace hf := it_f c5 hf
      refine lv_iload_n hx hb dX10_runner_24 rfl (lv_at hl 2 rfl) ?_
      refine lv_iconst (v := 2) hx hb dX10_runner_25 (by decide) ?_
      refine lv_icmp_ge (tgt := 49) hx hb dX10_runner_26 (by decide) (fun c6 => ?_) (fun c6 => ?_)
      · replace hf := it_t c6 hf
        refine lv_iload_n hx hb dX10_runner_49 rfl (lv_at hl 2 rfl) ?_
        refine lv_iconst (v := 5) hx hb dX10_runner_50 (by decide) ?_
        refine lv_icmp_ge (tgt := 69) hx hb dX10_runner_51 (by decide) (fun c7 => ?_) (fun c7 => ?_)
        · replace hf := it_t c7 hf
          refine lv_aload_n hx hb dX10_runner_69 rfl (lv_at hl 0 rfl) ?_
          refine lv_iload_n hx hb dX10_runner_70 rfl (lv_at hl 1 rfl) ?_
          obtain ⟨r8, hr8, hf⟩ := ob hf
          refine callV_i [.int a1] [] hC hH (c_X10_isHome l G A S1 a1 _ hr8) (cwV 1 hts gX10_runner_X10_isHome rfl rfl rfl (by decide +kernel) ⟨Nat.le_of_ble_eq_true rfl, Nat.le_of_ble_eq_true rfl⟩) (recvW hC hH (c0 := 0) (ci := 10) rfl rfl) rfl hl.1 rfl (Nat.le_of_ble_eq_true rfl) dX10_runner_71 (fun H locs hH => ?_)
          refine lv_if_eq (tgt := 81) hx hb dX10_runner_74 (by decide) (fun c9 => ?_) (fun c9 => ?_)
          · replace hf := it_t c9 hf
            refine lv_iconst (v := 0) hx hb dX10_runner_81 (by decide) ?_
            exact fin (0 : Int32) S1 _ _ _ _ (congrArg Prod.fst (Option.some.inj hf)) (congrArg Prod.snd (Option.some.inj hf)) hH dX10_runner_82
          · replace hf := it_f c9 hf
            refine lv_iconst (v := 1) hx hb dX10_runner_77 (by decide) ?_
            refine lv_goto (tgt := 82) hx hb dX10_runner_78 (by decide) ?_
            exact fin (1 : Int32) S1 _ _ _ _ (congrArg Prod.fst (Option.some.inj hf)) (congrArg Prod.snd (Option.some.inj hf)) hH dX10_runner_82
        · replace hf := it_f c7 hf
          refine lv_aload_n hx hb dX10_runner_54 rfl (lv_at hl 0 rfl) ?_
          refine getO hC hH (0) rfl rfl in_X10_runner_X10 18 (by decide) (index := 28) (List.mem_of_getElem? (i := 4) rfl) rfl dX10_runner_55 ?_
          refine lv_iconst (v := 3) hx hb dX10_runner_58 (by decide) ?_
          refine lv_iload_n hx hb dX10_runner_59 rfl (lv_at hl 1 rfl) ?_
          refine lv_imul hx hb dX10_runner_60 ?_
          refine lv_iload_n hx hb dX10_runner_61 rfl (lv_at hl 2 rfl) ?_
          refine lv_iadd hx hb dX10_runner_62 ?_
          refine lv_iconst (v := 2) hx hb dX10_runner_63 (by decide) ?_
          refine lv_isub hx hb dX10_runner_64 ?_
          obtain ⟨g10, hf⟩ := gd hf
          refine aldI hC hH (7) rfl g10 dX10_runner_65 ?_
          refine lv_goto (tgt := 82) hx hb dX10_runner_66 (by decide) ?_
          have hz : (gA S1 7 ((((3 : Int32) * a1) + a2) - (2 : Int32)).toNatClampNeg, S1) = q := Option.some.inj hf
          have hz1 := congrArg Prod.fst hz
          have hz2 := congrArg Prod.snd hz
          exact fin (gA S1 7 ((((3 : Int32) * a1) + a2) - (2 : Int32)).toNatClampNeg) S1 _ _ _ _ hz1 hz2 hH dX10_runner_82
      · replace hf := it_f c6 hf
        refine lv_iload_n hx hb dX10_runner_29 rfl (lv_at hl 2 rfl) ?_
        refine lv_if_ne (tgt := 42) hx hb dX10_runner_30 (by decide) (fun c11 => ?_) (fun c11 => ?_)
        · replace hf := it_f c11 hf
          refine lv_aload_n hx hb dX10_runner_42 rfl (lv_at hl 0 rfl) ?_
          refine getO hC hH (0) rfl rfl in_X10_runner_X10 12 (by decide) (index := 22) (List.mem_of_getElem? (i := 3) rfl) rfl dX10_runner_43 ?_
          refine lv_iload_n hx hb dX10_runner_46 rfl (lv_at hl 1 rfl) ?_
          obtain ⟨g12, hf⟩ := gd hf
          refine aldI hC hH (5) rfl g12 dX10_runner_47 ?_
          have hz : (gA S1 5 a1.toNatClampNeg, S1) = q := Option.some.inj hf
          have hz1 := congrArg Prod.fst hz
          have hz2 := congrArg Prod.snd hz
          exact fin (gA S1 5 a1.toNatClampNeg) S1 _ _ _ _ hz1 hz2 hH dX10_runner_48
        · replace hf := it_t c11 hf
          refine lv_aload_n hx hb dX10_runner_33 rfl (lv_at hl 0 rfl) ?_
          refine getO hC hH (0) rfl rfl in_X10_runner_X10 11 (by decide) (index := 19) (List.mem_of_getElem? (i := 2) rfl) rfl dX10_runner_34 ?_
          refine lv_iload_n hx hb dX10_runner_37 rfl (lv_at hl 1 rfl) ?_
          obtain ⟨g13, hf⟩ := gd hf
          refine aldI hC hH (4) rfl g13 dX10_runner_38 ?_
          refine lv_goto (tgt := 48) hx hb dX10_runner_39 (by decide) ?_
          have hz : (gA S1 4 a1.toNatClampNeg, S1) = q := Option.some.inj hf
          have hz1 := congrArg Prod.fst hz
          have hz2 := congrArg Prod.snd hz
          exact fin (gA S1 4 a1.toNatClampNeg) S1 _ _ _ _ hz1 hz2 hH dX10_runner_48
    · replace hf := it_t c5 hf
      refine lv_iconst (v := -1) hx hb dX10_runner_22 (by decide) ?_
      exact fin (-1 : Int32) S1 _ _ _ _ (congrArg Prod.fst (Option.some.inj hf)) (congrArg Prod.snd (Option.some.inj hf)) hH dX10_runner_23
theorem in_X10_reckons_X10 : ∀ w ∈ wsX100, w ∈ wsX10_reckons := fun w h => List.mem_cons_of_mem _ (List.mem_append_right _ h)
set_option maxRecDepth 100000 in
set_option maxHeartbeats 4000000 in
theorem c_X10_reckons (l : Launch) (G : Gt) (A : Nat → Prop) (S : St)  (a1 : Int32) (a2 : Int32) (a3 : Int32) (a4 : Int32) (a5 : Int32) (a6 : Int32) (q : Int32 × St) (hf : f_X10_reckons S a1 a2 a3 a4 a5 a6 = some q) : Met l yX10_reckons wsX10_reckons ({ frames := 0, cells := 0, slots := 0, locals := 0 } : Room) (va_Pc [.ref (gM G 0), .int a1, .int a2, .int a3, .int a4, .int a5, .int a6] (PK G A (MW G S))) (va_Qi (fun (r2 : Int32) S2 => r2 = q.1 ∧ S2 = q.2) (fun S2 : St => PK G A (MW G S2)) A) 0 0 A := by
  refine mstart_i (Wd := MW G) (cc := cX10_reckons) (maxL := 10) (by decide) rfl (Nat.le_of_ble_eq_true rfl) (fun p e s m below meth c Qm ls hC hH hl fin => ?_)
  obtain ⟨hx, hb, hml, hown, hts⟩ := id hC.1
  have hl : lv_has ls 10 [(0, .ref (gM G 0)), (1, .int a1), (2, .int a2), (3, .int a3), (4, .int a4), (5, .int a5), (6, .int a6)] := hl
  have kJ161 : ∀ (S : St) (t0 : Int32) (t1 : Int32) (H : Heap) (locs : List Loc) (ls : Array Slot), HW G A (MW G S) s H locs → lv_has ls 10 [] → f_X10_reckons_161  S t0 t1 = some q → W p l e ({ frames := 0, cells := 0, slots := 0, locals := 0 } : Room) s m [.ref (gM G 0), .int a1, .int a2, .int a3, .int a4, .int a5, .int a6].toArray below meth c H locs 0 0 Qm (F0 m 161 ls [.int t1, .int t0]) := by
    intro S t0 t1 H locs ls hH hl hf
    rw [f_X10_reckons_161] at hf
    refine lv_isub hx hb dX10_reckons_161 ?_
    refine lv_topi (fun b12 eb12 => ?_)
    replace hf := bn eb12 hf
    refine lv_istore (lv' := [(9, .int b12)]) hx hb dX10_reckons_162 hl (by decide) rfl (fun ls hl => ?_)
    refine lv_iload hx hb dX10_reckons_164 (lv_at hl 0 rfl) ?_
    refine lv_if_ge (tgt := 173) hx hb dX10_reckons_166 (by decide) (fun c13 => ?_) (fun c13 => ?_)
    · replace hf := it_t c13 hf
      refine lv_iload hx hb dX10_reckons_173 (lv_at hl 0 rfl) ?_
      refine lv_bipush (v := 10) hx hb dX10_reckons_175 (by decide) ?_
      refine lv_icmp_le (tgt := 185) hx hb dX10_reckons_177 (by decide) (fun c14 => ?_) (fun c14 => ?_)
      · replace hf := it_t c14 hf
        refine lv_iload hx hb dX10_reckons_185 (lv_at hl 0 rfl) ?_
        exact fin b12 S _ _ _ _ (congrArg Prod.fst (Option.some.inj hf)) (congrArg Prod.snd (Option.some.inj hf)) hH dX10_reckons_187
      · replace hf := it_f c14 hf
        refine lv_bipush (v := 10) hx hb dX10_reckons_180 (by decide) ?_
        refine lv_goto (tgt := 187) hx hb dX10_reckons_182 (by decide) ?_
        exact fin (10 : Int32) S _ _ _ _ (congrArg Prod.fst (Option.some.inj hf)) (congrArg Prod.snd (Option.some.inj hf)) hH dX10_reckons_187
    · replace hf := it_f c13 hf
      refine lv_iconst (v := 0) hx hb dX10_reckons_169 (by decide) ?_
      refine lv_goto (tgt := 187) hx hb dX10_reckons_170 (by decide) ?_
      exact fin (0 : Int32) S _ _ _ _ (congrArg Prod.fst (Option.some.inj hf)) (congrArg Prod.snd (Option.some.inj hf)) hH dX10_reckons_187
  have kJ160 : ∀ (S : St) (t0 : Int32) (H : Heap) (locs : List Loc) (ls : Array Slot), HW G A (MW G S) s H locs → lv_has ls 10 [] → f_X10_reckons_160  S t0 = some q → W p l e ({ frames := 0, cells := 0, slots := 0, locals := 0 } : Room) s m [.ref (gM G 0), .int a1, .int a2, .int a3, .int a4, .int a5, .int a6].toArray below meth c H locs 0 0 Qm (F0 m 160 ls [.int t0]) := by
    intro S t0 H locs ls hH hl hf
    rw [f_X10_reckons_160] at hf
    refine lv_iconst (v := 0) hx hb dX10_reckons_160 (by decide) ?_
    exact kJ161  S t0 (0 : Int32) _ _ _ hH (lv_sub hl [] rfl) hf
  have kJ131 : ∀ (S : St) (t0 : Int32) (t1 : Int32) (H : Heap) (locs : List Loc) (ls : Array Slot), HW G A (MW G S) s H locs → lv_has ls 10 [(0, .ref (gM G 0))] → f_X10_reckons_131  S t0 t1 = some q → W p l e ({ frames := 0, cells := 0, slots := 0, locals := 0 } : Room) s m [.ref (gM G 0), .int a1, .int a2, .int a3, .int a4, .int a5, .int a6].toArray below meth c H locs 0 0 Qm (F0 m 131 ls [.int t1, .int t0]) := by
    intro S t0 t1 H locs ls hH hl hf
    rw [f_X10_reckons_131] at hf
    refine lv_isub hx hb dX10_reckons_131 ?_
    refine lv_aload_n hx hb dX10_reckons_132 rfl (lv_at hl 0 rfl) ?_
    refine getO hC hH (0) rfl rfl in_X10_reckons_X10 26 (by decide) (index := 156) (List.mem_of_getElem? (i := 5) rfl) rfl dX10_reckons_133 ?_
    refine lv_aload_n hx hb dX10_reckons_136 rfl (lv_at hl 0 rfl) ?_
    refine getO hC hH (0) rfl rfl in_X10_reckons_X10 14 (by decide) (index := 54) (List.mem_of_getElem? (i := 4) rfl) rfl dX10_reckons_137 ?_
    refine lv_icmp_ge (tgt := 160) hx hb dX10_reckons_140 (by decide) (fun c11 => ?_) (fun c11 => ?_)
    · replace hf := it_t c11 hf
      exact kJ160  S (t0 - t1) _ _ _ hH (lv_sub hl [] rfl) hf
    · replace hf := it_f c11 hf
      refine lv_aload_n hx hb dX10_reckons_143 rfl (lv_at hl 0 rfl) ?_
      refine getO hC hH (0) rfl rfl in_X10_reckons_X10 10 (by decide) (index := 16) (List.mem_of_getElem? (i := 8) rfl) rfl dX10_reckons_144 ?_
      refine lv_aload_n hx hb dX10_reckons_147 rfl (lv_at hl 0 rfl) ?_
      refine getO hC hH (0) rfl rfl in_X10_reckons_X10 26 (by decide) (index := 156) (List.mem_of_getElem? (i := 5) rfl) rfl dX10_reckons_148 ?_
      obtain ⟨g15, hf⟩ := gd hf
      refine aldI hC hH (3) rfl g15 dX10_reckons_151 ?_
      refine lv_iconst (v := 1) hx hb dX10_reckons_152 (by decide) ?_
      refine lv_icmp_ne (tgt := 160) hx hb dX10_reckons_153 (by decide) (fun c16 => ?_) (fun c16 => ?_)
      · replace hf := it_f c16 hf
        exact kJ160  S (t0 - t1) _ _ _ hH (lv_sub hl [] rfl) hf
      · replace hf := it_t c16 hf
        refine lv_iconst (v := 2) hx hb dX10_reckons_156 (by decide) ?_
        refine lv_goto (tgt := 161) hx hb dX10_reckons_157 (by decide) ?_
        exact kJ161  S (t0 - t1) (2 : Int32) _ _ _ hH (lv_sub hl [] rfl) hf
  have kJ102 : ∀ (S : St) (t0 : Int32) (H : Heap) (locs : List Loc) (ls : Array Slot), HW G A (MW G S) s H locs → lv_has ls 10 [(0, .ref (gM G 0)), (1, .int a1)] → f_X10_reckons_102 a1 S t0 = some q → W p l e ({ frames := 0, cells := 0, slots := 0, locals := 0 } : Room) s m [.ref (gM G 0), .int a1, .int a2, .int a3, .int a4, .int a5, .int a6].toArray below meth c H locs 0 0 Qm (F0 m 102 ls [.int t0]) := by
    intro S t0 H locs ls hH hl hf
    rw [f_X10_reckons_102] at hf
    refine lv_istore (lv' := [(8, .int t0), (0, .ref (gM G 0)), (1, .int a1)]) hx hb dX10_reckons_102 hl (by decide) rfl (fun ls hl => ?_)
    refine lv_aload_n hx hb dX10_reckons_104 rfl (lv_at hl 1 rfl) ?_
    refine getO hC hH (0) rfl rfl in_X10_reckons_X10 12 (by decide) (index := 22) (List.mem_of_getElem? (i := 7) rfl) rfl dX10_reckons_105 ?_
    refine lv_iload_n hx hb dX10_reckons_108 rfl (lv_at hl 2 rfl) ?_
    obtain ⟨g9, hf⟩ := gd hf
    refine aldI hC hH (5) rfl g9 dX10_reckons_109 ?_
    refine lv_iconst (v := 3) hx hb dX10_reckons_110 (by decide) ?_
    refine lv_iadd hx hb dX10_reckons_111 ?_
    refine lv_iconst (v := 3) hx hb dX10_reckons_112 (by decide) ?_
    refine lv_iload hx hb dX10_reckons_113 (lv_at hl 0 rfl) ?_
    refine lv_imul hx hb dX10_reckons_115 ?_
    refine lv_isub hx hb dX10_reckons_116 ?_
    refine lv_aload_n hx hb dX10_reckons_117 rfl (lv_at hl 1 rfl) ?_
    refine getO hC hH (0) rfl rfl in_X10_reckons_X10 27 (by decide) (index := 159) (List.mem_of_getElem? (i := 6) rfl) rfl dX10_reckons_118 ?_
    refine lv_iconst (v := 2) hx hb dX10_reckons_121 (by decide) ?_
    refine lv_irem hx hb dX10_reckons_122 (by decide) ?_
    refine lv_if_ne (tgt := 130) hx hb dX10_reckons_123 (by decide) (fun c10 => ?_) (fun c10 => ?_)
    · replace hf := it_f c10 hf
      refine lv_iconst (v := 2) hx hb dX10_reckons_130 (by decide) ?_
      exact kJ131  S (((gA S 5 a1.toNatClampNeg) + (3 : Int32)) - ((3 : Int32) * t0)) (2 : Int32) _ _ _ hH (lv_sub hl [1] rfl) hf
    · replace hf := it_t c10 hf
      refine lv_iconst (v := 0) hx hb dX10_reckons_126 (by decide) ?_
      refine lv_goto (tgt := 131) hx hb dX10_reckons_127 (by decide) ?_
      exact kJ131  S (((gA S 5 a1.toNatClampNeg) + (3 : Int32)) - ((3 : Int32) * t0)) (0 : Int32) _ _ _ hH (lv_sub hl [1] rfl) hf
  have kJ59 : ∀ (S : St) (t1 : Int32) (H : Heap) (locs : List Loc) (ls : Array Slot), HW G A (MW G S) s H locs → lv_has ls 10 [(0, .ref (gM G 0)), (1, .int a1), (3, .int a3), (5, .int a5)] → f_X10_reckons_59 a1 a3 a5 S t1 = some q → W p l e ({ frames := 0, cells := 0, slots := 0, locals := 0 } : Room) s m [.ref (gM G 0), .int a1, .int a2, .int a3, .int a4, .int a5, .int a6].toArray below meth c H locs 0 0 Qm (F0 m 59 ls [.int t1, .ref (gM G 0)]) := by
    intro S t1 H locs ls hH hl hf
    rw [f_X10_reckons_59] at hf
    refine putO hC hH (0) rfl rfl in_X10_reckons_X10 tyX10 tyX10_ok nmX10 26 (by decide) (index := 156) (List.mem_of_getElem? (i := 5) rfl) rfl rfl rfl (Nat.le_of_ble_eq_true rfl) ms_0_26 dX10_reckons_59 (fun H locs hH => ?_)
    obtain ⟨S6, eS6⟩ : ∃ Z : St, Z = sI S 0 26 t1 := ⟨_, rfl⟩
    rw [← eS6] at hH
    replace hf := bn eS6 hf
    refine lv_aload_n hx hb dX10_reckons_62 rfl (lv_at hl 0 rfl) ?_
    refine lv_iload hx hb dX10_reckons_63 (lv_at hl 3 rfl) ?_
    refine lv_iload_n hx hb dX10_reckons_65 rfl (lv_at hl 2 rfl) ?_
    refine lv_imul hx hb dX10_reckons_66 ?_
    refine putO hC hH (0) rfl rfl in_X10_reckons_X10 tyX10 tyX10_ok nmX10 27 (by decide) (index := 159) (List.mem_of_getElem? (i := 6) rfl) rfl rfl rfl (Nat.le_of_ble_eq_true rfl) ms_0_27 dX10_reckons_67 (fun H locs hH => ?_)
    obtain ⟨S7, eS7⟩ : ∃ Z : St, Z = sI S6 0 27 (a5 * a3) := ⟨_, rfl⟩
    rw [← eS7] at hH
    replace hf := bn eS7 hf
    refine lv_aload_n hx hb dX10_reckons_70 rfl (lv_at hl 0 rfl) ?_
    refine getO hC hH (0) rfl rfl in_X10_reckons_X10 25 (by decide) (index := 153) (List.mem_of_getElem? (i := 2) rfl) rfl dX10_reckons_71 ?_
    refine lv_aload_n hx hb dX10_reckons_74 rfl (lv_at hl 0 rfl) ?_
    refine getO hC hH (0) rfl rfl in_X10_reckons_X10 26 (by decide) (index := 156) (List.mem_of_getElem? (i := 5) rfl) rfl dX10_reckons_75 ?_
    refine lv_icmp_ge (tgt := 93) hx hb dX10_reckons_78 (by decide) (fun c8 => ?_) (fun c8 => ?_)
    · replace hf := it_t c8 hf
      refine lv_aload_n hx hb dX10_reckons_93 rfl (lv_at hl 0 rfl) ?_
      refine getO hC hH (0) rfl rfl in_X10_reckons_X10 25 (by decide) (index := 153) (List.mem_of_getElem? (i := 2) rfl) rfl dX10_reckons_94 ?_
      refine lv_aload_n hx hb dX10_reckons_97 rfl (lv_at hl 0 rfl) ?_
      refine getO hC hH (0) rfl rfl in_X10_reckons_X10 26 (by decide) (index := 156) (List.mem_of_getElem? (i := 5) rfl) rfl dX10_reckons_98 ?_
      refine lv_isub hx hb dX10_reckons_101 ?_
      exact kJ102  S7 ((gI S7 0 25) - (gI S7 0 26)) _ _ _ hH (lv_sub hl [0, 1] rfl) hf
    · replace hf := it_f c8 hf
      refine lv_aload_n hx hb dX10_reckons_81 rfl (lv_at hl 0 rfl) ?_
      refine getO hC hH (0) rfl rfl in_X10_reckons_X10 26 (by decide) (index := 156) (List.mem_of_getElem? (i := 5) rfl) rfl dX10_reckons_82 ?_
      refine lv_aload_n hx hb dX10_reckons_85 rfl (lv_at hl 0 rfl) ?_
      refine getO hC hH (0) rfl rfl in_X10_reckons_X10 25 (by decide) (index := 153) (List.mem_of_getElem? (i := 2) rfl) rfl dX10_reckons_86 ?_
      refine lv_isub hx hb dX10_reckons_89 ?_
      refine lv_goto (tgt := 102) hx hb dX10_reckons_90 (by decide) ?_
      exact kJ102  S7 ((gI S7 0 26) - (gI S7 0 25)) _ _ _ hH (lv_sub hl [0, 1] rfl) hf
  have kJ38 : ∀ (S : St) (t0 : Int32) (H : Heap) (locs : List Loc) (ls : Array Slot), HW G A (MW G S) s H locs → lv_has ls 10 [(0, .ref (gM G 0)), (1, .int a1), (3, .int a3), (5, .int a5)] → f_X10_reckons_38 a1 a3 a5 S t0 = some q → W p l e ({ frames := 0, cells := 0, slots := 0, locals := 0 } : Room) s m [.ref (gM G 0), .int a1, .int a2, .int a3, .int a4, .int a5, .int a6].toArray below meth c H locs 0 0 Qm (F0 m 38 ls [.int t0]) := by
    intro S t0 H locs ls hH hl hf
    rw [f_X10_reckons_38] at hf
    refine lv_istore (lv' := [(7, .int t0), (0, .ref (gM G 0)), (1, .int a1), (3, .int a3), (5, .int a5)]) hx hb dX10_reckons_38 hl (by decide) rfl (fun ls hl => ?_)
    refine lv_aload_n hx hb dX10_reckons_40 rfl (lv_at hl 1 rfl) ?_
    refine lv_iload hx hb dX10_reckons_41 (lv_at hl 0 rfl) ?_
    refine lv_aload_n hx hb dX10_reckons_43 rfl (lv_at hl 1 rfl) ?_
    refine getO hC hH (0) rfl rfl in_X10_reckons_X10 14 (by decide) (index := 54) (List.mem_of_getElem? (i := 4) rfl) rfl dX10_reckons_44 ?_
    refine lv_icmp_le (tgt := 57) hx hb dX10_reckons_47 (by decide) (fun c5 => ?_) (fun c5 => ?_)
    · replace hf := it_t c5 hf
      refine lv_iload hx hb dX10_reckons_57 (lv_at hl 0 rfl) ?_
      exact kJ59  S t0 _ _ _ hH (lv_sub hl [1, 2, 3, 4] rfl) hf
    · replace hf := it_f c5 hf
      refine lv_aload_n hx hb dX10_reckons_50 rfl (lv_at hl 1 rfl) ?_
      refine getO hC hH (0) rfl rfl in_X10_reckons_X10 14 (by decide) (index := 54) (List.mem_of_getElem? (i := 4) rfl) rfl dX10_reckons_51 ?_
      refine lv_goto (tgt := 59) hx hb dX10_reckons_54 (by decide) ?_
      exact kJ59  S (gI S 0 14) _ _ _ hH (lv_sub hl [1, 2, 3, 4] rfl) hf
  have hf := hf
  rw [f_X10_reckons] at hf
  refine lv_aload_n hx hb dX10_reckons_0 rfl (lv_at hl 0 rfl) ?_
  refine lv_iload_n hx hb dX10_reckons_1 rfl (lv_at hl 2 rfl) ?_
  refine lv_iload hx hb dX10_reckons_2 (lv_at hl 4 rfl) ?_
  refine lv_iadd hx hb dX10_reckons_4 ?_
  refine lv_iload_n hx hb dX10_reckons_5 rfl (lv_at hl 3 rfl) ?_
  refine lv_aload_n hx hb dX10_reckons_6 rfl (lv_at hl 0 rfl) ?_
  refine getO hC hH (0) rfl rfl in_X10_reckons_X10 9 (by decide) (index := 13) (List.mem_of_getElem? (i := 1) rfl) rfl dX10_reckons_7 ?_
  refine lv_iload_n hx hb dX10_reckons_10 rfl (lv_at hl 2 rfl) ?_
  obtain ⟨g1, hf⟩ := gd hf
  refine aldI hC hH (2) rfl g1 dX10_reckons_11 ?_
  refine lv_imul hx hb dX10_reckons_12 ?_
  refine lv_isub hx hb dX10_reckons_13 ?_
  refine putO hC hH (0) rfl rfl in_X10_reckons_X10 tyX10 tyX10_ok nmX10 25 (by decide) (index := 153) (List.mem_of_getElem? (i := 2) rfl) rfl rfl rfl (Nat.le_of_ble_eq_true rfl) ms_0_25 dX10_reckons_14 (fun H locs hH => ?_)
  obtain ⟨S2, eS2⟩ : ∃ Z : St, Z = sI S 0 25 ((a2 + a4) - (a3 * (gA S 2 a2.toNatClampNeg))) := ⟨_, rfl⟩
  rw [← eS2] at hH
  replace hf := bn eS2 hf
  refine lv_iload hx hb dX10_reckons_17 (lv_at hl 6 rfl) ?_
  refine lv_if_ne (tgt := 26) hx hb dX10_reckons_19 (by decide) (fun c3 => ?_) (fun c3 => ?_)
  · replace hf := it_f c3 hf
    refine lv_iload_n hx hb dX10_reckons_26 rfl (lv_at hl 2 rfl) ?_
    refine lv_aload_n hx hb dX10_reckons_27 rfl (lv_at hl 0 rfl) ?_
    refine getO hC hH (0) rfl rfl in_X10_reckons_X10 11 (by decide) (index := 19) (List.mem_of_getElem? (i := 3) rfl) rfl dX10_reckons_28 ?_
    refine lv_iload_n hx hb dX10_reckons_31 rfl (lv_at hl 1 rfl) ?_
    obtain ⟨g4, hf⟩ := gd hf
    refine aldI hC hH (4) rfl g4 dX10_reckons_32 ?_
    refine lv_iconst (v := 2) hx hb dX10_reckons_33 (by decide) ?_
    refine lv_imul hx hb dX10_reckons_34 ?_
    refine lv_iload_n hx hb dX10_reckons_35 rfl (lv_at hl 3 rfl) ?_
    refine lv_imul hx hb dX10_reckons_36 ?_
    refine lv_iadd hx hb dX10_reckons_37 ?_
    exact kJ38  S2 (a2 + (((gA S2 4 a1.toNatClampNeg) * (2 : Int32)) * a3)) _ _ _ hH (lv_sub hl [0, 1, 3, 5] rfl) hf
  · replace hf := it_t c3 hf
    refine lv_iload_n hx hb dX10_reckons_22 rfl (lv_at hl 2 rfl) ?_
    refine lv_goto (tgt := 38) hx hb dX10_reckons_23 (by decide) ?_
    exact kJ38  S2 a2 _ _ _ hH (lv_sub hl [0, 1, 3, 5] rfl) hf
theorem in_X10_comes_X10 : ∀ w ∈ wsX100, w ∈ wsX10_comes := fun w h => List.mem_cons_of_mem _ (List.mem_append_right _ h)
set_option maxRecDepth 100000 in
set_option maxHeartbeats 4000000 in
theorem c_X10_comes (l : Launch) (G : Gt) (A : Nat → Prop) (S : St)  (a1 : Int32) (a2 : Int32) (a3 : Int32) (a4 : Int32) (a5 : Int32) (a6 : Int32) (a7 : Int32) (q : Int32 × St) (hf : f_X10_comes S a1 a2 a3 a4 a5 a6 a7 = some q) : Met l yX10_comes wsX10_comes ({ frames := 2, cells := 0, slots := 0, locals := 45 } : Room) (va_Pc [.ref (gM G 0), .int a1, .int a2, .int a3, .int a4, .int a5, .int a6, .int a7] (PK G A (MW G S))) (va_Qi (fun (r2 : Int32) S2 => r2 = q.1 ∧ S2 = q.2) (fun S2 : St => PK G A (MW G S2)) A) 0 0 A := by
  refine mstart_i (Wd := MW G) (cc := cX10_comes) (maxL := 9) (by decide) rfl (Nat.le_of_ble_eq_true rfl) (fun p e s m below meth c Qm ls hC hH hl fin => ?_)
  obtain ⟨hx, hb, hml, hown, hts⟩ := id hC.1
  have hl : lv_has ls 9 [(0, .ref (gM G 0)), (1, .int a1), (2, .int a2), (3, .int a3), (4, .int a4), (5, .int a5), (6, .int a6), (7, .int a7)] := hl
  have hf := hf
  rw [f_X10_comes] at hf
  refine lv_aload_n hx hb dX10_comes_0 rfl (lv_at hl 0 rfl) ?_
  refine lv_iconst (v := 0) hx hb dX10_comes_1 (by decide) ?_
  refine putO hC hH (0) rfl rfl in_X10_comes_X10 tyX10 tyX10_ok nmX10 0 (by decide) (index := 58) (List.mem_of_getElem? (i := 1) rfl) rfl rfl rfl (Nat.le_of_ble_eq_true rfl) ms_0_0 dX10_comes_2 (fun H locs hH => ?_)
  obtain ⟨S1, eS1⟩ : ∃ Z : St, Z = sI S 0 0 (0 : Int32) := ⟨_, rfl⟩
  rw [← eS1] at hH
  replace hf := bn eS1 hf
  refine lv_aload_n hx hb dX10_comes_5 rfl (lv_at hl 0 rfl) ?_
  refine lv_iload_n hx hb dX10_comes_6 rfl (lv_at hl 1 rfl) ?_
  obtain ⟨r2, hr2, hf⟩ := ob hf
  refine callV_i [.int a1] [] hC hH (c_X10_isRunner l G A S1 a1 _ hr2) (cwV 1 hts gX10_comes_X10_isRunner rfl rfl rfl (by decide +kernel) ⟨Nat.le_of_ble_eq_true rfl, Nat.le_of_ble_eq_true rfl⟩) (recvW hC hH (c0 := 0) (ci := 10) rfl rfl) rfl hl.1 rfl (Nat.le_of_ble_eq_true rfl) dX10_comes_7 (fun H locs hH => ?_)
  refine lv_if_eq (tgt := 44) hx hb dX10_comes_10 (by decide) (fun c3 => ?_) (fun c3 => ?_)
  · replace hf := it_t c3 hf
    refine lv_ldc (v := -1000000) hx hb hown (hts (.constant RX10 166 (-1000000)) (List.mem_of_getElem? (i := 2) rfl)) dX10_comes_44 ?_
    exact fin (-1000000 : Int32) S1 _ _ _ _ (congrArg Prod.fst (Option.some.inj hf)) (congrArg Prod.snd (Option.some.inj hf)) hH dX10_comes_46
  · replace hf := it_f c3 hf
    refine lv_aload_n hx hb dX10_comes_13 rfl (lv_at hl 0 rfl) ?_
    refine lv_iload_n hx hb dX10_comes_14 rfl (lv_at hl 2 rfl) ?_
    obtain ⟨r4, hr4, hf⟩ := ob hf
    refine callV_i [.int a2] [] hC hH (c_X10_isYard l G A S1 a2 _ hr4) (cwV 1 hts gX10_comes_X10_isYard rfl rfl rfl (by decide +kernel) ⟨Nat.le_of_ble_eq_true rfl, Nat.le_of_ble_eq_true rfl⟩) (recvW hC hH (c0 := 0) (ci := 10) rfl rfl) rfl hl.1 rfl (Nat.le_of_ble_eq_true rfl) dX10_comes_15 (fun H locs hH => ?_)
    refine lv_if_eq (tgt := 44) hx hb dX10_comes_18 (by decide) (fun c5 => ?_) (fun c5 => ?_)
    · replace hf := it_t c5 hf
      refine lv_ldc (v := -1000000) hx hb hown (hts (.constant RX10 166 (-1000000)) (List.mem_of_getElem? (i := 2) rfl)) dX10_comes_44 ?_
      exact fin (-1000000 : Int32) S1 _ _ _ _ (congrArg Prod.fst (Option.some.inj hf)) (congrArg Prod.snd (Option.some.inj hf)) hH dX10_comes_46
    · replace hf := it_f c5 hf
      refine lv_iload_n hx hb dX10_comes_21 rfl (lv_at hl 3 rfl) ?_
      refine lv_iload hx hb dX10_comes_22 (lv_at hl 4 rfl) ?_
      refine lv_iload hx hb dX10_comes_24 (lv_at hl 5 rfl) ?_
      refine lv_iload hx hb dX10_comes_26 (lv_at hl 6 rfl) ?_
      obtain ⟨r6, hr6, hf⟩ := ob hf
      refine callS_i [.int a3, .int a4, .int a5, .int a6] [] hC hH (c_X10_isToss l G A S1 a3 a4 a5 a6 _ hr6) (va_cwS 4 hts gX10_comes_X10_isToss rfl rfl rfl (by decide +kernel) ⟨Nat.le_of_ble_eq_true rfl, Nat.le_of_ble_eq_true rfl⟩) rfl hl.1 rfl (Nat.le_of_ble_eq_true rfl) dX10_comes_28 (fun H locs hH => ?_)
      refine lv_if_eq (tgt := 44) hx hb dX10_comes_31 (by decide) (fun c7 => ?_) (fun c7 => ?_)
      · replace hf := it_t c7 hf
        refine lv_ldc (v := -1000000) hx hb hown (hts (.constant RX10 166 (-1000000)) (List.mem_of_getElem? (i := 2) rfl)) dX10_comes_44 ?_
        exact fin (-1000000 : Int32) S1 _ _ _ _ (congrArg Prod.fst (Option.some.inj hf)) (congrArg Prod.snd (Option.some.inj hf)) hH dX10_comes_46
      · replace hf := it_f c7 hf
        refine lv_iload hx hb dX10_comes_34 (lv_at hl 7 rfl) ?_
        refine lv_iconst (v := 0) hx hb dX10_comes_36 (by decide) ?_
        refine lv_iconst (v := 4) hx hb dX10_comes_37 (by decide) ?_
        obtain ⟨r8, hr8, hf⟩ := ob hf
        refine callS_i [.int a7, .int (0 : Int32), .int (4 : Int32)] [] hC hH (c_X10_in l G A S1 a7 (0 : Int32) (4 : Int32) _ hr8) (va_cwS 3 hts gX10_comes_X10_in rfl rfl rfl (by decide +kernel) ⟨Nat.le_of_ble_eq_true rfl, Nat.le_of_ble_eq_true rfl⟩) rfl hl.1 rfl (Nat.le_of_ble_eq_true rfl) dX10_comes_38 (fun H locs hH => ?_)
        refine lv_if_ne (tgt := 47) hx hb dX10_comes_41 (by decide) (fun c9 => ?_) (fun c9 => ?_)
        · replace hf := it_f c9 hf
          refine lv_aload_n hx hb dX10_comes_47 rfl (lv_at hl 0 rfl) ?_
          refine lv_iload_n hx hb dX10_comes_48 rfl (lv_at hl 1 rfl) ?_
          refine lv_iload_n hx hb dX10_comes_49 rfl (lv_at hl 2 rfl) ?_
          refine lv_iload_n hx hb dX10_comes_50 rfl (lv_at hl 3 rfl) ?_
          refine lv_iload hx hb dX10_comes_51 (lv_at hl 4 rfl) ?_
          refine lv_iload hx hb dX10_comes_53 (lv_at hl 5 rfl) ?_
          refine lv_iload hx hb dX10_comes_55 (lv_at hl 6 rfl) ?_
          obtain ⟨r10, hr10, hf⟩ := ob hf
          refine callV_i [.int a1, .int a2, .int a3, .int a4, .int a5, .int a6] [] hC hH (c_X10_reckons l G A S1 a1 a2 a3 a4 a5 a6 _ hr10) (cwV 6 hts gX10_comes_X10_reckons rfl rfl rfl (by decide +kernel) ⟨Nat.le_of_ble_eq_true rfl, Nat.le_of_ble_eq_true rfl⟩) (recvW hC hH (c0 := 0) (ci := 10) rfl rfl) rfl hl.1 rfl (Nat.le_of_ble_eq_true rfl) dX10_comes_57 (fun H locs hH => ?_)
          refine lv_istore (lv' := [(8, .int r10.1), (0, .ref (gM G 0)), (1, .int a1), (2, .int a2), (3, .int a3), (4, .int a4), (5, .int a5), (6, .int a6), (7, .int a7)]) hx hb dX10_comes_60 hl (by decide) rfl (fun ls hl => ?_)
          refine lv_iload hx hb dX10_comes_62 (lv_at hl 8 rfl) ?_
          refine lv_iconst (v := 3) hx hb dX10_comes_64 (by decide) ?_
          refine lv_icmp_ge (tgt := 98) hx hb dX10_comes_65 (by decide) (fun c11 => ?_) (fun c11 => ?_)
          · replace hf := it_t c11 hf
            refine lv_iload hx hb dX10_comes_98 (lv_at hl 8 rfl) ?_
            refine lv_iconst (v := 4) hx hb dX10_comes_100 (by decide) ?_
            refine lv_icmp_ne (tgt := 109) hx hb dX10_comes_101 (by decide) (fun c12 => ?_) (fun c12 => ?_)
            · replace hf := it_f c12 hf
              refine lv_aload_n hx hb dX10_comes_109 rfl (lv_at hl 1 rfl) ?_
              refine getO hC hH (0) rfl rfl in_X10_comes_X10 27 (by decide) (index := 159) (List.mem_of_getElem? (i := 5) rfl) rfl dX10_comes_110 ?_
              refine lv_iconst (v := 4) hx hb dX10_comes_113 (by decide) ?_
              refine lv_irem hx hb dX10_comes_114 (by decide) ?_
              refine lv_iconst (v := 2) hx hb dX10_comes_115 (by decide) ?_
              refine lv_icmp_ne (tgt := 123) hx hb dX10_comes_116 (by decide) (fun c13 => ?_) (fun c13 => ?_)
              · replace hf := it_f c13 hf
                refine lv_iconst (v := 0) hx hb dX10_comes_123 (by decide) ?_
                have hz : ((0 : Int32), r10.2) = q := Option.some.inj hf
                have hz1 := congrArg Prod.fst hz
                have hz2 := congrArg Prod.snd hz
                exact fin (0 : Int32) r10.2 _ _ _ _ hz1 hz2 hH dX10_comes_124
              · replace hf := it_t c13 hf
                refine lv_iconst (v := 1) hx hb dX10_comes_119 (by decide) ?_
                refine lv_goto (tgt := 124) hx hb dX10_comes_120 (by decide) ?_
                have hz : ((1 : Int32), r10.2) = q := Option.some.inj hf
                have hz1 := congrArg Prod.fst hz
                have hz2 := congrArg Prod.snd hz
                exact fin (1 : Int32) r10.2 _ _ _ _ hz1 hz2 hH dX10_comes_124
            · replace hf := it_t c12 hf
              refine lv_iload hx hb dX10_comes_104 (lv_at hl 0 rfl) ?_
              refine lv_goto (tgt := 124) hx hb dX10_comes_106 (by decide) ?_
              have hz : (r10.1, r10.2) = q := Option.some.inj hf
              have hz1 := congrArg Prod.fst hz
              have hz2 := congrArg Prod.snd hz
              exact fin r10.1 r10.2 _ _ _ _ hz1 hz2 hH dX10_comes_124
          · replace hf := it_f c11 hf
            refine lv_iload hx hb dX10_comes_68 (lv_at hl 8 rfl) ?_
            refine lv_if_ne (tgt := 80) hx hb dX10_comes_70 (by decide) (fun c14 => ?_) (fun c14 => ?_)
            · replace hf := it_f c14 hf
              refine lv_iload hx hb dX10_comes_80 (lv_at hl 8 rfl) ?_
              refine lv_iconst (v := 1) hx hb dX10_comes_82 (by decide) ?_
              refine lv_icmp_ne (tgt := 93) hx hb dX10_comes_83 (by decide) (fun c15 => ?_) (fun c15 => ?_)
              · replace hf := it_f c15 hf
                refine lv_aload_n hx hb dX10_comes_93 rfl (lv_at hl 1 rfl) ?_
                refine getO hC hH (0) rfl rfl in_X10_comes_X10 27 (by decide) (index := 159) (List.mem_of_getElem? (i := 5) rfl) rfl dX10_comes_94 ?_
                have hz : (gI r10.2 0 27, r10.2) = q := Option.some.inj hf
                have hz1 := congrArg Prod.fst hz
                have hz2 := congrArg Prod.snd hz
                exact fin (gI r10.2 0 27) r10.2 _ _ _ _ hz1 hz2 hH dX10_comes_97
              · replace hf := it_t c15 hf
                refine lv_aload_n hx hb dX10_comes_86 rfl (lv_at hl 1 rfl) ?_
                refine getO hC hH (0) rfl rfl in_X10_comes_X10 26 (by decide) (index := 156) (List.mem_of_getElem? (i := 4) rfl) rfl dX10_comes_87 ?_
                refine lv_goto (tgt := 97) hx hb dX10_comes_90 (by decide) ?_
                have hz : (gI r10.2 0 26, r10.2) = q := Option.some.inj hf
                have hz1 := congrArg Prod.fst hz
                have hz2 := congrArg Prod.snd hz
                exact fin (gI r10.2 0 26) r10.2 _ _ _ _ hz1 hz2 hH dX10_comes_97
            · replace hf := it_t c14 hf
              refine lv_aload_n hx hb dX10_comes_73 rfl (lv_at hl 1 rfl) ?_
              refine getO hC hH (0) rfl rfl in_X10_comes_X10 25 (by decide) (index := 153) (List.mem_of_getElem? (i := 3) rfl) rfl dX10_comes_74 ?_
              refine lv_goto (tgt := 97) hx hb dX10_comes_77 (by decide) ?_
              have hz : (gI r10.2 0 25, r10.2) = q := Option.some.inj hf
              have hz1 := congrArg Prod.fst hz
              have hz2 := congrArg Prod.snd hz
              exact fin (gI r10.2 0 25) r10.2 _ _ _ _ hz1 hz2 hH dX10_comes_97
        · replace hf := it_t c9 hf
          refine lv_ldc (v := -1000000) hx hb hown (hts (.constant RX10 166 (-1000000)) (List.mem_of_getElem? (i := 2) rfl)) dX10_comes_44 ?_
          exact fin (-1000000 : Int32) S1 _ _ _ _ (congrArg Prod.fst (Option.some.inj hf)) (congrArg Prod.snd (Option.some.inj hf)) hH dX10_comes_46
theorem in_X10_bestOf_X10 : ∀ w ∈ wsX100, w ∈ wsX10_bestOf := fun w h => List.mem_cons_of_mem _ (List.mem_append_right _ h)
set_option maxRecDepth 100000 in
set_option maxHeartbeats 4000000 in
theorem c_X10_bestOf (l : Launch) (G : Gt) (A : Nat → Prop) (N : Nat) (S : St)  (a1 : Int32) (a2 : Int32) (a3 : Int32) (q : Int32 × St) (hf : f_X10_bestOf N S a1 a2 a3 = some q) : Met l yX10_bestOf wsX10_bestOf ({ frames := 1, cells := 0, slots := 0, locals := 29 } : Room) (va_Pc [.ref (gM G 0), .int a1, .int a2, .int a3] (PK G A (MW G S))) (va_Qi (fun (r2 : Int32) S2 => r2 = q.1 ∧ S2 = q.2) (fun S2 : St => PK G A (MW G S2)) A) 0 0 A := by
  refine mstart_i (Wd := MW G) (cc := cX10_bestOf) (maxL := 10) (by decide) rfl (Nat.le_of_ble_eq_true rfl) (fun p e s m below meth c Qm ls hC hH hl fin => ?_)
  obtain ⟨hx, hb, hml, hown, hts⟩ := id hC.1
  have hl : lv_has ls 10 [(0, .ref (gM G 0)), (1, .int a1), (2, .int a2), (3, .int a3)] := hl
  have kL35 : ∀ (k100 : St → Int32 → Int32 → Int32 → Int32 → Option (Int32 × St)) (hk100 : ∀ (S : St) (x4 : Int32) (x5 : Int32) (x6 : Int32) (x7 : Int32) (H : Heap) (locs : List Loc) (ls : Array Slot), HW G A (MW G S) s H locs → lv_has ls 10 [(0, .ref (gM G 0)), (1, .int a1), (2, .int a2), (3, .int a3), (4, .int x4), (5, .int x5), (6, .int x6), (7, .int x7)] → k100 S x4 x5 x6 x7 = some q → W p l e ({ frames := 1, cells := 0, slots := 0, locals := 29 } : Room) s m [.ref (gM G 0), .int a1, .int a2, .int a3].toArray below meth c H locs 0 0 Qm (F0 m 100 ls [])) , ∀ (n : Nat), ∀ (S : St) (x4 : Int32) (x5 : Int32) (x6 : Int32) (x7 : Int32) (x8 : Int32) (H : Heap) (locs : List Loc) (ls : Array Slot), HW G A (MW G S) s H locs → lv_has ls 10 [(0, .ref (gM G 0)), (1, .int a1), (2, .int a2), (3, .int a3), (4, .int x4), (5, .int x5), (6, .int x6), (7, .int x7), (8, .int x8)] → g_X10_bestOf_35 N a1 a2 a3 k100 n S x4 x5 x6 x7 x8 = some q → W p l e ({ frames := 1, cells := 0, slots := 0, locals := 29 } : Room) s m [.ref (gM G 0), .int a1, .int a2, .int a3].toArray below meth c H locs 0 0 Qm (F0 m 35 ls []) := by
    intro k100 hk100 n
    induction n with
    | zero => intro S x4 x5 x6 x7 x8 H locs ls hH hl hf; exact absurd hf.symm (Option.some_ne_none q)
    | succ n ih =>
      intro S x4 x5 x6 x7 x8 H locs ls hH hl hf
      have hrec := ih
      have hf : s_X10_bestOf_35 N a1 a2 a3 k100 (g_X10_bestOf_35 N a1 a2 a3 k100 n) S x4 x5 x6 x7 x8 = some q := hf
      rw [s_X10_bestOf_35] at hf
      refine lv_iload hx hb dX10_bestOf_35 (lv_at hl 8 rfl) ?_
      refine lv_bipush (v := 8) hx hb dX10_bestOf_37 (by decide) ?_
      refine lv_icmp_ge (tgt := 100) hx hb dX10_bestOf_39 (by decide) (fun c5 => ?_) (fun c5 => ?_)
      · replace hf := it_t c5 hf
        exact hk100 S x4 x5 x6 x7 _ _ _ hH (lv_sub hl [0, 1, 2, 3, 4, 5, 6, 7] rfl) hf
      · replace hf := it_f c5 hf
        refine lv_aload_n hx hb dX10_bestOf_42 rfl (lv_at hl 0 rfl) ?_
        refine lv_iload_n hx hb dX10_bestOf_43 rfl (lv_at hl 1 rfl) ?_
        refine lv_iload_n hx hb dX10_bestOf_44 rfl (lv_at hl 2 rfl) ?_
        refine lv_iload hx hb dX10_bestOf_45 (lv_at hl 6 rfl) ?_
        refine lv_iload hx hb dX10_bestOf_47 (lv_at hl 7 rfl) ?_
        refine lv_iload hx hb dX10_bestOf_49 (lv_at hl 8 rfl) ?_
        refine lv_iload_n hx hb dX10_bestOf_51 rfl (lv_at hl 3 rfl) ?_
        obtain ⟨r6, hr6, hf⟩ := ob hf
        refine callV_i [.int a1, .int a2, .int x6, .int x7, .int x8, .int a3] [] hC hH (c_X10_reckons l G A S a1 a2 x6 x7 x8 a3 _ hr6) (cwV 6 hts gX10_bestOf_X10_reckons rfl rfl rfl (by decide +kernel) ⟨Nat.le_of_ble_eq_true rfl, Nat.le_of_ble_eq_true rfl⟩) (recvW hC hH (c0 := 0) (ci := 10) rfl rfl) rfl hl.1 rfl (Nat.le_of_ble_eq_true rfl) dX10_bestOf_52 (fun H locs hH => ?_)
        refine lv_istore (lv' := [(9, .int r6.1), (0, .ref (gM G 0)), (1, .int a1), (2, .int a2), (3, .int a3), (4, .int x4), (5, .int x5), (6, .int x6), (7, .int x7), (8, .int x8)]) hx hb dX10_bestOf_55 hl (by decide) rfl (fun ls hl => ?_)
        refine lv_aload_n hx hb dX10_bestOf_57 rfl (lv_at hl 1 rfl) ?_
        refine getO hC hH (0) rfl rfl in_X10_bestOf_X10 27 (by decide) (index := 159) (List.mem_of_getElem? (i := 2) rfl) rfl dX10_bestOf_58 ?_
        refine lv_iconst (v := 4) hx hb dX10_bestOf_61 (by decide) ?_
        refine lv_irem hx hb dX10_bestOf_62 (by decide) ?_
        refine lv_iconst (v := 2) hx hb dX10_bestOf_63 (by decide) ?_
        refine lv_icmp_ne (tgt := 94) hx hb dX10_bestOf_64 (by decide) (fun c7 => ?_) (fun c7 => ?_)
        · replace hf := it_f c7 hf
          refine lv_iinc (v := x8 + (1 : Int32)) (lv' := [(8, .int (x8 + (1 : Int32))), (9, .int r6.1), (0, .ref (gM G 0)), (1, .int a1), (2, .int a2), (3, .int a3), (4, .int x4), (5, .int x5), (6, .int x6), (7, .int x7)]) hx hb dX10_bestOf_94 hl (k := 9) rfl rfl (by decide) rfl (fun ls hl => ?_)
          refine lv_goto (tgt := 35) hx hb dX10_bestOf_97 (by decide) ?_
          exact hrec r6.2 x4 x5 x6 x7 (x8 + (1 : Int32)) _ _ _ hH (lv_sub hl [2, 3, 4, 5, 6, 7, 8, 9, 0] rfl) hf
        · replace hf := it_t c7 hf
          refine lv_iload hx hb dX10_bestOf_67 (lv_at hl 0 rfl) ?_
          refine lv_iload hx hb dX10_bestOf_69 (lv_at hl 6 rfl) ?_
          refine lv_icmp_le (tgt := 94) hx hb dX10_bestOf_71 (by decide) (fun c8 => ?_) (fun c8 => ?_)
          · replace hf := it_t c8 hf
            refine lv_iinc (v := x8 + (1 : Int32)) (lv' := [(8, .int (x8 + (1 : Int32))), (9, .int r6.1), (0, .ref (gM G 0)), (1, .int a1), (2, .int a2), (3, .int a3), (4, .int x4), (5, .int x5), (6, .int x6), (7, .int x7)]) hx hb dX10_bestOf_94 hl (k := 9) rfl rfl (by decide) rfl (fun ls hl => ?_)
            refine lv_goto (tgt := 35) hx hb dX10_bestOf_97 (by decide) ?_
            exact hrec r6.2 x4 x5 x6 x7 (x8 + (1 : Int32)) _ _ _ hH (lv_sub hl [2, 3, 4, 5, 6, 7, 8, 9, 0] rfl) hf
          · replace hf := it_f c8 hf
            refine lv_iload hx hb dX10_bestOf_74 (lv_at hl 0 rfl) ?_
            refine lv_istore (lv' := [(5, .int r6.1), (9, .int r6.1), (0, .ref (gM G 0)), (1, .int a1), (2, .int a2), (3, .int a3), (4, .int x4), (6, .int x6), (7, .int x7), (8, .int x8)]) hx hb dX10_bestOf_76 hl (by decide) rfl (fun ls hl => ?_)
            refine lv_bipush (v := 100) hx hb dX10_bestOf_78 (by decide) ?_
            refine lv_iload hx hb dX10_bestOf_80 (lv_at hl 7 rfl) ?_
            refine lv_imul hx hb dX10_bestOf_82 ?_
            refine lv_bipush (v := 10) hx hb dX10_bestOf_83 (by decide) ?_
            refine lv_iload hx hb dX10_bestOf_85 (lv_at hl 8 rfl) ?_
            refine lv_imul hx hb dX10_bestOf_87 ?_
            refine lv_iadd hx hb dX10_bestOf_88 ?_
            refine lv_iload hx hb dX10_bestOf_89 (lv_at hl 9 rfl) ?_
            refine lv_iadd hx hb dX10_bestOf_91 ?_
            refine lv_topi (fun b9 eb9 => ?_)
            replace hf := bn eb9 hf
            refine lv_istore (lv' := [(4, .int b9), (5, .int r6.1), (9, .int r6.1), (0, .ref (gM G 0)), (1, .int a1), (2, .int a2), (3, .int a3), (6, .int x6), (7, .int x7), (8, .int x8)]) hx hb dX10_bestOf_92 hl (by decide) rfl (fun ls hl => ?_)
            refine lv_iinc (v := x8 + (1 : Int32)) (lv' := [(8, .int (x8 + (1 : Int32))), (4, .int b9), (5, .int r6.1), (9, .int r6.1), (0, .ref (gM G 0)), (1, .int a1), (2, .int a2), (3, .int a3), (6, .int x6), (7, .int x7)]) hx hb dX10_bestOf_94 hl (k := 9) rfl rfl (by decide) rfl (fun ls hl => ?_)
            refine lv_goto (tgt := 35) hx hb dX10_bestOf_97 (by decide) ?_
            exact hrec r6.2 b9 r6.1 x6 x7 (x8 + (1 : Int32)) _ _ _ hH (lv_sub hl [4, 5, 6, 7, 1, 2, 8, 9, 0] rfl) hf
  have kL25 : ∀ (k106 : St → Int32 → Int32 → Int32 → Option (Int32 × St)) (hk106 : ∀ (S : St) (x4 : Int32) (x5 : Int32) (x6 : Int32) (H : Heap) (locs : List Loc) (ls : Array Slot), HW G A (MW G S) s H locs → lv_has ls 10 [(0, .ref (gM G 0)), (1, .int a1), (2, .int a2), (3, .int a3), (4, .int x4), (5, .int x5), (6, .int x6)] → k106 S x4 x5 x6 = some q → W p l e ({ frames := 1, cells := 0, slots := 0, locals := 29 } : Room) s m [.ref (gM G 0), .int a1, .int a2, .int a3].toArray below meth c H locs 0 0 Qm (F0 m 106 ls [])) , ∀ (n : Nat), ∀ (S : St) (x4 : Int32) (x5 : Int32) (x6 : Int32) (x7 : Int32) (H : Heap) (locs : List Loc) (ls : Array Slot), HW G A (MW G S) s H locs → lv_has ls 10 [(0, .ref (gM G 0)), (1, .int a1), (2, .int a2), (3, .int a3), (4, .int x4), (5, .int x5), (6, .int x6), (7, .int x7)] → g_X10_bestOf_25 N a1 a2 a3 k106 n S x4 x5 x6 x7 = some q → W p l e ({ frames := 1, cells := 0, slots := 0, locals := 29 } : Room) s m [.ref (gM G 0), .int a1, .int a2, .int a3].toArray below meth c H locs 0 0 Qm (F0 m 25 ls []) := by
    intro k106 hk106 n
    induction n with
    | zero => intro S x4 x5 x6 x7 H locs ls hH hl hf; exact absurd hf.symm (Option.some_ne_none q)
    | succ n ih =>
      intro S x4 x5 x6 x7 H locs ls hH hl hf
      have hrec := ih
      have hf : s_X10_bestOf_25 N a1 a2 a3 k106 (g_X10_bestOf_25 N a1 a2 a3 k106 n) S x4 x5 x6 x7 = some q := hf
      rw [s_X10_bestOf_25] at hf
      refine lv_iload hx hb dX10_bestOf_25 (lv_at hl 7 rfl) ?_
      refine lv_bipush (v := 10) hx hb dX10_bestOf_27 (by decide) ?_
      refine lv_icmp_ge (tgt := 106) hx hb dX10_bestOf_29 (by decide) (fun c4 => ?_) (fun c4 => ?_)
      · replace hf := it_t c4 hf
        exact hk106 S x4 x5 x6 _ _ _ hH (lv_sub hl [0, 1, 2, 3, 4, 5, 6] rfl) hf
      · replace hf := it_f c4 hf
        refine lv_iconst (v := 0) hx hb dX10_bestOf_32 (by decide) ?_
        refine lv_istore (lv' := [(8, .int (0 : Int32)), (0, .ref (gM G 0)), (1, .int a1), (2, .int a2), (3, .int a3), (4, .int x4), (5, .int x5), (6, .int x6), (7, .int x7)]) hx hb dX10_bestOf_33 hl (by decide) rfl (fun ls hl => ?_)
        refine kL35 _ ?_ N S x4 x5 x6 x7 (0 : Int32) _ _ _ hH (lv_sub hl [1, 2, 3, 4, 5, 6, 7, 8, 0] rfl) hf
        intro S14 y10 y11 y12 y13 H locs ls hH hl hf
        refine lv_iinc (v := y13 + (1 : Int32)) (lv' := [(7, .int (y13 + (1 : Int32))), (0, .ref (gM G 0)), (1, .int a1), (2, .int a2), (3, .int a3), (4, .int y10), (5, .int y11), (6, .int y12)]) hx hb dX10_bestOf_100 hl (k := 7) rfl rfl (by decide) rfl (fun ls hl => ?_)
        refine lv_goto (tgt := 25) hx hb dX10_bestOf_103 (by decide) ?_
        exact hrec S14 y10 y11 y12 (y13 + (1 : Int32)) _ _ _ hH (lv_sub hl [1, 2, 3, 4, 5, 6, 7, 0] rfl) hf
  have kL16 : ∀ (n : Nat), ∀ (S : St) (x4 : Int32) (x5 : Int32) (x6 : Int32) (H : Heap) (locs : List Loc) (ls : Array Slot), HW G A (MW G S) s H locs → lv_has ls 10 [(0, .ref (gM G 0)), (1, .int a1), (2, .int a2), (3, .int a3), (4, .int x4), (5, .int x5), (6, .int x6)] → g_X10_bestOf_16 N a1 a2 a3 n S x4 x5 x6 = some q → W p l e ({ frames := 1, cells := 0, slots := 0, locals := 29 } : Room) s m [.ref (gM G 0), .int a1, .int a2, .int a3].toArray below meth c H locs 0 0 Qm (F0 m 16 ls []) := by
    intro n
    induction n with
    | zero => intro S x4 x5 x6 H locs ls hH hl hf; exact absurd hf.symm (Option.some_ne_none q)
    | succ n ih =>
      intro S x4 x5 x6 H locs ls hH hl hf
      have hrec := ih
      have hf : s_X10_bestOf_16 N a1 a2 a3 (g_X10_bestOf_16 N a1 a2 a3 n) S x4 x5 x6 = some q := hf
      rw [s_X10_bestOf_16] at hf
      refine lv_iload hx hb dX10_bestOf_16 (lv_at hl 6 rfl) ?_
      refine lv_iconst (v := 5) hx hb dX10_bestOf_18 (by decide) ?_
      refine lv_icmp_ge (tgt := 112) hx hb dX10_bestOf_19 (by decide) (fun c3 => ?_) (fun c3 => ?_)
      · replace hf := it_t c3 hf
        refine lv_iload hx hb dX10_bestOf_112 (lv_at hl 4 rfl) ?_
        exact fin x4 S _ _ _ _ (congrArg Prod.fst (Option.some.inj hf)) (congrArg Prod.snd (Option.some.inj hf)) hH dX10_bestOf_114
      · replace hf := it_f c3 hf
        refine lv_iconst (v := 0) hx hb dX10_bestOf_22 (by decide) ?_
        refine lv_istore (lv' := [(7, .int (0 : Int32)), (0, .ref (gM G 0)), (1, .int a1), (2, .int a2), (3, .int a3), (4, .int x4), (5, .int x5), (6, .int x6)]) hx hb dX10_bestOf_23 hl (by decide) rfl (fun ls hl => ?_)
        refine kL25 _ ?_ N S x4 x5 x6 (0 : Int32) _ _ _ hH (lv_sub hl [1, 2, 3, 4, 5, 6, 7, 0] rfl) hf
        intro S18 y15 y16 y17 H locs ls hH hl hf
        refine lv_iinc (v := y17 + (1 : Int32)) (lv' := [(6, .int (y17 + (1 : Int32))), (0, .ref (gM G 0)), (1, .int a1), (2, .int a2), (3, .int a3), (4, .int y15), (5, .int y16)]) hx hb dX10_bestOf_106 hl (k := 6) rfl rfl (by decide) rfl (fun ls hl => ?_)
        refine lv_goto (tgt := 16) hx hb dX10_bestOf_109 (by decide) ?_
        exact hrec S18 y15 y16 (y17 + (1 : Int32)) _ _ _ hH (lv_sub hl [1, 2, 3, 4, 5, 6, 0] rfl) hf
  have hf := hf
  rw [f_X10_bestOf] at hf
  refine lv_bipush (v := -9) hx hb dX10_bestOf_0 (by decide) ?_
  refine lv_istore (lv' := [(4, .int (-9 : Int32)), (0, .ref (gM G 0)), (1, .int a1), (2, .int a2), (3, .int a3)]) hx hb dX10_bestOf_2 hl (by decide) rfl (fun ls hl => ?_)
  refine lv_bipush (v := -9) hx hb dX10_bestOf_4 (by decide) ?_
  refine lv_istore (lv' := [(5, .int (-9 : Int32)), (4, .int (-9 : Int32)), (0, .ref (gM G 0)), (1, .int a1), (2, .int a2), (3, .int a3)]) hx hb dX10_bestOf_6 hl (by decide) rfl (fun ls hl => ?_)
  refine lv_aload_n hx hb dX10_bestOf_8 rfl (lv_at hl 2 rfl) ?_
  refine getO hC hH (0) rfl rfl in_X10_bestOf_X10 13 (by decide) (index := 25) (List.mem_of_getElem? (i := 1) rfl) rfl dX10_bestOf_9 ?_
  refine lv_iconst (v := 4) hx hb dX10_bestOf_12 (by decide) ?_
  obtain ⟨g1, hf⟩ := gd hf
  refine aldI hC hH (6) rfl g1 dX10_bestOf_13 ?_
  refine lv_topi (fun b2 eb2 => ?_)
  replace hf := bn eb2 hf
  refine lv_istore (lv' := [(6, .int b2), (5, .int (-9 : Int32)), (4, .int (-9 : Int32)), (0, .ref (gM G 0)), (1, .int a1), (2, .int a2), (3, .int a3)]) hx hb dX10_bestOf_14 hl (by decide) rfl (fun ls hl => ?_)
  refine kL16 N S (-9 : Int32) (-9 : Int32) b2 _ _ _ hH (lv_sub hl [3, 4, 5, 6, 2, 1, 0] rfl) hf
theorem in_X10_sureOf_X10 : ∀ w ∈ wsX100, w ∈ wsX10_sureOf := fun w h => List.mem_cons_of_mem _ (List.mem_append_right _ h)
set_option maxRecDepth 100000 in
set_option maxHeartbeats 4000000 in
theorem c_X10_sureOf (l : Launch) (G : Gt) (A : Nat → Prop) (S : St)  (a1 : Int32) (a2 : Int32) (a3 : Int32) (a4 : Int32) (q : Int32 × St) (hf : f_X10_sureOf S a1 a2 a3 a4 = some q) : Met l yX10_sureOf wsX10_sureOf ({ frames := 1, cells := 0, slots := 0, locals := 29 } : Room) (va_Pc [.ref (gM G 0), .int a1, .int a2, .int a3, .int a4] (PK G A (MW G S))) (va_Qi (fun (r2 : Int32) S2 => r2 = q.1 ∧ S2 = q.2) (fun S2 : St => PK G A (MW G S2)) A) 0 0 A := by
  refine mstart_i (Wd := MW G) (cc := cX10_sureOf) (maxL := 5) (by decide) rfl (Nat.le_of_ble_eq_true rfl) (fun p e s m below meth c Qm ls hC hH hl fin => ?_)
  obtain ⟨hx, hb, hml, hown, hts⟩ := id hC.1
  have hl : lv_has ls 5 [(0, .ref (gM G 0)), (1, .int a1), (2, .int a2), (3, .int a3), (4, .int a4)] := hl
  have hf := hf
  rw [f_X10_sureOf] at hf
  refine lv_aload_n hx hb dX10_sureOf_0 rfl (lv_at hl 0 rfl) ?_
  refine lv_iload_n hx hb dX10_sureOf_1 rfl (lv_at hl 1 rfl) ?_
  refine lv_iload_n hx hb dX10_sureOf_2 rfl (lv_at hl 2 rfl) ?_
  refine lv_iload hx hb dX10_sureOf_3 (lv_at hl 4 rfl) ?_
  refine lv_bipush (v := 100) hx hb dX10_sureOf_5 (by decide) ?_
  refine lv_idiv hx hb dX10_sureOf_7 (by decide) ?_
  refine lv_iload hx hb dX10_sureOf_8 (lv_at hl 4 rfl) ?_
  refine lv_bipush (v := 10) hx hb dX10_sureOf_10 (by decide) ?_
  refine lv_idiv hx hb dX10_sureOf_12 (by decide) ?_
  refine lv_bipush (v := 10) hx hb dX10_sureOf_13 (by decide) ?_
  refine lv_irem hx hb dX10_sureOf_15 (by decide) ?_
  refine lv_iload hx hb dX10_sureOf_16 (lv_at hl 4 rfl) ?_
  refine lv_bipush (v := 10) hx hb dX10_sureOf_18 (by decide) ?_
  refine lv_irem hx hb dX10_sureOf_20 (by decide) ?_
  refine lv_iload_n hx hb dX10_sureOf_21 rfl (lv_at hl 3 rfl) ?_
  obtain ⟨r1, hr1, hf⟩ := ob hf
  refine callV_i [.int a1, .int a2, .int (a4 / (100 : Int32)), .int ((a4 / (10 : Int32)) - (a4 / (10 : Int32)) / (10 : Int32) * (10 : Int32)), .int (a4 - a4 / (10 : Int32) * (10 : Int32)), .int a3] [] hC hH (c_X10_reckons l G A S a1 a2 (a4 / (100 : Int32)) ((a4 / (10 : Int32)) - (a4 / (10 : Int32)) / (10 : Int32) * (10 : Int32)) (a4 - a4 / (10 : Int32) * (10 : Int32)) a3 _ hr1) (cwV 6 hts gX10_sureOf_X10_reckons rfl rfl rfl (by decide +kernel) ⟨Nat.le_of_ble_eq_true rfl, Nat.le_of_ble_eq_true rfl⟩) (recvW hC hH (c0 := 0) (ci := 10) rfl rfl) rfl hl.1 rfl (Nat.le_of_ble_eq_true rfl) dX10_sureOf_22 (fun H locs hH => ?_)
  have hz : (r1.1, r1.2) = q := Option.some.inj hf
  have hz1 := congrArg Prod.fst hz
  have hz2 := congrArg Prod.snd hz
  exact fin r1.1 r1.2 _ _ _ _ hz1 hz2 hH dX10_sureOf_25
