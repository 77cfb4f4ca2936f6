/-! walks: X9_isAtEnd X9_isHome X9_runner X9_isBit X9_isToss X9_comes X9_best X9_runs X9_toss -/
theorem in_X9_isAtEnd_X3 : ∀ w ∈ wsX30, w ∈ wsX9_isAtEnd := fun w h => List.mem_cons_of_mem _ (List.mem_append_left _ (List.mem_append_right _ h))
theorem in_X9_isAtEnd_X7 : ∀ w ∈ wsX70, w ∈ wsX9_isAtEnd := fun w h => List.mem_cons_of_mem _ (List.mem_append_right _ h)
theorem in_X9_isAtEnd_X9 : ∀ w ∈ wsX90, w ∈ wsX9_isAtEnd := fun w h => List.mem_cons_of_mem _ (List.mem_append_left _ (List.mem_append_left _ (List.mem_append_right _ h)))
set_option maxRecDepth 100000 in
set_option maxHeartbeats 4000000 in
theorem c_X9_isAtEnd (l : Launch) (G : Gt) (A : Nat → Prop) (S : St)  (a1 : Int32) (q : Int32) (hf : f_X9_isAtEnd S a1 = some q) : Met l yX9_isAtEnd wsX9_isAtEnd ({ frames := 1, cells := 0, slots := 0, locals := 21 } : Room) (va_Pc [.ref (gC G 0), .int a1] (PK G A (CW G S))) (va_Qi (fun (r2 : Int32) S2 => r2 = q ∧ S2 = S) (fun S2 : St => PK G A (CW G S2)) A) 0 0 A := by
  refine mstart_z (ty := .boolean) (Wd := CW G) (cc := cX9_isAtEnd) (maxL := 2) (by decide) rfl (Nat.le_of_ble_eq_true rfl) (fun p e s m below meth c Qm ls hC hH hl fin => ?_)
  obtain ⟨hx, hb, hml, hown, hts⟩ := id hC.1
  have hl : lv_has ls 2 [(0, .ref (gC G 0)), (1, .int a1)] := hl
  have hf := hf
  rw [f_X9_isAtEnd] at hf
  refine lv_aload_n hx hb dX9_isAtEnd_0 rfl (lv_at hl 0 rfl) ?_
  refine getO hC hH (0) rfl rfl in_X9_isAtEnd_X9 2 (by decide) (index := 24) (List.mem_of_getElem? (i := 1) rfl) rfl dX9_isAtEnd_1 ?_
  refine lv_iload_n hx hb dX9_isAtEnd_4 rfl (lv_at hl 1 rfl) ?_
  obtain ⟨r1, hr1, hf⟩ := ob hf
  refine callV_i [.int a1] [] hC hH (c_X7_yardOf l G A S 0 (by decide) a1 _ hr1) (cwV 1 hts gX9_isAtEnd_X7_yardOf rfl rfl rfl (by decide +kernel) ⟨Nat.le_of_ble_eq_true rfl, Nat.le_of_ble_eq_true rfl⟩) (recvW hC hH (c0 := 4 + 5 * 0) (ci := 7) (cw_runs (i := 0) (by decide)) rfl) rfl hl.1 rfl (Nat.le_of_ble_eq_true rfl) dX9_isAtEnd_5 (fun H locs hH => ?_)
  refine lv_aload_n hx hb dX9_isAtEnd_8 rfl (lv_at hl 0 rfl) ?_
  refine getO hC hH (0) rfl rfl in_X9_isAtEnd_X9 9 (by decide) (index := 69) (List.mem_of_getElem? (i := 2) rfl) rfl dX9_isAtEnd_9 ?_
  refine getN hC hH (33 + 5 * (gCo S).toNat) (cw_lane (i := (gCo S).toNat) (Bool.toNat_lt _)) rfl in_X9_isAtEnd_X3 4 (by decide) (index := 120) (List.mem_of_getElem? (i := 12) rfl) rfl dX9_isAtEnd_12 ?_
  refine lv_icmp_lt (tgt := 22) hx hb dX9_isAtEnd_15 (by decide) (fun c2 => ?_) (fun c2 => ?_)
  · replace hf := it_t c2 hf
    refine lv_iconst (v := 0) hx hb dX9_isAtEnd_22 (by decide) ?_
    exact fin (0 : Int32) S _ _ _ _ rfl (Option.some.inj hf) rfl hH dX9_isAtEnd_23
  · replace hf := it_f c2 hf
    refine lv_iconst (v := 1) hx hb dX9_isAtEnd_18 (by decide) ?_
    refine lv_goto (tgt := 23) hx hb dX9_isAtEnd_19 (by decide) ?_
    exact fin (1 : Int32) S _ _ _ _ rfl (Option.some.inj hf) rfl hH dX9_isAtEnd_23
theorem in_X9_isHome_X3 : ∀ w ∈ wsX30, w ∈ wsX9_isHome := fun w h => List.mem_cons_of_mem _ (List.mem_append_left _ (List.mem_append_right _ h))
theorem in_X9_isHome_X7 : ∀ w ∈ wsX70, w ∈ wsX9_isHome := fun w h => List.mem_cons_of_mem _ (List.mem_append_right _ h)
theorem in_X9_isHome_X9 : ∀ w ∈ wsX90, w ∈ wsX9_isHome := fun w h => List.mem_cons_of_mem _ (List.mem_append_left _ (List.mem_append_left _ (List.mem_append_right _ h)))
set_option maxRecDepth 100000 in
set_option maxHeartbeats 4000000 in
theorem c_X9_isHome (l : Launch) (G : Gt) (A : Nat → Prop) (S : St)  (a1 : Int32) (q : Int32) (hf : f_X9_isHome S a1 = some q) : Met l yX9_isHome wsX9_isHome ({ frames := 2, cells := 0, slots := 0, locals := 42 } : Room) (va_Pc [.ref (gC G 0), .int a1] (PK G A (CW G S))) (va_Qi (fun (r2 : Int32) S2 => r2 = q ∧ S2 = S) (fun S2 : St => PK G A (CW G S2)) A) 0 0 A := by
  refine mstart_z (ty := .boolean) (Wd := CW G) (cc := cX9_isHome) (maxL := 2) (by decide) rfl (Nat.le_of_ble_eq_true rfl) (fun p e s m below meth c Qm ls hC hH hl fin => ?_)
  obtain ⟨hx, hb, hml, hown, hts⟩ := id hC.1
  have hl : lv_has ls 2 [(0, .ref (gC G 0)), (1, .int a1)] := hl
  have hf := hf
  rw [f_X9_isHome] at hf
  refine lv_aload_n hx hb dX9_isHome_0 rfl (lv_at hl 0 rfl) ?_
  refine lv_iload_n hx hb dX9_isHome_1 rfl (lv_at hl 1 rfl) ?_
  obtain ⟨r1, hr1, hf⟩ := ob hf
  refine callV_i [.int a1] [] hC hH (c_X9_isAtEnd l G A S a1 _ hr1) (cwV 1 hts gX9_isHome_X9_isAtEnd rfl rfl rfl (by decide +kernel) ⟨Nat.le_of_ble_eq_true rfl, Nat.le_of_ble_eq_true rfl⟩) (recvW hC hH (c0 := 0) (ci := 9) rfl rfl) rfl hl.1 rfl (Nat.le_of_ble_eq_true rfl) dX9_isHome_2 (fun H locs hH => ?_)
  refine lv_if_eq (tgt := 30) hx hb dX9_isHome_5 (by decide) (fun c2 => ?_) (fun c2 => ?_)
  · replace hf := it_t c2 hf
    refine lv_iconst (v := 0) hx hb dX9_isHome_30 (by decide) ?_
    exact fin (0 : Int32) S _ _ _ _ rfl (Option.some.inj hf) rfl hH dX9_isHome_31
  · replace hf := it_f c2 hf
    refine lv_aload_n hx hb dX9_isHome_8 rfl (lv_at hl 0 rfl) ?_
    refine getO hC hH (0) rfl rfl in_X9_isHome_X9 2 (by decide) (index := 24) (List.mem_of_getElem? (i := 1) rfl) rfl dX9_isHome_9 ?_
    refine lv_iload_n hx hb dX9_isHome_12 rfl (lv_at hl 1 rfl) ?_
    obtain ⟨r3, hr3, hf⟩ := ob hf
    refine callV_i [.int a1] [] hC hH (c_X7_goodOf l G A S 0 (by decide) a1 _ hr3) (cwV 1 hts gX9_isHome_X7_goodOf rfl rfl rfl (by decide +kernel) ⟨Nat.le_of_ble_eq_true rfl, Nat.le_of_ble_eq_true rfl⟩) (recvW hC hH (c0 := 4 + 5 * 0) (ci := 7) (cw_runs (i := 0) (by decide)) rfl) rfl hl.1 rfl (Nat.le_of_ble_eq_true rfl) dX9_isHome_13 (fun H locs hH => ?_)
    refine lv_aload_n hx hb dX9_isHome_16 rfl (lv_at hl 0 rfl) ?_
    refine getO hC hH (0) rfl rfl in_X9_isHome_X9 9 (by decide) (index := 69) (List.mem_of_getElem? (i := 2) rfl) rfl dX9_isHome_17 ?_
    refine getN hC hH (33 + 5 * (gCo S).toNat) (cw_lane (i := (gCo S).toNat) (Bool.toNat_lt _)) rfl in_X9_isHome_X3 7 (by decide) (index := 126) (List.mem_of_getElem? (i := 20) rfl) rfl dX9_isHome_20 ?_
    refine lv_icmp_lt (tgt := 30) hx hb dX9_isHome_23 (by decide) (fun c4 => ?_) (fun c4 => ?_)
    · replace hf := it_t c4 hf
      refine lv_iconst (v := 0) hx hb dX9_isHome_30 (by decide) ?_
      exact fin (0 : Int32) S _ _ _ _ rfl (Option.some.inj hf) rfl hH dX9_isHome_31
    · replace hf := it_f c4 hf
      refine lv_iconst (v := 1) hx hb dX9_isHome_26 (by decide) ?_
      refine lv_goto (tgt := 31) hx hb dX9_isHome_27 (by decide) ?_
      exact fin (1 : Int32) S _ _ _ _ rfl (Option.some.inj hf) rfl hH dX9_isHome_31
theorem in_X9_runner_X3 : ∀ w ∈ wsX30, w ∈ wsX9_runner := fun w h => List.mem_cons_of_mem _ (List.mem_append_left _ (List.mem_append_right _ h))
theorem in_X9_runner_X7 : ∀ w ∈ wsX70, w ∈ wsX9_runner := fun w h => List.mem_cons_of_mem _ (List.mem_append_right _ h)
theorem in_X9_runner_X9 : ∀ w ∈ wsX90, w ∈ wsX9_runner := fun w h => List.mem_cons_of_mem _ (List.mem_append_left _ (List.mem_append_left _ (List.mem_append_right _ h)))
set_option maxRecDepth 100000 in
set_option maxHeartbeats 4000000 in
theorem c_X9_runner (l : Launch) (G : Gt) (A : Nat → Prop) (S : St)  (a1 : Int32) (a2 : Int32) (q : Int32) (hf : f_X9_runner S a1 a2 = some q) : Met l yX9_runner wsX9_runner ({ frames := 3, cells := 0, slots := 0, locals := 63 } : Room) (va_Pc [.ref (gC G 0), .int a1, .int a2] (PK G A (CW G S))) (va_Qi (fun (r2 : Int32) S2 => r2 = q ∧ S2 = S) (fun S2 : St => PK G A (CW G S2)) A) 0 0 A := by
  refine mstart_i (Wd := CW G) (cc := cX9_runner) (maxL := 3) (by decide) rfl (Nat.le_of_ble_eq_true rfl) (fun p e s m below meth c Qm ls hC hH hl fin => ?_)
  obtain ⟨hx, hb, hml, hown, hts⟩ := id hC.1
  have hl : lv_has ls 3 [(0, .ref (gC G 0)), (1, .int a1), (2, .int a2)] := hl
  have hf := hf
  rw [f_X9_runner] at hf
  refine lv_aload_n hx hb dX9_runner_0 rfl (lv_at hl 0 rfl) ?_
  refine getO hC hH (0) rfl rfl in_X9_runner_X9 9 (by decide) (index := 69) (List.mem_of_getElem? (i := 1) rfl) rfl dX9_runner_1 ?_
  refine lv_iload_n hx hb dX9_runner_4 rfl (lv_at hl 1 rfl) ?_
  obtain ⟨r1, hr1, hf⟩ := ob hf
  refine callV_i [.int a1] [] hC hH (c_X3_isRunner l G A S ((gCo S).toNat) (Bool.toNat_lt _) a1 _ hr1) (cwV 1 hts gX9_runner_X3_isRunner rfl rfl rfl (by decide +kernel) ⟨Nat.le_of_ble_eq_true rfl, Nat.le_of_ble_eq_true rfl⟩) (recvW hC hH (c0 := 33 + 5 * (gCo S).toNat) (ci := 3) (cw_lane (i := (gCo S).toNat) (Bool.toNat_lt _)) rfl) rfl hl.1 rfl (Nat.le_of_ble_eq_true rfl) dX9_runner_5 (fun H locs hH => ?_)
  refine lv_if_ne (tgt := 13) hx hb dX9_runner_8 (by decide) (fun c2 => ?_) (fun c2 => ?_)
  · replace hf := it_f c2 hf
    refine lv_iload_n hx hb dX9_runner_13 rfl (lv_at hl 2 rfl) ?_
    by_cases c3 : a2 = (0 : Int32)
    · replace hf := it_t c3 hf
      refine lv_tableIn (tgt := 52) hx hb dX9_runner_14 (by rw [c3]; decide) (by rw [c3]; decide) (by rw [c3]; rfl) (by decide) ?_
      refine lv_aload_n hx hb dX9_runner_52 rfl (lv_at hl 0 rfl) ?_
      refine getO hC hH (0) rfl rfl in_X9_runner_X9 9 (by decide) (index := 69) (List.mem_of_getElem? (i := 1) rfl) rfl dX9_runner_53 ?_
      refine lv_iload_n hx hb dX9_runner_56 rfl (lv_at hl 1 rfl) ?_
      obtain ⟨r4, hr4, hf⟩ := ob hf
      refine callV_i [.int a1] [] hC hH (c_X3_paceOf l G A S ((gCo S).toNat) (Bool.toNat_lt _) a1 _ hr4) (cwV 1 hts gX9_runner_X3_paceOf rfl rfl rfl (by decide +kernel) ⟨Nat.le_of_ble_eq_true rfl, Nat.le_of_ble_eq_true rfl⟩) (recvW hC hH (c0 := 33 + 5 * (gCo S).toNat) (ci := 3) (cw_lane (i := (gCo S).toNat) (Bool.toNat_lt _)) rfl) rfl hl.1 rfl (Nat.le_of_ble_eq_true rfl) dX9_runner_57 (fun H locs hH => ?_)
      exact fin r4 S _ _ _ _ (Option.some.inj hf) rfl hH dX9_runner_60
    replace hf := it_f c3 hf
    by_cases c5 : a2 = (1 : Int32)
    · replace hf := it_t c5 hf
      refine lv_tableIn (tgt := 61) hx hb dX9_runner_14 (by rw [c5]; decide) (by rw [c5]; decide) (by rw [c5]; rfl) (by decide) ?_
      refine lv_aload_n hx hb dX9_runner_61 rfl (lv_at hl 0 rfl) ?_
      refine getO hC hH (0) rfl rfl in_X9_runner_X9 9 (by decide) (index := 69) (List.mem_of_getElem? (i := 1) rfl) rfl dX9_runner_62 ?_
      refine lv_iload_n hx hb dX9_runner_65 rfl (lv_at hl 1 rfl) ?_
      obtain ⟨r6, hr6, hf⟩ := ob hf
      refine callV_i [.int a1] [] hC hH (c_X3_panOf l G A S ((gCo S).toNat) (Bool.toNat_lt _) a1 _ hr6) (cwV 1 hts gX9_runner_X3_panOf rfl rfl rfl (by decide +kernel) ⟨Nat.le_of_ble_eq_true rfl, Nat.le_of_ble_eq_true rfl⟩) (recvW hC hH (c0 := 33 + 5 * (gCo S).toNat) (ci := 3) (cw_lane (i := (gCo S).toNat) (Bool.toNat_lt _)) rfl) rfl hl.1 rfl (Nat.le_of_ble_eq_true rfl) dX9_runner_66 (fun H locs hH => ?_)
      exact fin r6 S _ _ _ _ (Option.some.inj hf) rfl hH dX9_runner_69
    replace hf := it_f c5 hf
    by_cases c7 : a2 = (2 : Int32)
    · replace hf := it_t c7 hf
      refine lv_tableIn (tgt := 70) hx hb dX9_runner_14 (by rw [c7]; decide) (by rw [c7]; decide) (by rw [c7]; rfl) (by decide) ?_
      refine lv_aload_n hx hb dX9_runner_70 rfl (lv_at hl 0 rfl) ?_
      refine getO hC hH (0) rfl rfl in_X9_runner_X9 2 (by decide) (index := 24) (List.mem_of_getElem? (i := 2) rfl) rfl dX9_runner_71 ?_
      refine lv_iload_n hx hb dX9_runner_74 rfl (lv_at hl 1 rfl) ?_
      obtain ⟨r8, hr8, hf⟩ := ob hf
      refine callV_i [.int a1] [] hC hH (c_X7_yardOf l G A S 0 (by decide) a1 _ hr8) (cwV 1 hts gX9_runner_X7_yardOf rfl rfl rfl (by decide +kernel) ⟨Nat.le_of_ble_eq_true rfl, Nat.le_of_ble_eq_true rfl⟩) (recvW hC hH (c0 := 4 + 5 * 0) (ci := 7) (cw_runs (i := 0) (by decide)) rfl) rfl hl.1 rfl (Nat.le_of_ble_eq_true rfl) dX9_runner_75 (fun H locs hH => ?_)
      exact fin r8 S _ _ _ _ (Option.some.inj hf) rfl hH dX9_runner_78
    replace hf := it_f c7 hf
    by_cases c9 : a2 = (3 : Int32)
    · replace hf := it_t c9 hf
      refine lv_tableIn (tgt := 79) hx hb dX9_runner_14 (by rw [c9]; decide) (by rw [c9]; decide) (by rw [c9]; rfl) (by decide) ?_
      refine lv_aload_n hx hb dX9_runner_79 rfl (lv_at hl 0 rfl) ?_
      refine getO hC hH (0) rfl rfl in_X9_runner_X9 2 (by decide) (index := 24) (List.mem_of_getElem? (i := 2) rfl) rfl dX9_runner_80 ?_
      refine lv_iload_n hx hb dX9_runner_83 rfl (lv_at hl 1 rfl) ?_
      obtain ⟨r10, hr10, hf⟩ := ob hf
      refine callV_i [.int a1] [] hC hH (c_X7_beatsOf l G A S 0 (by decide) a1 _ hr10) (cwV 1 hts gX9_runner_X7_beatsOf rfl rfl rfl (by decide +kernel) ⟨Nat.le_of_ble_eq_true rfl, Nat.le_of_ble_eq_true rfl⟩) (recvW hC hH (c0 := 4 + 5 * 0) (ci := 7) (cw_runs (i := 0) (by decide)) rfl) rfl hl.1 rfl (Nat.le_of_ble_eq_true rfl) dX9_runner_84 (fun H locs hH => ?_)
      exact fin r10 S _ _ _ _ (Option.some.inj hf) rfl hH dX9_runner_87
    replace hf := it_f c9 hf
    by_cases c11 : a2 = (4 : Int32)
    · replace hf := it_t c11 hf
      refine lv_tableIn (tgt := 88) hx hb dX9_runner_14 (by rw [c11]; decide) (by rw [c11]; decide) (by rw [c11]; rfl) (by decide) ?_
      refine lv_aload_n hx hb dX9_runner_88 rfl (lv_at hl 0 rfl) ?_
      refine getO hC hH (0) rfl rfl in_X9_runner_X9 2 (by decide) (index := 24) (List.mem_of_getElem? (i := 2) rfl) rfl dX9_runner_89 ?_
      refine lv_iload_n hx hb dX9_runner_92 rfl (lv_at hl 1 rfl) ?_
      obtain ⟨r12, hr12, hf⟩ := ob hf
      refine callV_i [.int a1] [] hC hH (c_X7_goodOf l G A S 0 (by decide) a1 _ hr12) (cwV 1 hts gX9_runner_X7_goodOf rfl rfl rfl (by decide +kernel) ⟨Nat.le_of_ble_eq_true rfl, Nat.le_of_ble_eq_true rfl⟩) (recvW hC hH (c0 := 4 + 5 * 0) (ci := 7) (cw_runs (i := 0) (by decide)) rfl) rfl hl.1 rfl (Nat.le_of_ble_eq_true rfl) dX9_runner_93 (fun H locs hH => ?_)
      exact fin r12 S _ _ _ _ (Option.some.inj hf) rfl hH dX9_runner_96
    replace hf := it_f c11 hf
    by_cases c13 : a2 = (5 : Int32)
    · replace hf := it_t c13 hf
      refine lv_tableIn (tgt := 97) hx hb dX9_runner_14 (by rw [c13]; decide) (by rw [c13]; decide) (by rw [c13]; rfl) (by decide) ?_
      refine lv_aload_n hx hb dX9_runner_97 rfl (lv_at hl 0 rfl) ?_
      refine lv_iload_n hx hb dX9_runner_98 rfl (lv_at hl 1 rfl) ?_
      obtain ⟨r14, hr14, hf⟩ := ob hf
      refine callV_i [.int a1] [] hC hH (c_X9_isHome l G A S a1 _ hr14) (cwV 1 hts gX9_runner_X9_isHome rfl rfl rfl (by decide +kernel) ⟨Nat.le_of_ble_eq_true rfl, Nat.le_of_ble_eq_true rfl⟩) (recvW hC hH (c0 := 0) (ci := 9) rfl rfl) rfl hl.1 rfl (Nat.le_of_ble_eq_true rfl) dX9_runner_99 (fun H locs hH => ?_)
      refine lv_if_eq (tgt := 109) hx hb dX9_runner_102 (by decide) (fun c15 => ?_) (fun c15 => ?_)
      · replace hf := it_t c15 hf
        refine lv_iconst (v := 0) hx hb dX9_runner_109 (by decide) ?_
        exact fin (0 : Int32) S _ _ _ _ (Option.some.inj hf) rfl hH dX9_runner_110
      · replace hf := it_f c15 hf
        refine lv_iconst (v := 1) hx hb dX9_runner_105 (by decide) ?_
        refine lv_goto (tgt := 110) hx hb dX9_runner_106 (by decide) ?_
        exact fin (1 : Int32) S _ _ _ _ (Option.some.inj hf) rfl hH dX9_runner_110
    replace hf := it_f c13 hf
    refine lv_tableOut (tgt := 111) hx hb dX9_runner_14 (by have z0 := lv_neT (a := 0) c3 (by decide); have z1 := lv_neT (a := 1) c5 (by decide); have z2 := lv_neT (a := 2) c7 (by decide); have z3 := lv_neT (a := 3) c9 (by decide); have z4 := lv_neT (a := 4) c11 (by decide); have z5 := lv_neT (a := 5) c13 (by decide); omega) (by decide) ?_
    refine lv_iconst (v := -1) hx hb dX9_runner_111 (by decide) ?_
    exact fin (-1 : Int32) S _ _ _ _ (Option.some.inj hf) rfl hH dX9_runner_112
  · replace hf := it_t c2 hf
    refine lv_iconst (v := -1) hx hb dX9_runner_11 (by decide) ?_
    exact fin (-1 : Int32) S _ _ _ _ (Option.some.inj hf) rfl hH dX9_runner_12
set_option maxRecDepth 100000 in
set_option maxHeartbeats 4000000 in
theorem c_X9_isBit (l : Launch) (G : Gt) (A : Nat → Prop) (S : St)  (a0 : Int32) (q : Int32) (hf : f_X9_isBit a0 = some q) : Met l yX9_isBit wsX9_isBit ({ frames := 0, cells := 0, slots := 0, locals := 0 } : Room) (va_Pc [.int a0] (PK G A (CW G S))) (va_Qi (fun (r2 : Int32) S2 => r2 = q ∧ S2 = S) (fun S2 : St => PK G A (CW G S2)) A) 0 0 A := by
  refine mstart_z (ty := .boolean) (Wd := CW G) (cc := cX9_isBit) (maxL := 1) (by decide) rfl (Nat.le_of_ble_eq_true rfl) (fun p e s m below meth c Qm ls hC hH hl fin => ?_)
  obtain ⟨hx, hb, hml, hown, hts⟩ := id hC.1
  have hl : lv_has ls 1 [(0, .int a0)] := hl
  have hf := hf
  rw [f_X9_isBit] at hf
  refine lv_iload_n hx hb dX9_isBit_0 rfl (lv_at hl 0 rfl) ?_
  refine lv_if_eq (tgt := 9) hx hb dX9_isBit_1 (by decide) (fun c1 => ?_) (fun c1 => ?_)
  · replace hf := it_t c1 hf
    refine lv_iconst (v := 1) hx hb dX9_isBit_9 (by decide) ?_
    refine lv_goto (tgt := 14) hx hb dX9_isBit_10 (by decide) ?_
    exact fin (1 : Int32) S _ _ _ _ rfl (Option.some.inj hf) rfl hH dX9_isBit_14
  · replace hf := it_f c1 hf
    refine lv_iload_n hx hb dX9_isBit_4 rfl (lv_at hl 0 rfl) ?_
    refine lv_iconst (v := 1) hx hb dX9_isBit_5 (by decide) ?_
    refine lv_icmp_ne (tgt := 13) hx hb dX9_isBit_6 (by decide) (fun c2 => ?_) (fun c2 => ?_)
    · replace hf := it_f c2 hf
      refine lv_iconst (v := 0) hx hb dX9_isBit_13 (by decide) ?_
      exact fin (0 : Int32) S _ _ _ _ rfl (Option.some.inj hf) rfl hH dX9_isBit_14
    · replace hf := it_t c2 hf
      refine lv_iconst (v := 1) hx hb dX9_isBit_9 (by decide) ?_
      refine lv_goto (tgt := 14) hx hb dX9_isBit_10 (by decide) ?_
      exact fin (1 : Int32) S _ _ _ _ rfl (Option.some.inj hf) rfl hH dX9_isBit_14
set_option maxRecDepth 100000 in
set_option maxHeartbeats 4000000 in
theorem c_X9_isToss (l : Launch) (G : Gt) (A : Nat → Prop) (S : St)  (a0 : Int32) (a1 : Int32) (a2 : Int32) (a3 : Int32) (q : Int32) (hf : f_X9_isToss a0 a1 a2 a3 = some q) : Met l yX9_isToss wsX9_isToss ({ frames := 1, cells := 0, slots := 0, locals := 20 } : Room) (va_Pc [.int a0, .int a1, .int a2, .int a3] (PK G A (CW G S))) (va_Qi (fun (r2 : Int32) S2 => r2 = q ∧ S2 = S) (fun S2 : St => PK G A (CW G S2)) A) 0 0 A := by
  refine mstart_z (ty := .boolean) (Wd := CW G) (cc := cX9_isToss) (maxL := 4) (by decide) rfl (Nat.le_of_ble_eq_true rfl) (fun p e s m below meth c Qm ls hC hH hl fin => ?_)
  obtain ⟨hx, hb, hml, hown, hts⟩ := id hC.1
  have hl : lv_has ls 4 [(0, .int a0), (1, .int a1), (2, .int a2), (3, .int a3)] := hl
  have hf := hf
  rw [f_X9_isToss] at hf
  refine lv_iload_n hx hb dX9_isToss_0 rfl (lv_at hl 0 rfl) ?_
  refine lv_iconst (v := 1) hx hb dX9_isToss_1 (by decide) ?_
  refine lv_icmp_lt (tgt := 41) hx hb dX9_isToss_2 (by decide) (fun c1 => ?_) (fun c1 => ?_)
  · replace hf := it_t c1 hf
    refine lv_iconst (v := 0) hx hb dX9_isToss_41 (by decide) ?_
    exact fin (0 : Int32) S _ _ _ _ rfl (Option.some.inj hf) rfl hH dX9_isToss_42
  · replace hf := it_f c1 hf
    refine lv_iload_n hx hb dX9_isToss_5 rfl (lv_at hl 0 rfl) ?_
    refine lv_iconst (v := 4) hx hb dX9_isToss_6 (by decide) ?_
    refine lv_icmp_gt (tgt := 41) hx hb dX9_isToss_7 (by decide) (fun c2 => ?_) (fun c2 => ?_)
    · replace hf := it_t c2 hf
      refine lv_iconst (v := 0) hx hb dX9_isToss_41 (by decide) ?_
      exact fin (0 : Int32) S _ _ _ _ rfl (Option.some.inj hf) rfl hH dX9_isToss_42
    · replace hf := it_f c2 hf
      refine lv_iload_n hx hb dX9_isToss_10 rfl (lv_at hl 1 rfl) ?_
      refine lv_if_lt (tgt := 41) hx hb dX9_isToss_11 (by decide) (fun c3 => ?_) (fun c3 => ?_)
      · replace hf := it_t c3 hf
        refine lv_iconst (v := 0) hx hb dX9_isToss_41 (by decide) ?_
        exact fin (0 : Int32) S _ _ _ _ rfl (Option.some.inj hf) rfl hH dX9_isToss_42
      · replace hf := it_f c3 hf
        refine lv_iload_n hx hb dX9_isToss_14 rfl (lv_at hl 1 rfl) ?_
        refine lv_bipush (v := 9) hx hb dX9_isToss_15 (by decide) ?_
        refine lv_icmp_gt (tgt := 41) hx hb dX9_isToss_17 (by decide) (fun c4 => ?_) (fun c4 => ?_)
        · replace hf := it_t c4 hf
          refine lv_iconst (v := 0) hx hb dX9_isToss_41 (by decide) ?_
          exact fin (0 : Int32) S _ _ _ _ rfl (Option.some.inj hf) rfl hH dX9_isToss_42
        · replace hf := it_f c4 hf
          refine lv_iload_n hx hb dX9_isToss_20 rfl (lv_at hl 2 rfl) ?_
          refine lv_if_lt (tgt := 41) hx hb dX9_isToss_21 (by decide) (fun c5 => ?_) (fun c5 => ?_)
          · replace hf := it_t c5 hf
            refine lv_iconst (v := 0) hx hb dX9_isToss_41 (by decide) ?_
            exact fin (0 : Int32) S _ _ _ _ rfl (Option.some.inj hf) rfl hH dX9_isToss_42
          · replace hf := it_f c5 hf
            refine lv_iload_n hx hb dX9_isToss_24 rfl (lv_at hl 2 rfl) ?_
            refine lv_bipush (v := 7) hx hb dX9_isToss_25 (by decide) ?_
            refine lv_icmp_gt (tgt := 41) hx hb dX9_isToss_27 (by decide) (fun c6 => ?_) (fun c6 => ?_)
            · replace hf := it_t c6 hf
              refine lv_iconst (v := 0) hx hb dX9_isToss_41 (by decide) ?_
              exact fin (0 : Int32) S _ _ _ _ rfl (Option.some.inj hf) rfl hH dX9_isToss_42
            · replace hf := it_f c6 hf
              refine lv_iload_n hx hb dX9_isToss_30 rfl (lv_at hl 3 rfl) ?_
              obtain ⟨r7, hr7, hf⟩ := ob hf
              refine callS_i [.int a3] [] hC hH (c_X9_isBit l G A S a3 _ hr7) (va_cwS 1 hts gX9_isToss_X9_isBit rfl rfl rfl (by decide +kernel) ⟨Nat.le_of_ble_eq_true rfl, Nat.le_of_ble_eq_true rfl⟩) rfl hl.1 rfl (Nat.le_of_ble_eq_true rfl) dX9_isToss_31 (fun H locs hH => ?_)
              refine lv_if_eq (tgt := 41) hx hb dX9_isToss_34 (by decide) (fun c8 => ?_) (fun c8 => ?_)
              · replace hf := it_t c8 hf
                refine lv_iconst (v := 0) hx hb dX9_isToss_41 (by decide) ?_
                exact fin (0 : Int32) S _ _ _ _ rfl (Option.some.inj hf) rfl hH dX9_isToss_42
              · replace hf := it_f c8 hf
                refine lv_iconst (v := 1) hx hb dX9_isToss_37 (by decide) ?_
                refine lv_goto (tgt := 42) hx hb dX9_isToss_38 (by decide) ?_
                exact fin (1 : Int32) S _ _ _ _ rfl (Option.some.inj hf) rfl hH dX9_isToss_42
theorem in_X9_comes_X3 : ∀ w ∈ wsX30, w ∈ wsX9_comes := fun w h => List.mem_cons_of_mem _ (List.mem_append_right _ h)
theorem in_X9_comes_X9 : ∀ w ∈ wsX90, w ∈ wsX9_comes := fun w h => List.mem_cons_of_mem _ (List.mem_append_left _ (List.mem_append_right _ h))
set_option maxRecDepth 100000 in
set_option maxHeartbeats 4000000 in
theorem c_X9_comes (l : Launch) (G : Gt) (A : Nat → Prop) (S : St)  (a1 : Int32) (a2 : Int32) (a3 : Int32) (a4 : Int32) (a5 : Int32) (a6 : Int32) (a7 : Int32) (q : Int32) (hf : f_X9_comes S a1 a2 a3 a4 a5 a6 a7 = some q) : Met l yX9_comes wsX9_comes ({ frames := 4, cells := 0, slots := 0, locals := 100 } : Room) (va_Pc [.ref (gC G 0), .int a1, .int a2, .int a3, .int a4, .int a5, .int a6, .int a7] (PK G A (CW G S))) (va_Qi (fun (r2 : Int32) S2 => r2 = q ∧ S2 = S) (fun S2 : St => PK G A (CW G S2)) A) 0 0 A := by
  refine mstart_i (Wd := CW G) (cc := cX9_comes) (maxL := 8) (by decide) rfl (Nat.le_of_ble_eq_true rfl) (fun p e s m below meth c Qm ls hC hH hl fin => ?_)
  obtain ⟨hx, hb, hml, hown, hts⟩ := id hC.1
  have hl : lv_has ls 8 [(0, .ref (gC G 0)), (1, .int a1), (2, .int a2), (3, .int a3), (4, .int a4), (5, .int a5), (6, .int a6), (7, .int a7)] := hl
  have hf := hf
  rw [f_X9_comes] at hf
  refine lv_aload_n hx hb dX9_comes_0 rfl (lv_at hl 0 rfl) ?_
  refine getO hC hH (0) rfl rfl in_X9_comes_X9 9 (by decide) (index := 69) (List.mem_of_getElem? (i := 1) rfl) rfl dX9_comes_1 ?_
  refine lv_iload_n hx hb dX9_comes_4 rfl (lv_at hl 1 rfl) ?_
  obtain ⟨r1, hr1, hf⟩ := ob hf
  refine callV_i [.int a1] [] hC hH (c_X3_isRunner l G A S ((gCo S).toNat) (Bool.toNat_lt _) a1 _ hr1) (cwV 1 hts gX9_comes_X3_isRunner rfl rfl rfl (by decide +kernel) ⟨Nat.le_of_ble_eq_true rfl, Nat.le_of_ble_eq_true rfl⟩) (recvW hC hH (c0 := 33 + 5 * (gCo S).toNat) (ci := 3) (cw_lane (i := (gCo S).toNat) (Bool.toNat_lt _)) rfl) rfl hl.1 rfl (Nat.le_of_ble_eq_true rfl) dX9_comes_5 (fun H locs hH => ?_)
  refine lv_if_eq (tgt := 35) hx hb dX9_comes_8 (by decide) (fun c2 => ?_) (fun c2 => ?_)
  · replace hf := it_t c2 hf
    refine lv_ldc (v := -1000000) hx hb hown (hts (.constant RX9 157 (-1000000)) (List.mem_of_getElem? (i := 2) rfl)) dX9_comes_35 ?_
    exact fin (-1000000 : Int32) S _ _ _ _ (Option.some.inj hf) rfl hH dX9_comes_37
  · replace hf := it_f c2 hf
    refine lv_aload_n hx hb dX9_comes_11 rfl (lv_at hl 0 rfl) ?_
    refine getO hC hH (0) rfl rfl in_X9_comes_X9 9 (by decide) (index := 69) (List.mem_of_getElem? (i := 1) rfl) rfl dX9_comes_12 ?_
    refine lv_iload_n hx hb dX9_comes_15 rfl (lv_at hl 2 rfl) ?_
    obtain ⟨r3, hr3, hf⟩ := ob hf
    refine callV_i [.int a2] [] hC hH (c_X3_isYard l G A S ((gCo S).toNat) (Bool.toNat_lt _) a2 _ hr3) (cwV 1 hts gX9_comes_X3_isYard rfl rfl rfl (by decide +kernel) ⟨Nat.le_of_ble_eq_true rfl, Nat.le_of_ble_eq_true rfl⟩) (recvW hC hH (c0 := 33 + 5 * (gCo S).toNat) (ci := 3) (cw_lane (i := (gCo S).toNat) (Bool.toNat_lt _)) rfl) rfl hl.1 rfl (Nat.le_of_ble_eq_true rfl) dX9_comes_16 (fun H locs hH => ?_)
    refine lv_if_eq (tgt := 35) hx hb dX9_comes_19 (by decide) (fun c4 => ?_) (fun c4 => ?_)
    · replace hf := it_t c4 hf
      refine lv_ldc (v := -1000000) hx hb hown (hts (.constant RX9 157 (-1000000)) (List.mem_of_getElem? (i := 2) rfl)) dX9_comes_35 ?_
      exact fin (-1000000 : Int32) S _ _ _ _ (Option.some.inj hf) rfl hH dX9_comes_37
    · replace hf := it_f c4 hf
      refine lv_iload_n hx hb dX9_comes_22 rfl (lv_at hl 3 rfl) ?_
      refine lv_iload hx hb dX9_comes_23 (lv_at hl 4 rfl) ?_
      refine lv_iload hx hb dX9_comes_25 (lv_at hl 5 rfl) ?_
      refine lv_iload hx hb dX9_comes_27 (lv_at hl 6 rfl) ?_
      obtain ⟨r5, hr5, hf⟩ := ob hf
      refine callS_i [.int a3, .int a4, .int a5, .int a6] [] hC hH (c_X9_isToss l G A S a3 a4 a5 a6 _ hr5) (va_cwS 4 hts gX9_comes_X9_isToss rfl rfl rfl (by decide +kernel) ⟨Nat.le_of_ble_eq_true rfl, Nat.le_of_ble_eq_true rfl⟩) rfl hl.1 rfl (Nat.le_of_ble_eq_true rfl) dX9_comes_29 (fun H locs hH => ?_)
      refine lv_if_ne (tgt := 38) hx hb dX9_comes_32 (by decide) (fun c6 => ?_) (fun c6 => ?_)
      · replace hf := it_f c6 hf
        refine lv_iload hx hb dX9_comes_38 (lv_at hl 7 rfl) ?_
        by_cases c7 : a7 = (0 : Int32)
        · replace hf := it_t c7 hf
          refine lv_tableIn (tgt := 76) hx hb dX9_comes_40 (by rw [c7]; decide) (by rw [c7]; decide) (by rw [c7]; rfl) (by decide) ?_
          refine lv_aload_n hx hb dX9_comes_76 rfl (lv_at hl 0 rfl) ?_
          refine getO hC hH (0) rfl rfl in_X9_comes_X9 9 (by decide) (index := 69) (List.mem_of_getElem? (i := 1) rfl) rfl dX9_comes_77 ?_
          refine lv_iload_n hx hb dX9_comes_80 rfl (lv_at hl 2 rfl) ?_
          refine lv_iload_n hx hb dX9_comes_81 rfl (lv_at hl 3 rfl) ?_
          refine lv_iload hx hb dX9_comes_82 (lv_at hl 4 rfl) ?_
          obtain ⟨r8, hr8, hf⟩ := ob hf
          refine callV_i [.int a2, .int a3, .int a4] [] hC hH (c_X3_comesDown l G A S ((gCo S).toNat) (Bool.toNat_lt _) a2 a3 a4 _ hr8) (cwV 3 hts gX9_comes_X3_comesDown rfl rfl rfl (by decide +kernel) ⟨Nat.le_of_ble_eq_true rfl, Nat.le_of_ble_eq_true rfl⟩) (recvW hC hH (c0 := 33 + 5 * (gCo S).toNat) (ci := 3) (cw_lane (i := (gCo S).toNat) (Bool.toNat_lt _)) rfl) rfl hl.1 rfl (Nat.le_of_ble_eq_true rfl) dX9_comes_84 (fun H locs hH => ?_)
          exact fin r8 S _ _ _ _ (Option.some.inj hf) rfl hH dX9_comes_87
        replace hf := it_f c7 hf
        by_cases c9 : a7 = (1 : Int32)
        · replace hf := it_t c9 hf
          refine lv_tableIn (tgt := 88) hx hb dX9_comes_40 (by rw [c9]; decide) (by rw [c9]; decide) (by rw [c9]; rfl) (by decide) ?_
          refine lv_aload_n hx hb dX9_comes_88 rfl (lv_at hl 0 rfl) ?_
          refine getO hC hH (0) rfl rfl in_X9_comes_X9 9 (by decide) (index := 69) (List.mem_of_getElem? (i := 1) rfl) rfl dX9_comes_89 ?_
          refine lv_iload_n hx hb dX9_comes_92 rfl (lv_at hl 1 rfl) ?_
          refine lv_iload_n hx hb dX9_comes_93 rfl (lv_at hl 2 rfl) ?_
          refine lv_iload_n hx hb dX9_comes_94 rfl (lv_at hl 3 rfl) ?_
          refine lv_iload hx hb dX9_comes_95 (lv_at hl 6 rfl) ?_
          obtain ⟨r10, hr10, hf⟩ := ob hf
          refine callV_i [.int a1, .int a2, .int a3, .int a6] [] hC hH (c_X3_yardAfter l G A S ((gCo S).toNat) (Bool.toNat_lt _) a1 a2 a3 a6 _ hr10) (cwV 4 hts gX9_comes_X3_yardAfter rfl rfl rfl (by decide +kernel) ⟨Nat.le_of_ble_eq_true rfl, Nat.le_of_ble_eq_true rfl⟩) (recvW hC hH (c0 := 33 + 5 * (gCo S).toNat) (ci := 3) (cw_lane (i := (gCo S).toNat) (Bool.toNat_lt _)) rfl) rfl hl.1 rfl (Nat.le_of_ble_eq_true rfl) dX9_comes_97 (fun H locs hH => ?_)
          exact fin r10 S _ _ _ _ (Option.some.inj hf) rfl hH dX9_comes_100
        replace hf := it_f c9 hf
        by_cases c11 : a7 = (2 : Int32)
        · replace hf := it_t c11 hf
          refine lv_tableIn (tgt := 101) hx hb dX9_comes_40 (by rw [c11]; decide) (by rw [c11]; decide) (by rw [c11]; rfl) (by decide) ?_
          refine lv_iload_n hx hb dX9_comes_101 rfl (lv_at hl 3 rfl) ?_
          refine lv_iload hx hb dX9_comes_102 (lv_at hl 5 rfl) ?_
          obtain ⟨r12, hr12, hf⟩ := ob hf
          refine callS_i [.int a3, .int a5] [] hC hH (c_X9_quarters l G A S a3 a5 _ hr12) (va_cwS 2 hts gX9_comes_X9_quarters rfl rfl rfl (by decide +kernel) ⟨Nat.le_of_ble_eq_true rfl, Nat.le_of_ble_eq_true rfl⟩) rfl hl.1 rfl (Nat.le_of_ble_eq_true rfl) dX9_comes_104 (fun H locs hH => ?_)
          exact fin r12 S _ _ _ _ (Option.some.inj hf) rfl hH dX9_comes_107
        replace hf := it_f c11 hf
        by_cases c13 : a7 = (3 : Int32)
        · replace hf := it_t c13 hf
          refine lv_tableIn (tgt := 108) hx hb dX9_comes_40 (by rw [c13]; decide) (by rw [c13]; decide) (by rw [c13]; rfl) (by decide) ?_
          refine lv_iload_n hx hb dX9_comes_108 rfl (lv_at hl 3 rfl) ?_
          refine lv_iload hx hb dX9_comes_109 (lv_at hl 5 rfl) ?_
          obtain ⟨r14, hr14, hf⟩ := ob hf
          refine callS_i [.int a3, .int a5] [] hC hH (c_X9_isTurned l G A S a3 a5 _ hr14) (va_cwS 2 hts gX9_comes_X9_isTurned rfl rfl rfl (by decide +kernel) ⟨Nat.le_of_ble_eq_true rfl, Nat.le_of_ble_eq_true rfl⟩) rfl hl.1 rfl (Nat.le_of_ble_eq_true rfl) dX9_comes_111 (fun H locs hH => ?_)
          refine lv_if_eq (tgt := 121) hx hb dX9_comes_114 (by decide) (fun c15 => ?_) (fun c15 => ?_)
          · replace hf := it_t c15 hf
            refine lv_iconst (v := 0) hx hb dX9_comes_121 (by decide) ?_
            exact fin (0 : Int32) S _ _ _ _ (Option.some.inj hf) rfl hH dX9_comes_122
          · replace hf := it_f c15 hf
            refine lv_iconst (v := 1) hx hb dX9_comes_117 (by decide) ?_
            refine lv_goto (tgt := 122) hx hb dX9_comes_118 (by decide) ?_
            exact fin (1 : Int32) S _ _ _ _ (Option.some.inj hf) rfl hH dX9_comes_122
        replace hf := it_f c13 hf
        by_cases c16 : a7 = (4 : Int32)
        · replace hf := it_t c16 hf
          refine lv_tableIn (tgt := 123) hx hb dX9_comes_40 (by rw [c16]; decide) (by rw [c16]; decide) (by rw [c16]; rfl) (by decide) ?_
          refine lv_aload_n hx hb dX9_comes_123 rfl (lv_at hl 0 rfl) ?_
          refine getO hC hH (0) rfl rfl in_X9_comes_X9 9 (by decide) (index := 69) (List.mem_of_getElem? (i := 1) rfl) rfl dX9_comes_124 ?_
          refine lv_iload_n hx hb dX9_comes_127 rfl (lv_at hl 1 rfl) ?_
          refine lv_iload_n hx hb dX9_comes_128 rfl (lv_at hl 2 rfl) ?_
          refine lv_iload_n hx hb dX9_comes_129 rfl (lv_at hl 3 rfl) ?_
          refine lv_iload hx hb dX9_comes_130 (lv_at hl 4 rfl) ?_
          refine lv_iload hx hb dX9_comes_132 (lv_at hl 5 rfl) ?_
          refine lv_iload hx hb dX9_comes_134 (lv_at hl 6 rfl) ?_
          obtain ⟨r17, hr17, hf⟩ := ob hf
          refine callV_i [.int a1, .int a2, .int a3, .int a4, .int a5, .int a6] [] hC hH (c_X3_catchOf l G A S ((gCo S).toNat) (Bool.toNat_lt _) a1 a2 a3 a4 a5 a6 _ hr17) (cwV 6 hts gX9_comes_X3_catchOf rfl rfl rfl (by decide +kernel) ⟨Nat.le_of_ble_eq_true rfl, Nat.le_of_ble_eq_true rfl⟩) (recvW hC hH (c0 := 33 + 5 * (gCo S).toNat) (ci := 3) (cw_lane (i := (gCo S).toNat) (Bool.toNat_lt _)) rfl) rfl hl.1 rfl (Nat.le_of_ble_eq_true rfl) dX9_comes_136 (fun H locs hH => ?_)
          exact fin r17 S _ _ _ _ (Option.some.inj hf) rfl hH dX9_comes_139
        replace hf := it_f c16 hf
        refine lv_tableOut (tgt := 140) hx hb dX9_comes_40 (by have z0 := lv_neT (a := 0) c7 (by decide); have z1 := lv_neT (a := 1) c9 (by decide); have z2 := lv_neT (a := 2) c11 (by decide); have z3 := lv_neT (a := 3) c13 (by decide); have z4 := lv_neT (a := 4) c16 (by decide); omega) (by decide) ?_
        refine lv_ldc (v := -1000000) hx hb hown (hts (.constant RX9 157 (-1000000)) (List.mem_of_getElem? (i := 2) rfl)) dX9_comes_140 ?_
        exact fin (-1000000 : Int32) S _ _ _ _ (Option.some.inj hf) rfl hH dX9_comes_142
      · replace hf := it_t c6 hf
        refine lv_ldc (v := -1000000) hx hb hown (hts (.constant RX9 157 (-1000000)) (List.mem_of_getElem? (i := 2) rfl)) dX9_comes_35 ?_
        exact fin (-1000000 : Int32) S _ _ _ _ (Option.some.inj hf) rfl hH dX9_comes_37
theorem in_X9_best_X1 : ∀ w ∈ wsX10, w ∈ wsX9_best := fun w h => List.mem_cons_of_mem _ (List.mem_append_left _ (List.mem_append_right _ h))
theorem in_X9_best_X3 : ∀ w ∈ wsX30, w ∈ wsX9_best := fun w h => List.mem_cons_of_mem _ (List.mem_append_right _ h)
theorem in_X9_best_X9 : ∀ w ∈ wsX90, w ∈ wsX9_best := fun w h => List.mem_cons_of_mem _ (List.mem_append_left _ (List.mem_append_left _ (List.mem_append_right _ h)))
set_option maxRecDepth 100000 in
set_option maxHeartbeats 4000000 in
theorem c_X9_best (l : Launch) (G : Gt) (A : Nat → Prop) (N : Nat) (S : St)  (a1 : Int32) (a2 : Int32) (a3 : Int32) (a4 : Int32) (q : Int32 × St) (hf : f_X9_best N S a1 a2 a3 a4 = some q) : Met l yX9_best wsX9_best ({ frames := 5, cells := 0, slots := 0, locals := 128 } : Room) (va_Pc [.ref (gC G 0), .int a1, .int a2, .int a3, .int a4] (PK G A (CW G S))) (va_Qi (fun (r2 : Int32) S2 => r2 = q.1 ∧ S2 = q.2) (fun S2 : St => PK G A (CW G S2)) A) 0 0 A := by
  refine mstart_i (Wd := CW G) (cc := cX9_best) (maxL := 5) (by decide) rfl (Nat.le_of_ble_eq_true rfl) (fun p e s m below meth c Qm ls hC hH hl fin => ?_)
  obtain ⟨hx, hb, hml, hown, hts⟩ := id hC.1
  have hl : lv_has ls 5 [(0, .ref (gC G 0)), (1, .int a1), (2, .int a2), (3, .int a3), (4, .int a4)] := hl
  have hf := hf
  rw [f_X9_best] at hf
  refine lv_aload_n hx hb dX9_best_0 rfl (lv_at hl 0 rfl) ?_
  refine getO hC hH (0) rfl rfl in_X9_best_X9 9 (by decide) (index := 69) (List.mem_of_getElem? (i := 1) rfl) rfl dX9_best_1 ?_
  refine lv_iload_n hx hb dX9_best_4 rfl (lv_at hl 1 rfl) ?_
  obtain ⟨r1, hr1, hf⟩ := ob hf
  refine callV_i [.int a1] [] hC hH (c_X3_isRunner l G A S ((gCo S).toNat) (Bool.toNat_lt _) a1 _ hr1) (cwV 1 hts gX9_best_X3_isRunner rfl rfl rfl (by decide +kernel) ⟨Nat.le_of_ble_eq_true rfl, Nat.le_of_ble_eq_true rfl⟩) (recvW hC hH (c0 := 33 + 5 * (gCo S).toNat) (ci := 3) (cw_lane (i := (gCo S).toNat) (Bool.toNat_lt _)) rfl) rfl hl.1 rfl (Nat.le_of_ble_eq_true rfl) dX9_best_5 (fun H locs hH => ?_)
  refine lv_if_eq (tgt := 37) hx hb dX9_best_8 (by decide) (fun c2 => ?_) (fun c2 => ?_)
  · replace hf := it_t c2 hf
    refine lv_iconst (v := -1) hx hb dX9_best_37 (by decide) ?_
    exact fin (-1 : Int32) S _ _ _ _ (congrArg Prod.fst (Option.some.inj hf)) (congrArg Prod.snd (Option.some.inj hf)) hH dX9_best_38
  · replace hf := it_f c2 hf
    refine lv_aload_n hx hb dX9_best_11 rfl (lv_at hl 0 rfl) ?_
    refine getO hC hH (0) rfl rfl in_X9_best_X9 9 (by decide) (index := 69) (List.mem_of_getElem? (i := 1) rfl) rfl dX9_best_12 ?_
    refine lv_iload_n hx hb dX9_best_15 rfl (lv_at hl 2 rfl) ?_
    obtain ⟨r3, hr3, hf⟩ := ob hf
    refine callV_i [.int a2] [] hC hH (c_X3_isYard l G A S ((gCo S).toNat) (Bool.toNat_lt _) a2 _ hr3) (cwV 1 hts gX9_best_X3_isYard rfl rfl rfl (by decide +kernel) ⟨Nat.le_of_ble_eq_true rfl, Nat.le_of_ble_eq_true rfl⟩) (recvW hC hH (c0 := 33 + 5 * (gCo S).toNat) (ci := 3) (cw_lane (i := (gCo S).toNat) (Bool.toNat_lt _)) rfl) rfl hl.1 rfl (Nat.le_of_ble_eq_true rfl) dX9_best_16 (fun H locs hH => ?_)
    refine lv_if_eq (tgt := 37) hx hb dX9_best_19 (by decide) (fun c4 => ?_) (fun c4 => ?_)
    · replace hf := it_t c4 hf
      refine lv_iconst (v := -1) hx hb dX9_best_37 (by decide) ?_
      exact fin (-1 : Int32) S _ _ _ _ (congrArg Prod.fst (Option.some.inj hf)) (congrArg Prod.snd (Option.some.inj hf)) hH dX9_best_38
    · replace hf := it_f c4 hf
      refine lv_iload_n hx hb dX9_best_22 rfl (lv_at hl 3 rfl) ?_
      obtain ⟨r5, hr5, hf⟩ := ob hf
      refine callS_i [.int a3] [] hC hH (c_X9_isBit l G A S a3 _ hr5) (va_cwS 1 hts gX9_best_X9_isBit rfl rfl rfl (by decide +kernel) ⟨Nat.le_of_ble_eq_true rfl, Nat.le_of_ble_eq_true rfl⟩) rfl hl.1 rfl (Nat.le_of_ble_eq_true rfl) dX9_best_23 (fun H locs hH => ?_)
      refine lv_if_eq (tgt := 37) hx hb dX9_best_26 (by decide) (fun c6 => ?_) (fun c6 => ?_)
      · replace hf := it_t c6 hf
        refine lv_iconst (v := -1) hx hb dX9_best_37 (by decide) ?_
        exact fin (-1 : Int32) S _ _ _ _ (congrArg Prod.fst (Option.some.inj hf)) (congrArg Prod.snd (Option.some.inj hf)) hH dX9_best_38
      · replace hf := it_f c6 hf
        refine lv_iload hx hb dX9_best_29 (lv_at hl 4 rfl) ?_
        obtain ⟨r7, hr7, hf⟩ := ob hf
        refine callS_i [.int a4] [] hC hH (c_X9_isBit l G A S a4 _ hr7) (va_cwS 1 hts gX9_best_X9_isBit rfl rfl rfl (by decide +kernel) ⟨Nat.le_of_ble_eq_true rfl, Nat.le_of_ble_eq_true rfl⟩) rfl hl.1 rfl (Nat.le_of_ble_eq_true rfl) dX9_best_31 (fun H locs hH => ?_)
        refine lv_if_ne (tgt := 39) hx hb dX9_best_34 (by decide) (fun c8 => ?_) (fun c8 => ?_)
        · replace hf := it_f c8 hf
          refine lv_aload_n hx hb dX9_best_39 rfl (lv_at hl 0 rfl) ?_
          refine getO hC hH (0) rfl rfl in_X9_best_X9 7 (by decide) (index := 55) (List.mem_of_getElem? (i := 2) rfl) rfl dX9_best_40 ?_
          refine lv_aload_n hx hb dX9_best_43 rfl (lv_at hl 0 rfl) ?_
          refine getO hC hH (0) rfl rfl in_X9_best_X9 9 (by decide) (index := 69) (List.mem_of_getElem? (i := 1) rfl) rfl dX9_best_44 ?_
          refine lv_iload_n hx hb dX9_best_47 rfl (lv_at hl 1 rfl) ?_
          refine lv_iload_n hx hb dX9_best_48 rfl (lv_at hl 2 rfl) ?_
          refine lv_iload_n hx hb dX9_best_49 rfl (lv_at hl 3 rfl) ?_
          obtain ⟨r9, hr9, hf⟩ := ob hf
          refine callV_v [.ref (gC G (33 + 5 * (gCo S).toNat)), .int a1, .int a2, .int a3] [] hC hH (c_X1_find l G A N S ((gCo S).toNat) (Bool.toNat_lt _) a1 a2 a3 _ hr9) (cwV 4 hts gX9_best_X1_find rfl rfl rfl (by decide +kernel) ⟨Nat.le_of_ble_eq_true rfl, Nat.le_of_ble_eq_true rfl⟩) (recvW hC hH (c0 := 26) (ci := 1) rfl rfl) rfl hl.1 rfl (Nat.le_of_ble_eq_true rfl) dX9_best_50 (fun H locs hH => ?_)
          refine lv_iload hx hb dX9_best_53 (lv_at hl 4 rfl) ?_
          refine lv_if_ne (tgt := 68) hx hb dX9_best_55 (by decide) (fun c10 => ?_) (fun c10 => ?_)
          · replace hf := it_f c10 hf
            refine lv_aload_n hx hb dX9_best_68 rfl (lv_at hl 0 rfl) ?_
            refine getO hC hH (0) rfl rfl in_X9_best_X9 7 (by decide) (index := 55) (List.mem_of_getElem? (i := 2) rfl) rfl dX9_best_69 ?_
            obtain ⟨r11, hr11, hf⟩ := ob hf
            refine callV_i [] [] hC hH (c_X1_number l G A r9 _ hr11) (cwV 0 hts gX9_best_X1_number rfl rfl rfl (by decide +kernel) ⟨Nat.le_of_ble_eq_true rfl, Nat.le_of_ble_eq_true rfl⟩) (recvW hC hH (c0 := 26) (ci := 1) rfl rfl) rfl hl.1 rfl (Nat.le_of_ble_eq_true rfl) dX9_best_72 (fun H locs hH => ?_)
            exact fin r11 r9 _ _ _ _ (congrArg Prod.fst (Option.some.inj hf)) (congrArg Prod.snd (Option.some.inj hf)) hH dX9_best_75
          · replace hf := it_t c10 hf
            refine lv_aload_n hx hb dX9_best_58 rfl (lv_at hl 0 rfl) ?_
            refine getO hC hH (0) rfl rfl in_X9_best_X9 7 (by decide) (index := 55) (List.mem_of_getElem? (i := 2) rfl) rfl dX9_best_59 ?_
            refine getN hC hH (26) rfl rfl in_X9_best_X1 0 (by decide) (index := 185) (List.mem_of_getElem? (i := 9) rfl) rfl dX9_best_62 ?_
            refine lv_goto (tgt := 75) hx hb dX9_best_65 (by decide) ?_
            exact fin (gI r9 26 0) r9 _ _ _ _ (congrArg Prod.fst (Option.some.inj hf)) (congrArg Prod.snd (Option.some.inj hf)) hH dX9_best_75
        · replace hf := it_t c8 hf
          refine lv_iconst (v := -1) hx hb dX9_best_37 (by decide) ?_
          exact fin (-1 : Int32) S _ _ _ _ (congrArg Prod.fst (Option.some.inj hf)) (congrArg Prod.snd (Option.some.inj hf)) hH dX9_best_38
theorem in_X9_runs_X0 : ∀ w ∈ wsX00, w ∈ wsX9_runs := fun w h => List.mem_cons_of_mem _ (List.mem_append_right _ h)
theorem in_X9_runs_X3 : ∀ w ∈ wsX30, w ∈ wsX9_runs := fun w h => List.mem_cons_of_mem _ (List.mem_append_left _ (List.mem_append_left _ (List.mem_append_right _ h)))
theorem in_X9_runs_X7 : ∀ w ∈ wsX70, w ∈ wsX9_runs := fun w h => List.mem_cons_of_mem _ (List.mem_append_left _ (List.mem_append_right _ h))
theorem in_X9_runs_X9 : ∀ w ∈ wsX90, w ∈ wsX9_runs := fun w h => List.mem_cons_of_mem _ (List.mem_append_left _ (List.mem_append_left _ (List.mem_append_left _ (List.mem_append_right _ h))))
set_option maxRecDepth 100000 in
set_option maxHeartbeats 4000000 in
theorem c_X9_runs (l : Launch) (G : Gt) (A : Nat → Prop) (N : Nat) (S : St)  (a1 : Int32) (a2 : Int32) (q : Int32 × St) (hf : f_X9_runs N S a1 a2 = some q) : Met l yX9_runs wsX9_runs ({ frames := 2, cells := 0, slots := 0, locals := 47 } : Room) (va_Pc [.ref (gC G 0), .int a1, .int a2] (PK G A (CW G S))) (va_Qi (fun (r2 : Int32) S2 => r2 = q.1 ∧ S2 = q.2) (fun S2 : St => PK G A (CW G S2)) A) 0 0 A := by
  refine mstart_i (Wd := CW G) (cc := cX9_runs) (maxL := 4) (by decide) rfl (Nat.le_of_ble_eq_true rfl) (fun p e s m below meth c Qm ls hC hH hl fin => ?_)
  obtain ⟨hx, hb, hml, hown, hts⟩ := id hC.1
  have hl : lv_has ls 4 [(0, .ref (gC G 0)), (1, .int a1), (2, .int a2)] := hl
  have hf := hf
  rw [f_X9_runs] at hf
  refine lv_aload_n hx hb dX9_runs_0 rfl (lv_at hl 0 rfl) ?_
  refine getO hC hH (0) rfl rfl in_X9_runs_X9 9 (by decide) (index := 69) (List.mem_of_getElem? (i := 1) rfl) rfl dX9_runs_1 ?_
  refine lv_iload_n hx hb dX9_runs_4 rfl (lv_at hl 1 rfl) ?_
  obtain ⟨r1, hr1, hf⟩ := ob hf
  refine callV_i [.int a1] [] hC hH (c_X3_isRunner l G A S ((gCo S).toNat) (Bool.toNat_lt _) a1 _ hr1) (cwV 1 hts gX9_runs_X3_isRunner rfl rfl rfl (by decide +kernel) ⟨Nat.le_of_ble_eq_true rfl, Nat.le_of_ble_eq_true rfl⟩) (recvW hC hH (c0 := 33 + 5 * (gCo S).toNat) (ci := 3) (cw_lane (i := (gCo S).toNat) (Bool.toNat_lt _)) rfl) rfl hl.1 rfl (Nat.le_of_ble_eq_true rfl) dX9_runs_5 (fun H locs hH => ?_)
  refine lv_if_eq (tgt := 22) hx hb dX9_runs_8 (by decide) (fun c2 => ?_) (fun c2 => ?_)
  · replace hf := it_t c2 hf
    refine lv_iconst (v := -1) hx hb dX9_runs_22 (by decide) ?_
    exact fin (-1 : Int32) S _ _ _ _ (congrArg Prod.fst (Option.some.inj hf)) (congrArg Prod.snd (Option.some.inj hf)) hH dX9_runs_23
  · replace hf := it_f c2 hf
    refine lv_iload_n hx hb dX9_runs_11 rfl (lv_at hl 2 rfl) ?_
    refine lv_iconst (v := 1) hx hb dX9_runs_12 (by decide) ?_
    refine lv_icmp_lt (tgt := 22) hx hb dX9_runs_13 (by decide) (fun c3 => ?_) (fun c3 => ?_)
    · replace hf := it_t c3 hf
      refine lv_iconst (v := -1) hx hb dX9_runs_22 (by decide) ?_
      exact fin (-1 : Int32) S _ _ _ _ (congrArg Prod.fst (Option.some.inj hf)) (congrArg Prod.snd (Option.some.inj hf)) hH dX9_runs_23
    · replace hf := it_f c3 hf
      refine lv_iload_n hx hb dX9_runs_16 rfl (lv_at hl 2 rfl) ?_
      refine lv_bipush (v := 9) hx hb dX9_runs_17 (by decide) ?_
      refine lv_icmp_le (tgt := 24) hx hb dX9_runs_19 (by decide) (fun c4 => ?_) (fun c4 => ?_)
      · replace hf := it_t c4 hf
        refine lv_aload_n hx hb dX9_runs_24 rfl (lv_at hl 0 rfl) ?_
        refine lv_iload_n hx hb dX9_runs_25 rfl (lv_at hl 1 rfl) ?_
        obtain ⟨r5, hr5, hf⟩ := ob hf
        refine callV_i [.int a1] [] hC hH (c_X9_isAtEnd l G A S a1 _ hr5) (cwV 1 hts gX9_runs_X9_isAtEnd rfl rfl rfl (by decide +kernel) ⟨Nat.le_of_ble_eq_true rfl, Nat.le_of_ble_eq_true rfl⟩) (recvW hC hH (c0 := 0) (ci := 9) rfl rfl) rfl hl.1 rfl (Nat.le_of_ble_eq_true rfl) dX9_runs_26 (fun H locs hH => ?_)
        refine lv_if_eq (tgt := 35) hx hb dX9_runs_29 (by decide) (fun c6 => ?_) (fun c6 => ?_)
        · replace hf := it_t c6 hf
          refine lv_aload_n hx hb dX9_runs_35 rfl (lv_at hl 0 rfl) ?_
          refine getO hC hH (0) rfl rfl in_X9_runs_X9 5 (by decide) (index := 41) (List.mem_of_getElem? (i := 2) rfl) rfl dX9_runs_36 ?_
          refine lv_iload_n hx hb dX9_runs_39 rfl (lv_at hl 1 rfl) ?_
          refine lv_aload_n hx hb dX9_runs_40 rfl (lv_at hl 0 rfl) ?_
          refine getO hC hH (0) rfl rfl in_X9_runs_X9 2 (by decide) (index := 24) (List.mem_of_getElem? (i := 3) rfl) rfl dX9_runs_41 ?_
          obtain ⟨r7, hr7, hf⟩ := ob hf
          refine callV_v [.int a1, .ref (gC G (4 + 5 * 0))] [] hC hH (c_X0_remember l G A N S 0 (by decide) a1 _ hr7) (cwV 2 hts gX9_runs_X0_remember rfl rfl rfl (by decide +kernel) ⟨Nat.le_of_ble_eq_true rfl, Nat.le_of_ble_eq_true rfl⟩) (recvW hC hH (c0 := 18) (ci := 0) rfl rfl) rfl hl.1 rfl (Nat.le_of_ble_eq_true rfl) dX9_runs_44 (fun H locs hH => ?_)
          refine lv_aload_n hx hb dX9_runs_47 rfl (lv_at hl 0 rfl) ?_
          refine getO hC hH (0) rfl rfl in_X9_runs_X9 9 (by decide) (index := 69) (List.mem_of_getElem? (i := 1) rfl) rfl dX9_runs_48 ?_
          refine lv_iload_n hx hb dX9_runs_51 rfl (lv_at hl 1 rfl) ?_
          refine lv_aload_n hx hb dX9_runs_52 rfl (lv_at hl 0 rfl) ?_
          refine getO hC hH (0) rfl rfl in_X9_runs_X9 2 (by decide) (index := 24) (List.mem_of_getElem? (i := 3) rfl) rfl dX9_runs_53 ?_
          refine lv_iload_n hx hb dX9_runs_56 rfl (lv_at hl 1 rfl) ?_
          obtain ⟨r8, hr8, hf⟩ := ob hf
          refine callV_i [.int a1] [.int a1, .ref (gC G (33 + 5 * (gCo r7).toNat))] hC hH (c_X7_yardOf l G A r7 0 (by decide) a1 _ hr8) (cwV 1 hts gX9_runs_X7_yardOf rfl rfl rfl (by decide +kernel) ⟨Nat.le_of_ble_eq_true rfl, Nat.le_of_ble_eq_true rfl⟩) (recvW hC hH (c0 := 4 + 5 * 0) (ci := 7) (cw_runs (i := 0) (by decide)) rfl) rfl hl.1 rfl (Nat.le_of_ble_eq_true rfl) dX9_runs_57 (fun H locs hH => ?_)
          refine lv_iload_n hx hb dX9_runs_60 rfl (lv_at hl 2 rfl) ?_
          obtain ⟨r9, hr9, hf⟩ := ob hf
          refine callV_i [.int a1, .int r8, .int a2] [] hC hH (c_X3_yardOnRun l G A r7 ((gCo r7).toNat) (Bool.toNat_lt _) a1 r8 a2 _ hr9) (cwV 3 hts gX9_runs_X3_yardOnRun rfl rfl rfl (by decide +kernel) ⟨Nat.le_of_ble_eq_true rfl, Nat.le_of_ble_eq_true rfl⟩) (recvW hC hH (c0 := 33 + 5 * (gCo r7).toNat) (ci := 3) (cw_lane (i := (gCo r7).toNat) (Bool.toNat_lt _)) rfl) rfl hl.1 rfl (Nat.le_of_ble_eq_true rfl) dX9_runs_61 (fun H locs hH => ?_)
          refine lv_istore_n (lv' := [(3, .int r9), (0, .ref (gC G 0)), (1, .int a1), (2, .int a2)]) hx hb dX9_runs_64 rfl hl (by decide) rfl (fun ls hl => ?_)
          refine lv_aload_n hx hb dX9_runs_65 rfl (lv_at hl 1 rfl) ?_
          refine getO hC hH (0) rfl rfl in_X9_runs_X9 2 (by decide) (index := 24) (List.mem_of_getElem? (i := 3) rfl) rfl dX9_runs_66 ?_
          refine lv_iload_n hx hb dX9_runs_69 rfl (lv_at hl 2 rfl) ?_
          refine lv_iload_n hx hb dX9_runs_70 rfl (lv_at hl 0 rfl) ?_
          refine lv_aload_n hx hb dX9_runs_71 rfl (lv_at hl 1 rfl) ?_
          refine getO hC hH (0) rfl rfl in_X9_runs_X9 2 (by decide) (index := 24) (List.mem_of_getElem? (i := 3) rfl) rfl dX9_runs_72 ?_
          refine lv_iload_n hx hb dX9_runs_75 rfl (lv_at hl 2 rfl) ?_
          obtain ⟨r10, hr10, hf⟩ := ob hf
          refine callV_i [.int a1] [.int r9, .int a1, .ref (gC G (4 + 5 * 0))] hC hH (c_X7_beatsOf l G A r7 0 (by decide) a1 _ hr10) (cwV 1 hts gX9_runs_X7_beatsOf rfl rfl rfl (by decide +kernel) ⟨Nat.le_of_ble_eq_true rfl, Nat.le_of_ble_eq_true rfl⟩) (recvW hC hH (c0 := 4 + 5 * 0) (ci := 7) (cw_runs (i := 0) (by decide)) rfl) rfl hl.1 rfl (Nat.le_of_ble_eq_true rfl) dX9_runs_76 (fun H locs hH => ?_)
          refine lv_iload_n hx hb dX9_runs_79 rfl (lv_at hl 3 rfl) ?_
          refine lv_iadd hx hb dX9_runs_80 ?_
          refine lv_aload_n hx hb dX9_runs_81 rfl (lv_at hl 1 rfl) ?_
          refine getO hC hH (0) rfl rfl in_X9_runs_X9 2 (by decide) (index := 24) (List.mem_of_getElem? (i := 3) rfl) rfl dX9_runs_82 ?_
          refine lv_iload_n hx hb dX9_runs_85 rfl (lv_at hl 2 rfl) ?_
          obtain ⟨r11, hr11, hf⟩ := ob hf
          refine callV_i [.int a1] [.int (r10 + a2), .int r9, .int a1, .ref (gC G (4 + 5 * 0))] hC hH (c_X7_goodOf l G A r7 0 (by decide) a1 _ hr11) (cwV 1 hts gX9_runs_X7_goodOf rfl rfl rfl (by decide +kernel) ⟨Nat.le_of_ble_eq_true rfl, Nat.le_of_ble_eq_true rfl⟩) (recvW hC hH (c0 := 4 + 5 * 0) (ci := 7) (cw_runs (i := 0) (by decide)) rfl) rfl hl.1 rfl (Nat.le_of_ble_eq_true rfl) dX9_runs_86 (fun H locs hH => ?_)
          obtain ⟨r12, hr12, hf⟩ := ob hf
          refine callV_v [.int a1, .int r9, .int (r10 + a2), .int r11] [] hC hH (c_X7_put l G A r7 0 (by decide) a1 r9 (r10 + a2) r11 _ hr12) (cwV 4 hts gX9_runs_X7_put rfl rfl rfl (by decide +kernel) ⟨Nat.le_of_ble_eq_true rfl, Nat.le_of_ble_eq_true rfl⟩) (recvW hC hH (c0 := 4 + 5 * 0) (ci := 7) (cw_runs (i := 0) (by decide)) rfl) rfl hl.1 rfl (Nat.le_of_ble_eq_true rfl) dX9_runs_89 (fun H locs hH => ?_)
          refine lv_iload_n hx hb dX9_runs_92 rfl (lv_at hl 0 rfl) ?_
          exact fin r9 r12 _ _ _ _ (congrArg Prod.fst (Option.some.inj hf)) (congrArg Prod.snd (Option.some.inj hf)) hH dX9_runs_93
        · replace hf := it_f c6 hf
          refine lv_bipush (v := -2) hx hb dX9_runs_32 (by decide) ?_
          exact fin (-2 : Int32) S _ _ _ _ (congrArg Prod.fst (Option.some.inj hf)) (congrArg Prod.snd (Option.some.inj hf)) hH dX9_runs_34
      · replace hf := it_f c4 hf
        refine lv_iconst (v := -1) hx hb dX9_runs_22 (by decide) ?_
        exact fin (-1 : Int32) S _ _ _ _ (congrArg Prod.fst (Option.some.inj hf)) (congrArg Prod.snd (Option.some.inj hf)) hH dX9_runs_23
theorem in_X9_toss_X0 : ∀ w ∈ wsX00, w ∈ wsX9_toss := fun w h => List.mem_cons_of_mem _ (List.mem_append_right _ h)
theorem in_X9_toss_X3 : ∀ w ∈ wsX30, w ∈ wsX9_toss := fun w h => List.mem_cons_of_mem _ (List.mem_append_left _ (List.mem_append_left _ (List.mem_append_right _ h)))
theorem in_X9_toss_X7 : ∀ w ∈ wsX70, w ∈ wsX9_toss := fun w h => List.mem_cons_of_mem _ (List.mem_append_left _ (List.mem_append_right _ h))
theorem in_X9_toss_X9 : ∀ w ∈ wsX90, w ∈ wsX9_toss := fun w h => List.mem_cons_of_mem _ (List.mem_append_left _ (List.mem_append_left _ (List.mem_append_left _ (List.mem_append_right _ h))))
set_option maxRecDepth 100000 in
set_option maxHeartbeats 4000000 in
theorem c_X9_toss (l : Launch) (G : Gt) (A : Nat → Prop) (N : Nat) (S : St)  (a1 : Int32) (a2 : Int32) (a3 : Int32) (a4 : Int32) (a5 : Int32) (q : Int32 × St) (hf : f_X9_toss N S a1 a2 a3 a4 a5 = some q) : Met l yX9_toss wsX9_toss ({ frames := 4, cells := 0, slots := 0, locals := 100 } : Room) (va_Pc [.ref (gC G 0), .int a1, .int a2, .int a3, .int a4, .int a5] (PK G A (CW G S))) (va_Qi (fun (r2 : Int32) S2 => r2 = q.1 ∧ S2 = q.2) (fun S2 : St => PK G A (CW G S2)) A) 0 0 A := by
  refine mstart_i (Wd := CW G) (cc := cX9_toss) (maxL := 10) (by decide) rfl (Nat.le_of_ble_eq_true rfl) (fun p e s m below meth c Qm ls hC hH hl fin => ?_)
  obtain ⟨hx, hb, hml, hown, hts⟩ := id hC.1
  have hl : lv_has ls 10 [(0, .ref (gC G 0)), (1, .int a1), (2, .int a2), (3, .int a3), (4, .int a4), (5, .int a5)] := hl
  have kJ193 : ∀ (S : St) (x7 : Int32) (x8 : Int32) (t1 : Int32) (t2 : Int32) (t3 : Int32) (t4 : Int32) (t5 : Int32) (H : Heap) (locs : List Loc) (ls : Array Slot), HW G A (CW G S) s H locs → lv_has ls 10 [(7, .int x7), (8, .int x8)] → f_X9_toss_193 N S x7 x8 t1 t2 t3 t4 t5 = some q → W p l e ({ frames := 4, cells := 0, slots := 0, locals := 100 } : Room) s m [.ref (gC G 0), .int a1, .int a2, .int a3, .int a4, .int a5].toArray below meth c H locs 0 0 Qm (F0 m 193 ls [.int t5, .int t4, .int t3, .int t2, .int t1, .ref (gC G (4 + 5 * 0))]) := by
    intro S x7 x8 t1 t2 t3 t4 t5 H locs ls hH hl hf
    rw [f_X9_toss_193] at hf
    refine lv_iadd hx hb dX9_toss_193 ?_
    obtain ⟨r20, hr20, hf⟩ := ob hf
    refine callV_v [.int t1, .int t2, .int t3, .int (t4 + t5)] [] hC hH (c_X7_put l G A S 0 (by decide) t1 t2 t3 (t4 + t5) _ hr20) (cwV 4 hts gX9_toss_X7_put rfl rfl rfl (by decide +kernel) ⟨Nat.le_of_ble_eq_true rfl, Nat.le_of_ble_eq_true rfl⟩) (recvW hC hH (c0 := 4 + 5 * 0) (ci := 7) (cw_runs (i := 0) (by decide)) rfl) rfl hl.1 rfl (Nat.le_of_ble_eq_true rfl) dX9_toss_194 (fun H locs hH => ?_)
    refine lv_iload hx hb dX9_toss_197 (lv_at hl 1 rfl) ?_
    refine lv_if_eq (tgt := 206) hx hb dX9_toss_199 (by decide) (fun c21 => ?_) (fun c21 => ?_)
    · replace hf := it_t c21 hf
      refine lv_iload hx hb dX9_toss_206 (lv_at hl 0 rfl) ?_
      refine lv_if_eq (tgt := 215) hx hb dX9_toss_208 (by decide) (fun c22 => ?_) (fun c22 => ?_)
      · replace hf := it_t c22 hf
        refine lv_iconst (v := 0) hx hb dX9_toss_215 (by decide) ?_
        exact fin (0 : Int32) r20 _ _ _ _ (congrArg Prod.fst (Option.some.inj hf)) (congrArg Prod.snd (Option.some.inj hf)) hH dX9_toss_216
      · replace hf := it_f c22 hf
        refine lv_iconst (v := 1) hx hb dX9_toss_211 (by decide) ?_
        refine lv_goto (tgt := 216) hx hb dX9_toss_212 (by decide) ?_
        exact fin (1 : Int32) r20 _ _ _ _ (congrArg Prod.fst (Option.some.inj hf)) (congrArg Prod.snd (Option.some.inj hf)) hH dX9_toss_216
    · replace hf := it_f c21 hf
      refine lv_iconst (v := 2) hx hb dX9_toss_202 (by decide) ?_
      refine lv_goto (tgt := 216) hx hb dX9_toss_203 (by decide) ?_
      exact fin (2 : Int32) r20 _ _ _ _ (congrArg Prod.fst (Option.some.inj hf)) (congrArg Prod.snd (Option.some.inj hf)) hH dX9_toss_216
  have kJ152 : ∀ (S : St) (x6 : Int32) (x7 : Int32) (x8 : Int32) (t0 : Int32) (t1 : Int32) (H : Heap) (locs : List Loc) (ls : Array Slot), HW G A (CW G S) s H locs → lv_has ls 10 [(0, .ref (gC G 0)), (1, .int a1), (2, .int a2), (5, .int a5), (6, .int x6), (7, .int x7), (8, .int x8)] → f_X9_toss_152 N a1 a2 a5 S x6 x7 x8 t0 t1 = some q → W p l e ({ frames := 4, cells := 0, slots := 0, locals := 100 } : Room) s m [.ref (gC G 0), .int a1, .int a2, .int a3, .int a4, .int a5].toArray below meth c H locs 0 0 Qm (F0 m 152 ls [.int t1, .int t0]) := by
    intro S x6 x7 x8 t0 t1 H locs ls hH hl hf
    rw [f_X9_toss_152] at hf
    refine lv_iadd hx hb dX9_toss_152 ?_
    refine lv_topi (fun b16 eb16 => ?_)
    replace hf := bn eb16 hf
    refine lv_istore (lv' := [(9, .int b16), (0, .ref (gC G 0)), (1, .int a1), (2, .int a2), (5, .int a5), (6, .int x6), (7, .int x7), (8, .int x8)]) hx hb dX9_toss_153 hl (by decide) rfl (fun ls hl => ?_)
    refine lv_aload_n hx hb dX9_toss_155 rfl (lv_at hl 1 rfl) ?_
    refine getO hC hH (0) rfl rfl in_X9_toss_X9 2 (by decide) (index := 24) (List.mem_of_getElem? (i := 3) rfl) rfl dX9_toss_156 ?_
    refine lv_iload_n hx hb dX9_toss_159 rfl (lv_at hl 2 rfl) ?_
    refine lv_aload_n hx hb dX9_toss_160 rfl (lv_at hl 1 rfl) ?_
    refine getO hC hH (0) rfl rfl in_X9_toss_X9 9 (by decide) (index := 69) (List.mem_of_getElem? (i := 1) rfl) rfl dX9_toss_161 ?_
    refine lv_iload_n hx hb dX9_toss_164 rfl (lv_at hl 2 rfl) ?_
    refine lv_iload hx hb dX9_toss_165 (lv_at hl 5 rfl) ?_
    refine lv_iload_n hx hb dX9_toss_167 rfl (lv_at hl 3 rfl) ?_
    refine lv_iload hx hb dX9_toss_168 (lv_at hl 4 rfl) ?_
    obtain ⟨r17, hr17, hf⟩ := ob hf
    refine callV_i [.int a1, .int x6, .int a2, .int a5] [.int a1, .ref (gC G (4 + 5 * 0))] hC hH (c_X3_yardAfter l G A S ((gCo S).toNat) (Bool.toNat_lt _) a1 x6 a2 a5 _ hr17) (cwV 4 hts gX9_toss_X3_yardAfter rfl rfl rfl (by decide +kernel) ⟨Nat.le_of_ble_eq_true rfl, Nat.le_of_ble_eq_true rfl⟩) (recvW hC hH (c0 := 33 + 5 * (gCo S).toNat) (ci := 3) (cw_lane (i := (gCo S).toNat) (Bool.toNat_lt _)) rfl) rfl hl.1 rfl (Nat.le_of_ble_eq_true rfl) dX9_toss_170 (fun H locs hH => ?_)
    refine lv_iload hx hb dX9_toss_173 (lv_at hl 0 rfl) ?_
    refine lv_aload_n hx hb dX9_toss_175 rfl (lv_at hl 1 rfl) ?_
    refine getO hC hH (0) rfl rfl in_X9_toss_X9 2 (by decide) (index := 24) (List.mem_of_getElem? (i := 3) rfl) rfl dX9_toss_176 ?_
    refine lv_iload_n hx hb dX9_toss_179 rfl (lv_at hl 2 rfl) ?_
    obtain ⟨r18, hr18, hf⟩ := ob hf
    refine callV_i [.int a1] [.int b16, .int r17, .int a1, .ref (gC G (4 + 5 * 0))] hC hH (c_X7_goodOf l G A S 0 (by decide) a1 _ hr18) (cwV 1 hts gX9_toss_X7_goodOf rfl rfl rfl (by decide +kernel) ⟨Nat.le_of_ble_eq_true rfl, Nat.le_of_ble_eq_true rfl⟩) (recvW hC hH (c0 := 4 + 5 * 0) (ci := 7) (cw_runs (i := 0) (by decide)) rfl) rfl hl.1 rfl (Nat.le_of_ble_eq_true rfl) dX9_toss_180 (fun H locs hH => ?_)
    refine lv_iload hx hb dX9_toss_183 (lv_at hl 7 rfl) ?_
    refine lv_if_eq (tgt := 192) hx hb dX9_toss_185 (by decide) (fun c19 => ?_) (fun c19 => ?_)
    · replace hf := it_t c19 hf
      refine lv_iconst (v := 0) hx hb dX9_toss_192 (by decide) ?_
      exact kJ193  S x7 x8 a1 r17 b16 r18 (0 : Int32) _ _ _ hH (lv_sub hl [6, 7] rfl) hf
    · replace hf := it_f c19 hf
      refine lv_iconst (v := 1) hx hb dX9_toss_188 (by decide) ?_
      refine lv_goto (tgt := 193) hx hb dX9_toss_189 (by decide) ?_
      exact kJ193  S x7 x8 a1 r17 b16 r18 (1 : Int32) _ _ _ hH (lv_sub hl [6, 7] rfl) hf
  have kJ121 : ∀ (S : St) (x6 : Int32) (x7 : Int32) (t0 : Int32) (H : Heap) (locs : List Loc) (ls : Array Slot), HW G A (CW G S) s H locs → lv_has ls 10 [(0, .ref (gC G 0)), (1, .int a1), (2, .int a2), (5, .int a5), (6, .int x6), (7, .int x7)] → f_X9_toss_121 N a1 a2 a5 S x6 x7 t0 = some q → W p l e ({ frames := 4, cells := 0, slots := 0, locals := 100 } : Room) s m [.ref (gC G 0), .int a1, .int a2, .int a3, .int a4, .int a5].toArray below meth c H locs 0 0 Qm (F0 m 121 ls [.int t0]) := by
    intro S x6 x7 t0 H locs ls hH hl hf
    rw [f_X9_toss_121] at hf
    refine lv_istore (lv' := [(8, .int t0), (0, .ref (gC G 0)), (1, .int a1), (2, .int a2), (5, .int a5), (6, .int x6), (7, .int x7)]) hx hb dX9_toss_121 hl (by decide) rfl (fun ls hl => ?_)
    refine lv_aload_n hx hb dX9_toss_123 rfl (lv_at hl 1 rfl) ?_
    refine getO hC hH (0) rfl rfl in_X9_toss_X9 2 (by decide) (index := 24) (List.mem_of_getElem? (i := 3) rfl) rfl dX9_toss_124 ?_
    refine lv_iload_n hx hb dX9_toss_127 rfl (lv_at hl 2 rfl) ?_
    obtain ⟨r13, hr13, hf⟩ := ob hf
    refine callV_i [.int a1] [] hC hH (c_X7_beatsOf l G A S 0 (by decide) a1 _ hr13) (cwV 1 hts gX9_toss_X7_beatsOf rfl rfl rfl (by decide +kernel) ⟨Nat.le_of_ble_eq_true rfl, Nat.le_of_ble_eq_true rfl⟩) (recvW hC hH (c0 := 4 + 5 * 0) (ci := 7) (cw_runs (i := 0) (by decide)) rfl) rfl hl.1 rfl (Nat.le_of_ble_eq_true rfl) dX9_toss_128 (fun H locs hH => ?_)
    refine lv_iload_n hx hb dX9_toss_131 rfl (lv_at hl 3 rfl) ?_
    obtain ⟨r14, hr14, hf⟩ := ob hf
    refine callS_i [.int a2] [.int r13] hC hH (c_X9_beatsInAir l G A S a2 _ hr14) (va_cwS 1 hts gX9_toss_X9_beatsInAir rfl rfl rfl (by decide +kernel) ⟨Nat.le_of_ble_eq_true rfl, Nat.le_of_ble_eq_true rfl⟩) rfl hl.1 rfl (Nat.le_of_ble_eq_true rfl) dX9_toss_132 (fun H locs hH => ?_)
    refine lv_iadd hx hb dX9_toss_135 ?_
    refine lv_iload hx hb dX9_toss_136 (lv_at hl 6 rfl) ?_
    refine lv_if_eq (tgt := 145) hx hb dX9_toss_138 (by decide) (fun c15 => ?_) (fun c15 => ?_)
    · replace hf := it_t c15 hf
      refine lv_aload_n hx hb dX9_toss_145 rfl (lv_at hl 1 rfl) ?_
      refine getO hC hH (0) rfl rfl in_X9_toss_X9 9 (by decide) (index := 69) (List.mem_of_getElem? (i := 1) rfl) rfl dX9_toss_146 ?_
      refine getN hC hH (33 + 5 * (gCo S).toNat) (cw_lane (i := (gCo S).toNat) (Bool.toNat_lt _)) rfl in_X9_toss_X3 8 (by decide) (index := 129) (List.mem_of_getElem? (i := 22) rfl) rfl dX9_toss_149 ?_
      exact kJ152  S x6 x7 t0 (r13 + r14) (gI S (33 + 5 * (gCo S).toNat) 8) _ _ _ hH (lv_sub hl [1, 2, 3, 4, 5, 6, 0] rfl) hf
    · replace hf := it_f c15 hf
      refine lv_iconst (v := 0) hx hb dX9_toss_141 (by decide) ?_
      refine lv_goto (tgt := 152) hx hb dX9_toss_142 (by decide) ?_
      exact kJ152  S x6 x7 t0 (r13 + r14) (0 : Int32) _ _ _ hH (lv_sub hl [1, 2, 3, 4, 5, 6, 0] rfl) hf
  have kJ120 : ∀ (S : St) (x6 : Int32) (x7 : Int32) (H : Heap) (locs : List Loc) (ls : Array Slot), HW G A (CW G S) s H locs → lv_has ls 10 [(0, .ref (gC G 0)), (1, .int a1), (2, .int a2), (5, .int a5), (6, .int x6), (7, .int x7)] → f_X9_toss_120 N a1 a2 a5 S x6 x7 = some q → W p l e ({ frames := 4, cells := 0, slots := 0, locals := 100 } : Room) s m [.ref (gC G 0), .int a1, .int a2, .int a3, .int a4, .int a5].toArray below meth c H locs 0 0 Qm (F0 m 120 ls []) := by
    intro S x6 x7 H locs ls hH hl hf
    rw [f_X9_toss_120] at hf
    refine lv_iconst (v := 0) hx hb dX9_toss_120 (by decide) ?_
    exact kJ121  S x6 x7 (0 : Int32) _ _ _ hH (lv_sub hl [0, 1, 2, 3, 4, 5] rfl) hf
  have kJ89 : ∀ (S : St) (x6 : Int32) (t0 : Int32) (H : Heap) (locs : List Loc) (ls : Array Slot), HW G A (CW G S) s H locs → lv_has ls 10 [(0, .ref (gC G 0)), (1, .int a1), (2, .int a2), (4, .int a4), (5, .int a5), (6, .int x6)] → f_X9_toss_89 N a1 a2 a4 a5 S x6 t0 = some q → W p l e ({ frames := 4, cells := 0, slots := 0, locals := 100 } : Room) s m [.ref (gC G 0), .int a1, .int a2, .int a3, .int a4, .int a5].toArray below meth c H locs 0 0 Qm (F0 m 89 ls [.int t0]) := by
    intro S x6 t0 H locs ls hH hl hf
    rw [f_X9_toss_89] at hf
    refine lv_istore (lv' := [(7, .int t0), (0, .ref (gC G 0)), (1, .int a1), (2, .int a2), (4, .int a4), (5, .int a5), (6, .int x6)]) hx hb dX9_toss_89 hl (by decide) rfl (fun ls hl => ?_)
    refine lv_iload hx hb dX9_toss_91 (lv_at hl 0 rfl) ?_
    refine lv_if_eq (tgt := 120) hx hb dX9_toss_93 (by decide) (fun c12 => ?_) (fun c12 => ?_)
    · replace hf := it_t c12 hf
      exact kJ120  S x6 t0 _ _ _ hH (lv_sub hl [1, 2, 3, 5, 6, 0] rfl) hf
    · replace hf := it_f c12 hf
      refine lv_iload_n hx hb dX9_toss_96 rfl (lv_at hl 3 rfl) ?_
      refine lv_iload hx hb dX9_toss_97 (lv_at hl 4 rfl) ?_
      obtain ⟨r23, hr23, hf⟩ := ob hf
      refine callS_i [.int a2, .int a4] [] hC hH (c_X9_isTurned l G A S a2 a4 _ hr23) (va_cwS 2 hts gX9_toss_X9_isTurned rfl rfl rfl (by decide +kernel) ⟨Nat.le_of_ble_eq_true rfl, Nat.le_of_ble_eq_true rfl⟩) rfl hl.1 rfl (Nat.le_of_ble_eq_true rfl) dX9_toss_99 (fun H locs hH => ?_)
      refine lv_if_eq (tgt := 120) hx hb dX9_toss_102 (by decide) (fun c24 => ?_) (fun c24 => ?_)
      · replace hf := it_t c24 hf
        exact kJ120  S x6 t0 _ _ _ hH (lv_sub hl [1, 2, 3, 5, 6, 0] rfl) hf
      · replace hf := it_f c24 hf
        refine lv_iload_n hx hb dX9_toss_105 rfl (lv_at hl 3 rfl) ?_
        refine lv_aload_n hx hb dX9_toss_106 rfl (lv_at hl 1 rfl) ?_
        refine getO hC hH (0) rfl rfl in_X9_toss_X9 9 (by decide) (index := 69) (List.mem_of_getElem? (i := 1) rfl) rfl dX9_toss_107 ?_
        refine getN hC hH (33 + 5 * (gCo S).toNat) (cw_lane (i := (gCo S).toNat) (Bool.toNat_lt _)) rfl in_X9_toss_X3 6 (by decide) (index := 123) (List.mem_of_getElem? (i := 17) rfl) rfl dX9_toss_110 ?_
        refine lv_icmp_lt (tgt := 120) hx hb dX9_toss_113 (by decide) (fun c25 => ?_) (fun c25 => ?_)
        · replace hf := it_t c25 hf
          exact kJ120  S x6 t0 _ _ _ hH (lv_sub hl [1, 2, 3, 5, 6, 0] rfl) hf
        · replace hf := it_f c25 hf
          refine lv_iconst (v := 1) hx hb dX9_toss_116 (by decide) ?_
          refine lv_goto (tgt := 121) hx hb dX9_toss_117 (by decide) ?_
          exact kJ121  S x6 t0 (1 : Int32) _ _ _ hH (lv_sub hl [1, 2, 3, 5, 6, 0] rfl) hf
  have hf := hf
  rw [f_X9_toss] at hf
  refine lv_aload_n hx hb dX9_toss_0 rfl (lv_at hl 0 rfl) ?_
  refine getO hC hH (0) rfl rfl in_X9_toss_X9 9 (by decide) (index := 69) (List.mem_of_getElem? (i := 1) rfl) rfl dX9_toss_1 ?_
  refine lv_iload_n hx hb dX9_toss_4 rfl (lv_at hl 1 rfl) ?_
  obtain ⟨r1, hr1, hf⟩ := ob hf
  refine callV_i [.int a1] [] hC hH (c_X3_isRunner l G A S ((gCo S).toNat) (Bool.toNat_lt _) a1 _ hr1) (cwV 1 hts gX9_toss_X3_isRunner rfl rfl rfl (by decide +kernel) ⟨Nat.le_of_ble_eq_true rfl, Nat.le_of_ble_eq_true rfl⟩) (recvW hC hH (c0 := 33 + 5 * (gCo S).toNat) (ci := 3) (cw_lane (i := (gCo S).toNat) (Bool.toNat_lt _)) rfl) rfl hl.1 rfl (Nat.le_of_ble_eq_true rfl) dX9_toss_5 (fun H locs hH => ?_)
  refine lv_if_eq (tgt := 23) hx hb dX9_toss_8 (by decide) (fun c2 => ?_) (fun c2 => ?_)
  · replace hf := it_t c2 hf
    refine lv_iconst (v := -1) hx hb dX9_toss_23 (by decide) ?_
    exact fin (-1 : Int32) S _ _ _ _ (congrArg Prod.fst (Option.some.inj hf)) (congrArg Prod.snd (Option.some.inj hf)) hH dX9_toss_24
  · replace hf := it_f c2 hf
    refine lv_iload_n hx hb dX9_toss_11 rfl (lv_at hl 2 rfl) ?_
    refine lv_iload_n hx hb dX9_toss_12 rfl (lv_at hl 3 rfl) ?_
    refine lv_iload hx hb dX9_toss_13 (lv_at hl 4 rfl) ?_
    refine lv_iload hx hb dX9_toss_15 (lv_at hl 5 rfl) ?_
    obtain ⟨r3, hr3, hf⟩ := ob hf
    refine callS_i [.int a2, .int a3, .int a4, .int a5] [] hC hH (c_X9_isToss l G A S a2 a3 a4 a5 _ hr3) (va_cwS 4 hts gX9_toss_X9_isToss rfl rfl rfl (by decide +kernel) ⟨Nat.le_of_ble_eq_true rfl, Nat.le_of_ble_eq_true rfl⟩) rfl hl.1 rfl (Nat.le_of_ble_eq_true rfl) dX9_toss_17 (fun H locs hH => ?_)
    refine lv_if_ne (tgt := 25) hx hb dX9_toss_20 (by decide) (fun c4 => ?_) (fun c4 => ?_)
    · replace hf := it_f c4 hf
      refine lv_aload_n hx hb dX9_toss_25 rfl (lv_at hl 0 rfl) ?_
      refine lv_iload_n hx hb dX9_toss_26 rfl (lv_at hl 1 rfl) ?_
      obtain ⟨r5, hr5, hf⟩ := ob hf
      refine callV_i [.int a1] [] hC hH (c_X9_isAtEnd l G A S a1 _ hr5) (cwV 1 hts gX9_toss_X9_isAtEnd rfl rfl rfl (by decide +kernel) ⟨Nat.le_of_ble_eq_true rfl, Nat.le_of_ble_eq_true rfl⟩) (recvW hC hH (c0 := 0) (ci := 9) rfl rfl) rfl hl.1 rfl (Nat.le_of_ble_eq_true rfl) dX9_toss_27 (fun H locs hH => ?_)
      refine lv_if_eq (tgt := 36) hx hb dX9_toss_30 (by decide) (fun c6 => ?_) (fun c6 => ?_)
      · replace hf := it_t c6 hf
        refine lv_aload_n hx hb dX9_toss_36 rfl (lv_at hl 0 rfl) ?_
        refine getO hC hH (0) rfl rfl in_X9_toss_X9 5 (by decide) (index := 41) (List.mem_of_getElem? (i := 2) rfl) rfl dX9_toss_37 ?_
        refine lv_iload_n hx hb dX9_toss_40 rfl (lv_at hl 1 rfl) ?_
        refine lv_aload_n hx hb dX9_toss_41 rfl (lv_at hl 0 rfl) ?_
        refine getO hC hH (0) rfl rfl in_X9_toss_X9 2 (by decide) (index := 24) (List.mem_of_getElem? (i := 3) rfl) rfl dX9_toss_42 ?_
        obtain ⟨r7, hr7, hf⟩ := ob hf
        refine callV_v [.int a1, .ref (gC G (4 + 5 * 0))] [] hC hH (c_X0_remember l G A N S 0 (by decide) a1 _ hr7) (cwV 2 hts gX9_toss_X0_remember rfl rfl rfl (by decide +kernel) ⟨Nat.le_of_ble_eq_true rfl, Nat.le_of_ble_eq_true rfl⟩) (recvW hC hH (c0 := 18) (ci := 0) rfl rfl) rfl hl.1 rfl (Nat.le_of_ble_eq_true rfl) dX9_toss_45 (fun H locs hH => ?_)
        refine lv_aload_n hx hb dX9_toss_48 rfl (lv_at hl 0 rfl) ?_
        refine getO hC hH (0) rfl rfl in_X9_toss_X9 2 (by decide) (index := 24) (List.mem_of_getElem? (i := 3) rfl) rfl dX9_toss_49 ?_
        refine lv_iload_n hx hb dX9_toss_52 rfl (lv_at hl 1 rfl) ?_
        obtain ⟨r8, hr8, hf⟩ := ob hf
        refine callV_i [.int a1] [] hC hH (c_X7_yardOf l G A r7 0 (by decide) a1 _ hr8) (cwV 1 hts gX9_toss_X7_yardOf rfl rfl rfl (by decide +kernel) ⟨Nat.le_of_ble_eq_true rfl, Nat.le_of_ble_eq_true rfl⟩) (recvW hC hH (c0 := 4 + 5 * 0) (ci := 7) (cw_runs (i := 0) (by decide)) rfl) rfl hl.1 rfl (Nat.le_of_ble_eq_true rfl) dX9_toss_53 (fun H locs hH => ?_)
        refine lv_istore (lv' := [(6, .int r8), (0, .ref (gC G 0)), (1, .int a1), (2, .int a2), (3, .int a3), (4, .int a4), (5, .int a5)]) hx hb dX9_toss_56 hl (by decide) rfl (fun ls hl => ?_)
        refine lv_aload_n hx hb dX9_toss_58 rfl (lv_at hl 1 rfl) ?_
        refine getO hC hH (0) rfl rfl in_X9_toss_X9 2 (by decide) (index := 24) (List.mem_of_getElem? (i := 3) rfl) rfl dX9_toss_59 ?_
        obtain ⟨r9, hr9, hf⟩ := ob hf
        refine callV_i [] [] hC hH (c_X7_draw l G A r7 0 (by decide) _ hr9) (cwV 0 hts gX9_toss_X7_draw rfl rfl rfl (by decide +kernel) ⟨Nat.le_of_ble_eq_true rfl, Nat.le_of_ble_eq_true rfl⟩) (recvW hC hH (c0 := 4 + 5 * 0) (ci := 7) (cw_runs (i := 0) (by decide)) rfl) rfl hl.1 rfl (Nat.le_of_ble_eq_true rfl) dX9_toss_62 (fun H locs hH => ?_)
        refine lv_aload_n hx hb dX9_toss_65 rfl (lv_at hl 1 rfl) ?_
        refine getO hC hH (0) rfl rfl in_X9_toss_X9 9 (by decide) (index := 69) (List.mem_of_getElem? (i := 1) rfl) rfl dX9_toss_66 ?_
        refine lv_iload_n hx hb dX9_toss_69 rfl (lv_at hl 2 rfl) ?_
        refine lv_iload hx hb dX9_toss_70 (lv_at hl 0 rfl) ?_
        refine lv_iload_n hx hb dX9_toss_72 rfl (lv_at hl 3 rfl) ?_
        refine lv_iload_n hx hb dX9_toss_73 rfl (lv_at hl 4 rfl) ?_
        refine lv_iload hx hb dX9_toss_74 (lv_at hl 5 rfl) ?_
        refine lv_iload hx hb dX9_toss_76 (lv_at hl 6 rfl) ?_
        obtain ⟨r10, hr10, hf⟩ := ob hf
        refine callV_i [.int a1, .int r8, .int a2, .int a3, .int a4, .int a5] [.int r9.1] hC hH (c_X3_catchOf l G A r9.2 ((gCo r9.2).toNat) (Bool.toNat_lt _) a1 r8 a2 a3 a4 a5 _ hr10) (cwV 6 hts gX9_toss_X3_catchOf rfl rfl rfl (by decide +kernel) ⟨Nat.le_of_ble_eq_true rfl, Nat.le_of_ble_eq_true rfl⟩) (recvW hC hH (c0 := 33 + 5 * (gCo r9.2).toNat) (ci := 3) (cw_lane (i := (gCo r9.2).toNat) (Bool.toNat_lt _)) rfl) rfl hl.1 rfl (Nat.le_of_ble_eq_true rfl) dX9_toss_78 (fun H locs hH => ?_)
        refine lv_icmp_ge (tgt := 88) hx hb dX9_toss_81 (by decide) (fun c11 => ?_) (fun c11 => ?_)
        · replace hf := it_t c11 hf
          refine lv_iconst (v := 0) hx hb dX9_toss_88 (by decide) ?_
          exact kJ89  r9.2 r8 (0 : Int32) _ _ _ hH (lv_sub hl [1, 2, 3, 5, 6, 0] rfl) hf
        · replace hf := it_f c11 hf
          refine lv_iconst (v := 1) hx hb dX9_toss_84 (by decide) ?_
          refine lv_goto (tgt := 89) hx hb dX9_toss_85 (by decide) ?_
          exact kJ89  r9.2 r8 (1 : Int32) _ _ _ hH (lv_sub hl [1, 2, 3, 5, 6, 0] rfl) hf
      · replace hf := it_f c6 hf
        refine lv_bipush (v := -2) hx hb dX9_toss_33 (by decide) ?_
        exact fin (-2 : Int32) S _ _ _ _ (congrArg Prod.fst (Option.some.inj hf)) (congrArg Prod.snd (Option.some.inj hf)) hH dX9_toss_35
    · replace hf := it_t c4 hf
      refine lv_iconst (v := -1) hx hb dX9_toss_23 (by decide) ?_
      exact fin (-1 : Int32) S _ _ _ _ (congrArg Prod.fst (Option.some.inj hf)) (congrArg Prod.snd (Option.some.inj hf)) hH dX9_toss_24
