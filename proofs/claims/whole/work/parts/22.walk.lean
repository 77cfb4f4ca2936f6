/-! walks: X10_greater X10_byToss X10_spreads X10_oddsBy X10_gcd X10_odds X10_enough -/
set_option maxRecDepth 100000 in
set_option maxHeartbeats 4000000 in
theorem c_X10_greater (l : Launch) (G : Gt) (A : Nat → Prop) (S : St)  (a1 : Int64) (a3 : Int64) (q : Int64) (hf : f_X10_greater a1 a3 = some q) : Met l yX10_greater wsX10_greater ({ frames := 0, cells := 0, slots := 0, locals := 0 } : Room) (va_Pc [.ref (gM G 0), .long a1, .long a3] (PK G A (MW G S))) (va_Ql (fun (r2 : Int64) S2 => r2 = q ∧ S2 = S) (fun S2 : St => PK G A (MW G S2)) A) 0 0 A := by
  refine mstart_l (Wd := MW G) (cc := cX10_greater) (maxL := 5) (by decide) rfl (Nat.le_of_ble_eq_true rfl) (fun p e s m below meth c Qm ls hC hH hl fin => ?_)
  obtain ⟨hx, hb, hml, hown, hts⟩ := id hC.1
  have hl : lv_has ls 5 [(0, .ref (gM G 0)), (1, .long a1), (3, .long a3)] := hl
  have hf := hf
  rw [f_X10_greater] at hf
  refine lv_lload_n hx hb dX10_greater_0 rfl (lv_at hl 1 rfl) ?_
  refine lv_lload_n hx hb dX10_greater_1 rfl (lv_at hl 2 rfl) ?_
  refine W.lcmp hx hb dX10_greater_2 ?_
  refine lv_if_le (tgt := 10) hx hb dX10_greater_3 (by decide) (fun c1 => ?_) (fun c1 => ?_)
  · replace hf := it_t c1 hf
    refine lv_lload_n hx hb dX10_greater_10 rfl (lv_at hl 2 rfl) ?_
    exact fin a3 S _ _ _ _ (Option.some.inj hf) rfl hH dX10_greater_11
  · replace hf := it_f c1 hf
    refine lv_lload_n hx hb dX10_greater_6 rfl (lv_at hl 1 rfl) ?_
    refine lv_goto (tgt := 11) hx hb dX10_greater_7 (by decide) ?_
    exact fin a1 S _ _ _ _ (Option.some.inj hf) rfl hH dX10_greater_11
theorem in_X10_byToss_X10 : ∀ w ∈ wsX100, w ∈ wsX10_byToss := fun w h => List.mem_cons_of_mem _ (List.mem_append_right _ h)
set_option maxRecDepth 100000 in
set_option maxHeartbeats 4000000 in
theorem c_X10_byToss (l : Launch) (G : Gt) (A : Nat → Prop) (S : St)  (a1 : Int32) (a2 : Int32) (a3 : Int32) (a4 : Int32) (a5 : Int32) (a6 : Int32) (a7 : Int32) (q : Int64 × St) (hf : f_X10_byToss S a1 a2 a3 a4 a5 a6 a7 = some q) : Met l yX10_byToss wsX10_byToss ({ frames := 2, cells := 0, slots := 0, locals := 53 } : Room) (va_Pc [.ref (gM G 0), .int a1, .int a2, .int a3, .int a4, .int a5, .int a6, .int a7] (PK G A (MW G S))) (va_Ql (fun (r2 : Int64) S2 => r2 = q.1 ∧ S2 = q.2) (fun S2 : St => PK G A (MW G S2)) A) 0 0 A := by
  refine mstart_l (Wd := MW G) (cc := cX10_byToss) (maxL := 16) (by decide) rfl (Nat.le_of_ble_eq_true rfl) (fun p e s m below meth c Qm ls hC hH hl fin => ?_)
  obtain ⟨hx, hb, hml, hown, hts⟩ := id hC.1
  have hl : lv_has ls 16 [(0, .ref (gM G 0)), (1, .int a1), (2, .int a2), (3, .int a3), (4, .int a4), (5, .int a5), (6, .int a6), (7, .int a7)] := hl
  have kJ113 : ∀ (S : St) (x8 : Int32) (x12 : Int64) (t0 : Int64) (H : Heap) (locs : List Loc) (ls : Array Slot), HW G A (MW G S) s H locs → lv_has ls 16 [(8, .int x8), (12, .long x12)] → f_X10_byToss_113  S x8 x12 t0 = some q → W p l e ({ frames := 2, cells := 0, slots := 0, locals := 53 } : Room) s m [.ref (gM G 0), .int a1, .int a2, .int a3, .int a4, .int a5, .int a6, .int a7].toArray below meth c H locs 0 0 Qm (F0 m 113 ls [.long t0]) := by
    intro S x8 x12 t0 H locs ls hH hl hf
    rw [f_X10_byToss_113] at hf
    refine lv_lstore (lv' := [(14, .long t0), (8, .int x8), (12, .long x12)]) hx hb dX10_byToss_113 hl (by decide) rfl (fun ls hl => ?_)
    refine lv_iload hx hb dX10_byToss_115 (lv_at hl 1 rfl) ?_
    refine lv_i2l hx hb dX10_byToss_117 rfl ?_
    refine lv_lload hx hb dX10_byToss_118 (lv_at hl 2 rfl) ?_
    refine lv_lmul hx hb dX10_byToss_120 ?_
    refine lv_bipush (v := 10) hx hb dX10_byToss_121 (by decide) ?_
    refine lv_iload hx hb dX10_byToss_123 (lv_at hl 1 rfl) ?_
    refine lv_isub hx hb dX10_byToss_125 ?_
    refine lv_i2l hx hb dX10_byToss_126 rfl ?_
    refine lv_lload hx hb dX10_byToss_127 (lv_at hl 0 rfl) ?_
    refine lv_lmul hx hb dX10_byToss_129 ?_
    refine lv_ladd hx hb dX10_byToss_130 ?_
    refine lv_ldc2 (v := 10) hx hb hown (hts (.constantLong RX10 187 (10)) (List.mem_of_getElem? (i := 4) rfl)) dX10_byToss_131 ?_
    refine lv_ldiv hx hb dX10_byToss_134 (by decide) ?_
    have hz : ((((x8.toInt64) * x12) + ((((10 : Int32) - x8).toInt64) * t0)) / (10 : Int64), S) = q := Option.some.inj hf
    have hz1 := congrArg Prod.fst hz
    have hz2 := congrArg Prod.snd hz
    exact fin ((((x8.toInt64) * x12) + ((((10 : Int32) - x8).toInt64) * t0)) / (10 : Int64)) S _ _ _ _ hz1 hz2 hH dX10_byToss_135
  have kJ84 : ∀ (S : St) (x8 : Int32) (x10 : Int32) (t0 : Int64) (H : Heap) (locs : List Loc) (ls : Array Slot), HW G A (MW G S) s H locs → lv_has ls 16 [(0, .ref (gM G 0)), (4, .int a4), (5, .int a5), (8, .int x8), (10, .int x10)] → f_X10_byToss_84 a4 a5 S x8 x10 t0 = some q → W p l e ({ frames := 2, cells := 0, slots := 0, locals := 53 } : Room) s m [.ref (gM G 0), .int a1, .int a2, .int a3, .int a4, .int a5, .int a6, .int a7].toArray below meth c H locs 0 0 Qm (F0 m 84 ls [.long t0]) := by
    intro S x8 x10 t0 H locs ls hH hl hf
    rw [f_X10_byToss_84] at hf
    refine lv_lstore (lv' := [(12, .long t0), (0, .ref (gM G 0)), (4, .int a4), (5, .int a5), (8, .int x8), (10, .int x10)]) hx hb dX10_byToss_84 hl (by decide) rfl (fun ls hl => ?_)
    refine lv_iload hx hb dX10_byToss_86 (lv_at hl 5 rfl) ?_
    refine lv_iload hx hb dX10_byToss_88 (lv_at hl 3 rfl) ?_
    refine lv_icmp_le (tgt := 97) hx hb dX10_byToss_90 (by decide) (fun c10 => ?_) (fun c10 => ?_)
    · replace hf := it_t c10 hf
      refine lv_aload_n hx hb dX10_byToss_97 rfl (lv_at hl 1 rfl) ?_
      refine getO hC hH (0) rfl rfl in_X10_byToss_X10 28 (by decide) (index := 44) (List.mem_of_getElem? (i := 2) rfl) rfl dX10_byToss_98 ?_
      refine lv_aload_n hx hb dX10_byToss_101 rfl (lv_at hl 1 rfl) ?_
      refine getO hC hH (0) rfl rfl in_X10_byToss_X10 26 (by decide) (index := 156) (List.mem_of_getElem? (i := 3) rfl) rfl dX10_byToss_102 ?_
      refine lv_iload hx hb dX10_byToss_105 (lv_at hl 5 rfl) ?_
      refine lv_iload hx hb dX10_byToss_107 (lv_at hl 2 rfl) ?_
      obtain ⟨r11, hr11, hf⟩ := ob hf
      refine callS_i [.int (gI S 0 26), .int x10, .int a4] [.ref (gM G 12)] hC hH (c_X10_at l G A S (gI S 0 26) x10 a4 _ hr11) (va_cwS 3 hts gX10_byToss_X10_at rfl rfl rfl (by decide +kernel) ⟨Nat.le_of_ble_eq_true rfl, Nat.le_of_ble_eq_true rfl⟩) rfl hl.1 rfl (Nat.le_of_ble_eq_true rfl) dX10_byToss_109 (fun H locs hH => ?_)
      obtain ⟨g12, hf⟩ := gd hf
      refine aldJ hC hH (12) rfl g12 dX10_byToss_112 ?_
      exact kJ113  S x8 t0 (gB S 12 r11.toNatClampNeg) _ _ _ hH (lv_sub hl [4, 0] rfl) hf
    · replace hf := it_f c10 hf
      refine lv_lconst (v := 0) hx hb dX10_byToss_93 (by decide) ?_
      refine lv_goto (tgt := 113) hx hb dX10_byToss_94 (by decide) ?_
      exact kJ113  S x8 t0 (0 : Int64) _ _ _ hH (lv_sub hl [4, 0] rfl) hf
  have kJ55 : ∀ (S : St) (x8 : Int32) (x9 : Int32) (x10 : Int32) (t0 : Int32) (H : Heap) (locs : List Loc) (ls : Array Slot), HW G A (MW G S) s H locs → lv_has ls 16 [(0, .ref (gM G 0)), (4, .int a4), (5, .int a5), (8, .int x8), (9, .int x9), (10, .int x10)] → f_X10_byToss_55 a4 a5 S x8 x9 x10 t0 = some q → W p l e ({ frames := 2, cells := 0, slots := 0, locals := 53 } : Room) s m [.ref (gM G 0), .int a1, .int a2, .int a3, .int a4, .int a5, .int a6, .int a7].toArray below meth c H locs 0 0 Qm (F0 m 55 ls [.int t0]) := by
    intro S x8 x9 x10 t0 H locs ls hH hl hf
    rw [f_X10_byToss_55] at hf
    refine lv_istore (lv' := [(11, .int t0), (0, .ref (gM G 0)), (4, .int a4), (5, .int a5), (8, .int x8), (9, .int x9), (10, .int x10)]) hx hb dX10_byToss_55 hl (by decide) rfl (fun ls hl => ?_)
    refine lv_iload hx hb dX10_byToss_57 (lv_at hl 5 rfl) ?_
    refine lv_iload hx hb dX10_byToss_59 (lv_at hl 3 rfl) ?_
    refine lv_icmp_le (tgt := 68) hx hb dX10_byToss_61 (by decide) (fun c7 => ?_) (fun c7 => ?_)
    · replace hf := it_t c7 hf
      refine lv_aload_n hx hb dX10_byToss_68 rfl (lv_at hl 1 rfl) ?_
      refine getO hC hH (0) rfl rfl in_X10_byToss_X10 28 (by decide) (index := 44) (List.mem_of_getElem? (i := 2) rfl) rfl dX10_byToss_69 ?_
      refine lv_aload_n hx hb dX10_byToss_72 rfl (lv_at hl 1 rfl) ?_
      refine getO hC hH (0) rfl rfl in_X10_byToss_X10 26 (by decide) (index := 156) (List.mem_of_getElem? (i := 3) rfl) rfl dX10_byToss_73 ?_
      refine lv_iload hx hb dX10_byToss_76 (lv_at hl 5 rfl) ?_
      refine lv_iload hx hb dX10_byToss_78 (lv_at hl 0 rfl) ?_
      obtain ⟨r8, hr8, hf⟩ := ob hf
      refine callS_i [.int (gI S 0 26), .int x9, .int t0] [.ref (gM G 12)] hC hH (c_X10_at l G A S (gI S 0 26) x9 t0 _ hr8) (va_cwS 3 hts gX10_byToss_X10_at rfl rfl rfl (by decide +kernel) ⟨Nat.le_of_ble_eq_true rfl, Nat.le_of_ble_eq_true rfl⟩) rfl hl.1 rfl (Nat.le_of_ble_eq_true rfl) dX10_byToss_80 (fun H locs hH => ?_)
      obtain ⟨g9, hf⟩ := gd hf
      refine aldJ hC hH (12) rfl g9 dX10_byToss_83 ?_
      exact kJ84  S x8 x10 (gB S 12 r8.toNatClampNeg) _ _ _ hH (lv_sub hl [1, 2, 3, 4, 6] rfl) hf
    · replace hf := it_f c7 hf
      refine lv_lconst (v := 0) hx hb dX10_byToss_64 (by decide) ?_
      refine lv_goto (tgt := 84) hx hb dX10_byToss_65 (by decide) ?_
      exact kJ84  S x8 x10 (0 : Int64) _ _ _ hH (lv_sub hl [1, 2, 3, 4, 6] rfl) hf
  have hf := hf
  rw [f_X10_byToss] at hf
  refine lv_aload_n hx hb dX10_byToss_0 rfl (lv_at hl 0 rfl) ?_
  refine lv_iload_n hx hb dX10_byToss_1 rfl (lv_at hl 1 rfl) ?_
  refine lv_iload_n hx hb dX10_byToss_2 rfl (lv_at hl 2 rfl) ?_
  refine lv_iload hx hb dX10_byToss_3 (lv_at hl 6 rfl) ?_
  refine lv_iload hx hb dX10_byToss_5 (lv_at hl 7 rfl) ?_
  obtain ⟨r1, hr1, hf⟩ := ob hf
  refine callV_i [.int a1, .int a2, .int a6, .int a7] [] hC hH (c_X10_sureOf l G A S a1 a2 a6 a7 _ hr1) (cwV 4 hts gX10_byToss_X10_sureOf rfl rfl rfl (by decide +kernel) ⟨Nat.le_of_ble_eq_true rfl, Nat.le_of_ble_eq_true rfl⟩) (recvW hC hH (c0 := 0) (ci := 10) rfl rfl) rfl hl.1 rfl (Nat.le_of_ble_eq_true rfl) dX10_byToss_7 (fun H locs hH => ?_)
  refine lv_istore (lv' := [(8, .int r1.1), (0, .ref (gM G 0)), (1, .int a1), (2, .int a2), (3, .int a3), (4, .int a4), (5, .int a5), (6, .int a6), (7, .int a7)]) hx hb dX10_byToss_10 hl (by decide) rfl (fun ls hl => ?_)
  refine lv_iload_n hx hb dX10_byToss_12 rfl (lv_at hl 4 rfl) ?_
  refine lv_iload hx hb dX10_byToss_13 (lv_at hl 8 rfl) ?_
  refine lv_bipush (v := 100) hx hb dX10_byToss_15 (by decide) ?_
  refine lv_idiv hx hb dX10_byToss_17 (by decide) ?_
  refine lv_iconst (v := 2) hx hb dX10_byToss_18 (by decide) ?_
  refine lv_imul hx hb dX10_byToss_19 ?_
  refine lv_iadd hx hb dX10_byToss_20 ?_
  refine lv_topi (fun b2 eb2 => ?_)
  replace hf := bn eb2 hf
  refine lv_istore (lv' := [(9, .int b2), (8, .int r1.1), (0, .ref (gM G 0)), (1, .int a1), (2, .int a2), (3, .int a3), (4, .int a4), (5, .int a5), (6, .int a6), (7, .int a7)]) hx hb dX10_byToss_21 hl (by decide) rfl (fun ls hl => ?_)
  refine lv_iload hx hb dX10_byToss_23 (lv_at hl 0 rfl) ?_
  refine lv_aload_n hx hb dX10_byToss_25 rfl (lv_at hl 2 rfl) ?_
  refine getO hC hH (0) rfl rfl in_X10_byToss_X10 13 (by decide) (index := 25) (List.mem_of_getElem? (i := 1) rfl) rfl dX10_byToss_26 ?_
  refine lv_bipush (v := 6) hx hb dX10_byToss_29 (by decide) ?_
  obtain ⟨g3, hf⟩ := gd hf
  refine aldI hC hH (6) rfl g3 dX10_byToss_31 ?_
  refine lv_iadd hx hb dX10_byToss_32 ?_
  refine lv_topi (fun b4 eb4 => ?_)
  replace hf := bn eb4 hf
  refine lv_istore (lv' := [(10, .int b4), (9, .int b2), (8, .int r1.1), (0, .ref (gM G 0)), (1, .int a1), (2, .int a2), (3, .int a3), (4, .int a4), (5, .int a5), (6, .int a6), (7, .int a7)]) hx hb dX10_byToss_33 hl (by decide) rfl (fun ls hl => ?_)
  refine lv_iload hx hb dX10_byToss_35 (lv_at hl 7 rfl) ?_
  refine lv_aload_n hx hb dX10_byToss_37 rfl (lv_at hl 3 rfl) ?_
  refine getO hC hH (0) rfl rfl in_X10_byToss_X10 13 (by decide) (index := 25) (List.mem_of_getElem? (i := 1) rfl) rfl dX10_byToss_38 ?_
  refine lv_iconst (v := 5) hx hb dX10_byToss_41 (by decide) ?_
  obtain ⟨g5, hf⟩ := gd hf
  refine aldI hC hH (6) rfl g5 dX10_byToss_42 ?_
  refine lv_icmp_ge (tgt := 53) hx hb dX10_byToss_43 (by decide) (fun c6 => ?_) (fun c6 => ?_)
  · replace hf := it_t c6 hf
    refine lv_iload hx hb dX10_byToss_53 (lv_at hl 7 rfl) ?_
    exact kJ55  r1.2 r1.1 b2 b4 a4 _ _ _ hH (lv_sub hl [3, 7, 8, 2, 1, 0] rfl) hf
  · replace hf := it_f c6 hf
    refine lv_iload hx hb dX10_byToss_46 (lv_at hl 7 rfl) ?_
    refine lv_iconst (v := 1) hx hb dX10_byToss_48 (by decide) ?_
    refine lv_iadd hx hb dX10_byToss_49 ?_
    refine lv_goto (tgt := 55) hx hb dX10_byToss_50 (by decide) ?_
    exact kJ55  r1.2 r1.1 b2 b4 (a4 + (1 : Int32)) _ _ _ hH (lv_sub hl [3, 7, 8, 2, 1, 0] rfl) hf
theorem in_X10_spreads_X10 : ∀ w ∈ wsX100, w ∈ wsX10_spreads := fun w h => List.mem_cons_of_mem _ (List.mem_append_right _ h)
set_option maxRecDepth 100000 in
set_option maxHeartbeats 4000000 in
theorem c_X10_spreads (l : Launch) (G : Gt) (A : Nat → Prop) (N : Nat) (S : St)  (a1 : Int32) (a2 : Int32) (q : St) (hf : f_X10_spreads N S a1 a2 = some q) : Met l yX10_spreads wsX10_spreads ({ frames := 3, cells := 0, slots := 0, locals := 88 } : Room) (va_Pc [.ref (gM G 0), .int a1, .int a2] (PK G A (MW G S))) (va_Qv (fun S2 => S2 = q) (fun S2 : St => PK G A (MW G S2)) A) 0 0 A := by
  refine mstart_v (Wd := MW G) (cc := cX10_spreads) (maxL := 13) (by decide) rfl (Nat.le_of_ble_eq_true rfl) (fun p e s m below meth c Qm ls hC hH hl fin => ?_)
  obtain ⟨hx, hb, hml, hown, hts⟩ := id hC.1
  have hl : lv_has ls 13 [(0, .ref (gM G 0)), (1, .int a1), (2, .int a2)] := hl
  have kL2 : ∀ (k42 : St → Option St) (hk42 : ∀ (S : St) (H : Heap) (locs : List Loc) (ls : Array Slot), HW G A (MW G S) s H locs → lv_has ls 13 [(0, .ref (gM G 0)), (1, .int a1), (2, .int a2)] → k42 S = some q → W p l e ({ frames := 3, cells := 0, slots := 0, locals := 88 } : Room) s m [.ref (gM G 0), .int a1, .int a2].toArray below meth c H locs 0 0 Qm (F0 m 42 ls [])) , ∀ (n : Nat), ∀ (S : St) (x3 : Int32) (H : Heap) (locs : List Loc) (ls : Array Slot), HW G A (MW G S) s H locs → lv_has ls 13 [(0, .ref (gM G 0)), (1, .int a1), (2, .int a2), (3, .int x3)] → g_X10_spreads_2 N a1 a2 k42 n S x3 = some q → W p l e ({ frames := 3, cells := 0, slots := 0, locals := 88 } : Room) s m [.ref (gM G 0), .int a1, .int a2].toArray below meth c H locs 0 0 Qm (F0 m 2 ls []) := by
    intro k42 hk42 n
    induction n with
    | zero => intro S x3 H locs ls hH hl hf; exact absurd hf.symm (Option.some_ne_none q)
    | succ n ih =>
      intro S x3 H locs ls hH hl hf
      have hrec := ih
      have hf : s_X10_spreads_2 N a1 a2 k42 (g_X10_spreads_2 N a1 a2 k42 n) S x3 = some q := hf
      rw [s_X10_spreads_2] at hf
      refine lv_iload_n hx hb dX10_spreads_2 rfl (lv_at hl 3 rfl) ?_
      refine lv_aload_n hx hb dX10_spreads_3 rfl (lv_at hl 0 rfl) ?_
      refine getO hC hH (0) rfl rfl in_X10_spreads_X10 14 (by decide) (index := 54) (List.mem_of_getElem? (i := 1) rfl) rfl dX10_spreads_4 ?_
      refine lv_icmp_ge (tgt := 42) hx hb dX10_spreads_7 (by decide) (fun c1 => ?_) (fun c1 => ?_)
      · replace hf := it_t c1 hf
        exact hk42 S _ _ _ hH (lv_sub hl [0, 1, 2] rfl) hf
      · replace hf := it_f c1 hf
        refine lv_aload_n hx hb dX10_spreads_10 rfl (lv_at hl 0 rfl) ?_
        refine getO hC hH (0) rfl rfl in_X10_spreads_X10 29 (by decide) (index := 48) (List.mem_of_getElem? (i := 2) rfl) rfl dX10_spreads_11 ?_
        refine lv_iload_n hx hb dX10_spreads_14 rfl (lv_at hl 3 rfl) ?_
        refine lv_aload_n hx hb dX10_spreads_15 rfl (lv_at hl 0 rfl) ?_
        refine lv_iload_n hx hb dX10_spreads_16 rfl (lv_at hl 1 rfl) ?_
        refine lv_iload_n hx hb dX10_spreads_17 rfl (lv_at hl 3 rfl) ?_
        refine lv_iconst (v := 0) hx hb dX10_spreads_18 (by decide) ?_
        obtain ⟨r2, hr2, hf⟩ := ob hf
        refine callV_i [.int a1, .int x3, .int (0 : Int32)] [.int x3, .ref (gM G 13)] hC hH (c_X10_bestOf l G A N S a1 x3 (0 : Int32) _ hr2) (cwV 3 hts gX10_spreads_X10_bestOf rfl rfl rfl (by decide +kernel) ⟨Nat.le_of_ble_eq_true rfl, Nat.le_of_ble_eq_true rfl⟩) (recvW hC hH (c0 := 0) (ci := 10) rfl rfl) rfl hl.1 rfl (Nat.le_of_ble_eq_true rfl) dX10_spreads_19 (fun H locs hH => ?_)
        obtain ⟨g3, hf⟩ := gd hf
        refine astI hC hH (13) rfl g3 mt_13 dX10_spreads_22 (fun H locs hH => ?_)
        obtain ⟨S4, eS4⟩ : ∃ Z : St, Z = sA r2.2 13 (upd (gA r2.2 13) x3.toNatClampNeg r2.1) := ⟨_, rfl⟩
        rw [← eS4] at hH
        replace hf := bn eS4 hf
        refine lv_aload_n hx hb dX10_spreads_23 rfl (lv_at hl 0 rfl) ?_
        refine getO hC hH (0) rfl rfl in_X10_spreads_X10 30 (by decide) (index := 51) (List.mem_of_getElem? (i := 3) rfl) rfl dX10_spreads_24 ?_
        refine lv_iload_n hx hb dX10_spreads_27 rfl (lv_at hl 3 rfl) ?_
        refine lv_aload_n hx hb dX10_spreads_28 rfl (lv_at hl 0 rfl) ?_
        refine lv_iload_n hx hb dX10_spreads_29 rfl (lv_at hl 1 rfl) ?_
        refine lv_iload_n hx hb dX10_spreads_30 rfl (lv_at hl 3 rfl) ?_
        refine lv_iconst (v := 1) hx hb dX10_spreads_31 (by decide) ?_
        obtain ⟨r5, hr5, hf⟩ := ob hf
        refine callV_i [.int a1, .int x3, .int (1 : Int32)] [.int x3, .ref (gM G 14)] hC hH (c_X10_bestOf l G A N S4 a1 x3 (1 : Int32) _ hr5) (cwV 3 hts gX10_spreads_X10_bestOf rfl rfl rfl (by decide +kernel) ⟨Nat.le_of_ble_eq_true rfl, Nat.le_of_ble_eq_true rfl⟩) (recvW hC hH (c0 := 0) (ci := 10) rfl rfl) rfl hl.1 rfl (Nat.le_of_ble_eq_true rfl) dX10_spreads_32 (fun H locs hH => ?_)
        obtain ⟨g6, hf⟩ := gd hf
        refine astI hC hH (14) rfl g6 mt_14 dX10_spreads_35 (fun H locs hH => ?_)
        obtain ⟨S7, eS7⟩ : ∃ Z : St, Z = sA r5.2 14 (upd (gA r5.2 14) x3.toNatClampNeg r5.1) := ⟨_, rfl⟩
        rw [← eS7] at hH
        replace hf := bn eS7 hf
        refine lv_iinc (v := x3 + (1 : Int32)) (lv' := [(3, .int (x3 + (1 : Int32))), (0, .ref (gM G 0)), (1, .int a1), (2, .int a2)]) hx hb dX10_spreads_36 hl (k := 3) rfl rfl (by decide) rfl (fun ls hl => ?_)
        refine lv_goto (tgt := 2) hx hb dX10_spreads_39 (by decide) ?_
        exact hrec S7 (x3 + (1 : Int32)) _ _ _ hH (lv_sub hl [1, 2, 3, 0] rfl) hf
  have kJ93 : ∀ (k100 : St → Int32 → Option St) (hk100 : ∀ (S : St) (x3 : Int32) (H : Heap) (locs : List Loc) (ls : Array Slot), HW G A (MW G S) s H locs → lv_has ls 13 [(0, .ref (gM G 0)), (1, .int a1), (2, .int a2), (3, .int x3)] → k100 S x3 = some q → W p l e ({ frames := 3, cells := 0, slots := 0, locals := 88 } : Room) s m [.ref (gM G 0), .int a1, .int a2].toArray below meth c H locs 0 0 Qm (F0 m 100 ls [])) (rec : St → Int32 → Int32 → Option St) (hrec : ∀ (S : St) (x3 : Int32) (x4 : Int32) (H : Heap) (locs : List Loc) (ls : Array Slot), HW G A (MW G S) s H locs → lv_has ls 13 [(0, .ref (gM G 0)), (1, .int a1), (2, .int a2), (3, .int x3), (4, .int x4)] → rec S x3 x4 = some q → W p l e ({ frames := 3, cells := 0, slots := 0, locals := 88 } : Room) s m [.ref (gM G 0), .int a1, .int a2].toArray below meth c H locs 0 0 Qm (F0 m 56 ls [])) , ∀ (S : St) (x3 : Int32) (x4 : Int32) (t1 : Int32) (t2 : Int64) (H : Heap) (locs : List Loc) (ls : Array Slot), HW G A (MW G S) s H locs → lv_has ls 13 [(0, .ref (gM G 0)), (1, .int a1), (2, .int a2), (3, .int x3), (4, .int x4)] → f_X10_spreads_93 N a1 a2 k100 rec S x3 x4 t1 t2 = some q → W p l e ({ frames := 3, cells := 0, slots := 0, locals := 88 } : Room) s m [.ref (gM G 0), .int a1, .int a2].toArray below meth c H locs 0 0 Qm (F0 m 93 ls [.long t2, .int t1, .ref (gM G 12)]) := by
    intro k100 hk100 rec hrec S x3 x4 t1 t2 H locs ls hH hl hf
    rw [f_X10_spreads_93] at hf
    obtain ⟨g16, hf⟩ := gd hf
    refine astJ hC hH (12) rfl g16 mt_12 dX10_spreads_93 (fun H locs hH => ?_)
    obtain ⟨S17, eS17⟩ : ∃ Z : St, Z = sB S 12 (vp_updL (gB S 12) t1.toNatClampNeg t2) := ⟨_, rfl⟩
    rw [← eS17] at hH
    replace hf := bn eS17 hf
    refine lv_iinc (v := x4 + (-1 : Int32)) (lv' := [(4, .int (x4 + (-1 : Int32))), (0, .ref (gM G 0)), (1, .int a1), (2, .int a2), (3, .int x3)]) hx hb dX10_spreads_94 hl (k := 4) rfl rfl (by decide) rfl (fun ls hl => ?_)
    refine lv_goto (tgt := 56) hx hb dX10_spreads_97 (by decide) ?_
    exact hrec S17 x3 (x4 + (-1 : Int32)) _ _ _ hH (lv_sub hl [1, 2, 3, 4, 0] rfl) hf
  have kL56 : ∀ (k100 : St → Int32 → Option St) (hk100 : ∀ (S : St) (x3 : Int32) (H : Heap) (locs : List Loc) (ls : Array Slot), HW G A (MW G S) s H locs → lv_has ls 13 [(0, .ref (gM G 0)), (1, .int a1), (2, .int a2), (3, .int x3)] → k100 S x3 = some q → W p l e ({ frames := 3, cells := 0, slots := 0, locals := 88 } : Room) s m [.ref (gM G 0), .int a1, .int a2].toArray below meth c H locs 0 0 Qm (F0 m 100 ls [])) , ∀ (n : Nat), ∀ (S : St) (x3 : Int32) (x4 : Int32) (H : Heap) (locs : List Loc) (ls : Array Slot), HW G A (MW G S) s H locs → lv_has ls 13 [(0, .ref (gM G 0)), (1, .int a1), (2, .int a2), (3, .int x3), (4, .int x4)] → g_X10_spreads_56 N a1 a2 k100 n S x3 x4 = some q → W p l e ({ frames := 3, cells := 0, slots := 0, locals := 88 } : Room) s m [.ref (gM G 0), .int a1, .int a2].toArray below meth c H locs 0 0 Qm (F0 m 56 ls []) := by
    intro k100 hk100 n
    induction n with
    | zero => intro S x3 x4 H locs ls hH hl hf; exact absurd hf.symm (Option.some_ne_none q)
    | succ n ih =>
      intro S x3 x4 H locs ls hH hl hf
      have hrec := ih
      have hf : s_X10_spreads_56 N a1 a2 k100 (g_X10_spreads_56 N a1 a2 k100 n) S x3 x4 = some q := hf
      rw [s_X10_spreads_56] at hf
      refine lv_iload hx hb dX10_spreads_56 (lv_at hl 4 rfl) ?_
      refine lv_if_lt (tgt := 100) hx hb dX10_spreads_58 (by decide) (fun c12 => ?_) (fun c12 => ?_)
      · replace hf := it_t c12 hf
        exact hk100 S x3 _ _ _ hH (lv_sub hl [0, 1, 2, 3] rfl) hf
      · replace hf := it_f c12 hf
        refine lv_aload_n hx hb dX10_spreads_61 rfl (lv_at hl 0 rfl) ?_
        refine getO hC hH (0) rfl rfl in_X10_spreads_X10 28 (by decide) (index := 44) (List.mem_of_getElem? (i := 5) rfl) rfl dX10_spreads_62 ?_
        refine lv_aload_n hx hb dX10_spreads_65 rfl (lv_at hl 0 rfl) ?_
        refine getO hC hH (0) rfl rfl in_X10_spreads_X10 14 (by decide) (index := 54) (List.mem_of_getElem? (i := 1) rfl) rfl dX10_spreads_66 ?_
        refine lv_iload_n hx hb dX10_spreads_69 rfl (lv_at hl 3 rfl) ?_
        refine lv_iload hx hb dX10_spreads_70 (lv_at hl 4 rfl) ?_
        obtain ⟨r13, hr13, hf⟩ := ob hf
        refine callS_i [.int (gI S 0 14), .int x3, .int x4] [.ref (gM G 12)] hC hH (c_X10_at l G A S (gI S 0 14) x3 x4 _ hr13) (va_cwS 3 hts gX10_spreads_X10_at rfl rfl rfl (by decide +kernel) ⟨Nat.le_of_ble_eq_true rfl, Nat.le_of_ble_eq_true rfl⟩) rfl hl.1 rfl (Nat.le_of_ble_eq_true rfl) dX10_spreads_72 (fun H locs hH => ?_)
        refine lv_iload hx hb dX10_spreads_75 (lv_at hl 4 rfl) ?_
        refine lv_aload_n hx hb dX10_spreads_77 rfl (lv_at hl 0 rfl) ?_
        refine getO hC hH (0) rfl rfl in_X10_spreads_X10 13 (by decide) (index := 25) (List.mem_of_getElem? (i := 4) rfl) rfl dX10_spreads_78 ?_
        refine lv_iconst (v := 5) hx hb dX10_spreads_81 (by decide) ?_
        obtain ⟨g14, hf⟩ := gd hf
        refine aldI hC hH (6) rfl g14 dX10_spreads_82 ?_
        refine lv_icmp_ne (tgt := 92) hx hb dX10_spreads_83 (by decide) (fun c15 => ?_) (fun c15 => ?_)
        · replace hf := it_f c15 hf
          refine lv_lconst (v := 0) hx hb dX10_spreads_92 (by decide) ?_
          exact kJ93 k100 hk100 _ hrec S x3 x4 r13 (0 : Int64) _ _ _ hH (lv_sub hl [0, 1, 2, 3, 4] rfl) hf
        · replace hf := it_t c15 hf
          refine lv_ldc2 (v := 1000000000000) hx hb hown (hts (.constantLong RX10 189 (1000000000000)) (List.mem_of_getElem? (i := 6) rfl)) dX10_spreads_86 ?_
          refine lv_goto (tgt := 93) hx hb dX10_spreads_89 (by decide) ?_
          exact kJ93 k100 hk100 _ hrec S x3 x4 r13 (1000000000000 : Int64) _ _ _ hH (lv_sub hl [0, 1, 2, 3, 4] rfl) hf
  have kJ184 : ∀ (k261 : St → Int32 → Int32 → Option St) (hk261 : ∀ (S : St) (x3 : Int32) (x4 : Int32) (H : Heap) (locs : List Loc) (ls : Array Slot), HW G A (MW G S) s H locs → lv_has ls 13 [(0, .ref (gM G 0)), (1, .int a1), (2, .int a2), (3, .int x3), (4, .int x4)] → k261 S x3 x4 = some q → W p l e ({ frames := 3, cells := 0, slots := 0, locals := 88 } : Room) s m [.ref (gM G 0), .int a1, .int a2].toArray below meth c H locs 0 0 Qm (F0 m 261 ls [])) (rec : St → Int32 → Int32 → Int32 → Int32 → Option St) (hrec : ∀ (S : St) (x3 : Int32) (x4 : Int32) (x5 : Int32) (x6 : Int32) (H : Heap) (locs : List Loc) (ls : Array Slot), HW G A (MW G S) s H locs → lv_has ls 13 [(0, .ref (gM G 0)), (1, .int a1), (2, .int a2), (3, .int x3), (4, .int x4), (5, .int x5), (6, .int x6)] → rec S x3 x4 x5 x6 = some q → W p l e ({ frames := 3, cells := 0, slots := 0, locals := 88 } : Room) s m [.ref (gM G 0), .int a1, .int a2].toArray below meth c H locs 0 0 Qm (F0 m 155 ls [])) , ∀ (S : St) (x3 : Int32) (x4 : Int32) (x5 : Int32) (x6 : Int32) (t0 : Int64) (H : Heap) (locs : List Loc) (ls : Array Slot), HW G A (MW G S) s H locs → lv_has ls 13 [(0, .ref (gM G 0)), (1, .int a1), (2, .int a2), (3, .int x3), (4, .int x4), (5, .int x5), (6, .int x6)] → f_X10_spreads_184 N a1 a2 k261 rec S x3 x4 x5 x6 t0 = some q → W p l e ({ frames := 3, cells := 0, slots := 0, locals := 88 } : Room) s m [.ref (gM G 0), .int a1, .int a2].toArray below meth c H locs 0 0 Qm (F0 m 184 ls [.long t0]) := by
    intro k261 hk261 rec hrec S x3 x4 x5 x6 t0 H locs ls hH hl hf
    rw [f_X10_spreads_184] at hf
    refine lv_lstore (lv' := [(7, .long t0), (0, .ref (gM G 0)), (1, .int a1), (2, .int a2), (3, .int x3), (4, .int x4), (5, .int x5), (6, .int x6)]) hx hb dX10_spreads_184 hl (by decide) rfl (fun ls hl => ?_)
    refine lv_aload_n hx hb dX10_spreads_186 rfl (lv_at hl 1 rfl) ?_
    refine lv_iload_n hx hb dX10_spreads_187 rfl (lv_at hl 2 rfl) ?_
    refine lv_iload hx hb dX10_spreads_188 (lv_at hl 5 rfl) ?_
    refine lv_iload_n hx hb dX10_spreads_190 rfl (lv_at hl 4 rfl) ?_
    refine lv_iload hx hb dX10_spreads_191 (lv_at hl 7 rfl) ?_
    refine lv_iload_n hx hb dX10_spreads_193 rfl (lv_at hl 3 rfl) ?_
    refine lv_iconst (v := 0) hx hb dX10_spreads_194 (by decide) ?_
    refine lv_aload_n hx hb dX10_spreads_195 rfl (lv_at hl 1 rfl) ?_
    refine getO hC hH (0) rfl rfl in_X10_spreads_X10 29 (by decide) (index := 48) (List.mem_of_getElem? (i := 2) rfl) rfl dX10_spreads_196 ?_
    refine lv_iload hx hb dX10_spreads_199 (lv_at hl 5 rfl) ?_
    obtain ⟨g31, hf⟩ := gd hf
    refine aldI hC hH (13) rfl g31 dX10_spreads_201 ?_
    obtain ⟨r32, hr32, hf⟩ := ob hf
    refine callV_l [.int a1, .int x4, .int x3, .int x6, .int a2, .int (0 : Int32), .int (gA S 13 x4.toNatClampNeg)] [] hC hH (c_X10_byToss l G A S a1 x4 x3 x6 a2 (0 : Int32) (gA S 13 x4.toNatClampNeg) _ hr32) (cwV 7 hts gX10_spreads_X10_byToss rfl rfl rfl (by decide +kernel) ⟨Nat.le_of_ble_eq_true rfl, Nat.le_of_ble_eq_true rfl⟩) (recvW hC hH (c0 := 0) (ci := 10) rfl rfl) rfl hl.1 rfl (Nat.le_of_ble_eq_true rfl) dX10_spreads_202 (fun H locs hH => ?_)
    refine lv_lstore (lv' := [(9, .long r32.1), (7, .long t0), (0, .ref (gM G 0)), (1, .int a1), (2, .int a2), (3, .int x3), (4, .int x4), (5, .int x5), (6, .int x6)]) hx hb dX10_spreads_205 hl (by decide) rfl (fun ls hl => ?_)
    refine lv_aload_n hx hb dX10_spreads_207 rfl (lv_at hl 2 rfl) ?_
    refine lv_iload_n hx hb dX10_spreads_208 rfl (lv_at hl 3 rfl) ?_
    refine lv_iload hx hb dX10_spreads_209 (lv_at hl 6 rfl) ?_
    refine lv_iload_n hx hb dX10_spreads_211 rfl (lv_at hl 5 rfl) ?_
    refine lv_iload hx hb dX10_spreads_212 (lv_at hl 8 rfl) ?_
    refine lv_iload_n hx hb dX10_spreads_214 rfl (lv_at hl 4 rfl) ?_
    refine lv_iconst (v := 1) hx hb dX10_spreads_215 (by decide) ?_
    refine lv_aload_n hx hb dX10_spreads_216 rfl (lv_at hl 2 rfl) ?_
    refine getO hC hH (0) rfl rfl in_X10_spreads_X10 30 (by decide) (index := 51) (List.mem_of_getElem? (i := 3) rfl) rfl dX10_spreads_217 ?_
    refine lv_iload hx hb dX10_spreads_220 (lv_at hl 6 rfl) ?_
    obtain ⟨g33, hf⟩ := gd hf
    refine aldI hC hH (14) rfl g33 dX10_spreads_222 ?_
    obtain ⟨r34, hr34, hf⟩ := ob hf
    refine callV_l [.int a1, .int x4, .int x3, .int x6, .int a2, .int (1 : Int32), .int (gA r32.2 14 x4.toNatClampNeg)] [] hC hH (c_X10_byToss l G A r32.2 a1 x4 x3 x6 a2 (1 : Int32) (gA r32.2 14 x4.toNatClampNeg) _ hr34) (cwV 7 hts gX10_spreads_X10_byToss rfl rfl rfl (by decide +kernel) ⟨Nat.le_of_ble_eq_true rfl, Nat.le_of_ble_eq_true rfl⟩) (recvW hC hH (c0 := 0) (ci := 10) rfl rfl) rfl hl.1 rfl (Nat.le_of_ble_eq_true rfl) dX10_spreads_223 (fun H locs hH => ?_)
    refine lv_lstore (lv' := [(11, .long r34.1), (9, .long r32.1), (7, .long t0), (0, .ref (gM G 0)), (1, .int a1), (2, .int a2), (3, .int x3), (4, .int x4), (5, .int x5), (6, .int x6)]) hx hb dX10_spreads_226 hl (by decide) rfl (fun ls hl => ?_)
    refine lv_aload_n hx hb dX10_spreads_228 rfl (lv_at hl 3 rfl) ?_
    refine getO hC hH (0) rfl rfl in_X10_spreads_X10 28 (by decide) (index := 44) (List.mem_of_getElem? (i := 5) rfl) rfl dX10_spreads_229 ?_
    refine lv_iload hx hb dX10_spreads_232 (lv_at hl 7 rfl) ?_
    refine lv_iload_n hx hb dX10_spreads_234 rfl (lv_at hl 6 rfl) ?_
    refine lv_iload hx hb dX10_spreads_235 (lv_at hl 9 rfl) ?_
    obtain ⟨r35, hr35, hf⟩ := ob hf
    refine callS_i [.int x4, .int x3, .int x6] [.ref (gM G 12)] hC hH (c_X10_at l G A r34.2 x4 x3 x6 _ hr35) (va_cwS 3 hts gX10_spreads_X10_at rfl rfl rfl (by decide +kernel) ⟨Nat.le_of_ble_eq_true rfl, Nat.le_of_ble_eq_true rfl⟩) rfl hl.1 rfl (Nat.le_of_ble_eq_true rfl) dX10_spreads_237 (fun H locs hH => ?_)
    refine lv_aload_n hx hb dX10_spreads_240 rfl (lv_at hl 3 rfl) ?_
    refine lv_lload hx hb dX10_spreads_241 (lv_at hl 2 rfl) ?_
    refine lv_aload_n hx hb dX10_spreads_243 rfl (lv_at hl 3 rfl) ?_
    refine lv_lload hx hb dX10_spreads_244 (lv_at hl 1 rfl) ?_
    refine lv_lload hx hb dX10_spreads_246 (lv_at hl 0 rfl) ?_
    obtain ⟨r36, hr36, hf⟩ := ob hf
    refine callV_l [.long r32.1, .long r34.1] [.long t0, .ref (gM G 0), .int r35, .ref (gM G 12)] hC hH (c_X10_greater l G A r34.2 r32.1 r34.1 _ hr36) (cwV 2 hts gX10_spreads_X10_greater rfl rfl rfl (by decide +kernel) ⟨Nat.le_of_ble_eq_true rfl, Nat.le_of_ble_eq_true rfl⟩) (recvW hC hH (c0 := 0) (ci := 10) rfl rfl) rfl hl.1 rfl (Nat.le_of_ble_eq_true rfl) dX10_spreads_248 (fun H locs hH => ?_)
    obtain ⟨r37, hr37, hf⟩ := ob hf
    refine callV_l [.long t0, .long r36] [.int r35, .ref (gM G 12)] hC hH (c_X10_greater l G A r34.2 t0 r36 _ hr37) (cwV 2 hts gX10_spreads_X10_greater rfl rfl rfl (by decide +kernel) ⟨Nat.le_of_ble_eq_true rfl, Nat.le_of_ble_eq_true rfl⟩) (recvW hC hH (c0 := 0) (ci := 10) rfl rfl) rfl hl.1 rfl (Nat.le_of_ble_eq_true rfl) dX10_spreads_251 (fun H locs hH => ?_)
    obtain ⟨g38, hf⟩ := gd hf
    refine astJ hC hH (12) rfl g38 mt_12 dX10_spreads_254 (fun H locs hH => ?_)
    obtain ⟨S39, eS39⟩ : ∃ Z : St, Z = sB r34.2 12 (vp_updL (gB r34.2 12) r35.toNatClampNeg r37) := ⟨_, rfl⟩
    rw [← eS39] at hH
    replace hf := bn eS39 hf
    refine lv_iinc (v := x6 + (-1 : Int32)) (lv' := [(6, .int (x6 + (-1 : Int32))), (11, .long r34.1), (9, .long r32.1), (7, .long t0), (0, .ref (gM G 0)), (1, .int a1), (2, .int a2), (3, .int x3), (4, .int x4), (5, .int x5)]) hx hb dX10_spreads_255 hl (k := 9) rfl rfl (by decide) rfl (fun ls hl => ?_)
    refine lv_goto (tgt := 155) hx hb dX10_spreads_258 (by decide) ?_
    exact hrec S39 x3 x4 x5 (x6 + (-1 : Int32)) _ _ _ hH (lv_sub hl [4, 5, 6, 7, 8, 9, 0] rfl) hf
  have kL155 : ∀ (k261 : St → Int32 → Int32 → Option St) (hk261 : ∀ (S : St) (x3 : Int32) (x4 : Int32) (H : Heap) (locs : List Loc) (ls : Array Slot), HW G A (MW G S) s H locs → lv_has ls 13 [(0, .ref (gM G 0)), (1, .int a1), (2, .int a2), (3, .int x3), (4, .int x4)] → k261 S x3 x4 = some q → W p l e ({ frames := 3, cells := 0, slots := 0, locals := 88 } : Room) s m [.ref (gM G 0), .int a1, .int a2].toArray below meth c H locs 0 0 Qm (F0 m 261 ls [])) , ∀ (n : Nat), ∀ (S : St) (x3 : Int32) (x4 : Int32) (x5 : Int32) (x6 : Int32) (H : Heap) (locs : List Loc) (ls : Array Slot), HW G A (MW G S) s H locs → lv_has ls 13 [(0, .ref (gM G 0)), (1, .int a1), (2, .int a2), (3, .int x3), (4, .int x4), (5, .int x5), (6, .int x6)] → g_X10_spreads_155 N a1 a2 k261 n S x3 x4 x5 x6 = some q → W p l e ({ frames := 3, cells := 0, slots := 0, locals := 88 } : Room) s m [.ref (gM G 0), .int a1, .int a2].toArray below meth c H locs 0 0 Qm (F0 m 155 ls []) := by
    intro k261 hk261 n
    induction n with
    | zero => intro S x3 x4 x5 x6 H locs ls hH hl hf; exact absurd hf.symm (Option.some_ne_none q)
    | succ n ih =>
      intro S x3 x4 x5 x6 H locs ls hH hl hf
      have hrec := ih
      have hf : s_X10_spreads_155 N a1 a2 k261 (g_X10_spreads_155 N a1 a2 k261 n) S x3 x4 x5 x6 = some q := hf
      rw [s_X10_spreads_155] at hf
      refine lv_iload hx hb dX10_spreads_155 (lv_at hl 6 rfl) ?_
      refine lv_if_lt (tgt := 261) hx hb dX10_spreads_157 (by decide) (fun c27 => ?_) (fun c27 => ?_)
      · replace hf := it_t c27 hf
        exact hk261 S x3 x4 _ _ _ hH (lv_sub hl [0, 1, 2, 3, 4] rfl) hf
      · replace hf := it_f c27 hf
        refine lv_iload_n hx hb dX10_spreads_160 rfl (lv_at hl 3 rfl) ?_
        refine lv_iload_n hx hb dX10_spreads_161 rfl (lv_at hl 2 rfl) ?_
        refine lv_icmp_ne (tgt := 169) hx hb dX10_spreads_162 (by decide) (fun c28 => ?_) (fun c28 => ?_)
        · replace hf := it_f c28 hf
          refine lv_aload_n hx hb dX10_spreads_169 rfl (lv_at hl 0 rfl) ?_
          refine getO hC hH (0) rfl rfl in_X10_spreads_X10 28 (by decide) (index := 44) (List.mem_of_getElem? (i := 5) rfl) rfl dX10_spreads_170 ?_
          refine lv_iload hx hb dX10_spreads_173 (lv_at hl 5 rfl) ?_
          refine lv_iload_n hx hb dX10_spreads_175 rfl (lv_at hl 3 rfl) ?_
          refine lv_iconst (v := 1) hx hb dX10_spreads_176 (by decide) ?_
          refine lv_iadd hx hb dX10_spreads_177 ?_
          refine lv_iload hx hb dX10_spreads_178 (lv_at hl 6 rfl) ?_
          obtain ⟨r29, hr29, hf⟩ := ob hf
          refine callS_i [.int x5, .int (x3 + (1 : Int32)), .int x6] [.ref (gM G 12)] hC hH (c_X10_at l G A S x5 (x3 + (1 : Int32)) x6 _ hr29) (va_cwS 3 hts gX10_spreads_X10_at rfl rfl rfl (by decide +kernel) ⟨Nat.le_of_ble_eq_true rfl, Nat.le_of_ble_eq_true rfl⟩) rfl hl.1 rfl (Nat.le_of_ble_eq_true rfl) dX10_spreads_180 (fun H locs hH => ?_)
          obtain ⟨g30, hf⟩ := gd hf
          refine aldJ hC hH (12) rfl g30 dX10_spreads_183 ?_
          exact kJ184 k261 hk261 _ hrec S x3 x4 x5 x6 (gB S 12 r29.toNatClampNeg) _ _ _ hH (lv_sub hl [0, 1, 2, 3, 4, 5, 6] rfl) hf
        · replace hf := it_t c28 hf
          refine lv_lconst (v := 0) hx hb dX10_spreads_165 (by decide) ?_
          refine lv_goto (tgt := 184) hx hb dX10_spreads_166 (by decide) ?_
          exact kJ184 k261 hk261 _ hrec S x3 x4 x5 x6 (0 : Int64) _ _ _ hH (lv_sub hl [0, 1, 2, 3, 4, 5, 6] rfl) hf
  have kJ145 : ∀ (k267 : St → Int32 → Option St) (hk267 : ∀ (S : St) (x3 : Int32) (H : Heap) (locs : List Loc) (ls : Array Slot), HW G A (MW G S) s H locs → lv_has ls 13 [(0, .ref (gM G 0)), (1, .int a1), (2, .int a2), (3, .int x3)] → k267 S x3 = some q → W p l e ({ frames := 3, cells := 0, slots := 0, locals := 88 } : Room) s m [.ref (gM G 0), .int a1, .int a2].toArray below meth c H locs 0 0 Qm (F0 m 267 ls [])) (rec : St → Int32 → Int32 → Option St) (hrec : ∀ (S : St) (x3 : Int32) (x4 : Int32) (H : Heap) (locs : List Loc) (ls : Array Slot), HW G A (MW G S) s H locs → lv_has ls 13 [(0, .ref (gM G 0)), (1, .int a1), (2, .int a2), (3, .int x3), (4, .int x4)] → rec S x3 x4 = some q → W p l e ({ frames := 3, cells := 0, slots := 0, locals := 88 } : Room) s m [.ref (gM G 0), .int a1, .int a2].toArray below meth c H locs 0 0 Qm (F0 m 108 ls [])) , ∀ (S : St) (x3 : Int32) (x4 : Int32) (t0 : Int32) (H : Heap) (locs : List Loc) (ls : Array Slot), HW G A (MW G S) s H locs → lv_has ls 13 [(0, .ref (gM G 0)), (1, .int a1), (2, .int a2), (3, .int x3), (4, .int x4)] → f_X10_spreads_145 N a1 a2 k267 rec S x3 x4 t0 = some q → W p l e ({ frames := 3, cells := 0, slots := 0, locals := 88 } : Room) s m [.ref (gM G 0), .int a1, .int a2].toArray below meth c H locs 0 0 Qm (F0 m 145 ls [.int t0]) := by
    intro k267 hk267 rec hrec S x3 x4 t0 H locs ls hH hl hf
    rw [f_X10_spreads_145] at hf
    refine lv_istore (lv' := [(5, .int t0), (0, .ref (gM G 0)), (1, .int a1), (2, .int a2), (3, .int x3), (4, .int x4)]) hx hb dX10_spreads_145 hl (by decide) rfl (fun ls hl => ?_)
    refine lv_aload_n hx hb dX10_spreads_147 rfl (lv_at hl 1 rfl) ?_
    refine getO hC hH (0) rfl rfl in_X10_spreads_X10 13 (by decide) (index := 25) (List.mem_of_getElem? (i := 4) rfl) rfl dX10_spreads_148 ?_
    refine lv_iconst (v := 5) hx hb dX10_spreads_151 (by decide) ?_
    obtain ⟨g25, hf⟩ := gd hf
    refine aldI hC hH (6) rfl g25 dX10_spreads_152 ?_
    refine lv_topi (fun b26 eb26 => ?_)
    replace hf := bn eb26 hf
    refine lv_istore (lv' := [(6, .int b26), (5, .int t0), (0, .ref (gM G 0)), (1, .int a1), (2, .int a2), (3, .int x3), (4, .int x4)]) hx hb dX10_spreads_153 hl (by decide) rfl (fun ls hl => ?_)
    refine kL155 _ ?_ N S x3 x4 t0 b26 _ _ _ hH (lv_sub hl [2, 3, 4, 5, 6, 1, 0] rfl) hf
    intro S42 y40 y41 H locs ls hH hl hf
    refine lv_iinc (v := y41 + (-1 : Int32)) (lv' := [(4, .int (y41 + (-1 : Int32))), (0, .ref (gM G 0)), (1, .int a1), (2, .int a2), (3, .int y40)]) hx hb dX10_spreads_261 hl (k := 4) rfl rfl (by decide) rfl (fun ls hl => ?_)
    refine lv_goto (tgt := 108) hx hb dX10_spreads_264 (by decide) ?_
    exact hrec S42 y40 (y41 + (-1 : Int32)) _ _ _ hH (lv_sub hl [1, 2, 3, 4, 0] rfl) hf
  have kL108 : ∀ (k267 : St → Int32 → Option St) (hk267 : ∀ (S : St) (x3 : Int32) (H : Heap) (locs : List Loc) (ls : Array Slot), HW G A (MW G S) s H locs → lv_has ls 13 [(0, .ref (gM G 0)), (1, .int a1), (2, .int a2), (3, .int x3)] → k267 S x3 = some q → W p l e ({ frames := 3, cells := 0, slots := 0, locals := 88 } : Room) s m [.ref (gM G 0), .int a1, .int a2].toArray below meth c H locs 0 0 Qm (F0 m 267 ls [])) , ∀ (n : Nat), ∀ (S : St) (x3 : Int32) (x4 : Int32) (H : Heap) (locs : List Loc) (ls : Array Slot), HW G A (MW G S) s H locs → lv_has ls 13 [(0, .ref (gM G 0)), (1, .int a1), (2, .int a2), (3, .int x3), (4, .int x4)] → g_X10_spreads_108 N a1 a2 k267 n S x3 x4 = some q → W p l e ({ frames := 3, cells := 0, slots := 0, locals := 88 } : Room) s m [.ref (gM G 0), .int a1, .int a2].toArray below meth c H locs 0 0 Qm (F0 m 108 ls []) := by
    intro k267 hk267 n
    induction n with
    | zero => intro S x3 x4 H locs ls hH hl hf; exact absurd hf.symm (Option.some_ne_none q)
    | succ n ih =>
      intro S x3 x4 H locs ls hH hl hf
      have hrec := ih
      have hf : s_X10_spreads_108 N a1 a2 k267 (g_X10_spreads_108 N a1 a2 k267 n) S x3 x4 = some q := hf
      rw [s_X10_spreads_108] at hf
      refine lv_iload hx hb dX10_spreads_108 (lv_at hl 4 rfl) ?_
      refine lv_if_lt (tgt := 267) hx hb dX10_spreads_110 (by decide) (fun c21 => ?_) (fun c21 => ?_)
      · replace hf := it_t c21 hf
        exact hk267 S x3 _ _ _ hH (lv_sub hl [0, 1, 2, 3] rfl) hf
      · replace hf := it_f c21 hf
        refine lv_iload hx hb dX10_spreads_113 (lv_at hl 4 rfl) ?_
        refine lv_aload_n hx hb dX10_spreads_115 rfl (lv_at hl 0 rfl) ?_
        refine getO hC hH (0) rfl rfl in_X10_spreads_X10 11 (by decide) (index := 19) (List.mem_of_getElem? (i := 7) rfl) rfl dX10_spreads_116 ?_
        refine lv_iload_n hx hb dX10_spreads_119 rfl (lv_at hl 1 rfl) ?_
        obtain ⟨g22, hf⟩ := gd hf
        refine aldI hC hH (4) rfl g22 dX10_spreads_120 ?_
        refine lv_iadd hx hb dX10_spreads_121 ?_
        refine lv_aload_n hx hb dX10_spreads_122 rfl (lv_at hl 0 rfl) ?_
        refine getO hC hH (0) rfl rfl in_X10_spreads_X10 14 (by decide) (index := 54) (List.mem_of_getElem? (i := 1) rfl) rfl dX10_spreads_123 ?_
        refine lv_icmp_le (tgt := 136) hx hb dX10_spreads_126 (by decide) (fun c23 => ?_) (fun c23 => ?_)
        · replace hf := it_t c23 hf
          refine lv_iload hx hb dX10_spreads_136 (lv_at hl 4 rfl) ?_
          refine lv_aload_n hx hb dX10_spreads_138 rfl (lv_at hl 0 rfl) ?_
          refine getO hC hH (0) rfl rfl in_X10_spreads_X10 11 (by decide) (index := 19) (List.mem_of_getElem? (i := 7) rfl) rfl dX10_spreads_139 ?_
          refine lv_iload_n hx hb dX10_spreads_142 rfl (lv_at hl 1 rfl) ?_
          obtain ⟨g24, hf⟩ := gd hf
          refine aldI hC hH (4) rfl g24 dX10_spreads_143 ?_
          refine lv_iadd hx hb dX10_spreads_144 ?_
          exact kJ145 k267 hk267 _ hrec S x3 x4 (x4 + (gA S 4 a1.toNatClampNeg)) _ _ _ hH (lv_sub hl [0, 1, 2, 3, 4] rfl) hf
        · replace hf := it_f c23 hf
          refine lv_aload_n hx hb dX10_spreads_129 rfl (lv_at hl 0 rfl) ?_
          refine getO hC hH (0) rfl rfl in_X10_spreads_X10 14 (by decide) (index := 54) (List.mem_of_getElem? (i := 1) rfl) rfl dX10_spreads_130 ?_
          refine lv_goto (tgt := 145) hx hb dX10_spreads_133 (by decide) ?_
          exact kJ145 k267 hk267 _ hrec S x3 x4 (gI S 0 14) _ _ _ hH (lv_sub hl [0, 1, 2, 3, 4] rfl) hf
  have kL44 : ∀ (n : Nat), ∀ (S : St) (x3 : Int32) (H : Heap) (locs : List Loc) (ls : Array Slot), HW G A (MW G S) s H locs → lv_has ls 13 [(0, .ref (gM G 0)), (1, .int a1), (2, .int a2), (3, .int x3)] → g_X10_spreads_44 N a1 a2 n S x3 = some q → W p l e ({ frames := 3, cells := 0, slots := 0, locals := 88 } : Room) s m [.ref (gM G 0), .int a1, .int a2].toArray below meth c H locs 0 0 Qm (F0 m 44 ls []) := by
    intro n
    induction n with
    | zero => intro S x3 H locs ls hH hl hf; exact absurd hf.symm (Option.some_ne_none q)
    | succ n ih =>
      intro S x3 H locs ls hH hl hf
      have hrec := ih
      have hf : s_X10_spreads_44 N a1 a2 (g_X10_spreads_44 N a1 a2 n) S x3 = some q := hf
      rw [s_X10_spreads_44] at hf
      refine lv_iload_n hx hb dX10_spreads_44 rfl (lv_at hl 3 rfl) ?_
      refine lv_if_lt (tgt := 273) hx hb dX10_spreads_45 (by decide) (fun c9 => ?_) (fun c9 => ?_)
      · replace hf := it_t c9 hf
        exact fin S _ _ _ _ (Option.some.inj hf) hH dX10_spreads_273
      · replace hf := it_f c9 hf
        refine lv_aload_n hx hb dX10_spreads_48 rfl (lv_at hl 0 rfl) ?_
        refine getO hC hH (0) rfl rfl in_X10_spreads_X10 13 (by decide) (index := 25) (List.mem_of_getElem? (i := 4) rfl) rfl dX10_spreads_49 ?_
        refine lv_iconst (v := 5) hx hb dX10_spreads_52 (by decide) ?_
        obtain ⟨g10, hf⟩ := gd hf
        refine aldI hC hH (6) rfl g10 dX10_spreads_53 ?_
        refine lv_topi (fun b11 eb11 => ?_)
        replace hf := bn eb11 hf
        refine lv_istore (lv' := [(4, .int b11), (0, .ref (gM G 0)), (1, .int a1), (2, .int a2), (3, .int x3)]) hx hb dX10_spreads_54 hl (by decide) rfl (fun ls hl => ?_)
        refine kL56 _ ?_ N S x3 b11 _ _ _ hH (lv_sub hl [1, 2, 3, 4, 0] rfl) hf
        intro S19 y18 H locs ls hH hl hf
        refine lv_aload_n hx hb dX10_spreads_100 rfl (lv_at hl 0 rfl) ?_
        refine getO hC hH (0) rfl rfl in_X10_spreads_X10 14 (by decide) (index := 54) (List.mem_of_getElem? (i := 1) rfl) rfl dX10_spreads_101 ?_
        refine lv_iconst (v := 1) hx hb dX10_spreads_104 (by decide) ?_
        refine lv_isub hx hb dX10_spreads_105 ?_
        refine lv_topi (fun b20 eb20 => ?_)
        replace hf := bn eb20 hf
        refine lv_istore (lv' := [(4, .int b20), (0, .ref (gM G 0)), (1, .int a1), (2, .int a2), (3, .int y18)]) hx hb dX10_spreads_106 hl (by decide) rfl (fun ls hl => ?_)
        refine kL108 _ ?_ N S19 y18 b20 _ _ _ hH (lv_sub hl [1, 2, 3, 4, 0] rfl) hf
        intro S44 y43 H locs ls hH hl hf
        refine lv_iinc (v := y43 + (-1 : Int32)) (lv' := [(3, .int (y43 + (-1 : Int32))), (0, .ref (gM G 0)), (1, .int a1), (2, .int a2)]) hx hb dX10_spreads_267 hl (k := 3) rfl rfl (by decide) rfl (fun ls hl => ?_)
        refine lv_goto (tgt := 44) hx hb dX10_spreads_270 (by decide) ?_
        exact hrec S44 (y43 + (-1 : Int32)) _ _ _ hH (lv_sub hl [1, 2, 3, 0] rfl) hf
  have hf := hf
  rw [f_X10_spreads] at hf
  refine lv_iconst (v := 0) hx hb dX10_spreads_0 (by decide) ?_
  refine lv_istore_n (lv' := [(3, .int (0 : Int32)), (0, .ref (gM G 0)), (1, .int a1), (2, .int a2)]) hx hb dX10_spreads_1 rfl hl (by decide) rfl (fun ls hl => ?_)
  refine kL2 _ ?_ N S (0 : Int32) _ _ _ hH (lv_sub hl [1, 2, 3, 0] rfl) hf
  intro S8 H locs ls hH hl hf
  refine lv_iload_n hx hb dX10_spreads_42 rfl (lv_at hl 2 rfl) ?_
  refine lv_istore_n (lv' := [(3, .int a2), (0, .ref (gM G 0)), (1, .int a1), (2, .int a2)]) hx hb dX10_spreads_43 rfl hl (by decide) rfl (fun ls hl => ?_)
  refine kL44 N S8 a2 _ _ _ hH (lv_sub hl [1, 2, 3, 0] rfl) hf
theorem in_X10_oddsBy_X10 : ∀ w ∈ wsX100, w ∈ wsX10_oddsBy := fun w h => List.mem_cons_of_mem _ (List.mem_append_right _ h)
set_option maxRecDepth 100000 in
set_option maxHeartbeats 4000000 in
theorem c_X10_oddsBy (l : Launch) (G : Gt) (A : Nat → Prop) (N : Nat) (S : St)  (a1 : Int32) (a2 : Int32) (q : Int64 × St) (hf : f_X10_oddsBy N S a1 a2 = some q) : Met l yX10_oddsBy wsX10_oddsBy ({ frames := 4, cells := 0, slots := 0, locals := 120 } : Room) (va_Pc [.ref (gM G 0), .int a1, .int a2] (PK G A (MW G S))) (va_Ql (fun (r2 : Int64) S2 => r2 = q.1 ∧ S2 = q.2) (fun S2 : St => PK G A (MW G S2)) A) 0 0 A := by
  refine mstart_l (Wd := MW G) (cc := cX10_oddsBy) (maxL := 4) (by decide) rfl (Nat.le_of_ble_eq_true rfl) (fun p e s m below meth c Qm ls hC hH hl fin => ?_)
  obtain ⟨hx, hb, hml, hown, hts⟩ := id hC.1
  have hl : lv_has ls 4 [(0, .ref (gM G 0)), (1, .int a1), (2, .int a2)] := hl
  have kJ60 : ∀ (S : St) (t0 : Int32) (H : Heap) (locs : List Loc) (ls : Array Slot), HW G A (MW G S) s H locs → lv_has ls 4 [(0, .ref (gM G 0)), (1, .int a1)] → f_X10_oddsBy_60 N a1 S t0 = some q → W p l e ({ frames := 4, cells := 0, slots := 0, locals := 120 } : Room) s m [.ref (gM G 0), .int a1, .int a2].toArray below meth c H locs 0 0 Qm (F0 m 60 ls [.int t0]) := by
    intro S t0 H locs ls hH hl hf
    rw [f_X10_oddsBy_60] at hf
    refine lv_istore_n (lv' := [(3, .int t0), (0, .ref (gM G 0)), (1, .int a1)]) hx hb dX10_oddsBy_60 rfl hl (by decide) rfl (fun ls hl => ?_)
    refine lv_aload_n hx hb dX10_oddsBy_61 rfl (lv_at hl 1 rfl) ?_
    refine getO hC hH (0) rfl rfl in_X10_oddsBy_X10 28 (by decide) (index := 44) (List.mem_of_getElem? (i := 3) rfl) rfl dX10_oddsBy_62 ?_
    refine lv_aload_n hx hb dX10_oddsBy_65 rfl (lv_at hl 1 rfl) ?_
    refine getO hC hH (0) rfl rfl in_X10_oddsBy_X10 18 (by decide) (index := 28) (List.mem_of_getElem? (i := 1) rfl) rfl dX10_oddsBy_66 ?_
    refine lv_iconst (v := 3) hx hb dX10_oddsBy_69 (by decide) ?_
    refine lv_iload_n hx hb dX10_oddsBy_70 rfl (lv_at hl 2 rfl) ?_
    refine lv_imul hx hb dX10_oddsBy_71 ?_
    obtain ⟨g8, hf⟩ := gd hf
    refine aldI hC hH (7) rfl g8 dX10_oddsBy_72 ?_
    refine lv_aload_n hx hb dX10_oddsBy_73 rfl (lv_at hl 1 rfl) ?_
    refine getO hC hH (0) rfl rfl in_X10_oddsBy_X10 18 (by decide) (index := 28) (List.mem_of_getElem? (i := 1) rfl) rfl dX10_oddsBy_74 ?_
    refine lv_iconst (v := 3) hx hb dX10_oddsBy_77 (by decide) ?_
    refine lv_iload_n hx hb dX10_oddsBy_78 rfl (lv_at hl 2 rfl) ?_
    refine lv_imul hx hb dX10_oddsBy_79 ?_
    refine lv_iconst (v := 1) hx hb dX10_oddsBy_80 (by decide) ?_
    refine lv_iadd hx hb dX10_oddsBy_81 ?_
    obtain ⟨g9, hf⟩ := gd hf
    refine aldI hC hH (7) rfl g9 dX10_oddsBy_82 ?_
    refine lv_iload_n hx hb dX10_oddsBy_83 rfl (lv_at hl 0 rfl) ?_
    obtain ⟨r10, hr10, hf⟩ := ob hf
    refine callS_i [.int (gA S 7 ((3 : Int32) * a1).toNatClampNeg), .int (gA S 7 (((3 : Int32) * a1) + (1 : Int32)).toNatClampNeg), .int t0] [.ref (gM G 12)] hC hH (c_X10_at l G A S (gA S 7 ((3 : Int32) * a1).toNatClampNeg) (gA S 7 (((3 : Int32) * a1) + (1 : Int32)).toNatClampNeg) t0 _ hr10) (va_cwS 3 hts gX10_oddsBy_X10_at rfl rfl rfl (by decide +kernel) ⟨Nat.le_of_ble_eq_true rfl, Nat.le_of_ble_eq_true rfl⟩) rfl hl.1 rfl (Nat.le_of_ble_eq_true rfl) dX10_oddsBy_84 (fun H locs hH => ?_)
    obtain ⟨g11, hf⟩ := gd hf
    refine aldJ hC hH (12) rfl g11 dX10_oddsBy_87 ?_
    have hz : (gB S 12 r10.toNatClampNeg, S) = q := Option.some.inj hf
    have hz1 := congrArg Prod.fst hz
    have hz2 := congrArg Prod.snd hz
    exact fin (gB S 12 r10.toNatClampNeg) S _ _ _ _ hz1 hz2 hH dX10_oddsBy_88
  have hf := hf
  rw [f_X10_oddsBy] at hf
  refine lv_aload_n hx hb dX10_oddsBy_0 rfl (lv_at hl 0 rfl) ?_
  refine getO hC hH (0) rfl rfl in_X10_oddsBy_X10 18 (by decide) (index := 28) (List.mem_of_getElem? (i := 1) rfl) rfl dX10_oddsBy_1 ?_
  refine lv_iconst (v := 3) hx hb dX10_oddsBy_4 (by decide) ?_
  refine lv_iload_n hx hb dX10_oddsBy_5 rfl (lv_at hl 1 rfl) ?_
  refine lv_imul hx hb dX10_oddsBy_6 ?_
  refine lv_iconst (v := 1) hx hb dX10_oddsBy_7 (by decide) ?_
  refine lv_iadd hx hb dX10_oddsBy_8 ?_
  obtain ⟨g1, hf⟩ := gd hf
  refine aldI hC hH (7) rfl g1 dX10_oddsBy_9 ?_
  refine lv_iload_n hx hb dX10_oddsBy_10 rfl (lv_at hl 2 rfl) ?_
  refine lv_icmp_le (tgt := 16) hx hb dX10_oddsBy_11 (by decide) (fun c2 => ?_) (fun c2 => ?_)
  · replace hf := it_t c2 hf
    refine lv_aload_n hx hb dX10_oddsBy_16 rfl (lv_at hl 0 rfl) ?_
    refine lv_iload_n hx hb dX10_oddsBy_17 rfl (lv_at hl 1 rfl) ?_
    refine lv_iload_n hx hb dX10_oddsBy_18 rfl (lv_at hl 2 rfl) ?_
    obtain ⟨r3, hr3, hf⟩ := ob hf
    refine callV_v [.int a1, .int a2] [] hC hH (c_X10_spreads l G A N S a1 a2 _ hr3) (cwV 2 hts gX10_oddsBy_X10_spreads rfl rfl rfl (by decide +kernel) ⟨Nat.le_of_ble_eq_true rfl, Nat.le_of_ble_eq_true rfl⟩) (recvW hC hH (c0 := 0) (ci := 10) rfl rfl) rfl hl.1 rfl (Nat.le_of_ble_eq_true rfl) dX10_oddsBy_19 (fun H locs hH => ?_)
    refine lv_aload_n hx hb dX10_oddsBy_22 rfl (lv_at hl 0 rfl) ?_
    refine getO hC hH (0) rfl rfl in_X10_oddsBy_X10 18 (by decide) (index := 28) (List.mem_of_getElem? (i := 1) rfl) rfl dX10_oddsBy_23 ?_
    refine lv_iconst (v := 3) hx hb dX10_oddsBy_26 (by decide) ?_
    refine lv_iload_n hx hb dX10_oddsBy_27 rfl (lv_at hl 1 rfl) ?_
    refine lv_imul hx hb dX10_oddsBy_28 ?_
    refine lv_iconst (v := 2) hx hb dX10_oddsBy_29 (by decide) ?_
    refine lv_iadd hx hb dX10_oddsBy_30 ?_
    obtain ⟨g4, hf⟩ := gd hf
    refine aldI hC hH (7) rfl g4 dX10_oddsBy_31 ?_
    refine lv_aload_n hx hb dX10_oddsBy_32 rfl (lv_at hl 0 rfl) ?_
    refine getO hC hH (0) rfl rfl in_X10_oddsBy_X10 13 (by decide) (index := 25) (List.mem_of_getElem? (i := 2) rfl) rfl dX10_oddsBy_33 ?_
    refine lv_iconst (v := 5) hx hb dX10_oddsBy_36 (by decide) ?_
    obtain ⟨g5, hf⟩ := gd hf
    refine aldI hC hH (6) rfl g5 dX10_oddsBy_37 ?_
    refine lv_icmp_le (tgt := 50) hx hb dX10_oddsBy_38 (by decide) (fun c6 => ?_) (fun c6 => ?_)
    · replace hf := it_t c6 hf
      refine lv_aload_n hx hb dX10_oddsBy_50 rfl (lv_at hl 0 rfl) ?_
      refine getO hC hH (0) rfl rfl in_X10_oddsBy_X10 18 (by decide) (index := 28) (List.mem_of_getElem? (i := 1) rfl) rfl dX10_oddsBy_51 ?_
      refine lv_iconst (v := 3) hx hb dX10_oddsBy_54 (by decide) ?_
      refine lv_iload_n hx hb dX10_oddsBy_55 rfl (lv_at hl 1 rfl) ?_
      refine lv_imul hx hb dX10_oddsBy_56 ?_
      refine lv_iconst (v := 2) hx hb dX10_oddsBy_57 (by decide) ?_
      refine lv_iadd hx hb dX10_oddsBy_58 ?_
      obtain ⟨g7, hf⟩ := gd hf
      refine aldI hC hH (7) rfl g7 dX10_oddsBy_59 ?_
      exact kJ60  r3 (gA r3 7 (((3 : Int32) * a1) + (2 : Int32)).toNatClampNeg) _ _ _ hH (lv_sub hl [0, 1] rfl) hf
    · replace hf := it_f c6 hf
      refine lv_aload_n hx hb dX10_oddsBy_41 rfl (lv_at hl 0 rfl) ?_
      refine getO hC hH (0) rfl rfl in_X10_oddsBy_X10 13 (by decide) (index := 25) (List.mem_of_getElem? (i := 2) rfl) rfl dX10_oddsBy_42 ?_
      refine lv_iconst (v := 5) hx hb dX10_oddsBy_45 (by decide) ?_
      obtain ⟨g12, hf⟩ := gd hf
      refine aldI hC hH (6) rfl g12 dX10_oddsBy_46 ?_
      refine lv_goto (tgt := 60) hx hb dX10_oddsBy_47 (by decide) ?_
      exact kJ60  r3 (gA r3 6 (5 : Int32).toNatClampNeg) _ _ _ hH (lv_sub hl [0, 1] rfl) hf
  · replace hf := it_f c2 hf
    refine lv_lconst (v := 0) hx hb dX10_oddsBy_14 (by decide) ?_
    exact fin (0 : Int64) S _ _ _ _ (congrArg Prod.fst (Option.some.inj hf)) (congrArg Prod.snd (Option.some.inj hf)) hH dX10_oddsBy_15
set_option maxRecDepth 100000 in
set_option maxHeartbeats 4000000 in
theorem c_X10_gcd (l : Launch) (G : Gt) (A : Nat → Prop) (N : Nat) (S : St)  (a0 : Int64) (a2 : Int64) (q : Int64) (hf : f_X10_gcd N a0 a2 = some q) : Met l yX10_gcd wsX10_gcd ({ frames := 0, cells := 0, slots := 0, locals := 0 } : Room) (va_Pc [.long a0, .long a2] (PK G A (MW G S))) (va_Ql (fun (r2 : Int64) S2 => r2 = q ∧ S2 = S) (fun S2 : St => PK G A (MW G S2)) A) 0 0 A := by
  refine mstart_l (Wd := MW G) (cc := cX10_gcd) (maxL := 10) (by decide) rfl (Nat.le_of_ble_eq_true rfl) (fun p e s m below meth c Qm ls hC hH hl fin => ?_)
  obtain ⟨hx, hb, hml, hown, hts⟩ := id hC.1
  have hl : lv_has ls 10 [(0, .long a0), (2, .long a2)] := hl
  have kL6 : ∀ (n : Nat), ∀ (x4 : Int64) (x6 : Int64) (H : Heap) (locs : List Loc) (ls : Array Slot), HW G A (MW G S) s H locs → lv_has ls 10 [(4, .long x4), (6, .long x6)] → g_X10_gcd_6 N n x4 x6 = some q → W p l e ({ frames := 0, cells := 0, slots := 0, locals := 0 } : Room) s m [.long a0, .long a2].toArray below meth c H locs 0 0 Qm (F0 m 6 ls []) := by
    intro n
    induction n with
    | zero => intro x4 x6 H locs ls hH hl hf; exact absurd hf.symm (Option.some_ne_none q)
    | succ n ih =>
      intro x4 x6 H locs ls hH hl hf
      have hrec := ih
      have hf : s_X10_gcd_6 N (g_X10_gcd_6 N n) x4 x6 = some q := hf
      rw [s_X10_gcd_6] at hf
      refine lv_lload hx hb dX10_gcd_6 (lv_at hl 1 rfl) ?_
      refine lv_lconst (v := 0) hx hb dX10_gcd_8 (by decide) ?_
      refine W.lcmp hx hb dX10_gcd_9 ?_
      refine lv_if_eq (tgt := 31) hx hb dX10_gcd_10 (by decide) (fun c1 => ?_) (fun c1 => ?_)
      · replace hf := it_t c1 hf
        refine lv_lload hx hb dX10_gcd_31 (lv_at hl 0 rfl) ?_
        exact fin x4 S _ _ _ _ (Option.some.inj hf) rfl hH dX10_gcd_33
      · replace hf := it_f c1 hf
        refine lv_lload hx hb dX10_gcd_13 (lv_at hl 0 rfl) ?_
        refine lv_lload hx hb dX10_gcd_15 (lv_at hl 1 rfl) ?_
        obtain ⟨g2, hf⟩ := gd hf
        refine lv_lrem hx hb dX10_gcd_17 g2 ?_
        refine lv_topl (fun b3 eb3 => ?_)
        replace hf := bn eb3 hf
        refine lv_lstore (lv' := [(8, .long b3), (4, .long x4), (6, .long x6)]) hx hb dX10_gcd_18 hl (by decide) rfl (fun ls hl => ?_)
        refine lv_lload hx hb dX10_gcd_20 (lv_at hl 2 rfl) ?_
        refine lv_lstore (lv' := [(4, .long x6), (8, .long b3), (6, .long x6)]) hx hb dX10_gcd_22 hl (by decide) rfl (fun ls hl => ?_)
        refine lv_lload hx hb dX10_gcd_24 (lv_at hl 1 rfl) ?_
        refine lv_lstore (lv' := [(6, .long b3), (4, .long x6), (8, .long b3)]) hx hb dX10_gcd_26 hl (by decide) rfl (fun ls hl => ?_)
        refine lv_goto (tgt := 6) hx hb dX10_gcd_28 (by decide) ?_
        exact hrec x6 b3 _ _ _ hH (lv_sub hl [1, 0] rfl) hf
  have hf := hf
  rw [f_X10_gcd] at hf
  refine lv_lload_n hx hb dX10_gcd_0 rfl (lv_at hl 0 rfl) ?_
  refine lv_lstore (lv' := [(4, .long a0), (0, .long a0), (2, .long a2)]) hx hb dX10_gcd_1 hl (by decide) rfl (fun ls hl => ?_)
  refine lv_lload_n hx hb dX10_gcd_3 rfl (lv_at hl 2 rfl) ?_
  refine lv_lstore (lv' := [(6, .long a2), (4, .long a0), (0, .long a0), (2, .long a2)]) hx hb dX10_gcd_4 hl (by decide) rfl (fun ls hl => ?_)
  refine kL6 N a0 a2 _ _ _ hH (lv_sub hl [1, 0] rfl) hf
theorem in_X10_odds_X10 : ∀ w ∈ wsX100, w ∈ wsX10_odds := fun w h => List.mem_cons_of_mem _ (List.mem_append_right _ h)
set_option maxRecDepth 100000 in
set_option maxHeartbeats 4000000 in
theorem c_X10_odds (l : Launch) (G : Gt) (A : Nat → Prop) (N : Nat) (S : St)  (a1 : Int32) (a2 : Int32) (a3 : Int32) (q : Int64 × St) (hf : f_X10_odds N S a1 a2 a3 = some q) : Met l yX10_odds wsX10_odds ({ frames := 5, cells := 0, slots := 0, locals := 143 } : Room) (va_Pc [.ref (gM G 0), .int a1, .int a2, .int a3] (PK G A (MW G S))) (va_Ql (fun (r2 : Int64) S2 => r2 = q.1 ∧ S2 = q.2) (fun S2 : St => PK G A (MW G S2)) A) 0 0 A := by
  refine mstart_l (Wd := MW G) (cc := cX10_odds) (maxL := 8) (by decide) rfl (Nat.le_of_ble_eq_true rfl) (fun p e s m below meth c Qm ls hC hH hl fin => ?_)
  obtain ⟨hx, hb, hml, hown, hts⟩ := id hC.1
  have hl : lv_has ls 8 [(0, .ref (gM G 0)), (1, .int a1), (2, .int a2), (3, .int a3)] := hl
  have hf := hf
  rw [f_X10_odds] at hf
  refine lv_aload_n hx hb dX10_odds_0 rfl (lv_at hl 0 rfl) ?_
  refine lv_iconst (v := 0) hx hb dX10_odds_1 (by decide) ?_
  refine putO hC hH (0) rfl rfl in_X10_odds_X10 tyX10 tyX10_ok nmX10 0 (by decide) (index := 58) (List.mem_of_getElem? (i := 1) rfl) rfl rfl rfl (Nat.le_of_ble_eq_true rfl) ms_0_0 dX10_odds_2 (fun H locs hH => ?_)
  obtain ⟨S1, eS1⟩ : ∃ Z : St, Z = sI S 0 0 (0 : Int32) := ⟨_, rfl⟩
  rw [← eS1] at hH
  replace hf := bn eS1 hf
  refine lv_aload_n hx hb dX10_odds_5 rfl (lv_at hl 0 rfl) ?_
  refine lv_iload_n hx hb dX10_odds_6 rfl (lv_at hl 1 rfl) ?_
  obtain ⟨r2, hr2, hf⟩ := ob hf
  refine callV_i [.int a1] [] hC hH (c_X10_isRunner l G A S1 a1 _ hr2) (cwV 1 hts gX10_odds_X10_isRunner rfl rfl rfl (by decide +kernel) ⟨Nat.le_of_ble_eq_true rfl, Nat.le_of_ble_eq_true rfl⟩) (recvW hC hH (c0 := 0) (ci := 10) rfl rfl) rfl hl.1 rfl (Nat.le_of_ble_eq_true rfl) dX10_odds_7 (fun H locs hH => ?_)
  refine lv_if_eq (tgt := 32) hx hb dX10_odds_10 (by decide) (fun c3 => ?_) (fun c3 => ?_)
  · replace hf := it_t c3 hf
    refine lv_ldc2 (v := -1) hx hb hown (hts (.constantLong RX10 203 (-1)) (List.mem_of_getElem? (i := 2) rfl)) dX10_odds_32 ?_
    exact fin (-1 : Int64) S1 _ _ _ _ (congrArg Prod.fst (Option.some.inj hf)) (congrArg Prod.snd (Option.some.inj hf)) hH dX10_odds_35
  · replace hf := it_f c3 hf
    refine lv_iload_n hx hb dX10_odds_13 rfl (lv_at hl 2 rfl) ?_
    refine lv_iconst (v := 0) hx hb dX10_odds_14 (by decide) ?_
    refine lv_bipush (v := 24) hx hb dX10_odds_15 (by decide) ?_
    obtain ⟨r4, hr4, hf⟩ := ob hf
    refine callS_i [.int a2, .int (0 : Int32), .int (24 : Int32)] [] hC hH (c_X10_in l G A S1 a2 (0 : Int32) (24 : Int32) _ hr4) (va_cwS 3 hts gX10_odds_X10_in rfl rfl rfl (by decide +kernel) ⟨Nat.le_of_ble_eq_true rfl, Nat.le_of_ble_eq_true rfl⟩) rfl hl.1 rfl (Nat.le_of_ble_eq_true rfl) dX10_odds_17 (fun H locs hH => ?_)
    refine lv_if_eq (tgt := 32) hx hb dX10_odds_20 (by decide) (fun c5 => ?_) (fun c5 => ?_)
    · replace hf := it_t c5 hf
      refine lv_ldc2 (v := -1) hx hb hown (hts (.constantLong RX10 203 (-1)) (List.mem_of_getElem? (i := 2) rfl)) dX10_odds_32 ?_
      exact fin (-1 : Int64) S1 _ _ _ _ (congrArg Prod.fst (Option.some.inj hf)) (congrArg Prod.snd (Option.some.inj hf)) hH dX10_odds_35
    · replace hf := it_f c5 hf
      refine lv_iload_n hx hb dX10_odds_23 rfl (lv_at hl 3 rfl) ?_
      refine lv_iconst (v := 0) hx hb dX10_odds_24 (by decide) ?_
      refine lv_iconst (v := 1) hx hb dX10_odds_25 (by decide) ?_
      obtain ⟨r6, hr6, hf⟩ := ob hf
      refine callS_i [.int a3, .int (0 : Int32), .int (1 : Int32)] [] hC hH (c_X10_in l G A S1 a3 (0 : Int32) (1 : Int32) _ hr6) (va_cwS 3 hts gX10_odds_X10_in rfl rfl rfl (by decide +kernel) ⟨Nat.le_of_ble_eq_true rfl, Nat.le_of_ble_eq_true rfl⟩) rfl hl.1 rfl (Nat.le_of_ble_eq_true rfl) dX10_odds_26 (fun H locs hH => ?_)
      refine lv_if_ne (tgt := 36) hx hb dX10_odds_29 (by decide) (fun c7 => ?_) (fun c7 => ?_)
      · replace hf := it_f c7 hf
        refine lv_aload_n hx hb dX10_odds_36 rfl (lv_at hl 0 rfl) ?_
        refine lv_iload_n hx hb dX10_odds_37 rfl (lv_at hl 1 rfl) ?_
        refine lv_iload_n hx hb dX10_odds_38 rfl (lv_at hl 2 rfl) ?_
        obtain ⟨r8, hr8, hf⟩ := ob hf
        refine callV_l [.int a1, .int a2] [] hC hH (c_X10_oddsBy l G A N S1 a1 a2 _ hr8) (cwV 2 hts gX10_odds_X10_oddsBy rfl rfl rfl (by decide +kernel) ⟨Nat.le_of_ble_eq_true rfl, Nat.le_of_ble_eq_true rfl⟩) (recvW hC hH (c0 := 0) (ci := 10) rfl rfl) rfl hl.1 rfl (Nat.le_of_ble_eq_true rfl) dX10_odds_39 (fun H locs hH => ?_)
        refine lv_lstore (lv' := [(4, .long r8.1), (0, .ref (gM G 0)), (1, .int a1), (2, .int a2), (3, .int a3)]) hx hb dX10_odds_42 hl (by decide) rfl (fun ls hl => ?_)
        refine lv_lload hx hb dX10_odds_44 (lv_at hl 0 rfl) ?_
        refine lv_ldc2 (v := 1000000000000) hx hb hown (hts (.constantLong RX10 189 (1000000000000)) (List.mem_of_getElem? (i := 3) rfl)) dX10_odds_46 ?_
        obtain ⟨r9, hr9, hf⟩ := ob hf
        refine callS_l [.long r8.1, .long (1000000000000 : Int64)] [] hC hH (c_X10_gcd l G A N r8.2 r8.1 (1000000000000 : Int64) _ hr9) (va_cwS 2 hts gX10_odds_X10_gcd rfl rfl rfl (by decide +kernel) ⟨Nat.le_of_ble_eq_true rfl, Nat.le_of_ble_eq_true rfl⟩) rfl hl.1 rfl (Nat.le_of_ble_eq_true rfl) dX10_odds_49 (fun H locs hH => ?_)
        refine lv_lstore (lv' := [(6, .long r9), (4, .long r8.1), (0, .ref (gM G 0)), (1, .int a1), (2, .int a2), (3, .int a3)]) hx hb dX10_odds_52 hl (by decide) rfl (fun ls hl => ?_)
        refine lv_iload_n hx hb dX10_odds_54 rfl (lv_at hl 5 rfl) ?_
        refine lv_if_ne (tgt := 66) hx hb dX10_odds_55 (by decide) (fun c10 => ?_) (fun c10 => ?_)
        · replace hf := it_f c10 hf
          refine lv_ldc2 (v := 1000000000000) hx hb hown (hts (.constantLong RX10 189 (1000000000000)) (List.mem_of_getElem? (i := 3) rfl)) dX10_odds_66 ?_
          refine lv_lload hx hb dX10_odds_69 (lv_at hl 0 rfl) ?_
          obtain ⟨g11, hf⟩ := gd hf
          refine lv_ldiv hx hb dX10_odds_71 g11 ?_
          have hz : ((1000000000000 : Int64) / r9, r8.2) = q := Option.some.inj hf
          have hz1 := congrArg Prod.fst hz
          have hz2 := congrArg Prod.snd hz
          exact fin ((1000000000000 : Int64) / r9) r8.2 _ _ _ _ hz1 hz2 hH dX10_odds_72
        · replace hf := it_t c10 hf
          refine lv_lload hx hb dX10_odds_58 (lv_at hl 1 rfl) ?_
          refine lv_lload hx hb dX10_odds_60 (lv_at hl 0 rfl) ?_
          obtain ⟨g12, hf⟩ := gd hf
          refine lv_ldiv hx hb dX10_odds_62 g12 ?_
          refine lv_goto (tgt := 72) hx hb dX10_odds_63 (by decide) ?_
          have hz : (r8.1 / r9, r8.2) = q := Option.some.inj hf
          have hz1 := congrArg Prod.fst hz
          have hz2 := congrArg Prod.snd hz
          exact fin (r8.1 / r9) r8.2 _ _ _ _ hz1 hz2 hH dX10_odds_72
      · replace hf := it_t c7 hf
        refine lv_ldc2 (v := -1) hx hb hown (hts (.constantLong RX10 203 (-1)) (List.mem_of_getElem? (i := 2) rfl)) dX10_odds_32 ?_
        exact fin (-1 : Int64) S1 _ _ _ _ (congrArg Prod.fst (Option.some.inj hf)) (congrArg Prod.snd (Option.some.inj hf)) hH dX10_odds_35
theorem in_X10_enough_X10 : ∀ w ∈ wsX100, w ∈ wsX10_enough := fun w h => List.mem_cons_of_mem _ (List.mem_append_right _ h)
set_option maxRecDepth 100000 in
set_option maxHeartbeats 4000000 in
theorem c_X10_enough (l : Launch) (G : Gt) (A : Nat → Prop) (N : Nat) (S : St)  (a1 : Int32) (a2 : Int32) (q : Int32 × St) (hf : f_X10_enough N S a1 a2 = some q) : Met l yX10_enough wsX10_enough ({ frames := 5, cells := 0, slots := 0, locals := 143 } : Room) (va_Pc [.ref (gM G 0), .int a1, .int a2] (PK G A (MW G S))) (va_Qi (fun (r2 : Int32) S2 => r2 = q.1 ∧ S2 = q.2) (fun S2 : St => PK G A (MW G S2)) A) 0 0 A := by
  refine mstart_i (Wd := MW G) (cc := cX10_enough) (maxL := 4) (by decide) rfl (Nat.le_of_ble_eq_true rfl) (fun p e s m below meth c Qm ls hC hH hl fin => ?_)
  obtain ⟨hx, hb, hml, hown, hts⟩ := id hC.1
  have hl : lv_has ls 4 [(0, .ref (gM G 0)), (1, .int a1), (2, .int a2)] := hl
  have kL27 : ∀ (n : Nat), ∀ (S : St) (x3 : Int32) (H : Heap) (locs : List Loc) (ls : Array Slot), HW G A (MW G S) s H locs → lv_has ls 4 [(0, .ref (gM G 0)), (1, .int a1), (2, .int a2), (3, .int x3)] → g_X10_enough_27 N a1 a2 n S x3 = some q → W p l e ({ frames := 5, cells := 0, slots := 0, locals := 143 } : Room) s m [.ref (gM G 0), .int a1, .int a2].toArray below meth c H locs 0 0 Qm (F0 m 27 ls []) := by
    intro n
    induction n with
    | zero => intro S x3 H locs ls hH hl hf; exact absurd hf.symm (Option.some_ne_none q)
    | succ n ih =>
      intro S x3 H locs ls hH hl hf
      have hrec := ih
      have hf : s_X10_enough_27 N a1 a2 (g_X10_enough_27 N a1 a2 n) S x3 = some q := hf
      rw [s_X10_enough_27] at hf
      refine lv_iload_n hx hb dX10_enough_27 rfl (lv_at hl 3 rfl) ?_
      refine lv_bipush (v := 25) hx hb dX10_enough_28 (by decide) ?_
      refine lv_icmp_ge (tgt := 57) hx hb dX10_enough_30 (by decide) (fun c6 => ?_) (fun c6 => ?_)
      · replace hf := it_t c6 hf
        refine lv_bipush (v := -9) hx hb dX10_enough_57 (by decide) ?_
        exact fin (-9 : Int32) S _ _ _ _ (congrArg Prod.fst (Option.some.inj hf)) (congrArg Prod.snd (Option.some.inj hf)) hH dX10_enough_59
      · replace hf := it_f c6 hf
        refine lv_aload_n hx hb dX10_enough_33 rfl (lv_at hl 0 rfl) ?_
        refine lv_iload_n hx hb dX10_enough_34 rfl (lv_at hl 1 rfl) ?_
        refine lv_iload_n hx hb dX10_enough_35 rfl (lv_at hl 3 rfl) ?_
        obtain ⟨r7, hr7, hf⟩ := ob hf
        refine callV_l [.int a1, .int x3] [] hC hH (c_X10_oddsBy l G A N S a1 x3 _ hr7) (cwV 2 hts gX10_enough_X10_oddsBy rfl rfl rfl (by decide +kernel) ⟨Nat.le_of_ble_eq_true rfl, Nat.le_of_ble_eq_true rfl⟩) (recvW hC hH (c0 := 0) (ci := 10) rfl rfl) rfl hl.1 rfl (Nat.le_of_ble_eq_true rfl) dX10_enough_36 (fun H locs hH => ?_)
        refine lv_ldc2 (v := 100000000000) hx hb hown (hts (.constantLong RX10 212 (100000000000)) (List.mem_of_getElem? (i := 2) rfl)) dX10_enough_39 ?_
        refine lv_iload_n hx hb dX10_enough_42 rfl (lv_at hl 2 rfl) ?_
        refine lv_i2l hx hb dX10_enough_43 rfl ?_
        refine lv_lmul hx hb dX10_enough_44 ?_
        refine W.lcmp hx hb dX10_enough_45 ?_
        refine lv_if_lt (tgt := 51) hx hb dX10_enough_46 (by decide) (fun c8 => ?_) (fun c8 => ?_)
        · replace hf := it_t c8 hf
          refine lv_iinc (v := x3 + (1 : Int32)) (lv' := [(3, .int (x3 + (1 : Int32))), (0, .ref (gM G 0)), (1, .int a1), (2, .int a2)]) hx hb dX10_enough_51 hl (k := 3) rfl rfl (by decide) rfl (fun ls hl => ?_)
          refine lv_goto (tgt := 27) hx hb dX10_enough_54 (by decide) ?_
          exact hrec r7.2 (x3 + (1 : Int32)) _ _ _ hH (lv_sub hl [1, 2, 3, 0] rfl) hf
        · replace hf := it_f c8 hf
          refine lv_iload_n hx hb dX10_enough_49 rfl (lv_at hl 3 rfl) ?_
          have hz : (x3, r7.2) = q := Option.some.inj hf
          have hz1 := congrArg Prod.fst hz
          have hz2 := congrArg Prod.snd hz
          exact fin x3 r7.2 _ _ _ _ hz1 hz2 hH dX10_enough_50
  have hf := hf
  rw [f_X10_enough] at hf
  refine lv_aload_n hx hb dX10_enough_0 rfl (lv_at hl 0 rfl) ?_
  refine lv_iconst (v := 0) hx hb dX10_enough_1 (by decide) ?_
  refine putO hC hH (0) rfl rfl in_X10_enough_X10 tyX10 tyX10_ok nmX10 0 (by decide) (index := 58) (List.mem_of_getElem? (i := 1) rfl) rfl rfl rfl (Nat.le_of_ble_eq_true rfl) ms_0_0 dX10_enough_2 (fun H locs hH => ?_)
  obtain ⟨S1, eS1⟩ : ∃ Z : St, Z = sI S 0 0 (0 : Int32) := ⟨_, rfl⟩
  rw [← eS1] at hH
  replace hf := bn eS1 hf
  refine lv_aload_n hx hb dX10_enough_5 rfl (lv_at hl 0 rfl) ?_
  refine lv_iload_n hx hb dX10_enough_6 rfl (lv_at hl 1 rfl) ?_
  obtain ⟨r2, hr2, hf⟩ := ob hf
  refine callV_i [.int a1] [] hC hH (c_X10_isRunner l G A S1 a1 _ hr2) (cwV 1 hts gX10_enough_X10_isRunner rfl rfl rfl (by decide +kernel) ⟨Nat.le_of_ble_eq_true rfl, Nat.le_of_ble_eq_true rfl⟩) (recvW hC hH (c0 := 0) (ci := 10) rfl rfl) rfl hl.1 rfl (Nat.le_of_ble_eq_true rfl) dX10_enough_7 (fun H locs hH => ?_)
  refine lv_if_eq (tgt := 23) hx hb dX10_enough_10 (by decide) (fun c3 => ?_) (fun c3 => ?_)
  · replace hf := it_t c3 hf
    refine lv_iconst (v := -1) hx hb dX10_enough_23 (by decide) ?_
    exact fin (-1 : Int32) S1 _ _ _ _ (congrArg Prod.fst (Option.some.inj hf)) (congrArg Prod.snd (Option.some.inj hf)) hH dX10_enough_24
  · replace hf := it_f c3 hf
    refine lv_iload_n hx hb dX10_enough_13 rfl (lv_at hl 2 rfl) ?_
    refine lv_iconst (v := 0) hx hb dX10_enough_14 (by decide) ?_
    refine lv_bipush (v := 10) hx hb dX10_enough_15 (by decide) ?_
    obtain ⟨r4, hr4, hf⟩ := ob hf
    refine callS_i [.int a2, .int (0 : Int32), .int (10 : Int32)] [] hC hH (c_X10_in l G A S1 a2 (0 : Int32) (10 : Int32) _ hr4) (va_cwS 3 hts gX10_enough_X10_in rfl rfl rfl (by decide +kernel) ⟨Nat.le_of_ble_eq_true rfl, Nat.le_of_ble_eq_true rfl⟩) rfl hl.1 rfl (Nat.le_of_ble_eq_true rfl) dX10_enough_17 (fun H locs hH => ?_)
    refine lv_if_ne (tgt := 25) hx hb dX10_enough_20 (by decide) (fun c5 => ?_) (fun c5 => ?_)
    · replace hf := it_f c5 hf
      refine lv_iconst (v := 0) hx hb dX10_enough_25 (by decide) ?_
      refine lv_istore_n (lv' := [(3, .int (0 : Int32)), (0, .ref (gM G 0)), (1, .int a1), (2, .int a2)]) hx hb dX10_enough_26 rfl hl (by decide) rfl (fun ls hl => ?_)
      refine kL27 N S1 (0 : Int32) _ _ _ hH (lv_sub hl [1, 2, 3, 0] rfl) hf
    · replace hf := it_t c5 hf
      refine lv_iconst (v := -1) hx hb dX10_enough_23 (by decide) ?_
      exact fin (-1 : Int32) S1 _ _ _ _ (congrArg Prod.fst (Option.some.inj hf)) (congrArg Prod.snd (Option.some.inj hf)) hH dX10_enough_24
