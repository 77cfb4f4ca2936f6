/-! walks: X10_best X10_notes X10_runs X10_toss X10_undo X10_lot X10_home X10_at -/
theorem in_X10_best_X10 : ∀ w ∈ wsX100, w ∈ wsX10_best := fun w h => List.mem_cons_of_mem _ (List.mem_append_right _ h)
set_option maxRecDepth 100000 in
set_option maxHeartbeats 4000000 in
theorem c_X10_best (l : Launch) (G : Gt) (A : Nat → Prop) (N : Nat) (S : St)  (a1 : Int32) (a2 : Int32) (a3 : Int32) (a4 : Int32) (q : Int32 × St) (hf : f_X10_best N S a1 a2 a3 a4 = some q) : Met l yX10_best wsX10_best ({ frames := 2, cells := 0, slots := 0, locals := 58 } : Room) (va_Pc [.ref (gM G 0), .int a1, .int a2, .int a3, .int a4] (PK G A (MW G S))) (va_Qi (fun (r2 : Int32) S2 => r2 = q.1 ∧ S2 = q.2) (fun S2 : St => PK G A (MW G S2)) A) 0 0 A := by
  refine mstart_i (Wd := MW G) (cc := cX10_best) (maxL := 6) (by decide) rfl (Nat.le_of_ble_eq_true rfl) (fun p e s m below meth c Qm ls hC hH hl fin => ?_)
  obtain ⟨hx, hb, hml, hown, hts⟩ := id hC.1
  have hl : lv_has ls 6 [(0, .ref (gM G 0)), (1, .int a1), (2, .int a2), (3, .int a3), (4, .int a4)] := hl
  have hf := hf
  rw [f_X10_best] at hf
  refine lv_aload_n hx hb dX10_best_0 rfl (lv_at hl 0 rfl) ?_
  refine lv_iconst (v := 0) hx hb dX10_best_1 (by decide) ?_
  refine putO hC hH (0) rfl rfl in_X10_best_X10 tyX10 tyX10_ok nmX10 0 (by decide) (index := 58) (List.mem_of_getElem? (i := 1) rfl) rfl rfl rfl (Nat.le_of_ble_eq_true rfl) ms_0_0 dX10_best_2 (fun H locs hH => ?_)
  obtain ⟨S1, eS1⟩ : ∃ Z : St, Z = sI S 0 0 (0 : Int32) := ⟨_, rfl⟩
  rw [← eS1] at hH
  replace hf := bn eS1 hf
  refine lv_aload_n hx hb dX10_best_5 rfl (lv_at hl 0 rfl) ?_
  refine lv_iload_n hx hb dX10_best_6 rfl (lv_at hl 1 rfl) ?_
  obtain ⟨r2, hr2, hf⟩ := ob hf
  refine callV_i [.int a1] [] hC hH (c_X10_isRunner l G A S1 a1 _ hr2) (cwV 1 hts gX10_best_X10_isRunner rfl rfl rfl (by decide +kernel) ⟨Nat.le_of_ble_eq_true rfl, Nat.le_of_ble_eq_true rfl⟩) (recvW hC hH (c0 := 0) (ci := 10) rfl rfl) rfl hl.1 rfl (Nat.le_of_ble_eq_true rfl) dX10_best_7 (fun H locs hH => ?_)
  refine lv_if_eq (tgt := 40) hx hb dX10_best_10 (by decide) (fun c3 => ?_) (fun c3 => ?_)
  · replace hf := it_t c3 hf
    refine lv_iconst (v := -1) hx hb dX10_best_40 (by decide) ?_
    exact fin (-1 : Int32) S1 _ _ _ _ (congrArg Prod.fst (Option.some.inj hf)) (congrArg Prod.snd (Option.some.inj hf)) hH dX10_best_41
  · replace hf := it_f c3 hf
    refine lv_aload_n hx hb dX10_best_13 rfl (lv_at hl 0 rfl) ?_
    refine lv_iload_n hx hb dX10_best_14 rfl (lv_at hl 2 rfl) ?_
    obtain ⟨r4, hr4, hf⟩ := ob hf
    refine callV_i [.int a2] [] hC hH (c_X10_isYard l G A S1 a2 _ hr4) (cwV 1 hts gX10_best_X10_isYard rfl rfl rfl (by decide +kernel) ⟨Nat.le_of_ble_eq_true rfl, Nat.le_of_ble_eq_true rfl⟩) (recvW hC hH (c0 := 0) (ci := 10) rfl rfl) rfl hl.1 rfl (Nat.le_of_ble_eq_true rfl) dX10_best_15 (fun H locs hH => ?_)
    refine lv_if_eq (tgt := 40) hx hb dX10_best_18 (by decide) (fun c5 => ?_) (fun c5 => ?_)
    · replace hf := it_t c5 hf
      refine lv_iconst (v := -1) hx hb dX10_best_40 (by decide) ?_
      exact fin (-1 : Int32) S1 _ _ _ _ (congrArg Prod.fst (Option.some.inj hf)) (congrArg Prod.snd (Option.some.inj hf)) hH dX10_best_41
    · replace hf := it_f c5 hf
      refine lv_iload_n hx hb dX10_best_21 rfl (lv_at hl 3 rfl) ?_
      refine lv_iconst (v := 0) hx hb dX10_best_22 (by decide) ?_
      refine lv_iconst (v := 1) hx hb dX10_best_23 (by decide) ?_
      obtain ⟨r6, hr6, hf⟩ := ob hf
      refine callS_i [.int a3, .int (0 : Int32), .int (1 : Int32)] [] hC hH (c_X10_in l G A S1 a3 (0 : Int32) (1 : Int32) _ hr6) (va_cwS 3 hts gX10_best_X10_in rfl rfl rfl (by decide +kernel) ⟨Nat.le_of_ble_eq_true rfl, Nat.le_of_ble_eq_true rfl⟩) rfl hl.1 rfl (Nat.le_of_ble_eq_true rfl) dX10_best_24 (fun H locs hH => ?_)
      refine lv_if_eq (tgt := 40) hx hb dX10_best_27 (by decide) (fun c7 => ?_) (fun c7 => ?_)
      · replace hf := it_t c7 hf
        refine lv_iconst (v := -1) hx hb dX10_best_40 (by decide) ?_
        exact fin (-1 : Int32) S1 _ _ _ _ (congrArg Prod.fst (Option.some.inj hf)) (congrArg Prod.snd (Option.some.inj hf)) hH dX10_best_41
      · replace hf := it_f c7 hf
        refine lv_iload hx hb dX10_best_30 (lv_at hl 4 rfl) ?_
        refine lv_iconst (v := 0) hx hb dX10_best_32 (by decide) ?_
        refine lv_iconst (v := 1) hx hb dX10_best_33 (by decide) ?_
        obtain ⟨r8, hr8, hf⟩ := ob hf
        refine callS_i [.int a4, .int (0 : Int32), .int (1 : Int32)] [] hC hH (c_X10_in l G A S1 a4 (0 : Int32) (1 : Int32) _ hr8) (va_cwS 3 hts gX10_best_X10_in rfl rfl rfl (by decide +kernel) ⟨Nat.le_of_ble_eq_true rfl, Nat.le_of_ble_eq_true rfl⟩) rfl hl.1 rfl (Nat.le_of_ble_eq_true rfl) dX10_best_34 (fun H locs hH => ?_)
        refine lv_if_ne (tgt := 42) hx hb dX10_best_37 (by decide) (fun c9 => ?_) (fun c9 => ?_)
        · replace hf := it_f c9 hf
          refine lv_aload_n hx hb dX10_best_42 rfl (lv_at hl 0 rfl) ?_
          refine lv_iload_n hx hb dX10_best_43 rfl (lv_at hl 1 rfl) ?_
          refine lv_iload_n hx hb dX10_best_44 rfl (lv_at hl 2 rfl) ?_
          refine lv_iload_n hx hb dX10_best_45 rfl (lv_at hl 3 rfl) ?_
          obtain ⟨r10, hr10, hf⟩ := ob hf
          refine callV_i [.int a1, .int a2, .int a3] [] hC hH (c_X10_bestOf l G A N S1 a1 a2 a3 _ hr10) (cwV 3 hts gX10_best_X10_bestOf rfl rfl rfl (by decide +kernel) ⟨Nat.le_of_ble_eq_true rfl, Nat.le_of_ble_eq_true rfl⟩) (recvW hC hH (c0 := 0) (ci := 10) rfl rfl) rfl hl.1 rfl (Nat.le_of_ble_eq_true rfl) dX10_best_46 (fun H locs hH => ?_)
          refine lv_istore (lv' := [(5, .int r10.1), (0, .ref (gM G 0)), (1, .int a1), (2, .int a2), (3, .int a3), (4, .int a4)]) hx hb dX10_best_49 hl (by decide) rfl (fun ls hl => ?_)
          refine lv_iload hx hb dX10_best_51 (lv_at hl 5 rfl) ?_
          refine lv_iconst (v := 1) hx hb dX10_best_53 (by decide) ?_
          refine lv_icmp_ne (tgt := 62) hx hb dX10_best_54 (by decide) (fun c11 => ?_) (fun c11 => ?_)
          · replace hf := it_f c11 hf
            refine lv_aload_n hx hb dX10_best_62 rfl (lv_at hl 1 rfl) ?_
            refine lv_iload_n hx hb dX10_best_63 rfl (lv_at hl 2 rfl) ?_
            refine lv_iload_n hx hb dX10_best_64 rfl (lv_at hl 3 rfl) ?_
            refine lv_iload_n hx hb dX10_best_65 rfl (lv_at hl 4 rfl) ?_
            refine lv_iload hx hb dX10_best_66 (lv_at hl 0 rfl) ?_
            obtain ⟨r12, hr12, hf⟩ := ob hf
            refine callV_i [.int a1, .int a2, .int a3, .int r10.1] [] hC hH (c_X10_sureOf l G A r10.2 a1 a2 a3 r10.1 _ hr12) (cwV 4 hts gX10_best_X10_sureOf rfl rfl rfl (by decide +kernel) ⟨Nat.le_of_ble_eq_true rfl, Nat.le_of_ble_eq_true rfl⟩) (recvW hC hH (c0 := 0) (ci := 10) rfl rfl) rfl hl.1 rfl (Nat.le_of_ble_eq_true rfl) dX10_best_68 (fun H locs hH => ?_)
            have hz : (r12.1, r12.2) = q := Option.some.inj hf
            have hz1 := congrArg Prod.fst hz
            have hz2 := congrArg Prod.snd hz
            exact fin r12.1 r12.2 _ _ _ _ hz1 hz2 hH dX10_best_71
          · replace hf := it_t c11 hf
            refine lv_iload hx hb dX10_best_57 (lv_at hl 0 rfl) ?_
            refine lv_goto (tgt := 71) hx hb dX10_best_59 (by decide) ?_
            have hz : (r10.1, r10.2) = q := Option.some.inj hf
            have hz1 := congrArg Prod.fst hz
            have hz2 := congrArg Prod.snd hz
            exact fin r10.1 r10.2 _ _ _ _ hz1 hz2 hH dX10_best_71
        · replace hf := it_t c9 hf
          refine lv_iconst (v := -1) hx hb dX10_best_40 (by decide) ?_
          exact fin (-1 : Int32) S1 _ _ _ _ (congrArg Prod.fst (Option.some.inj hf)) (congrArg Prod.snd (Option.some.inj hf)) hH dX10_best_41
theorem in_X10_notes_X10 : ∀ w ∈ wsX100, w ∈ wsX10_notes := fun w h => List.mem_cons_of_mem _ (List.mem_append_right _ h)
set_option maxRecDepth 100000 in
set_option maxHeartbeats 4000000 in
theorem c_X10_notes (l : Launch) (G : Gt) (A : Nat → Prop) (N : Nat) (S : St)  (a1 : Int32) (q : St) (hf : f_X10_notes N S a1 = some q) : Met l yX10_notes wsX10_notes ({ frames := 0, cells := 0, slots := 0, locals := 0 } : Room) (va_Pc [.ref (gM G 0), .int a1] (PK G A (MW G S))) (va_Qv (fun S2 => S2 = q) (fun S2 : St => PK G A (MW G S2)) A) 0 0 A := by
  refine mstart_v (Wd := MW G) (cc := cX10_notes) (maxL := 4) (by decide) rfl (Nat.le_of_ble_eq_true rfl) (fun p e s m below meth c Qm ls hC hH hl fin => ?_)
  obtain ⟨hx, hb, hml, hown, hts⟩ := id hC.1
  have hl : lv_has ls 4 [(0, .ref (gM G 0)), (1, .int a1)] := hl
  have kL59 : ∀ (k90 : St → Option St) (hk90 : ∀ (S : St) (H : Heap) (locs : List Loc) (ls : Array Slot), HW G A (MW G S) s H locs → lv_has ls 4 [(0, .ref (gM G 0))] → k90 S = some q → W p l e ({ frames := 0, cells := 0, slots := 0, locals := 0 } : Room) s m [.ref (gM G 0), .int a1].toArray below meth c H locs 0 0 Qm (F0 m 90 ls [])) , ∀ (n : Nat), ∀ (S : St) (x2 : Int32) (x3 : Int32) (H : Heap) (locs : List Loc) (ls : Array Slot), HW G A (MW G S) s H locs → lv_has ls 4 [(0, .ref (gM G 0)), (1, .int a1), (2, .int x2), (3, .int x3)] → g_X10_notes_59 N a1 k90 n S x2 x3 = some q → W p l e ({ frames := 0, cells := 0, slots := 0, locals := 0 } : Room) s m [.ref (gM G 0), .int a1].toArray below meth c H locs 0 0 Qm (F0 m 59 ls []) := by
    intro k90 hk90 n
    induction n with
    | zero => intro S x2 x3 H locs ls hH hl hf; exact absurd hf.symm (Option.some_ne_none q)
    | succ n ih =>
      intro S x2 x3 H locs ls hH hl hf
      have hrec := ih
      have hf : s_X10_notes_59 N a1 k90 (g_X10_notes_59 N a1 k90 n) S x2 x3 = some q := hf
      rw [s_X10_notes_59] at hf
      refine lv_iload_n hx hb dX10_notes_59 rfl (lv_at hl 3 rfl) ?_
      refine lv_iconst (v := 3) hx hb dX10_notes_60 (by decide) ?_
      refine lv_icmp_ge (tgt := 90) hx hb dX10_notes_61 (by decide) (fun c5 => ?_) (fun c5 => ?_)
      · replace hf := it_t c5 hf
        exact hk90 S _ _ _ hH (lv_sub hl [0] rfl) hf
      · replace hf := it_f c5 hf
        refine lv_aload_n hx hb dX10_notes_64 rfl (lv_at hl 0 rfl) ?_
        refine getO hC hH (0) rfl rfl in_X10_notes_X10 21 (by decide) (index := 38) (List.mem_of_getElem? (i := 2) rfl) rfl dX10_notes_65 ?_
        refine lv_iload_n hx hb dX10_notes_68 rfl (lv_at hl 2 rfl) ?_
        refine lv_iconst (v := 1) hx hb dX10_notes_69 (by decide) ?_
        refine lv_iadd hx hb dX10_notes_70 ?_
        refine lv_iload_n hx hb dX10_notes_71 rfl (lv_at hl 3 rfl) ?_
        refine lv_iadd hx hb dX10_notes_72 ?_
        refine lv_aload_n hx hb dX10_notes_73 rfl (lv_at hl 0 rfl) ?_
        refine getO hC hH (0) rfl rfl in_X10_notes_X10 18 (by decide) (index := 28) (List.mem_of_getElem? (i := 3) rfl) rfl dX10_notes_74 ?_
        refine lv_iconst (v := 3) hx hb dX10_notes_77 (by decide) ?_
        refine lv_iload_n hx hb dX10_notes_78 rfl (lv_at hl 1 rfl) ?_
        refine lv_imul hx hb dX10_notes_79 ?_
        refine lv_iload_n hx hb dX10_notes_80 rfl (lv_at hl 3 rfl) ?_
        refine lv_iadd hx hb dX10_notes_81 ?_
        obtain ⟨g6, hf⟩ := gd hf
        refine aldI hC hH (7) rfl g6 dX10_notes_82 ?_
        obtain ⟨g7, hf⟩ := gd hf
        refine astI hC hH (10) rfl g7 mt_10 dX10_notes_83 (fun H locs hH => ?_)
        obtain ⟨S8, eS8⟩ : ∃ Z : St, Z = sA S 10 (upd (gA S 10) ((x2 + (1 : Int32)) + x3).toNatClampNeg (gA S 7 (((3 : Int32) * a1) + x3).toNatClampNeg)) := ⟨_, rfl⟩
        rw [← eS8] at hH
        replace hf := bn eS8 hf
        refine lv_iinc (v := x3 + (1 : Int32)) (lv' := [(3, .int (x3 + (1 : Int32))), (0, .ref (gM G 0)), (1, .int a1), (2, .int x2)]) hx hb dX10_notes_84 hl (k := 3) rfl rfl (by decide) rfl (fun ls hl => ?_)
        refine lv_goto (tgt := 59) hx hb dX10_notes_87 (by decide) ?_
        exact hrec S8 x2 (x3 + (1 : Int32)) _ _ _ hH (lv_sub hl [1, 2, 3, 0] rfl) hf
  have kJ43 : ∀ (S : St) (H : Heap) (locs : List Loc) (ls : Array Slot), HW G A (MW G S) s H locs → lv_has ls 4 [(0, .ref (gM G 0)), (1, .int a1)] → f_X10_notes_43 N a1 S = some q → W p l e ({ frames := 0, cells := 0, slots := 0, locals := 0 } : Room) s m [.ref (gM G 0), .int a1].toArray below meth c H locs 0 0 Qm (F0 m 43 ls []) := by
    intro S H locs ls hH hl hf
    rw [f_X10_notes_43] at hf
    refine lv_iconst (v := 4) hx hb dX10_notes_43 (by decide) ?_
    refine lv_aload_n hx hb dX10_notes_44 rfl (lv_at hl 0 rfl) ?_
    refine getO hC hH (0) rfl rfl in_X10_notes_X10 22 (by decide) (index := 138) (List.mem_of_getElem? (i := 1) rfl) rfl dX10_notes_45 ?_
    refine lv_imul hx hb dX10_notes_48 ?_
    refine lv_topi (fun b2 eb2 => ?_)
    replace hf := bn eb2 hf
    refine lv_istore_n (lv' := [(2, .int b2), (0, .ref (gM G 0)), (1, .int a1)]) hx hb dX10_notes_49 rfl hl (by decide) rfl (fun ls hl => ?_)
    refine lv_aload_n hx hb dX10_notes_50 rfl (lv_at hl 1 rfl) ?_
    refine getO hC hH (0) rfl rfl in_X10_notes_X10 21 (by decide) (index := 38) (List.mem_of_getElem? (i := 2) rfl) rfl dX10_notes_51 ?_
    refine lv_iload_n hx hb dX10_notes_54 rfl (lv_at hl 0 rfl) ?_
    refine lv_iload_n hx hb dX10_notes_55 rfl (lv_at hl 2 rfl) ?_
    obtain ⟨g3, hf⟩ := gd hf
    refine astI hC hH (10) rfl g3 mt_10 dX10_notes_56 (fun H locs hH => ?_)
    obtain ⟨S4, eS4⟩ : ∃ Z : St, Z = sA S 10 (upd (gA S 10) b2.toNatClampNeg a1) := ⟨_, rfl⟩
    rw [← eS4] at hH
    replace hf := bn eS4 hf
    refine lv_iconst (v := 0) hx hb dX10_notes_57 (by decide) ?_
    refine lv_istore_n (lv' := [(3, .int (0 : Int32)), (2, .int b2), (0, .ref (gM G 0)), (1, .int a1)]) hx hb dX10_notes_58 rfl hl (by decide) rfl (fun ls hl => ?_)
    refine kL59 _ ?_ N S4 b2 (0 : Int32) _ _ _ hH (lv_sub hl [2, 3, 1, 0] rfl) hf
    intro S9 H locs ls hH hl hf
    refine lv_aload_n hx hb dX10_notes_90 rfl (lv_at hl 0 rfl) ?_
    refine lv_dup hx hb dX10_notes_91 rfl ?_
    refine getO hC hH (0) rfl rfl in_X10_notes_X10 22 (by decide) (index := 138) (List.mem_of_getElem? (i := 1) rfl) rfl dX10_notes_92 ?_
    refine lv_iconst (v := 1) hx hb dX10_notes_95 (by decide) ?_
    refine lv_iadd hx hb dX10_notes_96 ?_
    refine putO hC hH (0) rfl rfl in_X10_notes_X10 tyX10 tyX10_ok nmX10 22 (by decide) (index := 138) (List.mem_of_getElem? (i := 1) rfl) rfl rfl rfl (Nat.le_of_ble_eq_true rfl) ms_0_22 dX10_notes_97 (fun H locs hH => ?_)
    obtain ⟨S10, eS10⟩ : ∃ Z : St, Z = sI S9 0 22 ((gI S9 0 22) + (1 : Int32)) := ⟨_, rfl⟩
    rw [← eS10] at hH
    replace hf := bn eS10 hf
    exact fin S10 _ _ _ _ (Option.some.inj hf) hH dX10_notes_100
  have kL11 : ∀ (k37 : St → Option St) (hk37 : ∀ (S : St) (H : Heap) (locs : List Loc) (ls : Array Slot), HW G A (MW G S) s H locs → lv_has ls 4 [(0, .ref (gM G 0)), (1, .int a1)] → k37 S = some q → W p l e ({ frames := 0, cells := 0, slots := 0, locals := 0 } : Room) s m [.ref (gM G 0), .int a1].toArray below meth c H locs 0 0 Qm (F0 m 37 ls [])) , ∀ (n : Nat), ∀ (S : St) (x2 : Int32) (H : Heap) (locs : List Loc) (ls : Array Slot), HW G A (MW G S) s H locs → lv_has ls 4 [(0, .ref (gM G 0)), (1, .int a1), (2, .int x2)] → g_X10_notes_11 N a1 k37 n S x2 = some q → W p l e ({ frames := 0, cells := 0, slots := 0, locals := 0 } : Room) s m [.ref (gM G 0), .int a1].toArray below meth c H locs 0 0 Qm (F0 m 11 ls []) := by
    intro k37 hk37 n
    induction n with
    | zero => intro S x2 H locs ls hH hl hf; exact absurd hf.symm (Option.some_ne_none q)
    | succ n ih =>
      intro S x2 H locs ls hH hl hf
      have hrec := ih
      have hf : s_X10_notes_11 N a1 k37 (g_X10_notes_11 N a1 k37 n) S x2 = some q := hf
      rw [s_X10_notes_11] at hf
      refine lv_iload_n hx hb dX10_notes_11 rfl (lv_at hl 2 rfl) ?_
      refine lv_bipush (v := 36) hx hb dX10_notes_12 (by decide) ?_
      refine lv_icmp_ge (tgt := 37) hx hb dX10_notes_14 (by decide) (fun c11 => ?_) (fun c11 => ?_)
      · replace hf := it_t c11 hf
        exact hk37 S _ _ _ hH (lv_sub hl [0, 1] rfl) hf
      · replace hf := it_f c11 hf
        refine lv_aload_n hx hb dX10_notes_17 rfl (lv_at hl 0 rfl) ?_
        refine getO hC hH (0) rfl rfl in_X10_notes_X10 21 (by decide) (index := 38) (List.mem_of_getElem? (i := 2) rfl) rfl dX10_notes_18 ?_
        refine lv_iload_n hx hb dX10_notes_21 rfl (lv_at hl 2 rfl) ?_
        refine lv_aload_n hx hb dX10_notes_22 rfl (lv_at hl 0 rfl) ?_
        refine getO hC hH (0) rfl rfl in_X10_notes_X10 21 (by decide) (index := 38) (List.mem_of_getElem? (i := 2) rfl) rfl dX10_notes_23 ?_
        refine lv_iload_n hx hb dX10_notes_26 rfl (lv_at hl 2 rfl) ?_
        refine lv_iconst (v := 4) hx hb dX10_notes_27 (by decide) ?_
        refine lv_iadd hx hb dX10_notes_28 ?_
        obtain ⟨g12, hf⟩ := gd hf
        refine aldI hC hH (10) rfl g12 dX10_notes_29 ?_
        obtain ⟨g13, hf⟩ := gd hf
        refine astI hC hH (10) rfl g13 mt_10 dX10_notes_30 (fun H locs hH => ?_)
        obtain ⟨S14, eS14⟩ : ∃ Z : St, Z = sA S 10 (upd (gA S 10) x2.toNatClampNeg (gA S 10 (x2 + (4 : Int32)).toNatClampNeg)) := ⟨_, rfl⟩
        rw [← eS14] at hH
        replace hf := bn eS14 hf
        refine lv_iinc (v := x2 + (1 : Int32)) (lv' := [(2, .int (x2 + (1 : Int32))), (0, .ref (gM G 0)), (1, .int a1)]) hx hb dX10_notes_31 hl (k := 2) rfl rfl (by decide) rfl (fun ls hl => ?_)
        refine lv_goto (tgt := 11) hx hb dX10_notes_34 (by decide) ?_
        exact hrec S14 (x2 + (1 : Int32)) _ _ _ hH (lv_sub hl [1, 2, 0] rfl) hf
  have hf := hf
  rw [f_X10_notes] at hf
  refine lv_aload_n hx hb dX10_notes_0 rfl (lv_at hl 0 rfl) ?_
  refine getO hC hH (0) rfl rfl in_X10_notes_X10 22 (by decide) (index := 138) (List.mem_of_getElem? (i := 1) rfl) rfl dX10_notes_1 ?_
  refine lv_bipush (v := 10) hx hb dX10_notes_4 (by decide) ?_
  refine lv_icmp_ne (tgt := 43) hx hb dX10_notes_6 (by decide) (fun c1 => ?_) (fun c1 => ?_)
  · replace hf := it_f c1 hf
    exact kJ43  S _ _ _ hH (lv_sub hl [0, 1] rfl) hf
  · replace hf := it_t c1 hf
    refine lv_iconst (v := 0) hx hb dX10_notes_9 (by decide) ?_
    refine lv_istore_n (lv' := [(2, .int (0 : Int32)), (0, .ref (gM G 0)), (1, .int a1)]) hx hb dX10_notes_10 rfl hl (by decide) rfl (fun ls hl => ?_)
    refine kL11 _ ?_ N S (0 : Int32) _ _ _ hH (lv_sub hl [1, 2, 0] rfl) hf
    intro S15 H locs ls hH hl hf
    refine lv_aload_n hx hb dX10_notes_37 rfl (lv_at hl 0 rfl) ?_
    refine lv_bipush (v := 9) hx hb dX10_notes_38 (by decide) ?_
    refine putO hC hH (0) rfl rfl in_X10_notes_X10 tyX10 tyX10_ok nmX10 22 (by decide) (index := 138) (List.mem_of_getElem? (i := 1) rfl) rfl rfl rfl (Nat.le_of_ble_eq_true rfl) ms_0_22 dX10_notes_40 (fun H locs hH => ?_)
    obtain ⟨S16, eS16⟩ : ∃ Z : St, Z = sI S15 0 22 (9 : Int32) := ⟨_, rfl⟩
    rw [← eS16] at hH
    replace hf := bn eS16 hf
    exact kJ43  S16 _ _ _ hH (lv_sub hl [0, 1] rfl) hf
theorem in_X10_runs_X10 : ∀ w ∈ wsX100, w ∈ wsX10_runs := fun w h => List.mem_cons_of_mem _ (List.mem_append_right _ h)
set_option maxRecDepth 100000 in
set_option maxHeartbeats 4000000 in
theorem c_X10_runs (l : Launch) (G : Gt) (A : Nat → Prop) (N : Nat) (S : St)  (a1 : Int32) (a2 : Int32) (q : Int32 × St) (hf : f_X10_runs N S a1 a2 = some q) : Met l yX10_runs wsX10_runs ({ frames := 2, cells := 0, slots := 0, locals := 43 } : Room) (va_Pc [.ref (gM G 0), .int a1, .int a2] (PK G A (MW G S))) (va_Qi (fun (r2 : Int32) S2 => r2 = q.1 ∧ S2 = q.2) (fun S2 : St => PK G A (MW G S2)) A) 0 0 A := by
  refine mstart_i (Wd := MW G) (cc := cX10_runs) (maxL := 4) (by decide) rfl (Nat.le_of_ble_eq_true rfl) (fun p e s m below meth c Qm ls hC hH hl fin => ?_)
  obtain ⟨hx, hb, hml, hown, hts⟩ := id hC.1
  have hl : lv_has ls 4 [(0, .ref (gM G 0)), (1, .int a1), (2, .int a2)] := hl
  have kJ89 : ∀ (S : St) (t1 : Int32) (t2 : Int32) (H : Heap) (locs : List Loc) (ls : Array Slot), HW G A (MW G S) s H locs → lv_has ls 4 [(0, .ref (gM G 0)), (1, .int a1), (2, .int a2)] → f_X10_runs_89 N a1 a2 S t1 t2 = some q → W p l e ({ frames := 2, cells := 0, slots := 0, locals := 43 } : Room) s m [.ref (gM G 0), .int a1, .int a2].toArray below meth c H locs 0 0 Qm (F0 m 89 ls [.int t2, .int t1, .ref (gM G 7)]) := by
    intro S t1 t2 H locs ls hH hl hf
    rw [f_X10_runs_89] at hf
    obtain ⟨g13, hf⟩ := gd hf
    refine astI hC hH (7) rfl g13 mt_7 dX10_runs_89 (fun H locs hH => ?_)
    obtain ⟨S14, eS14⟩ : ∃ Z : St, Z = sA S 7 (upd (gA S 7) t1.toNatClampNeg t2) := ⟨_, rfl⟩
    rw [← eS14] at hH
    replace hf := bn eS14 hf
    refine lv_aload_n hx hb dX10_runs_90 rfl (lv_at hl 0 rfl) ?_
    refine getO hC hH (0) rfl rfl in_X10_runs_X10 18 (by decide) (index := 28) (List.mem_of_getElem? (i := 2) rfl) rfl dX10_runs_91 ?_
    refine lv_iconst (v := 3) hx hb dX10_runs_94 (by decide) ?_
    refine lv_iload_n hx hb dX10_runs_95 rfl (lv_at hl 1 rfl) ?_
    refine lv_imul hx hb dX10_runs_96 ?_
    refine lv_iconst (v := 1) hx hb dX10_runs_97 (by decide) ?_
    refine lv_iadd hx hb dX10_runs_98 ?_
    refine lv_dup2_11 hx hb dX10_runs_99 rfl rfl ?_
    obtain ⟨g15, hf⟩ := gd hf
    refine aldI hC hH (7) rfl g15 dX10_runs_100 ?_
    refine lv_iload_n hx hb dX10_runs_101 rfl (lv_at hl 2 rfl) ?_
    refine lv_iadd hx hb dX10_runs_102 ?_
    obtain ⟨g16, hf⟩ := gd hf
    refine astI hC hH (7) rfl g16 mt_7 dX10_runs_103 (fun H locs hH => ?_)
    obtain ⟨S17, eS17⟩ : ∃ Z : St, Z = sA S14 7 (upd (gA S14 7) (((3 : Int32) * a1) + (1 : Int32)).toNatClampNeg ((gA S14 7 (((3 : Int32) * a1) + (1 : Int32)).toNatClampNeg) + a2)) := ⟨_, rfl⟩
    rw [← eS17] at hH
    replace hf := bn eS17 hf
    refine lv_aload_n hx hb dX10_runs_104 rfl (lv_at hl 0 rfl) ?_
    refine getO hC hH (0) rfl rfl in_X10_runs_X10 18 (by decide) (index := 28) (List.mem_of_getElem? (i := 2) rfl) rfl dX10_runs_105 ?_
    refine lv_iconst (v := 3) hx hb dX10_runs_108 (by decide) ?_
    refine lv_iload_n hx hb dX10_runs_109 rfl (lv_at hl 1 rfl) ?_
    refine lv_imul hx hb dX10_runs_110 ?_
    obtain ⟨g18, hf⟩ := gd hf
    refine aldI hC hH (7) rfl g18 dX10_runs_111 ?_
    have hz : (gA S17 7 ((3 : Int32) * a1).toNatClampNeg, S17) = q := Option.some.inj hf
    have hz1 := congrArg Prod.fst hz
    have hz2 := congrArg Prod.snd hz
    exact fin (gA S17 7 ((3 : Int32) * a1).toNatClampNeg) S17 _ _ _ _ hz1 hz2 hH dX10_runs_112
  have hf := hf
  rw [f_X10_runs] at hf
  refine lv_aload_n hx hb dX10_runs_0 rfl (lv_at hl 0 rfl) ?_
  refine lv_iconst (v := 0) hx hb dX10_runs_1 (by decide) ?_
  refine putO hC hH (0) rfl rfl in_X10_runs_X10 tyX10 tyX10_ok nmX10 0 (by decide) (index := 58) (List.mem_of_getElem? (i := 1) rfl) rfl rfl rfl (Nat.le_of_ble_eq_true rfl) ms_0_0 dX10_runs_2 (fun H locs hH => ?_)
  obtain ⟨S1, eS1⟩ : ∃ Z : St, Z = sI S 0 0 (0 : Int32) := ⟨_, rfl⟩
  rw [← eS1] at hH
  replace hf := bn eS1 hf
  refine lv_aload_n hx hb dX10_runs_5 rfl (lv_at hl 0 rfl) ?_
  refine lv_iload_n hx hb dX10_runs_6 rfl (lv_at hl 1 rfl) ?_
  obtain ⟨r2, hr2, hf⟩ := ob hf
  refine callV_i [.int a1] [] hC hH (c_X10_isRunner l G A S1 a1 _ hr2) (cwV 1 hts gX10_runs_X10_isRunner rfl rfl rfl (by decide +kernel) ⟨Nat.le_of_ble_eq_true rfl, Nat.le_of_ble_eq_true rfl⟩) (recvW hC hH (c0 := 0) (ci := 10) rfl rfl) rfl hl.1 rfl (Nat.le_of_ble_eq_true rfl) dX10_runs_7 (fun H locs hH => ?_)
  refine lv_if_eq (tgt := 23) hx hb dX10_runs_10 (by decide) (fun c3 => ?_) (fun c3 => ?_)
  · replace hf := it_t c3 hf
    refine lv_iconst (v := -1) hx hb dX10_runs_23 (by decide) ?_
    exact fin (-1 : Int32) S1 _ _ _ _ (congrArg Prod.fst (Option.some.inj hf)) (congrArg Prod.snd (Option.some.inj hf)) hH dX10_runs_24
  · replace hf := it_f c3 hf
    refine lv_iload_n hx hb dX10_runs_13 rfl (lv_at hl 2 rfl) ?_
    refine lv_iconst (v := 1) hx hb dX10_runs_14 (by decide) ?_
    refine lv_bipush (v := 9) hx hb dX10_runs_15 (by decide) ?_
    obtain ⟨r4, hr4, hf⟩ := ob hf
    refine callS_i [.int a2, .int (1 : Int32), .int (9 : Int32)] [] hC hH (c_X10_in l G A S1 a2 (1 : Int32) (9 : Int32) _ hr4) (va_cwS 3 hts gX10_runs_X10_in rfl rfl rfl (by decide +kernel) ⟨Nat.le_of_ble_eq_true rfl, Nat.le_of_ble_eq_true rfl⟩) rfl hl.1 rfl (Nat.le_of_ble_eq_true rfl) dX10_runs_17 (fun H locs hH => ?_)
    refine lv_if_ne (tgt := 25) hx hb dX10_runs_20 (by decide) (fun c5 => ?_) (fun c5 => ?_)
    · replace hf := it_f c5 hf
      refine lv_aload_n hx hb dX10_runs_25 rfl (lv_at hl 0 rfl) ?_
      refine getO hC hH (0) rfl rfl in_X10_runs_X10 18 (by decide) (index := 28) (List.mem_of_getElem? (i := 2) rfl) rfl dX10_runs_26 ?_
      refine lv_iconst (v := 3) hx hb dX10_runs_29 (by decide) ?_
      refine lv_iload_n hx hb dX10_runs_30 rfl (lv_at hl 1 rfl) ?_
      refine lv_imul hx hb dX10_runs_31 ?_
      obtain ⟨g6, hf⟩ := gd hf
      refine aldI hC hH (7) rfl g6 dX10_runs_32 ?_
      refine lv_aload_n hx hb dX10_runs_33 rfl (lv_at hl 0 rfl) ?_
      refine getO hC hH (0) rfl rfl in_X10_runs_X10 14 (by decide) (index := 54) (List.mem_of_getElem? (i := 3) rfl) rfl dX10_runs_34 ?_
      refine lv_icmp_ne (tgt := 43) hx hb dX10_runs_37 (by decide) (fun c7 => ?_) (fun c7 => ?_)
      · replace hf := it_f c7 hf
        refine lv_aload_n hx hb dX10_runs_43 rfl (lv_at hl 0 rfl) ?_
        refine lv_iload_n hx hb dX10_runs_44 rfl (lv_at hl 1 rfl) ?_
        obtain ⟨r8, hr8, hf⟩ := ob hf
        refine callV_v [.int a1] [] hC hH (c_X10_notes l G A N S1 a1 _ hr8) (cwV 1 hts gX10_runs_X10_notes rfl rfl rfl (by decide +kernel) ⟨Nat.le_of_ble_eq_true rfl, Nat.le_of_ble_eq_true rfl⟩) (recvW hC hH (c0 := 0) (ci := 10) rfl rfl) rfl hl.1 rfl (Nat.le_of_ble_eq_true rfl) dX10_runs_45 (fun H locs hH => ?_)
        refine lv_aload_n hx hb dX10_runs_48 rfl (lv_at hl 0 rfl) ?_
        refine getO hC hH (0) rfl rfl in_X10_runs_X10 18 (by decide) (index := 28) (List.mem_of_getElem? (i := 2) rfl) rfl dX10_runs_49 ?_
        refine lv_iconst (v := 3) hx hb dX10_runs_52 (by decide) ?_
        refine lv_iload_n hx hb dX10_runs_53 rfl (lv_at hl 1 rfl) ?_
        refine lv_imul hx hb dX10_runs_54 ?_
        obtain ⟨g9, hf⟩ := gd hf
        refine aldI hC hH (7) rfl g9 dX10_runs_55 ?_
        refine lv_aload_n hx hb dX10_runs_56 rfl (lv_at hl 0 rfl) ?_
        refine getO hC hH (0) rfl rfl in_X10_runs_X10 11 (by decide) (index := 19) (List.mem_of_getElem? (i := 4) rfl) rfl dX10_runs_57 ?_
        refine lv_iload_n hx hb dX10_runs_60 rfl (lv_at hl 1 rfl) ?_
        obtain ⟨g10, hf⟩ := gd hf
        refine aldI hC hH (4) rfl g10 dX10_runs_61 ?_
        refine lv_iload_n hx hb dX10_runs_62 rfl (lv_at hl 2 rfl) ?_
        refine lv_imul hx hb dX10_runs_63 ?_
        refine lv_iadd hx hb dX10_runs_64 ?_
        refine lv_topi (fun b11 eb11 => ?_)
        replace hf := bn eb11 hf
        refine lv_istore_n (lv' := [(3, .int b11), (0, .ref (gM G 0)), (1, .int a1), (2, .int a2)]) hx hb dX10_runs_65 rfl hl (by decide) rfl (fun ls hl => ?_)
        refine lv_aload_n hx hb dX10_runs_66 rfl (lv_at hl 1 rfl) ?_
        refine getO hC hH (0) rfl rfl in_X10_runs_X10 18 (by decide) (index := 28) (List.mem_of_getElem? (i := 2) rfl) rfl dX10_runs_67 ?_
        refine lv_iconst (v := 3) hx hb dX10_runs_70 (by decide) ?_
        refine lv_iload_n hx hb dX10_runs_71 rfl (lv_at hl 2 rfl) ?_
        refine lv_imul hx hb dX10_runs_72 ?_
        refine lv_iload_n hx hb dX10_runs_73 rfl (lv_at hl 0 rfl) ?_
        refine lv_aload_n hx hb dX10_runs_74 rfl (lv_at hl 1 rfl) ?_
        refine getO hC hH (0) rfl rfl in_X10_runs_X10 14 (by decide) (index := 54) (List.mem_of_getElem? (i := 3) rfl) rfl dX10_runs_75 ?_
        refine lv_icmp_le (tgt := 88) hx hb dX10_runs_78 (by decide) (fun c12 => ?_) (fun c12 => ?_)
        · replace hf := it_t c12 hf
          refine lv_iload_n hx hb dX10_runs_88 rfl (lv_at hl 0 rfl) ?_
          exact kJ89  r8 ((3 : Int32) * a1) b11 _ _ _ hH (lv_sub hl [1, 2, 3] rfl) hf
        · replace hf := it_f c12 hf
          refine lv_aload_n hx hb dX10_runs_81 rfl (lv_at hl 1 rfl) ?_
          refine getO hC hH (0) rfl rfl in_X10_runs_X10 14 (by decide) (index := 54) (List.mem_of_getElem? (i := 3) rfl) rfl dX10_runs_82 ?_
          refine lv_goto (tgt := 89) hx hb dX10_runs_85 (by decide) ?_
          exact kJ89  r8 ((3 : Int32) * a1) (gI r8 0 14) _ _ _ hH (lv_sub hl [1, 2, 3] rfl) hf
      · replace hf := it_t c7 hf
        refine lv_bipush (v := -2) hx hb dX10_runs_40 (by decide) ?_
        exact fin (-2 : Int32) S1 _ _ _ _ (congrArg Prod.fst (Option.some.inj hf)) (congrArg Prod.snd (Option.some.inj hf)) hH dX10_runs_42
    · replace hf := it_t c5 hf
      refine lv_iconst (v := -1) hx hb dX10_runs_23 (by decide) ?_
      exact fin (-1 : Int32) S1 _ _ _ _ (congrArg Prod.fst (Option.some.inj hf)) (congrArg Prod.snd (Option.some.inj hf)) hH dX10_runs_24
theorem in_X10_toss_X10 : ∀ w ∈ wsX100, w ∈ wsX10_toss := fun w h => List.mem_cons_of_mem _ (List.mem_append_right _ h)
set_option maxRecDepth 100000 in
set_option maxHeartbeats 4000000 in
theorem c_X10_toss (l : Launch) (G : Gt) (A : Nat → Prop) (N : Nat) (S : St)  (a1 : Int32) (a2 : Int32) (a3 : Int32) (a4 : Int32) (a5 : Int32) (q : Int32 × St) (hf : f_X10_toss N S a1 a2 a3 a4 a5 = some q) : Met l yX10_toss wsX10_toss ({ frames := 2, cells := 0, slots := 0, locals := 45 } : Room) (va_Pc [.ref (gM G 0), .int a1, .int a2, .int a3, .int a4, .int a5] (PK G A (MW G S))) (va_Qi (fun (r2 : Int32) S2 => r2 = q.1 ∧ S2 = q.2) (fun S2 : St => PK G A (MW G S2)) A) 0 0 A := by
  refine mstart_i (Wd := MW G) (cc := cX10_toss) (maxL := 9) (by decide) rfl (Nat.le_of_ble_eq_true rfl) (fun p e s m below meth c Qm ls hC hH hl fin => ?_)
  obtain ⟨hx, hb, hml, hown, hts⟩ := id hC.1
  have hl : lv_has ls 9 [(0, .ref (gM G 0)), (1, .int a1), (2, .int a2), (3, .int a3), (4, .int a4), (5, .int a5)] := hl
  have kJ218 : ∀ (S : St) (x7 : Int32) (x8 : Int32) (t1 : Int32) (t2 : Int32) (t3 : Int32) (H : Heap) (locs : List Loc) (ls : Array Slot), HW G A (MW G S) s H locs → lv_has ls 9 [(7, .int x7), (8, .int x8)] → f_X10_toss_218 N S x7 x8 t1 t2 t3 = some q → W p l e ({ frames := 2, cells := 0, slots := 0, locals := 45 } : Room) s m [.ref (gM G 0), .int a1, .int a2, .int a3, .int a4, .int a5].toArray below meth c H locs 0 0 Qm (F0 m 218 ls [.int t3, .int t2, .int t1, .ref (gM G 7)]) := by
    intro S x7 x8 t1 t2 t3 H locs ls hH hl hf
    rw [f_X10_toss_218] at hf
    refine lv_iadd hx hb dX10_toss_218 ?_
    obtain ⟨g26, hf⟩ := gd hf
    refine astI hC hH (7) rfl g26 mt_7 dX10_toss_219 (fun H locs hH => ?_)
    obtain ⟨S27, eS27⟩ : ∃ Z : St, Z = sA S 7 (upd (gA S 7) t1.toNatClampNeg (t2 + t3)) := ⟨_, rfl⟩
    rw [← eS27] at hH
    replace hf := bn eS27 hf
    refine lv_iload hx hb dX10_toss_220 (lv_at hl 1 rfl) ?_
    refine lv_if_eq (tgt := 229) hx hb dX10_toss_222 (by decide) (fun c28 => ?_) (fun c28 => ?_)
    · replace hf := it_t c28 hf
      refine lv_iload hx hb dX10_toss_229 (lv_at hl 0 rfl) ?_
      refine lv_if_eq (tgt := 238) hx hb dX10_toss_231 (by decide) (fun c29 => ?_) (fun c29 => ?_)
      · replace hf := it_t c29 hf
        refine lv_iconst (v := 0) hx hb dX10_toss_238 (by decide) ?_
        exact fin (0 : Int32) S27 _ _ _ _ (congrArg Prod.fst (Option.some.inj hf)) (congrArg Prod.snd (Option.some.inj hf)) hH dX10_toss_239
      · replace hf := it_f c29 hf
        refine lv_iconst (v := 1) hx hb dX10_toss_234 (by decide) ?_
        refine lv_goto (tgt := 239) hx hb dX10_toss_235 (by decide) ?_
        exact fin (1 : Int32) S27 _ _ _ _ (congrArg Prod.fst (Option.some.inj hf)) (congrArg Prod.snd (Option.some.inj hf)) hH dX10_toss_239
    · replace hf := it_f c28 hf
      refine lv_iconst (v := 2) hx hb dX10_toss_225 (by decide) ?_
      refine lv_goto (tgt := 239) hx hb dX10_toss_226 (by decide) ?_
      exact fin (2 : Int32) S27 _ _ _ _ (congrArg Prod.fst (Option.some.inj hf)) (congrArg Prod.snd (Option.some.inj hf)) hH dX10_toss_239
  have kJ194 : ∀ (S : St) (x7 : Int32) (x8 : Int32) (t1 : Int32) (t2 : Int32) (t3 : Int32) (t4 : Int32) (H : Heap) (locs : List Loc) (ls : Array Slot), HW G A (MW G S) s H locs → lv_has ls 9 [(0, .ref (gM G 0)), (1, .int a1), (7, .int x7), (8, .int x8)] → f_X10_toss_194 N a1 S x7 x8 t1 t2 t3 t4 = some q → W p l e ({ frames := 2, cells := 0, slots := 0, locals := 45 } : Room) s m [.ref (gM G 0), .int a1, .int a2, .int a3, .int a4, .int a5].toArray below meth c H locs 0 0 Qm (F0 m 194 ls [.int t4, .int t3, .int t2, .int t1, .ref (gM G 7)]) := by
    intro S x7 x8 t1 t2 t3 t4 H locs ls hH hl hf
    rw [f_X10_toss_194] at hf
    refine lv_iadd hx hb dX10_toss_194 ?_
    refine lv_iadd hx hb dX10_toss_195 ?_
    obtain ⟨g22, hf⟩ := gd hf
    refine astI hC hH (7) rfl g22 mt_7 dX10_toss_196 (fun H locs hH => ?_)
    obtain ⟨S23, eS23⟩ : ∃ Z : St, Z = sA S 7 (upd (gA S 7) t1.toNatClampNeg (t2 + (t3 + t4))) := ⟨_, rfl⟩
    rw [← eS23] at hH
    replace hf := bn eS23 hf
    refine lv_aload_n hx hb dX10_toss_197 rfl (lv_at hl 0 rfl) ?_
    refine getO hC hH (0) rfl rfl in_X10_toss_X10 18 (by decide) (index := 28) (List.mem_of_getElem? (i := 2) rfl) rfl dX10_toss_198 ?_
    refine lv_iconst (v := 3) hx hb dX10_toss_201 (by decide) ?_
    refine lv_iload_n hx hb dX10_toss_202 rfl (lv_at hl 1 rfl) ?_
    refine lv_imul hx hb dX10_toss_203 ?_
    refine lv_iconst (v := 2) hx hb dX10_toss_204 (by decide) ?_
    refine lv_iadd hx hb dX10_toss_205 ?_
    refine lv_dup2_11 hx hb dX10_toss_206 rfl rfl ?_
    obtain ⟨g24, hf⟩ := gd hf
    refine aldI hC hH (7) rfl g24 dX10_toss_207 ?_
    refine lv_iload hx hb dX10_toss_208 (lv_at hl 3 rfl) ?_
    refine lv_if_eq (tgt := 217) hx hb dX10_toss_210 (by decide) (fun c25 => ?_) (fun c25 => ?_)
    · replace hf := it_t c25 hf
      refine lv_iconst (v := 0) hx hb dX10_toss_217 (by decide) ?_
      exact kJ218  S23 x7 x8 (((3 : Int32) * a1) + (2 : Int32)) (gA S23 7 (((3 : Int32) * a1) + (2 : Int32)).toNatClampNeg) (0 : Int32) _ _ _ hH (lv_sub hl [2, 3] rfl) hf
    · replace hf := it_f c25 hf
      refine lv_iconst (v := 1) hx hb dX10_toss_213 (by decide) ?_
      refine lv_goto (tgt := 218) hx hb dX10_toss_214 (by decide) ?_
      exact kJ218  S23 x7 x8 (((3 : Int32) * a1) + (2 : Int32)) (gA S23 7 (((3 : Int32) * a1) + (2 : Int32)).toNatClampNeg) (1 : Int32) _ _ _ hH (lv_sub hl [2, 3] rfl) hf
  have kJ150 : ∀ (S : St) (x7 : Int32) (t0 : Int32) (H : Heap) (locs : List Loc) (ls : Array Slot), HW G A (MW G S) s H locs → lv_has ls 9 [(0, .ref (gM G 0)), (1, .int a1), (2, .int a2), (7, .int x7)] → f_X10_toss_150 N a1 a2 S x7 t0 = some q → W p l e ({ frames := 2, cells := 0, slots := 0, locals := 45 } : Room) s m [.ref (gM G 0), .int a1, .int a2, .int a3, .int a4, .int a5].toArray below meth c H locs 0 0 Qm (F0 m 150 ls [.int t0]) := by
    intro S x7 t0 H locs ls hH hl hf
    rw [f_X10_toss_150] at hf
    refine lv_istore (lv' := [(8, .int t0), (0, .ref (gM G 0)), (1, .int a1), (2, .int a2), (7, .int x7)]) hx hb dX10_toss_150 hl (by decide) rfl (fun ls hl => ?_)
    refine lv_aload_n hx hb dX10_toss_152 rfl (lv_at hl 1 rfl) ?_
    refine getO hC hH (0) rfl rfl in_X10_toss_X10 18 (by decide) (index := 28) (List.mem_of_getElem? (i := 2) rfl) rfl dX10_toss_153 ?_
    refine lv_iconst (v := 3) hx hb dX10_toss_156 (by decide) ?_
    refine lv_iload_n hx hb dX10_toss_157 rfl (lv_at hl 2 rfl) ?_
    refine lv_imul hx hb dX10_toss_158 ?_
    refine lv_aload_n hx hb dX10_toss_159 rfl (lv_at hl 1 rfl) ?_
    refine getO hC hH (0) rfl rfl in_X10_toss_X10 26 (by decide) (index := 156) (List.mem_of_getElem? (i := 8) rfl) rfl dX10_toss_160 ?_
    obtain ⟨g17, hf⟩ := gd hf
    refine astI hC hH (7) rfl g17 mt_7 dX10_toss_163 (fun H locs hH => ?_)
    obtain ⟨S18, eS18⟩ : ∃ Z : St, Z = sA S 7 (upd (gA S 7) ((3 : Int32) * a1).toNatClampNeg (gI S 0 26)) := ⟨_, rfl⟩
    rw [← eS18] at hH
    replace hf := bn eS18 hf
    refine lv_aload_n hx hb dX10_toss_164 rfl (lv_at hl 1 rfl) ?_
    refine getO hC hH (0) rfl rfl in_X10_toss_X10 18 (by decide) (index := 28) (List.mem_of_getElem? (i := 2) rfl) rfl dX10_toss_165 ?_
    refine lv_iconst (v := 3) hx hb dX10_toss_168 (by decide) ?_
    refine lv_iload_n hx hb dX10_toss_169 rfl (lv_at hl 2 rfl) ?_
    refine lv_imul hx hb dX10_toss_170 ?_
    refine lv_iconst (v := 1) hx hb dX10_toss_171 (by decide) ?_
    refine lv_iadd hx hb dX10_toss_172 ?_
    refine lv_dup2_11 hx hb dX10_toss_173 rfl rfl ?_
    obtain ⟨g19, hf⟩ := gd hf
    refine aldI hC hH (7) rfl g19 dX10_toss_174 ?_
    refine lv_iconst (v := 2) hx hb dX10_toss_175 (by decide) ?_
    refine lv_iload_n hx hb dX10_toss_176 rfl (lv_at hl 3 rfl) ?_
    refine lv_imul hx hb dX10_toss_177 ?_
    refine lv_iload hx hb dX10_toss_178 (lv_at hl 4 rfl) ?_
    refine lv_if_eq (tgt := 187) hx hb dX10_toss_180 (by decide) (fun c20 => ?_) (fun c20 => ?_)
    · replace hf := it_t c20 hf
      refine lv_aload_n hx hb dX10_toss_187 rfl (lv_at hl 1 rfl) ?_
      refine getO hC hH (0) rfl rfl in_X10_toss_X10 13 (by decide) (index := 25) (List.mem_of_getElem? (i := 7) rfl) rfl dX10_toss_188 ?_
      refine lv_bipush (v := 6) hx hb dX10_toss_191 (by decide) ?_
      obtain ⟨g21, hf⟩ := gd hf
      refine aldI hC hH (6) rfl g21 dX10_toss_193 ?_
      exact kJ194  S18 x7 t0 (((3 : Int32) * a1) + (1 : Int32)) (gA S18 7 (((3 : Int32) * a1) + (1 : Int32)).toNatClampNeg) ((2 : Int32) * a2) (gA S18 6 (6 : Int32).toNatClampNeg) _ _ _ hH (lv_sub hl [1, 2, 4, 0] rfl) hf
    · replace hf := it_f c20 hf
      refine lv_iconst (v := 0) hx hb dX10_toss_183 (by decide) ?_
      refine lv_goto (tgt := 194) hx hb dX10_toss_184 (by decide) ?_
      exact kJ194  S18 x7 t0 (((3 : Int32) * a1) + (1 : Int32)) (gA S18 7 (((3 : Int32) * a1) + (1 : Int32)).toNatClampNeg) ((2 : Int32) * a2) (0 : Int32) _ _ _ hH (lv_sub hl [1, 2, 4, 0] rfl) hf
  have kJ149 : ∀ (S : St) (x7 : Int32) (H : Heap) (locs : List Loc) (ls : Array Slot), HW G A (MW G S) s H locs → lv_has ls 9 [(0, .ref (gM G 0)), (1, .int a1), (2, .int a2), (7, .int x7)] → f_X10_toss_149 N a1 a2 S x7 = some q → W p l e ({ frames := 2, cells := 0, slots := 0, locals := 45 } : Room) s m [.ref (gM G 0), .int a1, .int a2, .int a3, .int a4, .int a5].toArray below meth c H locs 0 0 Qm (F0 m 149 ls []) := by
    intro S x7 H locs ls hH hl hf
    rw [f_X10_toss_149] at hf
    refine lv_iconst (v := 0) hx hb dX10_toss_149 (by decide) ?_
    exact kJ150  S x7 (0 : Int32) _ _ _ hH (lv_sub hl [0, 1, 2, 3] rfl) hf
  have kJ118 : ∀ (S : St) (t0 : Int32) (H : Heap) (locs : List Loc) (ls : Array Slot), HW G A (MW G S) s H locs → lv_has ls 9 [(0, .ref (gM G 0)), (1, .int a1), (2, .int a2)] → f_X10_toss_118 N a1 a2 S t0 = some q → W p l e ({ frames := 2, cells := 0, slots := 0, locals := 45 } : Room) s m [.ref (gM G 0), .int a1, .int a2, .int a3, .int a4, .int a5].toArray below meth c H locs 0 0 Qm (F0 m 118 ls [.int t0]) := by
    intro S t0 H locs ls hH hl hf
    rw [f_X10_toss_118] at hf
    refine lv_istore (lv' := [(7, .int t0), (0, .ref (gM G 0)), (1, .int a1), (2, .int a2)]) hx hb dX10_toss_118 hl (by decide) rfl (fun ls hl => ?_)
    refine lv_iload hx hb dX10_toss_120 (lv_at hl 0 rfl) ?_
    refine lv_if_eq (tgt := 149) hx hb dX10_toss_122 (by decide) (fun c16 => ?_) (fun c16 => ?_)
    · replace hf := it_t c16 hf
      exact kJ149  S t0 _ _ _ hH (lv_sub hl [1, 2, 3, 0] rfl) hf
    · replace hf := it_f c16 hf
      refine lv_aload_n hx hb dX10_toss_125 rfl (lv_at hl 1 rfl) ?_
      refine getO hC hH (0) rfl rfl in_X10_toss_X10 27 (by decide) (index := 159) (List.mem_of_getElem? (i := 6) rfl) rfl dX10_toss_126 ?_
      refine lv_iconst (v := 4) hx hb dX10_toss_129 (by decide) ?_
      refine lv_irem hx hb dX10_toss_130 (by decide) ?_
      refine lv_iconst (v := 2) hx hb dX10_toss_131 (by decide) ?_
      refine lv_icmp_ne (tgt := 149) hx hb dX10_toss_132 (by decide) (fun c30 => ?_) (fun c30 => ?_)
      · replace hf := it_f c30 hf
        exact kJ149  S t0 _ _ _ hH (lv_sub hl [1, 2, 3, 0] rfl) hf
      · replace hf := it_t c30 hf
        refine lv_iload_n hx hb dX10_toss_135 rfl (lv_at hl 3 rfl) ?_
        refine lv_aload_n hx hb dX10_toss_136 rfl (lv_at hl 1 rfl) ?_
        refine getO hC hH (0) rfl rfl in_X10_toss_X10 13 (by decide) (index := 25) (List.mem_of_getElem? (i := 7) rfl) rfl dX10_toss_137 ?_
        refine lv_iconst (v := 4) hx hb dX10_toss_140 (by decide) ?_
        obtain ⟨g31, hf⟩ := gd hf
        refine aldI hC hH (6) rfl g31 dX10_toss_141 ?_
        refine lv_icmp_lt (tgt := 149) hx hb dX10_toss_142 (by decide) (fun c32 => ?_) (fun c32 => ?_)
        · replace hf := it_t c32 hf
          exact kJ149  S t0 _ _ _ hH (lv_sub hl [1, 2, 3, 0] rfl) hf
        · replace hf := it_f c32 hf
          refine lv_iconst (v := 1) hx hb dX10_toss_145 (by decide) ?_
          refine lv_goto (tgt := 150) hx hb dX10_toss_146 (by decide) ?_
          exact kJ150  S t0 (1 : Int32) _ _ _ hH (lv_sub hl [1, 2, 3, 0] rfl) hf
  have hf := hf
  rw [f_X10_toss] at hf
  refine lv_aload_n hx hb dX10_toss_0 rfl (lv_at hl 0 rfl) ?_
  refine lv_iconst (v := 0) hx hb dX10_toss_1 (by decide) ?_
  refine putO hC hH (0) rfl rfl in_X10_toss_X10 tyX10 tyX10_ok nmX10 0 (by decide) (index := 58) (List.mem_of_getElem? (i := 1) rfl) rfl rfl rfl (Nat.le_of_ble_eq_true rfl) ms_0_0 dX10_toss_2 (fun H locs hH => ?_)
  obtain ⟨S1, eS1⟩ : ∃ Z : St, Z = sI S 0 0 (0 : Int32) := ⟨_, rfl⟩
  rw [← eS1] at hH
  replace hf := bn eS1 hf
  refine lv_aload_n hx hb dX10_toss_5 rfl (lv_at hl 0 rfl) ?_
  refine lv_iload_n hx hb dX10_toss_6 rfl (lv_at hl 1 rfl) ?_
  obtain ⟨r2, hr2, hf⟩ := ob hf
  refine callV_i [.int a1] [] hC hH (c_X10_isRunner l G A S1 a1 _ hr2) (cwV 1 hts gX10_toss_X10_isRunner rfl rfl rfl (by decide +kernel) ⟨Nat.le_of_ble_eq_true rfl, Nat.le_of_ble_eq_true rfl⟩) (recvW hC hH (c0 := 0) (ci := 10) rfl rfl) rfl hl.1 rfl (Nat.le_of_ble_eq_true rfl) dX10_toss_7 (fun H locs hH => ?_)
  refine lv_if_eq (tgt := 25) hx hb dX10_toss_10 (by decide) (fun c3 => ?_) (fun c3 => ?_)
  · replace hf := it_t c3 hf
    refine lv_iconst (v := -1) hx hb dX10_toss_25 (by decide) ?_
    exact fin (-1 : Int32) S1 _ _ _ _ (congrArg Prod.fst (Option.some.inj hf)) (congrArg Prod.snd (Option.some.inj hf)) hH dX10_toss_26
  · replace hf := it_f c3 hf
    refine lv_iload_n hx hb dX10_toss_13 rfl (lv_at hl 2 rfl) ?_
    refine lv_iload_n hx hb dX10_toss_14 rfl (lv_at hl 3 rfl) ?_
    refine lv_iload hx hb dX10_toss_15 (lv_at hl 4 rfl) ?_
    refine lv_iload hx hb dX10_toss_17 (lv_at hl 5 rfl) ?_
    obtain ⟨r4, hr4, hf⟩ := ob hf
    refine callS_i [.int a2, .int a3, .int a4, .int a5] [] hC hH (c_X10_isToss l G A S1 a2 a3 a4 a5 _ hr4) (va_cwS 4 hts gX10_toss_X10_isToss rfl rfl rfl (by decide +kernel) ⟨Nat.le_of_ble_eq_true rfl, Nat.le_of_ble_eq_true rfl⟩) rfl hl.1 rfl (Nat.le_of_ble_eq_true rfl) dX10_toss_19 (fun H locs hH => ?_)
    refine lv_if_ne (tgt := 27) hx hb dX10_toss_22 (by decide) (fun c5 => ?_) (fun c5 => ?_)
    · replace hf := it_f c5 hf
      refine lv_aload_n hx hb dX10_toss_27 rfl (lv_at hl 0 rfl) ?_
      refine getO hC hH (0) rfl rfl in_X10_toss_X10 18 (by decide) (index := 28) (List.mem_of_getElem? (i := 2) rfl) rfl dX10_toss_28 ?_
      refine lv_iconst (v := 3) hx hb dX10_toss_31 (by decide) ?_
      refine lv_iload_n hx hb dX10_toss_32 rfl (lv_at hl 1 rfl) ?_
      refine lv_imul hx hb dX10_toss_33 ?_
      obtain ⟨g6, hf⟩ := gd hf
      refine aldI hC hH (7) rfl g6 dX10_toss_34 ?_
      refine lv_aload_n hx hb dX10_toss_35 rfl (lv_at hl 0 rfl) ?_
      refine getO hC hH (0) rfl rfl in_X10_toss_X10 14 (by decide) (index := 54) (List.mem_of_getElem? (i := 3) rfl) rfl dX10_toss_36 ?_
      refine lv_icmp_ne (tgt := 45) hx hb dX10_toss_39 (by decide) (fun c7 => ?_) (fun c7 => ?_)
      · replace hf := it_f c7 hf
        refine lv_aload_n hx hb dX10_toss_45 rfl (lv_at hl 0 rfl) ?_
        refine lv_iload_n hx hb dX10_toss_46 rfl (lv_at hl 1 rfl) ?_
        obtain ⟨r8, hr8, hf⟩ := ob hf
        refine callV_v [.int a1] [] hC hH (c_X10_notes l G A N S1 a1 _ hr8) (cwV 1 hts gX10_toss_X10_notes rfl rfl rfl (by decide +kernel) ⟨Nat.le_of_ble_eq_true rfl, Nat.le_of_ble_eq_true rfl⟩) (recvW hC hH (c0 := 0) (ci := 10) rfl rfl) rfl hl.1 rfl (Nat.le_of_ble_eq_true rfl) dX10_toss_47 (fun H locs hH => ?_)
        refine lv_aload_n hx hb dX10_toss_50 rfl (lv_at hl 0 rfl) ?_
        refine lv_iload_n hx hb dX10_toss_51 rfl (lv_at hl 1 rfl) ?_
        refine lv_aload_n hx hb dX10_toss_52 rfl (lv_at hl 0 rfl) ?_
        refine getO hC hH (0) rfl rfl in_X10_toss_X10 18 (by decide) (index := 28) (List.mem_of_getElem? (i := 2) rfl) rfl dX10_toss_53 ?_
        refine lv_iconst (v := 3) hx hb dX10_toss_56 (by decide) ?_
        refine lv_iload_n hx hb dX10_toss_57 rfl (lv_at hl 1 rfl) ?_
        refine lv_imul hx hb dX10_toss_58 ?_
        obtain ⟨g9, hf⟩ := gd hf
        refine aldI hC hH (7) rfl g9 dX10_toss_59 ?_
        refine lv_iload_n hx hb dX10_toss_60 rfl (lv_at hl 2 rfl) ?_
        refine lv_iload_n hx hb dX10_toss_61 rfl (lv_at hl 3 rfl) ?_
        refine lv_iload hx hb dX10_toss_62 (lv_at hl 4 rfl) ?_
        refine lv_iload hx hb dX10_toss_64 (lv_at hl 5 rfl) ?_
        obtain ⟨r10, hr10, hf⟩ := ob hf
        refine callV_i [.int a1, .int (gA r8 7 ((3 : Int32) * a1).toNatClampNeg), .int a2, .int a3, .int a4, .int a5] [] hC hH (c_X10_reckons l G A r8 a1 (gA r8 7 ((3 : Int32) * a1).toNatClampNeg) a2 a3 a4 a5 _ hr10) (cwV 6 hts gX10_toss_X10_reckons rfl rfl rfl (by decide +kernel) ⟨Nat.le_of_ble_eq_true rfl, Nat.le_of_ble_eq_true rfl⟩) (recvW hC hH (c0 := 0) (ci := 10) rfl rfl) rfl hl.1 rfl (Nat.le_of_ble_eq_true rfl) dX10_toss_66 (fun H locs hH => ?_)
        refine lv_istore (lv' := [(6, .int r10.1), (0, .ref (gM G 0)), (1, .int a1), (2, .int a2), (3, .int a3), (4, .int a4), (5, .int a5)]) hx hb dX10_toss_69 hl (by decide) rfl (fun ls hl => ?_)
        refine lv_aload_n hx hb dX10_toss_71 rfl (lv_at hl 1 rfl) ?_
        refine getO hC hH (0) rfl rfl in_X10_toss_X10 18 (by decide) (index := 28) (List.mem_of_getElem? (i := 2) rfl) rfl dX10_toss_72 ?_
        refine lv_bipush (v := 9) hx hb dX10_toss_75 (by decide) ?_
        refine lv_aload_n hx hb dX10_toss_77 rfl (lv_at hl 1 rfl) ?_
        refine getO hC hH (0) rfl rfl in_X10_toss_X10 18 (by decide) (index := 28) (List.mem_of_getElem? (i := 2) rfl) rfl dX10_toss_78 ?_
        refine lv_bipush (v := 9) hx hb dX10_toss_81 (by decide) ?_
        obtain ⟨g11, hf⟩ := gd hf
        refine aldI hC hH (7) rfl g11 dX10_toss_83 ?_
        refine lv_ldc (v := 1103515245) hx hb hown (hts (.constant RX10 182 (1103515245)) (List.mem_of_getElem? (i := 4) rfl)) dX10_toss_84 ?_
        refine lv_imul hx hb dX10_toss_86 ?_
        refine lv_sipush (v := 12345) hx hb dX10_toss_87 (by decide) ?_
        refine lv_iadd hx hb dX10_toss_90 ?_
        obtain ⟨g12, hf⟩ := gd hf
        refine astI hC hH (7) rfl g12 mt_7 dX10_toss_91 (fun H locs hH => ?_)
        obtain ⟨S13, eS13⟩ : ∃ Z : St, Z = sA r10.2 7 (upd (gA r10.2 7) (9 : Int32).toNatClampNeg (((gA r10.2 7 (9 : Int32).toNatClampNeg) * (1103515245 : Int32)) + (12345 : Int32))) := ⟨_, rfl⟩
        rw [← eS13] at hH
        replace hf := bn eS13 hf
        refine lv_aload_n hx hb dX10_toss_92 rfl (lv_at hl 1 rfl) ?_
        refine getO hC hH (0) rfl rfl in_X10_toss_X10 18 (by decide) (index := 28) (List.mem_of_getElem? (i := 2) rfl) rfl dX10_toss_93 ?_
        refine lv_bipush (v := 9) hx hb dX10_toss_96 (by decide) ?_
        obtain ⟨g14, hf⟩ := gd hf
        refine aldI hC hH (7) rfl g14 dX10_toss_98 ?_
        refine lv_bipush (v := 16) hx hb dX10_toss_99 (by decide) ?_
        refine lv_ishr hx hb dX10_toss_101 ?_
        refine lv_ldc (v := 65535) hx hb hown (hts (.constant RX10 183 (65535)) (List.mem_of_getElem? (i := 5) rfl)) dX10_toss_102 ?_
        refine lv_iand hx hb dX10_toss_104 ?_
        refine lv_bipush (v := 10) hx hb dX10_toss_105 (by decide) ?_
        refine lv_irem hx hb dX10_toss_107 (by decide) ?_
        refine lv_iload hx hb dX10_toss_108 (lv_at hl 0 rfl) ?_
        refine lv_icmp_ge (tgt := 117) hx hb dX10_toss_110 (by decide) (fun c15 => ?_) (fun c15 => ?_)
        · replace hf := it_t c15 hf
          refine lv_iconst (v := 0) hx hb dX10_toss_117 (by decide) ?_
          exact kJ118  S13 (0 : Int32) _ _ _ hH (lv_sub hl [1, 2, 3] rfl) hf
        · replace hf := it_f c15 hf
          refine lv_iconst (v := 1) hx hb dX10_toss_113 (by decide) ?_
          refine lv_goto (tgt := 118) hx hb dX10_toss_114 (by decide) ?_
          exact kJ118  S13 (1 : Int32) _ _ _ hH (lv_sub hl [1, 2, 3] rfl) hf
      · replace hf := it_t c7 hf
        refine lv_bipush (v := -2) hx hb dX10_toss_42 (by decide) ?_
        exact fin (-2 : Int32) S1 _ _ _ _ (congrArg Prod.fst (Option.some.inj hf)) (congrArg Prod.snd (Option.some.inj hf)) hH dX10_toss_44
    · replace hf := it_t c5 hf
      refine lv_iconst (v := -1) hx hb dX10_toss_25 (by decide) ?_
      exact fin (-1 : Int32) S1 _ _ _ _ (congrArg Prod.fst (Option.some.inj hf)) (congrArg Prod.snd (Option.some.inj hf)) hH dX10_toss_26
theorem in_X10_undo_X10 : ∀ w ∈ wsX100, w ∈ wsX10_undo := fun w h => List.mem_cons_of_mem _ (List.mem_append_right _ h)
set_option maxRecDepth 100000 in
set_option maxHeartbeats 4000000 in
theorem c_X10_undo (l : Launch) (G : Gt) (A : Nat → Prop) (N : Nat) (S : St)   (q : Int32 × St) (hf : f_X10_undo N S = some q) : Met l yX10_undo wsX10_undo ({ frames := 0, cells := 0, slots := 0, locals := 0 } : Room) (va_Pc [.ref (gM G 0)] (PK G A (MW G S))) (va_Qi (fun (r2 : Int32) S2 => r2 = q.1 ∧ S2 = q.2) (fun S2 : St => PK G A (MW G S2)) A) 0 0 A := by
  refine mstart_i (Wd := MW G) (cc := cX10_undo) (maxL := 3) (by decide) rfl (Nat.le_of_ble_eq_true rfl) (fun p e s m below meth c Qm ls hC hH hl fin => ?_)
  obtain ⟨hx, hb, hml, hown, hts⟩ := id hC.1
  have hl : lv_has ls 3 [(0, .ref (gM G 0))] := hl
  have kL34 : ∀ (n : Nat), ∀ (S : St) (x1 : Int32) (x2 : Int32) (H : Heap) (locs : List Loc) (ls : Array Slot), HW G A (MW G S) s H locs → lv_has ls 3 [(0, .ref (gM G 0)), (1, .int x1), (2, .int x2)] → g_X10_undo_34 N n S x1 x2 = some q → W p l e ({ frames := 0, cells := 0, slots := 0, locals := 0 } : Room) s m [.ref (gM G 0)].toArray below meth c H locs 0 0 Qm (F0 m 34 ls []) := by
    intro n
    induction n with
    | zero => intro S x1 x2 H locs ls hH hl hf; exact absurd hf.symm (Option.some_ne_none q)
    | succ n ih =>
      intro S x1 x2 H locs ls hH hl hf
      have hrec := ih
      have hf : s_X10_undo_34 N (g_X10_undo_34 N n) S x1 x2 = some q := hf
      rw [s_X10_undo_34] at hf
      refine lv_iload_n hx hb dX10_undo_34 rfl (lv_at hl 2 rfl) ?_
      refine lv_iconst (v := 3) hx hb dX10_undo_35 (by decide) ?_
      refine lv_icmp_ge (tgt := 70) hx hb dX10_undo_36 (by decide) (fun c5 => ?_) (fun c5 => ?_)
      · replace hf := it_t c5 hf
        refine lv_aload_n hx hb dX10_undo_70 rfl (lv_at hl 0 rfl) ?_
        refine getO hC hH (0) rfl rfl in_X10_undo_X10 22 (by decide) (index := 138) (List.mem_of_getElem? (i := 2) rfl) rfl dX10_undo_71 ?_
        exact fin (gI S 0 22) S _ _ _ _ (congrArg Prod.fst (Option.some.inj hf)) (congrArg Prod.snd (Option.some.inj hf)) hH dX10_undo_74
      · replace hf := it_f c5 hf
        refine lv_aload_n hx hb dX10_undo_39 rfl (lv_at hl 0 rfl) ?_
        refine getO hC hH (0) rfl rfl in_X10_undo_X10 18 (by decide) (index := 28) (List.mem_of_getElem? (i := 3) rfl) rfl dX10_undo_40 ?_
        refine lv_iconst (v := 3) hx hb dX10_undo_43 (by decide) ?_
        refine lv_aload_n hx hb dX10_undo_44 rfl (lv_at hl 0 rfl) ?_
        refine getO hC hH (0) rfl rfl in_X10_undo_X10 21 (by decide) (index := 38) (List.mem_of_getElem? (i := 4) rfl) rfl dX10_undo_45 ?_
        refine lv_iload_n hx hb dX10_undo_48 rfl (lv_at hl 1 rfl) ?_
        obtain ⟨g6, hf⟩ := gd hf
        refine aldI hC hH (10) rfl g6 dX10_undo_49 ?_
        refine lv_imul hx hb dX10_undo_50 ?_
        refine lv_iload_n hx hb dX10_undo_51 rfl (lv_at hl 2 rfl) ?_
        refine lv_iadd hx hb dX10_undo_52 ?_
        refine lv_aload_n hx hb dX10_undo_53 rfl (lv_at hl 0 rfl) ?_
        refine getO hC hH (0) rfl rfl in_X10_undo_X10 21 (by decide) (index := 38) (List.mem_of_getElem? (i := 4) rfl) rfl dX10_undo_54 ?_
        refine lv_iload_n hx hb dX10_undo_57 rfl (lv_at hl 1 rfl) ?_
        refine lv_iconst (v := 1) hx hb dX10_undo_58 (by decide) ?_
        refine lv_iadd hx hb dX10_undo_59 ?_
        refine lv_iload_n hx hb dX10_undo_60 rfl (lv_at hl 2 rfl) ?_
        refine lv_iadd hx hb dX10_undo_61 ?_
        obtain ⟨g7, hf⟩ := gd hf
        refine aldI hC hH (10) rfl g7 dX10_undo_62 ?_
        obtain ⟨g8, hf⟩ := gd hf
        refine astI hC hH (7) rfl g8 mt_7 dX10_undo_63 (fun H locs hH => ?_)
        obtain ⟨S9, eS9⟩ : ∃ Z : St, Z = sA S 7 (upd (gA S 7) (((3 : Int32) * (gA S 10 x1.toNatClampNeg)) + x2).toNatClampNeg (gA S 10 ((x1 + (1 : Int32)) + x2).toNatClampNeg)) := ⟨_, rfl⟩
        rw [← eS9] at hH
        replace hf := bn eS9 hf
        refine lv_iinc (v := x2 + (1 : Int32)) (lv' := [(2, .int (x2 + (1 : Int32))), (0, .ref (gM G 0)), (1, .int x1)]) hx hb dX10_undo_64 hl (k := 2) rfl rfl (by decide) rfl (fun ls hl => ?_)
        refine lv_goto (tgt := 34) hx hb dX10_undo_67 (by decide) ?_
        exact hrec S9 x1 (x2 + (1 : Int32)) _ _ _ hH (lv_sub hl [1, 2, 0] rfl) hf
  have hf := hf
  rw [f_X10_undo] at hf
  refine lv_aload_n hx hb dX10_undo_0 rfl (lv_at hl 0 rfl) ?_
  refine lv_iconst (v := 0) hx hb dX10_undo_1 (by decide) ?_
  refine putO hC hH (0) rfl rfl in_X10_undo_X10 tyX10 tyX10_ok nmX10 0 (by decide) (index := 58) (List.mem_of_getElem? (i := 1) rfl) rfl rfl rfl (Nat.le_of_ble_eq_true rfl) ms_0_0 dX10_undo_2 (fun H locs hH => ?_)
  obtain ⟨S1, eS1⟩ : ∃ Z : St, Z = sI S 0 0 (0 : Int32) := ⟨_, rfl⟩
  rw [← eS1] at hH
  replace hf := bn eS1 hf
  refine lv_aload_n hx hb dX10_undo_5 rfl (lv_at hl 0 rfl) ?_
  refine getO hC hH (0) rfl rfl in_X10_undo_X10 22 (by decide) (index := 138) (List.mem_of_getElem? (i := 2) rfl) rfl dX10_undo_6 ?_
  refine lv_if_ne (tgt := 15) hx hb dX10_undo_9 (by decide) (fun c2 => ?_) (fun c2 => ?_)
  · replace hf := it_f c2 hf
    refine lv_aload_n hx hb dX10_undo_15 rfl (lv_at hl 0 rfl) ?_
    refine lv_dup hx hb dX10_undo_16 rfl ?_
    refine getO hC hH (0) rfl rfl in_X10_undo_X10 22 (by decide) (index := 138) (List.mem_of_getElem? (i := 2) rfl) rfl dX10_undo_17 ?_
    refine lv_iconst (v := 1) hx hb dX10_undo_20 (by decide) ?_
    refine lv_isub hx hb dX10_undo_21 ?_
    refine putO hC hH (0) rfl rfl in_X10_undo_X10 tyX10 tyX10_ok nmX10 22 (by decide) (index := 138) (List.mem_of_getElem? (i := 2) rfl) rfl rfl rfl (Nat.le_of_ble_eq_true rfl) ms_0_22 dX10_undo_22 (fun H locs hH => ?_)
    obtain ⟨S3, eS3⟩ : ∃ Z : St, Z = sI S1 0 22 ((gI S1 0 22) - (1 : Int32)) := ⟨_, rfl⟩
    rw [← eS3] at hH
    replace hf := bn eS3 hf
    refine lv_iconst (v := 4) hx hb dX10_undo_25 (by decide) ?_
    refine lv_aload_n hx hb dX10_undo_26 rfl (lv_at hl 0 rfl) ?_
    refine getO hC hH (0) rfl rfl in_X10_undo_X10 22 (by decide) (index := 138) (List.mem_of_getElem? (i := 2) rfl) rfl dX10_undo_27 ?_
    refine lv_imul hx hb dX10_undo_30 ?_
    refine lv_topi (fun b4 eb4 => ?_)
    replace hf := bn eb4 hf
    refine lv_istore_n (lv' := [(1, .int b4), (0, .ref (gM G 0))]) hx hb dX10_undo_31 rfl hl (by decide) rfl (fun ls hl => ?_)
    refine lv_iconst (v := 0) hx hb dX10_undo_32 (by decide) ?_
    refine lv_istore_n (lv' := [(2, .int (0 : Int32)), (1, .int b4), (0, .ref (gM G 0))]) hx hb dX10_undo_33 rfl hl (by decide) rfl (fun ls hl => ?_)
    refine kL34 N S3 b4 (0 : Int32) _ _ _ hH (lv_sub hl [2, 1, 0] rfl) hf
  · replace hf := it_t c2 hf
    refine lv_bipush (v := -2) hx hb dX10_undo_12 (by decide) ?_
    exact fin (-2 : Int32) S1 _ _ _ _ (congrArg Prod.fst (Option.some.inj hf)) (congrArg Prod.snd (Option.some.inj hf)) hH dX10_undo_14
theorem in_X10_lot_X10 : ∀ w ∈ wsX100, w ∈ wsX10_lot := fun w h => List.mem_cons_of_mem _ (List.mem_append_right _ h)
set_option maxRecDepth 100000 in
set_option maxHeartbeats 4000000 in
theorem c_X10_lot (l : Launch) (G : Gt) (A : Nat → Prop) (S : St)  (a1 : Int32) (q : Int32 × St) (hf : f_X10_lot S a1 = some q) : Met l yX10_lot wsX10_lot ({ frames := 0, cells := 0, slots := 0, locals := 0 } : Room) (va_Pc [.ref (gM G 0), .int a1] (PK G A (MW G S))) (va_Qi (fun (r2 : Int32) S2 => r2 = q.1 ∧ S2 = q.2) (fun S2 : St => PK G A (MW G S2)) A) 0 0 A := by
  refine mstart_i (Wd := MW G) (cc := cX10_lot) (maxL := 3) (by decide) rfl (Nat.le_of_ble_eq_true rfl) (fun p e s m below meth c Qm ls hC hH hl fin => ?_)
  obtain ⟨hx, hb, hml, hown, hts⟩ := id hC.1
  have hl : lv_has ls 3 [(0, .ref (gM G 0)), (1, .int a1)] := hl
  have hf := hf
  rw [f_X10_lot] at hf
  refine lv_aload_n hx hb dX10_lot_0 rfl (lv_at hl 0 rfl) ?_
  refine lv_iconst (v := 0) hx hb dX10_lot_1 (by decide) ?_
  refine putO hC hH (0) rfl rfl in_X10_lot_X10 tyX10 tyX10_ok nmX10 0 (by decide) (index := 58) (List.mem_of_getElem? (i := 1) rfl) rfl rfl rfl (Nat.le_of_ble_eq_true rfl) ms_0_0 dX10_lot_2 (fun H locs hH => ?_)
  obtain ⟨S1, eS1⟩ : ∃ Z : St, Z = sI S 0 0 (0 : Int32) := ⟨_, rfl⟩
  rw [← eS1] at hH
  replace hf := bn eS1 hf
  refine lv_aload_n hx hb dX10_lot_5 rfl (lv_at hl 0 rfl) ?_
  refine getO hC hH (0) rfl rfl in_X10_lot_X10 18 (by decide) (index := 28) (List.mem_of_getElem? (i := 2) rfl) rfl dX10_lot_6 ?_
  refine lv_bipush (v := 9) hx hb dX10_lot_9 (by decide) ?_
  obtain ⟨g2, hf⟩ := gd hf
  refine aldI hC hH (7) rfl g2 dX10_lot_11 ?_
  refine lv_topi (fun b3 eb3 => ?_)
  replace hf := bn eb3 hf
  refine lv_istore_n (lv' := [(2, .int b3), (0, .ref (gM G 0)), (1, .int a1)]) hx hb dX10_lot_12 rfl hl (by decide) rfl (fun ls hl => ?_)
  refine lv_aload_n hx hb dX10_lot_13 rfl (lv_at hl 1 rfl) ?_
  refine getO hC hH (0) rfl rfl in_X10_lot_X10 18 (by decide) (index := 28) (List.mem_of_getElem? (i := 2) rfl) rfl dX10_lot_14 ?_
  refine lv_bipush (v := 9) hx hb dX10_lot_17 (by decide) ?_
  refine lv_iload_n hx hb dX10_lot_19 rfl (lv_at hl 2 rfl) ?_
  obtain ⟨g4, hf⟩ := gd hf
  refine astI hC hH (7) rfl g4 mt_7 dX10_lot_20 (fun H locs hH => ?_)
  obtain ⟨S5, eS5⟩ : ∃ Z : St, Z = sA S1 7 (upd (gA S1 7) (9 : Int32).toNatClampNeg a1) := ⟨_, rfl⟩
  rw [← eS5] at hH
  replace hf := bn eS5 hf
  refine lv_iload_n hx hb dX10_lot_21 rfl (lv_at hl 0 rfl) ?_
  exact fin b3 S5 _ _ _ _ (congrArg Prod.fst (Option.some.inj hf)) (congrArg Prod.snd (Option.some.inj hf)) hH dX10_lot_22
theorem in_X10_home_X10 : ∀ w ∈ wsX100, w ∈ wsX10_home := fun w h => List.mem_cons_of_mem _ (List.mem_append_right _ h)
set_option maxRecDepth 100000 in
set_option maxHeartbeats 4000000 in
theorem c_X10_home (l : Launch) (G : Gt) (A : Nat → Prop) (N : Nat) (S : St)  (a1 : Int32) (q : Int32 × St) (hf : f_X10_home N S a1 = some q) : Met l yX10_home wsX10_home ({ frames := 1, cells := 0, slots := 0, locals := 21 } : Room) (va_Pc [.ref (gM G 0), .int a1] (PK G A (MW G S))) (va_Qi (fun (r2 : Int32) S2 => r2 = q.1 ∧ S2 = q.2) (fun S2 : St => PK G A (MW G S2)) A) 0 0 A := by
  refine mstart_i (Wd := MW G) (cc := cX10_home) (maxL := 5) (by decide) rfl (Nat.le_of_ble_eq_true rfl) (fun p e s m below meth c Qm ls hC hH hl fin => ?_)
  obtain ⟨hx, hb, hml, hown, hts⟩ := id hC.1
  have hl : lv_has ls 5 [(0, .ref (gM G 0)), (1, .int a1)] := hl
  have kL13 : ∀ (k81 : St → Int32 → Int32 → Option (Int32 × St)) (hk81 : ∀ (S : St) (x2 : Int32) (x3 : Int32) (H : Heap) (locs : List Loc) (ls : Array Slot), HW G A (MW G S) s H locs → lv_has ls 5 [(1, .int a1), (2, .int x2), (3, .int x3)] → k81 S x2 x3 = some q → W p l e ({ frames := 1, cells := 0, slots := 0, locals := 21 } : Room) s m [.ref (gM G 0), .int a1].toArray below meth c H locs 0 0 Qm (F0 m 81 ls [])) , ∀ (n : Nat), ∀ (S : St) (x2 : Int32) (x3 : Int32) (x4 : Int32) (H : Heap) (locs : List Loc) (ls : Array Slot), HW G A (MW G S) s H locs → lv_has ls 5 [(0, .ref (gM G 0)), (1, .int a1), (2, .int x2), (3, .int x3), (4, .int x4)] → g_X10_home_13 N a1 k81 n S x2 x3 x4 = some q → W p l e ({ frames := 1, cells := 0, slots := 0, locals := 21 } : Room) s m [.ref (gM G 0), .int a1].toArray below meth c H locs 0 0 Qm (F0 m 13 ls []) := by
    intro k81 hk81 n
    induction n with
    | zero => intro S x2 x3 x4 H locs ls hH hl hf; exact absurd hf.symm (Option.some_ne_none q)
    | succ n ih =>
      intro S x2 x3 x4 H locs ls hH hl hf
      have hrec := ih
      have hf : s_X10_home_13 N a1 k81 (g_X10_home_13 N a1 k81 n) S x2 x3 x4 = some q := hf
      rw [s_X10_home_13] at hf
      refine lv_iload hx hb dX10_home_13 (lv_at hl 4 rfl) ?_
      refine lv_aload_n hx hb dX10_home_15 rfl (lv_at hl 0 rfl) ?_
      refine getO hC hH (0) rfl rfl in_X10_home_X10 15 (by decide) (index := 135) (List.mem_of_getElem? (i := 2) rfl) rfl dX10_home_16 ?_
      refine lv_icmp_ge (tgt := 81) hx hb dX10_home_19 (by decide) (fun c2 => ?_) (fun c2 => ?_)
      · replace hf := it_t c2 hf
        exact hk81 S x2 x3 _ _ _ hH (lv_sub hl [1, 2, 3] rfl) hf
      · replace hf := it_f c2 hf
        refine lv_aload_n hx hb dX10_home_22 rfl (lv_at hl 0 rfl) ?_
        refine lv_iload hx hb dX10_home_23 (lv_at hl 4 rfl) ?_
        obtain ⟨r3, hr3, hf⟩ := ob hf
        refine callV_i [.int x4] [] hC hH (c_X10_isHome l G A S x4 _ hr3) (cwV 1 hts gX10_home_X10_isHome rfl rfl rfl (by decide +kernel) ⟨Nat.le_of_ble_eq_true rfl, Nat.le_of_ble_eq_true rfl⟩) (recvW hC hH (c0 := 0) (ci := 10) rfl rfl) rfl hl.1 rfl (Nat.le_of_ble_eq_true rfl) dX10_home_25 (fun H locs hH => ?_)
        refine lv_if_eq (tgt := 75) hx hb dX10_home_28 (by decide) (fun c4 => ?_) (fun c4 => ?_)
        · replace hf := it_t c4 hf
          refine lv_iinc (v := x4 + (1 : Int32)) (lv' := [(4, .int (x4 + (1 : Int32))), (0, .ref (gM G 0)), (1, .int a1), (2, .int x2), (3, .int x3)]) hx hb dX10_home_75 hl (k := 4) rfl rfl (by decide) rfl (fun ls hl => ?_)
          refine lv_goto (tgt := 13) hx hb dX10_home_78 (by decide) ?_
          exact hrec S x2 x3 (x4 + (1 : Int32)) _ _ _ hH (lv_sub hl [1, 2, 3, 4, 0] rfl) hf
        · replace hf := it_f c4 hf
          refine lv_iload_n hx hb dX10_home_31 rfl (lv_at hl 2 rfl) ?_
          refine lv_iconst (v := 1) hx hb dX10_home_32 (by decide) ?_
          refine lv_iload hx hb dX10_home_33 (lv_at hl 4 rfl) ?_
          refine lv_ishl hx hb dX10_home_35 ?_
          refine lv_ior hx hb dX10_home_36 ?_
          refine lv_topi (fun b5 eb5 => ?_)
          replace hf := bn eb5 hf
          refine lv_istore_n (lv' := [(2, .int b5), (0, .ref (gM G 0)), (1, .int a1), (3, .int x3), (4, .int x4)]) hx hb dX10_home_37 rfl hl (by decide) rfl (fun ls hl => ?_)
          refine lv_iload_n hx hb dX10_home_38 rfl (lv_at hl 3 rfl) ?_
          refine lv_bipush (v := -9) hx hb dX10_home_39 (by decide) ?_
          refine lv_icmp_eq (tgt := 68) hx hb dX10_home_41 (by decide) (fun c6 => ?_) (fun c6 => ?_)
          · replace hf := it_t c6 hf
            refine lv_iload hx hb dX10_home_68 (lv_at hl 4 rfl) ?_
            refine lv_goto (tgt := 74) hx hb dX10_home_70 (by decide) ?_
            refine lv_istore_n (lv' := [(3, .int x4), (2, .int b5), (0, .ref (gM G 0)), (1, .int a1), (4, .int x4)]) hx hb dX10_home_74 rfl hl (by decide) rfl (fun ls hl => ?_)
            refine lv_iinc (v := x4 + (1 : Int32)) (lv' := [(4, .int (x4 + (1 : Int32))), (3, .int x4), (2, .int b5), (0, .ref (gM G 0)), (1, .int a1)]) hx hb dX10_home_75 hl (k := 4) rfl rfl (by decide) rfl (fun ls hl => ?_)
            refine lv_goto (tgt := 13) hx hb dX10_home_78 (by decide) ?_
            exact hrec S b5 x4 (x4 + (1 : Int32)) _ _ _ hH (lv_sub hl [3, 4, 2, 1, 0] rfl) hf
          · replace hf := it_f c6 hf
            refine lv_aload_n hx hb dX10_home_44 rfl (lv_at hl 1 rfl) ?_
            refine getO hC hH (0) rfl rfl in_X10_home_X10 18 (by decide) (index := 28) (List.mem_of_getElem? (i := 3) rfl) rfl dX10_home_45 ?_
            refine lv_iconst (v := 3) hx hb dX10_home_48 (by decide) ?_
            refine lv_iload hx hb dX10_home_49 (lv_at hl 4 rfl) ?_
            refine lv_imul hx hb dX10_home_51 ?_
            refine lv_iconst (v := 1) hx hb dX10_home_52 (by decide) ?_
            refine lv_iadd hx hb dX10_home_53 ?_
            obtain ⟨g7, hf⟩ := gd hf
            refine aldI hC hH (7) rfl g7 dX10_home_54 ?_
            refine lv_aload_n hx hb dX10_home_55 rfl (lv_at hl 1 rfl) ?_
            refine getO hC hH (0) rfl rfl in_X10_home_X10 18 (by decide) (index := 28) (List.mem_of_getElem? (i := 3) rfl) rfl dX10_home_56 ?_
            refine lv_iconst (v := 3) hx hb dX10_home_59 (by decide) ?_
            refine lv_iload_n hx hb dX10_home_60 rfl (lv_at hl 3 rfl) ?_
            refine lv_imul hx hb dX10_home_61 ?_
            refine lv_iconst (v := 1) hx hb dX10_home_62 (by decide) ?_
            refine lv_iadd hx hb dX10_home_63 ?_
            obtain ⟨g8, hf⟩ := gd hf
            refine aldI hC hH (7) rfl g8 dX10_home_64 ?_
            refine lv_icmp_ge (tgt := 73) hx hb dX10_home_65 (by decide) (fun c9 => ?_) (fun c9 => ?_)
            · replace hf := it_t c9 hf
              refine lv_iload_n hx hb dX10_home_73 rfl (lv_at hl 3 rfl) ?_
              refine lv_istore_n (lv' := [(3, .int x3), (2, .int b5), (0, .ref (gM G 0)), (1, .int a1), (4, .int x4)]) hx hb dX10_home_74 rfl hl (by decide) rfl (fun ls hl => ?_)
              refine lv_iinc (v := x4 + (1 : Int32)) (lv' := [(4, .int (x4 + (1 : Int32))), (3, .int x3), (2, .int b5), (0, .ref (gM G 0)), (1, .int a1)]) hx hb dX10_home_75 hl (k := 4) rfl rfl (by decide) rfl (fun ls hl => ?_)
              refine lv_goto (tgt := 13) hx hb dX10_home_78 (by decide) ?_
              exact hrec S b5 x3 (x4 + (1 : Int32)) _ _ _ hH (lv_sub hl [3, 4, 2, 1, 0] rfl) hf
            · replace hf := it_f c9 hf
              refine lv_iload hx hb dX10_home_68 (lv_at hl 4 rfl) ?_
              refine lv_goto (tgt := 74) hx hb dX10_home_70 (by decide) ?_
              refine lv_istore_n (lv' := [(3, .int x4), (2, .int b5), (0, .ref (gM G 0)), (1, .int a1), (4, .int x4)]) hx hb dX10_home_74 rfl hl (by decide) rfl (fun ls hl => ?_)
              refine lv_iinc (v := x4 + (1 : Int32)) (lv' := [(4, .int (x4 + (1 : Int32))), (3, .int x4), (2, .int b5), (0, .ref (gM G 0)), (1, .int a1)]) hx hb dX10_home_75 hl (k := 4) rfl rfl (by decide) rfl (fun ls hl => ?_)
              refine lv_goto (tgt := 13) hx hb dX10_home_78 (by decide) ?_
              exact hrec S b5 x4 (x4 + (1 : Int32)) _ _ _ hH (lv_sub hl [3, 4, 2, 1, 0] rfl) hf
  have hf := hf
  rw [f_X10_home] at hf
  refine lv_aload_n hx hb dX10_home_0 rfl (lv_at hl 0 rfl) ?_
  refine lv_iconst (v := 0) hx hb dX10_home_1 (by decide) ?_
  refine putO hC hH (0) rfl rfl in_X10_home_X10 tyX10 tyX10_ok nmX10 0 (by decide) (index := 58) (List.mem_of_getElem? (i := 1) rfl) rfl rfl rfl (Nat.le_of_ble_eq_true rfl) ms_0_0 dX10_home_2 (fun H locs hH => ?_)
  obtain ⟨S1, eS1⟩ : ∃ Z : St, Z = sI S 0 0 (0 : Int32) := ⟨_, rfl⟩
  rw [← eS1] at hH
  replace hf := bn eS1 hf
  refine lv_iconst (v := 0) hx hb dX10_home_5 (by decide) ?_
  refine lv_istore_n (lv' := [(2, .int (0 : Int32)), (0, .ref (gM G 0)), (1, .int a1)]) hx hb dX10_home_6 rfl hl (by decide) rfl (fun ls hl => ?_)
  refine lv_bipush (v := -9) hx hb dX10_home_7 (by decide) ?_
  refine lv_istore_n (lv' := [(3, .int (-9 : Int32)), (2, .int (0 : Int32)), (0, .ref (gM G 0)), (1, .int a1)]) hx hb dX10_home_9 rfl hl (by decide) rfl (fun ls hl => ?_)
  refine lv_iconst (v := 0) hx hb dX10_home_10 (by decide) ?_
  refine lv_istore (lv' := [(4, .int (0 : Int32)), (3, .int (-9 : Int32)), (2, .int (0 : Int32)), (0, .ref (gM G 0)), (1, .int a1)]) hx hb dX10_home_11 hl (by decide) rfl (fun ls hl => ?_)
  refine kL13 _ ?_ N S1 (0 : Int32) (-9 : Int32) (0 : Int32) _ _ _ hH (lv_sub hl [3, 4, 2, 1, 0] rfl) hf
  intro S12 y10 y11 H locs ls hH hl hf
  refine lv_iload_n hx hb dX10_home_81 rfl (lv_at hl 0 rfl) ?_
  refine lv_if_ne (tgt := 89) hx hb dX10_home_82 (by decide) (fun c13 => ?_) (fun c13 => ?_)
  · replace hf := it_f c13 hf
    refine lv_iload_n hx hb dX10_home_89 rfl (lv_at hl 0 rfl) ?_
    refine lv_iconst (v := 1) hx hb dX10_home_90 (by decide) ?_
    refine lv_icmp_ne (tgt := 98) hx hb dX10_home_91 (by decide) (fun c14 => ?_) (fun c14 => ?_)
    · replace hf := it_f c14 hf
      refine lv_iconst (v := -1) hx hb dX10_home_98 (by decide) ?_
      exact fin (-1 : Int32) S12 _ _ _ _ (congrArg Prod.fst (Option.some.inj hf)) (congrArg Prod.snd (Option.some.inj hf)) hH dX10_home_99
    · replace hf := it_t c14 hf
      refine lv_iload_n hx hb dX10_home_94 rfl (lv_at hl 2 rfl) ?_
      refine lv_goto (tgt := 99) hx hb dX10_home_95 (by decide) ?_
      exact fin y11 S12 _ _ _ _ (congrArg Prod.fst (Option.some.inj hf)) (congrArg Prod.snd (Option.some.inj hf)) hH dX10_home_99
  · replace hf := it_t c13 hf
    refine lv_iload_n hx hb dX10_home_85 rfl (lv_at hl 1 rfl) ?_
    refine lv_goto (tgt := 99) hx hb dX10_home_86 (by decide) ?_
    exact fin y10 S12 _ _ _ _ (congrArg Prod.fst (Option.some.inj hf)) (congrArg Prod.snd (Option.some.inj hf)) hH dX10_home_99
set_option maxRecDepth 100000 in
set_option maxHeartbeats 4000000 in
theorem c_X10_at (l : Launch) (G : Gt) (A : Nat → Prop) (S : St)  (a0 : Int32) (a1 : Int32) (a2 : Int32) (q : Int32) (hf : f_X10_at a0 a1 a2 = some q) : Met l yX10_at wsX10_at ({ frames := 0, cells := 0, slots := 0, locals := 0 } : Room) (va_Pc [.int a0, .int a1, .int a2] (PK G A (MW G S))) (va_Qi (fun (r2 : Int32) S2 => r2 = q ∧ S2 = S) (fun S2 : St => PK G A (MW G S2)) A) 0 0 A := by
  refine mstart_i (Wd := MW G) (cc := cX10_at) (maxL := 3) (by decide) rfl (Nat.le_of_ble_eq_true rfl) (fun p e s m below meth c Qm ls hC hH hl fin => ?_)
  obtain ⟨hx, hb, hml, hown, hts⟩ := id hC.1
  have hl : lv_has ls 3 [(0, .int a0), (1, .int a1), (2, .int a2)] := hl
  have hf := hf
  rw [f_X10_at] at hf
  refine lv_bipush (v := 125) hx hb dX10_at_0 (by decide) ?_
  refine lv_iload_n hx hb dX10_at_2 rfl (lv_at hl 0 rfl) ?_
  refine lv_imul hx hb dX10_at_3 ?_
  refine lv_iconst (v := 5) hx hb dX10_at_4 (by decide) ?_
  refine lv_iload_n hx hb dX10_at_5 rfl (lv_at hl 1 rfl) ?_
  refine lv_imul hx hb dX10_at_6 ?_
  refine lv_iadd hx hb dX10_at_7 ?_
  refine lv_iload_n hx hb dX10_at_8 rfl (lv_at hl 2 rfl) ?_
  refine lv_iadd hx hb dX10_at_9 ?_
  exact fin ((((125 : Int32) * a0) + ((5 : Int32) * a1)) + a2) S _ _ _ _ (Option.some.inj hf) rfl hH dX10_at_10
