/-! walks: X10_picture X10_forget X10_isAsPictured X10_could X10_towns X10_rate X10_manyHome -/
theorem in_X10_picture_X10 : ∀ w ∈ wsX100, w ∈ wsX10_picture := fun w h => List.mem_cons_of_mem _ (List.mem_append_right _ h)
set_option maxRecDepth 100000 in
set_option maxHeartbeats 4000000 in
theorem c_X10_picture (l : Launch) (G : Gt) (A : Nat → Prop) (S : St)  (a1 : Int32) (a2 : Int32) (q : Int32 × St) (hf : f_X10_picture S a1 a2 = some q) : Met l yX10_picture wsX10_picture ({ frames := 1, cells := 0, slots := 0, locals := 22 } : Room) (va_Pc [.ref (gM G 0), .int a1, .int a2] (PK G A (MW G S))) (va_Qi (fun (r2 : Int32) S2 => r2 = q.1 ∧ S2 = q.2) (fun S2 : St => PK G A (MW G S2)) A) 0 0 A := by
  refine mstart_i (Wd := MW G) (cc := cX10_picture) (maxL := 3) (by decide) rfl (Nat.le_of_ble_eq_true rfl) (fun p e s m below meth c Qm ls hC hH hl fin => ?_)
  obtain ⟨hx, hb, hml, hown, hts⟩ := id hC.1
  have hl : lv_has ls 3 [(0, .ref (gM G 0)), (1, .int a1), (2, .int a2)] := hl
  have hf := hf
  rw [f_X10_picture] at hf
  refine lv_aload_n hx hb dX10_picture_0 rfl (lv_at hl 0 rfl) ?_
  refine lv_iconst (v := 0) hx hb dX10_picture_1 (by decide) ?_
  refine putO hC hH (0) rfl rfl in_X10_picture_X10 tyX10 tyX10_ok nmX10 0 (by decide) (index := 58) (List.mem_of_getElem? (i := 1) rfl) rfl rfl rfl (Nat.le_of_ble_eq_true rfl) ms_0_0 dX10_picture_2 (fun H locs hH => ?_)
  obtain ⟨S1, eS1⟩ : ∃ Z : St, Z = sI S 0 0 (0 : Int32) := ⟨_, rfl⟩
  rw [← eS1] at hH
  replace hf := bn eS1 hf
  refine lv_iload_n hx hb dX10_picture_5 rfl (lv_at hl 1 rfl) ?_
  refine lv_iconst (v := 1) hx hb dX10_picture_6 (by decide) ?_
  refine lv_bipush (v := 8) hx hb dX10_picture_7 (by decide) ?_
  obtain ⟨r2, hr2, hf⟩ := ob hf
  refine callS_i [.int a1, .int (1 : Int32), .int (8 : Int32)] [] hC hH (c_X10_in l G A S1 a1 (1 : Int32) (8 : Int32) _ hr2) (va_cwS 3 hts gX10_picture_X10_in rfl rfl rfl (by decide +kernel) ⟨Nat.le_of_ble_eq_true rfl, Nat.le_of_ble_eq_true rfl⟩) rfl hl.1 rfl (Nat.le_of_ble_eq_true rfl) dX10_picture_9 (fun H locs hH => ?_)
  refine lv_if_eq (tgt := 24) hx hb dX10_picture_12 (by decide) (fun c3 => ?_) (fun c3 => ?_)
  · replace hf := it_t c3 hf
    refine lv_iconst (v := -1) hx hb dX10_picture_24 (by decide) ?_
    exact fin (-1 : Int32) S1 _ _ _ _ (congrArg Prod.fst (Option.some.inj hf)) (congrArg Prod.snd (Option.some.inj hf)) hH dX10_picture_25
  · replace hf := it_f c3 hf
    refine lv_iload_n hx hb dX10_picture_15 rfl (lv_at hl 2 rfl) ?_
    refine lv_iconst (v := 0) hx hb dX10_picture_16 (by decide) ?_
    refine lv_iconst (v := 3) hx hb dX10_picture_17 (by decide) ?_
    obtain ⟨r4, hr4, hf⟩ := ob hf
    refine callS_i [.int a2, .int (0 : Int32), .int (3 : Int32)] [] hC hH (c_X10_in l G A S1 a2 (0 : Int32) (3 : Int32) _ hr4) (va_cwS 3 hts gX10_picture_X10_in rfl rfl rfl (by decide +kernel) ⟨Nat.le_of_ble_eq_true rfl, Nat.le_of_ble_eq_true rfl⟩) rfl hl.1 rfl (Nat.le_of_ble_eq_true rfl) dX10_picture_18 (fun H locs hH => ?_)
    refine lv_if_ne (tgt := 26) hx hb dX10_picture_21 (by decide) (fun c5 => ?_) (fun c5 => ?_)
    · replace hf := it_f c5 hf
      refine lv_aload_n hx hb dX10_picture_26 rfl (lv_at hl 0 rfl) ?_
      refine getO hC hH (0) rfl rfl in_X10_picture_X10 24 (by decide) (index := 141) (List.mem_of_getElem? (i := 2) rfl) rfl dX10_picture_27 ?_
      refine lv_bipush (v := 6) hx hb dX10_picture_30 (by decide) ?_
      refine lv_icmp_ne (tgt := 38) hx hb dX10_picture_32 (by decide) (fun c6 => ?_) (fun c6 => ?_)
      · replace hf := it_f c6 hf
        refine lv_aload_n hx hb dX10_picture_38 rfl (lv_at hl 0 rfl) ?_
        refine getO hC hH (0) rfl rfl in_X10_picture_X10 23 (by decide) (index := 41) (List.mem_of_getElem? (i := 3) rfl) rfl dX10_picture_39 ?_
        refine lv_iconst (v := 2) hx hb dX10_picture_42 (by decide) ?_
        refine lv_aload_n hx hb dX10_picture_43 rfl (lv_at hl 0 rfl) ?_
        refine getO hC hH (0) rfl rfl in_X10_picture_X10 24 (by decide) (index := 141) (List.mem_of_getElem? (i := 2) rfl) rfl dX10_picture_44 ?_
        refine lv_imul hx hb dX10_picture_47 ?_
        refine lv_iload_n hx hb dX10_picture_48 rfl (lv_at hl 1 rfl) ?_
        obtain ⟨g7, hf⟩ := gd hf
        refine astI hC hH (11) rfl g7 mt_11 dX10_picture_49 (fun H locs hH => ?_)
        obtain ⟨S8, eS8⟩ : ∃ Z : St, Z = sA S1 11 (upd (gA S1 11) ((2 : Int32) * (gI S1 0 24)).toNatClampNeg a1) := ⟨_, rfl⟩
        rw [← eS8] at hH
        replace hf := bn eS8 hf
        refine lv_aload_n hx hb dX10_picture_50 rfl (lv_at hl 0 rfl) ?_
        refine getO hC hH (0) rfl rfl in_X10_picture_X10 23 (by decide) (index := 41) (List.mem_of_getElem? (i := 3) rfl) rfl dX10_picture_51 ?_
        refine lv_iconst (v := 2) hx hb dX10_picture_54 (by decide) ?_
        refine lv_aload_n hx hb dX10_picture_55 rfl (lv_at hl 0 rfl) ?_
        refine getO hC hH (0) rfl rfl in_X10_picture_X10 24 (by decide) (index := 141) (List.mem_of_getElem? (i := 2) rfl) rfl dX10_picture_56 ?_
        refine lv_imul hx hb dX10_picture_59 ?_
        refine lv_iconst (v := 1) hx hb dX10_picture_60 (by decide) ?_
        refine lv_iadd hx hb dX10_picture_61 ?_
        refine lv_iload_n hx hb dX10_picture_62 rfl (lv_at hl 2 rfl) ?_
        obtain ⟨g9, hf⟩ := gd hf
        refine astI hC hH (11) rfl g9 mt_11 dX10_picture_63 (fun H locs hH => ?_)
        obtain ⟨S10, eS10⟩ : ∃ Z : St, Z = sA S8 11 (upd (gA S8 11) (((2 : Int32) * (gI S8 0 24)) + (1 : Int32)).toNatClampNeg a2) := ⟨_, rfl⟩
        rw [← eS10] at hH
        replace hf := bn eS10 hf
        refine lv_aload_n hx hb dX10_picture_64 rfl (lv_at hl 0 rfl) ?_
        refine lv_dup hx hb dX10_picture_65 rfl ?_
        refine getO hC hH (0) rfl rfl in_X10_picture_X10 24 (by decide) (index := 141) (List.mem_of_getElem? (i := 2) rfl) rfl dX10_picture_66 ?_
        refine lv_iconst (v := 1) hx hb dX10_picture_69 (by decide) ?_
        refine lv_iadd hx hb dX10_picture_70 ?_
        refine putO hC hH (0) rfl rfl in_X10_picture_X10 tyX10 tyX10_ok nmX10 24 (by decide) (index := 141) (List.mem_of_getElem? (i := 2) rfl) rfl rfl rfl (Nat.le_of_ble_eq_true rfl) ms_0_24 dX10_picture_71 (fun H locs hH => ?_)
        obtain ⟨S11, eS11⟩ : ∃ Z : St, Z = sI S10 0 24 ((gI S10 0 24) + (1 : Int32)) := ⟨_, rfl⟩
        rw [← eS11] at hH
        replace hf := bn eS11 hf
        refine lv_aload_n hx hb dX10_picture_74 rfl (lv_at hl 0 rfl) ?_
        refine getO hC hH (0) rfl rfl in_X10_picture_X10 24 (by decide) (index := 141) (List.mem_of_getElem? (i := 2) rfl) rfl dX10_picture_75 ?_
        exact fin (gI S11 0 24) S11 _ _ _ _ (congrArg Prod.fst (Option.some.inj hf)) (congrArg Prod.snd (Option.some.inj hf)) hH dX10_picture_78
      · replace hf := it_t c6 hf
        refine lv_bipush (v := -3) hx hb dX10_picture_35 (by decide) ?_
        exact fin (-3 : Int32) S1 _ _ _ _ (congrArg Prod.fst (Option.some.inj hf)) (congrArg Prod.snd (Option.some.inj hf)) hH dX10_picture_37
    · replace hf := it_t c5 hf
      refine lv_iconst (v := -1) hx hb dX10_picture_24 (by decide) ?_
      exact fin (-1 : Int32) S1 _ _ _ _ (congrArg Prod.fst (Option.some.inj hf)) (congrArg Prod.snd (Option.some.inj hf)) hH dX10_picture_25
theorem in_X10_forget_X10 : ∀ w ∈ wsX100, w ∈ wsX10_forget := fun w h => List.mem_cons_of_mem _ (List.mem_append_right _ h)
set_option maxRecDepth 100000 in
set_option maxHeartbeats 4000000 in
theorem c_X10_forget (l : Launch) (G : Gt) (A : Nat → Prop) (S : St)   (q : Int32 × St) (hf : f_X10_forget S = some q) : Met l yX10_forget wsX10_forget ({ frames := 0, cells := 0, slots := 0, locals := 0 } : Room) (va_Pc [.ref (gM G 0)] (PK G A (MW G S))) (va_Qi (fun (r2 : Int32) S2 => r2 = q.1 ∧ S2 = q.2) (fun S2 : St => PK G A (MW G S2)) A) 0 0 A := by
  refine mstart_i (Wd := MW G) (cc := cX10_forget) (maxL := 2) (by decide) rfl (Nat.le_of_ble_eq_true rfl) (fun p e s m below meth c Qm ls hC hH hl fin => ?_)
  obtain ⟨hx, hb, hml, hown, hts⟩ := id hC.1
  have hl : lv_has ls 2 [(0, .ref (gM G 0))] := hl
  have hf := hf
  rw [f_X10_forget] at hf
  refine lv_aload_n hx hb dX10_forget_0 rfl (lv_at hl 0 rfl) ?_
  refine lv_iconst (v := 0) hx hb dX10_forget_1 (by decide) ?_
  refine putO hC hH (0) rfl rfl in_X10_forget_X10 tyX10 tyX10_ok nmX10 0 (by decide) (index := 58) (List.mem_of_getElem? (i := 1) rfl) rfl rfl rfl (Nat.le_of_ble_eq_true rfl) ms_0_0 dX10_forget_2 (fun H locs hH => ?_)
  obtain ⟨S1, eS1⟩ : ∃ Z : St, Z = sI S 0 0 (0 : Int32) := ⟨_, rfl⟩
  rw [← eS1] at hH
  replace hf := bn eS1 hf
  refine lv_aload_n hx hb dX10_forget_5 rfl (lv_at hl 0 rfl) ?_
  refine getO hC hH (0) rfl rfl in_X10_forget_X10 24 (by decide) (index := 141) (List.mem_of_getElem? (i := 2) rfl) rfl dX10_forget_6 ?_
  refine lv_topi (fun b2 eb2 => ?_)
  replace hf := bn eb2 hf
  refine lv_istore_n (lv' := [(1, .int b2), (0, .ref (gM G 0))]) hx hb dX10_forget_9 rfl hl (by decide) rfl (fun ls hl => ?_)
  refine lv_aload_n hx hb dX10_forget_10 rfl (lv_at hl 1 rfl) ?_
  refine lv_iconst (v := 0) hx hb dX10_forget_11 (by decide) ?_
  refine putO hC hH (0) rfl rfl in_X10_forget_X10 tyX10 tyX10_ok nmX10 24 (by decide) (index := 141) (List.mem_of_getElem? (i := 2) rfl) rfl rfl rfl (Nat.le_of_ble_eq_true rfl) ms_0_24 dX10_forget_12 (fun H locs hH => ?_)
  obtain ⟨S3, eS3⟩ : ∃ Z : St, Z = sI S1 0 24 (0 : Int32) := ⟨_, rfl⟩
  rw [← eS3] at hH
  replace hf := bn eS3 hf
  refine lv_iload_n hx hb dX10_forget_15 rfl (lv_at hl 0 rfl) ?_
  exact fin b2 S3 _ _ _ _ (congrArg Prod.fst (Option.some.inj hf)) (congrArg Prod.snd (Option.some.inj hf)) hH dX10_forget_16
theorem in_X10_isAsPictured_X10 : ∀ w ∈ wsX100, w ∈ wsX10_isAsPictured := fun w h => List.mem_cons_of_mem _ (List.mem_append_right _ h)
set_option maxRecDepth 100000 in
set_option maxHeartbeats 4000000 in
theorem c_X10_isAsPictured (l : Launch) (G : Gt) (A : Nat → Prop) (N : Nat) (S : St)  (a1 : Int32) (a2 : Int32) (q : Int32) (hf : f_X10_isAsPictured N S a1 a2 = some q) : Met l yX10_isAsPictured wsX10_isAsPictured ({ frames := 0, cells := 0, slots := 0, locals := 0 } : Room) (va_Pc [.ref (gM G 0), .int a1, .int a2] (PK G A (MW G S))) (va_Qi (fun (r2 : Int32) S2 => r2 = q ∧ S2 = S) (fun S2 : St => PK G A (MW G S2)) A) 0 0 A := by
  refine mstart_z (ty := .boolean) (Wd := MW G) (cc := cX10_isAsPictured) (maxL := 6) (by decide) rfl (Nat.le_of_ble_eq_true rfl) (fun p e s m below meth c Qm ls hC hH hl fin => ?_)
  obtain ⟨hx, hb, hml, hown, hts⟩ := id hC.1
  have hl : lv_has ls 6 [(0, .ref (gM G 0)), (1, .int a1), (2, .int a2)] := hl
  have kL5 : ∀ (n : Nat), ∀ (x3 : Int32) (x4 : Int32) (H : Heap) (locs : List Loc) (ls : Array Slot), HW G A (MW G S) s H locs → lv_has ls 6 [(0, .ref (gM G 0)), (1, .int a1), (2, .int a2), (3, .int x3), (4, .int x4)] → g_X10_isAsPictured_5 N S a1 a2 n x3 x4 = some q → W p l e ({ frames := 0, cells := 0, slots := 0, locals := 0 } : Room) s m [.ref (gM G 0), .int a1, .int a2].toArray below meth c H locs 0 0 Qm (F0 m 5 ls []) := by
    intro n
    induction n with
    | zero => intro x3 x4 H locs ls hH hl hf; exact absurd hf.symm (Option.some_ne_none q)
    | succ n ih =>
      intro x3 x4 H locs ls hH hl hf
      have hrec := ih
      have hf : s_X10_isAsPictured_5 N S a1 a2 (g_X10_isAsPictured_5 N S a1 a2 n) x3 x4 = some q := hf
      rw [s_X10_isAsPictured_5] at hf
      refine lv_iload hx hb dX10_isAsPictured_5 (lv_at hl 4 rfl) ?_
      refine lv_aload_n hx hb dX10_isAsPictured_7 rfl (lv_at hl 0 rfl) ?_
      refine getO hC hH (0) rfl rfl in_X10_isAsPictured_X10 24 (by decide) (index := 141) (List.mem_of_getElem? (i := 1) rfl) rfl dX10_isAsPictured_8 ?_
      refine lv_icmp_ge (tgt := 71) hx hb dX10_isAsPictured_11 (by decide) (fun c1 => ?_) (fun c1 => ?_)
      · replace hf := it_t c1 hf
        refine lv_iload_n hx hb dX10_isAsPictured_71 rfl (lv_at hl 3 rfl) ?_
        obtain ⟨g2, hf⟩ := gd hf
        exact fin x3 S _ _ _ _ (congrArg Value.int (Decidable.not_not.mp g2)) (Option.some.inj hf) rfl hH dX10_isAsPictured_72
      · replace hf := it_f c1 hf
        refine lv_aload_n hx hb dX10_isAsPictured_14 rfl (lv_at hl 0 rfl) ?_
        refine getO hC hH (0) rfl rfl in_X10_isAsPictured_X10 23 (by decide) (index := 41) (List.mem_of_getElem? (i := 2) rfl) rfl dX10_isAsPictured_15 ?_
        refine lv_iconst (v := 2) hx hb dX10_isAsPictured_18 (by decide) ?_
        refine lv_iload hx hb dX10_isAsPictured_19 (lv_at hl 4 rfl) ?_
        refine lv_imul hx hb dX10_isAsPictured_21 ?_
        obtain ⟨g3, hf⟩ := gd hf
        refine aldI hC hH (11) rfl g3 dX10_isAsPictured_22 ?_
        refine lv_topi (fun b4 eb4 => ?_)
        replace hf := bn eb4 hf
        refine lv_istore (lv' := [(5, .int b4), (0, .ref (gM G 0)), (1, .int a1), (2, .int a2), (3, .int x3), (4, .int x4)]) hx hb dX10_isAsPictured_23 hl (by decide) rfl (fun ls hl => ?_)
        refine lv_iload_n hx hb dX10_isAsPictured_25 rfl (lv_at hl 4 rfl) ?_
        refine lv_if_eq (tgt := 63) hx hb dX10_isAsPictured_26 (by decide) (fun c5 => ?_) (fun c5 => ?_)
        · replace hf := it_t c5 hf
          refine lv_iconst (v := 0) hx hb dX10_isAsPictured_63 (by decide) ?_
          refine lv_istore_n (lv' := [(3, .int (0 : Int32)), (5, .int b4), (0, .ref (gM G 0)), (1, .int a1), (2, .int a2), (4, .int x4)]) hx hb dX10_isAsPictured_64 rfl hl (by decide) rfl (fun ls hl => ?_)
          refine lv_iinc (v := x4 + (1 : Int32)) (lv' := [(4, .int (x4 + (1 : Int32))), (3, .int (0 : Int32)), (5, .int b4), (0, .ref (gM G 0)), (1, .int a1), (2, .int a2)]) hx hb dX10_isAsPictured_65 hl (k := 5) rfl rfl (by decide) rfl (fun ls hl => ?_)
          refine lv_goto (tgt := 5) hx hb dX10_isAsPictured_68 (by decide) ?_
          exact hrec (0 : Int32) (x4 + (1 : Int32)) _ _ _ hH (lv_sub hl [3, 4, 5, 1, 0] rfl) hf
        · replace hf := it_f c5 hf
          refine lv_iload hx hb dX10_isAsPictured_29 (lv_at hl 0 rfl) ?_
          refine lv_iconst (v := 2) hx hb dX10_isAsPictured_31 (by decide) ?_
          refine lv_iload_n hx hb dX10_isAsPictured_32 rfl (lv_at hl 2 rfl) ?_
          refine lv_imul hx hb dX10_isAsPictured_33 ?_
          refine lv_icmp_ge (tgt := 63) hx hb dX10_isAsPictured_34 (by decide) (fun c6 => ?_) (fun c6 => ?_)
          · replace hf := it_t c6 hf
            refine lv_iconst (v := 0) hx hb dX10_isAsPictured_63 (by decide) ?_
            refine lv_istore_n (lv' := [(3, .int (0 : Int32)), (5, .int b4), (0, .ref (gM G 0)), (1, .int a1), (2, .int a2), (4, .int x4)]) hx hb dX10_isAsPictured_64 rfl hl (by decide) rfl (fun ls hl => ?_)
            refine lv_iinc (v := x4 + (1 : Int32)) (lv' := [(4, .int (x4 + (1 : Int32))), (3, .int (0 : Int32)), (5, .int b4), (0, .ref (gM G 0)), (1, .int a1), (2, .int a2)]) hx hb dX10_isAsPictured_65 hl (k := 5) rfl rfl (by decide) rfl (fun ls hl => ?_)
            refine lv_goto (tgt := 5) hx hb dX10_isAsPictured_68 (by decide) ?_
            exact hrec (0 : Int32) (x4 + (1 : Int32)) _ _ _ hH (lv_sub hl [3, 4, 5, 1, 0] rfl) hf
          · replace hf := it_f c6 hf
            refine lv_iload_n hx hb dX10_isAsPictured_37 rfl (lv_at hl 3 rfl) ?_
            refine lv_iload hx hb dX10_isAsPictured_38 (lv_at hl 0 rfl) ?_
            refine lv_imul hx hb dX10_isAsPictured_40 ?_
            refine lv_iconst (v := 2) hx hb dX10_isAsPictured_41 (by decide) ?_
            refine lv_idiv hx hb dX10_isAsPictured_42 (by decide) ?_
            refine lv_iconst (v := 4) hx hb dX10_isAsPictured_43 (by decide) ?_
            refine lv_irem hx hb dX10_isAsPictured_44 (by decide) ?_
            refine lv_aload_n hx hb dX10_isAsPictured_45 rfl (lv_at hl 1 rfl) ?_
            refine getO hC hH (0) rfl rfl in_X10_isAsPictured_X10 23 (by decide) (index := 41) (List.mem_of_getElem? (i := 2) rfl) rfl dX10_isAsPictured_46 ?_
            refine lv_iconst (v := 2) hx hb dX10_isAsPictured_49 (by decide) ?_
            refine lv_iload hx hb dX10_isAsPictured_50 (lv_at hl 5 rfl) ?_
            refine lv_imul hx hb dX10_isAsPictured_52 ?_
            refine lv_iconst (v := 1) hx hb dX10_isAsPictured_53 (by decide) ?_
            refine lv_iadd hx hb dX10_isAsPictured_54 ?_
            obtain ⟨g7, hf⟩ := gd hf
            refine aldI hC hH (11) rfl g7 dX10_isAsPictured_55 ?_
            refine lv_icmp_ne (tgt := 63) hx hb dX10_isAsPictured_56 (by decide) (fun c8 => ?_) (fun c8 => ?_)
            · replace hf := it_f c8 hf
              refine lv_iconst (v := 0) hx hb dX10_isAsPictured_63 (by decide) ?_
              refine lv_istore_n (lv' := [(3, .int (0 : Int32)), (5, .int b4), (0, .ref (gM G 0)), (1, .int a1), (2, .int a2), (4, .int x4)]) hx hb dX10_isAsPictured_64 rfl hl (by decide) rfl (fun ls hl => ?_)
              refine lv_iinc (v := x4 + (1 : Int32)) (lv' := [(4, .int (x4 + (1 : Int32))), (3, .int (0 : Int32)), (5, .int b4), (0, .ref (gM G 0)), (1, .int a1), (2, .int a2)]) hx hb dX10_isAsPictured_65 hl (k := 5) rfl rfl (by decide) rfl (fun ls hl => ?_)
              refine lv_goto (tgt := 5) hx hb dX10_isAsPictured_68 (by decide) ?_
              exact hrec (0 : Int32) (x4 + (1 : Int32)) _ _ _ hH (lv_sub hl [3, 4, 5, 1, 0] rfl) hf
            · replace hf := it_t c8 hf
              refine lv_iconst (v := 1) hx hb dX10_isAsPictured_59 (by decide) ?_
              refine lv_goto (tgt := 64) hx hb dX10_isAsPictured_60 (by decide) ?_
              refine lv_istore_n (lv' := [(3, .int (1 : Int32)), (5, .int b4), (0, .ref (gM G 0)), (1, .int a1), (2, .int a2), (4, .int x4)]) hx hb dX10_isAsPictured_64 rfl hl (by decide) rfl (fun ls hl => ?_)
              refine lv_iinc (v := x4 + (1 : Int32)) (lv' := [(4, .int (x4 + (1 : Int32))), (3, .int (1 : Int32)), (5, .int b4), (0, .ref (gM G 0)), (1, .int a1), (2, .int a2)]) hx hb dX10_isAsPictured_65 hl (k := 5) rfl rfl (by decide) rfl (fun ls hl => ?_)
              refine lv_goto (tgt := 5) hx hb dX10_isAsPictured_68 (by decide) ?_
              exact hrec (1 : Int32) (x4 + (1 : Int32)) _ _ _ hH (lv_sub hl [3, 4, 5, 1, 0] rfl) hf
  have hf := hf
  rw [f_X10_isAsPictured] at hf
  refine lv_iconst (v := 1) hx hb dX10_isAsPictured_0 (by decide) ?_
  refine lv_istore_n (lv' := [(3, .int (1 : Int32)), (0, .ref (gM G 0)), (1, .int a1), (2, .int a2)]) hx hb dX10_isAsPictured_1 rfl hl (by decide) rfl (fun ls hl => ?_)
  refine lv_iconst (v := 0) hx hb dX10_isAsPictured_2 (by decide) ?_
  refine lv_istore (lv' := [(4, .int (0 : Int32)), (3, .int (1 : Int32)), (0, .ref (gM G 0)), (1, .int a1), (2, .int a2)]) hx hb dX10_isAsPictured_3 hl (by decide) rfl (fun ls hl => ?_)
  refine kL5 N (1 : Int32) (0 : Int32) _ _ _ hH (lv_sub hl [2, 3, 4, 1, 0] rfl) hf
theorem in_X10_could_X10 : ∀ w ∈ wsX100, w ∈ wsX10_could := fun w h => List.mem_cons_of_mem _ (List.mem_append_right _ h)
set_option maxRecDepth 100000 in
set_option maxHeartbeats 4000000 in
theorem c_X10_could (l : Launch) (G : Gt) (A : Nat → Prop) (N : Nat) (S : St)  (a1 : Int32) (q : Int32 × St) (hf : f_X10_could N S a1 = some q) : Met l yX10_could wsX10_could ({ frames := 1, cells := 0, slots := 0, locals := 25 } : Room) (va_Pc [.ref (gM G 0), .int a1] (PK G A (MW G S))) (va_Qi (fun (r2 : Int32) S2 => r2 = q.1 ∧ S2 = q.2) (fun S2 : St => PK G A (MW G S2)) A) 0 0 A := by
  refine mstart_i (Wd := MW G) (cc := cX10_could) (maxL := 5) (by decide) rfl (Nat.le_of_ble_eq_true rfl) (fun p e s m below meth c Qm ls hC hH hl fin => ?_)
  obtain ⟨hx, hb, hml, hown, hts⟩ := id hC.1
  have hl : lv_has ls 5 [(0, .ref (gM G 0)), (1, .int a1)] := hl
  have kL28 : ∀ (k73 : St → Int32 → Int32 → Option (Int32 × St)) (hk73 : ∀ (S : St) (x2 : Int32) (x3 : Int32) (H : Heap) (locs : List Loc) (ls : Array Slot), HW G A (MW G S) s H locs → lv_has ls 5 [(0, .ref (gM G 0)), (1, .int a1), (2, .int x2), (3, .int x3)] → k73 S x2 x3 = some q → W p l e ({ frames := 1, cells := 0, slots := 0, locals := 25 } : Room) s m [.ref (gM G 0), .int a1].toArray below meth c H locs 0 0 Qm (F0 m 73 ls [])) , ∀ (n : Nat), ∀ (S : St) (x2 : Int32) (x3 : Int32) (x4 : Int32) (H : Heap) (locs : List Loc) (ls : Array Slot), HW G A (MW G S) s H locs → lv_has ls 5 [(0, .ref (gM G 0)), (1, .int a1), (2, .int x2), (3, .int x3), (4, .int x4)] → g_X10_could_28 N a1 k73 n S x2 x3 x4 = some q → W p l e ({ frames := 1, cells := 0, slots := 0, locals := 25 } : Room) s m [.ref (gM G 0), .int a1].toArray below meth c H locs 0 0 Qm (F0 m 28 ls []) := by
    intro k73 hk73 n
    induction n with
    | zero => intro S x2 x3 x4 H locs ls hH hl hf; exact absurd hf.symm (Option.some_ne_none q)
    | succ n ih =>
      intro S x2 x3 x4 H locs ls hH hl hf
      have hrec := ih
      have hf : s_X10_could_28 N a1 k73 (g_X10_could_28 N a1 k73 n) S x2 x3 x4 = some q := hf
      rw [s_X10_could_28] at hf
      refine lv_iload hx hb dX10_could_28 (lv_at hl 4 rfl) ?_
      refine lv_bipush (v := 8) hx hb dX10_could_30 (by decide) ?_
      refine lv_icmp_ge (tgt := 73) hx hb dX10_could_32 (by decide) (fun c5 => ?_) (fun c5 => ?_)
      · replace hf := it_t c5 hf
        exact hk73 S x2 x3 _ _ _ hH (lv_sub hl [0, 1, 2, 3] rfl) hf
      · replace hf := it_f c5 hf
        refine lv_iload_n hx hb dX10_could_35 rfl (lv_at hl 2 rfl) ?_
        refine lv_aload_n hx hb dX10_could_36 rfl (lv_at hl 0 rfl) ?_
        refine lv_iload_n hx hb dX10_could_37 rfl (lv_at hl 3 rfl) ?_
        refine lv_iload hx hb dX10_could_38 (lv_at hl 4 rfl) ?_
        obtain ⟨r6, hr6, hf⟩ := ob hf
        refine callV_i [.int x3, .int x4] [.int x2] hC hH (c_X10_isAsPictured l G A N S x3 x4 _ hr6) (cwV 2 hts gX10_could_X10_isAsPictured rfl rfl rfl (by decide +kernel) ⟨Nat.le_of_ble_eq_true rfl, Nat.le_of_ble_eq_true rfl⟩) (recvW hC hH (c0 := 0) (ci := 10) rfl rfl) rfl hl.1 rfl (Nat.le_of_ble_eq_true rfl) dX10_could_40 (fun H locs hH => ?_)
        refine lv_if_eq (tgt := 64) hx hb dX10_could_43 (by decide) (fun c7 => ?_) (fun c7 => ?_)
        · replace hf := it_t c7 hf
          refine lv_iconst (v := 0) hx hb dX10_could_64 (by decide) ?_
          refine lv_iadd hx hb dX10_could_65 ?_
          refine lv_topi (fun b8 eb8 => ?_)
          replace hf := bn eb8 hf
          refine lv_istore_n (lv' := [(2, .int b8), (0, .ref (gM G 0)), (1, .int a1), (3, .int x3), (4, .int x4)]) hx hb dX10_could_66 rfl hl (by decide) rfl (fun ls hl => ?_)
          refine lv_iinc (v := x4 + (1 : Int32)) (lv' := [(4, .int (x4 + (1 : Int32))), (2, .int b8), (0, .ref (gM G 0)), (1, .int a1), (3, .int x3)]) hx hb dX10_could_67 hl (k := 4) rfl rfl (by decide) rfl (fun ls hl => ?_)
          refine lv_goto (tgt := 28) hx hb dX10_could_70 (by decide) ?_
          exact hrec S b8 x3 (x4 + (1 : Int32)) _ _ _ hH (lv_sub hl [2, 3, 1, 4, 0] rfl) hf
        · replace hf := it_f c7 hf
          refine lv_iload_n hx hb dX10_could_46 rfl (lv_at hl 1 rfl) ?_
          refine lv_if_eq (tgt := 60) hx hb dX10_could_47 (by decide) (fun c9 => ?_) (fun c9 => ?_)
          · replace hf := it_t c9 hf
            refine lv_iconst (v := 1) hx hb dX10_could_60 (by decide) ?_
            refine lv_goto (tgt := 65) hx hb dX10_could_61 (by decide) ?_
            refine lv_iadd hx hb dX10_could_65 ?_
            refine lv_topi (fun b10 eb10 => ?_)
            replace hf := bn eb10 hf
            refine lv_istore_n (lv' := [(2, .int b10), (0, .ref (gM G 0)), (1, .int a1), (3, .int x3), (4, .int x4)]) hx hb dX10_could_66 rfl hl (by decide) rfl (fun ls hl => ?_)
            refine lv_iinc (v := x4 + (1 : Int32)) (lv' := [(4, .int (x4 + (1 : Int32))), (2, .int b10), (0, .ref (gM G 0)), (1, .int a1), (3, .int x3)]) hx hb dX10_could_67 hl (k := 4) rfl rfl (by decide) rfl (fun ls hl => ?_)
            refine lv_goto (tgt := 28) hx hb dX10_could_70 (by decide) ?_
            exact hrec S b10 x3 (x4 + (1 : Int32)) _ _ _ hH (lv_sub hl [2, 3, 1, 4, 0] rfl) hf
          · replace hf := it_f c9 hf
            refine lv_iload hx hb dX10_could_50 (lv_at hl 4 rfl) ?_
            refine lv_iload_n hx hb dX10_could_52 rfl (lv_at hl 3 rfl) ?_
            refine lv_imul hx hb dX10_could_53 ?_
            refine lv_iconst (v := 4) hx hb dX10_could_54 (by decide) ?_
            refine lv_irem hx hb dX10_could_55 (by decide) ?_
            refine lv_iconst (v := 2) hx hb dX10_could_56 (by decide) ?_
            refine lv_icmp_ne (tgt := 64) hx hb dX10_could_57 (by decide) (fun c11 => ?_) (fun c11 => ?_)
            · replace hf := it_f c11 hf
              refine lv_iconst (v := 0) hx hb dX10_could_64 (by decide) ?_
              refine lv_iadd hx hb dX10_could_65 ?_
              refine lv_topi (fun b12 eb12 => ?_)
              replace hf := bn eb12 hf
              refine lv_istore_n (lv' := [(2, .int b12), (0, .ref (gM G 0)), (1, .int a1), (3, .int x3), (4, .int x4)]) hx hb dX10_could_66 rfl hl (by decide) rfl (fun ls hl => ?_)
              refine lv_iinc (v := x4 + (1 : Int32)) (lv' := [(4, .int (x4 + (1 : Int32))), (2, .int b12), (0, .ref (gM G 0)), (1, .int a1), (3, .int x3)]) hx hb dX10_could_67 hl (k := 4) rfl rfl (by decide) rfl (fun ls hl => ?_)
              refine lv_goto (tgt := 28) hx hb dX10_could_70 (by decide) ?_
              exact hrec S b12 x3 (x4 + (1 : Int32)) _ _ _ hH (lv_sub hl [2, 3, 1, 4, 0] rfl) hf
            · replace hf := it_t c11 hf
              refine lv_iconst (v := 1) hx hb dX10_could_60 (by decide) ?_
              refine lv_goto (tgt := 65) hx hb dX10_could_61 (by decide) ?_
              refine lv_iadd hx hb dX10_could_65 ?_
              refine lv_topi (fun b13 eb13 => ?_)
              replace hf := bn eb13 hf
              refine lv_istore_n (lv' := [(2, .int b13), (0, .ref (gM G 0)), (1, .int a1), (3, .int x3), (4, .int x4)]) hx hb dX10_could_66 rfl hl (by decide) rfl (fun ls hl => ?_)
              refine lv_iinc (v := x4 + (1 : Int32)) (lv' := [(4, .int (x4 + (1 : Int32))), (2, .int b13), (0, .ref (gM G 0)), (1, .int a1), (3, .int x3)]) hx hb dX10_could_67 hl (k := 4) rfl rfl (by decide) rfl (fun ls hl => ?_)
              refine lv_goto (tgt := 28) hx hb dX10_could_70 (by decide) ?_
              exact hrec S b13 x3 (x4 + (1 : Int32)) _ _ _ hH (lv_sub hl [2, 3, 1, 4, 0] rfl) hf
  have kL20 : ∀ (n : Nat), ∀ (S : St) (x2 : Int32) (x3 : Int32) (H : Heap) (locs : List Loc) (ls : Array Slot), HW G A (MW G S) s H locs → lv_has ls 5 [(0, .ref (gM G 0)), (1, .int a1), (2, .int x2), (3, .int x3)] → g_X10_could_20 N a1 n S x2 x3 = some q → W p l e ({ frames := 1, cells := 0, slots := 0, locals := 25 } : Room) s m [.ref (gM G 0), .int a1].toArray below meth c H locs 0 0 Qm (F0 m 20 ls []) := by
    intro n
    induction n with
    | zero => intro S x2 x3 H locs ls hH hl hf; exact absurd hf.symm (Option.some_ne_none q)
    | succ n ih =>
      intro S x2 x3 H locs ls hH hl hf
      have hrec := ih
      have hf : s_X10_could_20 N a1 (g_X10_could_20 N a1 n) S x2 x3 = some q := hf
      rw [s_X10_could_20] at hf
      refine lv_iload_n hx hb dX10_could_20 rfl (lv_at hl 3 rfl) ?_
      refine lv_iconst (v := 5) hx hb dX10_could_21 (by decide) ?_
      refine lv_icmp_ge (tgt := 79) hx hb dX10_could_22 (by decide) (fun c4 => ?_) (fun c4 => ?_)
      · replace hf := it_t c4 hf
        refine lv_iload_n hx hb dX10_could_79 rfl (lv_at hl 2 rfl) ?_
        exact fin x2 S _ _ _ _ (congrArg Prod.fst (Option.some.inj hf)) (congrArg Prod.snd (Option.some.inj hf)) hH dX10_could_80
      · replace hf := it_f c4 hf
        refine lv_iconst (v := 0) hx hb dX10_could_25 (by decide) ?_
        refine lv_istore (lv' := [(4, .int (0 : Int32)), (0, .ref (gM G 0)), (1, .int a1), (2, .int x2), (3, .int x3)]) hx hb dX10_could_26 hl (by decide) rfl (fun ls hl => ?_)
        refine kL28 _ ?_ N S x2 x3 (0 : Int32) _ _ _ hH (lv_sub hl [1, 2, 3, 4, 0] rfl) hf
        intro S16 y14 y15 H locs ls hH hl hf
        refine lv_iinc (v := y15 + (1 : Int32)) (lv' := [(3, .int (y15 + (1 : Int32))), (0, .ref (gM G 0)), (1, .int a1), (2, .int y14)]) hx hb dX10_could_73 hl (k := 3) rfl rfl (by decide) rfl (fun ls hl => ?_)
        refine lv_goto (tgt := 20) hx hb dX10_could_76 (by decide) ?_
        exact hrec S16 y14 (y15 + (1 : Int32)) _ _ _ hH (lv_sub hl [1, 2, 3, 0] rfl) hf
  have hf := hf
  rw [f_X10_could] at hf
  refine lv_aload_n hx hb dX10_could_0 rfl (lv_at hl 0 rfl) ?_
  refine lv_iconst (v := 0) hx hb dX10_could_1 (by decide) ?_
  refine putO hC hH (0) rfl rfl in_X10_could_X10 tyX10 tyX10_ok nmX10 0 (by decide) (index := 58) (List.mem_of_getElem? (i := 1) rfl) rfl rfl rfl (Nat.le_of_ble_eq_true rfl) ms_0_0 dX10_could_2 (fun H locs hH => ?_)
  obtain ⟨S1, eS1⟩ : ∃ Z : St, Z = sI S 0 0 (0 : Int32) := ⟨_, rfl⟩
  rw [← eS1] at hH
  replace hf := bn eS1 hf
  refine lv_iload_n hx hb dX10_could_5 rfl (lv_at hl 1 rfl) ?_
  refine lv_iconst (v := 0) hx hb dX10_could_6 (by decide) ?_
  refine lv_iconst (v := 1) hx hb dX10_could_7 (by decide) ?_
  obtain ⟨r2, hr2, hf⟩ := ob hf
  refine callS_i [.int a1, .int (0 : Int32), .int (1 : Int32)] [] hC hH (c_X10_in l G A S1 a1 (0 : Int32) (1 : Int32) _ hr2) (va_cwS 3 hts gX10_could_X10_in rfl rfl rfl (by decide +kernel) ⟨Nat.le_of_ble_eq_true rfl, Nat.le_of_ble_eq_true rfl⟩) rfl hl.1 rfl (Nat.le_of_ble_eq_true rfl) dX10_could_8 (fun H locs hH => ?_)
  refine lv_if_ne (tgt := 16) hx hb dX10_could_11 (by decide) (fun c3 => ?_) (fun c3 => ?_)
  · replace hf := it_f c3 hf
    refine lv_iconst (v := 0) hx hb dX10_could_16 (by decide) ?_
    refine lv_istore_n (lv' := [(2, .int (0 : Int32)), (0, .ref (gM G 0)), (1, .int a1)]) hx hb dX10_could_17 rfl hl (by decide) rfl (fun ls hl => ?_)
    refine lv_iconst (v := 1) hx hb dX10_could_18 (by decide) ?_
    refine lv_istore_n (lv' := [(3, .int (1 : Int32)), (2, .int (0 : Int32)), (0, .ref (gM G 0)), (1, .int a1)]) hx hb dX10_could_19 rfl hl (by decide) rfl (fun ls hl => ?_)
    refine kL20 N S1 (0 : Int32) (1 : Int32) _ _ _ hH (lv_sub hl [2, 3, 1, 0] rfl) hf
  · replace hf := it_t c3 hf
    refine lv_iconst (v := -1) hx hb dX10_could_14 (by decide) ?_
    exact fin (-1 : Int32) S1 _ _ _ _ (congrArg Prod.fst (Option.some.inj hf)) (congrArg Prod.snd (Option.some.inj hf)) hH dX10_could_15
theorem in_X10_towns_X10 : ∀ w ∈ wsX100, w ∈ wsX10_towns := fun w h => List.mem_cons_of_mem _ (List.mem_append_right _ h)
set_option maxRecDepth 100000 in
set_option maxHeartbeats 4000000 in
theorem c_X10_towns (l : Launch) (G : Gt) (A : Nat → Prop) (N : Nat) (S : St)  (a1 : Int32) (a2 : Int32) (a3 : Int32) (a4 : Int32) (a5 : Int32) (q : Int32 × St) (hf : f_X10_towns N S a1 a2 a3 a4 a5 = some q) : Met l yX10_towns wsX10_towns ({ frames := 1, cells := 0, slots := 0, locals := 29 } : Room) (va_Pc [.ref (gM G 0), .int a1, .int a2, .int a3, .int a4, .int a5] (PK G A (MW G S))) (va_Qi (fun (r2 : Int32) S2 => r2 = q.1 ∧ S2 = q.2) (fun S2 : St => PK G A (MW G S2)) A) 0 0 A := by
  refine mstart_i (Wd := MW G) (cc := cX10_towns) (maxL := 9) (by decide) rfl (Nat.le_of_ble_eq_true rfl) (fun p e s m below meth c Qm ls hC hH hl fin => ?_)
  obtain ⟨hx, hb, hml, hown, hts⟩ := id hC.1
  have hl : lv_has ls 9 [(0, .ref (gM G 0)), (1, .int a1), (2, .int a2), (3, .int a3), (4, .int a4), (5, .int a5)] := hl
  have kL82 : ∀ (k114 : St → Int32 → Int32 → Option (Int32 × St)) (hk114 : ∀ (S : St) (x6 : Int32) (x7 : Int32) (H : Heap) (locs : List Loc) (ls : Array Slot), HW G A (MW G S) s H locs → lv_has ls 9 [(1, .int a1), (2, .int a2), (3, .int a3), (4, .int a4), (5, .int a5), (6, .int x6), (7, .int x7)] → k114 S x6 x7 = some q → W p l e ({ frames := 1, cells := 0, slots := 0, locals := 29 } : Room) s m [.ref (gM G 0), .int a1, .int a2, .int a3, .int a4, .int a5].toArray below meth c H locs 0 0 Qm (F0 m 114 ls [])) , ∀ (n : Nat), ∀ (S : St) (x6 : Int32) (x7 : Int32) (x8 : Int32) (H : Heap) (locs : List Loc) (ls : Array Slot), HW G A (MW G S) s H locs → lv_has ls 9 [(1, .int a1), (2, .int a2), (3, .int a3), (4, .int a4), (5, .int a5), (6, .int x6), (7, .int x7), (8, .int x8)] → g_X10_towns_82 N a1 a2 a3 a4 a5 k114 n S x6 x7 x8 = some q → W p l e ({ frames := 1, cells := 0, slots := 0, locals := 29 } : Room) s m [.ref (gM G 0), .int a1, .int a2, .int a3, .int a4, .int a5].toArray below meth c H locs 0 0 Qm (F0 m 82 ls []) := by
    intro k114 hk114 n
    induction n with
    | zero => intro S x6 x7 x8 H locs ls hH hl hf; exact absurd hf.symm (Option.some_ne_none q)
    | succ n ih =>
      intro S x6 x7 x8 H locs ls hH hl hf
      have hrec := ih
      have hf : s_X10_towns_82 N a1 a2 a3 a4 a5 k114 (g_X10_towns_82 N a1 a2 a3 a4 a5 k114 n) S x6 x7 x8 = some q := hf
      rw [s_X10_towns_82] at hf
      refine lv_iload hx hb dX10_towns_82 (lv_at hl 7 rfl) ?_
      refine lv_iload_n hx hb dX10_towns_84 rfl (lv_at hl 2 rfl) ?_
      refine lv_iload hx hb dX10_towns_85 (lv_at hl 3 rfl) ?_
      refine lv_iadd hx hb dX10_towns_87 ?_
      refine lv_icmp_gt (tgt := 114) hx hb dX10_towns_88 (by decide) (fun c15 => ?_) (fun c15 => ?_)
      · replace hf := it_t c15 hf
        exact hk114 S x6 x7 _ _ _ hH (lv_sub hl [0, 1, 2, 3, 4, 5, 6] rfl) hf
      · replace hf := it_f c15 hf
        refine lv_iload hx hb dX10_towns_91 (lv_at hl 5 rfl) ?_
        refine lv_iload hx hb dX10_towns_93 (lv_at hl 6 rfl) ?_
        refine lv_iload hx hb dX10_towns_95 (lv_at hl 7 rfl) ?_
        refine lv_icmp_ge (tgt := 104) hx hb dX10_towns_97 (by decide) (fun c16 => ?_) (fun c16 => ?_)
        · replace hf := it_t c16 hf
          refine lv_iconst (v := 0) hx hb dX10_towns_104 (by decide) ?_
          refine lv_iadd hx hb dX10_towns_105 ?_
          refine lv_topi (fun b17 eb17 => ?_)
          replace hf := bn eb17 hf
          refine lv_istore (lv' := [(6, .int b17), (1, .int a1), (2, .int a2), (3, .int a3), (4, .int a4), (5, .int a5), (7, .int x7), (8, .int x8)]) hx hb dX10_towns_106 hl (by decide) rfl (fun ls hl => ?_)
          refine lv_iinc (v := x8 + (1 : Int32)) (lv' := [(8, .int (x8 + (1 : Int32))), (6, .int b17), (1, .int a1), (2, .int a2), (3, .int a3), (4, .int a4), (5, .int a5), (7, .int x7)]) hx hb dX10_towns_108 hl (k := 7) rfl rfl (by decide) rfl (fun ls hl => ?_)
          refine lv_goto (tgt := 82) hx hb dX10_towns_111 (by decide) ?_
          exact hrec S b17 x7 (x8 + (1 : Int32)) _ _ _ hH (lv_sub hl [2, 3, 4, 5, 6, 1, 7, 0] rfl) hf
        · replace hf := it_f c16 hf
          refine lv_iconst (v := 1) hx hb dX10_towns_100 (by decide) ?_
          refine lv_goto (tgt := 105) hx hb dX10_towns_101 (by decide) ?_
          refine lv_iadd hx hb dX10_towns_105 ?_
          refine lv_topi (fun b18 eb18 => ?_)
          replace hf := bn eb18 hf
          refine lv_istore (lv' := [(6, .int b18), (1, .int a1), (2, .int a2), (3, .int a3), (4, .int a4), (5, .int a5), (7, .int x7), (8, .int x8)]) hx hb dX10_towns_106 hl (by decide) rfl (fun ls hl => ?_)
          refine lv_iinc (v := x8 + (1 : Int32)) (lv' := [(8, .int (x8 + (1 : Int32))), (6, .int b18), (1, .int a1), (2, .int a2), (3, .int a3), (4, .int a4), (5, .int a5), (7, .int x7)]) hx hb dX10_towns_108 hl (k := 7) rfl rfl (by decide) rfl (fun ls hl => ?_)
          refine lv_goto (tgt := 82) hx hb dX10_towns_111 (by decide) ?_
          exact hrec S b18 x7 (x8 + (1 : Int32)) _ _ _ hH (lv_sub hl [2, 3, 4, 5, 6, 1, 7, 0] rfl) hf
  have kL68 : ∀ (k120 : St → Int32 → Option (Int32 × St)) (hk120 : ∀ (S : St) (x6 : Int32) (H : Heap) (locs : List Loc) (ls : Array Slot), HW G A (MW G S) s H locs → lv_has ls 9 [(2, .int a2), (4, .int a4), (5, .int a5), (6, .int x6)] → k120 S x6 = some q → W p l e ({ frames := 1, cells := 0, slots := 0, locals := 29 } : Room) s m [.ref (gM G 0), .int a1, .int a2, .int a3, .int a4, .int a5].toArray below meth c H locs 0 0 Qm (F0 m 120 ls [])) , ∀ (n : Nat), ∀ (S : St) (x6 : Int32) (x7 : Int32) (H : Heap) (locs : List Loc) (ls : Array Slot), HW G A (MW G S) s H locs → lv_has ls 9 [(1, .int a1), (2, .int a2), (3, .int a3), (4, .int a4), (5, .int a5), (6, .int x6), (7, .int x7)] → g_X10_towns_68 N a1 a2 a3 a4 a5 k120 n S x6 x7 = some q → W p l e ({ frames := 1, cells := 0, slots := 0, locals := 29 } : Room) s m [.ref (gM G 0), .int a1, .int a2, .int a3, .int a4, .int a5].toArray below meth c H locs 0 0 Qm (F0 m 68 ls []) := by
    intro k120 hk120 n
    induction n with
    | zero => intro S x6 x7 H locs ls hH hl hf; exact absurd hf.symm (Option.some_ne_none q)
    | succ n ih =>
      intro S x6 x7 H locs ls hH hl hf
      have hrec := ih
      have hf : s_X10_towns_68 N a1 a2 a3 a4 a5 k120 (g_X10_towns_68 N a1 a2 a3 a4 a5 k120 n) S x6 x7 = some q := hf
      rw [s_X10_towns_68] at hf
      refine lv_iload hx hb dX10_towns_68 (lv_at hl 6 rfl) ?_
      refine lv_iload_n hx hb dX10_towns_70 rfl (lv_at hl 0 rfl) ?_
      refine lv_iload_n hx hb dX10_towns_71 rfl (lv_at hl 1 rfl) ?_
      refine lv_iadd hx hb dX10_towns_72 ?_
      refine lv_icmp_gt (tgt := 120) hx hb dX10_towns_73 (by decide) (fun c13 => ?_) (fun c13 => ?_)
      · replace hf := it_t c13 hf
        exact hk120 S x6 _ _ _ hH (lv_sub hl [1, 3, 4, 5] rfl) hf
      · replace hf := it_f c13 hf
        refine lv_iload_n hx hb dX10_towns_76 rfl (lv_at hl 2 rfl) ?_
        refine lv_iload hx hb dX10_towns_77 (lv_at hl 3 rfl) ?_
        refine lv_isub hx hb dX10_towns_79 ?_
        refine lv_topi (fun b14 eb14 => ?_)
        replace hf := bn eb14 hf
        refine lv_istore (lv' := [(8, .int b14), (1, .int a1), (2, .int a2), (3, .int a3), (4, .int a4), (5, .int a5), (6, .int x6), (7, .int x7)]) hx hb dX10_towns_80 hl (by decide) rfl (fun ls hl => ?_)
        refine kL82 _ ?_ N S x6 x7 b14 _ _ _ hH (lv_sub hl [1, 2, 3, 4, 5, 6, 7, 0] rfl) hf
        intro S21 y19 y20 H locs ls hH hl hf
        refine lv_iinc (v := y20 + (1 : Int32)) (lv' := [(7, .int (y20 + (1 : Int32))), (1, .int a1), (2, .int a2), (3, .int a3), (4, .int a4), (5, .int a5), (6, .int y19)]) hx hb dX10_towns_114 hl (k := 6) rfl rfl (by decide) rfl (fun ls hl => ?_)
        refine lv_goto (tgt := 68) hx hb dX10_towns_117 (by decide) ?_
        exact hrec S21 y19 (y20 + (1 : Int32)) _ _ _ hH (lv_sub hl [1, 2, 3, 4, 5, 6, 0] rfl) hf
  have hf := hf
  rw [f_X10_towns] at hf
  refine lv_aload_n hx hb dX10_towns_0 rfl (lv_at hl 0 rfl) ?_
  refine lv_iconst (v := 0) hx hb dX10_towns_1 (by decide) ?_
  refine putO hC hH (0) rfl rfl in_X10_towns_X10 tyX10 tyX10_ok nmX10 0 (by decide) (index := 58) (List.mem_of_getElem? (i := 1) rfl) rfl rfl rfl (Nat.le_of_ble_eq_true rfl) ms_0_0 dX10_towns_2 (fun H locs hH => ?_)
  obtain ⟨S1, eS1⟩ : ∃ Z : St, Z = sI S 0 0 (0 : Int32) := ⟨_, rfl⟩
  rw [← eS1] at hH
  replace hf := bn eS1 hf
  refine lv_iload_n hx hb dX10_towns_5 rfl (lv_at hl 1 rfl) ?_
  refine lv_iconst (v := 0) hx hb dX10_towns_6 (by decide) ?_
  refine lv_sipush (v := 999) hx hb dX10_towns_7 (by decide) ?_
  obtain ⟨r2, hr2, hf⟩ := ob hf
  refine callS_i [.int a1, .int (0 : Int32), .int (999 : Int32)] [] hC hH (c_X10_in l G A S1 a1 (0 : Int32) (999 : Int32) _ hr2) (va_cwS 3 hts gX10_towns_X10_in rfl rfl rfl (by decide +kernel) ⟨Nat.le_of_ble_eq_true rfl, Nat.le_of_ble_eq_true rfl⟩) rfl hl.1 rfl (Nat.le_of_ble_eq_true rfl) dX10_towns_10 (fun H locs hH => ?_)
  refine lv_if_eq (tgt := 58) hx hb dX10_towns_13 (by decide) (fun c3 => ?_) (fun c3 => ?_)
  · replace hf := it_t c3 hf
    refine lv_iconst (v := -1) hx hb dX10_towns_58 (by decide) ?_
    exact fin (-1 : Int32) S1 _ _ _ _ (congrArg Prod.fst (Option.some.inj hf)) (congrArg Prod.snd (Option.some.inj hf)) hH dX10_towns_59
  · replace hf := it_f c3 hf
    refine lv_iload_n hx hb dX10_towns_16 rfl (lv_at hl 2 rfl) ?_
    refine lv_iconst (v := 0) hx hb dX10_towns_17 (by decide) ?_
    refine lv_bipush (v := 99) hx hb dX10_towns_18 (by decide) ?_
    obtain ⟨r4, hr4, hf⟩ := ob hf
    refine callS_i [.int a2, .int (0 : Int32), .int (99 : Int32)] [] hC hH (c_X10_in l G A S1 a2 (0 : Int32) (99 : Int32) _ hr4) (va_cwS 3 hts gX10_towns_X10_in rfl rfl rfl (by decide +kernel) ⟨Nat.le_of_ble_eq_true rfl, Nat.le_of_ble_eq_true rfl⟩) rfl hl.1 rfl (Nat.le_of_ble_eq_true rfl) dX10_towns_20 (fun H locs hH => ?_)
    refine lv_if_eq (tgt := 58) hx hb dX10_towns_23 (by decide) (fun c5 => ?_) (fun c5 => ?_)
    · replace hf := it_t c5 hf
      refine lv_iconst (v := -1) hx hb dX10_towns_58 (by decide) ?_
      exact fin (-1 : Int32) S1 _ _ _ _ (congrArg Prod.fst (Option.some.inj hf)) (congrArg Prod.snd (Option.some.inj hf)) hH dX10_towns_59
    · replace hf := it_f c5 hf
      refine lv_iload_n hx hb dX10_towns_26 rfl (lv_at hl 3 rfl) ?_
      refine lv_iconst (v := 0) hx hb dX10_towns_27 (by decide) ?_
      refine lv_sipush (v := 999) hx hb dX10_towns_28 (by decide) ?_
      obtain ⟨r6, hr6, hf⟩ := ob hf
      refine callS_i [.int a3, .int (0 : Int32), .int (999 : Int32)] [] hC hH (c_X10_in l G A S1 a3 (0 : Int32) (999 : Int32) _ hr6) (va_cwS 3 hts gX10_towns_X10_in rfl rfl rfl (by decide +kernel) ⟨Nat.le_of_ble_eq_true rfl, Nat.le_of_ble_eq_true rfl⟩) rfl hl.1 rfl (Nat.le_of_ble_eq_true rfl) dX10_towns_31 (fun H locs hH => ?_)
      refine lv_if_eq (tgt := 58) hx hb dX10_towns_34 (by decide) (fun c7 => ?_) (fun c7 => ?_)
      · replace hf := it_t c7 hf
        refine lv_iconst (v := -1) hx hb dX10_towns_58 (by decide) ?_
        exact fin (-1 : Int32) S1 _ _ _ _ (congrArg Prod.fst (Option.some.inj hf)) (congrArg Prod.snd (Option.some.inj hf)) hH dX10_towns_59
      · replace hf := it_f c7 hf
        refine lv_iload hx hb dX10_towns_37 (lv_at hl 4 rfl) ?_
        refine lv_iconst (v := 0) hx hb dX10_towns_39 (by decide) ?_
        refine lv_bipush (v := 99) hx hb dX10_towns_40 (by decide) ?_
        obtain ⟨r8, hr8, hf⟩ := ob hf
        refine callS_i [.int a4, .int (0 : Int32), .int (99 : Int32)] [] hC hH (c_X10_in l G A S1 a4 (0 : Int32) (99 : Int32) _ hr8) (va_cwS 3 hts gX10_towns_X10_in rfl rfl rfl (by decide +kernel) ⟨Nat.le_of_ble_eq_true rfl, Nat.le_of_ble_eq_true rfl⟩) rfl hl.1 rfl (Nat.le_of_ble_eq_true rfl) dX10_towns_42 (fun H locs hH => ?_)
        refine lv_if_eq (tgt := 58) hx hb dX10_towns_45 (by decide) (fun c9 => ?_) (fun c9 => ?_)
        · replace hf := it_t c9 hf
          refine lv_iconst (v := -1) hx hb dX10_towns_58 (by decide) ?_
          exact fin (-1 : Int32) S1 _ _ _ _ (congrArg Prod.fst (Option.some.inj hf)) (congrArg Prod.snd (Option.some.inj hf)) hH dX10_towns_59
        · replace hf := it_f c9 hf
          refine lv_iload hx hb dX10_towns_48 (lv_at hl 5 rfl) ?_
          refine lv_iconst (v := 0) hx hb dX10_towns_50 (by decide) ?_
          refine lv_iconst (v := 1) hx hb dX10_towns_51 (by decide) ?_
          obtain ⟨r10, hr10, hf⟩ := ob hf
          refine callS_i [.int a5, .int (0 : Int32), .int (1 : Int32)] [] hC hH (c_X10_in l G A S1 a5 (0 : Int32) (1 : Int32) _ hr10) (va_cwS 3 hts gX10_towns_X10_in rfl rfl rfl (by decide +kernel) ⟨Nat.le_of_ble_eq_true rfl, Nat.le_of_ble_eq_true rfl⟩) rfl hl.1 rfl (Nat.le_of_ble_eq_true rfl) dX10_towns_52 (fun H locs hH => ?_)
          refine lv_if_ne (tgt := 60) hx hb dX10_towns_55 (by decide) (fun c11 => ?_) (fun c11 => ?_)
          · replace hf := it_f c11 hf
            refine lv_iconst (v := 0) hx hb dX10_towns_60 (by decide) ?_
            refine lv_istore (lv' := [(6, .int (0 : Int32)), (0, .ref (gM G 0)), (1, .int a1), (2, .int a2), (3, .int a3), (4, .int a4), (5, .int a5)]) hx hb dX10_towns_61 hl (by decide) rfl (fun ls hl => ?_)
            refine lv_iload_n hx hb dX10_towns_63 rfl (lv_at hl 2 rfl) ?_
            refine lv_iload_n hx hb dX10_towns_64 rfl (lv_at hl 3 rfl) ?_
            refine lv_isub hx hb dX10_towns_65 ?_
            refine lv_topi (fun b12 eb12 => ?_)
            replace hf := bn eb12 hf
            refine lv_istore (lv' := [(7, .int b12), (6, .int (0 : Int32)), (0, .ref (gM G 0)), (1, .int a1), (2, .int a2), (3, .int a3), (4, .int a4), (5, .int a5)]) hx hb dX10_towns_66 hl (by decide) rfl (fun ls hl => ?_)
            refine kL68 _ ?_ N S1 (0 : Int32) b12 _ _ _ hH (lv_sub hl [3, 4, 5, 6, 7, 1, 0] rfl) hf
            intro S23 y22 H locs ls hH hl hf
            refine lv_iconst (v := 2) hx hb dX10_towns_120 (by decide) ?_
            refine lv_iload_n hx hb dX10_towns_121 rfl (lv_at hl 0 rfl) ?_
            refine lv_imul hx hb dX10_towns_122 ?_
            refine lv_iconst (v := 1) hx hb dX10_towns_123 (by decide) ?_
            refine lv_iadd hx hb dX10_towns_124 ?_
            refine lv_iconst (v := 2) hx hb dX10_towns_125 (by decide) ?_
            refine lv_iload hx hb dX10_towns_126 (lv_at hl 1 rfl) ?_
            refine lv_imul hx hb dX10_towns_128 ?_
            refine lv_iconst (v := 1) hx hb dX10_towns_129 (by decide) ?_
            refine lv_iadd hx hb dX10_towns_130 ?_
            refine lv_imul hx hb dX10_towns_131 ?_
            refine lv_topi (fun b24 eb24 => ?_)
            replace hf := bn eb24 hf
            refine lv_istore (lv' := [(7, .int b24), (2, .int a2), (4, .int a4), (5, .int a5), (6, .int y22)]) hx hb dX10_towns_132 hl (by decide) rfl (fun ls hl => ?_)
            refine lv_iload hx hb dX10_towns_134 (lv_at hl 4 rfl) ?_
            refine lv_i2l hx hb dX10_towns_136 rfl ?_
            refine lv_iload hx hb dX10_towns_137 (lv_at hl 0 rfl) ?_
            refine lv_i2l hx hb dX10_towns_139 rfl ?_
            obtain ⟨r25, hr25, hf⟩ := ob hf
            refine callS_l [.long (y22.toInt64), .long (b24.toInt64)] [] hC hH (c_X10_gcd l G A N S23 (y22.toInt64) (b24.toInt64) _ hr25) (va_cwS 2 hts gX10_towns_X10_gcd rfl rfl rfl (by decide +kernel) ⟨Nat.le_of_ble_eq_true rfl, Nat.le_of_ble_eq_true rfl⟩) rfl hl.1 rfl (Nat.le_of_ble_eq_true rfl) dX10_towns_140 (fun H locs hH => ?_)
            refine lv_l2i hx hb dX10_towns_143 rfl ?_
            refine lv_topi (fun b26 eb26 => ?_)
            replace hf := bn eb26 hf
            refine lv_istore (lv' := [(8, .int b26), (7, .int b24), (2, .int a2), (4, .int a4), (5, .int a5), (6, .int y22)]) hx hb dX10_towns_144 hl (by decide) rfl (fun ls hl => ?_)
            refine lv_iload hx hb dX10_towns_146 (lv_at hl 4 rfl) ?_
            refine lv_if_ne (tgt := 159) hx hb dX10_towns_148 (by decide) (fun c27 => ?_) (fun c27 => ?_)
            · replace hf := it_f c27 hf
              refine lv_iload hx hb dX10_towns_159 (lv_at hl 1 rfl) ?_
              refine lv_iload hx hb dX10_towns_161 (lv_at hl 0 rfl) ?_
              obtain ⟨g28, hf⟩ := gd hf
              refine lv_idiv hx hb dX10_towns_163 g28 ?_
              exact fin (b24 / b26) S23 _ _ _ _ (congrArg Prod.fst (Option.some.inj hf)) (congrArg Prod.snd (Option.some.inj hf)) hH dX10_towns_164
            · replace hf := it_t c27 hf
              refine lv_iload hx hb dX10_towns_151 (lv_at hl 5 rfl) ?_
              refine lv_iload hx hb dX10_towns_153 (lv_at hl 0 rfl) ?_
              obtain ⟨g29, hf⟩ := gd hf
              refine lv_idiv hx hb dX10_towns_155 g29 ?_
              refine lv_goto (tgt := 164) hx hb dX10_towns_156 (by decide) ?_
              exact fin (y22 / b26) S23 _ _ _ _ (congrArg Prod.fst (Option.some.inj hf)) (congrArg Prod.snd (Option.some.inj hf)) hH dX10_towns_164
          · replace hf := it_t c11 hf
            refine lv_iconst (v := -1) hx hb dX10_towns_58 (by decide) ?_
            exact fin (-1 : Int32) S1 _ _ _ _ (congrArg Prod.fst (Option.some.inj hf)) (congrArg Prod.snd (Option.some.inj hf)) hH dX10_towns_59
theorem in_X10_rate_X10 : ∀ w ∈ wsX100, w ∈ wsX10_rate := fun w h => List.mem_cons_of_mem _ (List.mem_append_right _ h)
set_option maxRecDepth 100000 in
set_option maxHeartbeats 4000000 in
theorem c_X10_rate (l : Launch) (G : Gt) (A : Nat → Prop) (S : St)  (a1 : Int32) (a2 : Int32) (a3 : Int32) (q : Int32 × St) (hf : f_X10_rate S a1 a2 a3 = some q) : Met l yX10_rate wsX10_rate ({ frames := 1, cells := 0, slots := 0, locals := 22 } : Room) (va_Pc [.ref (gM G 0), .int a1, .int a2, .int a3] (PK G A (MW G S))) (va_Qi (fun (r2 : Int32) S2 => r2 = q.1 ∧ S2 = q.2) (fun S2 : St => PK G A (MW G S2)) A) 0 0 A := by
  refine mstart_i (Wd := MW G) (cc := cX10_rate) (maxL := 5) (by decide) rfl (Nat.le_of_ble_eq_true rfl) (fun p e s m below meth c Qm ls hC hH hl fin => ?_)
  obtain ⟨hx, hb, hml, hown, hts⟩ := id hC.1
  have hl : lv_has ls 5 [(0, .ref (gM G 0)), (1, .int a1), (2, .int a2), (3, .int a3)] := hl
  have kJ101 : ∀ (S : St) (x4 : Int32) (t1 : Int64) (t2 : Int64) (H : Heap) (locs : List Loc) (ls : Array Slot), HW G A (MW G S) s H locs → lv_has ls 5 [(0, .ref (gM G 0)), (1, .int a1), (2, .int a2), (3, .int a3), (4, .int x4)] → f_X10_rate_101 a1 a2 a3 S x4 t1 t2 = some q → W p l e ({ frames := 1, cells := 0, slots := 0, locals := 22 } : Room) s m [.ref (gM G 0), .int a1, .int a2, .int a3].toArray below meth c H locs 0 0 Qm (F0 m 101 ls [.long t2, .long t1, .ref (gM G 0)]) := by
    intro S x4 t1 t2 H locs ls hH hl hf
    rw [f_X10_rate_101] at hf
    refine lv_ladd hx hb dX10_rate_101 ?_
    refine putO hC hH (0) rfl rfl in_X10_rate_X10 tyX10 tyX10_ok nmX10 1 (by decide) (index := 218) (List.mem_of_getElem? (i := 3) rfl) rfl rfl rfl (Nat.le_of_ble_eq_true rfl) ms_0_1 dX10_rate_102 (fun H locs hH => ?_)
    obtain ⟨S14, eS14⟩ : ∃ Z : St, Z = sJ S 0 1 (t1 + t2) := ⟨_, rfl⟩
    rw [← eS14] at hH
    replace hf := bn eS14 hf
    refine lv_iload_n hx hb dX10_rate_105 rfl (lv_at hl 1 rfl) ?_
    refine lv_if_ne (tgt := 114) hx hb dX10_rate_106 (by decide) (fun c15 => ?_) (fun c15 => ?_)
    · replace hf := it_f c15 hf
      refine lv_iload_n hx hb dX10_rate_114 rfl (lv_at hl 1 rfl) ?_
      refine lv_iconst (v := 1) hx hb dX10_rate_115 (by decide) ?_
      refine lv_icmp_ne (tgt := 128) hx hb dX10_rate_116 (by decide) (fun c16 => ?_) (fun c16 => ?_)
      · replace hf := it_f c16 hf
        refine lv_iload_n hx hb dX10_rate_128 rfl (lv_at hl 1 rfl) ?_
        refine lv_iconst (v := 2) hx hb dX10_rate_129 (by decide) ?_
        refine lv_icmp_ne (tgt := 140) hx hb dX10_rate_130 (by decide) (fun c17 => ?_) (fun c17 => ?_)
        · replace hf := it_f c17 hf
          refine lv_iload_n hx hb dX10_rate_140 rfl (lv_at hl 1 rfl) ?_
          refine lv_iconst (v := 3) hx hb dX10_rate_141 (by decide) ?_
          refine lv_icmp_ne (tgt := 156) hx hb dX10_rate_142 (by decide) (fun c18 => ?_) (fun c18 => ?_)
          · replace hf := it_f c18 hf
            refine lv_iload_n hx hb dX10_rate_156 rfl (lv_at hl 1 rfl) ?_
            refine lv_iconst (v := 4) hx hb dX10_rate_157 (by decide) ?_
            refine lv_icmp_ne (tgt := 176) hx hb dX10_rate_158 (by decide) (fun c19 => ?_) (fun c19 => ?_)
            · replace hf := it_f c19 hf
              refine lv_iload hx hb dX10_rate_176 (lv_at hl 4 rfl) ?_
              refine lv_aload_n hx hb dX10_rate_178 rfl (lv_at hl 0 rfl) ?_
              refine getO hC hH (0) rfl rfl in_X10_rate_X10 13 (by decide) (index := 25) (List.mem_of_getElem? (i := 9) rfl) rfl dX10_rate_179 ?_
              refine lv_iconst (v := 4) hx hb dX10_rate_182 (by decide) ?_
              obtain ⟨g20, hf⟩ := gd hf
              refine aldI hC hH (6) rfl g20 dX10_rate_183 ?_
              refine lv_isub hx hb dX10_rate_184 ?_
              have hz : (x4 - (gA S14 6 (4 : Int32).toNatClampNeg), S14) = q := Option.some.inj hf
              have hz1 := congrArg Prod.fst hz
              have hz2 := congrArg Prod.snd hz
              exact fin (x4 - (gA S14 6 (4 : Int32).toNatClampNeg)) S14 _ _ _ _ hz1 hz2 hH dX10_rate_185
            · replace hf := it_t c19 hf
              refine lv_iload hx hb dX10_rate_161 (lv_at hl 4 rfl) ?_
              refine lv_iload_n hx hb dX10_rate_163 rfl (lv_at hl 3 rfl) ?_
              refine lv_isub hx hb dX10_rate_164 ?_
              refine lv_aload_n hx hb dX10_rate_165 rfl (lv_at hl 0 rfl) ?_
              refine getO hC hH (0) rfl rfl in_X10_rate_X10 13 (by decide) (index := 25) (List.mem_of_getElem? (i := 9) rfl) rfl dX10_rate_166 ?_
              refine lv_bipush (v := 6) hx hb dX10_rate_169 (by decide) ?_
              obtain ⟨g21, hf⟩ := gd hf
              refine aldI hC hH (6) rfl g21 dX10_rate_171 ?_
              refine lv_iadd hx hb dX10_rate_172 ?_
              refine lv_goto (tgt := 185) hx hb dX10_rate_173 (by decide) ?_
              have hz : ((x4 - a3) + (gA S14 6 (6 : Int32).toNatClampNeg), S14) = q := Option.some.inj hf
              have hz1 := congrArg Prod.fst hz
              have hz2 := congrArg Prod.snd hz
              exact fin ((x4 - a3) + (gA S14 6 (6 : Int32).toNatClampNeg)) S14 _ _ _ _ hz1 hz2 hH dX10_rate_185
          · replace hf := it_t c18 hf
            refine lv_iconst (v := 2) hx hb dX10_rate_145 (by decide) ?_
            refine lv_iload hx hb dX10_rate_146 (lv_at hl 4 rfl) ?_
            refine lv_iload_n hx hb dX10_rate_148 rfl (lv_at hl 3 rfl) ?_
            refine lv_iload_n hx hb dX10_rate_149 rfl (lv_at hl 2 rfl) ?_
            refine lv_imul hx hb dX10_rate_150 ?_
            refine lv_iadd hx hb dX10_rate_151 ?_
            refine lv_imul hx hb dX10_rate_152 ?_
            refine lv_goto (tgt := 185) hx hb dX10_rate_153 (by decide) ?_
            exact fin ((2 : Int32) * (x4 + (a3 * a2))) S14 _ _ _ _ (congrArg Prod.fst (Option.some.inj hf)) (congrArg Prod.snd (Option.some.inj hf)) hH dX10_rate_185
        · replace hf := it_t c17 hf
          refine lv_iload hx hb dX10_rate_133 (lv_at hl 4 rfl) ?_
          refine lv_iload_n hx hb dX10_rate_135 rfl (lv_at hl 3 rfl) ?_
          refine lv_isub hx hb dX10_rate_136 ?_
          refine lv_goto (tgt := 185) hx hb dX10_rate_137 (by decide) ?_
          exact fin (x4 - a3) S14 _ _ _ _ (congrArg Prod.fst (Option.some.inj hf)) (congrArg Prod.snd (Option.some.inj hf)) hH dX10_rate_185
      · replace hf := it_t c16 hf
        refine lv_iload hx hb dX10_rate_119 (lv_at hl 4 rfl) ?_
        refine lv_iload_n hx hb dX10_rate_121 rfl (lv_at hl 3 rfl) ?_
        refine lv_iload_n hx hb dX10_rate_122 rfl (lv_at hl 2 rfl) ?_
        refine lv_imul hx hb dX10_rate_123 ?_
        refine lv_iadd hx hb dX10_rate_124 ?_
        refine lv_goto (tgt := 185) hx hb dX10_rate_125 (by decide) ?_
        exact fin (x4 + (a3 * a2)) S14 _ _ _ _ (congrArg Prod.fst (Option.some.inj hf)) (congrArg Prod.snd (Option.some.inj hf)) hH dX10_rate_185
    · replace hf := it_t c15 hf
      refine lv_iload hx hb dX10_rate_109 (lv_at hl 4 rfl) ?_
      refine lv_goto (tgt := 185) hx hb dX10_rate_111 (by decide) ?_
      exact fin x4 S14 _ _ _ _ (congrArg Prod.fst (Option.some.inj hf)) (congrArg Prod.snd (Option.some.inj hf)) hH dX10_rate_185
  have hf := hf
  rw [f_X10_rate] at hf
  refine lv_aload_n hx hb dX10_rate_0 rfl (lv_at hl 0 rfl) ?_
  refine lv_iconst (v := 0) hx hb dX10_rate_1 (by decide) ?_
  refine putO hC hH (0) rfl rfl in_X10_rate_X10 tyX10 tyX10_ok nmX10 0 (by decide) (index := 58) (List.mem_of_getElem? (i := 1) rfl) rfl rfl rfl (Nat.le_of_ble_eq_true rfl) ms_0_0 dX10_rate_2 (fun H locs hH => ?_)
  obtain ⟨S1, eS1⟩ : ∃ Z : St, Z = sI S 0 0 (0 : Int32) := ⟨_, rfl⟩
  rw [← eS1] at hH
  replace hf := bn eS1 hf
  refine lv_iload_n hx hb dX10_rate_5 rfl (lv_at hl 1 rfl) ?_
  refine lv_iconst (v := 0) hx hb dX10_rate_6 (by decide) ?_
  refine lv_iconst (v := 5) hx hb dX10_rate_7 (by decide) ?_
  obtain ⟨r2, hr2, hf⟩ := ob hf
  refine callS_i [.int a1, .int (0 : Int32), .int (5 : Int32)] [] hC hH (c_X10_in l G A S1 a1 (0 : Int32) (5 : Int32) _ hr2) (va_cwS 3 hts gX10_rate_X10_in rfl rfl rfl (by decide +kernel) ⟨Nat.le_of_ble_eq_true rfl, Nat.le_of_ble_eq_true rfl⟩) rfl hl.1 rfl (Nat.le_of_ble_eq_true rfl) dX10_rate_8 (fun H locs hH => ?_)
  refine lv_if_eq (tgt := 33) hx hb dX10_rate_11 (by decide) (fun c3 => ?_) (fun c3 => ?_)
  · replace hf := it_t c3 hf
    refine lv_ldc (v := -1000000) hx hb hown (hts (.constant RX10 166 (-1000000)) (List.mem_of_getElem? (i := 2) rfl)) dX10_rate_33 ?_
    exact fin (-1000000 : Int32) S1 _ _ _ _ (congrArg Prod.fst (Option.some.inj hf)) (congrArg Prod.snd (Option.some.inj hf)) hH dX10_rate_35
  · replace hf := it_f c3 hf
    refine lv_iload_n hx hb dX10_rate_14 rfl (lv_at hl 2 rfl) ?_
    refine lv_iconst (v := 1) hx hb dX10_rate_15 (by decide) ?_
    refine lv_iconst (v := 4) hx hb dX10_rate_16 (by decide) ?_
    obtain ⟨r4, hr4, hf⟩ := ob hf
    refine callS_i [.int a2, .int (1 : Int32), .int (4 : Int32)] [] hC hH (c_X10_in l G A S1 a2 (1 : Int32) (4 : Int32) _ hr4) (va_cwS 3 hts gX10_rate_X10_in rfl rfl rfl (by decide +kernel) ⟨Nat.le_of_ble_eq_true rfl, Nat.le_of_ble_eq_true rfl⟩) rfl hl.1 rfl (Nat.le_of_ble_eq_true rfl) dX10_rate_17 (fun H locs hH => ?_)
    refine lv_if_eq (tgt := 33) hx hb dX10_rate_20 (by decide) (fun c5 => ?_) (fun c5 => ?_)
    · replace hf := it_t c5 hf
      refine lv_ldc (v := -1000000) hx hb hown (hts (.constant RX10 166 (-1000000)) (List.mem_of_getElem? (i := 2) rfl)) dX10_rate_33 ?_
      exact fin (-1000000 : Int32) S1 _ _ _ _ (congrArg Prod.fst (Option.some.inj hf)) (congrArg Prod.snd (Option.some.inj hf)) hH dX10_rate_35
    · replace hf := it_f c5 hf
      refine lv_iload_n hx hb dX10_rate_23 rfl (lv_at hl 3 rfl) ?_
      refine lv_iconst (v := 0) hx hb dX10_rate_24 (by decide) ?_
      refine lv_bipush (v := 7) hx hb dX10_rate_25 (by decide) ?_
      obtain ⟨r6, hr6, hf⟩ := ob hf
      refine callS_i [.int a3, .int (0 : Int32), .int (7 : Int32)] [] hC hH (c_X10_in l G A S1 a3 (0 : Int32) (7 : Int32) _ hr6) (va_cwS 3 hts gX10_rate_X10_in rfl rfl rfl (by decide +kernel) ⟨Nat.le_of_ble_eq_true rfl, Nat.le_of_ble_eq_true rfl⟩) rfl hl.1 rfl (Nat.le_of_ble_eq_true rfl) dX10_rate_27 (fun H locs hH => ?_)
      refine lv_if_ne (tgt := 36) hx hb dX10_rate_30 (by decide) (fun c7 => ?_) (fun c7 => ?_)
      · replace hf := it_f c7 hf
        refine lv_iconst (v := 2) hx hb dX10_rate_36 (by decide) ?_
        refine lv_iload_n hx hb dX10_rate_37 rfl (lv_at hl 2 rfl) ?_
        refine lv_imul hx hb dX10_rate_38 ?_
        refine lv_topi (fun b8 eb8 => ?_)
        replace hf := bn eb8 hf
        refine lv_istore (lv' := [(4, .int b8), (0, .ref (gM G 0)), (1, .int a1), (2, .int a2), (3, .int a3)]) hx hb dX10_rate_39 hl (by decide) rfl (fun ls hl => ?_)
        refine lv_aload_n hx hb dX10_rate_41 rfl (lv_at hl 1 rfl) ?_
        refine lv_dup hx hb dX10_rate_42 rfl ?_
        refine getO hC hH (0) rfl rfl in_X10_rate_X10 1 (by decide) (index := 218) (List.mem_of_getElem? (i := 3) rfl) rfl dX10_rate_43 ?_
        refine lv_iload_n hx hb dX10_rate_46 rfl (lv_at hl 2 rfl) ?_
        refine lv_if_ne (tgt := 54) hx hb dX10_rate_47 (by decide) (fun c9 => ?_) (fun c9 => ?_)
        · replace hf := it_f c9 hf
          refine lv_iload_n hx hb dX10_rate_54 rfl (lv_at hl 2 rfl) ?_
          refine lv_iconst (v := 1) hx hb dX10_rate_55 (by decide) ?_
          refine lv_icmp_ne (tgt := 65) hx hb dX10_rate_56 (by decide) (fun c10 => ?_) (fun c10 => ?_)
          · replace hf := it_f c10 hf
            refine lv_iload_n hx hb dX10_rate_65 rfl (lv_at hl 2 rfl) ?_
            refine lv_iconst (v := 2) hx hb dX10_rate_66 (by decide) ?_
            refine lv_icmp_ne (tgt := 76) hx hb dX10_rate_67 (by decide) (fun c11 => ?_) (fun c11 => ?_)
            · replace hf := it_f c11 hf
              refine lv_iload_n hx hb dX10_rate_76 rfl (lv_at hl 2 rfl) ?_
              refine lv_iconst (v := 3) hx hb dX10_rate_77 (by decide) ?_
              refine lv_icmp_ne (tgt := 87) hx hb dX10_rate_78 (by decide) (fun c12 => ?_) (fun c12 => ?_)
              · replace hf := it_f c12 hf
                refine lv_iload_n hx hb dX10_rate_87 rfl (lv_at hl 2 rfl) ?_
                refine lv_iconst (v := 4) hx hb dX10_rate_88 (by decide) ?_
                refine lv_icmp_ne (tgt := 98) hx hb dX10_rate_89 (by decide) (fun c13 => ?_) (fun c13 => ?_)
                · replace hf := it_f c13 hf
                  refine lv_ldc2 (v := 100001) hx hb hown (hts (.constantLong RX10 230 (100001)) (List.mem_of_getElem? (i := 8) rfl)) dX10_rate_98 ?_
                  exact kJ101  S1 b8 (gJ S1 0 1) (100001 : Int64) _ _ _ hH (lv_sub hl [1, 2, 3, 4, 0] rfl) hf
                · replace hf := it_t c13 hf
                  refine lv_ldc2 (v := 10101) hx hb hown (hts (.constantLong RX10 228 (10101)) (List.mem_of_getElem? (i := 7) rfl)) dX10_rate_92 ?_
                  refine lv_goto (tgt := 101) hx hb dX10_rate_95 (by decide) ?_
                  exact kJ101  S1 b8 (gJ S1 0 1) (10101 : Int64) _ _ _ hH (lv_sub hl [1, 2, 3, 4, 0] rfl) hf
              · replace hf := it_t c12 hf
                refine lv_ldc2 (v := 1011) hx hb hown (hts (.constantLong RX10 226 (1011)) (List.mem_of_getElem? (i := 6) rfl)) dX10_rate_81 ?_
                refine lv_goto (tgt := 101) hx hb dX10_rate_84 (by decide) ?_
                exact kJ101  S1 b8 (gJ S1 0 1) (1011 : Int64) _ _ _ hH (lv_sub hl [1, 2, 3, 4, 0] rfl) hf
            · replace hf := it_t c11 hf
              refine lv_ldc2 (v := 101) hx hb hown (hts (.constantLong RX10 224 (101)) (List.mem_of_getElem? (i := 5) rfl)) dX10_rate_70 ?_
              refine lv_goto (tgt := 101) hx hb dX10_rate_73 (by decide) ?_
              exact kJ101  S1 b8 (gJ S1 0 1) (101 : Int64) _ _ _ hH (lv_sub hl [1, 2, 3, 4, 0] rfl) hf
          · replace hf := it_t c10 hf
            refine lv_ldc2 (v := 11) hx hb hown (hts (.constantLong RX10 222 (11)) (List.mem_of_getElem? (i := 4) rfl)) dX10_rate_59 ?_
            refine lv_goto (tgt := 101) hx hb dX10_rate_62 (by decide) ?_
            exact kJ101  S1 b8 (gJ S1 0 1) (11 : Int64) _ _ _ hH (lv_sub hl [1, 2, 3, 4, 0] rfl) hf
        · replace hf := it_t c9 hf
          refine lv_lconst (v := 1) hx hb dX10_rate_50 (by decide) ?_
          refine lv_goto (tgt := 101) hx hb dX10_rate_51 (by decide) ?_
          exact kJ101  S1 b8 (gJ S1 0 1) (1 : Int64) _ _ _ hH (lv_sub hl [1, 2, 3, 4, 0] rfl) hf
      · replace hf := it_t c7 hf
        refine lv_ldc (v := -1000000) hx hb hown (hts (.constant RX10 166 (-1000000)) (List.mem_of_getElem? (i := 2) rfl)) dX10_rate_33 ?_
        exact fin (-1000000 : Int32) S1 _ _ _ _ (congrArg Prod.fst (Option.some.inj hf)) (congrArg Prod.snd (Option.some.inj hf)) hH dX10_rate_35
theorem in_X10_manyHome_X10 : ∀ w ∈ wsX100, w ∈ wsX10_manyHome := fun w h => List.mem_cons_of_mem _ (List.mem_append_right _ h)
set_option maxRecDepth 100000 in
set_option maxHeartbeats 4000000 in
theorem c_X10_manyHome (l : Launch) (G : Gt) (A : Nat → Prop) (N : Nat) (S : St)   (q : Int32) (hf : f_X10_manyHome N S = some q) : Met l yX10_manyHome wsX10_manyHome ({ frames := 1, cells := 0, slots := 0, locals := 21 } : Room) (va_Pc [.ref (gM G 0)] (PK G A (MW G S))) (va_Qi (fun (r2 : Int32) S2 => r2 = q ∧ S2 = S) (fun S2 : St => PK G A (MW G S2)) A) 0 0 A := by
  refine mstart_i (Wd := MW G) (cc := cX10_manyHome) (maxL := 3) (by decide) rfl (Nat.le_of_ble_eq_true rfl) (fun p e s m below meth c Qm ls hC hH hl fin => ?_)
  obtain ⟨hx, hb, hml, hown, hts⟩ := id hC.1
  have hl : lv_has ls 3 [(0, .ref (gM G 0))] := hl
  have kL4 : ∀ (n : Nat), ∀ (x1 : Int32) (x2 : Int32) (H : Heap) (locs : List Loc) (ls : Array Slot), HW G A (MW G S) s H locs → lv_has ls 3 [(0, .ref (gM G 0)), (1, .int x1), (2, .int x2)] → g_X10_manyHome_4 N S n x1 x2 = some q → W p l e ({ frames := 1, cells := 0, slots := 0, locals := 21 } : Room) s m [.ref (gM G 0)].toArray below meth c H locs 0 0 Qm (F0 m 4 ls []) := by
    intro n
    induction n with
    | zero => intro x1 x2 H locs ls hH hl hf; exact absurd hf.symm (Option.some_ne_none q)
    | succ n ih =>
      intro x1 x2 H locs ls hH hl hf
      have hrec := ih
      have hf : s_X10_manyHome_4 N S (g_X10_manyHome_4 N S n) x1 x2 = some q := hf
      rw [s_X10_manyHome_4] at hf
      refine lv_iload_n hx hb dX10_manyHome_4 rfl (lv_at hl 2 rfl) ?_
      refine lv_aload_n hx hb dX10_manyHome_5 rfl (lv_at hl 0 rfl) ?_
      refine getO hC hH (0) rfl rfl in_X10_manyHome_X10 15 (by decide) (index := 135) (List.mem_of_getElem? (i := 1) rfl) rfl dX10_manyHome_6 ?_
      refine lv_icmp_ge (tgt := 34) hx hb dX10_manyHome_9 (by decide) (fun c1 => ?_) (fun c1 => ?_)
      · replace hf := it_t c1 hf
        refine lv_iload_n hx hb dX10_manyHome_34 rfl (lv_at hl 1 rfl) ?_
        exact fin x1 S _ _ _ _ (Option.some.inj hf) rfl hH dX10_manyHome_35
      · replace hf := it_f c1 hf
        refine lv_iload_n hx hb dX10_manyHome_12 rfl (lv_at hl 1 rfl) ?_
        refine lv_aload_n hx hb dX10_manyHome_13 rfl (lv_at hl 0 rfl) ?_
        refine lv_iload_n hx hb dX10_manyHome_14 rfl (lv_at hl 2 rfl) ?_
        obtain ⟨r2, hr2, hf⟩ := ob hf
        refine callV_i [.int x2] [.int x1] hC hH (c_X10_isHome l G A S x2 _ hr2) (cwV 1 hts gX10_manyHome_X10_isHome rfl rfl rfl (by decide +kernel) ⟨Nat.le_of_ble_eq_true rfl, Nat.le_of_ble_eq_true rfl⟩) (recvW hC hH (c0 := 0) (ci := 10) rfl rfl) rfl hl.1 rfl (Nat.le_of_ble_eq_true rfl) dX10_manyHome_15 (fun H locs hH => ?_)
        refine lv_if_eq (tgt := 25) hx hb dX10_manyHome_18 (by decide) (fun c3 => ?_) (fun c3 => ?_)
        · replace hf := it_t c3 hf
          refine lv_iconst (v := 0) hx hb dX10_manyHome_25 (by decide) ?_
          refine lv_iadd hx hb dX10_manyHome_26 ?_
          refine lv_topi (fun b4 eb4 => ?_)
          replace hf := bn eb4 hf
          refine lv_istore_n (lv' := [(1, .int b4), (0, .ref (gM G 0)), (2, .int x2)]) hx hb dX10_manyHome_27 rfl hl (by decide) rfl (fun ls hl => ?_)
          refine lv_iinc (v := x2 + (1 : Int32)) (lv' := [(2, .int (x2 + (1 : Int32))), (1, .int b4), (0, .ref (gM G 0))]) hx hb dX10_manyHome_28 hl (k := 2) rfl rfl (by decide) rfl (fun ls hl => ?_)
          refine lv_goto (tgt := 4) hx hb dX10_manyHome_31 (by decide) ?_
          exact hrec b4 (x2 + (1 : Int32)) _ _ _ hH (lv_sub hl [2, 1, 0] rfl) hf
        · replace hf := it_f c3 hf
          refine lv_iconst (v := 1) hx hb dX10_manyHome_21 (by decide) ?_
          refine lv_goto (tgt := 26) hx hb dX10_manyHome_22 (by decide) ?_
          refine lv_iadd hx hb dX10_manyHome_26 ?_
          refine lv_topi (fun b5 eb5 => ?_)
          replace hf := bn eb5 hf
          refine lv_istore_n (lv' := [(1, .int b5), (0, .ref (gM G 0)), (2, .int x2)]) hx hb dX10_manyHome_27 rfl hl (by decide) rfl (fun ls hl => ?_)
          refine lv_iinc (v := x2 + (1 : Int32)) (lv' := [(2, .int (x2 + (1 : Int32))), (1, .int b5), (0, .ref (gM G 0))]) hx hb dX10_manyHome_28 hl (k := 2) rfl rfl (by decide) rfl (fun ls hl => ?_)
          refine lv_goto (tgt := 4) hx hb dX10_manyHome_31 (by decide) ?_
          exact hrec b5 (x2 + (1 : Int32)) _ _ _ hH (lv_sub hl [2, 1, 0] rfl) hf
  have hf := hf
  rw [f_X10_manyHome] at hf
  refine lv_iconst (v := 0) hx hb dX10_manyHome_0 (by decide) ?_
  refine lv_istore_n (lv' := [(1, .int (0 : Int32)), (0, .ref (gM G 0))]) hx hb dX10_manyHome_1 rfl hl (by decide) rfl (fun ls hl => ?_)
  refine lv_iconst (v := 0) hx hb dX10_manyHome_2 (by decide) ?_
  refine lv_istore_n (lv' := [(2, .int (0 : Int32)), (1, .int (0 : Int32)), (0, .ref (gM G 0))]) hx hb dX10_manyHome_3 rfl hl (by decide) rfl (fun ls hl => ?_)
  refine kL4 N (0 : Int32) (0 : Int32) _ _ _ hH (lv_sub hl [2, 1, 0] rfl) hf
