/-! the law: its start -/
theorem nestF_in : ∀ q ∈ nestF, Cond.fieldLinkNest q.1 q.2.1 q.2.2.1 q.2.2.2.1 q.2.2.2.2.1 q.2.2.2.2.2 ∈ lw_tbl := by decide +kernel
theorem nestM_in : ∀ q ∈ nestM, Cond.methodLinkNest q.1 q.2.1 q.2.2.1 q.2.2.2 ∈ lw_tbl := by decide +kernel
theorem arrK (ty : FieldType) {s : State} {args : Array Value} (harr : (Cond.arrayClass ty).before args s = true) (hne : ∀ C, ty ≠ .object C) : ∃ cA, ArrOfT s cA ty ∧ s.vm.findClass ("[" ++ ty.toString) = some cA := by
  obtain ⟨cA, kA, comp, hfind, hk, hkind⟩ := Cond.arrayClass_spec harr
  exact ⟨cA, fun n z => ⟨fun k h => (by cases h), kA, hk, comp, hkind⟩, hfind⟩
theorem tx_1 : ∀ i : Fin 7, Cond.exactly (.string RX6 (txI i.val)) "java/lang/String" ∈ flatC (Jvm.Cond.and given_1 narrow_1) := by decide +kernel
theorem tx_2 : ∀ i : Fin 7, Cond.eq (.field (.string RX6 (txI i.val)) "java/lang/String" "coder" "B") (.int 0) ∈ flatC (Jvm.Cond.and given_1 narrow_1) := by decide +kernel
theorem tx_3 : ∀ i : Fin 7, Cond.arrayOf (.field (.string RX6 (txI i.val)) "java/lang/String" "value" "[B") .byte ∈ flatC (Jvm.Cond.and given_1 narrow_1) := by decide +kernel
theorem tx_4 : ∀ i : Fin 7, Cond.eq (.length (.field (.string RX6 (txI i.val)) "java/lang/String" "value" "[B")) (.int (Int32.ofNat (txL.getD i.val 0))) ∈ flatC (Jvm.Cond.and given_1 narrow_1) := by decide +kernel
theorem tx_5 : ∀ i : Fin 7, ∀ j : Fin 6, j.val < txL.getD i.val 0 → Cond.eq (.elem (.field (.string RX6 (txI i.val)) "java/lang/String" "value" "[B") (.int (Int32.ofNat j.val))) (.int ((txB.getD i.val []).getD j.val 0)) ∈ flatC (Jvm.Cond.and given_1 narrow_1) := by decide +kernel
theorem tx_6 : ∀ i j : Fin 7, i.val ≠ j.val → Cond.not (Cond.eq (.string RX6 (txI i.val)) (.string RX6 (txI j.val))) ∈ flatC (Jvm.Cond.and given_1 narrow_1) ∨ Cond.not (Cond.eq (.string RX6 (txI j.val)) (.string RX6 (txI i.val))) ∈ flatC (Jvm.Cond.and given_1 narrow_1) := by decide +kernel
theorem tx_7 : ∀ i : Fin 7, Cond.stringRef RX6 (txI i.val) (txS i.val) ∈ lw_tbl := by decide +kernel
theorem txL_lt : ∀ i : Fin 7, txL.getD i.val 0 ≤ 6 := by decide
theorem TX.at {s : State} {args : Array Value} (hts : ∀ w ∈ lw_tbl, w.before args s = true) (hgv : (Jvm.Cond.and given_1 narrow_1).before args s = true) : ∃ adK adV : Nat → Nat, ∀ (D : va_G) (u v : Nat → Nat) (y : Nat → ClassId), TX (D, u, v, y, adK, adV, 0) (fun q => s.heap.size ≤ q) s s.heap := by
  have hf := flat_of_before _ hgv
  have hA : ∀ a : Nat, a < s.heap.size → ¬ (fun q : Nat => s.heap.size ≤ q) a := fun a h => Nat.not_le.mpr h
  obtain ⟨adK, adV, h1, h2⟩ := vk_Sof (args := args) (s := s) (N := 7) (tm := fun i => .string RX6 (txI i)) (len := txL) (byt := txB) (A := fun q => s.heap.size ≤ q) (fun i hi => Nat.lt_of_le_of_lt (txL_lt ⟨i, hi⟩) (by decide)) (fun i hi => hf _ (tx_1 ⟨i, hi⟩)) (fun i hi => hf _ (tx_2 ⟨i, hi⟩)) (fun i hi => hf _ (tx_3 ⟨i, hi⟩)) (fun i hi => hf _ (tx_4 ⟨i, hi⟩)) (fun i hi j hj => hf _ (tx_5 ⟨i, hi⟩ ⟨j, Nat.lt_of_lt_of_le hj (txL_lt ⟨i, hi⟩)⟩ hj))
    (fun i j hi hj hij => (tx_6 ⟨i, hi⟩ ⟨j, hj⟩ hij).elim (fun h => Or.inl (hf _ h)) (fun h => Or.inr (hf _ h))) hA
  refine ⟨adK, adV, fun D u v y => ⟨h1, fun i hi => vk_R.of (hts _ (tx_7 ⟨i, hi⟩)) (h2 i hi), ?_, ?_⟩⟩
  · exact va_Zof (hts (.laysStatic "java/lang/String" "COMPACT_STRINGS" "Z") (by decide +kernel)) (hts (.initialized "java/lang/String") (by decide +kernel)) (va_eqi (hf (.eq (.static "java/lang/String" "COMPACT_STRINGS" "Z") (.int 1)) (by decide +kernel))) hA
  · exact va_Zqof (hts (.laysStatic "jdk/internal/util/Preconditions" "SIOOBE_FORMATTER" "Ljava/util/function/BiFunction;") (by decide +kernel)) (hts (.initialized "jdk/internal/util/Preconditions") (by decide +kernel)) (hf (.isRef (.static "jdk/internal/util/Preconditions" "SIOOBE_FORMATTER" "Ljava/util/function/BiFunction;")) (by decide +kernel)) hA
theorem fst_at {l1 l2 : va_W} (h : l1.map Prod.fst = l2.map Prod.fst) {k : Nat} {p : Nat × va_E} (hp : l1[k]? = some p) : ∃ e, l2[k]? = some (p.1, e) := by
  have h2 : (l1.map Prod.fst)[k]? = (l2.map Prod.fst)[k]? := by rw [h]
  rw [List.getElem?_map, List.getElem?_map, hp] at h2
  cases hq : l2[k]? with
  | none => rw [hq] at h2; cases h2
  | some q =>
    rw [hq] at h2
    have : p.1 = q.1 := Option.some.inj h2
    exact ⟨q.2, by rw [this]⟩
theorem CW_fst (G : Gt) (S : St) : (CW G S).map Prod.fst = (CW G S0).map Prod.fst := rfl
theorem MW_fst (G : Gt) (T : St) : (MW G T).map Prod.fst = (MW G T0).map Prod.fst := rfl
theorem CW_len (G : Gt) (S : St) : (CW G S).length = 43 := rfl
theorem LG.at {G : Gt} {s : State} (hD : va_D (fun q : Nat => s.heap.size ≤ q) (CW G S0 ++ MW G T0)) : LG G s := by
  have cl : ∀ (k : Nat) (p : Nat × va_E), (CW G S0)[k]? = some p → (CW G S0 ++ MW G T0)[k]? = some p ∧ k < 43 := fun k p h => by
    have hk : k < (CW G S0).length := (List.getElem?_eq_some_iff.mp h).1
    exact ⟨by rw [List.getElem?_append_left hk]; exact h, hk⟩
  have ml : ∀ (k : Nat) (p : Nat × va_E), (MW G T0)[k]? = some p → (CW G S0 ++ MW G T0)[43 + k]? = some p := fun k p h => by
    rw [List.getElem?_append_right (by rw [CW_len]; omega), CW_len, Nat.add_sub_cancel_left]; exact h
  refine ⟨fun S => ⟨fun i j p q hi hj hpq => ?_, fun k q hk => ?_⟩, fun T => ⟨fun i j p q hi hj hpq => ?_, fun k q hk => ?_⟩, fun q hq => ?_, fun q hq => ?_, fun q hq hm => ?_⟩
  · obtain ⟨e1, h1⟩ := fst_at (CW_fst G S) hi
    obtain ⟨e2, h2⟩ := fst_at (CW_fst G S) hj
    exact hD.1 i j _ _ (cl i _ h1).1 (cl j _ h2).1 hpq
  · obtain ⟨e1, h1⟩ := fst_at (CW_fst G S) hk
    exact ⟨k, e1, h1⟩
  · obtain ⟨e1, h1⟩ := fst_at (MW_fst G T) hi
    obtain ⟨e2, h2⟩ := fst_at (MW_fst G T) hj
    have := hD.1 (43 + i) (43 + j) _ _ (ml i _ h1) (ml j _ h2) hpq
    omega
  · obtain ⟨e1, h1⟩ := fst_at (MW_fst G T) hk
    exact ⟨k, e1, h1⟩
  · obtain ⟨k, e, h⟩ := hq
    exact hD.2 k _ (cl k _ h).1
  · obtain ⟨k, e, h⟩ := hq
    exact hD.2 (43 + k) _ (ml k _ h)
  · obtain ⟨k, e, h⟩ := hq
    obtain ⟨k', e', h'⟩ := hm
    have := hD.1 k (43 + k') _ _ (cl k _ h).1 (ml k' _ h') rfl
    have := (cl k _ h).2
    omega
theorem TX.thin {G : Gt} {A B : Nat → Prop} {U : State} {H : Heap} (h : TX G A U H) (hAB : ∀ q, B q → A q) : TX G B U H := ⟨h.1.narrow hAB, h.2.1, h.2.2.1.narrow hAB, h.2.2.2.narrow hAB⟩
theorem inv0 : Inv 0 S0 T0 := by
  have z12' : (12 : Int32).toInt = 12 := by decide
  have i3 : gI T0 0 3 = 0 := rfl
  have i14 : gI T0 0 14 = 12 := rfl
  have i15 : gI T0 0 15 = 0 := rfl
  have i22 : gI T0 0 22 = 0 := rfl
  have i24 : gI T0 0 24 = 0 := rfl
  have r7 : ∀ j : Nat, j < 9 → gA T0 7 j = 0 := by
    intro j hj
    show upd (fun _ => 0) 9 1 j = 0
    simp only [upd]
    rw [if_neg (by omega)]
  have rr : ∀ k : Nat, ∀ o : Nat, (∀ j : Nat, j < 9 → gA T0 7 j = 0) → True := fun _ _ _ => trivial
  refine ⟨⟨rfl, by decide, by decide, fun k hk => absurd hk (by rw [show gI S0 1 1 = 0 from rfl, z0]; omega)⟩, ⟨rfl, ⟨rfl, rfl, rfl, rfl, rfl⟩, by decide, fun k hk => ⟨rfl, by rw [show gA T0 2 k = 0 from rfl, z0]; omega, by rw [show gA T0 2 k = 0 from rfl, z0]; omega⟩, fun k hk => ⟨rfl, Or.inl rfl⟩, fun k hk => absurd hk (by rw [i15, z0]; omega), fun k hk => absurd hk (by rw [i15, z0]; omega)⟩, ⟨fun r hr => ?_, rfl⟩, fun j hj => ⟨?_, Or.inl rfl, fun h => absurd (show (0 : Int32) = 1 from h) (by decide)⟩, ⟨rfl, by decide, by decide, fun k hk => absurd hk (by rw [i22, z0]; omega)⟩, ⟨rfl, by decide, by decide, fun k hk => absurd hk (by rw [i24, z0]; omega)⟩, rfl⟩
  · rw [i14, r7 _ (by omega), r7 _ (by omega), r7 _ (by omega), show gA S0 5 r = 0 from rfl, show gA S0 6 r = 0 from rfl, show gA S0 7 r = 0 from rfl, z0, z12']
    exact ⟨rfl, rfl, rfl, by omega, by omega, by omega, by omega, by omega, by omega⟩
  · rcases (show j = 0 ∨ j = 1 by omega) with q | q <;> subst q <;> rfl

theorem K.at {s : State} {args : Array Value} (hts : ∀ w ∈ lw_tbl, w.before args s = true) : ∃ (D : va_G) (y : Nat → ClassId), ∀ (u v : Nat → Nat) (k w : Nat → Nat) (f : Nat), va_K D vwCl (gTy (D, u, v, y, k, w, f)) s := by
  obtain ⟨c0, i0, hK0⟩ := u_known (C := RX0) (T := TX0) (N := 5) (n := 5) hts inX0 (hts (.instantiable RX0 5) (by decide +kernel))
  obtain ⟨c1, i1, hK1⟩ := u_known (C := RX1) (T := TX1) (N := 4) (n := 4) hts inX1 (hts (.instantiable RX1 4) (by decide +kernel))
  obtain ⟨c2, i2, hK2⟩ := u_known (C := RX2) (T := TX2) (N := 2) (n := 2) hts inX2 (hts (.instantiable RX2 2) (by decide +kernel))
  obtain ⟨c3, i3, hK3⟩ := u_known (C := RX3) (T := TX3) (N := 9) (n := 9) hts inX3 (hts (.instantiable RX3 9) (by decide +kernel))
  obtain ⟨c4, i4, hK4⟩ := u_known (C := RX4) (T := TX4) (N := 5) (n := 5) hts inX4 (hts (.instantiable RX4 5) (by decide +kernel))
  obtain ⟨c5, i5, hK5⟩ := u_known (C := RX5) (T := TX5) (N := 3) (n := 3) hts inX5 (hts (.instantiable RX5 3) (by decide +kernel))
  obtain ⟨c6, i6, hK6⟩ := u_known (C := RX6) (T := TX6) (N := 6) (n := 6) hts inX6 (hts (.instantiable RX6 6) (by decide +kernel))
  obtain ⟨c7, i7, hK7⟩ := u_known (C := RX7) (T := TX7) (N := 4) (n := 4) hts inX7 (hts (.instantiable RX7 4) (by decide +kernel))
  obtain ⟨c8, i8, hK8⟩ := u_known (C := RX8) (T := TX8) (N := 2) (n := 2) hts inX8 (hts (.instantiable RX8 2) (by decide +kernel))
  obtain ⟨c9, i9, hK9⟩ := u_known (C := RX9) (T := TX9) (N := 12) (n := 12) hts inX9 (hts (.instantiable RX9 12) (by decide +kernel))
  obtain ⟨c10, i10, hK10⟩ := u_known (C := RX10) (T := TX10) (N := 31) (n := 31) hts inX10 (hts (.instantiable RX10 31) (by decide +kernel))
  obtain ⟨y0, a0, b0⟩ := arrK .int (hts (.arrayClass .int) (by decide +kernel)) (fun C h => by cases h)
  obtain ⟨y1, a1, b1⟩ := arrK .long (hts (.arrayClass .long) (by decide +kernel)) (fun C h => by cases h)
  obtain ⟨y2, a2, b2⟩ := arrK .boolean (hts (.arrayClass .boolean) (by decide +kernel)) (fun C h => by cases h)
  refine ⟨(fun k => match k with | 0 => c0 | 1 => c1 | 2 => c2 | 3 => c3 | 4 => c4 | 5 => c5 | 6 => c6 | 7 => c7 | 8 => c8 | 9 => c9 | _ => c10, fun k => match k with | 0 => i0 | 1 => i1 | 2 => i2 | 3 => i3 | 4 => i4 | 5 => i5 | 6 => i6 | 7 => i7 | 8 => i8 | 9 => i9 | _ => i10), fun k => match k with | 0 => y0 | 1 => y1 | _ => y2, fun u v k w f => ⟨fun k q hq => ?_, fun k q hq => ?_⟩⟩
  · match k, hq with
    | 0, hq => cases hq; exact hK0
    | 1, hq => cases hq; exact hK1
    | 2, hq => cases hq; exact hK2
    | 3, hq => cases hq; exact hK3
    | 4, hq => cases hq; exact hK4
    | 5, hq => cases hq; exact hK5
    | 6, hq => cases hq; exact hK6
    | 7, hq => cases hq; exact hK7
    | 8, hq => cases hq; exact hK8
    | 9, hq => cases hq; exact hK9
    | 10, hq => cases hq; exact hK10
    | k + 11, hq => simp [vwCl] at hq
  · match k, hq with
    | 0, hq => cases hq; exact ⟨a0, b0⟩
    | 1, hq => cases hq; exact ⟨a1, b1⟩
    | 2, hq => cases hq; exact ⟨a2, b2⟩
    | k + 3, hq => simp at hq
set_option maxRecDepth 100000 in
set_option maxHeartbeats 4000000 in
theorem whole_start {p : Program} {e : Env} {s : State} {m : MethodId} {below : List Frame} {meth : Method} {c : Code} (l : Launch) (hflags : l.flags = flags0) {b L : Nat} {xs : Nat → Int32} (hL : L ≤ 4096) (C0 : lw_At p s m meth c b L xs) : W p l e room_1 s m #[Value.ref b] below meth c s.heap [] 0 0 (lw_Z below #[Value.ref b] s) (entryFrame m ([Value.ref b] : List Value).toArray 4) := by
  obtain ⟨hx, hb, hr, hml, hown, hts, hX, hbl, hlocks, hgv⟩ := id C0
  have hts' : ∀ w ∈ wsL_law, w.before #[Value.ref b] s = true := fun w h => hts w (wsL_law_in w h)
  have hA : ∀ q : Nat, s.heap.size ≤ q → (fun q : Nat => s.heap.size ≤ q) q := fun _ h => h
  obtain ⟨D, y, hK⟩ := K.at hts
  obtain ⟨adK, adV, hTX⟩ := TX.at hts hgv
  have hN : NW s := ⟨fun q hq => va_Nw.of rfl (hts _ (nestF_in q hq)), fun q hq => va_Nw.of rfl (hts _ (nestM_in q hq))⟩
  generalize hG : ((D, fun _ => 0, fun _ => 0, y, adK, adV, 0) : Gt) = G
  have hKG : va_K (gD G) vwCl (gTy G) s := by rw [← hG]; exact hK _ _ _ _ _
  have hTG : ∀ u v : Nat → Nat, TX (wM (wC G u) v) (fun q => s.heap.size ≤ q) s s.heap := by rw [← hG]; exact fun u v => hTX _ _ _ _
  have hS : va_S (fun q : Nat => s.heap.size ≤ q) s.heap s.heap [] := va_S.rf
  have hP : va_P (gD G) vwCl [] s.heap := fun k q h => by simp at h
  have hD : va_D (fun q : Nat => s.heap.size ≤ q) [] := ⟨fun i j p q h => by simp at h, fun k q h => by simp at h⟩
  have hl := lv_entry ([.ref b]) (n := 4) (Nat.le_of_ble_eq_true rfl)
  rw [lg_entry_eq]
  generalize (lg_sl ([.ref b]) ++ List.replicate (4 - (lg_sl ([.ref b])).length) Slot.unset).toArray = ls at hl ⊢
  have hl : lv_has ls 4 [(0, .ref b)] := hl
  refine va_new (ci := 9) (fs := [.null, .null, .null, .null, .null, .null, .null, .null, .null, .null, .null, .long 0]) (C := RX9) (T := TX9) (N := 12) (index := 7) hx hb hts inX9 tyX9 tyX9_ok hown (hts (.classLink RL 7 RX9) (by decide +kernel)) (hts (.instantiable RX9 12) (by decide +kernel)) (hts (.initialized RX9) (by decide +kernel)) hKG hP hD hS hA rfl (fun j hj => by rcases (show j = 0 ∨ j = 1 ∨ j = 2 ∨ j = 3 ∨ j = 4 ∨ j = 5 ∨ j = 6 ∨ j = 7 ∨ j = 8 ∨ j = 9 ∨ j = 10 ∨ j = 11 by omega) with rfl | rfl | rfl | rfl | rfl | rfl | rfl | rfl | rfl | rfl | rfl | rfl <;> rfl) (Nat.le_of_ble_eq_true rfl) (Nat.le_of_ble_eq_true rfl) dL_law_0 (fun q0 H hP hD hS => ?_)
  have hP : va_P (gD G) vwCl [(q0, .inr (9, [.null, .null, .null, .null, .null, .null, .null, .null, .null, .null, .null, .long 0]))] H := hP
  have hD : va_D (fun q : Nat => s.heap.size ≤ q) [(q0, .inr (9, [.null, .null, .null, .null, .null, .null, .null, .null, .null, .null, .null, .long 0]))] := hD
  refine W.widen (k := 1) (n := 12) (Nat.le_of_ble_eq_true rfl) (Nat.le_of_ble_eq_true rfl) ?_
  refine lv_dup hx hb dL_law_3 rfl ?_
  have hFc := va_free (wc := [(q0, .inr (9, [.null, .null, .null, .null, .null, .null, .null, .null, .null, .null, .null, .long 0]))]) hD hS hA [0] rfl
  refine va_callv (va_runI (As := []) (rest := [.ref q0]) ⟨hx, hb, hml, hown, hts'⟩ (k_X9_init l G q0 H.size) (cwI 0 hts' gL_law_X9_init rfl rfl rfl (hts (.initialized RX9) (by decide +kernel)) (hts (.methodLink RL 9 yX9_init) (by decide +kernel)) (hts (.instanceMethod yX9_init) (by decide +kernel)) rfl (by decide +kernel) ⟨Nat.le_of_ble_eq_true rfl, Nat.le_of_ble_eq_true rfl⟩) ⟨fun a U g mk q => ⟨q.1, q.2.1, q.2.2.blind⟩, fun U hU hW => ⟨rfl, by rw [hU], NK.of hP hKG (hD.weaken (fun _ _ _ _ => trivial)) hN U hU hW⟩⟩ rfl rfl hl.1 rfl (lv_room (Nat.le_of_ble_eq_true rfl)) dL_law_4 ⟨Nat.le_of_ble_eq_true rfl, Nat.le_of_ble_eq_true rfl⟩) hS (fun q _ h => hFc q h) hFc (fun u t H1 locs ht hvm hw hB hz1 hk1 hS => ?_)
  have hw : u 0 = q0 := hw
  subst hw
  obtain ⟨hP1, -, hD1, -⟩ := hB
  rw [ht] at hP1
  have hD : va_D (fun q : Nat => s.heap.size ≤ q) (CW (wC G u) S0) := hD1.weaken (fun k q _ hq => hFc q.1 hq)
  have hP : va_P (gD G) vwCl (CW (wC G u) S0) H1 := hP1
  generalize H1 = H at hP hS ⊢
  refine W.widen (k := 43) (n := 3779) (Nat.le_of_ble_eq_true rfl) (Nat.le_of_ble_eq_true rfl) ?_
  refine lv_astore_n (lv' := [(1, .ref (u 0)), (0, .ref b)]) hx hb dL_law_7 rfl hl (by decide) rfl (fun ls hl => ?_)
  refine va_new (ci := 10) (fs := [.int 0, .long 0, .null, .int 0, .int 0, .int 0, .int 0, .int 0, .int 0, .null, .null, .null, .null, .null, .int 0, .int 0, .int 0, .int 0, .null, .null, .null, .null, .int 0, .null, .int 0, .int 0, .int 0, .int 0, .null, .null, .null]) (C := RX10) (T := TX10) (N := 31) (index := 10) hx hb hts inX10 tyX10 tyX10_ok hown (hts (.classLink RL 10 RX10) (by decide +kernel)) (hts (.instantiable RX10 31) (by decide +kernel)) (hts (.initialized RX10) (by decide +kernel)) hKG hP hD hS hA rfl (fun j hj => by rcases (show j = 0 ∨ j = 1 ∨ j = 2 ∨ j = 3 ∨ j = 4 ∨ j = 5 ∨ j = 6 ∨ j = 7 ∨ j = 8 ∨ j = 9 ∨ j = 10 ∨ j = 11 ∨ j = 12 ∨ j = 13 ∨ j = 14 ∨ j = 15 ∨ j = 16 ∨ j = 17 ∨ j = 18 ∨ j = 19 ∨ j = 20 ∨ j = 21 ∨ j = 22 ∨ j = 23 ∨ j = 24 ∨ j = 25 ∨ j = 26 ∨ j = 27 ∨ j = 28 ∨ j = 29 ∨ j = 30 by omega) with rfl | rfl | rfl | rfl | rfl | rfl | rfl | rfl | rfl | rfl | rfl | rfl | rfl | rfl | rfl | rfl | rfl | rfl | rfl | rfl | rfl | rfl | rfl | rfl | rfl | rfl | rfl | rfl | rfl | rfl | rfl <;> rfl) (Nat.le_of_ble_eq_true rfl) (Nat.le_of_ble_eq_true rfl) dL_law_8 (fun q1 H hP hD hS => ?_)
  refine W.widen (k := 44) (n := 3810) (Nat.le_of_ble_eq_true rfl) (Nat.le_of_ble_eq_true rfl) ?_
  refine lv_dup hx hb dL_law_11 rfl ?_
  have hPc := hP.sub (ws' := [(q1, .inr (10, [.int 0, .long 0, .null, .int 0, .int 0, .int 0, .int 0, .int 0, .int 0, .null, .null, .null, .null, .null, .int 0, .int 0, .int 0, .int 0, .null, .null, .null, .null, .int 0, .null, .int 0, .int 0, .int 0, .int 0, .null, .null, .null]))]) [43] rfl
  have hDc := hD.sub (ws' := [(q1, .inr (10, [.int 0, .long 0, .null, .int 0, .int 0, .int 0, .int 0, .int 0, .int 0, .null, .null, .null, .null, .null, .int 0, .int 0, .int 0, .int 0, .null, .null, .null, .null, .int 0, .null, .int 0, .int 0, .int 0, .int 0, .null, .null, .null]))]) [43] (by decide) rfl
  have hFc := va_free (wc := [(q1, .inr (10, [.int 0, .long 0, .null, .int 0, .int 0, .int 0, .int 0, .int 0, .int 0, .null, .null, .null, .null, .null, .int 0, .int 0, .int 0, .int 0, .null, .null, .null, .null, .int 0, .null, .int 0, .int 0, .int 0, .int 0, .null, .null, .null]))]) hD hS hA [43] rfl
  refine va_callv (va_runI (As := []) (rest := [.ref q1]) ⟨hx, hb, hml, hown, hts'⟩ (k_X10_init l (wC G u) q1 H.size) (cwI 0 hts' gL_law_X10_init rfl rfl rfl (hts (.initialized RX10) (by decide +kernel)) (hts (.methodLink RL 12 yX10_init) (by decide +kernel)) (hts (.instanceMethod yX10_init) (by decide +kernel)) rfl (by decide +kernel) ⟨Nat.le_of_ble_eq_true rfl, Nat.le_of_ble_eq_true rfl⟩) ⟨fun a U g mk q => ⟨q.1, q.2.1, q.2.2.blind⟩, fun U hU hW => ⟨rfl, by rw [hU], NK.of (G := wC G u) hPc hKG (hDc.weaken (fun _ _ _ _ => trivial)) hN U hU hW⟩⟩ rfl rfl hl.1 rfl (lv_room (Nat.le_of_ble_eq_true rfl)) dL_law_12 ⟨Nat.le_of_ble_eq_true rfl, Nat.le_of_ble_eq_true rfl⟩) hS (fun q _ h => hFc q h) hFc (fun v t H1 locs ht hvm hw hB hz1 hk1 hS => ?_)
  have hw : v 0 = q1 := hw
  subst hw
  obtain ⟨hP1, -, hD1, -⟩ := hB
  rw [ht] at hP1
  obtain ⟨hP, hD⟩ := va_join (wr := CW (wC G u) S0) (w1 := MW (wM (wC G u) v) T0) hP hD [43] [0, 1, 2, 3, 4, 5, 6, 7, 8, 9, 10, 11, 12, 13, 14, 15, 16, 17, 18, 19, 20, 21, 22, 23, 24, 25, 26, 27, 28, 29, 30, 31, 32, 33, 34, 35, 36, 37, 38, 39, 40, 41, 42] rfl rfl (by decide) (by decide) hk1 hFc hP1 hD1
  generalize H1 = H at hP hS ⊢
  generalize hG2 : wM (wC G u) v = G2
  have hu : u 0 = gC G2 0 := by rw [← hG2]; rfl
  have hv : v 0 = gM G2 0 := by rw [← hG2]; rfl
  have hP : va_P (gD G2) vwCl (CW G2 S0 ++ MW G2 T0) H := by rw [← hG2]; exact hP
  have hD : va_D (fun q : Nat => s.heap.size ≤ q) (CW G2 S0 ++ MW G2 T0) := by rw [← hG2]; exact hD
  have hK2 : va_K (gD G2) vwCl (gTy G2) s := by rw [← hG2]; exact hKG
  have hT2 : TX G2 (fun q => s.heap.size ≤ q) s s.heap := by rw [← hG2]; exact hTG u v
  have hLG := LG.at hD
  have hLC : LC p s m meth c b L xs G2 := ⟨⟨hx, hb, hml, hown, hts'⟩, hK2, hN, ⟨hT2.thin hLG.2.2.1, hT2.thin hLG.2.2.2.1⟩, hLG, hX, hbl⟩
  have hLW : LW G2 s S0 T0 H locs := by
    refine ⟨fun k q h => ?_, fun k q h => ?_, hS⟩
    · have hk : k < (CW G2 S0).length := (List.getElem?_eq_some_iff.mp h).1
      exact hP k q (by rw [List.getElem?_append_left hk]; exact h)
    · refine hP (43 + k) q ?_
      rw [List.getElem?_append_right (by rw [CW_len]; omega), CW_len, Nat.add_sub_cancel_left]; exact h
  refine W.widen (k := 58) (n := 7489) (Nat.le_of_ble_eq_true rfl) (Nat.le_of_ble_eq_true rfl) ?_
  refine lv_astore_n (lv' := [(2, .ref (v 0)), (1, .ref (u 0)), (0, .ref b)]) hx hb dL_law_15 rfl hl (by decide) rfl (fun ls hl => ?_)
  refine lv_iconst (v := 0) hx hb dL_law_16 (by decide) ?_
  refine lv_istore_n (lv' := [(3, .int 0), (2, .ref (v 0)), (1, .ref (u 0)), (0, .ref b)]) hx hb dL_law_17 rfl hl (by decide) rfl (fun ls hl => ?_)
  rw [hu, hv] at hl
  exact law_loop hL C0 hLC (L + 1) 0 S0 T0 0 _ _ _ (by rw [z0]; rfl) (by omega) (by omega) inv0 hLW hl
