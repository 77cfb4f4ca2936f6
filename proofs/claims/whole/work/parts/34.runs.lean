/-! what no answer shows may change: the invariant stays -/
def ScC (S S1 : St) : Prop := (∀ c k, ¬ (c = 3 ∨ c = 26 ∨ (c = 18 ∧ k = 4) ∨ c = 33 + 5 * (!gCo S).toNat) → gI S1 c k = gI S c k) ∧ (∀ c, ¬ ((19 ≤ c ∧ c ≤ 22) ∨ (28 ≤ c ∧ c ≤ 32) ∨ (34 + 5 * (!gCo S).toNat ≤ c ∧ c ≤ 37 + 5 * (!gCo S).toNat)) → gA S1 c = gA S c) ∧ gJ S1 = gJ S ∧ gCo S1 = gCo S ∧ gSp S1 = gSp S
def ScM (T T1 : St) : Prop := (∀ c k, ¬ (c = 0 ∧ (k = 0 ∨ k = 22 ∨ (4 ≤ k ∧ k ≤ 8) ∨ k = 16 ∨ k = 17 ∨ (25 ≤ k ∧ k ≤ 27))) → gI T1 c k = gI T c k) ∧ (∀ c j, ¬ (c = 10 ∨ c = 13 ∨ c = 14 ∨ ((c = 2 ∨ c = 3) ∧ 24 ≤ j) ∨ ((c = 4 ∨ c = 5) ∧ 3 ≤ j) ∨ (c = 6 ∧ 7 ≤ j)) → gA T1 c j = gA T c j) ∧ gJ T1 = gJ T
theorem Inv.sc {n : Nat} {S T S1 T1 : St} (h : Inv n S T) (hs : ScC S S1) (ht : ScM T T1) (hA : IvA n S1 T1) : Inv n S1 T1 := by
  obtain ⟨h1, ⟨h2, hl⟩, h3, h4, h5, h6, h7⟩ := h
  obtain ⟨sI1, sA1, sJ1, sC1, sP1⟩ := hs
  obtain ⟨tI1, tA1, tJ1⟩ := ht
  have t14 := tI1 0 14 (by omega)
  have t15 := tI1 0 15 (by omega)
  refine ⟨?_, ⟨by rw [sC1, sP1]; exact h2, ?_⟩, ?_, ?_, hA, ?_, by rw [sJ1, tJ1]; exact h7⟩
  · obtain ⟨a1, a2, a3, a4⟩ := h1
    have e := sI1 1 1 (by omega)
    have e3 := tI1 0 3 (by omega)
    refine ⟨by rw [e, e3]; exact a1, by rw [e]; exact a2, by rw [e]; exact a3, fun k hk => ?_⟩
    rw [e] at hk
    rw [sA1 2 (by omega), tA1 1 k (by omega)]
    exact a4 k hk
  · obtain ⟨⟨e1, e2, e3, e4, e5⟩, hg, hw, hwt, hp, hpn⟩ := hl
    rw [sC1]
    have nb : (gCo S).toNat ≠ (!gCo S).toNat := by cases gCo S <;> decide
    have nc : (gCo S).toNat < 2 := Bool.toNat_lt _
    have nd : (!gCo S).toNat < 2 := Bool.toNat_lt _
    generalize (gCo S).toNat = b at *
    generalize (!gCo S).toNat = b' at *
    have i : ∀ k, gI S1 (33 + 5 * b) k = gI S (33 + 5 * b) k := fun k => sI1 _ _ (by omega)
    have j : ∀ q, 1 ≤ q → q ≤ 4 → gA S1 (33 + 5 * b + q) = gA S (33 + 5 * b + q) := fun q q1 q2 => sA1 _ (by omega)
    have g4 := tA1 6 4 (by omega)
    have g5 := tA1 6 5 (by omega)
    have g6 := tA1 6 6 (by omega)
    refine ⟨⟨by rw [i, t14]; exact e1, by rw [i, t15]; exact e2, by rw [i, g4]; exact e3, by rw [i, g5]; exact e4, by rw [i, g6]; exact e5⟩, by rw [t14, t15, g4, g5, g6]; exact hg, fun k hk => ?_, fun k hk => ?_, fun k hk => ?_, fun k hk => ?_⟩
    · rw [j 1 (by omega) (by omega), tA1 2 k (by omega)]; exact hw k hk
    · rw [j 2 (by omega) (by omega), tA1 3 k (by omega)]; exact hwt k hk
    · rw [t15] at hk
      rw [j 3 (by omega) (by omega), tA1 4 k (by omega)]; exact hp k hk
    · rw [t15] at hk
      rw [j 4 (by omega) (by omega), tA1 5 k (by omega)]; exact hpn k hk
  · refine ⟨?_, by rw [sI1 4 3 (by omega), tA1 7 9 (by omega)]; exact h3.2⟩
    rw [t14]
    exact h3.1.congr (fun r _ => by rw [sA1 5 (by omega)]) (fun r _ => by rw [sA1 6 (by omega)]) (fun r _ => by rw [sA1 7 (by omega)]) (fun r _ => tA1 7 _ (by omega))
  · intro j hj
    obtain ⟨q1, q2, q3⟩ := h4 j hj
    have e := tA1 9 j (by omega)
    refine ⟨by rw [sI1 _ _ (by omega), e]; exact q1, by rw [e]; exact q2, fun hq => ?_⟩
    rw [e] at hq
    obtain ⟨q4, q5⟩ := q3 hq
    refine ⟨?_, by rw [sI1 _ _ (by omega), tA1 8 _ (by omega)]; exact q5⟩
    rw [t14]
    exact q4.congr (fun r _ => by rw [sA1 _ (by omega)]) (fun r _ => by rw [sA1 _ (by omega)]) (fun r _ => by rw [sA1 _ (by omega)]) (fun r _ => tA1 8 _ (by omega))
  · obtain ⟨a1, a2, a3, a4⟩ := h6
    have e := sI1 23 2 (by omega)
    have e2 := tI1 0 24 (by omega)
    refine ⟨by rw [e, e2]; exact a1, by rw [e2]; exact a2, by rw [e2]; exact a3, fun k hk => ?_⟩
    rw [e2] at hk
    rw [sA1 24 (by omega), sA1 25 (by omega), tA1 11 _ (by omega), tA1 11 _ (by omega)]
    exact a4 k hk
theorem Sm.scA {S S1 : St} (h : Sm S S1 ciA caA) : ScC S S1 :=
  ⟨fun c k q => h.1 c k (fun z => q (Or.inr (Or.inr (Or.inl z)))), fun c q => h.2.1 c (fun z => q (Or.inl (by omega))), h.2.2.1, h.2.2.2.2.1, h.2.2.2.2.2⟩
theorem Sm.scB {T T1 : St} (h : Sm T T1 ciB caB) : ScM T T1 :=
  ⟨fun c k q => h.1 c k (fun z => q ⟨z.1, Or.inr (Or.inl z.2)⟩), fun c j q => by rw [h.2.1 c (fun z => q (Or.inl z))], h.2.2.1⟩
theorem bothNotes {n N : Nat} {S T : St} (hN : 100 ≤ N) (h : Inv n S T) {a : Int32} (hr : isR T a) : ∃ S1 T1, f_X0_remember N S 0 a = some S1 ∧ f_X10_notes N T a = some T1 ∧ Sm S S1 ciA caA ∧ Sm T T1 ciB caB ∧ IvA n S1 T1 := by
  have hg := h.2.1.2.2.1
  have ha3 : 0 ≤ a.toInt ∧ a.toInt < 3 := by omega
  obtain ⟨a1, a2, a3, a4⟩ := h.2.2.2.2.1
  obtain ⟨S1, p1, p2, p3, p4⟩ := cRemember (N := N) (by omega) (S := S) (r := a) (by rw [a1]; omega) ha3
  obtain ⟨T1, q1, q2, q3, q4⟩ := mNotes (N := N) hN (T := T) (a := a) ⟨a2, a3⟩ ha3
  have e : gI S1 18 4 = gI T1 0 22 := Int32.toInt_inj.mp (by rw [p3, q3, a1])
  have b0 : 0 ≤ (gI T1 0 22).toInt ∧ (gI T1 0 22).toInt ≤ 10 := by rw [q3]; split <;> omega
  refine ⟨S1, T1, p1, q1, p2, q2, e, b0.1, b0.2, fun k hk => ?_⟩
  have p4 := p4 k (by rw [e]; exact hk)
  have q4 := q4 k hk
  rw [e] at p4
  have y14 : gI T1 0 14 = gI T 0 14 := q2.1 0 14 (by decide)
  rw [y14]
  by_cases c1 : (k : Int) + 1 = (gI T1 0 22).toInt
  · rw [if_pos c1] at p4 q4
    obtain ⟨r1, r2, r3, r4, r5, r6, r7, r8, r9⟩ := h.2.2.1.1 a.toNatClampNeg (by rw [znat]; omega)
    simp only [Prod.mk.injEq] at p4 q4
    obtain ⟨u1, u2, u3, u4⟩ := p4
    obtain ⟨v1, v2, v3, v4⟩ := q4
    rw [Nat.zero_add] at r1 r2 r3
    rw [u1, u2, u3, u4, v1, v2, v3, v4, r1, r2, r3]
    rw [r1] at r4 r5; rw [r2] at r6 r7; rw [r3] at r8 r9
    exact ⟨rfl, rfl, rfl, rfl, ha3.1, by omega, r4, r5, r6, r7, r8, r9⟩
  · rw [if_neg c1] at p4 q4
    rw [a1] at p4
    by_cases c2 : (gI T 0 22).toInt = 10
    · rw [if_pos c2] at p4 q4
      simp only [Prod.mk.injEq] at p4 q4
      obtain ⟨u1, u2, u3, u4⟩ := p4
      obtain ⟨v1, v2, v3, v4⟩ := q4
      rw [u1, u2, u3, u4, v1, v2, v3, v4]
      exact a4 (k + 1) (by rw [q3, if_pos c2] at hk c1; omega)
    · rw [if_neg c2] at p4 q4
      simp only [Prod.mk.injEq] at p4 q4
      obtain ⟨u1, u2, u3, u4⟩ := p4
      obtain ⟨v1, v2, v3, v4⟩ := q4
      rw [u1, u2, u3, u4, v1, v2, v3, v4]
      exact a4 k (by rw [q3, if_neg c2] at hk c1; omega)
