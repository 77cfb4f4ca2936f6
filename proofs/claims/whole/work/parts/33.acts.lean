/-! acts remembered, taken back: class and reference -/
/-- the same but for these fields and rows -/
def Sm (S S1 : St) (ci : Nat → Nat → Prop) (ca : Nat → Prop) : Prop := (∀ c k, ¬ ci c k → gI S1 c k = gI S c k) ∧ (∀ c, ¬ ca c → gA S1 c = gA S c) ∧ gJ S1 = gJ S ∧ gB S1 = gB S ∧ gCo S1 = gCo S ∧ gSp S1 = gSp S
theorem Sm.rf (S : St) (ci : Nat → Nat → Prop) (ca : Nat → Prop) : Sm S S ci ca := ⟨fun _ _ _ => rfl, fun _ _ => rfl, rfl, rfl, rfl, rfl⟩
theorem Sm.tr {S S1 S2 : St} {ci : Nat → Nat → Prop} {ca : Nat → Prop} (h : Sm S S1 ci ca) (k : Sm S1 S2 ci ca) : Sm S S2 ci ca :=
  ⟨fun c j q => (k.1 c j q).trans (h.1 c j q), fun c q => (k.2.1 c q).trans (h.2.1 c q), k.2.2.1.trans h.2.2.1, k.2.2.2.1.trans h.2.2.2.1, k.2.2.2.2.1.trans h.2.2.2.2.1, k.2.2.2.2.2.trans h.2.2.2.2.2⟩
theorem Sm.wk {S S1 : St} {ci ci' : Nat → Nat → Prop} {ca ca' : Nat → Prop} (h : Sm S S1 ci ca) (hi : ∀ c k, ci c k → ci' c k) (ha : ∀ c, ca c → ca' c) : Sm S S1 ci' ca' :=
  ⟨fun c j q => h.1 c j (fun z => q (hi c j z)), fun c q => h.2.1 c (fun z => q (ha c z)), h.2.2⟩
theorem Sm.sI (S : St) {c k : Nat} (v : Int32) {ci : Nat → Nat → Prop} {ca : Nat → Prop} (h : ci c k) : Sm S (sI S c k v) ci ca :=
  ⟨fun c' k' q => by
    rw [gI_sI]
    by_cases h1 : c' = c
    · by_cases h2 : k' = k
      · subst h1; subst h2; exact absurd h q
      · subst h1; rw [if_pos rfl, if_neg h2]
    · rw [if_neg h1], fun _ _ => rfl, rfl, rfl, rfl, rfl⟩
theorem Sm.sA (S : St) {c : Nat} (f : Nat → Int32) {ci : Nat → Nat → Prop} {ca : Nat → Prop} (h : ca c) : Sm S (sA S c f) ci ca :=
  ⟨fun _ _ _ => rfl, fun c' q => by
    rw [gA_sA]
    by_cases h1 : c' = c
    · subst h1; exact absurd h q
    · rw [if_neg h1], rfl, rfl, rfl, rfl⟩
abbrev caA (c : Nat) : Prop := c = 19 ∨ c = 20 ∨ c = 21 ∨ c = 22
abbrev ciA (c k : Nat) : Prop := c = 18 ∧ k = 4
theorem lose_loop (N : Nat) (kk : St → Option St) : ∀ (m fuel : Nat) (S : St) (x : Int32), (10 - x.toInt).toNat = m → 1 ≤ x.toInt → x.toInt ≤ 10 → m < fuel →
    ∃ S', g_X0_loseOldest_2 N kk fuel S x = kk S' ∧ Sm S S' ciA caA ∧ gI S' 18 4 = gI S 18 4 ∧ ∀ c, caA c → ∀ j : Nat, gA S' c j = if x.toInt ≤ j + 1 ∧ j + 1 < 10 then gA S c (j + 1) else gA S c j := by
  intro m
  induction m with
  | zero =>
    intro fuel S x hm h1 h2 hf
    obtain ⟨f, rfl⟩ : ∃ f, fuel = f + 1 := ⟨fuel - 1, by omega⟩
    refine ⟨S, ?_, Sm.rf _ _ _, rfl, fun c _ j => by rw [if_neg (by omega)]⟩
    show s_X0_loseOldest_2 N kk _ S x = _
    unfold s_X0_loseOldest_2
    rw [if_pos (by rw [zle, z10]; omega)]
  | succ m ih =>
    intro fuel S x hm h1 h2 hf
    obtain ⟨f, rfl⟩ : ∃ f, fuel = f + 1 := ⟨fuel - 1, by omega⟩
    have e1 : (x - 1).toInt = x.toInt - 1 := zsub (by rw [z1]; omega) (by rw [z1]; omega)
    have e2 : (x + 1).toInt = x.toInt + 1 := zadd (by rw [z1]; omega) (by rw [z1]; omega)
    have ga : ¬ (x < 0 ∨ 10 ≤ x.toNatClampNeg) := gok (by omega) (by omega)
    have gb : ¬ (x - 1 < 0 ∨ 10 ≤ (x - 1).toNatClampNeg) := gok (by omega) (by omega)
    have n1 : (x - 1).toNatClampNeg = x.toInt.toNat - 1 := by rw [znat, e1]; omega
    let S2 := sA S 19 (upd (gA S 19) (x - 1).toNatClampNeg (gA S 19 x.toNatClampNeg))
    let S3 := sA S2 20 (upd (gA S2 20) (x - 1).toNatClampNeg (gA S2 20 x.toNatClampNeg))
    let S4 := sA S3 21 (upd (gA S3 21) (x - 1).toNatClampNeg (gA S3 21 x.toNatClampNeg))
    let S5 := sA S4 22 (upd (gA S4 22) (x - 1).toNatClampNeg (gA S4 22 x.toNatClampNeg))
    obtain ⟨S', q1, q2, q3, q4⟩ := ih f S5 (x + 1) (by rw [e2]; omega) (by omega) (by omega) (by omega)
    have hS : ∀ c, caA c → gA S5 c = upd (gA S c) (x - 1).toNatClampNeg (gA S c x.toNatClampNeg) := by
      intro c hc
      rcases hc with h | h | h | h <;> subst h <;> rfl
    have hm : Sm S S5 ciA caA := (((Sm.sA S _ (Or.inl rfl)).tr (Sm.sA S2 _ (Or.inr (Or.inl rfl)))).tr (Sm.sA S3 _ (Or.inr (Or.inr (Or.inl rfl))))).tr (Sm.sA S4 _ (Or.inr (Or.inr (Or.inr rfl))))
    refine ⟨S', ?_, hm.tr q2, q3, fun c hc j => ?_⟩
    · rw [← q1]
      show s_X0_loseOldest_2 N kk _ S x = _
      unfold s_X0_loseOldest_2
      rw [if_neg (by rw [zle, z10]; omega)]
      simp only [bnd_eq, if_neg ga, if_neg gb]
      rfl
    · rw [q4 c hc j, hS c hc, e2]
      simp only [upd, n1, znat]
      by_cases h3 : x.toInt + 1 ≤ (j : Int) + 1 ∧ (j : Int) + 1 < 10
      · rw [if_pos (by omega), if_neg (by omega), if_pos (by omega)]
      · rw [if_neg (by omega)]
        by_cases h4 : j = x.toInt.toNat - 1
        · rw [if_pos h4, if_pos (by omega)]
          congr 1; omega
        · rw [if_neg h4, if_neg (by omega)]
theorem cRem13 {N : Nat} {S : St} {r : Int32} (hk : 0 ≤ (gI S 18 4).toInt ∧ (gI S 18 4).toInt < 10) (hr : 0 ≤ r.toInt ∧ r.toInt < 3) : ∃ S', f_X0_remember_13 N 0 r S = some S' ∧ Sm S S' ciA caA ∧ (gI S' 18 4).toInt = (gI S 18 4).toInt + 1 ∧
    gA S' 19 = upd (gA S 19) (gI S 18 4).toNatClampNeg r ∧ gA S' 20 = upd (gA S 20) (gI S 18 4).toNatClampNeg (gA S 5 r.toNatClampNeg) ∧ gA S' 21 = upd (gA S 21) (gI S 18 4).toNatClampNeg (gA S 6 r.toNatClampNeg) ∧ gA S' 22 = upd (gA S 22) (gI S 18 4).toNatClampNeg (gA S 7 r.toNatClampNeg) := by
  have g : ¬ (gI S 18 4 < 0 ∨ 10 ≤ (gI S 18 4).toNatClampNeg) := gok (by omega) (by omega)
  let S2 := sA S 19 (upd (gA S 19) (gI S 18 4).toNatClampNeg r)
  let S3 := sA S2 20 (upd (gA S2 20) (gI S 18 4).toNatClampNeg (gA S 5 r.toNatClampNeg))
  let S4 := sA S3 21 (upd (gA S3 21) (gI S 18 4).toNatClampNeg (gA S 6 r.toNatClampNeg))
  let S5 := sA S4 22 (upd (gA S4 22) (gI S 18 4).toNatClampNeg (gA S 7 r.toNatClampNeg))
  have hm : Sm S S5 ciA caA := (((Sm.sA S _ (Or.inl rfl)).tr (Sm.sA S2 _ (Or.inr (Or.inl rfl)))).tr (Sm.sA S3 _ (Or.inr (Or.inr (Or.inl rfl))))).tr (Sm.sA S4 _ (Or.inr (Or.inr (Or.inr rfl))))
  refine ⟨sI S5 18 4 (gI S 18 4 + 1), ?_, hm.tr (Sm.sI S5 _ ⟨rfl, rfl⟩), ?_, rfl, rfl, rfl, rfl⟩
  · unfold f_X0_remember_13
    rw [if_neg (by rw [zlt, z0]; omega), if_neg (by rw [zle, z10]; omega), if_neg g, bnd_eq, cYardOf (i := 0) hr.1 hr.2, bs]
    show (if gI S 18 4 < 0 ∨ 10 ≤ (gI S 18 4).toNatClampNeg then none else _) = _
    rw [if_neg g, bnd_eq, cBeatsOf (i := 0) hr.1 hr.2, bs]
    show (if gI S 18 4 < 0 ∨ 10 ≤ (gI S 18 4).toNatClampNeg then none else _) = _
    rw [if_neg g, bnd_eq, cGoodOf (i := 0) hr.1 hr.2, bs]
    show (if gI S 18 4 < 0 ∨ 10 ≤ (gI S 18 4).toNatClampNeg then none else _) = _
    rw [if_neg g, bnd_eq, bnd_eq]
    rfl
  · show (gI S 18 4 + 1).toInt = _
    rw [zadd (by rw [z1]; omega) (by rw [z1]; omega), z1]
/-- what remember leaves: the acts of before, the oldest lost where there were ten, and one more -/
theorem cRemember {N : Nat} (hN : 20 ≤ N) {S : St} {r : Int32} (hk : 0 ≤ (gI S 18 4).toInt ∧ (gI S 18 4).toInt ≤ 10) (hr : 0 ≤ r.toInt ∧ r.toInt < 3) : ∃ S', f_X0_remember N S 0 r = some S' ∧ Sm S S' ciA caA ∧
    (gI S' 18 4).toInt = (if (gI S 18 4).toInt = 10 then 10 else (gI S 18 4).toInt + 1) ∧
    ∀ j : Nat, (j : Int) < (gI S' 18 4).toInt →
      (gA S' 19 j, gA S' 20 j, gA S' 21 j, gA S' 22 j) = (if (j : Int) + 1 = (gI S' 18 4).toInt then (r, gA S 5 r.toNatClampNeg, gA S 6 r.toNatClampNeg, gA S 7 r.toNatClampNeg) else
        if (gI S 18 4).toInt = 10 then (gA S 19 (j + 1), gA S 20 (j + 1), gA S 21 (j + 1), gA S 22 (j + 1)) else (gA S 19 j, gA S 20 j, gA S 21 j, gA S 22 j)) := by
  unfold f_X0_remember
  by_cases h : (gI S 18 4).toInt = 10
  · rw [if_neg (by rw [zlt, z10]; omega)]
    unfold f_X0_loseOldest
    obtain ⟨S1, q1, q2, q3, q4⟩ := lose_loop N (fun S14 => bnd (sI S14 18 4 9) fun S15 => some S15) 9 N S 1 (by decide) (by decide) (by decide) (by omega)
    obtain ⟨S2, r1, r2, r3, r4, r5, r6, r7⟩ := cRem13 (N := N) (S := sI S1 18 4 9) (r := r) (by show 0 ≤ (9 : Int32).toInt ∧ (9 : Int32).toInt < 10; decide) hr
    have s0 : gI (sI S1 18 4 9) 18 4 = 9 := rfl
    rw [s0, z9] at r3
    rw [s0] at r4 r5 r6 r7
    refine ⟨S2, ?_, (q2.tr (Sm.sI S1 _ ⟨rfl, rfl⟩)).tr r2, by rw [r3, if_pos h]; rfl, ?_⟩
    · rw [q1, bnd_eq, bs]; exact r1
    · intro j hj
      have f5 : gA (sI S1 18 4 9) 5 = gA S 5 := q2.2.1 5 (by decide)
      have f6 : gA (sI S1 18 4 9) 6 = gA S 6 := q2.2.1 6 (by decide)
      have f7 : gA (sI S1 18 4 9) 7 = gA S 7 := q2.2.1 7 (by decide)
      rw [r4, r5, r6, r7, r3, f5, f6, f7, if_pos h]
      have c9 : (9 : Int32).toNatClampNeg = 9 := by decide
      simp only [upd, c9]
      by_cases hj9 : j = 9
      · subst hj9
        simp only [if_true]
        rw [if_pos (by omega)]
      · simp only [if_neg hj9]
        rw [if_neg (by omega)]
        have t : ∀ c, caA c → gA (sI S1 18 4 9) c j = gA S c (j + 1) := fun c hc => by
          show gA S1 c j = _
          rw [q4 c hc j, if_pos (by rw [z1]; omega)]
        rw [t 19 (by decide), t 20 (by decide), t 21 (by decide), t 22 (by decide)]
  · rw [if_pos (by rw [zlt, z10]; omega)]
    obtain ⟨S2, r1, r2, r3, r4, r5, r6, r7⟩ := cRem13 (N := N) (S := S) (r := r) (by omega) hr
    refine ⟨S2, r1, r2, by rw [r3, if_neg h], ?_⟩
    intro j hj
    rw [r4, r5, r6, r7, r3, if_neg h]
    simp only [upd]
    by_cases hj9 : j = (gI S 18 4).toNatClampNeg
    · simp only [if_pos hj9]
      rw [if_pos (by rw [znat] at hj9; omega)]
    · simp only [if_neg hj9]
      rw [if_neg (by rw [znat] at hj9; omega)]
/-! the reference's notes -/
abbrev caB (c : Nat) : Prop := c = 10
abbrev ciB (c k : Nat) : Prop := c = 0 ∧ k = 22
theorem mul4 {x : Int32} (h0 : 0 ≤ x.toInt) (h1 : x.toInt ≤ 10) : ((4 : Int32) * x).toInt = 4 * x.toInt := zcmul z4 (by omega) (by omega)
theorem mul3 {x : Int32} (h0 : 0 ≤ x.toInt) (h1 : x.toInt ≤ 10) : ((3 : Int32) * x).toInt = 3 * x.toInt := zcmul z3 (by omega) (by omega)
theorem notes_shift (N : Nat) (a : Int32) (kk : St → Option St) : ∀ (m fuel : Nat) (T : St) (x : Int32), (36 - x.toInt).toNat = m → 0 ≤ x.toInt → x.toInt ≤ 36 → m < fuel →
    ∃ T', g_X10_notes_11 N a kk fuel T x = kk T' ∧ Sm T T' ciB caB ∧ gI T' 0 22 = gI T 0 22 ∧ ∀ j : Nat, gA T' 10 j = if x.toInt ≤ j ∧ j < 36 then gA T 10 (j + 4) else gA T 10 j := by
  intro m
  induction m with
  | zero =>
    intro fuel T x hm h1 h2 hf
    obtain ⟨f, rfl⟩ : ∃ f, fuel = f + 1 := ⟨fuel - 1, by omega⟩
    refine ⟨T, ?_, Sm.rf _ _ _, rfl, fun j => by rw [if_neg (by omega)]⟩
    show s_X10_notes_11 N a kk _ T x = _
    unfold s_X10_notes_11
    rw [if_pos (by rw [zle]; have : (36 : Int32).toInt = 36 := by decide
                   omega)]
  | succ m ih =>
    intro fuel T x hm h1 h2 hf
    obtain ⟨f, rfl⟩ : ∃ f, fuel = f + 1 := ⟨fuel - 1, by omega⟩
    have e1 : (x + 4).toInt = x.toInt + 4 := zadd (by rw [z4]; omega) (by rw [z4]; omega)
    have e2 : (x + 1).toInt = x.toInt + 1 := zadd (by rw [z1]; omega) (by rw [z1]; omega)
    have ga : ¬ (x < 0 ∨ 40 ≤ x.toNatClampNeg) := gok (by omega) (by omega)
    have gb : ¬ (x + 4 < 0 ∨ 40 ≤ (x + 4).toNatClampNeg) := gok (by omega) (by omega)
    obtain ⟨T', q1, q2, q3, q4⟩ := ih f (sA T 10 (upd (gA T 10) x.toNatClampNeg (gA T 10 (x + 4).toNatClampNeg))) (x + 1) (by rw [e2]; omega) (by omega) (by omega) (by omega)
    refine ⟨T', ?_, (Sm.sA T _ (ci := ciB) (ca := caB) rfl).tr q2, q3, fun j => ?_⟩
    · rw [← q1]
      show s_X10_notes_11 N a kk _ T x = _
      unfold s_X10_notes_11
      rw [if_neg (by rw [zle]; have : (36 : Int32).toInt = 36 := by decide
                     omega)]
      simp only [bnd_eq, if_neg ga, if_neg gb]
    · rw [q4 j, e2]
      have hz : gA (sA T 10 (upd (gA T 10) x.toNatClampNeg (gA T 10 (x + 4).toNatClampNeg))) 10 = upd (gA T 10) x.toNatClampNeg (gA T 10 (x + 4).toNatClampNeg) := rfl
      rw [hz]
      simp only [upd, znat, e1]
      by_cases h3 : x.toInt + 1 ≤ (j : Int) ∧ j < 36
      · rw [if_pos h3, if_neg (by omega), if_pos (by omega)]
      · rw [if_neg h3]
        by_cases h4 : j = x.toInt.toNat
        · rw [if_pos h4, if_pos (by omega)]
          congr 1; omega
        · rw [if_neg h4, if_neg (by omega)]
theorem notes_copy (N : Nat) (a : Int32) (kk : St → Option St) (b : Int32) (hb : 0 ≤ b.toInt ∧ b.toInt ≤ 36) (ha : 0 ≤ a.toInt ∧ a.toInt < 3) : ∀ (m fuel : Nat) (T : St) (x : Int32), (3 - x.toInt).toNat = m → 0 ≤ x.toInt → x.toInt ≤ 3 → m < fuel →
    ∃ T', g_X10_notes_59 N a kk fuel T b x = kk T' ∧ Sm T T' ciB caB ∧ gI T' 0 22 = gI T 0 22 ∧ ∀ j : Nat, gA T' 10 j = if b.toInt + 1 + x.toInt ≤ j ∧ j < b.toInt + 4 then gA T 7 (3 * a.toNatClampNeg + (j - b.toNatClampNeg - 1)) else gA T 10 j := by
  intro m
  induction m with
  | zero =>
    intro fuel T x hm h1 h2 hf
    obtain ⟨f, rfl⟩ : ∃ f, fuel = f + 1 := ⟨fuel - 1, by omega⟩
    refine ⟨T, ?_, Sm.rf _ _ _, rfl, fun j => by rw [if_neg (by omega)]⟩
    show s_X10_notes_59 N a kk _ T b x = _
    unfold s_X10_notes_59
    rw [if_pos (by rw [zle, z3]; omega)]
  | succ m ih =>
    intro fuel T x hm h1 h2 hf
    obtain ⟨f, rfl⟩ : ∃ f, fuel = f + 1 := ⟨fuel - 1, by omega⟩
    have e0 : ((3 : Int32) * a).toInt = 3 * a.toInt := mul3 ha.1 (by omega)
    have e1 : ((3 : Int32) * a + x).toInt = 3 * a.toInt + x.toInt := by rw [zadd (by rw [e0]; omega) (by rw [e0]; omega), e0]
    have e3 : (b + 1).toInt = b.toInt + 1 := by rw [zadd (by rw [z1]; omega) (by rw [z1]; omega), z1]
    have e4 : (b + 1 + x).toInt = b.toInt + 1 + x.toInt := by rw [zadd (by rw [e3]; omega) (by rw [e3]; omega), e3]
    have e2 : (x + 1).toInt = x.toInt + 1 := zadd (by rw [z1]; omega) (by rw [z1]; omega)
    have ga : ¬ ((3 : Int32) * a + x < 0 ∨ 10 ≤ ((3 : Int32) * a + x).toNatClampNeg) := gok (by omega) (by omega)
    have gb : ¬ (b + 1 + x < 0 ∨ 40 ≤ (b + 1 + x).toNatClampNeg) := gok (by omega) (by omega)
    obtain ⟨T', q1, q2, q3, q4⟩ := ih f (sA T 10 (upd (gA T 10) (b + 1 + x).toNatClampNeg (gA T 7 ((3 : Int32) * a + x).toNatClampNeg))) (x + 1) (by rw [e2]; omega) (by omega) (by omega) (by omega)
    refine ⟨T', ?_, (Sm.sA T _ (ci := ciB) (ca := caB) rfl).tr q2, q3, fun j => ?_⟩
    · rw [← q1]
      show s_X10_notes_59 N a kk _ T b x = _
      unfold s_X10_notes_59
      rw [if_neg (by rw [zle, z3]; omega)]
      simp only [bnd_eq, if_neg ga, if_neg gb]
    · rw [q4 j, e2]
      have hz : gA (sA T 10 (upd (gA T 10) (b + 1 + x).toNatClampNeg (gA T 7 ((3 : Int32) * a + x).toNatClampNeg))) 10 = upd (gA T 10) (b + 1 + x).toNatClampNeg (gA T 7 ((3 : Int32) * a + x).toNatClampNeg) := rfl
      have hz7 : gA (sA T 10 (upd (gA T 10) (b + 1 + x).toNatClampNeg (gA T 7 ((3 : Int32) * a + x).toNatClampNeg))) 7 = gA T 7 := rfl
      rw [hz, hz7]
      simp only [upd, znat, e1, e4]
      by_cases h3 : b.toInt + 1 + (x.toInt + 1) ≤ (j : Int) ∧ (j : Int) < b.toInt + 4
      · rw [if_pos h3, if_pos (by omega)]
      · rw [if_neg h3]
        by_cases h4 : j = (b.toInt + 1 + x.toInt).toNat
        · rw [if_pos h4, if_pos (by omega)]
          congr 1; omega
        · rw [if_neg h4, if_neg (by omega)]
theorem mN43 {N : Nat} (hN : 20 ≤ N) {T : St} {a : Int32} (hk : 0 ≤ (gI T 0 22).toInt ∧ (gI T 0 22).toInt < 10) (ha : 0 ≤ a.toInt ∧ a.toInt < 3) : ∃ T', f_X10_notes_43 N a T = some T' ∧ Sm T T' ciB caB ∧ (gI T' 0 22).toInt = (gI T 0 22).toInt + 1 ∧
    ∀ j : Nat, (j : Int) < (gI T 0 22).toInt + 1 → (gA T' 10 (4 * j), gA T' 10 (4 * j + 1), gA T' 10 (4 * j + 2), gA T' 10 (4 * j + 3)) = if (j : Int) = (gI T 0 22).toInt then (a, gA T 7 (3 * a.toNatClampNeg), gA T 7 (3 * a.toNatClampNeg + 1), gA T 7 (3 * a.toNatClampNeg + 2)) else (gA T 10 (4 * j), gA T 10 (4 * j + 1), gA T 10 (4 * j + 2), gA T 10 (4 * j + 3)) := by
  have e0 : ((4 : Int32) * gI T 0 22).toInt = 4 * (gI T 0 22).toInt := mul4 hk.1 (by omega)
  unfold f_X10_notes_43
  rw [bnd_eq, if_neg (gok (by omega) (by omega)), bnd_eq]
  generalize hb : (4 : Int32) * gI T 0 22 = b at e0 ⊢
  obtain ⟨T', q1, q2, q3, q4⟩ := notes_copy N a (fun S9 => bnd (sI S9 0 22 (gI S9 0 22 + 1)) fun S10 => some S10) b (by omega) ha 3 N (sA T 10 (upd (gA T 10) b.toNatClampNeg a)) 0 (by decide) (by decide) (by decide) (by omega)
  have z22 : gI T' 0 22 = gI T 0 22 := q3
  refine ⟨sI T' 0 22 (gI T' 0 22 + 1), by rw [q1, bnd_eq], ((Sm.sA T _ (ci := ciB) (ca := caB) rfl).tr q2).tr (Sm.sI T' _ (ci := ciB) (ca := caB) ⟨rfl, rfl⟩), ?_, ?_⟩
  · show (gI T' 0 22 + 1).toInt = _
    rw [z22, zadd (by rw [z1]; omega) (by rw [z1]; omega), z1]
  · intro j hj
    have t : ∀ i : Nat, gA (sI T' 0 22 (gI T' 0 22 + 1)) 10 i = if b.toInt + 1 ≤ i ∧ (i : Int) < b.toInt + 4 then gA T 7 (3 * a.toNatClampNeg + (i - b.toNatClampNeg - 1)) else (if i = b.toNatClampNeg then a else gA T 10 i) := by
      intro i
      show gA T' 10 i = _
      rw [q4 i, z0, Int.add_zero]
      rfl
    rw [t, t, t, t]
    simp only [znat, e0]
    by_cases h : (j : Int) = (gI T 0 22).toInt
    · rw [if_pos h, if_neg (by omega), if_pos (by omega), if_pos (by omega), if_pos (by omega), if_pos (by omega)]
      have a1 : 4 * j + 1 - (4 * (gI T 0 22).toInt).toNat - 1 = 0 := by omega
      have a2 : 4 * j + 2 - (4 * (gI T 0 22).toInt).toNat - 1 = 1 := by omega
      have a3 : 4 * j + 3 - (4 * (gI T 0 22).toInt).toNat - 1 = 2 := by omega
      rw [a1, a2, a3]; rfl
    · rw [if_neg h, if_neg (by omega), if_neg (by omega), if_neg (by omega), if_neg (by omega), if_neg (by omega), if_neg (by omega), if_neg (by omega), if_neg (by omega)]
theorem mNotes {N : Nat} (hN : 100 ≤ N) {T : St} {a : Int32} (hk : 0 ≤ (gI T 0 22).toInt ∧ (gI T 0 22).toInt ≤ 10) (ha : 0 ≤ a.toInt ∧ a.toInt < 3) : ∃ T', f_X10_notes N T a = some T' ∧ Sm T T' ciB caB ∧ (gI T' 0 22).toInt = (if (gI T 0 22).toInt = 10 then 10 else (gI T 0 22).toInt + 1) ∧
    ∀ j : Nat, (j : Int) < (gI T' 0 22).toInt → (gA T' 10 (4 * j), gA T' 10 (4 * j + 1), gA T' 10 (4 * j + 2), gA T' 10 (4 * j + 3)) = if (j : Int) + 1 = (gI T' 0 22).toInt then (a, gA T 7 (3 * a.toNatClampNeg), gA T 7 (3 * a.toNatClampNeg + 1), gA T 7 (3 * a.toNatClampNeg + 2)) else
      if (gI T 0 22).toInt = 10 then (gA T 10 (4 * (j + 1)), gA T 10 (4 * (j + 1) + 1), gA T 10 (4 * (j + 1) + 2), gA T 10 (4 * (j + 1) + 3)) else (gA T 10 (4 * j), gA T 10 (4 * j + 1), gA T 10 (4 * j + 2), gA T 10 (4 * j + 3)) := by
  unfold f_X10_notes
  by_cases h : (gI T 0 22).toInt = 10
  · rw [if_pos (by rw [zeq, z10]; exact h)]
    obtain ⟨T1, q1, q2, q3, q4⟩ := notes_shift N a (fun S15 => bnd (sI S15 0 22 9) fun S16 => f_X10_notes_43 N a S16) 36 N T 0 (by decide) (by decide) (by decide) (by omega)
    obtain ⟨T2, r1, r2, r3, r4⟩ := mN43 (N := N) (by omega) (T := sI T1 0 22 9) (a := a) (by show 0 ≤ (9 : Int32).toInt ∧ (9 : Int32).toInt < 10; decide) ha
    have s0 : gI (sI T1 0 22 9) 0 22 = 9 := rfl
    rw [s0, z9] at r3 r4
    refine ⟨T2, by rw [q1, bnd_eq]; exact r1, (q2.tr (Sm.sI T1 _ (ci := ciB) (ca := caB) ⟨rfl, rfl⟩)).tr r2, by rw [r3, if_pos h]; rfl, ?_⟩
    intro j hj
    rw [r4 j (by omega), r3, if_pos h]
    have f7 : gA (sI T1 0 22 9) 7 = gA T 7 := q2.2.1 7 (by decide)
    rw [f7]
    by_cases hj9 : (j : Int) = 9
    · rw [if_pos hj9, if_pos (by omega)]
    · rw [if_neg hj9, if_neg (by omega)]
      have t : ∀ i : Nat, i < 36 → gA (sI T1 0 22 9) 10 i = gA T 10 (i + 4) := fun i hi => by
        show gA T1 10 i = _
        rw [q4 i, if_pos (by rw [z0]; omega)]
      rw [t _ (by omega), t _ (by omega), t _ (by omega), t _ (by omega)]
      rfl
  · rw [if_neg (by rw [zeq, z10]; exact h)]
    obtain ⟨T2, r1, r2, r3, r4⟩ := mN43 (N := N) (by omega) (T := T) (a := a) (by omega) ha
    refine ⟨T2, r1, r2, by rw [r3, if_neg h], ?_⟩
    intro j hj
    rw [r4 j (by omega), r3, if_neg h]
    by_cases hj9 : (j : Int) = (gI T 0 22).toInt
    · rw [if_pos hj9, if_pos (by omega)]
    · rw [if_neg hj9, if_neg (by omega)]
