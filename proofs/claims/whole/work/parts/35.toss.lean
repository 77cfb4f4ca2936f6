/-! runs, toss, undo -/
def putR (S : St) (i k : Nat) (y b g : Int32) : St := sA (sA (sA S (5 + 5 * i) (upd (gA S (5 + 5 * i)) k y)) (6 + 5 * i) (upd (gA S (6 + 5 * i)) k b)) (7 + 5 * i) (upd (gA S (7 + 5 * i)) k g)
theorem cPut {S : St} {i : Nat} {a y b g : Int32} (h0 : 0 ≤ a.toInt) (h1 : a.toInt < 3) : f_X7_put S i a y b g = some (putR S i a.toNatClampNeg y b g) := by
  have gd0 : ¬ (a < 0 ∨ 3 ≤ a.toNatClampNeg) := gok h0 (by omega)
  have ge : ¬ (3 : Int32) ≤ a := by rw [zle, z3]; omega
  unfold f_X7_put
  rw [if_neg (show ¬ a < 0 by rw [zlt, z0]; omega), if_neg ge, if_neg ge, if_neg ge, if_neg gd0, bnd_eq, if_neg gd0, bnd_eq, if_neg gd0, bnd_eq]
  simp only [gA_sA, if_neg (show ¬ 6 + 5 * i = 5 + 5 * i by omega), if_neg (show ¬ 7 + 5 * i = 6 + 5 * i by omega), if_neg (show ¬ 7 + 5 * i = 5 + 5 * i by omega)]
  rfl
theorem RR.put {n : Nat} {yd : Int} {a b c s a' b' c' s' : Nat → Int32} {o : Nat} (h : RR n yd a b c s o) {k : Nat} {y bt g : Int32} (hy : 0 ≤ y.toInt ∧ y.toInt ≤ yd) (hb : 0 ≤ bt.toInt ∧ bt.toInt ≤ 20 * (n + 1 : Nat)) (hg : 0 ≤ g.toInt ∧ g.toInt ≤ (n + 1 : Nat))
    (ha' : ∀ r, r < 3 → a' r = if r = k then y else a r) (hb' : ∀ r, r < 3 → b' r = if r = k then bt else b r) (hc' : ∀ r, r < 3 → c' r = if r = k then g else c r)
    (hs' : ∀ j, j < 9 → s' (o + j) = if j = 3 * k then y else if j = 3 * k + 1 then bt else if j = 3 * k + 2 then g else s (o + j)) : RR (n + 1) yd a' b' c' s' o := by
  intro r hr
  have s0 := hs' (3 * r) (by omega)
  have s1 := hs' (3 * r + 1) (by omega)
  have s2 := hs' (3 * r + 2) (by omega)
  rw [← Nat.add_assoc] at s1 s2
  rw [ha' r hr, hb' r hr, hc' r hr]
  by_cases hrk : r = k
  · subst hrk
    rw [if_pos rfl] at s0
    rw [if_neg (by omega), if_pos rfl] at s1
    rw [if_neg (by omega), if_neg (by omega), if_pos rfl] at s2
    simp only [if_true]
    exact ⟨s0.symm, s1.symm, s2.symm, hy.1, hy.2, hb.1, hb.2, hg.1, hg.2⟩
  · rw [if_neg (by omega), if_neg (by omega), if_neg (by omega)] at s0 s1 s2
    simp only [if_neg hrk]
    rw [s0, s1, s2]
    exact h.mono r hr
theorem gA_put {S : St} {k : Nat} {y b g : Int32} (c : Nat) : gA (putR S 0 k y b g) c = if c = 7 then upd (gA S 7) k g else if c = 6 then upd (gA S 6) k b else if c = 5 then upd (gA S 5) k y else gA S c := by
  unfold putR
  simp only [gA_sA]
/-- an act done: what is left of the invariant -/
theorem Inv.act {n : Nat} {S T S1 T1 S2 T2 : St} (h : Inv n S T) (hs : Sm S S1 ciA caA) (ht : ScM T T1) (hA : IvA n S1 T1) {k : Nat} {y b g : Int32} (hy : 0 ≤ y.toInt ∧ y.toInt ≤ (gI T 0 14).toInt) (hb : 0 ≤ b.toInt ∧ b.toInt ≤ 20 * (n + 1 : Nat)) (hg : 0 ≤ g.toInt ∧ g.toInt ≤ (n + 1 : Nat)) {lot : Int32}
    (e1 : gI S2 = gI (sI S1 4 3 lot)) (e2 : ∀ c, gA S2 c = if c = 7 then upd (gA S1 7) k g else if c = 6 then upd (gA S1 6) k b else if c = 5 then upd (gA S1 5) k y else gA S1 c) (e3 : gJ S2 = gJ S1 ∧ gCo S2 = gCo S1 ∧ gSp S2 = gSp S1)
    (f1 : ∀ c j, ¬ (c = 0 ∧ (k = k) ∧ (25 ≤ j ∧ j ≤ 27)) → gI T2 c j = gI T1 c j) (f2 : ∀ c, c ≠ 7 → gA T2 c = gA T1 c) (f3 : ∀ j, j < 9 → gA T2 7 j = if j = 3 * k then y else if j = 3 * k + 1 then b else if j = 3 * k + 2 then g else gA T1 7 j) (f4 : gA T2 7 9 = lot) (f5 : gJ T2 = gJ T1) : Inv (n + 1) S2 T2 := by
  have hI1 : Inv n S1 T1 := h.sc hs.scA ht hA
  have h14 : gI T1 0 14 = gI T 0 14 := ht.1 0 14 (by omega)
  -- the lane's cells stay
  obtain ⟨i1, i2, i3, i4, i5, i6, i7⟩ := hI1.mono
  have i3' := hI1.2.2.1.1
  have a2 : ∀ c, c ≠ 5 → c ≠ 6 → c ≠ 7 → gA S2 c = gA S1 c := fun c q1 q2 q3 => by rw [e2, if_neg q3, if_neg q2, if_neg q1]
  have ei : ∀ c j, ¬ (c = 4 ∧ j = 3) → gI S2 c j = gI S1 c j := fun c j q => by
    rw [e1, gI_sI]
    by_cases c4 : c = 4
    · subst c4; rw [if_pos rfl, if_neg (fun z => q ⟨rfl, z⟩)]
    · rw [if_neg c4]
  have t14 : gI T2 0 14 = gI T1 0 14 := f1 0 14 (by omega)
  have t15 : gI T2 0 15 = gI T1 0 15 := f1 0 15 (by omega)
  refine ⟨?_, ⟨by rw [e3.2.1, e3.2.2]; exact i2.1, ?_⟩, ⟨?_, ?_⟩, ?_, ?_, ?_, by rw [e3.1, f5]; exact i7⟩
  · obtain ⟨b1, b2, b3, b4⟩ := i1
    have e := ei 1 1 (by omega)
    have e3' := f1 0 3 (by omega)
    refine ⟨by rw [e, e3']; exact b1, by rw [e]; exact b2, by rw [e]; exact b3, fun q hq => ?_⟩
    rw [e] at hq
    rw [a2 2 (by omega) (by omega) (by omega), f2 1 (by omega)]
    exact b4 q hq
  · obtain ⟨⟨d1, d2, d3, d4, d5⟩, hg', hw, hwt, hp, hpn⟩ := i2.2
    rw [e3.2.1]
    have nc : (gCo S1).toNat < 2 := Bool.toNat_lt _
    generalize (gCo S1).toNat = bb at *
    have i : ∀ q, gI S2 (33 + 5 * bb) q = gI S1 (33 + 5 * bb) q := fun q => ei _ _ (by omega)
    have j : ∀ q, 1 ≤ q → q ≤ 4 → gA S2 (33 + 5 * bb + q) = gA S1 (33 + 5 * bb + q) := fun q q1 q2 => a2 _ (by omega) (by omega) (by omega)
    have g6 := f2 6 (by omega)
    refine ⟨⟨by rw [i, t14]; exact d1, by rw [i, t15]; exact d2, by rw [i, g6]; exact d3, by rw [i, g6]; exact d4, by rw [i, g6]; exact d5⟩, by rw [t14, t15, g6]; exact hg', fun q hq => ?_, fun q hq => ?_, fun q hq => ?_, fun q hq => ?_⟩
    · rw [j 1 (by omega) (by omega), f2 2 (by omega)]; exact hw q hq
    · rw [j 2 (by omega) (by omega), f2 3 (by omega)]; exact hwt q hq
    · rw [t15] at hq
      rw [j 3 (by omega) (by omega), f2 4 (by omega)]; exact hp q hq
    · rw [t15] at hq
      rw [j 4 (by omega) (by omega), f2 5 (by omega)]; exact hpn q hq
  · rw [t14]
    refine i3'.put (k := k) (by rw [h14]; exact hy) hb hg (fun r _ => ?_) (fun r _ => ?_) (fun r _ => ?_) (fun r hr => ?_)
    · rw [e2]; simp only [upd]; rfl
    · rw [e2]; simp only [upd]; rfl
    · rw [e2]; simp only [upd]; rfl
    · rw [Nat.zero_add]; exact f3 r hr
  · rw [f4, e1, gI_sI]; rfl
  · intro j hj
    obtain ⟨q1, q2, q3⟩ := i4 j hj
    have e := f2 9 (by omega)
    refine ⟨by rw [ei _ _ (by omega), e]; exact q1, by rw [e]; exact q2, fun hq => ?_⟩
    rw [e] at hq
    obtain ⟨q4, q5⟩ := q3 hq
    refine ⟨?_, by rw [ei _ _ (by omega), f2 8 (by omega)]; exact q5⟩
    rw [t14, a2 _ (by omega) (by omega) (by omega), a2 _ (by omega) (by omega) (by omega), a2 _ (by omega) (by omega) (by omega), f2 8 (by omega)]
    exact q4
  · obtain ⟨b1, b2, b3, b4⟩ := i5
    have e := ei 18 4 (by omega)
    have e2' := f1 0 22 (by omega)
    refine ⟨by rw [e, e2']; exact b1, by rw [e2']; exact b2, by rw [e2']; exact b3, fun q hq => ?_⟩
    rw [e2'] at hq
    rw [a2 19 (by omega) (by omega) (by omega), a2 20 (by omega) (by omega) (by omega), a2 21 (by omega) (by omega) (by omega), a2 22 (by omega) (by omega) (by omega), f2 10 (by omega), t14]
    exact b4 q hq
  · obtain ⟨b1, b2, b3, b4⟩ := i6
    have e := ei 23 2 (by omega)
    have e2' := f1 0 24 (by omega)
    refine ⟨by rw [e, e2']; exact b1, by rw [e2']; exact b2, by rw [e2']; exact b3, fun q hq => ?_⟩
    rw [e2'] at hq
    rw [a2 24 (by omega) (by omega) (by omega), a2 25 (by omega) (by omega) (by omega), f2 11 (by omega)]
    exact b4 q hq
theorem h3r {a : Int32} (h : 0 ≤ a.toInt ∧ a.toInt < 3) : ((3 : Int32) * a).toInt = 3 * a.toInt ∧ ((3 : Int32) * a).toNatClampNeg = 3 * a.toNatClampNeg := by
  have e := mul3 h.1 (by omega)
  exact ⟨e, by rw [znat, znat, e]; omega⟩
theorem h3r1 {a : Int32} (h : 0 ≤ a.toInt ∧ a.toInt < 3) : ((3 : Int32) * a + 1).toInt = 3 * a.toInt + 1 ∧ ((3 : Int32) * a + 1).toNatClampNeg = 3 * a.toNatClampNeg + 1 := by
  have e := (h3r h).1
  have e2 : ((3 : Int32) * a + 1).toInt = 3 * a.toInt + 1 := by rw [zadd (by rw [e, z1]; omega) (by rw [e, z1]; omega), e, z1]
  exact ⟨e2, by rw [znat, znat, e2]; omega⟩
theorem h3r2 {a : Int32} (h : 0 ≤ a.toInt ∧ a.toInt < 3) : ((3 : Int32) * a + 2).toInt = 3 * a.toInt + 2 ∧ ((3 : Int32) * a + 2).toNatClampNeg = 3 * a.toNatClampNeg + 2 := by
  have e := (h3r h).1
  have e2 : ((3 : Int32) * a + 2).toInt = 3 * a.toInt + 2 := by rw [zadd (by rw [e, z2]; omega) (by rw [e, z2]; omega), e, z2]
  exact ⟨e2, by rw [znat, znat, e2]; omega⟩
theorem cAtEnd {S : St} {a : Int32} (h : 0 ≤ a.toInt ∧ a.toInt < 3) : f_X9_isAtEnd S a = some (if gA S 5 a.toNatClampNeg < gI S (33 + 5 * (gCo S).toNat) 4 then 0 else 1) := by
  unfold f_X9_isAtEnd
  rw [cYardOf (i := 0) h.1 h.2, bs]
  by_cases q : gA S (5 + 5 * 0) a.toNatClampNeg < gI S (33 + 5 * (gCo S).toNat) 4
  · rw [if_pos q, if_pos (show gA S 5 a.toNatClampNeg < _ from q)]
  · rw [if_neg q, if_neg (show ¬ gA S 5 a.toNatClampNeg < _ from q)]
theorem if01 {α : Type} (p : Prop) [Decidable p] (a b : α) : (if (if p then (0 : Int32) else 1) = 0 then a else b) = if p then a else b := by
  by_cases h : p
  · rw [if_pos h, if_pos h, if_pos rfl]
  · rw [if_neg h, if_neg h, if_neg one_ne]
theorem cOnRun {S T : St} {i : Nat} (hL : IvLb S T (33 + 5 * i)) {r y b : Int32} (hr : isR T r) : f_X3_yardOnRun S i r y b = some (if (y + gA T 4 r.toNatClampNeg * b) < gI T 0 14 then (y + gA T 4 r.toNatClampNeg * b) else gI T 0 14) := by
  have hg := hL.2.1
  unfold f_X3_yardOnRun
  rw [cPaceOf hr.1 (by omega), bs, show 36 + 5 * i = 33 + 5 * i + 3 by omega, (hL.2.2.2.2.1 r.toNatClampNeg (by rw [znat]; omega)).1, hL.1.1]
theorem p_runs {n N : Nat} (hN : 100 ≤ N) (hn : n < 1000) {S T : St} (h : Inv n S T) (a b : Int32) : Step n (f_X9_runs N S a b) (f_X10_runs N T a b) := by
  have hL := h.2.1.2
  have hg := hL.2.1
  unfold f_X9_runs f_X10_runs
  rw [cIsR hL, bs, if10, bnd_eq, mIsR (T := sI T 0 0 0) (by show 0 ≤ (gI T 0 15).toInt; omega), bs, if10, in_eq, bs, if10]
  have ht0 : Inv n S (sI T 0 0 0) := h.thrown 0
  by_cases h1 : isR T a
  · rw [if_pos h1, if_pos (show isR (sI T 0 0 0) a from h1), z1, z9]
    have ha3 : 0 ≤ a.toInt ∧ a.toInt < 3 := by omega
    by_cases h2 : 1 ≤ b.toInt ∧ b.toInt ≤ 9
    · rw [if_pos h2, if_neg (by rw [zlt, z1]; omega), if_pos (by rw [zle, z9]; omega), cAtEnd ha3, bs, if01, hL.1.1]
      obtain ⟨m1, m2⟩ := h3r ha3
      obtain ⟨m3, m4⟩ := h3r1 ha3
      obtain ⟨r1, r2, r3, r4, r5, r6, r7, r8, r9⟩ := h.2.2.1.1 a.toNatClampNeg (by rw [znat]; omega)
      rw [Nat.zero_add] at r1 r2 r3
      have gm : ¬ ((3 : Int32) * a < 0 ∨ 10 ≤ ((3 : Int32) * a).toNatClampNeg) := gok (by omega) (by omega)
      have gm1 : ¬ ((3 : Int32) * a + 1 < 0 ∨ 10 ≤ ((3 : Int32) * a + 1).toNatClampNeg) := gok (by omega) (by omega)
      have gm2 : ¬ ((3 : Int32) * a < 0 ∨ 10 ≤ 3 * a.toNatClampNeg) := by rw [← m2]; exact gm
      rw [if_neg gm, m2]
      have e7 : gA (sI T 0 0 0) 7 (3 * a.toNatClampNeg) = gA S 5 a.toNatClampNeg := r1.symm
      have e14 : gI (sI T 0 0 0) 0 14 = gI T 0 14 := rfl
      rw [e7, e14]
      by_cases h3 : gA S 5 a.toNatClampNeg = gI T 0 14
      · rw [if_pos h3, if_neg (by rw [zlt, h3]; omega)]
        exact ⟨-2, S, _, rfl, rfl, ht0.mono⟩
      · rw [if_neg h3]
        rw [zeq] at h3
        rw [if_pos (by rw [zlt]; omega)]
        obtain ⟨S1, T1, p1, p2, p3, p4, p5⟩ := bothNotes (N := N) hN ht0 (a := a) h1
        have hL1 := (h.sc p3.scA (T1 := T1) ((show ScM T (sI T 0 0 0) from ⟨fun c k q => (Sm.sI T (c := 0) (k := 0) 0 (ci := fun c k => c = 0 ∧ k = 0) (ca := fun _ => False) ⟨rfl, rfl⟩).1 c k (fun z => q ⟨z.1, Or.inl z.2⟩), fun _ _ _ => rfl, rfl⟩) |> fun hz => ⟨fun c k q => (p4.scB.1 c k q).trans (hz.1 c k q), fun c j q => (p4.scB.2.1 c j q).trans (hz.2.1 c j q), p4.scB.2.2.trans hz.2.2⟩) p5)
        have sc : ScM T T1 := (show ScM T (sI T 0 0 0) from ⟨fun c k q => (Sm.sI T (c := 0) (k := 0) 0 (ci := fun c k => c = 0 ∧ k = 0) (ca := fun _ => False) ⟨rfl, rfl⟩).1 c k (fun z => q ⟨z.1, Or.inl z.2⟩), fun _ _ _ => rfl, rfl⟩) |> fun hz => ⟨fun c k q => (p4.scB.1 c k q).trans (hz.1 c k q), fun c j q => (p4.scB.2.1 c j q).trans (hz.2.1 c j q), p4.scB.2.2.trans hz.2.2⟩
        have hLb := hL1.2.1.2
        have k15 : gI T1 0 15 = gI T 0 15 := sc.1 0 15 (by omega)
        have k14 : gI T1 0 14 = gI T 0 14 := sc.1 0 14 (by omega)
        have h1' : isR T1 a := by unfold isR; rw [k15]; exact h1
        have s5 : gA S1 5 = gA S 5 := p3.2.1 5 (by decide)
        have s6 : gA S1 6 = gA S 6 := p3.2.1 6 (by decide)
        have s7 : gA S1 7 = gA S 7 := p3.2.1 7 (by decide)
        have t7 : gA T1 7 = gA T 7 := p4.2.1 7 (by decide)
        have t4 : gA T1 4 = gA T 4 := p4.2.1 4 (by decide)
        rw [p1, p2, bs, bs, cYardOf (i := 0) ha3.1 ha3.2, bs, cOnRun hLb h1', bs, cBeatsOf (i := 0) ha3.1 ha3.2, bs, cGoodOf (i := 0) ha3.1 ha3.2, bs, cPut ha3.1 ha3.2, bs]
        rw [if_neg gm2, if_neg (gok ha3.1 (by omega)), bnd_eq]
        have hpc := hLb.2.2.2.2.1 a.toNatClampNeg (by rw [znat, k15]; omega)
        have q7 : gA T1 7 (3 * a.toNatClampNeg) = gA S1 5 a.toNatClampNeg := by rw [t7, s5]; exact r1.symm
        rw [q7]
        show Step n (some (if gA S1 5 a.toNatClampNeg + gA T1 4 a.toNatClampNeg * b < gI T1 0 14 then gA S1 5 a.toNatClampNeg + gA T1 4 a.toNatClampNeg * b else gI T1 0 14, putR S1 0 a.toNatClampNeg (if gA S1 5 a.toNatClampNeg + gA T1 4 a.toNatClampNeg * b < gI T1 0 14 then gA S1 5 a.toNatClampNeg + gA T1 4 a.toNatClampNeg * b else gI T1 0 14) (gA S1 6 a.toNatClampNeg + b) (gA S1 7 a.toNatClampNeg))) _
        have ep : (gA T1 4 a.toNatClampNeg * b).toInt = (gA T1 4 a.toNatClampNeg).toInt * b.toInt ∧ 0 ≤ (gA T1 4 a.toNatClampNeg).toInt * b.toInt ∧ (gA T1 4 a.toNatClampNeg).toInt * b.toInt ≤ 36 := by
          have := hpc.2
          have q : (gA T1 4 a.toNatClampNeg).toInt = 1 ∨ (gA T1 4 a.toNatClampNeg).toInt = 2 ∨ (gA T1 4 a.toNatClampNeg).toInt = 3 ∨ (gA T1 4 a.toNatClampNeg).toInt = 4 := by omega
          rcases q with q | q | q | q <;> rw [zcmul q (by omega) (by omega), q] <;> omega
        have ef : (gA S1 5 a.toNatClampNeg + gA T1 4 a.toNatClampNeg * b).toInt = (gA S1 5 a.toNatClampNeg).toInt + (gA T1 4 a.toNatClampNeg).toInt * b.toInt := by
          rw [zadd (by rw [ep.1, s5]; omega) (by rw [ep.1, s5]; omega), ep.1]
        -- the model's value
        have key : ∀ v : Int32, v = (if gA S1 5 a.toNatClampNeg + gA T1 4 a.toNatClampNeg * b < gI T1 0 14 then gA S1 5 a.toNatClampNeg + gA T1 4 a.toNatClampNeg * b else gI T1 0 14) → Step n (some (v, putR S1 0 a.toNatClampNeg v (gA S1 6 a.toNatClampNeg + b) (gA S1 7 a.toNatClampNeg))) (f_X10_runs_89 N a b T1 ((3 : Int32) * a) v) := by
          intro v hv
          have hvb : 0 ≤ v.toInt ∧ v.toInt ≤ (gI T1 0 14).toInt := by
            have r4' : 0 ≤ (gA S1 5 a.toNatClampNeg).toInt := by rw [s5]; exact r4
            rw [hv]
            by_cases hc : gA S1 5 a.toNatClampNeg + gA T1 4 a.toNatClampNeg * b < gI T1 0 14
            · rw [if_pos hc]; rw [zlt, ef] at hc; rw [ef]; omega
            · rw [if_neg hc, k14]; omega
          unfold f_X10_runs_89
          rw [if_neg gm, bnd_eq, if_neg gm1, if_neg gm1, bnd_eq, if_neg gm, m2, m4]
          have x1 : gA (sA T1 7 (upd (gA T1 7) (3 * a.toNatClampNeg) v)) 7 = upd (gA T1 7) (3 * a.toNatClampNeg) v := rfl
          have x2 : ∀ f, gA (sA (sA T1 7 (upd (gA T1 7) (3 * a.toNatClampNeg) v)) 7 f) 7 = f := fun f => rfl
          have x3 : upd (gA T1 7) (3 * a.toNatClampNeg) v (3 * a.toNatClampNeg + 1) = gA S1 6 a.toNatClampNeg := by
            simp only [upd]; rw [if_neg (by omega), t7, s6]; exact r2.symm
          have x4 : upd (upd (gA T1 7) (3 * a.toNatClampNeg) v) (3 * a.toNatClampNeg + 1) (gA S1 6 a.toNatClampNeg + b) (3 * a.toNatClampNeg) = v := by
            simp only [upd]; rw [if_neg (by omega)]; simp only [if_true]
          rw [x1, x3, x2, x4]
          refine ⟨v, _, _, rfl, rfl, ?_⟩
          have eb : (gA S1 6 a.toNatClampNeg + b).toInt = (gA S1 6 a.toNatClampNeg).toInt + b.toInt := by rw [s6]; exact zadd (by omega) (by omega)
          refine Inv.act (k := a.toNatClampNeg) (y := v) (b := gA S1 6 a.toNatClampNeg + b) (g := gA S1 7 a.toNatClampNeg) (lot := gI S1 4 3) h p3 sc p5 (by rw [← k14]; exact hvb) ?_ ?_ ?_ (fun c => gA_put c) ⟨rfl, rfl, rfl⟩ (fun c j _ => rfl) (fun c hc => ?_) (fun j hj => ?_) ?_ rfl
          · rw [eb, s6]; omega
          · rw [s7]; omega
          · show gI S1 = _
            funext c' k'
            rw [gI_sI]
            by_cases c4 : c' = 4
            · by_cases k3 : k' = 3
              · subst c4; subst k3; rw [if_pos rfl, if_pos rfl]
              · subst c4; rw [if_pos rfl, if_neg k3]
            · rw [if_neg c4]
          · rw [gA_sA, if_neg hc, gA_sA, if_neg hc]
          · show upd (upd (gA T1 7) (3 * a.toNatClampNeg) v) (3 * a.toNatClampNeg + 1) (gA S1 6 a.toNatClampNeg + b) j = _
            simp only [upd]
            by_cases j0 : j = 3 * a.toNatClampNeg
            · rw [if_neg (by omega), if_pos j0, if_pos j0]
            · by_cases j1 : j = 3 * a.toNatClampNeg + 1
              · rw [if_pos j1, if_neg j0, if_pos j1]
              · rw [if_neg j1, if_neg j0, if_neg j0, if_neg j1]
                by_cases j2 : j = 3 * a.toNatClampNeg + 2
                · rw [if_pos j2, j2, t7, s7]; exact r3.symm
                · rw [if_neg j2]
          · show upd (upd (gA T1 7) (3 * a.toNatClampNeg) v) (3 * a.toNatClampNeg + 1) (gA S1 6 a.toNatClampNeg + b) 9 = _
            simp only [upd]
            rw [if_neg (by rw [znat]; omega), if_neg (by rw [znat]; omega), t7, ← h.2.2.1.2]
            exact (p3.1 4 3 (by decide)).symm
        by_cases hc : (gA S1 5 a.toNatClampNeg + gA T1 4 a.toNatClampNeg * b) ≤ gI T1 0 14
        · rw [if_pos hc]
          rw [zle] at hc
          have e : (if gA S1 5 a.toNatClampNeg + gA T1 4 a.toNatClampNeg * b < gI T1 0 14 then gA S1 5 a.toNatClampNeg + gA T1 4 a.toNatClampNeg * b else gI T1 0 14) = gA S1 5 a.toNatClampNeg + gA T1 4 a.toNatClampNeg * b := by
            by_cases hd : gA S1 5 a.toNatClampNeg + gA T1 4 a.toNatClampNeg * b < gI T1 0 14
            · rw [if_pos hd]
            · rw [if_neg hd]; rw [zlt] at hd; rw [zeq]; omega
          rw [e]
          exact key _ e.symm
        · rw [if_neg hc]
          rw [zle] at hc
          have e : (if gA S1 5 a.toNatClampNeg + gA T1 4 a.toNatClampNeg * b < gI T1 0 14 then gA S1 5 a.toNatClampNeg + gA T1 4 a.toNatClampNeg * b else gI T1 0 14) = gI T1 0 14 := by
            rw [if_neg (by rw [zlt]; omega)]
          rw [e]
          exact key _ e.symm
    · rw [if_neg h2]
      refine ⟨-1, S, _, ?_, rfl, ht0.mono⟩
      by_cases h3 : b < 1
      · rw [if_pos h3]
      · rw [if_neg h3, if_neg (by rw [zle, z9]; rw [zlt, z1] at h3; omega)]
  · rw [if_neg h1, if_neg (show ¬ isR (sI T 0 0 0) a from h1)]
    exact ⟨-1, S, _, rfl, rfl, ht0.mono⟩
