/-! the reference fills its table -/
def rdM (b need : Int) (g : Nat → Int64) (l : Int) (y m : Nat) : Int64 := g (125 * y + 5 * (b - l).toNat + (need.toNat - m))
theorem atE {y b m : Int32} (hy : 0 ≤ y.toInt ∧ y.toInt ≤ 24) (hb : 0 ≤ b.toInt ∧ b.toInt ≤ 24) (hm : 0 ≤ m.toInt ∧ m.toInt ≤ 4) : ((((125 : Int32) * y) + ((5 : Int32) * b)) + m).toInt = 125 * y.toInt + 5 * b.toInt + m.toInt := by
  have z125 : (125 : Int32).toInt = 125 := by decide
  have e1 : ((125 : Int32) * y).toInt = 125 * y.toInt := zcmul z125 (by omega) (by omega)
  have e2 : ((5 : Int32) * b).toInt = 5 * b.toInt := zcmul z5 (by omega) (by omega)
  have e3 : (((125 : Int32) * y) + ((5 : Int32) * b)).toInt = 125 * y.toInt + 5 * b.toInt := by rw [zadd (by omega) (by omega), e1, e2]
  rw [zadd (by omega) (by omega), e3]
theorem atN {y b m : Int32} (hy : 0 ≤ y.toInt ∧ y.toInt ≤ 24) (hb : 0 ≤ b.toInt ∧ b.toInt ≤ 24) (hm : 0 ≤ m.toInt ∧ m.toInt ≤ 4) : ((((125 : Int32) * y) + ((5 : Int32) * b)) + m).toNatClampNeg = 125 * y.toInt.toNat + 5 * b.toInt.toNat + m.toInt.toNat := by
  rw [znat, atE hy hb hm]; omega
theorem atG {y b m : Int32} (hy : 0 ≤ y.toInt ∧ y.toInt ≤ 24) (hb : 0 ≤ b.toInt ∧ b.toInt ≤ 24) (hm : 0 ≤ m.toInt ∧ m.toInt ≤ 4) : ¬ (((((125 : Int32) * y) + ((5 : Int32) * b)) + m) < 0 ∨ 3125 ≤ ((((125 : Int32) * y) + ((5 : Int32) * b)) + m).toNatClampNeg) := by
  have e := atE hy hb hm
  exact gok (by omega) (by omega)
theorem sBtLb {S T : St} {b : Nat} (h : IvLb S T b) (c : Nat) (f : Nat → Int64) : IvLb S (sB T c f) b := h
theorem mToss {S T0 : St} {i : Nat} {r y rn u f t v be ge b : Int32} (g : Nat → Int64) (hL : IvLb S T0 (33 + 5 * i)) (hr : isR T0 r) (hy : isY T0 y) (ht : isTo u f t rn) (hv : v.toInt = cv T0 r y u f t rn) (hb : 0 ≤ b.toInt ∧ b.toInt ≤ 24) (hbe : 0 ≤ be.toInt ∧ be.toInt ≤ b.toInt) (hg : 0 ≤ ge.toInt ∧ ge.toInt ≤ (gA T0 6 5).toInt) :
    ∃ T1, SmR T0 T1 ∧ f_X10_byToss (sB T0 12 g) r y be ge b rn (num u f t) = some (tossV v (rdg (rdM b.toInt (gA T0 6 5).toInt g) (b.toInt - be.toInt - 2 * u.toInt) (wv T0 r y u rn).toNat (((gA T0 6 5).toInt - ge.toInt).toNat - 1)) (rdg (rdM b.toInt (gA T0 6 5).toInt g) (b.toInt - be.toInt - 2 * u.toInt - (gA T0 6 6).toInt) (wv T0 r y u rn).toNat ((gA T0 6 5).toInt - ge.toInt).toNat), sB T1 12 g) := by
  obtain ⟨g1, g2, g3, g4, g5, g6, g7, g8, g9, g10⟩ := hL.2.1
  obtain ⟨n1, n2, n3⟩ := numE ht.1 ht.2.1 ht.2.2.1
  obtain ⟨v', wh, d1, d2, d3, d4, d5, d6, d7, d8, d9⟩ := bothV (S := S) (T := sB T0 12 g) (i := i) (rn := rn) (f := f) (t := t) (u := u) (sBtLb hL 12 g) hr hy ht
  have ev : v' = v := by rw [zeq, d8, hv]; rfl
  subst ev
  generalize hT1 : rck T0 ((y + f) - (u * gA T0 2 y.toNatClampNeg)) wh (t * u) = T1
  have hst : rck (sB T0 12 g) ((y + f) - (u * gA (sB T0 12 g) 2 y.toNatClampNeg)) wh (t * u) = sB T1 12 g := by rw [← hT1]; rfl
  rw [hst] at d3
  have s1 : SmR T0 T1 := by rw [← hT1]; exact SmR.rck T0 _ _ _
  have a6 : gA (sB T1 12 g) 6 = gA T0 6 := s1.2.1 6 id
  have i26 : gI (sB T1 12 g) 0 26 = wh := by rw [← hT1]; rfl
  have b12 : gB (sB T1 12 g) 12 = g := gBu T1 12 g
  refine ⟨T1, s1, ?_⟩
  have w9 : wh.toInt = wv T0 r y u rn := d9
  have d7 : wh.toInt ≤ (gI T0 0 14).toInt := d7
  have c5 : (5 : Int32).toNatClampNeg = 5 := by decide
  have c6 : (6 : Int32).toNatClampNeg = 6 := by decide
  have eu : (u * 2).toInt = 2 * u.toInt := by rw [zmulc z2 (by have := ht.1; omega) (by have := ht.1; omega)]; omega
  have hu := ht.1
  have e2 : (be + u * 2).toInt = be.toInt + 2 * u.toInt := by rw [zadd (by omega) (by omega), eu]
  have e4 : (be + u * 2 + gA T0 6 6).toInt = be.toInt + 2 * u.toInt + (gA T0 6 6).toInt := by rw [zadd (by omega) (by omega), e2]
  unfold f_X10_byToss f_X10_sureOf
  rw [n1, n2, n3, d3, bs, bs, bnd_eq, if_neg g6_14, bnd_eq, if_neg g5_14, a6, c5, c6]
  have hw24 : 0 ≤ wh.toInt ∧ wh.toInt ≤ 24 := ⟨d6, by omega⟩
  have hg4 : 0 ≤ ge.toInt ∧ ge.toInt ≤ 4 := ⟨hg.1, by omega⟩
  -- the part that is dropped
  have dropped : ∀ x : Int64, f_X10_byToss_84 ge b (sB T1 12 g) v' (be + u * 2 + gA T0 6 6) x = some (tossV v' x (rdg (rdM b.toInt (gA T0 6 5).toInt g) (b.toInt - be.toInt - 2 * u.toInt - (gA T0 6 6).toInt) (wv T0 r y u rn).toNat ((gA T0 6 5).toInt - ge.toInt).toNat), sB T1 12 g) := by
    intro x
    unfold f_X10_byToss_84 f_X10_at f_X10_byToss_113 rdg
    rw [bs, i26, b12]
    by_cases q : be + u * 2 + gA T0 6 6 ≤ b
    · rw [if_pos q]
      rw [zle, e4] at q
      rw [if_neg (atG hw24 ⟨by omega, by omega⟩ hg4), atN hw24 ⟨by omega, by omega⟩ hg4, if_neg (by omega)]
      unfold rdM
      rw [e4, ← w9, show (b.toInt - (b.toInt - be.toInt - 2 * u.toInt - (gA T0 6 6).toInt)).toNat = (be.toInt + 2 * u.toInt + (gA T0 6 6).toInt).toNat by omega, show (gA T0 6 5).toInt.toNat - ((gA T0 6 5).toInt - ge.toInt).toNat = ge.toInt.toNat by omega]
      rfl
    · rw [if_neg q]
      rw [zle, e4] at q
      rw [if_pos (by omega)]
      rfl
  have caught : ∀ gg : Int32, 0 ≤ gg.toInt → gg.toInt ≤ 4 → gg.toInt.toNat = (gA T0 6 5).toInt.toNat - (((gA T0 6 5).toInt - ge.toInt).toNat - 1) → f_X10_byToss_55 ge b (sB T1 12 g) v' (be + u * 2) (be + u * 2 + gA T0 6 6) gg = some (tossV v' (rdg (rdM b.toInt (gA T0 6 5).toInt g) (b.toInt - be.toInt - 2 * u.toInt) (wv T0 r y u rn).toNat (((gA T0 6 5).toInt - ge.toInt).toNat - 1)) (rdg (rdM b.toInt (gA T0 6 5).toInt g) (b.toInt - be.toInt - 2 * u.toInt - (gA T0 6 6).toInt) (wv T0 r y u rn).toNat ((gA T0 6 5).toInt - ge.toInt).toNat), sB T1 12 g) := by
    intro gg h0 h4 hgg
    unfold f_X10_byToss_55 f_X10_at
    rw [bs, i26, b12, dropped, dropped]
    by_cases q : be + u * 2 ≤ b
    · rw [if_pos q]
      rw [zle, e2] at q
      rw [if_neg (atG hw24 ⟨by omega, by omega⟩ ⟨h0, h4⟩), atN hw24 ⟨by omega, by omega⟩ ⟨h0, h4⟩]
      congr 3
      unfold rdg rdM
      rw [if_neg (by omega), e2, ← w9, show (b.toInt - (b.toInt - be.toInt - 2 * u.toInt)).toNat = (be.toInt + 2 * u.toInt).toNat by omega, hgg]
    · rw [if_neg q]
      rw [zle, e2] at q
      congr 3
      unfold rdg
      rw [if_pos (by omega)]
  by_cases q : gA T0 6 5 ≤ ge
  · rw [if_pos q]
    rw [zle] at q
    exact caught ge hg.1 (by omega) (by omega)
  · rw [if_neg q]
    rw [zle] at q
    have e : (ge + 1).toInt = ge.toInt + 1 := zadd (by rw [z1]; omega) (by rw [z1]; omega)
    exact caught (ge + 1) (by omega) (by omega) (by omega)
abbrev EqM (S T : St) (r b : Int32) (g : Nat → Int64) (Q : Int → Nat → Nat → Prop) : Prop := Eqs (gI T 0 14).toInt (gA T 6 5).toInt (gA T 6 6).toInt (gA T 4 r.toNatClampNeg).toInt (gA S 31) (gA S 29) (gA S 32) (gA S 30) b.toInt (rdM b.toInt (gA T 6 5).toInt g) Q
abbrev QM (n l0 k0 m0 : Int) : Int → Nat → Nat → Prop := fun l y m => l < l0 ∨ (l = l0 ∧ (n - y < k0 ∨ (n - y = k0 ∧ (m : Int) < m0)))
/-- one place written: what the table holds then -/
theorem mWrite {S T : St} {r b : Int32} {g : Nat → Int64} {n l0 k0 m0 : Int} (hn : n = (gI T 0 14).toInt) (hp : HPS S T r) (hE : EqM S T r b g (QM n l0 k0 m0)) {y0 m1 : Nat} (hl : 0 ≤ l0 ∧ l0 ≤ b.toInt) (hb : b.toInt ≤ 24) (hk : k0 = n - y0) (hm : m0 = m1) (hy : (y0 : Int) ≤ n) (hm1 : (m1 : Int) ≤ (gA T 6 5).toInt) {idx : Nat} (hidx : idx = 125 * y0 + 5 * (b.toInt - l0).toNat + ((gA T 6 5).toInt.toNat - m1)) {v : Int64}
    (hv : v = valS S T r (rdM b.toInt (gA T 6 5).toInt g) l0 y0 m1) : EqM S T r b (vp_updL g idx v) (QM n l0 k0 (m0 + 1)) := by
  have hp' := hp
  obtain ⟨g1, g2, g3, g4, g5, g6, g7, g8, g9⟩ := hp
  refine eq_mono (eq_step (l0 := l0) (y0 := y0) (m0 := m1) hp' hE hl.2 (fun l y m q => by omega) ?_ (fun l y m q1 q2 q3 q4 q5 => ?_)) (fun l y m q1 q2 q3 q4 q5 => ?_)
  · unfold rdM
    rw [← hidx, updL_at]; exact hv
  · unfold rdM
    rw [updL_off]
    intro z
    exact q5 (by omega)
  · rcases q5 with q5 | ⟨q5, q6⟩
    · exact Or.inl (Or.inl q5)
    · by_cases c : y = y0 ∧ m = m1
      · exact Or.inr ⟨q5, c.1, c.2⟩
      · exact Or.inl (Or.inr ⟨q5, by omega⟩)
theorem greatE (a b : Int64) : f_X10_greater a b = some (if b < a then a else b) := by
  unfold f_X10_greater
  by_cases q : b < a
  · rw [if_pos q, if_neg]
    rw [lg_cmp_le, lle]; rw [llt] at q; omega
  · rw [if_neg q, if_pos]
    rw [lg_cmp_le, lle]; rw [llt] at q; omega
