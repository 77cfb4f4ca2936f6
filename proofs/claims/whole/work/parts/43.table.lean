/-! the table of chances: what every place holds -/
def tossV (v : Int32) (x y : Int64) : Int64 := ((v.toInt64 * x) + (((10 : Int32) - v).toInt64 * y)) / (10 : Int64)
def mx3 (a b c : Int64) : Int64 := if (if c < b then b else c) < a then a else (if c < b then b else c)
def rdg (rd : Int → Nat → Nat → Int64) (l : Int) (y m : Nat) : Int64 := if l < 0 then 0 else rd l y m
def stp (n p : Int) (y : Nat) : Nat := (if (y : Int) + p < n then (y : Int) + p else n).toNat
def valF (n drop p : Int) (us vs ur vr : Nat → Int32) (rd : Int → Nat → Nat → Int64) (l : Int) (y m : Nat) : Int64 :=
  if (y : Int) = n then (if m = 0 then (1000000000000 : Int64) else 0) else
  mx3 (rdg rd (l - 1) (stp n p y) m)
    (tossV (vs y) (rdg rd (l - 2 * (us y).toInt) y (m - 1)) (rdg rd (l - 2 * (us y).toInt - drop) y m))
    (tossV (vr y) (rdg rd (l - 2 * (ur y).toInt) (whF n p y (ur y).toInt 1).toNat (m - 1)) (rdg rd (l - 2 * (ur y).toInt - drop) (whF n p y (ur y).toInt 1).toNat m))
/-- what the numbers of the lane and of the best tosses keep to -/
def HP (n need drop p : Int) (us vs ur vr : Nat → Int32) : Prop := 4 ≤ n ∧ n ≤ 24 ∧ 0 ≤ need ∧ need ≤ 4 ∧ 0 ≤ drop ∧ drop ≤ 9 ∧ 1 ≤ p ∧ p ≤ 4 ∧ ∀ y : Nat, (y : Int) < n → (1 ≤ (us y).toInt ∧ (us y).toInt ≤ 4) ∧ (1 ≤ (ur y).toInt ∧ (ur y).toInt ≤ 4) ∧ (0 ≤ (vs y).toInt ∧ (vs y).toInt ≤ 10) ∧ (0 ≤ (vr y).toInt ∧ (vr y).toInt ≤ 10)
theorem stpB {n p : Int} {y : Nat} (hn : 0 ≤ n) (hp : 0 ≤ p) : (stp n p y : Int) ≤ n := by
  unfold stp
  split <;> omega
theorem whFB {n p : Int} {y : Nat} {u : Int} (hn : n ≤ 24) (hy : (y : Int) < n) (hp : 1 ≤ p ∧ p ≤ 4) (hu : 1 ≤ u ∧ u ≤ 4) : ((whF n p y u 1).toNat : Int) ≤ n := by
  have := whB (rn := 1) (u := u) hn (show (0 : Int) ≤ (y : Int) by omega) hy hp (by omega)
  omega
theorem rdg_congr {rd rd' : Int → Nat → Nat → Int64} {l : Int} {y m : Nat} (h : 0 ≤ l → rd l y m = rd' l y m) : rdg rd l y m = rdg rd' l y m := by
  unfold rdg
  by_cases q : l < 0
  · rw [if_pos q, if_pos q]
  · rw [if_neg q, if_neg q]; exact h (by omega)
theorem val_congr {n need drop p : Int} {us vs ur vr : Nat → Int32} (hp : HP n need drop p us vs ur vr) {rd rd' : Int → Nat → Nat → Int64} {l : Int} {y m : Nat} (hy : (y : Int) ≤ n) (hm : (m : Int) ≤ need)
    (h : ∀ (l' : Int) (y' m' : Nat), 0 ≤ l' → l' < l → (y' : Int) ≤ n → (m' : Int) ≤ need → rd l' y' m' = rd' l' y' m') : valF n drop p us vs ur vr rd l y m = valF n drop p us vs ur vr rd' l y m := by
  obtain ⟨h1, h2, h3, h4, h5, h6, h7, h8, h9⟩ := hp
  unfold valF
  by_cases q : (y : Int) = n
  · rw [if_pos q, if_pos q]
  · rw [if_neg q, if_neg q]
    obtain ⟨u1, u2, u3, u4⟩ := h9 y (by omega)
    have w := whFB (n := n) (p := p) (y := y) (u := (ur y).toInt) h2 (by omega) ⟨h7, h8⟩ u2
    have s := stpB (n := n) (p := p) (y := y) (by omega) (by omega)
    rw [rdg_congr (rd := rd) (rd' := rd') (l := l - 1) (fun z => h _ _ _ z (by omega) s hm),
      rdg_congr (rd := rd) (rd' := rd') (l := l - 2 * (us y).toInt) (y := y) (m := m - 1) (fun z => h _ _ _ z (by omega) hy (by omega)),
      rdg_congr (rd := rd) (rd' := rd') (l := l - 2 * (us y).toInt - drop) (y := y) (m := m) (fun z => h _ _ _ z (by omega) hy hm),
      rdg_congr (rd := rd) (rd' := rd') (l := l - 2 * (ur y).toInt) (m := m - 1) (fun z => h _ _ _ z (by omega) w (by omega)),
      rdg_congr (rd := rd) (rd' := rd') (l := l - 2 * (ur y).toInt - drop) (y := (whF n p y (ur y).toInt 1).toNat) (m := m) (fun z => h _ _ _ z (by omega) w hm)]
/-- the places of Q hold what they must -/
def Eqs (n need drop p : Int) (us vs ur vr : Nat → Int32) (L : Int) (rd : Int → Nat → Nat → Int64) (Q : Int → Nat → Nat → Prop) : Prop := ∀ (l : Int) (y m : Nat), 0 ≤ l → l ≤ L → (y : Int) ≤ n → (m : Int) ≤ need → Q l y m → rd l y m = valF n drop p us vs ur vr rd l y m
theorem eq_step {n need drop p : Int} {us vs ur vr : Nat → Int32} (hp : HP n need drop p us vs ur vr) {L : Int} {rd rd' : Int → Nat → Nat → Int64} {Q : Int → Nat → Nat → Prop} {l0 : Int} {y0 m0 : Nat} (h : Eqs n need drop p us vs ur vr L rd Q) (hl : l0 ≤ L) (hQ : ∀ l y m, Q l y m → l ≤ l0) (hw : rd' l0 y0 m0 = valF n drop p us vs ur vr rd l0 y0 m0)
    (ho : ∀ (l : Int) (y m : Nat), 0 ≤ l → l ≤ L → (y : Int) ≤ n → (m : Int) ≤ need → ¬ (l = l0 ∧ y = y0 ∧ m = m0) → rd' l y m = rd l y m) : Eqs n need drop p us vs ur vr L rd' (fun l y m => Q l y m ∨ (l = l0 ∧ y = y0 ∧ m = m0)) := by
  intro l y m h1 h2 h3 h4 h5
  have key : l ≤ l0 → valF n drop p us vs ur vr rd l y m = valF n drop p us vs ur vr rd' l y m := fun hll => val_congr hp h3 h4 (fun l' y' m' q1 q2 q3 q4 => (ho l' y' m' q1 (by omega) q3 q4 (by omega)).symm)
  by_cases c : l = l0 ∧ y = y0 ∧ m = m0
  · obtain ⟨c1, c2, c3⟩ := c
    rw [← key (by omega)]
    subst c1; subst c2; subst c3
    exact hw
  · rw [ho l y m h1 h2 h3 h4 c, ← key (hQ l y m (h5.resolve_right c))]
    exact h l y m h1 h2 h3 h4 (h5.resolve_right c)
theorem eq_mono {n need drop p : Int} {us vs ur vr : Nat → Int32} {L : Int} {rd : Int → Nat → Nat → Int64} {Q Q' : Int → Nat → Nat → Prop} (h : Eqs n need drop p us vs ur vr L rd Q) (hq : ∀ (l : Int) (y m : Nat), 0 ≤ l → l ≤ L → (y : Int) ≤ n → (m : Int) ≤ need → Q' l y m → Q l y m) : Eqs n need drop p us vs ur vr L rd Q' :=
  fun l y m h1 h2 h3 h4 h5 => h l y m h1 h2 h3 h4 (hq l y m h1 h2 h3 h4 h5)
/-- two tables that hold what they must are the same -/
theorem eq_same {n need drop p : Int} {us vs ur vr : Nat → Int32} (hp : HP n need drop p us vs ur vr) {L L' : Int} {rd rd' : Int → Nat → Nat → Int64} (h : Eqs n need drop p us vs ur vr L rd (fun _ _ _ => True)) (h' : Eqs n need drop p us vs ur vr L' rd' (fun _ _ _ => True)) : ∀ (k : Nat) (l : Int) (y m : Nat), l < k → 0 ≤ l → l ≤ L → l ≤ L' → (y : Int) ≤ n → (m : Int) ≤ need → rd l y m = rd' l y m := by
  intro k
  induction k with
  | zero => intro l y m h1 h2; omega
  | succ k ih =>
    intro l y m h1 h2 h3 h4 h5 h6
    rw [h l y m h2 h3 h5 h6 trivial, h' l y m h2 h4 h5 h6 trivial]
    exact val_congr hp h5 h6 (fun l' y' m' q1 q2 q3 q4 => ih l' y' m' (by omega) q1 (by omega) (by omega) q3 q4)
abbrev inE (x : Int64) : Prop := 0 ≤ x.toInt ∧ x.toInt ≤ 1000000000000
theorem lE : (1000000000000 : Int64).toInt = 1000000000000 := by decide
theorem l10 : (10 : Int64).toInt = 10 := by decide
theorem tossB {v : Int32} {x y : Int64} (hv : 0 ≤ v.toInt ∧ v.toInt ≤ 10) (hx : inE x) (hy : inE y) : inE (tossV v x y) := by
  have e1 : (v.toInt64).toInt = v.toInt := i2l v
  have es : ((10 : Int32) - v).toInt = 10 - v.toInt := by rw [zsub (by rw [z10]; omega) (by rw [z10]; omega), z10]
  have e2 : (((10 : Int32) - v).toInt64).toInt = 10 - v.toInt := by rw [i2l, es]
  have a0 : 0 ≤ v.toInt * x.toInt := Int.mul_nonneg hv.1 hx.1
  have a1 : v.toInt * x.toInt ≤ v.toInt * 1000000000000 := Int.mul_le_mul_of_nonneg_left hx.2 hv.1
  have b0 : 0 ≤ (10 - v.toInt) * y.toInt := Int.mul_nonneg (by omega) hy.1
  have b1 : (10 - v.toInt) * y.toInt ≤ (10 - v.toInt) * 1000000000000 := Int.mul_le_mul_of_nonneg_left hy.2 (by omega)
  have m1 : (v.toInt64 * x).toInt = v.toInt * x.toInt := by rw [lmul (by rw [e1]; omega) (by rw [e1]; omega), e1]
  have m2 : (((10 : Int32) - v).toInt64 * y).toInt = (10 - v.toInt) * y.toInt := by rw [lmul (by rw [e2]; omega) (by rw [e2]; omega), e2]
  generalize v.toInt * x.toInt = A at *
  generalize (10 - v.toInt) * y.toInt = B at *
  have sm : ((v.toInt64 * x) + (((10 : Int32) - v).toInt64 * y)).toInt = A + B := by rw [ladd (by rw [m1, m2]; omega) (by rw [m1, m2]; omega), m1, m2]
  unfold inE tossV
  rw [lg_ldiv_nonneg (by rw [sm]; omega) (by rw [l10]; omega), sm, l10]
  omega
theorem mx3B {a b c : Int64} (ha : inE a) (hb : inE b) (hc : inE c) : inE (mx3 a b c) := by
  unfold mx3
  by_cases q : c < b
  · simp only [if_pos q]
    by_cases q2 : b < a
    · rw [if_pos q2]; exact ha
    · rw [if_neg q2]; exact hb
  · simp only [if_neg q]
    by_cases q2 : c < a
    · rw [if_pos q2]; exact ha
    · rw [if_neg q2]; exact hc
theorem rdgB {rd : Int → Nat → Nat → Int64} {l : Int} {y m : Nat} (h : 0 ≤ l → inE (rd l y m)) : inE (rdg rd l y m) := by
  unfold rdg
  by_cases q : l < 0
  · rw [if_pos q]; exact ⟨by rw [l0]; omega, by rw [l0]; omega⟩
  · rw [if_neg q]; exact h (by omega)
theorem eq_bound {n need drop p : Int} {us vs ur vr : Nat → Int32} (hp : HP n need drop p us vs ur vr) {L : Int} {rd : Int → Nat → Nat → Int64} (h : Eqs n need drop p us vs ur vr L rd (fun _ _ _ => True)) : ∀ (k : Nat) (l : Int) (y m : Nat), l < k → 0 ≤ l → l ≤ L → (y : Int) ≤ n → (m : Int) ≤ need → inE (rd l y m) := by
  intro k
  induction k with
  | zero => intro l y m h1 h2; omega
  | succ k ih =>
    intro l y m h1 h2 h3 h5 h6
    rw [h l y m h2 h3 h5 h6 trivial]
    obtain ⟨g1, g2, g3, g4, g5, g6, g7, g8, g9⟩ := hp
    unfold valF
    by_cases q : (y : Int) = n
    · rw [if_pos q]
      by_cases q2 : m = 0
      · rw [if_pos q2]; exact ⟨by rw [lE]; omega, by rw [lE]; omega⟩
      · rw [if_neg q2]; exact ⟨by rw [l0]; omega, by rw [l0]; omega⟩
    · rw [if_neg q]
      obtain ⟨u1, u2, u3, u4⟩ := g9 y (by omega)
      have w := whFB (n := n) (p := p) (y := y) (u := (ur y).toInt) g2 (by omega) ⟨g7, g8⟩ u2
      have s := stpB (n := n) (p := p) (y := y) (by omega) (by omega)
      exact mx3B (rdgB fun z => ih _ _ _ (by omega) z (by omega) s h6) (tossB u3 (rdgB fun z => ih _ _ _ (by omega) z (by omega) h5 (by omega)) (rdgB fun z => ih _ _ _ (by omega) z (by omega) h5 h6)) (tossB u4 (rdgB fun z => ih _ _ _ (by omega) z (by omega) w (by omega)) (rdgB fun z => ih _ _ _ (by omega) z (by omega) w h6))
/-! the class fills it -/
def rdF (f : Nat → Int64) (l : Int) (y m : Nat) : Int64 := f ((l.toNat * 25 + y) * 5 + m)
theorem sBB (S : St) (c : Nat) (f g : Nat → Int64) : sB (sB S c f) c g = sB S c g := by
  have e : va_up (va_up S.2.2.2.1 c f) c g = va_up S.2.2.2.1 c g := upup _ _ _ _
  exact congrArg (fun z => (S.1, S.2.1, S.2.2.1, z, S.2.2.2.2)) e
theorem gBu (S : St) (c : Nat) (f : Nat → Int64) : gB (sB S c f) c = f := by rw [gB_sB, if_pos rfl]
theorem placeE {l y m : Int32} (hl : 0 ≤ l.toInt ∧ l.toInt ≤ 24) (hy : 0 ≤ y.toInt ∧ y.toInt ≤ 24) (hm : 0 ≤ m.toInt ∧ m.toInt ≤ 4) : ((l * 25 + y) * 5 + m).toInt = (l.toInt * 25 + y.toInt) * 5 + m.toInt := by
  have z25 : (25 : Int32).toInt = 25 := by decide
  have e1 : (l * 25).toInt = l.toInt * 25 := zmulc z25 (by omega) (by omega)
  have e2 : (l * 25 + y).toInt = l.toInt * 25 + y.toInt := by rw [zadd (by omega) (by omega), e1]
  have e3 : ((l * 25 + y) * 5).toInt = (l.toInt * 25 + y.toInt) * 5 := by rw [zmulc z5 (by omega) (by omega), e2]
  rw [zadd (by omega) (by omega), e3]
theorem cPlace {l y m : Int32} (hl : l.toInt ≤ 24) (hy : 0 ≤ y.toInt ∧ y.toInt ≤ 24) (hm : 0 ≤ m.toInt ∧ m.toInt ≤ 4) : f_X4_placeOf l y m = some (if l.toInt < 0 then -1 else (l * 25 + y) * 5 + m) := by
  unfold f_X4_placeOf
  by_cases q : l.toInt < 0
  · rw [if_pos (show l < 0 by rw [zlt, z0]; exact q), if_pos q]
  · rw [if_neg (show ¬ l < 0 by rw [zlt, z0]; exact q), if_neg (show ¬ (24 : Int32) < l by rw [zlt, z24]; omega), if_neg (show ¬ y < 0 by rw [zlt, z0]; omega), if_neg (show ¬ (24 : Int32) < y by rw [zlt, z24]; omega), if_neg (show ¬ m < 0 by rw [zlt, z0]; omega), if_pos (show m ≤ 4 by rw [zle, z4]; omega), if_neg q]
theorem cChance {S : St} {l y m : Int32} (hl : l.toInt ≤ 24) (hy : 0 ≤ y.toInt ∧ y.toInt ≤ 24) (hm : 0 ≤ m.toInt ∧ m.toInt ≤ 4) : f_X4_chance S l y m = some (rdg (rdF (gB S 28)) l.toInt y.toNatClampNeg m.toNatClampNeg) := by
  unfold f_X4_chance rdg rdF
  rw [cPlace hl hy hm, bs]
  by_cases q : l.toInt < 0
  · rw [if_pos q, if_pos q, if_pos (by decide)]
  · rw [if_neg q, if_neg q]
    have e := placeE (l := l) ⟨by omega, hl⟩ hy hm
    have z3125 : (3125 : Int32).toInt = 3125 := by decide
    rw [if_neg (show ¬ (l * 25 + y) * 5 + m < 0 by rw [zlt, z0]; omega), if_neg (show ¬ (3125 : Int32) ≤ (l * 25 + y) * 5 + m by rw [zle, z3125]; omega), if_neg (gok (by omega) (by omega))]
    congr 2
    rw [znat, znat, znat, e]; omega
theorem cSetChance {S : St} {l y m : Int32} (v : Int64) (hl : 0 ≤ l.toInt ∧ l.toInt ≤ 24) (hy : 0 ≤ y.toInt ∧ y.toInt ≤ 24) (hm : 0 ≤ m.toInt ∧ m.toInt ≤ 4) : f_X4_setChance S l y m v = some (sB S 28 (vp_updL (gB S 28) ((l.toInt.toNat * 25 + y.toNatClampNeg) * 5 + m.toNatClampNeg) v)) := by
  unfold f_X4_setChance
  rw [cPlace hl.2 hy hm, bs, if_neg (show ¬ l.toInt < 0 by omega)]
  have e := placeE (l := l) hl hy hm
  have z3125 : (3125 : Int32).toInt = 3125 := by decide
  rw [if_neg (show ¬ (l * 25 + y) * 5 + m < 0 by rw [zlt, z0]; omega), if_neg (show ¬ (3125 : Int32) ≤ (l * 25 + y) * 5 + m by rw [zle, z3125]; omega), if_neg (gok (by omega) (by omega)), bnd_eq]
  have en : ((l * 25 + y) * 5 + m).toNatClampNeg = (l.toInt.toNat * 25 + y.toNatClampNeg) * 5 + m.toNatClampNeg := by
    rw [znat, znat, znat, e]; omega
  rw [en]
abbrev HPS (S T : St) (r : Int32) : Prop := HP (gI T 0 14).toInt (gA T 6 5).toInt (gA T 6 6).toInt (gA T 4 r.toNatClampNeg).toInt (gA S 31) (gA S 29) (gA S 32) (gA S 30)
abbrev valS (S T : St) (r : Int32) : (Int → Nat → Nat → Int64) → Int → Nat → Nat → Int64 := valF (gI T 0 14).toInt (gA T 6 6).toInt (gA T 4 r.toNatClampNeg).toInt (gA S 31) (gA S 29) (gA S 32) (gA S 30)
theorem two1 {u : Int32} (h : 1 ≤ u.toInt ∧ u.toInt ≤ 4) : ((2 : Int32) * u).toInt = 2 * u.toInt := zcmul z2 (by omega) (by omega)
theorem cToss {S : St} {i : Nat} {where' l m v : Int32} (hd : 0 ≤ (gI S (33 + 5 * i) 8).toInt ∧ (gI S (33 + 5 * i) 8).toInt ≤ 9) (hl : -100 ≤ l.toInt ∧ l.toInt ≤ 24) (hw : 0 ≤ where'.toInt ∧ where'.toInt ≤ 24) (hm : 0 ≤ m.toInt ∧ m.toInt ≤ 4) :
    f_X4_chanceByToss S i where' l m v = some (tossV v (rdg (rdF (gB S 28)) l.toInt where'.toNatClampNeg (m.toNatClampNeg - 1)) (rdg (rdF (gB S 28)) (l.toInt - (gI S (33 + 5 * i) 8).toInt) where'.toNatClampNeg m.toNatClampNeg)) := by
  have em : (m - 1).toInt = m.toInt - 1 := by rw [zsub (by rw [z1]; omega) (by rw [z1]; omega), z1]
  have ed : (l - gI S (33 + 5 * i) 8).toInt = l.toInt - (gI S (33 + 5 * i) 8).toInt := zsub (by omega) (by omega)
  have e1 : (if (0 : Int32) < (m - (1 : Int32)) then (m - (1 : Int32)) else (0 : Int32)).toInt = (if 0 < m.toInt - 1 then m.toInt - 1 else 0) := by
    rw [zite, em, z0]
    exact ite_iff (by rw [zlt, z0, em]) _ _
  have b1 : 0 ≤ (if (0 : Int32) < (m - (1 : Int32)) then (m - (1 : Int32)) else (0 : Int32)).toInt ∧ (if (0 : Int32) < (m - (1 : Int32)) then (m - (1 : Int32)) else (0 : Int32)).toInt ≤ 4 := by
    rw [e1]; split <;> omega
  have n1 : (if (0 : Int32) < (m - (1 : Int32)) then (m - (1 : Int32)) else (0 : Int32)).toNatClampNeg = m.toNatClampNeg - 1 := by
    rw [znat, znat, e1]; split <;> omega
  unfold f_X4_chanceByToss
  rw [cChance hl.2 hw b1, bs, cChance (by omega) hw hm, bs, n1, ed]
  rfl
theorem cBest {S T : St} {i : Nat} {r l y m : Int32} (hL : IvLb S T (33 + 5 * i)) (hr : isR T r) (hp : HPS S T r) (hl : 0 ≤ l.toInt ∧ l.toInt ≤ 24) (hy : 0 ≤ y.toInt ∧ y.toInt ≤ (gI T 0 14).toInt) (hm : 0 ≤ m.toInt ∧ m.toInt ≤ (gA T 6 5).toInt) :
    f_X4_bestChance S i r l y m = some (valS S T r (rdF (gB S 28)) l.toInt y.toNatClampNeg m.toNatClampNeg) := by
  have hp' := hp
  obtain ⟨g1, g2, g3, g4, g5, g6, g7, g8, g9⟩ := hp
  obtain ⟨e1, e2, e3, e4, e5⟩ := hL.1
  have yn : (y.toNatClampNeg : Int) = y.toInt := by rw [znat]; omega
  have end' : ∀ u : Unit, f_X4_bestChance_21 S i m u = some (if m.toNatClampNeg = 0 then (1000000000000 : Int64) else 0) := by
    intro u
    unfold f_X4_bestChance_21
    by_cases q : m = 0
    · rw [if_pos q, if_pos (by rw [q]; decide)]
    · rw [if_neg q, if_neg]
      rw [zeq, z0] at q; rw [znat]; omega
  unfold f_X4_bestChance valS valF
  rw [if_neg (show ¬ y < 0 by rw [zlt, z0]; omega), e1, yn]
  by_cases q : (gI T 0 14) ≤ y
  · rw [if_pos q, if_pos (by rw [zle] at q; omega)]
    exact end' ()
  · rw [zle] at q
    have hY : isY T y := ⟨hy.1, by omega⟩
    have gy : ¬ (y < 0 ∨ 24 ≤ y.toNatClampNeg) := gok hy.1 (by omega)
    obtain ⟨u1, u2, u3, u4⟩ := g9 y.toNatClampNeg (by omega)
    obtain ⟨wh, w1, w2⟩ := cYardAfter (rn := 1) (u := gA S 32 y.toNatClampNeg) hL hr hY u2
    have wb := whB (rn := 1) (u := (gA S 32 y.toNatClampNeg).toInt) g2 hY.1 hY.2 ⟨g7, g8⟩ (four u2)
    have w2 : wh.toInt = whF (gI T 0 14).toInt (gA T 4 r.toNatClampNeg).toInt y.toInt (gA S 32 y.toNatClampNeg).toInt 1 := w2
    have t1 := two1 u1
    have t2 := two1 u2
    have s1 : (l - 1).toInt = l.toInt - 1 := by rw [zsub (by rw [z1]; omega) (by rw [z1]; omega), z1]
    have s2 : (l - (2 : Int32) * gA S 31 y.toNatClampNeg).toInt = l.toInt - 2 * (gA S 31 y.toNatClampNeg).toInt := by rw [zsub (by omega) (by omega), t1]
    have s3 : (l - (2 : Int32) * gA S 32 y.toNatClampNeg).toInt = l.toInt - 2 * (gA S 32 y.toNatClampNeg).toInt := by rw [zsub (by omega) (by omega), t2]
    have pe := hL.2.2.2.2.1 r.toNatClampNeg (by rw [znat]; omega)
    have ro : f_X3_yardOnRun S i r y 1 = some (if y + gA T 4 r.toNatClampNeg * 1 < gI T 0 14 then y + gA T 4 r.toNatClampNeg * 1 else gI T 0 14) := by
      unfold f_X3_yardOnRun
      rw [cPaceOf hr.1 (by have := hL.2.1; omega), bs, show 36 + 5 * i = 33 + 5 * i + 3 by omega, pe.1, e1]
    have re : (if y + gA T 4 r.toNatClampNeg * 1 < gI T 0 14 then y + gA T 4 r.toNatClampNeg * 1 else gI T 0 14).toInt = (if y.toInt + (gA T 4 r.toNatClampNeg).toInt < (gI T 0 14).toInt then y.toInt + (gA T 4 r.toNatClampNeg).toInt else (gI T 0 14).toInt) := by
      rw [Int32.mul_one]
      have e : (y + gA T 4 r.toNatClampNeg).toInt = y.toInt + (gA T 4 r.toNatClampNeg).toInt := zadd (by omega) (by omega)
      rw [zite, e]
      exact ite_iff (by rw [zlt, e]) _ _
    generalize (if y + gA T 4 r.toNatClampNeg * 1 < gI T 0 14 then y + gA T 4 r.toNatClampNeg * 1 else gI T 0 14) = ry at *
    have rb : 0 ≤ ry.toInt ∧ ry.toInt ≤ (gI T 0 14).toInt := by rw [re]; split <;> omega
    have rn : ry.toNatClampNeg = stp (gI T 0 14).toInt (gA T 4 r.toNatClampNeg).toInt y.toNatClampNeg := by
      unfold stp; rw [yn, znat, re]
    have dr : (gI S (33 + 5 * i) 8).toInt = (gA T 6 6).toInt := by rw [e5]
    have hdd : 0 ≤ (gI S (33 + 5 * i) 8).toInt ∧ (gI S (33 + 5 * i) 8).toInt ≤ 9 := by rw [dr]; exact ⟨g5, g6⟩
    have hm4 : 0 ≤ m.toInt ∧ m.toInt ≤ 4 := ⟨hm.1, by omega⟩
    rw [if_neg (show ¬ gI T 0 14 ≤ y by rw [zle]; exact q), if_pos (show y < 24 by rw [zlt, z24]; omega), if_neg (show ¬ y.toInt = (gI T 0 14).toInt by omega), ro, bs]
    rw [cChance (by omega) ⟨rb.1, by omega⟩ hm4, bs, if_neg gy]
    unfold f_X9_beatsInAir
    rw [bs, if_neg gy, cToss hdd ⟨by omega, by omega⟩ ⟨hy.1, by omega⟩ hm4, bs, if_neg gy, w1, bs, if_neg gy, bs, if_neg gy, cToss hdd ⟨by omega, by omega⟩ ⟨by omega, by omega⟩ hm4, bs, s1, s2, s3, dr, rn, znat wh, w2]
    rfl
