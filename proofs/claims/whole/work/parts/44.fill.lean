/-! the class's three loops over the table -/
abbrev EqS (S T : St) (r : Int32) (f : Nat → Int64) (Q : Int → Nat → Nat → Prop) : Prop := Eqs (gI T 0 14).toInt (gA T 6 5).toInt (gA T 6 6).toInt (gA T 4 r.toNatClampNeg).toInt (gA S 31) (gA S 29) (gA S 32) (gA S 30) 24 (rdF f) Q
abbrev QC (l0 : Int) (y0 m0 : Nat) : Int → Nat → Nat → Prop := fun l y m => l < l0 ∨ (l = l0 ∧ (y < y0 ∨ (y = y0 ∧ m < m0)))
theorem IvLb.sB {S T : St} {b : Nat} (h : IvLb S T b) (c : Nat) (f : Nat → Int64) : IvLb (sB S c f) T b := h
theorem updL_at (f : Nat → Int64) (k : Nat) (v : Int64) : vp_updL f k v k = v := by
  simp [vp_updL]
theorem updL_off (f : Nat → Int64) (k : Nat) (v : Int64) {j : Nat} (h : j ≠ k) : vp_updL f k v j = f j := by
  simp [vp_updL, h]
theorem fillM {S T : St} {i N : Nat} {r l y : Int32} (hL : IvLb S T (33 + 5 * i)) (hr : isR T r) (hp : HPS S T r) (hl : 0 ≤ l.toInt ∧ l.toInt ≤ 24) (hy : 0 ≤ y.toInt ∧ y.toInt ≤ (gI T 0 14).toInt) (kk : St → Int32 → Int32 → Option St) : ∀ (m fu : Nat) (f : Nat → Int64) (x : Int32), ((gA T 6 5).toInt + 1 - x.toInt).toNat = m → 0 ≤ x.toInt → x.toInt ≤ (gA T 6 5).toInt + 1 → m < fu → EqS S T r f (QC l.toInt y.toNatClampNeg x.toNatClampNeg) →
    ∃ f', g_X4_fill_112 N i r kk fu (sB S 28 f) l y x = kk (sB S 28 f') l y ∧ EqS S T r f' (QC l.toInt (y.toNatClampNeg + 1) 0) := by
  have hp' := hp
  obtain ⟨g1, g2, g3, g4, g5, g6, g7, g8, g9⟩ := hp
  intro m
  induction m with
  | zero =>
    intro fu f x hm h1 h2 hf hE
    obtain ⟨fu, rfl⟩ : ∃ f', fu = f' + 1 := ⟨fu - 1, by omega⟩
    refine ⟨f, ?_, eq_mono hE (fun l' y' m' q1 q2 q3 q4 q5 => ?_)⟩
    · show s_X4_fill_112 N i r kk _ (sB S 28 f) l y x = _
      unfold s_X4_fill_112
      rw [if_pos]
      rw [show gI (sB S 28 f) (33 + 5 * i) 7 = gA T 6 5 from hL.1.2.2.2.1, zlt]; omega
    · have ex : (x.toNatClampNeg : Int) = x.toInt := by rw [znat]; omega
      rcases q5 with q5 | ⟨q5, q6⟩
      · exact Or.inl q5
      · exact Or.inr ⟨q5, by omega⟩
  | succ m ih =>
    intro fu f x hm h1 h2 hf hE
    obtain ⟨fu, rfl⟩ : ∃ f', fu = f' + 1 := ⟨fu - 1, by omega⟩
    have e2 : (x + 1).toInt = x.toInt + 1 := zadd (by rw [z1]; omega) (by rw [z1]; omega)
    have ex : (x.toNatClampNeg : Int) = x.toInt := by rw [znat]; omega
    have ey : (y.toNatClampNeg : Int) = y.toInt := by rw [znat]; omega
    have en : (x + 1).toNatClampNeg = x.toNatClampNeg + 1 := by rw [znat, znat, e2]; omega
    have un : g_X4_fill_112 N i r kk (fu + 1) (sB S 28 f) l y x = s_X4_fill_112 N i r kk (g_X4_fill_112 N i r kk fu) (sB S 28 f) l y x := rfl
    have b := cBest (S := sB S 28 f) (T := T) (i := i) (m := x) (hL.sB 28 f) hr hp' hl hy ⟨h1, by omega⟩
    rw [gBu] at b
    have st := cSetChance (S := sB S 28 f) (l := l) (y := y) (m := x) (valS (sB S 28 f) T r (rdF f) l.toInt y.toNatClampNeg x.toNatClampNeg) hl ⟨hy.1, by omega⟩ ⟨h1, by omega⟩
    rw [gBu, sBB] at st
    rw [un]
    unfold s_X4_fill_112
    rw [if_neg (by rw [show gI (sB S 28 f) (33 + 5 * i) 7 = gA T 6 5 from hL.1.2.2.2.1, zlt]; omega), b, bs, st, bs]
    refine ih fu _ (x + 1) (by omega) (by omega) (by omega) (by omega) ?_
    refine eq_mono (eq_step (l0 := l.toInt) (y0 := y.toNatClampNeg) (m0 := x.toNatClampNeg) hp' hE hl.2 (fun l' y' m' q => by omega) (updL_at _ _ _) (fun l' y' m' q1 q2 q3 q4 q5 => updL_off _ _ _ (fun z => q5 ?_))) (fun l' y' m' q1 q2 q3 q4 q5 => ?_)
    · omega
    · rw [en] at q5
      rcases q5 with q5 | ⟨q5, q6⟩
      · exact Or.inl (Or.inl q5)
      · by_cases c : y' = y.toNatClampNeg ∧ m' = x.toNatClampNeg
        · exact Or.inr ⟨q5, c.1, c.2⟩
        · exact Or.inl (Or.inr ⟨q5, by omega⟩)
theorem fillY {S T : St} {i N : Nat} (hN : 100 ≤ N) {r l : Int32} (hL : IvLb S T (33 + 5 * i)) (hr : isR T r) (hp : HPS S T r) (hl : 0 ≤ l.toInt ∧ l.toInt ≤ 24) (kk : St → Int32 → Option St) : ∀ (m fu : Nat) (f : Nat → Int64) (x : Int32), ((gI T 0 14).toInt + 1 - x.toInt).toNat = m → 0 ≤ x.toInt → x.toInt ≤ (gI T 0 14).toInt + 1 → m < fu → EqS S T r f (QC l.toInt x.toNatClampNeg 0) →
    ∃ f', g_X4_fill_100 N i r kk fu (sB S 28 f) l x = kk (sB S 28 f') l ∧ EqS S T r f' (QC (l.toInt + 1) 0 0) := by
  have hp' := hp
  obtain ⟨g1, g2, g3, g4, g5, g6, g7, g8, g9⟩ := hp
  intro m
  induction m with
  | zero =>
    intro fu f x hm h1 h2 hf hE
    obtain ⟨fu, rfl⟩ : ∃ f', fu = f' + 1 := ⟨fu - 1, by omega⟩
    refine ⟨f, ?_, eq_mono hE (fun l' y' m' q1 q2 q3 q4 q5 => ?_)⟩
    · show s_X4_fill_100 N i r kk _ (sB S 28 f) l x = _
      unfold s_X4_fill_100
      rw [if_pos]
      rw [show gI (sB S 28 f) (33 + 5 * i) 4 = gI T 0 14 from hL.1.1, zlt]; omega
    · have ex : (x.toNatClampNeg : Int) = x.toInt := by rw [znat]; omega
      omega
  | succ m ih =>
    intro fu f x hm h1 h2 hf hE
    obtain ⟨fu, rfl⟩ : ∃ f', fu = f' + 1 := ⟨fu - 1, by omega⟩
    have e2 : (x + 1).toInt = x.toInt + 1 := zadd (by rw [z1]; omega) (by rw [z1]; omega)
    have en : (x + 1).toNatClampNeg = x.toNatClampNeg + 1 := by rw [znat, znat, e2]; omega
    have un : g_X4_fill_100 N i r kk (fu + 1) (sB S 28 f) l x = s_X4_fill_100 N i r kk (g_X4_fill_100 N i r kk fu) (sB S 28 f) l x := rfl
    rw [un]
    unfold s_X4_fill_100
    rw [if_neg (by rw [show gI (sB S 28 f) (33 + 5 * i) 4 = gI T 0 14 from hL.1.1, zlt]; omega)]
    obtain ⟨f1, d1, d2⟩ := fillM (N := N) hL hr hp' hl (y := x) ⟨h1, by omega⟩ (fun S21 y19 y20 => g_X4_fill_100 N i r kk fu S21 y19 (y20 + (1 : Int32))) _ N f 0 rfl (by decide) (by rw [z0]; omega) (by rw [z0]; omega) hE
    rw [d1]
    exact ih fu f1 (x + 1) (by omega) (by omega) (by omega) (by omega) (by rw [en]; exact d2)
theorem fillL {S T : St} {i N : Nat} (hN : 100 ≤ N) {r : Int32} (hL : IvLb S T (33 + 5 * i)) (hr : isR T r) (hp : HPS S T r) : ∀ (m fu : Nat) (f : Nat → Int64) (x : Int32), (25 - x.toInt).toNat = m → 0 ≤ x.toInt → x.toInt ≤ 25 → m < fu → EqS S T r f (QC x.toInt 0 0) →
    ∃ f', g_X4_fill_90 N i r fu (sB S 28 f) x = some (sB S 28 f') ∧ EqS S T r f' (fun _ _ _ => True) := by
  intro m
  induction m with
  | zero =>
    intro fu f x hm h1 h2 hf hE
    obtain ⟨fu, rfl⟩ : ∃ f', fu = f' + 1 := ⟨fu - 1, by omega⟩
    refine ⟨f, ?_, eq_mono hE (fun l' y' m' q1 q2 q3 q4 q5 => by omega)⟩
    show s_X4_fill_90 N i r _ (sB S 28 f) x = _
    unfold s_X4_fill_90
    rw [if_pos (by rw [zlt, z24]; omega)]
  | succ m ih =>
    intro fu f x hm h1 h2 hf hE
    obtain ⟨fu, rfl⟩ : ∃ f', fu = f' + 1 := ⟨fu - 1, by omega⟩
    have e2 : (x + 1).toInt = x.toInt + 1 := zadd (by rw [z1]; omega) (by rw [z1]; omega)
    have un : g_X4_fill_90 N i r (fu + 1) (sB S 28 f) x = s_X4_fill_90 N i r (g_X4_fill_90 N i r fu) (sB S 28 f) x := rfl
    rw [un]
    unfold s_X4_fill_90
    rw [if_neg (show ¬ (24 : Int32) < x by rw [zlt, z24]; omega)]
    have hn := hp.2.1
    have hn0 := hp.1
    obtain ⟨f1, d1, d2⟩ := fillY hN hL hr hp (l := x) ⟨h1, by omega⟩ (fun S23 y22 => g_X4_fill_90 N i r fu S23 (y22 + (1 : Int32))) _ N f 0 rfl (by decide) (by rw [z0]; omega) (by rw [z0]; omega) hE
    rw [d1]
    exact ih fu f1 (x + 1) (by omega) (by omega) (by omega) (by omega) (by rw [e2]; exact d2)
theorem sB_self (S : St) (c : Nat) : sB S c (gB S c) = S := by
  have e : va_up S.2.2.2.1 c (S.2.2.2.1 c) = S.2.2.2.1 := by
    funext x
    simp only [va_up]
    by_cases h : x = c
    · rw [if_pos h, h]
    · rw [if_neg h]
  exact congrArg (fun z => (S.1, S.2.1, S.2.2.1, z, S.2.2.2.2)) e
theorem cTable {S T : St} {i N : Nat} (hN : 100 ≤ N) {r : Int32} (hL : IvLb S T (33 + 5 * i)) (hr : isR T r) (hp : HPS S T r) : ∃ f, f_X4_fill_87 N i r S = some (sB S 28 f) ∧ EqS S T r f (fun _ _ _ => True) := by
  unfold f_X4_fill_87
  obtain ⟨f, d1, d2⟩ := fillL hN hL hr hp 25 N (gB S 28) 0 (by decide) (by decide) (by decide) (by omega) (fun l y m q1 q2 q3 q4 q5 => by rw [z0] at q5; omega)
  rw [sB_self] at d1
  exact ⟨f, d1, d2⟩
/-! the best tosses of every yard: class and reference -/
abbrev SmF1 (S S' : St) : Prop := Sm S S' (fun c _ => c = 26) (fun c => 29 ≤ c ∧ c ≤ 32)
abbrev SmR1 (T T' : St) : Prop := Sm T T' (fun c k => c = 0 ∧ 25 ≤ k ∧ k ≤ 27) (fun c => c = 13 ∨ c = 14)
theorem IvLb.sm1 {S T S' T' : St} {b : Nat} (h : IvLb S T b) (hb : 33 ≤ b) (hs : SmF1 S S') (ht : SmR1 T T') : IvLb S' T' b := by
  unfold IvLb
  rw [hs.1 b 4 (by omega), hs.1 b 5 (by omega), hs.1 b 6 (by omega), hs.1 b 7 (by omega), hs.1 b 8 (by omega), hs.2.1 _ (by omega), hs.2.1 _ (by omega), hs.2.1 _ (by omega), hs.2.1 _ (by omega), ht.1 0 14 (by omega), ht.1 0 15 (by omega), ht.2.1 _ (by omega), ht.2.1 _ (by omega), ht.2.1 _ (by omega), ht.2.1 _ (by omega), ht.2.1 _ (by omega)]
  exact h
theorem cv.sm1 {T T' : St} (ht : SmR1 T T') (r y u f t rn : Int32) : cv T' r y u f t rn = cv T r y u f t rn := by
  unfold cv
  rw [ht.1 0 14 (by omega), ht.2.1 _ (by omega), ht.2.1 _ (by omega), ht.2.1 _ (by omega), ht.2.1 _ (by omega)]
theorem isR.sm1 {T T' : St} (ht : SmR1 T T') {r : Int32} (h : isR T r) : isR T' r := by
  unfold isR; rw [ht.1 0 15 (by omega)]; exact h
theorem isY.sm1 {T T' : St} (ht : SmR1 T T') {r : Int32} (h : isY T r) : isY T' r := by
  unfold isY; rw [ht.1 0 14 (by omega)]; exact h
theorem SmF.w {S S' : St} (h : SmF S S') : SmF1 S S' := h.wk (fun _ _ z => z) (fun _ z => z.elim)
theorem SmR.w {S S' : St} (h : SmR S S') : SmR1 S S' := h.wk (fun _ _ z => z) (fun _ z => z.elim)
/-- both have the same best tosses at a yard -/
def PR (S T : St) (r y : Int32) : Prop := (∃ f t, isTo (gA S 31 y.toNatClampNeg) f t 0 ∧ gA T 13 y.toNatClampNeg = num (gA S 31 y.toNatClampNeg) f t ∧ (gA S 29 y.toNatClampNeg).toInt = cv T r y (gA S 31 y.toNatClampNeg) f t 0 ∧ 0 ≤ (gA S 29 y.toNatClampNeg).toInt ∧ (gA S 29 y.toNatClampNeg).toInt ≤ 10) ∧
  (∃ f t, isTo (gA S 32 y.toNatClampNeg) f t 1 ∧ gA T 14 y.toNatClampNeg = num (gA S 32 y.toNatClampNeg) f t ∧ (gA S 30 y.toNatClampNeg).toInt = cv T r y (gA S 32 y.toNatClampNeg) f t 1 ∧ 0 ≤ (gA S 30 y.toNatClampNeg).toInt ∧ (gA S 30 y.toNatClampNeg).toInt ≤ 10)
theorem spreadY {i N : Nat} (hN : 100 ≤ N) {r : Int32} (b : Int32) : ∀ (m f1 f2 : Nat) (S T : St) (x : Int32), IvLb S T (33 + 5 * i) → isR T r → ((gI T 0 14).toInt - x.toInt).toNat = m → 0 ≤ x.toInt → x.toInt ≤ (gI T 0 14).toInt → m < f1 → m < f2 → (∀ y : Int32, 0 ≤ y.toInt → y.toInt < x.toInt → PR S T r y) →
    ∃ S' T', (∀ kc, g_X4_fill_3 N i r kc f1 S x = kc S') ∧ (∀ km, g_X10_spreads_2 N r b km f2 T x = km T') ∧ SmF1 S S' ∧ SmR1 T T' ∧ ∀ y : Int32, isY T y → PR S' T' r y := by
  intro m
  induction m with
  | zero =>
    intro f1 f2 S T x hL hr hm h1 h2 c1 c2 hP
    obtain ⟨f1, rfl⟩ : ∃ f', f1 = f' + 1 := ⟨f1 - 1, by omega⟩
    obtain ⟨f2, rfl⟩ : ∃ f', f2 = f' + 1 := ⟨f2 - 1, by omega⟩
    refine ⟨S, T, fun kc => ?_, fun km => ?_, Sm.rf _ _ _, Sm.rf _ _ _, fun y hy => hP y hy.1 (by omega)⟩
    · show s_X4_fill_3 N i r kc _ S x = _
      unfold s_X4_fill_3
      rw [hL.1.1, if_pos (by rw [zle]; omega)]
    · show s_X10_spreads_2 N r b km _ T x = _
      unfold s_X10_spreads_2
      rw [if_pos (by rw [zle]; omega)]
  | succ m ih =>
    intro f1 f2 S T x hL hr hm h1 h2 c1 c2 hP
    obtain ⟨f1, rfl⟩ : ∃ f', f1 = f' + 1 := ⟨f1 - 1, by omega⟩
    obtain ⟨f2, rfl⟩ : ∃ f', f2 = f' + 1 := ⟨f2 - 1, by omega⟩
    have hg := hL.2.1
    have e2 : (x + 1).toInt = x.toInt + 1 := zadd (by rw [z1]; omega) (by rw [z1]; omega)
    have hY : isY T x := ⟨h1, by omega⟩
    have gx : ¬ (x < 0 ∨ 24 ≤ x.toNatClampNeg) := gok h1 (by omega)
    obtain ⟨S1, T1, u, f, t, v, w1, w2, w3, w4, w5, w6, w7, w8, w9, w10, w11, w12⟩ := bothBest hN (rn := 0) hL hr hY ⟨by decide, by decide⟩
    let S2 := sA S1 29 (upd (gA S1 29) x.toNatClampNeg v)
    let S3 := sA S2 31 (upd (gA S2 31) x.toNatClampNeg u)
    let T2 := sA T1 13 (upd (gA T1 13) x.toNatClampNeg (num u f t))
    have s3 : SmF1 S S3 := (SmF.w w3).tr ((Sm.sA S1 _ (ci := fun c _ => c = 26) (ca := fun c => 29 ≤ c ∧ c ≤ 32) (by omega)).tr (Sm.sA S2 _ (by omega)))
    have t2 : SmR1 T T2 := (SmR.w w4).tr (Sm.sA T1 _ (ci := fun c k => c = 0 ∧ 25 ≤ k ∧ k ≤ 27) (ca := fun c => c = 13 ∨ c = 14) (Or.inl rfl))
    obtain ⟨S4, T4, u', f', t', v', x1, x2, x3, x4, x5, x6, x7, x8, x9, x10, x11, x12⟩ := bothBest hN (S := S3) (T := T2) (rn := 1) (hL.sm1 (by omega) s3 t2) (isR.sm1 t2 hr) (isY.sm1 t2 hY) ⟨by decide, by decide⟩
    let S5 := sA S4 30 (upd (gA S4 30) x.toNatClampNeg v')
    let S6 := sA S5 32 (upd (gA S5 32) x.toNatClampNeg u')
    let T5 := sA T4 14 (upd (gA T4 14) x.toNatClampNeg (num u' f' t'))
    have s6 : SmF1 S S6 := s3.tr ((SmF.w x3).tr ((Sm.sA S4 _ (ci := fun c _ => c = 26) (ca := fun c => 29 ≤ c ∧ c ≤ 32) (by omega)).tr (Sm.sA S5 _ (by omega))))
    have t5 : SmR1 T T5 := t2.tr ((SmR.w x4).tr (Sm.sA T4 _ (ci := fun c k => c = 0 ∧ 25 ≤ k ∧ k ≤ 27) (ca := fun c => c = 13 ∨ c = 14) (Or.inr rfl)))
    have a29 : gA S6 29 = upd (gA S 29) x.toNatClampNeg v := by
      have : gA S6 29 = gA S4 29 := rfl
      rw [this, x3.2.1 29 id]
      have : gA S3 29 = upd (gA S1 29) x.toNatClampNeg v := rfl
      rw [this, w3.2.1 29 id]
    have a31 : gA S6 31 = upd (gA S 31) x.toNatClampNeg u := by
      have : gA S6 31 = gA S4 31 := rfl
      rw [this, x3.2.1 31 id]
      have : gA S3 31 = upd (gA S1 31) x.toNatClampNeg u := rfl
      rw [this, w3.2.1 31 id]
    have a30 : gA S6 30 = upd (gA S 30) x.toNatClampNeg v' := by
      have : gA S6 30 = upd (gA S4 30) x.toNatClampNeg v' := rfl
      rw [this, x3.2.1 30 id]
      have : gA S3 30 = gA S1 30 := rfl
      rw [this, w3.2.1 30 id]
    have a32 : gA S6 32 = upd (gA S 32) x.toNatClampNeg u' := by
      have : gA S6 32 = upd (gA S4 32) x.toNatClampNeg u' := rfl
      rw [this, x3.2.1 32 id]
      have : gA S3 32 = gA S1 32 := rfl
      rw [this, w3.2.1 32 id]
    have b13 : gA T5 13 = upd (gA T 13) x.toNatClampNeg (num u f t) := by
      have : gA T5 13 = gA T4 13 := rfl
      rw [this, x4.2.1 13 id]
      have : gA T2 13 = upd (gA T1 13) x.toNatClampNeg (num u f t) := rfl
      rw [this, w4.2.1 13 id]
    have b14 : gA T5 14 = upd (gA T 14) x.toNatClampNeg (num u' f' t') := by
      have : gA T5 14 = upd (gA T4 14) x.toNatClampNeg (num u' f' t') := rfl
      rw [this, x4.2.1 14 id]
      have : gA T2 14 = gA T1 14 := rfl
      rw [this, w4.2.1 14 id]
    have n14 : gI T5 0 14 = gI T 0 14 := t5.1 0 14 (by omega)
    have hP6 : ∀ y : Int32, 0 ≤ y.toInt → y.toInt < (x + 1).toInt → PR S6 T5 r y := by
      intro y y0 y1
      unfold PR
      rw [a29, a30, a31, a32, b13, b14]
      by_cases c : y = x
      · subst c
        have ua : ∀ (g : Nat → Int32) (k : Nat) (z : Int32), upd g k z k = z := fun g k z => by simp only [upd]; rfl
        rw [ua, ua, ua, ua, ua, ua]
        refine ⟨⟨f, t, w9, rfl, by rw [cv.sm1 t5]; exact w10, w11, w12⟩, ⟨f', t', x9, rfl, ?_, x11, x12⟩⟩
        rw [cv.sm1 t5, x10, cv.sm1 t2]
      · have hne : ¬ y.toNatClampNeg = x.toNatClampNeg := by
          rw [zeq] at c; rw [znat, znat]; omega
        have uo : ∀ (g : Nat → Int32) (z : Int32), upd g x.toNatClampNeg z y.toNatClampNeg = g y.toNatClampNeg := fun g z => by simp only [upd]; rw [if_neg hne]
        rw [uo, uo, uo, uo, uo, uo]
        rw [zeq] at c
        obtain ⟨⟨p1, p2, p3, p4, p5, p6⟩, ⟨q1, q2, q3, q4, q5, q6⟩⟩ := hP y y0 (by omega)
        exact ⟨⟨p1, p2, p3, p4, by rw [cv.sm1 t5]; exact p5, p6⟩, ⟨q1, q2, q3, q4, by rw [cv.sm1 t5]; exact q5, q6⟩⟩
    obtain ⟨S', T', d1, d2, d3, d4, d5⟩ := ih f1 f2 S6 T5 (x + 1) (hL.sm1 (by omega) s6 t5) (isR.sm1 t5 hr) (by rw [n14]; omega) (by omega) (by rw [n14]; omega) (by omega) (by omega) hP6
    refine ⟨S', T', fun kc => ?_, fun km => ?_, s6.tr d3, t5.tr d4, fun y hy => d5 y (isY.sm1 t5 hy)⟩
    · rw [← d1 kc]
      show s_X4_fill_3 N i r kc _ S x = _
      unfold s_X4_fill_3
      rw [hL.1.1, if_neg (show ¬ gI T 0 14 ≤ x by rw [zle]; omega), if_neg (show ¬ (24 : Int32) ≤ x by rw [zle, z24]; omega), w1, bs, if_neg gx, bnd_eq, if_neg gx, bnd_eq, w5]
      have g1 : gI (sA S1 29 (upd (gA S1 29) x.toNatClampNeg v)) 26 1 = u := w6
      rw [g1]
      have e : f_X1_find N (sA (sA S1 29 (upd (gA S1 29) x.toNatClampNeg v)) 31 (upd (gA (sA S1 29 (upd (gA S1 29) x.toNatClampNeg v)) 31) x.toNatClampNeg u)) i r x 1 = some S4 := x1
      rw [e, bs, if_neg gx, bnd_eq, if_neg gx, bnd_eq, x5]
      have g2 : gI (sA S4 30 (upd (gA S4 30) x.toNatClampNeg v')) 26 1 = u' := x6
      rw [g2]
    · rw [← d2 km]
      show s_X10_spreads_2 N r b km _ T x = _
      unfold s_X10_spreads_2
      rw [if_neg (show ¬ gI T 0 14 ≤ x by rw [zle]; omega), w2, bs, if_neg gx, bnd_eq]
      have e : f_X10_bestOf N (sA T1 13 (upd (gA T1 13) x.toNatClampNeg (num u f t))) r x 1 = some (num u' f' t', T4) := x2
      rw [e, bs, if_neg gx, bnd_eq]
