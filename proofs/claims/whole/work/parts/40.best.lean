/-! the best toss: class and reference -/
abbrev cv (T : St) (r y u f t rn : Int32) : Int := catF (gI T 0 14).toInt (gA T 5 r.toNatClampNeg).toInt (gA T 4 r.toNatClampNeg).toInt (gA T 2 y.toNatClampNeg).toInt (gA T 3) y.toInt u.toInt f.toInt t.toInt rn.toInt
abbrev wv (T : St) (r y u rn : Int32) : Int := whF (gI T 0 14).toInt (gA T 4 r.toNatClampNeg).toInt y.toInt u.toInt rn.toInt
abbrev isTd (u t : Int32) : Prop := (t * u) - (t * u) / 4 * 4 = 2
abbrev num (u f t : Int32) : Int32 := (((100 : Int32) * u) + ((10 : Int32) * f)) + t
/-- what a search of the reference may change -/
abbrev SmR (T T' : St) : Prop := Sm T T' (fun c k => c = 0 ∧ 25 ≤ k ∧ k ≤ 27) (fun _ => False)
abbrev SmF (S S' : St) : Prop := Sm S S' (fun c _ => c = 26) (fun _ => False)
theorem SmR.rck (T : St) (d w q : Int32) : SmR T (rck T d w q) :=
  ((Sm.sI T d ⟨rfl, by omega, by omega⟩).tr (Sm.sI _ w ⟨rfl, by omega, by omega⟩)).tr (Sm.sI _ q ⟨rfl, by omega, by omega⟩)
theorem IvLb.sm {S T S' T' : St} {b : Nat} (h : IvLb S T b) (hb : 33 ≤ b) (hs : SmF S S') (ht : SmR T T') : IvLb S' T' b := by
  unfold IvLb
  rw [hs.1 b 4 (by omega), hs.1 b 5 (by omega), hs.1 b 6 (by omega), hs.1 b 7 (by omega), hs.1 b 8 (by omega), hs.2.1 _ id, hs.2.1 _ id, hs.2.1 _ id, hs.2.1 _ id, ht.1 0 14 (by omega), ht.1 0 15 (by omega), ht.2.1 _ id, ht.2.1 _ id, ht.2.1 _ id, ht.2.1 _ id, ht.2.1 _ id]
  exact h
theorem cv.sm {T T' : St} (ht : SmR T T') (r y u f t rn : Int32) : cv T' r y u f t rn = cv T r y u f t rn := by
  unfold cv
  rw [ht.1 0 14 (by omega), ht.2.1 _ id, ht.2.1 _ id, ht.2.1 _ id, ht.2.1 _ id]
theorem isR.sm {T T' : St} (ht : SmR T T') {r : Int32} (h : isR T r) : isR T' r := by
  unfold isR; rw [ht.1 0 15 (by omega)]; exact h
theorem isY.sm {T T' : St} (ht : SmR T T') {r : Int32} (h : isY T r) : isY T' r := by
  unfold isY; rw [ht.1 0 14 (by omega)]; exact h
theorem bothV {S T : St} {i : Nat} (hL : IvLb S T (33 + 5 * i)) {r y u f t rn : Int32} (hr : isR T r) (hy : isY T y) (ht : isTo u f t rn) : ∃ v wh : Int32, f_X3_catchOf S i r y u f t rn = some v ∧ f_X3_yardAfter S i r y u rn = some wh ∧ f_X10_reckons T r y u f t rn = some (v, rck T ((y + f) - (u * gA T 2 y.toNatClampNeg)) wh (t * u)) ∧ 0 ≤ v.toInt ∧ v.toInt ≤ 10 ∧ 0 ≤ wh.toInt ∧ wh.toInt ≤ (gI T 0 14).toInt ∧ v.toInt = cv T r y u f t rn ∧ wh.toInt = wv T r y u rn := by
  obtain ⟨v, wh, c1, c2, c3, c4, c5, c6, c7⟩ := bothCatch hL hr hy ht
  obtain ⟨v', d1, d2⟩ := cCatch hL hr hy ht
  obtain ⟨wh', w1, w2⟩ := cYardAfter (rn := rn) hL hr hy ht.1
  rw [c1] at d1; rw [c2] at w1
  have e1 : v = v' := Option.some.inj d1
  have e2 : wh = wh' := Option.some.inj w1
  subst e1; subst e2
  exact ⟨v, wh, c1, c2, c3, c4, c5, c6, c7, d2, w2⟩
theorem tdE {u t : Int32} (hu : 1 ≤ u.toInt ∧ u.toInt ≤ 4) (ht : 0 ≤ t.toInt ∧ t.toInt ≤ 7) : isTd u t ↔ (t.toInt * u.toInt) % 4 = 2 := by
  obtain ⟨q1, q2, q3⟩ := qE hu ht
  unfold isTd
  rw [zeq, mod4 (by omega) (by omega), q1, z2]
theorem cv_td {T : St} {r y u f t t' rn : Int32} (hu : 1 ≤ u.toInt ∧ u.toInt ≤ 4) (ht : 0 ≤ t.toInt ∧ t.toInt ≤ 7) (ht' : 0 ≤ t'.toInt ∧ t'.toInt ≤ 7) (h : isTd u t) (h' : isTd u t') : cv T r y u f t rn = cv T r y u f t' rn := by
  rw [tdE hu ht] at h; rw [tdE hu ht'] at h'
  unfold cv catF
  simp only []
  rw [if_pos (show (t.toInt * u.toInt) % 2 = 0 by omega), if_pos (show (t'.toInt * u.toInt) % 2 = 0 by omega)]
theorem least_loop (N : Nat) (u : Int32) : ∀ (m f : Nat) (x : Int32), (8 - x.toInt).toNat = m → 0 ≤ x.toInt → x.toInt ≤ 8 → m < f → ∃ t0, g_X1_leastTurnOver_2 N u f x = some t0 ∧ x.toInt ≤ t0.toInt ∧ t0.toInt ≤ 8 ∧ (t0.toInt ≤ 7 → isTd u t0) ∧ ∀ t : Int32, x.toInt ≤ t.toInt → t.toInt < t0.toInt → ¬ isTd u t := by
  intro m
  induction m with
  | zero =>
    intro f x hm h1 h2 hf
    obtain ⟨f, rfl⟩ : ∃ f', f = f' + 1 := ⟨f - 1, by omega⟩
    refine ⟨x, ?_, by omega, by omega, fun q => by omega, fun t q1 q2 => by omega⟩
    show s_X1_leastTurnOver_2 N u _ x = _
    unfold s_X1_leastTurnOver_2
    rw [if_pos (by rw [zlt, z7]; omega)]
  | succ m ih =>
    intro f x hm h1 h2 hf
    obtain ⟨f, rfl⟩ : ∃ f', f = f' + 1 := ⟨f - 1, by omega⟩
    have e2 : (x + 1).toInt = x.toInt + 1 := zadd (by rw [z1]; omega) (by rw [z1]; omega)
    have un : g_X1_leastTurnOver_2 N u (f + 1) x = s_X1_leastTurnOver_2 N u (g_X1_leastTurnOver_2 N u f) x := rfl
    rw [un]
    unfold s_X1_leastTurnOver_2 f_X9_isTurned f_X9_quarters
    rw [if_neg (show ¬ (7 : Int32) < x by rw [zlt, z7]; omega), bs]
    by_cases q : x * u - x * u / 4 * 4 = 2
    · rw [if_pos q, bs, if_neg one_ne]
      exact ⟨x, rfl, by omega, by omega, fun _ => q, fun t q1 q2 => by omega⟩
    · rw [if_neg q, bs, if_pos rfl]
      obtain ⟨t0, d1, d2, d3, d4, d5⟩ := ih f (x + 1) (by rw [e2]; omega) (by omega) (by omega) (by omega)
      refine ⟨t0, d1, by omega, d3, d4, fun t q1 q2 => ?_⟩
      by_cases e : t = x
      · rw [e]; exact q
      · rw [zeq] at e; exact d5 t (by omega) q2
theorem bestT_step {S T : St} {i : Nat} (N : Nat) (hL : IvLb S T (33 + 5 * i)) {r y u f rn : Int32} (hr : isR T r) (hy : isY T y) (hu : 1 ≤ u.toInt ∧ u.toInt ≤ 4) (hf : 0 ≤ f.toInt ∧ f.toInt ≤ 9) (hb : isB rn) (kk : St → Int32 → Int32 → Int32 → Int32 → Option (Int32 × St)) (fu : Nat) (x4 x5 t : Int32) (ht : 0 ≤ t.toInt ∧ t.toInt ≤ 7) :
    ∃ (T' : St) (v : Int32), SmR T T' ∧ v.toInt = cv T r y u f t rn ∧ 0 ≤ v.toInt ∧ v.toInt ≤ 10 ∧ g_X10_bestOf_35 N r y rn kk (fu + 1) T x4 x5 u f t = if isTd u t then (if v ≤ x5 then g_X10_bestOf_35 N r y rn kk fu T' x4 x5 u f (t + 1) else g_X10_bestOf_35 N r y rn kk fu T' (num u f t) v u f (t + 1)) else g_X10_bestOf_35 N r y rn kk fu T' x4 x5 u f (t + 1) := by
  obtain ⟨v, wh, c1, c2, c3, c4, c5, c6, c7, c8, c9⟩ := bothV (rn := rn) (f := f) (t := t) hL hr hy ⟨hu, hf, ht, hb⟩
  refine ⟨rck T ((y + f) - (u * gA T 2 y.toNatClampNeg)) wh (t * u), v, SmR.rck T _ wh (t * u), c8, c4, c5, ?_⟩
  show s_X10_bestOf_35 N r y rn kk (g_X10_bestOf_35 N r y rn kk fu) T x4 x5 u f t = _
  unfold s_X10_bestOf_35
  rw [if_neg (show ¬ (8 : Int32) ≤ t by rw [zle, z8]; omega), c3, bs]
  rfl
theorem bestT_end (N : Nat) (r y rn : Int32) (kk : St → Int32 → Int32 → Int32 → Int32 → Option (Int32 × St)) (fu : Nat) (T : St) (x4 x5 u f t : Int32) (ht : 8 ≤ t.toInt) : g_X10_bestOf_35 N r y rn kk (fu + 1) T x4 x5 u f t = kk T x4 x5 u f := by
  show s_X10_bestOf_35 N r y rn kk _ T x4 x5 u f t = _
  unfold s_X10_bestOf_35
  rw [if_pos (by rw [zle, z8]; omega)]
theorem bestT_skip {S : St} {i : Nat} (N : Nat) {r y u f rn : Int32} (hu : 1 ≤ u.toInt ∧ u.toInt ≤ 4) (hf : 0 ≤ f.toInt ∧ f.toInt ≤ 9) (hb : isB rn) (kk : St → Int32 → Int32 → Int32 → Int32 → Option (Int32 × St)) (x4 x5 : Int32) : ∀ (m fu : Nat) (T : St) (x : Int32), IvLb S T (33 + 5 * i) → isR T r → isY T y → (8 - x.toInt).toNat = m → 0 ≤ x.toInt → x.toInt ≤ 8 → m < fu →
    (∀ t : Int32, x.toInt ≤ t.toInt → t.toInt ≤ 7 → isTd u t → cv T r y u f t rn ≤ x5.toInt) → ∃ T', g_X10_bestOf_35 N r y rn kk fu T x4 x5 u f x = kk T' x4 x5 u f ∧ SmR T T' := by
  intro m
  induction m with
  | zero =>
    intro fu T x hL hr hy hm h1 h2 hfu hh
    obtain ⟨fu, rfl⟩ : ∃ f', fu = f' + 1 := ⟨fu - 1, by omega⟩
    exact ⟨T, bestT_end N r y rn kk fu T x4 x5 u f x (by omega), Sm.rf _ _ _⟩
  | succ m ih =>
    intro fu T x hL hr hy hm h1 h2 hfu hh
    obtain ⟨fu, rfl⟩ : ∃ f', fu = f' + 1 := ⟨fu - 1, by omega⟩
    have e2 : (x + 1).toInt = x.toInt + 1 := zadd (by rw [z1]; omega) (by rw [z1]; omega)
    obtain ⟨T1, v, s1, s2, s3, s4, s5⟩ := bestT_step N hL hr hy hu hf hb kk fu x4 x5 x ⟨h1, by omega⟩
    obtain ⟨T2, w1, w2⟩ := ih fu T1 (x + 1) (hL.sm (by omega) (Sm.rf _ _ _) s1) (isR.sm s1 hr) (isY.sm s1 hy) (by rw [e2]; omega) (by omega) (by omega) (by omega) (fun t q1 q2 q3 => by rw [cv.sm s1]; exact hh t (by omega) q2 q3)
    refine ⟨T2, ?_, s1.tr w2⟩
    rw [s5]
    by_cases q : isTd u x
    · rw [if_pos q, if_pos (by rw [zle, s2]; exact hh x (by omega) (by omega) q)]; exact w1
    · rw [if_neg q]; exact w1
theorem bestT_hit {S : St} {i : Nat} (N : Nat) {r y u f rn t0 v0 : Int32} (hu : 1 ≤ u.toInt ∧ u.toInt ≤ 4) (hf : 0 ≤ f.toInt ∧ f.toInt ≤ 9) (hb : isB rn) (kk : St → Int32 → Int32 → Int32 → Int32 → Option (Int32 × St)) (x4 x5 : Int32) (ht0 : 0 ≤ t0.toInt ∧ t0.toInt ≤ 7) (htd : isTd u t0) (hn : ∀ t : Int32, 0 ≤ t.toInt → t.toInt < t0.toInt → ¬ isTd u t) (hv : x5.toInt < v0.toInt) : ∀ (m fu : Nat) (T : St) (x : Int32), IvLb S T (33 + 5 * i) → isR T r → isY T y → (t0.toInt - x.toInt).toNat = m → 0 ≤ x.toInt → x.toInt ≤ t0.toInt → m + 10 < fu →
    v0.toInt = cv T r y u f t0 rn → ∃ T', g_X10_bestOf_35 N r y rn kk fu T x4 x5 u f x = kk T' (num u f t0) v0 u f ∧ SmR T T' := by
  intro m
  induction m with
  | zero =>
    intro fu T x hL hr hy hm h1 h2 hfu hh
    obtain ⟨fu, rfl⟩ : ∃ f', fu = f' + 1 := ⟨fu - 1, by omega⟩
    have ex : x = t0 := by rw [zeq]; omega
    subst ex
    have e2 : (x + 1).toInt = x.toInt + 1 := zadd (by rw [z1]; omega) (by rw [z1]; omega)
    obtain ⟨T1, v, s1, s2, s3, s4, s5⟩ := bestT_step N hL hr hy hu hf hb kk fu x4 x5 x ht0
    have ev : v = v0 := by rw [zeq, s2, hh]
    subst ev
    obtain ⟨T2, w1, w2⟩ := bestT_skip (S := S) (i := i) N hu hf hb kk (num u f x) v (8 - (x + 1).toInt).toNat fu T1 (x + 1) (hL.sm (by omega) (Sm.rf _ _ _) s1) (isR.sm s1 hr) (isY.sm s1 hy) rfl (by omega) (by omega) (by omega) (fun t q1 q2 q3 => by
      rw [cv.sm s1, hh]
      have := cv_td (T := T) (r := r) (y := y) (f := f) (rn := rn) hu ⟨by omega, q2⟩ ht0 q3 htd
      omega)
    refine ⟨T2, ?_, s1.tr w2⟩
    rw [s5, if_pos htd, if_neg (by rw [zle]; omega)]
    exact w1
  | succ m ih =>
    intro fu T x hL hr hy hm h1 h2 hfu hh
    obtain ⟨fu, rfl⟩ : ∃ f', fu = f' + 1 := ⟨fu - 1, by omega⟩
    have e2 : (x + 1).toInt = x.toInt + 1 := zadd (by rw [z1]; omega) (by rw [z1]; omega)
    obtain ⟨T1, v, s1, s2, s3, s4, s5⟩ := bestT_step N hL hr hy hu hf hb kk fu x4 x5 x ⟨h1, by omega⟩
    obtain ⟨T2, w1, w2⟩ := ih fu T1 (x + 1) (hL.sm (by omega) (Sm.rf _ _ _) s1) (isR.sm s1 hr) (isY.sm s1 hy) (by rw [e2]; omega) (by omega) (by omega) (by omega) (by rw [cv.sm s1]; exact hh)
    refine ⟨T2, ?_, s1.tr w2⟩
    rw [s5, if_neg (hn x h1 (by omega))]; exact w1
/-- how far the two searches are alike: nothing found, or the same toss -/
abbrev BR (T : St) (r y rn : Int32) (S : St) (x4 x5 : Int32) : Prop := (gI S 26 0 = -1 ∧ x5 = -9 ∧ x4 = -9) ∨ (gI S 26 0 = x5 ∧ 0 ≤ x5.toInt ∧ x5.toInt ≤ 10 ∧ isTo (gI S 26 1) (gI S 26 2) (gI S 26 3) rn ∧ x4 = num (gI S 26 1) (gI S 26 2) (gI S 26 3) ∧ x5.toInt = cv T r y (gI S 26 1) (gI S 26 2) (gI S 26 3) rn)
theorem bestF_loop {i : Nat} {N : Nat} (hN : 100 ≤ N) {r y u rn t0 : Int32} (hu : 1 ≤ u.toInt ∧ u.toInt ≤ 4) (hb : isB rn) (ht0 : 0 ≤ t0.toInt ∧ t0.toInt ≤ 7) (htd : isTd u t0) (hn : ∀ t : Int32, 0 ≤ t.toInt → t.toInt < t0.toInt → ¬ isTd u t) (kc : St → Int32 → Option St) (km : St → Int32 → Int32 → Int32 → Option (Int32 × St)) : ∀ (m f1 f2 : Nat) (S T : St) (x4 x5 x : Int32), IvLb S T (33 + 5 * i) → isR T r → isY T y → (10 - x.toInt).toNat = m → 0 ≤ x.toInt → x.toInt ≤ 10 → m < f1 → m < f2 → BR T r y rn S x4 x5 →
    ∃ S' T' x4' x5', g_X1_find_27 N i r y rn kc f1 S u t0 x = kc S' u ∧ g_X10_bestOf_25 N r y rn km f2 T x4 x5 u x = km T' x4' x5' u ∧ SmF S S' ∧ SmR T T' ∧ BR T' r y rn S' x4' x5' ∧ (x.toInt ≤ 9 ∨ x5 ≠ -9 → x5' ≠ -9) := by
  intro m
  induction m with
  | zero =>
    intro f1 f2 S T x4 x5 x hL hr hy hm h1 h2 c1 c2 hB
    obtain ⟨f1, rfl⟩ : ∃ f', f1 = f' + 1 := ⟨f1 - 1, by omega⟩
    obtain ⟨f2, rfl⟩ : ∃ f', f2 = f' + 1 := ⟨f2 - 1, by omega⟩
    refine ⟨S, T, x4, x5, ?_, ?_, Sm.rf _ _ _, Sm.rf _ _ _, hB, fun q => q.resolve_left (by omega)⟩
    · show s_X1_find_27 N i r y rn kc _ S u t0 x = _
      unfold s_X1_find_27
      rw [if_neg (show ¬ (7 : Int32) < t0 by rw [zlt, z7]; omega), if_pos (show (9 : Int32) < x by rw [zlt, z9]; omega)]
    · show s_X10_bestOf_25 N r y rn km _ T x4 x5 u x = _
      unfold s_X10_bestOf_25
      rw [if_pos (by rw [zle, z10]; omega)]
  | succ m ih =>
    intro f1 f2 S T x4 x5 x hL hr hy hm h1 h2 c1 c2 hB
    obtain ⟨f1, rfl⟩ : ∃ f', f1 = f' + 1 := ⟨f1 - 1, by omega⟩
    obtain ⟨f2, rfl⟩ : ∃ f', f2 = f' + 1 := ⟨f2 - 1, by omega⟩
    have e2 : (x + 1).toInt = x.toInt + 1 := zadd (by rw [z1]; omega) (by rw [z1]; omega)
    have hf : 0 ≤ x.toInt ∧ x.toInt ≤ 9 := by omega
    have un1 : g_X1_find_27 N i r y rn kc (f1 + 1) S u t0 x = s_X1_find_27 N i r y rn kc (g_X1_find_27 N i r y rn kc f1) S u t0 x := rfl
    have un2 : g_X10_bestOf_25 N r y rn km (f2 + 1) T x4 x5 u x = s_X10_bestOf_25 N r y rn km (g_X10_bestOf_25 N r y rn km f2) T x4 x5 u x := rfl
    obtain ⟨v, wh, d1, d2, d3, d4, d5, d6, d7, d8, d9⟩ := bothV (rn := rn) (f := x) (t := t0) hL hr hy ⟨hu, hf, ht0, hb⟩
    rw [un1, un2]
    unfold s_X1_find_27 s_X10_bestOf_25
    rw [if_neg (show ¬ (7 : Int32) < t0 by rw [zlt, z7]; omega), if_neg (show ¬ (9 : Int32) < x by rw [zlt, z9]; omega), d1, bs, if_neg (show ¬ (10 : Int32) ≤ x by rw [zle, z10]; omega)]
    by_cases q : v ≤ gI S 26 0
    · -- nothing better
      have hx5 : v.toInt ≤ x5.toInt := by
        rw [zle] at q
        rcases hB with hB | hB
        · rw [hB.1, zm1] at q; omega
        · rw [← hB.1]; exact q
      obtain ⟨T1, w1, w2⟩ := bestT_skip (S := S) (i := i) N hu hf hb (fun S14 y10 y11 y12 y13 => g_X10_bestOf_25 N r y rn km f2 S14 y10 y11 y12 (y13 + (1 : Int32))) x4 x5 8 N T 0 hL hr hy (by decide) (by decide) (by decide) (by omega) (fun t q1 q2 q3 => by
        rw [cv_td (T := T) (r := r) (y := y) (f := x) (rn := rn) hu ⟨by rw [z0] at q1; exact q1, q2⟩ ht0 q3 htd]; omega)
      have hB1 : BR T1 r y rn S x4 x5 := by
        unfold BR; rw [cv.sm w2]; exact hB
      obtain ⟨S', T', x4', x5', p1, p2, p3, p4, p5, p6⟩ := ih f1 f2 S T1 x4 x5 (x + 1) (hL.sm (by omega) (Sm.rf _ _ _) w2) (isR.sm w2 hr) (isY.sm w2 hy) (by rw [e2]; omega) (by omega) (by omega) (by omega) (by omega) hB1
      rw [if_pos q, w1]
      refine ⟨S', T', x4', x5', p1, p2, p3, w2.tr p4, p5, fun _ => p6 (Or.inr ?_)⟩
      rw [Ne, zeq, zm9]; omega
    · have hx5 : x5.toInt < v.toInt := by
        rw [zle] at q
        rcases hB with hB | hB
        · rw [hB.2.1, zm9]; omega
        · rw [← hB.1]; omega
      obtain ⟨T1, w1, w2⟩ := bestT_hit (S := S) (i := i) N hu hf hb (fun S14 y10 y11 y12 y13 => g_X10_bestOf_25 N r y rn km f2 S14 y10 y11 y12 (y13 + (1 : Int32))) x4 x5 ht0 htd hn hx5 (t0.toInt - 0).toNat N T 0 hL hr hy (by rw [z0]) (by decide) (by rw [z0]; omega) (by omega) d8
      let S1 := sI (sI (sI (sI S 26 0 v) 26 1 u) 26 2 x) 26 3 t0
      have sm1 : SmF S S1 := (((Sm.sI S v (ci := fun c _ => c = 26) rfl).tr (Sm.sI _ u rfl)).tr (Sm.sI _ x rfl)).tr (Sm.sI _ t0 rfl)
      have g0 : gI S1 26 0 = v := rfl
      have g1 : gI S1 26 1 = u := rfl
      have g2 : gI S1 26 2 = x := rfl
      have g3 : gI S1 26 3 = t0 := rfl
      have hB1 : BR T1 r y rn S1 (num u x t0) v := by
        unfold BR
        rw [g0, g1, g2, g3, cv.sm w2]
        exact Or.inr ⟨rfl, d4, d5, ⟨hu, hf, ht0, hb⟩, rfl, d8⟩
      obtain ⟨S', T', x4', x5', p1, p2, p3, p4, p5, p6⟩ := ih f1 f2 S1 T1 _ v (x + 1) (hL.sm (by omega) sm1 w2) (isR.sm w2 hr) (isY.sm w2 hy) (by rw [e2]; omega) (by omega) (by omega) (by omega) (by omega) hB1
      rw [if_neg q, w1]
      refine ⟨S', T', x4', x5', p1, p2, sm1.tr p3, w2.tr p4, p5, fun _ => p6 (Or.inr ?_)⟩
      rw [Ne, zeq, zm9]; omega
theorem bestF_none {S : St} {i : Nat} {N : Nat} (hN : 100 ≤ N) {r y u rn : Int32} (hu : 1 ≤ u.toInt ∧ u.toInt ≤ 4) (hb : isB rn) (hn : ∀ t : Int32, 0 ≤ t.toInt → t.toInt < 8 → ¬ isTd u t) (km : St → Int32 → Int32 → Int32 → Option (Int32 × St)) (x4 x5 : Int32) : ∀ (m f2 : Nat) (T : St) (x : Int32), IvLb S T (33 + 5 * i) → isR T r → isY T y → (10 - x.toInt).toNat = m → 0 ≤ x.toInt → x.toInt ≤ 10 → m < f2 →
    ∃ T', g_X10_bestOf_25 N r y rn km f2 T x4 x5 u x = km T' x4 x5 u ∧ SmR T T' := by
  intro m
  induction m with
  | zero =>
    intro f2 T x hL hr hy hm h1 h2 c2
    obtain ⟨f2, rfl⟩ : ∃ f', f2 = f' + 1 := ⟨f2 - 1, by omega⟩
    refine ⟨T, ?_, Sm.rf _ _ _⟩
    show s_X10_bestOf_25 N r y rn km _ T x4 x5 u x = _
    unfold s_X10_bestOf_25
    rw [if_pos (by rw [zle, z10]; omega)]
  | succ m ih =>
    intro f2 T x hL hr hy hm h1 h2 c2
    obtain ⟨f2, rfl⟩ : ∃ f', f2 = f' + 1 := ⟨f2 - 1, by omega⟩
    have e2 : (x + 1).toInt = x.toInt + 1 := zadd (by rw [z1]; omega) (by rw [z1]; omega)
    have un2 : g_X10_bestOf_25 N r y rn km (f2 + 1) T x4 x5 u x = s_X10_bestOf_25 N r y rn km (g_X10_bestOf_25 N r y rn km f2) T x4 x5 u x := rfl
    rw [un2]
    unfold s_X10_bestOf_25
    rw [if_neg (show ¬ (10 : Int32) ≤ x by rw [zle, z10]; omega)]
    obtain ⟨T1, w1, w2⟩ := bestT_skip (S := S) (i := i) (f := x) N hu ⟨h1, by omega⟩ hb (fun S14 y10 y11 y12 y13 => g_X10_bestOf_25 N r y rn km f2 S14 y10 y11 y12 (y13 + (1 : Int32))) x4 x5 8 N T 0 hL hr hy (by decide) (by decide) (by decide) (by omega) (fun t q1 q2 q3 => absurd q3 (hn t (by rw [z0] at q1; exact q1) (by omega)))
    obtain ⟨T2, p1, p2⟩ := ih f2 T1 (x + 1) (hL.sm (by omega) (Sm.rf _ _ _) w2) (isR.sm w2 hr) (isY.sm w2 hy) (by rw [e2]; omega) (by omega) (by omega) (by omega)
    rw [w1]
    exact ⟨T2, p1, w2.tr p2⟩
theorem td_ex {u : Int32} (h : 1 ≤ u.toInt ∧ u.toInt ≤ 3) : ∃ t : Int32, 0 ≤ t.toInt ∧ t.toInt < 8 ∧ isTd u t := by
  rcases (show u.toInt = 1 ∨ u.toInt = 2 ∨ u.toInt = 3 by omega) with q | q | q
  · have : u = 1 := by rw [zeq, q, z1]
    subst this; exact ⟨2, by decide, by decide, by decide⟩
  · have : u = 2 := by rw [zeq, q, z2]
    subst this; exact ⟨1, by decide, by decide, by decide⟩
  · have : u = 3 := by rw [zeq, q, z3]
    subst this; exact ⟨2, by decide, by decide, by decide⟩
theorem bestU_loop {i : Nat} {N : Nat} (hN : 100 ≤ N) {r y rn : Int32} (hb : isB rn) : ∀ (m f1 f2 : Nat) (S T : St) (x4 x5 u : Int32), IvLb S T (33 + 5 * i) → isR T r → isY T y → (5 - u.toInt).toNat = m → 1 ≤ u.toInt → u.toInt ≤ 5 → m < f1 → m < f2 → BR T r y rn S x4 x5 →
    ∃ S' T' x4' x5', g_X1_find_11 N i r y rn f1 S u = some S' ∧ g_X10_bestOf_16 N r y rn f2 T x4 x5 u = some (x4', T') ∧ SmF S S' ∧ SmR T T' ∧ BR T' r y rn S' x4' x5' ∧ (u.toInt ≤ 3 ∨ x5 ≠ -9 → x5' ≠ -9) := by
  intro m
  induction m with
  | zero =>
    intro f1 f2 S T x4 x5 u hL hr hy hm h1 h2 c1 c2 hB
    obtain ⟨f1, rfl⟩ : ∃ f', f1 = f' + 1 := ⟨f1 - 1, by omega⟩
    obtain ⟨f2, rfl⟩ : ∃ f', f2 = f' + 1 := ⟨f2 - 1, by omega⟩
    refine ⟨S, T, x4, x5, ?_, ?_, Sm.rf _ _ _, Sm.rf _ _ _, hB, fun q => q.resolve_left (by omega)⟩
    · show s_X1_find_11 N i r y rn _ S u = _
      unfold s_X1_find_11
      rw [if_pos (by rw [zlt, z4]; omega)]
    · show s_X10_bestOf_16 N r y rn _ T x4 x5 u = _
      unfold s_X10_bestOf_16
      rw [if_pos (by rw [zle, z5]; omega)]
  | succ m ih =>
    intro f1 f2 S T x4 x5 u hL hr hy hm h1 h2 c1 c2 hB
    obtain ⟨f1, rfl⟩ : ∃ f', f1 = f' + 1 := ⟨f1 - 1, by omega⟩
    obtain ⟨f2, rfl⟩ : ∃ f', f2 = f' + 1 := ⟨f2 - 1, by omega⟩
    have e2 : (u + 1).toInt = u.toInt + 1 := zadd (by rw [z1]; omega) (by rw [z1]; omega)
    have un1 : g_X1_find_11 N i r y rn (f1 + 1) S u = s_X1_find_11 N i r y rn (g_X1_find_11 N i r y rn f1) S u := rfl
    have un2 : g_X10_bestOf_16 N r y rn (f2 + 1) T x4 x5 u = s_X10_bestOf_16 N r y rn (g_X10_bestOf_16 N r y rn f2) T x4 x5 u := rfl
    have hu : 1 ≤ u.toInt ∧ u.toInt ≤ 4 := by omega
    obtain ⟨t0, d1, d2, d3, d4, d5⟩ := least_loop N u 8 N 0 (by decide) (by decide) (by decide) (by omega)
    rw [z0] at d2 d5
    rw [un1, un2]
    unfold s_X1_find_11 s_X10_bestOf_16 f_X1_leastTurnOver
    rw [if_neg (show ¬ (4 : Int32) < u by rw [zlt, z4]; omega), if_neg (show ¬ (5 : Int32) ≤ u by rw [zle, z5]; omega), d1, bs]
    by_cases q : t0.toInt ≤ 7
    · obtain ⟨S1, T1, y4, y5, p1, p2, p3, p4, p5, p6⟩ := bestF_loop (i := i) hN (r := r) (y := y) hu hb ⟨d2, q⟩ (d4 q) d5 (fun S14 y13 => g_X1_find_11 N i r y rn f1 S14 (y13 + (1 : Int32))) (fun S18 y15 y16 y17 => g_X10_bestOf_16 N r y rn f2 S18 y15 y16 (y17 + (1 : Int32))) 10 N N S T x4 x5 0 hL hr hy (by decide) (by decide) (by decide) (by omega) (by omega) hB
      obtain ⟨S', T', x4', x5', w1, w2, w3, w4, w5, w6⟩ := ih f1 f2 S1 T1 y4 y5 (u + 1) (hL.sm (by omega) p3 p4) (isR.sm p4 hr) (isY.sm p4 hy) (by rw [e2]; omega) (by omega) (by omega) (by omega) (by omega) p5
      rw [p1, p2]
      exact ⟨S', T', x4', x5', w1, w2, p3.tr w3, p4.tr w4, w5, fun _ => w6 (Or.inr (p6 (Or.inl (by decide))))⟩
    · have hno : ∀ t : Int32, 0 ≤ t.toInt → t.toInt < 8 → ¬ isTd u t := fun t q1 q2 => d5 t q1 (by omega)
      obtain ⟨T1, p2, p4⟩ := bestF_none (S := S) (i := i) hN (r := r) (y := y) hu hb hno (fun S18 y15 y16 y17 => g_X10_bestOf_16 N r y rn f2 S18 y15 y16 (y17 + (1 : Int32))) x4 x5 10 N T 0 hL hr hy (by decide) (by decide) (by decide) (by omega)
      have p1 : g_X1_find_27 N i r y rn (fun S14 y13 => g_X1_find_11 N i r y rn f1 S14 (y13 + (1 : Int32))) N S u t0 0 = g_X1_find_11 N i r y rn f1 S (u + 1) := by
        obtain ⟨M, rfl⟩ : ∃ M, N = M + 1 := ⟨N - 1, by omega⟩
        show s_X1_find_27 _ i r y rn _ _ S u t0 0 = _
        unfold s_X1_find_27
        rw [if_pos (by rw [zlt, z7]; omega)]
      have hB1 : BR T1 r y rn S x4 x5 := by
        unfold BR; rw [cv.sm p4]; exact hB
      obtain ⟨S', T', x4', x5', w1, w2, w3, w4, w5, w6⟩ := ih f1 f2 S T1 x4 x5 (u + 1) (hL.sm (by omega) (Sm.rf _ _ _) p4) (isR.sm p4 hr) (isY.sm p4 hy) (by rw [e2]; omega) (by omega) (by omega) (by omega) (by omega) hB1
      rw [p1, p2]
      refine ⟨S', T', x4', x5', w1, w2, w3, p4.tr w4, w5, fun z => w6 (Or.inr (z.resolve_left (fun q3 => ?_)))⟩
      obtain ⟨t, t1, t2, t3⟩ := td_ex (u := u) (by omega)
      exact hno t t1 t2 t3
theorem bothBest {i : Nat} {N : Nat} (hN : 100 ≤ N) {S T : St} {r y rn : Int32} (hL : IvLb S T (33 + 5 * i)) (hr : isR T r) (hy : isY T y) (hb : isB rn) : ∃ S' T' u f t v, f_X1_find N S i r y rn = some S' ∧ f_X10_bestOf N T r y rn = some (num u f t, T') ∧ SmF S S' ∧ SmR T T' ∧ gI S' 26 0 = v ∧ gI S' 26 1 = u ∧ gI S' 26 2 = f ∧ gI S' 26 3 = t ∧ isTo u f t rn ∧ v.toInt = cv T r y u f t rn ∧ 0 ≤ v.toInt ∧ v.toInt ≤ 10 := by
  obtain ⟨g1, g2, g3, g4, g5, g6, g7, g8, g9⟩ := hL.2.1
  have hro := hL.1.2.2.1
  have s0 : SmF S (sI S 26 0 (-1)) := Sm.sI S (-1) rfl
  have hr6 : gI (sI S 26 0 (-1)) (33 + 5 * i) 6 = gA T 6 4 := by rw [gI_off (by omega)]; exact hro
  unfold f_X1_find f_X10_bestOf
  rw [bnd_eq, bnd_eq, hr6, if_neg g4_14, bnd_eq, show (4 : Int32).toNatClampNeg = 4 by decide]
  obtain ⟨S', T', x4', x5', w1, w2, w3, w4, w5, w6⟩ := bestU_loop (i := i) hN (r := r) (y := y) hb (5 - (gA T 6 4).toInt).toNat N N (sI S 26 0 (-1)) T (-9) (-9) (gA T 6 4) (hL.sm (by omega) s0 (Sm.rf _ _ _)) hr hy rfl (by omega) (by omega) (by omega) (by omega) (Or.inl ⟨rfl, rfl, rfl⟩)
  have ne := w6 (Or.inl (by omega))
  rcases w5 with w5 | ⟨v1, v2, v3, v4, v5, v6⟩
  · exact absurd w5.2.1 ne
  · exact ⟨S', T', _, _, _, x5', w1, by rw [w2, v5], s0.tr w3, w4, v1, rfl, rfl, rfl, v4, by rw [v6, cv.sm w4], v2, v3⟩
theorem numE {u f t : Int32} (hu : 1 ≤ u.toInt ∧ u.toInt ≤ 4) (hf : 0 ≤ f.toInt ∧ f.toInt ≤ 9) (ht : 0 ≤ t.toInt ∧ t.toInt ≤ 7) : num u f t / 100 = u ∧ (num u f t / 10) - (num u f t / 10) / 10 * 10 = f ∧ num u f t - num u f t / 10 * 10 = t := by
  have e1 : ((100 : Int32) * u).toInt = 100 * u.toInt := zcmul z100 (by omega) (by omega)
  have e2 : ((10 : Int32) * f).toInt = 10 * f.toInt := zcmul z10 (by omega) (by omega)
  have e3 : (num u f t).toInt = 100 * u.toInt + 10 * f.toInt + t.toInt := by
    have e : (((100 : Int32) * u) + ((10 : Int32) * f)).toInt = 100 * u.toInt + 10 * f.toInt := by rw [zadd (by omega) (by omega), e1, e2]
    show ((((100 : Int32) * u) + ((10 : Int32) * f)) + t).toInt = _
    rw [zadd (by omega) (by omega), e]
  have d1 : (num u f t / 100).toInt = (num u f t).toInt / 100 := by rw [zdiv (by omega) (by rw [z100]; decide), z100]
  have d2 : (num u f t / 10).toInt = (num u f t).toInt / 10 := by rw [zdiv (by omega) (by rw [z10]; decide), z10]
  have d3 : (num u f t / 10 / 10).toInt = (num u f t).toInt / 10 / 10 := by rw [zdiv (by omega) (by rw [z10]; decide), z10, d2]
  have d4 : (num u f t / 10 / 10 * 10).toInt = (num u f t).toInt / 10 / 10 * 10 := by rw [zmulc z10 (by omega) (by omega), d3]
  have d5 : (num u f t / 10 * 10).toInt = (num u f t).toInt / 10 * 10 := by rw [zmulc z10 (by omega) (by omega), d2]
  refine ⟨?_, ?_, ?_⟩
  · rw [zeq, d1]; omega
  · rw [zeq, zsub (by omega) (by omega), d2, d4]; omega
  · rw [zeq, zsub (by omega) (by omega), d5]; omega
theorem Inv.smR {n : Nat} {S T S' T' : St} (h : Inv n S T) (hs : SmF S S') (ht : SmR T T') : Inv n S' T' :=
  h.sc ⟨fun c k q => hs.1 c k (fun z => q (Or.inr (Or.inl z))), fun c _ => hs.2.1 c id, hs.2.2.1, hs.2.2.2.2.1, hs.2.2.2.2.2⟩ ⟨fun c k q => ht.1 c k (fun z => q ⟨z.1, by omega⟩), fun c j _ => by rw [ht.2.1 c id], ht.2.2.1⟩
    (h.2.2.2.2.1.congr (hs.1 _ _ (by omega)) (fun c _ _ => hs.2.1 c id) (ht.1 _ _ (by omega)) (ht.2.1 _ id) (ht.1 _ _ (by omega)))
theorem p_best {n N : Nat} (hN : 100 ≤ N) {S T : St} (h : Inv n S T) (a y rn b : Int32) : Step n (f_X9_best N S a y rn b) (f_X10_best N T a y rn b) := by
  have hI := h.mono.thrown 0
  have hL := h.2.1.2
  have hL0 := hI.2.1.2
  have hg := hL.2.1
  unfold f_X9_best f_X10_best
  rw [cIsR hL, bs, if10, cIsY hL, bs, if10, cIsB, bs, if10, cIsB, bs, if10, bnd_eq, mIsR (T := sI T 0 0 0) (by show 0 ≤ (gI T 0 15).toInt; omega), bs, if10, mIsY (T := sI T 0 0 0) (by show 0 ≤ (gI T 0 14).toInt; omega), bs, if10, in_eq, bs, if10, in_eq, bs, if10, z0, z1]
  by_cases h1 : isR T a
  · rw [if_pos h1, if_pos (show isR (sI T 0 0 0) a from h1)]
    by_cases h2 : isY T y
    · rw [if_pos h2, if_pos (show isY (sI T 0 0 0) y from h2)]
      by_cases h3 : isB rn
      · rw [if_pos h3, if_pos h3]
        by_cases h4 : isB b
        · rw [if_pos h4, if_pos h4]
          obtain ⟨S', T', u, f, t, v, w1, w2, w3, w4, w5, w6, w7, w8, w9, w10, w11, w12⟩ := bothBest hN (r := a) (y := y) (rn := rn) hL0 h1 h2 h3
          rw [w1, w2, bs, bs]
          by_cases b0 : b = 0
          · subst b0
            rw [if_pos rfl, if_neg (by decide), w5]
            unfold f_X10_sureOf
            obtain ⟨n1, n2, n3⟩ := numE w9.1 w9.2.1 w9.2.2.1
            simp only []
            rw [n1, n2, n3]
            obtain ⟨v', wh, d1, d2, d3, d4, d5, d6, d7, d8, d9⟩ := bothV (S := S') (T := T') (rn := rn) (f := f) (t := t) (u := u) (hL0.sm (by omega) w3 w4) (isR.sm w4 h1) (isY.sm w4 h2) w9
            rw [d3, bs, bs]
            have ev : v' = v := by rw [zeq, d8, cv.sm w4, w10]
            rw [ev]
            exact ⟨v, S', _, rfl, rfl, (hI.smR w3 w4).rck _ _ _⟩
          · rw [if_neg b0]
            rw [zeq, z0] at b0
            rw [if_pos (by rw [zeq, z1]; omega)]
            unfold f_X1_number
            rw [bs, w6, w7, w8]
            exact ⟨num u f t, S', T', rfl, rfl, hI.smR w3 w4⟩
        · rw [if_neg h4, if_neg h4]; exact ⟨-1, S, _, rfl, rfl, hI⟩
      · rw [if_neg h3, if_neg h3]; exact ⟨-1, S, _, rfl, rfl, hI⟩
    · rw [if_neg h2, if_neg (show ¬ isY (sI T 0 0 0) y from h2)]; exact ⟨-1, S, _, rfl, rfl, hI⟩
  · rw [if_neg h1, if_neg (show ¬ isR (sI T 0 0 0) a from h1)]; exact ⟨-1, S, _, rfl, rfl, hI⟩
