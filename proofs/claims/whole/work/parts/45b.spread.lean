theorem zdec {x : Int32} (h : -1 ≤ x.toInt) (h' : x.toInt ≤ 100) : ∃ x' : Int32, x' = x + -1 ∧ x'.toInt = x.toInt - 1 := by
  have e : (x + -1).toInt = x.toInt + (-1 : Int32).toInt := zadd (by rw [zm1]; omega) (by rw [zm1]; omega)
  rw [zm1] at e
  exact ⟨x + -1, rfl, e⟩
theorem spreadG {S T1 : St} {i N : Nat} {r b y be x5 : Int32} (hL : IvLb S T1 (33 + 5 * i)) (hr : isR T1 r) (hp : HPS S T1 r) (hPR : ∀ y, isY T1 y → PR S T1 r y) (hb : 0 ≤ b.toInt ∧ b.toInt ≤ 24) (hy : isY T1 y) (hbe : 0 ≤ be.toInt ∧ be.toInt ≤ b.toInt) (hx5 : x5.toInt = stp (gI T1 0 14).toInt (gA T1 4 r.toNatClampNeg).toInt y.toNatClampNeg) (km : St → Int32 → Int32 → Option St) : ∀ (m fu : Nat) (T0 : St) (g : Nat → Int64) (x : Int32), (x.toInt + 1).toNat = m → -1 ≤ x.toInt → x.toInt ≤ (gA T1 6 5).toInt → m < fu → SmR T1 T0 → EqM S T1 r b g (QM (gI T1 0 14).toInt (b.toInt - be.toInt) ((gI T1 0 14).toInt - y.toNatClampNeg) ((gA T1 6 5).toInt - x.toInt)) →
    ∃ T0' g', g_X10_spreads_155 N r b km fu (sB T0 12 g) be y x5 x = km (sB T0' 12 g') be y ∧ SmR T1 T0' ∧ EqM S T1 r b g' (QM (gI T1 0 14).toInt (b.toInt - be.toInt) ((gI T1 0 14).toInt - y.toNatClampNeg + 1) 0) := by
  have hp' := hp
  obtain ⟨g1, g2, g3, g4, g5, g6, g7, g8, g9⟩ := hp
  have ey : (y.toNatClampNeg : Int) = y.toInt := by rw [znat]; omega
  intro m
  induction m with
  | zero =>
    intro fu T0 g x hm h1 h2 hf hT hE
    obtain ⟨fu, rfl⟩ : ∃ f', fu = f' + 1 := ⟨fu - 1, by omega⟩
    refine ⟨T0, g, ?_, hT, eq_mono hE (fun l' y' m' q1 q2 q3 q4 q5 => by omega)⟩
    show s_X10_spreads_155 N r b km _ (sB T0 12 g) be y x5 x = _
    unfold s_X10_spreads_155
    rw [if_pos (by rw [zlt, z0]; omega)]
  | succ m ih =>
    intro fu T0 g x hm h1 h2 hf hT hE
    obtain ⟨fu, rfl⟩ : ∃ f', fu = f' + 1 := ⟨fu - 1, by omega⟩
    obtain ⟨x', ex', em⟩ := zdec h1 (by omega)
    have hL0 : IvLb S T0 (33 + 5 * i) := hL.sm (by omega) (Sm.rf _ _ _) hT
    have hx0 : 0 ≤ x.toInt := by omega
    have a4 : gA T0 4 = gA T1 4 := hT.2.1 4 id
    have a6 : gA T0 6 = gA T1 6 := hT.2.1 6 id
    have a13 : gA T0 13 = gA T1 13 := hT.2.1 13 id
    have a14 : gA T0 14 = gA T1 14 := hT.2.1 14 id
    have i14 : gI T0 0 14 = gI T1 0 14 := hT.1 0 14 (by omega)
    obtain ⟨⟨f, t, p1, p2, p3, p4, p5⟩, ⟨f', t', q1, q2, q3, q4, q5⟩⟩ := hPR y hy
    have gy : ¬ (y < 0 ∨ 24 ≤ y.toNatClampNeg) := gok hy.1 (by omega)
    have hm1 : ((gA T1 6 5).toInt - x.toInt).toNat ≤ 4 := by omega
    obtain ⟨T2, t1, t2⟩ := mToss (T0 := T0) (be := be) (b := b) (ge := x) g hL0 (isR.sm hT hr) (isY.sm hT hy) p1 (by rw [cv.sm hT]; exact p3) hb hbe ⟨hx0, by rw [a6]; exact h2⟩
    have hT2 : SmR T1 T2 := hT.tr t1
    obtain ⟨T3, t3, t4⟩ := mToss (T0 := T2) (be := be) (b := b) (ge := x) g (hL.sm (by omega) (Sm.rf _ _ _) hT2) (isR.sm hT2 hr) (isY.sm hT2 hy) q1 (by rw [cv.sm hT2]; exact q3) hb hbe ⟨hx0, by rw [hT2.2.1 6 id]; exact h2⟩
    have hT3 : SmR T1 T3 := hT2.tr t3
    have b14 : gA (sB T2 12 g) 14 = gA T1 14 := hT2.2.1 14 id
    have wv0 : (wv T0 r y (gA S 31 y.toNatClampNeg) 0).toNat = y.toNatClampNeg := by
      unfold wv whF
      rw [if_neg (by decide)]; rfl
    have wv1 : wv T2 r y (gA S 32 y.toNatClampNeg) 1 = whF (gI T1 0 14).toInt (gA T1 4 r.toNatClampNeg).toInt y.toNatClampNeg (gA S 32 y.toNatClampNeg).toInt 1 := by
      unfold wv
      rw [hT2.1 0 14 (by omega), hT2.2.1 4 id, ey]; rfl
    rw [a6, wv0] at t2
    rw [hT2.2.1 6 id, wv1] at t4
    have sx : 0 ≤ x5.toInt ∧ x5.toInt ≤ (gI T1 0 14).toInt := by
      rw [hx5]
      exact ⟨by omega, stpB (by omega) (by omega)⟩
    have un : g_X10_spreads_155 N r b km (fu + 1) (sB T0 12 g) be y x5 x = s_X10_spreads_155 N r b km (g_X10_spreads_155 N r b km fu) (sB T0 12 g) be y x5 x := rfl
    -- the place, once the run's chance is known
    have put : ∀ tv : Int64, tv = rdg (rdM b.toInt (gA T1 6 5).toInt g) (b.toInt - be.toInt - 1) (stp (gI T1 0 14).toInt (gA T1 4 r.toNatClampNeg).toInt y.toNatClampNeg) ((gA T1 6 5).toInt - x.toInt).toNat →
        ∃ T0' g', f_X10_spreads_184 N r b km (g_X10_spreads_155 N r b km fu) (sB T0 12 g) be y x5 x tv = km (sB T0' 12 g') be y ∧ SmR T1 T0' ∧ EqM S T1 r b g' (QM (gI T1 0 14).toInt (b.toInt - be.toInt) ((gI T1 0 14).toInt - y.toNatClampNeg + 1) 0) := by
      intro tv htv
      have hy24 : 0 ≤ y.toInt ∧ y.toInt ≤ 24 := ⟨hy.1, by omega⟩
      have hb24 : 0 ≤ be.toInt ∧ be.toInt ≤ 24 := ⟨hbe.1, by omega⟩
      have hx4 : 0 ≤ x.toInt ∧ x.toInt ≤ 4 := ⟨hx0, by omega⟩
      unfold f_X10_spreads_184 f_X10_at
      rw [if_neg gy, show gA (sB T0 12 g) 13 = gA T1 13 from a13, p2, t2, bs, if_neg gy, b14, q2, t4, bs, bs, greatE, bs, greatE, bs, if_neg (atG hy24 hb24 hx4), bnd_eq, gBu, sBB]
      rw [← ex']
      refine ih fu T3 _ x' (by rw [em]; omega) (by omega) (by omega) (by omega) hT3 ?_
      rw [em, show (gA T1 6 5).toInt - (x.toInt - 1) = (gA T1 6 5).toInt - x.toInt + 1 by omega]
      refine mWrite rfl hp' hE (y0 := y.toNatClampNeg) (m1 := ((gA T1 6 5).toInt - x.toInt).toNat) ⟨by omega, by omega⟩ hb.2 rfl (by omega) (by omega) (by omega) ?_ ?_
      · rw [atN hy24 hb24 hx4, znat]; omega
      · unfold valS valF
        rw [if_neg (show ¬ ((y.toNatClampNeg : Nat) : Int) = (gI T1 0 14).toInt by omega), ← htv]
        rfl
    rw [un]
    unfold s_X10_spreads_155
    rw [if_neg (show ¬ x < 0 by rw [zlt, z0]; omega)]
    by_cases q : be = b
    · rw [if_pos q]
      refine put 0 ?_
      unfold rdg
      rw [if_pos (by rw [q]; omega)]
    · rw [if_neg q]
      rw [zeq] at q
      have eb1 : (be + 1).toInt = be.toInt + 1 := zadd (by rw [z1]; omega) (by rw [z1]; omega)
      unfold f_X10_at
      rw [bs, if_neg (atG ⟨sx.1, by omega⟩ ⟨by omega, by omega⟩ ⟨hx0, by omega⟩), gBu]
      refine put _ ?_
      unfold rdg rdM
      rw [if_neg (by omega), atN ⟨sx.1, by omega⟩ ⟨by omega, by omega⟩ ⟨hx0, by omega⟩]
      congr 1
      omega
