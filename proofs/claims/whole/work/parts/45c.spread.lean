theorem spreadE {S T1 : St} {i N : Nat} {r b be : Int32} (hL : IvLb S T1 (33 + 5 * i)) (hr : isR T1 r) (hp : HPS S T1 r) (hb : 0 ≤ b.toInt ∧ b.toInt ≤ 24) (hbe : 0 ≤ be.toInt ∧ be.toInt ≤ b.toInt) (km : St → Int32 → Option St) : ∀ (m fu : Nat) (T0 : St) (g : Nat → Int64) (x : Int32), (x.toInt + 1).toNat = m → -1 ≤ x.toInt → x.toInt ≤ (gA T1 6 5).toInt → m < fu → SmR T1 T0 → EqM S T1 r b g (QM (gI T1 0 14).toInt (b.toInt - be.toInt) 0 ((gA T1 6 5).toInt - x.toInt)) →
    ∃ g', g_X10_spreads_56 N r b km fu (sB T0 12 g) be x = km (sB T0 12 g') be ∧ EqM S T1 r b g' (QM (gI T1 0 14).toInt (b.toInt - be.toInt) 1 0) := by
  have hp' := hp
  obtain ⟨g1, g2, g3, g4, g5, g6, g7, g8, g9⟩ := hp
  intro m
  induction m with
  | zero =>
    intro fu T0 g x hm h1 h2 hf hT hE
    obtain ⟨fu, rfl⟩ : ∃ f', fu = f' + 1 := ⟨fu - 1, by omega⟩
    refine ⟨g, ?_, eq_mono hE (fun l' y' m' q1 q2 q3 q4 q5 => by omega)⟩
    show s_X10_spreads_56 N r b km _ (sB T0 12 g) be x = _
    unfold s_X10_spreads_56
    rw [if_pos (by rw [zlt, z0]; omega)]
  | succ m ih =>
    intro fu T0 g x hm h1 h2 hf hT hE
    obtain ⟨fu, rfl⟩ : ∃ f', fu = f' + 1 := ⟨fu - 1, by omega⟩
    obtain ⟨x', ex', em⟩ := zdec h1 (by omega)
    have a6 : gA T0 6 = gA T1 6 := hT.2.1 6 id
    have i14 : gI T0 0 14 = gI T1 0 14 := hT.1 0 14 (by omega)
    have hx0 : 0 ≤ x.toInt := by omega
    have hn24 : 0 ≤ (gI T1 0 14).toInt ∧ (gI T1 0 14).toInt ≤ 24 := ⟨by omega, g2⟩
    have hb24 : 0 ≤ be.toInt ∧ be.toInt ≤ 24 := ⟨hbe.1, by omega⟩
    have hx4 : 0 ≤ x.toInt ∧ x.toInt ≤ 4 := ⟨hx0, by omega⟩
    have un : g_X10_spreads_56 N r b km (fu + 1) (sB T0 12 g) be x = s_X10_spreads_56 N r b km (g_X10_spreads_56 N r b km fu) (sB T0 12 g) be x := rfl
    have j14 : gI (sB T0 12 g) 0 14 = gI T1 0 14 := i14
    have j6 : gA (sB T0 12 g) 6 = gA T1 6 := a6
    have put : ∀ tv : Int64, tv = (if x.toInt = (gA T1 6 5).toInt then (1000000000000 : Int64) else 0) → ∃ g', f_X10_spreads_93 N r b km (g_X10_spreads_56 N r b km fu) (sB T0 12 g) be x ((((125 : Int32) * gI T1 0 14) + ((5 : Int32) * be)) + x) tv = km (sB T0 12 g') be ∧ EqM S T1 r b g' (QM (gI T1 0 14).toInt (b.toInt - be.toInt) 1 0) := by
      intro tv htv
      unfold f_X10_spreads_93
      rw [if_neg (atG hn24 hb24 hx4), bnd_eq, gBu, sBB]
      rw [← ex']
      refine ih fu T0 _ x' (by rw [em]; omega) (by omega) (by omega) (by omega) hT ?_
      rw [em, show (gA T1 6 5).toInt - (x.toInt - 1) = (gA T1 6 5).toInt - x.toInt + 1 by omega]
      refine mWrite rfl hp' hE (y0 := (gI T1 0 14).toInt.toNat) (m1 := ((gA T1 6 5).toInt - x.toInt).toNat) ⟨by omega, by omega⟩ hb.2 (by omega) (by omega) (by omega) (by omega) ?_ ?_
      · rw [atN hn24 hb24 hx4]; omega
      · unfold valS valF
        rw [if_pos (by omega), htv]
        by_cases c : x.toInt = (gA T1 6 5).toInt
        · rw [if_pos c, if_pos (by omega)]
        · rw [if_neg c, if_neg (by omega)]
    rw [un]
    unfold s_X10_spreads_56 f_X10_at
    rw [if_neg (show ¬ x < 0 by rw [zlt, z0]; omega), bs, if_neg g5_14, j14, j6, show (5 : Int32).toNatClampNeg = 5 by decide]
    by_cases c : x = gA T1 6 5
    · rw [if_pos c]
      exact put _ (by rw [if_pos (by rw [c])])
    · rw [if_neg c]
      rw [zeq] at c
      exact put _ (by rw [if_neg c])
