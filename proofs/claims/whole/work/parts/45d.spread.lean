theorem spreadR {S T1 : St} {i N : Nat} (hN : 100 ≤ N) {r b be : Int32} (hL : IvLb S T1 (33 + 5 * i)) (hr : isR T1 r) (hp : HPS S T1 r) (hPR : ∀ y, isY T1 y → PR S T1 r y) (hb : 0 ≤ b.toInt ∧ b.toInt ≤ 24) (hbe : 0 ≤ be.toInt ∧ be.toInt ≤ b.toInt) (km : St → Int32 → Option St) : ∀ (m fu : Nat) (T0 : St) (g : Nat → Int64) (x : Int32), (x.toInt + 1).toNat = m → -1 ≤ x.toInt → x.toInt < (gI T1 0 14).toInt → m < fu → SmR T1 T0 → EqM S T1 r b g (QM (gI T1 0 14).toInt (b.toInt - be.toInt) ((gI T1 0 14).toInt - x.toInt) 0) →
    ∃ T0' g', g_X10_spreads_108 N r b km fu (sB T0 12 g) be x = km (sB T0' 12 g') be ∧ SmR T1 T0' ∧ EqM S T1 r b g' (QM (gI T1 0 14).toInt (b.toInt - be.toInt + 1) 0 0) := by
  have hp' := hp
  obtain ⟨g1, g2, g3, g4, g5, g6, g7, g8, g9⟩ := hp
  intro m
  induction m with
  | zero =>
    intro fu T0 g x hm h1 h2 hf hT hE
    obtain ⟨fu, rfl⟩ : ∃ f', fu = f' + 1 := ⟨fu - 1, by omega⟩
    refine ⟨T0, g, ?_, hT, eq_mono hE (fun l' y' m' q1 q2 q3 q4 q5 => by omega)⟩
    show s_X10_spreads_108 N r b km _ (sB T0 12 g) be x = _
    unfold s_X10_spreads_108
    rw [if_pos (by rw [zlt, z0]; omega)]
  | succ m ih =>
    intro fu T0 g x hm h1 h2 hf hT hE
    obtain ⟨fu, rfl⟩ : ∃ f', fu = f' + 1 := ⟨fu - 1, by omega⟩
    obtain ⟨x', ex', em⟩ := zdec h1 (by omega)
    have a4 : gA (sB T0 12 g) 4 = gA T1 4 := hT.2.1 4 id
    have a6 : gA (sB T0 12 g) 6 = gA T1 6 := hT.2.1 6 id
    have i14 : gI (sB T0 12 g) 0 14 = gI T1 0 14 := hT.1 0 14 (by omega)
    have hx0 : 0 ≤ x.toInt := by omega
    have hY : isY T1 x := ⟨hx0, h2⟩
    have exn : (x.toNatClampNeg : Int) = x.toInt := by rw [znat]; omega
    have gr : ¬ (r < 0 ∨ 6 ≤ r.toNatClampNeg) := gok hr.1 (by have := hL.2.1; omega)
    have ea : (x + gA T1 4 r.toNatClampNeg).toInt = x.toInt + (gA T1 4 r.toNatClampNeg).toInt := zadd (by omega) (by omega)
    have un : g_X10_spreads_108 N r b km (fu + 1) (sB T0 12 g) be x = s_X10_spreads_108 N r b km (g_X10_spreads_108 N r b km fu) (sB T0 12 g) be x := rfl
    have go : ∀ x5 : Int32, x5.toInt = stp (gI T1 0 14).toInt (gA T1 4 r.toNatClampNeg).toInt x.toNatClampNeg → ∃ T0' g', f_X10_spreads_145 N r b km (g_X10_spreads_108 N r b km fu) (sB T0 12 g) be x x5 = km (sB T0' 12 g') be ∧ SmR T1 T0' ∧ EqM S T1 r b g' (QM (gI T1 0 14).toInt (b.toInt - be.toInt + 1) 0 0) := by
      intro x5 hx5
      unfold f_X10_spreads_145
      rw [if_neg g5_14, bnd_eq, a6, show (5 : Int32).toNatClampNeg = 5 by decide]
      obtain ⟨T2, f2, d1, d2, d3⟩ := spreadG (N := N) hL hr hp' hPR hb hY hbe hx5 (fun S42 y40 y41 => g_X10_spreads_108 N r b km fu S42 y40 (y41 + (-1 : Int32))) ((gA T1 6 5).toInt + 1).toNat N T0 g (gA T1 6 5) rfl (by omega) (by omega) (by omega) hT (by
        rw [show (gA T1 6 5).toInt - (gA T1 6 5).toInt = 0 by omega, exn]; exact hE)
      rw [d1]
      rw [← ex']
      refine ih fu T2 f2 x' (by rw [em]; omega) (by omega) (by omega) (by omega) d2 ?_
      rw [em, show (gI T1 0 14).toInt - (x.toInt - 1) = (gI T1 0 14).toInt - x.toNatClampNeg + 1 by omega]
      exact d3
    rw [un]
    unfold s_X10_spreads_108
    rw [if_neg (show ¬ x < 0 by rw [zlt, z0]; omega), if_neg gr, a4, i14]
    by_cases q : x + gA T1 4 r.toNatClampNeg ≤ gI T1 0 14
    · rw [if_pos q, if_neg gr]
      rw [zle, ea] at q
      refine go _ ?_
      unfold stp
      rw [ea, exn]
      split <;> omega
    · rw [if_neg q]
      rw [zle, ea] at q
      refine go _ ?_
      unfold stp
      rw [exn]
      split <;> omega
theorem spreadB {S T1 : St} {i N : Nat} (hN : 100 ≤ N) {r b : Int32} (hL : IvLb S T1 (33 + 5 * i)) (hr : isR T1 r) (hp : HPS S T1 r) (hPR : ∀ y, isY T1 y → PR S T1 r y) (hb : 0 ≤ b.toInt ∧ b.toInt ≤ 24) : ∀ (m fu : Nat) (T0 : St) (g : Nat → Int64) (x : Int32), (x.toInt + 1).toNat = m → -1 ≤ x.toInt → x.toInt ≤ b.toInt → m < fu → SmR T1 T0 → EqM S T1 r b g (QM (gI T1 0 14).toInt (b.toInt - x.toInt) 0 0) →
    ∃ T0' g', g_X10_spreads_44 N r b fu (sB T0 12 g) x = some (sB T0' 12 g') ∧ SmR T1 T0' ∧ EqM S T1 r b g' (fun _ _ _ => True) := by
  have hp' := hp
  obtain ⟨g1, g2, g3, g4, g5, g6, g7, g8, g9⟩ := hp
  intro m
  induction m with
  | zero =>
    intro fu T0 g x hm h1 h2 hf hT hE
    obtain ⟨fu, rfl⟩ : ∃ f', fu = f' + 1 := ⟨fu - 1, by omega⟩
    refine ⟨T0, g, ?_, hT, eq_mono hE (fun l' y' m' q1 q2 q3 q4 q5 => by omega)⟩
    show s_X10_spreads_44 N r b _ (sB T0 12 g) x = _
    unfold s_X10_spreads_44
    rw [if_pos (by rw [zlt, z0]; omega)]
  | succ m ih =>
    intro fu T0 g x hm h1 h2 hf hT hE
    obtain ⟨fu, rfl⟩ : ∃ f', fu = f' + 1 := ⟨fu - 1, by omega⟩
    obtain ⟨x', ex', em⟩ := zdec h1 (by omega)
    have a6 : gA (sB T0 12 g) 6 = gA T1 6 := hT.2.1 6 id
    have i14 : ∀ g', gI (sB T0 12 g') 0 14 = gI T1 0 14 := fun g' => hT.1 0 14 (by omega)
    have hx0 : 0 ≤ x.toInt := by omega
    have n1 : (gI T1 0 14 - 1).toInt = (gI T1 0 14).toInt - 1 := by rw [zsub (by rw [z1]; omega) (by rw [z1]; omega), z1]
    have un : g_X10_spreads_44 N r b (fu + 1) (sB T0 12 g) x = s_X10_spreads_44 N r b (g_X10_spreads_44 N r b fu) (sB T0 12 g) x := rfl
    rw [un]
    unfold s_X10_spreads_44
    rw [if_neg (show ¬ x < 0 by rw [zlt, z0]; omega), if_neg g5_14, bnd_eq, a6, show (5 : Int32).toNatClampNeg = 5 by decide]
    obtain ⟨f2, d1, d3⟩ := spreadE (N := N) hL hr hp' hb (be := x) ⟨hx0, h2⟩ (fun S19 y18 => bnd ((gI S19 0 14) - (1 : Int32)) fun b20 => g_X10_spreads_108 N r b (fun S44 y43 => g_X10_spreads_44 N r b fu S44 (y43 + (-1 : Int32))) N S19 y18 b20) ((gA T1 6 5).toInt + 1).toNat N T0 g (gA T1 6 5) rfl (by omega) (by omega) (by omega) hT (by
      rw [show (gA T1 6 5).toInt - (gA T1 6 5).toInt = 0 by omega]; exact hE)
    rw [d1, bnd_eq, i14]
    obtain ⟨T3, f3, c1, c2, c3⟩ := spreadR (N := N) hN hL hr hp' hPR hb (be := x) ⟨hx0, h2⟩ (fun S44 y43 => g_X10_spreads_44 N r b fu S44 (y43 + (-1 : Int32))) ((gI T1 0 14 - 1).toInt + 1).toNat N T0 f2 (gI T1 0 14 - 1) rfl (by omega) (by omega) (by omega) hT (by
      rw [n1, show (gI T1 0 14).toInt - ((gI T1 0 14).toInt - 1) = 1 by omega]; exact d3)
    rw [c1]
    rw [← ex']
    refine ih fu T3 f3 x' (by rw [em]; omega) (by omega) (by omega) (by omega) c2 ?_
    rw [em, show b.toInt - (x.toInt - 1) = b.toInt - x.toInt + 1 by omega]
    exact c3
