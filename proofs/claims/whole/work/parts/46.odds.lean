/-! odds and enough -/
theorem ofN24 (y : Nat) (h : y < 24) : (Int32.ofNat y).toInt = y ∧ (Int32.ofNat y).toNatClampNeg = y := by
  have : ∀ z : Fin 24, (Int32.ofNat z.val).toInt = z.val ∧ (Int32.ofNat z.val).toNatClampNeg = z.val := by decide
  exact this ⟨y, h⟩
theorem bothSpread {S T : St} {i N : Nat} (hN : 100 ≤ N) {r b : Int32} (hL : IvLb S T (33 + 5 * i)) (hr : isR T r) (hb : 0 ≤ b.toInt ∧ b.toInt ≤ 24) : ∃ S1 f T2 g, f_X4_fill N S i r = some (sB S1 28 f) ∧ SmF1 S S1 ∧ f_X10_spreads N T r b = some (sB T2 12 g) ∧ SmR1 T T2 ∧
    ∀ (l : Int) (y m : Nat), 0 ≤ l → l ≤ 24 → (y : Int) ≤ (gI T 0 14).toInt → (m : Int) ≤ (gA T 6 5).toInt → inE (rdF f l y m) ∧ (l ≤ b.toInt → rdF f l y m = rdM b.toInt (gA T 6 5).toInt g l y m) := by
  obtain ⟨g1, g2, g3, g4, g5, g6, g7, g8, g9, g10⟩ := hL.2.1
  obtain ⟨S1, T1, c1, c2, c3, c4, c5⟩ := spreadY hN b _ N N S T 0 hL hr rfl (by decide) (by rw [z0]; omega) (by rw [z0]; omega) (by rw [z0]; omega) (fun y y0 y1 => by rw [z0] at y1; omega)
  have hL1 := hL.sm1 (by omega) c3 c4
  have hr1 := isR.sm1 c4 hr
  have i14 : gI T1 0 14 = gI T 0 14 := c4.1 0 14 (by omega)
  have a6 : gA T1 6 = gA T 6 := c4.2.1 6 (by omega)
  have hPR : ∀ y, isY T1 y → PR S1 T1 r y := by
    intro y hy
    have hy' : isY T y := by unfold isY at hy ⊢; rw [← i14]; exact hy
    have := c5 y hy'
    exact this
  have hp1 := hL1.2.2.2.2.1 r.toNatClampNeg (by rw [znat]; omega)
  have hp : HPS S1 T1 r := by
    refine ⟨by rw [i14]; exact g1, by rw [i14]; exact g2, by rw [a6]; omega, by rw [a6]; omega, by rw [a6]; omega, by rw [a6]; omega, hp1.2.1, hp1.2.2, fun y hy => ?_⟩
    obtain ⟨o1, o2⟩ := ofN24 y (by rw [i14] at hy; omega)
    obtain ⟨⟨f, t, p1, p2, p3, p4, p5⟩, ⟨f', t', q1, q2, q3, q4, q5⟩⟩ := hPR (Int32.ofNat y) ⟨by omega, by omega⟩
    rw [o2] at p1 p4 p5 q1 q4 q5
    exact ⟨p1.1, q1.1, ⟨p4, p5⟩, ⟨q4, q5⟩⟩
  obtain ⟨f, d1, d2⟩ := cTable hN hL1 hr1 hp
  obtain ⟨T2, g, e1, e2, e3⟩ := spreadB hN hL1 hr1 hp hPR hb (b.toInt + 1).toNat N T1 (gB T1 12) b rfl (by omega) (by omega) (by omega) (Sm.rf _ _ _) (fun l y m q1 q2 q3 q4 q5 => by omega)
  rw [sB_self] at e1
  refine ⟨S1, f, T2, g, ?_, c3, ?_, c4.tr (SmR.w e2), fun l y m q1 q2 q3 q4 => ⟨?_, fun q5 => ?_⟩⟩
  · unfold f_X4_fill
    rw [c1]; exact d1
  · unfold f_X10_spreads
    rw [c2]; exact e1
  · exact eq_bound hp d2 25 l y m (by omega) q1 q2 (by rw [i14]; exact q3) (by rw [a6]; exact q4)
  · have := eq_same hp d2 e3 25 l y m (by omega) q1 q2 q5 (by rw [i14]; exact q3) (by rw [a6]; exact q4)
    rw [a6] at this
    exact this
theorem Inv.sm1 {n : Nat} {S T S' T' : St} (h : Inv n S T) (hs : SmF1 S S') (ht : SmR1 T T') : Inv n S' T' :=
  h.sc ⟨fun c k q => hs.1 c k (fun z => q (Or.inr (Or.inl z))), fun c q => hs.2.1 c (fun z => q (by omega)), hs.2.2.1, hs.2.2.2.2.1, hs.2.2.2.2.2⟩ ⟨fun c k q => ht.1 c k (fun z => q ⟨z.1, by omega⟩), fun c j q => by rw [ht.2.1 c (fun z => q (by omega))], ht.2.2.1⟩
    (h.2.2.2.2.1.congr (hs.1 _ _ (by omega)) (fun c _ _ => hs.2.1 c (by omega)) (ht.1 _ _ (by omega)) (ht.2.1 _ (by omega)) (ht.1 _ _ (by omega)))
theorem Inv.b {n : Nat} {S T : St} (h : Inv n S T) (c d : Nat) (f g : Nat → Int64) : Inv n (sB S c f) (sB T d g) := h
theorem bothOdds {n N : Nat} (hN : 100 ≤ N) (hn : n < 1000) {S T : St} (h : Inv n S T) {r b : Int32} (hr : isR T r) (hb : 0 ≤ b.toInt ∧ b.toInt ≤ 24) : ∃ S1 f x T', f_X4_fill N S (gCo S).toNat r = some (sB S1 28 f) ∧ SmF1 S S1 ∧ f_X9_oddsBy (sB S1 28 f) r b = some x ∧ f_X10_oddsBy N T r b = some (x, T') ∧ inE x ∧ Inv n S T' := by
  have hL := h.2.1.2
  have hg := hL.2.1
  have ha : 0 ≤ r.toInt ∧ r.toInt < 3 := by omega
  obtain ⟨S1, f, T2, g, d1, d2, d3, d4, d5⟩ := bothSpread hN hL hr hb
  obtain ⟨r1, r2, r3, r4, r5, r6, r7, r8, r9⟩ := h.2.2.1.1 r.toNatClampNeg (by rw [znat]; omega)
  rw [Nat.zero_add] at r1 r2 r3
  obtain ⟨m1, m2⟩ := h3r ha
  obtain ⟨m3, m4⟩ := h3r1 ha
  obtain ⟨m5, m6⟩ := h3r2 ha
  have o5 : gA (sB S1 28 f) 5 = gA S 5 := d2.2.1 5 (by omega)
  have o6 : gA (sB S1 28 f) 6 = gA S 6 := d2.2.1 6 (by omega)
  have o7 : gA (sB S1 28 f) 7 = gA S 7 := d2.2.1 7 (by omega)
  have oc : gCo (sB S1 28 f) = gCo S := d2.2.2.2.2.1
  have on : gI (sB S1 28 f) (33 + 5 * (gCo S).toNat) 7 = gA T 6 5 := (d2.1 _ 7 (by omega)).trans hL.1.2.2.2.1
  have u7 : gA (sB T2 12 g) 7 = gA T 7 := d4.2.1 7 (by omega)
  have u6 : gA (sB T2 12 g) 6 = gA T 6 := d4.2.1 6 (by omega)
  generalize hy : gA S 5 r.toNatClampNeg = y at *
  generalize hbt : gA S 6 r.toNatClampNeg = bt at *
  generalize hgd : gA S 7 r.toNatClampNeg = gd at *
  -- good ones missing
  have em : (gA T 6 5 - gd).toInt = (gA T 6 5).toInt - gd.toInt := zsub (by omega) (by omega)
  have eM : (if (0 : Int32) < (gA T 6 5 - gd) then (gA T 6 5 - gd) else (0 : Int32)).toInt = (if 0 < (gA T 6 5).toInt - gd.toInt then (gA T 6 5).toInt - gd.toInt else 0) := by
    rw [zite, em, z0]
    exact ite_iff (by rw [zlt, z0, em]) _ _
  have el : (b - bt).toInt = b.toInt - bt.toInt := zsub (by omega) (by omega)
  have cO : f_X9_oddsBy (sB S1 28 f) r b = some (rdg (rdF f) (b.toInt - bt.toInt) y.toNatClampNeg (if 0 < (gA T 6 5).toInt - gd.toInt then (gA T 6 5).toInt - gd.toInt else 0).toNat) := by
    unfold f_X9_oddsBy
    rw [cGoodOf (i := 0) ha.1 ha.2, bs, bnd_eq, cBeatsOf (i := 0) ha.1 ha.2, bs, cYardOf (i := 0) ha.1 ha.2, bs]
    show (f_X4_chance (sB S1 28 f) (b - gA (sB S1 28 f) 6 r.toNatClampNeg) (gA (sB S1 28 f) 5 r.toNatClampNeg) (if (0 : Int32) < ((gI (sB S1 28 f) (33 + 5 * (gCo (sB S1 28 f)).toNat) 7) - gA (sB S1 28 f) 7 r.toNatClampNeg) then ((gI (sB S1 28 f) (33 + 5 * (gCo (sB S1 28 f)).toNat) 7) - gA (sB S1 28 f) 7 r.toNatClampNeg) else (0 : Int32))).bind _ = _
    rw [o5, o6, o7, oc, on, hy, hbt, hgd, cChance (by omega) ⟨r4, by omega⟩ (by rw [eM]; split <;> omega), bs, gBu, el, znat (if (0 : Int32) < (gA T 6 5 - gd) then (gA T 6 5 - gd) else (0 : Int32)), eM]
  refine ⟨S1, f, rdg (rdF f) (b.toInt - bt.toInt) y.toNatClampNeg (if 0 < (gA T 6 5).toInt - gd.toInt then (gA T 6 5).toInt - gd.toInt else 0).toNat, ?_⟩
  by_cases q : bt ≤ b
  · -- there are beats left
    have q' := q
    rw [zle] at q
    have hl : 0 ≤ b.toInt - bt.toInt ∧ b.toInt - bt.toInt ≤ 24 := by omega
    have hm : ((if 0 < (gA T 6 5).toInt - gd.toInt then (gA T 6 5).toInt - gd.toInt else 0).toNat : Int) ≤ (gA T 6 5).toInt := by split <;> omega
    have yn : (y.toNatClampNeg : Int) ≤ (gI T 0 14).toInt := by rw [znat]; omega
    obtain ⟨b1, b2⟩ := d5 (b.toInt - bt.toInt) y.toNatClampNeg _ hl.1 hl.2 yn hm
    have eR : rdg (rdF f) (b.toInt - bt.toInt) y.toNatClampNeg (if 0 < (gA T 6 5).toInt - gd.toInt then (gA T 6 5).toInt - gd.toInt else 0).toNat = rdF f (b.toInt - bt.toInt) y.toNatClampNeg (if 0 < (gA T 6 5).toInt - gd.toInt then (gA T 6 5).toInt - gd.toInt else 0).toNat := by
      unfold rdg
      rw [if_neg (by omega)]
    refine ⟨sB T2 12 g, d1, d2, cO, ?_, by rw [eR]; exact b1, (h.sm1 (Sm.rf _ _ _) d4).b 28 12 (gB S 28) g |> fun z => by rw [sB_self] at z; exact z⟩
    rw [eR, b2 (by omega)]
    have fin : ∀ gg : Int32, 0 ≤ gg.toInt → gg.toInt ≤ 4 → gg.toInt.toNat = (gA T 6 5).toInt.toNat - (if 0 < (gA T 6 5).toInt - gd.toInt then (gA T 6 5).toInt - gd.toInt else 0).toNat → f_X10_oddsBy_60 N r (sB T2 12 g) gg = some (rdM b.toInt (gA T 6 5).toInt g (b.toInt - bt.toInt) y.toNatClampNeg (if 0 < (gA T 6 5).toInt - gd.toInt then (gA T 6 5).toInt - gd.toInt else 0).toNat, sB T2 12 g) := by
      intro gg h0 h4 hgg
      unfold f_X10_oddsBy_60 f_X10_at
      rw [if_neg (gok (by omega) (by omega)), if_neg (gok (by omega) (by omega)), u7, m2, m4, ← r1, ← r2, bs, if_neg (atG ⟨r4, by omega⟩ ⟨by omega, by omega⟩ ⟨h0, h4⟩), gBu, atN ⟨r4, by omega⟩ ⟨by omega, by omega⟩ ⟨h0, h4⟩]
      unfold rdM
      rw [show (b.toInt - (b.toInt - bt.toInt)).toNat = bt.toInt.toNat by omega, hgg, znat]
    have gr2 : ¬ ((3 : Int32) * r + 2 < 0 ∨ 10 ≤ 3 * r.toNatClampNeg + 2) := by rw [← m6]; exact gok (by omega) (by omega)
    have g55 : ¬ ((5 : Int32) < 0 ∨ 14 ≤ 5) := by decide
    unfold f_X10_oddsBy
    rw [if_neg (gok (by omega) (by omega)), m4, ← r2, if_pos q', d3, bs, if_neg (gok (by omega) (by omega)), if_neg g5_14, u7, u6, m6, ← r3, show (5 : Int32).toNatClampNeg = 5 by decide]
    by_cases c : gd ≤ gA T 6 5
    · rw [if_pos c, if_neg gr2]
      rw [zle] at c
      exact fin gd r8 (by omega) (by split <;> omega)
    · rw [if_neg c, if_neg g55]
      rw [zle] at c
      exact fin _ (by omega) (by omega) (by split <;> omega)
  · have q' := q
    rw [zle] at q
    have eR : rdg (rdF f) (b.toInt - bt.toInt) y.toNatClampNeg (if 0 < (gA T 6 5).toInt - gd.toInt then (gA T 6 5).toInt - gd.toInt else 0).toNat = 0 := by
      unfold rdg
      rw [if_pos (by omega)]
    refine ⟨T, d1, d2, cO, ?_, by rw [eR]; exact ⟨by rw [l0]; omega, by rw [l0]; omega⟩, h⟩
    rw [eR]
    unfold f_X10_oddsBy
    rw [if_neg (gok (by omega) (by omega)), m4, ← r2, if_neg q']
def StepL (n : Nat) (r : Option (Int64 × St)) (t : Option (Int64 × St)) : Prop := ∃ (v : Int64) (S' T' : St), r = some (v, S') ∧ t = some (v, T') ∧ Inv (n + 1) S' T'
theorem p_odds {n N : Nat} (hN : 1000 ≤ N) (hn : n < 1000) {S T : St} (h : Inv n S T) (a b w : Int32) : StepL n (f_X9_odds N S a b w) (f_X10_odds N T a b w) := by
  have hI := h.mono.thrown 0
  have hL := h.2.1.2
  have hg := hL.2.1
  unfold f_X9_odds f_X10_odds
  rw [bnd_eq, cIsR hL, bs, if10, cIsB, bs, if10, mIsR (T := sI T 0 0 0) (by show 0 ≤ (gI T 0 15).toInt; omega), bs, if10, in_eq, bs, if10, in_eq, bs, if10, z0, z1, z24]
  by_cases h1 : isR T a
  · rw [if_pos h1, if_pos (show isR (sI T 0 0 0) a from h1)]
    by_cases h2 : 0 ≤ b.toInt ∧ b.toInt ≤ 24
    · rw [if_neg (show ¬ b < 0 by rw [zlt, z0]; omega), if_neg (show ¬ (24 : Int32) < b by rw [zlt, z24]; omega), if_pos h2]
      by_cases h3 : isB w
      · rw [if_pos h3, if_pos h3]
        obtain ⟨S1, f, x, T', d1, d2, d3, d4, d5, d6⟩ := bothOdds (N := N) (by omega) hn (h.thrown 0) (r := a) (b := b) h1 h2
        obtain ⟨g, g1, g2, g3, g4⟩ := bothGcd hN (up := x) (lo := 1000000000000) w d5.1 d5.2 (by rw [lE]; omega) (by rw [lE]; omega)
        rw [d1, d4, bs, bs, d3, bs, g4, bs, g1, bs, if_neg (lne g2), if_neg (lne g2)]
        have hF : Inv (n + 1) (sB S1 28 f) T' := by
          have z := ((d6.mono).sm1 d2 (Sm.rf _ _ _)).b 28 12 f (gB T' 12)
          rw [sB_self] at z; exact z
        by_cases w0 : w = 0
        · rw [if_pos w0, if_pos w0]; exact ⟨_, _, _, rfl, rfl, hF⟩
        · rw [if_neg w0, if_neg w0]; exact ⟨_, _, _, rfl, rfl, hF⟩
      · rw [if_neg h3, if_neg h3]; exact ⟨-1, S, _, rfl, rfl, hI⟩
    · rw [if_neg h2]
      refine ⟨-1, S, sI T 0 0 0, ?_, rfl, hI⟩
      by_cases q : b < 0
      · rw [if_pos q]
      · rw [if_neg q, if_pos]
        rw [zlt, z24]; rw [zlt, z0] at q; omega
  · rw [if_neg h1, if_neg (show ¬ isR (sI T 0 0 0) a from h1)]
    exact ⟨-1, S, _, rfl, rfl, hI⟩
theorem enough_loop {n N : Nat} (hN : 1000 ≤ N) (hn : n < 1000) {S S' : St} {a c : Int32} (hc : 0 ≤ c.toInt ∧ c.toInt ≤ 10) (hf : f_X4_fill N S (gCo S).toNat a = some S') : ∀ (m f1 f2 : Nat) (T : St) (x : Int32), Inv n S T → isR T a → (25 - x.toInt).toNat = m → 0 ≤ x.toInt → x.toInt ≤ 25 → m < f1 → m < f2 →
    ∃ v T', g_X9_enough_41 N a c f1 S' x = some (v, S') ∧ g_X10_enough_27 N a c f2 T x = some (v, T') ∧ Inv n S T' := by
  intro m
  induction m with
  | zero =>
    intro f1 f2 T x hI hr hm h1 h2 c1 c2
    obtain ⟨f1, rfl⟩ : ∃ f', f1 = f' + 1 := ⟨f1 - 1, by omega⟩
    obtain ⟨f2, rfl⟩ : ∃ f', f2 = f' + 1 := ⟨f2 - 1, by omega⟩
    have z25 : (25 : Int32).toInt = 25 := by decide
    refine ⟨-9, T, ?_, ?_, hI⟩
    · show s_X9_enough_41 N a c _ S' x = _
      unfold s_X9_enough_41
      rw [if_pos (by rw [zlt, z24]; omega)]
    · show s_X10_enough_27 N a c _ T x = _
      unfold s_X10_enough_27
      rw [if_pos (by rw [zle, z25]; omega)]
  | succ m ih =>
    intro f1 f2 T x hI hr hm h1 h2 c1 c2
    obtain ⟨f1, rfl⟩ : ∃ f', f1 = f' + 1 := ⟨f1 - 1, by omega⟩
    obtain ⟨f2, rfl⟩ : ∃ f', f2 = f' + 1 := ⟨f2 - 1, by omega⟩
    have z25 : (25 : Int32).toInt = 25 := by decide
    have e2 : (x + 1).toInt = x.toInt + 1 := zadd (by rw [z1]; omega) (by rw [z1]; omega)
    obtain ⟨S1, f, y, T', d1, d2, d3, d4, d5, d6⟩ := bothOdds (N := N) (by omega) hn hI (r := a) (b := x) hr ⟨h1, by omega⟩
    have eS : sB S1 28 f = S' := Option.some.inj (d1.symm.trans hf)
    rw [eS] at d3
    have ec : (c.toInt64).toInt = c.toInt := i2l c
    have e11 : (100000000000 : Int64).toInt = 100000000000 := by decide
    have k1 : (y * 10).toInt = y.toInt * 10 := by rw [lmul (by rw [l10]; omega) (by rw [l10]; omega), l10]
    have k2 : (c.toInt64 * 1000000000000).toInt = c.toInt * 1000000000000 := by rw [lmul (by rw [ec, lE]; omega) (by rw [ec, lE]; omega), ec, lE]
    have k3 : ((100000000000 : Int64) * c.toInt64).toInt = 100000000000 * c.toInt := by rw [lmul (by rw [ec, e11]; omega) (by rw [ec, e11]; omega), ec, e11]
    have un1 : g_X9_enough_41 N a c (f1 + 1) S' x = s_X9_enough_41 N a c (g_X9_enough_41 N a c f1) S' x := rfl
    have un2 : g_X10_enough_27 N a c (f2 + 1) T x = s_X10_enough_27 N a c (g_X10_enough_27 N a c f2) T x := rfl
    rw [un1, un2]
    unfold s_X9_enough_41 s_X10_enough_27
    rw [if_neg (show ¬ (24 : Int32) < x by rw [zlt, z24]; omega), if_neg (show ¬ (25 : Int32) ≤ x by rw [zle, z25]; omega), d3, bs, d4, bs]
    by_cases q : y.toInt * 10 < c.toInt * 1000000000000
    · have q1 : lg_cmp (y * 10) (c.toInt64 * 1000000000000) < 0 := (lg_cmp_lt _ _).mpr (by rw [llt, k1, k2]; exact q)
      have q2 : lg_cmp y ((100000000000 : Int64) * c.toInt64) < 0 := (lg_cmp_lt _ _).mpr (by rw [llt, k3]; omega)
      rw [if_pos q1, if_pos q2]
      have hr' : isR T' a := by
        have e := d6.2.1.2.1.2.1
        rw [hI.2.1.2.1.2.1] at e
        unfold isR; rw [← e]; exact hr
      exact ih f1 f2 T' (x + 1) d6 hr' (by omega) (by omega) (by omega) (by omega) (by omega)
    · have q1 : ¬ lg_cmp (y * 10) (c.toInt64 * 1000000000000) < 0 := fun z => by
        have := (lg_cmp_lt _ _).mp z
        rw [llt, k1, k2] at this; exact q this
      have q2 : ¬ lg_cmp y ((100000000000 : Int64) * c.toInt64) < 0 := fun z => by
        have := (lg_cmp_lt _ _).mp z
        rw [llt, k3] at this; omega
      rw [if_neg q1, if_neg q2]
      exact ⟨x, T', rfl, rfl, d6⟩
theorem p_enough {n N : Nat} (hN : 1000 ≤ N) (hn : n < 1000) {S T : St} (h : Inv n S T) (a c : Int32) : Step n (f_X9_enough N S a c) (f_X10_enough N T a c) := by
  have hI := h.mono.thrown 0
  have hL := h.2.1.2
  have hg := hL.2.1
  unfold f_X9_enough f_X10_enough
  rw [bnd_eq, cIsR hL, bs, if10, mIsR (T := sI T 0 0 0) (by show 0 ≤ (gI T 0 15).toInt; omega), bs, if10, in_eq, bs, if10, z0, z10]
  by_cases h1 : isR T a
  · rw [if_pos h1, if_pos (show isR (sI T 0 0 0) a from h1)]
    by_cases h2 : 0 ≤ c.toInt ∧ c.toInt ≤ 10
    · rw [if_neg (show ¬ c < 0 by rw [zlt, z0]; omega), if_pos (show c ≤ 10 by rw [zle, z10]; omega), if_pos h2]
      obtain ⟨S1, f, x, T0, d1, d2, d3, d4, d5, d6⟩ := bothOdds (N := N) (by omega) hn (h.thrown 0) (r := a) (b := 0) h1 ⟨by decide, by decide⟩
      obtain ⟨v, T', e1, e2, e3⟩ := enough_loop hN hn (S' := sB S1 28 f) h2 d1 25 N N (sI T 0 0 0) 0 (h.thrown 0) h1 (by decide) (by decide) (by decide) (by omega) (by omega)
      rw [d1, bs, e1, e2]
      refine ⟨v, _, _, rfl, rfl, ?_⟩
      have z := ((e3.mono).sm1 d2 (Sm.rf _ _ _)).b 28 12 f (gB T' 12)
      rw [sB_self] at z; exact z
    · rw [if_neg h2]
      refine ⟨-1, S, sI T 0 0 0, ?_, rfl, hI⟩
      by_cases q : c < 0
      · rw [if_pos q]
      · rw [if_neg q, if_neg]
        rw [zle, z10]; rw [zlt, z0] at q; omega
  · rw [if_neg h1, if_neg (show ¬ isR (sI T 0 0 0) a from h1)]
    exact ⟨-1, S, _, rfl, rfl, hI⟩
