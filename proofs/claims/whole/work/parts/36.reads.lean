/-! the reads: told, runner, comes, count, trace, forget, picture -/
theorem p_told {n : Nat} {S T : St} (h : Inv n S T) (a : Int32) : ∃ (v : Int32) (S' T' : St), f_X9_told S a = some v ∧ f_X10_told T a = some (v, T') ∧ S' = S ∧ Inv (n + 1) S' T' := by
  have hL := h.2.1.2.1
  obtain ⟨e1, e2, e3, e4, e5⟩ := hL
  have hI := h.mono.thrown 0
  unfold f_X9_told f_X10_told
  rw [bnd_eq]
  by_cases a0 : a = 0
  · subst a0
    rw [if_pos rfl, if_pos rfl]
    exact ⟨gI T 0 14, S, _, by rw [e1], rfl, rfl, hI⟩
  rw [if_neg a0, if_neg a0, in_eq, bs, if10]
  by_cases a1 : a = 1
  · subst a1
    rw [if_pos rfl, if_pos (by decide), if_neg (by decide), show ((4 : Int32) + 1 - 1).toNatClampNeg = 4 by decide]
    exact ⟨gA T 6 4, S, _, by rw [e3], rfl, rfl, hI⟩
  rw [if_neg a1]
  by_cases a2 : a = 2
  · subst a2
    rw [if_pos rfl, if_pos (by decide), if_neg (by decide), show ((4 : Int32) + 2 - 1).toNatClampNeg = 5 by decide]
    exact ⟨gA T 6 5, S, _, by rw [e4], rfl, rfl, hI⟩
  rw [if_neg a2]
  by_cases a3 : a = 3
  · subst a3
    rw [if_pos rfl, if_pos (by decide), if_neg (by decide), show ((4 : Int32) + 3 - 1).toNatClampNeg = 6 by decide]
    exact ⟨gA T 6 6, S, _, by rw [e5], rfl, rfl, hI⟩
  rw [if_neg a3]
  refine ⟨-1, S, _, rfl, ?_, rfl, hI⟩
  rw [zeq, z0] at a0; rw [zeq, z1] at a1; rw [zeq, z2] at a2; rw [zeq, z3] at a3
  rw [z1, z3, if_neg (by omega)]
theorem p_count {n : Nat} {S T : St} (h : Inv n S T) (a : Int32) : ∃ (v : Int32) (S' T' : St), f_X9_count S a = some v ∧ f_X10_count T a = some (v, T') ∧ S' = S ∧ Inv (n + 1) S' T' := by
  obtain ⟨e1, e2, e3, e4, e5⟩ := h.2.1.2.1
  have k1 := h.2.2.2.2.2.1.1
  have k2 := h.2.2.2.2.1.1
  have k3 := h.1.1
  have hI := h.mono.thrown 0
  unfold f_X9_count f_X10_count
  rw [bnd_eq]
  by_cases a0 : a = 0
  · rw [if_pos a0, if_pos a0]; exact ⟨gI T 0 15, S, _, by rw [e2], rfl, rfl, hI⟩
  rw [if_neg a0, if_neg a0]
  by_cases a1 : a = 1
  · rw [if_pos a1, if_pos a1]; exact ⟨gI T 0 24, S, _, by rw [k1], rfl, rfl, hI⟩
  rw [if_neg a1, if_neg a1]
  by_cases a2 : a = 2
  · rw [if_pos a2, if_pos a2]; exact ⟨gI T 0 22, S, _, by rw [k2], rfl, rfl, hI⟩
  rw [if_neg a2, if_neg a2]
  by_cases a3 : a = 3
  · rw [if_pos a3, if_pos a3]; exact ⟨gI T 0 3, S, _, by rw [k3], rfl, rfl, hI⟩
  rw [if_neg a3, if_neg a3]
  exact ⟨-1, S, _, rfl, rfl, rfl, hI⟩
theorem p_trace {n : Nat} {S T : St} (h : Inv n S T) : ∃ (v : Int64) (S' T' : St), f_X9_trace S = some v ∧ f_X10_trace T = some (v, T') ∧ S' = S ∧ Inv (n + 1) S' T' :=
  ⟨gJ T 0 1, S, sI T 0 0 0, by unfold f_X9_trace; rw [h.2.2.2.2.2.2], rfl, rfl, h.mono.thrown 0⟩
theorem p_forget {n : Nat} {S T : St} (h : Inv n S T) : Step n (f_X9_forget S) (f_X10_forget T) := by
  have k1 := h.2.2.2.2.2.1.1
  obtain ⟨h1, h2, h3, h4, h5, h6, h7⟩ := h.mono
  refine ⟨gI T 0 24, sI S 23 2 0, sI (sI T 0 0 0) 0 24 0, by unfold f_X9_forget; rw [bnd_eq, bnd_eq, k1], rfl, h1, h2.congr rfl rfl (fun c k hc => gI_off (by omega)) (fun _ _ => rfl) rfl rfl (fun _ _ _ => rfl), h3, h4.congr (fun _ _ _ => rfl) (fun c k _ _ => gI_off (by omega)) rfl rfl rfl, h5, ?_, h7⟩
  have z : (gI (sI (sI T 0 0 0) 0 24 0) 0 24).toInt = 0 := by show (0 : Int32).toInt = 0; decide
  exact ⟨rfl, by omega, by omega, fun k hk => by omega⟩
theorem p_picture {n : Nat} {S T : St} (h : Inv n S T) (a b : Int32) : Step n (f_X9_picture S a b) (f_X10_picture T a b) := by
  obtain ⟨k1, k2, k3, k4⟩ := h.2.2.2.2.2.1
  have hI := h.mono.thrown 0
  unfold f_X9_picture f_X10_picture
  rw [bnd_eq, in_eq, bs, if10, in_eq, bs, if10, z0, z1, z3, z8]
  by_cases ha : 1 ≤ a.toInt ∧ a.toInt ≤ 8
  · rw [if_pos ha, if_neg (show ¬ a < 1 by rw [zlt, z1]; omega), if_neg (show ¬ (8 : Int32) < a by rw [zlt, z8]; omega)]
    by_cases hb : 0 ≤ b.toInt ∧ b.toInt ≤ 3
    · rw [if_pos hb, if_neg (show ¬ b < 0 by rw [zlt, z0]; omega), if_pos (show b ≤ 3 by rw [zle, z3]; omega), k1]
      have e24 : gI (sI T 0 0 0) 0 24 = gI T 0 24 := rfl
      rw [e24]
      by_cases hf : gI T 0 24 = 6
      · rw [if_pos hf, if_neg (by rw [hf]; decide)]
        exact ⟨-3, S, _, rfl, rfl, hI⟩
      · rw [if_neg hf]
        rw [zeq, z6] at hf
        rw [if_pos (show gI T 0 24 < 6 by rw [zlt, z6]; omega)]
        unfold f_X5_append
        have g1 : ¬ (gI T 0 24 < 0 ∨ 6 ≤ (gI T 0 24).toNatClampNeg) := gok k2 (by omega)
        rw [k1, if_neg (show ¬ gI T 0 24 < 0 by rw [zlt, z0]; omega), if_neg (show ¬ (6 : Int32) ≤ gI T 0 24 by rw [zle, z6]; omega), if_neg g1, bnd_eq]
        have ei : gI (sA S 24 (upd (gA S 24) (gI T 0 24).toNatClampNeg a)) 23 2 = gI T 0 24 := k1
        rw [ei, if_neg g1, bnd_eq, bnd_eq, bs]
        have m2 : ((2 : Int32) * gI T 0 24).toInt = 2 * (gI T 0 24).toInt := zcmul z2 (by omega) (by omega)
        have m3 : ((2 : Int32) * gI T 0 24 + 1).toInt = 2 * (gI T 0 24).toInt + 1 := by rw [zadd (by rw [m2, z1]; omega) (by rw [m2, z1]; omega), m2, z1]
        rw [if_neg (gok (by omega) (by omega)), bnd_eq]
        have ej : gI (sA (sI T 0 0 0) 11 (upd (gA (sI T 0 0 0) 11) ((2 : Int32) * gI T 0 24).toNatClampNeg a)) 0 24 = gI T 0 24 := rfl
        rw [ej, if_neg (gok (by omega) (by omega)), bnd_eq, bnd_eq]
        have n2 : ((2 : Int32) * gI T 0 24).toNatClampNeg = 2 * (gI T 0 24).toNatClampNeg := by rw [znat, znat, m2]; omega
        have n3 : ((2 : Int32) * gI T 0 24 + 1).toNatClampNeg = 2 * (gI T 0 24).toNatClampNeg + 1 := by rw [znat, znat, m3]; omega
        rw [n2, n3]
        obtain ⟨h1, h2, h3, h4, h5, h6, h7⟩ := h.mono
        generalize hkk : (gI T 0 24).toNatClampNeg = k0
        have hk0 : (k0 : Int) = (gI T 0 24).toInt := by rw [← hkk, znat]; omega
        have e : gI (sA (sA S 24 (upd (gA S 24) k0 a)) 25 (upd (gA (sA S 24 (upd (gA S 24) k0 a)) 25) k0 b)) 23 2 = gI T 0 24 := k1
        rw [e]
        refine ⟨gI T 0 24 + 1, sI (sA (sA S 24 (upd (gA S 24) k0 a)) 25 (upd (gA S 25) k0 b)) 23 2 (gI T 0 24 + 1), sI (sA (sA (sI T 0 0 0) 11 (upd (gA T 11) (2 * k0) a)) 11 (upd (upd (gA T 11) (2 * k0) a) (2 * k0 + 1) b)) 0 24 (gI T 0 24 + 1), rfl, rfl, h1, h2.congr rfl rfl (fun c k hc => gI_off (by omega)) (fun c hc => ?_) rfl rfl (fun c hc hc2 => ?_), h3, h4.congr (fun c hc hc2 => ?_) (fun c k _ _ => gI_off (by omega)) rfl rfl rfl, h5, ?_, h7⟩
        · show gA (sA (sA S 24 _) 25 _) c = _
          rw [gA_off (by omega), gA_off (by omega)]
        · show gA (sA (sA (sI T 0 0 0) 11 _) 11 _) c = _
          rw [gA_off (by omega), gA_off (by omega)]; rfl
        · show gA (sA (sA S 24 _) 25 _) c = _
          rw [gA_off (by omega), gA_off (by omega)]
        · have e1 : (gI T 0 24 + 1).toInt = (gI T 0 24).toInt + 1 := zadd (by rw [z1]; omega) (by rw [z1]; omega)
          refine ⟨?_, ?_, ?_, fun k hk => ?_⟩
          · rfl
          · show 0 ≤ (gI T 0 24 + 1).toInt; omega
          · show (gI T 0 24 + 1).toInt ≤ 6; omega
          · have hk : (k : Int) < (gI T 0 24).toInt + 1 := by rw [← e1]; exact hk
            show upd (gA S 24) k0 a k = upd (upd (gA T 11) (2 * k0) a) (2 * k0 + 1) b (2 * k) ∧ upd (gA S 25) k0 b k = upd (upd (gA T 11) (2 * k0) a) (2 * k0 + 1) b (2 * k + 1) ∧ 1 ≤ (upd (gA S 24) k0 a k).toInt ∧ (upd (gA S 24) k0 a k).toInt ≤ 8 ∧ 0 ≤ (upd (gA S 25) k0 b k).toInt ∧ (upd (gA S 25) k0 b k).toInt ≤ 3
            simp only [upd]
            by_cases hkk : k = k0
            · rw [if_pos hkk, if_pos hkk, if_neg (show ¬ 2 * k = 2 * k0 + 1 by omega), if_pos (show 2 * k = 2 * k0 by omega), if_pos (show 2 * k + 1 = 2 * k0 + 1 by omega)]
              exact ⟨rfl, rfl, ha.1, ha.2, hb.1, hb.2⟩
            · rw [if_neg hkk, if_neg hkk, if_neg (show ¬ 2 * k = 2 * k0 + 1 by omega), if_neg (show ¬ 2 * k = 2 * k0 by omega), if_neg (show ¬ 2 * k + 1 = 2 * k0 + 1 by omega), if_neg (show ¬ 2 * k + 1 = 2 * k0 by omega)]
              exact k4 k (by omega)
    · rw [if_neg hb]
      refine ⟨-1, S, _, ?_, rfl, hI⟩
      by_cases h3 : b < 0
      · rw [if_pos h3]
      · rw [if_neg h3, if_neg (by rw [zle, z3]; rw [zlt, z0] at h3; omega)]
  · rw [if_neg ha]
    refine ⟨-1, S, _, ?_, rfl, hI⟩
    by_cases h3 : a < 1
    · rw [if_pos h3]
    · rw [if_neg h3, if_pos (by rw [zlt, z8]; rw [zlt, z1] at h3; omega)]
abbrev isH (T : St) (a : Int32) : Prop := gA T 7 (3 * a.toNatClampNeg) = gI T 0 14 ∧ ¬ (gA T 7 (3 * a.toNatClampNeg + 2) < gA T 6 5)
theorem cIsHome {n : Nat} {S T : St} (hL : IvL S T) (hR : IvR n S T) {a : Int32} (ha : 0 ≤ a.toInt ∧ a.toInt < 3) : f_X9_isHome S a = some (if isH T a then 1 else 0) := by
  obtain ⟨r1, r2, r3, r4, r5, r6, r7, r8, r9⟩ := hR.1 a.toNatClampNeg (by rw [znat]; omega)
  rw [Nat.zero_add] at r1 r2 r3
  unfold f_X9_isHome
  rw [cAtEnd ha, bs, if01, hL.2.1.1, hL.2.1.2.2.2.1]
  by_cases q1 : gA S 5 a.toNatClampNeg < gI T 0 14
  · rw [if_pos q1, if_neg]
    intro hh
    have hh1 := hh.1
    rw [← r1] at hh1
    rw [hh1, zlt] at q1; omega
  · rw [if_neg q1, cGoodOf (i := 0) ha.1 ha.2, bs]
    show (if gA S 7 a.toNatClampNeg < gA T 6 5 then some 0 else some 1) = _
    rw [r3]
    by_cases q2 : gA T 7 (3 * a.toNatClampNeg + 2) < gA T 6 5
    · rw [if_pos q2, if_neg (fun hh => hh.2 q2)]
    · rw [if_neg q2, if_pos]
      refine ⟨?_, q2⟩
      rw [← r1, zeq]; rw [zlt] at q1; omega
theorem mIsHome {T : St} {a : Int32} (ha : 0 ≤ a.toInt ∧ a.toInt < 3) : f_X10_isHome T a = some (if isH T a then 1 else 0) := by
  obtain ⟨m1, m2⟩ := h3r ha
  obtain ⟨m3, m4⟩ := h3r2 ha
  unfold f_X10_isHome
  rw [if_neg (gok (by omega) (by omega)), m2]
  by_cases q1 : gA T 7 (3 * a.toNatClampNeg) = gI T 0 14
  · rw [if_pos q1, if_neg (gok (by omega) (by omega)), if_neg (by decide), m4, show (5 : Int32).toNatClampNeg = 5 by decide]
    by_cases q2 : gA T 7 (3 * a.toNatClampNeg + 2) < gA T 6 5
    · rw [if_pos q2, if_neg (fun hh => hh.2 q2)]
    · rw [if_neg q2, if_pos ⟨q1, q2⟩]
  · rw [if_neg q1, if_neg (fun hh => q1 hh.1)]
theorem p_runner {n : Nat} {S T : St} (h : Inv n S T) (a b : Int32) : ∃ (v : Int32) (S' T' : St), f_X9_runner S a b = some v ∧ f_X10_runner T a b = some (v, T') ∧ S' = S ∧ Inv (n + 1) S' T' := by
  have hL := h.2.1.2
  have hg := hL.2.1
  have hI := h.mono.thrown 0
  unfold f_X9_runner f_X10_runner
  rw [cIsR hL, bs, if10, bnd_eq, mIsR (T := sI T 0 0 0) (by show 0 ≤ (gI T 0 15).toInt; omega), bs, if10, in_eq, bs, if10, z0, z5]
  by_cases h1 : isR T a
  · rw [if_pos h1, if_pos (show isR (sI T 0 0 0) a from h1)]
    have ha : 0 ≤ a.toInt ∧ a.toInt < 3 := by omega
    obtain ⟨m1, m2⟩ := h3r ha
    obtain ⟨r1, r2, r3, r4, r5, r6, r7, r8, r9⟩ := h.2.2.1.1 a.toNatClampNeg (by rw [znat]; omega)
    rw [Nat.zero_add] at r1 r2 r3
    have w : ∀ k : Int32, 0 ≤ k.toInt → k.toInt ≤ 2 → ((3 : Int32) * a + (k + 2) - 2) = (3 : Int32) * a + k := fun k _ _ => by
      rw [← Int32.add_assoc, Int32.add_sub_cancel]
    by_cases b0 : b = 0
    · subst b0
      rw [if_pos rfl, if_pos (by decide), if_neg (by decide), if_pos rfl, if_neg (gok ha.1 (by omega)), cPaceOf ha.1 ha.2, bs, show 36 + 5 * (gCo S).toNat = 33 + 5 * (gCo S).toNat + 3 by omega, (hL.2.2.2.2.1 a.toNatClampNeg (by rw [znat]; omega)).1]
      exact ⟨_, S, _, rfl, rfl, rfl, hI⟩
    rw [if_neg b0]
    by_cases b1 : b = 1
    · subst b1
      rw [if_pos rfl, if_pos (by decide), if_neg (by decide), if_neg (by decide), if_neg (gok ha.1 (by omega)), cPanOf ha.1 ha.2, bs, show 37 + 5 * (gCo S).toNat = 33 + 5 * (gCo S).toNat + 4 by omega, (hL.2.2.2.2.2 a.toNatClampNeg (by rw [znat]; omega)).1]
      exact ⟨_, S, _, rfl, rfl, rfl, hI⟩
    rw [if_neg b1]
    by_cases b2 : b = 2
    · subst b2
      have e : ((3 : Int32) * a + 2 - 2) = (3 : Int32) * a := by rw [Int32.add_sub_cancel]
      rw [if_pos rfl, if_pos (by decide), if_pos (by decide), if_neg (by decide), e, if_neg (gok (by omega) (by omega)), m2, cYardOf (i := 0) ha.1 ha.2, bs]
      exact ⟨gA S 5 a.toNatClampNeg, S, _, rfl, by rw [r1]; rfl, rfl, hI⟩
    rw [if_neg b2]
    by_cases b3 : b = 3
    · subst b3
      have e : ((3 : Int32) * a + 3 - 2) = (3 : Int32) * a + 1 := w 1 (by decide) (by decide)
      obtain ⟨m3, m4⟩ := h3r1 ha
      rw [if_pos rfl, if_pos (by decide), if_pos (by decide), if_neg (by decide), e, if_neg (gok (by omega) (by omega)), m4, cBeatsOf (i := 0) ha.1 ha.2, bs]
      exact ⟨gA S 6 a.toNatClampNeg, S, _, rfl, by rw [r2]; rfl, rfl, hI⟩
    rw [if_neg b3]
    by_cases b4 : b = 4
    · subst b4
      have e : ((3 : Int32) * a + 4 - 2) = (3 : Int32) * a + 2 := w 2 (by decide) (by decide)
      obtain ⟨m3, m4⟩ := h3r2 ha
      rw [if_pos rfl, if_pos (by decide), if_pos (by decide), if_neg (by decide), e, if_neg (gok (by omega) (by omega)), m4, cGoodOf (i := 0) ha.1 ha.2, bs]
      exact ⟨gA S 7 a.toNatClampNeg, S, _, rfl, by rw [r3]; rfl, rfl, hI⟩
    rw [if_neg b4]
    by_cases b5 : b = 5
    · subst b5
      rw [if_pos rfl, if_pos (by decide), if_pos (by decide), if_pos (by decide), cIsHome h.2.1 h.2.2.1 ha, bs, if10, mIsHome ha, bs, if10]
      by_cases q : isH T a
      · rw [if_pos q, if_pos (show isH (sI T 0 0 0) a from q)]; exact ⟨1, S, _, rfl, rfl, rfl, hI⟩
      · rw [if_neg q, if_neg (show ¬ isH (sI T 0 0 0) a from q)]; exact ⟨0, S, _, rfl, rfl, rfl, hI⟩
    rw [if_neg b5]
    refine ⟨-1, S, _, rfl, ?_, rfl, hI⟩
    rw [zeq, z0] at b0; rw [zeq, z1] at b1; rw [zeq, z2] at b2; rw [zeq, z3] at b3; rw [zeq, z4] at b4; rw [zeq, z5] at b5
    rw [if_neg (by omega)]
  · rw [if_neg h1, if_neg (show ¬ isR (sI T 0 0 0) a from h1)]
    exact ⟨-1, S, _, rfl, rfl, rfl, hI⟩
theorem p_comes {n : Nat} {S T : St} (h : Inv n S T) (a y u f t rn b : Int32) : ∃ (v : Int32) (S' T' : St), f_X9_comes S a y u f t rn b = some v ∧ f_X10_comes T a y u f t rn b = some (v, T') ∧ S' = S ∧ Inv (n + 1) S' T' := by
  have hL := h.2.1.2
  have hg := hL.2.1
  have hI := h.mono.thrown 0
  have hI0 := h.thrown 0
  unfold f_X9_comes f_X10_comes
  rw [cIsR hL, bs, if10, cIsY hL, bs, if10, cIsT, bs, if10, bnd_eq, mIsR (T := sI T 0 0 0) (by show 0 ≤ (gI T 0 15).toInt; omega), bs, if10, mIsY (T := sI T 0 0 0) (by show 0 ≤ (gI T 0 14).toInt; omega), bs, if10, mIsT, bs, if10, in_eq, bs, if10, z0, z4]
  by_cases h1 : isR T a
  · rw [if_pos h1, if_pos (show isR (sI T 0 0 0) a from h1)]
    by_cases h2 : isY T y
    · rw [if_pos h2, if_pos (show isY (sI T 0 0 0) y from h2)]
      by_cases h3 : isTo u f t rn
      · rw [if_pos h3, if_pos h3]
        obtain ⟨v, wh, c1, c2, c3, c4, c5, c6, c7⟩ := bothCatch hI0.2.1.2 (r := a) (y := y) (u := u) (f := f) (t := t) (rn := rn) h1 h2 h3
        have hRk := hI.rck ((y + f) - (u * gA (sI T 0 0 0) 2 y.toNatClampNeg)) wh (t * u)
        by_cases b0 : b = 0
        · subst b0
          rw [if_pos rfl, if_pos (by decide), c3, bs, if_neg (by decide), if_pos rfl, cDown hL h2, bs]
          exact ⟨_, S, _, rfl, rfl, rfl, hRk⟩
        rw [if_neg b0]
        by_cases b1 : b = 1
        · subst b1
          rw [if_pos rfl, if_pos (by decide), c3, bs, if_neg (by decide), if_neg (by decide), if_pos rfl, c2, bs]
          exact ⟨_, S, _, rfl, rfl, rfl, hRk⟩
        rw [if_neg b1]
        by_cases b2 : b = 2
        · subst b2
          rw [if_pos rfl, if_pos (by decide), c3, bs, if_neg (by decide), if_neg (by decide), if_neg (by decide)]
          exact ⟨t * u, S, _, rfl, rfl, rfl, hRk⟩
        rw [if_neg b2]
        by_cases b3 : b = 3
        · subst b3
          rw [if_pos rfl, if_pos (by decide), c3, bs, if_pos (by decide), if_neg (by decide)]
          unfold f_X9_isTurned f_X9_quarters
          rw [bs]
          have e : gI (rck (sI T 0 0 0) ((y + f) - (u * gA (sI T 0 0 0) 2 y.toNatClampNeg)) wh (t * u)) 0 27 = t * u := rfl
          rw [e]
          by_cases q : t * u - t * u / 4 * 4 = 2
          · rw [if_pos q, bs, if_neg one_ne, if_pos q]; exact ⟨1, S, _, rfl, rfl, rfl, hRk⟩
          · rw [if_neg q, bs, if_pos rfl, if_neg q]; exact ⟨0, S, _, rfl, rfl, rfl, hRk⟩
        rw [if_neg b3]
        by_cases b4 : b = 4
        · subst b4
          rw [if_pos rfl, if_pos (by decide), c3, bs, if_pos (by decide), if_pos rfl, c1, bs]
          exact ⟨_, S, _, rfl, rfl, rfl, hRk⟩
        rw [if_neg b4]
        refine ⟨-1000000, S, _, rfl, ?_, rfl, hI⟩
        rw [zeq, z0] at b0; rw [zeq, z1] at b1; rw [zeq, z2] at b2; rw [zeq, z3] at b3; rw [zeq, z4] at b4
        rw [if_neg (by omega)]
      · rw [if_neg h3, if_neg h3]; exact ⟨-1000000, S, _, rfl, rfl, rfl, hI⟩
    · rw [if_neg h2, if_neg (show ¬ isY (sI T 0 0 0) y from h2)]; exact ⟨-1000000, S, _, rfl, rfl, rfl, hI⟩
  · rw [if_neg h1, if_neg (show ¬ isR (sI T 0 0 0) a from h1)]; exact ⟨-1000000, S, _, rfl, rfl, rfl, hI⟩
