/-! rate, could -/
theorem Inv.j {n : Nat} {S T : St} (h : Inv n S T) (v : Int64) : Inv n (sJ S 0 11 v) (sJ T 0 1 v) := by
  obtain ⟨h1, h2, h3, h4, h5, h6, h7⟩ := h
  exact ⟨h1, h2, h3, h4, h5, h6, rfl⟩
theorem gJu (S : St) (c k : Nat) (v : Int64) : gJ (sJ S c k v) c k = v := by rw [gJ_sJ, if_pos rfl, if_pos rfl]
theorem upup {β : Type} (f : Nat → β) (c : Nat) (v w : β) : va_up (va_up f c v) c w = va_up f c w := by
  funext x
  simp only [va_up]
  by_cases h : x = c
  · rw [if_pos h, if_pos h]
  · rw [if_neg h, if_neg h, if_neg h]
theorem upat {β : Type} (f : Nat → β) (c : Nat) (v : β) : va_up f c v c = v := by simp only [va_up]; rfl
theorem sJJ (S : St) (c k : Nat) (v w : Int64) : sJ (sJ S c k v) c k w = sJ S c k w := by
  have e : va_up (va_up S.2.2.1 c (va_up (S.2.2.1 c) k v)) c (va_up (va_up S.2.2.1 c (va_up (S.2.2.1 c) k v) c) k w) = va_up S.2.2.1 c (va_up (S.2.2.1 c) k w) := by
    rw [upup, upat, upup]
  exact congrArg (fun z => (S.1, S.2.1, z, S.2.2.2)) e
theorem p_rate {n : Nat} {S T : St} (h : Inv n S T) (a u t : Int32) : Step n (f_X9_rate S a u t) (f_X10_rate T a u t) := by
  have hI := h.mono.thrown 0
  obtain ⟨e1, e2, e3, e4, e5⟩ := h.2.1.2.1
  have e7 := h.2.2.2.2.2.2
  unfold f_X9_rate f_X10_rate
  rw [bnd_eq, in_eq, bs, if10, in_eq, bs, if10, in_eq, bs, if10, bnd_eq, z0, z1, z4, z5, z7]
  have ejt : gJ (sI T 0 0 0) 0 1 = gJ S 0 11 := e7.symm
  rw [ejt]
  by_cases hu : 1 ≤ u.toInt ∧ u.toInt ≤ 4
  · rw [if_neg (show ¬ u < 1 by rw [zlt, z1]; omega), if_neg (show ¬ (4 : Int32) < u by rw [zlt, z4]; omega), if_pos hu]
    by_cases ht : 0 ≤ t.toInt ∧ t.toInt ≤ 7
    · rw [if_neg (show ¬ t < 0 by rw [zlt, z0]; omega), if_pos (show t ≤ 7 by rw [zle, z7]; omega), if_pos ht]
      unfold f_X9_rateFolded f_X9_rateDropped f_X9_rateLow f_X9_rateRunning f_X9_rateStanding f_X9_rateToss f_X9_beatsInAir f_X9_quarters f_X10_rate_101
      simp only [bnd_eq, bs, gJu, sJJ, Int64.add_assoc]
      by_cases a0 : a = 0
      · subst a0
        rw [if_pos rfl, if_pos (by decide), if_pos rfl, if_pos rfl]
        exact ⟨_, _, _, rfl, rfl, hI.j _⟩
      rw [if_neg a0]
      by_cases a1 : a = 1
      · subst a1
        rw [if_pos rfl, if_pos (by decide), if_neg a0, if_pos rfl, if_neg a0, if_pos rfl]
        exact ⟨_, _, _, rfl, rfl, hI.j _⟩
      rw [if_neg a1]
      by_cases a2 : a = 2
      · subst a2
        rw [if_pos rfl, if_pos (by decide), if_neg a0, if_neg a1, if_pos rfl, if_neg a0, if_neg a1, if_pos rfl]
        exact ⟨_, _, _, rfl, rfl, hI.j _⟩
      rw [if_neg a2]
      by_cases a3 : a = 3
      · subst a3
        rw [if_pos rfl, if_pos (by decide), if_neg a0, if_neg a1, if_neg a2, if_pos rfl, if_neg a0, if_neg a1, if_neg a2, if_pos rfl]
        exact ⟨_, _, _, rfl, rfl, hI.j _⟩
      rw [if_neg a3]
      by_cases a4 : a = 4
      · subst a4
        rw [if_pos rfl, if_pos (by decide), if_neg a0, if_neg a1, if_neg a2, if_neg a3, if_pos rfl, if_neg a0, if_neg a1, if_neg a2, if_neg a3, if_pos rfl, if_neg g6_14]
        refine ⟨_, _, _, rfl, ?_, hI.j _⟩
        rw [show ∀ v, gI (sJ S 0 11 v) (33 + 5 * (gCo (sJ S 0 11 v)).toNat) 8 = gA T 6 6 from fun v => e5]
        rfl
      rw [if_neg a4]
      by_cases a5 : a = 5
      · subst a5
        rw [if_pos rfl, if_pos (by decide), if_neg a0, if_neg a1, if_neg a2, if_neg a3, if_neg a4, if_neg a0, if_neg a1, if_neg a2, if_neg a3, if_neg a4, if_neg g4_14]
        refine ⟨_, _, _, rfl, ?_, hI.j _⟩
        rw [show ∀ v, gI (sJ S 0 11 v) (33 + 5 * (gCo (sJ S 0 11 v)).toNat) 6 = gA T 6 4 from fun v => e3]
        rfl
      rw [if_neg a5]
      refine ⟨-1000000, S, _, rfl, ?_, hI⟩
      rw [zeq, z0] at a0; rw [zeq, z1] at a1; rw [zeq, z2] at a2; rw [zeq, z3] at a3; rw [zeq, z4] at a4; rw [zeq, z5] at a5
      rw [if_neg (by omega)]
    · rw [if_neg ht]
      refine ⟨-1000000, S, sI T 0 0 0, ?_, ite_self _, hI⟩
      by_cases q : t < 0
      · rw [if_pos q]
      · rw [if_neg q, if_neg]
        rw [zle, z7]; rw [zlt, z0] at q; omega
  · rw [if_neg hu]
    refine ⟨-1000000, S, sI T 0 0 0, ?_, ite_self _, hI⟩
    by_cases q : u < 1
    · rw [if_pos q]
    · rw [if_neg q, if_pos]
      rw [zlt, z4]; rw [zlt, z1] at q; omega
/-- whether all the pictures from k on allow it -/
theorem pic_false {T : St} (N : Nat) (u t : Int32) (hn : 0 ≤ (gI T 0 24).toInt ∧ (gI T 0 24).toInt ≤ 6) : ∀ (m f : Nat) (x : Int32), ((gI T 0 24).toInt - x.toInt).toNat = m → 0 ≤ x.toInt → x.toInt ≤ (gI T 0 24).toInt → m < f → g_X10_isAsPictured_5 N T u t f 0 x = some 0 := by
  intro m
  induction m with
  | zero =>
    intro f x hm h1 h2 hf
    obtain ⟨f, rfl⟩ : ∃ f', f = f' + 1 := ⟨f - 1, by omega⟩
    show s_X10_isAsPictured_5 N T u t _ 0 x = _
    unfold s_X10_isAsPictured_5
    rw [if_pos (by rw [zle]; omega), if_neg (by decide)]
  | succ m ih =>
    intro f x hm h1 h2 hf
    obtain ⟨f, rfl⟩ : ∃ f', f = f' + 1 := ⟨f - 1, by omega⟩
    have e2 : (x + 1).toInt = x.toInt + 1 := zadd (by rw [z1]; omega) (by rw [z1]; omega)
    have e3 : ((2 : Int32) * x).toInt = 2 * x.toInt := zcmul z2 (by omega) (by omega)
    show s_X10_isAsPictured_5 N T u t _ 0 x = _
    unfold s_X10_isAsPictured_5
    rw [if_neg (by rw [zle]; omega), if_neg (gok (by omega) (by omega)), bnd_eq, if_pos rfl]
    exact ih f (x + 1) (by rw [e2]; omega) (by omega) (by omega) (by omega)
theorem pic_loop {S T : St} (N : Nat) (u t : Int32) (h : IvP S T) : ∀ (m f1 f2 : Nat) (x : Int32), ((gI T 0 24).toInt - x.toInt).toNat = m → 0 ≤ x.toInt → x.toInt ≤ (gI T 0 24).toInt → m < f1 → m < f2 → ∃ b, g_X5_allow_2 N S u t f1 x = some b ∧ g_X10_isAsPictured_5 N T u t f2 1 x = some b := by
  obtain ⟨k1, k2, k3, k4⟩ := h
  intro m
  induction m with
  | zero =>
    intro f1 f2 x hm h1 h2 c1 c2
    obtain ⟨f1, rfl⟩ : ∃ f', f1 = f' + 1 := ⟨f1 - 1, by omega⟩
    obtain ⟨f2, rfl⟩ : ∃ f', f2 = f' + 1 := ⟨f2 - 1, by omega⟩
    refine ⟨1, ?_, ?_⟩
    · show s_X5_allow_2 N S u t _ x = _
      unfold s_X5_allow_2
      rw [k1, if_pos (by rw [zle]; omega)]
    · show s_X10_isAsPictured_5 N T u t _ 1 x = _
      unfold s_X10_isAsPictured_5
      rw [if_pos (by rw [zle]; omega), if_neg (by decide)]
  | succ m ih =>
    intro f1 f2 x hm h1 h2 c1 c2
    obtain ⟨f1, rfl⟩ : ∃ f', f1 = f' + 1 := ⟨f1 - 1, by omega⟩
    obtain ⟨f2, rfl⟩ : ∃ f', f2 = f' + 1 := ⟨f2 - 1, by omega⟩
    have un1 : g_X5_allow_2 N S u t (f1 + 1) x = s_X5_allow_2 N S u t (g_X5_allow_2 N S u t f1) x := rfl
    have un2 : g_X10_isAsPictured_5 N T u t (f2 + 1) 1 x = s_X10_isAsPictured_5 N T u t (g_X10_isAsPictured_5 N T u t f2) 1 x := rfl
    have e2 : (x + 1).toInt = x.toInt + 1 := zadd (by rw [z1]; omega) (by rw [z1]; omega)
    have e3 : ((2 : Int32) * x).toInt = 2 * x.toInt := zcmul z2 (by omega) (by omega)
    have e4 : ((2 : Int32) * x + 1).toInt = 2 * x.toInt + 1 := by rw [zadd (by rw [e3, z1]; omega) (by rw [e3, z1]; omega), e3, z1]
    have n3 : ((2 : Int32) * x).toNatClampNeg = 2 * x.toNatClampNeg := by rw [znat, znat, e3]; omega
    have n4 : ((2 : Int32) * x + 1).toNatClampNeg = 2 * x.toNatClampNeg + 1 := by rw [znat, znat, e4]; omega
    obtain ⟨w1, w2, w3, w4, w5, w6⟩ := k4 x.toNatClampNeg (by rw [znat]; omega)
    have gx : ¬ (x < 0 ∨ 6 ≤ x.toNatClampNeg) := gok (by omega) (by omega)
    have go : ∀ b : Int32, g_X10_isAsPictured_5 N T u t f2 0 (x + 1) = some 0 := fun _ => pic_false N u t ⟨k2, k3⟩ m f2 (x + 1) (by rw [e2]; omega) (by omega) (by omega) (by omega)
    rw [un1, un2]
    unfold s_X5_allow_2 s_X10_isAsPictured_5 f_X9_beatsInAir f_X5_allow_34
    have lx : ¬ gI T 0 24 ≤ x := by rw [zle]; omega
    have g3 : ¬ ((2 : Int32) * x < 0 ∨ 12 ≤ ((2 : Int32) * x).toNatClampNeg) := gok (by omega) (by omega)
    rw [k1, if_neg lx, if_neg (show ¬ (6 : Int32) ≤ x by rw [zle, z6]; omega), if_neg gx, bs, if_neg lx, if_neg g3, bnd_eq, n3, ← w1, if_neg one_ne]
    by_cases q : (2 : Int32) * u ≤ gA S 24 x.toNatClampNeg
    · rw [if_pos q, if_pos q, if_pos rfl]
      exact ⟨0, rfl, go 0⟩
    · rw [if_neg q, if_neg q, if_neg one_ne, if_neg gx, if_neg gx, if_neg (gok (by omega) (by omega)), n4, ← w2]
      by_cases q2 : ((t * gA S 24 x.toNatClampNeg) / (2 : Int32)) - ((t * gA S 24 x.toNatClampNeg) / (2 : Int32)) / (4 : Int32) * (4 : Int32) = gA S 25 x.toNatClampNeg
      · rw [if_pos q2, if_pos q2]
        exact ih f1 f2 (x + 1) (by rw [e2]; omega) (by omega) (by omega) (by omega) (by omega)
      · rw [if_neg q2, if_neg q2]
        exact ⟨0, rfl, go 0⟩
theorem bothPic {S T : St} {N : Nat} (hN : 100 ≤ N) (u t : Int32) (h : IvP S T) : ∃ b, f_X5_allow N S u t = some b ∧ f_X10_isAsPictured N T u t = some b := by
  have hh := h
  obtain ⟨k1, k2, k3, k4⟩ := h
  exact pic_loop N u t hh _ N N 0 rfl (by decide) (by rw [z0]; omega) (by rw [z0]; omega) (by rw [z0]; omega)
theorem could_in {S T : St} {N : Nat} (hN : 100 ≤ N) (a : Int32) (h : IvP S T) (kc : Int32 → Int32 → Option Int32) (km : St → Int32 → Int32 → Option (Int32 × St)) (u : Int32) : ∀ (m f1 f2 : Nat) (c x : Int32), (8 - x.toInt).toNat = m → 0 ≤ x.toInt → x.toInt ≤ 8 → m < f1 → m < f2 → ∃ c', g_X9_could_21 N S a kc f1 c u x = kc c' u ∧ g_X10_could_28 N a km f2 T c u x = km T c' u := by
  intro m
  induction m with
  | zero =>
    intro f1 f2 c x hm h1 h2 c1 c2
    obtain ⟨f1, rfl⟩ : ∃ f', f1 = f' + 1 := ⟨f1 - 1, by omega⟩
    obtain ⟨f2, rfl⟩ : ∃ f', f2 = f' + 1 := ⟨f2 - 1, by omega⟩
    refine ⟨c, ?_, ?_⟩
    · show s_X9_could_21 N S a kc _ c u x = _
      unfold s_X9_could_21
      rw [if_pos (by rw [zlt, z7]; omega)]
    · show s_X10_could_28 N a km _ T c u x = _
      unfold s_X10_could_28
      rw [if_pos (by rw [zle, z8]; omega)]
  | succ m ih =>
    intro f1 f2 c x hm h1 h2 c1 c2
    obtain ⟨f1, rfl⟩ : ∃ f', f1 = f' + 1 := ⟨f1 - 1, by omega⟩
    obtain ⟨f2, rfl⟩ : ∃ f', f2 = f' + 1 := ⟨f2 - 1, by omega⟩
    have un1 : g_X9_could_21 N S a kc (f1 + 1) c u x = s_X9_could_21 N S a kc (g_X9_could_21 N S a kc f1) c u x := rfl
    have un2 : g_X10_could_28 N a km (f2 + 1) T c u x = s_X10_could_28 N a km (g_X10_could_28 N a km f2) T c u x := rfl
    have e2 : (x + 1).toInt = x.toInt + 1 := zadd (by rw [z1]; omega) (by rw [z1]; omega)
    have go : ∀ c : Int32, ∃ c', g_X9_could_21 N S a kc f1 c u (x + 1) = kc c' u ∧ g_X10_could_28 N a km f2 T c u (x + 1) = km T c' u := fun c => ih f1 f2 c (x + 1) (by rw [e2]; omega) (by omega) (by omega) (by omega) (by omega)
    obtain ⟨b, b1, b2⟩ := bothPic hN u x h
    rw [un1, un2]
    unfold s_X9_could_21 s_X10_could_28 f_X9_isTurned f_X9_quarters
    rw [if_neg (show ¬ (7 : Int32) < x by rw [zlt, z7]; omega), if_neg (show ¬ (8 : Int32) ≤ x by rw [zle, z8]; omega), b1, b2, bs, bs, bs, Int32.add_zero]
    simp only [bnd_eq]
    by_cases q : b = 0
    · rw [if_pos q, if_pos q]; exact go c
    · rw [if_neg q, if_neg q]
      by_cases q1 : a = 0
      · rw [if_pos q1, if_pos q1]; exact go (c + 1)
      · rw [if_neg q1, if_neg q1]
        by_cases q2 : x * u - x * u / 4 * 4 = 2
        · rw [if_pos q2, if_pos q2, bs, if_neg one_ne]; exact go (c + 1)
        · rw [if_neg q2, if_neg q2, bs, if_pos rfl]; exact go c
theorem could_out {S T : St} {N : Nat} (hN : 100 ≤ N) (a : Int32) (h : IvP S T) : ∀ (m f1 f2 : Nat) (c u : Int32), (5 - u.toInt).toNat = m → 0 ≤ u.toInt → u.toInt ≤ 5 → m < f1 → m < f2 → ∃ c', g_X9_could_13 N S a f1 c u = some c' ∧ g_X10_could_20 N a f2 T c u = some (c', T) := by
  intro m
  induction m with
  | zero =>
    intro f1 f2 c u hm h1 h2 c1 c2
    obtain ⟨f1, rfl⟩ : ∃ f', f1 = f' + 1 := ⟨f1 - 1, by omega⟩
    obtain ⟨f2, rfl⟩ : ∃ f', f2 = f' + 1 := ⟨f2 - 1, by omega⟩
    refine ⟨c, ?_, ?_⟩
    · show s_X9_could_13 N S a _ c u = _
      unfold s_X9_could_13
      rw [if_pos (by rw [zlt, z4]; omega)]
    · show s_X10_could_20 N a _ T c u = _
      unfold s_X10_could_20
      rw [if_pos (by rw [zle, z5]; omega)]
  | succ m ih =>
    intro f1 f2 c u hm h1 h2 c1 c2
    obtain ⟨f1, rfl⟩ : ∃ f', f1 = f' + 1 := ⟨f1 - 1, by omega⟩
    obtain ⟨f2, rfl⟩ : ∃ f', f2 = f' + 1 := ⟨f2 - 1, by omega⟩
    have un1 : g_X9_could_13 N S a (f1 + 1) c u = s_X9_could_13 N S a (g_X9_could_13 N S a f1) c u := rfl
    have un2 : g_X10_could_20 N a (f2 + 1) T c u = s_X10_could_20 N a (g_X10_could_20 N a f2) T c u := rfl
    have e2 : (u + 1).toInt = u.toInt + 1 := zadd (by rw [z1]; omega) (by rw [z1]; omega)
    rw [un1, un2]
    unfold s_X9_could_13 s_X10_could_20
    rw [if_neg (show ¬ (4 : Int32) < u by rw [zlt, z4]; omega), if_neg (show ¬ (5 : Int32) ≤ u by rw [zle, z5]; omega)]
    obtain ⟨c', d1, d2⟩ := could_in hN a h (fun y10 y11 => g_X9_could_13 N S a f1 y10 (y11 + (1 : Int32))) (fun S16 y14 y15 => g_X10_could_20 N a f2 S16 y14 (y15 + (1 : Int32))) u 8 N N c 0 (by decide) (by decide) (by decide) (by omega) (by omega)
    rw [d1, d2]
    exact ih f1 f2 c' (u + 1) (by rw [e2]; omega) (by omega) (by omega) (by omega) (by omega)
theorem p_could {n N : Nat} (hN : 100 ≤ N) {S T : St} (h : Inv n S T) (a : Int32) : ∃ (v : Int32) (S' T' : St), f_X9_could N S a = some v ∧ f_X10_could N T a = some (v, T') ∧ S' = S ∧ Inv (n + 1) S' T' := by
  have hI := h.mono.thrown 0
  unfold f_X9_could f_X10_could
  rw [cIsB, bs, if10, bnd_eq, in_eq, bs, if10, z0, z1]
  by_cases hb : isB a
  · rw [if_pos hb, if_pos hb]
    obtain ⟨c, d1, d2⟩ := could_out hN a hI.2.2.2.2.2.1 4 N N 0 1 (by decide) (by decide) (by decide) (by omega) (by omega)
    rw [d1, d2]
    exact ⟨c, S, _, rfl, rfl, rfl, hI⟩
  · rw [if_neg hb, if_neg hb]; exact ⟨-1, S, _, rfl, rfl, rfl, hI⟩
