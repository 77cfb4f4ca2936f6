/-! lane: the drafts begun; what is told settles -/
theorem z14 : (14 : Int32).toInt = 14 := by decide
theorem upd_at (f : Nat → Int32) (k : Nat) (x : Int32) : upd f k x k = x := by simp only [upd]; rfl
theorem upd_off {f : Nat → Int32} {k j : Nat} {x : Int32} (h : j ≠ k) : upd f k x j = f j := by simp only [upd]; rw [if_neg h]
theorem at1 (S : St) {c1 i : Nat} {v : Int32} : ∀ c r, gA (sA S c1 (upd (gA S c1) i v)) c r = if c = c1 ∧ r = i then v else gA S c r := by
  intro c r
  rw [gA_sA]
  by_cases e1 : c = c1
  · rw [if_pos e1]
    simp only [upd]
    by_cases er : r = i
    · rw [if_pos er, if_pos ⟨e1, er⟩]
    · rw [if_neg er, if_neg (fun z => er z.2), e1]
  · rw [if_neg e1, if_neg (fun z => e1 z.1)]
theorem at2 (S : St) {c1 c2 i : Nat} (h : c2 ≠ c1) {v w : Int32} (V : Nat → Int32) (hv : v = V c1) (hw : w = V c2) : ∀ c r, gA (sA (sA S c1 (upd (gA S c1) i v)) c2 (upd (gA (sA S c1 (upd (gA S c1) i v)) c2) i w)) c r = if (c = c1 ∨ c = c2) ∧ r = i then V c else gA S c r := by
  intro c r
  rw [at1, at1]
  by_cases er : r = i
  · by_cases e2 : c = c2
    · rw [if_pos ⟨e2, er⟩, if_pos ⟨Or.inr e2, er⟩, hw, e2]
    · rw [if_neg (fun z => e2 z.1)]
      by_cases e1 : c = c1
      · rw [if_pos ⟨e1, er⟩, if_pos ⟨Or.inl e1, er⟩, hv, e1]
      · rw [if_neg (fun z => e1 z.1), if_neg (fun z => z.1.elim e1 e2)]
  · rw [if_neg (fun z => er z.2), if_neg (fun z => er z.2), if_neg (fun z => er z.2)]
theorem begin_loop (N : Nat) (j : Nat) : ∀ (m fuel : Nat) (S : St) (x : Int32), (24 - x.toInt).toNat = m → 0 ≤ x.toInt → x.toInt ≤ 24 → m < fuel →
    ∃ g : Nat → Nat → Int32, (∀ kk : St → Option St, g_X3_begin_2 N j kk fuel S x = kk (S.1, g, S.2.2)) ∧ ∀ c r, g c r = if (c = 34 + 5 * j ∨ c = 35 + 5 * j) ∧ x.toInt ≤ (r : Int) ∧ r < 24 then 0 else gA S c r := by
  intro m
  induction m with
  | zero =>
    intro fuel S x hm h1 h2 hf
    obtain ⟨f, rfl⟩ : ∃ f, fuel = f + 1 := ⟨fuel - 1, by omega⟩
    refine ⟨gA S, ?_, fun c r => by rw [if_neg (fun z => by omega)]⟩
    intro kk
    show s_X3_begin_2 N j kk _ S x = _
    unfold s_X3_begin_2
    rw [if_pos (by rw [zle, z24]; omega)]
    rfl
  | succ m ih =>
    intro fuel S x hm h1 h2 hf
    obtain ⟨f, rfl⟩ : ∃ f, fuel = f + 1 := ⟨fuel - 1, by omega⟩
    have e2 : (x + 1).toInt = x.toInt + 1 := zadd (by rw [z1]; omega) (by rw [z1]; omega)
    have en : (x.toNatClampNeg : Int) = x.toInt := by rw [znat]; omega
    have hS2 := at2 S (c1 := 34 + 5 * j) (c2 := 35 + 5 * j) (i := x.toNatClampNeg) (v := 0) (w := 0) (by omega) (fun _ => 0) rfl rfl
    obtain ⟨g, q1, q2⟩ := ih f (sA (sA S (34 + 5 * j) (upd (gA S (34 + 5 * j)) x.toNatClampNeg 0)) (35 + 5 * j) (upd (gA (sA S (34 + 5 * j) (upd (gA S (34 + 5 * j)) x.toNatClampNeg 0)) (35 + 5 * j)) x.toNatClampNeg 0)) (x + 1) (by rw [e2]; omega) (by omega) (by omega) (by omega)
    refine ⟨g, ?_, fun c r => ?_⟩
    · intro kk
      refine Eq.trans ?_ (q1 kk)
      show s_X3_begin_2 N j kk _ S x = _
      unfold s_X3_begin_2
      rw [if_neg (by rw [zle, z24]; omega), if_neg (by rw [zle, z24]; omega), if_neg (gok h1 (by omega)), bnd_eq, if_neg (gok h1 (by omega)), bnd_eq]
    · rw [q2 c r, hS2 c r, e2]
      by_cases hc : (c = 34 + 5 * j ∨ c = 35 + 5 * j)
      · by_cases h : x.toInt + 1 ≤ (r : Int) ∧ r < 24
        · rw [if_pos ⟨hc, h⟩, if_pos ⟨hc, by omega⟩]
        · rw [if_neg (fun z => h z.2)]
          by_cases hr : r = x.toNatClampNeg
          · rw [if_pos ⟨hc, hr⟩, if_pos ⟨hc, by omega⟩]
          · rw [if_neg (fun z => hr z.2), if_neg (fun z => by omega)]
      · rw [if_neg (fun z => hc z.1), if_neg (fun z => hc z.1), if_neg (fun z => hc z.1)]
theorem draft_loop (N : Nat) : ∀ (m fuel : Nat) (S : St) (y : Int32) (x : Int32), (48 - x.toInt).toNat = m → 0 ≤ x.toInt → x.toInt ≤ 48 → m < fuel →
    ∃ g : Nat → Nat → Int32, (∀ kk : St → Int32 → Option (Int32 × St), g_X10_lane_31 N kk fuel S y x = kk (S.1, g, S.2.2) y) ∧ ∀ c r, g c r = if (c = 2 ∨ c = 3) ∧ x.toInt ≤ (r : Int) ∧ r < 48 then 0 else gA S c r := by
  intro m
  induction m with
  | zero =>
    intro fuel S y x hm h1 h2 hf
    obtain ⟨f, rfl⟩ : ∃ f, fuel = f + 1 := ⟨fuel - 1, by omega⟩
    refine ⟨gA S, ?_, fun c r => by rw [if_neg (fun z => by omega)]⟩
    intro kk
    show s_X10_lane_31 N kk _ S y x = _
    unfold s_X10_lane_31
    rw [if_pos (by rw [zle, z48]; omega)]
    rfl
  | succ m ih =>
    intro fuel S y x hm h1 h2 hf
    obtain ⟨f, rfl⟩ : ∃ f, fuel = f + 1 := ⟨fuel - 1, by omega⟩
    have e2 : (x + 1).toInt = x.toInt + 1 := zadd (by rw [z1]; omega) (by rw [z1]; omega)
    have en : (x.toNatClampNeg : Int) = x.toInt := by rw [znat]; omega
    have hS2 := at2 S (c1 := 2) (c2 := 3) (i := x.toNatClampNeg) (v := 0) (w := 0) (by omega) (fun _ => 0) rfl rfl
    obtain ⟨g, q1, q2⟩ := ih f (sA (sA S (2) (upd (gA S (2)) x.toNatClampNeg 0)) (3) (upd (gA (sA S (2) (upd (gA S (2)) x.toNatClampNeg 0)) (3)) x.toNatClampNeg 0)) y (x + 1) (by rw [e2]; omega) (by omega) (by omega) (by omega)
    refine ⟨g, ?_, fun c r => ?_⟩
    · intro kk
      refine Eq.trans ?_ (q1 kk)
      show s_X10_lane_31 N kk _ S y x = _
      unfold s_X10_lane_31
      rw [if_neg (by rw [zle, z48]; omega), if_neg (gok h1 (by omega)), bnd_eq, if_neg (gok h1 (by omega)), bnd_eq]
    · rw [q2 c r, hS2 c r, e2]
      by_cases hc : (c = 2 ∨ c = 3)
      · by_cases h : x.toInt + 1 ≤ (r : Int) ∧ r < 48
        · rw [if_pos ⟨hc, h⟩, if_pos ⟨hc, by omega⟩]
        · rw [if_neg (fun z => h z.2)]
          by_cases hr : r = x.toNatClampNeg
          · rw [if_pos ⟨hc, hr⟩, if_pos ⟨hc, by omega⟩]
          · rw [if_neg (fun z => hr z.2), if_neg (fun z => by omega)]
      · rw [if_neg (fun z => hc z.1), if_neg (fun z => hc z.1), if_neg (fun z => hc z.1)]
theorem rule_loop (N : Nat) : ∀ (m fuel : Nat) (S : St) (y : Int32) (x : Int32), (14 - x.toInt).toNat = m → 0 ≤ x.toInt → x.toInt ≤ 14 → m < fuel →
    ∃ g : Nat → Nat → Int32, (∀ kk : St → Int32 → Option (Int32 × St), g_X10_lane_60 N kk fuel S y x = kk (S.1, g, S.2.2) y) ∧ ∀ c r, g c r = if c = 6 ∧ x.toInt ≤ (r : Int) ∧ r < 14 then -9 else gA S c r := by
  intro m
  induction m with
  | zero =>
    intro fuel S y x hm h1 h2 hf
    obtain ⟨f, rfl⟩ : ∃ f, fuel = f + 1 := ⟨fuel - 1, by omega⟩
    refine ⟨gA S, ?_, fun c r => by rw [if_neg (fun z => by omega)]⟩
    intro kk
    show s_X10_lane_60 N kk _ S y x = _
    unfold s_X10_lane_60
    rw [if_pos (by rw [zle, z14]; omega)]
    rfl
  | succ m ih =>
    intro fuel S y x hm h1 h2 hf
    obtain ⟨f, rfl⟩ : ∃ f, fuel = f + 1 := ⟨fuel - 1, by omega⟩
    have e2 : (x + 1).toInt = x.toInt + 1 := zadd (by rw [z1]; omega) (by rw [z1]; omega)
    have en : (x.toNatClampNeg : Int) = x.toInt := by rw [znat]; omega
    have hS2 := at1 S (c1 := 6) (i := x.toNatClampNeg) (v := -9)
    obtain ⟨g, q1, q2⟩ := ih f (sA S 6 (upd (gA S 6) x.toNatClampNeg (-9))) y (x + 1) (by rw [e2]; omega) (by omega) (by omega) (by omega)
    refine ⟨g, ?_, fun c r => ?_⟩
    · intro kk
      refine Eq.trans ?_ (q1 kk)
      show s_X10_lane_60 N kk _ S y x = _
      unfold s_X10_lane_60
      rw [if_neg (by rw [zle, z14]; omega), if_neg (gok h1 (by omega)), bnd_eq]
    · rw [q2 c r, hS2 c r, e2]
      by_cases hc : c = 6
      · by_cases h : x.toInt + 1 ≤ (r : Int) ∧ r < 14
        · rw [if_pos ⟨hc, h⟩, if_pos ⟨hc, by omega⟩]
        · rw [if_neg (fun z => h z.2)]
          by_cases hr : r = x.toNatClampNeg
          · rw [if_pos ⟨hc, hr⟩, if_pos ⟨hc, by omega⟩]
          · rw [if_neg (fun z => hr z.2), if_neg (fun z => by omega)]
      · rw [if_neg (fun z => hc z.1), if_neg (fun z => hc z.1), if_neg (fun z => hc z.1)]
theorem wind_loop (N : Nat) : ∀ (m fuel : Nat) (S : St) (x : Int32), (24 - x.toInt).toNat = m → 0 ≤ x.toInt → x.toInt ≤ 24 → m < fuel →
    ∃ g : Nat → Nat → Int32, (∀ kk : St → Option St, g_X10_settles_18 N kk fuel S x = kk (S.1, g, S.2.2)) ∧ ∀ c r, g c r = if (c = 2 ∨ c = 3) ∧ x.toInt ≤ (r : Int) ∧ r < 24 then gA S c (24 + r) else gA S c r := by
  intro m
  induction m with
  | zero =>
    intro fuel S x hm h1 h2 hf
    obtain ⟨f, rfl⟩ : ∃ f, fuel = f + 1 := ⟨fuel - 1, by omega⟩
    refine ⟨gA S, ?_, fun c r => by rw [if_neg (fun z => by omega)]⟩
    intro kk
    show s_X10_settles_18 N kk _ S x = _
    unfold s_X10_settles_18
    rw [if_pos (by rw [zle, z24]; omega)]
    rfl
  | succ m ih =>
    intro fuel S x hm h1 h2 hf
    obtain ⟨f, rfl⟩ : ∃ f, fuel = f + 1 := ⟨fuel - 1, by omega⟩
    have e2 : (x + 1).toInt = x.toInt + 1 := zadd (by rw [z1]; omega) (by rw [z1]; omega)
    have en : (x.toNatClampNeg : Int) = x.toInt := by rw [znat]; omega
    have hS2 := at2 S (c1 := 2) (c2 := 3) (i := x.toNatClampNeg) (v := gA S 2 (24 + x.toNatClampNeg)) (w := gA S 3 (24 + x.toNatClampNeg)) (by omega) (fun c => gA S c (24 + x.toNatClampNeg)) rfl rfl
    obtain ⟨i1, i2⟩ := i24 (y := x) ⟨h1, by omega⟩
    obtain ⟨g, q1, q2⟩ := ih f (sA (sA S (2) (upd (gA S (2)) x.toNatClampNeg (gA S 2 (24 + x.toNatClampNeg)))) (3) (upd (gA (sA S (2) (upd (gA S (2)) x.toNatClampNeg (gA S 2 (24 + x.toNatClampNeg)))) (3)) x.toNatClampNeg (gA S 3 (24 + x.toNatClampNeg)))) (x + 1) (by rw [e2]; omega) (by omega) (by omega) (by omega)
    refine ⟨g, ?_, fun c r => ?_⟩
    · intro kk
      refine Eq.trans ?_ (q1 kk)
      show s_X10_settles_18 N kk _ S x = _
      unfold s_X10_settles_18
      rw [if_neg (by rw [zle, z24]; omega), if_neg i2, if_neg (gok h1 (by omega)), bnd_eq, if_neg i2, if_neg (gok h1 (by omega)), bnd_eq, i1]
      rfl
    · rw [q2 c r, e2]
      by_cases hc : (c = 2 ∨ c = 3)
      · by_cases h : x.toInt + 1 ≤ (r : Int) ∧ r < 24
        · rw [if_pos ⟨hc, h⟩, if_pos ⟨hc, by omega⟩, hS2, if_neg (fun z => by omega)]
        · rw [if_neg (fun z => h z.2), hS2]
          by_cases hr : r = x.toNatClampNeg
          · rw [if_pos ⟨hc, hr⟩, if_pos ⟨hc, by omega⟩, hr]
          · rw [if_neg (fun z => hr z.2), if_neg (fun z => by omega)]
      · rw [if_neg (fun z => hc z.1), hS2, if_neg (fun z => hc z.1), if_neg (fun z => hc z.1)]
theorem pace_loop (N : Nat) : ∀ (m fuel : Nat) (S : St) (x : Int32), (3 - x.toInt).toNat = m → 0 ≤ x.toInt → x.toInt ≤ 3 → m < fuel →
    ∃ g : Nat → Nat → Int32, (∀ kk : St → Option St, g_X10_settles_62 N kk fuel S x = kk (S.1, g, S.2.2)) ∧ ∀ c r, g c r = if (c = 4 ∨ c = 5) ∧ x.toInt ≤ (r : Int) ∧ r < 3 then gA S c (3 + r) else gA S c r := by
  intro m
  induction m with
  | zero =>
    intro fuel S x hm h1 h2 hf
    obtain ⟨f, rfl⟩ : ∃ f, fuel = f + 1 := ⟨fuel - 1, by omega⟩
    refine ⟨gA S, ?_, fun c r => by rw [if_neg (fun z => by omega)]⟩
    intro kk
    show s_X10_settles_62 N kk _ S x = _
    unfold s_X10_settles_62
    rw [if_pos (by rw [zle, z3]; omega)]
    rfl
  | succ m ih =>
    intro fuel S x hm h1 h2 hf
    obtain ⟨f, rfl⟩ : ∃ f, fuel = f + 1 := ⟨fuel - 1, by omega⟩
    have e2 : (x + 1).toInt = x.toInt + 1 := zadd (by rw [z1]; omega) (by rw [z1]; omega)
    have en : (x.toNatClampNeg : Int) = x.toInt := by rw [znat]; omega
    have hS2 := at2 S (c1 := 4) (c2 := 5) (i := x.toNatClampNeg) (v := gA S 4 (3 + x.toNatClampNeg)) (w := gA S 5 (3 + x.toNatClampNeg)) (by omega) (fun c => gA S c (3 + x.toNatClampNeg)) rfl rfl
    obtain ⟨i1, i2⟩ := i3 (y := x) ⟨h1, by omega⟩
    obtain ⟨g, q1, q2⟩ := ih f (sA (sA S (4) (upd (gA S (4)) x.toNatClampNeg (gA S 4 (3 + x.toNatClampNeg)))) (5) (upd (gA (sA S (4) (upd (gA S (4)) x.toNatClampNeg (gA S 4 (3 + x.toNatClampNeg)))) (5)) x.toNatClampNeg (gA S 5 (3 + x.toNatClampNeg)))) (x + 1) (by rw [e2]; omega) (by omega) (by omega) (by omega)
    refine ⟨g, ?_, fun c r => ?_⟩
    · intro kk
      refine Eq.trans ?_ (q1 kk)
      show s_X10_settles_62 N kk _ S x = _
      unfold s_X10_settles_62
      rw [if_neg (by rw [zle, z3]; omega), if_neg i2, if_neg (gok h1 (by omega)), bnd_eq, if_neg i2, if_neg (gok h1 (by omega)), bnd_eq, i1]
      rfl
    · rw [q2 c r, e2]
      by_cases hc : (c = 4 ∨ c = 5)
      · by_cases h : x.toInt + 1 ≤ (r : Int) ∧ r < 3
        · rw [if_pos ⟨hc, h⟩, if_pos ⟨hc, by omega⟩, hS2, if_neg (fun z => by omega)]
        · rw [if_neg (fun z => h z.2), hS2]
          by_cases hr : r = x.toNatClampNeg
          · rw [if_pos ⟨hc, hr⟩, if_pos ⟨hc, by omega⟩, hr]
          · rw [if_neg (fun z => hr z.2), if_neg (fun z => by omega)]
      · rw [if_neg (fun z => hc z.1), hS2, if_neg (fun z => hc z.1), if_neg (fun z => hc z.1)]
theorem home_zero (N : Nat) : ∀ (m fuel : Nat) (S : St) (x : Int32), (9 - x.toInt).toNat = m → 0 ≤ x.toInt → x.toInt ≤ 9 → m < fuel →
    ∃ g : Nat → Nat → Int32, (∀ kk : St → Option St, g_X10_settles_191 N kk fuel S x = kk (S.1, g, S.2.2)) ∧ ∀ c r, g c r = if c = 7 ∧ x.toInt ≤ (r : Int) ∧ r < 9 then 0 else gA S c r := by
  intro m
  induction m with
  | zero =>
    intro fuel S x hm h1 h2 hf
    obtain ⟨f, rfl⟩ : ∃ f, fuel = f + 1 := ⟨fuel - 1, by omega⟩
    refine ⟨gA S, ?_, fun c r => by rw [if_neg (fun z => by omega)]⟩
    intro kk
    show s_X10_settles_191 N kk _ S x = _
    unfold s_X10_settles_191
    rw [if_pos (by rw [zle, z9]; omega)]
    rfl
  | succ m ih =>
    intro fuel S x hm h1 h2 hf
    obtain ⟨f, rfl⟩ : ∃ f, fuel = f + 1 := ⟨fuel - 1, by omega⟩
    have e2 : (x + 1).toInt = x.toInt + 1 := zadd (by rw [z1]; omega) (by rw [z1]; omega)
    have en : (x.toNatClampNeg : Int) = x.toInt := by rw [znat]; omega
    have hS2 := at1 S (c1 := 7) (i := x.toNatClampNeg) (v := 0)
    obtain ⟨g, q1, q2⟩ := ih f (sA S 7 (upd (gA S 7) x.toNatClampNeg 0)) (x + 1) (by rw [e2]; omega) (by omega) (by omega) (by omega)
    refine ⟨g, ?_, fun c r => ?_⟩
    · intro kk
      refine Eq.trans ?_ (q1 kk)
      show s_X10_settles_191 N kk _ S x = _
      unfold s_X10_settles_191
      rw [if_neg (by rw [zle, z9]; omega), if_neg (gok h1 (by omega)), bnd_eq]
    · rw [q2 c r, hS2 c r, e2]
      by_cases hc : c = 7
      · by_cases h : x.toInt + 1 ≤ (r : Int) ∧ r < 9
        · rw [if_pos ⟨hc, h⟩, if_pos ⟨hc, by omega⟩]
        · rw [if_neg (fun z => h z.2)]
          by_cases hr : r = x.toNatClampNeg
          · rw [if_pos ⟨hc, hr⟩, if_pos ⟨hc, by omega⟩]
          · rw [if_neg (fun z => hr z.2), if_neg (fun z => by omega)]
      · rw [if_neg (fun z => hc z.1), if_neg (fun z => hc z.1), if_neg (fun z => hc z.1)]
theorem zero_loop (N : Nat) : ∀ (m fuel : Nat) (S : St) (x : Int32), (3 - x.toInt).toNat = m → 0 ≤ x.toInt → x.toInt ≤ 3 → m < fuel →
    ∃ g : Nat → Nat → Int32, (g_X7_begin_2 N 0 fuel S x = some (S.1, g, S.2.2)) ∧ ∀ c r, g c r = if (c = 5 ∨ c = 6 ∨ c = 7) ∧ x.toInt ≤ (r : Int) ∧ r < 3 then 0 else gA S c r := by
  intro m
  induction m with
  | zero =>
    intro fuel S x hm h1 h2 hf
    obtain ⟨f, rfl⟩ : ∃ f, fuel = f + 1 := ⟨fuel - 1, by omega⟩
    refine ⟨gA S, ?_, fun c r => by rw [if_neg (fun z => by omega)]⟩
    show s_X7_begin_2 N 0 _ S x = _
    unfold s_X7_begin_2
    rw [if_pos (by rw [zle, z3]; omega)]
    rfl
  | succ m ih =>
    intro fuel S x hm h1 h2 hf
    obtain ⟨f, rfl⟩ : ∃ f, fuel = f + 1 := ⟨fuel - 1, by omega⟩
    have e2 : (x + 1).toInt = x.toInt + 1 := zadd (by rw [z1]; omega) (by rw [z1]; omega)
    have en : (x.toNatClampNeg : Int) = x.toInt := by rw [znat]; omega
    have hS2 : ∀ c r, gA (putR S 0 x.toNatClampNeg 0 0 0) c r = if (c = 5 ∨ c = 6 ∨ c = 7) ∧ r = x.toNatClampNeg then 0 else gA S c r := fun c r => by
      rw [gA_put]
      by_cases er : r = x.toNatClampNeg
      · by_cases c7 : c = 7
        · rw [if_pos c7, if_pos ⟨Or.inr (Or.inr c7), er⟩, er, upd_at]
        rw [if_neg c7]
        by_cases c6 : c = 6
        · rw [if_pos c6, if_pos ⟨Or.inr (Or.inl c6), er⟩, er, upd_at]
        rw [if_neg c6]
        by_cases c5 : c = 5
        · rw [if_pos c5, if_pos ⟨Or.inl c5, er⟩, er, upd_at]
        rw [if_neg c5, if_neg (fun z => by omega)]
      · rw [if_neg (fun z : (c = 5 ∨ c = 6 ∨ c = 7) ∧ r = x.toNatClampNeg => er z.2)]
        by_cases c7 : c = 7
        · rw [if_pos c7, upd_off er, c7]
        rw [if_neg c7]
        by_cases c6 : c = 6
        · rw [if_pos c6, upd_off er, c6]
        rw [if_neg c6]
        by_cases c5 : c = 5
        · rw [if_pos c5, upd_off er, c5]
        rw [if_neg c5]
    obtain ⟨g, q1, q2⟩ := ih f (putR S 0 x.toNatClampNeg 0 0 0) (x + 1) (by rw [e2]; omega) (by omega) (by omega) (by omega)
    refine ⟨g, ?_, fun c r => ?_⟩
    · refine Eq.trans ?_ q1
      show s_X7_begin_2 N 0 _ S x = _
      unfold s_X7_begin_2
      rw [if_neg (by rw [zle, z3]; omega), cPut h1 (by omega), bs]
    · rw [q2 c r, hS2 c r, e2]
      by_cases hc : (c = 5 ∨ c = 6 ∨ c = 7)
      · by_cases h : x.toInt + 1 ≤ (r : Int) ∧ r < 3
        · rw [if_pos ⟨hc, h⟩, if_pos ⟨hc, by omega⟩]
        · rw [if_neg (fun z => h z.2)]
          by_cases hr : r = x.toNatClampNeg
          · rw [if_pos ⟨hc, hr⟩, if_pos ⟨hc, by omega⟩]
          · rw [if_neg (fun z => hr z.2), if_neg (fun z => by omega)]
      · rw [if_neg (fun z => hc z.1), if_neg (fun z => hc z.1), if_neg (fun z => hc z.1)]
