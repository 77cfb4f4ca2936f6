/-! pure rows: small checks; the reads -/
theorem z0 : (0 : Int32).toInt = 0 := by decide
theorem z1 : (1 : Int32).toInt = 1 := by decide
theorem z2 : (2 : Int32).toInt = 2 := by decide
theorem z3 : (3 : Int32).toInt = 3 := by decide
theorem z4 : (4 : Int32).toInt = 4 := by decide
theorem z5 : (5 : Int32).toInt = 5 := by decide
theorem z6 : (6 : Int32).toInt = 6 := by decide
theorem z7 : (7 : Int32).toInt = 7 := by decide
theorem z8 : (8 : Int32).toInt = 8 := by decide
theorem z9 : (9 : Int32).toInt = 9 := by decide
theorem z10 : (10 : Int32).toInt = 10 := by decide
theorem z12 : (12 : Int32).toInt = 12 := by decide
theorem z24 : (24 : Int32).toInt = 24 := by decide
theorem z48 : (48 : Int32).toInt = 48 := by decide
theorem z99 : (99 : Int32).toInt = 99 := by decide
theorem z100 : (100 : Int32).toInt = 100 := by decide
theorem z300 : (300 : Int32).toInt = 300 := by decide
theorem z999 : (999 : Int32).toInt = 999 := by decide
theorem zm1 : (-1 : Int32).toInt = -1 := by decide
theorem zm2 : (-2 : Int32).toInt = -2 := by decide
theorem zm9 : (-9 : Int32).toInt = -9 := by decide
theorem gok {x : Int32} {n : Nat} (h0 : 0 ≤ x.toInt) (h1 : x.toInt < n) : ¬ (x < 0 ∨ n ≤ x.toNatClampNeg) := by
  intro h
  rcases h with h | h
  · rw [zlt, z0] at h; omega
  · rw [znat] at h; omega
theorem sm {x : Int32} {k : Nat} (h : x.toInt = k) : x.toNatClampNeg = k := by rw [znat, h]; rfl
theorem bit1 (p : Prop) [Decidable p] : ((if p then (1 : Int32) else 0) &&& 1 = (if p then (1 : Int32) else 0)) := by
  by_cases h : p
  · rw [if_pos h]; decide
  · rw [if_neg h]; decide
abbrev isR (T : St) (a : Int32) : Prop := 0 ≤ a.toInt ∧ a.toInt < (gI T 0 15).toInt
abbrev isY (T : St) (a : Int32) : Prop := 0 ≤ a.toInt ∧ a.toInt < (gI T 0 14).toInt
abbrev isB (a : Int32) : Prop := 0 ≤ a.toInt ∧ a.toInt ≤ 1
abbrev isTo (u f t r : Int32) : Prop := (1 ≤ u.toInt ∧ u.toInt ≤ 4) ∧ (0 ≤ f.toInt ∧ f.toInt ≤ 9) ∧ (0 ≤ t.toInt ∧ t.toInt ≤ 7) ∧ isB r
theorem in_eq (x a b : Int32) : f_X10_in x a b = some (if a.toInt ≤ x.toInt ∧ x.toInt ≤ b.toInt then 1 else 0) := by
  unfold f_X10_in
  by_cases h1 : x < a
  · rw [if_pos h1]; rw [zlt] at h1; rw [if_neg (by omega)]
  · rw [if_neg h1]; rw [zlt] at h1
    by_cases h2 : b < x
    · rw [if_pos h2]; rw [zlt] at h2; rw [if_neg (by omega)]
    · rw [if_neg h2]; rw [zlt] at h2; rw [if_pos (by omega)]
theorem cIsR {S T : St} {i : Nat} (h : IvLb S T (33 + 5 * i)) (a : Int32) : f_X3_isRunner S i a = some (if isR T a then 1 else 0) := by
  unfold f_X3_isRunner
  rw [h.1.2.1]
  by_cases h1 : a < 0
  · rw [if_pos h1]; rw [zlt, z0] at h1; rw [if_neg (by omega)]
  · rw [if_neg h1]; rw [zlt, z0] at h1
    by_cases h2 : gI T 0 15 ≤ a
    · rw [if_pos h2]; rw [zle] at h2; rw [if_neg (by omega)]
    · rw [if_neg h2]; rw [zle] at h2; rw [if_pos (by omega)]
theorem cIsY {S T : St} {i : Nat} (h : IvLb S T (33 + 5 * i)) (a : Int32) : f_X3_isYard S i a = some (if isY T a then 1 else 0) := by
  unfold f_X3_isYard
  rw [h.1.1]
  by_cases h1 : a < 0
  · rw [if_pos h1]; rw [zlt, z0] at h1; rw [if_neg (by omega)]
  · rw [if_neg h1]; rw [zlt, z0] at h1
    by_cases h2 : gI T 0 14 ≤ a
    · rw [if_pos h2]; rw [zle] at h2; rw [if_neg (by omega)]
    · rw [if_neg h2]; rw [zle] at h2; rw [if_pos (by omega)]
theorem ite_iff {α : Type} {p q : Prop} [Decidable p] [Decidable q] (h : p ↔ q) (a b : α) : (if p then a else b) = (if q then a else b) := by
  by_cases hp : p
  · rw [if_pos hp, if_pos (h.mp hp)]
  · rw [if_neg hp, if_neg (fun hq => hp (h.mpr hq))]
theorem mIsR {T : St} (h : 0 ≤ (gI T 0 15).toInt) (a : Int32) : f_X10_isRunner T a = some (if isR T a then 1 else 0) := by
  unfold f_X10_isRunner
  rw [in_eq, bs, if_neg (fun h => h (bit1 _)), z0, zsub (by rw [z1]; have := zhi (gI T 0 15); omega) (by rw [z1]; have := zhi (gI T 0 15); omega), z1]
  exact congrArg some (ite_iff (by omega) _ _)
theorem mIsY {T : St} (h : 0 ≤ (gI T 0 14).toInt) (a : Int32) : f_X10_isYard T a = some (if isY T a then 1 else 0) := by
  unfold f_X10_isYard
  rw [in_eq, bs, if_neg (fun h => h (bit1 _)), z0, zsub (by rw [z1]; have := zhi (gI T 0 14); omega) (by rw [z1]; have := zhi (gI T 0 14); omega), z1]
  exact congrArg some (ite_iff (by omega) _ _)
theorem cIsB (a : Int32) : f_X9_isBit a = some (if isB a then 1 else 0) := by
  unfold f_X9_isBit
  by_cases h1 : a = 0
  · subst h1; decide
  · by_cases h2 : a = 1
    · subst h2; decide
    · rw [if_neg h1, if_neg h2, if_neg]
      intro h
      rw [zeq, z0] at h1; rw [zeq, z1] at h2
      omega
theorem one_ne : ¬ ((1 : Int32) = 0) := by decide
theorem if10 {α : Type} (p : Prop) [Decidable p] (a b : α) : (if (if p then (1 : Int32) else 0) = 0 then a else b) = if p then b else a := by
  by_cases h : p
  · rw [if_pos h, if_pos h, if_neg one_ne]
  · rw [if_neg h, if_neg h, if_pos rfl]
theorem cIsT (u f t r : Int32) : f_X9_isToss u f t r = some (if isTo u f t r then 1 else 0) := by
  unfold f_X9_isToss
  rw [cIsB, bs, if10]
  simp only [zlt, z0, z1, z4, z7, z9]
  by_cases h1 : u.toInt < 1
  · rw [if_pos h1, if_neg (by omega)]
  rw [if_neg h1]
  by_cases h2 : 4 < u.toInt
  · rw [if_pos h2, if_neg (by omega)]
  rw [if_neg h2]
  by_cases h3 : f.toInt < 0
  · rw [if_pos h3, if_neg (by omega)]
  rw [if_neg h3]
  by_cases h4 : 9 < f.toInt
  · rw [if_pos h4, if_neg (by omega)]
  rw [if_neg h4]
  by_cases h5 : t.toInt < 0
  · rw [if_pos h5, if_neg (by omega)]
  rw [if_neg h5]
  by_cases h6 : 7 < t.toInt
  · rw [if_pos h6, if_neg (by omega)]
  rw [if_neg h6]
  by_cases h7 : isB r
  · rw [if_pos h7, if_pos (by omega)]
  · rw [if_neg h7, if_neg (by omega)]
theorem mIsT (u f t r : Int32) : f_X10_isToss u f t r = some (if isTo u f t r then 1 else 0) := by
  unfold f_X10_isToss
  simp only [in_eq, bs, if10, z0, z1, z4, z7, z9]
  by_cases h1 : 1 ≤ u.toInt ∧ u.toInt ≤ 4
  · rw [if_pos h1]
    by_cases h2 : 0 ≤ f.toInt ∧ f.toInt ≤ 9
    · rw [if_pos h2]
      by_cases h3 : 0 ≤ t.toInt ∧ t.toInt ≤ 7
      · rw [if_pos h3]
        by_cases h4 : 0 ≤ r.toInt ∧ r.toInt ≤ 1
        · rw [if_pos h4, if_pos ⟨h1, h2, h3, h4⟩]
        · rw [if_neg h4, if_neg (fun h => h4 h.2.2.2)]
      · rw [if_neg h3, if_neg (fun h => h3 h.2.2.1)]
    · rw [if_neg h2, if_neg (fun h => h2 h.2.1)]
  · rw [if_neg h1, if_neg (fun h => h1 h.1)]
/-- reads of a row of three, of 24 -/
theorem cYardOf {S : St} {i : Nat} {a : Int32} (h0 : 0 ≤ a.toInt) (h1 : a.toInt < 3) : f_X7_yardOf S i a = some (gA S (5 + 5 * i) a.toNatClampNeg) := by
  unfold f_X7_yardOf
  rw [if_neg (by rw [zlt, z0]; omega), if_neg (by rw [zle, z3]; omega), if_neg (gok h0 (by omega))]
theorem cBeatsOf {S : St} {i : Nat} {a : Int32} (h0 : 0 ≤ a.toInt) (h1 : a.toInt < 3) : f_X7_beatsOf S i a = some (gA S (6 + 5 * i) a.toNatClampNeg) := by
  unfold f_X7_beatsOf
  rw [if_neg (by rw [zlt, z0]; omega), if_neg (by rw [zle, z3]; omega), if_neg (gok h0 (by omega))]
theorem cGoodOf {S : St} {i : Nat} {a : Int32} (h0 : 0 ≤ a.toInt) (h1 : a.toInt < 3) : f_X7_goodOf S i a = some (gA S (7 + 5 * i) a.toNatClampNeg) := by
  unfold f_X7_goodOf
  rw [if_neg (by rw [zlt, z0]; omega), if_neg (by rw [zle, z3]; omega), if_neg (gok h0 (by omega))]
theorem cPaceOf {S : St} {i : Nat} {a : Int32} (h0 : 0 ≤ a.toInt) (h1 : a.toInt < 3) : f_X3_paceOf S i a = some (gA S (36 + 5 * i) a.toNatClampNeg) := by
  unfold f_X3_paceOf
  rw [if_neg (by rw [zlt, z0]; omega), if_neg (by rw [zle, z3]; omega), if_neg (gok h0 (by omega))]
theorem cPanOf {S : St} {i : Nat} {a : Int32} (h0 : 0 ≤ a.toInt) (h1 : a.toInt < 3) : f_X3_panOf S i a = some (gA S (37 + 5 * i) a.toNatClampNeg) := by
  unfold f_X3_panOf
  rw [if_neg (by rw [zlt, z0]; omega), if_neg (by rw [zle, z3]; omega), if_neg (gok h0 (by omega))]
theorem cWindAt {S : St} {i : Nat} {a : Int32} (h0 : 0 ≤ a.toInt) (h1 : a.toInt < 24) : f_X3_windAt S i a = some (gA S (34 + 5 * i) a.toNatClampNeg) := by
  unfold f_X3_windAt
  rw [if_neg (by rw [zlt, z0]; omega), if_neg (by rw [zle, z24]; omega), if_neg (gok h0 (by omega))]
theorem cIsWet {S T : St} {i : Nat} (h : IvLb S T (33 + 5 * i)) {a : Int32} (hn : (gI T 0 14).toInt ≤ 24) : f_X3_isWet S i a = some (if isY T a ∧ gA S (35 + 5 * i) a.toNatClampNeg ≠ 0 then 1 else 0) := by
  unfold f_X3_isWet
  rw [cIsY h, bs, if10]
  by_cases h1 : isY T a
  · rw [if_pos h1, if_neg (by rw [zle, z24]; omega), if_neg (gok h1.1 (by omega))]
    by_cases h2 : gA S (35 + 5 * i) a.toNatClampNeg = 0
    · rw [if_pos h2, if_neg (fun h => h.2 h2)]
    · rw [if_neg h2, if_pos ⟨h1, h2⟩]
  · rw [if_neg h1, if_neg (fun h => h1 h.1)]
theorem p_yard {n : Nat} {S T : St} (h : Inv n S T) (a b : Int32) : ∃ (v : Int32) (S' T' : St), f_X9_yard S a b = some v ∧ f_X10_yard T a b = some (v, T') ∧ S' = S ∧ Inv (n + 1) S' T' := by
  have hL := h.2.1.2
  have hr := hL.2.1
  unfold f_X9_yard f_X10_yard
  rw [cIsY hL, bs, if10, bnd_eq, mIsY (T := sI T 0 0 0) (by show 0 ≤ (gI T 0 14).toInt; omega), bs, if10, in_eq, bs, if10]
  by_cases h1 : isY T a
  · rw [if_pos h1, if_pos (show isY (sI T 0 0 0) a from h1), cWindAt h1.1 (by omega), cIsWet hL (by omega), bs, bs, if10]
    rw [z0, z1]
    by_cases h2 : 0 ≤ b.toInt ∧ b.toInt ≤ 1
    · rw [if_neg (show ¬ b < 0 by rw [zlt, z0]; omega), if_pos (show b ≤ 1 by rw [zle, z1]; omega), if_pos h2]
      have e := sm (x := a) (k := a.toInt.toNat) (by omega)
      by_cases h3 : b = 0
      · rw [if_pos h3, if_pos h3, if_neg (gok h1.1 (by omega))]
        refine ⟨_, S, _, rfl, ?_, rfl, h.mono.thrown 0⟩
        have := (hL.2.2.1 a.toNatClampNeg (by rw [znat]; omega)).1
        rw [show 34 + 5 * (gCo S).toNat = 33 + 5 * (gCo S).toNat + 1 by omega, this]
        rfl
      · rw [if_neg h3, if_neg h3, if_neg (gok h1.1 (by omega))]
        have hw := hL.2.2.2.1 a.toNatClampNeg (by rw [znat]; omega)
        refine ⟨gA T 3 a.toNatClampNeg, S, _, ?_, rfl, rfl, h.mono.thrown 0⟩
        rw [show 35 + 5 * (gCo S).toNat = 33 + 5 * (gCo S).toNat + 2 by omega, hw.1]
        rcases hw.2 with hw | hw
        · rw [hw, if_neg (fun h => h.2 rfl)]
        · rw [hw, if_pos ⟨h1, by decide⟩]
    · rw [if_neg h2]
      refine ⟨-1, S, _, ?_, rfl, rfl, h.mono.thrown 0⟩
      by_cases h3 : b < 0
      · rw [if_pos h3]
      · rw [if_neg h3, if_neg (by rw [zle, z1]; rw [zlt, z0] at h3; omega)]
  · rw [if_neg h1, if_neg (show ¬ isY (sI T 0 0 0) a from h1)]
    exact ⟨-1, S, _, rfl, rfl, rfl, h.mono.thrown 0⟩
