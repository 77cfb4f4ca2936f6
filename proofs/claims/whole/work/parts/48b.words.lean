/-! lane: the words -/
def kwK : Nat → Int64 := fun t => match t with
  | 0 => 1818324581
  | 1 => 2003398244
  | 2 => 7824756
  | 3 => 125848689468786
  | 4 => 1919905893
  | 5 => 1852138852
  | _ => 1685221232
theorem lgz (x y : Int64) : (lg_cmp x y = 0) = (x = y) := by
  refine propext ⟨fun h => ?_, fun h => by rw [h]; exact lg_cmp_self y⟩
  unfold lg_cmp at h
  by_cases c : x > y
  · rw [if_pos c] at h; exact absurd h (by decide)
  · rw [if_neg c] at h
    by_cases d : x = y
    · exact d
    · rw [if_neg d] at h; exact absurd h (by decide)
theorem j64 (x y : Int64) : (x = y) = (x.toInt = y.toInt) := propext Int64.toInt_inj.symm
def kwM (y : Int64) : Int32 := if y = kwK 5 then 5 else if y = kwK 6 then 6 else if y = kwK 3 then 3 else if y = kwK 4 then 4 else if y = kwK 0 then 0 else if y = kwK 1 then 1 else if y = kwK 2 then 2 else -9
def kwC (y : Int64) : Int32 := if y = kwK 0 then 1 else if y = kwK 1 then 2 else if y = kwK 2 then 3 else if y = kwK 3 then 4 else if y = kwK 4 then 5 else if y = kwK 5 then 6 else if y = kwK 6 then 7 else 10
theorem named_0 : f_X10_named (108 : Int32) (97 : Int32) (110 : Int32) (101 : Int32) (0 : Int32) (0 : Int32) = some (kwK 0) := by decide +kernel
theorem named_1 : f_X10_named (119 : Int32) (105 : Int32) (110 : Int32) (100 : Int32) (0 : Int32) (0 : Int32) = some (kwK 1) := by decide +kernel
theorem named_2 : f_X10_named (119 : Int32) (101 : Int32) (116 : Int32) (0 : Int32) (0 : Int32) (0 : Int32) = some (kwK 2) := by decide +kernel
theorem named_3 : f_X10_named (114 : Int32) (117 : Int32) (110 : Int32) (110 : Int32) (101 : Int32) (114 : Int32) = some (kwK 3) := by decide +kernel
theorem named_4 : f_X10_named (114 : Int32) (111 : Int32) (112 : Int32) (101 : Int32) (0 : Int32) (0 : Int32) = some (kwK 4) := by decide +kernel
theorem named_5 : f_X10_named (110 : Int32) (101 : Int32) (101 : Int32) (100 : Int32) (0 : Int32) (0 : Int32) = some (kwK 5) := by decide +kernel
theorem named_6 : f_X10_named (100 : Int32) (114 : Int32) (111 : Int32) (112 : Int32) (0 : Int32) (0 : Int32) = some (kwK 6) := by decide +kernel
theorem wordOf_eq (y : Int64) : f_X10_wordOf y = some (kwM y) := by
  have e115 : ∀ t, f_X10_wordOf_115 y t = some (if y = kwK 5 then 5 else if y = kwK 6 then 6 else t) := by
    intro t
    unfold f_X10_wordOf_115
    rw [named_5, bs, named_6, bs]
    simp only [lgz]
    by_cases c5 : y = kwK 5
    · rw [if_pos c5, if_pos c5]
    rw [if_neg c5, if_neg c5]
    by_cases c6 : y = kwK 6
    · rw [if_pos c6, if_pos c6]
    rw [if_neg c6, if_neg c6]
  have e67 : ∀ t, f_X10_wordOf_67 y t = some (if y = kwK 5 then 5 else if y = kwK 6 then 6 else if y = kwK 3 then 3 else if y = kwK 4 then 4 else t) := by
    intro t
    unfold f_X10_wordOf_67
    rw [named_3, bs, named_4, bs, e115, e115, e115]
    simp only [lgz]
    by_cases c3 : y = kwK 3
    · rw [if_pos c3, if_pos c3]
    rw [if_neg c3, if_neg c3]
    by_cases c4 : y = kwK 4
    · rw [if_pos c4, if_pos c4]
    rw [if_neg c4, if_neg c4]
  unfold f_X10_wordOf kwM
  rw [named_0, bs, named_1, bs, named_2, bs, e67, e67, e67, e67]
  simp only [lgz]
  by_cases c0 : y = kwK 0
  · rw [if_pos c0, if_pos c0]
  rw [if_neg c0, if_neg c0]
  by_cases c1 : y = kwK 1
  · rw [if_pos c1, if_pos c1]
  rw [if_neg c1, if_neg c1]
  by_cases c2 : y = kwK 2
  · rw [if_pos c2, if_pos c2]
  rw [if_neg c2, if_neg c2]
theorem kw_both (y : Int64) : (kwC y = 10 ∧ kwM y = -9) ∨ (1 ≤ (kwC y).toInt ∧ (kwC y).toInt ≤ 7 ∧ kwM y ≠ -9 ∧ (kwM y).toInt = (kwC y).toInt - 1) := by
  by_cases c0 : y = kwK 0
  · subst c0; right; decide +kernel
  by_cases c1 : y = kwK 1
  · subst c1; right; decide +kernel
  by_cases c2 : y = kwK 2
  · subst c2; right; decide +kernel
  by_cases c3 : y = kwK 3
  · subst c3; right; decide +kernel
  by_cases c4 : y = kwK 4
  · subst c4; right; decide +kernel
  by_cases c5 : y = kwK 5
  · subst c5; right; decide +kernel
  by_cases c6 : y = kwK 6
  · subst c6; right; decide +kernel
  left
  unfold kwC kwM
  rw [if_neg c0, if_neg c1, if_neg c2, if_neg c3, if_neg c4, if_neg c5, if_neg c6, if_neg c5, if_neg c6, if_neg c3, if_neg c4, if_neg c0, if_neg c1, if_neg c2]
  exact ⟨rfl, rfl⟩
theorem accW_big {b : Nat → Int32} {s : Nat} : ∀ d : Nat, accW b s (7 + d) = accW b s 7
  | 0 => rfl
  | d + 1 => by
    rw [← accW_big d]
    show (if 7 + d < 7 then _ else _) = _
    rw [if_neg (by omega)]
    rfl
theorem accK_0 {b : Nat → Int32} {s m : Nat} (h : ∀ j : Nat, j < m → 97 ≤ (b (s + j)).toInt ∧ (b (s + j)).toInt ≤ 122) : accW b s m = 1818324581 ↔ m = 4 ∧ (b (s + 0)).toInt = 108 ∧ (b (s + 1)).toInt = 97 ∧ (b (s + 2)).toInt = 110 ∧ (b (s + 3)).toInt = 101 := by
  rcases (show m = 0 ∨ m = 1 ∨ m = 2 ∨ m = 3 ∨ m = 4 ∨ m = 5 ∨ m = 6 ∨ 7 ≤ m by omega) with e | e | e | e | e | e | e | e
  · subst e; simp only [accW, Nat.zero_lt_succ, reduceIte, Nat.reduceLT]; omega
  · subst e; have h0 := h 0 (by omega); simp only [accW, Nat.zero_lt_succ, reduceIte, Nat.reduceLT]; omega
  · subst e; have h0 := h 0 (by omega); have h1 := h 1 (by omega); simp only [accW, Nat.zero_lt_succ, reduceIte, Nat.reduceLT]; omega
  · subst e; have h0 := h 0 (by omega); have h1 := h 1 (by omega); have h2 := h 2 (by omega); simp only [accW, Nat.zero_lt_succ, reduceIte, Nat.reduceLT]; omega
  · subst e; have h0 := h 0 (by omega); have h1 := h 1 (by omega); have h2 := h 2 (by omega); have h3 := h 3 (by omega); simp only [accW, Nat.zero_lt_succ, reduceIte, Nat.reduceLT]; exact ⟨fun z => ⟨trivial, by omega, by omega, by omega, by omega⟩, fun z => by obtain ⟨-, a0, a1, a2, a3⟩ := z; omega⟩
  · subst e; have h0 := h 0 (by omega); have h1 := h 1 (by omega); have h2 := h 2 (by omega); have h3 := h 3 (by omega); have h4 := h 4 (by omega); simp only [accW, Nat.zero_lt_succ, reduceIte, Nat.reduceLT]; omega
  · subst e; have h0 := h 0 (by omega); have h1 := h 1 (by omega); have h2 := h 2 (by omega); have h3 := h 3 (by omega); have h4 := h 4 (by omega); have h5 := h 5 (by omega); simp only [accW, Nat.zero_lt_succ, reduceIte, Nat.reduceLT]; omega
  · obtain ⟨d, rfl⟩ : ∃ d, m = 7 + d := ⟨m - 7, by omega⟩
    rw [accW_big]; have h0 := h 0 (by omega); have h1 := h 1 (by omega); have h2 := h 2 (by omega); have h3 := h 3 (by omega); have h4 := h 4 (by omega); have h5 := h 5 (by omega); have h6 := h 6 (by omega); simp only [accW, Nat.zero_lt_succ, reduceIte, Nat.reduceLT]; omega
theorem accK_1 {b : Nat → Int32} {s m : Nat} (h : ∀ j : Nat, j < m → 97 ≤ (b (s + j)).toInt ∧ (b (s + j)).toInt ≤ 122) : accW b s m = 2003398244 ↔ m = 4 ∧ (b (s + 0)).toInt = 119 ∧ (b (s + 1)).toInt = 105 ∧ (b (s + 2)).toInt = 110 ∧ (b (s + 3)).toInt = 100 := by
  rcases (show m = 0 ∨ m = 1 ∨ m = 2 ∨ m = 3 ∨ m = 4 ∨ m = 5 ∨ m = 6 ∨ 7 ≤ m by omega) with e | e | e | e | e | e | e | e
  · subst e; simp only [accW, Nat.zero_lt_succ, reduceIte, Nat.reduceLT]; omega
  · subst e; have h0 := h 0 (by omega); simp only [accW, Nat.zero_lt_succ, reduceIte, Nat.reduceLT]; omega
  · subst e; have h0 := h 0 (by omega); have h1 := h 1 (by omega); simp only [accW, Nat.zero_lt_succ, reduceIte, Nat.reduceLT]; omega
  · subst e; have h0 := h 0 (by omega); have h1 := h 1 (by omega); have h2 := h 2 (by omega); simp only [accW, Nat.zero_lt_succ, reduceIte, Nat.reduceLT]; omega
  · subst e; have h0 := h 0 (by omega); have h1 := h 1 (by omega); have h2 := h 2 (by omega); have h3 := h 3 (by omega); simp only [accW, Nat.zero_lt_succ, reduceIte, Nat.reduceLT]; exact ⟨fun z => ⟨trivial, by omega, by omega, by omega, by omega⟩, fun z => by obtain ⟨-, a0, a1, a2, a3⟩ := z; omega⟩
  · subst e; have h0 := h 0 (by omega); have h1 := h 1 (by omega); have h2 := h 2 (by omega); have h3 := h 3 (by omega); have h4 := h 4 (by omega); simp only [accW, Nat.zero_lt_succ, reduceIte, Nat.reduceLT]; omega
  · subst e; have h0 := h 0 (by omega); have h1 := h 1 (by omega); have h2 := h 2 (by omega); have h3 := h 3 (by omega); have h4 := h 4 (by omega); have h5 := h 5 (by omega); simp only [accW, Nat.zero_lt_succ, reduceIte, Nat.reduceLT]; omega
  · obtain ⟨d, rfl⟩ : ∃ d, m = 7 + d := ⟨m - 7, by omega⟩
    rw [accW_big]; have h0 := h 0 (by omega); have h1 := h 1 (by omega); have h2 := h 2 (by omega); have h3 := h 3 (by omega); have h4 := h 4 (by omega); have h5 := h 5 (by omega); have h6 := h 6 (by omega); simp only [accW, Nat.zero_lt_succ, reduceIte, Nat.reduceLT]; omega
theorem accK_2 {b : Nat → Int32} {s m : Nat} (h : ∀ j : Nat, j < m → 97 ≤ (b (s + j)).toInt ∧ (b (s + j)).toInt ≤ 122) : accW b s m = 7824756 ↔ m = 3 ∧ (b (s + 0)).toInt = 119 ∧ (b (s + 1)).toInt = 101 ∧ (b (s + 2)).toInt = 116 := by
  rcases (show m = 0 ∨ m = 1 ∨ m = 2 ∨ m = 3 ∨ m = 4 ∨ m = 5 ∨ m = 6 ∨ 7 ≤ m by omega) with e | e | e | e | e | e | e | e
  · subst e; simp only [accW, Nat.zero_lt_succ, reduceIte, Nat.reduceLT]; omega
  · subst e; have h0 := h 0 (by omega); simp only [accW, Nat.zero_lt_succ, reduceIte, Nat.reduceLT]; omega
  · subst e; have h0 := h 0 (by omega); have h1 := h 1 (by omega); simp only [accW, Nat.zero_lt_succ, reduceIte, Nat.reduceLT]; omega
  · subst e; have h0 := h 0 (by omega); have h1 := h 1 (by omega); have h2 := h 2 (by omega); simp only [accW, Nat.zero_lt_succ, reduceIte, Nat.reduceLT]; exact ⟨fun z => ⟨trivial, by omega, by omega, by omega⟩, fun z => by obtain ⟨-, a0, a1, a2⟩ := z; omega⟩
  · subst e; have h0 := h 0 (by omega); have h1 := h 1 (by omega); have h2 := h 2 (by omega); have h3 := h 3 (by omega); simp only [accW, Nat.zero_lt_succ, reduceIte, Nat.reduceLT]; omega
  · subst e; have h0 := h 0 (by omega); have h1 := h 1 (by omega); have h2 := h 2 (by omega); have h3 := h 3 (by omega); have h4 := h 4 (by omega); simp only [accW, Nat.zero_lt_succ, reduceIte, Nat.reduceLT]; omega
  · subst e; have h0 := h 0 (by omega); have h1 := h 1 (by omega); have h2 := h 2 (by omega); have h3 := h 3 (by omega); have h4 := h 4 (by omega); have h5 := h 5 (by omega); simp only [accW, Nat.zero_lt_succ, reduceIte, Nat.reduceLT]; omega
  · obtain ⟨d, rfl⟩ : ∃ d, m = 7 + d := ⟨m - 7, by omega⟩
    rw [accW_big]; have h0 := h 0 (by omega); have h1 := h 1 (by omega); have h2 := h 2 (by omega); have h3 := h 3 (by omega); have h4 := h 4 (by omega); have h5 := h 5 (by omega); have h6 := h 6 (by omega); simp only [accW, Nat.zero_lt_succ, reduceIte, Nat.reduceLT]; omega
theorem accK_3 {b : Nat → Int32} {s m : Nat} (h : ∀ j : Nat, j < m → 97 ≤ (b (s + j)).toInt ∧ (b (s + j)).toInt ≤ 122) : accW b s m = 125848689468786 ↔ m = 6 ∧ (b (s + 0)).toInt = 114 ∧ (b (s + 1)).toInt = 117 ∧ (b (s + 2)).toInt = 110 ∧ (b (s + 3)).toInt = 110 ∧ (b (s + 4)).toInt = 101 ∧ (b (s + 5)).toInt = 114 := by
  rcases (show m = 0 ∨ m = 1 ∨ m = 2 ∨ m = 3 ∨ m = 4 ∨ m = 5 ∨ m = 6 ∨ 7 ≤ m by omega) with e | e | e | e | e | e | e | e
  · subst e; simp only [accW, Nat.zero_lt_succ, reduceIte, Nat.reduceLT]; omega
  · subst e; have h0 := h 0 (by omega); simp only [accW, Nat.zero_lt_succ, reduceIte, Nat.reduceLT]; omega
  · subst e; have h0 := h 0 (by omega); have h1 := h 1 (by omega); simp only [accW, Nat.zero_lt_succ, reduceIte, Nat.reduceLT]; omega
  · subst e; have h0 := h 0 (by omega); have h1 := h 1 (by omega); have h2 := h 2 (by omega); simp only [accW, Nat.zero_lt_succ, reduceIte, Nat.reduceLT]; omega
  · subst e; have h0 := h 0 (by omega); have h1 := h 1 (by omega); have h2 := h 2 (by omega); have h3 := h 3 (by omega); simp only [accW, Nat.zero_lt_succ, reduceIte, Nat.reduceLT]; omega
  · subst e; have h0 := h 0 (by omega); have h1 := h 1 (by omega); have h2 := h 2 (by omega); have h3 := h 3 (by omega); have h4 := h 4 (by omega); simp only [accW, Nat.zero_lt_succ, reduceIte, Nat.reduceLT]; omega
  · subst e; have h0 := h 0 (by omega); have h1 := h 1 (by omega); have h2 := h 2 (by omega); have h3 := h 3 (by omega); have h4 := h 4 (by omega); have h5 := h 5 (by omega); simp only [accW, Nat.zero_lt_succ, reduceIte, Nat.reduceLT]; exact ⟨fun z => ⟨trivial, by omega, by omega, by omega, by omega, by omega, by omega⟩, fun z => by obtain ⟨-, a0, a1, a2, a3, a4, a5⟩ := z; omega⟩
  · obtain ⟨d, rfl⟩ : ∃ d, m = 7 + d := ⟨m - 7, by omega⟩
    rw [accW_big]; have h0 := h 0 (by omega); have h1 := h 1 (by omega); have h2 := h 2 (by omega); have h3 := h 3 (by omega); have h4 := h 4 (by omega); have h5 := h 5 (by omega); have h6 := h 6 (by omega); simp only [accW, Nat.zero_lt_succ, reduceIte, Nat.reduceLT]; omega
theorem accK_4 {b : Nat → Int32} {s m : Nat} (h : ∀ j : Nat, j < m → 97 ≤ (b (s + j)).toInt ∧ (b (s + j)).toInt ≤ 122) : accW b s m = 1919905893 ↔ m = 4 ∧ (b (s + 0)).toInt = 114 ∧ (b (s + 1)).toInt = 111 ∧ (b (s + 2)).toInt = 112 ∧ (b (s + 3)).toInt = 101 := by
  rcases (show m = 0 ∨ m = 1 ∨ m = 2 ∨ m = 3 ∨ m = 4 ∨ m = 5 ∨ m = 6 ∨ 7 ≤ m by omega) with e | e | e | e | e | e | e | e
  · subst e; simp only [accW, Nat.zero_lt_succ, reduceIte, Nat.reduceLT]; omega
  · subst e; have h0 := h 0 (by omega); simp only [accW, Nat.zero_lt_succ, reduceIte, Nat.reduceLT]; omega
  · subst e; have h0 := h 0 (by omega); have h1 := h 1 (by omega); simp only [accW, Nat.zero_lt_succ, reduceIte, Nat.reduceLT]; omega
  · subst e; have h0 := h 0 (by omega); have h1 := h 1 (by omega); have h2 := h 2 (by omega); simp only [accW, Nat.zero_lt_succ, reduceIte, Nat.reduceLT]; omega
  · subst e; have h0 := h 0 (by omega); have h1 := h 1 (by omega); have h2 := h 2 (by omega); have h3 := h 3 (by omega); simp only [accW, Nat.zero_lt_succ, reduceIte, Nat.reduceLT]; exact ⟨fun z => ⟨trivial, by omega, by omega, by omega, by omega⟩, fun z => by obtain ⟨-, a0, a1, a2, a3⟩ := z; omega⟩
  · subst e; have h0 := h 0 (by omega); have h1 := h 1 (by omega); have h2 := h 2 (by omega); have h3 := h 3 (by omega); have h4 := h 4 (by omega); simp only [accW, Nat.zero_lt_succ, reduceIte, Nat.reduceLT]; omega
  · subst e; have h0 := h 0 (by omega); have h1 := h 1 (by omega); have h2 := h 2 (by omega); have h3 := h 3 (by omega); have h4 := h 4 (by omega); have h5 := h 5 (by omega); simp only [accW, Nat.zero_lt_succ, reduceIte, Nat.reduceLT]; omega
  · obtain ⟨d, rfl⟩ : ∃ d, m = 7 + d := ⟨m - 7, by omega⟩
    rw [accW_big]; have h0 := h 0 (by omega); have h1 := h 1 (by omega); have h2 := h 2 (by omega); have h3 := h 3 (by omega); have h4 := h 4 (by omega); have h5 := h 5 (by omega); have h6 := h 6 (by omega); simp only [accW, Nat.zero_lt_succ, reduceIte, Nat.reduceLT]; omega
theorem accK_5 {b : Nat → Int32} {s m : Nat} (h : ∀ j : Nat, j < m → 97 ≤ (b (s + j)).toInt ∧ (b (s + j)).toInt ≤ 122) : accW b s m = 1852138852 ↔ m = 4 ∧ (b (s + 0)).toInt = 110 ∧ (b (s + 1)).toInt = 101 ∧ (b (s + 2)).toInt = 101 ∧ (b (s + 3)).toInt = 100 := by
  rcases (show m = 0 ∨ m = 1 ∨ m = 2 ∨ m = 3 ∨ m = 4 ∨ m = 5 ∨ m = 6 ∨ 7 ≤ m by omega) with e | e | e | e | e | e | e | e
  · subst e; simp only [accW, Nat.zero_lt_succ, reduceIte, Nat.reduceLT]; omega
  · subst e; have h0 := h 0 (by omega); simp only [accW, Nat.zero_lt_succ, reduceIte, Nat.reduceLT]; omega
  · subst e; have h0 := h 0 (by omega); have h1 := h 1 (by omega); simp only [accW, Nat.zero_lt_succ, reduceIte, Nat.reduceLT]; omega
  · subst e; have h0 := h 0 (by omega); have h1 := h 1 (by omega); have h2 := h 2 (by omega); simp only [accW, Nat.zero_lt_succ, reduceIte, Nat.reduceLT]; omega
  · subst e; have h0 := h 0 (by omega); have h1 := h 1 (by omega); have h2 := h 2 (by omega); have h3 := h 3 (by omega); simp only [accW, Nat.zero_lt_succ, reduceIte, Nat.reduceLT]; exact ⟨fun z => ⟨trivial, by omega, by omega, by omega, by omega⟩, fun z => by obtain ⟨-, a0, a1, a2, a3⟩ := z; omega⟩
  · subst e; have h0 := h 0 (by omega); have h1 := h 1 (by omega); have h2 := h 2 (by omega); have h3 := h 3 (by omega); have h4 := h 4 (by omega); simp only [accW, Nat.zero_lt_succ, reduceIte, Nat.reduceLT]; omega
  · subst e; have h0 := h 0 (by omega); have h1 := h 1 (by omega); have h2 := h 2 (by omega); have h3 := h 3 (by omega); have h4 := h 4 (by omega); have h5 := h 5 (by omega); simp only [accW, Nat.zero_lt_succ, reduceIte, Nat.reduceLT]; omega
  · obtain ⟨d, rfl⟩ : ∃ d, m = 7 + d := ⟨m - 7, by omega⟩
    rw [accW_big]; have h0 := h 0 (by omega); have h1 := h 1 (by omega); have h2 := h 2 (by omega); have h3 := h 3 (by omega); have h4 := h 4 (by omega); have h5 := h 5 (by omega); have h6 := h 6 (by omega); simp only [accW, Nat.zero_lt_succ, reduceIte, Nat.reduceLT]; omega
theorem accK_6 {b : Nat → Int32} {s m : Nat} (h : ∀ j : Nat, j < m → 97 ≤ (b (s + j)).toInt ∧ (b (s + j)).toInt ≤ 122) : accW b s m = 1685221232 ↔ m = 4 ∧ (b (s + 0)).toInt = 100 ∧ (b (s + 1)).toInt = 114 ∧ (b (s + 2)).toInt = 111 ∧ (b (s + 3)).toInt = 112 := by
  rcases (show m = 0 ∨ m = 1 ∨ m = 2 ∨ m = 3 ∨ m = 4 ∨ m = 5 ∨ m = 6 ∨ 7 ≤ m by omega) with e | e | e | e | e | e | e | e
  · subst e; simp only [accW, Nat.zero_lt_succ, reduceIte, Nat.reduceLT]; omega
  · subst e; have h0 := h 0 (by omega); simp only [accW, Nat.zero_lt_succ, reduceIte, Nat.reduceLT]; omega
  · subst e; have h0 := h 0 (by omega); have h1 := h 1 (by omega); simp only [accW, Nat.zero_lt_succ, reduceIte, Nat.reduceLT]; omega
  · subst e; have h0 := h 0 (by omega); have h1 := h 1 (by omega); have h2 := h 2 (by omega); simp only [accW, Nat.zero_lt_succ, reduceIte, Nat.reduceLT]; omega
  · subst e; have h0 := h 0 (by omega); have h1 := h 1 (by omega); have h2 := h 2 (by omega); have h3 := h 3 (by omega); simp only [accW, Nat.zero_lt_succ, reduceIte, Nat.reduceLT]; exact ⟨fun z => ⟨trivial, by omega, by omega, by omega, by omega⟩, fun z => by obtain ⟨-, a0, a1, a2, a3⟩ := z; omega⟩
  · subst e; have h0 := h 0 (by omega); have h1 := h 1 (by omega); have h2 := h 2 (by omega); have h3 := h 3 (by omega); have h4 := h 4 (by omega); simp only [accW, Nat.zero_lt_succ, reduceIte, Nat.reduceLT]; omega
  · subst e; have h0 := h 0 (by omega); have h1 := h 1 (by omega); have h2 := h 2 (by omega); have h3 := h 3 (by omega); have h4 := h 4 (by omega); have h5 := h 5 (by omega); simp only [accW, Nat.zero_lt_succ, reduceIte, Nat.reduceLT]; omega
  · obtain ⟨d, rfl⟩ : ∃ d, m = 7 + d := ⟨m - 7, by omega⟩
    rw [accW_big]; have h0 := h 0 (by omega); have h1 := h 1 (by omega); have h2 := h 2 (by omega); have h3 := h 3 (by omega); have h4 := h 4 (by omega); have h5 := h 5 (by omega); have h6 := h 6 (by omega); simp only [accW, Nat.zero_lt_succ, reduceIte, Nat.reduceLT]; omega
theorem tlen (S : St) : ∀ t : Nat, t < 7 → f_J0_length_8abf5 S t = some (Int32.ofNat (txL.getD t 0))
  | 0, _ => rfl
  | 1, _ => rfl
  | 2, _ => rfl
  | 3, _ => rfl
  | 4, _ => rfl
  | 5, _ => rfl
  | 6, _ => rfl
  | t + 7, h => absurd h (by omega)
theorem txL_lt6 : ∀ i : Fin 7, txL.getD i.val 0 ≤ 6 := by decide
theorem tchar0 : ∀ t : Fin 7, ∀ x : Fin 6, x.val < txL.getD t.val 0 → f_J0_charAt_5068e S0 t.val (Int32.ofNat x.val) = some ((txB.getD t.val []).getD x.val 0) := by decide +kernel
theorem tchar (S : St) {t x : Nat} (ht : t < 7) (hx : x < txL.getD t 0) : f_J0_charAt_5068e S t (Int32.ofNat x) = some ((txB.getD t []).getD x 0) :=
  tchar0 ⟨t, ht⟩ ⟨x, Nat.lt_of_lt_of_le hx (txL_lt6 ⟨t, ht⟩)⟩ hx
theorem ofN {x : Nat} (h : x < 1000) : (Int32.ofNat x).toInt = x := Int32.toInt_ofNat_of_lt (by omega)
theorem ofN1 {x : Nat} : Int32.ofNat x + 1 = Int32.ofNat (x + 1) := (Int32.ofNat_add x 1).symm
theorem hold_loop {S : St} {b : Nat → Int32} {L st : Int32} (hS : cTx S b L) (hb : Tb b L) (N : Nat) {t : Nat} (ht : t < 7) (h0 : 0 ≤ st.toInt) (h1 : st.toInt + txL.getD t 0 ≤ L.toInt) : ∀ (m x f : Nat), txL.getD t 0 - x = m → x ≤ txL.getD t 0 → m < f → ∃ r : Int32, g_X8_holds_28 N S t st f (Int32.ofNat x) = some r ∧ (r = 0 ∨ r = 1) ∧ (r = 1 ↔ ∀ j : Nat, x ≤ j → j < txL.getD t 0 → b (st.toNatClampNeg + j) = (txB.getD t []).getD j 0) := by
  have hL := hb.2.1
  have hl6 : txL.getD t 0 ≤ 6 := txL_lt6 ⟨t, ht⟩
  intro m
  induction m with
  | zero =>
    intro x f hm hx hf
    obtain ⟨f, rfl⟩ : ∃ f', f = f' + 1 := ⟨f - 1, by omega⟩
    refine ⟨1, ?_, Or.inr rfl, ⟨fun _ j j1 j2 => by omega, fun _ => rfl⟩⟩
    show s_X8_holds_28 N S t st _ _ = _
    unfold s_X8_holds_28
    rw [tlen S t ht, bs, if_pos (by rw [zle, ofN (by omega), ofN (by omega)]; omega)]
  | succ m ih =>
    intro x f hm hx hf
    obtain ⟨f, rfl⟩ : ∃ f', f = f' + 1 := ⟨f - 1, by omega⟩
    have ex := ofN (x := x) (by omega)
    have es : (st + Int32.ofNat x).toInt = st.toInt + x := by rw [zadd (by rw [ex]; omega) (by rw [ex]; omega), ex]
    have en : (st + Int32.ofNat x).toNatClampNeg = st.toNatClampNeg + x := by rw [znat, znat, es]; omega
    have eb : gA S 2 (st.toNatClampNeg + x) = b (st.toNatClampNeg + x) := hS.2 _ (by rw [znat]; omega)
    have go : g_X8_holds_28 N S t st (f + 1) (Int32.ofNat x) = if b (st.toNatClampNeg + x) = (txB.getD t []).getD x 0 then g_X8_holds_28 N S t st f (Int32.ofNat (x + 1)) else some 0 := by
      show s_X8_holds_28 N S t st _ _ = _
      unfold s_X8_holds_28
      rw [tlen S t ht, bs, if_neg (by rw [zle, ofN (by omega), ofN (by omega)]; omega), if_neg (gok (by rw [es]; omega) (by rw [es]; omega)), tchar S ht (by omega), bs, en, eb, ofN1]
    rw [go]
    by_cases c : b (st.toNatClampNeg + x) = (txB.getD t []).getD x 0
    · rw [if_pos c]
      obtain ⟨r, r1, r2, r3⟩ := ih (x + 1) f (by omega) (by omega) (by omega)
      refine ⟨r, r1, r2, r3.trans ⟨fun h j j1 j2 => ?_, fun h j j1 j2 => h j (by omega) j2⟩⟩
      by_cases cj : j = x
      · rw [cj]; exact c
      · exact h j (by omega) j2
    · rw [if_neg c]
      exact ⟨0, rfl, Or.inl rfl, ⟨fun h => absurd h (by decide), fun h => absurd (h x (Nat.le_refl _) (by omega)) c⟩⟩
theorem cHolds {S : St} {b : Nat → Int32} {L st q : Int32} (hS : cTx S b L) (hb : Tb b L) {N : Nat} (hN : 100 ≤ N) {t : Nat} (ht : t < 7) (h0 : 0 ≤ st.toInt) (h1 : st.toInt ≤ q.toInt) (h2 : q.toInt ≤ L.toInt) : ∃ r : Int32, f_X8_holds N S t st q = some r ∧ (r = 0 ∨ r = 1) ∧ (r = 1 ↔ (q.toInt - st.toInt).toNat = txL.getD t 0 ∧ ∀ j : Nat, j < txL.getD t 0 → b (st.toNatClampNeg + j) = (txB.getD t []).getD j 0) := by
  have hL := hb.2.1
  have hl6 : txL.getD t 0 ≤ 6 := txL_lt6 ⟨t, ht⟩
  have es : (q - st).toInt = q.toInt - st.toInt := zsub (by omega) (by omega)
  unfold f_X8_holds
  rw [if_neg (by rw [zlt, z0]; omega), if_neg (by rw [zlt, z300]; omega), tlen S t ht, bs]
  by_cases c : q - st = Int32.ofNat (txL.getD t 0)
  · rw [if_pos c]
    rw [zeq, es, ofN (by omega)] at c
    obtain ⟨r, r1, r2, r3⟩ := hold_loop hS hb N ht h0 (by omega) (txL.getD t 0) 0 N rfl (Nat.zero_le _) (by omega)
    exact ⟨r, r1, r2, r3.trans ⟨fun h => ⟨by omega, fun j j2 => h j (Nat.zero_le _) j2⟩, fun h j _ j2 => h.2 j j2⟩⟩
  · rw [if_neg c]
    rw [zeq, es, ofN (by omega)] at c
    exact ⟨0, rfl, Or.inl rfl, ⟨fun h => absurd h (by decide), fun h => absurd (by omega) c⟩⟩
theorem cH_0 {S : St} {b : Nat → Int32} {L st q : Int32} (hS : cTx S b L) (hb : Tb b L) {N : Nat} (hN : 100 ≤ N) (h0 : 0 ≤ st.toInt) (h1 : st.toInt ≤ q.toInt) (h2 : q.toInt ≤ L.toInt) (hl : ∀ j : Nat, st.toInt ≤ j → (j : Int) < q.toInt → 97 ≤ (b j).toInt ∧ (b j).toInt ≤ 122) {y : Int64} (hy : y.toInt = accW b st.toNatClampNeg (q.toInt - st.toInt).toNat) : f_X8_holds N S 0 st q = some (if y = kwK 0 then 1 else 0) := by
  obtain ⟨r, r1, r2, r3⟩ := cHolds hS hb hN (t := 0) (by decide) h0 h1 h2
  have ha := accK_0 (b := b) (s := st.toNatClampNeg) (m := (q.toInt - st.toInt).toNat) (fun j hj => hl _ (by rw [znat]; omega) (by rw [znat]; omega))
  have hk : y = kwK 0 ↔ r = 1 := by
    rw [j64, hy, show (kwK 0).toInt = 1818324581 by decide +kernel, ha, r3]
    refine ⟨fun h => ⟨h.1, fun j hj => ?_⟩, fun h => ⟨h.1, ?_⟩⟩
    · have hj : j < 4 := hj
      obtain ⟨-, ⟨a0, a1, a2, a3⟩⟩ := h
      rcases (show j = 0 ∨ j = 1 ∨ j = 2 ∨ j = 3 by omega) with rfl | rfl | rfl | rfl
      · rw [zeq, a0]; decide
      · rw [zeq, a1]; decide
      · rw [zeq, a2]; decide
      · rw [zeq, a3]; decide
    · exact ⟨by rw [h.2 0 (by decide)]; decide, by rw [h.2 1 (by decide)]; decide, by rw [h.2 2 (by decide)]; decide, by rw [h.2 3 (by decide)]; decide⟩
  rw [r1]
  rcases r2 with rfl | rfl
  · rw [if_neg (fun h => absurd (hk.mp h) (by decide))]
  · rw [if_pos (hk.mpr rfl)]
theorem cH_1 {S : St} {b : Nat → Int32} {L st q : Int32} (hS : cTx S b L) (hb : Tb b L) {N : Nat} (hN : 100 ≤ N) (h0 : 0 ≤ st.toInt) (h1 : st.toInt ≤ q.toInt) (h2 : q.toInt ≤ L.toInt) (hl : ∀ j : Nat, st.toInt ≤ j → (j : Int) < q.toInt → 97 ≤ (b j).toInt ∧ (b j).toInt ≤ 122) {y : Int64} (hy : y.toInt = accW b st.toNatClampNeg (q.toInt - st.toInt).toNat) : f_X8_holds N S 1 st q = some (if y = kwK 1 then 1 else 0) := by
  obtain ⟨r, r1, r2, r3⟩ := cHolds hS hb hN (t := 1) (by decide) h0 h1 h2
  have ha := accK_1 (b := b) (s := st.toNatClampNeg) (m := (q.toInt - st.toInt).toNat) (fun j hj => hl _ (by rw [znat]; omega) (by rw [znat]; omega))
  have hk : y = kwK 1 ↔ r = 1 := by
    rw [j64, hy, show (kwK 1).toInt = 2003398244 by decide +kernel, ha, r3]
    refine ⟨fun h => ⟨h.1, fun j hj => ?_⟩, fun h => ⟨h.1, ?_⟩⟩
    · have hj : j < 4 := hj
      obtain ⟨-, ⟨a0, a1, a2, a3⟩⟩ := h
      rcases (show j = 0 ∨ j = 1 ∨ j = 2 ∨ j = 3 by omega) with rfl | rfl | rfl | rfl
      · rw [zeq, a0]; decide
      · rw [zeq, a1]; decide
      · rw [zeq, a2]; decide
      · rw [zeq, a3]; decide
    · exact ⟨by rw [h.2 0 (by decide)]; decide, by rw [h.2 1 (by decide)]; decide, by rw [h.2 2 (by decide)]; decide, by rw [h.2 3 (by decide)]; decide⟩
  rw [r1]
  rcases r2 with rfl | rfl
  · rw [if_neg (fun h => absurd (hk.mp h) (by decide))]
  · rw [if_pos (hk.mpr rfl)]
theorem cH_2 {S : St} {b : Nat → Int32} {L st q : Int32} (hS : cTx S b L) (hb : Tb b L) {N : Nat} (hN : 100 ≤ N) (h0 : 0 ≤ st.toInt) (h1 : st.toInt ≤ q.toInt) (h2 : q.toInt ≤ L.toInt) (hl : ∀ j : Nat, st.toInt ≤ j → (j : Int) < q.toInt → 97 ≤ (b j).toInt ∧ (b j).toInt ≤ 122) {y : Int64} (hy : y.toInt = accW b st.toNatClampNeg (q.toInt - st.toInt).toNat) : f_X8_holds N S 2 st q = some (if y = kwK 2 then 1 else 0) := by
  obtain ⟨r, r1, r2, r3⟩ := cHolds hS hb hN (t := 2) (by decide) h0 h1 h2
  have ha := accK_2 (b := b) (s := st.toNatClampNeg) (m := (q.toInt - st.toInt).toNat) (fun j hj => hl _ (by rw [znat]; omega) (by rw [znat]; omega))
  have hk : y = kwK 2 ↔ r = 1 := by
    rw [j64, hy, show (kwK 2).toInt = 7824756 by decide +kernel, ha, r3]
    refine ⟨fun h => ⟨h.1, fun j hj => ?_⟩, fun h => ⟨h.1, ?_⟩⟩
    · have hj : j < 3 := hj
      obtain ⟨-, ⟨a0, a1, a2⟩⟩ := h
      rcases (show j = 0 ∨ j = 1 ∨ j = 2 by omega) with rfl | rfl | rfl
      · rw [zeq, a0]; decide
      · rw [zeq, a1]; decide
      · rw [zeq, a2]; decide
    · exact ⟨by rw [h.2 0 (by decide)]; decide, by rw [h.2 1 (by decide)]; decide, by rw [h.2 2 (by decide)]; decide⟩
  rw [r1]
  rcases r2 with rfl | rfl
  · rw [if_neg (fun h => absurd (hk.mp h) (by decide))]
  · rw [if_pos (hk.mpr rfl)]
theorem cH_3 {S : St} {b : Nat → Int32} {L st q : Int32} (hS : cTx S b L) (hb : Tb b L) {N : Nat} (hN : 100 ≤ N) (h0 : 0 ≤ st.toInt) (h1 : st.toInt ≤ q.toInt) (h2 : q.toInt ≤ L.toInt) (hl : ∀ j : Nat, st.toInt ≤ j → (j : Int) < q.toInt → 97 ≤ (b j).toInt ∧ (b j).toInt ≤ 122) {y : Int64} (hy : y.toInt = accW b st.toNatClampNeg (q.toInt - st.toInt).toNat) : f_X8_holds N S 3 st q = some (if y = kwK 3 then 1 else 0) := by
  obtain ⟨r, r1, r2, r3⟩ := cHolds hS hb hN (t := 3) (by decide) h0 h1 h2
  have ha := accK_3 (b := b) (s := st.toNatClampNeg) (m := (q.toInt - st.toInt).toNat) (fun j hj => hl _ (by rw [znat]; omega) (by rw [znat]; omega))
  have hk : y = kwK 3 ↔ r = 1 := by
    rw [j64, hy, show (kwK 3).toInt = 125848689468786 by decide +kernel, ha, r3]
    refine ⟨fun h => ⟨h.1, fun j hj => ?_⟩, fun h => ⟨h.1, ?_⟩⟩
    · have hj : j < 6 := hj
      obtain ⟨-, ⟨a0, a1, a2, a3, a4, a5⟩⟩ := h
      rcases (show j = 0 ∨ j = 1 ∨ j = 2 ∨ j = 3 ∨ j = 4 ∨ j = 5 by omega) with rfl | rfl | rfl | rfl | rfl | rfl
      · rw [zeq, a0]; decide
      · rw [zeq, a1]; decide
      · rw [zeq, a2]; decide
      · rw [zeq, a3]; decide
      · rw [zeq, a4]; decide
      · rw [zeq, a5]; decide
    · exact ⟨by rw [h.2 0 (by decide)]; decide, by rw [h.2 1 (by decide)]; decide, by rw [h.2 2 (by decide)]; decide, by rw [h.2 3 (by decide)]; decide, by rw [h.2 4 (by decide)]; decide, by rw [h.2 5 (by decide)]; decide⟩
  rw [r1]
  rcases r2 with rfl | rfl
  · rw [if_neg (fun h => absurd (hk.mp h) (by decide))]
  · rw [if_pos (hk.mpr rfl)]
theorem cH_4 {S : St} {b : Nat → Int32} {L st q : Int32} (hS : cTx S b L) (hb : Tb b L) {N : Nat} (hN : 100 ≤ N) (h0 : 0 ≤ st.toInt) (h1 : st.toInt ≤ q.toInt) (h2 : q.toInt ≤ L.toInt) (hl : ∀ j : Nat, st.toInt ≤ j → (j : Int) < q.toInt → 97 ≤ (b j).toInt ∧ (b j).toInt ≤ 122) {y : Int64} (hy : y.toInt = accW b st.toNatClampNeg (q.toInt - st.toInt).toNat) : f_X8_holds N S 4 st q = some (if y = kwK 4 then 1 else 0) := by
  obtain ⟨r, r1, r2, r3⟩ := cHolds hS hb hN (t := 4) (by decide) h0 h1 h2
  have ha := accK_4 (b := b) (s := st.toNatClampNeg) (m := (q.toInt - st.toInt).toNat) (fun j hj => hl _ (by rw [znat]; omega) (by rw [znat]; omega))
  have hk : y = kwK 4 ↔ r = 1 := by
    rw [j64, hy, show (kwK 4).toInt = 1919905893 by decide +kernel, ha, r3]
    refine ⟨fun h => ⟨h.1, fun j hj => ?_⟩, fun h => ⟨h.1, ?_⟩⟩
    · have hj : j < 4 := hj
      obtain ⟨-, ⟨a0, a1, a2, a3⟩⟩ := h
      rcases (show j = 0 ∨ j = 1 ∨ j = 2 ∨ j = 3 by omega) with rfl | rfl | rfl | rfl
      · rw [zeq, a0]; decide
      · rw [zeq, a1]; decide
      · rw [zeq, a2]; decide
      · rw [zeq, a3]; decide
    · exact ⟨by rw [h.2 0 (by decide)]; decide, by rw [h.2 1 (by decide)]; decide, by rw [h.2 2 (by decide)]; decide, by rw [h.2 3 (by decide)]; decide⟩
  rw [r1]
  rcases r2 with rfl | rfl
  · rw [if_neg (fun h => absurd (hk.mp h) (by decide))]
  · rw [if_pos (hk.mpr rfl)]
theorem cH_5 {S : St} {b : Nat → Int32} {L st q : Int32} (hS : cTx S b L) (hb : Tb b L) {N : Nat} (hN : 100 ≤ N) (h0 : 0 ≤ st.toInt) (h1 : st.toInt ≤ q.toInt) (h2 : q.toInt ≤ L.toInt) (hl : ∀ j : Nat, st.toInt ≤ j → (j : Int) < q.toInt → 97 ≤ (b j).toInt ∧ (b j).toInt ≤ 122) {y : Int64} (hy : y.toInt = accW b st.toNatClampNeg (q.toInt - st.toInt).toNat) : f_X8_holds N S 5 st q = some (if y = kwK 5 then 1 else 0) := by
  obtain ⟨r, r1, r2, r3⟩ := cHolds hS hb hN (t := 5) (by decide) h0 h1 h2
  have ha := accK_5 (b := b) (s := st.toNatClampNeg) (m := (q.toInt - st.toInt).toNat) (fun j hj => hl _ (by rw [znat]; omega) (by rw [znat]; omega))
  have hk : y = kwK 5 ↔ r = 1 := by
    rw [j64, hy, show (kwK 5).toInt = 1852138852 by decide +kernel, ha, r3]
    refine ⟨fun h => ⟨h.1, fun j hj => ?_⟩, fun h => ⟨h.1, ?_⟩⟩
    · have hj : j < 4 := hj
      obtain ⟨-, ⟨a0, a1, a2, a3⟩⟩ := h
      rcases (show j = 0 ∨ j = 1 ∨ j = 2 ∨ j = 3 by omega) with rfl | rfl | rfl | rfl
      · rw [zeq, a0]; decide
      · rw [zeq, a1]; decide
      · rw [zeq, a2]; decide
      · rw [zeq, a3]; decide
    · exact ⟨by rw [h.2 0 (by decide)]; decide, by rw [h.2 1 (by decide)]; decide, by rw [h.2 2 (by decide)]; decide, by rw [h.2 3 (by decide)]; decide⟩
  rw [r1]
  rcases r2 with rfl | rfl
  · rw [if_neg (fun h => absurd (hk.mp h) (by decide))]
  · rw [if_pos (hk.mpr rfl)]
theorem cH_6 {S : St} {b : Nat → Int32} {L st q : Int32} (hS : cTx S b L) (hb : Tb b L) {N : Nat} (hN : 100 ≤ N) (h0 : 0 ≤ st.toInt) (h1 : st.toInt ≤ q.toInt) (h2 : q.toInt ≤ L.toInt) (hl : ∀ j : Nat, st.toInt ≤ j → (j : Int) < q.toInt → 97 ≤ (b j).toInt ∧ (b j).toInt ≤ 122) {y : Int64} (hy : y.toInt = accW b st.toNatClampNeg (q.toInt - st.toInt).toNat) : f_X8_holds N S 6 st q = some (if y = kwK 6 then 1 else 0) := by
  obtain ⟨r, r1, r2, r3⟩ := cHolds hS hb hN (t := 6) (by decide) h0 h1 h2
  have ha := accK_6 (b := b) (s := st.toNatClampNeg) (m := (q.toInt - st.toInt).toNat) (fun j hj => hl _ (by rw [znat]; omega) (by rw [znat]; omega))
  have hk : y = kwK 6 ↔ r = 1 := by
    rw [j64, hy, show (kwK 6).toInt = 1685221232 by decide +kernel, ha, r3]
    refine ⟨fun h => ⟨h.1, fun j hj => ?_⟩, fun h => ⟨h.1, ?_⟩⟩
    · have hj : j < 4 := hj
      obtain ⟨-, ⟨a0, a1, a2, a3⟩⟩ := h
      rcases (show j = 0 ∨ j = 1 ∨ j = 2 ∨ j = 3 by omega) with rfl | rfl | rfl | rfl
      · rw [zeq, a0]; decide
      · rw [zeq, a1]; decide
      · rw [zeq, a2]; decide
      · rw [zeq, a3]; decide
    · exact ⟨by rw [h.2 0 (by decide)]; decide, by rw [h.2 1 (by decide)]; decide, by rw [h.2 2 (by decide)]; decide, by rw [h.2 3 (by decide)]; decide⟩
  rw [r1]
  rcases r2 with rfl | rfl
  · rw [if_neg (fun h => absurd (hk.mp h) (by decide))]
  · rw [if_pos (hk.mpr rfl)]
theorem readWord44 {S : St} {b : Nat → Int32} {L st q : Int32} (hS : cTx S b L) (hb : Tb b L) {N : Nat} (hN : 100 ≤ N) (h0 : 0 ≤ st.toInt) (h1 : st.toInt ≤ q.toInt) (h2 : q.toInt ≤ L.toInt) (hl : ∀ j : Nat, st.toInt ≤ j → (j : Int) < q.toInt → 97 ≤ (b j).toInt ∧ (b j).toInt ≤ 122) {y : Int64} (hy : y.toInt = accW b st.toNatClampNeg (q.toInt - st.toInt).toNat) (es : gI S 3 2 = st) (eq : gI S 3 1 = q) : f_X6_readWord_44 N S = some (sI S 3 3 (kwC y)) := by
  unfold f_X6_readWord_44 kwC
  rw [es, eq, cH_0 hS hb hN h0 h1 h2 hl hy, bs, if10, cH_1 hS hb hN h0 h1 h2 hl hy, bs, if10, cH_2 hS hb hN h0 h1 h2 hl hy, bs, if10, cH_3 hS hb hN h0 h1 h2 hl hy, bs, if10, cH_4 hS hb hN h0 h1 h2 hl hy, bs, if10, cH_5 hS hb hN h0 h1 h2 hl hy, bs, if10, cH_6 hS hb hN h0 h1 h2 hl hy, bs, if10]
  simp only [bnd_eq]
  by_cases c0 : y = kwK 0
  · rw [if_pos c0, if_pos c0]
  rw [if_neg c0, if_neg c0]
  by_cases c1 : y = kwK 1
  · rw [if_pos c1, if_pos c1]
  rw [if_neg c1, if_neg c1]
  by_cases c2 : y = kwK 2
  · rw [if_pos c2, if_pos c2]
  rw [if_neg c2, if_neg c2]
  by_cases c3 : y = kwK 3
  · rw [if_pos c3, if_pos c3]
  rw [if_neg c3, if_neg c3]
  by_cases c4 : y = kwK 4
  · rw [if_pos c4, if_pos c4]
  rw [if_neg c4, if_neg c4]
  by_cases c5 : y = kwK 5
  · rw [if_pos c5, if_pos c5]
  rw [if_neg c5, if_neg c5]
  by_cases c6 : y = kwK 6
  · rw [if_pos c6, if_pos c6]
  rw [if_neg c6, if_neg c6]
