/-! pure rows: Int32 as Int, the abstract heap's rows, the invariant between class and reference -/
theorem zlt (x y : Int32) : (x < y) = (x.toInt < y.toInt) := propext Int32.lt_iff_toInt_lt
theorem zle (x y : Int32) : (x ≤ y) = (x.toInt ≤ y.toInt) := propext Int32.le_iff_toInt_le
theorem zeq (x y : Int32) : (x = y) = (x.toInt = y.toInt) := propext Int32.toInt_inj.symm
theorem zbmod {z : Int} (h1 : -2147483648 ≤ z) (h2 : z < 2147483648) : z.bmod 4294967296 = z := by
  simp only [Int.bmod]; omega
theorem zadd {x y : Int32} (h1 : -2147483648 ≤ x.toInt + y.toInt) (h2 : x.toInt + y.toInt < 2147483648) : (x + y).toInt = x.toInt + y.toInt := by
  rw [Int32.toInt_add]; exact zbmod h1 h2
theorem zsub {x y : Int32} (h1 : -2147483648 ≤ x.toInt - y.toInt) (h2 : x.toInt - y.toInt < 2147483648) : (x - y).toInt = x.toInt - y.toInt := by
  rw [Int32.toInt_sub]; exact zbmod h1 h2
theorem zmul {x y : Int32} (h1 : -2147483648 ≤ x.toInt * y.toInt) (h2 : x.toInt * y.toInt < 2147483648) : (x * y).toInt = x.toInt * y.toInt := by
  rw [Int32.toInt_mul]; exact zbmod h1 h2
theorem zdiv {x y : Int32} (hx : 0 ≤ x.toInt) (hy : 0 < y.toInt) : (x / y).toInt = x.toInt / y.toInt := by
  have h : y ≠ -1 := by
    intro h; subst h; exact absurd hy (by decide)
  rw [Int32.toInt_div_of_ne_right _ _ h, Int.tdiv_eq_ediv_of_nonneg hx]
theorem znat (x : Int32) : x.toNatClampNeg = x.toInt.toNat := rfl
theorem zlo (x : Int32) : -2147483648 ≤ x.toInt := x.le_toInt
theorem zhi (x : Int32) : x.toInt < 2147483648 := x.toInt_lt
theorem bnd_eq {α β : Type} (e : α) (f : α → β) : bnd e f = f e := rfl
theorem bs {α β : Type} (a : α) (f : α → Option β) : (some a).bind f = f a := rfl
theorem gI_sI (S : St) (c k : Nat) (v : Int32) (c' k' : Nat) : gI (sI S c k v) c' k' = if c' = c then (if k' = k then v else gI S c k') else gI S c' k' := by
  by_cases h : c' = c
  · subst h; simp [gI, sI, va_up]
  · simp [gI, sI, va_up, h]
theorem gI_sA (S : St) (c : Nat) (f : Nat → Int32) : gI (sA S c f) = gI S := rfl
theorem gI_sJ (S : St) (c k : Nat) (v : Int64) : gI (sJ S c k v) = gI S := rfl
theorem gI_sB (S : St) (c : Nat) (f : Nat → Int64) : gI (sB S c f) = gI S := rfl
theorem gI_sCo (S : St) (b : Bool) : gI (sCo S b) = gI S := rfl
theorem gI_sSp (S : St) (b : Bool) : gI (sSp S b) = gI S := rfl
theorem gA_sA (S : St) (c : Nat) (f : Nat → Int32) (c' : Nat) : gA (sA S c f) c' = if c' = c then f else gA S c' := by
  by_cases h : c' = c
  · subst h; simp [gA, sA, va_up]
  · simp [gA, sA, va_up, h]
theorem gA_sI (S : St) (c k : Nat) (v : Int32) : gA (sI S c k v) = gA S := rfl
theorem gA_sJ (S : St) (c k : Nat) (v : Int64) : gA (sJ S c k v) = gA S := rfl
theorem gA_sB (S : St) (c : Nat) (f : Nat → Int64) : gA (sB S c f) = gA S := rfl
theorem gA_sCo (S : St) (b : Bool) : gA (sCo S b) = gA S := rfl
theorem gA_sSp (S : St) (b : Bool) : gA (sSp S b) = gA S := rfl
theorem gJ_sJ (S : St) (c k : Nat) (v : Int64) (c' k' : Nat) : gJ (sJ S c k v) c' k' = if c' = c then (if k' = k then v else gJ S c k') else gJ S c' k' := by
  by_cases h : c' = c
  · subst h; simp [gJ, sJ, va_up]
  · simp [gJ, sJ, va_up, h]
theorem gJ_sI (S : St) (c k : Nat) (v : Int32) : gJ (sI S c k v) = gJ S := rfl
theorem gJ_sA (S : St) (c : Nat) (f : Nat → Int32) : gJ (sA S c f) = gJ S := rfl
theorem gJ_sB (S : St) (c : Nat) (f : Nat → Int64) : gJ (sB S c f) = gJ S := rfl
theorem gJ_sCo (S : St) (b : Bool) : gJ (sCo S b) = gJ S := rfl
theorem gJ_sSp (S : St) (b : Bool) : gJ (sSp S b) = gJ S := rfl
theorem gB_sB (S : St) (c : Nat) (f : Nat → Int64) (c' : Nat) : gB (sB S c f) c' = if c' = c then f else gB S c' := by
  by_cases h : c' = c
  · subst h; simp [gB, sB, va_up]
  · simp [gB, sB, va_up, h]
theorem gB_sI (S : St) (c k : Nat) (v : Int32) : gB (sI S c k v) = gB S := rfl
theorem gB_sA (S : St) (c : Nat) (f : Nat → Int32) : gB (sA S c f) = gB S := rfl
theorem gB_sJ (S : St) (c k : Nat) (v : Int64) : gB (sJ S c k v) = gB S := rfl
theorem gB_sCo (S : St) (b : Bool) : gB (sCo S b) = gB S := rfl
theorem gB_sSp (S : St) (b : Bool) : gB (sSp S b) = gB S := rfl
theorem gCo_sI (S : St) (c k : Nat) (v : Int32) : gCo (sI S c k v) = gCo S := rfl
theorem gCo_sA (S : St) (c : Nat) (f : Nat → Int32) : gCo (sA S c f) = gCo S := rfl
theorem gCo_sJ (S : St) (c k : Nat) (v : Int64) : gCo (sJ S c k v) = gCo S := rfl
theorem gCo_sB (S : St) (c : Nat) (f : Nat → Int64) : gCo (sB S c f) = gCo S := rfl
theorem gCo_sCo (S : St) (b : Bool) : gCo (sCo S b) = b := rfl
theorem gCo_sSp (S : St) (b : Bool) : gCo (sSp S b) = gCo S := rfl
theorem gSp_sI (S : St) (c k : Nat) (v : Int32) : gSp (sI S c k v) = gSp S := rfl
theorem gSp_sA (S : St) (c : Nat) (f : Nat → Int32) : gSp (sA S c f) = gSp S := rfl
theorem gSp_sJ (S : St) (c k : Nat) (v : Int64) : gSp (sJ S c k v) = gSp S := rfl
theorem gSp_sB (S : St) (c : Nat) (f : Nat → Int64) : gSp (sB S c f) = gSp S := rfl
theorem gSp_sCo (S : St) (b : Bool) : gSp (sCo S b) = gSp S := rfl
theorem gSp_sSp (S : St) (b : Bool) : gSp (sSp S b) = b := rfl
/-- the text -/
def IvT (S T : St) : Prop := gI S 1 1 = gI T 0 3 ∧ 0 ≤ (gI S 1 1).toInt ∧ (gI S 1 1).toInt ≤ 300 ∧ ∀ k : Nat, (k : Int) < (gI S 1 1).toInt → gA S 2 k = gA T 1 k ∧ 0 ≤ (gA S 2 k).toInt ∧ (gA S 2 k).toInt ≤ 255
/-- a lane at base b of the class, as the reference has it -/
def IvLb (S T : St) (b : Nat) : Prop :=
  (gI S b 4 = gI T 0 14 ∧ gI S b 5 = gI T 0 15 ∧ gI S b 6 = gA T 6 4 ∧ gI S b 7 = gA T 6 5 ∧ gI S b 8 = gA T 6 6) ∧
  (4 ≤ (gI T 0 14).toInt ∧ (gI T 0 14).toInt ≤ 24 ∧ 0 ≤ (gI T 0 15).toInt ∧ (gI T 0 15).toInt ≤ 3 ∧ 1 ≤ (gA T 6 4).toInt ∧ (gA T 6 4).toInt ≤ 3 ∧ 1 ≤ (gA T 6 5).toInt ∧ (gA T 6 5).toInt ≤ 4 ∧ 1 ≤ (gA T 6 6).toInt ∧ (gA T 6 6).toInt ≤ 9) ∧
  (∀ k : Nat, k < 24 → gA S (b + 1) k = gA T 2 k ∧ 0 ≤ (gA T 2 k).toInt ∧ (gA T 2 k).toInt ≤ 3) ∧
  (∀ k : Nat, k < 24 → gA S (b + 2) k = gA T 3 k ∧ (gA T 3 k = 0 ∨ gA T 3 k = 1)) ∧
  (∀ k : Nat, (k : Int) < (gI T 0 15).toInt → gA S (b + 3) k = gA T 4 k ∧ 1 ≤ (gA T 4 k).toInt ∧ (gA T 4 k).toInt ≤ 4) ∧
  (∀ k : Nat, (k : Int) < (gI T 0 15).toInt → gA S (b + 4) k = gA T 5 k ∧ 0 ≤ (gA T 5 k).toInt ∧ (gA T 5 k).toInt ≤ 9)
def IvL (S T : St) : Prop := gSp S = !(gCo S) ∧ IvLb S T (33 + 5 * (gCo S).toNat)
/-- three runners: yard, beats, good ones; in a row of the reference from place o on -/
def RR (n : Nat) (yd : Int) (a b c s : Nat → Int32) (o : Nat) : Prop := ∀ r : Nat, r < 3 → a r = s (o + 3 * r) ∧ b r = s (o + 3 * r + 1) ∧ c r = s (o + 3 * r + 2) ∧ 0 ≤ (a r).toInt ∧ (a r).toInt ≤ yd ∧ 0 ≤ (b r).toInt ∧ (b r).toInt ≤ 20 * n ∧ 0 ≤ (c r).toInt ∧ (c r).toInt ≤ n
def IvR (n : Nat) (S T : St) : Prop := RR n (gI T 0 14).toInt (gA S 5) (gA S 6) (gA S 7) (gA T 7) 0 ∧ gI S 4 3 = gA T 7 9
def IvI (n : Nat) (S T : St) : Prop := ∀ j : Nat, j < 2 → gI S (8 + 5 * j) 1 = gA T 9 j ∧ (gA T 9 j = 0 ∨ gA T 9 j = 1) ∧ (gA T 9 j = 1 → RR n (gI T 0 14).toInt (gA S (10 + 5 * j)) (gA S (11 + 5 * j)) (gA S (12 + 5 * j)) (gA T 8) (10 * j) ∧ gI S (9 + 5 * j) 3 = gA T 8 (10 * j + 9))
def IvA (n : Nat) (S T : St) : Prop := gI S 18 4 = gI T 0 22 ∧ 0 ≤ (gI T 0 22).toInt ∧ (gI T 0 22).toInt ≤ 10 ∧ ∀ k : Nat, (k : Int) < (gI T 0 22).toInt →
  gA S 19 k = gA T 10 (4 * k) ∧ gA S 20 k = gA T 10 (4 * k + 1) ∧ gA S 21 k = gA T 10 (4 * k + 2) ∧ gA S 22 k = gA T 10 (4 * k + 3) ∧ 0 ≤ (gA S 19 k).toInt ∧ (gA S 19 k).toInt ≤ 2 ∧ 0 ≤ (gA S 20 k).toInt ∧ (gA S 20 k).toInt ≤ (gI T 0 14).toInt ∧ 0 ≤ (gA S 21 k).toInt ∧ (gA S 21 k).toInt ≤ 20 * n ∧ 0 ≤ (gA S 22 k).toInt ∧ (gA S 22 k).toInt ≤ n
def IvP (S T : St) : Prop := gI S 23 2 = gI T 0 24 ∧ 0 ≤ (gI T 0 24).toInt ∧ (gI T 0 24).toInt ≤ 6 ∧ ∀ k : Nat, (k : Int) < (gI T 0 24).toInt →
  gA S 24 k = gA T 11 (2 * k) ∧ gA S 25 k = gA T 11 (2 * k + 1) ∧ 1 ≤ (gA S 24 k).toInt ∧ (gA S 24 k).toInt ≤ 8 ∧ 0 ≤ (gA S 25 k).toInt ∧ (gA S 25 k).toInt ≤ 3
/-- behind n calls -/
def Inv (n : Nat) (S T : St) : Prop := IvT S T ∧ IvL S T ∧ IvR n S T ∧ IvI n S T ∧ IvA n S T ∧ IvP S T ∧ gJ S 0 11 = gJ T 0 1
theorem RR.mono {n : Nat} {yd : Int} {a b c s : Nat → Int32} {o : Nat} (h : RR n yd a b c s o) : RR (n + 1) yd a b c s o := by
  intro r hr
  obtain ⟨h1, h2, h3, h4, h5, h6, h7, h8, h9⟩ := h r hr
  exact ⟨h1, h2, h3, h4, h5, h6, by omega, h8, by omega⟩
theorem Inv.mono {n : Nat} {S T : St} (h : Inv n S T) : Inv (n + 1) S T := by
  obtain ⟨h1, h2, h3, h4, h5, h6, h7⟩ := h
  refine ⟨h1, h2, ⟨h3.1.mono, h3.2⟩, fun j hj => ⟨(h4 j hj).1, (h4 j hj).2.1, fun e => ⟨((h4 j hj).2.2 e).1.mono, ((h4 j hj).2.2 e).2⟩⟩, ⟨h5.1, h5.2.1, h5.2.2.1, fun k hk => ?_⟩, h6, h7⟩
  obtain ⟨e1, e2, e3, e4, e5, e6, e7, e8, e9, e10, e11, e12⟩ := h5.2.2.2 k hk
  exact ⟨e1, e2, e3, e4, e5, e6, e7, e8, e9, by omega, e11, by omega⟩
/-- what a step must show -/
def Step (n : Nat) (r : Option (Int32 × St)) (t : Option (Int32 × St)) : Prop := ∃ (v : Int32) (S' T' : St), r = some (v, S') ∧ t = some (v, T') ∧ Inv (n + 1) S' T'
theorem Inv.thrown {n : Nat} {S T : St} (h : Inv n S T) (v : Int32) : Inv n S (sI T 0 0 v) := by
  obtain ⟨h1, h2, h3, h4, h5, h6, h7⟩ := h
  exact ⟨h1, h2, h3, h4, h5, h6, h7⟩
theorem RR.congr {n : Nat} {yd : Int} {a b c s a' b' c' s' : Nat → Int32} {o : Nat} (h : RR n yd a b c s o) (ha : ∀ r, r < 3 → a' r = a r) (hb : ∀ r, r < 3 → b' r = b r) (hc : ∀ r, r < 3 → c' r = c r) (hs : ∀ r, r < 9 → s' (o + r) = s (o + r)) : RR n yd a' b' c' s' o := by
  intro r hr
  obtain ⟨h1, h2, h3, h4⟩ := h r hr
  rw [ha r hr, hb r hr, hc r hr, hs (3 * r) (by omega), Nat.add_assoc o, hs (3 * r + 1) (by omega), Nat.add_assoc o, hs (3 * r + 2) (by omega)]
  exact ⟨h1, by rw [h2, Nat.add_assoc], by rw [h3, Nat.add_assoc], h4⟩
theorem IvT.congr {S T S1 T1 : St} (h : IvT S T) (h1 : gI S1 1 1 = gI S 1 1) (h2 : gA S1 2 = gA S 2) (h3 : gI T1 0 3 = gI T 0 3) (h4 : gA T1 1 = gA T 1) : IvT S1 T1 := by
  unfold IvT; rw [h1, h2, h3, h4]; exact h
theorem IvL.congr {S T S1 T1 : St} (h : IvL S T) (h1 : gCo S1 = gCo S) (h2 : gSp S1 = gSp S) (h3 : ∀ c k, 33 ≤ c → gI S1 c k = gI S c k) (h4 : ∀ c, 33 ≤ c → gA S1 c = gA S c) (h5 : gI T1 0 14 = gI T 0 14) (h6 : gI T1 0 15 = gI T 0 15) (h7 : ∀ c, 2 ≤ c → c ≤ 6 → gA T1 c = gA T c) : IvL S1 T1 := by
  unfold IvL IvLb
  rw [h1, h2, h5, h6, h7 2 (by omega) (by omega), h7 3 (by omega) (by omega), h7 4 (by omega) (by omega), h7 5 (by omega) (by omega), h7 6 (by omega) (by omega), h3 _ _ (by omega), h3 _ _ (by omega), h3 _ _ (by omega), h3 _ _ (by omega), h3 _ _ (by omega), h4 _ (by omega), h4 _ (by omega), h4 _ (by omega), h4 _ (by omega)]
  exact h
theorem IvR.congr {n : Nat} {S T S1 T1 : St} (h : IvR n S T) (h1 : gA S1 5 = gA S 5) (h2 : gA S1 6 = gA S 6) (h3 : gA S1 7 = gA S 7) (h4 : gI S1 4 3 = gI S 4 3) (h5 : gA T1 7 = gA T 7) (h6 : gI T1 0 14 = gI T 0 14) : IvR n S1 T1 := by
  unfold IvR; rw [h1, h2, h3, h4, h5, h6]; exact h
theorem IvI.congr {n : Nat} {S T S1 T1 : St} (h : IvI n S T) (h1 : ∀ c, 8 ≤ c → c ≤ 17 → gA S1 c = gA S c) (h2 : ∀ c k, 8 ≤ c → c ≤ 17 → gI S1 c k = gI S c k) (h3 : gA T1 8 = gA T 8) (h4 : gA T1 9 = gA T 9) (h5 : gI T1 0 14 = gI T 0 14) : IvI n S1 T1 := by
  intro j hj
  rw [h3, h4, h5, h2 _ _ (by omega) (by omega), h2 _ _ (by omega) (by omega), h1 _ (by omega) (by omega), h1 _ (by omega) (by omega), h1 _ (by omega) (by omega)]
  exact h j hj
theorem IvA.congr {n : Nat} {S T S1 T1 : St} (h : IvA n S T) (h1 : gI S1 18 4 = gI S 18 4) (h2 : ∀ c, 19 ≤ c → c ≤ 22 → gA S1 c = gA S c) (h3 : gI T1 0 22 = gI T 0 22) (h4 : gA T1 10 = gA T 10) (h5 : gI T1 0 14 = gI T 0 14) : IvA n S1 T1 := by
  unfold IvA
  rw [h1, h3, h4, h5, h2 19 (by omega) (by omega), h2 20 (by omega) (by omega), h2 21 (by omega) (by omega), h2 22 (by omega) (by omega)]
  exact h
theorem IvP.congr {S T S1 T1 : St} (h : IvP S T) (h1 : gI S1 23 2 = gI S 23 2) (h2 : gA S1 24 = gA S 24) (h3 : gA S1 25 = gA S 25) (h4 : gI T1 0 24 = gI T 0 24) (h5 : gA T1 11 = gA T 11) : IvP S1 T1 := by
  unfold IvP; rw [h1, h2, h3, h4, h5]; exact h
theorem gI_off {S : St} {c k : Nat} {v : Int32} {c' k' : Nat} (h : ¬ (c' = c ∧ k' = k)) : gI (sI S c k v) c' k' = gI S c' k' := by
  rw [gI_sI]
  by_cases h1 : c' = c
  · rw [if_pos h1, if_neg (fun z => h ⟨h1, z⟩), h1]
  · rw [if_neg h1]
theorem gA_off {S : St} {c : Nat} {f : Nat → Int32} {c' : Nat} (h : c' ≠ c) : gA (sA S c f) c' = gA S c' := by
  rw [gA_sA, if_neg h]
theorem p_clear {n : Nat} {S T : St} (h : Inv n S T) : Step n (f_X9_clear S) (f_X10_clear T) := by
  have h := h.mono
  refine ⟨gI S 1 1, sI S 1 1 0, sI (sI T 0 0 0) 0 3 0, rfl, ?_, ?_⟩
  · show some (gI T 0 3, _) = _
    rw [h.1.1]
  · obtain ⟨h1, h2, h3, h4, h5, h6, h7⟩ := h
    have z : (gI (sI S 1 1 0) 1 1).toInt = 0 := by show (0 : Int32).toInt = 0; decide
    exact ⟨⟨rfl, by omega, by omega, fun k hk => by omega⟩, h2.congr rfl rfl (fun c k hc => gI_off (by omega)) (fun _ _ => rfl) rfl rfl (fun _ _ _ => rfl), h3, h4.congr (fun _ _ _ => rfl) (fun c k _ _ => gI_off (by omega)) rfl rfl rfl, h5, h6, h7⟩
theorem p_lot {n : Nat} {S T : St} (h : Inv n S T) (a : Int32) : Step n (f_X9_lot S a) (f_X10_lot T a) := by
  have h := h.mono
  obtain ⟨h1, h2, h3, h4, h5, h6, h7⟩ := h
  have c9 : (9 : Int32).toNatClampNeg = 9 := by decide
  refine ⟨gI S 4 3, sI S 4 3 a, sA (sI T 0 0 0) 7 (upd (gA T 7) 9 a), rfl, ?_, ?_⟩
  · unfold f_X10_lot
    rw [bnd_eq, if_neg (by decide), bnd_eq, if_neg (by decide), bnd_eq, c9, h3.2]; rfl
  · refine ⟨h1, h2.congr rfl rfl (fun c k hc => gI_off (by omega)) (fun _ _ => rfl) rfl rfl (fun c hc hc2 => gA_off (by omega)), ⟨?_, ?_⟩, h4.congr (fun _ _ _ => rfl) (fun c k _ _ => gI_off (by omega)) rfl rfl rfl, h5, h6, h7⟩
    · refine h3.1.congr (fun _ _ => rfl) (fun _ _ => rfl) (fun _ _ => rfl) (fun r hr => ?_)
      show upd (gA T 7) 9 a (0 + r) = _
      simp only [upd]; rw [if_neg (by omega)]
    · rfl
