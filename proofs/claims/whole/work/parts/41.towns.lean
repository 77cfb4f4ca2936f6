/-! the greatest common divisor; towns -/
theorem lbmod {z : Int} (h1 : -9223372036854775808 ≤ z) (h2 : z < 9223372036854775808) : z.bmod 18446744073709551616 = z := by
  simp only [Int.bmod]; omega
theorem ladd {x y : Int64} (h1 : -9223372036854775808 ≤ x.toInt + y.toInt) (h2 : x.toInt + y.toInt < 9223372036854775808) : (x + y).toInt = x.toInt + y.toInt := by
  rw [Int64.toInt_add]; exact lbmod h1 h2
theorem lsub {x y : Int64} (h1 : -9223372036854775808 ≤ x.toInt - y.toInt) (h2 : x.toInt - y.toInt < 9223372036854775808) : (x - y).toInt = x.toInt - y.toInt := by
  rw [Int64.toInt_sub]; exact lbmod h1 h2
theorem lmul {x y : Int64} (h1 : -9223372036854775808 ≤ x.toInt * y.toInt) (h2 : x.toInt * y.toInt < 9223372036854775808) : (x * y).toInt = x.toInt * y.toInt := by
  rw [Int64.toInt_mul]; exact lbmod h1 h2
theorem leq (x y : Int64) : (x = y) = (x.toInt = y.toInt) := propext Int64.toInt_inj.symm
theorem llt (x y : Int64) : (x < y) = (x.toInt < y.toInt) := propext Int64.lt_iff_toInt_lt
theorem lle (x y : Int64) : (x ≤ y) = (x.toInt ≤ y.toInt) := propext Int64.le_iff_toInt_le
theorem l0 : (0 : Int64).toInt = 0 := by decide
theorem lmod {x y : Int64} (hx : 0 ≤ x.toInt) (hy : 0 < y.toInt) : (x - x / y * y).toInt = x.toInt % y.toInt := by
  have e1 : (x / y).toInt = x.toInt / y.toInt := lg_ldiv_nonneg hx hy
  have b1 : x.toInt / y.toInt * y.toInt ≤ x.toInt := Int.ediv_mul_le _ (by omega)
  have b0 : 0 ≤ x.toInt / y.toInt * y.toInt := Int.mul_nonneg (Int.ediv_nonneg hx (by omega)) (by omega)
  have hi := x.toInt_lt
  have e2 : (x / y * y).toInt = x.toInt / y.toInt * y.toInt := by rw [lmul (by rw [e1]; omega) (by rw [e1]; omega), e1]
  rw [lsub (by rw [e2]; omega) (by rw [e2]; omega), e2, Int.emod_def, Int.mul_comm y.toInt]
theorem nmod {x y : Int} (hx : 0 ≤ x) (hy : 0 < y) : (x % y).toNat = x.toNat % y.toNat := Int.toNat_emod hx (by omega)
theorem gstep (a b : Nat) : Nat.gcd a b = Nat.gcd b (a % b) := by
  rw [Nat.gcd_comm a b, Nat.gcd_rec b a, Nat.gcd_comm]
theorem gh {a b : Nat} (hb : 0 < b) (k : Nat) (h : a < 2 ^ (k + 1)) (hba : b ≤ a) : a % b < 2 ^ k := by
  have h1 : a % b < b := Nat.mod_lt a hb
  have h2 : b + a % b ≤ a := by
    have := Nat.mod_add_div a b
    have h3 : 1 ≤ a / b := Nat.div_pos hba hb
    have h4 : b * 1 ≤ b * (a / b) := Nat.mul_le_mul (Nat.le_refl _) h3
    omega
  rw [Nat.pow_succ] at h
  omega
theorem lcn {b : Int64} (hb : b ≠ 0) : ¬ lg_cmp b (0 : Int64) = 0 := fun q => hb ((lg_cmp_eq b 0).mp q)
theorem lcz : lg_cmp 0 (0 : Int64) = 0 := (lg_cmp_eq 0 0).mpr rfl
theorem mgcd_step (N f : Nat) (a b : Int64) (hb : b ≠ 0) : g_X10_gcd_6 N (f + 1) a b = g_X10_gcd_6 N f b (a - a / b * b) := by
  show s_X10_gcd_6 N _ a b = _
  unfold s_X10_gcd_6
  rw [if_neg (lcn hb), if_neg hb, bnd_eq]
theorem mgcd_end (N f : Nat) (a : Int64) : g_X10_gcd_6 N (f + 1) a 0 = some a := by
  show s_X10_gcd_6 N _ a 0 = _
  unfold s_X10_gcd_6
  rw [if_pos lcz]
theorem lne {b : Int64} (h : 0 < b.toInt) : b ≠ 0 := by
  intro e; rw [e, l0] at h; omega
theorem leq0 {b : Int64} (h0 : 0 ≤ b.toInt) (h : ¬ 0 < b.toInt) : b = 0 := by rw [leq, l0]; omega
theorem mgcd (N : Nat) : ∀ (k f : Nat) (a b : Int64), 0 ≤ a.toInt → 0 ≤ b.toInt → b.toInt.toNat < 2 ^ k → 2 * k < f → ∃ g, g_X10_gcd_6 N f a b = some g ∧ 0 ≤ g.toInt ∧ g.toInt.toNat = Nat.gcd a.toInt.toNat b.toInt.toNat := by
  intro k
  induction k with
  | zero =>
    intro f a b ha hb hk hf
    obtain ⟨f, rfl⟩ : ∃ f', f = f' + 1 := ⟨f - 1, by omega⟩
    have e : b = 0 := leq0 hb (by rw [Nat.pow_zero] at hk; omega)
    subst e
    exact ⟨a, mgcd_end N f a, ha, by rw [l0]; exact (Nat.gcd_zero_right _).symm⟩
  | succ k ih =>
    intro f a b ha hb hk hf
    obtain ⟨f, rfl⟩ : ∃ f', f = f' + 2 := ⟨f - 2, by omega⟩
    by_cases b0 : 0 < b.toInt
    · have r1 := lmod ha b0
      have p1 : 0 ≤ (a - a / b * b).toInt := by rw [r1]; exact Int.emod_nonneg _ (by omega)
      have q1 : (a - a / b * b).toInt < b.toInt := by rw [r1]; exact Int.emod_lt_of_pos _ b0
      have n1 : (a - a / b * b).toInt.toNat = a.toInt.toNat % b.toInt.toNat := by rw [r1, nmod ha b0]
      rw [show f + 2 = (f + 1) + 1 by omega, mgcd_step N (f + 1) a b (lne b0), gstep a.toInt.toNat, ← n1]
      generalize a - a / b * b = c at *
      by_cases c0 : 0 < c.toInt
      · have r2 := lmod hb c0
        have p2 : 0 ≤ (b - b / c * c).toInt := by rw [r2]; exact Int.emod_nonneg _ (by omega)
        have n2 : (b - b / c * c).toInt.toNat = b.toInt.toNat % c.toInt.toNat := by rw [r2, nmod hb c0]
        rw [mgcd_step N f b c (lne c0), gstep b.toInt.toNat, ← n2]
        refine ih f c _ p1 p2 ?_ (by omega)
        rw [n2]
        exact gh (by omega) k hk (by omega)
      · have e : c = 0 := leq0 p1 c0
        subst e
        exact ⟨b, mgcd_end N f b, hb, by rw [l0]; exact (Nat.gcd_zero_right _).symm⟩
    · have e : b = 0 := leq0 hb b0
      subst e
      exact ⟨a, mgcd_end N (f + 1) a, ha, by rw [l0]; exact (Nat.gcd_zero_right _).symm⟩
theorem cgcd_step (N : Nat) (a0 a2 : Int64) (a4 : Int32) (kk : Int64 → Option Int64) (f : Nat) (a b : Int64) (s : Int32) (hs : s.toInt < 100) (hb : b ≠ 0) : g_X9_inLeastTerms_9 N a0 a2 a4 kk (f + 1) a b s = g_X9_inLeastTerms_9 N a0 a2 a4 kk f b (a - a / b * b) (s + 1) := by
  show s_X9_inLeastTerms_9 N a0 a2 a4 kk _ a b s = _
  unfold s_X9_inLeastTerms_9
  rw [if_neg (show ¬ (100 : Int32) ≤ s by rw [zle, z100]; omega), if_neg (lcn hb), if_neg hb, bnd_eq]
theorem cgcd_end (N : Nat) (a0 a2 : Int64) (a4 : Int32) (kk : Int64 → Option Int64) (f : Nat) (a : Int64) (s : Int32) : g_X9_inLeastTerms_9 N a0 a2 a4 kk (f + 1) a 0 s = kk a := by
  show s_X9_inLeastTerms_9 N a0 a2 a4 kk _ a 0 s = _
  unfold s_X9_inLeastTerms_9
  rw [if_pos lcz]
  by_cases q : (100 : Int32) ≤ s
  · rw [if_pos q]
  · rw [if_neg q]
theorem cgcd (N : Nat) (a0 a2 : Int64) (a4 : Int32) (kk : Int64 → Option Int64) : ∀ (k f : Nat) (a b : Int64) (s : Int32), 0 ≤ a.toInt → 0 ≤ b.toInt → b.toInt.toNat < 2 ^ k → 2 * k < f → 0 ≤ s.toInt → s.toInt + 2 * k < 100 → ∃ g, g_X9_inLeastTerms_9 N a0 a2 a4 kk f a b s = kk g ∧ 0 ≤ g.toInt ∧ g.toInt.toNat = Nat.gcd a.toInt.toNat b.toInt.toNat := by
  intro k
  induction k with
  | zero =>
    intro f a b s ha hb hk hf hs hs2
    obtain ⟨f, rfl⟩ : ∃ f', f = f' + 1 := ⟨f - 1, by omega⟩
    have e : b = 0 := leq0 hb (by rw [Nat.pow_zero] at hk; omega)
    subst e
    exact ⟨a, cgcd_end N a0 a2 a4 kk f a s, ha, by rw [l0]; exact (Nat.gcd_zero_right _).symm⟩
  | succ k ih =>
    intro f a b s ha hb hk hf hs hs2
    obtain ⟨f, rfl⟩ : ∃ f', f = f' + 2 := ⟨f - 2, by omega⟩
    by_cases b0 : 0 < b.toInt
    · have e1 : (s + 1).toInt = s.toInt + 1 := zadd (by rw [z1]; omega) (by rw [z1]; omega)
      have e2 : (s + 1 + 1).toInt = s.toInt + 1 + 1 := by rw [zadd (by rw [z1]; omega) (by rw [z1]; omega), e1, z1]
      have r1 := lmod ha b0
      have p1 : 0 ≤ (a - a / b * b).toInt := by rw [r1]; exact Int.emod_nonneg _ (by omega)
      have q1 : (a - a / b * b).toInt < b.toInt := by rw [r1]; exact Int.emod_lt_of_pos _ b0
      have n1 : (a - a / b * b).toInt.toNat = a.toInt.toNat % b.toInt.toNat := by rw [r1, nmod ha b0]
      rw [show f + 2 = (f + 1) + 1 by omega, cgcd_step N a0 a2 a4 kk (f + 1) a b s (by omega) (lne b0), gstep a.toInt.toNat, ← n1]
      generalize a - a / b * b = c at *
      by_cases c0 : 0 < c.toInt
      · have r2 := lmod hb c0
        have p2 : 0 ≤ (b - b / c * c).toInt := by rw [r2]; exact Int.emod_nonneg _ (by omega)
        have n2 : (b - b / c * c).toInt.toNat = b.toInt.toNat % c.toInt.toNat := by rw [r2, nmod hb c0]
        rw [cgcd_step N a0 a2 a4 kk f b c (s + 1) (by omega) (lne c0), gstep b.toInt.toNat, ← n2]
        refine ih f c _ (s + 1 + 1) p1 p2 ?_ (by omega) (by omega) (by omega)
        rw [n2]
        exact gh (by omega) k hk (by omega)
      · have e : c = 0 := leq0 p1 c0
        subst e
        exact ⟨b, cgcd_end N a0 a2 a4 kk f b (s + 1), hb, by rw [l0]; exact (Nat.gcd_zero_right _).symm⟩
    · have e : b = 0 := leq0 hb b0
      subst e
      exact ⟨a, cgcd_end N a0 a2 a4 kk (f + 1) a s, ha, by rw [l0]; exact (Nat.gcd_zero_right _).symm⟩
/-- both reckon with the same divisor -/
theorem bothGcd {N : Nat} (hN : 1000 ≤ N) {up lo : Int64} (what : Int32) (h0 : 0 ≤ up.toInt) (h1 : up.toInt ≤ 1000000000000) (h2 : 0 < lo.toInt) (h3 : lo.toInt ≤ 1000000000000) : ∃ g, f_X10_gcd N up lo = some g ∧ 0 < g.toInt ∧ g.toInt ≤ lo.toInt ∧ f_X9_inLeastTerms N up lo what = some (if what = 0 then up / g else lo / g) := by
  unfold f_X10_gcd f_X9_inLeastTerms
  have k40 : (1000000000000 : Nat) < 2 ^ 40 := by decide
  obtain ⟨g, g1, g2, g3⟩ := mgcd N 40 N up lo h0 (by omega) (by omega) (by omega)
  obtain ⟨d, d1, d2, d3⟩ := cgcd N up lo what (fun y5 => f_X9_inLeastTerms_44 N up lo what y5) 40 N lo up 0 (by omega) h0 (by omega) (by omega) (by decide) (by decide)
  have e : d = g := by rw [leq]; rw [Nat.gcd_comm] at d3; omega
  subst e
  have gp : 0 < Nat.gcd up.toInt.toNat lo.toInt.toNat := Nat.gcd_pos_of_pos_right _ (by omega)
  have gl : Nat.gcd up.toInt.toNat lo.toInt.toNat ≤ lo.toInt.toNat := Nat.gcd_le_right _ (by omega)
  refine ⟨d, g1, by omega, by omega, ?_⟩
  rw [d1]
  unfold f_X9_inLeastTerms_44
  have dn : d ≠ 0 := lne (by omega)
  rw [if_neg (lcn dn), if_neg dn, if_neg dn]
  by_cases w : what = 0
  · rw [if_pos w, if_pos w]
  · rw [if_neg w, if_neg w]
theorem towns_in (N : Nat) (a1 a2 a3 a4 a5 : Int32) (km : St → Int32 → Int32 → Option (Int32 × St)) (T : St) (x7 : Int32) (h3 : 0 ≤ a3.toInt ∧ a3.toInt ≤ 999) (h4 : 0 ≤ a4.toInt ∧ a4.toInt ≤ 99) : ∀ (m f : Nat) (c x8 : Int32), (a3.toInt + a4.toInt + 1 - x8.toInt).toNat = m → -100 ≤ x8.toInt → x8.toInt ≤ a3.toInt + a4.toInt + 1 → 0 ≤ c.toInt → c.toInt + m ≤ 1000000 → m < f →
    ∃ c', g_X10_towns_82 N a1 a2 a3 a4 a5 km f T c x7 x8 = km T c' x7 ∧ c'.toInt = c.toInt + max 0 (min (a3.toInt + a4.toInt + 1 - x8.toInt) (a3.toInt + a4.toInt - x7.toInt)) := by
  have es : (a3 + a4).toInt = a3.toInt + a4.toInt := zadd (by omega) (by omega)
  intro m
  induction m with
  | zero =>
    intro f c x8 hm h5 h6 h7 h8 hf
    obtain ⟨f, rfl⟩ : ∃ f', f = f' + 1 := ⟨f - 1, by omega⟩
    refine ⟨c, ?_, by omega⟩
    show s_X10_towns_82 N a1 a2 a3 a4 a5 km _ T c x7 x8 = _
    unfold s_X10_towns_82
    rw [if_pos (by rw [zlt]; omega)]
  | succ m ih =>
    intro f c x8 hm h5 h6 h7 h8 hf
    obtain ⟨f, rfl⟩ : ∃ f', f = f' + 1 := ⟨f - 1, by omega⟩
    have e2 : (x8 + 1).toInt = x8.toInt + 1 := zadd (by rw [z1]; omega) (by rw [z1]; omega)
    have ec : (c + 1).toInt = c.toInt + 1 := zadd (by rw [z1]; omega) (by rw [z1]; omega)
    have un : g_X10_towns_82 N a1 a2 a3 a4 a5 km (f + 1) T c x7 x8 = s_X10_towns_82 N a1 a2 a3 a4 a5 km (g_X10_towns_82 N a1 a2 a3 a4 a5 km f) T c x7 x8 := rfl
    rw [un]
    unfold s_X10_towns_82
    rw [if_neg (show ¬ a3 + a4 < x8 by rw [zlt]; omega), bnd_eq, bnd_eq, Int32.add_zero]
    by_cases q : x8 ≤ x7
    · rw [if_pos q]
      rw [zle] at q
      obtain ⟨c', d1, d2⟩ := ih f c (x8 + 1) (by omega) (by omega) (by omega) h7 (by omega) (by omega)
      exact ⟨c', d1, by omega⟩
    · rw [if_neg q]
      rw [zle] at q
      obtain ⟨c', d1, d2⟩ := ih f (c + 1) (x8 + 1) (by omega) (by omega) (by omega) (by omega) (by omega) (by omega)
      exact ⟨c', d1, by omega⟩
theorem towns_out {N : Nat} (hN : 1000 ≤ N) (a1 a2 a3 a4 a5 : Int32) (kc : Int32 → Int32 → Option Int32) (km : St → Int32 → Option (Int32 × St)) (T : St) (t2 : Int32) (h1 : 0 ≤ a1.toInt ∧ a1.toInt ≤ 999) (h2 : 0 ≤ a2.toInt ∧ a2.toInt ≤ 99) (h3 : 0 ≤ a3.toInt ∧ a3.toInt ≤ 999) (h4 : 0 ≤ a4.toInt ∧ a4.toInt ≤ 99) (ht : t2.toInt = 2 * a4.toInt + 1) : ∀ (m f1 f2 : Nat) (w x : Int32), (a1.toInt + a2.toInt + 1 - x.toInt).toNat = m → -100 ≤ x.toInt → x.toInt ≤ a1.toInt + a2.toInt + 1 → 0 ≤ w.toInt → w.toInt + 200 * m ≤ 500000 → m < f1 → m < f2 →
    ∃ w', g_X9_towns_43 N a1 a2 a3 a4 a5 kc f1 t2 w x = kc t2 w' ∧ g_X10_towns_68 N a1 a2 a3 a4 a5 km f2 T w x = km T w' ∧ 0 ≤ w'.toInt ∧ w'.toInt ≤ 500000 := by
  have es : (a3 + a4).toInt = a3.toInt + a4.toInt := zadd (by omega) (by omega)
  have es1 : (a1 + a2).toInt = a1.toInt + a2.toInt := zadd (by omega) (by omega)
  have ed : (a3 - a4).toInt = a3.toInt - a4.toInt := zsub (by omega) (by omega)
  intro m
  induction m with
  | zero =>
    intro f1 f2 w x hm h5 h6 h7 h8 hf1 hf2
    obtain ⟨f1, rfl⟩ : ∃ f', f1 = f' + 1 := ⟨f1 - 1, by omega⟩
    obtain ⟨f2, rfl⟩ : ∃ f', f2 = f' + 1 := ⟨f2 - 1, by omega⟩
    refine ⟨w, ?_, ?_, by omega, by omega⟩
    · show s_X9_towns_43 N a1 a2 a3 a4 a5 kc _ t2 w x = _
      unfold s_X9_towns_43
      rw [if_pos (by rw [zlt]; omega)]
    · show s_X10_towns_68 N a1 a2 a3 a4 a5 km _ T w x = _
      unfold s_X10_towns_68
      rw [if_pos (by rw [zlt]; omega)]
  | succ m ih =>
    intro f1 f2 w x hm h5 h6 h7 h8 hf1 hf2
    obtain ⟨f1, rfl⟩ : ∃ f', f1 = f' + 1 := ⟨f1 - 1, by omega⟩
    obtain ⟨f2, rfl⟩ : ∃ f', f2 = f' + 1 := ⟨f2 - 1, by omega⟩
    have e2 : (x + 1).toInt = x.toInt + 1 := zadd (by rw [z1]; omega) (by rw [z1]; omega)
    have un1 : g_X9_towns_43 N a1 a2 a3 a4 a5 kc (f1 + 1) t2 w x = s_X9_towns_43 N a1 a2 a3 a4 a5 kc (g_X9_towns_43 N a1 a2 a3 a4 a5 kc f1) t2 w x := rfl
    have un2 : g_X10_towns_68 N a1 a2 a3 a4 a5 km (f2 + 1) T w x = s_X10_towns_68 N a1 a2 a3 a4 a5 km (g_X10_towns_68 N a1 a2 a3 a4 a5 km f2) T w x := rfl
    have eb : (a3 + a4 - x).toInt = a3.toInt + a4.toInt - x.toInt := by rw [zsub (by omega) (by omega), es]
    obtain ⟨c', d1, d2⟩ := towns_in N a1 a2 a3 a4 a5 (fun S21 y19 y20 => g_X10_towns_68 N a1 a2 a3 a4 a5 km f2 S21 y19 (y20 + (1 : Int32))) T x h3 h4 (a3.toInt + a4.toInt + 1 - (a3 - a4).toInt).toNat N w (a3 - a4) rfl (by omega) (by omega) h7 (by omega) (by omega)
    have key : w + (if (0 : Int32) < (if ((a3 + a4) - x) < t2 then ((a3 + a4) - x) else t2) then (if ((a3 + a4) - x) < t2 then ((a3 + a4) - x) else t2) else (0 : Int32)) = c' := by
      have ei : (if ((a3 + a4) - x) < t2 then ((a3 + a4) - x) else t2).toInt = min (2 * a4.toInt + 1) (a3.toInt + a4.toInt - x.toInt) := by
        by_cases q : (a3 + a4) - x < t2
        · rw [if_pos q, eb]; rw [zlt] at q; omega
        · rw [if_neg q, ht]; rw [zlt] at q; omega
      generalize (if ((a3 + a4) - x) < t2 then ((a3 + a4) - x) else t2) = mn at *
      rw [zeq, d2, ed]
      by_cases q : (0 : Int32) < mn
      · rw [if_pos q]
        rw [zlt, z0] at q
        rw [zadd (by omega) (by omega)]; omega
      · rw [if_neg q]
        rw [zlt, z0] at q
        rw [Int32.add_zero]; omega
    rw [un1, un2]
    unfold s_X9_towns_43 s_X10_towns_68
    rw [if_neg (show ¬ a1 + a2 < x by rw [zlt]; omega), if_neg (show ¬ a1 + a2 < x by rw [zlt]; omega), bnd_eq, bnd_eq, d1, key]
    exact ih f1 f2 c' (x + 1) (by omega) (by omega) (by omega) (by omega) (by omega) (by omega) (by omega)
theorem cIsC (a x : Int32) : f_X9_isClock a x = some (if (0 ≤ a.toInt ∧ a.toInt ≤ 999) ∧ (0 ≤ x.toInt ∧ x.toInt ≤ 99) then 1 else 0) := by
  unfold f_X9_isClock
  by_cases h1 : a < 0
  · rw [if_pos h1, if_neg]; rw [zlt, z0] at h1; omega
  · rw [if_neg h1]
    by_cases h2 : (999 : Int32) < a
    · rw [if_pos h2, if_neg]; rw [zlt, z999] at h2; omega
    · rw [if_neg h2]
      by_cases h3 : x < 0
      · rw [if_pos h3, if_neg]; rw [zlt, z0] at h3; omega
      · rw [if_neg h3]
        by_cases h4 : (99 : Int32) < x
        · rw [if_pos h4, if_neg]; rw [zlt, z99] at h4; omega
        · rw [if_neg h4, if_pos]
          rw [zlt, z0] at h1 h3; rw [zlt, z999] at h2; rw [zlt, z99] at h4; omega
theorem l32 {x : Int64} (h1 : -2147483648 ≤ x.toInt) (h2 : x.toInt < 2147483648) : x.toInt32.toInt = x.toInt := by
  rw [Int64.toInt_toInt32]; exact zbmod h1 h2
theorem i2l (x : Int32) : x.toInt64.toInt = x.toInt := Int32.toInt_toInt64 x
theorem nd32 {a : Int32} {g : Int64} (ha : 0 ≤ a.toInt) (hg : 0 < g.toInt) (hg2 : g.toInt < 2147483648) : (a.toInt64 / g).toInt32 = a / g.toInt32 := by
  have e1 : (a.toInt64 / g).toInt = a.toInt / g.toInt := by rw [lg_ldiv_nonneg (by rw [i2l]; exact ha) hg, i2l]
  have b0 : 0 ≤ a.toInt / g.toInt := Int.ediv_nonneg ha (by omega)
  have b1 : a.toInt / g.toInt ≤ a.toInt := Int.ediv_le_self _ ha
  have hi := zhi a
  have eg := l32 (x := g) (by omega) (by omega)
  rw [zeq, l32 (by omega) (by omega), e1, zdiv ha (by rw [eg]; exact hg), eg]
theorem p_towns {n N : Nat} (hN : 1000 ≤ N) {S T : St} (h : Inv n S T) (a x b y w : Int32) : ∃ (v : Int32) (S' T' : St), f_X9_towns N a x b y w = some v ∧ f_X10_towns N T a x b y w = some (v, T') ∧ S' = S ∧ Inv (n + 1) S' T' := by
  have hI := h.mono.thrown 0
  unfold f_X9_towns f_X10_towns
  rw [bnd_eq, bnd_eq, bnd_eq, cIsC, bs, if10, cIsC, bs, if10, cIsB, bs, if10, in_eq, bs, if10, in_eq, bs, if10, in_eq, bs, if10, in_eq, bs, if10, in_eq, bs, if10, z0, z1, z99, z999]
  by_cases h1 : 0 ≤ a.toInt ∧ a.toInt ≤ 999
  · by_cases h2 : 0 ≤ x.toInt ∧ x.toInt ≤ 99
    · by_cases h3 : 0 ≤ b.toInt ∧ b.toInt ≤ 999
      · by_cases h4 : 0 ≤ y.toInt ∧ y.toInt ≤ 99
        · by_cases h5 : isB w
          · rw [if_pos ⟨h1, h2⟩, if_pos ⟨h3, h4⟩, if_pos h5, if_pos h1, if_pos h2, if_pos h3, if_pos h4, if_pos h5]
            have ea : (a - x).toInt = a.toInt - x.toInt := zsub (by omega) (by omega)
            have e1 : ((2 : Int32) * y).toInt = 2 * y.toInt := zcmul z2 (by omega) (by omega)
            have e2 : ((2 : Int32) * y + 1).toInt = 2 * y.toInt + 1 := by rw [zadd (by rw [e1, z1]; omega) (by rw [e1, z1]; omega), e1, z1]
            have e3 : ((2 : Int32) * x).toInt = 2 * x.toInt := zcmul z2 (by omega) (by omega)
            have e4 : ((2 : Int32) * x + 1).toInt = 2 * x.toInt + 1 := by rw [zadd (by rw [e3, z1]; omega) (by rw [e3, z1]; omega), e3, z1]
            have bb : (2 * x.toInt + 1) * (2 * y.toInt + 1) ≤ 199 * 199 := Int.mul_le_mul (by omega) (by omega) (by omega) (by omega)
            have bp : 0 < (2 * x.toInt + 1) * (2 * y.toInt + 1) := Int.mul_pos (by omega) (by omega)
            have e5 : ((((2 : Int32) * x) + (1 : Int32)) * (((2 : Int32) * y) + (1 : Int32))).toInt = (2 * x.toInt + 1) * (2 * y.toInt + 1) := by rw [zmul (by rw [e4, e2]; omega) (by rw [e4, e2]; omega), e4, e2]
            obtain ⟨c, d1, d2, d3, d4⟩ := towns_out hN a x b y w (fun y11 y12 => (f_X9_inLeastTerms N (y12.toInt64) (((((2 : Int32) * x) + (1 : Int32)) * y11).toInt64) w).bind fun r13 => some (r13.toInt32)) (fun S23 y22 => bnd ((((2 : Int32) * x) + (1 : Int32)) * (((2 : Int32) * y) + (1 : Int32))) fun b24 => (f_X10_gcd N (y22.toInt64) (b24.toInt64)).bind fun r25 => bnd (r25.toInt32) fun b26 => if w = 0 then (if b26 = 0 then none else some (y22 / b26, S23)) else (if b26 = 0 then none else some (b24 / b26, S23))) (sI T 0 0 0) ((2 : Int32) * y + 1) h1 h2 h3 h4 e2 (a.toInt + x.toInt + 1 - (a - x).toInt).toNat N N 0 (a - x) rfl (by omega) (by omega) (by decide) (by rw [z0]; omega) (by omega) (by omega)
            rw [bnd_eq, d1, d2, bnd_eq]
            generalize hlo : (((2 : Int32) * x) + (1 : Int32)) * (((2 : Int32) * y) + (1 : Int32)) = lo at *
            obtain ⟨g, g1, g2, g3, g4⟩ := bothGcd hN (up := c.toInt64) (lo := lo.toInt64) w (by rw [i2l]; omega) (by rw [i2l]; omega) (by rw [i2l]; omega) (by rw [i2l]; omega)
            rw [g1, g4, bs, bs, bnd_eq]
            rw [i2l] at g3
            have gz : g.toInt32 ≠ 0 := by
              rw [Ne, zeq, l32 (by omega) (by omega), z0]; omega
            rw [if_neg gz, if_neg gz]
            by_cases w0 : w = 0
            · rw [if_pos w0, if_pos w0, nd32 d3 g2 (by omega)]
              exact ⟨_, S, _, rfl, rfl, rfl, hI⟩
            · rw [if_neg w0, if_neg w0, nd32 (by omega) g2 (by omega)]
              exact ⟨_, S, _, rfl, rfl, rfl, hI⟩
          · rw [if_neg h5, if_neg h5]
            exact ⟨-1, S, _, by simp only [ite_self], by simp only [ite_self], rfl, hI⟩
        · rw [if_neg h4, if_neg (show ¬ ((0 ≤ b.toInt ∧ b.toInt ≤ 999) ∧ 0 ≤ y.toInt ∧ y.toInt ≤ 99) from fun q => h4 q.2)]
          exact ⟨-1, S, _, by simp only [ite_self], by simp only [ite_self], rfl, hI⟩
      · rw [if_neg h3, if_neg (show ¬ ((0 ≤ b.toInt ∧ b.toInt ≤ 999) ∧ 0 ≤ y.toInt ∧ y.toInt ≤ 99) from fun q => h3 q.1)]
        exact ⟨-1, S, _, by simp only [ite_self], by simp only [ite_self], rfl, hI⟩
    · rw [if_neg h2, if_neg (show ¬ ((0 ≤ a.toInt ∧ a.toInt ≤ 999) ∧ 0 ≤ x.toInt ∧ x.toInt ≤ 99) from fun q => h2 q.2)]
      exact ⟨-1, S, _, rfl, by simp only [ite_self], rfl, hI⟩
  · rw [if_neg h1, if_neg (show ¬ ((0 ≤ a.toInt ∧ a.toInt ≤ 999) ∧ 0 ≤ x.toInt ∧ x.toInt ≤ 99) from fun q => h1 q.1)]
    exact ⟨-1, S, _, rfl, rfl, rfl, hI⟩
