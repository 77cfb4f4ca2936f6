/-! type -/
theorem and255 (x : Int32) : 0 ≤ (x &&& 255).toInt ∧ (x &&& 255).toInt ≤ 255 := by
  have h : (x &&& 255).toBitVec.toNat ≤ 255 := by
    show (x.toBitVec &&& 255#32).toNat ≤ 255
    rw [BitVec.toNat_and]; exact Nat.and_le_right
  have e : (x &&& 255).toInt = (x &&& 255).toBitVec.toNat := BitVec.toInt_eq_toNat_of_lt (by omega)
  omega
theorem byte_bv (b : BitVec 64) (s : Nat) (hs : s ≤ 56) : (BitVec.signExtend 32 (b >>> s)) &&& 255#32 = BitVec.signExtend 32 ((b.sshiftRight s) &&& 255#64) := by
  apply BitVec.eq_of_getLsbD_eq
  intro i hi
  rw [BitVec.getLsbD_and, BitVec.getLsbD_signExtend, BitVec.getLsbD_signExtend, BitVec.getLsbD_ushiftRight, BitVec.getLsbD_and, BitVec.getLsbD_sshiftRight, if_pos (by omega), if_pos (by omega)]
  by_cases h : i < 8
  · have e : (255#32).getLsbD i = true := by
      have : ∀ j : Fin 8, (255#32).getLsbD j.val = true := by decide
      exact this ⟨i, h⟩
    have e' : (255#64).getLsbD i = true := by
      have : ∀ j : Fin 8, (255#64).getLsbD j.val = true := by decide
      exact this ⟨i, h⟩
    rw [e, e', if_pos (by omega), decide_eq_true hi, decide_eq_false (show ¬ 64 ≤ i by omega)]
    simp
  · have e : (255#32).getLsbD i = false := by
      have : ∀ j : Fin 32, 8 ≤ j.val → (255#32).getLsbD j.val = false := by decide
      exact this ⟨i, hi⟩ (by show 8 ≤ i; omega)
    have e' : (255#64).getLsbD i = false := by
      have : ∀ j : Fin 32, 8 ≤ j.val → (255#64).getLsbD j.val = false := by decide
      exact this ⟨i, hi⟩ (by show 8 ≤ i; omega)
    rw [e, e', Bool.and_false, Bool.and_false, Bool.and_false]
theorem byte_eq (a : Int64) (x : Int32) (h0 : 0 ≤ x.toInt) (h7 : x.toInt ≤ 7) : (((a.toUInt64 >>> (((8 : Int32) * x).toInt64.toUInt64 &&& 63)).toInt64).toInt32) &&& (255 : Int32) = (((a >>> (((8 : Int32) * x).toInt64 &&& 63)) &&& (255 : Int64)).toInt32) := by
  rcases (show x.toInt = 0 ∨ x.toInt = 1 ∨ x.toInt = 2 ∨ x.toInt = 3 ∨ x.toInt = 4 ∨ x.toInt = 5 ∨ x.toInt = 6 ∨ x.toInt = 7 by omega) with q | q | q | q | q | q | q | q
  · have e : x = 0 := by rw [zeq, q, z0]
    subst e; exact Int32.toBitVec.inj (byte_bv a.toBitVec 0 (by decide))
  · have e : x = 1 := by rw [zeq, q, z1]
    subst e; exact Int32.toBitVec.inj (byte_bv a.toBitVec 8 (by decide))
  · have e : x = 2 := by rw [zeq, q, z2]
    subst e; exact Int32.toBitVec.inj (byte_bv a.toBitVec 16 (by decide))
  · have e : x = 3 := by rw [zeq, q, z3]
    subst e; exact Int32.toBitVec.inj (byte_bv a.toBitVec 24 (by decide))
  · have e : x = 4 := by rw [zeq, q, z4]
    subst e; exact Int32.toBitVec.inj (byte_bv a.toBitVec 32 (by decide))
  · have e : x = 5 := by rw [zeq, q, z5]
    subst e; exact Int32.toBitVec.inj (byte_bv a.toBitVec 40 (by decide))
  · have e : x = 6 := by rw [zeq, q, z6]
    subst e; exact Int32.toBitVec.inj (byte_bv a.toBitVec 48 (by decide))
  · have e : x = 7 := by rw [zeq, q, z7]
    subst e; exact Int32.toBitVec.inj (byte_bv a.toBitVec 56 (by decide))
theorem type_loop (N : Nat) (a : Int64) : ∀ (m f1 f2 : Nat) (S T : St) (x : Int32), (x.toInt + 1).toNat = m → -1 ≤ x.toInt → x.toInt ≤ 7 → IvT S T → (gI S 1 1).toInt + (x.toInt + 1) ≤ 300 → m < f1 → m < f2 →
    ∃ v S' T', g_X9_type_36 N a f1 S x = some (v, S') ∧ g_X10_type_37 N a f2 T x = some (v, T') ∧ IvT S' T' ∧ Sm S S' (fun c k => c = 1 ∧ k = 1) (fun c => c = 2) ∧ Sm T T' (fun c k => c = 0 ∧ k = 3) (fun c => c = 1) := by
  intro m
  induction m with
  | zero =>
    intro f1 f2 S T x hm h1 h2 hT hl c1 c2
    obtain ⟨f1, rfl⟩ : ∃ f', f1 = f' + 1 := ⟨f1 - 1, by omega⟩
    obtain ⟨f2, rfl⟩ : ∃ f', f2 = f' + 1 := ⟨f2 - 1, by omega⟩
    have hx : x < 0 := by rw [zlt, z0]; omega
    refine ⟨gI S 1 1, S, T, ?_, ?_, hT, Sm.rf _ _ _, Sm.rf _ _ _⟩
    · show s_X9_type_36 N a _ S x = _
      unfold s_X9_type_36
      rw [if_pos hx]
    · show s_X10_type_37 N a _ T x = _
      unfold s_X10_type_37
      rw [if_pos hx, hT.1]
  | succ m ih =>
    intro f1 f2 S T x hm h1 h2 hT hl c1 c2
    obtain ⟨f1, rfl⟩ : ∃ f', f1 = f' + 1 := ⟨f1 - 1, by omega⟩
    obtain ⟨f2, rfl⟩ : ∃ f', f2 = f' + 1 := ⟨f2 - 1, by omega⟩
    obtain ⟨t1, t2, t3, t4⟩ := hT
    have hx : ¬ x < 0 := by rw [zlt, z0]; omega
    have em : (x + -1).toInt = x.toInt - 1 := by rw [zadd (by rw [zm1]; omega) (by rw [zm1]; omega), zm1]; omega
    have un1 : g_X9_type_36 N a (f1 + 1) S x = s_X9_type_36 N a (g_X9_type_36 N a f1) S x := rfl
    have un2 : g_X10_type_37 N a (f2 + 1) T x = s_X10_type_37 N a (g_X10_type_37 N a f2) T x := rfl
    have gl : ¬ (gI T 0 3 < 0 ∨ 300 ≤ (gI T 0 3).toNatClampNeg) := by rw [← t1]; exact gok t2 (by omega)
    have l0' : ¬ gI T 0 3 < 0 := by rw [← t1, zlt, z0]; omega
    have l3 : ¬ (300 : Int32) ≤ gI T 0 3 := by rw [← t1, zle, z300]; omega
    rw [un1, un2]
    unfold s_X9_type_36 s_X10_type_37 f_X8_append
    rw [if_neg hx, if_neg hx, t1, if_neg l0', if_neg l3, if_neg gl, if_neg gl, ← byte_eq a x (by omega) h2]
    have hb := and255 ((a.toUInt64 >>> (((8 : Int32) * x).toInt64.toUInt64 &&& 63)).toInt64).toInt32
    generalize ((a.toUInt64 >>> (((8 : Int32) * x).toInt64.toUInt64 &&& 63)).toInt64).toInt32 &&& 255 = by' at *
    rw [bnd_eq, bnd_eq, bnd_eq, bnd_eq, bs]
    generalize x + -1 = x' at *
    have e1 : gI (sA S 2 (upd (gA S 2) (gI T 0 3).toNatClampNeg by')) 1 1 = gI T 0 3 := t1
    have e2 : gI (sA T 1 (upd (gA T 1) (gI T 0 3).toNatClampNeg by')) 0 3 = gI T 0 3 := rfl
    rw [e1, e2]
    have en : (gI T 0 3 + 1).toInt = (gI T 0 3).toInt + 1 := zadd (by rw [← t1, z1]; omega) (by rw [← t1, z1]; omega)
    have hT1 : IvT (sI (sA S 2 (upd (gA S 2) (gI T 0 3).toNatClampNeg by')) 1 1 (gI T 0 3 + 1)) (sI (sA T 1 (upd (gA T 1) (gI T 0 3).toNatClampNeg by')) 0 3 (gI T 0 3 + 1)) := by
      have q1 : gI (sI (sA S 2 (upd (gA S 2) (gI T 0 3).toNatClampNeg by')) 1 1 (gI T 0 3 + 1)) 1 1 = gI T 0 3 + 1 := rfl
      have q2 : gI (sI (sA T 1 (upd (gA T 1) (gI T 0 3).toNatClampNeg by')) 0 3 (gI T 0 3 + 1)) 0 3 = gI T 0 3 + 1 := rfl
      have q3 : gA (sI (sA S 2 (upd (gA S 2) (gI T 0 3).toNatClampNeg by')) 1 1 (gI T 0 3 + 1)) 2 = upd (gA S 2) (gI T 0 3).toNatClampNeg by' := rfl
      have q4 : gA (sI (sA T 1 (upd (gA T 1) (gI T 0 3).toNatClampNeg by')) 0 3 (gI T 0 3 + 1)) 1 = upd (gA T 1) (gI T 0 3).toNatClampNeg by' := rfl
      unfold IvT
      rw [q1, q2, q3, q4, en]
      rw [t1] at t2 t3 hl t4
      refine ⟨rfl, by omega, by omega, fun k hk => ?_⟩
      simp only [upd]
      by_cases hkk : k = (gI T 0 3).toNatClampNeg
      · rw [if_pos hkk, if_pos hkk]; exact ⟨rfl, hb.1, hb.2⟩
      · rw [if_neg hkk, if_neg hkk]
        exact t4 k (by rw [znat] at hkk; omega)
    have hl1 : (gI (sI (sA S 2 (upd (gA S 2) (gI T 0 3).toNatClampNeg by')) 1 1 (gI T 0 3 + 1)) 1 1).toInt + (x'.toInt + 1) ≤ 300 := by
      have q1 : gI (sI (sA S 2 (upd (gA S 2) (gI T 0 3).toNatClampNeg by')) 1 1 (gI T 0 3 + 1)) 1 1 = gI T 0 3 + 1 := rfl
      rw [q1, en, em, ← t1]; omega
    have hm1 : (x'.toInt + 1).toNat = m := by rw [em]; omega
    have hm2 : -1 ≤ x'.toInt := by omega
    have hm3 : x'.toInt ≤ 7 := by omega
    have hf1 : m < f1 := by omega
    have hf2 : m < f2 := by omega
    obtain ⟨v, S', T', d1, d2, d3, d4, d5⟩ := ih f1 f2 _ _ x' hm1 hm2 hm3 hT1 hl1 hf1 hf2
    exact ⟨v, S', T', d1, d2, d3, ((Sm.sA S _ (ci := fun c k => c = 1 ∧ k = 1) (ca := fun c => c = 2) rfl).tr (Sm.sI _ _ ⟨rfl, rfl⟩)).tr d4, ((Sm.sA T _ (ci := fun c k => c = 0 ∧ k = 3) (ca := fun c => c = 1) rfl).tr (Sm.sI _ _ ⟨rfl, rfl⟩)).tr d5⟩
theorem p_type {n N : Nat} (hN : 100 ≤ N) {S T : St} (h : Inv n S T) (a : Int64) (b : Int32) : Step n (f_X9_type N S a b) (f_X10_type N T a b) := by
  have hI := h.mono.thrown 0
  obtain ⟨t1, t2, t3, t4⟩ := h.1
  unfold f_X9_type f_X10_type
  rw [bnd_eq, bnd_eq, in_eq, bs, if10, z1, z8]
  by_cases hb : 1 ≤ b.toInt ∧ b.toInt ≤ 8
  · rw [if_neg (show ¬ b < 1 by rw [zlt, z1]; omega), if_pos (show b ≤ 8 by rw [zle, z8]; omega), if_pos hb]
    have e3 : gI (sI T 0 0 0) 0 3 = gI S 1 1 := t1.symm
    have es : ((300 : Int32) - b).toInt = 300 - b.toInt := by rw [zsub (by rw [z300]; omega) (by rw [z300]; omega), z300]
    have ea : (gI S 1 1 + b).toInt = (gI S 1 1).toInt + b.toInt := zadd (by omega) (by omega)
    have eb : (b - 1).toInt = b.toInt - 1 := by rw [zsub (by rw [z1]; omega) (by rw [z1]; omega), z1]
    rw [e3]
    by_cases q : gI S 1 1 ≤ 300 - b
    · have q' : gI S 1 1 + b ≤ 300 := by rw [zle, es] at q; rw [zle, ea, z300]; omega
      rw [if_pos q, if_pos q', bnd_eq]
      rw [zle, es] at q
      obtain ⟨v, S', T', d1, d2, d3, d4, d5⟩ := type_loop N a (b - 1 + 1).toInt.toNat N N S (sI T 0 0 0) (b - 1) (by rw [Int32.sub_add_cancel]; omega) (by omega) (by omega) hI.1 (by omega) (by rw [Int32.sub_add_cancel]; omega) (by rw [Int32.sub_add_cancel]; omega)
      refine ⟨v, S', T', d1, d2, ?_⟩
      obtain ⟨h1, h2, h3, h4, h5, h6, h7⟩ := hI
      have gIo : ∀ c k, c ≠ 1 → gI S' c k = gI S c k := fun c k hc => d4.1 c k (by omega)
      have gAo : ∀ c, c ≠ 2 → gA S' c = gA S c := fun c hc => d4.2.1 c hc
      have tIo : ∀ k, k ≠ 3 → gI T' 0 k = gI (sI T 0 0 0) 0 k := fun k hk => d5.1 0 k (by omega)
      have tAo : ∀ c, c ≠ 1 → gA T' c = gA (sI T 0 0 0) c := fun c hc => d5.2.1 c hc
      exact ⟨d3, h2.congr d4.2.2.2.2.1 d4.2.2.2.2.2 (fun c k hc => gIo _ _ (by omega)) (fun c hc => gAo _ (by omega)) (tIo _ (by omega)) (tIo _ (by omega)) (fun c _ _ => tAo _ (by omega)),
        h3.congr (gAo _ (by omega)) (gAo _ (by omega)) (gAo _ (by omega)) (gIo _ _ (by omega)) (tAo _ (by omega)) (tIo _ (by omega)),
        h4.congr (fun c _ _ => gAo _ (by omega)) (fun c k _ _ => gIo _ _ (by omega)) (tAo _ (by omega)) (tAo _ (by omega)) (tIo _ (by omega)),
        h5.congr (gIo _ _ (by omega)) (fun c _ _ => gAo _ (by omega)) (tIo _ (by omega)) (tAo _ (by omega)) (tIo _ (by omega)),
        h6.congr (gIo _ _ (by omega)) (gAo _ (by omega)) (gAo _ (by omega)) (tIo _ (by omega)) (tAo _ (by omega)), by rw [d4.2.2.1, d5.2.2.1]; exact h7⟩
    · have q' : ¬ gI S 1 1 + b ≤ 300 := by rw [zle, es] at q; rw [zle, ea, z300]; omega
      rw [if_neg q, if_neg q']
      exact ⟨-3, S, _, rfl, rfl, hI⟩
  · rw [if_neg hb]
    refine ⟨-1, S, sI T 0 0 0, ?_, rfl, hI⟩
    by_cases q : b < 1
    · rw [if_pos q]
    · rw [if_neg q, if_neg]
      rw [zle, z8]; rw [zlt, z1] at q; omega
