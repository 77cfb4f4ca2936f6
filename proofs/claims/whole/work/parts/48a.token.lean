/-! lane: the tokens, of class and reference alike -/
theorem upself {β : Type} (f : Nat → β) (c : Nat) : va_up f c (f c) = f := by
  funext x
  simp only [va_up]
  by_cases h : x = c
  · rw [if_pos h, h]
  · rw [if_neg h]
def mTx (T : St) (b : Nat → Int32) (L : Int32) : Prop := gI T 0 3 = L ∧ gA T 1 = b
def cTx (S : St) (b : Nat → Int32) (L : Int32) : Prop := gI S 1 1 = L ∧ ∀ k : Nat, (k : Int) < L.toInt → gA S 2 k = b k
def Tb (b : Nat → Int32) (L : Int32) : Prop := 0 ≤ L.toInt ∧ L.toInt ≤ 300 ∧ ∀ k : Nat, (k : Int) < L.toInt → 0 ≤ (b k).toInt ∧ (b k).toInt ≤ 255
abbrev ciK (c k : Nat) : Prop := c = 3 ∧ 1 ≤ k ∧ k ≤ 4
abbrev ciV (c k : Nat) : Prop := c = 0 ∧ 4 ≤ k ∧ k ≤ 7
abbrev caN (_ : Nat) : Prop := False
theorem cTx.sm {S S1 : St} {b : Nat → Int32} {L : Int32} {ca : Nat → Prop} {ci : Nat → Nat → Prop} (h : cTx S b L) (hs : Sm S S1 ci ca) (hi : ¬ ci 1 1) (ha : ¬ ca 2) : cTx S1 b L :=
  ⟨by rw [hs.1 1 1 hi]; exact h.1, fun k hk => by rw [hs.2.1 2 ha]; exact h.2 k hk⟩
theorem mTx.sm {T T1 : St} {b : Nat → Int32} {L : Int32} {ca : Nat → Prop} {ci : Nat → Nat → Prop} (h : mTx T b L) (hs : Sm T T1 ci ca) (hi : ¬ ci 0 3) (ha : ¬ ca 1) : mTx T1 b L :=
  ⟨by rw [hs.1 0 3 hi]; exact h.1, by rw [hs.2.1 1 ha]; exact h.2⟩
theorem cByte {S : St} {b : Nat → Int32} {L p : Int32} (h : cTx S b L) (hb : Tb b L) (h0 : 0 ≤ p.toInt) (h1 : p.toInt < L.toInt) : f_X8_byteAt S p = some (b p.toNatClampNeg) := by
  have hL := hb.2.1
  unfold f_X8_byteAt
  rw [if_neg (by rw [zlt, z0]; omega), if_neg (by rw [h.1, zle]; omega), if_neg (by rw [zle, z300]; omega), if_neg (gok h0 (by omega)), h.2 _ (by rw [znat]; omega)]
theorem mByte {T : St} {b : Nat → Int32} {L p : Int32} (h : mTx T b L) (hb : Tb b L) (h0 : 0 ≤ p.toInt) (h1 : p.toInt < L.toInt) : f_X10_byteAt T p = some (b p.toNatClampNeg) := by
  have hL := hb.2.1
  unfold f_X10_byteAt
  rw [if_neg (by rw [h.1, zle]; omega), if_neg (gok h0 (by omega)), h.2]
theorem mByteE {T : St} {b : Nat → Int32} {L p : Int32} (h : mTx T b L) (h1 : L.toInt ≤ p.toInt) : f_X10_byteAt T p = some (-1) := by
  unfold f_X10_byteAt
  rw [if_pos (by rw [h.1, zle]; omega)]
theorem letter_eq (x : Int32) : f_X6_isLetter x = some (if 97 ≤ x.toInt ∧ x.toInt ≤ 122 then 1 else 0) := in_eq x 97 122
theorem digit_eq (x : Int32) : f_X6_isDigit x = some (if 48 ≤ x.toInt ∧ x.toInt ≤ 57 then 1 else 0) := in_eq x 48 57
theorem letter_in (x : Int32) : f_X10_in x 97 122 = some (if 97 ≤ x.toInt ∧ x.toInt ≤ 122 then 1 else 0) := in_eq x 97 122
theorem digit_in (x : Int32) : f_X10_in x 48 57 = some (if 48 ≤ x.toInt ∧ x.toInt ≤ 57 then 1 else 0) := in_eq x 48 57
theorem p1E {b : Nat → Int32} {L p : Int32} (hb : Tb b L) (h1 : p.toInt ≤ L.toInt) (h0 : 0 ≤ p.toInt) : (p + 1).toInt = p.toInt + 1 :=
  zadd (by rw [z1]; omega) (by rw [z1]; have := hb.2.1; omega)
theorem l_skip {b : Nat → Int32} {L : Int32} (hb : Tb b L) (N : Nat) : ∀ (m : Nat) (p : Int32), (L.toInt - p.toInt).toNat = m → 0 ≤ p.toInt → p.toInt ≤ L.toInt → ∃ q : Int32, p.toInt ≤ q.toInt ∧ q.toInt ≤ L.toInt ∧
    (∀ (T : St) (f : Nat), mTx T b L → gI T 0 4 = p → m < f → ∃ T', (∀ k : St → Option St, g_X10_advances_0 N k f T = k T') ∧ Sm T T' ciV caN ∧ gI T' 0 4 = q) ∧
    (∀ (S : St) (f : Nat), cTx S b L → gI S 3 1 = p → m < f → ∃ S', g_X6_skipBlanks_0 N f S = some S' ∧ Sm S S' ciK caN ∧ gI S' 3 1 = q) := by
  intro m
  induction m with
  | zero =>
    intro p hm h0 h1
    refine ⟨p, by omega, h1, fun T f hT e hf => ?_, fun S f hS e hf => ?_⟩
    · obtain ⟨f, rfl⟩ : ∃ f', f = f' + 1 := ⟨f - 1, by omega⟩
      refine ⟨T, ?_, Sm.rf _ _ _, e⟩
      intro k
      show s_X10_advances_0 N k _ T = _
      unfold s_X10_advances_0
      rw [e, mByteE hT (by omega), bs, if_neg (by decide)]
    · obtain ⟨f, rfl⟩ : ∃ f', f = f' + 1 := ⟨f - 1, by omega⟩
      refine ⟨S, ?_, Sm.rf _ _ _, e⟩
      show s_X6_skipBlanks_0 N _ S = _
      unfold s_X6_skipBlanks_0
      rw [e, hS.1, if_pos (by rw [zle]; omega)]
  | succ m ih =>
    intro p hm h0 h1
    have e1 := p1E hb h1 h0
    by_cases c : b p.toNatClampNeg = 32
    · obtain ⟨q, q1, q2, q3, q4⟩ := ih (p + 1) (by omega) (by omega) (by omega)
      refine ⟨q, by omega, q2, fun T f hT e hf => ?_, fun S f hS e hf => ?_⟩
      · obtain ⟨f, rfl⟩ : ∃ f', f = f' + 1 := ⟨f - 1, by omega⟩
        obtain ⟨T', t1, t2, t3⟩ := q3 (sI T 0 4 (p + 1)) f hT rfl (by omega)
        refine ⟨T', ?_, (Sm.sI T _ (by omega)).tr t2, t3⟩
        intro k
        rw [← t1 k]
        show s_X10_advances_0 N k _ T = _
        unfold s_X10_advances_0
        rw [e, mByte hT hb h0 (by omega), bs, if_pos c, bnd_eq]
      · obtain ⟨f, rfl⟩ : ∃ f', f = f' + 1 := ⟨f - 1, by omega⟩
        obtain ⟨S', t1, t2, t3⟩ := q4 (sI S 3 1 (p + 1)) f hS rfl (by omega)
        refine ⟨S', ?_, (Sm.sI S _ (by omega)).tr t2, t3⟩
        rw [← t1]
        show s_X6_skipBlanks_0 N _ S = _
        unfold s_X6_skipBlanks_0
        rw [e, hS.1, if_neg (by rw [zle]; omega), cByte hS hb h0 (by omega), bs, if_pos c, bnd_eq]
    · refine ⟨p, by omega, h1, fun T f hT e hf => ?_, fun S f hS e hf => ?_⟩
      · obtain ⟨f, rfl⟩ : ∃ f', f = f' + 1 := ⟨f - 1, by omega⟩
        refine ⟨T, ?_, Sm.rf _ _ _, e⟩
        intro k
        show s_X10_advances_0 N k _ T = _
        unfold s_X10_advances_0
        rw [e, mByte hT hb h0 (by omega), bs, if_neg c]
      · obtain ⟨f, rfl⟩ : ∃ f', f = f' + 1 := ⟨f - 1, by omega⟩
        refine ⟨S, ?_, Sm.rf _ _ _, e⟩
        show s_X6_skipBlanks_0 N _ S = _
        unfold s_X6_skipBlanks_0
        rw [e, hS.1, if_neg (by rw [zle]; omega), cByte hS hb h0 (by omega), bs, if_neg c]
/-- the letters from s on, at most seven, as one number -/
def accW (b : Nat → Int32) (s : Nat) : Nat → Int
  | 0 => 0
  | i + 1 => if i < 7 then 256 * accW b s i + (b (s + i)).toInt else accW b s i
theorem accW_lt {b : Nat → Int32} {s n : Nat} (h : ∀ j : Nat, s ≤ j → j < s + n → 97 ≤ (b j).toInt ∧ (b j).toInt ≤ 122) : ∀ i : Nat, i ≤ n → 0 ≤ accW b s i ∧ (i ≤ 7 → accW b s i < (256 : Int) ^ i) ∧ accW b s i < 72057594037927936
  | 0, _ => by simp [accW]
  | i + 1, hi => by
    obtain ⟨a1, a2, a3⟩ := accW_lt h i (by omega)
    have hl := h (s + i) (by omega) (by omega)
    simp only [accW]
    by_cases c : i < 7
    · rw [if_pos c]
      have a4 := a2 (by omega)
      have e : (256 : Int) ^ (i + 1) = 256 ^ i * 256 := Int.pow_succ _ _
      have e2 : (256 : Int) ^ (i + 1) ≤ 72057594037927936 := by
        rcases (show i = 0 ∨ i = 1 ∨ i = 2 ∨ i = 3 ∨ i = 4 ∨ i = 5 ∨ i = 6 by omega) with rfl | rfl | rfl | rfl | rfl | rfl | rfl <;> decide
      refine ⟨by omega, fun _ => by omega, by omega⟩
    · rw [if_neg c]
      exact ⟨a1, fun h7 => by omega, a3⟩
theorem add64 {x : Int64} {c : Int32} (hx : 0 ≤ x.toInt) (hx2 : x.toInt < 1000000000000000) (hc : 97 ≤ c.toInt ∧ c.toInt ≤ 122) : ∃ y, f_X10_add x c = some y ∧ y.toInt = 256 * x.toInt + c.toInt := by
  refine ⟨256 * x + c.toInt64, ?_, ?_⟩
  · unfold f_X10_add
    rw [if_neg (by rw [zeq, z0]; omega)]
  · have e1 : ((256 : Int64) * x).toInt = 256 * x.toInt := by
      rw [Int64.toInt_mul, show (256 : Int64).toInt = 256 by decide]
      simp only [Int.bmod]; omega
    rw [Int64.toInt_add, e1, Int32.toInt_toInt64]
    simp only [Int.bmod]; omega
theorem l_word {b : Nat → Int32} {L : Int32} (hb : Tb b L) (N : Nat) (st : Int32) (hst : 0 ≤ st.toInt) : ∀ (m : Nat) (p : Int32) (x : Int64), (L.toInt - p.toInt).toNat = m → st.toInt ≤ p.toInt → p.toInt ≤ L.toInt → (∀ j : Nat, st.toInt ≤ j → (j : Int) < p.toInt → 97 ≤ (b j).toInt ∧ (b j).toInt ≤ 122) → x.toInt = accW b st.toNatClampNeg (p.toInt - st.toInt).toNat →
    ∃ (q : Int32) (y : Int64), p.toInt ≤ q.toInt ∧ q.toInt ≤ L.toInt ∧ (p.toInt < L.toInt → 97 ≤ (b p.toNatClampNeg).toInt ∧ (b p.toNatClampNeg).toInt ≤ 122 → p.toInt < q.toInt) ∧ (∀ j : Nat, st.toInt ≤ j → (j : Int) < q.toInt → 97 ≤ (b j).toInt ∧ (b j).toInt ≤ 122) ∧ y.toInt = accW b st.toNatClampNeg (q.toInt - st.toInt).toNat ∧
    (∀ (T : St) (f : Nat), mTx T b L → gI T 0 4 = p → gI T 0 6 = st → m < f → ∃ T', (∀ k : St → Int64 → Option St, g_X10_advances_68 N k f T x = k T' y) ∧ Sm T T' (fun c k => c = 0 ∧ k = 4) caN ∧ gI T' 0 4 = q) ∧
    (∀ (S : St) (f : Nat), cTx S b L → gI S 3 1 = p → m < f → ∃ S', (∀ k : St → Option St, g_X6_readWord_0 N k f S = k S') ∧ Sm S S' (fun c k => c = 3 ∧ k = 1) caN ∧ gI S' 3 1 = q) := by
  intro m
  induction m with
  | zero =>
    intro p x hm hs h1 hl hx
    refine ⟨p, x, by omega, h1, fun z => by omega, hl, hx, fun T f hT e e6 hf => ?_, fun S f hS e hf => ?_⟩
    · obtain ⟨f, rfl⟩ : ∃ f', f = f' + 1 := ⟨f - 1, by omega⟩
      refine ⟨T, ?_, Sm.rf _ _ _, e⟩
      intro k
      show s_X10_advances_68 N k _ T x = _
      unfold s_X10_advances_68
      rw [e, mByteE hT (by omega), bs, letter_in, bs, if10, if_neg (by rw [zm1]; omega)]
    · obtain ⟨f, rfl⟩ : ∃ f', f = f' + 1 := ⟨f - 1, by omega⟩
      refine ⟨S, ?_, Sm.rf _ _ _, e⟩
      intro k
      show s_X6_readWord_0 N k _ S = _
      unfold s_X6_readWord_0
      rw [e, hS.1, if_pos (by rw [zle]; omega)]
  | succ m ih =>
    intro p x hm hs h1 hl hx
    have h0 : 0 ≤ p.toInt := by omega
    have hL := hb.2.1
    have e1 := p1E hb h1 h0
    by_cases c : 97 ≤ (b p.toNatClampNeg).toInt ∧ (b p.toNatClampNeg).toInt ≤ 122
    · have hl2 : ∀ j : Nat, st.toInt ≤ j → (j : Int) < (p + 1).toInt → 97 ≤ (b j).toInt ∧ (b j).toInt ≤ 122 := fun j j1 j2 => by
        by_cases cj : (j : Int) < p.toInt
        · exact hl j j1 cj
        · have ej : j = p.toNatClampNeg := by rw [znat]; omega
          rw [ej]; exact c
      have es : (p - st).toInt = p.toInt - st.toInt := zsub (by omega) (by omega)
      have ei : ((p + 1).toInt - st.toInt).toNat = (p.toInt - st.toInt).toNat + 1 := by omega
      have en : st.toNatClampNeg + (p.toInt - st.toInt).toNat = p.toNatClampNeg := by rw [znat, znat]; omega
      have ha := accW_lt (s := st.toNatClampNeg) (n := (p.toInt - st.toInt).toNat) (fun j j1 j2 => hl j (by rw [znat] at j1; omega) (by rw [znat] at j1 j2; omega)) (p.toInt - st.toInt).toNat (Nat.le_refl _)
      obtain ⟨x1, hx1, hx2⟩ : ∃ x1 : Int64, x1.toInt = accW b st.toNatClampNeg ((p + 1).toInt - st.toInt).toNat ∧ ∀ (k : St → Int64 → Option St) (T : St) (f : Nat), mTx T b L → gI T 0 4 = p → gI T 0 6 = st → g_X10_advances_68 N k (f + 1) T x = g_X10_advances_68 N k f (sI T 0 4 (p + 1)) x1 := by
        by_cases c7 : (p.toInt - st.toInt).toNat < 7
        · have hlt := ha.2.1 (by omega)
          have hp6 : (256 : Int) ^ (p.toInt - st.toInt).toNat ≤ 281474976710656 := by
            generalize (p.toInt - st.toInt).toNat = i at c7
            rcases (show i = 0 ∨ i = 1 ∨ i = 2 ∨ i = 3 ∨ i = 4 ∨ i = 5 ∨ i = 6 by omega) with rfl | rfl | rfl | rfl | rfl | rfl | rfl <;> decide
          obtain ⟨y, y1, y2⟩ := add64 (x := x) (c := b p.toNatClampNeg) (by rw [hx]; exact ha.1) (by rw [hx]; omega) c
          refine ⟨y, ?_, fun k T f hT e e6 => ?_⟩
          · rw [ei]
            simp only [accW]
            rw [if_pos c7, y2, hx, en]
          · show s_X10_advances_68 N k _ T x = _
            unfold s_X10_advances_68
            rw [e, e6, mByte hT hb h0 (by omega), bs, letter_in, bs, if10, if_pos c, if_neg (by rw [zle, z7, es]; omega), bs, y1, bs]
            unfold f_X10_advances_116
            rw [e, bnd_eq]
        · refine ⟨x, ?_, fun k T f hT e e6 => ?_⟩
          · rw [ei]
            simp only [accW]
            rw [if_neg c7, hx]
          · show s_X10_advances_68 N k _ T x = _
            unfold s_X10_advances_68
            rw [e, e6, mByte hT hb h0 (by omega), bs, letter_in, bs, if10, if_pos c, if_pos (by rw [zle, z7, es]; omega)]
            unfold f_X10_advances_116
            rw [e, bnd_eq]
      obtain ⟨q, y, q1, q2, -, q3, q4, q5, q6⟩ := ih (p + 1) x1 (by omega) (by omega) (by omega) hl2 hx1
      refine ⟨q, y, by omega, q2, fun _ _ => by omega, q3, q4, fun T f hT e e6 hf => ?_, fun S f hS e hf => ?_⟩
      · obtain ⟨f, rfl⟩ : ∃ f', f = f' + 1 := ⟨f - 1, by omega⟩
        obtain ⟨T', t1, t2, t3⟩ := q5 (sI T 0 4 (p + 1)) f hT rfl e6 (by omega)
        exact ⟨T', fun k => by rw [hx2 k T f hT e e6, t1], (Sm.sI T _ ⟨rfl, rfl⟩).tr t2, t3⟩
      · obtain ⟨f, rfl⟩ : ∃ f', f = f' + 1 := ⟨f - 1, by omega⟩
        obtain ⟨S', t1, t2, t3⟩ := q6 (sI S 3 1 (p + 1)) f hS rfl (by omega)
        refine ⟨S', ?_, (Sm.sI S _ ⟨rfl, rfl⟩).tr t2, t3⟩
        intro k
        rw [← t1 k]
        show s_X6_readWord_0 N k _ S = _
        unfold s_X6_readWord_0
        rw [e, hS.1, if_neg (by rw [zle]; omega), cByte hS hb h0 (by omega), bs, letter_eq, bs, if10, if_pos c, bnd_eq]
    · refine ⟨p, x, by omega, h1, fun _ z => absurd z c, hl, hx, fun T f hT e e6 hf => ?_, fun S f hS e hf => ?_⟩
      · obtain ⟨f, rfl⟩ : ∃ f', f = f' + 1 := ⟨f - 1, by omega⟩
        refine ⟨T, ?_, Sm.rf _ _ _, e⟩
        intro k
        show s_X10_advances_68 N k _ T x = _
        unfold s_X10_advances_68
        rw [e, mByte hT hb h0 (by omega), bs, letter_in, bs, if10, if_neg c]
      · obtain ⟨f, rfl⟩ : ∃ f', f = f' + 1 := ⟨f - 1, by omega⟩
        refine ⟨S, ?_, Sm.rf _ _ _, e⟩
        intro k
        show s_X6_readWord_0 N k _ S = _
        unfold s_X6_readWord_0
        rw [e, hS.1, if_neg (by rw [zle]; omega), cByte hS hb h0 (by omega), bs, letter_eq, bs, if10, if_neg c]
/-- a number as the class has it, and the reference -/
abbrev nR (n v : Int32) : Prop := 0 ≤ v.toInt ∧ v.toInt ≤ 999 ∧ n.toInt = if 100 ≤ v.toInt then 100 else v.toInt
theorem l_dig {b : Nat → Int32} {L : Int32} (hb : Tb b L) (N : Nat) : ∀ (m : Nat) (p n v : Int32), (L.toInt - p.toInt).toNat = m → 0 ≤ p.toInt → p.toInt ≤ L.toInt → nR n v →
    ∃ q n' v' : Int32, p.toInt ≤ q.toInt ∧ q.toInt ≤ L.toInt ∧ (p.toInt < L.toInt → 48 ≤ (b p.toNatClampNeg).toInt ∧ (b p.toNatClampNeg).toInt ≤ 57 → p.toInt < q.toInt) ∧ nR n' v' ∧
    (∀ (T : St) (f : Nat), mTx T b L → gI T 0 4 = p → gI T 0 7 = v → m < f → ∃ T', (∀ (k : St → Int32 → Option St) (x : Int32), g_X10_advances_175 N k f T x = k T' x) ∧ Sm T T' (fun c k => c = 0 ∧ (k = 4 ∨ k = 7)) caN ∧ gI T' 0 4 = q ∧ gI T' 0 7 = v') ∧
    (∀ (S : St) (f : Nat), cTx S b L → gI S 3 1 = p → gI S 3 4 = n → m < f → ∃ S', (∀ k : St → Option St, g_X6_readDigits_5 N k f S = k S') ∧ Sm S S' (fun c k => c = 3 ∧ (k = 1 ∨ k = 4)) caN ∧ gI S' 3 1 = q ∧ gI S' 3 4 = n') := by
  intro m
  induction m with
  | zero =>
    intro p n v hm h0 h1 hnv
    refine ⟨p, n, v, by omega, h1, fun z => by omega, hnv, fun T f hT e e7 hf => ?_, fun S f hS e e4 hf => ?_⟩
    · obtain ⟨f, rfl⟩ : ∃ f', f = f' + 1 := ⟨f - 1, by omega⟩
      refine ⟨T, ?_, Sm.rf _ _ _, e, e7⟩
      intro k x
      show s_X10_advances_175 N k _ T x = _
      unfold s_X10_advances_175
      rw [e, mByteE hT (by omega), bs, digit_in, bs, if10, if_neg (by rw [zm1]; omega)]
    · obtain ⟨f, rfl⟩ : ∃ f', f = f' + 1 := ⟨f - 1, by omega⟩
      refine ⟨S, ?_, Sm.rf _ _ _, e, e4⟩
      intro k
      show s_X6_readDigits_5 N k _ S = _
      unfold s_X6_readDigits_5
      rw [e, hS.1, if_pos (by rw [zle]; omega)]
  | succ m ih =>
    intro p n v hm h0 h1 hnv
    have e1 := p1E hb h1 h0
    by_cases c : 48 ≤ (b p.toNatClampNeg).toInt ∧ (b p.toNatClampNeg).toInt ≤ 57
    · obtain ⟨v1, v2, v3⟩ := hnv
      have hn : 0 ≤ n.toInt ∧ n.toInt ≤ 100 := by rw [v3]; by_cases c9 : 100 ≤ v.toInt <;> simp only [if_pos, if_neg, c9, not_false_eq_true, not_true_eq_false, ite_true, ite_false] <;> omega
      have en1 : (n * 10).toInt = n.toInt * 10 := zmulc z10 (by omega) (by omega)
      have en2 : (n * 10 + b p.toNatClampNeg).toInt = n.toInt * 10 + (b p.toNatClampNeg).toInt := by rw [zadd (by rw [en1]; omega) (by rw [en1]; omega), en1]
      have en3 : (n * 10 + b p.toNatClampNeg - 48).toInt = n.toInt * 10 + (b p.toNatClampNeg).toInt - 48 := by rw [zsub (by rw [en2, z48]; omega) (by rw [en2, z48]; omega), en2, z48]
      have ev1 : ((10 : Int32) * v).toInt = 10 * v.toInt := zcmul z10 (by omega) (by omega)
      have ev2 : ((10 : Int32) * v + b p.toNatClampNeg).toInt = 10 * v.toInt + (b p.toNatClampNeg).toInt := by rw [zadd (by rw [ev1]; omega) (by rw [ev1]; omega), ev1]
      have ev3 : ((10 : Int32) * v + b p.toNatClampNeg - 48).toInt = 10 * v.toInt + (b p.toNatClampNeg).toInt - 48 := by rw [zsub (by rw [ev2, z48]; omega) (by rw [ev2, z48]; omega), ev2, z48]
      obtain ⟨w, hw, hnw⟩ : ∃ w, w = (if v ≤ 99 then (10 : Int32) * v + b p.toNatClampNeg - 48 else v) ∧ nR (if (n * 10 + b p.toNatClampNeg - 48) < 100 then (n * 10 + b p.toNatClampNeg - 48) else 100) w := by
        refine ⟨_, rfl, ?_⟩
        simp only [zle, z99, zlt, z100, en3]
        rw [v3]
        by_cases c9 : v.toInt ≤ 99
        · rw [if_pos c9, if_neg (show ¬ 100 ≤ v.toInt by omega)]
          refine ⟨by omega, by omega, ?_⟩
          by_cases c10 : v.toInt * 10 + (b p.toNatClampNeg).toInt - 48 < 100
          · rw [if_pos c10, if_neg (by omega), en3, v3, if_neg (by omega)]; omega
          · rw [if_neg c10, if_pos (by omega), z100]
        · rw [if_neg c9, if_pos (show 100 ≤ v.toInt by omega), if_neg (by omega)]
          exact ⟨v1, v2, by rw [if_pos (by omega), z100]⟩
      obtain ⟨q, n', v', q1, q2, -, q3, q4, q5⟩ := ih (p + 1) _ w (by omega) (by omega) (by omega) hnw
      refine ⟨q, n', v', by omega, q2, fun _ _ => by omega, q3, fun T f hT e e7 hf => ?_, fun S f hS e e4 hf => ?_⟩
      · obtain ⟨f, rfl⟩ : ∃ f', f = f' + 1 := ⟨f - 1, by omega⟩
        obtain ⟨T', t1, t2, t3⟩ := q4 (sI (sI T 0 7 w) 0 4 (p + 1)) f hT rfl rfl (by omega)
        refine ⟨T', ?_, ((Sm.sI T w (by omega)).tr (Sm.sI _ _ (by omega))).tr t2, t3⟩
        intro k x
        rw [← t1 k x]
        show s_X10_advances_175 N k _ T x = _
        unfold s_X10_advances_175
        rw [e, e7, mByte hT hb h0 (by omega), bs, digit_in, bs, if10, if_pos c, hw]
        have e4 : ∀ z : Int32, gI (sI T 0 7 z) 0 4 = p := fun _ => e
        by_cases c9 : v ≤ 99
        · rw [if_pos c9, if_pos c9, bs]
          unfold f_X10_advances_229
          rw [bnd_eq, e4, bnd_eq]
        · rw [if_neg c9, if_neg c9]
          unfold f_X10_advances_229
          rw [bnd_eq, e4, bnd_eq]
      · obtain ⟨f, rfl⟩ : ∃ f', f = f' + 1 := ⟨f - 1, by omega⟩
        obtain ⟨S', t1, t2, t3⟩ := q5 (sI (sI S 3 4 (if (n * 10 + b p.toNatClampNeg - 48) < 100 then (n * 10 + b p.toNatClampNeg - 48) else 100)) 3 1 (p + 1)) f hS rfl rfl (by omega)
        refine ⟨S', ?_, ((Sm.sI S _ (by omega)).tr (Sm.sI _ _ (by omega))).tr t2, t3⟩
        intro k
        rw [← t1 k]
        show s_X6_readDigits_5 N k _ S = _
        unfold s_X6_readDigits_5
        have e3 : ∀ z : Int32, gI (sI S 3 4 z) 3 1 = p := fun _ => e
        rw [e, e4, hS.1, if_neg (by rw [zle]; omega), cByte hS hb h0 (by omega), bs, digit_eq, bs, if10, if_pos c, bs, bnd_eq, e3, bnd_eq]
    · refine ⟨p, n, v, by omega, h1, fun _ z => absurd z c, hnv, fun T f hT e e7 hf => ?_, fun S f hS e e4 hf => ?_⟩
      · obtain ⟨f, rfl⟩ : ∃ f', f = f' + 1 := ⟨f - 1, by omega⟩
        refine ⟨T, ?_, Sm.rf _ _ _, e, e7⟩
        intro k x
        show s_X10_advances_175 N k _ T x = _
        unfold s_X10_advances_175
        rw [e, mByte hT hb h0 (by omega), bs, digit_in, bs, if10, if_neg c]
      · obtain ⟨f, rfl⟩ : ∃ f', f = f' + 1 := ⟨f - 1, by omega⟩
        refine ⟨S, ?_, Sm.rf _ _ _, e, e4⟩
        intro k
        show s_X6_readDigits_5 N k _ S = _
        unfold s_X6_readDigits_5
        rw [e, hS.1, if_neg (by rw [zle]; omega), cByte hS hb h0 (by omega), bs, digit_eq, bs, if10, if_neg c]
