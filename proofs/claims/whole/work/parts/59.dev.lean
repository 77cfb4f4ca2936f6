-- FILE 48a.token.lean.txt
/-! lane: the tokens, of class and reference alike -/
theorem upself {β : Type} (f : Nat → β) (c : Nat) : va_up f c (f c) = f := by
  funext x
  simp only [va_up]
  by_cases h : x = c
  · rw [if_pos h, h]
  · rw [if_neg h]
def mTx (T : St) (b : Nat → Int32) (L : Int32) : Prop := gI T 0 3 = L ∧ gA T 1 = b
def cTx (S : St) (b : Nat → Int32) (L : Int32) : Prop := gI S 1 1 = L ∧ ∀ k : Nat, (k : Int) < L.toInt → gA S 2 k = b k
def Tb (b : Nat → Int32) (L : Int32) : Prop := 0 ≤ L.toInt ∧ L.toInt ≤ 300 ∧ ∀ k : Nat, (k : Int) < L.toInt → 0 ≤ (b k).toInt ∧ (b k).toInt ≤ 255
abbrev ciK (c k : Nat) : Prop := c = 3 ∧ 1 ≤ k ∧ k ≤ 4
abbrev ciV (c k : Nat) : Prop := c = 0 ∧ 4 ≤ k ∧ k ≤ 7
abbrev caN (_ : Nat) : Prop := False
theorem cTx.sm {S S1 : St} {b : Nat → Int32} {L : Int32} {ca : Nat → Prop} {ci : Nat → Nat → Prop} (h : cTx S b L) (hs : Sm S S1 ci ca) (hi : ¬ ci 1 1) (ha : ¬ ca 2) : cTx S1 b L :=
  ⟨by rw [hs.1 1 1 hi]; exact h.1, fun k hk => by rw [hs.2.1 2 ha]; exact h.2 k hk⟩
theorem mTx.sm {T T1 : St} {b : Nat → Int32} {L : Int32} {ca : Nat → Prop} {ci : Nat → Nat → Prop} (h : mTx T b L) (hs : Sm T T1 ci ca) (hi : ¬ ci 0 3) (ha : ¬ ca 1) : mTx T1 b L :=
  ⟨by rw [hs.1 0 3 hi]; exact h.1, by rw [hs.2.1 1 ha]; exact h.2⟩
theorem cByte {S : St} {b : Nat → Int32} {L p : Int32} (h : cTx S b L) (hb : Tb b L) (h0 : 0 ≤ p.toInt) (h1 : p.toInt < L.toInt) : f_X8_byteAt S p = some (b p.toNatClampNeg) := by
  have hL := hb.2.1
  unfold f_X8_byteAt
  rw [if_neg (by rw [zlt, z0]; omega), if_neg (by rw [h.1, zle]; omega), if_neg (by rw [zle, z300]; omega), if_neg (gok h0 (by omega)), h.2 _ (by rw [znat]; omega)]
theorem mByte {T : St} {b : Nat → Int32} {L p : Int32} (h : mTx T b L) (hb : Tb b L) (h0 : 0 ≤ p.toInt) (h1 : p.toInt < L.toInt) : f_X10_byteAt T p = some (b p.toNatClampNeg) := by
  have hL := hb.2.1
  unfold f_X10_byteAt
  rw [if_neg (by rw [h.1, zle]; omega), if_neg (gok h0 (by omega)), h.2]
theorem mByteE {T : St} {b : Nat → Int32} {L p : Int32} (h : mTx T b L) (h1 : L.toInt ≤ p.toInt) : f_X10_byteAt T p = some (-1) := by
  unfold f_X10_byteAt
  rw [if_pos (by rw [h.1, zle]; omega)]
theorem letter_eq (x : Int32) : f_X6_isLetter x = some (if 97 ≤ x.toInt ∧ x.toInt ≤ 122 then 1 else 0) := in_eq x 97 122
theorem digit_eq (x : Int32) : f_X6_isDigit x = some (if 48 ≤ x.toInt ∧ x.toInt ≤ 57 then 1 else 0) := in_eq x 48 57
theorem letter_in (x : Int32) : f_X10_in x 97 122 = some (if 97 ≤ x.toInt ∧ x.toInt ≤ 122 then 1 else 0) := in_eq x 97 122
theorem digit_in (x : Int32) : f_X10_in x 48 57 = some (if 48 ≤ x.toInt ∧ x.toInt ≤ 57 then 1 else 0) := in_eq x 48 57
theorem p1E {b : Nat → Int32} {L p : Int32} (hb : Tb b L) (h1 : p.toInt ≤ L.toInt) (h0 : 0 ≤ p.toInt) : (p + 1).toInt = p.toInt + 1 :=
  zadd (by rw [z1]; omega) (by rw [z1]; have := hb.2.1; omega)
theorem l_skip {b : Nat → Int32} {L : Int32} (hb : Tb b L) (N : Nat) : ∀ (m : Nat) (p : Int32), (L.toInt - p.toInt).toNat = m → 0 ≤ p.toInt → p.toInt ≤ L.toInt → ∃ q : Int32, p.toInt ≤ q.toInt ∧ q.toInt ≤ L.toInt ∧
    (∀ (T : St) (f : Nat), mTx T b L → gI T 0 4 = p → m < f → ∃ T', (∀ k : St → Option St, g_X10_advances_0 N k f T = k T') ∧ Sm T T' ciV caN ∧ gI T' 0 4 = q) ∧
    (∀ (S : St) (f : Nat), cTx S b L → gI S 3 1 = p → m < f → ∃ S', g_X6_skipBlanks_0 N f S = some S' ∧ Sm S S' ciK caN ∧ gI S' 3 1 = q) := by
  intro m
  induction m with
  | zero =>
    intro p hm h0 h1
    refine ⟨p, by omega, h1, fun T f hT e hf => ?_, fun S f hS e hf => ?_⟩
    · obtain ⟨f, rfl⟩ : ∃ f', f = f' + 1 := ⟨f - 1, by omega⟩
      refine ⟨T, ?_, Sm.rf _ _ _, e⟩
      intro k
      show s_X10_advances_0 N k _ T = _
      unfold s_X10_advances_0
      rw [e, mByteE hT (by omega), bs, if_neg (by decide)]
    · obtain ⟨f, rfl⟩ : ∃ f', f = f' + 1 := ⟨f - 1, by omega⟩
      refine ⟨S, ?_, Sm.rf _ _ _, e⟩
      show s_X6_skipBlanks_0 N _ S = _
      unfold s_X6_skipBlanks_0
      rw [e, hS.1, if_pos (by rw [zle]; omega)]
  | succ m ih =>
    intro p hm h0 h1
    have e1 := p1E hb h1 h0
    by_cases c : b p.toNatClampNeg = 32
    · obtain ⟨q, q1, q2, q3, q4⟩ := ih (p + 1) (by omega) (by omega) (by omega)
      refine ⟨q, by omega, q2, fun T f hT e hf => ?_, fun S f hS e hf => ?_⟩
      · obtain ⟨f, rfl⟩ : ∃ f', f = f' + 1 := ⟨f - 1, by omega⟩
        obtain ⟨T', t1, t2, t3⟩ := q3 (sI T 0 4 (p + 1)) f hT rfl (by omega)
        refine ⟨T', ?_, (Sm.sI T _ (by omega)).tr t2, t3⟩
        intro k
        rw [← t1 k]
        show s_X10_advances_0 N k _ T = _
        unfold s_X10_advances_0
        rw [e, mByte hT hb h0 (by omega), bs, if_pos c, bnd_eq]
      · obtain ⟨f, rfl⟩ : ∃ f', f = f' + 1 := ⟨f - 1, by omega⟩
        obtain ⟨S', t1, t2, t3⟩ := q4 (sI S 3 1 (p + 1)) f hS rfl (by omega)
        refine ⟨S', ?_, (Sm.sI S _ (by omega)).tr t2, t3⟩
        rw [← t1]
        show s_X6_skipBlanks_0 N _ S = _
        unfold s_X6_skipBlanks_0
        rw [e, hS.1, if_neg (by rw [zle]; omega), cByte hS hb h0 (by omega), bs, if_pos c, bnd_eq]
    · refine ⟨p, by omega, h1, fun T f hT e hf => ?_, fun S f hS e hf => ?_⟩
      · obtain ⟨f, rfl⟩ : ∃ f', f = f' + 1 := ⟨f - 1, by omega⟩
        refine ⟨T, ?_, Sm.rf _ _ _, e⟩
        intro k
        show s_X10_advances_0 N k _ T = _
        unfold s_X10_advances_0
        rw [e, mByte hT hb h0 (by omega), bs, if_neg c]
      · obtain ⟨f, rfl⟩ : ∃ f', f = f' + 1 := ⟨f - 1, by omega⟩
        refine ⟨S, ?_, Sm.rf _ _ _, e⟩
        show s_X6_skipBlanks_0 N _ S = _
        unfold s_X6_skipBlanks_0
        rw [e, hS.1, if_neg (by rw [zle]; omega), cByte hS hb h0 (by omega), bs, if_neg c]
/-- the letters from s on, at most seven, as one number -/
def accW (b : Nat → Int32) (s : Nat) : Nat → Int
  | 0 => 0
  | i + 1 => if i < 7 then 256 * accW b s i + (b (s + i)).toInt else accW b s i
theorem accW_lt {b : Nat → Int32} {s n : Nat} (h : ∀ j : Nat, s ≤ j → j < s + n → 97 ≤ (b j).toInt ∧ (b j).toInt ≤ 122) : ∀ i : Nat, i ≤ n → 0 ≤ accW b s i ∧ (i ≤ 7 → accW b s i < (256 : Int) ^ i) ∧ accW b s i < 72057594037927936
  | 0, _ => by simp [accW]
  | i + 1, hi => by
    obtain ⟨a1, a2, a3⟩ := accW_lt h i (by omega)
    have hl := h (s + i) (by omega) (by omega)
    simp only [accW]
    by_cases c : i < 7
    · rw [if_pos c]
      have a4 := a2 (by omega)
      have e : (256 : Int) ^ (i + 1) = 256 ^ i * 256 := Int.pow_succ _ _
      have e2 : (256 : Int) ^ (i + 1) ≤ 72057594037927936 := by
        rcases (show i = 0 ∨ i = 1 ∨ i = 2 ∨ i = 3 ∨ i = 4 ∨ i = 5 ∨ i = 6 by omega) with rfl | rfl | rfl | rfl | rfl | rfl | rfl <;> decide
      refine ⟨by omega, fun _ => by omega, by omega⟩
    · rw [if_neg c]
      exact ⟨a1, fun h7 => by omega, a3⟩
theorem add64 {x : Int64} {c : Int32} (hx : 0 ≤ x.toInt) (hx2 : x.toInt < 1000000000000000) (hc : 97 ≤ c.toInt ∧ c.toInt ≤ 122) : ∃ y, f_X10_add x c = some y ∧ y.toInt = 256 * x.toInt + c.toInt := by
  refine ⟨256 * x + c.toInt64, ?_, ?_⟩
  · unfold f_X10_add
    rw [if_neg (by rw [zeq, z0]; omega)]
  · have e1 : ((256 : Int64) * x).toInt = 256 * x.toInt := by
      rw [Int64.toInt_mul, show (256 : Int64).toInt = 256 by decide]
      simp only [Int.bmod]; omega
    rw [Int64.toInt_add, e1, Int32.toInt_toInt64]
    simp only [Int.bmod]; omega
theorem l_word {b : Nat → Int32} {L : Int32} (hb : Tb b L) (N : Nat) (st : Int32) (hst : 0 ≤ st.toInt) : ∀ (m : Nat) (p : Int32) (x : Int64), (L.toInt - p.toInt).toNat = m → st.toInt ≤ p.toInt → p.toInt ≤ L.toInt → (∀ j : Nat, st.toInt ≤ j → (j : Int) < p.toInt → 97 ≤ (b j).toInt ∧ (b j).toInt ≤ 122) → x.toInt = accW b st.toNatClampNeg (p.toInt - st.toInt).toNat →
    ∃ (q : Int32) (y : Int64), p.toInt ≤ q.toInt ∧ q.toInt ≤ L.toInt ∧ (p.toInt < L.toInt → 97 ≤ (b p.toNatClampNeg).toInt ∧ (b p.toNatClampNeg).toInt ≤ 122 → p.toInt < q.toInt) ∧ (∀ j : Nat, st.toInt ≤ j → (j : Int) < q.toInt → 97 ≤ (b j).toInt ∧ (b j).toInt ≤ 122) ∧ y.toInt = accW b st.toNatClampNeg (q.toInt - st.toInt).toNat ∧
    (∀ (T : St) (f : Nat), mTx T b L → gI T 0 4 = p → gI T 0 6 = st → m < f → ∃ T', (∀ k : St → Int64 → Option St, g_X10_advances_68 N k f T x = k T' y) ∧ Sm T T' (fun c k => c = 0 ∧ k = 4) caN ∧ gI T' 0 4 = q) ∧
    (∀ (S : St) (f : Nat), cTx S b L → gI S 3 1 = p → m < f → ∃ S', (∀ k : St → Option St, g_X6_readWord_0 N k f S = k S') ∧ Sm S S' (fun c k => c = 3 ∧ k = 1) caN ∧ gI S' 3 1 = q) := by
  intro m
  induction m with
  | zero =>
    intro p x hm hs h1 hl hx
    refine ⟨p, x, by omega, h1, fun z => by omega, hl, hx, fun T f hT e e6 hf => ?_, fun S f hS e hf => ?_⟩
    · obtain ⟨f, rfl⟩ : ∃ f', f = f' + 1 := ⟨f - 1, by omega⟩
      refine ⟨T, ?_, Sm.rf _ _ _, e⟩
      intro k
      show s_X10_advances_68 N k _ T x = _
      unfold s_X10_advances_68
      rw [e, mByteE hT (by omega), bs, letter_in, bs, if10, if_neg (by rw [zm1]; omega)]
    · obtain ⟨f, rfl⟩ : ∃ f', f = f' + 1 := ⟨f - 1, by omega⟩
      refine ⟨S, ?_, Sm.rf _ _ _, e⟩
      intro k
      show s_X6_readWord_0 N k _ S = _
      unfold s_X6_readWord_0
      rw [e, hS.1, if_pos (by rw [zle]; omega)]
  | succ m ih =>
    intro p x hm hs h1 hl hx
    have h0 : 0 ≤ p.toInt := by omega
    have hL := hb.2.1
    have e1 := p1E hb h1 h0
    by_cases c : 97 ≤ (b p.toNatClampNeg).toInt ∧ (b p.toNatClampNeg).toInt ≤ 122
    · have hl2 : ∀ j : Nat, st.toInt ≤ j → (j : Int) < (p + 1).toInt → 97 ≤ (b j).toInt ∧ (b j).toInt ≤ 122 := fun j j1 j2 => by
        by_cases cj : (j : Int) < p.toInt
        · exact hl j j1 cj
        · have ej : j = p.toNatClampNeg := by rw [znat]; omega
          rw [ej]; exact c
      have es : (p - st).toInt = p.toInt - st.toInt := zsub (by omega) (by omega)
      have ei : ((p + 1).toInt - st.toInt).toNat = (p.toInt - st.toInt).toNat + 1 := by omega
      have en : st.toNatClampNeg + (p.toInt - st.toInt).toNat = p.toNatClampNeg := by rw [znat, znat]; omega
      have ha := accW_lt (s := st.toNatClampNeg) (n := (p.toInt - st.toInt).toNat) (fun j j1 j2 => hl j (by rw [znat] at j1; omega) (by rw [znat] at j1 j2; omega)) (p.toInt - st.toInt).toNat (Nat.le_refl _)
      obtain ⟨x1, hx1, hx2⟩ : ∃ x1 : Int64, x1.toInt = accW b st.toNatClampNeg ((p + 1).toInt - st.toInt).toNat ∧ ∀ (k : St → Int64 → Option St) (T : St) (f : Nat), mTx T b L → gI T 0 4 = p → gI T 0 6 = st → g_X10_advances_68 N k (f + 1) T x = g_X10_advances_68 N k f (sI T 0 4 (p + 1)) x1 := by
        by_cases c7 : (p.toInt - st.toInt).toNat < 7
        · have hlt := ha.2.1 (by omega)
          have hp6 : (256 : Int) ^ (p.toInt - st.toInt).toNat ≤ 281474976710656 := by
            generalize (p.toInt - st.toInt).toNat = i at c7
            rcases (show i = 0 ∨ i = 1 ∨ i = 2 ∨ i = 3 ∨ i = 4 ∨ i = 5 ∨ i = 6 by omega) with rfl | rfl | rfl | rfl | rfl | rfl | rfl <;> decide
          obtain ⟨y, y1, y2⟩ := add64 (x := x) (c := b p.toNatClampNeg) (by rw [hx]; exact ha.1) (by rw [hx]; omega) c
          refine ⟨y, ?_, fun k T f hT e e6 => ?_⟩
          · rw [ei]
            simp only [accW]
            rw [if_pos c7, y2, hx, en]
          · show s_X10_advances_68 N k _ T x = _
            unfold s_X10_advances_68
            rw [e, e6, mByte hT hb h0 (by omega), bs, letter_in, bs, if10, if_pos c, if_neg (by rw [zle, z7, es]; omega), bs, y1, bs]
            unfold f_X10_advances_116
            rw [e, bnd_eq]
        · refine ⟨x, ?_, fun k T f hT e e6 => ?_⟩
          · rw [ei]
            simp only [accW]
            rw [if_neg c7, hx]
          · show s_X10_advances_68 N k _ T x = _
            unfold s_X10_advances_68
            rw [e, e6, mByte hT hb h0 (by omega), bs, letter_in, bs, if10, if_pos c, if_pos (by rw [zle, z7, es]; omega)]
            unfold f_X10_advances_116
            rw [e, bnd_eq]
      obtain ⟨q, y, q1, q2, -, q3, q4, q5, q6⟩ := ih (p + 1) x1 (by omega) (by omega) (by omega) hl2 hx1
      refine ⟨q, y, by omega, q2, fun _ _ => by omega, q3, q4, fun T f hT e e6 hf => ?_, fun S f hS e hf => ?_⟩
      · obtain ⟨f, rfl⟩ : ∃ f', f = f' + 1 := ⟨f - 1, by omega⟩
        obtain ⟨T', t1, t2, t3⟩ := q5 (sI T 0 4 (p + 1)) f hT rfl e6 (by omega)
        exact ⟨T', fun k => by rw [hx2 k T f hT e e6, t1], (Sm.sI T _ ⟨rfl, rfl⟩).tr t2, t3⟩
      · obtain ⟨f, rfl⟩ : ∃ f', f = f' + 1 := ⟨f - 1, by omega⟩
        obtain ⟨S', t1, t2, t3⟩ := q6 (sI S 3 1 (p + 1)) f hS rfl (by omega)
        refine ⟨S', ?_, (Sm.sI S _ ⟨rfl, rfl⟩).tr t2, t3⟩
        intro k
        rw [← t1 k]
        show s_X6_readWord_0 N k _ S = _
        unfold s_X6_readWord_0
        rw [e, hS.1, if_neg (by rw [zle]; omega), cByte hS hb h0 (by omega), bs, letter_eq, bs, if10, if_pos c, bnd_eq]
    · refine ⟨p, x, by omega, h1, fun _ z => absurd z c, hl, hx, fun T f hT e e6 hf => ?_, fun S f hS e hf => ?_⟩
      · obtain ⟨f, rfl⟩ : ∃ f', f = f' + 1 := ⟨f - 1, by omega⟩
        refine ⟨T, ?_, Sm.rf _ _ _, e⟩
        intro k
        show s_X10_advances_68 N k _ T x = _
        unfold s_X10_advances_68
        rw [e, mByte hT hb h0 (by omega), bs, letter_in, bs, if10, if_neg c]
      · obtain ⟨f, rfl⟩ : ∃ f', f = f' + 1 := ⟨f - 1, by omega⟩
        refine ⟨S, ?_, Sm.rf _ _ _, e⟩
        intro k
        show s_X6_readWord_0 N k _ S = _
        unfold s_X6_readWord_0
        rw [e, hS.1, if_neg (by rw [zle]; omega), cByte hS hb h0 (by omega), bs, letter_eq, bs, if10, if_neg c]
/-- a number as the class has it, and the reference -/
abbrev nR (n v : Int32) : Prop := 0 ≤ v.toInt ∧ v.toInt ≤ 999 ∧ n.toInt = if 100 ≤ v.toInt then 100 else v.toInt
theorem l_dig {b : Nat → Int32} {L : Int32} (hb : Tb b L) (N : Nat) : ∀ (m : Nat) (p n v : Int32), (L.toInt - p.toInt).toNat = m → 0 ≤ p.toInt → p.toInt ≤ L.toInt → nR n v →
    ∃ q n' v' : Int32, p.toInt ≤ q.toInt ∧ q.toInt ≤ L.toInt ∧ (p.toInt < L.toInt → 48 ≤ (b p.toNatClampNeg).toInt ∧ (b p.toNatClampNeg).toInt ≤ 57 → p.toInt < q.toInt) ∧ nR n' v' ∧
    (∀ (T : St) (f : Nat), mTx T b L → gI T 0 4 = p → gI T 0 7 = v → m < f → ∃ T', (∀ (k : St → Int32 → Option St) (x : Int32), g_X10_advances_175 N k f T x = k T' x) ∧ Sm T T' (fun c k => c = 0 ∧ (k = 4 ∨ k = 7)) caN ∧ gI T' 0 4 = q ∧ gI T' 0 7 = v') ∧
    (∀ (S : St) (f : Nat), cTx S b L → gI S 3 1 = p → gI S 3 4 = n → m < f → ∃ S', (∀ k : St → Option St, g_X6_readDigits_5 N k f S = k S') ∧ Sm S S' (fun c k => c = 3 ∧ (k = 1 ∨ k = 4)) caN ∧ gI S' 3 1 = q ∧ gI S' 3 4 = n') := by
  intro m
  induction m with
  | zero =>
    intro p n v hm h0 h1 hnv
    refine ⟨p, n, v, by omega, h1, fun z => by omega, hnv, fun T f hT e e7 hf => ?_, fun S f hS e e4 hf => ?_⟩
    · obtain ⟨f, rfl⟩ : ∃ f', f = f' + 1 := ⟨f - 1, by omega⟩
      refine ⟨T, ?_, Sm.rf _ _ _, e, e7⟩
      intro k x
      show s_X10_advances_175 N k _ T x = _
      unfold s_X10_advances_175
      rw [e, mByteE hT (by omega), bs, digit_in, bs, if10, if_neg (by rw [zm1]; omega)]
    · obtain ⟨f, rfl⟩ : ∃ f', f = f' + 1 := ⟨f - 1, by omega⟩
      refine ⟨S, ?_, Sm.rf _ _ _, e, e4⟩
      intro k
      show s_X6_readDigits_5 N k _ S = _
      unfold s_X6_readDigits_5
      rw [e, hS.1, if_pos (by rw [zle]; omega)]
  | succ m ih =>
    intro p n v hm h0 h1 hnv
    have e1 := p1E hb h1 h0
    by_cases c : 48 ≤ (b p.toNatClampNeg).toInt ∧ (b p.toNatClampNeg).toInt ≤ 57
    · obtain ⟨v1, v2, v3⟩ := hnv
      have hn : 0 ≤ n.toInt ∧ n.toInt ≤ 100 := by rw [v3]; by_cases c9 : 100 ≤ v.toInt <;> simp only [if_pos, if_neg, c9, not_false_eq_true, not_true_eq_false, ite_true, ite_false] <;> omega
      have en1 : (n * 10).toInt = n.toInt * 10 := zmulc z10 (by omega) (by omega)
      have en2 : (n * 10 + b p.toNatClampNeg).toInt = n.toInt * 10 + (b p.toNatClampNeg).toInt := by rw [zadd (by rw [en1]; omega) (by rw [en1]; omega), en1]
      have en3 : (n * 10 + b p.toNatClampNeg - 48).toInt = n.toInt * 10 + (b p.toNatClampNeg).toInt - 48 := by rw [zsub (by rw [en2, z48]; omega) (by rw [en2, z48]; omega), en2, z48]
      have ev1 : ((10 : Int32) * v).toInt = 10 * v.toInt := zcmul z10 (by omega) (by omega)
      have ev2 : ((10 : Int32) * v + b p.toNatClampNeg).toInt = 10 * v.toInt + (b p.toNatClampNeg).toInt := by rw [zadd (by rw [ev1]; omega) (by rw [ev1]; omega), ev1]
      have ev3 : ((10 : Int32) * v + b p.toNatClampNeg - 48).toInt = 10 * v.toInt + (b p.toNatClampNeg).toInt - 48 := by rw [zsub (by rw [ev2, z48]; omega) (by rw [ev2, z48]; omega), ev2, z48]
      obtain ⟨w, hw, hnw⟩ : ∃ w, w = (if v ≤ 99 then (10 : Int32) * v + b p.toNatClampNeg - 48 else v) ∧ nR (if (n * 10 + b p.toNatClampNeg - 48) < 100 then (n * 10 + b p.toNatClampNeg - 48) else 100) w := by
        refine ⟨_, rfl, ?_⟩
        simp only [zle, z99, zlt, z100, en3]
        rw [v3]
        by_cases c9 : v.toInt ≤ 99
        · rw [if_pos c9, if_neg (show ¬ 100 ≤ v.toInt by omega)]
          refine ⟨by omega, by omega, ?_⟩
          by_cases c10 : v.toInt * 10 + (b p.toNatClampNeg).toInt - 48 < 100
          · rw [if_pos c10, if_neg (by omega), en3, v3, if_neg (by omega)]; omega
          · rw [if_neg c10, if_pos (by omega), z100]
        · rw [if_neg c9, if_pos (show 100 ≤ v.toInt by omega), if_neg (by omega)]
          exact ⟨v1, v2, by rw [if_pos (by omega), z100]⟩
      obtain ⟨q, n', v', q1, q2, -, q3, q4, q5⟩ := ih (p + 1) _ w (by omega) (by omega) (by omega) hnw
      refine ⟨q, n', v', by omega, q2, fun _ _ => by omega, q3, fun T f hT e e7 hf => ?_, fun S f hS e e4 hf => ?_⟩
      · obtain ⟨f, rfl⟩ : ∃ f', f = f' + 1 := ⟨f - 1, by omega⟩
        obtain ⟨T', t1, t2, t3⟩ := q4 (sI (sI T 0 7 w) 0 4 (p + 1)) f hT rfl rfl (by omega)
        refine ⟨T', ?_, ((Sm.sI T w (by omega)).tr (Sm.sI _ _ (by omega))).tr t2, t3⟩
        intro k x
        rw [← t1 k x]
        show s_X10_advances_175 N k _ T x = _
        unfold s_X10_advances_175
        rw [e, e7, mByte hT hb h0 (by omega), bs, digit_in, bs, if10, if_pos c, hw]
        have e4 : ∀ z : Int32, gI (sI T 0 7 z) 0 4 = p := fun _ => e
        by_cases c9 : v ≤ 99
        · rw [if_pos c9, if_pos c9, bs]
          unfold f_X10_advances_229
          rw [bnd_eq, e4, bnd_eq]
        · rw [if_neg c9, if_neg c9]
          unfold f_X10_advances_229
          rw [bnd_eq, e4, bnd_eq]
      · obtain ⟨f, rfl⟩ : ∃ f', f = f' + 1 := ⟨f - 1, by omega⟩
        obtain ⟨S', t1, t2, t3⟩ := q5 (sI (sI S 3 4 (if (n * 10 + b p.toNatClampNeg - 48) < 100 then (n * 10 + b p.toNatClampNeg - 48) else 100)) 3 1 (p + 1)) f hS rfl rfl (by omega)
        refine ⟨S', ?_, ((Sm.sI S _ (by omega)).tr (Sm.sI _ _ (by omega))).tr t2, t3⟩
        intro k
        rw [← t1 k]
        show s_X6_readDigits_5 N k _ S = _
        unfold s_X6_readDigits_5
        have e3 : ∀ z : Int32, gI (sI S 3 4 z) 3 1 = p := fun _ => e
        rw [e, e4, hS.1, if_neg (by rw [zle]; omega), cByte hS hb h0 (by omega), bs, digit_eq, bs, if10, if_pos c, bs, bnd_eq, e3, bnd_eq]
    · refine ⟨p, n, v, by omega, h1, fun _ z => absurd z c, hnv, fun T f hT e e7 hf => ?_, fun S f hS e e4 hf => ?_⟩
      · obtain ⟨f, rfl⟩ : ∃ f', f = f' + 1 := ⟨f - 1, by omega⟩
        refine ⟨T, ?_, Sm.rf _ _ _, e, e7⟩
        intro k x
        show s_X10_advances_175 N k _ T x = _
        unfold s_X10_advances_175
        rw [e, mByte hT hb h0 (by omega), bs, digit_in, bs, if10, if_neg c]
      · obtain ⟨f, rfl⟩ : ∃ f', f = f' + 1 := ⟨f - 1, by omega⟩
        refine ⟨S, ?_, Sm.rf _ _ _, e, e4⟩
        intro k
        show s_X6_readDigits_5 N k _ S = _
        unfold s_X6_readDigits_5
        rw [e, hS.1, if_neg (by rw [zle]; omega), cByte hS hb h0 (by omega), bs, digit_eq, bs, if10, if_neg c]
-- FILE 48b.words.lean.txt
/-! lane: the words -/
def kwK : Nat → Int64 := fun t => match t with
  | 0 => 1818324581
  | 1 => 2003398244
  | 2 => 7824756
  | 3 => 125848689468786
  | 4 => 1919905893
  | 5 => 1852138852
  | _ => 1685221232
theorem lgz (x y : Int64) : (lg_cmp x y = 0) = (x = y) := by
  refine propext ⟨fun h => ?_, fun h => by rw [h]; exact lg_cmp_self y⟩
  unfold lg_cmp at h
  by_cases c : x > y
  · rw [if_pos c] at h; exact absurd h (by decide)
  · rw [if_neg c] at h
    by_cases d : x = y
    · exact d
    · rw [if_neg d] at h; exact absurd h (by decide)
theorem j64 (x y : Int64) : (x = y) = (x.toInt = y.toInt) := propext Int64.toInt_inj.symm
def kwM (y : Int64) : Int32 := if y = kwK 5 then 5 else if y = kwK 6 then 6 else if y = kwK 3 then 3 else if y = kwK 4 then 4 else if y = kwK 0 then 0 else if y = kwK 1 then 1 else if y = kwK 2 then 2 else -9
def kwC (y : Int64) : Int32 := if y = kwK 0 then 1 else if y = kwK 1 then 2 else if y = kwK 2 then 3 else if y = kwK 3 then 4 else if y = kwK 4 then 5 else if y = kwK 5 then 6 else if y = kwK 6 then 7 else 10
theorem named_0 : f_X10_named (108 : Int32) (97 : Int32) (110 : Int32) (101 : Int32) (0 : Int32) (0 : Int32) = some (kwK 0) := by decide +kernel
theorem named_1 : f_X10_named (119 : Int32) (105 : Int32) (110 : Int32) (100 : Int32) (0 : Int32) (0 : Int32) = some (kwK 1) := by decide +kernel
theorem named_2 : f_X10_named (119 : Int32) (101 : Int32) (116 : Int32) (0 : Int32) (0 : Int32) (0 : Int32) = some (kwK 2) := by decide +kernel
theorem named_3 : f_X10_named (114 : Int32) (117 : Int32) (110 : Int32) (110 : Int32) (101 : Int32) (114 : Int32) = some (kwK 3) := by decide +kernel
theorem named_4 : f_X10_named (114 : Int32) (111 : Int32) (112 : Int32) (101 : Int32) (0 : Int32) (0 : Int32) = some (kwK 4) := by decide +kernel
theorem named_5 : f_X10_named (110 : Int32) (101 : Int32) (101 : Int32) (100 : Int32) (0 : Int32) (0 : Int32) = some (kwK 5) := by decide +kernel
theorem named_6 : f_X10_named (100 : Int32) (114 : Int32) (111 : Int32) (112 : Int32) (0 : Int32) (0 : Int32) = some (kwK 6) := by decide +kernel
theorem wordOf_eq (y : Int64) : f_X10_wordOf y = some (kwM y) := by
  have e115 : ∀ t, f_X10_wordOf_115 y t = some (if y = kwK 5 then 5 else if y = kwK 6 then 6 else t) := by
    intro t
    unfold f_X10_wordOf_115
    rw [named_5, bs, named_6, bs]
    simp only [lgz]
    by_cases c5 : y = kwK 5
    · rw [if_pos c5, if_pos c5]
    rw [if_neg c5, if_neg c5]
    by_cases c6 : y = kwK 6
    · rw [if_pos c6, if_pos c6]
    rw [if_neg c6, if_neg c6]
  have e67 : ∀ t, f_X10_wordOf_67 y t = some (if y = kwK 5 then 5 else if y = kwK 6 then 6 else if y = kwK 3 then 3 else if y = kwK 4 then 4 else t) := by
    intro t
    unfold f_X10_wordOf_67
    rw [named_3, bs, named_4, bs, e115, e115, e115]
    simp only [lgz]
    by_cases c3 : y = kwK 3
    · rw [if_pos c3, if_pos c3]
    rw [if_neg c3, if_neg c3]
    by_cases c4 : y = kwK 4
    · rw [if_pos c4, if_pos c4]
    rw [if_neg c4, if_neg c4]
  unfold f_X10_wordOf kwM
  rw [named_0, bs, named_1, bs, named_2, bs, e67, e67, e67, e67]
  simp only [lgz]
  by_cases c0 : y = kwK 0
  · rw [if_pos c0, if_pos c0]
  rw [if_neg c0, if_neg c0]
  by_cases c1 : y = kwK 1
  · rw [if_pos c1, if_pos c1]
  rw [if_neg c1, if_neg c1]
  by_cases c2 : y = kwK 2
  · rw [if_pos c2, if_pos c2]
  rw [if_neg c2, if_neg c2]
theorem kw_both (y : Int64) : (kwC y = 10 ∧ kwM y = -9) ∨ (1 ≤ (kwC y).toInt ∧ (kwC y).toInt ≤ 7 ∧ kwM y ≠ -9 ∧ (kwM y).toInt = (kwC y).toInt - 1) := by
  by_cases c0 : y = kwK 0
  · subst c0; right; decide +kernel
  by_cases c1 : y = kwK 1
  · subst c1; right; decide +kernel
  by_cases c2 : y = kwK 2
  · subst c2; right; decide +kernel
  by_cases c3 : y = kwK 3
  · subst c3; right; decide +kernel
  by_cases c4 : y = kwK 4
  · subst c4; right; decide +kernel
  by_cases c5 : y = kwK 5
  · subst c5; right; decide +kernel
  by_cases c6 : y = kwK 6
  · subst c6; right; decide +kernel
  left
  unfold kwC kwM
  rw [if_neg c0, if_neg c1, if_neg c2, if_neg c3, if_neg c4, if_neg c5, if_neg c6, if_neg c5, if_neg c6, if_neg c3, if_neg c4, if_neg c0, if_neg c1, if_neg c2]
  exact ⟨rfl, rfl⟩
theorem accW_big {b : Nat → Int32} {s : Nat} : ∀ d : Nat, accW b s (7 + d) = accW b s 7
  | 0 => rfl
  | d + 1 => by
    rw [← accW_big d]
    show (if 7 + d < 7 then _ else _) = _
    rw [if_neg (by omega)]
    rfl
theorem accK_0 {b : Nat → Int32} {s m : Nat} (h : ∀ j : Nat, j < m → 97 ≤ (b (s + j)).toInt ∧ (b (s + j)).toInt ≤ 122) : accW b s m = 1818324581 ↔ m = 4 ∧ (b (s + 0)).toInt = 108 ∧ (b (s + 1)).toInt = 97 ∧ (b (s + 2)).toInt = 110 ∧ (b (s + 3)).toInt = 101 := by
  rcases (show m = 0 ∨ m = 1 ∨ m = 2 ∨ m = 3 ∨ m = 4 ∨ m = 5 ∨ m = 6 ∨ 7 ≤ m by omega) with e | e | e | e | e | e | e | e
  · subst e; simp only [accW, Nat.zero_lt_succ, reduceIte, Nat.reduceLT]; omega
  · subst e; have h0 := h 0 (by omega); simp only [accW, Nat.zero_lt_succ, reduceIte, Nat.reduceLT]; omega
  · subst e; have h0 := h 0 (by omega); have h1 := h 1 (by omega); simp only [accW, Nat.zero_lt_succ, reduceIte, Nat.reduceLT]; omega
  · subst e; have h0 := h 0 (by omega); have h1 := h 1 (by omega); have h2 := h 2 (by omega); simp only [accW, Nat.zero_lt_succ, reduceIte, Nat.reduceLT]; omega
  · subst e; have h0 := h 0 (by omega); have h1 := h 1 (by omega); have h2 := h 2 (by omega); have h3 := h 3 (by omega); simp only [accW, Nat.zero_lt_succ, reduceIte, Nat.reduceLT]; exact ⟨fun z => ⟨trivial, by omega, by omega, by omega, by omega⟩, fun z => by obtain ⟨-, a0, a1, a2, a3⟩ := z; omega⟩
  · subst e; have h0 := h 0 (by omega); have h1 := h 1 (by omega); have h2 := h 2 (by omega); have h3 := h 3 (by omega); have h4 := h 4 (by omega); simp only [accW, Nat.zero_lt_succ, reduceIte, Nat.reduceLT]; omega
  · subst e; have h0 := h 0 (by omega); have h1 := h 1 (by omega); have h2 := h 2 (by omega); have h3 := h 3 (by omega); have h4 := h 4 (by omega); have h5 := h 5 (by omega); simp only [accW, Nat.zero_lt_succ, reduceIte, Nat.reduceLT]; omega
  · obtain ⟨d, rfl⟩ : ∃ d, m = 7 + d := ⟨m - 7, by omega⟩
    rw [accW_big]; have h0 := h 0 (by omega); have h1 := h 1 (by omega); have h2 := h 2 (by omega); have h3 := h 3 (by omega); have h4 := h 4 (by omega); have h5 := h 5 (by omega); have h6 := h 6 (by omega); simp only [accW, Nat.zero_lt_succ, reduceIte, Nat.reduceLT]; omega
theorem accK_1 {b : Nat → Int32} {s m : Nat} (h : ∀ j : Nat, j < m → 97 ≤ (b (s + j)).toInt ∧ (b (s + j)).toInt ≤ 122) : accW b s m = 2003398244 ↔ m = 4 ∧ (b (s + 0)).toInt = 119 ∧ (b (s + 1)).toInt = 105 ∧ (b (s + 2)).toInt = 110 ∧ (b (s + 3)).toInt = 100 := by
  rcases (show m = 0 ∨ m = 1 ∨ m = 2 ∨ m = 3 ∨ m = 4 ∨ m = 5 ∨ m = 6 ∨ 7 ≤ m by omega) with e | e | e | e | e | e | e | e
  · subst e; simp only [accW, Nat.zero_lt_succ, reduceIte, Nat.reduceLT]; omega
  · subst e; have h0 := h 0 (by omega); simp only [accW, Nat.zero_lt_succ, reduceIte, Nat.reduceLT]; omega
  · subst e; have h0 := h 0 (by omega); have h1 := h 1 (by omega); simp only [accW, Nat.zero_lt_succ, reduceIte, Nat.reduceLT]; omega
  · subst e; have h0 := h 0 (by omega); have h1 := h 1 (by omega); have h2 := h 2 (by omega); simp only [accW, Nat.zero_lt_succ, reduceIte, Nat.reduceLT]; omega
  · subst e; have h0 := h 0 (by omega); have h1 := h 1 (by omega); have h2 := h 2 (by omega); have h3 := h 3 (by omega); simp only [accW, Nat.zero_lt_succ, reduceIte, Nat.reduceLT]; exact ⟨fun z => ⟨trivial, by omega, by omega, by omega, by omega⟩, fun z => by obtain ⟨-, a0, a1, a2, a3⟩ := z; omega⟩
  · subst e; have h0 := h 0 (by omega); have h1 := h 1 (by omega); have h2 := h 2 (by omega); have h3 := h 3 (by omega); have h4 := h 4 (by omega); simp only [accW, Nat.zero_lt_succ, reduceIte, Nat.reduceLT]; omega
  · subst e; have h0 := h 0 (by omega); have h1 := h 1 (by omega); have h2 := h 2 (by omega); have h3 := h 3 (by omega); have h4 := h 4 (by omega); have h5 := h 5 (by omega); simp only [accW, Nat.zero_lt_succ, reduceIte, Nat.reduceLT]; omega
  · obtain ⟨d, rfl⟩ : ∃ d, m = 7 + d := ⟨m - 7, by omega⟩
    rw [accW_big]; have h0 := h 0 (by omega); have h1 := h 1 (by omega); have h2 := h 2 (by omega); have h3 := h 3 (by omega); have h4 := h 4 (by omega); have h5 := h 5 (by omega); have h6 := h 6 (by omega); simp only [accW, Nat.zero_lt_succ, reduceIte, Nat.reduceLT]; omega
theorem accK_2 {b : Nat → Int32} {s m : Nat} (h : ∀ j : Nat, j < m → 97 ≤ (b (s + j)).toInt ∧ (b (s + j)).toInt ≤ 122) : accW b s m = 7824756 ↔ m = 3 ∧ (b (s + 0)).toInt = 119 ∧ (b (s + 1)).toInt = 101 ∧ (b (s + 2)).toInt = 116 := by
  rcases (show m = 0 ∨ m = 1 ∨ m = 2 ∨ m = 3 ∨ m = 4 ∨ m = 5 ∨ m = 6 ∨ 7 ≤ m by omega) with e | e | e | e | e | e | e | e
  · subst e; simp only [accW, Nat.zero_lt_succ, reduceIte, Nat.reduceLT]; omega
  · subst e; have h0 := h 0 (by omega); simp only [accW, Nat.zero_lt_succ, reduceIte, Nat.reduceLT]; omega
  · subst e; have h0 := h 0 (by omega); have h1 := h 1 (by omega); simp only [accW, Nat.zero_lt_succ, reduceIte, Nat.reduceLT]; omega
  · subst e; have h0 := h 0 (by omega); have h1 := h 1 (by omega); have h2 := h 2 (by omega); simp only [accW, Nat.zero_lt_succ, reduceIte, Nat.reduceLT]; exact ⟨fun z => ⟨trivial, by omega, by omega, by omega⟩, fun z => by obtain ⟨-, a0, a1, a2⟩ := z; omega⟩
  · subst e; have h0 := h 0 (by omega); have h1 := h 1 (by omega); have h2 := h 2 (by omega); have h3 := h 3 (by omega); simp only [accW, Nat.zero_lt_succ, reduceIte, Nat.reduceLT]; omega
  · subst e; have h0 := h 0 (by omega); have h1 := h 1 (by omega); have h2 := h 2 (by omega); have h3 := h 3 (by omega); have h4 := h 4 (by omega); simp only [accW, Nat.zero_lt_succ, reduceIte, Nat.reduceLT]; omega
  · subst e; have h0 := h 0 (by omega); have h1 := h 1 (by omega); have h2 := h 2 (by omega); have h3 := h 3 (by omega); have h4 := h 4 (by omega); have h5 := h 5 (by omega); simp only [accW, Nat.zero_lt_succ, reduceIte, Nat.reduceLT]; omega
  · obtain ⟨d, rfl⟩ : ∃ d, m = 7 + d := ⟨m - 7, by omega⟩
    rw [accW_big]; have h0 := h 0 (by omega); have h1 := h 1 (by omega); have h2 := h 2 (by omega); have h3 := h 3 (by omega); have h4 := h 4 (by omega); have h5 := h 5 (by omega); have h6 := h 6 (by omega); simp only [accW, Nat.zero_lt_succ, reduceIte, Nat.reduceLT]; omega
theorem accK_3 {b : Nat → Int32} {s m : Nat} (h : ∀ j : Nat, j < m → 97 ≤ (b (s + j)).toInt ∧ (b (s + j)).toInt ≤ 122) : accW b s m = 125848689468786 ↔ m = 6 ∧ (b (s + 0)).toInt = 114 ∧ (b (s + 1)).toInt = 117 ∧ (b (s + 2)).toInt = 110 ∧ (b (s + 3)).toInt = 110 ∧ (b (s + 4)).toInt = 101 ∧ (b (s + 5)).toInt = 114 := by
  rcases (show m = 0 ∨ m = 1 ∨ m = 2 ∨ m = 3 ∨ m = 4 ∨ m = 5 ∨ m = 6 ∨ 7 ≤ m by omega) with e | e | e | e | e | e | e | e
  · subst e; simp only [accW, Nat.zero_lt_succ, reduceIte, Nat.reduceLT]; omega
  · subst e; have h0 := h 0 (by omega); simp only [accW, Nat.zero_lt_succ, reduceIte, Nat.reduceLT]; omega
  · subst e; have h0 := h 0 (by omega); have h1 := h 1 (by omega); simp only [accW, Nat.zero_lt_succ, reduceIte, Nat.reduceLT]; omega
  · subst e; have h0 := h 0 (by omega); have h1 := h 1 (by omega); have h2 := h 2 (by omega); simp only [accW, Nat.zero_lt_succ, reduceIte, Nat.reduceLT]; omega
  · subst e; have h0 := h 0 (by omega); have h1 := h 1 (by omega); have h2 := h 2 (by omega); have h3 := h 3 (by omega); simp only [accW, Nat.zero_lt_succ, reduceIte, Nat.reduceLT]; omega
  · subst e; have h0 := h 0 (by omega); have h1 := h 1 (by omega); have h2 := h 2 (by omega); have h3 := h 3 (by omega); have h4 := h 4 (by omega); simp only [accW, Nat.zero_lt_succ, reduceIte, Nat.reduceLT]; omega
  · subst e; have h0 := h 0 (by omega); have h1 := h 1 (by omega); have h2 := h 2 (by omega); have h3 := h 3 (by omega); have h4 := h 4 (by omega); have h5 := h 5 (by omega); simp only [accW, Nat.zero_lt_succ, reduceIte, Nat.reduceLT]; exact ⟨fun z => ⟨trivial, by omega, by omega, by omega, by omega, by omega, by omega⟩, fun z => by obtain ⟨-, a0, a1, a2, a3, a4, a5⟩ := z; omega⟩
  · obtain ⟨d, rfl⟩ : ∃ d, m = 7 + d := ⟨m - 7, by omega⟩
    rw [accW_big]; have h0 := h 0 (by omega); have h1 := h 1 (by omega); have h2 := h 2 (by omega); have h3 := h 3 (by omega); have h4 := h 4 (by omega); have h5 := h 5 (by omega); have h6 := h 6 (by omega); simp only [accW, Nat.zero_lt_succ, reduceIte, Nat.reduceLT]; omega
theorem accK_4 {b : Nat → Int32} {s m : Nat} (h : ∀ j : Nat, j < m → 97 ≤ (b (s + j)).toInt ∧ (b (s + j)).toInt ≤ 122) : accW b s m = 1919905893 ↔ m = 4 ∧ (b (s + 0)).toInt = 114 ∧ (b (s + 1)).toInt = 111 ∧ (b (s + 2)).toInt = 112 ∧ (b (s + 3)).toInt = 101 := by
  rcases (show m = 0 ∨ m = 1 ∨ m = 2 ∨ m = 3 ∨ m = 4 ∨ m = 5 ∨ m = 6 ∨ 7 ≤ m by omega) with e | e | e | e | e | e | e | e
  · subst e; simp only [accW, Nat.zero_lt_succ, reduceIte, Nat.reduceLT]; omega
  · subst e; have h0 := h 0 (by omega); simp only [accW, Nat.zero_lt_succ, reduceIte, Nat.reduceLT]; omega
  · subst e; have h0 := h 0 (by omega); have h1 := h 1 (by omega); simp only [accW, Nat.zero_lt_succ, reduceIte, Nat.reduceLT]; omega
  · subst e; have h0 := h 0 (by omega); have h1 := h 1 (by omega); have h2 := h 2 (by omega); simp only [accW, Nat.zero_lt_succ, reduceIte, Nat.reduceLT]; omega
  · subst e; have h0 := h 0 (by omega); have h1 := h 1 (by omega); have h2 := h 2 (by omega); have h3 := h 3 (by omega); simp only [accW, Nat.zero_lt_succ, reduceIte, Nat.reduceLT]; exact ⟨fun z => ⟨trivial, by omega, by omega, by omega, by omega⟩, fun z => by obtain ⟨-, a0, a1, a2, a3⟩ := z; omega⟩
  · subst e; have h0 := h 0 (by omega); have h1 := h 1 (by omega); have h2 := h 2 (by omega); have h3 := h 3 (by omega); have h4 := h 4 (by omega); simp only [accW, Nat.zero_lt_succ, reduceIte, Nat.reduceLT]; omega
  · subst e; have h0 := h 0 (by omega); have h1 := h 1 (by omega); have h2 := h 2 (by omega); have h3 := h 3 (by omega); have h4 := h 4 (by omega); have h5 := h 5 (by omega); simp only [accW, Nat.zero_lt_succ, reduceIte, Nat.reduceLT]; omega
  · obtain ⟨d, rfl⟩ : ∃ d, m = 7 + d := ⟨m - 7, by omega⟩
    rw [accW_big]; have h0 := h 0 (by omega); have h1 := h 1 (by omega); have h2 := h 2 (by omega); have h3 := h 3 (by omega); have h4 := h 4 (by omega); have h5 := h 5 (by omega); have h6 := h 6 (by omega); simp only [accW, Nat.zero_lt_succ, reduceIte, Nat.reduceLT]; omega
theorem accK_5 {b : Nat → Int32} {s m : Nat} (h : ∀ j : Nat, j < m → 97 ≤ (b (s + j)).toInt ∧ (b (s + j)).toInt ≤ 122) : accW b s m = 1852138852 ↔ m = 4 ∧ (b (s + 0)).toInt = 110 ∧ (b (s + 1)).toInt = 101 ∧ (b (s + 2)).toInt = 101 ∧ (b (s + 3)).toInt = 100 := by
  rcases (show m = 0 ∨ m = 1 ∨ m = 2 ∨ m = 3 ∨ m = 4 ∨ m = 5 ∨ m = 6 ∨ 7 ≤ m by omega) with e | e | e | e | e | e | e | e
  · subst e; simp only [accW, Nat.zero_lt_succ, reduceIte, Nat.reduceLT]; omega
  · subst e; have h0 := h 0 (by omega); simp only [accW, Nat.zero_lt_succ, reduceIte, Nat.reduceLT]; omega
  · subst e; have h0 := h 0 (by omega); have h1 := h 1 (by omega); simp only [accW, Nat.zero_lt_succ, reduceIte, Nat.reduceLT]; omega
  · subst e; have h0 := h 0 (by omega); have h1 := h 1 (by omega); have h2 := h 2 (by omega); simp only [accW, Nat.zero_lt_succ, reduceIte, Nat.reduceLT]; omega
  · subst e; have h0 := h 0 (by omega); have h1 := h 1 (by omega); have h2 := h 2 (by omega); have h3 := h 3 (by omega); simp only [accW, Nat.zero_lt_succ, reduceIte, Nat.reduceLT]; exact ⟨fun z => ⟨trivial, by omega, by omega, by omega, by omega⟩, fun z => by obtain ⟨-, a0, a1, a2, a3⟩ := z; omega⟩
  · subst e; have h0 := h 0 (by omega); have h1 := h 1 (by omega); have h2 := h 2 (by omega); have h3 := h 3 (by omega); have h4 := h 4 (by omega); simp only [accW, Nat.zero_lt_succ, reduceIte, Nat.reduceLT]; omega
  · subst e; have h0 := h 0 (by omega); have h1 := h 1 (by omega); have h2 := h 2 (by omega); have h3 := h 3 (by omega); have h4 := h 4 (by omega); have h5 := h 5 (by omega); simp only [accW, Nat.zero_lt_succ, reduceIte, Nat.reduceLT]; omega
  · obtain ⟨d, rfl⟩ : ∃ d, m = 7 + d := ⟨m - 7, by omega⟩
    rw [accW_big]; have h0 := h 0 (by omega); have h1 := h 1 (by omega); have h2 := h 2 (by omega); have h3 := h 3 (by omega); have h4 := h 4 (by omega); have h5 := h 5 (by omega); have h6 := h 6 (by omega); simp only [accW, Nat.zero_lt_succ, reduceIte, Nat.reduceLT]; omega
theorem accK_6 {b : Nat → Int32} {s m : Nat} (h : ∀ j : Nat, j < m → 97 ≤ (b (s + j)).toInt ∧ (b (s + j)).toInt ≤ 122) : accW b s m = 1685221232 ↔ m = 4 ∧ (b (s + 0)).toInt = 100 ∧ (b (s + 1)).toInt = 114 ∧ (b (s + 2)).toInt = 111 ∧ (b (s + 3)).toInt = 112 := by
  rcases (show m = 0 ∨ m = 1 ∨ m = 2 ∨ m = 3 ∨ m = 4 ∨ m = 5 ∨ m = 6 ∨ 7 ≤ m by omega) with e | e | e | e | e | e | e | e
  · subst e; simp only [accW, Nat.zero_lt_succ, reduceIte, Nat.reduceLT]; omega
  · subst e; have h0 := h 0 (by omega); simp only [accW, Nat.zero_lt_succ, reduceIte, Nat.reduceLT]; omega
  · subst e; have h0 := h 0 (by omega); have h1 := h 1 (by omega); simp only [accW, Nat.zero_lt_succ, reduceIte, Nat.reduceLT]; omega
  · subst e; have h0 := h 0 (by omega); have h1 := h 1 (by omega); have h2 := h 2 (by omega); simp only [accW, Nat.zero_lt_succ, reduceIte, Nat.reduceLT]; omega
  · subst e; have h0 := h 0 (by omega); have h1 := h 1 (by omega); have h2 := h 2 (by omega); have h3 := h 3 (by omega); simp only [accW, Nat.zero_lt_succ, reduceIte, Nat.reduceLT]; exact ⟨fun z => ⟨trivial, by omega, by omega, by omega, by omega⟩, fun z => by obtain ⟨-, a0, a1, a2, a3⟩ := z; omega⟩
  · subst e; have h0 := h 0 (by omega); have h1 := h 1 (by omega); have h2 := h 2 (by omega); have h3 := h 3 (by omega); have h4 := h 4 (by omega); simp only [accW, Nat.zero_lt_succ, reduceIte, Nat.reduceLT]; omega
  · subst e; have h0 := h 0 (by omega); have h1 := h 1 (by omega); have h2 := h 2 (by omega); have h3 := h 3 (by omega); have h4 := h 4 (by omega); have h5 := h 5 (by omega); simp only [accW, Nat.zero_lt_succ, reduceIte, Nat.reduceLT]; omega
  · obtain ⟨d, rfl⟩ : ∃ d, m = 7 + d := ⟨m - 7, by omega⟩
    rw [accW_big]; have h0 := h 0 (by omega); have h1 := h 1 (by omega); have h2 := h 2 (by omega); have h3 := h 3 (by omega); have h4 := h 4 (by omega); have h5 := h 5 (by omega); have h6 := h 6 (by omega); simp only [accW, Nat.zero_lt_succ, reduceIte, Nat.reduceLT]; omega
theorem tlen (S : St) : ∀ t : Nat, t < 7 → f_J0_length_8abf5 S t = some (Int32.ofNat (txL.getD t 0))
  | 0, _ => rfl
  | 1, _ => rfl
  | 2, _ => rfl
  | 3, _ => rfl
  | 4, _ => rfl
  | 5, _ => rfl
  | 6, _ => rfl
  | t + 7, h => absurd h (by omega)
theorem txL_lt6 : ∀ i : Fin 7, txL.getD i.val 0 ≤ 6 := by decide
theorem tchar0 : ∀ t : Fin 7, ∀ x : Fin 6, x.val < txL.getD t.val 0 → f_J0_charAt_5068e S0 t.val (Int32.ofNat x.val) = some ((txB.getD t.val []).getD x.val 0) := by decide +kernel
theorem tchar (S : St) {t x : Nat} (ht : t < 7) (hx : x < txL.getD t 0) : f_J0_charAt_5068e S t (Int32.ofNat x) = some ((txB.getD t []).getD x 0) :=
  tchar0 ⟨t, ht⟩ ⟨x, Nat.lt_of_lt_of_le hx (txL_lt6 ⟨t, ht⟩)⟩ hx
theorem ofN {x : Nat} (h : x < 1000) : (Int32.ofNat x).toInt = x := Int32.toInt_ofNat_of_lt (by omega)
theorem ofN1 {x : Nat} : Int32.ofNat x + 1 = Int32.ofNat (x + 1) := (Int32.ofNat_add x 1).symm
theorem hold_loop {S : St} {b : Nat → Int32} {L st : Int32} (hS : cTx S b L) (hb : Tb b L) (N : Nat) {t : Nat} (ht : t < 7) (h0 : 0 ≤ st.toInt) (h1 : st.toInt + txL.getD t 0 ≤ L.toInt) : ∀ (m x f : Nat), txL.getD t 0 - x = m → x ≤ txL.getD t 0 → m < f → ∃ r : Int32, g_X8_holds_28 N S t st f (Int32.ofNat x) = some r ∧ (r = 0 ∨ r = 1) ∧ (r = 1 ↔ ∀ j : Nat, x ≤ j → j < txL.getD t 0 → b (st.toNatClampNeg + j) = (txB.getD t []).getD j 0) := by
  have hL := hb.2.1
  have hl6 : txL.getD t 0 ≤ 6 := txL_lt6 ⟨t, ht⟩
  intro m
  induction m with
  | zero =>
    intro x f hm hx hf
    obtain ⟨f, rfl⟩ : ∃ f', f = f' + 1 := ⟨f - 1, by omega⟩
    refine ⟨1, ?_, Or.inr rfl, ⟨fun _ j j1 j2 => by omega, fun _ => rfl⟩⟩
    show s_X8_holds_28 N S t st _ _ = _
    unfold s_X8_holds_28
    rw [tlen S t ht, bs, if_pos (by rw [zle, ofN (by omega), ofN (by omega)]; omega)]
  | succ m ih =>
    intro x f hm hx hf
    obtain ⟨f, rfl⟩ : ∃ f', f = f' + 1 := ⟨f - 1, by omega⟩
    have ex := ofN (x := x) (by omega)
    have es : (st + Int32.ofNat x).toInt = st.toInt + x := by rw [zadd (by rw [ex]; omega) (by rw [ex]; omega), ex]
    have en : (st + Int32.ofNat x).toNatClampNeg = st.toNatClampNeg + x := by rw [znat, znat, es]; omega
    have eb : gA S 2 (st.toNatClampNeg + x) = b (st.toNatClampNeg + x) := hS.2 _ (by rw [znat]; omega)
    have go : g_X8_holds_28 N S t st (f + 1) (Int32.ofNat x) = if b (st.toNatClampNeg + x) = (txB.getD t []).getD x 0 then g_X8_holds_28 N S t st f (Int32.ofNat (x + 1)) else some 0 := by
      show s_X8_holds_28 N S t st _ _ = _
      unfold s_X8_holds_28
      rw [tlen S t ht, bs, if_neg (by rw [zle, ofN (by omega), ofN (by omega)]; omega), if_neg (gok (by rw [es]; omega) (by rw [es]; omega)), tchar S ht (by omega), bs, en, eb, ofN1]
    rw [go]
    by_cases c : b (st.toNatClampNeg + x) = (txB.getD t []).getD x 0
    · rw [if_pos c]
      obtain ⟨r, r1, r2, r3⟩ := ih (x + 1) f (by omega) (by omega) (by omega)
      refine ⟨r, r1, r2, r3.trans ⟨fun h j j1 j2 => ?_, fun h j j1 j2 => h j (by omega) j2⟩⟩
      by_cases cj : j = x
      · rw [cj]; exact c
      · exact h j (by omega) j2
    · rw [if_neg c]
      exact ⟨0, rfl, Or.inl rfl, ⟨fun h => absurd h (by decide), fun h => absurd (h x (Nat.le_refl _) (by omega)) c⟩⟩
theorem cHolds {S : St} {b : Nat → Int32} {L st q : Int32} (hS : cTx S b L) (hb : Tb b L) {N : Nat} (hN : 100 ≤ N) {t : Nat} (ht : t < 7) (h0 : 0 ≤ st.toInt) (h1 : st.toInt ≤ q.toInt) (h2 : q.toInt ≤ L.toInt) : ∃ r : Int32, f_X8_holds N S t st q = some r ∧ (r = 0 ∨ r = 1) ∧ (r = 1 ↔ (q.toInt - st.toInt).toNat = txL.getD t 0 ∧ ∀ j : Nat, j < txL.getD t 0 → b (st.toNatClampNeg + j) = (txB.getD t []).getD j 0) := by
  have hL := hb.2.1
  have hl6 : txL.getD t 0 ≤ 6 := txL_lt6 ⟨t, ht⟩
  have es : (q - st).toInt = q.toInt - st.toInt := zsub (by omega) (by omega)
  unfold f_X8_holds
  rw [if_neg (by rw [zlt, z0]; omega), if_neg (by rw [zlt, z300]; omega), tlen S t ht, bs]
  by_cases c : q - st = Int32.ofNat (txL.getD t 0)
  · rw [if_pos c]
    rw [zeq, es, ofN (by omega)] at c
    obtain ⟨r, r1, r2, r3⟩ := hold_loop hS hb N ht h0 (by omega) (txL.getD t 0) 0 N rfl (Nat.zero_le _) (by omega)
    exact ⟨r, r1, r2, r3.trans ⟨fun h => ⟨by omega, fun j j2 => h j (Nat.zero_le _) j2⟩, fun h j _ j2 => h.2 j j2⟩⟩
  · rw [if_neg c]
    rw [zeq, es, ofN (by omega)] at c
    exact ⟨0, rfl, Or.inl rfl, ⟨fun h => absurd h (by decide), fun h => absurd (by omega) c⟩⟩
theorem cH_0 {S : St} {b : Nat → Int32} {L st q : Int32} (hS : cTx S b L) (hb : Tb b L) {N : Nat} (hN : 100 ≤ N) (h0 : 0 ≤ st.toInt) (h1 : st.toInt ≤ q.toInt) (h2 : q.toInt ≤ L.toInt) (hl : ∀ j : Nat, st.toInt ≤ j → (j : Int) < q.toInt → 97 ≤ (b j).toInt ∧ (b j).toInt ≤ 122) {y : Int64} (hy : y.toInt = accW b st.toNatClampNeg (q.toInt - st.toInt).toNat) : f_X8_holds N S 0 st q = some (if y = kwK 0 then 1 else 0) := by
  obtain ⟨r, r1, r2, r3⟩ := cHolds hS hb hN (t := 0) (by decide) h0 h1 h2
  have ha := accK_0 (b := b) (s := st.toNatClampNeg) (m := (q.toInt - st.toInt).toNat) (fun j hj => hl _ (by rw [znat]; omega) (by rw [znat]; omega))
  have hk : y = kwK 0 ↔ r = 1 := by
    rw [j64, hy, show (kwK 0).toInt = 1818324581 by decide +kernel, ha, r3]
    refine ⟨fun h => ⟨h.1, fun j hj => ?_⟩, fun h => ⟨h.1, ?_⟩⟩
    · have hj : j < 4 := hj
      obtain ⟨-, ⟨a0, a1, a2, a3⟩⟩ := h
      rcases (show j = 0 ∨ j = 1 ∨ j = 2 ∨ j = 3 by omega) with rfl | rfl | rfl | rfl
      · rw [zeq, a0]; decide
      · rw [zeq, a1]; decide
      · rw [zeq, a2]; decide
      · rw [zeq, a3]; decide
    · exact ⟨by rw [h.2 0 (by decide)]; decide, by rw [h.2 1 (by decide)]; decide, by rw [h.2 2 (by decide)]; decide, by rw [h.2 3 (by decide)]; decide⟩
  rw [r1]
  rcases r2 with rfl | rfl
  · rw [if_neg (fun h => absurd (hk.mp h) (by decide))]
  · rw [if_pos (hk.mpr rfl)]
theorem cH_1 {S : St} {b : Nat → Int32} {L st q : Int32} (hS : cTx S b L) (hb : Tb b L) {N : Nat} (hN : 100 ≤ N) (h0 : 0 ≤ st.toInt) (h1 : st.toInt ≤ q.toInt) (h2 : q.toInt ≤ L.toInt) (hl : ∀ j : Nat, st.toInt ≤ j → (j : Int) < q.toInt → 97 ≤ (b j).toInt ∧ (b j).toInt ≤ 122) {y : Int64} (hy : y.toInt = accW b st.toNatClampNeg (q.toInt - st.toInt).toNat) : f_X8_holds N S 1 st q = some (if y = kwK 1 then 1 else 0) := by
  obtain ⟨r, r1, r2, r3⟩ := cHolds hS hb hN (t := 1) (by decide) h0 h1 h2
  have ha := accK_1 (b := b) (s := st.toNatClampNeg) (m := (q.toInt - st.toInt).toNat) (fun j hj => hl _ (by rw [znat]; omega) (by rw [znat]; omega))
  have hk : y = kwK 1 ↔ r = 1 := by
    rw [j64, hy, show (kwK 1).toInt = 2003398244 by decide +kernel, ha, r3]
    refine ⟨fun h => ⟨h.1, fun j hj => ?_⟩, fun h => ⟨h.1, ?_⟩⟩
    · have hj : j < 4 := hj
      obtain ⟨-, ⟨a0, a1, a2, a3⟩⟩ := h
      rcases (show j = 0 ∨ j = 1 ∨ j = 2 ∨ j = 3 by omega) with rfl | rfl | rfl | rfl
      · rw [zeq, a0]; decide
      · rw [zeq, a1]; decide
      · rw [zeq, a2]; decide
      · rw [zeq, a3]; decide
    · exact ⟨by rw [h.2 0 (by decide)]; decide, by rw [h.2 1 (by decide)]; decide, by rw [h.2 2 (by decide)]; decide, by rw [h.2 3 (by decide)]; decide⟩
  rw [r1]
  rcases r2 with rfl | rfl
  · rw [if_neg (fun h => absurd (hk.mp h) (by decide))]
  · rw [if_pos (hk.mpr rfl)]
theorem cH_2 {S : St} {b : Nat → Int32} {L st q : Int32} (hS : cTx S b L) (hb : Tb b L) {N : Nat} (hN : 100 ≤ N) (h0 : 0 ≤ st.toInt) (h1 : st.toInt ≤ q.toInt) (h2 : q.toInt ≤ L.toInt) (hl : ∀ j : Nat, st.toInt ≤ j → (j : Int) < q.toInt → 97 ≤ (b j).toInt ∧ (b j).toInt ≤ 122) {y : Int64} (hy : y.toInt = accW b st.toNatClampNeg (q.toInt - st.toInt).toNat) : f_X8_holds N S 2 st q = some (if y = kwK 2 then 1 else 0) := by
  obtain ⟨r, r1, r2, r3⟩ := cHolds hS hb hN (t := 2) (by decide) h0 h1 h2
  have ha := accK_2 (b := b) (s := st.toNatClampNeg) (m := (q.toInt - st.toInt).toNat) (fun j hj => hl _ (by rw [znat]; omega) (by rw [znat]; omega))
  have hk : y = kwK 2 ↔ r = 1 := by
    rw [j64, hy, show (kwK 2).toInt = 7824756 by decide +kernel, ha, r3]
    refine ⟨fun h => ⟨h.1, fun j hj => ?_⟩, fun h => ⟨h.1, ?_⟩⟩
    · have hj : j < 3 := hj
      obtain ⟨-, ⟨a0, a1, a2⟩⟩ := h
      rcases (show j = 0 ∨ j = 1 ∨ j = 2 by omega) with rfl | rfl | rfl
      · rw [zeq, a0]; decide
      · rw [zeq, a1]; decide
      · rw [zeq, a2]; decide
    · exact ⟨by rw [h.2 0 (by decide)]; decide, by rw [h.2 1 (by decide)]; decide, by rw [h.2 2 (by decide)]; decide⟩
  rw [r1]
  rcases r2 with rfl | rfl
  · rw [if_neg (fun h => absurd (hk.mp h) (by decide))]
  · rw [if_pos (hk.mpr rfl)]
theorem cH_3 {S : St} {b : Nat → Int32} {L st q : Int32} (hS : cTx S b L) (hb : Tb b L) {N : Nat} (hN : 100 ≤ N) (h0 : 0 ≤ st.toInt) (h1 : st.toInt ≤ q.toInt) (h2 : q.toInt ≤ L.toInt) (hl : ∀ j : Nat, st.toInt ≤ j → (j : Int) < q.toInt → 97 ≤ (b j).toInt ∧ (b j).toInt ≤ 122) {y : Int64} (hy : y.toInt = accW b st.toNatClampNeg (q.toInt - st.toInt).toNat) : f_X8_holds N S 3 st q = some (if y = kwK 3 then 1 else 0) := by
  obtain ⟨r, r1, r2, r3⟩ := cHolds hS hb hN (t := 3) (by decide) h0 h1 h2
  have ha := accK_3 (b := b) (s := st.toNatClampNeg) (m := (q.toInt - st.toInt).toNat) (fun j hj => hl _ (by rw [znat]; omega) (by rw [znat]; omega))
  have hk : y = kwK 3 ↔ r = 1 := by
    rw [j64, hy, show (kwK 3).toInt = 125848689468786 by decide +kernel, ha, r3]
    refine ⟨fun h => ⟨h.1, fun j hj => ?_⟩, fun h => ⟨h.1, ?_⟩⟩
    · have hj : j < 6 := hj
      obtain ⟨-, ⟨a0, a1, a2, a3, a4, a5⟩⟩ := h
      rcases (show j = 0 ∨ j = 1 ∨ j = 2 ∨ j = 3 ∨ j = 4 ∨ j = 5 by omega) with rfl | rfl | rfl | rfl | rfl | rfl
      · rw [zeq, a0]; decide
      · rw [zeq, a1]; decide
      · rw [zeq, a2]; decide
      · rw [zeq, a3]; decide
      · rw [zeq, a4]; decide
      · rw [zeq, a5]; decide
    · exact ⟨by rw [h.2 0 (by decide)]; decide, by rw [h.2 1 (by decide)]; decide, by rw [h.2 2 (by decide)]; decide, by rw [h.2 3 (by decide)]; decide, by rw [h.2 4 (by decide)]; decide, by rw [h.2 5 (by decide)]; decide⟩
  rw [r1]
  rcases r2 with rfl | rfl
  · rw [if_neg (fun h => absurd (hk.mp h) (by decide))]
  · rw [if_pos (hk.mpr rfl)]
theorem cH_4 {S : St} {b : Nat → Int32} {L st q : Int32} (hS : cTx S b L) (hb : Tb b L) {N : Nat} (hN : 100 ≤ N) (h0 : 0 ≤ st.toInt) (h1 : st.toInt ≤ q.toInt) (h2 : q.toInt ≤ L.toInt) (hl : ∀ j : Nat, st.toInt ≤ j → (j : Int) < q.toInt → 97 ≤ (b j).toInt ∧ (b j).toInt ≤ 122) {y : Int64} (hy : y.toInt = accW b st.toNatClampNeg (q.toInt - st.toInt).toNat) : f_X8_holds N S 4 st q = some (if y = kwK 4 then 1 else 0) := by
  obtain ⟨r, r1, r2, r3⟩ := cHolds hS hb hN (t := 4) (by decide) h0 h1 h2
  have ha := accK_4 (b := b) (s := st.toNatClampNeg) (m := (q.toInt - st.toInt).toNat) (fun j hj => hl _ (by rw [znat]; omega) (by rw [znat]; omega))
  have hk : y = kwK 4 ↔ r = 1 := by
    rw [j64, hy, show (kwK 4).toInt = 1919905893 by decide +kernel, ha, r3]
    refine ⟨fun h => ⟨h.1, fun j hj => ?_⟩, fun h => ⟨h.1, ?_⟩⟩
    · have hj : j < 4 := hj
      obtain ⟨-, ⟨a0, a1, a2, a3⟩⟩ := h
      rcases (show j = 0 ∨ j = 1 ∨ j = 2 ∨ j = 3 by omega) with rfl | rfl | rfl | rfl
      · rw [zeq, a0]; decide
      · rw [zeq, a1]; decide
      · rw [zeq, a2]; decide
      · rw [zeq, a3]; decide
    · exact ⟨by rw [h.2 0 (by decide)]; decide, by rw [h.2 1 (by decide)]; decide, by rw [h.2 2 (by decide)]; decide, by rw [h.2 3 (by decide)]; decide⟩
  rw [r1]
  rcases r2 with rfl | rfl
  · rw [if_neg (fun h => absurd (hk.mp h) (by decide))]
  · rw [if_pos (hk.mpr rfl)]
theorem cH_5 {S : St} {b : Nat → Int32} {L st q : Int32} (hS : cTx S b L) (hb : Tb b L) {N : Nat} (hN : 100 ≤ N) (h0 : 0 ≤ st.toInt) (h1 : st.toInt ≤ q.toInt) (h2 : q.toInt ≤ L.toInt) (hl : ∀ j : Nat, st.toInt ≤ j → (j : Int) < q.toInt → 97 ≤ (b j).toInt ∧ (b j).toInt ≤ 122) {y : Int64} (hy : y.toInt = accW b st.toNatClampNeg (q.toInt - st.toInt).toNat) : f_X8_holds N S 5 st q = some (if y = kwK 5 then 1 else 0) := by
  obtain ⟨r, r1, r2, r3⟩ := cHolds hS hb hN (t := 5) (by decide) h0 h1 h2
  have ha := accK_5 (b := b) (s := st.toNatClampNeg) (m := (q.toInt - st.toInt).toNat) (fun j hj => hl _ (by rw [znat]; omega) (by rw [znat]; omega))
  have hk : y = kwK 5 ↔ r = 1 := by
    rw [j64, hy, show (kwK 5).toInt = 1852138852 by decide +kernel, ha, r3]
    refine ⟨fun h => ⟨h.1, fun j hj => ?_⟩, fun h => ⟨h.1, ?_⟩⟩
    · have hj : j < 4 := hj
      obtain ⟨-, ⟨a0, a1, a2, a3⟩⟩ := h
      rcases (show j = 0 ∨ j = 1 ∨ j = 2 ∨ j = 3 by omega) with rfl | rfl | rfl | rfl
      · rw [zeq, a0]; decide
      · rw [zeq, a1]; decide
      · rw [zeq, a2]; decide
      · rw [zeq, a3]; decide
    · exact ⟨by rw [h.2 0 (by decide)]; decide, by rw [h.2 1 (by decide)]; decide, by rw [h.2 2 (by decide)]; decide, by rw [h.2 3 (by decide)]; decide⟩
  rw [r1]
  rcases r2 with rfl | rfl
  · rw [if_neg (fun h => absurd (hk.mp h) (by decide))]
  · rw [if_pos (hk.mpr rfl)]
theorem cH_6 {S : St} {b : Nat → Int32} {L st q : Int32} (hS : cTx S b L) (hb : Tb b L) {N : Nat} (hN : 100 ≤ N) (h0 : 0 ≤ st.toInt) (h1 : st.toInt ≤ q.toInt) (h2 : q.toInt ≤ L.toInt) (hl : ∀ j : Nat, st.toInt ≤ j → (j : Int) < q.toInt → 97 ≤ (b j).toInt ∧ (b j).toInt ≤ 122) {y : Int64} (hy : y.toInt = accW b st.toNatClampNeg (q.toInt - st.toInt).toNat) : f_X8_holds N S 6 st q = some (if y = kwK 6 then 1 else 0) := by
  obtain ⟨r, r1, r2, r3⟩ := cHolds hS hb hN (t := 6) (by decide) h0 h1 h2
  have ha := accK_6 (b := b) (s := st.toNatClampNeg) (m := (q.toInt - st.toInt).toNat) (fun j hj => hl _ (by rw [znat]; omega) (by rw [znat]; omega))
  have hk : y = kwK 6 ↔ r = 1 := by
    rw [j64, hy, show (kwK 6).toInt = 1685221232 by decide +kernel, ha, r3]
    refine ⟨fun h => ⟨h.1, fun j hj => ?_⟩, fun h => ⟨h.1, ?_⟩⟩
    · have hj : j < 4 := hj
      obtain ⟨-, ⟨a0, a1, a2, a3⟩⟩ := h
      rcases (show j = 0 ∨ j = 1 ∨ j = 2 ∨ j = 3 by omega) with rfl | rfl | rfl | rfl
      · rw [zeq, a0]; decide
      · rw [zeq, a1]; decide
      · rw [zeq, a2]; decide
      · rw [zeq, a3]; decide
    · exact ⟨by rw [h.2 0 (by decide)]; decide, by rw [h.2 1 (by decide)]; decide, by rw [h.2 2 (by decide)]; decide, by rw [h.2 3 (by decide)]; decide⟩
  rw [r1]
  rcases r2 with rfl | rfl
  · rw [if_neg (fun h => absurd (hk.mp h) (by decide))]
  · rw [if_pos (hk.mpr rfl)]
theorem readWord44 {S : St} {b : Nat → Int32} {L st q : Int32} (hS : cTx S b L) (hb : Tb b L) {N : Nat} (hN : 100 ≤ N) (h0 : 0 ≤ st.toInt) (h1 : st.toInt ≤ q.toInt) (h2 : q.toInt ≤ L.toInt) (hl : ∀ j : Nat, st.toInt ≤ j → (j : Int) < q.toInt → 97 ≤ (b j).toInt ∧ (b j).toInt ≤ 122) {y : Int64} (hy : y.toInt = accW b st.toNatClampNeg (q.toInt - st.toInt).toNat) (es : gI S 3 2 = st) (eq : gI S 3 1 = q) : f_X6_readWord_44 N S = some (sI S 3 3 (kwC y)) := by
  unfold f_X6_readWord_44 kwC
  rw [es, eq, cH_0 hS hb hN h0 h1 h2 hl hy, bs, if10, cH_1 hS hb hN h0 h1 h2 hl hy, bs, if10, cH_2 hS hb hN h0 h1 h2 hl hy, bs, if10, cH_3 hS hb hN h0 h1 h2 hl hy, bs, if10, cH_4 hS hb hN h0 h1 h2 hl hy, bs, if10, cH_5 hS hb hN h0 h1 h2 hl hy, bs, if10, cH_6 hS hb hN h0 h1 h2 hl hy, bs, if10]
  simp only [bnd_eq]
  by_cases c0 : y = kwK 0
  · rw [if_pos c0, if_pos c0]
  rw [if_neg c0, if_neg c0]
  by_cases c1 : y = kwK 1
  · rw [if_pos c1, if_pos c1]
  rw [if_neg c1, if_neg c1]
  by_cases c2 : y = kwK 2
  · rw [if_pos c2, if_pos c2]
  rw [if_neg c2, if_neg c2]
  by_cases c3 : y = kwK 3
  · rw [if_pos c3, if_pos c3]
  rw [if_neg c3, if_neg c3]
  by_cases c4 : y = kwK 4
  · rw [if_pos c4, if_pos c4]
  rw [if_neg c4, if_neg c4]
  by_cases c5 : y = kwK 5
  · rw [if_pos c5, if_pos c5]
  rw [if_neg c5, if_neg c5]
  by_cases c6 : y = kwK 6
  · rw [if_pos c6, if_pos c6]
  rw [if_neg c6, if_neg c6]
-- FILE 48c.next.lean.txt
/-! lane: the next token, of class and reference -/
def Tk (kd v : Int32) (T : St) : Prop := (kd = 0 ∧ gI T 0 5 = 0) ∨ ((1 ≤ kd.toInt ∧ kd.toInt ≤ 7) ∧ gI T 0 5 = 1 ∧ (gI T 0 7).toInt = kd.toInt - 1) ∨ (kd = 8 ∧ gI T 0 5 = 2 ∧ gI T 0 7 = v) ∨ (kd = 9 ∧ gI T 0 5 = 3) ∨ (kd = 10 ∧ gI T 0 5 = 4)
def Rd (N : Nat) (b : Nat → Int32) (L p q st kd v : Int32) : Prop := ∀ S : St, cTx S b L → gI S 3 1 = p → ∃ S', f_X6_readToken N S = some S' ∧ Sm S S' ciK caN ∧ gI S' 3 1 = q ∧ gI S' 3 2 = st ∧ gI S' 3 3 = kd ∧ (kd = 8 → gI S' 3 4 = v)
def Ad (N : Nat) (b : Nat → Int32) (L p q st kd v : Int32) : Prop := ∀ T : St, mTx T b L → gI T 0 4 = p → ∃ T', f_X10_advances N T = some T' ∧ Sm T T' ciV caN ∧ gI T' 0 4 = q ∧ gI T' 0 6 = st ∧ Tk kd v T'
theorem rd_pre {N : Nat} {S S1 : St} {b : Nat → Int32} {L st : Int32} (hb : Tb b L) (hS : cTx S1 b L) (h0 : 0 ≤ st.toInt) (h1 : st.toInt < L.toInt) (e : gI S1 3 1 = st) (hs : f_X6_skipBlanks N S = some S1) :
    f_X6_readToken N S = (if 97 ≤ (b st.toNatClampNeg).toInt ∧ (b st.toNatClampNeg).toInt ≤ 122 then f_X6_readWord N (sI S1 3 2 st) else if 48 ≤ (b st.toNatClampNeg).toInt ∧ (b st.toNatClampNeg).toInt ≤ 57 then f_X6_readDigits N (sI S1 3 2 st) else some (sI (sI (sI S1 3 2 st) 3 1 (st + 1)) 3 3 (if b st.toNatClampNeg = 59 then 9 else 10))) := by
  have hS2 : cTx (sI S1 3 2 st) b L := hS
  have e2 : gI (sI S1 3 2 st) 3 1 = st := e
  unfold f_X6_readToken
  rw [hs, bs, e, bnd_eq, e2, hS2.1, if_pos (by rw [zlt]; omega), cByte hS2 hb h0 h1, bs, letter_eq, bs, if10]
  by_cases c1 : 97 ≤ (b st.toNatClampNeg).toInt ∧ (b st.toNatClampNeg).toInt ≤ 122
  · rw [if_pos c1, if_pos c1]
    cases f_X6_readWord N (sI S1 3 2 st) <;> rfl
  rw [if_neg c1, if_neg c1, digit_eq, bs, if10]
  by_cases c2 : 48 ≤ (b st.toNatClampNeg).toInt ∧ (b st.toNatClampNeg).toInt ≤ 57
  · rw [if_pos c2, if_pos c2]
    cases f_X6_readDigits N (sI S1 3 2 st) <;> rfl
  rw [if_neg c2, if_neg c2, bnd_eq]
  unfold f_X6_readToken_96
  by_cases c3 : b st.toNatClampNeg = 59
  · rw [if_pos c3, if_pos c3, bnd_eq]
  · rw [if_neg c3, if_neg c3, bnd_eq]
theorem rd_end {N : Nat} {S S1 : St} {b : Nat → Int32} {L st : Int32} (hS : cTx S1 b L) (h1 : L.toInt ≤ st.toInt) (e : gI S1 3 1 = st) (hs : f_X6_skipBlanks N S = some S1) :
    f_X6_readToken N S = some (sI (sI S1 3 2 st) 3 3 0) := by
  have hS2 : cTx (sI S1 3 2 st) b L := hS
  have e2 : gI (sI S1 3 2 st) 3 1 = st := e
  unfold f_X6_readToken
  rw [hs, bs, e, bnd_eq, e2, hS2.1, if_neg (by rw [zlt]; omega), bnd_eq]
theorem dig_end {N : Nat} {S : St} {b : Nat → Int32} {L st q n v : Int32} (hb : Tb b L) (hS : cTx S b L) (h0 : 0 ≤ st.toInt) (h1 : st.toInt < L.toInt) (e1 : gI S 3 1 = q) (e2 : gI S 3 2 = st) (e4 : gI S 3 4 = n) (hq : st.toInt ≤ q.toInt) (hnv : nR n v) :
    f_X6_readDigits_80 N S = some (sI S 3 3 (if v.toInt ≤ 99 ∧ (b st.toNatClampNeg = 48 → q.toInt - st.toInt ≤ 1) then 8 else 10)) := by
  have eqs : (q - st).toInt = q.toInt - st.toInt := zsub (by have := zlo q; have := zhi q; omega) (by have := zhi q; omega)
  obtain ⟨v1, v2, v3⟩ := hnv
  have g0 : ∀ t, f_X6_readDigits_136 N S t = some (sI S 3 3 t) := fun t => rfl
  have g1 : f_X6_readDigits_129 N S = some (sI S 3 3 10) := rfl
  have g2 : f_X6_readDigits_114 N S 1 = some (sI S 3 3 10) := by
    unfold f_X6_readDigits_114; rw [if_neg (by decide), g1]
  have g3 : f_X6_readDigits_113 N S = some (sI S 3 3 (if v.toInt ≤ 99 then 8 else 10)) := by
    unfold f_X6_readDigits_113 f_X6_readDigits_114
    rw [if_pos rfl, e4]
    simp only [zle, z99, v3]
    by_cases c : v.toInt ≤ 99
    · rw [if_neg (show ¬ 100 ≤ v.toInt by omega), if_pos c, if_pos c, g0]
    · rw [if_pos (show 100 ≤ v.toInt by omega), if_neg (by omega), if_neg c, g1]
  unfold f_X6_readDigits_80
  rw [e1, e2, cByte hS hb h0 h1, bs, g2, g3]
  simp only [zle, z1, eqs]
  by_cases c : b st.toNatClampNeg = 48
  · rw [if_pos c]
    by_cases d : q.toInt - st.toInt ≤ 1
    · rw [if_pos d]
      congr 2
      exact ite_iff ⟨fun z => ⟨z, fun _ => d⟩, fun z => z.1⟩ _ _
    · rw [if_neg d, if_neg (fun z => d (z.2 c))]
  · rw [if_neg c]
    congr 2
    exact ite_iff ⟨fun z => ⟨z, fun z => absurd z c⟩, fun z => z.1⟩ _ _
theorem bool_neg {x : Int32} : ¬ ((0 : Int32) ≤ -1) := by decide
set_option maxHeartbeats 1000000 in
theorem l_tok {b : Nat → Int32} {L : Int32} (hb : Tb b L) {N : Nat} (hN : 1000 ≤ N) (p : Int32) (h0 : 0 ≤ p.toInt) (h1 : p.toInt ≤ L.toInt) : ∃ q st kd v : Int32, p.toInt ≤ st.toInt ∧ st.toInt ≤ q.toInt ∧ q.toInt ≤ L.toInt ∧ (kd ≠ 0 → p.toInt < q.toInt) ∧ Ad N b L p q st kd v ∧ Rd N b L p q st kd v := by
  have hL := hb.2.1
  obtain ⟨st, s1, s2, s3, s4⟩ := l_skip hb N (L.toInt - p.toInt).toNat p rfl h0 h1
  have hs0 : 0 ≤ st.toInt := by omega
  have hbn : ∀ (S : St), cTx S b L → gI S 3 1 = p → ∃ S1, f_X6_skipBlanks N S = some S1 ∧ Sm S S1 ciK caN ∧ gI S1 3 1 = st := fun S hS e => s4 S N hS e (by omega)
  have cK : ∀ {S S1 : St}, cTx S b L → Sm S S1 ciK caN → cTx S1 b L := fun h k => h.sm k (by omega) id
  have mV : ∀ {T T1 : St}, mTx T b L → Sm T T1 ciV caN → mTx T1 b L := fun h k => h.sm k (by omega) id
  by_cases cE : L.toInt ≤ st.toInt
  · refine ⟨st, st, 0, 0, by omega, by omega, s2, fun z => absurd rfl z, fun T hT e => ?_, fun S hS e => ?_⟩
    · obtain ⟨T1, t1, t2, t3⟩ := s3 T N hT e (by omega)
      have hT1 := mV hT t2
      have hT2 : mTx (sI T1 0 6 st) b L := hT1
      have e2 : gI (sI T1 0 6 st) 0 4 = st := t3
      refine ⟨sI (sI T1 0 6 st) 0 5 0, ?_, (t2.tr (Sm.sI _ _ (by omega))).tr (Sm.sI _ _ (by omega)), t3, rfl, Or.inl ⟨rfl, rfl⟩⟩
      unfold f_X10_advances
      rw [t1]
      rw [t3, bnd_eq, e2, mByteE hT2 cE, bs, if_neg (by decide), bnd_eq]
    · obtain ⟨S1, t1, t2, t3⟩ := hbn S hS e
      exact ⟨_, rd_end (cK hS t2) cE t3 t1, (t2.tr (Sm.sI _ _ (by omega))).tr (Sm.sI _ _ (by omega)), t3, rfl, rfl, fun z => absurd z (by decide)⟩
  · have hlt : st.toInt < L.toInt := by omega
    have hc := hb.2.2 st.toNatClampNeg (by rw [znat]; omega)
    generalize hcc : b st.toNatClampNeg = c at hc
    have mT2 : ∀ T1 : St, mTx T1 b L → gI T1 0 4 = st → mTx (sI T1 0 6 st) b L ∧ gI (sI T1 0 6 st) 0 4 = st := fun T1 h e => ⟨h, e⟩
    by_cases c1 : 97 ≤ c.toInt ∧ c.toInt ≤ 122
    · obtain ⟨q, y, w1, w2, w3, w4, w5, w6, w7⟩ := l_word hb N st hs0 (L.toInt - st.toInt).toNat st 0 rfl (by omega) (by omega) (fun j j1 j2 => by omega) (by rw [Int.sub_self]; rfl)
      have hq := w3 hlt (by rw [hcc]; exact c1)
      have hkd := kw_both y
      refine ⟨q, st, kwC y, 0, by omega, by omega, w2, fun _ => by omega, fun T hT e => ?_, fun S hS e => ?_⟩
      · obtain ⟨T1, t1, t2, t3⟩ := s3 T N hT e (by omega)
        obtain ⟨hT2, e2⟩ := mT2 T1 (mV hT t2) t3
        obtain ⟨T3, u1, u2, u3⟩ := w6 (sI T1 0 6 st) N hT2 e2 rfl (by omega)
        have e6 : gI T3 0 6 = st := (u2.1 0 6 (by omega)).trans rfl
        refine ⟨sI (sI T3 0 7 (kwM y)) 0 5 (if kwM y = -9 then 4 else 1), ?_, (((t2.tr (Sm.sI _ _ (by omega))).tr (u2.wk (fun c k z => by omega) (fun _ z => z))).tr (Sm.sI _ _ (by omega))).tr (Sm.sI _ _ (by omega)), u3, e6, ?_⟩
        · unfold f_X10_advances
          rw [t1]
          rw [t3, bnd_eq, e2, mByte hT2 hb hs0 hlt, hcc, bs, if_pos (by rw [zle, z0]; omega), letter_in, bs, if10, if_pos c1, u1]
          rw [wordOf_eq, bs, bnd_eq]
          have e7 : gI (sI T3 0 7 (kwM y)) 0 7 = kwM y := rfl
          rw [e7]
          unfold f_X10_advances_153
          by_cases c9 : kwM y = -9
          · rw [if_pos c9, if_pos c9, bnd_eq]
          · rw [if_neg c9, if_neg c9, bnd_eq]
        · rcases hkd with ⟨k1, k2⟩ | ⟨k1, k2, k3, k4⟩
          · exact Or.inr (Or.inr (Or.inr (Or.inr ⟨k1, by rw [if_pos k2]; rfl⟩)))
          · exact Or.inr (Or.inl ⟨⟨k1, k2⟩, by rw [if_neg k3]; rfl, k4⟩)
      · obtain ⟨S1, t1, t2, t3⟩ := hbn S hS e
        have hS1 := cK hS t2
        obtain ⟨S3, u1, u2, u3⟩ := w7 (sI S1 3 2 st) N hS1 t3 (by omega)
        have e2 : gI S3 3 2 = st := (u2.1 3 2 (by omega)).trans rfl
        have hS3 : cTx S3 b L := cTx.sm (S := sI S1 3 2 st) hS1 u2 (by omega) id
        refine ⟨sI S3 3 3 (kwC y), ?_, ((t2.tr (Sm.sI _ _ (by omega))).tr (u2.wk (fun c k z => by omega) (fun _ z => z))).tr (Sm.sI _ _ (by omega)), u3, e2, rfl, fun z => ?_⟩
        · rw [rd_pre hb hS1 hs0 hlt t3 t1, hcc, if_pos c1]
          unfold f_X6_readWord
          rw [u1]
          exact readWord44 hS3 hb (by omega) hs0 (by omega) w2 w4 w5 e2 u3
        · rcases hkd with ⟨k1, k2⟩ | ⟨k1, k2, k3, k4⟩
          · rw [k1] at z; exact absurd z (by decide)
          · rw [z] at k2; exact absurd k2 (by decide)
    · by_cases c2 : 48 ≤ c.toInt ∧ c.toInt ≤ 57
      · obtain ⟨q, n', v', w1, w2, w3, w4, w5, w6⟩ := l_dig hb N (L.toInt - st.toInt).toNat st 0 0 rfl hs0 (by omega) ⟨by decide, by decide, by decide⟩
        have hq := w3 hlt (by rw [hcc]; exact c2)
        have eqs : (q - st).toInt = q.toInt - st.toInt := zsub (by omega) (by omega)
        refine ⟨q, st, if v'.toInt ≤ 99 ∧ (c = 48 → q.toInt - st.toInt ≤ 1) then 8 else 10, v', by omega, by omega, w2, fun _ => by omega, fun T hT e => ?_, fun S hS e => ?_⟩
        · obtain ⟨T1, t1, t2, t3⟩ := s3 T N hT e (by omega)
          obtain ⟨hT2, e2⟩ := mT2 T1 (mV hT t2) t3
          obtain ⟨T3, u1, u2, u3, u4⟩ := w5 (sI (sI T1 0 6 st) 0 7 0) N hT2 e2 rfl (by omega)
          have e6 : gI T3 0 6 = st := (u2.1 0 6 (by omega)).trans rfl
          refine ⟨sI T3 0 5 (if v'.toInt ≤ 99 ∧ (c = 48 → q.toInt - st.toInt ≤ 1) then 2 else 4), ?_, (((t2.tr (Sm.sI _ _ (by omega))).tr (Sm.sI _ _ (by omega))).tr (u2.wk (fun c k z => by omega) (fun _ z => z))).tr (Sm.sI _ _ (by omega)), u3, e6, ?_⟩
          · have g1 : f_X10_advances_274 N T3 = some (sI T3 0 5 4) := rfl
            have g2 : f_X10_advances_278 N T3 = some (sI T3 0 5 2) := rfl
            unfold f_X10_advances
            rw [t1]
            rw [t3, bnd_eq, e2, mByte hT2 hb hs0 hlt, hcc, bs, if_pos (by rw [zle, z0]; omega), letter_in, bs, if10, if_neg c1, digit_in, bs, if10, if_pos c2, bnd_eq, u1]
            rw [u3, u4, e6, g1, g2]
            simp only [zlt, z99, zle, z1, eqs]
            by_cases d1 : v'.toInt ≤ 99
            · rw [if_neg (show ¬ 99 < v'.toInt by omega)]
              by_cases d2 : c = 48
              · rw [if_pos d2]
                by_cases d3 : q.toInt - st.toInt ≤ 1
                · rw [if_pos d3, if_pos ⟨d1, fun _ => d3⟩]
                · rw [if_neg d3, if_neg (fun z => d3 (z.2 d2))]
              · rw [if_neg d2, if_pos ⟨d1, fun z => absurd z d2⟩]
            · rw [if_pos (show 99 < v'.toInt by omega), if_neg (fun z => d1 z.1)]
          · by_cases d : v'.toInt ≤ 99 ∧ (c = 48 → q.toInt - st.toInt ≤ 1)
            · rw [if_pos d, if_pos d]
              exact Or.inr (Or.inr (Or.inl ⟨rfl, rfl, u4⟩))
            · rw [if_neg d, if_neg d]
              exact Or.inr (Or.inr (Or.inr (Or.inr ⟨rfl, rfl⟩)))
        · obtain ⟨S1, t1, t2, t3⟩ := hbn S hS e
          have hS1 := cK hS t2
          obtain ⟨S3, u1, u2, u3, u4⟩ := w6 (sI (sI S1 3 2 st) 3 4 0) N hS1 t3 rfl (by omega)
          have e2 : gI S3 3 2 = st := (u2.1 3 2 (by omega)).trans rfl
          have hS3 : cTx S3 b L := cTx.sm (S := sI (sI S1 3 2 st) 3 4 0) hS1 u2 (by omega) id
          refine ⟨sI S3 3 3 (if v'.toInt ≤ 99 ∧ (c = 48 → q.toInt - st.toInt ≤ 1) then 8 else 10), ?_, (((t2.tr (Sm.sI _ _ (by omega))).tr (Sm.sI _ _ (by omega))).tr (u2.wk (fun c k z => by omega) (fun _ z => z))).tr (Sm.sI _ _ (by omega)), u3, e2, rfl, fun z => ?_⟩
          · rw [rd_pre hb hS1 hs0 hlt t3 t1, hcc, if_neg c1, if_pos c2]
            unfold f_X6_readDigits
            rw [bnd_eq, u1]
            rw [dig_end hb hS3 hs0 hlt u3 e2 u4 (by omega) w4, hcc]
          · have z99' : v'.toInt ≤ 99 := by
              by_cases d : v'.toInt ≤ 99 ∧ (c = 48 → q.toInt - st.toInt ≤ 1)
              · exact d.1
              · rw [if_neg d] at z; exact absurd z (by decide)
            have w43 := w4.2.2
            rw [if_neg (by omega)] at w43
            show gI S3 3 4 = v'
            rw [u4, zeq, w43]
      · have e1 : (st + 1).toInt = st.toInt + 1 := p1E hb s2 hs0
        refine ⟨st + 1, st, if c = 59 then 9 else 10, 0, by omega, by omega, by omega, fun _ => by omega, fun T hT e => ?_, fun S hS e => ?_⟩
        · obtain ⟨T1, t1, t2, t3⟩ := s3 T N hT e (by omega)
          obtain ⟨hT2, e2⟩ := mT2 T1 (mV hT t2) t3
          refine ⟨sI (sI (sI T1 0 6 st) 0 4 (st + 1)) 0 5 (if c = 59 then 3 else 4), ?_, ((t2.tr (Sm.sI _ _ (by omega))).tr (Sm.sI _ _ (by omega))).tr (Sm.sI _ _ (by omega)), rfl, rfl, ?_⟩
          · unfold f_X10_advances
            rw [t1]
            rw [t3, bnd_eq, e2, mByte hT2 hb hs0 hlt, hcc, bs, if_pos (by rw [zle, z0]; omega), letter_in, bs, if10, if_neg c1, digit_in, bs, if10, if_neg c2, bnd_eq]
            unfold f_X10_advances_307
            by_cases d : c = 59
            · rw [if_pos d, if_pos d, bnd_eq]
            · rw [if_neg d, if_neg d, bnd_eq]
          · by_cases d : c = 59
            · rw [if_pos d, if_pos d]; exact Or.inr (Or.inr (Or.inr (Or.inl ⟨rfl, rfl⟩)))
            · rw [if_neg d, if_neg d]; exact Or.inr (Or.inr (Or.inr (Or.inr ⟨rfl, rfl⟩)))
        · obtain ⟨S1, t1, t2, t3⟩ := hbn S hS e
          have hS1 := cK hS t2
          refine ⟨sI (sI (sI S1 3 2 st) 3 1 (st + 1)) 3 3 (if c = 59 then 9 else 10), ?_, ((t2.tr (Sm.sI _ _ (by omega))).tr (Sm.sI _ _ (by omega))).tr (Sm.sI _ _ (by omega)), rfl, rfl, rfl, fun z => ?_⟩
          · rw [rd_pre hb hS1 hs0 hlt t3 t1, hcc, if_neg c1, if_neg c2]
          · by_cases d : c = 59
            · rw [if_pos d] at z; exact absurd z (by decide)
            · rw [if_neg d] at z; exact absurd z (by decide)
