/-! lane: the next token, of class and reference -/
def Tk (kd v : Int32) (T : St) : Prop := (kd = 0 ∧ gI T 0 5 = 0) ∨ ((1 ≤ kd.toInt ∧ kd.toInt ≤ 7) ∧ gI T 0 5 = 1 ∧ (gI T 0 7).toInt = kd.toInt - 1) ∨ (kd = 8 ∧ gI T 0 5 = 2 ∧ gI T 0 7 = v) ∨ (kd = 9 ∧ gI T 0 5 = 3) ∨ (kd = 10 ∧ gI T 0 5 = 4)
def Rd (N : Nat) (b : Nat → Int32) (L p q st kd v : Int32) : Prop := ∀ S : St, cTx S b L → gI S 3 1 = p → ∃ S', f_X6_readToken N S = some S' ∧ Sm S S' ciK caN ∧ gI S' 3 1 = q ∧ gI S' 3 2 = st ∧ gI S' 3 3 = kd ∧ (kd = 8 → gI S' 3 4 = v)
def Ad (N : Nat) (b : Nat → Int32) (L p q st kd v : Int32) : Prop := ∀ T : St, mTx T b L → gI T 0 4 = p → ∃ T', f_X10_advances N T = some T' ∧ Sm T T' ciV caN ∧ gI T' 0 4 = q ∧ gI T' 0 6 = st ∧ Tk kd v T'
theorem rd_pre {N : Nat} {S S1 : St} {b : Nat → Int32} {L st : Int32} (hb : Tb b L) (hS : cTx S1 b L) (h0 : 0 ≤ st.toInt) (h1 : st.toInt < L.toInt) (e : gI S1 3 1 = st) (hs : f_X6_skipBlanks N S = some S1) :
    f_X6_readToken N S = (if 97 ≤ (b st.toNatClampNeg).toInt ∧ (b st.toNatClampNeg).toInt ≤ 122 then f_X6_readWord N (sI S1 3 2 st) else if 48 ≤ (b st.toNatClampNeg).toInt ∧ (b st.toNatClampNeg).toInt ≤ 57 then f_X6_readDigits N (sI S1 3 2 st) else some (sI (sI (sI S1 3 2 st) 3 1 (st + 1)) 3 3 (if b st.toNatClampNeg = 59 then 9 else 10))) := by
  have hS2 : cTx (sI S1 3 2 st) b L := hS
  have e2 : gI (sI S1 3 2 st) 3 1 = st := e
  unfold f_X6_readToken
  rw [hs, bs, e, bnd_eq, e2, hS2.1, if_pos (by rw [zlt]; omega), cByte hS2 hb h0 h1, bs, letter_eq, bs, if10]
  by_cases c1 : 97 ≤ (b st.toNatClampNeg).toInt ∧ (b st.toNatClampNeg).toInt ≤ 122
  · rw [if_pos c1, if_pos c1]
    cases f_X6_readWord N (sI S1 3 2 st) <;> rfl
  rw [if_neg c1, if_neg c1, digit_eq, bs, if10]
  by_cases c2 : 48 ≤ (b st.toNatClampNeg).toInt ∧ (b st.toNatClampNeg).toInt ≤ 57
  · rw [if_pos c2, if_pos c2]
    cases f_X6_readDigits N (sI S1 3 2 st) <;> rfl
  rw [if_neg c2, if_neg c2, bnd_eq]
  unfold f_X6_readToken_96
  by_cases c3 : b st.toNatClampNeg = 59
  · rw [if_pos c3, if_pos c3, bnd_eq]
  · rw [if_neg c3, if_neg c3, bnd_eq]
theorem rd_end {N : Nat} {S S1 : St} {b : Nat → Int32} {L st : Int32} (hS : cTx S1 b L) (h1 : L.toInt ≤ st.toInt) (e : gI S1 3 1 = st) (hs : f_X6_skipBlanks N S = some S1) :
    f_X6_readToken N S = some (sI (sI S1 3 2 st) 3 3 0) := by
  have hS2 : cTx (sI S1 3 2 st) b L := hS
  have e2 : gI (sI S1 3 2 st) 3 1 = st := e
  unfold f_X6_readToken
  rw [hs, bs, e, bnd_eq, e2, hS2.1, if_neg (by rw [zlt]; omega), bnd_eq]
theorem dig_end {N : Nat} {S : St} {b : Nat → Int32} {L st q n v : Int32} (hb : Tb b L) (hS : cTx S b L) (h0 : 0 ≤ st.toInt) (h1 : st.toInt < L.toInt) (e1 : gI S 3 1 = q) (e2 : gI S 3 2 = st) (e4 : gI S 3 4 = n) (hq : st.toInt ≤ q.toInt) (hnv : nR n v) :
    f_X6_readDigits_80 N S = some (sI S 3 3 (if v.toInt ≤ 99 ∧ (b st.toNatClampNeg = 48 → q.toInt - st.toInt ≤ 1) then 8 else 10)) := by
  have eqs : (q - st).toInt = q.toInt - st.toInt := zsub (by have := zlo q; have := zhi q; omega) (by have := zhi q; omega)
  obtain ⟨v1, v2, v3⟩ := hnv
  have g0 : ∀ t, f_X6_readDigits_136 N S t = some (sI S 3 3 t) := fun t => rfl
  have g1 : f_X6_readDigits_129 N S = some (sI S 3 3 10) := rfl
  have g2 : f_X6_readDigits_114 N S 1 = some (sI S 3 3 10) := by
    unfold f_X6_readDigits_114; rw [if_neg (by decide), g1]
  have g3 : f_X6_readDigits_113 N S = some (sI S 3 3 (if v.toInt ≤ 99 then 8 else 10)) := by
    unfold f_X6_readDigits_113 f_X6_readDigits_114
    rw [if_pos rfl, e4]
    simp only [zle, z99, v3]
    by_cases c : v.toInt ≤ 99
    · rw [if_neg (show ¬ 100 ≤ v.toInt by omega), if_pos c, if_pos c, g0]
    · rw [if_pos (show 100 ≤ v.toInt by omega), if_neg (by omega), if_neg c, g1]
  unfold f_X6_readDigits_80
  rw [e1, e2, cByte hS hb h0 h1, bs, g2, g3]
  simp only [zle, z1, eqs]
  by_cases c : b st.toNatClampNeg = 48
  · rw [if_pos c]
    by_cases d : q.toInt - st.toInt ≤ 1
    · rw [if_pos d]
      congr 2
      exact ite_iff ⟨fun z => ⟨z, fun _ => d⟩, fun z => z.1⟩ _ _
    · rw [if_neg d, if_neg (fun z => d (z.2 c))]
  · rw [if_neg c]
    congr 2
    exact ite_iff ⟨fun z => ⟨z, fun z => absurd z c⟩, fun z => z.1⟩ _ _
theorem bool_neg {x : Int32} : ¬ ((0 : Int32) ≤ -1) := by decide
set_option maxHeartbeats 1000000 in
theorem l_tok {b : Nat → Int32} {L : Int32} (hb : Tb b L) {N : Nat} (hN : 1000 ≤ N) (p : Int32) (h0 : 0 ≤ p.toInt) (h1 : p.toInt ≤ L.toInt) : ∃ q st kd v : Int32, p.toInt ≤ st.toInt ∧ st.toInt ≤ q.toInt ∧ q.toInt ≤ L.toInt ∧ (kd ≠ 0 → p.toInt < q.toInt) ∧ Ad N b L p q st kd v ∧ Rd N b L p q st kd v := by
  have hL := hb.2.1
  obtain ⟨st, s1, s2, s3, s4⟩ := l_skip hb N (L.toInt - p.toInt).toNat p rfl h0 h1
  have hs0 : 0 ≤ st.toInt := by omega
  have hbn : ∀ (S : St), cTx S b L → gI S 3 1 = p → ∃ S1, f_X6_skipBlanks N S = some S1 ∧ Sm S S1 ciK caN ∧ gI S1 3 1 = st := fun S hS e => s4 S N hS e (by omega)
  have cK : ∀ {S S1 : St}, cTx S b L → Sm S S1 ciK caN → cTx S1 b L := fun h k => h.sm k (by omega) id
  have mV : ∀ {T T1 : St}, mTx T b L → Sm T T1 ciV caN → mTx T1 b L := fun h k => h.sm k (by omega) id
  by_cases cE : L.toInt ≤ st.toInt
  · refine ⟨st, st, 0, 0, by omega, by omega, s2, fun z => absurd rfl z, fun T hT e => ?_, fun S hS e => ?_⟩
    · obtain ⟨T1, t1, t2, t3⟩ := s3 T N hT e (by omega)
      have hT1 := mV hT t2
      have hT2 : mTx (sI T1 0 6 st) b L := hT1
      have e2 : gI (sI T1 0 6 st) 0 4 = st := t3
      refine ⟨sI (sI T1 0 6 st) 0 5 0, ?_, (t2.tr (Sm.sI _ _ (by omega))).tr (Sm.sI _ _ (by omega)), t3, rfl, Or.inl ⟨rfl, rfl⟩⟩
      unfold f_X10_advances
      rw [t1]
      rw [t3, bnd_eq, e2, mByteE hT2 cE, bs, if_neg (by decide), bnd_eq]
    · obtain ⟨S1, t1, t2, t3⟩ := hbn S hS e
      exact ⟨_, rd_end (cK hS t2) cE t3 t1, (t2.tr (Sm.sI _ _ (by omega))).tr (Sm.sI _ _ (by omega)), t3, rfl, rfl, fun z => absurd z (by decide)⟩
  · have hlt : st.toInt < L.toInt := by omega
    have hc := hb.2.2 st.toNatClampNeg (by rw [znat]; omega)
    generalize hcc : b st.toNatClampNeg = c at hc
    have mT2 : ∀ T1 : St, mTx T1 b L → gI T1 0 4 = st → mTx (sI T1 0 6 st) b L ∧ gI (sI T1 0 6 st) 0 4 = st := fun T1 h e => ⟨h, e⟩
    by_cases c1 : 97 ≤ c.toInt ∧ c.toInt ≤ 122
    · obtain ⟨q, y, w1, w2, w3, w4, w5, w6, w7⟩ := l_word hb N st hs0 (L.toInt - st.toInt).toNat st 0 rfl (by omega) (by omega) (fun j j1 j2 => by omega) (by rw [Int.sub_self]; rfl)
      have hq := w3 hlt (by rw [hcc]; exact c1)
      have hkd := kw_both y
      refine ⟨q, st, kwC y, 0, by omega, by omega, w2, fun _ => by omega, fun T hT e => ?_, fun S hS e => ?_⟩
      · obtain ⟨T1, t1, t2, t3⟩ := s3 T N hT e (by omega)
        obtain ⟨hT2, e2⟩ := mT2 T1 (mV hT t2) t3
        obtain ⟨T3, u1, u2, u3⟩ := w6 (sI T1 0 6 st) N hT2 e2 rfl (by omega)
        have e6 : gI T3 0 6 = st := (u2.1 0 6 (by omega)).trans rfl
        refine ⟨sI (sI T3 0 7 (kwM y)) 0 5 (if kwM y = -9 then 4 else 1), ?_, (((t2.tr (Sm.sI _ _ (by omega))).tr (u2.wk (fun c k z => by omega) (fun _ z => z))).tr (Sm.sI _ _ (by omega))).tr (Sm.sI _ _ (by omega)), u3, e6, ?_⟩
        · unfold f_X10_advances
          rw [t1]
          rw [t3, bnd_eq, e2, mByte hT2 hb hs0 hlt, hcc, bs, if_pos (by rw [zle, z0]; omega), letter_in, bs, if10, if_pos c1, u1]
          rw [wordOf_eq, bs, bnd_eq]
          have e7 : gI (sI T3 0 7 (kwM y)) 0 7 = kwM y := rfl
          rw [e7]
          unfold f_X10_advances_153
          by_cases c9 : kwM y = -9
          · rw [if_pos c9, if_pos c9, bnd_eq]
          · rw [if_neg c9, if_neg c9, bnd_eq]
        · rcases hkd with ⟨k1, k2⟩ | ⟨k1, k2, k3, k4⟩
          · exact Or.inr (Or.inr (Or.inr (Or.inr ⟨k1, by rw [if_pos k2]; rfl⟩)))
          · exact Or.inr (Or.inl ⟨⟨k1, k2⟩, by rw [if_neg k3]; rfl, k4⟩)
      · obtain ⟨S1, t1, t2, t3⟩ := hbn S hS e
        have hS1 := cK hS t2
        obtain ⟨S3, u1, u2, u3⟩ := w7 (sI S1 3 2 st) N hS1 t3 (by omega)
        have e2 : gI S3 3 2 = st := (u2.1 3 2 (by omega)).trans rfl
        have hS3 : cTx S3 b L := cTx.sm (S := sI S1 3 2 st) hS1 u2 (by omega) id
        refine ⟨sI S3 3 3 (kwC y), ?_, ((t2.tr (Sm.sI _ _ (by omega))).tr (u2.wk (fun c k z => by omega) (fun _ z => z))).tr (Sm.sI _ _ (by omega)), u3, e2, rfl, fun z => ?_⟩
        · rw [rd_pre hb hS1 hs0 hlt t3 t1, hcc, if_pos c1]
          unfold f_X6_readWord
          rw [u1]
          exact readWord44 hS3 hb (by omega) hs0 (by omega) w2 w4 w5 e2 u3
        · rcases hkd with ⟨k1, k2⟩ | ⟨k1, k2, k3, k4⟩
          · rw [k1] at z; exact absurd z (by decide)
          · rw [z] at k2; exact absurd k2 (by decide)
    · by_cases c2 : 48 ≤ c.toInt ∧ c.toInt ≤ 57
      · obtain ⟨q, n', v', w1, w2, w3, w4, w5, w6⟩ := l_dig hb N (L.toInt - st.toInt).toNat st 0 0 rfl hs0 (by omega) ⟨by decide, by decide, by decide⟩
        have hq := w3 hlt (by rw [hcc]; exact c2)
        have eqs : (q - st).toInt = q.toInt - st.toInt := zsub (by omega) (by omega)
        refine ⟨q, st, if v'.toInt ≤ 99 ∧ (c = 48 → q.toInt - st.toInt ≤ 1) then 8 else 10, v', by omega, by omega, w2, fun _ => by omega, fun T hT e => ?_, fun S hS e => ?_⟩
        · obtain ⟨T1, t1, t2, t3⟩ := s3 T N hT e (by omega)
          obtain ⟨hT2, e2⟩ := mT2 T1 (mV hT t2) t3
          obtain ⟨T3, u1, u2, u3, u4⟩ := w5 (sI (sI T1 0 6 st) 0 7 0) N hT2 e2 rfl (by omega)
          have e6 : gI T3 0 6 = st := (u2.1 0 6 (by omega)).trans rfl
          refine ⟨sI T3 0 5 (if v'.toInt ≤ 99 ∧ (c = 48 → q.toInt - st.toInt ≤ 1) then 2 else 4), ?_, (((t2.tr (Sm.sI _ _ (by omega))).tr (Sm.sI _ _ (by omega))).tr (u2.wk (fun c k z => by omega) (fun _ z => z))).tr (Sm.sI _ _ (by omega)), u3, e6, ?_⟩
          · have g1 : f_X10_advances_274 N T3 = some (sI T3 0 5 4) := rfl
            have g2 : f_X10_advances_278 N T3 = some (sI T3 0 5 2) := rfl
            unfold f_X10_advances
            rw [t1]
            rw [t3, bnd_eq, e2, mByte hT2 hb hs0 hlt, hcc, bs, if_pos (by rw [zle, z0]; omega), letter_in, bs, if10, if_neg c1, digit_in, bs, if10, if_pos c2, bnd_eq, u1]
            rw [u3, u4, e6, g1, g2]
            simp only [zlt, z99, zle, z1, eqs]
            by_cases d1 : v'.toInt ≤ 99
            · rw [if_neg (show ¬ 99 < v'.toInt by omega)]
              by_cases d2 : c = 48
              · rw [if_pos d2]
                by_cases d3 : q.toInt - st.toInt ≤ 1
                · rw [if_pos d3, if_pos ⟨d1, fun _ => d3⟩]
                · rw [if_neg d3, if_neg (fun z => d3 (z.2 d2))]
              · rw [if_neg d2, if_pos ⟨d1, fun z => absurd z d2⟩]
            · rw [if_pos (show 99 < v'.toInt by omega), if_neg (fun z => d1 z.1)]
          · by_cases d : v'.toInt ≤ 99 ∧ (c = 48 → q.toInt - st.toInt ≤ 1)
            · rw [if_pos d, if_pos d]
              exact Or.inr (Or.inr (Or.inl ⟨rfl, rfl, u4⟩))
            · rw [if_neg d, if_neg d]
              exact Or.inr (Or.inr (Or.inr (Or.inr ⟨rfl, rfl⟩)))
        · obtain ⟨S1, t1, t2, t3⟩ := hbn S hS e
          have hS1 := cK hS t2
          obtain ⟨S3, u1, u2, u3, u4⟩ := w6 (sI (sI S1 3 2 st) 3 4 0) N hS1 t3 rfl (by omega)
          have e2 : gI S3 3 2 = st := (u2.1 3 2 (by omega)).trans rfl
          have hS3 : cTx S3 b L := cTx.sm (S := sI (sI S1 3 2 st) 3 4 0) hS1 u2 (by omega) id
          refine ⟨sI S3 3 3 (if v'.toInt ≤ 99 ∧ (c = 48 → q.toInt - st.toInt ≤ 1) then 8 else 10), ?_, (((t2.tr (Sm.sI _ _ (by omega))).tr (Sm.sI _ _ (by omega))).tr (u2.wk (fun c k z => by omega) (fun _ z => z))).tr (Sm.sI _ _ (by omega)), u3, e2, rfl, fun z => ?_⟩
          · rw [rd_pre hb hS1 hs0 hlt t3 t1, hcc, if_neg c1, if_pos c2]
            unfold f_X6_readDigits
            rw [bnd_eq, u1]
            rw [dig_end hb hS3 hs0 hlt u3 e2 u4 (by omega) w4, hcc]
          · have z99' : v'.toInt ≤ 99 := by
              by_cases d : v'.toInt ≤ 99 ∧ (c = 48 → q.toInt - st.toInt ≤ 1)
              · exact d.1
              · rw [if_neg d] at z; exact absurd z (by decide)
            have w43 := w4.2.2
            rw [if_neg (by omega)] at w43
            show gI S3 3 4 = v'
            rw [u4, zeq, w43]
      · have e1 : (st + 1).toInt = st.toInt + 1 := p1E hb s2 hs0
        refine ⟨st + 1, st, if c = 59 then 9 else 10, 0, by omega, by omega, by omega, fun _ => by omega, fun T hT e => ?_, fun S hS e => ?_⟩
        · obtain ⟨T1, t1, t2, t3⟩ := s3 T N hT e (by omega)
          obtain ⟨hT2, e2⟩ := mT2 T1 (mV hT t2) t3
          refine ⟨sI (sI (sI T1 0 6 st) 0 4 (st + 1)) 0 5 (if c = 59 then 3 else 4), ?_, ((t2.tr (Sm.sI _ _ (by omega))).tr (Sm.sI _ _ (by omega))).tr (Sm.sI _ _ (by omega)), rfl, rfl, ?_⟩
          · unfold f_X10_advances
            rw [t1]
            rw [t3, bnd_eq, e2, mByte hT2 hb hs0 hlt, hcc, bs, if_pos (by rw [zle, z0]; omega), letter_in, bs, if10, if_neg c1, digit_in, bs, if10, if_neg c2, bnd_eq]
            unfold f_X10_advances_307
            by_cases d : c = 59
            · rw [if_pos d, if_pos d, bnd_eq]
            · rw [if_neg d, if_neg d, bnd_eq]
          · by_cases d : c = 59
            · rw [if_pos d, if_pos d]; exact Or.inr (Or.inr (Or.inr (Or.inl ⟨rfl, rfl⟩)))
            · rw [if_neg d, if_neg d]; exact Or.inr (Or.inr (Or.inr (Or.inr ⟨rfl, rfl⟩)))
        · obtain ⟨S1, t1, t2, t3⟩ := hbn S hS e
          have hS1 := cK hS t2
          refine ⟨sI (sI (sI S1 3 2 st) 3 1 (st + 1)) 3 3 (if c = 59 then 9 else 10), ?_, ((t2.tr (Sm.sI _ _ (by omega))).tr (Sm.sI _ _ (by omega))).tr (Sm.sI _ _ (by omega)), rfl, rfl, rfl, fun z => ?_⟩
          · rw [rd_pre hb hS1 hs0 hlt t3 t1, hcc, if_neg c1, if_neg c2]
          · by_cases d : c = 59
            · rw [if_pos d] at z; exact absurd z (by decide)
            · rw [if_neg d] at z; exact absurd z (by decide)
