/-! lane: numbers asked for; the rest of an item -/
/-- class and reference at the same place: the class reads next what the reference holds -/
def Jt (N : Nat) (b : Nat → Int32) (L : Int32) (S T : St) (p : Int32) : Prop := cTx S b L ∧ mTx T b L ∧ gI S 3 1 = p ∧ (0 ≤ p.toInt ∧ p.toInt ≤ L.toInt) ∧ gI T 0 8 = -1 ∧ ∃ q st kd v : Int32, (p.toInt ≤ st.toInt ∧ st.toInt ≤ q.toInt ∧ q.toInt ≤ L.toInt ∧ (kd ≠ 0 → p.toInt < q.toInt)) ∧ gI T 0 4 = q ∧ gI T 0 6 = st ∧ Tk kd v T ∧ Rd N b L p q st kd v
theorem isWell1 {T : St} (h : gI T 0 8 = -1) : f_X10_isWell T = some 1 := by
  unfold f_X10_isWell; rw [h, if_neg (by decide)]
theorem isWell0 {T : St} (h : 0 ≤ (gI T 0 8).toInt) : f_X10_isWell T = some 0 := by
  unfold f_X10_isWell; rw [if_pos (by rw [zle, z0]; exact h)]
theorem takes_dead {N : Nat} {T : St} (h : 0 ≤ (gI T 0 8).toInt) (a : Int32) : f_X10_takes N T a = some (0, T) := by
  unfold f_X10_takes; rw [isWell0 h, bs, if_pos rfl]
theorem takes_no {N : Nat} {T : St} (h : gI T 0 8 = -1) : f_X10_takes N T 0 = some (0, sI T 0 8 (gI T 0 6)) := by
  unfold f_X10_takes; rw [isWell1 h, bs, if_neg one_ne, if_pos rfl, bnd_eq]
theorem number_dead {N : Nat} {T : St} (h : 0 ≤ (gI T 0 8).toInt) (a c : Int32) : f_X10_number N T a c = some (0, T) := by
  have e : ∀ t, f_X10_number_26 N T t = some (0, T) := fun t => by unfold f_X10_number_26; rw [takes_dead h, bs]
  have e2 : f_X10_number_25 N T = some (0, T) := by unfold f_X10_number_25; exact e 0
  unfold f_X10_number
  rw [e2, in_eq, bs, if10, e]
  by_cases c1 : gI T 0 5 = 2
  · rw [if_pos c1]
    by_cases c2 : a.toInt ≤ (gI T 0 7).toInt ∧ (gI T 0 7).toInt ≤ c.toInt
    · rw [if_pos c2]
    · rw [if_neg c2]
  · rw [if_neg c1]
/-- the reference takes what it holds -/
theorem takes_yes {N : Nat} (hN : 1000 ≤ N) {b : Nat → Int32} {L : Int32} (hb : Tb b L) {T : St} {q : Int32} (hT : mTx T b L) (hw : gI T 0 8 = -1) (hq : 0 ≤ q.toInt ∧ q.toInt ≤ L.toInt) (e : gI T 0 4 = q) :
    ∃ T', f_X10_takes N T 1 = some (gI T 0 7, T') ∧ Sm T T' ciV caN ∧ ∀ S : St, cTx S b L → gI S 3 1 = q → Jt N b L S T' q := by
  obtain ⟨q2, st, kd, v, h1, h2, h3, h4, h5, h6⟩ := l_tok hb hN q hq.1 hq.2
  obtain ⟨T', t1, t2, t3, t4, t5⟩ := h5 T hT e
  refine ⟨T', ?_, t2, fun S hS eS => ⟨hS, hT.sm t2 (by omega) id, eS, hq, by rw [t2.1 0 8 (by omega)]; exact hw, q2, st, kd, v, ⟨h1, h2, h3, h4⟩, t3, t4, t5, h6⟩⟩
  unfold f_X10_takes
  rw [isWell1 hw, bs, if_neg one_ne, if_neg one_ne, bnd_eq, t1, bs]
theorem Tk.not8 {kd v : Int32} {T : St} (h : Tk kd v T) (h8 : kd ≠ 8) : gI T 0 5 ≠ 2 := by
  rcases h with ⟨-, h⟩ | ⟨-, h, -⟩ | ⟨h, -⟩ | ⟨-, h⟩ | ⟨-, h⟩
  · rw [h]; decide
  · rw [h]; decide
  · exact absurd h h8
  · rw [h]; decide
  · rw [h]; decide
theorem l_num {N : Nat} (hN : 1000 ≤ N) {b : Nat → Int32} {L : Int32} (hb : Tb b L) {S T : St} {p : Int32} (J : Jt N b L S T p) (lo hi : Int32) :
    ∃ (S' T' : St), Sm S S' ciK caN ∧ Sm T T' (fun c k => c = 0 ∧ 4 ≤ k ∧ k ≤ 8) caN ∧
      ((f_X6_readNumber N S lo hi = some (0, S') ∧ f_X10_number N T lo hi = some (0, T') ∧ gI T' 0 8 = gI S' 3 2 ∧ 0 ≤ (gI S' 3 2).toInt ∧ (gI S' 3 2).toInt ≤ L.toInt) ∨
       ∃ v p2 : Int32, f_X6_readNumber N S lo hi = some (1, S') ∧ f_X10_number N T lo hi = some (v, T') ∧ gI S' 3 4 = v ∧ (lo.toInt ≤ v.toInt ∧ v.toInt ≤ hi.toInt) ∧ p.toInt < p2.toInt ∧ Jt N b L S' T' p2) := by
  obtain ⟨hS, hT, eS, hp, hw, q, st, kd, v, ⟨h1, h2, h3, h4⟩, e4, e6, hk, hr⟩ := J
  obtain ⟨S', s1, s2, s3, s4, s5, s6⟩ := hr S hS eS
  have hS' : cTx S' b L := hS.sm s2 (by omega) id
  have fail : ∀ (hc : f_X6_readNumber N S lo hi = some (0, S')) (hm : f_X10_number N T lo hi = f_X10_number_25 N T), ∃ (S' T' : St), Sm S S' ciK caN ∧ Sm T T' (fun c k => c = 0 ∧ 4 ≤ k ∧ k ≤ 8) caN ∧
      ((f_X6_readNumber N S lo hi = some (0, S') ∧ f_X10_number N T lo hi = some (0, T') ∧ gI T' 0 8 = gI S' 3 2 ∧ 0 ≤ (gI S' 3 2).toInt ∧ (gI S' 3 2).toInt ≤ L.toInt) ∨
       ∃ v p2 : Int32, f_X6_readNumber N S lo hi = some (1, S') ∧ f_X10_number N T lo hi = some (v, T') ∧ gI S' 3 4 = v ∧ (lo.toInt ≤ v.toInt ∧ v.toInt ≤ hi.toInt) ∧ p.toInt < p2.toInt ∧ Jt N b L S' T' p2) := by
    intro hc hm
    refine ⟨S', sI T 0 8 st, s2, Sm.sI _ _ (by omega), Or.inl ⟨hc, ?_, s4.symm, by rw [s4]; omega, by rw [s4]; omega⟩⟩
    rw [hm]
    unfold f_X10_number_25 f_X10_number_26
    rw [takes_no hw, bs, e6]
  have hcl : f_X6_readNumber N S lo hi = (if kd = 8 then if gI S' 3 4 < lo then some (0, S') else if hi < gI S' 3 4 then some (0, S') else some (1, S') else some (0, S')) := by
    unfold f_X6_readNumber
    rw [s1, bs, s5]
  have hml : f_X10_number N T lo hi = (if gI T 0 5 = 2 then if lo.toInt ≤ (gI T 0 7).toInt ∧ (gI T 0 7).toInt ≤ hi.toInt then f_X10_number_26 N T 1 else f_X10_number_25 N T else f_X10_number_25 N T) := by
    unfold f_X10_number
    rw [in_eq, bs, if10]
  by_cases c8 : kd = 8
  · have e5 : gI T 0 5 = 2 ∧ gI T 0 7 = v := by
      subst c8
      rcases hk with ⟨h, -⟩ | ⟨h, -, -⟩ | ⟨-, h⟩ | ⟨h, -⟩ | ⟨h, -⟩
      · exact absurd h (by decide)
      · exact absurd h.2 (by decide)
      · exact h
      · exact absurd h (by decide)
      · exact absurd h (by decide)
    have e34 := s6 c8
    rw [if_pos c8, e34] at hcl
    simp only [zlt] at hcl
    rw [if_pos e5.1, e5.2] at hml
    by_cases c : lo.toInt ≤ v.toInt ∧ v.toInt ≤ hi.toInt
    · rw [if_pos c] at hml
      rw [if_neg (by omega), if_neg (by omega)] at hcl
      have hk0 : kd ≠ 0 := by rw [c8]; decide
      obtain ⟨T', t1, t2, t3⟩ := takes_yes hN hb hT hw (q := q) ⟨by omega, h3⟩ e4
      refine ⟨S', T', s2, t2.wk (fun c k z => by omega) (fun _ z => z), Or.inr ⟨v, q, hcl, ?_, e34, c, h4 hk0, t3 S' hS' s3⟩⟩
      rw [hml]
      unfold f_X10_number_26
      rw [t1, bs, e5.2]
    · rw [if_neg c] at hml
      refine fail ?_ hml
      rw [hcl]
      by_cases d : v.toInt < lo.toInt
      · rw [if_pos d]
      · rw [if_neg d, if_pos (by omega)]
  · rw [if_neg c8] at hcl
    rw [if_neg (hk.not8 c8)] at hml
    exact fail hcl hml
/-- the drafts: the class' spare lane j, the reference's rows from their half on -/
def RU (a r : Int32) (d m : Int) : Prop := (r = -9 ∧ a.toInt = d) ∨ (1 ≤ r.toInt ∧ r.toInt ≤ m ∧ a = r)
def Dr (j : Nat) (S T : St) : Prop :=
  (gI S (33 + 5 * j) 4 = gI T 0 16 ∧ 4 ≤ (gI T 0 16).toInt ∧ (gI T 0 16).toInt ≤ 24) ∧ (gI S (33 + 5 * j) 5 = gI T 0 17 ∧ 0 ≤ (gI T 0 17).toInt ∧ (gI T 0 17).toInt ≤ 3) ∧
  (∀ k : Nat, k < 24 → gA S (34 + 5 * j) k = gA T 2 (24 + k) ∧ 0 ≤ (gA T 2 (24 + k)).toInt ∧ (gA T 2 (24 + k)).toInt ≤ 3) ∧
  (∀ k : Nat, k < 24 → gA S (35 + 5 * j) k = gA T 3 (24 + k) ∧ (gA T 3 (24 + k) = 0 ∨ gA T 3 (24 + k) = 1)) ∧
  (∀ k : Nat, (k : Int) < (gI T 0 17).toInt → (gA S (36 + 5 * j) k = gA T 4 (3 + k) ∧ 1 ≤ (gA T 4 (3 + k)).toInt ∧ (gA T 4 (3 + k)).toInt ≤ 4) ∧ (gA S (37 + 5 * j) k = gA T 5 (3 + k) ∧ 0 ≤ (gA T 5 (3 + k)).toInt ∧ (gA T 5 (3 + k)).toInt ≤ 9)) ∧
  (RU (gI S (33 + 5 * j) 6) (gA T 6 11) 2 3 ∧ RU (gI S (33 + 5 * j) 7) (gA T 6 12) 3 4 ∧ RU (gI S (33 + 5 * j) 8) (gA T 6 13) 3 9) ∧
  ((gI S 3 5 &&& 32 = 0 ↔ gA T 6 11 = -9) ∧ (gI S 3 5 &&& 64 = 0 ↔ gA T 6 12 = -9) ∧ (gI S 3 5 &&& 128 = 0 ↔ gA T 6 13 = -9))
/-- what reading may change: class, reference -/
abbrev ciD (j c k : Nat) : Prop := c = 3 ∧ 1 ≤ k ∨ c = 33 + 5 * j
abbrev caD (j c : Nat) : Prop := 34 + 5 * j ≤ c ∧ c ≤ 37 + 5 * j
def FM (T T1 : St) : Prop := (∀ c k, ¬ (c = 0 ∧ (4 ≤ k ∧ k ≤ 8 ∨ k = 16 ∨ k = 17)) → gI T1 c k = gI T c k) ∧ (∀ c j, ¬ ((c = 2 ∨ c = 3) ∧ 24 ≤ j ∨ (c = 4 ∨ c = 5) ∧ 3 ≤ j ∨ c = 6 ∧ 7 ≤ j) → gA T1 c j = gA T c j) ∧ gJ T1 = gJ T
theorem FM.rf (T : St) : FM T T := ⟨fun _ _ _ => rfl, fun _ _ _ => rfl, rfl⟩
theorem FM.tr {T T1 T2 : St} (h : FM T T1) (k : FM T1 T2) : FM T T2 := ⟨fun c j q => (k.1 c j q).trans (h.1 c j q), fun c j q => (k.2.1 c j q).trans (h.2.1 c j q), k.2.2.trans h.2.2⟩
theorem FM.sm {T T1 : St} {ci : Nat → Nat → Prop} (h : Sm T T1 ci caN) (hi : ∀ c k, ci c k → c = 0 ∧ 4 ≤ k ∧ k ≤ 8) : FM T T1 :=
  ⟨fun c k q => h.1 c k (fun z => q ⟨(hi c k z).1, Or.inl (hi c k z).2⟩), fun c j _ => by rw [h.2.1 c id], h.2.2.1⟩
theorem FM.i (T : St) {k : Nat} (v : Int32) (h : 4 ≤ k ∧ k ≤ 8 ∨ k = 16 ∨ k = 17) : FM T (sI T 0 k v) :=
  ⟨fun c k' q => gI_off (fun z => q ⟨z.1, z.2 ▸ h⟩), fun _ _ _ => rfl, rfl⟩
theorem FM.a (T : St) {c i : Nat} (v : Int32) (h : (c = 2 ∨ c = 3) ∧ 24 ≤ i ∨ (c = 4 ∨ c = 5) ∧ 3 ≤ i ∨ c = 6 ∧ 7 ≤ i) : FM T (sA T c (upd (gA T c) i v)) :=
  ⟨fun _ _ _ => rfl, fun c' j q => by
    rw [gA_sA]
    by_cases e : c' = c
    · rw [if_pos e]
      simp only [upd]
      rw [if_neg (fun z => q (by rw [e, z]; exact h)), e]
    · rw [if_neg e], rfl⟩
theorem mTx.fm {T T1 : St} {b : Nat → Int32} {L : Int32} (h : mTx T b L) (hs : FM T T1) : mTx T1 b L :=
  ⟨by rw [hs.1 0 3 (by omega)]; exact h.1, by rw [← h.2]; funext k; exact hs.2.1 1 k (by omega)⟩
/-- what the drafts need of a frame that keeps them -/
theorem Dr.sm {j : Nat} {S T S1 T1 : St} (hj : j < 2) (h : Dr j S T) (hs : Sm S S1 ciK caN) (ht : Sm T T1 (fun c k => c = 0 ∧ 4 ≤ k ∧ k ≤ 8) caN) : Dr j S1 T1 := by
  have a : ∀ c, gA S1 c = gA S c := fun c => hs.2.1 c id
  have b : ∀ c, gA T1 c = gA T c := fun c => ht.2.1 c id
  unfold Dr
  rw [hs.1 _ 4 (by omega), hs.1 _ 5 (by omega), hs.1 _ 6 (by omega), hs.1 _ 7 (by omega), hs.1 _ 8 (by omega), hs.1 3 5 (by omega), ht.1 0 16 (by omega), ht.1 0 17 (by omega), a, a, a, a, b, b, b, b, b]
  exact h
