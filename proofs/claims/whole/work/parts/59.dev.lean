-- FILE 48d.number.lean.txt
/-! lane: numbers asked for; the rest of an item -/
/-- class and reference at the same place: the class reads next what the reference holds -/
def Jt (N : Nat) (b : Nat → Int32) (L : Int32) (S T : St) (p : Int32) : Prop := cTx S b L ∧ mTx T b L ∧ gI S 3 1 = p ∧ (0 ≤ p.toInt ∧ p.toInt ≤ L.toInt) ∧ gI T 0 8 = -1 ∧ ∃ q st kd v : Int32, (p.toInt ≤ st.toInt ∧ st.toInt ≤ q.toInt ∧ q.toInt ≤ L.toInt ∧ (kd ≠ 0 → p.toInt < q.toInt)) ∧ gI T 0 4 = q ∧ gI T 0 6 = st ∧ Tk kd v T ∧ Rd N b L p q st kd v
theorem isWell1 {T : St} (h : gI T 0 8 = -1) : f_X10_isWell T = some 1 := by
  unfold f_X10_isWell; rw [h, if_neg (by decide)]
theorem isWell0 {T : St} (h : 0 ≤ (gI T 0 8).toInt) : f_X10_isWell T = some 0 := by
  unfold f_X10_isWell; rw [if_pos (by rw [zle, z0]; exact h)]
theorem takes_dead {N : Nat} {T : St} (h : 0 ≤ (gI T 0 8).toInt) (a : Int32) : f_X10_takes N T a = some (0, T) := by
  unfold f_X10_takes; rw [isWell0 h, bs, if_pos rfl]
theorem takes_no {N : Nat} {T : St} (h : gI T 0 8 = -1) : f_X10_takes N T 0 = some (0, sI T 0 8 (gI T 0 6)) := by
  unfold f_X10_takes; rw [isWell1 h, bs, if_neg one_ne, if_pos rfl, bnd_eq]
theorem number_dead {N : Nat} {T : St} (h : 0 ≤ (gI T 0 8).toInt) (a c : Int32) : f_X10_number N T a c = some (0, T) := by
  have e : ∀ t, f_X10_number_26 N T t = some (0, T) := fun t => by unfold f_X10_number_26; rw [takes_dead h, bs]
  have e2 : f_X10_number_25 N T = some (0, T) := by unfold f_X10_number_25; exact e 0
  unfold f_X10_number
  rw [e2, in_eq, bs, if10, e]
  by_cases c1 : gI T 0 5 = 2
  · rw [if_pos c1]
    by_cases c2 : a.toInt ≤ (gI T 0 7).toInt ∧ (gI T 0 7).toInt ≤ c.toInt
    · rw [if_pos c2]
    · rw [if_neg c2]
  · rw [if_neg c1]
/-- the reference takes what it holds -/
theorem takes_yes {N : Nat} (hN : 1000 ≤ N) {b : Nat → Int32} {L : Int32} (hb : Tb b L) {T : St} {q : Int32} (hT : mTx T b L) (hw : gI T 0 8 = -1) (hq : 0 ≤ q.toInt ∧ q.toInt ≤ L.toInt) (e : gI T 0 4 = q) :
    ∃ T', f_X10_takes N T 1 = some (gI T 0 7, T') ∧ Sm T T' ciV caN ∧ ∀ S : St, cTx S b L → gI S 3 1 = q → Jt N b L S T' q := by
  obtain ⟨q2, st, kd, v, h1, h2, h3, h4, h5, h6⟩ := l_tok hb hN q hq.1 hq.2
  obtain ⟨T', t1, t2, t3, t4, t5⟩ := h5 T hT e
  refine ⟨T', ?_, t2, fun S hS eS => ⟨hS, hT.sm t2 (by omega) id, eS, hq, by rw [t2.1 0 8 (by omega)]; exact hw, q2, st, kd, v, ⟨h1, h2, h3, h4⟩, t3, t4, t5, h6⟩⟩
  unfold f_X10_takes
  rw [isWell1 hw, bs, if_neg one_ne, if_neg one_ne, bnd_eq, t1, bs]
theorem Tk.not8 {kd v : Int32} {T : St} (h : Tk kd v T) (h8 : kd ≠ 8) : gI T 0 5 ≠ 2 := by
  rcases h with ⟨-, h⟩ | ⟨-, h, -⟩ | ⟨h, -⟩ | ⟨-, h⟩ | ⟨-, h⟩
  · rw [h]; decide
  · rw [h]; decide
  · exact absurd h h8
  · rw [h]; decide
  · rw [h]; decide
theorem l_num {N : Nat} (hN : 1000 ≤ N) {b : Nat → Int32} {L : Int32} (hb : Tb b L) {S T : St} {p : Int32} (J : Jt N b L S T p) (lo hi : Int32) :
    ∃ (S' T' : St), Sm S S' ciK caN ∧ Sm T T' (fun c k => c = 0 ∧ 4 ≤ k ∧ k ≤ 8) caN ∧
      ((f_X6_readNumber N S lo hi = some (0, S') ∧ f_X10_number N T lo hi = some (0, T') ∧ gI T' 0 8 = gI S' 3 2 ∧ 0 ≤ (gI S' 3 2).toInt ∧ (gI S' 3 2).toInt ≤ L.toInt) ∨
       ∃ v p2 : Int32, f_X6_readNumber N S lo hi = some (1, S') ∧ f_X10_number N T lo hi = some (v, T') ∧ gI S' 3 4 = v ∧ (lo.toInt ≤ v.toInt ∧ v.toInt ≤ hi.toInt) ∧ p.toInt < p2.toInt ∧ Jt N b L S' T' p2) := by
  obtain ⟨hS, hT, eS, hp, hw, q, st, kd, v, ⟨h1, h2, h3, h4⟩, e4, e6, hk, hr⟩ := J
  obtain ⟨S', s1, s2, s3, s4, s5, s6⟩ := hr S hS eS
  have hS' : cTx S' b L := hS.sm s2 (by omega) id
  have fail : ∀ (hc : f_X6_readNumber N S lo hi = some (0, S')) (hm : f_X10_number N T lo hi = f_X10_number_25 N T), ∃ (S' T' : St), Sm S S' ciK caN ∧ Sm T T' (fun c k => c = 0 ∧ 4 ≤ k ∧ k ≤ 8) caN ∧
      ((f_X6_readNumber N S lo hi = some (0, S') ∧ f_X10_number N T lo hi = some (0, T') ∧ gI T' 0 8 = gI S' 3 2 ∧ 0 ≤ (gI S' 3 2).toInt ∧ (gI S' 3 2).toInt ≤ L.toInt) ∨
       ∃ v p2 : Int32, f_X6_readNumber N S lo hi = some (1, S') ∧ f_X10_number N T lo hi = some (v, T') ∧ gI S' 3 4 = v ∧ (lo.toInt ≤ v.toInt ∧ v.toInt ≤ hi.toInt) ∧ p.toInt < p2.toInt ∧ Jt N b L S' T' p2) := by
    intro hc hm
    refine ⟨S', sI T 0 8 st, s2, Sm.sI _ _ (by omega), Or.inl ⟨hc, ?_, s4.symm, by rw [s4]; omega, by rw [s4]; omega⟩⟩
    rw [hm]
    unfold f_X10_number_25 f_X10_number_26
    rw [takes_no hw, bs, e6]
  have hcl : f_X6_readNumber N S lo hi = (if kd = 8 then if gI S' 3 4 < lo then some (0, S') else if hi < gI S' 3 4 then some (0, S') else some (1, S') else some (0, S')) := by
    unfold f_X6_readNumber
    rw [s1, bs, s5]
  have hml : f_X10_number N T lo hi = (if gI T 0 5 = 2 then if lo.toInt ≤ (gI T 0 7).toInt ∧ (gI T 0 7).toInt ≤ hi.toInt then f_X10_number_26 N T 1 else f_X10_number_25 N T else f_X10_number_25 N T) := by
    unfold f_X10_number
    rw [in_eq, bs, if10]
  by_cases c8 : kd = 8
  · have e5 : gI T 0 5 = 2 ∧ gI T 0 7 = v := by
      subst c8
      rcases hk with ⟨h, -⟩ | ⟨h, -, -⟩ | ⟨-, h⟩ | ⟨h, -⟩ | ⟨h, -⟩
      · exact absurd h (by decide)
      · exact absurd h.2 (by decide)
      · exact h
      · exact absurd h (by decide)
      · exact absurd h (by decide)
    have e34 := s6 c8
    rw [if_pos c8, e34] at hcl
    simp only [zlt] at hcl
    rw [if_pos e5.1, e5.2] at hml
    by_cases c : lo.toInt ≤ v.toInt ∧ v.toInt ≤ hi.toInt
    · rw [if_pos c] at hml
      rw [if_neg (by omega), if_neg (by omega)] at hcl
      have hk0 : kd ≠ 0 := by rw [c8]; decide
      obtain ⟨T', t1, t2, t3⟩ := takes_yes hN hb hT hw (q := q) ⟨by omega, h3⟩ e4
      refine ⟨S', T', s2, t2.wk (fun c k z => by omega) (fun _ z => z), Or.inr ⟨v, q, hcl, ?_, e34, c, h4 hk0, t3 S' hS' s3⟩⟩
      rw [hml]
      unfold f_X10_number_26
      rw [t1, bs, e5.2]
    · rw [if_neg c] at hml
      refine fail ?_ hml
      rw [hcl]
      by_cases d : v.toInt < lo.toInt
      · rw [if_pos d]
      · rw [if_neg d, if_pos (by omega)]
  · rw [if_neg c8] at hcl
    rw [if_neg (hk.not8 c8)] at hml
    exact fail hcl hml
/-- the drafts: the class' spare lane j, the reference's rows from their half on -/
def RU (a r : Int32) (d m : Int) : Prop := (r = -9 ∧ a.toInt = d) ∨ (1 ≤ r.toInt ∧ r.toInt ≤ m ∧ a = r)
def Dr (j : Nat) (S T : St) : Prop :=
  (gI S (33 + 5 * j) 4 = gI T 0 16 ∧ 4 ≤ (gI T 0 16).toInt ∧ (gI T 0 16).toInt ≤ 24) ∧ (gI S (33 + 5 * j) 5 = gI T 0 17 ∧ 0 ≤ (gI T 0 17).toInt ∧ (gI T 0 17).toInt ≤ 3) ∧
  (∀ k : Nat, k < 24 → gA S (34 + 5 * j) k = gA T 2 (24 + k) ∧ 0 ≤ (gA T 2 (24 + k)).toInt ∧ (gA T 2 (24 + k)).toInt ≤ 3) ∧
  (∀ k : Nat, k < 24 → gA S (35 + 5 * j) k = gA T 3 (24 + k) ∧ (gA T 3 (24 + k) = 0 ∨ gA T 3 (24 + k) = 1)) ∧
  (∀ k : Nat, (k : Int) < (gI T 0 17).toInt → (gA S (36 + 5 * j) k = gA T 4 (3 + k) ∧ 1 ≤ (gA T 4 (3 + k)).toInt ∧ (gA T 4 (3 + k)).toInt ≤ 4) ∧ (gA S (37 + 5 * j) k = gA T 5 (3 + k) ∧ 0 ≤ (gA T 5 (3 + k)).toInt ∧ (gA T 5 (3 + k)).toInt ≤ 9)) ∧
  (RU (gI S (33 + 5 * j) 6) (gA T 6 11) 2 3 ∧ RU (gI S (33 + 5 * j) 7) (gA T 6 12) 3 4 ∧ RU (gI S (33 + 5 * j) 8) (gA T 6 13) 3 9) ∧
  ((gI S 3 5 &&& 32 = 0 ↔ gA T 6 11 = -9) ∧ (gI S 3 5 &&& 64 = 0 ↔ gA T 6 12 = -9) ∧ (gI S 3 5 &&& 128 = 0 ↔ gA T 6 13 = -9))
/-- what reading may change: class, reference -/
abbrev ciD (j c k : Nat) : Prop := c = 3 ∧ 1 ≤ k ∨ c = 33 + 5 * j
abbrev caD (j c : Nat) : Prop := 34 + 5 * j ≤ c ∧ c ≤ 37 + 5 * j
def FM (T T1 : St) : Prop := (∀ c k, ¬ (c = 0 ∧ (4 ≤ k ∧ k ≤ 8 ∨ k = 16 ∨ k = 17)) → gI T1 c k = gI T c k) ∧ (∀ c j, ¬ ((c = 2 ∨ c = 3) ∧ 24 ≤ j ∨ (c = 4 ∨ c = 5) ∧ 3 ≤ j ∨ c = 6 ∧ 7 ≤ j) → gA T1 c j = gA T c j) ∧ gJ T1 = gJ T
theorem FM.rf (T : St) : FM T T := ⟨fun _ _ _ => rfl, fun _ _ _ => rfl, rfl⟩
theorem FM.tr {T T1 T2 : St} (h : FM T T1) (k : FM T1 T2) : FM T T2 := ⟨fun c j q => (k.1 c j q).trans (h.1 c j q), fun c j q => (k.2.1 c j q).trans (h.2.1 c j q), k.2.2.trans h.2.2⟩
theorem FM.sm {T T1 : St} {ci : Nat → Nat → Prop} (h : Sm T T1 ci caN) (hi : ∀ c k, ci c k → c = 0 ∧ 4 ≤ k ∧ k ≤ 8) : FM T T1 :=
  ⟨fun c k q => h.1 c k (fun z => q ⟨(hi c k z).1, Or.inl (hi c k z).2⟩), fun c j _ => by rw [h.2.1 c id], h.2.2.1⟩
theorem FM.i (T : St) {k : Nat} (v : Int32) (h : 4 ≤ k ∧ k ≤ 8 ∨ k = 16 ∨ k = 17) : FM T (sI T 0 k v) :=
  ⟨fun c k' q => gI_off (fun z => q ⟨z.1, z.2 ▸ h⟩), fun _ _ _ => rfl, rfl⟩
theorem FM.a (T : St) {c i : Nat} (v : Int32) (h : (c = 2 ∨ c = 3) ∧ 24 ≤ i ∨ (c = 4 ∨ c = 5) ∧ 3 ≤ i ∨ c = 6 ∧ 7 ≤ i) : FM T (sA T c (upd (gA T c) i v)) :=
  ⟨fun _ _ _ => rfl, fun c' j q => by
    rw [gA_sA]
    by_cases e : c' = c
    · rw [if_pos e]
      simp only [upd]
      rw [if_neg (fun z => q (by rw [e, z]; exact h)), e]
    · rw [if_neg e], rfl⟩
theorem mTx.fm {T T1 : St} {b : Nat → Int32} {L : Int32} (h : mTx T b L) (hs : FM T T1) : mTx T1 b L :=
  ⟨by rw [hs.1 0 3 (by omega)]; exact h.1, by rw [← h.2]; funext k; exact hs.2.1 1 k (by omega)⟩
/-- what the drafts need of a frame that keeps them -/
theorem Dr.sm {j : Nat} {S T S1 T1 : St} (hj : j < 2) (h : Dr j S T) (hs : Sm S S1 ciK caN) (ht : Sm T T1 (fun c k => c = 0 ∧ 4 ≤ k ∧ k ≤ 8) caN) : Dr j S1 T1 := by
  have a : ∀ c, gA S1 c = gA S c := fun c => hs.2.1 c id
  have b : ∀ c, gA T1 c = gA T c := fun c => ht.2.1 c id
  unfold Dr
  rw [hs.1 _ 4 (by omega), hs.1 _ 5 (by omega), hs.1 _ 6 (by omega), hs.1 _ 7 (by omega), hs.1 _ 8 (by omega), hs.1 3 5 (by omega), ht.1 0 16 (by omega), ht.1 0 17 (by omega), a, a, a, a, b, b, b, b, b]
  exact h
-- FILE 48e.drafts.lean.txt
/-! lane: the drafts, told -/
theorem andor (t x m : Int32) : (t ||| x) &&& m = (t &&& m) ||| (x &&& m) := Int32.toBitVec_inj.1 BitVec.and_or_distrib_right
theorem bO {t x m : Int32} (h : x &&& m = 0) : (t ||| x) &&& m = t &&& m := by rw [andor, h, Int32.or_zero]
theorem bS {t m : Int32} (hm : m ≠ 0) : ¬ ((t ||| m) &&& m = 0) := by
  rw [andor, Int32.and_self]
  intro h
  have h2 := congrArg Int32.toBitVec h
  rw [Int32.toBitVec_or] at h2
  exact hm (Int32.toBitVec_inj.1 (BitVec.or_eq_zero_iff.mp h2).2)
theorem Jt.keep {N : Nat} {b : Nat → Int32} {L : Int32} {S T S1 T1 : St} {p : Int32} (J : Jt N b L S T p) (hS : cTx S1 b L) (e : gI S1 3 1 = gI S 3 1) (hT : mTx T1 b L) (h : ∀ k, 4 ≤ k → k ≤ 8 → gI T1 0 k = gI T 0 k) : Jt N b L S1 T1 p := by
  obtain ⟨j1, j2, j3, j4, j5, q, st, kd, v, j6, j7, j8, j9, j10⟩ := J
  refine ⟨hS, hT, e.trans j3, j4, (h 8 (by omega) (by omega)).trans j5, q, st, kd, v, j6, (h 4 (by omega) (by omega)).trans j7, (h 6 (by omega) (by omega)).trans j8, ?_, j10⟩
  unfold Tk
  rw [h 5 (by omega) (by omega), h 7 (by omega) (by omega)]
  exact j9
/-- told once: bit w -/
abbrev twd (S : St) (w : Int32) : St := sI S 3 5 (gI S 3 5 ||| ((1 : Int32) <<< (w &&& 31)))
theorem Dr.tb {j : Nat} {S T : St} (h : Dr j S T) {w : Int32} (h5 : ((1 : Int32) <<< (w &&& 31)) &&& 32 = 0) (h6 : ((1 : Int32) <<< (w &&& 31)) &&& 64 = 0) (h7 : ((1 : Int32) <<< (w &&& 31)) &&& 128 = 0) : Dr j (twd S w) T := by
  have i : ∀ k, gI (twd S w) (33 + 5 * j) k = gI S (33 + 5 * j) k := fun k => gI_off (by omega)
  have e : gI (twd S w) 3 5 = gI S 3 5 ||| ((1 : Int32) <<< (w &&& 31)) := rfl
  unfold Dr
  rw [i, i, i, i, i, e, bO h5, bO h6, bO h7]
  exact h
theorem Dr.yards {j : Nat} {S T : St} (h : Dr j S T) {v : Int32} (hv : 4 ≤ v.toInt ∧ v.toInt ≤ 24) : Dr j (sI S (33 + 5 * j) 4 v) (sI T 0 16 v) := by
  obtain ⟨d1, d2, d3, d4, d5, d6, d7⟩ := h
  have e : gI (sI S (33 + 5 * j) 4 v) (33 + 5 * j) 4 = v := by rw [gI_sI, if_pos rfl, if_pos rfl]
  have i : ∀ k, k ≠ 4 → gI (sI S (33 + 5 * j) 4 v) (33 + 5 * j) k = gI S (33 + 5 * j) k := fun k hk => gI_off (by omega)
  have i3 : gI (sI S (33 + 5 * j) 4 v) 3 5 = gI S 3 5 := gI_off (by omega)
  refine ⟨⟨e, hv⟩, ⟨(i 5 (by omega)).trans d2.1, d2.2⟩, d3, d4, d5, ⟨?_, ?_, ?_⟩, ?_⟩
  · rw [i 6 (by omega)]; exact d6.1
  · rw [i 7 (by omega)]; exact d6.2.1
  · rw [i 8 (by omega)]; exact d6.2.2
  · rw [i3]; exact d7
theorem Dr.wind {j : Nat} {S T : St} (h : Dr j S T) {y : Nat} {v : Int32} (hv : 0 ≤ v.toInt ∧ v.toInt ≤ 3) : Dr j (sA S (34 + 5 * j) (upd (gA S (34 + 5 * j)) y v)) (sA T 2 (upd (gA T 2) (24 + y) v)) := by
  obtain ⟨d1, d2, d3, d4, d5, d6, d7⟩ := h
  have e : gA (sA S (34 + 5 * j) (upd (gA S (34 + 5 * j)) y v)) (34 + 5 * j) = upd (gA S (34 + 5 * j)) y v := by rw [gA_sA, if_pos rfl]
  have i : ∀ c, c ≠ 34 + 5 * j → gA (sA S (34 + 5 * j) (upd (gA S (34 + 5 * j)) y v)) c = gA S c := fun c hc => gA_off hc
  refine ⟨d1, d2, fun k hk => ?_, fun k hk => ?_, fun k hk => ?_, d6, d7⟩
  · rw [e]
    show upd _ y v k = upd (gA T 2) (24 + y) v (24 + k) ∧ 0 ≤ (upd (gA T 2) (24 + y) v (24 + k)).toInt ∧ (upd (gA T 2) (24 + y) v (24 + k)).toInt ≤ 3
    simp only [upd]
    by_cases c : k = y
    · rw [if_pos c, if_pos (by omega)]; exact ⟨rfl, hv⟩
    · rw [if_neg c, if_neg (by omega)]; exact d3 k hk
  · rw [i _ (by omega)]; exact d4 k hk
  · rw [i _ (by omega), i _ (by omega)]; exact d5 k hk
theorem Dr.wet {j : Nat} {S T : St} (h : Dr j S T) {y : Nat} : Dr j (sA S (35 + 5 * j) (upd (gA S (35 + 5 * j)) y 1)) (sA T 3 (upd (gA T 3) (24 + y) 1)) := by
  obtain ⟨d1, d2, d3, d4, d5, d6, d7⟩ := h
  have e : gA (sA S (35 + 5 * j) (upd (gA S (35 + 5 * j)) y 1)) (35 + 5 * j) = upd (gA S (35 + 5 * j)) y 1 := by rw [gA_sA, if_pos rfl]
  have i : ∀ c, c ≠ 35 + 5 * j → gA (sA S (35 + 5 * j) (upd (gA S (35 + 5 * j)) y 1)) c = gA S c := fun c hc => gA_off hc
  refine ⟨d1, d2, fun k hk => ?_, fun k hk => ?_, fun k hk => ?_, d6, d7⟩
  · rw [i _ (by omega)]; exact d3 k hk
  · rw [e]
    show upd _ y 1 k = upd (gA T 3) (24 + y) 1 (24 + k) ∧ (upd (gA T 3) (24 + y) 1 (24 + k) = 0 ∨ upd (gA T 3) (24 + y) 1 (24 + k) = 1)
    simp only [upd]
    by_cases c : k = y
    · rw [if_pos c, if_pos (by omega)]; exact ⟨rfl, Or.inr rfl⟩
    · rw [if_neg c, if_neg (by omega)]; exact d4 k hk
  · rw [i _ (by omega), i _ (by omega)]; exact d5 k hk
theorem Dr.runner {j : Nat} {S T : St} (h : Dr j S T) {m : Nat} {v w : Int32} (hm : (m : Int) = (gI T 0 17).toInt) (h3 : m < 3) (hv : 1 ≤ v.toInt ∧ v.toInt ≤ 4) (hw : 0 ≤ w.toInt ∧ w.toInt ≤ 9) :
    Dr j (sI (sA (sA S (36 + 5 * j) (upd (gA S (36 + 5 * j)) m v)) (37 + 5 * j) (upd (gA S (37 + 5 * j)) m w)) (33 + 5 * j) 5 (gI T 0 17 + 1)) (sI (sA (sA T 4 (upd (gA T 4) (3 + m) v)) 5 (upd (gA T 5) (3 + m) w)) 0 17 (gI T 0 17 + 1)) := by
  obtain ⟨d1, d2, d3, d4, d5, d6, d7⟩ := h
  have e1 : (gI T 0 17 + 1).toInt = (gI T 0 17).toInt + 1 := zadd (by rw [z1]; omega) (by rw [z1]; omega)
  generalize hS : sI (sA (sA S (36 + 5 * j) (upd (gA S (36 + 5 * j)) m v)) (37 + 5 * j) (upd (gA S (37 + 5 * j)) m w)) (33 + 5 * j) 5 (gI T 0 17 + 1) = S1
  have a6 : gA S1 (36 + 5 * j) = upd (gA S (36 + 5 * j)) m v := by
    rw [← hS]
    show gA (sA (sA S _ _) _ _) _ = _
    rw [gA_off (by omega), gA_sA, if_pos rfl]
  have a7 : gA S1 (37 + 5 * j) = upd (gA S (37 + 5 * j)) m w := by
    rw [← hS]
    show gA (sA (sA S _ _) _ _) _ = _
    rw [gA_sA, if_pos rfl]
  have a : ∀ c, c ≠ 36 + 5 * j → c ≠ 37 + 5 * j → gA S1 c = gA S c := fun c h1 h2 => by
    rw [← hS]
    show gA (sA (sA S _ _) _ _) _ = _
    rw [gA_off h2, gA_off h1]
  have i5 : gI S1 (33 + 5 * j) 5 = gI T 0 17 + 1 := by rw [← hS, gI_sI, if_pos rfl, if_pos rfl]
  have i : ∀ c k, ¬ (c = 33 + 5 * j ∧ k = 5) → gI S1 c k = gI S c k := fun c k hk => by rw [← hS, gI_off hk]; rfl
  refine ⟨⟨(i _ 4 (by omega)).trans d1.1, d1.2⟩, ⟨i5, by show 0 ≤ (gI T 0 17 + 1).toInt; omega, by show (gI T 0 17 + 1).toInt ≤ 3; omega⟩, fun k hk => ?_, fun k hk => ?_, fun k hk => ?_, ⟨?_, ?_, ?_⟩, ?_⟩
  · rw [a _ (by omega) (by omega)]; exact d3 k hk
  · rw [a _ (by omega) (by omega)]; exact d4 k hk
  · have hk : (k : Int) < (gI T 0 17 + 1).toInt := hk
    rw [a6, a7]
    show (upd _ m v k = upd (gA T 4) (3 + m) v (3 + k) ∧ 1 ≤ (upd (gA T 4) (3 + m) v (3 + k)).toInt ∧ (upd (gA T 4) (3 + m) v (3 + k)).toInt ≤ 4) ∧ (upd _ m w k = upd (gA T 5) (3 + m) w (3 + k) ∧ 0 ≤ (upd (gA T 5) (3 + m) w (3 + k)).toInt ∧ (upd (gA T 5) (3 + m) w (3 + k)).toInt ≤ 9)
    simp only [upd]
    by_cases c : k = m
    · rw [if_pos c, if_pos (by omega), if_pos c, if_pos (by omega)]; exact ⟨⟨rfl, hv⟩, ⟨rfl, hw⟩⟩
    · rw [if_neg c, if_neg (by omega), if_neg c, if_neg (by omega)]; exact d5 k (by omega)
  · rw [i _ 6 (by omega)]; exact d6.1
  · rw [i _ 7 (by omega)]; exact d6.2.1
  · rw [i _ 8 (by omega)]; exact d6.2.2
  · rw [i 3 5 (by omega)]; exact d7
theorem RU.new {v : Int32} {d m : Int} (h : 1 ≤ v.toInt ∧ v.toInt ≤ m) : RU v v d m := Or.inr ⟨h.1, h.2, rfl⟩
theorem not9 {v : Int32} (h : 1 ≤ v.toInt) : ¬ v = -9 := by rw [zeq, zm9]; omega
theorem Dr.rope {j : Nat} {S T : St} (h : Dr j S T) {v : Int32} (hv : 1 ≤ v.toInt ∧ v.toInt ≤ 3) : Dr j (sI (twd S 5) (33 + 5 * j) 6 v) (sA T 6 (upd (gA T 6) 11 v)) := by
  obtain ⟨d1, d2, d3, d4, d5, d6, d7⟩ := h
  generalize hS : sI (twd S 5) (33 + 5 * j) 6 v = S1
  have i : ∀ k, k ≠ 6 → gI S1 (33 + 5 * j) k = gI S (33 + 5 * j) k := fun k hk => by rw [← hS, gI_off (by omega)]; exact gI_off (by omega)
  have i6 : gI S1 (33 + 5 * j) 6 = v := by rw [← hS, gI_sI, if_pos rfl, if_pos rfl]
  have e : gI S1 3 5 = gI S 3 5 ||| 32 := by rw [← hS, gI_off (by omega)]; show gI S 3 5 ||| ((1 : Int32) <<< (5 &&& 31)) = _; rw [show (1 : Int32) <<< (5 &&& 31) = 32 by decide]
  have a : ∀ c, gA S1 c = gA S c := fun c => by rw [← hS]; rfl
  refine ⟨⟨(i 4 (by omega)).trans d1.1, d1.2⟩, ⟨(i 5 (by omega)).trans d2.1, d2.2⟩, fun k hk => by rw [a]; exact d3 k hk, fun k hk => by rw [a]; exact d4 k hk, fun k hk => by rw [a, a]; exact d5 k hk, ⟨?_, ?_, ?_⟩, ?_, ?_, ?_⟩
  · rw [i6]; exact RU.new hv
  · rw [i 7 (by omega)]; exact d6.2.1
  · rw [i 8 (by omega)]; exact d6.2.2
  · rw [e]; exact ⟨fun z => absurd z (bS (by decide)), fun z => absurd z (not9 hv.1)⟩
  · rw [e, bO (by decide)]; exact d7.2.1
  · rw [e, bO (by decide)]; exact d7.2.2
theorem Dr.need {j : Nat} {S T : St} (h : Dr j S T) {v : Int32} (hv : 1 ≤ v.toInt ∧ v.toInt ≤ 4) : Dr j (sI (twd S 6) (33 + 5 * j) 7 v) (sA T 6 (upd (gA T 6) 12 v)) := by
  obtain ⟨d1, d2, d3, d4, d5, d6, d7⟩ := h
  generalize hS : sI (twd S 6) (33 + 5 * j) 7 v = S1
  have i : ∀ k, k ≠ 7 → gI S1 (33 + 5 * j) k = gI S (33 + 5 * j) k := fun k hk => by rw [← hS, gI_off (by omega)]; exact gI_off (by omega)
  have i6 : gI S1 (33 + 5 * j) 7 = v := by rw [← hS, gI_sI, if_pos rfl, if_pos rfl]
  have e : gI S1 3 5 = gI S 3 5 ||| 64 := by rw [← hS, gI_off (by omega)]; show gI S 3 5 ||| ((1 : Int32) <<< (6 &&& 31)) = _; rw [show (1 : Int32) <<< (6 &&& 31) = 64 by decide]
  have a : ∀ c, gA S1 c = gA S c := fun c => by rw [← hS]; rfl
  refine ⟨⟨(i 4 (by omega)).trans d1.1, d1.2⟩, ⟨(i 5 (by omega)).trans d2.1, d2.2⟩, fun k hk => by rw [a]; exact d3 k hk, fun k hk => by rw [a]; exact d4 k hk, fun k hk => by rw [a, a]; exact d5 k hk, ⟨?_, ?_, ?_⟩, ?_, ?_, ?_⟩
  · rw [i 6 (by omega)]; exact d6.1
  · rw [i6]; exact RU.new hv
  · rw [i 8 (by omega)]; exact d6.2.2
  · rw [e, bO (by decide)]; exact d7.1
  · rw [e]; exact ⟨fun z => absurd z (bS (by decide)), fun z => absurd z (not9 hv.1)⟩
  · rw [e, bO (by decide)]; exact d7.2.2
theorem Dr.drop {j : Nat} {S T : St} (h : Dr j S T) {v : Int32} (hv : 1 ≤ v.toInt ∧ v.toInt ≤ 9) : Dr j (sI (twd S 7) (33 + 5 * j) 8 v) (sA T 6 (upd (gA T 6) 13 v)) := by
  obtain ⟨d1, d2, d3, d4, d5, d6, d7⟩ := h
  generalize hS : sI (twd S 7) (33 + 5 * j) 8 v = S1
  have i : ∀ k, k ≠ 8 → gI S1 (33 + 5 * j) k = gI S (33 + 5 * j) k := fun k hk => by rw [← hS, gI_off (by omega)]; exact gI_off (by omega)
  have i6 : gI S1 (33 + 5 * j) 8 = v := by rw [← hS, gI_sI, if_pos rfl, if_pos rfl]
  have e : gI S1 3 5 = gI S 3 5 ||| 128 := by rw [← hS, gI_off (by omega)]; show gI S 3 5 ||| ((1 : Int32) <<< (7 &&& 31)) = _; rw [show (1 : Int32) <<< (7 &&& 31) = 128 by decide]
  have a : ∀ c, gA S1 c = gA S c := fun c => by rw [← hS]; rfl
  refine ⟨⟨(i 4 (by omega)).trans d1.1, d1.2⟩, ⟨(i 5 (by omega)).trans d2.1, d2.2⟩, fun k hk => by rw [a]; exact d3 k hk, fun k hk => by rw [a]; exact d4 k hk, fun k hk => by rw [a, a]; exact d5 k hk, ⟨?_, ?_, ?_⟩, ?_, ?_, ?_⟩
  · rw [i 6 (by omega)]; exact d6.1
  · rw [i 7 (by omega)]; exact d6.2.1
  · rw [i6]; exact RU.new hv
  · rw [e, bO (by decide)]; exact d7.1
  · rw [e, bO (by decide)]; exact d7.2.1
  · rw [e]; exact ⟨fun z => absurd z (bS (by decide)), fun z => absurd z (not9 hv.1)⟩
-- FILE 48f.items.lean.txt
/-! lane: an item, of class and reference -/
def cSemi (N : Nat) (rec : St → Int32 → Option (Int32 × St)) (S : St) (x2 : Int32) : Option (Int32 × St) := (f_X6_readToken N S).bind fun r18 => if (gI r18 3 3) = (9 : Int32) then (rec r18 (x2 + (1 : Int32))) else (some ((-1 : Int32), r18))
def cRest (N j : Nat) (rec : St → Int32 → Option (Int32 × St)) (S : St) (x2 w : Int32) : Option (Int32 × St) := (f_X6_leastFirst w).bind fun r10 => (f_X6_mostFirst S j w).bind fun r11 => (f_X6_readNumber N S r10 r11).bind fun r12 => if r12.1 = 0 then (some ((-1 : Int32), r12.2)) else (bnd (gI r12.2 3 4) fun b14 => if w = (2 : Int32) then ((f_X6_readNumber N r12.2 (1 : Int32) (3 : Int32)).bind fun r22 => if r22.1 = 0 then (some ((-1 : Int32), r22.2)) else (f_X6_readInto_88 N j rec r22.2 x2 w b14)) else (f_X6_readInto_88 N j rec r12.2 x2 w b14))
theorem r105 {N j : Nat} {rec : St → Int32 → Option (Int32 × St)} {S S2 : St} {x2 w a : Int32} (h : f_X6_tell S j w a (gI S 3 4) = some S2) : f_X6_readInto_105 N j rec S x2 w a = cSemi N rec S2 x2 := by
  unfold f_X6_readInto_105 cSemi
  rw [h, bs]
theorem cRest_fail {N j : Nat} {rec : St → Int32 → Option (Int32 × St)} {S S1 : St} {x2 w lo hi : Int32} (h1 : f_X6_leastFirst w = some lo) (h2 : f_X6_mostFirst S j w = some hi) (h3 : f_X6_readNumber N S lo hi = some (0, S1)) : cRest N j rec S x2 w = some (-1, S1) := by
  unfold cRest
  rw [h1, bs, h2, bs, h3, bs]
  exact if_pos rfl
theorem cRest_one {N j : Nat} {rec : St → Int32 → Option (Int32 × St)} {S S1 S2 : St} {x2 w lo hi : Int32} (h1 : f_X6_leastFirst w = some lo) (h2 : f_X6_mostFirst S j w = some hi) (h3 : f_X6_readNumber N S lo hi = some (1, S1)) (w2 : w ≠ 2) (w4 : w ≠ 4) (h4 : f_X6_tell S1 j w (gI S1 3 4) (gI S1 3 4) = some S2) : cRest N j rec S x2 w = cSemi N rec S2 x2 := by
  unfold cRest
  rw [h1, bs, h2, bs, h3, bs]
  refine (if_neg one_ne).trans ?_
  rw [bnd_eq]
  refine (if_neg w2).trans ?_
  unfold f_X6_readInto_88
  refine (if_neg w4).trans ?_
  exact r105 h4
theorem cRest_wind0 {N j : Nat} {rec : St → Int32 → Option (Int32 × St)} {S S1 S2 : St} {x2 lo hi : Int32} (h1 : f_X6_leastFirst 2 = some lo) (h2 : f_X6_mostFirst S j 2 = some hi) (h3 : f_X6_readNumber N S lo hi = some (1, S1)) (h4 : f_X6_readNumber N S1 1 3 = some (0, S2)) : cRest N j rec S x2 2 = some (-1, S2) := by
  unfold cRest
  rw [h1, bs, h2, bs, h3, bs]
  refine (if_neg one_ne).trans ?_
  rw [bnd_eq]
  refine (if_pos rfl).trans ?_
  rw [h4, bs]
  exact if_pos rfl
theorem cRest_wind1 {N j : Nat} {rec : St → Int32 → Option (Int32 × St)} {S S1 S2 S3 : St} {x2 lo hi : Int32} (h1 : f_X6_leastFirst 2 = some lo) (h2 : f_X6_mostFirst S j 2 = some hi) (h3 : f_X6_readNumber N S lo hi = some (1, S1)) (h4 : f_X6_readNumber N S1 1 3 = some (1, S2)) (h5 : f_X6_tell S2 j 2 (gI S1 3 4) (gI S2 3 4) = some S3) : cRest N j rec S x2 2 = cSemi N rec S3 x2 := by
  unfold cRest
  rw [h1, bs, h2, bs, h3, bs]
  refine (if_neg one_ne).trans ?_
  rw [bnd_eq]
  refine (if_pos rfl).trans ?_
  rw [h4, bs]
  refine (if_neg one_ne).trans ?_
  unfold f_X6_readInto_88
  refine (if_neg (by decide)).trans ?_
  exact r105 h5
theorem cRest_run0 {N j : Nat} {rec : St → Int32 → Option (Int32 × St)} {S S1 S2 : St} {x2 lo hi : Int32} (h1 : f_X6_leastFirst 4 = some lo) (h2 : f_X6_mostFirst S j 4 = some hi) (h3 : f_X6_readNumber N S lo hi = some (1, S1)) (h4 : f_X6_readNumber N S1 0 9 = some (0, S2)) : cRest N j rec S x2 4 = some (-1, S2) := by
  unfold cRest
  rw [h1, bs, h2, bs, h3, bs]
  refine (if_neg one_ne).trans ?_
  rw [bnd_eq]
  refine (if_neg (by decide)).trans ?_
  unfold f_X6_readInto_88
  refine (if_pos rfl).trans ?_
  rw [h4, bs]
  exact if_pos rfl
theorem cRest_run1 {N j : Nat} {rec : St → Int32 → Option (Int32 × St)} {S S1 S2 S3 : St} {x2 lo hi : Int32} (h1 : f_X6_leastFirst 4 = some lo) (h2 : f_X6_mostFirst S j 4 = some hi) (h3 : f_X6_readNumber N S lo hi = some (1, S1)) (h4 : f_X6_readNumber N S1 0 9 = some (1, S2)) (h5 : f_X6_tell S2 j 4 (gI S1 3 4) (gI S2 3 4) = some S3) : cRest N j rec S x2 4 = cSemi N rec S3 x2 := by
  unfold cRest
  rw [h1, bs, h2, bs, h3, bs]
  refine (if_neg one_ne).trans ?_
  rw [bnd_eq]
  refine (if_neg (by decide)).trans ?_
  unfold f_X6_readInto_88
  refine (if_pos rfl).trans ?_
  rw [h4, bs]
  refine (if_neg one_ne).trans ?_
  exact r105 h5
theorem tell1 (S : St) (j : Nat) (a c : Int32) : f_X6_tell S j 1 a c = some (sI (twd S 1) (33 + 5 * j) 4 a) := rfl
theorem tell2 (S : St) (j : Nat) {a : Int32} (c : Int32) (h : 0 ≤ a.toInt ∧ a.toInt < 24) : f_X6_tell S j 2 a c = some (sA (twd S 2) (34 + 5 * j) (upd (gA (twd S 2) (34 + 5 * j)) a.toNatClampNeg c)) := by
  unfold f_X6_tell f_X3_setWind
  rw [bnd_eq, if_neg (by decide), if_pos rfl, if_neg (by rw [zlt, z0]; omega), if_neg (by rw [zle, z24]; omega), if_neg (gok h.1 h.2), bnd_eq, bs]
theorem tell3 (S : St) (j : Nat) {a : Int32} (c : Int32) (h : 0 ≤ a.toInt ∧ a.toInt < 24) : f_X6_tell S j 3 a c = some (sA (twd S 3) (35 + 5 * j) (upd (gA (twd S 3) (35 + 5 * j)) a.toNatClampNeg 1)) := by
  unfold f_X6_tell f_X3_setWet
  rw [bnd_eq, if_neg (by decide), if_neg (by decide), if_pos rfl, if_neg (by rw [zlt, z0]; omega), if_neg (by rw [zle, z24]; omega), if_neg (gok h.1 h.2), bnd_eq, bs]
theorem tell4 (S : St) (j : Nat) (a c : Int32) {m : Int32} (e : gI S (33 + 5 * j) 5 = m) (h : 0 ≤ m.toInt ∧ m.toInt < 3) : f_X6_tell S j 4 a c = some (sI (sA (sA (twd S 4) (36 + 5 * j) (upd (gA (twd S 4) (36 + 5 * j)) m.toNatClampNeg a)) (37 + 5 * j) (upd (gA (twd S 4) (37 + 5 * j)) m.toNatClampNeg c)) (33 + 5 * j) 5 (m + 1)) := by
  have e1 : gI (twd S 4) (33 + 5 * j) 5 = m := by rw [← e]; exact gI_off (by omega)
  have e2 : ∀ f, gI (sA (twd S 4) (36 + 5 * j) f) (33 + 5 * j) 5 = m := fun f => e1
  have e3 : ∀ f g, gI (sA (sA (twd S 4) (36 + 5 * j) f) (37 + 5 * j) g) (33 + 5 * j) 5 = m := fun f g => e1
  have e4 : ∀ f, gA (sA (twd S 4) (36 + 5 * j) f) (37 + 5 * j) = gA (twd S 4) (37 + 5 * j) := fun f => gA_off (by omega)
  unfold f_X6_tell f_X3_addRunner
  rw [bnd_eq, if_neg (by decide), if_neg (by decide), if_neg (by decide), if_pos rfl, e1, if_neg (by rw [zlt, z0]; omega), if_neg (by rw [zle, z3]; omega), if_neg (by rw [zle, z3]; omega), if_neg (gok h.1 h.2), bnd_eq, e2, if_neg (gok h.1 h.2), bnd_eq, e3, bnd_eq, bs, e4]
theorem tell5 (S : St) (j : Nat) (a c : Int32) : f_X6_tell S j 5 a c = some (sI (twd S 5) (33 + 5 * j) 6 a) := rfl
theorem tell6 (S : St) (j : Nat) (a c : Int32) : f_X6_tell S j 6 a c = some (sI (twd S 6) (33 + 5 * j) 7 a) := rfl
theorem tell7 (S : St) (j : Nat) (a c : Int32) : f_X6_tell S j 7 a c = some (sI (twd S 7) (33 + 5 * j) 8 a) := rfl
/-- what reading an item leaves: a fault, or the semicolon next -/
def It (N : Nat) (b : Nat → Int32) (L : Int32) (j : Nat) (p : Int32) (S T : St) (E : Option (Int32 × St)) (F : St → Option (Int32 × St)) (M : Option St) : Prop := ∃ S' T', Sm S S' (ciD j) (caD j) ∧ FM T T' ∧ M = some T' ∧ ((E = some (-1, S') ∧ gI T' 0 8 = gI S' 3 2 ∧ 0 ≤ (gI S' 3 2).toInt) ∨ (∃ p2 : Int32, E = F S' ∧ p.toInt < p2.toInt ∧ Jt N b L S' T' p2 ∧ Dr j S' T'))
theorem kD {j : Nat} {S S1 : St} (h : Sm S S1 ciK caN) : Sm S S1 (ciD j) (caD j) := h.wk (fun c k z => by omega) (fun _ z => z.elim)
theorem fD {T T1 : St} (h : Sm T T1 (fun c k => c = 0 ∧ 4 ≤ k ∧ k ≤ 8) caN) : FM T T1 := FM.sm h (fun _ _ z => z)
theorem twdD {j : Nat} (S : St) (w : Int32) : Sm S (twd S w) (ciD j) (caD j) := Sm.sI S _ (by omega)
theorem i24 {y : Int32} (h : 0 ≤ y.toInt ∧ y.toInt < 24) : ((24 : Int32) + y).toNatClampNeg = 24 + y.toNatClampNeg ∧ ¬ ((24 : Int32) + y < 0 ∨ 48 ≤ ((24 : Int32) + y).toNatClampNeg) := by
  have e : ((24 : Int32) + y).toInt = 24 + y.toInt := by rw [zadd (by rw [z24]; omega) (by rw [z24]; omega), z24]
  exact ⟨by rw [znat, znat, e]; omega, gok (by omega) (by omega)⟩
theorem i3 {y : Int32} (h : 0 ≤ y.toInt ∧ y.toInt < 3) : ((3 : Int32) + y).toNatClampNeg = 3 + y.toNatClampNeg ∧ ¬ ((3 : Int32) + y < 0 ∨ 6 ≤ ((3 : Int32) + y).toNatClampNeg) := by
  have e : ((3 : Int32) + y).toInt = 3 + y.toInt := by rw [zadd (by rw [z3]; omega) (by rw [z3]; omega), z3]
  exact ⟨by rw [znat, znat, e]; omega, gok (by omega) (by omega)⟩
section IT
variable {N : Nat} {b : Nat → Int32} {L p x2 : Int32} {j : Nat} {S T : St} {rec : St → Int32 → Option (Int32 × St)}
theorem it_1 (hN : 1000 ≤ N) (hb : Tb b L) (hj : j < 2) (J : Jt N b L S T p) (D : Dr j S T) : It N b L j p S T (cRest N j rec S x2 1) (fun S' => cSemi N rec S' x2) (f_X10_readsItem N T 0) := by
  obtain ⟨S1, T1, s1, t1, h⟩ := l_num hN hb J 4 24
  have D1 := D.sm hj s1 t1
  have a1 : f_X6_leastFirst 1 = some 4 := rfl
  have a2 : f_X6_mostFirst S j 1 = some 24 := rfl
  rcases h with ⟨c1, m1, e8, f0, -⟩ | ⟨v, p2, c1, m1, e4, hv, hp, J1⟩
  · have hd : 0 ≤ (gI T1 0 8).toInt := by rw [e8]; exact f0
    refine ⟨S1, sI T1 0 16 (gI T1 0 16), kD s1, (fD t1).tr (FM.i _ _ (by omega)), ?_, Or.inl ⟨cRest_fail a1 a2 c1, e8, f0⟩⟩
    unfold f_X10_readsItem
    rw [if_pos rfl, m1, bs]
    dsimp only
    rw [isWell0 hd, bs, if_pos rfl]
    rfl
  · have hw := J1.2.2.2.2.1
    have hD := (D1.tb (w := 1) (by decide) (by decide) (by decide)).yards hv
    refine ⟨sI (twd S1 1) (33 + 5 * j) 4 v, sI T1 0 16 v, ((kD s1).tr (twdD _ _)).tr (Sm.sI _ _ (by omega)), (fD t1).tr (FM.i _ _ (by omega)), ?_, Or.inr ⟨p2, ?_, hp, ?_, hD⟩⟩
    · unfold f_X10_readsItem
      rw [if_pos rfl, m1, bs]
      dsimp only
      rw [isWell1 hw, bs, if_neg one_ne]
      rfl
    · exact cRest_one a1 a2 c1 (by decide) (by decide) (by rw [tell1, e4])
    · refine J1.keep (J1.1.sm ((twdD (j := j) _ _).tr (Sm.sI _ _ (by omega))) (by omega) (by omega)) ?_ J1.2.1 (fun k h1 h2 => gI_off (by omega))
      rw [gI_off (by omega)]; exact gI_off (by omega)
theorem it_2 (hN : 1000 ≤ N) (hb : Tb b L) (hj : j < 2) (J : Jt N b L S T p) (D : Dr j S T) : It N b L j p S T (cRest N j rec S x2 2) (fun S' => cSemi N rec S' x2) (f_X10_readsItem N T 1) := by
  obtain ⟨S1, T1, s1, t1, h⟩ := l_num hN hb J 0 (gI T 0 16 - 1)
  have D1 := D.sm hj s1 t1
  have hn := D.1.2
  have a1 : f_X6_leastFirst 2 = some 0 := rfl
  have a2 : f_X6_mostFirst S j 2 = some (gI T 0 16 - 1) := by rw [← D.1.1]; rfl
  have e16 : (gI T 0 16 - 1).toInt = (gI T 0 16).toInt - 1 := by rw [zsub (by rw [z1]; omega) (by rw [z1]; omega), z1]
  rcases h with ⟨c1, m1, e8, f0, -⟩ | ⟨y, p1, c1, m1, e4, hy, hp1, J1⟩
  · have hd : 0 ≤ (gI T1 0 8).toInt := by rw [e8]; exact f0
    refine ⟨S1, sA T1 2 (upd (gA T1 2) ((24 : Int32) + 0).toNatClampNeg (gA T1 2 ((24 : Int32) + 0).toNatClampNeg)), kD s1, (fD t1).tr (FM.a _ _ (Or.inl ⟨Or.inl rfl, by decide⟩)), ?_, Or.inl ⟨cRest_fail a1 a2 c1, e8, f0⟩⟩
    unfold f_X10_readsItem
    rw [if_neg (by decide), if_pos rfl, m1, bs]
    dsimp only
    rw [number_dead hd, bs]
    dsimp only
    rw [isWell0 hd, bs, if_pos rfl, if_neg (by decide)]
    unfold f_X10_readsItem_86
    rw [if_neg (by decide), bnd_eq]
  · rw [e16, z0] at hy
    have hy2 : 0 ≤ y.toInt ∧ y.toInt < 24 := by omega
    obtain ⟨i1, i2⟩ := i24 hy2
    obtain ⟨S2, T2, s2, t2, h⟩ := l_num hN hb J1 1 3
    have D2 := D1.sm hj s2 t2
    rcases h with ⟨c2, m2, e8, f0, -⟩ | ⟨v, p2, c2, m2, e5, hv, hp2, J2⟩
    · have hd : 0 ≤ (gI T2 0 8).toInt := by rw [e8]; exact f0
      refine ⟨S2, sA T2 2 (upd (gA T2 2) ((24 : Int32) + y).toNatClampNeg (gA T2 2 ((24 : Int32) + y).toNatClampNeg)), (kD s1).tr (kD s2), ((fD t1).tr (fD t2)).tr (FM.a _ _ (Or.inl ⟨Or.inl rfl, by rw [i1]; omega⟩)), ?_, Or.inl ⟨cRest_wind0 a1 a2 c1 c2, e8, f0⟩⟩
      unfold f_X10_readsItem
      rw [if_neg (by decide), if_pos rfl, m1, bs]
      dsimp only
      rw [m2, bs]
      dsimp only
      rw [isWell0 hd, bs, if_pos rfl, if_neg i2]
      unfold f_X10_readsItem_86
      rw [if_neg i2, bnd_eq]
    · have hw := J2.2.2.2.2.1
      rw [z1, z3] at hv
      have hD := (D2.tb (w := 2) (by decide) (by decide) (by decide)).wind (y := y.toNatClampNeg) (v := v) (by omega)
      refine ⟨sA (twd S2 2) (34 + 5 * j) (upd (gA (twd S2 2) (34 + 5 * j)) y.toNatClampNeg v), sA T2 2 (upd (gA T2 2) (24 + y.toNatClampNeg) v), (((kD s1).tr (kD s2)).tr (twdD _ _)).tr (Sm.sA _ _ (by omega)), ((fD t1).tr (fD t2)).tr (FM.a _ _ (Or.inl ⟨Or.inl rfl, by omega⟩)), ?_, Or.inr ⟨p2, ?_, by omega, ?_, hD⟩⟩
      · unfold f_X10_readsItem
        rw [if_neg (by decide), if_pos rfl, m1, bs]
        dsimp only
        rw [m2, bs]
        dsimp only
        rw [isWell1 hw, bs, if_neg one_ne]
        unfold f_X10_readsItem_86
        rw [if_neg i2, bnd_eq, i1]
      · exact cRest_wind1 a1 a2 c1 c2 (by rw [e4, e5, tell2 _ _ _ hy2])
      · exact J2.keep (J2.1.sm ((twdD (j := j) _ _).tr (Sm.sA _ _ (by omega))) (by omega) (by omega)) rfl (J2.2.1.fm (FM.a _ _ (Or.inl ⟨Or.inl rfl, by omega⟩))) (fun _ _ _ => rfl)
theorem it_3 (hN : 1000 ≤ N) (hb : Tb b L) (hj : j < 2) (J : Jt N b L S T p) (D : Dr j S T) : It N b L j p S T (cRest N j rec S x2 3) (fun S' => cSemi N rec S' x2) (f_X10_readsItem N T 2) := by
  obtain ⟨S1, T1, s1, t1, h⟩ := l_num hN hb J 0 (gI T 0 16 - 1)
  have D1 := D.sm hj s1 t1
  have hn := D.1.2
  have a1 : f_X6_leastFirst 3 = some 0 := rfl
  have a2 : f_X6_mostFirst S j 3 = some (gI T 0 16 - 1) := by rw [← D.1.1]; rfl
  have e16 : (gI T 0 16 - 1).toInt = (gI T 0 16).toInt - 1 := by rw [zsub (by rw [z1]; omega) (by rw [z1]; omega), z1]
  rcases h with ⟨c1, m1, e8, f0, -⟩ | ⟨y, p1, c1, m1, e4, hy, hp1, J1⟩
  · have hd : 0 ≤ (gI T1 0 8).toInt := by rw [e8]; exact f0
    refine ⟨S1, sA T1 3 (upd (gA T1 3) ((24 : Int32) + 0).toNatClampNeg (gA T1 3 ((24 : Int32) + 0).toNatClampNeg)), kD s1, (fD t1).tr (FM.a _ _ (Or.inl ⟨Or.inr rfl, by decide⟩)), ?_, Or.inl ⟨cRest_fail a1 a2 c1, e8, f0⟩⟩
    unfold f_X10_readsItem
    rw [if_neg (by decide), if_neg (by decide), if_pos rfl, m1, bs]
    dsimp only
    rw [isWell0 hd, bs, if_pos rfl, if_neg (by decide)]
    unfold f_X10_readsItem_135
    rw [if_neg (by decide), bnd_eq]
  · rw [e16, z0] at hy
    have hy2 : 0 ≤ y.toInt ∧ y.toInt < 24 := by omega
    obtain ⟨i1, i2⟩ := i24 hy2
    have hw := J1.2.2.2.2.1
    have hD := (D1.tb (w := 3) (by decide) (by decide) (by decide)).wet (y := y.toNatClampNeg)
    refine ⟨sA (twd S1 3) (35 + 5 * j) (upd (gA (twd S1 3) (35 + 5 * j)) y.toNatClampNeg 1), sA T1 3 (upd (gA T1 3) (24 + y.toNatClampNeg) 1), ((kD s1).tr (twdD _ _)).tr (Sm.sA _ _ (by omega)), (fD t1).tr (FM.a _ _ (Or.inl ⟨Or.inr rfl, by omega⟩)), ?_, Or.inr ⟨p1, ?_, hp1, ?_, hD⟩⟩
    · unfold f_X10_readsItem
      rw [if_neg (by decide), if_neg (by decide), if_pos rfl, m1, bs]
      dsimp only
      rw [isWell1 hw, bs, if_neg one_ne]
      unfold f_X10_readsItem_135
      rw [if_neg i2, bnd_eq, i1]
    · exact cRest_one a1 a2 c1 (by decide) (by decide) (by rw [e4, tell3 _ _ _ hy2])
    · exact J1.keep (J1.1.sm ((twdD (j := j) _ _).tr (Sm.sA _ _ (by omega))) (by omega) (by omega)) rfl (J1.2.1.fm (FM.a _ _ (Or.inl ⟨Or.inr rfl, by omega⟩))) (fun _ _ _ => rfl)
theorem it_4 (hN : 1000 ≤ N) (hb : Tb b L) (hj : j < 2) (J : Jt N b L S T p) (D : Dr j S T) (hr : (gI T 0 17).toInt < 3) : It N b L j p S T (cRest N j rec S x2 4) (fun S' => cSemi N rec S' x2) (f_X10_readsItem N T 3) := by
  obtain ⟨S1, T1, s1, t1, h⟩ := l_num hN hb J 1 4
  have D1 := D.sm hj s1 t1
  have hn := D.2.1.2
  have a1 : f_X6_leastFirst 4 = some 1 := rfl
  have a2 : f_X6_mostFirst S j 4 = some 4 := rfl
  have u17 : gI T1 0 17 = gI T 0 17 := t1.1 0 17 (by omega)
  generalize hm : gI T 0 17 = m at hr hn u17
  obtain ⟨i1, i2⟩ := i3 (y := m) ⟨hn.1, hr⟩
  rcases h with ⟨c1, m1, e8, f0, -⟩ | ⟨y, p1, c1, m1, e4, hy, hp1, J1⟩
  · have hd : 0 ≤ (gI T1 0 8).toInt := by rw [e8]; exact f0
    let T2 := sA T1 4 (upd (gA T1 4) ((3 : Int32) + m).toNatClampNeg 0)
    have hd2 : 0 ≤ (gI T2 0 8).toInt := hd
    have v17 : gI T2 0 17 = m := u17
    let T3 := sA T2 5 (upd (gA T2 5) ((3 : Int32) + m).toNatClampNeg 0)
    have w17 : gI T3 0 17 = m := u17
    refine ⟨S1, sI T3 0 17 (m + 1), kD s1, (((fD t1).tr (FM.a _ _ (Or.inr (Or.inl ⟨Or.inl rfl, by rw [i1]; omega⟩)))).tr (FM.a _ _ (Or.inr (Or.inl ⟨Or.inr rfl, by rw [i1]; omega⟩)))).tr (FM.i _ _ (by omega)), ?_, Or.inl ⟨cRest_fail a1 a2 c1, e8, f0⟩⟩
    unfold f_X10_readsItem
    rw [if_neg (by decide), if_neg (by decide), if_neg (by decide), if_pos rfl, m1, bs, hm, if_neg i2, bnd_eq]
    show (f_X10_number N T2 0 9).bind _ = _
    rw [number_dead hd2, bs]
    show (if ((3 : Int32) + gI T2 0 17 < 0 ∨ 6 ≤ ((3 : Int32) + gI T2 0 17).toNatClampNeg) then none else _) = _
    rw [v17, if_neg i2, bnd_eq]
    show bnd (sI T3 0 17 (gI T3 0 17 + 1)) _ = _
    rw [w17, bnd_eq]
  · let T2 := sA T1 4 (upd (gA T1 4) ((3 : Int32) + m).toNatClampNeg y)
    have F2 : FM T1 T2 := FM.a _ _ (Or.inr (Or.inl ⟨Or.inl rfl, by rw [i1]; omega⟩))
    have J1' : Jt N b L S1 T2 p1 := J1.keep J1.1 rfl (J1.2.1.fm F2) (fun _ _ _ => rfl)
    obtain ⟨S2, T3, s2, t2, h⟩ := l_num hN hb J1' 0 9
    have v17 : gI T2 0 17 = m := u17
    have w17 : gI T3 0 17 = m := (t2.1 0 17 (by omega)).trans u17
    rw [z1, z4] at hy
    rcases h with ⟨c2, m2, e8, f0, -⟩ | ⟨v, p2, c2, m2, e5, hv, hp2, J2⟩
    · let T4 := sA T3 5 (upd (gA T3 5) ((3 : Int32) + m).toNatClampNeg 0)
      have x17 : gI T4 0 17 = m := w17
      refine ⟨S2, sI T4 0 17 (m + 1), (kD s1).tr (kD s2), ((((fD t1).tr F2).tr (fD t2)).tr (FM.a _ _ (Or.inr (Or.inl ⟨Or.inr rfl, by rw [i1]; omega⟩)))).tr (FM.i _ _ (by omega)), ?_, Or.inl ⟨cRest_run0 a1 a2 c1 c2, e8, f0⟩⟩
      unfold f_X10_readsItem
      rw [if_neg (by decide), if_neg (by decide), if_neg (by decide), if_pos rfl, m1, bs, hm, if_neg i2, bnd_eq]
      show (f_X10_number N T2 0 9).bind _ = _
      rw [m2, bs]
      show (if ((3 : Int32) + gI T2 0 17 < 0 ∨ 6 ≤ ((3 : Int32) + gI T2 0 17).toNatClampNeg) then none else _) = _
      rw [v17, if_neg i2, bnd_eq]
      show bnd (sI T4 0 17 (gI T4 0 17 + 1)) _ = _
      rw [x17, bnd_eq]
    · rw [z0, z9] at hv
      let T4 := sA T3 5 (upd (gA T3 5) ((3 : Int32) + m).toNatClampNeg v)
      have x17 : gI T4 0 17 = m := w17
      have D2 : Dr j S2 T3 := by
        obtain ⟨d1, d2, d3, d4, d5, d6, d7⟩ := D1
        have D1' : Dr j S1 T2 := by
          refine ⟨d1, d2, d3, d4, fun k hk => ?_, d6, d7⟩
          have hk : (k : Int) < (gI T1 0 17).toInt := hk
          rw [u17] at hk
          show (_ = upd (gA T1 4) ((3 : Int32) + m).toNatClampNeg y (3 + k) ∧ 1 ≤ (upd (gA T1 4) ((3 : Int32) + m).toNatClampNeg y (3 + k)).toInt ∧ (upd (gA T1 4) ((3 : Int32) + m).toNatClampNeg y (3 + k)).toInt ≤ 4) ∧ _
          have e : upd (gA T1 4) ((3 : Int32) + m).toNatClampNeg y (3 + k) = gA T1 4 (3 + k) := by
            simp only [upd]
            rw [if_neg (by rw [i1, znat]; omega)]
          rw [e]
          exact d5 k (by rw [u17]; exact hk)
        exact D1'.sm hj s2 t2
      have hD := (D2.tb (w := 4) (by decide) (by decide) (by decide)).runner (m := m.toNatClampNeg) (v := y) (w := v) (by rw [w17, znat]; omega) (by rw [znat]; omega) hy hv
      have g4 : gA T3 4 = upd (gA T1 4) (3 + m.toNatClampNeg) y := by
        rw [t2.2.1 4 id]
        show gA (sA T1 4 _) 4 = _
        rw [gA_sA, if_pos rfl, i1]
      have eT : sI (sA (sA T3 4 (upd (gA T3 4) (3 + m.toNatClampNeg) y)) 5 (upd (gA T3 5) (3 + m.toNatClampNeg) v)) 0 17 (gI T3 0 17 + 1) = sI T4 0 17 (m + 1) := by
        have q : upd (gA T3 4) (3 + m.toNatClampNeg) y = gA T3 4 := by
          rw [g4]; funext k; simp only [upd]
          by_cases c : k = 3 + m.toNatClampNeg
          · rw [if_pos c, if_pos c]
          · rw [if_neg c]
        have q2 : sA T3 4 (gA T3 4) = T3 := congrArg (fun z => (T3.1, z, T3.2.2)) (upself T3.2.1 4)
        rw [q, q2, w17, ← i1]
      rw [eT, w17] at hD
      refine ⟨_, sI T4 0 17 (m + 1), ?_, ((((fD t1).tr F2).tr (fD t2)).tr (FM.a _ _ (Or.inr (Or.inl ⟨Or.inr rfl, by rw [i1]; omega⟩)))).tr (FM.i _ _ (by omega)), ?_, Or.inr ⟨p2, ?_, by omega, ?_, hD⟩⟩
      · exact (((((kD s1).tr (kD s2)).tr (twdD _ _)).tr (Sm.sA _ _ (by omega))).tr (Sm.sA _ _ (by omega))).tr (Sm.sI _ _ (by omega))
      · unfold f_X10_readsItem
        rw [if_neg (by decide), if_neg (by decide), if_neg (by decide), if_pos rfl, m1, bs, hm, if_neg i2, bnd_eq]
        show (f_X10_number N T2 0 9).bind _ = _
        rw [m2, bs]
        show (if ((3 : Int32) + gI T2 0 17 < 0 ∨ 6 ≤ ((3 : Int32) + gI T2 0 17).toNatClampNeg) then none else _) = _
        rw [v17, if_neg i2, bnd_eq]
        show bnd (sI T4 0 17 (gI T4 0 17 + 1)) _ = _
        rw [x17, bnd_eq]
      · exact cRest_run1 a1 a2 c1 c2 (by rw [e4, e5, tell4 _ _ _ _ (m := m) (D2.2.1.1.trans w17) ⟨hn.1, hr⟩])
      · refine J2.keep (J2.1.sm ((((twdD (j := j) _ _).tr (Sm.sA _ _ (by omega))).tr (Sm.sA _ _ (by omega))).tr (Sm.sI _ _ (by omega))) (by omega) (by omega)) ?_ ((J2.2.1.fm (FM.a _ _ (Or.inr (Or.inl ⟨Or.inr rfl, by rw [i1]; omega⟩)))).fm (FM.i _ _ (by omega))) (fun k h1 h2 => gI_off (by omega))
        rw [gI_off (by omega)]; rfl
/-- the three that are told once at most -/
theorem it_r (hN : 1000 ≤ N) (hb : Tb b L) (hj : j < 2) (J : Jt N b L S T p) (D : Dr j S T) {w hi ix : Int32} {iN cN : Nat} (a1 : f_X6_leastFirst w = some 1) (a2 : f_X6_mostFirst S j w = some hi) (w2 : w ≠ 2) (w4 : w ≠ 4) (hix : ix.toNatClampNeg = iN) (hi7 : 7 ≤ iN) (hg : ¬ (ix < 0 ∨ 14 ≤ ix.toNatClampNeg))
    (ht : ∀ S1 v, f_X6_tell S1 j w v v = some (sI (twd S1 w) (33 + 5 * j) cN v)) (hM : f_X10_readsItem N T (w - 1) = f_X10_readsItem_222 N T ix 1 hi) (hDr : ∀ S1 T1 v, Dr j S1 T1 → 1 ≤ v.toInt ∧ v.toInt ≤ hi.toInt → Dr j (sI (twd S1 w) (33 + 5 * j) cN v) (sA T1 6 (upd (gA T1 6) iN v))) : It N b L j p S T (cRest N j rec S x2 w) (fun S' => cSemi N rec S' x2) (f_X10_readsItem N T (w - 1)) := by
  obtain ⟨S1, T1, s1, t1, h⟩ := l_num hN hb J 1 hi
  have D1 := D.sm hj s1 t1
  rw [hM]
  rcases h with ⟨c1, m1, e8, f0, -⟩ | ⟨v, p2, c1, m1, e4, hv, hp, J1⟩
  · refine ⟨S1, sA T1 6 (upd (gA T1 6) iN 0), kD s1, (fD t1).tr (FM.a _ _ (Or.inr (Or.inr ⟨rfl, hi7⟩))), ?_, Or.inl ⟨cRest_fail a1 a2 c1, e8, f0⟩⟩
    unfold f_X10_readsItem_222
    rw [m1, bs, if_neg hg, bnd_eq, hix]
  · refine ⟨sI (twd S1 w) (33 + 5 * j) cN v, sA T1 6 (upd (gA T1 6) iN v), ((kD s1).tr (twdD _ _)).tr (Sm.sI _ _ (by omega)), (fD t1).tr (FM.a _ _ (Or.inr (Or.inr ⟨rfl, hi7⟩))), ?_, Or.inr ⟨p2, ?_, hp, ?_, hDr S1 T1 v D1 hv⟩⟩
    · unfold f_X10_readsItem_222
      rw [m1, bs, if_neg hg, bnd_eq, hix]
    · exact cRest_one a1 a2 c1 w2 w4 (by rw [e4, ht])
    · refine J1.keep (J1.1.sm ((twdD (j := j) _ _).tr (Sm.sI _ _ (by omega))) (by omega) (by omega)) ?_ (J1.2.1.fm (FM.a _ _ (Or.inr (Or.inr ⟨rfl, hi7⟩)))) (fun _ _ _ => rfl)
      rw [gI_off (by omega)]; exact gI_off (by omega)
theorem it_5 (hN : 1000 ≤ N) (hb : Tb b L) (hj : j < 2) (J : Jt N b L S T p) (D : Dr j S T) : It N b L j p S T (cRest N j rec S x2 5) (fun S' => cSemi N rec S' x2) (f_X10_readsItem N T 4) :=
  it_r hN hb hj J D (w := 5) (hi := 3) (ix := 7 + 4) (iN := 11) (cN := 6) rfl rfl (by decide) (by decide) (by decide) (by decide) (by decide) (fun S1 v => tell5 S1 j v v) rfl (fun _ _ _ h hv => h.rope hv)
theorem it_6 (hN : 1000 ≤ N) (hb : Tb b L) (hj : j < 2) (J : Jt N b L S T p) (D : Dr j S T) : It N b L j p S T (cRest N j rec S x2 6) (fun S' => cSemi N rec S' x2) (f_X10_readsItem N T 5) :=
  it_r hN hb hj J D (w := 6) (hi := 4) (ix := 7 + 5) (iN := 12) (cN := 7) rfl rfl (by decide) (by decide) (by decide) (by decide) (by decide) (fun S1 v => tell6 S1 j v v) rfl (fun _ _ _ h hv => h.need hv)
theorem it_7 (hN : 1000 ≤ N) (hb : Tb b L) (hj : j < 2) (J : Jt N b L S T p) (D : Dr j S T) : It N b L j p S T (cRest N j rec S x2 7) (fun S' => cSemi N rec S' x2) (f_X10_readsItem N T 6) :=
  it_r hN hb hj J D (w := 7) (hi := 9) (ix := 7 + 6) (iN := 13) (cN := 8) rfl rfl (by decide) (by decide) (by decide) (by decide) (by decide) (fun S1 v => tell7 S1 j v v) rfl (fun _ _ _ h hv => h.drop hv)
end IT
