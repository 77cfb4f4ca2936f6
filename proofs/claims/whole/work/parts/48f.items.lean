/-! lane: an item, of class and reference -/
def cSemi (N : Nat) (rec : St → Int32 → Option (Int32 × St)) (S : St) (x2 : Int32) : Option (Int32 × St) := (f_X6_readToken N S).bind fun r18 => if (gI r18 3 3) = (9 : Int32) then (rec r18 (x2 + (1 : Int32))) else (some ((-1 : Int32), r18))
def cRest (N j : Nat) (rec : St → Int32 → Option (Int32 × St)) (S : St) (x2 w : Int32) : Option (Int32 × St) := (f_X6_leastFirst w).bind fun r10 => (f_X6_mostFirst S j w).bind fun r11 => (f_X6_readNumber N S r10 r11).bind fun r12 => if r12.1 = 0 then (some ((-1 : Int32), r12.2)) else (bnd (gI r12.2 3 4) fun b14 => if w = (2 : Int32) then ((f_X6_readNumber N r12.2 (1 : Int32) (3 : Int32)).bind fun r22 => if r22.1 = 0 then (some ((-1 : Int32), r22.2)) else (f_X6_readInto_88 N j rec r22.2 x2 w b14)) else (f_X6_readInto_88 N j rec r12.2 x2 w b14))
theorem r105 {N j : Nat} {rec : St → Int32 → Option (Int32 × St)} {S S2 : St} {x2 w a : Int32} (h : f_X6_tell S j w a (gI S 3 4) = some S2) : f_X6_readInto_105 N j rec S x2 w a = cSemi N rec S2 x2 := by
  unfold f_X6_readInto_105 cSemi
  rw [h, bs]
theorem cRest_fail {N j : Nat} {rec : St → Int32 → Option (Int32 × St)} {S S1 : St} {x2 w lo hi : Int32} (h1 : f_X6_leastFirst w = some lo) (h2 : f_X6_mostFirst S j w = some hi) (h3 : f_X6_readNumber N S lo hi = some (0, S1)) : cRest N j rec S x2 w = some (-1, S1) := by
  unfold cRest
  rw [h1, bs, h2, bs, h3, bs]
  exact if_pos rfl
theorem cRest_one {N j : Nat} {rec : St → Int32 → Option (Int32 × St)} {S S1 S2 : St} {x2 w lo hi : Int32} (h1 : f_X6_leastFirst w = some lo) (h2 : f_X6_mostFirst S j w = some hi) (h3 : f_X6_readNumber N S lo hi = some (1, S1)) (w2 : w ≠ 2) (w4 : w ≠ 4) (h4 : f_X6_tell S1 j w (gI S1 3 4) (gI S1 3 4) = some S2) : cRest N j rec S x2 w = cSemi N rec S2 x2 := by
  unfold cRest
  rw [h1, bs, h2, bs, h3, bs]
  refine (if_neg one_ne).trans ?_
  rw [bnd_eq]
  refine (if_neg w2).trans ?_
  unfold f_X6_readInto_88
  refine (if_neg w4).trans ?_
  exact r105 h4
theorem cRest_wind0 {N j : Nat} {rec : St → Int32 → Option (Int32 × St)} {S S1 S2 : St} {x2 lo hi : Int32} (h1 : f_X6_leastFirst 2 = some lo) (h2 : f_X6_mostFirst S j 2 = some hi) (h3 : f_X6_readNumber N S lo hi = some (1, S1)) (h4 : f_X6_readNumber N S1 1 3 = some (0, S2)) : cRest N j rec S x2 2 = some (-1, S2) := by
  unfold cRest
  rw [h1, bs, h2, bs, h3, bs]
  refine (if_neg one_ne).trans ?_
  rw [bnd_eq]
  refine (if_pos rfl).trans ?_
  rw [h4, bs]
  exact if_pos rfl
theorem cRest_wind1 {N j : Nat} {rec : St → Int32 → Option (Int32 × St)} {S S1 S2 S3 : St} {x2 lo hi : Int32} (h1 : f_X6_leastFirst 2 = some lo) (h2 : f_X6_mostFirst S j 2 = some hi) (h3 : f_X6_readNumber N S lo hi = some (1, S1)) (h4 : f_X6_readNumber N S1 1 3 = some (1, S2)) (h5 : f_X6_tell S2 j 2 (gI S1 3 4) (gI S2 3 4) = some S3) : cRest N j rec S x2 2 = cSemi N rec S3 x2 := by
  unfold cRest
  rw [h1, bs, h2, bs, h3, bs]
  refine (if_neg one_ne).trans ?_
  rw [bnd_eq]
  refine (if_pos rfl).trans ?_
  rw [h4, bs]
  refine (if_neg one_ne).trans ?_
  unfold f_X6_readInto_88
  refine (if_neg (by decide)).trans ?_
  exact r105 h5
theorem cRest_run0 {N j : Nat} {rec : St → Int32 → Option (Int32 × St)} {S S1 S2 : St} {x2 lo hi : Int32} (h1 : f_X6_leastFirst 4 = some lo) (h2 : f_X6_mostFirst S j 4 = some hi) (h3 : f_X6_readNumber N S lo hi = some (1, S1)) (h4 : f_X6_readNumber N S1 0 9 = some (0, S2)) : cRest N j rec S x2 4 = some (-1, S2) := by
  unfold cRest
  rw [h1, bs, h2, bs, h3, bs]
  refine (if_neg one_ne).trans ?_
  rw [bnd_eq]
  refine (if_neg (by decide)).trans ?_
  unfold f_X6_readInto_88
  refine (if_pos rfl).trans ?_
  rw [h4, bs]
  exact if_pos rfl
theorem cRest_run1 {N j : Nat} {rec : St → Int32 → Option (Int32 × St)} {S S1 S2 S3 : St} {x2 lo hi : Int32} (h1 : f_X6_leastFirst 4 = some lo) (h2 : f_X6_mostFirst S j 4 = some hi) (h3 : f_X6_readNumber N S lo hi = some (1, S1)) (h4 : f_X6_readNumber N S1 0 9 = some (1, S2)) (h5 : f_X6_tell S2 j 4 (gI S1 3 4) (gI S2 3 4) = some S3) : cRest N j rec S x2 4 = cSemi N rec S3 x2 := by
  unfold cRest
  rw [h1, bs, h2, bs, h3, bs]
  refine (if_neg one_ne).trans ?_
  rw [bnd_eq]
  refine (if_neg (by decide)).trans ?_
  unfold f_X6_readInto_88
  refine (if_pos rfl).trans ?_
  rw [h4, bs]
  refine (if_neg one_ne).trans ?_
  exact r105 h5
theorem tell1 (S : St) (j : Nat) (a c : Int32) : f_X6_tell S j 1 a c = some (sI (twd S 1) (33 + 5 * j) 4 a) := rfl
theorem tell2 (S : St) (j : Nat) {a : Int32} (c : Int32) (h : 0 ≤ a.toInt ∧ a.toInt < 24) : f_X6_tell S j 2 a c = some (sA (twd S 2) (34 + 5 * j) (upd (gA (twd S 2) (34 + 5 * j)) a.toNatClampNeg c)) := by
  unfold f_X6_tell f_X3_setWind
  rw [bnd_eq, if_neg (by decide), if_pos rfl, if_neg (by rw [zlt, z0]; omega), if_neg (by rw [zle, z24]; omega), if_neg (gok h.1 h.2), bnd_eq, bs]
theorem tell3 (S : St) (j : Nat) {a : Int32} (c : Int32) (h : 0 ≤ a.toInt ∧ a.toInt < 24) : f_X6_tell S j 3 a c = some (sA (twd S 3) (35 + 5 * j) (upd (gA (twd S 3) (35 + 5 * j)) a.toNatClampNeg 1)) := by
  unfold f_X6_tell f_X3_setWet
  rw [bnd_eq, if_neg (by decide), if_neg (by decide), if_pos rfl, if_neg (by rw [zlt, z0]; omega), if_neg (by rw [zle, z24]; omega), if_neg (gok h.1 h.2), bnd_eq, bs]
theorem tell4 (S : St) (j : Nat) (a c : Int32) {m : Int32} (e : gI S (33 + 5 * j) 5 = m) (h : 0 ≤ m.toInt ∧ m.toInt < 3) : f_X6_tell S j 4 a c = some (sI (sA (sA (twd S 4) (36 + 5 * j) (upd (gA (twd S 4) (36 + 5 * j)) m.toNatClampNeg a)) (37 + 5 * j) (upd (gA (twd S 4) (37 + 5 * j)) m.toNatClampNeg c)) (33 + 5 * j) 5 (m + 1)) := by
  have e1 : gI (twd S 4) (33 + 5 * j) 5 = m := by rw [← e]; exact gI_off (by omega)
  have e2 : ∀ f, gI (sA (twd S 4) (36 + 5 * j) f) (33 + 5 * j) 5 = m := fun f => e1
  have e3 : ∀ f g, gI (sA (sA (twd S 4) (36 + 5 * j) f) (37 + 5 * j) g) (33 + 5 * j) 5 = m := fun f g => e1
  have e4 : ∀ f, gA (sA (twd S 4) (36 + 5 * j) f) (37 + 5 * j) = gA (twd S 4) (37 + 5 * j) := fun f => gA_off (by omega)
  unfold f_X6_tell f_X3_addRunner
  rw [bnd_eq, if_neg (by decide), if_neg (by decide), if_neg (by decide), if_pos rfl, e1, if_neg (by rw [zlt, z0]; omega), if_neg (by rw [zle, z3]; omega), if_neg (by rw [zle, z3]; omega), if_neg (gok h.1 h.2), bnd_eq, e2, if_neg (gok h.1 h.2), bnd_eq, e3, bnd_eq, bs, e4]
theorem tell5 (S : St) (j : Nat) (a c : Int32) : f_X6_tell S j 5 a c = some (sI (twd S 5) (33 + 5 * j) 6 a) := rfl
theorem tell6 (S : St) (j : Nat) (a c : Int32) : f_X6_tell S j 6 a c = some (sI (twd S 6) (33 + 5 * j) 7 a) := rfl
theorem tell7 (S : St) (j : Nat) (a c : Int32) : f_X6_tell S j 7 a c = some (sI (twd S 7) (33 + 5 * j) 8 a) := rfl
/-- what reading an item leaves: a fault, or the semicolon next -/
def It (N : Nat) (b : Nat → Int32) (L : Int32) (j : Nat) (p : Int32) (S T : St) (E : Option (Int32 × St)) (F : St → Option (Int32 × St)) (M : Option St) : Prop := ∃ S' T', Sm S S' (ciD j) (caD j) ∧ FM T T' ∧ M = some T' ∧ ((E = some (-1, S') ∧ gI T' 0 8 = gI S' 3 2 ∧ 0 ≤ (gI S' 3 2).toInt) ∨ (∃ p2 : Int32, E = F S' ∧ p.toInt < p2.toInt ∧ Jt N b L S' T' p2 ∧ Dr j S' T'))
theorem kD {j : Nat} {S S1 : St} (h : Sm S S1 ciK caN) : Sm S S1 (ciD j) (caD j) := h.wk (fun c k z => by omega) (fun _ z => z.elim)
theorem fD {T T1 : St} (h : Sm T T1 (fun c k => c = 0 ∧ 4 ≤ k ∧ k ≤ 8) caN) : FM T T1 := FM.sm h (fun _ _ z => z)
theorem twdD {j : Nat} (S : St) (w : Int32) : Sm S (twd S w) (ciD j) (caD j) := Sm.sI S _ (by omega)
theorem i24 {y : Int32} (h : 0 ≤ y.toInt ∧ y.toInt < 24) : ((24 : Int32) + y).toNatClampNeg = 24 + y.toNatClampNeg ∧ ¬ ((24 : Int32) + y < 0 ∨ 48 ≤ ((24 : Int32) + y).toNatClampNeg) := by
  have e : ((24 : Int32) + y).toInt = 24 + y.toInt := by rw [zadd (by rw [z24]; omega) (by rw [z24]; omega), z24]
  exact ⟨by rw [znat, znat, e]; omega, gok (by omega) (by omega)⟩
theorem i3 {y : Int32} (h : 0 ≤ y.toInt ∧ y.toInt < 3) : ((3 : Int32) + y).toNatClampNeg = 3 + y.toNatClampNeg ∧ ¬ ((3 : Int32) + y < 0 ∨ 6 ≤ ((3 : Int32) + y).toNatClampNeg) := by
  have e : ((3 : Int32) + y).toInt = 3 + y.toInt := by rw [zadd (by rw [z3]; omega) (by rw [z3]; omega), z3]
  exact ⟨by rw [znat, znat, e]; omega, gok (by omega) (by omega)⟩
section IT
variable {N : Nat} {b : Nat → Int32} {L p x2 : Int32} {j : Nat} {S T : St} {rec : St → Int32 → Option (Int32 × St)}
theorem it_1 (hN : 1000 ≤ N) (hb : Tb b L) (hj : j < 2) (J : Jt N b L S T p) (D : Dr j S T) : It N b L j p S T (cRest N j rec S x2 1) (fun S' => cSemi N rec S' x2) (f_X10_readsItem N T 0) := by
  obtain ⟨S1, T1, s1, t1, h⟩ := l_num hN hb J 4 24
  have D1 := D.sm hj s1 t1
  have a1 : f_X6_leastFirst 1 = some 4 := rfl
  have a2 : f_X6_mostFirst S j 1 = some 24 := rfl
  rcases h with ⟨c1, m1, e8, f0, -⟩ | ⟨v, p2, c1, m1, e4, hv, hp, J1⟩
  · have hd : 0 ≤ (gI T1 0 8).toInt := by rw [e8]; exact f0
    refine ⟨S1, sI T1 0 16 (gI T1 0 16), kD s1, (fD t1).tr (FM.i _ _ (by omega)), ?_, Or.inl ⟨cRest_fail a1 a2 c1, e8, f0⟩⟩
    unfold f_X10_readsItem
    rw [if_pos rfl, m1, bs]
    dsimp only
    rw [isWell0 hd, bs, if_pos rfl]
    rfl
  · have hw := J1.2.2.2.2.1
    have hD := (D1.tb (w := 1) (by decide) (by decide) (by decide)).yards hv
    refine ⟨sI (twd S1 1) (33 + 5 * j) 4 v, sI T1 0 16 v, ((kD s1).tr (twdD _ _)).tr (Sm.sI _ _ (by omega)), (fD t1).tr (FM.i _ _ (by omega)), ?_, Or.inr ⟨p2, ?_, hp, ?_, hD⟩⟩
    · unfold f_X10_readsItem
      rw [if_pos rfl, m1, bs]
      dsimp only
      rw [isWell1 hw, bs, if_neg one_ne]
      rfl
    · exact cRest_one a1 a2 c1 (by decide) (by decide) (by rw [tell1, e4])
    · refine J1.keep (J1.1.sm ((twdD (j := j) _ _).tr (Sm.sI _ _ (by omega))) (by omega) (by omega)) ?_ J1.2.1 (fun k h1 h2 => gI_off (by omega))
      rw [gI_off (by omega)]; exact gI_off (by omega)
theorem it_2 (hN : 1000 ≤ N) (hb : Tb b L) (hj : j < 2) (J : Jt N b L S T p) (D : Dr j S T) : It N b L j p S T (cRest N j rec S x2 2) (fun S' => cSemi N rec S' x2) (f_X10_readsItem N T 1) := by
  obtain ⟨S1, T1, s1, t1, h⟩ := l_num hN hb J 0 (gI T 0 16 - 1)
  have D1 := D.sm hj s1 t1
  have hn := D.1.2
  have a1 : f_X6_leastFirst 2 = some 0 := rfl
  have a2 : f_X6_mostFirst S j 2 = some (gI T 0 16 - 1) := by rw [← D.1.1]; rfl
  have e16 : (gI T 0 16 - 1).toInt = (gI T 0 16).toInt - 1 := by rw [zsub (by rw [z1]; omega) (by rw [z1]; omega), z1]
  rcases h with ⟨c1, m1, e8, f0, -⟩ | ⟨y, p1, c1, m1, e4, hy, hp1, J1⟩
  · have hd : 0 ≤ (gI T1 0 8).toInt := by rw [e8]; exact f0
    refine ⟨S1, sA T1 2 (upd (gA T1 2) ((24 : Int32) + 0).toNatClampNeg (gA T1 2 ((24 : Int32) + 0).toNatClampNeg)), kD s1, (fD t1).tr (FM.a _ _ (Or.inl ⟨Or.inl rfl, by decide⟩)), ?_, Or.inl ⟨cRest_fail a1 a2 c1, e8, f0⟩⟩
    unfold f_X10_readsItem
    rw [if_neg (by decide), if_pos rfl, m1, bs]
    dsimp only
    rw [number_dead hd, bs]
    dsimp only
    rw [isWell0 hd, bs, if_pos rfl, if_neg (by decide)]
    unfold f_X10_readsItem_86
    rw [if_neg (by decide), bnd_eq]
  · rw [e16, z0] at hy
    have hy2 : 0 ≤ y.toInt ∧ y.toInt < 24 := by omega
    obtain ⟨i1, i2⟩ := i24 hy2
    obtain ⟨S2, T2, s2, t2, h⟩ := l_num hN hb J1 1 3
    have D2 := D1.sm hj s2 t2
    rcases h with ⟨c2, m2, e8, f0, -⟩ | ⟨v, p2, c2, m2, e5, hv, hp2, J2⟩
    · have hd : 0 ≤ (gI T2 0 8).toInt := by rw [e8]; exact f0
      refine ⟨S2, sA T2 2 (upd (gA T2 2) ((24 : Int32) + y).toNatClampNeg (gA T2 2 ((24 : Int32) + y).toNatClampNeg)), (kD s1).tr (kD s2), ((fD t1).tr (fD t2)).tr (FM.a _ _ (Or.inl ⟨Or.inl rfl, by rw [i1]; omega⟩)), ?_, Or.inl ⟨cRest_wind0 a1 a2 c1 c2, e8, f0⟩⟩
      unfold f_X10_readsItem
      rw [if_neg (by decide), if_pos rfl, m1, bs]
      dsimp only
      rw [m2, bs]
      dsimp only
      rw [isWell0 hd, bs, if_pos rfl, if_neg i2]
      unfold f_X10_readsItem_86
      rw [if_neg i2, bnd_eq]
    · have hw := J2.2.2.2.2.1
      rw [z1, z3] at hv
      have hD := (D2.tb (w := 2) (by decide) (by decide) (by decide)).wind (y := y.toNatClampNeg) (v := v) (by omega)
      refine ⟨sA (twd S2 2) (34 + 5 * j) (upd (gA (twd S2 2) (34 + 5 * j)) y.toNatClampNeg v), sA T2 2 (upd (gA T2 2) (24 + y.toNatClampNeg) v), (((kD s1).tr (kD s2)).tr (twdD _ _)).tr (Sm.sA _ _ (by omega)), ((fD t1).tr (fD t2)).tr (FM.a _ _ (Or.inl ⟨Or.inl rfl, by omega⟩)), ?_, Or.inr ⟨p2, ?_, by omega, ?_, hD⟩⟩
      · unfold f_X10_readsItem
        rw [if_neg (by decide), if_pos rfl, m1, bs]
        dsimp only
        rw [m2, bs]
        dsimp only
        rw [isWell1 hw, bs, if_neg one_ne]
        unfold f_X10_readsItem_86
        rw [if_neg i2, bnd_eq, i1]
      · exact cRest_wind1 a1 a2 c1 c2 (by rw [e4, e5, tell2 _ _ _ hy2])
      · exact J2.keep (J2.1.sm ((twdD (j := j) _ _).tr (Sm.sA _ _ (by omega))) (by omega) (by omega)) rfl (J2.2.1.fm (FM.a _ _ (Or.inl ⟨Or.inl rfl, by omega⟩))) (fun _ _ _ => rfl)
theorem it_3 (hN : 1000 ≤ N) (hb : Tb b L) (hj : j < 2) (J : Jt N b L S T p) (D : Dr j S T) : It N b L j p S T (cRest N j rec S x2 3) (fun S' => cSemi N rec S' x2) (f_X10_readsItem N T 2) := by
  obtain ⟨S1, T1, s1, t1, h⟩ := l_num hN hb J 0 (gI T 0 16 - 1)
  have D1 := D.sm hj s1 t1
  have hn := D.1.2
  have a1 : f_X6_leastFirst 3 = some 0 := rfl
  have a2 : f_X6_mostFirst S j 3 = some (gI T 0 16 - 1) := by rw [← D.1.1]; rfl
  have e16 : (gI T 0 16 - 1).toInt = (gI T 0 16).toInt - 1 := by rw [zsub (by rw [z1]; omega) (by rw [z1]; omega), z1]
  rcases h with ⟨c1, m1, e8, f0, -⟩ | ⟨y, p1, c1, m1, e4, hy, hp1, J1⟩
  · have hd : 0 ≤ (gI T1 0 8).toInt := by rw [e8]; exact f0
    refine ⟨S1, sA T1 3 (upd (gA T1 3) ((24 : Int32) + 0).toNatClampNeg (gA T1 3 ((24 : Int32) + 0).toNatClampNeg)), kD s1, (fD t1).tr (FM.a _ _ (Or.inl ⟨Or.inr rfl, by decide⟩)), ?_, Or.inl ⟨cRest_fail a1 a2 c1, e8, f0⟩⟩
    unfold f_X10_readsItem
    rw [if_neg (by decide), if_neg (by decide), if_pos rfl, m1, bs]
    dsimp only
    rw [isWell0 hd, bs, if_pos rfl, if_neg (by decide)]
    unfold f_X10_readsItem_135
    rw [if_neg (by decide), bnd_eq]
  · rw [e16, z0] at hy
    have hy2 : 0 ≤ y.toInt ∧ y.toInt < 24 := by omega
    obtain ⟨i1, i2⟩ := i24 hy2
    have hw := J1.2.2.2.2.1
    have hD := (D1.tb (w := 3) (by decide) (by decide) (by decide)).wet (y := y.toNatClampNeg)
    refine ⟨sA (twd S1 3) (35 + 5 * j) (upd (gA (twd S1 3) (35 + 5 * j)) y.toNatClampNeg 1), sA T1 3 (upd (gA T1 3) (24 + y.toNatClampNeg) 1), ((kD s1).tr (twdD _ _)).tr (Sm.sA _ _ (by omega)), (fD t1).tr (FM.a _ _ (Or.inl ⟨Or.inr rfl, by omega⟩)), ?_, Or.inr ⟨p1, ?_, hp1, ?_, hD⟩⟩
    · unfold f_X10_readsItem
      rw [if_neg (by decide), if_neg (by decide), if_pos rfl, m1, bs]
      dsimp only
      rw [isWell1 hw, bs, if_neg one_ne]
      unfold f_X10_readsItem_135
      rw [if_neg i2, bnd_eq, i1]
    · exact cRest_one a1 a2 c1 (by decide) (by decide) (by rw [e4, tell3 _ _ _ hy2])
    · exact J1.keep (J1.1.sm ((twdD (j := j) _ _).tr (Sm.sA _ _ (by omega))) (by omega) (by omega)) rfl (J1.2.1.fm (FM.a _ _ (Or.inl ⟨Or.inr rfl, by omega⟩))) (fun _ _ _ => rfl)
theorem it_4 (hN : 1000 ≤ N) (hb : Tb b L) (hj : j < 2) (J : Jt N b L S T p) (D : Dr j S T) (hr : (gI T 0 17).toInt < 3) : It N b L j p S T (cRest N j rec S x2 4) (fun S' => cSemi N rec S' x2) (f_X10_readsItem N T 3) := by
  obtain ⟨S1, T1, s1, t1, h⟩ := l_num hN hb J 1 4
  have D1 := D.sm hj s1 t1
  have hn := D.2.1.2
  have a1 : f_X6_leastFirst 4 = some 1 := rfl
  have a2 : f_X6_mostFirst S j 4 = some 4 := rfl
  have u17 : gI T1 0 17 = gI T 0 17 := t1.1 0 17 (by omega)
  generalize hm : gI T 0 17 = m at hr hn u17
  obtain ⟨i1, i2⟩ := i3 (y := m) ⟨hn.1, hr⟩
  rcases h with ⟨c1, m1, e8, f0, -⟩ | ⟨y, p1, c1, m1, e4, hy, hp1, J1⟩
  · have hd : 0 ≤ (gI T1 0 8).toInt := by rw [e8]; exact f0
    let T2 := sA T1 4 (upd (gA T1 4) ((3 : Int32) + m).toNatClampNeg 0)
    have hd2 : 0 ≤ (gI T2 0 8).toInt := hd
    have v17 : gI T2 0 17 = m := u17
    let T3 := sA T2 5 (upd (gA T2 5) ((3 : Int32) + m).toNatClampNeg 0)
    have w17 : gI T3 0 17 = m := u17
    refine ⟨S1, sI T3 0 17 (m + 1), kD s1, (((fD t1).tr (FM.a _ _ (Or.inr (Or.inl ⟨Or.inl rfl, by rw [i1]; omega⟩)))).tr (FM.a _ _ (Or.inr (Or.inl ⟨Or.inr rfl, by rw [i1]; omega⟩)))).tr (FM.i _ _ (by omega)), ?_, Or.inl ⟨cRest_fail a1 a2 c1, e8, f0⟩⟩
    unfold f_X10_readsItem
    rw [if_neg (by decide), if_neg (by decide), if_neg (by decide), if_pos rfl, m1, bs, hm, if_neg i2, bnd_eq]
    show (f_X10_number N T2 0 9).bind _ = _
    rw [number_dead hd2, bs]
    show (if ((3 : Int32) + gI T2 0 17 < 0 ∨ 6 ≤ ((3 : Int32) + gI T2 0 17).toNatClampNeg) then none else _) = _
    rw [v17, if_neg i2, bnd_eq]
    show bnd (sI T3 0 17 (gI T3 0 17 + 1)) _ = _
    rw [w17, bnd_eq]
  · let T2 := sA T1 4 (upd (gA T1 4) ((3 : Int32) + m).toNatClampNeg y)
    have F2 : FM T1 T2 := FM.a _ _ (Or.inr (Or.inl ⟨Or.inl rfl, by rw [i1]; omega⟩))
    have J1' : Jt N b L S1 T2 p1 := J1.keep J1.1 rfl (J1.2.1.fm F2) (fun _ _ _ => rfl)
    obtain ⟨S2, T3, s2, t2, h⟩ := l_num hN hb J1' 0 9
    have v17 : gI T2 0 17 = m := u17
    have w17 : gI T3 0 17 = m := (t2.1 0 17 (by omega)).trans u17
    rw [z1, z4] at hy
    rcases h with ⟨c2, m2, e8, f0, -⟩ | ⟨v, p2, c2, m2, e5, hv, hp2, J2⟩
    · let T4 := sA T3 5 (upd (gA T3 5) ((3 : Int32) + m).toNatClampNeg 0)
      have x17 : gI T4 0 17 = m := w17
      refine ⟨S2, sI T4 0 17 (m + 1), (kD s1).tr (kD s2), ((((fD t1).tr F2).tr (fD t2)).tr (FM.a _ _ (Or.inr (Or.inl ⟨Or.inr rfl, by rw [i1]; omega⟩)))).tr (FM.i _ _ (by omega)), ?_, Or.inl ⟨cRest_run0 a1 a2 c1 c2, e8, f0⟩⟩
      unfold f_X10_readsItem
      rw [if_neg (by decide), if_neg (by decide), if_neg (by decide), if_pos rfl, m1, bs, hm, if_neg i2, bnd_eq]
      show (f_X10_number N T2 0 9).bind _ = _
      rw [m2, bs]
      show (if ((3 : Int32) + gI T2 0 17 < 0 ∨ 6 ≤ ((3 : Int32) + gI T2 0 17).toNatClampNeg) then none else _) = _
      rw [v17, if_neg i2, bnd_eq]
      show bnd (sI T4 0 17 (gI T4 0 17 + 1)) _ = _
      rw [x17, bnd_eq]
    · rw [z0, z9] at hv
      let T4 := sA T3 5 (upd (gA T3 5) ((3 : Int32) + m).toNatClampNeg v)
      have x17 : gI T4 0 17 = m := w17
      have D2 : Dr j S2 T3 := by
        obtain ⟨d1, d2, d3, d4, d5, d6, d7⟩ := D1
        have D1' : Dr j S1 T2 := by
          refine ⟨d1, d2, d3, d4, fun k hk => ?_, d6, d7⟩
          have hk : (k : Int) < (gI T1 0 17).toInt := hk
          rw [u17] at hk
          show (_ = upd (gA T1 4) ((3 : Int32) + m).toNatClampNeg y (3 + k) ∧ 1 ≤ (upd (gA T1 4) ((3 : Int32) + m).toNatClampNeg y (3 + k)).toInt ∧ (upd (gA T1 4) ((3 : Int32) + m).toNatClampNeg y (3 + k)).toInt ≤ 4) ∧ _
          have e : upd (gA T1 4) ((3 : Int32) + m).toNatClampNeg y (3 + k) = gA T1 4 (3 + k) := by
            simp only [upd]
            rw [if_neg (by rw [i1, znat]; omega)]
          rw [e]
          exact d5 k (by rw [u17]; exact hk)
        exact D1'.sm hj s2 t2
      have hD := (D2.tb (w := 4) (by decide) (by decide) (by decide)).runner (m := m.toNatClampNeg) (v := y) (w := v) (by rw [w17, znat]; omega) (by rw [znat]; omega) hy hv
      have g4 : gA T3 4 = upd (gA T1 4) (3 + m.toNatClampNeg) y := by
        rw [t2.2.1 4 id]
        show gA (sA T1 4 _) 4 = _
        rw [gA_sA, if_pos rfl, i1]
      have eT : sI (sA (sA T3 4 (upd (gA T3 4) (3 + m.toNatClampNeg) y)) 5 (upd (gA T3 5) (3 + m.toNatClampNeg) v)) 0 17 (gI T3 0 17 + 1) = sI T4 0 17 (m + 1) := by
        have q : upd (gA T3 4) (3 + m.toNatClampNeg) y = gA T3 4 := by
          rw [g4]; funext k; simp only [upd]
          by_cases c : k = 3 + m.toNatClampNeg
          · rw [if_pos c, if_pos c]
          · rw [if_neg c]
        have q2 : sA T3 4 (gA T3 4) = T3 := congrArg (fun z => (T3.1, z, T3.2.2)) (upself T3.2.1 4)
        rw [q, q2, w17, ← i1]
      rw [eT, w17] at hD
      refine ⟨_, sI T4 0 17 (m + 1), ?_, ((((fD t1).tr F2).tr (fD t2)).tr (FM.a _ _ (Or.inr (Or.inl ⟨Or.inr rfl, by rw [i1]; omega⟩)))).tr (FM.i _ _ (by omega)), ?_, Or.inr ⟨p2, ?_, by omega, ?_, hD⟩⟩
      · exact (((((kD s1).tr (kD s2)).tr (twdD _ _)).tr (Sm.sA _ _ (by omega))).tr (Sm.sA _ _ (by omega))).tr (Sm.sI _ _ (by omega))
      · unfold f_X10_readsItem
        rw [if_neg (by decide), if_neg (by decide), if_neg (by decide), if_pos rfl, m1, bs, hm, if_neg i2, bnd_eq]
        show (f_X10_number N T2 0 9).bind _ = _
        rw [m2, bs]
        show (if ((3 : Int32) + gI T2 0 17 < 0 ∨ 6 ≤ ((3 : Int32) + gI T2 0 17).toNatClampNeg) then none else _) = _
        rw [v17, if_neg i2, bnd_eq]
        show bnd (sI T4 0 17 (gI T4 0 17 + 1)) _ = _
        rw [x17, bnd_eq]
      · exact cRest_run1 a1 a2 c1 c2 (by rw [e4, e5, tell4 _ _ _ _ (m := m) (D2.2.1.1.trans w17) ⟨hn.1, hr⟩])
      · refine J2.keep (J2.1.sm ((((twdD (j := j) _ _).tr (Sm.sA _ _ (by omega))).tr (Sm.sA _ _ (by omega))).tr (Sm.sI _ _ (by omega))) (by omega) (by omega)) ?_ ((J2.2.1.fm (FM.a _ _ (Or.inr (Or.inl ⟨Or.inr rfl, by rw [i1]; omega⟩)))).fm (FM.i _ _ (by omega))) (fun k h1 h2 => gI_off (by omega))
        rw [gI_off (by omega)]; rfl
/-- the three that are told once at most -/
theorem it_r (hN : 1000 ≤ N) (hb : Tb b L) (hj : j < 2) (J : Jt N b L S T p) (D : Dr j S T) {w hi ix : Int32} {iN cN : Nat} (a1 : f_X6_leastFirst w = some 1) (a2 : f_X6_mostFirst S j w = some hi) (w2 : w ≠ 2) (w4 : w ≠ 4) (hix : ix.toNatClampNeg = iN) (hi7 : 7 ≤ iN) (hg : ¬ (ix < 0 ∨ 14 ≤ ix.toNatClampNeg))
    (ht : ∀ S1 v, f_X6_tell S1 j w v v = some (sI (twd S1 w) (33 + 5 * j) cN v)) (hM : f_X10_readsItem N T (w - 1) = f_X10_readsItem_222 N T ix 1 hi) (hDr : ∀ S1 T1 v, Dr j S1 T1 → 1 ≤ v.toInt ∧ v.toInt ≤ hi.toInt → Dr j (sI (twd S1 w) (33 + 5 * j) cN v) (sA T1 6 (upd (gA T1 6) iN v))) : It N b L j p S T (cRest N j rec S x2 w) (fun S' => cSemi N rec S' x2) (f_X10_readsItem N T (w - 1)) := by
  obtain ⟨S1, T1, s1, t1, h⟩ := l_num hN hb J 1 hi
  have D1 := D.sm hj s1 t1
  rw [hM]
  rcases h with ⟨c1, m1, e8, f0, -⟩ | ⟨v, p2, c1, m1, e4, hv, hp, J1⟩
  · refine ⟨S1, sA T1 6 (upd (gA T1 6) iN 0), kD s1, (fD t1).tr (FM.a _ _ (Or.inr (Or.inr ⟨rfl, hi7⟩))), ?_, Or.inl ⟨cRest_fail a1 a2 c1, e8, f0⟩⟩
    unfold f_X10_readsItem_222
    rw [m1, bs, if_neg hg, bnd_eq, hix]
  · refine ⟨sI (twd S1 w) (33 + 5 * j) cN v, sA T1 6 (upd (gA T1 6) iN v), ((kD s1).tr (twdD _ _)).tr (Sm.sI _ _ (by omega)), (fD t1).tr (FM.a _ _ (Or.inr (Or.inr ⟨rfl, hi7⟩))), ?_, Or.inr ⟨p2, ?_, hp, ?_, hDr S1 T1 v D1 hv⟩⟩
    · unfold f_X10_readsItem_222
      rw [m1, bs, if_neg hg, bnd_eq, hix]
    · exact cRest_one a1 a2 c1 w2 w4 (by rw [e4, ht])
    · refine J1.keep (J1.1.sm ((twdD (j := j) _ _).tr (Sm.sI _ _ (by omega))) (by omega) (by omega)) ?_ (J1.2.1.fm (FM.a _ _ (Or.inr (Or.inr ⟨rfl, hi7⟩)))) (fun _ _ _ => rfl)
      rw [gI_off (by omega)]; exact gI_off (by omega)
theorem it_5 (hN : 1000 ≤ N) (hb : Tb b L) (hj : j < 2) (J : Jt N b L S T p) (D : Dr j S T) : It N b L j p S T (cRest N j rec S x2 5) (fun S' => cSemi N rec S' x2) (f_X10_readsItem N T 4) :=
  it_r hN hb hj J D (w := 5) (hi := 3) (ix := 7 + 4) (iN := 11) (cN := 6) rfl rfl (by decide) (by decide) (by decide) (by decide) (by decide) (fun S1 v => tell5 S1 j v v) rfl (fun _ _ _ h hv => h.rope hv)
theorem it_6 (hN : 1000 ≤ N) (hb : Tb b L) (hj : j < 2) (J : Jt N b L S T p) (D : Dr j S T) : It N b L j p S T (cRest N j rec S x2 6) (fun S' => cSemi N rec S' x2) (f_X10_readsItem N T 5) :=
  it_r hN hb hj J D (w := 6) (hi := 4) (ix := 7 + 5) (iN := 12) (cN := 7) rfl rfl (by decide) (by decide) (by decide) (by decide) (by decide) (fun S1 v => tell6 S1 j v v) rfl (fun _ _ _ h hv => h.need hv)
theorem it_7 (hN : 1000 ≤ N) (hb : Tb b L) (hj : j < 2) (J : Jt N b L S T p) (D : Dr j S T) : It N b L j p S T (cRest N j rec S x2 7) (fun S' => cSemi N rec S' x2) (f_X10_readsItem N T 6) :=
  it_r hN hb hj J D (w := 7) (hi := 9) (ix := 7 + 6) (iN := 13) (cN := 8) rfl rfl (by decide) (by decide) (by decide) (by decide) (by decide) (fun S1 v => tell7 S1 j v v) rfl (fun _ _ _ h hv => h.drop hv)
end IT
