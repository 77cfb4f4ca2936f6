/-! lane -/
abbrev dn (r d : Int32) : Int32 := if r = -9 then d else r
/-- what the reference has when all is told anew -/
theorem settles188 {N : Nat} (hN : 1000 ≤ N) (T : St) (v : Int32) : ∃ T', f_X10_settles_188 N T 6 v = some T' ∧ (∀ k, ¬ (k = 3 ∨ k = 22 ∨ k = 24) → gI T' 0 k = gI T 0 k) ∧ (gI T' 0 3 = 0 ∧ gI T' 0 22 = 0 ∧ gI T' 0 24 = 0) ∧ gJ T' = gJ T ∧ (∀ c, ¬ (c = 6 ∨ c = 7 ∨ c = 9) → gA T' c = gA T c) ∧
    (∀ r, gA T' 6 r = if r = 6 then v else gA T 6 r) ∧ (∀ r, gA T' 7 r = if r < 9 then 0 else gA T 7 r) ∧ gA T' 9 0 = 0 ∧ gA T' 9 1 = 0 := by
  unfold f_X10_settles_188
  rw [if_neg (by decide), bnd_eq, show (6 : Int32).toNatClampNeg = 6 by decide]
  obtain ⟨g, q1, q2⟩ := home_zero N 9 N (sA T 6 (upd (gA T 6) 6 v)) 0 (by decide) (by decide) (by decide) (by omega)
  rw [q1]
  rw [bnd_eq, bnd_eq, bnd_eq, if_neg (by decide), bnd_eq, if_neg (by decide), bnd_eq]
  have h := at1 T (c1 := 6) (i := 6) (v := v)
  refine ⟨_, rfl, fun k hk => ?_, ⟨?_, ?_, ?_⟩, rfl, fun c hc => ?_, fun r => ?_, fun r => ?_, ?_, ?_⟩
  · show gI (sI (sI (sI _ 0 3 0) 0 22 0) 0 24 0) 0 k = _
    rw [gI_off (by omega), gI_off (by omega), gI_off (by omega)]; rfl
  · rfl
  · rfl
  · rfl
  · show gA (sA (sA _ 9 _) 9 _) c = _
    rw [gA_off (by omega), gA_off (by omega)]
    show g c = _
    funext r
    rw [q2, if_neg (by omega), h, if_neg (by omega)]
  · show gA (sA (sA _ 9 _) 9 _) 6 r = _
    rw [gA_off (by omega), gA_off (by omega)]
    show g 6 r = _
    rw [q2, if_neg (by omega), h]
    exact ite_iff ⟨fun z => z.2, fun z => ⟨rfl, z⟩⟩ _ _
  · show gA (sA (sA _ 9 _) 9 _) 7 r = _
    rw [gA_off (by omega), gA_off (by omega)]
    show g 7 r = _
    rw [q2, h, if_neg (show ¬ (7 = 6 ∧ r = 6) by omega)]
    exact ite_iff ⟨fun z => z.2.2, fun z => ⟨rfl, by rw [z0]; omega, z⟩⟩ _ _
  · rfl
  · rfl
theorem settles129 {N : Nat} (hN : 1000 ≤ N) (T : St) (v : Int32) : ∃ T', f_X10_settles_129 N T 4 v = some T' ∧ (∀ k, ¬ (k = 3 ∨ k = 22 ∨ k = 24) → gI T' 0 k = gI T 0 k) ∧ (gI T' 0 3 = 0 ∧ gI T' 0 22 = 0 ∧ gI T' 0 24 = 0) ∧ gJ T' = gJ T ∧ (∀ c, ¬ (c = 6 ∨ c = 7 ∨ c = 9) → gA T' c = gA T c) ∧
    (gA T' 6 4 = v ∧ gA T' 6 5 = dn (gA T 6 12) 3 ∧ gA T' 6 6 = dn (gA T 6 13) 3) ∧ (∀ r, gA T' 7 r = if r < 9 then 0 else gA T 7 r) ∧ gA T' 9 0 = 0 ∧ gA T' 9 1 = 0 := by
  have h4 := at1 T (c1 := 6) (i := 4) (v := v)
  generalize hA : sA T 6 (upd (gA T 6) 4 v) = TA at h4
  have h5 := at1 TA (c1 := 6) (i := 5) (v := dn (gA T 6 12) 3)
  generalize hB : sA TA 6 (upd (gA TA 6) 5 (dn (gA T 6 12) 3)) = TB at h5
  have iA : ∀ k, gI TA 0 k = gI T 0 k := fun k => by rw [← hA]; rfl
  have iB : ∀ k, gI TB 0 k = gI T 0 k := fun k => by rw [← hB]; exact iA k
  have aB : ∀ c, c ≠ 6 → gA TB c = gA T c := fun c hc => by
    funext r
    rw [h5, if_neg (fun z => hc z.1), h4, if_neg (fun z => hc z.1)]
  have jB : gJ TB = gJ T := by rw [← hB, ← hA]; rfl
  obtain ⟨T', q1, q2, q3, q4, q5, q6, q7, q8, q9⟩ := settles188 hN TB (dn (gA T 6 13) 3)
  refine ⟨T', ?_, fun k hk => by rw [q2 k hk, iB], q3, by rw [q4, jB], fun c hc => by rw [q5 c hc, aB c (by omega)], ⟨?_, ?_, ?_⟩, fun r => by rw [q7, aB 7 (by omega)], q8, q9⟩
  · rw [← q1]
    have c12 : gA TA 6 12 = gA T 6 12 := by rw [h4, if_neg (by omega)]
    have c13 : gA TB 6 13 = gA T 6 13 := by rw [h5, if_neg (by omega), h4, if_neg (by omega)]
    have w158 : f_X10_settles_158 N TA 5 (dn (gA T 6 12) 3) = f_X10_settles_188 N TB 6 (dn (gA T 6 13) 3) := by
      unfold f_X10_settles_158
      have gd : ¬ ((13 : Int32) < 0 ∨ 14 ≤ (13 : Int32).toNatClampNeg) := by decide
      rw [if_neg (by decide), bnd_eq, show (5 : Int32).toNatClampNeg = 5 by decide, hB, if_neg gd, if_neg gd, show (13 : Int32).toNatClampNeg = 13 by decide, c13]
      unfold dn
      by_cases c : gA T 6 13 = -9
      · rw [if_pos c, if_pos c]
      · rw [if_neg c, if_neg c]
    rw [← w158]
    unfold f_X10_settles_129
    have gd : ¬ ((12 : Int32) < 0 ∨ 14 ≤ (12 : Int32).toNatClampNeg) := by decide
    rw [if_neg (by decide), bnd_eq, show (4 : Int32).toNatClampNeg = 4 by decide, hA, if_neg gd, if_neg gd, show (12 : Int32).toNatClampNeg = 12 by decide, c12]
    unfold dn
    by_cases c : gA T 6 12 = -9
    · rw [if_pos c, if_pos c]
    · rw [if_neg c, if_neg c]
  · rw [q6, if_neg (by omega), h5, if_neg (by omega), h4, if_pos ⟨rfl, rfl⟩]
  · rw [q6, if_neg (by omega), h5, if_pos ⟨rfl, rfl⟩]
  · rw [q6, if_pos rfl]
theorem mSettles {N : Nat} (hN : 1000 ≤ N) (T : St) : ∃ T', f_X10_settles N T = some T' ∧ gI T' 0 14 = gI T 0 16 ∧ gI T' 0 15 = gI T 0 17 ∧ (gI T' 0 3 = 0 ∧ gI T' 0 22 = 0 ∧ gI T' 0 24 = 0) ∧ gJ T' = gJ T ∧
    (∀ k : Nat, k < 24 → gA T' 2 k = gA T 2 (24 + k) ∧ gA T' 3 k = gA T 3 (24 + k)) ∧ (∀ k : Nat, k < 3 → gA T' 4 k = gA T 4 (3 + k) ∧ gA T' 5 k = gA T 5 (3 + k)) ∧
    (gA T' 6 4 = dn (gA T 6 11) 2 ∧ gA T' 6 5 = dn (gA T 6 12) 3 ∧ gA T' 6 6 = dn (gA T 6 13) 3) ∧ (∀ r, gA T' 7 r = if r < 9 then 0 else gA T 7 r) ∧ gA T' 9 0 = 0 ∧ gA T' 9 1 = 0 := by
  generalize hA : sI (sI T 0 14 (gI T 0 16)) 0 15 (gI T 0 17) = TA
  have i14 : gI TA 0 14 = gI T 0 16 := by rw [← hA]; rfl
  have i15 : gI TA 0 15 = gI T 0 17 := by rw [← hA]; rfl
  have aA : gA TA = gA T := by rw [← hA]; rfl
  have jA : gJ TA = gJ T := by rw [← hA]; rfl
  obtain ⟨g1, q1, q2⟩ := wind_loop N 24 N TA 0 (by decide) (by decide) (by decide) (by omega)
  obtain ⟨g2, p1, p2⟩ := pace_loop N 3 N (TA.1, g1, TA.2.2) 0 (by decide) (by decide) (by decide) (by omega)
  have p2 : ∀ c r, g2 c r = if (c = 4 ∨ c = 5) ∧ (0 : Int32).toInt ≤ (r : Int) ∧ r < 3 then g1 c (3 + r) else g1 c r := p2
  obtain ⟨T', t1, t2, t3, t4, t5, t6, t7, t8, t9⟩ := settles129 hN (TA.1, g2, TA.2.2) (dn (g2 6 11) 2)
  have g6 : ∀ r, g2 6 r = gA T 6 r := fun r => by rw [p2, if_neg (by omega), q2, if_neg (by omega), aA]
  have t5 : ∀ c, ¬ (c = 6 ∨ c = 7 ∨ c = 9) → gA T' c = g2 c := t5
  refine ⟨T', ?_, (t2 14 (by omega)).trans i14, (t2 15 (by omega)).trans i15, t3, t4.trans jA, fun k hk => ?_, fun k hk => ?_, ?_, fun r => ?_, t8, t9⟩
  · unfold f_X10_settles
    have e17 : gI (sI T 0 14 (gI T 0 16)) 0 17 = gI T 0 17 := rfl
    rw [bnd_eq, e17, hA, bnd_eq, q1]
    rw [p1]
    have gd : ¬ ((11 : Int32) < 0 ∨ 14 ≤ (11 : Int32).toNatClampNeg) := by decide
    rw [if_neg gd, if_neg gd, show (11 : Int32).toNatClampNeg = 11 by decide, ← t1]
    show (if g2 6 11 = -9 then _ else f_X10_settles_129 N (TA.1, g2, TA.2.2) 4 (g2 6 11)) = _
    unfold dn
    by_cases c : g2 6 11 = -9
    · rw [if_pos c, if_pos c]
    · rw [if_neg c, if_neg c]
  · rw [t5 2 (by omega), t5 3 (by omega), p2, p2, if_neg (by omega), if_neg (by omega), q2, q2, if_pos ⟨Or.inl rfl, by rw [z0]; omega, hk⟩, if_pos ⟨Or.inr rfl, by rw [z0]; omega, hk⟩, aA]
    exact ⟨rfl, rfl⟩
  · rw [t5 4 (by omega), t5 5 (by omega), p2, p2, if_pos ⟨Or.inl rfl, by rw [z0]; omega, hk⟩, if_pos ⟨Or.inr rfl, by rw [z0]; omega, hk⟩, q2, q2, if_neg (by omega), if_neg (by omega), aA]
    exact ⟨rfl, rfl⟩
  · obtain ⟨u1, u2, u3⟩ := t6
    exact ⟨by rw [u1, g6], u2.trans (by show dn (g2 6 12) 3 = _; rw [g6]), u3.trans (by show dn (g2 6 13) 3 = _; rw [g6])⟩
  · have g7 : g2 7 r = gA T 7 r := by rw [p2, if_neg (by omega), q2, if_neg (by omega), aA]
    rw [t7, ← g7]
    rfl
theorem RU.fin {a r d : Int32} {D m : Int} (h : RU a r D m) (hd : d.toInt = D) : a = dn r d ∧ (a.toInt = D ∨ 1 ≤ a.toInt ∧ a.toInt ≤ m) := by
  unfold dn
  rcases h with ⟨h1, h2⟩ | ⟨h1, h2, h3⟩
  · rw [if_pos h1]
    exact ⟨toI h2 hd, Or.inl h2⟩
  · rw [if_neg (not9 h1), h3]
    exact ⟨rfl, Or.inr ⟨h1, h2⟩⟩
set_option maxHeartbeats 1000000 in
theorem p_lane {n N : Nat} (hN : 100000 ≤ N) (hn : n < 1000) {S T : St} (h : Inv n S T) : Step n (f_X9_lane N S) (f_X10_lane N T) := by
  have hN1 : 1000 ≤ N := by omega
  obtain ⟨⟨b1, b2, b3, b4⟩, ⟨hsp, hlb⟩, hR, hI, hA, hP, hJ⟩ := id h
  have hj : (gSp S).toNat < 2 := Bool.toNat_lt _
  have hj2 : (!gCo S).toNat = (gSp S).toNat := by rw [hsp]
  generalize hjj : (gSp S).toNat = j at hj hj2
  -- the class: its spare lane begun
  obtain ⟨g, q1, q2⟩ := begin_loop N j 24 N S 0 (by decide) (by decide) (by decide) (by omega)
  let C1 : St := (S.1, g, S.2.2)
  let C2 := sI (sI (sI (sI (sI C1 (33 + 5 * j) 4 12) (33 + 5 * j) 5 0) (33 + 5 * j) 6 2) (33 + 5 * j) 7 3) (33 + 5 * j) 8 3
  let C3 := sI (sI C2 3 1 0) 3 5 0
  have smC : Sm S C3 (ciD j) (caD j) := by
    have s1 : Sm S C1 (ciD j) (caD j) := ⟨fun _ _ _ => rfl, fun c hc => by show g c = _; funext r; rw [q2, if_neg (by omega)], rfl, rfl, rfl, rfl⟩
    exact ((((((s1.tr (Sm.sI _ _ (by omega))).tr (Sm.sI _ _ (by omega))).tr (Sm.sI _ _ (by omega))).tr (Sm.sI _ _ (by omega))).tr (Sm.sI _ _ (by omega))).tr (Sm.sI _ _ (by omega))).tr (Sm.sI _ _ (by omega))
  have cl : f_X6_readInto N S j = g_X6_readInto_16 N j N C3 0 := by
    unfold f_X6_readInto f_X3_begin
    rw [q1]
    unfold f_X3_begin_40
    rw [bnd_eq, bnd_eq, bnd_eq, bnd_eq, bnd_eq, bs, bnd_eq, bnd_eq]
  -- the reference
  let M1 := sI (sI (sI (sI (sI T 0 0 0) 0 8 (-1)) 0 4 0) 0 16 12) 0 17 0
  obtain ⟨g1, r1, r2⟩ := draft_loop N 24 N M1 0 24 (by decide) (by decide) (by decide) (by omega)
  obtain ⟨g2, s1, s2⟩ := rule_loop N 7 N (M1.1, g1, M1.2.2) 0 7 (by decide) (by decide) (by decide) (by omega)
  let M3 : St := (M1.1, g2, M1.2.2)
  have s2 : ∀ c r, g2 c r = if c = 6 ∧ (7 : Int32).toInt ≤ (r : Int) ∧ r < 14 then -9 else g1 c r := s2
  have r2 : ∀ c r, g1 c r = if (c = 2 ∨ c = 3) ∧ (24 : Int32).toInt ≤ (r : Int) ∧ r < 48 then 0 else gA T c r := r2
  have aM : ∀ c r, ¬ ((c = 2 ∨ c = 3) ∧ 24 ≤ r ∨ c = 6 ∧ 7 ≤ r) → gA M3 c r = gA T c r := fun c r hc => by
    show g2 c r = _
    rw [s2, if_neg (by rw [z7]; omega), r2, if_neg (by rw [z24]; omega)]
  have ml : f_X10_lane N T = (f_X10_advances N M3).bind fun r18 => g_X10_lane_84 N (fun S32 y31 => f_X10_lane_160 N S32 y31) N r18 0 := by
    unfold f_X10_lane
    rw [bnd_eq, bnd_eq, bnd_eq, bnd_eq, bnd_eq, r1]
    rw [s1]
  -- the text
  have hb : Tb (gA T 1) (gI T 0 3) := ⟨by rw [← b1]; exact b2, by rw [← b1]; exact b3, fun k hk => by
    obtain ⟨w1, w2, w3⟩ := b4 k (by rw [b1]; exact hk)
    rw [← w1]; exact ⟨w2, w3⟩⟩
  have cS : cTx S (gA T 1) (gI T 0 3) := ⟨b1, fun k hk => (b4 k (by rw [b1]; exact hk)).1⟩
  have cC : cTx C3 (gA T 1) (gI T 0 3) := cS.sm smC (by omega) (by omega)
  have mM : mTx M3 (gA T 1) (gI T 0 3) := ⟨rfl, by funext r; exact aM 1 r (by omega)⟩
  obtain ⟨q, st, kd, v, u1, u2, u3, u4, u5, u6⟩ := l_tok hb hN1 0 (by decide) (by rw [z0]; exact hb.1)
  obtain ⟨T0, t1, t2, t3, t4, t5⟩ := u5 M3 mM rfl
  have mT0 := mM.sm t2 (by omega) id
  have J : Jt N (gA T 1) (gI T 0 3) C3 T0 0 := ⟨cC, mT0, rfl, ⟨by decide, by rw [z0]; exact hb.1⟩, (t2.1 0 8 (by omega)).trans rfl, q, st, kd, v, ⟨u1, u2, u3, u4⟩, t3, t4, t5, u6⟩
  have D0 : Dr j C3 M3 := by
    have i : ∀ k, 4 ≤ k → k ≤ 8 → gI C3 (33 + 5 * j) k = gI C2 (33 + 5 * j) k := fun k _ _ => by
      show gI (sI (sI C2 3 1 0) 3 5 0) _ k = _
      rw [gI_off (by omega), gI_off (by omega)]
    have a : gA C3 = g := rfl
    have d2 : ∀ k : Nat, k < 24 → g2 2 (24 + k) = 0 ∧ g2 3 (24 + k) = 0 := fun k hk => by
      rw [s2, s2, if_neg (by omega), if_neg (by omega), r2, r2, if_pos ⟨Or.inl rfl, by rw [z24]; omega, by omega⟩, if_pos ⟨Or.inr rfl, by rw [z24]; omega, by omega⟩]
      exact ⟨rfl, rfl⟩
    have d6 : ∀ k : Nat, 7 ≤ k → k < 14 → gA M3 6 k = -9 := fun k k1 k2 => by
      show g2 6 k = _
      rw [s2, if_pos ⟨rfl, by rw [z7]; omega, k2⟩]
    have y4 : gI C2 (33 + 5 * j) 4 = 12 := by
      show gI (sI (sI (sI (sI (sI C1 _ 4 12) _ 5 0) _ 6 2) _ 7 3) _ 8 3) _ 4 = _
      rw [gI_off (by omega), gI_off (by omega), gI_off (by omega), gI_off (by omega), gI_sI, if_pos rfl, if_pos rfl]
    have y5 : gI C2 (33 + 5 * j) 5 = 0 := by
      show gI (sI (sI (sI (sI (sI C1 _ 4 12) _ 5 0) _ 6 2) _ 7 3) _ 8 3) _ 5 = _
      rw [gI_off (by omega), gI_off (by omega), gI_off (by omega), gI_sI, if_pos rfl, if_pos rfl]
    have y6 : gI C2 (33 + 5 * j) 6 = 2 := by
      show gI (sI (sI (sI (sI (sI C1 _ 4 12) _ 5 0) _ 6 2) _ 7 3) _ 8 3) _ 6 = _
      rw [gI_off (by omega), gI_off (by omega), gI_sI, if_pos rfl, if_pos rfl]
    have y7 : gI C2 (33 + 5 * j) 7 = 3 := by
      show gI (sI (sI (sI (sI (sI C1 _ 4 12) _ 5 0) _ 6 2) _ 7 3) _ 8 3) _ 7 = _
      rw [gI_off (by omega), gI_sI, if_pos rfl, if_pos rfl]
    have y8 : gI C2 (33 + 5 * j) 8 = 3 := by
      show gI (sI (sI (sI (sI (sI C1 _ 4 12) _ 5 0) _ 6 2) _ 7 3) _ 8 3) _ 8 = _
      rw [gI_sI, if_pos rfl, if_pos rfl]
    have m16 : gI M3 0 16 = 12 := rfl
    have m17 : gI M3 0 17 = 0 := rfl
    have c5 : gI C3 3 5 = 0 := rfl
    refine ⟨⟨by rw [i 4 (by omega) (by omega), y4, m16], by rw [m16]; decide, by rw [m16]; decide⟩, ⟨by rw [i 5 (by omega) (by omega), y5, m17], by rw [m17]; decide, by rw [m17]; decide⟩, fun k hk => ?_, fun k hk => ?_, fun k hk => ?_, ⟨Or.inl ⟨d6 11 (by omega) (by omega), by rw [i 6 (by omega) (by omega), y6]; decide⟩, Or.inl ⟨d6 12 (by omega) (by omega), by rw [i 7 (by omega) (by omega), y7]; decide⟩, Or.inl ⟨d6 13 (by omega) (by omega), by rw [i 8 (by omega) (by omega), y8]; decide⟩⟩, ?_, ?_, ?_⟩
    · show g (34 + 5 * j) k = g2 2 (24 + k) ∧ 0 ≤ (g2 2 (24 + k)).toInt ∧ (g2 2 (24 + k)).toInt ≤ 3
      rw [(d2 k hk).1, q2, if_pos ⟨Or.inl rfl, by rw [z0]; omega, hk⟩]; decide
    · show g (35 + 5 * j) k = g2 3 (24 + k) ∧ (g2 3 (24 + k) = 0 ∨ g2 3 (24 + k) = 1)
      rw [(d2 k hk).2, q2, if_pos ⟨Or.inr rfl, by rw [z0]; omega, hk⟩]; decide
    · rw [m17, z0] at hk; omega
    · rw [c5, d6 11 (by omega) (by omega)]; decide
    · rw [c5, d6 12 (by omega) (by omega)]; decide
    · rw [c5, d6 13 (by omega) (by omega)]; decide
  have D : Dr j C3 T0 := D0.sm hj (Sm.rf _ _ _) (t2.wk (fun c k z => by omega) (fun _ z => z))
  obtain ⟨S', T', x', v1, v2, v3, v4⟩ := l_loop hN1 hb hj (fun S32 y31 => f_X10_lane_160 N S32 y31) 301 C3 T0 0 0 N N (by rw [z0]; have := hb.2.1; omega) J D (by decide) (by decide) (by omega) (by omega)
  rw [ml, t1, bs, v3]
  show Step n _ (f_X10_lane_160 N T' x')
  have smS : Sm S S' (ciD j) (caD j) := smC.tr v1
  have iT : ∀ c k, ¬ (c = 0 ∧ (k = 0 ∨ 4 ≤ k ∧ k ≤ 8 ∨ k = 16 ∨ k = 17)) → gI T' c k = gI T c k := fun c k hk => by
    rw [v2.1 c k (by omega), t2.1 c k (by omega)]
    show gI (sI (sI (sI (sI (sI T 0 0 0) 0 8 (-1)) 0 4 0) 0 16 12) 0 17 0) c k = _
    rw [gI_off (by omega), gI_off (by omega), gI_off (by omega), gI_off (by omega), gI_off (by omega)]
  have aT : ∀ c r, ¬ ((c = 2 ∨ c = 3) ∧ 24 ≤ r ∨ (c = 4 ∨ c = 5) ∧ 3 ≤ r ∨ c = 6 ∧ 7 ≤ r) → gA T' c r = gA T c r := fun c r hc => by
    rw [v2.2.1 c r hc, t2.2.1 c id, aM c r (by omega)]
  have jT : gJ T' = gJ T := by rw [v2.2.2, t2.2.2.1]; rfl
  unfold f_X9_lane f_X10_lane_160
  rw [hjj, cl]
  rcases v4 with ⟨w1, w2, w3⟩ | ⟨w1, w2, w3, w4⟩
  · -- a fault: nothing changes
    have hd : 0 ≤ (gI T' 0 8).toInt := by rw [w2]; exact w3
    refine ⟨-10 - gI S' 3 2, S', T', ?_, ?_, ?_⟩
    · rw [w1, bs]
      refine (if_pos rfl).trans ?_
      rfl
    · rw [isWell0 hd, bs, if_pos rfl, w2]
    · refine h.mono.sc ⟨fun c k hk => smS.1 c k (fun z => hk (by rw [hj2]; omega)), fun c hc => smS.2.1 c (fun z => hc (by rw [hj2]; omega)), smS.2.2.1, smS.2.2.2.2.1, smS.2.2.2.2.2⟩ ⟨fun c k hk => iT c k (fun z => hk (by omega)), fun c r hc => aT c r (fun z => hc (by omega)), jT⟩ ?_
      exact h.mono.2.2.2.2.1.congr (smS.1 18 4 (by omega)) (fun c hc hc2 => smS.2.1 c (by omega)) (iT 0 22 (by omega)) (by funext r; exact aT 10 r (by omega)) (iT 0 14 (by omega))
  · obtain ⟨T2, m1, m2, m3, m4, m5, m6, m7, m8, m9, m10, m11⟩ := mSettles hN1 T'
    let E1 := sI (sSp (sCo S' (gSp S')) (gCo S')) 1 1 0
    obtain ⟨g3, e1, e2⟩ := zero_loop N 3 N E1 0 (by decide) (by decide) (by decide) (by omega)
    let E2 : St := (E1.1, g3, E1.2.2)
    let E3 := sI (sI (sI (sI E2 18 4 0) 23 2 0) (8 + 5 * 0) 1 0) (8 + 5 * 1) 1 0
    have hgS : gSp S' = gSp S := smS.2.2.2.2.2
    have hgC : gCo S' = gCo S := smS.2.2.2.2.1
    have cE : gCo E3 = gSp S := hgS
    have sE : gSp E3 = gCo S := hgC
    have e2 : ∀ c r, g3 c r = if (c = 5 ∨ c = 6 ∨ c = 7) ∧ (0 : Int32).toInt ≤ (r : Int) ∧ r < 3 then 0 else gA S' c r := e2
    have aE : ∀ c, ¬ (c = 5 ∨ c = 6 ∨ c = 7) → gA E3 c = gA S' c := fun c hc => by
      show g3 c = _
      funext r
      rw [e2, if_neg (fun z => hc z.1)]
    have iE : ∀ c k, ¬ (c = 1 ∧ k = 1 ∨ c = 18 ∧ k = 4 ∨ c = 23 ∧ k = 2 ∨ (c = 8 ∨ c = 13) ∧ k = 1) → gI E3 c k = gI S' c k := fun c k hk => by
      show gI (sI (sI (sI (sI E2 18 4 0) 23 2 0) (8 + 5 * 0) 1 0) (8 + 5 * 1) 1 0) c k = _
      rw [gI_off (by omega), gI_off (by omega), gI_off (by omega), gI_off (by omega)]
      show gI (sI (sSp (sCo S' (gSp S')) (gCo S')) 1 1 0) c k = _
      rw [gI_off (by omega)]; rfl
    refine ⟨x', E3, T2, ?_, ?_, ?_, ⟨?_, ?_⟩, ?_, ?_, ?_, ?_, ?_⟩
    · rw [w1, bs]
      refine (if_neg (fun z => ?_)).trans ?_
      · have z : x' = -1 := z
        rw [z] at w2; exact absurd w2 (by decide)
      · rw [bnd_eq, bnd_eq, bnd_eq]
        unfold f_X7_begin
        show (g_X7_begin_2 N 0 N E1 0).bind _ = _
        rw [e1, bs, bnd_eq, bnd_eq, bnd_eq, bnd_eq]
    · rw [isWell1 w3, bs, if_neg one_ne, m1, bs]
    · have z : gI E3 1 1 = 0 := by
        show gI (sI (sI (sI (sI E2 18 4 0) 23 2 0) (8 + 5 * 0) 1 0) (8 + 5 * 1) 1 0) 1 1 = _
        rw [gI_off (by omega), gI_off (by omega), gI_off (by omega), gI_off (by omega)]; rfl
      rw [IvT, z, m4.1]
      exact ⟨rfl, by decide, by decide, fun k hk => by rw [z0] at hk; omega⟩
    · rw [sE, cE, hsp, Bool.not_not]
    · rw [cE, hjj]
      obtain ⟨d1, d2, d3, d4, d5, ⟨d6, d7, d8⟩, -⟩ := w4
      have i : ∀ k, gI E3 (33 + 5 * j) k = gI S' (33 + 5 * j) k := fun k => iE _ _ (by omega)
      obtain ⟨n6, o6⟩ := d6.fin (d := 2) (by decide)
      obtain ⟨n7, o7⟩ := d7.fin (d := 3) (by decide)
      obtain ⟨n8, o8⟩ := d8.fin (d := 3) (by decide)
      refine ⟨⟨by rw [i, m2]; exact d1.1, by rw [i, m3]; exact d2.1, by rw [i, m8.1]; exact n6, by rw [i, m8.2.1]; exact n7, by rw [i, m8.2.2]; exact n8⟩, ?_, fun k hk => ?_, fun k hk => ?_, fun k hk => ?_, fun k hk => ?_⟩
      · rw [m2, m3, m8.1, m8.2.1, m8.2.2, ← n6, ← n7, ← n8]
        omega
      · rw [aE _ (by omega), (m6 k hk).1]
        show gA S' (33 + 5 * j + 1) k = _ ∧ _
        rw [show 33 + 5 * j + 1 = 34 + 5 * j by omega]
        exact d3 k hk
      · rw [aE _ (by omega), (m6 k hk).2, show 33 + 5 * j + 2 = 35 + 5 * j by omega]
        exact d4 k hk
      · rw [m3] at hk
        rw [aE _ (by omega), (m7 k (by omega)).1, show 33 + 5 * j + 3 = 36 + 5 * j by omega]
        exact (d5 k hk).1
      · rw [m3] at hk
        rw [aE _ (by omega), (m7 k (by omega)).2, show 33 + 5 * j + 4 = 37 + 5 * j by omega]
        exact (d5 k hk).2
    · refine ⟨fun r hr => ?_, ?_⟩
      · have a0 : ∀ c, (c = 5 ∨ c = 6 ∨ c = 7) → gA E3 c r = 0 := fun c hc => by
          show g3 c r = 0
          rw [e2, if_pos ⟨hc, by rw [z0]; omega, hr⟩]
        have b0 : ∀ q, q < 9 → gA T2 7 q = 0 := fun q hq => by rw [m9, if_pos hq]
        have y0 : 0 ≤ (gI T2 0 14).toInt := by rw [m2]; have := w4.1.2; omega
        rw [a0 5 (by omega), a0 6 (by omega), a0 7 (by omega), b0 _ (by omega), b0 _ (by omega), b0 _ (by omega), z0]
        refine ⟨rfl, rfl, rfl, ?_⟩
        omega
      · rw [iE 4 3 (by omega), smS.1 4 3 (by omega), m9, if_neg (by omega), aT 7 9 (by omega)]
        exact hR.2
    · intro i hi
      have z : gI E3 (8 + 5 * i) 1 = 0 := by
        show gI (sI (sI (sI (sI E2 18 4 0) 23 2 0) (8 + 5 * 0) 1 0) (8 + 5 * 1) 1 0) (8 + 5 * i) 1 = _
        rcases (show i = 0 ∨ i = 1 by omega) with rfl | rfl <;> rfl
      have zt : gA T2 9 i = 0 := by
        rcases (show i = 0 ∨ i = 1 by omega) with rfl | rfl
        · exact m10
        · exact m11
      rw [z, zt]
      exact ⟨rfl, Or.inl rfl, fun q => absurd q (by decide)⟩
    · have z : gI E3 18 4 = 0 := rfl
      rw [IvA, z, m4.2.1]
      exact ⟨rfl, by decide, by decide, fun k hk => by rw [z0] at hk; omega⟩
    · have z : gI E3 23 2 = 0 := rfl
      rw [IvP, z, m4.2.2]
      exact ⟨rfl, by decide, by decide, fun k hk => by rw [z0] at hk; omega⟩
    · show gJ S' 0 11 = _
      rw [smS.2.2.1, m5, jT]
      exact hJ
