/-! toss and undo -/
theorem draw_eq (x : Int32) : (x.toUInt32 >>> ((16 : Int32).toUInt32 &&& Int32.toUInt32 31)).toInt32 = (x >>> ((16 : Int32) &&& 31)) &&& 65535 := by
  apply Int32.toBitVec.inj
  show x.toBitVec >>> (16 : Nat) = (x.toBitVec.sshiftRight 16) &&& 65535#32
  apply BitVec.eq_of_getLsbD_eq
  intro i hi
  rw [BitVec.getLsbD_ushiftRight, BitVec.getLsbD_and, BitVec.getLsbD_sshiftRight]
  by_cases h : i < 16
  · have e : (65535#32).getLsbD i = true := by
      have : ∀ j : Fin 16, (65535#32).getLsbD j.val = true := by decide
      exact this ⟨i, h⟩
    rw [e, if_pos (by omega), Bool.and_true, decide_eq_false (by omega)]; rfl
  · have e : (65535#32).getLsbD i = false := by
      have : ∀ j : Fin 32, 16 ≤ j.val → (65535#32).getLsbD j.val = false := by decide
      exact this ⟨i, hi⟩ (by show 16 ≤ i; omega)
    rw [e, Bool.and_false]
    exact BitVec.getLsbD_of_ge _ _ (by omega)
theorem g9_10 : ¬ ((9 : Int32) < 0 ∨ 10 ≤ (9 : Int32).toNatClampNeg) := by decide
theorem g4_14 : ¬ ((4 : Int32) < 0 ∨ 14 ≤ (4 : Int32).toNatClampNeg) := by decide
theorem g5_14 : ¬ ((5 : Int32) < 0 ∨ 14 ≤ (5 : Int32).toNatClampNeg) := by decide
theorem g6_14 : ¬ ((6 : Int32) < 0 ∨ 14 ≤ (6 : Int32).toNatClampNeg) := by decide
theorem cTossEnd {N : Nat} {S T : St} (hL : IvLb S T (33 + 5 * (gCo S).toNat)) {a u rn y wh c g : Int32} (ha : 0 ≤ a.toInt ∧ a.toInt < 3) (hw : f_X3_yardAfter S ((gCo S).toNat) a y u rn = some wh) :
    f_X9_toss_121 N a u rn S y c g = some (if g = 0 then (if c = 0 then 0 else 1) else 2, putR S 0 a.toNatClampNeg wh (gA S 6 a.toNatClampNeg + 2 * u + (if c = 0 then gA T 6 6 else 0)) (gA S 7 a.toNatClampNeg + (if g = 0 then 0 else 1))) := by
  have fin : ∀ x : Int32, f_X9_toss_152 N a u rn S y c g (gA S 6 a.toNatClampNeg + 2 * u) x = some (if g = 0 then (if c = 0 then 0 else 1) else 2, putR S 0 a.toNatClampNeg wh (gA S 6 a.toNatClampNeg + 2 * u + x) (gA S 7 a.toNatClampNeg + (if g = 0 then 0 else 1))) := by
    intro x
    unfold f_X9_toss_152
    rw [bnd_eq, hw, bs, cGoodOf (i := 0) ha.1 ha.2, bs]
    unfold f_X9_toss_193
    rw [cPut ha.1 ha.2, cPut ha.1 ha.2, bs, bs]
    by_cases hg : g = 0
    · rw [if_pos hg, if_pos hg, if_pos hg, if_pos hg]
      by_cases hc : c = 0
      · rw [if_pos hc, if_pos hc]
      · rw [if_neg hc, if_neg hc]
    · rw [if_neg hg, if_neg hg, if_neg hg, if_neg hg]
  unfold f_X9_toss_121 f_X9_beatsInAir
  rw [cBeatsOf (i := 0) ha.1 ha.2, bs, bs, hL.1.2.2.2.2]
  by_cases hc : c = 0
  · have e := fin (gA T 6 6)
    simp only [if_pos hc] at e ⊢
    exact e
  · have e := fin 0
    simp only [if_neg hc] at e ⊢
    exact e
theorem mTossEnd {N : Nat} {T : St} {a u c g : Int32} (ha : 0 ≤ a.toInt ∧ a.toInt < 3) :
    f_X10_toss_150 N a u T c g = some (if g = 0 then (if c = 0 then 0 else 1) else 2, sA (sA (sA T 7 (upd (gA T 7) (3 * a.toNatClampNeg) (gI T 0 26))) 7 (upd (upd (gA T 7) (3 * a.toNatClampNeg) (gI T 0 26)) (3 * a.toNatClampNeg + 1) (gA T 7 (3 * a.toNatClampNeg + 1) + (2 * u + (if c = 0 then gA T 6 6 else 0))))) 7
      (upd (upd (upd (gA T 7) (3 * a.toNatClampNeg) (gI T 0 26)) (3 * a.toNatClampNeg + 1) (gA T 7 (3 * a.toNatClampNeg + 1) + (2 * u + (if c = 0 then gA T 6 6 else 0)))) (3 * a.toNatClampNeg + 2) (gA T 7 (3 * a.toNatClampNeg + 2) + (if g = 0 then 0 else 1)))) := by
  obtain ⟨m1, m2⟩ := h3r ha
  obtain ⟨m3, m4⟩ := h3r1 ha
  obtain ⟨m5, m6⟩ := h3r2 ha
  have c6 : (6 : Int32).toNatClampNeg = 6 := by decide
  have x1 : ∀ f, gA (sA T 7 f) 7 = f := fun f => rfl
  have x6 : ∀ f, gA (sA T 7 f) 6 = gA T 6 := fun f => rfl
  have u1 : upd (gA T 7) (3 * a.toNatClampNeg) (gI T 0 26) (3 * a.toNatClampNeg + 1) = gA T 7 (3 * a.toNatClampNeg + 1) := by
    simp only [upd]; rw [if_neg (by omega)]
  have fin : ∀ x : Int32, f_X10_toss_194 N a (sA T 7 (upd (gA T 7) (3 * a.toNatClampNeg) (gI T 0 26))) c g (3 * a + 1) (gA T 7 (3 * a.toNatClampNeg + 1)) (2 * u) x = some (if g = 0 then (if c = 0 then 0 else 1) else 2, sA (sA (sA T 7 (upd (gA T 7) (3 * a.toNatClampNeg) (gI T 0 26))) 7 (upd (upd (gA T 7) (3 * a.toNatClampNeg) (gI T 0 26)) (3 * a.toNatClampNeg + 1) (gA T 7 (3 * a.toNatClampNeg + 1) + (2 * u + x)))) 7
      (upd (upd (upd (gA T 7) (3 * a.toNatClampNeg) (gI T 0 26)) (3 * a.toNatClampNeg + 1) (gA T 7 (3 * a.toNatClampNeg + 1) + (2 * u + x))) (3 * a.toNatClampNeg + 2) (gA T 7 (3 * a.toNatClampNeg + 2) + (if g = 0 then 0 else 1)))) := by
    intro x
    unfold f_X10_toss_194
    rw [if_neg (gok (by omega) (by omega)), bnd_eq, if_neg (gok (by omega) (by omega)), m4, m6, x1]
    have y1 : ∀ f f' : Nat → Int32, gA (sA (sA T 7 f) 7 f') 7 = f' := fun f f' => rfl
    have u2 : upd (upd (gA T 7) (3 * a.toNatClampNeg) (gI T 0 26)) (3 * a.toNatClampNeg + 1) (gA T 7 (3 * a.toNatClampNeg + 1) + (2 * u + x)) (3 * a.toNatClampNeg + 2) = gA T 7 (3 * a.toNatClampNeg + 2) := by
      simp only [upd]; rw [if_neg (by omega), if_neg (by omega)]
    rw [y1, u2]
    unfold f_X10_toss_218
    have gm : ¬ ((3 : Int32) * a + 2 < 0 ∨ 10 ≤ ((3 : Int32) * a + 2).toNatClampNeg) := gok (by omega) (by omega)
    rw [if_neg gm, if_neg gm, bnd_eq, bnd_eq, m6, y1]
    by_cases hg : g = 0
    · rw [if_pos hg, if_pos hg, if_pos hg, if_pos hg]
      by_cases hc : c = 0
      · rw [if_pos hc, if_pos hc]
      · rw [if_neg hc, if_neg hc]
    · rw [if_neg hg, if_neg hg, if_neg hg, if_neg hg]
  unfold f_X10_toss_150
  rw [if_neg (gok (by omega) (by omega)), bnd_eq, if_neg (gok (by omega) (by omega)), if_neg g6_14, m2, m4, x1, x6, c6, u1]
  by_cases hc : c = 0
  · have e := fin (gA T 6 6)
    simp only [if_pos hc] at e ⊢
    exact e
  · have e := fin 0
    simp only [if_neg hc] at e ⊢
    exact e
theorem ScM.thr (T : St) : ScM T (sI T 0 0 0) := ⟨fun c k q => gI_off (fun z => q ⟨z.1, Or.inl z.2⟩), fun _ _ _ => rfl, rfl⟩
theorem ScM.tr {T T1 T2 : St} (h : ScM T T1) (k : ScM T1 T2) : ScM T T2 := ⟨fun c j q => (k.1 c j q).trans (h.1 c j q), fun c j q => (k.2.1 c j q).trans (h.2.1 c j q), k.2.2.trans h.2.2⟩
theorem p_toss {n N : Nat} (hN : 100 ≤ N) (hn : n < 1000) {S T : St} (h : Inv n S T) (a u f t rn : Int32) : Step n (f_X9_toss N S a u f t rn) (f_X10_toss N T a u f t rn) := by
  have hL := h.2.1.2
  have hg := hL.2.1
  unfold f_X9_toss f_X10_toss
  rw [cIsR hL, bs, if10, cIsT, bs, if10, bnd_eq, mIsR (T := sI T 0 0 0) (by show 0 ≤ (gI T 0 15).toInt; omega), bs, if10, mIsT, bs, if10]
  have ht0 : Inv n S (sI T 0 0 0) := h.thrown 0
  by_cases h1 : isR T a
  · rw [if_pos h1, if_pos (show isR (sI T 0 0 0) a from h1)]
    have ha3 : 0 ≤ a.toInt ∧ a.toInt < 3 := by omega
    by_cases h2 : isTo u f t rn
    · rw [if_pos h2, if_pos h2, cAtEnd ha3, bs, if01, hL.1.1]
      obtain ⟨m1, m2⟩ := h3r ha3
      obtain ⟨r1, r2, r3, r4, r5, r6, r7, r8, r9⟩ := h.2.2.1.1 a.toNatClampNeg (by rw [znat]; omega)
      rw [Nat.zero_add] at r1 r2 r3
      have gm : ¬ ((3 : Int32) * a < 0 ∨ 10 ≤ ((3 : Int32) * a).toNatClampNeg) := gok (by omega) (by omega)
      have gm2 : ¬ ((3 : Int32) * a < 0 ∨ 10 ≤ 3 * a.toNatClampNeg) := by rw [← m2]; exact gm
      rw [if_neg gm, m2]
      have e7 : gA (sI T 0 0 0) 7 (3 * a.toNatClampNeg) = gA S 5 a.toNatClampNeg := r1.symm
      have e14 : gI (sI T 0 0 0) 0 14 = gI T 0 14 := rfl
      rw [e7, e14]
      by_cases h3 : gA S 5 a.toNatClampNeg = gI T 0 14
      · rw [if_pos h3, if_neg (by rw [zlt, h3]; omega)]
        exact ⟨-2, S, _, rfl, rfl, ht0.mono⟩
      · rw [if_neg h3]
        rw [zeq] at h3
        rw [if_pos (by rw [zlt]; omega)]
        obtain ⟨S1, T1, p1, p2, p3, p4, p5⟩ := bothNotes (N := N) hN ht0 (a := a) h1
        have sc : ScM T T1 := (ScM.thr T).tr p4.scB
        have hI1 := h.sc p3.scA sc p5
        have k15 : gI T1 0 15 = gI T 0 15 := sc.1 0 15 (by omega)
        have k14 : gI T1 0 14 = gI T 0 14 := sc.1 0 14 (by omega)
        have h1' : isR T1 a := by unfold isR; rw [k15]; exact h1
        have s5 : gA S1 5 = gA S 5 := p3.2.1 5 (by decide)
        have s6 : gA S1 6 = gA S 6 := p3.2.1 6 (by decide)
        have s7 : gA S1 7 = gA S 7 := p3.2.1 7 (by decide)
        have t7 : gA T1 7 = gA T 7 := p4.2.1 7 (by decide)
        rw [p1, p2, bs, bs, cYardOf (i := 0) ha3.1 ha3.2, bs]
        unfold f_X7_draw
        rw [bnd_eq, bs]
        -- the lot
        have lotE : gI S1 (4 + 5 * 0) 3 = gA T1 7 9 := hI1.2.2.1.2
        rw [lotE]
        generalize hlot : gA T1 7 9 * 1103515245 + 12345 = lot
        have gl : gI (sI S1 (4 + 5 * 0) 3 lot) (4 + 5 * 0) 3 = lot := rfl
        rw [gl, draw_eq]
        generalize hdr : (lot >>> ((16 : Int32) &&& 31) &&& 65535) = dr
        -- the catch
        have hL2 : IvLb (sI S1 (4 + 5 * 0) 3 lot) T1 (33 + 5 * (gCo (sI S1 (4 + 5 * 0) 3 lot)).toNat) := by
          have := (hI1.2.1.congr (S1 := sI S1 (4 + 5 * 0) 3 lot) (T1 := T1) rfl rfl (fun c k hc => gI_off (by omega)) (fun _ _ => rfl) rfl rfl (fun _ _ _ => rfl)).2
          exact this
        have q7 : gA T1 7 (3 * a.toNatClampNeg) = gA S1 5 a.toNatClampNeg := by rw [t7, s5]; exact r1.symm
        have hyy : isY T1 (gA S1 5 a.toNatClampNeg) := by unfold isY; rw [k14, s5]; omega
        obtain ⟨v, wh, c1, c2, c3, c4, c5, c6, c7⟩ := bothCatch hL2 (r := a) (y := gA S1 5 a.toNatClampNeg) (u := u) (f := f) (t := t) (rn := rn) h1' hyy h2
        show Step n ((f_X3_catchOf (sI S1 (4 + 5 * 0) 3 lot) ((gCo (sI S1 (4 + 5 * 0) 3 lot)).toNat) a (gA S1 5 a.toNatClampNeg) u f t rn).bind fun r10 => if r10 ≤ dr - dr / 10 * 10 then (f_X9_toss_89 N a u t rn (sI S1 (4 + 5 * 0) 3 lot) (gA S1 5 a.toNatClampNeg) (0 : Int32)) else (f_X9_toss_89 N a u t rn (sI S1 (4 + 5 * 0) 3 lot) (gA S1 5 a.toNatClampNeg) (1 : Int32))) _
        rw [c1, bs, if_neg gm2, q7, c3, bs, if_neg g9_10, if_neg g9_10, bnd_eq, if_neg g9_10]
        have c9 : (9 : Int32).toNatClampNeg = 9 := by decide
        rw [c9]
        generalize hdn : gA S1 5 a.toNatClampNeg + f - u * gA T1 2 (gA S1 5 a.toNatClampNeg).toNatClampNeg = dn
        have w7 : gA (rck T1 dn wh (t * u)) 7 9 = gA T1 7 9 := rfl
        have w8 : ∀ x, gA (sA (rck T1 dn wh (t * u)) 7 (upd (gA (rck T1 dn wh (t * u)) 7) 9 x)) 7 9 = x := by
          intro x
          show upd (gA (rck T1 dn wh (t * u)) 7) 9 x 9 = x
          simp only [upd]
          rfl
        rw [w7, hlot, w8, hdr]
        -- the two ends, for a toss that is caught or not, good or not
        have ends : ∀ c g : Int32, Step n (f_X9_toss_121 N a u rn (sI S1 (4 + 5 * 0) 3 lot) (gA S1 5 a.toNatClampNeg) c g) (f_X10_toss_150 N a u (sA (rck T1 dn wh (t * u)) 7 (upd (gA (rck T1 dn wh (t * u)) 7) 9 lot)) c g) := by
          intro c g
          rw [cTossEnd hL2 ha3 c2, mTossEnd ha3]
          refine ⟨_, _, _, rfl, rfl, ?_⟩
          have eu : ((2 : Int32) * u).toInt = 2 * u.toInt := zcmul z2 (by have := h2.1; omega) (by have := h2.1; omega)
          have hu := h2.1
          have hd := hI1.2.1.2.2.1
          have exx : ∀ x : Int32, 0 ≤ x.toInt → x.toInt ≤ 9 → (gA S1 6 a.toNatClampNeg + 2 * u + x).toInt = (gA S1 6 a.toNatClampNeg).toInt + 2 * u.toInt + x.toInt := fun x x0 x9 => by
            rw [zadd (by rw [zadd (by rw [eu, s6]; omega) (by rw [eu, s6]; omega), eu, s6]; omega) (by rw [zadd (by rw [eu, s6]; omega) (by rw [eu, s6]; omega), eu, s6]; omega), zadd (by rw [eu, s6]; omega) (by rw [eu, s6]; omega), eu]
          have exb : 0 ≤ (if c = 0 then gA T1 6 6 else (0 : Int32)).toInt ∧ (if c = 0 then gA T1 6 6 else (0 : Int32)).toInt ≤ 9 := by
            by_cases hc : c = 0
            · rw [if_pos hc]; omega
            · rw [if_neg hc, z0]; omega
          have exg : (gA S1 7 a.toNatClampNeg + (if g = 0 then (0 : Int32) else 1)).toInt = (gA S1 7 a.toNatClampNeg).toInt + (if g = 0 then 0 else 1) := by
            by_cases hg' : g = 0
            · rw [if_pos hg', if_pos hg', zadd (by rw [z0, s7]; omega) (by rw [z0, s7]; omega), z0]
            · rw [if_neg hg', if_neg hg', zadd (by rw [z1, s7]; omega) (by rw [z1, s7]; omega), z1]
          refine Inv.act (k := a.toNatClampNeg) (y := wh) (b := gA S1 6 a.toNatClampNeg + 2 * u + (if c = 0 then gA T1 6 6 else 0)) (g := gA S1 7 a.toNatClampNeg + (if g = 0 then 0 else 1)) (lot := lot) h p3 sc p5 (by rw [← k14]; exact ⟨c6, c7⟩) ?_ ?_ rfl (fun c' => gA_put c') ⟨rfl, rfl, rfl⟩ (fun c' j hj => ?_) (fun c' hc => ?_) (fun j hj => ?_) ?_ rfl
          · rw [exx _ exb.1 exb.2, s6]; omega
          · rw [exg, s7]; split <;> omega
          · show gI (rck T1 dn wh (t * u)) c' j = _
            unfold rck
            rw [gI_off (by omega), gI_off (by omega), gI_off (by omega)]
          · rw [gA_off hc, gA_off hc, gA_off hc, gA_off hc]; rfl
          · show upd (upd (upd (upd (gA T1 7) 9 lot) (3 * a.toNatClampNeg) wh) (3 * a.toNatClampNeg + 1) ((upd (gA T1 7) 9 lot) (3 * a.toNatClampNeg + 1) + (2 * u + (if c = 0 then gA T1 6 6 else 0)))) (3 * a.toNatClampNeg + 2) ((upd (gA T1 7) 9 lot) (3 * a.toNatClampNeg + 2) + (if g = 0 then 0 else 1)) j = _
            have a2 : a.toNatClampNeg < 3 := by rw [znat]; omega
            simp only [upd]
            rw [if_neg (show ¬ 3 * a.toNatClampNeg + 1 = 9 by omega), if_neg (show ¬ 3 * a.toNatClampNeg + 2 = 9 by omega)]
            by_cases j2 : j = 3 * a.toNatClampNeg + 2
            · rw [if_pos j2, if_neg (show ¬ j = 3 * a.toNatClampNeg by omega), if_neg (show ¬ j = 3 * a.toNatClampNeg + 1 by omega), if_pos j2, t7, ← r3, s7]
            · rw [if_neg j2]
              by_cases j1 : j = 3 * a.toNatClampNeg + 1
              · rw [if_pos j1, if_neg (show ¬ j = 3 * a.toNatClampNeg by omega), if_pos j1, t7, ← r2, s6, Int32.add_assoc]
              · rw [if_neg j1]
                by_cases j0 : j = 3 * a.toNatClampNeg
                · rw [if_pos j0, if_pos j0]
                · rw [if_neg j0, if_neg j0, if_neg j1, if_neg j2, if_neg (show ¬ j = 9 by omega)]
          · show upd (upd (upd (upd (gA T1 7) 9 lot) (3 * a.toNatClampNeg) wh) (3 * a.toNatClampNeg + 1) _) (3 * a.toNatClampNeg + 2) _ 9 = _
            have a2 : a.toNatClampNeg < 3 := by rw [znat]; omega
            simp only [upd]
            rw [if_neg (show ¬ 9 = 3 * a.toNatClampNeg + 2 by omega), if_neg (show ¬ 9 = 3 * a.toNatClampNeg + 1 by omega), if_neg (show ¬ 9 = 3 * a.toNatClampNeg by omega)]
            rfl
        have all : ∀ c : Int32, (c = 0 ∨ c = 1) → Step n (f_X9_toss_89 N a u t rn (sI S1 (4 + 5 * 0) 3 lot) (gA S1 5 a.toNatClampNeg) c) (f_X10_toss_118 N a u (sA (rck T1 dn wh (t * u)) 7 (upd (gA (rck T1 dn wh (t * u)) 7) 9 lot)) c) := by
          intro c hc
          unfold f_X9_toss_89 f_X10_toss_118 f_X9_toss_120 f_X10_toss_149
          by_cases c0 : c = 0
          · rw [if_pos c0, if_pos c0]; exact ends c 0
          · rw [if_neg c0, if_neg c0]
            unfold f_X9_isTurned f_X9_quarters
            rw [bs]
            have e27 : gI (sA (rck T1 dn wh (t * u)) 7 (upd (gA (rck T1 dn wh (t * u)) 7) 9 lot)) 0 27 = t * u := rfl
            rw [e27, if_neg g4_14]
            have e4 : gA (sA (rck T1 dn wh (t * u)) 7 (upd (gA (rck T1 dn wh (t * u)) 7) 9 lot)) 6 (4 : Int32).toNatClampNeg = gA T1 6 4 := rfl
            rw [e4, hL2.1.2.2.1]
            by_cases q : t * u - t * u / 4 * 4 = 2
            · rw [if_pos q, bs, if_neg one_ne, if_pos q]
              by_cases ur : u < gA T1 6 4
              · rw [if_pos ur, if_pos ur]; exact ends c 0
              · rw [if_neg ur, if_neg ur]; exact ends c 1
            · rw [if_neg q, bs, if_pos rfl, if_neg q]; exact ends c 0
        by_cases hv : v ≤ dr - dr / 10 * 10
        · rw [if_pos hv, if_pos hv]; exact all 0 (Or.inl rfl)
        · rw [if_neg hv, if_neg hv]; exact all 1 (Or.inr rfl)
    · rw [if_neg h2, if_neg h2]; exact ⟨-1, S, _, rfl, rfl, ht0.mono⟩
  · rw [if_neg h1, if_neg (show ¬ isR (sI T 0 0 0) a from h1)]
    exact ⟨-1, S, _, rfl, rfl, ht0.mono⟩
