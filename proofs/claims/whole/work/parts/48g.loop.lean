/-! lane: item by item -/
theorem kd7 {kd : Int32} (h : 1 ≤ kd.toInt ∧ kd.toInt ≤ 7) : kd = 1 ∨ kd = 2 ∨ kd = 3 ∨ kd = 4 ∨ kd = 5 ∨ kd = 6 ∨ kd = 7 := by
  simp only [zeq, z1, z2, z3, z4, z5, z6, z7]; omega
theorem toI {x y : Int32} {c : Int} (h : x.toInt = c) (hy : y.toInt = c) : x = y := by rw [zeq, h, hy]
theorem bothMay {j : Nat} {S T : St} {kd : Int32} (D : Dr j S T) (e : gI S 3 3 = kd) (h : 1 ≤ kd.toInt ∧ kd.toInt ≤ 7) (e7 : (gI T 0 7).toInt = kd.toInt - 1) (x : Int32) : ∃ r : Int32, (r = 0 ∨ r = 1) ∧ f_X6_mayBegin S j x = some r ∧ f_X10_mayBegin T x = some r ∧ (kd = 4 → r = 1 → (gI T 0 17).toInt < 3) := by
  have it : ∀ (q : Prop) [Decidable q], (if q then (1 : Int32) else 0) = 0 ∨ (if q then (1 : Int32) else 0) = 1 := fun q _ => by
    by_cases h : q
    · rw [if_pos h]; exact Or.inr rfl
    · rw [if_neg h]; exact Or.inl rfl
  unfold f_X6_mayBegin f_X10_mayBegin
  rcases kd7 h with rfl | rfl | rfl | rfl | rfl | rfl | rfl
  · have w : gI T 0 7 = 0 := toI e7 (by decide)
    refine ⟨if x = 0 then 1 else 0, it _, ?_, ?_, fun z => absurd z (by decide)⟩
    · rw [e, if_pos rfl]
      by_cases c : x = 0
      · rw [if_pos c, if_pos c]
      · rw [if_neg c, if_neg c]
    · rw [w, if_pos rfl]
      by_cases c : x = 0
      · rw [if_pos c, if_pos c]
      · rw [if_neg c, if_neg c]
  · have w : gI T 0 7 = 1 := toI e7 (by decide)
    refine ⟨1, Or.inr rfl, ?_, ?_, fun z => absurd z (by decide)⟩
    · rw [e]; rfl
    · rw [w, if_neg (by decide), if_neg (by decide), if_pos (by decide)]
  · have w : gI T 0 7 = 2 := toI e7 (by decide)
    refine ⟨1, Or.inr rfl, ?_, ?_, fun z => absurd z (by decide)⟩
    · rw [e]; rfl
    · rw [w, if_neg (by decide), if_neg (by decide), if_pos (by decide)]
  · have w : gI T 0 7 = 3 := toI e7 (by decide)
    refine ⟨if 3 ≤ gI T 0 17 then 0 else 1, ?_, ?_, ?_, fun _ z => ?_⟩
    · by_cases c : 3 ≤ gI T 0 17
      · rw [if_pos c]; exact Or.inl rfl
      · rw [if_neg c]; exact Or.inr rfl
    · rw [e, if_neg (by decide), if_neg (by decide), if_neg (by decide), if_pos rfl, D.2.1.1]
      by_cases c : 3 ≤ gI T 0 17
      · rw [if_pos c, if_pos c]
      · rw [if_neg c, if_neg c]
    · rw [w, if_neg (by decide), if_pos rfl]
      by_cases c : 3 ≤ gI T 0 17
      · rw [if_pos c, if_pos c]
      · rw [if_neg c, if_neg c]
    · by_cases c : 3 ≤ gI T 0 17
      · rw [if_pos c] at z; exact absurd z (by decide)
      · rw [zle, z3] at c; omega
  · have w : gI T 0 7 = 4 := toI e7 (by decide)
    refine ⟨if gA T 6 11 = -9 then 1 else 0, it _, ?_, ?_, fun z => absurd z (by decide)⟩
    · rw [e, if_neg (by decide), if_neg (by decide), if_neg (by decide), if_neg (by decide), if_pos rfl, show (1 : Int32) <<< (5 &&& 31) = 32 by decide]
      by_cases c : gA T 6 11 = -9
      · rw [if_pos (D.2.2.2.2.2.2.1.mpr c), if_pos c]
      · rw [if_neg (fun z => c (D.2.2.2.2.2.2.1.mp z)), if_neg c]
    · rw [w, if_neg (by decide), if_neg (by decide), if_neg (by decide), if_neg (by decide), show ((7 : Int32) + 4).toNatClampNeg = 11 by decide]
      by_cases c : gA T 6 11 = -9
      · rw [if_pos c, if_pos c]
      · rw [if_neg c, if_neg c]
  · have w : gI T 0 7 = 5 := toI e7 (by decide)
    refine ⟨if gA T 6 12 = -9 then 1 else 0, it _, ?_, ?_, fun z => absurd z (by decide)⟩
    · rw [e, if_neg (by decide), if_neg (by decide), if_neg (by decide), if_neg (by decide), if_neg (by decide), if_pos rfl, show (1 : Int32) <<< (6 &&& 31) = 64 by decide]
      by_cases c : gA T 6 12 = -9
      · rw [if_pos (D.2.2.2.2.2.2.2.1.mpr c), if_pos c]
      · rw [if_neg (fun z => c (D.2.2.2.2.2.2.2.1.mp z)), if_neg c]
    · rw [w, if_neg (by decide), if_neg (by decide), if_neg (by decide), if_neg (by decide), show ((7 : Int32) + 5).toNatClampNeg = 12 by decide]
      by_cases c : gA T 6 12 = -9
      · rw [if_pos c, if_pos c]
      · rw [if_neg c, if_neg c]
  · have w : gI T 0 7 = 6 := toI e7 (by decide)
    refine ⟨if gA T 6 13 = -9 then 1 else 0, it _, ?_, ?_, fun z => absurd z (by decide)⟩
    · rw [e, if_neg (by decide), if_neg (by decide), if_neg (by decide), if_neg (by decide), if_neg (by decide), if_neg (by decide), if_pos rfl, show (1 : Int32) <<< (7 &&& 31) = 128 by decide]
      by_cases c : gA T 6 13 = -9
      · rw [if_pos (D.2.2.2.2.2.2.2.2.mpr c), if_pos c]
      · rw [if_neg (fun z => c (D.2.2.2.2.2.2.2.2.mp z)), if_neg c]
    · rw [w, if_neg (by decide), if_neg (by decide), if_neg (by decide), if_neg (by decide), show ((7 : Int32) + 6).toNatClampNeg = 13 by decide]
      by_cases c : gA T 6 13 = -9
      · rw [if_pos c, if_pos c]
      · rw [if_neg c, if_neg c]
theorem may0 {j : Nat} {S : St} {kd : Int32} (e : gI S 3 3 = kd) (h : ¬ (1 ≤ kd.toInt ∧ kd.toInt ≤ 7)) (x : Int32) : f_X6_mayBegin S j x = some 0 := by
  have n : ∀ c : Int32, 1 ≤ c.toInt ∧ c.toInt ≤ 7 → ¬ kd = c := fun c hc hk => h (hk ▸ hc)
  unfold f_X6_mayBegin
  rw [e, if_neg (n 1 (by decide)), if_neg (n 2 (by decide)), if_neg (n 3 (by decide)), if_neg (n 4 (by decide)), if_neg (n 5 (by decide)), if_neg (n 6 (by decide)), if_neg (n 7 (by decide))]
theorem dead_end {N : Nat} {kk : St → Int32 → Option (Int32 × St)} {T : St} (h : 0 ≤ (gI T 0 8).toInt) {f : Nat} (hf : 0 < f) (x : Int32) : g_X10_lane_84 N kk f T x = kk T x := by
  obtain ⟨f, rfl⟩ : ∃ f', f = f' + 1 := ⟨f - 1, by omega⟩
  show s_X10_lane_84 N kk _ T x = _
  unfold s_X10_lane_84
  rw [isWell0 h, bs, if_pos rfl]
theorem dead136 {N : Nat} {kk rec : St → Int32 → Option (Int32 × St)} {T : St} (h : 0 ≤ (gI T 0 8).toInt) (x : Int32) : f_X10_lane_136 N kk rec T x = rec T (x + 1) := by
  have e : ∀ t, f_X10_lane_150 N kk rec T x t = rec T (x + 1) := fun t => by
    unfold f_X10_lane_150
    rw [takes_dead h, bs]
  unfold f_X10_lane_136
  rw [e, e]
  by_cases c : gI T 0 5 = 3
  · rw [if_pos c]
  · rw [if_neg c]
/-- a token that can't begin an item: the reference is dead at once -/
theorem no_begin {N : Nat} {kk rec : St → Int32 → Option (Int32 × St)} {T : St} (hw : gI T 0 8 = -1) (h0 : 0 ≤ (gI T 0 6).toInt) (x : Int32) : f_X10_lane_119 N kk rec T x = rec (sI T 0 8 (gI T 0 6)) (x + 1) := by
  have hd : 0 ≤ (gI (sI T 0 8 (gI T 0 6)) 0 8).toInt := h0
  unfold f_X10_lane_119 f_X10_lane_120
  rw [takes_no hw, bs]
  dsimp only
  rw [isWell0 hd, bs, if_pos rfl, dead136 hd]
/-- what the loop ends with -/
def Lp (N j : Nat) (kk : St → Int32 → Option (Int32 × St)) (S T : St) (E M : Option (Int32 × St)) : Prop := ∃ (S' T' : St) (x' : Int32), Sm S S' (ciD j) (caD j) ∧ FM T T' ∧ M = kk T' x' ∧ ((E = some (-1, S') ∧ gI T' 0 8 = gI S' 3 2 ∧ 0 ≤ (gI S' 3 2).toInt) ∨ (E = some (x', S') ∧ 0 ≤ x'.toInt ∧ gI T' 0 8 = -1 ∧ Dr j S' T'))
theorem Tk.is0 {kd v : Int32} {T : St} (h : Tk kd v T) (c : kd = 0) : gI T 0 5 = 0 := by
  subst c
  rcases h with ⟨-, h⟩ | ⟨h, -, -⟩ | ⟨h, -⟩ | ⟨h, -⟩ | ⟨h, -⟩
  · exact h
  · exact absurd h.1 (by decide)
  · exact absurd h (by decide)
  · exact absurd h (by decide)
  · exact absurd h (by decide)
theorem Tk.not0 {kd v : Int32} {T : St} (h : Tk kd v T) (c : kd ≠ 0) : gI T 0 5 ≠ 0 := by
  rcases h with ⟨h, -⟩ | ⟨-, h, -⟩ | ⟨-, h, -⟩ | ⟨-, h⟩ | ⟨-, h⟩
  · exact absurd h c
  · rw [h]; decide
  · rw [h]; decide
  · rw [h]; decide
  · rw [h]; decide
theorem Tk.word {kd v : Int32} {T : St} (h : Tk kd v T) (c : 1 ≤ kd.toInt ∧ kd.toInt ≤ 7) : gI T 0 5 = 1 ∧ (gI T 0 7).toInt = kd.toInt - 1 := by
  rcases h with ⟨h, -⟩ | ⟨-, h⟩ | ⟨h, -⟩ | ⟨h, -⟩ | ⟨h, -⟩
  · rw [h] at c; exact absurd c (by decide)
  · exact h
  · rw [h] at c; exact absurd c (by decide)
  · rw [h] at c; exact absurd c (by decide)
  · rw [h] at c; exact absurd c (by decide)
theorem Tk.noword {kd v : Int32} {T : St} (h : Tk kd v T) (c : ¬ (1 ≤ kd.toInt ∧ kd.toInt ≤ 7)) : gI T 0 5 ≠ 1 := by
  rcases h with ⟨-, h⟩ | ⟨h, -⟩ | ⟨-, h, -⟩ | ⟨-, h⟩ | ⟨-, h⟩
  · rw [h]; decide
  · exact absurd h c
  · rw [h]; decide
  · rw [h]; decide
  · rw [h]; decide
theorem Tk.semi {kd v : Int32} {T : St} (h : Tk kd v T) : kd = 9 ↔ gI T 0 5 = 3 := by
  rcases h with ⟨a, h⟩ | ⟨a, h, -⟩ | ⟨a, h, -⟩ | ⟨a, h⟩ | ⟨a, h⟩
  · rw [h, a]; decide
  · rw [h]; exact ⟨fun z => by rw [z] at a; exact absurd a (by decide), fun z => absurd z (by decide)⟩
  · rw [h, a]; decide
  · rw [h, a]; decide
  · rw [h, a]; decide
set_option maxHeartbeats 1000000 in
theorem l_loop {N : Nat} (hN : 1000 ≤ N) {b : Nat → Int32} {L : Int32} (hb : Tb b L) {j : Nat} (hj : j < 2) (kk : St → Int32 → Option (Int32 × St)) : ∀ (m : Nat) (S T : St) (p x : Int32) (f1 f2 : Nat), (L.toInt - p.toInt).toNat < m → Jt N b L S T p → Dr j S T → 0 ≤ x.toInt → x.toInt ≤ p.toInt → m < f1 → m < f2 →
    Lp N j kk S T (g_X6_readInto_16 N j f1 S x) (g_X10_lane_84 N kk f2 T x) := by
  have hL := hb.2.1
  intro m
  induction m with
  | zero => intro S T p x f1 f2 hm; omega
  | succ m ih =>
    intro S T p x f1 f2 hm J D hx0 hx1 hf1 hf2
    obtain ⟨f1, rfl⟩ : ∃ f', f1 = f' + 1 := ⟨f1 - 1, by omega⟩
    obtain ⟨f2, rfl⟩ : ∃ f', f2 = f' + 1 := ⟨f2 - 1, by omega⟩
    obtain ⟨hS, hT, eS, hp, hw, q, st, kd, v, ⟨h1, h2, h3, h4⟩, e4, e6, hk, hr⟩ := J
    obtain ⟨S1, s1, s2, s3, s4, s5, s6⟩ := hr S hS eS
    have hS1 : cTx S1 b L := hS.sm s2 (by omega) id
    have D1 : Dr j S1 T := D.sm hj s2 (Sm.rf _ _ _)
    have eC : g_X6_readInto_16 N j (f1 + 1) S x = (if kd = 0 then some (x, S1) else (f_X6_mayBegin S1 j x).bind fun r8 => if r8 = 0 then some (-1, S1) else cRest N j (g_X6_readInto_16 N j f1) S1 x kd) := by
      show s_X6_readInto_16 N j _ S x = _
      unfold s_X6_readInto_16 cRest
      rw [if_neg (by rw [zlt, z300]; omega), s1, bs, s5, bnd_eq]
    have eM : g_X10_lane_84 N kk (f2 + 1) T x = (if gI T 0 5 = 0 then kk T x else if gI T 0 5 = 1 then (f_X10_mayBegin T x).bind fun r29 => if r29 = 0 then f_X10_lane_119 N kk (g_X10_lane_84 N kk f2) T x else f_X10_lane_120 N kk (g_X10_lane_84 N kk f2) T x 1 else f_X10_lane_119 N kk (g_X10_lane_84 N kk f2) T x) := by
      show s_X10_lane_84 N kk _ T x = _
      unfold s_X10_lane_84
      rw [isWell1 hw, bs, if_neg one_ne]
    rw [eC, eM]
    have h6 : 0 ≤ (gI T 0 6).toInt := by rw [e6]; omega
    have dead : f_X10_lane_119 N kk (g_X10_lane_84 N kk f2) T x = kk (sI T 0 8 st) (x + 1) := by
      rw [no_begin hw h6, e6]
      exact dead_end (T := sI T 0 8 st) (by show 0 ≤ st.toInt; omega) (by omega) _
    have bad : ∀ E M : Option (Int32 × St), E = some (-1, S1) → M = f_X10_lane_119 N kk (g_X10_lane_84 N kk f2) T x → Lp N j kk S T E M := fun E M hE hM =>
      ⟨S1, sI T 0 8 st, x + 1, kD s2, FM.i _ _ (by omega), hM.trans dead, Or.inl ⟨hE, s4.symm, by rw [s4]; omega⟩⟩
    by_cases c0 : kd = 0
    · rw [if_pos c0, if_pos (hk.is0 c0)]
      exact ⟨S1, T, x, kD s2, FM.rf T, rfl, Or.inr ⟨rfl, hx0, hw, D1⟩⟩
    rw [if_neg c0, if_neg (hk.not0 c0)]
    have hpq := h4 c0
    by_cases c7 : 1 ≤ kd.toInt ∧ kd.toInt ≤ 7
    · obtain ⟨w5, w7⟩ := hk.word c7
      obtain ⟨r, r0, r1, r2, r3⟩ := bothMay D1 s5 c7 w7 x
      rw [if_pos w5, r1, bs, r2, bs]
      rcases r0 with rfl | rfl
      · rw [if_pos rfl, if_pos rfl]
        exact bad _ _ rfl rfl
      rw [if_neg one_ne, if_neg one_ne]
      obtain ⟨T1, t1, t2, t3⟩ := takes_yes hN hb hT hw (q := q) ⟨by omega, h3⟩ e4
      have J1 := t3 S1 hS1 s3
      have t2' : Sm T T1 (fun c k => c = 0 ∧ 4 ≤ k ∧ k ≤ 8) caN := t2.wk (fun c k z => by omega) (fun _ z => z)
      have D2 : Dr j S1 T1 := D1.sm hj (Sm.rf _ _ _) t2'
      have hw1 := J1.2.2.2.2.1
      have h17 : gI T1 0 17 = gI T 0 17 := t2.1 0 17 (by omega)
      have hIt : It N b L j q S1 T1 (cRest N j (g_X6_readInto_16 N j f1) S1 x kd) (fun S' => cSemi N (g_X6_readInto_16 N j f1) S' x) (f_X10_readsItem N T1 (gI T 0 7)) := by
        rcases kd7 c7 with rfl | rfl | rfl | rfl | rfl | rfl | rfl
        · rw [toI w7 (show (0 : Int32).toInt = _ by decide)]; exact it_1 hN hb hj J1 D2
        · rw [toI w7 (show (1 : Int32).toInt = _ by decide)]; exact it_2 hN hb hj J1 D2
        · rw [toI w7 (show (2 : Int32).toInt = _ by decide)]; exact it_3 hN hb hj J1 D2
        · rw [toI w7 (show (3 : Int32).toInt = _ by decide)]; exact it_4 hN hb hj J1 D2 (by rw [h17]; exact r3 rfl rfl)
        · rw [toI w7 (show (4 : Int32).toInt = _ by decide)]; exact it_5 hN hb hj J1 D2
        · rw [toI w7 (show (5 : Int32).toInt = _ by decide)]; exact it_6 hN hb hj J1 D2
        · rw [toI w7 (show (6 : Int32).toInt = _ by decide)]; exact it_7 hN hb hj J1 D2
      obtain ⟨S2, T2, u1, u2, u3, u4⟩ := hIt
      have e120 : f_X10_lane_120 N kk (g_X10_lane_84 N kk f2) T x 1 = f_X10_lane_136 N kk (g_X10_lane_84 N kk f2) T2 x := by
        unfold f_X10_lane_120
        rw [t1, bs]
        dsimp only
        rw [isWell1 hw1, bs, if_neg one_ne, u3, bs]
      rw [e120]
      rcases u4 with ⟨v1, v2, v3⟩ | ⟨p2, v1, v2, J2, D3⟩
      · have hd : 0 ≤ (gI T2 0 8).toInt := by rw [v2]; exact v3
        refine ⟨S2, T2, x + 1, (kD s2).tr u1, (fD t2').tr u2, ?_, Or.inl ⟨v1, v2, v3⟩⟩
        rw [dead136 hd, dead_end hd (by omega)]
      · rw [v1]
        obtain ⟨hS2, hT2, eS2, hp2, hw2, q2, st2, kd2, x2, ⟨g1, g2, g3, g4⟩, e42, e62, hk2, hr2⟩ := J2
        obtain ⟨S3, a1, a2, a3, a4, a5, a6⟩ := hr2 S2 hS2 eS2
        have ex1 : (x + 1).toInt = x.toInt + 1 := zadd (by rw [z1]; omega) (by rw [z1]; omega)
        have eS3 : cSemi N (g_X6_readInto_16 N j f1) S2 x = if kd2 = 9 then g_X6_readInto_16 N j f1 S3 (x + 1) else some (-1, S3) := by
          unfold cSemi
          rw [a1, bs, a5]
        dsimp only
        rw [eS3]
        unfold f_X10_lane_136 f_X10_lane_150
        by_cases c9 : kd2 = 9
        · rw [if_pos c9, if_pos (hk2.semi.mp c9)]
          have c90 : kd2 ≠ 0 := by rw [c9]; decide
          have g5 := g4 c90
          obtain ⟨T3, b1, b2, b3⟩ := takes_yes hN hb hT2 hw2 (q := q2) ⟨by omega, g3⟩ e42
          have b2' : Sm T2 T3 (fun c k => c = 0 ∧ 4 ≤ k ∧ k ≤ 8) caN := b2.wk (fun c k z => by omega) (fun _ z => z)
          rw [b1, bs]
          dsimp only
          obtain ⟨S4, T4, x4, k1, k2, k3, k4⟩ := ih S3 T3 q2 (x + 1) f1 f2 (by omega) (b3 S3 (hS2.sm a2 (by omega) id) a3) (D3.sm hj a2 b2') (by omega) (by omega) (by omega) (by omega)
          exact ⟨S4, T4, x4, (((kD s2).tr u1).tr (kD a2)).tr k1, (((fD t2').tr u2).tr (fD b2')).tr k2, k3, k4⟩
        · rw [if_neg c9, if_neg (fun z => c9 (hk2.semi.mpr z)), takes_no hw2, bs, e62]
          dsimp only
          refine ⟨S3, sI T2 0 8 st2, x + 1, ((kD s2).tr u1).tr (kD a2), ((fD t2').tr u2).tr (FM.i _ _ (by omega)), dead_end (T := sI T2 0 8 st2) (by show 0 ≤ st2.toInt; omega) (by omega) _, Or.inl ⟨rfl, a4.symm, by rw [a4]; omega⟩⟩
    · rw [may0 s5 c7, bs, if_pos rfl, if_neg (hk.noword c7)]
      exact bad _ _ rfl rfl
