-- FILE 48g.loop.lean.txt
/-! lane: item by item -/
theorem kd7 {kd : Int32} (h : 1 ≤ kd.toInt ∧ kd.toInt ≤ 7) : kd = 1 ∨ kd = 2 ∨ kd = 3 ∨ kd = 4 ∨ kd = 5 ∨ kd = 6 ∨ kd = 7 := by
  simp only [zeq, z1, z2, z3, z4, z5, z6, z7]; omega
theorem toI {x y : Int32} {c : Int} (h : x.toInt = c) (hy : y.toInt = c) : x = y := by rw [zeq, h, hy]
theorem bothMay {j : Nat} {S T : St} {kd : Int32} (D : Dr j S T) (e : gI S 3 3 = kd) (h : 1 ≤ kd.toInt ∧ kd.toInt ≤ 7) (e7 : (gI T 0 7).toInt = kd.toInt - 1) (x : Int32) : ∃ r : Int32, (r = 0 ∨ r = 1) ∧ f_X6_mayBegin S j x = some r ∧ f_X10_mayBegin T x = some r ∧ (kd = 4 → r = 1 → (gI T 0 17).toInt < 3) := by
  have it : ∀ (q : Prop) [Decidable q], (if q then (1 : Int32) else 0) = 0 ∨ (if q then (1 : Int32) else 0) = 1 := fun q _ => by
    by_cases h : q
    · rw [if_pos h]; exact Or.inr rfl
    · rw [if_neg h]; exact Or.inl rfl
  unfold f_X6_mayBegin f_X10_mayBegin
  rcases kd7 h with rfl | rfl | rfl | rfl | rfl | rfl | rfl
  · have w : gI T 0 7 = 0 := toI e7 (by decide)
    refine ⟨if x = 0 then 1 else 0, it _, ?_, ?_, fun z => absurd z (by decide)⟩
    · rw [e, if_pos rfl]
      by_cases c : x = 0
      · rw [if_pos c, if_pos c]
      · rw [if_neg c, if_neg c]
    · rw [w, if_pos rfl]
      by_cases c : x = 0
      · rw [if_pos c, if_pos c]
      · rw [if_neg c, if_neg c]
  · have w : gI T 0 7 = 1 := toI e7 (by decide)
    refine ⟨1, Or.inr rfl, ?_, ?_, fun z => absurd z (by decide)⟩
    · rw [e]; rfl
    · rw [w, if_neg (by decide), if_neg (by decide), if_pos (by decide)]
  · have w : gI T 0 7 = 2 := toI e7 (by decide)
    refine ⟨1, Or.inr rfl, ?_, ?_, fun z => absurd z (by decide)⟩
    · rw [e]; rfl
    · rw [w, if_neg (by decide), if_neg (by decide), if_pos (by decide)]
  · have w : gI T 0 7 = 3 := toI e7 (by decide)
    refine ⟨if 3 ≤ gI T 0 17 then 0 else 1, ?_, ?_, ?_, fun _ z => ?_⟩
    · by_cases c : 3 ≤ gI T 0 17
      · rw [if_pos c]; exact Or.inl rfl
      · rw [if_neg c]; exact Or.inr rfl
    · rw [e, if_neg (by decide), if_neg (by decide), if_neg (by decide), if_pos rfl, D.2.1.1]
      by_cases c : 3 ≤ gI T 0 17
      · rw [if_pos c, if_pos c]
      · rw [if_neg c, if_neg c]
    · rw [w, if_neg (by decide), if_pos rfl]
      by_cases c : 3 ≤ gI T 0 17
      · rw [if_pos c, if_pos c]
      · rw [if_neg c, if_neg c]
    · by_cases c : 3 ≤ gI T 0 17
      · rw [if_pos c] at z; exact absurd z (by decide)
      · rw [zle, z3] at c; omega
  · have w : gI T 0 7 = 4 := toI e7 (by decide)
    refine ⟨if gA T 6 11 = -9 then 1 else 0, it _, ?_, ?_, fun z => absurd z (by decide)⟩
    · rw [e, if_neg (by decide), if_neg (by decide), if_neg (by decide), if_neg (by decide), if_pos rfl, show (1 : Int32) <<< (5 &&& 31) = 32 by decide]
      by_cases c : gA T 6 11 = -9
      · rw [if_pos (D.2.2.2.2.2.2.1.mpr c), if_pos c]
      · rw [if_neg (fun z => c (D.2.2.2.2.2.2.1.mp z)), if_neg c]
    · rw [w, if_neg (by decide), if_neg (by decide), if_neg (by decide), if_neg (by decide), show ((7 : Int32) + 4).toNatClampNeg = 11 by decide]
      by_cases c : gA T 6 11 = -9
      · rw [if_pos c, if_pos c]
      · rw [if_neg c, if_neg c]
  · have w : gI T 0 7 = 5 := toI e7 (by decide)
    refine ⟨if gA T 6 12 = -9 then 1 else 0, it _, ?_, ?_, fun z => absurd z (by decide)⟩
    · rw [e, if_neg (by decide), if_neg (by decide), if_neg (by decide), if_neg (by decide), if_neg (by decide), if_pos rfl, show (1 : Int32) <<< (6 &&& 31) = 64 by decide]
      by_cases c : gA T 6 12 = -9
      · rw [if_pos (D.2.2.2.2.2.2.2.1.mpr c), if_pos c]
      · rw [if_neg (fun z => c (D.2.2.2.2.2.2.2.1.mp z)), if_neg c]
    · rw [w, if_neg (by decide), if_neg (by decide), if_neg (by decide), if_neg (by decide), show ((7 : Int32) + 5).toNatClampNeg = 12 by decide]
      by_cases c : gA T 6 12 = -9
      · rw [if_pos c, if_pos c]
      · rw [if_neg c, if_neg c]
  · have w : gI T 0 7 = 6 := toI e7 (by decide)
    refine ⟨if gA T 6 13 = -9 then 1 else 0, it _, ?_, ?_, fun z => absurd z (by decide)⟩
    · rw [e, if_neg (by decide), if_neg (by decide), if_neg (by decide), if_neg (by decide), if_neg (by decide), if_neg (by decide), if_pos rfl, show (1 : Int32) <<< (7 &&& 31) = 128 by decide]
      by_cases c : gA T 6 13 = -9
      · rw [if_pos (D.2.2.2.2.2.2.2.2.mpr c), if_pos c]
      · rw [if_neg (fun z => c (D.2.2.2.2.2.2.2.2.mp z)), if_neg c]
    · rw [w, if_neg (by decide), if_neg (by decide), if_neg (by decide), if_neg (by decide), show ((7 : Int32) + 6).toNatClampNeg = 13 by decide]
      by_cases c : gA T 6 13 = -9
      · rw [if_pos c, if_pos c]
      · rw [if_neg c, if_neg c]
theorem may0 {j : Nat} {S : St} {kd : Int32} (e : gI S 3 3 = kd) (h : ¬ (1 ≤ kd.toInt ∧ kd.toInt ≤ 7)) (x : Int32) : f_X6_mayBegin S j x = some 0 := by
  have n : ∀ c : Int32, 1 ≤ c.toInt ∧ c.toInt ≤ 7 → ¬ kd = c := fun c hc hk => h (hk ▸ hc)
  unfold f_X6_mayBegin
  rw [e, if_neg (n 1 (by decide)), if_neg (n 2 (by decide)), if_neg (n 3 (by decide)), if_neg (n 4 (by decide)), if_neg (n 5 (by decide)), if_neg (n 6 (by decide)), if_neg (n 7 (by decide))]
theorem dead_end {N : Nat} {kk : St → Int32 → Option (Int32 × St)} {T : St} (h : 0 ≤ (gI T 0 8).toInt) {f : Nat} (hf : 0 < f) (x : Int32) : g_X10_lane_84 N kk f T x = kk T x := by
  obtain ⟨f, rfl⟩ : ∃ f', f = f' + 1 := ⟨f - 1, by omega⟩
  show s_X10_lane_84 N kk _ T x = _
  unfold s_X10_lane_84
  rw [isWell0 h, bs, if_pos rfl]
theorem dead136 {N : Nat} {kk rec : St → Int32 → Option (Int32 × St)} {T : St} (h : 0 ≤ (gI T 0 8).toInt) (x : Int32) : f_X10_lane_136 N kk rec T x = rec T (x + 1) := by
  have e : ∀ t, f_X10_lane_150 N kk rec T x t = rec T (x + 1) := fun t => by
    unfold f_X10_lane_150
    rw [takes_dead h, bs]
  unfold f_X10_lane_136
  rw [e, e]
  by_cases c : gI T 0 5 = 3
  · rw [if_pos c]
  · rw [if_neg c]
/-- a token that can't begin an item: the reference is dead at once -/
theorem no_begin {N : Nat} {kk rec : St → Int32 → Option (Int32 × St)} {T : St} (hw : gI T 0 8 = -1) (h0 : 0 ≤ (gI T 0 6).toInt) (x : Int32) : f_X10_lane_119 N kk rec T x = rec (sI T 0 8 (gI T 0 6)) (x + 1) := by
  have hd : 0 ≤ (gI (sI T 0 8 (gI T 0 6)) 0 8).toInt := h0
  unfold f_X10_lane_119 f_X10_lane_120
  rw [takes_no hw, bs]
  dsimp only
  rw [isWell0 hd, bs, if_pos rfl, dead136 hd]
/-- what the loop ends with -/
def Lp (N j : Nat) (kk : St → Int32 → Option (Int32 × St)) (S T : St) (E M : Option (Int32 × St)) : Prop := ∃ (S' T' : St) (x' : Int32), Sm S S' (ciD j) (caD j) ∧ FM T T' ∧ M = kk T' x' ∧ ((E = some (-1, S') ∧ gI T' 0 8 = gI S' 3 2 ∧ 0 ≤ (gI S' 3 2).toInt) ∨ (E = some (x', S') ∧ 0 ≤ x'.toInt ∧ gI T' 0 8 = -1 ∧ Dr j S' T'))
theorem Tk.is0 {kd v : Int32} {T : St} (h : Tk kd v T) (c : kd = 0) : gI T 0 5 = 0 := by
  subst c
  rcases h with ⟨-, h⟩ | ⟨h, -, -⟩ | ⟨h, -⟩ | ⟨h, -⟩ | ⟨h, -⟩
  · exact h
  · exact absurd h.1 (by decide)
  · exact absurd h (by decide)
  · exact absurd h (by decide)
  · exact absurd h (by decide)
theorem Tk.not0 {kd v : Int32} {T : St} (h : Tk kd v T) (c : kd ≠ 0) : gI T 0 5 ≠ 0 := by
  rcases h with ⟨h, -⟩ | ⟨-, h, -⟩ | ⟨-, h, -⟩ | ⟨-, h⟩ | ⟨-, h⟩
  · exact absurd h c
  · rw [h]; decide
  · rw [h]; decide
  · rw [h]; decide
  · rw [h]; decide
theorem Tk.word {kd v : Int32} {T : St} (h : Tk kd v T) (c : 1 ≤ kd.toInt ∧ kd.toInt ≤ 7) : gI T 0 5 = 1 ∧ (gI T 0 7).toInt = kd.toInt - 1 := by
  rcases h with ⟨h, -⟩ | ⟨-, h⟩ | ⟨h, -⟩ | ⟨h, -⟩ | ⟨h, -⟩
  · rw [h] at c; exact absurd c (by decide)
  · exact h
  · rw [h] at c; exact absurd c (by decide)
  · rw [h] at c; exact absurd c (by decide)
  · rw [h] at c; exact absurd c (by decide)
theorem Tk.noword {kd v : Int32} {T : St} (h : Tk kd v T) (c : ¬ (1 ≤ kd.toInt ∧ kd.toInt ≤ 7)) : gI T 0 5 ≠ 1 := by
  rcases h with ⟨-, h⟩ | ⟨h, -⟩ | ⟨-, h, -⟩ | ⟨-, h⟩ | ⟨-, h⟩
  · rw [h]; decide
  · exact absurd h c
  · rw [h]; decide
  · rw [h]; decide
  · rw [h]; decide
theorem Tk.semi {kd v : Int32} {T : St} (h : Tk kd v T) : kd = 9 ↔ gI T 0 5 = 3 := by
  rcases h with ⟨a, h⟩ | ⟨a, h, -⟩ | ⟨a, h, -⟩ | ⟨a, h⟩ | ⟨a, h⟩
  · rw [h, a]; decide
  · rw [h]; exact ⟨fun z => by rw [z] at a; exact absurd a (by decide), fun z => absurd z (by decide)⟩
  · rw [h, a]; decide
  · rw [h, a]; decide
  · rw [h, a]; decide
set_option maxHeartbeats 1000000 in
theorem l_loop {N : Nat} (hN : 1000 ≤ N) {b : Nat → Int32} {L : Int32} (hb : Tb b L) {j : Nat} (hj : j < 2) (kk : St → Int32 → Option (Int32 × St)) : ∀ (m : Nat) (S T : St) (p x : Int32) (f1 f2 : Nat), (L.toInt - p.toInt).toNat < m → Jt N b L S T p → Dr j S T → 0 ≤ x.toInt → x.toInt ≤ p.toInt → m < f1 → m < f2 →
    Lp N j kk S T (g_X6_readInto_16 N j f1 S x) (g_X10_lane_84 N kk f2 T x) := by
  have hL := hb.2.1
  intro m
  induction m with
  | zero => intro S T p x f1 f2 hm; omega
  | succ m ih =>
    intro S T p x f1 f2 hm J D hx0 hx1 hf1 hf2
    obtain ⟨f1, rfl⟩ : ∃ f', f1 = f' + 1 := ⟨f1 - 1, by omega⟩
    obtain ⟨f2, rfl⟩ : ∃ f', f2 = f' + 1 := ⟨f2 - 1, by omega⟩
    obtain ⟨hS, hT, eS, hp, hw, q, st, kd, v, ⟨h1, h2, h3, h4⟩, e4, e6, hk, hr⟩ := J
    obtain ⟨S1, s1, s2, s3, s4, s5, s6⟩ := hr S hS eS
    have hS1 : cTx S1 b L := hS.sm s2 (by omega) id
    have D1 : Dr j S1 T := D.sm hj s2 (Sm.rf _ _ _)
    have eC : g_X6_readInto_16 N j (f1 + 1) S x = (if kd = 0 then some (x, S1) else (f_X6_mayBegin S1 j x).bind fun r8 => if r8 = 0 then some (-1, S1) else cRest N j (g_X6_readInto_16 N j f1) S1 x kd) := by
      show s_X6_readInto_16 N j _ S x = _
      unfold s_X6_readInto_16 cRest
      rw [if_neg (by rw [zlt, z300]; omega), s1, bs, s5, bnd_eq]
    have eM : g_X10_lane_84 N kk (f2 + 1) T x = (if gI T 0 5 = 0 then kk T x else if gI T 0 5 = 1 then (f_X10_mayBegin T x).bind fun r29 => if r29 = 0 then f_X10_lane_119 N kk (g_X10_lane_84 N kk f2) T x else f_X10_lane_120 N kk (g_X10_lane_84 N kk f2) T x 1 else f_X10_lane_119 N kk (g_X10_lane_84 N kk f2) T x) := by
      show s_X10_lane_84 N kk _ T x = _
      unfold s_X10_lane_84
      rw [isWell1 hw, bs, if_neg one_ne]
    rw [eC, eM]
    have h6 : 0 ≤ (gI T 0 6).toInt := by rw [e6]; omega
    have dead : f_X10_lane_119 N kk (g_X10_lane_84 N kk f2) T x = kk (sI T 0 8 st) (x + 1) := by
      rw [no_begin hw h6, e6]
      exact dead_end (T := sI T 0 8 st) (by show 0 ≤ st.toInt; omega) (by omega) _
    have bad : ∀ E M : Option (Int32 × St), E = some (-1, S1) → M = f_X10_lane_119 N kk (g_X10_lane_84 N kk f2) T x → Lp N j kk S T E M := fun E M hE hM =>
      ⟨S1, sI T 0 8 st, x + 1, kD s2, FM.i _ _ (by omega), hM.trans dead, Or.inl ⟨hE, s4.symm, by rw [s4]; omega⟩⟩
    by_cases c0 : kd = 0
    · rw [if_pos c0, if_pos (hk.is0 c0)]
      exact ⟨S1, T, x, kD s2, FM.rf T, rfl, Or.inr ⟨rfl, hx0, hw, D1⟩⟩
    rw [if_neg c0, if_neg (hk.not0 c0)]
    have hpq := h4 c0
    by_cases c7 : 1 ≤ kd.toInt ∧ kd.toInt ≤ 7
    · obtain ⟨w5, w7⟩ := hk.word c7
      obtain ⟨r, r0, r1, r2, r3⟩ := bothMay D1 s5 c7 w7 x
      rw [if_pos w5, r1, bs, r2, bs]
      rcases r0 with rfl | rfl
      · rw [if_pos rfl, if_pos rfl]
        exact bad _ _ rfl rfl
      rw [if_neg one_ne, if_neg one_ne]
      obtain ⟨T1, t1, t2, t3⟩ := takes_yes hN hb hT hw (q := q) ⟨by omega, h3⟩ e4
      have J1 := t3 S1 hS1 s3
      have t2' : Sm T T1 (fun c k => c = 0 ∧ 4 ≤ k ∧ k ≤ 8) caN := t2.wk (fun c k z => by omega) (fun _ z => z)
      have D2 : Dr j S1 T1 := D1.sm hj (Sm.rf _ _ _) t2'
      have hw1 := J1.2.2.2.2.1
      have h17 : gI T1 0 17 = gI T 0 17 := t2.1 0 17 (by omega)
      have hIt : It N b L j q S1 T1 (cRest N j (g_X6_readInto_16 N j f1) S1 x kd) (fun S' => cSemi N (g_X6_readInto_16 N j f1) S' x) (f_X10_readsItem N T1 (gI T 0 7)) := by
        rcases kd7 c7 with rfl | rfl | rfl | rfl | rfl | rfl | rfl
        · rw [toI w7 (show (0 : Int32).toInt = _ by decide)]; exact it_1 hN hb hj J1 D2
        · rw [toI w7 (show (1 : Int32).toInt = _ by decide)]; exact it_2 hN hb hj J1 D2
        · rw [toI w7 (show (2 : Int32).toInt = _ by decide)]; exact it_3 hN hb hj J1 D2
        · rw [toI w7 (show (3 : Int32).toInt = _ by decide)]; exact it_4 hN hb hj J1 D2 (by rw [h17]; exact r3 rfl rfl)
        · rw [toI w7 (show (4 : Int32).toInt = _ by decide)]; exact it_5 hN hb hj J1 D2
        · rw [toI w7 (show (5 : Int32).toInt = _ by decide)]; exact it_6 hN hb hj J1 D2
        · rw [toI w7 (show (6 : Int32).toInt = _ by decide)]; exact it_7 hN hb hj J1 D2
      obtain ⟨S2, T2, u1, u2, u3, u4⟩ := hIt
      have e120 : f_X10_lane_120 N kk (g_X10_lane_84 N kk f2) T x 1 = f_X10_lane_136 N kk (g_X10_lane_84 N kk f2) T2 x := by
        unfold f_X10_lane_120
        rw [t1, bs]
        dsimp only
        rw [isWell1 hw1, bs, if_neg one_ne, u3, bs]
      rw [e120]
      rcases u4 with ⟨v1, v2, v3⟩ | ⟨p2, v1, v2, J2, D3⟩
      · have hd : 0 ≤ (gI T2 0 8).toInt := by rw [v2]; exact v3
        refine ⟨S2, T2, x + 1, (kD s2).tr u1, (fD t2').tr u2, ?_, Or.inl ⟨v1, v2, v3⟩⟩
        rw [dead136 hd, dead_end hd (by omega)]
      · rw [v1]
        obtain ⟨hS2, hT2, eS2, hp2, hw2, q2, st2, kd2, x2, ⟨g1, g2, g3, g4⟩, e42, e62, hk2, hr2⟩ := J2
        obtain ⟨S3, a1, a2, a3, a4, a5, a6⟩ := hr2 S2 hS2 eS2
        have ex1 : (x + 1).toInt = x.toInt + 1 := zadd (by rw [z1]; omega) (by rw [z1]; omega)
        have eS3 : cSemi N (g_X6_readInto_16 N j f1) S2 x = if kd2 = 9 then g_X6_readInto_16 N j f1 S3 (x + 1) else some (-1, S3) := by
          unfold cSemi
          rw [a1, bs, a5]
        dsimp only
        rw [eS3]
        unfold f_X10_lane_136 f_X10_lane_150
        by_cases c9 : kd2 = 9
        · rw [if_pos c9, if_pos (hk2.semi.mp c9)]
          have c90 : kd2 ≠ 0 := by rw [c9]; decide
          have g5 := g4 c90
          obtain ⟨T3, b1, b2, b3⟩ := takes_yes hN hb hT2 hw2 (q := q2) ⟨by omega, g3⟩ e42
          have b2' : Sm T2 T3 (fun c k => c = 0 ∧ 4 ≤ k ∧ k ≤ 8) caN := b2.wk (fun c k z => by omega) (fun _ z => z)
          rw [b1, bs]
          dsimp only
          obtain ⟨S4, T4, x4, k1, k2, k3, k4⟩ := ih S3 T3 q2 (x + 1) f1 f2 (by omega) (b3 S3 (hS2.sm a2 (by omega) id) a3) (D3.sm hj a2 b2') (by omega) (by omega) (by omega) (by omega)
          exact ⟨S4, T4, x4, (((kD s2).tr u1).tr (kD a2)).tr k1, (((fD t2').tr u2).tr (fD b2')).tr k2, k3, k4⟩
        · rw [if_neg c9, if_neg (fun z => c9 (hk2.semi.mpr z)), takes_no hw2, bs, e62]
          dsimp only
          refine ⟨S3, sI T2 0 8 st2, x + 1, ((kD s2).tr u1).tr (kD a2), ((fD t2').tr u2).tr (FM.i _ _ (by omega)), dead_end (T := sI T2 0 8 st2) (by show 0 ≤ st2.toInt; omega) (by omega) _, Or.inl ⟨rfl, a4.symm, by rw [a4]; omega⟩⟩
    · rw [may0 s5 c7, bs, if_pos rfl, if_neg (hk.noword c7)]
      exact bad _ _ rfl rfl
-- FILE 48h.settle.lean.txt
/-! lane: the drafts begun; what is told settles -/
theorem z14 : (14 : Int32).toInt = 14 := by decide
theorem upd_at (f : Nat → Int32) (k : Nat) (x : Int32) : upd f k x k = x := by simp only [upd]; rfl
theorem upd_off {f : Nat → Int32} {k j : Nat} {x : Int32} (h : j ≠ k) : upd f k x j = f j := by simp only [upd]; rw [if_neg h]
theorem at1 (S : St) {c1 i : Nat} {v : Int32} : ∀ c r, gA (sA S c1 (upd (gA S c1) i v)) c r = if c = c1 ∧ r = i then v else gA S c r := by
  intro c r
  rw [gA_sA]
  by_cases e1 : c = c1
  · rw [if_pos e1]
    simp only [upd]
    by_cases er : r = i
    · rw [if_pos er, if_pos ⟨e1, er⟩]
    · rw [if_neg er, if_neg (fun z => er z.2), e1]
  · rw [if_neg e1, if_neg (fun z => e1 z.1)]
theorem at2 (S : St) {c1 c2 i : Nat} (h : c2 ≠ c1) {v w : Int32} (V : Nat → Int32) (hv : v = V c1) (hw : w = V c2) : ∀ c r, gA (sA (sA S c1 (upd (gA S c1) i v)) c2 (upd (gA (sA S c1 (upd (gA S c1) i v)) c2) i w)) c r = if (c = c1 ∨ c = c2) ∧ r = i then V c else gA S c r := by
  intro c r
  rw [at1, at1]
  by_cases er : r = i
  · by_cases e2 : c = c2
    · rw [if_pos ⟨e2, er⟩, if_pos ⟨Or.inr e2, er⟩, hw, e2]
    · rw [if_neg (fun z => e2 z.1)]
      by_cases e1 : c = c1
      · rw [if_pos ⟨e1, er⟩, if_pos ⟨Or.inl e1, er⟩, hv, e1]
      · rw [if_neg (fun z => e1 z.1), if_neg (fun z => z.1.elim e1 e2)]
  · rw [if_neg (fun z => er z.2), if_neg (fun z => er z.2), if_neg (fun z => er z.2)]
theorem begin_loop (N : Nat) (j : Nat) : ∀ (m fuel : Nat) (S : St) (x : Int32), (24 - x.toInt).toNat = m → 0 ≤ x.toInt → x.toInt ≤ 24 → m < fuel →
    ∃ g : Nat → Nat → Int32, (∀ kk : St → Option St, g_X3_begin_2 N j kk fuel S x = kk (S.1, g, S.2.2)) ∧ ∀ c r, g c r = if (c = 34 + 5 * j ∨ c = 35 + 5 * j) ∧ x.toInt ≤ (r : Int) ∧ r < 24 then 0 else gA S c r := by
  intro m
  induction m with
  | zero =>
    intro fuel S x hm h1 h2 hf
    obtain ⟨f, rfl⟩ : ∃ f, fuel = f + 1 := ⟨fuel - 1, by omega⟩
    refine ⟨gA S, ?_, fun c r => by rw [if_neg (fun z => by omega)]⟩
    intro kk
    show s_X3_begin_2 N j kk _ S x = _
    unfold s_X3_begin_2
    rw [if_pos (by rw [zle, z24]; omega)]
    rfl
  | succ m ih =>
    intro fuel S x hm h1 h2 hf
    obtain ⟨f, rfl⟩ : ∃ f, fuel = f + 1 := ⟨fuel - 1, by omega⟩
    have e2 : (x + 1).toInt = x.toInt + 1 := zadd (by rw [z1]; omega) (by rw [z1]; omega)
    have en : (x.toNatClampNeg : Int) = x.toInt := by rw [znat]; omega
    have hS2 := at2 S (c1 := 34 + 5 * j) (c2 := 35 + 5 * j) (i := x.toNatClampNeg) (v := 0) (w := 0) (by omega) (fun _ => 0) rfl rfl
    obtain ⟨g, q1, q2⟩ := ih f (sA (sA S (34 + 5 * j) (upd (gA S (34 + 5 * j)) x.toNatClampNeg 0)) (35 + 5 * j) (upd (gA (sA S (34 + 5 * j) (upd (gA S (34 + 5 * j)) x.toNatClampNeg 0)) (35 + 5 * j)) x.toNatClampNeg 0)) (x + 1) (by rw [e2]; omega) (by omega) (by omega) (by omega)
    refine ⟨g, ?_, fun c r => ?_⟩
    · intro kk
      refine Eq.trans ?_ (q1 kk)
      show s_X3_begin_2 N j kk _ S x = _
      unfold s_X3_begin_2
      rw [if_neg (by rw [zle, z24]; omega), if_neg (by rw [zle, z24]; omega), if_neg (gok h1 (by omega)), bnd_eq, if_neg (gok h1 (by omega)), bnd_eq]
    · rw [q2 c r, hS2 c r, e2]
      by_cases hc : (c = 34 + 5 * j ∨ c = 35 + 5 * j)
      · by_cases h : x.toInt + 1 ≤ (r : Int) ∧ r < 24
        · rw [if_pos ⟨hc, h⟩, if_pos ⟨hc, by omega⟩]
        · rw [if_neg (fun z => h z.2)]
          by_cases hr : r = x.toNatClampNeg
          · rw [if_pos ⟨hc, hr⟩, if_pos ⟨hc, by omega⟩]
          · rw [if_neg (fun z => hr z.2), if_neg (fun z => by omega)]
      · rw [if_neg (fun z => hc z.1), if_neg (fun z => hc z.1), if_neg (fun z => hc z.1)]
theorem draft_loop (N : Nat) : ∀ (m fuel : Nat) (S : St) (y : Int32) (x : Int32), (48 - x.toInt).toNat = m → 0 ≤ x.toInt → x.toInt ≤ 48 → m < fuel →
    ∃ g : Nat → Nat → Int32, (∀ kk : St → Int32 → Option (Int32 × St), g_X10_lane_31 N kk fuel S y x = kk (S.1, g, S.2.2) y) ∧ ∀ c r, g c r = if (c = 2 ∨ c = 3) ∧ x.toInt ≤ (r : Int) ∧ r < 48 then 0 else gA S c r := by
  intro m
  induction m with
  | zero =>
    intro fuel S y x hm h1 h2 hf
    obtain ⟨f, rfl⟩ : ∃ f, fuel = f + 1 := ⟨fuel - 1, by omega⟩
    refine ⟨gA S, ?_, fun c r => by rw [if_neg (fun z => by omega)]⟩
    intro kk
    show s_X10_lane_31 N kk _ S y x = _
    unfold s_X10_lane_31
    rw [if_pos (by rw [zle, z48]; omega)]
    rfl
  | succ m ih =>
    intro fuel S y x hm h1 h2 hf
    obtain ⟨f, rfl⟩ : ∃ f, fuel = f + 1 := ⟨fuel - 1, by omega⟩
    have e2 : (x + 1).toInt = x.toInt + 1 := zadd (by rw [z1]; omega) (by rw [z1]; omega)
    have en : (x.toNatClampNeg : Int) = x.toInt := by rw [znat]; omega
    have hS2 := at2 S (c1 := 2) (c2 := 3) (i := x.toNatClampNeg) (v := 0) (w := 0) (by omega) (fun _ => 0) rfl rfl
    obtain ⟨g, q1, q2⟩ := ih f (sA (sA S (2) (upd (gA S (2)) x.toNatClampNeg 0)) (3) (upd (gA (sA S (2) (upd (gA S (2)) x.toNatClampNeg 0)) (3)) x.toNatClampNeg 0)) y (x + 1) (by rw [e2]; omega) (by omega) (by omega) (by omega)
    refine ⟨g, ?_, fun c r => ?_⟩
    · intro kk
      refine Eq.trans ?_ (q1 kk)
      show s_X10_lane_31 N kk _ S y x = _
      unfold s_X10_lane_31
      rw [if_neg (by rw [zle, z48]; omega), if_neg (gok h1 (by omega)), bnd_eq, if_neg (gok h1 (by omega)), bnd_eq]
    · rw [q2 c r, hS2 c r, e2]
      by_cases hc : (c = 2 ∨ c = 3)
      · by_cases h : x.toInt + 1 ≤ (r : Int) ∧ r < 48
        · rw [if_pos ⟨hc, h⟩, if_pos ⟨hc, by omega⟩]
        · rw [if_neg (fun z => h z.2)]
          by_cases hr : r = x.toNatClampNeg
          · rw [if_pos ⟨hc, hr⟩, if_pos ⟨hc, by omega⟩]
          · rw [if_neg (fun z => hr z.2), if_neg (fun z => by omega)]
      · rw [if_neg (fun z => hc z.1), if_neg (fun z => hc z.1), if_neg (fun z => hc z.1)]
theorem rule_loop (N : Nat) : ∀ (m fuel : Nat) (S : St) (y : Int32) (x : Int32), (14 - x.toInt).toNat = m → 0 ≤ x.toInt → x.toInt ≤ 14 → m < fuel →
    ∃ g : Nat → Nat → Int32, (∀ kk : St → Int32 → Option (Int32 × St), g_X10_lane_60 N kk fuel S y x = kk (S.1, g, S.2.2) y) ∧ ∀ c r, g c r = if c = 6 ∧ x.toInt ≤ (r : Int) ∧ r < 14 then -9 else gA S c r := by
  intro m
  induction m with
  | zero =>
    intro fuel S y x hm h1 h2 hf
    obtain ⟨f, rfl⟩ : ∃ f, fuel = f + 1 := ⟨fuel - 1, by omega⟩
    refine ⟨gA S, ?_, fun c r => by rw [if_neg (fun z => by omega)]⟩
    intro kk
    show s_X10_lane_60 N kk _ S y x = _
    unfold s_X10_lane_60
    rw [if_pos (by rw [zle, z14]; omega)]
    rfl
  | succ m ih =>
    intro fuel S y x hm h1 h2 hf
    obtain ⟨f, rfl⟩ : ∃ f, fuel = f + 1 := ⟨fuel - 1, by omega⟩
    have e2 : (x + 1).toInt = x.toInt + 1 := zadd (by rw [z1]; omega) (by rw [z1]; omega)
    have en : (x.toNatClampNeg : Int) = x.toInt := by rw [znat]; omega
    have hS2 := at1 S (c1 := 6) (i := x.toNatClampNeg) (v := -9)
    obtain ⟨g, q1, q2⟩ := ih f (sA S 6 (upd (gA S 6) x.toNatClampNeg (-9))) y (x + 1) (by rw [e2]; omega) (by omega) (by omega) (by omega)
    refine ⟨g, ?_, fun c r => ?_⟩
    · intro kk
      refine Eq.trans ?_ (q1 kk)
      show s_X10_lane_60 N kk _ S y x = _
      unfold s_X10_lane_60
      rw [if_neg (by rw [zle, z14]; omega), if_neg (gok h1 (by omega)), bnd_eq]
    · rw [q2 c r, hS2 c r, e2]
      by_cases hc : c = 6
      · by_cases h : x.toInt + 1 ≤ (r : Int) ∧ r < 14
        · rw [if_pos ⟨hc, h⟩, if_pos ⟨hc, by omega⟩]
        · rw [if_neg (fun z => h z.2)]
          by_cases hr : r = x.toNatClampNeg
          · rw [if_pos ⟨hc, hr⟩, if_pos ⟨hc, by omega⟩]
          · rw [if_neg (fun z => hr z.2), if_neg (fun z => by omega)]
      · rw [if_neg (fun z => hc z.1), if_neg (fun z => hc z.1), if_neg (fun z => hc z.1)]
theorem wind_loop (N : Nat) : ∀ (m fuel : Nat) (S : St) (x : Int32), (24 - x.toInt).toNat = m → 0 ≤ x.toInt → x.toInt ≤ 24 → m < fuel →
    ∃ g : Nat → Nat → Int32, (∀ kk : St → Option St, g_X10_settles_18 N kk fuel S x = kk (S.1, g, S.2.2)) ∧ ∀ c r, g c r = if (c = 2 ∨ c = 3) ∧ x.toInt ≤ (r : Int) ∧ r < 24 then gA S c (24 + r) else gA S c r := by
  intro m
  induction m with
  | zero =>
    intro fuel S x hm h1 h2 hf
    obtain ⟨f, rfl⟩ : ∃ f, fuel = f + 1 := ⟨fuel - 1, by omega⟩
    refine ⟨gA S, ?_, fun c r => by rw [if_neg (fun z => by omega)]⟩
    intro kk
    show s_X10_settles_18 N kk _ S x = _
    unfold s_X10_settles_18
    rw [if_pos (by rw [zle, z24]; omega)]
    rfl
  | succ m ih =>
    intro fuel S x hm h1 h2 hf
    obtain ⟨f, rfl⟩ : ∃ f, fuel = f + 1 := ⟨fuel - 1, by omega⟩
    have e2 : (x + 1).toInt = x.toInt + 1 := zadd (by rw [z1]; omega) (by rw [z1]; omega)
    have en : (x.toNatClampNeg : Int) = x.toInt := by rw [znat]; omega
    have hS2 := at2 S (c1 := 2) (c2 := 3) (i := x.toNatClampNeg) (v := gA S 2 (24 + x.toNatClampNeg)) (w := gA S 3 (24 + x.toNatClampNeg)) (by omega) (fun c => gA S c (24 + x.toNatClampNeg)) rfl rfl
    obtain ⟨i1, i2⟩ := i24 (y := x) ⟨h1, by omega⟩
    obtain ⟨g, q1, q2⟩ := ih f (sA (sA S (2) (upd (gA S (2)) x.toNatClampNeg (gA S 2 (24 + x.toNatClampNeg)))) (3) (upd (gA (sA S (2) (upd (gA S (2)) x.toNatClampNeg (gA S 2 (24 + x.toNatClampNeg)))) (3)) x.toNatClampNeg (gA S 3 (24 + x.toNatClampNeg)))) (x + 1) (by rw [e2]; omega) (by omega) (by omega) (by omega)
    refine ⟨g, ?_, fun c r => ?_⟩
    · intro kk
      refine Eq.trans ?_ (q1 kk)
      show s_X10_settles_18 N kk _ S x = _
      unfold s_X10_settles_18
      rw [if_neg (by rw [zle, z24]; omega), if_neg i2, if_neg (gok h1 (by omega)), bnd_eq, if_neg i2, if_neg (gok h1 (by omega)), bnd_eq, i1]
      rfl
    · rw [q2 c r, e2]
      by_cases hc : (c = 2 ∨ c = 3)
      · by_cases h : x.toInt + 1 ≤ (r : Int) ∧ r < 24
        · rw [if_pos ⟨hc, h⟩, if_pos ⟨hc, by omega⟩, hS2, if_neg (fun z => by omega)]
        · rw [if_neg (fun z => h z.2), hS2]
          by_cases hr : r = x.toNatClampNeg
          · rw [if_pos ⟨hc, hr⟩, if_pos ⟨hc, by omega⟩, hr]
          · rw [if_neg (fun z => hr z.2), if_neg (fun z => by omega)]
      · rw [if_neg (fun z => hc z.1), hS2, if_neg (fun z => hc z.1), if_neg (fun z => hc z.1)]
theorem pace_loop (N : Nat) : ∀ (m fuel : Nat) (S : St) (x : Int32), (3 - x.toInt).toNat = m → 0 ≤ x.toInt → x.toInt ≤ 3 → m < fuel →
    ∃ g : Nat → Nat → Int32, (∀ kk : St → Option St, g_X10_settles_62 N kk fuel S x = kk (S.1, g, S.2.2)) ∧ ∀ c r, g c r = if (c = 4 ∨ c = 5) ∧ x.toInt ≤ (r : Int) ∧ r < 3 then gA S c (3 + r) else gA S c r := by
  intro m
  induction m with
  | zero =>
    intro fuel S x hm h1 h2 hf
    obtain ⟨f, rfl⟩ : ∃ f, fuel = f + 1 := ⟨fuel - 1, by omega⟩
    refine ⟨gA S, ?_, fun c r => by rw [if_neg (fun z => by omega)]⟩
    intro kk
    show s_X10_settles_62 N kk _ S x = _
    unfold s_X10_settles_62
    rw [if_pos (by rw [zle, z3]; omega)]
    rfl
  | succ m ih =>
    intro fuel S x hm h1 h2 hf
    obtain ⟨f, rfl⟩ : ∃ f, fuel = f + 1 := ⟨fuel - 1, by omega⟩
    have e2 : (x + 1).toInt = x.toInt + 1 := zadd (by rw [z1]; omega) (by rw [z1]; omega)
    have en : (x.toNatClampNeg : Int) = x.toInt := by rw [znat]; omega
    have hS2 := at2 S (c1 := 4) (c2 := 5) (i := x.toNatClampNeg) (v := gA S 4 (3 + x.toNatClampNeg)) (w := gA S 5 (3 + x.toNatClampNeg)) (by omega) (fun c => gA S c (3 + x.toNatClampNeg)) rfl rfl
    obtain ⟨i1, i2⟩ := i3 (y := x) ⟨h1, by omega⟩
    obtain ⟨g, q1, q2⟩ := ih f (sA (sA S (4) (upd (gA S (4)) x.toNatClampNeg (gA S 4 (3 + x.toNatClampNeg)))) (5) (upd (gA (sA S (4) (upd (gA S (4)) x.toNatClampNeg (gA S 4 (3 + x.toNatClampNeg)))) (5)) x.toNatClampNeg (gA S 5 (3 + x.toNatClampNeg)))) (x + 1) (by rw [e2]; omega) (by omega) (by omega) (by omega)
    refine ⟨g, ?_, fun c r => ?_⟩
    · intro kk
      refine Eq.trans ?_ (q1 kk)
      show s_X10_settles_62 N kk _ S x = _
      unfold s_X10_settles_62
      rw [if_neg (by rw [zle, z3]; omega), if_neg i2, if_neg (gok h1 (by omega)), bnd_eq, if_neg i2, if_neg (gok h1 (by omega)), bnd_eq, i1]
      rfl
    · rw [q2 c r, e2]
      by_cases hc : (c = 4 ∨ c = 5)
      · by_cases h : x.toInt + 1 ≤ (r : Int) ∧ r < 3
        · rw [if_pos ⟨hc, h⟩, if_pos ⟨hc, by omega⟩, hS2, if_neg (fun z => by omega)]
        · rw [if_neg (fun z => h z.2), hS2]
          by_cases hr : r = x.toNatClampNeg
          · rw [if_pos ⟨hc, hr⟩, if_pos ⟨hc, by omega⟩, hr]
          · rw [if_neg (fun z => hr z.2), if_neg (fun z => by omega)]
      · rw [if_neg (fun z => hc z.1), hS2, if_neg (fun z => hc z.1), if_neg (fun z => hc z.1)]
theorem home_zero (N : Nat) : ∀ (m fuel : Nat) (S : St) (x : Int32), (9 - x.toInt).toNat = m → 0 ≤ x.toInt → x.toInt ≤ 9 → m < fuel →
    ∃ g : Nat → Nat → Int32, (∀ kk : St → Option St, g_X10_settles_191 N kk fuel S x = kk (S.1, g, S.2.2)) ∧ ∀ c r, g c r = if c = 7 ∧ x.toInt ≤ (r : Int) ∧ r < 9 then 0 else gA S c r := by
  intro m
  induction m with
  | zero =>
    intro fuel S x hm h1 h2 hf
    obtain ⟨f, rfl⟩ : ∃ f, fuel = f + 1 := ⟨fuel - 1, by omega⟩
    refine ⟨gA S, ?_, fun c r => by rw [if_neg (fun z => by omega)]⟩
    intro kk
    show s_X10_settles_191 N kk _ S x = _
    unfold s_X10_settles_191
    rw [if_pos (by rw [zle, z9]; omega)]
    rfl
  | succ m ih =>
    intro fuel S x hm h1 h2 hf
    obtain ⟨f, rfl⟩ : ∃ f, fuel = f + 1 := ⟨fuel - 1, by omega⟩
    have e2 : (x + 1).toInt = x.toInt + 1 := zadd (by rw [z1]; omega) (by rw [z1]; omega)
    have en : (x.toNatClampNeg : Int) = x.toInt := by rw [znat]; omega
    have hS2 := at1 S (c1 := 7) (i := x.toNatClampNeg) (v := 0)
    obtain ⟨g, q1, q2⟩ := ih f (sA S 7 (upd (gA S 7) x.toNatClampNeg 0)) (x + 1) (by rw [e2]; omega) (by omega) (by omega) (by omega)
    refine ⟨g, ?_, fun c r => ?_⟩
    · intro kk
      refine Eq.trans ?_ (q1 kk)
      show s_X10_settles_191 N kk _ S x = _
      unfold s_X10_settles_191
      rw [if_neg (by rw [zle, z9]; omega), if_neg (gok h1 (by omega)), bnd_eq]
    · rw [q2 c r, hS2 c r, e2]
      by_cases hc : c = 7
      · by_cases h : x.toInt + 1 ≤ (r : Int) ∧ r < 9
        · rw [if_pos ⟨hc, h⟩, if_pos ⟨hc, by omega⟩]
        · rw [if_neg (fun z => h z.2)]
          by_cases hr : r = x.toNatClampNeg
          · rw [if_pos ⟨hc, hr⟩, if_pos ⟨hc, by omega⟩]
          · rw [if_neg (fun z => hr z.2), if_neg (fun z => by omega)]
      · rw [if_neg (fun z => hc z.1), if_neg (fun z => hc z.1), if_neg (fun z => hc z.1)]
theorem zero_loop (N : Nat) : ∀ (m fuel : Nat) (S : St) (x : Int32), (3 - x.toInt).toNat = m → 0 ≤ x.toInt → x.toInt ≤ 3 → m < fuel →
    ∃ g : Nat → Nat → Int32, (g_X7_begin_2 N 0 fuel S x = some (S.1, g, S.2.2)) ∧ ∀ c r, g c r = if (c = 5 ∨ c = 6 ∨ c = 7) ∧ x.toInt ≤ (r : Int) ∧ r < 3 then 0 else gA S c r := by
  intro m
  induction m with
  | zero =>
    intro fuel S x hm h1 h2 hf
    obtain ⟨f, rfl⟩ : ∃ f, fuel = f + 1 := ⟨fuel - 1, by omega⟩
    refine ⟨gA S, ?_, fun c r => by rw [if_neg (fun z => by omega)]⟩
    show s_X7_begin_2 N 0 _ S x = _
    unfold s_X7_begin_2
    rw [if_pos (by rw [zle, z3]; omega)]
    rfl
  | succ m ih =>
    intro fuel S x hm h1 h2 hf
    obtain ⟨f, rfl⟩ : ∃ f, fuel = f + 1 := ⟨fuel - 1, by omega⟩
    have e2 : (x + 1).toInt = x.toInt + 1 := zadd (by rw [z1]; omega) (by rw [z1]; omega)
    have en : (x.toNatClampNeg : Int) = x.toInt := by rw [znat]; omega
    have hS2 : ∀ c r, gA (putR S 0 x.toNatClampNeg 0 0 0) c r = if (c = 5 ∨ c = 6 ∨ c = 7) ∧ r = x.toNatClampNeg then 0 else gA S c r := fun c r => by
      rw [gA_put]
      by_cases er : r = x.toNatClampNeg
      · by_cases c7 : c = 7
        · rw [if_pos c7, if_pos ⟨Or.inr (Or.inr c7), er⟩, er, upd_at]
        rw [if_neg c7]
        by_cases c6 : c = 6
        · rw [if_pos c6, if_pos ⟨Or.inr (Or.inl c6), er⟩, er, upd_at]
        rw [if_neg c6]
        by_cases c5 : c = 5
        · rw [if_pos c5, if_pos ⟨Or.inl c5, er⟩, er, upd_at]
        rw [if_neg c5, if_neg (fun z => by omega)]
      · rw [if_neg (fun z : (c = 5 ∨ c = 6 ∨ c = 7) ∧ r = x.toNatClampNeg => er z.2)]
        by_cases c7 : c = 7
        · rw [if_pos c7, upd_off er, c7]
        rw [if_neg c7]
        by_cases c6 : c = 6
        · rw [if_pos c6, upd_off er, c6]
        rw [if_neg c6]
        by_cases c5 : c = 5
        · rw [if_pos c5, upd_off er, c5]
        rw [if_neg c5]
    obtain ⟨g, q1, q2⟩ := ih f (putR S 0 x.toNatClampNeg 0 0 0) (x + 1) (by rw [e2]; omega) (by omega) (by omega) (by omega)
    refine ⟨g, ?_, fun c r => ?_⟩
    · refine Eq.trans ?_ q1
      show s_X7_begin_2 N 0 _ S x = _
      unfold s_X7_begin_2
      rw [if_neg (by rw [zle, z3]; omega), cPut h1 (by omega), bs]
    · rw [q2 c r, hS2 c r, e2]
      by_cases hc : (c = 5 ∨ c = 6 ∨ c = 7)
      · by_cases h : x.toInt + 1 ≤ (r : Int) ∧ r < 3
        · rw [if_pos ⟨hc, h⟩, if_pos ⟨hc, by omega⟩]
        · rw [if_neg (fun z => h z.2)]
          by_cases hr : r = x.toNatClampNeg
          · rw [if_pos ⟨hc, hr⟩, if_pos ⟨hc, by omega⟩]
          · rw [if_neg (fun z => hr z.2), if_neg (fun z => by omega)]
      · rw [if_neg (fun z => hc z.1), if_neg (fun z => hc z.1), if_neg (fun z => hc z.1)]
-- FILE 48i.lane.lean.txt
/-! lane -/
abbrev dn (r d : Int32) : Int32 := if r = -9 then d else r
/-- what the reference has when all is told anew -/
theorem settles188 {N : Nat} (hN : 1000 ≤ N) (T : St) (v : Int32) : ∃ T', f_X10_settles_188 N T 6 v = some T' ∧ (∀ k, ¬ (k = 3 ∨ k = 22 ∨ k = 24) → gI T' 0 k = gI T 0 k) ∧ (gI T' 0 3 = 0 ∧ gI T' 0 22 = 0 ∧ gI T' 0 24 = 0) ∧ gJ T' = gJ T ∧ (∀ c, ¬ (c = 6 ∨ c = 7 ∨ c = 9) → gA T' c = gA T c) ∧
    (∀ r, gA T' 6 r = if r = 6 then v else gA T 6 r) ∧ (∀ r, gA T' 7 r = if r < 9 then 0 else gA T 7 r) ∧ gA T' 9 0 = 0 ∧ gA T' 9 1 = 0 := by
  unfold f_X10_settles_188
  rw [if_neg (by decide), bnd_eq, show (6 : Int32).toNatClampNeg = 6 by decide]
  obtain ⟨g, q1, q2⟩ := home_zero N 9 N (sA T 6 (upd (gA T 6) 6 v)) 0 (by decide) (by decide) (by decide) (by omega)
  rw [q1]
  rw [bnd_eq, bnd_eq, bnd_eq, if_neg (by decide), bnd_eq, if_neg (by decide), bnd_eq]
  have h := at1 T (c1 := 6) (i := 6) (v := v)
  refine ⟨_, rfl, fun k hk => ?_, ⟨?_, ?_, ?_⟩, rfl, fun c hc => ?_, fun r => ?_, fun r => ?_, ?_, ?_⟩
  · show gI (sI (sI (sI _ 0 3 0) 0 22 0) 0 24 0) 0 k = _
    rw [gI_off (by omega), gI_off (by omega), gI_off (by omega)]; rfl
  · rfl
  · rfl
  · rfl
  · show gA (sA (sA _ 9 _) 9 _) c = _
    rw [gA_off (by omega), gA_off (by omega)]
    show g c = _
    funext r
    rw [q2, if_neg (by omega), h, if_neg (by omega)]
  · show gA (sA (sA _ 9 _) 9 _) 6 r = _
    rw [gA_off (by omega), gA_off (by omega)]
    show g 6 r = _
    rw [q2, if_neg (by omega), h]
    exact ite_iff ⟨fun z => z.2, fun z => ⟨rfl, z⟩⟩ _ _
  · show gA (sA (sA _ 9 _) 9 _) 7 r = _
    rw [gA_off (by omega), gA_off (by omega)]
    show g 7 r = _
    rw [q2, h, if_neg (show ¬ (7 = 6 ∧ r = 6) by omega)]
    exact ite_iff ⟨fun z => z.2.2, fun z => ⟨rfl, by rw [z0]; omega, z⟩⟩ _ _
  · rfl
  · rfl
theorem settles129 {N : Nat} (hN : 1000 ≤ N) (T : St) (v : Int32) : ∃ T', f_X10_settles_129 N T 4 v = some T' ∧ (∀ k, ¬ (k = 3 ∨ k = 22 ∨ k = 24) → gI T' 0 k = gI T 0 k) ∧ (gI T' 0 3 = 0 ∧ gI T' 0 22 = 0 ∧ gI T' 0 24 = 0) ∧ gJ T' = gJ T ∧ (∀ c, ¬ (c = 6 ∨ c = 7 ∨ c = 9) → gA T' c = gA T c) ∧
    (gA T' 6 4 = v ∧ gA T' 6 5 = dn (gA T 6 12) 3 ∧ gA T' 6 6 = dn (gA T 6 13) 3) ∧ (∀ r, gA T' 7 r = if r < 9 then 0 else gA T 7 r) ∧ gA T' 9 0 = 0 ∧ gA T' 9 1 = 0 := by
  have h4 := at1 T (c1 := 6) (i := 4) (v := v)
  generalize hA : sA T 6 (upd (gA T 6) 4 v) = TA at h4
  have h5 := at1 TA (c1 := 6) (i := 5) (v := dn (gA T 6 12) 3)
  generalize hB : sA TA 6 (upd (gA TA 6) 5 (dn (gA T 6 12) 3)) = TB at h5
  have iA : ∀ k, gI TA 0 k = gI T 0 k := fun k => by rw [← hA]; rfl
  have iB : ∀ k, gI TB 0 k = gI T 0 k := fun k => by rw [← hB]; exact iA k
  have aB : ∀ c, c ≠ 6 → gA TB c = gA T c := fun c hc => by
    funext r
    rw [h5, if_neg (fun z => hc z.1), h4, if_neg (fun z => hc z.1)]
  have jB : gJ TB = gJ T := by rw [← hB, ← hA]; rfl
  obtain ⟨T', q1, q2, q3, q4, q5, q6, q7, q8, q9⟩ := settles188 hN TB (dn (gA T 6 13) 3)
  refine ⟨T', ?_, fun k hk => by rw [q2 k hk, iB], q3, by rw [q4, jB], fun c hc => by rw [q5 c hc, aB c (by omega)], ⟨?_, ?_, ?_⟩, fun r => by rw [q7, aB 7 (by omega)], q8, q9⟩
  · rw [← q1]
    have c12 : gA TA 6 12 = gA T 6 12 := by rw [h4, if_neg (by omega)]
    have c13 : gA TB 6 13 = gA T 6 13 := by rw [h5, if_neg (by omega), h4, if_neg (by omega)]
    have w158 : f_X10_settles_158 N TA 5 (dn (gA T 6 12) 3) = f_X10_settles_188 N TB 6 (dn (gA T 6 13) 3) := by
      unfold f_X10_settles_158
      have gd : ¬ ((13 : Int32) < 0 ∨ 14 ≤ (13 : Int32).toNatClampNeg) := by decide
      rw [if_neg (by decide), bnd_eq, show (5 : Int32).toNatClampNeg = 5 by decide, hB, if_neg gd, if_neg gd, show (13 : Int32).toNatClampNeg = 13 by decide, c13]
      unfold dn
      by_cases c : gA T 6 13 = -9
      · rw [if_pos c, if_pos c]
      · rw [if_neg c, if_neg c]
    rw [← w158]
    unfold f_X10_settles_129
    have gd : ¬ ((12 : Int32) < 0 ∨ 14 ≤ (12 : Int32).toNatClampNeg) := by decide
    rw [if_neg (by decide), bnd_eq, show (4 : Int32).toNatClampNeg = 4 by decide, hA, if_neg gd, if_neg gd, show (12 : Int32).toNatClampNeg = 12 by decide, c12]
    unfold dn
    by_cases c : gA T 6 12 = -9
    · rw [if_pos c, if_pos c]
    · rw [if_neg c, if_neg c]
  · rw [q6, if_neg (by omega), h5, if_neg (by omega), h4, if_pos ⟨rfl, rfl⟩]
  · rw [q6, if_neg (by omega), h5, if_pos ⟨rfl, rfl⟩]
  · rw [q6, if_pos rfl]
theorem mSettles {N : Nat} (hN : 1000 ≤ N) (T : St) : ∃ T', f_X10_settles N T = some T' ∧ gI T' 0 14 = gI T 0 16 ∧ gI T' 0 15 = gI T 0 17 ∧ (gI T' 0 3 = 0 ∧ gI T' 0 22 = 0 ∧ gI T' 0 24 = 0) ∧ gJ T' = gJ T ∧
    (∀ k : Nat, k < 24 → gA T' 2 k = gA T 2 (24 + k) ∧ gA T' 3 k = gA T 3 (24 + k)) ∧ (∀ k : Nat, k < 3 → gA T' 4 k = gA T 4 (3 + k) ∧ gA T' 5 k = gA T 5 (3 + k)) ∧
    (gA T' 6 4 = dn (gA T 6 11) 2 ∧ gA T' 6 5 = dn (gA T 6 12) 3 ∧ gA T' 6 6 = dn (gA T 6 13) 3) ∧ (∀ r, gA T' 7 r = if r < 9 then 0 else gA T 7 r) ∧ gA T' 9 0 = 0 ∧ gA T' 9 1 = 0 := by
  generalize hA : sI (sI T 0 14 (gI T 0 16)) 0 15 (gI T 0 17) = TA
  have i14 : gI TA 0 14 = gI T 0 16 := by rw [← hA]; rfl
  have i15 : gI TA 0 15 = gI T 0 17 := by rw [← hA]; rfl
  have aA : gA TA = gA T := by rw [← hA]; rfl
  have jA : gJ TA = gJ T := by rw [← hA]; rfl
  obtain ⟨g1, q1, q2⟩ := wind_loop N 24 N TA 0 (by decide) (by decide) (by decide) (by omega)
  obtain ⟨g2, p1, p2⟩ := pace_loop N 3 N (TA.1, g1, TA.2.2) 0 (by decide) (by decide) (by decide) (by omega)
  have p2 : ∀ c r, g2 c r = if (c = 4 ∨ c = 5) ∧ (0 : Int32).toInt ≤ (r : Int) ∧ r < 3 then g1 c (3 + r) else g1 c r := p2
  obtain ⟨T', t1, t2, t3, t4, t5, t6, t7, t8, t9⟩ := settles129 hN (TA.1, g2, TA.2.2) (dn (g2 6 11) 2)
  have g6 : ∀ r, g2 6 r = gA T 6 r := fun r => by rw [p2, if_neg (by omega), q2, if_neg (by omega), aA]
  have t5 : ∀ c, ¬ (c = 6 ∨ c = 7 ∨ c = 9) → gA T' c = g2 c := t5
  refine ⟨T', ?_, (t2 14 (by omega)).trans i14, (t2 15 (by omega)).trans i15, t3, t4.trans jA, fun k hk => ?_, fun k hk => ?_, ?_, fun r => ?_, t8, t9⟩
  · unfold f_X10_settles
    have e17 : gI (sI T 0 14 (gI T 0 16)) 0 17 = gI T 0 17 := rfl
    rw [bnd_eq, e17, hA, bnd_eq, q1]
    rw [p1]
    have gd : ¬ ((11 : Int32) < 0 ∨ 14 ≤ (11 : Int32).toNatClampNeg) := by decide
    rw [if_neg gd, if_neg gd, show (11 : Int32).toNatClampNeg = 11 by decide, ← t1]
    show (if g2 6 11 = -9 then _ else f_X10_settles_129 N (TA.1, g2, TA.2.2) 4 (g2 6 11)) = _
    unfold dn
    by_cases c : g2 6 11 = -9
    · rw [if_pos c, if_pos c]
    · rw [if_neg c, if_neg c]
  · rw [t5 2 (by omega), t5 3 (by omega), p2, p2, if_neg (by omega), if_neg (by omega), q2, q2, if_pos ⟨Or.inl rfl, by rw [z0]; omega, hk⟩, if_pos ⟨Or.inr rfl, by rw [z0]; omega, hk⟩, aA]
    exact ⟨rfl, rfl⟩
  · rw [t5 4 (by omega), t5 5 (by omega), p2, p2, if_pos ⟨Or.inl rfl, by rw [z0]; omega, hk⟩, if_pos ⟨Or.inr rfl, by rw [z0]; omega, hk⟩, q2, q2, if_neg (by omega), if_neg (by omega), aA]
    exact ⟨rfl, rfl⟩
  · obtain ⟨u1, u2, u3⟩ := t6
    exact ⟨by rw [u1, g6], u2.trans (by show dn (g2 6 12) 3 = _; rw [g6]), u3.trans (by show dn (g2 6 13) 3 = _; rw [g6])⟩
  · have g7 : g2 7 r = gA T 7 r := by rw [p2, if_neg (by omega), q2, if_neg (by omega), aA]
    rw [t7, ← g7]
    rfl
theorem RU.fin {a r d : Int32} {D m : Int} (h : RU a r D m) (hd : d.toInt = D) : a = dn r d ∧ (a.toInt = D ∨ 1 ≤ a.toInt ∧ a.toInt ≤ m) := by
  unfold dn
  rcases h with ⟨h1, h2⟩ | ⟨h1, h2, h3⟩
  · rw [if_pos h1]
    exact ⟨toI h2 hd, Or.inl h2⟩
  · rw [if_neg (not9 h1), h3]
    exact ⟨rfl, Or.inr ⟨h1, h2⟩⟩
set_option maxHeartbeats 1000000 in
theorem p_lane {n N : Nat} (hN : 100000 ≤ N) (hn : n < 1000) {S T : St} (h : Inv n S T) : Step n (f_X9_lane N S) (f_X10_lane N T) := by
  have hN1 : 1000 ≤ N := by omega
  obtain ⟨⟨b1, b2, b3, b4⟩, ⟨hsp, hlb⟩, hR, hI, hA, hP, hJ⟩ := id h
  have hj : (gSp S).toNat < 2 := Bool.toNat_lt _
  have hj2 : (!gCo S).toNat = (gSp S).toNat := by rw [hsp]
  generalize hjj : (gSp S).toNat = j at hj hj2
  -- the class: its spare lane begun
  obtain ⟨g, q1, q2⟩ := begin_loop N j 24 N S 0 (by decide) (by decide) (by decide) (by omega)
  let C1 : St := (S.1, g, S.2.2)
  let C2 := sI (sI (sI (sI (sI C1 (33 + 5 * j) 4 12) (33 + 5 * j) 5 0) (33 + 5 * j) 6 2) (33 + 5 * j) 7 3) (33 + 5 * j) 8 3
  let C3 := sI (sI C2 3 1 0) 3 5 0
  have smC : Sm S C3 (ciD j) (caD j) := by
    have s1 : Sm S C1 (ciD j) (caD j) := ⟨fun _ _ _ => rfl, fun c hc => by show g c = _; funext r; rw [q2, if_neg (by omega)], rfl, rfl, rfl, rfl⟩
    exact ((((((s1.tr (Sm.sI _ _ (by omega))).tr (Sm.sI _ _ (by omega))).tr (Sm.sI _ _ (by omega))).tr (Sm.sI _ _ (by omega))).tr (Sm.sI _ _ (by omega))).tr (Sm.sI _ _ (by omega))).tr (Sm.sI _ _ (by omega))
  have cl : f_X6_readInto N S j = g_X6_readInto_16 N j N C3 0 := by
    unfold f_X6_readInto f_X3_begin
    rw [q1]
    unfold f_X3_begin_40
    rw [bnd_eq, bnd_eq, bnd_eq, bnd_eq, bnd_eq, bs, bnd_eq, bnd_eq]
  -- the reference
  let M1 := sI (sI (sI (sI (sI T 0 0 0) 0 8 (-1)) 0 4 0) 0 16 12) 0 17 0
  obtain ⟨g1, r1, r2⟩ := draft_loop N 24 N M1 0 24 (by decide) (by decide) (by decide) (by omega)
  obtain ⟨g2, s1, s2⟩ := rule_loop N 7 N (M1.1, g1, M1.2.2) 0 7 (by decide) (by decide) (by decide) (by omega)
  let M3 : St := (M1.1, g2, M1.2.2)
  have s2 : ∀ c r, g2 c r = if c = 6 ∧ (7 : Int32).toInt ≤ (r : Int) ∧ r < 14 then -9 else g1 c r := s2
  have r2 : ∀ c r, g1 c r = if (c = 2 ∨ c = 3) ∧ (24 : Int32).toInt ≤ (r : Int) ∧ r < 48 then 0 else gA T c r := r2
  have aM : ∀ c r, ¬ ((c = 2 ∨ c = 3) ∧ 24 ≤ r ∨ c = 6 ∧ 7 ≤ r) → gA M3 c r = gA T c r := fun c r hc => by
    show g2 c r = _
    rw [s2, if_neg (by rw [z7]; omega), r2, if_neg (by rw [z24]; omega)]
  have ml : f_X10_lane N T = (f_X10_advances N M3).bind fun r18 => g_X10_lane_84 N (fun S32 y31 => f_X10_lane_160 N S32 y31) N r18 0 := by
    unfold f_X10_lane
    rw [bnd_eq, bnd_eq, bnd_eq, bnd_eq, bnd_eq, r1]
    rw [s1]
  -- the text
  have hb : Tb (gA T 1) (gI T 0 3) := ⟨by rw [← b1]; exact b2, by rw [← b1]; exact b3, fun k hk => by
    obtain ⟨w1, w2, w3⟩ := b4 k (by rw [b1]; exact hk)
    rw [← w1]; exact ⟨w2, w3⟩⟩
  have cS : cTx S (gA T 1) (gI T 0 3) := ⟨b1, fun k hk => (b4 k (by rw [b1]; exact hk)).1⟩
  have cC : cTx C3 (gA T 1) (gI T 0 3) := cS.sm smC (by omega) (by omega)
  have mM : mTx M3 (gA T 1) (gI T 0 3) := ⟨rfl, by funext r; exact aM 1 r (by omega)⟩
  obtain ⟨q, st, kd, v, u1, u2, u3, u4, u5, u6⟩ := l_tok hb hN1 0 (by decide) (by rw [z0]; exact hb.1)
  obtain ⟨T0, t1, t2, t3, t4, t5⟩ := u5 M3 mM rfl
  have mT0 := mM.sm t2 (by omega) id
  have J : Jt N (gA T 1) (gI T 0 3) C3 T0 0 := ⟨cC, mT0, rfl, ⟨by decide, by rw [z0]; exact hb.1⟩, (t2.1 0 8 (by omega)).trans rfl, q, st, kd, v, ⟨u1, u2, u3, u4⟩, t3, t4, t5, u6⟩
  have D0 : Dr j C3 M3 := by
    have i : ∀ k, 4 ≤ k → k ≤ 8 → gI C3 (33 + 5 * j) k = gI C2 (33 + 5 * j) k := fun k _ _ => by
      show gI (sI (sI C2 3 1 0) 3 5 0) _ k = _
      rw [gI_off (by omega), gI_off (by omega)]
    have a : gA C3 = g := rfl
    have d2 : ∀ k : Nat, k < 24 → g2 2 (24 + k) = 0 ∧ g2 3 (24 + k) = 0 := fun k hk => by
      rw [s2, s2, if_neg (by omega), if_neg (by omega), r2, r2, if_pos ⟨Or.inl rfl, by rw [z24]; omega, by omega⟩, if_pos ⟨Or.inr rfl, by rw [z24]; omega, by omega⟩]
      exact ⟨rfl, rfl⟩
    have d6 : ∀ k : Nat, 7 ≤ k → k < 14 → gA M3 6 k = -9 := fun k k1 k2 => by
      show g2 6 k = _
      rw [s2, if_pos ⟨rfl, by rw [z7]; omega, k2⟩]
    have y4 : gI C2 (33 + 5 * j) 4 = 12 := by
      show gI (sI (sI (sI (sI (sI C1 _ 4 12) _ 5 0) _ 6 2) _ 7 3) _ 8 3) _ 4 = _
      rw [gI_off (by omega), gI_off (by omega), gI_off (by omega), gI_off (by omega), gI_sI, if_pos rfl, if_pos rfl]
    have y5 : gI C2 (33 + 5 * j) 5 = 0 := by
      show gI (sI (sI (sI (sI (sI C1 _ 4 12) _ 5 0) _ 6 2) _ 7 3) _ 8 3) _ 5 = _
      rw [gI_off (by omega), gI_off (by omega), gI_off (by omega), gI_sI, if_pos rfl, if_pos rfl]
    have y6 : gI C2 (33 + 5 * j) 6 = 2 := by
      show gI (sI (sI (sI (sI (sI C1 _ 4 12) _ 5 0) _ 6 2) _ 7 3) _ 8 3) _ 6 = _
      rw [gI_off (by omega), gI_off (by omega), gI_sI, if_pos rfl, if_pos rfl]
    have y7 : gI C2 (33 + 5 * j) 7 = 3 := by
      show gI (sI (sI (sI (sI (sI C1 _ 4 12) _ 5 0) _ 6 2) _ 7 3) _ 8 3) _ 7 = _
      rw [gI_off (by omega), gI_sI, if_pos rfl, if_pos rfl]
    have y8 : gI C2 (33 + 5 * j) 8 = 3 := by
      show gI (sI (sI (sI (sI (sI C1 _ 4 12) _ 5 0) _ 6 2) _ 7 3) _ 8 3) _ 8 = _
      rw [gI_sI, if_pos rfl, if_pos rfl]
    have m16 : gI M3 0 16 = 12 := rfl
    have m17 : gI M3 0 17 = 0 := rfl
    have c5 : gI C3 3 5 = 0 := rfl
    refine ⟨⟨by rw [i 4 (by omega) (by omega), y4, m16], by rw [m16]; decide, by rw [m16]; decide⟩, ⟨by rw [i 5 (by omega) (by omega), y5, m17], by rw [m17]; decide, by rw [m17]; decide⟩, fun k hk => ?_, fun k hk => ?_, fun k hk => ?_, ⟨Or.inl ⟨d6 11 (by omega) (by omega), by rw [i 6 (by omega) (by omega), y6]; decide⟩, Or.inl ⟨d6 12 (by omega) (by omega), by rw [i 7 (by omega) (by omega), y7]; decide⟩, Or.inl ⟨d6 13 (by omega) (by omega), by rw [i 8 (by omega) (by omega), y8]; decide⟩⟩, ?_, ?_, ?_⟩
    · show g (34 + 5 * j) k = g2 2 (24 + k) ∧ 0 ≤ (g2 2 (24 + k)).toInt ∧ (g2 2 (24 + k)).toInt ≤ 3
      rw [(d2 k hk).1, q2, if_pos ⟨Or.inl rfl, by rw [z0]; omega, hk⟩]; decide
    · show g (35 + 5 * j) k = g2 3 (24 + k) ∧ (g2 3 (24 + k) = 0 ∨ g2 3 (24 + k) = 1)
      rw [(d2 k hk).2, q2, if_pos ⟨Or.inr rfl, by rw [z0]; omega, hk⟩]; decide
    · rw [m17, z0] at hk; omega
    · rw [c5, d6 11 (by omega) (by omega)]; decide
    · rw [c5, d6 12 (by omega) (by omega)]; decide
    · rw [c5, d6 13 (by omega) (by omega)]; decide
  have D : Dr j C3 T0 := D0.sm hj (Sm.rf _ _ _) (t2.wk (fun c k z => by omega) (fun _ z => z))
  obtain ⟨S', T', x', v1, v2, v3, v4⟩ := l_loop hN1 hb hj (fun S32 y31 => f_X10_lane_160 N S32 y31) 301 C3 T0 0 0 N N (by rw [z0]; have := hb.2.1; omega) J D (by decide) (by decide) (by omega) (by omega)
  rw [ml, t1, bs, v3]
  show Step n _ (f_X10_lane_160 N T' x')
  have smS : Sm S S' (ciD j) (caD j) := smC.tr v1
  have iT : ∀ c k, ¬ (c = 0 ∧ (k = 0 ∨ 4 ≤ k ∧ k ≤ 8 ∨ k = 16 ∨ k = 17)) → gI T' c k = gI T c k := fun c k hk => by
    rw [v2.1 c k (by omega), t2.1 c k (by omega)]
    show gI (sI (sI (sI (sI (sI T 0 0 0) 0 8 (-1)) 0 4 0) 0 16 12) 0 17 0) c k = _
    rw [gI_off (by omega), gI_off (by omega), gI_off (by omega), gI_off (by omega), gI_off (by omega)]
  have aT : ∀ c r, ¬ ((c = 2 ∨ c = 3) ∧ 24 ≤ r ∨ (c = 4 ∨ c = 5) ∧ 3 ≤ r ∨ c = 6 ∧ 7 ≤ r) → gA T' c r = gA T c r := fun c r hc => by
    rw [v2.2.1 c r hc, t2.2.1 c id, aM c r (by omega)]
  have jT : gJ T' = gJ T := by rw [v2.2.2, t2.2.2.1]; rfl
  unfold f_X9_lane f_X10_lane_160
  rw [hjj, cl]
  rcases v4 with ⟨w1, w2, w3⟩ | ⟨w1, w2, w3, w4⟩
  · -- a fault: nothing changes
    have hd : 0 ≤ (gI T' 0 8).toInt := by rw [w2]; exact w3
    refine ⟨-10 - gI S' 3 2, S', T', ?_, ?_, ?_⟩
    · rw [w1, bs]
      refine (if_pos rfl).trans ?_
      rfl
    · rw [isWell0 hd, bs, if_pos rfl, w2]
    · refine h.mono.sc ⟨fun c k hk => smS.1 c k (fun z => hk (by rw [hj2]; omega)), fun c hc => smS.2.1 c (fun z => hc (by rw [hj2]; omega)), smS.2.2.1, smS.2.2.2.2.1, smS.2.2.2.2.2⟩ ⟨fun c k hk => iT c k (fun z => hk (by omega)), fun c r hc => aT c r (fun z => hc (by omega)), jT⟩ ?_
      exact h.mono.2.2.2.2.1.congr (smS.1 18 4 (by omega)) (fun c hc hc2 => smS.2.1 c (by omega)) (iT 0 22 (by omega)) (by funext r; exact aT 10 r (by omega)) (iT 0 14 (by omega))
  · obtain ⟨T2, m1, m2, m3, m4, m5, m6, m7, m8, m9, m10, m11⟩ := mSettles hN1 T'
    let E1 := sI (sSp (sCo S' (gSp S')) (gCo S')) 1 1 0
    obtain ⟨g3, e1, e2⟩ := zero_loop N 3 N E1 0 (by decide) (by decide) (by decide) (by omega)
    let E2 : St := (E1.1, g3, E1.2.2)
    let E3 := sI (sI (sI (sI E2 18 4 0) 23 2 0) (8 + 5 * 0) 1 0) (8 + 5 * 1) 1 0
    have hgS : gSp S' = gSp S := smS.2.2.2.2.2
    have hgC : gCo S' = gCo S := smS.2.2.2.2.1
    have cE : gCo E3 = gSp S := hgS
    have sE : gSp E3 = gCo S := hgC
    have e2 : ∀ c r, g3 c r = if (c = 5 ∨ c = 6 ∨ c = 7) ∧ (0 : Int32).toInt ≤ (r : Int) ∧ r < 3 then 0 else gA S' c r := e2
    have aE : ∀ c, ¬ (c = 5 ∨ c = 6 ∨ c = 7) → gA E3 c = gA S' c := fun c hc => by
      show g3 c = _
      funext r
      rw [e2, if_neg (fun z => hc z.1)]
    have iE : ∀ c k, ¬ (c = 1 ∧ k = 1 ∨ c = 18 ∧ k = 4 ∨ c = 23 ∧ k = 2 ∨ (c = 8 ∨ c = 13) ∧ k = 1) → gI E3 c k = gI S' c k := fun c k hk => by
      show gI (sI (sI (sI (sI E2 18 4 0) 23 2 0) (8 + 5 * 0) 1 0) (8 + 5 * 1) 1 0) c k = _
      rw [gI_off (by omega), gI_off (by omega), gI_off (by omega), gI_off (by omega)]
      show gI (sI (sSp (sCo S' (gSp S')) (gCo S')) 1 1 0) c k = _
      rw [gI_off (by omega)]; rfl
    refine ⟨x', E3, T2, ?_, ?_, ?_, ⟨?_, ?_⟩, ?_, ?_, ?_, ?_, ?_⟩
    · rw [w1, bs]
      refine (if_neg (fun z => ?_)).trans ?_
      · have z : x' = -1 := z
        rw [z] at w2; exact absurd w2 (by decide)
      · rw [bnd_eq, bnd_eq, bnd_eq]
        unfold f_X7_begin
        show (g_X7_begin_2 N 0 N E1 0).bind _ = _
        rw [e1, bs, bnd_eq, bnd_eq, bnd_eq, bnd_eq]
    · rw [isWell1 w3, bs, if_neg one_ne, m1, bs]
    · have z : gI E3 1 1 = 0 := by
        show gI (sI (sI (sI (sI E2 18 4 0) 23 2 0) (8 + 5 * 0) 1 0) (8 + 5 * 1) 1 0) 1 1 = _
        rw [gI_off (by omega), gI_off (by omega), gI_off (by omega), gI_off (by omega)]; rfl
      rw [IvT, z, m4.1]
      exact ⟨rfl, by decide, by decide, fun k hk => by rw [z0] at hk; omega⟩
    · rw [sE, cE, hsp, Bool.not_not]
    · rw [cE, hjj]
      obtain ⟨d1, d2, d3, d4, d5, ⟨d6, d7, d8⟩, -⟩ := w4
      have i : ∀ k, gI E3 (33 + 5 * j) k = gI S' (33 + 5 * j) k := fun k => iE _ _ (by omega)
      obtain ⟨n6, o6⟩ := d6.fin (d := 2) (by decide)
      obtain ⟨n7, o7⟩ := d7.fin (d := 3) (by decide)
      obtain ⟨n8, o8⟩ := d8.fin (d := 3) (by decide)
      refine ⟨⟨by rw [i, m2]; exact d1.1, by rw [i, m3]; exact d2.1, by rw [i, m8.1]; exact n6, by rw [i, m8.2.1]; exact n7, by rw [i, m8.2.2]; exact n8⟩, ?_, fun k hk => ?_, fun k hk => ?_, fun k hk => ?_, fun k hk => ?_⟩
      · rw [m2, m3, m8.1, m8.2.1, m8.2.2, ← n6, ← n7, ← n8]
        omega
      · rw [aE _ (by omega), (m6 k hk).1]
        show gA S' (33 + 5 * j + 1) k = _ ∧ _
        rw [show 33 + 5 * j + 1 = 34 + 5 * j by omega]
        exact d3 k hk
      · rw [aE _ (by omega), (m6 k hk).2, show 33 + 5 * j + 2 = 35 + 5 * j by omega]
        exact d4 k hk
      · rw [m3] at hk
        rw [aE _ (by omega), (m7 k (by omega)).1, show 33 + 5 * j + 3 = 36 + 5 * j by omega]
        exact (d5 k hk).1
      · rw [m3] at hk
        rw [aE _ (by omega), (m7 k (by omega)).2, show 33 + 5 * j + 4 = 37 + 5 * j by omega]
        exact (d5 k hk).2
    · refine ⟨fun r hr => ?_, ?_⟩
      · have a0 : ∀ c, (c = 5 ∨ c = 6 ∨ c = 7) → gA E3 c r = 0 := fun c hc => by
          show g3 c r = 0
          rw [e2, if_pos ⟨hc, by rw [z0]; omega, hr⟩]
        have b0 : ∀ q, q < 9 → gA T2 7 q = 0 := fun q hq => by rw [m9, if_pos hq]
        have y0 : 0 ≤ (gI T2 0 14).toInt := by rw [m2]; have := w4.1.2; omega
        rw [a0 5 (by omega), a0 6 (by omega), a0 7 (by omega), b0 _ (by omega), b0 _ (by omega), b0 _ (by omega), z0]
        refine ⟨rfl, rfl, rfl, ?_⟩
        omega
      · rw [iE 4 3 (by omega), smS.1 4 3 (by omega), m9, if_neg (by omega), aT 7 9 (by omega)]
        exact hR.2
    · intro i hi
      have z : gI E3 (8 + 5 * i) 1 = 0 := by
        show gI (sI (sI (sI (sI E2 18 4 0) 23 2 0) (8 + 5 * 0) 1 0) (8 + 5 * 1) 1 0) (8 + 5 * i) 1 = _
        rcases (show i = 0 ∨ i = 1 by omega) with rfl | rfl <;> rfl
      have zt : gA T2 9 i = 0 := by
        rcases (show i = 0 ∨ i = 1 by omega) with rfl | rfl
        · exact m10
        · exact m11
      rw [z, zt]
      exact ⟨rfl, Or.inl rfl, fun q => absurd q (by decide)⟩
    · have z : gI E3 18 4 = 0 := rfl
      rw [IvA, z, m4.2.1]
      exact ⟨rfl, by decide, by decide, fun k hk => by rw [z0] at hk; omega⟩
    · have z : gI E3 23 2 = 0 := rfl
      rw [IvP, z, m4.2.2]
      exact ⟨rfl, by decide, by decide, fun k hk => by rw [z0] at hk; omega⟩
    · show gJ S' 0 11 = _
      rw [smS.2.2.1, m5, jT]
      exact hJ
