/-! undo, home, keep, back, rate -/
theorem undo_copy (N : Nat) (a b : Int32) (ha : 0 ≤ a.toInt ∧ a.toInt < 3) (hb : 0 ≤ b.toInt ∧ b.toInt ≤ 36) : ∀ (m fuel : Nat) (T : St) (x : Int32), (3 - x.toInt).toNat = m → 0 ≤ x.toInt → x.toInt ≤ 3 → m < fuel → gA T 10 b.toNatClampNeg = a →
    ∃ T', g_X10_undo_34 N fuel T b x = some (gI T 0 22, T') ∧ Sm T T' (fun _ _ => False) (fun c => c = 7) ∧ ∀ j : Nat, gA T' 7 j = if 3 * a.toInt + x.toInt ≤ j ∧ (j : Int) < 3 * a.toInt + 3 then gA T 10 (b.toNatClampNeg + 1 + (j - 3 * a.toNatClampNeg)) else gA T 7 j := by
  intro m
  induction m with
  | zero =>
    intro fuel T x hm h1 h2 hf hT
    obtain ⟨f, rfl⟩ : ∃ f, fuel = f + 1 := ⟨fuel - 1, by omega⟩
    refine ⟨T, ?_, Sm.rf _ _ _, fun j => by rw [if_neg (by omega)]⟩
    show s_X10_undo_34 N _ T b x = _
    unfold s_X10_undo_34
    rw [if_pos (by rw [zle, z3]; omega)]
  | succ m ih =>
    intro fuel T x hm h1 h2 hf hT
    obtain ⟨f, rfl⟩ : ∃ f, fuel = f + 1 := ⟨fuel - 1, by omega⟩
    have e0 : ((3 : Int32) * a).toInt = 3 * a.toInt := mul3 ha.1 (by omega)
    have e1 : ((3 : Int32) * a + x).toInt = 3 * a.toInt + x.toInt := by rw [zadd (by rw [e0]; omega) (by rw [e0]; omega), e0]
    have e3 : (b + 1).toInt = b.toInt + 1 := by rw [zadd (by rw [z1]; omega) (by rw [z1]; omega), z1]
    have e4 : (b + 1 + x).toInt = b.toInt + 1 + x.toInt := by rw [zadd (by rw [e3]; omega) (by rw [e3]; omega), e3]
    have e2 : (x + 1).toInt = x.toInt + 1 := zadd (by rw [z1]; omega) (by rw [z1]; omega)
    have g0 : ¬ (b < 0 ∨ 40 ≤ b.toNatClampNeg) := gok (by omega) (by omega)
    have ga : ¬ ((3 : Int32) * a + x < 0 ∨ 10 ≤ ((3 : Int32) * a + x).toNatClampNeg) := gok (by omega) (by omega)
    have gb : ¬ (b + 1 + x < 0 ∨ 40 ≤ (b + 1 + x).toNatClampNeg) := gok (by omega) (by omega)
    obtain ⟨T', q1, q2, q3⟩ := ih f (sA T 7 (upd (gA T 7) ((3 : Int32) * a + x).toNatClampNeg (gA T 10 (b + 1 + x).toNatClampNeg))) (x + 1) (by rw [e2]; omega) (by omega) (by omega) (by omega) hT
    refine ⟨T', ?_, (Sm.sA T _ (ci := fun _ _ => False) (ca := fun c => c = 7) rfl).tr q2, fun j => ?_⟩
    · rw [← show gI (sA T 7 (upd (gA T 7) ((3 : Int32) * a + x).toNatClampNeg (gA T 10 (b + 1 + x).toNatClampNeg))) 0 22 = gI T 0 22 from rfl, ← q1]
      show s_X10_undo_34 N _ T b x = _
      unfold s_X10_undo_34
      rw [if_neg (by rw [zle, z3]; omega)]
      simp only [bnd_eq, if_neg g0, if_neg gb, hT, if_neg ga]
    · rw [q3 j, e2]
      have hz : gA (sA T 7 (upd (gA T 7) ((3 : Int32) * a + x).toNatClampNeg (gA T 10 (b + 1 + x).toNatClampNeg))) 7 = upd (gA T 7) ((3 : Int32) * a + x).toNatClampNeg (gA T 10 (b + 1 + x).toNatClampNeg) := rfl
      have hz7 : gA (sA T 7 (upd (gA T 7) ((3 : Int32) * a + x).toNatClampNeg (gA T 10 (b + 1 + x).toNatClampNeg))) 10 = gA T 10 := rfl
      rw [hz, hz7]
      simp only [upd, znat, e1, e4]
      by_cases h3 : 3 * a.toInt + (x.toInt + 1) ≤ (j : Int) ∧ (j : Int) < 3 * a.toInt + 3
      · rw [if_pos h3, if_pos (by omega)]
      · rw [if_neg h3]
        by_cases h4 : j = (3 * a.toInt + x.toInt).toNat
        · rw [if_pos h4, if_pos (by omega)]
          congr 1; omega
        · rw [if_neg h4, if_neg (by omega)]
theorem p_undo {n N : Nat} (hN : 100 ≤ N) {S T : St} (h : Inv n S T) : Step n (f_X9_undo S) (f_X10_undo N T) := by
  obtain ⟨a1, a2, a3, a4⟩ := h.2.2.2.2.1
  have hg := h.2.1.2.2.1
  unfold f_X9_undo f_X10_undo
  rw [bnd_eq, a1]
  have e22 : gI (sI T 0 0 0) 0 22 = gI T 0 22 := rfl
  rw [e22]
  by_cases h0 : gI T 0 22 = 0
  · rw [if_pos h0, if_pos h0]; exact ⟨-2, S, _, rfl, rfl, h.mono.thrown 0⟩
  · rw [if_neg h0, if_neg h0, bnd_eq, bnd_eq]
    rw [zeq, z0] at h0
    generalize hk : gI T 0 22 - 1 = k
    have ek : k.toInt = (gI T 0 22).toInt - 1 := by rw [← hk, zsub (by rw [z1]; omega) (by rw [z1]; omega), z1]
    have f22 : gI (sI (sI T 0 0 0) 0 22 k) 0 22 = k := rfl
    have e4 : ((4 : Int32) * k).toInt = 4 * k.toInt := mul4 (by omega) (by omega)
    have n4 : ((4 : Int32) * k).toNatClampNeg = 4 * k.toNatClampNeg := by rw [znat, znat, e4]; omega
    rw [f22]
    obtain ⟨r1, r2, r3, r4, r5, r6, r7, r8, r9, r10, r11, r12⟩ := a4 k.toNatClampNeg (by rw [znat]; omega)
    have gk : ¬ (k < 0 ∨ 10 ≤ k.toNatClampNeg) := gok (by omega) (by omega)
    obtain ⟨T2, q1, q2, q3⟩ := undo_copy N (gA S 19 k.toNatClampNeg) ((4 : Int32) * k) ⟨r5, by omega⟩ ⟨by omega, by omega⟩ 3 N (sI (sI T 0 0 0) 0 22 k) 0 (by decide) (by decide) (by decide) (by omega) (by rw [n4]; exact r1.symm)
    rw [q1, f22]
    unfold f_X0_takeBackLast
    rw [a1, if_neg (by rw [zle, z0]; omega), if_neg (by rw [zlt, z10]; omega), bnd_eq, hk]
    have s18 : gI (sI S 18 4 k) 18 4 = k := rfl
    rw [s18, if_neg gk, if_neg gk, if_neg gk, if_neg gk, cPut (show 0 ≤ (gA (sI S 18 4 k) 19 k.toNatClampNeg).toInt from r5) (show (gA (sI S 18 4 k) 19 k.toNatClampNeg).toInt < 3 by have : (gA (sI S 18 4 k) 19 k.toNatClampNeg).toInt ≤ 2 := r6; omega), bs, bs]
    have ro : ∀ c, gA (sI S 18 4 k) c = gA S c := fun _ => rfl
    rw [ro, ro, ro, ro]
    refine ⟨k, _, T2, rfl, rfl, ?_⟩
    have z18 : (18 : Nat) = 18 ∧ (4 : Nat) = 4 := ⟨rfl, rfl⟩
    have hz : (gA S 19 k.toNatClampNeg).toNatClampNeg = (gA S 19 k.toNatClampNeg).toInt.toNat := rfl
    refine Inv.act (S1 := sI S 18 4 k) (T1 := sI (sI T 0 0 0) 0 22 k) (k := (gA S 19 k.toNatClampNeg).toNatClampNeg) (y := gA S 20 k.toNatClampNeg) (b := gA S 21 k.toNatClampNeg) (g := gA S 22 k.toNatClampNeg) (lot := gI S 4 3) h (Sm.sI S k z18) ?_ ?_ ⟨r7, r8⟩ ⟨r9, by omega⟩ ⟨r11, by omega⟩ ?_ (fun c' => gA_put c') ⟨rfl, rfl, rfl⟩ (fun c' j _ => q2.1 c' j id) (fun c' hc => q2.2.1 c' hc) ?_ ?_ q2.2.2.1
    · exact ⟨fun c k' q => by rw [gI_off (by omega), gI_off (by omega)], fun _ _ _ => rfl, rfl⟩
    · have e14 : gI (sI (sI T 0 0 0) 0 22 k) 0 14 = gI T 0 14 := rfl
      refine ⟨rfl, by rw [f22]; omega, by rw [f22]; omega, fun j hj => ?_⟩
      rw [f22] at hj
      exact a4 j (by omega)
    · funext c j
      show gI (sI S 18 4 k) c j = _
      rw [gI_sI (sI S 18 4 k) 4 3]
      by_cases c4 : c = 4
      · subst c4
        rw [if_pos rfl]
        by_cases j3 : j = 3
        · subst j3; rw [if_pos rfl]; rfl
        · rw [if_neg j3]
      · rw [if_neg c4]
    · intro j hj
      rw [q3 j, z0, n4]
      have t10 : gA (sI (sI T 0 0 0) 0 22 k) 10 = gA T 10 := rfl
      rw [t10]
      by_cases d0 : j = 3 * (gA S 19 k.toNatClampNeg).toNatClampNeg
      · rw [if_pos d0, if_pos (by omega), r2]; congr 1; omega
      · rw [if_neg d0]
        by_cases d1 : j = 3 * (gA S 19 k.toNatClampNeg).toNatClampNeg + 1
        · rw [if_pos d1, if_pos (by omega), r3]; congr 1; omega
        · rw [if_neg d1]
          by_cases d2 : j = 3 * (gA S 19 k.toNatClampNeg).toNatClampNeg + 2
          · rw [if_pos d2, if_pos (by omega), r4]; congr 1; omega
          · rw [if_neg d2, if_neg (by omega)]
    · rw [q3 9, z0, if_neg (by omega)]
      exact h.2.2.1.2.symm
theorem home_loop {n N : Nat} {S T : St} (h : Inv n S T) (a1 : Int32) (kk : St → Int32 → Int32 → Option (Int32 × St)) : ∀ (m f1 f2 f3 : Nat) (x bits first few : Int32), ((gI T 0 15).toInt - x.toInt).toNat = m → 0 ≤ x.toInt → x.toInt ≤ (gI T 0 15).toInt → m < f1 → m < f2 → m < f3 →
    (first = -9 ∨ ((0 ≤ first.toInt ∧ first.toInt < 3) ∧ few = gA T 7 (3 * first.toNatClampNeg + 1))) →
    ∃ b f, g_X9_homeBits_4 N S f1 bits x = some b ∧ g_X9_firstHome_7 N S f2 first few x = some f ∧ g_X10_home_13 N a1 kk f3 T bits first x = kk T b f := by
  have hL := h.2.1.2
  have hg := hL.2.1
  intro m
  induction m with
  | zero =>
    intro f1 f2 f3 x bits first few hm h1 h2 k1 k2 k3 hf
    obtain ⟨f1, rfl⟩ : ∃ f, f1 = f + 1 := ⟨f1 - 1, by omega⟩
    obtain ⟨f2, rfl⟩ : ∃ f, f2 = f + 1 := ⟨f2 - 1, by omega⟩
    obtain ⟨f3, rfl⟩ : ∃ f, f3 = f + 1 := ⟨f3 - 1, by omega⟩
    refine ⟨bits, first, ?_, ?_, ?_⟩
    · show s_X9_homeBits_4 N S _ bits x = _
      unfold s_X9_homeBits_4
      rw [hL.1.2.1, if_pos (by rw [zle]; omega)]
    · show s_X9_firstHome_7 N S _ first few x = _
      unfold s_X9_firstHome_7
      rw [hL.1.2.1, if_pos (by rw [zle]; omega)]
    · show s_X10_home_13 N a1 kk _ T bits first x = _
      unfold s_X10_home_13
      rw [if_pos (by rw [zle]; omega)]
  | succ m ih =>
    intro f1 f2 f3 x bits first few hm h1 h2 k1 k2 k3 hf
    obtain ⟨f1, rfl⟩ : ∃ f, f1 = f + 1 := ⟨f1 - 1, by omega⟩
    obtain ⟨f2, rfl⟩ : ∃ f, f2 = f + 1 := ⟨f2 - 1, by omega⟩
    obtain ⟨f3, rfl⟩ : ∃ f, f3 = f + 1 := ⟨f3 - 1, by omega⟩
    have hx : 0 ≤ x.toInt ∧ x.toInt < 3 := by omega
    have e2 : (x + 1).toInt = x.toInt + 1 := zadd (by rw [z1]; omega) (by rw [z1]; omega)
    obtain ⟨m3, m4⟩ := h3r1 hx
    obtain ⟨r1, r2, r3, r4, r5, r6, r7, r8, r9⟩ := h.2.2.1.1 x.toNatClampNeg (by rw [znat]; omega)
    rw [Nat.zero_add] at r1 r2 r3
    have un1 : g_X9_homeBits_4 N S (f1 + 1) bits x = s_X9_homeBits_4 N S (g_X9_homeBits_4 N S f1) bits x := rfl
    have un2 : g_X9_firstHome_7 N S (f2 + 1) first few x = s_X9_firstHome_7 N S (g_X9_firstHome_7 N S f2) first few x := rfl
    have un3 : g_X10_home_13 N a1 kk (f3 + 1) T bits first x = s_X10_home_13 N a1 kk (g_X10_home_13 N a1 kk f3) T bits first x := rfl
    rw [un1, un2, un3]
    unfold s_X9_homeBits_4 s_X9_firstHome_7 s_X10_home_13 f_X9_firstHome_44
    have le : ¬ gI T 0 15 ≤ x := by rw [zle]; omega
    rw [hL.1.2.1, if_neg le, if_neg le, if_neg le, cIsHome h.2.1 h.2.2.1 hx, bs, bs, mIsHome hx, bs, if10, if10, if10, cBeatsOf (i := 0) hx.1 hx.2, bs, bs, bnd_eq, bnd_eq]
    by_cases q : isH T x
    · rw [if_pos q, if_pos q, if_pos q]
      have r2' : gA S (6 + 5 * 0) x.toNatClampNeg = gA T 7 (3 * x.toNatClampNeg + 1) := r2
      rw [r2']
      by_cases q9 : first = -9
      · rw [if_pos q9, if_pos q9]
        exact ih f1 f2 f3 (x + 1) _ x _ (by rw [e2]; omega) (by omega) (by omega) (by omega) (by omega) (by omega) (Or.inr ⟨hx, rfl⟩)
      · rw [if_neg q9, if_neg q9]
        obtain ⟨hfi, hfe⟩ := hf.resolve_left q9
        obtain ⟨w3, w4⟩ := h3r1 hfi
        rw [if_neg (gok (by omega) (by omega)), if_neg (gok (by omega) (by omega)), m4, w4, hfe]
        by_cases c : gA T 7 (3 * first.toNatClampNeg + 1) ≤ gA T 7 (3 * x.toNatClampNeg + 1)
        · rw [if_pos c, if_pos c]
          exact ih f1 f2 f3 (x + 1) _ first _ (by rw [e2]; omega) (by omega) (by omega) (by omega) (by omega) (by omega) (Or.inr ⟨hfi, rfl⟩)
        · rw [if_neg c, if_neg c]
          exact ih f1 f2 f3 (x + 1) _ x _ (by rw [e2]; omega) (by omega) (by omega) (by omega) (by omega) (by omega) (Or.inr ⟨hx, rfl⟩)
    · rw [if_neg q, if_neg q, if_neg q]
      exact ih f1 f2 f3 (x + 1) _ first few (by rw [e2]; omega) (by omega) (by omega) (by omega) (by omega) (by omega) hf
theorem p_home {n N : Nat} (hN : 100 ≤ N) {S T : St} (h : Inv n S T) (a : Int32) : ∃ (v : Int32) (S' T' : St), f_X9_home N S a = some v ∧ f_X10_home N T a = some (v, T') ∧ S' = S ∧ Inv (n + 1) S' T' := by
  have hg := h.2.1.2.2.1
  have hI := h.mono.thrown 0
  unfold f_X9_home f_X10_home
  rw [bnd_eq, cIsB, bs, if10]
  have e15 : gI (sI T 0 0 0) 0 15 = gI T 0 15 := rfl
  have hlt : ((gI (sI T 0 0 0) 0 15).toInt - (0 : Int32).toInt).toNat < N := by rw [e15, z0]; omega
  obtain ⟨b, f, e1, e2, e3⟩ := home_loop (N := N) (h.thrown 0) a (fun S12 y10 y11 => if a = 0 then (some (y10, S12)) else (if a = (1 : Int32) then (some (y11, S12)) else (some ((-1 : Int32), S12)))) _ N N N 0 0 (-9) 0 rfl (by decide) (by rw [z0]; exact hg.2.2.1) hlt hlt hlt (Or.inl rfl)
  rw [e3]
  unfold f_X9_homeBits f_X9_firstHome
  rw [e1, e2, bs, bs]
  by_cases hb : isB a
  · rw [if_pos hb]
    by_cases a0 : a = 0
    · rw [if_pos a0, if_pos a0]; exact ⟨b, S, _, rfl, rfl, rfl, hI⟩
    · rw [if_neg a0, if_neg a0]
      rw [zeq, z0] at a0
      rw [if_pos (by rw [zeq, z1]; omega)]; exact ⟨f, S, _, rfl, rfl, rfl, hI⟩
  · rw [if_neg hb, if_neg (by rw [zeq, z0]; omega), if_neg (by rw [zeq, z1]; omega)]
    exact ⟨-1, S, _, rfl, rfl, rfl, hI⟩
/-- the bits of who is home, and how many: by runners seen -/
def homeTab : List (Int32 × Int32 × Int32) := [(0,0,0),(1,0,0),(1,1,1),(2,0,0),(2,1,1),(2,2,1),(2,3,2),(3,0,0),(3,1,1),(3,2,1),(3,3,2),(3,4,1),(3,5,2),(3,6,2),(3,7,3)]
theorem homeTab_go0 : ∀ p ∈ homeTab, p.1.toInt < 3 → (p.1 + 1, p.2.1, p.2.2 + 0) ∈ homeTab ∧ (p.1 + 1, p.2.1 ||| ((1 : Int32) <<< (p.1 &&& 31)), p.2.2 + 1) ∈ homeTab := by decide
theorem homeTab_bits0 : ∀ p ∈ homeTab, f_J6_bitCount_0f7a4 p.2.1 = some p.2.2 := by decide
theorem homeTab_go (x b c : Int32) (h : (x, b, c) ∈ homeTab) (hx : x.toInt < 3) : (x + 1, b, c + 0) ∈ homeTab ∧ (x + 1, b ||| ((1 : Int32) <<< (x &&& 31)), c + 1) ∈ homeTab := by
  have := homeTab_go0 (x, b, c) h
  dsimp only at this
  exact this hx
theorem homeTab_bits (x b c : Int32) (h : (x, b, c) ∈ homeTab) : f_J6_bitCount_0f7a4 b = some c := by
  have := homeTab_bits0 (x, b, c) h
  dsimp only at this
  exact this
theorem many_loop {n N : Nat} {S T : St} (h : Inv n S T) : ∀ (m f1 f2 : Nat) (x bits cnt : Int32), ((gI T 0 15).toInt - x.toInt).toNat = m → 0 ≤ x.toInt → x.toInt ≤ (gI T 0 15).toInt → m < f1 → m < f2 → (x, bits, cnt) ∈ homeTab →
    ∃ b v, g_X9_homeBits_4 N S f1 bits x = some b ∧ g_X10_manyHome_4 N T f2 cnt x = some v ∧ f_J6_bitCount_0f7a4 b = some v := by
  have hL := h.2.1.2
  have hg := hL.2.1
  intro m
  induction m with
  | zero =>
    intro f1 f2 x bits cnt hm h1 h2 k1 k2 hf
    obtain ⟨f1, rfl⟩ : ∃ f, f1 = f + 1 := ⟨f1 - 1, by omega⟩
    obtain ⟨f2, rfl⟩ : ∃ f, f2 = f + 1 := ⟨f2 - 1, by omega⟩
    refine ⟨bits, cnt, ?_, ?_, homeTab_bits x bits cnt hf⟩
    · show s_X9_homeBits_4 N S _ bits x = _
      unfold s_X9_homeBits_4
      rw [hL.1.2.1, if_pos (by rw [zle]; omega)]
    · show s_X10_manyHome_4 N T _ cnt x = _
      unfold s_X10_manyHome_4
      rw [if_pos (by rw [zle]; omega)]
  | succ m ih =>
    intro f1 f2 x bits cnt hm h1 h2 k1 k2 hf
    obtain ⟨f1, rfl⟩ : ∃ f, f1 = f + 1 := ⟨f1 - 1, by omega⟩
    obtain ⟨f2, rfl⟩ : ∃ f, f2 = f + 1 := ⟨f2 - 1, by omega⟩
    have hx : 0 ≤ x.toInt ∧ x.toInt < 3 := by omega
    have e2 : (x + 1).toInt = x.toInt + 1 := zadd (by rw [z1]; omega) (by rw [z1]; omega)
    have un1 : g_X9_homeBits_4 N S (f1 + 1) bits x = s_X9_homeBits_4 N S (g_X9_homeBits_4 N S f1) bits x := rfl
    have un2 : g_X10_manyHome_4 N T (f2 + 1) cnt x = s_X10_manyHome_4 N T (g_X10_manyHome_4 N T f2) cnt x := rfl
    rw [un1, un2]
    unfold s_X9_homeBits_4 s_X10_manyHome_4
    have le : ¬ gI T 0 15 ≤ x := by rw [zle]; omega
    obtain ⟨t1, t2⟩ := homeTab_go x bits cnt hf hx.2
    rw [hL.1.2.1, if_neg le, if_neg le, cIsHome h.2.1 h.2.2.1 hx, bs, mIsHome hx, bs, if10, if10, bnd_eq, bnd_eq, bnd_eq]
    by_cases q : isH T x
    · rw [if_pos q, if_pos q]
      exact ih f1 f2 (x + 1) _ _ (by rw [e2]; omega) (by omega) (by omega) (by omega) (by omega) t2
    · rw [if_neg q, if_neg q]
      exact ih f1 f2 (x + 1) _ _ (by rw [e2]; omega) (by omega) (by omega) (by omega) (by omega) t1
theorem bothMany {n N : Nat} (hN : 100 ≤ N) {S T : St} (h : Inv n S T) : ∃ b v, f_X9_homeBits N S = some b ∧ f_X10_manyHome N T = some v ∧ f_J6_bitCount_0f7a4 b = some v := by
  have hg := h.2.1.2.2.1
  exact many_loop h _ N N 0 0 0 rfl (by decide) (by rw [z0]; omega) (by rw [z0]; omega) (by rw [z0]; omega) (by decide)
theorem copy_loop (N i j : Nat) (hij : i ≠ j) (kk : St → Option St) : ∀ (m fuel : Nat) (S : St) (x : Int32), (3 - x.toInt).toNat = m → 0 ≤ x.toInt → x.toInt ≤ 3 → m < fuel →
    ∃ S', g_X7_copyFrom_2 N i j kk fuel S x = kk S' ∧ Sm S S' (fun _ _ => False) (fun c => c = 5 + 5 * i ∨ c = 6 + 5 * i ∨ c = 7 + 5 * i) ∧
      ∀ r : Nat, (x.toInt ≤ r ∧ r < 3 → gA S' (5 + 5 * i) r = gA S (5 + 5 * j) r ∧ gA S' (6 + 5 * i) r = gA S (6 + 5 * j) r ∧ gA S' (7 + 5 * i) r = gA S (7 + 5 * j) r) ∧ (¬ (x.toInt ≤ r ∧ r < 3) → gA S' (5 + 5 * i) r = gA S (5 + 5 * i) r ∧ gA S' (6 + 5 * i) r = gA S (6 + 5 * i) r ∧ gA S' (7 + 5 * i) r = gA S (7 + 5 * i) r) := by
  intro m
  induction m with
  | zero =>
    intro fuel S x hm h1 h2 hf
    obtain ⟨f, rfl⟩ : ∃ f, fuel = f + 1 := ⟨fuel - 1, by omega⟩
    refine ⟨S, ?_, Sm.rf _ _ _, fun r => ⟨fun q => by omega, fun _ => ⟨rfl, rfl, rfl⟩⟩⟩
    show s_X7_copyFrom_2 N i j kk _ S x = _
    unfold s_X7_copyFrom_2
    rw [if_pos (by rw [zle, z3]; omega)]
  | succ m ih =>
    intro fuel S x hm h1 h2 hf
    obtain ⟨f, rfl⟩ : ∃ f, fuel = f + 1 := ⟨fuel - 1, by omega⟩
    have e2 : (x + 1).toInt = x.toInt + 1 := zadd (by rw [z1]; omega) (by rw [z1]; omega)
    have hx : 0 ≤ x.toInt ∧ x.toInt < 3 := by omega
    let S1 := putR S i x.toNatClampNeg (gA S (5 + 5 * j) x.toNatClampNeg) (gA S (6 + 5 * j) x.toNatClampNeg) (gA S (7 + 5 * j) x.toNatClampNeg)
    obtain ⟨S', q1, q2, q3⟩ := ih f S1 (x + 1) (by rw [e2]; omega) (by omega) (by omega) (by omega)
    have v5 : gA S1 (5 + 5 * i) = upd (gA S (5 + 5 * i)) x.toNatClampNeg (gA S (5 + 5 * j) x.toNatClampNeg) := by
      show gA (putR _ _ _ _ _ _) _ = _
      unfold putR
      simp only [gA_sA]
      rw [if_neg (by omega), if_neg (by omega)]; rfl
    have v6 : gA S1 (6 + 5 * i) = upd (gA S (6 + 5 * i)) x.toNatClampNeg (gA S (6 + 5 * j) x.toNatClampNeg) := by
      show gA (putR _ _ _ _ _ _) _ = _
      unfold putR
      simp only [gA_sA]
      rw [if_neg (by omega)]; rfl
    have v7 : gA S1 (7 + 5 * i) = upd (gA S (7 + 5 * i)) x.toNatClampNeg (gA S (7 + 5 * j) x.toNatClampNeg) := by
      show gA (putR _ _ _ _ _ _) _ = _
      unfold putR
      simp only [gA_sA]
      rfl
    have vo : ∀ c, ¬ (c = 5 + 5 * i ∨ c = 6 + 5 * i ∨ c = 7 + 5 * i) → gA S1 c = gA S c := by
      intro c hc
      show gA (putR _ _ _ _ _ _) c = _
      unfold putR
      rw [gA_off (by omega), gA_off (by omega), gA_off (by omega)]
    have sm1 : Sm S S1 (fun _ _ => False) (fun c => c = 5 + 5 * i ∨ c = 6 + 5 * i ∨ c = 7 + 5 * i) := ⟨fun _ _ _ => rfl, vo, rfl, rfl, rfl, rfl⟩
    refine ⟨S', ?_, sm1.tr q2, fun r => ?_⟩
    · rw [← q1]
      show s_X7_copyFrom_2 N i j kk _ S x = _
      unfold s_X7_copyFrom_2
      rw [if_neg (by rw [zle, z3]; omega), cYardOf hx.1 hx.2, bs, cBeatsOf hx.1 hx.2, bs, cGoodOf hx.1 hx.2, bs, cPut hx.1 hx.2, bs]
    · obtain ⟨w1, w2⟩ := q3 r
      rw [e2] at w1 w2
      rw [vo (5 + 5 * j) (by omega), vo (6 + 5 * j) (by omega), vo (7 + 5 * j) (by omega)] at w1
      rw [v5, v6, v7] at w2
      simp only [upd] at w2
      refine ⟨fun hr => ?_, fun hr => ?_⟩
      · by_cases c : x.toInt + 1 ≤ r ∧ r < 3
        · exact w1 c
        · have e : r = x.toNatClampNeg := by rw [znat]; omega
          have w := w2 c
          simp only [if_pos e] at w
          rw [← e] at w
          exact w
      · have w := w2 (by omega)
        simp only [if_neg (show ¬ r = x.toNatClampNeg by rw [znat]; omega)] at w
        exact w
theorem cCopy {N : Nat} (hN : 100 ≤ N) (S : St) {i j : Nat} (hij : i ≠ j) : ∃ S', f_X7_copyFrom N S i j = some S' ∧ Sm S S' (fun c k => c = 4 + 5 * i ∧ k = 3) (fun c => c = 5 + 5 * i ∨ c = 6 + 5 * i ∨ c = 7 + 5 * i) ∧ gI S' (4 + 5 * i) 3 = gI S (4 + 5 * j) 3 ∧
      ∀ r : Nat, r < 3 → gA S' (5 + 5 * i) r = gA S (5 + 5 * j) r ∧ gA S' (6 + 5 * i) r = gA S (6 + 5 * j) r ∧ gA S' (7 + 5 * i) r = gA S (7 + 5 * j) r := by
  unfold f_X7_copyFrom
  obtain ⟨S', q1, q2, q3⟩ := copy_loop N i j hij (fun S6 => bnd (sI S6 (4 + 5 * i) 3 (gI S6 (4 + 5 * j) 3)) fun S7 => some S7) 3 N S 0 (by decide) (by decide) (by decide) (by omega)
  rw [q1, bnd_eq]
  refine ⟨_, rfl, (q2.wk (ci' := fun c k => c = 4 + 5 * i ∧ k = 3) (ca' := fun c => c = 5 + 5 * i ∨ c = 6 + 5 * i ∨ c = 7 + 5 * i) (fun _ _ z => z.elim) (fun _ z => z)).tr (Sm.sI S' _ ⟨rfl, rfl⟩), ?_, fun r hr => (q3 r).1 ⟨by rw [z0]; omega, hr⟩⟩
  rw [gI_sI, if_pos rfl, if_pos rfl, q2.1 _ _ id]
theorem keep_copy (N : Nat) (a : Int32) (ha : 0 ≤ a.toInt ∧ a.toInt ≤ 1) (kk : St → Option (Int32 × St)) : ∀ (m fuel : Nat) (T : St) (x : Int32), (10 - x.toInt).toNat = m → 0 ≤ x.toInt → x.toInt ≤ 10 → m < fuel →
    ∃ T', g_X10_keep_18 N a kk fuel T x = kk T' ∧ Sm T T' (fun _ _ => False) (fun c => c = 8) ∧ ∀ j : Nat, gA T' 8 j = if 10 * a.toInt + x.toInt ≤ j ∧ (j : Int) < 10 * a.toInt + 10 then gA T 7 (j - 10 * a.toNatClampNeg) else gA T 8 j := by
  intro m
  induction m with
  | zero =>
    intro fuel T x hm h1 h2 hf
    obtain ⟨f, rfl⟩ : ∃ f, fuel = f + 1 := ⟨fuel - 1, by omega⟩
    refine ⟨T, ?_, Sm.rf _ _ _, fun j => by rw [if_neg (by omega)]⟩
    show s_X10_keep_18 N a kk _ T x = _
    unfold s_X10_keep_18
    rw [if_pos (by rw [zle, z10]; omega)]
  | succ m ih =>
    intro fuel T x hm h1 h2 hf
    obtain ⟨f, rfl⟩ : ∃ f, fuel = f + 1 := ⟨fuel - 1, by omega⟩
    have e0 : ((10 : Int32) * a).toInt = 10 * a.toInt := zcmul z10 (by omega) (by omega)
    have e1 : ((10 : Int32) * a + x).toInt = 10 * a.toInt + x.toInt := by rw [zadd (by rw [e0]; omega) (by rw [e0]; omega), e0]
    have e2 : (x + 1).toInt = x.toInt + 1 := zadd (by rw [z1]; omega) (by rw [z1]; omega)
    have g0 : ¬ (x < 0 ∨ 10 ≤ x.toNatClampNeg) := gok (by omega) (by omega)
    have ga : ¬ ((10 : Int32) * a + x < 0 ∨ 20 ≤ ((10 : Int32) * a + x).toNatClampNeg) := gok (by omega) (by omega)
    obtain ⟨T', q1, q2, q3⟩ := ih f (sA T 8 (upd (gA T 8) ((10 : Int32) * a + x).toNatClampNeg (gA T 7 x.toNatClampNeg))) (x + 1) (by rw [e2]; omega) (by omega) (by omega) (by omega)
    refine ⟨T', ?_, (Sm.sA T _ (ci := fun _ _ => False) (ca := fun c => c = 8) rfl).tr q2, fun j => ?_⟩
    · rw [← q1]
      show s_X10_keep_18 N a kk _ T x = _
      unfold s_X10_keep_18
      rw [if_neg (by rw [zle, z10]; omega)]
      simp only [bnd_eq, if_neg g0, if_neg ga]
    · rw [q3 j, e2]
      have hz : gA (sA T 8 (upd (gA T 8) ((10 : Int32) * a + x).toNatClampNeg (gA T 7 x.toNatClampNeg))) 8 = upd (gA T 8) ((10 : Int32) * a + x).toNatClampNeg (gA T 7 x.toNatClampNeg) := rfl
      have hz7 : gA (sA T 8 (upd (gA T 8) ((10 : Int32) * a + x).toNatClampNeg (gA T 7 x.toNatClampNeg))) 7 = gA T 7 := rfl
      rw [hz, hz7]
      simp only [upd, znat, e1]
      by_cases h3 : 10 * a.toInt + (x.toInt + 1) ≤ (j : Int) ∧ (j : Int) < 10 * a.toInt + 10
      · rw [if_pos h3, if_pos (by omega)]
      · rw [if_neg h3]
        by_cases h4 : j = (10 * a.toInt + x.toInt).toNat
        · rw [if_pos h4, if_pos (by omega)]
          congr 1; omega
        · rw [if_neg h4, if_neg (by omega)]
theorem back_copy (N : Nat) (a : Int32) (ha : 0 ≤ a.toInt ∧ a.toInt ≤ 1) (kk : St → Option (Int32 × St)) : ∀ (m fuel : Nat) (T : St) (x : Int32), (10 - x.toInt).toNat = m → 0 ≤ x.toInt → x.toInt ≤ 10 → m < fuel →
    ∃ T', g_X10_back_30 N a kk fuel T x = kk T' ∧ Sm T T' (fun _ _ => False) (fun c => c = 7) ∧ ∀ j : Nat, gA T' 7 j = if x.toInt ≤ j ∧ (j : Int) < 10 then gA T 8 (10 * a.toNatClampNeg + j) else gA T 7 j := by
  intro m
  induction m with
  | zero =>
    intro fuel T x hm h1 h2 hf
    obtain ⟨f, rfl⟩ : ∃ f, fuel = f + 1 := ⟨fuel - 1, by omega⟩
    refine ⟨T, ?_, Sm.rf _ _ _, fun j => by rw [if_neg (by omega)]⟩
    show s_X10_back_30 N a kk _ T x = _
    unfold s_X10_back_30
    rw [if_pos (by rw [zle, z10]; omega)]
  | succ m ih =>
    intro fuel T x hm h1 h2 hf
    obtain ⟨f, rfl⟩ : ∃ f, fuel = f + 1 := ⟨fuel - 1, by omega⟩
    have e0 : ((10 : Int32) * a).toInt = 10 * a.toInt := zcmul z10 (by omega) (by omega)
    have e1 : ((10 : Int32) * a + x).toInt = 10 * a.toInt + x.toInt := by rw [zadd (by rw [e0]; omega) (by rw [e0]; omega), e0]
    have e2 : (x + 1).toInt = x.toInt + 1 := zadd (by rw [z1]; omega) (by rw [z1]; omega)
    have g0 : ¬ (x < 0 ∨ 10 ≤ x.toNatClampNeg) := gok (by omega) (by omega)
    have ga : ¬ ((10 : Int32) * a + x < 0 ∨ 20 ≤ ((10 : Int32) * a + x).toNatClampNeg) := gok (by omega) (by omega)
    obtain ⟨T', q1, q2, q3⟩ := ih f (sA T 7 (upd (gA T 7) x.toNatClampNeg (gA T 8 ((10 : Int32) * a + x).toNatClampNeg))) (x + 1) (by rw [e2]; omega) (by omega) (by omega) (by omega)
    refine ⟨T', ?_, (Sm.sA T _ (ci := fun _ _ => False) (ca := fun c => c = 7) rfl).tr q2, fun j => ?_⟩
    · rw [← q1]
      show s_X10_back_30 N a kk _ T x = _
      unfold s_X10_back_30
      rw [if_neg (by rw [zle, z10]; omega)]
      simp only [bnd_eq, if_neg g0, if_neg ga]
    · rw [q3 j, e2]
      have hz : gA (sA T 7 (upd (gA T 7) x.toNatClampNeg (gA T 8 ((10 : Int32) * a + x).toNatClampNeg))) 7 = upd (gA T 7) x.toNatClampNeg (gA T 8 ((10 : Int32) * a + x).toNatClampNeg) := rfl
      have hz7 : gA (sA T 7 (upd (gA T 7) x.toNatClampNeg (gA T 8 ((10 : Int32) * a + x).toNatClampNeg))) 8 = gA T 8 := rfl
      rw [hz, hz7]
      simp only [upd, znat, e1]
      by_cases h3 : x.toInt + 1 ≤ (j : Int) ∧ (j : Int) < 10
      · rw [if_pos h3, if_pos (by omega)]
      · rw [if_neg h3]
        by_cases h4 : j = x.toInt.toNat
        · rw [if_pos h4, if_pos (by omega)]
          congr 1; omega
        · rw [if_neg h4, if_neg (by omega)]
theorem p_keep {n N : Nat} (hN : 100 ≤ N) {S T : St} (h : Inv n S T) (a : Int32) : Step n (f_X9_keep N S a) (f_X10_keep N T a) := by
  unfold f_X9_keep f_X10_keep
  rw [cIsB, bs, if10, bnd_eq, in_eq, bs, if10, z0, z1]
  by_cases hb : isB a
  · rw [if_pos hb, if_pos hb]
    have hn : a.toNatClampNeg < 2 := by rw [znat]; omega
    have hi : f_X9_imageOf S a = some a.toNatClampNeg := by
      unfold f_X9_imageOf
      by_cases a0 : a = 0
      · subst a0; rfl
      · rw [if_neg a0]; rw [zeq, z0] at a0; congr 1; rw [znat]; omega
    rw [hi, bs, if_neg (by omega)]
    obtain ⟨S5, p1, p2, p3, p4⟩ := cCopy hN S (i := a.toNatClampNeg + 1) (j := 0) (by omega)
    obtain ⟨T8, q1, q2, q3⟩ := keep_copy N a hb (fun S8 => if (a < 0 ∨ 2 ≤ a.toNatClampNeg) then none else bnd (sA S8 9 (upd (gA S8 9) a.toNatClampNeg (1 : Int32))) fun S10 => (f_X10_manyHome N S10).bind fun r11 => some (r11, S10)) 10 N (sI T 0 0 0) 0 (by decide) (by decide) (by decide) (by omega)
    rw [p1, bs, q1, if_neg (gok hb.1 (by omega)), bnd_eq, bnd_eq]
    have hI : Inv (n + 1) (sI S5 (8 + 5 * a.toNatClampNeg) 1 1) (sA T8 9 (upd (gA T8 9) a.toNatClampNeg 1)) := by
      obtain ⟨h1, h2, h3, h4, h5, h6, h7⟩ := h.mono
      have gIo : ∀ c k, (c < 8 ∨ 17 < c) → gI (sI S5 (8 + 5 * a.toNatClampNeg) 1 1) c k = gI S c k := fun c k hc => by
        rw [gI_off (by omega), p2.1 c k (by omega)]
      have gAo : ∀ c, (c < 8 ∨ 17 < c) → gA (sI S5 (8 + 5 * a.toNatClampNeg) 1 1) c = gA S c := fun c hc => p2.2.1 c (by omega)
      have tIo : ∀ k, 0 < k → gI (sA T8 9 (upd (gA T8 9) a.toNatClampNeg 1)) 0 k = gI T 0 k := fun k hk => (q2.1 0 k id).trans (gI_off (by omega))
      have tAo : ∀ c, c ≠ 8 → c ≠ 9 → gA (sA T8 9 (upd (gA T8 9) a.toNatClampNeg 1)) c = gA T c := fun c e8 e9 => (gA_off e9).trans (q2.2.1 c e8)
      refine ⟨h1.congr (gIo _ _ (by omega)) (gAo _ (by omega)) (tIo _ (by omega)) (tAo _ (by omega) (by omega)), h2.congr p2.2.2.2.2.1 p2.2.2.2.2.2 (fun c k hc => gIo _ _ (by omega)) (fun c hc => gAo _ (by omega)) (tIo _ (by omega)) (tIo _ (by omega)) (fun c _ _ => tAo _ (by omega) (by omega)), h3.congr (gAo _ (by omega)) (gAo _ (by omega)) (gAo _ (by omega)) (gIo _ _ (by omega)) (tAo _ (by omega) (by omega)) (tIo _ (by omega)), ?_, h5.congr (gIo _ _ (by omega)) (fun c _ _ => gAo _ (by omega)) (tIo _ (by omega)) (tAo _ (by omega) (by omega)) (tIo _ (by omega)), h6.congr (gIo _ _ (by omega)) (gAo _ (by omega)) (gAo _ (by omega)) (tIo _ (by omega)) (tAo _ (by omega) (by omega)), ?_⟩
      · have e9 : gA (sA T8 9 (upd (gA T8 9) a.toNatClampNeg 1)) 9 = upd (gA T 9) a.toNatClampNeg 1 := by
          show upd (gA T8 9) _ _ = _
          rw [q2.2.1 9 (by omega)]; rfl
        have e8 : gA (sA T8 9 (upd (gA T8 9) a.toNatClampNeg 1)) 8 = gA T8 8 := rfl
        intro j hj
        rw [e9, e8, tIo _ (by omega)]
        simp only [upd]
        by_cases hja : j = a.toNatClampNeg
        · rw [if_pos hja]
          refine ⟨by rw [hja, gI_sI, if_pos rfl, if_pos rfl], Or.inr rfl, fun _ => ⟨?_, ?_⟩⟩
          · rw [hja]
            have key := h3.1
            intro r hr
            obtain ⟨d1, d2, d3⟩ := p4 r hr
            have c5 : gA (sI S5 (8 + 5 * a.toNatClampNeg) 1 1) (10 + 5 * a.toNatClampNeg) r = gA S 5 r := by rw [← d1]; show gA S5 _ r = gA S5 _ r; congr 1; omega
            have c6 : gA (sI S5 (8 + 5 * a.toNatClampNeg) 1 1) (11 + 5 * a.toNatClampNeg) r = gA S 6 r := by rw [← d2]; show gA S5 _ r = gA S5 _ r; congr 1; omega
            have c7 : gA (sI S5 (8 + 5 * a.toNatClampNeg) 1 1) (12 + 5 * a.toNatClampNeg) r = gA S 7 r := by rw [← d3]; show gA S5 _ r = gA S5 _ r; congr 1; omega
            rw [c5, c6, c7]
            have g : ∀ x : Nat, x < 9 → gA T8 8 (10 * a.toNatClampNeg + x) = gA T 7 (0 + x) := fun x hx => by
              rw [q3, z0, if_pos (by rw [znat]; omega)]
              show gA T 7 _ = _
              congr 1; omega
            rw [Nat.add_assoc (10 * _), Nat.add_assoc (10 * _), g (3 * r) (by omega), g (3 * r + 1) (by omega), g (3 * r + 2) (by omega)]
            exact key r hr
          · rw [hja, gI_off (by omega), show 9 + 5 * a.toNatClampNeg = 4 + 5 * (a.toNatClampNeg + 1) by omega, p3, q3, z0, if_pos (by rw [znat]; omega)]
            show gI S 4 3 = gA T 7 _
            rw [h3.2]; congr 1; omega
        · rw [if_neg hja]
          obtain ⟨u1, u2, u3⟩ := h4 j hj
          refine ⟨by rw [gI_off (by omega), p2.1 _ _ (by omega)]; exact u1, u2, fun e => ?_⟩
          obtain ⟨v1, v2⟩ := u3 e
          refine ⟨?_, ?_⟩
          · have s8 : ∀ c, 10 + 5 * j ≤ c → c ≤ 12 + 5 * j → gA (sI S5 (8 + 5 * a.toNatClampNeg) 1 1) c = gA S c := fun c b1 b2 => p2.2.1 c (by omega)
            rw [s8 _ (by omega) (by omega), s8 _ (by omega) (by omega), s8 _ (by omega) (by omega)]
            refine v1.congr (fun _ _ => rfl) (fun _ _ => rfl) (fun _ _ => rfl) (fun r hr => ?_)
            rw [q3, z0, if_neg (by rw [znat] at *; omega)]; rfl
          · rw [gI_off (by omega), p2.1 _ _ (by omega), v2, q3, z0, if_neg (by rw [znat] at *; omega)]; rfl
      · show gJ S5 0 11 = gJ T8 0 1
        rw [p2.2.2.1, q2.2.2.1]; exact h7
    obtain ⟨b, v, m1, m2, m3⟩ := bothMany hN hI
    rw [m1, m2, bs, bs, m3, bs]
    exact ⟨v, _, _, rfl, rfl, hI⟩
  · rw [if_neg hb, if_neg hb]
    exact ⟨-1, S, _, rfl, rfl, h.mono.thrown 0⟩
theorem p_back {n N : Nat} (hN : 100 ≤ N) {S T : St} (h : Inv n S T) (a : Int32) : Step n (f_X9_back N S a) (f_X10_back N T a) := by
  unfold f_X9_back f_X10_back
  rw [cIsB, bs, if10, bnd_eq, in_eq, bs, if10, z0, z1]
  by_cases hb : isB a
  · rw [if_pos hb, if_pos hb]
    have hn : a.toNatClampNeg < 2 := by rw [znat]; omega
    have hi : f_X9_imageOf S a = some a.toNatClampNeg := by
      unfold f_X9_imageOf
      by_cases a0 : a = 0
      · subst a0; rfl
      · rw [if_neg a0]; rw [zeq, z0] at a0; congr 1; rw [znat]; omega
    rw [hi, bs, if_neg (by omega), if_neg (gok hb.1 (by omega))]
    obtain ⟨u1, u2, u3⟩ := h.2.2.2.1 a.toNatClampNeg hn
    have e9 : gA (sI T 0 0 0) 9 = gA T 9 := rfl
    rw [u1, e9]
    by_cases hk : gA T 9 a.toNatClampNeg = 0
    · rw [if_pos hk, if_pos hk]; exact ⟨-2, S, _, rfl, rfl, h.mono.thrown 0⟩
    · rw [if_neg hk, if_neg hk]
      obtain ⟨v1, v2⟩ := u3 (u2.resolve_left hk)
      obtain ⟨S5, p1, p2, p3, p4⟩ := cCopy hN S (i := 0) (j := a.toNatClampNeg + 1) (by omega)
      obtain ⟨T8, q1, q2, q3⟩ := back_copy N a hb (fun S10 => bnd (sI S10 0 22 (0 : Int32)) fun S11 => (f_X10_manyHome N S11).bind fun r12 => some (r12, S11)) 10 N (sI T 0 0 0) 0 (by decide) (by decide) (by decide) (by omega)
      rw [p1, bs, q1, bnd_eq, bnd_eq]
      have hI : Inv (n + 1) (sI S5 18 4 0) (sI T8 0 22 0) := by
        obtain ⟨h1, h2, h3, h4, h5, h6, h7⟩ := h.mono
        have gIo : ∀ c k, ¬ (c = 4 ∧ k = 3) → ¬ (c = 18 ∧ k = 4) → gI (sI S5 18 4 0) c k = gI S c k := fun c k hc hd => by
          rw [gI_off hd, p2.1 c k (by omega)]
        have gAo : ∀ c, ¬ (5 ≤ c ∧ c ≤ 7) → gA (sI S5 18 4 0) c = gA S c := fun c hc => p2.2.1 c (by omega)
        have tIo : ∀ k, 0 < k → k ≠ 22 → gI (sI T8 0 22 0) 0 k = gI T 0 k := fun k hk h22 => (gI_off (by omega)).trans ((q2.1 0 k id).trans (gI_off (by omega)))
        have tAo : ∀ c, c ≠ 7 → gA (sI T8 0 22 0) c = gA T c := fun c e7 => q2.2.1 c e7
        refine ⟨h1.congr (gIo _ _ (by omega) (by omega)) (gAo _ (by omega)) (tIo _ (by omega) (by omega)) (tAo _ (by omega)), h2.congr p2.2.2.2.2.1 p2.2.2.2.2.2 (fun c k hc => gIo _ _ (by omega) (by omega)) (fun c hc => gAo _ (by omega)) (tIo _ (by omega) (by omega)) (tIo _ (by omega) (by omega)) (fun c _ _ => tAo _ (by omega)), ⟨?_, ?_⟩, h4.congr (fun c _ _ => gAo _ (by omega)) (fun c k _ _ => gIo _ _ (by omega) (by omega)) (tAo _ (by omega)) (tAo _ (by omega)) (tIo _ (by omega) (by omega)), ?_, h6.congr (gIo _ _ (by omega) (by omega)) (gAo _ (by omega)) (gAo _ (by omega)) (tIo _ (by omega) (by omega)) (tAo _ (by omega)), ?_⟩
        · rw [tIo 14 (by omega) (by omega)]
          have key := v1.mono
          intro r hr
          obtain ⟨d1, d2, d3⟩ := p4 r hr
          have c5 : gA (sI S5 18 4 0) 5 r = gA S (10 + 5 * a.toNatClampNeg) r := by
            have : gA (sI S5 18 4 0) 5 r = gA S5 (5 + 5 * 0) r := rfl
            rw [this, d1]; congr 1; omega
          have c6 : gA (sI S5 18 4 0) 6 r = gA S (11 + 5 * a.toNatClampNeg) r := by
            have : gA (sI S5 18 4 0) 6 r = gA S5 (6 + 5 * 0) r := rfl
            rw [this, d2]; congr 1; omega
          have c7 : gA (sI S5 18 4 0) 7 r = gA S (12 + 5 * a.toNatClampNeg) r := by
            have : gA (sI S5 18 4 0) 7 r = gA S5 (7 + 5 * 0) r := rfl
            rw [this, d3]; congr 1; omega
          rw [c5, c6, c7]
          have g : ∀ x : Nat, x < 9 → gA (sI T8 0 22 0) 7 (0 + x) = gA T 8 (10 * a.toNatClampNeg + x) := fun x hx => by
            show gA T8 7 _ = _
            rw [q3, z0, if_pos (by omega)]
            show gA T 8 _ = _
            congr 1; omega
          rw [Nat.add_assoc 0, Nat.add_assoc 0, g (3 * r) (by omega), g (3 * r + 1) (by omega), g (3 * r + 2) (by omega)]
          exact key r hr
        · rw [gI_off (by omega), show gI S5 4 3 = gI S5 (4 + 5 * 0) 3 from rfl, p3, show 4 + 5 * (a.toNatClampNeg + 1) = 9 + 5 * a.toNatClampNeg by omega, v2]
          show _ = gA T8 7 9
          rw [q3, z0, if_pos (by omega)]; rfl
        · have z : gI (sI T8 0 22 0) 0 22 = 0 := rfl
          refine ⟨rfl, by rw [z, z0]; omega, by rw [z, z0]; omega, fun k hk => ?_⟩
          rw [z, z0] at hk; omega
        · show gJ S5 0 11 = gJ T8 0 1
          rw [p2.2.2.1, q2.2.2.1]; exact h7
      obtain ⟨b, v, m1, m2, m3⟩ := bothMany hN hI
      rw [m1, m2, bs, bs, m3, bs]
      exact ⟨v, _, _, rfl, rfl, hI⟩
  · rw [if_neg hb, if_neg hb]
    exact ⟨-1, S, _, rfl, rfl, h.mono.thrown 0⟩
