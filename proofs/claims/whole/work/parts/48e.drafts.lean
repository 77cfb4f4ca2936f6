/-! lane: the drafts, told -/
theorem andor (t x m : Int32) : (t ||| x) &&& m = (t &&& m) ||| (x &&& m) := Int32.toBitVec_inj.1 BitVec.and_or_distrib_right
theorem bO {t x m : Int32} (h : x &&& m = 0) : (t ||| x) &&& m = t &&& m := by rw [andor, h, Int32.or_zero]
theorem bS {t m : Int32} (hm : m ≠ 0) : ¬ ((t ||| m) &&& m = 0) := by
  rw [andor, Int32.and_self]
  intro h
  have h2 := congrArg Int32.toBitVec h
  rw [Int32.toBitVec_or] at h2
  exact hm (Int32.toBitVec_inj.1 (BitVec.or_eq_zero_iff.mp h2).2)
theorem Jt.keep {N : Nat} {b : Nat → Int32} {L : Int32} {S T S1 T1 : St} {p : Int32} (J : Jt N b L S T p) (hS : cTx S1 b L) (e : gI S1 3 1 = gI S 3 1) (hT : mTx T1 b L) (h : ∀ k, 4 ≤ k → k ≤ 8 → gI T1 0 k = gI T 0 k) : Jt N b L S1 T1 p := by
  obtain ⟨j1, j2, j3, j4, j5, q, st, kd, v, j6, j7, j8, j9, j10⟩ := J
  refine ⟨hS, hT, e.trans j3, j4, (h 8 (by omega) (by omega)).trans j5, q, st, kd, v, j6, (h 4 (by omega) (by omega)).trans j7, (h 6 (by omega) (by omega)).trans j8, ?_, j10⟩
  unfold Tk
  rw [h 5 (by omega) (by omega), h 7 (by omega) (by omega)]
  exact j9
/-- told once: bit w -/
abbrev twd (S : St) (w : Int32) : St := sI S 3 5 (gI S 3 5 ||| ((1 : Int32) <<< (w &&& 31)))
theorem Dr.tb {j : Nat} {S T : St} (h : Dr j S T) {w : Int32} (h5 : ((1 : Int32) <<< (w &&& 31)) &&& 32 = 0) (h6 : ((1 : Int32) <<< (w &&& 31)) &&& 64 = 0) (h7 : ((1 : Int32) <<< (w &&& 31)) &&& 128 = 0) : Dr j (twd S w) T := by
  have i : ∀ k, gI (twd S w) (33 + 5 * j) k = gI S (33 + 5 * j) k := fun k => gI_off (by omega)
  have e : gI (twd S w) 3 5 = gI S 3 5 ||| ((1 : Int32) <<< (w &&& 31)) := rfl
  unfold Dr
  rw [i, i, i, i, i, e, bO h5, bO h6, bO h7]
  exact h
theorem Dr.yards {j : Nat} {S T : St} (h : Dr j S T) {v : Int32} (hv : 4 ≤ v.toInt ∧ v.toInt ≤ 24) : Dr j (sI S (33 + 5 * j) 4 v) (sI T 0 16 v) := by
  obtain ⟨d1, d2, d3, d4, d5, d6, d7⟩ := h
  have e : gI (sI S (33 + 5 * j) 4 v) (33 + 5 * j) 4 = v := by rw [gI_sI, if_pos rfl, if_pos rfl]
  have i : ∀ k, k ≠ 4 → gI (sI S (33 + 5 * j) 4 v) (33 + 5 * j) k = gI S (33 + 5 * j) k := fun k hk => gI_off (by omega)
  have i3 : gI (sI S (33 + 5 * j) 4 v) 3 5 = gI S 3 5 := gI_off (by omega)
  refine ⟨⟨e, hv⟩, ⟨(i 5 (by omega)).trans d2.1, d2.2⟩, d3, d4, d5, ⟨?_, ?_, ?_⟩, ?_⟩
  · rw [i 6 (by omega)]; exact d6.1
  · rw [i 7 (by omega)]; exact d6.2.1
  · rw [i 8 (by omega)]; exact d6.2.2
  · rw [i3]; exact d7
theorem Dr.wind {j : Nat} {S T : St} (h : Dr j S T) {y : Nat} {v : Int32} (hv : 0 ≤ v.toInt ∧ v.toInt ≤ 3) : Dr j (sA S (34 + 5 * j) (upd (gA S (34 + 5 * j)) y v)) (sA T 2 (upd (gA T 2) (24 + y) v)) := by
  obtain ⟨d1, d2, d3, d4, d5, d6, d7⟩ := h
  have e : gA (sA S (34 + 5 * j) (upd (gA S (34 + 5 * j)) y v)) (34 + 5 * j) = upd (gA S (34 + 5 * j)) y v := by rw [gA_sA, if_pos rfl]
  have i : ∀ c, c ≠ 34 + 5 * j → gA (sA S (34 + 5 * j) (upd (gA S (34 + 5 * j)) y v)) c = gA S c := fun c hc => gA_off hc
  refine ⟨d1, d2, fun k hk => ?_, fun k hk => ?_, fun k hk => ?_, d6, d7⟩
  · rw [e]
    show upd _ y v k = upd (gA T 2) (24 + y) v (24 + k) ∧ 0 ≤ (upd (gA T 2) (24 + y) v (24 + k)).toInt ∧ (upd (gA T 2) (24 + y) v (24 + k)).toInt ≤ 3
    simp only [upd]
    by_cases c : k = y
    · rw [if_pos c, if_pos (by omega)]; exact ⟨rfl, hv⟩
    · rw [if_neg c, if_neg (by omega)]; exact d3 k hk
  · rw [i _ (by omega)]; exact d4 k hk
  · rw [i _ (by omega), i _ (by omega)]; exact d5 k hk
theorem Dr.wet {j : Nat} {S T : St} (h : Dr j S T) {y : Nat} : Dr j (sA S (35 + 5 * j) (upd (gA S (35 + 5 * j)) y 1)) (sA T 3 (upd (gA T 3) (24 + y) 1)) := by
  obtain ⟨d1, d2, d3, d4, d5, d6, d7⟩ := h
  have e : gA (sA S (35 + 5 * j) (upd (gA S (35 + 5 * j)) y 1)) (35 + 5 * j) = upd (gA S (35 + 5 * j)) y 1 := by rw [gA_sA, if_pos rfl]
  have i : ∀ c, c ≠ 35 + 5 * j → gA (sA S (35 + 5 * j) (upd (gA S (35 + 5 * j)) y 1)) c = gA S c := fun c hc => gA_off hc
  refine ⟨d1, d2, fun k hk => ?_, fun k hk => ?_, fun k hk => ?_, d6, d7⟩
  · rw [i _ (by omega)]; exact d3 k hk
  · rw [e]
    show upd _ y 1 k = upd (gA T 3) (24 + y) 1 (24 + k) ∧ (upd (gA T 3) (24 + y) 1 (24 + k) = 0 ∨ upd (gA T 3) (24 + y) 1 (24 + k) = 1)
    simp only [upd]
    by_cases c : k = y
    · rw [if_pos c, if_pos (by omega)]; exact ⟨rfl, Or.inr rfl⟩
    · rw [if_neg c, if_neg (by omega)]; exact d4 k hk
  · rw [i _ (by omega), i _ (by omega)]; exact d5 k hk
theorem Dr.runner {j : Nat} {S T : St} (h : Dr j S T) {m : Nat} {v w : Int32} (hm : (m : Int) = (gI T 0 17).toInt) (h3 : m < 3) (hv : 1 ≤ v.toInt ∧ v.toInt ≤ 4) (hw : 0 ≤ w.toInt ∧ w.toInt ≤ 9) :
    Dr j (sI (sA (sA S (36 + 5 * j) (upd (gA S (36 + 5 * j)) m v)) (37 + 5 * j) (upd (gA S (37 + 5 * j)) m w)) (33 + 5 * j) 5 (gI T 0 17 + 1)) (sI (sA (sA T 4 (upd (gA T 4) (3 + m) v)) 5 (upd (gA T 5) (3 + m) w)) 0 17 (gI T 0 17 + 1)) := by
  obtain ⟨d1, d2, d3, d4, d5, d6, d7⟩ := h
  have e1 : (gI T 0 17 + 1).toInt = (gI T 0 17).toInt + 1 := zadd (by rw [z1]; omega) (by rw [z1]; omega)
  generalize hS : sI (sA (sA S (36 + 5 * j) (upd (gA S (36 + 5 * j)) m v)) (37 + 5 * j) (upd (gA S (37 + 5 * j)) m w)) (33 + 5 * j) 5 (gI T 0 17 + 1) = S1
  have a6 : gA S1 (36 + 5 * j) = upd (gA S (36 + 5 * j)) m v := by
    rw [← hS]
    show gA (sA (sA S _ _) _ _) _ = _
    rw [gA_off (by omega), gA_sA, if_pos rfl]
  have a7 : gA S1 (37 + 5 * j) = upd (gA S (37 + 5 * j)) m w := by
    rw [← hS]
    show gA (sA (sA S _ _) _ _) _ = _
    rw [gA_sA, if_pos rfl]
  have a : ∀ c, c ≠ 36 + 5 * j → c ≠ 37 + 5 * j → gA S1 c = gA S c := fun c h1 h2 => by
    rw [← hS]
    show gA (sA (sA S _ _) _ _) _ = _
    rw [gA_off h2, gA_off h1]
  have i5 : gI S1 (33 + 5 * j) 5 = gI T 0 17 + 1 := by rw [← hS, gI_sI, if_pos rfl, if_pos rfl]
  have i : ∀ c k, ¬ (c = 33 + 5 * j ∧ k = 5) → gI S1 c k = gI S c k := fun c k hk => by rw [← hS, gI_off hk]; rfl
  refine ⟨⟨(i _ 4 (by omega)).trans d1.1, d1.2⟩, ⟨i5, by show 0 ≤ (gI T 0 17 + 1).toInt; omega, by show (gI T 0 17 + 1).toInt ≤ 3; omega⟩, fun k hk => ?_, fun k hk => ?_, fun k hk => ?_, ⟨?_, ?_, ?_⟩, ?_⟩
  · rw [a _ (by omega) (by omega)]; exact d3 k hk
  · rw [a _ (by omega) (by omega)]; exact d4 k hk
  · have hk : (k : Int) < (gI T 0 17 + 1).toInt := hk
    rw [a6, a7]
    show (upd _ m v k = upd (gA T 4) (3 + m) v (3 + k) ∧ 1 ≤ (upd (gA T 4) (3 + m) v (3 + k)).toInt ∧ (upd (gA T 4) (3 + m) v (3 + k)).toInt ≤ 4) ∧ (upd _ m w k = upd (gA T 5) (3 + m) w (3 + k) ∧ 0 ≤ (upd (gA T 5) (3 + m) w (3 + k)).toInt ∧ (upd (gA T 5) (3 + m) w (3 + k)).toInt ≤ 9)
    simp only [upd]
    by_cases c : k = m
    · rw [if_pos c, if_pos (by omega), if_pos c, if_pos (by omega)]; exact ⟨⟨rfl, hv⟩, ⟨rfl, hw⟩⟩
    · rw [if_neg c, if_neg (by omega), if_neg c, if_neg (by omega)]; exact d5 k (by omega)
  · rw [i _ 6 (by omega)]; exact d6.1
  · rw [i _ 7 (by omega)]; exact d6.2.1
  · rw [i _ 8 (by omega)]; exact d6.2.2
  · rw [i 3 5 (by omega)]; exact d7
theorem RU.new {v : Int32} {d m : Int} (h : 1 ≤ v.toInt ∧ v.toInt ≤ m) : RU v v d m := Or.inr ⟨h.1, h.2, rfl⟩
theorem not9 {v : Int32} (h : 1 ≤ v.toInt) : ¬ v = -9 := by rw [zeq, zm9]; omega
theorem Dr.rope {j : Nat} {S T : St} (h : Dr j S T) {v : Int32} (hv : 1 ≤ v.toInt ∧ v.toInt ≤ 3) : Dr j (sI (twd S 5) (33 + 5 * j) 6 v) (sA T 6 (upd (gA T 6) 11 v)) := by
  obtain ⟨d1, d2, d3, d4, d5, d6, d7⟩ := h
  generalize hS : sI (twd S 5) (33 + 5 * j) 6 v = S1
  have i : ∀ k, k ≠ 6 → gI S1 (33 + 5 * j) k = gI S (33 + 5 * j) k := fun k hk => by rw [← hS, gI_off (by omega)]; exact gI_off (by omega)
  have i6 : gI S1 (33 + 5 * j) 6 = v := by rw [← hS, gI_sI, if_pos rfl, if_pos rfl]
  have e : gI S1 3 5 = gI S 3 5 ||| 32 := by rw [← hS, gI_off (by omega)]; show gI S 3 5 ||| ((1 : Int32) <<< (5 &&& 31)) = _; rw [show (1 : Int32) <<< (5 &&& 31) = 32 by decide]
  have a : ∀ c, gA S1 c = gA S c := fun c => by rw [← hS]; rfl
  refine ⟨⟨(i 4 (by omega)).trans d1.1, d1.2⟩, ⟨(i 5 (by omega)).trans d2.1, d2.2⟩, fun k hk => by rw [a]; exact d3 k hk, fun k hk => by rw [a]; exact d4 k hk, fun k hk => by rw [a, a]; exact d5 k hk, ⟨?_, ?_, ?_⟩, ?_, ?_, ?_⟩
  · rw [i6]; exact RU.new hv
  · rw [i 7 (by omega)]; exact d6.2.1
  · rw [i 8 (by omega)]; exact d6.2.2
  · rw [e]; exact ⟨fun z => absurd z (bS (by decide)), fun z => absurd z (not9 hv.1)⟩
  · rw [e, bO (by decide)]; exact d7.2.1
  · rw [e, bO (by decide)]; exact d7.2.2
theorem Dr.need {j : Nat} {S T : St} (h : Dr j S T) {v : Int32} (hv : 1 ≤ v.toInt ∧ v.toInt ≤ 4) : Dr j (sI (twd S 6) (33 + 5 * j) 7 v) (sA T 6 (upd (gA T 6) 12 v)) := by
  obtain ⟨d1, d2, d3, d4, d5, d6, d7⟩ := h
  generalize hS : sI (twd S 6) (33 + 5 * j) 7 v = S1
  have i : ∀ k, k ≠ 7 → gI S1 (33 + 5 * j) k = gI S (33 + 5 * j) k := fun k hk => by rw [← hS, gI_off (by omega)]; exact gI_off (by omega)
  have i6 : gI S1 (33 + 5 * j) 7 = v := by rw [← hS, gI_sI, if_pos rfl, if_pos rfl]
  have e : gI S1 3 5 = gI S 3 5 ||| 64 := by rw [← hS, gI_off (by omega)]; show gI S 3 5 ||| ((1 : Int32) <<< (6 &&& 31)) = _; rw [show (1 : Int32) <<< (6 &&& 31) = 64 by decide]
  have a : ∀ c, gA S1 c = gA S c := fun c => by rw [← hS]; rfl
  refine ⟨⟨(i 4 (by omega)).trans d1.1, d1.2⟩, ⟨(i 5 (by omega)).trans d2.1, d2.2⟩, fun k hk => by rw [a]; exact d3 k hk, fun k hk => by rw [a]; exact d4 k hk, fun k hk => by rw [a, a]; exact d5 k hk, ⟨?_, ?_, ?_⟩, ?_, ?_, ?_⟩
  · rw [i 6 (by omega)]; exact d6.1
  · rw [i6]; exact RU.new hv
  · rw [i 8 (by omega)]; exact d6.2.2
  · rw [e, bO (by decide)]; exact d7.1
  · rw [e]; exact ⟨fun z => absurd z (bS (by decide)), fun z => absurd z (not9 hv.1)⟩
  · rw [e, bO (by decide)]; exact d7.2.2
theorem Dr.drop {j : Nat} {S T : St} (h : Dr j S T) {v : Int32} (hv : 1 ≤ v.toInt ∧ v.toInt ≤ 9) : Dr j (sI (twd S 7) (33 + 5 * j) 8 v) (sA T 6 (upd (gA T 6) 13 v)) := by
  obtain ⟨d1, d2, d3, d4, d5, d6, d7⟩ := h
  generalize hS : sI (twd S 7) (33 + 5 * j) 8 v = S1
  have i : ∀ k, k ≠ 8 → gI S1 (33 + 5 * j) k = gI S (33 + 5 * j) k := fun k hk => by rw [← hS, gI_off (by omega)]; exact gI_off (by omega)
  have i6 : gI S1 (33 + 5 * j) 8 = v := by rw [← hS, gI_sI, if_pos rfl, if_pos rfl]
  have e : gI S1 3 5 = gI S 3 5 ||| 128 := by rw [← hS, gI_off (by omega)]; show gI S 3 5 ||| ((1 : Int32) <<< (7 &&& 31)) = _; rw [show (1 : Int32) <<< (7 &&& 31) = 128 by decide]
  have a : ∀ c, gA S1 c = gA S c := fun c => by rw [← hS]; rfl
  refine ⟨⟨(i 4 (by omega)).trans d1.1, d1.2⟩, ⟨(i 5 (by omega)).trans d2.1, d2.2⟩, fun k hk => by rw [a]; exact d3 k hk, fun k hk => by rw [a]; exact d4 k hk, fun k hk => by rw [a, a]; exact d5 k hk, ⟨?_, ?_, ?_⟩, ?_, ?_, ?_⟩
  · rw [i 6 (by omega)]; exact d6.1
  · rw [i 7 (by omega)]; exact d6.2.1
  · rw [i6]; exact RU.new hv
  · rw [e, bO (by decide)]; exact d7.1
  · rw [e, bO (by decide)]; exact d7.2.1
  · rw [e]; exact ⟨fun z => absurd z (bS (by decide)), fun z => absurd z (not9 hv.1)⟩
