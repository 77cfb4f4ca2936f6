/-! a toss reckoned: class and reference -/
def whF (n pc y u rn : Int) : Int := if rn = 1 then (if y + pc * (2 * u) < n then y + pc * (2 * u) else n) else y
def catF (n pn pc w : Int) (wt : Nat → Int32) (y u f t rn : Int) : Int :=
  let dn := y + f - u * w
  let wh := whF n pc y u rn
  let off := if 0 ≤ dn - wh then dn - wh else wh - dn
  let v := pn + 3 - 3 * off - (if (t * u) % 2 = 0 then 0 else 2) - (if wh < n ∧ wt wh.toNat = 1 then 2 else 0)
  if v < 0 then 0 else if 10 < v then 10 else v
theorem zmulc {x y : Int32} {c : Int} (hy : y.toInt = c) (h1 : -2147483648 ≤ x.toInt * c) (h2 : x.toInt * c < 2147483648) : (x * y).toInt = x.toInt * c := by
  rw [zmul (by rw [hy]; exact h1) (by rw [hy]; exact h2), hy]
theorem zcmul {x y : Int32} {c : Int} (hy : y.toInt = c) (h1 : -2147483648 ≤ c * x.toInt) (h2 : c * x.toInt < 2147483648) : (y * x).toInt = c * x.toInt := by
  rw [zmul (by rw [hy]; exact h1) (by rw [hy]; exact h2), hy]
theorem zite {p : Prop} [Decidable p] (a b : Int32) : (if p then a else b).toInt = if p then a.toInt else b.toInt := by
  by_cases h : p
  · rw [if_pos h, if_pos h]
  · rw [if_neg h, if_neg h]
theorem mod2 {x : Int32} (h0 : 0 ≤ x.toInt) (h1 : x.toInt < 1000000) : (x - x / 2 * 2).toInt = x.toInt % 2 := by
  have e : (x / 2).toInt = x.toInt / 2 := by rw [zdiv h0 (by rw [z2]; decide), z2]
  have e2 : (x / 2 * 2).toInt = x.toInt / 2 * 2 := by rw [zmulc z2 (by omega) (by omega), e]
  rw [zsub (by omega) (by omega), e2]; omega
theorem mod4 {x : Int32} (h0 : 0 ≤ x.toInt) (h1 : x.toInt < 1000000) : (x - x / 4 * 4).toInt = x.toInt % 4 := by
  have e : (x / 4).toInt = x.toInt / 4 := by rw [zdiv h0 (by rw [z4]; decide), z4]
  have e2 : (x / 4 * 4).toInt = x.toInt / 4 * 4 := by rw [zmulc z4 (by omega) (by omega), e]
  rw [zsub (by omega) (by omega), e2]; omega
theorem four {u : Int32} (h : 1 ≤ u.toInt ∧ u.toInt ≤ 4) : u.toInt = 1 ∨ u.toInt = 2 ∨ u.toInt = 3 ∨ u.toInt = 4 := by omega
theorem cYardAfter {S T : St} {i : Nat} (hL : IvLb S T (33 + 5 * i)) {r y u rn : Int32} (hr : isR T r) (hy : isY T y) (hu : 1 ≤ u.toInt ∧ u.toInt ≤ 4) : ∃ v, f_X3_yardAfter S i r y u rn = some v ∧ v.toInt = whF (gI T 0 14).toInt (gA T 4 r.toNatClampNeg).toInt y.toInt u.toInt rn.toInt := by
  obtain ⟨⟨e1, e2, e3, e4, e5⟩, hg, hw, hwt, hp, hpn⟩ := hL
  have hp := hp r.toNatClampNeg (by rw [znat]; omega)
  unfold f_X3_yardAfter whF
  by_cases h : rn = 1
  · have h' : rn.toInt = 1 := by rw [h]; rfl
    rw [if_pos h, if_pos h']
    unfold f_X9_beatsInAir f_X3_yardOnRun
    rw [bs, cPaceOf hr.1 (by omega), bs, bs, show 36 + 5 * i = 33 + 5 * i + 3 by omega, hp.1, e1]
    refine ⟨_, rfl, ?_⟩
    have eu : ((2 : Int32) * u).toInt = 2 * u.toInt := zcmul z2 (by omega) (by omega)
    have e : (y + gA T 4 r.toNatClampNeg * (2 * u)).toInt = y.toInt + (gA T 4 r.toNatClampNeg).toInt * (2 * u.toInt) := by
      rcases four hu with q | q | q | q <;> rw [q] at eu ⊢ <;> rw [zadd (by rw [zmulc eu (by omega) (by omega)]; omega) (by rw [zmulc eu (by omega) (by omega)]; omega), zmulc eu (by omega) (by omega)]
    rw [zite, e]
    exact ite_iff (by rw [zlt, e]) _ _
  · rw [if_neg h, if_neg (fun q => h (by rw [zeq, q]; rfl))]
    exact ⟨y, rfl, rfl⟩
theorem cDown {S T : St} {i : Nat} (hL : IvLb S T (33 + 5 * i)) {y u f : Int32} (hy : isY T y) : f_X3_comesDown S i y u f = some ((y + f) - (u * gA T 2 y.toNatClampNeg)) := by
  unfold f_X3_comesDown
  rw [cWindAt hy.1 (by have := hL.2.1; omega), bs, show 34 + 5 * i = 33 + 5 * i + 1 by omega, (hL.2.2.1 y.toNatClampNeg (by rw [znat]; have := hL.2.1; omega)).1]
theorem dnE {T : St} {y u f : Int32} (hw : 0 ≤ (gA T 2 y.toNatClampNeg).toInt ∧ (gA T 2 y.toNatClampNeg).toInt ≤ 3) (hy : 0 ≤ y.toInt ∧ y.toInt < 24) (hu : 1 ≤ u.toInt ∧ u.toInt ≤ 4) (hf : 0 ≤ f.toInt ∧ f.toInt ≤ 9) : ((y + f) - (u * gA T 2 y.toNatClampNeg)).toInt = y.toInt + f.toInt - u.toInt * (gA T 2 y.toNatClampNeg).toInt := by
  have e : (u * gA T 2 y.toNatClampNeg).toInt = u.toInt * (gA T 2 y.toNatClampNeg).toInt := by
    rcases four hu with q | q | q | q <;> rw [q] <;> exact zcmul q (by omega) (by omega)
  have b : 0 ≤ u.toInt * (gA T 2 y.toNatClampNeg).toInt ∧ u.toInt * (gA T 2 y.toNatClampNeg).toInt ≤ 12 := by
    rcases four hu with q | q | q | q <;> rw [q] <;> omega
  rw [zsub (by rw [zadd (by omega) (by omega), e]; omega) (by rw [zadd (by omega) (by omega), e]; omega), zadd (by omega) (by omega), e]
theorem qE {u t : Int32} (hu : 1 ≤ u.toInt ∧ u.toInt ≤ 4) (ht : 0 ≤ t.toInt ∧ t.toInt ≤ 7) : (t * u).toInt = t.toInt * u.toInt ∧ 0 ≤ t.toInt * u.toInt ∧ t.toInt * u.toInt ≤ 28 := by
  rcases four hu with q | q | q | q <;> rw [q] <;> exact ⟨zmulc q (by omega) (by omega), by omega, by omega⟩
theorem whB {n pc y u rn : Int} (hn : n ≤ 24) (hy : 0 ≤ y) (hyn : y < n) (hp : 1 ≤ pc ∧ pc ≤ 4) (hu : u = 1 ∨ u = 2 ∨ u = 3 ∨ u = 4) : 0 ≤ whF n pc y u rn ∧ whF n pc y u rn ≤ n := by
  unfold whF
  by_cases h : rn = 1
  · rw [if_pos h]
    rcases hu with q | q | q | q <;> rw [q] <;> split <;> omega
  · rw [if_neg h]; omega
theorem clampE (x : Int32) : (if (0 : Int32) < (if x < 10 then x else 10) then (if x < 10 then x else 10) else 0 : Int32).toInt = (if x.toInt < 0 then 0 else if 10 < x.toInt then 10 else x.toInt) := by
  rw [zite, zite, z10, z0]
  by_cases h : x < 10
  · simp only [if_pos h]
    rw [zlt, z10] at h
    by_cases h2 : (0 : Int32) < x
    · rw [if_pos h2]; rw [zlt, z0] at h2; rw [if_neg (by omega), if_neg (by omega)]
    · rw [if_neg h2]; rw [zlt, z0] at h2
      by_cases h3 : x.toInt < 0
      · rw [if_pos h3]
      · rw [if_neg h3, if_neg (by omega)]; omega
  · simp only [if_neg h]
    rw [zlt, z10] at h
    rw [if_pos (show (0 : Int32) < 10 by decide), if_neg (by omega)]
    by_cases h3 : 10 < x.toInt
    · rw [if_pos h3]
    · rw [if_neg h3]; omega
theorem offE {a b : Int32} (ha : -100 ≤ a.toInt ∧ a.toInt ≤ 100) (hb : -100 ≤ b.toInt ∧ b.toInt ≤ 100) : (if 0 ≤ (a - b) then (a - b) else 0 - (a - b)).toInt = (if 0 ≤ a.toInt - b.toInt then a.toInt - b.toInt else b.toInt - a.toInt) := by
  have e : (a - b).toInt = a.toInt - b.toInt := zsub (by omega) (by omega)
  rw [zite, e, zsub (by rw [e, z0]; omega) (by rw [e, z0]; omega), z0, e]
  by_cases h : (0 : Int32) ≤ a - b
  · rw [if_pos h]; rw [zle, z0, e] at h; rw [if_pos h]
  · rw [if_neg h]; rw [zle, z0, e] at h; rw [if_neg h]; omega
theorem cCatch {S T : St} {i : Nat} (hL : IvLb S T (33 + 5 * i)) {r y u f t rn : Int32} (hr : isR T r) (hy : isY T y) (ht : isTo u f t rn) : ∃ v, f_X3_catchOf S i r y u f t rn = some v ∧ v.toInt = catF (gI T 0 14).toInt (gA T 5 r.toNatClampNeg).toInt (gA T 4 r.toNatClampNeg).toInt (gA T 2 y.toNatClampNeg).toInt (gA T 3) y.toInt u.toInt f.toInt t.toInt rn.toInt := by
  obtain ⟨wh, w1, w2⟩ := cYardAfter (rn := rn) hL hr hy ht.1
  have hL' := hL
  obtain ⟨⟨e1, e2, e3, e4, e5⟩, hg, hw, hwt, hp, hpn⟩ := hL'
  have hp := hp r.toNatClampNeg (by rw [znat]; omega)
  have hpn := hpn r.toNatClampNeg (by rw [znat]; omega)
  have hw := hw y.toNatClampNeg (by rw [znat]; omega)
  have wb := whB (rn := rn.toInt) (pc := (gA T 4 r.toNatClampNeg).toInt) (n := (gI T 0 14).toInt) hg.2.1 hy.1 hy.2 hp.2 (four ht.1)
  rw [← w2] at wb
  have hd := dnE (T := T) (y := y) (u := u) (f := f) hw.2 ⟨hy.1, by omega⟩ ht.1 ht.2.1
  have hdb : 0 ≤ u.toInt * (gA T 2 y.toNatClampNeg).toInt ∧ u.toInt * (gA T 2 y.toNatClampNeg).toInt ≤ 12 := by
    rcases four ht.1 with q | q | q | q <;> rw [q] <;> omega
  obtain ⟨q1, q2, q3⟩ := qE ht.1 ht.2.2.1
  have hm := mod2 (x := t * u) (by omega) (by omega)
  unfold f_X3_catchOf
  rw [w1, bs, cDown hL hy, bs, bnd_eq, cPanOf hr.1 (by omega), bs, bnd_eq, show 37 + 5 * i = 33 + 5 * i + 4 by omega, hpn.1]
  unfold f_X9_quarters
  rw [bs]
  unfold f_X3_catchOf_55
  rw [cIsWet hL hg.2.1, bs, if10, bs, if10]
  unfold f_X3_catchOf_67
  have ho := offE (a := (y + f) - (u * gA T 2 y.toNatClampNeg)) (b := wh) (by rw [hd]; omega) (by omega)
  generalize (if 0 ≤ (y + f - u * gA T 2 y.toNatClampNeg - wh) then (y + f - u * gA T 2 y.toNatClampNeg - wh) else 0 - (y + f - u * gA T 2 y.toNatClampNeg - wh)) = off at ho ⊢
  rw [hd] at ho
  have hob : 0 ≤ off.toInt ∧ off.toInt ≤ 60 := by
    rw [ho]; split <;> omega
  have eo : ((3 : Int32) * off).toInt = 3 * off.toInt := zcmul z3 (by omega) (by omega)
  have ea : (gA T 5 r.toNatClampNeg + 3 - 3 * off).toInt = (gA T 5 r.toNatClampNeg).toInt + 3 - 3 * off.toInt := by
    rw [zsub (by rw [zadd (by rw [z3]; omega) (by rw [z3]; omega), eo, z3]; omega) (by rw [zadd (by rw [z3]; omega) (by rw [z3]; omega), eo, z3]; omega), zadd (by rw [z3]; omega) (by rw [z3]; omega), eo, z3]
  generalize gA T 5 r.toNatClampNeg + 3 - 3 * off = x at ea ⊢
  have es : ∀ z : Int32, -1000 ≤ z.toInt → z.toInt ≤ 1000 → (z + -2).toInt = z.toInt - 2 := fun z h1 h2 => by
    rw [zadd (by rw [zm2]; omega) (by rw [zm2]; omega), zm2]; omega
  -- wet or not
  have wet : (isY T wh ∧ gA S (35 + 5 * i) wh.toNatClampNeg ≠ 0) ↔ (whF (gI T 0 14).toInt (gA T 4 r.toNatClampNeg).toInt y.toInt u.toInt rn.toInt < (gI T 0 14).toInt ∧ gA T 3 (whF (gI T 0 14).toInt (gA T 4 r.toNatClampNeg).toInt y.toInt u.toInt rn.toInt).toNat = 1) := by
    rw [← w2]
    constructor
    · intro h
      have h3 := hwt wh.toNatClampNeg (by rw [znat]; omega)
      refine ⟨h.1.2, ?_⟩
      rcases h3.2 with q | q
      · exact absurd (by rw [show 35 + 5 * i = 33 + 5 * i + 2 by omega, h3.1, q]) h.2
      · exact q
    · intro h
      have h3 := hwt wh.toNatClampNeg (by rw [znat]; omega)
      refine ⟨⟨wb.1, h.1⟩, ?_⟩
      rw [show 35 + 5 * i = 33 + 5 * i + 2 by omega, h3.1, show wh.toNatClampNeg = wh.toInt.toNat from rfl, h.2]
      decide
  have par : (t * u - t * u / 2 * 2 = 0) ↔ (t.toInt * u.toInt) % 2 = 0 := by rw [zeq, hm, z0, q1]
  unfold catF
  by_cases hA : (t.toInt * u.toInt) % 2 = 0
  · rw [if_pos (par.mpr hA)]
    simp only [if_pos hA]
    by_cases hB : (isY T wh ∧ gA S (35 + 5 * i) wh.toNatClampNeg ≠ 0)
    · rw [if_pos hB]
      simp only [if_pos (wet.mp hB)]
      refine ⟨_, rfl, ?_⟩
      rw [clampE, es _ (by omega) (by omega), ea, ho, w2, Int.sub_zero]
    · rw [if_neg hB]
      simp only [if_neg (fun h => hB (wet.mpr h))]
      refine ⟨_, rfl, ?_⟩
      rw [clampE, ea, ho, w2, Int.sub_zero, Int.sub_zero]
  · rw [if_neg (fun h => hA (par.mp h))]
    simp only [if_neg hA]
    by_cases hB : (isY T wh ∧ gA S (35 + 5 * i) wh.toNatClampNeg ≠ 0)
    · rw [if_pos hB]
      simp only [if_pos (wet.mp hB)]
      refine ⟨_, rfl, ?_⟩
      rw [clampE, es _ (by rw [es _ (by omega) (by omega)]; omega) (by rw [es _ (by omega) (by omega)]; omega), es _ (by omega) (by omega), ea, ho, w2]
    · rw [if_neg hB]
      simp only [if_neg (fun h => hB (wet.mpr h))]
      refine ⟨_, rfl, ?_⟩
      rw [clampE, es _ (by omega) (by omega), ea, ho, w2, Int.sub_zero]
/-- what the reference's reckons leaves: three numbers -/
def rck (T : St) (d w q : Int32) : St := sI (sI (sI T 0 25 d) 0 26 w) 0 27 q
theorem mReck161 (T : St) (a b : Int32) (h : -1000 ≤ a.toInt - b.toInt ∧ a.toInt - b.toInt ≤ 1000) : ∃ v, f_X10_reckons_161 T a b = some (v, T) ∧ v.toInt = (if a.toInt - b.toInt < 0 then 0 else if 10 < a.toInt - b.toInt then 10 else a.toInt - b.toInt) := by
  have e : (a - b).toInt = a.toInt - b.toInt := zsub (by omega) (by omega)
  unfold f_X10_reckons_161
  rw [bnd_eq]
  by_cases h1 : (0 : Int32) ≤ a - b
  · rw [if_pos h1]; rw [zle, z0, e] at h1
    by_cases h2 : a - b ≤ 10
    · rw [if_pos h2]; rw [zle, z10, e] at h2
      exact ⟨_, rfl, by rw [e, if_neg (by omega), if_neg (by omega)]⟩
    · rw [if_neg h2]; rw [zle, z10, e] at h2
      exact ⟨_, rfl, by rw [z10, if_neg (by omega), if_pos (by omega)]⟩
  · rw [if_neg h1]; rw [zle, z0, e] at h1
    exact ⟨_, rfl, by rw [z0, if_pos (by omega)]⟩
theorem mReck {T : St} (hg : (gI T 0 14).toInt ≤ 24 ∧ (gI T 0 15).toInt ≤ 3) (hw : ∀ k : Nat, k < 24 → 0 ≤ (gA T 2 k).toInt ∧ (gA T 2 k).toInt ≤ 3) (hp : ∀ k : Nat, (k : Int) < (gI T 0 15).toInt → 1 ≤ (gA T 4 k).toInt ∧ (gA T 4 k).toInt ≤ 4) (hpn : ∀ k : Nat, (k : Int) < (gI T 0 15).toInt → 0 ≤ (gA T 5 k).toInt ∧ (gA T 5 k).toInt ≤ 9)
    {r y u f t rn : Int32} (hr : isR T r) (hy : isY T y) (ht : isTo u f t rn) : ∃ v wh : Int32, f_X10_reckons T r y u f t rn = some (v, rck T ((y + f) - (u * gA T 2 y.toNatClampNeg)) wh (t * u)) ∧ wh.toInt = whF (gI T 0 14).toInt (gA T 4 r.toNatClampNeg).toInt y.toInt u.toInt rn.toInt ∧ v.toInt = catF (gI T 0 14).toInt (gA T 5 r.toNatClampNeg).toInt (gA T 4 r.toNatClampNeg).toInt (gA T 2 y.toNatClampNeg).toInt (gA T 3) y.toInt u.toInt f.toInt t.toInt rn.toInt := by
  have hp := hp r.toNatClampNeg (by rw [znat]; omega)
  have hpn := hpn r.toNatClampNeg (by rw [znat]; omega)
  have hw := hw y.toNatClampNeg (by rw [znat]; omega)
  have hd := dnE (T := T) (y := y) (u := u) (f := f) hw ⟨hy.1, by omega⟩ ht.1 ht.2.1
  have hdb : 0 ≤ u.toInt * (gA T 2 y.toNatClampNeg).toInt ∧ u.toInt * (gA T 2 y.toNatClampNeg).toInt ≤ 12 := by
    rcases four ht.1 with q | q | q | q <;> rw [q] <;> omega
  obtain ⟨q1, q2, q3⟩ := qE ht.1 ht.2.2.1
  have hm := mod2 (x := t * u) (by omega) (by omega)
  have wb := whB (rn := rn.toInt) (pc := (gA T 4 r.toNatClampNeg).toInt) (n := (gI T 0 14).toInt) hg.1 hy.1 hy.2 hp (four ht.1)
  -- where one is then
  have key : ∃ wh : Int32, wh.toInt = whF (gI T 0 14).toInt (gA T 4 r.toNatClampNeg).toInt y.toInt u.toInt rn.toInt ∧ f_X10_reckons T r y u f t rn = f_X10_reckons_59 r u t (sI T 0 25 ((y + f) - (u * gA T 2 y.toNatClampNeg))) wh := by
    unfold f_X10_reckons
    rw [if_neg (gok hy.1 (by omega)), bnd_eq]
    by_cases h : rn = 0
    · have h' : rn.toInt = 0 := by rw [h]; rfl
      rw [if_pos h]
      refine ⟨y, by unfold whF; rw [if_neg (by omega)], ?_⟩
      unfold f_X10_reckons_38
      rw [if_pos (by rw [zle]; show y.toInt ≤ (gI T 0 14).toInt; omega)]
    · have h' : rn.toInt = 1 := by rw [zeq, z0] at h; have := ht.2.2.2; omega
      rw [if_neg h, if_neg (gok hr.1 (by omega))]
      have e : (y + gA T 4 r.toNatClampNeg * 2 * u).toInt = y.toInt + (gA T 4 r.toNatClampNeg).toInt * (2 * u.toInt) := by
        have e1 : (gA T 4 r.toNatClampNeg * 2).toInt = (gA T 4 r.toNatClampNeg).toInt * 2 := zmulc z2 (by omega) (by omega)
        rcases four ht.1 with q | q | q | q <;> rw [zadd (by rw [zmulc q (by rw [e1]; omega) (by rw [e1]; omega), e1]; omega) (by rw [zmulc q (by rw [e1]; omega) (by rw [e1]; omega), e1]; omega), zmulc q (by rw [e1]; omega) (by rw [e1]; omega), e1, q] <;> omega
      show ∃ wh : Int32, _ ∧ f_X10_reckons_38 r u t (sI T 0 25 ((y + f) - (u * gA T 2 y.toNatClampNeg))) (y + gA T 4 r.toNatClampNeg * 2 * u) = _
      unfold f_X10_reckons_38 whF
      rw [if_pos h']
      by_cases h2 : (y + gA T 4 r.toNatClampNeg * 2 * u) ≤ gI T 0 14
      · refine ⟨_, ?_, by rw [if_pos (show _ ≤ gI (sI T 0 25 _) 0 14 from h2)]⟩
        rw [zle, e] at h2
        rw [e]; split <;> omega
      · refine ⟨gI T 0 14, ?_, by rw [if_neg (show ¬ _ ≤ gI (sI T 0 25 _) 0 14 from h2)]; rfl⟩
        rw [zle, e] at h2
        rw [if_neg (by omega)]
  obtain ⟨wh, w2, hk⟩ := key
  rw [hk]
  rw [← w2] at wb
  generalize (y + f) - (u * gA T 2 y.toNatClampNeg) = dn at hd ⊢
  -- off
  have tail : ∀ off : Int32, off.toInt = (if 0 ≤ dn.toInt - wh.toInt then dn.toInt - wh.toInt else wh.toInt - dn.toInt) → ∃ v, f_X10_reckons_102 r (rck T dn wh (t * u)) off = some (v, rck T dn wh (t * u)) ∧ v.toInt = catF (gI T 0 14).toInt (gA T 5 r.toNatClampNeg).toInt (gA T 4 r.toNatClampNeg).toInt (gA T 2 y.toNatClampNeg).toInt (gA T 3) y.toInt u.toInt f.toInt t.toInt rn.toInt := by
    intro off ho
    have hob : 0 ≤ off.toInt ∧ off.toInt ≤ 60 := by rw [ho, hd]; split <;> omega
    have eo : ((3 : Int32) * off).toInt = 3 * off.toInt := zcmul z3 (by omega) (by omega)
    have ea : (gA T 5 r.toNatClampNeg + 3 - 3 * off).toInt = (gA T 5 r.toNatClampNeg).toInt + 3 - 3 * off.toInt := by
      rw [zsub (by rw [zadd (by rw [z3]; omega) (by rw [z3]; omega), eo, z3]; omega) (by rw [zadd (by rw [z3]; omega) (by rw [z3]; omega), eo, z3]; omega), zadd (by rw [z3]; omega) (by rw [z3]; omega), eo, z3]
    unfold f_X10_reckons_102
    rw [if_neg (gok hr.1 (by omega))]
    have g27 : gI (rck T dn wh (t * u)) 0 27 = t * u := rfl
    have g5 : gA (rck T dn wh (t * u)) 5 = gA T 5 := rfl
    rw [g27, g5]
    generalize gA T 5 r.toNatClampNeg + 3 - 3 * off = x at ea ⊢
    have par : (t * u - t * u / 2 * 2 = 0) ↔ (t.toInt * u.toInt) % 2 = 0 := by rw [zeq, hm, z0, q1]
    have fin : ∀ z : Int32, (z.toInt = 0 ∨ z.toInt = 2) → ∃ v, f_X10_reckons_131 (rck T dn wh (t * u)) x z = some (v, rck T dn wh (t * u)) ∧ v.toInt = (let v := x.toInt - z.toInt - (if wh.toInt < (gI T 0 14).toInt ∧ gA T 3 wh.toInt.toNat = 1 then 2 else 0); if v < 0 then 0 else if 10 < v then 10 else v) := by
      intro z hz
      have ez : (x - z).toInt = x.toInt - z.toInt := zsub (by omega) (by omega)
      unfold f_X10_reckons_131 f_X10_reckons_160
      have g26 : gI (rck T dn wh (t * u)) 0 26 = wh := rfl
      have g14 : gI (rck T dn wh (t * u)) 0 14 = gI T 0 14 := rfl
      have g3 : gA (rck T dn wh (t * u)) 3 = gA T 3 := rfl
      rw [g26, g14, g3]
      by_cases h1 : gI T 0 14 ≤ wh
      · rw [if_pos h1]; rw [zle] at h1
        obtain ⟨v, v1, v2⟩ := mReck161 (rck T dn wh (t * u)) (x - z) 0 (by rw [ez, z0]; omega)
        refine ⟨v, v1, ?_⟩
        rw [v2, ez, z0, if_neg (show ¬ (wh.toInt < (gI T 0 14).toInt ∧ _) from fun h => by omega)]
      · rw [if_neg h1, if_neg (gok wb.1 (by omega))]; rw [zle] at h1
        by_cases h2 : gA T 3 wh.toNatClampNeg = 1
        · rw [if_pos h2]
          obtain ⟨v, v1, v2⟩ := mReck161 (rck T dn wh (t * u)) (x - z) 2 (by rw [ez, z2]; omega)
          refine ⟨v, v1, ?_⟩
          rw [v2, ez, z2, if_pos (show wh.toInt < (gI T 0 14).toInt ∧ gA T 3 wh.toInt.toNat = 1 from ⟨by omega, h2⟩)]
        · rw [if_neg h2]
          obtain ⟨v, v1, v2⟩ := mReck161 (rck T dn wh (t * u)) (x - z) 0 (by rw [ez, z0]; omega)
          refine ⟨v, v1, ?_⟩
          rw [v2, ez, z0, if_neg (show ¬ (wh.toInt < (gI T 0 14).toInt ∧ gA T 3 wh.toInt.toNat = 1) from fun h => h2 h.2)]
    unfold catF
    by_cases hA : (t.toInt * u.toInt) % 2 = 0
    · rw [if_pos (par.mpr hA)]
      simp only [if_pos hA]
      obtain ⟨v, v1, v2⟩ := fin 0 (by rw [z0]; omega)
      refine ⟨v, v1, ?_⟩
      rw [v2, ea, z0, ho, hd, w2]
    · rw [if_neg (fun h => hA (par.mp h))]
      simp only [if_neg hA]
      obtain ⟨v, v1, v2⟩ := fin 2 (by rw [z2]; omega)
      refine ⟨v, v1, ?_⟩
      rw [v2, ea, z2, ho, hd, w2]
  unfold f_X10_reckons_59
  rw [bnd_eq, bnd_eq]
  have g26 : gI (sI (sI (sI T 0 25 dn) 0 26 wh) 0 27 (t * u)) 0 26 = wh := rfl
  have g25 : gI (sI (sI (sI T 0 25 dn) 0 26 wh) 0 27 (t * u)) 0 25 = dn := rfl
  rw [g26, g25]
  by_cases h : wh ≤ dn
  · rw [if_pos h]; rw [zle] at h
    obtain ⟨v, v1, v2⟩ := tail (dn - wh) (by rw [zsub (by omega) (by omega), if_pos (by omega)])
    exact ⟨v, wh, v1, w2, v2⟩
  · rw [if_neg h]; rw [zle] at h
    obtain ⟨v, v1, v2⟩ := tail (wh - dn) (by rw [zsub (by omega) (by omega), if_neg (by omega)])
    exact ⟨v, wh, v1, w2, v2⟩
theorem Inv.rck {n : Nat} {S T : St} (h : Inv n S T) (d w q : Int32) : Inv n S (rck T d w q) := by
  obtain ⟨h1, h2, h3, h4, h5, h6, h7⟩ := h
  exact ⟨h1, h2, h3, h4, h5, h6, h7⟩
/-- both, under the lane's relation -/
theorem bothCatch {S T : St} {i : Nat} (hL : IvLb S T (33 + 5 * i)) {r y u f t rn : Int32} (hr : isR T r) (hy : isY T y) (ht : isTo u f t rn) : ∃ v wh : Int32, f_X3_catchOf S i r y u f t rn = some v ∧ f_X3_yardAfter S i r y u rn = some wh ∧ f_X10_reckons T r y u f t rn = some (v, rck T ((y + f) - (u * gA T 2 y.toNatClampNeg)) wh (t * u)) ∧ 0 ≤ v.toInt ∧ v.toInt ≤ 10 ∧ 0 ≤ wh.toInt ∧ wh.toInt ≤ (gI T 0 14).toInt := by
  obtain ⟨v, v1, v2⟩ := cCatch hL hr hy ht
  obtain ⟨wh, w1, w2⟩ := cYardAfter (rn := rn) hL hr hy ht.1
  obtain ⟨v', wh', m1, m2, m3⟩ := mReck ⟨hL.2.1.2.1, hL.2.1.2.2.2.1⟩ (fun k hk => (hL.2.2.1 k hk).2) (fun k hk => (hL.2.2.2.2.1 k hk).2) (fun k hk => (hL.2.2.2.2.2 k hk).2) hr hy ht
  have e1 : v' = v := Int32.toInt_inj.mp (by rw [v2, m3])
  have e2 : wh' = wh := Int32.toInt_inj.mp (by rw [w2, m2])
  subst e1; subst e2
  have hp := (hL.2.2.2.2.1 r.toNatClampNeg (by rw [znat]; omega)).2
  have wb := whB (rn := rn.toInt) (pc := (gA T 4 r.toNatClampNeg).toInt) (n := (gI T 0 14).toInt) hL.2.1.2.1 hy.1 hy.2 hp (four ht.1)
  refine ⟨v', wh', v1, w1, m1, ?_, ?_, by rw [w2]; exact wb.1, by rw [w2]; exact wb.2⟩ <;> (rw [v2]; unfold catF; simp only []; split <;> (try split) <;> omega)
