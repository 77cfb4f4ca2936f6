/-! the law: its loop -/
set_option maxHeartbeats 4000000 in
theorem law_loop {p : Program} {l : Launch} {e : Env} {s : State} {m : MethodId} {below : List Frame} {meth : Method} {c : Code} {b L : Nat} {xs : Nat → Int32} {G : Gt} (hL : L ≤ 4096) (C0 : lw_At p s m meth c b L xs) (hC : LC p s m meth c b L xs G) :
    ∀ (f n : Nat) (S T : St) (x3 : Int32) (H : Heap) (locs : List Loc) (ls : Array Slot), x3.toInt = 8 * (n : Int) → 8 * n ≤ L → L + 1 ≤ 8 * n + 8 * f → Inv n S T → LW G s S T H locs → lv_has ls 4 [(3, .int x3), (2, .ref (gM G 0)), (1, .ref (gC G 0)), (0, .ref b)] → W p l e room_1 s m #[Value.ref b] below meth c H locs 58 7489 (lw_Z below #[Value.ref b] s) (F0 m 18 ls []) := by
  obtain ⟨hx, hb, hr, hml, hown, hts, hX, hbl, hlocks, hgv⟩ := id C0
  have hbA : ¬ (fun q : Nat => s.heap.size ≤ q) b := Nat.not_le.mpr hbl
  intro f
  induction f with
  | zero =>
    intro n S T x3 H locs ls h1 h2 h3
    exact absurd h3 (by omega)
  | succ f ih =>
    intro n S T x3 H locs ls h1 h2 h3 hI hLW hl
    have eL : (Int32.ofNat L).toInt = (L : Int) := Int32.toInt_ofNat_of_lt (by omega)
    have e8 : (Int32.ofNat L - 8).toInt = (L : Int) - 8 := by rw [zsub (by rw [eL, z8]; omega) (by rw [eL, z8]; omega), eL, z8]
    refine lv_iload_n hx hb dL_law_18 rfl (lv_at hl 0 rfl) ?_
    refine lv_aload_n hx hb dL_law_19 rfl (lv_at hl 3 rfl) ?_
    refine va_slen hx hb hX hbl hbA hLW.2.2 dL_law_20 ?_
    refine lv_bipush (v := 8) hx hb dL_law_21 (by decide) ?_
    refine lv_isub hx hb dL_law_23 ?_
    refine lv_icmp_gt (tgt := 958) hx hb dL_law_24 (by decide) (fun c1 => ?_) (fun c1 => ?_)
    · refine lv_iconst (v := 1) hx hb dL_law_958 (by decide) ?_
      refine va_forget (fun q hq => hLW.2.2.2.2 q hq) ?_
      exact lw_ret hx hb hr hlocks dL_law_959
    · rw [zlt, e8] at c1
      have hi : 0 ≤ x3.toInt ∧ x3.toInt + 8 ≤ (L : Int) ∧ L ≤ 4096 := ⟨by omega, by omega, hL⟩
      have hn : n < 1000 := by omega
      have hin : vp_in x3 L := by
        intro h
        rcases h with h | h
        · rw [zlt, z0] at h; omega
        · rw [znat] at h; omega
      have nxt : ∀ (S T : St) (H : Heap) (locs : List Loc) (ls : Array Slot), Inv (n + 1) S T → LW G s S T H locs → lv_has ls 4 [(3, .int x3), (2, .ref (gM G 0)), (1, .ref (gC G 0)), (0, .ref b)] → W p l e room_1 s m #[Value.ref b] below meth c H locs 58 7489 (lw_Z below #[Value.ref b] s) (F0 m 952 ls []) := by
        intro S T H locs ls hI hLW hl
        refine lv_iinc (k := 0) (v := x3 + 8) (lv' := [(3, .int (x3 + 8)), (2, .ref (gM G 0)), (1, .ref (gC G 0)), (0, .ref b)]) hx hb dL_law_952 hl rfl rfl (by decide) rfl (fun ls hl => ?_)
        refine lv_goto (tgt := 18) hx hb dL_law_955 (by decide) ?_
        have e3 : (x3 + 8).toInt = x3.toInt + 8 := by rw [zadd (by rw [z8]; omega) (by rw [z8]; omega), z8]
        exact ih (n + 1) S T (x3 + 8) H locs ls (by rw [e3, h1]; omega) (by omega) (by omega) hI hLW hl
      refine lv_aload_n hx hb dL_law_27 rfl (lv_at hl 3 rfl) ?_
      refine lv_iload_n hx hb dL_law_28 rfl (lv_at hl 0 rfl) ?_
      refine va_sld hx hb hX hbl hbA hLW.2.2 hin dL_law_29 ?_
      refine lv_bipush (v := 31) hx hb dL_law_30 (by decide) ?_
      refine lv_iand hx hb dL_law_32 ?_
      generalize xs x3.toNatClampNeg &&& 31 = w
      rcases (show w.toInt < 0 ∨ 23 < w.toInt ∨ w.toInt = 0 ∨ w.toInt = 1 ∨ w.toInt = 2 ∨ w.toInt = 3 ∨ w.toInt = 4 ∨ w.toInt = 5 ∨ w.toInt = 6 ∨ w.toInt = 7 ∨ w.toInt = 8 ∨ w.toInt = 9 ∨ w.toInt = 10 ∨ w.toInt = 11 ∨ w.toInt = 12 ∨ w.toInt = 13 ∨ w.toInt = 14 ∨ w.toInt = 15 ∨ w.toInt = 16 ∨ w.toInt = 17 ∨ w.toInt = 18 ∨ w.toInt = 19 ∨ w.toInt = 20 ∨ w.toInt = 21 ∨ w.toInt = 22 ∨ w.toInt = 23 by omega) with e | e | e | e | e | e | e | e | e | e | e | e | e | e | e | e | e | e | e | e | e | e | e | e | e | e
      · exact lv_tableOut (tgt := 952) hx hb dL_law_33 (Or.inl e) (by decide) (nxt S T H locs ls hI.mono hLW hl)
      · exact lv_tableOut (tgt := 952) hx hb dL_law_33 (Or.inr e) (by decide) (nxt S T H locs ls hI.mono hLW hl)
      · refine lv_tableIn (off := 111) (tgt := 144) hx hb dL_law_33 (by omega) (by omega) (by rw [e]; rfl) (by decide) ?_
        exact law_0 (N := 100000) hC hLW hl hi (p_type (N := 100000) (by decide : 100 ≤ 100000) hI _ _) nxt
      · refine lv_tableIn (off := 174) (tgt := 207) hx hb dL_law_33 (by omega) (by omega) (by rw [e]; rfl) (by decide) ?_
        exact law_1 (N := 100000) hC hLW hl hi (p_clear hI) nxt
      · refine lv_tableIn (off := 187) (tgt := 220) hx hb dL_law_33 (by omega) (by omega) (by rw [e]; rfl) (by decide) ?_
        exact law_2 (N := 100000) hC hLW hl hi (p_lane (N := 100000) (Nat.le_refl 100000) hn hI) nxt
      · refine lv_tableIn (off := 200) (tgt := 233) hx hb dL_law_33 (by omega) (by omega) (by rw [e]; rfl) (by decide) ?_
        exact law_3 (N := 100000) hC hLW hl hi (p_yard hI _ _) nxt
      · refine lv_tableIn (off := 233) (tgt := 266) hx hb dL_law_33 (by omega) (by omega) (by rw [e]; rfl) (by decide) ?_
        exact law_4 (N := 100000) hC hLW hl hi (p_told hI _) nxt
      · refine lv_tableIn (off := 256) (tgt := 289) hx hb dL_law_33 (by omega) (by omega) (by rw [e]; rfl) (by decide) ?_
        exact law_5 (N := 100000) hC hLW hl hi (p_runner hI _ _) nxt
      · refine lv_tableIn (off := 289) (tgt := 322) hx hb dL_law_33 (by omega) (by omega) (by rw [e]; rfl) (by decide) ?_
        exact law_6 (N := 100000) hC hLW hl hi (p_comes hI _ _ _ _ _ _ _) nxt
      · refine lv_tableIn (off := 376) (tgt := 409) hx hb dL_law_33 (by omega) (by omega) (by rw [e]; rfl) (by decide) ?_
        exact law_7 (N := 100000) hC hLW hl hi (p_best (N := 100000) (by decide : 100 ≤ 100000) hI _ _ _ _) nxt
      · refine lv_tableIn (off := 429) (tgt := 462) hx hb dL_law_33 (by omega) (by omega) (by rw [e]; rfl) (by decide) ?_
        exact law_8 (N := 100000) hC hLW hl hi (p_runs (N := 100000) (by decide : 100 ≤ 100000) hn hI _ _) nxt
      · refine lv_tableIn (off := 462) (tgt := 495) hx hb dL_law_33 (by omega) (by omega) (by rw [e]; rfl) (by decide) ?_
        exact law_9 (N := 100000) hC hLW hl hi (p_toss (N := 100000) (by decide : 100 ≤ 100000) hn hI _ _ _ _ _) nxt
      · refine lv_tableIn (off := 525) (tgt := 558) hx hb dL_law_33 (by omega) (by omega) (by rw [e]; rfl) (by decide) ?_
        exact law_10 (N := 100000) hC hLW hl hi (p_undo (N := 100000) (by decide : 100 ≤ 100000) hI) nxt
      · refine lv_tableIn (off := 538) (tgt := 571) hx hb dL_law_33 (by omega) (by omega) (by rw [e]; rfl) (by decide) ?_
        exact law_11 (N := 100000) hC hLW hl hi (p_lot hI _) nxt
      · refine lv_tableIn (off := 561) (tgt := 594) hx hb dL_law_33 (by omega) (by omega) (by rw [e]; rfl) (by decide) ?_
        exact law_12 (N := 100000) hC hLW hl hi (p_home (N := 100000) (by decide : 100 ≤ 100000) hI _) nxt
      · refine lv_tableIn (off := 584) (tgt := 617) hx hb dL_law_33 (by omega) (by omega) (by rw [e]; rfl) (by decide) ?_
        exact law_13 (N := 100000) hC hLW hl hi (p_odds (N := 100000) (by decide : 1000 ≤ 100000) hn hI _ _ _) nxt
      · refine lv_tableIn (off := 628) (tgt := 661) hx hb dL_law_33 (by omega) (by omega) (by rw [e]; rfl) (by decide) ?_
        exact law_14 (N := 100000) hC hLW hl hi (p_enough (N := 100000) (by decide : 1000 ≤ 100000) hn hI _ _) nxt
      · refine lv_tableIn (off := 661) (tgt := 694) hx hb dL_law_33 (by omega) (by omega) (by rw [e]; rfl) (by decide) ?_
        exact law_15 (N := 100000) hC hLW hl hi (p_picture hI _ _) nxt
      · refine lv_tableIn (off := 694) (tgt := 727) hx hb dL_law_33 (by omega) (by omega) (by rw [e]; rfl) (by decide) ?_
        exact law_16 (N := 100000) hC hLW hl hi (p_forget hI) nxt
      · refine lv_tableIn (off := 707) (tgt := 740) hx hb dL_law_33 (by omega) (by omega) (by rw [e]; rfl) (by decide) ?_
        exact law_17 (N := 100000) hC hLW hl hi (p_could (N := 100000) (by decide : 100 ≤ 100000) hI _) nxt
      · refine lv_tableIn (off := 730) (tgt := 763) hx hb dL_law_33 (by omega) (by omega) (by rw [e]; rfl) (by decide) ?_
        exact law_18 (N := 100000) hC hLW hl hi (p_towns (N := 100000) (by decide : 1000 ≤ 100000) hI _ _ _ _ _) nxt
      · refine lv_tableIn (off := 793) (tgt := 826) hx hb dL_law_33 (by omega) (by omega) (by rw [e]; rfl) (by decide) ?_
        exact law_19 (N := 100000) hC hLW hl hi (p_rate hI _ _ _) nxt
      · refine lv_tableIn (off := 836) (tgt := 869) hx hb dL_law_33 (by omega) (by omega) (by rw [e]; rfl) (by decide) ?_
        exact law_20 (N := 100000) hC hLW hl hi (p_keep (N := 100000) (by decide : 100 ≤ 100000) hI _) nxt
      · refine lv_tableIn (off := 859) (tgt := 892) hx hb dL_law_33 (by omega) (by omega) (by rw [e]; rfl) (by decide) ?_
        exact law_21 (N := 100000) hC hLW hl hi (p_back (N := 100000) (by decide : 100 ≤ 100000) hI _) nxt
      · refine lv_tableIn (off := 882) (tgt := 915) hx hb dL_law_33 (by omega) (by omega) (by rw [e]; rfl) (by decide) ?_
        exact law_22 (N := 100000) hC hLW hl hi (p_count hI _) nxt
      · refine lv_tableIn (off := 905) (tgt := 938) hx hb dL_law_33 (by omega) (by omega) (by rw [e]; rfl) (by decide) ?_
        exact law_23 (N := 100000) hC hLW hl hi (p_trace hI) nxt
