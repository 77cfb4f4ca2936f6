/-! the law: its 24 cases -/
theorem law_in {x3 : Int32} {L k : Nat} (hi : 0 ≤ x3.toInt ∧ x3.toInt + 8 ≤ (L : Int) ∧ L ≤ 4096) (hk : k < 8) : vp_in (x3 + Int32.ofNat k) L := by
  have e : (Int32.ofNat k).toInt = (k : Int) := Int32.toInt_ofNat_of_lt (by omega)
  have e2 : (x3 + Int32.ofNat k).toInt = x3.toInt + k := by rw [zadd (by omega) (by omega), e]
  intro h
  rcases h with h | h
  · rw [zlt, e2] at h
    have : (0 : Int32).toInt = 0 := by decide
    omega
  · rw [znat, e2] at h; omega
theorem lg_cmp_self (x : Int64) : lg_cmp x x = 0 := by simp [lg_cmp]

def AC (G : Gt) (q : Nat) : Prop := ∃ (k : Nat) (e : va_E), (CW G S0)[k]? = some (q, e)
def AM (G : Gt) (q : Nat) : Prop := ∃ (k : Nat) (e : va_E), (MW G T0)[k]? = some (q, e)
/-- the addresses of the two systems: apart, new -/
def LG (G : Gt) (s : State) : Prop := (∀ S : St, va_D (AC G) (CW G S)) ∧ (∀ T : St, va_D (AM G) (MW G T)) ∧ (∀ q, AC G q → s.heap.size ≤ q) ∧ (∀ q, AM G q → s.heap.size ≤ q) ∧ ∀ q, AC G q → ¬ AM G q
def LW (G : Gt) (s : State) (S T : St) (H : Heap) (locs : List Loc) : Prop := va_P (gD G) vwCl (CW G S) H ∧ va_P (gD G) vwCl (MW G T) H ∧ va_S (fun q => s.heap.size ≤ q) s.heap H locs
def LC (p : Program) (s : State) (m : MethodId) (meth : Method) (c : Code) (b L : Nat) (xs : Nat → Int32) (G : Gt) : Prop :=
  (p.tables.exec = Jvm.exec ∧ c.code = code ∧ c.maxLocals = 4 ∧ s.vm.findClass RL = some m.cls ∧ ∀ w ∈ wsL_law, w.before #[Value.ref b] s = true) ∧ va_K (gD G) vwCl (gTy G) s ∧ NW s ∧ (TX G (AC G) s s.heap ∧ TX G (AM G) s s.heap) ∧ LG G s ∧ va_X b L xs s s.heap ∧ b < s.heap.size
theorem PK.law {G : Gt} {A : Nat → Prop} {ws : va_W} {s : State} {H : Heap} {locs : List Loc} (hP : va_P (gD G) vwCl ws H) (hK : va_K (gD G) vwCl (gTy G) s) (hD : va_D A ws) (hN : NW s) (hT : TX G A s s.heap) (hS : va_S (fun q => s.heap.size ≤ q) s.heap H locs) (U : State) (hU : U.heap = H) (hW : s.WarmedH U.vm) : PK G A ws U :=
  ⟨by rw [hU]; exact hP, va_K.moved hW.alike hK, hD, hN.warm hW, by rw [hU]; exact (hT.kept (fun a ha _ => hS.2.1 a ha (Nat.not_le.mpr ha))).warm hW⟩
theorem va_P.other {D : va_G} {cl : List vw_C} {ws : va_W} {H H1 : Heap} {A B : Nat → Prop} (hP : va_P D cl ws H) (hD : va_D B ws) (hAB : ∀ q, B q → ¬ A q) (hk : ∀ q : Nat, q < H.size → ¬ A q → H1[q]? = H[q]?) : va_P D cl ws H1 := fun k q hq =>
  (hP k q hq).kept (hk q.1 (hP k q hq).lt (hAB q.1 (hD.2 k q hq)))
theorem lawC_i {p : Program} {l : Launch} {e : Env} {s : State} {m : MethodId} {below : List Frame} {meth : Method} {c : Code} {H : Heap} {locs : List Loc} {Q : State → Prop} {b L : Nat} {xs : Nat → Int32} {G : Gt} {pc : Nat} {ls : Array Slot} {st0 : List Value} {S T S0 : St} {r0 : Int32} {C : String} {y : MethodName} {ws1 : List Cond} {rm : Room} {bytes : ByteArray} {maxL index n : Nat} {ret : Option FieldType} (As rest : List Value) (hC : LC p s m meth c b L xs G) (h : LW G s S T H locs)
    (hM : Met l y ws1 rm (va_Pc (.ref (gC G 0) :: As) (PK G (AC G) (CW G S))) (va_Qi (fun (r2 : Int32) S2 => r2 = r0 ∧ S2 = S0) (fun S2 : St => PK G (AC G) (CW G S2)) (AC G)) 0 0 (AC G)) (cw : CallW room_1 s #[Value.ref b] RL C index y bytes maxL ret ws1 rm 0 0 n) (hcl : C = RX9) (hn : As.length = n) (hsize : ls.size = 4) (hstack : st0 = As.reverse ++ .ref (gC G 0) :: rest) (hW : (rest.map fun v => v.category).sum ≤ 8) (hdg : decode code pc = .ok (.invokevirtual index, 3))
    (kk : ∀ (H1 : Heap) (locs1 : List Loc), LW G s S0 T H1 locs1 → W p l e room_1 s m #[Value.ref b] below meth c H1 locs1 58 7489 Q (F0 m (pc + 3) ls (.int r0 :: rest))) : W p l e room_1 s m #[Value.ref b] below meth c H locs 58 7489 Q (F0 m pc ls st0) := by
  subst hcl
  refine va_calli (va_runV hC.1 hM cw ⟨fun a U g mk q => ⟨q.1, q.2.blind⟩, va_recv hC.2.1 h.1 (ci := 9) (q0 := 0) rfl rfl, fun U hU hW => ⟨rfl, PK.law h.1 hC.2.1 (hC.2.2.2.2.1.1 S) hC.2.2.1 hC.2.2.2.1.1 h.2.2 U hU hW⟩⟩ rfl hn hsize hstack (lv_room hW) hdg ⟨Nat.le_of_ble_eq_true rfl, Nat.le_of_ble_eq_true rfl⟩) h.2.2 (fun q _ h => hC.2.2.2.2.1.2.2.1 q h) (fun q h => hC.2.2.2.2.1.2.2.1 q h) (fun r u t H1 locs1 ht hvm hw hB _ hk1 hS => ?_)
  obtain ⟨rfl, rfl⟩ := hw
  exact kk H1 locs1 ⟨ht ▸ hB.1, h.2.1.other (hC.2.2.2.2.1.2.1 T) (fun q hq hA => hC.2.2.2.2.1.2.2.2.2 q hA hq) hk1, hS⟩
theorem lawC_l {p : Program} {l : Launch} {e : Env} {s : State} {m : MethodId} {below : List Frame} {meth : Method} {c : Code} {H : Heap} {locs : List Loc} {Q : State → Prop} {b L : Nat} {xs : Nat → Int32} {G : Gt} {pc : Nat} {ls : Array Slot} {st0 : List Value} {S T S0 : St} {r0 : Int64} {C : String} {y : MethodName} {ws1 : List Cond} {rm : Room} {bytes : ByteArray} {maxL index n : Nat} {ret : Option FieldType} (As rest : List Value) (hC : LC p s m meth c b L xs G) (h : LW G s S T H locs)
    (hM : Met l y ws1 rm (va_Pc (.ref (gC G 0) :: As) (PK G (AC G) (CW G S))) (va_Ql (fun (r2 : Int64) S2 => r2 = r0 ∧ S2 = S0) (fun S2 : St => PK G (AC G) (CW G S2)) (AC G)) 0 0 (AC G)) (cw : CallW room_1 s #[Value.ref b] RL C index y bytes maxL ret ws1 rm 0 0 n) (hcl : C = RX9) (hn : As.length = n) (hsize : ls.size = 4) (hstack : st0 = As.reverse ++ .ref (gC G 0) :: rest) (hW : (rest.map fun v => v.category).sum ≤ 8) (hdg : decode code pc = .ok (.invokevirtual index, 3))
    (kk : ∀ (H1 : Heap) (locs1 : List Loc), LW G s S0 T H1 locs1 → W p l e room_1 s m #[Value.ref b] below meth c H1 locs1 58 7489 Q (F0 m (pc + 3) ls (.long r0 :: rest))) : W p l e room_1 s m #[Value.ref b] below meth c H locs 58 7489 Q (F0 m pc ls st0) := by
  subst hcl
  refine va_calll (va_runV hC.1 hM cw ⟨fun a U g mk q => ⟨q.1, q.2.blind⟩, va_recv hC.2.1 h.1 (ci := 9) (q0 := 0) rfl rfl, fun U hU hW => ⟨rfl, PK.law h.1 hC.2.1 (hC.2.2.2.2.1.1 S) hC.2.2.1 hC.2.2.2.1.1 h.2.2 U hU hW⟩⟩ rfl hn hsize hstack (lv_room hW) hdg ⟨Nat.le_of_ble_eq_true rfl, Nat.le_of_ble_eq_true rfl⟩) h.2.2 (fun q _ h => hC.2.2.2.2.1.2.2.1 q h) (fun q h => hC.2.2.2.2.1.2.2.1 q h) (fun r u t H1 locs1 ht hvm hw hB _ hk1 hS => ?_)
  obtain ⟨rfl, rfl⟩ := hw
  exact kk H1 locs1 ⟨ht ▸ hB.1, h.2.1.other (hC.2.2.2.2.1.2.1 T) (fun q hq hA => hC.2.2.2.2.1.2.2.2.2 q hA hq) hk1, hS⟩
theorem lawM_i {p : Program} {l : Launch} {e : Env} {s : State} {m : MethodId} {below : List Frame} {meth : Method} {c : Code} {H : Heap} {locs : List Loc} {Q : State → Prop} {b L : Nat} {xs : Nat → Int32} {G : Gt} {pc : Nat} {ls : Array Slot} {st0 : List Value} {S T S0 : St} {r0 : Int32} {C : String} {y : MethodName} {ws1 : List Cond} {rm : Room} {bytes : ByteArray} {maxL index n : Nat} {ret : Option FieldType} (As rest : List Value) (hC : LC p s m meth c b L xs G) (h : LW G s S T H locs)
    (hM : Met l y ws1 rm (va_Pc (.ref (gM G 0) :: As) (PK G (AM G) (MW G T))) (va_Qi (fun (r2 : Int32) S2 => r2 = r0 ∧ S2 = S0) (fun S2 : St => PK G (AM G) (MW G S2)) (AM G)) 0 0 (AM G)) (cw : CallW room_1 s #[Value.ref b] RL C index y bytes maxL ret ws1 rm 0 0 n) (hcl : C = RX10) (hn : As.length = n) (hsize : ls.size = 4) (hstack : st0 = As.reverse ++ .ref (gM G 0) :: rest) (hW : (rest.map fun v => v.category).sum ≤ 8) (hdg : decode code pc = .ok (.invokevirtual index, 3))
    (kk : ∀ (H1 : Heap) (locs1 : List Loc), LW G s S S0 H1 locs1 → W p l e room_1 s m #[Value.ref b] below meth c H1 locs1 58 7489 Q (F0 m (pc + 3) ls (.int r0 :: rest))) : W p l e room_1 s m #[Value.ref b] below meth c H locs 58 7489 Q (F0 m pc ls st0) := by
  subst hcl
  refine va_calli (va_runV hC.1 hM cw ⟨fun a U g mk q => ⟨q.1, q.2.blind⟩, va_recv hC.2.1 h.2.1 (ci := 10) (q0 := 0) rfl rfl, fun U hU hW => ⟨rfl, PK.law h.2.1 hC.2.1 (hC.2.2.2.2.1.2.1 T) hC.2.2.1 hC.2.2.2.1.2 h.2.2 U hU hW⟩⟩ rfl hn hsize hstack (lv_room hW) hdg ⟨Nat.le_of_ble_eq_true rfl, Nat.le_of_ble_eq_true rfl⟩) h.2.2 (fun q _ h => hC.2.2.2.2.1.2.2.2.1 q h) (fun q h => hC.2.2.2.2.1.2.2.2.1 q h) (fun r u t H1 locs1 ht hvm hw hB _ hk1 hS => ?_)
  obtain ⟨rfl, rfl⟩ := hw
  exact kk H1 locs1 ⟨h.1.other (hC.2.2.2.2.1.1 S) (fun q hq hA => hC.2.2.2.2.1.2.2.2.2 q hq hA) hk1, ht ▸ hB.1, hS⟩
theorem lawM_l {p : Program} {l : Launch} {e : Env} {s : State} {m : MethodId} {below : List Frame} {meth : Method} {c : Code} {H : Heap} {locs : List Loc} {Q : State → Prop} {b L : Nat} {xs : Nat → Int32} {G : Gt} {pc : Nat} {ls : Array Slot} {st0 : List Value} {S T S0 : St} {r0 : Int64} {C : String} {y : MethodName} {ws1 : List Cond} {rm : Room} {bytes : ByteArray} {maxL index n : Nat} {ret : Option FieldType} (As rest : List Value) (hC : LC p s m meth c b L xs G) (h : LW G s S T H locs)
    (hM : Met l y ws1 rm (va_Pc (.ref (gM G 0) :: As) (PK G (AM G) (MW G T))) (va_Ql (fun (r2 : Int64) S2 => r2 = r0 ∧ S2 = S0) (fun S2 : St => PK G (AM G) (MW G S2)) (AM G)) 0 0 (AM G)) (cw : CallW room_1 s #[Value.ref b] RL C index y bytes maxL ret ws1 rm 0 0 n) (hcl : C = RX10) (hn : As.length = n) (hsize : ls.size = 4) (hstack : st0 = As.reverse ++ .ref (gM G 0) :: rest) (hW : (rest.map fun v => v.category).sum ≤ 8) (hdg : decode code pc = .ok (.invokevirtual index, 3))
    (kk : ∀ (H1 : Heap) (locs1 : List Loc), LW G s S S0 H1 locs1 → W p l e room_1 s m #[Value.ref b] below meth c H1 locs1 58 7489 Q (F0 m (pc + 3) ls (.long r0 :: rest))) : W p l e room_1 s m #[Value.ref b] below meth c H locs 58 7489 Q (F0 m pc ls st0) := by
  subst hcl
  refine va_calll (va_runV hC.1 hM cw ⟨fun a U g mk q => ⟨q.1, q.2.blind⟩, va_recv hC.2.1 h.2.1 (ci := 10) (q0 := 0) rfl rfl, fun U hU hW => ⟨rfl, PK.law h.2.1 hC.2.1 (hC.2.2.2.2.1.2.1 T) hC.2.2.1 hC.2.2.2.1.2 h.2.2 U hU hW⟩⟩ rfl hn hsize hstack (lv_room hW) hdg ⟨Nat.le_of_ble_eq_true rfl, Nat.le_of_ble_eq_true rfl⟩) h.2.2 (fun q _ h => hC.2.2.2.2.1.2.2.2.1 q h) (fun q h => hC.2.2.2.2.1.2.2.2.1 q h) (fun r u t H1 locs1 ht hvm hw hB _ hk1 hS => ?_)
  obtain ⟨rfl, rfl⟩ := hw
  exact kk H1 locs1 ⟨h.1.other (hC.2.2.2.2.1.1 S) (fun q hq hA => hC.2.2.2.2.1.2.2.2.2 q hq hA) hk1, ht ▸ hB.1, hS⟩
set_option maxRecDepth 100000 in
set_option maxHeartbeats 4000000 in
theorem law_0 {p : Program} {l : Launch} {e : Env} {s : State} {m : MethodId} {below : List Frame} {meth : Method} {c : Code} {H : Heap} {locs : List Loc} {Q : State → Prop} {b L : Nat} {xs : Nat → Int32} {G : Gt} {ls : Array Slot} {S T : St} {n N : Nat} {x3 : Int32} (hC : LC p s m meth c b L xs G) (hLW : LW G s S T H locs) (hl : lv_has ls 4 [(3, .int x3), (2, .ref (gM G 0)), (1, .ref (gC G 0)), (0, .ref b)]) (hi : 0 ≤ x3.toInt ∧ x3.toInt + 8 ≤ (L : Int) ∧ L ≤ 4096) (hp : ∃ (v : Int32) (S' T' : St), f_X9_type N S ((((xs (x3 + 1).toNatClampNeg).toInt64) <<< ((32 : Int32).toInt64 &&& 63)) ||| (((xs (x3 + 2).toNatClampNeg).toInt64) &&& 4294967295)) (xs (x3 + 3).toNatClampNeg) = some (v, S') ∧ f_X10_type N T ((((xs (x3 + 1).toNatClampNeg).toInt64) <<< ((32 : Int32).toInt64 &&& 63)) ||| (((xs (x3 + 2).toNatClampNeg).toInt64) &&& 4294967295)) (xs (x3 + 3).toNatClampNeg) = some (v, T') ∧ Inv (n + 1) S' T')
    (next : ∀ (S T : St) (H : Heap) (locs : List Loc) (ls : Array Slot), Inv (n + 1) S T → LW G s S T H locs → lv_has ls 4 [(3, .int x3), (2, .ref (gM G 0)), (1, .ref (gC G 0)), (0, .ref b)] → W p l e room_1 s m #[Value.ref b] below meth c H locs 58 7489 Q (F0 m 952 ls [])) : W p l e room_1 s m #[Value.ref b] below meth c H locs 58 7489 Q (F0 m 144 ls []) := by
  obtain ⟨hx, hb, hml, hown, hts⟩ := id hC.1
  have hbA : ¬ (fun q : Nat => s.heap.size ≤ q) b := Nat.not_le.mpr hC.2.2.2.2.2.2
  obtain ⟨v, S', T', h1, h2, hI⟩ := hp
  refine lv_aload_n hx hb dL_law_144 rfl (lv_at hl 2 rfl) ?_
  refine lv_aload_n hx hb dL_law_145 rfl (lv_at hl 3 rfl) ?_
  refine lv_iload_n hx hb dL_law_146 rfl (lv_at hl 0 rfl) ?_
  refine lv_iconst (v := 1) hx hb dL_law_147 (by decide) ?_
  refine lv_iadd hx hb dL_law_148 ?_
  refine va_sld hx hb hC.2.2.2.2.2.1 hC.2.2.2.2.2.2 hbA hLW.2.2 (law_in hi (k := 1) (by decide)) dL_law_149 ?_
  refine lv_i2l hx hb dL_law_150 rfl ?_
  refine lv_bipush (v := 32) hx hb dL_law_151 (by decide) ?_
  refine lv_lshl hx hb dL_law_153 rfl ?_
  refine lv_aload_n hx hb dL_law_154 rfl (lv_at hl 3 rfl) ?_
  refine lv_iload_n hx hb dL_law_155 rfl (lv_at hl 0 rfl) ?_
  refine lv_iconst (v := 2) hx hb dL_law_156 (by decide) ?_
  refine lv_iadd hx hb dL_law_157 ?_
  refine va_sld hx hb hC.2.2.2.2.2.1 hC.2.2.2.2.2.2 hbA hLW.2.2 (law_in hi (k := 2) (by decide)) dL_law_158 ?_
  refine lv_i2l hx hb dL_law_159 rfl ?_
  refine lv_ldc2 (v := 4294967295) hx hb hown (hts (.constantLong RL 13 (4294967295)) (List.mem_of_getElem? (i := 6) rfl)) dL_law_160 ?_
  refine lv_land hx hb dL_law_163 ?_
  refine lv_lor hx hb dL_law_164 ?_
  refine lv_aload_n hx hb dL_law_165 rfl (lv_at hl 3 rfl) ?_
  refine lv_iload_n hx hb dL_law_166 rfl (lv_at hl 0 rfl) ?_
  refine lv_iconst (v := 3) hx hb dL_law_167 (by decide) ?_
  refine lv_iadd hx hb dL_law_168 ?_
  refine va_sld hx hb hC.2.2.2.2.2.1 hC.2.2.2.2.2.2 hbA hLW.2.2 (law_in hi (k := 3) (by decide)) dL_law_169 ?_
  refine lawC_i [.long ((((xs (x3 + 1).toNatClampNeg).toInt64) <<< ((32 : Int32).toInt64 &&& 63)) ||| (((xs (x3 + 2).toNatClampNeg).toInt64) &&& 4294967295)), .int (xs (x3 + 3).toNatClampNeg)] [] hC hLW (c_X9_type l G (AC G) N S ((((xs (x3 + 1).toNatClampNeg).toInt64) <<< ((32 : Int32).toInt64 &&& 63)) ||| (((xs (x3 + 2).toNatClampNeg).toInt64) &&& 4294967295)) (xs (x3 + 3).toNatClampNeg) _ h1) (cwV 2 hts gL_law_X9_type rfl rfl rfl (by decide +kernel) ⟨Nat.le_of_ble_eq_true rfl, Nat.le_of_ble_eq_true rfl⟩) rfl rfl hl.1 rfl (Nat.le_of_ble_eq_true rfl) dL_law_170 (fun H locs hLW => ?_)
  refine lv_aload_n hx hb dL_law_173 rfl (lv_at hl 1 rfl) ?_
  refine lv_aload_n hx hb dL_law_174 rfl (lv_at hl 3 rfl) ?_
  refine lv_iload_n hx hb dL_law_175 rfl (lv_at hl 0 rfl) ?_
  refine lv_iconst (v := 1) hx hb dL_law_176 (by decide) ?_
  refine lv_iadd hx hb dL_law_177 ?_
  refine va_sld hx hb hC.2.2.2.2.2.1 hC.2.2.2.2.2.2 hbA hLW.2.2 (law_in hi (k := 1) (by decide)) dL_law_178 ?_
  refine lv_i2l hx hb dL_law_179 rfl ?_
  refine lv_bipush (v := 32) hx hb dL_law_180 (by decide) ?_
  refine lv_lshl hx hb dL_law_182 rfl ?_
  refine lv_aload_n hx hb dL_law_183 rfl (lv_at hl 3 rfl) ?_
  refine lv_iload_n hx hb dL_law_184 rfl (lv_at hl 0 rfl) ?_
  refine lv_iconst (v := 2) hx hb dL_law_185 (by decide) ?_
  refine lv_iadd hx hb dL_law_186 ?_
  refine va_sld hx hb hC.2.2.2.2.2.1 hC.2.2.2.2.2.2 hbA hLW.2.2 (law_in hi (k := 2) (by decide)) dL_law_187 ?_
  refine lv_i2l hx hb dL_law_188 rfl ?_
  refine lv_ldc2 (v := 4294967295) hx hb hown (hts (.constantLong RL 13 (4294967295)) (List.mem_of_getElem? (i := 6) rfl)) dL_law_189 ?_
  refine lv_land hx hb dL_law_192 ?_
  refine lv_lor hx hb dL_law_193 ?_
  refine lv_aload_n hx hb dL_law_194 rfl (lv_at hl 3 rfl) ?_
  refine lv_iload_n hx hb dL_law_195 rfl (lv_at hl 0 rfl) ?_
  refine lv_iconst (v := 3) hx hb dL_law_196 (by decide) ?_
  refine lv_iadd hx hb dL_law_197 ?_
  refine va_sld hx hb hC.2.2.2.2.2.1 hC.2.2.2.2.2.2 hbA hLW.2.2 (law_in hi (k := 3) (by decide)) dL_law_198 ?_
  refine lawM_i [.long ((((xs (x3 + 1).toNatClampNeg).toInt64) <<< ((32 : Int32).toInt64 &&& 63)) ||| (((xs (x3 + 2).toNatClampNeg).toInt64) &&& 4294967295)), .int (xs (x3 + 3).toNatClampNeg)] [.int v] hC hLW (c_X10_type l G (AM G) N T ((((xs (x3 + 1).toNatClampNeg).toInt64) <<< ((32 : Int32).toInt64 &&& 63)) ||| (((xs (x3 + 2).toNatClampNeg).toInt64) &&& 4294967295)) (xs (x3 + 3).toNatClampNeg) _ h2) (cwV 2 hts gL_law_X10_type rfl rfl rfl (by decide +kernel) ⟨Nat.le_of_ble_eq_true rfl, Nat.le_of_ble_eq_true rfl⟩) rfl rfl hl.1 rfl (Nat.le_of_ble_eq_true rfl) dL_law_199 (fun H locs hLW => ?_)
  refine lv_icmp_eq (tgt := 952) hx hb dL_law_202 (by decide) (fun _ => next _ _ _ _ _ hI hLW hl) (fun hne => absurd rfl hne)
set_option maxRecDepth 100000 in
set_option maxHeartbeats 4000000 in
theorem law_1 {p : Program} {l : Launch} {e : Env} {s : State} {m : MethodId} {below : List Frame} {meth : Method} {c : Code} {H : Heap} {locs : List Loc} {Q : State → Prop} {b L : Nat} {xs : Nat → Int32} {G : Gt} {ls : Array Slot} {S T : St} {n N : Nat} {x3 : Int32} (hC : LC p s m meth c b L xs G) (hLW : LW G s S T H locs) (hl : lv_has ls 4 [(3, .int x3), (2, .ref (gM G 0)), (1, .ref (gC G 0)), (0, .ref b)]) (hi : 0 ≤ x3.toInt ∧ x3.toInt + 8 ≤ (L : Int) ∧ L ≤ 4096) (hp : ∃ (v : Int32) (S' T' : St), f_X9_clear S = some (v, S') ∧ f_X10_clear T = some (v, T') ∧ Inv (n + 1) S' T')
    (next : ∀ (S T : St) (H : Heap) (locs : List Loc) (ls : Array Slot), Inv (n + 1) S T → LW G s S T H locs → lv_has ls 4 [(3, .int x3), (2, .ref (gM G 0)), (1, .ref (gC G 0)), (0, .ref b)] → W p l e room_1 s m #[Value.ref b] below meth c H locs 58 7489 Q (F0 m 952 ls [])) : W p l e room_1 s m #[Value.ref b] below meth c H locs 58 7489 Q (F0 m 207 ls []) := by
  obtain ⟨hx, hb, hml, hown, hts⟩ := id hC.1
  have hbA : ¬ (fun q : Nat => s.heap.size ≤ q) b := Nat.not_le.mpr hC.2.2.2.2.2.2
  obtain ⟨v, S', T', h1, h2, hI⟩ := hp
  refine lv_aload_n hx hb dL_law_207 rfl (lv_at hl 2 rfl) ?_
  refine lawC_i [] [] hC hLW (c_X9_clear l G (AC G) S  _ h1) (cwV 0 hts gL_law_X9_clear rfl rfl rfl (by decide +kernel) ⟨Nat.le_of_ble_eq_true rfl, Nat.le_of_ble_eq_true rfl⟩) rfl rfl hl.1 rfl (Nat.le_of_ble_eq_true rfl) dL_law_208 (fun H locs hLW => ?_)
  refine lv_aload_n hx hb dL_law_211 rfl (lv_at hl 1 rfl) ?_
  refine lawM_i [] [.int v] hC hLW (c_X10_clear l G (AM G) T  _ h2) (cwV 0 hts gL_law_X10_clear rfl rfl rfl (by decide +kernel) ⟨Nat.le_of_ble_eq_true rfl, Nat.le_of_ble_eq_true rfl⟩) rfl rfl hl.1 rfl (Nat.le_of_ble_eq_true rfl) dL_law_212 (fun H locs hLW => ?_)
  refine lv_icmp_eq (tgt := 952) hx hb dL_law_215 (by decide) (fun _ => next _ _ _ _ _ hI hLW hl) (fun hne => absurd rfl hne)
set_option maxRecDepth 100000 in
set_option maxHeartbeats 4000000 in
theorem law_2 {p : Program} {l : Launch} {e : Env} {s : State} {m : MethodId} {below : List Frame} {meth : Method} {c : Code} {H : Heap} {locs : List Loc} {Q : State → Prop} {b L : Nat} {xs : Nat → Int32} {G : Gt} {ls : Array Slot} {S T : St} {n N : Nat} {x3 : Int32} (hC : LC p s m meth c b L xs G) (hLW : LW G s S T H locs) (hl : lv_has ls 4 [(3, .int x3), (2, .ref (gM G 0)), (1, .ref (gC G 0)), (0, .ref b)]) (hi : 0 ≤ x3.toInt ∧ x3.toInt + 8 ≤ (L : Int) ∧ L ≤ 4096) (hp : ∃ (v : Int32) (S' T' : St), f_X9_lane N S = some (v, S') ∧ f_X10_lane N T = some (v, T') ∧ Inv (n + 1) S' T')
    (next : ∀ (S T : St) (H : Heap) (locs : List Loc) (ls : Array Slot), Inv (n + 1) S T → LW G s S T H locs → lv_has ls 4 [(3, .int x3), (2, .ref (gM G 0)), (1, .ref (gC G 0)), (0, .ref b)] → W p l e room_1 s m #[Value.ref b] below meth c H locs 58 7489 Q (F0 m 952 ls [])) : W p l e room_1 s m #[Value.ref b] below meth c H locs 58 7489 Q (F0 m 220 ls []) := by
  obtain ⟨hx, hb, hml, hown, hts⟩ := id hC.1
  have hbA : ¬ (fun q : Nat => s.heap.size ≤ q) b := Nat.not_le.mpr hC.2.2.2.2.2.2
  obtain ⟨v, S', T', h1, h2, hI⟩ := hp
  refine lv_aload_n hx hb dL_law_220 rfl (lv_at hl 2 rfl) ?_
  refine lawC_i [] [] hC hLW (c_X9_lane l G (AC G) N S  _ h1) (cwV 0 hts gL_law_X9_lane rfl rfl rfl (by decide +kernel) ⟨Nat.le_of_ble_eq_true rfl, Nat.le_of_ble_eq_true rfl⟩) rfl rfl hl.1 rfl (Nat.le_of_ble_eq_true rfl) dL_law_221 (fun H locs hLW => ?_)
  refine lv_aload_n hx hb dL_law_224 rfl (lv_at hl 1 rfl) ?_
  refine lawM_i [] [.int v] hC hLW (c_X10_lane l G (AM G) N T  _ h2) (cwV 0 hts gL_law_X10_lane rfl rfl rfl (by decide +kernel) ⟨Nat.le_of_ble_eq_true rfl, Nat.le_of_ble_eq_true rfl⟩) rfl rfl hl.1 rfl (Nat.le_of_ble_eq_true rfl) dL_law_225 (fun H locs hLW => ?_)
  refine lv_icmp_eq (tgt := 952) hx hb dL_law_228 (by decide) (fun _ => next _ _ _ _ _ hI hLW hl) (fun hne => absurd rfl hne)
set_option maxRecDepth 100000 in
set_option maxHeartbeats 4000000 in
theorem law_3 {p : Program} {l : Launch} {e : Env} {s : State} {m : MethodId} {below : List Frame} {meth : Method} {c : Code} {H : Heap} {locs : List Loc} {Q : State → Prop} {b L : Nat} {xs : Nat → Int32} {G : Gt} {ls : Array Slot} {S T : St} {n N : Nat} {x3 : Int32} (hC : LC p s m meth c b L xs G) (hLW : LW G s S T H locs) (hl : lv_has ls 4 [(3, .int x3), (2, .ref (gM G 0)), (1, .ref (gC G 0)), (0, .ref b)]) (hi : 0 ≤ x3.toInt ∧ x3.toInt + 8 ≤ (L : Int) ∧ L ≤ 4096) (hp : ∃ (v : Int32) (S' T' : St), f_X9_yard S (xs (x3 + 1).toNatClampNeg) (xs (x3 + 2).toNatClampNeg) = some v ∧ f_X10_yard T (xs (x3 + 1).toNatClampNeg) (xs (x3 + 2).toNatClampNeg) = some (v, T') ∧ S' = S ∧ Inv (n + 1) S' T')
    (next : ∀ (S T : St) (H : Heap) (locs : List Loc) (ls : Array Slot), Inv (n + 1) S T → LW G s S T H locs → lv_has ls 4 [(3, .int x3), (2, .ref (gM G 0)), (1, .ref (gC G 0)), (0, .ref b)] → W p l e room_1 s m #[Value.ref b] below meth c H locs 58 7489 Q (F0 m 952 ls [])) : W p l e room_1 s m #[Value.ref b] below meth c H locs 58 7489 Q (F0 m 233 ls []) := by
  obtain ⟨hx, hb, hml, hown, hts⟩ := id hC.1
  have hbA : ¬ (fun q : Nat => s.heap.size ≤ q) b := Nat.not_le.mpr hC.2.2.2.2.2.2
  obtain ⟨v, S', T', h1, h2, hSS, hI⟩ := hp
  have hSS := hSS.symm
  subst hSS
  refine lv_aload_n hx hb dL_law_233 rfl (lv_at hl 2 rfl) ?_
  refine lv_aload_n hx hb dL_law_234 rfl (lv_at hl 3 rfl) ?_
  refine lv_iload_n hx hb dL_law_235 rfl (lv_at hl 0 rfl) ?_
  refine lv_iconst (v := 1) hx hb dL_law_236 (by decide) ?_
  refine lv_iadd hx hb dL_law_237 ?_
  refine va_sld hx hb hC.2.2.2.2.2.1 hC.2.2.2.2.2.2 hbA hLW.2.2 (law_in hi (k := 1) (by decide)) dL_law_238 ?_
  refine lv_aload_n hx hb dL_law_239 rfl (lv_at hl 3 rfl) ?_
  refine lv_iload_n hx hb dL_law_240 rfl (lv_at hl 0 rfl) ?_
  refine lv_iconst (v := 2) hx hb dL_law_241 (by decide) ?_
  refine lv_iadd hx hb dL_law_242 ?_
  refine va_sld hx hb hC.2.2.2.2.2.1 hC.2.2.2.2.2.2 hbA hLW.2.2 (law_in hi (k := 2) (by decide)) dL_law_243 ?_
  refine lawC_i [.int (xs (x3 + 1).toNatClampNeg), .int (xs (x3 + 2).toNatClampNeg)] [] hC hLW (c_X9_yard l G (AC G) S (xs (x3 + 1).toNatClampNeg) (xs (x3 + 2).toNatClampNeg) _ h1) (cwV 2 hts gL_law_X9_yard rfl rfl rfl (by decide +kernel) ⟨Nat.le_of_ble_eq_true rfl, Nat.le_of_ble_eq_true rfl⟩) rfl rfl hl.1 rfl (Nat.le_of_ble_eq_true rfl) dL_law_244 (fun H locs hLW => ?_)
  refine lv_aload_n hx hb dL_law_247 rfl (lv_at hl 1 rfl) ?_
  refine lv_aload_n hx hb dL_law_248 rfl (lv_at hl 3 rfl) ?_
  refine lv_iload_n hx hb dL_law_249 rfl (lv_at hl 0 rfl) ?_
  refine lv_iconst (v := 1) hx hb dL_law_250 (by decide) ?_
  refine lv_iadd hx hb dL_law_251 ?_
  refine va_sld hx hb hC.2.2.2.2.2.1 hC.2.2.2.2.2.2 hbA hLW.2.2 (law_in hi (k := 1) (by decide)) dL_law_252 ?_
  refine lv_aload_n hx hb dL_law_253 rfl (lv_at hl 3 rfl) ?_
  refine lv_iload_n hx hb dL_law_254 rfl (lv_at hl 0 rfl) ?_
  refine lv_iconst (v := 2) hx hb dL_law_255 (by decide) ?_
  refine lv_iadd hx hb dL_law_256 ?_
  refine va_sld hx hb hC.2.2.2.2.2.1 hC.2.2.2.2.2.2 hbA hLW.2.2 (law_in hi (k := 2) (by decide)) dL_law_257 ?_
  refine lawM_i [.int (xs (x3 + 1).toNatClampNeg), .int (xs (x3 + 2).toNatClampNeg)] [.int v] hC hLW (c_X10_yard l G (AM G) T (xs (x3 + 1).toNatClampNeg) (xs (x3 + 2).toNatClampNeg) _ h2) (cwV 2 hts gL_law_X10_yard rfl rfl rfl (by decide +kernel) ⟨Nat.le_of_ble_eq_true rfl, Nat.le_of_ble_eq_true rfl⟩) rfl rfl hl.1 rfl (Nat.le_of_ble_eq_true rfl) dL_law_258 (fun H locs hLW => ?_)
  refine lv_icmp_eq (tgt := 952) hx hb dL_law_261 (by decide) (fun _ => next _ _ _ _ _ hI hLW hl) (fun hne => absurd rfl hne)
set_option maxRecDepth 100000 in
set_option maxHeartbeats 4000000 in
theorem law_4 {p : Program} {l : Launch} {e : Env} {s : State} {m : MethodId} {below : List Frame} {meth : Method} {c : Code} {H : Heap} {locs : List Loc} {Q : State → Prop} {b L : Nat} {xs : Nat → Int32} {G : Gt} {ls : Array Slot} {S T : St} {n N : Nat} {x3 : Int32} (hC : LC p s m meth c b L xs G) (hLW : LW G s S T H locs) (hl : lv_has ls 4 [(3, .int x3), (2, .ref (gM G 0)), (1, .ref (gC G 0)), (0, .ref b)]) (hi : 0 ≤ x3.toInt ∧ x3.toInt + 8 ≤ (L : Int) ∧ L ≤ 4096) (hp : ∃ (v : Int32) (S' T' : St), f_X9_told S (xs (x3 + 1).toNatClampNeg) = some v ∧ f_X10_told T (xs (x3 + 1).toNatClampNeg) = some (v, T') ∧ S' = S ∧ Inv (n + 1) S' T')
    (next : ∀ (S T : St) (H : Heap) (locs : List Loc) (ls : Array Slot), Inv (n + 1) S T → LW G s S T H locs → lv_has ls 4 [(3, .int x3), (2, .ref (gM G 0)), (1, .ref (gC G 0)), (0, .ref b)] → W p l e room_1 s m #[Value.ref b] below meth c H locs 58 7489 Q (F0 m 952 ls [])) : W p l e room_1 s m #[Value.ref b] below meth c H locs 58 7489 Q (F0 m 266 ls []) := by
  obtain ⟨hx, hb, hml, hown, hts⟩ := id hC.1
  have hbA : ¬ (fun q : Nat => s.heap.size ≤ q) b := Nat.not_le.mpr hC.2.2.2.2.2.2
  obtain ⟨v, S', T', h1, h2, hSS, hI⟩ := hp
  have hSS := hSS.symm
  subst hSS
  refine lv_aload_n hx hb dL_law_266 rfl (lv_at hl 2 rfl) ?_
  refine lv_aload_n hx hb dL_law_267 rfl (lv_at hl 3 rfl) ?_
  refine lv_iload_n hx hb dL_law_268 rfl (lv_at hl 0 rfl) ?_
  refine lv_iconst (v := 1) hx hb dL_law_269 (by decide) ?_
  refine lv_iadd hx hb dL_law_270 ?_
  refine va_sld hx hb hC.2.2.2.2.2.1 hC.2.2.2.2.2.2 hbA hLW.2.2 (law_in hi (k := 1) (by decide)) dL_law_271 ?_
  refine lawC_i [.int (xs (x3 + 1).toNatClampNeg)] [] hC hLW (c_X9_told l G (AC G) S (xs (x3 + 1).toNatClampNeg) _ h1) (cwV 1 hts gL_law_X9_told rfl rfl rfl (by decide +kernel) ⟨Nat.le_of_ble_eq_true rfl, Nat.le_of_ble_eq_true rfl⟩) rfl rfl hl.1 rfl (Nat.le_of_ble_eq_true rfl) dL_law_272 (fun H locs hLW => ?_)
  refine lv_aload_n hx hb dL_law_275 rfl (lv_at hl 1 rfl) ?_
  refine lv_aload_n hx hb dL_law_276 rfl (lv_at hl 3 rfl) ?_
  refine lv_iload_n hx hb dL_law_277 rfl (lv_at hl 0 rfl) ?_
  refine lv_iconst (v := 1) hx hb dL_law_278 (by decide) ?_
  refine lv_iadd hx hb dL_law_279 ?_
  refine va_sld hx hb hC.2.2.2.2.2.1 hC.2.2.2.2.2.2 hbA hLW.2.2 (law_in hi (k := 1) (by decide)) dL_law_280 ?_
  refine lawM_i [.int (xs (x3 + 1).toNatClampNeg)] [.int v] hC hLW (c_X10_told l G (AM G) T (xs (x3 + 1).toNatClampNeg) _ h2) (cwV 1 hts gL_law_X10_told rfl rfl rfl (by decide +kernel) ⟨Nat.le_of_ble_eq_true rfl, Nat.le_of_ble_eq_true rfl⟩) rfl rfl hl.1 rfl (Nat.le_of_ble_eq_true rfl) dL_law_281 (fun H locs hLW => ?_)
  refine lv_icmp_eq (tgt := 952) hx hb dL_law_284 (by decide) (fun _ => next _ _ _ _ _ hI hLW hl) (fun hne => absurd rfl hne)
set_option maxRecDepth 100000 in
set_option maxHeartbeats 4000000 in
theorem law_5 {p : Program} {l : Launch} {e : Env} {s : State} {m : MethodId} {below : List Frame} {meth : Method} {c : Code} {H : Heap} {locs : List Loc} {Q : State → Prop} {b L : Nat} {xs : Nat → Int32} {G : Gt} {ls : Array Slot} {S T : St} {n N : Nat} {x3 : Int32} (hC : LC p s m meth c b L xs G) (hLW : LW G s S T H locs) (hl : lv_has ls 4 [(3, .int x3), (2, .ref (gM G 0)), (1, .ref (gC G 0)), (0, .ref b)]) (hi : 0 ≤ x3.toInt ∧ x3.toInt + 8 ≤ (L : Int) ∧ L ≤ 4096) (hp : ∃ (v : Int32) (S' T' : St), f_X9_runner S (xs (x3 + 1).toNatClampNeg) (xs (x3 + 2).toNatClampNeg) = some v ∧ f_X10_runner T (xs (x3 + 1).toNatClampNeg) (xs (x3 + 2).toNatClampNeg) = some (v, T') ∧ S' = S ∧ Inv (n + 1) S' T')
    (next : ∀ (S T : St) (H : Heap) (locs : List Loc) (ls : Array Slot), Inv (n + 1) S T → LW G s S T H locs → lv_has ls 4 [(3, .int x3), (2, .ref (gM G 0)), (1, .ref (gC G 0)), (0, .ref b)] → W p l e room_1 s m #[Value.ref b] below meth c H locs 58 7489 Q (F0 m 952 ls [])) : W p l e room_1 s m #[Value.ref b] below meth c H locs 58 7489 Q (F0 m 289 ls []) := by
  obtain ⟨hx, hb, hml, hown, hts⟩ := id hC.1
  have hbA : ¬ (fun q : Nat => s.heap.size ≤ q) b := Nat.not_le.mpr hC.2.2.2.2.2.2
  obtain ⟨v, S', T', h1, h2, hSS, hI⟩ := hp
  have hSS := hSS.symm
  subst hSS
  refine lv_aload_n hx hb dL_law_289 rfl (lv_at hl 2 rfl) ?_
  refine lv_aload_n hx hb dL_law_290 rfl (lv_at hl 3 rfl) ?_
  refine lv_iload_n hx hb dL_law_291 rfl (lv_at hl 0 rfl) ?_
  refine lv_iconst (v := 1) hx hb dL_law_292 (by decide) ?_
  refine lv_iadd hx hb dL_law_293 ?_
  refine va_sld hx hb hC.2.2.2.2.2.1 hC.2.2.2.2.2.2 hbA hLW.2.2 (law_in hi (k := 1) (by decide)) dL_law_294 ?_
  refine lv_aload_n hx hb dL_law_295 rfl (lv_at hl 3 rfl) ?_
  refine lv_iload_n hx hb dL_law_296 rfl (lv_at hl 0 rfl) ?_
  refine lv_iconst (v := 2) hx hb dL_law_297 (by decide) ?_
  refine lv_iadd hx hb dL_law_298 ?_
  refine va_sld hx hb hC.2.2.2.2.2.1 hC.2.2.2.2.2.2 hbA hLW.2.2 (law_in hi (k := 2) (by decide)) dL_law_299 ?_
  refine lawC_i [.int (xs (x3 + 1).toNatClampNeg), .int (xs (x3 + 2).toNatClampNeg)] [] hC hLW (c_X9_runner l G (AC G) S (xs (x3 + 1).toNatClampNeg) (xs (x3 + 2).toNatClampNeg) _ h1) (cwV 2 hts gL_law_X9_runner rfl rfl rfl (by decide +kernel) ⟨Nat.le_of_ble_eq_true rfl, Nat.le_of_ble_eq_true rfl⟩) rfl rfl hl.1 rfl (Nat.le_of_ble_eq_true rfl) dL_law_300 (fun H locs hLW => ?_)
  refine lv_aload_n hx hb dL_law_303 rfl (lv_at hl 1 rfl) ?_
  refine lv_aload_n hx hb dL_law_304 rfl (lv_at hl 3 rfl) ?_
  refine lv_iload_n hx hb dL_law_305 rfl (lv_at hl 0 rfl) ?_
  refine lv_iconst (v := 1) hx hb dL_law_306 (by decide) ?_
  refine lv_iadd hx hb dL_law_307 ?_
  refine va_sld hx hb hC.2.2.2.2.2.1 hC.2.2.2.2.2.2 hbA hLW.2.2 (law_in hi (k := 1) (by decide)) dL_law_308 ?_
  refine lv_aload_n hx hb dL_law_309 rfl (lv_at hl 3 rfl) ?_
  refine lv_iload_n hx hb dL_law_310 rfl (lv_at hl 0 rfl) ?_
  refine lv_iconst (v := 2) hx hb dL_law_311 (by decide) ?_
  refine lv_iadd hx hb dL_law_312 ?_
  refine va_sld hx hb hC.2.2.2.2.2.1 hC.2.2.2.2.2.2 hbA hLW.2.2 (law_in hi (k := 2) (by decide)) dL_law_313 ?_
  refine lawM_i [.int (xs (x3 + 1).toNatClampNeg), .int (xs (x3 + 2).toNatClampNeg)] [.int v] hC hLW (c_X10_runner l G (AM G) T (xs (x3 + 1).toNatClampNeg) (xs (x3 + 2).toNatClampNeg) _ h2) (cwV 2 hts gL_law_X10_runner rfl rfl rfl (by decide +kernel) ⟨Nat.le_of_ble_eq_true rfl, Nat.le_of_ble_eq_true rfl⟩) rfl rfl hl.1 rfl (Nat.le_of_ble_eq_true rfl) dL_law_314 (fun H locs hLW => ?_)
  refine lv_icmp_eq (tgt := 952) hx hb dL_law_317 (by decide) (fun _ => next _ _ _ _ _ hI hLW hl) (fun hne => absurd rfl hne)
set_option maxRecDepth 100000 in
set_option maxHeartbeats 4000000 in
theorem law_6 {p : Program} {l : Launch} {e : Env} {s : State} {m : MethodId} {below : List Frame} {meth : Method} {c : Code} {H : Heap} {locs : List Loc} {Q : State → Prop} {b L : Nat} {xs : Nat → Int32} {G : Gt} {ls : Array Slot} {S T : St} {n N : Nat} {x3 : Int32} (hC : LC p s m meth c b L xs G) (hLW : LW G s S T H locs) (hl : lv_has ls 4 [(3, .int x3), (2, .ref (gM G 0)), (1, .ref (gC G 0)), (0, .ref b)]) (hi : 0 ≤ x3.toInt ∧ x3.toInt + 8 ≤ (L : Int) ∧ L ≤ 4096) (hp : ∃ (v : Int32) (S' T' : St), f_X9_comes S (xs (x3 + 1).toNatClampNeg) (xs (x3 + 2).toNatClampNeg) (xs (x3 + 3).toNatClampNeg) (xs (x3 + 4).toNatClampNeg) (xs (x3 + 5).toNatClampNeg) (xs (x3 + 6).toNatClampNeg) (xs (x3 + 7).toNatClampNeg) = some v ∧ f_X10_comes T (xs (x3 + 1).toNatClampNeg) (xs (x3 + 2).toNatClampNeg) (xs (x3 + 3).toNatClampNeg) (xs (x3 + 4).toNatClampNeg) (xs (x3 + 5).toNatClampNeg) (xs (x3 + 6).toNatClampNeg) (xs (x3 + 7).toNatClampNeg) = some (v, T') ∧ S' = S ∧ Inv (n + 1) S' T')
    (next : ∀ (S T : St) (H : Heap) (locs : List Loc) (ls : Array Slot), Inv (n + 1) S T → LW G s S T H locs → lv_has ls 4 [(3, .int x3), (2, .ref (gM G 0)), (1, .ref (gC G 0)), (0, .ref b)] → W p l e room_1 s m #[Value.ref b] below meth c H locs 58 7489 Q (F0 m 952 ls [])) : W p l e room_1 s m #[Value.ref b] below meth c H locs 58 7489 Q (F0 m 322 ls []) := by
  obtain ⟨hx, hb, hml, hown, hts⟩ := id hC.1
  have hbA : ¬ (fun q : Nat => s.heap.size ≤ q) b := Nat.not_le.mpr hC.2.2.2.2.2.2
  obtain ⟨v, S', T', h1, h2, hSS, hI⟩ := hp
  have hSS := hSS.symm
  subst hSS
  refine lv_aload_n hx hb dL_law_322 rfl (lv_at hl 2 rfl) ?_
  refine lv_aload_n hx hb dL_law_323 rfl (lv_at hl 3 rfl) ?_
  refine lv_iload_n hx hb dL_law_324 rfl (lv_at hl 0 rfl) ?_
  refine lv_iconst (v := 1) hx hb dL_law_325 (by decide) ?_
  refine lv_iadd hx hb dL_law_326 ?_
  refine va_sld hx hb hC.2.2.2.2.2.1 hC.2.2.2.2.2.2 hbA hLW.2.2 (law_in hi (k := 1) (by decide)) dL_law_327 ?_
  refine lv_aload_n hx hb dL_law_328 rfl (lv_at hl 3 rfl) ?_
  refine lv_iload_n hx hb dL_law_329 rfl (lv_at hl 0 rfl) ?_
  refine lv_iconst (v := 2) hx hb dL_law_330 (by decide) ?_
  refine lv_iadd hx hb dL_law_331 ?_
  refine va_sld hx hb hC.2.2.2.2.2.1 hC.2.2.2.2.2.2 hbA hLW.2.2 (law_in hi (k := 2) (by decide)) dL_law_332 ?_
  refine lv_aload_n hx hb dL_law_333 rfl (lv_at hl 3 rfl) ?_
  refine lv_iload_n hx hb dL_law_334 rfl (lv_at hl 0 rfl) ?_
  refine lv_iconst (v := 3) hx hb dL_law_335 (by decide) ?_
  refine lv_iadd hx hb dL_law_336 ?_
  refine va_sld hx hb hC.2.2.2.2.2.1 hC.2.2.2.2.2.2 hbA hLW.2.2 (law_in hi (k := 3) (by decide)) dL_law_337 ?_
  refine lv_aload_n hx hb dL_law_338 rfl (lv_at hl 3 rfl) ?_
  refine lv_iload_n hx hb dL_law_339 rfl (lv_at hl 0 rfl) ?_
  refine lv_iconst (v := 4) hx hb dL_law_340 (by decide) ?_
  refine lv_iadd hx hb dL_law_341 ?_
  refine va_sld hx hb hC.2.2.2.2.2.1 hC.2.2.2.2.2.2 hbA hLW.2.2 (law_in hi (k := 4) (by decide)) dL_law_342 ?_
  refine lv_aload_n hx hb dL_law_343 rfl (lv_at hl 3 rfl) ?_
  refine lv_iload_n hx hb dL_law_344 rfl (lv_at hl 0 rfl) ?_
  refine lv_iconst (v := 5) hx hb dL_law_345 (by decide) ?_
  refine lv_iadd hx hb dL_law_346 ?_
  refine va_sld hx hb hC.2.2.2.2.2.1 hC.2.2.2.2.2.2 hbA hLW.2.2 (law_in hi (k := 5) (by decide)) dL_law_347 ?_
  refine lv_aload_n hx hb dL_law_348 rfl (lv_at hl 3 rfl) ?_
  refine lv_iload_n hx hb dL_law_349 rfl (lv_at hl 0 rfl) ?_
  refine lv_bipush (v := 6) hx hb dL_law_350 (by decide) ?_
  refine lv_iadd hx hb dL_law_352 ?_
  refine va_sld hx hb hC.2.2.2.2.2.1 hC.2.2.2.2.2.2 hbA hLW.2.2 (law_in hi (k := 6) (by decide)) dL_law_353 ?_
  refine lv_aload_n hx hb dL_law_354 rfl (lv_at hl 3 rfl) ?_
  refine lv_iload_n hx hb dL_law_355 rfl (lv_at hl 0 rfl) ?_
  refine lv_bipush (v := 7) hx hb dL_law_356 (by decide) ?_
  refine lv_iadd hx hb dL_law_358 ?_
  refine va_sld hx hb hC.2.2.2.2.2.1 hC.2.2.2.2.2.2 hbA hLW.2.2 (law_in hi (k := 7) (by decide)) dL_law_359 ?_
  refine lawC_i [.int (xs (x3 + 1).toNatClampNeg), .int (xs (x3 + 2).toNatClampNeg), .int (xs (x3 + 3).toNatClampNeg), .int (xs (x3 + 4).toNatClampNeg), .int (xs (x3 + 5).toNatClampNeg), .int (xs (x3 + 6).toNatClampNeg), .int (xs (x3 + 7).toNatClampNeg)] [] hC hLW (c_X9_comes l G (AC G) S (xs (x3 + 1).toNatClampNeg) (xs (x3 + 2).toNatClampNeg) (xs (x3 + 3).toNatClampNeg) (xs (x3 + 4).toNatClampNeg) (xs (x3 + 5).toNatClampNeg) (xs (x3 + 6).toNatClampNeg) (xs (x3 + 7).toNatClampNeg) _ h1) (cwV 7 hts gL_law_X9_comes rfl rfl rfl (by decide +kernel) ⟨Nat.le_of_ble_eq_true rfl, Nat.le_of_ble_eq_true rfl⟩) rfl rfl hl.1 rfl (Nat.le_of_ble_eq_true rfl) dL_law_360 (fun H locs hLW => ?_)
  refine lv_aload_n hx hb dL_law_363 rfl (lv_at hl 1 rfl) ?_
  refine lv_aload_n hx hb dL_law_364 rfl (lv_at hl 3 rfl) ?_
  refine lv_iload_n hx hb dL_law_365 rfl (lv_at hl 0 rfl) ?_
  refine lv_iconst (v := 1) hx hb dL_law_366 (by decide) ?_
  refine lv_iadd hx hb dL_law_367 ?_
  refine va_sld hx hb hC.2.2.2.2.2.1 hC.2.2.2.2.2.2 hbA hLW.2.2 (law_in hi (k := 1) (by decide)) dL_law_368 ?_
  refine lv_aload_n hx hb dL_law_369 rfl (lv_at hl 3 rfl) ?_
  refine lv_iload_n hx hb dL_law_370 rfl (lv_at hl 0 rfl) ?_
  refine lv_iconst (v := 2) hx hb dL_law_371 (by decide) ?_
  refine lv_iadd hx hb dL_law_372 ?_
  refine va_sld hx hb hC.2.2.2.2.2.1 hC.2.2.2.2.2.2 hbA hLW.2.2 (law_in hi (k := 2) (by decide)) dL_law_373 ?_
  refine lv_aload_n hx hb dL_law_374 rfl (lv_at hl 3 rfl) ?_
  refine lv_iload_n hx hb dL_law_375 rfl (lv_at hl 0 rfl) ?_
  refine lv_iconst (v := 3) hx hb dL_law_376 (by decide) ?_
  refine lv_iadd hx hb dL_law_377 ?_
  refine va_sld hx hb hC.2.2.2.2.2.1 hC.2.2.2.2.2.2 hbA hLW.2.2 (law_in hi (k := 3) (by decide)) dL_law_378 ?_
  refine lv_aload_n hx hb dL_law_379 rfl (lv_at hl 3 rfl) ?_
  refine lv_iload_n hx hb dL_law_380 rfl (lv_at hl 0 rfl) ?_
  refine lv_iconst (v := 4) hx hb dL_law_381 (by decide) ?_
  refine lv_iadd hx hb dL_law_382 ?_
  refine va_sld hx hb hC.2.2.2.2.2.1 hC.2.2.2.2.2.2 hbA hLW.2.2 (law_in hi (k := 4) (by decide)) dL_law_383 ?_
  refine lv_aload_n hx hb dL_law_384 rfl (lv_at hl 3 rfl) ?_
  refine lv_iload_n hx hb dL_law_385 rfl (lv_at hl 0 rfl) ?_
  refine lv_iconst (v := 5) hx hb dL_law_386 (by decide) ?_
  refine lv_iadd hx hb dL_law_387 ?_
  refine va_sld hx hb hC.2.2.2.2.2.1 hC.2.2.2.2.2.2 hbA hLW.2.2 (law_in hi (k := 5) (by decide)) dL_law_388 ?_
  refine lv_aload_n hx hb dL_law_389 rfl (lv_at hl 3 rfl) ?_
  refine lv_iload_n hx hb dL_law_390 rfl (lv_at hl 0 rfl) ?_
  refine lv_bipush (v := 6) hx hb dL_law_391 (by decide) ?_
  refine lv_iadd hx hb dL_law_393 ?_
  refine va_sld hx hb hC.2.2.2.2.2.1 hC.2.2.2.2.2.2 hbA hLW.2.2 (law_in hi (k := 6) (by decide)) dL_law_394 ?_
  refine lv_aload_n hx hb dL_law_395 rfl (lv_at hl 3 rfl) ?_
  refine lv_iload_n hx hb dL_law_396 rfl (lv_at hl 0 rfl) ?_
  refine lv_bipush (v := 7) hx hb dL_law_397 (by decide) ?_
  refine lv_iadd hx hb dL_law_399 ?_
  refine va_sld hx hb hC.2.2.2.2.2.1 hC.2.2.2.2.2.2 hbA hLW.2.2 (law_in hi (k := 7) (by decide)) dL_law_400 ?_
  refine lawM_i [.int (xs (x3 + 1).toNatClampNeg), .int (xs (x3 + 2).toNatClampNeg), .int (xs (x3 + 3).toNatClampNeg), .int (xs (x3 + 4).toNatClampNeg), .int (xs (x3 + 5).toNatClampNeg), .int (xs (x3 + 6).toNatClampNeg), .int (xs (x3 + 7).toNatClampNeg)] [.int v] hC hLW (c_X10_comes l G (AM G) T (xs (x3 + 1).toNatClampNeg) (xs (x3 + 2).toNatClampNeg) (xs (x3 + 3).toNatClampNeg) (xs (x3 + 4).toNatClampNeg) (xs (x3 + 5).toNatClampNeg) (xs (x3 + 6).toNatClampNeg) (xs (x3 + 7).toNatClampNeg) _ h2) (cwV 7 hts gL_law_X10_comes rfl rfl rfl (by decide +kernel) ⟨Nat.le_of_ble_eq_true rfl, Nat.le_of_ble_eq_true rfl⟩) rfl rfl hl.1 rfl (Nat.le_of_ble_eq_true rfl) dL_law_401 (fun H locs hLW => ?_)
  refine lv_icmp_eq (tgt := 952) hx hb dL_law_404 (by decide) (fun _ => next _ _ _ _ _ hI hLW hl) (fun hne => absurd rfl hne)
set_option maxRecDepth 100000 in
set_option maxHeartbeats 4000000 in
theorem law_7 {p : Program} {l : Launch} {e : Env} {s : State} {m : MethodId} {below : List Frame} {meth : Method} {c : Code} {H : Heap} {locs : List Loc} {Q : State → Prop} {b L : Nat} {xs : Nat → Int32} {G : Gt} {ls : Array Slot} {S T : St} {n N : Nat} {x3 : Int32} (hC : LC p s m meth c b L xs G) (hLW : LW G s S T H locs) (hl : lv_has ls 4 [(3, .int x3), (2, .ref (gM G 0)), (1, .ref (gC G 0)), (0, .ref b)]) (hi : 0 ≤ x3.toInt ∧ x3.toInt + 8 ≤ (L : Int) ∧ L ≤ 4096) (hp : ∃ (v : Int32) (S' T' : St), f_X9_best N S (xs (x3 + 1).toNatClampNeg) (xs (x3 + 2).toNatClampNeg) (xs (x3 + 3).toNatClampNeg) (xs (x3 + 4).toNatClampNeg) = some (v, S') ∧ f_X10_best N T (xs (x3 + 1).toNatClampNeg) (xs (x3 + 2).toNatClampNeg) (xs (x3 + 3).toNatClampNeg) (xs (x3 + 4).toNatClampNeg) = some (v, T') ∧ Inv (n + 1) S' T')
    (next : ∀ (S T : St) (H : Heap) (locs : List Loc) (ls : Array Slot), Inv (n + 1) S T → LW G s S T H locs → lv_has ls 4 [(3, .int x3), (2, .ref (gM G 0)), (1, .ref (gC G 0)), (0, .ref b)] → W p l e room_1 s m #[Value.ref b] below meth c H locs 58 7489 Q (F0 m 952 ls [])) : W p l e room_1 s m #[Value.ref b] below meth c H locs 58 7489 Q (F0 m 409 ls []) := by
  obtain ⟨hx, hb, hml, hown, hts⟩ := id hC.1
  have hbA : ¬ (fun q : Nat => s.heap.size ≤ q) b := Nat.not_le.mpr hC.2.2.2.2.2.2
  obtain ⟨v, S', T', h1, h2, hI⟩ := hp
  refine lv_aload_n hx hb dL_law_409 rfl (lv_at hl 2 rfl) ?_
  refine lv_aload_n hx hb dL_law_410 rfl (lv_at hl 3 rfl) ?_
  refine lv_iload_n hx hb dL_law_411 rfl (lv_at hl 0 rfl) ?_
  refine lv_iconst (v := 1) hx hb dL_law_412 (by decide) ?_
  refine lv_iadd hx hb dL_law_413 ?_
  refine va_sld hx hb hC.2.2.2.2.2.1 hC.2.2.2.2.2.2 hbA hLW.2.2 (law_in hi (k := 1) (by decide)) dL_law_414 ?_
  refine lv_aload_n hx hb dL_law_415 rfl (lv_at hl 3 rfl) ?_
  refine lv_iload_n hx hb dL_law_416 rfl (lv_at hl 0 rfl) ?_
  refine lv_iconst (v := 2) hx hb dL_law_417 (by decide) ?_
  refine lv_iadd hx hb dL_law_418 ?_
  refine va_sld hx hb hC.2.2.2.2.2.1 hC.2.2.2.2.2.2 hbA hLW.2.2 (law_in hi (k := 2) (by decide)) dL_law_419 ?_
  refine lv_aload_n hx hb dL_law_420 rfl (lv_at hl 3 rfl) ?_
  refine lv_iload_n hx hb dL_law_421 rfl (lv_at hl 0 rfl) ?_
  refine lv_iconst (v := 3) hx hb dL_law_422 (by decide) ?_
  refine lv_iadd hx hb dL_law_423 ?_
  refine va_sld hx hb hC.2.2.2.2.2.1 hC.2.2.2.2.2.2 hbA hLW.2.2 (law_in hi (k := 3) (by decide)) dL_law_424 ?_
  refine lv_aload_n hx hb dL_law_425 rfl (lv_at hl 3 rfl) ?_
  refine lv_iload_n hx hb dL_law_426 rfl (lv_at hl 0 rfl) ?_
  refine lv_iconst (v := 4) hx hb dL_law_427 (by decide) ?_
  refine lv_iadd hx hb dL_law_428 ?_
  refine va_sld hx hb hC.2.2.2.2.2.1 hC.2.2.2.2.2.2 hbA hLW.2.2 (law_in hi (k := 4) (by decide)) dL_law_429 ?_
  refine lawC_i [.int (xs (x3 + 1).toNatClampNeg), .int (xs (x3 + 2).toNatClampNeg), .int (xs (x3 + 3).toNatClampNeg), .int (xs (x3 + 4).toNatClampNeg)] [] hC hLW (c_X9_best l G (AC G) N S (xs (x3 + 1).toNatClampNeg) (xs (x3 + 2).toNatClampNeg) (xs (x3 + 3).toNatClampNeg) (xs (x3 + 4).toNatClampNeg) _ h1) (cwV 4 hts gL_law_X9_best rfl rfl rfl (by decide +kernel) ⟨Nat.le_of_ble_eq_true rfl, Nat.le_of_ble_eq_true rfl⟩) rfl rfl hl.1 rfl (Nat.le_of_ble_eq_true rfl) dL_law_430 (fun H locs hLW => ?_)
  refine lv_aload_n hx hb dL_law_433 rfl (lv_at hl 1 rfl) ?_
  refine lv_aload_n hx hb dL_law_434 rfl (lv_at hl 3 rfl) ?_
  refine lv_iload_n hx hb dL_law_435 rfl (lv_at hl 0 rfl) ?_
  refine lv_iconst (v := 1) hx hb dL_law_436 (by decide) ?_
  refine lv_iadd hx hb dL_law_437 ?_
  refine va_sld hx hb hC.2.2.2.2.2.1 hC.2.2.2.2.2.2 hbA hLW.2.2 (law_in hi (k := 1) (by decide)) dL_law_438 ?_
  refine lv_aload_n hx hb dL_law_439 rfl (lv_at hl 3 rfl) ?_
  refine lv_iload_n hx hb dL_law_440 rfl (lv_at hl 0 rfl) ?_
  refine lv_iconst (v := 2) hx hb dL_law_441 (by decide) ?_
  refine lv_iadd hx hb dL_law_442 ?_
  refine va_sld hx hb hC.2.2.2.2.2.1 hC.2.2.2.2.2.2 hbA hLW.2.2 (law_in hi (k := 2) (by decide)) dL_law_443 ?_
  refine lv_aload_n hx hb dL_law_444 rfl (lv_at hl 3 rfl) ?_
  refine lv_iload_n hx hb dL_law_445 rfl (lv_at hl 0 rfl) ?_
  refine lv_iconst (v := 3) hx hb dL_law_446 (by decide) ?_
  refine lv_iadd hx hb dL_law_447 ?_
  refine va_sld hx hb hC.2.2.2.2.2.1 hC.2.2.2.2.2.2 hbA hLW.2.2 (law_in hi (k := 3) (by decide)) dL_law_448 ?_
  refine lv_aload_n hx hb dL_law_449 rfl (lv_at hl 3 rfl) ?_
  refine lv_iload_n hx hb dL_law_450 rfl (lv_at hl 0 rfl) ?_
  refine lv_iconst (v := 4) hx hb dL_law_451 (by decide) ?_
  refine lv_iadd hx hb dL_law_452 ?_
  refine va_sld hx hb hC.2.2.2.2.2.1 hC.2.2.2.2.2.2 hbA hLW.2.2 (law_in hi (k := 4) (by decide)) dL_law_453 ?_
  refine lawM_i [.int (xs (x3 + 1).toNatClampNeg), .int (xs (x3 + 2).toNatClampNeg), .int (xs (x3 + 3).toNatClampNeg), .int (xs (x3 + 4).toNatClampNeg)] [.int v] hC hLW (c_X10_best l G (AM G) N T (xs (x3 + 1).toNatClampNeg) (xs (x3 + 2).toNatClampNeg) (xs (x3 + 3).toNatClampNeg) (xs (x3 + 4).toNatClampNeg) _ h2) (cwV 4 hts gL_law_X10_best rfl rfl rfl (by decide +kernel) ⟨Nat.le_of_ble_eq_true rfl, Nat.le_of_ble_eq_true rfl⟩) rfl rfl hl.1 rfl (Nat.le_of_ble_eq_true rfl) dL_law_454 (fun H locs hLW => ?_)
  refine lv_icmp_eq (tgt := 952) hx hb dL_law_457 (by decide) (fun _ => next _ _ _ _ _ hI hLW hl) (fun hne => absurd rfl hne)
set_option maxRecDepth 100000 in
set_option maxHeartbeats 4000000 in
theorem law_8 {p : Program} {l : Launch} {e : Env} {s : State} {m : MethodId} {below : List Frame} {meth : Method} {c : Code} {H : Heap} {locs : List Loc} {Q : State → Prop} {b L : Nat} {xs : Nat → Int32} {G : Gt} {ls : Array Slot} {S T : St} {n N : Nat} {x3 : Int32} (hC : LC p s m meth c b L xs G) (hLW : LW G s S T H locs) (hl : lv_has ls 4 [(3, .int x3), (2, .ref (gM G 0)), (1, .ref (gC G 0)), (0, .ref b)]) (hi : 0 ≤ x3.toInt ∧ x3.toInt + 8 ≤ (L : Int) ∧ L ≤ 4096) (hp : ∃ (v : Int32) (S' T' : St), f_X9_runs N S (xs (x3 + 1).toNatClampNeg) (xs (x3 + 2).toNatClampNeg) = some (v, S') ∧ f_X10_runs N T (xs (x3 + 1).toNatClampNeg) (xs (x3 + 2).toNatClampNeg) = some (v, T') ∧ Inv (n + 1) S' T')
    (next : ∀ (S T : St) (H : Heap) (locs : List Loc) (ls : Array Slot), Inv (n + 1) S T → LW G s S T H locs → lv_has ls 4 [(3, .int x3), (2, .ref (gM G 0)), (1, .ref (gC G 0)), (0, .ref b)] → W p l e room_1 s m #[Value.ref b] below meth c H locs 58 7489 Q (F0 m 952 ls [])) : W p l e room_1 s m #[Value.ref b] below meth c H locs 58 7489 Q (F0 m 462 ls []) := by
  obtain ⟨hx, hb, hml, hown, hts⟩ := id hC.1
  have hbA : ¬ (fun q : Nat => s.heap.size ≤ q) b := Nat.not_le.mpr hC.2.2.2.2.2.2
  obtain ⟨v, S', T', h1, h2, hI⟩ := hp
  refine lv_aload_n hx hb dL_law_462 rfl (lv_at hl 2 rfl) ?_
  refine lv_aload_n hx hb dL_law_463 rfl (lv_at hl 3 rfl) ?_
  refine lv_iload_n hx hb dL_law_464 rfl (lv_at hl 0 rfl) ?_
  refine lv_iconst (v := 1) hx hb dL_law_465 (by decide) ?_
  refine lv_iadd hx hb dL_law_466 ?_
  refine va_sld hx hb hC.2.2.2.2.2.1 hC.2.2.2.2.2.2 hbA hLW.2.2 (law_in hi (k := 1) (by decide)) dL_law_467 ?_
  refine lv_aload_n hx hb dL_law_468 rfl (lv_at hl 3 rfl) ?_
  refine lv_iload_n hx hb dL_law_469 rfl (lv_at hl 0 rfl) ?_
  refine lv_iconst (v := 2) hx hb dL_law_470 (by decide) ?_
  refine lv_iadd hx hb dL_law_471 ?_
  refine va_sld hx hb hC.2.2.2.2.2.1 hC.2.2.2.2.2.2 hbA hLW.2.2 (law_in hi (k := 2) (by decide)) dL_law_472 ?_
  refine lawC_i [.int (xs (x3 + 1).toNatClampNeg), .int (xs (x3 + 2).toNatClampNeg)] [] hC hLW (c_X9_runs l G (AC G) N S (xs (x3 + 1).toNatClampNeg) (xs (x3 + 2).toNatClampNeg) _ h1) (cwV 2 hts gL_law_X9_runs rfl rfl rfl (by decide +kernel) ⟨Nat.le_of_ble_eq_true rfl, Nat.le_of_ble_eq_true rfl⟩) rfl rfl hl.1 rfl (Nat.le_of_ble_eq_true rfl) dL_law_473 (fun H locs hLW => ?_)
  refine lv_aload_n hx hb dL_law_476 rfl (lv_at hl 1 rfl) ?_
  refine lv_aload_n hx hb dL_law_477 rfl (lv_at hl 3 rfl) ?_
  refine lv_iload_n hx hb dL_law_478 rfl (lv_at hl 0 rfl) ?_
  refine lv_iconst (v := 1) hx hb dL_law_479 (by decide) ?_
  refine lv_iadd hx hb dL_law_480 ?_
  refine va_sld hx hb hC.2.2.2.2.2.1 hC.2.2.2.2.2.2 hbA hLW.2.2 (law_in hi (k := 1) (by decide)) dL_law_481 ?_
  refine lv_aload_n hx hb dL_law_482 rfl (lv_at hl 3 rfl) ?_
  refine lv_iload_n hx hb dL_law_483 rfl (lv_at hl 0 rfl) ?_
  refine lv_iconst (v := 2) hx hb dL_law_484 (by decide) ?_
  refine lv_iadd hx hb dL_law_485 ?_
  refine va_sld hx hb hC.2.2.2.2.2.1 hC.2.2.2.2.2.2 hbA hLW.2.2 (law_in hi (k := 2) (by decide)) dL_law_486 ?_
  refine lawM_i [.int (xs (x3 + 1).toNatClampNeg), .int (xs (x3 + 2).toNatClampNeg)] [.int v] hC hLW (c_X10_runs l G (AM G) N T (xs (x3 + 1).toNatClampNeg) (xs (x3 + 2).toNatClampNeg) _ h2) (cwV 2 hts gL_law_X10_runs rfl rfl rfl (by decide +kernel) ⟨Nat.le_of_ble_eq_true rfl, Nat.le_of_ble_eq_true rfl⟩) rfl rfl hl.1 rfl (Nat.le_of_ble_eq_true rfl) dL_law_487 (fun H locs hLW => ?_)
  refine lv_icmp_eq (tgt := 952) hx hb dL_law_490 (by decide) (fun _ => next _ _ _ _ _ hI hLW hl) (fun hne => absurd rfl hne)
set_option maxRecDepth 100000 in
set_option maxHeartbeats 4000000 in
theorem law_9 {p : Program} {l : Launch} {e : Env} {s : State} {m : MethodId} {below : List Frame} {meth : Method} {c : Code} {H : Heap} {locs : List Loc} {Q : State → Prop} {b L : Nat} {xs : Nat → Int32} {G : Gt} {ls : Array Slot} {S T : St} {n N : Nat} {x3 : Int32} (hC : LC p s m meth c b L xs G) (hLW : LW G s S T H locs) (hl : lv_has ls 4 [(3, .int x3), (2, .ref (gM G 0)), (1, .ref (gC G 0)), (0, .ref b)]) (hi : 0 ≤ x3.toInt ∧ x3.toInt + 8 ≤ (L : Int) ∧ L ≤ 4096) (hp : ∃ (v : Int32) (S' T' : St), f_X9_toss N S (xs (x3 + 1).toNatClampNeg) (xs (x3 + 2).toNatClampNeg) (xs (x3 + 3).toNatClampNeg) (xs (x3 + 4).toNatClampNeg) (xs (x3 + 5).toNatClampNeg) = some (v, S') ∧ f_X10_toss N T (xs (x3 + 1).toNatClampNeg) (xs (x3 + 2).toNatClampNeg) (xs (x3 + 3).toNatClampNeg) (xs (x3 + 4).toNatClampNeg) (xs (x3 + 5).toNatClampNeg) = some (v, T') ∧ Inv (n + 1) S' T')
    (next : ∀ (S T : St) (H : Heap) (locs : List Loc) (ls : Array Slot), Inv (n + 1) S T → LW G s S T H locs → lv_has ls 4 [(3, .int x3), (2, .ref (gM G 0)), (1, .ref (gC G 0)), (0, .ref b)] → W p l e room_1 s m #[Value.ref b] below meth c H locs 58 7489 Q (F0 m 952 ls [])) : W p l e room_1 s m #[Value.ref b] below meth c H locs 58 7489 Q (F0 m 495 ls []) := by
  obtain ⟨hx, hb, hml, hown, hts⟩ := id hC.1
  have hbA : ¬ (fun q : Nat => s.heap.size ≤ q) b := Nat.not_le.mpr hC.2.2.2.2.2.2
  obtain ⟨v, S', T', h1, h2, hI⟩ := hp
  refine lv_aload_n hx hb dL_law_495 rfl (lv_at hl 2 rfl) ?_
  refine lv_aload_n hx hb dL_law_496 rfl (lv_at hl 3 rfl) ?_
  refine lv_iload_n hx hb dL_law_497 rfl (lv_at hl 0 rfl) ?_
  refine lv_iconst (v := 1) hx hb dL_law_498 (by decide) ?_
  refine lv_iadd hx hb dL_law_499 ?_
  refine va_sld hx hb hC.2.2.2.2.2.1 hC.2.2.2.2.2.2 hbA hLW.2.2 (law_in hi (k := 1) (by decide)) dL_law_500 ?_
  refine lv_aload_n hx hb dL_law_501 rfl (lv_at hl 3 rfl) ?_
  refine lv_iload_n hx hb dL_law_502 rfl (lv_at hl 0 rfl) ?_
  refine lv_iconst (v := 2) hx hb dL_law_503 (by decide) ?_
  refine lv_iadd hx hb dL_law_504 ?_
  refine va_sld hx hb hC.2.2.2.2.2.1 hC.2.2.2.2.2.2 hbA hLW.2.2 (law_in hi (k := 2) (by decide)) dL_law_505 ?_
  refine lv_aload_n hx hb dL_law_506 rfl (lv_at hl 3 rfl) ?_
  refine lv_iload_n hx hb dL_law_507 rfl (lv_at hl 0 rfl) ?_
  refine lv_iconst (v := 3) hx hb dL_law_508 (by decide) ?_
  refine lv_iadd hx hb dL_law_509 ?_
  refine va_sld hx hb hC.2.2.2.2.2.1 hC.2.2.2.2.2.2 hbA hLW.2.2 (law_in hi (k := 3) (by decide)) dL_law_510 ?_
  refine lv_aload_n hx hb dL_law_511 rfl (lv_at hl 3 rfl) ?_
  refine lv_iload_n hx hb dL_law_512 rfl (lv_at hl 0 rfl) ?_
  refine lv_iconst (v := 4) hx hb dL_law_513 (by decide) ?_
  refine lv_iadd hx hb dL_law_514 ?_
  refine va_sld hx hb hC.2.2.2.2.2.1 hC.2.2.2.2.2.2 hbA hLW.2.2 (law_in hi (k := 4) (by decide)) dL_law_515 ?_
  refine lv_aload_n hx hb dL_law_516 rfl (lv_at hl 3 rfl) ?_
  refine lv_iload_n hx hb dL_law_517 rfl (lv_at hl 0 rfl) ?_
  refine lv_iconst (v := 5) hx hb dL_law_518 (by decide) ?_
  refine lv_iadd hx hb dL_law_519 ?_
  refine va_sld hx hb hC.2.2.2.2.2.1 hC.2.2.2.2.2.2 hbA hLW.2.2 (law_in hi (k := 5) (by decide)) dL_law_520 ?_
  refine lawC_i [.int (xs (x3 + 1).toNatClampNeg), .int (xs (x3 + 2).toNatClampNeg), .int (xs (x3 + 3).toNatClampNeg), .int (xs (x3 + 4).toNatClampNeg), .int (xs (x3 + 5).toNatClampNeg)] [] hC hLW (c_X9_toss l G (AC G) N S (xs (x3 + 1).toNatClampNeg) (xs (x3 + 2).toNatClampNeg) (xs (x3 + 3).toNatClampNeg) (xs (x3 + 4).toNatClampNeg) (xs (x3 + 5).toNatClampNeg) _ h1) (cwV 5 hts gL_law_X9_toss rfl rfl rfl (by decide +kernel) ⟨Nat.le_of_ble_eq_true rfl, Nat.le_of_ble_eq_true rfl⟩) rfl rfl hl.1 rfl (Nat.le_of_ble_eq_true rfl) dL_law_521 (fun H locs hLW => ?_)
  refine lv_aload_n hx hb dL_law_524 rfl (lv_at hl 1 rfl) ?_
  refine lv_aload_n hx hb dL_law_525 rfl (lv_at hl 3 rfl) ?_
  refine lv_iload_n hx hb dL_law_526 rfl (lv_at hl 0 rfl) ?_
  refine lv_iconst (v := 1) hx hb dL_law_527 (by decide) ?_
  refine lv_iadd hx hb dL_law_528 ?_
  refine va_sld hx hb hC.2.2.2.2.2.1 hC.2.2.2.2.2.2 hbA hLW.2.2 (law_in hi (k := 1) (by decide)) dL_law_529 ?_
  refine lv_aload_n hx hb dL_law_530 rfl (lv_at hl 3 rfl) ?_
  refine lv_iload_n hx hb dL_law_531 rfl (lv_at hl 0 rfl) ?_
  refine lv_iconst (v := 2) hx hb dL_law_532 (by decide) ?_
  refine lv_iadd hx hb dL_law_533 ?_
  refine va_sld hx hb hC.2.2.2.2.2.1 hC.2.2.2.2.2.2 hbA hLW.2.2 (law_in hi (k := 2) (by decide)) dL_law_534 ?_
  refine lv_aload_n hx hb dL_law_535 rfl (lv_at hl 3 rfl) ?_
  refine lv_iload_n hx hb dL_law_536 rfl (lv_at hl 0 rfl) ?_
  refine lv_iconst (v := 3) hx hb dL_law_537 (by decide) ?_
  refine lv_iadd hx hb dL_law_538 ?_
  refine va_sld hx hb hC.2.2.2.2.2.1 hC.2.2.2.2.2.2 hbA hLW.2.2 (law_in hi (k := 3) (by decide)) dL_law_539 ?_
  refine lv_aload_n hx hb dL_law_540 rfl (lv_at hl 3 rfl) ?_
  refine lv_iload_n hx hb dL_law_541 rfl (lv_at hl 0 rfl) ?_
  refine lv_iconst (v := 4) hx hb dL_law_542 (by decide) ?_
  refine lv_iadd hx hb dL_law_543 ?_
  refine va_sld hx hb hC.2.2.2.2.2.1 hC.2.2.2.2.2.2 hbA hLW.2.2 (law_in hi (k := 4) (by decide)) dL_law_544 ?_
  refine lv_aload_n hx hb dL_law_545 rfl (lv_at hl 3 rfl) ?_
  refine lv_iload_n hx hb dL_law_546 rfl (lv_at hl 0 rfl) ?_
  refine lv_iconst (v := 5) hx hb dL_law_547 (by decide) ?_
  refine lv_iadd hx hb dL_law_548 ?_
  refine va_sld hx hb hC.2.2.2.2.2.1 hC.2.2.2.2.2.2 hbA hLW.2.2 (law_in hi (k := 5) (by decide)) dL_law_549 ?_
  refine lawM_i [.int (xs (x3 + 1).toNatClampNeg), .int (xs (x3 + 2).toNatClampNeg), .int (xs (x3 + 3).toNatClampNeg), .int (xs (x3 + 4).toNatClampNeg), .int (xs (x3 + 5).toNatClampNeg)] [.int v] hC hLW (c_X10_toss l G (AM G) N T (xs (x3 + 1).toNatClampNeg) (xs (x3 + 2).toNatClampNeg) (xs (x3 + 3).toNatClampNeg) (xs (x3 + 4).toNatClampNeg) (xs (x3 + 5).toNatClampNeg) _ h2) (cwV 5 hts gL_law_X10_toss rfl rfl rfl (by decide +kernel) ⟨Nat.le_of_ble_eq_true rfl, Nat.le_of_ble_eq_true rfl⟩) rfl rfl hl.1 rfl (Nat.le_of_ble_eq_true rfl) dL_law_550 (fun H locs hLW => ?_)
  refine lv_icmp_eq (tgt := 952) hx hb dL_law_553 (by decide) (fun _ => next _ _ _ _ _ hI hLW hl) (fun hne => absurd rfl hne)
set_option maxRecDepth 100000 in
set_option maxHeartbeats 4000000 in
theorem law_10 {p : Program} {l : Launch} {e : Env} {s : State} {m : MethodId} {below : List Frame} {meth : Method} {c : Code} {H : Heap} {locs : List Loc} {Q : State → Prop} {b L : Nat} {xs : Nat → Int32} {G : Gt} {ls : Array Slot} {S T : St} {n N : Nat} {x3 : Int32} (hC : LC p s m meth c b L xs G) (hLW : LW G s S T H locs) (hl : lv_has ls 4 [(3, .int x3), (2, .ref (gM G 0)), (1, .ref (gC G 0)), (0, .ref b)]) (hi : 0 ≤ x3.toInt ∧ x3.toInt + 8 ≤ (L : Int) ∧ L ≤ 4096) (hp : ∃ (v : Int32) (S' T' : St), f_X9_undo S = some (v, S') ∧ f_X10_undo N T = some (v, T') ∧ Inv (n + 1) S' T')
    (next : ∀ (S T : St) (H : Heap) (locs : List Loc) (ls : Array Slot), Inv (n + 1) S T → LW G s S T H locs → lv_has ls 4 [(3, .int x3), (2, .ref (gM G 0)), (1, .ref (gC G 0)), (0, .ref b)] → W p l e room_1 s m #[Value.ref b] below meth c H locs 58 7489 Q (F0 m 952 ls [])) : W p l e room_1 s m #[Value.ref b] below meth c H locs 58 7489 Q (F0 m 558 ls []) := by
  obtain ⟨hx, hb, hml, hown, hts⟩ := id hC.1
  have hbA : ¬ (fun q : Nat => s.heap.size ≤ q) b := Nat.not_le.mpr hC.2.2.2.2.2.2
  obtain ⟨v, S', T', h1, h2, hI⟩ := hp
  refine lv_aload_n hx hb dL_law_558 rfl (lv_at hl 2 rfl) ?_
  refine lawC_i [] [] hC hLW (c_X9_undo l G (AC G) S  _ h1) (cwV 0 hts gL_law_X9_undo rfl rfl rfl (by decide +kernel) ⟨Nat.le_of_ble_eq_true rfl, Nat.le_of_ble_eq_true rfl⟩) rfl rfl hl.1 rfl (Nat.le_of_ble_eq_true rfl) dL_law_559 (fun H locs hLW => ?_)
  refine lv_aload_n hx hb dL_law_562 rfl (lv_at hl 1 rfl) ?_
  refine lawM_i [] [.int v] hC hLW (c_X10_undo l G (AM G) N T  _ h2) (cwV 0 hts gL_law_X10_undo rfl rfl rfl (by decide +kernel) ⟨Nat.le_of_ble_eq_true rfl, Nat.le_of_ble_eq_true rfl⟩) rfl rfl hl.1 rfl (Nat.le_of_ble_eq_true rfl) dL_law_563 (fun H locs hLW => ?_)
  refine lv_icmp_eq (tgt := 952) hx hb dL_law_566 (by decide) (fun _ => next _ _ _ _ _ hI hLW hl) (fun hne => absurd rfl hne)
set_option maxRecDepth 100000 in
set_option maxHeartbeats 4000000 in
theorem law_11 {p : Program} {l : Launch} {e : Env} {s : State} {m : MethodId} {below : List Frame} {meth : Method} {c : Code} {H : Heap} {locs : List Loc} {Q : State → Prop} {b L : Nat} {xs : Nat → Int32} {G : Gt} {ls : Array Slot} {S T : St} {n N : Nat} {x3 : Int32} (hC : LC p s m meth c b L xs G) (hLW : LW G s S T H locs) (hl : lv_has ls 4 [(3, .int x3), (2, .ref (gM G 0)), (1, .ref (gC G 0)), (0, .ref b)]) (hi : 0 ≤ x3.toInt ∧ x3.toInt + 8 ≤ (L : Int) ∧ L ≤ 4096) (hp : ∃ (v : Int32) (S' T' : St), f_X9_lot S (xs (x3 + 1).toNatClampNeg) = some (v, S') ∧ f_X10_lot T (xs (x3 + 1).toNatClampNeg) = some (v, T') ∧ Inv (n + 1) S' T')
    (next : ∀ (S T : St) (H : Heap) (locs : List Loc) (ls : Array Slot), Inv (n + 1) S T → LW G s S T H locs → lv_has ls 4 [(3, .int x3), (2, .ref (gM G 0)), (1, .ref (gC G 0)), (0, .ref b)] → W p l e room_1 s m #[Value.ref b] below meth c H locs 58 7489 Q (F0 m 952 ls [])) : W p l e room_1 s m #[Value.ref b] below meth c H locs 58 7489 Q (F0 m 571 ls []) := by
  obtain ⟨hx, hb, hml, hown, hts⟩ := id hC.1
  have hbA : ¬ (fun q : Nat => s.heap.size ≤ q) b := Nat.not_le.mpr hC.2.2.2.2.2.2
  obtain ⟨v, S', T', h1, h2, hI⟩ := hp
  refine lv_aload_n hx hb dL_law_571 rfl (lv_at hl 2 rfl) ?_
  refine lv_aload_n hx hb dL_law_572 rfl (lv_at hl 3 rfl) ?_
  refine lv_iload_n hx hb dL_law_573 rfl (lv_at hl 0 rfl) ?_
  refine lv_iconst (v := 1) hx hb dL_law_574 (by decide) ?_
  refine lv_iadd hx hb dL_law_575 ?_
  refine va_sld hx hb hC.2.2.2.2.2.1 hC.2.2.2.2.2.2 hbA hLW.2.2 (law_in hi (k := 1) (by decide)) dL_law_576 ?_
  refine lawC_i [.int (xs (x3 + 1).toNatClampNeg)] [] hC hLW (c_X9_lot l G (AC G) S (xs (x3 + 1).toNatClampNeg) _ h1) (cwV 1 hts gL_law_X9_lot rfl rfl rfl (by decide +kernel) ⟨Nat.le_of_ble_eq_true rfl, Nat.le_of_ble_eq_true rfl⟩) rfl rfl hl.1 rfl (Nat.le_of_ble_eq_true rfl) dL_law_577 (fun H locs hLW => ?_)
  refine lv_aload_n hx hb dL_law_580 rfl (lv_at hl 1 rfl) ?_
  refine lv_aload_n hx hb dL_law_581 rfl (lv_at hl 3 rfl) ?_
  refine lv_iload_n hx hb dL_law_582 rfl (lv_at hl 0 rfl) ?_
  refine lv_iconst (v := 1) hx hb dL_law_583 (by decide) ?_
  refine lv_iadd hx hb dL_law_584 ?_
  refine va_sld hx hb hC.2.2.2.2.2.1 hC.2.2.2.2.2.2 hbA hLW.2.2 (law_in hi (k := 1) (by decide)) dL_law_585 ?_
  refine lawM_i [.int (xs (x3 + 1).toNatClampNeg)] [.int v] hC hLW (c_X10_lot l G (AM G) T (xs (x3 + 1).toNatClampNeg) _ h2) (cwV 1 hts gL_law_X10_lot rfl rfl rfl (by decide +kernel) ⟨Nat.le_of_ble_eq_true rfl, Nat.le_of_ble_eq_true rfl⟩) rfl rfl hl.1 rfl (Nat.le_of_ble_eq_true rfl) dL_law_586 (fun H locs hLW => ?_)
  refine lv_icmp_eq (tgt := 952) hx hb dL_law_589 (by decide) (fun _ => next _ _ _ _ _ hI hLW hl) (fun hne => absurd rfl hne)
set_option maxRecDepth 100000 in
set_option maxHeartbeats 4000000 in
theorem law_12 {p : Program} {l : Launch} {e : Env} {s : State} {m : MethodId} {below : List Frame} {meth : Method} {c : Code} {H : Heap} {locs : List Loc} {Q : State → Prop} {b L : Nat} {xs : Nat → Int32} {G : Gt} {ls : Array Slot} {S T : St} {n N : Nat} {x3 : Int32} (hC : LC p s m meth c b L xs G) (hLW : LW G s S T H locs) (hl : lv_has ls 4 [(3, .int x3), (2, .ref (gM G 0)), (1, .ref (gC G 0)), (0, .ref b)]) (hi : 0 ≤ x3.toInt ∧ x3.toInt + 8 ≤ (L : Int) ∧ L ≤ 4096) (hp : ∃ (v : Int32) (S' T' : St), f_X9_home N S (xs (x3 + 1).toNatClampNeg) = some v ∧ f_X10_home N T (xs (x3 + 1).toNatClampNeg) = some (v, T') ∧ S' = S ∧ Inv (n + 1) S' T')
    (next : ∀ (S T : St) (H : Heap) (locs : List Loc) (ls : Array Slot), Inv (n + 1) S T → LW G s S T H locs → lv_has ls 4 [(3, .int x3), (2, .ref (gM G 0)), (1, .ref (gC G 0)), (0, .ref b)] → W p l e room_1 s m #[Value.ref b] below meth c H locs 58 7489 Q (F0 m 952 ls [])) : W p l e room_1 s m #[Value.ref b] below meth c H locs 58 7489 Q (F0 m 594 ls []) := by
  obtain ⟨hx, hb, hml, hown, hts⟩ := id hC.1
  have hbA : ¬ (fun q : Nat => s.heap.size ≤ q) b := Nat.not_le.mpr hC.2.2.2.2.2.2
  obtain ⟨v, S', T', h1, h2, hSS, hI⟩ := hp
  have hSS := hSS.symm
  subst hSS
  refine lv_aload_n hx hb dL_law_594 rfl (lv_at hl 2 rfl) ?_
  refine lv_aload_n hx hb dL_law_595 rfl (lv_at hl 3 rfl) ?_
  refine lv_iload_n hx hb dL_law_596 rfl (lv_at hl 0 rfl) ?_
  refine lv_iconst (v := 1) hx hb dL_law_597 (by decide) ?_
  refine lv_iadd hx hb dL_law_598 ?_
  refine va_sld hx hb hC.2.2.2.2.2.1 hC.2.2.2.2.2.2 hbA hLW.2.2 (law_in hi (k := 1) (by decide)) dL_law_599 ?_
  refine lawC_i [.int (xs (x3 + 1).toNatClampNeg)] [] hC hLW (c_X9_home l G (AC G) N S (xs (x3 + 1).toNatClampNeg) _ h1) (cwV 1 hts gL_law_X9_home rfl rfl rfl (by decide +kernel) ⟨Nat.le_of_ble_eq_true rfl, Nat.le_of_ble_eq_true rfl⟩) rfl rfl hl.1 rfl (Nat.le_of_ble_eq_true rfl) dL_law_600 (fun H locs hLW => ?_)
  refine lv_aload_n hx hb dL_law_603 rfl (lv_at hl 1 rfl) ?_
  refine lv_aload_n hx hb dL_law_604 rfl (lv_at hl 3 rfl) ?_
  refine lv_iload_n hx hb dL_law_605 rfl (lv_at hl 0 rfl) ?_
  refine lv_iconst (v := 1) hx hb dL_law_606 (by decide) ?_
  refine lv_iadd hx hb dL_law_607 ?_
  refine va_sld hx hb hC.2.2.2.2.2.1 hC.2.2.2.2.2.2 hbA hLW.2.2 (law_in hi (k := 1) (by decide)) dL_law_608 ?_
  refine lawM_i [.int (xs (x3 + 1).toNatClampNeg)] [.int v] hC hLW (c_X10_home l G (AM G) N T (xs (x3 + 1).toNatClampNeg) _ h2) (cwV 1 hts gL_law_X10_home rfl rfl rfl (by decide +kernel) ⟨Nat.le_of_ble_eq_true rfl, Nat.le_of_ble_eq_true rfl⟩) rfl rfl hl.1 rfl (Nat.le_of_ble_eq_true rfl) dL_law_609 (fun H locs hLW => ?_)
  refine lv_icmp_eq (tgt := 952) hx hb dL_law_612 (by decide) (fun _ => next _ _ _ _ _ hI hLW hl) (fun hne => absurd rfl hne)
set_option maxRecDepth 100000 in
set_option maxHeartbeats 4000000 in
theorem law_13 {p : Program} {l : Launch} {e : Env} {s : State} {m : MethodId} {below : List Frame} {meth : Method} {c : Code} {H : Heap} {locs : List Loc} {Q : State → Prop} {b L : Nat} {xs : Nat → Int32} {G : Gt} {ls : Array Slot} {S T : St} {n N : Nat} {x3 : Int32} (hC : LC p s m meth c b L xs G) (hLW : LW G s S T H locs) (hl : lv_has ls 4 [(3, .int x3), (2, .ref (gM G 0)), (1, .ref (gC G 0)), (0, .ref b)]) (hi : 0 ≤ x3.toInt ∧ x3.toInt + 8 ≤ (L : Int) ∧ L ≤ 4096) (hp : ∃ (v : Int64) (S' T' : St), f_X9_odds N S (xs (x3 + 1).toNatClampNeg) (xs (x3 + 2).toNatClampNeg) (xs (x3 + 3).toNatClampNeg) = some (v, S') ∧ f_X10_odds N T (xs (x3 + 1).toNatClampNeg) (xs (x3 + 2).toNatClampNeg) (xs (x3 + 3).toNatClampNeg) = some (v, T') ∧ Inv (n + 1) S' T')
    (next : ∀ (S T : St) (H : Heap) (locs : List Loc) (ls : Array Slot), Inv (n + 1) S T → LW G s S T H locs → lv_has ls 4 [(3, .int x3), (2, .ref (gM G 0)), (1, .ref (gC G 0)), (0, .ref b)] → W p l e room_1 s m #[Value.ref b] below meth c H locs 58 7489 Q (F0 m 952 ls [])) : W p l e room_1 s m #[Value.ref b] below meth c H locs 58 7489 Q (F0 m 617 ls []) := by
  obtain ⟨hx, hb, hml, hown, hts⟩ := id hC.1
  have hbA : ¬ (fun q : Nat => s.heap.size ≤ q) b := Nat.not_le.mpr hC.2.2.2.2.2.2
  obtain ⟨v, S', T', h1, h2, hI⟩ := hp
  refine lv_aload_n hx hb dL_law_617 rfl (lv_at hl 2 rfl) ?_
  refine lv_aload_n hx hb dL_law_618 rfl (lv_at hl 3 rfl) ?_
  refine lv_iload_n hx hb dL_law_619 rfl (lv_at hl 0 rfl) ?_
  refine lv_iconst (v := 1) hx hb dL_law_620 (by decide) ?_
  refine lv_iadd hx hb dL_law_621 ?_
  refine va_sld hx hb hC.2.2.2.2.2.1 hC.2.2.2.2.2.2 hbA hLW.2.2 (law_in hi (k := 1) (by decide)) dL_law_622 ?_
  refine lv_aload_n hx hb dL_law_623 rfl (lv_at hl 3 rfl) ?_
  refine lv_iload_n hx hb dL_law_624 rfl (lv_at hl 0 rfl) ?_
  refine lv_iconst (v := 2) hx hb dL_law_625 (by decide) ?_
  refine lv_iadd hx hb dL_law_626 ?_
  refine va_sld hx hb hC.2.2.2.2.2.1 hC.2.2.2.2.2.2 hbA hLW.2.2 (law_in hi (k := 2) (by decide)) dL_law_627 ?_
  refine lv_aload_n hx hb dL_law_628 rfl (lv_at hl 3 rfl) ?_
  refine lv_iload_n hx hb dL_law_629 rfl (lv_at hl 0 rfl) ?_
  refine lv_iconst (v := 3) hx hb dL_law_630 (by decide) ?_
  refine lv_iadd hx hb dL_law_631 ?_
  refine va_sld hx hb hC.2.2.2.2.2.1 hC.2.2.2.2.2.2 hbA hLW.2.2 (law_in hi (k := 3) (by decide)) dL_law_632 ?_
  refine lawC_l [.int (xs (x3 + 1).toNatClampNeg), .int (xs (x3 + 2).toNatClampNeg), .int (xs (x3 + 3).toNatClampNeg)] [] hC hLW (c_X9_odds l G (AC G) N S (xs (x3 + 1).toNatClampNeg) (xs (x3 + 2).toNatClampNeg) (xs (x3 + 3).toNatClampNeg) _ h1) (cwV 3 hts gL_law_X9_odds rfl rfl rfl (by decide +kernel) ⟨Nat.le_of_ble_eq_true rfl, Nat.le_of_ble_eq_true rfl⟩) rfl rfl hl.1 rfl (Nat.le_of_ble_eq_true rfl) dL_law_633 (fun H locs hLW => ?_)
  refine lv_aload_n hx hb dL_law_636 rfl (lv_at hl 1 rfl) ?_
  refine lv_aload_n hx hb dL_law_637 rfl (lv_at hl 3 rfl) ?_
  refine lv_iload_n hx hb dL_law_638 rfl (lv_at hl 0 rfl) ?_
  refine lv_iconst (v := 1) hx hb dL_law_639 (by decide) ?_
  refine lv_iadd hx hb dL_law_640 ?_
  refine va_sld hx hb hC.2.2.2.2.2.1 hC.2.2.2.2.2.2 hbA hLW.2.2 (law_in hi (k := 1) (by decide)) dL_law_641 ?_
  refine lv_aload_n hx hb dL_law_642 rfl (lv_at hl 3 rfl) ?_
  refine lv_iload_n hx hb dL_law_643 rfl (lv_at hl 0 rfl) ?_
  refine lv_iconst (v := 2) hx hb dL_law_644 (by decide) ?_
  refine lv_iadd hx hb dL_law_645 ?_
  refine va_sld hx hb hC.2.2.2.2.2.1 hC.2.2.2.2.2.2 hbA hLW.2.2 (law_in hi (k := 2) (by decide)) dL_law_646 ?_
  refine lv_aload_n hx hb dL_law_647 rfl (lv_at hl 3 rfl) ?_
  refine lv_iload_n hx hb dL_law_648 rfl (lv_at hl 0 rfl) ?_
  refine lv_iconst (v := 3) hx hb dL_law_649 (by decide) ?_
  refine lv_iadd hx hb dL_law_650 ?_
  refine va_sld hx hb hC.2.2.2.2.2.1 hC.2.2.2.2.2.2 hbA hLW.2.2 (law_in hi (k := 3) (by decide)) dL_law_651 ?_
  refine lawM_l [.int (xs (x3 + 1).toNatClampNeg), .int (xs (x3 + 2).toNatClampNeg), .int (xs (x3 + 3).toNatClampNeg)] [.long v] hC hLW (c_X10_odds l G (AM G) N T (xs (x3 + 1).toNatClampNeg) (xs (x3 + 2).toNatClampNeg) (xs (x3 + 3).toNatClampNeg) _ h2) (cwV 3 hts gL_law_X10_odds rfl rfl rfl (by decide +kernel) ⟨Nat.le_of_ble_eq_true rfl, Nat.le_of_ble_eq_true rfl⟩) rfl rfl hl.1 rfl (Nat.le_of_ble_eq_true rfl) dL_law_652 (fun H locs hLW => ?_)
  refine W.lcmp hx hb dL_law_655 ?_
  refine lv_if_eq (tgt := 952) hx hb dL_law_656 (by decide) (fun _ => next _ _ _ _ _ hI hLW hl) (fun hne => absurd (lg_cmp_self _) hne)
set_option maxRecDepth 100000 in
set_option maxHeartbeats 4000000 in
theorem law_14 {p : Program} {l : Launch} {e : Env} {s : State} {m : MethodId} {below : List Frame} {meth : Method} {c : Code} {H : Heap} {locs : List Loc} {Q : State → Prop} {b L : Nat} {xs : Nat → Int32} {G : Gt} {ls : Array Slot} {S T : St} {n N : Nat} {x3 : Int32} (hC : LC p s m meth c b L xs G) (hLW : LW G s S T H locs) (hl : lv_has ls 4 [(3, .int x3), (2, .ref (gM G 0)), (1, .ref (gC G 0)), (0, .ref b)]) (hi : 0 ≤ x3.toInt ∧ x3.toInt + 8 ≤ (L : Int) ∧ L ≤ 4096) (hp : ∃ (v : Int32) (S' T' : St), f_X9_enough N S (xs (x3 + 1).toNatClampNeg) (xs (x3 + 2).toNatClampNeg) = some (v, S') ∧ f_X10_enough N T (xs (x3 + 1).toNatClampNeg) (xs (x3 + 2).toNatClampNeg) = some (v, T') ∧ Inv (n + 1) S' T')
    (next : ∀ (S T : St) (H : Heap) (locs : List Loc) (ls : Array Slot), Inv (n + 1) S T → LW G s S T H locs → lv_has ls 4 [(3, .int x3), (2, .ref (gM G 0)), (1, .ref (gC G 0)), (0, .ref b)] → W p l e room_1 s m #[Value.ref b] below meth c H locs 58 7489 Q (F0 m 952 ls [])) : W p l e room_1 s m #[Value.ref b] below meth c H locs 58 7489 Q (F0 m 661 ls []) := by
  obtain ⟨hx, hb, hml, hown, hts⟩ := id hC.1
  have hbA : ¬ (fun q : Nat => s.heap.size ≤ q) b := Nat.not_le.mpr hC.2.2.2.2.2.2
  obtain ⟨v, S', T', h1, h2, hI⟩ := hp
  refine lv_aload_n hx hb dL_law_661 rfl (lv_at hl 2 rfl) ?_
  refine lv_aload_n hx hb dL_law_662 rfl (lv_at hl 3 rfl) ?_
  refine lv_iload_n hx hb dL_law_663 rfl (lv_at hl 0 rfl) ?_
  refine lv_iconst (v := 1) hx hb dL_law_664 (by decide) ?_
  refine lv_iadd hx hb dL_law_665 ?_
  refine va_sld hx hb hC.2.2.2.2.2.1 hC.2.2.2.2.2.2 hbA hLW.2.2 (law_in hi (k := 1) (by decide)) dL_law_666 ?_
  refine lv_aload_n hx hb dL_law_667 rfl (lv_at hl 3 rfl) ?_
  refine lv_iload_n hx hb dL_law_668 rfl (lv_at hl 0 rfl) ?_
  refine lv_iconst (v := 2) hx hb dL_law_669 (by decide) ?_
  refine lv_iadd hx hb dL_law_670 ?_
  refine va_sld hx hb hC.2.2.2.2.2.1 hC.2.2.2.2.2.2 hbA hLW.2.2 (law_in hi (k := 2) (by decide)) dL_law_671 ?_
  refine lawC_i [.int (xs (x3 + 1).toNatClampNeg), .int (xs (x3 + 2).toNatClampNeg)] [] hC hLW (c_X9_enough l G (AC G) N S (xs (x3 + 1).toNatClampNeg) (xs (x3 + 2).toNatClampNeg) _ h1) (cwV 2 hts gL_law_X9_enough rfl rfl rfl (by decide +kernel) ⟨Nat.le_of_ble_eq_true rfl, Nat.le_of_ble_eq_true rfl⟩) rfl rfl hl.1 rfl (Nat.le_of_ble_eq_true rfl) dL_law_672 (fun H locs hLW => ?_)
  refine lv_aload_n hx hb dL_law_675 rfl (lv_at hl 1 rfl) ?_
  refine lv_aload_n hx hb dL_law_676 rfl (lv_at hl 3 rfl) ?_
  refine lv_iload_n hx hb dL_law_677 rfl (lv_at hl 0 rfl) ?_
  refine lv_iconst (v := 1) hx hb dL_law_678 (by decide) ?_
  refine lv_iadd hx hb dL_law_679 ?_
  refine va_sld hx hb hC.2.2.2.2.2.1 hC.2.2.2.2.2.2 hbA hLW.2.2 (law_in hi (k := 1) (by decide)) dL_law_680 ?_
  refine lv_aload_n hx hb dL_law_681 rfl (lv_at hl 3 rfl) ?_
  refine lv_iload_n hx hb dL_law_682 rfl (lv_at hl 0 rfl) ?_
  refine lv_iconst (v := 2) hx hb dL_law_683 (by decide) ?_
  refine lv_iadd hx hb dL_law_684 ?_
  refine va_sld hx hb hC.2.2.2.2.2.1 hC.2.2.2.2.2.2 hbA hLW.2.2 (law_in hi (k := 2) (by decide)) dL_law_685 ?_
  refine lawM_i [.int (xs (x3 + 1).toNatClampNeg), .int (xs (x3 + 2).toNatClampNeg)] [.int v] hC hLW (c_X10_enough l G (AM G) N T (xs (x3 + 1).toNatClampNeg) (xs (x3 + 2).toNatClampNeg) _ h2) (cwV 2 hts gL_law_X10_enough rfl rfl rfl (by decide +kernel) ⟨Nat.le_of_ble_eq_true rfl, Nat.le_of_ble_eq_true rfl⟩) rfl rfl hl.1 rfl (Nat.le_of_ble_eq_true rfl) dL_law_686 (fun H locs hLW => ?_)
  refine lv_icmp_eq (tgt := 952) hx hb dL_law_689 (by decide) (fun _ => next _ _ _ _ _ hI hLW hl) (fun hne => absurd rfl hne)
set_option maxRecDepth 100000 in
set_option maxHeartbeats 4000000 in
theorem law_15 {p : Program} {l : Launch} {e : Env} {s : State} {m : MethodId} {below : List Frame} {meth : Method} {c : Code} {H : Heap} {locs : List Loc} {Q : State → Prop} {b L : Nat} {xs : Nat → Int32} {G : Gt} {ls : Array Slot} {S T : St} {n N : Nat} {x3 : Int32} (hC : LC p s m meth c b L xs G) (hLW : LW G s S T H locs) (hl : lv_has ls 4 [(3, .int x3), (2, .ref (gM G 0)), (1, .ref (gC G 0)), (0, .ref b)]) (hi : 0 ≤ x3.toInt ∧ x3.toInt + 8 ≤ (L : Int) ∧ L ≤ 4096) (hp : ∃ (v : Int32) (S' T' : St), f_X9_picture S (xs (x3 + 1).toNatClampNeg) (xs (x3 + 2).toNatClampNeg) = some (v, S') ∧ f_X10_picture T (xs (x3 + 1).toNatClampNeg) (xs (x3 + 2).toNatClampNeg) = some (v, T') ∧ Inv (n + 1) S' T')
    (next : ∀ (S T : St) (H : Heap) (locs : List Loc) (ls : Array Slot), Inv (n + 1) S T → LW G s S T H locs → lv_has ls 4 [(3, .int x3), (2, .ref (gM G 0)), (1, .ref (gC G 0)), (0, .ref b)] → W p l e room_1 s m #[Value.ref b] below meth c H locs 58 7489 Q (F0 m 952 ls [])) : W p l e room_1 s m #[Value.ref b] below meth c H locs 58 7489 Q (F0 m 694 ls []) := by
  obtain ⟨hx, hb, hml, hown, hts⟩ := id hC.1
  have hbA : ¬ (fun q : Nat => s.heap.size ≤ q) b := Nat.not_le.mpr hC.2.2.2.2.2.2
  obtain ⟨v, S', T', h1, h2, hI⟩ := hp
  refine lv_aload_n hx hb dL_law_694 rfl (lv_at hl 2 rfl) ?_
  refine lv_aload_n hx hb dL_law_695 rfl (lv_at hl 3 rfl) ?_
  refine lv_iload_n hx hb dL_law_696 rfl (lv_at hl 0 rfl) ?_
  refine lv_iconst (v := 1) hx hb dL_law_697 (by decide) ?_
  refine lv_iadd hx hb dL_law_698 ?_
  refine va_sld hx hb hC.2.2.2.2.2.1 hC.2.2.2.2.2.2 hbA hLW.2.2 (law_in hi (k := 1) (by decide)) dL_law_699 ?_
  refine lv_aload_n hx hb dL_law_700 rfl (lv_at hl 3 rfl) ?_
  refine lv_iload_n hx hb dL_law_701 rfl (lv_at hl 0 rfl) ?_
  refine lv_iconst (v := 2) hx hb dL_law_702 (by decide) ?_
  refine lv_iadd hx hb dL_law_703 ?_
  refine va_sld hx hb hC.2.2.2.2.2.1 hC.2.2.2.2.2.2 hbA hLW.2.2 (law_in hi (k := 2) (by decide)) dL_law_704 ?_
  refine lawC_i [.int (xs (x3 + 1).toNatClampNeg), .int (xs (x3 + 2).toNatClampNeg)] [] hC hLW (c_X9_picture l G (AC G) S (xs (x3 + 1).toNatClampNeg) (xs (x3 + 2).toNatClampNeg) _ h1) (cwV 2 hts gL_law_X9_picture rfl rfl rfl (by decide +kernel) ⟨Nat.le_of_ble_eq_true rfl, Nat.le_of_ble_eq_true rfl⟩) rfl rfl hl.1 rfl (Nat.le_of_ble_eq_true rfl) dL_law_705 (fun H locs hLW => ?_)
  refine lv_aload_n hx hb dL_law_708 rfl (lv_at hl 1 rfl) ?_
  refine lv_aload_n hx hb dL_law_709 rfl (lv_at hl 3 rfl) ?_
  refine lv_iload_n hx hb dL_law_710 rfl (lv_at hl 0 rfl) ?_
  refine lv_iconst (v := 1) hx hb dL_law_711 (by decide) ?_
  refine lv_iadd hx hb dL_law_712 ?_
  refine va_sld hx hb hC.2.2.2.2.2.1 hC.2.2.2.2.2.2 hbA hLW.2.2 (law_in hi (k := 1) (by decide)) dL_law_713 ?_
  refine lv_aload_n hx hb dL_law_714 rfl (lv_at hl 3 rfl) ?_
  refine lv_iload_n hx hb dL_law_715 rfl (lv_at hl 0 rfl) ?_
  refine lv_iconst (v := 2) hx hb dL_law_716 (by decide) ?_
  refine lv_iadd hx hb dL_law_717 ?_
  refine va_sld hx hb hC.2.2.2.2.2.1 hC.2.2.2.2.2.2 hbA hLW.2.2 (law_in hi (k := 2) (by decide)) dL_law_718 ?_
  refine lawM_i [.int (xs (x3 + 1).toNatClampNeg), .int (xs (x3 + 2).toNatClampNeg)] [.int v] hC hLW (c_X10_picture l G (AM G) T (xs (x3 + 1).toNatClampNeg) (xs (x3 + 2).toNatClampNeg) _ h2) (cwV 2 hts gL_law_X10_picture rfl rfl rfl (by decide +kernel) ⟨Nat.le_of_ble_eq_true rfl, Nat.le_of_ble_eq_true rfl⟩) rfl rfl hl.1 rfl (Nat.le_of_ble_eq_true rfl) dL_law_719 (fun H locs hLW => ?_)
  refine lv_icmp_eq (tgt := 952) hx hb dL_law_722 (by decide) (fun _ => next _ _ _ _ _ hI hLW hl) (fun hne => absurd rfl hne)
set_option maxRecDepth 100000 in
set_option maxHeartbeats 4000000 in
theorem law_16 {p : Program} {l : Launch} {e : Env} {s : State} {m : MethodId} {below : List Frame} {meth : Method} {c : Code} {H : Heap} {locs : List Loc} {Q : State → Prop} {b L : Nat} {xs : Nat → Int32} {G : Gt} {ls : Array Slot} {S T : St} {n N : Nat} {x3 : Int32} (hC : LC p s m meth c b L xs G) (hLW : LW G s S T H locs) (hl : lv_has ls 4 [(3, .int x3), (2, .ref (gM G 0)), (1, .ref (gC G 0)), (0, .ref b)]) (hi : 0 ≤ x3.toInt ∧ x3.toInt + 8 ≤ (L : Int) ∧ L ≤ 4096) (hp : ∃ (v : Int32) (S' T' : St), f_X9_forget S = some (v, S') ∧ f_X10_forget T = some (v, T') ∧ Inv (n + 1) S' T')
    (next : ∀ (S T : St) (H : Heap) (locs : List Loc) (ls : Array Slot), Inv (n + 1) S T → LW G s S T H locs → lv_has ls 4 [(3, .int x3), (2, .ref (gM G 0)), (1, .ref (gC G 0)), (0, .ref b)] → W p l e room_1 s m #[Value.ref b] below meth c H locs 58 7489 Q (F0 m 952 ls [])) : W p l e room_1 s m #[Value.ref b] below meth c H locs 58 7489 Q (F0 m 727 ls []) := by
  obtain ⟨hx, hb, hml, hown, hts⟩ := id hC.1
  have hbA : ¬ (fun q : Nat => s.heap.size ≤ q) b := Nat.not_le.mpr hC.2.2.2.2.2.2
  obtain ⟨v, S', T', h1, h2, hI⟩ := hp
  refine lv_aload_n hx hb dL_law_727 rfl (lv_at hl 2 rfl) ?_
  refine lawC_i [] [] hC hLW (c_X9_forget l G (AC G) S  _ h1) (cwV 0 hts gL_law_X9_forget rfl rfl rfl (by decide +kernel) ⟨Nat.le_of_ble_eq_true rfl, Nat.le_of_ble_eq_true rfl⟩) rfl rfl hl.1 rfl (Nat.le_of_ble_eq_true rfl) dL_law_728 (fun H locs hLW => ?_)
  refine lv_aload_n hx hb dL_law_731 rfl (lv_at hl 1 rfl) ?_
  refine lawM_i [] [.int v] hC hLW (c_X10_forget l G (AM G) T  _ h2) (cwV 0 hts gL_law_X10_forget rfl rfl rfl (by decide +kernel) ⟨Nat.le_of_ble_eq_true rfl, Nat.le_of_ble_eq_true rfl⟩) rfl rfl hl.1 rfl (Nat.le_of_ble_eq_true rfl) dL_law_732 (fun H locs hLW => ?_)
  refine lv_icmp_eq (tgt := 952) hx hb dL_law_735 (by decide) (fun _ => next _ _ _ _ _ hI hLW hl) (fun hne => absurd rfl hne)
set_option maxRecDepth 100000 in
set_option maxHeartbeats 4000000 in
theorem law_17 {p : Program} {l : Launch} {e : Env} {s : State} {m : MethodId} {below : List Frame} {meth : Method} {c : Code} {H : Heap} {locs : List Loc} {Q : State → Prop} {b L : Nat} {xs : Nat → Int32} {G : Gt} {ls : Array Slot} {S T : St} {n N : Nat} {x3 : Int32} (hC : LC p s m meth c b L xs G) (hLW : LW G s S T H locs) (hl : lv_has ls 4 [(3, .int x3), (2, .ref (gM G 0)), (1, .ref (gC G 0)), (0, .ref b)]) (hi : 0 ≤ x3.toInt ∧ x3.toInt + 8 ≤ (L : Int) ∧ L ≤ 4096) (hp : ∃ (v : Int32) (S' T' : St), f_X9_could N S (xs (x3 + 1).toNatClampNeg) = some v ∧ f_X10_could N T (xs (x3 + 1).toNatClampNeg) = some (v, T') ∧ S' = S ∧ Inv (n + 1) S' T')
    (next : ∀ (S T : St) (H : Heap) (locs : List Loc) (ls : Array Slot), Inv (n + 1) S T → LW G s S T H locs → lv_has ls 4 [(3, .int x3), (2, .ref (gM G 0)), (1, .ref (gC G 0)), (0, .ref b)] → W p l e room_1 s m #[Value.ref b] below meth c H locs 58 7489 Q (F0 m 952 ls [])) : W p l e room_1 s m #[Value.ref b] below meth c H locs 58 7489 Q (F0 m 740 ls []) := by
  obtain ⟨hx, hb, hml, hown, hts⟩ := id hC.1
  have hbA : ¬ (fun q : Nat => s.heap.size ≤ q) b := Nat.not_le.mpr hC.2.2.2.2.2.2
  obtain ⟨v, S', T', h1, h2, hSS, hI⟩ := hp
  have hSS := hSS.symm
  subst hSS
  refine lv_aload_n hx hb dL_law_740 rfl (lv_at hl 2 rfl) ?_
  refine lv_aload_n hx hb dL_law_741 rfl (lv_at hl 3 rfl) ?_
  refine lv_iload_n hx hb dL_law_742 rfl (lv_at hl 0 rfl) ?_
  refine lv_iconst (v := 1) hx hb dL_law_743 (by decide) ?_
  refine lv_iadd hx hb dL_law_744 ?_
  refine va_sld hx hb hC.2.2.2.2.2.1 hC.2.2.2.2.2.2 hbA hLW.2.2 (law_in hi (k := 1) (by decide)) dL_law_745 ?_
  refine lawC_i [.int (xs (x3 + 1).toNatClampNeg)] [] hC hLW (c_X9_could l G (AC G) N S (xs (x3 + 1).toNatClampNeg) _ h1) (cwV 1 hts gL_law_X9_could rfl rfl rfl (by decide +kernel) ⟨Nat.le_of_ble_eq_true rfl, Nat.le_of_ble_eq_true rfl⟩) rfl rfl hl.1 rfl (Nat.le_of_ble_eq_true rfl) dL_law_746 (fun H locs hLW => ?_)
  refine lv_aload_n hx hb dL_law_749 rfl (lv_at hl 1 rfl) ?_
  refine lv_aload_n hx hb dL_law_750 rfl (lv_at hl 3 rfl) ?_
  refine lv_iload_n hx hb dL_law_751 rfl (lv_at hl 0 rfl) ?_
  refine lv_iconst (v := 1) hx hb dL_law_752 (by decide) ?_
  refine lv_iadd hx hb dL_law_753 ?_
  refine va_sld hx hb hC.2.2.2.2.2.1 hC.2.2.2.2.2.2 hbA hLW.2.2 (law_in hi (k := 1) (by decide)) dL_law_754 ?_
  refine lawM_i [.int (xs (x3 + 1).toNatClampNeg)] [.int v] hC hLW (c_X10_could l G (AM G) N T (xs (x3 + 1).toNatClampNeg) _ h2) (cwV 1 hts gL_law_X10_could rfl rfl rfl (by decide +kernel) ⟨Nat.le_of_ble_eq_true rfl, Nat.le_of_ble_eq_true rfl⟩) rfl rfl hl.1 rfl (Nat.le_of_ble_eq_true rfl) dL_law_755 (fun H locs hLW => ?_)
  refine lv_icmp_eq (tgt := 952) hx hb dL_law_758 (by decide) (fun _ => next _ _ _ _ _ hI hLW hl) (fun hne => absurd rfl hne)
set_option maxRecDepth 100000 in
set_option maxHeartbeats 4000000 in
theorem law_18 {p : Program} {l : Launch} {e : Env} {s : State} {m : MethodId} {below : List Frame} {meth : Method} {c : Code} {H : Heap} {locs : List Loc} {Q : State → Prop} {b L : Nat} {xs : Nat → Int32} {G : Gt} {ls : Array Slot} {S T : St} {n N : Nat} {x3 : Int32} (hC : LC p s m meth c b L xs G) (hLW : LW G s S T H locs) (hl : lv_has ls 4 [(3, .int x3), (2, .ref (gM G 0)), (1, .ref (gC G 0)), (0, .ref b)]) (hi : 0 ≤ x3.toInt ∧ x3.toInt + 8 ≤ (L : Int) ∧ L ≤ 4096) (hp : ∃ (v : Int32) (S' T' : St), f_X9_towns N (xs (x3 + 1).toNatClampNeg) (xs (x3 + 2).toNatClampNeg) (xs (x3 + 3).toNatClampNeg) (xs (x3 + 4).toNatClampNeg) (xs (x3 + 5).toNatClampNeg) = some v ∧ f_X10_towns N T (xs (x3 + 1).toNatClampNeg) (xs (x3 + 2).toNatClampNeg) (xs (x3 + 3).toNatClampNeg) (xs (x3 + 4).toNatClampNeg) (xs (x3 + 5).toNatClampNeg) = some (v, T') ∧ S' = S ∧ Inv (n + 1) S' T')
    (next : ∀ (S T : St) (H : Heap) (locs : List Loc) (ls : Array Slot), Inv (n + 1) S T → LW G s S T H locs → lv_has ls 4 [(3, .int x3), (2, .ref (gM G 0)), (1, .ref (gC G 0)), (0, .ref b)] → W p l e room_1 s m #[Value.ref b] below meth c H locs 58 7489 Q (F0 m 952 ls [])) : W p l e room_1 s m #[Value.ref b] below meth c H locs 58 7489 Q (F0 m 763 ls []) := by
  obtain ⟨hx, hb, hml, hown, hts⟩ := id hC.1
  have hbA : ¬ (fun q : Nat => s.heap.size ≤ q) b := Nat.not_le.mpr hC.2.2.2.2.2.2
  obtain ⟨v, S', T', h1, h2, hSS, hI⟩ := hp
  have hSS := hSS.symm
  subst hSS
  refine lv_aload_n hx hb dL_law_763 rfl (lv_at hl 2 rfl) ?_
  refine lv_aload_n hx hb dL_law_764 rfl (lv_at hl 3 rfl) ?_
  refine lv_iload_n hx hb dL_law_765 rfl (lv_at hl 0 rfl) ?_
  refine lv_iconst (v := 1) hx hb dL_law_766 (by decide) ?_
  refine lv_iadd hx hb dL_law_767 ?_
  refine va_sld hx hb hC.2.2.2.2.2.1 hC.2.2.2.2.2.2 hbA hLW.2.2 (law_in hi (k := 1) (by decide)) dL_law_768 ?_
  refine lv_aload_n hx hb dL_law_769 rfl (lv_at hl 3 rfl) ?_
  refine lv_iload_n hx hb dL_law_770 rfl (lv_at hl 0 rfl) ?_
  refine lv_iconst (v := 2) hx hb dL_law_771 (by decide) ?_
  refine lv_iadd hx hb dL_law_772 ?_
  refine va_sld hx hb hC.2.2.2.2.2.1 hC.2.2.2.2.2.2 hbA hLW.2.2 (law_in hi (k := 2) (by decide)) dL_law_773 ?_
  refine lv_aload_n hx hb dL_law_774 rfl (lv_at hl 3 rfl) ?_
  refine lv_iload_n hx hb dL_law_775 rfl (lv_at hl 0 rfl) ?_
  refine lv_iconst (v := 3) hx hb dL_law_776 (by decide) ?_
  refine lv_iadd hx hb dL_law_777 ?_
  refine va_sld hx hb hC.2.2.2.2.2.1 hC.2.2.2.2.2.2 hbA hLW.2.2 (law_in hi (k := 3) (by decide)) dL_law_778 ?_
  refine lv_aload_n hx hb dL_law_779 rfl (lv_at hl 3 rfl) ?_
  refine lv_iload_n hx hb dL_law_780 rfl (lv_at hl 0 rfl) ?_
  refine lv_iconst (v := 4) hx hb dL_law_781 (by decide) ?_
  refine lv_iadd hx hb dL_law_782 ?_
  refine va_sld hx hb hC.2.2.2.2.2.1 hC.2.2.2.2.2.2 hbA hLW.2.2 (law_in hi (k := 4) (by decide)) dL_law_783 ?_
  refine lv_aload_n hx hb dL_law_784 rfl (lv_at hl 3 rfl) ?_
  refine lv_iload_n hx hb dL_law_785 rfl (lv_at hl 0 rfl) ?_
  refine lv_iconst (v := 5) hx hb dL_law_786 (by decide) ?_
  refine lv_iadd hx hb dL_law_787 ?_
  refine va_sld hx hb hC.2.2.2.2.2.1 hC.2.2.2.2.2.2 hbA hLW.2.2 (law_in hi (k := 5) (by decide)) dL_law_788 ?_
  refine lawC_i [.int (xs (x3 + 1).toNatClampNeg), .int (xs (x3 + 2).toNatClampNeg), .int (xs (x3 + 3).toNatClampNeg), .int (xs (x3 + 4).toNatClampNeg), .int (xs (x3 + 5).toNatClampNeg)] [] hC hLW (c_X9_towns l G (AC G) N S (xs (x3 + 1).toNatClampNeg) (xs (x3 + 2).toNatClampNeg) (xs (x3 + 3).toNatClampNeg) (xs (x3 + 4).toNatClampNeg) (xs (x3 + 5).toNatClampNeg) _ h1) (cwV 5 hts gL_law_X9_towns rfl rfl rfl (by decide +kernel) ⟨Nat.le_of_ble_eq_true rfl, Nat.le_of_ble_eq_true rfl⟩) rfl rfl hl.1 rfl (Nat.le_of_ble_eq_true rfl) dL_law_789 (fun H locs hLW => ?_)
  refine lv_aload_n hx hb dL_law_792 rfl (lv_at hl 1 rfl) ?_
  refine lv_aload_n hx hb dL_law_793 rfl (lv_at hl 3 rfl) ?_
  refine lv_iload_n hx hb dL_law_794 rfl (lv_at hl 0 rfl) ?_
  refine lv_iconst (v := 1) hx hb dL_law_795 (by decide) ?_
  refine lv_iadd hx hb dL_law_796 ?_
  refine va_sld hx hb hC.2.2.2.2.2.1 hC.2.2.2.2.2.2 hbA hLW.2.2 (law_in hi (k := 1) (by decide)) dL_law_797 ?_
  refine lv_aload_n hx hb dL_law_798 rfl (lv_at hl 3 rfl) ?_
  refine lv_iload_n hx hb dL_law_799 rfl (lv_at hl 0 rfl) ?_
  refine lv_iconst (v := 2) hx hb dL_law_800 (by decide) ?_
  refine lv_iadd hx hb dL_law_801 ?_
  refine va_sld hx hb hC.2.2.2.2.2.1 hC.2.2.2.2.2.2 hbA hLW.2.2 (law_in hi (k := 2) (by decide)) dL_law_802 ?_
  refine lv_aload_n hx hb dL_law_803 rfl (lv_at hl 3 rfl) ?_
  refine lv_iload_n hx hb dL_law_804 rfl (lv_at hl 0 rfl) ?_
  refine lv_iconst (v := 3) hx hb dL_law_805 (by decide) ?_
  refine lv_iadd hx hb dL_law_806 ?_
  refine va_sld hx hb hC.2.2.2.2.2.1 hC.2.2.2.2.2.2 hbA hLW.2.2 (law_in hi (k := 3) (by decide)) dL_law_807 ?_
  refine lv_aload_n hx hb dL_law_808 rfl (lv_at hl 3 rfl) ?_
  refine lv_iload_n hx hb dL_law_809 rfl (lv_at hl 0 rfl) ?_
  refine lv_iconst (v := 4) hx hb dL_law_810 (by decide) ?_
  refine lv_iadd hx hb dL_law_811 ?_
  refine va_sld hx hb hC.2.2.2.2.2.1 hC.2.2.2.2.2.2 hbA hLW.2.2 (law_in hi (k := 4) (by decide)) dL_law_812 ?_
  refine lv_aload_n hx hb dL_law_813 rfl (lv_at hl 3 rfl) ?_
  refine lv_iload_n hx hb dL_law_814 rfl (lv_at hl 0 rfl) ?_
  refine lv_iconst (v := 5) hx hb dL_law_815 (by decide) ?_
  refine lv_iadd hx hb dL_law_816 ?_
  refine va_sld hx hb hC.2.2.2.2.2.1 hC.2.2.2.2.2.2 hbA hLW.2.2 (law_in hi (k := 5) (by decide)) dL_law_817 ?_
  refine lawM_i [.int (xs (x3 + 1).toNatClampNeg), .int (xs (x3 + 2).toNatClampNeg), .int (xs (x3 + 3).toNatClampNeg), .int (xs (x3 + 4).toNatClampNeg), .int (xs (x3 + 5).toNatClampNeg)] [.int v] hC hLW (c_X10_towns l G (AM G) N T (xs (x3 + 1).toNatClampNeg) (xs (x3 + 2).toNatClampNeg) (xs (x3 + 3).toNatClampNeg) (xs (x3 + 4).toNatClampNeg) (xs (x3 + 5).toNatClampNeg) _ h2) (cwV 5 hts gL_law_X10_towns rfl rfl rfl (by decide +kernel) ⟨Nat.le_of_ble_eq_true rfl, Nat.le_of_ble_eq_true rfl⟩) rfl rfl hl.1 rfl (Nat.le_of_ble_eq_true rfl) dL_law_818 (fun H locs hLW => ?_)
  refine lv_icmp_eq (tgt := 952) hx hb dL_law_821 (by decide) (fun _ => next _ _ _ _ _ hI hLW hl) (fun hne => absurd rfl hne)
set_option maxRecDepth 100000 in
set_option maxHeartbeats 4000000 in
theorem law_19 {p : Program} {l : Launch} {e : Env} {s : State} {m : MethodId} {below : List Frame} {meth : Method} {c : Code} {H : Heap} {locs : List Loc} {Q : State → Prop} {b L : Nat} {xs : Nat → Int32} {G : Gt} {ls : Array Slot} {S T : St} {n N : Nat} {x3 : Int32} (hC : LC p s m meth c b L xs G) (hLW : LW G s S T H locs) (hl : lv_has ls 4 [(3, .int x3), (2, .ref (gM G 0)), (1, .ref (gC G 0)), (0, .ref b)]) (hi : 0 ≤ x3.toInt ∧ x3.toInt + 8 ≤ (L : Int) ∧ L ≤ 4096) (hp : ∃ (v : Int32) (S' T' : St), f_X9_rate S (xs (x3 + 1).toNatClampNeg) (xs (x3 + 2).toNatClampNeg) (xs (x3 + 3).toNatClampNeg) = some (v, S') ∧ f_X10_rate T (xs (x3 + 1).toNatClampNeg) (xs (x3 + 2).toNatClampNeg) (xs (x3 + 3).toNatClampNeg) = some (v, T') ∧ Inv (n + 1) S' T')
    (next : ∀ (S T : St) (H : Heap) (locs : List Loc) (ls : Array Slot), Inv (n + 1) S T → LW G s S T H locs → lv_has ls 4 [(3, .int x3), (2, .ref (gM G 0)), (1, .ref (gC G 0)), (0, .ref b)] → W p l e room_1 s m #[Value.ref b] below meth c H locs 58 7489 Q (F0 m 952 ls [])) : W p l e room_1 s m #[Value.ref b] below meth c H locs 58 7489 Q (F0 m 826 ls []) := by
  obtain ⟨hx, hb, hml, hown, hts⟩ := id hC.1
  have hbA : ¬ (fun q : Nat => s.heap.size ≤ q) b := Nat.not_le.mpr hC.2.2.2.2.2.2
  obtain ⟨v, S', T', h1, h2, hI⟩ := hp
  refine lv_aload_n hx hb dL_law_826 rfl (lv_at hl 2 rfl) ?_
  refine lv_aload_n hx hb dL_law_827 rfl (lv_at hl 3 rfl) ?_
  refine lv_iload_n hx hb dL_law_828 rfl (lv_at hl 0 rfl) ?_
  refine lv_iconst (v := 1) hx hb dL_law_829 (by decide) ?_
  refine lv_iadd hx hb dL_law_830 ?_
  refine va_sld hx hb hC.2.2.2.2.2.1 hC.2.2.2.2.2.2 hbA hLW.2.2 (law_in hi (k := 1) (by decide)) dL_law_831 ?_
  refine lv_aload_n hx hb dL_law_832 rfl (lv_at hl 3 rfl) ?_
  refine lv_iload_n hx hb dL_law_833 rfl (lv_at hl 0 rfl) ?_
  refine lv_iconst (v := 2) hx hb dL_law_834 (by decide) ?_
  refine lv_iadd hx hb dL_law_835 ?_
  refine va_sld hx hb hC.2.2.2.2.2.1 hC.2.2.2.2.2.2 hbA hLW.2.2 (law_in hi (k := 2) (by decide)) dL_law_836 ?_
  refine lv_aload_n hx hb dL_law_837 rfl (lv_at hl 3 rfl) ?_
  refine lv_iload_n hx hb dL_law_838 rfl (lv_at hl 0 rfl) ?_
  refine lv_iconst (v := 3) hx hb dL_law_839 (by decide) ?_
  refine lv_iadd hx hb dL_law_840 ?_
  refine va_sld hx hb hC.2.2.2.2.2.1 hC.2.2.2.2.2.2 hbA hLW.2.2 (law_in hi (k := 3) (by decide)) dL_law_841 ?_
  refine lawC_i [.int (xs (x3 + 1).toNatClampNeg), .int (xs (x3 + 2).toNatClampNeg), .int (xs (x3 + 3).toNatClampNeg)] [] hC hLW (c_X9_rate l G (AC G) S (xs (x3 + 1).toNatClampNeg) (xs (x3 + 2).toNatClampNeg) (xs (x3 + 3).toNatClampNeg) _ h1) (cwV 3 hts gL_law_X9_rate rfl rfl rfl (by decide +kernel) ⟨Nat.le_of_ble_eq_true rfl, Nat.le_of_ble_eq_true rfl⟩) rfl rfl hl.1 rfl (Nat.le_of_ble_eq_true rfl) dL_law_842 (fun H locs hLW => ?_)
  refine lv_aload_n hx hb dL_law_845 rfl (lv_at hl 1 rfl) ?_
  refine lv_aload_n hx hb dL_law_846 rfl (lv_at hl 3 rfl) ?_
  refine lv_iload_n hx hb dL_law_847 rfl (lv_at hl 0 rfl) ?_
  refine lv_iconst (v := 1) hx hb dL_law_848 (by decide) ?_
  refine lv_iadd hx hb dL_law_849 ?_
  refine va_sld hx hb hC.2.2.2.2.2.1 hC.2.2.2.2.2.2 hbA hLW.2.2 (law_in hi (k := 1) (by decide)) dL_law_850 ?_
  refine lv_aload_n hx hb dL_law_851 rfl (lv_at hl 3 rfl) ?_
  refine lv_iload_n hx hb dL_law_852 rfl (lv_at hl 0 rfl) ?_
  refine lv_iconst (v := 2) hx hb dL_law_853 (by decide) ?_
  refine lv_iadd hx hb dL_law_854 ?_
  refine va_sld hx hb hC.2.2.2.2.2.1 hC.2.2.2.2.2.2 hbA hLW.2.2 (law_in hi (k := 2) (by decide)) dL_law_855 ?_
  refine lv_aload_n hx hb dL_law_856 rfl (lv_at hl 3 rfl) ?_
  refine lv_iload_n hx hb dL_law_857 rfl (lv_at hl 0 rfl) ?_
  refine lv_iconst (v := 3) hx hb dL_law_858 (by decide) ?_
  refine lv_iadd hx hb dL_law_859 ?_
  refine va_sld hx hb hC.2.2.2.2.2.1 hC.2.2.2.2.2.2 hbA hLW.2.2 (law_in hi (k := 3) (by decide)) dL_law_860 ?_
  refine lawM_i [.int (xs (x3 + 1).toNatClampNeg), .int (xs (x3 + 2).toNatClampNeg), .int (xs (x3 + 3).toNatClampNeg)] [.int v] hC hLW (c_X10_rate l G (AM G) T (xs (x3 + 1).toNatClampNeg) (xs (x3 + 2).toNatClampNeg) (xs (x3 + 3).toNatClampNeg) _ h2) (cwV 3 hts gL_law_X10_rate rfl rfl rfl (by decide +kernel) ⟨Nat.le_of_ble_eq_true rfl, Nat.le_of_ble_eq_true rfl⟩) rfl rfl hl.1 rfl (Nat.le_of_ble_eq_true rfl) dL_law_861 (fun H locs hLW => ?_)
  refine lv_icmp_eq (tgt := 952) hx hb dL_law_864 (by decide) (fun _ => next _ _ _ _ _ hI hLW hl) (fun hne => absurd rfl hne)
set_option maxRecDepth 100000 in
set_option maxHeartbeats 4000000 in
theorem law_20 {p : Program} {l : Launch} {e : Env} {s : State} {m : MethodId} {below : List Frame} {meth : Method} {c : Code} {H : Heap} {locs : List Loc} {Q : State → Prop} {b L : Nat} {xs : Nat → Int32} {G : Gt} {ls : Array Slot} {S T : St} {n N : Nat} {x3 : Int32} (hC : LC p s m meth c b L xs G) (hLW : LW G s S T H locs) (hl : lv_has ls 4 [(3, .int x3), (2, .ref (gM G 0)), (1, .ref (gC G 0)), (0, .ref b)]) (hi : 0 ≤ x3.toInt ∧ x3.toInt + 8 ≤ (L : Int) ∧ L ≤ 4096) (hp : ∃ (v : Int32) (S' T' : St), f_X9_keep N S (xs (x3 + 1).toNatClampNeg) = some (v, S') ∧ f_X10_keep N T (xs (x3 + 1).toNatClampNeg) = some (v, T') ∧ Inv (n + 1) S' T')
    (next : ∀ (S T : St) (H : Heap) (locs : List Loc) (ls : Array Slot), Inv (n + 1) S T → LW G s S T H locs → lv_has ls 4 [(3, .int x3), (2, .ref (gM G 0)), (1, .ref (gC G 0)), (0, .ref b)] → W p l e room_1 s m #[Value.ref b] below meth c H locs 58 7489 Q (F0 m 952 ls [])) : W p l e room_1 s m #[Value.ref b] below meth c H locs 58 7489 Q (F0 m 869 ls []) := by
  obtain ⟨hx, hb, hml, hown, hts⟩ := id hC.1
  have hbA : ¬ (fun q : Nat => s.heap.size ≤ q) b := Nat.not_le.mpr hC.2.2.2.2.2.2
  obtain ⟨v, S', T', h1, h2, hI⟩ := hp
  refine lv_aload_n hx hb dL_law_869 rfl (lv_at hl 2 rfl) ?_
  refine lv_aload_n hx hb dL_law_870 rfl (lv_at hl 3 rfl) ?_
  refine lv_iload_n hx hb dL_law_871 rfl (lv_at hl 0 rfl) ?_
  refine lv_iconst (v := 1) hx hb dL_law_872 (by decide) ?_
  refine lv_iadd hx hb dL_law_873 ?_
  refine va_sld hx hb hC.2.2.2.2.2.1 hC.2.2.2.2.2.2 hbA hLW.2.2 (law_in hi (k := 1) (by decide)) dL_law_874 ?_
  refine lawC_i [.int (xs (x3 + 1).toNatClampNeg)] [] hC hLW (c_X9_keep l G (AC G) N S (xs (x3 + 1).toNatClampNeg) _ h1) (cwV 1 hts gL_law_X9_keep rfl rfl rfl (by decide +kernel) ⟨Nat.le_of_ble_eq_true rfl, Nat.le_of_ble_eq_true rfl⟩) rfl rfl hl.1 rfl (Nat.le_of_ble_eq_true rfl) dL_law_875 (fun H locs hLW => ?_)
  refine lv_aload_n hx hb dL_law_878 rfl (lv_at hl 1 rfl) ?_
  refine lv_aload_n hx hb dL_law_879 rfl (lv_at hl 3 rfl) ?_
  refine lv_iload_n hx hb dL_law_880 rfl (lv_at hl 0 rfl) ?_
  refine lv_iconst (v := 1) hx hb dL_law_881 (by decide) ?_
  refine lv_iadd hx hb dL_law_882 ?_
  refine va_sld hx hb hC.2.2.2.2.2.1 hC.2.2.2.2.2.2 hbA hLW.2.2 (law_in hi (k := 1) (by decide)) dL_law_883 ?_
  refine lawM_i [.int (xs (x3 + 1).toNatClampNeg)] [.int v] hC hLW (c_X10_keep l G (AM G) N T (xs (x3 + 1).toNatClampNeg) _ h2) (cwV 1 hts gL_law_X10_keep rfl rfl rfl (by decide +kernel) ⟨Nat.le_of_ble_eq_true rfl, Nat.le_of_ble_eq_true rfl⟩) rfl rfl hl.1 rfl (Nat.le_of_ble_eq_true rfl) dL_law_884 (fun H locs hLW => ?_)
  refine lv_icmp_eq (tgt := 952) hx hb dL_law_887 (by decide) (fun _ => next _ _ _ _ _ hI hLW hl) (fun hne => absurd rfl hne)
set_option maxRecDepth 100000 in
set_option maxHeartbeats 4000000 in
theorem law_21 {p : Program} {l : Launch} {e : Env} {s : State} {m : MethodId} {below : List Frame} {meth : Method} {c : Code} {H : Heap} {locs : List Loc} {Q : State → Prop} {b L : Nat} {xs : Nat → Int32} {G : Gt} {ls : Array Slot} {S T : St} {n N : Nat} {x3 : Int32} (hC : LC p s m meth c b L xs G) (hLW : LW G s S T H locs) (hl : lv_has ls 4 [(3, .int x3), (2, .ref (gM G 0)), (1, .ref (gC G 0)), (0, .ref b)]) (hi : 0 ≤ x3.toInt ∧ x3.toInt + 8 ≤ (L : Int) ∧ L ≤ 4096) (hp : ∃ (v : Int32) (S' T' : St), f_X9_back N S (xs (x3 + 1).toNatClampNeg) = some (v, S') ∧ f_X10_back N T (xs (x3 + 1).toNatClampNeg) = some (v, T') ∧ Inv (n + 1) S' T')
    (next : ∀ (S T : St) (H : Heap) (locs : List Loc) (ls : Array Slot), Inv (n + 1) S T → LW G s S T H locs → lv_has ls 4 [(3, .int x3), (2, .ref (gM G 0)), (1, .ref (gC G 0)), (0, .ref b)] → W p l e room_1 s m #[Value.ref b] below meth c H locs 58 7489 Q (F0 m 952 ls [])) : W p l e room_1 s m #[Value.ref b] below meth c H locs 58 7489 Q (F0 m 892 ls []) := by
  obtain ⟨hx, hb, hml, hown, hts⟩ := id hC.1
  have hbA : ¬ (fun q : Nat => s.heap.size ≤ q) b := Nat.not_le.mpr hC.2.2.2.2.2.2
  obtain ⟨v, S', T', h1, h2, hI⟩ := hp
  refine lv_aload_n hx hb dL_law_892 rfl (lv_at hl 2 rfl) ?_
  refine lv_aload_n hx hb dL_law_893 rfl (lv_at hl 3 rfl) ?_
  refine lv_iload_n hx hb dL_law_894 rfl (lv_at hl 0 rfl) ?_
  refine lv_iconst (v := 1) hx hb dL_law_895 (by decide) ?_
  refine lv_iadd hx hb dL_law_896 ?_
  refine va_sld hx hb hC.2.2.2.2.2.1 hC.2.2.2.2.2.2 hbA hLW.2.2 (law_in hi (k := 1) (by decide)) dL_law_897 ?_
  refine lawC_i [.int (xs (x3 + 1).toNatClampNeg)] [] hC hLW (c_X9_back l G (AC G) N S (xs (x3 + 1).toNatClampNeg) _ h1) (cwV 1 hts gL_law_X9_back rfl rfl rfl (by decide +kernel) ⟨Nat.le_of_ble_eq_true rfl, Nat.le_of_ble_eq_true rfl⟩) rfl rfl hl.1 rfl (Nat.le_of_ble_eq_true rfl) dL_law_898 (fun H locs hLW => ?_)
  refine lv_aload_n hx hb dL_law_901 rfl (lv_at hl 1 rfl) ?_
  refine lv_aload_n hx hb dL_law_902 rfl (lv_at hl 3 rfl) ?_
  refine lv_iload_n hx hb dL_law_903 rfl (lv_at hl 0 rfl) ?_
  refine lv_iconst (v := 1) hx hb dL_law_904 (by decide) ?_
  refine lv_iadd hx hb dL_law_905 ?_
  refine va_sld hx hb hC.2.2.2.2.2.1 hC.2.2.2.2.2.2 hbA hLW.2.2 (law_in hi (k := 1) (by decide)) dL_law_906 ?_
  refine lawM_i [.int (xs (x3 + 1).toNatClampNeg)] [.int v] hC hLW (c_X10_back l G (AM G) N T (xs (x3 + 1).toNatClampNeg) _ h2) (cwV 1 hts gL_law_X10_back rfl rfl rfl (by decide +kernel) ⟨Nat.le_of_ble_eq_true rfl, Nat.le_of_ble_eq_true rfl⟩) rfl rfl hl.1 rfl (Nat.le_of_ble_eq_true rfl) dL_law_907 (fun H locs hLW => ?_)
  refine lv_icmp_eq (tgt := 952) hx hb dL_law_910 (by decide) (fun _ => next _ _ _ _ _ hI hLW hl) (fun hne => absurd rfl hne)
set_option maxRecDepth 100000 in
set_option maxHeartbeats 4000000 in
theorem law_22 {p : Program} {l : Launch} {e : Env} {s : State} {m : MethodId} {below : List Frame} {meth : Method} {c : Code} {H : Heap} {locs : List Loc} {Q : State → Prop} {b L : Nat} {xs : Nat → Int32} {G : Gt} {ls : Array Slot} {S T : St} {n N : Nat} {x3 : Int32} (hC : LC p s m meth c b L xs G) (hLW : LW G s S T H locs) (hl : lv_has ls 4 [(3, .int x3), (2, .ref (gM G 0)), (1, .ref (gC G 0)), (0, .ref b)]) (hi : 0 ≤ x3.toInt ∧ x3.toInt + 8 ≤ (L : Int) ∧ L ≤ 4096) (hp : ∃ (v : Int32) (S' T' : St), f_X9_count S (xs (x3 + 1).toNatClampNeg) = some v ∧ f_X10_count T (xs (x3 + 1).toNatClampNeg) = some (v, T') ∧ S' = S ∧ Inv (n + 1) S' T')
    (next : ∀ (S T : St) (H : Heap) (locs : List Loc) (ls : Array Slot), Inv (n + 1) S T → LW G s S T H locs → lv_has ls 4 [(3, .int x3), (2, .ref (gM G 0)), (1, .ref (gC G 0)), (0, .ref b)] → W p l e room_1 s m #[Value.ref b] below meth c H locs 58 7489 Q (F0 m 952 ls [])) : W p l e room_1 s m #[Value.ref b] below meth c H locs 58 7489 Q (F0 m 915 ls []) := by
  obtain ⟨hx, hb, hml, hown, hts⟩ := id hC.1
  have hbA : ¬ (fun q : Nat => s.heap.size ≤ q) b := Nat.not_le.mpr hC.2.2.2.2.2.2
  obtain ⟨v, S', T', h1, h2, hSS, hI⟩ := hp
  have hSS := hSS.symm
  subst hSS
  refine lv_aload_n hx hb dL_law_915 rfl (lv_at hl 2 rfl) ?_
  refine lv_aload_n hx hb dL_law_916 rfl (lv_at hl 3 rfl) ?_
  refine lv_iload_n hx hb dL_law_917 rfl (lv_at hl 0 rfl) ?_
  refine lv_iconst (v := 1) hx hb dL_law_918 (by decide) ?_
  refine lv_iadd hx hb dL_law_919 ?_
  refine va_sld hx hb hC.2.2.2.2.2.1 hC.2.2.2.2.2.2 hbA hLW.2.2 (law_in hi (k := 1) (by decide)) dL_law_920 ?_
  refine lawC_i [.int (xs (x3 + 1).toNatClampNeg)] [] hC hLW (c_X9_count l G (AC G) S (xs (x3 + 1).toNatClampNeg) _ h1) (cwV 1 hts gL_law_X9_count rfl rfl rfl (by decide +kernel) ⟨Nat.le_of_ble_eq_true rfl, Nat.le_of_ble_eq_true rfl⟩) rfl rfl hl.1 rfl (Nat.le_of_ble_eq_true rfl) dL_law_921 (fun H locs hLW => ?_)
  refine lv_aload_n hx hb dL_law_924 rfl (lv_at hl 1 rfl) ?_
  refine lv_aload_n hx hb dL_law_925 rfl (lv_at hl 3 rfl) ?_
  refine lv_iload_n hx hb dL_law_926 rfl (lv_at hl 0 rfl) ?_
  refine lv_iconst (v := 1) hx hb dL_law_927 (by decide) ?_
  refine lv_iadd hx hb dL_law_928 ?_
  refine va_sld hx hb hC.2.2.2.2.2.1 hC.2.2.2.2.2.2 hbA hLW.2.2 (law_in hi (k := 1) (by decide)) dL_law_929 ?_
  refine lawM_i [.int (xs (x3 + 1).toNatClampNeg)] [.int v] hC hLW (c_X10_count l G (AM G) T (xs (x3 + 1).toNatClampNeg) _ h2) (cwV 1 hts gL_law_X10_count rfl rfl rfl (by decide +kernel) ⟨Nat.le_of_ble_eq_true rfl, Nat.le_of_ble_eq_true rfl⟩) rfl rfl hl.1 rfl (Nat.le_of_ble_eq_true rfl) dL_law_930 (fun H locs hLW => ?_)
  refine lv_icmp_eq (tgt := 952) hx hb dL_law_933 (by decide) (fun _ => next _ _ _ _ _ hI hLW hl) (fun hne => absurd rfl hne)
set_option maxRecDepth 100000 in
set_option maxHeartbeats 4000000 in
theorem law_23 {p : Program} {l : Launch} {e : Env} {s : State} {m : MethodId} {below : List Frame} {meth : Method} {c : Code} {H : Heap} {locs : List Loc} {Q : State → Prop} {b L : Nat} {xs : Nat → Int32} {G : Gt} {ls : Array Slot} {S T : St} {n N : Nat} {x3 : Int32} (hC : LC p s m meth c b L xs G) (hLW : LW G s S T H locs) (hl : lv_has ls 4 [(3, .int x3), (2, .ref (gM G 0)), (1, .ref (gC G 0)), (0, .ref b)]) (hi : 0 ≤ x3.toInt ∧ x3.toInt + 8 ≤ (L : Int) ∧ L ≤ 4096) (hp : ∃ (v : Int64) (S' T' : St), f_X9_trace S = some v ∧ f_X10_trace T = some (v, T') ∧ S' = S ∧ Inv (n + 1) S' T')
    (next : ∀ (S T : St) (H : Heap) (locs : List Loc) (ls : Array Slot), Inv (n + 1) S T → LW G s S T H locs → lv_has ls 4 [(3, .int x3), (2, .ref (gM G 0)), (1, .ref (gC G 0)), (0, .ref b)] → W p l e room_1 s m #[Value.ref b] below meth c H locs 58 7489 Q (F0 m 952 ls [])) : W p l e room_1 s m #[Value.ref b] below meth c H locs 58 7489 Q (F0 m 938 ls []) := by
  obtain ⟨hx, hb, hml, hown, hts⟩ := id hC.1
  have hbA : ¬ (fun q : Nat => s.heap.size ≤ q) b := Nat.not_le.mpr hC.2.2.2.2.2.2
  obtain ⟨v, S', T', h1, h2, hSS, hI⟩ := hp
  have hSS := hSS.symm
  subst hSS
  refine lv_aload_n hx hb dL_law_938 rfl (lv_at hl 2 rfl) ?_
  refine lawC_l [] [] hC hLW (c_X9_trace l G (AC G) S  _ h1) (cwV 0 hts gL_law_X9_trace rfl rfl rfl (by decide +kernel) ⟨Nat.le_of_ble_eq_true rfl, Nat.le_of_ble_eq_true rfl⟩) rfl rfl hl.1 rfl (Nat.le_of_ble_eq_true rfl) dL_law_939 (fun H locs hLW => ?_)
  refine lv_aload_n hx hb dL_law_942 rfl (lv_at hl 1 rfl) ?_
  refine lawM_l [] [.long v] hC hLW (c_X10_trace l G (AM G) T  _ h2) (cwV 0 hts gL_law_X10_trace rfl rfl rfl (by decide +kernel) ⟨Nat.le_of_ble_eq_true rfl, Nat.le_of_ble_eq_true rfl⟩) rfl rfl hl.1 rfl (Nat.le_of_ble_eq_true rfl) dL_law_943 (fun H locs hLW => ?_)
  refine W.lcmp hx hb dL_law_946 ?_
  refine lv_if_eq (tgt := 952) hx hb dL_law_947 (by decide) (fun _ => next _ _ _ _ _ hI hLW hl) (fun hne => absurd (lg_cmp_self _) hne)
