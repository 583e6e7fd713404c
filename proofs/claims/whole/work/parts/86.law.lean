/-! the law's cases -/
def LawC (l : Launch) (p : Program) (s : State) (m : MethodId) (c : Code) (b L : Nat) (xs : Nat → Int32) (G : WG) (cD : ClassId) (qo qd : Nat) : Prop :=
  p.tables.exec = Jvm.exec ∧ c.code = cL_law ∧ c.maxLocals = 10 ∧ s.vm.findClass RL = some m.cls ∧ (∀ w ∈ wsL_law, w.before #[Value.ref b] s = true) ∧ va_X b L xs s s.heap ∧ b < s.heap.size ∧ LG G s cD qo qd ∧ ¬ G.2.2.2.1 b ∧ L ≤ 3072 ∧ l.stackTraces = false
section CaseRows
variable {p : Program} {l : Launch} {e : Env} {R : Room} {s : State} {m : MethodId} {args : Array Value} {below : List Frame} {meth : Method} {c : Code} {H : Heap} {locs : List Loc} {cells slots : Nat} {Q : State → Prop} {cc : ByteArray} {pc : Nat} {ls : Array Slot} {rest : List Value}
theorem w_lcmp_eq (hx : p.tables.exec = Jvm.exec) (hb : c.code = cc) {v : Int64} {off : Int} {tgt : Nat} (hd0 : decode cc pc = .ok (.lcmp, 1)) (hdg : decode cc (pc + 1) = .ok (.ifCond .eq off, 3)) (ht : ((pc + 1 : Nat) : Int) + off = (tgt : Int)) (k : W p l e R s m args below meth c H locs cells slots Q (F0 m tgt ls rest)) : W p l e R s m args below meth c H locs cells slots Q (F0 m pc ls (.long v :: .long v :: rest)) :=
  W.lcmp hx hb hd0 (lv_if_eq hx hb hdg ht (fun _ => k) (fun h => absurd (lgc_eq.symm ▸ rfl) h))
theorem w_dcmp_eq (hx : p.tables.exec = Jvm.exec) (hb : c.code = cc) {v w : UInt64} {off : Int} {tgt : Nat} (hd0 : decode cc pc = .ok (.dcmp .l, 1)) (hdg : decode cc (pc + 1) = .ok (.ifCond .eq off, 3)) (ht : ((pc + 1 : Nat) : Int) + off = (tgt : Int)) (k1 : Op.cmpValue (FP.dcmp v w) .l = 0 → W p l e R s m args below meth c H locs cells slots Q (F0 m tgt ls rest)) (k2 : ¬ Op.cmpValue (FP.dcmp v w) .l = 0 → W p l e R s m args below meth c H locs cells slots Q (F0 m (pc + 1 + 3) ls rest)) : W p l e R s m args below meth c H locs cells slots Q (F0 m pc ls (.double w :: .double v :: rest)) :=
  lv_dcmp hx hb hd0 (lv_if_eq hx hb hdg ht k1 k2)
theorem w_dcmp_ne (hx : p.tables.exec = Jvm.exec) (hb : c.code = cc) {v w : UInt64} {off : Int} {tgt : Nat} (hd0 : decode cc pc = .ok (.dcmp .l, 1)) (hdg : decode cc (pc + 1) = .ok (.ifCond .ne off, 3)) (ht : ((pc + 1 : Nat) : Int) + off = (tgt : Int)) (k1 : ¬ Op.cmpValue (FP.dcmp v w) .l = 0 → W p l e R s m args below meth c H locs cells slots Q (F0 m tgt ls rest)) (k2 : Op.cmpValue (FP.dcmp v w) .l = 0 → W p l e R s m args below meth c H locs cells slots Q (F0 m (pc + 1 + 3) ls rest)) : W p l e R s m args below meth c H locs cells slots Q (F0 m pc ls (.double w :: .double v :: rest)) :=
  lv_dcmp hx hb hd0 (lv_if_ne hx hb hdg ht k1 k2)
end CaseRows

set_option maxHeartbeats 4000000 in
set_option maxRecDepth 100000 in
theorem law_c0 {p : Program} {l : Launch} {e : Env} {s : State} {m : MethodId} {below : List Frame} {meth : Method} {c : Code} {Q : State → Prop} {b L : Nat} {xs : Nat → Int32} {G : WG} {cD : ClassId} {qo qd : Nat} (hC : LawC l p s m c b L xs G cD qo qd) {i : Int} (hi0 : 0 ≤ i) (hi : i + 6 ≤ L) {st8 st9 : St} {a : Ab} {x : Int64} {y : UInt64} {H : Heap} {locs : List Loc} {cells slots : Nat} {ls : Array Slot} (hc : cells + 2 ≤ 601024) (hs : slots + 12 ≤ 7293034) (hLI : LI G cD qo qd s st8 st9 x y H locs) (h8 : SC st8 a) (h9 : SM st9 a) (hl : lv_has ls 10 [(0, .ref b), (1, .ref (G.2.2.1 8 0)), (2, .ref (G.2.2.1 9 0)), (3, .ref qo), (4, .ref qd), (5, .int (iI i))]) (next : ∀ (st8 st9 : St) (a : Ab) (x : Int64) (y : UInt64) (H : Heap) (locs : List Loc) (ls : Array Slot), LI G cD qo qd s st8 st9 x y H locs → SC st8 a → SM st9 a → lv_has ls 10 [(0, .ref b), (1, .ref (G.2.2.1 8 0)), (2, .ref (G.2.2.1 9 0)), (3, .ref qo), (4, .ref qd), (5, .int (iI i))] → W p l e room_1 s m #[Value.ref b] below meth c H locs (cells + 2) (slots + 12) Q (F0 m 2661 ls [])) : W p l e room_1 s m #[Value.ref b] below meth c H locs cells slots Q (F0 m 236 ls []) := by
  obtain ⟨hx, hb, hml, hown, hts, hX, hbl, hG, hbA, hL9, hfl⟩ := hC
  have hv8 : vC 8 0 := ⟨by decide, by decide, by decide, by decide⟩
  have hv9 : vM 9 0 := ⟨Or.inl rfl, by decide, by decide⟩
  refine lv_aload_n hx hb dL_law_236 rfl (lv_at hl 1 rfl) ?_
  refine lv_aload_n hx hb dL_law_237 rfl (lv_at hl 0 rfl) ?_
  refine lv_iload hx hb dL_law_238 (lv_at hl 5 rfl) ?_
  refine r_iconst (n := 1) hx hb dL_law_240 ?_
  refine r_iadd hx hb dL_law_241 ?_
  refine w_sld hx hb hX hbl hbA hL9 hLI (j := i + 1) (by omega) (by omega) dL_law_242 ?_
  refine lv_aload_n hx hb dL_law_243 rfl (lv_at hl 0 rfl) ?_
  refine lv_iload hx hb dL_law_244 (lv_at hl 5 rfl) ?_
  refine r_iconst (n := 2) hx hb dL_law_246 ?_
  refine r_iadd hx hb dL_law_247 ?_
  refine w_sld hx hb hX hbl hbA hL9 hLI (j := i + 2) (by omega) (by omega) dL_law_248 ?_
  refine lv_aload_n hx hb dL_law_249 rfl (lv_at hl 0 rfl) ?_
  refine lv_iload hx hb dL_law_250 (lv_at hl 5 rfl) ?_
  refine r_iconst (n := 3) hx hb dL_law_252 ?_
  refine r_iadd hx hb dL_law_253 ?_
  refine w_sld hx hb hX hbl hbA hL9 hLI (j := i + 3) (by omega) (by omega) dL_law_254 ?_
  refine lv_aload_n hx hb dL_law_255 rfl (lv_at hl 0 rfl) ?_
  refine lv_iload hx hb dL_law_256 (lv_at hl 5 rfl) ?_
  refine r_iconst (n := 4) hx hb dL_law_258 ?_
  refine r_iadd hx hb dL_law_259 ?_
  refine w_sld hx hb hX hbl hbA hL9 hLI (j := i + 4) (by omega) (by omega) dL_law_260 ?_
  refine lv_aload_n hx hb dL_law_261 rfl (lv_at hl 0 rfl) ?_
  refine lv_iload hx hb dL_law_262 (lv_at hl 5 rfl) ?_
  refine r_iconst (n := 5) hx hb dL_law_264 ?_
  refine r_iadd hx hb dL_law_265 ?_
  refine w_sld hx hb hX hbl hbA hL9 hLI (j := i + 5) (by omega) (by omega) dL_law_266 ?_
  refine lv_aload_n hx hb dL_law_267 rfl (lv_at hl 3 rfl) ?_
  obtain ⟨k, P, a', hone, f8, f9⟩ := S_append (a0 := (xv xs (i + 1))) (a1 := (xv xs (i + 2))) (a2 := (xv xs (i + 3))) (a3 := (xv xs (i + 4))) (a4 := (xv xs (i + 5))) h8 h9 
  refine lc_s (vx_runSW (As := [.ref (G.2.2.1 8 0), .int (iI (xv xs (i + 1))), .int (iI (xv xs (i + 2))), .int (iI (xv xs (i + 3))), .int (iI (xv xs (i + 4))), .int (iI (xv xs (i + 5))), .ref qo]) (rest := []) ⟨hx, hb, hml, hown, hts⟩ (wL_append l (wR G (ownA G H.size qo)) hfl qo (fun K i v => (hG.2.2.2.2.2.2.1 K i (Or.inl v)).1) st8 (xv xs (i + 1)) (xv xs (i + 2)) (xv xs (i + 3)) (xv xs (i + 4)) (xv xs (i + 5)) k P a' f8) (vx_cwSW 7 hts gL_law_L_append rfl rfl rfl (by decide +kernel) ⟨Nat.le_of_ble_eq_true rfl, Nat.le_of_ble_eq_true rfl⟩) (LI_preL hG hLI [.ref (G.2.2.1 8 0), .int (iI (xv xs (i + 1))), .int (iI (xv xs (i + 2))), .int (iI (xv xs (i + 3))), .int (iI (xv xs (i + 4))), .int (iI (xv xs (i + 5))), .ref qo]) rfl rfl hl.1 rfl (lv_room (Nat.le_of_ble_eq_true rfl)) dL_law_268 ⟨by show cells + 1 ≤ 601024; omega, by show slots + 6 ≤ 7293034; omega⟩) hG hLI (fun st8 x H locs hk2 h8 hv hLI => ?_)
  refine W.widen (k := cells + 2) (n := slots + 12) (by omega) (by omega) ?_
  refine lv_istore (lv' := [(6, .int (iI k)), (0, .ref b), (1, .ref (G.2.2.1 8 0)), (2, .ref (G.2.2.1 9 0)), (3, .ref qo), (4, .ref qd), (5, .int (iI i))]) hx hb dL_law_271 hl (by decide) rfl (fun ls hl => ?_)
  refine lv_aload_n hx hb dL_law_273 rfl (lv_at hl 3 rfl) ?_
  refine lv_aload_n hx hb dL_law_274 rfl (lv_at hl 1 rfl) ?_
  refine lv_iload hx hb dL_law_275 (lv_at hl 6 rfl) ?_
  refine r_iconst (n := 1) hx hb dL_law_277 ?_
  refine r_iadd hx hb dL_law_278 ?_
  refine w_sld hx hb hX hbl hbA hL9 hLI (j := i + 1) (by omega) (by omega) dL_law_279 ?_
  refine lv_aload_n hx hb dL_law_280 rfl (lv_at hl 1 rfl) ?_
  refine lv_iload hx hb dL_law_281 (lv_at hl 6 rfl) ?_
  refine r_iconst (n := 2) hx hb dL_law_283 ?_
  refine r_iadd hx hb dL_law_284 ?_
  refine w_sld hx hb hX hbl hbA hL9 hLI (j := i + 2) (by omega) (by omega) dL_law_285 ?_
  refine lv_aload_n hx hb dL_law_286 rfl (lv_at hl 1 rfl) ?_
  refine lv_iload hx hb dL_law_287 (lv_at hl 6 rfl) ?_
  refine r_iconst (n := 3) hx hb dL_law_289 ?_
  refine r_iadd hx hb dL_law_290 ?_
  refine w_sld hx hb hX hbl hbA hL9 hLI (j := i + 3) (by omega) (by omega) dL_law_291 ?_
  refine lv_aload_n hx hb dL_law_292 rfl (lv_at hl 1 rfl) ?_
  refine lv_iload hx hb dL_law_293 (lv_at hl 6 rfl) ?_
  refine r_iconst (n := 4) hx hb dL_law_295 ?_
  refine r_iadd hx hb dL_law_296 ?_
  refine w_sld hx hb hX hbl hbA hL9 hLI (j := i + 4) (by omega) (by omega) dL_law_297 ?_
  refine lv_aload_n hx hb dL_law_298 rfl (lv_at hl 1 rfl) ?_
  refine lv_iload hx hb dL_law_299 (lv_at hl 6 rfl) ?_
  refine r_iconst (n := 5) hx hb dL_law_301 ?_
  refine r_iadd hx hb dL_law_302 ?_
  refine w_sld hx hb hX hbl hbA hL9 hLI (j := i + 5) (by omega) (by omega) dL_law_303 ?_
  refine lc_mi (va_runV (As := [.int (iI (xv xs (i + 1))), .int (iI (xv xs (i + 2))), .int (iI (xv xs (i + 3))), .int (iI (xv xs (i + 4))), .int (iI (xv xs (i + 5)))]) (rest := []) ⟨hx, hb, hml, hown, hts⟩ (m9_append l (wR G (ownV vM G H.size)) hv9 _ st9 (xv xs (i + 1)) (xv xs (i + 2)) (xv xs (i + 3)) (xv xs (i + 4)) (xv xs (i + 5)) f9) (cwV 5 hts gL_law_X9_append rfl rfl rfl hd9_append ⟨Nat.le_of_ble_eq_true rfl, Nat.le_of_ble_eq_true rfl⟩) (LI_pre9 hG hLI hv9 [.int (iI (xv xs (i + 1))), .int (iI (xv xs (i + 2))), .int (iI (xv xs (i + 3))), .int (iI (xv xs (i + 4))), .int (iI (xv xs (i + 5)))]) rfl rfl hl.1 rfl (lv_room (Nat.le_of_ble_eq_true rfl)) dL_law_304 ⟨by show cells + 2 + 0 ≤ 601024; omega, by show slots + 12 + 0 ≤ 7293034; omega⟩) hG hLI (fun zb st9 H locs ho9 hLI => ?_)
  obtain ⟨hz9, e6, h9⟩ := ho9
  refine lv_istore (lv' := [(7, .int (iI zb)), (6, .int (iI k)), (0, .ref b), (1, .ref (G.2.2.1 8 0)), (2, .ref (G.2.2.1 9 0)), (3, .ref qo), (4, .ref qd), (5, .int (iI i))]) hx hb dL_law_307 hl (by decide) rfl (fun ls hl => ?_)
  refine lv_aload_n hx hb dL_law_309 rfl (lv_at hl 4 rfl) ?_
  refine lc_mi (va_runV (As := []) (rest := []) ⟨hx, hb, hml, hown, hts⟩ (m9_thrown l (wR G (ownV vM G H.size)) hv9 (fun z u => z = k ∧ SM u a') st9  ⟨e6, h9⟩) (cwV 0 hts gL_law_X9_thrown rfl rfl rfl hd9_thrown ⟨Nat.le_of_ble_eq_true rfl, Nat.le_of_ble_eq_true rfl⟩) (LI_pre9 hG hLI hv9 []) rfl rfl hl.1 rfl (lv_room (Nat.le_of_ble_eq_true rfl)) dL_law_310 ⟨by show cells + 2 + 0 ≤ 601024; omega, by show slots + 12 + 0 ≤ 7293034; omega⟩) hG hLI (fun zt st9 H locs ho9 hLI => ?_)
  obtain ⟨ez, h9⟩ := ho9
  subst ez
  refine lv_iload hx hb dL_law_313 (lv_at hl 1 rfl) ?_
  refine lv_icmp_eq (tgt := 320) hx hb dL_law_315 (by decide) (fun _ => ?_) (fun n => absurd rfl n)
  refine lv_iload hx hb dL_law_320 (lv_at hl 1 rfl) ?_
  refine lv_if_ne (tgt := 337) hx hb dL_law_322 (by decide) (fun _ => ?_) (fun e0 => ?_)
  · refine lv_goto (tgt := 2661) hx hb dL_law_337 (by decide) ?_
    exact next _ _ _ _ _ _ _ _ hLI h8 h9 (lv_sub hl [2, 3, 4, 5, 6, 7] rfl)
  · have k0 : zt = 0 := by
      rw [iI_0, iI_eq (inI_s (by omega) (by omega)) inI_0] at e0
      exact e0
    obtain ⟨w9, hw9, ex⟩ := hv k0
    have ew := hone _ _ (hz9 k0) hw9
    subst ew
    subst ex
    refine lv_aload_n hx hb dL_law_325 rfl (lv_at hl 5 rfl) ?_
    refine r_iconst (n := 0) hx hb dL_law_326 ?_
    refine w_lald hx hb hG hLI dL_law_327 ?_
    refine lv_iload hx hb dL_law_328 (lv_at hl 0 rfl) ?_
    refine lv_i2l (v := cvI zb) hx hb dL_law_330 rfl ?_
    refine w_lcmp_eq (tgt := 337) hx hb dL_law_331 dL_law_332 (by decide) ?_
    refine lv_goto (tgt := 2661) hx hb dL_law_337 (by decide) ?_
    exact next _ _ _ _ _ _ _ _ hLI h8 h9 (lv_sub hl [2, 3, 4, 5, 6, 7] rfl)
set_option maxHeartbeats 4000000 in
set_option maxRecDepth 100000 in
theorem law_c1 {p : Program} {l : Launch} {e : Env} {s : State} {m : MethodId} {below : List Frame} {meth : Method} {c : Code} {Q : State → Prop} {b L : Nat} {xs : Nat → Int32} {G : WG} {cD : ClassId} {qo qd : Nat} (hC : LawC l p s m c b L xs G cD qo qd) {i : Int} (hi0 : 0 ≤ i) (hi : i + 6 ≤ L) {st8 st9 : St} {a : Ab} {x : Int64} {y : UInt64} {H : Heap} {locs : List Loc} {cells slots : Nat} {ls : Array Slot} (hc : cells + 2 ≤ 601024) (hs : slots + 12 ≤ 7293034) (hLI : LI G cD qo qd s st8 st9 x y H locs) (h8 : SC st8 a) (h9 : SM st9 a) (hl : lv_has ls 10 [(0, .ref b), (1, .ref (G.2.2.1 8 0)), (2, .ref (G.2.2.1 9 0)), (3, .ref qo), (4, .ref qd), (5, .int (iI i))]) (next : ∀ (st8 st9 : St) (a : Ab) (x : Int64) (y : UInt64) (H : Heap) (locs : List Loc) (ls : Array Slot), LI G cD qo qd s st8 st9 x y H locs → SC st8 a → SM st9 a → lv_has ls 10 [(0, .ref b), (1, .ref (G.2.2.1 8 0)), (2, .ref (G.2.2.1 9 0)), (3, .ref qo), (4, .ref qd), (5, .int (iI i))] → W p l e room_1 s m #[Value.ref b] below meth c H locs (cells + 2) (slots + 12) Q (F0 m 2661 ls [])) : W p l e room_1 s m #[Value.ref b] below meth c H locs cells slots Q (F0 m 340 ls []) := by
  obtain ⟨hx, hb, hml, hown, hts, hX, hbl, hG, hbA, hL9, hfl⟩ := hC
  have hv8 : vC 8 0 := ⟨by decide, by decide, by decide, by decide⟩
  have hv9 : vM 9 0 := ⟨Or.inl rfl, by decide, by decide⟩
  refine lv_aload_n hx hb dL_law_340 rfl (lv_at hl 1 rfl) ?_
  obtain ⟨k, P, a', hone, f8, f9⟩ := S_load  h8 h9 
  refine lc_ci (va_runV (As := []) (rest := []) ⟨hx, hb, hml, hown, hts⟩ (m8_load l (wR G (ownV vC G H.size)) hv8 _ st8  f8) (cwV 0 hts gL_law_X8_load rfl rfl rfl hd8_load ⟨Nat.le_of_ble_eq_true rfl, Nat.le_of_ble_eq_true rfl⟩) (LI_pre8 hG hLI hv8 []) rfl rfl hl.1 rfl (lv_room (Nat.le_of_ble_eq_true rfl)) dL_law_341 ⟨by show cells + 0 + 0 ≤ 601024; omega, by show slots + 0 + 0 ≤ 7293034; omega⟩) hG hLI (fun z8 st8 H locs ho8 hLI => ?_)
  obtain ⟨hk0, hP8, h8⟩ := ho8
  refine lv_aload_n hx hb dL_law_344 rfl (lv_at hl 2 rfl) ?_
  refine lc_mi (va_runV (As := []) (rest := [.int (iI z8)]) ⟨hx, hb, hml, hown, hts⟩ (m9_load l (wR G (ownV vM G H.size)) hv9 _ st9  f9) (cwV 0 hts gL_law_X9_load rfl rfl rfl hd9_load ⟨Nat.le_of_ble_eq_true rfl, Nat.le_of_ble_eq_true rfl⟩) (LI_pre9 hG hLI hv9 []) rfl rfl hl.1 rfl (lv_room (Nat.le_of_ble_eq_true rfl)) dL_law_345 ⟨by show cells + 0 + 0 ≤ 601024; omega, by show slots + 0 + 0 ≤ 7293034; omega⟩) hG hLI (fun zb st9 H locs ho9 hLI => ?_)
  obtain ⟨hz9, -, h9⟩ := ho9
  have ez := hone _ _ hP8 (hz9 hk0)
  subst ez
  refine lv_icmp_eq (tgt := 2661) hx hb dL_law_348 (by decide) (fun _ => ?_) (fun n => absurd rfl n)
  refine W.widen (k := cells + 2) (n := slots + 12) (by omega) (by omega) ?_
  exact next _ _ _ _ _ _ _ _ hLI h8 h9 (lv_sub hl [0, 1, 2, 3, 4, 5] rfl)
set_option maxHeartbeats 4000000 in
set_option maxRecDepth 100000 in
theorem law_c2 {p : Program} {l : Launch} {e : Env} {s : State} {m : MethodId} {below : List Frame} {meth : Method} {c : Code} {Q : State → Prop} {b L : Nat} {xs : Nat → Int32} {G : WG} {cD : ClassId} {qo qd : Nat} (hC : LawC l p s m c b L xs G cD qo qd) {i : Int} (hi0 : 0 ≤ i) (hi : i + 6 ≤ L) {st8 st9 : St} {a : Ab} {x : Int64} {y : UInt64} {H : Heap} {locs : List Loc} {cells slots : Nat} {ls : Array Slot} (hc : cells + 2 ≤ 601024) (hs : slots + 12 ≤ 7293034) (hLI : LI G cD qo qd s st8 st9 x y H locs) (h8 : SC st8 a) (h9 : SM st9 a) (hl : lv_has ls 10 [(0, .ref b), (1, .ref (G.2.2.1 8 0)), (2, .ref (G.2.2.1 9 0)), (3, .ref qo), (4, .ref qd), (5, .int (iI i))]) (next : ∀ (st8 st9 : St) (a : Ab) (x : Int64) (y : UInt64) (H : Heap) (locs : List Loc) (ls : Array Slot), LI G cD qo qd s st8 st9 x y H locs → SC st8 a → SM st9 a → lv_has ls 10 [(0, .ref b), (1, .ref (G.2.2.1 8 0)), (2, .ref (G.2.2.1 9 0)), (3, .ref qo), (4, .ref qd), (5, .int (iI i))] → W p l e room_1 s m #[Value.ref b] below meth c H locs (cells + 2) (slots + 12) Q (F0 m 2661 ls [])) : W p l e room_1 s m #[Value.ref b] below meth c H locs cells slots Q (F0 m 353 ls []) := by
  obtain ⟨hx, hb, hml, hown, hts, hX, hbl, hG, hbA, hL9, hfl⟩ := hC
  have hv8 : vC 8 0 := ⟨by decide, by decide, by decide, by decide⟩
  have hv9 : vM 9 0 := ⟨Or.inl rfl, by decide, by decide⟩
  refine lv_aload_n hx hb dL_law_353 rfl (lv_at hl 1 rfl) ?_
  obtain ⟨k, P, a', hone, f8, f9⟩ := S_errorPosition  h8 h9 
  refine lc_ci (va_runV (As := []) (rest := []) ⟨hx, hb, hml, hown, hts⟩ (m8_errorPosition l (wR G (ownV vC G H.size)) hv8 _ st8  f8) (cwV 0 hts gL_law_X8_errorPosition rfl rfl rfl hd8_errorPosition ⟨Nat.le_of_ble_eq_true rfl, Nat.le_of_ble_eq_true rfl⟩) (LI_pre8 hG hLI hv8 []) rfl rfl hl.1 rfl (lv_room (Nat.le_of_ble_eq_true rfl)) dL_law_354 ⟨by show cells + 0 + 0 ≤ 601024; omega, by show slots + 0 + 0 ≤ 7293034; omega⟩) hG hLI (fun z8 st8 H locs ho8 hLI => ?_)
  obtain ⟨hk0, hP8, h8⟩ := ho8
  refine lv_aload_n hx hb dL_law_357 rfl (lv_at hl 2 rfl) ?_
  refine lc_mi (va_runV (As := []) (rest := [.int (iI z8)]) ⟨hx, hb, hml, hown, hts⟩ (m9_errorPosition l (wR G (ownV vM G H.size)) hv9 _ st9  f9) (cwV 0 hts gL_law_X9_errorPosition rfl rfl rfl hd9_errorPosition ⟨Nat.le_of_ble_eq_true rfl, Nat.le_of_ble_eq_true rfl⟩) (LI_pre9 hG hLI hv9 []) rfl rfl hl.1 rfl (lv_room (Nat.le_of_ble_eq_true rfl)) dL_law_358 ⟨by show cells + 0 + 0 ≤ 601024; omega, by show slots + 0 + 0 ≤ 7293034; omega⟩) hG hLI (fun zb st9 H locs ho9 hLI => ?_)
  obtain ⟨hz9, -, h9⟩ := ho9
  have ez := hone _ _ hP8 (hz9 hk0)
  subst ez
  refine lv_icmp_eq (tgt := 2661) hx hb dL_law_361 (by decide) (fun _ => ?_) (fun n => absurd rfl n)
  refine W.widen (k := cells + 2) (n := slots + 12) (by omega) (by omega) ?_
  exact next _ _ _ _ _ _ _ _ hLI h8 h9 (lv_sub hl [0, 1, 2, 3, 4, 5] rfl)
set_option maxHeartbeats 4000000 in
set_option maxRecDepth 100000 in
theorem law_c3 {p : Program} {l : Launch} {e : Env} {s : State} {m : MethodId} {below : List Frame} {meth : Method} {c : Code} {Q : State → Prop} {b L : Nat} {xs : Nat → Int32} {G : WG} {cD : ClassId} {qo qd : Nat} (hC : LawC l p s m c b L xs G cD qo qd) {i : Int} (hi0 : 0 ≤ i) (hi : i + 6 ≤ L) {st8 st9 : St} {a : Ab} {x : Int64} {y : UInt64} {H : Heap} {locs : List Loc} {cells slots : Nat} {ls : Array Slot} (hc : cells + 2 ≤ 601024) (hs : slots + 12 ≤ 7293034) (hLI : LI G cD qo qd s st8 st9 x y H locs) (h8 : SC st8 a) (h9 : SM st9 a) (hl : lv_has ls 10 [(0, .ref b), (1, .ref (G.2.2.1 8 0)), (2, .ref (G.2.2.1 9 0)), (3, .ref qo), (4, .ref qd), (5, .int (iI i))]) (next : ∀ (st8 st9 : St) (a : Ab) (x : Int64) (y : UInt64) (H : Heap) (locs : List Loc) (ls : Array Slot), LI G cD qo qd s st8 st9 x y H locs → SC st8 a → SM st9 a → lv_has ls 10 [(0, .ref b), (1, .ref (G.2.2.1 8 0)), (2, .ref (G.2.2.1 9 0)), (3, .ref qo), (4, .ref qd), (5, .int (iI i))] → W p l e room_1 s m #[Value.ref b] below meth c H locs (cells + 2) (slots + 12) Q (F0 m 2661 ls [])) : W p l e room_1 s m #[Value.ref b] below meth c H locs cells slots Q (F0 m 366 ls []) := by
  obtain ⟨hx, hb, hml, hown, hts, hX, hbl, hG, hbA, hL9, hfl⟩ := hC
  have hv8 : vC 8 0 := ⟨by decide, by decide, by decide, by decide⟩
  have hv9 : vM 9 0 := ⟨Or.inl rfl, by decide, by decide⟩
  refine lv_aload_n hx hb dL_law_366 rfl (lv_at hl 1 rfl) ?_
  refine lv_aload_n hx hb dL_law_367 rfl (lv_at hl 0 rfl) ?_
  refine lv_iload hx hb dL_law_368 (lv_at hl 5 rfl) ?_
  refine r_iconst (n := 1) hx hb dL_law_370 ?_
  refine r_iadd hx hb dL_law_371 ?_
  refine w_sld hx hb hX hbl hbA hL9 hLI (j := i + 1) (by omega) (by omega) dL_law_372 ?_
  refine lv_aload_n hx hb dL_law_373 rfl (lv_at hl 3 rfl) ?_
  obtain ⟨k, P, a', hone, f8, f9⟩ := S_count  h8 h9 (xv_I _ _)
  refine lc_s (vx_runSW (As := [.ref (G.2.2.1 8 0), .int (iI (xv xs (i + 1))), .ref qo]) (rest := []) ⟨hx, hb, hml, hown, hts⟩ (wL_count l (wR G (ownA G H.size qo)) hfl qo (fun K i v => (hG.2.2.2.2.2.2.1 K i (Or.inl v)).1) st8 (xv xs (i + 1)) k P a' f8) (vx_cwSW 3 hts gL_law_L_count rfl rfl rfl (by decide +kernel) ⟨Nat.le_of_ble_eq_true rfl, Nat.le_of_ble_eq_true rfl⟩) (LI_preL hG hLI [.ref (G.2.2.1 8 0), .int (iI (xv xs (i + 1))), .ref qo]) rfl rfl hl.1 rfl (lv_room (Nat.le_of_ble_eq_true rfl)) dL_law_374 ⟨by show cells + 1 ≤ 601024; omega, by show slots + 6 ≤ 7293034; omega⟩) hG hLI (fun st8 x H locs hk2 h8 hv hLI => ?_)
  refine W.widen (k := cells + 2) (n := slots + 12) (by omega) (by omega) ?_
  refine lv_istore (lv' := [(6, .int (iI k)), (0, .ref b), (1, .ref (G.2.2.1 8 0)), (2, .ref (G.2.2.1 9 0)), (3, .ref qo), (4, .ref qd), (5, .int (iI i))]) hx hb dL_law_377 hl (by decide) rfl (fun ls hl => ?_)
  refine lv_aload_n hx hb dL_law_379 rfl (lv_at hl 3 rfl) ?_
  refine lv_aload_n hx hb dL_law_380 rfl (lv_at hl 1 rfl) ?_
  refine lv_iload hx hb dL_law_381 (lv_at hl 6 rfl) ?_
  refine r_iconst (n := 1) hx hb dL_law_383 ?_
  refine r_iadd hx hb dL_law_384 ?_
  refine w_sld hx hb hX hbl hbA hL9 hLI (j := i + 1) (by omega) (by omega) dL_law_385 ?_
  refine lc_mi (va_runV (As := [.int (iI (xv xs (i + 1)))]) (rest := []) ⟨hx, hb, hml, hown, hts⟩ (m9_count l (wR G (ownV vM G H.size)) hv9 _ st9 (xv xs (i + 1)) f9) (cwV 1 hts gL_law_X9_count rfl rfl rfl hd9_count ⟨Nat.le_of_ble_eq_true rfl, Nat.le_of_ble_eq_true rfl⟩) (LI_pre9 hG hLI hv9 [.int (iI (xv xs (i + 1)))]) rfl rfl hl.1 rfl (lv_room (Nat.le_of_ble_eq_true rfl)) dL_law_386 ⟨by show cells + 2 + 0 ≤ 601024; omega, by show slots + 12 + 0 ≤ 7293034; omega⟩) hG hLI (fun zb st9 H locs ho9 hLI => ?_)
  obtain ⟨hz9, e6, h9⟩ := ho9
  refine lv_istore (lv' := [(7, .int (iI zb)), (6, .int (iI k)), (0, .ref b), (1, .ref (G.2.2.1 8 0)), (2, .ref (G.2.2.1 9 0)), (3, .ref qo), (4, .ref qd), (5, .int (iI i))]) hx hb dL_law_389 hl (by decide) rfl (fun ls hl => ?_)
  refine lv_aload_n hx hb dL_law_391 rfl (lv_at hl 4 rfl) ?_
  refine lc_mi (va_runV (As := []) (rest := []) ⟨hx, hb, hml, hown, hts⟩ (m9_thrown l (wR G (ownV vM G H.size)) hv9 (fun z u => z = k ∧ SM u a') st9  ⟨e6, h9⟩) (cwV 0 hts gL_law_X9_thrown rfl rfl rfl hd9_thrown ⟨Nat.le_of_ble_eq_true rfl, Nat.le_of_ble_eq_true rfl⟩) (LI_pre9 hG hLI hv9 []) rfl rfl hl.1 rfl (lv_room (Nat.le_of_ble_eq_true rfl)) dL_law_392 ⟨by show cells + 2 + 0 ≤ 601024; omega, by show slots + 12 + 0 ≤ 7293034; omega⟩) hG hLI (fun zt st9 H locs ho9 hLI => ?_)
  obtain ⟨ez, h9⟩ := ho9
  subst ez
  refine lv_iload hx hb dL_law_395 (lv_at hl 1 rfl) ?_
  refine lv_icmp_eq (tgt := 402) hx hb dL_law_397 (by decide) (fun _ => ?_) (fun n => absurd rfl n)
  refine lv_iload hx hb dL_law_402 (lv_at hl 1 rfl) ?_
  refine lv_if_ne (tgt := 419) hx hb dL_law_404 (by decide) (fun _ => ?_) (fun e0 => ?_)
  · refine lv_goto (tgt := 2661) hx hb dL_law_419 (by decide) ?_
    exact next _ _ _ _ _ _ _ _ hLI h8 h9 (lv_sub hl [2, 3, 4, 5, 6, 7] rfl)
  · have k0 : zt = 0 := by
      rw [iI_0, iI_eq (inI_s (by omega) (by omega)) inI_0] at e0
      exact e0
    obtain ⟨w9, hw9, ex⟩ := hv k0
    have ew := hone _ _ (hz9 k0) hw9
    subst ew
    subst ex
    refine lv_aload_n hx hb dL_law_407 rfl (lv_at hl 5 rfl) ?_
    refine r_iconst (n := 0) hx hb dL_law_408 ?_
    refine w_lald hx hb hG hLI dL_law_409 ?_
    refine lv_iload hx hb dL_law_410 (lv_at hl 0 rfl) ?_
    refine lv_i2l (v := cvI zb) hx hb dL_law_412 rfl ?_
    refine w_lcmp_eq (tgt := 419) hx hb dL_law_413 dL_law_414 (by decide) ?_
    refine lv_goto (tgt := 2661) hx hb dL_law_419 (by decide) ?_
    exact next _ _ _ _ _ _ _ _ hLI h8 h9 (lv_sub hl [2, 3, 4, 5, 6, 7] rfl)
set_option maxHeartbeats 4000000 in
set_option maxRecDepth 100000 in
theorem law_c4 {p : Program} {l : Launch} {e : Env} {s : State} {m : MethodId} {below : List Frame} {meth : Method} {c : Code} {Q : State → Prop} {b L : Nat} {xs : Nat → Int32} {G : WG} {cD : ClassId} {qo qd : Nat} (hC : LawC l p s m c b L xs G cD qo qd) {i : Int} (hi0 : 0 ≤ i) (hi : i + 6 ≤ L) {st8 st9 : St} {a : Ab} {x : Int64} {y : UInt64} {H : Heap} {locs : List Loc} {cells slots : Nat} {ls : Array Slot} (hc : cells + 2 ≤ 601024) (hs : slots + 12 ≤ 7293034) (hLI : LI G cD qo qd s st8 st9 x y H locs) (h8 : SC st8 a) (h9 : SM st9 a) (hl : lv_has ls 10 [(0, .ref b), (1, .ref (G.2.2.1 8 0)), (2, .ref (G.2.2.1 9 0)), (3, .ref qo), (4, .ref qd), (5, .int (iI i))]) (next : ∀ (st8 st9 : St) (a : Ab) (x : Int64) (y : UInt64) (H : Heap) (locs : List Loc) (ls : Array Slot), LI G cD qo qd s st8 st9 x y H locs → SC st8 a → SM st9 a → lv_has ls 10 [(0, .ref b), (1, .ref (G.2.2.1 8 0)), (2, .ref (G.2.2.1 9 0)), (3, .ref qo), (4, .ref qd), (5, .int (iI i))] → W p l e room_1 s m #[Value.ref b] below meth c H locs (cells + 2) (slots + 12) Q (F0 m 2661 ls [])) : W p l e room_1 s m #[Value.ref b] below meth c H locs cells slots Q (F0 m 422 ls []) := by
  obtain ⟨hx, hb, hml, hown, hts, hX, hbl, hG, hbA, hL9, hfl⟩ := hC
  have hv8 : vC 8 0 := ⟨by decide, by decide, by decide, by decide⟩
  have hv9 : vM 9 0 := ⟨Or.inl rfl, by decide, by decide⟩
  refine lv_aload_n hx hb dL_law_422 rfl (lv_at hl 1 rfl) ?_
  obtain ⟨k, P, a', hone, f8, f9⟩ := S_unit  h8 h9 
  refine lc_cl (va_runV (As := []) (rest := []) ⟨hx, hb, hml, hown, hts⟩ (m8_unit l (wR G (ownV vC G H.size)) hv8 _ st8  f8) (cwV 0 hts gL_law_X8_unit rfl rfl rfl hd8_unit ⟨Nat.le_of_ble_eq_true rfl, Nat.le_of_ble_eq_true rfl⟩) (LI_pre8 hG hLI hv8 []) rfl rfl hl.1 rfl (lv_room (Nat.le_of_ble_eq_true rfl)) dL_law_423 ⟨by show cells + 0 + 0 ≤ 601024; omega, by show slots + 0 + 0 ≤ 7293034; omega⟩) hG hLI (fun z8 st8 H locs ho8 hLI => ?_)
  obtain ⟨hk0, hP8, h8⟩ := ho8
  refine lv_aload_n hx hb dL_law_426 rfl (lv_at hl 2 rfl) ?_
  refine lc_ml (va_runV (As := []) (rest := [.long (lI z8)]) ⟨hx, hb, hml, hown, hts⟩ (m9_unit l (wR G (ownV vM G H.size)) hv9 _ st9  f9) (cwV 0 hts gL_law_X9_unit rfl rfl rfl hd9_unit ⟨Nat.le_of_ble_eq_true rfl, Nat.le_of_ble_eq_true rfl⟩) (LI_pre9 hG hLI hv9 []) rfl rfl hl.1 rfl (lv_room (Nat.le_of_ble_eq_true rfl)) dL_law_427 ⟨by show cells + 0 + 0 ≤ 601024; omega, by show slots + 0 + 0 ≤ 7293034; omega⟩) hG hLI (fun zb st9 H locs ho9 hLI => ?_)
  obtain ⟨hz9, -, h9⟩ := ho9
  have ez := hone _ _ hP8 (hz9 hk0)
  subst ez
  refine w_lcmp_eq (tgt := 2661) hx hb dL_law_430 dL_law_431 (by decide) ?_
  refine W.widen (k := cells + 2) (n := slots + 12) (by omega) (by omega) ?_
  exact next _ _ _ _ _ _ _ _ hLI h8 h9 (lv_sub hl [0, 1, 2, 3, 4, 5] rfl)
set_option maxHeartbeats 4000000 in
set_option maxRecDepth 100000 in
theorem law_c5 {p : Program} {l : Launch} {e : Env} {s : State} {m : MethodId} {below : List Frame} {meth : Method} {c : Code} {Q : State → Prop} {b L : Nat} {xs : Nat → Int32} {G : WG} {cD : ClassId} {qo qd : Nat} (hC : LawC l p s m c b L xs G cD qo qd) {i : Int} (hi0 : 0 ≤ i) (hi : i + 6 ≤ L) {st8 st9 : St} {a : Ab} {x : Int64} {y : UInt64} {H : Heap} {locs : List Loc} {cells slots : Nat} {ls : Array Slot} (hc : cells + 2 ≤ 601024) (hs : slots + 12 ≤ 7293034) (hLI : LI G cD qo qd s st8 st9 x y H locs) (h8 : SC st8 a) (h9 : SM st9 a) (hl : lv_has ls 10 [(0, .ref b), (1, .ref (G.2.2.1 8 0)), (2, .ref (G.2.2.1 9 0)), (3, .ref qo), (4, .ref qd), (5, .int (iI i))]) (next : ∀ (st8 st9 : St) (a : Ab) (x : Int64) (y : UInt64) (H : Heap) (locs : List Loc) (ls : Array Slot), LI G cD qo qd s st8 st9 x y H locs → SC st8 a → SM st9 a → lv_has ls 10 [(0, .ref b), (1, .ref (G.2.2.1 8 0)), (2, .ref (G.2.2.1 9 0)), (3, .ref qo), (4, .ref qd), (5, .int (iI i))] → W p l e room_1 s m #[Value.ref b] below meth c H locs (cells + 2) (slots + 12) Q (F0 m 2661 ls [])) : W p l e room_1 s m #[Value.ref b] below meth c H locs cells slots Q (F0 m 436 ls []) := by
  obtain ⟨hx, hb, hml, hown, hts, hX, hbl, hG, hbA, hL9, hfl⟩ := hC
  have hv8 : vC 8 0 := ⟨by decide, by decide, by decide, by decide⟩
  have hv9 : vM 9 0 := ⟨Or.inl rfl, by decide, by decide⟩
  refine lv_aload_n hx hb dL_law_436 rfl (lv_at hl 1 rfl) ?_
  refine lv_aload_n hx hb dL_law_437 rfl (lv_at hl 0 rfl) ?_
  refine lv_iload hx hb dL_law_438 (lv_at hl 5 rfl) ?_
  refine r_iconst (n := 1) hx hb dL_law_440 ?_
  refine r_iadd hx hb dL_law_441 ?_
  refine w_sld hx hb hX hbl hbA hL9 hLI (j := i + 1) (by omega) (by omega) dL_law_442 ?_
  refine lv_aload_n hx hb dL_law_443 rfl (lv_at hl 0 rfl) ?_
  refine lv_iload hx hb dL_law_444 (lv_at hl 5 rfl) ?_
  refine r_iconst (n := 2) hx hb dL_law_446 ?_
  refine r_iadd hx hb dL_law_447 ?_
  refine w_sld hx hb hX hbl hbA hL9 hLI (j := i + 2) (by omega) (by omega) dL_law_448 ?_
  refine lv_aload_n hx hb dL_law_449 rfl (lv_at hl 3 rfl) ?_
  obtain ⟨k, P, a', hone, f8, f9⟩ := S_support  h8 h9 (xv_I _ _) (xv_I _ _)
  refine lc_s (vx_runSW (As := [.ref (G.2.2.1 8 0), .int (iI (xv xs (i + 1))), .int (iI (xv xs (i + 2))), .ref qo]) (rest := []) ⟨hx, hb, hml, hown, hts⟩ (wL_support l (wR G (ownA G H.size qo)) hfl qo (fun K i v => (hG.2.2.2.2.2.2.1 K i (Or.inl v)).1) st8 (xv xs (i + 1)) (xv xs (i + 2)) k P a' f8) (vx_cwSW 4 hts gL_law_L_support rfl rfl rfl (by decide +kernel) ⟨Nat.le_of_ble_eq_true rfl, Nat.le_of_ble_eq_true rfl⟩) (LI_preL hG hLI [.ref (G.2.2.1 8 0), .int (iI (xv xs (i + 1))), .int (iI (xv xs (i + 2))), .ref qo]) rfl rfl hl.1 rfl (lv_room (Nat.le_of_ble_eq_true rfl)) dL_law_450 ⟨by show cells + 2 ≤ 601024; omega, by show slots + 12 ≤ 7293034; omega⟩) hG hLI (fun st8 x H locs hk2 h8 hv hLI => ?_)
  refine W.widen (k := cells + 2) (n := slots + 12) (by omega) (by omega) ?_
  refine lv_istore (lv' := [(6, .int (iI k)), (0, .ref b), (1, .ref (G.2.2.1 8 0)), (2, .ref (G.2.2.1 9 0)), (3, .ref qo), (4, .ref qd), (5, .int (iI i))]) hx hb dL_law_453 hl (by decide) rfl (fun ls hl => ?_)
  refine lv_aload_n hx hb dL_law_455 rfl (lv_at hl 3 rfl) ?_
  refine lv_aload_n hx hb dL_law_456 rfl (lv_at hl 1 rfl) ?_
  refine lv_iload hx hb dL_law_457 (lv_at hl 6 rfl) ?_
  refine r_iconst (n := 1) hx hb dL_law_459 ?_
  refine r_iadd hx hb dL_law_460 ?_
  refine w_sld hx hb hX hbl hbA hL9 hLI (j := i + 1) (by omega) (by omega) dL_law_461 ?_
  refine lv_aload_n hx hb dL_law_462 rfl (lv_at hl 1 rfl) ?_
  refine lv_iload hx hb dL_law_463 (lv_at hl 6 rfl) ?_
  refine r_iconst (n := 2) hx hb dL_law_465 ?_
  refine r_iadd hx hb dL_law_466 ?_
  refine w_sld hx hb hX hbl hbA hL9 hLI (j := i + 2) (by omega) (by omega) dL_law_467 ?_
  refine lc_mi (va_runV (As := [.int (iI (xv xs (i + 1))), .int (iI (xv xs (i + 2)))]) (rest := []) ⟨hx, hb, hml, hown, hts⟩ (m9_support l (wR G (ownV vM G H.size)) hv9 _ st9 (xv xs (i + 1)) (xv xs (i + 2)) f9) (cwV 2 hts gL_law_X9_support rfl rfl rfl hd9_support ⟨Nat.le_of_ble_eq_true rfl, Nat.le_of_ble_eq_true rfl⟩) (LI_pre9 hG hLI hv9 [.int (iI (xv xs (i + 1))), .int (iI (xv xs (i + 2)))]) rfl rfl hl.1 rfl (lv_room (Nat.le_of_ble_eq_true rfl)) dL_law_468 ⟨by show cells + 2 + 0 ≤ 601024; omega, by show slots + 12 + 0 ≤ 7293034; omega⟩) hG hLI (fun zb st9 H locs ho9 hLI => ?_)
  obtain ⟨hz9, e6, h9⟩ := ho9
  refine lv_istore (lv' := [(7, .int (iI zb)), (6, .int (iI k)), (0, .ref b), (1, .ref (G.2.2.1 8 0)), (2, .ref (G.2.2.1 9 0)), (3, .ref qo), (4, .ref qd), (5, .int (iI i))]) hx hb dL_law_471 hl (by decide) rfl (fun ls hl => ?_)
  refine lv_aload_n hx hb dL_law_473 rfl (lv_at hl 4 rfl) ?_
  refine lc_mi (va_runV (As := []) (rest := []) ⟨hx, hb, hml, hown, hts⟩ (m9_thrown l (wR G (ownV vM G H.size)) hv9 (fun z u => z = k ∧ SM u a') st9  ⟨e6, h9⟩) (cwV 0 hts gL_law_X9_thrown rfl rfl rfl hd9_thrown ⟨Nat.le_of_ble_eq_true rfl, Nat.le_of_ble_eq_true rfl⟩) (LI_pre9 hG hLI hv9 []) rfl rfl hl.1 rfl (lv_room (Nat.le_of_ble_eq_true rfl)) dL_law_474 ⟨by show cells + 2 + 0 ≤ 601024; omega, by show slots + 12 + 0 ≤ 7293034; omega⟩) hG hLI (fun zt st9 H locs ho9 hLI => ?_)
  obtain ⟨ez, h9⟩ := ho9
  subst ez
  refine lv_iload hx hb dL_law_477 (lv_at hl 1 rfl) ?_
  refine lv_icmp_eq (tgt := 484) hx hb dL_law_479 (by decide) (fun _ => ?_) (fun n => absurd rfl n)
  refine lv_iload hx hb dL_law_484 (lv_at hl 1 rfl) ?_
  refine lv_if_ne (tgt := 501) hx hb dL_law_486 (by decide) (fun _ => ?_) (fun e0 => ?_)
  · refine lv_goto (tgt := 2661) hx hb dL_law_501 (by decide) ?_
    exact next _ _ _ _ _ _ _ _ hLI h8 h9 (lv_sub hl [2, 3, 4, 5, 6, 7] rfl)
  · have k0 : zt = 0 := by
      rw [iI_0, iI_eq (inI_s (by omega) (by omega)) inI_0] at e0
      exact e0
    obtain ⟨w9, hw9, ex⟩ := hv k0
    have ew := hone _ _ (hz9 k0) hw9
    subst ew
    subst ex
    refine lv_aload_n hx hb dL_law_489 rfl (lv_at hl 5 rfl) ?_
    refine r_iconst (n := 0) hx hb dL_law_490 ?_
    refine w_lald hx hb hG hLI dL_law_491 ?_
    refine lv_iload hx hb dL_law_492 (lv_at hl 0 rfl) ?_
    refine lv_i2l (v := cvI zb) hx hb dL_law_494 rfl ?_
    refine w_lcmp_eq (tgt := 501) hx hb dL_law_495 dL_law_496 (by decide) ?_
    refine lv_goto (tgt := 2661) hx hb dL_law_501 (by decide) ?_
    exact next _ _ _ _ _ _ _ _ hLI h8 h9 (lv_sub hl [2, 3, 4, 5, 6, 7] rfl)
set_option maxHeartbeats 4000000 in
set_option maxRecDepth 100000 in
theorem law_c6 {p : Program} {l : Launch} {e : Env} {s : State} {m : MethodId} {below : List Frame} {meth : Method} {c : Code} {Q : State → Prop} {b L : Nat} {xs : Nat → Int32} {G : WG} {cD : ClassId} {qo qd : Nat} (hC : LawC l p s m c b L xs G cD qo qd) {i : Int} (hi0 : 0 ≤ i) (hi : i + 6 ≤ L) {st8 st9 : St} {a : Ab} {x : Int64} {y : UInt64} {H : Heap} {locs : List Loc} {cells slots : Nat} {ls : Array Slot} (hc : cells + 2 ≤ 601024) (hs : slots + 12 ≤ 7293034) (hLI : LI G cD qo qd s st8 st9 x y H locs) (h8 : SC st8 a) (h9 : SM st9 a) (hl : lv_has ls 10 [(0, .ref b), (1, .ref (G.2.2.1 8 0)), (2, .ref (G.2.2.1 9 0)), (3, .ref qo), (4, .ref qd), (5, .int (iI i))]) (next : ∀ (st8 st9 : St) (a : Ab) (x : Int64) (y : UInt64) (H : Heap) (locs : List Loc) (ls : Array Slot), LI G cD qo qd s st8 st9 x y H locs → SC st8 a → SM st9 a → lv_has ls 10 [(0, .ref b), (1, .ref (G.2.2.1 8 0)), (2, .ref (G.2.2.1 9 0)), (3, .ref qo), (4, .ref qd), (5, .int (iI i))] → W p l e room_1 s m #[Value.ref b] below meth c H locs (cells + 2) (slots + 12) Q (F0 m 2661 ls [])) : W p l e room_1 s m #[Value.ref b] below meth c H locs cells slots Q (F0 m 504 ls []) := by
  obtain ⟨hx, hb, hml, hown, hts, hX, hbl, hG, hbA, hL9, hfl⟩ := hC
  have hv8 : vC 8 0 := ⟨by decide, by decide, by decide, by decide⟩
  have hv9 : vM 9 0 := ⟨Or.inl rfl, by decide, by decide⟩
  refine lv_aload_n hx hb dL_law_504 rfl (lv_at hl 1 rfl) ?_
  refine lv_aload_n hx hb dL_law_505 rfl (lv_at hl 0 rfl) ?_
  refine lv_iload hx hb dL_law_506 (lv_at hl 5 rfl) ?_
  refine r_iconst (n := 1) hx hb dL_law_508 ?_
  refine r_iadd hx hb dL_law_509 ?_
  refine w_sld hx hb hX hbl hbA hL9 hLI (j := i + 1) (by omega) (by omega) dL_law_510 ?_
  refine lv_aload_n hx hb dL_law_511 rfl (lv_at hl 3 rfl) ?_
  obtain ⟨k, P, a', hone, f8, f9⟩ := S_hinge  h8 h9 (xv_I _ _)
  refine lc_s (vx_runSW (As := [.ref (G.2.2.1 8 0), .int (iI (xv xs (i + 1))), .ref qo]) (rest := []) ⟨hx, hb, hml, hown, hts⟩ (wL_hinge l (wR G (ownA G H.size qo)) hfl qo (fun K i v => (hG.2.2.2.2.2.2.1 K i (Or.inl v)).1) st8 (xv xs (i + 1)) k P a' f8) (vx_cwSW 3 hts gL_law_L_hinge rfl rfl rfl (by decide +kernel) ⟨Nat.le_of_ble_eq_true rfl, Nat.le_of_ble_eq_true rfl⟩) (LI_preL hG hLI [.ref (G.2.2.1 8 0), .int (iI (xv xs (i + 1))), .ref qo]) rfl rfl hl.1 rfl (lv_room (Nat.le_of_ble_eq_true rfl)) dL_law_512 ⟨by show cells + 2 ≤ 601024; omega, by show slots + 12 ≤ 7293034; omega⟩) hG hLI (fun st8 x H locs hk2 h8 hv hLI => ?_)
  refine W.widen (k := cells + 2) (n := slots + 12) (by omega) (by omega) ?_
  refine lv_istore (lv' := [(6, .int (iI k)), (0, .ref b), (1, .ref (G.2.2.1 8 0)), (2, .ref (G.2.2.1 9 0)), (3, .ref qo), (4, .ref qd), (5, .int (iI i))]) hx hb dL_law_515 hl (by decide) rfl (fun ls hl => ?_)
  refine lv_aload_n hx hb dL_law_517 rfl (lv_at hl 3 rfl) ?_
  refine lv_aload_n hx hb dL_law_518 rfl (lv_at hl 1 rfl) ?_
  refine lv_iload hx hb dL_law_519 (lv_at hl 6 rfl) ?_
  refine r_iconst (n := 1) hx hb dL_law_521 ?_
  refine r_iadd hx hb dL_law_522 ?_
  refine w_sld hx hb hX hbl hbA hL9 hLI (j := i + 1) (by omega) (by omega) dL_law_523 ?_
  refine lc_mi (va_runV (As := [.int (iI (xv xs (i + 1)))]) (rest := []) ⟨hx, hb, hml, hown, hts⟩ (m9_hinge l (wR G (ownV vM G H.size)) hv9 _ st9 (xv xs (i + 1)) f9) (cwV 1 hts gL_law_X9_hinge rfl rfl rfl hd9_hinge ⟨Nat.le_of_ble_eq_true rfl, Nat.le_of_ble_eq_true rfl⟩) (LI_pre9 hG hLI hv9 [.int (iI (xv xs (i + 1)))]) rfl rfl hl.1 rfl (lv_room (Nat.le_of_ble_eq_true rfl)) dL_law_524 ⟨by show cells + 2 + 0 ≤ 601024; omega, by show slots + 12 + 0 ≤ 7293034; omega⟩) hG hLI (fun zb st9 H locs ho9 hLI => ?_)
  obtain ⟨hz9, e6, h9⟩ := ho9
  refine lv_istore (lv' := [(7, .int (iI zb)), (6, .int (iI k)), (0, .ref b), (1, .ref (G.2.2.1 8 0)), (2, .ref (G.2.2.1 9 0)), (3, .ref qo), (4, .ref qd), (5, .int (iI i))]) hx hb dL_law_527 hl (by decide) rfl (fun ls hl => ?_)
  refine lv_aload_n hx hb dL_law_529 rfl (lv_at hl 4 rfl) ?_
  refine lc_mi (va_runV (As := []) (rest := []) ⟨hx, hb, hml, hown, hts⟩ (m9_thrown l (wR G (ownV vM G H.size)) hv9 (fun z u => z = k ∧ SM u a') st9  ⟨e6, h9⟩) (cwV 0 hts gL_law_X9_thrown rfl rfl rfl hd9_thrown ⟨Nat.le_of_ble_eq_true rfl, Nat.le_of_ble_eq_true rfl⟩) (LI_pre9 hG hLI hv9 []) rfl rfl hl.1 rfl (lv_room (Nat.le_of_ble_eq_true rfl)) dL_law_530 ⟨by show cells + 2 + 0 ≤ 601024; omega, by show slots + 12 + 0 ≤ 7293034; omega⟩) hG hLI (fun zt st9 H locs ho9 hLI => ?_)
  obtain ⟨ez, h9⟩ := ho9
  subst ez
  refine lv_iload hx hb dL_law_533 (lv_at hl 1 rfl) ?_
  refine lv_icmp_eq (tgt := 540) hx hb dL_law_535 (by decide) (fun _ => ?_) (fun n => absurd rfl n)
  refine lv_iload hx hb dL_law_540 (lv_at hl 1 rfl) ?_
  refine lv_if_ne (tgt := 557) hx hb dL_law_542 (by decide) (fun _ => ?_) (fun e0 => ?_)
  · refine lv_goto (tgt := 2661) hx hb dL_law_557 (by decide) ?_
    exact next _ _ _ _ _ _ _ _ hLI h8 h9 (lv_sub hl [2, 3, 4, 5, 6, 7] rfl)
  · have k0 : zt = 0 := by
      rw [iI_0, iI_eq (inI_s (by omega) (by omega)) inI_0] at e0
      exact e0
    obtain ⟨w9, hw9, ex⟩ := hv k0
    have ew := hone _ _ (hz9 k0) hw9
    subst ew
    subst ex
    refine lv_aload_n hx hb dL_law_545 rfl (lv_at hl 5 rfl) ?_
    refine r_iconst (n := 0) hx hb dL_law_546 ?_
    refine w_lald hx hb hG hLI dL_law_547 ?_
    refine lv_iload hx hb dL_law_548 (lv_at hl 0 rfl) ?_
    refine lv_i2l (v := cvI zb) hx hb dL_law_550 rfl ?_
    refine w_lcmp_eq (tgt := 557) hx hb dL_law_551 dL_law_552 (by decide) ?_
    refine lv_goto (tgt := 2661) hx hb dL_law_557 (by decide) ?_
    exact next _ _ _ _ _ _ _ _ hLI h8 h9 (lv_sub hl [2, 3, 4, 5, 6, 7] rfl)
set_option maxHeartbeats 4000000 in
set_option maxRecDepth 100000 in
theorem law_c7 {p : Program} {l : Launch} {e : Env} {s : State} {m : MethodId} {below : List Frame} {meth : Method} {c : Code} {Q : State → Prop} {b L : Nat} {xs : Nat → Int32} {G : WG} {cD : ClassId} {qo qd : Nat} (hC : LawC l p s m c b L xs G cD qo qd) {i : Int} (hi0 : 0 ≤ i) (hi : i + 6 ≤ L) {st8 st9 : St} {a : Ab} {x : Int64} {y : UInt64} {H : Heap} {locs : List Loc} {cells slots : Nat} {ls : Array Slot} (hc : cells + 2 ≤ 601024) (hs : slots + 12 ≤ 7293034) (hLI : LI G cD qo qd s st8 st9 x y H locs) (h8 : SC st8 a) (h9 : SM st9 a) (hl : lv_has ls 10 [(0, .ref b), (1, .ref (G.2.2.1 8 0)), (2, .ref (G.2.2.1 9 0)), (3, .ref qo), (4, .ref qd), (5, .int (iI i))]) (next : ∀ (st8 st9 : St) (a : Ab) (x : Int64) (y : UInt64) (H : Heap) (locs : List Loc) (ls : Array Slot), LI G cD qo qd s st8 st9 x y H locs → SC st8 a → SM st9 a → lv_has ls 10 [(0, .ref b), (1, .ref (G.2.2.1 8 0)), (2, .ref (G.2.2.1 9 0)), (3, .ref qo), (4, .ref qd), (5, .int (iI i))] → W p l e room_1 s m #[Value.ref b] below meth c H locs (cells + 2) (slots + 12) Q (F0 m 2661 ls [])) : W p l e room_1 s m #[Value.ref b] below meth c H locs cells slots Q (F0 m 560 ls []) := by
  obtain ⟨hx, hb, hml, hown, hts, hX, hbl, hG, hbA, hL9, hfl⟩ := hC
  have hv8 : vC 8 0 := ⟨by decide, by decide, by decide, by decide⟩
  have hv9 : vM 9 0 := ⟨Or.inl rfl, by decide, by decide⟩
  refine lv_aload_n hx hb dL_law_560 rfl (lv_at hl 1 rfl) ?_
  refine lv_aload_n hx hb dL_law_561 rfl (lv_at hl 0 rfl) ?_
  refine lv_iload hx hb dL_law_562 (lv_at hl 5 rfl) ?_
  refine r_iconst (n := 1) hx hb dL_law_564 ?_
  refine r_iadd hx hb dL_law_565 ?_
  refine w_sld hx hb hX hbl hbA hL9 hLI (j := i + 1) (by omega) (by omega) dL_law_566 ?_
  refine lv_aload_n hx hb dL_law_567 rfl (lv_at hl 0 rfl) ?_
  refine lv_iload hx hb dL_law_568 (lv_at hl 5 rfl) ?_
  refine r_iconst (n := 2) hx hb dL_law_570 ?_
  refine r_iadd hx hb dL_law_571 ?_
  refine w_sld hx hb hX hbl hbA hL9 hLI (j := i + 2) (by omega) (by omega) dL_law_572 ?_
  refine lv_aload_n hx hb dL_law_573 rfl (lv_at hl 3 rfl) ?_
  obtain ⟨k, P, a', hone, f8, f9⟩ := S_weight  h8 h9 (xv_I _ _) (xv_I _ _)
  refine lc_s (vx_runSW (As := [.ref (G.2.2.1 8 0), .int (iI (xv xs (i + 1))), .int (iI (xv xs (i + 2))), .ref qo]) (rest := []) ⟨hx, hb, hml, hown, hts⟩ (wL_weight l (wR G (ownA G H.size qo)) hfl qo (fun K i v => (hG.2.2.2.2.2.2.1 K i (Or.inl v)).1) st8 (xv xs (i + 1)) (xv xs (i + 2)) k P a' f8) (vx_cwSW 4 hts gL_law_L_weight rfl rfl rfl (by decide +kernel) ⟨Nat.le_of_ble_eq_true rfl, Nat.le_of_ble_eq_true rfl⟩) (LI_preL hG hLI [.ref (G.2.2.1 8 0), .int (iI (xv xs (i + 1))), .int (iI (xv xs (i + 2))), .ref qo]) rfl rfl hl.1 rfl (lv_room (Nat.le_of_ble_eq_true rfl)) dL_law_574 ⟨by show cells + 2 ≤ 601024; omega, by show slots + 12 ≤ 7293034; omega⟩) hG hLI (fun st8 x H locs hk2 h8 hv hLI => ?_)
  refine W.widen (k := cells + 2) (n := slots + 12) (by omega) (by omega) ?_
  refine lv_istore (lv' := [(6, .int (iI k)), (0, .ref b), (1, .ref (G.2.2.1 8 0)), (2, .ref (G.2.2.1 9 0)), (3, .ref qo), (4, .ref qd), (5, .int (iI i))]) hx hb dL_law_577 hl (by decide) rfl (fun ls hl => ?_)
  refine lv_aload_n hx hb dL_law_579 rfl (lv_at hl 3 rfl) ?_
  refine lv_aload_n hx hb dL_law_580 rfl (lv_at hl 1 rfl) ?_
  refine lv_iload hx hb dL_law_581 (lv_at hl 6 rfl) ?_
  refine r_iconst (n := 1) hx hb dL_law_583 ?_
  refine r_iadd hx hb dL_law_584 ?_
  refine w_sld hx hb hX hbl hbA hL9 hLI (j := i + 1) (by omega) (by omega) dL_law_585 ?_
  refine lv_aload_n hx hb dL_law_586 rfl (lv_at hl 1 rfl) ?_
  refine lv_iload hx hb dL_law_587 (lv_at hl 6 rfl) ?_
  refine r_iconst (n := 2) hx hb dL_law_589 ?_
  refine r_iadd hx hb dL_law_590 ?_
  refine w_sld hx hb hX hbl hbA hL9 hLI (j := i + 2) (by omega) (by omega) dL_law_591 ?_
  refine lc_mi (va_runV (As := [.int (iI (xv xs (i + 1))), .int (iI (xv xs (i + 2)))]) (rest := []) ⟨hx, hb, hml, hown, hts⟩ (m9_weight l (wR G (ownV vM G H.size)) hv9 _ st9 (xv xs (i + 1)) (xv xs (i + 2)) f9) (cwV 2 hts gL_law_X9_weight rfl rfl rfl hd9_weight ⟨Nat.le_of_ble_eq_true rfl, Nat.le_of_ble_eq_true rfl⟩) (LI_pre9 hG hLI hv9 [.int (iI (xv xs (i + 1))), .int (iI (xv xs (i + 2)))]) rfl rfl hl.1 rfl (lv_room (Nat.le_of_ble_eq_true rfl)) dL_law_592 ⟨by show cells + 2 + 0 ≤ 601024; omega, by show slots + 12 + 0 ≤ 7293034; omega⟩) hG hLI (fun zb st9 H locs ho9 hLI => ?_)
  obtain ⟨hz9, e6, h9⟩ := ho9
  refine lv_istore (lv' := [(7, .int (iI zb)), (6, .int (iI k)), (0, .ref b), (1, .ref (G.2.2.1 8 0)), (2, .ref (G.2.2.1 9 0)), (3, .ref qo), (4, .ref qd), (5, .int (iI i))]) hx hb dL_law_595 hl (by decide) rfl (fun ls hl => ?_)
  refine lv_aload_n hx hb dL_law_597 rfl (lv_at hl 4 rfl) ?_
  refine lc_mi (va_runV (As := []) (rest := []) ⟨hx, hb, hml, hown, hts⟩ (m9_thrown l (wR G (ownV vM G H.size)) hv9 (fun z u => z = k ∧ SM u a') st9  ⟨e6, h9⟩) (cwV 0 hts gL_law_X9_thrown rfl rfl rfl hd9_thrown ⟨Nat.le_of_ble_eq_true rfl, Nat.le_of_ble_eq_true rfl⟩) (LI_pre9 hG hLI hv9 []) rfl rfl hl.1 rfl (lv_room (Nat.le_of_ble_eq_true rfl)) dL_law_598 ⟨by show cells + 2 + 0 ≤ 601024; omega, by show slots + 12 + 0 ≤ 7293034; omega⟩) hG hLI (fun zt st9 H locs ho9 hLI => ?_)
  obtain ⟨ez, h9⟩ := ho9
  subst ez
  refine lv_iload hx hb dL_law_601 (lv_at hl 1 rfl) ?_
  refine lv_icmp_eq (tgt := 608) hx hb dL_law_603 (by decide) (fun _ => ?_) (fun n => absurd rfl n)
  refine lv_iload hx hb dL_law_608 (lv_at hl 1 rfl) ?_
  refine lv_if_ne (tgt := 625) hx hb dL_law_610 (by decide) (fun _ => ?_) (fun e0 => ?_)
  · refine lv_goto (tgt := 2661) hx hb dL_law_625 (by decide) ?_
    exact next _ _ _ _ _ _ _ _ hLI h8 h9 (lv_sub hl [2, 3, 4, 5, 6, 7] rfl)
  · have k0 : zt = 0 := by
      rw [iI_0, iI_eq (inI_s (by omega) (by omega)) inI_0] at e0
      exact e0
    obtain ⟨w9, hw9, ex⟩ := hv k0
    have ew := hone _ _ (hz9 k0) hw9
    subst ew
    subst ex
    refine lv_aload_n hx hb dL_law_613 rfl (lv_at hl 5 rfl) ?_
    refine r_iconst (n := 0) hx hb dL_law_614 ?_
    refine w_lald hx hb hG hLI dL_law_615 ?_
    refine lv_iload hx hb dL_law_616 (lv_at hl 0 rfl) ?_
    refine lv_i2l (v := cvI zb) hx hb dL_law_618 rfl ?_
    refine w_lcmp_eq (tgt := 625) hx hb dL_law_619 dL_law_620 (by decide) ?_
    refine lv_goto (tgt := 2661) hx hb dL_law_625 (by decide) ?_
    exact next _ _ _ _ _ _ _ _ hLI h8 h9 (lv_sub hl [2, 3, 4, 5, 6, 7] rfl)
set_option maxHeartbeats 4000000 in
set_option maxRecDepth 100000 in
theorem law_c8 {p : Program} {l : Launch} {e : Env} {s : State} {m : MethodId} {below : List Frame} {meth : Method} {c : Code} {Q : State → Prop} {b L : Nat} {xs : Nat → Int32} {G : WG} {cD : ClassId} {qo qd : Nat} (hC : LawC l p s m c b L xs G cD qo qd) {i : Int} (hi0 : 0 ≤ i) (hi : i + 6 ≤ L) {st8 st9 : St} {a : Ab} {x : Int64} {y : UInt64} {H : Heap} {locs : List Loc} {cells slots : Nat} {ls : Array Slot} (hc : cells + 2 ≤ 601024) (hs : slots + 12 ≤ 7293034) (hLI : LI G cD qo qd s st8 st9 x y H locs) (h8 : SC st8 a) (h9 : SM st9 a) (hl : lv_has ls 10 [(0, .ref b), (1, .ref (G.2.2.1 8 0)), (2, .ref (G.2.2.1 9 0)), (3, .ref qo), (4, .ref qd), (5, .int (iI i))]) (next : ∀ (st8 st9 : St) (a : Ab) (x : Int64) (y : UInt64) (H : Heap) (locs : List Loc) (ls : Array Slot), LI G cD qo qd s st8 st9 x y H locs → SC st8 a → SM st9 a → lv_has ls 10 [(0, .ref b), (1, .ref (G.2.2.1 8 0)), (2, .ref (G.2.2.1 9 0)), (3, .ref qo), (4, .ref qd), (5, .int (iI i))] → W p l e room_1 s m #[Value.ref b] below meth c H locs (cells + 2) (slots + 12) Q (F0 m 2661 ls [])) : W p l e room_1 s m #[Value.ref b] below meth c H locs cells slots Q (F0 m 628 ls []) := by
  obtain ⟨hx, hb, hml, hown, hts, hX, hbl, hG, hbA, hL9, hfl⟩ := hC
  have hv8 : vC 8 0 := ⟨by decide, by decide, by decide, by decide⟩
  have hv9 : vM 9 0 := ⟨Or.inl rfl, by decide, by decide⟩
  refine lv_aload_n hx hb dL_law_628 rfl (lv_at hl 1 rfl) ?_
  refine lv_aload_n hx hb dL_law_629 rfl (lv_at hl 0 rfl) ?_
  refine lv_iload hx hb dL_law_630 (lv_at hl 5 rfl) ?_
  refine r_iconst (n := 1) hx hb dL_law_632 ?_
  refine r_iadd hx hb dL_law_633 ?_
  refine w_sld hx hb hX hbl hbA hL9 hLI (j := i + 1) (by omega) (by omega) dL_law_634 ?_
  refine lv_aload_n hx hb dL_law_635 rfl (lv_at hl 0 rfl) ?_
  refine lv_iload hx hb dL_law_636 (lv_at hl 5 rfl) ?_
  refine r_iconst (n := 2) hx hb dL_law_638 ?_
  refine r_iadd hx hb dL_law_639 ?_
  refine w_sld hx hb hX hbl hbA hL9 hLI (j := i + 2) (by omega) (by omega) dL_law_640 ?_
  refine lv_aload_n hx hb dL_law_641 rfl (lv_at hl 3 rfl) ?_
  obtain ⟨k, P, a', hone, f8, f9⟩ := S_axle  h8 h9 (xv_I _ _) (xv_I _ _)
  refine lc_s (vx_runSW (As := [.ref (G.2.2.1 8 0), .int (iI (xv xs (i + 1))), .int (iI (xv xs (i + 2))), .ref qo]) (rest := []) ⟨hx, hb, hml, hown, hts⟩ (wL_axle l (wR G (ownA G H.size qo)) hfl qo (fun K i v => (hG.2.2.2.2.2.2.1 K i (Or.inl v)).1) st8 (xv xs (i + 1)) (xv xs (i + 2)) k P a' f8) (vx_cwSW 4 hts gL_law_L_axle rfl rfl rfl (by decide +kernel) ⟨Nat.le_of_ble_eq_true rfl, Nat.le_of_ble_eq_true rfl⟩) (LI_preL hG hLI [.ref (G.2.2.1 8 0), .int (iI (xv xs (i + 1))), .int (iI (xv xs (i + 2))), .ref qo]) rfl rfl hl.1 rfl (lv_room (Nat.le_of_ble_eq_true rfl)) dL_law_642 ⟨by show cells + 2 ≤ 601024; omega, by show slots + 12 ≤ 7293034; omega⟩) hG hLI (fun st8 x H locs hk2 h8 hv hLI => ?_)
  refine W.widen (k := cells + 2) (n := slots + 12) (by omega) (by omega) ?_
  refine lv_istore (lv' := [(6, .int (iI k)), (0, .ref b), (1, .ref (G.2.2.1 8 0)), (2, .ref (G.2.2.1 9 0)), (3, .ref qo), (4, .ref qd), (5, .int (iI i))]) hx hb dL_law_645 hl (by decide) rfl (fun ls hl => ?_)
  refine lv_aload_n hx hb dL_law_647 rfl (lv_at hl 3 rfl) ?_
  refine lv_aload_n hx hb dL_law_648 rfl (lv_at hl 1 rfl) ?_
  refine lv_iload hx hb dL_law_649 (lv_at hl 6 rfl) ?_
  refine r_iconst (n := 1) hx hb dL_law_651 ?_
  refine r_iadd hx hb dL_law_652 ?_
  refine w_sld hx hb hX hbl hbA hL9 hLI (j := i + 1) (by omega) (by omega) dL_law_653 ?_
  refine lv_aload_n hx hb dL_law_654 rfl (lv_at hl 1 rfl) ?_
  refine lv_iload hx hb dL_law_655 (lv_at hl 6 rfl) ?_
  refine r_iconst (n := 2) hx hb dL_law_657 ?_
  refine r_iadd hx hb dL_law_658 ?_
  refine w_sld hx hb hX hbl hbA hL9 hLI (j := i + 2) (by omega) (by omega) dL_law_659 ?_
  refine lc_mi (va_runV (As := [.int (iI (xv xs (i + 1))), .int (iI (xv xs (i + 2)))]) (rest := []) ⟨hx, hb, hml, hown, hts⟩ (m9_axle l (wR G (ownV vM G H.size)) hv9 _ st9 (xv xs (i + 1)) (xv xs (i + 2)) f9) (cwV 2 hts gL_law_X9_axle rfl rfl rfl hd9_axle ⟨Nat.le_of_ble_eq_true rfl, Nat.le_of_ble_eq_true rfl⟩) (LI_pre9 hG hLI hv9 [.int (iI (xv xs (i + 1))), .int (iI (xv xs (i + 2)))]) rfl rfl hl.1 rfl (lv_room (Nat.le_of_ble_eq_true rfl)) dL_law_660 ⟨by show cells + 2 + 0 ≤ 601024; omega, by show slots + 12 + 0 ≤ 7293034; omega⟩) hG hLI (fun zb st9 H locs ho9 hLI => ?_)
  obtain ⟨hz9, e6, h9⟩ := ho9
  refine lv_istore (lv' := [(7, .int (iI zb)), (6, .int (iI k)), (0, .ref b), (1, .ref (G.2.2.1 8 0)), (2, .ref (G.2.2.1 9 0)), (3, .ref qo), (4, .ref qd), (5, .int (iI i))]) hx hb dL_law_663 hl (by decide) rfl (fun ls hl => ?_)
  refine lv_aload_n hx hb dL_law_665 rfl (lv_at hl 4 rfl) ?_
  refine lc_mi (va_runV (As := []) (rest := []) ⟨hx, hb, hml, hown, hts⟩ (m9_thrown l (wR G (ownV vM G H.size)) hv9 (fun z u => z = k ∧ SM u a') st9  ⟨e6, h9⟩) (cwV 0 hts gL_law_X9_thrown rfl rfl rfl hd9_thrown ⟨Nat.le_of_ble_eq_true rfl, Nat.le_of_ble_eq_true rfl⟩) (LI_pre9 hG hLI hv9 []) rfl rfl hl.1 rfl (lv_room (Nat.le_of_ble_eq_true rfl)) dL_law_666 ⟨by show cells + 2 + 0 ≤ 601024; omega, by show slots + 12 + 0 ≤ 7293034; omega⟩) hG hLI (fun zt st9 H locs ho9 hLI => ?_)
  obtain ⟨ez, h9⟩ := ho9
  subst ez
  refine lv_iload hx hb dL_law_669 (lv_at hl 1 rfl) ?_
  refine lv_icmp_eq (tgt := 676) hx hb dL_law_671 (by decide) (fun _ => ?_) (fun n => absurd rfl n)
  refine lv_iload hx hb dL_law_676 (lv_at hl 1 rfl) ?_
  refine lv_if_ne (tgt := 693) hx hb dL_law_678 (by decide) (fun _ => ?_) (fun e0 => ?_)
  · refine lv_goto (tgt := 2661) hx hb dL_law_693 (by decide) ?_
    exact next _ _ _ _ _ _ _ _ hLI h8 h9 (lv_sub hl [2, 3, 4, 5, 6, 7] rfl)
  · have k0 : zt = 0 := by
      rw [iI_0, iI_eq (inI_s (by omega) (by omega)) inI_0] at e0
      exact e0
    obtain ⟨w9, hw9, ex⟩ := hv k0
    have ew := hone _ _ (hz9 k0) hw9
    subst ew
    subst ex
    refine lv_aload_n hx hb dL_law_681 rfl (lv_at hl 5 rfl) ?_
    refine r_iconst (n := 0) hx hb dL_law_682 ?_
    refine w_lald hx hb hG hLI dL_law_683 ?_
    refine lv_iload hx hb dL_law_684 (lv_at hl 0 rfl) ?_
    refine lv_i2l (v := cvI zb) hx hb dL_law_686 rfl ?_
    refine w_lcmp_eq (tgt := 693) hx hb dL_law_687 dL_law_688 (by decide) ?_
    refine lv_goto (tgt := 2661) hx hb dL_law_693 (by decide) ?_
    exact next _ _ _ _ _ _ _ _ hLI h8 h9 (lv_sub hl [2, 3, 4, 5, 6, 7] rfl)
set_option maxHeartbeats 4000000 in
set_option maxRecDepth 100000 in
theorem law_c9 {p : Program} {l : Launch} {e : Env} {s : State} {m : MethodId} {below : List Frame} {meth : Method} {c : Code} {Q : State → Prop} {b L : Nat} {xs : Nat → Int32} {G : WG} {cD : ClassId} {qo qd : Nat} (hC : LawC l p s m c b L xs G cD qo qd) {i : Int} (hi0 : 0 ≤ i) (hi : i + 6 ≤ L) {st8 st9 : St} {a : Ab} {x : Int64} {y : UInt64} {H : Heap} {locs : List Loc} {cells slots : Nat} {ls : Array Slot} (hc : cells + 2 ≤ 601024) (hs : slots + 12 ≤ 7293034) (hLI : LI G cD qo qd s st8 st9 x y H locs) (h8 : SC st8 a) (h9 : SM st9 a) (hl : lv_has ls 10 [(0, .ref b), (1, .ref (G.2.2.1 8 0)), (2, .ref (G.2.2.1 9 0)), (3, .ref qo), (4, .ref qd), (5, .int (iI i))]) (next : ∀ (st8 st9 : St) (a : Ab) (x : Int64) (y : UInt64) (H : Heap) (locs : List Loc) (ls : Array Slot), LI G cD qo qd s st8 st9 x y H locs → SC st8 a → SM st9 a → lv_has ls 10 [(0, .ref b), (1, .ref (G.2.2.1 8 0)), (2, .ref (G.2.2.1 9 0)), (3, .ref qo), (4, .ref qd), (5, .int (iI i))] → W p l e room_1 s m #[Value.ref b] below meth c H locs (cells + 2) (slots + 12) Q (F0 m 2661 ls [])) : W p l e room_1 s m #[Value.ref b] below meth c H locs cells slots Q (F0 m 696 ls []) := by
  obtain ⟨hx, hb, hml, hown, hts, hX, hbl, hG, hbA, hL9, hfl⟩ := hC
  have hv8 : vC 8 0 := ⟨by decide, by decide, by decide, by decide⟩
  have hv9 : vM 9 0 := ⟨Or.inl rfl, by decide, by decide⟩
  refine lv_aload_n hx hb dL_law_696 rfl (lv_at hl 1 rfl) ?_
  refine lv_aload_n hx hb dL_law_697 rfl (lv_at hl 0 rfl) ?_
  refine lv_iload hx hb dL_law_698 (lv_at hl 5 rfl) ?_
  refine r_iconst (n := 1) hx hb dL_law_700 ?_
  refine r_iadd hx hb dL_law_701 ?_
  refine w_sld hx hb hX hbl hbA hL9 hLI (j := i + 1) (by omega) (by omega) dL_law_702 ?_
  refine lv_aload_n hx hb dL_law_703 rfl (lv_at hl 3 rfl) ?_
  obtain ⟨k, P, a', hone, f8, f9⟩ := S_part  h8 h9 (xv_I _ _)
  refine lc_s (vx_runSW (As := [.ref (G.2.2.1 8 0), .int (iI (xv xs (i + 1))), .ref qo]) (rest := []) ⟨hx, hb, hml, hown, hts⟩ (wL_part l (wR G (ownA G H.size qo)) hfl qo (fun K i v => (hG.2.2.2.2.2.2.1 K i (Or.inl v)).1) st8 (xv xs (i + 1)) k P a' f8) (vx_cwSW 3 hts gL_law_L_part rfl rfl rfl (by decide +kernel) ⟨Nat.le_of_ble_eq_true rfl, Nat.le_of_ble_eq_true rfl⟩) (LI_preL hG hLI [.ref (G.2.2.1 8 0), .int (iI (xv xs (i + 1))), .ref qo]) rfl rfl hl.1 rfl (lv_room (Nat.le_of_ble_eq_true rfl)) dL_law_704 ⟨by show cells + 1 ≤ 601024; omega, by show slots + 6 ≤ 7293034; omega⟩) hG hLI (fun st8 x H locs hk2 h8 hv hLI => ?_)
  refine W.widen (k := cells + 2) (n := slots + 12) (by omega) (by omega) ?_
  refine lv_istore (lv' := [(6, .int (iI k)), (0, .ref b), (1, .ref (G.2.2.1 8 0)), (2, .ref (G.2.2.1 9 0)), (3, .ref qo), (4, .ref qd), (5, .int (iI i))]) hx hb dL_law_707 hl (by decide) rfl (fun ls hl => ?_)
  refine lv_aload_n hx hb dL_law_709 rfl (lv_at hl 3 rfl) ?_
  refine lv_aload_n hx hb dL_law_710 rfl (lv_at hl 1 rfl) ?_
  refine lv_iload hx hb dL_law_711 (lv_at hl 6 rfl) ?_
  refine r_iconst (n := 1) hx hb dL_law_713 ?_
  refine r_iadd hx hb dL_law_714 ?_
  refine w_sld hx hb hX hbl hbA hL9 hLI (j := i + 1) (by omega) (by omega) dL_law_715 ?_
  refine lc_mi (va_runV (As := [.int (iI (xv xs (i + 1)))]) (rest := []) ⟨hx, hb, hml, hown, hts⟩ (m9_part l (wR G (ownV vM G H.size)) hv9 _ st9 (xv xs (i + 1)) f9) (cwV 1 hts gL_law_X9_part rfl rfl rfl hd9_part ⟨Nat.le_of_ble_eq_true rfl, Nat.le_of_ble_eq_true rfl⟩) (LI_pre9 hG hLI hv9 [.int (iI (xv xs (i + 1)))]) rfl rfl hl.1 rfl (lv_room (Nat.le_of_ble_eq_true rfl)) dL_law_716 ⟨by show cells + 2 + 0 ≤ 601024; omega, by show slots + 12 + 0 ≤ 7293034; omega⟩) hG hLI (fun zb st9 H locs ho9 hLI => ?_)
  obtain ⟨hz9, e6, h9⟩ := ho9
  refine lv_istore (lv' := [(7, .int (iI zb)), (6, .int (iI k)), (0, .ref b), (1, .ref (G.2.2.1 8 0)), (2, .ref (G.2.2.1 9 0)), (3, .ref qo), (4, .ref qd), (5, .int (iI i))]) hx hb dL_law_719 hl (by decide) rfl (fun ls hl => ?_)
  refine lv_aload_n hx hb dL_law_721 rfl (lv_at hl 4 rfl) ?_
  refine lc_mi (va_runV (As := []) (rest := []) ⟨hx, hb, hml, hown, hts⟩ (m9_thrown l (wR G (ownV vM G H.size)) hv9 (fun z u => z = k ∧ SM u a') st9  ⟨e6, h9⟩) (cwV 0 hts gL_law_X9_thrown rfl rfl rfl hd9_thrown ⟨Nat.le_of_ble_eq_true rfl, Nat.le_of_ble_eq_true rfl⟩) (LI_pre9 hG hLI hv9 []) rfl rfl hl.1 rfl (lv_room (Nat.le_of_ble_eq_true rfl)) dL_law_722 ⟨by show cells + 2 + 0 ≤ 601024; omega, by show slots + 12 + 0 ≤ 7293034; omega⟩) hG hLI (fun zt st9 H locs ho9 hLI => ?_)
  obtain ⟨ez, h9⟩ := ho9
  subst ez
  refine lv_iload hx hb dL_law_725 (lv_at hl 1 rfl) ?_
  refine lv_icmp_eq (tgt := 732) hx hb dL_law_727 (by decide) (fun _ => ?_) (fun n => absurd rfl n)
  refine lv_iload hx hb dL_law_732 (lv_at hl 1 rfl) ?_
  refine lv_if_ne (tgt := 749) hx hb dL_law_734 (by decide) (fun _ => ?_) (fun e0 => ?_)
  · refine lv_goto (tgt := 2661) hx hb dL_law_749 (by decide) ?_
    exact next _ _ _ _ _ _ _ _ hLI h8 h9 (lv_sub hl [2, 3, 4, 5, 6, 7] rfl)
  · have k0 : zt = 0 := by
      rw [iI_0, iI_eq (inI_s (by omega) (by omega)) inI_0] at e0
      exact e0
    obtain ⟨w9, hw9, ex⟩ := hv k0
    have ew := hone _ _ (hz9 k0) hw9
    subst ew
    subst ex
    refine lv_aload_n hx hb dL_law_737 rfl (lv_at hl 5 rfl) ?_
    refine r_iconst (n := 0) hx hb dL_law_738 ?_
    refine w_lald hx hb hG hLI dL_law_739 ?_
    refine lv_iload hx hb dL_law_740 (lv_at hl 0 rfl) ?_
    refine lv_i2l (v := cvI zb) hx hb dL_law_742 rfl ?_
    refine w_lcmp_eq (tgt := 749) hx hb dL_law_743 dL_law_744 (by decide) ?_
    refine lv_goto (tgt := 2661) hx hb dL_law_749 (by decide) ?_
    exact next _ _ _ _ _ _ _ _ hLI h8 h9 (lv_sub hl [2, 3, 4, 5, 6, 7] rfl)
set_option maxHeartbeats 4000000 in
set_option maxRecDepth 100000 in
theorem law_c10 {p : Program} {l : Launch} {e : Env} {s : State} {m : MethodId} {below : List Frame} {meth : Method} {c : Code} {Q : State → Prop} {b L : Nat} {xs : Nat → Int32} {G : WG} {cD : ClassId} {qo qd : Nat} (hC : LawC l p s m c b L xs G cD qo qd) {i : Int} (hi0 : 0 ≤ i) (hi : i + 6 ≤ L) {st8 st9 : St} {a : Ab} {x : Int64} {y : UInt64} {H : Heap} {locs : List Loc} {cells slots : Nat} {ls : Array Slot} (hc : cells + 2 ≤ 601024) (hs : slots + 12 ≤ 7293034) (hLI : LI G cD qo qd s st8 st9 x y H locs) (h8 : SC st8 a) (h9 : SM st9 a) (hl : lv_has ls 10 [(0, .ref b), (1, .ref (G.2.2.1 8 0)), (2, .ref (G.2.2.1 9 0)), (3, .ref qo), (4, .ref qd), (5, .int (iI i))]) (next : ∀ (st8 st9 : St) (a : Ab) (x : Int64) (y : UInt64) (H : Heap) (locs : List Loc) (ls : Array Slot), LI G cD qo qd s st8 st9 x y H locs → SC st8 a → SM st9 a → lv_has ls 10 [(0, .ref b), (1, .ref (G.2.2.1 8 0)), (2, .ref (G.2.2.1 9 0)), (3, .ref qo), (4, .ref qd), (5, .int (iI i))] → W p l e room_1 s m #[Value.ref b] below meth c H locs (cells + 2) (slots + 12) Q (F0 m 2661 ls [])) : W p l e room_1 s m #[Value.ref b] below meth c H locs cells slots Q (F0 m 752 ls []) := by
  obtain ⟨hx, hb, hml, hown, hts, hX, hbl, hG, hbA, hL9, hfl⟩ := hC
  have hv8 : vC 8 0 := ⟨by decide, by decide, by decide, by decide⟩
  have hv9 : vM 9 0 := ⟨Or.inl rfl, by decide, by decide⟩
  refine lv_aload_n hx hb dL_law_752 rfl (lv_at hl 1 rfl) ?_
  refine lv_aload_n hx hb dL_law_753 rfl (lv_at hl 0 rfl) ?_
  refine lv_iload hx hb dL_law_754 (lv_at hl 5 rfl) ?_
  refine r_iconst (n := 1) hx hb dL_law_756 ?_
  refine r_iadd hx hb dL_law_757 ?_
  refine w_sld hx hb hX hbl hbA hL9 hLI (j := i + 1) (by omega) (by omega) dL_law_758 ?_
  refine lv_aload_n hx hb dL_law_759 rfl (lv_at hl 0 rfl) ?_
  refine lv_iload hx hb dL_law_760 (lv_at hl 5 rfl) ?_
  refine r_iconst (n := 2) hx hb dL_law_762 ?_
  refine r_iadd hx hb dL_law_763 ?_
  refine w_sld hx hb hX hbl hbA hL9 hLI (j := i + 2) (by omega) (by omega) dL_law_764 ?_
  refine lv_aload_n hx hb dL_law_765 rfl (lv_at hl 3 rfl) ?_
  obtain ⟨k, P, a', hone, f8, f9⟩ := S_reactionLine  h8 h9 (xv_I _ _) (xv_I _ _)
  refine lc_s (vx_runSW (As := [.ref (G.2.2.1 8 0), .int (iI (xv xs (i + 1))), .int (iI (xv xs (i + 2))), .ref qo]) (rest := []) ⟨hx, hb, hml, hown, hts⟩ (wL_reactionLine l (wR G (ownA G H.size qo)) hfl qo (fun K i v => (hG.2.2.2.2.2.2.1 K i (Or.inl v)).1) st8 (xv xs (i + 1)) (xv xs (i + 2)) k P a' f8) (vx_cwSW 4 hts gL_law_L_reactionLine rfl rfl rfl (by decide +kernel) ⟨Nat.le_of_ble_eq_true rfl, Nat.le_of_ble_eq_true rfl⟩) (LI_preL hG hLI [.ref (G.2.2.1 8 0), .int (iI (xv xs (i + 1))), .int (iI (xv xs (i + 2))), .ref qo]) rfl rfl hl.1 rfl (lv_room (Nat.le_of_ble_eq_true rfl)) dL_law_766 ⟨by show cells + 2 ≤ 601024; omega, by show slots + 12 ≤ 7293034; omega⟩) hG hLI (fun st8 x H locs hk2 h8 hv hLI => ?_)
  refine W.widen (k := cells + 2) (n := slots + 12) (by omega) (by omega) ?_
  refine lv_istore (lv' := [(6, .int (iI k)), (0, .ref b), (1, .ref (G.2.2.1 8 0)), (2, .ref (G.2.2.1 9 0)), (3, .ref qo), (4, .ref qd), (5, .int (iI i))]) hx hb dL_law_769 hl (by decide) rfl (fun ls hl => ?_)
  refine lv_aload_n hx hb dL_law_771 rfl (lv_at hl 3 rfl) ?_
  refine lv_aload_n hx hb dL_law_772 rfl (lv_at hl 1 rfl) ?_
  refine lv_iload hx hb dL_law_773 (lv_at hl 6 rfl) ?_
  refine r_iconst (n := 1) hx hb dL_law_775 ?_
  refine r_iadd hx hb dL_law_776 ?_
  refine w_sld hx hb hX hbl hbA hL9 hLI (j := i + 1) (by omega) (by omega) dL_law_777 ?_
  refine lv_aload_n hx hb dL_law_778 rfl (lv_at hl 1 rfl) ?_
  refine lv_iload hx hb dL_law_779 (lv_at hl 6 rfl) ?_
  refine r_iconst (n := 2) hx hb dL_law_781 ?_
  refine r_iadd hx hb dL_law_782 ?_
  refine w_sld hx hb hX hbl hbA hL9 hLI (j := i + 2) (by omega) (by omega) dL_law_783 ?_
  refine lc_ml (va_runV (As := [.int (iI (xv xs (i + 1))), .int (iI (xv xs (i + 2)))]) (rest := []) ⟨hx, hb, hml, hown, hts⟩ (m9_reactionLine l (wR G (ownV vM G H.size)) hv9 _ st9 (xv xs (i + 1)) (xv xs (i + 2)) f9) (cwV 2 hts gL_law_X9_reactionLine rfl rfl rfl hd9_reactionLine ⟨Nat.le_of_ble_eq_true rfl, Nat.le_of_ble_eq_true rfl⟩) (LI_pre9 hG hLI hv9 [.int (iI (xv xs (i + 1))), .int (iI (xv xs (i + 2)))]) rfl rfl hl.1 rfl (lv_room (Nat.le_of_ble_eq_true rfl)) dL_law_784 ⟨by show cells + 2 + 0 ≤ 601024; omega, by show slots + 12 + 0 ≤ 7293034; omega⟩) hG hLI (fun zb st9 H locs ho9 hLI => ?_)
  obtain ⟨hz9, e6, h9⟩ := ho9
  refine lv_lstore (lv' := [(7, .long (lI zb)), (6, .int (iI k)), (0, .ref b), (1, .ref (G.2.2.1 8 0)), (2, .ref (G.2.2.1 9 0)), (3, .ref qo), (4, .ref qd), (5, .int (iI i))]) hx hb dL_law_787 hl (by decide) rfl (fun ls hl => ?_)
  refine lv_aload_n hx hb dL_law_789 rfl (lv_at hl 4 rfl) ?_
  refine lc_mi (va_runV (As := []) (rest := []) ⟨hx, hb, hml, hown, hts⟩ (m9_thrown l (wR G (ownV vM G H.size)) hv9 (fun z u => z = k ∧ SM u a') st9  ⟨e6, h9⟩) (cwV 0 hts gL_law_X9_thrown rfl rfl rfl hd9_thrown ⟨Nat.le_of_ble_eq_true rfl, Nat.le_of_ble_eq_true rfl⟩) (LI_pre9 hG hLI hv9 []) rfl rfl hl.1 rfl (lv_room (Nat.le_of_ble_eq_true rfl)) dL_law_790 ⟨by show cells + 2 + 0 ≤ 601024; omega, by show slots + 12 + 0 ≤ 7293034; omega⟩) hG hLI (fun zt st9 H locs ho9 hLI => ?_)
  obtain ⟨ez, h9⟩ := ho9
  subst ez
  refine lv_iload hx hb dL_law_793 (lv_at hl 1 rfl) ?_
  refine lv_icmp_eq (tgt := 800) hx hb dL_law_795 (by decide) (fun _ => ?_) (fun n => absurd rfl n)
  refine lv_iload hx hb dL_law_800 (lv_at hl 1 rfl) ?_
  refine lv_if_ne (tgt := 816) hx hb dL_law_802 (by decide) (fun _ => ?_) (fun e0 => ?_)
  · refine lv_goto (tgt := 2661) hx hb dL_law_816 (by decide) ?_
    exact next _ _ _ _ _ _ _ _ hLI h8 h9 (lv_sub hl [2, 3, 4, 5, 6, 7] rfl)
  · have k0 : zt = 0 := by
      rw [iI_0, iI_eq (inI_s (by omega) (by omega)) inI_0] at e0
      exact e0
    obtain ⟨w9, hw9, ex⟩ := hv k0
    have ew := hone _ _ (hz9 k0) hw9
    subst ew
    subst ex
    refine lv_aload_n hx hb dL_law_805 rfl (lv_at hl 5 rfl) ?_
    refine r_iconst (n := 0) hx hb dL_law_806 ?_
    refine w_lald hx hb hG hLI dL_law_807 ?_
    refine lv_lload hx hb dL_law_808 (lv_at hl 0 rfl) ?_
    refine w_lcmp_eq (tgt := 816) hx hb dL_law_810 dL_law_811 (by decide) ?_
    refine lv_goto (tgt := 2661) hx hb dL_law_816 (by decide) ?_
    exact next _ _ _ _ _ _ _ _ hLI h8 h9 (lv_sub hl [2, 3, 4, 5, 6, 7] rfl)
set_option maxHeartbeats 4000000 in
set_option maxRecDepth 100000 in
theorem law_c11 {p : Program} {l : Launch} {e : Env} {s : State} {m : MethodId} {below : List Frame} {meth : Method} {c : Code} {Q : State → Prop} {b L : Nat} {xs : Nat → Int32} {G : WG} {cD : ClassId} {qo qd : Nat} (hC : LawC l p s m c b L xs G cD qo qd) {i : Int} (hi0 : 0 ≤ i) (hi : i + 6 ≤ L) {st8 st9 : St} {a : Ab} {x : Int64} {y : UInt64} {H : Heap} {locs : List Loc} {cells slots : Nat} {ls : Array Slot} (hc : cells + 2 ≤ 601024) (hs : slots + 12 ≤ 7293034) (hLI : LI G cD qo qd s st8 st9 x y H locs) (h8 : SC st8 a) (h9 : SM st9 a) (hl : lv_has ls 10 [(0, .ref b), (1, .ref (G.2.2.1 8 0)), (2, .ref (G.2.2.1 9 0)), (3, .ref qo), (4, .ref qd), (5, .int (iI i))]) (next : ∀ (st8 st9 : St) (a : Ab) (x : Int64) (y : UInt64) (H : Heap) (locs : List Loc) (ls : Array Slot), LI G cD qo qd s st8 st9 x y H locs → SC st8 a → SM st9 a → lv_has ls 10 [(0, .ref b), (1, .ref (G.2.2.1 8 0)), (2, .ref (G.2.2.1 9 0)), (3, .ref qo), (4, .ref qd), (5, .int (iI i))] → W p l e room_1 s m #[Value.ref b] below meth c H locs (cells + 2) (slots + 12) Q (F0 m 2661 ls [])) : W p l e room_1 s m #[Value.ref b] below meth c H locs cells slots Q (F0 m 819 ls []) := by
  obtain ⟨hx, hb, hml, hown, hts, hX, hbl, hG, hbA, hL9, hfl⟩ := hC
  have hv8 : vC 8 0 := ⟨by decide, by decide, by decide, by decide⟩
  have hv9 : vM 9 0 := ⟨Or.inl rfl, by decide, by decide⟩
  refine lv_aload_n hx hb dL_law_819 rfl (lv_at hl 1 rfl) ?_
  refine lv_aload_n hx hb dL_law_820 rfl (lv_at hl 0 rfl) ?_
  refine lv_iload hx hb dL_law_821 (lv_at hl 5 rfl) ?_
  refine r_iconst (n := 1) hx hb dL_law_823 ?_
  refine r_iadd hx hb dL_law_824 ?_
  refine w_sld hx hb hX hbl hbA hL9 hLI (j := i + 1) (by omega) (by omega) dL_law_825 ?_
  refine lv_aload_n hx hb dL_law_826 rfl (lv_at hl 0 rfl) ?_
  refine lv_iload hx hb dL_law_827 (lv_at hl 5 rfl) ?_
  refine r_iconst (n := 2) hx hb dL_law_829 ?_
  refine r_iadd hx hb dL_law_830 ?_
  refine w_sld hx hb hX hbl hbA hL9 hLI (j := i + 2) (by omega) (by omega) dL_law_831 ?_
  refine lv_aload_n hx hb dL_law_832 rfl (lv_at hl 3 rfl) ?_
  obtain ⟨k, P, a', hone, f8, f9⟩ := S_shearLine  h8 h9 (xv_I _ _) (xv_I _ _)
  refine lc_s (vx_runSW (As := [.ref (G.2.2.1 8 0), .int (iI (xv xs (i + 1))), .int (iI (xv xs (i + 2))), .ref qo]) (rest := []) ⟨hx, hb, hml, hown, hts⟩ (wL_shearLine l (wR G (ownA G H.size qo)) hfl qo (fun K i v => (hG.2.2.2.2.2.2.1 K i (Or.inl v)).1) st8 (xv xs (i + 1)) (xv xs (i + 2)) k P a' f8) (vx_cwSW 4 hts gL_law_L_shearLine rfl rfl rfl (by decide +kernel) ⟨Nat.le_of_ble_eq_true rfl, Nat.le_of_ble_eq_true rfl⟩) (LI_preL hG hLI [.ref (G.2.2.1 8 0), .int (iI (xv xs (i + 1))), .int (iI (xv xs (i + 2))), .ref qo]) rfl rfl hl.1 rfl (lv_room (Nat.le_of_ble_eq_true rfl)) dL_law_833 ⟨by show cells + 2 ≤ 601024; omega, by show slots + 12 ≤ 7293034; omega⟩) hG hLI (fun st8 x H locs hk2 h8 hv hLI => ?_)
  refine W.widen (k := cells + 2) (n := slots + 12) (by omega) (by omega) ?_
  refine lv_istore (lv' := [(6, .int (iI k)), (0, .ref b), (1, .ref (G.2.2.1 8 0)), (2, .ref (G.2.2.1 9 0)), (3, .ref qo), (4, .ref qd), (5, .int (iI i))]) hx hb dL_law_836 hl (by decide) rfl (fun ls hl => ?_)
  refine lv_aload_n hx hb dL_law_838 rfl (lv_at hl 3 rfl) ?_
  refine lv_aload_n hx hb dL_law_839 rfl (lv_at hl 1 rfl) ?_
  refine lv_iload hx hb dL_law_840 (lv_at hl 6 rfl) ?_
  refine r_iconst (n := 1) hx hb dL_law_842 ?_
  refine r_iadd hx hb dL_law_843 ?_
  refine w_sld hx hb hX hbl hbA hL9 hLI (j := i + 1) (by omega) (by omega) dL_law_844 ?_
  refine lv_aload_n hx hb dL_law_845 rfl (lv_at hl 1 rfl) ?_
  refine lv_iload hx hb dL_law_846 (lv_at hl 6 rfl) ?_
  refine r_iconst (n := 2) hx hb dL_law_848 ?_
  refine r_iadd hx hb dL_law_849 ?_
  refine w_sld hx hb hX hbl hbA hL9 hLI (j := i + 2) (by omega) (by omega) dL_law_850 ?_
  refine lc_ml (va_runV (As := [.int (iI (xv xs (i + 1))), .int (iI (xv xs (i + 2)))]) (rest := []) ⟨hx, hb, hml, hown, hts⟩ (m9_shearLine l (wR G (ownV vM G H.size)) hv9 _ st9 (xv xs (i + 1)) (xv xs (i + 2)) f9) (cwV 2 hts gL_law_X9_shearLine rfl rfl rfl hd9_shearLine ⟨Nat.le_of_ble_eq_true rfl, Nat.le_of_ble_eq_true rfl⟩) (LI_pre9 hG hLI hv9 [.int (iI (xv xs (i + 1))), .int (iI (xv xs (i + 2)))]) rfl rfl hl.1 rfl (lv_room (Nat.le_of_ble_eq_true rfl)) dL_law_851 ⟨by show cells + 2 + 0 ≤ 601024; omega, by show slots + 12 + 0 ≤ 7293034; omega⟩) hG hLI (fun zb st9 H locs ho9 hLI => ?_)
  obtain ⟨hz9, e6, h9⟩ := ho9
  refine lv_lstore (lv' := [(7, .long (lI zb)), (6, .int (iI k)), (0, .ref b), (1, .ref (G.2.2.1 8 0)), (2, .ref (G.2.2.1 9 0)), (3, .ref qo), (4, .ref qd), (5, .int (iI i))]) hx hb dL_law_854 hl (by decide) rfl (fun ls hl => ?_)
  refine lv_aload_n hx hb dL_law_856 rfl (lv_at hl 4 rfl) ?_
  refine lc_mi (va_runV (As := []) (rest := []) ⟨hx, hb, hml, hown, hts⟩ (m9_thrown l (wR G (ownV vM G H.size)) hv9 (fun z u => z = k ∧ SM u a') st9  ⟨e6, h9⟩) (cwV 0 hts gL_law_X9_thrown rfl rfl rfl hd9_thrown ⟨Nat.le_of_ble_eq_true rfl, Nat.le_of_ble_eq_true rfl⟩) (LI_pre9 hG hLI hv9 []) rfl rfl hl.1 rfl (lv_room (Nat.le_of_ble_eq_true rfl)) dL_law_857 ⟨by show cells + 2 + 0 ≤ 601024; omega, by show slots + 12 + 0 ≤ 7293034; omega⟩) hG hLI (fun zt st9 H locs ho9 hLI => ?_)
  obtain ⟨ez, h9⟩ := ho9
  subst ez
  refine lv_iload hx hb dL_law_860 (lv_at hl 1 rfl) ?_
  refine lv_icmp_eq (tgt := 867) hx hb dL_law_862 (by decide) (fun _ => ?_) (fun n => absurd rfl n)
  refine lv_iload hx hb dL_law_867 (lv_at hl 1 rfl) ?_
  refine lv_if_ne (tgt := 883) hx hb dL_law_869 (by decide) (fun _ => ?_) (fun e0 => ?_)
  · refine lv_goto (tgt := 2661) hx hb dL_law_883 (by decide) ?_
    exact next _ _ _ _ _ _ _ _ hLI h8 h9 (lv_sub hl [2, 3, 4, 5, 6, 7] rfl)
  · have k0 : zt = 0 := by
      rw [iI_0, iI_eq (inI_s (by omega) (by omega)) inI_0] at e0
      exact e0
    obtain ⟨w9, hw9, ex⟩ := hv k0
    have ew := hone _ _ (hz9 k0) hw9
    subst ew
    subst ex
    refine lv_aload_n hx hb dL_law_872 rfl (lv_at hl 5 rfl) ?_
    refine r_iconst (n := 0) hx hb dL_law_873 ?_
    refine w_lald hx hb hG hLI dL_law_874 ?_
    refine lv_lload hx hb dL_law_875 (lv_at hl 0 rfl) ?_
    refine w_lcmp_eq (tgt := 883) hx hb dL_law_877 dL_law_878 (by decide) ?_
    refine lv_goto (tgt := 2661) hx hb dL_law_883 (by decide) ?_
    exact next _ _ _ _ _ _ _ _ hLI h8 h9 (lv_sub hl [2, 3, 4, 5, 6, 7] rfl)
set_option maxHeartbeats 4000000 in
set_option maxRecDepth 100000 in
theorem law_c12 {p : Program} {l : Launch} {e : Env} {s : State} {m : MethodId} {below : List Frame} {meth : Method} {c : Code} {Q : State → Prop} {b L : Nat} {xs : Nat → Int32} {G : WG} {cD : ClassId} {qo qd : Nat} (hC : LawC l p s m c b L xs G cD qo qd) {i : Int} (hi0 : 0 ≤ i) (hi : i + 6 ≤ L) {st8 st9 : St} {a : Ab} {x : Int64} {y : UInt64} {H : Heap} {locs : List Loc} {cells slots : Nat} {ls : Array Slot} (hc : cells + 2 ≤ 601024) (hs : slots + 12 ≤ 7293034) (hLI : LI G cD qo qd s st8 st9 x y H locs) (h8 : SC st8 a) (h9 : SM st9 a) (hl : lv_has ls 10 [(0, .ref b), (1, .ref (G.2.2.1 8 0)), (2, .ref (G.2.2.1 9 0)), (3, .ref qo), (4, .ref qd), (5, .int (iI i))]) (next : ∀ (st8 st9 : St) (a : Ab) (x : Int64) (y : UInt64) (H : Heap) (locs : List Loc) (ls : Array Slot), LI G cD qo qd s st8 st9 x y H locs → SC st8 a → SM st9 a → lv_has ls 10 [(0, .ref b), (1, .ref (G.2.2.1 8 0)), (2, .ref (G.2.2.1 9 0)), (3, .ref qo), (4, .ref qd), (5, .int (iI i))] → W p l e room_1 s m #[Value.ref b] below meth c H locs (cells + 2) (slots + 12) Q (F0 m 2661 ls [])) : W p l e room_1 s m #[Value.ref b] below meth c H locs cells slots Q (F0 m 886 ls []) := by
  obtain ⟨hx, hb, hml, hown, hts, hX, hbl, hG, hbA, hL9, hfl⟩ := hC
  have hv8 : vC 8 0 := ⟨by decide, by decide, by decide, by decide⟩
  have hv9 : vM 9 0 := ⟨Or.inl rfl, by decide, by decide⟩
  refine lv_aload_n hx hb dL_law_886 rfl (lv_at hl 1 rfl) ?_
  refine lv_aload_n hx hb dL_law_887 rfl (lv_at hl 0 rfl) ?_
  refine lv_iload hx hb dL_law_888 (lv_at hl 5 rfl) ?_
  refine r_iconst (n := 1) hx hb dL_law_890 ?_
  refine r_iadd hx hb dL_law_891 ?_
  refine w_sld hx hb hX hbl hbA hL9 hLI (j := i + 1) (by omega) (by omega) dL_law_892 ?_
  refine lv_aload_n hx hb dL_law_893 rfl (lv_at hl 0 rfl) ?_
  refine lv_iload hx hb dL_law_894 (lv_at hl 5 rfl) ?_
  refine r_iconst (n := 2) hx hb dL_law_896 ?_
  refine r_iadd hx hb dL_law_897 ?_
  refine w_sld hx hb hX hbl hbA hL9 hLI (j := i + 2) (by omega) (by omega) dL_law_898 ?_
  refine lv_aload_n hx hb dL_law_899 rfl (lv_at hl 3 rfl) ?_
  obtain ⟨k, P, a', hone, f8, f9⟩ := S_momentLine  h8 h9 (xv_I _ _) (xv_I _ _)
  refine lc_s (vx_runSW (As := [.ref (G.2.2.1 8 0), .int (iI (xv xs (i + 1))), .int (iI (xv xs (i + 2))), .ref qo]) (rest := []) ⟨hx, hb, hml, hown, hts⟩ (wL_momentLine l (wR G (ownA G H.size qo)) hfl qo (fun K i v => (hG.2.2.2.2.2.2.1 K i (Or.inl v)).1) st8 (xv xs (i + 1)) (xv xs (i + 2)) k P a' f8) (vx_cwSW 4 hts gL_law_L_momentLine rfl rfl rfl (by decide +kernel) ⟨Nat.le_of_ble_eq_true rfl, Nat.le_of_ble_eq_true rfl⟩) (LI_preL hG hLI [.ref (G.2.2.1 8 0), .int (iI (xv xs (i + 1))), .int (iI (xv xs (i + 2))), .ref qo]) rfl rfl hl.1 rfl (lv_room (Nat.le_of_ble_eq_true rfl)) dL_law_900 ⟨by show cells + 2 ≤ 601024; omega, by show slots + 12 ≤ 7293034; omega⟩) hG hLI (fun st8 x H locs hk2 h8 hv hLI => ?_)
  refine W.widen (k := cells + 2) (n := slots + 12) (by omega) (by omega) ?_
  refine lv_istore (lv' := [(6, .int (iI k)), (0, .ref b), (1, .ref (G.2.2.1 8 0)), (2, .ref (G.2.2.1 9 0)), (3, .ref qo), (4, .ref qd), (5, .int (iI i))]) hx hb dL_law_903 hl (by decide) rfl (fun ls hl => ?_)
  refine lv_aload_n hx hb dL_law_905 rfl (lv_at hl 3 rfl) ?_
  refine lv_aload_n hx hb dL_law_906 rfl (lv_at hl 1 rfl) ?_
  refine lv_iload hx hb dL_law_907 (lv_at hl 6 rfl) ?_
  refine r_iconst (n := 1) hx hb dL_law_909 ?_
  refine r_iadd hx hb dL_law_910 ?_
  refine w_sld hx hb hX hbl hbA hL9 hLI (j := i + 1) (by omega) (by omega) dL_law_911 ?_
  refine lv_aload_n hx hb dL_law_912 rfl (lv_at hl 1 rfl) ?_
  refine lv_iload hx hb dL_law_913 (lv_at hl 6 rfl) ?_
  refine r_iconst (n := 2) hx hb dL_law_915 ?_
  refine r_iadd hx hb dL_law_916 ?_
  refine w_sld hx hb hX hbl hbA hL9 hLI (j := i + 2) (by omega) (by omega) dL_law_917 ?_
  refine lc_ml (va_runV (As := [.int (iI (xv xs (i + 1))), .int (iI (xv xs (i + 2)))]) (rest := []) ⟨hx, hb, hml, hown, hts⟩ (m9_momentLine l (wR G (ownV vM G H.size)) hv9 _ st9 (xv xs (i + 1)) (xv xs (i + 2)) f9) (cwV 2 hts gL_law_X9_momentLine rfl rfl rfl hd9_momentLine ⟨Nat.le_of_ble_eq_true rfl, Nat.le_of_ble_eq_true rfl⟩) (LI_pre9 hG hLI hv9 [.int (iI (xv xs (i + 1))), .int (iI (xv xs (i + 2)))]) rfl rfl hl.1 rfl (lv_room (Nat.le_of_ble_eq_true rfl)) dL_law_918 ⟨by show cells + 2 + 0 ≤ 601024; omega, by show slots + 12 + 0 ≤ 7293034; omega⟩) hG hLI (fun zb st9 H locs ho9 hLI => ?_)
  obtain ⟨hz9, e6, h9⟩ := ho9
  refine lv_lstore (lv' := [(7, .long (lI zb)), (6, .int (iI k)), (0, .ref b), (1, .ref (G.2.2.1 8 0)), (2, .ref (G.2.2.1 9 0)), (3, .ref qo), (4, .ref qd), (5, .int (iI i))]) hx hb dL_law_921 hl (by decide) rfl (fun ls hl => ?_)
  refine lv_aload_n hx hb dL_law_923 rfl (lv_at hl 4 rfl) ?_
  refine lc_mi (va_runV (As := []) (rest := []) ⟨hx, hb, hml, hown, hts⟩ (m9_thrown l (wR G (ownV vM G H.size)) hv9 (fun z u => z = k ∧ SM u a') st9  ⟨e6, h9⟩) (cwV 0 hts gL_law_X9_thrown rfl rfl rfl hd9_thrown ⟨Nat.le_of_ble_eq_true rfl, Nat.le_of_ble_eq_true rfl⟩) (LI_pre9 hG hLI hv9 []) rfl rfl hl.1 rfl (lv_room (Nat.le_of_ble_eq_true rfl)) dL_law_924 ⟨by show cells + 2 + 0 ≤ 601024; omega, by show slots + 12 + 0 ≤ 7293034; omega⟩) hG hLI (fun zt st9 H locs ho9 hLI => ?_)
  obtain ⟨ez, h9⟩ := ho9
  subst ez
  refine lv_iload hx hb dL_law_927 (lv_at hl 1 rfl) ?_
  refine lv_icmp_eq (tgt := 934) hx hb dL_law_929 (by decide) (fun _ => ?_) (fun n => absurd rfl n)
  refine lv_iload hx hb dL_law_934 (lv_at hl 1 rfl) ?_
  refine lv_if_ne (tgt := 950) hx hb dL_law_936 (by decide) (fun _ => ?_) (fun e0 => ?_)
  · refine lv_goto (tgt := 2661) hx hb dL_law_950 (by decide) ?_
    exact next _ _ _ _ _ _ _ _ hLI h8 h9 (lv_sub hl [2, 3, 4, 5, 6, 7] rfl)
  · have k0 : zt = 0 := by
      rw [iI_0, iI_eq (inI_s (by omega) (by omega)) inI_0] at e0
      exact e0
    obtain ⟨w9, hw9, ex⟩ := hv k0
    have ew := hone _ _ (hz9 k0) hw9
    subst ew
    subst ex
    refine lv_aload_n hx hb dL_law_939 rfl (lv_at hl 5 rfl) ?_
    refine r_iconst (n := 0) hx hb dL_law_940 ?_
    refine w_lald hx hb hG hLI dL_law_941 ?_
    refine lv_lload hx hb dL_law_942 (lv_at hl 0 rfl) ?_
    refine w_lcmp_eq (tgt := 950) hx hb dL_law_944 dL_law_945 (by decide) ?_
    refine lv_goto (tgt := 2661) hx hb dL_law_950 (by decide) ?_
    exact next _ _ _ _ _ _ _ _ hLI h8 h9 (lv_sub hl [2, 3, 4, 5, 6, 7] rfl)
set_option maxHeartbeats 4000000 in
set_option maxRecDepth 100000 in
theorem law_c13 {p : Program} {l : Launch} {e : Env} {s : State} {m : MethodId} {below : List Frame} {meth : Method} {c : Code} {Q : State → Prop} {b L : Nat} {xs : Nat → Int32} {G : WG} {cD : ClassId} {qo qd : Nat} (hC : LawC l p s m c b L xs G cD qo qd) {i : Int} (hi0 : 0 ≤ i) (hi : i + 6 ≤ L) {st8 st9 : St} {a : Ab} {x : Int64} {y : UInt64} {H : Heap} {locs : List Loc} {cells slots : Nat} {ls : Array Slot} (hc : cells + 2 ≤ 601024) (hs : slots + 12 ≤ 7293034) (hLI : LI G cD qo qd s st8 st9 x y H locs) (h8 : SC st8 a) (h9 : SM st9 a) (hl : lv_has ls 10 [(0, .ref b), (1, .ref (G.2.2.1 8 0)), (2, .ref (G.2.2.1 9 0)), (3, .ref qo), (4, .ref qd), (5, .int (iI i))]) (next : ∀ (st8 st9 : St) (a : Ab) (x : Int64) (y : UInt64) (H : Heap) (locs : List Loc) (ls : Array Slot), LI G cD qo qd s st8 st9 x y H locs → SC st8 a → SM st9 a → lv_has ls 10 [(0, .ref b), (1, .ref (G.2.2.1 8 0)), (2, .ref (G.2.2.1 9 0)), (3, .ref qo), (4, .ref qd), (5, .int (iI i))] → W p l e room_1 s m #[Value.ref b] below meth c H locs (cells + 2) (slots + 12) Q (F0 m 2661 ls [])) : W p l e room_1 s m #[Value.ref b] below meth c H locs cells slots Q (F0 m 953 ls []) := by
  obtain ⟨hx, hb, hml, hown, hts, hX, hbl, hG, hbA, hL9, hfl⟩ := hC
  have hv8 : vC 8 0 := ⟨by decide, by decide, by decide, by decide⟩
  have hv9 : vM 9 0 := ⟨Or.inl rfl, by decide, by decide⟩
  refine lv_aload_n hx hb dL_law_953 rfl (lv_at hl 1 rfl) ?_
  refine lv_aload_n hx hb dL_law_954 rfl (lv_at hl 0 rfl) ?_
  refine lv_iload hx hb dL_law_955 (lv_at hl 5 rfl) ?_
  refine r_iconst (n := 1) hx hb dL_law_957 ?_
  refine r_iadd hx hb dL_law_958 ?_
  refine w_sld hx hb hX hbl hbA hL9 hLI (j := i + 1) (by omega) (by omega) dL_law_959 ?_
  refine lv_aload_n hx hb dL_law_960 rfl (lv_at hl 3 rfl) ?_
  obtain ⟨k, P, a', hone, f8, f9⟩ := S_area  h8 h9 (xv_I _ _)
  refine lc_s (vx_runSW (As := [.ref (G.2.2.1 8 0), .int (iI (xv xs (i + 1))), .ref qo]) (rest := []) ⟨hx, hb, hml, hown, hts⟩ (wL_area l (wR G (ownA G H.size qo)) hfl qo (fun K i v => (hG.2.2.2.2.2.2.1 K i (Or.inl v)).1) st8 (xv xs (i + 1)) k P a' f8) (vx_cwSW 3 hts gL_law_L_area rfl rfl rfl (by decide +kernel) ⟨Nat.le_of_ble_eq_true rfl, Nat.le_of_ble_eq_true rfl⟩) (LI_preL hG hLI [.ref (G.2.2.1 8 0), .int (iI (xv xs (i + 1))), .ref qo]) rfl rfl hl.1 rfl (lv_room (Nat.le_of_ble_eq_true rfl)) dL_law_961 ⟨by show cells + 1 ≤ 601024; omega, by show slots + 6 ≤ 7293034; omega⟩) hG hLI (fun st8 x H locs hk2 h8 hv hLI => ?_)
  refine W.widen (k := cells + 2) (n := slots + 12) (by omega) (by omega) ?_
  refine lv_istore (lv' := [(6, .int (iI k)), (0, .ref b), (1, .ref (G.2.2.1 8 0)), (2, .ref (G.2.2.1 9 0)), (3, .ref qo), (4, .ref qd), (5, .int (iI i))]) hx hb dL_law_964 hl (by decide) rfl (fun ls hl => ?_)
  refine lv_aload_n hx hb dL_law_966 rfl (lv_at hl 3 rfl) ?_
  refine lv_aload_n hx hb dL_law_967 rfl (lv_at hl 1 rfl) ?_
  refine lv_iload hx hb dL_law_968 (lv_at hl 6 rfl) ?_
  refine r_iconst (n := 1) hx hb dL_law_970 ?_
  refine r_iadd hx hb dL_law_971 ?_
  refine w_sld hx hb hX hbl hbA hL9 hLI (j := i + 1) (by omega) (by omega) dL_law_972 ?_
  refine lc_ml (va_runV (As := [.int (iI (xv xs (i + 1)))]) (rest := []) ⟨hx, hb, hml, hown, hts⟩ (m9_area l (wR G (ownV vM G H.size)) hv9 _ st9 (xv xs (i + 1)) f9) (cwV 1 hts gL_law_X9_area rfl rfl rfl hd9_area ⟨Nat.le_of_ble_eq_true rfl, Nat.le_of_ble_eq_true rfl⟩) (LI_pre9 hG hLI hv9 [.int (iI (xv xs (i + 1)))]) rfl rfl hl.1 rfl (lv_room (Nat.le_of_ble_eq_true rfl)) dL_law_973 ⟨by show cells + 2 + 0 ≤ 601024; omega, by show slots + 12 + 0 ≤ 7293034; omega⟩) hG hLI (fun zb st9 H locs ho9 hLI => ?_)
  obtain ⟨hz9, e6, h9⟩ := ho9
  refine lv_lstore (lv' := [(7, .long (lI zb)), (6, .int (iI k)), (0, .ref b), (1, .ref (G.2.2.1 8 0)), (2, .ref (G.2.2.1 9 0)), (3, .ref qo), (4, .ref qd), (5, .int (iI i))]) hx hb dL_law_976 hl (by decide) rfl (fun ls hl => ?_)
  refine lv_aload_n hx hb dL_law_978 rfl (lv_at hl 4 rfl) ?_
  refine lc_mi (va_runV (As := []) (rest := []) ⟨hx, hb, hml, hown, hts⟩ (m9_thrown l (wR G (ownV vM G H.size)) hv9 (fun z u => z = k ∧ SM u a') st9  ⟨e6, h9⟩) (cwV 0 hts gL_law_X9_thrown rfl rfl rfl hd9_thrown ⟨Nat.le_of_ble_eq_true rfl, Nat.le_of_ble_eq_true rfl⟩) (LI_pre9 hG hLI hv9 []) rfl rfl hl.1 rfl (lv_room (Nat.le_of_ble_eq_true rfl)) dL_law_979 ⟨by show cells + 2 + 0 ≤ 601024; omega, by show slots + 12 + 0 ≤ 7293034; omega⟩) hG hLI (fun zt st9 H locs ho9 hLI => ?_)
  obtain ⟨ez, h9⟩ := ho9
  subst ez
  refine lv_iload hx hb dL_law_982 (lv_at hl 1 rfl) ?_
  refine lv_icmp_eq (tgt := 989) hx hb dL_law_984 (by decide) (fun _ => ?_) (fun n => absurd rfl n)
  refine lv_iload hx hb dL_law_989 (lv_at hl 1 rfl) ?_
  refine lv_if_ne (tgt := 1005) hx hb dL_law_991 (by decide) (fun _ => ?_) (fun e0 => ?_)
  · refine lv_goto (tgt := 2661) hx hb dL_law_1005 (by decide) ?_
    exact next _ _ _ _ _ _ _ _ hLI h8 h9 (lv_sub hl [2, 3, 4, 5, 6, 7] rfl)
  · have k0 : zt = 0 := by
      rw [iI_0, iI_eq (inI_s (by omega) (by omega)) inI_0] at e0
      exact e0
    obtain ⟨w9, hw9, ex⟩ := hv k0
    have ew := hone _ _ (hz9 k0) hw9
    subst ew
    subst ex
    refine lv_aload_n hx hb dL_law_994 rfl (lv_at hl 5 rfl) ?_
    refine r_iconst (n := 0) hx hb dL_law_995 ?_
    refine w_lald hx hb hG hLI dL_law_996 ?_
    refine lv_lload hx hb dL_law_997 (lv_at hl 0 rfl) ?_
    refine w_lcmp_eq (tgt := 1005) hx hb dL_law_999 dL_law_1000 (by decide) ?_
    refine lv_goto (tgt := 2661) hx hb dL_law_1005 (by decide) ?_
    exact next _ _ _ _ _ _ _ _ hLI h8 h9 (lv_sub hl [2, 3, 4, 5, 6, 7] rfl)
set_option maxHeartbeats 4000000 in
set_option maxRecDepth 100000 in
theorem law_c14 {p : Program} {l : Launch} {e : Env} {s : State} {m : MethodId} {below : List Frame} {meth : Method} {c : Code} {Q : State → Prop} {b L : Nat} {xs : Nat → Int32} {G : WG} {cD : ClassId} {qo qd : Nat} (hC : LawC l p s m c b L xs G cD qo qd) {i : Int} (hi0 : 0 ≤ i) (hi : i + 6 ≤ L) {st8 st9 : St} {a : Ab} {x : Int64} {y : UInt64} {H : Heap} {locs : List Loc} {cells slots : Nat} {ls : Array Slot} (hc : cells + 2 ≤ 601024) (hs : slots + 12 ≤ 7293034) (hLI : LI G cD qo qd s st8 st9 x y H locs) (h8 : SC st8 a) (h9 : SM st9 a) (hl : lv_has ls 10 [(0, .ref b), (1, .ref (G.2.2.1 8 0)), (2, .ref (G.2.2.1 9 0)), (3, .ref qo), (4, .ref qd), (5, .int (iI i))]) (next : ∀ (st8 st9 : St) (a : Ab) (x : Int64) (y : UInt64) (H : Heap) (locs : List Loc) (ls : Array Slot), LI G cD qo qd s st8 st9 x y H locs → SC st8 a → SM st9 a → lv_has ls 10 [(0, .ref b), (1, .ref (G.2.2.1 8 0)), (2, .ref (G.2.2.1 9 0)), (3, .ref qo), (4, .ref qd), (5, .int (iI i))] → W p l e room_1 s m #[Value.ref b] below meth c H locs (cells + 2) (slots + 12) Q (F0 m 2661 ls [])) : W p l e room_1 s m #[Value.ref b] below meth c H locs cells slots Q (F0 m 1008 ls []) := by
  obtain ⟨hx, hb, hml, hown, hts, hX, hbl, hG, hbA, hL9, hfl⟩ := hC
  have hv8 : vC 8 0 := ⟨by decide, by decide, by decide, by decide⟩
  have hv9 : vM 9 0 := ⟨Or.inl rfl, by decide, by decide⟩
  refine lv_aload_n hx hb dL_law_1008 rfl (lv_at hl 1 rfl) ?_
  refine lv_aload_n hx hb dL_law_1009 rfl (lv_at hl 0 rfl) ?_
  refine lv_iload hx hb dL_law_1010 (lv_at hl 5 rfl) ?_
  refine r_iconst (n := 1) hx hb dL_law_1012 ?_
  refine r_iadd hx hb dL_law_1013 ?_
  refine w_sld hx hb hX hbl hbA hL9 hLI (j := i + 1) (by omega) (by omega) dL_law_1014 ?_
  refine lv_aload_n hx hb dL_law_1015 rfl (lv_at hl 3 rfl) ?_
  obtain ⟨k, P, a', hone, f8, f9⟩ := S_still  h8 h9 (xv_I _ _)
  refine lc_s (vx_runSW (As := [.ref (G.2.2.1 8 0), .int (iI (xv xs (i + 1))), .ref qo]) (rest := []) ⟨hx, hb, hml, hown, hts⟩ (wL_still l (wR G (ownA G H.size qo)) hfl qo (fun K i v => (hG.2.2.2.2.2.2.1 K i (Or.inl v)).1) st8 (xv xs (i + 1)) k P a' f8) (vx_cwSW 3 hts gL_law_L_still rfl rfl rfl (by decide +kernel) ⟨Nat.le_of_ble_eq_true rfl, Nat.le_of_ble_eq_true rfl⟩) (LI_preL hG hLI [.ref (G.2.2.1 8 0), .int (iI (xv xs (i + 1))), .ref qo]) rfl rfl hl.1 rfl (lv_room (Nat.le_of_ble_eq_true rfl)) dL_law_1016 ⟨by show cells + 1 ≤ 601024; omega, by show slots + 6 ≤ 7293034; omega⟩) hG hLI (fun st8 x H locs hk2 h8 hv hLI => ?_)
  refine W.widen (k := cells + 2) (n := slots + 12) (by omega) (by omega) ?_
  refine lv_istore (lv' := [(6, .int (iI k)), (0, .ref b), (1, .ref (G.2.2.1 8 0)), (2, .ref (G.2.2.1 9 0)), (3, .ref qo), (4, .ref qd), (5, .int (iI i))]) hx hb dL_law_1019 hl (by decide) rfl (fun ls hl => ?_)
  refine lv_aload_n hx hb dL_law_1021 rfl (lv_at hl 3 rfl) ?_
  refine lv_aload_n hx hb dL_law_1022 rfl (lv_at hl 1 rfl) ?_
  refine lv_iload hx hb dL_law_1023 (lv_at hl 6 rfl) ?_
  refine r_iconst (n := 1) hx hb dL_law_1025 ?_
  refine r_iadd hx hb dL_law_1026 ?_
  refine w_sld hx hb hX hbl hbA hL9 hLI (j := i + 1) (by omega) (by omega) dL_law_1027 ?_
  refine lc_mi (va_runV (As := [.int (iI (xv xs (i + 1)))]) (rest := []) ⟨hx, hb, hml, hown, hts⟩ (m9_still l (wR G (ownV vM G H.size)) hv9 _ st9 (xv xs (i + 1)) f9) (cwV 1 hts gL_law_X9_still rfl rfl rfl hd9_still ⟨Nat.le_of_ble_eq_true rfl, Nat.le_of_ble_eq_true rfl⟩) (LI_pre9 hG hLI hv9 [.int (iI (xv xs (i + 1)))]) rfl rfl hl.1 rfl (lv_room (Nat.le_of_ble_eq_true rfl)) dL_law_1028 ⟨by show cells + 2 + 0 ≤ 601024; omega, by show slots + 12 + 0 ≤ 7293034; omega⟩) hG hLI (fun zb st9 H locs ho9 hLI => ?_)
  obtain ⟨hz9, e6, h9⟩ := ho9
  refine lv_istore (lv' := [(7, .int (iI zb)), (6, .int (iI k)), (0, .ref b), (1, .ref (G.2.2.1 8 0)), (2, .ref (G.2.2.1 9 0)), (3, .ref qo), (4, .ref qd), (5, .int (iI i))]) hx hb dL_law_1031 hl (by decide) rfl (fun ls hl => ?_)
  refine lv_aload_n hx hb dL_law_1033 rfl (lv_at hl 4 rfl) ?_
  refine lc_mi (va_runV (As := []) (rest := []) ⟨hx, hb, hml, hown, hts⟩ (m9_thrown l (wR G (ownV vM G H.size)) hv9 (fun z u => z = k ∧ SM u a') st9  ⟨e6, h9⟩) (cwV 0 hts gL_law_X9_thrown rfl rfl rfl hd9_thrown ⟨Nat.le_of_ble_eq_true rfl, Nat.le_of_ble_eq_true rfl⟩) (LI_pre9 hG hLI hv9 []) rfl rfl hl.1 rfl (lv_room (Nat.le_of_ble_eq_true rfl)) dL_law_1034 ⟨by show cells + 2 + 0 ≤ 601024; omega, by show slots + 12 + 0 ≤ 7293034; omega⟩) hG hLI (fun zt st9 H locs ho9 hLI => ?_)
  obtain ⟨ez, h9⟩ := ho9
  subst ez
  refine lv_iload hx hb dL_law_1037 (lv_at hl 1 rfl) ?_
  refine lv_icmp_eq (tgt := 1044) hx hb dL_law_1039 (by decide) (fun _ => ?_) (fun n => absurd rfl n)
  refine lv_iload hx hb dL_law_1044 (lv_at hl 1 rfl) ?_
  refine lv_if_ne (tgt := 1061) hx hb dL_law_1046 (by decide) (fun _ => ?_) (fun e0 => ?_)
  · refine lv_goto (tgt := 2661) hx hb dL_law_1061 (by decide) ?_
    exact next _ _ _ _ _ _ _ _ hLI h8 h9 (lv_sub hl [2, 3, 4, 5, 6, 7] rfl)
  · have k0 : zt = 0 := by
      rw [iI_0, iI_eq (inI_s (by omega) (by omega)) inI_0] at e0
      exact e0
    obtain ⟨w9, hw9, ex⟩ := hv k0
    have ew := hone _ _ (hz9 k0) hw9
    subst ew
    subst ex
    refine lv_aload_n hx hb dL_law_1049 rfl (lv_at hl 5 rfl) ?_
    refine r_iconst (n := 0) hx hb dL_law_1050 ?_
    refine w_lald hx hb hG hLI dL_law_1051 ?_
    refine lv_iload hx hb dL_law_1052 (lv_at hl 0 rfl) ?_
    refine lv_i2l (v := cvI zb) hx hb dL_law_1054 rfl ?_
    refine w_lcmp_eq (tgt := 1061) hx hb dL_law_1055 dL_law_1056 (by decide) ?_
    refine lv_goto (tgt := 2661) hx hb dL_law_1061 (by decide) ?_
    exact next _ _ _ _ _ _ _ _ hLI h8 h9 (lv_sub hl [2, 3, 4, 5, 6, 7] rfl)
set_option maxHeartbeats 4000000 in
set_option maxRecDepth 100000 in
theorem law_c15 {p : Program} {l : Launch} {e : Env} {s : State} {m : MethodId} {below : List Frame} {meth : Method} {c : Code} {Q : State → Prop} {b L : Nat} {xs : Nat → Int32} {G : WG} {cD : ClassId} {qo qd : Nat} (hC : LawC l p s m c b L xs G cD qo qd) {i : Int} (hi0 : 0 ≤ i) (hi : i + 6 ≤ L) {st8 st9 : St} {a : Ab} {x : Int64} {y : UInt64} {H : Heap} {locs : List Loc} {cells slots : Nat} {ls : Array Slot} (hc : cells + 2 ≤ 601024) (hs : slots + 12 ≤ 7293034) (hLI : LI G cD qo qd s st8 st9 x y H locs) (h8 : SC st8 a) (h9 : SM st9 a) (hl : lv_has ls 10 [(0, .ref b), (1, .ref (G.2.2.1 8 0)), (2, .ref (G.2.2.1 9 0)), (3, .ref qo), (4, .ref qd), (5, .int (iI i))]) (next : ∀ (st8 st9 : St) (a : Ab) (x : Int64) (y : UInt64) (H : Heap) (locs : List Loc) (ls : Array Slot), LI G cD qo qd s st8 st9 x y H locs → SC st8 a → SM st9 a → lv_has ls 10 [(0, .ref b), (1, .ref (G.2.2.1 8 0)), (2, .ref (G.2.2.1 9 0)), (3, .ref qo), (4, .ref qd), (5, .int (iI i))] → W p l e room_1 s m #[Value.ref b] below meth c H locs (cells + 2) (slots + 12) Q (F0 m 2661 ls [])) : W p l e room_1 s m #[Value.ref b] below meth c H locs cells slots Q (F0 m 1064 ls []) := by
  obtain ⟨hx, hb, hml, hown, hts, hX, hbl, hG, hbA, hL9, hfl⟩ := hC
  have hv8 : vC 8 0 := ⟨by decide, by decide, by decide, by decide⟩
  have hv9 : vM 9 0 := ⟨Or.inl rfl, by decide, by decide⟩
  refine lv_aload_n hx hb dL_law_1064 rfl (lv_at hl 1 rfl) ?_
  refine lv_aload_n hx hb dL_law_1065 rfl (lv_at hl 0 rfl) ?_
  refine lv_iload hx hb dL_law_1066 (lv_at hl 5 rfl) ?_
  refine r_iconst (n := 1) hx hb dL_law_1068 ?_
  refine r_iadd hx hb dL_law_1069 ?_
  refine w_sld hx hb hX hbl hbA hL9 hLI (j := i + 1) (by omega) (by omega) dL_law_1070 ?_
  refine lv_aload_n hx hb dL_law_1071 rfl (lv_at hl 0 rfl) ?_
  refine lv_iload hx hb dL_law_1072 (lv_at hl 5 rfl) ?_
  refine r_iconst (n := 2) hx hb dL_law_1074 ?_
  refine r_iadd hx hb dL_law_1075 ?_
  refine w_sld hx hb hX hbl hbA hL9 hLI (j := i + 2) (by omega) (by omega) dL_law_1076 ?_
  refine lv_aload_n hx hb dL_law_1077 rfl (lv_at hl 3 rfl) ?_
  obtain ⟨k, P, a', hone, f8, f9⟩ := S_gap  h8 h9 (xv_I _ _) (xv_I _ _)
  refine lc_s (vx_runSW (As := [.ref (G.2.2.1 8 0), .int (iI (xv xs (i + 1))), .int (iI (xv xs (i + 2))), .ref qo]) (rest := []) ⟨hx, hb, hml, hown, hts⟩ (wL_gap l (wR G (ownA G H.size qo)) hfl qo (fun K i v => (hG.2.2.2.2.2.2.1 K i (Or.inl v)).1) st8 (xv xs (i + 1)) (xv xs (i + 2)) k P a' f8) (vx_cwSW 4 hts gL_law_L_gap rfl rfl rfl (by decide +kernel) ⟨Nat.le_of_ble_eq_true rfl, Nat.le_of_ble_eq_true rfl⟩) (LI_preL hG hLI [.ref (G.2.2.1 8 0), .int (iI (xv xs (i + 1))), .int (iI (xv xs (i + 2))), .ref qo]) rfl rfl hl.1 rfl (lv_room (Nat.le_of_ble_eq_true rfl)) dL_law_1078 ⟨by show cells + 2 ≤ 601024; omega, by show slots + 12 ≤ 7293034; omega⟩) hG hLI (fun st8 x H locs hk2 h8 hv hLI => ?_)
  refine W.widen (k := cells + 2) (n := slots + 12) (by omega) (by omega) ?_
  refine lv_istore (lv' := [(6, .int (iI k)), (0, .ref b), (1, .ref (G.2.2.1 8 0)), (2, .ref (G.2.2.1 9 0)), (3, .ref qo), (4, .ref qd), (5, .int (iI i))]) hx hb dL_law_1081 hl (by decide) rfl (fun ls hl => ?_)
  refine lv_aload_n hx hb dL_law_1083 rfl (lv_at hl 3 rfl) ?_
  refine lv_aload_n hx hb dL_law_1084 rfl (lv_at hl 1 rfl) ?_
  refine lv_iload hx hb dL_law_1085 (lv_at hl 6 rfl) ?_
  refine r_iconst (n := 1) hx hb dL_law_1087 ?_
  refine r_iadd hx hb dL_law_1088 ?_
  refine w_sld hx hb hX hbl hbA hL9 hLI (j := i + 1) (by omega) (by omega) dL_law_1089 ?_
  refine lv_aload_n hx hb dL_law_1090 rfl (lv_at hl 1 rfl) ?_
  refine lv_iload hx hb dL_law_1091 (lv_at hl 6 rfl) ?_
  refine r_iconst (n := 2) hx hb dL_law_1093 ?_
  refine r_iadd hx hb dL_law_1094 ?_
  refine w_sld hx hb hX hbl hbA hL9 hLI (j := i + 2) (by omega) (by omega) dL_law_1095 ?_
  refine lc_ml (va_runV (As := [.int (iI (xv xs (i + 1))), .int (iI (xv xs (i + 2)))]) (rest := []) ⟨hx, hb, hml, hown, hts⟩ (m9_gap l (wR G (ownV vM G H.size)) hv9 _ st9 (xv xs (i + 1)) (xv xs (i + 2)) f9) (cwV 2 hts gL_law_X9_gap rfl rfl rfl hd9_gap ⟨Nat.le_of_ble_eq_true rfl, Nat.le_of_ble_eq_true rfl⟩) (LI_pre9 hG hLI hv9 [.int (iI (xv xs (i + 1))), .int (iI (xv xs (i + 2)))]) rfl rfl hl.1 rfl (lv_room (Nat.le_of_ble_eq_true rfl)) dL_law_1096 ⟨by show cells + 2 + 0 ≤ 601024; omega, by show slots + 12 + 0 ≤ 7293034; omega⟩) hG hLI (fun zb st9 H locs ho9 hLI => ?_)
  obtain ⟨hz9, e6, h9⟩ := ho9
  refine lv_lstore (lv' := [(7, .long (lI zb)), (6, .int (iI k)), (0, .ref b), (1, .ref (G.2.2.1 8 0)), (2, .ref (G.2.2.1 9 0)), (3, .ref qo), (4, .ref qd), (5, .int (iI i))]) hx hb dL_law_1099 hl (by decide) rfl (fun ls hl => ?_)
  refine lv_aload_n hx hb dL_law_1101 rfl (lv_at hl 4 rfl) ?_
  refine lc_mi (va_runV (As := []) (rest := []) ⟨hx, hb, hml, hown, hts⟩ (m9_thrown l (wR G (ownV vM G H.size)) hv9 (fun z u => z = k ∧ SM u a') st9  ⟨e6, h9⟩) (cwV 0 hts gL_law_X9_thrown rfl rfl rfl hd9_thrown ⟨Nat.le_of_ble_eq_true rfl, Nat.le_of_ble_eq_true rfl⟩) (LI_pre9 hG hLI hv9 []) rfl rfl hl.1 rfl (lv_room (Nat.le_of_ble_eq_true rfl)) dL_law_1102 ⟨by show cells + 2 + 0 ≤ 601024; omega, by show slots + 12 + 0 ≤ 7293034; omega⟩) hG hLI (fun zt st9 H locs ho9 hLI => ?_)
  obtain ⟨ez, h9⟩ := ho9
  subst ez
  refine lv_iload hx hb dL_law_1105 (lv_at hl 1 rfl) ?_
  refine lv_icmp_eq (tgt := 1112) hx hb dL_law_1107 (by decide) (fun _ => ?_) (fun n => absurd rfl n)
  refine lv_iload hx hb dL_law_1112 (lv_at hl 1 rfl) ?_
  refine lv_if_ne (tgt := 1128) hx hb dL_law_1114 (by decide) (fun _ => ?_) (fun e0 => ?_)
  · refine lv_goto (tgt := 2661) hx hb dL_law_1128 (by decide) ?_
    exact next _ _ _ _ _ _ _ _ hLI h8 h9 (lv_sub hl [2, 3, 4, 5, 6, 7] rfl)
  · have k0 : zt = 0 := by
      rw [iI_0, iI_eq (inI_s (by omega) (by omega)) inI_0] at e0
      exact e0
    obtain ⟨w9, hw9, ex⟩ := hv k0
    have ew := hone _ _ (hz9 k0) hw9
    subst ew
    subst ex
    refine lv_aload_n hx hb dL_law_1117 rfl (lv_at hl 5 rfl) ?_
    refine r_iconst (n := 0) hx hb dL_law_1118 ?_
    refine w_lald hx hb hG hLI dL_law_1119 ?_
    refine lv_lload hx hb dL_law_1120 (lv_at hl 0 rfl) ?_
    refine w_lcmp_eq (tgt := 1128) hx hb dL_law_1122 dL_law_1123 (by decide) ?_
    refine lv_goto (tgt := 2661) hx hb dL_law_1128 (by decide) ?_
    exact next _ _ _ _ _ _ _ _ hLI h8 h9 (lv_sub hl [2, 3, 4, 5, 6, 7] rfl)
set_option maxHeartbeats 4000000 in
set_option maxRecDepth 100000 in
theorem law_c16 {p : Program} {l : Launch} {e : Env} {s : State} {m : MethodId} {below : List Frame} {meth : Method} {c : Code} {Q : State → Prop} {b L : Nat} {xs : Nat → Int32} {G : WG} {cD : ClassId} {qo qd : Nat} (hC : LawC l p s m c b L xs G cD qo qd) {i : Int} (hi0 : 0 ≤ i) (hi : i + 6 ≤ L) {st8 st9 : St} {a : Ab} {x : Int64} {y : UInt64} {H : Heap} {locs : List Loc} {cells slots : Nat} {ls : Array Slot} (hc : cells + 2 ≤ 601024) (hs : slots + 12 ≤ 7293034) (hLI : LI G cD qo qd s st8 st9 x y H locs) (h8 : SC st8 a) (h9 : SM st9 a) (hl : lv_has ls 10 [(0, .ref b), (1, .ref (G.2.2.1 8 0)), (2, .ref (G.2.2.1 9 0)), (3, .ref qo), (4, .ref qd), (5, .int (iI i))]) (next : ∀ (st8 st9 : St) (a : Ab) (x : Int64) (y : UInt64) (H : Heap) (locs : List Loc) (ls : Array Slot), LI G cD qo qd s st8 st9 x y H locs → SC st8 a → SM st9 a → lv_has ls 10 [(0, .ref b), (1, .ref (G.2.2.1 8 0)), (2, .ref (G.2.2.1 9 0)), (3, .ref qo), (4, .ref qd), (5, .int (iI i))] → W p l e room_1 s m #[Value.ref b] below meth c H locs (cells + 2) (slots + 12) Q (F0 m 2661 ls [])) : W p l e room_1 s m #[Value.ref b] below meth c H locs cells slots Q (F0 m 1131 ls []) := by
  obtain ⟨hx, hb, hml, hown, hts, hX, hbl, hG, hbA, hL9, hfl⟩ := hC
  have hv8 : vC 8 0 := ⟨by decide, by decide, by decide, by decide⟩
  have hv9 : vM 9 0 := ⟨Or.inl rfl, by decide, by decide⟩
  refine lv_aload_n hx hb dL_law_1131 rfl (lv_at hl 1 rfl) ?_
  refine lv_aload_n hx hb dL_law_1132 rfl (lv_at hl 0 rfl) ?_
  refine lv_iload hx hb dL_law_1133 (lv_at hl 5 rfl) ?_
  refine r_iconst (n := 1) hx hb dL_law_1135 ?_
  refine r_iadd hx hb dL_law_1136 ?_
  refine w_sld hx hb hX hbl hbA hL9 hLI (j := i + 1) (by omega) (by omega) dL_law_1137 ?_
  refine lv_aload_n hx hb dL_law_1138 rfl (lv_at hl 0 rfl) ?_
  refine lv_iload hx hb dL_law_1139 (lv_at hl 5 rfl) ?_
  refine r_iconst (n := 2) hx hb dL_law_1141 ?_
  refine r_iadd hx hb dL_law_1142 ?_
  refine w_sld hx hb hX hbl hbA hL9 hLI (j := i + 2) (by omega) (by omega) dL_law_1143 ?_
  refine lv_aload_n hx hb dL_law_1144 rfl (lv_at hl 3 rfl) ?_
  obtain ⟨k, P, a', hone, f8, f9⟩ := S_reaction  h8 h9 (xv_I _ _) (xv_I _ _)
  refine lc_s (vx_runSW (As := [.ref (G.2.2.1 8 0), .int (iI (xv xs (i + 1))), .int (iI (xv xs (i + 2))), .ref qo]) (rest := []) ⟨hx, hb, hml, hown, hts⟩ (wL_reaction l (wR G (ownA G H.size qo)) hfl qo (fun K i v => (hG.2.2.2.2.2.2.1 K i (Or.inl v)).1) st8 (xv xs (i + 1)) (xv xs (i + 2)) k P a' f8) (vx_cwSW 4 hts gL_law_L_reaction rfl rfl rfl (by decide +kernel) ⟨Nat.le_of_ble_eq_true rfl, Nat.le_of_ble_eq_true rfl⟩) (LI_preL hG hLI [.ref (G.2.2.1 8 0), .int (iI (xv xs (i + 1))), .int (iI (xv xs (i + 2))), .ref qo]) rfl rfl hl.1 rfl (lv_room (Nat.le_of_ble_eq_true rfl)) dL_law_1145 ⟨by show cells + 2 ≤ 601024; omega, by show slots + 12 ≤ 7293034; omega⟩) hG hLI (fun st8 x H locs hk2 h8 hv hLI => ?_)
  refine W.widen (k := cells + 2) (n := slots + 12) (by omega) (by omega) ?_
  refine lv_istore (lv' := [(6, .int (iI k)), (0, .ref b), (1, .ref (G.2.2.1 8 0)), (2, .ref (G.2.2.1 9 0)), (3, .ref qo), (4, .ref qd), (5, .int (iI i))]) hx hb dL_law_1148 hl (by decide) rfl (fun ls hl => ?_)
  refine lv_aload_n hx hb dL_law_1150 rfl (lv_at hl 3 rfl) ?_
  refine lv_aload_n hx hb dL_law_1151 rfl (lv_at hl 1 rfl) ?_
  refine lv_iload hx hb dL_law_1152 (lv_at hl 6 rfl) ?_
  refine r_iconst (n := 1) hx hb dL_law_1154 ?_
  refine r_iadd hx hb dL_law_1155 ?_
  refine w_sld hx hb hX hbl hbA hL9 hLI (j := i + 1) (by omega) (by omega) dL_law_1156 ?_
  refine lv_aload_n hx hb dL_law_1157 rfl (lv_at hl 1 rfl) ?_
  refine lv_iload hx hb dL_law_1158 (lv_at hl 6 rfl) ?_
  refine r_iconst (n := 2) hx hb dL_law_1160 ?_
  refine r_iadd hx hb dL_law_1161 ?_
  refine w_sld hx hb hX hbl hbA hL9 hLI (j := i + 2) (by omega) (by omega) dL_law_1162 ?_
  refine lc_ml (va_runV (As := [.int (iI (xv xs (i + 1))), .int (iI (xv xs (i + 2)))]) (rest := []) ⟨hx, hb, hml, hown, hts⟩ (m9_reaction l (wR G (ownV vM G H.size)) hv9 _ st9 (xv xs (i + 1)) (xv xs (i + 2)) f9) (cwV 2 hts gL_law_X9_reaction rfl rfl rfl hd9_reaction ⟨Nat.le_of_ble_eq_true rfl, Nat.le_of_ble_eq_true rfl⟩) (LI_pre9 hG hLI hv9 [.int (iI (xv xs (i + 1))), .int (iI (xv xs (i + 2)))]) rfl rfl hl.1 rfl (lv_room (Nat.le_of_ble_eq_true rfl)) dL_law_1163 ⟨by show cells + 2 + 0 ≤ 601024; omega, by show slots + 12 + 0 ≤ 7293034; omega⟩) hG hLI (fun zb st9 H locs ho9 hLI => ?_)
  obtain ⟨hz9, e6, h9⟩ := ho9
  refine lv_lstore (lv' := [(7, .long (lI zb)), (6, .int (iI k)), (0, .ref b), (1, .ref (G.2.2.1 8 0)), (2, .ref (G.2.2.1 9 0)), (3, .ref qo), (4, .ref qd), (5, .int (iI i))]) hx hb dL_law_1166 hl (by decide) rfl (fun ls hl => ?_)
  refine lv_aload_n hx hb dL_law_1168 rfl (lv_at hl 4 rfl) ?_
  refine lc_mi (va_runV (As := []) (rest := []) ⟨hx, hb, hml, hown, hts⟩ (m9_thrown l (wR G (ownV vM G H.size)) hv9 (fun z u => z = k ∧ SM u a') st9  ⟨e6, h9⟩) (cwV 0 hts gL_law_X9_thrown rfl rfl rfl hd9_thrown ⟨Nat.le_of_ble_eq_true rfl, Nat.le_of_ble_eq_true rfl⟩) (LI_pre9 hG hLI hv9 []) rfl rfl hl.1 rfl (lv_room (Nat.le_of_ble_eq_true rfl)) dL_law_1169 ⟨by show cells + 2 + 0 ≤ 601024; omega, by show slots + 12 + 0 ≤ 7293034; omega⟩) hG hLI (fun zt st9 H locs ho9 hLI => ?_)
  obtain ⟨ez, h9⟩ := ho9
  subst ez
  refine lv_iload hx hb dL_law_1172 (lv_at hl 1 rfl) ?_
  refine lv_icmp_eq (tgt := 1179) hx hb dL_law_1174 (by decide) (fun _ => ?_) (fun n => absurd rfl n)
  refine lv_iload hx hb dL_law_1179 (lv_at hl 1 rfl) ?_
  refine lv_if_ne (tgt := 1195) hx hb dL_law_1181 (by decide) (fun _ => ?_) (fun e0 => ?_)
  · refine lv_goto (tgt := 2661) hx hb dL_law_1195 (by decide) ?_
    exact next _ _ _ _ _ _ _ _ hLI h8 h9 (lv_sub hl [2, 3, 4, 5, 6, 7] rfl)
  · have k0 : zt = 0 := by
      rw [iI_0, iI_eq (inI_s (by omega) (by omega)) inI_0] at e0
      exact e0
    obtain ⟨w9, hw9, ex⟩ := hv k0
    have ew := hone _ _ (hz9 k0) hw9
    subst ew
    subst ex
    refine lv_aload_n hx hb dL_law_1184 rfl (lv_at hl 5 rfl) ?_
    refine r_iconst (n := 0) hx hb dL_law_1185 ?_
    refine w_lald hx hb hG hLI dL_law_1186 ?_
    refine lv_lload hx hb dL_law_1187 (lv_at hl 0 rfl) ?_
    refine w_lcmp_eq (tgt := 1195) hx hb dL_law_1189 dL_law_1190 (by decide) ?_
    refine lv_goto (tgt := 2661) hx hb dL_law_1195 (by decide) ?_
    exact next _ _ _ _ _ _ _ _ hLI h8 h9 (lv_sub hl [2, 3, 4, 5, 6, 7] rfl)
set_option maxHeartbeats 4000000 in
set_option maxRecDepth 100000 in
theorem law_c17 {p : Program} {l : Launch} {e : Env} {s : State} {m : MethodId} {below : List Frame} {meth : Method} {c : Code} {Q : State → Prop} {b L : Nat} {xs : Nat → Int32} {G : WG} {cD : ClassId} {qo qd : Nat} (hC : LawC l p s m c b L xs G cD qo qd) {i : Int} (hi0 : 0 ≤ i) (hi : i + 6 ≤ L) {st8 st9 : St} {a : Ab} {x : Int64} {y : UInt64} {H : Heap} {locs : List Loc} {cells slots : Nat} {ls : Array Slot} (hc : cells + 2 ≤ 601024) (hs : slots + 12 ≤ 7293034) (hLI : LI G cD qo qd s st8 st9 x y H locs) (h8 : SC st8 a) (h9 : SM st9 a) (hl : lv_has ls 10 [(0, .ref b), (1, .ref (G.2.2.1 8 0)), (2, .ref (G.2.2.1 9 0)), (3, .ref qo), (4, .ref qd), (5, .int (iI i))]) (next : ∀ (st8 st9 : St) (a : Ab) (x : Int64) (y : UInt64) (H : Heap) (locs : List Loc) (ls : Array Slot), LI G cD qo qd s st8 st9 x y H locs → SC st8 a → SM st9 a → lv_has ls 10 [(0, .ref b), (1, .ref (G.2.2.1 8 0)), (2, .ref (G.2.2.1 9 0)), (3, .ref qo), (4, .ref qd), (5, .int (iI i))] → W p l e room_1 s m #[Value.ref b] below meth c H locs (cells + 2) (slots + 12) Q (F0 m 2661 ls [])) : W p l e room_1 s m #[Value.ref b] below meth c H locs cells slots Q (F0 m 1198 ls []) := by
  obtain ⟨hx, hb, hml, hown, hts, hX, hbl, hG, hbA, hL9, hfl⟩ := hC
  have hv8 : vC 8 0 := ⟨by decide, by decide, by decide, by decide⟩
  have hv9 : vM 9 0 := ⟨Or.inl rfl, by decide, by decide⟩
  refine lv_aload_n hx hb dL_law_1198 rfl (lv_at hl 1 rfl) ?_
  refine lv_aload_n hx hb dL_law_1199 rfl (lv_at hl 0 rfl) ?_
  refine lv_iload hx hb dL_law_1200 (lv_at hl 5 rfl) ?_
  refine r_iconst (n := 1) hx hb dL_law_1202 ?_
  refine r_iadd hx hb dL_law_1203 ?_
  refine w_sld hx hb hX hbl hbA hL9 hLI (j := i + 1) (by omega) (by omega) dL_law_1204 ?_
  refine lv_aload_n hx hb dL_law_1205 rfl (lv_at hl 0 rfl) ?_
  refine lv_iload hx hb dL_law_1206 (lv_at hl 5 rfl) ?_
  refine r_iconst (n := 2) hx hb dL_law_1208 ?_
  refine r_iadd hx hb dL_law_1209 ?_
  refine w_sld hx hb hX hbl hbA hL9 hLI (j := i + 2) (by omega) (by omega) dL_law_1210 ?_
  refine lv_aload_n hx hb dL_law_1211 rfl (lv_at hl 3 rfl) ?_
  obtain ⟨k, P, a', hone, f8, f9⟩ := S_shear  h8 h9 (xv_I _ _) (xv_I _ _)
  refine lc_s (vx_runSW (As := [.ref (G.2.2.1 8 0), .int (iI (xv xs (i + 1))), .int (iI (xv xs (i + 2))), .ref qo]) (rest := []) ⟨hx, hb, hml, hown, hts⟩ (wL_shear l (wR G (ownA G H.size qo)) hfl qo (fun K i v => (hG.2.2.2.2.2.2.1 K i (Or.inl v)).1) st8 (xv xs (i + 1)) (xv xs (i + 2)) k P a' f8) (vx_cwSW 4 hts gL_law_L_shear rfl rfl rfl (by decide +kernel) ⟨Nat.le_of_ble_eq_true rfl, Nat.le_of_ble_eq_true rfl⟩) (LI_preL hG hLI [.ref (G.2.2.1 8 0), .int (iI (xv xs (i + 1))), .int (iI (xv xs (i + 2))), .ref qo]) rfl rfl hl.1 rfl (lv_room (Nat.le_of_ble_eq_true rfl)) dL_law_1212 ⟨by show cells + 2 ≤ 601024; omega, by show slots + 12 ≤ 7293034; omega⟩) hG hLI (fun st8 x H locs hk2 h8 hv hLI => ?_)
  refine W.widen (k := cells + 2) (n := slots + 12) (by omega) (by omega) ?_
  refine lv_istore (lv' := [(6, .int (iI k)), (0, .ref b), (1, .ref (G.2.2.1 8 0)), (2, .ref (G.2.2.1 9 0)), (3, .ref qo), (4, .ref qd), (5, .int (iI i))]) hx hb dL_law_1215 hl (by decide) rfl (fun ls hl => ?_)
  refine lv_aload_n hx hb dL_law_1217 rfl (lv_at hl 3 rfl) ?_
  refine lv_aload_n hx hb dL_law_1218 rfl (lv_at hl 1 rfl) ?_
  refine lv_iload hx hb dL_law_1219 (lv_at hl 6 rfl) ?_
  refine r_iconst (n := 1) hx hb dL_law_1221 ?_
  refine r_iadd hx hb dL_law_1222 ?_
  refine w_sld hx hb hX hbl hbA hL9 hLI (j := i + 1) (by omega) (by omega) dL_law_1223 ?_
  refine lv_aload_n hx hb dL_law_1224 rfl (lv_at hl 1 rfl) ?_
  refine lv_iload hx hb dL_law_1225 (lv_at hl 6 rfl) ?_
  refine r_iconst (n := 2) hx hb dL_law_1227 ?_
  refine r_iadd hx hb dL_law_1228 ?_
  refine w_sld hx hb hX hbl hbA hL9 hLI (j := i + 2) (by omega) (by omega) dL_law_1229 ?_
  refine lc_ml (va_runV (As := [.int (iI (xv xs (i + 1))), .int (iI (xv xs (i + 2)))]) (rest := []) ⟨hx, hb, hml, hown, hts⟩ (m9_shear l (wR G (ownV vM G H.size)) hv9 _ st9 (xv xs (i + 1)) (xv xs (i + 2)) f9) (cwV 2 hts gL_law_X9_shear rfl rfl rfl hd9_shear ⟨Nat.le_of_ble_eq_true rfl, Nat.le_of_ble_eq_true rfl⟩) (LI_pre9 hG hLI hv9 [.int (iI (xv xs (i + 1))), .int (iI (xv xs (i + 2)))]) rfl rfl hl.1 rfl (lv_room (Nat.le_of_ble_eq_true rfl)) dL_law_1230 ⟨by show cells + 2 + 0 ≤ 601024; omega, by show slots + 12 + 0 ≤ 7293034; omega⟩) hG hLI (fun zb st9 H locs ho9 hLI => ?_)
  obtain ⟨hz9, e6, h9⟩ := ho9
  refine lv_lstore (lv' := [(7, .long (lI zb)), (6, .int (iI k)), (0, .ref b), (1, .ref (G.2.2.1 8 0)), (2, .ref (G.2.2.1 9 0)), (3, .ref qo), (4, .ref qd), (5, .int (iI i))]) hx hb dL_law_1233 hl (by decide) rfl (fun ls hl => ?_)
  refine lv_aload_n hx hb dL_law_1235 rfl (lv_at hl 4 rfl) ?_
  refine lc_mi (va_runV (As := []) (rest := []) ⟨hx, hb, hml, hown, hts⟩ (m9_thrown l (wR G (ownV vM G H.size)) hv9 (fun z u => z = k ∧ SM u a') st9  ⟨e6, h9⟩) (cwV 0 hts gL_law_X9_thrown rfl rfl rfl hd9_thrown ⟨Nat.le_of_ble_eq_true rfl, Nat.le_of_ble_eq_true rfl⟩) (LI_pre9 hG hLI hv9 []) rfl rfl hl.1 rfl (lv_room (Nat.le_of_ble_eq_true rfl)) dL_law_1236 ⟨by show cells + 2 + 0 ≤ 601024; omega, by show slots + 12 + 0 ≤ 7293034; omega⟩) hG hLI (fun zt st9 H locs ho9 hLI => ?_)
  obtain ⟨ez, h9⟩ := ho9
  subst ez
  refine lv_iload hx hb dL_law_1239 (lv_at hl 1 rfl) ?_
  refine lv_icmp_eq (tgt := 1246) hx hb dL_law_1241 (by decide) (fun _ => ?_) (fun n => absurd rfl n)
  refine lv_iload hx hb dL_law_1246 (lv_at hl 1 rfl) ?_
  refine lv_if_ne (tgt := 1262) hx hb dL_law_1248 (by decide) (fun _ => ?_) (fun e0 => ?_)
  · refine lv_goto (tgt := 2661) hx hb dL_law_1262 (by decide) ?_
    exact next _ _ _ _ _ _ _ _ hLI h8 h9 (lv_sub hl [2, 3, 4, 5, 6, 7] rfl)
  · have k0 : zt = 0 := by
      rw [iI_0, iI_eq (inI_s (by omega) (by omega)) inI_0] at e0
      exact e0
    obtain ⟨w9, hw9, ex⟩ := hv k0
    have ew := hone _ _ (hz9 k0) hw9
    subst ew
    subst ex
    refine lv_aload_n hx hb dL_law_1251 rfl (lv_at hl 5 rfl) ?_
    refine r_iconst (n := 0) hx hb dL_law_1252 ?_
    refine w_lald hx hb hG hLI dL_law_1253 ?_
    refine lv_lload hx hb dL_law_1254 (lv_at hl 0 rfl) ?_
    refine w_lcmp_eq (tgt := 1262) hx hb dL_law_1256 dL_law_1257 (by decide) ?_
    refine lv_goto (tgt := 2661) hx hb dL_law_1262 (by decide) ?_
    exact next _ _ _ _ _ _ _ _ hLI h8 h9 (lv_sub hl [2, 3, 4, 5, 6, 7] rfl)
set_option maxHeartbeats 4000000 in
set_option maxRecDepth 100000 in
theorem law_c18 {p : Program} {l : Launch} {e : Env} {s : State} {m : MethodId} {below : List Frame} {meth : Method} {c : Code} {Q : State → Prop} {b L : Nat} {xs : Nat → Int32} {G : WG} {cD : ClassId} {qo qd : Nat} (hC : LawC l p s m c b L xs G cD qo qd) {i : Int} (hi0 : 0 ≤ i) (hi : i + 6 ≤ L) {st8 st9 : St} {a : Ab} {x : Int64} {y : UInt64} {H : Heap} {locs : List Loc} {cells slots : Nat} {ls : Array Slot} (hc : cells + 2 ≤ 601024) (hs : slots + 12 ≤ 7293034) (hLI : LI G cD qo qd s st8 st9 x y H locs) (h8 : SC st8 a) (h9 : SM st9 a) (hl : lv_has ls 10 [(0, .ref b), (1, .ref (G.2.2.1 8 0)), (2, .ref (G.2.2.1 9 0)), (3, .ref qo), (4, .ref qd), (5, .int (iI i))]) (next : ∀ (st8 st9 : St) (a : Ab) (x : Int64) (y : UInt64) (H : Heap) (locs : List Loc) (ls : Array Slot), LI G cD qo qd s st8 st9 x y H locs → SC st8 a → SM st9 a → lv_has ls 10 [(0, .ref b), (1, .ref (G.2.2.1 8 0)), (2, .ref (G.2.2.1 9 0)), (3, .ref qo), (4, .ref qd), (5, .int (iI i))] → W p l e room_1 s m #[Value.ref b] below meth c H locs (cells + 2) (slots + 12) Q (F0 m 2661 ls [])) : W p l e room_1 s m #[Value.ref b] below meth c H locs cells slots Q (F0 m 1265 ls []) := by
  obtain ⟨hx, hb, hml, hown, hts, hX, hbl, hG, hbA, hL9, hfl⟩ := hC
  have hv8 : vC 8 0 := ⟨by decide, by decide, by decide, by decide⟩
  have hv9 : vM 9 0 := ⟨Or.inl rfl, by decide, by decide⟩
  refine lv_aload_n hx hb dL_law_1265 rfl (lv_at hl 1 rfl) ?_
  refine lv_aload_n hx hb dL_law_1266 rfl (lv_at hl 0 rfl) ?_
  refine lv_iload hx hb dL_law_1267 (lv_at hl 5 rfl) ?_
  refine r_iconst (n := 1) hx hb dL_law_1269 ?_
  refine r_iadd hx hb dL_law_1270 ?_
  refine w_sld hx hb hX hbl hbA hL9 hLI (j := i + 1) (by omega) (by omega) dL_law_1271 ?_
  refine lv_aload_n hx hb dL_law_1272 rfl (lv_at hl 0 rfl) ?_
  refine lv_iload hx hb dL_law_1273 (lv_at hl 5 rfl) ?_
  refine r_iconst (n := 2) hx hb dL_law_1275 ?_
  refine r_iadd hx hb dL_law_1276 ?_
  refine w_sld hx hb hX hbl hbA hL9 hLI (j := i + 2) (by omega) (by omega) dL_law_1277 ?_
  refine lv_aload_n hx hb dL_law_1278 rfl (lv_at hl 3 rfl) ?_
  obtain ⟨k, P, a', hone, f8, f9⟩ := S_moment  h8 h9 (xv_I _ _) (xv_I _ _)
  refine lc_s (vx_runSW (As := [.ref (G.2.2.1 8 0), .int (iI (xv xs (i + 1))), .int (iI (xv xs (i + 2))), .ref qo]) (rest := []) ⟨hx, hb, hml, hown, hts⟩ (wL_moment l (wR G (ownA G H.size qo)) hfl qo (fun K i v => (hG.2.2.2.2.2.2.1 K i (Or.inl v)).1) st8 (xv xs (i + 1)) (xv xs (i + 2)) k P a' f8) (vx_cwSW 4 hts gL_law_L_moment rfl rfl rfl (by decide +kernel) ⟨Nat.le_of_ble_eq_true rfl, Nat.le_of_ble_eq_true rfl⟩) (LI_preL hG hLI [.ref (G.2.2.1 8 0), .int (iI (xv xs (i + 1))), .int (iI (xv xs (i + 2))), .ref qo]) rfl rfl hl.1 rfl (lv_room (Nat.le_of_ble_eq_true rfl)) dL_law_1279 ⟨by show cells + 2 ≤ 601024; omega, by show slots + 12 ≤ 7293034; omega⟩) hG hLI (fun st8 x H locs hk2 h8 hv hLI => ?_)
  refine W.widen (k := cells + 2) (n := slots + 12) (by omega) (by omega) ?_
  refine lv_istore (lv' := [(6, .int (iI k)), (0, .ref b), (1, .ref (G.2.2.1 8 0)), (2, .ref (G.2.2.1 9 0)), (3, .ref qo), (4, .ref qd), (5, .int (iI i))]) hx hb dL_law_1282 hl (by decide) rfl (fun ls hl => ?_)
  refine lv_aload_n hx hb dL_law_1284 rfl (lv_at hl 3 rfl) ?_
  refine lv_aload_n hx hb dL_law_1285 rfl (lv_at hl 1 rfl) ?_
  refine lv_iload hx hb dL_law_1286 (lv_at hl 6 rfl) ?_
  refine r_iconst (n := 1) hx hb dL_law_1288 ?_
  refine r_iadd hx hb dL_law_1289 ?_
  refine w_sld hx hb hX hbl hbA hL9 hLI (j := i + 1) (by omega) (by omega) dL_law_1290 ?_
  refine lv_aload_n hx hb dL_law_1291 rfl (lv_at hl 1 rfl) ?_
  refine lv_iload hx hb dL_law_1292 (lv_at hl 6 rfl) ?_
  refine r_iconst (n := 2) hx hb dL_law_1294 ?_
  refine r_iadd hx hb dL_law_1295 ?_
  refine w_sld hx hb hX hbl hbA hL9 hLI (j := i + 2) (by omega) (by omega) dL_law_1296 ?_
  refine lc_ml (va_runV (As := [.int (iI (xv xs (i + 1))), .int (iI (xv xs (i + 2)))]) (rest := []) ⟨hx, hb, hml, hown, hts⟩ (m9_moment l (wR G (ownV vM G H.size)) hv9 _ st9 (xv xs (i + 1)) (xv xs (i + 2)) f9) (cwV 2 hts gL_law_X9_moment rfl rfl rfl hd9_moment ⟨Nat.le_of_ble_eq_true rfl, Nat.le_of_ble_eq_true rfl⟩) (LI_pre9 hG hLI hv9 [.int (iI (xv xs (i + 1))), .int (iI (xv xs (i + 2)))]) rfl rfl hl.1 rfl (lv_room (Nat.le_of_ble_eq_true rfl)) dL_law_1297 ⟨by show cells + 2 + 0 ≤ 601024; omega, by show slots + 12 + 0 ≤ 7293034; omega⟩) hG hLI (fun zb st9 H locs ho9 hLI => ?_)
  obtain ⟨hz9, e6, h9⟩ := ho9
  refine lv_lstore (lv' := [(7, .long (lI zb)), (6, .int (iI k)), (0, .ref b), (1, .ref (G.2.2.1 8 0)), (2, .ref (G.2.2.1 9 0)), (3, .ref qo), (4, .ref qd), (5, .int (iI i))]) hx hb dL_law_1300 hl (by decide) rfl (fun ls hl => ?_)
  refine lv_aload_n hx hb dL_law_1302 rfl (lv_at hl 4 rfl) ?_
  refine lc_mi (va_runV (As := []) (rest := []) ⟨hx, hb, hml, hown, hts⟩ (m9_thrown l (wR G (ownV vM G H.size)) hv9 (fun z u => z = k ∧ SM u a') st9  ⟨e6, h9⟩) (cwV 0 hts gL_law_X9_thrown rfl rfl rfl hd9_thrown ⟨Nat.le_of_ble_eq_true rfl, Nat.le_of_ble_eq_true rfl⟩) (LI_pre9 hG hLI hv9 []) rfl rfl hl.1 rfl (lv_room (Nat.le_of_ble_eq_true rfl)) dL_law_1303 ⟨by show cells + 2 + 0 ≤ 601024; omega, by show slots + 12 + 0 ≤ 7293034; omega⟩) hG hLI (fun zt st9 H locs ho9 hLI => ?_)
  obtain ⟨ez, h9⟩ := ho9
  subst ez
  refine lv_iload hx hb dL_law_1306 (lv_at hl 1 rfl) ?_
  refine lv_icmp_eq (tgt := 1313) hx hb dL_law_1308 (by decide) (fun _ => ?_) (fun n => absurd rfl n)
  refine lv_iload hx hb dL_law_1313 (lv_at hl 1 rfl) ?_
  refine lv_if_ne (tgt := 1329) hx hb dL_law_1315 (by decide) (fun _ => ?_) (fun e0 => ?_)
  · refine lv_goto (tgt := 2661) hx hb dL_law_1329 (by decide) ?_
    exact next _ _ _ _ _ _ _ _ hLI h8 h9 (lv_sub hl [2, 3, 4, 5, 6, 7] rfl)
  · have k0 : zt = 0 := by
      rw [iI_0, iI_eq (inI_s (by omega) (by omega)) inI_0] at e0
      exact e0
    obtain ⟨w9, hw9, ex⟩ := hv k0
    have ew := hone _ _ (hz9 k0) hw9
    subst ew
    subst ex
    refine lv_aload_n hx hb dL_law_1318 rfl (lv_at hl 5 rfl) ?_
    refine r_iconst (n := 0) hx hb dL_law_1319 ?_
    refine w_lald hx hb hG hLI dL_law_1320 ?_
    refine lv_lload hx hb dL_law_1321 (lv_at hl 0 rfl) ?_
    refine w_lcmp_eq (tgt := 1329) hx hb dL_law_1323 dL_law_1324 (by decide) ?_
    refine lv_goto (tgt := 2661) hx hb dL_law_1329 (by decide) ?_
    exact next _ _ _ _ _ _ _ _ hLI h8 h9 (lv_sub hl [2, 3, 4, 5, 6, 7] rfl)
set_option maxHeartbeats 4000000 in
set_option maxRecDepth 100000 in
theorem law_c19 {p : Program} {l : Launch} {e : Env} {s : State} {m : MethodId} {below : List Frame} {meth : Method} {c : Code} {Q : State → Prop} {b L : Nat} {xs : Nat → Int32} {G : WG} {cD : ClassId} {qo qd : Nat} (hC : LawC l p s m c b L xs G cD qo qd) {i : Int} (hi0 : 0 ≤ i) (hi : i + 6 ≤ L) {st8 st9 : St} {a : Ab} {x : Int64} {y : UInt64} {H : Heap} {locs : List Loc} {cells slots : Nat} {ls : Array Slot} (hc : cells + 2 ≤ 601024) (hs : slots + 12 ≤ 7293034) (hLI : LI G cD qo qd s st8 st9 x y H locs) (h8 : SC st8 a) (h9 : SM st9 a) (hl : lv_has ls 10 [(0, .ref b), (1, .ref (G.2.2.1 8 0)), (2, .ref (G.2.2.1 9 0)), (3, .ref qo), (4, .ref qd), (5, .int (iI i))]) (next : ∀ (st8 st9 : St) (a : Ab) (x : Int64) (y : UInt64) (H : Heap) (locs : List Loc) (ls : Array Slot), LI G cD qo qd s st8 st9 x y H locs → SC st8 a → SM st9 a → lv_has ls 10 [(0, .ref b), (1, .ref (G.2.2.1 8 0)), (2, .ref (G.2.2.1 9 0)), (3, .ref qo), (4, .ref qd), (5, .int (iI i))] → W p l e room_1 s m #[Value.ref b] below meth c H locs (cells + 2) (slots + 12) Q (F0 m 2661 ls [])) : W p l e room_1 s m #[Value.ref b] below meth c H locs cells slots Q (F0 m 1332 ls []) := by
  obtain ⟨hx, hb, hml, hown, hts, hX, hbl, hG, hbA, hL9, hfl⟩ := hC
  have hv8 : vC 8 0 := ⟨by decide, by decide, by decide, by decide⟩
  have hv9 : vM 9 0 := ⟨Or.inl rfl, by decide, by decide⟩
  by_cases z2 : xv xs (i + 2) = 0
  · refine lv_aload_n hx hb dL_law_1332 rfl (lv_at hl 1 rfl) ?_
    refine lv_aload_n hx hb dL_law_1333 rfl (lv_at hl 0 rfl) ?_
    refine lv_iload hx hb dL_law_1334 (lv_at hl 5 rfl) ?_
    refine r_iconst (n := 1) hx hb dL_law_1336 ?_
    refine r_iadd hx hb dL_law_1337 ?_
    refine w_sld hx hb hX hbl hbA hL9 hLI (j := i + 1) (by omega) (by omega) dL_law_1338 ?_
    refine lv_aload_n hx hb dL_law_1339 rfl (lv_at hl 0 rfl) ?_
    refine lv_iload hx hb dL_law_1340 (lv_at hl 5 rfl) ?_
    refine r_iconst (n := 2) hx hb dL_law_1342 ?_
    refine r_iadd hx hb dL_law_1343 ?_
    refine w_sld hx hb hX hbl hbA hL9 hLI (j := i + 2) (by omega) (by omega) dL_law_1344 ?_
    refine r_if_eq (tgt := 1352) hx hb dL_law_1345 (by decide) (xv_I _ _) (fun _ => ?_) (fun n => absurd z2 n)
    refine r_iconst (n := 0) hx hb dL_law_1352 ?_
    refine lv_aload_n hx hb dL_law_1353 rfl (lv_at hl 3 rfl) ?_
    obtain ⟨k, P, a', hone, f8, f9⟩ := S_worstForReaction  h8 h9 (xv_I _ _) (inI_0)
    refine lc_s (vx_runSW (As := [.ref (G.2.2.1 8 0), .int (iI (xv xs (i + 1))), .int (iI 0), .ref qo]) (rest := []) ⟨hx, hb, hml, hown, hts⟩ (wL_worstForReaction l (wR G (ownA G H.size qo)) hfl qo (fun K i v => (hG.2.2.2.2.2.2.1 K i (Or.inl v)).1) st8 (xv xs (i + 1)) 0 k P a' f8) (vx_cwSW 4 hts gL_law_L_worstForReaction rfl rfl rfl (by decide +kernel) ⟨Nat.le_of_ble_eq_true rfl, Nat.le_of_ble_eq_true rfl⟩) (LI_preL hG hLI [.ref (G.2.2.1 8 0), .int (iI (xv xs (i + 1))), .int (iI 0), .ref qo]) rfl rfl hl.1 rfl (lv_room (Nat.le_of_ble_eq_true rfl)) dL_law_1354 ⟨by show cells + 1 ≤ 601024; omega, by show slots + 6 ≤ 7293034; omega⟩) hG hLI (fun st8 x H locs hk2 h8 hv hLI => ?_)
    refine W.widen (k := cells + 2) (n := slots + 12) (by omega) (by omega) ?_
    refine lv_istore (lv' := [(6, .int (iI k)), (0, .ref b), (1, .ref (G.2.2.1 8 0)), (2, .ref (G.2.2.1 9 0)), (3, .ref qo), (4, .ref qd), (5, .int (iI i))]) hx hb dL_law_1357 hl (by decide) rfl (fun ls hl => ?_)
    refine lv_aload_n hx hb dL_law_1359 rfl (lv_at hl 3 rfl) ?_
    refine lv_aload_n hx hb dL_law_1360 rfl (lv_at hl 1 rfl) ?_
    refine lv_iload hx hb dL_law_1361 (lv_at hl 6 rfl) ?_
    refine r_iconst (n := 1) hx hb dL_law_1363 ?_
    refine r_iadd hx hb dL_law_1364 ?_
    refine w_sld hx hb hX hbl hbA hL9 hLI (j := i + 1) (by omega) (by omega) dL_law_1365 ?_
    refine lv_aload_n hx hb dL_law_1366 rfl (lv_at hl 1 rfl) ?_
    refine lv_iload hx hb dL_law_1367 (lv_at hl 6 rfl) ?_
    refine r_iconst (n := 2) hx hb dL_law_1369 ?_
    refine r_iadd hx hb dL_law_1370 ?_
    refine w_sld hx hb hX hbl hbA hL9 hLI (j := i + 2) (by omega) (by omega) dL_law_1371 ?_
    refine r_if_eq (tgt := 1379) hx hb dL_law_1372 (by decide) (xv_I _ _) (fun _ => ?_) (fun n => absurd z2 n)
    refine r_iconst (n := 0) hx hb dL_law_1379 ?_
    refine lc_mi (va_runV (As := [.int (iI (xv xs (i + 1))), .int (iI 0)]) (rest := []) ⟨hx, hb, hml, hown, hts⟩ (m9_worstForReaction l (wR G (ownV vM G H.size)) hv9 _ st9 (xv xs (i + 1)) 0 f9) (cwV 2 hts gL_law_X9_worstForReaction rfl rfl rfl hd9_worstForReaction ⟨Nat.le_of_ble_eq_true rfl, Nat.le_of_ble_eq_true rfl⟩) (LI_pre9 hG hLI hv9 [.int (iI (xv xs (i + 1))), .int (iI 0)]) rfl rfl hl.1 rfl (lv_room (Nat.le_of_ble_eq_true rfl)) dL_law_1380 ⟨by show cells + 2 + 0 ≤ 601024; omega, by show slots + 12 + 0 ≤ 7293034; omega⟩) hG hLI (fun zb st9 H locs ho9 hLI => ?_)
    obtain ⟨hz9, e6, h9⟩ := ho9
    refine lv_istore (lv' := [(7, .int (iI zb)), (6, .int (iI k)), (0, .ref b), (1, .ref (G.2.2.1 8 0)), (2, .ref (G.2.2.1 9 0)), (3, .ref qo), (4, .ref qd), (5, .int (iI i))]) hx hb dL_law_1383 hl (by decide) rfl (fun ls hl => ?_)
    refine lv_aload_n hx hb dL_law_1385 rfl (lv_at hl 4 rfl) ?_
    refine lc_mi (va_runV (As := []) (rest := []) ⟨hx, hb, hml, hown, hts⟩ (m9_thrown l (wR G (ownV vM G H.size)) hv9 (fun z u => z = k ∧ SM u a') st9  ⟨e6, h9⟩) (cwV 0 hts gL_law_X9_thrown rfl rfl rfl hd9_thrown ⟨Nat.le_of_ble_eq_true rfl, Nat.le_of_ble_eq_true rfl⟩) (LI_pre9 hG hLI hv9 []) rfl rfl hl.1 rfl (lv_room (Nat.le_of_ble_eq_true rfl)) dL_law_1386 ⟨by show cells + 2 + 0 ≤ 601024; omega, by show slots + 12 + 0 ≤ 7293034; omega⟩) hG hLI (fun zt st9 H locs ho9 hLI => ?_)
    obtain ⟨ez, h9⟩ := ho9
    subst ez
    refine lv_iload hx hb dL_law_1389 (lv_at hl 1 rfl) ?_
    refine lv_icmp_eq (tgt := 1396) hx hb dL_law_1391 (by decide) (fun _ => ?_) (fun n => absurd rfl n)
    refine lv_iload hx hb dL_law_1396 (lv_at hl 1 rfl) ?_
    refine lv_if_ne (tgt := 1413) hx hb dL_law_1398 (by decide) (fun _ => ?_) (fun e0 => ?_)
    · refine lv_goto (tgt := 2661) hx hb dL_law_1413 (by decide) ?_
      exact next _ _ _ _ _ _ _ _ hLI h8 h9 (lv_sub hl [2, 3, 4, 5, 6, 7] rfl)
    · have k0 : zt = 0 := by
        rw [iI_0, iI_eq (inI_s (by omega) (by omega)) inI_0] at e0
        exact e0
      obtain ⟨w9, hw9, ex⟩ := hv k0
      have ew := hone _ _ (hz9 k0) hw9
      subst ew
      subst ex
      refine lv_aload_n hx hb dL_law_1401 rfl (lv_at hl 5 rfl) ?_
      refine r_iconst (n := 0) hx hb dL_law_1402 ?_
      refine w_lald hx hb hG hLI dL_law_1403 ?_
      refine lv_iload hx hb dL_law_1404 (lv_at hl 0 rfl) ?_
      refine lv_i2l (v := cvI zb) hx hb dL_law_1406 rfl ?_
      refine w_lcmp_eq (tgt := 1413) hx hb dL_law_1407 dL_law_1408 (by decide) ?_
      refine lv_goto (tgt := 2661) hx hb dL_law_1413 (by decide) ?_
      exact next _ _ _ _ _ _ _ _ hLI h8 h9 (lv_sub hl [2, 3, 4, 5, 6, 7] rfl)
  · refine lv_aload_n hx hb dL_law_1332 rfl (lv_at hl 1 rfl) ?_
    refine lv_aload_n hx hb dL_law_1333 rfl (lv_at hl 0 rfl) ?_
    refine lv_iload hx hb dL_law_1334 (lv_at hl 5 rfl) ?_
    refine r_iconst (n := 1) hx hb dL_law_1336 ?_
    refine r_iadd hx hb dL_law_1337 ?_
    refine w_sld hx hb hX hbl hbA hL9 hLI (j := i + 1) (by omega) (by omega) dL_law_1338 ?_
    refine lv_aload_n hx hb dL_law_1339 rfl (lv_at hl 0 rfl) ?_
    refine lv_iload hx hb dL_law_1340 (lv_at hl 5 rfl) ?_
    refine r_iconst (n := 2) hx hb dL_law_1342 ?_
    refine r_iadd hx hb dL_law_1343 ?_
    refine w_sld hx hb hX hbl hbA hL9 hLI (j := i + 2) (by omega) (by omega) dL_law_1344 ?_
    refine r_if_eq (tgt := 1352) hx hb dL_law_1345 (by decide) (xv_I _ _) (fun n => absurd n z2) (fun _ => ?_)
    refine r_iconst (n := 1) hx hb dL_law_1348 ?_
    refine lv_goto (tgt := 1353) hx hb dL_law_1349 (by decide) ?_
    refine lv_aload_n hx hb dL_law_1353 rfl (lv_at hl 3 rfl) ?_
    obtain ⟨k, P, a', hone, f8, f9⟩ := S_worstForReaction  h8 h9 (xv_I _ _) (inI_1)
    refine lc_s (vx_runSW (As := [.ref (G.2.2.1 8 0), .int (iI (xv xs (i + 1))), .int (iI 1), .ref qo]) (rest := []) ⟨hx, hb, hml, hown, hts⟩ (wL_worstForReaction l (wR G (ownA G H.size qo)) hfl qo (fun K i v => (hG.2.2.2.2.2.2.1 K i (Or.inl v)).1) st8 (xv xs (i + 1)) 1 k P a' f8) (vx_cwSW 4 hts gL_law_L_worstForReaction rfl rfl rfl (by decide +kernel) ⟨Nat.le_of_ble_eq_true rfl, Nat.le_of_ble_eq_true rfl⟩) (LI_preL hG hLI [.ref (G.2.2.1 8 0), .int (iI (xv xs (i + 1))), .int (iI 1), .ref qo]) rfl rfl hl.1 rfl (lv_room (Nat.le_of_ble_eq_true rfl)) dL_law_1354 ⟨by show cells + 1 ≤ 601024; omega, by show slots + 6 ≤ 7293034; omega⟩) hG hLI (fun st8 x H locs hk2 h8 hv hLI => ?_)
    refine W.widen (k := cells + 2) (n := slots + 12) (by omega) (by omega) ?_
    refine lv_istore (lv' := [(6, .int (iI k)), (0, .ref b), (1, .ref (G.2.2.1 8 0)), (2, .ref (G.2.2.1 9 0)), (3, .ref qo), (4, .ref qd), (5, .int (iI i))]) hx hb dL_law_1357 hl (by decide) rfl (fun ls hl => ?_)
    refine lv_aload_n hx hb dL_law_1359 rfl (lv_at hl 3 rfl) ?_
    refine lv_aload_n hx hb dL_law_1360 rfl (lv_at hl 1 rfl) ?_
    refine lv_iload hx hb dL_law_1361 (lv_at hl 6 rfl) ?_
    refine r_iconst (n := 1) hx hb dL_law_1363 ?_
    refine r_iadd hx hb dL_law_1364 ?_
    refine w_sld hx hb hX hbl hbA hL9 hLI (j := i + 1) (by omega) (by omega) dL_law_1365 ?_
    refine lv_aload_n hx hb dL_law_1366 rfl (lv_at hl 1 rfl) ?_
    refine lv_iload hx hb dL_law_1367 (lv_at hl 6 rfl) ?_
    refine r_iconst (n := 2) hx hb dL_law_1369 ?_
    refine r_iadd hx hb dL_law_1370 ?_
    refine w_sld hx hb hX hbl hbA hL9 hLI (j := i + 2) (by omega) (by omega) dL_law_1371 ?_
    refine r_if_eq (tgt := 1379) hx hb dL_law_1372 (by decide) (xv_I _ _) (fun n => absurd n z2) (fun _ => ?_)
    refine r_iconst (n := 1) hx hb dL_law_1375 ?_
    refine lv_goto (tgt := 1380) hx hb dL_law_1376 (by decide) ?_
    refine lc_mi (va_runV (As := [.int (iI (xv xs (i + 1))), .int (iI 1)]) (rest := []) ⟨hx, hb, hml, hown, hts⟩ (m9_worstForReaction l (wR G (ownV vM G H.size)) hv9 _ st9 (xv xs (i + 1)) 1 f9) (cwV 2 hts gL_law_X9_worstForReaction rfl rfl rfl hd9_worstForReaction ⟨Nat.le_of_ble_eq_true rfl, Nat.le_of_ble_eq_true rfl⟩) (LI_pre9 hG hLI hv9 [.int (iI (xv xs (i + 1))), .int (iI 1)]) rfl rfl hl.1 rfl (lv_room (Nat.le_of_ble_eq_true rfl)) dL_law_1380 ⟨by show cells + 2 + 0 ≤ 601024; omega, by show slots + 12 + 0 ≤ 7293034; omega⟩) hG hLI (fun zb st9 H locs ho9 hLI => ?_)
    obtain ⟨hz9, e6, h9⟩ := ho9
    refine lv_istore (lv' := [(7, .int (iI zb)), (6, .int (iI k)), (0, .ref b), (1, .ref (G.2.2.1 8 0)), (2, .ref (G.2.2.1 9 0)), (3, .ref qo), (4, .ref qd), (5, .int (iI i))]) hx hb dL_law_1383 hl (by decide) rfl (fun ls hl => ?_)
    refine lv_aload_n hx hb dL_law_1385 rfl (lv_at hl 4 rfl) ?_
    refine lc_mi (va_runV (As := []) (rest := []) ⟨hx, hb, hml, hown, hts⟩ (m9_thrown l (wR G (ownV vM G H.size)) hv9 (fun z u => z = k ∧ SM u a') st9  ⟨e6, h9⟩) (cwV 0 hts gL_law_X9_thrown rfl rfl rfl hd9_thrown ⟨Nat.le_of_ble_eq_true rfl, Nat.le_of_ble_eq_true rfl⟩) (LI_pre9 hG hLI hv9 []) rfl rfl hl.1 rfl (lv_room (Nat.le_of_ble_eq_true rfl)) dL_law_1386 ⟨by show cells + 2 + 0 ≤ 601024; omega, by show slots + 12 + 0 ≤ 7293034; omega⟩) hG hLI (fun zt st9 H locs ho9 hLI => ?_)
    obtain ⟨ez, h9⟩ := ho9
    subst ez
    refine lv_iload hx hb dL_law_1389 (lv_at hl 1 rfl) ?_
    refine lv_icmp_eq (tgt := 1396) hx hb dL_law_1391 (by decide) (fun _ => ?_) (fun n => absurd rfl n)
    refine lv_iload hx hb dL_law_1396 (lv_at hl 1 rfl) ?_
    refine lv_if_ne (tgt := 1413) hx hb dL_law_1398 (by decide) (fun _ => ?_) (fun e0 => ?_)
    · refine lv_goto (tgt := 2661) hx hb dL_law_1413 (by decide) ?_
      exact next _ _ _ _ _ _ _ _ hLI h8 h9 (lv_sub hl [2, 3, 4, 5, 6, 7] rfl)
    · have k0 : zt = 0 := by
        rw [iI_0, iI_eq (inI_s (by omega) (by omega)) inI_0] at e0
        exact e0
      obtain ⟨w9, hw9, ex⟩ := hv k0
      have ew := hone _ _ (hz9 k0) hw9
      subst ew
      subst ex
      refine lv_aload_n hx hb dL_law_1401 rfl (lv_at hl 5 rfl) ?_
      refine r_iconst (n := 0) hx hb dL_law_1402 ?_
      refine w_lald hx hb hG hLI dL_law_1403 ?_
      refine lv_iload hx hb dL_law_1404 (lv_at hl 0 rfl) ?_
      refine lv_i2l (v := cvI zb) hx hb dL_law_1406 rfl ?_
      refine w_lcmp_eq (tgt := 1413) hx hb dL_law_1407 dL_law_1408 (by decide) ?_
      refine lv_goto (tgt := 2661) hx hb dL_law_1413 (by decide) ?_
      exact next _ _ _ _ _ _ _ _ hLI h8 h9 (lv_sub hl [2, 3, 4, 5, 6, 7] rfl)
set_option maxHeartbeats 4000000 in
set_option maxRecDepth 100000 in
theorem law_c20 {p : Program} {l : Launch} {e : Env} {s : State} {m : MethodId} {below : List Frame} {meth : Method} {c : Code} {Q : State → Prop} {b L : Nat} {xs : Nat → Int32} {G : WG} {cD : ClassId} {qo qd : Nat} (hC : LawC l p s m c b L xs G cD qo qd) {i : Int} (hi0 : 0 ≤ i) (hi : i + 6 ≤ L) {st8 st9 : St} {a : Ab} {x : Int64} {y : UInt64} {H : Heap} {locs : List Loc} {cells slots : Nat} {ls : Array Slot} (hc : cells + 2 ≤ 601024) (hs : slots + 12 ≤ 7293034) (hLI : LI G cD qo qd s st8 st9 x y H locs) (h8 : SC st8 a) (h9 : SM st9 a) (hl : lv_has ls 10 [(0, .ref b), (1, .ref (G.2.2.1 8 0)), (2, .ref (G.2.2.1 9 0)), (3, .ref qo), (4, .ref qd), (5, .int (iI i))]) (next : ∀ (st8 st9 : St) (a : Ab) (x : Int64) (y : UInt64) (H : Heap) (locs : List Loc) (ls : Array Slot), LI G cD qo qd s st8 st9 x y H locs → SC st8 a → SM st9 a → lv_has ls 10 [(0, .ref b), (1, .ref (G.2.2.1 8 0)), (2, .ref (G.2.2.1 9 0)), (3, .ref qo), (4, .ref qd), (5, .int (iI i))] → W p l e room_1 s m #[Value.ref b] below meth c H locs (cells + 2) (slots + 12) Q (F0 m 2661 ls [])) : W p l e room_1 s m #[Value.ref b] below meth c H locs cells slots Q (F0 m 1416 ls []) := by
  obtain ⟨hx, hb, hml, hown, hts, hX, hbl, hG, hbA, hL9, hfl⟩ := hC
  have hv8 : vC 8 0 := ⟨by decide, by decide, by decide, by decide⟩
  have hv9 : vM 9 0 := ⟨Or.inl rfl, by decide, by decide⟩
  by_cases z2 : xv xs (i + 2) = 0
  · refine lv_aload_n hx hb dL_law_1416 rfl (lv_at hl 1 rfl) ?_
    refine lv_aload_n hx hb dL_law_1417 rfl (lv_at hl 0 rfl) ?_
    refine lv_iload hx hb dL_law_1418 (lv_at hl 5 rfl) ?_
    refine r_iconst (n := 1) hx hb dL_law_1420 ?_
    refine r_iadd hx hb dL_law_1421 ?_
    refine w_sld hx hb hX hbl hbA hL9 hLI (j := i + 1) (by omega) (by omega) dL_law_1422 ?_
    refine lv_aload_n hx hb dL_law_1423 rfl (lv_at hl 0 rfl) ?_
    refine lv_iload hx hb dL_law_1424 (lv_at hl 5 rfl) ?_
    refine r_iconst (n := 2) hx hb dL_law_1426 ?_
    refine r_iadd hx hb dL_law_1427 ?_
    refine w_sld hx hb hX hbl hbA hL9 hLI (j := i + 2) (by omega) (by omega) dL_law_1428 ?_
    refine r_if_eq (tgt := 1436) hx hb dL_law_1429 (by decide) (xv_I _ _) (fun _ => ?_) (fun n => absurd z2 n)
    refine r_iconst (n := 0) hx hb dL_law_1436 ?_
    refine lv_aload_n hx hb dL_law_1437 rfl (lv_at hl 3 rfl) ?_
    obtain ⟨k, P, a', hone, f8, f9⟩ := S_worstForShear  h8 h9 (xv_I _ _) (inI_0)
    refine lc_s (vx_runSW (As := [.ref (G.2.2.1 8 0), .int (iI (xv xs (i + 1))), .int (iI 0), .ref qo]) (rest := []) ⟨hx, hb, hml, hown, hts⟩ (wL_worstForShear l (wR G (ownA G H.size qo)) hfl qo (fun K i v => (hG.2.2.2.2.2.2.1 K i (Or.inl v)).1) st8 (xv xs (i + 1)) 0 k P a' f8) (vx_cwSW 4 hts gL_law_L_worstForShear rfl rfl rfl (by decide +kernel) ⟨Nat.le_of_ble_eq_true rfl, Nat.le_of_ble_eq_true rfl⟩) (LI_preL hG hLI [.ref (G.2.2.1 8 0), .int (iI (xv xs (i + 1))), .int (iI 0), .ref qo]) rfl rfl hl.1 rfl (lv_room (Nat.le_of_ble_eq_true rfl)) dL_law_1438 ⟨by show cells + 1 ≤ 601024; omega, by show slots + 6 ≤ 7293034; omega⟩) hG hLI (fun st8 x H locs hk2 h8 hv hLI => ?_)
    refine W.widen (k := cells + 2) (n := slots + 12) (by omega) (by omega) ?_
    refine lv_istore (lv' := [(6, .int (iI k)), (0, .ref b), (1, .ref (G.2.2.1 8 0)), (2, .ref (G.2.2.1 9 0)), (3, .ref qo), (4, .ref qd), (5, .int (iI i))]) hx hb dL_law_1441 hl (by decide) rfl (fun ls hl => ?_)
    refine lv_aload_n hx hb dL_law_1443 rfl (lv_at hl 3 rfl) ?_
    refine lv_aload_n hx hb dL_law_1444 rfl (lv_at hl 1 rfl) ?_
    refine lv_iload hx hb dL_law_1445 (lv_at hl 6 rfl) ?_
    refine r_iconst (n := 1) hx hb dL_law_1447 ?_
    refine r_iadd hx hb dL_law_1448 ?_
    refine w_sld hx hb hX hbl hbA hL9 hLI (j := i + 1) (by omega) (by omega) dL_law_1449 ?_
    refine lv_aload_n hx hb dL_law_1450 rfl (lv_at hl 1 rfl) ?_
    refine lv_iload hx hb dL_law_1451 (lv_at hl 6 rfl) ?_
    refine r_iconst (n := 2) hx hb dL_law_1453 ?_
    refine r_iadd hx hb dL_law_1454 ?_
    refine w_sld hx hb hX hbl hbA hL9 hLI (j := i + 2) (by omega) (by omega) dL_law_1455 ?_
    refine r_if_eq (tgt := 1463) hx hb dL_law_1456 (by decide) (xv_I _ _) (fun _ => ?_) (fun n => absurd z2 n)
    refine r_iconst (n := 0) hx hb dL_law_1463 ?_
    refine lc_mi (va_runV (As := [.int (iI (xv xs (i + 1))), .int (iI 0)]) (rest := []) ⟨hx, hb, hml, hown, hts⟩ (m9_worstForShear l (wR G (ownV vM G H.size)) hv9 _ st9 (xv xs (i + 1)) 0 f9) (cwV 2 hts gL_law_X9_worstForShear rfl rfl rfl hd9_worstForShear ⟨Nat.le_of_ble_eq_true rfl, Nat.le_of_ble_eq_true rfl⟩) (LI_pre9 hG hLI hv9 [.int (iI (xv xs (i + 1))), .int (iI 0)]) rfl rfl hl.1 rfl (lv_room (Nat.le_of_ble_eq_true rfl)) dL_law_1464 ⟨by show cells + 2 + 0 ≤ 601024; omega, by show slots + 12 + 0 ≤ 7293034; omega⟩) hG hLI (fun zb st9 H locs ho9 hLI => ?_)
    obtain ⟨hz9, e6, h9⟩ := ho9
    refine lv_istore (lv' := [(7, .int (iI zb)), (6, .int (iI k)), (0, .ref b), (1, .ref (G.2.2.1 8 0)), (2, .ref (G.2.2.1 9 0)), (3, .ref qo), (4, .ref qd), (5, .int (iI i))]) hx hb dL_law_1467 hl (by decide) rfl (fun ls hl => ?_)
    refine lv_aload_n hx hb dL_law_1469 rfl (lv_at hl 4 rfl) ?_
    refine lc_mi (va_runV (As := []) (rest := []) ⟨hx, hb, hml, hown, hts⟩ (m9_thrown l (wR G (ownV vM G H.size)) hv9 (fun z u => z = k ∧ SM u a') st9  ⟨e6, h9⟩) (cwV 0 hts gL_law_X9_thrown rfl rfl rfl hd9_thrown ⟨Nat.le_of_ble_eq_true rfl, Nat.le_of_ble_eq_true rfl⟩) (LI_pre9 hG hLI hv9 []) rfl rfl hl.1 rfl (lv_room (Nat.le_of_ble_eq_true rfl)) dL_law_1470 ⟨by show cells + 2 + 0 ≤ 601024; omega, by show slots + 12 + 0 ≤ 7293034; omega⟩) hG hLI (fun zt st9 H locs ho9 hLI => ?_)
    obtain ⟨ez, h9⟩ := ho9
    subst ez
    refine lv_iload hx hb dL_law_1473 (lv_at hl 1 rfl) ?_
    refine lv_icmp_eq (tgt := 1480) hx hb dL_law_1475 (by decide) (fun _ => ?_) (fun n => absurd rfl n)
    refine lv_iload hx hb dL_law_1480 (lv_at hl 1 rfl) ?_
    refine lv_if_ne (tgt := 1497) hx hb dL_law_1482 (by decide) (fun _ => ?_) (fun e0 => ?_)
    · refine lv_goto (tgt := 2661) hx hb dL_law_1497 (by decide) ?_
      exact next _ _ _ _ _ _ _ _ hLI h8 h9 (lv_sub hl [2, 3, 4, 5, 6, 7] rfl)
    · have k0 : zt = 0 := by
        rw [iI_0, iI_eq (inI_s (by omega) (by omega)) inI_0] at e0
        exact e0
      obtain ⟨w9, hw9, ex⟩ := hv k0
      have ew := hone _ _ (hz9 k0) hw9
      subst ew
      subst ex
      refine lv_aload_n hx hb dL_law_1485 rfl (lv_at hl 5 rfl) ?_
      refine r_iconst (n := 0) hx hb dL_law_1486 ?_
      refine w_lald hx hb hG hLI dL_law_1487 ?_
      refine lv_iload hx hb dL_law_1488 (lv_at hl 0 rfl) ?_
      refine lv_i2l (v := cvI zb) hx hb dL_law_1490 rfl ?_
      refine w_lcmp_eq (tgt := 1497) hx hb dL_law_1491 dL_law_1492 (by decide) ?_
      refine lv_goto (tgt := 2661) hx hb dL_law_1497 (by decide) ?_
      exact next _ _ _ _ _ _ _ _ hLI h8 h9 (lv_sub hl [2, 3, 4, 5, 6, 7] rfl)
  · refine lv_aload_n hx hb dL_law_1416 rfl (lv_at hl 1 rfl) ?_
    refine lv_aload_n hx hb dL_law_1417 rfl (lv_at hl 0 rfl) ?_
    refine lv_iload hx hb dL_law_1418 (lv_at hl 5 rfl) ?_
    refine r_iconst (n := 1) hx hb dL_law_1420 ?_
    refine r_iadd hx hb dL_law_1421 ?_
    refine w_sld hx hb hX hbl hbA hL9 hLI (j := i + 1) (by omega) (by omega) dL_law_1422 ?_
    refine lv_aload_n hx hb dL_law_1423 rfl (lv_at hl 0 rfl) ?_
    refine lv_iload hx hb dL_law_1424 (lv_at hl 5 rfl) ?_
    refine r_iconst (n := 2) hx hb dL_law_1426 ?_
    refine r_iadd hx hb dL_law_1427 ?_
    refine w_sld hx hb hX hbl hbA hL9 hLI (j := i + 2) (by omega) (by omega) dL_law_1428 ?_
    refine r_if_eq (tgt := 1436) hx hb dL_law_1429 (by decide) (xv_I _ _) (fun n => absurd n z2) (fun _ => ?_)
    refine r_iconst (n := 1) hx hb dL_law_1432 ?_
    refine lv_goto (tgt := 1437) hx hb dL_law_1433 (by decide) ?_
    refine lv_aload_n hx hb dL_law_1437 rfl (lv_at hl 3 rfl) ?_
    obtain ⟨k, P, a', hone, f8, f9⟩ := S_worstForShear  h8 h9 (xv_I _ _) (inI_1)
    refine lc_s (vx_runSW (As := [.ref (G.2.2.1 8 0), .int (iI (xv xs (i + 1))), .int (iI 1), .ref qo]) (rest := []) ⟨hx, hb, hml, hown, hts⟩ (wL_worstForShear l (wR G (ownA G H.size qo)) hfl qo (fun K i v => (hG.2.2.2.2.2.2.1 K i (Or.inl v)).1) st8 (xv xs (i + 1)) 1 k P a' f8) (vx_cwSW 4 hts gL_law_L_worstForShear rfl rfl rfl (by decide +kernel) ⟨Nat.le_of_ble_eq_true rfl, Nat.le_of_ble_eq_true rfl⟩) (LI_preL hG hLI [.ref (G.2.2.1 8 0), .int (iI (xv xs (i + 1))), .int (iI 1), .ref qo]) rfl rfl hl.1 rfl (lv_room (Nat.le_of_ble_eq_true rfl)) dL_law_1438 ⟨by show cells + 1 ≤ 601024; omega, by show slots + 6 ≤ 7293034; omega⟩) hG hLI (fun st8 x H locs hk2 h8 hv hLI => ?_)
    refine W.widen (k := cells + 2) (n := slots + 12) (by omega) (by omega) ?_
    refine lv_istore (lv' := [(6, .int (iI k)), (0, .ref b), (1, .ref (G.2.2.1 8 0)), (2, .ref (G.2.2.1 9 0)), (3, .ref qo), (4, .ref qd), (5, .int (iI i))]) hx hb dL_law_1441 hl (by decide) rfl (fun ls hl => ?_)
    refine lv_aload_n hx hb dL_law_1443 rfl (lv_at hl 3 rfl) ?_
    refine lv_aload_n hx hb dL_law_1444 rfl (lv_at hl 1 rfl) ?_
    refine lv_iload hx hb dL_law_1445 (lv_at hl 6 rfl) ?_
    refine r_iconst (n := 1) hx hb dL_law_1447 ?_
    refine r_iadd hx hb dL_law_1448 ?_
    refine w_sld hx hb hX hbl hbA hL9 hLI (j := i + 1) (by omega) (by omega) dL_law_1449 ?_
    refine lv_aload_n hx hb dL_law_1450 rfl (lv_at hl 1 rfl) ?_
    refine lv_iload hx hb dL_law_1451 (lv_at hl 6 rfl) ?_
    refine r_iconst (n := 2) hx hb dL_law_1453 ?_
    refine r_iadd hx hb dL_law_1454 ?_
    refine w_sld hx hb hX hbl hbA hL9 hLI (j := i + 2) (by omega) (by omega) dL_law_1455 ?_
    refine r_if_eq (tgt := 1463) hx hb dL_law_1456 (by decide) (xv_I _ _) (fun n => absurd n z2) (fun _ => ?_)
    refine r_iconst (n := 1) hx hb dL_law_1459 ?_
    refine lv_goto (tgt := 1464) hx hb dL_law_1460 (by decide) ?_
    refine lc_mi (va_runV (As := [.int (iI (xv xs (i + 1))), .int (iI 1)]) (rest := []) ⟨hx, hb, hml, hown, hts⟩ (m9_worstForShear l (wR G (ownV vM G H.size)) hv9 _ st9 (xv xs (i + 1)) 1 f9) (cwV 2 hts gL_law_X9_worstForShear rfl rfl rfl hd9_worstForShear ⟨Nat.le_of_ble_eq_true rfl, Nat.le_of_ble_eq_true rfl⟩) (LI_pre9 hG hLI hv9 [.int (iI (xv xs (i + 1))), .int (iI 1)]) rfl rfl hl.1 rfl (lv_room (Nat.le_of_ble_eq_true rfl)) dL_law_1464 ⟨by show cells + 2 + 0 ≤ 601024; omega, by show slots + 12 + 0 ≤ 7293034; omega⟩) hG hLI (fun zb st9 H locs ho9 hLI => ?_)
    obtain ⟨hz9, e6, h9⟩ := ho9
    refine lv_istore (lv' := [(7, .int (iI zb)), (6, .int (iI k)), (0, .ref b), (1, .ref (G.2.2.1 8 0)), (2, .ref (G.2.2.1 9 0)), (3, .ref qo), (4, .ref qd), (5, .int (iI i))]) hx hb dL_law_1467 hl (by decide) rfl (fun ls hl => ?_)
    refine lv_aload_n hx hb dL_law_1469 rfl (lv_at hl 4 rfl) ?_
    refine lc_mi (va_runV (As := []) (rest := []) ⟨hx, hb, hml, hown, hts⟩ (m9_thrown l (wR G (ownV vM G H.size)) hv9 (fun z u => z = k ∧ SM u a') st9  ⟨e6, h9⟩) (cwV 0 hts gL_law_X9_thrown rfl rfl rfl hd9_thrown ⟨Nat.le_of_ble_eq_true rfl, Nat.le_of_ble_eq_true rfl⟩) (LI_pre9 hG hLI hv9 []) rfl rfl hl.1 rfl (lv_room (Nat.le_of_ble_eq_true rfl)) dL_law_1470 ⟨by show cells + 2 + 0 ≤ 601024; omega, by show slots + 12 + 0 ≤ 7293034; omega⟩) hG hLI (fun zt st9 H locs ho9 hLI => ?_)
    obtain ⟨ez, h9⟩ := ho9
    subst ez
    refine lv_iload hx hb dL_law_1473 (lv_at hl 1 rfl) ?_
    refine lv_icmp_eq (tgt := 1480) hx hb dL_law_1475 (by decide) (fun _ => ?_) (fun n => absurd rfl n)
    refine lv_iload hx hb dL_law_1480 (lv_at hl 1 rfl) ?_
    refine lv_if_ne (tgt := 1497) hx hb dL_law_1482 (by decide) (fun _ => ?_) (fun e0 => ?_)
    · refine lv_goto (tgt := 2661) hx hb dL_law_1497 (by decide) ?_
      exact next _ _ _ _ _ _ _ _ hLI h8 h9 (lv_sub hl [2, 3, 4, 5, 6, 7] rfl)
    · have k0 : zt = 0 := by
        rw [iI_0, iI_eq (inI_s (by omega) (by omega)) inI_0] at e0
        exact e0
      obtain ⟨w9, hw9, ex⟩ := hv k0
      have ew := hone _ _ (hz9 k0) hw9
      subst ew
      subst ex
      refine lv_aload_n hx hb dL_law_1485 rfl (lv_at hl 5 rfl) ?_
      refine r_iconst (n := 0) hx hb dL_law_1486 ?_
      refine w_lald hx hb hG hLI dL_law_1487 ?_
      refine lv_iload hx hb dL_law_1488 (lv_at hl 0 rfl) ?_
      refine lv_i2l (v := cvI zb) hx hb dL_law_1490 rfl ?_
      refine w_lcmp_eq (tgt := 1497) hx hb dL_law_1491 dL_law_1492 (by decide) ?_
      refine lv_goto (tgt := 2661) hx hb dL_law_1497 (by decide) ?_
      exact next _ _ _ _ _ _ _ _ hLI h8 h9 (lv_sub hl [2, 3, 4, 5, 6, 7] rfl)
set_option maxHeartbeats 4000000 in
set_option maxRecDepth 100000 in
theorem law_c21 {p : Program} {l : Launch} {e : Env} {s : State} {m : MethodId} {below : List Frame} {meth : Method} {c : Code} {Q : State → Prop} {b L : Nat} {xs : Nat → Int32} {G : WG} {cD : ClassId} {qo qd : Nat} (hC : LawC l p s m c b L xs G cD qo qd) {i : Int} (hi0 : 0 ≤ i) (hi : i + 6 ≤ L) {st8 st9 : St} {a : Ab} {x : Int64} {y : UInt64} {H : Heap} {locs : List Loc} {cells slots : Nat} {ls : Array Slot} (hc : cells + 2 ≤ 601024) (hs : slots + 12 ≤ 7293034) (hLI : LI G cD qo qd s st8 st9 x y H locs) (h8 : SC st8 a) (h9 : SM st9 a) (hl : lv_has ls 10 [(0, .ref b), (1, .ref (G.2.2.1 8 0)), (2, .ref (G.2.2.1 9 0)), (3, .ref qo), (4, .ref qd), (5, .int (iI i))]) (next : ∀ (st8 st9 : St) (a : Ab) (x : Int64) (y : UInt64) (H : Heap) (locs : List Loc) (ls : Array Slot), LI G cD qo qd s st8 st9 x y H locs → SC st8 a → SM st9 a → lv_has ls 10 [(0, .ref b), (1, .ref (G.2.2.1 8 0)), (2, .ref (G.2.2.1 9 0)), (3, .ref qo), (4, .ref qd), (5, .int (iI i))] → W p l e room_1 s m #[Value.ref b] below meth c H locs (cells + 2) (slots + 12) Q (F0 m 2661 ls [])) : W p l e room_1 s m #[Value.ref b] below meth c H locs cells slots Q (F0 m 1500 ls []) := by
  obtain ⟨hx, hb, hml, hown, hts, hX, hbl, hG, hbA, hL9, hfl⟩ := hC
  have hv8 : vC 8 0 := ⟨by decide, by decide, by decide, by decide⟩
  have hv9 : vM 9 0 := ⟨Or.inl rfl, by decide, by decide⟩
  by_cases z2 : xv xs (i + 2) = 0
  · refine lv_aload_n hx hb dL_law_1500 rfl (lv_at hl 1 rfl) ?_
    refine lv_aload_n hx hb dL_law_1501 rfl (lv_at hl 0 rfl) ?_
    refine lv_iload hx hb dL_law_1502 (lv_at hl 5 rfl) ?_
    refine r_iconst (n := 1) hx hb dL_law_1504 ?_
    refine r_iadd hx hb dL_law_1505 ?_
    refine w_sld hx hb hX hbl hbA hL9 hLI (j := i + 1) (by omega) (by omega) dL_law_1506 ?_
    refine lv_aload_n hx hb dL_law_1507 rfl (lv_at hl 0 rfl) ?_
    refine lv_iload hx hb dL_law_1508 (lv_at hl 5 rfl) ?_
    refine r_iconst (n := 2) hx hb dL_law_1510 ?_
    refine r_iadd hx hb dL_law_1511 ?_
    refine w_sld hx hb hX hbl hbA hL9 hLI (j := i + 2) (by omega) (by omega) dL_law_1512 ?_
    refine r_if_eq (tgt := 1520) hx hb dL_law_1513 (by decide) (xv_I _ _) (fun _ => ?_) (fun n => absurd z2 n)
    refine r_iconst (n := 0) hx hb dL_law_1520 ?_
    refine lv_aload_n hx hb dL_law_1521 rfl (lv_at hl 3 rfl) ?_
    obtain ⟨k, P, a', hone, f8, f9⟩ := S_worstForMoment  h8 h9 (xv_I _ _) (inI_0)
    refine lc_s (vx_runSW (As := [.ref (G.2.2.1 8 0), .int (iI (xv xs (i + 1))), .int (iI 0), .ref qo]) (rest := []) ⟨hx, hb, hml, hown, hts⟩ (wL_worstForMoment l (wR G (ownA G H.size qo)) hfl qo (fun K i v => (hG.2.2.2.2.2.2.1 K i (Or.inl v)).1) st8 (xv xs (i + 1)) 0 k P a' f8) (vx_cwSW 4 hts gL_law_L_worstForMoment rfl rfl rfl (by decide +kernel) ⟨Nat.le_of_ble_eq_true rfl, Nat.le_of_ble_eq_true rfl⟩) (LI_preL hG hLI [.ref (G.2.2.1 8 0), .int (iI (xv xs (i + 1))), .int (iI 0), .ref qo]) rfl rfl hl.1 rfl (lv_room (Nat.le_of_ble_eq_true rfl)) dL_law_1522 ⟨by show cells + 1 ≤ 601024; omega, by show slots + 6 ≤ 7293034; omega⟩) hG hLI (fun st8 x H locs hk2 h8 hv hLI => ?_)
    refine W.widen (k := cells + 2) (n := slots + 12) (by omega) (by omega) ?_
    refine lv_istore (lv' := [(6, .int (iI k)), (0, .ref b), (1, .ref (G.2.2.1 8 0)), (2, .ref (G.2.2.1 9 0)), (3, .ref qo), (4, .ref qd), (5, .int (iI i))]) hx hb dL_law_1525 hl (by decide) rfl (fun ls hl => ?_)
    refine lv_aload_n hx hb dL_law_1527 rfl (lv_at hl 3 rfl) ?_
    refine lv_aload_n hx hb dL_law_1528 rfl (lv_at hl 1 rfl) ?_
    refine lv_iload hx hb dL_law_1529 (lv_at hl 6 rfl) ?_
    refine r_iconst (n := 1) hx hb dL_law_1531 ?_
    refine r_iadd hx hb dL_law_1532 ?_
    refine w_sld hx hb hX hbl hbA hL9 hLI (j := i + 1) (by omega) (by omega) dL_law_1533 ?_
    refine lv_aload_n hx hb dL_law_1534 rfl (lv_at hl 1 rfl) ?_
    refine lv_iload hx hb dL_law_1535 (lv_at hl 6 rfl) ?_
    refine r_iconst (n := 2) hx hb dL_law_1537 ?_
    refine r_iadd hx hb dL_law_1538 ?_
    refine w_sld hx hb hX hbl hbA hL9 hLI (j := i + 2) (by omega) (by omega) dL_law_1539 ?_
    refine r_if_eq (tgt := 1547) hx hb dL_law_1540 (by decide) (xv_I _ _) (fun _ => ?_) (fun n => absurd z2 n)
    refine r_iconst (n := 0) hx hb dL_law_1547 ?_
    refine lc_mi (va_runV (As := [.int (iI (xv xs (i + 1))), .int (iI 0)]) (rest := []) ⟨hx, hb, hml, hown, hts⟩ (m9_worstForMoment l (wR G (ownV vM G H.size)) hv9 _ st9 (xv xs (i + 1)) 0 f9) (cwV 2 hts gL_law_X9_worstForMoment rfl rfl rfl hd9_worstForMoment ⟨Nat.le_of_ble_eq_true rfl, Nat.le_of_ble_eq_true rfl⟩) (LI_pre9 hG hLI hv9 [.int (iI (xv xs (i + 1))), .int (iI 0)]) rfl rfl hl.1 rfl (lv_room (Nat.le_of_ble_eq_true rfl)) dL_law_1548 ⟨by show cells + 2 + 0 ≤ 601024; omega, by show slots + 12 + 0 ≤ 7293034; omega⟩) hG hLI (fun zb st9 H locs ho9 hLI => ?_)
    obtain ⟨hz9, e6, h9⟩ := ho9
    refine lv_istore (lv' := [(7, .int (iI zb)), (6, .int (iI k)), (0, .ref b), (1, .ref (G.2.2.1 8 0)), (2, .ref (G.2.2.1 9 0)), (3, .ref qo), (4, .ref qd), (5, .int (iI i))]) hx hb dL_law_1551 hl (by decide) rfl (fun ls hl => ?_)
    refine lv_aload_n hx hb dL_law_1553 rfl (lv_at hl 4 rfl) ?_
    refine lc_mi (va_runV (As := []) (rest := []) ⟨hx, hb, hml, hown, hts⟩ (m9_thrown l (wR G (ownV vM G H.size)) hv9 (fun z u => z = k ∧ SM u a') st9  ⟨e6, h9⟩) (cwV 0 hts gL_law_X9_thrown rfl rfl rfl hd9_thrown ⟨Nat.le_of_ble_eq_true rfl, Nat.le_of_ble_eq_true rfl⟩) (LI_pre9 hG hLI hv9 []) rfl rfl hl.1 rfl (lv_room (Nat.le_of_ble_eq_true rfl)) dL_law_1554 ⟨by show cells + 2 + 0 ≤ 601024; omega, by show slots + 12 + 0 ≤ 7293034; omega⟩) hG hLI (fun zt st9 H locs ho9 hLI => ?_)
    obtain ⟨ez, h9⟩ := ho9
    subst ez
    refine lv_iload hx hb dL_law_1557 (lv_at hl 1 rfl) ?_
    refine lv_icmp_eq (tgt := 1564) hx hb dL_law_1559 (by decide) (fun _ => ?_) (fun n => absurd rfl n)
    refine lv_iload hx hb dL_law_1564 (lv_at hl 1 rfl) ?_
    refine lv_if_ne (tgt := 1581) hx hb dL_law_1566 (by decide) (fun _ => ?_) (fun e0 => ?_)
    · refine lv_goto (tgt := 2661) hx hb dL_law_1581 (by decide) ?_
      exact next _ _ _ _ _ _ _ _ hLI h8 h9 (lv_sub hl [2, 3, 4, 5, 6, 7] rfl)
    · have k0 : zt = 0 := by
        rw [iI_0, iI_eq (inI_s (by omega) (by omega)) inI_0] at e0
        exact e0
      obtain ⟨w9, hw9, ex⟩ := hv k0
      have ew := hone _ _ (hz9 k0) hw9
      subst ew
      subst ex
      refine lv_aload_n hx hb dL_law_1569 rfl (lv_at hl 5 rfl) ?_
      refine r_iconst (n := 0) hx hb dL_law_1570 ?_
      refine w_lald hx hb hG hLI dL_law_1571 ?_
      refine lv_iload hx hb dL_law_1572 (lv_at hl 0 rfl) ?_
      refine lv_i2l (v := cvI zb) hx hb dL_law_1574 rfl ?_
      refine w_lcmp_eq (tgt := 1581) hx hb dL_law_1575 dL_law_1576 (by decide) ?_
      refine lv_goto (tgt := 2661) hx hb dL_law_1581 (by decide) ?_
      exact next _ _ _ _ _ _ _ _ hLI h8 h9 (lv_sub hl [2, 3, 4, 5, 6, 7] rfl)
  · refine lv_aload_n hx hb dL_law_1500 rfl (lv_at hl 1 rfl) ?_
    refine lv_aload_n hx hb dL_law_1501 rfl (lv_at hl 0 rfl) ?_
    refine lv_iload hx hb dL_law_1502 (lv_at hl 5 rfl) ?_
    refine r_iconst (n := 1) hx hb dL_law_1504 ?_
    refine r_iadd hx hb dL_law_1505 ?_
    refine w_sld hx hb hX hbl hbA hL9 hLI (j := i + 1) (by omega) (by omega) dL_law_1506 ?_
    refine lv_aload_n hx hb dL_law_1507 rfl (lv_at hl 0 rfl) ?_
    refine lv_iload hx hb dL_law_1508 (lv_at hl 5 rfl) ?_
    refine r_iconst (n := 2) hx hb dL_law_1510 ?_
    refine r_iadd hx hb dL_law_1511 ?_
    refine w_sld hx hb hX hbl hbA hL9 hLI (j := i + 2) (by omega) (by omega) dL_law_1512 ?_
    refine r_if_eq (tgt := 1520) hx hb dL_law_1513 (by decide) (xv_I _ _) (fun n => absurd n z2) (fun _ => ?_)
    refine r_iconst (n := 1) hx hb dL_law_1516 ?_
    refine lv_goto (tgt := 1521) hx hb dL_law_1517 (by decide) ?_
    refine lv_aload_n hx hb dL_law_1521 rfl (lv_at hl 3 rfl) ?_
    obtain ⟨k, P, a', hone, f8, f9⟩ := S_worstForMoment  h8 h9 (xv_I _ _) (inI_1)
    refine lc_s (vx_runSW (As := [.ref (G.2.2.1 8 0), .int (iI (xv xs (i + 1))), .int (iI 1), .ref qo]) (rest := []) ⟨hx, hb, hml, hown, hts⟩ (wL_worstForMoment l (wR G (ownA G H.size qo)) hfl qo (fun K i v => (hG.2.2.2.2.2.2.1 K i (Or.inl v)).1) st8 (xv xs (i + 1)) 1 k P a' f8) (vx_cwSW 4 hts gL_law_L_worstForMoment rfl rfl rfl (by decide +kernel) ⟨Nat.le_of_ble_eq_true rfl, Nat.le_of_ble_eq_true rfl⟩) (LI_preL hG hLI [.ref (G.2.2.1 8 0), .int (iI (xv xs (i + 1))), .int (iI 1), .ref qo]) rfl rfl hl.1 rfl (lv_room (Nat.le_of_ble_eq_true rfl)) dL_law_1522 ⟨by show cells + 1 ≤ 601024; omega, by show slots + 6 ≤ 7293034; omega⟩) hG hLI (fun st8 x H locs hk2 h8 hv hLI => ?_)
    refine W.widen (k := cells + 2) (n := slots + 12) (by omega) (by omega) ?_
    refine lv_istore (lv' := [(6, .int (iI k)), (0, .ref b), (1, .ref (G.2.2.1 8 0)), (2, .ref (G.2.2.1 9 0)), (3, .ref qo), (4, .ref qd), (5, .int (iI i))]) hx hb dL_law_1525 hl (by decide) rfl (fun ls hl => ?_)
    refine lv_aload_n hx hb dL_law_1527 rfl (lv_at hl 3 rfl) ?_
    refine lv_aload_n hx hb dL_law_1528 rfl (lv_at hl 1 rfl) ?_
    refine lv_iload hx hb dL_law_1529 (lv_at hl 6 rfl) ?_
    refine r_iconst (n := 1) hx hb dL_law_1531 ?_
    refine r_iadd hx hb dL_law_1532 ?_
    refine w_sld hx hb hX hbl hbA hL9 hLI (j := i + 1) (by omega) (by omega) dL_law_1533 ?_
    refine lv_aload_n hx hb dL_law_1534 rfl (lv_at hl 1 rfl) ?_
    refine lv_iload hx hb dL_law_1535 (lv_at hl 6 rfl) ?_
    refine r_iconst (n := 2) hx hb dL_law_1537 ?_
    refine r_iadd hx hb dL_law_1538 ?_
    refine w_sld hx hb hX hbl hbA hL9 hLI (j := i + 2) (by omega) (by omega) dL_law_1539 ?_
    refine r_if_eq (tgt := 1547) hx hb dL_law_1540 (by decide) (xv_I _ _) (fun n => absurd n z2) (fun _ => ?_)
    refine r_iconst (n := 1) hx hb dL_law_1543 ?_
    refine lv_goto (tgt := 1548) hx hb dL_law_1544 (by decide) ?_
    refine lc_mi (va_runV (As := [.int (iI (xv xs (i + 1))), .int (iI 1)]) (rest := []) ⟨hx, hb, hml, hown, hts⟩ (m9_worstForMoment l (wR G (ownV vM G H.size)) hv9 _ st9 (xv xs (i + 1)) 1 f9) (cwV 2 hts gL_law_X9_worstForMoment rfl rfl rfl hd9_worstForMoment ⟨Nat.le_of_ble_eq_true rfl, Nat.le_of_ble_eq_true rfl⟩) (LI_pre9 hG hLI hv9 [.int (iI (xv xs (i + 1))), .int (iI 1)]) rfl rfl hl.1 rfl (lv_room (Nat.le_of_ble_eq_true rfl)) dL_law_1548 ⟨by show cells + 2 + 0 ≤ 601024; omega, by show slots + 12 + 0 ≤ 7293034; omega⟩) hG hLI (fun zb st9 H locs ho9 hLI => ?_)
    obtain ⟨hz9, e6, h9⟩ := ho9
    refine lv_istore (lv' := [(7, .int (iI zb)), (6, .int (iI k)), (0, .ref b), (1, .ref (G.2.2.1 8 0)), (2, .ref (G.2.2.1 9 0)), (3, .ref qo), (4, .ref qd), (5, .int (iI i))]) hx hb dL_law_1551 hl (by decide) rfl (fun ls hl => ?_)
    refine lv_aload_n hx hb dL_law_1553 rfl (lv_at hl 4 rfl) ?_
    refine lc_mi (va_runV (As := []) (rest := []) ⟨hx, hb, hml, hown, hts⟩ (m9_thrown l (wR G (ownV vM G H.size)) hv9 (fun z u => z = k ∧ SM u a') st9  ⟨e6, h9⟩) (cwV 0 hts gL_law_X9_thrown rfl rfl rfl hd9_thrown ⟨Nat.le_of_ble_eq_true rfl, Nat.le_of_ble_eq_true rfl⟩) (LI_pre9 hG hLI hv9 []) rfl rfl hl.1 rfl (lv_room (Nat.le_of_ble_eq_true rfl)) dL_law_1554 ⟨by show cells + 2 + 0 ≤ 601024; omega, by show slots + 12 + 0 ≤ 7293034; omega⟩) hG hLI (fun zt st9 H locs ho9 hLI => ?_)
    obtain ⟨ez, h9⟩ := ho9
    subst ez
    refine lv_iload hx hb dL_law_1557 (lv_at hl 1 rfl) ?_
    refine lv_icmp_eq (tgt := 1564) hx hb dL_law_1559 (by decide) (fun _ => ?_) (fun n => absurd rfl n)
    refine lv_iload hx hb dL_law_1564 (lv_at hl 1 rfl) ?_
    refine lv_if_ne (tgt := 1581) hx hb dL_law_1566 (by decide) (fun _ => ?_) (fun e0 => ?_)
    · refine lv_goto (tgt := 2661) hx hb dL_law_1581 (by decide) ?_
      exact next _ _ _ _ _ _ _ _ hLI h8 h9 (lv_sub hl [2, 3, 4, 5, 6, 7] rfl)
    · have k0 : zt = 0 := by
        rw [iI_0, iI_eq (inI_s (by omega) (by omega)) inI_0] at e0
        exact e0
      obtain ⟨w9, hw9, ex⟩ := hv k0
      have ew := hone _ _ (hz9 k0) hw9
      subst ew
      subst ex
      refine lv_aload_n hx hb dL_law_1569 rfl (lv_at hl 5 rfl) ?_
      refine r_iconst (n := 0) hx hb dL_law_1570 ?_
      refine w_lald hx hb hG hLI dL_law_1571 ?_
      refine lv_iload hx hb dL_law_1572 (lv_at hl 0 rfl) ?_
      refine lv_i2l (v := cvI zb) hx hb dL_law_1574 rfl ?_
      refine w_lcmp_eq (tgt := 1581) hx hb dL_law_1575 dL_law_1576 (by decide) ?_
      refine lv_goto (tgt := 2661) hx hb dL_law_1581 (by decide) ?_
      exact next _ _ _ _ _ _ _ _ hLI h8 h9 (lv_sub hl [2, 3, 4, 5, 6, 7] rfl)
set_option maxHeartbeats 4000000 in
set_option maxRecDepth 100000 in
theorem law_c22 {p : Program} {l : Launch} {e : Env} {s : State} {m : MethodId} {below : List Frame} {meth : Method} {c : Code} {Q : State → Prop} {b L : Nat} {xs : Nat → Int32} {G : WG} {cD : ClassId} {qo qd : Nat} (hC : LawC l p s m c b L xs G cD qo qd) {i : Int} (hi0 : 0 ≤ i) (hi : i + 6 ≤ L) {st8 st9 : St} {a : Ab} {x : Int64} {y : UInt64} {H : Heap} {locs : List Loc} {cells slots : Nat} {ls : Array Slot} (hc : cells + 2 ≤ 601024) (hs : slots + 12 ≤ 7293034) (hLI : LI G cD qo qd s st8 st9 x y H locs) (h8 : SC st8 a) (h9 : SM st9 a) (hl : lv_has ls 10 [(0, .ref b), (1, .ref (G.2.2.1 8 0)), (2, .ref (G.2.2.1 9 0)), (3, .ref qo), (4, .ref qd), (5, .int (iI i))]) (next : ∀ (st8 st9 : St) (a : Ab) (x : Int64) (y : UInt64) (H : Heap) (locs : List Loc) (ls : Array Slot), LI G cD qo qd s st8 st9 x y H locs → SC st8 a → SM st9 a → lv_has ls 10 [(0, .ref b), (1, .ref (G.2.2.1 8 0)), (2, .ref (G.2.2.1 9 0)), (3, .ref qo), (4, .ref qd), (5, .int (iI i))] → W p l e room_1 s m #[Value.ref b] below meth c H locs (cells + 2) (slots + 12) Q (F0 m 2661 ls [])) : W p l e room_1 s m #[Value.ref b] below meth c H locs cells slots Q (F0 m 1584 ls []) := by
  obtain ⟨hx, hb, hml, hown, hts, hX, hbl, hG, hbA, hL9, hfl⟩ := hC
  have hv8 : vC 8 0 := ⟨by decide, by decide, by decide, by decide⟩
  have hv9 : vM 9 0 := ⟨Or.inl rfl, by decide, by decide⟩
  refine lv_aload_n hx hb dL_law_1584 rfl (lv_at hl 1 rfl) ?_
  obtain ⟨k, P, a', hone, f8, f9⟩ := S_worstSection  h8 h9 
  refine lc_ci (va_runV (As := []) (rest := []) ⟨hx, hb, hml, hown, hts⟩ (m8_worstSection l (wR G (ownV vC G H.size)) hv8 _ st8  f8) (cwV 0 hts gL_law_X8_worstSection rfl rfl rfl hd8_worstSection ⟨Nat.le_of_ble_eq_true rfl, Nat.le_of_ble_eq_true rfl⟩) (LI_pre8 hG hLI hv8 []) rfl rfl hl.1 rfl (lv_room (Nat.le_of_ble_eq_true rfl)) dL_law_1585 ⟨by show cells + 0 + 0 ≤ 601024; omega, by show slots + 0 + 0 ≤ 7293034; omega⟩) hG hLI (fun z8 st8 H locs ho8 hLI => ?_)
  obtain ⟨hk0, hP8, h8⟩ := ho8
  refine lv_aload_n hx hb dL_law_1588 rfl (lv_at hl 2 rfl) ?_
  refine lc_mi (va_runV (As := []) (rest := [.int (iI z8)]) ⟨hx, hb, hml, hown, hts⟩ (m9_worstSection l (wR G (ownV vM G H.size)) hv9 _ st9  f9) (cwV 0 hts gL_law_X9_worstSection rfl rfl rfl hd9_worstSection ⟨Nat.le_of_ble_eq_true rfl, Nat.le_of_ble_eq_true rfl⟩) (LI_pre9 hG hLI hv9 []) rfl rfl hl.1 rfl (lv_room (Nat.le_of_ble_eq_true rfl)) dL_law_1589 ⟨by show cells + 0 + 0 ≤ 601024; omega, by show slots + 0 + 0 ≤ 7293034; omega⟩) hG hLI (fun zb st9 H locs ho9 hLI => ?_)
  obtain ⟨hz9, -, h9⟩ := ho9
  have ez := hone _ _ hP8 (hz9 hk0)
  subst ez
  refine lv_icmp_eq (tgt := 2661) hx hb dL_law_1592 (by decide) (fun _ => ?_) (fun n => absurd rfl n)
  refine W.widen (k := cells + 2) (n := slots + 12) (by omega) (by omega) ?_
  exact next _ _ _ _ _ _ _ _ hLI h8 h9 (lv_sub hl [0, 1, 2, 3, 4, 5] rfl)
set_option maxHeartbeats 4000000 in
set_option maxRecDepth 100000 in
theorem law_c23 {p : Program} {l : Launch} {e : Env} {s : State} {m : MethodId} {below : List Frame} {meth : Method} {c : Code} {Q : State → Prop} {b L : Nat} {xs : Nat → Int32} {G : WG} {cD : ClassId} {qo qd : Nat} (hC : LawC l p s m c b L xs G cD qo qd) {i : Int} (hi0 : 0 ≤ i) (hi : i + 6 ≤ L) {st8 st9 : St} {a : Ab} {x : Int64} {y : UInt64} {H : Heap} {locs : List Loc} {cells slots : Nat} {ls : Array Slot} (hc : cells + 2 ≤ 601024) (hs : slots + 12 ≤ 7293034) (hLI : LI G cD qo qd s st8 st9 x y H locs) (h8 : SC st8 a) (h9 : SM st9 a) (hl : lv_has ls 10 [(0, .ref b), (1, .ref (G.2.2.1 8 0)), (2, .ref (G.2.2.1 9 0)), (3, .ref qo), (4, .ref qd), (5, .int (iI i))]) (next : ∀ (st8 st9 : St) (a : Ab) (x : Int64) (y : UInt64) (H : Heap) (locs : List Loc) (ls : Array Slot), LI G cD qo qd s st8 st9 x y H locs → SC st8 a → SM st9 a → lv_has ls 10 [(0, .ref b), (1, .ref (G.2.2.1 8 0)), (2, .ref (G.2.2.1 9 0)), (3, .ref qo), (4, .ref qd), (5, .int (iI i))] → W p l e room_1 s m #[Value.ref b] below meth c H locs (cells + 2) (slots + 12) Q (F0 m 2661 ls [])) : W p l e room_1 s m #[Value.ref b] below meth c H locs cells slots Q (F0 m 1597 ls []) := by
  obtain ⟨hx, hb, hml, hown, hts, hX, hbl, hG, hbA, hL9, hfl⟩ := hC
  have hv8 : vC 8 0 := ⟨by decide, by decide, by decide, by decide⟩
  have hv9 : vM 9 0 := ⟨Or.inl rfl, by decide, by decide⟩
  refine lv_aload_n hx hb dL_law_1597 rfl (lv_at hl 1 rfl) ?_
  refine lv_aload_n hx hb dL_law_1598 rfl (lv_at hl 0 rfl) ?_
  refine lv_iload hx hb dL_law_1599 (lv_at hl 5 rfl) ?_
  refine r_iconst (n := 1) hx hb dL_law_1601 ?_
  refine r_iadd hx hb dL_law_1602 ?_
  refine w_sld hx hb hX hbl hbA hL9 hLI (j := i + 1) (by omega) (by omega) dL_law_1603 ?_
  refine lv_aload_n hx hb dL_law_1604 rfl (lv_at hl 3 rfl) ?_
  obtain ⟨k, P, a', hone, f8, f9⟩ := S_danger  h8 h9 (xv_I _ _)
  refine lc_s (vx_runSW (As := [.ref (G.2.2.1 8 0), .int (iI (xv xs (i + 1))), .ref qo]) (rest := []) ⟨hx, hb, hml, hown, hts⟩ (wL_danger l (wR G (ownA G H.size qo)) hfl qo (fun K i v => (hG.2.2.2.2.2.2.1 K i (Or.inl v)).1) st8 (xv xs (i + 1)) k P a' f8) (vx_cwSW 3 hts gL_law_L_danger rfl rfl rfl (by decide +kernel) ⟨Nat.le_of_ble_eq_true rfl, Nat.le_of_ble_eq_true rfl⟩) (LI_preL hG hLI [.ref (G.2.2.1 8 0), .int (iI (xv xs (i + 1))), .ref qo]) rfl rfl hl.1 rfl (lv_room (Nat.le_of_ble_eq_true rfl)) dL_law_1605 ⟨by show cells + 1 ≤ 601024; omega, by show slots + 6 ≤ 7293034; omega⟩) hG hLI (fun st8 x H locs hk2 h8 hv hLI => ?_)
  refine W.widen (k := cells + 2) (n := slots + 12) (by omega) (by omega) ?_
  refine lv_istore (lv' := [(6, .int (iI k)), (0, .ref b), (1, .ref (G.2.2.1 8 0)), (2, .ref (G.2.2.1 9 0)), (3, .ref qo), (4, .ref qd), (5, .int (iI i))]) hx hb dL_law_1608 hl (by decide) rfl (fun ls hl => ?_)
  refine lv_aload_n hx hb dL_law_1610 rfl (lv_at hl 3 rfl) ?_
  refine lv_aload_n hx hb dL_law_1611 rfl (lv_at hl 1 rfl) ?_
  refine lv_iload hx hb dL_law_1612 (lv_at hl 6 rfl) ?_
  refine r_iconst (n := 1) hx hb dL_law_1614 ?_
  refine r_iadd hx hb dL_law_1615 ?_
  refine w_sld hx hb hX hbl hbA hL9 hLI (j := i + 1) (by omega) (by omega) dL_law_1616 ?_
  refine lc_mi (va_runV (As := [.int (iI (xv xs (i + 1)))]) (rest := []) ⟨hx, hb, hml, hown, hts⟩ (m9_danger l (wR G (ownV vM G H.size)) hv9 _ st9 (xv xs (i + 1)) f9) (cwV 1 hts gL_law_X9_danger rfl rfl rfl hd9_danger ⟨Nat.le_of_ble_eq_true rfl, Nat.le_of_ble_eq_true rfl⟩) (LI_pre9 hG hLI hv9 [.int (iI (xv xs (i + 1)))]) rfl rfl hl.1 rfl (lv_room (Nat.le_of_ble_eq_true rfl)) dL_law_1617 ⟨by show cells + 2 + 0 ≤ 601024; omega, by show slots + 12 + 0 ≤ 7293034; omega⟩) hG hLI (fun zb st9 H locs ho9 hLI => ?_)
  obtain ⟨hz9, e6, h9⟩ := ho9
  refine lv_istore (lv' := [(7, .int (iI zb)), (6, .int (iI k)), (0, .ref b), (1, .ref (G.2.2.1 8 0)), (2, .ref (G.2.2.1 9 0)), (3, .ref qo), (4, .ref qd), (5, .int (iI i))]) hx hb dL_law_1620 hl (by decide) rfl (fun ls hl => ?_)
  refine lv_aload_n hx hb dL_law_1622 rfl (lv_at hl 4 rfl) ?_
  refine lc_mi (va_runV (As := []) (rest := []) ⟨hx, hb, hml, hown, hts⟩ (m9_thrown l (wR G (ownV vM G H.size)) hv9 (fun z u => z = k ∧ SM u a') st9  ⟨e6, h9⟩) (cwV 0 hts gL_law_X9_thrown rfl rfl rfl hd9_thrown ⟨Nat.le_of_ble_eq_true rfl, Nat.le_of_ble_eq_true rfl⟩) (LI_pre9 hG hLI hv9 []) rfl rfl hl.1 rfl (lv_room (Nat.le_of_ble_eq_true rfl)) dL_law_1623 ⟨by show cells + 2 + 0 ≤ 601024; omega, by show slots + 12 + 0 ≤ 7293034; omega⟩) hG hLI (fun zt st9 H locs ho9 hLI => ?_)
  obtain ⟨ez, h9⟩ := ho9
  subst ez
  refine lv_iload hx hb dL_law_1626 (lv_at hl 1 rfl) ?_
  refine lv_icmp_eq (tgt := 1633) hx hb dL_law_1628 (by decide) (fun _ => ?_) (fun n => absurd rfl n)
  refine lv_iload hx hb dL_law_1633 (lv_at hl 1 rfl) ?_
  refine lv_if_ne (tgt := 1650) hx hb dL_law_1635 (by decide) (fun _ => ?_) (fun e0 => ?_)
  · refine lv_goto (tgt := 2661) hx hb dL_law_1650 (by decide) ?_
    exact next _ _ _ _ _ _ _ _ hLI h8 h9 (lv_sub hl [2, 3, 4, 5, 6, 7] rfl)
  · have k0 : zt = 0 := by
      rw [iI_0, iI_eq (inI_s (by omega) (by omega)) inI_0] at e0
      exact e0
    obtain ⟨w9, hw9, ex⟩ := hv k0
    have ew := hone _ _ (hz9 k0) hw9
    subst ew
    subst ex
    refine lv_aload_n hx hb dL_law_1638 rfl (lv_at hl 5 rfl) ?_
    refine r_iconst (n := 0) hx hb dL_law_1639 ?_
    refine w_lald hx hb hG hLI dL_law_1640 ?_
    refine lv_iload hx hb dL_law_1641 (lv_at hl 0 rfl) ?_
    refine lv_i2l (v := cvI zb) hx hb dL_law_1643 rfl ?_
    refine w_lcmp_eq (tgt := 1650) hx hb dL_law_1644 dL_law_1645 (by decide) ?_
    refine lv_goto (tgt := 2661) hx hb dL_law_1650 (by decide) ?_
    exact next _ _ _ _ _ _ _ _ hLI h8 h9 (lv_sub hl [2, 3, 4, 5, 6, 7] rfl)
set_option maxHeartbeats 4000000 in
set_option maxRecDepth 100000 in
theorem law_c24 {p : Program} {l : Launch} {e : Env} {s : State} {m : MethodId} {below : List Frame} {meth : Method} {c : Code} {Q : State → Prop} {b L : Nat} {xs : Nat → Int32} {G : WG} {cD : ClassId} {qo qd : Nat} (hC : LawC l p s m c b L xs G cD qo qd) {i : Int} (hi0 : 0 ≤ i) (hi : i + 6 ≤ L) {st8 st9 : St} {a : Ab} {x : Int64} {y : UInt64} {H : Heap} {locs : List Loc} {cells slots : Nat} {ls : Array Slot} (hc : cells + 2 ≤ 601024) (hs : slots + 12 ≤ 7293034) (hLI : LI G cD qo qd s st8 st9 x y H locs) (h8 : SC st8 a) (h9 : SM st9 a) (hl : lv_has ls 10 [(0, .ref b), (1, .ref (G.2.2.1 8 0)), (2, .ref (G.2.2.1 9 0)), (3, .ref qo), (4, .ref qd), (5, .int (iI i))]) (next : ∀ (st8 st9 : St) (a : Ab) (x : Int64) (y : UInt64) (H : Heap) (locs : List Loc) (ls : Array Slot), LI G cD qo qd s st8 st9 x y H locs → SC st8 a → SM st9 a → lv_has ls 10 [(0, .ref b), (1, .ref (G.2.2.1 8 0)), (2, .ref (G.2.2.1 9 0)), (3, .ref qo), (4, .ref qd), (5, .int (iI i))] → W p l e room_1 s m #[Value.ref b] below meth c H locs (cells + 2) (slots + 12) Q (F0 m 2661 ls [])) : W p l e room_1 s m #[Value.ref b] below meth c H locs cells slots Q (F0 m 1653 ls []) := by
  obtain ⟨hx, hb, hml, hown, hts, hX, hbl, hG, hbA, hL9, hfl⟩ := hC
  have hv8 : vC 8 0 := ⟨by decide, by decide, by decide, by decide⟩
  have hv9 : vM 9 0 := ⟨Or.inl rfl, by decide, by decide⟩
  refine lv_aload_n hx hb dL_law_1653 rfl (lv_at hl 1 rfl) ?_
  obtain ⟨k, P, a', hone, f8, f9⟩ := S_firstDanger  h8 h9 
  refine lc_ci (va_runV (As := []) (rest := []) ⟨hx, hb, hml, hown, hts⟩ (m8_firstDanger l (wR G (ownV vC G H.size)) hv8 _ st8  f8) (cwV 0 hts gL_law_X8_firstDanger rfl rfl rfl hd8_firstDanger ⟨Nat.le_of_ble_eq_true rfl, Nat.le_of_ble_eq_true rfl⟩) (LI_pre8 hG hLI hv8 []) rfl rfl hl.1 rfl (lv_room (Nat.le_of_ble_eq_true rfl)) dL_law_1654 ⟨by show cells + 0 + 0 ≤ 601024; omega, by show slots + 0 + 0 ≤ 7293034; omega⟩) hG hLI (fun z8 st8 H locs ho8 hLI => ?_)
  obtain ⟨hk0, hP8, h8⟩ := ho8
  refine lv_aload_n hx hb dL_law_1657 rfl (lv_at hl 2 rfl) ?_
  refine lc_mi (va_runV (As := []) (rest := [.int (iI z8)]) ⟨hx, hb, hml, hown, hts⟩ (m9_firstDanger l (wR G (ownV vM G H.size)) hv9 _ st9  f9) (cwV 0 hts gL_law_X9_firstDanger rfl rfl rfl hd9_firstDanger ⟨Nat.le_of_ble_eq_true rfl, Nat.le_of_ble_eq_true rfl⟩) (LI_pre9 hG hLI hv9 []) rfl rfl hl.1 rfl (lv_room (Nat.le_of_ble_eq_true rfl)) dL_law_1658 ⟨by show cells + 0 + 0 ≤ 601024; omega, by show slots + 0 + 0 ≤ 7293034; omega⟩) hG hLI (fun zb st9 H locs ho9 hLI => ?_)
  obtain ⟨hz9, -, h9⟩ := ho9
  have ez := hone _ _ hP8 (hz9 hk0)
  subst ez
  refine lv_icmp_eq (tgt := 2661) hx hb dL_law_1661 (by decide) (fun _ => ?_) (fun n => absurd rfl n)
  refine W.widen (k := cells + 2) (n := slots + 12) (by omega) (by omega) ?_
  exact next _ _ _ _ _ _ _ _ hLI h8 h9 (lv_sub hl [0, 1, 2, 3, 4, 5] rfl)
set_option maxHeartbeats 4000000 in
set_option maxRecDepth 100000 in
theorem law_c25 {p : Program} {l : Launch} {e : Env} {s : State} {m : MethodId} {below : List Frame} {meth : Method} {c : Code} {Q : State → Prop} {b L : Nat} {xs : Nat → Int32} {G : WG} {cD : ClassId} {qo qd : Nat} (hC : LawC l p s m c b L xs G cD qo qd) {i : Int} (hi0 : 0 ≤ i) (hi : i + 6 ≤ L) {st8 st9 : St} {a : Ab} {x : Int64} {y : UInt64} {H : Heap} {locs : List Loc} {cells slots : Nat} {ls : Array Slot} (hc : cells + 2 ≤ 601024) (hs : slots + 12 ≤ 7293034) (hLI : LI G cD qo qd s st8 st9 x y H locs) (h8 : SC st8 a) (h9 : SM st9 a) (hl : lv_has ls 10 [(0, .ref b), (1, .ref (G.2.2.1 8 0)), (2, .ref (G.2.2.1 9 0)), (3, .ref qo), (4, .ref qd), (5, .int (iI i))]) (next : ∀ (st8 st9 : St) (a : Ab) (x : Int64) (y : UInt64) (H : Heap) (locs : List Loc) (ls : Array Slot), LI G cD qo qd s st8 st9 x y H locs → SC st8 a → SM st9 a → lv_has ls 10 [(0, .ref b), (1, .ref (G.2.2.1 8 0)), (2, .ref (G.2.2.1 9 0)), (3, .ref qo), (4, .ref qd), (5, .int (iI i))] → W p l e room_1 s m #[Value.ref b] below meth c H locs (cells + 2) (slots + 12) Q (F0 m 2661 ls [])) : W p l e room_1 s m #[Value.ref b] below meth c H locs cells slots Q (F0 m 1666 ls []) := by
  obtain ⟨hx, hb, hml, hown, hts, hX, hbl, hG, hbA, hL9, hfl⟩ := hC
  have hv8 : vC 8 0 := ⟨by decide, by decide, by decide, by decide⟩
  have hv9 : vM 9 0 := ⟨Or.inl rfl, by decide, by decide⟩
  refine lv_aload_n hx hb dL_law_1666 rfl (lv_at hl 1 rfl) ?_
  obtain ⟨k, P, a', hone, f8, f9⟩ := S_lifting  h8 h9 
  refine lc_ci (va_runV (As := []) (rest := []) ⟨hx, hb, hml, hown, hts⟩ (m8_lifting l (wR G (ownV vC G H.size)) hv8 _ st8  f8) (cwV 0 hts gL_law_X8_lifting rfl rfl rfl hd8_lifting ⟨Nat.le_of_ble_eq_true rfl, Nat.le_of_ble_eq_true rfl⟩) (LI_pre8 hG hLI hv8 []) rfl rfl hl.1 rfl (lv_room (Nat.le_of_ble_eq_true rfl)) dL_law_1667 ⟨by show cells + 0 + 0 ≤ 601024; omega, by show slots + 0 + 0 ≤ 7293034; omega⟩) hG hLI (fun z8 st8 H locs ho8 hLI => ?_)
  obtain ⟨hk0, hP8, h8⟩ := ho8
  refine lv_aload_n hx hb dL_law_1670 rfl (lv_at hl 2 rfl) ?_
  refine lc_mi (va_runV (As := []) (rest := [.int (iI z8)]) ⟨hx, hb, hml, hown, hts⟩ (m9_lifting l (wR G (ownV vM G H.size)) hv9 _ st9  f9) (cwV 0 hts gL_law_X9_lifting rfl rfl rfl hd9_lifting ⟨Nat.le_of_ble_eq_true rfl, Nat.le_of_ble_eq_true rfl⟩) (LI_pre9 hG hLI hv9 []) rfl rfl hl.1 rfl (lv_room (Nat.le_of_ble_eq_true rfl)) dL_law_1671 ⟨by show cells + 0 + 0 ≤ 601024; omega, by show slots + 0 + 0 ≤ 7293034; omega⟩) hG hLI (fun zb st9 H locs ho9 hLI => ?_)
  obtain ⟨hz9, -, h9⟩ := ho9
  have ez := hone _ _ hP8 (hz9 hk0)
  subst ez
  refine lv_icmp_eq (tgt := 2661) hx hb dL_law_1674 (by decide) (fun _ => ?_) (fun n => absurd rfl n)
  refine W.widen (k := cells + 2) (n := slots + 12) (by omega) (by omega) ?_
  exact next _ _ _ _ _ _ _ _ hLI h8 h9 (lv_sub hl [0, 1, 2, 3, 4, 5] rfl)
set_option maxHeartbeats 4000000 in
set_option maxRecDepth 100000 in
theorem law_c26 {p : Program} {l : Launch} {e : Env} {s : State} {m : MethodId} {below : List Frame} {meth : Method} {c : Code} {Q : State → Prop} {b L : Nat} {xs : Nat → Int32} {G : WG} {cD : ClassId} {qo qd : Nat} (hC : LawC l p s m c b L xs G cD qo qd) {i : Int} (hi0 : 0 ≤ i) (hi : i + 6 ≤ L) {st8 st9 : St} {a : Ab} {x : Int64} {y : UInt64} {H : Heap} {locs : List Loc} {cells slots : Nat} {ls : Array Slot} (hc : cells + 2 ≤ 601024) (hs : slots + 12 ≤ 7293034) (hLI : LI G cD qo qd s st8 st9 x y H locs) (h8 : SC st8 a) (h9 : SM st9 a) (hl : lv_has ls 10 [(0, .ref b), (1, .ref (G.2.2.1 8 0)), (2, .ref (G.2.2.1 9 0)), (3, .ref qo), (4, .ref qd), (5, .int (iI i))]) (next : ∀ (st8 st9 : St) (a : Ab) (x : Int64) (y : UInt64) (H : Heap) (locs : List Loc) (ls : Array Slot), LI G cD qo qd s st8 st9 x y H locs → SC st8 a → SM st9 a → lv_has ls 10 [(0, .ref b), (1, .ref (G.2.2.1 8 0)), (2, .ref (G.2.2.1 9 0)), (3, .ref qo), (4, .ref qd), (5, .int (iI i))] → W p l e room_1 s m #[Value.ref b] below meth c H locs (cells + 2) (slots + 12) Q (F0 m 2661 ls [])) : W p l e room_1 s m #[Value.ref b] below meth c H locs cells slots Q (F0 m 1679 ls []) := by
  obtain ⟨hx, hb, hml, hown, hts, hX, hbl, hG, hbA, hL9, hfl⟩ := hC
  have hv8 : vC 8 0 := ⟨by decide, by decide, by decide, by decide⟩
  have hv9 : vM 9 0 := ⟨Or.inl rfl, by decide, by decide⟩
  refine lv_aload_n hx hb dL_law_1679 rfl (lv_at hl 1 rfl) ?_
  refine lv_aload_n hx hb dL_law_1680 rfl (lv_at hl 0 rfl) ?_
  refine lv_iload hx hb dL_law_1681 (lv_at hl 5 rfl) ?_
  refine r_iconst (n := 1) hx hb dL_law_1683 ?_
  refine r_iadd hx hb dL_law_1684 ?_
  refine w_sld hx hb hX hbl hbA hL9 hLI (j := i + 1) (by omega) (by omega) dL_law_1685 ?_
  refine lv_aload_n hx hb dL_law_1686 rfl (lv_at hl 0 rfl) ?_
  refine lv_iload hx hb dL_law_1687 (lv_at hl 5 rfl) ?_
  refine r_iconst (n := 2) hx hb dL_law_1689 ?_
  refine r_iadd hx hb dL_law_1690 ?_
  refine w_sld hx hb hX hbl hbA hL9 hLI (j := i + 2) (by omega) (by omega) dL_law_1691 ?_
  refine lv_aload hx hb dL_law_1692 (lv_at hl 4 rfl) ?_
  obtain ⟨k, v, a', f8, f9⟩ := S_share h8 h9 (xv_I _ _) (xv_I _ _)
  refine lc_sd (vx_runSW (As := [.ref (G.2.2.1 8 0), .int (iI (xv xs (i + 1))), .int (iI (xv xs (i + 2))), .ref qd]) (rest := []) ⟨hx, hb, hml, hown, hts⟩ (wL_share l (wR G (ownA G H.size qd)) hfl cD qd (fun K i v => (hG.2.2.2.2.2.2.1 K i (Or.inl v)).2) st8 (xv xs (i + 1)) (xv xs (i + 2)) k v a' f8) (vx_cwSW 4 hts gL_law_L_share rfl rfl rfl (by decide +kernel) ⟨Nat.le_of_ble_eq_true rfl, Nat.le_of_ble_eq_true rfl⟩) (LI_preD hG hLI [.ref (G.2.2.1 8 0), .int (iI (xv xs (i + 1))), .int (iI (xv xs (i + 2))), .ref qd]) rfl rfl hl.1 rfl (lv_room (Nat.le_of_ble_eq_true rfl)) dL_law_1694 ⟨by show cells + 2 ≤ 601024; omega, by show slots + 12 ≤ 7293034; omega⟩) hG hLI (fun st8 y H locs hk2 h8 hv hLI => ?_)
  refine W.widen (k := cells + 2) (n := slots + 12) (by omega) (by omega) ?_
  refine lv_istore (lv' := [(6, .int (iI k)), (0, .ref b), (1, .ref (G.2.2.1 8 0)), (2, .ref (G.2.2.1 9 0)), (3, .ref qo), (4, .ref qd), (5, .int (iI i))]) hx hb dL_law_1697 hl (by decide) rfl (fun ls hl => ?_)
  refine lv_aload_n hx hb dL_law_1699 rfl (lv_at hl 3 rfl) ?_
  refine lv_aload_n hx hb dL_law_1700 rfl (lv_at hl 1 rfl) ?_
  refine lv_iload hx hb dL_law_1701 (lv_at hl 6 rfl) ?_
  refine r_iconst (n := 1) hx hb dL_law_1703 ?_
  refine r_iadd hx hb dL_law_1704 ?_
  refine w_sld hx hb hX hbl hbA hL9 hLI (j := i + 1) (by omega) (by omega) dL_law_1705 ?_
  refine lv_aload_n hx hb dL_law_1706 rfl (lv_at hl 1 rfl) ?_
  refine lv_iload hx hb dL_law_1707 (lv_at hl 6 rfl) ?_
  refine r_iconst (n := 2) hx hb dL_law_1709 ?_
  refine r_iadd hx hb dL_law_1710 ?_
  refine w_sld hx hb hX hbl hbA hL9 hLI (j := i + 2) (by omega) (by omega) dL_law_1711 ?_
  refine lc_md (va_runV (As := [.int (iI (xv xs (i + 1))), .int (iI (xv xs (i + 2)))]) (rest := []) ⟨hx, hb, hml, hown, hts⟩ (m9_share l (wR G (ownV vM G H.size)) hv9 _ st9 (xv xs (i + 1)) (xv xs (i + 2)) f9) (cwV 2 hts gL_law_X9_share rfl rfl rfl hd9_share ⟨Nat.le_of_ble_eq_true rfl, Nat.le_of_ble_eq_true rfl⟩) (LI_pre9 hG hLI hv9 [.int (iI (xv xs (i + 1))), .int (iI (xv xs (i + 2)))]) rfl rfl hl.1 rfl (lv_room (Nat.le_of_ble_eq_true rfl)) dL_law_1712 ⟨by show cells + 2 + 0 ≤ 601024; omega, by show slots + 12 + 0 ≤ 7293034; omega⟩) hG hLI (fun zb st9 H locs ho9 hLI => ?_)
  obtain ⟨hz9, e6, h9⟩ := ho9
  refine lv_dstore (lv' := [(7, .double zb), (6, .int (iI k)), (0, .ref b), (1, .ref (G.2.2.1 8 0)), (2, .ref (G.2.2.1 9 0)), (3, .ref qo), (4, .ref qd), (5, .int (iI i))]) hx hb dL_law_1715 hl (by decide) rfl (fun ls hl => ?_)
  refine lv_aload_n hx hb dL_law_1717 rfl (lv_at hl 4 rfl) ?_
  refine lc_mi (va_runV (As := []) (rest := []) ⟨hx, hb, hml, hown, hts⟩ (m9_thrown l (wR G (ownV vM G H.size)) hv9 (fun z u => z = k ∧ SM u a') st9  ⟨e6, h9⟩) (cwV 0 hts gL_law_X9_thrown rfl rfl rfl hd9_thrown ⟨Nat.le_of_ble_eq_true rfl, Nat.le_of_ble_eq_true rfl⟩) (LI_pre9 hG hLI hv9 []) rfl rfl hl.1 rfl (lv_room (Nat.le_of_ble_eq_true rfl)) dL_law_1718 ⟨by show cells + 2 + 0 ≤ 601024; omega, by show slots + 12 + 0 ≤ 7293034; omega⟩) hG hLI (fun zt st9 H locs ho9 hLI => ?_)
  obtain ⟨ez, h9⟩ := ho9
  subst ez
  refine lv_iload hx hb dL_law_1721 (lv_at hl 1 rfl) ?_
  refine lv_icmp_eq (tgt := 1728) hx hb dL_law_1723 (by decide) (fun _ => ?_) (fun n => absurd rfl n)
  refine lv_iload hx hb dL_law_1728 (lv_at hl 1 rfl) ?_
  refine lv_if_ne (tgt := 1765) hx hb dL_law_1730 (by decide) (fun _ => ?_) (fun e0 => ?_)
  · refine lv_goto (tgt := 2661) hx hb dL_law_1765 (by decide) ?_
    exact next _ _ _ _ _ _ _ _ hLI h8 h9 (lv_sub hl [2, 3, 4, 5, 6, 7] rfl)
  · have k0 : zt = 0 := by
      rw [iI_0, iI_eq (inI_s (by omega) (by omega)) inI_0] at e0
      exact e0
    have ey := (hv k0).trans (hz9 k0).symm
    subst ey
    refine lv_aload hx hb dL_law_1733 (lv_at hl 6 rfl) ?_
    refine r_iconst (n := 0) hx hb dL_law_1735 ?_
    refine w_dald hx hb hG hLI dL_law_1736 ?_
    refine lv_dload hx hb dL_law_1737 (lv_at hl 0 rfl) ?_
    refine w_dcmp_eq (tgt := 1765) hx hb dL_law_1739 dL_law_1740 (by decide) (fun _ => ?_) (fun nq => ?_)
    · refine lv_goto (tgt := 2661) hx hb dL_law_1765 (by decide) ?_
      exact next _ _ _ _ _ _ _ _ hLI h8 h9 (lv_sub hl [2, 3, 4, 5, 6, 7] rfl)
    · refine lv_aload hx hb dL_law_1743 (lv_at hl 6 rfl) ?_
      refine r_iconst (n := 0) hx hb dL_law_1745 ?_
      refine w_dald hx hb hG hLI dL_law_1746 ?_
      refine lv_aload hx hb dL_law_1747 (lv_at hl 6 rfl) ?_
      refine r_iconst (n := 0) hx hb dL_law_1749 ?_
      refine w_dald hx hb hG hLI dL_law_1750 ?_
      refine w_dcmp_eq (tgt := 1763) hx hb dL_law_1751 dL_law_1752 (by decide) (fun q9 => absurd q9 nq) (fun _ => ?_)
      refine lv_dload hx hb dL_law_1755 (lv_at hl 0 rfl) ?_
      refine lv_dload hx hb dL_law_1757 (lv_at hl 0 rfl) ?_
      refine w_dcmp_ne (tgt := 1765) hx hb dL_law_1759 dL_law_1760 (by decide) (fun _ => ?_) (fun q9 => absurd q9 nq)
      refine lv_goto (tgt := 2661) hx hb dL_law_1765 (by decide) ?_
      exact next _ _ _ _ _ _ _ _ hLI h8 h9 (lv_sub hl [2, 3, 4, 5, 6, 7] rfl)
set_option maxHeartbeats 4000000 in
set_option maxRecDepth 100000 in
theorem law_c27 {p : Program} {l : Launch} {e : Env} {s : State} {m : MethodId} {below : List Frame} {meth : Method} {c : Code} {Q : State → Prop} {b L : Nat} {xs : Nat → Int32} {G : WG} {cD : ClassId} {qo qd : Nat} (hC : LawC l p s m c b L xs G cD qo qd) {i : Int} (hi0 : 0 ≤ i) (hi : i + 6 ≤ L) {st8 st9 : St} {a : Ab} {x : Int64} {y : UInt64} {H : Heap} {locs : List Loc} {cells slots : Nat} {ls : Array Slot} (hc : cells + 2 ≤ 601024) (hs : slots + 12 ≤ 7293034) (hLI : LI G cD qo qd s st8 st9 x y H locs) (h8 : SC st8 a) (h9 : SM st9 a) (hl : lv_has ls 10 [(0, .ref b), (1, .ref (G.2.2.1 8 0)), (2, .ref (G.2.2.1 9 0)), (3, .ref qo), (4, .ref qd), (5, .int (iI i))]) (next : ∀ (st8 st9 : St) (a : Ab) (x : Int64) (y : UInt64) (H : Heap) (locs : List Loc) (ls : Array Slot), LI G cD qo qd s st8 st9 x y H locs → SC st8 a → SM st9 a → lv_has ls 10 [(0, .ref b), (1, .ref (G.2.2.1 8 0)), (2, .ref (G.2.2.1 9 0)), (3, .ref qo), (4, .ref qd), (5, .int (iI i))] → W p l e room_1 s m #[Value.ref b] below meth c H locs (cells + 2) (slots + 12) Q (F0 m 2661 ls [])) : W p l e room_1 s m #[Value.ref b] below meth c H locs cells slots Q (F0 m 1768 ls []) := by
  obtain ⟨hx, hb, hml, hown, hts, hX, hbl, hG, hbA, hL9, hfl⟩ := hC
  have hv8 : vC 8 0 := ⟨by decide, by decide, by decide, by decide⟩
  have hv9 : vM 9 0 := ⟨Or.inl rfl, by decide, by decide⟩
  refine lv_aload_n hx hb dL_law_1768 rfl (lv_at hl 1 rfl) ?_
  obtain ⟨v, a', hnn, f8, f9⟩ := S_used2 h8 h9
  refine lc_cf (va_runV (As := []) (rest := []) ⟨hx, hb, hml, hown, hts⟩ (m8_used l (wR G (ownV vC G H.size)) hv8 _ st8  f8) (cwV 0 hts gL_law_X8_used rfl rfl rfl hd8_used ⟨Nat.le_of_ble_eq_true rfl, Nat.le_of_ble_eq_true rfl⟩) (LI_pre8 hG hLI hv8 []) rfl rfl hl.1 rfl (lv_room (Nat.le_of_ble_eq_true rfl)) dL_law_1769 ⟨by show cells + 0 + 0 ≤ 601024; omega, by show slots + 0 + 0 ≤ 7293034; omega⟩) hG hLI (fun z8 st8 H locs ho8 hLI => ?_)
  obtain ⟨-, ez, h8⟩ := ho8
  subst ez
  refine lv_f2d hx hb dL_law_1772 hnn ?_
  refine lv_dstore (lv' := [(6, .double (FP.f2d z8)), (0, .ref b), (1, .ref (G.2.2.1 8 0)), (2, .ref (G.2.2.1 9 0)), (3, .ref qo), (4, .ref qd), (5, .int (iI i))]) hx hb dL_law_1773 hl (by decide) rfl (fun ls hl => ?_)
  refine lv_aload_n hx hb dL_law_1775 rfl (lv_at hl 3 rfl) ?_
  refine lc_mf (va_runV (As := []) (rest := []) ⟨hx, hb, hml, hown, hts⟩ (m9_used l (wR G (ownV vM G H.size)) hv9 _ st9  f9) (cwV 0 hts gL_law_X9_used rfl rfl rfl hd9_used ⟨Nat.le_of_ble_eq_true rfl, Nat.le_of_ble_eq_true rfl⟩) (LI_pre9 hG hLI hv9 []) rfl rfl hl.1 rfl (lv_room (Nat.le_of_ble_eq_true rfl)) dL_law_1776 ⟨by show cells + 0 + 0 ≤ 601024; omega, by show slots + 0 + 0 ≤ 7293034; omega⟩) hG hLI (fun zb st9 H locs ho9 hLI => ?_)
  obtain ⟨hz9, -, h9⟩ := ho9
  have hz9 := (hz9 rfl).symm
  subst hz9
  refine lv_f2d hx hb dL_law_1779 hnn ?_
  refine lv_dstore (lv' := [(8, .double (FP.f2d z8)), (6, .double (FP.f2d z8)), (0, .ref b), (1, .ref (G.2.2.1 8 0)), (2, .ref (G.2.2.1 9 0)), (3, .ref qo), (4, .ref qd), (5, .int (iI i))]) hx hb dL_law_1780 hl (by decide) rfl (fun ls hl => ?_)
  refine lv_dload hx hb dL_law_1782 (lv_at hl 1 rfl) ?_
  refine lv_dload hx hb dL_law_1784 (lv_at hl 0 rfl) ?_
  refine w_dcmp_eq (tgt := 1808) hx hb dL_law_1786 dL_law_1787 (by decide) (fun _ => ?_) (fun nq => ?_)
  · refine lv_goto (tgt := 2661) hx hb dL_law_1808 (by decide) ?_
    refine W.widen (k := cells + 2) (n := slots + 12) (by omega) (by omega) ?_
    exact next _ _ _ _ _ _ _ _ hLI h8 h9 (lv_sub hl [2, 3, 4, 5, 6, 7] rfl)
  · refine lv_dload hx hb dL_law_1790 (lv_at hl 1 rfl) ?_
    refine lv_dload hx hb dL_law_1792 (lv_at hl 1 rfl) ?_
    refine w_dcmp_eq (tgt := 1806) hx hb dL_law_1794 dL_law_1795 (by decide) (fun q9 => absurd q9 nq) (fun _ => ?_)
    refine lv_dload hx hb dL_law_1798 (lv_at hl 0 rfl) ?_
    refine lv_dload hx hb dL_law_1800 (lv_at hl 0 rfl) ?_
    refine w_dcmp_ne (tgt := 1808) hx hb dL_law_1802 dL_law_1803 (by decide) (fun _ => ?_) (fun q9 => absurd q9 nq)
    refine lv_goto (tgt := 2661) hx hb dL_law_1808 (by decide) ?_
    refine W.widen (k := cells + 2) (n := slots + 12) (by omega) (by omega) ?_
    exact next _ _ _ _ _ _ _ _ hLI h8 h9 (lv_sub hl [2, 3, 4, 5, 6, 7] rfl)
set_option maxHeartbeats 4000000 in
set_option maxRecDepth 100000 in
theorem law_c28 {p : Program} {l : Launch} {e : Env} {s : State} {m : MethodId} {below : List Frame} {meth : Method} {c : Code} {Q : State → Prop} {b L : Nat} {xs : Nat → Int32} {G : WG} {cD : ClassId} {qo qd : Nat} (hC : LawC l p s m c b L xs G cD qo qd) {i : Int} (hi0 : 0 ≤ i) (hi : i + 6 ≤ L) {st8 st9 : St} {a : Ab} {x : Int64} {y : UInt64} {H : Heap} {locs : List Loc} {cells slots : Nat} {ls : Array Slot} (hc : cells + 2 ≤ 601024) (hs : slots + 12 ≤ 7293034) (hLI : LI G cD qo qd s st8 st9 x y H locs) (h8 : SC st8 a) (h9 : SM st9 a) (hl : lv_has ls 10 [(0, .ref b), (1, .ref (G.2.2.1 8 0)), (2, .ref (G.2.2.1 9 0)), (3, .ref qo), (4, .ref qd), (5, .int (iI i))]) (next : ∀ (st8 st9 : St) (a : Ab) (x : Int64) (y : UInt64) (H : Heap) (locs : List Loc) (ls : Array Slot), LI G cD qo qd s st8 st9 x y H locs → SC st8 a → SM st9 a → lv_has ls 10 [(0, .ref b), (1, .ref (G.2.2.1 8 0)), (2, .ref (G.2.2.1 9 0)), (3, .ref qo), (4, .ref qd), (5, .int (iI i))] → W p l e room_1 s m #[Value.ref b] below meth c H locs (cells + 2) (slots + 12) Q (F0 m 2661 ls [])) : W p l e room_1 s m #[Value.ref b] below meth c H locs cells slots Q (F0 m 1811 ls []) := by
  obtain ⟨hx, hb, hml, hown, hts, hX, hbl, hG, hbA, hL9, hfl⟩ := hC
  have hv8 : vC 8 0 := ⟨by decide, by decide, by decide, by decide⟩
  have hv9 : vM 9 0 := ⟨Or.inl rfl, by decide, by decide⟩
  refine lv_aload_n hx hb dL_law_1811 rfl (lv_at hl 1 rfl) ?_
  refine lv_aload_n hx hb dL_law_1812 rfl (lv_at hl 0 rfl) ?_
  refine lv_iload hx hb dL_law_1813 (lv_at hl 5 rfl) ?_
  refine r_iconst (n := 1) hx hb dL_law_1815 ?_
  refine r_iadd hx hb dL_law_1816 ?_
  refine w_sld hx hb hX hbl hbA hL9 hLI (j := i + 1) (by omega) (by omega) dL_law_1817 ?_
  refine lv_aload_n hx hb dL_law_1818 rfl (lv_at hl 0 rfl) ?_
  refine lv_iload hx hb dL_law_1819 (lv_at hl 5 rfl) ?_
  refine r_iconst (n := 2) hx hb dL_law_1821 ?_
  refine r_iadd hx hb dL_law_1822 ?_
  refine w_sld hx hb hX hbl hbA hL9 hLI (j := i + 2) (by omega) (by omega) dL_law_1823 ?_
  refine lv_aload_n hx hb dL_law_1824 rfl (lv_at hl 3 rfl) ?_
  obtain ⟨k, P, a', hone, f8, f9⟩ := S_tryHinge  h8 h9 (xv_I _ _) (xv_I _ _)
  refine lc_s (vx_runSW (As := [.ref (G.2.2.1 8 0), .int (iI (xv xs (i + 1))), .int (iI (xv xs (i + 2))), .ref qo]) (rest := []) ⟨hx, hb, hml, hown, hts⟩ (wL_tryHinge l (wR G (ownA G H.size qo)) hfl qo (fun K i v => (hG.2.2.2.2.2.2.1 K i (Or.inl v)).1) st8 (xv xs (i + 1)) (xv xs (i + 2)) k P a' f8) (vx_cwSW 4 hts gL_law_L_tryHinge rfl rfl rfl (by decide +kernel) ⟨Nat.le_of_ble_eq_true rfl, Nat.le_of_ble_eq_true rfl⟩) (LI_preL hG hLI [.ref (G.2.2.1 8 0), .int (iI (xv xs (i + 1))), .int (iI (xv xs (i + 2))), .ref qo]) rfl rfl hl.1 rfl (lv_room (Nat.le_of_ble_eq_true rfl)) dL_law_1825 ⟨by show cells + 2 ≤ 601024; omega, by show slots + 12 ≤ 7293034; omega⟩) hG hLI (fun st8 x H locs hk2 h8 hv hLI => ?_)
  refine W.widen (k := cells + 2) (n := slots + 12) (by omega) (by omega) ?_
  refine lv_istore (lv' := [(6, .int (iI k)), (0, .ref b), (1, .ref (G.2.2.1 8 0)), (2, .ref (G.2.2.1 9 0)), (3, .ref qo), (4, .ref qd), (5, .int (iI i))]) hx hb dL_law_1828 hl (by decide) rfl (fun ls hl => ?_)
  refine lv_aload_n hx hb dL_law_1830 rfl (lv_at hl 3 rfl) ?_
  refine lv_aload_n hx hb dL_law_1831 rfl (lv_at hl 1 rfl) ?_
  refine lv_iload hx hb dL_law_1832 (lv_at hl 6 rfl) ?_
  refine r_iconst (n := 1) hx hb dL_law_1834 ?_
  refine r_iadd hx hb dL_law_1835 ?_
  refine w_sld hx hb hX hbl hbA hL9 hLI (j := i + 1) (by omega) (by omega) dL_law_1836 ?_
  refine lv_aload_n hx hb dL_law_1837 rfl (lv_at hl 1 rfl) ?_
  refine lv_iload hx hb dL_law_1838 (lv_at hl 6 rfl) ?_
  refine r_iconst (n := 2) hx hb dL_law_1840 ?_
  refine r_iadd hx hb dL_law_1841 ?_
  refine w_sld hx hb hX hbl hbA hL9 hLI (j := i + 2) (by omega) (by omega) dL_law_1842 ?_
  refine lc_mi (va_runV (As := [.int (iI (xv xs (i + 1))), .int (iI (xv xs (i + 2)))]) (rest := []) ⟨hx, hb, hml, hown, hts⟩ (m9_tryHinge l (wR G (ownV vM G H.size)) hv9 _ st9 (xv xs (i + 1)) (xv xs (i + 2)) f9) (cwV 2 hts gL_law_X9_tryHinge rfl rfl rfl hd9_tryHinge ⟨Nat.le_of_ble_eq_true rfl, Nat.le_of_ble_eq_true rfl⟩) (LI_pre9 hG hLI hv9 [.int (iI (xv xs (i + 1))), .int (iI (xv xs (i + 2)))]) rfl rfl hl.1 rfl (lv_room (Nat.le_of_ble_eq_true rfl)) dL_law_1843 ⟨by show cells + 2 + 0 ≤ 601024; omega, by show slots + 12 + 0 ≤ 7293034; omega⟩) hG hLI (fun zb st9 H locs ho9 hLI => ?_)
  obtain ⟨hz9, e6, h9⟩ := ho9
  refine lv_istore (lv' := [(7, .int (iI zb)), (6, .int (iI k)), (0, .ref b), (1, .ref (G.2.2.1 8 0)), (2, .ref (G.2.2.1 9 0)), (3, .ref qo), (4, .ref qd), (5, .int (iI i))]) hx hb dL_law_1846 hl (by decide) rfl (fun ls hl => ?_)
  refine lv_aload_n hx hb dL_law_1848 rfl (lv_at hl 4 rfl) ?_
  refine lc_mi (va_runV (As := []) (rest := []) ⟨hx, hb, hml, hown, hts⟩ (m9_thrown l (wR G (ownV vM G H.size)) hv9 (fun z u => z = k ∧ SM u a') st9  ⟨e6, h9⟩) (cwV 0 hts gL_law_X9_thrown rfl rfl rfl hd9_thrown ⟨Nat.le_of_ble_eq_true rfl, Nat.le_of_ble_eq_true rfl⟩) (LI_pre9 hG hLI hv9 []) rfl rfl hl.1 rfl (lv_room (Nat.le_of_ble_eq_true rfl)) dL_law_1849 ⟨by show cells + 2 + 0 ≤ 601024; omega, by show slots + 12 + 0 ≤ 7293034; omega⟩) hG hLI (fun zt st9 H locs ho9 hLI => ?_)
  obtain ⟨ez, h9⟩ := ho9
  subst ez
  refine lv_iload hx hb dL_law_1852 (lv_at hl 1 rfl) ?_
  refine lv_icmp_eq (tgt := 1859) hx hb dL_law_1854 (by decide) (fun _ => ?_) (fun n => absurd rfl n)
  refine lv_iload hx hb dL_law_1859 (lv_at hl 1 rfl) ?_
  refine lv_if_ne (tgt := 1876) hx hb dL_law_1861 (by decide) (fun _ => ?_) (fun e0 => ?_)
  · refine lv_goto (tgt := 2661) hx hb dL_law_1876 (by decide) ?_
    exact next _ _ _ _ _ _ _ _ hLI h8 h9 (lv_sub hl [2, 3, 4, 5, 6, 7] rfl)
  · have k0 : zt = 0 := by
      rw [iI_0, iI_eq (inI_s (by omega) (by omega)) inI_0] at e0
      exact e0
    obtain ⟨w9, hw9, ex⟩ := hv k0
    have ew := hone _ _ (hz9 k0) hw9
    subst ew
    subst ex
    refine lv_aload_n hx hb dL_law_1864 rfl (lv_at hl 5 rfl) ?_
    refine r_iconst (n := 0) hx hb dL_law_1865 ?_
    refine w_lald hx hb hG hLI dL_law_1866 ?_
    refine lv_iload hx hb dL_law_1867 (lv_at hl 0 rfl) ?_
    refine lv_i2l (v := cvI zb) hx hb dL_law_1869 rfl ?_
    refine w_lcmp_eq (tgt := 1876) hx hb dL_law_1870 dL_law_1871 (by decide) ?_
    refine lv_goto (tgt := 2661) hx hb dL_law_1876 (by decide) ?_
    exact next _ _ _ _ _ _ _ _ hLI h8 h9 (lv_sub hl [2, 3, 4, 5, 6, 7] rfl)
set_option maxHeartbeats 4000000 in
set_option maxRecDepth 100000 in
theorem law_c29 {p : Program} {l : Launch} {e : Env} {s : State} {m : MethodId} {below : List Frame} {meth : Method} {c : Code} {Q : State → Prop} {b L : Nat} {xs : Nat → Int32} {G : WG} {cD : ClassId} {qo qd : Nat} (hC : LawC l p s m c b L xs G cD qo qd) {i : Int} (hi0 : 0 ≤ i) (hi : i + 6 ≤ L) {st8 st9 : St} {a : Ab} {x : Int64} {y : UInt64} {H : Heap} {locs : List Loc} {cells slots : Nat} {ls : Array Slot} (hc : cells + 2 ≤ 601024) (hs : slots + 12 ≤ 7293034) (hLI : LI G cD qo qd s st8 st9 x y H locs) (h8 : SC st8 a) (h9 : SM st9 a) (hl : lv_has ls 10 [(0, .ref b), (1, .ref (G.2.2.1 8 0)), (2, .ref (G.2.2.1 9 0)), (3, .ref qo), (4, .ref qd), (5, .int (iI i))]) (next : ∀ (st8 st9 : St) (a : Ab) (x : Int64) (y : UInt64) (H : Heap) (locs : List Loc) (ls : Array Slot), LI G cD qo qd s st8 st9 x y H locs → SC st8 a → SM st9 a → lv_has ls 10 [(0, .ref b), (1, .ref (G.2.2.1 8 0)), (2, .ref (G.2.2.1 9 0)), (3, .ref qo), (4, .ref qd), (5, .int (iI i))] → W p l e room_1 s m #[Value.ref b] below meth c H locs (cells + 2) (slots + 12) Q (F0 m 2661 ls [])) : W p l e room_1 s m #[Value.ref b] below meth c H locs cells slots Q (F0 m 1879 ls []) := by
  obtain ⟨hx, hb, hml, hown, hts, hX, hbl, hG, hbA, hL9, hfl⟩ := hC
  have hv8 : vC 8 0 := ⟨by decide, by decide, by decide, by decide⟩
  have hv9 : vM 9 0 := ⟨Or.inl rfl, by decide, by decide⟩
  refine lv_aload_n hx hb dL_law_1879 rfl (lv_at hl 1 rfl) ?_
  refine lv_aload_n hx hb dL_law_1880 rfl (lv_at hl 0 rfl) ?_
  refine lv_iload hx hb dL_law_1881 (lv_at hl 5 rfl) ?_
  refine r_iconst (n := 1) hx hb dL_law_1883 ?_
  refine r_iadd hx hb dL_law_1884 ?_
  refine w_sld hx hb hX hbl hbA hL9 hLI (j := i + 1) (by omega) (by omega) dL_law_1885 ?_
  refine lv_aload_n hx hb dL_law_1886 rfl (lv_at hl 3 rfl) ?_
  obtain ⟨k, P, a', hone, f8, f9⟩ := S_bestHinge  h8 h9 (xv_I _ _)
  refine lc_s (vx_runSW (As := [.ref (G.2.2.1 8 0), .int (iI (xv xs (i + 1))), .ref qo]) (rest := []) ⟨hx, hb, hml, hown, hts⟩ (wL_bestHinge l (wR G (ownA G H.size qo)) hfl qo (fun K i v => (hG.2.2.2.2.2.2.1 K i (Or.inl v)).1) st8 (xv xs (i + 1)) k P a' f8) (vx_cwSW 3 hts gL_law_L_bestHinge rfl rfl rfl (by decide +kernel) ⟨Nat.le_of_ble_eq_true rfl, Nat.le_of_ble_eq_true rfl⟩) (LI_preL hG hLI [.ref (G.2.2.1 8 0), .int (iI (xv xs (i + 1))), .ref qo]) rfl rfl hl.1 rfl (lv_room (Nat.le_of_ble_eq_true rfl)) dL_law_1887 ⟨by show cells + 1 ≤ 601024; omega, by show slots + 6 ≤ 7293034; omega⟩) hG hLI (fun st8 x H locs hk2 h8 hv hLI => ?_)
  refine W.widen (k := cells + 2) (n := slots + 12) (by omega) (by omega) ?_
  refine lv_istore (lv' := [(6, .int (iI k)), (0, .ref b), (1, .ref (G.2.2.1 8 0)), (2, .ref (G.2.2.1 9 0)), (3, .ref qo), (4, .ref qd), (5, .int (iI i))]) hx hb dL_law_1890 hl (by decide) rfl (fun ls hl => ?_)
  refine lv_aload_n hx hb dL_law_1892 rfl (lv_at hl 3 rfl) ?_
  refine lv_aload_n hx hb dL_law_1893 rfl (lv_at hl 1 rfl) ?_
  refine lv_iload hx hb dL_law_1894 (lv_at hl 6 rfl) ?_
  refine r_iconst (n := 1) hx hb dL_law_1896 ?_
  refine r_iadd hx hb dL_law_1897 ?_
  refine w_sld hx hb hX hbl hbA hL9 hLI (j := i + 1) (by omega) (by omega) dL_law_1898 ?_
  refine lc_mi (va_runV (As := [.int (iI (xv xs (i + 1)))]) (rest := []) ⟨hx, hb, hml, hown, hts⟩ (m9_bestHinge l (wR G (ownV vM G H.size)) hv9 _ st9 (xv xs (i + 1)) f9) (cwV 1 hts gL_law_X9_bestHinge rfl rfl rfl hd9_bestHinge ⟨Nat.le_of_ble_eq_true rfl, Nat.le_of_ble_eq_true rfl⟩) (LI_pre9 hG hLI hv9 [.int (iI (xv xs (i + 1)))]) rfl rfl hl.1 rfl (lv_room (Nat.le_of_ble_eq_true rfl)) dL_law_1899 ⟨by show cells + 2 + 0 ≤ 601024; omega, by show slots + 12 + 0 ≤ 7293034; omega⟩) hG hLI (fun zb st9 H locs ho9 hLI => ?_)
  obtain ⟨hz9, e6, h9⟩ := ho9
  refine lv_istore (lv' := [(7, .int (iI zb)), (6, .int (iI k)), (0, .ref b), (1, .ref (G.2.2.1 8 0)), (2, .ref (G.2.2.1 9 0)), (3, .ref qo), (4, .ref qd), (5, .int (iI i))]) hx hb dL_law_1902 hl (by decide) rfl (fun ls hl => ?_)
  refine lv_aload_n hx hb dL_law_1904 rfl (lv_at hl 4 rfl) ?_
  refine lc_mi (va_runV (As := []) (rest := []) ⟨hx, hb, hml, hown, hts⟩ (m9_thrown l (wR G (ownV vM G H.size)) hv9 (fun z u => z = k ∧ SM u a') st9  ⟨e6, h9⟩) (cwV 0 hts gL_law_X9_thrown rfl rfl rfl hd9_thrown ⟨Nat.le_of_ble_eq_true rfl, Nat.le_of_ble_eq_true rfl⟩) (LI_pre9 hG hLI hv9 []) rfl rfl hl.1 rfl (lv_room (Nat.le_of_ble_eq_true rfl)) dL_law_1905 ⟨by show cells + 2 + 0 ≤ 601024; omega, by show slots + 12 + 0 ≤ 7293034; omega⟩) hG hLI (fun zt st9 H locs ho9 hLI => ?_)
  obtain ⟨ez, h9⟩ := ho9
  subst ez
  refine lv_iload hx hb dL_law_1908 (lv_at hl 1 rfl) ?_
  refine lv_icmp_eq (tgt := 1915) hx hb dL_law_1910 (by decide) (fun _ => ?_) (fun n => absurd rfl n)
  refine lv_iload hx hb dL_law_1915 (lv_at hl 1 rfl) ?_
  refine lv_if_ne (tgt := 1932) hx hb dL_law_1917 (by decide) (fun _ => ?_) (fun e0 => ?_)
  · refine lv_goto (tgt := 2661) hx hb dL_law_1932 (by decide) ?_
    exact next _ _ _ _ _ _ _ _ hLI h8 h9 (lv_sub hl [2, 3, 4, 5, 6, 7] rfl)
  · have k0 : zt = 0 := by
      rw [iI_0, iI_eq (inI_s (by omega) (by omega)) inI_0] at e0
      exact e0
    obtain ⟨w9, hw9, ex⟩ := hv k0
    have ew := hone _ _ (hz9 k0) hw9
    subst ew
    subst ex
    refine lv_aload_n hx hb dL_law_1920 rfl (lv_at hl 5 rfl) ?_
    refine r_iconst (n := 0) hx hb dL_law_1921 ?_
    refine w_lald hx hb hG hLI dL_law_1922 ?_
    refine lv_iload hx hb dL_law_1923 (lv_at hl 0 rfl) ?_
    refine lv_i2l (v := cvI zb) hx hb dL_law_1925 rfl ?_
    refine w_lcmp_eq (tgt := 1932) hx hb dL_law_1926 dL_law_1927 (by decide) ?_
    refine lv_goto (tgt := 2661) hx hb dL_law_1932 (by decide) ?_
    exact next _ _ _ _ _ _ _ _ hLI h8 h9 (lv_sub hl [2, 3, 4, 5, 6, 7] rfl)
set_option maxHeartbeats 4000000 in
set_option maxRecDepth 100000 in
theorem law_c30 {p : Program} {l : Launch} {e : Env} {s : State} {m : MethodId} {below : List Frame} {meth : Method} {c : Code} {Q : State → Prop} {b L : Nat} {xs : Nat → Int32} {G : WG} {cD : ClassId} {qo qd : Nat} (hC : LawC l p s m c b L xs G cD qo qd) {i : Int} (hi0 : 0 ≤ i) (hi : i + 6 ≤ L) {st8 st9 : St} {a : Ab} {x : Int64} {y : UInt64} {H : Heap} {locs : List Loc} {cells slots : Nat} {ls : Array Slot} (hc : cells + 2 ≤ 601024) (hs : slots + 12 ≤ 7293034) (hLI : LI G cD qo qd s st8 st9 x y H locs) (h8 : SC st8 a) (h9 : SM st9 a) (hl : lv_has ls 10 [(0, .ref b), (1, .ref (G.2.2.1 8 0)), (2, .ref (G.2.2.1 9 0)), (3, .ref qo), (4, .ref qd), (5, .int (iI i))]) (next : ∀ (st8 st9 : St) (a : Ab) (x : Int64) (y : UInt64) (H : Heap) (locs : List Loc) (ls : Array Slot), LI G cD qo qd s st8 st9 x y H locs → SC st8 a → SM st9 a → lv_has ls 10 [(0, .ref b), (1, .ref (G.2.2.1 8 0)), (2, .ref (G.2.2.1 9 0)), (3, .ref qo), (4, .ref qd), (5, .int (iI i))] → W p l e room_1 s m #[Value.ref b] below meth c H locs (cells + 2) (slots + 12) Q (F0 m 2661 ls [])) : W p l e room_1 s m #[Value.ref b] below meth c H locs cells slots Q (F0 m 1935 ls []) := by
  obtain ⟨hx, hb, hml, hown, hts, hX, hbl, hG, hbA, hL9, hfl⟩ := hC
  have hv8 : vC 8 0 := ⟨by decide, by decide, by decide, by decide⟩
  have hv9 : vM 9 0 := ⟨Or.inl rfl, by decide, by decide⟩
  refine lv_aload_n hx hb dL_law_1935 rfl (lv_at hl 1 rfl) ?_
  obtain ⟨k, P, a', hone, f8, f9⟩ := S_strongest  h8 h9 
  refine lc_ci (va_runV (As := []) (rest := []) ⟨hx, hb, hml, hown, hts⟩ (m8_strongest l (wR G (ownV vC G H.size)) hv8 _ st8  f8) (cwV 0 hts gL_law_X8_strongest rfl rfl rfl hd8_strongest ⟨Nat.le_of_ble_eq_true rfl, Nat.le_of_ble_eq_true rfl⟩) (LI_pre8 hG hLI hv8 []) rfl rfl hl.1 rfl (lv_room (Nat.le_of_ble_eq_true rfl)) dL_law_1936 ⟨by show cells + 0 + 0 ≤ 601024; omega, by show slots + 0 + 0 ≤ 7293034; omega⟩) hG hLI (fun z8 st8 H locs ho8 hLI => ?_)
  obtain ⟨hk0, hP8, h8⟩ := ho8
  refine lv_aload_n hx hb dL_law_1939 rfl (lv_at hl 2 rfl) ?_
  refine lc_mi (va_runV (As := []) (rest := [.int (iI z8)]) ⟨hx, hb, hml, hown, hts⟩ (m9_strongest l (wR G (ownV vM G H.size)) hv9 _ st9  f9) (cwV 0 hts gL_law_X9_strongest rfl rfl rfl hd9_strongest ⟨Nat.le_of_ble_eq_true rfl, Nat.le_of_ble_eq_true rfl⟩) (LI_pre9 hG hLI hv9 []) rfl rfl hl.1 rfl (lv_room (Nat.le_of_ble_eq_true rfl)) dL_law_1940 ⟨by show cells + 0 + 0 ≤ 601024; omega, by show slots + 0 + 0 ≤ 7293034; omega⟩) hG hLI (fun zb st9 H locs ho9 hLI => ?_)
  obtain ⟨hz9, -, h9⟩ := ho9
  have ez := hone _ _ hP8 (hz9 hk0)
  subst ez
  refine lv_icmp_eq (tgt := 2661) hx hb dL_law_1943 (by decide) (fun _ => ?_) (fun n => absurd rfl n)
  refine W.widen (k := cells + 2) (n := slots + 12) (by omega) (by omega) ?_
  exact next _ _ _ _ _ _ _ _ hLI h8 h9 (lv_sub hl [0, 1, 2, 3, 4, 5] rfl)
set_option maxHeartbeats 4000000 in
set_option maxRecDepth 100000 in
theorem law_c31 {p : Program} {l : Launch} {e : Env} {s : State} {m : MethodId} {below : List Frame} {meth : Method} {c : Code} {Q : State → Prop} {b L : Nat} {xs : Nat → Int32} {G : WG} {cD : ClassId} {qo qd : Nat} (hC : LawC l p s m c b L xs G cD qo qd) {i : Int} (hi0 : 0 ≤ i) (hi : i + 6 ≤ L) {st8 st9 : St} {a : Ab} {x : Int64} {y : UInt64} {H : Heap} {locs : List Loc} {cells slots : Nat} {ls : Array Slot} (hc : cells + 2 ≤ 601024) (hs : slots + 12 ≤ 7293034) (hLI : LI G cD qo qd s st8 st9 x y H locs) (h8 : SC st8 a) (h9 : SM st9 a) (hl : lv_has ls 10 [(0, .ref b), (1, .ref (G.2.2.1 8 0)), (2, .ref (G.2.2.1 9 0)), (3, .ref qo), (4, .ref qd), (5, .int (iI i))]) (next : ∀ (st8 st9 : St) (a : Ab) (x : Int64) (y : UInt64) (H : Heap) (locs : List Loc) (ls : Array Slot), LI G cD qo qd s st8 st9 x y H locs → SC st8 a → SM st9 a → lv_has ls 10 [(0, .ref b), (1, .ref (G.2.2.1 8 0)), (2, .ref (G.2.2.1 9 0)), (3, .ref qo), (4, .ref qd), (5, .int (iI i))] → W p l e room_1 s m #[Value.ref b] below meth c H locs (cells + 2) (slots + 12) Q (F0 m 2661 ls [])) : W p l e room_1 s m #[Value.ref b] below meth c H locs cells slots Q (F0 m 1948 ls []) := by
  obtain ⟨hx, hb, hml, hown, hts, hX, hbl, hG, hbA, hL9, hfl⟩ := hC
  have hv8 : vC 8 0 := ⟨by decide, by decide, by decide, by decide⟩
  have hv9 : vM 9 0 := ⟨Or.inl rfl, by decide, by decide⟩
  refine lv_aload_n hx hb dL_law_1948 rfl (lv_at hl 1 rfl) ?_
  refine lv_aload_n hx hb dL_law_1949 rfl (lv_at hl 0 rfl) ?_
  refine lv_iload hx hb dL_law_1950 (lv_at hl 5 rfl) ?_
  refine r_iconst (n := 1) hx hb dL_law_1952 ?_
  refine r_iadd hx hb dL_law_1953 ?_
  refine w_sld hx hb hX hbl hbA hL9 hLI (j := i + 1) (by omega) (by omega) dL_law_1954 ?_
  refine lv_aload_n hx hb dL_law_1955 rfl (lv_at hl 0 rfl) ?_
  refine lv_iload hx hb dL_law_1956 (lv_at hl 5 rfl) ?_
  refine r_iconst (n := 2) hx hb dL_law_1958 ?_
  refine r_iadd hx hb dL_law_1959 ?_
  refine w_sld hx hb hX hbl hbA hL9 hLI (j := i + 2) (by omega) (by omega) dL_law_1960 ?_
  refine lv_aload_n hx hb dL_law_1961 rfl (lv_at hl 3 rfl) ?_
  obtain ⟨k, P, a', hone, f8, f9⟩ := S_moveSupport  h8 h9 (xv_I _ _) (xv_I _ _)
  refine lc_s (vx_runSW (As := [.ref (G.2.2.1 8 0), .int (iI (xv xs (i + 1))), .int (iI (xv xs (i + 2))), .ref qo]) (rest := []) ⟨hx, hb, hml, hown, hts⟩ (wL_moveSupport l (wR G (ownA G H.size qo)) hfl qo (fun K i v => (hG.2.2.2.2.2.2.1 K i (Or.inl v)).1) st8 (xv xs (i + 1)) (xv xs (i + 2)) k P a' f8) (vx_cwSW 4 hts gL_law_L_moveSupport rfl rfl rfl (by decide +kernel) ⟨Nat.le_of_ble_eq_true rfl, Nat.le_of_ble_eq_true rfl⟩) (LI_preL hG hLI [.ref (G.2.2.1 8 0), .int (iI (xv xs (i + 1))), .int (iI (xv xs (i + 2))), .ref qo]) rfl rfl hl.1 rfl (lv_room (Nat.le_of_ble_eq_true rfl)) dL_law_1962 ⟨by show cells + 2 ≤ 601024; omega, by show slots + 12 ≤ 7293034; omega⟩) hG hLI (fun st8 x H locs hk2 h8 hv hLI => ?_)
  refine W.widen (k := cells + 2) (n := slots + 12) (by omega) (by omega) ?_
  refine lv_istore (lv' := [(6, .int (iI k)), (0, .ref b), (1, .ref (G.2.2.1 8 0)), (2, .ref (G.2.2.1 9 0)), (3, .ref qo), (4, .ref qd), (5, .int (iI i))]) hx hb dL_law_1965 hl (by decide) rfl (fun ls hl => ?_)
  refine lv_aload_n hx hb dL_law_1967 rfl (lv_at hl 3 rfl) ?_
  refine lv_aload_n hx hb dL_law_1968 rfl (lv_at hl 1 rfl) ?_
  refine lv_iload hx hb dL_law_1969 (lv_at hl 6 rfl) ?_
  refine r_iconst (n := 1) hx hb dL_law_1971 ?_
  refine r_iadd hx hb dL_law_1972 ?_
  refine w_sld hx hb hX hbl hbA hL9 hLI (j := i + 1) (by omega) (by omega) dL_law_1973 ?_
  refine lv_aload_n hx hb dL_law_1974 rfl (lv_at hl 1 rfl) ?_
  refine lv_iload hx hb dL_law_1975 (lv_at hl 6 rfl) ?_
  refine r_iconst (n := 2) hx hb dL_law_1977 ?_
  refine r_iadd hx hb dL_law_1978 ?_
  refine w_sld hx hb hX hbl hbA hL9 hLI (j := i + 2) (by omega) (by omega) dL_law_1979 ?_
  refine lc_mi (va_runV (As := [.int (iI (xv xs (i + 1))), .int (iI (xv xs (i + 2)))]) (rest := []) ⟨hx, hb, hml, hown, hts⟩ (m9_moveSupport l (wR G (ownV vM G H.size)) hv9 _ st9 (xv xs (i + 1)) (xv xs (i + 2)) f9) (cwV 2 hts gL_law_X9_moveSupport rfl rfl rfl hd9_moveSupport ⟨Nat.le_of_ble_eq_true rfl, Nat.le_of_ble_eq_true rfl⟩) (LI_pre9 hG hLI hv9 [.int (iI (xv xs (i + 1))), .int (iI (xv xs (i + 2)))]) rfl rfl hl.1 rfl (lv_room (Nat.le_of_ble_eq_true rfl)) dL_law_1980 ⟨by show cells + 2 + 0 ≤ 601024; omega, by show slots + 12 + 0 ≤ 7293034; omega⟩) hG hLI (fun zb st9 H locs ho9 hLI => ?_)
  obtain ⟨hz9, e6, h9⟩ := ho9
  refine lv_istore (lv' := [(7, .int (iI zb)), (6, .int (iI k)), (0, .ref b), (1, .ref (G.2.2.1 8 0)), (2, .ref (G.2.2.1 9 0)), (3, .ref qo), (4, .ref qd), (5, .int (iI i))]) hx hb dL_law_1983 hl (by decide) rfl (fun ls hl => ?_)
  refine lv_aload_n hx hb dL_law_1985 rfl (lv_at hl 4 rfl) ?_
  refine lc_mi (va_runV (As := []) (rest := []) ⟨hx, hb, hml, hown, hts⟩ (m9_thrown l (wR G (ownV vM G H.size)) hv9 (fun z u => z = k ∧ SM u a') st9  ⟨e6, h9⟩) (cwV 0 hts gL_law_X9_thrown rfl rfl rfl hd9_thrown ⟨Nat.le_of_ble_eq_true rfl, Nat.le_of_ble_eq_true rfl⟩) (LI_pre9 hG hLI hv9 []) rfl rfl hl.1 rfl (lv_room (Nat.le_of_ble_eq_true rfl)) dL_law_1986 ⟨by show cells + 2 + 0 ≤ 601024; omega, by show slots + 12 + 0 ≤ 7293034; omega⟩) hG hLI (fun zt st9 H locs ho9 hLI => ?_)
  obtain ⟨ez, h9⟩ := ho9
  subst ez
  refine lv_iload hx hb dL_law_1989 (lv_at hl 1 rfl) ?_
  refine lv_icmp_eq (tgt := 1996) hx hb dL_law_1991 (by decide) (fun _ => ?_) (fun n => absurd rfl n)
  refine lv_iload hx hb dL_law_1996 (lv_at hl 1 rfl) ?_
  refine lv_if_ne (tgt := 2013) hx hb dL_law_1998 (by decide) (fun _ => ?_) (fun e0 => ?_)
  · refine lv_goto (tgt := 2661) hx hb dL_law_2013 (by decide) ?_
    exact next _ _ _ _ _ _ _ _ hLI h8 h9 (lv_sub hl [2, 3, 4, 5, 6, 7] rfl)
  · have k0 : zt = 0 := by
      rw [iI_0, iI_eq (inI_s (by omega) (by omega)) inI_0] at e0
      exact e0
    obtain ⟨w9, hw9, ex⟩ := hv k0
    have ew := hone _ _ (hz9 k0) hw9
    subst ew
    subst ex
    refine lv_aload_n hx hb dL_law_2001 rfl (lv_at hl 5 rfl) ?_
    refine r_iconst (n := 0) hx hb dL_law_2002 ?_
    refine w_lald hx hb hG hLI dL_law_2003 ?_
    refine lv_iload hx hb dL_law_2004 (lv_at hl 0 rfl) ?_
    refine lv_i2l (v := cvI zb) hx hb dL_law_2006 rfl ?_
    refine w_lcmp_eq (tgt := 2013) hx hb dL_law_2007 dL_law_2008 (by decide) ?_
    refine lv_goto (tgt := 2661) hx hb dL_law_2013 (by decide) ?_
    exact next _ _ _ _ _ _ _ _ hLI h8 h9 (lv_sub hl [2, 3, 4, 5, 6, 7] rfl)
set_option maxHeartbeats 4000000 in
set_option maxRecDepth 100000 in
theorem law_c32 {p : Program} {l : Launch} {e : Env} {s : State} {m : MethodId} {below : List Frame} {meth : Method} {c : Code} {Q : State → Prop} {b L : Nat} {xs : Nat → Int32} {G : WG} {cD : ClassId} {qo qd : Nat} (hC : LawC l p s m c b L xs G cD qo qd) {i : Int} (hi0 : 0 ≤ i) (hi : i + 6 ≤ L) {st8 st9 : St} {a : Ab} {x : Int64} {y : UInt64} {H : Heap} {locs : List Loc} {cells slots : Nat} {ls : Array Slot} (hc : cells + 2 ≤ 601024) (hs : slots + 12 ≤ 7293034) (hLI : LI G cD qo qd s st8 st9 x y H locs) (h8 : SC st8 a) (h9 : SM st9 a) (hl : lv_has ls 10 [(0, .ref b), (1, .ref (G.2.2.1 8 0)), (2, .ref (G.2.2.1 9 0)), (3, .ref qo), (4, .ref qd), (5, .int (iI i))]) (next : ∀ (st8 st9 : St) (a : Ab) (x : Int64) (y : UInt64) (H : Heap) (locs : List Loc) (ls : Array Slot), LI G cD qo qd s st8 st9 x y H locs → SC st8 a → SM st9 a → lv_has ls 10 [(0, .ref b), (1, .ref (G.2.2.1 8 0)), (2, .ref (G.2.2.1 9 0)), (3, .ref qo), (4, .ref qd), (5, .int (iI i))] → W p l e room_1 s m #[Value.ref b] below meth c H locs (cells + 2) (slots + 12) Q (F0 m 2661 ls [])) : W p l e room_1 s m #[Value.ref b] below meth c H locs cells slots Q (F0 m 2016 ls []) := by
  obtain ⟨hx, hb, hml, hown, hts, hX, hbl, hG, hbA, hL9, hfl⟩ := hC
  have hv8 : vC 8 0 := ⟨by decide, by decide, by decide, by decide⟩
  have hv9 : vM 9 0 := ⟨Or.inl rfl, by decide, by decide⟩
  refine lv_aload_n hx hb dL_law_2016 rfl (lv_at hl 1 rfl) ?_
  refine lv_aload_n hx hb dL_law_2017 rfl (lv_at hl 0 rfl) ?_
  refine lv_iload hx hb dL_law_2018 (lv_at hl 5 rfl) ?_
  refine r_iconst (n := 1) hx hb dL_law_2020 ?_
  refine r_iadd hx hb dL_law_2021 ?_
  refine w_sld hx hb hX hbl hbA hL9 hLI (j := i + 1) (by omega) (by omega) dL_law_2022 ?_
  refine lv_aload_n hx hb dL_law_2023 rfl (lv_at hl 0 rfl) ?_
  refine lv_iload hx hb dL_law_2024 (lv_at hl 5 rfl) ?_
  refine r_iconst (n := 2) hx hb dL_law_2026 ?_
  refine r_iadd hx hb dL_law_2027 ?_
  refine w_sld hx hb hX hbl hbA hL9 hLI (j := i + 2) (by omega) (by omega) dL_law_2028 ?_
  refine lv_aload_n hx hb dL_law_2029 rfl (lv_at hl 3 rfl) ?_
  obtain ⟨k, P, a', hone, f8, f9⟩ := S_moveHinge  h8 h9 (xv_I _ _) (xv_I _ _)
  refine lc_s (vx_runSW (As := [.ref (G.2.2.1 8 0), .int (iI (xv xs (i + 1))), .int (iI (xv xs (i + 2))), .ref qo]) (rest := []) ⟨hx, hb, hml, hown, hts⟩ (wL_moveHinge l (wR G (ownA G H.size qo)) hfl qo (fun K i v => (hG.2.2.2.2.2.2.1 K i (Or.inl v)).1) st8 (xv xs (i + 1)) (xv xs (i + 2)) k P a' f8) (vx_cwSW 4 hts gL_law_L_moveHinge rfl rfl rfl (by decide +kernel) ⟨Nat.le_of_ble_eq_true rfl, Nat.le_of_ble_eq_true rfl⟩) (LI_preL hG hLI [.ref (G.2.2.1 8 0), .int (iI (xv xs (i + 1))), .int (iI (xv xs (i + 2))), .ref qo]) rfl rfl hl.1 rfl (lv_room (Nat.le_of_ble_eq_true rfl)) dL_law_2030 ⟨by show cells + 2 ≤ 601024; omega, by show slots + 12 ≤ 7293034; omega⟩) hG hLI (fun st8 x H locs hk2 h8 hv hLI => ?_)
  refine W.widen (k := cells + 2) (n := slots + 12) (by omega) (by omega) ?_
  refine lv_istore (lv' := [(6, .int (iI k)), (0, .ref b), (1, .ref (G.2.2.1 8 0)), (2, .ref (G.2.2.1 9 0)), (3, .ref qo), (4, .ref qd), (5, .int (iI i))]) hx hb dL_law_2033 hl (by decide) rfl (fun ls hl => ?_)
  refine lv_aload_n hx hb dL_law_2035 rfl (lv_at hl 3 rfl) ?_
  refine lv_aload_n hx hb dL_law_2036 rfl (lv_at hl 1 rfl) ?_
  refine lv_iload hx hb dL_law_2037 (lv_at hl 6 rfl) ?_
  refine r_iconst (n := 1) hx hb dL_law_2039 ?_
  refine r_iadd hx hb dL_law_2040 ?_
  refine w_sld hx hb hX hbl hbA hL9 hLI (j := i + 1) (by omega) (by omega) dL_law_2041 ?_
  refine lv_aload_n hx hb dL_law_2042 rfl (lv_at hl 1 rfl) ?_
  refine lv_iload hx hb dL_law_2043 (lv_at hl 6 rfl) ?_
  refine r_iconst (n := 2) hx hb dL_law_2045 ?_
  refine r_iadd hx hb dL_law_2046 ?_
  refine w_sld hx hb hX hbl hbA hL9 hLI (j := i + 2) (by omega) (by omega) dL_law_2047 ?_
  refine lc_mi (va_runV (As := [.int (iI (xv xs (i + 1))), .int (iI (xv xs (i + 2)))]) (rest := []) ⟨hx, hb, hml, hown, hts⟩ (m9_moveHinge l (wR G (ownV vM G H.size)) hv9 _ st9 (xv xs (i + 1)) (xv xs (i + 2)) f9) (cwV 2 hts gL_law_X9_moveHinge rfl rfl rfl hd9_moveHinge ⟨Nat.le_of_ble_eq_true rfl, Nat.le_of_ble_eq_true rfl⟩) (LI_pre9 hG hLI hv9 [.int (iI (xv xs (i + 1))), .int (iI (xv xs (i + 2)))]) rfl rfl hl.1 rfl (lv_room (Nat.le_of_ble_eq_true rfl)) dL_law_2048 ⟨by show cells + 2 + 0 ≤ 601024; omega, by show slots + 12 + 0 ≤ 7293034; omega⟩) hG hLI (fun zb st9 H locs ho9 hLI => ?_)
  obtain ⟨hz9, e6, h9⟩ := ho9
  refine lv_istore (lv' := [(7, .int (iI zb)), (6, .int (iI k)), (0, .ref b), (1, .ref (G.2.2.1 8 0)), (2, .ref (G.2.2.1 9 0)), (3, .ref qo), (4, .ref qd), (5, .int (iI i))]) hx hb dL_law_2051 hl (by decide) rfl (fun ls hl => ?_)
  refine lv_aload_n hx hb dL_law_2053 rfl (lv_at hl 4 rfl) ?_
  refine lc_mi (va_runV (As := []) (rest := []) ⟨hx, hb, hml, hown, hts⟩ (m9_thrown l (wR G (ownV vM G H.size)) hv9 (fun z u => z = k ∧ SM u a') st9  ⟨e6, h9⟩) (cwV 0 hts gL_law_X9_thrown rfl rfl rfl hd9_thrown ⟨Nat.le_of_ble_eq_true rfl, Nat.le_of_ble_eq_true rfl⟩) (LI_pre9 hG hLI hv9 []) rfl rfl hl.1 rfl (lv_room (Nat.le_of_ble_eq_true rfl)) dL_law_2054 ⟨by show cells + 2 + 0 ≤ 601024; omega, by show slots + 12 + 0 ≤ 7293034; omega⟩) hG hLI (fun zt st9 H locs ho9 hLI => ?_)
  obtain ⟨ez, h9⟩ := ho9
  subst ez
  refine lv_iload hx hb dL_law_2057 (lv_at hl 1 rfl) ?_
  refine lv_icmp_eq (tgt := 2064) hx hb dL_law_2059 (by decide) (fun _ => ?_) (fun n => absurd rfl n)
  refine lv_iload hx hb dL_law_2064 (lv_at hl 1 rfl) ?_
  refine lv_if_ne (tgt := 2081) hx hb dL_law_2066 (by decide) (fun _ => ?_) (fun e0 => ?_)
  · refine lv_goto (tgt := 2661) hx hb dL_law_2081 (by decide) ?_
    exact next _ _ _ _ _ _ _ _ hLI h8 h9 (lv_sub hl [2, 3, 4, 5, 6, 7] rfl)
  · have k0 : zt = 0 := by
      rw [iI_0, iI_eq (inI_s (by omega) (by omega)) inI_0] at e0
      exact e0
    obtain ⟨w9, hw9, ex⟩ := hv k0
    have ew := hone _ _ (hz9 k0) hw9
    subst ew
    subst ex
    refine lv_aload_n hx hb dL_law_2069 rfl (lv_at hl 5 rfl) ?_
    refine r_iconst (n := 0) hx hb dL_law_2070 ?_
    refine w_lald hx hb hG hLI dL_law_2071 ?_
    refine lv_iload hx hb dL_law_2072 (lv_at hl 0 rfl) ?_
    refine lv_i2l (v := cvI zb) hx hb dL_law_2074 rfl ?_
    refine w_lcmp_eq (tgt := 2081) hx hb dL_law_2075 dL_law_2076 (by decide) ?_
    refine lv_goto (tgt := 2661) hx hb dL_law_2081 (by decide) ?_
    exact next _ _ _ _ _ _ _ _ hLI h8 h9 (lv_sub hl [2, 3, 4, 5, 6, 7] rfl)
set_option maxHeartbeats 4000000 in
set_option maxRecDepth 100000 in
theorem law_c33 {p : Program} {l : Launch} {e : Env} {s : State} {m : MethodId} {below : List Frame} {meth : Method} {c : Code} {Q : State → Prop} {b L : Nat} {xs : Nat → Int32} {G : WG} {cD : ClassId} {qo qd : Nat} (hC : LawC l p s m c b L xs G cD qo qd) {i : Int} (hi0 : 0 ≤ i) (hi : i + 6 ≤ L) {st8 st9 : St} {a : Ab} {x : Int64} {y : UInt64} {H : Heap} {locs : List Loc} {cells slots : Nat} {ls : Array Slot} (hc : cells + 2 ≤ 601024) (hs : slots + 12 ≤ 7293034) (hLI : LI G cD qo qd s st8 st9 x y H locs) (h8 : SC st8 a) (h9 : SM st9 a) (hl : lv_has ls 10 [(0, .ref b), (1, .ref (G.2.2.1 8 0)), (2, .ref (G.2.2.1 9 0)), (3, .ref qo), (4, .ref qd), (5, .int (iI i))]) (next : ∀ (st8 st9 : St) (a : Ab) (x : Int64) (y : UInt64) (H : Heap) (locs : List Loc) (ls : Array Slot), LI G cD qo qd s st8 st9 x y H locs → SC st8 a → SM st9 a → lv_has ls 10 [(0, .ref b), (1, .ref (G.2.2.1 8 0)), (2, .ref (G.2.2.1 9 0)), (3, .ref qo), (4, .ref qd), (5, .int (iI i))] → W p l e room_1 s m #[Value.ref b] below meth c H locs (cells + 2) (slots + 12) Q (F0 m 2661 ls [])) : W p l e room_1 s m #[Value.ref b] below meth c H locs cells slots Q (F0 m 2084 ls []) := by
  obtain ⟨hx, hb, hml, hown, hts, hX, hbl, hG, hbA, hL9, hfl⟩ := hC
  have hv8 : vC 8 0 := ⟨by decide, by decide, by decide, by decide⟩
  have hv9 : vM 9 0 := ⟨Or.inl rfl, by decide, by decide⟩
  refine lv_aload_n hx hb dL_law_2084 rfl (lv_at hl 1 rfl) ?_
  refine lv_aload_n hx hb dL_law_2085 rfl (lv_at hl 0 rfl) ?_
  refine lv_iload hx hb dL_law_2086 (lv_at hl 5 rfl) ?_
  refine r_iconst (n := 1) hx hb dL_law_2088 ?_
  refine r_iadd hx hb dL_law_2089 ?_
  refine w_sld hx hb hX hbl hbA hL9 hLI (j := i + 1) (by omega) (by omega) dL_law_2090 ?_
  refine lv_aload_n hx hb dL_law_2091 rfl (lv_at hl 0 rfl) ?_
  refine lv_iload hx hb dL_law_2092 (lv_at hl 5 rfl) ?_
  refine r_iconst (n := 2) hx hb dL_law_2094 ?_
  refine r_iadd hx hb dL_law_2095 ?_
  refine w_sld hx hb hX hbl hbA hL9 hLI (j := i + 2) (by omega) (by omega) dL_law_2096 ?_
  refine lv_aload_n hx hb dL_law_2097 rfl (lv_at hl 3 rfl) ?_
  obtain ⟨k, P, a', hone, f8, f9⟩ := S_addLoad  h8 h9 (xv_I _ _) (xv_I _ _)
  refine lc_s (vx_runSW (As := [.ref (G.2.2.1 8 0), .int (iI (xv xs (i + 1))), .int (iI (xv xs (i + 2))), .ref qo]) (rest := []) ⟨hx, hb, hml, hown, hts⟩ (wL_addLoad l (wR G (ownA G H.size qo)) hfl qo (fun K i v => (hG.2.2.2.2.2.2.1 K i (Or.inl v)).1) st8 (xv xs (i + 1)) (xv xs (i + 2)) k P a' f8) (vx_cwSW 4 hts gL_law_L_addLoad rfl rfl rfl (by decide +kernel) ⟨Nat.le_of_ble_eq_true rfl, Nat.le_of_ble_eq_true rfl⟩) (LI_preL hG hLI [.ref (G.2.2.1 8 0), .int (iI (xv xs (i + 1))), .int (iI (xv xs (i + 2))), .ref qo]) rfl rfl hl.1 rfl (lv_room (Nat.le_of_ble_eq_true rfl)) dL_law_2098 ⟨by show cells + 2 ≤ 601024; omega, by show slots + 12 ≤ 7293034; omega⟩) hG hLI (fun st8 x H locs hk2 h8 hv hLI => ?_)
  refine W.widen (k := cells + 2) (n := slots + 12) (by omega) (by omega) ?_
  refine lv_istore (lv' := [(6, .int (iI k)), (0, .ref b), (1, .ref (G.2.2.1 8 0)), (2, .ref (G.2.2.1 9 0)), (3, .ref qo), (4, .ref qd), (5, .int (iI i))]) hx hb dL_law_2101 hl (by decide) rfl (fun ls hl => ?_)
  refine lv_aload_n hx hb dL_law_2103 rfl (lv_at hl 3 rfl) ?_
  refine lv_aload_n hx hb dL_law_2104 rfl (lv_at hl 1 rfl) ?_
  refine lv_iload hx hb dL_law_2105 (lv_at hl 6 rfl) ?_
  refine r_iconst (n := 1) hx hb dL_law_2107 ?_
  refine r_iadd hx hb dL_law_2108 ?_
  refine w_sld hx hb hX hbl hbA hL9 hLI (j := i + 1) (by omega) (by omega) dL_law_2109 ?_
  refine lv_aload_n hx hb dL_law_2110 rfl (lv_at hl 1 rfl) ?_
  refine lv_iload hx hb dL_law_2111 (lv_at hl 6 rfl) ?_
  refine r_iconst (n := 2) hx hb dL_law_2113 ?_
  refine r_iadd hx hb dL_law_2114 ?_
  refine w_sld hx hb hX hbl hbA hL9 hLI (j := i + 2) (by omega) (by omega) dL_law_2115 ?_
  refine lc_mi (va_runV (As := [.int (iI (xv xs (i + 1))), .int (iI (xv xs (i + 2)))]) (rest := []) ⟨hx, hb, hml, hown, hts⟩ (m9_addLoad l (wR G (ownV vM G H.size)) hv9 _ st9 (xv xs (i + 1)) (xv xs (i + 2)) f9) (cwV 2 hts gL_law_X9_addLoad rfl rfl rfl hd9_addLoad ⟨Nat.le_of_ble_eq_true rfl, Nat.le_of_ble_eq_true rfl⟩) (LI_pre9 hG hLI hv9 [.int (iI (xv xs (i + 1))), .int (iI (xv xs (i + 2)))]) rfl rfl hl.1 rfl (lv_room (Nat.le_of_ble_eq_true rfl)) dL_law_2116 ⟨by show cells + 2 + 0 ≤ 601024; omega, by show slots + 12 + 0 ≤ 7293034; omega⟩) hG hLI (fun zb st9 H locs ho9 hLI => ?_)
  obtain ⟨hz9, e6, h9⟩ := ho9
  refine lv_istore (lv' := [(7, .int (iI zb)), (6, .int (iI k)), (0, .ref b), (1, .ref (G.2.2.1 8 0)), (2, .ref (G.2.2.1 9 0)), (3, .ref qo), (4, .ref qd), (5, .int (iI i))]) hx hb dL_law_2119 hl (by decide) rfl (fun ls hl => ?_)
  refine lv_aload_n hx hb dL_law_2121 rfl (lv_at hl 4 rfl) ?_
  refine lc_mi (va_runV (As := []) (rest := []) ⟨hx, hb, hml, hown, hts⟩ (m9_thrown l (wR G (ownV vM G H.size)) hv9 (fun z u => z = k ∧ SM u a') st9  ⟨e6, h9⟩) (cwV 0 hts gL_law_X9_thrown rfl rfl rfl hd9_thrown ⟨Nat.le_of_ble_eq_true rfl, Nat.le_of_ble_eq_true rfl⟩) (LI_pre9 hG hLI hv9 []) rfl rfl hl.1 rfl (lv_room (Nat.le_of_ble_eq_true rfl)) dL_law_2122 ⟨by show cells + 2 + 0 ≤ 601024; omega, by show slots + 12 + 0 ≤ 7293034; omega⟩) hG hLI (fun zt st9 H locs ho9 hLI => ?_)
  obtain ⟨ez, h9⟩ := ho9
  subst ez
  refine lv_iload hx hb dL_law_2125 (lv_at hl 1 rfl) ?_
  refine lv_icmp_eq (tgt := 2132) hx hb dL_law_2127 (by decide) (fun _ => ?_) (fun n => absurd rfl n)
  refine lv_iload hx hb dL_law_2132 (lv_at hl 1 rfl) ?_
  refine lv_if_ne (tgt := 2149) hx hb dL_law_2134 (by decide) (fun _ => ?_) (fun e0 => ?_)
  · refine lv_goto (tgt := 2661) hx hb dL_law_2149 (by decide) ?_
    exact next _ _ _ _ _ _ _ _ hLI h8 h9 (lv_sub hl [2, 3, 4, 5, 6, 7] rfl)
  · have k0 : zt = 0 := by
      rw [iI_0, iI_eq (inI_s (by omega) (by omega)) inI_0] at e0
      exact e0
    obtain ⟨w9, hw9, ex⟩ := hv k0
    have ew := hone _ _ (hz9 k0) hw9
    subst ew
    subst ex
    refine lv_aload_n hx hb dL_law_2137 rfl (lv_at hl 5 rfl) ?_
    refine r_iconst (n := 0) hx hb dL_law_2138 ?_
    refine w_lald hx hb hG hLI dL_law_2139 ?_
    refine lv_iload hx hb dL_law_2140 (lv_at hl 0 rfl) ?_
    refine lv_i2l (v := cvI zb) hx hb dL_law_2142 rfl ?_
    refine w_lcmp_eq (tgt := 2149) hx hb dL_law_2143 dL_law_2144 (by decide) ?_
    refine lv_goto (tgt := 2661) hx hb dL_law_2149 (by decide) ?_
    exact next _ _ _ _ _ _ _ _ hLI h8 h9 (lv_sub hl [2, 3, 4, 5, 6, 7] rfl)
set_option maxHeartbeats 4000000 in
set_option maxRecDepth 100000 in
theorem law_c34 {p : Program} {l : Launch} {e : Env} {s : State} {m : MethodId} {below : List Frame} {meth : Method} {c : Code} {Q : State → Prop} {b L : Nat} {xs : Nat → Int32} {G : WG} {cD : ClassId} {qo qd : Nat} (hC : LawC l p s m c b L xs G cD qo qd) {i : Int} (hi0 : 0 ≤ i) (hi : i + 6 ≤ L) {st8 st9 : St} {a : Ab} {x : Int64} {y : UInt64} {H : Heap} {locs : List Loc} {cells slots : Nat} {ls : Array Slot} (hc : cells + 2 ≤ 601024) (hs : slots + 12 ≤ 7293034) (hLI : LI G cD qo qd s st8 st9 x y H locs) (h8 : SC st8 a) (h9 : SM st9 a) (hl : lv_has ls 10 [(0, .ref b), (1, .ref (G.2.2.1 8 0)), (2, .ref (G.2.2.1 9 0)), (3, .ref qo), (4, .ref qd), (5, .int (iI i))]) (next : ∀ (st8 st9 : St) (a : Ab) (x : Int64) (y : UInt64) (H : Heap) (locs : List Loc) (ls : Array Slot), LI G cD qo qd s st8 st9 x y H locs → SC st8 a → SM st9 a → lv_has ls 10 [(0, .ref b), (1, .ref (G.2.2.1 8 0)), (2, .ref (G.2.2.1 9 0)), (3, .ref qo), (4, .ref qd), (5, .int (iI i))] → W p l e room_1 s m #[Value.ref b] below meth c H locs (cells + 2) (slots + 12) Q (F0 m 2661 ls [])) : W p l e room_1 s m #[Value.ref b] below meth c H locs cells slots Q (F0 m 2152 ls []) := by
  obtain ⟨hx, hb, hml, hown, hts, hX, hbl, hG, hbA, hL9, hfl⟩ := hC
  have hv8 : vC 8 0 := ⟨by decide, by decide, by decide, by decide⟩
  have hv9 : vM 9 0 := ⟨Or.inl rfl, by decide, by decide⟩
  refine lv_aload_n hx hb dL_law_2152 rfl (lv_at hl 1 rfl) ?_
  refine lv_aload_n hx hb dL_law_2153 rfl (lv_at hl 0 rfl) ?_
  refine lv_iload hx hb dL_law_2154 (lv_at hl 5 rfl) ?_
  refine r_iconst (n := 1) hx hb dL_law_2156 ?_
  refine r_iadd hx hb dL_law_2157 ?_
  refine w_sld hx hb hX hbl hbA hL9 hLI (j := i + 1) (by omega) (by omega) dL_law_2158 ?_
  refine lv_aload_n hx hb dL_law_2159 rfl (lv_at hl 3 rfl) ?_
  obtain ⟨k, P, a', hone, f8, f9⟩ := S_dropLoad  h8 h9 (xv_I _ _)
  refine lc_s (vx_runSW (As := [.ref (G.2.2.1 8 0), .int (iI (xv xs (i + 1))), .ref qo]) (rest := []) ⟨hx, hb, hml, hown, hts⟩ (wL_dropLoad l (wR G (ownA G H.size qo)) hfl qo (fun K i v => (hG.2.2.2.2.2.2.1 K i (Or.inl v)).1) st8 (xv xs (i + 1)) k P a' f8) (vx_cwSW 3 hts gL_law_L_dropLoad rfl rfl rfl (by decide +kernel) ⟨Nat.le_of_ble_eq_true rfl, Nat.le_of_ble_eq_true rfl⟩) (LI_preL hG hLI [.ref (G.2.2.1 8 0), .int (iI (xv xs (i + 1))), .ref qo]) rfl rfl hl.1 rfl (lv_room (Nat.le_of_ble_eq_true rfl)) dL_law_2160 ⟨by show cells + 1 ≤ 601024; omega, by show slots + 6 ≤ 7293034; omega⟩) hG hLI (fun st8 x H locs hk2 h8 hv hLI => ?_)
  refine W.widen (k := cells + 2) (n := slots + 12) (by omega) (by omega) ?_
  refine lv_istore (lv' := [(6, .int (iI k)), (0, .ref b), (1, .ref (G.2.2.1 8 0)), (2, .ref (G.2.2.1 9 0)), (3, .ref qo), (4, .ref qd), (5, .int (iI i))]) hx hb dL_law_2163 hl (by decide) rfl (fun ls hl => ?_)
  refine lv_aload_n hx hb dL_law_2165 rfl (lv_at hl 3 rfl) ?_
  refine lv_aload_n hx hb dL_law_2166 rfl (lv_at hl 1 rfl) ?_
  refine lv_iload hx hb dL_law_2167 (lv_at hl 6 rfl) ?_
  refine r_iconst (n := 1) hx hb dL_law_2169 ?_
  refine r_iadd hx hb dL_law_2170 ?_
  refine w_sld hx hb hX hbl hbA hL9 hLI (j := i + 1) (by omega) (by omega) dL_law_2171 ?_
  refine lc_mi (va_runV (As := [.int (iI (xv xs (i + 1)))]) (rest := []) ⟨hx, hb, hml, hown, hts⟩ (m9_dropLoad l (wR G (ownV vM G H.size)) hv9 _ st9 (xv xs (i + 1)) f9) (cwV 1 hts gL_law_X9_dropLoad rfl rfl rfl hd9_dropLoad ⟨Nat.le_of_ble_eq_true rfl, Nat.le_of_ble_eq_true rfl⟩) (LI_pre9 hG hLI hv9 [.int (iI (xv xs (i + 1)))]) rfl rfl hl.1 rfl (lv_room (Nat.le_of_ble_eq_true rfl)) dL_law_2172 ⟨by show cells + 2 + 0 ≤ 601024; omega, by show slots + 12 + 0 ≤ 7293034; omega⟩) hG hLI (fun zb st9 H locs ho9 hLI => ?_)
  obtain ⟨hz9, e6, h9⟩ := ho9
  refine lv_istore (lv' := [(7, .int (iI zb)), (6, .int (iI k)), (0, .ref b), (1, .ref (G.2.2.1 8 0)), (2, .ref (G.2.2.1 9 0)), (3, .ref qo), (4, .ref qd), (5, .int (iI i))]) hx hb dL_law_2175 hl (by decide) rfl (fun ls hl => ?_)
  refine lv_aload_n hx hb dL_law_2177 rfl (lv_at hl 4 rfl) ?_
  refine lc_mi (va_runV (As := []) (rest := []) ⟨hx, hb, hml, hown, hts⟩ (m9_thrown l (wR G (ownV vM G H.size)) hv9 (fun z u => z = k ∧ SM u a') st9  ⟨e6, h9⟩) (cwV 0 hts gL_law_X9_thrown rfl rfl rfl hd9_thrown ⟨Nat.le_of_ble_eq_true rfl, Nat.le_of_ble_eq_true rfl⟩) (LI_pre9 hG hLI hv9 []) rfl rfl hl.1 rfl (lv_room (Nat.le_of_ble_eq_true rfl)) dL_law_2178 ⟨by show cells + 2 + 0 ≤ 601024; omega, by show slots + 12 + 0 ≤ 7293034; omega⟩) hG hLI (fun zt st9 H locs ho9 hLI => ?_)
  obtain ⟨ez, h9⟩ := ho9
  subst ez
  refine lv_iload hx hb dL_law_2181 (lv_at hl 1 rfl) ?_
  refine lv_icmp_eq (tgt := 2188) hx hb dL_law_2183 (by decide) (fun _ => ?_) (fun n => absurd rfl n)
  refine lv_iload hx hb dL_law_2188 (lv_at hl 1 rfl) ?_
  refine lv_if_ne (tgt := 2205) hx hb dL_law_2190 (by decide) (fun _ => ?_) (fun e0 => ?_)
  · refine lv_goto (tgt := 2661) hx hb dL_law_2205 (by decide) ?_
    exact next _ _ _ _ _ _ _ _ hLI h8 h9 (lv_sub hl [2, 3, 4, 5, 6, 7] rfl)
  · have k0 : zt = 0 := by
      rw [iI_0, iI_eq (inI_s (by omega) (by omega)) inI_0] at e0
      exact e0
    obtain ⟨w9, hw9, ex⟩ := hv k0
    have ew := hone _ _ (hz9 k0) hw9
    subst ew
    subst ex
    refine lv_aload_n hx hb dL_law_2193 rfl (lv_at hl 5 rfl) ?_
    refine r_iconst (n := 0) hx hb dL_law_2194 ?_
    refine w_lald hx hb hG hLI dL_law_2195 ?_
    refine lv_iload hx hb dL_law_2196 (lv_at hl 0 rfl) ?_
    refine lv_i2l (v := cvI zb) hx hb dL_law_2198 rfl ?_
    refine w_lcmp_eq (tgt := 2205) hx hb dL_law_2199 dL_law_2200 (by decide) ?_
    refine lv_goto (tgt := 2661) hx hb dL_law_2205 (by decide) ?_
    exact next _ _ _ _ _ _ _ _ hLI h8 h9 (lv_sub hl [2, 3, 4, 5, 6, 7] rfl)
set_option maxHeartbeats 4000000 in
set_option maxRecDepth 100000 in
theorem law_c35 {p : Program} {l : Launch} {e : Env} {s : State} {m : MethodId} {below : List Frame} {meth : Method} {c : Code} {Q : State → Prop} {b L : Nat} {xs : Nat → Int32} {G : WG} {cD : ClassId} {qo qd : Nat} (hC : LawC l p s m c b L xs G cD qo qd) {i : Int} (hi0 : 0 ≤ i) (hi : i + 6 ≤ L) {st8 st9 : St} {a : Ab} {x : Int64} {y : UInt64} {H : Heap} {locs : List Loc} {cells slots : Nat} {ls : Array Slot} (hc : cells + 2 ≤ 601024) (hs : slots + 12 ≤ 7293034) (hLI : LI G cD qo qd s st8 st9 x y H locs) (h8 : SC st8 a) (h9 : SM st9 a) (hl : lv_has ls 10 [(0, .ref b), (1, .ref (G.2.2.1 8 0)), (2, .ref (G.2.2.1 9 0)), (3, .ref qo), (4, .ref qd), (5, .int (iI i))]) (next : ∀ (st8 st9 : St) (a : Ab) (x : Int64) (y : UInt64) (H : Heap) (locs : List Loc) (ls : Array Slot), LI G cD qo qd s st8 st9 x y H locs → SC st8 a → SM st9 a → lv_has ls 10 [(0, .ref b), (1, .ref (G.2.2.1 8 0)), (2, .ref (G.2.2.1 9 0)), (3, .ref qo), (4, .ref qd), (5, .int (iI i))] → W p l e room_1 s m #[Value.ref b] below meth c H locs (cells + 2) (slots + 12) Q (F0 m 2661 ls [])) : W p l e room_1 s m #[Value.ref b] below meth c H locs cells slots Q (F0 m 2208 ls []) := by
  obtain ⟨hx, hb, hml, hown, hts, hX, hbl, hG, hbA, hL9, hfl⟩ := hC
  have hv8 : vC 8 0 := ⟨by decide, by decide, by decide, by decide⟩
  have hv9 : vM 9 0 := ⟨Or.inl rfl, by decide, by decide⟩
  refine lv_aload_n hx hb dL_law_2208 rfl (lv_at hl 1 rfl) ?_
  refine lv_aload_n hx hb dL_law_2209 rfl (lv_at hl 0 rfl) ?_
  refine lv_iload hx hb dL_law_2210 (lv_at hl 5 rfl) ?_
  refine r_iconst (n := 1) hx hb dL_law_2212 ?_
  refine r_iadd hx hb dL_law_2213 ?_
  refine w_sld hx hb hX hbl hbA hL9 hLI (j := i + 1) (by omega) (by omega) dL_law_2214 ?_
  refine lv_aload_n hx hb dL_law_2215 rfl (lv_at hl 0 rfl) ?_
  refine lv_iload hx hb dL_law_2216 (lv_at hl 5 rfl) ?_
  refine r_iconst (n := 2) hx hb dL_law_2218 ?_
  refine r_iadd hx hb dL_law_2219 ?_
  refine w_sld hx hb hX hbl hbA hL9 hLI (j := i + 2) (by omega) (by omega) dL_law_2220 ?_
  refine lv_aload_n hx hb dL_law_2221 rfl (lv_at hl 3 rfl) ?_
  obtain ⟨k, P, a', hone, f8, f9⟩ := S_addAxle  h8 h9 (xv_I _ _) (xv_I _ _)
  refine lc_s (vx_runSW (As := [.ref (G.2.2.1 8 0), .int (iI (xv xs (i + 1))), .int (iI (xv xs (i + 2))), .ref qo]) (rest := []) ⟨hx, hb, hml, hown, hts⟩ (wL_addAxle l (wR G (ownA G H.size qo)) hfl qo (fun K i v => (hG.2.2.2.2.2.2.1 K i (Or.inl v)).1) st8 (xv xs (i + 1)) (xv xs (i + 2)) k P a' f8) (vx_cwSW 4 hts gL_law_L_addAxle rfl rfl rfl (by decide +kernel) ⟨Nat.le_of_ble_eq_true rfl, Nat.le_of_ble_eq_true rfl⟩) (LI_preL hG hLI [.ref (G.2.2.1 8 0), .int (iI (xv xs (i + 1))), .int (iI (xv xs (i + 2))), .ref qo]) rfl rfl hl.1 rfl (lv_room (Nat.le_of_ble_eq_true rfl)) dL_law_2222 ⟨by show cells + 2 ≤ 601024; omega, by show slots + 12 ≤ 7293034; omega⟩) hG hLI (fun st8 x H locs hk2 h8 hv hLI => ?_)
  refine W.widen (k := cells + 2) (n := slots + 12) (by omega) (by omega) ?_
  refine lv_istore (lv' := [(6, .int (iI k)), (0, .ref b), (1, .ref (G.2.2.1 8 0)), (2, .ref (G.2.2.1 9 0)), (3, .ref qo), (4, .ref qd), (5, .int (iI i))]) hx hb dL_law_2225 hl (by decide) rfl (fun ls hl => ?_)
  refine lv_aload_n hx hb dL_law_2227 rfl (lv_at hl 3 rfl) ?_
  refine lv_aload_n hx hb dL_law_2228 rfl (lv_at hl 1 rfl) ?_
  refine lv_iload hx hb dL_law_2229 (lv_at hl 6 rfl) ?_
  refine r_iconst (n := 1) hx hb dL_law_2231 ?_
  refine r_iadd hx hb dL_law_2232 ?_
  refine w_sld hx hb hX hbl hbA hL9 hLI (j := i + 1) (by omega) (by omega) dL_law_2233 ?_
  refine lv_aload_n hx hb dL_law_2234 rfl (lv_at hl 1 rfl) ?_
  refine lv_iload hx hb dL_law_2235 (lv_at hl 6 rfl) ?_
  refine r_iconst (n := 2) hx hb dL_law_2237 ?_
  refine r_iadd hx hb dL_law_2238 ?_
  refine w_sld hx hb hX hbl hbA hL9 hLI (j := i + 2) (by omega) (by omega) dL_law_2239 ?_
  refine lc_mi (va_runV (As := [.int (iI (xv xs (i + 1))), .int (iI (xv xs (i + 2)))]) (rest := []) ⟨hx, hb, hml, hown, hts⟩ (m9_addAxle l (wR G (ownV vM G H.size)) hv9 _ st9 (xv xs (i + 1)) (xv xs (i + 2)) f9) (cwV 2 hts gL_law_X9_addAxle rfl rfl rfl hd9_addAxle ⟨Nat.le_of_ble_eq_true rfl, Nat.le_of_ble_eq_true rfl⟩) (LI_pre9 hG hLI hv9 [.int (iI (xv xs (i + 1))), .int (iI (xv xs (i + 2)))]) rfl rfl hl.1 rfl (lv_room (Nat.le_of_ble_eq_true rfl)) dL_law_2240 ⟨by show cells + 2 + 0 ≤ 601024; omega, by show slots + 12 + 0 ≤ 7293034; omega⟩) hG hLI (fun zb st9 H locs ho9 hLI => ?_)
  obtain ⟨hz9, e6, h9⟩ := ho9
  refine lv_istore (lv' := [(7, .int (iI zb)), (6, .int (iI k)), (0, .ref b), (1, .ref (G.2.2.1 8 0)), (2, .ref (G.2.2.1 9 0)), (3, .ref qo), (4, .ref qd), (5, .int (iI i))]) hx hb dL_law_2243 hl (by decide) rfl (fun ls hl => ?_)
  refine lv_aload_n hx hb dL_law_2245 rfl (lv_at hl 4 rfl) ?_
  refine lc_mi (va_runV (As := []) (rest := []) ⟨hx, hb, hml, hown, hts⟩ (m9_thrown l (wR G (ownV vM G H.size)) hv9 (fun z u => z = k ∧ SM u a') st9  ⟨e6, h9⟩) (cwV 0 hts gL_law_X9_thrown rfl rfl rfl hd9_thrown ⟨Nat.le_of_ble_eq_true rfl, Nat.le_of_ble_eq_true rfl⟩) (LI_pre9 hG hLI hv9 []) rfl rfl hl.1 rfl (lv_room (Nat.le_of_ble_eq_true rfl)) dL_law_2246 ⟨by show cells + 2 + 0 ≤ 601024; omega, by show slots + 12 + 0 ≤ 7293034; omega⟩) hG hLI (fun zt st9 H locs ho9 hLI => ?_)
  obtain ⟨ez, h9⟩ := ho9
  subst ez
  refine lv_iload hx hb dL_law_2249 (lv_at hl 1 rfl) ?_
  refine lv_icmp_eq (tgt := 2256) hx hb dL_law_2251 (by decide) (fun _ => ?_) (fun n => absurd rfl n)
  refine lv_iload hx hb dL_law_2256 (lv_at hl 1 rfl) ?_
  refine lv_if_ne (tgt := 2273) hx hb dL_law_2258 (by decide) (fun _ => ?_) (fun e0 => ?_)
  · refine lv_goto (tgt := 2661) hx hb dL_law_2273 (by decide) ?_
    exact next _ _ _ _ _ _ _ _ hLI h8 h9 (lv_sub hl [2, 3, 4, 5, 6, 7] rfl)
  · have k0 : zt = 0 := by
      rw [iI_0, iI_eq (inI_s (by omega) (by omega)) inI_0] at e0
      exact e0
    obtain ⟨w9, hw9, ex⟩ := hv k0
    have ew := hone _ _ (hz9 k0) hw9
    subst ew
    subst ex
    refine lv_aload_n hx hb dL_law_2261 rfl (lv_at hl 5 rfl) ?_
    refine r_iconst (n := 0) hx hb dL_law_2262 ?_
    refine w_lald hx hb hG hLI dL_law_2263 ?_
    refine lv_iload hx hb dL_law_2264 (lv_at hl 0 rfl) ?_
    refine lv_i2l (v := cvI zb) hx hb dL_law_2266 rfl ?_
    refine w_lcmp_eq (tgt := 2273) hx hb dL_law_2267 dL_law_2268 (by decide) ?_
    refine lv_goto (tgt := 2661) hx hb dL_law_2273 (by decide) ?_
    exact next _ _ _ _ _ _ _ _ hLI h8 h9 (lv_sub hl [2, 3, 4, 5, 6, 7] rfl)
set_option maxHeartbeats 4000000 in
set_option maxRecDepth 100000 in
theorem law_c36 {p : Program} {l : Launch} {e : Env} {s : State} {m : MethodId} {below : List Frame} {meth : Method} {c : Code} {Q : State → Prop} {b L : Nat} {xs : Nat → Int32} {G : WG} {cD : ClassId} {qo qd : Nat} (hC : LawC l p s m c b L xs G cD qo qd) {i : Int} (hi0 : 0 ≤ i) (hi : i + 6 ≤ L) {st8 st9 : St} {a : Ab} {x : Int64} {y : UInt64} {H : Heap} {locs : List Loc} {cells slots : Nat} {ls : Array Slot} (hc : cells + 2 ≤ 601024) (hs : slots + 12 ≤ 7293034) (hLI : LI G cD qo qd s st8 st9 x y H locs) (h8 : SC st8 a) (h9 : SM st9 a) (hl : lv_has ls 10 [(0, .ref b), (1, .ref (G.2.2.1 8 0)), (2, .ref (G.2.2.1 9 0)), (3, .ref qo), (4, .ref qd), (5, .int (iI i))]) (next : ∀ (st8 st9 : St) (a : Ab) (x : Int64) (y : UInt64) (H : Heap) (locs : List Loc) (ls : Array Slot), LI G cD qo qd s st8 st9 x y H locs → SC st8 a → SM st9 a → lv_has ls 10 [(0, .ref b), (1, .ref (G.2.2.1 8 0)), (2, .ref (G.2.2.1 9 0)), (3, .ref qo), (4, .ref qd), (5, .int (iI i))] → W p l e room_1 s m #[Value.ref b] below meth c H locs (cells + 2) (slots + 12) Q (F0 m 2661 ls [])) : W p l e room_1 s m #[Value.ref b] below meth c H locs cells slots Q (F0 m 2276 ls []) := by
  obtain ⟨hx, hb, hml, hown, hts, hX, hbl, hG, hbA, hL9, hfl⟩ := hC
  have hv8 : vC 8 0 := ⟨by decide, by decide, by decide, by decide⟩
  have hv9 : vM 9 0 := ⟨Or.inl rfl, by decide, by decide⟩
  refine lv_aload_n hx hb dL_law_2276 rfl (lv_at hl 1 rfl) ?_
  refine lv_aload_n hx hb dL_law_2277 rfl (lv_at hl 0 rfl) ?_
  refine lv_iload hx hb dL_law_2278 (lv_at hl 5 rfl) ?_
  refine r_iconst (n := 1) hx hb dL_law_2280 ?_
  refine r_iadd hx hb dL_law_2281 ?_
  refine w_sld hx hb hX hbl hbA hL9 hLI (j := i + 1) (by omega) (by omega) dL_law_2282 ?_
  refine lv_aload_n hx hb dL_law_2283 rfl (lv_at hl 3 rfl) ?_
  obtain ⟨k, P, a', hone, f8, f9⟩ := S_dropAxle  h8 h9 (xv_I _ _)
  refine lc_s (vx_runSW (As := [.ref (G.2.2.1 8 0), .int (iI (xv xs (i + 1))), .ref qo]) (rest := []) ⟨hx, hb, hml, hown, hts⟩ (wL_dropAxle l (wR G (ownA G H.size qo)) hfl qo (fun K i v => (hG.2.2.2.2.2.2.1 K i (Or.inl v)).1) st8 (xv xs (i + 1)) k P a' f8) (vx_cwSW 3 hts gL_law_L_dropAxle rfl rfl rfl (by decide +kernel) ⟨Nat.le_of_ble_eq_true rfl, Nat.le_of_ble_eq_true rfl⟩) (LI_preL hG hLI [.ref (G.2.2.1 8 0), .int (iI (xv xs (i + 1))), .ref qo]) rfl rfl hl.1 rfl (lv_room (Nat.le_of_ble_eq_true rfl)) dL_law_2284 ⟨by show cells + 1 ≤ 601024; omega, by show slots + 6 ≤ 7293034; omega⟩) hG hLI (fun st8 x H locs hk2 h8 hv hLI => ?_)
  refine W.widen (k := cells + 2) (n := slots + 12) (by omega) (by omega) ?_
  refine lv_istore (lv' := [(6, .int (iI k)), (0, .ref b), (1, .ref (G.2.2.1 8 0)), (2, .ref (G.2.2.1 9 0)), (3, .ref qo), (4, .ref qd), (5, .int (iI i))]) hx hb dL_law_2287 hl (by decide) rfl (fun ls hl => ?_)
  refine lv_aload_n hx hb dL_law_2289 rfl (lv_at hl 3 rfl) ?_
  refine lv_aload_n hx hb dL_law_2290 rfl (lv_at hl 1 rfl) ?_
  refine lv_iload hx hb dL_law_2291 (lv_at hl 6 rfl) ?_
  refine r_iconst (n := 1) hx hb dL_law_2293 ?_
  refine r_iadd hx hb dL_law_2294 ?_
  refine w_sld hx hb hX hbl hbA hL9 hLI (j := i + 1) (by omega) (by omega) dL_law_2295 ?_
  refine lc_mi (va_runV (As := [.int (iI (xv xs (i + 1)))]) (rest := []) ⟨hx, hb, hml, hown, hts⟩ (m9_dropAxle l (wR G (ownV vM G H.size)) hv9 _ st9 (xv xs (i + 1)) f9) (cwV 1 hts gL_law_X9_dropAxle rfl rfl rfl hd9_dropAxle ⟨Nat.le_of_ble_eq_true rfl, Nat.le_of_ble_eq_true rfl⟩) (LI_pre9 hG hLI hv9 [.int (iI (xv xs (i + 1)))]) rfl rfl hl.1 rfl (lv_room (Nat.le_of_ble_eq_true rfl)) dL_law_2296 ⟨by show cells + 2 + 0 ≤ 601024; omega, by show slots + 12 + 0 ≤ 7293034; omega⟩) hG hLI (fun zb st9 H locs ho9 hLI => ?_)
  obtain ⟨hz9, e6, h9⟩ := ho9
  refine lv_istore (lv' := [(7, .int (iI zb)), (6, .int (iI k)), (0, .ref b), (1, .ref (G.2.2.1 8 0)), (2, .ref (G.2.2.1 9 0)), (3, .ref qo), (4, .ref qd), (5, .int (iI i))]) hx hb dL_law_2299 hl (by decide) rfl (fun ls hl => ?_)
  refine lv_aload_n hx hb dL_law_2301 rfl (lv_at hl 4 rfl) ?_
  refine lc_mi (va_runV (As := []) (rest := []) ⟨hx, hb, hml, hown, hts⟩ (m9_thrown l (wR G (ownV vM G H.size)) hv9 (fun z u => z = k ∧ SM u a') st9  ⟨e6, h9⟩) (cwV 0 hts gL_law_X9_thrown rfl rfl rfl hd9_thrown ⟨Nat.le_of_ble_eq_true rfl, Nat.le_of_ble_eq_true rfl⟩) (LI_pre9 hG hLI hv9 []) rfl rfl hl.1 rfl (lv_room (Nat.le_of_ble_eq_true rfl)) dL_law_2302 ⟨by show cells + 2 + 0 ≤ 601024; omega, by show slots + 12 + 0 ≤ 7293034; omega⟩) hG hLI (fun zt st9 H locs ho9 hLI => ?_)
  obtain ⟨ez, h9⟩ := ho9
  subst ez
  refine lv_iload hx hb dL_law_2305 (lv_at hl 1 rfl) ?_
  refine lv_icmp_eq (tgt := 2312) hx hb dL_law_2307 (by decide) (fun _ => ?_) (fun n => absurd rfl n)
  refine lv_iload hx hb dL_law_2312 (lv_at hl 1 rfl) ?_
  refine lv_if_ne (tgt := 2329) hx hb dL_law_2314 (by decide) (fun _ => ?_) (fun e0 => ?_)
  · refine lv_goto (tgt := 2661) hx hb dL_law_2329 (by decide) ?_
    exact next _ _ _ _ _ _ _ _ hLI h8 h9 (lv_sub hl [2, 3, 4, 5, 6, 7] rfl)
  · have k0 : zt = 0 := by
      rw [iI_0, iI_eq (inI_s (by omega) (by omega)) inI_0] at e0
      exact e0
    obtain ⟨w9, hw9, ex⟩ := hv k0
    have ew := hone _ _ (hz9 k0) hw9
    subst ew
    subst ex
    refine lv_aload_n hx hb dL_law_2317 rfl (lv_at hl 5 rfl) ?_
    refine r_iconst (n := 0) hx hb dL_law_2318 ?_
    refine w_lald hx hb hG hLI dL_law_2319 ?_
    refine lv_iload hx hb dL_law_2320 (lv_at hl 0 rfl) ?_
    refine lv_i2l (v := cvI zb) hx hb dL_law_2322 rfl ?_
    refine w_lcmp_eq (tgt := 2329) hx hb dL_law_2323 dL_law_2324 (by decide) ?_
    refine lv_goto (tgt := 2661) hx hb dL_law_2329 (by decide) ?_
    exact next _ _ _ _ _ _ _ _ hLI h8 h9 (lv_sub hl [2, 3, 4, 5, 6, 7] rfl)
set_option maxHeartbeats 4000000 in
set_option maxRecDepth 100000 in
theorem law_c37 {p : Program} {l : Launch} {e : Env} {s : State} {m : MethodId} {below : List Frame} {meth : Method} {c : Code} {Q : State → Prop} {b L : Nat} {xs : Nat → Int32} {G : WG} {cD : ClassId} {qo qd : Nat} (hC : LawC l p s m c b L xs G cD qo qd) {i : Int} (hi0 : 0 ≤ i) (hi : i + 6 ≤ L) {st8 st9 : St} {a : Ab} {x : Int64} {y : UInt64} {H : Heap} {locs : List Loc} {cells slots : Nat} {ls : Array Slot} (hc : cells + 2 ≤ 601024) (hs : slots + 12 ≤ 7293034) (hLI : LI G cD qo qd s st8 st9 x y H locs) (h8 : SC st8 a) (h9 : SM st9 a) (hl : lv_has ls 10 [(0, .ref b), (1, .ref (G.2.2.1 8 0)), (2, .ref (G.2.2.1 9 0)), (3, .ref qo), (4, .ref qd), (5, .int (iI i))]) (next : ∀ (st8 st9 : St) (a : Ab) (x : Int64) (y : UInt64) (H : Heap) (locs : List Loc) (ls : Array Slot), LI G cD qo qd s st8 st9 x y H locs → SC st8 a → SM st9 a → lv_has ls 10 [(0, .ref b), (1, .ref (G.2.2.1 8 0)), (2, .ref (G.2.2.1 9 0)), (3, .ref qo), (4, .ref qd), (5, .int (iI i))] → W p l e room_1 s m #[Value.ref b] below meth c H locs (cells + 2) (slots + 12) Q (F0 m 2661 ls [])) : W p l e room_1 s m #[Value.ref b] below meth c H locs cells slots Q (F0 m 2332 ls []) := by
  obtain ⟨hx, hb, hml, hown, hts, hX, hbl, hG, hbA, hL9, hfl⟩ := hC
  have hv8 : vC 8 0 := ⟨by decide, by decide, by decide, by decide⟩
  have hv9 : vM 9 0 := ⟨Or.inl rfl, by decide, by decide⟩
  refine lv_aload_n hx hb dL_law_2332 rfl (lv_at hl 1 rfl) ?_
  refine lv_aload_n hx hb dL_law_2333 rfl (lv_at hl 0 rfl) ?_
  refine lv_iload hx hb dL_law_2334 (lv_at hl 5 rfl) ?_
  refine r_iconst (n := 1) hx hb dL_law_2336 ?_
  refine r_iadd hx hb dL_law_2337 ?_
  refine w_sld hx hb hX hbl hbA hL9 hLI (j := i + 1) (by omega) (by omega) dL_law_2338 ?_
  refine lv_aload_n hx hb dL_law_2339 rfl (lv_at hl 0 rfl) ?_
  refine lv_iload hx hb dL_law_2340 (lv_at hl 5 rfl) ?_
  refine r_iconst (n := 2) hx hb dL_law_2342 ?_
  refine r_iadd hx hb dL_law_2343 ?_
  refine w_sld hx hb hX hbl hbA hL9 hLI (j := i + 2) (by omega) (by omega) dL_law_2344 ?_
  refine lv_aload_n hx hb dL_law_2345 rfl (lv_at hl 3 rfl) ?_
  obtain ⟨k, P, a', hone, f8, f9⟩ := S_setBearing  h8 h9 (xv_I _ _) (xv_I _ _)
  refine lc_s (vx_runSW (As := [.ref (G.2.2.1 8 0), .int (iI (xv xs (i + 1))), .int (iI (xv xs (i + 2))), .ref qo]) (rest := []) ⟨hx, hb, hml, hown, hts⟩ (wL_setBearing l (wR G (ownA G H.size qo)) hfl qo (fun K i v => (hG.2.2.2.2.2.2.1 K i (Or.inl v)).1) st8 (xv xs (i + 1)) (xv xs (i + 2)) k P a' f8) (vx_cwSW 4 hts gL_law_L_setBearing rfl rfl rfl (by decide +kernel) ⟨Nat.le_of_ble_eq_true rfl, Nat.le_of_ble_eq_true rfl⟩) (LI_preL hG hLI [.ref (G.2.2.1 8 0), .int (iI (xv xs (i + 1))), .int (iI (xv xs (i + 2))), .ref qo]) rfl rfl hl.1 rfl (lv_room (Nat.le_of_ble_eq_true rfl)) dL_law_2346 ⟨by show cells + 2 ≤ 601024; omega, by show slots + 12 ≤ 7293034; omega⟩) hG hLI (fun st8 x H locs hk2 h8 hv hLI => ?_)
  refine W.widen (k := cells + 2) (n := slots + 12) (by omega) (by omega) ?_
  refine lv_istore (lv' := [(6, .int (iI k)), (0, .ref b), (1, .ref (G.2.2.1 8 0)), (2, .ref (G.2.2.1 9 0)), (3, .ref qo), (4, .ref qd), (5, .int (iI i))]) hx hb dL_law_2349 hl (by decide) rfl (fun ls hl => ?_)
  refine lv_aload_n hx hb dL_law_2351 rfl (lv_at hl 3 rfl) ?_
  refine lv_aload_n hx hb dL_law_2352 rfl (lv_at hl 1 rfl) ?_
  refine lv_iload hx hb dL_law_2353 (lv_at hl 6 rfl) ?_
  refine r_iconst (n := 1) hx hb dL_law_2355 ?_
  refine r_iadd hx hb dL_law_2356 ?_
  refine w_sld hx hb hX hbl hbA hL9 hLI (j := i + 1) (by omega) (by omega) dL_law_2357 ?_
  refine lv_aload_n hx hb dL_law_2358 rfl (lv_at hl 1 rfl) ?_
  refine lv_iload hx hb dL_law_2359 (lv_at hl 6 rfl) ?_
  refine r_iconst (n := 2) hx hb dL_law_2361 ?_
  refine r_iadd hx hb dL_law_2362 ?_
  refine w_sld hx hb hX hbl hbA hL9 hLI (j := i + 2) (by omega) (by omega) dL_law_2363 ?_
  refine lc_mi (va_runV (As := [.int (iI (xv xs (i + 1))), .int (iI (xv xs (i + 2)))]) (rest := []) ⟨hx, hb, hml, hown, hts⟩ (m9_setBearing l (wR G (ownV vM G H.size)) hv9 _ st9 (xv xs (i + 1)) (xv xs (i + 2)) f9) (cwV 2 hts gL_law_X9_setBearing rfl rfl rfl hd9_setBearing ⟨Nat.le_of_ble_eq_true rfl, Nat.le_of_ble_eq_true rfl⟩) (LI_pre9 hG hLI hv9 [.int (iI (xv xs (i + 1))), .int (iI (xv xs (i + 2)))]) rfl rfl hl.1 rfl (lv_room (Nat.le_of_ble_eq_true rfl)) dL_law_2364 ⟨by show cells + 2 + 0 ≤ 601024; omega, by show slots + 12 + 0 ≤ 7293034; omega⟩) hG hLI (fun zb st9 H locs ho9 hLI => ?_)
  obtain ⟨hz9, e6, h9⟩ := ho9
  refine lv_istore (lv' := [(7, .int (iI zb)), (6, .int (iI k)), (0, .ref b), (1, .ref (G.2.2.1 8 0)), (2, .ref (G.2.2.1 9 0)), (3, .ref qo), (4, .ref qd), (5, .int (iI i))]) hx hb dL_law_2367 hl (by decide) rfl (fun ls hl => ?_)
  refine lv_aload_n hx hb dL_law_2369 rfl (lv_at hl 4 rfl) ?_
  refine lc_mi (va_runV (As := []) (rest := []) ⟨hx, hb, hml, hown, hts⟩ (m9_thrown l (wR G (ownV vM G H.size)) hv9 (fun z u => z = k ∧ SM u a') st9  ⟨e6, h9⟩) (cwV 0 hts gL_law_X9_thrown rfl rfl rfl hd9_thrown ⟨Nat.le_of_ble_eq_true rfl, Nat.le_of_ble_eq_true rfl⟩) (LI_pre9 hG hLI hv9 []) rfl rfl hl.1 rfl (lv_room (Nat.le_of_ble_eq_true rfl)) dL_law_2370 ⟨by show cells + 2 + 0 ≤ 601024; omega, by show slots + 12 + 0 ≤ 7293034; omega⟩) hG hLI (fun zt st9 H locs ho9 hLI => ?_)
  obtain ⟨ez, h9⟩ := ho9
  subst ez
  refine lv_iload hx hb dL_law_2373 (lv_at hl 1 rfl) ?_
  refine lv_icmp_eq (tgt := 2380) hx hb dL_law_2375 (by decide) (fun _ => ?_) (fun n => absurd rfl n)
  refine lv_iload hx hb dL_law_2380 (lv_at hl 1 rfl) ?_
  refine lv_if_ne (tgt := 2397) hx hb dL_law_2382 (by decide) (fun _ => ?_) (fun e0 => ?_)
  · refine lv_goto (tgt := 2661) hx hb dL_law_2397 (by decide) ?_
    exact next _ _ _ _ _ _ _ _ hLI h8 h9 (lv_sub hl [2, 3, 4, 5, 6, 7] rfl)
  · have k0 : zt = 0 := by
      rw [iI_0, iI_eq (inI_s (by omega) (by omega)) inI_0] at e0
      exact e0
    obtain ⟨w9, hw9, ex⟩ := hv k0
    have ew := hone _ _ (hz9 k0) hw9
    subst ew
    subst ex
    refine lv_aload_n hx hb dL_law_2385 rfl (lv_at hl 5 rfl) ?_
    refine r_iconst (n := 0) hx hb dL_law_2386 ?_
    refine w_lald hx hb hG hLI dL_law_2387 ?_
    refine lv_iload hx hb dL_law_2388 (lv_at hl 0 rfl) ?_
    refine lv_i2l (v := cvI zb) hx hb dL_law_2390 rfl ?_
    refine w_lcmp_eq (tgt := 2397) hx hb dL_law_2391 dL_law_2392 (by decide) ?_
    refine lv_goto (tgt := 2661) hx hb dL_law_2397 (by decide) ?_
    exact next _ _ _ _ _ _ _ _ hLI h8 h9 (lv_sub hl [2, 3, 4, 5, 6, 7] rfl)
set_option maxHeartbeats 4000000 in
set_option maxRecDepth 100000 in
theorem law_c38 {p : Program} {l : Launch} {e : Env} {s : State} {m : MethodId} {below : List Frame} {meth : Method} {c : Code} {Q : State → Prop} {b L : Nat} {xs : Nat → Int32} {G : WG} {cD : ClassId} {qo qd : Nat} (hC : LawC l p s m c b L xs G cD qo qd) {i : Int} (hi0 : 0 ≤ i) (hi : i + 6 ≤ L) {st8 st9 : St} {a : Ab} {x : Int64} {y : UInt64} {H : Heap} {locs : List Loc} {cells slots : Nat} {ls : Array Slot} (hc : cells + 2 ≤ 601024) (hs : slots + 12 ≤ 7293034) (hLI : LI G cD qo qd s st8 st9 x y H locs) (h8 : SC st8 a) (h9 : SM st9 a) (hl : lv_has ls 10 [(0, .ref b), (1, .ref (G.2.2.1 8 0)), (2, .ref (G.2.2.1 9 0)), (3, .ref qo), (4, .ref qd), (5, .int (iI i))]) (next : ∀ (st8 st9 : St) (a : Ab) (x : Int64) (y : UInt64) (H : Heap) (locs : List Loc) (ls : Array Slot), LI G cD qo qd s st8 st9 x y H locs → SC st8 a → SM st9 a → lv_has ls 10 [(0, .ref b), (1, .ref (G.2.2.1 8 0)), (2, .ref (G.2.2.1 9 0)), (3, .ref qo), (4, .ref qd), (5, .int (iI i))] → W p l e room_1 s m #[Value.ref b] below meth c H locs (cells + 2) (slots + 12) Q (F0 m 2661 ls [])) : W p l e room_1 s m #[Value.ref b] below meth c H locs cells slots Q (F0 m 2400 ls []) := by
  obtain ⟨hx, hb, hml, hown, hts, hX, hbl, hG, hbA, hL9, hfl⟩ := hC
  have hv8 : vC 8 0 := ⟨by decide, by decide, by decide, by decide⟩
  have hv9 : vM 9 0 := ⟨Or.inl rfl, by decide, by decide⟩
  refine lv_aload_n hx hb dL_law_2400 rfl (lv_at hl 1 rfl) ?_
  refine lv_aload_n hx hb dL_law_2401 rfl (lv_at hl 0 rfl) ?_
  refine lv_iload hx hb dL_law_2402 (lv_at hl 5 rfl) ?_
  refine r_iconst (n := 1) hx hb dL_law_2404 ?_
  refine r_iadd hx hb dL_law_2405 ?_
  refine w_sld hx hb hX hbl hbA hL9 hLI (j := i + 1) (by omega) (by omega) dL_law_2406 ?_
  refine lv_aload_n hx hb dL_law_2407 rfl (lv_at hl 3 rfl) ?_
  obtain ⟨k, P, a', hone, f8, f9⟩ := S_setMost  h8 h9 (xv_I _ _)
  refine lc_s (vx_runSW (As := [.ref (G.2.2.1 8 0), .int (iI (xv xs (i + 1))), .ref qo]) (rest := []) ⟨hx, hb, hml, hown, hts⟩ (wL_setMost l (wR G (ownA G H.size qo)) hfl qo (fun K i v => (hG.2.2.2.2.2.2.1 K i (Or.inl v)).1) st8 (xv xs (i + 1)) k P a' f8) (vx_cwSW 3 hts gL_law_L_setMost rfl rfl rfl (by decide +kernel) ⟨Nat.le_of_ble_eq_true rfl, Nat.le_of_ble_eq_true rfl⟩) (LI_preL hG hLI [.ref (G.2.2.1 8 0), .int (iI (xv xs (i + 1))), .ref qo]) rfl rfl hl.1 rfl (lv_room (Nat.le_of_ble_eq_true rfl)) dL_law_2408 ⟨by show cells + 1 ≤ 601024; omega, by show slots + 6 ≤ 7293034; omega⟩) hG hLI (fun st8 x H locs hk2 h8 hv hLI => ?_)
  refine W.widen (k := cells + 2) (n := slots + 12) (by omega) (by omega) ?_
  refine lv_istore (lv' := [(6, .int (iI k)), (0, .ref b), (1, .ref (G.2.2.1 8 0)), (2, .ref (G.2.2.1 9 0)), (3, .ref qo), (4, .ref qd), (5, .int (iI i))]) hx hb dL_law_2411 hl (by decide) rfl (fun ls hl => ?_)
  refine lv_aload_n hx hb dL_law_2413 rfl (lv_at hl 3 rfl) ?_
  refine lv_aload_n hx hb dL_law_2414 rfl (lv_at hl 1 rfl) ?_
  refine lv_iload hx hb dL_law_2415 (lv_at hl 6 rfl) ?_
  refine r_iconst (n := 1) hx hb dL_law_2417 ?_
  refine r_iadd hx hb dL_law_2418 ?_
  refine w_sld hx hb hX hbl hbA hL9 hLI (j := i + 1) (by omega) (by omega) dL_law_2419 ?_
  refine lc_mi (va_runV (As := [.int (iI (xv xs (i + 1)))]) (rest := []) ⟨hx, hb, hml, hown, hts⟩ (m9_setMost l (wR G (ownV vM G H.size)) hv9 _ st9 (xv xs (i + 1)) f9) (cwV 1 hts gL_law_X9_setMost rfl rfl rfl hd9_setMost ⟨Nat.le_of_ble_eq_true rfl, Nat.le_of_ble_eq_true rfl⟩) (LI_pre9 hG hLI hv9 [.int (iI (xv xs (i + 1)))]) rfl rfl hl.1 rfl (lv_room (Nat.le_of_ble_eq_true rfl)) dL_law_2420 ⟨by show cells + 2 + 0 ≤ 601024; omega, by show slots + 12 + 0 ≤ 7293034; omega⟩) hG hLI (fun zb st9 H locs ho9 hLI => ?_)
  obtain ⟨hz9, e6, h9⟩ := ho9
  refine lv_istore (lv' := [(7, .int (iI zb)), (6, .int (iI k)), (0, .ref b), (1, .ref (G.2.2.1 8 0)), (2, .ref (G.2.2.1 9 0)), (3, .ref qo), (4, .ref qd), (5, .int (iI i))]) hx hb dL_law_2423 hl (by decide) rfl (fun ls hl => ?_)
  refine lv_aload_n hx hb dL_law_2425 rfl (lv_at hl 4 rfl) ?_
  refine lc_mi (va_runV (As := []) (rest := []) ⟨hx, hb, hml, hown, hts⟩ (m9_thrown l (wR G (ownV vM G H.size)) hv9 (fun z u => z = k ∧ SM u a') st9  ⟨e6, h9⟩) (cwV 0 hts gL_law_X9_thrown rfl rfl rfl hd9_thrown ⟨Nat.le_of_ble_eq_true rfl, Nat.le_of_ble_eq_true rfl⟩) (LI_pre9 hG hLI hv9 []) rfl rfl hl.1 rfl (lv_room (Nat.le_of_ble_eq_true rfl)) dL_law_2426 ⟨by show cells + 2 + 0 ≤ 601024; omega, by show slots + 12 + 0 ≤ 7293034; omega⟩) hG hLI (fun zt st9 H locs ho9 hLI => ?_)
  obtain ⟨ez, h9⟩ := ho9
  subst ez
  refine lv_iload hx hb dL_law_2429 (lv_at hl 1 rfl) ?_
  refine lv_icmp_eq (tgt := 2436) hx hb dL_law_2431 (by decide) (fun _ => ?_) (fun n => absurd rfl n)
  refine lv_iload hx hb dL_law_2436 (lv_at hl 1 rfl) ?_
  refine lv_if_ne (tgt := 2453) hx hb dL_law_2438 (by decide) (fun _ => ?_) (fun e0 => ?_)
  · refine lv_goto (tgt := 2661) hx hb dL_law_2453 (by decide) ?_
    exact next _ _ _ _ _ _ _ _ hLI h8 h9 (lv_sub hl [2, 3, 4, 5, 6, 7] rfl)
  · have k0 : zt = 0 := by
      rw [iI_0, iI_eq (inI_s (by omega) (by omega)) inI_0] at e0
      exact e0
    obtain ⟨w9, hw9, ex⟩ := hv k0
    have ew := hone _ _ (hz9 k0) hw9
    subst ew
    subst ex
    refine lv_aload_n hx hb dL_law_2441 rfl (lv_at hl 5 rfl) ?_
    refine r_iconst (n := 0) hx hb dL_law_2442 ?_
    refine w_lald hx hb hG hLI dL_law_2443 ?_
    refine lv_iload hx hb dL_law_2444 (lv_at hl 0 rfl) ?_
    refine lv_i2l (v := cvI zb) hx hb dL_law_2446 rfl ?_
    refine w_lcmp_eq (tgt := 2453) hx hb dL_law_2447 dL_law_2448 (by decide) ?_
    refine lv_goto (tgt := 2661) hx hb dL_law_2453 (by decide) ?_
    exact next _ _ _ _ _ _ _ _ hLI h8 h9 (lv_sub hl [2, 3, 4, 5, 6, 7] rfl)
set_option maxHeartbeats 4000000 in
set_option maxRecDepth 100000 in
theorem law_c39 {p : Program} {l : Launch} {e : Env} {s : State} {m : MethodId} {below : List Frame} {meth : Method} {c : Code} {Q : State → Prop} {b L : Nat} {xs : Nat → Int32} {G : WG} {cD : ClassId} {qo qd : Nat} (hC : LawC l p s m c b L xs G cD qo qd) {i : Int} (hi0 : 0 ≤ i) (hi : i + 6 ≤ L) {st8 st9 : St} {a : Ab} {x : Int64} {y : UInt64} {H : Heap} {locs : List Loc} {cells slots : Nat} {ls : Array Slot} (hc : cells + 2 ≤ 601024) (hs : slots + 12 ≤ 7293034) (hLI : LI G cD qo qd s st8 st9 x y H locs) (h8 : SC st8 a) (h9 : SM st9 a) (hl : lv_has ls 10 [(0, .ref b), (1, .ref (G.2.2.1 8 0)), (2, .ref (G.2.2.1 9 0)), (3, .ref qo), (4, .ref qd), (5, .int (iI i))]) (next : ∀ (st8 st9 : St) (a : Ab) (x : Int64) (y : UInt64) (H : Heap) (locs : List Loc) (ls : Array Slot), LI G cD qo qd s st8 st9 x y H locs → SC st8 a → SM st9 a → lv_has ls 10 [(0, .ref b), (1, .ref (G.2.2.1 8 0)), (2, .ref (G.2.2.1 9 0)), (3, .ref qo), (4, .ref qd), (5, .int (iI i))] → W p l e room_1 s m #[Value.ref b] below meth c H locs (cells + 2) (slots + 12) Q (F0 m 2661 ls [])) : W p l e room_1 s m #[Value.ref b] below meth c H locs cells slots Q (F0 m 2456 ls []) := by
  obtain ⟨hx, hb, hml, hown, hts, hX, hbl, hG, hbA, hL9, hfl⟩ := hC
  have hv8 : vC 8 0 := ⟨by decide, by decide, by decide, by decide⟩
  have hv9 : vM 9 0 := ⟨Or.inl rfl, by decide, by decide⟩
  refine lv_aload_n hx hb dL_law_2456 rfl (lv_at hl 1 rfl) ?_
  refine lv_aload_n hx hb dL_law_2457 rfl (lv_at hl 3 rfl) ?_
  obtain ⟨k, P, a', hone, f8, f9⟩ := S_undo  h8 h9 
  refine lc_s (vx_runSW (As := [.ref (G.2.2.1 8 0), .ref qo]) (rest := []) ⟨hx, hb, hml, hown, hts⟩ (wL_undo l (wR G (ownA G H.size qo)) hfl qo (fun K i v => (hG.2.2.2.2.2.2.1 K i (Or.inl v)).1) st8  k P a' f8) (vx_cwSW 2 hts gL_law_L_undo rfl rfl rfl (by decide +kernel) ⟨Nat.le_of_ble_eq_true rfl, Nat.le_of_ble_eq_true rfl⟩) (LI_preL hG hLI [.ref (G.2.2.1 8 0), .ref qo]) rfl rfl hl.1 rfl (lv_room (Nat.le_of_ble_eq_true rfl)) dL_law_2458 ⟨by show cells + 1 ≤ 601024; omega, by show slots + 6 ≤ 7293034; omega⟩) hG hLI (fun st8 x H locs hk2 h8 hv hLI => ?_)
  refine W.widen (k := cells + 2) (n := slots + 12) (by omega) (by omega) ?_
  refine lv_istore (lv' := [(6, .int (iI k)), (0, .ref b), (1, .ref (G.2.2.1 8 0)), (2, .ref (G.2.2.1 9 0)), (3, .ref qo), (4, .ref qd), (5, .int (iI i))]) hx hb dL_law_2461 hl (by decide) rfl (fun ls hl => ?_)
  refine lv_aload_n hx hb dL_law_2463 rfl (lv_at hl 3 rfl) ?_
  refine lc_mi (va_runV (As := []) (rest := []) ⟨hx, hb, hml, hown, hts⟩ (m9_undo l (wR G (ownV vM G H.size)) hv9 _ st9  f9) (cwV 0 hts gL_law_X9_undo rfl rfl rfl hd9_undo ⟨Nat.le_of_ble_eq_true rfl, Nat.le_of_ble_eq_true rfl⟩) (LI_pre9 hG hLI hv9 []) rfl rfl hl.1 rfl (lv_room (Nat.le_of_ble_eq_true rfl)) dL_law_2464 ⟨by show cells + 2 + 0 ≤ 601024; omega, by show slots + 12 + 0 ≤ 7293034; omega⟩) hG hLI (fun zb st9 H locs ho9 hLI => ?_)
  obtain ⟨hz9, e6, h9⟩ := ho9
  refine lv_istore (lv' := [(7, .int (iI zb)), (6, .int (iI k)), (0, .ref b), (1, .ref (G.2.2.1 8 0)), (2, .ref (G.2.2.1 9 0)), (3, .ref qo), (4, .ref qd), (5, .int (iI i))]) hx hb dL_law_2467 hl (by decide) rfl (fun ls hl => ?_)
  refine lv_aload_n hx hb dL_law_2469 rfl (lv_at hl 4 rfl) ?_
  refine lc_mi (va_runV (As := []) (rest := []) ⟨hx, hb, hml, hown, hts⟩ (m9_thrown l (wR G (ownV vM G H.size)) hv9 (fun z u => z = k ∧ SM u a') st9  ⟨e6, h9⟩) (cwV 0 hts gL_law_X9_thrown rfl rfl rfl hd9_thrown ⟨Nat.le_of_ble_eq_true rfl, Nat.le_of_ble_eq_true rfl⟩) (LI_pre9 hG hLI hv9 []) rfl rfl hl.1 rfl (lv_room (Nat.le_of_ble_eq_true rfl)) dL_law_2470 ⟨by show cells + 2 + 0 ≤ 601024; omega, by show slots + 12 + 0 ≤ 7293034; omega⟩) hG hLI (fun zt st9 H locs ho9 hLI => ?_)
  obtain ⟨ez, h9⟩ := ho9
  subst ez
  refine lv_iload hx hb dL_law_2473 (lv_at hl 1 rfl) ?_
  refine lv_icmp_eq (tgt := 2480) hx hb dL_law_2475 (by decide) (fun _ => ?_) (fun n => absurd rfl n)
  refine lv_iload hx hb dL_law_2480 (lv_at hl 1 rfl) ?_
  refine lv_if_ne (tgt := 2497) hx hb dL_law_2482 (by decide) (fun _ => ?_) (fun e0 => ?_)
  · refine lv_goto (tgt := 2661) hx hb dL_law_2497 (by decide) ?_
    exact next _ _ _ _ _ _ _ _ hLI h8 h9 (lv_sub hl [2, 3, 4, 5, 6, 7] rfl)
  · have k0 : zt = 0 := by
      rw [iI_0, iI_eq (inI_s (by omega) (by omega)) inI_0] at e0
      exact e0
    obtain ⟨w9, hw9, ex⟩ := hv k0
    have ew := hone _ _ (hz9 k0) hw9
    subst ew
    subst ex
    refine lv_aload_n hx hb dL_law_2485 rfl (lv_at hl 5 rfl) ?_
    refine r_iconst (n := 0) hx hb dL_law_2486 ?_
    refine w_lald hx hb hG hLI dL_law_2487 ?_
    refine lv_iload hx hb dL_law_2488 (lv_at hl 0 rfl) ?_
    refine lv_i2l (v := cvI zb) hx hb dL_law_2490 rfl ?_
    refine w_lcmp_eq (tgt := 2497) hx hb dL_law_2491 dL_law_2492 (by decide) ?_
    refine lv_goto (tgt := 2661) hx hb dL_law_2497 (by decide) ?_
    exact next _ _ _ _ _ _ _ _ hLI h8 h9 (lv_sub hl [2, 3, 4, 5, 6, 7] rfl)
set_option maxHeartbeats 4000000 in
set_option maxRecDepth 100000 in
theorem law_c40 {p : Program} {l : Launch} {e : Env} {s : State} {m : MethodId} {below : List Frame} {meth : Method} {c : Code} {Q : State → Prop} {b L : Nat} {xs : Nat → Int32} {G : WG} {cD : ClassId} {qo qd : Nat} (hC : LawC l p s m c b L xs G cD qo qd) {i : Int} (hi0 : 0 ≤ i) (hi : i + 6 ≤ L) {st8 st9 : St} {a : Ab} {x : Int64} {y : UInt64} {H : Heap} {locs : List Loc} {cells slots : Nat} {ls : Array Slot} (hc : cells + 2 ≤ 601024) (hs : slots + 12 ≤ 7293034) (hLI : LI G cD qo qd s st8 st9 x y H locs) (h8 : SC st8 a) (h9 : SM st9 a) (hl : lv_has ls 10 [(0, .ref b), (1, .ref (G.2.2.1 8 0)), (2, .ref (G.2.2.1 9 0)), (3, .ref qo), (4, .ref qd), (5, .int (iI i))]) (next : ∀ (st8 st9 : St) (a : Ab) (x : Int64) (y : UInt64) (H : Heap) (locs : List Loc) (ls : Array Slot), LI G cD qo qd s st8 st9 x y H locs → SC st8 a → SM st9 a → lv_has ls 10 [(0, .ref b), (1, .ref (G.2.2.1 8 0)), (2, .ref (G.2.2.1 9 0)), (3, .ref qo), (4, .ref qd), (5, .int (iI i))] → W p l e room_1 s m #[Value.ref b] below meth c H locs (cells + 2) (slots + 12) Q (F0 m 2661 ls [])) : W p l e room_1 s m #[Value.ref b] below meth c H locs cells slots Q (F0 m 2500 ls []) := by
  obtain ⟨hx, hb, hml, hown, hts, hX, hbl, hG, hbA, hL9, hfl⟩ := hC
  have hv8 : vC 8 0 := ⟨by decide, by decide, by decide, by decide⟩
  have hv9 : vM 9 0 := ⟨Or.inl rfl, by decide, by decide⟩
  refine lv_aload_n hx hb dL_law_2500 rfl (lv_at hl 1 rfl) ?_
  refine lv_aload_n hx hb dL_law_2501 rfl (lv_at hl 0 rfl) ?_
  refine lv_iload hx hb dL_law_2502 (lv_at hl 5 rfl) ?_
  refine r_iconst (n := 1) hx hb dL_law_2504 ?_
  refine r_iadd hx hb dL_law_2505 ?_
  refine w_sld hx hb hX hbl hbA hL9 hLI (j := i + 1) (by omega) (by omega) dL_law_2506 ?_
  obtain ⟨k, a', f8, f9⟩ := S_save h8 h9 (xv_I _ _)
  refine lc_sn (vx_runSW (As := [.ref (G.2.2.1 8 0), .int (iI (xv xs (i + 1)))]) (rest := []) ⟨hx, hb, hml, hown, hts⟩ (wL_save l (wR G (ownV vC G H.size)) hfl st8 (xv xs (i + 1)) k a' f8) (vx_cwSW 2 hts gL_law_L_save rfl rfl rfl (by decide +kernel) ⟨Nat.le_of_ble_eq_true rfl, Nat.le_of_ble_eq_true rfl⟩) (LI_preN hG hLI [.ref (G.2.2.1 8 0), .int (iI (xv xs (i + 1)))]) rfl rfl hl.1 rfl (lv_room (Nat.le_of_ble_eq_true rfl)) dL_law_2507 ⟨by show cells + 1 ≤ 601024; omega, by show slots + 6 ≤ 7293034; omega⟩) hG hLI (fun st8 H locs hk2 h8 hLI => ?_)
  refine W.widen (k := cells + 2) (n := slots + 12) (by omega) (by omega) ?_
  refine lv_istore (lv' := [(6, .int (iI k)), (0, .ref b), (1, .ref (G.2.2.1 8 0)), (2, .ref (G.2.2.1 9 0)), (3, .ref qo), (4, .ref qd), (5, .int (iI i))]) hx hb dL_law_2510 hl (by decide) rfl (fun ls hl => ?_)
  refine lv_aload_n hx hb dL_law_2512 rfl (lv_at hl 3 rfl) ?_
  refine lv_aload_n hx hb dL_law_2513 rfl (lv_at hl 1 rfl) ?_
  refine lv_iload hx hb dL_law_2514 (lv_at hl 6 rfl) ?_
  refine r_iconst (n := 1) hx hb dL_law_2516 ?_
  refine r_iadd hx hb dL_law_2517 ?_
  refine w_sld hx hb hX hbl hbA hL9 hLI (j := i + 1) (by omega) (by omega) dL_law_2518 ?_
  refine lc_mv (va_runV (As := [.int (iI (xv xs (i + 1)))]) (rest := []) ⟨hx, hb, hml, hown, hts⟩ (m9_save l (wR G (ownV vM G H.size)) hv9 _ st9 (xv xs (i + 1)) f9) (cwV 1 hts gL_law_X9_save rfl rfl rfl hd9_save ⟨Nat.le_of_ble_eq_true rfl, Nat.le_of_ble_eq_true rfl⟩) (LI_pre9 hG hLI hv9 [.int (iI (xv xs (i + 1)))]) rfl rfl hl.1 rfl (lv_room (Nat.le_of_ble_eq_true rfl)) dL_law_2519 ⟨by show cells + 2 + 0 ≤ 601024; omega, by show slots + 12 + 0 ≤ 7293034; omega⟩) hG hLI (fun st9 H locs ho9 hLI => ?_)
  obtain ⟨e6, h9⟩ := ho9
  refine lv_aload_n hx hb dL_law_2522 rfl (lv_at hl 3 rfl) ?_
  refine lc_mi (va_runV (As := []) (rest := []) ⟨hx, hb, hml, hown, hts⟩ (m9_thrown l (wR G (ownV vM G H.size)) hv9 (fun z u => z = k ∧ SM u a') st9  ⟨e6, h9⟩) (cwV 0 hts gL_law_X9_thrown rfl rfl rfl hd9_thrown ⟨Nat.le_of_ble_eq_true rfl, Nat.le_of_ble_eq_true rfl⟩) (LI_pre9 hG hLI hv9 []) rfl rfl hl.1 rfl (lv_room (Nat.le_of_ble_eq_true rfl)) dL_law_2523 ⟨by show cells + 2 + 0 ≤ 601024; omega, by show slots + 12 + 0 ≤ 7293034; omega⟩) hG hLI (fun zt st9 H locs ho9 hLI => ?_)
  obtain ⟨ez, h9⟩ := ho9
  subst ez
  refine lv_iload hx hb dL_law_2526 (lv_at hl 0 rfl) ?_
  refine lv_icmp_eq (tgt := 2533) hx hb dL_law_2528 (by decide) (fun _ => ?_) (fun n => absurd rfl n)
  refine lv_goto (tgt := 2661) hx hb dL_law_2533 (by decide) ?_
  exact next _ _ _ _ _ _ _ _ hLI h8 h9 (lv_sub hl [1, 2, 3, 4, 5, 6] rfl)
set_option maxHeartbeats 4000000 in
set_option maxRecDepth 100000 in
theorem law_c41 {p : Program} {l : Launch} {e : Env} {s : State} {m : MethodId} {below : List Frame} {meth : Method} {c : Code} {Q : State → Prop} {b L : Nat} {xs : Nat → Int32} {G : WG} {cD : ClassId} {qo qd : Nat} (hC : LawC l p s m c b L xs G cD qo qd) {i : Int} (hi0 : 0 ≤ i) (hi : i + 6 ≤ L) {st8 st9 : St} {a : Ab} {x : Int64} {y : UInt64} {H : Heap} {locs : List Loc} {cells slots : Nat} {ls : Array Slot} (hc : cells + 2 ≤ 601024) (hs : slots + 12 ≤ 7293034) (hLI : LI G cD qo qd s st8 st9 x y H locs) (h8 : SC st8 a) (h9 : SM st9 a) (hl : lv_has ls 10 [(0, .ref b), (1, .ref (G.2.2.1 8 0)), (2, .ref (G.2.2.1 9 0)), (3, .ref qo), (4, .ref qd), (5, .int (iI i))]) (next : ∀ (st8 st9 : St) (a : Ab) (x : Int64) (y : UInt64) (H : Heap) (locs : List Loc) (ls : Array Slot), LI G cD qo qd s st8 st9 x y H locs → SC st8 a → SM st9 a → lv_has ls 10 [(0, .ref b), (1, .ref (G.2.2.1 8 0)), (2, .ref (G.2.2.1 9 0)), (3, .ref qo), (4, .ref qd), (5, .int (iI i))] → W p l e room_1 s m #[Value.ref b] below meth c H locs (cells + 2) (slots + 12) Q (F0 m 2661 ls [])) : W p l e room_1 s m #[Value.ref b] below meth c H locs cells slots Q (F0 m 2536 ls []) := by
  obtain ⟨hx, hb, hml, hown, hts, hX, hbl, hG, hbA, hL9, hfl⟩ := hC
  have hv8 : vC 8 0 := ⟨by decide, by decide, by decide, by decide⟩
  have hv9 : vM 9 0 := ⟨Or.inl rfl, by decide, by decide⟩
  refine lv_aload_n hx hb dL_law_2536 rfl (lv_at hl 1 rfl) ?_
  refine lv_aload_n hx hb dL_law_2537 rfl (lv_at hl 0 rfl) ?_
  refine lv_iload hx hb dL_law_2538 (lv_at hl 5 rfl) ?_
  refine r_iconst (n := 1) hx hb dL_law_2540 ?_
  refine r_iadd hx hb dL_law_2541 ?_
  refine w_sld hx hb hX hbl hbA hL9 hLI (j := i + 1) (by omega) (by omega) dL_law_2542 ?_
  refine lv_aload_n hx hb dL_law_2543 rfl (lv_at hl 3 rfl) ?_
  obtain ⟨k, P, a', hone, f8, f9⟩ := S_restore  h8 h9 (xv_I _ _)
  refine lc_s (vx_runSW (As := [.ref (G.2.2.1 8 0), .int (iI (xv xs (i + 1))), .ref qo]) (rest := []) ⟨hx, hb, hml, hown, hts⟩ (wL_restore l (wR G (ownA G H.size qo)) hfl qo (fun K i v => (hG.2.2.2.2.2.2.1 K i (Or.inl v)).1) st8 (xv xs (i + 1)) k P a' f8) (vx_cwSW 3 hts gL_law_L_restore rfl rfl rfl (by decide +kernel) ⟨Nat.le_of_ble_eq_true rfl, Nat.le_of_ble_eq_true rfl⟩) (LI_preL hG hLI [.ref (G.2.2.1 8 0), .int (iI (xv xs (i + 1))), .ref qo]) rfl rfl hl.1 rfl (lv_room (Nat.le_of_ble_eq_true rfl)) dL_law_2544 ⟨by show cells + 2 ≤ 601024; omega, by show slots + 12 ≤ 7293034; omega⟩) hG hLI (fun st8 x H locs hk2 h8 hv hLI => ?_)
  refine W.widen (k := cells + 2) (n := slots + 12) (by omega) (by omega) ?_
  refine lv_istore (lv' := [(6, .int (iI k)), (0, .ref b), (1, .ref (G.2.2.1 8 0)), (2, .ref (G.2.2.1 9 0)), (3, .ref qo), (4, .ref qd), (5, .int (iI i))]) hx hb dL_law_2547 hl (by decide) rfl (fun ls hl => ?_)
  refine lv_aload_n hx hb dL_law_2549 rfl (lv_at hl 3 rfl) ?_
  refine lv_aload_n hx hb dL_law_2550 rfl (lv_at hl 1 rfl) ?_
  refine lv_iload hx hb dL_law_2551 (lv_at hl 6 rfl) ?_
  refine r_iconst (n := 1) hx hb dL_law_2553 ?_
  refine r_iadd hx hb dL_law_2554 ?_
  refine w_sld hx hb hX hbl hbA hL9 hLI (j := i + 1) (by omega) (by omega) dL_law_2555 ?_
  refine lc_mi (va_runV (As := [.int (iI (xv xs (i + 1)))]) (rest := []) ⟨hx, hb, hml, hown, hts⟩ (m9_restore l (wR G (ownV vM G H.size)) hv9 _ st9 (xv xs (i + 1)) f9) (cwV 1 hts gL_law_X9_restore rfl rfl rfl hd9_restore ⟨Nat.le_of_ble_eq_true rfl, Nat.le_of_ble_eq_true rfl⟩) (LI_pre9 hG hLI hv9 [.int (iI (xv xs (i + 1)))]) rfl rfl hl.1 rfl (lv_room (Nat.le_of_ble_eq_true rfl)) dL_law_2556 ⟨by show cells + 2 + 0 ≤ 601024; omega, by show slots + 12 + 0 ≤ 7293034; omega⟩) hG hLI (fun zb st9 H locs ho9 hLI => ?_)
  obtain ⟨hz9, e6, h9⟩ := ho9
  refine lv_istore (lv' := [(7, .int (iI zb)), (6, .int (iI k)), (0, .ref b), (1, .ref (G.2.2.1 8 0)), (2, .ref (G.2.2.1 9 0)), (3, .ref qo), (4, .ref qd), (5, .int (iI i))]) hx hb dL_law_2559 hl (by decide) rfl (fun ls hl => ?_)
  refine lv_aload_n hx hb dL_law_2561 rfl (lv_at hl 4 rfl) ?_
  refine lc_mi (va_runV (As := []) (rest := []) ⟨hx, hb, hml, hown, hts⟩ (m9_thrown l (wR G (ownV vM G H.size)) hv9 (fun z u => z = k ∧ SM u a') st9  ⟨e6, h9⟩) (cwV 0 hts gL_law_X9_thrown rfl rfl rfl hd9_thrown ⟨Nat.le_of_ble_eq_true rfl, Nat.le_of_ble_eq_true rfl⟩) (LI_pre9 hG hLI hv9 []) rfl rfl hl.1 rfl (lv_room (Nat.le_of_ble_eq_true rfl)) dL_law_2562 ⟨by show cells + 2 + 0 ≤ 601024; omega, by show slots + 12 + 0 ≤ 7293034; omega⟩) hG hLI (fun zt st9 H locs ho9 hLI => ?_)
  obtain ⟨ez, h9⟩ := ho9
  subst ez
  refine lv_iload hx hb dL_law_2565 (lv_at hl 1 rfl) ?_
  refine lv_icmp_eq (tgt := 2572) hx hb dL_law_2567 (by decide) (fun _ => ?_) (fun n => absurd rfl n)
  refine lv_iload hx hb dL_law_2572 (lv_at hl 1 rfl) ?_
  refine lv_if_ne (tgt := 2589) hx hb dL_law_2574 (by decide) (fun _ => ?_) (fun e0 => ?_)
  · refine lv_goto (tgt := 2661) hx hb dL_law_2589 (by decide) ?_
    exact next _ _ _ _ _ _ _ _ hLI h8 h9 (lv_sub hl [2, 3, 4, 5, 6, 7] rfl)
  · have k0 : zt = 0 := by
      rw [iI_0, iI_eq (inI_s (by omega) (by omega)) inI_0] at e0
      exact e0
    obtain ⟨w9, hw9, ex⟩ := hv k0
    have ew := hone _ _ (hz9 k0) hw9
    subst ew
    subst ex
    refine lv_aload_n hx hb dL_law_2577 rfl (lv_at hl 5 rfl) ?_
    refine r_iconst (n := 0) hx hb dL_law_2578 ?_
    refine w_lald hx hb hG hLI dL_law_2579 ?_
    refine lv_iload hx hb dL_law_2580 (lv_at hl 0 rfl) ?_
    refine lv_i2l (v := cvI zb) hx hb dL_law_2582 rfl ?_
    refine w_lcmp_eq (tgt := 2589) hx hb dL_law_2583 dL_law_2584 (by decide) ?_
    refine lv_goto (tgt := 2661) hx hb dL_law_2589 (by decide) ?_
    exact next _ _ _ _ _ _ _ _ hLI h8 h9 (lv_sub hl [2, 3, 4, 5, 6, 7] rfl)
set_option maxHeartbeats 4000000 in
set_option maxRecDepth 100000 in
theorem law_c42 {p : Program} {l : Launch} {e : Env} {s : State} {m : MethodId} {below : List Frame} {meth : Method} {c : Code} {Q : State → Prop} {b L : Nat} {xs : Nat → Int32} {G : WG} {cD : ClassId} {qo qd : Nat} (hC : LawC l p s m c b L xs G cD qo qd) {i : Int} (hi0 : 0 ≤ i) (hi : i + 6 ≤ L) {st8 st9 : St} {a : Ab} {x : Int64} {y : UInt64} {H : Heap} {locs : List Loc} {cells slots : Nat} {ls : Array Slot} (hc : cells + 2 ≤ 601024) (hs : slots + 12 ≤ 7293034) (hLI : LI G cD qo qd s st8 st9 x y H locs) (h8 : SC st8 a) (h9 : SM st9 a) (hl : lv_has ls 10 [(0, .ref b), (1, .ref (G.2.2.1 8 0)), (2, .ref (G.2.2.1 9 0)), (3, .ref qo), (4, .ref qd), (5, .int (iI i))]) (next : ∀ (st8 st9 : St) (a : Ab) (x : Int64) (y : UInt64) (H : Heap) (locs : List Loc) (ls : Array Slot), LI G cD qo qd s st8 st9 x y H locs → SC st8 a → SM st9 a → lv_has ls 10 [(0, .ref b), (1, .ref (G.2.2.1 8 0)), (2, .ref (G.2.2.1 9 0)), (3, .ref qo), (4, .ref qd), (5, .int (iI i))] → W p l e room_1 s m #[Value.ref b] below meth c H locs (cells + 2) (slots + 12) Q (F0 m 2661 ls [])) : W p l e room_1 s m #[Value.ref b] below meth c H locs cells slots Q (F0 m 2592 ls []) := by
  obtain ⟨hx, hb, hml, hown, hts, hX, hbl, hG, hbA, hL9, hfl⟩ := hC
  have hv8 : vC 8 0 := ⟨by decide, by decide, by decide, by decide⟩
  have hv9 : vM 9 0 := ⟨Or.inl rfl, by decide, by decide⟩
  refine lv_aload_n hx hb dL_law_2592 rfl (lv_at hl 1 rfl) ?_
  obtain ⟨k, P, a', hone, f8, f9⟩ := S_writeBeam  h8 h9 
  refine lc_ci (va_runV (As := []) (rest := []) ⟨hx, hb, hml, hown, hts⟩ (m8_writeBeam l (wR G (ownV vC G H.size)) hv8 _ st8  f8) (cwV 0 hts gL_law_X8_writeBeam rfl rfl rfl hd8_writeBeam ⟨Nat.le_of_ble_eq_true rfl, Nat.le_of_ble_eq_true rfl⟩) (LI_pre8 hG hLI hv8 []) rfl rfl hl.1 rfl (lv_room (Nat.le_of_ble_eq_true rfl)) dL_law_2593 ⟨by show cells + 0 + 0 ≤ 601024; omega, by show slots + 0 + 0 ≤ 7293034; omega⟩) hG hLI (fun z8 st8 H locs ho8 hLI => ?_)
  obtain ⟨hk0, hP8, h8⟩ := ho8
  refine lv_aload_n hx hb dL_law_2596 rfl (lv_at hl 2 rfl) ?_
  refine lc_mi (va_runV (As := []) (rest := [.int (iI z8)]) ⟨hx, hb, hml, hown, hts⟩ (m9_writeBeam l (wR G (ownV vM G H.size)) hv9 _ st9  f9) (cwV 0 hts gL_law_X9_writeBeam rfl rfl rfl hd9_writeBeam ⟨Nat.le_of_ble_eq_true rfl, Nat.le_of_ble_eq_true rfl⟩) (LI_pre9 hG hLI hv9 []) rfl rfl hl.1 rfl (lv_room (Nat.le_of_ble_eq_true rfl)) dL_law_2597 ⟨by show cells + 0 + 0 ≤ 601024; omega, by show slots + 0 + 0 ≤ 7293034; omega⟩) hG hLI (fun zb st9 H locs ho9 hLI => ?_)
  obtain ⟨hz9, -, h9⟩ := ho9
  have ez := hone _ _ hP8 (hz9 hk0)
  subst ez
  refine lv_icmp_eq (tgt := 2661) hx hb dL_law_2600 (by decide) (fun _ => ?_) (fun n => absurd rfl n)
  refine W.widen (k := cells + 2) (n := slots + 12) (by omega) (by omega) ?_
  exact next _ _ _ _ _ _ _ _ hLI h8 h9 (lv_sub hl [0, 1, 2, 3, 4, 5] rfl)
set_option maxHeartbeats 4000000 in
set_option maxRecDepth 100000 in
theorem law_c43 {p : Program} {l : Launch} {e : Env} {s : State} {m : MethodId} {below : List Frame} {meth : Method} {c : Code} {Q : State → Prop} {b L : Nat} {xs : Nat → Int32} {G : WG} {cD : ClassId} {qo qd : Nat} (hC : LawC l p s m c b L xs G cD qo qd) {i : Int} (hi0 : 0 ≤ i) (hi : i + 6 ≤ L) {st8 st9 : St} {a : Ab} {x : Int64} {y : UInt64} {H : Heap} {locs : List Loc} {cells slots : Nat} {ls : Array Slot} (hc : cells + 2 ≤ 601024) (hs : slots + 12 ≤ 7293034) (hLI : LI G cD qo qd s st8 st9 x y H locs) (h8 : SC st8 a) (h9 : SM st9 a) (hl : lv_has ls 10 [(0, .ref b), (1, .ref (G.2.2.1 8 0)), (2, .ref (G.2.2.1 9 0)), (3, .ref qo), (4, .ref qd), (5, .int (iI i))]) (next : ∀ (st8 st9 : St) (a : Ab) (x : Int64) (y : UInt64) (H : Heap) (locs : List Loc) (ls : Array Slot), LI G cD qo qd s st8 st9 x y H locs → SC st8 a → SM st9 a → lv_has ls 10 [(0, .ref b), (1, .ref (G.2.2.1 8 0)), (2, .ref (G.2.2.1 9 0)), (3, .ref qo), (4, .ref qd), (5, .int (iI i))] → W p l e room_1 s m #[Value.ref b] below meth c H locs (cells + 2) (slots + 12) Q (F0 m 2661 ls [])) : W p l e room_1 s m #[Value.ref b] below meth c H locs cells slots Q (F0 m 2605 ls []) := by
  obtain ⟨hx, hb, hml, hown, hts, hX, hbl, hG, hbA, hL9, hfl⟩ := hC
  have hv8 : vC 8 0 := ⟨by decide, by decide, by decide, by decide⟩
  have hv9 : vM 9 0 := ⟨Or.inl rfl, by decide, by decide⟩
  refine lv_aload_n hx hb dL_law_2605 rfl (lv_at hl 1 rfl) ?_
  refine lv_aload_n hx hb dL_law_2606 rfl (lv_at hl 0 rfl) ?_
  refine lv_iload hx hb dL_law_2607 (lv_at hl 5 rfl) ?_
  refine r_iconst (n := 1) hx hb dL_law_2609 ?_
  refine r_iadd hx hb dL_law_2610 ?_
  refine w_sld hx hb hX hbl hbA hL9 hLI (j := i + 1) (by omega) (by omega) dL_law_2611 ?_
  refine lv_aload_n hx hb dL_law_2612 rfl (lv_at hl 3 rfl) ?_
  obtain ⟨k, P, a', hone, f8, f9⟩ := S_writtenByte  h8 h9 (xv_I _ _)
  refine lc_s (vx_runSW (As := [.ref (G.2.2.1 8 0), .int (iI (xv xs (i + 1))), .ref qo]) (rest := []) ⟨hx, hb, hml, hown, hts⟩ (wL_writtenByte l (wR G (ownA G H.size qo)) hfl qo (fun K i v => (hG.2.2.2.2.2.2.1 K i (Or.inl v)).1) st8 (xv xs (i + 1)) k P a' f8) (vx_cwSW 3 hts gL_law_L_writtenByte rfl rfl rfl (by decide +kernel) ⟨Nat.le_of_ble_eq_true rfl, Nat.le_of_ble_eq_true rfl⟩) (LI_preL hG hLI [.ref (G.2.2.1 8 0), .int (iI (xv xs (i + 1))), .ref qo]) rfl rfl hl.1 rfl (lv_room (Nat.le_of_ble_eq_true rfl)) dL_law_2613 ⟨by show cells + 1 ≤ 601024; omega, by show slots + 6 ≤ 7293034; omega⟩) hG hLI (fun st8 x H locs hk2 h8 hv hLI => ?_)
  refine W.widen (k := cells + 2) (n := slots + 12) (by omega) (by omega) ?_
  refine lv_istore (lv' := [(6, .int (iI k)), (0, .ref b), (1, .ref (G.2.2.1 8 0)), (2, .ref (G.2.2.1 9 0)), (3, .ref qo), (4, .ref qd), (5, .int (iI i))]) hx hb dL_law_2616 hl (by decide) rfl (fun ls hl => ?_)
  refine lv_aload_n hx hb dL_law_2618 rfl (lv_at hl 3 rfl) ?_
  refine lv_aload_n hx hb dL_law_2619 rfl (lv_at hl 1 rfl) ?_
  refine lv_iload hx hb dL_law_2620 (lv_at hl 6 rfl) ?_
  refine r_iconst (n := 1) hx hb dL_law_2622 ?_
  refine r_iadd hx hb dL_law_2623 ?_
  refine w_sld hx hb hX hbl hbA hL9 hLI (j := i + 1) (by omega) (by omega) dL_law_2624 ?_
  refine lc_mi (va_runV (As := [.int (iI (xv xs (i + 1)))]) (rest := []) ⟨hx, hb, hml, hown, hts⟩ (m9_writtenByte l (wR G (ownV vM G H.size)) hv9 _ st9 (xv xs (i + 1)) f9) (cwV 1 hts gL_law_X9_writtenByte rfl rfl rfl hd9_writtenByte ⟨Nat.le_of_ble_eq_true rfl, Nat.le_of_ble_eq_true rfl⟩) (LI_pre9 hG hLI hv9 [.int (iI (xv xs (i + 1)))]) rfl rfl hl.1 rfl (lv_room (Nat.le_of_ble_eq_true rfl)) dL_law_2625 ⟨by show cells + 2 + 0 ≤ 601024; omega, by show slots + 12 + 0 ≤ 7293034; omega⟩) hG hLI (fun zb st9 H locs ho9 hLI => ?_)
  obtain ⟨hz9, e6, h9⟩ := ho9
  refine lv_istore (lv' := [(7, .int (iI zb)), (6, .int (iI k)), (0, .ref b), (1, .ref (G.2.2.1 8 0)), (2, .ref (G.2.2.1 9 0)), (3, .ref qo), (4, .ref qd), (5, .int (iI i))]) hx hb dL_law_2628 hl (by decide) rfl (fun ls hl => ?_)
  refine lv_aload_n hx hb dL_law_2630 rfl (lv_at hl 4 rfl) ?_
  refine lc_mi (va_runV (As := []) (rest := []) ⟨hx, hb, hml, hown, hts⟩ (m9_thrown l (wR G (ownV vM G H.size)) hv9 (fun z u => z = k ∧ SM u a') st9  ⟨e6, h9⟩) (cwV 0 hts gL_law_X9_thrown rfl rfl rfl hd9_thrown ⟨Nat.le_of_ble_eq_true rfl, Nat.le_of_ble_eq_true rfl⟩) (LI_pre9 hG hLI hv9 []) rfl rfl hl.1 rfl (lv_room (Nat.le_of_ble_eq_true rfl)) dL_law_2631 ⟨by show cells + 2 + 0 ≤ 601024; omega, by show slots + 12 + 0 ≤ 7293034; omega⟩) hG hLI (fun zt st9 H locs ho9 hLI => ?_)
  obtain ⟨ez, h9⟩ := ho9
  subst ez
  refine lv_iload hx hb dL_law_2634 (lv_at hl 1 rfl) ?_
  refine lv_icmp_eq (tgt := 2641) hx hb dL_law_2636 (by decide) (fun _ => ?_) (fun n => absurd rfl n)
  refine lv_iload hx hb dL_law_2641 (lv_at hl 1 rfl) ?_
  refine lv_if_ne (tgt := 2658) hx hb dL_law_2643 (by decide) (fun _ => ?_) (fun e0 => ?_)
  · refine lv_goto (tgt := 2661) hx hb dL_law_2658 (by decide) ?_
    exact next _ _ _ _ _ _ _ _ hLI h8 h9 (lv_sub hl [2, 3, 4, 5, 6, 7] rfl)
  · have k0 : zt = 0 := by
      rw [iI_0, iI_eq (inI_s (by omega) (by omega)) inI_0] at e0
      exact e0
    obtain ⟨w9, hw9, ex⟩ := hv k0
    have ew := hone _ _ (hz9 k0) hw9
    subst ew
    subst ex
    refine lv_aload_n hx hb dL_law_2646 rfl (lv_at hl 5 rfl) ?_
    refine r_iconst (n := 0) hx hb dL_law_2647 ?_
    refine w_lald hx hb hG hLI dL_law_2648 ?_
    refine lv_iload hx hb dL_law_2649 (lv_at hl 0 rfl) ?_
    refine lv_i2l (v := cvI zb) hx hb dL_law_2651 rfl ?_
    refine w_lcmp_eq (tgt := 2658) hx hb dL_law_2652 dL_law_2653 (by decide) ?_
    refine lv_goto (tgt := 2661) hx hb dL_law_2658 (by decide) ?_
    exact next _ _ _ _ _ _ _ _ hLI h8 h9 (lv_sub hl [2, 3, 4, 5, 6, 7] rfl)
set_option maxHeartbeats 4000000 in
set_option maxRecDepth 100000 in
/-- the law's loop, at its head -/
theorem law_loop {p : Program} {l : Launch} {e : Env} {s : State} {m : MethodId} {below : List Frame} {meth : Method} {c : Code} {Q : State → Prop} {b L : Nat} {xs : Nat → Int32} {G : WG} {cD : ClassId} {qo qd : Nat} (hC : LawC l p s m c b L xs G cD qo qd)
    (fin : ∀ (H : Heap) (locs : List Loc) (cells slots : Nat) (ls : Array Slot), cells ≤ 601024 → slots ≤ 7293034 → va_S G.2.2.2.1 s.heap H locs → W p l e room_1 s m #[Value.ref b] below meth c H locs cells slots Q (F0 m 2667 ls [])) :
    ∀ (n : Nat) (i : Int) (st8 st9 : St) (a : Ab) (x : Int64) (y : UInt64) (H : Heap) (locs : List Loc) (cells slots : Nat) (ls : Array Slot), 0 ≤ i → i ≤ 3072 → L - i < 6 * n → cells + 2 * n ≤ 601024 → slots + 12 * n ≤ 7293034 → LI G cD qo qd s st8 st9 x y H locs → SC st8 a → SM st9 a → lv_has ls 10 [(0, .ref b), (1, .ref (G.2.2.1 8 0)), (2, .ref (G.2.2.1 9 0)), (3, .ref qo), (4, .ref qd), (5, .int (iI i))] → W p l e room_1 s m #[Value.ref b] below meth c H locs cells slots Q (F0 m 28 ls []) := by
  obtain ⟨hx, hb, hml, hown, hts, hX, hbl, hG, hbA, hL9, hfl⟩ := id hC
  intro n
  induction n with
  | zero =>
    intro i st8 st9 a x y H locs cells slots ls hi0 hi3 hn hc hs hLI h8 h9 hl
    refine lv_iload hx hb dL_law_28 (lv_at hl 5 rfl) ?_
    refine lv_aload_n hx hb dL_law_30 rfl (lv_at hl 0 rfl) ?_
    refine w_slen hx hb hX hbl hbA hLI dL_law_31 ?_
    refine r_bipush (n := 6) hx hb dL_law_32 rfl ?_
    refine r_isub hx hb dL_law_34 ?_
    refine r_icmp_gt (tgt := 2667) hx hb dL_law_35 (by decide) (inI_s (by omega) (by omega)) (inI_s (by omega) (by omega)) (fun _ => fin H locs cells slots ls (by omega) (by omega) hLI.2.2.2.2) (fun c9 => absurd c9 (by omega))
  | succ n ih =>
    intro i st8 st9 a x y H locs cells slots ls hi0 hi3 hn hc hs hLI h8 h9 hl
    refine lv_iload hx hb dL_law_28 (lv_at hl 5 rfl) ?_
    refine lv_aload_n hx hb dL_law_30 rfl (lv_at hl 0 rfl) ?_
    refine w_slen hx hb hX hbl hbA hLI dL_law_31 ?_
    refine r_bipush (n := 6) hx hb dL_law_32 rfl ?_
    refine r_isub hx hb dL_law_34 ?_
    refine r_icmp_gt (tgt := 2667) hx hb dL_law_35 (by decide) (inI_s (by omega) (by omega)) (inI_s (by omega) (by omega)) (fun _ => fin H locs cells slots ls (by omega) (by omega) hLI.2.2.2.2) (fun c9 => ?_)
    have hi : i + 6 ≤ L := by omega
    have next : ∀ (st8 st9 : St) (a : Ab) (x : Int64) (y : UInt64) (H : Heap) (locs : List Loc) (ls : Array Slot), LI G cD qo qd s st8 st9 x y H locs → SC st8 a → SM st9 a → lv_has ls 10 [(0, .ref b), (1, .ref (G.2.2.1 8 0)), (2, .ref (G.2.2.1 9 0)), (3, .ref qo), (4, .ref qd), (5, .int (iI i))] → W p l e room_1 s m #[Value.ref b] below meth c H locs (cells + 2) (slots + 12) Q (F0 m 2661 ls []) := by
      intro st8 st9 a x y H locs ls hLI h8 h9 hl
      refine lv_iinc (v := iI (i + 6)) (lv' := [(5, .int (iI (i + 6))), (0, .ref b), (1, .ref (G.2.2.1 8 0)), (2, .ref (G.2.2.1 9 0)), (3, .ref qo), (4, .ref qd)]) hx hb dL_law_2661 hl (k := 5) rfl (iI_add _ _) (by decide) rfl (fun ls hl => ?_)
      refine lv_goto (tgt := 28) hx hb dL_law_2664 (by decide) ?_
      exact ih (i + 6) st8 st9 a x y H locs (cells + 2) (slots + 12) ls (by omega) (by omega) (by omega) (by omega) (by omega) hLI h8 h9 (lv_sub hl [1, 2, 3, 4, 5, 0] rfl)
    refine lv_aload_n hx hb dL_law_38 rfl (lv_at hl 0 rfl) ?_
    refine lv_iload hx hb dL_law_39 (lv_at hl 5 rfl) ?_
    refine w_sld hx hb hX hbl hbA hL9 hLI (j := i) hi0 (by omega) dL_law_41 ?_
    refine r_bipush (n := 63) hx hb dL_law_42 rfl ?_
    refine r_iand hx hb dL_law_44 ?_
    have hz : inI (iand (xv xs i) 63) := inI_toInt _
    generalize iand (xv xs i) 63 = z at hz ⊢
    by_cases e0 : z = 0
    · refine r_tin (tgt := 236) hx hb dL_law_45 hz e0 (by decide) rfl (by decide) ?_
      exact law_c0 hC hi0 hi (by omega) (by omega) hLI h8 h9 hl next
    by_cases e1 : z = 1
    · refine r_tin (tgt := 340) hx hb dL_law_45 hz e1 (by decide) rfl (by decide) ?_
      exact law_c1 hC hi0 hi (by omega) (by omega) hLI h8 h9 hl next
    by_cases e2 : z = 2
    · refine r_tin (tgt := 353) hx hb dL_law_45 hz e2 (by decide) rfl (by decide) ?_
      exact law_c2 hC hi0 hi (by omega) (by omega) hLI h8 h9 hl next
    by_cases e3 : z = 3
    · refine r_tin (tgt := 366) hx hb dL_law_45 hz e3 (by decide) rfl (by decide) ?_
      exact law_c3 hC hi0 hi (by omega) (by omega) hLI h8 h9 hl next
    by_cases e4 : z = 4
    · refine r_tin (tgt := 422) hx hb dL_law_45 hz e4 (by decide) rfl (by decide) ?_
      exact law_c4 hC hi0 hi (by omega) (by omega) hLI h8 h9 hl next
    by_cases e5 : z = 5
    · refine r_tin (tgt := 436) hx hb dL_law_45 hz e5 (by decide) rfl (by decide) ?_
      exact law_c5 hC hi0 hi (by omega) (by omega) hLI h8 h9 hl next
    by_cases e6 : z = 6
    · refine r_tin (tgt := 504) hx hb dL_law_45 hz e6 (by decide) rfl (by decide) ?_
      exact law_c6 hC hi0 hi (by omega) (by omega) hLI h8 h9 hl next
    by_cases e7 : z = 7
    · refine r_tin (tgt := 560) hx hb dL_law_45 hz e7 (by decide) rfl (by decide) ?_
      exact law_c7 hC hi0 hi (by omega) (by omega) hLI h8 h9 hl next
    by_cases e8 : z = 8
    · refine r_tin (tgt := 628) hx hb dL_law_45 hz e8 (by decide) rfl (by decide) ?_
      exact law_c8 hC hi0 hi (by omega) (by omega) hLI h8 h9 hl next
    by_cases e9 : z = 9
    · refine r_tin (tgt := 696) hx hb dL_law_45 hz e9 (by decide) rfl (by decide) ?_
      exact law_c9 hC hi0 hi (by omega) (by omega) hLI h8 h9 hl next
    by_cases e10 : z = 10
    · refine r_tin (tgt := 752) hx hb dL_law_45 hz e10 (by decide) rfl (by decide) ?_
      exact law_c10 hC hi0 hi (by omega) (by omega) hLI h8 h9 hl next
    by_cases e11 : z = 11
    · refine r_tin (tgt := 819) hx hb dL_law_45 hz e11 (by decide) rfl (by decide) ?_
      exact law_c11 hC hi0 hi (by omega) (by omega) hLI h8 h9 hl next
    by_cases e12 : z = 12
    · refine r_tin (tgt := 886) hx hb dL_law_45 hz e12 (by decide) rfl (by decide) ?_
      exact law_c12 hC hi0 hi (by omega) (by omega) hLI h8 h9 hl next
    by_cases e13 : z = 13
    · refine r_tin (tgt := 953) hx hb dL_law_45 hz e13 (by decide) rfl (by decide) ?_
      exact law_c13 hC hi0 hi (by omega) (by omega) hLI h8 h9 hl next
    by_cases e14 : z = 14
    · refine r_tin (tgt := 1008) hx hb dL_law_45 hz e14 (by decide) rfl (by decide) ?_
      exact law_c14 hC hi0 hi (by omega) (by omega) hLI h8 h9 hl next
    by_cases e15 : z = 15
    · refine r_tin (tgt := 1064) hx hb dL_law_45 hz e15 (by decide) rfl (by decide) ?_
      exact law_c15 hC hi0 hi (by omega) (by omega) hLI h8 h9 hl next
    by_cases e16 : z = 16
    · refine r_tin (tgt := 1131) hx hb dL_law_45 hz e16 (by decide) rfl (by decide) ?_
      exact law_c16 hC hi0 hi (by omega) (by omega) hLI h8 h9 hl next
    by_cases e17 : z = 17
    · refine r_tin (tgt := 1198) hx hb dL_law_45 hz e17 (by decide) rfl (by decide) ?_
      exact law_c17 hC hi0 hi (by omega) (by omega) hLI h8 h9 hl next
    by_cases e18 : z = 18
    · refine r_tin (tgt := 1265) hx hb dL_law_45 hz e18 (by decide) rfl (by decide) ?_
      exact law_c18 hC hi0 hi (by omega) (by omega) hLI h8 h9 hl next
    by_cases e19 : z = 19
    · refine r_tin (tgt := 1332) hx hb dL_law_45 hz e19 (by decide) rfl (by decide) ?_
      exact law_c19 hC hi0 hi (by omega) (by omega) hLI h8 h9 hl next
    by_cases e20 : z = 20
    · refine r_tin (tgt := 1416) hx hb dL_law_45 hz e20 (by decide) rfl (by decide) ?_
      exact law_c20 hC hi0 hi (by omega) (by omega) hLI h8 h9 hl next
    by_cases e21 : z = 21
    · refine r_tin (tgt := 1500) hx hb dL_law_45 hz e21 (by decide) rfl (by decide) ?_
      exact law_c21 hC hi0 hi (by omega) (by omega) hLI h8 h9 hl next
    by_cases e22 : z = 22
    · refine r_tin (tgt := 1584) hx hb dL_law_45 hz e22 (by decide) rfl (by decide) ?_
      exact law_c22 hC hi0 hi (by omega) (by omega) hLI h8 h9 hl next
    by_cases e23 : z = 23
    · refine r_tin (tgt := 1597) hx hb dL_law_45 hz e23 (by decide) rfl (by decide) ?_
      exact law_c23 hC hi0 hi (by omega) (by omega) hLI h8 h9 hl next
    by_cases e24 : z = 24
    · refine r_tin (tgt := 1653) hx hb dL_law_45 hz e24 (by decide) rfl (by decide) ?_
      exact law_c24 hC hi0 hi (by omega) (by omega) hLI h8 h9 hl next
    by_cases e25 : z = 25
    · refine r_tin (tgt := 1666) hx hb dL_law_45 hz e25 (by decide) rfl (by decide) ?_
      exact law_c25 hC hi0 hi (by omega) (by omega) hLI h8 h9 hl next
    by_cases e26 : z = 26
    · refine r_tin (tgt := 1679) hx hb dL_law_45 hz e26 (by decide) rfl (by decide) ?_
      exact law_c26 hC hi0 hi (by omega) (by omega) hLI h8 h9 hl next
    by_cases e27 : z = 27
    · refine r_tin (tgt := 1768) hx hb dL_law_45 hz e27 (by decide) rfl (by decide) ?_
      exact law_c27 hC hi0 hi (by omega) (by omega) hLI h8 h9 hl next
    by_cases e28 : z = 28
    · refine r_tin (tgt := 1811) hx hb dL_law_45 hz e28 (by decide) rfl (by decide) ?_
      exact law_c28 hC hi0 hi (by omega) (by omega) hLI h8 h9 hl next
    by_cases e29 : z = 29
    · refine r_tin (tgt := 1879) hx hb dL_law_45 hz e29 (by decide) rfl (by decide) ?_
      exact law_c29 hC hi0 hi (by omega) (by omega) hLI h8 h9 hl next
    by_cases e30 : z = 30
    · refine r_tin (tgt := 1935) hx hb dL_law_45 hz e30 (by decide) rfl (by decide) ?_
      exact law_c30 hC hi0 hi (by omega) (by omega) hLI h8 h9 hl next
    by_cases e31 : z = 31
    · refine r_tin (tgt := 1948) hx hb dL_law_45 hz e31 (by decide) rfl (by decide) ?_
      exact law_c31 hC hi0 hi (by omega) (by omega) hLI h8 h9 hl next
    by_cases e32 : z = 32
    · refine r_tin (tgt := 2016) hx hb dL_law_45 hz e32 (by decide) rfl (by decide) ?_
      exact law_c32 hC hi0 hi (by omega) (by omega) hLI h8 h9 hl next
    by_cases e33 : z = 33
    · refine r_tin (tgt := 2084) hx hb dL_law_45 hz e33 (by decide) rfl (by decide) ?_
      exact law_c33 hC hi0 hi (by omega) (by omega) hLI h8 h9 hl next
    by_cases e34 : z = 34
    · refine r_tin (tgt := 2152) hx hb dL_law_45 hz e34 (by decide) rfl (by decide) ?_
      exact law_c34 hC hi0 hi (by omega) (by omega) hLI h8 h9 hl next
    by_cases e35 : z = 35
    · refine r_tin (tgt := 2208) hx hb dL_law_45 hz e35 (by decide) rfl (by decide) ?_
      exact law_c35 hC hi0 hi (by omega) (by omega) hLI h8 h9 hl next
    by_cases e36 : z = 36
    · refine r_tin (tgt := 2276) hx hb dL_law_45 hz e36 (by decide) rfl (by decide) ?_
      exact law_c36 hC hi0 hi (by omega) (by omega) hLI h8 h9 hl next
    by_cases e37 : z = 37
    · refine r_tin (tgt := 2332) hx hb dL_law_45 hz e37 (by decide) rfl (by decide) ?_
      exact law_c37 hC hi0 hi (by omega) (by omega) hLI h8 h9 hl next
    by_cases e38 : z = 38
    · refine r_tin (tgt := 2400) hx hb dL_law_45 hz e38 (by decide) rfl (by decide) ?_
      exact law_c38 hC hi0 hi (by omega) (by omega) hLI h8 h9 hl next
    by_cases e39 : z = 39
    · refine r_tin (tgt := 2456) hx hb dL_law_45 hz e39 (by decide) rfl (by decide) ?_
      exact law_c39 hC hi0 hi (by omega) (by omega) hLI h8 h9 hl next
    by_cases e40 : z = 40
    · refine r_tin (tgt := 2500) hx hb dL_law_45 hz e40 (by decide) rfl (by decide) ?_
      exact law_c40 hC hi0 hi (by omega) (by omega) hLI h8 h9 hl next
    by_cases e41 : z = 41
    · refine r_tin (tgt := 2536) hx hb dL_law_45 hz e41 (by decide) rfl (by decide) ?_
      exact law_c41 hC hi0 hi (by omega) (by omega) hLI h8 h9 hl next
    by_cases e42 : z = 42
    · refine r_tin (tgt := 2592) hx hb dL_law_45 hz e42 (by decide) rfl (by decide) ?_
      exact law_c42 hC hi0 hi (by omega) (by omega) hLI h8 h9 hl next
    by_cases e43 : z = 43
    · refine r_tin (tgt := 2605) hx hb dL_law_45 hz e43 (by decide) rfl (by decide) ?_
      exact law_c43 hC hi0 hi (by omega) (by omega) hLI h8 h9 hl next
    refine r_tout (tgt := 2661) hx hb dL_law_45 hz (by omega) (by decide) ?_
    refine W.widen (k := cells + 2) (n := slots + 12) (by omega) (by omega) ?_
    exact next st8 st9 a x y H locs ls hLI h8 h9 hl

