/-! the law's own level: the class's world and the reference's side by side, and the two out arrays -/
theorem S_used2 {a : Ab} {st8 st9 : St} (h8 : SC st8 a) (h9 : SM st9 a) : ∃ v a', vf_n64 (FP.f2d v) ∧ f8_used (O8f 0 v a') st8 ∧ f9_used (O9f 0 v a') st9 := by
  have e := h9.1.1
  have hV := h8.va
  have ul := unitA_b hV.1.1.1
  have up1 := unitA_pos hV.1.1.1 hV.2.2
  have h1 := h8.pg.1.2
  have h2 := hV.1.2.1
  have bp := mulB (show -2916000000 ≤ unitA a.1.1 by omega) (show unitA a.1.1 ≤ 2916000000 by omega) (show -999999 ≤ a.1.1 1 by omega) (show a.1.1 1 ≤ 999999 by omega)
  have nz : ¬ unitA a.1.1 * a.1.1 1 = 0 := fun y => by rcases Int.mul_eq_zero.mp y with y | y <;> omega
  have hf : Jvm.FP.Core.fIsNaN (usA a.1.1) = false := Jvm.FP.Core.fdiv_out (Jvm.FP.Core.l2f_notNaN _) (Jvm.FP.Core.l2f_fin _) (fL_nz (inL_s (by omega) (by omega)) nz)
  have hd := (Jvm.FP.Core.ne_nan _).mp ((Jvm.FP.Core.notNaN_iff _).mp (Jvm.FP.Core.f2d_out hf))
  refine ⟨usA a.1.1, a, ?_, W8_used h8.1.cr h8.va.2.2 h8.pg.1.2 (fun s f => ⟨rfl, rfl, h8.q f.fc (h8.1.f14 f)⟩), ?_⟩
  · unfold vf_n64
    have ef : FP.f2d (usA a.1.1) = Jvm.FP.Core.f2d (usA a.1.1) := by unfold FP.f2d; rw [hf]; rfl
    rw [ef]
    rw [UInt64.le_iff_toNat_le, UInt64.toNat_and]
    show (Jvm.FP.Core.f2d (usA a.1.1)).toNat &&& (2 ^ 63 - 1) ≤ 9218868437227405312
    rw [Nat.and_two_pow_sub_one_eq_mod]
    exact hd
  · have w := W9_used (Q := O9f 0 (usA a.1.1) a) h9.1.mr
    rw [e] at w
    exact w h8.pg.1.2 (fun s f e => ⟨fun _ => rfl, e, h9.q f⟩)
/-- what doesn't change: the law's region, and where its two arrays are -/
def LG (G : WG) (s : State) (cD : ClassId) (qo qd : Nat) : Prop :=
  (∀ q, s.heap.size ≤ q → G.2.2.2.1 q) ∧ KW G s ∧ XW G s s.heap ∧ NcW s ∧ ArrOfT s cD .double ∧ (G.2.2.2.1 qo ∧ G.2.2.2.1 qd ∧ ¬ qo = qd) ∧ (∀ K i, vC K i ∨ vM K i → ¬ G.2.2.1 K i = qo ∧ ¬ G.2.2.1 K i = qd) ∧ ∀ K i K' i', vC K i → vM K' i' → ¬ G.2.2.1 K i = G.2.2.1 K' i'
/-- what holds between the operations -/
def LI (G : WG) (cD : ClassId) (qo qd : Nat) (s : State) (st8 st9 : St) (x : Int64) (y : UInt64) (H : Heap) (locs : List Loc) : Prop :=
  Iv vC G st8 H ∧ Iv vM G st9 H ∧ OutL (G.2.1 1) H qo x ∧ OutD cD H qd y ∧ va_S G.2.2.2.1 s.heap H locs
theorem LG.xw {G : WG} {s : State} {cD : ClassId} {qo qd : Nat} {st8 st9 : St} {x : Int64} {y : UInt64} {H : Heap} {locs : List Loc} (hG : LG G s cD qo qd) (h : LI G cD qo qd s st8 st9 x y H locs) : XW G s H := XW_kept h.2.2.2.2.2.1 hG.2.2.1
theorem LG.ge {G : WG} {s : State} {cD : ClassId} {qo qd : Nat} {st8 st9 : St} {x : Int64} {y : UInt64} {H : Heap} {locs : List Loc} (hG : LG G s cD qo qd) (h : LI G cD qo qd s st8 st9 x y H locs) : ∀ q, H.size ≤ q → G.2.2.2.1 q := fun q z => hG.1 q (Nat.le_trans h.2.2.2.2.1 z)
/-- the class's call: its own cells -/
theorem LI.c {G : WG} {s : State} {cD : ClassId} {qo qd : Nat} {st8 st9 u : St} {x : Int64} {y : UInt64} {H H1 : Heap} {locs locs1 : List Loc} (hG : LG G s cD qo qd) (h : LI G cD qo qd s st8 st9 x y H locs) (hI : Iv vC (wR G (ownV vC G H.size)) u H1) (hk : ∀ q : Nat, q < H.size → ¬ ownV vC G H.size q → H1[q]? = H[q]?) (hS : va_S G.2.2.2.1 s.heap H1 locs1) : LI G cD qo qd s u st9 x y H1 locs1 := by
  obtain ⟨h1, h2, h3, h4, h5⟩ := h
  refine ⟨Iv_back hI (fun K i v => Iv_in h1 v), Iv_move (G := G) G.2.2.2.1 h2 (fun K i v => hk _ (Iv_lt h2 v) (fun z => ?_)) (fun K i v => Iv_in h2 v), h3.kept (hk _ h3.lt (fun z => ?_)), h4.kept (hk _ h4.lt (fun z => ?_)), hS⟩
  · rcases z with ⟨K', i', v', e⟩ | z
    · exact hG.2.2.2.2.2.2.2 K' i' K i v' v e
    · exact absurd (Iv_lt h2 v) (Nat.not_lt.mpr z)
  · rcases z with ⟨K', i', v', e⟩ | z
    · exact (hG.2.2.2.2.2.2.1 K' i' (Or.inl v')).1 e
    · exact absurd h3.lt (Nat.not_lt.mpr z)
  · rcases z with ⟨K', i', v', e⟩ | z
    · exact (hG.2.2.2.2.2.2.1 K' i' (Or.inl v')).2 e
    · exact absurd h4.lt (Nat.not_lt.mpr z)
/-- the reference's call -/
theorem LI.m {G : WG} {s : State} {cD : ClassId} {qo qd : Nat} {st8 st9 u : St} {x : Int64} {y : UInt64} {H H1 : Heap} {locs locs1 : List Loc} (hG : LG G s cD qo qd) (h : LI G cD qo qd s st8 st9 x y H locs) (hI : Iv vM (wR G (ownV vM G H.size)) u H1) (hk : ∀ q : Nat, q < H.size → ¬ ownV vM G H.size q → H1[q]? = H[q]?) (hS : va_S G.2.2.2.1 s.heap H1 locs1) : LI G cD qo qd s st8 u x y H1 locs1 := by
  obtain ⟨h1, h2, h3, h4, h5⟩ := h
  refine ⟨Iv_move (G := G) G.2.2.2.1 h1 (fun K i v => hk _ (Iv_lt h1 v) (fun z => ?_)) (fun K i v => Iv_in h1 v), Iv_back hI (fun K i v => Iv_in h2 v), h3.kept (hk _ h3.lt (fun z => ?_)), h4.kept (hk _ h4.lt (fun z => ?_)), hS⟩
  · rcases z with ⟨K', i', v', e⟩ | z
    · exact hG.2.2.2.2.2.2.2 K i K' i' v v' e.symm
    · exact absurd (Iv_lt h1 v) (Nat.not_lt.mpr z)
  · rcases z with ⟨K', i', v', e⟩ | z
    · exact (hG.2.2.2.2.2.2.1 K' i' (Or.inr v')).1 e
    · exact absurd h3.lt (Nat.not_lt.mpr z)
  · rcases z with ⟨K', i', v', e⟩ | z
    · exact (hG.2.2.2.2.2.2.1 K' i' (Or.inr v')).2 e
    · exact absurd h4.lt (Nat.not_lt.mpr z)
/-- own cells and one array more -/
def ownA (G : WG) (n qo : Nat) : Nat → Prop := fun q => ownV vC G n q ∨ q = qo
theorem LI.s {G : WG} {s : State} {cD : ClassId} {qo qd : Nat} {st8 st9 u : St} {x x' : Int64} {y : UInt64} {H H1 : Heap} {locs locs1 : List Loc} (hG : LG G s cD qo qd) (h : LI G cD qo qd s st8 st9 x y H locs) (hI : Iv vC (wR G (ownA G H.size qo)) u H1) (ho : OutL (G.2.1 1) H1 qo x') (hk : ∀ q : Nat, q < H.size → ¬ ownA G H.size qo q → H1[q]? = H[q]?) (hS : va_S G.2.2.2.1 s.heap H1 locs1) : LI G cD qo qd s u st9 x' y H1 locs1 := by
  obtain ⟨h1, h2, h3, h4, h5⟩ := h
  refine ⟨Iv_back hI (fun K i v => Iv_in h1 v), Iv_move (G := G) G.2.2.2.1 h2 (fun K i v => hk _ (Iv_lt h2 v) (fun z => ?_)) (fun K i v => Iv_in h2 v), ho, h4.kept (hk _ h4.lt (fun z => ?_)), hS⟩
  · rcases z with (⟨K', i', v', e⟩ | z) | z
    · exact hG.2.2.2.2.2.2.2 K' i' K i v' v e
    · exact absurd (Iv_lt h2 v) (Nat.not_lt.mpr z)
    · exact (hG.2.2.2.2.2.2.1 K i (Or.inr v)).1 z
  · rcases z with (⟨K', i', v', e⟩ | z) | z
    · exact (hG.2.2.2.2.2.2.1 K' i' (Or.inl v')).2 e
    · exact absurd h4.lt (Nat.not_lt.mpr z)
    · exact hG.2.2.2.2.2.1.2.2 z.symm
theorem LI.d {G : WG} {s : State} {cD : ClassId} {qo qd : Nat} {st8 st9 u : St} {x : Int64} {y y' : UInt64} {H H1 : Heap} {locs locs1 : List Loc} (hG : LG G s cD qo qd) (h : LI G cD qo qd s st8 st9 x y H locs) (hI : Iv vC (wR G (ownA G H.size qd)) u H1) (ho : OutD cD H1 qd y') (hk : ∀ q : Nat, q < H.size → ¬ ownA G H.size qd q → H1[q]? = H[q]?) (hS : va_S G.2.2.2.1 s.heap H1 locs1) : LI G cD qo qd s u st9 x y' H1 locs1 := by
  obtain ⟨h1, h2, h3, h4, h5⟩ := h
  refine ⟨Iv_back hI (fun K i v => Iv_in h1 v), Iv_move (G := G) G.2.2.2.1 h2 (fun K i v => hk _ (Iv_lt h2 v) (fun z => ?_)) (fun K i v => Iv_in h2 v), h3.kept (hk _ h3.lt (fun z => ?_)), ho, hS⟩
  · rcases z with (⟨K', i', v', e⟩ | z) | z
    · exact hG.2.2.2.2.2.2.2 K' i' K i v' v e
    · exact absurd (Iv_lt h2 v) (Nat.not_lt.mpr z)
    · exact (hG.2.2.2.2.2.2.1 K i (Or.inr v)).2 z
  · rcases z with (⟨K', i', v', e⟩ | z) | z
    · exact (hG.2.2.2.2.2.2.1 K' i' (Or.inl v')).1 e
    · exact absurd h3.lt (Nat.not_lt.mpr z)
    · exact hG.2.2.2.2.2.1.2.2 z
theorem ownA_in {G : WG} {st : St} {H : Heap} {qo : Nat} (h : Iv vC G st H) (hA : ∀ q, H.size ≤ q → G.2.2.2.1 q) (hq : G.2.2.2.1 qo) : ∀ q, ownA G H.size qo q → G.2.2.2.1 q := fun q h9 => by
  rcases h9 with h9 | rfl
  · exact own_in h hA q h9
  · exact hq
theorem PcL_blind {G : WG} {st : St} {qo : Nat} {as : List Value} : FrameBlind (PcL G st qo as) := fun a U g mk q => by
  obtain ⟨q0, q1, q2, q3, q4, q5, q6, q7⟩ := q
  exact ⟨q0, q1, q2, va_K.moved (u := U) (U := U.calling g mk a) (Vm.Alike.refl U.vm) q3, XW_same (u := U) (U := U.calling g mk a) rfl q4, NcW.moved (u := U) (U := U.calling g mk a) (Vm.Alike.refl U.vm) q5, q6, q7⟩
theorem PcD_blind {G : WG} {cD : ClassId} {st : St} {qo : Nat} {as : List Value} : FrameBlind (PcD G cD st qo as) := fun a U g mk q => by
  obtain ⟨q0, q1, q2, q3, q4, q5, q6, q8, q7⟩ := q
  exact ⟨q0, q1, q2, va_K.moved (u := U) (U := U.calling g mk a) (Vm.Alike.refl U.vm) q3, XW_same (u := U) (U := U.calling g mk a) rfl q4, NcW.moved (u := U) (U := U.calling g mk a) (Vm.Alike.refl U.vm) q5, q6, arrOfT_moved (u := U) (E := U.calling g mk a) (Vm.Alike.refl U.vm) q8, q7⟩
theorem PcN_blind {G : WG} {st : St} {as : List Value} : FrameBlind (PcN G st as) := fun a U g mk q => by
  obtain ⟨q0, q1, q2, q3, q4, q5⟩ := q
  exact ⟨q0, q1, q2, va_K.moved (u := U) (U := U.calling g mk a) (Vm.Alike.refl U.vm) q3, XW_same (u := U) (U := U.calling g mk a) rfl q4, NcW.moved (u := U) (U := U.calling g mk a) (Vm.Alike.refl U.vm) q5⟩
section LawRows
variable {p : Program} {l : Launch} {e : Env} {R : Room} {s : State} {m : MethodId} {args : Array Value} {below : List Frame} {meth : Method} {c : Code} {H : Heap} {locs : List Loc} {cells slots mc ms : Nat} {Q : State → Prop} {cc : ByteArray} {pc : Nat} {ls : Array Slot} {rest st0 : List Value} {aa : Array Value} {G : WG} {st8 st9 : St} {cD : ClassId} {qo qd : Nat} {x : Int64} {y : UInt64}
theorem LI_pre8 (hG : LG G s cD qo qd) (hL : LI G cD qo qd s st8 st9 x y H locs) (hv : vC 8 0) (As : List Value) : PreV s H RX8 (G.2.2.1 8 0) (PcM vC (wR G (ownV vC G H.size)) st8 (.ref (G.2.2.1 8 0) :: As)) As :=
  pre_V (G := wR G (ownV vC G H.size)) (H0 := H) (locs := []) hG.2.1 (XW_narrow (hG.xw hL) (own_in hL.1 (hG.ge hL))) (Iv_own _ hL.1) (fun q h9 => Or.inr h9) va_S.rf hv rfl rfl As
theorem LI_pre9 (hG : LG G s cD qo qd) (hL : LI G cD qo qd s st8 st9 x y H locs) (hv : vM 9 0) (As : List Value) : PreV s H RX9 (G.2.2.1 9 0) (PcM vM (wR G (ownV vM G H.size)) st9 (.ref (G.2.2.1 9 0) :: As)) As :=
  pre_V (G := wR G (ownV vM G H.size)) (H0 := H) (locs := []) hG.2.1 (XW_narrow (hG.xw hL) (own_in hL.2.1 (hG.ge hL))) (Iv_own _ hL.2.1) (fun q h9 => Or.inr h9) va_S.rf hv rfl rfl As
theorem LI_preL (hG : LG G s cD qo qd) (hL : LI G cD qo qd s st8 st9 x y H locs) (As : List Value) : PreS s H (PcL (wR G (ownA G H.size qo)) st8 qo As) As :=
  ⟨PcL_blind, fun U hU hW => ⟨rfl, fun q h9 => Or.inl (Or.inr (by rw [← hU]; exact h9)), by rw [hU]; exact Iv_move _ hL.1 (fun _ _ _ => rfl) (fun K i v => Or.inl (Or.inl ⟨K, i, v, rfl⟩)), va_K.moved hW.alike hG.2.1, by rw [hU]; exact XW_warm hW (XW_narrow (hG.xw hL) (ownA_in hL.1 (hG.ge hL) hG.2.2.2.2.2.1.1)), NcW.moved hW.alike hG.2.2.2.1, Or.inr rfl, by rw [hU]; exact ⟨x, hL.2.2.1⟩⟩⟩
theorem LI_preD (hG : LG G s cD qo qd) (hL : LI G cD qo qd s st8 st9 x y H locs) (As : List Value) : PreS s H (PcD (wR G (ownA G H.size qd)) cD st8 qd As) As :=
  ⟨PcD_blind, fun U hU hW => ⟨rfl, fun q h9 => Or.inl (Or.inr (by rw [← hU]; exact h9)), by rw [hU]; exact Iv_move _ hL.1 (fun _ _ _ => rfl) (fun K i v => Or.inl (Or.inl ⟨K, i, v, rfl⟩)), va_K.moved hW.alike hG.2.1, by rw [hU]; exact XW_warm hW (XW_narrow (hG.xw hL) (ownA_in hL.1 (hG.ge hL) hG.2.2.2.2.2.1.2.1)), NcW.moved hW.alike hG.2.2.2.1, Or.inr rfl, arrOfT_moved hW.alike hG.2.2.2.2.1, by rw [hU]; exact ⟨y, hL.2.2.2.1⟩⟩⟩
theorem LI_preN (hG : LG G s cD qo qd) (hL : LI G cD qo qd s st8 st9 x y H locs) (As : List Value) : PreS s H (PcN (wR G (ownV vC G H.size)) st8 As) As :=
  ⟨PcN_blind, fun U hU hW => ⟨rfl, fun q h9 => Or.inr (by rw [← hU]; exact h9), by rw [hU]; exact Iv_own _ hL.1, va_K.moved hW.alike hG.2.1, by rw [hU]; exact XW_warm hW (XW_narrow (hG.xw hL) (own_in hL.1 (hG.ge hL))), NcW.moved hW.alike hG.2.2.2.1⟩⟩
end LawRows
section LawCalls
variable {p : Program} {l : Launch} {e : Env} {R : Room} {s : State} {m : MethodId} {args : Array Value} {below : List Frame} {meth : Method} {c : Code} {H : Heap} {locs : List Loc} {cells slots mc ms : Nat} {Q : State → Prop} {cc : ByteArray} {pc : Nat} {ls : Array Slot} {rest st0 : List Value} {aa : Array Value} {G : WG} {st8 st9 : St} {cD : ClassId} {qo qd : Nat} {x : Int64} {y : UInt64}
theorem lc_ci {Qp : Int → St → Prop} (hr : va_Run p l e R s m args below meth c H locs cells slots 0 0 (F0 m pc ls st0) rest (QiM vC (wR G (ownV vC G H.size)) Qp aa) (ownV vC G H.size)) (hG : LG G s cD qo qd) (hL : LI G cD qo qd s st8 st9 x y H locs)
    (kk : ∀ (z : Int) (u : St) (H1 : Heap) (locs1 : List Loc), Qp z u → LI G cD qo qd s u st9 x y H1 locs1 → W p l e R s m args below meth c H1 locs1 cells slots Q (F0 m (pc + 3) ls (.int (iI z) :: rest))) : W p l e R s m args below meth c H locs cells slots Q (F0 m pc ls st0) :=
  va_calli hr hL.2.2.2.2 (fun q _ h9 => own_in hL.1 (hG.ge hL) q h9) (fun q h9 => own_in hL.1 (hG.ge hL) q h9) (fun r u t H1 locs1 ht hvm hp hB hz hk hS1 => by obtain ⟨z, rfl, hq⟩ := hp; exact kk z u H1 locs1 hq (LI.c hG hL (by rw [← ht]; exact hB.1) hk hS1))
theorem lc_cl {Qp : Int → St → Prop} (hr : va_Run p l e R s m args below meth c H locs cells slots 0 0 (F0 m pc ls st0) rest (QlM vC (wR G (ownV vC G H.size)) Qp aa) (ownV vC G H.size)) (hG : LG G s cD qo qd) (hL : LI G cD qo qd s st8 st9 x y H locs)
    (kk : ∀ (z : Int) (u : St) (H1 : Heap) (locs1 : List Loc), Qp z u → LI G cD qo qd s u st9 x y H1 locs1 → W p l e R s m args below meth c H1 locs1 cells slots Q (F0 m (pc + 3) ls (.long (lI z) :: rest))) : W p l e R s m args below meth c H locs cells slots Q (F0 m pc ls st0) :=
  va_calll hr hL.2.2.2.2 (fun q _ h9 => own_in hL.1 (hG.ge hL) q h9) (fun q h9 => own_in hL.1 (hG.ge hL) q h9) (fun r u t H1 locs1 ht hvm hp hB hz hk hS1 => by obtain ⟨z, rfl, hq⟩ := hp; exact kk z u H1 locs1 hq (LI.c hG hL (by rw [← ht]; exact hB.1) hk hS1))
theorem lc_cv {Qp : St → Prop} (hr : va_Run p l e R s m args below meth c H locs cells slots 0 0 (F0 m pc ls st0) rest (QvM vC (wR G (ownV vC G H.size)) Qp aa) (ownV vC G H.size)) (hG : LG G s cD qo qd) (hL : LI G cD qo qd s st8 st9 x y H locs)
    (kk : ∀ (u : St) (H1 : Heap) (locs1 : List Loc), Qp u → LI G cD qo qd s u st9 x y H1 locs1 → W p l e R s m args below meth c H1 locs1 cells slots Q (F0 m (pc + 3) ls rest)) : W p l e R s m args below meth c H locs cells slots Q (F0 m pc ls st0) :=
  va_callv hr hL.2.2.2.2 (fun q _ h9 => own_in hL.1 (hG.ge hL) q h9) (fun q h9 => own_in hL.1 (hG.ge hL) q h9) (fun u t H1 locs1 ht hvm hp hB hz hk hS1 => kk u H1 locs1 hp (LI.c hG hL (by rw [← ht]; exact hB.1) hk hS1))
theorem lc_cd {Qp : UInt64 → St → Prop} (hr : va_Run p l e R s m args below meth c H locs cells slots 0 0 (F0 m pc ls st0) rest (QdM vC (wR G (ownV vC G H.size)) Qp aa) (ownV vC G H.size)) (hG : LG G s cD qo qd) (hL : LI G cD qo qd s st8 st9 x y H locs)
    (kk : ∀ (z : UInt64) (u : St) (H1 : Heap) (locs1 : List Loc), Qp z u → LI G cD qo qd s u st9 x y H1 locs1 → W p l e R s m args below meth c H1 locs1 cells slots Q (F0 m (pc + 3) ls (.double z :: rest))) : W p l e R s m args below meth c H locs cells slots Q (F0 m pc ls st0) :=
  va_calld hr hL.2.2.2.2 (fun q _ h9 => own_in hL.1 (hG.ge hL) q h9) (fun q h9 => own_in hL.1 (hG.ge hL) q h9) (fun r u t H1 locs1 ht hvm hp hB hz hk hS1 => by exact kk r u H1 locs1 hp (LI.c hG hL (by rw [← ht]; exact hB.1) hk hS1))
theorem lc_cf {Qp : UInt32 → St → Prop} (hr : va_Run p l e R s m args below meth c H locs cells slots 0 0 (F0 m pc ls st0) rest (QfM vC (wR G (ownV vC G H.size)) Qp aa) (ownV vC G H.size)) (hG : LG G s cD qo qd) (hL : LI G cD qo qd s st8 st9 x y H locs)
    (kk : ∀ (z : UInt32) (u : St) (H1 : Heap) (locs1 : List Loc), Qp z u → LI G cD qo qd s u st9 x y H1 locs1 → W p l e R s m args below meth c H1 locs1 cells slots Q (F0 m (pc + 3) ls (.float z :: rest))) : W p l e R s m args below meth c H locs cells slots Q (F0 m pc ls st0) :=
  va_callf hr hL.2.2.2.2 (fun q _ h9 => own_in hL.1 (hG.ge hL) q h9) (fun q h9 => own_in hL.1 (hG.ge hL) q h9) (fun r u t H1 locs1 ht hvm hp hB hz hk hS1 => by exact kk r u H1 locs1 hp (LI.c hG hL (by rw [← ht]; exact hB.1) hk hS1))
theorem lc_mi {Qp : Int → St → Prop} (hr : va_Run p l e R s m args below meth c H locs cells slots 0 0 (F0 m pc ls st0) rest (QiM vM (wR G (ownV vM G H.size)) Qp aa) (ownV vM G H.size)) (hG : LG G s cD qo qd) (hL : LI G cD qo qd s st8 st9 x y H locs)
    (kk : ∀ (z : Int) (u : St) (H1 : Heap) (locs1 : List Loc), Qp z u → LI G cD qo qd s st8 u x y H1 locs1 → W p l e R s m args below meth c H1 locs1 cells slots Q (F0 m (pc + 3) ls (.int (iI z) :: rest))) : W p l e R s m args below meth c H locs cells slots Q (F0 m pc ls st0) :=
  va_calli hr hL.2.2.2.2 (fun q _ h9 => own_in hL.2.1 (hG.ge hL) q h9) (fun q h9 => own_in hL.2.1 (hG.ge hL) q h9) (fun r u t H1 locs1 ht hvm hp hB hz hk hS1 => by obtain ⟨z, rfl, hq⟩ := hp; exact kk z u H1 locs1 hq (LI.m hG hL (by rw [← ht]; exact hB.1) hk hS1))
theorem lc_ml {Qp : Int → St → Prop} (hr : va_Run p l e R s m args below meth c H locs cells slots 0 0 (F0 m pc ls st0) rest (QlM vM (wR G (ownV vM G H.size)) Qp aa) (ownV vM G H.size)) (hG : LG G s cD qo qd) (hL : LI G cD qo qd s st8 st9 x y H locs)
    (kk : ∀ (z : Int) (u : St) (H1 : Heap) (locs1 : List Loc), Qp z u → LI G cD qo qd s st8 u x y H1 locs1 → W p l e R s m args below meth c H1 locs1 cells slots Q (F0 m (pc + 3) ls (.long (lI z) :: rest))) : W p l e R s m args below meth c H locs cells slots Q (F0 m pc ls st0) :=
  va_calll hr hL.2.2.2.2 (fun q _ h9 => own_in hL.2.1 (hG.ge hL) q h9) (fun q h9 => own_in hL.2.1 (hG.ge hL) q h9) (fun r u t H1 locs1 ht hvm hp hB hz hk hS1 => by obtain ⟨z, rfl, hq⟩ := hp; exact kk z u H1 locs1 hq (LI.m hG hL (by rw [← ht]; exact hB.1) hk hS1))
theorem lc_mv {Qp : St → Prop} (hr : va_Run p l e R s m args below meth c H locs cells slots 0 0 (F0 m pc ls st0) rest (QvM vM (wR G (ownV vM G H.size)) Qp aa) (ownV vM G H.size)) (hG : LG G s cD qo qd) (hL : LI G cD qo qd s st8 st9 x y H locs)
    (kk : ∀ (u : St) (H1 : Heap) (locs1 : List Loc), Qp u → LI G cD qo qd s st8 u x y H1 locs1 → W p l e R s m args below meth c H1 locs1 cells slots Q (F0 m (pc + 3) ls rest)) : W p l e R s m args below meth c H locs cells slots Q (F0 m pc ls st0) :=
  va_callv hr hL.2.2.2.2 (fun q _ h9 => own_in hL.2.1 (hG.ge hL) q h9) (fun q h9 => own_in hL.2.1 (hG.ge hL) q h9) (fun u t H1 locs1 ht hvm hp hB hz hk hS1 => kk u H1 locs1 hp (LI.m hG hL (by rw [← ht]; exact hB.1) hk hS1))
theorem lc_md {Qp : UInt64 → St → Prop} (hr : va_Run p l e R s m args below meth c H locs cells slots 0 0 (F0 m pc ls st0) rest (QdM vM (wR G (ownV vM G H.size)) Qp aa) (ownV vM G H.size)) (hG : LG G s cD qo qd) (hL : LI G cD qo qd s st8 st9 x y H locs)
    (kk : ∀ (z : UInt64) (u : St) (H1 : Heap) (locs1 : List Loc), Qp z u → LI G cD qo qd s st8 u x y H1 locs1 → W p l e R s m args below meth c H1 locs1 cells slots Q (F0 m (pc + 3) ls (.double z :: rest))) : W p l e R s m args below meth c H locs cells slots Q (F0 m pc ls st0) :=
  va_calld hr hL.2.2.2.2 (fun q _ h9 => own_in hL.2.1 (hG.ge hL) q h9) (fun q h9 => own_in hL.2.1 (hG.ge hL) q h9) (fun r u t H1 locs1 ht hvm hp hB hz hk hS1 => by exact kk r u H1 locs1 hp (LI.m hG hL (by rw [← ht]; exact hB.1) hk hS1))
theorem lc_mf {Qp : UInt32 → St → Prop} (hr : va_Run p l e R s m args below meth c H locs cells slots 0 0 (F0 m pc ls st0) rest (QfM vM (wR G (ownV vM G H.size)) Qp aa) (ownV vM G H.size)) (hG : LG G s cD qo qd) (hL : LI G cD qo qd s st8 st9 x y H locs)
    (kk : ∀ (z : UInt32) (u : St) (H1 : Heap) (locs1 : List Loc), Qp z u → LI G cD qo qd s st8 u x y H1 locs1 → W p l e R s m args below meth c H1 locs1 cells slots Q (F0 m (pc + 3) ls (.float z :: rest))) : W p l e R s m args below meth c H locs cells slots Q (F0 m pc ls st0) :=
  va_callf hr hL.2.2.2.2 (fun q _ h9 => own_in hL.2.1 (hG.ge hL) q h9) (fun q h9 => own_in hL.2.1 (hG.ge hL) q h9) (fun r u t H1 locs1 ht hvm hp hB hz hk hS1 => by exact kk r u H1 locs1 hp (LI.m hG hL (by rw [← ht]; exact hB.1) hk hS1))
theorem lc_s {cv : Int → Int64} {k : Int} {P : Int → Prop} {a : Ab} (hr : va_Run p l e R s m args below meth c H locs cells slots mc ms (F0 m pc ls st0) rest (QcL (wR G (ownA G H.size qo)) qo cv k P a aa) (ownA G H.size qo)) (hG : LG G s cD qo qd) (hL : LI G cD qo qd s st8 st9 x y H locs)
    (kk : ∀ (u : St) (x' : Int64) (H1 : Heap) (locs1 : List Loc), (0 ≤ k ∧ k ≤ 2) → SC u a → (k = 0 → ∃ z, P z ∧ x' = cv z) → LI G cD qo qd s u st9 x' y H1 locs1 → W p l e R s m args below meth c H1 locs1 (cells + mc) (slots + ms) Q (F0 m (pc + 3) ls (.int (iI k) :: rest))) : W p l e R s m args below meth c H locs cells slots Q (F0 m pc ls st0) :=
  va_calli hr hL.2.2.2.2 (fun q _ h9 => ownA_in hL.1 (hG.ge hL) hG.2.2.2.2.2.1.1 q h9) (fun q h9 => ownA_in hL.1 (hG.ge hL) hG.2.2.2.2.2.1.1 q h9) (fun r u t H1 locs1 ht hvm hp hB hz hk hS1 => by
    obtain ⟨rfl, hk2, hSC⟩ := hp
    obtain ⟨hI, hK, x', ho, hv⟩ := hB
    rw [ht] at hI ho
    exact kk u x' H1 locs1 hk2 hSC hv (LI.s hG hL hI ho hk hS1))
theorem lc_sd {k : Int} {v : UInt64} {a : Ab} (hr : va_Run p l e R s m args below meth c H locs cells slots mc ms (F0 m pc ls st0) rest (QcD (wR G (ownA G H.size qd)) cD qd k v a aa) (ownA G H.size qd)) (hG : LG G s cD qo qd) (hL : LI G cD qo qd s st8 st9 x y H locs)
    (kk : ∀ (u : St) (y' : UInt64) (H1 : Heap) (locs1 : List Loc), (0 ≤ k ∧ k ≤ 2) → SC u a → (k = 0 → y' = v) → LI G cD qo qd s u st9 x y' H1 locs1 → W p l e R s m args below meth c H1 locs1 (cells + mc) (slots + ms) Q (F0 m (pc + 3) ls (.int (iI k) :: rest))) : W p l e R s m args below meth c H locs cells slots Q (F0 m pc ls st0) :=
  va_calli hr hL.2.2.2.2 (fun q _ h9 => ownA_in hL.1 (hG.ge hL) hG.2.2.2.2.2.1.2.1 q h9) (fun q h9 => ownA_in hL.1 (hG.ge hL) hG.2.2.2.2.2.1.2.1 q h9) (fun r u t H1 locs1 ht hvm hp hB hz hk hS1 => by
    obtain ⟨rfl, hk2, hSC⟩ := hp
    obtain ⟨hI, hK, y', ho, hv⟩ := hB
    rw [ht] at hI ho
    exact kk u y' H1 locs1 hk2 hSC hv (LI.d hG hL hI ho hk hS1))
theorem lc_sn {k : Int} {a : Ab} (hr : va_Run p l e R s m args below meth c H locs cells slots mc ms (F0 m pc ls st0) rest (QcN (wR G (ownV vC G H.size)) k a aa) (ownV vC G H.size)) (hG : LG G s cD qo qd) (hL : LI G cD qo qd s st8 st9 x y H locs)
    (kk : ∀ (u : St) (H1 : Heap) (locs1 : List Loc), (0 ≤ k ∧ k ≤ 2) → SC u a → LI G cD qo qd s u st9 x y H1 locs1 → W p l e R s m args below meth c H1 locs1 (cells + mc) (slots + ms) Q (F0 m (pc + 3) ls (.int (iI k) :: rest))) : W p l e R s m args below meth c H locs cells slots Q (F0 m pc ls st0) :=
  va_calli hr hL.2.2.2.2 (fun q _ h9 => own_in hL.1 (hG.ge hL) q h9) (fun q h9 => own_in hL.1 (hG.ge hL) q h9) (fun r u t H1 locs1 ht hvm hp hB hz hk hS1 => by
    obtain ⟨rfl, hk2, hSC⟩ := hp
    obtain ⟨hI, hK⟩ := hB
    rw [ht] at hI
    exact kk u H1 locs1 hk2 hSC (LI.c hG hL hI hk hS1))
/-- the script -/
def xv (xs : Nat → Int32) (j : Int) : Int := (xs j.toNat).toInt
theorem xv_I (xs : Nat → Int32) (j : Int) : inI (xv xs j) := inI_toInt _
theorem iI_in3 {j : Int} {L : Nat} (j0 : 0 ≤ j) (j1 : j < L) (hL : L ≤ 3072) : vp_in (iI j) L := by
  have h := iI_toInt (z := j) (inI_s (by omega) (by omega))
  unfold vp_in
  intro q
  rcases q with q | q
  · rw [Int32.lt_iff_toInt_lt, h] at q
    have : (0 : Int32).toInt = 0 := rfl
    omega
  · rw [iI_clamp j0 (by omega)] at q
    omega
theorem w_sld (hx : p.tables.exec = Jvm.exec) (hb : c.code = cc) {b L : Nat} {xs : Nat → Int32} (hX : va_X b L xs s s.heap) (hbl : b < s.heap.size) (hbA : ¬ G.2.2.2.1 b) (hL9 : L ≤ 3072) (hL : LI G cD qo qd s st8 st9 x y H locs) {j : Int} (j0 : 0 ≤ j) (j1 : j < L) (hdg : decode cc pc = .ok (.iaload, 1))
    (kk : W p l e R s m args below meth c H locs cells slots Q (F0 m (pc + 1) ls (.int (iI (xv xs j)) :: rest))) : W p l e R s m args below meth c H locs cells slots Q (F0 m pc ls (.int (iI j) :: .ref b :: rest)) := by
  refine va_sld hx hb hX hbl hbA hL.2.2.2.2 (iI_in3 j0 j1 hL9) hdg ?_
  rw [iI_clamp j0 (by omega)]
  unfold xv at kk
  rw [iI_back] at kk
  exact kk
theorem w_slen (hx : p.tables.exec = Jvm.exec) (hb : c.code = cc) {b L : Nat} {xs : Nat → Int32} (hX : va_X b L xs s s.heap) (hbl : b < s.heap.size) (hbA : ¬ G.2.2.2.1 b) (hL : LI G cD qo qd s st8 st9 x y H locs) (hdg : decode cc pc = .ok (.arraylength, 1))
    (kk : W p l e R s m args below meth c H locs cells slots Q (F0 m (pc + 1) ls (.int (iI L) :: rest))) : W p l e R s m args below meth c H locs cells slots Q (F0 m pc ls (.ref b :: rest)) := by
  refine va_slen hx hb hX hbl hbA hL.2.2.2.2 hdg ?_
  rw [show Int32.ofNat L = iI L from iI_nI L]
  exact kk
/-- out[0] -/
theorem w_lald (hx : p.tables.exec = Jvm.exec) (hb : c.code = cc) (hG : LG G s cD qo qd) (hL : LI G cD qo qd s st8 st9 x y H locs) (hdg : decode cc pc = .ok (.laload, 1))
    (kk : W p l e R s m args below meth c H locs cells slots Q (F0 m (pc + 1) ls (.long x :: rest))) : W p l e R s m args below meth c H locs cells slots Q (F0 m pc ls (.int (iI 0) :: .ref qo :: rest)) := by
  obtain ⟨g, hg, e0⟩ := hL.2.2.1
  refine W.lald (v := .long (g (iI 0).toNatClampNeg)) hx hb hg ((hG.2.1.2 1 _ rfl).1 1 (fun j => .long (g j))) (fun q => by cases q) (by show ¬ (iI 0 < 0 ∨ (arrV _ _ _).slots.size ≤ _); rw [arrV_size]; show ¬ (iI 0 < 0 ∨ 1 ≤ (iI 0).toNatClampNeg); decide) (by show (arrV _ _ _).slots[_]? = _; rw [arrV_read _ _ (show (iI 0).toNatClampNeg < 1 by decide)]) rfl rfl hdg ?_
  rw [show (iI 0).toNatClampNeg = 0 from rfl, e0]
  exact kk
theorem w_dald (hx : p.tables.exec = Jvm.exec) (hb : c.code = cc) (hG : LG G s cD qo qd) (hL : LI G cD qo qd s st8 st9 x y H locs) (hdg : decode cc pc = .ok (.daload, 1))
    (kk : W p l e R s m args below meth c H locs cells slots Q (F0 m (pc + 1) ls (.double y :: rest))) : W p l e R s m args below meth c H locs cells slots Q (F0 m pc ls (.int (iI 0) :: .ref qd :: rest)) := by
  obtain ⟨g, hg, e0⟩ := hL.2.2.2.1
  refine W.dald (v := .double (g (iI 0).toNatClampNeg)) hx hb hg (hG.2.2.2.2.1 1 (fun j => .double (g j))) (fun q => by cases q) (by show ¬ (iI 0 < 0 ∨ (arrV _ _ _).slots.size ≤ _); rw [arrV_size]; show ¬ (iI 0 < 0 ∨ 1 ≤ (iI 0).toNatClampNeg); decide) (by show (arrV _ _ _).slots[_]? = _; rw [arrV_read _ _ (show (iI 0).toNatClampNeg < 1 by decide)]) rfl rfl hdg ?_
  rw [show (iI 0).toNatClampNeg = 0 from rfl, e0]
  exact kk
end LawCalls
