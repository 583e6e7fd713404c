/-! doubles and floats: only quotients of whole numbers and 0 -/
def dL (z : Int) : UInt64 := FP.l2d (lI z)
def fL (z : Int) : UInt32 := FP.l2f (lI z)
theorem lI_ne {z : Int} (h : inL z) (h0 : ¬ z = 0) : lI z ≠ 0 := fun e => h0 ((lI_eq h inL_0).mp e)
theorem dL_nz {z : Int} (h : inL z) (h0 : ¬ z = 0) : ¬ Jvm.FP.Core.DZero (dL z) := fun q => Jvm.FP.Core.l2d_ne_zero (lI_ne h h0) ((Jvm.FP.Core.zero_bits2 _).mp q)
theorem fL_nz {z : Int} (h : inL z) (h0 : ¬ z = 0) : ¬ Jvm.FP.Core.FZero (fL z) := fun q => Jvm.FP.Core.l2f_ne_zero (lI_ne h h0) ((Jvm.FP.Core.zero_bits232 _).mp q)
theorem dcmp_0 {z : Int} (h : inL z) : (Op.cmpValue (FP.dcmp (dL z) FP.dconst0) .l = 0) = (z = 0) := by
  refine propext ⟨fun q => ?_, fun q => ?_⟩
  · by_cases e : z = 0
    · exact e
    · exfalso
      refine dL_nz h e (Jvm.FP.Core.zero_iff.mp ?_)
      show FP.dcmp (dL z) FP.dconst0 = some .eq
      revert q
      cases FP.dcmp (dL z) FP.dconst0 with
      | none => intro q; exact absurd q (by decide)
      | some o => cases o <;> intro q <;> first | rfl | exact absurd q (by decide)
  · subst q; decide +kernel
theorem fcmp_0 {z : Int} (h : inL z) : (Op.cmpValue (FP.fcmp (fL z) FP.fconst0) .l = 0) = (z = 0) := by
  refine propext ⟨fun q => ?_, fun q => ?_⟩
  · by_cases e : z = 0
    · exact e
    · exfalso
      refine fL_nz h e (Jvm.FP.Core.zero_iff32.mp ?_)
      show FP.fcmp (fL z) FP.fconst0 = some .eq
      revert q
      cases FP.fcmp (fL z) FP.fconst0 with
      | none => intro q; exact absurd q (by decide)
      | some o => cases o <;> intro q <;> first | rfl | exact absurd q (by decide)
  · subst q; decide +kernel
theorem dq_ok {x z : Int} (h : inL z) (h0 : ¬ z = 0) : vf_n64 (FP.ddiv (dL x) (dL z)) := by
  have h1 : Jvm.FP.Core.dIsNaN (Jvm.FP.Core.ddiv (dL x) (dL z)) = false := Jvm.FP.Core.ddiv_out (Jvm.FP.Core.l2d_notNaN _) (Jvm.FP.Core.l2d_fin _) (dL_nz h h0)
  have h2 := (Jvm.FP.Core.ne_nan _).mp ((Jvm.FP.Core.notNaN_iff _).mp h1)
  unfold vf_n64
  rw [UInt64.le_iff_toNat_le, UInt64.toNat_and]
  show (FP.ddiv (dL x) (dL z)).toNat &&& (2 ^ 63 - 1) ≤ 9218868437227405312
  rw [Nat.and_two_pow_sub_one_eq_mod]
  exact h2
theorem fq_ok {x z : Int} (h : inL z) (h0 : ¬ z = 0) : vf_n32 (FP.fdiv (fL x) (fL z)) := by
  have h1 : Jvm.FP.Core.fIsNaN (Jvm.FP.Core.fdiv (fL x) (fL z)) = false := Jvm.FP.Core.fdiv_out (Jvm.FP.Core.l2f_notNaN _) (Jvm.FP.Core.l2f_fin _) (fL_nz h h0)
  have h2 := (Jvm.FP.Core.ne_nan32 _).mp ((Jvm.FP.Core.notNaN_iff32 _).mp h1)
  unfold vf_n32
  rw [UInt32.le_iff_toNat_le, UInt32.toNat_and]
  show (FP.fdiv (fL x) (fL z)).toNat &&& (2 ^ 31 - 1) ≤ 2139095040
  rw [Nat.and_two_pow_sub_one_eq_mod]
  exact h2
section FloatRows
variable {p : Program} {l : Launch} {e : Env} {R : Room} {s : State} {m : MethodId} {args : Array Value} {below : List Frame} {meth : Method} {c : Code} {H : Heap} {locs : List Loc} {cells slots : Nat} {Q : State → Prop} {cc : ByteArray} {pc : Nat} {ls : Array Slot} {rest : List Value} {V : Nat → Int → Prop} {G : WG} {st : St} {H0 : Heap}
theorem r_dcmp_ne (hx : p.tables.exec = Jvm.exec) (hb : c.code = cc) {a : Int} {off : Int} {tgt : Nat} (hd0 : decode cc pc = .ok (.dcmp .l, 1)) (hdg : decode cc (pc + 1) = .ok (.ifCond .ne off, 3)) (ht : ((pc + 1 : Nat) : Int) + off = (tgt : Int)) (ga : inL a) (kt : ¬ a = 0 → W p l e R s m args below meth c H locs cells slots Q (F0 m tgt ls rest)) (kf : a = 0 → W p l e R s m args below meth c H locs cells slots Q (F0 m (pc + 1 + 3) ls rest)) : W p l e R s m args below meth c H locs cells slots Q (F0 m pc ls (.double FP.dconst0 :: .double (dL a) :: rest)) :=
  lv_dcmp hx hb hd0 (lv_if_ne hx hb hdg ht (fun h => kt (by rwa [dcmp_0 ga] at h)) (fun h => kf (by rwa [dcmp_0 ga] at h)))
theorem r_fcmp_ne (hx : p.tables.exec = Jvm.exec) (hb : c.code = cc) {a : Int} {off : Int} {tgt : Nat} (hd0 : decode cc pc = .ok (.fcmp .l, 1)) (hdg : decode cc (pc + 1) = .ok (.ifCond .ne off, 3)) (ht : ((pc + 1 : Nat) : Int) + off = (tgt : Int)) (ga : inL a) (kt : ¬ a = 0 → W p l e R s m args below meth c H locs cells slots Q (F0 m tgt ls rest)) (kf : a = 0 → W p l e R s m args below meth c H locs cells slots Q (F0 m (pc + 1 + 3) ls rest)) : W p l e R s m args below meth c H locs cells slots Q (F0 m pc ls (.float FP.fconst0 :: .float (fL a) :: rest)) :=
  lv_fcmp hx hb hd0 (lv_if_ne hx hb hdg ht (fun h => kt (by rwa [fcmp_0 ga] at h)) (fun h => kf (by rwa [fcmp_0 ga] at h)))
def QdM (V : Nat → Int → Prop) (G : WG) (Qp : UInt64 → St → Prop) : Array Value → State → Outcome → State → Prop := va_Qd (fun r (u : St) => Qp r u) (BoM V G) G.2.2.2.1
def QfM (V : Nat → Int → Prop) (G : WG) (Qp : UInt32 → St → Prop) : Array Value → State → Outcome → State → Prop := va_Qf (fun r (u : St) => Qp r u) (BoM V G) G.2.2.2.1
theorem r_dret (hx : p.tables.exec = Jvm.exec) (hb : c.code = cc) (hr : meth.sig.returnType = some .double) (hlocks : meth.locks = false) (hK : KW G s) (hI : Iv V G st H) (hS : va_S G.2.2.2.1 s.heap H locs) {z : UInt64} {Qp : UInt64 → St → Prop} (h : Qp z st) (hdg : decode cc pc = .ok (.dreturn, 1)) : W p l e R s m args below meth c H locs cells slots (MQ below (QdM V G Qp) args s cells slots G.2.2.2.1) (F0 m pc ls [.double z]) :=
  W.dret hx hb hr (fun t ht hW => ⟨⟨z, st, rfl, h, by rw [ht]; exact hI, va_K.moved hW.alike hK⟩, hS.F ht⟩) hS.2.2 hdg hlocks
theorem r_fret (hx : p.tables.exec = Jvm.exec) (hb : c.code = cc) (hr : meth.sig.returnType = some .float) (hlocks : meth.locks = false) (hK : KW G s) (hI : Iv V G st H) (hS : va_S G.2.2.2.1 s.heap H locs) {z : UInt32} {Qp : UInt32 → St → Prop} (h : Qp z st) (hdg : decode cc pc = .ok (.freturn, 1)) : W p l e R s m args below meth c H locs cells slots (MQ below (QfM V G Qp) args s cells slots G.2.2.2.1) (F0 m pc ls [.float z]) :=
  W.fret hx hb hr (fun t ht hW => ⟨⟨z, st, rfl, h, by rw [ht]; exact hI, va_K.moved hW.alike hK⟩, hS.F ht⟩) hS.2.2 hdg hlocks
end FloatRows
