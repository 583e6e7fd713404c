/-! making: cells by their places from the object on -/
/-- a map of cells, from an address on -/
def HPo (D : va_G) (q : Nat) (g : Nat → Option va_E) (H : Heap) : Prop := ∀ (k : Nat) (e : va_E), g k = some e → va_at D vwCl (q + k, e) H
def upO (g : Nat → Option va_E) (k : Nat) (e : va_E) : Nat → Option va_E := fun j => if j = k then some e else g j
def orO (g : Nat → Option va_E) (k : Nat) (h : Nat → Option va_E) : Nat → Option va_E := fun j => if j < k then g j else match h (j - k) with
  | some e => some e
  | none => g j
def noO : Nat → Option va_E := fun _ => none
theorem HPo.up {D : va_G} {q : Nat} {g : Nat → Option va_E} {H H1 : Heap} {k : Nat} {e : va_E} (h : HPo D q g H) (he : va_at D vwCl (q + k, e) H1) (ho : ∀ a, a < H.size → a ≠ q + k → H1[a]? = H[a]?) : HPo D q (upO g k e) H1 := by
  intro j e' hj
  unfold upO at hj
  by_cases c : j = k
  · rw [if_pos c] at hj
    cases hj
    rw [c]
    exact he
  · rw [if_neg c] at hj
    have h9 := h j e' hj
    exact h9.kept (ho _ (va_at_lt h9) (by show q + j ≠ q + k; omega))
theorem HPo.call {D : va_G} {q : Nat} {g h : Nat → Option va_E} {H H1 : Heap} {k n : Nat} (hg : HPo D q g H) (hh : HPo D (q + k) h H1) (ho : ∀ a, a < H.size → ¬ (a = q + k ∨ n ≤ a) → H1[a]? = H[a]?) (hn : H.size = n) (h0 : ∃ e, h 0 = some e) : HPo D q (orO g k h) H1 := by
  intro j e' hj
  unfold orO at hj
  have old : g j = some e' → ¬ j = k → va_at D vwCl (q + j, e') H1 := fun h1 h2 => by
    have h9 := hg j e' h1
    have h8 : q + j < H.size := va_at_lt h9
    exact h9.kept (ho _ h8 (fun z => by rcases z with z | z <;> omega))
  by_cases c : j < k
  · rw [if_pos c] at hj
    exact old hj (by omega)
  · rw [if_neg c] at hj
    cases e9 : h (j - k) with
    | some e2 =>
      rw [e9] at hj
      cases hj
      have := hh _ _ e9
      rwa [show q + k + (j - k) = q + j by omega] at this
    | none =>
      rw [e9] at hj
      refine old hj (fun z => ?_)
      obtain ⟨e3, h3⟩ := h0
      rw [z, Nat.sub_self, h3] at e9
      cases e9
/-- its object, and what is made -/
def RC (q n : Nat) : Nat → Prop := fun a => a = q ∨ n ≤ a
theorem va_AOA.moved {t : FieldType} {u U : State} (hvm : u.vm.Alike U.vm) (h : va_AOA t u) : va_AOA t U := by
  obtain ⟨comp, c, k, h1, h2, h3, h4, h5⟩ := arrayOverA_spec h
  obtain ⟨k', hk', he⟩ := hvm.2.2 _ _ h3
  have hi : (U.vm.classes.findIdx? fun (x : Class) => match x.kind with | .array component _ => component == comp | _ => false) = some c := by
    have e1 := va_idx_bare u.vm comp
    have e2 := va_idx_bare U.vm comp
    have e3 : u.vm.bare = U.vm.bare := by first | exact hvm.bare_eq | exact hvm.bare_eq.symm
    rw [e3] at e1
    exact e2.symm.trans (e1.trans h2)
  have hkind : k'.kind = .array comp (.array t) := by rw [he]; exact h4
  have f1 : U.vm.findClass (FieldType.array t).toString = some comp := by rw [hvm.findClass]; exact h1
  have f2 : U.vm.findClass ("[" ++ (FieldType.array t).toString) = some c := by rw [hvm.findClass]; exact h5
  unfold va_AOA Cond.before Cond.holds
  simp only [Cond.value]
  rw [f1, Option.bind_some]
  refine (congrArg (fun o : Option Nat => (o.bind (fun c => (U.vm.classes[c]?).map fun (k : Class) => match k.kind with | .array _ ty => decide (ty = FieldType.array t) && decide (U.vm.findClass ("[" ++ (FieldType.array t).toString) = some c) | _ => false) == some true)) hi).trans ?_
  simp [hk', hkind, f2]
/-- the two classes of arrays over others, and the nest's constructors -/
def nestL : List (String × Nat × MethodName) := [(RX8, 11, yX5_init), (RX8, 22, yX0_init), (RX8, 29, yX3_init), (RX8, 42, yX1_init), (RX8, 52, yX4_init), (RX2, 21, yX0_init), (RX5, 11, yX7_init), (RX5, 20, yX0_init)]
def AW (U : State) : Prop := va_AO "BeamLines$Beam" U ∧ va_AOA .long U ∧ ∀ q ∈ nestL, va_Nw (.methodLinkNest q.1 q.2.1 q.2.2 "BeamLines") U
theorem AW.same {u U : State} (h9 : u.vm = U.vm) (h : AW u) : AW U := ⟨va_AO.moved (by rw [h9]; exact Vm.Alike.refl _) h.1, va_AOA.moved (by rw [h9]; exact Vm.Alike.refl _) h.2.1, fun q hq => va_Nw.same rfl h9 (h.2.2 q hq)⟩
theorem AW.warm {s U : State} (hW : s.WarmedH U.vm) (h : AW s) : AW U := ⟨va_AO.moved hW.alike h.1, va_AOA.moved hW.alike h.2.1, fun q hq => va_Nw.warmM hW (h.2.2 q hq)⟩
/-- a constructor: from its fresh object to its map -/
def PcI (D : va_G) (ct : Nat → ClassId) (q : Nat) (e : va_E) (as : List Value) : Array Value → State → Prop := va_Pc as (fun U => U.heap.size = q + 1 ∧ va_at D vwCl (q, e) U.heap ∧ va_K D vwCl (tysW ct) U ∧ AW U)
def QcI (D : va_G) (ct : Nat → ClassId) (q n : Nat) (g : Nat → Option va_E) : Array Value → State → Outcome → State → Prop := va_Qv (fun _ : Unit => True) (fun _ t => t.heap.size = q + n ∧ HPo D q g t.heap ∧ va_K D vwCl (tysW ct) t) (RC q (q + 1))
theorem PcI_blind {D : va_G} {ct : Nat → ClassId} {q : Nat} {e : va_E} {as : List Value} : FrameBlind (PcI D ct q e as) := fun a U g mk h => by
  obtain ⟨h0, h1, h2, h3, h4⟩ := h
  exact ⟨h0, h1, h2, va_K.moved (u := U) (U := U.calling g mk a) (Vm.Alike.refl U.vm) h3, AW.same (u := U) (U := U.calling g mk a) rfl h4⟩
section MakeRows
variable {p : Program} {l : Launch} {e : Env} {R : Room} {s : State} {m : MethodId} {args : Array Value} {below : List Frame} {meth : Method} {c : Code} {H : Heap} {locs : List Loc} {cells slots mc ms : Nat} {Q : State → Prop}
variable {cc : ByteArray} {pc : Nat} {ls : Array Slot} {rest st0 : List Value} {D : va_G} {ct : Nat → ClassId} {A : Nat → Prop} {H0 : Heap} {q k N' : Nat} {g : Nat → Option va_E} {tys : List (ClassId × FieldType)}
theorem k_pre (hK : va_K D vwCl (tysW ct) s) (hW9 : AW s) {e0 : va_E} (hs : H.size = q + 1) (hP : va_at D vwCl (q, e0) H) (As : List Value) : PreS s H (PcI D ct q e0 As) As :=
  ⟨PcI_blind, fun U hU hW => ⟨rfl, by rw [hU]; exact hs, by rw [hU]; exact hP, va_K.moved hW.alike hK, AW.warm hW hW9⟩⟩
theorem k_new (hx : p.tables.exec = Jvm.exec) (hb : c.code = cc) {own C : String} {T : u_T} {N ci index : Nat} {Ts : List Cond} (hts : ∀ w ∈ Ts, w.before args s = true) (hin : ∀ w ∈ u_ws C T N, w ∈ Ts) (ty : Nat → FieldType) (hty : ∀ k, k < N → parseFieldDescriptor (T k).2.2.1 = some (ty k)) (hown : s.vm.findClass own = some m.cls) (hcl : (Cond.classLink own index C).before args s = true) (hinst : (Cond.instantiable C N).before args s = true) (hini : (Cond.initialized C).before args s = true)
    (hK : va_K D vwCl tys s) (hF : HPo D q g H) (hs : H.size = q + k) (hc : vwCl[ci]? = some (C, T, N)) {fs : List Value} (hfs : ∀ j, j < N → defaultValue (ty j) = vp_V fs j) (hS : va_S A H0 H locs) (hcells : cells + 1 ≤ R.cells) (hslots : slots + N ≤ R.slots) (hdg : decode cc pc = .ok (.new index, 3))
    (kk : ∀ (H1 : Heap), HPo D q (upO g k (.inr (ci, fs))) H1 → va_at D vwCl (q + k, .inr (ci, fs)) H1 → H1.size = q + (k + 1) → va_S A H0 H1 locs →
      W p l e R s m args below meth c H1 locs (cells + 1) (slots + N) Q (F0 m (pc + 3) ls (.ref (q + k) :: rest))) : W p l e R s m args below meth c H locs cells slots Q (F0 m pc ls rest) := by
  have hKn := hK.1 ci _ hc
  refine W.newcK hx hb hown hcl hinst hini rfl hdg hcells hslots hKn.2.1 hs fun H1 kC hkC e1 z1 o1 => ?_
  have hat : va_at D vwCl (q + k, .inr (ci, fs)) H1 := ⟨_, hc, (u_born ty hts hin hKn hkC e1 hty).to hfs⟩
  refine kk H1 (hF.up hat (fun a h1 _ => o1 a (by omega))) hat (by omega) ⟨Nat.le_trans hS.1 (by omega), fun x h1 h2 => (o1 x (by have := hS.1; omega)).trans (hS.2.1 x h1 h2), hS.2.2⟩
theorem k_newa (hx : p.tables.exec = Jvm.exec) (hb : c.code = cc) {atype : ArrayType} (harr : (Cond.arrayClass (newarray.typeOf atype)).before args s = true) (hF : HPo D q g H) (hs : H.size = q + k) (hS : va_S A H0 H locs) {cA : ClassId} (hcA : s.vm.findClass ("[" ++ (newarray.typeOf atype).toString) = some cA)
    {n : Int32} {N' : Nat} {a0 : vp_A} (ha : vp_cell cA a0 = arrV cA N' (fun _ => defaultValue (newarray.typeOf atype))) (hn : ¬ n < 0) (hN : n.toNatClampNeg = N') (hbytes : N' * componentBytes (newarray.typeOf atype) ≤ 536870912) (hcells : cells + 1 ≤ R.cells) (hslots : slots + N' ≤ R.slots) (hdg : decode cc pc = .ok (.newarray atype, 2))
    (kk : ∀ (H1 : Heap), HPo D q (upO g k (.inl (cA, a0))) H1 → H1.size = q + (k + 1) → va_S A H0 H1 locs →
      W p l e R s m args below meth c H1 locs (cells + 1) (slots + N') Q (F0 m (pc + 2) ls (.ref (q + k) :: rest))) : W p l e R s m args below meth c H locs cells slots Q (F0 m pc ls (.int n :: rest)) := by
  refine va_newaK hx hb harr rfl hdg rfl hn hN hbytes hcells hslots hs fun H1 cA2 e1 z1 o1 hAr hNm => ?_
  cases Option.some.inj (hcA.symm.trans hNm)
  refine kk H1 (hF.up (show H1[q + k]? = some (vp_cell cA a0) by rw [ha]; exact e1) (fun a h1 _ => o1 a (by omega))) (by omega) ⟨Nat.le_trans hS.1 (by omega), fun x h1 h2 => (o1 x (by have := hS.1; omega)).trans (hS.2.1 x h1 h2), hS.2.2⟩
theorem k_get (hx : p.tables.exec = Jvm.exec) (hb : c.code = cc) {own ref C : String} {T : u_T} {N ci index : Nat} {Ts : List Cond} (hts : ∀ w ∈ Ts, w.before args s = true) (hin : ∀ w ∈ u_ws C T N, w ∈ Ts) (hown : s.vm.findClass own = some m.cls) (hK : va_K D vwCl tys s) (hF : HPo D q g H) {fs : List Value} (he : g k = some (.inr (ci, fs))) (hc : vwCl[ci]? = some (C, T, N)) (j : Nat) (hj : j < N) (hlink : (Cond.fieldLink own index ref (T j).2.1 (T j).2.2.1).before args s = true) (hsame : ∀ x, s.fieldFound? (T j).1 (T j).2.1 (T j).2.2.1 = some x → s.fieldFound? ref (T j).2.1 (T j).2.2.1 = some x) {v : Value} (hv : fs[j]? = some v) (hdg : decode cc pc = .ok (.getfield index, 3))
    (kk : W p l e R s m args below meth c H locs cells slots Q (F0 m (pc + 3) ls (v :: rest))) : W p l e R s m args below meth c H locs cells slots Q (F0 m pc ls (.ref (q + k) :: rest)) :=
  va_get (ws := [(q + k, .inr (ci, fs))]) hx hb hts hin hown hK (fun i x hx => by
    have hz : i < 1 := (List.getElem?_eq_some_iff.mp hx).1
    rw [show i = 0 by omega] at hx
    cases hx
    exact hF k _ he) 0 rfl hc j hj hlink hsame hv hdg kk
theorem k_put (hx : p.tables.exec = Jvm.exec) (hb : c.code = cc) {own ref C : String} {T : u_T} {N ci index : Nat} {Ts : List Cond} (hts : ∀ w ∈ Ts, w.before args s = true) (hin : ∀ w ∈ u_ws C T N, w ∈ Ts) (ty0 : Nat → FieldType) (hty : ∀ k, k < N → parseFieldDescriptor (T k).2.2.1 = some (ty0 k)) (hnm : ∀ a, a < N → ∀ b, b < N → a ≠ b → (T a).2.1 ≠ (T b).2.1) (hown : s.vm.findClass own = some m.cls) (hK : va_K D vwCl tys s) (hF : HPo D q g H) {fs : List Value} (he : g k = some (.inr (ci, fs))) (hc : vwCl[ci]? = some (C, T, N)) (j : Nat) (hj : j < N) (hlink : (Cond.fieldLink own index ref (T j).2.1 (T j).2.2.1).before args s = true) (hsame : ∀ x, s.fieldFound? (T j).1 (T j).2.1 (T j).2.2.1 = some x → s.fieldFound? ref (T j).2.1 (T j).2.2.1 = some x) (hfin : (T j).2.2.2 = false ∨ ((T j).2.2.2 = true ∧ meth.name = "<init>" ∧ (T j).1 = own)) {ty : FieldType} {v : Value} (hd : parseFieldDescriptor (T j).2.2.1 = some ty) (hn : narrow ty v = v) (hfit : fits ty v = true) (hl : j < fs.length) (hs : H.size = q + N') (hS : va_S A H0 H locs) (hA : A (q + k)) (hdg : decode cc pc = .ok (.putfield index, 3))
    (kk : ∀ (H1 : Heap) (locs1 : List Loc), HPo D q (upO g k (.inr (ci, fs.set j v))) H1 → H1.size = q + N' → va_S A H0 H1 locs1 → W p l e R s m args below meth c H1 locs1 cells slots Q (F0 m (pc + 3) ls rest)) : W p l e R s m args below meth c H locs cells slots Q (F0 m pc ls (v :: .ref (q + k) :: rest)) := by
  have hap := va_apart (own := own) hts hin ty0 hty hnm hK hc
  obtain ⟨r, h1, cell, q1, q2, q3, q4⟩ := hF k _ he
  have hr : r = (C, T, N) := Option.some.inj (h1.symm.trans hc)
  subst hr
  obtain ⟨hSl, hfc, kC, hkC, hkind⟩ := hK.1 ci _ hc
  obtain ⟨cf, kf, fi, f, hi, hsl⟩ := hSl j hj
  have hlay := hts _ (hin _ (u_in_lay hj))
  have hst := (u_facts hfc hkC (u_lays hts hin hj) hi).1
  have fin : ∀ H' : Heap, H'[q + k]? = some (cell.setSlot f.slot v) → H'.size = H.size → (∀ x, x ≠ q + k → H'[x]? = H[x]?) → W p l e R s m args below meth c H' (locs ++ [⟨q + k, f.slot⟩]) cells slots Q (F0 m (pc + 3) ls rest) := fun H' e1 e2 e3 => by
    rw [hsl] at e1 ⊢
    refine kk H' _ (hF.up ⟨_, hc, t_OB.to (V := updV (vp_V fs) j v) ⟨_, e1, q2, q3, t_set q4 hap hj v⟩ (fun x _ => vp_updV_set hl v x)⟩ (fun a _ h2 => e3 a h2)) (by omega) (hS.put e2 e3 hA)
  unfold u_lay at hlay
  rcases hfin with hfin | ⟨hfin, hin2, hdecl⟩
  · rw [if_neg (by rw [hfin]; decide)] at hlay
    have h6 := u_store hfc hkC hkind hlay hi hd hn hfit
    exact W.putK hx hb (f := f) ⟨hown, hlink, ⟨_, _, _, hsame _ hi⟩, hst⟩ (by rw [q2]; exact h6) q1 q3 (by rw [hsl]; exact k2_hasslot (q4 j hj)) rfl rfl hdg fin
  · rw [if_pos hfin] at hlay
    have hcf : m.cls = cf := by
      obtain ⟨_, _, c', _, _, _, -, -, hf', -, -, -, hown2, -⟩ := Cond.laysFinal_spec hlay
      have e1 : c' = cf := by have := hi.symm.trans hf'; simp at this; exact this.1.symm
      rw [hdecl] at hown2
      rw [← e1]
      exact Option.some.inj (hown.symm.trans hown2)
    have h6 := u_fits hfc hkC hkind (Or.inr hlay) hi hd hn hfit
    exact W.putFinK hx hb hown hlink (hsame _ hi) hst hcf hin2 (by rw [q2]; exact h6) q1 q3 (by rw [hsl]; exact k2_hasslot (q4 j hj)) rfl rfl hdg fin
/-- the constructor's end -/
theorem k_ret (hx : p.tables.exec = Jvm.exec) (hb : c.code = cc) (hr : meth.sig.returnType = none) (hlocks : meth.locks = false) (hK : va_K D vwCl (tysW ct) s) {n : Nat} (hF : HPo D q g H) (hs : H.size = q + n) (hS : va_S (RC q (q + 1)) s.heap H locs) (hdg : decode cc pc = .ok (.return_, 1)) : W p l e R s m args below meth c H locs cells slots (MQ below (QcI D ct q n g) args s cells slots (RC q (q + 1))) (F0 m pc ls []) :=
  W.vret hx hb hr (fun t ht hW => ⟨⟨(), rfl, trivial, by rw [ht]; exact hs, by rw [ht]; exact hF, va_K.moved hW.alike hK⟩, hS.F ht⟩) hS.2.2 hdg hlocks
/-- a part's constructor is called -/
theorem k_call {aa : Array Value} {n : Nat} {h : Nat → Option va_E} (hr : va_Run p l e R s m args below meth c H locs cells slots mc ms (F0 m pc ls st0) rest (QcI D ct (q + k) n h aa) (RC (q + k) (q + k + 1))) (hF : HPo D q g H) (hs : H.size = q + (k + 1)) (hS : va_S A H0 H locs) (hA : ∀ a, q + k ≤ a → A a) (h0 : ∃ e, h 0 = some e)
    (kk : ∀ (H1 : Heap) (locs1 : List Loc), HPo D q (orO g k h) H1 → H1.size = q + (k + n) → va_S A H0 H1 locs1 → W p l e R s m args below meth c H1 locs1 (cells + mc) (slots + ms) Q (F0 m (pc + 3) ls rest)) : W p l e R s m args below meth c H locs cells slots Q (F0 m pc ls st0) :=
  va_callv hr hS (fun a _ h9 => hA a (by rcases h9 with h9 | h9 <;> omega)) (fun a h9 => hA a (by rcases h9 with h9 | h9 <;> omega)) (fun u t H1 locs1 ht hvm hp hB hz hk hS1 => by
    obtain ⟨b1, b2, b3⟩ := hB
    rw [ht] at b1 b2
    exact kk H1 locs1 (hF.call b2 (fun a h1 h2 => hk a h1 (fun z => h2 (by rcases z with z | z <;> omega))) hs h0) (by omega) hS1)
end MakeRows
