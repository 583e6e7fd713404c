/-! regions: the same world said with another region; the law's out arrays; its small methods' ends -/
abbrev wR (G : WG) (B : Nat → Prop) : WG := (G.1, G.2.1, G.2.2.1, B, G.2.2.2.2)
theorem nd_of (L : List Nat) (h : ∀ i j : Nat, ∀ p, L[i]? = some p → L[j]? = some p → i = j) : L.Nodup := by
  rw [List.nodup_iff_pairwise_ne, List.pairwise_iff_getElem]
  intro i j hi hj hij e
  have := h i j L[i] (List.getElem?_eq_getElem hi) (by rw [e]; exact List.getElem?_eq_getElem hj)
  omega
theorem nd_to (L : List Nat) (h : L.Nodup) (i j : Nat) (p : Nat) (h1 : L[i]? = some p) (h2 : L[j]? = some p) : i = j :=
  (List.getElem?_inj (List.getElem?_eq_some_iff.mp h1).1 h).mp (h1.trans h2.symm)
theorem pl_at {L : List Nat} {f : Nat → va_E} {k : Nat} {q : Nat × va_E} (h : ([] ++ va_pl L f)[k]? = some q) : L[k]? = some q.1 ∧ q = (q.1, f q.1) := by
  have h : (L.map (fun a => (a, f a)))[k]? = some q := h
  rw [List.getElem?_map] at h
  cases e : L[k]? with
  | none => rw [e] at h; cases h
  | some a =>
    rw [e] at h
    cases h
    exact ⟨rfl, rfl⟩
theorem pl_to {L : List Nat} {f : Nat → va_E} {k : Nat} {a : Nat} (h : L[k]? = some a) : ([] ++ va_pl L f)[k]? = some (a, f a) := by
  show (L.map (fun a => (a, f a)))[k]? = some (a, f a)
  rw [List.getElem?_map, h]
  rfl
theorem va_D_nd {A : Nat → Prop} {L : List Nat} {f : Nat → va_E} (h : va_D A ([] ++ va_pl L f)) : L.Nodup :=
  nd_of L (fun i j p h1 h2 => h.1 i j _ _ (pl_to h1) (pl_to h2) rfl)
theorem nd_va_D {A : Nat → Prop} {L : List Nat} {f : Nat → va_E} (h : L.Nodup) (hA : ∀ a, a ∈ L → A a) : va_D A ([] ++ va_pl L f) :=
  ⟨fun i j p q h1 h2 e => nd_to L h i j q.1 (by rw [← e]; exact (pl_at h1).1) (pl_at h2).1, fun k q hq => hA _ (List.mem_of_getElem? (pl_at hq).1)⟩
theorem Iv_move {V : Nat → Int → Prop} {G : WG} {st : St} {H H1 : Heap} (B : Nat → Prop) (h : Iv V G st H) (hk : ∀ K i, V K i → H1[G.2.2.1 K i]? = H[G.2.2.1 K i]?) (hB : ∀ K i, V K i → B (G.2.2.1 K i)) : Iv V (wR G B) st H1 := by
  obtain ⟨hj, L, f, hP, hD, hC⟩ := h
  have hdec : ∃ p : Nat → Bool, ∀ q, p q = true ↔ ∃ K i, V K i ∧ G.2.2.1 K i = q := ⟨fun q => @decide (∃ K i, V K i ∧ G.2.2.1 K i = q) (Classical.propDecidable _), fun q => @decide_eq_true_iff _ (Classical.propDecidable _)⟩
  obtain ⟨p, hp⟩ := hdec
  refine ⟨hj, L.filter p, f, ?_, nd_va_D (List.Pairwise.filter p (va_D_nd hD)) ?_, fun K i v => ⟨List.mem_filter.mpr ⟨(hC K i v).1, (hp _).mpr ⟨K, i, v, rfl⟩⟩, (hC K i v).2⟩⟩
  · intro k q hq
    obtain ⟨h1, h2⟩ := pl_at hq
    obtain ⟨hm, hd⟩ := List.mem_filter.mp (List.mem_of_getElem? h1)
    obtain ⟨K, i, v, e⟩ := (hp _).mp hd
    obtain ⟨k0, h0⟩ := va_pl_get (X := []) (f := f) hm
    rw [h2]
    refine (hP k0 _ h0).kept ?_
    show H1[q.1]? = H[q.1]?
    rw [← e]
    exact hk K i v
  · intro a ha
    obtain ⟨K, i, v, e⟩ := (hp _).mp (List.mem_filter.mp ha).2
    rw [← e]
    exact hB K i v
theorem Iv_in {V : Nat → Int → Prop} {G : WG} {st : St} {H : Heap} (h : Iv V G st H) {K : Nat} {i : Int} (v : V K i) : G.2.2.2.1 (G.2.2.1 K i) := by
  obtain ⟨-, L, f, hP, hD, hC⟩ := h
  obtain ⟨k0, h0⟩ := va_pl_get (X := []) (f := f) (hC K i v).1
  exact hD.2 k0 _ h0
theorem va_at_lt {D : va_G} {cl : List vw_C} {q : Nat × va_E} {H : Heap} (h : va_at D cl q H) : q.1 < H.size := by
  obtain ⟨a, e⟩ := q
  cases e with
  | inl z =>
    have h : H[a]? = some (vp_cell z.1 z.2) := h
    exact (Array.getElem?_eq_some_iff.mp h).1
  | inr z =>
    obtain ⟨r, -, cell, h, -⟩ := h
    exact (Array.getElem?_eq_some_iff.mp h).1
theorem Iv_lt {V : Nat → Int → Prop} {G : WG} {st : St} {H : Heap} (h : Iv V G st H) {K : Nat} {i : Int} (v : V K i) : G.2.2.1 K i < H.size := by
  obtain ⟨-, L, f, hP, hD, hC⟩ := h
  obtain ⟨k0, h0⟩ := va_pl_get (X := []) (f := f) (hC K i v).1
  exact va_at_lt (hP k0 _ h0)
/-- its own cells, and those that are made -/
def ownV (V : Nat → Int → Prop) (G : WG) (n : Nat) : Nat → Prop := fun q => (∃ K i, V K i ∧ G.2.2.1 K i = q) ∨ n ≤ q
theorem Iv_own {V : Nat → Int → Prop} {G : WG} {st : St} {H : Heap} (n : Nat) (h : Iv V G st H) : Iv V (wR G (ownV V G n)) st H := Iv_move _ h (fun _ _ _ => rfl) (fun K i v => Or.inl ⟨K, i, v, rfl⟩)
theorem Iv_back {V : Nat → Int → Prop} {G : WG} {B : Nat → Prop} {st : St} {H : Heap} (h : Iv V (wR G B) st H) (hB : ∀ K i, V K i → G.2.2.2.1 (G.2.2.1 K i)) : Iv V G st H := Iv_move (G := wR G B) G.2.2.2.1 h (fun _ _ _ => rfl) hB
theorem own_in {V : Nat → Int → Prop} {G : WG} {st : St} {H : Heap} {n : Nat} (h : Iv V G st H) (hA : ∀ q, n ≤ q → G.2.2.2.1 q) : ∀ q, ownV V G n q → G.2.2.2.1 q := fun q h9 => by
  rcases h9 with ⟨K, i, v, rfl⟩ | h9
  · exact Iv_in h v
  · exact hA q h9
theorem XW_narrow {G : WG} {B : Nat → Prop} {U : State} {H : Heap} (h : XW G U H) (hB : ∀ q, B q → G.2.2.2.1 q) : XW (wR G B) U H :=
  ⟨vk_S.narrow h.1 hB, va_Z.narrow h.2.1 hB, vx_Zq.narrow h.2.2.1 hB, vx_Zq.narrow h.2.2.2.1 hB, h.2.2.2.2.1, h.2.2.2.2.2.1, h.2.2.2.2.2.2.1, va_Zq.narrow h.2.2.2.2.2.2.2 hB⟩
/-- an array of one long, of one double -/
def OutL (ct : ClassId) (H : Heap) (q : Nat) (x : Int64) : Prop := ∃ g : Nat → Int64, H[q]? = some (vp_cell ct (1, .inr (.inl g))) ∧ g 0 = x
def OutD (ct : ClassId) (H : Heap) (q : Nat) (x : UInt64) : Prop := ∃ g : Nat → UInt64, H[q]? = some (vp_cell ct (1, .inr (.inr (.inr (.inl g))))) ∧ g 0 = x
theorem OutL.kept {ct : ClassId} {H H1 : Heap} {q : Nat} {x : Int64} (h : OutL ct H q x) (e : H1[q]? = H[q]?) : OutL ct H1 q x := by
  obtain ⟨g, h1, h2⟩ := h
  exact ⟨g, e.trans h1, h2⟩
theorem OutD.kept {ct : ClassId} {H H1 : Heap} {q : Nat} {x : UInt64} (h : OutD ct H q x) (e : H1[q]? = H[q]?) : OutD ct H1 q x := by
  obtain ⟨g, h1, h2⟩ := h
  exact ⟨g, e.trans h1, h2⟩
theorem OutL.lt {ct : ClassId} {H : Heap} {q : Nat} {x : Int64} (h : OutL ct H q x) : q < H.size := by
  obtain ⟨g, h1, -⟩ := h
  exact (Array.getElem?_eq_some_iff.mp h1).1
theorem OutD.lt {ct : ClassId} {H : Heap} {q : Nat} {x : UInt64} (h : OutD ct H q x) : q < H.size := by
  obtain ⟨g, h1, -⟩ := h
  exact (Array.getElem?_eq_some_iff.mp h1).1
theorem met_ofWH {l : Launch} {y : MethodName} {ws ws' : List Cond} {rm : Room} {Pc : Array Value → State → Prop} {Qc : Array Value → State → Outcome → State → Prop} {mc ms : Nat} {free : Addr → Prop} {cc : ByteArray} {maxL : Nat} {ret : Option FieldType} {hh : List (Nat × Nat × Nat × Nat)}
    (hy : plainName y.cls = true) (hw : ws = Cond.codeWith y cc maxL ret hh :: ws')
    (body : ∀ p e s m args below meth c s₁, BodyLoose p l y (headSpec ws rm) cc maxL ret e s m args below meth c s₁ → c.maxLocals = maxL → Pc args s →
      W p l e (headSpec ws rm).room s m args below meth c s.heap [] 0 0 (MQ below Qc args s mc ms free) (entryFrame m args maxL)) : Met l y ws rm Pc Qc mc ms free := by
  refine MetFree.of_bodyS (code := cc) (maxLocals := maxL) (ret := ret) hy ?_ ?_
  · intro args s m h hn
    obtain ⟨m9, meth, c, hn9, h1, h2, h3, h4, -, h5, h6, -⟩ := Cond.codeWith_spec (atoms_spec (ws := ws) h _ (by rw [hw]; exact List.mem_cons_self))
    cases hn.symm.trans hn9
    exact ⟨meth, c, h1, h2, h3, h4, h5, h6⟩
  · intro p e s m args below meth c s₁ B hml hP _
    have hh0 : s₁.heap = s.heap := by rw [B.state]; rfl
    obtain ⟨t, a1, o, b1, b2, b3⟩ := body p e s m args below meth c s₁ B hml hP s₁ hh0 (Stand.of_body B)
    exact ⟨t, o, a1, b1, b2, ⟨b3.1, b3.2⟩⟩
def NcW (U : State) : Prop := va_Nc "java/lang/IllegalArgumentException" "java/lang/IndexOutOfBoundsException" U ∧ va_Nc "java/lang/IllegalStateException" "java/lang/IndexOutOfBoundsException" U
theorem NcW.moved {u U : State} (hvm : u.vm.Alike U.vm) (h : NcW u) : NcW U := ⟨va_Nc.moved hvm h.1, va_Nc.moved hvm h.2⟩
def cvI (z : Int) : Int64 := (iI z).toInt64
/-- a small method of the law: with an array for longs, for doubles, with none -/
def PcL (G : WG) (st : St) (qo : Nat) (as : List Value) : Array Value → State → Prop := va_Pc as (fun U => (∀ q, U.heap.size ≤ q → G.2.2.2.1 q) ∧ Iv vC G st U.heap ∧ KW G U ∧ XW G U U.heap ∧ NcW U ∧ G.2.2.2.1 qo ∧ ∃ x, OutL (G.2.1 1) U.heap qo x)
def PcD (G : WG) (cD : ClassId) (st : St) (qo : Nat) (as : List Value) : Array Value → State → Prop := va_Pc as (fun U => (∀ q, U.heap.size ≤ q → G.2.2.2.1 q) ∧ Iv vC G st U.heap ∧ KW G U ∧ XW G U U.heap ∧ NcW U ∧ G.2.2.2.1 qo ∧ ArrOfT U cD .double ∧ ∃ x, OutD cD U.heap qo x)
def PcN (G : WG) (st : St) (as : List Value) : Array Value → State → Prop := va_Pc as (fun U => (∀ q, U.heap.size ≤ q → G.2.2.2.1 q) ∧ Iv vC G st U.heap ∧ KW G U ∧ XW G U U.heap ∧ NcW U)
def QcL (G : WG) (qo : Nat) (cv : Int → Int64) (k : Int) (P : Int → Prop) (a : Ab) : Array Value → State → Outcome → State → Prop := va_Qi (fun r (u : St) => r = iI k ∧ (0 ≤ k ∧ k ≤ 2) ∧ SC u a) (fun u t => Iv vC G u t.heap ∧ KW G t ∧ ∃ x, OutL (G.2.1 1) t.heap qo x ∧ (k = 0 → ∃ z, P z ∧ x = cv z)) G.2.2.2.1
def QcD (G : WG) (cD : ClassId) (qo : Nat) (k : Int) (v : UInt64) (a : Ab) : Array Value → State → Outcome → State → Prop := va_Qi (fun r (u : St) => r = iI k ∧ (0 ≤ k ∧ k ≤ 2) ∧ SC u a) (fun u t => Iv vC G u t.heap ∧ KW G t ∧ ∃ x, OutD cD t.heap qo x ∧ (k = 0 → x = v)) G.2.2.2.1
def QcN (G : WG) (k : Int) (a : Ab) : Array Value → State → Outcome → State → Prop := va_Qi (fun r (u : St) => r = iI k ∧ (0 ≤ k ∧ k ≤ 2) ∧ SC u a) (fun u t => Iv vC G u t.heap ∧ KW G t) G.2.2.2.1
section SmallRows
variable {p : Program} {l : Launch} {e : Env} {R : Room} {s : State} {m : MethodId} {args : Array Value} {below : List Frame} {meth : Method} {c : Code} {H : Heap} {locs : List Loc} {cells slots : Nat} {Q : State → Prop} {cc : ByteArray} {pc : Nat} {ls : Array Slot} {rest : List Value} {G : WG} {st : St} {H0 : Heap}
theorem w_last (hx : p.tables.exec = Jvm.exec) (hb : c.code = cc) (hK : KW G s) {A : Nat → Prop} {qo : Nat} {x0 x : Int64} (ho : OutL (G.2.1 1) H qo x0) (hA : A qo) (hS : va_S A H0 H locs) (hdg : decode cc pc = .ok (.lastore, 1))
    (kk : ∀ (H1 : Heap) (locs1 : List Loc), OutL (G.2.1 1) H1 qo x → H1.size = H.size → (∀ q, q ≠ qo → H1[q]? = H[q]?) → va_S A H0 H1 locs1 → W p l e R s m args below meth c H1 locs1 cells slots Q (F0 m (pc + 1) ls rest)) : W p l e R s m args below meth c H locs cells slots Q (F0 m pc ls (.long x :: .int (iI 0) :: .ref qo :: rest)) := by
  obtain ⟨g, hg, -⟩ := ho
  refine W.last hx hb hg ((hK.2 1 _ rfl).1 1 (fun j => .long (g j))) (fun q => by cases q) (by show ¬ (iI 0 < 0 ∨ (arrV _ _ _).slots.size ≤ _); rw [arrV_size]; show ¬ (iI 0 < 0 ∨ 1 ≤ (iI 0).toNatClampNeg); decide) rfl rfl hdg fun H1 e1 z oq => ?_
  refine kk H1 _ ⟨vp_updL g (iI 0).toNatClampNeg x, ?_, rfl⟩ z oq (hS.put z oq hA)
  rw [e1]
  rw [vp_cell_l, vp_cell_l, arrV_store]
  congr 2
  funext q
  by_cases hq : q = (iI 0).toNatClampNeg
  · subst hq
    simp [updV, vp_updL]
  · simp [updV, vp_updL, hq]
theorem w_dast (hx : p.tables.exec = Jvm.exec) (hb : c.code = cc) {cD : ClassId} (hT : ArrOfT s cD .double) {A : Nat → Prop} {qo : Nat} {x0 x : UInt64} (ho : OutD cD H qo x0) (hA : A qo) (hS : va_S A H0 H locs) (hdg : decode cc pc = .ok (.dastore, 1))
    (kk : ∀ (H1 : Heap) (locs1 : List Loc), OutD cD H1 qo x → H1.size = H.size → (∀ q, q ≠ qo → H1[q]? = H[q]?) → va_S A H0 H1 locs1 → W p l e R s m args below meth c H1 locs1 cells slots Q (F0 m (pc + 1) ls rest)) : W p l e R s m args below meth c H locs cells slots Q (F0 m pc ls (.double x :: .int (iI 0) :: .ref qo :: rest)) := by
  obtain ⟨g, hg, -⟩ := ho
  refine W.dast hx hb hg (hT 1 (fun j => .double (g j))) (fun q => by cases q) (by show ¬ (iI 0 < 0 ∨ (arrV _ _ _).slots.size ≤ _); rw [arrV_size]; show ¬ (iI 0 < 0 ∨ 1 ≤ (iI 0).toNatClampNeg); decide) rfl rfl hdg fun H1 e1 z oq => ?_
  refine kk H1 _ ⟨vf_upd g (iI 0).toNatClampNeg x, ?_, rfl⟩ z oq (hS.put z oq hA)
  rw [e1]
  rw [vp_cell_d, vp_cell_d, arrV_store]
  congr 2
  funext q
  by_cases hq : q = (iI 0).toNatClampNeg
  · subst hq
    simp [updV, vf_upd]
  · simp [updV, vf_upd, hq]
theorem w_ret (hx : p.tables.exec = Jvm.exec) (hb : c.code = cc) (hr : meth.sig.returnType = some .int) (hlocks : meth.locks = false) (hK : KW G s) {u : St} (hI : Iv vC G u H) (hS : va_S G.2.2.2.1 s.heap H locs) {cv : Int → Int64} {k : Int} {P : Int → Prop} {a : Ab} {qo : Nat} (hk : 0 ≤ k ∧ k ≤ 2) (hSC : SC u a) (ho : ∃ x, OutL (G.2.1 1) H qo x ∧ (k = 0 → ∃ z, P z ∧ x = cv z)) (hdg : decode cc pc = .ok (.ireturn, 1)) : W p l e R s m args below meth c H locs cells slots (MQ below (QcL G qo cv k P a) args s cells slots G.2.2.2.1) (F0 m pc ls [.int (iI k)]) :=
  W.iret hx hb hr (fun t ht hW => ⟨⟨iI k, u, rfl, ⟨rfl, hk, hSC⟩, by rw [ht]; exact hI, va_K.moved hW.alike hK, by rw [ht]; exact ho⟩, hS.F ht⟩) hS.2.2 hdg hlocks
theorem w_retD (hx : p.tables.exec = Jvm.exec) (hb : c.code = cc) (hr : meth.sig.returnType = some .int) (hlocks : meth.locks = false) (hK : KW G s) {u : St} (hI : Iv vC G u H) (hS : va_S G.2.2.2.1 s.heap H locs) {k : Int} {v : UInt64} {a : Ab} {cD : ClassId} {qo : Nat} (hk : 0 ≤ k ∧ k ≤ 2) (hSC : SC u a) (ho : ∃ x, OutD cD H qo x ∧ (k = 0 → x = v)) (hdg : decode cc pc = .ok (.ireturn, 1)) : W p l e R s m args below meth c H locs cells slots (MQ below (QcD G cD qo k v a) args s cells slots G.2.2.2.1) (F0 m pc ls [.int (iI k)]) :=
  W.iret hx hb hr (fun t ht hW => ⟨⟨iI k, u, rfl, ⟨rfl, hk, hSC⟩, by rw [ht]; exact hI, va_K.moved hW.alike hK, by rw [ht]; exact ho⟩, hS.F ht⟩) hS.2.2 hdg hlocks
theorem w_retN (hx : p.tables.exec = Jvm.exec) (hb : c.code = cc) (hr : meth.sig.returnType = some .int) (hlocks : meth.locks = false) (hK : KW G s) {u : St} (hI : Iv vC G u H) (hS : va_S G.2.2.2.1 s.heap H locs) {k : Int} {a : Ab} (hk : 0 ≤ k ∧ k ≤ 2) (hSC : SC u a) (hdg : decode cc pc = .ok (.ireturn, 1)) : W p l e R s m args below meth c H locs cells slots (MQ below (QcN G k a) args s cells slots G.2.2.2.1) (F0 m pc ls [.int (iI k)]) :=
  W.iret hx hb hr (fun t ht hW => ⟨⟨iI k, u, rfl, ⟨rfl, hk, hSC⟩, by rw [ht]; exact hI, va_K.moved hW.alike hK⟩, hS.F ht⟩) hS.2.2 hdg hlocks
/-- behind the call: the store, and 0 -/
theorem w_ok (hx : p.tables.exec = Jvm.exec) (hb : c.code = cc) (hr : meth.sig.returnType = some .int) (hlocks : meth.locks = false) (hK : KW G s) {B : Nat → Prop} {u : St} (hI : Iv vC (wR G B) u H) (hin : ∀ K i, vC K i → G.2.2.2.1 (G.2.2.1 K i)) {qo : Nat} (hne : ∀ K i, vC K i → ¬ G.2.2.1 K i = qo) (hS : va_S G.2.2.2.1 s.heap H locs) {cv : Int → Int64} {z : Int} {P : Int → Prop} {a : Ab} {x0 : Int64} (hSC : SC u a) (hP : P z) (ho : OutL (G.2.1 1) H qo x0) (hA : G.2.2.2.1 qo)
    {off : Int} {tgt : Nat} (d1 : decode cc pc = .ok (.lastore, 1)) (d2 : decode cc (pc + 1) = .ok (.goto off, 3)) (ht : ((pc + 1 : Nat) : Int) + off = (tgt : Int)) (d3 : decode cc tgt = .ok (.iconst 0, 1)) (d4 : decode cc (tgt + 1) = .ok (.ireturn, 1)) : W p l e R s m args below meth c H locs cells slots (MQ below (QcL G qo cv 0 P a) args s cells slots G.2.2.2.1) (F0 m pc ls [.long (cv z), .int (iI 0), .ref qo]) := by
  refine w_last hx hb hK ho hA hS d1 (fun H1 locs1 o1 z1 oq hS1 => ?_)
  refine lv_goto (tgt := tgt) hx hb d2 ht ?_
  refine r_iconst (n := 0) hx hb d3 ?_
  exact w_ret (k := 0) hx hb hr hlocks hK (Iv_move (G := wR G B) G.2.2.2.1 hI (fun K i v => oq _ (hne K i v)) hin) hS1 (by decide) hSC ⟨_, o1, fun _ => ⟨z, hP, rfl⟩⟩ d4
theorem w_okD (hx : p.tables.exec = Jvm.exec) (hb : c.code = cc) (hr : meth.sig.returnType = some .int) (hlocks : meth.locks = false) (hK : KW G s) {cD : ClassId} (hT : ArrOfT s cD .double) {B : Nat → Prop} {u : St} (hI : Iv vC (wR G B) u H) (hin : ∀ K i, vC K i → G.2.2.2.1 (G.2.2.1 K i)) {qo : Nat} (hne : ∀ K i, vC K i → ¬ G.2.2.1 K i = qo) (hS : va_S G.2.2.2.1 s.heap H locs) {v : UInt64} {a : Ab} {x0 : UInt64} (hSC : SC u a) (ho : OutD cD H qo x0) (hA : G.2.2.2.1 qo)
    {off : Int} {tgt : Nat} (d1 : decode cc pc = .ok (.dastore, 1)) (d2 : decode cc (pc + 1) = .ok (.goto off, 3)) (ht : ((pc + 1 : Nat) : Int) + off = (tgt : Int)) (d3 : decode cc tgt = .ok (.iconst 0, 1)) (d4 : decode cc (tgt + 1) = .ok (.ireturn, 1)) : W p l e R s m args below meth c H locs cells slots (MQ below (QcD G cD qo 0 v a) args s cells slots G.2.2.2.1) (F0 m pc ls [.double v, .int (iI 0), .ref qo]) := by
  refine w_dast hx hb hT ho hA hS d1 (fun H1 locs1 o1 z1 oq hS1 => ?_)
  refine lv_goto (tgt := tgt) hx hb d2 ht ?_
  refine r_iconst (n := 0) hx hb d3 ?_
  exact w_retD (k := 0) hx hb hr hlocks hK (Iv_move (G := wR G B) G.2.2.2.1 hI (fun K i v => oq _ (hne K i v)) hin) hS1 (by decide) hSC ⟨_, o1, fun _ => rfl⟩ d4
end SmallRows
