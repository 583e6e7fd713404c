section MakeRows2
variable {p : Program} {l : Launch} {e : Env} {R : Room} {s : State} {m : MethodId} {args : Array Value} {below : List Frame} {meth : Method} {c : Code} {H : Heap} {locs : List Loc} {cells slots mc ms : Nat} {Q : State → Prop}
variable {cc : ByteArray} {pc : Nat} {ls : Array Slot} {rest st0 : List Value} {D : va_G} {ct : Nat → ClassId} {A : Nat → Prop} {H0 : Heap} {q k N' : Nat} {g : Nat → Option va_E} {tys : List (ClassId × FieldType)}
theorem k_anew (hx : p.tables.exec = Jvm.exec) (hb : c.code = cc) {own C : String} {index : Nat} (hown : s.vm.findClass own = some m.cls) (hclink : (Cond.classLink own index C).before args s = true) (hover : (Cond.arrayOver (.object C)).before args s = true) (hF : HPo D q g H) (hs : H.size = q + k) (hS : va_S A H0 H locs) {cA : ClassId} (hcA : s.vm.findClass ("[" ++ (FieldType.object C).toString) = some cA)
    {n : Int32} {N9 : Nat} (hn : ¬ n < 0) (hN : n.toNatClampNeg = N9) (hbytes : N9 * 4 ≤ 536870912) (hcells : cells + 1 ≤ R.cells) (hslots : slots + N9 ≤ R.slots) (hdg : decode cc pc = .ok (.anewarray index, 3))
    (kk : ∀ (H1 : Heap), HPo D q (upO g k (.inl (cA, N9, .inr (.inr (.inr (.inr (fun _ => none))))))) H1 → H1.size = q + (k + 1) → va_S A H0 H1 locs →
      W p l e R s m args below meth c H1 locs (cells + 1) (slots + N9) Q (F0 m (pc + 3) ls (.ref (q + k) :: rest))) : W p l e R s m args below meth c H locs cells slots Q (F0 m pc ls (.int n :: rest)) := by
  subst hN
  refine W.anew hx hb hown hclink hover rfl hdg rfl hn hbytes hcells hslots fun cA2 kA comp h1 h2 h3 h4 => ?_
  cases Option.some.inj (hcA.symm.trans h1)
  rw [hs]
  refine kk _ (hF.up (show _ = some (vp_cell cA _) from ?_) (fun a h1 _ => ?_)) (by rw [Array.size_push]; omega) ⟨by rw [Array.size_push]; have := hS.1; omega, fun x h1 h2 => ?_, hS.2.2⟩
  · rw [vp_cell_q, ← hs, Array.getElem?_push, if_pos rfl]
    show _ = some (arrV cA _ (fun _ => Value.null))
    rw [← arrV_new]
  · rw [Array.getElem?_push, if_neg (by omega)]
  · rw [Array.getElem?_push, if_neg (by have := hS.1; omega)]
    exact hS.2.1 x h1 h2
theorem outer5 (cA : ClassId) (h : Nat) : Jvm.Free.Multi.outerC cA 5 h 5 = vp_cell cA (5, .inr (.inr (.inr (.inr (fun j => some (h + 1 + j)))))) := by rfl
def mulO (g : Nat → Option va_E) (q k : Nat) (cO cI : ClassId) (w : Nat) : Nat → Option va_E := fun j => if j = k then some (.inl (cO, 5, .inr (.inr (.inr (.inr (fun i => some (q + k + 1 + i))))))) else if k < j ∧ j < k + 6 then some (.inl (cI, w, .inr (.inl (fun _ => 0)))) else g j
theorem k_multi (hx : p.tables.exec = Jvm.exec) (hb : c.code = cc) {own : String} {index : Nat} (hown : s.vm.findClass own = some m.cls) (hclink : (Cond.classLink own index "[[J").before args s = true) (hover : (Cond.arrayOver (.array .long)).before args s = true) (harr : (Cond.arrayClass .long).before args s = true) (hF : HPo D q g H) (hs : H.size = q + k) (hS : va_S A H0 H locs) {cO cI : ClassId} (hcO : s.vm.findClass "[[J" = some cO) (hcI : s.vm.findClass "[J" = some cI)
    {w : Int32} {w' : Nat} (hw : ¬ w < 0) (hw' : w.toNatClampNeg = w') (hw3 : w' ≤ 1000) (hcells : cells + 6 ≤ R.cells) (hslots : slots + (5 + 5 * w') ≤ R.slots) (hdg : decode cc pc = .ok (.multianewarray index 2, 4))
    (kk : ∀ (H1 : Heap), HPo D q (mulO g q k cO cI w') H1 → H1.size = q + (k + 6) → va_S A H0 H1 locs →
      W p l e R s m args below meth c H1 locs (cells + 6) (slots + (5 + 5 * w')) Q (F0 m (pc + 4) ls (.ref (q + k) :: rest))) : W p l e R s m args below meth c H locs cells slots Q (F0 m pc ls (.int w :: .int (iI 5) :: rest)) := by
  intro T hT X
  have n5 : (iI 5).toNatClampNeg = 5 := rfl
  obtain ⟨vm₁, cA, comp, hW, hfA, hfC, hO, hI, X1, step⟩ := X.multianewarray2F hx (g := F0 m pc ls (.int w :: .int (iI 5) :: rest)) hown hclink hover harr rfl (by rw [hb]; exact hdg) rfl (by decide) hw (by rw [n5]; decide) (by rw [hw']; show w' * 8 ≤ _; omega) (by rw [hw']; omega) rfl rfl (by rw [n5]; omega) (by rw [n5, hw']; omega)
  rw [n5, hw'] at X1 step
  cases Option.some.inj (hcO.symm.trans hfA)
  cases Option.some.inj (hcI.symm.trans hfC)
  have hs1 : (T.setVm vm₁).heap.size = q + k := by show T.heap.size = _; rw [hT]; exact hs
  have hs2 : T.heap.size = q + k := by rw [hT]; exact hs
  obtain ⟨f1, f2, -⟩ := Jvm.Free.Multi.fill_facts (T.setVm vm₁) cO cI 5 w' (defaultValue .long) 5
  have f3 := fun a (ha : a < (T.setVm vm₁).heap.size) => Jvm.Free.Multi.fill_old (T.setVm vm₁) cO cI 5 w' (defaultValue .long) ha 5
  have f4 := Jvm.Free.Multi.fill_inner (T.setVm vm₁) cO cI 5 w' (defaultValue .long) 5
  rw [hs1] at f1 f2 f3 f4
  have f3 : ∀ a, a < q + k → (Jvm.Free.Multi.fill (T.setVm vm₁) cO cI 5 w' (defaultValue .long) 5).heap[a]? = H[a]? := fun a ha => by rw [f3 a ha]; show T.heap[a]? = _; rw [hT]
  rw [hs2] at step
  generalize Jvm.Free.Multi.fill (T.setVm vm₁) cO cI 5 w' (defaultValue .long) 5 = T1 at X1 step f1 f2 f3 f4
  have hP1 : HPo D q (mulO g q k cO cI w') T1.heap := by
    intro j e9 hj
    unfold mulO at hj
    by_cases c1 : j = k
    · rw [if_pos c1] at hj
      cases hj
      rw [c1]
      show T1.heap[q + k]? = some (vp_cell cO _)
      rw [← outer5]
      exact f2
    · rw [if_neg c1] at hj
      by_cases c2 : k < j ∧ j < k + 6
      · rw [if_pos c2] at hj
        cases hj
        show T1.heap[q + j]? = some (vp_cell cI _)
        have := f4 (j - (k + 1)) (by omega)
        rw [show q + k + 1 + (j - (k + 1)) = q + j by omega] at this
        rw [this, vp_cell_l]
        show _ = some (arrV cI w' (fun _ => defaultValue .long))
        rw [← arrV_new]
        rfl
      · rw [if_neg c2] at hj
        have h9 := hF j e9 hj
        have h8 : q + j < H.size := va_at_lt h9
        exact h9.kept (f3 _ (by show q + j < q + k; omega))
  obtain ⟨t, a1, b1⟩ := kk T1.heap hP1 (by omega) ⟨by have := hS.1; omega, fun x h1 h2 => (f3 x (by have := hS.1; omega)).trans (hS.2.1 x h1 h2), hS.2.2⟩ T1 rfl (by
    have h9 := X1
    rw [show cells + 1 + 5 = cells + 6 by omega, show slots + 5 + 5 * w' = slots + (5 + 5 * w') by omega] at h9
    exact h9)
  exact ⟨t, step t a1, b1⟩
theorem k_aast (hx : p.tables.exec = Jvm.exec) (hb : c.code = cc) (hK : va_K D vwCl (tysW ct) s) (hF : HPo D q g H) {k2 n : Nat} {f : Nat → Option Nat} {vs : List Value} (ha : g k = some (.inl (ct 4, n, .inr (.inr (.inr (.inr f)))))) (hv : g k2 = some (.inr (0, vs))) (hs : H.size = q + N') (hS : va_S A H0 H locs) (hA : A (q + k)) {i : Int32} (hin : vp_in i n) (hdg : decode cc pc = .ok (.aastore, 1))
    (kk : ∀ (H1 : Heap) (locs1 : List Loc), HPo D q (upO g k (.inl (ct 4, n, .inr (.inr (.inr (.inr (va_up f i.toNatClampNeg (some (q + k2))))))))) H1 → H1.size = q + N' → va_S A H0 H1 locs1 → W p l e R s m args below meth c H1 locs1 cells slots Q (F0 m (pc + 1) ls rest)) : W p l e R s m args below meth c H locs cells slots Q (F0 m pc ls (.ref (q + k2) :: .int i :: .ref (q + k) :: rest)) := by
  have hlt : i.toNatClampNeg < n := Nat.not_le.mp fun z => hin (Or.inr z)
  have h0 : ¬ i < 0 := fun z => hin (Or.inl z)
  obtain ⟨r', hr', cellV, g1, g2, g3, -⟩ := hF k2 _ hv
  have hr : r' = (RX0, TX0, 6) := (Option.some.inj hr').symm
  subst hr
  have hcls := (hK.1 0 _ rfl).2
  obtain ⟨kA, comp, k1, k3, k4, -⟩ := (hK.2 4 _ rfl).2
  have hcomp : comp = D.1 0 := Option.some.inj (k4.symm.trans hcls.1)
  subst hcomp
  obtain ⟨kC, hkC, -⟩ := hcls.2
  refine W.aast hx hb (hF k _ ha) (fun z h => by cases h) (fun h => by cases h) k1 k3 rfl hkC ⟨h0, by show _ < (arrV _ _ _).slots.size; rw [arrV_size]; exact hlt⟩ g1 (fun z h => by rw [g3] at h; cases h) (by rw [g2]; exact hkC) (by rw [g2]; exact va_assign hcls) rfl rfl hdg fun H1 e1 z oq => ?_
  refine kk H1 _ (hF.up ?_ (fun a _ h2 => oq a h2)) (by omega) (hS.put z oq hA)
  show H1[q + k]? = some (vp_cell _ _)
  rw [e1]
  rw [vp_cell_q, vp_cell_q, arrV_store]
  congr 2
  funext x
  by_cases hq : x = i.toNatClampNeg
  · subst hq
    simp [updV, va_up, va_rf]
  · simp [updV, va_up, hq]
theorem k_iast (hx : p.tables.exec = Jvm.exec) (hb : c.code = cc) (hK : va_K D vwCl (tysW ct) s) (hF : HPo D q g H) {n : Nat} {f : Nat → Int32} (ha : g k = some (.inl (ct 0, n, .inl f))) (hs : H.size = q + N') (hS : va_S A H0 H locs) (hA : A (q + k)) {i v : Int32} (hin : vp_in i n) (hdg : decode cc pc = .ok (.iastore, 1))
    (kk : ∀ (H1 : Heap) (locs1 : List Loc), HPo D q (upO g k (.inl (ct 0, n, .inl (upd f i.toNatClampNeg v)))) H1 → H1.size = q + N' → va_S A H0 H1 locs1 → W p l e R s m args below meth c H1 locs1 cells slots Q (F0 m (pc + 1) ls rest)) : W p l e R s m args below meth c H locs cells slots Q (F0 m pc ls (.int v :: .int i :: .ref (q + k) :: rest)) := by
  refine W.iast hx hb (hF k _ ha) ((hK.2 0 _ rfl).1 n (fun j => .int (f j))) (fun z => by cases z) (by show ¬ (i < 0 ∨ (arrV _ _ _).slots.size ≤ _); rw [arrV_size]; exact hin) rfl rfl hdg fun H1 e1 z oq => ?_
  refine kk H1 _ (hF.up ?_ (fun a _ h2 => oq a h2)) (by omega) (hS.put z oq hA)
  show H1[q + k]? = some (vp_cell _ _)
  rw [e1]
  rw [vp_cell_i, vp_cell_i, arrV_store]
  congr 2
  funext x
  by_cases hq : x = i.toNatClampNeg
  · subst hq
    simp [updV, upd]
  · simp [updV, upd, hq]
end MakeRows2
