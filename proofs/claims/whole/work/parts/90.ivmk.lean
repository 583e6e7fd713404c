/-- a world out of its cells: every one is there, and they are finitely many -/
theorem Iv_mk {V : Nat → Int → Prop} {G : WG} {st : St} {H : Heap} (hinj : ∀ K i K' i', V K i → V K' i' → G.2.2.1 K i = G.2.2.1 K' i' → K = K' ∧ i = i') (Lk : List (Nat × Int)) (hL : ∀ K i, V K i ↔ (K, i) ∈ Lk) (hNd : Lk.Nodup)
    (hc : ∀ K i, V K i → va_at G.1 vwCl (G.2.2.1 K i, cel G.2.1 G.2.2.1 K i st) H) (hA : ∀ K i, V K i → G.2.2.2.1 (G.2.2.1 K i)) : Iv V G st H := by
  have hf : ∃ f : Nat → va_E, ∀ K i, V K i → f (G.2.2.1 K i) = cel G.2.1 G.2.2.1 K i st := by
    refine ⟨fun a => @dite _ (∃ k : Nat × Int, V k.1 k.2 ∧ G.2.2.1 k.1 k.2 = a) (Classical.propDecidable _) (fun h => cel G.2.1 G.2.2.1 (Classical.choose h).1 (Classical.choose h).2 st) (fun _ => .inr (0, [])), fun K i v => ?_⟩
    have h : ∃ k : Nat × Int, V k.1 k.2 ∧ G.2.2.1 k.1 k.2 = G.2.2.1 K i := ⟨(K, i), v, rfl⟩
    show @dite _ (∃ k : Nat × Int, V k.1 k.2 ∧ G.2.2.1 k.1 k.2 = G.2.2.1 K i) (Classical.propDecidable _) _ _ = _
    rw [dif_pos h]
    have hs := Classical.choose_spec h
    obtain ⟨e1, e2⟩ := hinj _ _ _ _ hs.1 v hs.2
    rw [e1, e2]
  obtain ⟨f, hf⟩ := hf
  have at_ : ∀ {k p : Nat}, (Lk.map (fun x => G.2.2.1 x.1 x.2))[k]? = some p → ∃ x : Nat × Int, Lk[k]? = some x ∧ V x.1 x.2 ∧ G.2.2.1 x.1 x.2 = p := fun {k p} h => by
    rw [List.getElem?_map] at h
    cases e : Lk[k]? with
    | none => rw [e] at h; cases h
    | some x =>
      rw [e] at h
      exact ⟨x, rfl, (hL x.1 x.2).mpr (List.mem_of_getElem? e), Option.some.inj h⟩
  refine ⟨hinj, Lk.map (fun x => G.2.2.1 x.1 x.2), f, fun k q hq => ?_, nd_va_D (nd_of _ (fun i j p h1 h2 => ?_)) (fun a ha => ?_), fun K i v => ⟨List.mem_map.mpr ⟨(K, i), (hL K i).mp v, rfl⟩, hf K i v⟩⟩
  · obtain ⟨h1, h2⟩ := pl_at hq
    obtain ⟨x, -, v, e⟩ := at_ h1
    rw [h2, ← e, hf _ _ v]
    exact hc _ _ v
  · obtain ⟨x, x1, xv, xe⟩ := at_ h1
    obtain ⟨z, z1, zv, ze⟩ := at_ h2
    obtain ⟨e1, e2⟩ := hinj _ _ _ _ xv zv (xe.trans ze.symm)
    have exz : x = z := Prod.ext e1 e2
    rw [exz] at x1
    exact (List.getElem?_inj (List.getElem?_eq_some_iff.mp x1).1 hNd).mp (x1.trans z1.symm)
  · obtain ⟨x, hx, rfl⟩ := List.mem_map.mp ha
    exact hA _ _ ((hL x.1 x.2).mpr hx)
/-- the same with another list of references in an array -/
theorem at_ext {D : va_G} {a : Nat} {cA : ClassId} {n : Nat} {f f' : Nat → Option Nat} {H : Heap} (h : va_at D vwCl (a, .inl (cA, n, .inr (.inr (.inr (.inr f))))) H) (e : ∀ j, j < n → f j = f' j) : va_at D vwCl (a, .inl (cA, n, .inr (.inr (.inr (.inr f'))))) H := by
  have h : H[a]? = some (vp_cell cA (n, .inr (.inr (.inr (.inr f))))) := h
  show H[a]? = some (vp_cell cA (n, .inr (.inr (.inr (.inr f')))))
  rw [h, vp_cell_q, vp_cell_q]
  unfold arrV
  have : (Array.ofFn (n := n) fun j => va_rf (f j.val)) = Array.ofFn (n := n) fun j => va_rf (f' j.val) := by
    congr 1
    funext j
    rw [e j.val j.isLt]
  rw [this]
theorem at_extI {D : va_G} {a : Nat} {cA : ClassId} {n : Nat} {f f' : Nat → Int32} {H : Heap} (h : va_at D vwCl (a, .inl (cA, n, .inl f)) H) (e : ∀ j, j < n → f j = f' j) : va_at D vwCl (a, .inl (cA, n, .inl f')) H := by
  have h : H[a]? = some (vp_cell cA (n, .inl f)) := h
  show H[a]? = some (vp_cell cA (n, .inl f'))
  rw [h, vp_cell_i, vp_cell_i]
  unfold arrV
  have : (Array.ofFn (n := n) fun j => Value.int (f j.val)) = Array.ofFn (n := n) fun j => Value.int (f' j.val) := by
    congr 1
    funext j
    rw [e j.val j.isLt]
  rw [this]
