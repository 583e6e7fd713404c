/-- the reference, as it is made -/
def off9 (K : Nat) (i : Int) : Nat := if K = 9 then 0 else if K = 34 then 5 else if K = 36 then 7 else if K = 37 then 8 else if i = 0 then 1 else if i = 1 then 2 else if i = 2 then 3 else if i = 3 then 4 else if i = 4 then 6 else if i = 5 then 9 else 10
def i9 : St := fun K s i j => if K = 9 ∧ s = 15 then -1 else if K = 30 ∧ i = 0 then (if j = 0 then 10 else if j = 1 then 100 else if j = 2 then 2 else if j = 7 then -1 else if j = 8 then 10 else if j = 9 then -1 else 0) else 0
def Lk9 : List (Nat × Int) := [(9, 0), (30, 0), (30, 1), (30, 2), (30, 3), (30, 4), (30, 5), (30, 6), (34, 0), (36, 0), (37, 0)]
theorem vM_mem {K : Nat} {i : Int} (h : vM K i) : (K, i) ∈ Lk9 := by
  obtain ⟨h, h0, h1⟩ := h
  have hk : (K = 9 ∧ i < 1) ∨ (K = 30 ∧ i < 7) ∨ (K = 34 ∧ i < 1) ∨ (K = 36 ∧ i < 1) ∨ (K = 37 ∧ i < 1) := by
    unfold cnt at h1
    repeat' split at h1
    all_goals omega
  rcases hk with ⟨rfl, h2⟩ | ⟨rfl, h2⟩ | ⟨rfl, h2⟩ | ⟨rfl, h2⟩ | ⟨rfl, h2⟩
  · have : i = 0 := by omega
    subst this; decide
  · have : i = 0 ∨ i = 1 ∨ i = 2 ∨ i = 3 ∨ i = 4 ∨ i = 5 ∨ i = 6 := by omega
    rcases this with rfl | rfl | rfl | rfl | rfl | rfl | rfl <;> decide
  · have : i = 0 := by omega
    subst this; decide
  · have : i = 0 := by omega
    subst this; decide
  · have : i = 0 := by omega
    subst this; decide
theorem mem_vM : ∀ k ∈ Lk9, vM k.1 k.2 := by
  intro k hk
  have hd : ∀ k ∈ Lk9, (k.1 = 9 ∨ 29 < k.1) ∧ 0 ≤ k.2 ∧ k.2 < cnt k.1 := by decide
  exact hd k hk
theorem off9_inj : ∀ k ∈ Lk9, ∀ k' ∈ Lk9, off9 k.1 k.2 = off9 k'.1 k'.2 → k = k' := by decide
theorem Iv9 {D : va_G} {ct : Nat → ClassId} {q : Nat} {A : Nat → Prop} {z : (Nat → Nat) × (Nat → Nat)} {H : Heap} {ad : Nat → Int → Nat} (had : ∀ K i, vM K i → ad K i = q + off9 K i) (hF : HPo D q (g_X9_init ct q) H) (hA : ∀ a, q ≤ a → A a) : Iv vM (D, ct, ad, A, z) i9 H := by
  have e9 : ∀ k ∈ Lk9, ad k.1 k.2 = q + off9 k.1 k.2 := fun k hk => had _ _ (mem_vM k hk)
  refine Iv_mk (fun K i K' i' v v' e => ?_) Lk9 (fun K i => ⟨vM_mem, fun h => mem_vM _ h⟩) (by decide) (fun K i v => ?_) (fun K i v => ?_)
  · have e : ad K i = ad K' i' := e
    rw [had _ _ v, had _ _ v'] at e
    have := off9_inj _ (vM_mem v) _ (vM_mem v') (by show off9 K i = off9 K' i'; omega)
    exact ⟨congrArg Prod.fst this, congrArg Prod.snd this⟩
  · have hm := vM_mem v
    show va_at D vwCl (ad K i, cel ct ad K i i9) H
    rw [had _ _ v]
    have a0 := e9 (30, 0) (by decide)
    have a1 := e9 (30, 1) (by decide)
    have a2 := e9 (30, 2) (by decide)
    have a3 := e9 (30, 3) (by decide)
    have a4 := e9 (30, 4) (by decide)
    have a5 := e9 (30, 5) (by decide)
    have a6 := e9 (30, 6) (by decide)
    have b4 := e9 (34, 0) (by decide)
    have b6 := e9 (36, 0) (by decide)
    have b7 := e9 (37, 0) (by decide)
    dsimp only at a0 a1 a2 a3 a4 a5 a6 b4 b6 b7
    simp only [Lk9, List.mem_cons, Prod.mk.injEq, List.not_mem_nil, or_false] at hm
    rcases hm with ⟨rfl, rfl⟩ | ⟨rfl, rfl⟩ | ⟨rfl, rfl⟩ | ⟨rfl, rfl⟩ | ⟨rfl, rfl⟩ | ⟨rfl, rfl⟩ | ⟨rfl, rfl⟩ | ⟨rfl, rfl⟩ | ⟨rfl, rfl⟩ | ⟨rfl, rfl⟩ | ⟨rfl, rfl⟩
    · rw [cel_9, a0, a1, a2, a3, a4, a5, a6, b4, b6, b7]
      exact hF 0 _ rfl
    · rw [cel_30]
      exact at_extI (hF 1 _ rfl) (by decide)
    · exact hF 2 _ rfl
    · exact hF 3 _ rfl
    · exact hF 4 _ rfl
    · exact hF 6 _ rfl
    · exact hF 9 _ rfl
    · exact hF 10 _ rfl
    · exact hF 5 _ rfl
    · exact hF 7 _ rfl
    · exact hF 8 _ rfl
  · show A (ad K i)
    rw [had _ _ v]
    exact hA _ (by omega)
