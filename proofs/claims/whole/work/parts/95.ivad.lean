/-! another address function -/
theorem Iv_at {V : Nat → Int → Prop} {G : WG} {st : St} {H : Heap} (h : Iv V G st H) {K : Nat} {i : Int} (v : V K i) : va_at G.1 vwCl (G.2.2.1 K i, cel G.2.1 G.2.2.1 K i st) H := by
  obtain ⟨-, L, f, hP, -, hC⟩ := h
  obtain ⟨k0, h0⟩ := va_pl_get (X := []) (f := f) (hC K i v).1
  rw [(hC K i v).2] at h0
  exact hP k0 _ h0
theorem at_ad {D : va_G} {ct : Nat → ClassId} {ad ad' : Nat → Int → Nat} {st : St} {H : Heap} (e : ∀ K i, vC K i → ad' K i = ad K i) (h16 : ∀ k, 0 ≤ k → k < 8 → 0 ≤ st 16 0 0 k ∧ st 16 0 0 k < 13) {K : Nat} {i : Int} (v : vC K i) (h : va_at D vwCl (ad K i, cel ct ad K i st) H) : va_at D vwCl (ad' K i, cel ct ad' K i st) H := by
  rw [e K i v]
  obtain ⟨hK, h9, h0, h1⟩ := v
  match K, hK, h9, h1, h with
  | 0, _, _, h1, h =>
    have h1 : i < 13 := h1
    rw [cel_0] at h ⊢
    rw [(e 6 (4 * i) ⟨by decide, by decide, by omega, by show _ < (52 : Int); omega⟩), (e 6 (4 * i + 1) ⟨by decide, by decide, by omega, by show _ < (52 : Int); omega⟩), (e 6 (4 * i + 2) ⟨by decide, by decide, by omega, by show _ < (52 : Int); omega⟩), (e 6 (4 * i + 3) ⟨by decide, by decide, by omega, by show _ < (52 : Int); omega⟩)]
    exact h
  | 1, _, _, h1, h =>
    have h1 : i < 2 := h1
    rw [cel_1] at h ⊢
    rw [(e 12 (i) ⟨by decide, by decide, by omega, by show _ < (2 : Int); omega⟩), (e 13 (i) ⟨by decide, by decide, by omega, by show _ < (2 : Int); omega⟩), (e 14 (i) ⟨by decide, by decide, by omega, by show _ < (2 : Int); omega⟩), (e 15 (i) ⟨by decide, by decide, by omega, by show _ < (2 : Int); omega⟩)]
    exact h
  | 2, _, _, h1, h =>
    have h1 : i < 1 := h1
    rw [cel_2] at h ⊢
    rw [(e 16 0 ⟨by decide, by decide, by decide, by decide⟩)]
    exact h
  | 3, _, _, h1, h =>
    have h1 : i < 2 := h1
    rw [cel_3] at h ⊢
    rw [(e 17 (i) ⟨by decide, by decide, by omega, by show _ < (2 : Int); omega⟩), (e 19 (i) ⟨by decide, by decide, by omega, by show _ < (2 : Int); omega⟩)]
    exact h
  | 4, _, _, _, h => exact h
  | 5, _, _, h1, h =>
    have h1 : i < 1 := h1
    rw [cel_5] at h ⊢
    rw [(e 7 0 ⟨by decide, by decide, by decide, by decide⟩), (e 0 2 ⟨by decide, by decide, by decide, by decide⟩)]
    exact h
  | 6, _, _, h1, h =>
    have h1 : i < 52 := h1
    rw [cel_6] at h ⊢
    rw [(e 10 (i) ⟨by decide, by decide, by omega, by show _ < (52 : Int); omega⟩), (e 11 (i) ⟨by decide, by decide, by omega, by show _ < (52 : Int); omega⟩)]
    exact h
  | 7, _, _, h1, h =>
    have h1 : i < 1 := h1
    rw [cel_7] at h ⊢
    rw [(e 21 0 ⟨by decide, by decide, by decide, by decide⟩), (e 22 0 ⟨by decide, by decide, by decide, by decide⟩), (e 23 0 ⟨by decide, by decide, by decide, by decide⟩), (e 24 0 ⟨by decide, by decide, by decide, by decide⟩), (e 25 0 ⟨by decide, by decide, by decide, by decide⟩)]
    exact h
  | 8, _, _, h1, h =>
    have h1 : i < 1 := h1
    rw [cel_8] at h ⊢
    rw [(e 5 0 ⟨by decide, by decide, by decide, by decide⟩), (e 0 0 ⟨by decide, by decide, by decide, by decide⟩), (e 3 0 ⟨by decide, by decide, by decide, by decide⟩), (e 0 1 ⟨by decide, by decide, by decide, by decide⟩), (e 3 1 ⟨by decide, by decide, by decide, by decide⟩), (e 1 0 ⟨by decide, by decide, by decide, by decide⟩), (e 1 1 ⟨by decide, by decide, by decide, by decide⟩), (e 4 0 ⟨by decide, by decide, by decide, by decide⟩), (e 2 0 ⟨by decide, by decide, by decide, by decide⟩), (e 26 0 ⟨by decide, by decide, by decide, by decide⟩), (e 27 0 ⟨by decide, by decide, by decide, by decide⟩), (e 28 0 ⟨by decide, by decide, by decide, by decide⟩)]
    exact h
  | 9, _, h9, _, _ => exact absurd rfl h9
  | 10, _, _, _, h => exact h
  | 11, _, _, _, h => exact h
  | 12, _, _, _, h => exact h
  | 13, _, _, _, h => exact h
  | 14, _, _, _, h => exact h
  | 15, _, _, _, h => exact h
  | 16, _, _, h1, h =>
    have h1 : i < 1 := h1
    have : i = 0 := by omega
    subst this
    rw [cel_16] at h ⊢
    refine at_ext h (fun j hj => congrArg some ?_)
    have hj : j < 8 := hj
    have h2 := h16 (j : Int) (by omega) (by omega)
    exact (e 0 _ ⟨by decide, by decide, h2.1, h2.2⟩).symm
  | 17, _, _, h1, h =>
    have h1 : i < 2 := h1
    rw [cel_17] at h ⊢
    refine at_ext h (fun j hj => congrArg some ?_)
    have hj : j < 5 := hj
    exact (e 18 (5 * i + (j : Int)) ⟨by decide, by decide, by omega, by show _ < (10 : Int); omega⟩).symm
  | 18, _, _, _, h => exact h
  | 19, _, _, h1, h =>
    have h1 : i < 2 := h1
    rw [cel_19] at h ⊢
    refine at_ext h (fun j hj => congrArg some ?_)
    have hj : j < 5 := hj
    exact (e 20 (5 * i + (j : Int)) ⟨by decide, by decide, by omega, by show _ < (10 : Int); omega⟩).symm
  | 20, _, _, _, h => exact h
  | 21, _, _, _, h => exact h
  | 22, _, _, _, h => exact h
  | 23, _, _, _, h => exact h
  | 24, _, _, _, h => exact h
  | 25, _, _, _, h => exact h
  | 26, _, _, h1, h =>
    have h1 : i < 1 := h1
    rw [cel_26] at h ⊢
    refine at_ext h (fun j hj => congrArg some ?_)
    have hj : j < 2 := hj
    exact (e 0 (3 + (j : Int)) ⟨by decide, by decide, by omega, by show _ < (13 : Int); omega⟩).symm
  | 27, _, _, _, h => exact h
  | 28, _, _, _, h => exact h
  | n + 29, h, _, _, _ => exact absurd h (Nat.not_lt.mpr (Nat.le_add_left _ _))
theorem Iv_ad {D : va_G} {ct : Nat → ClassId} {ad ad' : Nat → Int → Nat} {A : Nat → Prop} {z : (Nat → Nat) × (Nat → Nat)} {st : St} {H : Heap} (h : Iv vC (D, ct, ad, A, z) st H) (e : ∀ K i, vC K i → ad' K i = ad K i) (h16 : ∀ k, 0 ≤ k → k < 8 → 0 ≤ st 16 0 0 k ∧ st 16 0 0 k < 13) : Iv vC (D, ct, ad', A, z) st H :=
  Iv_mk (fun K i K' i' v v' q => h.1 K i K' i' v v' (by
    have q : ad' K i = ad' K' i' := q
    show ad K i = ad K' i'
    rw [← e K i v, ← e K' i' v', q])) Lk8 (fun K i => ⟨vC_mem, fun h => mem_vC _ h⟩) Lk8_nd (fun K i v => at_ad e h16 v (Iv_at h v)) (fun K i v => by
    have := Iv_in h v
    show A (ad' K i)
    rw [e K i v]
    exact this)
