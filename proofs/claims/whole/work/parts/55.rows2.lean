/-! the class's rows: taking out, putting in order -/
theorem rcap_0 (b : Int) : rcap (4 * b) = 5 := by
  unfold rcap
  rw [if_pos (by omega)]
theorem rcap_1 (b : Int) : rcap (4 * b + 1) = 3 := by
  unfold rcap
  rw [if_neg (by omega), if_pos (by omega)]
theorem insG_keep {st : St} {o n f s : Int} {K k : Nat} {i j : Int} (h : ¬ ((K = 6 ∨ K = 10 ∨ K = 11) ∧ i = o)) : insS st o n f s K k i j = st K k i j := by
  unfold insS
  rw [up_ne (by omega), up_ne (by omega), up_ne (by omega), shR_keep (by omega)]
theorem insG_n (st : St) (o n f s : Int) : insS st o n f s 6 2 o 0 = st 6 2 o 0 + 1 := by
  unfold insS
  rw [up_eq, if_pos ⟨rfl, rfl, rfl, rfl⟩]
theorem insG_10 {st : St} {o n f s j : Int} : insS st o n f s 10 0 o j = if j = n then f else if n < j ∧ j ≤ st 6 2 o 0 then st 10 0 o (j - 1) else st 10 0 o j := by
  unfold insS
  rw [up_ne (by omega), up_ne (by omega), up_eq]
  by_cases c : j = n
  · rw [if_pos ⟨rfl, rfl, rfl, c⟩, if_pos c]
  · rw [if_neg (fun q => c q.2.2.2), if_neg c]
    unfold shR
    by_cases d : n < j ∧ j ≤ st 6 2 o 0
    · rw [if_pos ⟨Or.inl rfl, rfl, rfl, d.1, d.2⟩, if_pos d]
    · rw [if_neg (fun q => d ⟨q.2.2.2.1, q.2.2.2.2⟩), if_neg d]
theorem insG_11 {st : St} {o n f s j : Int} : insS st o n f s 11 0 o j = if j = n then s else if n < j ∧ j ≤ st 6 2 o 0 then st 11 0 o (j - 1) else st 11 0 o j := by
  unfold insS
  rw [up_ne (by omega), up_eq]
  by_cases c : j = n
  · rw [if_pos ⟨rfl, rfl, rfl, c⟩, if_pos c]
  · rw [if_neg (fun q => c q.2.2.2), if_neg c, up_ne (by omega)]
    unfold shR
    by_cases d : n < j ∧ j ≤ st 6 2 o 0
    · rw [if_pos ⟨Or.inr rfl, rfl, rfl, d.1, d.2⟩, if_pos d]
    · rw [if_neg (fun q => d ⟨q.2.2.2.1, q.2.2.2.2⟩), if_neg d]
theorem BH.dH {st : St} {b n : Int} {A : Int → Int} (h : BH st b A) (n0 : 0 ≤ n) (n1 : n < A 3) (h3 : A 3 ≤ 3) (h2 : A 2 ≤ 5) : BH (remS st (4 * b + 1) n) b (dropH A n) := by
  obtain ⟨b0, b1, b2, ⟨i1, i2, i3⟩, b4, b5⟩ := h
  have rc := rcap_1 b
  refine ⟨(remS_keep (by omega)).trans (b0.trans (dropH_ne (by omega)).symm), (remS_keep (by omega)).trans (b1.trans (dropH_ne (by omega)).symm), ?_, ⟨?_, ?_, fun k k0 k1 => ?_⟩, ?_, ?_⟩
  · exact (b2.fr (fun K s j hK => remS_keep (by omega))).e (dropH_ne (by omega)).symm (fun k k0 k1 => ⟨(dropH_ne (by omega)).symm, (dropH_ne (by omega)).symm⟩)
  · unfold RW
    rw [remS_n, i2]
    omega
  · rw [remS_n, i2, dropH_3]
  · rw [dropH_3] at k1
    rw [remS_K (Or.inl rfl), i2, dropH_in k0]
    by_cases c : n ≤ k ∧ k < A 3 - 1
    · rw [if_pos c, if_pos c]
      exact i3 (k + 1) (by omega) (by omega)
    · rw [if_neg c, if_neg c]
      exact i3 k k0 (by omega)
  · exact (b4.fr (fun K s j hK => remS_keep (by omega))).e (dropH_ne (by omega)).symm (fun k k0 k1 => ⟨(dropH_ne (by omega)).symm, (dropH_ne (by omega)).symm⟩)
  · exact (b5.fr (fun K s j hK => remS_keep (by omega))).e (dropH_ne (by omega)).symm (fun k k0 k1 => ⟨(dropH_ne (by omega)).symm, (dropH_ne (by omega)).symm⟩)
theorem BH.aH {st : St} {b p v w : Int} {A : Int → Int} (h : BH st b A) (n0 : 0 ≤ p) (n1 : p ≤ A 3) (h3 : A 3 < 3) (h2 : A 2 ≤ 5) : BH (insS st (4 * b + 1) p v w) b (addH A p v) := by
  obtain ⟨b0, b1, b2, ⟨i1, i2, i3⟩, b4, b5⟩ := h
  have rc := rcap_1 b
  refine ⟨(insG_keep (by omega)).trans (b0.trans (addH_ne (by omega) n1).symm), (insG_keep (by omega)).trans (b1.trans (addH_ne (by omega) n1).symm), ?_, ⟨?_, ?_, fun k k0 k1 => ?_⟩, ?_, ?_⟩
  · exact (b2.fr (fun K s j hK => insG_keep (by omega))).e (addH_ne (by omega) n1).symm (fun k k0 k1 => ⟨(addH_ne (by omega) n1).symm, (addH_ne (by omega) n1).symm⟩)
  · unfold RW
    rw [insG_n, i2]
    omega
  · rw [insG_n, i2, addH_3]
  · rw [addH_3] at k1
    rw [insG_10, i2, addH_in k0]
    by_cases d : k = p
    · rw [if_pos d, if_pos d]
    · rw [if_neg d, if_neg d]
      by_cases c : p < k ∧ k ≤ A 3
      · rw [if_pos c, if_pos c]
        exact i3 (k - 1) (by omega) (by omega)
      · rw [if_neg c, if_neg c]
        exact i3 k k0 (by omega)
  · exact (b4.fr (fun K s j hK => insG_keep (by omega))).e (addH_ne (by omega) n1).symm (fun k k0 k1 => ⟨(addH_ne (by omega) n1).symm, (addH_ne (by omega) n1).symm⟩)
  · exact (b5.fr (fun K s j hK => insG_keep (by omega))).e (addH_ne (by omega) n1).symm (fun k k0 k1 => ⟨(addH_ne (by omega) n1).symm, (addH_ne (by omega) n1).symm⟩)
theorem BH.dS {st : St} {b n : Int} {A : Int → Int} (h : BH st b A) (n0 : 0 ≤ n) (n1 : n < A 2) (h2 : A 2 ≤ 5) : BH (remS st (4 * b) n) b (dropA A 6 2 n) := by
  obtain ⟨b0, b1, b2, ⟨i1, i2, i3⟩, b4, b5⟩ := h
  have rc := rcap_0 b
  have s2 := b2.2.1
  refine ⟨(remS_keep (by omega)).trans (b0.trans (dropA_ne (by omega)).symm), (remS_keep (by omega)).trans (b1.trans (dropA_ne (by omega)).symm), ⟨?_, ?_, fun k k0 k1 => ⟨?_, ?_⟩⟩, ⟨i1.eq (remS_keep (by omega)), ?_, fun k k0 k1 => ?_⟩, ?_, ?_⟩
  · unfold RW
    rw [remS_n, s2]
    omega
  · rw [remS_n, s2, dropA_c]
  · rw [dropA_c] at k1
    show remS st (4 * b) n 10 0 (4 * b) k = dropA A 6 2 n (6 + 2 * k)
    rw [remS_K (Or.inl rfl), s2, dropS_f k0]
    by_cases c : n ≤ k ∧ k < A 2 - 1
    · rw [if_pos c, if_pos c]
      exact (b2.2.2 (k + 1) (by omega) (by omega)).1
    · rw [if_neg c, if_neg c]
      exact (b2.2.2 k k0 (by omega)).1
  · rw [dropA_c] at k1
    show remS st (4 * b) n 11 0 (4 * b) k = dropA A 6 2 n (6 + 2 * k + 1)
    rw [remS_K (Or.inr rfl), s2, dropS_g k0]
    by_cases c : n ≤ k ∧ k < A 2 - 1
    · rw [if_pos c, if_pos c]
      exact (b2.2.2 (k + 1) (by omega) (by omega)).2
    · rw [if_neg c, if_neg c]
      exact (b2.2.2 k k0 (by omega)).2
  · exact (remS_keep (by omega)).trans (i2.trans (dropA_ne (by omega)).symm)
  · rw [dropA_ne (by omega)] at k1 ⊢
    exact (remS_keep (by omega)).trans (i3 k k0 k1)
  · exact (b4.fr (fun K s j hK => remS_keep (by omega))).e (dropA_ne (by omega)).symm (fun k k0 k1 => ⟨(dropA_ne (by omega)).symm, (dropA_ne (by omega)).symm⟩)
  · exact (b5.fr (fun K s j hK => remS_keep (by omega))).e (dropA_ne (by omega)).symm (fun k k0 k1 => ⟨(dropA_ne (by omega)).symm, (dropA_ne (by omega)).symm⟩)
theorem BH.aS {st : St} {b p v w : Int} {A : Int → Int} (h : BH st b A) (n0 : 0 ≤ p) (n1 : p ≤ A 2) (h2 : A 2 < 5) : BH (insS st (4 * b) p v w) b (addS A p v w) := by
  obtain ⟨b0, b1, b2, ⟨i1, i2, i3⟩, b4, b5⟩ := h
  have rc := rcap_0 b
  have s2 := b2.2.1
  refine ⟨(insG_keep (by omega)).trans (b0.trans (addS_ne (by omega) n1).symm), (insG_keep (by omega)).trans (b1.trans (addS_ne (by omega) n1).symm), ⟨?_, ?_, fun k k0 k1 => ⟨?_, ?_⟩⟩, ⟨i1.eq (insG_keep (by omega)), ?_, fun k k0 k1 => ?_⟩, ?_, ?_⟩
  · unfold RW
    rw [insG_n, s2]
    omega
  · rw [insG_n, s2, addS_2]
  · rw [addS_2] at k1
    show insS st (4 * b) p v w 10 0 (4 * b) k = addS A p v w (6 + 2 * k)
    rw [insG_10, s2, addS_f k0]
    by_cases d : k = p
    · rw [if_pos d, if_pos d]
    · rw [if_neg d, if_neg d]
      by_cases c : p < k ∧ k ≤ A 2
      · rw [if_pos c, if_pos c]
        exact (b2.2.2 (k - 1) (by omega) (by omega)).1
      · rw [if_neg c, if_neg c]
        exact (b2.2.2 k k0 (by omega)).1
  · rw [addS_2] at k1
    show insS st (4 * b) p v w 11 0 (4 * b) k = addS A p v w (6 + 2 * k + 1)
    rw [insG_11, s2, addS_g k0]
    by_cases d : k = p
    · rw [if_pos d, if_pos d]
    · rw [if_neg d, if_neg d]
      by_cases c : p < k ∧ k ≤ A 2
      · rw [if_pos c, if_pos c]
        exact (b2.2.2 (k - 1) (by omega) (by omega)).2
      · rw [if_neg c, if_neg c]
        exact (b2.2.2 k k0 (by omega)).2
  · exact (insG_keep (by omega)).trans (i2.trans (addS_ne (by omega) n1).symm)
  · have e9 : ∀ k, 0 ≤ k → addS A p v w (16 + k) = A (16 + k) := fun k k0 => addS_ne (by omega) n1
    rw [addS_ne (by omega) n1] at k1
    rw [e9 k k0]
    exact (insG_keep (by omega)).trans (i3 k k0 k1)
  · exact (b4.fr (fun K s j hK => insG_keep (by omega))).e (addS_ne (by omega) n1).symm (fun k k0 k1 => ⟨(addS_ne (by omega) n1).symm, (addS_ne (by omega) n1).symm⟩)
  · exact (b5.fr (fun K s j hK => insG_keep (by omega))).e (addS_ne (by omega) n1).symm (fun k k0 k1 => ⟨(addS_ne (by omega) n1).symm, (addS_ne (by omega) n1).symm⟩)
theorem W0_isTaken {b a : Int} {A : Int → Int} {Q : Int → St → Prop} {st : St} (hB : BH st b A) (hv : ∀ k, 0 ≤ k → k < A 2 → inI (A (6 + 2 * k))) (hw : ∀ k, 0 ≤ k → k < A 3 → inI (A (16 + k))) (ha : inI a)
    (h1 : ((∃ k, 0 ≤ k ∧ k < A 2 ∧ A (6 + 2 * k) = a) ∨ ∃ k, 0 ≤ k ∧ k < A 3 ∧ A (16 + k) = a) → Q 1 st) (h0 : (∀ k, 0 ≤ k → k < A 2 → ¬ A (6 + 2 * k) = a) → (∀ k, 0 ≤ k → k < A 3 → ¬ A (16 + k) = a) → Q 0 st) : f0_isTaken b Q st a := by
  obtain ⟨b0, b1, b2, ⟨i1, i2, i3⟩, b4, b5⟩ := hB
  have s2 := b2.2.1
  have e1 : ∀ k, 0 ≤ k → k < A 2 → st 10 0 (4 * b) k = A (6 + 2 * k) := fun k k0 k1 => (b2.2.2 k k0 k1).1
  unfold f0_isTaken
  refine W6_holdsFirst b2.1 (fun k k0 k1 => by rw [s2] at k1; rw [e1 k k0 k1]; exact hv k k0 k1) ha (fun k k0 k1 c => ?_) (fun c => ?_)
  · rw [s2] at k1
    rw [e1 k k0 k1] at c
    exact ⟨inI_1, fun z => absurd z (by omega), fun _ => h1 (Or.inl ⟨k, k0, k1, c⟩)⟩
  · refine ⟨inI_0', fun _ => ?_, fun z => absurd rfl z⟩
    refine W6_holdsFirst i1 (fun k k0 k1 => by rw [i2] at k1; rw [i3 k k0 k1]; exact hw k k0 k1) ha (fun k k0 k1 c2 => ?_) (fun c2 => ?_)
    · rw [i2] at k1
      rw [i3 k k0 k1] at c2
      exact ⟨inI_1, fun z => absurd z (by omega), fun _ => h1 (Or.inr ⟨k, k0, k1, c2⟩)⟩
    · refine ⟨inI_0', fun _ => h0 (fun k k0 k1 => ?_) (fun k k0 k1 => ?_), fun z => absurd rfl z⟩
      · rw [← e1 k k0 k1]
        exact c k k0 (by omega)
      · rw [← i3 k k0 k1]
        exact c2 k k0 (by omega)
