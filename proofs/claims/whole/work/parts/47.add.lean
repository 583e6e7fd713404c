/-! adding a load, an axle -/
theorem MS.to {st st' : St} {A A' : Int → Int} {n : Int} {B : Int → Int → Int} {F : Int → Int} {S : Int → Int → Int} (h : MS st A n B F S) (hf : ∀ K s i j, ¬ (K = 30 ∧ s = 0 ∧ i = 0 ∧ 0 ≤ j ∧ j < 47) → st' K s i j = st K s i j) (e : aM st' = A') (hA : VA A') : MS st' A' n B F S := by
  obtain ⟨k1, k2, k3, k4, k5, k6, k7, k8⟩ := h
  refine ⟨e, hA, fun j => by rw [hf 37 0 0 j (by omega)]; exact k3 j, fun j hj => (hf 30 0 0 j (by omega)).trans (k4 j hj), (hf 9 5 0 0 (by omega)).trans k5, k6, fun k a b => ?_, fun m a b => ⟨(hf 34 0 0 m (by omega)).trans (k8 m a b).1, (k8 m a b).2.1, fun q => ?_⟩⟩
  · rw [← k7 k a b]
    exact nA_ext (fun j _ _ => hf 30 0 2 _ (by omega))
  · rw [← (k8 m a b).2.2 q]
    exact nA_ext (fun j _ _ => hf 30 0 3 _ (by omega))
def addA (A : Int → Int) (i c w p : Int) : Int → Int := fun j => if j = c then A c + 1 else if j = i + 2 * A c + 1 then p else if j = i + 2 * A c then w else A j
theorem addA_ne {A : Int → Int} {i c w p j : Int} (h : ¬ j = c ∧ ¬ j = i + 2 * A c + 1 ∧ ¬ j = i + 2 * A c) : addA A i c w p j = A j := by
  unfold addA
  rw [if_neg h.1, if_neg h.2.1, if_neg h.2.2]
theorem addA_c (A : Int → Int) (i c w p : Int) : addA A i c w p c = A c + 1 := if_pos rfl
theorem addA_w {A : Int → Int} {i c w p j : Int} (h : ¬ j = c) (e : j = i + 2 * A c) : addA A i c w p j = w := by
  unfold addA
  rw [if_neg h, if_neg (by omega), if_pos e]
theorem addA_p {A : Int → Int} {i c w p j : Int} (h : ¬ j = c) (e : j = i + 2 * A c + 1) : addA A i c w p j = p := by
  unfold addA
  rw [if_neg h, if_pos e]
theorem insS_keep {st : St} {o f s : Int} {K k : Nat} {i j : Int} (h : ¬ ((K = 6 ∨ K = 10 ∨ K = 11) ∧ i = o)) : insS st o (st 6 2 o 0) f s K k i j = st K k i j := by
  unfold insS
  rw [up_ne (by omega), up_ne (by omega), up_ne (by omega), shR_keep (by omega)]
theorem insS_n (st : St) (o f s : Int) : insS st o (st 6 2 o 0) f s 6 2 o 0 = st 6 2 o 0 + 1 := by
  unfold insS
  rw [up_eq, if_pos ⟨rfl, rfl, rfl, rfl⟩]
theorem insS_10 {st : St} {o f s j : Int} : insS st o (st 6 2 o 0) f s 10 0 o j = if j = st 6 2 o 0 then f else st 10 0 o j := by
  unfold insS
  rw [up_ne (by omega), up_ne (by omega), up_eq]
  by_cases c : j = st 6 2 o 0
  · rw [if_pos ⟨rfl, rfl, rfl, c⟩, if_pos c]
  · rw [if_neg (fun q => c q.2.2.2), if_neg c, shR_keep (by omega)]
theorem insS_11 {st : St} {o f s j : Int} : insS st o (st 6 2 o 0) f s 11 0 o j = if j = st 6 2 o 0 then s else st 11 0 o j := by
  unfold insS
  rw [up_ne (by omega), up_eq]
  by_cases c : j = st 6 2 o 0
  · rw [if_pos ⟨rfl, rfl, rfl, c⟩, if_pos c]
  · rw [if_neg (fun q => c q.2.2.2), if_neg c, up_ne (by omega), shR_keep (by omega)]
theorem loadA_ag {A : Int → Int} (w p : Int) (hC : VC A) (h0 : 0 ≤ A 4) : AgL A (addA A 19 4 w p) := ⟨addA_ne (by omega), addA_ne (by omega), fun t t0 t1 => addA_ne (by have := hC.2.2.2.1; omega), fun t t0 t1 => addA_ne (by have := hC.2.2.2.1; omega)⟩
theorem loadA_V {A : Int → Int} {w p : Int} (h : VA A) (h8 : A 4 < 8) (w0 : 1 ≤ w) (w1 : w ≤ 999) (p0 : 0 ≤ p) (p1 : p ≤ A 0) : VA (addA A 19 4 w p) := by
  have n5 := h.c.2.2.2.1
  have b0 : 0 ≤ A 4 := h.1.1.2.2.2.1.1
  have b4 := h.1.1.2.2.2.1
  have b5 := h.1.1.2.2.2.2.1
  have ag := loadA_ag (A := A) w p h.c b0
  obtain ⟨⟨⟨hC, f1, f2, f3, f4, f5, f6⟩, d1, d2⟩, g1, g2⟩ := h
  have e2 : addA A 19 4 w p 2 = A 2 := addA_ne (by omega)
  have e0 : addA A 19 4 w p 0 = A 0 := addA_ne (by omega)
  have e3 : addA A 19 4 w p 3 = A 3 := addA_ne (by omega)
  have e1 : addA A 19 4 w p 1 = A 1 := addA_ne (by omega)
  have ec : addA A 19 4 w p 4 = A 4 + 1 := addA_c A 19 4 w p
  have eo : addA A 19 4 w p 5 = A 5 := addA_ne (by omega)
  refine ⟨⟨⟨hC.cg ag, fun k k0 k1 => ?_, fun k k0 k1 => ?_, by omega, by omega, fun k k0 k1 => ?_, fun k k0 k1 => ?_⟩, by omega, fun k k0 k1 => ?_⟩, by omega, by rw [DA_cg ag]; exact g2⟩
  · rw [addA_ne (by omega), e0]; exact f1 k k0 (by omega)
  · rw [addA_ne (by omega), addA_ne (by omega)]; exact f2 k k0 (by omega)
  · by_cases q : k = A 4
    · rw [addA_w (by omega) (by omega), addA_p (by omega) (by omega), e0]
      omega
    · rw [addA_ne (by omega), addA_ne (by omega), e0]; exact f5 k k0 (by omega)
  · rw [addA_ne (by omega), addA_ne (by omega)]; exact f6 k k0 (by omega)
  · rw [addA_ne (by omega)]; exact d2 k k0 (by omega)
theorem BH.load {st : St} {A : Int → Int} {w p : Int} (h : BH st 0 A) (hV : VA A) (h8 : A 4 < 8) : BH (insS st (4 * 0 + 2) (st 6 2 (4 * 0 + 2) 0) w p) 0 (addA A 19 4 w p) := by
  have n5 := hV.c.2.2.2.1
  have n2 := hV.c.2.2.1
  have a3 := hV.2.1
  have b4' := hV.1.1.2.2.2.1
  have b5' := hV.1.1.2.2.2.2.1
  have ec : addA A 19 4 w p 4 = A 4 + 1 := addA_c A 19 4 w p
  obtain ⟨b0, b1, b2, ⟨i1, i2, i3⟩, b4, b5⟩ := h
  have bb := b4
  have hn : st 6 2 (4 * 0 + 2) 0 = A 4 := bb.2.1
  have row : RH (insS st (4 * 0 + 2) (st 6 2 (4 * 0 + 2) 0) w p) (4 * 0 + 2) (addA A 19 4 w p 4) (fun k => addA A 19 4 w p (19 + 2 * k)) (fun k => addA A 19 4 w p (19 + 2 * k + 1)) := by
    refine ⟨?_, ?_, fun k k0 k1 => ⟨?_, ?_⟩⟩
    all_goals (try rw [ec] at k1)
    · unfold RW
      rw [insS_n, hn]
      have : rcap (4 * 0 + 2) = 8 := by decide
      omega
    · rw [insS_n, hn, ec]
    · show insS st (4 * 0 + 2) (st 6 2 (4 * 0 + 2) 0) w p 10 0 (4 * 0 + 2) k = addA A 19 4 w p (19 + 2 * k)
      rw [insS_10, hn]
      by_cases q : k = A 4
      · rw [if_pos q, addA_w (by omega) (by omega)]
      · rw [if_neg q, addA_ne (by omega)]
        exact (bb.2.2 k k0 (by omega)).1
    · show insS st (4 * 0 + 2) (st 6 2 (4 * 0 + 2) 0) w p 11 0 (4 * 0 + 2) k = addA A 19 4 w p (19 + 2 * k + 1)
      rw [insS_11, hn]
      by_cases q : k = A 4
      · rw [if_pos q, addA_p (by omega) (by omega)]
      · rw [if_neg q, addA_ne (by omega)]
        exact (bb.2.2 k k0 (by omega)).2
  refine ⟨(insS_keep (by omega)).trans (b0.trans (addA_ne (by omega)).symm), (insS_keep (by omega)).trans (b1.trans (addA_ne (by omega)).symm), ?_, ⟨i1.eq (insS_keep (by omega)), ?_, fun k k0 k1 => ?_⟩, row, ?_⟩
  · exact (b2.fr (fun K s j hK => insS_keep (by omega))).e (addA_ne (by omega)).symm (fun k k0 k1 => ⟨(addA_ne (by omega)).symm, (addA_ne (by omega)).symm⟩)
  · exact (insS_keep (by omega)).trans (i2.trans (addA_ne (by omega)).symm)
  · rw [addA_ne (by omega)] at k1 ⊢
    exact (insS_keep (by omega)).trans (i3 k k0 k1)
  · exact (b5.fr (fun K s j hK => insS_keep (by omega))).e (addA_ne (by omega)).symm (fun k k0 k1 => ⟨(addA_ne (by omega)).symm, (addA_ne (by omega)).symm⟩)
theorem W8_addLoad {A : Int → Int} {n : Int} {B : Int → Int → Int} {F : Int → Int} {S : Int → Int → Int} {Q : Int → St → Prop} {X : String → St → Prop} {st : St} {a0 a1 : Int} (h : CS st A n B F S) (h0 : inI a0) (h1 : inI a1) (hx : ¬ (0 ≤ a1 ∧ a1 ≤ A 0) → X "java/lang/IndexOutOfBoundsException" st) (hy : 0 ≤ a1 ∧ a1 ≤ A 0 → ¬ (1 ≤ a0 ∧ a0 ≤ 999) → X "java/lang/IllegalArgumentException" st)
    (hf : 0 ≤ a1 ∧ a1 ≤ A 0 → 1 ≤ a0 ∧ a0 ≤ 999 → A 4 = 8 → Q (-13) st)
    (hq : 0 ≤ a1 ∧ a1 ≤ A 0 → 1 ≤ a0 ∧ a0 ≤ 999 → A 4 < 8 → ∀ s, FC st s → CS s (addA A 19 4 a0 a1) (pushN n) (pushB n B A) F S → Q (A 4) s) : f8_addLoad Q X st a0 a1 := by
  unfold f8_addLoad
  refine W8_needPlace h.cr.2.1.1 h.1.c h1 (fun c d => ?_) hx
  refine W8_needRange h0 inI_1 (inI_s (by omega) (by omega)) (fun e f => ?_) (hy ⟨c, d⟩)
  have p1 := And.intro c d
  have p0 := And.intro e f
  have hn : st 6 2 (4 * 0 + 2) 0 = A 4 := h.2.1.2.2.2.2.1.2.1
  have hr : rcap (4 * 0 + 2) = 8 := by decide
  have hRW : RW st (4 * 0 + 2) := h.2.1.2.2.2.2.1.1
  unfold f8_addPair
  refine W6_isFull hRW (fun z => ⟨inI_1, fun e => absurd e (by omega), fun _ => hf p1 p0 (by omega)⟩) (fun z => ⟨inI_0, fun _ => ?_, fun e => absurd rfl e⟩)
  refine W8_remember h (fun s f k => ?_)
  obtain ⟨k1, k2, k3, k4, k5, k6⟩ := k
  have hn2 : s 6 2 (4 * 0 + 2) 0 = A 4 := k2.2.2.2.2.1.2.1
  refine W6_putLast k2.2.2.2.2.1.1 (by omega) ?_
  rw [hn2]
  have e9 : insS s (4 * 0 + 2) (A 4) a0 a1 = insS s (4 * 0 + 2) (s 6 2 (4 * 0 + 2) 0) a0 a1 := by rw [hn2]
  rw [e9]
  have g : ∀ K s2 i j, ¬ ((K = 6 ∨ K = 10 ∨ K = 11) ∧ i = 4 * 0 + 2) → insS s (4 * 0 + 2) (s 6 2 (4 * 0 + 2) 0) a0 a1 K s2 i j = s K s2 i j := fun K s2 i j hK => insS_keep hK
  have b0 : 0 ≤ A 4 := k1.1.1.2.2.2.1.1
  exact hq p1 p0 (by omega) _ (f.fc.trans (fun K s2 i j hK => g K s2 i j (by omega))) ⟨loadA_V k1 (by omega) p0.1 p0.2 p1.1 p1.2, k2.load k1 (by omega), (k3.fr (fun K s2 i j hK => g K s2 i j (by omega)) k1.c).cg (loadA_ag a0 a1 k1.c b0), k4.fr (fun K s2 i j hK => g K s2 i j (by omega)), k5, fun i i0 i1 => ⟨(g 27 0 0 i (by omega)).trans (k6 i i0 i1).1, (k6 i i0 i1).2.1, fun q => ⟨((k6 i i0 i1).2.2 q).1.fr (fun K s2 i' j hK => g K s2 i' j (by omega)), ((k6 i i0 i1).2.2 q).2⟩⟩⟩
theorem axleA_ag {A : Int → Int} (w p : Int) (hC : VC A) (h0 : 0 ≤ A 5) : AgL A (addA A 35 5 w p) := ⟨addA_ne (by omega), addA_ne (by omega), fun t t0 t1 => addA_ne (by have := hC.2.2.2.1; omega), fun t t0 t1 => addA_ne (by have := hC.2.2.2.1; omega)⟩
theorem axleA_V {A : Int → Int} {w p : Int} (h : VA A) (h8 : A 5 < 6) (w0 : 1 ≤ w) (w1 : w ≤ 999) (p0 : 0 ≤ p) (p1 : p ≤ 30) : VA (addA A 35 5 w p) := by
  have n5 := h.c.2.2.2.1
  have b0 : 0 ≤ A 5 := h.1.1.2.2.2.2.1.1
  have b4 := h.1.1.2.2.2.1
  have b5 := h.1.1.2.2.2.2.1
  have ag := axleA_ag (A := A) w p h.c b0
  obtain ⟨⟨⟨hC, f1, f2, f3, f4, f5, f6⟩, d1, d2⟩, g1, g2⟩ := h
  have e2 : addA A 35 5 w p 2 = A 2 := addA_ne (by omega)
  have e0 : addA A 35 5 w p 0 = A 0 := addA_ne (by omega)
  have e3 : addA A 35 5 w p 3 = A 3 := addA_ne (by omega)
  have e1 : addA A 35 5 w p 1 = A 1 := addA_ne (by omega)
  have ec : addA A 35 5 w p 5 = A 5 + 1 := addA_c A 35 5 w p
  have eo : addA A 35 5 w p 4 = A 4 := addA_ne (by omega)
  refine ⟨⟨⟨hC.cg ag, fun k k0 k1 => ?_, fun k k0 k1 => ?_, by omega, by omega, fun k k0 k1 => ?_, fun k k0 k1 => ?_⟩, by omega, fun k k0 k1 => ?_⟩, by omega, by rw [DA_cg ag]; exact g2⟩
  · rw [addA_ne (by omega), e0]; exact f1 k k0 (by omega)
  · rw [addA_ne (by omega), addA_ne (by omega)]; exact f2 k k0 (by omega)
  · rw [addA_ne (by omega), addA_ne (by omega), e0]; exact f5 k k0 (by omega)
  · by_cases q : k = A 5
    · rw [addA_w (by omega) (by omega), addA_p (by omega) (by omega)]
      omega
    · rw [addA_ne (by omega), addA_ne (by omega)]; exact f6 k k0 (by omega)
  · rw [addA_ne (by omega)]; exact d2 k k0 (by omega)
theorem BH.axle {st : St} {A : Int → Int} {w p : Int} (h : BH st 0 A) (hV : VA A) (h8 : A 5 < 6) : BH (insS st (4 * 0 + 3) (st 6 2 (4 * 0 + 3) 0) w p) 0 (addA A 35 5 w p) := by
  have n5 := hV.c.2.2.2.1
  have n2 := hV.c.2.2.1
  have a3 := hV.2.1
  have b4' := hV.1.1.2.2.2.1
  have b5' := hV.1.1.2.2.2.2.1
  have ec : addA A 35 5 w p 5 = A 5 + 1 := addA_c A 35 5 w p
  obtain ⟨b0, b1, b2, ⟨i1, i2, i3⟩, b4, b5⟩ := h
  have bb := b5
  have hn : st 6 2 (4 * 0 + 3) 0 = A 5 := bb.2.1
  have row : RH (insS st (4 * 0 + 3) (st 6 2 (4 * 0 + 3) 0) w p) (4 * 0 + 3) (addA A 35 5 w p 5) (fun k => addA A 35 5 w p (35 + 2 * k)) (fun k => addA A 35 5 w p (35 + 2 * k + 1)) := by
    refine ⟨?_, ?_, fun k k0 k1 => ⟨?_, ?_⟩⟩
    all_goals (try rw [ec] at k1)
    · unfold RW
      rw [insS_n, hn]
      have : rcap (4 * 0 + 3) = 6 := by decide
      omega
    · rw [insS_n, hn, ec]
    · show insS st (4 * 0 + 3) (st 6 2 (4 * 0 + 3) 0) w p 10 0 (4 * 0 + 3) k = addA A 35 5 w p (35 + 2 * k)
      rw [insS_10, hn]
      by_cases q : k = A 5
      · rw [if_pos q, addA_w (by omega) (by omega)]
      · rw [if_neg q, addA_ne (by omega)]
        exact (bb.2.2 k k0 (by omega)).1
    · show insS st (4 * 0 + 3) (st 6 2 (4 * 0 + 3) 0) w p 11 0 (4 * 0 + 3) k = addA A 35 5 w p (35 + 2 * k + 1)
      rw [insS_11, hn]
      by_cases q : k = A 5
      · rw [if_pos q, addA_p (by omega) (by omega)]
      · rw [if_neg q, addA_ne (by omega)]
        exact (bb.2.2 k k0 (by omega)).2
  refine ⟨(insS_keep (by omega)).trans (b0.trans (addA_ne (by omega)).symm), (insS_keep (by omega)).trans (b1.trans (addA_ne (by omega)).symm), ?_, ⟨i1.eq (insS_keep (by omega)), ?_, fun k k0 k1 => ?_⟩, ?_, row⟩
  · exact (b2.fr (fun K s j hK => insS_keep (by omega))).e (addA_ne (by omega)).symm (fun k k0 k1 => ⟨(addA_ne (by omega)).symm, (addA_ne (by omega)).symm⟩)
  · exact (insS_keep (by omega)).trans (i2.trans (addA_ne (by omega)).symm)
  · rw [addA_ne (by omega)] at k1 ⊢
    exact (insS_keep (by omega)).trans (i3 k k0 k1)
  · exact (b4.fr (fun K s j hK => insS_keep (by omega))).e (addA_ne (by omega)).symm (fun k k0 k1 => ⟨(addA_ne (by omega)).symm, (addA_ne (by omega)).symm⟩)
theorem W8_addAxle {A : Int → Int} {n : Int} {B : Int → Int → Int} {F : Int → Int} {S : Int → Int → Int} {Q : Int → St → Prop} {X : String → St → Prop} {st : St} {a0 a1 : Int} (h : CS st A n B F S) (h0 : inI a0) (h1 : inI a1) (hy : ¬ (0 ≤ a1 ∧ a1 ≤ 30 ∧ 1 ≤ a0 ∧ a0 ≤ 999) → X "java/lang/IllegalArgumentException" st)
    (hf : 0 ≤ a1 ∧ a1 ≤ 30 → 1 ≤ a0 ∧ a0 ≤ 999 → A 5 = 6 → Q (-14) st)
    (hq : 0 ≤ a1 ∧ a1 ≤ 30 → 1 ≤ a0 ∧ a0 ≤ 999 → A 5 < 6 → ∀ s, FC st s → CS s (addA A 35 5 a0 a1) (pushN n) (pushB n B A) F S → Q (A 5) s) : f8_addAxle Q X st a0 a1 := by
  unfold f8_addAxle
  refine W8_needRange h0 inI_1 (inI_s (by omega) (by omega)) (fun e f => ?_) (fun q => hy (by omega))
  refine W8_needRange h1 inI_0 (inI_s (by omega) (by omega)) (fun c d => ?_) (fun q => hy (by omega))
  have p1 := And.intro c d
  have p0 := And.intro e f
  have hn : st 6 2 (4 * 0 + 3) 0 = A 5 := h.2.1.2.2.2.2.2.2.1
  have hr : rcap (4 * 0 + 3) = 6 := by decide
  have hRW : RW st (4 * 0 + 3) := h.2.1.2.2.2.2.2.1
  unfold f8_addPair
  refine W6_isFull hRW (fun z => ⟨inI_1, fun e => absurd e (by omega), fun _ => hf p1 p0 (by omega)⟩) (fun z => ⟨inI_0, fun _ => ?_, fun e => absurd rfl e⟩)
  refine W8_remember h (fun s f k => ?_)
  obtain ⟨k1, k2, k3, k4, k5, k6⟩ := k
  have hn2 : s 6 2 (4 * 0 + 3) 0 = A 5 := k2.2.2.2.2.2.2.1
  refine W6_putLast k2.2.2.2.2.2.1 (by omega) ?_
  rw [hn2]
  have e9 : insS s (4 * 0 + 3) (A 5) a0 a1 = insS s (4 * 0 + 3) (s 6 2 (4 * 0 + 3) 0) a0 a1 := by rw [hn2]
  rw [e9]
  have g : ∀ K s2 i j, ¬ ((K = 6 ∨ K = 10 ∨ K = 11) ∧ i = 4 * 0 + 3) → insS s (4 * 0 + 3) (s 6 2 (4 * 0 + 3) 0) a0 a1 K s2 i j = s K s2 i j := fun K s2 i j hK => insS_keep hK
  have b0 : 0 ≤ A 5 := k1.1.1.2.2.2.2.1.1
  exact hq p1 p0 (by omega) _ (f.fc.trans (fun K s2 i j hK => g K s2 i j (by omega))) ⟨axleA_V k1 (by omega) p0.1 p0.2 p1.1 p1.2, k2.axle k1 (by omega), (k3.fr (fun K s2 i j hK => g K s2 i j (by omega)) k1.c).cg (axleA_ag a0 a1 k1.c b0), k4.fr (fun K s2 i j hK => g K s2 i j (by omega)), k5, fun i i0 i1 => ⟨(g 27 0 0 i (by omega)).trans (k6 i i0 i1).1, (k6 i i0 i1).2.1, fun q => ⟨((k6 i i0 i1).2.2 q).1.fr (fun K s2 i' j hK => g K s2 i' j (by omega)), ((k6 i i0 i1).2.2 q).2⟩⟩⟩
