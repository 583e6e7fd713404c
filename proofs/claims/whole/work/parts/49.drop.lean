/-! dropping a load, an axle -/
def dropA (A : Int → Int) (i c n : Int) : Int → Int := fun j => if j = c then A c - 1 else if i + 2 * n ≤ j ∧ j < i + 2 * (A c - 1) then A (j + 2) else A j
theorem dropA_c (A : Int → Int) (i c n : Int) : dropA A i c n c = A c - 1 := if_pos rfl
theorem dropA_ne {A : Int → Int} {i c n j : Int} (h : ¬ j = c ∧ ¬ (i + 2 * n ≤ j ∧ j < i + 2 * (A c - 1))) : dropA A i c n j = A j := by
  unfold dropA
  rw [if_neg h.1, if_neg h.2]
theorem dropA_in {A : Int → Int} {i c n j : Int} (h : ¬ j = c) (h2 : i + 2 * n ≤ j ∧ j < i + 2 * (A c - 1)) : dropA A i c n j = A (j + 2) := by
  unfold dropA
  rw [if_neg h, if_pos h2]
theorem remS_keep {st : St} {o n : Int} {K k : Nat} {i j : Int} (h : ¬ ((K = 6 ∨ K = 10 ∨ K = 11) ∧ i = o)) : remS st o n K k i j = st K k i j := by
  unfold remS shL
  rw [if_neg (by omega), up_ne (by omega)]
theorem remS_n (st : St) (o n : Int) : remS st o n 6 2 o 0 = st 6 2 o 0 - 1 := by
  unfold remS shL
  rw [if_neg (by omega), up_eq, if_pos ⟨rfl, rfl, rfl, rfl⟩]
theorem remS_K {st : St} {o n j : Int} {K : Nat} (hK : K = 10 ∨ K = 11) : remS st o n K 0 o j = if n ≤ j ∧ j < st 6 2 o 0 - 1 then st K 0 o (j + 1) else st K 0 o j := by
  unfold remS shL
  by_cases c : n ≤ j ∧ j < st 6 2 o 0 - 1
  · rw [if_pos ⟨hK, rfl, rfl, c.1, c.2⟩, if_pos c, up_ne (by omega)]
  · rw [if_neg (fun q => c ⟨q.2.2.2.1, q.2.2.2.2⟩), if_neg c, up_ne (by omega)]
theorem W9_drops {A : Int → Int} {m : Int} {B : Int → Int → Int} {F : Int → Int} {S : Int → Int → Int} {Q : Int → St → Prop} {st : St} {i c n : Int} (h : MS st A m B F S) (hc : 4 ≤ c) (hc2 : c ≤ 5) (hi : 19 ≤ i) (n0 : 0 ≤ n) (n1 : n < A c) (h1 : i + 2 * A c ≤ 47) (hV : VA (dropA A i c n))
    (hq : ∀ s, (∀ K s2 i j, ¬ (K = 30 ∧ i = 0) → s K s2 i j = st K s2 i j) → MS s (dropA A i c n) m B F S → Q (A (i + 2 * n)) s) : f9_drops Q st i c n := by
  have m0 := mlen0
  have e0 : st 30 0 0 c = A c := congrFun h.1 c
  have en : st 30 0 0 (i + 2 * n) = A (i + 2 * n) := congrFun h.1 _
  have eA : ∀ j, st 30 0 0 j = A j := fun j => congrFun h.1 j
  have L : ∀ (f : Nat) (v : Int) (s : St), i + 2 * n ≤ v → v ≤ i + 2 * (A c - 1) → (∀ K s2 i j, ¬ (K = 30 ∧ s2 = 0 ∧ i = 0 ∧ 0 ≤ j ∧ j < 47) → s K s2 i j = st K s2 i j) → (∀ j, s 30 0 0 j = if j = c then A c - 1 else if i + 2 * n ≤ j ∧ j < v then A (j + 2) else A j) → i + 2 * (A c - 1) - v < f → f9_drops_l29 Q i c (A (i + 2 * n)) f s v := by
    intro f
    induction f with
    | zero => intro v s a1 a2 a3 a4 a5; omega
    | succ f ih =>
      intro v s a1 a2 a3 a4 a5
      unfold f9_drops_l29
      have ec : s 30 0 0 c = A c - 1 := by rw [a4, if_pos rfl]
      rw [ec]
      refine ⟨by omega, by omega, inI_s (by omega) (by omega), inI_s (by omega) (by omega), fun q => ?_, fun q => ⟨by omega, by omega, by omega, by omega, ?_⟩⟩
      · refine hq s (fun K s2 i' j hK => a3 K s2 i' j (by omega)) (h.to a3 ?_ hV)
        funext j
        show s 30 0 0 j = dropA A i c n j
        rw [a4, show v = i + 2 * (A c - 1) by omega]
        rfl
      · rintro _ rfl _ rfl
        refine ih (v + 1) _ (by omega) (by omega) (fun K s2 i' j hK => (up_ne (by omega)).trans (a3 K s2 i' j hK)) (fun j => ?_) (by omega)
        rw [up_eq]
        by_cases d : j = v
        · rw [if_pos ⟨rfl, rfl, rfl, d⟩, a4, if_neg (by omega), if_neg (by omega), d, if_neg (by omega), if_pos (by omega)]
        · rw [if_neg (fun z => d z.2.2.2), a4]
          by_cases e : j = c
          · rw [if_pos e, if_pos e]
          · rw [if_neg e, if_neg e]
            by_cases g : i + 2 * n ≤ j ∧ j < v
            · rw [if_pos g, if_pos (by omega)]
            · rw [if_neg g, if_neg (by omega)]
  unfold f9_drops
  rw [en, e0]
  refine ⟨by omega, by omega, ?_⟩
  rintro _ rfl
  refine ⟨by omega, by omega, by omega, by omega, ?_⟩
  rintro _ rfl _ rfl
  refine ⟨100, L 100 _ _ (by omega) (by omega) (fun K s2 i' j hK => up_ne (by omega)) (fun j => ?_) (by omega)⟩
  rw [up_eq]
  by_cases e : j = c
  · rw [if_pos ⟨rfl, rfl, rfl, e⟩, if_pos e]
  · rw [if_neg (fun z => e z.2.2.2), if_neg e, if_neg (by omega)]
    exact eA j
theorem dload_ag {A : Int → Int} {n : Int} (hC : VC A) (n0 : 0 ≤ n) (b8 : A 4 ≤ 8) : AgL A (dropA A 19 4 n) := ⟨dropA_ne (by omega), dropA_ne (by omega), fun t t0 t1 => dropA_ne (by have := hC.2.2.2.1; omega), fun t t0 t1 => dropA_ne (by have := hC.2.2.2.1; omega)⟩
theorem dload_w {A : Int → Int} {n k : Int} (k0 : 0 ≤ k) (k1 : k < A 4 - 1) (b8 : A 4 ≤ 8) : dropA A 19 4 n (19 + 2 * k) = (if n ≤ k then A (19 + 2 * (k + 1)) else A (19 + 2 * k)) ∧ dropA A 19 4 n (19 + 2 * k + 1) = (if n ≤ k then A (19 + 2 * (k + 1) + 1) else A (19 + 2 * k + 1)) := by
  by_cases q : n ≤ k
  · rw [if_pos q, if_pos q, dropA_in (by omega) (by omega), dropA_in (by omega) (by omega), show 19 + 2 * k + 2 = 19 + 2 * (k + 1) by omega, show 19 + 2 * k + 1 + 2 = 19 + 2 * (k + 1) + 1 by omega]
    exact ⟨rfl, rfl⟩
  · rw [if_neg q, if_neg q, dropA_ne (by omega), dropA_ne (by omega)]
    exact ⟨rfl, rfl⟩
theorem dload_V {A : Int → Int} {n : Int} (h : VA A) (n0 : 0 ≤ n) (n1 : n < A 4) : VA (dropA A 19 4 n) := by
  have n5 := h.c.2.2.2.1
  have b4 := h.1.1.2.2.2.1
  have b5 := h.1.1.2.2.2.2.1
  have ag := dload_ag (A := A) (n := n) h.c n0 (by omega)
  obtain ⟨⟨⟨hC, f1, f2, f3, f4, f5, f6⟩, d1, d2⟩, g1, g2⟩ := h
  have e2 : dropA A 19 4 n 2 = A 2 := dropA_ne (by omega)
  have e0 : dropA A 19 4 n 0 = A 0 := dropA_ne (by omega)
  have e3 : dropA A 19 4 n 3 = A 3 := dropA_ne (by omega)
  have e1 : dropA A 19 4 n 1 = A 1 := dropA_ne (by omega)
  have ec : dropA A 19 4 n 4 = A 4 - 1 := dropA_c A 19 4 n
  have eo : dropA A 19 4 n 5 = A 5 := dropA_ne (by omega)
  refine ⟨⟨⟨hC.cg ag, fun k k0 k1 => ?_, fun k k0 k1 => ?_, by omega, by omega, fun k k0 k1 => ?_, fun k k0 k1 => ?_⟩, by omega, fun k k0 k1 => ?_⟩, by omega, by rw [DA_cg ag]; exact g2⟩
  · rw [dropA_ne (by omega), e0]; exact f1 k k0 (by omega)
  · rw [dropA_ne (by omega), dropA_ne (by omega)]; exact f2 k k0 (by omega)
  · have w := dload_w (A := A) (n := n) k0 (by omega) (by omega)
    rw [w.1, w.2, e0]
    by_cases q : n ≤ k
    · rw [if_pos q, if_pos q]; exact f5 (k + 1) (by omega) (by omega)
    · rw [if_neg q, if_neg q]; exact f5 k k0 (by omega)
  · rw [dropA_ne (by omega), dropA_ne (by omega)]; exact f6 k k0 (by omega)
  · rw [dropA_ne (by omega)]; exact d2 k k0 (by omega)
theorem BH.dload {st : St} {A : Int → Int} {n : Int} (h : BH st 0 A) (hV : VA A) (n0 : 0 ≤ n) (n1 : n < A 4) : BH (remS st (4 * 0 + 2) n) 0 (dropA A 19 4 n) := by
  have n5 := hV.c.2.2.2.1
  have n2 := hV.c.2.2.1
  have a3 := hV.2.1
  have b4' := hV.1.1.2.2.2.1
  have b5' := hV.1.1.2.2.2.2.1
  have ec : dropA A 19 4 n 4 = A 4 - 1 := dropA_c A 19 4 n
  obtain ⟨b0, b1, b2, ⟨i1, i2, i3⟩, b4, b5⟩ := h
  have bb := b4
  have hn : st 6 2 (4 * 0 + 2) 0 = A 4 := bb.2.1
  have row : RH (remS st (4 * 0 + 2) n) (4 * 0 + 2) (dropA A 19 4 n 4) (fun k => dropA A 19 4 n (19 + 2 * k)) (fun k => dropA A 19 4 n (19 + 2 * k + 1)) := by
    refine ⟨?_, ?_, fun k k0 k1 => ⟨?_, ?_⟩⟩
    all_goals (try rw [ec] at k1)
    · unfold RW
      rw [remS_n, hn]
      have : rcap (4 * 0 + 2) = 8 := by decide
      omega
    · rw [remS_n, hn, ec]
    · show remS st (4 * 0 + 2) n 10 0 (4 * 0 + 2) k = dropA A 19 4 n (19 + 2 * k)
      rw [remS_K (by omega), hn, (dload_w (A := A) (n := n) k0 (by omega) (by omega)).1]
      by_cases q : n ≤ k
      · rw [if_pos (by omega), if_pos q]
        exact (bb.2.2 (k + 1) (by omega) (by omega)).1
      · rw [if_neg (by omega), if_neg q]
        exact (bb.2.2 k k0 (by omega)).1
    · show remS st (4 * 0 + 2) n 11 0 (4 * 0 + 2) k = dropA A 19 4 n (19 + 2 * k + 1)
      rw [remS_K (by omega), hn, (dload_w (A := A) (n := n) k0 (by omega) (by omega)).2]
      by_cases q : n ≤ k
      · rw [if_pos (by omega), if_pos q]
        exact (bb.2.2 (k + 1) (by omega) (by omega)).2
      · rw [if_neg (by omega), if_neg q]
        exact (bb.2.2 k k0 (by omega)).2
  refine ⟨(remS_keep (by omega)).trans (b0.trans (dropA_ne (by omega)).symm), (remS_keep (by omega)).trans (b1.trans (dropA_ne (by omega)).symm), ?_, ⟨i1.eq (remS_keep (by omega)), ?_, fun k k0 k1 => ?_⟩, row, ?_⟩
  · exact (b2.fr (fun K s j hK => remS_keep (by omega))).e (dropA_ne (by omega)).symm (fun k k0 k1 => ⟨(dropA_ne (by omega)).symm, (dropA_ne (by omega)).symm⟩)
  · exact (remS_keep (by omega)).trans (i2.trans (dropA_ne (by omega)).symm)
  · rw [dropA_ne (by omega)] at k1 ⊢
    exact (remS_keep (by omega)).trans (i3 k k0 k1)
  · exact (b5.fr (fun K s j hK => remS_keep (by omega))).e (dropA_ne (by omega)).symm (fun k k0 k1 => ⟨(dropA_ne (by omega)).symm, (dropA_ne (by omega)).symm⟩)
theorem W8_dropLoad {A : Int → Int} {n : Int} {B : Int → Int → Int} {F : Int → Int} {S : Int → Int → Int} {Q : Int → St → Prop} {X : String → St → Prop} {st : St} {a0 : Int} (h : CS st A n B F S) (h0 : inI a0) (hx : ¬ (0 ≤ a0 ∧ a0 < A 4) → X "java/lang/IndexOutOfBoundsException" st)
    (hq : 0 ≤ a0 ∧ a0 < A 4 → ∀ s, FC st s → CS s (dropA A 19 4 a0) (pushN n) (pushB n B A) F S → Q (A (19 + 2 * a0)) s) : f8_dropLoad Q X st a0 := by
  have bnd := h.1.1.1.2.2.2.1
  unfold f8_dropLoad f8_dropPair
  refine W8_needNumber h.2.1.2.2.2.2.1.1 h.2.1.2.2.2.2.1.2.1 h0 (fun c d => ?_) hx
  refine W8_remember h (fun s f k => ?_)
  obtain ⟨k1, k2, k3, k4, k5, k6⟩ := k
  have ksz := k2.2.2.2.2.1.2.1
  refine W6_first k2.2.2.2.2.1.1 h0 (fun _ _ => ?_) (fun q => absurd ⟨c, by rw [ksz]; exact d⟩ q)
  rw [(k2.2.2.2.2.1.2.2 a0 c d).1]
  refine W6_remove k2.2.2.2.2.1.1 c (by rw [ksz]; exact d) ?_
  have g : ∀ K s2 i j, ¬ ((K = 6 ∨ K = 10 ∨ K = 11) ∧ i = 4 * 0 + 2) → remS s (4 * 0 + 2) a0 K s2 i j = s K s2 i j := fun K s2 i j hK => remS_keep hK
  exact hq ⟨c, d⟩ _ (f.fc.trans (fun K s2 i j hK => g K s2 i j (by omega))) ⟨dload_V k1 c d, k2.dload k1 c d, (k3.fr (fun K s2 i j hK => g K s2 i j (by omega)) k1.c).cg (dload_ag k1.c c (by omega)), k4.fr (fun K s2 i j hK => g K s2 i j (by omega)), k5, fun i i0 i1 => ⟨(g 27 0 0 i (by omega)).trans (k6 i i0 i1).1, (k6 i i0 i1).2.1, fun q => ⟨((k6 i i0 i1).2.2 q).1.fr (fun K s2 i' j hK => g K s2 i' j (by omega)), ((k6 i i0 i1).2.2 q).2⟩⟩⟩
theorem W9_dropLoad {A : Int → Int} {n : Int} {B : Int → Int → Int} {F : Int → Int} {S : Int → Int → Int} {Q : Int → St → Prop} {st : St} {a0 : Int} (h : MS st A n B F S) (h0 : inI a0) (hx : ¬ (0 ≤ a0 ∧ a0 < A 4) → ∀ s, FQ st s → s 9 6 0 0 = 1 → Q 0 s)
    (hq : 0 ≤ a0 ∧ a0 < A 4 → ∀ s, FD st s → s 9 6 0 0 = 0 → MS s (dropA A 19 4 a0) (pushN n) (pushB n B A) F S → Q (A (19 + 2 * a0)) s) : f9_dropLoad Q st a0 := by
  have h3 := h.2.2.1
  have bnd := h.2.1.1.1.2.2.2.1
  have ec : st 30 0 0 4 = A 4 := congrFun h.1 4
  unfold f9_dropLoad
  rw [ec]
  refine W9_isIn h0 inI_0 (inI_s (by omega) (by omega)) ?_
  by_cases c : 0 ≤ a0 ∧ a0 ≤ A 4 - 1
  · rw [if_pos c]
    refine ⟨inI_1, fun e => absurd e (by omega), fun _ => ?_⟩
    unfold f9_dropLoad_j22
    refine gate (by omega) (by omega) (fun _ => ?_) (fun e => absurd e (by omega))
    have e6 : up st 9 6 0 0 0 9 6 0 0 = 0 := by rw [up_eq, if_pos ⟨rfl, rfl, rfl, rfl⟩]
    refine W9_keeps0 (h.fq (FQ.up6 h3)) (fun s f k => ?_)
    refine W9_drops k (by omega) (by omega) (by omega) c.1 (by omega) (by omega) (dload_V h.2.1 c.1 (by omega)) (fun s' f' k' => ?_)
    exact hq ⟨c.1, by omega⟩ s' (fun K s2 i j hK => (f' K s2 i j (by omega)).trans ((f K s2 i j (by omega)).trans (up_ne (by omega)))) ((f' 9 6 0 0 (by omega)).trans ((f 9 6 0 0 (by omega)).trans e6)) k'
  · rw [if_neg c]
    refine ⟨inI_0, fun _ => ?_, fun e => absurd rfl e⟩
    unfold f9_dropLoad_j22
    exact gate (by omega) (by omega) (fun e => absurd e (by omega)) (fun _ => hx (by omega) _ (FQ.up6 h3) (by rw [up_eq, if_pos ⟨rfl, rfl, rfl, rfl⟩]))
theorem daxle_ag {A : Int → Int} {n : Int} (hC : VC A) (n0 : 0 ≤ n) (b8 : A 5 ≤ 6) : AgL A (dropA A 35 5 n) := ⟨dropA_ne (by omega), dropA_ne (by omega), fun t t0 t1 => dropA_ne (by have := hC.2.2.2.1; omega), fun t t0 t1 => dropA_ne (by have := hC.2.2.2.1; omega)⟩
theorem daxle_w {A : Int → Int} {n k : Int} (k0 : 0 ≤ k) (k1 : k < A 5 - 1) (b8 : A 5 ≤ 6) : dropA A 35 5 n (35 + 2 * k) = (if n ≤ k then A (35 + 2 * (k + 1)) else A (35 + 2 * k)) ∧ dropA A 35 5 n (35 + 2 * k + 1) = (if n ≤ k then A (35 + 2 * (k + 1) + 1) else A (35 + 2 * k + 1)) := by
  by_cases q : n ≤ k
  · rw [if_pos q, if_pos q, dropA_in (by omega) (by omega), dropA_in (by omega) (by omega), show 35 + 2 * k + 2 = 35 + 2 * (k + 1) by omega, show 35 + 2 * k + 1 + 2 = 35 + 2 * (k + 1) + 1 by omega]
    exact ⟨rfl, rfl⟩
  · rw [if_neg q, if_neg q, dropA_ne (by omega), dropA_ne (by omega)]
    exact ⟨rfl, rfl⟩
theorem daxle_V {A : Int → Int} {n : Int} (h : VA A) (n0 : 0 ≤ n) (n1 : n < A 5) : VA (dropA A 35 5 n) := by
  have n5 := h.c.2.2.2.1
  have b4 := h.1.1.2.2.2.1
  have b5 := h.1.1.2.2.2.2.1
  have ag := daxle_ag (A := A) (n := n) h.c n0 (by omega)
  obtain ⟨⟨⟨hC, f1, f2, f3, f4, f5, f6⟩, d1, d2⟩, g1, g2⟩ := h
  have e2 : dropA A 35 5 n 2 = A 2 := dropA_ne (by omega)
  have e0 : dropA A 35 5 n 0 = A 0 := dropA_ne (by omega)
  have e3 : dropA A 35 5 n 3 = A 3 := dropA_ne (by omega)
  have e1 : dropA A 35 5 n 1 = A 1 := dropA_ne (by omega)
  have ec : dropA A 35 5 n 5 = A 5 - 1 := dropA_c A 35 5 n
  have eo : dropA A 35 5 n 4 = A 4 := dropA_ne (by omega)
  refine ⟨⟨⟨hC.cg ag, fun k k0 k1 => ?_, fun k k0 k1 => ?_, by omega, by omega, fun k k0 k1 => ?_, fun k k0 k1 => ?_⟩, by omega, fun k k0 k1 => ?_⟩, by omega, by rw [DA_cg ag]; exact g2⟩
  · rw [dropA_ne (by omega), e0]; exact f1 k k0 (by omega)
  · rw [dropA_ne (by omega), dropA_ne (by omega)]; exact f2 k k0 (by omega)
  · rw [dropA_ne (by omega), dropA_ne (by omega), e0]; exact f5 k k0 (by omega)
  · have w := daxle_w (A := A) (n := n) k0 (by omega) (by omega)
    rw [w.1, w.2]
    by_cases q : n ≤ k
    · rw [if_pos q, if_pos q]; exact f6 (k + 1) (by omega) (by omega)
    · rw [if_neg q, if_neg q]; exact f6 k k0 (by omega)
  · rw [dropA_ne (by omega)]; exact d2 k k0 (by omega)
theorem BH.daxle {st : St} {A : Int → Int} {n : Int} (h : BH st 0 A) (hV : VA A) (n0 : 0 ≤ n) (n1 : n < A 5) : BH (remS st (4 * 0 + 3) n) 0 (dropA A 35 5 n) := by
  have n5 := hV.c.2.2.2.1
  have n2 := hV.c.2.2.1
  have a3 := hV.2.1
  have b4' := hV.1.1.2.2.2.1
  have b5' := hV.1.1.2.2.2.2.1
  have ec : dropA A 35 5 n 5 = A 5 - 1 := dropA_c A 35 5 n
  obtain ⟨b0, b1, b2, ⟨i1, i2, i3⟩, b4, b5⟩ := h
  have bb := b5
  have hn : st 6 2 (4 * 0 + 3) 0 = A 5 := bb.2.1
  have row : RH (remS st (4 * 0 + 3) n) (4 * 0 + 3) (dropA A 35 5 n 5) (fun k => dropA A 35 5 n (35 + 2 * k)) (fun k => dropA A 35 5 n (35 + 2 * k + 1)) := by
    refine ⟨?_, ?_, fun k k0 k1 => ⟨?_, ?_⟩⟩
    all_goals (try rw [ec] at k1)
    · unfold RW
      rw [remS_n, hn]
      have : rcap (4 * 0 + 3) = 6 := by decide
      omega
    · rw [remS_n, hn, ec]
    · show remS st (4 * 0 + 3) n 10 0 (4 * 0 + 3) k = dropA A 35 5 n (35 + 2 * k)
      rw [remS_K (by omega), hn, (daxle_w (A := A) (n := n) k0 (by omega) (by omega)).1]
      by_cases q : n ≤ k
      · rw [if_pos (by omega), if_pos q]
        exact (bb.2.2 (k + 1) (by omega) (by omega)).1
      · rw [if_neg (by omega), if_neg q]
        exact (bb.2.2 k k0 (by omega)).1
    · show remS st (4 * 0 + 3) n 11 0 (4 * 0 + 3) k = dropA A 35 5 n (35 + 2 * k + 1)
      rw [remS_K (by omega), hn, (daxle_w (A := A) (n := n) k0 (by omega) (by omega)).2]
      by_cases q : n ≤ k
      · rw [if_pos (by omega), if_pos q]
        exact (bb.2.2 (k + 1) (by omega) (by omega)).2
      · rw [if_neg (by omega), if_neg q]
        exact (bb.2.2 k k0 (by omega)).2
  refine ⟨(remS_keep (by omega)).trans (b0.trans (dropA_ne (by omega)).symm), (remS_keep (by omega)).trans (b1.trans (dropA_ne (by omega)).symm), ?_, ⟨i1.eq (remS_keep (by omega)), ?_, fun k k0 k1 => ?_⟩, ?_, row⟩
  · exact (b2.fr (fun K s j hK => remS_keep (by omega))).e (dropA_ne (by omega)).symm (fun k k0 k1 => ⟨(dropA_ne (by omega)).symm, (dropA_ne (by omega)).symm⟩)
  · exact (remS_keep (by omega)).trans (i2.trans (dropA_ne (by omega)).symm)
  · rw [dropA_ne (by omega)] at k1 ⊢
    exact (remS_keep (by omega)).trans (i3 k k0 k1)
  · exact (b4.fr (fun K s j hK => remS_keep (by omega))).e (dropA_ne (by omega)).symm (fun k k0 k1 => ⟨(dropA_ne (by omega)).symm, (dropA_ne (by omega)).symm⟩)
theorem W8_dropAxle {A : Int → Int} {n : Int} {B : Int → Int → Int} {F : Int → Int} {S : Int → Int → Int} {Q : Int → St → Prop} {X : String → St → Prop} {st : St} {a0 : Int} (h : CS st A n B F S) (h0 : inI a0) (hx : ¬ (0 ≤ a0 ∧ a0 < A 5) → X "java/lang/IndexOutOfBoundsException" st)
    (hq : 0 ≤ a0 ∧ a0 < A 5 → ∀ s, FC st s → CS s (dropA A 35 5 a0) (pushN n) (pushB n B A) F S → Q (A (35 + 2 * a0)) s) : f8_dropAxle Q X st a0 := by
  have bnd := h.1.1.1.2.2.2.2.1
  unfold f8_dropAxle f8_dropPair
  refine W8_needNumber h.2.1.2.2.2.2.2.1 h.2.1.2.2.2.2.2.2.1 h0 (fun c d => ?_) hx
  refine W8_remember h (fun s f k => ?_)
  obtain ⟨k1, k2, k3, k4, k5, k6⟩ := k
  have ksz := k2.2.2.2.2.2.2.1
  refine W6_first k2.2.2.2.2.2.1 h0 (fun _ _ => ?_) (fun q => absurd ⟨c, by rw [ksz]; exact d⟩ q)
  rw [(k2.2.2.2.2.2.2.2 a0 c d).1]
  refine W6_remove k2.2.2.2.2.2.1 c (by rw [ksz]; exact d) ?_
  have g : ∀ K s2 i j, ¬ ((K = 6 ∨ K = 10 ∨ K = 11) ∧ i = 4 * 0 + 3) → remS s (4 * 0 + 3) a0 K s2 i j = s K s2 i j := fun K s2 i j hK => remS_keep hK
  exact hq ⟨c, d⟩ _ (f.fc.trans (fun K s2 i j hK => g K s2 i j (by omega))) ⟨daxle_V k1 c d, k2.daxle k1 c d, (k3.fr (fun K s2 i j hK => g K s2 i j (by omega)) k1.c).cg (daxle_ag k1.c c (by omega)), k4.fr (fun K s2 i j hK => g K s2 i j (by omega)), k5, fun i i0 i1 => ⟨(g 27 0 0 i (by omega)).trans (k6 i i0 i1).1, (k6 i i0 i1).2.1, fun q => ⟨((k6 i i0 i1).2.2 q).1.fr (fun K s2 i' j hK => g K s2 i' j (by omega)), ((k6 i i0 i1).2.2 q).2⟩⟩⟩
theorem W9_dropAxle {A : Int → Int} {n : Int} {B : Int → Int → Int} {F : Int → Int} {S : Int → Int → Int} {Q : Int → St → Prop} {st : St} {a0 : Int} (h : MS st A n B F S) (h0 : inI a0) (hx : ¬ (0 ≤ a0 ∧ a0 < A 5) → ∀ s, FQ st s → s 9 6 0 0 = 1 → Q 0 s)
    (hq : 0 ≤ a0 ∧ a0 < A 5 → ∀ s, FD st s → s 9 6 0 0 = 0 → MS s (dropA A 35 5 a0) (pushN n) (pushB n B A) F S → Q (A (35 + 2 * a0)) s) : f9_dropAxle Q st a0 := by
  have h3 := h.2.2.1
  have bnd := h.2.1.1.1.2.2.2.2.1
  have ec : st 30 0 0 5 = A 5 := congrFun h.1 5
  unfold f9_dropAxle
  rw [ec]
  refine W9_isIn h0 inI_0 (inI_s (by omega) (by omega)) ?_
  by_cases c : 0 ≤ a0 ∧ a0 ≤ A 5 - 1
  · rw [if_pos c]
    refine ⟨inI_1, fun e => absurd e (by omega), fun _ => ?_⟩
    unfold f9_dropAxle_j22
    refine gate (by omega) (by omega) (fun _ => ?_) (fun e => absurd e (by omega))
    have e6 : up st 9 6 0 0 0 9 6 0 0 = 0 := by rw [up_eq, if_pos ⟨rfl, rfl, rfl, rfl⟩]
    refine W9_keeps0 (h.fq (FQ.up6 h3)) (fun s f k => ?_)
    refine W9_drops k (by omega) (by omega) (by omega) c.1 (by omega) (by omega) (daxle_V h.2.1 c.1 (by omega)) (fun s' f' k' => ?_)
    exact hq ⟨c.1, by omega⟩ s' (fun K s2 i j hK => (f' K s2 i j (by omega)).trans ((f K s2 i j (by omega)).trans (up_ne (by omega)))) ((f' 9 6 0 0 (by omega)).trans ((f 9 6 0 0 (by omega)).trans e6)) k'
  · rw [if_neg c]
    refine ⟨inI_0, fun _ => ?_, fun e => absurd rfl e⟩
    unfold f9_dropAxle_j22
    exact gate (by omega) (by omega) (fun e => absurd e (by omega)) (fun _ => hx (by omega) _ (FQ.up6 h3) (by rw [up_eq, if_pos ⟨rfl, rfl, rfl, rfl⟩]))
