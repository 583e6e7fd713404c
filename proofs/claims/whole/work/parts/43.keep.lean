/-! a change begins; save, restore -/
theorem pushN_b {n : Int} (h : 0 ≤ n ∧ n ≤ 8) : 0 ≤ pushN n ∧ pushN n ≤ 8 := by
  unfold pushN
  split <;> omega
theorem pushB_V {n : Int} {B : Int → Int → Int} {A : Int → Int} (hA : VA A) (hB : ∀ k, 0 ≤ k → k < n → VA (B k)) (hn : 0 ≤ n ∧ n ≤ 8) : ∀ k, 0 ≤ k → k < pushN n → VA (pushB n B A k) := by
  intro k k0 k1
  unfold pushN at k1
  unfold pushB
  by_cases c : n < 8
  · rw [if_pos c] at k1 ⊢
    by_cases d : k = n
    · rw [if_pos d]; exact hA
    · rw [if_neg d]; exact hB k k0 (by omega)
  · rw [if_neg c] at k1 ⊢
    by_cases d : k = 7
    · rw [if_pos d]; exact hA
    · rw [if_neg d]; exact hB (k + 1) (by omega) (by omega)
theorem W8_remember {A : Int → Int} {n : Int} {B : Int → Int → Int} {F : Int → Int} {S : Int → Int → Int} {Q : St → Prop} {st : St} (h : CS st A n B F S) (hq : ∀ s, FH st s → CS s A (pushN n) (pushB n B A) F S → Q s) : f2_remember 0 Q st := by
  obtain ⟨h1, h2, h3, h4, h5, h6⟩ := h
  have hn := h4.2.2.2.1
  refine W2_remember h4 h2 (fun s f hc => hq s f ⟨h1, h2.fr (fun K s2 i j hK => f K s2 i j (by omega)), h3.fr (fun K s2 i j hK => f K s2 i j (by omega)) h1.c, hc, pushB_V h1 h5 hn, fun i i0 i1 => ⟨(f 27 0 0 i (by omega)).trans (h6 i i0 i1).1, (h6 i i0 i1).2.1, fun q => ⟨((h6 i i0 i1).2.2 q).1.fr (fun K s2 i' j hK => f K s2 i' j (by omega)), ((h6 i i0 i1).2.2 q).2⟩⟩⟩)
theorem FH.fc {a b : St} (h : FH a b) : FC a b := fun K s i j hK => h K s i j (by omega)
theorem nA_id {st : St} {A : Int → Int} (h1 : aM st = A) (h4 : ∀ j, ¬ (0 ≤ j ∧ j < 47) → st 30 0 0 j = 0) : nA (fun j => st 30 0 0 j) = A := by
  rw [← h1]
  funext j
  unfold nA
  by_cases q : 0 ≤ j ∧ j < 47
  · rw [if_pos q]
  · rw [if_neg q]
    exact (h4 j q).symm
theorem W9_keeps0 {A : Int → Int} {n : Int} {B : Int → Int → Int} {F : Int → Int} {S : Int → Int → Int} {Q : St → Prop} {st : St} (h : MS st A n B F S) (hq : ∀ s, FK st s → MS s A (pushN n) (pushB n B A) F S → Q s) : f9_keeps 0 Q st := by
  obtain ⟨h1, h2, h3, h4, h5, h6, h7, h8⟩ := h
  refine W9_keeps (by omega) mlen0 h5 h6.1 h6.2 h7 (fun s f c k => hq s f ⟨?_, h2, fun j => by rw [f 37 0 0 j (by omega)]; exact h3 j, fun j hj => (f 30 0 0 j (by omega)).trans (h4 j hj), c, pushN_b h6, fun k' k0 k1 => ?_, fun i a b => ⟨(f 34 0 0 i (by omega)).trans (h8 i a b).1, (h8 i a b).2.1, fun q => ?_⟩⟩)
  · rw [← h1]
    funext j
    exact f 30 0 0 j (by omega)
  · rw [k k' k0 k1, nA_id h1 h4]
  · rw [← (h8 i a b).2.2 q]
    exact nA_ext (fun j _ _ => f 30 0 3 _ (by omega))
theorem FK.fd {a b : St} (h : FK a b) : FD a b := fun K s i j hK => h K s i j (by omega)
theorem FD.trans {a b c : St} (h : FD a b) (g : FD b c) : FD a c := fun K s i j hK => (g K s i j hK).trans (h K s i j hK)
theorem FD.rf {a : St} : FD a a := fun _ _ _ _ _ => rfl
/-- the saved after one more -/
def svF (F : Int → Int) (i : Int) : Int → Int := fun k => if k = i then 1 else F k
def svS (S : Int → Int → Int) (i : Int) (A : Int → Int) : Int → Int → Int := fun k => if k = i then A else S k
theorem W8_needSlot {Q : St → Prop} {X : String → St → Prop} {st : St} {v : Int} (hv : inI v) (hq : 0 ≤ v → v < 2 → Q st) (hx : ¬ (0 ≤ v ∧ v < 2) → X "java/lang/IndexOutOfBoundsException" st) : f8_needSlot Q X st v := by
  unfold f8_needSlot f8_needSlot_j9
  exact ⟨hv, fun c => hx (by omega), fun c => ⟨hv, fun c2 => hq (by omega) c2, fun c2 => hx (by omega)⟩⟩
theorem W8_save {A : Int → Int} {n : Int} {B : Int → Int → Int} {F : Int → Int} {S : Int → Int → Int} {Q : St → Prop} {X : String → St → Prop} {st : St} {v : Int} (h : CS st A n B F S) (hv : inI v) (hx : ¬ (0 ≤ v ∧ v < 2) → X "java/lang/IndexOutOfBoundsException" st) (hq : 0 ≤ v → v < 2 → ∀ s, FC st s → CS s A n B (svF F v) (svS S v A) → Q s) : f8_save Q X st v := by
  obtain ⟨h1, h2, h3, h4, h5, h6⟩ := h
  unfold f8_save
  refine W8_needSlot hv (fun v0 v1 => ⟨v0, v1, ?_⟩) hx
  refine W0_copyFrom (by omega) h2 (fun s f b => ⟨v0, v1, ?_⟩)
  rintro _ rfl
  have g : ∀ K s2 i j, ¬ (K = 27 ∨ (K = 0 ∧ i = 3 + v) ∨ ((K = 6 ∨ K = 10 ∨ K = 11) ∧ 4 * (3 + v) ≤ i ∧ i < 4 * (3 + v) + 4)) → up s 27 0 0 v 1 K s2 i j = st K s2 i j := fun K s2 i j hK => (up_ne (by omega)).trans (f K s2 i j (by omega))
  refine hq v0 v1 _ (fun K s2 i j hK => g K s2 i j (by omega)) ⟨h1, h2.fr (fun K s2 i j hK => g K s2 i j (by omega)), h3.fr (fun K s2 i j hK => g K s2 i j (by omega)) h1.c, h4.fr (fun K s2 i j hK => g K s2 i j (by omega)), h5, fun i i0 i1 => ?_⟩
  unfold svF svS
  by_cases c : i = v
  · refine ⟨by rw [if_pos c, up_eq, if_pos ⟨rfl, rfl, rfl, c⟩], by rw [if_pos c]; exact inI_1, fun _ => ?_⟩
    rw [if_pos c, c]
    exact ⟨b.fr (fun K s2 i j hK => up_ne (by omega)), h1⟩
  · refine ⟨by rw [if_neg c, up_ne (by omega), f 27 0 0 i (by omega)]; exact (h6 i i0 i1).1, by rw [if_neg c]; exact (h6 i i0 i1).2.1, fun q => ?_⟩
    rw [if_neg c] at q
    rw [if_neg c]
    exact ⟨((h6 i i0 i1).2.2 q).1.fr (fun K s2 i' j hK => g K s2 i' j (by omega)), ((h6 i i0 i1).2.2 q).2⟩
theorem W9_save {A : Int → Int} {n : Int} {B : Int → Int → Int} {F : Int → Int} {S : Int → Int → Int} {Q : St → Prop} {st : St} {v : Int} (h : MS st A n B F S) (hv : inI v) (hx : ¬ (0 ≤ v ∧ v < 2) → ∀ s, FQ st s → s 9 6 0 0 = 1 → Q s) (hq : 0 ≤ v → v < 2 → ∀ s, FD st s → s 9 6 0 0 = 0 → MS s A n B (svF F v) (svS S v A) → Q s) : f9_save Q st v := by
  obtain ⟨h1, h2, h3, h4, h5, h6, h7, h8⟩ := h
  have m3 := mlen3
  have m0 := mlen0
  unfold f9_save
  refine W9_isIn hv inI_0 (inI_s (by omega) (by omega)) ?_
  by_cases c : 0 ≤ v ∧ v ≤ 1
  · rw [if_pos c]
    refine ⟨inI_1, fun e => absurd e (by omega), fun _ => ?_⟩
    unfold f9_save_j15
    rintro _ rfl
    have e6 : up st 9 6 0 0 0 9 6 0 0 = 0 := by rw [up_eq, if_pos ⟨rfl, rfl, rfl, rfl⟩]
    rw [e6]
    refine ⟨inI_0, fun _ => ?_, fun q => absurd q (by omega)⟩
    refine W9_copies (by omega) (by omega) (by omega) (by omega) (by omega) ⟨c.1, by omega, ?_⟩
    rintro _ rfl
    have g : ∀ K s i j, ¬ ((K = 34 ∧ j = v) ∨ (K = 30 ∧ i = 3 ∧ 47 * v ≤ j ∧ j < 47 * v + 47) ∨ (K = 9 ∧ s = 6)) → up (cpyN (up st 9 6 0 0 0) 3 (47 * v) 0 0 47) 34 0 0 v 1 K s i j = st K s i j := fun K s i j hK => by rw [up_ne (by omega), cpyN_out (by omega), up_ne (by omega)]
    refine hq c.1 (by omega) _ (fun K s i j hK => g K s i j (by omega)) (by rw [up_ne (by omega), cpyN_out (by omega), e6]) ⟨?_, h2, fun j => by rw [g 37 0 0 j (by omega)]; exact h3 j, fun j hj => (g 30 0 0 j (by omega)).trans (h4 j hj), (g 9 5 0 0 (by omega)).trans h5, h6, fun k a b => ?_, fun i a b => ?_⟩
    · rw [← h1]
      funext j
      exact g 30 0 0 j (by omega)
    · rw [← h7 k a b]
      exact nA_ext (fun j _ _ => g 30 0 2 _ (by omega))
    · unfold svF svS
      by_cases d : i = v
      · refine ⟨by rw [if_pos d, up_eq, if_pos ⟨rfl, rfl, rfl, d⟩], by rw [if_pos d]; exact inI_1, fun _ => ?_⟩
        rw [if_pos d, ← nA_id h1 h4]
        refine nA_ext (fun j j0 j1 => ?_)
        rw [up_ne (by omega), d, cpyN_in j0 j1, Int.zero_add, up_ne (by omega)]
      · refine ⟨by rw [if_neg d, g 34 0 0 i (by omega)]; exact (h8 i a b).1, by rw [if_neg d]; exact (h8 i a b).2.1, fun q => ?_⟩
        rw [if_neg d] at q
        rw [if_neg d, ← (h8 i a b).2.2 q]
        exact nA_ext (fun j _ _ => g 30 0 3 _ (by omega))
  · rw [if_neg c]
    refine ⟨inI_0, fun _ => ?_, fun e => absurd rfl e⟩
    unfold f9_save_j15
    rintro _ rfl
    have e6 : up st 9 6 0 0 1 9 6 0 0 = 1 := by rw [up_eq, if_pos ⟨rfl, rfl, rfl, rfl⟩]
    rw [e6]
    exact ⟨inI_1, fun q => absurd q (by omega), fun _ => hx (by omega) _ (FQ.up6 h3) e6⟩
theorem W8_restore {A : Int → Int} {n : Int} {B : Int → Int → Int} {F : Int → Int} {S : Int → Int → Int} {Q : Int → St → Prop} {X : String → St → Prop} {st : St} {v : Int} (h : CS st A n B F S) (hv : inI v) (hx : ¬ (0 ≤ v ∧ v < 2) → X "java/lang/IndexOutOfBoundsException" st) (hy : 0 ≤ v → v < 2 → F v = 0 → X "java/lang/IllegalStateException" st)
    (hq : 0 ≤ v → v < 2 → ¬ F v = 0 → ∀ s, FC st s → CS s (S v) (pushN n) (pushB n B A) F S → Q (S v 2) s) : f8_restore Q X st v := by
  have h6 := h.2.2.2.2.2
  unfold f8_restore
  refine W8_needSlot hv (fun v0 v1 => ⟨v0, v1, ?_⟩) hx
  have hF := h6 v v0 v1
  rw [hF.1]
  refine ⟨hF.2.1, fun c => hy v0 v1 c, fun c => ?_⟩
  refine W8_remember h (fun s1 f1 c1 => ⟨v0, v1, ?_⟩)
  obtain ⟨h1, h2, h3, h4, h5, h6⟩ := c1
  have hS := (h6 v v0 v1).2.2 c
  refine W0_copyFrom (A := S v) (by omega) hS.1 (fun s2 f2 b2 => ?_)
  refine W3_reckon (b2.bf hS.2.2.1).1 hS.2.c (fun s f z => absurd z hS.2.2.2) (fun s f _ l => ?_)
  have bs : BH s 0 (S v) := b2.fr (fun K s2 i j hK => f K s2 i j (by omega))
  have g : ∀ K s' i j, ¬ ((K = 0 ∧ i = 0) ∨ K = 3 ∨ K = 18 ∨ K = 20 ∨ ((K = 6 ∨ K = 10 ∨ K = 11) ∧ 0 ≤ i ∧ i < 4)) → s K s' i j = s1 K s' i j := fun K s' i j hK => (f K s' i j (by omega)).trans (f2 K s' i j (by omega))
  have e2 : s 6 2 (4 * 0) 0 = S v 2 := bs.2.2.1.2.1
  rw [e2]
  exact hq v0 v1 c s (f1.fc.trans (fun K s' i j hK => g K s' i j (by omega))) ⟨hS.2, bs, l, h4.fr (fun K s' i j hK => g K s' i j (by omega)), h5, fun i i0 i1 => ⟨(g 27 0 0 i (by omega)).trans (h6 i i0 i1).1, (h6 i i0 i1).2.1, fun q => ⟨((h6 i i0 i1).2.2 q).1.fr (fun K s' i' j hK => g K s' i' j (by omega)), ((h6 i i0 i1).2.2 q).2⟩⟩⟩
