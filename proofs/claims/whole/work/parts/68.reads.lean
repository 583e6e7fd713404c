/-! the class reads a text -/
theorem rcap_2 (b : Int) : rcap (4 * b + 2) = 8 := by
  unfold rcap
  rw [if_neg (by omega), if_neg (by omega), if_pos (by omega)]
theorem rcap_3 (b : Int) : rcap (4 * b + 3) = 6 := by
  unfold rcap
  rw [if_neg (by omega), if_neg (by omega), if_neg (by omega)]
theorem BH.aL {st : St} {b w p : Int} {A : Int → Int} (h : BH st b A) (h4 : 0 ≤ A 4 ∧ A 4 < 8) (h2 : A 2 ≤ 5) (h3 : A 3 ≤ 3) : BH (insS st (4 * b + 2) (st 6 2 (4 * b + 2) 0) w p) b (addA A 19 4 w p) := by
  have ec : addA A 19 4 w p 4 = A 4 + 1 := addA_c A 19 4 w p
  obtain ⟨b0, b1, b2, ⟨i1, i2, i3⟩, b4, b5⟩ := h
  have s4 := b4.2.1
  have rc := rcap_2 b
  refine ⟨(insG_keep (by omega)).trans (b0.trans (addA_ne (by omega)).symm), (insG_keep (by omega)).trans (b1.trans (addA_ne (by omega)).symm), ?_, ⟨i1.eq (insG_keep (by omega)), ?_, fun k k0 k1 => ?_⟩, ⟨?_, ?_, fun k k0 k1 => ⟨?_, ?_⟩⟩, ?_⟩
  · exact (b2.fr (fun K s j hK => insG_keep (by omega))).e (addA_ne (by omega)).symm (fun k k0 k1 => ⟨(addA_ne (by omega)).symm, (addA_ne (by omega)).symm⟩)
  · exact (insG_keep (by omega)).trans (i2.trans (addA_ne (by omega)).symm)
  · have e9 : addA A 19 4 w p 3 = A 3 := addA_ne (by omega)
    rw [e9] at k1
    rw [addA_ne (by omega)]
    exact (insG_keep (by omega)).trans (i3 k k0 k1)
  · unfold RW
    rw [insG_n, s4]
    omega
  · rw [insG_n, s4, ec]
  · rw [ec] at k1
    show insS st (4 * b + 2) (st 6 2 (4 * b + 2) 0) w p 10 0 (4 * b + 2) k = addA A 19 4 w p (19 + 2 * k)
    rw [insG_10, s4]
    by_cases q : k = A 4
    · rw [if_pos q, addA_w (by omega) (by omega)]
    · rw [if_neg q, if_neg (by omega), addA_ne (by omega)]
      exact (b4.2.2 k k0 (by omega)).1
  · rw [ec] at k1
    show insS st (4 * b + 2) (st 6 2 (4 * b + 2) 0) w p 11 0 (4 * b + 2) k = addA A 19 4 w p (19 + 2 * k + 1)
    rw [insG_11, s4]
    by_cases q : k = A 4
    · rw [if_pos q, addA_p (by omega) (by omega)]
    · rw [if_neg q, if_neg (by omega), addA_ne (by omega)]
      exact (b4.2.2 k k0 (by omega)).2
  · exact (b5.fr (fun K s j hK => insG_keep (by omega))).e (addA_ne (by omega)).symm (fun k k0 k1 => ⟨(addA_ne (by omega)).symm, (addA_ne (by omega)).symm⟩)
theorem BH.aX {st : St} {b w p : Int} {A : Int → Int} (h : BH st b A) (h5 : 0 ≤ A 5 ∧ A 5 < 6) (h2 : A 2 ≤ 5) (h3 : A 3 ≤ 3) (h4 : A 4 ≤ 8) : BH (insS st (4 * b + 3) (st 6 2 (4 * b + 3) 0) w p) b (addA A 35 5 w p) := by
  have ec : addA A 35 5 w p 5 = A 5 + 1 := addA_c A 35 5 w p
  obtain ⟨b0, b1, b2, ⟨i1, i2, i3⟩, b4, b5⟩ := h
  have s5 := b5.2.1
  have rc := rcap_3 b
  refine ⟨(insG_keep (by omega)).trans (b0.trans (addA_ne (by omega)).symm), (insG_keep (by omega)).trans (b1.trans (addA_ne (by omega)).symm), ?_, ⟨i1.eq (insG_keep (by omega)), ?_, fun k k0 k1 => ?_⟩, ?_, ⟨?_, ?_, fun k k0 k1 => ⟨?_, ?_⟩⟩⟩
  · exact (b2.fr (fun K s j hK => insG_keep (by omega))).e (addA_ne (by omega)).symm (fun k k0 k1 => ⟨(addA_ne (by omega)).symm, (addA_ne (by omega)).symm⟩)
  · exact (insG_keep (by omega)).trans (i2.trans (addA_ne (by omega)).symm)
  · have e9 : addA A 35 5 w p 3 = A 3 := addA_ne (by omega)
    rw [e9] at k1
    rw [addA_ne (by omega)]
    exact (insG_keep (by omega)).trans (i3 k k0 k1)
  · exact (b4.fr (fun K s j hK => insG_keep (by omega))).e (addA_ne (by omega)).symm (fun k k0 k1 => ⟨(addA_ne (by omega)).symm, (addA_ne (by omega)).symm⟩)
  · unfold RW
    rw [insG_n, s5]
    omega
  · rw [insG_n, s5, ec]
  · rw [ec] at k1
    show insS st (4 * b + 3) (st 6 2 (4 * b + 3) 0) w p 10 0 (4 * b + 3) k = addA A 35 5 w p (35 + 2 * k)
    rw [insG_10, s5]
    by_cases q : k = A 5
    · rw [if_pos q, addA_w (by omega) (by omega)]
    · rw [if_neg q, if_neg (by omega), addA_ne (by omega)]
      exact (b5.2.2 k k0 (by omega)).1
  · rw [ec] at k1
    show insS st (4 * b + 3) (st 6 2 (4 * b + 3) 0) w p 11 0 (4 * b + 3) k = addA A 35 5 w p (35 + 2 * k + 1)
    rw [insG_11, s5]
    by_cases q : k = A 5
    · rw [if_pos q, addA_p (by omega) (by omega)]
    · rw [if_neg q, if_neg (by omega), addA_ne (by omega)]
      exact (b5.2.2 k k0 (by omega)).2
def FRc (st st' : St) : Prop := ∀ K s i j, ¬ (K = 5 ∨ (K = 0 ∧ i = 2) ∨ ((K = 6 ∨ K = 10 ∨ K = 11) ∧ 8 ≤ i ∧ i < 12)) → st' K s i j = st K s i j
theorem FRc.trans {a b c : St} (h : FRc a b) (g : FRc b c) : FRc a c := fun K s i j hK => (g K s i j hK).trans (h K s i j hK)
def OKc (st0 s : St) (T : Int → Int) (n : Int) (m t : Nat) (A : Int → Int) : Prop := FRc st0 s ∧ TXc s n T ∧ TKS s T n m ∧ s 5 2 0 0 = (t : Int) ∧ t ≤ m ∧ BH s 2 A
def ERc (st0 s : St) (c p : Int) : Prop := FRc st0 s ∧ s 5 3 0 0 = c ∧ s 5 4 0 0 = p
theorem TKS.fr {st st' : St} {T : Int → Int} {n : Int} {m : Nat} (h : TKS st T n m) (hf : ∀ K s i j, K = 22 ∨ K = 23 ∨ K = 24 ∨ K = 25 ∨ K = 7 → st' K s i j = st K s i j) : TKS st' T n m := ⟨(hf 7 6 0 0 (by omega)).trans h.1, h.2.1, h.2.2.1, fun i hi => (h.2.2.2 i hi).fr (fun K hK => hf K 0 0 i (by omega))⟩
theorem OKc.fr {st0 s s' : St} {T : Int → Int} {n : Int} {m t : Nat} {A A' : Int → Int} (h : OKc st0 s T n m t A) (hf : FRc s s') (e : s' 5 2 0 0 = s 5 2 0 0) (hB : BH s' 2 A') : OKc st0 s' T n m t A' := ⟨h.1.trans hf, h.2.1.fr (fun K s i j hK => hf K s i j (by omega)), h.2.2.1.fr (fun K s i j hK => hf K s i j (by omega)), e.trans h.2.2.2.1, h.2.2.2.2.1, hB⟩
theorem OKc.lt {st0 s : St} {T : Int → Int} {n : Int} {m t : Nat} {A : Int → Int} (h : OKc st0 s T n m t A) (c : tkS T n t < n) : t < m := by
  have hm := h.2.2.1.2.2.1
  have := h.2.2.2.2.1
  by_cases d : t = m
  · rw [d] at c; omega
  · omega
theorem OKc.nx {st0 s : St} {T : Int → Int} {n : Int} {m t : Nat} {A : Int → Int} (h : OKc st0 s T n m t A) (c : tkS T n t < n) : OKc st0 (up s 5 2 0 0 ((t : Int) + 1)) T n m (t + 1) A := by
  have hl := h.lt c
  exact ⟨fun K s' i j hK => (up_ne (by omega)).trans (h.1 K s' i j hK), h.2.1.fr (fun K s i j hK => up_ne (by omega)), h.2.2.1.fr (fun K s i j hK => up_ne (by omega)), by rw [up_eq, if_pos ⟨rfl, rfl, rfl, rfl⟩]; omega, by omega, h.2.2.2.2.2.fr (fun K s i j hK => up_ne (by omega))⟩
section Rd
variable {st0 s : St} {T : Int → Int} {n : Int} {m t : Nat} {A : Int → Int} {E : Int → Int → Prop}
theorem wlen_b {w : Nat} (hw : w < 9) : 0 ≤ wlen w ∧ wlen w < 100 := by
  have := w_small w hw
  unfold wlen
  omega
theorem W7_isWord {Q : Int → St → Prop} {w : Nat} (hw : w < 9) (hn : 0 ≤ n) (hn2 : n ≤ 500) (hB : TB T n) (h : OKc st0 s T n m t A) (h1 : isWp T n w t → Q 1 s) (h0 : ¬ isWp T n w t → Q 0 s) : f7_isWord w Q s t := by
  obtain ⟨o1, o2, o3, o4, o5, o6⟩ := h
  have hm := o3.2.1
  have lw := wlen_b hw
  unfold f7_isWord
  refine W7_has o3.1 (by omega) hm (by omega) (by omega) (fun c => ?_) (fun c => ⟨inI_0', fun _ => h0 (fun q => ?_), fun z => absurd rfl z⟩)
  · obtain ⟨t1, t2, t3, t4, t5⟩ := o3.2.2.2 t (by omega)
    have tb := tkS_b (T := T) hn t
    have te := tkE_b (T := T) tb.2
    have kb := kdX_b (T (tkS T n t))
    rw [t2, t3, t4]
    refine ⟨inI_1, fun z => absurd z (by omega), fun _ => ⟨by omega, by omega, inI_s (by omega) (by omega), fun e1 => ⟨by omega, by omega, by omega, by omega, inI_s (by omega) (by omega), inI_s (by omega) (by omega), fun e2 => ?_, fun e2 => h0 (fun q => e2 q.2.2.1)⟩, fun e1 => h0 (fun q => e1 q.2.1)⟩⟩
    have L : ∀ (f : Nat) (v : Int), 0 ≤ v → v ≤ wlen w → (∀ i, 0 ≤ i → i < v → T (tkS T n t + i) = wch w i) → wlen w - v < f → f7_isWord_l42 w Q t f s v := by
      intro f
      induction f with
      | zero => intro v b1 b2 b3 b4; omega
      | succ f ih =>
        intro v b1 b2 b3 b4
        unfold f7_isWord_l42
        rw [t3]
        refine ⟨inI_s (by omega) (by omega), inI_s (by omega) (by omega), fun d => h1 ⟨t1, e1, e2, fun i i0 i1 => b3 i i0 (by omega)⟩, fun d => ⟨by omega, by omega, ?_⟩⟩
        have hb := hB (tkS T n t + v) (by omega) (by omega)
        refine W7_byteAt o2 hn hn2 (by omega) (by omega) ⟨b1, by omega, inI_s (by omega) (by omega), inI_toInt _, fun e => ?_, fun e => h0 (fun q => e (q.2.2.2 v b1 (by omega)))⟩
        rintro _ rfl
        refine ih (v + 1) (by omega) (by omega) (fun i i0 i1 => ?_) (by omega)
        by_cases g : i = v
        · rw [g]; exact e
        · exact b3 i i0 (by omega)
    exact ⟨200, L 200 0 (by omega) (by omega) (fun i i0 i1 => by omega) (by omega)⟩
  · have e : t = m := by omega
    have z := q.1
    rw [e, o3.2.2.1] at z
    omega
theorem W7_startOf {Q : Int → St → Prop} (hn : 0 ≤ n) (hn2 : n ≤ 500) (h : OKc st0 s T n m t A) (hq : Q (tkS T n t) s) : f7_startOf Q s t := by
  obtain ⟨o1, o2, o3, o4, o5, o6⟩ := h
  have hm := o3.2.1
  have it : inI (t : Int) := inI_s (by omega) (by omega)
  unfold f7_startOf
  rw [o2.1, o3.1]
  refine ⟨it, fun c => absurd c (by omega), fun _ => ⟨it, inI_s (by omega) (by omega), fun c => ?_, fun c => ⟨it, fun d => absurd d (by omega), fun _ => ⟨by omega, by omega, ?_⟩⟩⟩⟩
  · have e : t = m := by omega
    rw [e, o3.2.2.1] at hq
    exact hq
  · rw [(o3.2.2.2 t (by omega)).2.2.1]
    exact hq
theorem W7_kindOf {Q : Int → St → Prop} (hn : 0 ≤ n) (hn2 : n ≤ 500) (h : OKc st0 s T n m t A) (hq : Q (kdT T n t) s) : f7_kindOf Q s t := by
  obtain ⟨o1, o2, o3, o4, o5, o6⟩ := h
  have hm := o3.2.1
  have it : inI (t : Int) := inI_s (by omega) (by omega)
  unfold kdT at hq
  unfold f7_kindOf
  rw [o3.1]
  refine ⟨it, fun c => absurd c (by omega), fun _ => ⟨it, inI_s (by omega) (by omega), fun c => ?_, fun c => ⟨it, fun d => absurd d (by omega), fun _ => ⟨by omega, by omega, ?_⟩⟩⟩⟩
  · have e : t = m := by omega
    rw [e, o3.2.2.1, if_neg (by omega)] at hq
    exact hq
  · have k := o3.2.2.2 t (by omega)
    rw [k.2.1]
    rwa [if_pos k.1] at hq
theorem kdT_b : 0 ≤ kdT T n t ∧ kdT T n t ≤ 5 := by
  unfold kdT
  have := kdX_b (T (tkS T n t))
  split <;> omega
theorem kdT_lt (h : ¬ kdT T n t = 0) : tkS T n t < n := by
  unfold kdT at h
  by_cases c : tkS T n t < n
  · exact c
  · rw [if_neg c] at h; exact absurd rfl h
theorem W7_valueOf {Q : Int → St → Prop} (hn : 0 ≤ n) (hn2 : n ≤ 500) (h : OKc st0 s T n m t A) (hk : kdT T n t = 2) (hq : Q (vaT T n t) s) : f7_valueOf Q s t := by
  have hl := h.lt (kdT_lt (by omega))
  obtain ⟨o1, o2, o3, o4, o5, o6⟩ := h
  have hm := o3.2.1
  have it : inI (t : Int) := inI_s (by omega) (by omega)
  have k := o3.2.2.2 t hl
  unfold kdT at hk
  rw [if_pos k.1] at hk
  unfold f7_valueOf
  rw [o3.1]
  refine ⟨it, fun c => absurd c (by omega), fun _ => ⟨it, inI_s (by omega) (by omega), fun c => absurd c (by omega), fun c => ⟨it, fun d => absurd d (by omega), fun _ => ⟨by omega, by omega, ?_⟩⟩⟩⟩
  rw [k.2.2.2.2 hk]
  exact hq
theorem W5_fail {Q : Int → St → Prop} {c p : Int} (h : OKc st0 s T n m t A) (hq : ∀ s', ERc st0 s' c p → Q 0 s') : f5_fail Q s c p := by
  unfold f5_fail
  rintro _ rfl _ rfl
  exact hq _ ⟨fun K s' i j hK => by rw [up_ne (by omega), up_ne (by omega)]; exact h.1 K s' i j hK, by rw [up_ne (by omega), up_eq, if_pos ⟨rfl, rfl, rfl, rfl⟩], by rw [up_eq, if_pos ⟨rfl, rfl, rfl, rfl⟩]⟩
theorem vln_b (hB : TB T n) : ∀ (f : Nat) (p v : Int), 0 ≤ p → 0 ≤ v → v ≤ 10000000 → 0 ≤ vln T n f p v ∧ vln T n f p v ≤ 10000000 := by
  intro f
  induction f with
  | zero => intro p v p0 v0 v1; exact ⟨v0, v1⟩
  | succ f ih =>
    intro p v p0 v0 v1
    unfold vln
    by_cases c : p < n ∧ cD (T p) = true
    · rw [if_pos c]
      have d := of_decide_eq_true c.2
      have := mi7_b (show 0 ≤ v * 10 + T p - 48 by omega)
      exact ih (p + 1) _ (by omega) this.1 this.2
    · rw [if_neg c]; exact ⟨v0, v1⟩
theorem vaT_b (hB : TB T n) (hn : 0 ≤ n) : 0 ≤ vaT T n t ∧ vaT T n t ≤ 10000000 := vln_b hB _ _ _ (tkS_b hn t).1 (by omega) (by omega)
theorem W5_word {Q : Int → St → Prop} {w : Nat} {K : Prop} (hw : w < 9) (hn : 0 ≤ n) (hn2 : n ≤ 500) (hB : TB T n) (h : OKc st0 s T n m t A) (hk : K → ∀ s', OKc st0 s' T n m (t + 1) A → Q 1 s') (he : ∀ c p s', E c p → ERc st0 s' c p → Q 0 s') (k : sWord T n w t K E) : f5_takeWord w Q s := by
  have o4 := h.2.2.2.1
  unfold f5_takeWord
  rw [o4]
  refine W7_isWord hw hn hn2 hB h (fun c => ⟨inI_1, fun z => absurd z (by omega), fun _ => ?_⟩) (fun c => ⟨inI_0', fun _ => ?_, fun z => absurd rfl z⟩)
  · rw [o4]
    rintro _ rfl
    exact hk (k.1 c) _ (h.nx c.1)
  · rw [o4]
    exact W7_startOf hn hn2 h (W5_fail h (fun s' e => ⟨Or.inl rfl, he _ _ s' (k.2 c) e⟩))
theorem W5_num {Q : Int → St → Prop} {lo hi : Int} {K : Int → Prop} (hn : 0 ≤ n) (hn2 : n ≤ 500) (hB : TB T n) (hlo : inI lo) (hhi : inI hi) (h : OKc st0 s T n m t A) (hk : ∀ v, lo ≤ v → v ≤ hi → v ≤ 10000000 → 0 ≤ v → K v → ∀ s', OKc st0 s' T n m (t + 1) A → Q v s') (he : ∀ c p s', E c p → ERc st0 s' c p → Q (-1) s') (k : sNum T n lo hi t K E) : f5_takeNumber Q s lo hi := by
  have o4 := h.2.2.2.1
  have kb := kdT_b (T := T) (n := n) (t := t)
  unfold f5_takeNumber
  rw [o4]
  refine W7_kindOf hn hn2 h ⟨inI_s (by omega) (by omega), fun c => ?_, fun c => ?_⟩
  · have vb := vaT_b (t := t) hB hn
    have k1 := k.1 c
    have bad : ¬ (lo ≤ vaT T n t ∧ vaT T n t ≤ hi) → f5_takeNumber_j57 Q s := fun q => by
      unfold f5_takeNumber_j57
      rw [o4]
      exact W7_startOf hn hn2 h (W5_fail h (fun s' e => he _ _ s' (k1.2 q) e))
    rw [o4]
    refine W7_valueOf hn hn2 h c ⟨inI_s (by omega) (by omega), hlo, fun d => bad (by omega), fun d => ⟨inI_s (by omega) (by omega), hhi, fun e => ?_, fun e => bad (by omega)⟩⟩
    rw [o4]
    rintro _ rfl
    exact hk _ (by omega) e vb.2 vb.1 (k1.1 ⟨by omega, e⟩) _ (h.nx (kdT_lt (by omega)))
  · rw [o4]
    exact W7_startOf hn hn2 h (W5_fail h (fun s' e => he _ _ s' (k.2 c) e))
theorem W5_semi {Q : Int → St → Prop} {K : Prop} (hn : 0 ≤ n) (hn2 : n ≤ 500) (h : OKc st0 s T n m t A) (hk : K → ∀ s', OKc st0 s' T n m (t + 1) A → Q 1 s') (he : ∀ c p s', E c p → ERc st0 s' c p → Q 0 s') (k : sSemi T n t K E) : f5_takeSemicolon Q s := by
  have o4 := h.2.2.2.1
  have kb := kdT_b (T := T) (n := n) (t := t)
  unfold f5_takeSemicolon
  rw [o4]
  refine W7_kindOf hn hn2 h ⟨inI_s (by omega) (by omega), fun c => ?_, fun c => ?_⟩
  · rw [o4]
    rintro _ rfl
    exact hk (k.1 c) _ (h.nx (kdT_lt (by omega)))
  · rw [o4]
    exact W7_startOf hn hn2 h (W5_fail h (fun s' e => ⟨Or.inl rfl, he _ _ s' (k.2 c) e⟩))
theorem W5_name {Q : Int → St → Prop} {o : Int} {full K : Prop} (hn : 0 ≤ n) (hn2 : n ≤ 500) (h : OKc st0 s T n m t A) (ht : tkS T n t < n) (hR : RW s o) (hf : s 6 2 o 0 = rcap o ↔ full) (hk : ¬ full → K → ∀ s', OKc st0 s' T n m (t + 1) A → Q 1 s') (he : ∀ c p s', E c p → ERc st0 s' c p → Q 0 s') (k : sName T n full t K E) : f5_takeNameFor o Q s := by
  have o4 := h.2.2.2.1
  unfold f5_takeNameFor
  refine W6_isFull hR (fun c => ⟨inI_1, fun z => absurd z (by omega), fun _ => ?_⟩) (fun c => ⟨inI_0', fun _ => ?_, fun z => absurd rfl z⟩)
  · rw [o4]
    exact W7_startOf hn hn2 h (W5_fail h (fun s' e => ⟨Or.inl rfl, he _ _ s' (k.1 (hf.1 c)) e⟩))
  · have nf : ¬ full := fun q => by have := hf.2 q; omega
    rw [o4]
    rintro _ rfl
    exact hk nf (k.2 nf) _ (h.nx ht)
theorem PV.iS (h : PV A) : (∀ k, 0 ≤ k → k < A 2 → inI (A (6 + 2 * k))) ∧ ∀ k, 0 ≤ k → k < A 3 → inI (A (16 + k)) := by
  obtain ⟨a0, a1, a2, a3, a4, a5, s1, s2, s3, s4, s5⟩ := h
  refine ⟨fun k k0 k1 => ?_, fun k k0 k1 => ?_⟩
  · have := (s1 k k0 k1).1
    exact inI_s (by omega) (by omega)
  · have := s3.1 k k0 k1
    exact inI_s (by omega) (by omega)
theorem W5_free {Q : Int → St → Prop} {lo hi : Int} {K : Int → Prop} (hn : 0 ≤ n) (hn2 : n ≤ 500) (hB : TB T n) (hlo : inI lo) (hhi : inI hi) (h0 : 0 ≤ lo) (h : OKc st0 s T n m t A) (hP : PV A) (hk : ∀ v, lo ≤ v → v ≤ hi → ¬ taken A v → K v → ∀ s', OKc st0 s' T n m (t + 1) A → Q v s') (he : ∀ c p s', E c p → ERc st0 s' c p → Q (-1) s') (k : sFree T n A lo hi t K E) : f5_takeFreePlace Q s lo hi := by
  have o4 := h.2.2.2.1
  unfold f5_takeFreePlace
  rw [o4]
  refine W7_startOf hn hn2 h ?_
  unfold sFree at k
  refine W5_num hn hn2 hB hlo hhi h (fun v v0 v1 v2 v3 kv s' o' => ⟨inI_s (by omega) (by omega), fun z => absurd z (by omega), fun _ => ?_⟩) (fun c p s' e er => ⟨inI_s (by omega) (by omega), fun _ => he c p s' e er, fun z => absurd rfl z⟩) k
  refine W0_isTaken o'.2.2.2.2.2 hP.iS.1 hP.iS.2 (inI_s (by omega) (by omega)) (fun c => ⟨inI_1, fun z => absurd z (by omega), fun _ => ?_⟩) (fun c c' => ⟨inI_0', fun _ => ?_, fun z => absurd rfl z⟩)
  · exact W5_fail o' (fun s2 e => he _ _ s2 (kv.1 c) e)
  · have nt : ¬ taken A v := fun q => by
      rcases q with ⟨i, i0, i1, e⟩ | ⟨i, i0, i1, e⟩
      · exact c i i0 i1 e
      · exact c' i i0 i1 e
    exact hk v v0 v1 nt (kv.2 nt) s' o'
end Rd
