/-! the class reads statements, the whole text -/
section Rd2
variable {st0 s : St} {T : Int → Int} {n : Int} {m t : Nat} {A : Int → Int} {E : Int → Int → Prop}
theorem W5_put {Q : Int → St → Prop} {K : Nat → (Int → Int) → Prop} {v b : Int} (hn : 0 ≤ n) (hn2 : n ≤ 500) (h : OKc st0 s T n m t A) (hP : PV A) (h5 : ¬ A 2 = 5) (v0 : 0 ≤ v) (v1 : v ≤ A 0) (w0 : -1 ≤ b) (w1 : b ≤ 99999) (nt : ¬ taken A v) (hk : K (t + 1) (putS A v b) → ∀ s', OKc st0 s' T n m (t + 1) (putS A v b) → PV (putS A v b) → Q 1 s') (he : ∀ c p s', E c p → ERc st0 s' c p → Q 0 s') (k : sSemi T n t (K (t + 1) (putS A v b)) E) : f5_readSupport_j79 Q s v b := by
  have hB := h.2.2.2.2.2
  have i2 := hB.2.2.1.2.1
  have i3 := hB.2.2.1.2.2
  have rc := rcap_0 2
  have a2 := hP.2.2.1
  have l3 := hP.1.2
  unfold f5_readSupport_j79
  refine W6_putInOrder hB.2.2.1.1 (fun k k0 k1 => by rw [i2] at k1; rw [(i3 k k0 k1).1]; exact hP.iS.1 k k0 k1) (inI_s (by omega) (by omega)) (by rw [i2, rc]; omega) ?_
  have eP : cuN (s 10 0 (4 * 2)) v (s 6 2 (4 * 2) 0).toNat = cuN (fun k => A (6 + 2 * k)) v (A 2).toNat := by
    rw [i2]
    exact cuN_ext _ (fun k k0 k1 => (i3 k k0 (by omega)).1)
  rw [eP]
  have hb := putS_b (A := A) v a2.1
  have b2 := hB.aS (v := v) (w := b) hb.1 hb.2 (by omega)
  have o2 : OKc st0 (insS s (4 * 2) (cuN (fun k => A (6 + 2 * k)) v (A 2).toNat) v b) T n m t (putS A v b) := h.fr (fun K s i j hK => insG_keep (by omega)) (insG_keep (by omega)) b2
  exact W5_semi hn hn2 o2 (fun q s' o => ⟨Or.inr rfl, hk q s' o (hP.putS h5 v0 v1 w0 w1 nt)⟩) (fun c p s' e er => ⟨Or.inl rfl, he c p s' e er⟩) k
theorem W5_support {Q : Int → St → Prop} {K : Nat → (Int → Int) → Prop} (hn : 0 ≤ n) (hn2 : n ≤ 500) (hB : TB T n) (h : OKc st0 s T n m t A) (hP : PV A) (ht : tkS T n t < n) (hk : ∀ t' A', t < t' → K t' A' → ∀ s', OKc st0 s' T n m t' A' → PV A' → Q 1 s') (he : ∀ c p s', E c p → ERc st0 s' c p → Q 0 s') (k : sSupport T n A t K E) : f5_readSupport Q s := by
  have bh := h.2.2.2.2.2
  have rc := rcap_0 2
  have l3 := hP.1
  unfold f5_readSupport
  refine W5_name hn hn2 h ht bh.2.2.1.1 (by rw [bh.2.2.1.2.1, rc]) (fun nf k1 s1 o1 => ⟨inI_1, fun z => absurd z (by omega), fun _ => ?_⟩) (fun c p s' e er => ⟨inI_0', fun _ => he c p s' e er, fun z => absurd rfl z⟩) k
  rw [o1.2.2.2.2.2.1]
  refine W5_free hn hn2 hB inI_0' (inI_s (by omega) (by omega)) (by omega) o1 hP (fun v v0 v1 nt k2 s2 o2 => ⟨inI_s (by omega) (by omega), fun z => absurd z (by omega), fun _ => ?_⟩) (fun c p s' e er => ⟨inI_s (by omega) (by omega), fun _ => he c p s' e er, fun z => absurd rfl z⟩) k1
  rw [o2.2.2.2.1]
  refine W7_isWord (by omega) hn hn2 hB o2 (fun c => ⟨inI_1, fun z => absurd z (by omega), fun _ => ?_⟩) (fun c => ⟨inI_0', fun _ => ?_, fun z => absurd rfl z⟩)
  · rw [o2.2.2.2.1]
    rintro _ rfl
    have o3 := o2.nx c.1
    refine W5_num hn hn2 hB inI_1 (inI_s (by omega) (by omega)) o3 (fun b b0 b1 _ _ k3 s4 o4 => ⟨inI_s (by omega) (by omega), fun z => absurd z (by omega), fun _ => ?_⟩) (fun c p s' e er => ⟨inI_s (by omega) (by omega), fun _ => he c p s' e er, fun z => absurd rfl z⟩) (k2.1 c)
    exact W5_put hn hn2 o4 hP nf v0 v1 (by omega) b1 nt (fun q s' o hp => hk (t + 5) _ (by omega) q s' o hp) he k3
  · exact W5_put hn hn2 o2 hP nf v0 v1 (by omega) (by omega) nt (fun q s' o hp => hk (t + 3) _ (by omega) q s' o hp) he (k2.2 c)
theorem W5_hinge {Q : Int → St → Prop} {K : Nat → (Int → Int) → Prop} (hn : 0 ≤ n) (hn2 : n ≤ 500) (hB : TB T n) (h : OKc st0 s T n m t A) (hP : PV A) (ht : tkS T n t < n) (hk : ∀ t' A', t < t' → K t' A' → ∀ s', OKc st0 s' T n m t' A' → PV A' → Q 1 s') (he : ∀ c p s', E c p → ERc st0 s' c p → Q 0 s') (k : sHinge T n A t K E) : f5_readHinge Q s := by
  have bh := h.2.2.2.2.2
  have rc := rcap_1 2
  have l3 := hP.1
  have a3 := hP.2.2.2.1
  have a2 := hP.2.2.1
  unfold f5_readHinge
  refine W5_name hn hn2 h ht bh.2.2.2.1.1 (by rw [bh.2.2.2.1.2.1, rc]) (fun nf k1 s1 o1 => ⟨inI_1, fun z => absurd z (by omega), fun _ => ?_⟩) (fun c p s' e er => ⟨inI_0', fun _ => he c p s' e er, fun z => absurd rfl z⟩) k
  rw [o1.2.2.2.2.2.1]
  refine W5_free hn hn2 hB inI_1 (inI_s (by omega) (by omega)) (by omega) o1 hP (fun v v0 v1 nt k2 s2 o2 => ⟨inI_s (by omega) (by omega), fun z => absurd z (by omega), fun _ => ?_⟩) (fun c p s' e er => ⟨inI_s (by omega) (by omega), fun _ => he c p s' e er, fun z => absurd rfl z⟩) k1
  have b2 := o2.2.2.2.2.2
  have i2 := b2.2.2.2.1.2.1
  have i3 := b2.2.2.2.1.2.2
  refine W6_putInOrder b2.2.2.2.1.1 (fun k k0 k1 => by rw [i2] at k1; rw [i3 k k0 k1]; exact hP.iS.2 k k0 k1) (inI_s (by omega) (by omega)) (by rw [i2, rc]; omega) ?_
  have eP : cuN (s2 10 0 (4 * 2 + 1)) v (s2 6 2 (4 * 2 + 1) 0).toNat = cuN (fun k => A (16 + k)) v (A 3).toNat := by
    rw [i2]
    exact cuN_ext _ (fun k k0 k1 => i3 k k0 (by omega))
  rw [eP]
  have hb := putH_b (A := A) v a3.1
  have b3 := b2.aH (v := v) (w := 0) hb.1 hb.2 (by omega) (by omega)
  have o3 : OKc st0 (insS s2 (4 * 2 + 1) (cuN (fun k => A (16 + k)) v (A 3).toNat) v 0) T n m (t + 2) (putH A v) := o2.fr (fun K s i j hK => insG_keep (by omega)) (insG_keep (by omega)) b3
  exact W5_semi hn hn2 o3 (fun q s' o => ⟨Or.inr rfl, hk (t + 3) _ (by omega) q s' o (hP.putH nf v0 v1 nt)⟩) (fun c p s' e er => ⟨Or.inl rfl, he c p s' e er⟩) k2
theorem W5_pair {Q : Int → St → Prop} {K : Nat → (Int → Int) → Prop} {o c cap i hi : Int} {w : Nat} (hn : 0 ≤ n) (hn2 : n ≤ 500) (hB : TB T n) (h : OKc st0 s T n m t A) (ht : tkS T n t < n) (hw : w < 9) (ho : 8 ≤ o ∧ o < 12) (hcap : rcap o = cap) (hhi : inI hi) (hR : ∀ s, BH s 2 A → RW s o ∧ s 6 2 o 0 = A c) (hput : ∀ s x y, BH s 2 A → ¬ A c = cap → BH (insS s o (s 6 2 o 0) x y) 2 (addA A i c x y)) (hP : ∀ x y, ¬ A c = cap → 1 ≤ x → x ≤ 999 → 0 ≤ y → y ≤ hi → PV (addA A i c x y)) (hk : ∀ t' A', t < t' → K t' A' → ∀ s', OKc st0 s' T n m t' A' → PV A' → Q 1 s') (he : ∀ c p s', E c p → ERc st0 s' c p → Q 0 s') (k : sPair T n A c cap i w hi t K E) : f5_readWeight o w Q s hi := by
  have r0 := hR s h.2.2.2.2.2
  unfold f5_readWeight
  refine W5_name hn hn2 h ht r0.1 (by rw [r0.2, hcap]) (fun nf k1 s1 o1 => ⟨inI_1, fun z => absurd z (by omega), fun _ => ?_⟩) (fun c p s' e er => ⟨inI_0', fun _ => he c p s' e er, fun z => absurd rfl z⟩) k
  refine W5_num hn hn2 hB inI_1 (inI_s (by omega) (by omega)) o1 (fun x x0 x1 _ _ k2 s2 o2 => ⟨inI_s (by omega) (by omega), fun z => absurd z (by omega), fun _ => ?_⟩) (fun c p s' e er => ⟨inI_s (by omega) (by omega), fun _ => he c p s' e er, fun z => absurd rfl z⟩) k1
  refine W5_word hw hn hn2 hB o2 (fun k3 s3 o3 => ⟨inI_1, fun z => absurd z (by omega), fun _ => ?_⟩) (fun c p s' e er => ⟨inI_0', fun _ => he c p s' e er, fun z => absurd rfl z⟩) k2
  refine W5_num hn hn2 hB inI_0' hhi o3 (fun y y0 y1 y2 _ k4 s4 o4 => ⟨inI_s (by omega) (by omega), fun z => absurd z (by omega), fun _ => ?_⟩) (fun c p s' e er => ⟨inI_s (by omega) (by omega), fun _ => he c p s' e er, fun z => absurd rfl z⟩) k3
  have r4 := hR s4 o4.2.2.2.2.2
  have rb := rcap_b o
  have r4a : s4 6 2 o 0 ≤ rcap o := r4.1.2
  refine W6_putLast r4.1 (by rw [r4.2] at r4a ⊢; omega) ?_
  have o5 : OKc st0 (insS s4 o (s4 6 2 o 0) x y) T n m (t + 4) (addA A i c x y) := o4.fr (fun K s i j hK => insG_keep (by omega)) (insG_keep (by omega)) (hput s4 x y o4.2.2.2.2.2 nf)
  exact W5_semi hn hn2 o5 (fun q s' o => ⟨Or.inr rfl, hk (t + 5) _ (by omega) q s' o (hP x y nf x0 x1 y0 y1)⟩) (fun c p s' e er => ⟨Or.inl rfl, he c p s' e er⟩) k4
theorem W5_stmt {Q : Int → St → Prop} {K : Nat → (Int → Int) → Prop} (hn : 0 ≤ n) (hn2 : n ≤ 500) (hB : TB T n) (h : OKc st0 s T n m t A) (hP : PV A) (ht : tkS T n t < n) (hk : ∀ t' A', t < t' → K t' A' → ∀ s', OKc st0 s' T n m t' A' → PV A' → Q 1 s') (he : ∀ c p s', E c p → ERc st0 s' c p → Q 0 s') (k : sStmt T n A t K E) : f5_readStatement Q s := by
  have o4 := h.2.2.2.1
  have bh := h.2.2.2.2.2
  have l3 := hP.1
  have a2 := hP.2.2.1
  have a3 := hP.2.2.2.1
  have a4 := hP.2.2.2.2.1
  have a5 := hP.2.2.2.2.2.1
  unfold f5_readStatement
  rw [o4]
  refine W7_isWord (by omega) hn hn2 hB h (fun c => ⟨inI_1, fun z => absurd z (by omega), fun _ => ?_⟩) (fun c => ⟨inI_0', fun _ => ?_, fun z => absurd rfl z⟩)
  · exact W5_support hn hn2 hB h hP ht (fun t' A' lt q s' o hp => ⟨Or.inr rfl, hk t' A' lt q s' o hp⟩) (fun c p s' e er => ⟨Or.inl rfl, he c p s' e er⟩) (k.1 c)
  · have k := k.2 c
    rw [o4]
    refine W7_isWord (by omega) hn hn2 hB h (fun c => ⟨inI_1, fun z => absurd z (by omega), fun _ => ?_⟩) (fun c => ⟨inI_0', fun _ => ?_, fun z => absurd rfl z⟩)
    · exact W5_hinge hn hn2 hB h hP ht (fun t' A' lt q s' o hp => ⟨Or.inr rfl, hk t' A' lt q s' o hp⟩) (fun c p s' e er => ⟨Or.inl rfl, he c p s' e er⟩) (k.1 c)
    · have k := k.2 c
      rw [o4]
      refine W7_isWord (by omega) hn hn2 hB h (fun c => ⟨inI_1, fun z => absurd z (by omega), fun _ => ?_⟩) (fun c => ⟨inI_0', fun _ => ?_, fun z => absurd rfl z⟩)
      · rw [bh.1]
        exact W5_pair (c := 4) (cap := 8) (i := 19) hn hn2 hB h ht (by omega) (by omega) (rcap_2 2) (inI_s (by omega) (by omega)) (fun s b => ⟨b.2.2.2.2.1.1, b.2.2.2.2.1.2.1⟩) (fun s x y b nf => b.aL (by omega) (by omega) (by omega)) (fun x y nf x0 x1 y0 y1 => hP.load nf x0 x1 y0 y1) (fun t' A' lt q s' o hp => ⟨Or.inr rfl, hk t' A' lt q s' o hp⟩) (fun c p s' e er => ⟨Or.inl rfl, he c p s' e er⟩) (k.1 c)
      · have k := k.2 c
        rw [o4]
        refine W7_isWord (by omega) hn hn2 hB h (fun c => ⟨inI_1, fun z => absurd z (by omega), fun _ => ?_⟩) (fun c => ⟨inI_0', fun _ => ?_, fun z => absurd rfl z⟩)
        · exact W5_pair (c := 5) (cap := 6) (i := 35) hn hn2 hB h ht (by omega) (by omega) (rcap_3 2) (inI_s (by omega) (by omega)) (fun s b => ⟨b.2.2.2.2.2.1, b.2.2.2.2.2.2.1⟩) (fun s x y b nf => b.aX (by omega) (by omega) (by omega) (by omega)) (fun x y nf x0 x1 y0 y1 => hP.axle nf x0 x1 y0 y1) (fun t' A' lt q s' o hp => ⟨Or.inr rfl, hk t' A' lt q s' o hp⟩) (fun c p s' e er => ⟨Or.inl rfl, he c p s' e er⟩) (k.1 c)
        · rw [o4]
          exact W7_startOf hn hn2 h (W5_fail h (fun s' e => ⟨Or.inl rfl, he _ _ s' (k.2 c) e⟩))
theorem tkS_S (h : tkS T n t < n) (hn : 0 ≤ n) : tkS T n t < tkS T n (t + 1) := by
  have b := tkS_b (T := T) hn t
  have e := tkE_b (T := T) b.2
  have c := sc_b cP T n (tkE T n (tkS T n t))
  have e2 := e.2.2 h
  show tkS T n t < sc cP T n (tkE T n (tkS T n t))
  omega
theorem tkS_m (hn : 0 ≤ n) : ∀ (d t : Nat), tkS T n t ≤ tkS T n (t + d)
  | 0, _ => Int.le_refl _
  | d + 1, t => by
    have h := tkS_m hn d t
    have b := tkS_b (T := T) hn (t + d)
    have e := tkE_b (T := T) b.2
    have c := sc_b cP T n (tkE T n (tkS T n (t + d)))
    show tkS T n t ≤ sc cP T n (tkE T n (tkS T n (t + d)))
    omega
theorem tkS_lt {t' : Nat} (h : tkS T n t < n) (hn : 0 ≤ n) (l : t < t') : tkS T n t < tkS T n t' := by
  have a := tkS_S h hn
  have b := tkS_m (T := T) hn (t' - (t + 1)) (t + 1)
  rw [show t + 1 + (t' - (t + 1)) = t' by omega] at b
  omega
theorem W5_loop {Q : Int → St → Prop} {K : (Int → Int) → Prop} (hn : 0 ≤ n) (hn2 : n ≤ 500) (hB : TB T n) (hk : ∀ A s', K A → (∃ t, OKc st0 s' T n m t A) → PV A → f5_readText_j80 Q s') (he : ∀ c p s', E c p → ERc st0 s' c p → Q 0 s') : ∀ (f g : Nat) (v : Int) (t : Nat) (A : Int → Int) (s : St), OKc st0 s T n m t A → PV A → 0 ≤ v → v ≤ t → n - tkS T n t < g → (m : Int) - v < f → sLoop T n K E g A t → f5_readText_l40 Q f s v := by
  intro f
  induction f with
  | zero =>
    intro g v t A s h hP v0 v1 g1 f1 k
    have := h.2.2.2.2.1
    omega
  | succ f ih =>
    intro g v t A s h hP v0 v1 g1 f1 k
    have hm := h.2.2.1.2.1
    have tb := tkS_b (T := T) hn t
    cases g with
    | zero => omega
    | succ g =>
      unfold sLoop at k
      have kb := kdT_b (T := T) (n := n) (t := t)
      unfold f5_readText_l40
      rw [h.2.2.1.1]
      refine ⟨inI_s (by have := h.2.2.2.2.1; omega) (by have := h.2.2.2.2.1; omega), inI_s (by omega) (by omega), fun c => ?_, fun c => ?_⟩
      · have e : t = m := by have := h.2.2.2.2.1; omega
        refine hk A s (k.1 ?_) ⟨t, h⟩ hP
        unfold kdT
        rw [if_neg (by rw [e, h.2.2.1.2.2.1]; omega)]
      · rw [h.2.2.2.1]
        refine W7_kindOf hn hn2 h ⟨inI_s (by omega) (by omega), fun d => hk A s (k.1 d) ⟨t, h⟩ hP, fun d => ?_⟩
        refine W5_stmt hn hn2 hB h hP (kdT_lt d) (fun t' A' lt q s' o hp => ⟨inI_1, fun z => absurd z (by omega), fun _ => ?_⟩) (fun c p s' e er => ⟨inI_0', fun _ => he c p s' e er, fun z => absurd rfl z⟩) (k.2 d)
        rintro _ rfl
        have := tkS_lt (kdT_lt d) hn lt
        exact ih g (v + 1) t' A' s' o hp (by omega) (by omega) (by omega) (by omega) q
end Rd2
def FRt (st st' : St) : Prop := ∀ K s i j, ¬ (K = 5 ∨ (K = 0 ∧ i = 2) ∨ ((K = 6 ∨ K = 10 ∨ K = 11) ∧ 8 ≤ i ∧ i < 12) ∨ K = 22 ∨ K = 23 ∨ K = 24 ∨ K = 25 ∨ (K = 7 ∧ s = 6)) → st' K s i j = st K s i j
theorem W5_readText {Q : Int → St → Prop} {st : St} {T : Int → Int} {n : Int} {K : (Int → Int) → Prop} {E : Int → Int → Prop} (hT : TXc st n T) (hn : 0 ≤ n) (hn2 : n ≤ 500) (hB : TB T n) (hk : ∀ A s, K A → FRt st s → BH s 2 A → PV A → 2 ≤ A 2 → A 3 = A 2 - 2 → Q 1 s) (he : ∀ c p s, E c p → FRt st s → s 5 3 0 0 = c → s 5 4 0 0 = p → Q 0 s) (k : sText T n K E) : f5_readText Q st := by
  unfold f5_readText
  rintro _ rfl _ rfl _ rfl
  unfold f0_makeBare
  rintro _ rfl _ rfl _ rfl _ rfl
  generalize es : up (up (up (up (up (up (up st 5 2 0 0 0) 5 3 0 0 0) 5 4 0 0 (-1)) 6 2 (4 * 2) 0 0) 6 2 (4 * 2 + 1) 0 0) 6 2 (4 * 2 + 2) 0 0) 6 2 (4 * 2 + 3) 0 0 = s1
  have f1 : ∀ K s i j, ¬ (K = 5 ∨ (K = 6 ∧ 8 ≤ i ∧ i < 12)) → s1 K s i j = st K s i j := fun K s i j hK => by
    rw [← es, up_ne (by omega), up_ne (by omega), up_ne (by omega), up_ne (by omega), up_ne (by omega), up_ne (by omega), up_ne (by omega)]
  have e52 : s1 5 2 0 0 = 0 := by rw [← es, up_ne (by omega), up_ne (by omega), up_ne (by omega), up_ne (by omega), up_ne (by omega), up_ne (by omega), up_eq, if_pos ⟨rfl, rfl, rfl, rfl⟩]
  have r0 : s1 6 2 (4 * 2) 0 = 0 := by rw [← es, up_ne (by omega), up_ne (by omega), up_ne (by omega), up_eq, if_pos ⟨rfl, rfl, rfl, rfl⟩]
  have r1 : s1 6 2 (4 * 2 + 1) 0 = 0 := by rw [← es, up_ne (by omega), up_ne (by omega), up_eq, if_pos ⟨rfl, rfl, rfl, rfl⟩]
  have r2 : s1 6 2 (4 * 2 + 2) 0 = 0 := by rw [← es, up_ne (by omega), up_eq, if_pos ⟨rfl, rfl, rfl, rfl⟩]
  have r3 : s1 6 2 (4 * 2 + 3) 0 = 0 := by rw [← es, up_eq, if_pos ⟨rfl, rfl, rfl, rfl⟩]
  have hT1 : TXc s1 n T := hT.fr (fun K s i j hK => f1 K s i j (by omega))
  refine W7_split hT1 hn hn2 hB (fun s2 m f2 tk => ?_)
  have f2' : ∀ K s i j, ¬ (K = 22 ∨ K = 23 ∨ K = 24 ∨ K = 25 ∨ (K = 7 ∧ s = 6)) → s2 K s i j = s1 K s i j := f2
  have hT2 : TXc s2 n T := hT1.fr (fun K s i j hK => f2 K s i j (by omega))
  have bare : ∀ (s : St) (A : Int → Int), s 0 0 2 0 = A 0 → s 0 1 2 0 = A 1 → A 2 = 0 → A 3 = 0 → A 4 = 0 → A 5 = 0 → s 6 2 (4 * 2) 0 = 0 → s 6 2 (4 * 2 + 1) 0 = 0 → s 6 2 (4 * 2 + 2) 0 = 0 → s 6 2 (4 * 2 + 3) 0 = 0 → BH s 2 A := fun s A q0 q1 q2 q3 q4 q5 z0 z1 z2 z3 => by
    have c0 := rcap_b (4 * 2)
    have c1 := rcap_b (4 * 2 + 1)
    have c2 := rcap_b (4 * 2 + 2)
    have c3 := rcap_b (4 * 2 + 3)
    refine ⟨q0, q1, ⟨?_, z0.trans q2.symm, fun k k0 k1 => by omega⟩, ⟨?_, z1.trans q3.symm, fun k k0 k1 => by omega⟩, ⟨?_, z2.trans q4.symm, fun k k0 k1 => by omega⟩, ⟨?_, z3.trans q5.symm, fun k k0 k1 => by omega⟩⟩
    · unfold RW; omega
    · unfold RW; omega
    · unfold RW; omega
    · unfold RW; omega
  have o0 : OKc s2 s2 T n m 0 (fun j => if j = 0 then s2 0 0 2 0 else if j = 1 then s2 0 1 2 0 else 0) := ⟨fun _ _ _ _ _ => rfl, hT2, tk, (f2 5 2 0 0 (by omega)).trans e52, by omega, bare _ _ rfl rfl rfl rfl rfl rfl ((f2 6 2 _ 0 (by omega)).trans r0) ((f2 6 2 _ 0 (by omega)).trans r1) ((f2 6 2 _ 0 (by omega)).trans r2) ((f2 6 2 _ 0 (by omega)).trans r3)⟩
  have fin : ∀ s, FRc s2 s → FRt st s := fun s f K s' i j hK => (f K s' i j (by omega)).trans ((f2 K s' i j (by omega)).trans (f1 K s' i j (by omega)))
  have he' : ∀ c p s, E c p → ERc s2 s c p → Q 0 s := fun c p s e er => he c p s e (fin s er.1) er.2.1 er.2.2
  unfold sText sHead at k
  unfold f5_readHead
  refine W5_word (by omega) hn hn2 hB o0 (fun k s3 o3 => ⟨inI_1, fun z => absurd z (by omega), fun _ => ?_⟩) (fun c p s' e er => ⟨inI_0', fun _ => ⟨inI_0', fun _ => he' c p s' e er, fun z => absurd rfl z⟩, fun z => absurd rfl z⟩) k
  refine W5_num hn hn2 hB (inI_s (by omega) (by omega)) (inI_s (by omega) (by omega)) o3 (fun len len0 len1 _ _ k s4 o4 => ⟨inI_s (by omega) (by omega), fun z => absurd z (by omega), fun _ => ?_⟩) (fun c p s' e er => ⟨inI_s (by omega) (by omega), fun _ => ⟨inI_0', fun _ => he' c p s' e er, fun z => absurd rfl z⟩, fun z => absurd rfl z⟩) k
  refine W5_word (by omega) hn hn2 hB o4 (fun k s5 o5 => ⟨inI_1, fun z => absurd z (by omega), fun _ => ?_⟩) (fun c p s' e er => ⟨inI_0', fun _ => ⟨inI_0', fun _ => he' c p s' e er, fun z => absurd rfl z⟩, fun z => absurd rfl z⟩) k
  refine W5_num hn hn2 hB inI_1 (inI_s (by omega) (by omega)) o5 (fun mo mo0 mo1 _ _ k s6 o6 => ⟨inI_s (by omega) (by omega), fun z => absurd z (by omega), fun _ => ?_⟩) (fun c p s' e er => ⟨inI_s (by omega) (by omega), fun _ => ⟨inI_0', fun _ => he' c p s' e er, fun z => absurd rfl z⟩, fun z => absurd rfl z⟩) k
  rintro _ rfl _ rfl
  have b6 := o6.2.2.2.2.2
  have o7 : OKc s2 (up (up s6 0 0 2 0 len) 0 1 2 0 mo) T n m 4 (upA (upA (fun _ => 0) 0 len) 1 mo) := by
    refine o6.fr (fun K s i j hK => by rw [up_ne (by omega), up_ne (by omega)]) (by rw [up_ne (by omega), up_ne (by omega)]) (bare _ _ ?_ ?_ rfl rfl rfl rfl ?_ ?_ ?_ ?_)
    · rw [up_ne (by omega), up_eq, if_pos ⟨rfl, rfl, rfl, rfl⟩]; rfl
    · rw [up_eq, if_pos ⟨rfl, rfl, rfl, rfl⟩]; rfl
    · rw [up_ne (by omega), up_ne (by omega)]; exact b6.2.2.1.2.1
    · rw [up_ne (by omega), up_ne (by omega)]; exact b6.2.2.2.1.2.1
    · rw [up_ne (by omega), up_ne (by omega)]; exact b6.2.2.2.2.1.2.1
    · rw [up_ne (by omega), up_ne (by omega)]; exact b6.2.2.2.2.2.2.1
  have p7 : PV (upA (upA (fun _ => 0) 0 len) 1 mo) := by
    have z : ∀ j, ¬ j = 0 ∧ ¬ j = 1 → upA (upA (fun _ => 0) 0 len) 1 mo j = 0 := fun j hj => (upA_ne hj.2).trans (upA_ne hj.1)
    have z0 : upA (upA (fun _ => 0) 0 len) 1 mo 0 = len := rfl
    have z1 : upA (upA (fun _ => 0) 0 len) 1 mo 1 = mo := rfl
    have z2 := z 2 (by omega)
    have z3 := z 3 (by omega)
    have z4 := z 4 (by omega)
    have z5 := z 5 (by omega)
    exact ⟨by omega, by omega, by omega, by omega, by omega, by omega, fun k k0 k1 => by omega, fun k k0 k1 => by omega, ⟨fun k k0 k1 => by omega, fun k k0 k1 => by omega⟩, fun k k0 k1 => by omega, fun k k0 k1 => by omega⟩
  refine W5_semi hn hn2 o7 (fun k s8 o8 => ⟨Or.inr rfl, inI_1, fun z => absurd z (by omega), fun _ => ?_⟩) (fun c p s' e er => ⟨Or.inl rfl, inI_0', fun _ => he' c p s' e er, fun z => absurd rfl z⟩) k
  have tb := tkS_b (T := T) hn 5
  refine ⟨600, W5_loop hn hn2 hB (fun A s' kA ⟨t, o⟩ hp => ?_) he' 600 600 0 5 _ s8 o8 p7 (by omega) (by omega) (by omega) (by have := tk.2.1; omega) k⟩
  have b9 := o.2.2.2.2.2
  have a2 := hp.2.2.1
  have a3 := hp.2.2.2.1
  unfold f5_readText_j80 f5_checkHinges
  rw [b9.2.2.1.2.1]
  rintro _ rfl
  have bad : (A 2 < 2 ∨ ¬ A 3 = A 2 - 2) → f5_checkHinges_j32 (fun z24 st25 => (z24 = 0 ∨ z24 = 1) ∧ Q z24 st25) s' := fun q => by
    unfold f5_checkHinges_j32
    rw [o.2.1.1]
    exact W5_fail o (fun s2 er => ⟨Or.inl rfl, Or.inl rfl, he' _ _ s2 (kA.1 q) er⟩)
  refine ⟨inI_s (by omega) (by omega), fun c => bad (Or.inl c), fun c => ?_⟩
  rw [b9.2.2.2.1.2.1]
  refine ⟨inI_s (by omega) (by omega), inI_s (by omega) (by omega), fun d => ⟨Or.inr rfl, ?_⟩, fun d => bad (Or.inr d)⟩
  exact hk A s' (kA.2 (fun q => by omega)) (fin s' o.1) b9 hp (by omega) d
