/-! the reference reads statements -/
theorem kdX_3 {b : Int} : kdX b = 3 ↔ b = 59 := by
  constructor
  · intro q
    unfold kdX at q
    by_cases h : b = 59
    · exact h
    · exfalso
      repeat' split at q
      all_goals omega
  · rintro rfl
    decide
section S9
variable {st0 s : St} {T : Int → Int} {n : Int} {t : Nat} {A : Int → Int} {E : Int → Int → Prop}
theorem kdT_is {k : Int} (hk : ¬ k = 0) : kdT T n t = k ↔ tkS T n t < n ∧ kdX (T (tkS T n t)) = k := by
  unfold kdT
  by_cases c : tkS T n t < n
  · rw [if_pos c]; exact ⟨fun z => ⟨c, z⟩, fun z => z.2⟩
  · rw [if_neg c]; exact ⟨fun z => absurd z.symm hk, fun z => absurd z.1 c⟩
theorem W9_isWord {Q : Int → St → Prop} {w : Nat} (hw : w < 9) (hn : 0 ≤ n) (hn2 : n ≤ 500) (hB : TB T n) (h : RD st0 s T n t A) (h1 : isWp T n w t → Q 1 s) (h0 : ¬ isWp T n w t → Q 0 s) : f9_isWord w Q s := by
  obtain ⟨o1, o2, o3, o4, o5, o6, o7, o8⟩ := h
  have lw := wlen_b hw
  have m4 := mlen4
  have tb := tkS_b (T := T) hn t
  have te := tkE_b (T := T) tb.2
  have kb := kdT_b (T := T) (n := n) (t := t)
  unfold f9_isWord
  rw [o3, o5, o6, o7]
  refine ⟨inI_0', fun _ => ?_, fun z => absurd rfl z⟩
  have ik : inI (kd9 (kdT T n t)) := by
    unfold kd9
    repeat' split
    all_goals exact inI_s (by omega) (by omega)
  refine ⟨ik, fun e1 => ⟨inI_s (by omega) (by omega), inI_s (by omega) (by omega), fun e2 => ?_, fun e2 => h0 (fun q => e2 q.2.2.1)⟩, fun e1 => h0 (fun q => e1 ?_)⟩
  · have k1 : kdT T n t = 1 := by
      unfold kd9 at e1
      repeat' split at e1
      all_goals omega
    have k2 := (kdT_is (by omega)).1 k1
    have L : ∀ (f : Nat) (v : Int), 0 ≤ v → v ≤ wlen w → (∀ i, 0 ≤ i → i < v → T (tkS T n t + i) = wch w i) → wlen w - v < f → f9_isWord_l34 w Q f s v := by
      intro f
      induction f with
      | zero => intro v b1 b2 b3 b4; omega
      | succ f ih =>
        intro v b1 b2 b3 b4
        unfold f9_isWord_l34
        rw [o5]
        refine ⟨inI_s (by omega) (by omega), inI_s (by omega) (by omega), fun d => h1 ⟨k2.1, k2.2, e2, fun i i0 i1 => b3 i i0 (by omega)⟩, fun d => ⟨by omega, by omega, b1, by omega, ?_⟩⟩
        have hb := hB (tkS T n t + v) (by omega) (by omega)
        rw [o2.2 (tkS T n t + v) (by omega) (by omega)]
        refine ⟨inI_s (by omega) (by omega), inI_toInt _, fun e => ?_, fun e => h0 (fun q => e (q.2.2.2 v b1 (by omega)))⟩
        rintro _ rfl
        refine ih (v + 1) (by omega) (by omega) (fun i i0 i1 => ?_) (by omega)
        by_cases g : i = v
        · rw [g]; exact e
        · exact b3 i i0 (by omega)
    exact ⟨200, L 200 0 (by omega) (by omega) (fun i i0 i1 => by omega) (by omega)⟩
  · rw [(kdT_is (k := 1) (by omega)).2 ⟨q.1, q.2.1⟩]
    rfl
theorem W9_must1 {Q : St → Prop} (hn : 0 ≤ n) (hn2 : n ≤ 500) (hB : TB T n) (h : RD st0 s T n t A) (hq : ∀ s', RD st0 s' T n (t + 1) A → Q s') : f9_must Q s 1 := by
  unfold f9_must f9_must_j10
  rw [h.2.2.1]
  exact ⟨inI_1, fun z => absurd z (by omega), fun _ => ⟨inI_0', fun _ => h.nx hB hn hn2 hq, fun z => absurd rfl z⟩⟩
theorem W9_must0 {Q : St → Prop} (hn : 0 ≤ n) (h : RD st0 s T n t A) (hq : ∀ s', RX st0 s' T n (-2) (tkS T n t) → Q s') : f9_must Q s 0 := by
  unfold f9_must
  refine ⟨inI_0', fun _ => W9_fails (by omega) (inI_s (by omega) (by omega)) hn h (fun s' x => ?_), fun z => absurd rfl z⟩
  have hx := hq s' x
  obtain ⟨h1, h2, h3, h4, h5, h6, h7, h8⟩ := x
  unfold f9_must_j10
  rw [h3]
  exact ⟨h5, fun z => absurd z h4, fun _ => hx⟩
theorem W9_mustWord {Q : St → Prop} {w : Nat} {K : Prop} (hw : w < 9) (hn : 0 ≤ n) (hn2 : n ≤ 500) (hB : TB T n) (h : RD st0 s T n t A) (hk : K → ∀ s', RD st0 s' T n (t + 1) A → Q s') (he : ∀ c p s', E c p → RX st0 s' T n c p → Q s') (k : sWord T n w t K E) : f9_isWord w (fun z st => f9_must Q st z) s :=
  W9_isWord hw hn hn2 hB h (fun c => W9_must1 hn hn2 hB h (hk (k.1 c))) (fun c => W9_must0 hn h (fun s' x => he _ _ s' (k.2 c) x))
theorem kd9_i {k : Int} : inI (kd9 k) := by
  unfold kd9
  repeat' split
  all_goals exact inI_s (by omega) (by omega)
/-- a number that stands here -/
theorem W9_stands {Q : Int → St → Prop} {lo hi : Int} {K : Int → Prop} (hn : 0 ≤ n) (hB : TB T n) (hlo : inI lo) (hhi : inI hi) (h : RD st0 s T n t A) (hk : ∀ v, lo ≤ v → v ≤ hi → 0 ≤ v → v ≤ 10000000 → K v → Q v s) (he : ∀ c p s', E c p → RX st0 s' T n c p → Q 0 s') (k : sNum T n lo hi t K E) : f9_stands Q s lo hi := by
  have h' := h
  obtain ⟨o1, o2, o3, o4, o5, o6, o7, o8⟩ := h
  have kb := kdT_b (T := T) (n := n) (t := t)
  have X : ∀ c p s', E c p → RX st0 s' T n c p → f9_stands_j46 Q s' := fun c p s' e x => by
    have hx := he c p s' e x
    obtain ⟨h1, h2, h3, h4, h5, h6, h7, h8⟩ := x
    unfold f9_stands_j46
    rw [h3]
    exact ⟨h5, fun z => absurd z h4, fun _ => hx⟩
  unfold f9_stands
  rw [o3, o7]
  refine ⟨inI_0', fun _ => ⟨kd9_i, fun c => ?_, fun c => ?_⟩, fun z => absurd rfl z⟩
  · have k2 : kdT T n t = 2 := by
      unfold kd9 at c
      repeat' split at c
      all_goals omega
    have k1 := k.1 k2
    have vb := vaT_b (t := t) hB hn
    unfold f9_stands_j21
    rw [o3, o8 k2]
    refine ⟨inI_0', fun _ => ?_, fun z => absurd rfl z⟩
    refine W9_isIn (inI_s (by omega) (by omega)) hlo hhi ?_
    by_cases d : lo ≤ vaT T n t ∧ vaT T n t ≤ hi
    · rw [if_pos d]
      refine ⟨inI_1, fun z => absurd z (by omega), fun _ => ?_⟩
      unfold f9_stands_j46
      rw [o3, o8 k2]
      exact ⟨inI_0', fun _ => hk _ d.1 d.2 vb.1 vb.2 (k1.1 d), fun z => absurd rfl z⟩
    · rw [if_neg d]
      exact ⟨inI_0', fun _ => W9_fails (by omega) (inI_s (by omega) (by omega)) hn h' (fun s' x => X _ _ s' (k1.2 d) x), fun z => absurd rfl z⟩
  · have k2 : ¬ kdT T n t = 2 := fun z => c (by rw [z]; rfl)
    refine W9_fails (by omega) (inI_s (by omega) (by omega)) hn h' (fun s' x => ?_)
    have j := X _ _ s' (k.2 k2) x
    obtain ⟨h1, h2, h3, h4, h5, h6, h7, h8⟩ := x
    unfold f9_stands_j21
    rw [h3]
    exact ⟨h5, fun z => absurd z h4, fun _ => j⟩
theorem W9_takes {Q : Int → St → Prop} {lo hi : Int} {K : Int → Prop} (hn : 0 ≤ n) (hn2 : n ≤ 500) (hB : TB T n) (hlo : inI lo) (hhi : inI hi) (h : RD st0 s T n t A) (hk : ∀ v, lo ≤ v → v ≤ hi → 0 ≤ v → v ≤ 10000000 → K v → ∀ s', RD st0 s' T n (t + 1) A → Q v s') (he : ∀ c p s', E c p → RX st0 s' T n c p → Q 0 s') (k : sNum T n lo hi t K E) : f9_takes Q s lo hi := by
  unfold f9_takes
  refine W9_stands hn hB hlo hhi h (fun v v0 v1 v2 v3 kv => ?_) (fun c p s' e x => ?_) k
  · rw [h.2.2.1]
    exact ⟨inI_0', fun _ => h.nx hB hn hn2 (fun s' r => hk v v0 v1 v2 v3 kv s' r), fun z => absurd rfl z⟩
  · have hx := he c p s' e x
    obtain ⟨h1, h2, h3, h4, h5, h6, h7, h8⟩ := x
    rw [h3]
    exact ⟨h5, fun z => absurd z h4, fun _ => hx⟩
theorem W9_mustEnd {Q : St → Prop} {K : Prop} (hn : 0 ≤ n) (hn2 : n ≤ 500) (hB : TB T n) (h : RD st0 s T n t A) (hk : K → ∀ s', RD st0 s' T n (t + 1) A → Q s') (he : ∀ c p s', E c p → RX st0 s' T n c p → Q s') (k : sSemi T n t K E) : f9_mustEnd Q s := by
  have h' := h
  obtain ⟨o1, o2, o3, o4, o5, o6, o7, o8⟩ := h
  have tb := tkS_b (T := T) hn t
  have kb := kdT_b (T := T) (n := n) (t := t)
  have bad : ¬ kdT T n t = 3 → f9_mustEnd_j26 Q s := fun c => by
    unfold f9_mustEnd_j26 f9_mustEnd_j27
    exact W9_must0 hn h' (fun s' x => he _ _ s' (k.2 c) x)
  unfold f9_mustEnd
  rw [o7, o5]
  refine ⟨kd9_i, fun c => ?_, fun c => bad (fun z => c (by rw [z]; rfl))⟩
  have k0 : ¬ kdT T n t = 0 := fun z => by
    rw [z] at c
    exact absurd c (by decide)
  have lt := kdT_lt k0
  refine W9_see o2 hn hn2 tb.1 (by omega) (fun d => ?_) (fun d => absurd lt (by omega))
  have hb := hB _ tb.1 d
  refine ⟨inI_s (by omega) (by omega), fun e => ?_, fun e => bad (fun z => e (kdX_3.1 ((kdT_is (by omega)).1 z).2))⟩
  unfold f9_mustEnd_j27
  exact W9_must1 hn hn2 hB h' (hk (k.1 ((kdT_is (by omega)).2 ⟨lt, kdX_3.2 e⟩)))
theorem W9_begins {Q : St → Prop} {c cap : Int} {K : Prop} (hn : 0 ≤ n) (hn2 : n ≤ 500) (hB : TB T n) (h : RD st0 s T n t A) (c0 : 0 ≤ c) (c1 : c < 47) (ia : inI (A c)) (ic : inI cap) (hk : ¬ A c = cap → K → ∀ s', RD st0 s' T n (t + 1) A → Q s') (he : ∀ c p s', E c p → RX st0 s' T n c p → Q s') (k : sName T n (A c = cap) t K E) : f9_begins Q s c cap := by
  have m0 := mlen0
  have e : s 30 0 0 c = A c := congrFun h.2.2.2.1 c
  unfold f9_begins f9_begins_j16
  rw [e]
  refine ⟨c0, by omega, ia, ic, fun q => ?_, fun q => W9_must1 hn hn2 hB h (hk q (k.2 q))⟩
  exact W9_fails (by omega) (inI_s (by omega) (by omega)) hn h (fun s' x => X_must inI_1 x (he _ _ s' (k.1 q) x))
theorem W9_takesPlace {Q : Int → St → Prop} {lo hi : Int} {K : Int → Prop} (hn : 0 ≤ n) (hn2 : n ≤ 500) (hB : TB T n) (hlo : inI lo) (hhi : inI hi) (h : RD st0 s T n t A) (hP : PV A) (hk : ∀ v, lo ≤ v → v ≤ hi → ¬ taken A v → K v → ∀ s', RD st0 s' T n (t + 1) A → Q v s') (he : ∀ c p v s', E c p → RX st0 s' T n c p → Q v s') (k : sFree T n A lo hi t K E) : f9_takesPlace Q s lo hi := by
  have a2 := hP.2.2.1
  have a3 := hP.2.2.2.1
  unfold f9_takesPlace
  unfold sFree at k
  refine W9_stands hn hB hlo hhi h (fun v v0 v1 v2 v3 kv => ?_) (fun c p s' e x => ?_) k
  · have iv : inI v := inI_s (by omega) (by omega)
    rw [h.2.2.1]
    refine ⟨inI_0', fun _ => ?_, fun z => absurd rfl z⟩
    have yes : taken A v → f9_takesPlace_j32 Q s v := fun q => by
      unfold f9_takesPlace_j32
      refine W9_fails (by omega) (inI_s (by omega) (by omega)) hn h (fun s' x => ?_)
      have hx := he _ _ v s' (kv.1 q) x
      obtain ⟨h1, h2, h3, h4, h5, h6, h7, h8⟩ := x
      unfold f9_takesPlace_j38
      rw [h3]
      exact ⟨h5, fun z => absurd z h4, fun _ => hx⟩
    refine W9_supportAt h.2.2.2.1 a2 hP.iS.1 iv (fun i i0 i1 ei _ => ?_) (fun es => ?_)
    · exact ⟨inI_s (by omega) (by omega), fun z => absurd z (by omega), fun _ => yes (Or.inl ⟨i, i0, i1, ei⟩)⟩
    · refine ⟨inI_s (by omega) (by omega), fun _ => ?_, fun z => absurd rfl z⟩
      refine W9_hingeAt h.2.2.2.1 a3 hP.iS.2 iv (fun i i0 i1 ei _ => ?_) (fun eh => ?_)
      · exact ⟨inI_s (by omega) (by omega), fun z => absurd z (by omega), fun _ => yes (Or.inr ⟨i, i0, i1, ei⟩)⟩
      · have nt : ¬ taken A v := fun q => by
          rcases q with ⟨i, i0, i1, e⟩ | ⟨i, i0, i1, e⟩
          · exact es i i0 i1 e
          · exact eh i i0 i1 e
        refine ⟨inI_s (by omega) (by omega), fun _ => ?_, fun z => absurd rfl z⟩
        unfold f9_takesPlace_j38
        rw [h.2.2.1]
        exact ⟨inI_0', fun _ => h.nx hB hn hn2 (fun s' r => hk v v0 v1 nt (kv.2 nt) s' r), fun z => absurd rfl z⟩
  · have hx := he c p 0 s' e x
    obtain ⟨h1, h2, h3, h4, h5, h6, h7, h8⟩ := x
    rw [h3]
    refine ⟨h5, fun z => absurd z h4, fun _ => ?_⟩
    unfold f9_takesPlace_j38
    rw [h3]
    exact ⟨h5, fun z => absurd z h4, fun _ => hx⟩
theorem RD.put {s' : St} {A' : Int → Int} (h : RD st0 s T n t A) (f : FA s s') (e : aM s' = A') : RD st0 s' T n t A' := by
  obtain ⟨o1, o2, o3, o4, o5, o6, o7, o8⟩ := h
  exact ⟨fun K s2 i j hK => (f K s2 i j (by omega)).trans (o1 K s2 i j hK), o2.fr (fun K s2 i j hK => f K s2 i j (by omega)), (f 9 13 0 0 (by omega)).trans o3, e, (f 9 9 0 0 (by omega)).trans o5, (f 9 10 0 0 (by omega)).trans o6, (f 9 11 0 0 (by omega)).trans o7, fun k => (f 9 12 0 0 (by omega)).trans (o8 k)⟩
theorem W9_readsSupport {Q : St → Prop} {K : Nat → (Int → Int) → Prop} (hn : 0 ≤ n) (hn2 : n ≤ 500) (hB : TB T n) (h : RD st0 s T n t A) (hP : PV A) (hk : ∀ t' A', t < t' → K t' A' → ∀ s', RD st0 s' T n t' A' → PV A' → Q s') (he : ∀ c p s', E c p → RX st0 s' T n c p → Q s') (k : sSupport T n A t K E) : f9_readsSupport Q s := by
  have l3 := hP.1
  have a2 := hP.2.2.1
  have put : ∀ (t : Nat) (v b : Int) (s : St), RD st0 s T n t A → ¬ A 2 = 5 → 0 ≤ v → v ≤ A 0 → -1 ≤ b → b ≤ 99999 → ¬ taken A v → (K (t + 1) (putS A v b) → ∀ s', RD st0 s' T n (t + 1) (putS A v b) → PV (putS A v b) → Q s') → sSemi T n t (K (t + 1) (putS A v b)) E → f9_readsSupport_j41 Q s v b := fun t v b s h nf v0 v1 b0 b1 nt hk k => by
    unfold f9_readsSupport_j41
    refine W9_mustEnd hn hn2 hB h (fun q s1 r1 => ?_) (fun c p s' e x => ?_) k
    · rw [r1.2.2.1]
      refine ⟨inI_0', fun _ => ?_, fun z => absurd rfl z⟩
      refine W9_addsSupport r1.2.2.2.1 a2.1 (by omega) hP.iS.1 (inI_s (by omega) (by omega)) (fun k k0 k1 => by have := hP.2.2.2.2.2.2.2.1 k k0 k1; omega) (fun s2 f2 e2 => ?_)
      exact hk q s2 (r1.put f2 e2) (hP.putS nf v0 v1 b0 b1 nt)
    · have hx := he c p s' e x
      obtain ⟨h1, h2, h3, h4, h5, h6, h7, h8⟩ := x
      rw [h3]
      exact ⟨h5, fun z => absurd z h4, fun _ => hx⟩
  have pX : ∀ c p s' v b, E c p → RX st0 s' T n c p → f9_readsSupport_j41 Q s' v b := fun c p s' v b e x => by
    unfold f9_readsSupport_j41
    refine X_mustEnd hB hn hn2 x ?_
    have hx := he c p s' e x
    obtain ⟨h1, h2, h3, h4, h5, h6, h7, h8⟩ := x
    rw [h3]
    exact ⟨h5, fun z => absurd z h4, fun _ => hx⟩
  unfold f9_readsSupport
  refine W9_begins hn hn2 hB h (by omega) (by omega) (inI_s (by omega) (by omega)) (inI_s (by omega) (by omega)) (fun nf k1 s1 r1 => ?_) (fun c p s' e x => ?_) k
  · have e0 : s1 30 0 0 0 = A 0 := congrFun r1.2.2.2.1 0
    rw [e0]
    refine W9_takesPlace hn hn2 hB inI_0' (inI_s (by omega) (by omega)) r1 hP (fun v v0 v1 nt k2 s2 r2 => ?_) (fun c p v s' e x => ?_) k1
    · refine W9_isWord (by omega) hn hn2 hB r2 (fun q => ⟨inI_1, fun z => absurd z (by omega), fun _ => ?_⟩) (fun q => ⟨inI_0', fun _ => ?_, fun z => absurd rfl z⟩)
      · refine r2.nx hB hn hn2 (fun s3 r3 => ?_)
        refine W9_takes hn hn2 hB inI_1 (inI_s (by omega) (by omega)) r3 (fun b b0 b1 _ _ k3 s4 r4 => ?_) (fun c p s' e x => pX c p s' v 0 e x) (k2.1 q)
        exact put (t + 4) v b s4 r4 nf v0 v1 (by omega) b1 nt (fun q s' r hp => hk (t + 5) _ (by omega) q s' r hp) k3
      · exact put (t + 2) v (-1) s2 r2 nf v0 v1 (by omega) (by omega) nt (fun q s' r hp => hk (t + 3) _ (by omega) q s' r hp) (k2.2 q)
    · exact X_isWord x ⟨inI_0', fun _ => pX c p s' v (-1) e x, fun z => absurd rfl z⟩
  · refine X_takesPlace x ?_
    exact X_isWord x ⟨inI_0', fun _ => pX c p s' 0 (-1) e x, fun z => absurd rfl z⟩
theorem W9_readsHinge {Q : St → Prop} {K : Nat → (Int → Int) → Prop} (hn : 0 ≤ n) (hn2 : n ≤ 500) (hB : TB T n) (h : RD st0 s T n t A) (hP : PV A) (hk : ∀ t' A', t < t' → K t' A' → ∀ s', RD st0 s' T n t' A' → PV A' → Q s') (he : ∀ c p s', E c p → RX st0 s' T n c p → Q s') (k : sHinge T n A t K E) : f9_readsHinge Q s := by
  have l3 := hP.1
  have a3 := hP.2.2.2.1
  have fX : ∀ c p s' v, E c p → RX st0 s' T n c p → inI (s' 9 13 0 0) ∧ ((s' 9 13 0 0 = 0 → f9_addsHinge (fun st10 => Q st10) s' v) ∧ (¬ s' 9 13 0 0 = 0 → Q s')) := fun c p s' v e x => by
    have hx := he c p s' e x
    obtain ⟨h1, h2, h3, h4, h5, h6, h7, h8⟩ := x
    rw [h3]
    exact ⟨h5, fun z => absurd z h4, fun _ => hx⟩
  unfold f9_readsHinge
  refine W9_begins hn hn2 hB h (by omega) (by omega) (inI_s (by omega) (by omega)) (inI_s (by omega) (by omega)) (fun nf k1 s1 r1 => ?_) (fun c p s' e x => ?_) k
  · have e0 : s1 30 0 0 0 = A 0 := congrFun r1.2.2.2.1 0
    rw [e0]
    refine W9_takesPlace hn hn2 hB inI_1 (inI_s (by omega) (by omega)) r1 hP (fun v v0 v1 nt k2 s2 r2 => ?_) (fun c p v s' e x => X_mustEnd hB hn hn2 x (fX c p s' v e x)) k1
    refine W9_mustEnd hn hn2 hB r2 (fun q s3 r3 => ?_) (fun c p s' e x => fX c p s' v e x) k2
    rw [r3.2.2.1]
    refine ⟨inI_0', fun _ => ?_, fun z => absurd rfl z⟩
    refine W9_addsHinge r3.2.2.2.1 a3.1 (by omega) hP.iS.2 (inI_s (by omega) (by omega)) (fun k k0 k1 => by have := hP.2.2.2.2.2.2.2.2.1.2 k k0 k1; omega) (fun s4 f4 e4 => ?_)
    exact hk (t + 3) _ (by omega) q s4 (r3.put f4 e4) (hP.putH nf v0 v1 nt)
  · exact X_takesPlace x (X_mustEnd hB hn hn2 x (fX c p s' 0 e x))
theorem W9_readsPair {Q : St → Prop} {K : Nat → (Int → Int) → Prop} {c cap i hi : Int} {w : Nat} (hn : 0 ≤ n) (hn2 : n ≤ 500) (hB : TB T n) (h : RD st0 s T n t A) (hw : w < 9) (hhi : inI hi) (hc : 4 ≤ c ∧ c ≤ 5) (hi0 : 19 ≤ i) (ha : 0 ≤ A c ∧ A c ≤ cap) (hcap : i + 2 * cap ≤ 47 ∧ cap ≤ 8) (hP : ∀ x y, ¬ A c = cap → 1 ≤ x → x ≤ 999 → 0 ≤ y → y ≤ hi → PV (addA A i c x y)) (hk : ∀ t' A', t < t' → K t' A' → ∀ s', RD st0 s' T n t' A' → PV A' → Q s') (he : ∀ c p s', E c p → RX st0 s' T n c p → Q s') (k : sPair T n A c cap i w hi t K E) : f9_readsPair w Q s c cap i hi := by
  have m0 := mlen0
  unfold f9_readsPair
  have tail : ∀ c' p s' (F : Prop), E c' p → RX st0 s' T n c' p → inI (s' 9 13 0 0) ∧ ((s' 9 13 0 0 = 0 → F) ∧ (¬ s' 9 13 0 0 = 0 → Q s')) := fun c' p s' F e x => by
    have hx := he c' p s' e x
    obtain ⟨h1, h2, h3, h4, h5, h6, h7, h8⟩ := x
    rw [h3]
    exact ⟨h5, fun z => absurd z h4, fun _ => hx⟩
  refine W9_begins hn hn2 hB h (by omega) (by omega) (inI_s (by omega) (by omega)) (inI_s (by omega) (by omega)) (fun nf k1 s1 r1 => ?_) (fun c' p s' e x => ?_) k
  · refine W9_takes hn hn2 hB inI_1 (inI_s (by omega) (by omega)) r1 (fun x x0 x1 _ _ k2 s2 r2 => ?_) (fun c' p s' e x => ?_) k1
    · refine W9_mustWord hw hn hn2 hB r2 (fun k3 s3 r3 => ?_) (fun c' p s' e x => ?_) k2
      · refine W9_takes hn hn2 hB inI_0' hhi r3 (fun y y0 y1 _ _ k4 s4 r4 => ?_) (fun c' p s' e x => ?_) k3
        · refine W9_mustEnd hn hn2 hB r4 (fun q s5 r5 => ?_) (fun c' p s' e x => tail c' p s' _ e x) k4
          have ec : s5 30 0 0 c = A c := congrFun r5.2.2.2.1 c
          rw [r5.2.2.1, ec]
          refine ⟨inI_0', fun _ => ⟨by omega, by omega, by omega, by omega, ?_⟩, fun z => absurd rfl z⟩
          rintro _ rfl
          have e1 : up s5 30 0 0 (i + 2 * A c) x 30 0 0 c = A c := (up_ne (by omega)).trans ec
          rw [e1]
          refine ⟨by omega, by omega, by omega, by omega, ?_⟩
          rintro _ rfl
          have e2 : up (up s5 30 0 0 (i + 2 * A c) x) 30 0 0 (i + 2 * A c + 1) y 30 0 0 c = A c := (up_ne (by omega)).trans e1
          rw [e2]
          refine ⟨by omega, by omega, by omega, by omega, ?_⟩
          rintro _ rfl
          refine hk (t + 5) _ (by omega) q _ (r5.put (((FA.rf.up (by omega) (by omega)).up (by omega) (by omega)).up (by omega) (by omega)) ?_) (hP x y nf x0 x1 y0 y1)
          funext j
          have eA : s5 30 0 0 j = A j := congrFun r5.2.2.2.1 j
          show up (up (up s5 30 0 0 (i + 2 * A c) x) 30 0 0 (i + 2 * A c + 1) y) 30 0 0 c (A c + 1) 30 0 0 j = addA A i c x y j
          rw [up_eq, up_eq, up_eq]
          unfold addA
          by_cases q1 : j = c
          · rw [if_pos ⟨rfl, rfl, rfl, q1⟩, if_pos q1]
          · rw [if_neg (fun z => q1 z.2.2.2), if_neg q1]
            by_cases q2 : j = i + 2 * A c + 1
            · rw [if_pos ⟨rfl, rfl, rfl, q2⟩, if_pos q2]
            · rw [if_neg (fun z => q2 z.2.2.2), if_neg q2]
              by_cases q3 : j = i + 2 * A c
              · rw [if_pos ⟨rfl, rfl, rfl, q3⟩, if_pos q3]
              · rw [if_neg (fun z => q3 z.2.2.2), if_neg q3]
                exact eA
        · exact X_mustEnd hB hn hn2 x (tail c' p s' _ e x)
      · exact X_takes x (X_mustEnd hB hn hn2 x (tail c' p s' _ e x))
    · exact X_isWord x (X_must inI_0' x (X_takes x (X_mustEnd hB hn hn2 x (tail c' p s' _ e x))))
  · exact X_takes x (X_isWord x (X_must inI_0' x (X_takes x (X_mustEnd hB hn hn2 x (tail c' p s' _ e x)))))
theorem W9_noStmt {Q : Int → St → Prop} (hn : 0 ≤ n) (hn2 : n ≤ 500) (hB : TB T n) (h : RD st0 s T n t A) (hk : kdT T n t = 0) (hq : Q 0 s) : f9_readsStatement Q s := by
  have no : ∀ w, ¬ isWp T n w t := fun w q => by
    have := (kdT_is (k := 1) (by omega)).2 ⟨q.1, q.2.1⟩
    omega
  unfold f9_readsStatement
  refine W9_isWord (by omega) hn hn2 hB h (fun c => absurd c (no _)) (fun _ => ⟨inI_0', fun _ => ?_, fun z => absurd rfl z⟩)
  refine W9_isWord (by omega) hn hn2 hB h (fun c => absurd c (no _)) (fun _ => ⟨inI_0', fun _ => ?_, fun z => absurd rfl z⟩)
  refine W9_isWord (by omega) hn hn2 hB h (fun c => absurd c (no _)) (fun _ => ⟨inI_0', fun _ => ?_, fun z => absurd rfl z⟩)
  exact W9_isWord (by omega) hn hn2 hB h (fun c => absurd c (no _)) (fun _ => ⟨inI_0', fun _ => hq, fun z => absurd rfl z⟩)
theorem W9_stmt {Q : Int → St → Prop} {K : Nat → (Int → Int) → Prop} (hn : 0 ≤ n) (hn2 : n ≤ 500) (hB : TB T n) (h : RD st0 s T n t A) (hP : PV A) (hk : ∀ t' A', t < t' → K t' A' → ∀ s', RD st0 s' T n t' A' → PV A' → Q 1 s') (he : ∀ c p s', E c p → RX st0 s' T n c p → Q 0 s') (ho : E (-2) (tkS T n t) → Q 0 s) (k : sStmt T n A t K E) : f9_readsStatement Q s := by
  have l3 := hP.1
  have a4 := hP.2.2.2.2.1
  have a5 := hP.2.2.2.2.2.1
  have y : ∀ t' A', t < t' → K t' A' → ∀ s', RD st0 s' T n t' A' → PV A' → f9_readsStatement_j88 Q s' := fun t' A' lt q s' r hp => by
    unfold f9_readsStatement_j88
    rw [r.2.2.1]
    exact ⟨inI_0', fun _ => hk t' A' lt q s' r hp, fun z => absurd rfl z⟩
  have x : ∀ c p s', E c p → RX st0 s' T n c p → f9_readsStatement_j88 Q s' := fun c p s' e x => by
    have hx := he c p s' e x
    obtain ⟨h1, h2, h3, h4, h5, h6, h7, h8⟩ := x
    unfold f9_readsStatement_j88
    rw [h3]
    exact ⟨h5, fun z => absurd z h4, fun _ => hx⟩
  unfold f9_readsStatement
  refine W9_isWord (by omega) hn hn2 hB h (fun c => ⟨inI_1, fun z => absurd z (by omega), fun _ => W9_readsSupport hn hn2 hB h hP y x (k.1 c)⟩) (fun c => ⟨inI_0', fun _ => ?_, fun z => absurd rfl z⟩)
  have k := k.2 c
  refine W9_isWord (by omega) hn hn2 hB h (fun c => ⟨inI_1, fun z => absurd z (by omega), fun _ => W9_readsHinge hn hn2 hB h hP y x (k.1 c)⟩) (fun c => ⟨inI_0', fun _ => ?_, fun z => absurd rfl z⟩)
  have k := k.2 c
  refine W9_isWord (by omega) hn hn2 hB h (fun c => ⟨inI_1, fun z => absurd z (by omega), fun _ => ?_⟩) (fun c => ⟨inI_0', fun _ => ?_, fun z => absurd rfl z⟩)
  · have e0 : s 30 0 0 0 = A 0 := congrFun h.2.2.2.1 0
    rw [e0]
    exact W9_readsPair hn hn2 hB h (by omega) (inI_s (by omega) (by omega)) (by omega) (by omega) a4 (by omega) (fun x y nf x0 x1 y0 y1 => hP.load nf x0 x1 y0 y1) y x (k.1 c)
  have k := k.2 c
  refine W9_isWord (by omega) hn hn2 hB h (fun c => ⟨inI_1, fun z => absurd z (by omega), fun _ => ?_⟩) (fun c => ⟨inI_0', fun _ => ho (k.2 c), fun z => absurd rfl z⟩)
  exact W9_readsPair hn hn2 hB h (by omega) (inI_s (by omega) (by omega)) (by omega) (by omega) a5 (by omega) (fun x y nf x0 x1 y0 y1 => hP.axle nf x0 x1 y0 y1) y x (k.1 c)
end S9
