/-! Euclid's way with a bound on its steps; the lines shortened -/
theorem common3_l3 {Q : Int → St → Prop} {st : St} : ∀ (m : Nat) (v w c : Int) (f : Nat), 0 ≤ v → v ≤ 1000000000000000000 → 0 ≤ w → w < 2 ^ m → w ≤ 1000000000000000000 → 0 ≤ c → c + 2 * m < 100 → 2 * m < f → Q (cg v w) st → f3_commonDivisor_l3 Q f st v w c := by
  intro m
  induction m with
  | zero =>
    intro v w c f h1 h2 h3 h4 h5 h6 h7 h8 h
    obtain ⟨f, rfl⟩ : ∃ g, f = g + 1 := ⟨f - 1, by omega⟩
    have hw : w = 0 := by
      have : (2 : Int) ^ 0 = 1 := rfl
      omega
    subst hw
    rw [cg_zero h1] at h
    unfold f3_commonDivisor_l3
    exact ⟨inI_s (by omega) (by omega), fun _ => h, fun _ => ⟨inL_s (by omega) (by omega), fun _ => h, fun e => absurd rfl e⟩⟩
  | succ m ih =>
    intro v w c f h1 h2 h3 h4 h5 h6 h7 h8 h
    obtain ⟨f, rfl⟩ : ∃ g, f = g + 1 := ⟨f - 1, by omega⟩
    unfold f3_commonDivisor_l3
    refine ⟨inI_s (by omega) (by omega), fun e => absurd e (by omega), fun _ => ⟨inL_s (by omega) (by omega), fun e => ?_, fun e => ⟨inL_s (by omega) (by omega), inL_s (by omega) (by omega), e, ?_⟩⟩⟩
    · rw [e, cg_zero h1] at h
      exact h
    · rintro _ rfl _ rfl
      have hp : 0 < w := by omega
      have b1 := Int.tmod_nonneg w h1
      have b2 := Int.tmod_lt_of_pos v hp
      have hq : Q (cg w (Int.tmod v w)) st := by rw [cg_tmod h1 hp]; exact h
      obtain ⟨f, rfl⟩ : ∃ g, f = g + 1 := ⟨f - 1, by omega⟩
      unfold f3_commonDivisor_l3
      refine ⟨inI_s (by omega) (by omega), fun e => absurd e (by omega), fun _ => ⟨inL_s (by omega) (by omega), fun e2 => ?_, fun e2 => ⟨inL_s (by omega) (by omega), inL_s (by omega) (by omega), e2, ?_⟩⟩⟩
      · rw [e2, cg_zero (by omega)] at hq
        exact hq
      · rintro _ rfl _ rfl
        have hp2 : 0 < Int.tmod v w := by omega
        have d1 := Int.tmod_nonneg (Int.tmod v w) h3
        have d2 := Int.tmod_lt_of_pos w hp2
        have d3 := Int.mul_tdiv_add_tmod w (Int.tmod v w)
        have d4 : Int.tmod v w * 1 ≤ Int.tmod v w * Int.tdiv w (Int.tmod v w) := by
          refine Int.mul_le_mul_of_nonneg_left ?_ (by omega)
          have := Int.tdiv_nonneg h3 b1
          have : ¬ Int.tdiv w (Int.tmod v w) = 0 := fun z => by
            rw [z, Int.mul_zero] at d3
            omega
          omega
        have d5 : (2 : Int) ^ (m + 1) = 2 ^ m * 2 := Int.pow_succ 2 m
        refine ih _ _ _ f (by omega) (by omega) d1 (by omega) (by omega) (by omega) (by omega) (by omega) ?_
        rw [cg_tmod h3 hp2]
        exact hq
theorem W3_common {Q : Int → St → Prop} {st : St} {a b : Int} (h1 : 0 ≤ a) (h2 : a ≤ 1000000000000000000) (h3 : 0 ≤ b) (h4 : b ≤ 2916000000) (h : Q (cg a b) st) : f3_commonDivisor Q st a b := by
  unfold f3_commonDivisor
  exact ⟨100, common3_l3 33 a b 0 100 h1 h2 h3 (by omega) (by omega) (by omega) (by omega) (by omega) h⟩
theorem iabs_nn (a : Int) : 0 ≤ iabs a := by unfold iabs; split <;> omega
theorem iabs_n {a : Int} (h : 0 ≤ a) : iabs a = a := by unfold iabs; split <;> omega
theorem iabs_b {a B : Int} (h1 : -B ≤ a) (h2 : a ≤ B) : iabs a ≤ B := by unfold iabs; split <;> omega
theorem iabs_neg (a : Int) : iabs (-a) = iabs a := by unfold iabs; split <;> split <;> omega
theorem iabs_sg {s a : Int} (h : s = 1 ∨ s = -1) : iabs (s * a) = iabs a := by
  rcases h with rfl | rfl
  · rw [Int.one_mul]
  · rw [Int.neg_mul, Int.one_mul, iabs_neg]
theorem cg_iabs (a b : Int) : cg (iabs a) (iabs b) = cg a b := by
  unfold iabs
  split <;> split <;> simp only [cg_neg_l, cg_neg_r]
theorem gAll_B {A : Int → Int} (hA : VC A) (hD : ¬ DA A (-1) 0 = 0) : ∀ m, gB (gAll A m)
  | 0 => ⟨hD, DA_b hA (by omega) (by omega)⟩
  | m + 1 => gB_R (gAll_B hA hD m) _
theorem gA_nn {A : Int → Int} (hA : VC A) : 0 ≤ gA A := by
  unfold gA
  rw [show (A 2).toNat = ((A 2).toNat - 1) + 1 by have := hA.2.2.1; omega]
  unfold gAll
  rw [show (A 0 + 1).toNat = (A 0).toNat + 1 by have := hA.1; omega]
  unfold gR
  exact cg_nonneg _ _
def F3 (o : Int) (st st' : St) : Prop := ∀ K s i j, ¬ ((K = 20 ∧ 5 * o ≤ i ∧ i < 5 * o + 5) ∨ K = 18 ∨ (K = 3 ∧ i = o)) → st' K s i j = st K s i j
theorem F3.of20 {o : Int} {a b c : St} (h : F3 o a b) (g : F20 o b c) : F3 o a c := fun K s i j hK => (g K s i j (fun q => hK (Or.inl q))).trans (h K s i j hK)
theorem F3.of18 {o : Int} {a b c : St} (h : F3 o a b) (g : F18 b c) : F3 o a c := fun K s i j hK => (g K s i j (fun q => hK (Or.inr (Or.inl q)))).trans (h K s i j hK)
theorem F3.up3 {o : Int} {st0 st : St} {s : Nat} {j v : Int} (h : F3 o st0 st) : F3 o st0 (up st 3 s o j v) := fun K s' i' j' hK => by rw [up_ne (by omega)]; exact h K s' i' j' hK
theorem F3.rf {o : Int} {st : St} : F3 o st st := fun _ _ _ _ _ => rfl
/-- the lines divided -/
theorem short_l93 {o b : Int} {A : Int → Int} {V : Int → Int → Int} {Q : St → Prop} {st : St} {d : Int} (n2 : 2 ≤ A 2) (n5 : A 2 ≤ 5) (l2 : 2 ≤ A 0) (l3 : A 0 ≤ 30) (hn : st 3 2 o 0 = A 2) (hp : st 3 3 o 0 = A 0 + 1) (hd : inL d) (hd0 : ¬ d = 0)
    (hV : ∀ i x, 0 ≤ i → i < A 2 → 0 ≤ x → x ≤ A 0 → linM st o i x = V i x) (hVb : ∀ i x, 0 ≤ i → i < A 2 → 0 ≤ x → x ≤ A 0 → inL (V i x))
    (h : ∀ s, F20 o st s → (∀ i x, 0 ≤ i → i < A 2 → 0 ≤ x → x ≤ A 0 → linM s o i x = Int.tdiv (V i x) d) → Q s) : f3_shorten_j88 o Q st d := by
  have fr : ∀ s, F20 o st s → s 3 2 o 0 = A 2 ∧ s 3 3 o 0 = A 0 + 1 := fun s f => ⟨(f 3 2 o 0 (by omega)).trans hn, (f 3 3 o 0 (by omega)).trans hp⟩
  have In : ∀ (B : St → Int → Prop) (i : Int), 0 ≤ i → i < A 2 → (∀ s, F20 o st s → (∀ i' x', 0 ≤ i' → i' < A 2 → 0 ≤ x' → x' ≤ A 0 → linM s o i' x' = if i' < i + 1 then Int.tdiv (V i' x') d else V i' x') → B s (i + 1)) →
      ∀ (m : Nat) (x : Int) (s : St), 0 ≤ x → x ≤ A 0 + 1 → F20 o st s → (∀ i' x', 0 ≤ i' → i' < A 2 → 0 ≤ x' → x' ≤ A 0 → linM s o i' x' = if i' < i ∨ (i' = i ∧ x' < x) then Int.tdiv (V i' x') d else V i' x') → A 0 + 1 - x < m → f3_shorten_l105 o B Q d i m s x := by
    intro B i i0 i1 hk m
    induction m with
    | zero => intro x s a1 a2 a3 a4 a5; omega
    | succ m ih =>
      intro x s a1 a2 a3 a4 a5
      obtain ⟨hs, hs3⟩ := fr s a3
      unfold f3_shorten_l105
      rw [hs3]
      refine ⟨inI_s (by omega) (by omega), inI_s (by omega) (by omega), fun c => ?_, fun c => ?_⟩
      · rintro _ rfl
        refine hk s a3 (fun i' x' j0 j1 y0 y1 => ?_)
        rw [a4 i' x' j0 j1 y0 y1]
        by_cases q : i' < i + 1
        · rw [if_pos q, if_pos (by omega)]
        · rw [if_neg q, if_neg (by omega)]
      · have e : s 20 0 (5 * o + i) x = V i x := by
          refine (a4 i x i0 i1 a1 (by omega)).trans ?_
          rw [if_neg (by omega)]
        rw [e]
        refine ⟨i0, by omega, a1, by omega, hVb i x i0 i1 a1 (by omega), hd, hd0, a1, by omega, ?_⟩
        rintro _ rfl _ rfl
        refine ih (x + 1) _ (by omega) (by omega) (a3.up i0 (by omega)) (fun i' x' j0 j1 y0 y1 => ?_) (by omega)
        rw [linM_up]
        by_cases q : i' = i ∧ x' = x
        · rw [if_pos q, if_pos (by omega), q.1, q.2]
        · rw [if_neg q, a4 i' x' j0 j1 y0 y1]
          by_cases q2 : i' < i ∨ (i' = i ∧ x' < x)
          · rw [if_pos q2, if_pos (by omega)]
          · rw [if_neg q2, if_neg (by omega)]
  have Out : ∀ (m : Nat) (i : Int) (s : St), 0 ≤ i → i ≤ A 2 → F20 o st s → (∀ i' x', 0 ≤ i' → i' < A 2 → 0 ≤ x' → x' ≤ A 0 → linM s o i' x' = if i' < i then Int.tdiv (V i' x') d else V i' x') → A 2 - i < m → f3_shorten_l93 o Q d m s i := by
    intro m
    induction m with
    | zero => intro i s a1 a2 a3 a4 a5; omega
    | succ m ih =>
      intro i s a1 a2 a3 a4 a5
      obtain ⟨hs, hs3⟩ := fr s a3
      unfold f3_shorten_l93
      rw [hs]
      refine ⟨inI_s (by omega) (by omega), inI_s (by omega) (by omega), fun c => h s a3 (fun i' x' j0 j1 y0 y1 => by rw [a4 i' x' j0 j1 y0 y1, if_pos (by omega)]), fun c => ?_⟩
      refine ⟨100, In _ i a1 (by omega) (fun s' f' e' => ih (i + 1) s' (by omega) (by omega) f' e' (by omega)) 100 0 s (by omega) (by omega) a3 (fun i' x' j0 j1 y0 y1 => ?_) (by omega)⟩
      rw [a4 i' x' j0 j1 y0 y1]
      by_cases q : i' < i
      · rw [if_pos q, if_pos (by omega)]
      · rw [if_neg q, if_neg (by omega)]
  unfold f3_shorten_j88
  exact ⟨100, Out 100 0 st (by omega) (by omega) F20.rf (fun i' x' j0 j1 y0 y1 => by rw [hV i' x' j0 j1 y0 y1, if_neg (by omega)]) (by omega)⟩
theorem W3_shorten {o : Int} {A : Int → Int} {Q : St → Prop} {st : St} {sign : Int} (hA : VC A) (hD : ¬ DA A (-1) 0 = 0) (hsg : sign = 1 ∨ sign = -1) (hn : st 3 2 o 0 = A 2) (hp : st 3 3 o 0 = A 0 + 1)
    (hV : ∀ i x, 0 ≤ i → i < A 2 → 0 ≤ x → x ≤ A 0 → linM st o i x = sign * DA A i x)
    (h : ∀ s, F3 o st s → s 3 2 o 0 = A 2 → s 3 3 o 0 = A 0 + 1 → s 3 4 o 0 = unitA A → (∀ i x, 0 ≤ i → i < A 2 → 0 ≤ x → x ≤ A 0 → linM s o i x = infA A i x) → Q s) : f3_shorten o Q st (sign * DA A (-1) 0) := by
  have n2 : 2 ≤ A 2 := hA.2.2.1
  have n5 : A 2 ≤ 5 := hA.2.2.2.1
  have l2 : 2 ≤ A 0 := hA.1
  have l3 : A 0 ≤ 30 := hA.2.1
  have hDb := DA_b hA (sup := -1) (x := 0) (by omega) (by omega)
  have sb : ∀ i x, 0 ≤ x → x ≤ 30 → -2916000000 ≤ sign * DA A i x ∧ sign * DA A i x ≤ 2916000000 := fun i x x0 x1 => by
    have := DA_b hA (sup := i) (x := x) x0 x1
    rcases hsg with rfl | rfl <;> omega
  have In : ∀ (B : St → Int → Int → Prop) (i g0 : Int), 0 ≤ i → i < A 2 → gB g0 → B st (iabs (gR A i (A 0 + 1).toNat g0)) (i + 1) → ∀ (m : Nat) (x : Int), 0 ≤ x → x ≤ A 0 + 1 → A 0 + 1 - x < m → f3_shorten_l20 o B Q (sign * DA A (-1) 0) i m st (iabs (gR A i x.toNat g0)) x := by
    intro B i g0 i0 i1 hg hk m
    induction m with
    | zero => intro x a1 a2 a3; omega
    | succ m ih =>
      intro x a1 a2 a3
      unfold f3_shorten_l20
      rw [hp]
      refine ⟨inI_s (by omega) (by omega), inI_s (by omega) (by omega), fun c => ?_, fun c => ?_⟩
      · have hx : x = A 0 + 1 := by omega
        subst hx
        rintro _ rfl
        exact hk
      · have e : st 20 0 (5 * o + i) x = sign * DA A i x := hV i x i0 i1 a1 (by omega)
        rw [e]
        have hb := sb i x a1 (by omega)
        have hg2 := gB_R (A := A) (s := i) hg x.toNat
        refine ⟨i0, by omega, a1, by omega, inL_s (by omega) (by omega), ?_⟩
        refine W3_common (iabs_nn _) (by have := iabs_b hg2.2.1 hg2.2.2; omega) (iabs_nn _) (iabs_b hb.1 hb.2) ?_
        rintro _ rfl
        have := ih (x + 1) (by omega) (by omega) (by omega)
        rw [show (x + 1).toNat = x.toNat + 1 by omega] at this
        unfold gR at this
        rw [show ((x.toNat : Nat) : Int) = x by omega, iabs_n (cg_nonneg _ _)] at this
        rw [iabs_sg hsg, cg_iabs]
        exact this
  have Out : ∀ (m : Nat) (i : Int), 0 ≤ i → i ≤ A 2 → A 2 - i < m → f3_shorten_l8 o Q (sign * DA A (-1) 0) m st (iabs (gAll A i.toNat)) i := by
    intro m
    induction m with
    | zero => intro i a1 a2 a3; omega
    | succ m ih =>
      intro i a1 a2 a3
      have hgi := gAll_B hA hD i.toNat
      unfold f3_shorten_l8
      rw [hn]
      refine ⟨inI_s (by omega) (by omega), inI_s (by omega) (by omega), fun c => ?_, fun c => ?_⟩
      · have hi : i = A 2 := by omega
        subst hi
        have hgn := gA_nn hA
        have hga : gAll A (A 2).toNat = gA A := rfl
        rw [hga] at hgi ⊢
        rw [iabs_n hgn]
        have hgb := hgi.2
        have hg0 : ¬ gA A = 0 := hgi.1
        have hs := sb (-1) 0 (by omega) (by omega)
        have hab := iabs_b hs.1 hs.2
        have hab2 := iabs_nn (sign * DA A (-1) 0)
        refine ⟨inL_s (by omega) (by omega), fun e => absurd e hgi.1, fun _ => ⟨inL_s (by omega) (by omega), inL_s (by omega) (by omega), inL_s (by omega) (by omega), hgi.1, ?_⟩⟩
        rintro _ rfl
        have hu : Int.tdiv (iabs (sign * DA A (-1) 0)) (gA A) = unitA A := by
          rw [iabs_sg hsg]
          unfold unitA
          by_cases c2 : 0 ≤ DA A (-1) 0
          · rw [if_pos c2, iabs_n c2]
          · rw [if_neg c2]
            unfold iabs
            rw [if_neg (by omega), Int.neg_tdiv, Int.tdiv_neg]
        rw [hu]
        have fin : ∀ d : Int, inL d → ¬ d = 0 → (∀ z, Int.tdiv (sign * z) d = Int.tdiv z (if 0 ≤ DA A (-1) 0 then gA A else - gA A)) → f3_shorten_j88 o Q (up st 3 4 o 0 (unitA A)) d := by
          intro d d1 d2 d3
          refine short_l93 (b := 0) (V := fun i x => sign * DA A i x) n2 n5 l2 l3 ((up_ne (by omega)).trans hn) ((up_ne (by omega)).trans hp) d1 d2 (fun i x i0 i1 x0 x1 => ?_) (fun i x i0 i1 x0 x1 => ?_) (fun s f e => ?_)
          · exact (up_ne (by omega)).trans (hV i x i0 i1 x0 x1)
          · have := sb i x x0 (by omega)
            exact inL_s (by omega) (by omega)
          · refine h s (F3.of20 F3.rf.up3 f) ((f 3 2 o 0 (by omega)).trans ((up_ne (by omega)).trans hn)) ((f 3 3 o 0 (by omega)).trans ((up_ne (by omega)).trans hp)) ((f 3 4 o 0 (by omega)).trans ?_) (fun i x i0 i1 x0 x1 => ?_)
            · rw [up_eq, if_pos ⟨rfl, rfl, rfl, rfl⟩]
            · rw [e i x i0 i1 x0 x1]
              exact d3 (DA A i x)
        refine ⟨inL_s (by omega) (by omega), fun c2 => ?_, fun c2 => ?_⟩
        · refine fin _ (inL_s (by omega) (by omega)) hgi.1 (fun z => ?_)
          rcases hsg with rfl | rfl
          · rw [Int.one_mul, if_pos (by omega)]
          · rw [if_neg (by omega), Int.neg_mul, Int.one_mul, Int.neg_tdiv, Int.tdiv_neg]
        · refine fin _ (inL_s (by omega) (by omega)) (by omega) (fun z => ?_)
          rcases hsg with rfl | rfl
          · rw [Int.one_mul, if_neg (by omega)]
          · rw [if_pos (by omega), Int.neg_mul, Int.one_mul, Int.neg_tdiv, Int.tdiv_neg, Int.neg_neg]
      · refine ⟨100, ?_⟩
        have := In (fun st v3x8 v5x8 => f3_shorten_l8 o Q (sign * DA A (-1) 0) m st v3x8 v5x8) i (gAll A i.toNat) a1 (by omega) hgi ?_ 100 0 (by omega) (by omega) (by omega)
        · exact this
        · have := ih (i + 1) (by omega) (by omega) (by omega)
          rw [show (i + 1).toNat = i.toNat + 1 by omega] at this
          unfold gAll at this
          rw [show ((i.toNat : Nat) : Int) = i by omega] at this
          exact this
  have hs := sb (-1) 0 (by omega) (by omega)
  unfold f3_shorten
  refine ⟨inL_s (by omega) (by omega), ?_⟩
  rintro _ rfl
  rw [iabs_sg hsg]
  exact ⟨100, Out 100 0 (by omega) (by omega) (by omega)⟩
/-- a Lines that holds A's influence lines -/
def LR (st : St) (o : Int) (A : Int → Int) : Prop := st 3 2 o 0 = A 2 ∧ st 3 3 o 0 = A 0 + 1 ∧ st 3 4 o 0 = unitA A ∧ ∀ i x, 0 ≤ i → i < A 2 → 0 ≤ x → x ≤ A 0 → linM st o i x = infA A i x
theorem W3_reckon {o b : Int} {A : Int → Int} {Q : Int → St → Prop} {st : St} (hB : BR st b A) (hA : VC A)
    (h0 : ∀ s, F3 o st s → DA A (-1) 0 = 0 → Q 0 s) (h1 : ∀ s, F3 o st s → ¬ DA A (-1) 0 = 0 → LR s o A → Q 1 s) : f3_reckon o b Q st := by
  have n2 : 2 ≤ A 2 := hA.2.2.1
  have n5 : A 2 ≤ 5 := hA.2.2.2.1
  have l2 : 2 ≤ A 0 := hA.1
  have l3 : A 0 ≤ 30 := hA.2.1
  unfold f3_reckon
  rw [hB.2.2.2.1]
  have e1 : imin (A 2) 5 = A 2 := by unfold imin; split <;> omega
  rw [e1]
  refine ⟨inI_s (by omega) (by omega), ?_⟩
  rintro _ rfl
  have e2 : up st 3 2 o 0 (A 2) 0 0 b 0 = A 0 := (up_ne (by omega)).trans hB.1
  rw [e2]
  have e3 : imin (A 0 + 1) 31 = A 0 + 1 := by unfold imin; split <;> omega
  rw [e3]
  refine ⟨inI_s (by omega) (by omega), ?_⟩
  rintro _ rfl
  have f2 : F3 o st (up (up st 3 2 o 0 (A 2)) 3 3 o 0 (A 0 + 1)) := F3.rf.up3.up3
  have hn : (up (up st 3 2 o 0 (A 2)) 3 3 o 0 (A 0 + 1)) 3 2 o 0 = A 2 := by rw [up_ne (by omega), up_eq, if_pos ⟨rfl, rfl, rfl, rfl⟩]
  have hp : (up (up st 3 2 o 0 (A 2)) 3 3 o 0 (A 0 + 1)) 3 3 o 0 = A 0 + 1 := by rw [up_eq, if_pos ⟨rfl, rfl, rfl, rfl⟩]
  generalize up (up st 3 2 o 0 (A 2)) 3 3 o 0 (A 0 + 1) = s2 at f2 hn hp
  have B2 : BR s2 b A := hB.fr (fun K s i j hK => f2 K s i j (by omega))
  refine W3_setEquations B2 hA hn (fun s3 f3 t3 => ?_)
  have hn3 : s3 3 2 o 0 = A 2 := (f3 3 2 o 0 (by omega)).trans hn
  refine W3_invert n2 n5 hn3 (exM_B hA) t3 exM_id (fun s4 f4 hz => ?_) (fun s4 sign f4 hsg hz tb tw => ?_)
  · rw [exM_D hA] at hz
    exact ⟨inL_s (by omega) (by omega), fun _ => h0 s4 ((f2.of18 f3).of18 f4) hz, fun e => absurd rfl e⟩
  · rw [exM_D hA] at hz ⊢
    have hDb := DA_b hA (sup := -1) (x := 0) (by omega) (by omega)
    have hz2 : ¬ sign * DA A (-1) 0 = 0 := by rcases hsg with rfl | rfl <;> omega
    have hn4 : s4 3 2 o 0 = A 2 := (f4 3 2 o 0 (by omega)).trans hn3
    have hp4 : s4 3 3 o 0 = A 0 + 1 := (f4 3 3 o 0 (by omega)).trans ((f3 3 3 o 0 (by omega)).trans hp)
    refine ⟨by rcases hsg with rfl | rfl <;> exact inL_s (by omega) (by omega), fun e => absurd e hz2, fun _ => ?_⟩
    refine W3_setLines (V := fun i x => sign * DA A i x) ((B2.f18 f3).f18 f4) hA hn4 hp4 (fun i x i0 i1 x0 x1 => ?_) (fun s5 f5 t5 => ?_)
    · rw [tw (fun e => lvA A e x) i i0 i1, exM_Ds hA]
    · refine W3_shorten hA hz hsg ((f5 3 2 o 0 (by omega)).trans hn4) ((f5 3 3 o 0 (by omega)).trans hp4) t5 (fun s6 f6 g2 g3 g4 g5 => ?_)
      refine h1 s6 (fun K s i j hK => (f6 K s i j hK).trans ((((f2.of18 f3).of18 f4).of20 f5) K s i j hK)) hz ⟨g2, g3, g4, g5⟩
theorem W3_at {o : Int} {A : Int → Int} {Q : Int → St → Prop} {st : St} {i x : Int} (hA : VC A) (hL : LR st o A) (hi : inI i) (hx : inI x) (h1 : 0 ≤ i → i < A 2 → 0 ≤ x → x ≤ A 0 → Q (infA A i x) st) (h0 : ¬ (0 ≤ i ∧ i < A 2 ∧ 0 ≤ x ∧ x ≤ A 0) → Q 0 st) : f3_at o Q st i x := by
  have n2 : 2 ≤ A 2 := hA.2.2.1
  have n5 : A 2 ≤ 5 := hA.2.2.2.1
  have l2 : 2 ≤ A 0 := hA.1
  have l3 : A 0 ≤ 30 := hA.2.1
  have z : ¬ (0 ≤ i ∧ i < A 2 ∧ 0 ≤ x ∧ x ≤ A 0) → f3_at_j28 o Q i x st := fun q => by
    unfold f3_at_j28 f3_at_j29
    exact ⟨inI_s (by omega) (by omega), fun _ => h0 q, fun e => absurd rfl e⟩
  unfold f3_at
  rw [hL.1, hL.2.1]
  refine ⟨hi, fun c => z (by omega), fun c => ⟨hi, inI_s (by omega) (by omega), fun c2 => z (by omega), fun c2 => ⟨hx, fun c3 => z (by omega), fun c3 => ⟨hx, inI_s (by omega) (by omega), fun c4 => z (by omega), fun c4 => ?_⟩⟩⟩⟩
  unfold f3_at_j29
  refine ⟨inI_s (by omega) (by omega), fun e => absurd e (by omega), fun _ => ⟨by omega, by omega, by omega, by omega, ?_⟩⟩
  have := h1 (by omega) (by omega) (by omega) (by omega)
  rw [← hL.2.2.2 i x (by omega) (by omega) (by omega) (by omega)] at this
  exact this
