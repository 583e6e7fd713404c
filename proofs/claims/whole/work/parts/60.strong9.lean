/-! the strongest axle, the reference's side -/
def oneA (A : Int → Int) (w : Int) : Int → Int := fun j => if j = 36 then 0 else if j = 35 then w else if j = 5 then 1 else A j
theorem oneA_ne {A : Int → Int} {w j : Int} (h : ¬ j = 36 ∧ ¬ j = 35 ∧ ¬ j = 5) : oneA A w j = A j := by
  unfold oneA
  rw [if_neg h.1, if_neg h.2.1, if_neg h.2.2]
theorem oneA_ag {A : Int → Int} (w : Int) (hC : VC A) : AgL A (oneA A w) := ⟨oneA_ne (by omega), oneA_ne (by omega), fun t t0 t1 => oneA_ne (by have := hC.2.2.2.1; omega), fun t t0 t1 => oneA_ne (by have := hC.2.2.2.1; omega)⟩
theorem oneA_5 (A : Int → Int) (w : Int) : oneA A w 5 = 1 := by
  unfold oneA
  rw [if_neg (by omega), if_neg (by omega), if_pos rfl]
theorem oneA_35 (A : Int → Int) (w : Int) : oneA A w (35 + 2 * 0) = w := by
  unfold oneA
  rw [if_neg (by omega), if_pos (by omega)]
theorem oneA_36 (A : Int → Int) (w : Int) : oneA A w (35 + 2 * 0 + 1) = 0 := if_pos (by omega)
theorem oneA_D {A : Int → Int} {w : Int} (h : VD A) (w0 : 0 ≤ w) (w1 : w ≤ 999) : VD (oneA A w) := by
  obtain ⟨⟨hC, f1, f2, f3, f4, f5, f6⟩, d1, d2⟩ := h
  have n5 := hC.2.2.2.1
  have e2 : oneA A w 2 = A 2 := oneA_ne (by omega)
  have e0 : oneA A w 0 = A 0 := oneA_ne (by omega)
  have e4 : oneA A w 4 = A 4 := oneA_ne (by omega)
  have e5 := oneA_5 A w
  have e1 : oneA A w 1 = A 1 := oneA_ne (by omega)
  refine ⟨⟨hC.cg (oneA_ag w hC), fun k k0 k1 => ?_, fun k k0 k1 => ?_, by omega, by omega, fun k k0 k1 => ?_, fun k k0 k1 => ?_⟩, by omega, fun k k0 k1 => ?_⟩
  · rw [oneA_ne (by omega), e0]; exact f1 k k0 (by omega)
  · rw [oneA_ne (by omega), oneA_ne (by omega)]; exact f2 k k0 (by omega)
  · rw [oneA_ne (by omega), oneA_ne (by omega), e0]; exact f5 k k0 (by omega)
  · rw [show k = 0 by omega, oneA_35, oneA_36]
    omega
  · rw [oneA_ne (by omega)]; exact d2 k k0 (by omega)
theorem mmB_cg {A A' : Int → Int} (h : AgL A A') (m : Int) : mmB A' m = mmB A m := by
  funext x
  unfold mmB
  rw [unitA_cg h, h.2.1]
  have e : smE (fun k => if m ≤ A' (6 + 2 * k) then 0 else infA A' k x * (m - A' (6 + 2 * k))) (A 2).toNat = smE (fun k => if m ≤ A (6 + 2 * k) then 0 else infA A k x * (m - A (6 + 2 * k))) (A 2).toNat := smE_ext _ (fun k k0 k1 => by rw [h.2.2.1 k k0 (by omega), infA_cg h])
  rw [e]
theorem infA_cg2 {A A' : Int → Int} (h : AgL A A') (i : Int) : infA A' i = infA A i := by
  funext x
  exact infA_cg h i x
theorem TA_one {A : Int → Int} {w x : Int} (f : Int → Int) (hA : VF A) (x0 : 0 ≤ x) (x1 : x ≤ A 0) : TA (oneA A w) x f = TA A (-1) f + w * f x := by
  have b4 := hA.2.2.2.1
  have e0 : oneA A w 0 = A 0 := oneA_ne (by omega)
  have e4 : oneA A w 4 = A 4 := oneA_ne (by omega)
  unfold TA
  rw [smE_z (A 5).toNat (fun k _ _ => if_neg (fun q => q.1 rfl)), e4, oneA_5]
  have e : smE (fun k => oneA A w (19 + 2 * k) * f (oneA A w (19 + 2 * k + 1))) (A 4).toNat = smE (fun k => A (19 + 2 * k) * f (A (19 + 2 * k + 1))) (A 4).toNat := smE_ext _ (fun k k0 k1 => by rw [oneA_ne (by omega), oneA_ne (by omega)])
  rw [e]
  have g : smE (fun k => if onA (oneA A w) k x then oneA A w (35 + 2 * k) * f (x - oneA A w (35 + 2 * k + 1)) else 0) (1 : Int).toNat = w * f x := by
    show (0 : Int) + (if onA (oneA A w) ((0 : Nat) : Int) x then oneA A w (35 + 2 * ((0 : Nat) : Int)) * f (x - oneA A w (35 + 2 * ((0 : Nat) : Int) + 1)) else 0) = w * f x
    have e35 := oneA_35 A w
    have e36 := oneA_36 A w
    have z : ((0 : Nat) : Int) = 0 := rfl
    rw [z, if_pos (show onA (oneA A w) 0 x from ⟨by omega, by rw [e36]; omega, by rw [e36, e0]; omega⟩), e35, e36, Int.sub_zero, Int.zero_add]
  rw [g, Int.add_zero]
theorem okW_d {A : Int → Int} {w x : Int} (h : VD A) (x0 : 0 ≤ x) (x1 : x ≤ A 0) : dngA (oneA A w) x = 0 ↔ okW A x w := by
  have ag := oneA_ag w h.1.1
  have n5 := h.1.1.2.2.2.1
  have e0 : oneA A w 0 = A 0 := oneA_ne (by omega)
  have e1 : oneA A w 1 = A 1 := oneA_ne (by omega)
  have e2 : oneA A w 2 = A 2 := oneA_ne (by omega)
  rw [dngA_iff, e0, e1, e2, unitA_cg ag]
  have eI : ∀ i, TA (oneA A w) x (infA (oneA A w) i) = TA A (-1) (infA A i) + w * infA A i x := fun i => by rw [infA_cg2 ag, TA_one _ h.1 x0 x1]
  have eM : ∀ m, TA (oneA A w) x (mmB (oneA A w) m) = TA A (-1) (mmB A m) + w * mmB A m x := fun m => by rw [mmB_cg ag, TA_one _ h.1 x0 x1]
  unfold okW cS cM
  constructor
  · intro k
    refine ⟨fun i i0 i1 => ⟨?_, fun c => ?_⟩, fun m m0 m1 => ?_⟩
    · have := k.1 i i0 i1
      rw [eI] at this
      rw [Int.mul_neg]
      omega
    · have := k.2.1 i i0 i1
      rw [eI, oneA_ne (show ¬ 6 + 2 * i + 1 = 36 ∧ ¬ 6 + 2 * i + 1 = 35 ∧ ¬ 6 + 2 * i + 1 = 5 by omega), Int.mul_comm (A (6 + 2 * i + 1))] at this
      have t : ¬ unitA A * A (6 + 2 * i + 1) < TA A (-1) (infA A i) + w * infA A i x := fun z => this ⟨c, z⟩
      omega
    · have := k.2.2 m m0 m1
      rw [eM, Int.mul_comm (A 1)] at this
      rw [Int.mul_neg]
      unfold iabs at this
      split at this <;> omega
  · intro k
    refine ⟨fun i i0 i1 => ?_, fun i i0 i1 c => ?_, fun m m0 m1 c => ?_⟩
    · have := (k.1 i i0 i1).1
      rw [Int.mul_neg] at this
      rw [eI]
      omega
    · rw [eI, oneA_ne (show ¬ 6 + 2 * i + 1 = 36 ∧ ¬ 6 + 2 * i + 1 = 35 ∧ ¬ 6 + 2 * i + 1 = 5 by omega), Int.mul_comm (A (6 + 2 * i + 1))] at c
      have := (k.1 i i0 i1).2 c.1
      have := c.2
      omega
    · have := k.2 m m0 m1
      rw [Int.mul_neg] at this
      rw [eM, Int.mul_comm (A 1)] at c
      unfold iabs at c
      split at c <;> omega
theorem fbN_iff {C : Int → Int} {top : Int} : ∀ (m : Nat) (v : Int), 0 ≤ v → top + 1 - v < m → (fbN C top m v = -1 ↔ ∀ x, v ≤ x → x ≤ top → dngA C x = 0) := by
  intro m
  induction m with
  | zero => intro v v0 h; exact ⟨fun _ x a b => by omega, fun _ => rfl⟩
  | succ m ih =>
    intro v v0 h
    unfold fbN
    by_cases c : top < v
    · rw [if_pos c]
      exact ⟨fun _ x a b => by omega, fun _ => rfl⟩
    · rw [if_neg c]
      have hd := dngA_b C v
      by_cases d : dngA C v ≤ 0
      · rw [if_pos d, ih (v + 1) (by omega) (by omega)]
        refine ⟨fun k x a b => ?_, fun k x a b => k x (by omega) b⟩
        by_cases e : x = v
        · rw [e]; omega
        · exact k x (by omega) b
      · rw [if_neg d]
        refine ⟨fun e => by omega, fun k => ?_⟩
        have := k v (by omega) (by omega)
        omega
theorem lhA_one (A : Int → Int) (w : Int) : lhA (oneA A w) = A 0 := by
  have e0 : oneA A w 0 = A 0 := oneA_ne (by omega)
  unfold lhA
  rw [oneA_5, if_neg (by omega), e0]
  have e : mxN (fun k => oneA A w (35 + 2 * k + 1)) (1 : Int).toNat = 0 := by
    show imax (0 : Int) (oneA A w (35 + 2 * ((0 : Nat) : Int) + 1)) = 0
    have z : ((0 : Nat) : Int) = 0 := rfl
    rw [z, oneA_36]
    rfl
  rw [e, Int.add_zero]
theorem fbA_one {A : Int → Int} {w : Int} (h : VD A) : fbA (oneA A w) = -1 ↔ ∀ x, 0 ≤ x → x ≤ A 0 → okW A x w := by
  have l3 := h.1.1.2.1
  unfold fbA
  rw [lhA_one, fbN_iff 100 0 (by omega) (by omega)]
  exact ⟨fun k x x0 x1 => (okW_d h x0 x1).1 (k x x0 x1), fun k x x0 x1 => (okW_d h x0 x1).2 (k x x0 x1)⟩
theorem fbN_b {C : Int → Int} {top : Int} (ht : -1 ≤ top) : ∀ (m : Nat) (v : Int), 0 ≤ v → -1 ≤ fbN C top m v ∧ fbN C top m v ≤ top := by
  intro m
  induction m with
  | zero => intro v v0; exact ⟨Int.le_refl _, ht⟩
  | succ m ih =>
    intro v v0
    unfold fbN
    by_cases c : top < v
    · rw [if_pos c]; omega
    · rw [if_neg c]
      by_cases d : dngA C v ≤ 0
      · rw [if_pos d]; exact ih (v + 1) (by omega)
      · rw [if_neg d]; omega
theorem fbA_b {C : Int → Int} (h : VF C) : -1 ≤ fbA C ∧ fbA C ≤ 1000 := by
  have hb := lhA_b h
  have := fbN_b (C := C) (top := lhA C) (by omega) 100 0 (by omega)
  unfold fbA
  omega
theorem mulD {w u c R : Int} (hR : 0 ≤ R) (h : w * c ≤ R) (u0 : 0 ≤ u) (u1 : u ≤ w) : u * c ≤ R := by
  by_cases d : 0 ≤ c
  · have := Int.mul_le_mul_of_nonneg_right u1 d
    omega
  · have := Int.mul_nonneg u0 (show 0 ≤ -c by omega)
    rw [Int.mul_neg] at this
    omega
theorem okW_dn {A : Int → Int} {x w u : Int} (hd : dngA A (-1) = 0) (h : okW A x w) (u0 : 0 ≤ u) (u1 : u ≤ w) : okW A x u := by
  refine ⟨fun i i0 i1 => ?_, fun m m0 m1 => ?_⟩
  · have s := still_S hd i0 i1
    have k := h.1 i i0 i1
    exact ⟨mulD s.1 k.1 u0 u1, fun c => mulD (s.2 c) (k.2 c) u0 u1⟩
  · have s := still_M hd m0 m1
    have k := h.2 m m0 m1
    exact ⟨mulD s.1 k.1 u0 u1, mulD s.2 k.2 u0 u1⟩
theorem okW_0 {A : Int → Int} {x : Int} (hd : dngA A (-1) = 0) : okW A x 0 := by
  refine ⟨fun i i0 i1 => ?_, fun m m0 m1 => ?_⟩
  · have s := still_S hd i0 i1
    exact ⟨by rw [Int.zero_mul]; exact s.1, fun c => by rw [Int.zero_mul]; exact s.2 c⟩
  · have s := still_M hd m0 m1
    exact ⟨by rw [Int.zero_mul]; exact s.1, by rw [Int.zero_mul]; exact s.2⟩
theorem mlen5 : mlen 5 = 47 := by decide
theorem LW.cg {st st' : St} (h : LW st) (ag : AgL (aM st) (aM st')) (hf : ∀ K s i j, K = 9 ∨ K = 37 → st' K s i j = st K s i j) : LW st' := by
  have e0 : st' 30 0 0 0 = st 30 0 0 0 := ag.1
  have e2 : st' 30 0 0 2 = st 30 0 0 2 := ag.2.1
  refine ⟨(hf 9 18 0 0 (by omega)).trans (h.1.trans (unitA_cg ag).symm), fun s x s0 s1 x0 x1 => ?_⟩
  rw [e2] at s1
  rw [e0] at x1
  rw [hf 37 0 0 _ (by omega), h.2 s x s0 s1 x0 x1, infA_cg ag]
theorem W9_strongest {A : Int → Int} {n : Int} {B : Int → Int → Int} {F : Int → Int} {S : Int → Int → Int} {Q : Int → St → Prop} {st : St} (h : MS st A n B F S) (hq : ∀ v, strP A v → ∀ s, FT st s → s 9 6 0 0 = 0 → Q v s) : f9_strongest Q st := by
  have hV := h.2.1.1
  have m0 := mlen0
  have m5 := mlen5
  unfold f9_strongest
  rintro _ rfl
  refine W9_lays2 h.mr (fun s f e6 hl eA' => ?_)
  have eA : aM s = A := eA'.trans h.1
  refine W9_dangerAt (by rw [eA]; exact hV) hl (by omega) (by omega) ?_
  rw [eA]
  have hd := dngA_b A (-1)
  refine ⟨inI_s (by omega) (by omega), fun d => ?_, fun d => hq 0 ⟨fun _ => rfl, fun e => absurd e (by omega)⟩ s f.ft e6⟩
  have d0 : dngA A (-1) = 0 := by omega
  refine W9_copies (by omega) (by omega) (by omega) (by omega) (by omega) ?_
  rintro _ rfl _ rfl
  have k5 : ∀ j, 0 ≤ j → j < 47 → cpyN s 5 0 0 0 47 30 0 5 j = A j := fun j j0 j1 => by
    have t2 := cpyN_in (st := s) (d := 5) (a := 0) (s := 0) (b := 0) (m := 47) j0 j1
    rw [Int.zero_add] at t2
    exact t2.trans (congrFun eA j)
  generalize es : cpyN s 5 0 0 0 47 = s1 at k5
  have g1 : ∀ K s' i j, ¬ (K = 30 ∧ i = 5) → s1 K s' i j = s K s' i j := fun K s' i j hK => by rw [← es]; exact cpyN_out (by omega)
  have L : ∀ (m : Nat) (lo hi : Int) (t : St), 0 ≤ lo → lo ≤ hi → hi ≤ 999 → (∀ x, 0 ≤ x → x ≤ A 0 → okW A x lo) → (hi = 999 ∨ ¬ ∀ x, 0 ≤ x → x ≤ A 0 → okW A x (hi + 1)) →
      (∀ K s' i j, ¬ (K = 30 ∧ s' = 0 ∧ i = 0 ∧ (j = 5 ∨ j = 35 ∨ j = 36)) → t K s' i j = s1 K s' i j) → t 30 0 0 5 = 1 → t 30 0 0 36 = 0 → hi - lo < m → f9_strongest_l53 Q m t lo hi := by
    intro m
    induction m with
    | zero => intro lo hi t a1 a2 a3 a4 a5 a6 a7 a8 a9; omega
    | succ m ih =>
      intro lo hi t a1 a2 a3 a4 a5 a6 a7 a8 a9
      unfold f9_strongest_l53
      refine ⟨inI_s (by omega) (by omega), inI_s (by omega) (by omega), fun c => ?_, fun c => ⟨inI_s (by omega) (by omega), ?_⟩⟩
      · have e : lo = hi := by omega
        refine W9_copies (by omega) (by omega) (by omega) (by omega) (by omega) ?_
        have fin : FT s (cpyN t 0 0 5 0 47) := by
          refine ⟨fun K s' i j hK => ?_, fun j => ?_⟩
          · by_cases z : K = 30 ∧ s' = 0 ∧ i = 0 ∧ 0 ≤ j ∧ j < 47
            · obtain ⟨rfl, rfl, rfl, j0, j1⟩ := z
              have t2 := cpyN_in (st := t) (d := 0) (a := 0) (s := 5) (b := 0) (m := 47) j0 j1
              rw [Int.zero_add] at t2
              rw [t2, a6 30 0 5 j (by omega), k5 j j0 j1]
              exact (congrFun eA j).symm
            · rw [cpyN_out (by omega), a6 K s' i j (by omega), g1 K s' i j (by omega)]
          · rw [cpyN_out (by omega), a6 37 0 0 j (by omega), g1 37 0 0 j (by omega)]
            exact f.2 j
        have fin6 : cpyN t 0 0 5 0 47 9 6 0 0 = 0 := by rw [cpyN_out (by omega), a6 9 6 0 0 (by omega), g1 9 6 0 0 (by omega)]; exact e6
        refine hq lo ⟨fun z => absurd d0 z, fun _ => ⟨a1, by omega, fun w w0 w1 => ⟨fun k x x0 x1 => okW_dn d0 (a4 x x0 x1) w0 k, fun k => ?_⟩⟩⟩ _ (f.ft.trans fin) fin6
        by_cases z : w ≤ lo
        · exact z
        · rcases a5 with r | r
          · omega
          · exact absurd (fun x x0 x1 => okW_dn d0 (k x x0 x1) (show 0 ≤ hi + 1 by omega) (by omega)) r
      · rintro _ rfl
        have ed : Int.tdiv (lo + hi + 1) 2 = (lo + hi + 1) / 2 := Int.tdiv_eq_ediv_of_nonneg (by omega)
        rw [ed]
        generalize em : (lo + hi + 1) / 2 = mid
        have b1 : lo < mid ∧ mid ≤ hi := by omega
        have eW : aM (up t 30 0 0 35 mid) = oneA A mid := by
          funext j
          show up t 30 0 0 35 mid 30 0 0 j = oneA A mid j
          unfold oneA
          rw [up_eq]
          by_cases q1 : j = 36
          · rw [if_neg (by omega), if_pos q1, q1]; exact a8
          · rw [if_neg q1]
            by_cases q2 : j = 35
            · rw [if_pos ⟨rfl, rfl, rfl, q2⟩, if_pos q2]
            · rw [if_neg (fun z => q2 z.2.2.2), if_neg q2]
              by_cases q3 : j = 5
              · rw [if_pos q3, q3]; exact a7
              · rw [if_neg q3, a6 30 0 0 j (by omega), g1 30 0 0 j (by omega)]
                exact congrFun eA j
        have hlw : LW (up t 30 0 0 35 mid) := by
          refine hl.cg (by rw [eW, eA]; exact oneA_ag mid hV.1.1) (fun K s' i j hK => ?_)
          rw [up_ne (by omega), a6 K s' i j (by omega), g1 K s' i j (by omega)]
        have e35 : up t 30 0 0 35 mid 30 0 0 35 = mid := by rw [up_eq, if_pos ⟨rfl, rfl, rfl, rfl⟩]
        have fr : ∀ K s' i j, ¬ (K = 30 ∧ s' = 0 ∧ i = 0 ∧ (j = 5 ∨ j = 35 ∨ j = 36)) → up t 30 0 0 35 mid K s' i j = s1 K s' i j := fun K s' i j hK => (up_ne (by omega)).trans (a6 K s' i j hK)
        have f5 : up t 30 0 0 35 mid 30 0 0 5 = 1 := (up_ne (by omega)).trans a7
        have f36 : up t 30 0 0 35 mid 30 0 0 36 = 0 := (up_ne (by omega)).trans a8
        refine W9_firstBad (by rw [eW]; exact oneA_D hV (by omega) (by omega)) hlw ?_
        rw [eW]
        have hfb := fbA_one (w := mid) hV
        have hfr : -1 ≤ fbA (oneA A mid) ∧ fbA (oneA A mid) ≤ 1000 := fbA_b (oneA_D hV (by omega) (by omega)).1
        refine ⟨inI_s (by omega) (by omega), fun z => ?_, fun z => ?_⟩
        · intro x24 e24
          rw [e24, e35]
          exact ih mid hi _ (by omega) (by omega) a3 (hfb.1 z) a5 fr f5 f36 (by omega)
        · intro x23 e23
          rw [e23, e35]
          refine ih lo (mid - 1) _ (by omega) (by omega) (by omega) a4 (Or.inr (fun k => z (hfb.2 ?_))) fr f5 f36 (by omega)
          rw [show mid - 1 + 1 = mid by omega] at k
          exact k
  refine ⟨2000, L 2000 0 999 _ (by omega) (by omega) (by omega) (fun x _ _ => okW_0 d0) (Or.inl rfl) (fun K s' i j hK => ?_) ?_ ?_ (by omega)⟩
  · rw [up_ne (by omega), up_ne (by omega)]
  · rw [up_ne (by omega), up_eq, if_pos ⟨rfl, rfl, rfl, rfl⟩]
  · rw [up_eq, if_pos ⟨rfl, rfl, rfl, rfl⟩]
