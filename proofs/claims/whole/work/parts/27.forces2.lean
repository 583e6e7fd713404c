/-! the balance: reactions, then a sweep -/
def F13 (o : Int) (st st' : St) : Prop := ∀ K s i j, ¬ (K = 13 ∧ i = o) → st' K s i j = st K s i j
theorem F13.rf {o : Int} {st : St} : F13 o st st := fun _ _ _ _ _ => rfl
theorem F13.trans {o : Int} {a b c : St} (h : F13 o a b) (g : F13 o b c) : F13 o a c := fun K s i j hK => (g K s i j hK).trans (h K s i j hK)
theorem F13.f1 {o : Int} {a b : St} (h : F13 o a b) : F1 o a b := fun K s i j hK => h K s i j (by omega)
theorem F13.up {o : Int} {st0 st : St} {s : Nat} {j v : Int} (h : F13 o st0 st) : F13 o st0 (up st 13 s o j v) := fun K' s' i' j' h' => by rw [up_ne (by omega)]; exact h K' s' i' j' h'
theorem W1_holdUp {o lo : Int} {A : Int → Int} {Q : St → Prop} {st : St} {x : Int} (hA : VC A) (hL : LR st lo A) (hx : 0 ≤ x) (hx2 : x ≤ A 0) (hp : inI (st 12 0 o x))
    (h : ∀ s, F13 o st s → (∀ i, 0 ≤ i → i < 5 → s 13 0 o i = st 13 0 o i + if i < A 2 then st 12 0 o x * infA A i x else 0) → Q s) : f1_holdUp o lo Q st x := by
  have l3 : A 0 ≤ 30 := hA.2.1
  have L : ∀ (m : Nat) (v : Int) (s : St), 0 ≤ v → v ≤ 5 → F13 o st s → (∀ i, 0 ≤ i → i < 5 → s 13 0 o i = st 13 0 o i + if i < v ∧ i < A 2 then st 12 0 o x * infA A i x else 0) → 5 - v < m → f1_holdUp_l2 o lo Q x m s v := by
    intro m
    induction m with
    | zero => intro v s a1 a2 a3 a4 a5; omega
    | succ m ih =>
      intro v s a1 a2 a3 a4 a5
      have e12 : s 12 0 o x = st 12 0 o x := a3 12 0 o x (by omega)
      have nx : ∀ z : Int, (z = if v < A 2 then infA A v x else 0) → ∀ st12 : St, st12 = up s 13 0 o v (s 13 0 o v + st 12 0 o x * z) → ∀ x13 : Int, x13 = v + 1 → v < 5 → f1_holdUp_l2 o lo Q x m st12 x13 := by
        rintro z hz _ rfl _ rfl v5
        refine ih (v + 1) _ (by omega) (by omega) a3.up (fun i i0 i1 => ?_) (by omega)
        rw [up_eq]
        by_cases e : i = v
        · rw [if_pos ⟨rfl, rfl, rfl, e⟩, a4 v a1 v5, if_neg (by omega), e, hz, Int.add_zero]
          by_cases c : v < A 2
          · rw [if_pos c, if_pos (by omega)]
          · rw [if_neg c, if_neg (by omega), Int.mul_zero]
        · rw [if_neg (by omega), a4 i i0 i1]
          by_cases c : i < v ∧ i < A 2
          · rw [if_pos c, if_pos (by omega)]
          · rw [if_neg c, if_neg (by omega)]
      unfold f1_holdUp_l2
      refine ⟨inI_s (by omega) (by omega), fun c => h s a3 (fun i i0 i1 => ?_), fun c => ⟨a1, by omega, hx, by omega, by rw [e12]; exact hp, ?_⟩⟩
      · rw [a4 i i0 i1]
        by_cases d : i < A 2
        · rw [if_pos d, if_pos (by omega)]
        · rw [if_neg d, if_neg (by omega)]
      · refine W3_at hA (hL.f1 a3.f1) (inI_s (by omega) (by omega)) (inI_s (by omega) (by omega)) (fun _ d _ _ => ⟨a1, by omega, ?_⟩) (fun d => ⟨a1, by omega, ?_⟩)
        · rw [e12]
          exact fun st12 hs x13 hx13 => nx _ (by rw [if_pos d]) st12 hs x13 hx13 (by omega)
        · rw [e12]
          exact fun st12 hs x13 hx13 => nx _ (by rw [if_neg (by omega)]) st12 hs x13 hx13 (by omega)
  unfold f1_holdUp
  refine ⟨100, L 100 0 st (by omega) (by omega) F13.rf (fun i i0 i1 => ?_) (by omega)⟩
  rw [if_neg (by omega), Int.add_zero]
theorem mm_step (A : Int → Int) (m x : Int) : mmB A (m + 1) x = mmB A m x + shB A m x := by
  have e : smE (fun k => if m + 1 ≤ A (6 + 2 * k) then 0 else infA A k x * (m + 1 - A (6 + 2 * k))) (A 2).toNat = smE (fun k => if m ≤ A (6 + 2 * k) then 0 else infA A k x * (m - A (6 + 2 * k))) (A 2).toNat + smE (fun k => if m < A (6 + 2 * k) then 0 else infA A k x) (A 2).toNat := by
    rw [← smE_add]
    refine smE_ext _ (fun k _ _ => ?_)
    by_cases c : m < A (6 + 2 * k)
    · rw [if_pos (by omega), if_pos (by omega), if_pos c]
      rfl
    · rw [if_neg (by omega), if_neg c, show m + 1 - A (6 + 2 * k) = (m - A (6 + 2 * k)) + 1 by omega, Int.mul_add, Int.mul_one]
      by_cases d : m ≤ A (6 + 2 * k)
      · rw [if_pos d, show m - A (6 + 2 * k) = 0 by omega, Int.mul_zero]
      · rw [if_neg d]
  unfold mmB shB
  rw [e]
  by_cases c : m < x
  · rw [if_pos (show m + 1 ≤ x by omega), if_pos (show m ≤ x by omega), if_pos c]
    omega
  · rw [if_neg (show ¬ m + 1 ≤ x by omega), if_neg c, show m + 1 - x = (m - x) + 1 by omega, Int.mul_add, Int.mul_one]
    by_cases d : m ≤ x
    · rw [if_pos d, show m - x = 0 by omega, Int.mul_zero]
      omega
    · rw [if_neg d]
      omega
theorem sup_mono {A : Int → Int} (hA : VF A) {j k : Int} (hj : 0 ≤ j) (hjk : j < k) (hk : k < A 2) : A (6 + 2 * j) < A (6 + 2 * k) := by
  have L : ∀ d : Nat, j + 1 + d < A 2 → A (6 + 2 * j) < A (6 + 2 * (j + 1 + d)) := by
    intro d
    induction d with
    | zero => intro h; have := hA.2.2.1 j hj (by omega); rw [show j + 1 + ((0 : Nat) : Int) = j + 1 by omega]; exact this
    | succ d ih =>
      intro h
      have h1 := ih (by omega)
      have h2 := hA.2.2.1 (j + 1 + d) (by omega) (by omega)
      rw [show j + 1 + ((d + 1 : Nat) : Int) = j + 1 + d + 1 by omega]
      omega
  have := L (k - j - 1).toNat (by omega)
  rw [show j + 1 + ((k - j - 1).toNat : Int) = k by omega] at this
  exact this
theorem sh_step {A : Int → Int} (hA : VF A) {m x c : Int} (hc : 0 ≤ c) (hcn : c ≤ A 2) (hl : ∀ k, 0 ≤ k → k < c → A (6 + 2 * k) < m) (hg : c < A 2 → m ≤ A (6 + 2 * c)) :
    shB A m x = shB A (m - 1) x + (if x = m then - unitA A else 0) + if c < A 2 ∧ A (6 + 2 * c) = m then infA A c x else 0 := by
  have e : ∀ j : Nat, (j : Int) ≤ A 2 → smE (fun k => if m < A (6 + 2 * k) then 0 else infA A k x) j = smE (fun k => if m - 1 < A (6 + 2 * k) then 0 else infA A k x) j + if c < j ∧ A (6 + 2 * c) = m then infA A c x else 0 := by
    intro j
    induction j with
    | zero => intro _; rw [if_neg (by omega)]; rfl
    | succ j ih =>
      intro hj
      unfold smE
      rw [ih (by omega)]
      by_cases c1 : (j : Int) < c
      · have := hl j (by omega) c1
        rw [if_neg (by omega), if_neg (by omega), if_neg (by omega), if_neg (by omega)]
        omega
      · by_cases c2 : (j : Int) = c
        · have := hg (by omega)
          rw [if_neg (by omega), c2]
          by_cases c3 : A (6 + 2 * c) = m
          · rw [if_neg (by omega), if_pos (by omega), if_pos (by omega)]
          · rw [if_pos (by omega), if_pos (by omega), if_neg (by omega)]
        · have h1 := hg (by omega)
          have h2 := sup_mono hA hc (show c < j by omega) (by omega)
          rw [if_pos (show m < A (6 + 2 * (j : Int)) by omega), if_pos (show m - 1 < A (6 + 2 * (j : Int)) by omega)]
          by_cases c3 : A (6 + 2 * c) = m
          · rw [if_pos (by omega), if_pos (by omega)]
            omega
          · rw [if_neg (by omega), if_neg (by omega)]
            try omega
  have n2 := hA.1.2.2.1
  have e9 := e (A 2).toNat (by omega)
  rw [show (((A 2).toNat : Nat) : Int) = A 2 by omega] at e9
  unfold shB
  rw [e9]
  by_cases d : m < x
  · rw [if_pos d, if_pos (show m - 1 < x by omega), if_neg (show ¬ x = m by omega)]
    omega
  · rw [if_neg d]
    by_cases d2 : x = m
    · rw [if_pos (show m - 1 < x by omega), if_pos d2]
      omega
    · rw [if_neg (show ¬ m - 1 < x by omega), if_neg d2]
      omega
theorem smE_one {g : Int → Int} {a u : Int} (ha : 0 ≤ a) : ∀ m : Nat, smE (fun x => g x * (if x = a then u else 0)) m = if a < m then g a * u else 0 := by
  intro m
  induction m with
  | zero => rw [if_neg (by omega)]; rfl
  | succ m ih =>
    unfold smE
    rw [ih]
    by_cases c : (m : Int) = a
    · rw [if_pos c, if_neg (by omega), if_pos (by omega), c]
      omega
    · rw [if_neg c, Int.mul_zero]
      by_cases d : a < m
      · rw [if_pos d, if_pos (by omega)]
        omega
      · rw [if_neg d, if_neg (by omega)]
        omega
theorem prs_sh {st : St} {o : Int} {A : Int → Int} (hA : VF A) {m c : Int} (hm : 0 ≤ m) (hm2 : m < 31) (hc : 0 ≤ c) (hcn : c ≤ A 2) (hl : ∀ k, 0 ≤ k → k < c → A (6 + 2 * k) < m) (hg : c < A 2 → m ≤ A (6 + 2 * c)) :
    prs st o (shB A m) = prs st o (shB A (m - 1)) + (if c < A 2 ∧ A (6 + 2 * c) = m then prs st o (infA A c) else 0) - st 12 0 o m * unitA A := by
  unfold prs
  have e1 : smE (fun x => st 12 0 o x * shB A m x) 31 = smE (fun x => (st 12 0 o x * shB A (m - 1) x + st 12 0 o x * (if x = m then - unitA A else 0)) + st 12 0 o x * (if c < A 2 ∧ A (6 + 2 * c) = m then infA A c x else 0)) 31 := by
    refine smE_ext _ (fun x _ _ => ?_)
    rw [sh_step hA (x := x) hc hcn hl hg, Int.mul_add, Int.mul_add]
  rw [e1, smE_add, smE_add, smE_one hm 31, if_pos (by omega), Int.mul_neg]
  by_cases d : c < A 2 ∧ A (6 + 2 * c) = m
  · rw [if_pos d]
    simp only [if_pos d]
    omega
  · rw [if_neg d]
    simp only [if_neg d]
    rw [smE_z 31 (fun x _ _ => Int.mul_zero _)]
    omega
theorem prs_mm {st : St} {o : Int} (A : Int → Int) (m : Int) : prs st o (mmB A (m + 1)) = prs st o (mmB A m) + prs st o (shB A m) := by
  unfold prs
  rw [← smE_add]
  refine smE_ext _ (fun x _ _ => ?_)
  rw [mm_step, Int.mul_add]
theorem prs_ext {st st' : St} {o : Int} (h : ∀ x, st' 12 0 o x = st 12 0 o x) (f : Int → Int) : prs st' o f = prs st o f := by
  unfold prs
  simp only [h]
def F45 (o : Int) (st st' : St) : Prop := ∀ K s i j, ¬ ((K = 14 ∨ K = 15) ∧ i = o) → st' K s i j = st K s i j
theorem F45.rf {o : Int} {st : St} : F45 o st st := fun _ _ _ _ _ => rfl
theorem F45.f1 {o : Int} {a b : St} (h : F45 o a b) : F1 o a b := fun K s i j hK => h K s i j (by omega)
theorem F45.up {o : Int} {st0 st : St} {K s : Nat} {j v : Int} (h : F45 o st0 st) (hK : K = 14 ∨ K = 15) : F45 o st0 (up st K s o j v) := fun K' s' i' j' h' => by rw [up_ne (by omega)]; exact h K' s' i' j' h'
theorem W1_sweep {o b : Int} {A : Int → Int} {Q : St → Prop} {st : St} (hA : VF A) (hB : BR st b A) (hp : ∀ x, 0 ≤ x → x < 31 → inI (st 12 0 o x)) (hr : ∀ i, 0 ≤ i → i < A 2 → st 13 0 o i = prs st o (infA A i))
    (h : ∀ s, F45 o st s → (∀ x, 0 ≤ x → x ≤ A 0 → s 14 0 o x = prs st o (shB A x) ∧ s 15 0 o x = prs st o (mmB A x)) → Q s) : f1_sweep o b Q st (unitA A) := by
  have hC := hA.1
  have n2 := hC.2.2.1
  have n5 := hC.2.2.2.1
  have l2 := hC.1
  have l3 := hC.2.1
  have L : ∀ (f : Nat) (m c : Int) (s : St), 0 ≤ m → m ≤ A 0 + 1 → 0 ≤ c → c ≤ A 2 → (∀ k, 0 ≤ k → k < c → A (6 + 2 * k) < m) → (c < A 2 → m ≤ A (6 + 2 * c)) → F45 o st s → (∀ x, 0 ≤ x → x < m → s 14 0 o x = prs st o (shB A x) ∧ s 15 0 o x = prs st o (mmB A x)) → A 0 + 1 - m < f → f1_sweep_l12 o b Q (unitA A) f s (prs st o (shB A (m - 1))) (prs st o (mmB A m)) c m := by
    intro f
    induction f with
    | zero => intro m c s a1 a2 a3 a4 a5 a6 a7 a8 a9; omega
    | succ f ih =>
      intro m c s a1 a2 a3 a4 a5 a6 a7 a8 a9
      have hBs := hB.f1 a7.f1
      have e12 : ∀ x, s 12 0 o x = st 12 0 o x := fun x => a7 12 0 o x (by omega)
      unfold f1_sweep_l12
      rw [hBs.1]
      refine ⟨inI_s (by omega) (by omega), fun c1 => h s a7 (fun x x0 x1 => a8 x x0 (by omega)), fun c1 => ⟨inI_s (by omega) (by omega), inI_s (by omega) (by omega), fun c2 => h s a7 (fun x x0 x1 => a8 x x0 (by omega)), fun c2 => ?_⟩⟩
      have sh := prs_sh (st := st) (o := o) hA a1 (by omega) a3 a4 a5 a6
      -- the end of the round, with the shear before the loads of m
      have E : ∀ (v c' : Int), v - st 12 0 o m * unitA A = prs st o (shB A m) → 0 ≤ c' → c' ≤ A 2 → (∀ k, 0 ≤ k → k < c' → A (6 + 2 * k) < m + 1) → (c' < A 2 → m + 1 ≤ A (6 + 2 * c')) →
          f1_sweep_j68 o b (fun st v4x12 v6x12 v8x12 v9x12 => f1_sweep_l12 o b Q (unitA A) f st v4x12 v6x12 v8x12 v9x12) Q (unitA A) s v (prs st o (mmB A m)) c' m := by
        intro v c' hv d1 d2 d3 d4
        unfold f1_sweep_j68
        rw [e12]
        refine ⟨a1, by omega, hp m a1 (by omega), ?_⟩
        rintro _ rfl
        rw [hv]
        refine ⟨a1, by omega, ?_⟩
        rintro _ rfl
        refine ⟨a1, by omega, ?_⟩
        rintro _ rfl _ rfl _ rfl
        have := ih (m + 1) c' (up (up s 15 0 o m (prs st o (mmB A m))) 14 0 o m (prs st o (shB A m))) (by omega) (by omega) d1 d2 d3 d4 ((a7.up (by omega)).up (by omega)) (fun x x0 x1 => ?_) (by omega)
        · rw [show m + 1 - 1 = m by omega, prs_mm] at this
          exact this
        · by_cases e : x = m
          · rw [e]
            refine ⟨?_, ?_⟩
            · rw [up_eq, if_pos ⟨rfl, rfl, rfl, rfl⟩]
            · rw [up_ne (by omega), up_eq, if_pos ⟨rfl, rfl, rfl, rfl⟩]
          · rw [up_ne (by omega), up_ne (by omega), up_ne (by omega), up_ne (by omega)]
            exact a8 x x0 (by omega)
      have E0 : ¬ (c < A 2 ∧ A (6 + 2 * c) = m) → f1_sweep_j68 o b (fun st v4x12 v6x12 v8x12 v9x12 => f1_sweep_l12 o b Q (unitA A) f st v4x12 v6x12 v8x12 v9x12) Q (unitA A) s (prs st o (shB A (m - 1))) (prs st o (mmB A m)) c m := fun q => by
        rw [if_neg q, Int.add_zero] at sh
        refine E _ c sh.symm a3 a4 (fun k k0 k1 => ?_) (fun c3 => ?_)
        · have := a5 k k0 k1
          omega
        · have := a6 c3
          omega
      refine W6_has hBs.2.1 (inI_s (by omega) (by omega)) (fun _ c3 => ?_) (fun c3 => ⟨inI_0, fun _ => E0 (fun q => c3 ⟨a3, by rw [hBs.2.2.2.1]; exact q.1⟩), fun e => absurd rfl e⟩)
      rw [hBs.2.2.2.1] at c3
      refine ⟨inI_1, fun e => absurd e (by omega), fun _ => ?_⟩
      have hpl := hC.2.2.2.2.1 c a3 c3
      refine W6_first hBs.2.1 (inI_s (by omega) (by omega)) (fun _ _ => ?_) (fun q => absurd ⟨a3, by rw [hBs.2.2.2.1]; exact c3⟩ q)
      rw [hBs.2.2.2.2.2.1 c a3 c3]
      refine ⟨inI_s (by omega) (by omega), inI_s (by omega) (by omega), fun e => ?_, fun e => E0 (fun q => e q.2)⟩
      unfold f1_reactionOf
      refine ⟨inI_s (by omega) (by omega), fun q => absurd q (by omega), fun _ => ⟨inI_s (by omega) (by omega), fun q => absurd q (by omega), fun _ => ⟨a3, by omega, ?_⟩⟩⟩
      have e13 : s 13 0 o c = prs st o (infA A c) := (a7 13 0 o c (by omega)).trans (hr c a3 c3)
      rw [e13]
      rintro _ rfl _ rfl
      rw [if_pos ⟨c3, e⟩] at sh
      refine E _ (c + 1) sh.symm (by omega) (by omega) (fun k k0 k1 => ?_) (fun c4 => ?_)
      · by_cases kc : k = c
        · rw [kc]
          omega
        · have := a5 k k0 (by omega)
          omega
      · have := sup_mono hA a3 (show c < c + 1 by omega) c4
        omega
  have s0 : prs st o (shB A (0 - 1)) = 0 := smE_z 31 (fun x x0 _ => by
    have : shB A (0 - 1) x = 0 := by
      unfold shB
      rw [if_pos (by omega), smE_z _ (fun k k0 k1 => if_pos (by have := (hC.2.2.2.2.1 k k0 (by omega)).1; omega))]
      rfl
    rw [this, Int.mul_zero])
  have m0 : prs st o (mmB A 0) = 0 := smE_z 31 (fun x x0 _ => by
    have : mmB A 0 x = 0 := by
      unfold mmB
      rw [if_pos (by omega), smE_z _ (fun k k0 k1 => if_pos (hC.2.2.2.2.1 k k0 (by omega)).1)]
      rfl
    rw [this, Int.mul_zero])
  have := L 100 0 0 st (by omega) (by omega) (by omega) (by omega) (fun k k0 k1 => by omega) (fun _ => (hC.2.2.2.2.1 0 (by omega) (by omega)).1) F45.rf (fun x x0 x1 => by omega) (by omega)
  rw [s0, m0] at this
  unfold f1_sweep
  exact ⟨100, this⟩
/-- the forces under T -/
def FR (st : St) (o : Int) (A : Int → Int) (T : (Int → Int) → Int) : Prop := (∀ i, 0 ≤ i → i < 5 → st 13 0 o i = if i < A 2 then T (infA A i) else 0) ∧ ∀ x, 0 ≤ x → x ≤ A 0 → st 14 0 o x = T (shB A x) ∧ st 15 0 o x = T (mmB A x)
theorem W1_balance {o b lo : Int} {A : Int → Int} {T : (Int → Int) → Int} {B : Int} {Q : St → Prop} {st : St} (hA : VF A) (hB : BR st b A) (hL : LR st lo A) (hP : PS st o A T B) (hBB : B ≤ 1000000)
    (h : ∀ s, F1 o st s → FR s o A T → Q s) : f1_balance o b lo Q st := by
  have hC := hA.1
  have l3 := hC.2.1
  have L : ∀ (m : Nat) (v : Int) (s : St), 0 ≤ v → v ≤ 31 → F13 o st s → (∀ i, 0 ≤ i → i < 5 → s 13 0 o i = if i < A 2 then smE (fun x => st 12 0 o x * infA A i x) v.toNat else 0) → 31 - v < m → f1_balance_l2 o b lo Q m s v := by
    intro m
    induction m with
    | zero => intro v s a1 a2 a3 a4 a5; omega
    | succ m ih =>
      intro v s a1 a2 a3 a4 a5
      have e12 : ∀ x, s 12 0 o x = st 12 0 o x := fun x => a3 12 0 o x (by omega)
      have hLs := hL.f1 a3.f1
      have hBs := hB.f1 a3.f1
      unfold f1_balance_l2
      refine ⟨inI_s (by omega) (by omega), fun c => ?_, fun c => ?_⟩
      · rw [hLs.2.2.1]
        have hv : v.toNat = 31 := by omega
        rw [hv] at a4
        refine W1_sweep hA hBs (fun x x0 x1 => ?_) (fun i i0 i1 => ?_) (fun s' f' t' => ?_)
        · rw [e12]
          have := hP.2.1 x x0 x1
          exact inI_s (by omega) (by omega)
        · have n5 := hC.2.2.2.1
          rw [a4 i i0 (by omega), if_pos i1, prs_ext e12]
          rfl
        · refine h s' (a3.f1.trans f'.f1) ⟨fun i i0 i1 => ?_, fun x x0 x1 => ?_⟩
          · rw [f' 13 0 o i (by omega), a4 i i0 i1]
            by_cases d : i < A 2
            · rw [if_pos d, if_pos d, ← hP.1]
              rfl
            · rw [if_neg d, if_neg d]
          · have := t' x x0 x1
            rw [prs_ext e12, prs_ext e12, hP.1, hP.1] at this
            exact this
      · rw [e12]
        have hb := hP.2.1 v a1 (by omega)
        refine ⟨a1, by omega, inI_s (by omega) (by omega), fun c2 => ?_, fun c2 => ?_⟩
        · unfold f1_balance_j23
          rintro _ rfl
          refine ih (v + 1) s (by omega) (by omega) a3 (fun i i0 i1 => ?_) (by omega)
          rw [a4 i i0 i1, smE_S _ a1, c2, Int.zero_mul, Int.add_zero]
        · have vA : v ≤ A 0 := by
            by_cases q : A 0 < v
            · exact absurd (hP.2.2.1 v a1 q (by omega)) c2
            · omega
          refine W1_holdUp hC hLs a1 vA (by rw [e12]; exact inI_s (by omega) (by omega)) (fun s' f' t' => ?_)
          unfold f1_balance_j23
          rintro _ rfl
          refine ih (v + 1) s' (by omega) (by omega) (a3.trans f') (fun i i0 i1 => ?_) (by omega)
          rw [t' i i0 i1, a4 i i0 i1, e12]
          by_cases d : i < A 2
          · rw [if_pos d, if_pos d, if_pos d, smE_S _ a1]
          · rw [if_neg d, if_neg d, if_neg d]
            rfl
  unfold f1_balance
  refine ⟨100, L 100 0 st (by omega) (by omega) F13.rf (fun i i0 i1 => ?_) (by omega)⟩
  rw [hP.2.2.2 i i0 i1]
  split <;> rfl
