def cg (a b : Int) : Int := (Int.gcd a b : Int)
theorem cg_tmod {v w : Int} (hv : 0 ≤ v) (hw : 0 < w) : cg w (Int.tmod v w) = cg v w := by
  obtain ⟨a, rfl⟩ := Int.eq_ofNat_of_zero_le hv
  obtain ⟨b, rfl⟩ := Int.eq_ofNat_of_zero_le (Int.le_of_lt hw)
  unfold cg
  rw [← Int.ofNat_tmod]
  show ((Nat.gcd b (a % b) : Nat) : Int) = ((Nat.gcd a b : Nat) : Int)
  rw [Nat.gcd_comm a b, Nat.gcd_comm b (a % b), ← Nat.gcd_rec]
theorem cg_neg_l (a b : Int) : cg (-a) b = cg a b := by unfold cg; rw [Int.neg_gcd]
theorem cg_neg_r (a b : Int) : cg a (-b) = cg a b := by unfold cg; rw [Int.gcd_neg]
theorem cg_nonneg (a b : Int) : 0 ≤ cg a b := by unfold cg; omega
theorem cg_zero {a : Int} (h : 0 ≤ a) : cg a 0 = a := by
  unfold cg
  rw [Int.gcd_zero_right]
  omega
theorem cg_ne {a b : Int} (h : ¬ a = 0) : ¬ cg a b = 0 := by
  unfold cg
  intro h2
  have h3 : Int.gcd a b = 0 := by omega
  exact h (Int.gcd_eq_zero_iff.mp h3).1
theorem cg_le {a b : Int} (h : ¬ a = 0) : cg a b ≤ a ∨ cg a b ≤ -a := by
  unfold cg
  have h1 : Int.gcd a b ≤ a.natAbs := Nat.le_of_dvd (by omega) (Nat.gcd_dvd_left _ _)
  omega
theorem common_l28 {Q : Int → St → Prop} {st : St} : ∀ (m : Nat) (v w : Int), 0 ≤ v → v ≤ 1000000000000000000 → 0 ≤ w → w ≤ 1000000000000000000 → w < m → Q (cg v w) st → f9_common_l28 Q m st v w := by
  intro m
  induction m with
  | zero => intro v w h1 h2 h3 h4 h5; omega
  | succ m ih =>
    intro v w h1 h2 h3 h4 h5 h
    have hw : inL w := inL_s (by omega) (by omega)
    unfold f9_common_l28
    refine ⟨hw, fun c => ?_, fun c => ⟨inL_s (by omega) (by omega), hw, c, ?_⟩⟩
    · rw [c, cg_zero h1] at h
      exact h
    · rintro _ rfl
      have hp : 0 < w := by omega
      have b1 := Int.tmod_nonneg w h1
      have b2 := Int.tmod_lt_of_pos v hp
      exact ih w _ h3 h4 b1 (by omega) (by omega) (by rw [cg_tmod h1 hp]; exact h)
theorem common_j26 {Q : Int → St → Prop} {st : St} {v w : Int} (h1 : 0 ≤ v) (h2 : v ≤ 1000000000000000000) (h3 : 0 ≤ w) (h4 : w ≤ 1000000000000000000) (h : Q (cg v w) st) : f9_common_j26 Q st v w := by
  unfold f9_common_j26
  exact ⟨w.toNat + 1, common_l28 _ v w h1 h2 h3 h4 (by omega) h⟩
theorem W9_common {Q : Int → St → Prop} {st : St} {a b : Int} (h1 : -1000000000000000000 ≤ a) (h2 : a ≤ 1000000000000000000) (h3 : -1000000000000000000 ≤ b) (h4 : b ≤ 1000000000000000000) (h : Q (cg a b) st) : f9_common Q st a b := by
  have J : ∀ v, 0 ≤ v → v ≤ 1000000000000000000 → Q (cg v b) st → f9_common_j12 Q b st v := by
    intro v v0 v1 hq
    unfold f9_common_j12
    refine ⟨inL_s h3 h4, fun c => common_j26 v0 v1 c h4 hq, fun c => common_j26 v0 v1 (by omega) (by omega) (by rw [cg_neg_r]; exact hq)⟩
  unfold f9_common
  exact ⟨inL_s h1 h2, fun c => J a c h2 h, fun c => J (-a) (by omega) (by omega) (by rw [cg_neg_l]; exact h)⟩
/-- the common divisor after the support s's first m places -/
def gR (A : Int → Int) (s : Int) : Nat → Int → Int
  | 0, g => g
  | m + 1, g => cg (gR A s m g) (DA A s m)
def gAll (A : Int → Int) : Nat → Int
  | 0 => DA A (-1) 0
  | s + 1 => gR A s (A 0 + 1).toNat (gAll A s)
def gA (A : Int → Int) : Int := gAll A (A 2).toNat
def unitA (A : Int → Int) : Int := Int.tdiv (DA A (-1) 0) (if 0 ≤ DA A (-1) 0 then gA A else - gA A)
def infA (A : Int → Int) (s x : Int) : Int := Int.tdiv (DA A s x) (if 0 ≤ DA A (-1) 0 then gA A else - gA A)
def gB (g : Int) : Prop := ¬ g = 0 ∧ -2916000000 ≤ g ∧ g ≤ 2916000000
theorem gB_cg {g b : Int} (h : gB g) : gB (cg g b) := by
  have h1 := cg_ne (b := b) h.1
  have h2 := cg_le (b := b) h.1
  have h3 := cg_nonneg g b
  have h4 := h.2
  exact ⟨h1, by omega, by omega⟩
theorem gB_R {A : Int → Int} {s : Int} {g : Int} (h : gB g) : ∀ m, gB (gR A s m g)
  | 0 => h
  | m + 1 => gB_cg (gB_R h m)
def bL (x : Int) : Prop := -1000000000000000000 ≤ x ∧ x ≤ 1000000000000000000
/-- nothing but the square and the line has changed, and the line's values are in range -/
def F67 (st st' : St) : Prop := (∀ K s i j, ¬ (K = 36 ∨ K = 37) → st' K s i j = st K s i j) ∧ ((∀ j, bL (st 37 0 0 j)) → ∀ j, bL (st' 37 0 0 j))
theorem F67.rf {st : St} : F67 st st := ⟨fun _ _ _ _ _ => rfl, fun h => h⟩
theorem F67.of36 {a b c : St} (h : F67 a b) (g : F36 b c) : F67 a c := ⟨fun K s i j hK => (g K s i j (fun q => hK (Or.inl q))).trans (h.1 K s i j hK), fun ha j => by rw [g 37 0 0 j (by omega)]; exact h.2 ha j⟩
theorem F67.up37 {a b : St} {i j v : Int} (h : F67 a b) (hv : bL v) : F67 a (up b 37 0 i j v) := ⟨fun K s i' j' hK => by rw [up_ne (fun q => hK (Or.inr q.1))]; exact h.1 K s i' j' hK, fun ha j' => by
  rw [up_eq]
  split
  · exact hv
  · exact h.2 ha j'⟩
theorem F67.aM {a b : St} (h : F67 a b) : aM b = aM a := by funext j; exact h.1 30 0 0 j (by omega)
theorem DA_bL {A : Int → Int} (hA : VC A) {sup x : Int} (hx : 0 ≤ x) (hx2 : x ≤ 30) : bL (DA A sup x) := by
  have := DA_b hA (sup := sup) hx hx2
  exact ⟨by omega, by omega⟩
theorem lays_l26 {B12 : St → Int → Int → Prop} {Q : St → Prop} {st0 : St} {v1 s g0 : Int} (hA : VC (aM st0)) (hs : 0 ≤ s) (hs2 : s < 5) (hg : gB g0)
    (P : St → Prop) (hP : ∀ a b, P a → (∀ j, ¬ (31 * s ≤ j ∧ j < 31 * s + 31) → b 37 0 0 j = a 37 0 0 j) → P b)
    (hB : ∀ st, F67 st0 st → P st → (∀ x, 0 ≤ x → x ≤ st0 30 0 0 0 → st 37 0 0 (31 * s + x) = DA (aM st0) s x) → B12 st (gR (aM st0) s (st0 30 0 0 0 + 1).toNat g0) (s + 1)) :
    ∀ (m k : Nat) (st : St), (k : Int) ≤ st0 30 0 0 0 + 1 → F67 st0 st → P st → (∀ x : Int, 0 ≤ x → x < (k : Int) → st 37 0 0 (31 * s + x) = DA (aM st0) s x) → st0 30 0 0 0 + 1 - k < m → f9_lays_l26 B12 Q v1 s m st (gR (aM st0) s k g0) k := by
  have hL : 2 ≤ st0 30 0 0 0 := hA.1
  have hL2 : st0 30 0 0 0 ≤ 30 := hA.2.1
  intro m
  induction m with
  | zero => intro k st a1 a2 a3 a4 a5; omega
  | succ m ih =>
    intro k st a1 a2 a3 a4 a5
    have eA := a2.aM
    have e0 : st 30 0 0 0 = st0 30 0 0 0 := congrFun eA 0
    unfold f9_lays_l26 f9_places
    rw [e0]
    refine ⟨inI_s (by omega) (by omega), inI_s (by omega) (by omega), fun c => ?_, fun c => ?_⟩
    · rintro _ rfl
      have hk : k = (st0 30 0 0 0 + 1).toNat := by omega
      rw [hk]
      exact hB st a2 a3 (fun x x0 x1 => a4 x x0 (by omega))
    · refine W9_reckons (by rw [eA]; exact hA) (by omega) hs2 (by omega) (by omega) (fun st2 h2 => ⟨by omega, by omega, ?_⟩)
      rw [eA]
      rintro _ rfl
      have hg9 := (gB_R (A := aM st0) (s := s) hg k).2
      have hd9 := DA_b hA (sup := s) (x := (k : Int)) (by omega) (by omega)
      refine W9_common (by omega) (by omega) (by omega) (by omega) ?_
      rintro _ rfl
      have := ih (k + 1) (up st2 37 0 0 (31 * s + k) (DA (aM st0) s k)) (by omega) ((a2.of36 h2).up37 (DA_bL hA (by omega) (by omega))) (hP st _ a3 (fun j hj => ?_)) (fun x x0 x1 => ?_) (by omega)
      · exact this
      · rw [up_ne (by omega)]
        exact h2 37 0 0 j (by omega)
      · rw [up_eq]
        by_cases hx : x = k
        · rw [if_pos ⟨rfl, rfl, rfl, by omega⟩, hx]
        · rw [if_neg (by omega), h2 37 0 0 _ (by omega)]
          exact a4 x x0 (by omega)
theorem tdiv_bL {a b : Int} (h : bL a) : bL (Int.tdiv a b) := by
  have h1 : (Int.tdiv a b).natAbs ≤ a.natAbs := by
    rw [Int.natAbs_tdiv]
    exact Nat.div_le_self _ _
  unfold bL at *
  omega
def FL (st st' : St) : Prop := (∀ K s i j, ¬ (K = 36 ∨ K = 37 ∨ (K = 9 ∧ s = 18)) → st' K s i j = st K s i j) ∧ ∀ j, bL (st' 37 0 0 j)
theorem lays_l91 {Q : St → Prop} {st0 : St} {d by_ : Int} {n : Int} (hn2 : 2 ≤ n) (hn5 : n ≤ 5) (hd : bL d) (hb : bL by_) (hb0 : ¬ by_ = 0) (hQ : ∀ st, (∀ K s i j, ¬ (K = 37 ∨ (K = 9 ∧ s = 18)) → st K s i j = st0 K s i j) → st 9 18 0 0 = Int.tdiv d by_ → (∀ j, 0 ≤ j → j < 31 * n → st 37 0 0 j = Int.tdiv (st0 37 0 0 j) by_) → (∀ j, bL (st 37 0 0 j)) → Q st) :
    ∀ (m : Nat) (k : Int) (st : St), 0 ≤ k → k ≤ 31 * n → st 30 0 0 2 = n → (∀ K s i j, ¬ K = 37 → st K s i j = st0 K s i j) → (∀ j, st 37 0 0 j = if 0 ≤ j ∧ j < k then Int.tdiv (st0 37 0 0 j) by_ else st0 37 0 0 j) → (∀ j, bL (st 37 0 0 j)) → 31 * n - k < m → f9_lays_l91 Q d by_ m st k := by
  intro m
  induction m with
  | zero => intro k st a1 a2 an a3 a4 a5 a6; omega
  | succ m ih =>
    intro k st a1 a2 an a3 a4 a5 a6
    unfold f9_lays_l91
    rw [an]
    refine ⟨inI_s (by omega) (by omega), inI_s (by omega) (by omega), fun c => ⟨inL_s hd.1 hd.2, inL_s hb.1 hb.2, hb0, ?_⟩, fun c => ⟨by omega, by omega, inL_s (a5 k).1 (a5 k).2, inL_s hb.1 hb.2, hb0, by omega, by omega, ?_⟩⟩
    · rintro _ rfl
      refine hQ _ (fun K s i j hK => ?_) (up_same _ _ _ _ _ _) (fun j j0 j1 => ?_) (fun j => ?_)
      · rw [up_ne (fun q => hK (Or.inr ⟨q.1, q.2.1⟩))]
        exact a3 K s i j (fun q => hK (Or.inl q))
      · rw [up_ne (by omega), a4 j, if_pos (by omega)]
      · rw [up_ne (by omega)]
        exact a5 j
    · rintro _ rfl _ rfl
      refine ih (k + 1) _ (by omega) (by omega) (by rw [up_ne (by omega)]; exact an) (fun K s i j hK => by rw [up_ne (fun q => hK q.1)]; exact a3 K s i j hK) (fun j => ?_) (fun j => ?_) (by omega)
      · rw [up_eq]
        by_cases hj : j = k
        · rw [if_pos ⟨rfl, rfl, rfl, hj⟩, if_pos (by omega), a4 k, if_neg (by omega), hj]
        · rw [if_neg (fun q => hj q.2.2.2), a4 j]
          by_cases h2 : 0 ≤ j ∧ j < k
          · rw [if_pos h2, if_pos (by omega)]
          · rw [if_neg h2, if_neg (by omega)]
      · rw [up_eq]
        split
        · exact tdiv_bL (a5 k)
        · exact a5 j
theorem lays_l12 {Q : St → Prop} {st0 : St} (hA : VC (aM st0)) (hD : ¬ DA (aM st0) (-1) 0 = 0) (hl : ∀ j, bL (st0 37 0 0 j))
    (hQ : ∀ st', FL st0 st' → st' 9 18 0 0 = unitA (aM st0) → (∀ s x, 0 ≤ s → s < st0 30 0 0 2 → 0 ≤ x → x ≤ st0 30 0 0 0 → st' 37 0 0 (31 * s + x) = infA (aM st0) s x) → Q st') :
    ∀ (m s : Nat) (st : St), (s : Int) ≤ st0 30 0 0 2 → F67 st0 st → (∀ s' x : Int, 0 ≤ s' → s' < (s : Int) → 0 ≤ x → x ≤ st0 30 0 0 0 → st 37 0 0 (31 * s' + x) = DA (aM st0) s' x) → st0 30 0 0 2 - s < m → f9_lays_l12 Q (DA (aM st0) (-1) 0) m st (gAll (aM st0) s) s := by
  have hn2 : 2 ≤ st0 30 0 0 2 := hA.2.2.1
  have hn5 : st0 30 0 0 2 ≤ 5 := hA.2.2.2.1
  have hL2 : st0 30 0 0 0 ≤ 30 := hA.2.1
  have hL1 : 2 ≤ st0 30 0 0 0 := hA.1
  have hDb := DA_b hA (sup := -1) (x := 0) (by omega) (by omega)
  have hgB : ∀ s, gB (gAll (aM st0) s) := by
    intro s
    induction s with
    | zero => exact ⟨hD, hDb.1, hDb.2⟩
    | succ s ih => exact gB_R ih _
  intro m
  induction m with
  | zero => intro s st a1 a2 a3 a4; omega
  | succ m ih =>
    intro s st a1 a2 a3 a4
    have eA := a2.aM
    have e2 : st 30 0 0 2 = st0 30 0 0 2 := congrFun eA 2
    unfold f9_lays_l12
    rw [e2]
    refine ⟨inI_s (by omega) (by omega), inI_s (by omega) (by omega), fun c => ⟨inL_s (by omega) (by omega), ?_⟩, fun c => ?_⟩
    · have hs : s = (aM st0 2).toNat := by show s = (st0 30 0 0 2).toNat; omega
      have hg : gAll (aM st0) s = gA (aM st0) := by rw [hs]; rfl
      have hgb := hgB s
      have E : ∀ b, ¬ b = 0 → bL b → b = (if 0 ≤ DA (aM st0) (-1) 0 then gA (aM st0) else - gA (aM st0)) → f9_lays_j88 Q st (DA (aM st0) (-1) 0) b := by
        intro b b0 bl hb
        unfold f9_lays_j88
        refine ⟨200, lays_l91 hn2 hn5 ⟨by omega, by omega⟩ bl b0 (fun st' f1 f2 f3 f4 => ?_) 200 0 st (by omega) (by omega) e2 (fun _ _ _ _ _ => rfl) (fun j => by rw [if_neg (by omega)]) (a2.2 hl) (by omega)⟩
        refine hQ st' ⟨fun K s i j hK => ?_, f4⟩ (by rw [f2, hb]; rfl) (fun s' x s0 s1 x0 x1 => ?_)
        · rw [f1 K s i j (fun q => hK (q.elim (fun q => Or.inr (Or.inl q)) (fun q => Or.inr (Or.inr q))))]
          exact a2.1 K s i j (fun q => hK (q.elim Or.inl (fun q => Or.inr (Or.inl q))))
        · rw [f3 (31 * s' + x) (by omega) (by omega), a3 s' x s0 (by omega) x0 x1, hb]
          rfl
      refine ⟨fun c2 => E _ hgb.1 ⟨by have := hgb.2; omega, by have := hgb.2; omega⟩ (by rw [if_pos c2, hg]), fun c2 => ?_⟩
      rintro _ rfl
      exact E _ (by have := hgb.1; omega) ⟨by have := hgb.2; omega, by have := hgb.2; omega⟩ (by rw [if_neg c2, hg])
    · refine ⟨100, lays_l26 (st0 := st0) (s := (s : Int)) (g0 := gAll (aM st0) s) hA (by omega) (by omega) (hgB s) (fun st => ∀ s' x : Int, 0 ≤ s' → s' < (s : Int) → 0 ≤ x → x ≤ st0 30 0 0 0 → st 37 0 0 (31 * s' + x) = DA (aM st0) s' x) (fun a b ha hb s' x s0 s1 x0 x1 => ?_) (fun st' f1 f2 f3 => ?_) 100 0 st (by omega) a2 a3 (fun x x0 x1 => absurd x0 (by omega)) (by omega)⟩
      · rw [hb (31 * s' + x) (by omega)]
        exact ha s' x s0 s1 x0 x1
      · have := ih (s + 1) st' (by omega) f1 (fun s' x s0 s1 x0 x1 => ?_) (by omega)
        · exact this
        · by_cases hs : s' = (s : Int)
          · rw [hs]
            exact f3 x x0 x1
          · exact f2 s' x s0 (by omega) x0 x1
theorem W9_lays {Q : St → Prop} {st : St} (hA : VC (aM st)) (hD : ¬ DA (aM st) (-1) 0 = 0) (hl : ∀ j, bL (st 37 0 0 j))
    (hQ : ∀ st', FL st st' → st' 9 18 0 0 = unitA (aM st) → (∀ s x, 0 ≤ s → s < st 30 0 0 2 → 0 ≤ x → x ≤ st 30 0 0 0 → st' 37 0 0 (31 * s + x) = infA (aM st) s x) → Q st') : f9_lays Q st := by
  unfold f9_lays
  refine W9_reckons hA (by omega) (by omega) (by omega) (by omega) (fun s hs => ?_)
  have eA : aM s = aM st := by funext j; exact hs 30 0 0 j (by omega)
  have e0 : s 30 0 0 0 = st 30 0 0 0 := congrFun eA 0
  have e2 : s 30 0 0 2 = st 30 0 0 2 := congrFun eA 2
  rw [← eA]
  refine ⟨100, lays_l12 (st0 := s) (by rw [eA]; exact hA) (by rw [eA]; exact hD) (fun j => by rw [hs 37 0 0 j (by omega)]; exact hl j) (fun st' f1 f2 f3 => ?_) 100 0 s (by have := hA.2.2.1; have h9 : 2 ≤ st 30 0 0 2 := this; omega) F67.rf (fun s' x s0 s1 _ _ => absurd s0 (by omega)) (by have h9 : st 30 0 0 2 ≤ 5 := hA.2.2.2.1; omega)⟩
  rw [eA] at f2 f3
  rw [e0, e2] at f3
  exact hQ st' ⟨fun K s2 i j hK => (f1.1 K s2 i j hK).trans (hs K s2 i j (fun q => hK (Or.inl q))), f1.2⟩ f2 f3
theorem W9_isStanding {Q : Int → St → Prop} {st : St} (hA : VC (aM st)) (h : ∀ s, F36 st s → Q (if DA (aM st) (-1) 0 = 0 then 0 else 1) s) : f9_isStanding Q st := by
  unfold f9_isStanding
  refine W9_reckons hA (by omega) (by omega) (by omega) (by omega) (fun s hs => ?_)
  have hb := DA_b hA (sup := -1) (x := 0) (by omega) (by omega)
  have := h s hs
  refine ⟨inL_s (by omega) (by omega), fun c => ?_, fun c => ?_⟩
  · rwa [if_pos c] at this
  · rwa [if_neg c] at this
