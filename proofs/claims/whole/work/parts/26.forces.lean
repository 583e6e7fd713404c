/-! the class's Forces -/
def F1 (o : Int) (st st' : St) : Prop := ∀ K s i j, ¬ ((K = 12 ∨ K = 13 ∨ K = 14 ∨ K = 15 ∨ K = 1) ∧ i = o) → st' K s i j = st K s i j
theorem F1.rf {o : Int} {st : St} : F1 o st st := fun _ _ _ _ _ => rfl
theorem F1.trans {o : Int} {a b c : St} (h : F1 o a b) (g : F1 o b c) : F1 o a c := fun K s i j hK => (g K s i j hK).trans (h K s i j hK)
theorem F1.up {o : Int} {st0 st : St} {K s : Nat} {j v : Int} (h : F1 o st0 st) (hK : K = 12 ∨ K = 13 ∨ K = 14 ∨ K = 15 ∨ K = 1) : F1 o st0 (up st K s o j v) := fun K' s' i' j' h' => by rw [up_ne (fun q => h' ⟨by rw [q.1]; exact hK, q.2.2.1⟩)]; exact h K' s' i' j' h'
/-- the beam b is A -/
def BF (st : St) (b : Int) (A : Int → Int) : Prop := BR st b A ∧ st 0 1 b 0 = A 1 ∧ RW st (4 * b + 2) ∧ RW st (4 * b + 3) ∧ st 6 2 (4 * b + 2) 0 = A 4 ∧ st 6 2 (4 * b + 3) 0 = A 5 ∧ (∀ k, 0 ≤ k → k < A 2 → st 11 0 (4 * b) k = A (6 + 2 * k + 1)) ∧ (∀ k, 0 ≤ k → k < A 4 → st 10 0 (4 * b + 2) k = A (19 + 2 * k) ∧ st 11 0 (4 * b + 2) k = A (19 + 2 * k + 1)) ∧ ∀ k, 0 ≤ k → k < A 5 → st 10 0 (4 * b + 3) k = A (35 + 2 * k) ∧ st 11 0 (4 * b + 3) k = A (35 + 2 * k + 1)
theorem RW.fr {st st' : St} {r : Int} (h : RW st r) (hf : ∀ K s i j, K = 0 ∨ K = 6 ∨ K = 10 ∨ K = 11 → st' K s i j = st K s i j) : RW st' r := by
  unfold RW at h ⊢
  rw [hf 6 2 r 0 (by omega)]
  exact h
theorem BF.fr {st st' : St} {b : Int} {A : Int → Int} (h : BF st b A) (hf : ∀ K s i j, K = 0 ∨ K = 6 ∨ K = 10 ∨ K = 11 → st' K s i j = st K s i j) : BF st' b A := by
  obtain ⟨h1, h2, h3, h4, h5, h6, h7, h8, h9⟩ := h
  refine ⟨h1.fr (fun K s i j hK => hf K s i j (by omega)), (hf 0 1 b 0 (by omega)).trans h2, h3.fr hf, h4.fr hf, (hf 6 2 _ 0 (by omega)).trans h5, (hf 6 2 _ 0 (by omega)).trans h6, fun k a c => (hf 11 0 _ k (by omega)).trans (h7 k a c), fun k a c => ?_, fun k a c => ?_⟩
  · exact ⟨(hf 10 0 _ k (by omega)).trans (h8 k a c).1, (hf 11 0 _ k (by omega)).trans (h8 k a c).2⟩
  · exact ⟨(hf 10 0 _ k (by omega)).trans (h9 k a c).1, (hf 11 0 _ k (by omega)).trans (h9 k a c).2⟩
theorem BF.f1 {st st' : St} {b o : Int} {A : Int → Int} (h : BF st b A) (hf : F1 o st st') : BF st' b A := h.fr (fun K s i j hK => hf K s i j (by omega))
theorem BR.f1 {st st' : St} {b o : Int} {A : Int → Int} (h : BR st b A) (hf : F1 o st st') : BR st' b A := h.fr (fun K s i j hK => hf K s i j (by omega))
theorem LR.f1 {st st' : St} {lo o : Int} {A : Int → Int} (h : LR st lo A) (hf : F1 o st st') : LR st' lo A := ⟨(hf 3 2 lo 0 (by omega)).trans h.1, (hf 3 3 lo 0 (by omega)).trans h.2.1, (hf 3 4 lo 0 (by omega)).trans h.2.2.1, fun i x a c d e => (hf 20 0 _ x (by omega)).trans (h.2.2.2 i x a c d e)⟩
def prs (st : St) (o : Int) (f : Int → Int) : Int := smE (fun x => st 12 0 o x * f x) 31
/-- what presses: the sum over it of each f, a bound, and nothing behind the end -/
def PS (st : St) (o : Int) (A : Int → Int) (T : (Int → Int) → Int) (B : Int) : Prop := (∀ f, prs st o f = T f) ∧ (∀ x, 0 ≤ x → x < 31 → -B ≤ st 12 0 o x ∧ st 12 0 o x ≤ B) ∧ (∀ x, 0 ≤ x → A 0 < x → x < 31 → st 12 0 o x = 0) ∧ ∀ i, 0 ≤ i → i < 5 → st 13 0 o i = 0
theorem smE_z {f : Int → Int} (m : Nat) (h : ∀ e : Int, 0 ≤ e → e < m → f e = 0) : smE f m = 0 := by
  have e1 : smE f m = smE (fun _ => 0) m := smE_ext m h
  rw [e1]
  clear e1 h
  induction m with
  | zero => rfl
  | succ m ih => unfold smE; rw [ih]; rfl
theorem smE_up {g f : Int → Int} {a w : Int} (ha : 0 ≤ a) : ∀ m : Nat, smE (fun x => (if x = a then g a + w else g x) * f x) m = smE (fun x => g x * f x) m + if a < m then w * f a else 0 := by
  intro m
  induction m with
  | zero => rw [if_neg (by omega)]; rfl
  | succ m ih =>
    unfold smE
    rw [ih]
    by_cases c : (m : Int) = a
    · rw [if_pos c, if_neg (by omega), if_pos (by omega), c, Int.add_mul]
      omega
    · rw [if_neg c]
      by_cases d : a < m
      · rw [if_pos d, if_pos (by omega)]
        omega
      · rw [if_neg d, if_neg (by omega)]
        omega
theorem W1_liftAll {o : Int} {A : Int → Int} {Q : St → Prop} {st : St} (h : ∀ s, F1 o st s → PS s o A (fun _ => 0) 0 → Q s) : f1_liftAll o Q st := by
  have L2 : ∀ (m : Nat) (v : Int) (s : St), 0 ≤ v → v ≤ 5 → F1 o st s → (∀ x, 0 ≤ x → x < 31 → s 12 0 o x = 0) → (∀ i, 0 ≤ i → i < v → s 13 0 o i = 0) → 5 - v < m → f1_liftAll_l23 o Q m s v := by
    intro m
    induction m with
    | zero => intro v s a1 a2 a3 a4 a5 a6; omega
    | succ m ih =>
      intro v s a1 a2 a3 a4 a5 a6
      unfold f1_liftAll_l23
      refine ⟨inI_s (by omega) (by omega), fun c => ?_, fun c => ⟨a1, by omega, ?_⟩⟩
      · rintro _ rfl
        have z : ∀ x, 0 ≤ x → x < 31 → up s 1 4 o 0 0 12 0 o x = 0 := fun x x0 x1 => (up_ne (by omega)).trans (a4 x x0 x1)
        refine h _ (a3.up (by omega)) ⟨fun f => smE_z 31 (fun x x0 x1 => by rw [z x x0 (by omega), Int.zero_mul]), fun x x0 x1 => by rw [z x x0 x1]; omega, fun x xn x0 x1 => z x xn x1, fun i i0 i1 => (up_ne (by omega)).trans (a5 i i0 (by omega))⟩
      · rintro _ rfl _ rfl
        refine ih (v + 1) _ (by omega) (by omega) (a3.up (by omega)) (fun x x0 x1 => (up_ne (by omega)).trans (a4 x x0 x1)) (fun i i0 i1 => ?_) (by omega)
        rw [up_eq]
        by_cases e : i = v
        · rw [if_pos ⟨rfl, rfl, rfl, e⟩]
        · rw [if_neg (by omega)]
          exact a5 i i0 (by omega)
  have L1 : ∀ (m : Nat) (v : Int) (s : St), 0 ≤ v → v ≤ 31 → F1 o st s → (∀ x, 0 ≤ x → x < v → s 12 0 o x = 0) → 31 - v < m → f1_liftAll_l2 o Q m s v := by
    intro m
    induction m with
    | zero => intro v s a1 a2 a3 a4 a5; omega
    | succ m ih =>
      intro v s a1 a2 a3 a4 a5
      unfold f1_liftAll_l2
      refine ⟨inI_s (by omega) (by omega), fun c => ⟨100, L2 100 0 s (by omega) (by omega) a3 (fun x x0 x1 => a4 x x0 (by omega)) (fun i i0 i1 => by omega) (by omega)⟩, fun c => ⟨a1, by omega, ?_⟩⟩
      rintro _ rfl _ rfl
      refine ih (v + 1) _ (by omega) (by omega) (a3.up (by omega)) (fun x x0 x1 => ?_) (by omega)
      rw [up_eq]
      by_cases e : x = v
      · rw [if_pos ⟨rfl, rfl, rfl, e⟩]
      · rw [if_neg (by omega)]
        exact a4 x x0 (by omega)
  unfold f1_liftAll
  exact ⟨100, L1 100 0 st (by omega) (by omega) F1.rf (fun x x0 x1 => by omega) (by omega)⟩
theorem W0_hasPlace {b : Int} {Q : Int → St → Prop} {st : St} {v : Int} {A : Int → Int} (hB : BR st b A) (hA : VC A) (hv : inI v) (h : Q (if 0 ≤ v ∧ v ≤ A 0 then 1 else 0) st) : f0_hasPlace b Q st v := by
  have l2 : 2 ≤ A 0 := hA.1
  have l3 : A 0 ≤ 30 := hA.2.1
  unfold f0_hasPlace
  rw [hB.1]
  refine ⟨hv, fun c => ?_, fun c => ⟨hv, inI_s (by omega) (by omega), fun c2 => ?_, fun c2 => ⟨hv, fun c3 => absurd c3 (by omega), fun c3 => ?_⟩⟩⟩
  · rwa [if_neg (by omega)] at h
  · rwa [if_neg (by omega)] at h
  · rwa [if_pos (by omega)] at h
theorem W1_press {o b : Int} {A : Int → Int} {Q : St → Prop} {st : St} {T : (Int → Int) → Int} {B w pl : Int} (hB : BR st b A) (hA : VC A) (hP : PS st o A T B) (hw : 0 ≤ w) (hw2 : w ≤ 999) (hp : inI pl)
    (h : ∀ s, F1 o st s → PS s o A (fun f => T f + if 0 ≤ pl ∧ pl ≤ A 0 then w * f pl else 0) (B + 999) → Q s) : f1_press o b Q st w pl := by
  have l3 : A 0 ≤ 30 := hA.2.1
  unfold f1_press
  refine W0_hasPlace hB hA hp ?_
  by_cases c : 0 ≤ pl ∧ pl ≤ A 0
  · rw [if_pos c]
    refine ⟨inI_1, fun e => absurd e (by omega), fun _ => ⟨c.1, by omega, c.1, by omega, ?_⟩⟩
    rintro _ rfl _ rfl
    have ev : ∀ x, up (up st 12 0 o pl (st 12 0 o pl + w)) 1 4 o 0 (up st 12 0 o pl (st 12 0 o pl + w) 1 4 o 0 + w) 12 0 o x = if x = pl then st 12 0 o pl + w else st 12 0 o x := fun x => by
      rw [up_ne (by omega), up_eq]
      by_cases e : x = pl
      · rw [if_pos ⟨rfl, rfl, rfl, e⟩, if_pos e]
      · rw [if_neg (by omega), if_neg e]
    refine h _ ((F1.rf.up (by omega)).up (by omega)) ⟨fun f => ?_, fun x x0 x1 => ?_, fun x xn x0 x1 => ?_, fun i i0 i1 => ?_⟩
    · unfold prs
      simp only [ev]
      rw [smE_up (g := fun x => st 12 0 o x) c.1 31, if_pos c, if_pos (by omega)]
      rw [← hP.1 f]
      rfl
    · rw [ev]
      have := hP.2.1 x x0 x1
      have := hP.2.1 pl c.1 (by omega)
      split <;> omega
    · rw [ev, if_neg (by omega)]
      exact hP.2.2.1 x xn x0 x1
    · rw [up_ne (by omega), up_ne (by omega)]
      exact hP.2.2.2 i i0 i1
  · rw [if_neg c]
    refine ⟨inI_0, fun _ => h st F1.rf ⟨fun f => ?_, fun x x0 x1 => ?_, hP.2.2.1, hP.2.2.2⟩, fun e => absurd rfl e⟩
    · show prs st o f = T f + if 0 ≤ pl ∧ pl ≤ A 0 then w * f pl else 0
      rw [if_neg c, Int.add_zero]
      exact hP.1 f
    · have := hP.2.1 x x0 x1
      omega
