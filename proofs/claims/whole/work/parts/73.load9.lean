/-! load, the reference's side -/
theorem MS.fr {st st' : St} {A : Int → Int} {n : Int} {B : Int → Int → Int} {F : Int → Int} {S : Int → Int → Int} (h : MS st A n B F S) (hf : ∀ K s i j, (K = 30 ∧ (i = 0 ∨ i = 2 ∨ i = 3)) ∨ K = 37 ∨ (K = 9 ∧ s = 5) ∨ K = 34 → st' K s i j = st K s i j) : MS st' A n B F S := by
  obtain ⟨h1, h2, h3, h4, h5, h6, h7, h8⟩ := h
  refine ⟨?_, h2, fun j => by rw [hf 37 0 0 j (by omega)]; exact h3 j, fun j hj => (hf 30 0 0 j (by omega)).trans (h4 j hj), (hf 9 5 0 0 (by omega)).trans h5, h6, fun k a b => ?_, fun i a b => ⟨(hf 34 0 0 i (by omega)).trans (h8 i a b).1, (h8 i a b).2.1, fun q => ?_⟩⟩
  · rw [← h1]
    funext j
    exact hf 30 0 0 j (by omega)
  · rw [← h7 k a b]
    exact nA_ext (fun j _ _ => hf 30 0 2 _ (by omega))
  · rw [← (h8 i a b).2.2 q]
    exact nA_ext (fun j _ _ => hf 30 0 3 _ (by omega))
theorem RX.up {st0 s : St} {T : Int → Int} {n c p i v : Int} (h : RX st0 s T n c p) (h0 : 0 ≤ i) (h1 : i < 47) : RX st0 (up s 30 0 0 i v) T n c p := by
  obtain ⟨x1, x2, x3, x4, x5, x6, x7, x8⟩ := h
  refine ⟨fun K s2 i j hK => (up_ne (by omega)).trans (x1 K s2 i j hK), x2.fr (fun K s2 i j hK => up_ne (by omega)), (up_ne (by omega)).trans x3, x4, x5, (up_ne (by omega)).trans x6, ?_, ?_⟩
  · rw [up_ne (by omega)]; exact x7
  · rw [up_ne (by omega)]; exact x8
theorem W9_loop {st0 : St} {T : Int → Int} {n : Int} {E : Int → Int → Prop} {Q : Int → St → Prop} {K : (Int → Int) → Prop} (hn : 0 ≤ n) (hn2 : n ≤ 500) (hB : TB T n) (hk : ∀ A t s, K A → RD st0 s T n t A → kdT T n t = 0 → PV A → f9_load_j149 Q s) (he : ∀ c p s, E c p → RX st0 s T n c p → f9_load_j149 Q s) : ∀ (f g t : Nat) (A : Int → Int) (s : St), RD st0 s T n t A → PV A → n - tkS T n t < g → n - tkS T n t + 1 < f → sLoop T n K E g A t → f9_load_l116 Q f s 1 := by
  intro f
  induction f with
  | zero =>
    intro g t A s h hP g1 f1 k
    have tb := tkS_b (T := T) hn t
    omega
  | succ f ih =>
    intro g t A s h hP g1 f1 k
    have tb := tkS_b (T := T) hn t
    cases g with
    | zero => omega
    | succ g =>
      cases f with
      | zero => omega
      | succ f =>
        unfold sLoop at k
        have endX : ∀ c p s', E c p → RX st0 s' T n c p → f9_load_l116 Q (f + 1) s' 0 := fun c p s' e x => by
          have hx := he c p s' e x
          obtain ⟨h1, h2, h3, h4, h5, h6, h7, h8⟩ := x
          unfold f9_load_l116
          rw [h3]
          exact ⟨inI_0', fun _ => ⟨h5, fun z => absurd z h4, fun _ => hx⟩, fun z => absurd rfl z⟩
        unfold f9_load_l116
        refine ⟨inI_1, fun z => absurd z (by omega), fun _ => ?_⟩
        by_cases d : kdT T n t = 0
        · refine W9_noStmt hn hn2 hB h d ?_
          unfold f9_load_l116
          rw [h.2.2.1, h.2.2.2.2.2.2.1, d]
          exact ⟨inI_0', fun _ => ⟨inI_0', fun _ => ⟨kd9_i, fun _ => hk A t s (k.1 d) h d hP, fun z => absurd rfl z⟩, fun z => absurd rfl z⟩, fun z => absurd rfl z⟩
        · refine W9_stmt hn hn2 hB h hP (fun t' A' lt q s' r hp => ?_) endX (fun e => ?_) (k.2 d)
          · have := tkS_lt (kdT_lt d) hn lt
            exact ih g t' A' s' r hp (by omega) (by omega) q
          · unfold f9_load_l116
            rw [h.2.2.1, h.2.2.2.2.2.2.1]
            refine ⟨inI_0', fun _ => ⟨inI_0', fun _ => ⟨kd9_i, fun z => ?_, fun _ => W9_fails (by omega) (inI_s (by omega) (by omega)) hn h (fun s' x => he _ _ s' e x)⟩, fun z => absurd rfl z⟩, fun z => absurd rfl z⟩
            exfalso
            unfold kd9 at z
            rw [if_neg d] at z
            repeat' split at z
            all_goals omega
def FLm (st st' : St) : Prop := ∀ K s i j, (K = 30 ∧ i = 6) ∨ (K = 9 ∧ s = 21) → st' K s i j = st K s i j
theorem W9_load {A : Int → Int} {n : Int} {B : Int → Int → Int} {F : Int → Int} {S : Int → Int → Int} {Q : Int → St → Prop} {st : St} {T : Int → Int} {len : Int} {K : (Int → Int) → Prop} {E : Int → Int → Prop} (h : MS st A n B F S) (hT : TXm st len T) (hn : 0 ≤ len) (hn2 : len ≤ 500) (hB : TB T len)
    (hk : ∀ A' s, K A' → HG A' → FLm st s → MS s A' (pushN n) (pushB n B A) F S → s 9 6 0 0 = 0 → s 9 8 0 0 = 0 → s 9 15 0 0 = -1 → Q (A' 2) s) (he : ∀ c p s, E c p → FLm st s → MS s A n B F S → s 9 6 0 0 = 0 → s 9 8 0 0 = 0 → s 9 15 0 0 = p → Q c s) (k : sLoad T len K E) : f9_load Q st := by
  have m0 := mlen0
  have m1 := mlen1
  unfold f9_load
  rintro _ rfl _ rfl _ rfl
  refine W9_copies (by omega) (by omega) (by omega) (by omega) (by omega) ?_
  have k1 : ∀ j, 0 ≤ j → j < 47 → cpyN (up (up (up st 9 6 0 0 0) 9 10 0 0 0) 9 13 0 0 0) 1 0 0 0 47 30 0 1 j = A j := fun j j0 j1 => by
    have t2 := cpyN_in (st := up (up (up st 9 6 0 0 0) 9 10 0 0 0) 9 13 0 0 0) (d := 1) (a := 0) (s := 0) (b := 0) (m := 47) j0 j1
    rw [Int.zero_add] at t2
    rw [t2, up_ne (by omega), up_ne (by omega), up_ne (by omega)]
    exact congrFun h.1 j
  generalize es : cpyN (up (up (up st 9 6 0 0 0) 9 10 0 0 0) 9 13 0 0 0) 1 0 0 0 47 = s5 at k1
  have g5 : ∀ K s i j, ¬ ((K = 30 ∧ i = 1) ∨ (K = 9 ∧ (s = 6 ∨ s = 10 ∨ s = 13))) → s5 K s i j = st K s i j := fun K s i j hK => by rw [← es, cpyN_out (by omega), up_ne (by omega), up_ne (by omega), up_ne (by omega)]
  have e6 : s5 9 6 0 0 = 0 := by rw [← es, cpyN_out (by omega), up_ne (by omega), up_ne (by omega), up_eq, if_pos ⟨rfl, rfl, rfl, rfl⟩]
  have e10 : s5 9 10 0 0 = 0 := by rw [← es, cpyN_out (by omega), up_ne (by omega), up_eq, if_pos ⟨rfl, rfl, rfl, rfl⟩]
  have e13 : s5 9 13 0 0 = 0 := by rw [← es, cpyN_out (by omega), up_eq, if_pos ⟨rfl, rfl, rfl, rfl⟩]
  have main : ∀ s7, FA s5 s7 → aM s7 = (fun _ => 0) → f9_next (fun st9 => f9_isWord 0 (fun z10 st11 => f9_must (fun st13 => f9_takes (fun z14 st15 => ∀ st16 : St, st16 = up st15 30 0 0 0 z14 → f9_isWord 1 (fun z17 st18 => f9_must (fun st20 => f9_takes (fun z21 st22 => ∀ st23 : St, st23 = up st22 30 0 0 1 z21 → f9_mustEnd (fun st25 => inI (st25 9 13 0 0) ∧ ((st25 9 13 0 0 = 0 → f9_load_j115 Q st25 1) ∧ (¬ st25 9 13 0 0 = 0 → f9_load_j115 Q st25 0))) st23) st20 1 999999) st18 z17) st16) st13 2 30) st11 z10) st9) s7 := fun s7 f7 z7 => by
    have g7 : ∀ K s i j, ¬ ((K = 30 ∧ i = 1) ∨ (K = 30 ∧ s = 0 ∧ i = 0 ∧ 0 ≤ j ∧ j < 47) ∨ (K = 9 ∧ (s = 6 ∨ s = 10 ∨ s = 13))) → s7 K s i j = st K s i j := fun K s i j hK => (f7 K s i j (by omega)).trans (g5 K s i j (by omega))
    have hT7 : TXm s7 len T := hT.fr (fun K s i j hK => g7 K s i j (by omega))
    have c6 : s7 9 6 0 0 = 0 := (f7 9 6 0 0 (by omega)).trans e6
    have c10 : s7 9 10 0 0 = 0 := (f7 9 10 0 0 (by omega)).trans e10
    have c13 : s7 9 13 0 0 = 0 := (f7 9 13 0 0 (by omega)).trans e13
    have a7 : ∀ j, 0 ≤ j → j < 47 → s7 30 0 1 j = A j := fun j j0 j1 => (f7 30 0 1 j (by omega)).trans (k1 j j0 j1)
    have xEnd : ∀ c p s, E c p → RX s7 s T len c p → f9_load_j209 Q s := fun c p s e x => by
      obtain ⟨h1, h2, h3, h4, h5, h6, h7, h8⟩ := x
      unfold f9_load_j209
      rw [h3]
      refine ⟨h5, fun z => absurd z h4, fun _ => ?_⟩
      unfold f9_load_j225
      rw [h6]
      rintro _ rfl _ rfl
      have w13 : up (up s 9 15 0 0 p) 9 8 0 0 0 9 13 0 0 = c := by rw [up_ne (by omega), up_ne (by omega)]; exact h3
      rw [w13]
      refine ⟨h5, fun z => absurd z h4, fun _ => ?_⟩
      refine W9_copies (by omega) (by omega) (by omega) (by omega) (by omega) ?_
      unfold f9_load_j253
      have w13' : cpyN (up (up s 9 15 0 0 p) 9 8 0 0 0) 0 0 1 0 47 9 13 0 0 = c := (cpyN_out (by omega)).trans w13
      rw [w13']
      refine ⟨h5, fun z => absurd z h4, fun _ => ?_⟩
      have gg : ∀ K s2 i j, ¬ ((K = 30 ∧ i = 1) ∨ K = 36 ∨ (K = 9 ∧ (s2 = 6 ∨ s2 = 8 ∨ s2 = 9 ∨ s2 = 10 ∨ s2 = 11 ∨ s2 = 12 ∨ s2 = 13 ∨ s2 = 14 ∨ s2 = 15))) → cpyN (up (up s 9 15 0 0 p) 9 8 0 0 0) 0 0 1 0 47 K s2 i j = st K s2 i j := fun K s2 i j hK => by
        by_cases z : K = 30 ∧ s2 = 0 ∧ i = 0 ∧ 0 ≤ j ∧ j < 47
        · obtain ⟨rfl, rfl, rfl, j0, j1⟩ := z
          have t2 := cpyN_in (st := up (up s 9 15 0 0 p) 9 8 0 0 0) (d := 0) (a := 0) (s := 1) (b := 0) (m := 47) j0 j1
          rw [Int.zero_add] at t2
          rw [t2, up_ne (by omega), up_ne (by omega), h1 30 0 1 j (by omega), a7 j j0 j1]
          exact (congrFun h.1 j).symm
        · rw [cpyN_out (by omega), up_ne (by omega), up_ne (by omega), h1 K s2 i j (by omega), g7 K s2 i j (by omega)]
      refine he c p _ e (fun K s2 i j hK => gg K s2 i j (by omega)) (h.fr (fun K s2 i j hK => gg K s2 i j (by omega))) ?_ ?_ ?_
      · rw [cpyN_out (by omega), up_ne (by omega), up_ne (by omega), h1 9 6 0 0 (by omega)]; exact c6
      · rw [cpyN_out (by omega), up_eq, if_pos ⟨rfl, rfl, rfl, rfl⟩]
      · rw [cpyN_out (by omega), up_ne (by omega), up_eq, if_pos ⟨rfl, rfl, rfl, rfl⟩]
    have x189 : ∀ c p s, E c p → RX s7 s T len c p → f9_load_j189 Q s := fun c p s e x => by
      have hx := xEnd c p s e x
      obtain ⟨h1, h2, h3, h4, h5, h6, h7, h8⟩ := x
      unfold f9_load_j189
      rw [h3]
      exact ⟨h5, fun z => absurd z h4, fun _ => hx⟩
    have x149 : ∀ c p s, E c p → RX s7 s T len c p → f9_load_j149 Q s := fun c p s e x => by
      have hx := x189 c p s e x
      obtain ⟨h1, h2, h3, h4, h5, h6, h7, h8⟩ := x
      unfold f9_load_j149
      rw [h3]
      exact ⟨h5, fun z => absurd z h4, fun _ => hx⟩
    have x115 : ∀ c p s, E c p → RX s7 s T len c p → f9_load_j115 Q s 0 := fun c p s e x => by
      have hx := x149 c p s e x
      obtain ⟨h1, h2, h3, h4, h5, h6, h7, h8⟩ := x
      unfold f9_load_j115
      refine ⟨1, ?_⟩
      unfold f9_load_l116
      rw [h3]
      exact ⟨inI_0', fun _ => ⟨h5, fun z => absurd z h4, fun _ => hx⟩, fun z => absurd rfl z⟩
    have x3 : ∀ c p s, E c p → RX s7 s T len c p → inI (s 9 13 0 0) ∧ ((s 9 13 0 0 = 0 → f9_load_j115 Q s 1) ∧ (¬ s 9 13 0 0 = 0 → f9_load_j115 Q s 0)) := fun c p s e x => by
      have hx := x115 c p s e x
      obtain ⟨h1, h2, h3, h4, h5, h6, h7, h8⟩ := x
      rw [h3]
      exact ⟨h5, fun z => absurd z h4, fun _ => hx⟩
    refine W9_next hT7 hB hn hn2 c10 (by omega) (by omega) (fun s8 f8 q1 q2 q3 q4 => ?_)
    have r0 : RD s7 s8 T len 0 (fun _ => 0) := ⟨fun K s2 i j hK => f8 K s2 i j (by omega), hT7.fr (fun K s2 i j hK => f8 K s2 i j (by omega)), (f8 9 13 0 0 (by omega)).trans c13, by rw [← z7]; funext j; exact f8 30 0 0 j (by omega), q1, q2, q3, q4⟩
    unfold sLoad sText sHead at k
    refine W9_mustWord (by omega) hn hn2 hB r0 (fun k s9 r1 => ?_) (fun c p s e x => ?_) k
    · refine W9_takes hn hn2 hB (inI_s (by omega) (by omega)) (inI_s (by omega) (by omega)) r1 (fun len' v0 v1 _ _ k s10 r2 => ?_) (fun c p s e x => ?_) k
      · rintro _ rfl
        have r2' : RD s7 (up s10 30 0 0 0 len') T len 2 (upA (fun _ => 0) 0 len') := r2.put (FA.rf.up (by omega) (by omega)) (by
          funext j
          show up s10 30 0 0 0 len' 30 0 0 j = upA (fun _ => 0) 0 len' j
          unfold upA
          rw [up_eq]
          by_cases q : j = 0
          · rw [if_pos ⟨rfl, rfl, rfl, q⟩, if_pos q]
          · rw [if_neg (fun z => q z.2.2.2), if_neg q]
            exact congrFun r2.2.2.2.1 j)
        refine W9_mustWord (by omega) hn hn2 hB r2' (fun k s11 r3 => ?_) (fun c p s e x => ?_) k
        · refine W9_takes hn hn2 hB inI_1 (inI_s (by omega) (by omega)) r3 (fun mo mo0 mo1 _ _ k s12 r4 => ?_) (fun c p s e x => ?_) k
          · rintro _ rfl
            have r4' : RD s7 (up s12 30 0 0 1 mo) T len 4 (upA (upA (fun _ => 0) 0 len') 1 mo) := r4.put (FA.rf.up (by omega) (by omega)) (by
              funext j
              show up s12 30 0 0 1 mo 30 0 0 j = upA (upA (fun _ => 0) 0 len') 1 mo j
              rw [show upA (upA (fun _ => 0) 0 len') 1 mo j = if j = 1 then mo else upA (fun _ => 0) 0 len' j from rfl, up_eq]
              by_cases q : j = 1
              · rw [if_pos ⟨rfl, rfl, rfl, q⟩, if_pos q]
              · rw [if_neg (fun z => q z.2.2.2), if_neg q]
                exact congrFun r4.2.2.2.1 j)
            refine W9_mustEnd hn hn2 hB r4' (fun k s13 r5 => ?_) (fun c p s e x => x3 c p s e x) k
            rw [r5.2.2.1]
            refine ⟨inI_0', fun _ => ?_, fun z => absurd rfl z⟩
            have p7 : PV (upA (upA (fun _ => 0) 0 len') 1 mo) := by
              have z : ∀ j, ¬ j = 0 ∧ ¬ j = 1 → upA (upA (fun _ => 0) 0 len') 1 mo j = 0 := fun j hj => (upA_ne hj.2).trans (upA_ne hj.1)
              have z0 : upA (upA (fun _ => 0) 0 len') 1 mo 0 = len' := rfl
              have z1 : upA (upA (fun _ => 0) 0 len') 1 mo 1 = mo := rfl
              have z2 := z 2 (by omega)
              have z3 := z 3 (by omega)
              have z4 := z 4 (by omega)
              have z5 := z 5 (by omega)
              exact ⟨by omega, by omega, by omega, by omega, by omega, by omega, fun k k0 k1 => by omega, fun k k0 k1 => by omega, ⟨fun k k0 k1 => by omega, fun k k0 k1 => by omega⟩, fun k k0 k1 => by omega, fun k k0 k1 => by omega⟩
            have tb := tkS_b (T := T) hn 5
            unfold f9_load_j115
            refine ⟨1000, W9_loop hn hn2 hB (fun A' t s kA r kt hp => ?_) x149 1000 600 5 _ s13 r5 p7 (by omega) (by omega) k⟩
            have tn : tkS T len t = len := by
              have b := tkS_b (T := T) hn t
              by_cases c : tkS T len t < len
              · have kb := kdX_b (T (tkS T len t))
                unfold kdT at kt
                rw [if_pos c] at kt
                omega
              · omega
            have a2 := hp.2.2.1
            have a3 := hp.2.2.2.1
            have E2 : s 30 0 0 2 = A' 2 := congrFun r.2.2.2.1 2
            have E3 : s 30 0 0 3 = A' 3 := congrFun r.2.2.2.1 3
            have bad : (A' 2 < 2 ∨ ¬ A' 3 = A' 2 - 2) → f9_load_j183 Q s := fun q => by
              unfold f9_load_j183
              exact W9_fails (by omega) (inI_s (by omega) (by omega)) hn r (fun s' x => x189 _ _ s' (by rw [tn]; exact kA.1 q) x)
            unfold f9_load_j149
            rw [r.2.2.1, E2, E3]
            refine ⟨inI_0', fun _ => ⟨inI_s (by omega) (by omega), fun c => bad (Or.inl c), fun c => ⟨inI_s (by omega) (by omega), inI_s (by omega) (by omega), fun d => ?_, fun d => bad (Or.inr d)⟩⟩, fun z => absurd rfl z⟩
            have kA2 := kA.2 (fun q => by omega)
            unfold f9_load_j189
            rw [r.2.2.1]
            refine ⟨inI_0', fun _ => ?_, fun z => absurd rfl z⟩
            refine W9_isStanding (by rw [r.2.2.2.1]; exact hp.vc (by omega) d) (fun s14 f14 => ?_)
            rw [r.2.2.2.1]
            have r' : RD s7 s14 T len t A' := by
              obtain ⟨o1, o2, o3, o4, o5, o6, o7, o8⟩ := r
              exact ⟨fun K s2 i j hK => (f14 K s2 i j (by omega)).trans (o1 K s2 i j hK), o2.fr (fun K s2 i j hK => f14 K s2 i j (by omega)), (f14 9 13 0 0 (by omega)).trans o3, by rw [← o4]; funext j; exact f14 30 0 0 j (by omega), (f14 9 9 0 0 (by omega)).trans o5, (f14 9 10 0 0 (by omega)).trans o6, (f14 9 11 0 0 (by omega)).trans o7, fun k => (f14 9 12 0 0 (by omega)).trans (o8 k)⟩
            by_cases D : DA A' (-1) 0 = 0
            · rw [if_pos D]
              exact ⟨inI_0', fun _ => W9_fails (by omega) (inI_s (by omega) (by omega)) hn r' (fun s' x => xEnd _ _ s' (by rw [tn]; exact kA2.1 D) x), fun z => absurd rfl z⟩
            · rw [if_neg D]
              refine ⟨inI_1, fun z => absurd z (by omega), fun _ => ?_⟩
              have hV' := hp.va (by omega) d D
              obtain ⟨o1, o2, o3, o4, _⟩ := r'
              unfold f9_load_j209
              rw [o3]
              refine ⟨inI_0', fun _ => ?_, fun z => absurd rfl z⟩
              unfold f9_load_j225
              rintro _ rfl _ rfl
              have w13 : up (up s14 9 15 0 0 (-1)) 9 8 0 0 0 9 13 0 0 = 0 := by rw [up_ne (by omega), up_ne (by omega)]; exact o3
              rw [w13]
              refine ⟨inI_0', fun _ => ?_, fun z => absurd rfl z⟩
              unfold f9_load_j253
              rw [w13]
              refine ⟨inI_0', fun _ => ?_, fun z => absurd rfl z⟩
              have u8 : up (up s14 9 15 0 0 (-1)) 9 8 0 0 0 9 8 0 0 = 0 := by rw [up_eq, if_pos ⟨rfl, rfl, rfl, rfl⟩]
              have u15 : up (up s14 9 15 0 0 (-1)) 9 8 0 0 0 9 15 0 0 = -1 := by rw [up_ne (by omega), up_eq, if_pos ⟨rfl, rfl, rfl, rfl⟩]
              have uu : ∀ K s2 i j, ¬ (K = 9 ∧ (s2 = 15 ∨ s2 = 8)) → up (up s14 9 15 0 0 (-1)) 9 8 0 0 0 K s2 i j = s14 K s2 i j := fun K s2 i j hK => by rw [up_ne (by omega), up_ne (by omega)]
              generalize up (up s14 9 15 0 0 (-1)) 9 8 0 0 0 = s15 at u8 u15 uu
              have gg : ∀ K s2 i j, ¬ ((K = 30 ∧ i = 1) ∨ (K = 30 ∧ s2 = 0 ∧ i = 0 ∧ 0 ≤ j ∧ j < 47) ∨ K = 36 ∨ (K = 9 ∧ (s2 = 6 ∨ s2 = 8 ∨ s2 = 9 ∨ s2 = 10 ∨ s2 = 11 ∨ s2 = 12 ∨ s2 = 13 ∨ s2 = 14 ∨ s2 = 15))) → s15 K s2 i j = st K s2 i j := fun K s2 i j hK => by
                rw [uu K s2 i j (by omega), o1 K s2 i j (by omega), g7 K s2 i j (by omega)]
              obtain ⟨y1, y2, y3, y4, y5, y6, y7, y8⟩ := h
              have x15 : aM s15 = A' := by
                rw [← o4]
                funext j
                exact uu 30 0 0 j (by omega)
              have m15 : MS s15 A' n B F S := ⟨x15, hV', fun j => by rw [gg 37 0 0 j (by omega)]; exact y3 j, fun j hj => (gg 30 0 0 j (by omega)).trans (y4 j hj), (gg 9 5 0 0 (by omega)).trans y5, y6, fun k a b => by rw [← y7 k a b]; exact nA_ext (fun j _ _ => gg 30 0 2 _ (by omega)), fun i a b => ⟨(gg 34 0 0 i (by omega)).trans (y8 i a b).1, (y8 i a b).2.1, fun q => by rw [← (y8 i a b).2.2 q]; exact nA_ext (fun j _ _ => gg 30 0 3 _ (by omega))⟩⟩
              have eN : nA (fun j => s15 30 0 1 j) = A := by
                rw [← nA_id y1 y4]
                refine nA_ext (fun j j0 j1 => ?_)
                rw [uu 30 0 1 j (by omega), o1 30 0 1 j (by omega), a7 j j0 j1]
                exact (congrFun y1 j).symm
              obtain ⟨v1, v2, v3, v4, v5, v6, v7, v8⟩ := m15
              refine W9_keeps (by omega) mlen1 v5 v6.1 v6.2 v7 (fun s16 f16 c16 k16 => ?_)
              rw [eN] at k16
              have x16 : aM s16 = A' := by
                rw [← v1]
                funext j
                exact f16 30 0 0 j (by omega)
              have E16 : s16 30 0 0 2 = A' 2 := congrFun x16 2
              rw [E16]
              refine hk A' s16 (kA2.2 D) hp.2.2.2.2.2.2.2.2.1 (fun K s2 i j hK => (f16 K s2 i j (by omega)).trans (gg K s2 i j (by omega))) ⟨x16, v2, fun j => by rw [f16 37 0 0 j (by omega)]; exact v3 j, fun j hj => (f16 30 0 0 j (by omega)).trans (v4 j hj), c16, pushN_b v6, k16, fun i a b => ⟨(f16 34 0 0 i (by omega)).trans (v8 i a b).1, (v8 i a b).2.1, fun q => by rw [← (v8 i a b).2.2 q]; exact nA_ext (fun j _ _ => f16 30 0 3 _ (by omega))⟩⟩ ?_ ((f16 9 8 0 0 (by omega)).trans u8) ((f16 9 15 0 0 (by omega)).trans u15)
              rw [f16 9 6 0 0 (by omega), uu 9 6 0 0 (by omega), o1 9 6 0 0 (by omega)]
              exact c6
          · rintro _ rfl
            exact X_mustEnd hB hn hn2 (x.up (by omega) (by omega)) (x3 c p _ e (x.up (by omega) (by omega)))
        · refine X_takes x ?_
          rintro _ rfl
          exact X_mustEnd hB hn hn2 (x.up (by omega) (by omega)) (x3 c p _ e (x.up (by omega) (by omega)))
      · rintro _ rfl
        have x' := x.up (i := 0) (v := 0) (by omega) (by omega)
        refine X_isWord x' (X_must inI_0' x' (X_takes x' ?_))
        rintro _ rfl
        exact X_mustEnd hB hn hn2 (x'.up (by omega) (by omega)) (x3 c p _ e (x'.up (by omega) (by omega)))
    · refine X_takes x ?_
      rintro _ rfl
      have x' := x.up (i := 0) (v := 0) (by omega) (by omega)
      refine X_isWord x' (X_must inI_0' x' (X_takes x' ?_))
      rintro _ rfl
      exact X_mustEnd hB hn hn2 (x'.up (by omega) (by omega)) (x3 c p _ e (x'.up (by omega) (by omega)))
  have L : ∀ (f : Nat) (v : Int) (s : St), 0 ≤ v → v ≤ 47 → FA s5 s → (∀ j, s 30 0 0 j = if 0 ≤ j ∧ j < v then 0 else s5 30 0 0 j) → 47 - v < f → f9_load_l30 Q f s v := by
    intro f
    induction f with
    | zero => intro v s a1 a2 a3 a4 a5; omega
    | succ f ih =>
      intro v s a1 a2 a3 a4 a5
      unfold f9_load_l30
      refine ⟨inI_s (by omega) (by omega), fun c => main s a3 ?_, fun c => ⟨a1, by omega, ?_⟩⟩
      · funext j
        show s 30 0 0 j = 0
        rw [a4]
        by_cases q : 0 ≤ j ∧ j < v
        · rw [if_pos q]
        · rw [if_neg q, g5 30 0 0 j (by omega)]
          exact h.2.2.2.1 j (by omega)
      · rintro _ rfl _ rfl
        refine ih (v + 1) _ (by omega) (by omega) (a3.up a1 (by omega)) (fun j => ?_) (by omega)
        rw [up_eq]
        by_cases q : j = v
        · rw [if_pos ⟨rfl, rfl, rfl, q⟩, if_pos (by omega)]
        · rw [if_neg (fun z => q z.2.2.2), a4]
          by_cases q2 : 0 ≤ j ∧ j < v
          · rw [if_pos q2, if_pos (by omega)]
          · rw [if_neg q2, if_neg (by omega)]
  exact ⟨100, L 100 0 s5 (by omega) (by omega) FA.rf (fun j => by rw [if_neg (by omega)]) (by omega)⟩
