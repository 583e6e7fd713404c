/-! append, on both sides -/
theorem b255 {i : Nat} (h : ¬ i < 8) : (255#32).getLsbD i = false := by
  have e : (255#32) = BitVec.ofNat 32 255 := rfl
  rw [e, BitVec.getLsbD_ofNat]
  have : Nat.testBit 255 i = false := by
    apply Nat.testBit_lt_two_pow
    calc 255 < 2^8 := by decide
      _ ≤ 2^i := Nat.pow_le_pow_right (by decide) (by omega)
  rw [this, Bool.and_false]
theorem by_1 (x : BitVec 32) (s : Nat) (hs : s ≤ 24) : (x >>> s) &&& 255#32 = (x.sshiftRight s) &&& 255#32 := by
  apply BitVec.eq_of_getLsbD_eq
  intro i hi
  rw [BitVec.getLsbD_and, BitVec.getLsbD_and, BitVec.getLsbD_ushiftRight, BitVec.getLsbD_sshiftRight]
  by_cases h : i < 8
  · have h2 : s + i < 32 := by omega
    rw [if_pos h2, decide_eq_false (show ¬ 32 ≤ i by omega), Bool.not_false, Bool.true_and]
  · rw [b255 h, Bool.and_false, Bool.and_false]
theorem by_2 (x s : Int32) (hs : s = 0 ∨ s = 8 ∨ s = 16 ∨ s = 24) : ((x.toUInt32 >>> (s.toUInt32 &&& Int32.toUInt32 31)).toInt32) &&& iI 255 = (x >>> (s &&& 31)) &&& iI 255 := by
  apply Int32.toBitVec_inj.1
  rcases hs with rfl | rfl | rfl | rfl
  · exact by_1 x.toBitVec 0 (by decide)
  · exact by_1 x.toBitVec 8 (by decide)
  · exact by_1 x.toBitVec 16 (by decide)
  · exact by_1 x.toBitVec 24 (by decide)
theorem byte_eq (v : Int) {s : Int} (hs : s = 0 ∨ s = 8 ∨ s = 16 ∨ s = 24) : iand (iushr v s) 255 = iand (ishr v s) 255 := by
  unfold iand iushr ishr
  rw [iI_back, iI_back]
  have := by_2 (iI v) (iI s) (by rcases hs with rfl | rfl | rfl | rfl <;> decide)
  rw [this]
theorem by_3 (x : BitVec 32) : (x &&& 255#32).toInt = ((x &&& 255#32).toNat : Int) ∧ (x &&& 255#32).toNat ≤ 255 := by
  have h : (x &&& 255#32).toNat ≤ 255 := by
    rw [BitVec.toNat_and]
    exact Nat.and_le_right
  refine ⟨?_, h⟩
  rw [BitVec.toInt_eq_toNat_of_lt (by omega)]
theorem iand_b (v : Int) : 0 ≤ iand v 255 ∧ iand v 255 ≤ 255 := by
  unfold iand
  have h := by_3 (iI v).toBitVec
  have e : (iI v &&& iI 255).toInt = ((iI v).toBitVec &&& 255#32).toInt := rfl
  rw [e, h.1]
  omega
def cb (x : Int) : Int := if x = 0 then 0 else 1
theorem cb_0 {x : Int} (h : x = 0) : cb x = 0 := if_pos h
theorem cb_1 {x : Int} (h : ¬ x = 0) : cb x = 1 := if_neg h
theorem cb_b (x : Int) : 0 ≤ cb x ∧ cb x ≤ 1 := by unfold cb; split <;> omega
/-- the bytes f 0, f 1 .. put behind n, those that are 0 left out -/
def apN (f : Int → Int) (n : Int) : Nat → Int
  | 0 => n
  | k + 1 => apN f n k + cb (f k)
def apT (f : Int → Int) (n : Int) (T : Int → Int) : Nat → Int → Int
  | 0 => T
  | k + 1 => fun j => if ¬ f k = 0 ∧ j = apN f n k then f k else apT f n T k j
theorem apN_S (f : Int → Int) (n : Int) (k : Nat) : apN f n (k + 1) = apN f n k + cb (f k) := rfl
theorem apN_add (f : Int → Int) (n : Int) : ∀ k : Nat, apN f n k = n + apN f 0 k
  | 0 => by show n = n + 0; omega
  | k + 1 => by rw [apN_S, apN_S, apN_add f n k]; omega
theorem apN_mono (f : Int → Int) (n : Int) : ∀ (d k : Nat), apN f n k ≤ apN f n (k + d)
  | 0, k => Int.le_refl _
  | d + 1, k => by
    have := apN_mono f n d k
    rw [show k + (d + 1) = (k + d) + 1 by omega, apN_S]
    have := cb_b (f ((k + d : Nat) : Int))
    omega
/-- the text, in the class and in the reference -/
def TXc (st : St) (n : Int) (T : Int → Int) : Prop := st 7 1 0 0 = n ∧ ∀ j, 0 ≤ j → j < n → st 21 0 0 j = T j
def TXm (st : St) (n : Int) (T : Int → Int) : Prop := st 9 8 0 0 = n ∧ ∀ j, 0 ≤ j → j < n → st 30 0 4 j = T j
def FTc (st st' : St) : Prop := ∀ K s i j, ¬ (K = 21 ∨ (K = 7 ∧ s = 1)) → st' K s i j = st K s i j
def FTm (st st' : St) : Prop := ∀ K s i j, ¬ ((K = 30 ∧ i = 4) ∨ (K = 9 ∧ (s = 6 ∨ s = 8))) → st' K s i j = st K s i j
theorem FTc.trans {a b c : St} (h : FTc a b) (g : FTc b c) : FTc a c := fun K s i j hK => (g K s i j hK).trans (h K s i j hK)
theorem CS.ftc {st st' : St} {A : Int → Int} {n : Int} {B : Int → Int → Int} {F : Int → Int} {S : Int → Int → Int} (h : CS st A n B F S) (hf : FTc st st') : CS st' A n B F S := h.fr (fun K s i j hK => hf K s i j (by omega))
theorem MS.ftm {st st' : St} {A : Int → Int} {n : Int} {B : Int → Int → Int} {F : Int → Int} {S : Int → Int → Int} (h : MS st A n B F S) (hf : FTm st st') : MS st' A n B F S := by
  obtain ⟨h1, h2, h3, h4, h5, h6, h7, h8⟩ := h
  refine ⟨?_, h2, fun j => by rw [hf 37 0 0 j (by omega)]; exact h3 j, fun j hj => (hf 30 0 0 j (by omega)).trans (h4 j hj), (hf 9 5 0 0 (by omega)).trans h5, h6, fun k a b => ?_, fun i a b => ⟨(hf 34 0 0 i (by omega)).trans (h8 i a b).1, (h8 i a b).2.1, fun q => ?_⟩⟩
  · rw [← h1]
    funext j
    exact hf 30 0 0 j (by omega)
  · rw [← h7 k a b]
    exact nA_ext (fun j _ _ => hf 30 0 2 _ (by omega))
  · rw [← (h8 i a b).2.2 q]
    exact nA_ext (fun j _ _ => hf 30 0 3 _ (by omega))
theorem bytesIn_s {Q : Int → St → Prop} {st : St} {a v1 v2 : Int} {m : Nat} (h0 : 0 ≤ v2) (h1 : v2 ≤ 24) (h : f8_bytesIn_l5 Q a m st (v1 + cb (iand (iushr a v2) 255)) (v2 + -8)) : f8_bytesIn_l5 Q a (m + 1) st v1 v2 := by
  have hb := iand_b (iushr a v2)
  unfold f8_bytesIn_l5
  refine ⟨inI_s (by omega) (by omega), fun c => absurd c (by omega), fun _ => ⟨inI_s (by omega) (by omega), fun c => ?_, fun c => ?_⟩⟩
  · unfold f8_bytesIn_j22
    rintro _ rfl
    rw [cb_0 c, Int.add_zero] at h
    exact h
  · rintro _ rfl
    unfold f8_bytesIn_j22
    rintro _ rfl
    rw [cb_1 c] at h
    exact h
theorem W8_bytesIn {Q : Int → St → Prop} {st : St} {a : Int} (h : Q (0 + cb (iand (iushr a 24) 255) + cb (iand (iushr a 16) 255) + cb (iand (iushr a 8) 255) + cb (iand (iushr a 0) 255)) st) : f8_bytesIn Q st a := by
  unfold f8_bytesIn
  refine ⟨5, bytesIn_s (by omega) (by omega) (bytesIn_s (by omega) (by omega) (bytesIn_s (by omega) (by omega) (bytesIn_s (by omega) (by omega) ?_)))⟩
  unfold f8_bytesIn_l5
  exact ⟨inI_s (by omega) (by omega), fun _ => h, fun c => absurd (by omega) c⟩
theorem putBytes_s {Q : St → Prop} {st : St} {f : Int → Int} {n : Int} {T : Int → Int} {a v2 : Int} {m k : Nat} (h0 : 0 ≤ v2) (h1 : v2 ≤ 24) (hn : 0 ≤ n) (hf : f k = iand (iushr a v2) 255) (hT : TXc st (apN f n k) (apT f n T k)) (hr : apN f n (k + 1) ≤ 500) (h : ∀ s, FTc st s → TXc s (apN f n (k + 1)) (apT f n T (k + 1)) → f8_putBytes_l3 Q a m s (v2 + -8)) : f8_putBytes_l3 Q a (m + 1) st v2 := by
  have hb := iand_b (iushr a v2)
  have hm := apN_mono f n k 0
  rw [Nat.zero_add] at hm
  have hm' : n ≤ apN f n k := hm
  rw [apN_S] at hr h
  unfold f8_putBytes_l3
  refine ⟨inI_s (by omega) (by omega), fun c => absurd c (by omega), fun _ => ?_⟩
  rintro _ rfl
  refine ⟨inI_s (by omega) (by omega), fun c => ?_, fun c => ?_⟩
  · unfold f8_putBytes_j30
    rintro _ rfl
    refine h st (fun _ _ _ _ _ => rfl) ⟨by rw [cb_0 (hf.trans c), Int.add_zero]; exact hT.1, fun j j0 j1 => ?_⟩
    rw [cb_0 (hf.trans c), Int.add_zero] at j1
    show st 21 0 0 j = if ¬ f k = 0 ∧ j = apN f n k then f k else apT f n T k j
    rw [if_neg (fun z => z.1 (hf.trans c))]
    exact hT.2 j j0 j1
  · have c' : ¬ f k = 0 := fun z => c (hf.symm.trans z)
    rw [cb_1 c'] at hr h
    unfold f7_put
    rw [hT.1]
    refine ⟨inI_s (by omega) (by omega), fun d => absurd d (by omega), fun _ => ⟨by omega, by omega, by omega, by omega, ?_⟩⟩
    rintro _ rfl
    have e1 : up st 21 0 0 (apN f n k) (iand (iushr a v2) 255) 7 1 0 0 = apN f n k := (up_ne (by omega)).trans hT.1
    rw [e1]
    rintro _ rfl
    unfold f8_putBytes_j30
    rintro _ rfl
    refine h _ (fun K s i j hK => by rw [up_ne (by omega), up_ne (by omega)]) ⟨by rw [up_eq, if_pos ⟨rfl, rfl, rfl, rfl⟩], fun j j0 j1 => ?_⟩
    show up (up st 21 0 0 (apN f n k) (iand (iushr a v2) 255)) 7 1 0 0 (apN f n k + 1) 21 0 0 j = if ¬ f k = 0 ∧ j = apN f n k then f k else apT f n T k j
    rw [up_ne (by omega), up_eq]
    by_cases e : j = apN f n k
    · rw [if_pos ⟨rfl, rfl, rfl, e⟩, if_pos ⟨c', e⟩]; exact hf.symm
    · rw [if_neg (fun z => e z.2.2.2), if_neg (fun z => e z.2)]
      exact hT.2 j j0 (by omega)
theorem W8_putBytes {Q : St → Prop} {st : St} {f : Int → Int} {n : Int} {T : Int → Int} {a : Int} {k : Nat} (hn : 0 ≤ n) (f0 : f k = iand (iushr a 24) 255) (f1 : f ((k + 1 : Nat) : Int) = iand (iushr a 16) 255) (f2 : f ((k + 2 : Nat) : Int) = iand (iushr a 8) 255) (f3 : f ((k + 3 : Nat) : Int) = iand (iushr a 0) 255) (hT : TXc st (apN f n k) (apT f n T k)) (hr : apN f n (k + 4) ≤ 500) (h : ∀ s, FTc st s → TXc s (apN f n (k + 4)) (apT f n T (k + 4)) → Q s) : f8_putBytes Q st a := by
  have r1 := apN_mono f n 3 (k + 1)
  have r2 := apN_mono f n 2 (k + 2)
  have r3 := apN_mono f n 1 (k + 3)
  rw [show k + 1 + 3 = k + 4 by omega] at r1
  rw [show k + 2 + 2 = k + 4 by omega] at r2
  rw [show k + 3 + 1 = k + 4 by omega] at r3
  unfold f8_putBytes
  refine ⟨5, putBytes_s (f := f) (n := n) (T := T) (k := k) (by omega) (by omega) hn f0 hT (by omega) (fun s1 g1 t1 => ?_)⟩
  refine putBytes_s (f := f) (n := n) (T := T) (k := k + 1) (by omega) (by omega) hn f1 t1 (by rw [show k + 1 + 1 = k + 2 by omega]; omega) (fun s2 g2 t2 => ?_)
  refine putBytes_s (f := f) (n := n) (T := T) (k := k + 2) (by omega) (by omega) hn f2 t2 (by rw [show k + 2 + 1 = k + 3 by omega]; omega) (fun s3 g3 t3 => ?_)
  refine putBytes_s (f := f) (n := n) (T := T) (k := k + 3) (by omega) (by omega) hn f3 t3 (by rw [show k + 3 + 1 = k + 4 by omega]; omega) (fun s4 g4 t4 => ?_)
  unfold f8_putBytes_l3
  exact ⟨inI_s (by omega) (by omega), fun _ => h s4 (((g1.trans g2).trans g3).trans g4) t4, fun c => absurd (by omega) c⟩
/-- the k-th byte of five ints -/
def byI (a0 a1 a2 a3 a4 k : Int) : Int := iand (ishr (if 16 ≤ k then a4 else if 12 ≤ k then a3 else if 8 ≤ k then a2 else if 4 ≤ k then a1 else a0) (24 - 8 * (Int.tmod k 4))) 255
theorem byI_r {a0 a1 a2 a3 a4 k i r s v : Int} (hk : k = 4 * i + r) (i0 : 0 ≤ i) (r0 : 0 ≤ r) (r4 : r < 4) (hs : s = 24 - 8 * r) (hv : v = if 16 ≤ k then a4 else if 12 ≤ k then a3 else if 8 ≤ k then a2 else if 4 ≤ k then a1 else a0) : byI a0 a1 a2 a3 a4 k = iand (iushr v s) 255 := by
  unfold byI
  rw [Int.tmod_eq_emod_of_nonneg (by omega), show k % 4 = r by omega, ← hv, ← hs]
  exact (byte_eq v (by omega)).symm
theorem W8_append {Q : Int → St → Prop} {X : String → St → Prop} {st : St} {n a0 a1 a2 a3 a4 : Int} {T : Int → Int} (hT : TXc st n T) (hn : 0 ≤ n) (hn2 : n ≤ 500) (hx : 500 < apN (byI a0 a1 a2 a3 a4) n 20 → X "java/lang/IllegalStateException" st)
    (hq : apN (byI a0 a1 a2 a3 a4) n 20 ≤ 500 → ∀ s, FTc st s → TXc s (apN (byI a0 a1 a2 a3 a4) n 20) (apT (byI a0 a1 a2 a3 a4) n T 20) → Q (apN (byI a0 a1 a2 a3 a4) n 20) s) : f8_append Q X st a0 a1 a2 a3 a4 := by
  generalize hf : byI a0 a1 a2 a3 a4 = f at hx hq
  have k0 : ∀ k i r s : Int, k = 4 * i + r → 0 ≤ i → 0 ≤ r → r < 4 → s = 24 - 8 * r → f k = iand (iushr (if 16 ≤ k then a4 else if 12 ≤ k then a3 else if 8 ≤ k then a2 else if 4 ≤ k then a1 else a0) s) 255 := fun k i r s h1 h2 h3 h4 h5 => by rw [← hf]; exact byI_r h1 h2 h3 h4 h5 rfl
  have B : ∀ (i : Int) (a : Int), 0 ≤ i → (a = if 16 ≤ 4 * i then a4 else if 12 ≤ 4 * i then a3 else if 8 ≤ 4 * i then a2 else if 4 ≤ 4 * i then a1 else a0) → f (4 * i) = iand (iushr a 24) 255 ∧ f (4 * i + 1) = iand (iushr a 16) 255 ∧ f (4 * i + 2) = iand (iushr a 8) 255 ∧ f (4 * i + 3) = iand (iushr a 0) 255 := fun i a i0 ha => by
    have hr : ∀ r, 0 ≤ r → r < 4 → (if 16 ≤ 4 * i + r then a4 else if 12 ≤ 4 * i + r then a3 else if 8 ≤ 4 * i + r then a2 else if 4 ≤ 4 * i + r then a1 else a0) = a := fun r r0 r1 => by
      rw [ha]
      by_cases c1 : 16 ≤ 4 * i
      · rw [if_pos c1, if_pos (by omega)]
      · rw [if_neg c1, if_neg (by omega)]
        by_cases c2 : 12 ≤ 4 * i
        · rw [if_pos c2, if_pos (by omega)]
        · rw [if_neg c2, if_neg (by omega)]
          by_cases c3 : 8 ≤ 4 * i
          · rw [if_pos c3, if_pos (by omega)]
          · rw [if_neg c3, if_neg (by omega)]
            by_cases c4 : 4 ≤ 4 * i
            · rw [if_pos c4, if_pos (by omega)]
            · rw [if_neg c4, if_neg (by omega)]
    refine ⟨?_, ?_, ?_, ?_⟩
    · have := k0 (4 * i + 0) i 0 24 rfl i0 (by omega) (by omega) (by omega)
      rw [hr 0 (by omega) (by omega), Int.add_zero] at this
      exact this
    · have := k0 (4 * i + 1) i 1 16 rfl i0 (by omega) (by omega) (by omega)
      rw [hr 1 (by omega) (by omega)] at this
      exact this
    · have := k0 (4 * i + 2) i 2 8 rfl i0 (by omega) (by omega) (by omega)
      rw [hr 2 (by omega) (by omega)] at this
      exact this
    · have := k0 (4 * i + 3) i 3 0 rfl i0 (by omega) (by omega) (by omega)
      rw [hr 3 (by omega) (by omega)] at this
      exact this
  have B0 := B 0 a0 (by omega) (by rw [if_neg (by omega), if_neg (by omega), if_neg (by omega), if_neg (by omega)])
  have B1 := B 1 a1 (by omega) (by rw [if_neg (by omega), if_neg (by omega), if_neg (by omega), if_pos (by omega)])
  have B2 := B 2 a2 (by omega) (by rw [if_neg (by omega), if_neg (by omega), if_pos (by omega)])
  have B3 := B 3 a3 (by omega) (by rw [if_neg (by omega), if_pos (by omega)])
  have B4 := B 4 a4 (by omega) (by rw [if_pos (by omega)])
  have sum : n + (((((0 + cb (iand (iushr a0 24) 255) + cb (iand (iushr a0 16) 255) + cb (iand (iushr a0 8) 255) + cb (iand (iushr a0 0) 255)) + (0 + cb (iand (iushr a1 24) 255) + cb (iand (iushr a1 16) 255) + cb (iand (iushr a1 8) 255) + cb (iand (iushr a1 0) 255))) + (0 + cb (iand (iushr a2 24) 255) + cb (iand (iushr a2 16) 255) + cb (iand (iushr a2 8) 255) + cb (iand (iushr a2 0) 255))) + (0 + cb (iand (iushr a3 24) 255) + cb (iand (iushr a3 16) 255) + cb (iand (iushr a3 8) 255) + cb (iand (iushr a3 0) 255))) + (0 + cb (iand (iushr a4 24) 255) + cb (iand (iushr a4 16) 255) + cb (iand (iushr a4 8) 255) + cb (iand (iushr a4 0) 255))) = apN f n 20 := by
    rw [← B0.1, ← B0.2.1, ← B0.2.2.1, ← B0.2.2.2, ← B1.1, ← B1.2.1, ← B1.2.2.1, ← B1.2.2.2, ← B2.1, ← B2.2.1, ← B2.2.2.1, ← B2.2.2.2, ← B3.1, ← B3.2.1, ← B3.2.2.1, ← B3.2.2.2, ← B4.1, ← B4.2.1, ← B4.2.2.1, ← B4.2.2.2]
    have e : apN f n 20 = n + cb (f 0) + cb (f 1) + cb (f 2) + cb (f 3) + cb (f 4) + cb (f 5) + cb (f 6) + cb (f 7) + cb (f 8) + cb (f 9) + cb (f 10) + cb (f 11) + cb (f 12) + cb (f 13) + cb (f 14) + cb (f 15) + cb (f 16) + cb (f 17) + cb (f 18) + cb (f 19) := rfl
    rw [e]
    show n + (((((0 + cb (f 0) + cb (f 1) + cb (f 2) + cb (f 3)) + (0 + cb (f 4) + cb (f 5) + cb (f 6) + cb (f 7))) + (0 + cb (f 8) + cb (f 9) + cb (f 10) + cb (f 11))) + (0 + cb (f 12) + cb (f 13) + cb (f 14) + cb (f 15))) + (0 + cb (f 16) + cb (f 17) + cb (f 18) + cb (f 19))) = _
    omega
  have big : apN f n 20 ≤ n + 20 := by
    have e : apN f n 20 = n + cb (f 0) + cb (f 1) + cb (f 2) + cb (f 3) + cb (f 4) + cb (f 5) + cb (f 6) + cb (f 7) + cb (f 8) + cb (f 9) + cb (f 10) + cb (f 11) + cb (f 12) + cb (f 13) + cb (f 14) + cb (f 15) + cb (f 16) + cb (f 17) + cb (f 18) + cb (f 19) := rfl
    have c := fun k => cb_b (f k)
    have := c 0; have := c 1; have := c 2; have := c 3; have := c 4; have := c 5; have := c 6; have := c 7; have := c 8; have := c 9; have := c 10; have := c 11; have := c 12; have := c 13; have := c 14; have := c 15; have := c 16; have := c 17; have := c 18; have := c 19
    omega
  have low := apN_mono f n 20 0
  have low' : n ≤ apN f n 20 := low
  unfold f8_append
  refine W8_bytesIn (W8_bytesIn (W8_bytesIn (W8_bytesIn (W8_bytesIn ?_))))
  rintro _ rfl
  rw [hT.1, sum]
  refine ⟨inI_s (by omega) (by omega), fun c => ?_, fun c => hx (by omega)⟩
  have r4 := apN_mono f n 16 4
  have r8 := apN_mono f n 12 8
  have r12 := apN_mono f n 8 12
  have r16 := apN_mono f n 4 16
  have q4 : apN f n 4 ≤ apN f n 20 := r4
  have q8 : apN f n 8 ≤ apN f n 20 := r8
  have q12 : apN f n 12 ≤ apN f n 20 := r12
  have q16 : apN f n 16 ≤ apN f n 20 := r16
  refine W8_putBytes (f := f) (n := n) (T := T) (k := 0) hn B0.1 B0.2.1 B0.2.2.1 B0.2.2.2 hT (Int.le_trans q4 c) (fun s1 g1 t1 => ?_)
  refine W8_putBytes (f := f) (n := n) (T := T) (k := 4) hn B1.1 B1.2.1 B1.2.2.1 B1.2.2.2 t1 (Int.le_trans q8 c) (fun s2 g2 t2 => ?_)
  refine W8_putBytes (f := f) (n := n) (T := T) (k := 8) hn B2.1 B2.2.1 B2.2.2.1 B2.2.2.2 t2 (Int.le_trans q12 c) (fun s3 g3 t3 => ?_)
  refine W8_putBytes (f := f) (n := n) (T := T) (k := 12) hn B3.1 B3.2.1 B3.2.2.1 B3.2.2.2 t3 (Int.le_trans q16 c) (fun s4 g4 t4 => ?_)
  refine W8_putBytes (f := f) (n := n) (T := T) (k := 16) hn B4.1 B4.2.1 B4.2.2.1 B4.2.2.2 t4 c (fun s5 g5 t5 => ?_)
  have t5' : TXc s5 (apN f n 20) (apT f n T 20) := t5
  rw [t5'.1]
  exact hq c s5 ((((g1.trans g2).trans g3).trans g4).trans g5) t5'
theorem W9_byteOf {Q : Int → St → Prop} {st : St} {k a0 a1 a2 a3 a4 : Int} (h0 : 0 ≤ k) (h1 : k < 20) (h : Q (byI a0 a1 a2 a3 a4 k) st) : f9_byteOf Q st k a0 a1 a2 a3 a4 := by
  have ik : inI k := inI_s (by omega) (by omega)
  unfold f9_byteOf f9_byteOf_j42
  unfold byI at h
  refine ⟨ik, fun c1 => ⟨ik, fun c2 => ⟨ik, fun c3 => ⟨ik, fun c4 => ⟨ik, ?_⟩, fun c4 => ⟨ik, ?_⟩⟩, fun c3 => ⟨ik, ?_⟩⟩, fun c2 => ⟨ik, ?_⟩⟩, fun c1 => ⟨ik, ?_⟩⟩
  · rwa [if_pos c4] at h
  · rwa [if_neg c4, if_pos c3] at h
  · rwa [if_neg (by omega), if_neg c3, if_pos c2] at h
  · rwa [if_neg (by omega), if_neg (by omega), if_neg c2, if_pos c1] at h
  · rwa [if_neg (by omega), if_neg (by omega), if_neg (by omega), if_neg c1] at h
theorem mlen4 : mlen 4 = 500 := by decide
theorem W9_append {Q : Int → St → Prop} {st : St} {n a0 a1 a2 a3 a4 : Int} {T : Int → Int} (hT : TXm st n T) (hn : 0 ≤ n) (hn2 : n ≤ 500) (hx : 500 < apN (byI a0 a1 a2 a3 a4) n 20 → Q 0 (up st 9 6 0 0 1))
    (hq : apN (byI a0 a1 a2 a3 a4) n 20 ≤ 500 → ∀ s, FTm st s → s 9 6 0 0 = 0 → TXm s (apN (byI a0 a1 a2 a3 a4) n 20) (apT (byI a0 a1 a2 a3 a4) n T 20) → Q (apN (byI a0 a1 a2 a3 a4) n 20) s) : f9_append Q st a0 a1 a2 a3 a4 := by
  have m4 := mlen4
  have by0 : ∀ k : Int, 0 ≤ byI a0 a1 a2 a3 a4 k ∧ byI a0 a1 a2 a3 a4 k ≤ 255 := fun k => iand_b _
  have ob : ∀ k, 0 ≤ k → k < 20 → ∀ (Q : Int → St → Prop) (s : St), Q (byI a0 a1 a2 a3 a4 k) s → f9_byteOf Q s k a0 a1 a2 a3 a4 := fun k k0 k1 Q s h => W9_byteOf k0 k1 h
  generalize hf : byI a0 a1 a2 a3 a4 = f at hx hq by0 ob
  have low : ∀ k : Nat, n ≤ apN f n k := fun k => by
    have := apN_mono f n k 0
    rw [Nat.zero_add] at this
    exact this
  have fin : ∀ c, (c = 0 ∨ c = 1) → (c = 0 → apN f n 20 ≤ 500) → (c = 1 → 500 < apN f n 20) → f9_append_j63 Q a0 a1 a2 a3 a4 st c := fun c hc c0 c1 => by
    unfold f9_append_j63
    refine gate (by omega) (by omega) (fun z => ?_) (fun z => ?_)
    · subst z
      have r20 := c0 rfl
      have L : ∀ (m : Nat) (k : Nat) (s : St), k ≤ 20 → FTm st s → s 9 6 0 0 = 0 → TXm s (apN f n k) (apT f n T k) → 20 - k < m → f9_append_l78 Q a0 a1 a2 a3 a4 m s k := by
        intro m
        induction m with
        | zero => intro k s b1 b2 b3 b4 b5; omega
        | succ m ih =>
          intro k s b1 b2 b3 b4 b5
          unfold f9_append_l78
          refine ⟨inI_s (by omega) (by omega), fun d => ?_, fun d => ?_⟩
          · have e : k = 20 := by omega
            subst e
            rw [b4.1]
            exact hq r20 s b2 b3 b4
          · have hk := by0 k
            have r1 := apN_mono f n (20 - (k + 1)) (k + 1)
            rw [show k + 1 + (20 - (k + 1)) = 20 by omega] at r1
            have l1 := low k
            refine ob k (by omega) (by omega) _ _ ⟨inI_s (by omega) (by omega), fun e => ?_, fun e => ?_⟩
            · unfold f9_append_j128
              rintro _ rfl
              refine ih (k + 1) s (by omega) b2 b3 ⟨by rw [apN_S, cb_0 e, Int.add_zero]; exact b4.1, fun j j0 j1 => ?_⟩ (by omega)
              rw [apN_S, cb_0 e, Int.add_zero] at j1
              show s 30 0 4 j = if ¬ f k = 0 ∧ j = apN f n k then f k else apT f n T k j
              rw [if_neg (fun z => z.1 e)]
              exact b4.2 j j0 j1
            · rw [apN_S, cb_1 e] at r1
              rw [b4.1]
              refine ⟨by omega, by omega, ?_⟩
              rintro _ rfl
              have e8 : up s 30 0 4 (apN f n k) (f k) 9 8 0 0 = apN f n k := (up_ne (by omega)).trans b4.1
              rw [e8]
              rintro _ rfl
              unfold f9_append_j128
              rintro _ rfl
              refine ih (k + 1) _ (by omega) (fun K s2 i j hK => by rw [up_ne (by omega), up_ne (by omega)]; exact b2 K s2 i j hK) (by rw [up_ne (by omega), up_ne (by omega)]; exact b3) ⟨by rw [up_eq, if_pos ⟨rfl, rfl, rfl, rfl⟩, apN_S, cb_1 e], fun j j0 j1 => ?_⟩ (by omega)
              rw [apN_S, cb_1 e] at j1
              show up (up s 30 0 4 (apN f n k) (f k)) 9 8 0 0 (apN f n k + 1) 30 0 4 j = if ¬ f k = 0 ∧ j = apN f n k then f k else apT f n T k j
              rw [up_ne (by omega), up_eq]
              by_cases e2 : j = apN f n k
              · rw [if_pos ⟨rfl, rfl, rfl, e2⟩, if_pos ⟨e, e2⟩]
              · rw [if_neg (fun z => e2 z.2.2.2), if_neg (fun z => e2 z.2)]
                exact b4.2 j j0 (by omega)
      exact ⟨100, L 100 0 _ (by omega) (fun K s i j hK => up_ne (by omega)) (by rw [up_eq, if_pos ⟨rfl, rfl, rfl, rfl⟩]) ⟨(up_ne (by omega)).trans hT.1, fun j j0 j1 => (up_ne (by omega)).trans (hT.2 j j0 j1)⟩ (by omega)⟩
    · have e : c = 1 := by omega
      subst e
      exact hx (c1 rfl)
  have L : ∀ (m : Nat) (k : Nat), k ≤ 20 → 20 - k < m → f9_append_l6 Q a0 a1 a2 a3 a4 m st (apN f 0 k) k := by
    intro m
    induction m with
    | zero => intro k b1 b2; omega
    | succ m ih =>
      intro k b1 b2
      unfold f9_append_l6
      refine ⟨inI_s (by omega) (by omega), fun d => ?_, fun d => ?_⟩
      · have e : k = 20 := by omega
        subst e
        rw [hT.1, ← apN_add f n 20]
        have l1 := low 20
        have big : apN f n 20 ≤ n + 20 := by
          have e : apN f n 20 = n + cb (f 0) + cb (f 1) + cb (f 2) + cb (f 3) + cb (f 4) + cb (f 5) + cb (f 6) + cb (f 7) + cb (f 8) + cb (f 9) + cb (f 10) + cb (f 11) + cb (f 12) + cb (f 13) + cb (f 14) + cb (f 15) + cb (f 16) + cb (f 17) + cb (f 18) + cb (f 19) := rfl
          have c := fun k => cb_b (f k)
          have := c 0; have := c 1; have := c 2; have := c 3; have := c 4; have := c 5; have := c 6; have := c 7; have := c 8; have := c 9; have := c 10; have := c 11; have := c 12; have := c 13; have := c 14; have := c 15; have := c 16; have := c 17; have := c 18; have := c 19
          omega
        exact ⟨inI_s (by omega) (by omega), fun c => fin 0 (Or.inl rfl) (fun _ => c) (fun z => absurd z (by omega)), fun c => fin 1 (Or.inr rfl) (fun z => absurd z (by omega)) (fun _ => by omega)⟩
      · have hk := by0 k
        refine ob k (by omega) (by omega) _ _ ⟨inI_s (by omega) (by omega), fun e => ?_, fun e => ?_⟩
        · unfold f9_append_j35
          rintro _ rfl _ rfl
          have := ih (k + 1) (by omega) (by omega)
          rw [apN_S, cb_0 e] at this
          exact this
        · unfold f9_append_j35
          rintro _ rfl _ rfl
          have := ih (k + 1) (by omega) (by omega)
          rw [apN_S, cb_1 e] at this
          exact this
  unfold f9_append
  exact ⟨100, L 100 0 (by omega) (by omega)⟩
