/-! where one gets to: sets of fields -/
theorem bt_I : ∀ s, s < 32 → ∀ i, i < 5 → bt (nI s) i = s.testBit i := by decide +kernel
theorem or_I : ∀ s, s < 32 → ∀ b, b < 5 → nI s ||| (1 <<< (nI b &&& 31)) = nI (s ||| 2 ^ b) := by decide +kernel
theorem sh_I : ∀ b, b < 5 → (1 <<< (nI b &&& 31) : Int32) = nI (2 ^ b) := by decide +kernel
theorem bt_0 : ∀ h, h < 10 → bt 0 h = false := by decide +kernel
theorem pow_le : ∀ n, n < 6 → 2 ^ n ≤ 32 := by decide
theorem fit_q : ∀ w, w < 10 → ∀ t, t < 10 → fitB w t = decide (max 1 t ≤ w) := by decide
def dS (S : Nat) : Nat → Nat := fun x => if S.testBit x then 0 else 1000
def cA (A : Nat → Nat → Bool) : Nat → Nat → Nat := fun a b => if A b a then 0 else 1000
theorem cA_co (A : Nat → Nat → Bool) (n : Nat) : Co (cA A) n := by
  intro a _ b _
  unfold cA
  by_cases h : A b a = true
  · rw [if_pos h]; left; omega
  · rw [if_neg h]; right; omega
theorem dS_or (S b x : Nat) : dS (S ||| 2 ^ b) x = if x = b then 0 else dS S x := by
  unfold dS
  rw [Nat.testBit_or, Nat.testBit_two_pow]
  by_cases h : x = b
  · subst h; simp
  · have h' : ¬ b = x := fun e => h e.symm
    simp [h, h']
theorem dS_st (A : Nat → Nat → Bool) (S a b : Nat) : dS (if S.testBit a && A a b then S ||| 2 ^ b else S) = st (cA A) (dS S) (tn (a, b)) := by
  funext x
  unfold st tn cA
  show _ = if x = b then min (dS S b) (dS S a + if A a b = true then 0 else 1000) else dS S x
  have h1 : ∀ y, dS S y = 0 ∨ dS S y = 1000 := fun y => by unfold dS; by_cases q : S.testBit y <;> simp [q]
  cases hq : (S.testBit a && A a b) with
  | true =>
    rw [if_pos rfl, dS_or]
    obtain ⟨q1, q2⟩ := Bool.and_eq_true_iff.mp hq
    have e : dS S a = 0 := by unfold dS; rw [q1]; rfl
    by_cases h : x = b
    · rw [if_pos h, if_pos h, e, q2, if_pos rfl]; omega
    · rw [if_neg h, if_neg h]
  | false =>
    rw [if_neg (by decide)]
    by_cases h : x = b
    · rw [if_pos h, h]
      have h2 := h1 b
      cases q1 : S.testBit a with
      | false => have e : dS S a = 1000 := by unfold dS; rw [q1]; rfl
                 rw [e]; omega
      | true =>
        rw [q1, Bool.true_and] at hq
        rw [hq, if_neg (by decide)]; omega
    · rw [if_neg h]
theorem dS_2 (f : Nat) : dS (2 ^ f) = d0 f := by
  funext x; unfold dS d0
  rw [Nat.testBit_two_pow]
  by_cases h : x = f
  · subst h; simp
  · have h' : ¬ f = x := fun e => h e.symm
    simp [h, h']
theorem set_ne {n S P : Nat} (hS : S < 2 ^ n) (hP : P < 2 ^ n) (h : ∀ x, x < n → S.testBit x = P.testBit x) : S = P := by
  refine Nat.eq_of_testBit_eq fun i => ?_
  by_cases q : i < n
  · exact h i q
  · have h1 : 2 ^ n ≤ 2 ^ i := Nat.pow_le_pow_right (by decide) (by omega)
    rw [Nat.testBit_lt_two_pow (Nat.lt_of_lt_of_le hS h1), Nat.testBit_lt_two_pow (Nat.lt_of_lt_of_le hP h1)]
theorem dS_bit {S P x : Nat} (h : dS S x = dS P x) : S.testBit x = P.testBit x := by
  unfold dS at h
  cases h1 : S.testBit x <;> cases h2 : P.testBit x <;> rw [h1, h2] at h <;> first | rfl | exact absurd h (by decide)
theorem dS_inj {n S P : Nat} (hS : S < 2 ^ n) (hP : P < 2 ^ n) (h : ∀ x, x < n → dS S x = dS P x) : S = P := set_ne hS hP fun x hx => dS_bit (h x hx)
theorem pow_lt {f n : Nat} (h : f < n) : 2 ^ f < 2 ^ n := Nat.pow_lt_pow_right (by decide) h
theorem or_lt {S b n : Nat} (hS : S < 2 ^ n) (hb : b < n) : S ||| 2 ^ b < 2 ^ n := Nat.or_lt_two_pow hS (pow_lt hb)
theorem nx_lt {S b n : Nat} (hS : S < 2 ^ n) (hb : b < n) (q : Bool) : (if q then S ||| 2 ^ b else S) < 2 ^ n := by cases q; exact hS; exact or_lt hS hb
-- the class
theorem rch31 {ρ : Type} {L : Bk} {v : Vw} (hL : LandV L v) (hR : Rng v) {t a S : Nat} (ht : t < 10) (ha : a < v 0 0) (hS : S < 2 ^ (v 0 0)) (kx : Int32 → Int32 → Option ρ) : ∃ S', fu2 (FX0_reachOf_31 (nI t) L (nI a) kx) 100 (nI S) 0 = kx (nI S') (nI (v 0 0)) ∧ S' < 2 ^ (v 0 0) ∧ dS S' = ps (cA (adj v t)) ((rwL a (v 0 0) 0).map tn) (dS S) := by
  have h0 := hR.1
  have hp := pow_le _ hR.1
  refine fx2 (fun o => ∃ S', o = kx (nI S') (nI (v 0 0)) ∧ S' < 2 ^ (v 0 0) ∧ dS S' = ps (cA (adj v t)) ((rwL a (v 0 0) 0).map tn) (dS S)) (fun (x y : Int32) m => ∃ j s, j ≤ v 0 0 ∧ x = nI s ∧ y = nI j ∧ m = v 0 0 - j ∧ s < 2 ^ (v 0 0) ∧ ps (cA (adj v t)) ((rwL a (v 0 0 - j) j).map tn) (dS s) = ps (cA (adj v t)) ((rwL a (v 0 0) 0).map tn) (dS S)) ?_ 100 (nI S) 0 (v 0 0) ⟨0, S, by omega, rfl, rfl, by omega, hS, rfl⟩ (by omega)
  rintro self x y m ⟨j, s, hj, rfl, rfl, hm, hs, hps⟩ ih
  unfold FX0_reachOf_31
  rw [hL.1]
  by_cases c : v 0 0 ≤ j
  · rw [if_pos ((le' (by omega) (by omega)).mpr c)]
    have ej : j = v 0 0 := by omega
    rw [ej, Nat.sub_self] at hps
    exact ⟨s, by rw [ej], hs, hps⟩
  · rw [if_neg (by rw [le' (by omega) (by omega)]; exact c), isInX, bt_I _ (by omega) _ (by omega)]
    have hj2 : j < v 0 0 := by omega
    have fin : ∀ z, z = (if s.testBit a && adj v t a j then s ||| 2 ^ j else s) → ∃ S', self (nI z) (nI j + 1) = kx (nI S') (nI (v 0 0)) ∧ S' < 2 ^ (v 0 0) ∧ dS S' = ps (cA (adj v t)) ((rwL a (v 0 0) 0).map tn) (dS S) := by
      intro z hz
      refine ih _ _ (m - 1) (by omega) ⟨j + 1, z, by omega, rfl, nI_1 j, by omega, by rw [hz]; exact nx_lt hs hj2 _, ?_⟩
      rw [← hps, hz, dS_st, show v 0 0 - j = (v 0 0 - (j + 1)) + 1 by omega]; rfl
    simp only [Option.bind_some, b2i_0, letsX hL hR ha hj2 ht, or_I s (by omega) j (by omega)]
    cases q1 : s.testBit a with
    | false => simp only [if_true, Option.bind_some]; exact fin s (by rw [q1]; rfl)
    | true =>
      cases q2 : adj v t a j with
      | false => simp only [Bool.true_eq_false, if_true, if_false, Option.bind_some]; exact fin s (by rw [q1, q2]; rfl)
      | true => simp only [Bool.true_eq_false, if_false, Option.bind_some]; exact fin _ (by rw [q1, q2]; rfl)
theorem rch19 {ρ : Type} {L : Bk} {v : Vw} (hL : LandV L v) (hR : Rng v) {t S : Nat} (ht : t < 10) (hS : S < 2 ^ (v 0 0)) (kx : Int32 → Int32 → Option ρ) : ∃ S', fu2 (FX0_reachOf_19 (nI t) L kx) 100 (nI S) 0 = kx (nI S') (nI (v 0 0)) ∧ S' < 2 ^ (v 0 0) ∧ dS S' = ps (cA (adj v t)) ((alL (v 0 0) (v 0 0) 0).map tn) (dS S) := by
  have h0 := hR.1
  refine fx2 (fun o => ∃ S', o = kx (nI S') (nI (v 0 0)) ∧ S' < 2 ^ (v 0 0) ∧ dS S' = ps (cA (adj v t)) ((alL (v 0 0) (v 0 0) 0).map tn) (dS S)) (fun (x y : Int32) m => ∃ j s, j ≤ v 0 0 ∧ x = nI s ∧ y = nI j ∧ m = v 0 0 - j ∧ s < 2 ^ (v 0 0) ∧ ps (cA (adj v t)) ((alL (v 0 0) (v 0 0 - j) j).map tn) (dS s) = ps (cA (adj v t)) ((alL (v 0 0) (v 0 0) 0).map tn) (dS S)) ?_ 100 (nI S) 0 (v 0 0) ⟨0, S, by omega, rfl, rfl, by omega, hS, rfl⟩ (by omega)
  rintro self x y m ⟨j, s, hj, rfl, rfl, hm, hs, hps⟩ ih
  unfold FX0_reachOf_19
  rw [hL.1]
  by_cases c : v 0 0 ≤ j
  · rw [if_pos ((le' (by omega) (by omega)).mpr c)]
    have ej : j = v 0 0 := by omega
    rw [ej, Nat.sub_self] at hps
    exact ⟨s, by rw [ej], hs, hps⟩
  · rw [if_neg (by rw [le' (by omega) (by omega)]; exact c)]
    obtain ⟨s', e, hs', hd⟩ := rch31 hL hR (t := t) (a := j) (S := s) ht (by omega) hs (fun x3_13 x6_14 => self x3_13 (nI j + 1))
    rw [e]
    refine ih _ _ (m - 1) (by omega) ⟨j + 1, s', by omega, rfl, nI_1 j, by omega, hs', ?_⟩
    rw [← hps, hd, ← ps_app, ← List.map_append, show v 0 0 - j = (v 0 0 - (j + 1)) + 1 by omega]; rfl
theorem reachX {L : Bk} {v : Vw} (hL : LandV L v) (hR : Rng v) {f t : Nat} (hf : f < v 0 0) (ht : t < 10) : ∃ S, fX0_reachOf L (nI f) (nI t) = some (nI S) ∧ S < 2 ^ (v 0 0) ∧ Ds (cA (adj v t)) (v 0 0) f (dS S) := by
  have h0 := hR.1
  have key : ∃ S, fX0_reachOf L (nI f) (nI t) = some (nI S) ∧ S < 2 ^ (v 0 0) ∧ dS S = rd (cA (adj v t)) ((alL (v 0 0) (v 0 0) 0).map tn) (v 0 0 - 1) (d0 f) := by
    unfold fX0_reachOf
    rw [sh_I f (by omega)]
    refine fx2 (fun o => ∃ S, o = some (nI S) ∧ S < 2 ^ (v 0 0) ∧ dS S = rd (cA (adj v t)) ((alL (v 0 0) (v 0 0) 0).map tn) (v 0 0 - 1) (d0 f)) (fun (x y : Int32) m => ∃ j s, 1 ≤ j ∧ j ≤ v 0 0 ∧ x = nI s ∧ y = nI j ∧ m = v 0 0 - j ∧ s < 2 ^ (v 0 0) ∧ rd (cA (adj v t)) ((alL (v 0 0) (v 0 0) 0).map tn) (v 0 0 - j) (dS s) = rd (cA (adj v t)) ((alL (v 0 0) (v 0 0) 0).map tn) (v 0 0 - 1) (d0 f)) ?_ 100 _ 1 (v 0 0 - 1) ⟨1, 2 ^ f, by omega, by omega, rfl, rfl, by omega, pow_lt hf, by rw [dS_2]⟩ (by omega)
    rintro self x y m ⟨j, s, hj1, hj, rfl, rfl, hm, hs, hps⟩ ih
    unfold FX0_reachOf_7
    rw [hL.1]
    by_cases c : v 0 0 ≤ j
    · rw [if_pos ((le' (by omega) (by omega)).mpr c)]
      have ej : j = v 0 0 := by omega
      rw [ej, Nat.sub_self] at hps
      exact ⟨s, rfl, hs, hps⟩
    · rw [if_neg (by rw [le' (by omega) (by omega)]; exact c)]
      obtain ⟨s', e, hs', hd⟩ := rch19 hL hR (t := t) (S := s) ht hs (fun x3_8 x5_9 => self x3_8 (nI j + 1))
      rw [e]
      refine ih _ _ (m - 1) (by omega) ⟨j + 1, s', by omega, by omega, rfl, nI_1 j, by omega, hs', ?_⟩
      rw [← hps, hd, show v 0 0 - j = (v 0 0 - (j + 1)) + 1 by omega]; rfl
  obtain ⟨S, e, hS, hd⟩ := key
  refine ⟨S, e, hS, ?_⟩
  rw [hd]
  exact rd_ds (cA_co _ _) (alT_al _) hf (by omega)
-- the reference, with holes shut
def AC (v : Vw) (t : Nat) (w : Int32) (a b : Nat) : Bool := adj v t a b && !bt w (he (v 0 0) a b)
theorem rcm34 {ρ : Type} {M : Bk} {v : Vw} (hM : ModV M v) (hR : Rng v) {t a S : Nat} (ht : t < 10) (ha : a < v 0 0) (hS : S < 2 ^ (v 0 0)) (w : Int32) (kx : Int32 → Int32 → Option ρ) : ∃ S', fu2 (FX4_reached_34 (nI (max 1 t)) w M (nI a) kx) 100 (nI S) 0 = kx (nI S') (nI (v 0 0)) ∧ S' < 2 ^ (v 0 0) ∧ dS S' = ps (cA (AC v t w)) ((rwL a (v 0 0) 0).map tn) (dS S) := by
  have h0 := hR.1
  have h3 := hN_le _ hR.1
  have hp := pow_le _ hR.1
  refine fx2 (fun o => ∃ S', o = kx (nI S') (nI (v 0 0)) ∧ S' < 2 ^ (v 0 0) ∧ dS S' = ps (cA (AC v t w)) ((rwL a (v 0 0) 0).map tn) (dS S)) (fun (x y : Int32) m => ∃ j s, j ≤ v 0 0 ∧ x = nI s ∧ y = nI j ∧ m = v 0 0 - j ∧ s < 2 ^ (v 0 0) ∧ ps (cA (AC v t w)) ((rwL a (v 0 0 - j) j).map tn) (dS s) = ps (cA (AC v t w)) ((rwL a (v 0 0) 0).map tn) (dS S)) ?_ 100 (nI S) 0 (v 0 0) ⟨0, S, by omega, rfl, rfl, by omega, hS, rfl⟩ (by omega)
  rintro self x y m ⟨j, s, hj, rfl, rfl, hm, hs, hps⟩ ih
  unfold FX4_reached_34
  rw [hM.1]
  by_cases c : v 0 0 ≤ j
  · rw [if_pos ((le' (by omega) (by omega)).mpr c)]
    have ej : j = v 0 0 := by omega
    rw [ej, Nat.sub_self] at hps
    exact ⟨s, by rw [ej], hs, hps⟩
  · rw [if_neg (by rw [le' (by omega) (by omega)]; exact c)]
    have hj2 : j < v 0 0 := by omega
    have fin : ∀ z, z = (if s.testBit a && AC v t w a j then s ||| 2 ^ j else s) → ∃ S', self (nI z) (nI j + 1) = kx (nI S') (nI (v 0 0)) ∧ S' < 2 ^ (v 0 0) ∧ dS S' = ps (cA (AC v t w)) ((rwL a (v 0 0) 0).map tn) (dS S) := by
      intro z hz
      refine ih _ _ (m - 1) (by omega) ⟨j + 1, z, by omega, rfl, nI_1 j, by omega, by rw [hz]; exact nx_lt hs hj2 _, ?_⟩
      rw [← hps, hz, dS_st, show v 0 0 - j = (v 0 0 - (j + 1)) + 1 by omega]; rfl
    by_cases caj : a = j
    · have e1 : AC v t w a j = false := by unfold AC adj; simp [caj]
      rw [if_pos (show nI a = nI j by rw [caj])]
      simp only [if_true, Option.bind_some, Int32.or_zero]
      refine fin s ?_
      rw [e1]; simp
    · have c' : ¬ nI a = nI j := by rw [eq' (by omega) (by omega)]; exact caj
      have h2 := he_lt _ hR.1 a ha j hj2 caj
      have hw := hR.2.2.1 _ h2
      have z1 : (nI (v 3 (he (v 0 0) a j)) < nI (max 1 t)) ↔ ¬ max 1 t ≤ v 3 (he (v 0 0) a j) := (lt' (by omega) (by omega)).trans (by omega)
      have eA : AC v t w a j = (decide (max 1 t ≤ v 3 (he (v 0 0) a j)) && !bt w (he (v 0 0) a j)) := by unfold AC adj; rw [fit_q _ hw _ ht]; simp [caj]
      rw [if_neg c', isOfM, bt_I _ (by omega) _ (by omega), hedgeM hM hR ha hj2 caj]
      simp only [Option.bind_some, b2i_0, isOfM, gIn (show he (v 0 0) a j < 10 by omega) (show 10 < 1000000 by omega), cl (show he (v 0 0) a j < 1000000 by omega), hM.2.2.1 _ h2, z1]
      cases q1 : s.testBit a with
      | false => simp only [if_true, Option.bind_some, Int32.or_zero]; exact fin s (by rw [q1]; rfl)
      | true =>
        cases q2 : bt w (he (v 0 0) a j) with
        | true => simp only [Bool.true_eq_false, if_true, if_false, Option.bind_some, Int32.or_zero]; exact fin s (by rw [q1, eA, q2]; simp)
        | false =>
          by_cases q3 : max 1 t ≤ v 3 (he (v 0 0) a j)
          · simp only [Bool.true_eq_false, if_true, if_false, q3, not_true_eq_false, Option.bind_some, one_ne, or_I s (by omega) j (by omega)]; exact fin _ (by rw [q1, eA, q2]; simp [q3])
          · simp only [Bool.true_eq_false, if_true, if_false, q3, not_false_eq_true, Option.bind_some, Int32.or_zero]; exact fin s (by rw [q1, eA, q2]; simp [q3])
theorem rcm22 {ρ : Type} {M : Bk} {v : Vw} (hM : ModV M v) (hR : Rng v) {t S : Nat} (ht : t < 10) (hS : S < 2 ^ (v 0 0)) (w : Int32) (kx : Int32 → Int32 → Option ρ) : ∃ S', fu2 (FX4_reached_22 (nI (max 1 t)) w M kx) 100 (nI S) 0 = kx (nI S') (nI (v 0 0)) ∧ S' < 2 ^ (v 0 0) ∧ dS S' = ps (cA (AC v t w)) ((alL (v 0 0) (v 0 0) 0).map tn) (dS S) := by
  have h0 := hR.1
  refine fx2 (fun o => ∃ S', o = kx (nI S') (nI (v 0 0)) ∧ S' < 2 ^ (v 0 0) ∧ dS S' = ps (cA (AC v t w)) ((alL (v 0 0) (v 0 0) 0).map tn) (dS S)) (fun (x y : Int32) m => ∃ j s, j ≤ v 0 0 ∧ x = nI s ∧ y = nI j ∧ m = v 0 0 - j ∧ s < 2 ^ (v 0 0) ∧ ps (cA (AC v t w)) ((alL (v 0 0) (v 0 0 - j) j).map tn) (dS s) = ps (cA (AC v t w)) ((alL (v 0 0) (v 0 0) 0).map tn) (dS S)) ?_ 100 (nI S) 0 (v 0 0) ⟨0, S, by omega, rfl, rfl, by omega, hS, rfl⟩ (by omega)
  rintro self x y m ⟨j, s, hj, rfl, rfl, hm, hs, hps⟩ ih
  unfold FX4_reached_22
  rw [hM.1]
  by_cases c : v 0 0 ≤ j
  · rw [if_pos ((le' (by omega) (by omega)).mpr c)]
    have ej : j = v 0 0 := by omega
    rw [ej, Nat.sub_self] at hps
    exact ⟨s, by rw [ej], hs, hps⟩
  · rw [if_neg (by rw [le' (by omega) (by omega)]; exact c)]
    obtain ⟨s', e, hs', hd⟩ := rcm34 hM hR (t := t) (a := j) (S := s) ht (by omega) hs w (fun x3_13 x6_14 => self x3_13 (nI j + 1))
    rw [e]
    refine ih _ _ (m - 1) (by omega) ⟨j + 1, s', by omega, rfl, nI_1 j, by omega, hs', ?_⟩
    rw [← hps, hd, ← ps_app, ← List.map_append, show v 0 0 - j = (v 0 0 - (j + 1)) + 1 by omega]; rfl
theorem reachM {M : Bk} {v : Vw} (hM : ModV M v) (hR : Rng v) {f t : Nat} (hf : f < v 0 0) (ht : t < 10) (w : Int32) : ∃ S, fX4_reached M (nI f) (nI (max 1 t)) w = some (nI S) ∧ S < 2 ^ (v 0 0) ∧ Ds (cA (AC v t w)) (v 0 0) f (dS S) := by
  have h0 := hR.1
  have hp := pow_le _ hR.1
  have hct : ∀ P : Nat, ct (fun x => P.testBit x = true) (v 0 0) ≤ v 0 0 := fun P => ct_le _ _
  unfold fX4_reached
  rw [sh_I f (by omega)]
  refine fx2 (fun o => ∃ S, o = some (nI S) ∧ S < 2 ^ (v 0 0) ∧ Ds (cA (AC v t w)) (v 0 0) f (dS S)) (fun (x y : Int32) m => ∃ s P, x = nI s ∧ y = nI P ∧ s < 2 ^ (v 0 0) ∧ P < 2 ^ (v 0 0) ∧ m = v 0 0 + 1 - ct (fun x => P.testBit x = true) (v 0 0) ∧ At (cA (AC v t w)) (v 0 0) f (dS s) ∧ dS s f = 0 ∧ (s = P → Fe (cA (AC v t w)) (v 0 0) (dS s)) ∧ ∀ x, x < v 0 0 → P.testBit x = true → s.testBit x = true) ?_ 100 _ 0 (v 0 0 + 1 - ct (fun x => (0 : Nat).testBit x = true) (v 0 0)) ⟨2 ^ f, 0, rfl, rfl, pow_lt hf, Nat.two_pow_pos _, rfl, by rw [dS_2]; exact d0_at _ _ _, by rw [dS_2]; exact d0_s f, fun e => absurd e (by have := Nat.two_pow_pos f; omega), fun x _ h => by simp at h⟩ (by omega)
  rintro self x y m ⟨s, P, rfl, rfl, hs, hP, hm, hAt, hz, hfe, hsub⟩ ih
  unfold FX4_reached_8
  by_cases c : s = P
  · rw [if_pos (by rw [c])]
    exact ⟨s, rfl, hs, hAt, hfe c, hz⟩
  · have c' : ¬ nI s = nI P := by rw [eq' (by omega) (by omega)]; exact c
    rw [if_neg c']
    obtain ⟨s', e, hs', hd⟩ := rcm22 hM hR (t := t) (S := s) ht hs w (fun x4_8 x6_9 => self x4_8 (nI s))
    rw [e]
    have hlt : ct (fun x => P.testBit x = true) (v 0 0) < ct (fun x => s.testBit x = true) (v 0 0) := by
      have q : ∃ u, u < v 0 0 ∧ ¬ P.testBit u = true ∧ s.testBit u = true := by
        refine Classical.byContradiction fun hq => c (set_ne hs hP fun x hx => ?_)
        cases h1 : s.testBit x with
        | true => cases h2 : P.testBit x with
          | true => rfl
          | false => exact absurd ⟨x, hx, by rw [h2]; decide, h1⟩ hq
        | false => cases h2 : P.testBit x with
          | true => have := hsub x hx h2; rw [h1] at this; exact absurd this (by decide)
          | false => rfl
      obtain ⟨u, hu, h1, h2⟩ := q
      exact ct_lt _ _ _ hsub hu h1 h2
    have h1 := hct P
    have h2 := hct s
    refine ih _ _ (v 0 0 + 1 - ct (fun x => s.testBit x = true) (v 0 0)) (by omega) ⟨s', s, rfl, rfl, hs', hs, rfl, ?_, ?_, ?_, ?_⟩
    · rw [hd]; exact ps_at (cA_co _ _) (alT_al _).2 hAt
    · rw [hd]; exact Nat.le_zero.mp (by rw [← hz]; exact ps_le _ _ _ _)
    · intro es
      refine ps_fix (l := (alL (v 0 0) (v 0 0) 0).map tn) (alT_al _) fun x hx => ?_
      rw [es, ← hd, es]
    · intro x hx hb
      have h3 := ps_le (cA (AC v t w)) ((alL (v 0 0) (v 0 0) 0).map tn) (dS s) x
      rw [← hd] at h3
      unfold dS at h3
      rw [hb, if_pos rfl] at h3
      cases h4 : s'.testBit x with
      | true => rfl
      | false => rw [h4] at h3; exact absurd h3 (by decide)
theorem AC_0 {v : Vw} (hR : Rng v) {t a b : Nat} (ha : a < v 0 0) (hb : b < v 0 0) : AC v t 0 a b = adj v t a b := by
  have h3 := hN_le _ hR.1
  unfold AC
  by_cases c : a = b
  · unfold adj; simp [c]
  · have h2 := he_lt _ hR.1 a ha b hb c
    rw [bt_0 _ (by omega)]; simp
theorem WkN_c {c c' : Nat → Nat → Nat} {n s : Nat} (h : ∀ a, a < n → ∀ b, b < n → c a b = c' a b) : ∀ k a L, WkN c n s k a L → WkN c' n s k a L := by
  intro k
  induction k with
  | zero => intro a L h; exact h
  | succ k ih =>
    rintro a L ⟨b, L', ha, hb, hab, h1, h2, hw⟩
    exact ⟨b, L', ha, hb, hab, by rw [← h a ha b hb]; exact h1, by rw [← h a ha b hb]; exact h2, ih _ _ hw⟩
theorem Ds_c {c c' : Nat → Nat → Nat} {n s : Nat} (h : ∀ a, a < n → ∀ b, b < n → c a b = c' a b) {d : Nat → Nat} (hd : Ds c n s d) : Ds c' n s d := by
  refine ⟨fun x hx => ⟨(hd.1 x hx).1, fun hl => ?_⟩, fun a ha b hb hab => ?_, hd.2.2⟩
  · obtain ⟨k, hk⟩ := (hd.1 x hx).2 hl
    exact ⟨k, WkN_c h _ _ _ hk⟩
  · rw [← h a ha b hb]; exact hd.2.1 a ha b hb hab
theorem reachC {L M : Bk} {v : Vw} (hL : LandV L v) (hM : ModV M v) (hR : Rng v) {f t : Nat} (hf : f < v 0 0) (ht : t < 10) : ∃ S, S < 2 ^ (v 0 0) ∧ fX0_reachOf L (nI f) (nI t) = some (nI S) ∧ fX4_reached M (nI f) (nI (max 1 t)) 0 = some (nI S) := by
  obtain ⟨S, e1, hS, d1⟩ := reachX hL hR hf ht
  obtain ⟨S', e2, hS', d2⟩ := reachM hM hR hf ht 0
  have d3 : Ds (cA (adj v t)) (v 0 0) f (dS S') := Ds_c (fun a ha b hb => by unfold cA; rw [AC_0 hR hb ha]) d2
  have e : S' = S := dS_inj hS' hS (d3.uniq d1)
  rw [e] at e2
  exact ⟨S, hS, e1, e2⟩
