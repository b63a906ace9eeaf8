/-! keep: the fewest holes to shut -/
theorem or_10 : ∀ s, s < 1024 → ∀ b, b < 10 → nI s ||| (1 <<< (nI b &&& 31)) = nI (s ||| 2 ^ b) := by decide +kernel
theorem bt_10 : ∀ s, s < 1024 → ∀ i, i < 10 → bt (nI s) i = s.testBit i := by decide +kernel
theorem sh_10 : ∀ h, h < 11 → (1 <<< (nI h &&& 31) : Int32) = nI (2 ^ h) := by decide +kernel
theorem pow_10 : ∀ h, h < 11 → 2 ^ h ≤ 1024 := by decide
theorem sub_I : ∀ a, a < 11 → ∀ b, b < 11 → (((nI a - nI b) < 0 ↔ a < b) ∧ ((nI a - nI b) = 0 ↔ a = b)) := by decide +kernel
theorem pc_full : ∀ s, s < 1024 → 10 ≤ pc s → s = 1023 := by decide +kernel
theorem pc_1023 : pc 1023 = 10 := by decide
theorem he_miss : ∀ n, n < 6 → ∀ P, P < n → ∃ h, h < 10 ∧ ∀ b, b < n → b ≠ P → he n P b ≠ h := by decide
theorem b1_le (p : Bool) : (if p then 1 else 0) ≤ 1 := by cases p <;> decide
theorem pc_le (s : Nat) : pc s ≤ 10 := by
  unfold pc
  have h0 := b1_le (s.testBit 0); have h1 := b1_le (s.testBit 1); have h2 := b1_le (s.testBit 2); have h3 := b1_le (s.testBit 3); have h4 := b1_le (s.testBit 4)
  have h5 := b1_le (s.testBit 5); have h6 := b1_le (s.testBit 6); have h7 := b1_le (s.testBit 7); have h8 := b1_le (s.testBit 8); have h9 := b1_le (s.testBit 9)
  omega
def sub (C c : Nat) : Prop := ∀ h, C.testBit h = true → c.testBit h = true
theorem b1_mono {C c : Nat} (h : sub C c) (i : Nat) : (if C.testBit i then 1 else 0) ≤ (if c.testBit i then 1 else 0) := by
  cases q : C.testBit i with
  | false => simp
  | true => rw [h i q]; exact Nat.le_refl _
theorem pc_mono {C c : Nat} (h : sub C c) : pc C ≤ pc c := by
  unfold pc
  have h0 := b1_mono h 0; have h1 := b1_mono h 1; have h2 := b1_mono h 2; have h3 := b1_mono h 3; have h4 := b1_mono h 4
  have h5 := b1_mono h 5; have h6 := b1_mono h 6; have h7 := b1_mono h 7; have h8 := b1_mono h 8; have h9 := b1_mono h 9
  omega
theorem sub_le {C c : Nat} (h : sub C c) : C ≤ c := by
  have e : C ||| c = c := by
    refine Nat.eq_of_testBit_eq fun i => ?_
    rw [Nat.testBit_or]
    cases q : C.testBit i with
    | false => simp
    | true => rw [h i q]; rfl
  rw [← e]; exact Nat.left_le_or
def lx (a b : Nat) : Prop := pc a < pc b ∨ (pc a = pc b ∧ a ≤ b)
theorem sub_lx {C c : Nat} (h : sub C c) : lx C c := by
  have h1 := pc_mono h
  have h2 := sub_le h
  by_cases q : pc C < pc c
  · exact Or.inl q
  · exact Or.inr ⟨by omega, h2⟩
theorem lx_trans {a b c : Nat} (h1 : lx a b) (h2 : lx b c) : lx a c := by unfold lx at *; omega
theorem lx_anti {a b : Nat} (h1 : lx a b) (h2 : lx b a) : a = b := by unfold lx at *; omega
theorem fewerX {C b : Nat} (hC : C < 1024) (hb : b < 1024) : fX0_isFewer (nI C) (nI b) = some (if pc C < pc b ∨ (pc C = pc b ∧ C < b) then 1 else 0) := by
  have h1 := pc_le C
  have h2 := pc_le b
  obtain ⟨s1, s2⟩ := sub_I (pc C) (by omega) (pc b) (by omega)
  unfold fX0_isFewer
  rw [pc_X _ hC, pc_X _ hb]
  simp only [Option.bind_some, s1, s2, le' (show b < 1000000 by omega) (show C < 1000000 by omega)]
  by_cases q1 : pc C < pc b
  · simp [q1]
  · by_cases q2 : pc C = pc b
    · by_cases q3 : b ≤ C
      · simp [q2, q3, Nat.not_lt.mpr q3]
      · simp [q2, q3, Nat.not_le.mp q3]
    · simp [q1, q2]
/-- a leaves the side s, to b -/
def Lv (v : Vw) (t s a b : Nat) : Prop := a < v 0 0 ∧ b < v 0 0 ∧ s.testBit a = true ∧ s.testBit b = false ∧ adj v t a b = true
theorem or_bit (C h x : Nat) : (C ||| 2 ^ h).testBit x = true ↔ C.testBit x = true ∨ h = x := by
  rw [Nat.testBit_or, Nat.testBit_two_pow]; simp
theorem cut17 {ρ : Type} {L : Bk} {v : Vw} (hL : LandV L v) (hR : Rng v) {t s a C : Nat} (ht : t < 10) (hs : s < 2 ^ (v 0 0)) (ha : a < v 0 0) (hC : C < 2 ^ (hN (v 0 0))) (hc : ∀ h, C.testBit h = true ↔ ∃ x y, Lv v t s x y ∧ x < a ∧ he (v 0 0) x y = h) (kx : Int32 → Int32 → Option ρ) : ∃ C', fu2 (FX0_fittedAround_17 (nI s) (nI t) L (nI a) kx) 100 (nI C) 0 = kx (nI C') (nI (v 0 0)) ∧ C' < 2 ^ (hN (v 0 0)) ∧ ∀ h, C'.testBit h = true ↔ ∃ x y, Lv v t s x y ∧ x < a + 1 ∧ he (v 0 0) x y = h := by
  have h0 := hR.1
  have h3 := hN_le _ hR.1
  have hp := pow_le _ hR.1
  have hp2 := pow_10 (hN (v 0 0)) (by omega)
  refine fx2 (fun o => ∃ C', o = kx (nI C') (nI (v 0 0)) ∧ C' < 2 ^ (hN (v 0 0)) ∧ ∀ h, C'.testBit h = true ↔ ∃ x y, Lv v t s x y ∧ x < a + 1 ∧ he (v 0 0) x y = h) (fun (x y : Int32) m => ∃ j D, j ≤ v 0 0 ∧ x = nI D ∧ y = nI j ∧ m = v 0 0 - j ∧ D < 2 ^ (hN (v 0 0)) ∧ ∀ h, D.testBit h = true ↔ ∃ x y, Lv v t s x y ∧ (x < a ∨ (x = a ∧ y < j)) ∧ he (v 0 0) x y = h) ?_ 100 (nI C) 0 (v 0 0) ⟨0, C, by omega, rfl, rfl, by omega, hC, fun h => (hc h).trans ⟨fun ⟨x, y, p1, p2, p3⟩ => ⟨x, y, p1, Or.inl p2, p3⟩, fun ⟨x, y, p1, p2, p3⟩ => ⟨x, y, p1, by omega, p3⟩⟩⟩ (by omega)
  rintro self x y m ⟨j, D, hj, rfl, rfl, hm, hD, hd⟩ ih
  unfold FX0_fittedAround_17
  rw [hL.1]
  by_cases c : v 0 0 ≤ j
  · rw [if_pos ((le' (by omega) (by omega)).mpr c)]
    have ej : j = v 0 0 := by omega
    refine ⟨D, by rw [ej], hD, fun h => (hd h).trans ⟨fun ⟨x, y, p1, p2, p3⟩ => ⟨x, y, p1, by omega, p3⟩, fun ⟨x, y, p1, p2, p3⟩ => ⟨x, y, p1, ?_, p3⟩⟩⟩
    have := p1.2.1
    omega
  · rw [if_neg (by rw [le' (by omega) (by omega)]; exact c), isInX, isInX, bt_I _ (by omega) _ (by omega), bt_I _ (by omega) _ (by omega)]
    have hj2 : j < v 0 0 := by omega
    have same : ¬ Lv v t s a j → ∃ C', self (nI D) (nI j + 1) = kx (nI C') (nI (v 0 0)) ∧ C' < 2 ^ (hN (v 0 0)) ∧ ∀ h, C'.testBit h = true ↔ ∃ x y, Lv v t s x y ∧ x < a + 1 ∧ he (v 0 0) x y = h := by
      intro q
      refine ih _ _ (m - 1) (by omega) ⟨j + 1, D, by omega, rfl, nI_1 j, by omega, hD, fun h => (hd h).trans ⟨fun ⟨x, y, p1, p2, p3⟩ => ⟨x, y, p1, by omega, p3⟩, fun ⟨x, y, p1, p2, p3⟩ => ⟨x, y, p1, ?_, p3⟩⟩⟩
      by_cases e : x = a ∧ y = j
      · rw [e.1, e.2] at p1; exact absurd p1 q
      · omega
    simp only [Option.bind_some, b2i_0]
    cases q1 : s.testBit a with
    | false => simp only [if_true, Option.bind_some]; exact same (fun e => by have e := e.2.2.1; rw [q1] at e; exact absurd e (by decide))
    | true =>
      simp only [Bool.true_eq_false, if_false]
      cases q2 : s.testBit j with
      | true => simp only [Bool.true_eq_false, if_false, Option.bind_some]; exact same (fun e => by have e := e.2.2.2.1; rw [q2] at e; exact absurd e (by decide))
      | false =>
        simp only [if_true, letsX hL hR ha hj2 ht, Option.bind_some, b2i_0]
        cases q3 : adj v t a j with
        | false => simp only [if_true, Option.bind_some]; exact same (fun e => by have e := e.2.2.2.2; rw [q3] at e; exact absurd e (by decide))
        | true =>
          have hne := adj_nn q3
          have h2 := he_lt _ hR.1 a ha j hj2 hne
          simp only [Bool.true_eq_false, if_false, hedgeX hL hR ha hj2 hne, Option.bind_some, or_10 D (by omega) (he (v 0 0) a j) (by omega)]
          refine ih _ _ (m - 1) (by omega) ⟨j + 1, D ||| 2 ^ he (v 0 0) a j, by omega, rfl, nI_1 j, by omega, or_lt hD h2, fun h => ?_⟩
          rw [or_bit, hd h]
          constructor
          · rintro (⟨x, y, p1, p2, p3⟩ | e)
            · exact ⟨x, y, p1, by omega, p3⟩
            · exact ⟨a, j, ⟨ha, hj2, q1, q2, q3⟩, by omega, e⟩
          · rintro ⟨x, y, p1, p2, p3⟩
            by_cases e : x = a ∧ y = j
            · right; rw [← e.1, ← e.2]; exact p3
            · left; exact ⟨x, y, p1, by omega, p3⟩
theorem cutX {L : Bk} {v : Vw} (hL : LandV L v) (hR : Rng v) {t s : Nat} (ht : t < 10) (hs : s < 2 ^ (v 0 0)) : ∃ C, fX0_fittedAround L (nI s) (nI t) = some (nI C) ∧ C < 2 ^ (hN (v 0 0)) ∧ ∀ h, C.testBit h = true ↔ ∃ x y, Lv v t s x y ∧ he (v 0 0) x y = h := by
  have h0 := hR.1
  unfold fX0_fittedAround
  refine fx2 (fun o => ∃ C, o = some (nI C) ∧ C < 2 ^ (hN (v 0 0)) ∧ ∀ h, C.testBit h = true ↔ ∃ x y, Lv v t s x y ∧ he (v 0 0) x y = h) (fun (x y : Int32) m => ∃ j D, j ≤ v 0 0 ∧ x = nI D ∧ y = nI j ∧ m = v 0 0 - j ∧ D < 2 ^ (hN (v 0 0)) ∧ ∀ h, D.testBit h = true ↔ ∃ x y, Lv v t s x y ∧ x < j ∧ he (v 0 0) x y = h) ?_ 100 0 0 (v 0 0) ⟨0, 0, by omega, rfl, rfl, by omega, Nat.two_pow_pos _, fun h => ⟨fun e => by simp at e, fun ⟨x, y, p1, p2, p3⟩ => by omega⟩⟩ (by omega)
  rintro self x y m ⟨j, D, hj, rfl, rfl, hm, hD, hd⟩ ih
  unfold FX0_fittedAround_5
  rw [hL.1]
  by_cases c : v 0 0 ≤ j
  · rw [if_pos ((le' (by omega) (by omega)).mpr c)]
    refine ⟨D, rfl, hD, fun h => (hd h).trans ⟨fun ⟨x, y, p1, p2, p3⟩ => ⟨x, y, p1, p3⟩, fun ⟨x, y, p1, p3⟩ => ⟨x, y, p1, ?_, p3⟩⟩⟩
    have := p1.1
    omega
  · rw [if_neg (by rw [le' (by omega) (by omega)]; exact c)]
    obtain ⟨C', e1, e2, e3⟩ := cut17 hL hR ht hs (a := j) (by omega) hD hd (fun x3_8 x5_9 => self x3_8 (nI j + 1))
    rw [e1]
    exact ih _ _ (m - 1) (by omega) ⟨j + 1, C', by omega, rfl, nI_1 j, by omega, e2, e3⟩
def cutF (L : Bk) (t s : Nat) : Nat := ((fX0_fittedAround L (nI s) (nI t)).getD 0).toNatClampNeg
theorem cutXF {L : Bk} {v : Vw} (hL : LandV L v) (hR : Rng v) {t s : Nat} (ht : t < 10) (hs : s < 2 ^ (v 0 0)) : fX0_fittedAround L (nI s) (nI t) = some (nI (cutF L t s)) ∧ cutF L t s < 2 ^ (hN (v 0 0)) ∧ ∀ h, (cutF L t s).testBit h = true ↔ ∃ x y, Lv v t s x y ∧ he (v 0 0) x y = h := by
  have h3 := hN_le _ hR.1
  have hp2 := pow_10 (hN (v 0 0)) (by omega)
  obtain ⟨C, e1, e2, e3⟩ := cutX hL hR ht hs
  have e : cutF L t s = C := by unfold cutF; rw [e1]; exact cl (by omega)
  rw [e]; exact ⟨e1, e2, e3⟩
/-- a side: with P, without f -/
def Sd (n P f s : Nat) : Prop := s < 2 ^ n ∧ s.testBit P = true ∧ s.testBit f = false
def Bs (L : Bk) (v : Vw) (k f b : Nat) : Prop := b = 1023 ∨ ∃ s, Sd (v 0 0) (v 6 k) f s ∧ b = cutF L (th v k) s
theorem keepX {L : Bk} {v : Vw} (hL : LandV L v) (hR : Rng v) {k f : Nat} (hk : k < v 1 0) (hf : f < v 0 0) : ∃ b, fX0_fewestToShut L (nI k) (nI f) = some (nI b) ∧ Bs L v k f b ∧ ∀ s, Sd (v 0 0) (v 6 k) f s → lx b (cutF L (th v k) s) := by
  have h0 := hR.1
  have h1 := hR.2.1
  have h3 := hN_le _ hR.1
  have hp := pow_le _ hR.1
  have hp2 := pow_10 (hN (v 0 0)) (by omega)
  have hP := (hR.2.2.2 k hk).2.2.2
  have ht := th_lt hR hk
  obtain ⟨W, hW⟩ : ∃ W, W = 2 ^ (v 0 0) := ⟨_, rfl⟩
  have hW0 : 0 < W := by rw [hW]; exact Nat.two_pow_pos _
  rw [← hW] at hp
  unfold fX0_fewestToShut
  refine fx2 (fun o => ∃ b, o = some (nI b) ∧ Bs L v k f b ∧ ∀ s, Sd (v 0 0) (v 6 k) f s → lx b (cutF L (th v k) s)) (fun (x y : Int32) m => ∃ j b, j ≤ W ∧ x = nI b ∧ y = nI j ∧ m = W - j ∧ b < 1024 ∧ Bs L v k f b ∧ ∀ s, s < j → Sd (v 0 0) (v 6 k) f s → lx b (cutF L (th v k) s)) ?_ 100 1023 0 W ⟨0, 1023, by omega, rfl, rfl, by omega, by omega, Or.inl rfl, fun s hs => by omega⟩ (by omega)
  rintro self x y m ⟨j, b, hj, rfl, rfl, hm, hb, hb1, hb2⟩ ih
  unfold FX0_fewestToShut_7
  rw [hL.1, sh_10 _ (by omega), ← hW]
  by_cases c : W ≤ j
  · rw [if_pos ((le' (by omega) (by omega)).mpr c)]
    exact ⟨b, rfl, hb1, fun s hs => hb2 s (by have := hs.1; rw [← hW] at this; omega) hs⟩
  · have hj3 : j < W := by omega
    have hj2 : j < 2 ^ (v 0 0) := by rw [← hW]; exact hj3
    obtain ⟨c1, c2, -⟩ := cutXF hL hR ht hj2
    rw [if_neg (by rw [le' (by omega) (by omega)]; exact c), gIn (show k < 5 by omega) (by omega), cl (show k < 1000000 by omega), (hL.2.2.2 k hk).2.2, isInX, bt_I _ (by omega) _ (by omega)]
    have same : (Sd (v 0 0) (v 6 k) f j → lx b (cutF L (th v k) j)) → ∃ b', self (nI b) (nI j + 1) = some (nI b') ∧ Bs L v k f b' ∧ ∀ s, Sd (v 0 0) (v 6 k) f s → lx b' (cutF L (th v k) s) := by
      intro q
      refine ih _ _ (m - 1) (by omega) ⟨j + 1, b, by omega, rfl, nI_1 j, by omega, hb, hb1, fun s hs hsd => ?_⟩
      by_cases e : s = j
      · rw [e] at hsd ⊢; exact q hsd
      · exact hb2 s (by omega) hsd
    simp only [Option.bind_some, b2i_0, isInX, bt_I j (by omega) f (by omega)]
    cases q1 : j.testBit (v 6 k) with
    | false => simp only [if_true, Option.bind_some]; exact same (fun e => by rw [e.2.1] at q1; exact absurd q1 (by decide))
    | true =>
      simp only [Bool.true_eq_false, if_false]
      cases q2 : j.testBit f with
      | true => simp only [Bool.true_eq_false, if_false, Option.bind_some]; exact same (fun e => by rw [e.2.2] at q2; exact absurd q2 (by decide))
      | false =>
        simp only [if_true, thickX hL hR hk, Option.bind_some, c1, fewerX (show cutF L (th v k) j < 1024 by omega) hb]
        by_cases q3 : pc (cutF L (th v k) j) < pc b ∨ (pc (cutF L (th v k) j) = pc b ∧ cutF L (th v k) j < b)
        · simp only [q3, if_true, one_ne, if_false, Option.bind_some]
          refine ih _ _ (m - 1) (by omega) ⟨j + 1, _, by omega, rfl, nI_1 j, by omega, by omega, Or.inr ⟨j, ⟨hj2, q1, q2⟩, rfl⟩, fun s hs hsd => ?_⟩
          by_cases e : s = j
          · rw [e]; exact Or.inr ⟨rfl, Nat.le_refl _⟩
          · refine lx_trans ?_ (hb2 s (by omega) hsd)
            unfold lx; omega
        · simp only [q3, if_false, if_true, Option.bind_some]
          refine same (fun _ => ?_)
          unfold lx; omega
/-- the holes c shut keep P from f -/
def Bl (v : Vw) (t P f c : Nat) : Prop := ∃ s, Sd (v 0 0) P f s ∧ ∀ x y, Lv v t s x y → c.testBit (he (v 0 0) x y) = true
theorem blockM {M : Bk} {v : Vw} (hM : ModV M v) (hR : Rng v) {P t f c : Nat} (hP : P < v 0 0) (hf : f < v 0 0) (ht : t < 10) (hc : c < 2 ^ (hN (v 0 0))) : ∃ S, fX4_reached M (nI P) (nI (max 1 t)) (nI c) = some (nI S) ∧ S < 32 ∧ (S.testBit f = false ↔ Bl v t P f c) := by
  have h0 := hR.1
  have h3 := hN_le _ hR.1
  have hp := pow_le _ hR.1
  have hp2 := pow_10 (hN (v 0 0)) (by omega)
  obtain ⟨S, e1, hS, hD⟩ := reachM hM hR hP ht (nI c)
  have bit : ∀ x, dS S x = 0 ↔ S.testBit x = true := fun x => by unfold dS; cases S.testBit x <;> simp
  have hac : ∀ x y, x < v 0 0 → y < v 0 0 → (AC v t (nI c) x y = true ↔ adj v t x y = true ∧ c.testBit (he (v 0 0) x y) = false) := by
    intro x y hx hy
    unfold AC
    cases q : adj v t x y with
    | false => simp
    | true =>
      have := he_lt _ hR.1 x hx y hy (adj_nn q)
      rw [bt_10 _ (by omega) _ (by omega)]; simp
  refine ⟨S, e1, by omega, ?_⟩
  constructor
  · intro hn
    refine ⟨S, ⟨hS, (bit P).mp hD.2.2, hn⟩, ?_⟩
    rintro x y ⟨hx, hy, s1, s2, s3⟩
    cases q : c.testBit (he (v 0 0) x y) with
    | true => rfl
    | false =>
      have ac := (hac x y hx hy).mpr ⟨s3, q⟩
      have := hD.2.1 y hy x hx (fun e => adj_nn s3 e.symm)
      unfold cA at this
      rw [ac, if_pos rfl, (bit x).mpr s1] at this
      have := (bit y).mp (by omega)
      rw [s2] at this; exact absurd this (by decide)
  · rintro ⟨s, ⟨hs, sP, sf⟩, hcl⟩
    cases q : S.testBit f with
    | false => rfl
    | true =>
      have d0 := (bit f).mpr q
      have w := (hD.1 f hf).2 (by omega)
      have : s.testBit f = true := by
        refine Wk.ind (fun a _ => s.testBit a = true) sP ?_ w
        intro a b Ln ha hb hab hc1 _ hbs
        unfold cA at hc1
        by_cases ac : AC v t (nI c) b a = true
        · obtain ⟨a1, a2⟩ := (hac b a hb ha).mp ac
          cases qa : s.testBit a with
          | true => rfl
          | false =>
            have := hcl b a ⟨hb, ha, hbs, qa, a1⟩
            rw [a2] at this; exact absurd this (by decide)
        · rw [if_neg ac] at hc1; omega
      rw [sf] at this; exact absurd this (by decide)
theorem keepM {M : Bk} {v : Vw} (hM : ModV M v) (hR : Rng v) {k f : Nat} (hk : k < v 1 0) (hf : f < v 0 0) (hex : ∃ c, c < 2 ^ (hN (v 0 0)) ∧ Bl v (th v k) (v 6 k) f c) : ∃ b, fu2 (FX4_keep_37 (nI k) (nI f) M (fun x3_11 x4_12 => some x3_11)) 3000 (-9) 0 = some (nI b) ∧ b < 2 ^ (hN (v 0 0)) ∧ Bl v (th v k) (v 6 k) f b ∧ ∀ c, c < 2 ^ (hN (v 0 0)) → Bl v (th v k) (v 6 k) f c → lx b c := by
  have h0 := hR.1
  have h1 := hR.2.1
  have h3 := hN_le _ hR.1
  have hp2 := pow_10 (hN (v 0 0)) (by omega)
  have hP := (hR.2.2.2 k hk).2.2.2
  have ht := th_lt hR hk
  refine fx2 (fun o => ∃ b, o = some (nI b) ∧ b < 2 ^ (hN (v 0 0)) ∧ Bl v (th v k) (v 6 k) f b ∧ ∀ c, c < 2 ^ (hN (v 0 0)) → Bl v (th v k) (v 6 k) f c → lx b c) (fun (x y : Int32) m => ∃ j, j ≤ 2 ^ (hN (v 0 0)) ∧ y = nI j ∧ m = 2 ^ (hN (v 0 0)) - j ∧ ((x = -9 ∧ ∀ c, c < j → ¬ Bl v (th v k) (v 6 k) f c) ∨ ∃ b, x = nI b ∧ b < j ∧ Bl v (th v k) (v 6 k) f b ∧ ∀ c, c < j → Bl v (th v k) (v 6 k) f c → lx b c)) ?_ 3000 (-9) 0 (2 ^ (hN (v 0 0))) ⟨0, by omega, rfl, by omega, Or.inl ⟨rfl, fun c hc => by omega⟩⟩ (by omega)
  rintro self x y m ⟨j, hj, rfl, hm, hI⟩ ih
  unfold FX4_keep_37
  rw [hedgesM hM hR]
  simp only [Option.bind_some, sh_10 (hN (v 0 0)) (by omega)]
  by_cases c : 2 ^ (hN (v 0 0)) ≤ j
  · rw [if_pos ((le' (by omega) (by omega)).mpr c)]
    rcases hI with ⟨-, hno⟩ | ⟨b, rfl, hb, hB, hall⟩
    · obtain ⟨c, hc, hB⟩ := hex
      exact absurd hB (hno c (by omega))
    · exact ⟨b, rfl, by omega, hB, fun c hc => hall c (by omega)⟩
  · have hj2 : j < 2 ^ (hN (v 0 0)) := by omega
    obtain ⟨S, e1, hS, hbl⟩ := blockM hM hR (c := j) hP hf ht hj2
    have hS0 := hS
    rw [if_neg (by rw [le' (by omega) (by omega)]; exact c)]
    simp only [wantsM hM hR hk, Option.bind_some, cl (show k < 1000000 by omega), (hM.2.2.2 k hk).2.2, e1, isOfM, b2i_0, bt_I S hS f (by omega), pc_M j (by omega), nI_1 j]
    rcases hI with ⟨rfl, hno⟩ | ⟨b, rfl, hb, hB, hall⟩
    · simp only [if_true, Option.bind_some, one_ne, if_false]
      cases q : S.testBit f with
      | false =>
        simp only [if_true, Option.bind_some]
        refine ih _ _ (m - 1) (by omega) ⟨j + 1, by omega, rfl, by omega, Or.inr ⟨j, rfl, by omega, hbl.mp q, fun c hc hcb => ?_⟩⟩
        by_cases e : c = j
        · rw [e]; exact Or.inr ⟨rfl, Nat.le_refl _⟩
        · exact absurd hcb (hno c (by omega))
      | true =>
        simp only [Bool.true_eq_false, if_false, Option.bind_some]
        refine ih _ _ (m - 1) (by omega) ⟨j + 1, by omega, rfl, by omega, Or.inl ⟨rfl, fun c hc hcb => ?_⟩⟩
        by_cases e : c = j
        · rw [e] at hcb; have := hbl.mpr hcb; rw [q] at this; exact absurd this (by decide)
        · exact absurd hcb (hno c (by omega))
    · have pj := pc_le j
      have pb := pc_le b
      rw [if_neg (nI_n9 (show b < 1000000 by omega))]
      simp only [pc_M b (by omega), Option.bind_some, le' (show pc b < 1000000 by omega) (show pc j < 1000000 by omega)]
      have same : (Bl v (th v k) (v 6 k) f j → lx b j) → ∃ b', self (nI b) (nI (j + 1)) = some (nI b') ∧ b' < 2 ^ (hN (v 0 0)) ∧ Bl v (th v k) (v 6 k) f b' ∧ ∀ c, c < 2 ^ (hN (v 0 0)) → Bl v (th v k) (v 6 k) f c → lx b' c := by
        intro q
        refine ih _ _ (m - 1) (by omega) ⟨j + 1, by omega, rfl, by omega, Or.inr ⟨b, rfl, by omega, hB, fun c hc hcb => ?_⟩⟩
        by_cases e : c = j
        · rw [e] at hcb ⊢; exact q hcb
        · exact hall c (by omega) hcb
      by_cases q : pc b ≤ pc j
      · simp only [q, if_true, Option.bind_some]
        exact same (fun _ => by unfold lx; omega)
      · simp only [q, if_false, Option.bind_some, one_ne]
        cases q2 : S.testBit f with
        | false =>
          simp only [if_true, Option.bind_some]
          refine ih _ _ (m - 1) (by omega) ⟨j + 1, by omega, rfl, by omega, Or.inr ⟨j, rfl, by omega, hbl.mp q2, fun c hc hcb => ?_⟩⟩
          by_cases e : c = j
          · rw [e]; exact Or.inr ⟨rfl, Nat.le_refl _⟩
          · refine lx_trans ?_ (hall c (by omega) hcb)
            unfold lx; omega
        | true =>
          simp only [Bool.true_eq_false, if_false, Option.bind_some]
          exact same (fun hcb => by have := hbl.mpr hcb; rw [q2] at this; exact absurd this (by decide))
theorem keepE {L M : Bk} {v : Vw} (hL : LandV L v) (hM : ModV M v) (hR : Rng v) {k f : Nat} (hk : k < v 1 0) (hf : f < v 0 0) (hne : v 6 k ≠ f) : ∃ b, fX0_fewestToShut L (nI k) (nI f) = some (nI b) ∧ fu2 (FX4_keep_37 (nI k) (nI f) M (fun x3_11 x4_12 => some x3_11)) 3000 (-9) 0 = some (nI b) := by
  have h0 := hR.1
  have h3 := hN_le _ hR.1
  have hp2 := pow_10 (hN (v 0 0)) (by omega)
  have hP := (hR.2.2.2 k hk).2.2.2
  have ht := th_lt hR hk
  have bls : ∀ s, Sd (v 0 0) (v 6 k) f s → Bl v (th v k) (v 6 k) f (cutF L (th v k) s) := by
    intro s hs
    refine ⟨s, hs, fun x y hl => ?_⟩
    exact ((cutXF hL hR ht hs.1).2.2 _).mpr ⟨x, y, hl, rfl⟩
  have side : Sd (v 0 0) (v 6 k) f (2 ^ v 6 k) := by
    refine ⟨pow_lt hP, ?_, ?_⟩
    · rw [Nat.testBit_two_pow]; simp
    · rw [Nat.testBit_two_pow]; simp [hne]
  obtain ⟨b, e1, hb1, hb2⟩ := keepX hL hR hk hf
  obtain ⟨y, e2, hy, hyB, hyl⟩ := keepM hM hR hk hf ⟨_, (cutXF hL hR ht side.1).2.1, bls _ side⟩
  have hbs : ∃ s, Sd (v 0 0) (v 6 k) f s ∧ b = cutF L (th v k) s := by
    rcases hb1 with e | e
    · exfalso
      have hl := hb2 _ side
      obtain ⟨-, q2, q3⟩ := cutXF hL hR ht side.1
      have hfull : cutF L (th v k) (2 ^ v 6 k) = 1023 := by
        refine pc_full _ (by omega) ?_
        rw [e] at hl
        unfold lx at hl
        rw [pc_1023] at hl
        omega
      obtain ⟨hh, hh10, hmiss⟩ := he_miss _ h0 _ hP
      have hbit : (cutF L (th v k) (2 ^ v 6 k)).testBit hh = true := by
        rw [hfull]
        have : ∀ h, h < 10 → (1023 : Nat).testBit h = true := by decide
        exact this hh hh10
      obtain ⟨x, z, hl2, he2⟩ := (q3 hh).mp hbit
      have ex : x = v 6 k := by
        have := hl2.2.2.1
        rw [Nat.testBit_two_pow] at this
        simp at this; exact this.symm
      have hz : z ≠ v 6 k := fun e => adj_nn hl2.2.2.2.2 (by rw [ex, e])
      rw [ex] at he2
      exact hmiss z hl2.2.1 hz he2
    · exact e
  obtain ⟨s, hs, es⟩ := hbs
  have l1 : lx y b := by rw [es]; exact hyl _ (cutXF hL hR ht hs.1).2.1 (bls s hs)
  have l2 : lx b y := by
    obtain ⟨s', hs', hcl⟩ := hyB
    refine lx_trans (hb2 s' hs') (sub_lx ?_)
    intro h hbit
    obtain ⟨x, z, hl, rfl⟩ := ((cutXF hL hR ht hs'.1).2.2 h).mp hbit
    exact hcl x z hl
  have e := lx_anti l1 l2
  rw [e] at e2
  exact ⟨b, e1, e2⟩
theorem sim_keep {X : Bk} {Rw : Nat → Bk} {L N M : Bk} (T : Bk) (h : Rel X Rw L N M) (p0 : Int32) (p1 : Int32) : ∃ (k : Nat) (ox : Int32) (om : Int32), k < 4 ∧ fX3_keep L p0 p1 = some ox ∧ fX4_keep M p0 p1 = some om ∧ ox = om ∧ Rel X Rw L N M := by
  obtain ⟨v, r, hR, hL, hM, hw, hS, hd, hdr, hrow⟩ := id h
  unfold fX3_keep fX4_keep
  rcases goerC hL hM hR p0 with ⟨e1, e2⟩ | ⟨k, hk, rfl, e1, e2⟩
  · rw [e1, e2]; exact ⟨0, _, _, by decide, rfl, rfl, rfl, h⟩
  · rcases fieldC hL hM hR p1 with ⟨e3, e4⟩ | ⟨f, hf, rfl, e3, e4⟩
    · rw [e1, e2, e3, e4]; exact ⟨0, _, _, by decide, rfl, rfl, rfl, h⟩
    · have h0 := hR.1
      have h1 := hR.2.1
      have hP := (hR.2.2.2 k hk).2.2.2
      rw [e1, e2, e3, e4]
      simp only [Option.bind_some, one_ne, if_false, gIn (show k < 5 by omega) (show 5 < 1000000 by omega), cl (show k < 1000000 by omega), (hL.2.2.2 k hk).2.2, (hM.2.2.2 k hk).2.2, eq' (show v 6 k < 1000000 by omega) (show f < 1000000 by omega)]
      by_cases q : v 6 k = f
      · simp only [if_pos q]; exact ⟨0, _, _, by decide, rfl, rfl, rfl, h⟩
      · obtain ⟨b, b1, b2⟩ := keepE hL hM hR hk hf q
        simp only [if_neg q]
        rw [b1, b2]
        exact ⟨0, _, _, by decide, rfl, rfl, rfl, h⟩
