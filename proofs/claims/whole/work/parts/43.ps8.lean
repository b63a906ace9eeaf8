/-! seasons -/
theorem againC {R M : Bk} {k t : Nat} (h : RowR R M k) (hk : k < 4) (ht : t < 3) (p2 p3 : Int32) : ∃ e : Int32, fX4_against M (nI k) (nI t) p2 p3 = some e ∧ (e = 0 → ∃ a n, p2 = nI a ∧ p3 = nI n ∧ a + n ≤ 60) ∧ (∀ (ρ : Type) (K : Int32 → Option ρ), ((fX2_faultAs R (nI t)).bind fun v11 => ((if v11 = 0 then (if 0 ≤ p3 then some v11 else some 4) else some v11) : Option Int32).bind fun v13 => ((if v13 = 0 then (fX2_spans R p2 p3).bind fun v32 => (if v32 = 0 then some 3 else some v13) else some v13) : Option Int32).bind K) = K e) := by
  obtain ⟨z, hz, z1, z2⟩ := h.1
  unfold fX4_against fX2_faultAs fX2_spans
  rw [gIn hk (by omega), cl (show k < 1000000 by omega), z1, z2]
  rcases h.2.1 with ⟨a1, a2⟩ | ⟨a1, s, hs, a2, a3⟩
  · rw [a1, a2]
    exact ⟨1, by simp, fun e => absurd e (by decide), fun ρ K => by simp⟩
  · have c9 : ¬ nI s = -9 := nI_n9 (by omega)
    have es : (nI s = nI t) ↔ s = t := eq' (by omega) (by omega)
    rw [a1, a2, a3]
    simp only [one_ne, c9, es, if_false]
    by_cases c : s = t
    · simp only [c, if_true, Option.bind_some]
      by_cases c3 : 0 ≤ p3
      · have c3' : ¬ p3 < 0 := Int32.not_lt.mpr c3
        simp only [c3, c3', if_true, if_false, Option.bind_some]
        by_cases c2 : p2 < 0
        · exact ⟨3, by simp [c2], fun e => absurd e (by decide), fun ρ K => by simp [c2]⟩
        · by_cases c4 : nI z < p2
          · exact ⟨3, by simp [c2, c4], fun e => absurd e (by decide), fun ρ K => by simp [c2, c4]⟩
          · obtain ⟨a, ha, rfl⟩ := nI_of c2
            obtain ⟨n, hn, rfl⟩ := nI_of c3'
            have ha2 : a ≤ z := by
              have := mt (nI_ltI (by omega) ha).mpr c4
              omega
            rw [pk_sub ha2]
            by_cases c5 : nI n ≤ nI (z - a)
            · have c5' : ¬ nI (z - a) < nI n := Int32.not_lt.mpr c5
              have := (nI_leI hn (by omega)).mp c5
              exact ⟨0, by simp [c2, c4, c5], fun _ => ⟨a, n, rfl, rfl, by omega⟩, fun ρ K => by simp [c2, c4, c5']⟩
            · have c5' : nI (z - a) < nI n := Int32.not_le.mp c5
              exact ⟨3, by simp [c2, c4, c5], fun e => absurd e (by decide), fun ρ K => by simp [c2, c4, c5']⟩
      · exact ⟨4, by simp [c3], fun e => absurd e (by decide), fun ρ K => by simp [c3]⟩
    · exact ⟨2, by simp [c], fun e => absurd e (by decide), fun ρ K => by simp [c]⟩
-- refusals
def rf (g : Nat) (x y : Int32) : Int32 := if y = 10 ∨ y = 20 then (if x < 0 ∨ 9 < x then -2 else 0) else if y < 0 ∨ 4 < y then -2 else if x < 0 ∨ nI g ≤ x then -1 else 0
theorem lt5 (y : Int32) : y < 5 ↔ ¬ (4 : Int32) < y := by
  rw [Int32.lt_iff_toInt_lt, Int32.lt_iff_toInt_lt]
  have e1 : (4 : Int32).toInt = 4 := by decide
  have e2 : (5 : Int32).toInt = 5 := by decide
  omega
theorem le9 (y : Int32) : y ≤ 9 ↔ ¬ (9 : Int32) < y := Int32.not_lt.symm
theorem rfM {M : Bk} {v : Vw} (hM : ModV M v) (x y : Int32) : fX4_refusesPair M x y = some (rf (v 1 0) x y) := by
  unfold fX4_refusesPair rf fX4_isGoer fX4_within
  rw [hM.2.1]
  have t10 : (4 : Int32) < 10 := by decide
  have t20 : (4 : Int32) < 20 := by decide
  have n10 : ¬ (10 : Int32) < 0 := by decide
  have n20 : ¬ (20 : Int32) < 0 := by decide
  have n1020 : ¬ (20 : Int32) = 10 := by decide
  by_cases c1 : y = 10
  · subst c1
    by_cases x0 : x < 0
    · simp [t10, n10, x0]
    · by_cases x9 : 9 < x
      · simp [t10, n10, x0, x9]
      · simp [t10, n10, x0, x9, one_ne]
  · by_cases c2 : y = 20
    · subst c2
      by_cases x0 : x < 0
      · simp [t20, n20, n1020, x0]
      · by_cases x9 : 9 < x
        · simp [t20, n20, n1020, x0, x9]
        · simp [t20, n20, n1020, x0, x9, one_ne]
    · by_cases y0 : y < 0
      · simp [c1, c2, y0]
      · by_cases y4 : 4 < y
        · simp [c1, c2, y0, y4]
        · by_cases x0 : x < 0
          · simp [c1, c2, y0, y4, x0]
          · by_cases xg : nI (v 1 0) ≤ x
            · simp [c1, c2, y0, y4, x0, xg]
            · simp [c1, c2, y0, y4, x0, xg]
theorem rfX {L : Bk} {v : Vw} (hL : LandV L v) (x y : Int32) (o : Option Int32) : (if y = 10 then (if x < 0 then some (-2) else (if x ≤ 9 then o else some (-2))) else (if y = 20 then (if x < 0 then some (-2) else (if x ≤ 9 then o else some (-2))) else (if y < 0 then some (-2) else (if y < 5 then (fX3_isGoer L x).bind fun v12 => (if v12 = 0 then some (-1) else o) else some (-2))))) = if rf (v 1 0) x y = 0 then o else some (rf (v 1 0) x y) := by
  unfold rf fX3_isGoer
  rw [hL.2.1]
  have m2 : ¬ (-2 : Int32) = 0 := by decide
  have m1 : ¬ (-1 : Int32) = 0 := by decide
  have n1020 : ¬ (20 : Int32) = 10 := by decide
  by_cases c1 : y = 10
  · subst c1
    by_cases x0 : x < 0
    · simp [x0, m2]
    · by_cases x9 : 9 < x
      · simp [x0, x9, le9, m2]
      · simp [x0, x9, le9]
  · by_cases c2 : y = 20
    · subst c2
      by_cases x0 : x < 0
      · simp [x0, n1020, m2]
      · by_cases x9 : 9 < x
        · simp [x0, x9, le9, n1020, m2]
        · simp [x0, x9, le9, n1020]
    · by_cases y0 : y < 0
      · simp [c1, c2, y0, m2]
      · by_cases y4 : 4 < y
        · simp [c1, c2, y0, y4, lt5, m2]
        · by_cases x0 : x < 0
          · simp [c1, c2, y0, y4, lt5, x0, m1]
          · by_cases xg : nI (v 1 0) ≤ x
            · simp [c1, c2, y0, y4, lt5, x0, xg, m1]
            · simp [c1, c2, y0, y4, lt5, x0, xg]
/-- the first refusal from pair i on -/
def rfL (g : Nat) (R : Bk) (a : Nat) : Nat → Nat → Int32
  | 0, _ => 0
  | m + 1, i => if rf g (R 0 (a + 2 * i)) (R 0 (a + 2 * i + 1)) = 0 then rfL g R a m (i + 1) else rf g (R 0 (a + 2 * i)) (R 0 (a + 2 * i + 1))
theorem rfL_1 (g : Nat) (R : Bk) (a m i : Nat) : rfL g R a (m + 1) i = if rf g (R 0 (a + 2 * i)) (R 0 (a + 2 * i + 1)) = 0 then rfL g R a m (i + 1) else rf g (R 0 (a + 2 * i)) (R 0 (a + 2 * i + 1)) := rfl
theorem rfL_0 (g : Nat) (R : Bk) (a : Nat) : ∀ m i, rfL g R a m i = 0 → ∀ j, i ≤ j → j < i + m → rf g (R 0 (a + 2 * j)) (R 0 (a + 2 * j + 1)) = 0 := by
  intro m
  induction m with
  | zero => intro i _ j h1 h2; omega
  | succ m ih =>
    intro i h j h1 h2
    rw [rfL_1] at h
    by_cases c : rf g (R 0 (a + 2 * i)) (R 0 (a + 2 * i + 1)) = 0
    · rw [if_pos c] at h
      by_cases e : j = i
      · rw [e]; exact c
      · exact ih (i + 1) h j (by omega) (by omega)
    · rw [if_neg c] at h; exact absurd h c
theorem ix2 (a j : Nat) : nI a + 2 * nI j = nI (a + 2 * j) := by rw [show (2 : Int32) = nI 2 from rfl, pk_mul, nI_add]
theorem refX {L R : Bk} {v : Vw} (hL : LandV L v) {a n : Nat} (ha : a + 2 * n ≤ 60) : fX3_refusalOfPairs R L (nI a) (nI n) = some (rfL (v 1 0) R a n 0) := by
  unfold fX3_refusalOfPairs
  refine fx1 (fun o => o = some (rfL (v 1 0) R a n 0)) (fun (x : Int32) m => ∃ j, j ≤ n ∧ x = nI j ∧ m = n - j ∧ rfL (v 1 0) R a (n - j) j = rfL (v 1 0) R a n 0) ?_ 100 0 n ⟨0, by omega, rfl, by omega, rfl⟩ (by omega)
  rintro self x m ⟨j, hj, rfl, hm, hr⟩ ih
  unfold FX3_refusalOfPairs_3
  by_cases c : n ≤ j
  · rw [if_pos ((le' (by omega) (by omega)).mpr c)]
    rw [show n - j = 0 by omega] at hr
    rw [← hr]; rfl
  · rw [if_neg (by rw [le' (by omega) (by omega)]; exact c), ix2, nI_1, gIn (show a + 2 * j < 60 by omega) (by omega), gIn (show a + 2 * j + 1 < 60 by omega) (by omega), cl (show a + 2 * j < 1000000 by omega), cl (show a + 2 * j + 1 < 1000000 by omega), rfX hL]
    rw [show n - j = (n - (j + 1)) + 1 by omega, rfL_1] at hr
    by_cases c0 : rf (v 1 0) (R 0 (a + 2 * j)) (R 0 (a + 2 * j + 1)) = 0
    · rw [if_pos c0] at hr ⊢
      exact ih _ (m - 1) (by omega) ⟨j + 1, by omega, nI_1 j, by omega, hr⟩
    · rw [if_neg c0] at hr ⊢; rw [hr]
theorem refM {M R : Bk} {v : Vw} (hM : ModV M v) {k a n : Nat} (hk : k < 4) (hrow : RowR R M k) (ha : a + 2 * n ≤ 60) (kx : Int32 → Option (Int32 × Bk)) : fu1 (FX4_season_103 (nI k) (nI a) (nI n) M kx) 100 0 = if rfL (v 1 0) R a n 0 = 0 then kx (nI n) else some (rfL (v 1 0) R a n 0, M) := by
  refine fx1 (fun o => o = if rfL (v 1 0) R a n 0 = 0 then kx (nI n) else some (rfL (v 1 0) R a n 0, M)) (fun (x : Int32) m => ∃ j, j ≤ n ∧ x = nI j ∧ m = n - j ∧ rfL (v 1 0) R a (n - j) j = rfL (v 1 0) R a n 0) ?_ 100 0 n ⟨0, by omega, rfl, by omega, rfl⟩ (by omega)
  rintro self x m ⟨j, hj, rfl, hm, hr⟩ ih
  unfold FX4_season_103
  by_cases c : n ≤ j
  · rw [if_pos ((le' (by omega) (by omega)).mpr c)]
    rw [show n - j = 0 by omega] at hr
    rw [← hr, show n = j by omega]; rfl
  · have e1 : ((60 * nI k) + nI a) + (2 * nI j) = nI (60 * k + (a + 2 * j)) := by rw [show (60 : Int32) = nI 60 from rfl, pk_mul, nI_add, ix2, Nat.add_assoc]
    rw [if_neg (by rw [le' (by omega) (by omega)]; exact c), e1, nI_1, Nat.add_assoc (60 * k), gIn (show 60 * k + (a + 2 * j) < 240 by omega) (by omega), gIn (show 60 * k + (a + 2 * j + 1) < 240 by omega) (by omega), cl (show 60 * k + (a + 2 * j) < 1000000 by omega), cl (show 60 * k + (a + 2 * j + 1) < 1000000 by omega), hrow.2.2 (a + 2 * j) (by omega), hrow.2.2 (a + 2 * j + 1) (by omega), rfM hM]
    simp only [Option.bind_some]
    rw [show n - j = (n - (j + 1)) + 1 by omega, rfL_1] at hr
    by_cases c0 : rf (v 1 0) (R 0 (a + 2 * j)) (R 0 (a + 2 * j + 1)) = 0
    · rw [if_pos c0] at hr ⊢
      exact ih _ (m - 1) (by omega) ⟨j + 1, by omega, nI_1 j, by omega, hr⟩
    · rw [if_neg c0] at hr ⊢
      rw [← hr, if_neg c0]
theorem hedgesM0 {M : Bk} {n : Nat} (hM : M 5 0 = nI n) (hn : n < 6) : fX4_hedges M = some (nI (hN n)) := by
  unfold fX4_hedges fX4_hedgesOf; rw [hM, hN_I _ hn]; rfl
theorem keepAllM {M : Bk} {n g : Nat} (h5 : M 5 0 = nI n) (h6 : M 6 0 = nI g) (hn : n < 6) (hg : g < 6) : ∃ M', fX4_keepAll M = some M' ∧ (∀ i, i ≠ 21 → i ≠ 19 → i ≠ 20 → M' i = M i) ∧ M' 21 0 = M 9 0 ∧ (∀ x, x < hN n → M' 19 x = M 10 x) ∧ ∀ x, x < g → M' 20 x = M 13 x := by
  have h3 := hN_le _ hn
  unfold fX4_keepAll
  simp only [Option.bind_some]
  refine fx2 (fun o => ∃ M' : Bk, o = some M' ∧ (∀ i, i ≠ 21 → i ≠ 19 → i ≠ 20 → M' i = M i) ∧ M' 21 0 = M 9 0 ∧ (∀ x, x < hN n → M' 19 x = M 10 x) ∧ ∀ x, x < g → M' 20 x = M 13 x) (fun (x : Int32) (B : Bk) m => ∃ j, j ≤ hN n ∧ x = nI j ∧ m = hN n - j ∧ (∀ i, i ≠ 21 → i ≠ 19 → i ≠ 20 → B i = M i) ∧ B 21 0 = M 9 0 ∧ ∀ x, x < j → B 19 x = M 10 x) ?_ 100 0 (sB M 21 0 (M 9 0)) (hN n) ⟨0, by omega, rfl, by omega, fun i h1 _ _ => sB_ne _ _ _ h1, sB_same _ _ _ _, fun x hx => absurd hx (Nat.not_lt_zero _)⟩ (by omega)
  rintro self x B m ⟨j, hj, rfl, hm, hBo, hBw, hB⟩ ih
  unfold FX4_keepAll_10
  rw [hedgesM0 (by rw [hBo 5 (by decide) (by decide) (by decide)]; exact h5) hn]
  simp only [Option.bind_some]
  by_cases c : hN n ≤ j
  · rw [if_pos ((le' (by omega) (by omega)).mpr c)]
    refine fx2 (fun o => ∃ M' : Bk, o = some M' ∧ (∀ i, i ≠ 21 → i ≠ 19 → i ≠ 20 → M' i = M i) ∧ M' 21 0 = M 9 0 ∧ (∀ x, x < hN n → M' 19 x = M 10 x) ∧ ∀ x, x < g → M' 20 x = M 13 x) (fun (x : Int32) (C : Bk) m => ∃ j, j ≤ g ∧ x = nI j ∧ m = g - j ∧ (∀ i, i ≠ 21 → i ≠ 19 → i ≠ 20 → C i = M i) ∧ C 21 0 = M 9 0 ∧ (∀ x, x < hN n → C 19 x = M 10 x) ∧ ∀ x, x < j → C 20 x = M 13 x) ?_ 100 0 B g ⟨0, by omega, rfl, by omega, hBo, hBw, fun x hx => hB x (by omega), fun x hx => absurd hx (Nat.not_lt_zero _)⟩ (by omega)
    rintro self x C m ⟨j, hj, rfl, hm, hCo, hCw, hC, hC2⟩ ih
    unfold FX4_keepAll_38
    rw [hCo 6 (by decide) (by decide) (by decide), h6]
    by_cases c : g ≤ j
    · rw [if_pos ((le' (by omega) (by omega)).mpr c)]
      exact ⟨C, rfl, hCo, hCw, hC, fun x hx => hC2 x (by omega)⟩
    · rw [if_neg (by rw [le' (by omega) (by omega)]; exact c), gIn (show j < 5 by omega) (by omega), cl (show j < 1000000 by omega), hCo 13 (by decide) (by decide) (by decide)]
      simp only [Option.bind_some]
      refine ih _ _ (m - 1) (by omega) ⟨j + 1, by omega, nI_1 j, by omega, fun i a b d => (sB_ne _ _ _ d).trans (hCo i a b d), by rw [sB_ne _ _ _ (by decide)]; exact hCw, fun x hx => by rw [sB_ne _ _ _ (by decide)]; exact hC x hx, fun x hx => ?_⟩
      rw [sB_row]
      by_cases e : x = j
      · rw [if_pos e, e]
      · rw [if_neg e]; exact hC2 x (by omega)
  · rw [if_neg (by rw [le' (by omega) (by omega)]; exact c), gIn (show j < 10 by omega) (by omega), cl (show j < 1000000 by omega), hBo 10 (by decide) (by decide) (by decide)]
    refine ih _ _ (m - 1) (by omega) ⟨j + 1, by omega, nI_1 j, by omega, fun i a b d => (sB_ne _ _ _ b).trans (hBo i a b d), by rw [sB_ne _ _ _ (by decide)]; exact hBw, fun x hx => ?_⟩
    rw [sB_row]
    by_cases e : x = j
    · rw [if_pos e, e]
    · rw [if_neg e]; exact hB x (by omega)
theorem putBackM {M : Bk} {n g : Nat} (h5 : M 5 0 = nI n) (h6 : M 6 0 = nI g) (hn : n < 6) (hg : g < 6) : ∃ M', fX4_putBack M = some M' ∧ (∀ i, i ≠ 9 → i ≠ 10 → i ≠ 13 → M' i = M i) ∧ M' 9 0 = M 21 0 ∧ (∀ x, x < hN n → M' 10 x = M 19 x) ∧ ∀ x, x < g → M' 13 x = M 20 x := by
  have h3 := hN_le _ hn
  unfold fX4_putBack
  simp only [Option.bind_some]
  refine fx2 (fun o => ∃ M' : Bk, o = some M' ∧ (∀ i, i ≠ 9 → i ≠ 10 → i ≠ 13 → M' i = M i) ∧ M' 9 0 = M 21 0 ∧ (∀ x, x < hN n → M' 10 x = M 19 x) ∧ ∀ x, x < g → M' 13 x = M 20 x) (fun (x : Int32) (B : Bk) m => ∃ j, j ≤ hN n ∧ x = nI j ∧ m = hN n - j ∧ (∀ i, i ≠ 9 → i ≠ 10 → i ≠ 13 → B i = M i) ∧ B 9 0 = M 21 0 ∧ ∀ x, x < j → B 10 x = M 19 x) ?_ 100 0 (sB M 9 0 (M 21 0)) (hN n) ⟨0, by omega, rfl, by omega, fun i h1 _ _ => sB_ne _ _ _ h1, sB_same _ _ _ _, fun x hx => absurd hx (Nat.not_lt_zero _)⟩ (by omega)
  rintro self x B m ⟨j, hj, rfl, hm, hBo, hBw, hB⟩ ih
  unfold FX4_putBack_10
  rw [hedgesM0 (by rw [hBo 5 (by decide) (by decide) (by decide)]; exact h5) hn]
  simp only [Option.bind_some]
  by_cases c : hN n ≤ j
  · rw [if_pos ((le' (by omega) (by omega)).mpr c)]
    refine fx2 (fun o => ∃ M' : Bk, o = some M' ∧ (∀ i, i ≠ 9 → i ≠ 10 → i ≠ 13 → M' i = M i) ∧ M' 9 0 = M 21 0 ∧ (∀ x, x < hN n → M' 10 x = M 19 x) ∧ ∀ x, x < g → M' 13 x = M 20 x) (fun (x : Int32) (C : Bk) m => ∃ j, j ≤ g ∧ x = nI j ∧ m = g - j ∧ (∀ i, i ≠ 9 → i ≠ 10 → i ≠ 13 → C i = M i) ∧ C 9 0 = M 21 0 ∧ (∀ x, x < hN n → C 10 x = M 19 x) ∧ ∀ x, x < j → C 13 x = M 20 x) ?_ 100 0 B g ⟨0, by omega, rfl, by omega, hBo, hBw, fun x hx => hB x (by omega), fun x hx => absurd hx (Nat.not_lt_zero _)⟩ (by omega)
    rintro self x C m ⟨j, hj, rfl, hm, hCo, hCw, hC, hC2⟩ ih
    unfold FX4_putBack_38
    rw [hCo 6 (by decide) (by decide) (by decide), h6]
    by_cases c : g ≤ j
    · rw [if_pos ((le' (by omega) (by omega)).mpr c)]
      exact ⟨C, rfl, hCo, hCw, hC, fun x hx => hC2 x (by omega)⟩
    · rw [if_neg (by rw [le' (by omega) (by omega)]; exact c), gIn (show j < 5 by omega) (by omega), cl (show j < 1000000 by omega), hCo 20 (by decide) (by decide) (by decide)]
      simp only [Option.bind_some]
      refine ih _ _ (m - 1) (by omega) ⟨j + 1, by omega, nI_1 j, by omega, fun i a b d => (sB_ne _ _ _ d).trans (hCo i a b d), by rw [sB_ne _ _ _ (by decide)]; exact hCw, fun x hx => by rw [sB_ne _ _ _ (by decide)]; exact hC x hx, fun x hx => ?_⟩
      rw [sB_row]
      by_cases e : x = j
      · rw [if_pos e, e]
      · rw [if_neg e]; exact hC2 x (by omega)
  · rw [if_neg (by rw [le' (by omega) (by omega)]; exact c), gIn (show j < 10 by omega) (by omega), cl (show j < 1000000 by omega), hBo 19 (by decide) (by decide) (by decide)]
    refine ih _ _ (m - 1) (by omega) ⟨j + 1, by omega, nI_1 j, by omega, fun i a b d => (sB_ne _ _ _ b).trans (hBo i a b d), by rw [sB_ne _ _ _ (by decide)]; exact hBw, fun x hx => ?_⟩
    rw [sB_row]
    by_cases e : x = j
    · rw [if_pos e, e]
    · rw [if_neg e]; exact hB x (by omega)
/-- the trial of the class and of the reference, alike -/
def Tr (v : Vw) (M0 : Bk) (u : Vw) (T B : Bk) (c : Nat) : Prop := Rng u ∧ LandV T u ∧ ModV B u ∧ T 2 0 = B 9 0 ∧ u 0 0 = v 0 0 ∧ u 1 0 = v 1 0 ∧ B 22 0 = nI c ∧ ∀ i, i ≠ 9 → i ≠ 10 → i ≠ 13 → i ≠ 22 → B i = M0 i
/-- a field is told -/
def isF (y : Int32) : Nat := if 5 ≤ y then 0 else 1
theorem does8 {ρ : Type} (p : Int32) (kx : Int32 → Bk → Option ρ) : FX4_does_8 p kx = FX4_years_25 p kx := rfl
theorem actC {v u : Vw} {M0 T B : Bk} {c : Nat} (h : Tr v M0 u T B c) {x y : Int32} (hr : rf (v 1 0) x y = 0) : ∃ r T' B' u' c', fX0_acts T x y = some (r, T') ∧ fX4_does B x y = some (r, B') ∧ Tr v M0 u' T' B' c' ∧ (¬ r = 0 → c' = c + isF y) := by
  obtain ⟨hR, hT, hB, hw, u0, u1, h22, ho⟩ := id h
  have h0 := hR.1
  have h1 := hR.2.1
  have h3 := hN_le _ hR.1
  have m2 : ¬ (-2 : Int32) = 0 := by decide
  have m1 : ¬ (-1 : Int32) = 0 := by decide
  unfold rf at hr
  by_cases c12 : y = 10 ∨ y = 20
  · rw [if_pos c12] at hr
    have hx : ¬ (x < 0 ∨ 9 < x) := by intro q; rw [if_pos q] at hr; exact m2 hr
    obtain ⟨p, hp, rfl⟩ := nI_of (show ¬ x < 0 from fun q => hx (Or.inl q))
    have hp9 : p ≤ 9 := by
      by_cases q : p ≤ 9
      · exact q
      · exact absurd (Or.inr ((nI_ltI (a := 9) (by omega) hp).mpr (by omega))) hx
    have eF : isF y = 0 := by rcases c12 with rfl | rfl <;> decide
    rcases c12 with rfl | rfl
    · obtain ⟨T', e1, e2, e3⟩ := ageX hT hR (show p < 61 by omega)
      obtain ⟨B', g1, g2, g3, g4⟩ := yearsM hB hR (show p < 61 by omega) (fun x3_17 M_18 => some ((1 : Int32), M_18))
      obtain ⟨i1, i2, i3, -⟩ := itY_rng hR p (T 2 0)
      refine ⟨1, T', B', (itY p u (T 2 0)).1, c, ?_, ?_, ⟨i1, e2, by rw [hw]; exact g2, by rw [e3, g3, hw], i2.trans u0, i3.trans u1, by rw [g4 22 (by decide) (by decide)]; exact h22, fun i a b d e => (g4 i a b).trans (ho i a b d e)⟩, fun _ => by rw [eF]; rfl⟩
      · unfold fX0_acts; rw [if_pos rfl, e1]; rfl
      · unfold fX4_does; rw [if_pos rfl, does8]; exact g1
    · unfold fX0_acts fX4_does
      rw [if_neg (show ¬ (20 : Int32) = 10 by decide), if_neg (show ¬ (20 : Int32) = 10 by decide), if_pos rfl, if_pos rfl, hedgesM hB hR]
      simp only [Option.bind_some]
      by_cases q : hN (u 0 0) ≤ p
      · have q' : nI (hN (u 0 0)) ≤ nI p := (le' (by omega) (by omega)).mpr q
        refine ⟨0, T, B, u, c, ?_, by rw [if_pos q'], h, fun e => absurd rfl e⟩
        unfold fX0_stopUp
        rw [hedgesX hT hR, Option.bind_some, if_pos q']; rfl
      · have q' : ¬ nI (hN (u 0 0)) ≤ nI p := by rw [le' (by omega) (by omega)]; exact q
        have hq : p < hN (u 0 0) := by omega
        have hz : (nI (u 3 p) = 0) ↔ u 3 p = 0 := eq' (b := 0) (by have := hR.2.2.1 p hq; omega) (by omega)
        rw [stopX hT hR hq, if_neg q', gIn (show p < 10 by omega) (by omega), cl (show p < 1000000 by omega), hB.2.2.1 p hq]
        simp only [hz]
        by_cases cz : u 3 p = 0
        · simp only [cz, if_true, Option.bind_some]
          exact ⟨0, T, B, u, c, rfl, rfl, h, fun e => absurd rfl e⟩
        · simp only [cz, if_false, Option.bind_some]
          refine ⟨1, _, _, uV u 3 p 9, c, rfl, rfl, ⟨hR.setW p (by omega), hT.setW p 9, hB.setW p 9, hw, (uV_ne _ _ _ _ (by decide)).trans u0, (uV_ne _ _ _ _ (by decide)).trans u1, h22, fun i a b d e => (sB_ne _ _ _ b).trans (ho i a b d e)⟩, fun _ => by rw [eF]; rfl⟩
  · rw [if_neg c12] at hr
    have hy : ¬ (y < 0 ∨ 4 < y) := by intro q; rw [if_pos q] at hr; exact m2 hr
    rw [if_neg hy] at hr
    have hx : ¬ (x < 0 ∨ nI (v 1 0) ≤ x) := by intro q; rw [if_pos q] at hr; exact m1 hr
    obtain ⟨p, hp, rfl⟩ := nI_of (show ¬ x < 0 from fun q => hx (Or.inl q))
    obtain ⟨f, hf, rfl⟩ := nI_of (show ¬ y < 0 from fun q => hy (Or.inl q))
    have hpg : p < u 1 0 := by
      by_cases q : p < u 1 0
      · exact q
      · exact absurd (Or.inr ((nI_leI (by omega) hp).mpr (by omega))) hx
    have hf5 : f < 5 := by
      by_cases q : f < 5
      · exact q
      · exact absurd (Or.inr ((nI_ltI (a := 4) (by omega) hf).mpr (by omega))) hy
    have eF : isF (nI f) = 1 := by
      unfold isF
      rw [if_neg (show ¬ (5 : Int32) ≤ nI f by intro q; have := (nI_leI (a := 5) (by omega) hf).mp q; omega)]
    have c10 : ¬ nI f = 10 := fun e => c12 (Or.inl e)
    have c20 : ¬ nI f = 20 := fun e => c12 (Or.inr e)
    have hP := (hR.2.2.2 p hpg).2.2.2
    have hB3 : ModV (sB B 22 0 ((B 22 0) + 1)) u := hB.fr rfl rfl rfl rfl rfl rfl
    have h223 : sB B 22 0 ((B 22 0) + 1) 22 0 = nI (c + 1) := by rw [sB_same, h22]; exact nI_1 c
    have ho3 : ∀ i, i ≠ 9 → i ≠ 10 → i ≠ 13 → i ≠ 22 → sB B 22 0 ((B 22 0) + 1) i = M0 i := fun i a b d e => (sB_ne _ _ _ e).trans (ho i a b d e)
    have st3 : Tr v M0 u T (sB B 22 0 ((B 22 0) + 1)) (c + 1) := ⟨hR, hT, hB3, hw, u0, u1, h223, ho3⟩
    unfold fX0_acts fX4_does
    rw [if_neg c10, if_neg c20, if_neg c10, if_neg c20, hT.1]
    simp only [Option.bind_some]
    by_cases q : u 0 0 ≤ f
    · have q' : nI (u 0 0) ≤ nI f := (le' (by omega) (by omega)).mpr q
      refine ⟨0, T, _, u, c + 1, by rw [if_pos q'], ?_, st3, fun e => absurd rfl e⟩
      unfold fX4_goesTo
      rw [gIn (show p < 5 by omega) (by omega), cl (show p < 1000000 by omega)]
      have e13 : sB B 22 0 ((B 22 0) + 1) 13 p = nI (u 6 p) := (hB3.2.2.2 p hpg).2.2
      have ea : fX4_areTwo (sB B 22 0 ((B 22 0) + 1)) (nI (u 6 p)) (nI f) = some 0 := by
        unfold fX4_areTwo fX4_isField
        rw [hB3.1, if_neg (nlt0 (show u 6 p < 1000000 by omega)), if_neg (by rw [le' (by omega) (by omega)]; omega), if_neg (nlt0 (show f < 1000000 by omega)), if_pos q']; rfl
      rw [e13, ea]; rfl
    · have q' : ¬ nI (u 0 0) ≤ nI f := by rw [le' (by omega) (by omega)]; exact q
      have hfn : f < u 0 0 := by omega
      rw [if_neg q', canMoveX hT hR hpg hfn, goesM hB3 hR hpg hfn]
      simp only [Option.bind_some, b2i_0]
      cases qa : adj u (th u p) (u 6 p) f with
      | false =>
        simp only [if_true, Bool.false_eq_true, if_false, Option.bind_some]
        exact ⟨0, T, _, u, c + 1, rfl, rfl, st3, fun e => absurd rfl e⟩
      | true =>
        have hne := adj_ne qa
        simp only [Bool.true_eq_false, if_true, if_false, Option.bind_some, moveX hT hR hpg hfn hne]
        refine ⟨1, _, _, uV u 6 p f, c + 1, rfl, rfl, ⟨hR.setG p (Or.inr (Or.inr ⟨rfl, hfn⟩)), LandV.setG (hT.fr rfl rfl rfl rfl rfl rfl) (Or.inr (Or.inr rfl)) p f, ModV.setG (f := 6) (hB3.fr rfl rfl rfl rfl rfl rfl) (Or.inr (Or.inr rfl)) p f, ?_, (uV_ne _ _ _ _ (by decide)).trans u0, (uV_ne _ _ _ _ (by decide)).trans u1, ?_, fun i a b d e => ?_⟩, fun _ => by rw [eF]⟩
        · rw [sB_ne _ _ _ (show (2 : Nat) ≠ 6 by decide), sB_ne _ _ _ (show (9 : Nat) ≠ 13 by decide), sB_same, sB_same, sB_ne _ _ _ (show (9 : Nat) ≠ 22 by decide), hw]
        · rw [sB_ne _ _ _ (show (22 : Nat) ≠ 13 by decide), sB_ne _ _ _ (show (22 : Nat) ≠ 9 by decide)]; exact h223
        · rw [sB_ne _ _ _ d, sB_ne _ _ _ a]; exact ho3 i a b d e
/-- goings told in the first j pairs -/
def gc (R : Bk) (a : Nat) : Nat → Nat
  | 0 => 0
  | j + 1 => gc R a j + isF (R 0 (a + 2 * j + 1))
theorem gc_1 (R : Bk) (a j : Nat) : gc R a (j + 1) = gc R a j + isF (R 0 (a + 2 * j + 1)) := rfl
theorem goingsX {R : Bk} {a n : Nat} (ha : a + 2 * n ≤ 60) : fX3_goingsTold R (nI a) (nI n) = some (nI (gc R a n)) := by
  unfold fX3_goingsTold
  refine fx2 (fun o => o = some (nI (gc R a n))) (fun (x y : Int32) m => ∃ j, j ≤ n ∧ y = nI j ∧ x = nI (gc R a j) ∧ m = n - j) ?_ 100 0 0 n ⟨0, by omega, rfl, rfl, by omega⟩ (by omega)
  rintro self x y m ⟨j, hj, rfl, rfl, hm⟩ ih
  unfold FX3_goingsTold_5
  by_cases c : n ≤ j
  · rw [if_pos ((le' (by omega) (by omega)).mpr c), show n = j by omega]
  · rw [if_neg (by rw [le' (by omega) (by omega)]; exact c), ix2, nI_1, gIn (show a + 2 * j + 1 < 60 by omega) (by omega), cl (show a + 2 * j + 1 < 1000000 by omega)]
    by_cases q : 5 ≤ R 0 (a + 2 * j + 1)
    · simp only [q, if_true, Option.bind_some]
      exact ih _ _ (m - 1) (by omega) ⟨j + 1, by omega, nI_1 j, by rw [gc_1]; unfold isF; rw [if_pos q]; simp, by omega⟩
    · simp only [q, if_false, Option.bind_some]
      exact ih _ _ (m - 1) (by omega) ⟨j + 1, by omega, nI_1 j, by rw [gc_1]; unfold isF; rw [if_neg q]; exact nI_1 _, by omega⟩
theorem seasonL {v : Vw} {R M0 : Bk} {k a n : Nat} (hk : k < 4) (h4 : ∀ i, i < 60 → M0 4 (60 * k + i) = R 0 i) (ha : a + 2 * n ≤ 60) (hrf : ∀ j, j < n → rf (v 1 0) (R 0 (a + 2 * j)) (R 0 (a + 2 * j + 1)) = 0) : ∀ m N K j u T B, m = n - j → j ≤ n → m < N → m < K → Tr v M0 u T B (gc R a j) → ∃ r T' B' u' c', fu2 (FX3_firstWrongOfSeason_14 (nI a) (nI n) R (fun x4_5 T_6 => some (((-9), T_6)))) N (nI j) T = some (r, T') ∧ fu2 (FX4_goSeason_7 (nI (60 * k + a)) (nI n) (fun x3_5 M_6 => some (((-9), M_6)))) K (nI j) B = some (r, B') ∧ Tr v M0 u' T' B' c' ∧ (r = -9 → c' = gc R a n) := by
  intro m
  induction m with
  | zero =>
    intro N K j u T B hm hj hN hK hTr
    obtain ⟨N, rfl⟩ : ∃ k, N = k + 1 := ⟨N - 1, by omega⟩
    obtain ⟨K, rfl⟩ : ∃ k, K = k + 1 := ⟨K - 1, by omega⟩
    have c : nI n ≤ nI j := (le' (by omega) (by omega)).mpr (by omega)
    refine ⟨-9, T, B, u, gc R a j, ?_, ?_, hTr, fun _ => by rw [show j = n by omega]⟩
    · show FX3_firstWrongOfSeason_14 _ _ _ _ _ _ _ = _
      unfold FX3_firstWrongOfSeason_14; rw [if_pos c]
    · show FX4_goSeason_7 _ _ _ _ _ _ = _
      unfold FX4_goSeason_7; rw [if_pos c]
  | succ m ih =>
    intro N K j u T B hm hj hN hK hTr
    obtain ⟨N, rfl⟩ : ∃ k, N = k + 1 := ⟨N - 1, by omega⟩
    obtain ⟨K, rfl⟩ : ∃ k, K = k + 1 := ⟨K - 1, by omega⟩
    have c : ¬ nI n ≤ nI j := by rw [le' (by omega) (by omega)]; omega
    obtain ⟨r, T1, B1, u1, c1, f1, f2, f3, f4⟩ := actC hTr (hrf j (by omega))
    have ih' := fun u T B => ih N K (j + 1) u T B (by omega) (by omega) (by omega) (by omega)
    show ∃ r T' B' u' c', FX3_firstWrongOfSeason_14 (nI a) (nI n) R (fun x4_5 T_6 => some (((-9), T_6))) (fu2 (FX3_firstWrongOfSeason_14 (nI a) (nI n) R (fun x4_5 T_6 => some (((-9), T_6)))) N) (nI j) T = some (r, T') ∧ FX4_goSeason_7 (nI (60 * k + a)) (nI n) (fun x3_5 M_6 => some (((-9), M_6))) (fu2 (FX4_goSeason_7 (nI (60 * k + a)) (nI n) (fun x3_5 M_6 => some (((-9), M_6)))) K) (nI j) B = some (r, B') ∧ Tr v M0 u' T' B' c' ∧ (r = -9 → c' = gc R a n)
    generalize fu2 (FX3_firstWrongOfSeason_14 (nI a) (nI n) R (fun x4_5 T_6 => some (((-9 : Int32), T_6)))) N = sX at ih' ⊢
    generalize fu2 (FX4_goSeason_7 (nI (60 * k + a)) (nI n) (fun x3_5 M_6 => some (((-9 : Int32), M_6)))) K = sM at ih' ⊢
    unfold FX3_firstWrongOfSeason_14 FX4_goSeason_7
    rw [if_neg c, if_neg c, ix2, ix2, nI_1, nI_1, nI_1, Nat.add_assoc (60 * k), Nat.add_assoc (60 * k), gIn (show a + 2 * j < 60 by omega) (by omega), gIn (show a + 2 * j + 1 < 60 by omega) (by omega), gIn (show 60 * k + (a + 2 * j) < 240 by omega) (by omega), gIn (show 60 * k + (a + 2 * j + 1) < 240 by omega) (by omega), cl (show a + 2 * j < 1000000 by omega), cl (show a + 2 * j + 1 < 1000000 by omega), cl (show 60 * k + (a + 2 * j) < 1000000 by omega), cl (show 60 * k + (a + 2 * j + 1) < 1000000 by omega), hTr.2.2.2.2.2.2.2 4 (by decide) (by decide) (by decide) (by decide), h4 (a + 2 * j) (by omega), h4 (a + 2 * j + 1) (by omega), f1, f2]
    simp only [Option.bind_some, nI_1 j]
    by_cases q : r = 0
    · rw [if_pos q, if_pos q]
      exact ⟨nI j, T1, B1, u1, c1, rfl, rfl, f3, fun e => absurd e (nI_n9 (by omega))⟩
    · rw [if_neg q, if_neg q]
      refine ih' u1 T1 B1 ?_
      rw [gc_1, ← f4 q]; exact f3
-- what is told of the trial
def pp (u : Vw) : Nat → Nat → Int32 → Int32
  | 0, _, a => a
  | m + 1, j, a => pp u m (j + 1) (a ||| (1 <<< (nI (u 6 j) &&& 31)))
theorem ppX {T : Bk} {u : Vw} (hT : LandV T u) (hR : Rng u) : fX0_peopled T = some (pp u (u 1 0) 0 0) := by
  have h1 := hR.2.1
  unfold fX0_peopled
  refine fx2 (fun o => o = some (pp u (u 1 0) 0 0)) (fun (x y : Int32) m => ∃ j, j ≤ u 1 0 ∧ y = nI j ∧ m = u 1 0 - j ∧ pp u (u 1 0 - j) j x = pp u (u 1 0) 0 0) ?_ 100 0 0 (u 1 0) ⟨0, by omega, rfl, by omega, rfl⟩ (by omega)
  rintro self x y m ⟨j, hj, rfl, hm, hpp⟩ ih
  unfold FX0_peopled_4
  rw [hT.2.1]
  by_cases c : u 1 0 ≤ j
  · rw [if_pos ((le' (by omega) (by omega)).mpr c)]
    rw [show u 1 0 - j = 0 by omega] at hpp
    rw [← hpp]; rfl
  · rw [if_neg (by rw [le' (by omega) (by omega)]; exact c), gIn (show j < 5 by omega) (by omega), cl (show j < 1000000 by omega), (hT.2.2.2 j (by omega)).2.2]
    refine ih _ _ (m - 1) (by omega) ⟨j + 1, by omega, nI_1 j, by omega, ?_⟩
    rw [← hpp, show u 1 0 - j = (u 1 0 - (j + 1)) + 1 by omega]; rfl
theorem ppM {B : Bk} {u : Vw} (hB : ModV B u) (hR : Rng u) : fu2 (FX4_tellSeason_69 B (fun x2_5 x3_6 => some x2_5)) 100 0 0 = some (pp u (u 1 0) 0 0) := by
  have h1 := hR.2.1
  refine fx2 (fun o => o = some (pp u (u 1 0) 0 0)) (fun (x y : Int32) m => ∃ j, j ≤ u 1 0 ∧ y = nI j ∧ m = u 1 0 - j ∧ pp u (u 1 0 - j) j x = pp u (u 1 0) 0 0) ?_ 100 0 0 (u 1 0) ⟨0, by omega, rfl, by omega, rfl⟩ (by omega)
  rintro self x y m ⟨j, hj, rfl, hm, hpp⟩ ih
  unfold FX4_tellSeason_69
  rw [hB.2.1]
  by_cases c : u 1 0 ≤ j
  · rw [if_pos ((le' (by omega) (by omega)).mpr c)]
    rw [show u 1 0 - j = 0 by omega] at hpp
    rw [← hpp]; rfl
  · rw [if_neg (by rw [le' (by omega) (by omega)]; exact c), gIn (show j < 5 by omega) (by omega), cl (show j < 1000000 by omega), (hB.2.2.2 j (by omega)).2.2]
    refine ih _ _ (m - 1) (by omega) ⟨j + 1, by omega, nI_1 j, by omega, ?_⟩
    rw [← hpp, show u 1 0 - j = (u 1 0 - (j + 1)) + 1 by omega]; rfl
theorem tellC {v u : Vw} {M0 L T B : Bk} {c : Nat} (hL : LandV L v) (h : Tr v M0 u T B c) {a : Nat} (ha : a ≤ 4 ∨ (10 ≤ a ∧ a ≤ 14)) : ∃ z, fX4_tellSeason B (nI a) = some z ∧ (a ≠ 1 → a ≠ 3 → fX3_ofTrial L T (nI a) = some z) ∧ (a = 3 → z = nI c) := by
  obtain ⟨hR, hT, hB, hw, u0, u1, h22, ho⟩ := id h
  have h1 := hR.2.1
  rcases ha with ha | ha
  · rcases (show a = 0 ∨ a = 1 ∨ a = 2 ∨ a = 3 ∨ a = 4 by omega) with rfl | rfl | rfl | rfl | rfl
    · refine ⟨nI (opn u (hN (u 0 0))), ?_, fun _ _ => ?_, fun e => by omega⟩
      · show (fX4_holesNow B).bind _ = _
        rw [openM hB hR]; rfl
      · show (fX0_openHoles T).bind _ = _
        rw [openX hT hR]; rfl
    · exact ⟨B 22 0, rfl, fun e => absurd rfl e, fun e => by omega⟩
    · refine ⟨B 9 0, rfl, fun _ _ => ?_, fun e => by omega⟩
      show some (T 2 0) = _
      rw [hw]
    · exact ⟨B 22 0, rfl, fun _ e => absurd rfl e, fun _ => h22⟩
    · refine ⟨pp u (u 1 0) 0 0, ppM hB hR, fun _ _ => ?_, fun e => by omega⟩
      show (fX0_peopled T).bind _ = _
      rw [ppX hT hR]; rfl
  · have eg : fX3_isGoer L (nI a - 10) = fX3_isGoer T (nI a - 10) := by unfold fX3_isGoer; rw [hL.2.1, hT.2.1, u1]
    have k1 : ¬ nI a < 10 := by intro q; have := (lt' (b := 10) (by omega) (by omega)).mp q; omega
    have k2 : ∀ b, b < 10 → ¬ nI a = nI b := fun b hb => by rw [eq' (by omega) (by omega)]; omega
    have key : ∃ z, fX4_tellSeason B (nI a) = some z ∧ fX3_ofTrial L T (nI a) = some z := by
      unfold fX4_tellSeason fX3_ofTrial
      rw [if_neg k1, if_neg (show ¬ nI a = 0 from k2 0 (by omega)), if_neg (show ¬ nI a = 1 from k2 1 (by omega)), if_neg (show ¬ nI a = 2 from k2 2 (by omega)), if_neg (show ¬ nI a = 3 from k2 3 (by omega)), if_neg (show ¬ nI a = 4 from k2 4 (by omega)), eg]
      rcases goerC hT hB hR (nI a - 10) with ⟨e1, e2⟩ | ⟨q, hq, e0, e1, e2⟩
      · rw [e1, e2]; exact ⟨-9, rfl, rfl⟩
      · rw [e1, e2, e0]
        simp only [Option.bind_some, one_ne, if_false, gIn (show q < 5 by omega) (show 5 < 1000000 by omega), cl (show q < 1000000 by omega), (hT.2.2.2 q hq).2.2, (hB.2.2.2 q hq).2.2]
        exact ⟨_, rfl, rfl⟩
    obtain ⟨z, z1, z2⟩ := key
    exact ⟨z, z1, fun _ _ => z2, fun e => by omega⟩
theorem askC (p : Int32) : (fX3_isAskedOfSeason p = some 0 ∧ (∀ (ρ : Type) (A B : Option ρ), ((fX4_within p 0 4).bind fun v37 => (if v37 = 0 then (fX4_within p 10 14).bind fun v40 => (if v40 = 0 then A else B) else B)) = A)) ∨ ∃ a, p = nI a ∧ (a ≤ 4 ∨ (10 ≤ a ∧ a ≤ 14)) ∧ fX3_isAskedOfSeason p = some 1 ∧ (∀ (ρ : Type) (A B : Option ρ), ((fX4_within p 0 4).bind fun v37 => (if v37 = 0 then (fX4_within p 10 14).bind fun v40 => (if v40 = 0 then A else B) else B)) = B) := by
  unfold fX3_isAskedOfSeason fX4_within
  rcases ix p 15 (by omega) with q | q | ⟨a, ha, rfl⟩
  · left
    have q2 : p < 10 := Int32.lt_trans q (by decide)
    refine ⟨by simp [q, q2], fun ρ A B => by simp [q, q2]⟩
  · left
    have q' : (15 : Int32) ≤ p := q
    have q0 : ¬ p < 0 := by intro c; exact absurd (Int32.lt_of_lt_of_le c (by decide : (0 : Int32) ≤ 15)) (Int32.not_lt.mpr q)
    have q10 : ¬ p < 10 := by intro c; exact absurd (Int32.lt_of_lt_of_le c (by decide : (10 : Int32) ≤ 15)) (Int32.not_lt.mpr q)
    have q4 : ¬ p ≤ 4 := by intro c; exact absurd (Int32.lt_of_le_of_lt c (by decide : (4 : Int32) < 15)) (Int32.not_lt.mpr q)
    have q4' : (4 : Int32) < p := Int32.not_le.mp q4
    have q14 : (14 : Int32) < p := Int32.lt_of_lt_of_le (by decide : (14 : Int32) < 15) q
    refine ⟨by simp [q0, q4, q10, q'], fun ρ A B => by simp [q0, q4', q10, q14]⟩
  · have q0 : ¬ nI a < 0 := nlt0 (by omega)
    have e4 : (nI a ≤ 4) ↔ a ≤ 4 := le' (b := 4) (by omega) (by omega)
    have f4 : ((4 : Int32) < nI a) ↔ 4 < a := lt' (a := 4) (by omega) (by omega)
    have e10 : (nI a < 10) ↔ a < 10 := lt' (b := 10) (by omega) (by omega)
    have e15 : ((15 : Int32) ≤ nI a) ↔ 15 ≤ a := le' (a := 15) (by omega) (by omega)
    have e14 : ((14 : Int32) < nI a) ↔ 14 < a := lt' (a := 14) (by omega) (by omega)
    by_cases c4 : a ≤ 4
    · right
      refine ⟨a, rfl, Or.inl c4, by simp [q0, e4, c4], fun ρ A B => by simp [q0, f4, Nat.not_lt.mpr c4]⟩
    · by_cases c10 : a < 10
      · left
        refine ⟨by simp [q0, e4, c4, e10, c10], fun ρ A B => by simp [q0, f4, Nat.not_le.mp c4, e10, c10]⟩
      · right
        refine ⟨a, rfl, Or.inr ⟨by omega, by omega⟩, by simp [q0, e4, c4, e10, c10, e15, Nat.not_le.mpr ha], fun ρ A B => by simp [q0, f4, Nat.not_le.mp c4, e10, c10, e14, show ¬ 14 < a by omega]⟩
theorem sim_season {X : Bk} {Rw : Nat → Bk} {L N M : Bk} (T : Bk) (h : Rel X Rw L N M) (p0 : Int32) (p1 : Int32) (p2 : Int32) (p3 : Int32) (p4 : Int32) : ∃ (k : Nat) (ox : (Int32 × Bk × Bk)) (om : (Int32 × Bk)), k < 4 ∧ fX3_season k X (Rw k) L T p0 p1 p2 p3 p4 = some ox ∧ fX4_season M p0 p1 p2 p3 p4 = some om ∧ ox.1 = om.1 ∧ Rel ox.2.1 Rw L N om.2 := by
  have h' := relF h 0
  obtain ⟨v, r, hR, hL, hM, hw, hS, hd, hdr, hrow⟩ := id h'
  have h0 := hR.1
  have h1 := hR.2.1
  unfold fX3_season fX4_season wK
  simp only [Option.bind_some]
  rcases sheetC p0 with ⟨e1, e2⟩ | ⟨k, hk, rfl, e1, e2⟩
  · rw [e1, e2]; exact ⟨0, _, _, by decide, rfl, rfl, rfl, h'⟩
  · rcases laneC p1 with ⟨e3, e4⟩ | ⟨t, ht, rfl, e3, e4⟩
    · rw [e1, e2, e3, e4]; exact ⟨k, _, _, hk, rfl, rfl, rfl, h'⟩
    · rw [e1, e2, e3, e4]
      refine ⟨k, ?_⟩
      simp only [Option.bind_some, one_ne, if_false]
      have w20 : fX4_within p3 0 20 = if p3 < 0 then some 0 else if 20 < p3 then some 0 else some 1 := rfl
      rw [w20]
      by_cases q0 : p3 < 0
      · simp only [q0, if_true, Option.bind_some]; exact ⟨_, _, hk, rfl, rfl, rfl, h'⟩
      · by_cases q20 : 20 < p3
        · simp only [q0, q20, if_true, if_false, Option.bind_some]; exact ⟨_, _, hk, rfl, rfl, rfl, h'⟩
        · simp only [q0, q20, if_false, Option.bind_some, one_ne]
          rcases askC p4 with ⟨a1, a2⟩ | ⟨a4, rfl, ha4, a1, a2⟩
          · rw [a1, a2]; exact ⟨_, _, hk, rfl, rfl, rfl, h'⟩
          · rw [a1, a2]
            obtain ⟨n, hn31, rfl⟩ := nI_of q0
            have hn : n ≤ 20 := by
              by_cases c : n ≤ 20
              · exact c
              · exact absurd ((nI_ltI (a := 20) (by omega) hn31).mpr (by omega)) q20
            have e2n : (2 : Int32) * nI n = nI (2 * n) := by rw [show (2 : Int32) = nI 2 from rfl, pk_mul]
            have c0 : (0 : Int32) ≤ nI (2 * n) := Int32.not_lt.mp (nlt0 (by omega))
            obtain ⟨e, g1, g2, g3⟩ := againC (hrow k hk) hk ht p2 (nI (2 * n))
            simp only [Option.bind_some, one_ne, if_false, e2n, gIn hk (show 4 < 1000000 by omega), cl (show k < 1000000 by omega), gEn, g1]
            have g3' := fun K => g3 (Int32 × Bk × Bk) K
            simp only [c0, if_true, ite_self, Option.bind_some] at g3'
            rw [g3']
            by_cases ce : e = 0
            · obtain ⟨a, len, rfl, elen, hlen⟩ := g2 ce
              have elen' : 2 * n = len := (eq' (by omega) (by omega)).mp elen
              simp only [ce, if_true, hasX hL hR, noM hM hR, Option.bind_some]
              by_cases cn : v 0 0 = 0
              · simp only [cn, if_true]; exact ⟨_, _, hk, rfl, rfl, rfl, h'⟩
              · simp only [cn, if_false, one_ne]
                rw [refX (R := Rw k) hL (a := a) (n := n) (by omega), refM hM hk (hrow k hk) (a := a) (n := n) (by omega)]
                simp only [Option.bind_some]
                by_cases cr : rfL (v 1 0) (Rw k) a n 0 = 0
                · simp only [cr, if_true]
                  obtain ⟨T1, b1, b2, b3⟩ := becomeX T hL hR
                  obtain ⟨M2, k1, k2, k3, k4, k5⟩ := keepAllM hM.1 hM.2.1 h0 h1
                  have eb : (60 * nI k) + nI a = nI (60 * k + a) := by rw [show (60 : Int32) = nI 60 from rfl, pk_mul, nI_add]
                  have hM2 : ModV (sB M2 22 0 0) v := (hM.fr (k2 5 (by decide) (by decide) (by decide)) (k2 6 (by decide) (by decide) (by decide)) (k2 10 (by decide) (by decide) (by decide)) (k2 11 (by decide) (by decide) (by decide)) (k2 12 (by decide) (by decide) (by decide)) (k2 13 (by decide) (by decide) (by decide))).fr rfl rfl rfl rfl rfl rfl
                  have hTr : Tr v (sB M2 22 0 0) v T1 (sB M2 22 0 0) (gc (Rw k) a 0) := by
                    refine ⟨hR, b2, hM2, ?_, rfl, rfl, rfl, fun _ _ _ _ _ => rfl⟩
                    rw [b3, sB_ne _ _ _ (show (9 : Nat) ≠ 22 by decide), k2 9 (by decide) (by decide) (by decide)]; exact hw
                  have h4 : ∀ i, i < 60 → sB M2 22 0 0 4 (60 * k + i) = Rw k 0 i := fun i hi => by
                    rw [sB_ne _ _ _ (show (4 : Nat) ≠ 22 by decide), k2 4 (by decide) (by decide) (by decide)]; exact (hrow k hk).2.2 i hi
                  obtain ⟨rr, T', B', u', c', s1, s2, s3, s4⟩   := seasonL (R := Rw k) (a := a) (n := n) hk h4 (by omega) (fun j hj => rfL_0 _ _ _ _ _ cr j (by omega) (by omega)) n 100 100 0 v T1 (sB M2 22 0 0) (by omega) (by omega) (by omega) (by omega) hTr
                  have s1' : fX3_firstWrongOfSeason (Rw k) L T (nI a) (nI n) = some (rr, T') := by
                    unfold fX3_firstWrongOfSeason; rw [b1]; exact s1
                  have s2' : fX4_goSeason M2 (nI (60 * k + a)) (nI n) = some (rr, B') := s2
                  obtain ⟨z, z1, z2, z3⟩ := tellC hL s3 ha4
                  obtain ⟨hR', hT', hB', hw', u0, u1, h22, ho⟩ := id s3
                  obtain ⟨B2, m1, m2, m3, m4, m5⟩ := putBackM hB'.1 hB'.2.1 hR'.1 hR'.2.1
                  have hm : ∀ i, i ≠ 9 → i ≠ 10 → i ≠ 13 → i ≠ 19 → i ≠ 20 → i ≠ 21 → i ≠ 22 → B2 i = sB M 0 0 0 i := by
                    intro i n9 n10 n13 n19 n20 n21 n22
                    rw [m2 i n9 n10 n13, ho i n9 n10 n13 n22, sB_ne _ _ _ n22, k2 i n21 n19 n20]
                  have e9 : B2 9 0 = sB M 0 0 0 9 0 := by
                    rw [m3, ho 21 (by decide) (by decide) (by decide) (by decide), sB_ne _ _ _ (show (21 : Nat) ≠ 22 by decide), k3]
                  have e10 : ∀ x, x < hN (v 0 0) → B2 10 x = sB M 0 0 0 10 x := by
                    intro x hx
                    rw [m4 x (by rw [u0]; exact hx), ho 19 (by decide) (by decide) (by decide) (by decide), sB_ne _ _ _ (show (19 : Nat) ≠ 22 by decide), k4 x hx]
                  have e13 : ∀ x, x < v 1 0 → B2 13 x = sB M 0 0 0 13 x := by
                    intro x hx
                    rw [m5 x (by rw [u1]; exact hx), ho 20 (by decide) (by decide) (by decide) (by decide), sB_ne _ _ _ (show (20 : Nat) ≠ 22 by decide), k5 x hx]
                  have hrel : Rel (sB X 7 0 0) Rw L N B2 := by
                    have hm' : ∀ i, (i < 9 ∨ i = 11 ∨ i = 12 ∨ 23 ≤ i) → B2 i = sB M 0 0 0 i := fun i hi => hm i (by omega) (by omega) (by omega) (by omega) (by omega) (by omega) (by omega)
                    refine ⟨v, r, hR, hL, ⟨?_, ?_, fun x hx => ?_, fun q hq => ⟨?_, ?_, ?_⟩⟩, ?_, hS.fr (hm' 0 (by omega)) (hm' 1 (by omega)) (hm' 7 (by omega)) (hm' 8 (by omega)), hd.fr (hm' 25 (by omega)) (hm' 26 (by omega)) (hm' 27 (by omega)) (hm' 28 (by omega)), hdr, fun q hq => (hrow q hq).fr (hm' 2 (by omega)) (hm' 3 (by omega)) (hm' 4 (by omega))⟩
                    · rw [hm' 5 (by omega)]; exact hM.1
                    · rw [hm' 6 (by omega)]; exact hM.2.1
                    · rw [e10 x hx]; exact hM.2.2.1 x hx
                    · rw [hm' 11 (by omega)]; exact (hM.2.2.2 q hq).1
                    · rw [hm' 12 (by omega)]; exact (hM.2.2.2 q hq).2.1
                    · rw [e13 q hq]; exact (hM.2.2.2 q hq).2.2
                    · rw [e9]; exact hw
                  rw [s1', k1, eb]
                  simp only [Option.bind_some, s2', z1, m1]
                  by_cases c1 : a4 = 1
                  · have c1' : nI a4 = 1 := by rw [c1]; rfl
                    simp only [c1', if_true]
                    exact ⟨_, _, hk, rfl, rfl, rfl, hrel⟩
                  · have c1' : ¬ nI a4 = 1 := by intro q; exact c1 ((eq' (b := 1) (by omega) (by omega)).mp q)
                    simp only [c1', if_false]
                    by_cases c9 : rr = -9
                    · simp only [c9, if_true]
                      by_cases c3 : a4 = 3
                      · have c3' : nI a4 = 3 := by rw [c3]; rfl
                        simp only [c3', if_true, goingsX (R := Rw k) (a := a) (n := n) (by omega), Option.bind_some]
                        refine ⟨_, _, hk, rfl, rfl, ?_, hrel⟩
                        show nI (gc (Rw k) a n) = z
                        rw [z3 c3, s4 c9]
                      · have c3' : ¬ nI a4 = 3 := by intro q; exact c3 ((eq' (b := 3) (by omega) (by omega)).mp q)
                        simp only [c3', if_false, z2 c1 c3, Option.bind_some]
                        exact ⟨_, _, hk, rfl, rfl, rfl, hrel⟩
                    · simp only [c9, if_false]
                      exact ⟨_, _, hk, rfl, rfl, rfl, hrel⟩
                · simp only [cr, if_false]
                  exact ⟨_, _, hk, rfl, rfl, rfl, h'⟩
            · simp only [ce, if_false, fX3_failed, fX4_fails, Option.bind_some]
              exact ⟨_, _, hk, rfl, rfl, rfl, relF h' e⟩
