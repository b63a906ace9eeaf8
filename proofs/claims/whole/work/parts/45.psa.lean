/-! counties: goers, hedges, the whole text -/
theorem Rd.fr14 {n w g : Nat} {v : Vw} {T B : Bk} (h : Rd n w g v T B) (x : Int32) : Rd n w g v T (sB B 14 0 x) := by
  unfold Rd at *
  rw [sB_ne _ _ _ (show (15 : Nat) ≠ 14 by decide), sB_ne _ _ _ (show (16 : Nat) ≠ 14 by decide), sB_ne _ _ _ (show (17 : Nat) ≠ 14 by decide), sB_ne _ _ _ (show (18 : Nat) ≠ 14 by decide)]
  exact h
theorem fu1_s {A ρ : Type} (F : (A → Option ρ) → A → Option ρ) (N : Nat) (x : A) : fu1 F (N + 1) x = F (fu1 F N) x := rfl
theorem goersR {M R : Bk} {s len a n : Nat} (h4 : ∀ j, j < len → M 4 (s + j) = R 0 (a + j)) (hs : s + len ≤ 240) (ha : a + len ≤ 60) (hn2 : 2 ≤ n) (hn : n < 6) : ∀ m g, m = 5 - g → g ≤ 5 → ∀ N K i T B v, i = 2 + hN n + 4 * g → i ≤ len → len - i < N → m < K → Fr M B → Rd n (hN n) g v T B → B 14 0 = nI (s + i) → Out M s len (CX R a len N i T) (fu1 (FX4_readCounty_85 (nI (s + len)) (fun M_25 => some (0, M_25))) K B) := by
  have h3 := hN_le _ hn
  intro m
  induction m with
  | zero =>
    intro g hm hg N K i T B v hi hil hNf hK hF hR hp
    obtain ⟨r0, r1, r2, r3, r4, r5, r6⟩ := id hR
    obtain ⟨K, rfl⟩ : ∃ k, K = k + 1 := ⟨K - 1, by omega⟩
    obtain ⟨N, rfl⟩ : ∃ k, N = k + 1 := ⟨N - 1, by omega⟩
    have eg : g = 5 := by omega
    subst eg
    rw [fu1_s]
    generalize fu1 (FX4_readCounty_85 (nI (s + len)) (fun M_25 => some ((0 : Int32), M_25))) K = sM
    unfold FX4_readCounty_85
    rw [r3, if_neg (show ¬ nI 5 = 0 by decide), if_pos (show (5 : Int32) ≤ nI 5 by decide), hp]
    by_cases c : i = len
    · right
      rw [if_pos (by rw [c]), CX_end (by omega) (by omega) (by omega) (by omega), kxC, endX r0 r2 hn (by omega) (by omega), Option.bind_some, if_pos (show 1 ≤ 5 ∧ len = 2 + hN n + 4 * 5 by omega), if_neg one_ne]
      exact ⟨T, B, n, 5, v, rfl, rfl, hF, hn2, hn, by omega, by omega, hR⟩
    · left
      rw [if_neg (by rw [eq' (by omega) (by omega)]; omega), CX_st (by omega) ha, hi, rd20 r0 hn]
      exact ⟨2 + hN n + 4 * 5, T, B, by omega, rfl, rfl, by rw [hp, hi], hF⟩
  | succ m ih =>
    intro g hm hg N K i T B v hi hil hNf hK hF hR hp
    obtain ⟨r0, r1, r2, r3, r4, r5, r6⟩ := id hR
    obtain ⟨K, rfl⟩ : ∃ k, K = k + 1 := ⟨K - 1, by omega⟩
    obtain ⟨N, rfl⟩ : ∃ k, N = k + 1 := ⟨N - 1, by omega⟩
    have hg5 : g < 5 := by omega
    rw [fu1_s]
    have ih' := ih (g + 1) (by omega) (by omega)
    have ih2 := fun N i T B v h1 h2 h3 h4 h5 h6 => ih' N K i T B v h1 h2 h3 (by omega) h4 h5 h6
    generalize fu1 (FX4_readCounty_85 (nI (s + len)) (fun M_25 => some ((0 : Int32), M_25))) K = sM at ih2 ⊢
    have nxt : i < len → Out M s len (CX R a len (N + 1) i T) ((fX4_isSign B (nI (s + len)) 59).bind fun v27 => (if v27.1 = 0 then some ((0 : Int32), v27.2) else (fX4_readGoer v27.2 (nI (s + len))).bind fun v30 => (if v30.1 = 0 then some ((0 : Int32), v30.2) else sM v30.2))) := by
      intro hl
      have rg : fX0_readsGoer T (nI g) (nI 0) (R 0 (a + i)) = if R 0 (a + i) = 59 then some (1, T) else some (0, T) := by
        unfold fX0_readsGoer
        rw [if_pos (show nI 0 = 0 from rfl)]
      rw [sgM hF h4 hs hp hil, if_neg (show ¬ i = len by omega), CX_st hl ha, show nI i = nI (2 + hN n + 4 * g) by rw [hi], rdG r0 hn (show 4 * g < 20 by omega), show (4 * g) / 4 = g by omega, show (4 * g) % 4 = 0 by omega, rg, ← hi]
      by_cases c : R 0 (a + i) = 59
      · simp only [if_pos c, Option.bind_some, one_ne, if_false]
        have hF1 : Fr M (sB B 14 0 (nI (s + (i + 1)))) := hF.sB (by omega) _ _
        rcases goerR (N := N) hF1 h4 hs ha hn2 hn hg5 (hR.fr14 _) (show i + 1 = 2 + hN n + 4 * g + 1 by omega) (by omega) (sB_same _ _ _ _) (by omega) with ⟨j, T', B', g1, g2, g3, g5, g6⟩ | ⟨T', B', v', g1, g2, g3, g5, g6, g7⟩
        · left
          rw [g2, g3]
          exact ⟨j, T', B', g1, rfl, rfl, g5, g6⟩
        · rw [g2, g3]
          simp only [Option.bind_some, one_ne, if_false]
          exact ih2 (N - 3) (i + 1 + 3) T' B' v' (by omega) (by omega) (by omega) g6 g7 g5
      · left
        simp only [if_neg c, Option.bind_some, if_true]
        exact ⟨i, T, B, by omega, rfl, rfl, hp, hF⟩
    unfold FX4_readCounty_85
    by_cases c0 : g = 0
    · rw [r3, if_pos (show nI g = 0 by rw [c0]; rfl)]
      by_cases c : i = len
      · left
        rw [sgM hF h4 hs hp hil, if_pos c, CX_end (by omega) (by omega) (by omega) (by omega), kxC, endX r0 r2 hn (by omega) (by omega), Option.bind_some, if_neg (show ¬ (1 ≤ g ∧ len = 2 + hN n + 4 * g) by omega), if_pos rfl]
        exact ⟨len, T, B, by omega, rfl, rfl, by rw [hp, c], hF⟩
      · exact nxt (by omega)
    · rw [r3, if_neg (show ¬ nI g = 0 by intro q; exact c0 ((eq' (b := 0) (by omega) (by omega)).mp q)), if_neg (show ¬ (5 : Int32) ≤ nI g by intro q; have := (le' (a := 5) (by omega) (by omega)).mp q; omega), hp]
      by_cases c : i = len
      · right
        rw [if_pos ((le' (by omega) (by omega)).mpr (by omega)), if_pos (by rw [c]), CX_end (by omega) (by omega) (by omega) (by omega), kxC, endX r0 r2 hn (by omega) (by omega), Option.bind_some, if_pos (show 1 ≤ g ∧ len = 2 + hN n + 4 * g by omega), if_neg one_ne]
        exact ⟨T, B, n, g, v, rfl, rfl, hF, hn2, hn, by omega, by omega, hR⟩
      · rw [if_neg (by rw [le' (by omega) (by omega)]; omega)]
        exact nxt (by omega)
theorem hedgesR {M R : Bk} {s len a n : Nat} (h4 : ∀ j, j < len → M 4 (s + j) = R 0 (a + j)) (hs : s + len ≤ 240) (ha : a + len ≤ 60) (hn2 : 2 ≤ n) (hn : n < 6) : ∀ m w, m = hN n - w → w ≤ hN n → ∀ N K i T B v, i = 2 + w → i ≤ len → len - i < N → m < K → Fr M B → Rd n w 0 v T B → B 14 0 = nI (s + i) → Out M s len (CX R a len N i T) (fu2 (FX4_readCounty_41 (nI (s + len)) (fun x2_13 M_14 => (fu1 (FX4_readCounty_85 (nI (s + len)) (fun M_25 => some (0, M_25))) 100 M_14))) K (nI w) B) := by
  have h3 := hN_le _ hn
  have hO : ∀ B : Bk, B 15 0 = nI n → fX4_hedgesOf (B 15 0) = some (nI (hN n)) := fun B hb => by unfold fX4_hedgesOf; rw [hb, hN_I _ hn]
  intro m
  induction m with
  | zero =>
    intro w hm hw N K i T B v hi hil hNf hK hF hR hp
    obtain ⟨K, rfl⟩ : ∃ k, K = k + 1 := ⟨K - 1, by omega⟩
    have ew : w = hN n := by omega
    subst ew
    rw [fu2_s]
    generalize fu2 (FX4_readCounty_41 (nI (s + len)) (fun x2_13 M_14 => (fu1 (FX4_readCounty_85 (nI (s + len)) (fun M_25 => some ((0 : Int32), M_25))) 100 M_14))) K = sM
    unfold FX4_readCounty_41
    rw [hO B hR.2.1, Option.bind_some, if_pos ((le' (by omega) (by omega)).mpr (Nat.le_refl _))]
    exact goersR h4 hs ha hn2 hn 5 0 (by omega) (by omega) N 100 i T B v (by omega) hil hNf (by omega) hF hR hp
  | succ m ih =>
    intro w hm hw N K i T B v hi hil hNf hK hF hR hp
    obtain ⟨r0, r1, r2, r3, r4, r5, r6⟩ := id hR
    obtain ⟨K, rfl⟩ : ∃ k, K = k + 1 := ⟨K - 1, by omega⟩
    obtain ⟨N, rfl⟩ : ∃ k, N = k + 1 := ⟨N - 1, by omega⟩
    have hw2 : w < hN n := by omega
    rw [fu2_s]
    have ih2 := fun N i T B v h1 h2 h3 h4 h5 h6 => ih (w + 1) (by omega) (by omega) N K i T B v h1 h2 h3 (by omega) h4 h5 h6
    generalize fu2 (FX4_readCounty_41 (nI (s + len)) (fun x2_13 M_14 => (fu1 (FX4_readCounty_85 (nI (s + len)) (fun M_25 => some ((0 : Int32), M_25))) 100 M_14))) K = sM at ih2 ⊢
    unfold FX4_readCounty_41
    rw [hO B r1, Option.bind_some, if_neg (by rw [le' (by omega) (by omega)]; omega)]
    have hd := dgM hF h4 hs hp hil (show 0 ≤ 9 by omega) (show 9 ≤ 9 by omega)
    rcases hd with ⟨q1, q2⟩ | ⟨q0, q1, q2⟩ | ⟨q0, d, d1, d2, q1, q2⟩
    · left
      have q2' : fX4_digit B (nI (s + len)) 0 9 = some (-9, B) := q2
      rw [q2', CX_end (by omega) (by omega) (by omega) (by omega), kxC, end0 (show T 1 0 = 0 from r2), Option.bind_some, if_pos rfl]
      refine ⟨len, T, sB B 17 w (-9), by omega, rfl, ?_, ?_, hF.sB (by omega) _ _⟩
      · simp only [Option.bind_some, gIn (show w < 10 by omega) (show 10 < 1000000 by omega), cl (show w < 1000000 by omega), sB_same, if_true]
      · rw [sB_ne _ _ _ (by decide), hp, q1]
    · left
      have q2' : fX4_digit B (nI (s + len)) 0 9 = some (-9, B) := q2
      rw [q2', CX_st q0 ha, show nI i = nI (2 + w) by rw [hi], rdH r0 hn hw2, q1, ← hi]
      refine ⟨i, sB T 3 w (-9), sB B 17 w (-9), by omega, rfl, ?_, ?_, hF.sB (by omega) _ _⟩
      · simp only [Option.bind_some, gIn (show w < 10 by omega) (show 10 < 1000000 by omega), cl (show w < 1000000 by omega), sB_same, if_true]
      · rw [sB_ne _ _ _ (by decide), hp]
    · have q2' : fX4_digit B (nI (s + len)) 0 9 = some (nI d, sB B 14 0 (nI (s + (i + 1)))) := q2
      rw [q2', CX_st q0 ha, show nI i = nI (2 + w) by rw [hi], rdH r0 hn hw2, q1, ← hi]
      simp only [Option.bind_some, gIn (show w < 10 by omega) (show 10 < 1000000 by omega), cl (show w < 1000000 by omega), sB_same, m9 d (by omega), if_false, one_ne, nI_1 w]
      refine ih2 N (i + 1) _ _ (uV v 3 w d) (by omega) (by omega) (by omega) ((hF.sB (by omega) _ _).sB (by omega) _ _) ?_ ?_
      · refine ⟨?_, ?_, ?_, ?_, ?_, fun h hh => ?_, fun q hq => absurd hq (Nat.not_lt_zero _)⟩
        · rw [sB_ne _ _ _ (by decide)]; exact r0
        · rw [sB_ne _ _ _ (by decide), sB_ne _ _ _ (by decide)]; exact r1
        · rw [sB_ne _ _ _ (by decide)]; exact r2
        · rw [sB_ne _ _ _ (by decide), sB_ne _ _ _ (by decide)]; exact r3
        · rw [sB_ne _ _ _ (by decide)]; exact r4
        · rw [sB_row, sB_row, uV_row, sB_ne _ _ _ (show (17 : Nat) ≠ 14 by decide)]
          by_cases e : h = w
          · simp only [e, if_true]; exact ⟨trivial, trivial, by omega⟩
          · simp only [e, if_false]; exact r5 h (by omega)
      · rw [sB_ne _ _ _ (by decide), sB_same]
theorem rd1 (T : Bk) (c : Int32) : fX0_reads T (nI 1) c = (fX3_digit c (nI 2) (nI 5)).bind fun v18 => (if v18 = (-9) then some (0, sB T 0 0 0) else some (1, sB T 0 0 v18)) := by
  unfold fX0_reads
  rw [if_neg (by decide), if_pos (show nI 1 = 1 from rfl), show fX3_digit c 2 5 = fX3_digit c (nI 2) (nI 5) from rfl]
  cases fX3_digit c (nI 2) (nI 5) with
  | none => rfl
  | some z => by_cases q : z = -9 <;> simp [q]
theorem countyR {M R T B : Bk} {s len a : Nat} (h4 : ∀ j, j < len → M 4 (s + j) = R 0 (a + j)) (hs : s + len ≤ 240) (ha : a + len ≤ 60) (t1 : T 1 0 = 0) (t2 : T 2 0 = 0) (hF : Fr M B) (hp : B 14 0 = nI (s + 0)) : Out M s len (CX R a len 100 0 T) (fX4_readCounty B (nI (s + len))) := by
  have hF1 : Fr M (sB B 16 0 0) := hF.sB (by omega) _ _
  have hp1 : sB B 16 0 0 14 0 = nI (s + 0) := by rw [sB_ne _ _ _ (by decide)]; exact hp
  unfold fX4_readCounty
  simp only [Option.bind_some]
  rw [sgM hF1 h4 hs hp1 (Nat.zero_le _)]
  by_cases c0 : 0 = len
  · left
    rw [if_pos c0, CX_end (by omega) (by omega) (by omega) (by omega), kxC, end0 t1]
    exact ⟨len, T, sB B 16 0 0, by omega, rfl, rfl, by rw [hp1, c0], hF1⟩
  · rw [if_neg c0, show (100 : Nat) = 99 + 1 from rfl, CX_st (by omega) ha, rd0]
    by_cases c1 : R 0 (a + 0) = 104
    · simp only [if_pos c1, Option.bind_some, one_ne, if_false]
      have hF2 : Fr M (sB (sB B 16 0 0) 14 0 (nI (s + (0 + 1)))) := hF1.sB (by omega) _ _
      have hd := dgM hF2 h4 hs (sB_same _ _ _ _) (show 0 + 1 ≤ len by omega) (show 2 ≤ 9 by omega) (show 5 ≤ 9 by omega)
      rcases hd with ⟨q1, q2⟩ | ⟨q0, q1, q2⟩ | ⟨q0, d, d1, d2, q1, q2⟩
      · left
        have q2' : fX4_digit (sB (sB B 16 0 0) 14 0 (nI (s + (0 + 1)))) (nI (s + len)) 2 5 = some (-9, sB (sB B 16 0 0) 14 0 (nI (s + (0 + 1)))) := q2
        rw [q2', CX_end (by omega) (by omega) (by omega) (by omega), kxC, end0 t1]
        refine ⟨len, T, sB (sB (sB B 16 0 0) 14 0 (nI (s + (0 + 1)))) 15 0 (-9), by omega, rfl, ?_, ?_, hF2.sB (by omega) _ _⟩
        · simp only [Option.bind_some, sB_same, if_true]
        · rw [sB_ne _ _ _ (by decide), sB_same, q1]
      · left
        have q2' : fX4_digit (sB (sB B 16 0 0) 14 0 (nI (s + (0 + 1)))) (nI (s + len)) 2 5 = some (-9, sB (sB B 16 0 0) 14 0 (nI (s + (0 + 1)))) := q2
        rw [q2', show (99 : Nat) = 98 + 1 from rfl, CX_st q0 ha, show nI (0 + 1) = nI 1 from rfl, rd1, q1]
        refine ⟨1, sB T 0 0 0, sB (sB (sB B 16 0 0) 14 0 (nI (s + (0 + 1)))) 15 0 (-9), by omega, rfl, ?_, ?_, hF2.sB (by omega) _ _⟩
        · simp only [Option.bind_some, sB_same, if_true]
        · rw [sB_ne _ _ _ (by decide), sB_same]
      · have q2' : fX4_digit (sB (sB B 16 0 0) 14 0 (nI (s + (0 + 1)))) (nI (s + len)) 2 5 = some (nI d, sB (sB (sB B 16 0 0) 14 0 (nI (s + (0 + 1)))) 14 0 (nI (s + (0 + 1 + 1)))) := q2
        rw [q2', show (99 : Nat) = 98 + 1 from rfl, CX_st q0 ha, show nI (0 + 1) = nI 1 from rfl, rd1, q1]
        simp only [Option.bind_some, sB_same, m9 d (by omega), if_false, one_ne]
        refine hedgesR h4 hs ha d1 (by omega) (hN d) 0 (by omega) (Nat.zero_le _) 98 100 (0 + 1 + 1) _ _ (fun _ _ => 0) (by omega) (by omega) (by omega) (by have := hN_le d (by omega); omega) ((hF2.sB (by omega) _ _).sB (by omega) _ _) ?_ ?_
        · refine ⟨sB_same _ _ _ _, sB_same _ _ _ _, ?_, ?_, ?_, fun h hh => absurd hh (Nat.not_lt_zero _), fun q hq => absurd hq (Nat.not_lt_zero _)⟩
          · rw [sB_ne _ _ _ (by decide)]; exact t1
          · rw [sB_ne _ _ _ (by decide), sB_ne _ _ _ (by decide), sB_ne _ _ _ (by decide), sB_same]; rfl
          · rw [sB_ne _ _ _ (by decide)]; exact t2
        · rw [sB_ne _ _ _ (by decide), sB_same]
    · left
      simp only [if_neg c1, Option.bind_some, if_true]
      exact ⟨0, T, sB B 16 0 0, by omega, rfl, rfl, hp1, hF1⟩
theorem takeM {B : Bk} {n g : Nat} (b15 : B 15 0 = nI n) (b16 : B 16 0 = nI g) (hn : n < 6) (hg : g < 6) : ∃ M', fX4_takeCounty B = some M' ∧ (∀ i, (i < 5 ∨ 14 ≤ i) → i ≠ 25 → M' i = B i) ∧ M' 5 0 = nI n ∧ M' 6 0 = nI g ∧ (∀ h, h < hN n → M' 10 h = B 17 h) ∧ (∀ q, q < g → M' 11 q = B 18 (3 * q) ∧ M' 12 q = B 18 (3 * q + 1) ∧ M' 13 q = B 18 (3 * q + 2)) ∧ M' 9 0 = 0 ∧ M' 7 0 = 0 ∧ M' 8 0 = 0 ∧ M' 25 0 = 0 := by
  have h3 := hN_le _ hn
  unfold fX4_takeCounty
  simp only [Option.bind_some]
  refine fx2 (fun o => ∃ M' : Bk, o = some M' ∧ (∀ i, (i < 5 ∨ 14 ≤ i) → i ≠ 25 → M' i = B i) ∧ M' 5 0 = nI n ∧ M' 6 0 = nI g ∧ (∀ h, h < hN n → M' 10 h = B 17 h) ∧ (∀ q, q < g → M' 11 q = B 18 (3 * q) ∧ M' 12 q = B 18 (3 * q + 1) ∧ M' 13 q = B 18 (3 * q + 2)) ∧ M' 9 0 = 0 ∧ M' 7 0 = 0 ∧ M' 8 0 = 0 ∧ M' 25 0 = 0) (fun (x : Int32) (C : Bk) m => ∃ j, j ≤ hN n ∧ x = nI j ∧ m = hN n - j ∧ (∀ i, (i < 5 ∨ 14 ≤ i) → C i = B i) ∧ C 5 0 = nI n ∧ ∀ h, h < j → C 10 h = B 17 h) ?_ 100 0 (sB B 5 0 (B 15 0)) (hN n) ⟨0, by omega, rfl, by omega, fun i hi => sB_ne _ _ _ (by omega), by rw [sB_same]; exact b15, fun h hh => absurd hh (Nat.not_lt_zero _)⟩ (by omega)
  rintro self x C m ⟨j, hj, rfl, hm, hCo, hC5, hC⟩ ih
  unfold FX4_takeCounty_10
  rw [hedgesM0 hC5 hn]
  simp only [Option.bind_some]
  by_cases c : hN n ≤ j
  · rw [if_pos ((le' (by omega) (by omega)).mpr c)]
    refine fx2 (fun o => ∃ M' : Bk, o = some M' ∧ (∀ i, (i < 5 ∨ 14 ≤ i) → i ≠ 25 → M' i = B i) ∧ M' 5 0 = nI n ∧ M' 6 0 = nI g ∧ (∀ h, h < hN n → M' 10 h = B 17 h) ∧ (∀ q, q < g → M' 11 q = B 18 (3 * q) ∧ M' 12 q = B 18 (3 * q + 1) ∧ M' 13 q = B 18 (3 * q + 2)) ∧ M' 9 0 = 0 ∧ M' 7 0 = 0 ∧ M' 8 0 = 0 ∧ M' 25 0 = 0) (fun (x : Int32) (E : Bk) m => ∃ j, j ≤ g ∧ x = nI j ∧ m = g - j ∧ (∀ i, (i < 5 ∨ 14 ≤ i) → E i = B i) ∧ E 5 0 = nI n ∧ E 6 0 = nI g ∧ (∀ h, h < hN n → E 10 h = B 17 h) ∧ ∀ q, q < j → E 11 q = B 18 (3 * q) ∧ E 12 q = B 18 (3 * q + 1) ∧ E 13 q = B 18 (3 * q + 2)) ?_ 100 0 (sB C 6 0 (C 16 0)) g ⟨0, by omega, rfl, by omega, fun i hi => (sB_ne _ _ _ (by omega)).trans (hCo i hi), by rw [sB_ne _ _ _ (by decide)]; exact hC5, by rw [sB_same, hCo 16 (by omega)]; exact b16, fun h hh => by rw [sB_ne _ _ _ (by decide)]; exact hC h (by omega), fun q hq => absurd hq (Nat.not_lt_zero _)⟩ (by omega)
    rintro self x E m ⟨j, hj, rfl, hm, hEo, hE5, hE6, hE10, hE⟩ ih
    unfold FX4_takeCounty_46
    rw [hE6]
    by_cases c : g ≤ j
    · rw [if_pos ((le' (by omega) (by omega)).mpr c)]
      refine ⟨_, rfl, fun i hi h25 => ?_, hE5, hE6, hE10, fun q hq => hE q (by omega), rfl, rfl, rfl, rfl⟩
      rw [sB_ne _ _ _ h25, sB_ne _ _ _ (by omega), sB_ne _ _ _ (by omega), sB_ne _ _ _ (by omega)]; exact hEo i hi
    · have e3 : (3 : Int32) * nI j = nI (3 * j) := by rw [show (3 : Int32) = nI 3 from rfl, pk_mul]
      have e31 : nI (3 * j) + 1 = nI (3 * j + 1) := nI_1 _
      have e32 : nI (3 * j) + 2 = nI (3 * j + 2) := by rw [show (2 : Int32) = nI 2 from rfl, nI_add]
      rw [if_neg (by rw [le' (by omega) (by omega)]; exact c), e3, e31, e32]
      simp only [Option.bind_some, gIn (show j < 5 by omega) (show 5 < 1000000 by omega), gIn (show 3 * j < 15 by omega) (show 15 < 1000000 by omega), gIn (show 3 * j + 1 < 15 by omega) (show 15 < 1000000 by omega), gIn (show 3 * j + 2 < 15 by omega) (show 15 < 1000000 by omega), cl (show j < 1000000 by omega), cl (show 3 * j < 1000000 by omega), cl (show 3 * j + 1 < 1000000 by omega), cl (show 3 * j + 2 < 1000000 by omega), sB_ne _ _ _ (show (18 : Nat) ≠ 11 by decide), sB_ne _ _ _ (show (18 : Nat) ≠ 12 by decide), hEo 18 (by omega)]
      refine ih _ _ (m - 1) (by omega) ⟨j + 1, by omega, nI_1 j, by omega, fun i hi => ?_, hE5, hE6, hE10, fun q hq => ?_⟩
      · rw [sB_ne _ _ _ (by omega), sB_ne _ _ _ (by omega), sB_ne _ _ _ (by omega)]; exact hEo i hi
      · rw [sB_ne _ _ _ (show (11 : Nat) ≠ 13 by decide), sB_ne _ _ _ (show (11 : Nat) ≠ 12 by decide), sB_ne _ _ _ (show (12 : Nat) ≠ 13 by decide), sB_row, sB_row, sB_row, sB_ne _ _ _ (show (12 : Nat) ≠ 11 by decide), sB_ne _ _ _ (show (13 : Nat) ≠ 12 by decide), sB_ne _ _ _ (show (13 : Nat) ≠ 11 by decide)]
        by_cases e : q = j
        · subst e; simp only [if_true]; exact ⟨trivial, trivial, trivial⟩
        · simp only [e, if_false]; exact hE q (by omega)
  · rw [if_neg (by rw [le' (by omega) (by omega)]; exact c), gIn (show j < 10 by omega) (by omega), cl (show j < 1000000 by omega), hCo 17 (by omega)]
    refine ih _ _ (m - 1) (by omega) ⟨j + 1, by omega, nI_1 j, by omega, fun i hi => (sB_ne _ _ _ (by omega)).trans (hCo i hi), by rw [sB_ne _ _ _ (by decide)]; exact hC5, fun h hh => ?_⟩
    rw [sB_row]
    by_cases e : h = j
    · rw [if_pos e, e]
    · rw [if_neg e]; exact hC h (by omega)
theorem sim_county {X : Bk} {Rw : Nat → Bk} {L N M : Bk} (T : Bk) (h : Rel X Rw L N M) (p0 : Int32) (p1 : Int32) (p2 : Int32) (p3 : Int32) : ∃ (k : Nat) (ox : (Int32 × Bk × Bk × Bk × Bk)) (om : (Int32 × Bk)), k < 4 ∧ fX3_county k X (Rw k) L T N p0 p1 p2 p3 = some ox ∧ fX4_county M p0 p1 p2 p3 = some om ∧ ox.1 = om.1 ∧ Rel ox.2.1 Rw ox.2.2.1 ox.2.2.2.2 om.2 := by
  have h' := relF h 0
  obtain ⟨v, r, hR, hL, hM, hw, hS, hd, hdr, hrow⟩ := id h'
  unfold fX3_county fX4_county
  simp only [Option.bind_some]
  rcases sheetC p0 with ⟨e1, e2⟩ | ⟨k, hk, rfl, e1, e2⟩
  · rw [e1, e2]; exact ⟨0, _, _, by decide, rfl, rfl, rfl, h'⟩
  · rcases laneC p1 with ⟨e3, e4⟩ | ⟨t, ht, rfl, e3, e4⟩
    · rw [e1, e2, e3, e4]; exact ⟨k, _, _, hk, rfl, rfl, rfl, h'⟩
    · rw [e1, e2, e3, e4]
      refine ⟨k, ?_⟩
      obtain ⟨e, g1, g2, g3⟩ := againC (hrow k hk) hk ht p2 p3
      simp only [Option.bind_some, one_ne, if_false, gIn hk (show 4 < 1000000 by omega), cl (show k < 1000000 by omega), gEn, g1]
      rw [g3]
      by_cases ce : e = 0
      · obtain ⟨a, len, rfl, rfl, hlen⟩ := g2 ce
        have eb : (60 * nI k) + nI a = nI (60 * k + a) := by rw [show (60 : Int32) = nI 60 from rfl, pk_mul, nI_add]
        have h4 : ∀ j, j < len → sB M 0 0 0 4 (60 * k + a + j) = Rw k 0 (a + j) := fun j hj => by rw [Nat.add_assoc]; exact (hrow k hk).2.2 (a + j) (by omega)
        have hF0 : Fr (sB M 0 0 0) (sB (sB M 0 0 0) 14 0 (nI (60 * k + a))) := Fr.sB (fun _ _ => rfl) (by omega) _ _
        have hout := countyR (R := Rw k) (T := sB (sB (sB T 0 0 0) 1 0 0) 2 0 0) h4 (by omega) hlen rfl rfl hF0 (by rw [sB_same]; rfl)
        have ex : fX3_firstFaultOfText (Rw k) T (nI a) (nI len) = CX (Rw k) a len 100 0 (sB (sB (sB T 0 0 0) 1 0 0) 2 0 0) := rfl
        simp only [ce, if_true, eb, nI_add]
        rw [ex]
        rcases hout with ⟨i, T', M', hi, o1, o2, hp, hF⟩ | ⟨T', M', n, g, u, o1, o2, hF, hn2, hn, hg1, hg, hRd⟩
        · rw [o1, o2]
          simp only [Option.bind_some, if_true, m9 i (by omega), if_false, hp]
          refine ⟨_, _, hk, rfl, rfl, ?_, ?_⟩
          · show (-100 : Int32) - nI i = -100 - (nI (60 * k + a + i) - nI (60 * k + a))
            rw [pk_sub (by omega), show 60 * k + a + i - (60 * k + a) = i by omega]
          · refine ⟨v, r, hR, hL, hM.fr (hF 5 (by omega)) (hF 6 (by omega)) (hF 10 (by omega)) (hF 11 (by omega)) (hF 12 (by omega)) (hF 13 (by omega)), ?_, hS.fr (hF 0 (by omega)) (hF 1 (by omega)) (hF 7 (by omega)) (hF 8 (by omega)), hd.fr (hF 25 (by omega)) (hF 26 (by omega)) (hF 27 (by omega)) (hF 28 (by omega)), hdr, fun q hq => (hrow q hq).fr (hF 2 (by omega)) (hF 3 (by omega)) (hF 4 (by omega))⟩
            show L 2 0 = M' 9 0
            rw [hF 9 (by omega)]; exact hw
        · obtain ⟨r0, r1, r2, r3, r4, r5, r6⟩ := id hRd
          obtain ⟨M3, t1, t2, t3, t4, t5, t6, t7, t8, t9, t10⟩ := takeM r1 r3 hn hg
          have hT : LandV T' (fun x y => if x = 0 then n else if x = 1 then g else u x y) := by
            refine ⟨r0, r2, fun h hh => (r5 h hh).1, fun q hq => ?_⟩
            obtain ⟨a1, -⟩ := r6 q hq
            exact a1
          have hRv : Rng (fun x y => if x = 0 then n else if x = 1 then g else u x y) := by
            refine ⟨hn, hg, fun h hh => (r5 h hh).2.2, fun q hq => ?_⟩
            obtain ⟨-, -, a1⟩ := r6 q hq
            exact a1
          have hM3 : ModV M3 (fun x y => if x = 0 then n else if x = 1 then g else u x y) := by
            refine ⟨t3, t4, fun h hh => (t5 h hh).trans (r5 h hh).2.1, fun q hq => ?_⟩
            obtain ⟨-, a1, -⟩ := r6 q hq
            obtain ⟨b1, b2, b3⟩ := t6 q hq
            exact ⟨b1.trans a1.1, b2.trans a1.2.1, b3.trans a1.2.2⟩
          obtain ⟨L2, k1, k2, k3⟩ := becomeX L hT hRv
          rw [o1, o2]
          simp only [Option.bind_some, if_true, one_ne, if_false, k1, t1]
          refine ⟨_, _, hk, rfl, rfl, ?_, ?_⟩
          · show L2 1 0 = M3 6 0
            rw [k2.2.1, t4]; rfl
          · have f : ∀ i, (i < 5 ∨ 19 ≤ i) → i ≠ 25 → M3 i = sB M 0 0 0 i := fun i hi h25 => (t2 i (by omega) h25).trans (hF i (by omega))
            refine ⟨_, uV r 3 0 0, hRv, k2, hM3, ?_, ⟨?_, ?_, ?_, ?_⟩, ⟨?_, ?_, ?_, fun x hx => ?_⟩, fun x hx => ?_, fun q hq => (hrow q hq).fr (f 2 (by omega) (by omega)) (f 3 (by omega) (by omega)) (f 4 (by omega) (by omega))⟩
            · show L2 2 0 = M3 9 0
              rw [k3, r4, t7]
            · show sB X 7 0 0 7 0 = M3 0 0
              rw [f 0 (by omega) (by omega)]; rfl
            · show X 6 0 = M3 1 0
              rw [f 1 (by omega) (by omega)]; exact hS.2.1
            · show (0 : Int32) = M3 7 0
              rw [t8]
            · show (0 : Int32) = M3 8 0
              rw [t9]
            · rw [uV_row, if_pos rfl]; omega
            · rw [uV_row, if_pos rfl]; rfl
            · rw [uV_row, if_pos rfl]; exact t10
            · rw [uV_row, if_pos rfl] at hx; exact absurd hx (Nat.not_lt_zero _)
            · rw [uV_row, if_pos rfl] at hx; exact absurd hx (Nat.not_lt_zero _)
      · simp only [ce, if_false, fX3_failed, fX4_fails, Option.bind_some]
        exact ⟨_, _, hk, rfl, rfl, rfl, relF h' e⟩
