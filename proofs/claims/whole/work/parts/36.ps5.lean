/-! years -/
def bt (w : Int32) (h : Nat) : Bool := decide (((w >>> (nI h &&& 31)) &&& 1) = 1)
theorem isInX (w : Int32) (h : Nat) : fX3_isIn w (nI h) = some (b2i (bt w h)) := by
  unfold fX3_isIn bt
  by_cases c : ((w >>> (nI h &&& 31)) &&& 1) = 1
  · rw [if_pos c]; simp [c, b2i]
  · rw [if_neg c]; simp [c, b2i]
theorem isOfM (w : Int32) (h : Nat) : fX4_isOf w (nI h) = some (b2i (bt w h)) := isInX w h
def yw (b : Bool) (x : Nat) : Nat := if b then min (x + 1) 9 else x - 1
theorem yw_X1 : ∀ x, x < 10 → (if 9 < ((nI x) + 1) then (9 : Int32) else ((nI x) + 1)) = nI (yw true x) := by decide +kernel
theorem yw_X0 : ∀ x, x < 10 → (if ((nI x) - 1) < 0 then (0 : Int32) else ((nI x) - 1)) = nI (yw false x) := by decide +kernel
theorem yw_M1 : ∀ x, x < 10 → ((if ((nI x) + 1) ≤ 9 then (if 0 ≤ ((nI x) + 1) then some ((nI x) + 1) else some 0) else some 9) : Option Int32) = some (nI (yw true x)) := by decide +kernel
theorem yw_M0 : ∀ x, x < 10 → ((if ((nI x) - 1) ≤ 9 then (if 0 ≤ ((nI x) - 1) then some ((nI x) - 1) else some 0) else some 9) : Option Int32) = some (nI (yw false x)) := by decide +kernel
theorem yw_lt : ∀ x, x < 10 → ∀ b, yw b x < 10 := by decide
/-- the first j hedges are a year older -/
def mx (v : Vw) (w : Int32) (j : Nat) : Vw := fun a b => if a = 3 ∧ b < j then yw (bt w b) (v 3 b) else v a b
theorem mx_0 (v : Vw) (w : Int32) : mx v w 0 = v := by funext a b; unfold mx; rw [if_neg (by omega)]
theorem mx_ne (v : Vw) (w : Int32) (j : Nat) {a : Nat} (b : Nat) (h : a ≠ 3) : mx v w j a b = v a b := by unfold mx; rw [if_neg (by omega)]
theorem mx_ge (v : Vw) (w : Int32) {j b : Nat} (h : j ≤ b) : mx v w j 3 b = v 3 b := by unfold mx; rw [if_neg (by omega)]
theorem mx_1 (v : Vw) (w : Int32) (j : Nat) : mx v w (j + 1) = uV (mx v w j) 3 j (yw (bt w j) (v 3 j)) := by
  funext a b; unfold mx uV
  by_cases c : a = 3 ∧ b = j
  · obtain ⟨rfl, rfl⟩ := c; simp
  · rw [if_neg c]
    show (if a = 3 ∧ b < j + 1 then yw (bt w b) (v 3 b) else v a b) = (if a = 3 ∧ b < j then yw (bt w b) (v 3 b) else v a b)
    by_cases c2 : a = 3 ∧ b < j
    · rw [if_pos c2, if_pos (by omega)]
    · rw [if_neg c2, if_neg (by omega)]
def yr (v : Vw) (w : Int32) : Vw := mx v w (hN (v 0 0))
theorem mx_rng {v : Vw} (hR : Rng v) (w : Int32) (j : Nat) : Rng (mx v w j) := by
  induction j with
  | zero => rw [mx_0]; exact hR
  | succ j ih =>
    rw [mx_1]
    by_cases c : j < hN (v 0 0)
    · exact ih.setW j (yw_lt _ (hR.2.2.1 j c) _)
    · refine ⟨?_, ?_, fun x hx => ?_, fun k hk => ?_⟩
      · rw [uV_ne _ _ _ _ (by decide)]; exact ih.1
      · rw [uV_ne _ _ _ _ (by decide)]; exact ih.2.1
      · rw [uV_ne _ _ _ _ (by decide)] at hx
        have hx2 := hx
        rw [mx_ne _ _ _ _ (by decide)] at hx2
        rw [uV_row, if_neg (by omega)]; exact ih.2.2.1 x hx
      · rw [uV_ne _ _ _ _ (by decide)] at hk
        rw [uV_ne _ _ _ _ (by decide), uV_ne _ _ _ _ (by decide), uV_ne _ _ _ _ (by decide), uV_ne _ _ _ _ (by decide)]
        exact ih.2.2.2 k hk
theorem yr_rng {v : Vw} (hR : Rng v) (w : Int32) : Rng (yr v w) := mx_rng hR w _
theorem yearX {ρ : Type} {L : Bk} {v : Vw} (hL : LandV L v) (hR : Rng v) (kx : Int32 → Bk → Option ρ) : ∃ L', fu2 (FX0_age_9 kx) 100 0 L = kx (nI (hN (v 0 0))) L' ∧ LandV L' (yr v (L 2 0)) ∧ ∀ i, i ≠ 3 → L' i = L i := by
  have h3 := hN_le _ hR.1
  refine fx2 (fun o => ∃ L' : Bk, o = kx (nI (hN (v 0 0))) L' ∧ LandV L' (yr v (L 2 0)) ∧ ∀ i, i ≠ 3 → L' i = L i) (fun (x : Int32) (B : Bk) m => ∃ j, j ≤ hN (v 0 0) ∧ x = nI j ∧ m = hN (v 0 0) - j ∧ LandV B (mx v (L 2 0) j) ∧ ∀ i, i ≠ 3 → B i = L i) ?_ 100 0 L (hN (v 0 0)) ⟨0, by omega, rfl, by omega, by rw [mx_0]; exact hL, fun _ _ => rfl⟩ (by omega)
  rintro self x B m ⟨j, hj, rfl, hm, hB, hBo⟩ ih
  have hRj := mx_rng hR (L 2 0) j
  unfold FX0_age_9
  rw [hedgesX hB hRj, mx_ne _ _ _ _ (by decide)]
  simp only [Option.bind_some]
  by_cases c : hN (v 0 0) ≤ j
  · rw [if_pos ((le' (by omega) (by omega)).mpr c)]
    have ej : j = hN (v 0 0) := by omega
    subst ej
    exact ⟨B, rfl, hB, hBo⟩
  · rw [if_neg (by rw [le' (by omega) (by omega)]; exact c)]
    have hj2 : j < hN (v 0 0) := by omega
    have hb : B 3 j = nI (v 3 j) := by
      have := hB.2.2.1 j (by rw [mx_ne _ _ _ _ (by decide)]; exact hj2)
      rw [mx_ge _ _ (Nat.le_refl j)] at this; exact this
    have hx := hR.2.2.1 j hj2
    have hW := LandV.setW hB j (yw (bt (L 2 0) j) (v 3 j))
    rw [← mx_1] at hW
    rw [isInX]
    simp only [Option.bind_some, gIn (show j < 10 by omega) (show 10 < 1000000 by omega), cl (show j < 1000000 by omega), hb, hBo 2 (by decide), yw_X1 _ hx, yw_X0 _ hx, b2i_0]
    have fin : ∀ z, z = yw (bt (L 2 0) j) (v 3 j) → ∃ L' : Bk, self (nI j + 1) (sB B 3 j (nI z)) = kx (nI (hN (v 0 0))) L' ∧ LandV L' (yr v (L 2 0)) ∧ ∀ i, i ≠ 3 → L' i = L i := by
      intro z hz
      refine ih _ _ (m - 1) (by omega) ⟨j + 1, by omega, nI_1 j, by omega, by rw [hz]; exact hW, fun i hi => by rw [sB_ne _ _ _ hi]; exact hBo i hi⟩
    cases hq : bt (L 2 0) j with
    | true => simp only [Bool.true_eq_false, if_false, Option.bind_some]; exact fin _ (by rw [hq])
    | false => simp only [if_true, Option.bind_some]; exact fin _ (by rw [hq])
theorem oneYearM {M : Bk} {v : Vw} (hM : ModV M v) (hR : Rng v) : ∃ M', fX4_oneYear M = some M' ∧ ModV M' (yr v (M 9 0)) ∧ M' 9 0 = 0 ∧ ∀ i, i ≠ 9 → i ≠ 10 → M' i = M i := by
  have h3 := hN_le _ hR.1
  unfold fX4_oneYear
  refine fx2 (fun o => ∃ M' : Bk, o = some M' ∧ ModV M' (yr v (M 9 0)) ∧ M' 9 0 = 0 ∧ ∀ i, i ≠ 9 → i ≠ 10 → M' i = M i) (fun (x : Int32) (B : Bk) m => ∃ j, j ≤ hN (v 0 0) ∧ x = nI j ∧ m = hN (v 0 0) - j ∧ ModV B (mx v (M 9 0) j) ∧ ∀ i, i ≠ 10 → B i = M i) ?_ 100 0 M (hN (v 0 0)) ⟨0, by omega, rfl, by omega, by rw [mx_0]; exact hM, fun _ _ => rfl⟩ (by omega)
  rintro self x B m ⟨j, hj, rfl, hm, hB, hBo⟩ ih
  have hRj := mx_rng hR (M 9 0) j
  unfold FX4_oneYear_2
  rw [hedgesM hB hRj, mx_ne _ _ _ _ (by decide)]
  simp only [Option.bind_some]
  by_cases c : hN (v 0 0) ≤ j
  · rw [if_pos ((le' (by omega) (by omega)).mpr c)]
    have ej : j = hN (v 0 0) := by omega
    subst ej
    exact ⟨_, rfl, hB.fr rfl rfl rfl rfl rfl rfl, rfl, fun i h9 h10 => by rw [sB_ne _ _ _ h9]; exact hBo i h10⟩
  · rw [if_neg (by rw [le' (by omega) (by omega)]; exact c)]
    have hj2 : j < hN (v 0 0) := by omega
    have hb : B 10 j = nI (v 3 j) := by
      have := hB.2.2.1 j (by rw [mx_ne _ _ _ _ (by decide)]; exact hj2)
      rw [mx_ge _ _ (Nat.le_refl j)] at this; exact this
    have hx := hR.2.2.1 j hj2
    have hW := ModV.setW hB j (yw (bt (M 9 0) j) (v 3 j))
    rw [← mx_1] at hW
    have fin : ∀ z, z = yw (bt (M 9 0) j) (v 3 j) → ∃ M' : Bk, self (nI j + 1) (sB B 10 j (nI z)) = some M' ∧ ModV M' (yr v (M 9 0)) ∧ M' 9 0 = 0 ∧ ∀ i, i ≠ 9 → i ≠ 10 → M' i = M i := by
      intro z hz
      refine ih _ _ (m - 1) (by omega) ⟨j + 1, by omega, nI_1 j, by omega, by rw [hz]; exact hW, fun i hi => by rw [sB_ne _ _ _ hi]; exact hBo i hi⟩
    rw [isOfM]
    simp only [Option.bind_some, gIn (show j < 10 by omega) (show 10 < 1000000 by omega), cl (show j < 1000000 by omega), hb, hBo 9 (by decide), b2i_0]
    cases hq : bt (M 9 0) j with
    | true => simp only [Bool.true_eq_false, if_false, Option.bind_some, yw_M1 _ hx]; exact fin _ (by rw [hq])
    | false => simp only [if_true, Option.bind_some, yw_M0 _ hx]; exact fin _ (by rw [hq])
/-- view and worn set after k years -/
def itY : Nat → Vw → Int32 → Vw × Int32
  | 0, v, w => (v, w)
  | k + 1, v, w => itY k (yr v w) 0
theorem itY_rng {v : Vw} (hR : Rng v) (k : Nat) (w : Int32) : Rng (itY k v w).1 ∧ (itY k v w).1 0 0 = v 0 0 ∧ (itY k v w).1 1 0 = v 1 0 ∧ ∀ x, (itY k v w).1 6 x = v 6 x := by
  induction k generalizing v w with
  | zero => exact ⟨hR, rfl, rfl, fun _ => rfl⟩
  | succ k ih =>
    obtain ⟨a, b, c, d⟩ := ih (yr_rng hR w) 0
    exact ⟨a, b.trans (mx_ne _ _ _ _ (by decide)), c.trans (mx_ne _ _ _ _ (by decide)), fun x => (d x).trans (mx_ne _ _ _ _ (by decide))⟩
theorem ageX {L : Bk} {v : Vw} (hL : LandV L v) (hR : Rng v) {p : Nat} (hp : p < 61) : ∃ L', fX0_age L (nI p) = some L' ∧ LandV L' (itY p v (L 2 0)).1 ∧ L' 2 0 = (itY p v (L 2 0)).2 := by
  unfold fX0_age
  refine fx2 (fun o => ∃ L' : Bk, o = some L' ∧ LandV L' (itY p v (L 2 0)).1 ∧ L' 2 0 = (itY p v (L 2 0)).2) (fun (x : Int32) (B : Bk) m => ∃ j u, j ≤ p ∧ x = nI j ∧ m = p - j ∧ LandV B u ∧ Rng u ∧ itY (p - j) u (B 2 0) = itY p v (L 2 0)) ?_ 100 0 L p ⟨0, v, by omega, rfl, by omega, hL, hR, rfl⟩ (by omega)
  rintro self x B m ⟨j, u, hj, rfl, hm, hB, hu, hit⟩ ih
  unfold FX0_age_2
  by_cases c : p ≤ j
  · rw [if_pos ((le' (by omega) (by omega)).mpr c)]
    have e : p - j = 0 := by omega
    rw [e] at hit
    exact ⟨B, rfl, by rw [← hit]; exact hB, by rw [← hit]; rfl⟩
  · rw [if_neg (by rw [le' (by omega) (by omega)]; exact c)]
    obtain ⟨L1, e1, hL1, hLo⟩ := yearX hB hu (fun x3_8 L_9 => (some (sB L_9 2 0 0)).bind fun L_23 => self (nI j + 1) L_23)
    rw [e1]
    simp only [Option.bind_some]
    refine ih _ _ (m - 1) (by omega) ⟨j + 1, yr u (B 2 0), by omega, nI_1 j, by omega, hL1.fr rfl rfl rfl rfl rfl rfl, yr_rng hu _, ?_⟩
    rw [← hit, show p - j = (p - (j + 1)) + 1 by omega]; rfl
theorem yearsM {ρ : Type} {M : Bk} {v : Vw} (hM : ModV M v) (hR : Rng v) {p : Nat} (hp : p < 61) (kx : Int32 → Bk → Option ρ) : ∃ M', fu2 (FX4_years_25 (nI p) kx) 100 0 M = kx (nI p) M' ∧ ModV M' (itY p v (M 9 0)).1 ∧ M' 9 0 = (itY p v (M 9 0)).2 ∧ ∀ i, i ≠ 9 → i ≠ 10 → M' i = M i := by
  refine fx2 (fun o => ∃ M' : Bk, o = kx (nI p) M' ∧ ModV M' (itY p v (M 9 0)).1 ∧ M' 9 0 = (itY p v (M 9 0)).2 ∧ ∀ i, i ≠ 9 → i ≠ 10 → M' i = M i) (fun (x : Int32) (B : Bk) m => ∃ j u, j ≤ p ∧ x = nI j ∧ m = p - j ∧ ModV B u ∧ Rng u ∧ itY (p - j) u (B 9 0) = itY p v (M 9 0) ∧ ∀ i, i ≠ 9 → i ≠ 10 → B i = M i) ?_ 100 0 M p ⟨0, v, by omega, rfl, by omega, hM, hR, rfl, fun _ _ _ => rfl⟩ (by omega)
  rintro self x B m ⟨j, u, hj, rfl, hm, hB, hu, hit, hBo⟩ ih
  unfold FX4_years_25
  by_cases c : p ≤ j
  · rw [if_pos ((le' (by omega) (by omega)).mpr c)]
    have e : p - j = 0 := by omega
    rw [e] at hit
    have ej : j = p := by omega
    subst ej
    exact ⟨B, rfl, by rw [← hit]; exact hB, by rw [← hit]; rfl, hBo⟩
  · rw [if_neg (by rw [le' (by omega) (by omega)]; exact c)]
    obtain ⟨M1, e1, hM1, h9, hMo⟩ := oneYearM hB hu
    rw [e1]
    simp only [Option.bind_some]
    refine ih _ _ (m - 1) (by omega) ⟨j + 1, yr u (B 9 0), by omega, nI_1 j, by omega, hM1, yr_rng hu _, ?_, fun i a b => (hMo i a b).trans (hBo i a b)⟩
    rw [← hit, show p - j = (p - (j + 1)) + 1 by omega, h9]; rfl
/-- open holes -/
def opn (v : Vw) : Nat → Nat
  | 0 => 0
  | h + 1 => opn v h + (if v 3 h = 0 then 0 else 1)
theorem opn_1 (v : Vw) (h : Nat) : opn v (h + 1) = opn v h + (if v 3 h = 0 then 0 else 1) := rfl
theorem opn_le (v : Vw) (h : Nat) : opn v h ≤ h := by
  induction h with
  | zero => exact Nat.le_refl 0
  | succ h ih => unfold opn; by_cases c : v 3 h = 0 <;> simp only [c, if_true, if_false] <;> omega
theorem openX {L : Bk} {v : Vw} (hL : LandV L v) (hR : Rng v) : fX0_openHoles L = some (nI (opn v (hN (v 0 0)))) := by
  have h3 := hN_le _ hR.1
  unfold fX0_openHoles
  refine fx2 (fun o => o = some (nI (opn v (hN (v 0 0))))) (fun (a x : Int32) m => ∃ j, j ≤ hN (v 0 0) ∧ x = nI j ∧ a = nI (opn v j) ∧ m = hN (v 0 0) - j) ?_ 100 0 0 (hN (v 0 0)) ⟨0, by omega, rfl, rfl, by omega⟩ (by omega)
  rintro self a x m ⟨j, hj, rfl, rfl, hm⟩ ih
  unfold FX0_openHoles_4
  rw [hedgesX hL hR]
  simp only [Option.bind_some]
  by_cases c : hN (v 0 0) ≤ j
  · rw [if_pos ((le' (by omega) (by omega)).mpr c)]
    rw [show j = hN (v 0 0) by omega]
  · rw [if_neg (by rw [le' (by omega) (by omega)]; exact c)]
    have hz : (nI (v 3 j) ≤ 0) ↔ v 3 j = 0 := (le' (a := v 3 j) (b := 0) (by have := hR.2.2.1 j (by omega); omega) (by omega)).trans (by omega)
    simp only [gIn (show j < 10 by omega) (show 10 < 1000000 by omega), cl (show j < 1000000 by omega), hL.2.2.1 j (by omega), hz]
    have ho := opn_le v j
    by_cases c0 : v 3 j = 0
    · simp only [c0, if_true, Option.bind_some]
      exact ih _ _ (m - 1) (by omega) ⟨j + 1, by omega, nI_1 j, by rw [opn_1, if_pos c0]; simp, by omega⟩
    · simp only [c0, if_false, Option.bind_some]
      exact ih _ _ (m - 1) (by omega) ⟨j + 1, by omega, nI_1 j, by rw [opn_1, if_neg c0]; exact nI_1 _, by omega⟩
theorem openM {M : Bk} {v : Vw} (hM : ModV M v) (hR : Rng v) : fX4_holesNow M = some (nI (opn v (hN (v 0 0)))) := by
  have h3 := hN_le _ hR.1
  unfold fX4_holesNow
  refine fx2 (fun o => o = some (nI (opn v (hN (v 0 0))))) (fun (a x : Int32) m => ∃ j, j ≤ hN (v 0 0) ∧ x = nI j ∧ a = nI (opn v j) ∧ m = hN (v 0 0) - j) ?_ 100 0 0 (hN (v 0 0)) ⟨0, by omega, rfl, rfl, by omega⟩ (by omega)
  rintro self a x m ⟨j, hj, rfl, rfl, hm⟩ ih
  unfold FX4_holesNow_4
  rw [hedgesM hM hR]
  simp only [Option.bind_some]
  by_cases c : hN (v 0 0) ≤ j
  · rw [if_pos ((le' (by omega) (by omega)).mpr c)]
    rw [show j = hN (v 0 0) by omega]
  · rw [if_neg (by rw [le' (by omega) (by omega)]; exact c)]
    have hz : (nI (v 3 j) ≤ 0) ↔ v 3 j = 0 := (le' (a := v 3 j) (b := 0) (by have := hR.2.2.1 j (by omega); omega) (by omega)).trans (by omega)
    simp only [gIn (show j < 10 by omega) (show 10 < 1000000 by omega), cl (show j < 1000000 by omega), hM.2.2.1 j (by omega), hz]
    by_cases c0 : v 3 j = 0
    · simp only [c0, if_true, Option.bind_some]
      exact ih _ _ (m - 1) (by omega) ⟨j + 1, by omega, nI_1 j, by rw [opn_1, if_pos c0]; simp, by omega⟩
    · simp only [c0, if_false, Option.bind_some]
      exact ih _ _ (m - 1) (by omega) ⟨j + 1, by omega, nI_1 j, by rw [opn_1, if_neg c0]; exact nI_1 _, by omega⟩
theorem hasX {L : Bk} {v : Vw} (hL : LandV L v) (hR : Rng v) : fX3_hasCounty L = some (if v 0 0 = 0 then 0 else 1) := by
  unfold fX3_hasCounty
  have h0 := hR.1
  have hz : (nI (v 0 0) ≤ 0) ↔ v 0 0 = 0 := (le' (a := v 0 0) (b := 0) (by omega) (by omega)).trans (by omega)
  rw [hL.1]
  simp only [hz]
  by_cases c : v 0 0 = 0 <;> simp [c]
theorem noM {M : Bk} {v : Vw} (hM : ModV M v) (hR : Rng v) : (M 5 0 = 0) ↔ v 0 0 = 0 := by
  have h0 := hR.1
  rw [hM.1]; exact eq' (b := 0) (by omega) (by omega)
theorem sim_years {X : Bk} {Rw : Nat → Bk} {L N M : Bk} (T : Bk) (h : Rel X Rw L N M) (p0 : Int32) : ∃ (k : Nat) (ox : (Int32 × Bk × Bk)) (om : (Int32 × Bk)), k < 4 ∧ fX3_years X L p0 = some ox ∧ fX4_years M p0 = some om ∧ ox.1 = om.1 ∧ Rel ox.2.1 Rw ox.2.2 N om.2 := by
  obtain ⟨v, r, hR, hL, hM, hw, hS, hd, hdr, hrow⟩ := id h
  unfold fX3_years fX4_years fX4_within
  by_cases q : p0 < 1
  · simp only [if_pos q]; exact ⟨0, _, _, by decide, rfl, rfl, rfl, h⟩
  · rcases ix p0 61 (by omega) with c | c | ⟨j, hj, rfl⟩
    · exact absurd (Int32.lt_trans c (by decide : (0 : Int32) < 1)) q
    · have q2 : ¬ p0 ≤ 60 := by intro c2; exact absurd (Int32.lt_of_le_of_lt c2 (by decide : (60 : Int32) < 61)) (Int32.not_lt.mpr c)
      have q3 : (60 : Int32) < p0 := Int32.not_le.mp q2
      simp only [if_neg q, if_neg q2, if_pos q3]; exact ⟨0, _, _, by decide, rfl, rfl, rfl, h⟩
    · have q2 : nI j ≤ 60 := (le' (a := j) (b := 60) (by omega) (by omega)).mpr (by omega)
      have q3 : ¬ (60 : Int32) < nI j := Int32.not_lt.mpr q2
      simp only [if_neg q, if_pos q2, if_neg q3, Option.bind_some, one_ne, if_false, hasX hL hR, noM hM hR]
      by_cases c0 : v 0 0 = 0
      · simp only [c0, if_true]; exact ⟨0, _, _, by decide, rfl, rfl, rfl, h⟩
      · simp only [c0, if_false, one_ne]
        obtain ⟨L1, e1, hL1, h2⟩ := ageX hL hR hj
        obtain ⟨M1, e2, hM1, h9, hMo⟩ := yearsM hM hR hj (fun x2_7 M_8 => (some (sB M_8 7 0 ((M_8 7 0) + nI j))).bind fun M_12 => (fX4_holesNow M_12).bind fun v14 => some (v14, M_12))
        obtain ⟨i1, i2, i3, -⟩ := itY_rng hR j (L 2 0)
        simp only [Option.bind_some] at e2
        rw [e1, e2]
        rw [hw] at hL1 h2 i1 i2 i3
        have hM2 := hM1.fr (M' := sB M1 7 0 ((M1 7 0) + nI j)) rfl rfl rfl rfl rfl rfl
        simp only [Option.bind_some, openX hL1 i1, openM hM2 i1]
        refine ⟨0, _, _, by decide, rfl, rfl, rfl, (itY j v (M 9 0)).1, r, i1, hL1, hM2, ?_, ⟨?_, ?_, ?_, ?_⟩, hd.fr ?_ ?_ ?_ ?_, hdr.fr i2 i3, fun k hk => (hrow k hk).fr ?_ ?_ ?_⟩
        · show L1 2 0 = M1 9 0
          rw [h2, h9]
        · show X 7 0 = M1 0 0
          rw [hMo 0 (by decide) (by decide)]; exact hS.1
        · show X 6 0 = M1 1 0
          rw [hMo 1 (by decide) (by decide)]; exact hS.2.1
        · show sB X 4 0 (X 4 0 + nI j) 4 0 = sB M1 7 0 (M1 7 0 + nI j) 7 0
          rw [sB_same, sB_same, hMo 7 (by decide) (by decide), hS.2.2.1]
        · show X 5 0 = M1 8 0
          rw [hMo 8 (by decide) (by decide)]; exact hS.2.2.2
        · exact hMo 25 (by decide) (by decide)
        · exact hMo 26 (by decide) (by decide)
        · exact hMo 27 (by decide) (by decide)
        · exact hMo 28 (by decide) (by decide)
        · exact hMo 2 (by decide) (by decide)
        · exact hMo 3 (by decide) (by decide)
        · exact hMo 4 (by decide) (by decide)
