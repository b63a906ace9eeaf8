/-! views of the states -/
abbrev Vw : Type := Nat → Nat → Nat
def uV (v : Vw) (k i x : Nat) : Vw := fun a b => if a = k ∧ b = i then x else v a b
def LandV (L : Bk) (v : Vw) : Prop := L 0 0 = nI (v 0 0) ∧ L 1 0 = nI (v 1 0) ∧ (∀ h, h < hN (v 0 0) → L 3 h = nI (v 3 h)) ∧ ∀ k, k < v 1 0 → L 4 k = nI (v 4 k) ∧ L 5 k = nI (v 5 k) ∧ L 6 k = nI (v 6 k)
def ModV (M : Bk) (v : Vw) : Prop := M 5 0 = nI (v 0 0) ∧ M 6 0 = nI (v 1 0) ∧ (∀ h, h < hN (v 0 0) → M 10 h = nI (v 3 h)) ∧ ∀ k, k < v 1 0 → M 11 k = nI (v 4 k) ∧ M 12 k = nI (v 5 k) ∧ M 13 k = nI (v 6 k)
def Rng (v : Vw) : Prop := v 0 0 < 6 ∧ v 1 0 < 6 ∧ (∀ h, h < hN (v 0 0) → v 3 h < 10) ∧ ∀ k, k < v 1 0 → v 4 k < 3 ∧ 1 ≤ v 5 k ∧ v 5 k < 10 ∧ v 6 k < v 0 0
def RdV (N M : Bk) (r : Vw) : Prop := r 3 0 < 9 ∧ N 3 0 = nI (r 3 0) ∧ M 25 0 = nI (r 3 0) ∧ ∀ x, x < r 3 0 → N 0 x = nI (r 0 x) ∧ M 26 x = nI (r 0 x) ∧ N 1 x = nI (r 1 x) ∧ M 27 x = nI (r 1 x) ∧ N 2 x = nI (r 2 x) ∧ M 28 x = nI (r 2 x)
def RdR (r v : Vw) : Prop := ∀ x, x < r 3 0 → r 0 x < v 1 0 ∧ r 1 x < hN (v 0 0) ∧ r 2 x < 2
def RowR (R M : Bk) (k : Nat) : Prop := (∃ z, z < 61 ∧ R 3 0 = nI z ∧ M 3 k = nI z) ∧ ((R 1 0 = 0 ∧ M 2 k = -9) ∨ (R 1 0 = 1 ∧ ∃ t, t < 3 ∧ R 2 0 = nI t ∧ M 2 k = nI t)) ∧ ∀ i, i < 60 → M 4 (60 * k + i) = R 0 i
def ScR (X M : Bk) : Prop := X 7 0 = M 0 0 ∧ X 6 0 = M 1 0 ∧ X 4 0 = M 7 0 ∧ X 5 0 = M 8 0
def RelV (v r : Vw) (X : Bk) (Rw : Nat → Bk) (L N M : Bk) : Prop := Rng v ∧ LandV L v ∧ ModV M v ∧ L 2 0 = M 9 0 ∧ ScR X M ∧ RdV N M r ∧ RdR r v ∧ ∀ k, k < 4 → RowR (Rw k) M k
def Rel (X : Bk) (Rw : Nat → Bk) (L N M : Bk) : Prop := ∃ v r, RelV v r X Rw L N M
-- what stays where the rows of the fields stay
theorem ModV.fr {M M' : Bk} {v : Vw} (h : ModV M v) (h5 : M' 5 = M 5) (h6 : M' 6 = M 6) (ha : M' 10 = M 10) (hb : M' 11 = M 11) (hc : M' 12 = M 12) (hd : M' 13 = M 13) : ModV M' v := by
  unfold ModV at *; rw [h5, h6, ha, hb, hc, hd]; exact h
theorem LandV.fr {L L' : Bk} {v : Vw} (h : LandV L v) (h0 : L' 0 = L 0) (h1 : L' 1 = L 1) (h3 : L' 3 = L 3) (h4 : L' 4 = L 4) (h5 : L' 5 = L 5) (h6 : L' 6 = L 6) : LandV L' v := by
  unfold LandV at *; rw [h0, h1, h3, h4, h5, h6]; exact h
theorem RdV.fr {N M M' : Bk} {r : Vw} (h : RdV N M r) (h1 : M' 25 = M 25) (h2 : M' 26 = M 26) (h3 : M' 27 = M 27) (h4 : M' 28 = M 28) : RdV N M' r := by
  unfold RdV at *; rw [h1, h2, h3, h4]; exact h
theorem RowR.fr {R M M' : Bk} {k : Nat} (h : RowR R M k) (h2 : M' 2 = M 2) (h3 : M' 3 = M 3) (h4 : M' 4 = M 4) : RowR R M' k := by
  unfold RowR at *; rw [h2, h3, h4]; exact h
theorem ScR.fr {X M M' : Bk} (h : ScR X M) (h0 : M' 0 = M 0) (h1 : M' 1 = M 1) (h7 : M' 7 = M 7) (h8 : M' 8 = M 8) : ScR X M' := by
  unfold ScR at *; rw [h0, h1, h7, h8]; exact h
-- who is there
theorem goerC {L M : Bk} {v : Vw} (hL : LandV L v) (hM : ModV M v) (hR : Rng v) (p : Int32) : (fX3_isGoer L p = some 0 ∧ fX4_isGoer M p = some 0) ∨ ∃ k, k < v 1 0 ∧ p = nI k ∧ fX3_isGoer L p = some 1 ∧ fX4_isGoer M p = some 1 := by
  have h1 := hR.2.1
  unfold fX3_isGoer fX4_isGoer
  rw [hL.2.1, hM.2.1]
  rcases ix p (v 1 0) (by omega) with h | h | ⟨j, hj, rfl⟩
  · left; rw [if_pos h]; exact ⟨rfl, rfl⟩
  · left
    by_cases c : p < 0
    · rw [if_pos c]; exact ⟨rfl, rfl⟩
    · rw [if_neg c, if_pos h]; exact ⟨rfl, rfl⟩
  · right
    refine ⟨j, hj, rfl, ?_⟩
    rw [if_neg (nlt0 (by omega)), if_neg (by rw [le' (by omega) (by omega)]; omega)]
    exact ⟨rfl, rfl⟩
theorem fieldC {L M : Bk} {v : Vw} (hL : LandV L v) (hM : ModV M v) (hR : Rng v) (p : Int32) : (fX3_isField L p = some 0 ∧ fX4_isField M p = some 0) ∨ ∃ k, k < v 0 0 ∧ p = nI k ∧ fX3_isField L p = some 1 ∧ fX4_isField M p = some 1 := by
  have h1 := hR.1
  unfold fX3_isField fX4_isField
  rw [hL.1, hM.1]
  rcases ix p (v 0 0) (by omega) with h | h | ⟨j, hj, rfl⟩
  · left; rw [if_pos h]; exact ⟨rfl, rfl⟩
  · left
    by_cases c : p < 0
    · rw [if_pos c]; exact ⟨rfl, rfl⟩
    · rw [if_neg c, if_pos h]; exact ⟨rfl, rfl⟩
  · right
    refine ⟨j, hj, rfl, ?_⟩
    rw [if_neg (nlt0 (by omega)), if_neg (by rw [le' (by omega) (by omega)]; omega)]
    exact ⟨rfl, rfl⟩
theorem twoC {L M : Bk} {v : Vw} (hL : LandV L v) (hM : ModV M v) (hR : Rng v) (p q : Int32) : (fX3_areTwoFields L p q = some 0 ∧ fX4_areTwo M p q = some 0) ∨ ∃ a b, a < v 0 0 ∧ b < v 0 0 ∧ a ≠ b ∧ p = nI a ∧ q = nI b ∧ fX3_areTwoFields L p q = some 1 ∧ fX4_areTwo M p q = some 1 := by
  have h1 := hR.1
  unfold fX3_areTwoFields fX4_areTwo
  rcases fieldC hL hM hR p with ⟨e1, e2⟩ | ⟨a, ha, rfl, e1, e2⟩
  · left; rw [e1, e2]; exact ⟨rfl, rfl⟩
  · rcases fieldC hL hM hR q with ⟨e3, e4⟩ | ⟨b, hb, rfl, e3, e4⟩
    · left; rw [e1, e2, e3, e4]; exact ⟨rfl, rfl⟩
    · rw [e1, e2, e3, e4]
      by_cases c : a = b
      · subst c; left; exact ⟨by simp, by simp⟩
      · right
        have c' : ¬ nI a = nI b := by rw [eq' (by omega) (by omega)]; exact c
        refine ⟨a, b, ha, hb, c, rfl, rfl, ?_, ?_⟩
        · simp [c']
        · simp [c']
theorem sheetC (p : Int32) : (fX3_isSheet p = some 0 ∧ fX4_isSheet p = some 0) ∨ ∃ k, k < 4 ∧ p = nI k ∧ fX3_isSheet p = some 1 ∧ fX4_isSheet p = some 1 := by
  rcases ix p 4 (by omega) with h | h | ⟨j, hj, rfl⟩
  · left
    unfold fX3_isSheet fX4_isSheet fX4_within
    rw [if_pos h]; exact ⟨rfl, by rw [if_pos h]; rfl⟩
  · left
    have h3 : (3 : Int32) < p := Int32.lt_of_lt_of_le (by decide) h
    have h4 : (4 : Int32) ≤ p := h
    unfold fX3_isSheet fX4_isSheet fX4_within
    by_cases c : p < 0
    · rw [if_pos c]; exact ⟨rfl, by rw [if_pos c]; rfl⟩
    · rw [if_neg c, if_pos h4]; exact ⟨rfl, by rw [if_neg c, if_pos h3]; rfl⟩
  · right
    refine ⟨j, hj, rfl, ?_⟩
    rcases (show j = 0 ∨ j = 1 ∨ j = 2 ∨ j = 3 by omega) with rfl | rfl | rfl | rfl <;> exact ⟨rfl, rfl⟩
theorem laneC (p : Int32) : (fX3_isLane p = some 0 ∧ fX4_isSort p = some 0) ∨ ∃ k, k < 3 ∧ p = nI k ∧ fX3_isLane p = some 1 ∧ fX4_isSort p = some 1 := by
  rcases ix p 3 (by omega) with h | h | ⟨j, hj, rfl⟩
  · left
    unfold fX3_isLane fX4_isSort fX4_within
    rw [if_pos h]; exact ⟨rfl, rfl⟩
  · left
    have h3 : (2 : Int32) < p := Int32.lt_of_lt_of_le (by decide) h
    unfold fX3_isLane fX4_isSort fX4_within
    by_cases c : p < 0
    · rw [if_pos c]; exact ⟨rfl, rfl⟩
    · rw [if_neg c, if_pos h3]; exact ⟨rfl, rfl⟩
  · right
    refine ⟨j, hj, rfl, ?_⟩
    rcases (show j = 0 ∨ j = 1 ∨ j = 2 by omega) with rfl | rfl | rfl <;> exact ⟨rfl, rfl⟩
-- numbers of hedges, how thick, who fits
theorem hedgesX {L : Bk} {v : Vw} (hL : LandV L v) (hR : Rng v) : fX0_hedges L = some (nI (hN (v 0 0))) := by
  unfold fX0_hedges; rw [hL.1, hN_I _ hR.1]
theorem hedgesM {M : Bk} {v : Vw} (hM : ModV M v) (hR : Rng v) : fX4_hedges M = some (nI (hN (v 0 0))) := by
  unfold fX4_hedges fX4_hedgesOf; rw [hM.1, hN_I _ hR.1]; rfl
theorem hedgeX0 {L : Bk} {n a b : Nat} (hL : L 0 0 = nI n) (hn : n < 6) (ha : a < n) (hb : b < n) (hab : a ≠ b) : fX0_hedgeOf L (nI a) (nI b) = some (nI (he n a b)) := by
  have h := he_I n hn a ha b hb hab
  unfold fX0_hedgeOf at h ⊢
  rw [hL]; exact h
theorem hedgeM0 {M : Bk} {n a b : Nat} (hM : M 5 0 = nI n) (hn : n < 6) (ha : a < n) (hb : b < n) (hab : a ≠ b) : fX4_hedge M (nI a) (nI b) = some (nI (he n a b)) := by
  have h := he_M n hn a ha b hb hab
  have e : ∀ x : Int32, FX4_hedge_29 (ρ := Int32) M x = FX4_hedge_29 (fun _ _ => nI n) x := by
    intro x; funext k s a b; unfold FX4_hedge_29; rw [hM]
  unfold fX4_hedge at h ⊢
  simp only [e]; exact h
theorem hedgeX {L : Bk} {v : Vw} (hL : LandV L v) (hR : Rng v) {a b : Nat} (ha : a < v 0 0) (hb : b < v 0 0) (hab : a ≠ b) : fX0_hedgeOf L (nI a) (nI b) = some (nI (he (v 0 0) a b)) := hedgeX0 hL.1 hR.1 ha hb hab
theorem hedgeM {M : Bk} {v : Vw} (hM : ModV M v) (hR : Rng v) {a b : Nat} (ha : a < v 0 0) (hb : b < v 0 0) (hab : a ≠ b) : fX4_hedge M (nI a) (nI b) = some (nI (he (v 0 0) a b)) := hedgeM0 hM.1 hR.1 ha hb hab
def thN (kd gi : Nat) : Nat := if kd = 1 then gi - 1 else if kd = 2 then gi / 2 else gi
def th (v : Vw) (k : Nat) : Nat := thN (v 4 k) (v 5 k)
theorem thN_X : ∀ kd, kd < 3 → ∀ gi, gi < 10 → 1 ≤ gi → fX3_thickness (nI kd) (nI gi) = some (nI (thN kd gi)) := by decide +kernel
theorem thN_M : ∀ kd, kd < 3 → ∀ gi, gi < 10 → 1 ≤ gi → (if nI kd = 0 then some (nI gi) else (if nI kd = 1 then some ((nI gi) - 1) else some ((nI gi) / 2))) = some (nI (thN kd gi)) := by decide +kernel
theorem thN_lt : ∀ kd, kd < 3 → ∀ gi, gi < 10 → thN kd gi < 10 := by decide
theorem thickX {L : Bk} {v : Vw} (hL : LandV L v) (hR : Rng v) {k : Nat} (hk : k < v 1 0) : fX0_thickOf L (nI k) = some (nI (th v k)) := by
  have h1 := hR.2.1
  have h2 := hL.2.2.2 k hk
  have h3 := hR.2.2.2 k hk
  unfold fX0_thickOf
  rw [gIn (by omega) (by omega), cl (by omega), h2.1, h2.2.1, thN_X _ h3.1 _ h3.2.2.1 h3.2.1]; rfl
theorem thickM {M : Bk} {v : Vw} (hM : ModV M v) (hR : Rng v) {k : Nat} (hk : k < v 1 0) : fX4_thickOf M (nI k) = some (nI (th v k)) := by
  have h1 := hR.2.1
  have h2 := hM.2.2.2 k hk
  have h3 := hR.2.2.2 k hk
  unfold fX4_thickOf
  rw [gIn (by omega) (by omega), cl (by omega), h2.1, h2.2.1, thN_M _ h3.1 _ h3.2.2.1 h3.2.1]; rfl
theorem th_lt {v : Vw} (hR : Rng v) {k : Nat} (hk : k < v 1 0) : th v k < 10 := thN_lt _ (hR.2.2.2 k hk).1 _ (hR.2.2.2 k hk).2.2.1
def fitB (w t : Nat) : Bool := decide (0 < w ∧ t ≤ w)
def b2i (b : Bool) : Int32 := if b then 1 else 0
theorem b2i_0 (b : Bool) : b2i b = 0 ↔ b = false := by cases b <;> decide
theorem lets_I : ∀ w, w < 10 → ∀ t, t < 10 → fX3_lets (nI w) (nI t) = some (b2i (fitB w t)) := by decide +kernel
theorem fits_I : ∀ w, w < 10 → ∀ t, t < 10 → (if nI w ≤ 0 then some 0 else (if nI w < nI t then some 0 else some 1)) = some (b2i (fitB w t)) := by decide +kernel
def adj (v : Vw) (t a b : Nat) : Bool := decide (a ≠ b) && fitB (v 3 (he (v 0 0) a b)) t
theorem letsX {L : Bk} {v : Vw} (hL : LandV L v) (hR : Rng v) {a b t : Nat} (ha : a < v 0 0) (hb : b < v 0 0) (ht : t < 10) : fX0_letsBetween L (nI a) (nI b) (nI t) = some (b2i (adj v t a b)) := by
  have h1 := hR.1
  unfold fX0_letsBetween adj
  by_cases c : a = b
  · subst c; simp [b2i]
  · have c' : ¬ nI a = nI b := by rw [eq' (by omega) (by omega)]; exact c
    have h2 := he_lt _ hR.1 a ha b hb c
    have h3 := hN_le _ hR.1
    rw [if_neg c', hedgeX hL hR ha hb c]
    simp only [Option.bind_some]
    rw [gIn (by omega) (by omega), cl (by omega), hL.2.2.1 _ h2, lets_I _ (hR.2.2.1 _ h2) _ ht]
    simp only [Option.bind_some, b2i_0, c, ne_eq, not_false_eq_true, decide_true, Bool.true_and]
    cases fitB (v 3 (he (v 0 0) a b)) t <;> rfl
theorem fitsM {M : Bk} {v : Vw} (hM : ModV M v) (hR : Rng v) {k h : Nat} (hk : k < v 1 0) (hh : h < hN (v 0 0)) : fX4_fitsHole M (nI k) (nI h) = some (b2i (fitB (v 3 h) (th v k))) := by
  have h3 := hN_le _ hR.1
  unfold fX4_fitsHole
  rw [gIn (by omega) (by omega), cl (by omega), hM.2.2.1 _ hh, thickM hM hR hk]
  exact fits_I _ (hR.2.2.1 _ hh) _ (th_lt hR hk)
