/-! pure base: loops by a measure, small numbers, views of the states, the relation between the class and the reference -/
theorem fx1 {A ρ : Type} {F : (A → Option ρ) → A → Option ρ} (Post : Option ρ → Prop) (I : A → Nat → Prop) (h : ∀ self a m, I a m → (∀ a' m', m' < m → I a' m' → Post (self a')) → Post (F self a)) : ∀ N a m, I a m → m < N → Post (fu1 F N a) := by
  intro N
  induction N with
  | zero => intro a m _ h; omega
  | succ N ih => intro a m hI hm; exact h (fu1 F N) a m hI (fun a' m' hl hI' => ih a' m' hI' (by omega))
theorem fx2 {A B ρ : Type} {F : (A → B → Option ρ) → A → B → Option ρ} (Post : Option ρ → Prop) (I : A → B → Nat → Prop) (h : ∀ self a b m, I a b m → (∀ a' b' m', m' < m → I a' b' m' → Post (self a' b')) → Post (F self a b)) : ∀ N a b m, I a b m → m < N → Post (fu2 F N a b) := by
  intro N
  induction N with
  | zero => intro a b m _ h; omega
  | succ N ih => intro a b m hI hm; exact h (fu2 F N) a b m hI (fun a' b' m' hl hI' => ih a' b' m' hI' (by omega))
theorem fx3 {A B C ρ : Type} {F : (A → B → C → Option ρ) → A → B → C → Option ρ} (Post : Option ρ → Prop) (I : A → B → C → Nat → Prop) (h : ∀ self a b c m, I a b c m → (∀ a' b' c' m', m' < m → I a' b' c' m' → Post (self a' b' c')) → Post (F self a b c)) : ∀ N a b c m, I a b c m → m < N → Post (fu3 F N a b c) := by
  intro N
  induction N with
  | zero => intro a b c m _ h; omega
  | succ N ih => intro a b c m hI hm; exact h (fu3 F N) a b c m hI (fun a' b' c' m' hl hI' => ih a' b' c' m' hI' (by omega))
theorem fx4 {A B C E ρ : Type} {F : (A → B → C → E → Option ρ) → A → B → C → E → Option ρ} (Post : Option ρ → Prop) (I : A → B → C → E → Nat → Prop) (h : ∀ self a b c d m, I a b c d m → (∀ a' b' c' d' m', m' < m → I a' b' c' d' m' → Post (self a' b' c' d')) → Post (F self a b c d)) : ∀ N a b c d m, I a b c d m → m < N → Post (fu4 F N a b c d) := by
  intro N
  induction N with
  | zero => intro a b c d m _ h; omega
  | succ N ih => intro a b c d m hI hm; exact h (fu4 F N) a b c d m hI (fun a' b' c' d' m' hl hI' => ih a' b' c' d' m' hI' (by omega))
-- small numbers
theorem cl {n : Nat} (h : n < 1000000) : (nI n).toNatClampNeg = n := nI_clamp (Nat.lt_of_lt_of_le h (Nat.le_of_ble_eq_true rfl))
theorem lt' {a b : Nat} (ha : a < 1000000) (hb : b < 1000000) : nI a < nI b ↔ a < b := nI_ltI (Nat.lt_of_lt_of_le ha (Nat.le_of_ble_eq_true rfl)) (Nat.lt_of_lt_of_le hb (Nat.le_of_ble_eq_true rfl))
theorem le' {a b : Nat} (ha : a < 1000000) (hb : b < 1000000) : nI a ≤ nI b ↔ a ≤ b := nI_leI (Nat.lt_of_lt_of_le ha (Nat.le_of_ble_eq_true rfl)) (Nat.lt_of_lt_of_le hb (Nat.le_of_ble_eq_true rfl))
theorem eq' {a b : Nat} (ha : a < 1000000) (hb : b < 1000000) : nI a = nI b ↔ a = b := nI_eq (Nat.lt_of_lt_of_le ha (Nat.le_of_ble_eq_true rfl)) (Nat.lt_of_lt_of_le hb (Nat.le_of_ble_eq_true rfl))
theorem gIn {α : Type} {i n : Nat} {x : Option α} (h : i < n) (hn : n < 1000000) : gI (nI i) n x = x := gI_ok (vp_in_nI h (Nat.lt_of_lt_of_le hn (Nat.le_of_ble_eq_true rfl)))
theorem ofI (x : Int32) : x < 0 ∨ ∃ j : Nat, j < 2 ^ 31 ∧ x = nI j := by
  by_cases h : x < 0
  · exact Or.inl h
  · exact Or.inr (nI_of h)
/-- any int: below 0, or from n on, or one of the first n -/
theorem ix (x : Int32) (n : Nat) (hn : n < 1000000) : x < 0 ∨ nI n ≤ x ∨ ∃ j : Nat, j < n ∧ x = nI j := pk_ix x (Nat.lt_of_lt_of_le hn (Nat.le_of_ble_eq_true rfl))
theorem nlt0 {n : Nat} (h : n < 1000000) : ¬ nI n < 0 := nI_pos (Nat.lt_of_lt_of_le h (Nat.le_of_ble_eq_true rfl))
/-- the number of hedges -/
def hN (n : Nat) : Nat := n * (n - 1) / 2
def he (n a b : Nat) : Nat := (min a b) * (2 * n - min a b - 1) / 2 + (max a b) - (min a b) - 1
theorem hN_le : ∀ n, n < 6 → hN n ≤ 10 := by decide
theorem he_lt : ∀ n, n < 6 → ∀ a, a < n → ∀ b, b < n → a ≠ b → he n a b < hN n := by decide
theorem he_sym (n a b : Nat) : he n a b = he n b a := by unfold he; rw [Nat.min_comm, Nat.max_comm]
theorem hN_I : ∀ n, n < 6 → (nI n * (nI n - 1)) / 2 = nI (hN n) := by decide +kernel
theorem he_I : ∀ n, n < 6 → ∀ a, a < n → ∀ b, b < n → a ≠ b → fX0_hedgeOf (fun _ _ => nI n) (nI a) (nI b) = some (nI (he n a b)) := by decide +kernel
theorem he_M : ∀ n, n < 6 → ∀ a, a < n → ∀ b, b < n → a ≠ b → fX4_hedge (fun _ _ => nI n) (nI a) (nI b) = some (nI (he n a b)) := by decide +kernel
