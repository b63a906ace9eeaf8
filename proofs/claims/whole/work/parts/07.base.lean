/-! my own base: bundles of rows, the pictures of the classes, guards, loops with fuel, contracts of methods that read and of methods that write -/
abbrev Bk : Type := Nat → Nat → Int32
def sB (B : Bk) (k i : Nat) (v : Int32) : Bk := va_up B k (upd (B k) i v)
def sA (B : Bk) (k : Nat) (f : Nat → Int32) : Bk := va_up B k f
abbrev tyL (cI cZ cQ : ClassId) : List (ClassId × FieldType) := [(cI, .int), (cZ, .boolean), (cQ, .object RX2)]
abbrev EK (D : va_G) (cI cZ cQ : ClassId) (U : State) : Prop := va_K D vwCl (tyL cI cZ cQ) U ∧ va_Nw (.methodLinkNest RX0 62 yX3_digit RX3) U ∧ va_Nw (.methodLinkNest RX0 52 yX3_thickness RX3) U ∧ va_Nw (.methodLinkNest RX0 58 yX3_lets RX3) U ∧ va_Nw (.methodLinkNest RX0 84 yX3_isIn RX3) U ∧ va_Nw (.methodLinkNest RX1 35 yX3_lets RX3) U ∧ va_AO RX2 U
theorem EK_warm {D : va_G} {cI cZ cQ : ClassId} {s U : State} (hW : s.WarmedH U.vm) (h : EK D cI cZ cQ s) : EK D cI cZ cQ U := ⟨va_K.moved hW.alike h.1, va_Nw.warmM hW h.2.1, va_Nw.warmM hW h.2.2.1, va_Nw.warmM hW h.2.2.2.1, va_Nw.warmM hW h.2.2.2.2.1, va_Nw.warmM hW h.2.2.2.2.2.1, va_AO.moved hW.alike h.2.2.2.2.2.2⟩
theorem EK_call {D : va_G} {cI cZ cQ : ClassId} {U : State} {g : JFrame} {mk : MethodId} {a : Array Value} (h : EK D cI cZ cQ U) : EK D cI cZ cQ (U.calling g mk a) := ⟨va_K.moved (u := U) (U := U.calling g mk a) (Vm.Alike.refl U.vm) h.1, va_Nw.same (u := U) rfl rfl h.2.1, va_Nw.same (u := U) rfl rfl h.2.2.1, va_Nw.same (u := U) rfl rfl h.2.2.2.1, va_Nw.same (u := U) rfl rfl h.2.2.2.2.1, va_Nw.same (u := U) rfl rfl h.2.2.2.2.2.1, va_AO.moved (u := U) (U := U.calling g mk a) (Vm.Alike.refl U.vm) h.2.2.2.2.2.2⟩
-- the pictures: o the object's cell, a k the cell of the array in field k, B k the row (or B k 0 the number) of field k
abbrev wL (cI : ClassId) (o : Nat) (a : Nat → Nat) (L : Bk) : va_W := [(o, .inr (0, [.int (L 0 0), .int (L 1 0), .int (L 2 0), .ref (a 3), .ref (a 4), .ref (a 5), .ref (a 6), .ref (a 7)])), (a 3, .inl (cI, 10, .inl (L 3))), (a 4, .inl (cI, 5, .inl (L 4))), (a 5, .inl (cI, 5, .inl (L 5))), (a 6, .inl (cI, 5, .inl (L 6))), (a 7, .inl (cI, 5, .inl (L 7)))]
abbrev wLL (cI : ClassId) (o : Nat) (a : Nat → Nat) (L : Bk) (o2 : Nat) (a2 : Nat → Nat) (L2 : Bk) : va_W := [(o, .inr (0, [.int (L 0 0), .int (L 1 0), .int (L 2 0), .ref (a 3), .ref (a 4), .ref (a 5), .ref (a 6), .ref (a 7)])), (a 3, .inl (cI, 10, .inl (L 3))), (a 4, .inl (cI, 5, .inl (L 4))), (a 5, .inl (cI, 5, .inl (L 5))), (a 6, .inl (cI, 5, .inl (L 6))), (a 7, .inl (cI, 5, .inl (L 7))), (o2, .inr (0, [.int (L2 0 0), .int (L2 1 0), .int (L2 2 0), .ref (a2 3), .ref (a2 4), .ref (a2 5), .ref (a2 6), .ref (a2 7)])), (a2 3, .inl (cI, 10, .inl (L2 3))), (a2 4, .inl (cI, 5, .inl (L2 4))), (a2 5, .inl (cI, 5, .inl (L2 5))), (a2 6, .inl (cI, 5, .inl (L2 6))), (a2 7, .inl (cI, 5, .inl (L2 7)))]
abbrev wN (cI cZ : ClassId) (o : Nat) (a : Nat → Nat) (N : Bk) : va_W := [(o, .inr (1, [.ref (a 0), .ref (a 1), .ref (a 2), .int (N 3 0)])), (a 0, .inl (cI, 8, .inl (N 0))), (a 1, .inl (cI, 8, .inl (N 1))), (a 2, .inl (cZ, 8, .inl (N 2)))]
abbrev wNL (cI cZ : ClassId) (o : Nat) (a : Nat → Nat) (N : Bk) (o2 : Nat) (a2 : Nat → Nat) (L : Bk) : va_W := [(o, .inr (1, [.ref (a 0), .ref (a 1), .ref (a 2), .int (N 3 0)])), (a 0, .inl (cI, 8, .inl (N 0))), (a 1, .inl (cI, 8, .inl (N 1))), (a 2, .inl (cZ, 8, .inl (N 2))), (o2, .inr (0, [.int (L 0 0), .int (L 1 0), .int (L 2 0), .ref (a2 3), .ref (a2 4), .ref (a2 5), .ref (a2 6), .ref (a2 7)])), (a2 3, .inl (cI, 10, .inl (L 3))), (a2 4, .inl (cI, 5, .inl (L 4))), (a2 5, .inl (cI, 5, .inl (L 5))), (a2 6, .inl (cI, 5, .inl (L 6))), (a2 7, .inl (cI, 5, .inl (L 7)))]
abbrev wR (cI : ClassId) (o : Nat) (a : Nat → Nat) (R : Bk) : va_W := [(o, .inr (2, [.ref (a 0), .int (R 1 0), .int (R 2 0), .int (R 3 0)])), (a 0, .inl (cI, 60, .inl (R 0)))]
-- the system: o its object, ra the array of rows, rr i the object of row i; in sight: row k (cells in rc), the land, the trial, the notebook
abbrev wX (cI cZ cQ : ClassId) (o ra : Nat) (rr : Nat → Nat) (k rc : Nat) (oL : Nat) (aL : Nat → Nat) (oT : Nat) (aT : Nat → Nat) (oN : Nat) (aN : Nat → Nat) (X R L T N : Bk) : va_W := [(o, .inr (3, [.ref ra, .ref oL, .ref oT, .ref oN, .int (X 4 0), .int (X 5 0), .int (X 6 0), .int (X 7 0)])), (ra, .inl (cQ, 4, .inr (.inr (.inr (.inr (fun i => some (rr i))))))), (rr k, .inr (2, [.ref rc, .int (R 1 0), .int (R 2 0), .int (R 3 0)])), (rc, .inl (cI, 60, .inl (R 0))), (oL, .inr (0, [.int (L 0 0), .int (L 1 0), .int (L 2 0), .ref (aL 3), .ref (aL 4), .ref (aL 5), .ref (aL 6), .ref (aL 7)])), (aL 3, .inl (cI, 10, .inl (L 3))), (aL 4, .inl (cI, 5, .inl (L 4))), (aL 5, .inl (cI, 5, .inl (L 5))), (aL 6, .inl (cI, 5, .inl (L 6))), (aL 7, .inl (cI, 5, .inl (L 7))), (oT, .inr (0, [.int (T 0 0), .int (T 1 0), .int (T 2 0), .ref (aT 3), .ref (aT 4), .ref (aT 5), .ref (aT 6), .ref (aT 7)])), (aT 3, .inl (cI, 10, .inl (T 3))), (aT 4, .inl (cI, 5, .inl (T 4))), (aT 5, .inl (cI, 5, .inl (T 5))), (aT 6, .inl (cI, 5, .inl (T 6))), (aT 7, .inl (cI, 5, .inl (T 7))), (oN, .inr (1, [.ref (aN 0), .ref (aN 1), .ref (aN 2), .int (N 3 0)])), (aN 0, .inl (cI, 8, .inl (N 0))), (aN 1, .inl (cI, 8, .inl (N 1))), (aN 2, .inl (cZ, 8, .inl (N 2)))]
-- the same with two rows in sight: k and k2
abbrev wX2 (cI cZ cQ : ClassId) (o ra : Nat) (rr : Nat → Nat) (k rc k2 rc2 : Nat) (oL oT oN : Nat) (X R S : Bk) : va_W := [(o, .inr (3, [.ref ra, .ref oL, .ref oT, .ref oN, .int (X 4 0), .int (X 5 0), .int (X 6 0), .int (X 7 0)])), (ra, .inl (cQ, 4, .inr (.inr (.inr (.inr (fun i => some (rr i))))))), (rr k, .inr (2, [.ref rc, .int (R 1 0), .int (R 2 0), .int (R 3 0)])), (rc, .inl (cI, 60, .inl (R 0))), (rr k2, .inr (2, [.ref rc2, .int (S 1 0), .int (S 2 0), .int (S 3 0)])), (rc2, .inl (cI, 60, .inl (S 0)))]
abbrev wM (cI : ClassId) (o : Nat) (a : Nat → Nat) (M : Bk) : va_W := [(o, .inr (4, [.int (M 0 0), .int (M 1 0), .ref (a 2), .ref (a 3), .ref (a 4), .int (M 5 0), .int (M 6 0), .int (M 7 0), .int (M 8 0), .int (M 9 0), .ref (a 10), .ref (a 11), .ref (a 12), .ref (a 13), .int (M 14 0), .int (M 15 0), .int (M 16 0), .ref (a 17), .ref (a 18), .ref (a 19), .ref (a 20), .int (M 21 0), .int (M 22 0), .ref (a 23), .ref (a 24), .int (M 25 0), .ref (a 26), .ref (a 27), .ref (a 28)])), (a 2, .inl (cI, 4, .inl (M 2))), (a 3, .inl (cI, 4, .inl (M 3))), (a 4, .inl (cI, 240, .inl (M 4))), (a 10, .inl (cI, 10, .inl (M 10))), (a 11, .inl (cI, 5, .inl (M 11))), (a 12, .inl (cI, 5, .inl (M 12))), (a 13, .inl (cI, 5, .inl (M 13))), (a 17, .inl (cI, 10, .inl (M 17))), (a 18, .inl (cI, 15, .inl (M 18))), (a 19, .inl (cI, 10, .inl (M 19))), (a 20, .inl (cI, 5, .inl (M 20))), (a 23, .inl (cI, 5, .inl (M 23))), (a 24, .inl (cI, 5, .inl (M 24))), (a 26, .inl (cI, 8, .inl (M 26))), (a 27, .inl (cI, 8, .inl (M 27))), (a 28, .inl (cI, 8, .inl (M 28)))]
-- guards
def gI {α : Type} (i : Int32) (n : Nat) (x : Option α) : Option α := if i < 0 ∨ n ≤ i.toNatClampNeg then none else x
theorem gI_e {α : Type} {i : Int32} {n : Nat} {x : Option α} {r : α} (h : gI i n x = some r) : vp_in i n ∧ x = some r := by
  unfold gI at h
  by_cases c : i < 0 ∨ n ≤ i.toNatClampNeg
  · rw [if_pos c] at h; cases h
  · rw [if_neg c] at h; exact ⟨c, h⟩
theorem gI_ok {α : Type} {i : Int32} {n : Nat} {x : Option α} (h : vp_in i n) : gI i n x = x := if_neg h
def gN {α : Type} (y : Int32) (x : Option α) : Option α := if y = 0 then none else x
theorem gN_e {α : Type} {y : Int32} {x : Option α} {r : α} (h : gN y x = some r) : (¬ y = 0) ∧ x = some r := by
  unfold gN at h
  by_cases c : y = 0
  · rw [if_pos c] at h; cases h
  · rw [if_neg c] at h; exact ⟨c, h⟩
def gJ {α : Type} (y : Int64) (x : Option α) : Option α := if y = 0 then none else x
theorem gJ_e {α : Type} {y : Int64} {x : Option α} {r : α} (h : gJ y x = some r) : (¬ y = 0) ∧ x = some r := by
  unfold gJ at h
  by_cases c : y = 0
  · rw [if_pos c] at h; cases h
  · rw [if_neg c] at h; exact ⟨c, h⟩
def gB {α : Type} (v : Int32) (x : Option α) : Option α := if v = 0 ∨ v = 1 then x else none
theorem gB_e {α : Type} {v : Int32} {x : Option α} {r : α} (h : gB v x = some r) : (v = 0 ∨ v = 1) ∧ x = some r := by
  unfold gB at h
  by_cases c : v = 0 ∨ v = 1
  · rw [if_pos c] at h; exact ⟨c, h⟩
  · rw [if_neg c] at h; cases h
theorem nzB {v : Int32} (h : v = 0 ∨ v = 1) : narrow .boolean (.int v) = .int v := by
  rcases h with h | h <;> subst h <;> rfl
def gE {α : Type} (a b : Nat) (x : Option α) : Option α := if a = b then x else none
theorem gE_e {α : Type} {a b : Nat} {x : Option α} {r : α} (h : gE a b x = some r) : a = b ∧ x = some r := by
  unfold gE at h
  by_cases c : a = b
  · rw [if_pos c] at h; exact ⟨c, h⟩
  · rw [if_neg c] at h; cases h
def gC {α : Type} (i j n : Int32) (n0 n1 : Nat) (x : Option α) : Option α := if (¬ i < 0) ∧ (¬ j < 0) ∧ (¬ n < 0) ∧ i.toNatClampNeg + n.toNatClampNeg ≤ n0 ∧ j.toNatClampNeg + n.toNatClampNeg ≤ n1 then x else none
theorem gC_e {α : Type} {i j n : Int32} {n0 n1 : Nat} {x : Option α} {r : α} (h : gC i j n n0 n1 x = some r) : ((¬ i < 0) ∧ (¬ j < 0) ∧ (¬ n < 0) ∧ i.toNatClampNeg + n.toNatClampNeg ≤ n0 ∧ j.toNatClampNeg + n.toNatClampNeg ≤ n1) ∧ x = some r := by
  unfold gC at h
  by_cases c : (¬ i < 0) ∧ (¬ j < 0) ∧ (¬ n < 0) ∧ i.toNatClampNeg + n.toNatClampNeg ≤ n0 ∧ j.toNatClampNeg + n.toNatClampNeg ≤ n1
  · rw [if_pos c] at h; exact ⟨c, h⟩
  · rw [if_neg c] at h; cases h
theorem bd {α ρ : Type} {x : Option α} {κ : α → Option ρ} {r : ρ} (h : x.bind κ = some r) : ∃ v, x = some v ∧ κ v = some r := by
  cases x with
  | none => cases h
  | some v => exact ⟨v, rfl, h⟩
theorem iT {ρ : Type} {c : Prop} [Decidable c] {x y : Option ρ} {r : ρ} (hc : c) (h : (if c then x else y) = some r) : x = some r := by rwa [if_pos hc] at h
theorem iF {ρ : Type} {c : Prop} [Decidable c] {x y : Option ρ} {r : ρ} (hc : ¬ c) (h : (if c then x else y) = some r) : y = some r := by rwa [if_neg hc] at h
-- loops with fuel
def fu1 {A ρ : Type} (F : (A → Option ρ) → A → Option ρ) : Nat → A → Option ρ
  | 0, _ => none
  | n + 1, a => F (fu1 F n) a
def fu2 {A B ρ : Type} (F : (A → B → Option ρ) → A → B → Option ρ) : Nat → A → B → Option ρ
  | 0, _, _ => none
  | n + 1, a, b => F (fu2 F n) a b
def fu3 {A B C ρ : Type} (F : (A → B → C → Option ρ) → A → B → C → Option ρ) : Nat → A → B → C → Option ρ
  | 0, _, _, _ => none
  | n + 1, a, b, c => F (fu3 F n) a b c
def fu4 {A B C E ρ : Type} (F : (A → B → C → E → Option ρ) → A → B → C → E → Option ρ) : Nat → A → B → C → E → Option ρ
  | 0, _, _, _, _ => none
  | n + 1, a, b, c, d => F (fu4 F n) a b c d
theorem zl1 {A ρ : Type} {G : (A → Option ρ) → (A → Option ρ) → A → Option ρ} {κ : A → Option ρ} {N : Nat} {a0 : A} {r : ρ} (P X : A → Prop) (hf : fu1 (G κ) N a0 = some r) (hx : ∀ a, κ a = some r → X a) (hs : ∀ (κ' self : A → Option ρ), (∀ a, κ' a = some r → X a) → (∀ a, self a = some r → P a) → ∀ a, G κ' self a = some r → P a) : P a0 := by
  have key : ∀ n a, fu1 (G κ) n a = some r → P a := by
    intro n
    induction n with
    | zero => intro a h; cases h
    | succ n ih => intro a h; exact hs κ (fu1 (G κ) n) hx ih a h
  exact key N a0 hf
theorem zl2 {A B ρ : Type} {G : (A → B → Option ρ) → (A → B → Option ρ) → A → B → Option ρ} {κ : A → B → Option ρ} {N : Nat} {a0 : A} {b0 : B} {r : ρ} (P X : A → B → Prop) (hf : fu2 (G κ) N a0 b0 = some r) (hx : ∀ a b, κ a b = some r → X a b) (hs : ∀ (κ' self : A → B → Option ρ), (∀ a b, κ' a b = some r → X a b) → (∀ a b, self a b = some r → P a b) → ∀ a b, G κ' self a b = some r → P a b) : P a0 b0 := by
  have key : ∀ n a b, fu2 (G κ) n a b = some r → P a b := by
    intro n
    induction n with
    | zero => intro a b h; cases h
    | succ n ih => intro a b h; exact hs κ (fu2 (G κ) n) hx ih a b h
  exact key N a0 b0 hf
theorem zl3 {A B C ρ : Type} {G : (A → B → C → Option ρ) → (A → B → C → Option ρ) → A → B → C → Option ρ} {κ : A → B → C → Option ρ} {N : Nat} {a0 : A} {b0 : B} {c0 : C} {r : ρ} (P X : A → B → C → Prop) (hf : fu3 (G κ) N a0 b0 c0 = some r) (hx : ∀ a b c, κ a b c = some r → X a b c) (hs : ∀ (κ' self : A → B → C → Option ρ), (∀ a b c, κ' a b c = some r → X a b c) → (∀ a b c, self a b c = some r → P a b c) → ∀ a b c, G κ' self a b c = some r → P a b c) : P a0 b0 c0 := by
  have key : ∀ n a b c, fu3 (G κ) n a b c = some r → P a b c := by
    intro n
    induction n with
    | zero => intro a b c h; cases h
    | succ n ih => intro a b c h; exact hs κ (fu3 (G κ) n) hx ih a b c h
  exact key N a0 b0 c0 hf
theorem zl4 {A B C E ρ : Type} {G : (A → B → C → E → Option ρ) → (A → B → C → E → Option ρ) → A → B → C → E → Option ρ} {κ : A → B → C → E → Option ρ} {N : Nat} {a0 : A} {b0 : B} {c0 : C} {d0 : E} {r : ρ} (P X : A → B → C → E → Prop) (hf : fu4 (G κ) N a0 b0 c0 d0 = some r) (hx : ∀ a b c d, κ a b c d = some r → X a b c d) (hs : ∀ (κ' self : A → B → C → E → Option ρ), (∀ a b c d, κ' a b c d = some r → X a b c d) → (∀ a b c d, self a b c d = some r → P a b c d) → ∀ a b c d, G κ' self a b c d = some r → P a b c d) : P a0 b0 c0 d0 := by
  have key : ∀ n a b c d, fu4 (G κ) n a b c d = some r → P a b c d := by
    intro n
    induction n with
    | zero => intro a b c d h; cases h
    | succ n ih => intro a b c d h; exact hs κ (fu4 (G κ) n) hx ih a b c d h
  exact key N a0 b0 c0 d0 hf
-- contracts: a method that reads alone
abbrev RoP (D : va_G) (cI cZ cQ : ClassId) (av : List Value) (w : va_W) : Array Value → State → Prop := va_Pc av (fun U => va_P D vwCl w U.heap ∧ EK D cI cZ cQ U)
theorem RoP_blind {D : va_G} {cI cZ cQ : ClassId} {av : List Value} {w : va_W} : FrameBlind (RoP D cI cZ cQ av w) := fun _ _ _ _ h => ⟨h.1, h.2.1, EK_call h.2.2⟩
section CON
variable {l : Launch} {y : MethodName} {ws ws' : List Cond} {rm : Room} {cc : ByteArray} {maxL : Nat} {D : va_G} {cI cZ cQ : ClassId} {av : List Value} {w w0 w1 : va_W}
theorem metRi {ty : FieldType} {r : Int32} (hy : plainName y.cls = true) (hw : ws = Cond.code y cc maxL (some ty) :: ws') (hlen : (lg_sl av).length ≤ maxL)
    (body : ∀ p e s m args below meth c Q, CallFix p m c cc maxL s args ws y.cls → EK D cI cZ cQ s → va_P D vwCl w s.heap → (∀ pc ls, narrow ty (.int r) = .int r → decode cc pc = .ok (.ireturn, 1) → W p l e rm s m args below meth c s.heap [] 0 0 Q (F0 m pc ls [.int r])) → ∀ ls, lv_has ls maxL (lv_args 0 av) → W p l e rm s m args below meth c s.heap [] 0 0 Q (F0 m 0 ls [])) :
    Met l y ws rm (RoP D cI cZ cQ av w) (vp_Si (fun r' => r' = r)) 0 0 (fun _ => False) := by
  refine Met.ofW (cc := cc) (maxL := maxL) (ret := some ty) hy hw ?_
  intro p e s m args below meth c s₁ B hml hv
  obtain ⟨rfl, hP, hK⟩ := hv
  have hl := lv_entry av (n := maxL) hlen
  rw [lg_entry_eq]
  refine body p e s m av.toArray below meth c _ ⟨B.exec, B.bytes, hml, findClass_of_methodNamed B.named, atoms_spec (ws := ws) B.pre⟩ hK hP ?_ _ hl
  intro pc ls hn hd
  exact W.zret B.exec B.bytes B.returns hn (fun t ht _ => ⟨r, rfl, rfl, ht⟩) (fun _ h => by cases h) hd
theorem metRl {r : Int64} (hy : plainName y.cls = true) (hw : ws = Cond.code y cc maxL (some .long) :: ws') (hlen : (lg_sl av).length ≤ maxL)
    (body : ∀ p e s m args below meth c Q, CallFix p m c cc maxL s args ws y.cls → EK D cI cZ cQ s → va_P D vwCl w s.heap → (∀ pc ls, decode cc pc = .ok (.lreturn, 1) → W p l e rm s m args below meth c s.heap [] 0 0 Q (F0 m pc ls [.long r])) → ∀ ls, lv_has ls maxL (lv_args 0 av) → W p l e rm s m args below meth c s.heap [] 0 0 Q (F0 m 0 ls [])) :
    Met l y ws rm (RoP D cI cZ cQ av w) (vp_Sl (fun r' => r' = r)) 0 0 (fun _ => False) := by
  refine Met.ofW (cc := cc) (maxL := maxL) (ret := some .long) hy hw ?_
  intro p e s m args below meth c s₁ B hml hv
  obtain ⟨rfl, hP, hK⟩ := hv
  have hl := lv_entry av (n := maxL) hlen
  rw [lg_entry_eq]
  refine body p e s m av.toArray below meth c _ ⟨B.exec, B.bytes, hml, findClass_of_methodNamed B.named, atoms_spec (ws := ws) B.pre⟩ hK hP ?_ _ hl
  intro pc ls hd
  exact W.lret B.exec B.bytes B.returns (fun t ht _ => ⟨r, rfl, rfl, ht⟩) (fun _ h => by cases h) hd
end CON
-- contracts: a method that writes (no cell is made)
abbrev WrP (D : va_G) (cI cZ cQ : ClassId) (av : List Value) (w : va_W) (sz : Nat) : Array Value → State → Prop := va_Pc av (fun U => U.heap.size = sz ∧ va_P D vwCl w U.heap ∧ EK D cI cZ cQ U ∧ va_D (fun _ => True) w)
theorem WrP_blind {D : va_G} {cI cZ cQ : ClassId} {av : List Value} {w : va_W} {sz : Nat} : FrameBlind (WrP D cI cZ cQ av w sz) := fun _ _ _ _ h => ⟨h.1, h.2.1, h.2.2.1, EK_call h.2.2.2.1, h.2.2.2.2⟩
abbrev WrQi (D : va_G) (r : Int32) (w0 w1 : va_W) (sz : Nat) : Array Value → State → Outcome → State → Prop := va_Qi (S := Unit) (fun r' _ => r' = r) (fun _ t => va_P D vwCl w1 t.heap) (va_A w0 sz)
abbrev WrQl (D : va_G) (r : Int64) (w0 w1 : va_W) (sz : Nat) : Array Value → State → Outcome → State → Prop := va_Ql (S := Unit) (fun r' _ => r' = r) (fun _ t => va_P D vwCl w1 t.heap) (va_A w0 sz)
abbrev WrQv (D : va_G) (w0 w1 : va_W) (sz : Nat) : Array Value → State → Outcome → State → Prop := va_Qv (S := Unit) (fun _ => True) (fun _ t => va_P D vwCl w1 t.heap) (va_A w0 sz)
section CONW
variable {l : Launch} {y : MethodName} {ws ws' : List Cond} {rm : Room} {cc : ByteArray} {maxL sz : Nat} {D : va_G} {cI cZ cQ : ClassId} {av : List Value} {w w0 w1 : va_W}
theorem metWi {ty : FieldType} {r : Int32} (hy : plainName y.cls = true) (hw : ws = Cond.code y cc maxL (some ty) :: ws') (hlen : (lg_sl av).length ≤ maxL)
    (body : ∀ p e s m args below meth c Q A, CallFix p m c cc maxL s args ws y.cls → EK D cI cZ cQ s → va_P D vwCl w0 s.heap → va_D A w0 → (∀ q : Nat, s.heap.size ≤ q → A q) → (∀ pc ls H locs, narrow ty (.int r) = .int r → decode cc pc = .ok (.ireturn, 1) → va_P D vwCl w1 H → va_S A s.heap H locs → W p l e rm s m args below meth c H locs 0 0 Q (F0 m pc ls [.int r])) → ∀ ls, lv_has ls maxL (lv_args 0 av) → W p l e rm s m args below meth c s.heap [] 0 0 Q (F0 m 0 ls [])) :
    Met l y ws rm (WrP D cI cZ cQ av w0 sz) (WrQi D r w0 w1 sz) 0 0 (va_A w0 sz) := by
  refine Met.ofW (cc := cc) (maxL := maxL) (ret := some ty) hy hw ?_
  intro p e s m args below meth c s₁ B hml hv
  obtain ⟨rfl, hsz, hP, hK, hD0⟩ := hv
  subst hsz
  have hl := lv_entry av (n := maxL) hlen
  rw [lg_entry_eq]
  refine body p e s m av.toArray below meth c _ (va_A w0 s.heap.size) ⟨B.exec, B.bytes, hml, findClass_of_methodNamed B.named, atoms_spec (ws := ws) B.pre⟩ hK hP (hD0.self (sz := s.heap.size)) (fun q h => Or.inr h) ?_ _ hl
  intro pc ls H locs hn hd hP1 hS
  exact W.zret B.exec B.bytes B.returns hn (fun t ht _ => ⟨⟨r, (), rfl, rfl, by show va_P D vwCl w1 t.heap; rw [ht]; exact hP1⟩, hS.F ht⟩) hS.2.2 hd
theorem metWl {r : Int64} (hy : plainName y.cls = true) (hw : ws = Cond.code y cc maxL (some .long) :: ws') (hlen : (lg_sl av).length ≤ maxL)
    (body : ∀ p e s m args below meth c Q A, CallFix p m c cc maxL s args ws y.cls → EK D cI cZ cQ s → va_P D vwCl w0 s.heap → va_D A w0 → (∀ q : Nat, s.heap.size ≤ q → A q) → (∀ pc ls H locs, decode cc pc = .ok (.lreturn, 1) → va_P D vwCl w1 H → va_S A s.heap H locs → W p l e rm s m args below meth c H locs 0 0 Q (F0 m pc ls [.long r])) → ∀ ls, lv_has ls maxL (lv_args 0 av) → W p l e rm s m args below meth c s.heap [] 0 0 Q (F0 m 0 ls [])) :
    Met l y ws rm (WrP D cI cZ cQ av w0 sz) (WrQl D r w0 w1 sz) 0 0 (va_A w0 sz) := by
  refine Met.ofW (cc := cc) (maxL := maxL) (ret := some .long) hy hw ?_
  intro p e s m args below meth c s₁ B hml hv
  obtain ⟨rfl, hsz, hP, hK, hD0⟩ := hv
  subst hsz
  have hl := lv_entry av (n := maxL) hlen
  rw [lg_entry_eq]
  refine body p e s m av.toArray below meth c _ (va_A w0 s.heap.size) ⟨B.exec, B.bytes, hml, findClass_of_methodNamed B.named, atoms_spec (ws := ws) B.pre⟩ hK hP (hD0.self (sz := s.heap.size)) (fun q h => Or.inr h) ?_ _ hl
  intro pc ls H locs hd hP1 hS
  exact W.lret B.exec B.bytes B.returns (fun t ht _ => ⟨⟨r, (), rfl, rfl, by show va_P D vwCl w1 t.heap; rw [ht]; exact hP1⟩, hS.F ht⟩) hS.2.2 hd
theorem metWv (hy : plainName y.cls = true) (hw : ws = Cond.code y cc maxL none :: ws') (hlen : (lg_sl av).length ≤ maxL)
    (body : ∀ p e s m args below meth c Q A, CallFix p m c cc maxL s args ws y.cls → EK D cI cZ cQ s → va_P D vwCl w0 s.heap → va_D A w0 → (∀ q : Nat, s.heap.size ≤ q → A q) → (∀ pc ls H locs, decode cc pc = .ok (.return_, 1) → va_P D vwCl w1 H → va_S A s.heap H locs → W p l e rm s m args below meth c H locs 0 0 Q (F0 m pc ls [])) → ∀ ls, lv_has ls maxL (lv_args 0 av) → W p l e rm s m args below meth c s.heap [] 0 0 Q (F0 m 0 ls [])) :
    Met l y ws rm (WrP D cI cZ cQ av w0 sz) (WrQv D w0 w1 sz) 0 0 (va_A w0 sz) := by
  refine Met.ofW (cc := cc) (maxL := maxL) (ret := none) hy hw ?_
  intro p e s m args below meth c s₁ B hml hv
  obtain ⟨rfl, hsz, hP, hK, hD0⟩ := hv
  subst hsz
  have hl := lv_entry av (n := maxL) hlen
  rw [lg_entry_eq]
  refine body p e s m av.toArray below meth c _ (va_A w0 s.heap.size) ⟨B.exec, B.bytes, hml, findClass_of_methodNamed B.named, atoms_spec (ws := ws) B.pre⟩ hK hP (hD0.self (sz := s.heap.size)) (fun q h => Or.inr h) ?_ _ hl
  intro pc ls H locs hd hP1 hS
  exact W.vret B.exec B.bytes B.returns (fun t ht _ => ⟨⟨(), rfl, trivial, by show va_P D vwCl w1 t.heap; rw [ht]; exact hP1⟩, hS.F ht⟩) hS.2.2 hd
end CONW
-- putting a callee's cells back among the caller's
def putAt : va_W → List Nat → va_W → va_W
  | ws, i :: is, q :: qs => putAt (ws.set i q) is qs
  | ws, _, _ => ws
theorem putAt_get : ∀ (is : List Nat) (ws w1 : va_W) (k : Nat) (q : Nat × va_E), is.length = w1.length → (putAt ws is w1)[k]? = some q → q ∈ w1 ∨ (k ∉ is ∧ ws[k]? = some q)
  | [], ws, w1, k, q, _, h => Or.inr ⟨List.not_mem_nil, by cases w1 <;> exact h⟩
  | i :: is, ws, [], k, q, hl, h => by cases hl
  | i :: is, ws, x :: w1, k, q, hl, h => by
    rcases putAt_get is (ws.set i x) w1 k q (Nat.succ.inj hl) h with h1 | ⟨h1, h2⟩
    · exact Or.inl (List.mem_cons_of_mem _ h1)
    · by_cases e : i = k
      · subst e
        rw [List.getElem?_set] at h2
        by_cases hlt : i < ws.length
        · simp only [if_true, hlt, if_pos] at h2
          cases h2
          exact Or.inl List.mem_cons_self
        · simp only [if_true, hlt, if_false] at h2
          cases h2
      · rw [List.getElem?_set_ne e] at h2
        refine Or.inr ⟨fun hm => ?_, h2⟩
        rcases List.mem_cons.mp hm with e2 | e2
        · exact e e2.symm
        · exact h1 e2
theorem va_D_addr {A : Nat → Prop} {ws ws' : va_W} (he : ws'.map Prod.fst = ws.map Prod.fst) (h : va_D A ws) : va_D A ws' := by
  have key : ∀ (i : Nat) (p : Nat × va_E), ws'[i]? = some p → ∃ p0, ws[i]? = some p0 ∧ p0.1 = p.1 := by
    intro i p hp
    have h1 : (ws'.map Prod.fst)[i]? = some p.1 := by rw [List.getElem?_map, hp]; rfl
    rw [he, List.getElem?_map] at h1
    cases hq : ws[i]? with
    | none => rw [hq] at h1; cases h1
    | some p0 => rw [hq] at h1; exact ⟨p0, rfl, Option.some.inj h1⟩
  refine ⟨fun i j p q hp hq e => ?_, fun k q hq => ?_⟩
  · obtain ⟨p0, a1, b1⟩ := key i p hp
    obtain ⟨q0, a2, b2⟩ := key j q hq
    exact h.1 i j p0 q0 a1 a2 (by rw [b1, b2]; exact e)
  · obtain ⟨q0, a2, b2⟩ := key k q hq
    rw [← b2]; exact h.2 k q0 a2
theorem mapGet {ws wc : va_W} {is : List Nat} (hC : is.map (fun i => ws[i]?) = wc.map some) (k : Nat) (q : Nat × va_E) (hq : wc[k]? = some q) : ∃ i, is[k]? = some i ∧ ws[i]? = some q := by
  have h1 : (is.map (fun i => ws[i]?))[k]? = some (some q) := by rw [hC, List.getElem?_map, hq]; rfl
  rw [List.getElem?_map] at h1
  cases hi : is[k]? with
  | none => rw [hi] at h1; cases h1
  | some i => rw [hi] at h1; exact ⟨i, rfl, Option.some.inj h1⟩
theorem va_P_sub' {D : va_G} {cl : List vw_C} {ws wc : va_W} {H : Heap} (h : va_P D cl ws H) (is : List Nat) (hC : is.map (fun i => ws[i]?) = wc.map some) : va_P D cl wc H := by
  intro k q hq
  obtain ⟨i, -, hi⟩ := mapGet hC k q hq
  exact h i q hi
theorem zjoin {A : Nat → Prop} {D : va_G} {cl : List vw_C} {ws wc w1 ws' : va_W} {H H1 : Heap} (hP : va_P D cl ws H) (hD : va_D A ws) (is : List Nat) (hC : is.map (fun i => ws[i]?) = wc.map some) (hl : is.length = w1.length) (hput : putAt ws is w1 = ws') (had : ws'.map Prod.fst = ws.map Prod.fst)
    (hk : ∀ q : Nat, q < H.size → ¬ va_A wc H.size q → H1[q]? = H[q]?) (hP1 : va_P D cl w1 H1) : va_P D cl ws' H1 ∧ va_D A ws' := by
  refine ⟨fun k q hq => ?_, va_D_addr had hD⟩
  rw [← hput] at hq
  rcases putAt_get is ws w1 k q hl hq with h | ⟨h1, h2⟩
  · obtain ⟨j, hj⟩ := List.getElem?_of_mem h
    exact hP1 j q hj
  · have hlt := (hP k q h2).lt
    refine (hP k q h2).kept (hk q.1 hlt (fun h => ?_))
    rcases h with ⟨k2, e, h⟩ | h
    · obtain ⟨j, h3, h4⟩ := mapGet hC k2 (q.1, e) h
      have hij := hD.1 k j q (q.1, e) h2 h4 rfl
      subst hij
      exact h1 (List.mem_of_getElem? h3)
    · omega
-- calls
section CALLS
variable {p : Program} {l : Launch} {e : Env} {R : Room} {s : State} {m : MethodId} {args : Array Value} {below : List Frame} {meth : Method} {c : Code} {H : Heap} {locs : List Loc} {Q : State → Prop}
variable {y : MethodName} {bytes cc : ByteArray} {maxL nL n index : Nat} {ret : Option FieldType} {ws : List Cond} {rm : Room} {Ts : List Cond} {own C host : String} {b : Addr} {As rest st : List Value} {pc : Nat} {ls : Array Slot}
variable {D : va_G} {cI cZ cQ : ClassId} {wc w1 wB wB' : va_W} {A : Nat → Prop} {H0 : Heap} {ci : Nat} {fs : List Value} {q : vw_C}
theorem roPreV (hK : EK D cI cZ cQ s) (hP : va_P D vwCl wc H) (hc : vwCl[ci]? = some q) (he : wc[0]? = some (b, .inr (ci, fs))) (hC : q.1 = C) : PreV s H C b (RoP D cI cZ cQ (.ref b :: As) wc) As :=
  ⟨RoP_blind, by rw [← hC]; exact va_recv hK.1 hP hc he, fun U hU hW => ⟨rfl, by rw [hU]; exact hP, EK_warm hW hK⟩⟩
theorem roPreS (hK : EK D cI cZ cQ s) (hP : va_P D vwCl wc H) : PreS s H (RoP D cI cZ cQ As wc) As :=
  ⟨RoP_blind, fun U hU hW => ⟨rfl, by rw [hU]; exact hP, EK_warm hW hK⟩⟩
theorem wrPreV (hK : EK D cI cZ cQ s) (hP : va_P D vwCl wc H) (hD : va_D A wc) (hc : vwCl[ci]? = some q) (he : wc[0]? = some (b, .inr (ci, fs))) (hC : q.1 = C) : PreV s H C b (WrP D cI cZ cQ (.ref b :: As) wc H.size) As :=
  ⟨WrP_blind, by rw [← hC]; exact va_recv hK.1 hP hc he, fun U hU hW => ⟨rfl, by rw [hU], by rw [hU]; exact hP, EK_warm hW hK, hD.weaken (fun _ _ _ _ => trivial)⟩⟩
theorem wrPreS (hK : EK D cI cZ cQ s) (hP : va_P D vwCl wc H) (hD : va_D A wc) : PreS s H (WrP D cI cZ cQ As wc H.size) As :=
  ⟨WrP_blind, fun U hU hW => ⟨rfl, by rw [hU], by rw [hU]; exact hP, EK_warm hW hK, hD.weaken (fun _ _ _ _ => trivial)⟩⟩
theorem roVi {r : Int32} (CF : CallFix p m c cc nL s args Ts own) (hM : Met l y ws rm (RoP D cI cZ cQ (.ref b :: As) wc) (vp_Si (fun r' => r' = r)) 0 0 (fun _ => False)) (cw : CallW R s args own C index y bytes maxL ret ws rm 0 0 n) (hK : EK D cI cZ cQ s) (hP : va_P D vwCl wc H) (hc : vwCl[ci]? = some q) (he : wc[0]? = some (b, .inr (ci, fs))) (hC : q.1 = C) (hn : As.length = n) (hsz : ls.size = nL) (hst : st = As.reverse ++ .ref b :: rest) (hW : (rest.map fun v => v.category).sum ≤ 8) (hdg : decode cc pc = .ok (.invokevirtual index, 3))
    (kk : W p l e R s m args below meth c H locs 0 0 Q (F0 m (pc + 3) ls (.int r :: rest))) : W p l e R s m args below meth c H locs 0 0 Q (F0 m pc ls st) :=
  vp_callSi (W.runV CF hM cw (roPreV hK hP hc he hC) rfl hn hsz hst (lv_room hW) hdg ⟨Nat.zero_le _, Nat.zero_le _⟩) (fun _ e => by subst e; exact kk)
theorem roVl {r : Int64} (CF : CallFix p m c cc nL s args Ts own) (hM : Met l y ws rm (RoP D cI cZ cQ (.ref b :: As) wc) (vp_Sl (fun r' => r' = r)) 0 0 (fun _ => False)) (cw : CallW R s args own C index y bytes maxL ret ws rm 0 0 n) (hK : EK D cI cZ cQ s) (hP : va_P D vwCl wc H) (hc : vwCl[ci]? = some q) (he : wc[0]? = some (b, .inr (ci, fs))) (hC : q.1 = C) (hn : As.length = n) (hsz : ls.size = nL) (hst : st = As.reverse ++ .ref b :: rest) (hW : (rest.map fun v => v.category).sum ≤ 8) (hdg : decode cc pc = .ok (.invokevirtual index, 3))
    (kk : W p l e R s m args below meth c H locs 0 0 Q (F0 m (pc + 3) ls (.long r :: rest))) : W p l e R s m args below meth c H locs 0 0 Q (F0 m pc ls st) :=
  vp_callSl (W.runV CF hM cw (roPreV hK hP hc he hC) rfl hn hsz hst (lv_room hW) hdg ⟨Nat.zero_le _, Nat.zero_le _⟩) (fun _ e => by subst e; exact kk)
theorem roSi {r : Int32} (CF : CallFix p m c cc nL s args Ts own) (hM : Met l y ws rm (RoP D cI cZ cQ As wc) (vp_Si (fun r' => r' = r)) 0 0 (fun _ => False)) (cw : CallB R s args own index y bytes maxL ret ws rm 0 0 n ∧ (Cond.static y).before args s = true) (hK : EK D cI cZ cQ s) (hP : va_P D vwCl wc H) (hn : As.length = n) (hsz : ls.size = nL) (hst : st = As.reverse ++ rest) (hW : (rest.map fun v => v.category).sum ≤ 8) (hdg : decode cc pc = .ok (.invokestatic index, 3))
    (kk : W p l e R s m args below meth c H locs 0 0 Q (F0 m (pc + 3) ls (.int r :: rest))) : W p l e R s m args below meth c H locs 0 0 Q (F0 m pc ls st) :=
  vp_callSi (W.runS CF hM cw (roPreS hK hP) rfl hn hsz hst (lv_room hW) hdg ⟨Nat.zero_le _, Nat.zero_le _⟩) (fun _ e => by subst e; exact kk)
theorem roSl {r : Int64} (CF : CallFix p m c cc nL s args Ts own) (hM : Met l y ws rm (RoP D cI cZ cQ As wc) (vp_Sl (fun r' => r' = r)) 0 0 (fun _ => False)) (cw : CallB R s args own index y bytes maxL ret ws rm 0 0 n ∧ (Cond.static y).before args s = true) (hK : EK D cI cZ cQ s) (hP : va_P D vwCl wc H) (hn : As.length = n) (hsz : ls.size = nL) (hst : st = As.reverse ++ rest) (hW : (rest.map fun v => v.category).sum ≤ 8) (hdg : decode cc pc = .ok (.invokestatic index, 3))
    (kk : W p l e R s m args below meth c H locs 0 0 Q (F0 m (pc + 3) ls (.long r :: rest))) : W p l e R s m args below meth c H locs 0 0 Q (F0 m pc ls st) :=
  vp_callSl (W.runS CF hM cw (roPreS hK hP) rfl hn hsz hst (lv_room hW) hdg ⟨Nat.zero_le _, Nat.zero_le _⟩) (fun _ e => by subst e; exact kk)
theorem roNi {r : Int32} (CF : CallFix p m c cc nL s args Ts own) (hM : Met l y ws rm (RoP D cI cZ cQ As wc) (vp_Si (fun r' => r' = r)) 0 0 (fun _ => False)) (cw : va_CN R s args own index y host bytes maxL ret ws rm 0 0 n) (hstt : (Cond.static y).before args s = true) (hK : EK D cI cZ cQ s) (hP : va_P D vwCl wc H) (hn : As.length = n) (hsz : ls.size = nL) (hst : st = As.reverse ++ rest) (hW : (rest.map fun v => v.category).sum ≤ 8) (hdg : decode cc pc = .ok (.invokestatic index, 3))
    (kk : W p l e R s m args below meth c H locs 0 0 Q (F0 m (pc + 3) ls (.int r :: rest))) : W p l e R s m args below meth c H locs 0 0 Q (F0 m pc ls st) :=
  vp_callSi (va_runSN CF hM ⟨cw, hstt, trivial⟩ (roPreS hK hP) rfl hn hsz hst (lv_room hW) hdg ⟨Nat.zero_le _, Nat.zero_le _⟩).run (fun _ e => by subst e; exact kk)
theorem wrVi {r : Int32} (CF : CallFix p m c cc nL s args Ts own) (hM : Met l y ws rm (WrP D cI cZ cQ (.ref b :: As) wc H.size) (WrQi D r wc w1 H.size) 0 0 (va_A wc H.size)) (cw : CallW R s args own C index y bytes maxL ret ws rm 0 0 n) (hK : EK D cI cZ cQ s) (hP : va_P D vwCl wB H) (hD : va_D A wB) (hS : va_S A H0 H locs) (hA : ∀ q : Nat, H0.size ≤ q → A q) (is : List Nat) (hIs : is.map (fun i => wB[i]?) = wc.map some) (hnd : va_nd is = true) (hlen : is.length = w1.length) (hput : putAt wB is w1 = wB') (had : wB'.map Prod.fst = wB.map Prod.fst) (hc : vwCl[ci]? = some q) (he : wc[0]? = some (b, .inr (ci, fs))) (hC : q.1 = C) (hn : As.length = n) (hsz : ls.size = nL) (hst : st = As.reverse ++ .ref b :: rest) (hW : (rest.map fun v => v.category).sum ≤ 8) (hdg : decode cc pc = .ok (.invokevirtual index, 3))
    (kk : ∀ (H1 : Heap) (locs1 : List Loc), va_P D vwCl wB' H1 → va_D A wB' → va_S A H0 H1 locs1 → W p l e R s m args below meth c H1 locs1 0 0 Q (F0 m (pc + 3) ls (.int r :: rest))) : W p l e R s m args below meth c H locs 0 0 Q (F0 m pc ls st) := by
  have hF := va_free (wc := wc) hD hS hA is hIs
  refine va_calli (va_runV CF hM cw (wrPreV hK (va_P_sub' hP is hIs) (hD.sub is hnd hIs) hc he hC) rfl hn hsz hst (lv_room hW) hdg ⟨Nat.zero_le _, Nat.zero_le _⟩) hS (fun q _ h => hF q h) hF (fun r' u t H1 locs1 ht hvm hw hB hz1 hk1 hS1 => ?_)
  subst hw
  rw [ht] at hB
  obtain ⟨hP', hD'⟩ := zjoin hP hD is hIs hlen hput had hk1 hB
  exact kk H1 locs1 hP' hD' hS1
theorem wrVl {r : Int64} (CF : CallFix p m c cc nL s args Ts own) (hM : Met l y ws rm (WrP D cI cZ cQ (.ref b :: As) wc H.size) (WrQl D r wc w1 H.size) 0 0 (va_A wc H.size)) (cw : CallW R s args own C index y bytes maxL ret ws rm 0 0 n) (hK : EK D cI cZ cQ s) (hP : va_P D vwCl wB H) (hD : va_D A wB) (hS : va_S A H0 H locs) (hA : ∀ q : Nat, H0.size ≤ q → A q) (is : List Nat) (hIs : is.map (fun i => wB[i]?) = wc.map some) (hnd : va_nd is = true) (hlen : is.length = w1.length) (hput : putAt wB is w1 = wB') (had : wB'.map Prod.fst = wB.map Prod.fst) (hc : vwCl[ci]? = some q) (he : wc[0]? = some (b, .inr (ci, fs))) (hC : q.1 = C) (hn : As.length = n) (hsz : ls.size = nL) (hst : st = As.reverse ++ .ref b :: rest) (hW : (rest.map fun v => v.category).sum ≤ 8) (hdg : decode cc pc = .ok (.invokevirtual index, 3))
    (kk : ∀ (H1 : Heap) (locs1 : List Loc), va_P D vwCl wB' H1 → va_D A wB' → va_S A H0 H1 locs1 → W p l e R s m args below meth c H1 locs1 0 0 Q (F0 m (pc + 3) ls (.long r :: rest))) : W p l e R s m args below meth c H locs 0 0 Q (F0 m pc ls st) := by
  have hF := va_free (wc := wc) hD hS hA is hIs
  refine va_calll (va_runV CF hM cw (wrPreV hK (va_P_sub' hP is hIs) (hD.sub is hnd hIs) hc he hC) rfl hn hsz hst (lv_room hW) hdg ⟨Nat.zero_le _, Nat.zero_le _⟩) hS (fun q _ h => hF q h) hF (fun r' u t H1 locs1 ht hvm hw hB hz1 hk1 hS1 => ?_)
  subst hw
  rw [ht] at hB
  obtain ⟨hP', hD'⟩ := zjoin hP hD is hIs hlen hput had hk1 hB
  exact kk H1 locs1 hP' hD' hS1
theorem wrVv (CF : CallFix p m c cc nL s args Ts own) (hM : Met l y ws rm (WrP D cI cZ cQ (.ref b :: As) wc H.size) (WrQv D wc w1 H.size) 0 0 (va_A wc H.size)) (cw : CallW R s args own C index y bytes maxL ret ws rm 0 0 n) (hK : EK D cI cZ cQ s) (hP : va_P D vwCl wB H) (hD : va_D A wB) (hS : va_S A H0 H locs) (hA : ∀ q : Nat, H0.size ≤ q → A q) (is : List Nat) (hIs : is.map (fun i => wB[i]?) = wc.map some) (hnd : va_nd is = true) (hlen : is.length = w1.length) (hput : putAt wB is w1 = wB') (had : wB'.map Prod.fst = wB.map Prod.fst) (hc : vwCl[ci]? = some q) (he : wc[0]? = some (b, .inr (ci, fs))) (hC : q.1 = C) (hn : As.length = n) (hsz : ls.size = nL) (hst : st = As.reverse ++ .ref b :: rest) (hW : (rest.map fun v => v.category).sum ≤ 8) (hdg : decode cc pc = .ok (.invokevirtual index, 3))
    (kk : ∀ (H1 : Heap) (locs1 : List Loc), va_P D vwCl wB' H1 → va_D A wB' → va_S A H0 H1 locs1 → W p l e R s m args below meth c H1 locs1 0 0 Q (F0 m (pc + 3) ls rest)) : W p l e R s m args below meth c H locs 0 0 Q (F0 m pc ls st) := by
  have hF := va_free (wc := wc) hD hS hA is hIs
  refine va_callv (va_runV CF hM cw (wrPreV hK (va_P_sub' hP is hIs) (hD.sub is hnd hIs) hc he hC) rfl hn hsz hst (lv_room hW) hdg ⟨Nat.zero_le _, Nat.zero_le _⟩) hS (fun q _ h => hF q h) hF (fun u t H1 locs1 ht hvm hw hB hz1 hk1 hS1 => ?_)
  rw [ht] at hB
  obtain ⟨hP', hD'⟩ := zjoin hP hD is hIs hlen hput had hk1 hB
  exact kk H1 locs1 hP' hD' hS1
theorem wrSv (CF : CallFix p m c cc nL s args Ts own) (hM : Met l y ws rm (WrP D cI cZ cQ As wc H.size) (WrQv D wc w1 H.size) 0 0 (va_A wc H.size)) (cw : CallB R s args own index y bytes maxL ret ws rm 0 0 n ∧ (Cond.static y).before args s = true) (hK : EK D cI cZ cQ s) (hP : va_P D vwCl wB H) (hD : va_D A wB) (hS : va_S A H0 H locs) (hA : ∀ q : Nat, H0.size ≤ q → A q) (is : List Nat) (hIs : is.map (fun i => wB[i]?) = wc.map some) (hnd : va_nd is = true) (hlen : is.length = w1.length) (hput : putAt wB is w1 = wB') (had : wB'.map Prod.fst = wB.map Prod.fst) (hn : As.length = n) (hsz : ls.size = nL) (hst : st = As.reverse ++ rest) (hW : (rest.map fun v => v.category).sum ≤ 8) (hdg : decode cc pc = .ok (.invokestatic index, 3))
    (kk : ∀ (H1 : Heap) (locs1 : List Loc), va_P D vwCl wB' H1 → va_D A wB' → va_S A H0 H1 locs1 → W p l e R s m args below meth c H1 locs1 0 0 Q (F0 m (pc + 3) ls rest)) : W p l e R s m args below meth c H locs 0 0 Q (F0 m pc ls st) := by
  have hF := va_free (wc := wc) hD hS hA is hIs
  refine va_callv (va_runS CF hM cw (wrPreS hK (va_P_sub' hP is hIs) (hD.sub is hnd hIs)) rfl hn hsz hst (lv_room hW) hdg ⟨Nat.zero_le _, Nat.zero_le _⟩) hS (fun q _ h => hF q h) hF (fun u t H1 locs1 ht hvm hw hB hz1 hk1 hS1 => ?_)
  rw [ht] at hB
  obtain ⟨hP', hD'⟩ := zjoin hP hD is hIs hlen hput had hk1 hB
  exact kk H1 locs1 hP' hD' hS1
theorem wsVi {r : Int32} (CF : CallFix p m c cc nL s args Ts own) (hM : Met l y ws rm (WrP D cI cZ cQ (.ref b :: As) wB H.size) (WrQi D r wB w1 H.size) 0 0 (va_A wB H.size)) (cw : CallW R s args own C index y bytes maxL ret ws rm 0 0 n) (hK : EK D cI cZ cQ s) (hP : va_P D vwCl wB H) (hD : va_D A wB) (hS : va_S A H0 H locs) (hA : ∀ q : Nat, H0.size ≤ q → A q) (had : w1.map Prod.fst = wB.map Prod.fst) (hc : vwCl[ci]? = some q) (he : wB[0]? = some (b, .inr (ci, fs))) (hC : q.1 = C) (hn : As.length = n) (hsz : ls.size = nL) (hst : st = As.reverse ++ .ref b :: rest) (hW : (rest.map fun v => v.category).sum ≤ 8) (hdg : decode cc pc = .ok (.invokevirtual index, 3))
    (kk : ∀ (H1 : Heap) (locs1 : List Loc), va_P D vwCl w1 H1 → va_D A w1 → va_S A H0 H1 locs1 → W p l e R s m args below meth c H1 locs1 0 0 Q (F0 m (pc + 3) ls (.int r :: rest))) : W p l e R s m args below meth c H locs 0 0 Q (F0 m pc ls st) := by
  have hF : ∀ q, va_A wB H.size q → A q := by
    intro q h
    rcases h with ⟨k, e, h⟩ | h
    · exact hD.2 k (q, e) h
    · exact hA q (Nat.le_trans hS.1 h)
  refine va_calli (va_runV CF hM cw (wrPreV hK hP hD hc he hC) rfl hn hsz hst (lv_room hW) hdg ⟨Nat.zero_le _, Nat.zero_le _⟩) hS (fun q _ h => hF q h) hF (fun r' u t H1 locs1 ht hvm hw hB hz1 hk1 hS1 => ?_)
  subst hw
  rw [ht] at hB
  exact kk H1 locs1 hB (va_D_addr had hD) hS1
theorem wsVl {r : Int64} (CF : CallFix p m c cc nL s args Ts own) (hM : Met l y ws rm (WrP D cI cZ cQ (.ref b :: As) wB H.size) (WrQl D r wB w1 H.size) 0 0 (va_A wB H.size)) (cw : CallW R s args own C index y bytes maxL ret ws rm 0 0 n) (hK : EK D cI cZ cQ s) (hP : va_P D vwCl wB H) (hD : va_D A wB) (hS : va_S A H0 H locs) (hA : ∀ q : Nat, H0.size ≤ q → A q) (had : w1.map Prod.fst = wB.map Prod.fst) (hc : vwCl[ci]? = some q) (he : wB[0]? = some (b, .inr (ci, fs))) (hC : q.1 = C) (hn : As.length = n) (hsz : ls.size = nL) (hst : st = As.reverse ++ .ref b :: rest) (hW : (rest.map fun v => v.category).sum ≤ 8) (hdg : decode cc pc = .ok (.invokevirtual index, 3))
    (kk : ∀ (H1 : Heap) (locs1 : List Loc), va_P D vwCl w1 H1 → va_D A w1 → va_S A H0 H1 locs1 → W p l e R s m args below meth c H1 locs1 0 0 Q (F0 m (pc + 3) ls (.long r :: rest))) : W p l e R s m args below meth c H locs 0 0 Q (F0 m pc ls st) := by
  have hF : ∀ q, va_A wB H.size q → A q := by
    intro q h
    rcases h with ⟨k, e, h⟩ | h
    · exact hD.2 k (q, e) h
    · exact hA q (Nat.le_trans hS.1 h)
  refine va_calll (va_runV CF hM cw (wrPreV hK hP hD hc he hC) rfl hn hsz hst (lv_room hW) hdg ⟨Nat.zero_le _, Nat.zero_le _⟩) hS (fun q _ h => hF q h) hF (fun r' u t H1 locs1 ht hvm hw hB hz1 hk1 hS1 => ?_)
  subst hw
  rw [ht] at hB
  exact kk H1 locs1 hB (va_D_addr had hD) hS1
theorem wsVv (CF : CallFix p m c cc nL s args Ts own) (hM : Met l y ws rm (WrP D cI cZ cQ (.ref b :: As) wB H.size) (WrQv D wB w1 H.size) 0 0 (va_A wB H.size)) (cw : CallW R s args own C index y bytes maxL ret ws rm 0 0 n) (hK : EK D cI cZ cQ s) (hP : va_P D vwCl wB H) (hD : va_D A wB) (hS : va_S A H0 H locs) (hA : ∀ q : Nat, H0.size ≤ q → A q) (had : w1.map Prod.fst = wB.map Prod.fst) (hc : vwCl[ci]? = some q) (he : wB[0]? = some (b, .inr (ci, fs))) (hC : q.1 = C) (hn : As.length = n) (hsz : ls.size = nL) (hst : st = As.reverse ++ .ref b :: rest) (hW : (rest.map fun v => v.category).sum ≤ 8) (hdg : decode cc pc = .ok (.invokevirtual index, 3))
    (kk : ∀ (H1 : Heap) (locs1 : List Loc), va_P D vwCl w1 H1 → va_D A w1 → va_S A H0 H1 locs1 → W p l e R s m args below meth c H1 locs1 0 0 Q (F0 m (pc + 3) ls rest)) : W p l e R s m args below meth c H locs 0 0 Q (F0 m pc ls st) := by
  have hF : ∀ q, va_A wB H.size q → A q := by
    intro q h
    rcases h with ⟨k, e, h⟩ | h
    · exact hD.2 k (q, e) h
    · exact hA q (Nat.le_trans hS.1 h)
  refine va_callv (va_runV CF hM cw (wrPreV hK hP hD hc he hC) rfl hn hsz hst (lv_room hW) hdg ⟨Nat.zero_le _, Nat.zero_le _⟩) hS (fun q _ h => hF q h) hF (fun u t H1 locs1 ht hvm hw hB hz1 hk1 hS1 => ?_)
  rw [ht] at hB
  exact kk H1 locs1 hB (va_D_addr had hD) hS1
end CALLS
theorem P0 {D : va_G} {cl : List vw_C} {H : Heap} : va_P D cl [] H := fun k q h => by simp at h
def wK {ρ : Type} (κ : Unit → Option ρ) (b : (Unit → Option ρ) → Option ρ) : Option ρ := b κ
theorem wK_e {ρ : Type} {κ : Unit → Option ρ} {b : (Unit → Option ρ) → Option ρ} {r : ρ} {P : Prop} (X : Prop) (hf : wK κ b = some r) (hx : κ () = some r → X) (hb : ∀ κ' : Unit → Option ρ, (κ' () = some r → X) → b κ' = some r → P) : P := hb κ hx hf
