/-! who fitted: readings -/
theorem cpyEq (f g : Nat → Int32) {n i : Nat} (h : i < n) : va_cpy f g (0 : Int32).toNatClampNeg (0 : Int32).toNatClampNeg n i = f i := by
  show va_cpy f g 0 0 n i = f i
  unfold va_cpy; rw [if_pos ⟨Nat.zero_le _, by omega⟩]; simp
theorem becomeX {L : Bk} (T : Bk) {v : Vw} (hL : LandV L v) (hR : Rng v) : ∃ T', fX0_become T L = some T' ∧ LandV T' v ∧ T' 2 0 = L 2 0 := by
  have h0 := hN_le _ hR.1
  have h1 := hR.2.1
  unfold fX0_become
  simp only [Option.bind_some]
  refine ⟨_, rfl, ⟨?_, ?_, fun h hh => ?_, fun k hk => ⟨?_, ?_, ?_⟩⟩, ?_⟩
  · exact hL.1
  · exact hL.2.1
  · exact (cpyEq (L 3) _ (n := 10) (by omega)).trans (hL.2.2.1 h hh)
  · exact (cpyEq (L 4) _ (n := 5) (by omega)).trans (hL.2.2.2 k hk).1
  · exact (cpyEq (L 5) _ (n := 5) (by omega)).trans (hL.2.2.2 k hk).2.1
  · exact (cpyEq (L 6) _ (n := 5) (by omega)).trans (hL.2.2.2 k hk).2.2
  · rfl
/-- reading x is so -/
def okR (v r : Vw) (x : Nat) : Bool := decide ((if fitB (v 3 (r 1 x)) (th v (r 0 x)) then 1 else 0) = r 2 x)
def agr (v r : Vw) : Bool := (List.range (r 3 0)).all (okR v r)
theorem agr_all {v r : Vw} (h : ∀ x, x < r 3 0 → okR v r x = true) : agr v r = true := by unfold agr; rw [List.all_eq_true]; intro x hx; exact h x (List.mem_range.mp hx)
theorem agr_not {v r : Vw} {x : Nat} (hx : x < r 3 0) (h : okR v r x = false) : agr v r = false := by
  cases hq : agr v r with
  | false => rfl
  | true => unfold agr at hq; rw [List.all_eq_true] at hq; rw [hq x (List.mem_range.mpr hx)] at h; cases h
theorem b2iR (b : Bool) {n : Nat} (hn : n < 2) : (b2i b = nI n) ↔ decide ((if b then 1 else 0) = n) = true := by
  rcases (show n = 0 ∨ n = 1 by omega) with rfl | rfl <;> cases b <;> decide
theorem agreesX {T N M : Bk} {v r : Vw} (hL : LandV T v) (hR : Rng v) (hd : RdV N M r) (hdr : RdR r v) : fX1_agrees N T = some (b2i (agr v r)) := by
  have h0 := hN_le _ hR.1
  have h1 := hR.2.1
  have hc := hd.1
  unfold fX1_agrees
  refine fx1 (fun o => o = some (b2i (agr v r))) (fun (x : Int32) m => ∃ j, j ≤ r 3 0 ∧ x = nI j ∧ m = r 3 0 - j ∧ ∀ y, y < j → okR v r y = true) ?_ 100 0 (r 3 0) ⟨0, by omega, rfl, rfl, fun y hy => absurd hy (Nat.not_lt_zero _)⟩ (by omega)
  rintro self x m ⟨j, hj, rfl, hm, hok⟩ ih
  unfold FX1_agrees_2
  rw [hd.2.1]
  by_cases c : r 3 0 ≤ j
  · rw [if_pos ((le' (by omega) (by omega)).mpr c)]
    rw [agr_all (fun x hx => hok x (by omega))]; rfl
  · have hj2 : j < r 3 0 := by omega
    obtain ⟨a1, a2, a3⟩ := hdr j hj2
    obtain ⟨b1, -, b2, -, b3, -⟩ := hd.2.2.2 j hj2
    rw [if_neg (by rw [le' (by omega) (by omega)]; exact c), gIn (show j < 8 by omega) (by omega), cl (show j < 1000000 by omega), b1, b2, b3, gIn (show r 1 j < 10 by omega) (by omega), thickX hL hR a1]
    simp only [Option.bind_some, cl (show r 1 j < 1000000 by omega), hL.2.2.1 _ a2, lets_I _ (hR.2.2.1 _ a2) _ (th_lt hR a1), b2iR _ a3]
    cases hq : okR v r j with
    | true => unfold okR at hq; rw [if_pos hq]; exact ih _ (m - 1) (by omega) ⟨j + 1, by omega, nI_1 j, by omega, fun y hy => by
        by_cases c2 : y = j
        · subst c2; unfold okR; exact hq
        · exact hok y (by omega)⟩
    | false => rw [agr_not hj2 hq]; unfold okR at hq; rw [if_neg (by rw [hq]; decide)]; rfl
theorem areSoM {N M0 M : Bk} {v r : Vw} (hM : ModV M v) (hR : Rng v) (hd : RdV N M0 r) (hf : M 25 = M0 25 ∧ M 26 = M0 26 ∧ M 27 = M0 27 ∧ M 28 = M0 28) (hdr : RdR r v) : fX4_areSo M = some (b2i (agr v r)) := by
  have h0 := hN_le _ hR.1
  have h1 := hR.2.1
  have hc := hd.1
  unfold fX4_areSo
  refine fx1 (fun o => o = some (b2i (agr v r))) (fun (x : Int32) m => ∃ j, j ≤ r 3 0 ∧ x = nI j ∧ m = r 3 0 - j ∧ ∀ y, y < j → okR v r y = true) ?_ 100 0 (r 3 0) ⟨0, by omega, rfl, rfl, fun y hy => absurd hy (Nat.not_lt_zero _)⟩ (by omega)
  rintro self x m ⟨j, hj, rfl, hm, hok⟩ ih
  unfold FX4_areSo_2
  rw [hf.1, hf.2.1, hf.2.2.1, hf.2.2.2, hd.2.2.1]
  by_cases c : r 3 0 ≤ j
  · rw [if_pos ((le' (by omega) (by omega)).mpr c)]
    rw [agr_all (fun x hx => hok x (by omega))]; rfl
  · have hj2 : j < r 3 0 := by omega
    obtain ⟨a1, a2, a3⟩ := hdr j hj2
    obtain ⟨-, b1, -, b2, -, b3⟩ := hd.2.2.2 j hj2
    rw [if_neg (by rw [le' (by omega) (by omega)]; exact c), gIn (show j < 8 by omega) (by omega), cl (show j < 1000000 by omega), b1, b2, b3, fitsM hM hR a1 a2]
    have e : ((if b2i (fitB (v 3 (r 1 j)) (th v (r 0 j))) = 0 then some 0 else some 1) : Option Int32) = some (b2i (fitB (v 3 (r 1 j)) (th v (r 0 j)))) := by cases fitB (v 3 (r 1 j)) (th v (r 0 j)) <;> rfl
    simp only [Option.bind_some, e, b2iR _ a3]
    cases hq : okR v r j with
    | true => unfold okR at hq; rw [if_pos hq]; exact ih _ (m - 1) (by omega) ⟨j + 1, by omega, nI_1 j, by omega, fun y hy => by
        by_cases c2 : y = j
        · subst c2; unfold okR; exact hq
        · exact hok y (by omega)⟩
    | false => rw [agr_not hj2 hq]; unfold okR at hq; rw [if_neg (by rw [hq]; decide)]; rfl
def accF (P : Nat → Bool) : Nat → Nat → Int32 → Int32
  | _, 0, a => a
  | j, m + 1, a => accF P (j + 1) m (a ||| (if P j then (1 <<< (nI j &&& 31)) else 0))
theorem accF_step (P : Nat → Bool) {j hi : Nat} (h : j ≤ hi) (a : Int32) : accF P j (hi + 1 - j) a = accF P (j + 1) (hi + 1 - (j + 1)) (a ||| (if P j then (1 <<< (nI j &&& 31)) else 0)) := by
  rw [show hi + 1 - j = (hi + 1 - (j + 1)) + 1 by omega]; rfl
theorem accB (b : Bool) (x : Int32) : ((if b2i b = 0 then some 0 else some x) : Option Int32) = some (if b then x else 0) := by cases b <;> rfl
theorem uV_uV (v : Vw) (f q x y : Nat) : uV (uV v f q x) f q y = uV v f q y := by funext a b; unfold uV; by_cases c : a = f ∧ b = q <;> simp [c]
theorem uV_id (v : Vw) (f q : Nat) : uV v f q (v f q) = v := by
  funext a b; unfold uV
  by_cases c : a = f ∧ b = q
  · rw [if_pos c, c.1, c.2]
  · rw [if_neg c]
theorem girX {T N M : Bk} {v r : Vw} {q : Nat} (hq : q < v 1 0) (hL : LandV T v) (hR : Rng v) (hd : RdV N M r) (hdr : RdR r v) : ∃ T', fu3 (FX3_girths_25 (nI q) N (fun a b c => some (a, c))) 100 0 1 T = some (accF (fun j => agr (uV v 5 q j) r) 1 9 0, T') := by
  have h0 := hN_le _ hR.1
  have h1 := hR.2.1
  refine fx3 (fun o => ∃ T' : Bk, o = some (accF (fun j => agr (uV v 5 q j) r) 1 9 0, T')) (fun (a : Int32) (x : Int32) (B : Bk) m => ∃ j y, 1 ≤ j ∧ j ≤ 10 ∧ x = nI j ∧ m = 10 - j ∧ LandV B (uV v 5 q y) ∧ accF (fun j => agr (uV v 5 q j) r) j (9 + 1 - j) a = accF (fun j => agr (uV v 5 q j) r) 1 9 0) ?_ 100 0 1 T 9 ⟨1, v 5 q, by omega, by omega, rfl, by omega, by rw [uV_id]; exact hL, rfl⟩ (by omega)
  rintro self a x B m ⟨j, y, hlo, hj, rfl, hm, hB, hacc⟩ ih
  unfold FX3_girths_25
  by_cases c : 9 < j
  · rw [if_pos (show (9 : Int32) < nI j from (lt' (a := 9) (by omega) (by omega)).mpr (by omega))]
    have ej : j = 10 := by omega
    subst ej
    exact ⟨B, by rw [← hacc]; rfl⟩
  · rw [if_neg (show ¬ (9 : Int32) < nI j by intro z; have := (lt' (a := 9) (by omega) (by omega)).mp z; omega)]
    have hB2 : LandV (sB B 5 q (nI j)) (uV v 5 q j) := by have := LandV.setG hB (Or.inr (Or.inl rfl)) q j; rw [uV_uV] at this; exact this
    have hR2 : Rng (uV v 5 q j) := hR.setG q (Or.inr (Or.inl ⟨rfl, by omega, by omega⟩))
    have hd2 : RdR r (uV v 5 q j) := hdr.fr (uV_ne _ _ _ _ (by decide)) (uV_ne _ _ _ _ (by decide))
    rw [gIn (show q < 5 by omega) (by omega)]
    simp only [Option.bind_some, cl (show q < 1000000 by omega), agreesX hB2 hR2 hd hd2, accB]
    exact ih _ _ _ (m - 1) (by omega) ⟨j + 1, j, by omega, by omega, nI_1 j, by omega, hB2, by rw [← accF_step _ (by omega)]; exact hacc⟩
theorem girM {N M : Bk} {v r : Vw} {q : Nat} (hq : q < v 1 0) (hM : ModV M v) (hR : Rng v) (hd : RdV N M r) (hdr : RdR r v) : ∃ M', fu3 (FX4_girths_22 (nI q) (fun x3_8 x4_9 M_10 => (some (sB M_10 12 (nI q).toNatClampNeg (M 12 (nI q).toNatClampNeg))).bind fun M_19 => some (x3_8, M_19))) 100 0 1 M = some (accF (fun j => agr (uV v 5 q j) r) 1 9 0, M') ∧ ModV M' v ∧ ∀ i, i ≠ 12 → M' i = M i := by
  have h0 := hN_le _ hR.1
  have h1 := hR.2.1
  refine fx3 (fun o => ∃ M' : Bk, o = some (accF (fun j => agr (uV v 5 q j) r) 1 9 0, M') ∧ ModV M' v ∧ ∀ i, i ≠ 12 → M' i = M i) (fun (a : Int32) (x : Int32) (B : Bk) m => ∃ j y, 1 ≤ j ∧ j ≤ 10 ∧ x = nI j ∧ m = 10 - j ∧ ModV B (uV v 5 q y) ∧ (∀ i, i ≠ 12 → B i = M i) ∧ accF (fun j => agr (uV v 5 q j) r) j (9 + 1 - j) a = accF (fun j => agr (uV v 5 q j) r) 1 9 0) ?_ 100 0 1 M 9 ⟨1, v 5 q, by omega, by omega, rfl, by omega, by rw [uV_id]; exact hM, fun _ _ => rfl, rfl⟩ (by omega)
  rintro self a x B m ⟨j, y, hlo, hj, rfl, hm, hB, hBo, hacc⟩ ih
  unfold FX4_girths_22
  by_cases c : 9 < j
  · rw [if_pos (show (9 : Int32) < nI j from (lt' (a := 9) (by omega) (by omega)).mpr (by omega))]
    have ej : j = 10 := by omega
    subst ej
    have hq : M 12 q = nI (v 5 q) := (hM.2.2.2 q hq).2.1
    simp only [Option.bind_some, cl (show q < 1000000 by omega), hq]
    refine ⟨_, by rw [← hacc]; rfl, ?_, fun i hi => by rw [sB_ne _ _ _ hi]; exact hBo i hi⟩
    have := ModV.setG (f := 5) hB (Or.inr (Or.inl rfl)) q (v 5 q)
    rw [uV_uV, uV_id] at this
    exact this
  · rw [if_neg (show ¬ (9 : Int32) < nI j by intro z; have := (lt' (a := 9) (by omega) (by omega)).mp z; omega)]
    have hB2 : ModV (sB B 12 q (nI j)) (uV v 5 q j) := by have := ModV.setG (f := 5) hB (Or.inr (Or.inl rfl)) q j; rw [uV_uV] at this; exact this
    have hR2 : Rng (uV v 5 q j) := hR.setG q (Or.inr (Or.inl ⟨rfl, by omega, by omega⟩))
    have hd2 : RdR r (uV v 5 q j) := hdr.fr (uV_ne _ _ _ _ (by decide)) (uV_ne _ _ _ _ (by decide))
    have hf : sB B 12 q (nI j) 25 = M 25 ∧ sB B 12 q (nI j) 26 = M 26 ∧ sB B 12 q (nI j) 27 = M 27 ∧ sB B 12 q (nI j) 28 = M 28 := ⟨(sB_ne _ _ _ (by decide)).trans (hBo 25 (by decide)), (sB_ne _ _ _ (by decide)).trans (hBo 26 (by decide)), (sB_ne _ _ _ (by decide)).trans (hBo 27 (by decide)), (sB_ne _ _ _ (by decide)).trans (hBo 28 (by decide))⟩
    simp only [Option.bind_some, cl (show q < 1000000 by omega), areSoM hB2 hR2 hd hf hd2, accB]
    exact ih _ _ _ (m - 1) (by omega) ⟨j + 1, j, by omega, by omega, nI_1 j, by omega, hB2, fun i hi => by rw [sB_ne _ _ _ hi]; exact hBo i hi, by rw [← accF_step _ (by omega)]; exact hacc⟩
theorem kinX {T N M : Bk} {v r : Vw} {q : Nat} (hq : q < v 1 0) (hL : LandV T v) (hR : Rng v) (hd : RdV N M r) (hdr : RdR r v) : ∃ T', fu3 (FX3_kinds_25 (nI q) N (fun a b c => some (a, c))) 100 0 0 T = some (accF (fun j => agr (uV v 4 q j) r) 0 3 0, T') := by
  have h0 := hN_le _ hR.1
  have h1 := hR.2.1
  refine fx3 (fun o => ∃ T' : Bk, o = some (accF (fun j => agr (uV v 4 q j) r) 0 3 0, T')) (fun (a : Int32) (x : Int32) (B : Bk) m => ∃ j y, 0 ≤ j ∧ j ≤ 3 ∧ x = nI j ∧ m = 3 - j ∧ LandV B (uV v 4 q y) ∧ accF (fun j => agr (uV v 4 q j) r) j (2 + 1 - j) a = accF (fun j => agr (uV v 4 q j) r) 0 3 0) ?_ 100 0 0 T 3 ⟨0, v 4 q, by omega, by omega, rfl, by omega, by rw [uV_id]; exact hL, rfl⟩ (by omega)
  rintro self a x B m ⟨j, y, hlo, hj, rfl, hm, hB, hacc⟩ ih
  unfold FX3_kinds_25
  by_cases c : 2 < j
  · rw [if_pos (show (2 : Int32) < nI j from (lt' (a := 2) (by omega) (by omega)).mpr (by omega))]
    have ej : j = 3 := by omega
    subst ej
    exact ⟨B, by rw [← hacc]; rfl⟩
  · rw [if_neg (show ¬ (2 : Int32) < nI j by intro z; have := (lt' (a := 2) (by omega) (by omega)).mp z; omega)]
    have hB2 : LandV (sB B 4 q (nI j)) (uV v 4 q j) := by have := LandV.setG hB (Or.inl rfl) q j; rw [uV_uV] at this; exact this
    have hR2 : Rng (uV v 4 q j) := hR.setG q (Or.inl ⟨rfl, by omega⟩)
    have hd2 : RdR r (uV v 4 q j) := hdr.fr (uV_ne _ _ _ _ (by decide)) (uV_ne _ _ _ _ (by decide))
    rw [gIn (show q < 5 by omega) (by omega)]
    simp only [Option.bind_some, cl (show q < 1000000 by omega), agreesX hB2 hR2 hd hd2, accB]
    exact ih _ _ _ (m - 1) (by omega) ⟨j + 1, j, by omega, by omega, nI_1 j, by omega, hB2, by rw [← accF_step _ (by omega)]; exact hacc⟩
theorem kinM {N M : Bk} {v r : Vw} {q : Nat} (hq : q < v 1 0) (hM : ModV M v) (hR : Rng v) (hd : RdV N M r) (hdr : RdR r v) : ∃ M', fu3 (FX4_kinds_22 (nI q) (fun x3_8 x4_9 M_10 => (some (sB M_10 11 (nI q).toNatClampNeg (M 11 (nI q).toNatClampNeg))).bind fun M_19 => some (x3_8, M_19))) 100 0 0 M = some (accF (fun j => agr (uV v 4 q j) r) 0 3 0, M') ∧ ModV M' v ∧ ∀ i, i ≠ 11 → M' i = M i := by
  have h0 := hN_le _ hR.1
  have h1 := hR.2.1
  refine fx3 (fun o => ∃ M' : Bk, o = some (accF (fun j => agr (uV v 4 q j) r) 0 3 0, M') ∧ ModV M' v ∧ ∀ i, i ≠ 11 → M' i = M i) (fun (a : Int32) (x : Int32) (B : Bk) m => ∃ j y, 0 ≤ j ∧ j ≤ 3 ∧ x = nI j ∧ m = 3 - j ∧ ModV B (uV v 4 q y) ∧ (∀ i, i ≠ 11 → B i = M i) ∧ accF (fun j => agr (uV v 4 q j) r) j (2 + 1 - j) a = accF (fun j => agr (uV v 4 q j) r) 0 3 0) ?_ 100 0 0 M 3 ⟨0, v 4 q, by omega, by omega, rfl, by omega, by rw [uV_id]; exact hM, fun _ _ => rfl, rfl⟩ (by omega)
  rintro self a x B m ⟨j, y, hlo, hj, rfl, hm, hB, hBo, hacc⟩ ih
  unfold FX4_kinds_22
  by_cases c : 2 < j
  · rw [if_pos (show (3 : Int32) ≤ nI j from (le' (a := 3) (by omega) (by omega)).mpr (by omega))]
    have ej : j = 3 := by omega
    subst ej
    have hq : M 11 q = nI (v 4 q) := (hM.2.2.2 q hq).1
    simp only [Option.bind_some, cl (show q < 1000000 by omega), hq]
    refine ⟨_, by rw [← hacc]; rfl, ?_, fun i hi => by rw [sB_ne _ _ _ hi]; exact hBo i hi⟩
    have := ModV.setG (f := 4) hB (Or.inl rfl) q (v 4 q)
    rw [uV_uV, uV_id] at this
    exact this
  · rw [if_neg (show ¬ (3 : Int32) ≤ nI j by intro z; have := (le' (a := 3) (by omega) (by omega)).mp z; omega)]
    have hB2 : ModV (sB B 11 q (nI j)) (uV v 4 q j) := by have := ModV.setG (f := 4) hB (Or.inl rfl) q j; rw [uV_uV] at this; exact this
    have hR2 : Rng (uV v 4 q j) := hR.setG q (Or.inl ⟨rfl, by omega⟩)
    have hd2 : RdR r (uV v 4 q j) := hdr.fr (uV_ne _ _ _ _ (by decide)) (uV_ne _ _ _ _ (by decide))
    have hf : sB B 11 q (nI j) 25 = M 25 ∧ sB B 11 q (nI j) 26 = M 26 ∧ sB B 11 q (nI j) 27 = M 27 ∧ sB B 11 q (nI j) 28 = M 28 := ⟨(sB_ne _ _ _ (by decide)).trans (hBo 25 (by decide)), (sB_ne _ _ _ (by decide)).trans (hBo 26 (by decide)), (sB_ne _ _ _ (by decide)).trans (hBo 27 (by decide)), (sB_ne _ _ _ (by decide)).trans (hBo 28 (by decide))⟩
    simp only [Option.bind_some, cl (show q < 1000000 by omega), areSoM hB2 hR2 hd hf hd2, accB]
    exact ih _ _ _ (m - 1) (by omega) ⟨j + 1, j, by omega, by omega, nI_1 j, by omega, hB2, fun i hi => by rw [sB_ne _ _ _ hi]; exact hBo i hi, by rw [← accF_step _ (by omega)]; exact hacc⟩
theorem holX {T N M : Bk} {v r : Vw} {q : Nat} (hq : q < hN (v 0 0)) (hL : LandV T v) (hR : Rng v) (hd : RdV N M r) (hdr : RdR r v) : ∃ T', fu3 (FX3_holes_38 N (nI q) (fun a b c => some (a, c))) 100 0 0 T = some (accF (fun j => agr (uV v 3 q j) r) 0 10 0, T') := by
  have h0 := hN_le _ hR.1
  have h1 := hR.2.1
  refine fx3 (fun o => ∃ T' : Bk, o = some (accF (fun j => agr (uV v 3 q j) r) 0 10 0, T')) (fun (a : Int32) (x : Int32) (B : Bk) m => ∃ j y, 0 ≤ j ∧ j ≤ 10 ∧ x = nI j ∧ m = 10 - j ∧ LandV B (uV v 3 q y) ∧ accF (fun j => agr (uV v 3 q j) r) j (9 + 1 - j) a = accF (fun j => agr (uV v 3 q j) r) 0 10 0) ?_ 100 0 0 T 10 ⟨0, v 3 q, by omega, by omega, rfl, by omega, by rw [uV_id]; exact hL, rfl⟩ (by omega)
  rintro self a x B m ⟨j, y, hlo, hj, rfl, hm, hB, hacc⟩ ih
  unfold FX3_holes_38
  by_cases c : 9 < j
  · rw [if_pos (show (9 : Int32) < nI j from (lt' (a := 9) (by omega) (by omega)).mpr (by omega))]
    have ej : j = 10 := by omega
    subst ej
    exact ⟨B, by rw [← hacc]; rfl⟩
  · rw [if_neg (show ¬ (9 : Int32) < nI j by intro z; have := (lt' (a := 9) (by omega) (by omega)).mp z; omega)]
    have hB2 : LandV (sB B 3 q (nI j)) (uV v 3 q j) := by have := LandV.setW hB q j; rw [uV_uV] at this; exact this
    have hR2 : Rng (uV v 3 q j) := hR.setW q (by omega)
    have hd2 : RdR r (uV v 3 q j) := hdr.fr (uV_ne _ _ _ _ (by decide)) (uV_ne _ _ _ _ (by decide))
    rw [gIn (show q < 10 by omega) (by omega)]
    simp only [Option.bind_some, cl (show q < 1000000 by omega), agreesX hB2 hR2 hd hd2, accB]
    exact ih _ _ _ (m - 1) (by omega) ⟨j + 1, j, by omega, by omega, nI_1 j, by omega, hB2, by rw [← accF_step _ (by omega)]; exact hacc⟩
theorem holM {N M : Bk} {v r : Vw} {q : Nat} (hq : q < hN (v 0 0)) (hM : ModV M v) (hR : Rng v) (hd : RdV N M r) (hdr : RdR r v) : ∃ M', fu3 (FX4_holes_32 (nI q) (fun x3_8 x4_9 M_10 => (some (sB M_10 10 (nI q).toNatClampNeg (M 10 (nI q).toNatClampNeg))).bind fun M_19 => some (x3_8, M_19))) 100 0 0 M = some (accF (fun j => agr (uV v 3 q j) r) 0 10 0, M') ∧ ModV M' v ∧ ∀ i, i ≠ 10 → M' i = M i := by
  have h0 := hN_le _ hR.1
  have h1 := hR.2.1
  refine fx3 (fun o => ∃ M' : Bk, o = some (accF (fun j => agr (uV v 3 q j) r) 0 10 0, M') ∧ ModV M' v ∧ ∀ i, i ≠ 10 → M' i = M i) (fun (a : Int32) (x : Int32) (B : Bk) m => ∃ j y, 0 ≤ j ∧ j ≤ 10 ∧ x = nI j ∧ m = 10 - j ∧ ModV B (uV v 3 q y) ∧ (∀ i, i ≠ 10 → B i = M i) ∧ accF (fun j => agr (uV v 3 q j) r) j (9 + 1 - j) a = accF (fun j => agr (uV v 3 q j) r) 0 10 0) ?_ 100 0 0 M 10 ⟨0, v 3 q, by omega, by omega, rfl, by omega, by rw [uV_id]; exact hM, fun _ _ => rfl, rfl⟩ (by omega)
  rintro self a x B m ⟨j, y, hlo, hj, rfl, hm, hB, hBo, hacc⟩ ih
  unfold FX4_holes_32
  by_cases c : 9 < j
  · rw [if_pos (show (9 : Int32) < nI j from (lt' (a := 9) (by omega) (by omega)).mpr (by omega))]
    have ej : j = 10 := by omega
    subst ej
    have hq : M 10 q = nI (v 3 q) := hM.2.2.1 q hq
    simp only [Option.bind_some, cl (show q < 1000000 by omega), hq]
    refine ⟨_, by rw [← hacc]; rfl, ?_, fun i hi => by rw [sB_ne _ _ _ hi]; exact hBo i hi⟩
    have := ModV.setW hB q (v 3 q)
    rw [uV_uV, uV_id] at this
    exact this
  · rw [if_neg (show ¬ (9 : Int32) < nI j by intro z; have := (lt' (a := 9) (by omega) (by omega)).mp z; omega)]
    have hB2 : ModV (sB B 10 q (nI j)) (uV v 3 q j) := by have := ModV.setW hB q j; rw [uV_uV] at this; exact this
    have hR2 : Rng (uV v 3 q j) := hR.setW q (by omega)
    have hd2 : RdR r (uV v 3 q j) := hdr.fr (uV_ne _ _ _ _ (by decide)) (uV_ne _ _ _ _ (by decide))
    have hf : sB B 10 q (nI j) 25 = M 25 ∧ sB B 10 q (nI j) 26 = M 26 ∧ sB B 10 q (nI j) 27 = M 27 ∧ sB B 10 q (nI j) 28 = M 28 := ⟨(sB_ne _ _ _ (by decide)).trans (hBo 25 (by decide)), (sB_ne _ _ _ (by decide)).trans (hBo 26 (by decide)), (sB_ne _ _ _ (by decide)).trans (hBo 27 (by decide)), (sB_ne _ _ _ (by decide)).trans (hBo 28 (by decide))⟩
    simp only [Option.bind_some, cl (show q < 1000000 by omega), areSoM hB2 hR2 hd hf hd2, accB]
    exact ih _ _ _ (m - 1) (by omega) ⟨j + 1, j, by omega, by omega, nI_1 j, by omega, hB2, fun i hi => by rw [sB_ne _ _ _ hi]; exact hBo i hi, by rw [← accF_step _ (by omega)]; exact hacc⟩
theorem sim_girths {X : Bk} {Rw : Nat → Bk} {L N M : Bk} (T : Bk) (h : Rel X Rw L N M) (p0 : Int32) : ∃ (k : Nat) (ox : (Int32 × Bk)) (om : (Int32 × Bk)), k < 4 ∧ fX3_girths L T N p0 = some ox ∧ fX4_girths M p0 = some om ∧ ox.1 = om.1 ∧ Rel X Rw L N om.2 := by
  obtain ⟨v, r, hR, hL, hM, hw, hS, hd, hdr, hrow⟩ := id h
  unfold fX3_girths fX4_girths
  rcases goerC hL hM hR p0 with ⟨e1, e2⟩ | ⟨k, hk, rfl, e1, e2⟩
  · rw [e1, e2]; exact ⟨0, _, _, by decide, rfl, rfl, rfl, h⟩
  · have h1 := hR.2.1
    obtain ⟨T1, eb, hT1, -⟩ := becomeX T hL hR
    obtain ⟨T2, ex⟩ := girX (M := M) hk hT1 hR hd hdr
    obtain ⟨M2, em, hM2, hMo⟩ := girM hk hM hR hd hdr
    rw [e1, e2]
    simp only [Option.bind_some, one_ne, if_false, eb, gIn (show k < 5 by omega) (show 5 < 1000000 by omega)]
    simp only [Option.bind_some] at em
    rw [ex, em]
    refine ⟨0, _, _, by decide, rfl, rfl, rfl, v, r, hR, hL, hM2, ?_, hS.fr (hMo 0 (by decide)) (hMo 1 (by decide)) (hMo 7 (by decide)) (hMo 8 (by decide)), hd.fr (hMo 25 (by decide)) (hMo 26 (by decide)) (hMo 27 (by decide)) (hMo 28 (by decide)), hdr, fun q hq => (hrow q hq).fr (hMo 2 (by decide)) (hMo 3 (by decide)) (hMo 4 (by decide))⟩
    show L 2 0 = M2 9 0
    rw [hMo 9 (by decide)]; exact hw
theorem sim_kinds {X : Bk} {Rw : Nat → Bk} {L N M : Bk} (T : Bk) (h : Rel X Rw L N M) (p0 : Int32) : ∃ (k : Nat) (ox : (Int32 × Bk)) (om : (Int32 × Bk)), k < 4 ∧ fX3_kinds L T N p0 = some ox ∧ fX4_kinds M p0 = some om ∧ ox.1 = om.1 ∧ Rel X Rw L N om.2 := by
  obtain ⟨v, r, hR, hL, hM, hw, hS, hd, hdr, hrow⟩ := id h
  unfold fX3_kinds fX4_kinds
  rcases goerC hL hM hR p0 with ⟨e1, e2⟩ | ⟨k, hk, rfl, e1, e2⟩
  · rw [e1, e2]; exact ⟨0, _, _, by decide, rfl, rfl, rfl, h⟩
  · have h1 := hR.2.1
    obtain ⟨T1, eb, hT1, -⟩ := becomeX T hL hR
    obtain ⟨T2, ex⟩ := kinX (M := M) hk hT1 hR hd hdr
    obtain ⟨M2, em, hM2, hMo⟩ := kinM hk hM hR hd hdr
    rw [e1, e2]
    simp only [Option.bind_some, one_ne, if_false, eb, gIn (show k < 5 by omega) (show 5 < 1000000 by omega)]
    simp only [Option.bind_some] at em
    rw [ex, em]
    refine ⟨0, _, _, by decide, rfl, rfl, rfl, v, r, hR, hL, hM2, ?_, hS.fr (hMo 0 (by decide)) (hMo 1 (by decide)) (hMo 7 (by decide)) (hMo 8 (by decide)), hd.fr (hMo 25 (by decide)) (hMo 26 (by decide)) (hMo 27 (by decide)) (hMo 28 (by decide)), hdr, fun q hq => (hrow q hq).fr (hMo 2 (by decide)) (hMo 3 (by decide)) (hMo 4 (by decide))⟩
    show L 2 0 = M2 9 0
    rw [hMo 9 (by decide)]; exact hw
theorem sim_holes {X : Bk} {Rw : Nat → Bk} {L N M : Bk} (T : Bk) (h : Rel X Rw L N M) (p0 : Int32) (p1 : Int32) : ∃ (k : Nat) (ox : (Int32 × Bk)) (om : (Int32 × Bk)), k < 4 ∧ fX3_holes L T N p0 p1 = some ox ∧ fX4_holes M p0 p1 = some om ∧ ox.1 = om.1 ∧ Rel X Rw L N om.2 := by
  obtain ⟨v, r, hR, hL, hM, hw, hS, hd, hdr, hrow⟩ := id h
  unfold fX3_holes fX4_holes
  rcases twoC hL hM hR p0 p1 with ⟨e1, e2⟩ | ⟨a, b, ha, hb, hab, rfl, rfl, e1, e2⟩
  · rw [e1, e2]; exact ⟨0, _, _, by decide, rfl, rfl, rfl, h⟩
  · have h1 := hN_le _ hR.1
    have h2 := he_lt _ hR.1 a ha b hb hab
    obtain ⟨T1, eb, hT1, -⟩ := becomeX T hL hR
    obtain ⟨T2, ex⟩ := holX (M := M) h2 hT1 hR hd hdr
    obtain ⟨M2, em, hM2, hMo⟩ := holM h2 hM hR hd hdr
    rw [e1, e2]
    simp only [Option.bind_some, one_ne, if_false, eb, hedgeX hL hR ha hb hab, hedgeM hM hR ha hb hab, gIn (show he (v 0 0) a b < 10 by omega) (show 10 < 1000000 by omega)]
    simp only [Option.bind_some] at em
    rw [ex, em]
    refine ⟨0, _, _, by decide, rfl, rfl, rfl, v, r, hR, hL, hM2, ?_, hS.fr (hMo 0 (by decide)) (hMo 1 (by decide)) (hMo 7 (by decide)) (hMo 8 (by decide)), hd.fr (hMo 25 (by decide)) (hMo 26 (by decide)) (hMo 27 (by decide)) (hMo 28 (by decide)), hdr, fun q hq => (hrow q hq).fr (hMo 2 (by decide)) (hMo 3 (by decide)) (hMo 4 (by decide))⟩
    show L 2 0 = M2 9 0
    rw [hMo 9 (by decide)]; exact hw
