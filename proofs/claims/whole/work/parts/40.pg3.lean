/-! how far: the class measures -/
def cM (v : Vw) (t p q : Nat) (a b : Nat) : Nat := if adj v t a b then p else if a ≠ b ∧ v 3 (he (v 0 0) a b) ≠ 0 then q else 1000
theorem adj_sym (v : Vw) (t a b : Nat) : adj v t a b = adj v t b a := by
  unfold adj; rw [he_sym (v 0 0) a b]
  by_cases c : a = b
  · subst c; rfl
  · have c' : ¬ b = a := fun e => c e.symm
    simp [c, c']
theorem cM_sym (v : Vw) (t p q a b : Nat) : cM v t p q a b = cM v t p q b a := by
  unfold cM; rw [adj_sym, he_sym (v 0 0) a b]
  by_cases c : a = b
  · subst c; rfl
  · have c' : ¬ b = a := fun e => c e.symm
    simp [c, c']
theorem cM_co (v : Vw) {t p q : Nat} (n : Nat) (hp : p ≤ 1) (hq : q ≤ 1 ∨ 1000 ≤ q) : Co (cM v t p q) n := by
  intro a _ b _
  unfold cM
  by_cases c : adj v t a b = true
  · rw [if_pos c]; exact Or.inl hp
  · rw [if_neg c]
    by_cases c2 : a ≠ b ∧ v 3 (he (v 0 0) a b) ≠ 0
    · rw [if_pos c2]; exact hq
    · rw [if_neg c2]; right; omega
def DV (n : Nat) (f : Nat → Int32) (d : Nat → Nat) : Prop := ∀ x, x < n → f x = nI (d x) ∧ d x ≤ 1000
theorem DV.same {n : Nat} {f : Nat → Int32} {d e : Nat → Nat} (h : DV n f d) (he : ∀ x, x < n → e x = d x) : DV n f e := fun x hx => by rw [he x hx]; exact h x hx
/-- where the step changes nothing within n, it may be left out of what follows -/
theorem st_id {c : Nat → Nat → Nat} {d : Nat → Nat} {a b : Nat} (h : d a ≤ d b + c a b) : st c d (a, b) = d := by
  funext x; unfold st
  by_cases q : x = a
  · subst q; simp only [if_true]; exact Nat.min_eq_left h
  · simp only [q, if_false]
theorem mes65 {ρ : Type} {L : Bk} {v : Vw} (hL : LandV L v) (hR : Rng v) {t a p q : Nat} {P Q : Int32} (hP : P = nI p) (hQ : Q = nI q) (hq : q ≤ 1000) (hp : p ≤ 1000) (ht : t < 10) (ha : a < v 0 0) {d : Nat → Nat} (hd : DV (v 0 0) (L 7) d) (kx : Int32 → Bk → Option ρ) : ∃ L', fu2 (FX0_measureTo_65 (nI t) P Q (nI a) kx) 100 0 L = kx (nI (v 0 0)) L' ∧ (∀ i, i ≠ 7 → L' i = L i) ∧ DV (v 0 0) (L' 7) (ps (cM v t p q) (rwL a (v 0 0) 0) d) := by
  have h0 := hR.1
  have h3 := hN_le _ hR.1
  refine fx2 (fun o => ∃ L' : Bk, o = kx (nI (v 0 0)) L' ∧ (∀ i, i ≠ 7 → L' i = L i) ∧ DV (v 0 0) (L' 7) (ps (cM v t p q) (rwL a (v 0 0) 0) d)) (fun (x : Int32) (B : Bk) m => ∃ j e, j ≤ v 0 0 ∧ x = nI j ∧ m = v 0 0 - j ∧ (∀ i, i ≠ 7 → B i = L i) ∧ DV (v 0 0) (B 7) e ∧ ps (cM v t p q) (rwL a (v 0 0 - j) j) e = ps (cM v t p q) (rwL a (v 0 0) 0) d) ?_ 100 0 L (v 0 0) ⟨0, d, by omega, rfl, by omega, fun _ _ => rfl, hd, rfl⟩ (by omega)
  rintro self x B m ⟨j, e, hj, rfl, hm, hBo, hB, hps⟩ ih
  have hLB : LandV B v := hL.fr (hBo 0 (by decide)) (hBo 1 (by decide)) (hBo 3 (by decide)) (hBo 4 (by decide)) (hBo 5 (by decide)) (hBo 6 (by decide))
  unfold FX0_measureTo_65
  rw [hLB.1]
  by_cases c : v 0 0 ≤ j
  · rw [if_pos ((le' (by omega) (by omega)).mpr c)]
    have ej : j = v 0 0 := by omega
    rw [ej, Nat.sub_self] at hps
    exact ⟨B, by rw [ej], hBo, by rw [← hps]; exact hB⟩
  · rw [if_neg (by rw [le' (by omega) (by omega)]; exact c)]
    have hj2 : j < v 0 0 := by omega
    have fin : ∀ B' : Bk, (∀ i, i ≠ 7 → B' i = B i) → DV (v 0 0) (B' 7) (st (cM v t p q) e (a, j)) → ∃ L' : Bk, self (nI j + 1) B' = kx (nI (v 0 0)) L' ∧ (∀ i, i ≠ 7 → L' i = L i) ∧ DV (v 0 0) (L' 7) (ps (cM v t p q) (rwL a (v 0 0) 0) d) := by
      intro B' h1 h2
      refine ih _ _ (m - 1) (by omega) ⟨j + 1, _, by omega, nI_1 j, by omega, fun i hi => (h1 i hi).trans (hBo i hi), h2, ?_⟩
      rw [← hps, show v 0 0 - j = (v 0 0 - (j + 1)) + 1 by omega]; rfl
    by_cases caj : a = j
    · rw [if_pos (show nI a = nI j by rw [caj])]
      simp only [Option.bind_some]
      refine fin B (fun _ _ => rfl) ?_
      rw [st_id (by rw [caj]; omega)]; exact hB
    · have c' : ¬ nI a = nI j := by rw [eq' (by omega) (by omega)]; exact caj
      have h2 := he_lt _ hR.1 a ha j hj2 caj
      have hw := hR.2.2.1 _ h2
      have z1 : (nI (v 3 (he (v 0 0) a j)) ≤ 0) ↔ v 3 (he (v 0 0) a j) = 0 := (le' (b := 0) (by omega) (by omega)).trans (by omega)
      rw [if_neg c', hedgeX hLB hR ha hj2 caj]
      simp only [Option.bind_some, gIn (show he (v 0 0) a j < 10 by omega) (show 10 < 1000000 by omega), cl (show he (v 0 0) a j < 1000000 by omega), hLB.2.2.1 _ h2, z1]
      by_cases cw : v 3 (he (v 0 0) a j) = 0
      · simp only [cw, if_true, Option.bind_some]
        refine fin B (fun _ _ => rfl) ?_
        have ec : cM v t p q a j = 1000 := by unfold cM adj fitB; simp [cw]
        rw [st_id (by rw [ec]; have := (hB a ha).2; omega)]; exact hB
      · simp only [cw, if_false, letsX hLB hR ha hj2 ht, Option.bind_some, b2i_0, gIn (show a < 5 by omega) (show 5 < 1000000 by omega), gIn (show j < 5 by omega) (show 5 < 1000000 by omega), cl (show a < 1000000 by omega), cl (show j < 1000000 by omega), (hB a ha).1, (hB j hj2).1]
        have ea := (hB a ha).2
        have eb := (hB j hj2).2
        have up : ∀ z, z ≤ 1000 → cM v t p q a j = z → ∃ L' : Bk, self (nI j + 1) (sB B 7 a (if nI (e j) + nI z < nI (e a) then nI (e j) + nI z else nI (e a))) = kx (nI (v 0 0)) L' ∧ (∀ i, i ≠ 7 → L' i = L i) ∧ DV (v 0 0) (L' 7) (ps (cM v t p q) (rwL a (v 0 0) 0) d) := by
          intro z hz ez
          refine fin _ (fun i hi => sB_ne _ _ _ hi) ?_
          intro x hx
          rw [sB_row]
          unfold st
          by_cases q1 : x = a
          · simp only [q1, if_true, ez, nI_add]
            by_cases q2 : e j + z < e a
            · rw [if_pos ((lt' (by omega) (by omega)).mpr q2), Nat.min_eq_right (by omega)]; exact ⟨rfl, by omega⟩
            · rw [if_neg (by rw [lt' (by omega) (by omega)]; exact q2), Nat.min_eq_left (by omega)]; exact ⟨rfl, by omega⟩
          · simp only [q1, if_false]; exact hB x hx
        cases qa : adj v t a j with
        | true =>
          simp only [Bool.true_eq_false, if_false, Option.bind_some, hP]
          exact up p hp (by unfold cM; rw [qa]; rfl)
        | false =>
          simp only [if_true, Option.bind_some, hQ]
          exact up q hq (by unfold cM; rw [qa]; simp [caj, cw])
theorem mes53 {ρ : Type} {L : Bk} {v : Vw} (hL : LandV L v) (hR : Rng v) {t p q : Nat} {P Q : Int32} (hP : P = nI p) (hQ : Q = nI q) (hq : q ≤ 1000) (hp : p ≤ 1000) (ht : t < 10) {d : Nat → Nat} (hd : DV (v 0 0) (L 7) d) (kx : Int32 → Bk → Option ρ) : ∃ L', fu2 (FX0_measureTo_53 (nI t) P Q kx) 100 0 L = kx (nI (v 0 0)) L' ∧ (∀ i, i ≠ 7 → L' i = L i) ∧ DV (v 0 0) (L' 7) (ps (cM v t p q) (alL (v 0 0) (v 0 0) 0) d) := by
  have h0 := hR.1
  refine fx2 (fun o => ∃ L' : Bk, o = kx (nI (v 0 0)) L' ∧ (∀ i, i ≠ 7 → L' i = L i) ∧ DV (v 0 0) (L' 7) (ps (cM v t p q) (alL (v 0 0) (v 0 0) 0) d)) (fun (x : Int32) (B : Bk) m => ∃ j e, j ≤ v 0 0 ∧ x = nI j ∧ m = v 0 0 - j ∧ (∀ i, i ≠ 7 → B i = L i) ∧ DV (v 0 0) (B 7) e ∧ ps (cM v t p q) (alL (v 0 0) (v 0 0 - j) j) e = ps (cM v t p q) (alL (v 0 0) (v 0 0) 0) d) ?_ 100 0 L (v 0 0) ⟨0, d, by omega, rfl, by omega, fun _ _ => rfl, hd, rfl⟩ (by omega)
  rintro self x B m ⟨j, e, hj, rfl, hm, hBo, hB, hps⟩ ih
  have hLB : LandV B v := hL.fr (hBo 0 (by decide)) (hBo 1 (by decide)) (hBo 3 (by decide)) (hBo 4 (by decide)) (hBo 5 (by decide)) (hBo 6 (by decide))
  unfold FX0_measureTo_53
  rw [hLB.1]
  by_cases c : v 0 0 ≤ j
  · rw [if_pos ((le' (by omega) (by omega)).mpr c)]
    have ej : j = v 0 0 := by omega
    rw [ej, Nat.sub_self] at hps
    exact ⟨B, by rw [ej], hBo, by rw [← hps]; exact hB⟩
  · rw [if_neg (by rw [le' (by omega) (by omega)]; exact c)]
    obtain ⟨B', e1, h1, h2⟩ := mes65 hLB hR (a := j) hP hQ hq hp ht (by omega) hB (fun x7_24 L_25 => self (nI j + 1) L_25)
    rw [e1]
    refine ih _ _ (m - 1) (by omega) ⟨j + 1, _, by omega, nI_1 j, by omega, fun i hi => (h1 i hi).trans (hBo i hi), h2, ?_⟩
    rw [← hps, ← ps_app, show v 0 0 - j = (v 0 0 - (j + 1)) + 1 by omega]; rfl
theorem measureX {L : Bk} {v : Vw} (hL : LandV L v) (hR : Rng v) {t p q to : Nat} {P Q : Int32} (hP : P = nI p) (hQ : Q = nI q) (hp : p ≤ 1) (hq : q ≤ 1 ∨ q = 1000) (ht : t < 10) (hto : to < v 0 0) : ∃ L' d, fX0_measureTo L (nI to) (nI t) P Q = some L' ∧ (∀ i, i ≠ 7 → L' i = L i) ∧ DV (v 0 0) (L' 7) d ∧ Ds (cM v t p q) (v 0 0) to d := by
  have h0 := hR.1
  have key : ∃ L', fX0_measureTo L (nI to) (nI t) P Q = some L' ∧ (∀ i, i ≠ 7 → L' i = L i) ∧ DV (v 0 0) (L' 7) (rd (cM v t p q) (alL (v 0 0) (v 0 0) 0) (v 0 0 - 1) (d0 to)) := by
    unfold fX0_measureTo
    refine fx2 (fun o => ∃ L' : Bk, o = some L' ∧ (∀ i, i ≠ 7 → L' i = L i) ∧ DV (v 0 0) (L' 7) (rd (cM v t p q) (alL (v 0 0) (v 0 0) 0) (v 0 0 - 1) (d0 to))) (fun (x : Int32) (B : Bk) m => ∃ j, j ≤ v 0 0 ∧ x = nI j ∧ m = v 0 0 - j ∧ (∀ i, i ≠ 7 → B i = L i) ∧ ∀ y, y < j → B 7 y = nI (d0 to y)) ?_ 100 0 L (v 0 0) ⟨0, by omega, rfl, by omega, fun _ _ => rfl, fun y hy => absurd hy (Nat.not_lt_zero _)⟩ (by omega)
    rintro self x B m ⟨j, hj, rfl, hm, hBo, hB⟩ ih
    have hLB : LandV B v := hL.fr (hBo 0 (by decide)) (hBo 1 (by decide)) (hBo 3 (by decide)) (hBo 4 (by decide)) (hBo 5 (by decide)) (hBo 6 (by decide))
    unfold FX0_measureTo_3
    rw [hLB.1]
    by_cases c : v 0 0 ≤ j
    · rw [if_pos ((le' (by omega) (by omega)).mpr c)]
      have hDV : DV (v 0 0) (B 7) (d0 to) := fun y hy => ⟨hB y (by omega), by unfold d0; by_cases q : y = to <;> simp [q]⟩
      refine fx2 (fun o => ∃ L' : Bk, o = some L' ∧ (∀ i, i ≠ 7 → L' i = L i) ∧ DV (v 0 0) (L' 7) (rd (cM v t p q) (alL (v 0 0) (v 0 0) 0) (v 0 0 - 1) (d0 to))) (fun (x : Int32) (C : Bk) m => ∃ j e, 1 ≤ j ∧ j ≤ v 0 0 ∧ x = nI j ∧ m = v 0 0 - j ∧ (∀ i, i ≠ 7 → C i = L i) ∧ DV (v 0 0) (C 7) e ∧ rd (cM v t p q) (alL (v 0 0) (v 0 0) 0) (v 0 0 - j) e = rd (cM v t p q) (alL (v 0 0) (v 0 0) 0) (v 0 0 - 1) (d0 to)) ?_ 100 1 B (v 0 0 - 1) ⟨1, d0 to, by omega, by omega, rfl, by omega, hBo, hDV, rfl⟩ (by omega)
      rintro self x C m ⟨j, e, hj1, hj, rfl, hm, hCo, hC, hps⟩ ih
      have hLC : LandV C v := hL.fr (hCo 0 (by decide)) (hCo 1 (by decide)) (hCo 3 (by decide)) (hCo 4 (by decide)) (hCo 5 (by decide)) (hCo 6 (by decide))
      unfold FX0_measureTo_41
      rw [hLC.1]
      by_cases c : v 0 0 ≤ j
      · rw [if_pos ((le' (by omega) (by omega)).mpr c)]
        have ej : j = v 0 0 := by omega
        rw [ej, Nat.sub_self] at hps
        exact ⟨C, rfl, hCo, by rw [← hps]; exact hC⟩
      · rw [if_neg (by rw [le' (by omega) (by omega)]; exact c)]
        obtain ⟨C', e1, h1, h2⟩ := mes53 hLC hR hP hQ (show q ≤ 1000 by omega) (show p ≤ 1000 by omega) ht hC (fun x6_19 L_20 => self (nI j + 1) L_20)
        rw [e1]
        refine ih _ _ (m - 1) (by omega) ⟨j + 1, _, by omega, by omega, nI_1 j, by omega, fun i hi => (h1 i hi).trans (hCo i hi), h2, ?_⟩
        rw [← hps, show v 0 0 - j = (v 0 0 - (j + 1)) + 1 by omega]; rfl
    · rw [if_neg (by rw [le' (by omega) (by omega)]; exact c)]
      have ed : ((if nI j = nI to then some 0 else some 1000) : Option Int32) = some (nI (d0 to j)) := by
        unfold d0
        by_cases q : j = to
        · rw [if_pos (by rw [q]), if_pos q]; rfl
        · rw [if_neg (by rw [eq' (by omega) (by omega)]; exact q), if_neg q]; rfl
      rw [ed]
      simp only [Option.bind_some, gIn (show j < 5 by omega) (show 5 < 1000000 by omega), cl (show j < 1000000 by omega)]
      refine ih _ _ (m - 1) (by omega) ⟨j + 1, by omega, nI_1 j, by omega, fun i hi => (sB_ne _ _ _ hi).trans (hBo i hi), fun y hy => ?_⟩
      rw [sB_row]
      by_cases q : y = j
      · rw [if_pos q, q]
      · rw [if_neg q]; exact hB y (by omega)
  obtain ⟨L', e1, e2, e3⟩ := key
  exact ⟨L', _, e1, e2, e3, rd_ds (cM_co v _ hp (by omega)) (alL_al _) hto (by omega)⟩
/-! the reference widens -/
def enc (x : Nat) : Int32 := if x < 1000 then nI x else -9
theorem nI_n9 {x : Nat} (h : x < 1000000) : ¬ nI x = -9 := fun e => nlt0 h (by rw [e]; decide)
theorem enc_9 {x : Nat} : enc x = -9 ↔ 1000 ≤ x := by
  unfold enc
  by_cases q : x < 1000
  · rw [if_pos q]; exact ⟨fun e => absurd e (nI_n9 (by omega)), fun h => by omega⟩
  · rw [if_neg q]; exact ⟨fun _ => by omega, fun _ => rfl⟩
theorem enc_lt {x : Nat} (h : x < 1000) : enc x = nI x := by unfold enc; rw [if_pos h]
/-- numbers as the reference keeps them: 1000 is -9, all others at most K -/
def EV (n : Nat) (f : Nat → Int32) (d : Nat → Nat) (K : Nat) : Prop := ∀ x, x < n → f x = enc (d x) ∧ (d x = 1000 ∨ d x ≤ K)
theorem EV.up {n : Nat} {f : Nat → Int32} {d : Nat → Nat} {K K' : Nat} (h : EV n f d K) (hk : K ≤ K') : EV n f d K' := fun x hx => ⟨(h x hx).1, (h x hx).2.elim Or.inl (fun q => Or.inr (by omega))⟩
theorem wid81 {ρ : Type} {M : Bk} {v : Vw} (hM : ModV M v) (hR : Rng v) {k a K : Nat} (hk : k < v 1 0) (ha : a < v 0 0) (hK : K < 900) {d : Nat → Nat} (hd : EV (v 0 0) (M 24) d K) (kx : Int32 → Bk → Option ρ) : ∃ M', fu2 (FX4_widen_81 (nI k) (nI a) kx) 100 0 M = kx (nI (v 0 0)) M' ∧ (∀ i, i ≠ 24 → M' i = M i) ∧ EV (v 0 0) (M' 24) (ps (cM v (th v k) 0 1) ((rwL a (v 0 0) 0).map tn) d) (K + 5) := by
  have h0 := hR.1
  have h3 := hN_le _ hR.1
  refine fx2 (fun o => ∃ M' : Bk, o = kx (nI (v 0 0)) M' ∧ (∀ i, i ≠ 24 → M' i = M i) ∧ EV (v 0 0) (M' 24) (ps (cM v (th v k) 0 1) ((rwL a (v 0 0) 0).map tn) d) (K + 5)) (fun (x : Int32) (B : Bk) m => ∃ j e, j ≤ v 0 0 ∧ x = nI j ∧ m = v 0 0 - j ∧ (∀ i, i ≠ 24 → B i = M i) ∧ EV (v 0 0) (B 24) e (K + j) ∧ ps (cM v (th v k) 0 1) ((rwL a (v 0 0 - j) j).map tn) e = ps (cM v (th v k) 0 1) ((rwL a (v 0 0) 0).map tn) d) ?_ 100 0 M (v 0 0) ⟨0, d, by omega, rfl, by omega, fun _ _ => rfl, hd, rfl⟩ (by omega)
  rintro self x B m ⟨j, e, hj, rfl, hm, hBo, hB, hps⟩ ih
  have hMB : ModV B v := hM.fr (hBo 5 (by decide)) (hBo 6 (by decide)) (hBo 10 (by decide)) (hBo 11 (by decide)) (hBo 12 (by decide)) (hBo 13 (by decide))
  unfold FX4_widen_81
  rw [hMB.1]
  by_cases c : v 0 0 ≤ j
  · rw [if_pos ((le' (by omega) (by omega)).mpr c)]
    have ej : j = v 0 0 := by omega
    rw [ej, Nat.sub_self] at hps
    exact ⟨B, by rw [ej], hBo, by rw [← hps]; exact hB.up (by omega)⟩
  · rw [if_neg (by rw [le' (by omega) (by omega)]; exact c)]
    have hj2 : j < v 0 0 := by omega
    have fin : ∀ B' : Bk, (∀ i, i ≠ 24 → B' i = B i) → EV (v 0 0) (B' 24) (st (cM v (th v k) 0 1) e (j, a)) (K + (j + 1)) → ∃ M' : Bk, self (nI j + 1) B' = kx (nI (v 0 0)) M' ∧ (∀ i, i ≠ 24 → M' i = M i) ∧ EV (v 0 0) (M' 24) (ps (cM v (th v k) 0 1) ((rwL a (v 0 0) 0).map tn) d) (K + 5) := by
      intro B' h1 h2
      refine ih _ _ (m - 1) (by omega) ⟨j + 1, _, by omega, nI_1 j, by omega, fun i hi => (h1 i hi).trans (hBo i hi), h2, ?_⟩
      rw [← hps, show v 0 0 - j = (v 0 0 - (j + 1)) + 1 by omega]; rfl
    have ea := (hB a ha).2
    have eb := (hB j hj2).2
    by_cases caj : a = j
    · rw [if_pos (show nI a = nI j by rw [caj])]
      simp only [Option.bind_some]
      refine fin B (fun _ _ => rfl) ?_
      rw [st_id (by rw [caj]; omega)]; exact hB.up (by omega)
    · have c' : ¬ nI a = nI j := by rw [eq' (by omega) (by omega)]; exact caj
      have h2 := he_lt _ hR.1 a ha j hj2 caj
      have hw := hR.2.2.1 _ h2
      have z1 : (nI (v 3 (he (v 0 0) a j)) ≤ 0) ↔ v 3 (he (v 0 0) a j) = 0 := (le' (b := 0) (by omega) (by omega)).trans (by omega)
      rw [if_neg c']
      simp only [gIn (show a < 5 by omega) (show 5 < 1000000 by omega), cl (show a < 1000000 by omega), (hB a ha).1, enc_9]
      by_cases c9 : 1000 ≤ e a
      · rw [if_pos c9]
        simp only [Option.bind_some]
        refine fin B (fun _ _ => rfl) ?_
        rw [st_id (by omega)]; exact hB.up (by omega)
      · rw [if_neg c9, hedgeM hMB hR ha hj2 caj]
        simp only [Option.bind_some, gIn (show he (v 0 0) a j < 10 by omega) (show 10 < 1000000 by omega), cl (show he (v 0 0) a j < 1000000 by omega), hMB.2.2.1 _ h2, z1]
        by_cases cw : v 3 (he (v 0 0) a j) = 0
        · simp only [cw, if_true, Option.bind_some]
          refine fin B (fun _ _ => rfl) ?_
          have ec : cM v (th v k) 0 1 j a = 1000 := by rw [cM_sym]; unfold cM adj fitB; simp [cw]
          rw [st_id (by rw [ec]; omega)]; exact hB.up (by omega)
        · simp only [cw, if_false, fitsM hMB hR hk h2, Option.bind_some, b2i_0, gIn (show j < 5 by omega) (show 5 < 1000000 by omega), cl (show j < 1000000 by omega), (hB j hj2).1, enc_9]
          have up : ∀ z, z ≤ 1 → cM v (th v k) 0 1 j a = z → ∀ Z : Int32, Z = nI z → ∃ M' : Bk, ((((if 1000 ≤ e j then some (enc (e a) + Z) else (if enc (e j) ≤ enc (e a) + Z then some (enc (e j)) else some (enc (e a) + Z))) : Option Int32).bind fun v50 => some (sB B 24 j v50)).bind fun v34 => self (nI j + 1) v34) = kx (nI (v 0 0)) M' ∧ (∀ i, i ≠ 24 → M' i = M i) ∧ EV (v 0 0) (M' 24) (ps (cM v (th v k) 0 1) ((rwL a (v 0 0) 0).map tn) d) (K + 5) := by
            intro z hz ez Z hZ
            subst hZ
            have e1 : ((if 1000 ≤ e j then some (enc (e a) + nI z) else (if enc (e j) ≤ enc (e a) + nI z then some (enc (e j)) else some (enc (e a) + nI z))) : Option Int32) = some (enc (min (e j) (e a + z))) := by
              rw [enc_lt (show e a < 1000 by omega), nI_add]
              by_cases q : 1000 ≤ e j
              · rw [if_pos q, Nat.min_eq_right (by omega), enc_lt (by omega)]
              · rw [if_neg q, enc_lt (show e j < 1000 by omega)]
                by_cases q2 : e j ≤ e a + z
                · rw [if_pos ((le' (by omega) (by omega)).mpr q2), Nat.min_eq_left q2, enc_lt (by omega)]
                · rw [if_neg (by rw [le' (by omega) (by omega)]; exact q2), Nat.min_eq_right (by omega), enc_lt (by omega)]
            rw [e1]
            simp only [Option.bind_some]
            refine fin _ (fun i hi => sB_ne _ _ _ hi) ?_
            intro x hx
            rw [sB_row]
            unfold st
            by_cases q1 : x = j
            · simp only [q1, if_true, ez]; exact ⟨trivial, by omega⟩
            · simp only [q1, if_false]; exact (hB.up (show K + j ≤ K + (j + 1) by omega)) x hx
          have eadj : adj v (th v k) a j = fitB (v 3 (he (v 0 0) a j)) (th v k) := by unfold adj; simp [caj]
          cases qa : fitB (v 3 (he (v 0 0) a j)) (th v k) with
          | true =>
            simp only [Bool.true_eq_false, if_false, Option.bind_some]
            exact up 0 (by omega) (by rw [cM_sym]; unfold cM; rw [eadj, qa]; rfl) 0 rfl
          | false =>
            simp only [if_true, Option.bind_some]
            exact up 1 (by omega) (by rw [cM_sym]; unfold cM; rw [eadj, qa]; simp [caj, cw]) 1 rfl
theorem wid69 {ρ : Type} {M : Bk} {v : Vw} (hM : ModV M v) (hR : Rng v) {k K : Nat} (hk : k < v 1 0) (hK : K < 800) {d : Nat → Nat} (hd : EV (v 0 0) (M 24) d K) (kx : Int32 → Bk → Option ρ) : ∃ M', fu2 (FX4_widen_69 (nI k) kx) 100 0 M = kx (nI (v 0 0)) M' ∧ (∀ i, i ≠ 24 → M' i = M i) ∧ EV (v 0 0) (M' 24) (ps (cM v (th v k) 0 1) ((alL (v 0 0) (v 0 0) 0).map tn) d) (K + 25) := by
  have h0 := hR.1
  refine fx2 (fun o => ∃ M' : Bk, o = kx (nI (v 0 0)) M' ∧ (∀ i, i ≠ 24 → M' i = M i) ∧ EV (v 0 0) (M' 24) (ps (cM v (th v k) 0 1) ((alL (v 0 0) (v 0 0) 0).map tn) d) (K + 25)) (fun (x : Int32) (B : Bk) m => ∃ j e, j ≤ v 0 0 ∧ x = nI j ∧ m = v 0 0 - j ∧ (∀ i, i ≠ 24 → B i = M i) ∧ EV (v 0 0) (B 24) e (K + 5 * j) ∧ ps (cM v (th v k) 0 1) ((alL (v 0 0) (v 0 0 - j) j).map tn) e = ps (cM v (th v k) 0 1) ((alL (v 0 0) (v 0 0) 0).map tn) d) ?_ 100 0 M (v 0 0) ⟨0, d, by omega, rfl, by omega, fun _ _ => rfl, hd, rfl⟩ (by omega)
  rintro self x B m ⟨j, e, hj, rfl, hm, hBo, hB, hps⟩ ih
  have hMB : ModV B v := hM.fr (hBo 5 (by decide)) (hBo 6 (by decide)) (hBo 10 (by decide)) (hBo 11 (by decide)) (hBo 12 (by decide)) (hBo 13 (by decide))
  unfold FX4_widen_69
  rw [hMB.1]
  by_cases c : v 0 0 ≤ j
  · rw [if_pos ((le' (by omega) (by omega)).mpr c)]
    have ej : j = v 0 0 := by omega
    rw [ej, Nat.sub_self] at hps
    exact ⟨B, by rw [ej], hBo, by rw [← hps]; exact hB.up (by omega)⟩
  · rw [if_neg (by rw [le' (by omega) (by omega)]; exact c)]
    obtain ⟨B', e1, h1, h2⟩ := wid81 hMB hR (a := j) hk (by omega) (show K + 5 * j < 900 by omega) hB (fun x5_31 M_32 => self (nI j + 1) M_32)
    rw [e1]
    refine ih _ _ (m - 1) (by omega) ⟨j + 1, _, by omega, nI_1 j, by omega, fun i hi => (h1 i hi).trans (hBo i hi), h2.up (by omega), ?_⟩
    rw [← hps, ← ps_app, ← List.map_append, show v 0 0 - j = (v 0 0 - (j + 1)) + 1 by omega]; rfl
theorem widenM {ρ : Type} {M : Bk} {v : Vw} (hM : ModV M v) (hR : Rng v) {k : Nat} (hk : k < v 1 0) (kx : Int32 → Bk → Option ρ) : ∃ M' d, fu2 (FX4_widen_20 (nI k) (fun x3_9 M_10 => (fu2 (FX4_widen_58 (nI k) kx) 100 0 M_10))) 100 0 M = kx (nI (v 0 0)) M' ∧ (∀ i, i ≠ 24 → M' i = M i) ∧ (∀ x, x < v 0 0 → M' 24 x = enc (d x)) ∧ Ds (cM v (th v k) 0 1) (v 0 0) (v 6 k) d := by
  have h0 := hR.1
  have h1 := hR.2.1
  have hP := (hR.2.2.2 k hk).2.2.2
  have key : ∃ M', fu2 (FX4_widen_20 (nI k) (fun x3_9 M_10 => (fu2 (FX4_widen_58 (nI k) kx) 100 0 M_10))) 100 0 M = kx (nI (v 0 0)) M' ∧ (∀ i, i ≠ 24 → M' i = M i) ∧ EV (v 0 0) (M' 24) (rd (cM v (th v k) 0 1) ((alL (v 0 0) (v 0 0) 0).map tn) (v 0 0) (d0 (v 6 k))) 125 := by
    refine fx2 (fun o => ∃ M' : Bk, o = kx (nI (v 0 0)) M' ∧ (∀ i, i ≠ 24 → M' i = M i) ∧ EV (v 0 0) (M' 24) (rd (cM v (th v k) 0 1) ((alL (v 0 0) (v 0 0) 0).map tn) (v 0 0) (d0 (v 6 k))) 125) (fun (x : Int32) (B : Bk) m => ∃ j, j ≤ v 0 0 ∧ x = nI j ∧ m = v 0 0 - j ∧ (∀ i, i ≠ 24 → B i = M i) ∧ ∀ y, y < j → B 24 y = enc (d0 (v 6 k) y)) ?_ 100 0 M (v 0 0) ⟨0, by omega, rfl, by omega, fun _ _ => rfl, fun y hy => absurd hy (Nat.not_lt_zero _)⟩ (by omega)
    rintro self x B m ⟨j, hj, rfl, hm, hBo, hB⟩ ih
    have hMB : ModV B v := hM.fr (hBo 5 (by decide)) (hBo 6 (by decide)) (hBo 10 (by decide)) (hBo 11 (by decide)) (hBo 12 (by decide)) (hBo 13 (by decide))
    unfold FX4_widen_20
    rw [hMB.1]
    by_cases c : v 0 0 ≤ j
    · rw [if_pos ((le' (by omega) (by omega)).mpr c)]
      have hEV : EV (v 0 0) (B 24) (d0 (v 6 k)) 0 := fun y hy => ⟨hB y (by omega), by unfold d0; by_cases q : y = v 6 k <;> simp [q]⟩
      refine fx2 (fun o => ∃ M' : Bk, o = kx (nI (v 0 0)) M' ∧ (∀ i, i ≠ 24 → M' i = M i) ∧ EV (v 0 0) (M' 24) (rd (cM v (th v k) 0 1) ((alL (v 0 0) (v 0 0) 0).map tn) (v 0 0) (d0 (v 6 k))) 125) (fun (x : Int32) (C : Bk) m => ∃ j e, j ≤ v 0 0 ∧ x = nI j ∧ m = v 0 0 - j ∧ (∀ i, i ≠ 24 → C i = M i) ∧ EV (v 0 0) (C 24) e (25 * j) ∧ rd (cM v (th v k) 0 1) ((alL (v 0 0) (v 0 0) 0).map tn) (v 0 0 - j) e = rd (cM v (th v k) 0 1) ((alL (v 0 0) (v 0 0) 0).map tn) (v 0 0) (d0 (v 6 k))) ?_ 100 0 B (v 0 0) ⟨0, d0 (v 6 k), by omega, rfl, by omega, hBo, hEV, rfl⟩ (by omega)
      rintro self x C m ⟨j, e, hj, rfl, hm, hCo, hC, hps⟩ ih
      have hMC : ModV C v := hM.fr (hCo 5 (by decide)) (hCo 6 (by decide)) (hCo 10 (by decide)) (hCo 11 (by decide)) (hCo 12 (by decide)) (hCo 13 (by decide))
      unfold FX4_widen_58
      rw [hMC.1]
      by_cases c : v 0 0 ≤ j
      · rw [if_pos ((le' (by omega) (by omega)).mpr c)]
        have ej : j = v 0 0 := by omega
        rw [ej, Nat.sub_self] at hps
        exact ⟨C, by rw [ej], hCo, by rw [← hps]; exact hC.up (by omega)⟩
      · rw [if_neg (by rw [le' (by omega) (by omega)]; exact c)]
        obtain ⟨C', e1, h1, h2⟩ := wid69 hMC hR hk (show 25 * j < 800 by omega) hC (fun x4_26 M_27 => self (nI j + 1) M_27)
        rw [e1]
        refine ih _ _ (m - 1) (by omega) ⟨j + 1, _, by omega, nI_1 j, by omega, fun i hi => (h1 i hi).trans (hCo i hi), h2.up (by omega), ?_⟩
        rw [← hps, show v 0 0 - j = (v 0 0 - (j + 1)) + 1 by omega]; rfl
    · rw [if_neg (by rw [le' (by omega) (by omega)]; exact c), gIn (show k < 5 by omega) (by omega), cl (show k < 1000000 by omega), (hMB.2.2.2 k hk).2.2]
      have ed : ((if nI j = nI (v 6 k) then some 0 else some (-9)) : Option Int32) = some (enc (d0 (v 6 k) j)) := by
        unfold d0
        by_cases q : j = v 6 k
        · rw [if_pos (by rw [q]), if_pos q]; rfl
        · rw [if_neg (by rw [eq' (by omega) (by omega)]; exact q), if_neg q]; rfl
      rw [ed]
      simp only [Option.bind_some, gIn (show j < 5 by omega) (show 5 < 1000000 by omega), cl (show j < 1000000 by omega)]
      refine ih _ _ (m - 1) (by omega) ⟨j + 1, by omega, nI_1 j, by omega, fun i hi => (sB_ne _ _ _ hi).trans (hBo i hi), fun y hy => ?_⟩
      rw [sB_row]
      by_cases q : y = j
      · rw [if_pos q, q]
      · rw [if_neg q]; exact hB y (by omega)
  obtain ⟨M', e1, e2, e3⟩ := key
  exact ⟨M', _, e1, e2, fun x hx => (e3 x hx).1, rd_ds (cM_co v _ (by omega) (Or.inl (by omega))) (alT_al _) hP (by omega)⟩
theorem relL7 {X : Bk} {Rw : Nat → Bk} {L L' N M M' : Bk} {g : Nat} (h : Rel X Rw L N M) (hL : ∀ i, i ≠ 7 → L' i = L i) (hM : ∀ i, i ≠ g → M' i = M i) (hg : g = 23 ∨ g = 24) : Rel X Rw L' N M' := by
  obtain ⟨v, r, hR, hL0, hM0, hw, hS, hd, hdr, hrow⟩ := h
  have m : ∀ i, i ≠ 23 → i ≠ 24 → M' i = M i := fun i h1 h2 => hM i (by omega)
  refine ⟨v, r, hR, hL0.fr (hL 0 (by decide)) (hL 1 (by decide)) (hL 3 (by decide)) (hL 4 (by decide)) (hL 5 (by decide)) (hL 6 (by decide)), hM0.fr (m 5 (by decide) (by decide)) (m 6 (by decide) (by decide)) (m 10 (by decide) (by decide)) (m 11 (by decide) (by decide)) (m 12 (by decide) (by decide)) (m 13 (by decide) (by decide)), ?_, hS.fr (m 0 (by decide) (by decide)) (m 1 (by decide) (by decide)) (m 7 (by decide) (by decide)) (m 8 (by decide) (by decide)), hd.fr (m 25 (by decide) (by decide)) (m 26 (by decide) (by decide)) (m 27 (by decide) (by decide)) (m 28 (by decide) (by decide)), hdr, fun q hq => (hrow q hq).fr (m 2 (by decide) (by decide)) (m 3 (by decide) (by decide)) (m 4 (by decide) (by decide))⟩
  rw [hL 2 (by decide), m 9 (by decide) (by decide)]; exact hw
theorem sim_widen {X : Bk} {Rw : Nat → Bk} {L N M : Bk} (T : Bk) (h : Rel X Rw L N M) (p0 : Int32) (p1 : Int32) : ∃ (k : Nat) (ox : (Int32 × Bk)) (om : (Int32 × Bk)), k < 4 ∧ fX3_widen L p0 p1 = some ox ∧ fX4_widen M p0 p1 = some om ∧ ox.1 = om.1 ∧ Rel X Rw ox.2 N om.2 := by
  obtain ⟨v, r, hR, hL, hM, hw, hS, hd, hdr, hrow⟩ := id h
  unfold fX3_widen fX4_widen
  rcases goerC hL hM hR p0 with ⟨e1, e2⟩ | ⟨k, hk, rfl, e1, e2⟩
  · rw [e1, e2]; exact ⟨0, _, _, by decide, rfl, rfl, rfl, h⟩
  · rcases fieldC hL hM hR p1 with ⟨e3, e4⟩ | ⟨f, hf, rfl, e3, e4⟩
    · rw [e1, e2, e3, e4]; exact ⟨0, _, _, by decide, rfl, rfl, rfl, h⟩
    · have h0 := hR.1
      have h1 := hR.2.1
      have hP := (hR.2.2.2 k hk).2.2.2
      obtain ⟨L', d, f1, f2, f3, f4⟩ := measureX hL hR (t := th v k) (p := 0) (q := 1) (to := f) (P := 0) (Q := 1) rfl rfl (by omega) (by omega) (th_lt hR hk) hf
      obtain ⟨M', e, g1, g2, g3, g4⟩ := widenM hM hR hk (fun x3_21 M_22 => gI (nI f) 5 <| some (((M_22 24 (nI f).toNatClampNeg), M_22)))
      have es : d (v 6 k) = e f := f4.sym (cM_sym v _ _ _) hf hP g4
      have b1 := (f3 _ hP).2
      have e6 : L' 6 k = nI (v 6 k) := by rw [f2 6 (by decide)]; exact (hL.2.2.2 k hk).2.2
      rw [e1, e2, e3, e4]
      simp only [Option.bind_some, one_ne, if_false, thickX hL hR hk, f1]
      rw [g1]
      simp only [gIn (show k < 5 by omega) (show 5 < 1000000 by omega), cl (show k < 1000000 by omega), e6, gIn (show v 6 k < 5 by omega) (show 5 < 1000000 by omega), cl (show v 6 k < 1000000 by omega), gIn (show f < 5 by omega) (show 5 < 1000000 by omega), cl (show f < 1000000 by omega), (f3 _ hP).1, g3 f hf]
      by_cases q : d (v 6 k) < 1000
      · rw [if_pos (show nI (d (v 6 k)) < 1000 from (lt' (b := 1000) (by omega) (by omega)).mpr q)]
        refine ⟨0, _, _, by decide, rfl, rfl, ?_, relL7 h f2 g2 (Or.inr rfl)⟩
        rw [← es, enc_lt q]
      · rw [if_neg (show ¬ nI (d (v 6 k)) < 1000 by intro z; exact q ((lt' (b := 1000) (by omega) (by omega)).mp z))]
        refine ⟨0, _, _, by decide, rfl, rfl, ?_, relL7 h f2 g2 (Or.inr rfl)⟩
        rw [← es]; exact (enc_9.mpr (by omega)).symm
