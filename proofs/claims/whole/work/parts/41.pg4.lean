/-! ways -/
theorem fin_le {c : Nat → Nat → Nat} {n s : Nat} {d : Nat → Nat} (h : Ds c n s d) (hs : s < n) : ∀ x, x < n → d x < 1000 → d x < n := by
  have grow : ∀ j, j + 1 ≤ ct (fun x => d x ≤ j) n ∨ ∀ x, x < n → d x < 1000 → d x ≤ j := by
    intro j
    induction j with
    | zero => left; exact ct_pos _ hs (by rw [h.2.2]; exact Nat.le_refl 0)
    | succ j ih =>
      rcases ih with ih | ih
      · by_cases q : ∀ x, x < n → d x < 1000 → d x ≤ j
        · right; exact fun x hx hl => Nat.le_succ_of_le (q x hx hl)
        · left
          have q' : ∃ y, y < n ∧ d y < 1000 ∧ ¬ d y ≤ j := by
            refine Classical.byContradiction fun hq => q fun x hx hl => ?_
            exact Classical.byContradiction fun hx2 => hq ⟨x, hx, hl, hx2⟩
          obtain ⟨y, hy, hl, hyn⟩ := q'
          have tw := ((h.1 y hy).2 hl).tight h.2.1 h.2.2 rfl
          obtain ⟨u, w, hu, hw, huw, e0, e1, e2, e3⟩ := tw.edge (fun x => d x ≤ j) (by rw [h.2.2]; exact Nat.zero_le j) hyn
          have := ct_lt (fun x => d x ≤ j) (fun x => d x ≤ j + 1) n (fun x _ hx => Nat.le_succ_of_le hx) hu e2 (by omega)
          omega
      · right; exact fun x hx hl => Nat.le_succ_of_le (ih x hx hl)
  intro x hx hl
  rcases grow (n - 1) with g | g
  · have := ct_all (fun x => d x ≤ n - 1) n (by omega) x hx
    omega
  · have := g x hx hl
    omega
theorem cW_adj {v : Vw} {t a b : Nat} (h : cM v t 1 1000 a b ≤ 1) : adj v t a b = true := by
  unfold cM at h
  cases q : adj v t a b with
  | true => rfl
  | false =>
    rw [q, if_neg (by decide)] at h
    by_cases c : a ≠ b ∧ v 3 (he (v 0 0) a b) ≠ 0
    · rw [if_pos c] at h; omega
    · rw [if_neg c] at h; omega
theorem cW_1 {v : Vw} {t a b : Nat} (h : adj v t a b = true) : cM v t 1 1000 a b = 1 := by unfold cM; rw [if_pos h]
theorem cW_pos (v : Vw) (t a b : Nat) : 1 ≤ cM v t 1 1000 a b := by
  unfold cM
  by_cases c : adj v t a b = true
  · rw [if_pos c]; exact Nat.le_refl 1
  · rw [if_neg c]; by_cases c2 : a ≠ b ∧ v 3 (he (v 0 0) a b) ≠ 0
    · rw [if_pos c2]; omega
    · rw [if_neg c2]; omega
theorem adj_nn {v : Vw} {t a b : Nat} (h : adj v t a b = true) : a ≠ b := by
  intro e; subst e; unfold adj at h; simp at h
/-- the field before, one nearer -/
theorem wpred {v : Vw} {t n s : Nat} {d : Nat → Nat} (h : Ds (cM v t 1 1000) n s d) {x : Nat} (hx : x < n) (hl : d x < 1000) (h1 : 1 ≤ d x) : ∃ a, a < n ∧ adj v t x a = true ∧ d a + 1 = d x := by
  obtain ⟨k, hk⟩ := (h.1 x hx).2 hl
  cases k with
  | zero => obtain ⟨-, e⟩ := hk; omega
  | succ k =>
    obtain ⟨b, L', ha, hb, hab, hc, e, hw⟩ := hk
    have q := cW_adj hc
    have q1 := cW_1 q
    have g := Wk.ge h.2.1 h.2.2 (⟨k, hw⟩ : Wk (cM v t 1 1000) n s b L')
    have f := h.2.1 x hx b hb hab
    exact ⟨b, hb, q, by omega⟩
theorem wzero {v : Vw} {t n s : Nat} {d : Nat → Nat} (h : Ds (cM v t 1 1000) n s d) {x : Nat} (hx : x < n) : d x = 0 ↔ x = s := by
  constructor
  · intro e
    obtain ⟨k, hk⟩ := (h.1 x hx).2 (by omega)
    cases k with
    | zero => exact hk.1
    | succ k =>
      obtain ⟨b, L', ha, hb, hab, hc, e2, hw⟩ := hk
      have := cW_pos v t x b
      omega
  · intro e; rw [e]; exact h.2.2
/-- within level k, before field b at field a -/
def IV (v : Vw) (t n : Nat) (d : Nat → Nat) (k a b : Nat) (f : Nat → Int32) : Prop := ∀ x, x < n → (d x ≤ k → f x = nI (d x)) ∧ (k < d x → f x = -9 ∨ (d x = k + 1 ∧ f x = nI (k + 1))) ∧ ∀ y, y < n → (y < a ∨ (y = a ∧ x < b)) → d y = k → adj v t y x = true → k < d x → f x = nI (k + 1)
def LV (n : Nat) (d : Nat → Nat) (k : Nat) (f : Nat → Int32) : Prop := ∀ x, x < n → f x = if d x ≤ k then nI (d x) else -9
theorem LV_IV {v : Vw} {t n : Nat} {d : Nat → Nat} {k : Nat} {f : Nat → Int32} (h : LV n d k f) : IV v t n d k 0 0 f := by
  intro x hx
  have := h x hx
  refine ⟨fun q => by rw [this, if_pos q], fun q => Or.inl (by rw [this, if_neg (by omega)]), fun y _ hy => by omega⟩
theorem IV_row {v : Vw} {t n : Nat} {d : Nat → Nat} {k a : Nat} {f : Nat → Int32} (h : IV v t n d k a n f) : IV v t n d k (a + 1) 0 f := by
  intro x hx
  obtain ⟨h1, h2, h3⟩ := h x hx
  exact ⟨h1, h2, fun y hy hya => h3 y hy (by omega)⟩
theorem IV_LV {v : Vw} {t n s : Nat} {d : Nat → Nat} (hD : Ds (cM v t 1 1000) n s d) {k : Nat} (hk : k < 100) {f : Nat → Int32} (h : IV v t n d k n 0 f) : LV n d (k + 1) f := by
  intro x hx
  obtain ⟨h1, h2, h3⟩ := h x hx
  by_cases q : d x ≤ k
  · rw [if_pos (by omega)]; exact h1 q
  · by_cases q2 : d x = k + 1
    · rw [if_pos (by omega), q2]
      obtain ⟨a, ha, e1, e2⟩ := wpred hD hx (by omega) (by omega)
      exact h3 a ha (Or.inl ha) (by omega) (by rw [adj_sym]; exact e1) (by omega)
    · rw [if_neg (by omega)]
      rcases h2 (by omega) with g | g
      · exact g
      · exact absurd g.1 q2
theorem IV_step {v : Vw} {t n s : Nat} {d : Nat → Nat} (hD : Ds (cM v t 1 1000) n s d) {k a j : Nat} (hk : k < 100) (ha : a < n) (hj : j < n) {f : Nat → Int32} (h : IV v t n d k a j f) {z : Int32} (hz : (a ≠ j ∧ f a = nI k ∧ f j = -9 ∧ adj v t a j = true ∧ z = nI (k + 1)) ∨ (z = f j ∧ (f a = nI k → f j = -9 → adj v t a j = true → False))) : IV v t n d k a (j + 1) (fun x => if x = j then z else f x) := by
  have hdk : d a = k → f a = nI k := fun e => by rw [(h a ha).1 (by omega), e]
  have hka : f a = nI k → d a = k := by
    intro e
    obtain ⟨h1, h2, -⟩ := h a ha
    by_cases q : d a ≤ k
    · have := h1 q; rw [this] at e; exact (eq' (by omega) (by omega)).mp e
    · rcases h2 (by omega) with g | g
      · rw [g] at e; exact absurd e.symm (nI_n9 (by omega))
      · rw [g.2] at e; have := (eq' (by omega) (by omega)).mp e; omega
  intro x hx
  obtain ⟨h1, h2, h3⟩ := h x hx
  by_cases q : x = j
  · subst q
    simp only [if_true]
    rcases hz with ⟨z1, z2, z3, z4, rfl⟩ | ⟨rfl, hn⟩
    · have e1 := hka z2
      have e2 : k < d x := by
        by_cases q : d x ≤ k
        · have := h1 q; rw [z3] at this; exact absurd this.symm (nI_n9 (by omega))
        · omega
      have e3 := hD.2.1 x hx a ha (fun e => z1 e.symm)
      rw [cW_1 (by rw [adj_sym]; exact z4)] at e3
      exact ⟨fun q => by omega, fun _ => Or.inr ⟨by omega, rfl⟩, fun _ _ _ _ _ _ => rfl⟩
    · refine ⟨h1, h2, fun y hy hya e1 e2 e3 => ?_⟩
      by_cases q : y = a ∧ ¬ x < x
      · rcases h2 e3 with g | g
        · exact absurd (hn (hdk (by rw [← q.1]; exact e1)) g (by rw [← q.1]; exact e2)) id
        · exact g.2
      · exact h3 y hy (by omega) e1 e2 e3
  · simp only [q, if_false]
    exact ⟨h1, h2, fun y hy hya => h3 y hy (by omega)⟩
theorem sB_fun (B : Bk) (k i : Nat) (x : Int32) : sB B k i x k = fun j => if j = i then x else B k j := by funext j; exact sB_row B k i j x
theorem far58 {ρ : Type} {M : Bk} {v : Vw} (hM : ModV M v) (hR : Rng v) {k a l s : Nat} {d : Nat → Nat} (hD : Ds (cM v (th v k) 1 1000) (v 0 0) s d) (hk : k < v 1 0) (ha : a < v 0 0) (hl : l < 100) (hd : IV v (th v k) (v 0 0) d l a 0 (M 23)) (kx : Int32 → Bk → Option ρ) : ∃ M', fu2 (FX4_findFar_58 (nI k) (nI a) (nI l) kx) 100 0 M = kx (nI (v 0 0)) M' ∧ (∀ i, i ≠ 23 → M' i = M i) ∧ IV v (th v k) (v 0 0) d l (a + 1) 0 (M' 23) := by
  have h0 := hR.1
  have h3 := hN_le _ hR.1
  refine fx2 (fun o => ∃ M' : Bk, o = kx (nI (v 0 0)) M' ∧ (∀ i, i ≠ 23 → M' i = M i) ∧ IV v (th v k) (v 0 0) d l (a + 1) 0 (M' 23)) (fun (x : Int32) (B : Bk) m => ∃ j, j ≤ v 0 0 ∧ x = nI j ∧ m = v 0 0 - j ∧ (∀ i, i ≠ 23 → B i = M i) ∧ IV v (th v k) (v 0 0) d l a j (B 23)) ?_ 100 0 M (v 0 0) ⟨0, by omega, rfl, by omega, fun _ _ => rfl, hd⟩ (by omega)
  rintro self x B m ⟨j, hj, rfl, hm, hBo, hB⟩ ih
  have hMB : ModV B v := hM.fr (hBo 5 (by decide)) (hBo 6 (by decide)) (hBo 10 (by decide)) (hBo 11 (by decide)) (hBo 12 (by decide)) (hBo 13 (by decide))
  unfold FX4_findFar_58
  rw [hMB.1]
  by_cases c : v 0 0 ≤ j
  · rw [if_pos ((le' (by omega) (by omega)).mpr c)]
    have ej : j = v 0 0 := by omega
    rw [ej] at hB
    exact ⟨B, by rw [ej], hBo, IV_row hB⟩
  · rw [if_neg (by rw [le' (by omega) (by omega)]; exact c)]
    have hj2 : j < v 0 0 := by omega
    have fin : ∀ z, ((a ≠ j ∧ B 23 a = nI l ∧ B 23 j = -9 ∧ adj v (th v k) a j = true ∧ z = nI (l + 1)) ∨ (z = B 23 j ∧ (B 23 a = nI l → B 23 j = -9 → adj v (th v k) a j = true → False))) → ∃ M' : Bk, self (nI j + 1) (sB B 23 j z) = kx (nI (v 0 0)) M' ∧ (∀ i, i ≠ 23 → M' i = M i) ∧ IV v (th v k) (v 0 0) d l (a + 1) 0 (M' 23) := by
      intro z hz
      refine ih _ _ (m - 1) (by omega) ⟨j + 1, by omega, nI_1 j, by omega, fun i hi => (sB_ne _ _ _ hi).trans (hBo i hi), ?_⟩
      rw [sB_fun]; exact IV_step hD hl ha hj2 hB hz
    simp only [gIn (show a < 5 by omega) (show 5 < 1000000 by omega), gIn (show j < 5 by omega) (show 5 < 1000000 by omega), cl (show a < 1000000 by omega), cl (show j < 1000000 by omega), nI_1 l]
    by_cases caj : a = j
    · rw [if_pos (show nI a = nI j by rw [caj])]
      simp only [Option.bind_some, if_true]
      refine fin _ (Or.inr ⟨rfl, fun _ _ e => adj_nn e caj⟩)
    · have c' : ¬ nI a = nI j := by rw [eq' (by omega) (by omega)]; exact caj
      have h2 := he_lt _ hR.1 a ha j hj2 caj
      have eadj : adj v (th v k) a j = fitB (v 3 (he (v 0 0) a j)) (th v k) := by unfold adj; simp [caj]
      rw [if_neg c']
      by_cases c1 : B 23 a = nI l
      · rw [if_pos c1]
        by_cases c2 : B 23 j = -9
        · rw [if_pos c2, hedgeM hMB hR ha hj2 caj]
          simp only [Option.bind_some, fitsM hMB hR hk h2, b2i_0]
          cases qa : fitB (v 3 (he (v 0 0) a j)) (th v k) with
          | true =>
            simp only [Bool.true_eq_false, if_false, Option.bind_some, one_ne]
            exact fin _ (Or.inl ⟨caj, c1, c2, by rw [eadj]; exact qa, rfl⟩)
          | false =>
            simp only [if_true, Option.bind_some]
            exact fin _ (Or.inr ⟨rfl, fun _ _ e => by rw [eadj, qa] at e; exact absurd e (by decide)⟩)
        · rw [if_neg c2]
          simp only [Option.bind_some, if_true]
          exact fin _ (Or.inr ⟨rfl, fun _ e _ => c2 e⟩)
      · rw [if_neg c1]
        simp only [Option.bind_some, if_true]
        exact fin _ (Or.inr ⟨rfl, fun e _ _ => c1 e⟩)
theorem far46 {ρ : Type} {M : Bk} {v : Vw} (hM : ModV M v) (hR : Rng v) {k l s : Nat} {d : Nat → Nat} (hD : Ds (cM v (th v k) 1 1000) (v 0 0) s d) (hk : k < v 1 0) (hl : l < 100) (hd : LV (v 0 0) d l (M 23)) (kx : Int32 → Bk → Option ρ) : ∃ M', fu2 (FX4_findFar_46 (nI k) (nI l) kx) 100 0 M = kx (nI (v 0 0)) M' ∧ (∀ i, i ≠ 23 → M' i = M i) ∧ LV (v 0 0) d (l + 1) (M' 23) := by
  have h0 := hR.1
  refine fx2 (fun o => ∃ M' : Bk, o = kx (nI (v 0 0)) M' ∧ (∀ i, i ≠ 23 → M' i = M i) ∧ LV (v 0 0) d (l + 1) (M' 23)) (fun (x : Int32) (B : Bk) m => ∃ j, j ≤ v 0 0 ∧ x = nI j ∧ m = v 0 0 - j ∧ (∀ i, i ≠ 23 → B i = M i) ∧ IV v (th v k) (v 0 0) d l j 0 (B 23)) ?_ 100 0 M (v 0 0) ⟨0, by omega, rfl, by omega, fun _ _ => rfl, LV_IV hd⟩ (by omega)
  rintro self x B m ⟨j, hj, rfl, hm, hBo, hB⟩ ih
  have hMB : ModV B v := hM.fr (hBo 5 (by decide)) (hBo 6 (by decide)) (hBo 10 (by decide)) (hBo 11 (by decide)) (hBo 12 (by decide)) (hBo 13 (by decide))
  unfold FX4_findFar_46
  rw [hMB.1]
  by_cases c : v 0 0 ≤ j
  · rw [if_pos ((le' (by omega) (by omega)).mpr c)]
    have ej : j = v 0 0 := by omega
    rw [ej] at hB
    exact ⟨B, by rw [ej], hBo, IV_LV hD hl hB⟩
  · rw [if_neg (by rw [le' (by omega) (by omega)]; exact c)]
    obtain ⟨B', e1, h1, h2⟩ := far58 hMB hR (a := j) hD hk (by omega) hl hB (fun x5_24 M_25 => self (nI j + 1) M_25)
    rw [e1]
    exact ih _ _ (m - 1) (by omega) ⟨j + 1, by omega, nI_1 j, by omega, fun i hi => (h1 i hi).trans (hBo i hi), h2⟩
theorem farM {M : Bk} {v : Vw} (hM : ModV M v) (hR : Rng v) {k s : Nat} {d : Nat → Nat} (hD : Ds (cM v (th v k) 1 1000) (v 0 0) s d) (hs : s < v 0 0) (hk : k < v 1 0) : ∃ M', fX4_findFar M (nI k) (nI s) = some M' ∧ (∀ i, i ≠ 23 → M' i = M i) ∧ ∀ x, x < v 0 0 → M' 23 x = enc (d x) := by
  have h0 := hR.1
  have key : ∃ M', fX4_findFar M (nI k) (nI s) = some M' ∧ (∀ i, i ≠ 23 → M' i = M i) ∧ LV (v 0 0) d (v 0 0) (M' 23) := by
    unfold fX4_findFar
    refine fx2 (fun o => ∃ M' : Bk, o = some M' ∧ (∀ i, i ≠ 23 → M' i = M i) ∧ LV (v 0 0) d (v 0 0) (M' 23)) (fun (x : Int32) (B : Bk) m => ∃ j, j ≤ v 0 0 ∧ x = nI j ∧ m = v 0 0 - j ∧ (∀ i, i ≠ 23 → B i = M i) ∧ ∀ y, y < j → B 23 y = if d y ≤ 0 then nI (d y) else -9) ?_ 100 0 M (v 0 0) ⟨0, by omega, rfl, by omega, fun _ _ => rfl, fun y hy => absurd hy (Nat.not_lt_zero _)⟩ (by omega)
    rintro self x B m ⟨j, hj, rfl, hm, hBo, hB⟩ ih
    have hMB : ModV B v := hM.fr (hBo 5 (by decide)) (hBo 6 (by decide)) (hBo 10 (by decide)) (hBo 11 (by decide)) (hBo 12 (by decide)) (hBo 13 (by decide))
    unfold FX4_findFar_2
    rw [hMB.1]
    by_cases c : v 0 0 ≤ j
    · rw [if_pos ((le' (by omega) (by omega)).mpr c)]
      have hLV : LV (v 0 0) d 0 (B 23) := fun y hy => hB y (by omega)
      refine fx2 (fun o => ∃ M' : Bk, o = some M' ∧ (∀ i, i ≠ 23 → M' i = M i) ∧ LV (v 0 0) d (v 0 0) (M' 23)) (fun (x : Int32) (C : Bk) m => ∃ j, j ≤ v 0 0 ∧ x = nI j ∧ m = v 0 0 - j ∧ (∀ i, i ≠ 23 → C i = M i) ∧ LV (v 0 0) d j (C 23)) ?_ 100 0 B (v 0 0) ⟨0, by omega, rfl, by omega, hBo, hLV⟩ (by omega)
      rintro self x C m ⟨j, hj, rfl, hm, hCo, hC⟩ ih
      have hMC : ModV C v := hM.fr (hCo 5 (by decide)) (hCo 6 (by decide)) (hCo 10 (by decide)) (hCo 11 (by decide)) (hCo 12 (by decide)) (hCo 13 (by decide))
      unfold FX4_findFar_35
      rw [hMC.1]
      by_cases c : v 0 0 ≤ j
      · rw [if_pos ((le' (by omega) (by omega)).mpr c)]
        have ej : j = v 0 0 := by omega
        rw [ej] at hC
        exact ⟨C, rfl, hCo, hC⟩
      · rw [if_neg (by rw [le' (by omega) (by omega)]; exact c)]
        obtain ⟨C', e1, h1, h2⟩ := far46 hMC hR (l := j) hD hk (by omega) hC (fun x4_19 M_20 => self (nI j + 1) M_20)
        rw [e1]
        exact ih _ _ (m - 1) (by omega) ⟨j + 1, by omega, nI_1 j, by omega, fun i hi => (h1 i hi).trans (hCo i hi), h2⟩
    · rw [if_neg (by rw [le' (by omega) (by omega)]; exact c)]
      have hz := wzero hD (show j < v 0 0 by omega)
      have ed : ((if nI j = nI s then some 0 else some (-9)) : Option Int32) = some (if d j ≤ 0 then nI (d j) else -9) := by
        by_cases q : j = s
        · have e0 := hz.mpr q
          rw [if_pos (by rw [q]), e0]; rfl
        · have e0 : ¬ d j ≤ 0 := fun e => q (hz.mp (by omega))
          rw [if_neg (by rw [eq' (by omega) (by omega)]; exact q), if_neg e0]
      rw [ed]
      simp only [Option.bind_some, gIn (show j < 5 by omega) (show 5 < 1000000 by omega), cl (show j < 1000000 by omega)]
      refine ih _ _ (m - 1) (by omega) ⟨j + 1, by omega, nI_1 j, by omega, fun i hi => (sB_ne _ _ _ hi).trans (hBo i hi), fun y hy => ?_⟩
      rw [sB_row]
      by_cases q : y = j
      · rw [if_pos q, q]
      · rw [if_neg q]; exact hB y (by omega)
  obtain ⟨M', e1, e2, e3⟩ := key
  refine ⟨M', e1, e2, fun x hx => ?_⟩
  rw [e3 x hx]
  by_cases q : d x < 1000
  · have := fin_le hD hs x hx q
    rw [enc_lt q, if_pos (by omega)]
  · rw [if_neg (by omega)]; exact (enc_9.mpr (by omega)).symm
theorem nearX {L : Bk} {v : Vw} (hL : LandV L v) (hR : Rng v) {t s h : Nat} {d : Nat → Nat} (hd : DV (v 0 0) (L 7) d) (hD : Ds (cM v t 1 1000) (v 0 0) s d) (ht : t < 10) (hh : h < v 0 0) (h1 : 1 ≤ d h) (h2 : d h < 1000) : ∃ w, w < v 0 0 ∧ fX0_nearerThan L (nI h) (nI t) = some (nI w) ∧ (adj v t h w = true ∧ d w + 1 = d h) ∧ ∀ y, y < w → ¬ (adj v t h y = true ∧ d y + 1 = d h) := by
  have h0 := hR.1
  obtain ⟨u, hu, u1, u2⟩ := wpred hD hh h2 h1
  unfold fX0_nearerThan
  refine fx1 (fun o => ∃ w, w < v 0 0 ∧ o = some (nI w) ∧ (adj v t h w = true ∧ d w + 1 = d h) ∧ ∀ y, y < w → ¬ (adj v t h y = true ∧ d y + 1 = d h)) (fun (x : Int32) m => ∃ j, j ≤ u ∧ x = nI j ∧ m = u - j ∧ ∀ y, y < j → ¬ (adj v t h y = true ∧ d y + 1 = d h)) ?_ 100 0 u ⟨0, by omega, rfl, by omega, fun y hy => absurd hy (Nat.not_lt_zero _)⟩ (by omega)
  rintro self x m ⟨j, hj, rfl, hm, hno⟩ ih
  have hj2 : j < v 0 0 := by omega
  have nx : ¬ (adj v t h j = true ∧ d j + 1 = d h) → ∃ w, w < v 0 0 ∧ self (nI j + 1) = some (nI w) ∧ (adj v t h w = true ∧ d w + 1 = d h) ∧ ∀ y, y < w → ¬ (adj v t h y = true ∧ d y + 1 = d h) := by
    intro q
    have hne : j ≠ u := fun e => q (by rw [e]; exact ⟨u1, u2⟩)
    refine ih _ (m - 1) (by omega) ⟨j + 1, by omega, nI_1 j, by omega, fun y hy => ?_⟩
    by_cases e : y = j
    · rw [e]; exact q
    · exact hno y (by omega)
  unfold FX0_nearerThan_2
  rw [hL.1, if_neg (by rw [le' (by omega) (by omega)]; omega), letsX hL hR hh hj2 ht]
  simp only [Option.bind_some, b2i_0, gIn (show j < 5 by omega) (show 5 < 1000000 by omega), gIn (show h < 5 by omega) (show 5 < 1000000 by omega), cl (show h < 1000000 by omega), cl (show j < 1000000 by omega), (hd j hj2).1, (hd h hh).1]
  cases qa : adj v t h j with
  | false => simp only [if_true]; exact nx (fun e => by rw [qa] at e; exact absurd e.1 (by decide))
  | true =>
    have f := hD.2.1 h hh j hj2 (adj_nn qa)
    rw [cW_1 qa] at f
    have b1 := (hd j hj2).2
    simp only [Bool.true_eq_false, if_false]
    by_cases c : d h ≤ d j
    · rw [if_pos ((le' (by omega) (by omega)).mpr c)]; exact nx (fun e => by omega)
    · rw [if_neg (by rw [le' (by omega) (by omega)]; exact c)]
      exact ⟨j, hj2, rfl, ⟨qa, by omega⟩, hno⟩
theorem nearM {ρ : Type} {M : Bk} {v : Vw} (hM : ModV M v) (hR : Rng v) {k s h : Nat} {d : Nat → Nat} (hk : k < v 1 0) (hd : ∀ x, x < v 0 0 → M 23 x = enc (d x)) (hD : Ds (cM v (th v k) 1 1000) (v 0 0) s d) (hh : h < v 0 0) (h1 : 1 ≤ d h) (h2 : d h < 1000) (kx : Int32 → Option ρ) : ∃ w, w < v 0 0 ∧ fu1 (FX4_way_97 (nI k) M (nI h) kx) 100 0 = kx (nI w) ∧ (adj v (th v k) h w = true ∧ d w + 1 = d h) ∧ ∀ y, y < w → ¬ (adj v (th v k) h y = true ∧ d y + 1 = d h) := by
  have h0 := hR.1
  have h3 := hN_le _ hR.1
  obtain ⟨u, hu, u1, u2⟩ := wpred hD hh h2 h1
  refine fx1 (fun o => ∃ w, w < v 0 0 ∧ o = kx (nI w) ∧ (adj v (th v k) h w = true ∧ d w + 1 = d h) ∧ ∀ y, y < w → ¬ (adj v (th v k) h y = true ∧ d y + 1 = d h)) (fun (x : Int32) m => ∃ j, j ≤ u ∧ x = nI j ∧ m = u - j ∧ ∀ y, y < j → ¬ (adj v (th v k) h y = true ∧ d y + 1 = d h)) ?_ 100 0 u ⟨0, by omega, rfl, by omega, fun y hy => absurd hy (Nat.not_lt_zero _)⟩ (by omega)
  rintro self x m ⟨j, hj, rfl, hm, hno⟩ ih
  have hj2 : j < v 0 0 := by omega
  have nx : ¬ (adj v (th v k) h j = true ∧ d j + 1 = d h) → ∃ w, w < v 0 0 ∧ self (nI j + 1) = kx (nI w) ∧ (adj v (th v k) h w = true ∧ d w + 1 = d h) ∧ ∀ y, y < w → ¬ (adj v (th v k) h y = true ∧ d y + 1 = d h) := by
    intro q
    have hne : j ≠ u := fun e => q (by rw [e]; exact ⟨u1, u2⟩)
    refine ih _ (m - 1) (by omega) ⟨j + 1, by omega, nI_1 j, by omega, fun y hy => ?_⟩
    by_cases e : y = j
    · rw [e]; exact q
    · exact hno y (by omega)
  unfold FX4_way_97
  by_cases caj : j = h
  · rw [if_pos (show nI j = nI h by rw [caj])]
    exact nx (fun e => adj_nn e.1 caj.symm)
  · have c' : ¬ nI j = nI h := by rw [eq' (by omega) (by omega)]; exact caj
    have chj : h ≠ j := fun e => caj e.symm
    have h4 := he_lt _ hR.1 h hh j hj2 chj
    have eadj : adj v (th v k) h j = fitB (v 3 (he (v 0 0) h j)) (th v k) := by unfold adj; simp [chj]
    rw [if_neg c', gIn (show j < 5 by omega) (by omega), gIn (show h < 5 by omega) (by omega), cl (show h < 1000000 by omega), cl (show j < 1000000 by omega), hd j hj2, hd h hh, enc_lt h2, show (1 : Int32) = nI 1 from rfl, pk_sub h1]
    by_cases c : enc (d j) = nI (d h - 1)
    · have ed : d j + 1 = d h := by
        by_cases q : d j < 1000
        · rw [enc_lt q] at c; have := (eq' (by omega) (by omega)).mp c; omega
        · rw [enc_9.mpr (by omega)] at c; exact absurd c.symm (nI_n9 (by omega))
      rw [if_pos c, hedgeM hM hR hh hj2 chj]
      simp only [Option.bind_some, fitsM hM hR hk h4, b2i_0]
      cases qa : fitB (v 3 (he (v 0 0) h j)) (th v k) with
      | false => simp only [if_true]; exact nx (fun e => by rw [eadj, qa] at e; exact absurd e.1 (by decide))
      | true => simp only [Bool.true_eq_false, if_false]; exact ⟨j, hj2, rfl, ⟨by rw [eadj]; exact qa, ed⟩, hno⟩
    · rw [if_neg c]
      refine nx (fun e => c ?_)
      rw [enc_lt (by omega), show d h - 1 = d j by omega]
theorem wayL {L M : Bk} {v : Vw} (hL : LandV L v) (hM : ModV M v) (hR : Rng v) {k s p : Nat} {d : Nat → Nat} (hk : k < v 1 0) (hp : p < 5) (hdX : DV (v 0 0) (L 7) d) (hdM : ∀ x, x < v 0 0 → M 23 x = enc (d x)) (hD : Ds (cM v (th v k) 1 1000) (v 0 0) s d) : ∀ m N K h i, m = p - i → i ≤ p → h < v 0 0 → d h < 1000 → m ≤ d h → m < N → m < K → ∃ z, fu2 (FX0_fieldOnWay_10 (nI k) (nI p) L (fun x3_4 x4_5 => some x3_4)) N (nI h) (nI i) = some z ∧ fu2 (FX4_way_88 (nI k) (nI p) M (fun x4_19 x5_20 => some (x4_19, M))) K (nI h) (nI i) = some (z, M) := by
  intro m
  induction m with
  | zero =>
    intro N K h i hm hi hh hl hmd hN hK
    obtain ⟨N, rfl⟩ : ∃ k, N = k + 1 := ⟨N - 1, by omega⟩
    obtain ⟨K, rfl⟩ : ∃ k, K = k + 1 := ⟨K - 1, by omega⟩
    show ∃ z, FX0_fieldOnWay_10 (nI k) (nI p) L (fun x3_4 x4_5 => some x3_4) (fu2 (FX0_fieldOnWay_10 (nI k) (nI p) L (fun x3_4 x4_5 => some x3_4)) N) (nI h) (nI i) = some z ∧ FX4_way_88 (nI k) (nI p) M (fun x4_19 x5_20 => some (x4_19, M)) (fu2 (FX4_way_88 (nI k) (nI p) M (fun x4_19 x5_20 => some (x4_19, M))) K) (nI h) (nI i) = some (z, M)
    unfold FX0_fieldOnWay_10 FX4_way_88
    have c : nI p ≤ nI i := (le' (by omega) (by omega)).mpr (by omega)
    rw [if_pos c, if_pos c]; exact ⟨_, rfl, rfl⟩
  | succ m ih =>
    intro N K h i hm hi hh hl hmd hN hK
    obtain ⟨N, rfl⟩ : ∃ k, N = k + 1 := ⟨N - 1, by omega⟩
    obtain ⟨K, rfl⟩ : ∃ k, K = k + 1 := ⟨K - 1, by omega⟩
    show ∃ z, FX0_fieldOnWay_10 (nI k) (nI p) L (fun x3_4 x4_5 => some x3_4) (fu2 (FX0_fieldOnWay_10 (nI k) (nI p) L (fun x3_4 x4_5 => some x3_4)) N) (nI h) (nI i) = some z ∧ FX4_way_88 (nI k) (nI p) M (fun x4_19 x5_20 => some (x4_19, M)) (fu2 (FX4_way_88 (nI k) (nI p) M (fun x4_19 x5_20 => some (x4_19, M))) K) (nI h) (nI i) = some (z, M)
    have ih' := fun h => ih N K h (i + 1)
    generalize fu2 (FX0_fieldOnWay_10 (nI k) (nI p) L (fun x3_4 x4_5 => some x3_4)) N = sX at ih' ⊢
    generalize fu2 (FX4_way_88 (nI k) (nI p) M (fun x4_19 x5_20 => some (x4_19, M))) K = sM at ih' ⊢
    unfold FX0_fieldOnWay_10 FX4_way_88
    have c : ¬ nI p ≤ nI i := by rw [le' (by omega) (by omega)]; omega
    obtain ⟨w, hw, ew, w1, w2⟩ := nearX hL hR hdX hD (th_lt hR hk) hh (by omega) hl
    obtain ⟨y, hy, ey, y1, y2⟩ := nearM hM hR hk hdM hD hh (by omega) hl (fun x6_23 => sM x6_23 (nI i + 1))
    have ewy : y = w := by
      rcases Nat.lt_trichotomy y w with q | q | q
      · exact absurd y1 (w2 y q)
      · exact q
      · exact absurd w1 (y2 w q)
    subst ewy
    rw [if_neg c, if_neg c, thickX hL hR hk, ey]
    simp only [Option.bind_some, ew, nI_1 i]
    exact ih' y (by omega) (by omega) hw (by omega) (by omega) (by omega) (by omega)
theorem neg1 {p : Int32} (h : ¬ p < -1) (h0 : p < 0) : p = -1 := by
  rw [Int32.lt_iff_toInt_lt] at h h0
  apply Int32.toInt_inj.mp
  have e1 : (-1 : Int32).toInt = -1 := by decide
  have e2 : (0 : Int32).toInt = 0 := by decide
  omega
theorem sim_way {X : Bk} {Rw : Nat → Bk} {L N M : Bk} (T : Bk) (h : Rel X Rw L N M) (p0 : Int32) (p1 : Int32) (p2 : Int32) : ∃ (k : Nat) (ox : (Int32 × Bk)) (om : (Int32 × Bk)), k < 4 ∧ fX3_way L p0 p1 p2 = some ox ∧ fX4_way M p0 p1 p2 = some om ∧ ox.1 = om.1 ∧ Rel X Rw ox.2 N om.2 := by
  obtain ⟨v, r, hR, hL, hM, hw, hS, hd, hdr, hrow⟩ := id h
  unfold fX3_way fX4_way
  rcases goerC hL hM hR p0 with ⟨e1, e2⟩ | ⟨k, hk, rfl, e1, e2⟩
  · rw [e1, e2]; exact ⟨0, _, _, by decide, rfl, rfl, rfl, h⟩
  · rcases fieldC hL hM hR p1 with ⟨e3, e4⟩ | ⟨f, hf, rfl, e3, e4⟩
    · rw [e1, e2, e3, e4]; exact ⟨0, _, _, by decide, rfl, rfl, rfl, h⟩
    · have h0 := hR.1
      have h1 := hR.2.1
      have hP := (hR.2.2.2 k hk).2.2.2
      rw [e1, e2, e3, e4]
      simp only [Option.bind_some, one_ne, if_false, fX4_within]
      by_cases q : p2 < -1
      · simp only [if_pos q]; exact ⟨0, _, _, by decide, rfl, rfl, rfl, h⟩
      · by_cases q5 : p2 < 5
        · have q4 : ¬ (4 : Int32) < p2 := by
            intro z
            rw [Int32.lt_iff_toInt_lt] at z q5
            have e1 : (4 : Int32).toInt = 4 := by decide
            have e2 : (5 : Int32).toInt = 5 := by decide
            omega
          obtain ⟨L', d, f1, f2, f3, f4⟩ := measureX hL hR (t := th v k) (p := 1) (q := 1000) (to := f) (P := 1) (Q := 1000) rfl rfl (by omega) (by omega) (th_lt hR hk) hf
          obtain ⟨M', g1, g2, g3⟩ := farM hM hR f4 hf hk
          have b1 := (f3 _ hP).2
          have e6 : L' 6 k = nI (v 6 k) := by rw [f2 6 (by decide)]; exact (hL.2.2.2 k hk).2.2
          have e13 : M' 13 k = nI (v 6 k) := by rw [g2 13 (by decide)]; exact (hM.2.2.2 k hk).2.2
          have hL' : LandV L' v := hL.fr (f2 0 (by decide)) (f2 1 (by decide)) (f2 3 (by decide)) (f2 4 (by decide)) (f2 5 (by decide)) (f2 6 (by decide))
          have hM' : ModV M' v := hM.fr (g2 5 (by decide)) (g2 6 (by decide)) (g2 10 (by decide)) (g2 11 (by decide)) (g2 12 (by decide)) (g2 13 (by decide))
          have hrel := relL7 h f2 g2 (Or.inl rfl)
          simp only [if_neg q, if_pos q5, if_neg q4, Option.bind_some, one_ne, if_false, thickX hL hR hk, f1, g1, gIn (show k < 5 by omega) (show 5 < 1000000 by omega), cl (show k < 1000000 by omega), e6, e13, gIn (show v 6 k < 5 by omega) (show 5 < 1000000 by omega), cl (show v 6 k < 1000000 by omega), (f3 _ hP).1, g3 _ hP, enc_9]
          by_cases c : 1000 ≤ d (v 6 k)
          · rw [if_pos (show (1000 : Int32) ≤ nI (d (v 6 k)) from (le' (a := 1000) (by omega) (by omega)).mpr c), if_pos c]
            exact ⟨0, _, _, by decide, rfl, rfl, rfl, hrel⟩
          · rw [if_neg (show ¬ (1000 : Int32) ≤ nI (d (v 6 k)) by intro z; exact c ((le' (a := 1000) (by omega) (by omega)).mp z)), if_neg c, enc_lt (show d (v 6 k) < 1000 by omega)]
            by_cases qm : p2 ≤ nI (d (v 6 k))
            · simp only [if_pos qm]
              by_cases qn : p2 < 0
              · have e := neg1 q qn
                simp only [if_pos e]
                exact ⟨0, _, _, by decide, rfl, rfl, rfl, hrel⟩
              · have e : ¬ p2 = -1 := by intro e; rw [e] at qn; exact qn (by decide)
                simp only [if_neg e]
                obtain ⟨p, hp31, rfl⟩ := nI_of qn
                have hp : p < 5 := (nI_ltI (b := 5) hp31 (by decide)).mp q5
                have hpd : p ≤ d (v 6 k) := (le' (by omega) (by omega)).mp qm
                obtain ⟨z, z1, z2⟩ := wayL hL' hM' hR hk hp f3 g3 f4 p 100 100 (v 6 k) 0 (by omega) (by omega) hP (by omega) hpd (by omega) (by omega)
                unfold fX0_fieldOnWay
                rw [gIn (show k < 5 by omega) (by omega), cl (show k < 1000000 by omega), e6]
                have z1' : fu2 (FX0_fieldOnWay_10 (nI k) (nI p) L' (fun x3_4 x4_5 => some x3_4)) 100 (nI (v 6 k)) 0 = some z := z1
                have z2' : fu2 (FX4_way_88 (nI k) (nI p) M' (fun x4_19 x5_20 => some (x4_19, M'))) 100 (nI (v 6 k)) 0 = some (z, M') := z2
                rw [z1', z2']
                exact ⟨0, _, _, by decide, rfl, rfl, rfl, hrel⟩
            · simp only [if_neg qm]
              exact ⟨0, _, _, by decide, rfl, rfl, rfl, hrel⟩
        · have q4 : (4 : Int32) < p2 := by
            rw [Int32.lt_iff_toInt_lt] at q5 ⊢
            have e1 : (4 : Int32).toInt = 4 := by decide
            have e2 : (5 : Int32).toInt = 5 := by decide
            omega
          simp only [if_neg q, if_neg q5, if_pos q4]; exact ⟨0, _, _, by decide, rfl, rfl, rfl, h⟩
