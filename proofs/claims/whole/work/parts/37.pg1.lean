/-! ways over a few fields: steps that shorten, until nothing is shorter -/
/-- the number at a becomes at most the number at b and the cost from a to b -/
def st (c : Nat → Nat → Nat) (d : Nat → Nat) (p : Nat × Nat) : Nat → Nat := fun x => if x = p.1 then min (d p.1) (d p.2 + c p.1 p.2) else d x
def ps (c : Nat → Nat → Nat) (l : List (Nat × Nat)) (d : Nat → Nat) : Nat → Nat := l.foldl (st c) d
theorem ps_nil (c : Nat → Nat → Nat) (d : Nat → Nat) : ps c [] d = d := rfl
theorem ps_cons (c : Nat → Nat → Nat) (p : Nat × Nat) (l : List (Nat × Nat)) (d : Nat → Nat) : ps c (p :: l) d = ps c l (st c d p) := rfl
theorem ps_app (c : Nat → Nat → Nat) (l l' : List (Nat × Nat)) (d : Nat → Nat) : ps c (l ++ l') d = ps c l' (ps c l d) := by unfold ps; rw [List.foldl_append]
theorem st_le (c : Nat → Nat → Nat) (d : Nat → Nat) (p : Nat × Nat) (x : Nat) : st c d p x ≤ d x := by
  unfold st
  by_cases h : x = p.1
  · rw [if_pos h, h]; exact Nat.min_le_left _ _
  · rw [if_neg h]; exact Nat.le_refl _
theorem ps_le (c : Nat → Nat → Nat) (l : List (Nat × Nat)) (d : Nat → Nat) (x : Nat) : ps c l d x ≤ d x := by
  induction l generalizing d with
  | nil => exact Nat.le_refl _
  | cons p l ih => rw [ps_cons]; exact Nat.le_trans (ih _) (st_le c d p x)
theorem ps_hit (c : Nat → Nat → Nat) (l : List (Nat × Nat)) (d : Nat → Nat) {a b : Nat} (h : (a, b) ∈ l) : ps c l d a ≤ d b + c a b := by
  induction l generalizing d with
  | nil => cases h
  | cons p l ih =>
    rw [ps_cons]
    rcases List.mem_cons.mp h with e | h
    · refine Nat.le_trans (ps_le c l _ a) ?_
      rw [← e]; unfold st; rw [if_pos rfl]; exact Nat.min_le_right _ _
    · refine Nat.le_trans (ih _ h) ?_
      have := st_le c d p b
      omega
/-- nothing is shorter within the first n -/
def Fe (c : Nat → Nat → Nat) (n : Nat) (e : Nat → Nat) : Prop := ∀ a, a < n → ∀ b, b < n → a ≠ b → e a ≤ e b + c a b
/-- the list holds all pairs of two of the first n, and only such -/
def Al (n : Nat) (l : List (Nat × Nat)) : Prop := (∀ a, a < n → ∀ b, b < n → (a, b) ∈ l) ∧ ∀ p, p ∈ l → p.1 < n ∧ p.2 < n
def In (n : Nat) (l : List (Nat × Nat)) : Prop := ∀ p, p ∈ l → p.1 < n ∧ p.2 < n
theorem ps_low {c : Nat → Nat → Nat} {n : Nat} {l : List (Nat × Nat)} (hl : In n l) {e : Nat → Nat} (he : Fe c n e) (d : Nat → Nat) (h : ∀ x, x < n → e x ≤ d x) : ∀ x, x < n → e x ≤ ps c l d x := by
  induction l generalizing d with
  | nil => exact h
  | cons p l ih =>
    rw [ps_cons]
    refine ih (fun q hq => hl q (List.mem_cons_of_mem _ hq)) _ ?_
    intro x hx
    have hp := hl p (List.mem_cons_self ..)
    unfold st
    by_cases e1 : x = p.1
    · rw [if_pos e1]
      subst e1
      refine Nat.le_min.mpr ⟨h _ hx, ?_⟩
      by_cases e2 : p.1 = p.2
      · rw [← e2]; have := h p.1 hp.1; omega
      · have := he p.1 hp.1 p.2 hp.2 e2
        have := h p.2 hp.2
        omega
    · rw [if_neg e1]; exact h x hx
/-- walks within the first n, along costs of at most 1 -/
def WkN (c : Nat → Nat → Nat) (n s : Nat) : Nat → Nat → Nat → Prop
  | 0, a, L => a = s ∧ L = 0
  | k + 1, a, L => ∃ b L', a < n ∧ b < n ∧ a ≠ b ∧ c a b ≤ 1 ∧ L = c a b + L' ∧ WkN c n s k b L'
def Wk (c : Nat → Nat → Nat) (n s a L : Nat) : Prop := ∃ k, WkN c n s k a L
theorem Wk.nil {c : Nat → Nat → Nat} {n s : Nat} : Wk c n s s 0 := ⟨0, rfl, rfl⟩
theorem Wk.cons {c : Nat → Nat → Nat} {n s a b L : Nat} (ha : a < n) (hb : b < n) (hab : a ≠ b) (h1 : c a b ≤ 1) (h : Wk c n s b L) : Wk c n s a (c a b + L) := by
  obtain ⟨k, hk⟩ := h
  exact ⟨k + 1, b, L, ha, hb, hab, h1, rfl, hk⟩
theorem Wk.ind {c : Nat → Nat → Nat} {n s : Nat} (P : Nat → Nat → Prop) (h0 : P s 0) (h1 : ∀ a b L, a < n → b < n → a ≠ b → c a b ≤ 1 → Wk c n s b L → P b L → P a (c a b + L)) {a L : Nat} (h : Wk c n s a L) : P a L := by
  obtain ⟨k, hk⟩ := h
  induction k generalizing a L with
  | zero => obtain ⟨rfl, rfl⟩ := hk; exact h0
  | succ k ih =>
    obtain ⟨b, L', ha, hb, hab, hc, rfl, hw⟩ := hk
    exact h1 a b L' ha hb hab hc ⟨k, hw⟩ (ih hw)
/-- every number below 1000 is that of a walk; none is above 1000 -/
def At (c : Nat → Nat → Nat) (n s : Nat) (d : Nat → Nat) : Prop := ∀ x, x < n → d x ≤ 1000 ∧ (d x < 1000 → Wk c n s x (d x))
def Co (c : Nat → Nat → Nat) (n : Nat) : Prop := ∀ a, a < n → ∀ b, b < n → c a b ≤ 1 ∨ 1000 ≤ c a b
theorem st_at {c : Nat → Nat → Nat} {n s : Nat} (hc : Co c n) {d : Nat → Nat} (h : At c n s d) {p : Nat × Nat} (hp : p.1 < n ∧ p.2 < n) : At c n s (st c d p) := by
  intro x hx
  refine ⟨Nat.le_trans (st_le c d p x) (h x hx).1, ?_⟩
  unfold st
  by_cases e1 : x = p.1
  · rw [if_pos e1]
    subst e1
    intro hlt
    by_cases e2 : d p.1 ≤ d p.2 + c p.1 p.2
    · rw [Nat.min_eq_left e2] at hlt ⊢; exact (h _ hx).2 hlt
    · rw [Nat.min_eq_right (by omega)] at hlt ⊢
      rcases hc p.1 hp.1 p.2 hp.2 with q | q
      · by_cases e3 : p.1 = p.2
        · rw [← e3] at e2; omega
        · rw [Nat.add_comm]; exact Wk.cons hp.1 hp.2 e3 q ((h _ hp.2).2 (by omega))
      · omega
  · rw [if_neg e1]; exact (h x hx).2
theorem ps_at {c : Nat → Nat → Nat} {n s : Nat} (hc : Co c n) {l : List (Nat × Nat)} (hl : In n l) {d : Nat → Nat} (h : At c n s d) : At c n s (ps c l d) := by
  induction l generalizing d with
  | nil => exact h
  | cons p l ih => rw [ps_cons]; exact ih (fun q hq => hl q (List.mem_cons_of_mem _ hq)) (st_at hc h (hl p (List.mem_cons_self ..)))
theorem Wk.ge {c : Nat → Nat → Nat} {n s : Nat} {e : Nat → Nat} (he : Fe c n e) (h0 : e s = 0) {a L : Nat} (h : Wk c n s a L) : e a ≤ L := by
  refine Wk.ind (fun a L => e a ≤ L) (by omega) ?_ h
  intro a b L ha hb hab _ _ ih
  have := he _ ha _ hb hab; omega
/-- from a, along exact steps to s -/
def TwN (c : Nat → Nat → Nat) (n s : Nat) (e : Nat → Nat) : Nat → Nat → Prop
  | 0, a => a = s
  | k + 1, a => ∃ b, a < n ∧ b < n ∧ a ≠ b ∧ c a b ≤ 1 ∧ e a = e b + c a b ∧ TwN c n s e k b
def Tw (c : Nat → Nat → Nat) (n s : Nat) (e : Nat → Nat) (a : Nat) : Prop := ∃ k, TwN c n s e k a
theorem Wk.tight {c : Nat → Nat → Nat} {n s : Nat} {e : Nat → Nat} (he : Fe c n e) (h0 : e s = 0) {a L : Nat} (h : Wk c n s a L) : e a = L → Tw c n s e a := by
  refine Wk.ind (fun a L => e a = L → Tw c n s e a) (fun _ => ⟨0, rfl⟩) ?_ h
  intro a b L ha hb hab h1 hw ih hL
  have h2 := he _ ha _ hb hab
  have h3 := hw.ge he h0
  obtain ⟨k, hk⟩ := ih (by omega)
  exact ⟨k + 1, b, ha, hb, hab, h1, by omega, hk⟩
theorem Tw.edge {c : Nat → Nat → Nat} {n s : Nat} {e : Nat → Nat} (F : Nat → Prop) [DecidablePred F] (hs : F s) {a : Nat} (h : Tw c n s e a) : ¬ F a → ∃ u w, u < n ∧ w < n ∧ u ≠ w ∧ c u w ≤ 1 ∧ e u = e w + c u w ∧ ¬ F u ∧ F w := by
  obtain ⟨k, hk⟩ := h
  induction k generalizing a with
  | zero => intro h; rw [show a = s from hk] at h; exact absurd hs h
  | succ k ih =>
    intro hF
    obtain ⟨b, ha, hb, hab, h1, he, hw⟩ := hk
    by_cases q : F b
    · exact ⟨a, b, ha, hb, hab, h1, he, hF, q⟩
    · exact ih hw q
/-- how many of the first n -/
def ct (F : Nat → Prop) [DecidablePred F] : Nat → Nat
  | 0 => 0
  | n + 1 => ct F n + (if F n then 1 else 0)
theorem ct_le (F : Nat → Prop) [DecidablePred F] (n : Nat) : ct F n ≤ n := by
  induction n with
  | zero => exact Nat.le_refl 0
  | succ n ih => unfold ct; by_cases h : F n <;> simp only [h, if_true, if_false] <;> omega
theorem ct_all (F : Nat → Prop) [DecidablePred F] (n : Nat) : n ≤ ct F n → ∀ x, x < n → F x := by
  induction n with
  | zero => intro _ x hx; omega
  | succ n ih =>
    intro h x hx
    unfold ct at h
    have h1 := ct_le F n
    by_cases q : F n
    · by_cases e : x = n
      · rw [e]; exact q
      · rw [if_pos q] at h; exact ih (by omega) x (by omega)
    · rw [if_neg q] at h; omega
theorem ct_mono (F G : Nat → Prop) [DecidablePred F] [DecidablePred G] (n : Nat) (h : ∀ x, x < n → F x → G x) : ct F n ≤ ct G n := by
  induction n with
  | zero => exact Nat.le_refl 0
  | succ n ih =>
    have := ih (fun x hx => h x (by omega))
    unfold ct
    by_cases q : F n
    · rw [if_pos q, if_pos (h n (by omega) q)]; omega
    · rw [if_neg q]; omega
theorem ct_lt (F G : Nat → Prop) [DecidablePred F] [DecidablePred G] (n : Nat) (h : ∀ x, x < n → F x → G x) {u : Nat} (hu : u < n) (h1 : ¬ F u) (h2 : G u) : ct F n < ct G n := by
  induction n with
  | zero => omega
  | succ n ih =>
    unfold ct
    by_cases e : u = n
    · subst e
      have := ct_mono F G u (fun x hx => h x (by omega))
      rw [if_neg h1, if_pos h2]; omega
    · have := ih (fun x hx => h x (by omega)) (by omega)
      by_cases q : F n
      · rw [if_pos q, if_pos (h n (by omega) q)]; omega
      · rw [if_neg q]; omega
theorem ct_pos (F : Nat → Prop) [DecidablePred F] {n u : Nat} (hu : u < n) (h : F u) : 1 ≤ ct F n := by
  have := ct_lt (fun _ => False) F n (fun _ _ h => h.elim) hu (fun h => h) h
  omega
def sm (d : Nat → Nat) : Nat → Nat
  | 0 => 0
  | n + 1 => sm d n + d n
theorem sm_le (d e : Nat → Nat) (n : Nat) (h : ∀ x, x < n → e x ≤ d x) : sm e n ≤ sm d n := by
  induction n with
  | zero => exact Nat.le_refl 0
  | succ n ih => have := ih (fun x hx => h x (by omega)); have := h n (by omega); unfold sm; omega
theorem sm_eq (d e : Nat → Nat) (n : Nat) (h : ∀ x, x < n → e x ≤ d x) : sm d n ≤ sm e n → ∀ x, x < n → e x = d x := by
  induction n with
  | zero => intro _ x hx; omega
  | succ n ih =>
    intro hs x hx
    have h1 := sm_le d e n (fun x hx => h x (by omega))
    have h2 := h n (by omega)
    unfold sm at hs
    by_cases q : x = n
    · subst q; omega
    · exact ih (fun x hx => h x (by omega)) (by omega) x (by omega)
def rd (c : Nat → Nat → Nat) (l : List (Nat × Nat)) : Nat → (Nat → Nat) → (Nat → Nat)
  | 0, d => d
  | k + 1, d => rd c l k (ps c l d)
theorem rd_1 (c : Nat → Nat → Nat) (l : List (Nat × Nat)) (k : Nat) (d : Nat → Nat) : rd c l (k + 1) d = ps c l (rd c l k d) := by
  induction k generalizing d with
  | zero => rfl
  | succ k ih => show rd c l (k + 1) (ps c l d) = ps c l (rd c l k (ps c l d)); exact ih _
theorem rd_at {c : Nat → Nat → Nat} {n s : Nat} (hc : Co c n) {l : List (Nat × Nat)} (hl : In n l) {d : Nat → Nat} (h : At c n s d) (k : Nat) : At c n s (rd c l k d) := by
  induction k generalizing d with
  | zero => exact h
  | succ k ih => exact ih (ps_at hc hl h)
theorem rd_low {c : Nat → Nat → Nat} {n : Nat} {l : List (Nat × Nat)} (hl : In n l) {e : Nat → Nat} (he : Fe c n e) (d : Nat → Nat) (h : ∀ x, x < n → e x ≤ d x) (k : Nat) : ∀ x, x < n → e x ≤ rd c l k d x := by
  induction k generalizing d with
  | zero => exact h
  | succ k ih => exact ih _ (ps_low hl he d h)
theorem rd_le (c : Nat → Nat → Nat) (l : List (Nat × Nat)) (d : Nat → Nat) (k x : Nat) : rd c l k d x ≤ d x := by
  induction k generalizing d with
  | zero => exact Nat.le_refl _
  | succ k ih => exact Nat.le_trans (ih _) (ps_le c l d x)
/-- nothing changes in a round: nothing is shorter -/
theorem ps_fix {c : Nat → Nat → Nat} {n : Nat} {l : List (Nat × Nat)} (hl : Al n l) {d : Nat → Nat} (h : ∀ x, x < n → ps c l d x = d x) : Fe c n d := by
  intro a ha b hb _
  have := ps_hit c l d (hl.1 a ha b hb)
  rw [h a ha] at this; exact this
/-- some state of nothing shorter lies below -/
theorem rd_ex {c : Nat → Nat → Nat} {n : Nat} {l : List (Nat × Nat)} (hl : Al n l) : ∀ (S : Nat) (d : Nat → Nat), sm d n ≤ S → ∃ K, Fe c n (rd c l K d) := by
  intro S
  induction S with
  | zero =>
    intro d hd
    refine ⟨0, ps_fix hl (fun x hx => ?_)⟩
    exact sm_eq d (ps c l d) n (fun x _ => ps_le c l d x) (by omega) x hx
  | succ S ih =>
    intro d hd
    by_cases q : sm d n ≤ sm (ps c l d) n
    · exact ⟨0, ps_fix hl (sm_eq d (ps c l d) n (fun x _ => ps_le c l d x) q)⟩
    · obtain ⟨K, hK⟩ := ih (ps c l d) (by omega)
      exact ⟨K + 1, hK⟩
/-- n - 1 rounds are enough -/
theorem rd_fe {c : Nat → Nat → Nat} {n s : Nat} (hc : Co c n) {l : List (Nat × Nat)} (hl : Al n l) (hs : s < n) {d : Nat → Nat} (h : At c n s d) (h0 : d s = 0) {k : Nat} (hk : n ≤ k + 1) : Fe c n (rd c l k d) := by
  obtain ⟨K, hK⟩ := rd_ex (c := c) hl (sm d n) d (Nat.le_refl _)
  have hAt := rd_at hc hl.2 h K
  have hz : rd c l K d s = 0 := Nat.le_zero.mp (by rw [← h0]; exact rd_le c l d K s)
  have low : ∀ j, ∀ x, x < n → rd c l K d x ≤ rd c l j d x := fun j => rd_low hl.2 hK d (fun x _ => rd_le c l d K x) j
  have zz : ∀ j, rd c l j d s ≤ rd c l K d s := fun j => by rw [hz, ← h0]; exact rd_le c l d j s
  have grow : ∀ j, j + 1 ≤ ct (fun x => rd c l j d x ≤ rd c l K d x) n ∨ ∀ x, x < n → rd c l j d x ≤ rd c l K d x := by
    intro j
    induction j with
    | zero => left; exact ct_pos _ hs (zz 0)
    | succ j ih =>
      have up : ∀ x, x < n → rd c l j d x ≤ rd c l K d x → rd c l (j + 1) d x ≤ rd c l K d x := fun x _ hx => Nat.le_trans (by rw [rd_1]; exact ps_le c l _ x) hx
      rcases ih with ih | ih
      · by_cases q : ∀ x, x < n → rd c l j d x ≤ rd c l K d x
        · right; exact fun x hx => up x hx (q x hx)
        · left
          have q' : ∃ y, y < n ∧ ¬ rd c l j d y ≤ rd c l K d y := by
            refine Classical.byContradiction fun hq => q fun x hx => ?_
            exact Classical.byContradiction fun hx2 => hq ⟨x, hx, hx2⟩
          obtain ⟨y, hy, hyn⟩ := q'
          have hy1 := rd_le c l d j y
          have hy2 := (h y hy).1
          have tw := ((hAt y hy).2 (by omega)).tight hK hz rfl
          obtain ⟨u, w, hu, hw, huw, -, e1, e2, e3⟩ := tw.edge (fun x => rd c l j d x ≤ rd c l K d x) (zz j) hyn
          have := ct_lt (fun x => rd c l j d x ≤ rd c l K d x) (fun x => rd c l (j + 1) d x ≤ rd c l K d x) n up hu e2 (by
            rw [rd_1]
            have := ps_hit c l (rd c l j d) (hl.1 u hu w hw)
            omega)
          omega
      · right; exact fun x hx => up x hx (ih x hx)
  have fin : ∀ x, x < n → rd c l k d x ≤ rd c l K d x := by
    rcases grow k with g | g
    · exact ct_all _ n (by omega)
    · exact g
  intro a ha b hb hab
  have h1 := fin a ha
  have h2 := low k b hb
  have h3 := hK a ha b hb hab
  omega
/-- the one state: nothing shorter, 0 at s, all below 1000 walked -/
def Ds (c : Nat → Nat → Nat) (n s : Nat) (d : Nat → Nat) : Prop := At c n s d ∧ Fe c n d ∧ d s = 0
theorem Ds.uniq {c : Nat → Nat → Nat} {n s : Nat} {d e : Nat → Nat} (h : Ds c n s d) (h' : Ds c n s e) : ∀ x, x < n → d x = e x := by
  intro x hx
  have a1 := (h.1 x hx).1
  have b1 := (h'.1 x hx).1
  by_cases q : d x < 1000
  · have := ((h.1 x hx).2 q).ge h'.2.1 h'.2.2
    have := ((h'.1 x hx).2 (by omega)).ge h.2.1 h.2.2
    omega
  · by_cases q2 : e x < 1000
    · have := ((h'.1 x hx).2 q2).ge h.2.1 h.2.2
      omega
    · omega
theorem Wk.snoc {c : Nat → Nat → Nat} {n s t : Nat} (hs : s < n) (ht : t < n) (hst : s ≠ t) (h1 : c s t ≤ 1) {a L : Nat} (h : Wk c n s a L) : Wk c n t a (L + c s t) := by
  refine Wk.ind (fun a L => Wk c n t a (L + c s t)) ?_ ?_ h
  · have := Wk.cons (c := c) (n := n) (s := t) hs ht hst h1 Wk.nil
    rw [Nat.add_zero] at this; rw [Nat.zero_add]; exact this
  · intro a b L ha hb hab h2 _ ih
    rw [Nat.add_assoc]; exact Wk.cons ha hb hab h2 ih
theorem Wk.rev {c : Nat → Nat → Nat} {n s : Nat} (hc : ∀ a b, c a b = c b a) {a L : Nat} (h : Wk c n s a L) : Wk c n a s L := by
  refine Wk.ind (fun a L => Wk c n a s L) Wk.nil ?_ h
  intro a b L ha hb hab h2 _ ih
  have := ih.snoc hb ha (fun e => hab e.symm) (by rw [hc]; exact h2)
  rw [hc a b, Nat.add_comm]; exact this
/-- the way there is as far as the way back -/
theorem Ds.sym {c : Nat → Nat → Nat} {n s t : Nat} (hc : ∀ a b, c a b = c b a) (hs : s < n) (ht : t < n) {d e : Nat → Nat} (h : Ds c n s d) (h' : Ds c n t e) : d t = e s := by
  have a1 := (h.1 t ht).1
  have b1 := (h'.1 s hs).1
  by_cases q : d t < 1000
  · have := ((h.1 t ht).2 q).rev hc |>.ge h'.2.1 h'.2.2
    have := ((h'.1 s hs).2 (by omega)).rev hc |>.ge h.2.1 h.2.2
    omega
  · by_cases q2 : e s < 1000
    · have := ((h'.1 s hs).2 q2).rev hc |>.ge h.2.1 h.2.2
      omega
    · omega
/-- rows of pairs, from b on; and from a on -/
def rwL (a : Nat) : Nat → Nat → List (Nat × Nat)
  | 0, _ => []
  | m + 1, b => (a, b) :: rwL a m (b + 1)
def alL (n : Nat) : Nat → Nat → List (Nat × Nat)
  | 0, _ => []
  | m + 1, a => rwL a n 0 ++ alL n m (a + 1)
theorem rwL_mem (a m b : Nat) (p : Nat × Nat) : p ∈ rwL a m b ↔ p.1 = a ∧ b ≤ p.2 ∧ p.2 < b + m := by
  induction m generalizing b with
  | zero => unfold rwL; constructor
            · intro h; cases h
            · intro h; omega
  | succ m ih =>
    unfold rwL; rw [List.mem_cons, ih]
    constructor
    · rintro (h | h)
      · rw [h]; exact ⟨rfl, Nat.le_refl _, by show b < b + (m + 1); omega⟩
      · omega
    · intro h
      by_cases q : p.2 = b
      · left; rw [← q, ← h.1]
      · right; omega
theorem alL_mem (n m a : Nat) (p : Nat × Nat) : p ∈ alL n m a ↔ (a ≤ p.1 ∧ p.1 < a + m) ∧ p.2 < n := by
  induction m generalizing a with
  | zero => unfold alL; constructor
            · intro h; cases h
            · intro h; omega
  | succ m ih =>
    unfold alL; rw [List.mem_append, ih, rwL_mem]
    constructor
    · rintro (h | h) <;> omega
    · intro h
      by_cases q : p.1 = a
      · left; omega
      · right; omega
theorem alL_al (n : Nat) : Al n (alL n n 0) := by
  refine ⟨fun a ha b hb => (alL_mem n n 0 (a, b)).mpr ?_, fun p hp => ?_⟩
  · exact ⟨⟨Nat.zero_le _, by show a < 0 + n; omega⟩, hb⟩
  · have := (alL_mem n n 0 p).mp hp; omega
/-- the same pairs, turned -/
def tn (p : Nat × Nat) : Nat × Nat := (p.2, p.1)
theorem alT_al (n : Nat) : Al n ((alL n n 0).map tn) := by
  refine ⟨fun a ha b hb => List.mem_map.mpr ⟨(b, a), (alL_al n).1 b hb a ha, rfl⟩, fun p hp => ?_⟩
  obtain ⟨q, hq, rfl⟩ := List.mem_map.mp hp
  have := (alL_al n).2 q hq
  exact ⟨this.2, this.1⟩
/-- where a walk starts: 0 at s, 1000 elsewhere -/
def d0 (s : Nat) : Nat → Nat := fun x => if x = s then 0 else 1000
theorem d0_at (c : Nat → Nat → Nat) (n s : Nat) : At c n s (d0 s) := by
  intro x _
  unfold d0
  by_cases q : x = s
  · subst q; rw [if_pos rfl]; exact ⟨by omega, fun _ => Wk.nil⟩
  · rw [if_neg q]; exact ⟨by omega, fun h => by omega⟩
theorem d0_s (s : Nat) : d0 s s = 0 := by unfold d0; rw [if_pos rfl]
theorem rd_ds {c : Nat → Nat → Nat} {n s : Nat} (hc : Co c n) {l : List (Nat × Nat)} (hl : Al n l) (hs : s < n) {k : Nat} (hk : n ≤ k + 1) : Ds c n s (rd c l k (d0 s)) :=
  ⟨rd_at hc hl.2 (d0_at c n s) k, rd_fe hc hl hs (d0_at c n s) (d0_s s) hk, Nat.le_zero.mp (by rw [← d0_s s]; exact rd_le c l _ k s)⟩
