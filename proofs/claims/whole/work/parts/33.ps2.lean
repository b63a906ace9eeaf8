/-! simple calls, second part -/
theorem gB_b2i {α : Type} (b : Bool) (x : Option α) : gB (b2i b) x = x := by cases b <;> rfl
theorem canMoveX {L : Bk} {v : Vw} (hL : LandV L v) (hR : Rng v) {k f : Nat} (hk : k < v 1 0) (hf : f < v 0 0) : fX0_canMove L (nI k) (nI f) = some (b2i (adj v (th v k) (v 6 k) f)) := by
  have h1 := hR.2.1
  obtain ⟨a1, a2, a3⟩ := hL.2.2.2 k hk
  unfold fX0_canMove
  rw [gIn (show k < 5 by omega) (by omega), thickX hL hR hk, cl (show k < 1000000 by omega), a3]
  simp only [Option.bind_some, letsX hL hR (hR.2.2.2 k hk).2.2.2 hf (th_lt hR hk), gB_b2i]
theorem moveX {L : Bk} {v : Vw} (hL : LandV L v) (hR : Rng v) {k f : Nat} (hk : k < v 1 0) (hf : f < v 0 0) (hne : v 6 k ≠ f) : fX0_move L (nI k) (nI f) = some (sB (sB L 2 0 ((L 2 0) ||| (1 <<< (nI (he (v 0 0) (v 6 k) f) &&& 31)))) 6 k (nI f)) := by
  have h1 := hR.2.1
  obtain ⟨a1, a2, a3⟩ := hL.2.2.2 k hk
  unfold fX0_move
  rw [gIn (show k < 5 by omega) (by omega), cl (show k < 1000000 by omega), a3, hedgeX hL hR (hR.2.2.2 k hk).2.2.2 hf hne]
  simp only [Option.bind_some]
theorem areTwoM {M : Bk} {v : Vw} (hM : ModV M v) (hR : Rng v) {a b : Nat} (ha : a < v 0 0) (hb : b < v 0 0) : fX4_areTwo M (nI a) (nI b) = some (b2i (decide (a ≠ b))) := by
  have h0 := hR.1
  unfold fX4_areTwo fX4_isField
  rw [hM.1, if_neg (nlt0 (show a < 1000000 by omega)), if_neg (nlt0 (show b < 1000000 by omega)), if_neg (by rw [le' (by omega) (by omega)]; omega), if_neg (by rw [le' (by omega) (by omega)]; omega)]
  simp only [Option.bind_some, one_ne, if_false, eq' (show a < 1000000 by omega) (show b < 1000000 by omega)]
  by_cases c : a = b <;> simp [c, b2i]
theorem goesM {M : Bk} {v : Vw} (hM : ModV M v) (hR : Rng v) {k f : Nat} (hk : k < v 1 0) (hf : f < v 0 0) : fX4_goesTo M (nI k) (nI f) = if adj v (th v k) (v 6 k) f = true then some ((1 : Int32), sB (sB M 9 0 ((M 9 0) ||| (1 <<< (nI (he (v 0 0) (v 6 k) f) &&& 31)))) 13 k (nI f)) else some ((0 : Int32), M) := by
  have h1 := hR.2.1
  obtain ⟨a1, a2, a3⟩ := hM.2.2.2 k hk
  have hp := (hR.2.2.2 k hk).2.2.2
  unfold fX4_goesTo adj
  rw [gIn (show k < 5 by omega) (by omega), cl (show k < 1000000 by omega), a3, areTwoM hM hR hp hf]
  by_cases c : v 6 k = f
  · simp [c, b2i]
  · have h2 := he_lt _ hR.1 _ hp _ hf c
    simp only [Option.bind_some, b2i_0, c, ne_eq, not_false_eq_true, decide_true, Bool.true_eq_false, if_false, hedgeM hM hR hp hf c, fitsM hM hR hk h2, Bool.true_and]
    cases fitB (v 3 (he (v 0 0) (v 6 k) f)) (th v k) <;> simp
theorem th_setP (v : Vw) (k f q : Nat) : th (uV v 6 k f) q = th v q := by unfold th; rw [uV_ne _ _ _ _ (by decide), uV_ne _ _ _ _ (by decide)]
theorem adj_ne {v : Vw} {t a b : Nat} (h : adj v t a b = true) : a ≠ b := by
  unfold adj at h; simp at h; exact h.1
/-- after a going: both states -/
theorem relMove {v r : Vw} {X : Bk} {Rw : Nat → Bk} {L N M : Bk} (h : RelV v r X Rw L N M) {k f : Nat} (hk : k < v 1 0) (hf : f < v 0 0) (x : Int32) : RelV (uV v 6 k f) r X Rw (sB (sB L 2 0 ((L 2 0) ||| x)) 6 k (nI f)) N (sB (sB M 9 0 ((M 9 0) ||| x)) 13 k (nI f)) := by
  obtain ⟨hR, hL, hM, hw, hS, hd, hdr, hrow⟩ := h
  refine ⟨hR.setG k (Or.inr (Or.inr ⟨rfl, hf⟩)), LandV.setG (hL.fr rfl rfl rfl rfl rfl rfl) (Or.inr (Or.inr rfl)) k f, ModV.setG (f := 6) (hM.fr rfl rfl rfl rfl rfl rfl) (Or.inr (Or.inr rfl)) k f, ?_, hS.fr rfl rfl rfl rfl, hd.fr rfl rfl rfl rfl, hdr.fr (uV_ne _ _ _ _ (by decide)) (uV_ne _ _ _ _ (by decide)), fun k hk => (hrow k hk).fr rfl rfl rfl⟩
  simp only [sB_ne _ _ _ (show (2 : Nat) ≠ 6 by decide), sB_ne _ _ _ (show (9 : Nat) ≠ 13 by decide), sB_same, hw]
theorem sim_go {X : Bk} {Rw : Nat → Bk} {L N M : Bk} (T : Bk) (h : Rel X Rw L N M) (p0 : Int32) (p1 : Int32) : ∃ (k : Nat) (ox : (Int32 × Bk × Bk)) (om : (Int32 × Bk)), k < 4 ∧ fX3_go X L p0 p1 = some ox ∧ fX4_go M p0 p1 = some om ∧ ox.1 = om.1 ∧ Rel ox.2.1 Rw ox.2.2 N om.2 := by
  obtain ⟨v, r, hrel⟩ := id h
  obtain ⟨hR, hL, hM, hw, hS, hd, hdr, hrow⟩ := id hrel
  unfold fX3_go fX4_go
  rcases goerC hL hM hR p0 with ⟨e1, e2⟩ | ⟨k, hk, rfl, e1, e2⟩
  · rw [e1, e2]; exact ⟨0, _, _, by decide, rfl, rfl, rfl, h⟩
  · rcases fieldC hL hM hR p1 with ⟨e3, e4⟩ | ⟨f, hf, rfl, e3, e4⟩
    · rw [e1, e2, e3, e4]; exact ⟨0, _, _, by decide, rfl, rfl, rfl, h⟩
    · have h1 := hR.2.1
      obtain ⟨a1, a2, a3⟩ := hL.2.2.2 k hk
      obtain ⟨b1, b2, b3⟩ := hM.2.2.2 k hk
      rw [e1, e2, e3, e4]
      simp only [Option.bind_some, one_ne, if_false, canMoveX hL hR hk hf, goesM hM hR hk hf, gIn (show k < 5 by omega) (show 5 < 1000000 by omega), cl (show k < 1000000 by omega), b2i_0]
      cases hadj : adj v (th v k) (v 6 k) f with
      | false => simp only [if_true, Bool.false_eq_true, if_false, Option.bind_some]; exact ⟨0, _, _, by decide, rfl, rfl, rfl, h⟩
      | true =>
        have hne := adj_ne hadj
        have hp := (hR.2.2.2 k hk).2.2.2
        have h2 := he_lt _ hR.1 _ hp _ hf hne
        have h3 := hN_le _ hR.1
        have hm := relMove hrel hk hf (1 <<< (nI (he (v 0 0) (v 6 k) f) &&& 31))
        obtain ⟨hR', hL', hM', -⟩ := id hm
        have hM2 := hM'.fr (M' := sB (sB (sB M 9 0 ((M 9 0) ||| (1 <<< (nI (he (v 0 0) (v 6 k) f) &&& 31)))) 13 k (nI f)) 8 0 ((sB (sB M 9 0 ((M 9 0) ||| (1 <<< (nI (he (v 0 0) (v 6 k) f) &&& 31)))) 13 k (nI f)) 8 0 + 1)) rfl rfl rfl rfl rfl rfl
        have e5 := hedgeM0 (M := sB (sB (sB M 9 0 ((M 9 0) ||| (1 <<< (nI (he (v 0 0) (v 6 k) f) &&& 31)))) 13 k (nI f)) 8 0 ((sB (sB M 9 0 ((M 9 0) ||| (1 <<< (nI (he (v 0 0) (v 6 k) f) &&& 31)))) 13 k (nI f)) 8 0 + 1)) (n := v 0 0) (by have := hM2.1; rw [uV_ne _ _ _ _ (by decide)] at this; exact this) hR.1 hp hf hne
        have e6 := thickM hM2 hR' (k := k) (by rw [uV_ne _ _ _ _ (by decide)]; exact hk)
        rw [th_setP] at e6
        have e7 := hM2.2.2.1 (he (v 0 0) (v 6 k) f) (by rw [uV_ne _ _ _ _ (by decide)]; exact h2)
        rw [uV_ne _ _ _ _ (by decide)] at e7
        simp only [Bool.true_eq_false, if_false, if_true, Option.bind_some, one_ne, a3, b3, hedgeX hL hR hp hf hne, thickX hL hR hk, moveX hL hR hk hf hne, gIn (show he (v 0 0) (v 6 k) f < 10 by omega) (show 10 < 1000000 by omega), cl (show he (v 0 0) (v 6 k) f < 1000000 by omega), e5, e6, e7, hL.2.2.1 _ h2]
        refine ⟨0, _, _, by decide, rfl, rfl, rfl, ?_⟩
        obtain ⟨q1, q2, q3, q4, q5, q6, q7, q8⟩ := hm
        refine ⟨_, r, q1, q2, hM2, q4, ?_, q6.fr rfl rfl rfl rfl, q7, fun k hk => (q8 k hk).fr rfl rfl rfl⟩
        obtain ⟨s1, s2, s3, s4⟩ := q5
        refine ⟨s1, s2, s3, ?_⟩
        simp only [sB_same]; rw [s4]
theorem stopX {L : Bk} {v : Vw} (hL : LandV L v) (hR : Rng v) {q : Nat} (hq : q < hN (v 0 0)) : fX0_stopUp L (nI q) = if v 3 q = 0 then some (0, L) else some (1, sB L 3 q (nI 9)) := by
  have h3 := hN_le _ hR.1
  unfold fX0_stopUp
  rw [hedgesX hL hR]
  have c : ¬ nI (hN (v 0 0)) ≤ nI q := by rw [le' (by omega) (by omega)]; omega
  have hz : (nI (v 3 q) = 0) ↔ v 3 q = 0 := eq' (a := v 3 q) (b := 0) (by have := hR.2.2.1 q hq; omega) (by omega)
  simp only [Option.bind_some, if_neg c, gIn (show q < 10 by omega) (show 10 < 1000000 by omega), cl (show q < 1000000 by omega), hL.2.2.1 _ hq, hz]
  by_cases c0 : v 3 q = 0 <;> simp only [c0, if_true, if_false] <;> rfl
theorem sim_stop {X : Bk} {Rw : Nat → Bk} {L N M : Bk} (T : Bk) (h : Rel X Rw L N M) (p0 : Int32) (p1 : Int32) : ∃ (k : Nat) (ox : (Int32 × Bk)) (om : (Int32 × Bk)), k < 4 ∧ fX3_stop L p0 p1 = some ox ∧ fX4_stop M p0 p1 = some om ∧ ox.1 = om.1 ∧ Rel X Rw ox.2 N om.2 := by
  obtain ⟨v, r, hR, hL, hM, hw, hS, hd, hdr, hrow⟩ := id h
  unfold fX3_stop fX4_stop
  rcases twoC hL hM hR p0 p1 with ⟨e1, e2⟩ | ⟨a, b, ha, hb, hab, rfl, rfl, e1, e2⟩
  · rw [e1, e2]; exact ⟨0, _, _, by decide, rfl, rfl, rfl, h⟩
  · have h1 := hN_le _ hR.1
    have h2 := he_lt _ hR.1 a ha b hb hab
    have hz : (nI (v 3 (he (v 0 0) a b)) = 0) ↔ v 3 (he (v 0 0) a b) = 0 := eq' (b := 0) (by have := hR.2.2.1 _ h2; omega) (by omega)
    rw [e1, e2]
    simp only [Option.bind_some, one_ne, if_false, hedgeX hL hR ha hb hab, hedgeM hM hR ha hb hab, gIn (show he (v 0 0) a b < 10 by omega) (show 10 < 1000000 by omega), cl (show he (v 0 0) a b < 1000000 by omega), hL.2.2.1 _ h2, hM.2.2.1 _ h2, stopX hL hR h2, hz]
    by_cases c : v 3 (he (v 0 0) a b) = 0
    · simp only [c, if_true, Option.bind_some]; exact ⟨0, _, _, by decide, rfl, rfl, rfl, h⟩
    · simp only [c, if_false, Option.bind_some, one_ne]
      refine ⟨0, _, _, by decide, rfl, rfl, rfl, ?_⟩
      exact ⟨uV v 3 (he (v 0 0) a b) 9, r, hR.setW _ (by decide), hL.setW _ 9, hM.setW _ 9, hw, hS.fr rfl rfl rfl rfl, hd.fr rfl rfl rfl rfl, hdr.fr (uV_ne _ _ _ _ (by decide)) (uV_ne _ _ _ _ (by decide)), fun k hk => (hrow k hk).fr rfl rfl rfl⟩
theorem sim_trace {X : Bk} {Rw : Nat → Bk} {L N M : Bk} (T : Bk) (h : Rel X Rw L N M)  : ∃ (k : Nat) (ox : Int32) (om : Int32), k < 4 ∧ fX3_trace X = some ox ∧ fX4_trace M = some om ∧ ox = om ∧ Rel X Rw L N M := by
  obtain ⟨v, r, hR, hL, hM, hw, hS, hd, hdr, hrow⟩ := id h
  exact ⟨0, _, _, by decide, rfl, rfl, hS.2.1, h⟩
theorem sim_fault {X : Bk} {Rw : Nat → Bk} {L N M : Bk} (T : Bk) (h : Rel X Rw L N M)  : ∃ (k : Nat) (ox : Int32) (om : Int32), k < 4 ∧ fX3_fault X = some ox ∧ fX4_fault M = some om ∧ ox = om ∧ Rel X Rw L N M := by
  obtain ⟨v, r, hR, hL, hM, hw, hS, hd, hdr, hrow⟩ := id h
  exact ⟨0, _, _, by decide, rfl, rfl, hS.1, h⟩
theorem sim_many {X : Bk} {Rw : Nat → Bk} {L N M : Bk} (T : Bk) (h : Rel X Rw L N M) (p0 : Int32) : ∃ (k : Nat) (ox : Int32) (om : Int32), k < 4 ∧ fX3_many X L N p0 = some ox ∧ fX4_many M p0 = some om ∧ ox = om ∧ Rel X Rw L N M := by
  obtain ⟨v, r, hR, hL, hM, hw, hS, hd, hdr, hrow⟩ := id h
  have key : ∃ x, fX3_many X L N p0 = some x ∧ fX4_many M p0 = some x := by
    unfold fX3_many fX4_many
    rw [hL.1, hL.2.1, hM.1, hM.2.1, hS.2.2.1, hS.2.2.2, hd.2.1, hd.2.2.1]
    refine ex2 ?_
    repeat' first | exact ⟨_, rfl⟩ | split
  obtain ⟨x, e1, e2⟩ := key
  exact ⟨0, x, x, by decide, e1, e2, rfl, h⟩
theorem sim_back {X : Bk} {Rw : Nat → Bk} {L N M : Bk} (T : Bk) (h : Rel X Rw L N M) (p0 : Int32) : ∃ (k : Nat) (ox : (Int32 × Bk)) (om : (Int32 × Bk)), k < 4 ∧ fX3_back N p0 = some ox ∧ fX4_back M p0 = some om ∧ ox.1 = om.1 ∧ Rel X Rw L ox.2 om.2 := by
  obtain ⟨v, r, hR, hL, hM, hw, hS, hd, hdr, hrow⟩ := id h
  unfold fX3_back fX4_back fX4_within
  rw [hd.2.1, hd.2.2.1]
  have hc := hd.1
  rcases ix p0 (r 3 0 + 1) (by omega) with q | q | ⟨j, hj, rfl⟩
  · simp only [if_pos q]; exact ⟨0, _, _, by decide, rfl, rfl, rfl, h⟩
  · have q0 : nI (r 3 0) < p0 := Int32.lt_of_lt_of_le ((lt' (by omega) (by omega)).mpr (by omega)) q
    have q2 : ¬ p0 ≤ nI (r 3 0) := Int32.not_le.mpr q0
    by_cases c : p0 < 0
    · simp only [if_pos c]; exact ⟨0, _, _, by decide, rfl, rfl, rfl, h⟩
    · simp only [if_neg c, if_neg q2, if_pos q0]; exact ⟨0, _, _, by decide, rfl, rfl, rfl, h⟩
  · have q1 : ¬ nI j < 0 := nlt0 (by omega)
    have q2 : nI j ≤ nI (r 3 0) := (le' (by omega) (by omega)).mpr (by omega)
    have q3 : ¬ nI (r 3 0) < nI j := Int32.not_lt.mpr q2
    simp only [if_neg q1, if_pos q2, if_neg q3, Option.bind_some, one_ne, if_false, pk_sub (show j ≤ r 3 0 by omega)]
    refine ⟨0, _, _, by decide, rfl, rfl, ?_, ?_⟩
    · simp only [sB_same]
    · refine ⟨v, uV r 3 0 (r 3 0 - j), hR, hL, hM.fr rfl rfl rfl rfl rfl rfl, hw, hS.fr rfl rfl rfl rfl, ⟨?_, ?_, ?_, fun x hx => ?_⟩, fun x hx => ?_, fun k hk => (hrow k hk).fr rfl rfl rfl⟩
      · rw [uV_row, if_pos rfl]; omega
      · simp only [sB_same]; rw [uV_row, if_pos rfl]
      · simp only [sB_same]; rw [uV_row, if_pos rfl]
      · rw [uV_row, if_pos rfl] at hx
        rw [uV_ne _ _ _ _ (show (0 : Nat) ≠ 3 by decide), uV_ne _ _ _ _ (show (1 : Nat) ≠ 3 by decide), uV_ne _ _ _ _ (show (2 : Nat) ≠ 3 by decide)]
        exact hd.2.2.2 x (by omega)
      · rw [uV_row, if_pos rfl] at hx
        rw [uV_ne _ _ _ _ (show (0 : Nat) ≠ 3 by decide), uV_ne _ _ _ _ (show (1 : Nat) ≠ 3 by decide), uV_ne _ _ _ _ (show (2 : Nat) ≠ 3 by decide)]
        exact hdr x (by omega)
theorem childSum : ∀ g, g < 10 → (nI g + 100) + nI g = 2 * nI g + 100 := by decide +kernel
theorem sim_tell {X : Bk} {Rw : Nat → Bk} {L N M : Bk} (T : Bk) (h : Rel X Rw L N M) (p0 : Int32) : ∃ (k : Nat) (ox : (Int32 × Bk)) (om : (Int32 × Bk)), k < 4 ∧ fX3_tell X L p0 = some ox ∧ fX4_tell M p0 = some om ∧ ox.1 = om.1 ∧ Rel ox.2 Rw L N om.2 := by
  obtain ⟨v, r, hR, hL, hM, hw, hS, hd, hdr, hrow⟩ := id h
  unfold fX3_tell fX4_tell
  rcases goerC hL hM hR p0 with ⟨e1, e2⟩ | ⟨k, hk, rfl, e1, e2⟩
  · rw [e1, e2]; exact ⟨0, _, _, by decide, rfl, rfl, rfl, h⟩
  · have h1 := hR.2.1
    obtain ⟨a1, a2, a3⟩ := hL.2.2.2 k hk
    obtain ⟨b1, b2, b3⟩ := hM.2.2.2 k hk
    have hg := (hR.2.2.2 k hk).2.2.1
    have hk4 := (hR.2.2.2 k hk).1
    have z1 : (nI (v 4 k) = 1) ↔ v 4 k = 1 := eq' (b := 1) (by omega) (by omega)
    have z2 : (nI (v 4 k) = 2) ↔ v 4 k = 2 := eq' (b := 2) (by omega) (by omega)
    have fin : ∀ (X' M' : Bk), (X' 7 = X 7 ∧ X' 4 = X 4 ∧ X' 5 = X 5) → X' 6 0 = M' 1 0 → M' 0 = M 0 → M' 7 = M 7 → M' 8 = M 8 → (∀ j, 2 ≤ j → M' j = M j) → Rel X' Rw L N M' := by
      intro X' M' hx h6 m0 m7 m8 mj
      refine ⟨v, r, hR, hL, hM.fr (mj 5 (by omega)) (mj 6 (by omega)) (mj 10 (by omega)) (mj 11 (by omega)) (mj 12 (by omega)) (mj 13 (by omega)), ?_, ⟨?_, h6, ?_, ?_⟩, hd.fr (mj 25 (by omega)) (mj 26 (by omega)) (mj 27 (by omega)) (mj 28 (by omega)), hdr, fun k hk => (hrow k hk).fr (mj 2 (by omega)) (mj 3 (by omega)) (mj 4 (by omega))⟩
      · rw [mj 9 (by omega)]; exact hw
      · rw [hx.1, m0]; exact hS.1
      · rw [hx.2.1, m7]; exact hS.2.2.1
      · rw [hx.2.2, m8]; exact hS.2.2.2
    have mj : ∀ (B : Bk) (x : Int32) (j : Nat), 2 ≤ j → sB B 1 0 x j = B j := fun B x j hj => sB_ne _ _ _ (by omega)
    rw [e1, e2]
    simp only [Option.bind_some, one_ne, if_false, gIn (show k < 5 by omega) (show 5 < 1000000 by omega), cl (show k < 1000000 by omega), a1, a2, b1, b2, z1, z2, fX3_thiefTells, fX3_childTells, fX3_plainTells, fX3_leaveTrace, fX4_begins]
    by_cases c1 : v 4 k = 1
    · simp only [c1, if_true]
      refine ⟨0, _, _, by decide, rfl, rfl, rfl, ?_⟩
      refine fin _ _ ⟨rfl, rfl, rfl⟩ ?_ rfl rfl rfl (fun j hj => by simp only [mj _ _ j hj])
      simp only [sB_same, hS.2.1]
    · by_cases c2 : v 4 k = 2
      · simp only [c2, show ¬ ((2 : Nat) = 1) by decide, if_true, if_false]
        refine ⟨0, _, _, by decide, rfl, rfl, childSum _ hg, ?_⟩
        refine fin _ _ ⟨rfl, rfl, rfl⟩ ?_ rfl rfl rfl (fun j hj => by simp only [mj _ _ j hj])
        simp only [sB_same, hS.2.1]
      · simp only [c1, c2, if_false]
        refine ⟨0, _, _, by decide, rfl, rfl, rfl, ?_⟩
        refine fin _ _ ⟨rfl, rfl, rfl⟩ ?_ rfl rfl rfl (fun j hj => by simp only [mj _ _ j hj])
        simp only [sB_same, hS.2.1]
theorem sim_hail {X : Bk} {Rw : Nat → Bk} {L N M : Bk} (T : Bk) (h : Rel X Rw L N M) (p0 : Int32) : ∃ (k : Nat) (ox : (Int32 × Bk)) (om : (Int32 × Bk)), k < 4 ∧ fX3_hail X L p0 = some ox ∧ fX4_hail M p0 = some om ∧ ox.1 = om.1 ∧ Rel ox.2 Rw L N om.2 := by
  obtain ⟨v, r, hR, hL, hM, hw, hS, hd, hdr, hrow⟩ := id h
  unfold fX3_hail fX4_hail
  rcases goerC hL hM hR p0 with ⟨e1, e2⟩ | ⟨k, hk, rfl, e1, e2⟩
  · rw [e1, e2]; exact ⟨0, _, _, by decide, rfl, rfl, rfl, h⟩
  · have h1 := hR.2.1
    obtain ⟨a1, a2, a3⟩ := hL.2.2.2 k hk
    obtain ⟨b1, b2, b3⟩ := hM.2.2.2 k hk
    have hk4 := (hR.2.2.2 k hk).1
    have z2 : (nI (v 4 k) = 2) ↔ v 4 k = 2 := eq' (b := 2) (by omega) (by omega)
    rw [e1, e2]
    simp only [Option.bind_some, one_ne, if_false, gIn (show k < 5 by omega) (show 5 < 1000000 by omega), cl (show k < 1000000 by omega), a1, a3, b1, z2, fX3_leaveTrace, fX4_begins, sB_ne _ _ _ (show (11 : Nat) ≠ 1 by decide), sB_ne _ _ _ (show (13 : Nat) ≠ 1 by decide), b3]
    by_cases c2 : v 4 k = 2
    · simp only [c2, if_true]
      refine ⟨0, _, _, by decide, rfl, rfl, rfl, v, r, hR, hL, hM.fr rfl rfl rfl rfl rfl rfl, hw, ⟨hS.1, ?_, hS.2.2.1, hS.2.2.2⟩, hd.fr rfl rfl rfl rfl, hdr, fun k hk => (hrow k hk).fr rfl rfl rfl⟩
      simp only [sB_same, hS.2.1]
    · simp only [c2, if_false]
      refine ⟨0, _, _, by decide, rfl, rfl, rfl, v, r, hR, hL, hM.fr rfl rfl rfl rfl rfl rfl, hw, ⟨hS.1, ?_, hS.2.2.1, hS.2.2.2⟩, hd.fr rfl rfl rfl rfl, hdr, fun k hk => (hrow k hk).fr rfl rfl rfl⟩
      simp only [sB_same, hS.2.1]
/-- only the fault is set, alike -/
theorem relF {X : Bk} {Rw : Nat → Bk} {L N M : Bk} (h : Rel X Rw L N M) (x : Int32) : Rel (sB X 7 0 x) Rw L N (sB M 0 0 x) := by
  obtain ⟨v, r, hR, hL, hM, hw, hS, hd, hdr, hrow⟩ := id h
  exact ⟨v, r, hR, hL, hM.fr rfl rfl rfl rfl rfl rfl, hw, ⟨rfl, hS.2.1, hS.2.2.1, hS.2.2.2⟩, hd.fr rfl rfl rfl rfl, hdr, fun k hk => (hrow k hk).fr rfl rfl rfl⟩
theorem sim_as {X : Bk} {Rw : Nat → Bk} {L N M : Bk} (T : Bk) (h : Rel X Rw L N M) (p0 : Int32) (p1 : Int32) : ∃ (k : Nat) (ox : (Int32 × Bk)) (om : (Int32 × Bk)), k < 4 ∧ fX3_as X L p0 p1 = some ox ∧ fX4_as M p0 p1 = some om ∧ ox.1 = om.1 ∧ Rel ox.2 Rw L N om.2 := by
  have h' := relF h 0
  obtain ⟨v, r, hR, hL, hM, hw, hS, hd, hdr, hrow⟩ := id h'
  unfold fX3_as fX4_as
  simp only [Option.bind_some]
  rcases goerC hL hM hR p0 with ⟨e1, e2⟩ | ⟨k, hk, rfl, e1, e2⟩
  · rw [e1, e2]; exact ⟨0, _, _, by decide, rfl, rfl, rfl, h'⟩
  · have h1 := hR.2.1
    obtain ⟨a1, a2, a3⟩ := hL.2.2.2 k hk
    obtain ⟨b1, b2, b3⟩ := hM.2.2.2 k hk
    rw [e1, e2]
    simp only [Option.bind_some, one_ne, if_false, fX4_within]
    by_cases q : p1 < 0
    · simp only [if_pos q]; exact ⟨0, _, _, by decide, rfl, rfl, rfl, h'⟩
    · by_cases q2 : p1 ≤ 2
      · have q3 : ¬ (2 : Int32) < p1 := Int32.not_lt.mpr q2
        simp only [if_neg q, if_pos q2, if_neg q3, one_ne, if_false, gIn (show k < 5 by omega) (show 5 < 1000000 by omega), cl (show k < 1000000 by omega), a1, b1]
        by_cases c : nI (v 4 k) < p1
        · simp only [if_pos c, fX3_failed, fX4_fails, Option.bind_some]
          exact ⟨0, _, _, by decide, rfl, rfl, rfl, relF h' 2⟩
        · simp only [if_neg c]; exact ⟨0, _, _, by decide, rfl, rfl, rfl, h'⟩
      · have q3 : (2 : Int32) < p1 := Int32.not_le.mp q2
        simp only [if_neg q, if_neg q2, if_pos q3]; exact ⟨0, _, _, by decide, rfl, rfl, rfl, h'⟩
