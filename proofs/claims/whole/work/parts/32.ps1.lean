/-! simple calls: the class and the reference answer alike -/
theorem ex2 {α : Type} {e : Option α} (h : ∃ x, e = some x) : ∃ x, e = some x ∧ e = some x := h.elim fun x hx => ⟨x, hx, hx⟩
theorem and1 (x : Int32) : x &&& 1 = 0 ∨ x &&& 1 = 1 := by
  rw [pk_and x (m := 1) 1 (by decide)]
  rcases Nat.mod_two_eq_zero_or_one x.toBitVec.toNat with h | h
  · left; rw [show 2 ^ 1 = 2 from rfl, h]; rfl
  · right; rw [show 2 ^ 1 = 2 from rfl, h]; rfl
theorem one_ne : ¬ ((1 : Int32) = 0) := by decide
theorem sB_same (B : Bk) (k i : Nat) (x : Int32) : sB B k i x k i = x := by simp [sB, va_up, upd]
theorem sB_row (B : Bk) (k i j : Nat) (x : Int32) : sB B k i x k j = if j = i then x else B k j := by simp [sB, va_up, upd]
theorem sB_ne (B : Bk) {k j : Nat} (i : Nat) (x : Int32) (h : j ≠ k) : sB B k i x j = B j := by simp [sB, va_up, h]
theorem sA_same (B : Bk) (k : Nat) (f : Nat → Int32) : sA B k f k = f := by simp [sA, va_up]
theorem sA_ne (B : Bk) {k j : Nat} (f : Nat → Int32) (h : j ≠ k) : sA B k f j = B j := by simp [sA, va_up, h]
theorem uV_row (v : Vw) (k i j x : Nat) : uV v k i x k j = if j = i then x else v k j := by simp [uV]
theorem uV_ne (v : Vw) {k j : Nat} (i x b : Nat) (h : j ≠ k) : uV v k i x j b = v j b := by simp [uV, h]
theorem LandV.setW {L : Bk} {v : Vw} (h : LandV L v) (q j : Nat) : LandV (sB L 3 q (nI j)) (uV v 3 q j) := by
  refine ⟨?_, ?_, ?_, ?_⟩
  · rw [sB_ne _ _ _ (by decide), uV_ne _ _ _ _ (by decide)]; exact h.1
  · rw [sB_ne _ _ _ (by decide), uV_ne _ _ _ _ (by decide)]; exact h.2.1
  · intro x hx
    rw [uV_ne _ _ _ _ (by decide)] at hx
    rw [sB_row, uV_row]
    by_cases c : x = q
    · rw [if_pos c, if_pos c]
    · rw [if_neg c, if_neg c]; exact h.2.2.1 x hx
  · intro k hk
    rw [uV_ne _ _ _ _ (by decide)] at hk
    simp only [sB_ne L q (nI j) (show (4 : Nat) ≠ 3 by decide), sB_ne L q (nI j) (show (5 : Nat) ≠ 3 by decide), sB_ne L q (nI j) (show (6 : Nat) ≠ 3 by decide), uV_ne v q j k (show (4 : Nat) ≠ 3 by decide), uV_ne v q j k (show (5 : Nat) ≠ 3 by decide), uV_ne v q j k (show (6 : Nat) ≠ 3 by decide)]
    exact h.2.2.2 k hk
theorem ModV.setW {M : Bk} {v : Vw} (h : ModV M v) (q j : Nat) : ModV (sB M 10 q (nI j)) (uV v 3 q j) := by
  refine ⟨?_, ?_, ?_, ?_⟩
  · rw [sB_ne _ _ _ (by decide), uV_ne _ _ _ _ (by decide)]; exact h.1
  · rw [sB_ne _ _ _ (by decide), uV_ne _ _ _ _ (by decide)]; exact h.2.1
  · intro x hx
    rw [uV_ne _ _ _ _ (by decide)] at hx
    rw [sB_row, uV_row]
    by_cases c : x = q
    · rw [if_pos c, if_pos c]
    · rw [if_neg c, if_neg c]; exact h.2.2.1 x hx
  · intro k hk
    rw [uV_ne _ _ _ _ (by decide)] at hk
    simp only [sB_ne M q (nI j) (show (11 : Nat) ≠ 10 by decide), sB_ne M q (nI j) (show (12 : Nat) ≠ 10 by decide), sB_ne M q (nI j) (show (13 : Nat) ≠ 10 by decide), uV_ne v q j k (show (4 : Nat) ≠ 3 by decide), uV_ne v q j k (show (5 : Nat) ≠ 3 by decide), uV_ne v q j k (show (6 : Nat) ≠ 3 by decide)]
    exact h.2.2.2 k hk
/-- a goer's number f (4 kind, 5 girth, 6 field) is set -/
theorem LandV.setG {L : Bk} {v : Vw} (h : LandV L v) {f : Nat} (hf : f = 4 ∨ f = 5 ∨ f = 6) (q j : Nat) : LandV (sB L f q (nI j)) (uV v f q j) := by
  have key : ∀ (g : Nat) (k : Nat), L g k = nI (v g k) → sB L f q (nI j) g k = nI (uV v f q j g k) := by
    intro g k hg
    by_cases c : g = f
    · subst c; rw [sB_row, uV_row]
      by_cases c2 : k = q
      · rw [if_pos c2, if_pos c2]
      · rw [if_neg c2, if_neg c2]; exact hg
    · rw [sB_ne _ _ _ c, uV_ne _ _ _ _ c]; exact hg
  have n0 : (0 : Nat) ≠ f := by omega
  have n1 : (1 : Nat) ≠ f := by omega
  have n3 : (3 : Nat) ≠ f := by omega
  refine ⟨key 0 0 h.1, key 1 0 h.2.1, fun x hx => ?_, fun k hk => ?_⟩
  · rw [uV_ne _ _ _ _ n0] at hx; exact key 3 x (h.2.2.1 x hx)
  · rw [uV_ne _ _ _ _ n1] at hk
    obtain ⟨a1, a2, a3⟩ := h.2.2.2 k hk
    exact ⟨key 4 k a1, key 5 k a2, key 6 k a3⟩
theorem ModV.setG {M : Bk} {v : Vw} (h : ModV M v) {f : Nat} (hf : f = 4 ∨ f = 5 ∨ f = 6) (q j : Nat) : ModV (sB M (f + 7) q (nI j)) (uV v f q j) := by
  have key : ∀ (g : Nat) (k : Nat), M (g + 7) k = nI (v g k) → sB M (f + 7) q (nI j) (g + 7) k = nI (uV v f q j g k) := by
    intro g k hg
    by_cases c : g = f
    · subst c; rw [sB_row, uV_row]
      by_cases c2 : k = q
      · rw [if_pos c2, if_pos c2]
      · rw [if_neg c2, if_neg c2]; exact hg
    · rw [sB_ne _ _ _ (by omega), uV_ne _ _ _ _ c]; exact hg
  refine ⟨?_, ?_, fun x hx => ?_, fun k hk => ?_⟩
  · rw [sB_ne _ _ _ (by omega), uV_ne _ _ _ _ (by omega)]; exact h.1
  · rw [sB_ne _ _ _ (by omega), uV_ne _ _ _ _ (by omega)]; exact h.2.1
  · rw [uV_ne _ _ _ _ (by omega)] at hx
    rw [sB_ne _ _ _ (by omega), uV_ne _ _ _ _ (by omega)]; exact h.2.2.1 x hx
  · rw [uV_ne _ _ _ _ (by omega)] at hk
    obtain ⟨a1, a2, a3⟩ := h.2.2.2 k hk
    exact ⟨key 4 k a1, key 5 k a2, key 6 k a3⟩
theorem Rng.setW {v : Vw} (h : Rng v) (q : Nat) {j : Nat} (hj : j < 10) : Rng (uV v 3 q j) := by
  refine ⟨?_, ?_, fun x hx => ?_, fun k hk => ?_⟩
  · rw [uV_ne _ _ _ _ (by decide)]; exact h.1
  · rw [uV_ne _ _ _ _ (by decide)]; exact h.2.1
  · rw [uV_ne _ _ _ _ (by decide)] at hx
    rw [uV_row]
    by_cases c : x = q
    · rw [if_pos c]; exact hj
    · rw [if_neg c]; exact h.2.2.1 x hx
  · rw [uV_ne _ _ _ _ (by decide)] at hk
    simp only [uV_ne v q j k (show (4 : Nat) ≠ 3 by decide), uV_ne v q j k (show (5 : Nat) ≠ 3 by decide), uV_ne v q j k (show (6 : Nat) ≠ 3 by decide), uV_ne v q j 0 (show (0 : Nat) ≠ 3 by decide)]
    exact h.2.2.2 k hk
theorem Rng.setG {v : Vw} (h : Rng v) {f : Nat} (q : Nat) {j : Nat} (hj : (f = 4 ∧ j < 3) ∨ (f = 5 ∧ 1 ≤ j ∧ j < 10) ∨ (f = 6 ∧ j < v 0 0)) : Rng (uV v f q j) := by
  have n0 : (0 : Nat) ≠ f := by omega
  have n1 : (1 : Nat) ≠ f := by omega
  have n3 : (3 : Nat) ≠ f := by omega
  refine ⟨?_, ?_, fun x hx => ?_, fun k hk => ?_⟩
  · rw [uV_ne _ _ _ _ n0]; exact h.1
  · rw [uV_ne _ _ _ _ n1]; exact h.2.1
  · rw [uV_ne _ _ _ _ n0] at hx; rw [uV_ne _ _ _ _ n3]; exact h.2.2.1 x hx
  · rw [uV_ne _ _ _ _ n1] at hk
    obtain ⟨a1, a2, a3, a4⟩ := h.2.2.2 k hk
    rw [uV_ne _ _ _ _ n0]
    rcases hj with ⟨rfl, hj⟩ | ⟨rfl, hj⟩ | ⟨rfl, hj⟩
    · rw [uV_row, uV_ne _ _ _ _ (show (5 : Nat) ≠ 4 by decide), uV_ne _ _ _ _ (show (6 : Nat) ≠ 4 by decide)]
      by_cases c : k = q
      · rw [if_pos c]; exact ⟨hj, a2, a3, a4⟩
      · rw [if_neg c]; exact ⟨a1, a2, a3, a4⟩
    · rw [uV_row, uV_ne _ _ _ _ (show (4 : Nat) ≠ 5 by decide), uV_ne _ _ _ _ (show (6 : Nat) ≠ 5 by decide)]
      by_cases c : k = q
      · rw [if_pos c]; exact ⟨a1, hj.1, hj.2, a4⟩
      · rw [if_neg c]; exact ⟨a1, a2, a3, a4⟩
    · rw [uV_row, uV_ne _ _ _ _ (show (4 : Nat) ≠ 6 by decide), uV_ne _ _ _ _ (show (5 : Nat) ≠ 6 by decide)]
      by_cases c : k = q
      · rw [if_pos c]; exact ⟨a1, a2, a3, hj⟩
      · rw [if_neg c]; exact ⟨a1, a2, a3, a4⟩
theorem RdR.fr {r v v' : Vw} (h : RdR r v) (h0 : v' 0 0 = v 0 0) (h1 : v' 1 0 = v 1 0) : RdR r v' := by unfold RdR at *; rw [h0, h1]; exact h
theorem sim_ofGoer {X : Bk} {Rw : Nat → Bk} {L N M : Bk} (T : Bk) (h : Rel X Rw L N M) (p0 : Int32) (p1 : Int32) : ∃ (k : Nat) (ox : Int32) (om : Int32), k < 4 ∧ fX3_ofGoer L p0 p1 = some ox ∧ fX4_ofGoer M p0 p1 = some om ∧ ox = om ∧ Rel X Rw L N M := by
  obtain ⟨v, r, hR, hL, hM, hw, hS, hd, hdr, hrow⟩ := id h
  have key : ∃ x, fX3_ofGoer L p0 p1 = some x ∧ fX4_ofGoer M p0 p1 = some x := by
    unfold fX3_ofGoer fX4_ofGoer
    rcases goerC hL hM hR p0 with ⟨e1, e2⟩ | ⟨k, hk, rfl, e1, e2⟩
    · rw [e1, e2]; exact ⟨-1, rfl, rfl⟩
    · have h1 := hR.2.1
      obtain ⟨a1, a2, a3⟩ := hL.2.2.2 k hk
      obtain ⟨b1, b2, b3⟩ := hM.2.2.2 k hk
      rw [e1, e2]
      simp only [Option.bind_some, gIn (show k < 5 by omega) (show 5 < 1000000 by omega), cl (show k < 1000000 by omega), a1, a2, a3, b1, b2, b3, thickX hL hR hk, thickM hM hR hk, one_ne, if_false]
      refine ex2 ?_
      repeat' first | exact ⟨_, rfl⟩ | split
  obtain ⟨x, e1, e2⟩ := key
  exact ⟨0, x, x, by decide, e1, e2, rfl, h⟩
theorem sim_hole {X : Bk} {Rw : Nat → Bk} {L N M : Bk} (T : Bk) (h : Rel X Rw L N M) (p0 : Int32) (p1 : Int32) (p2 : Int32) : ∃ (k : Nat) (ox : Int32) (om : Int32), k < 4 ∧ fX3_hole L p0 p1 p2 = some ox ∧ fX4_hole M p0 p1 p2 = some om ∧ ox = om ∧ Rel X Rw L N M := by
  obtain ⟨v, r, hR, hL, hM, hw, hS, hd, hdr, hrow⟩ := id h
  have key : ∃ x, fX3_hole L p0 p1 p2 = some x ∧ fX4_hole M p0 p1 p2 = some x := by
    unfold fX3_hole fX4_hole
    rcases twoC hL hM hR p0 p1 with ⟨e1, e2⟩ | ⟨a, b, ha, hb, hab, rfl, rfl, e1, e2⟩
    · rw [e1, e2]; exact ⟨-1, rfl, rfl⟩
    · have h1 := hN_le _ hR.1
      have h2 := he_lt _ hR.1 a ha b hb hab
      rw [e1, e2]
      simp only [Option.bind_some, hedgeX hL hR ha hb hab, hedgeM hM hR ha hb hab, gIn (show he (v 0 0) a b < 10 by omega) (show 10 < 1000000 by omega), cl (show he (v 0 0) a b < 1000000 by omega), hL.2.2.1 _ h2, hM.2.2.1 _ h2, hw, one_ne, if_false, fX3_isIn]
      by_cases c0 : p2 = 0
      · simp only [c0, if_true]; exact ⟨_, rfl, rfl⟩
      · by_cases c1 : p2 = 1
        · simp only [c1, one_ne, if_true, if_false]
          rcases and1 (M 9 0 >>> (nI (he (v 0 0) a b) &&& 31)) with q | q
          · rw [q]; exact ⟨0, rfl, rfl⟩
          · rw [q]; exact ⟨1, rfl, rfl⟩
        · simp only [c0, c1, if_false]
          refine ex2 ?_
          repeat' first | exact ⟨_, rfl⟩ | split
  obtain ⟨x, e1, e2⟩ := key
  exact ⟨0, x, x, by decide, e1, e2, rfl, h⟩
theorem sim_hoop {X : Bk} {Rw : Nat → Bk} {L N M : Bk} (T : Bk) (h : Rel X Rw L N M) (p0 : Int32) (p1 : Int32) (p2 : Int32) : ∃ (k : Nat) (ox : (Int32 × Bk)) (om : (Int32 × Bk)), k < 4 ∧ fX3_hoop L p0 p1 p2 = some ox ∧ fX4_hoop M p0 p1 p2 = some om ∧ ox.1 = om.1 ∧ Rel X Rw ox.2 N om.2 := by
  obtain ⟨v, r, hR, hL, hM, hw, hS, hd, hdr, hrow⟩ := id h
  unfold fX3_hoop fX4_hoop
  rcases twoC hL hM hR p0 p1 with ⟨e1, e2⟩ | ⟨a, b, ha, hb, hab, rfl, rfl, e1, e2⟩
  · rw [e1, e2]; exact ⟨0, _, _, by decide, rfl, rfl, rfl, h⟩
  · have h1 := hN_le _ hR.1
    have h2 := he_lt _ hR.1 a ha b hb hab
    rw [e1, e2]
    simp only [Option.bind_some, one_ne, if_false, fX4_within]
    rcases ix p2 10 (by omega) with q | q | ⟨j, hj, rfl⟩
    · simp only [if_pos q]; exact ⟨0, _, _, by decide, rfl, rfl, rfl, h⟩
    · have q1 : ¬ p2 < 0 := by intro c; exact absurd (Int32.lt_of_lt_of_le c (by decide : (0 : Int32) ≤ 10)) (Int32.not_lt.mpr q)
      have q2 : ¬ p2 ≤ 9 := by intro c; exact absurd (Int32.lt_of_le_of_lt c (by decide : (9 : Int32) < 10)) (Int32.not_lt.mpr q)
      have q3 : (9 : Int32) < p2 := Int32.not_le.mp q2
      simp only [if_neg q1, if_neg q2, if_pos q3]; exact ⟨0, _, _, by decide, rfl, rfl, rfl, h⟩
    · have q1 : ¬ nI j < 0 := nlt0 (by omega)
      have q2 : nI j ≤ 9 := (le' (a := j) (b := 9) (by omega) (by omega)).mpr (by omega)
      have q3 : ¬ (9 : Int32) < nI j := Int32.not_lt.mpr q2
      simp only [if_neg q1, if_pos q2, if_neg q3, Option.bind_some, one_ne, if_false, hedgeX hL hR ha hb hab, hedgeM hM hR ha hb hab, gIn (show he (v 0 0) a b < 10 by omega) (show 10 < 1000000 by omega), cl (show he (v 0 0) a b < 1000000 by omega)]
      refine ⟨0, _, _, by decide, rfl, rfl, ?_, ?_⟩
      · exact (hL.2.2.1 _ h2).trans (hM.2.2.1 _ h2).symm
      · refine ⟨uV v 3 (he (v 0 0) a b) j, r, hR.setW _ hj, (hL.setW _ j).fr rfl rfl rfl rfl rfl rfl, (hM.setW _ j).fr rfl rfl rfl rfl rfl rfl, ?_, hS.fr rfl rfl rfl rfl, hd.fr rfl rfl rfl rfl, hdr.fr (uV_ne _ _ _ _ (by decide)) (uV_ne _ _ _ _ (by decide)), fun k hk => (hrow k hk).fr rfl rfl rfl⟩
        simp only [sB_same, sB_ne _ _ _ (show (2 : Nat) ≠ 3 by decide), sB_ne _ _ _ (show (9 : Nat) ≠ 10 by decide), hw]
theorem sim_fatten {X : Bk} {Rw : Nat → Bk} {L N M : Bk} (T : Bk) (h : Rel X Rw L N M) (p0 : Int32) (p1 : Int32) : ∃ (k : Nat) (ox : (Int32 × Bk)) (om : (Int32 × Bk)), k < 4 ∧ fX3_fatten L p0 p1 = some ox ∧ fX4_fatten M p0 p1 = some om ∧ ox.1 = om.1 ∧ Rel X Rw ox.2 N om.2 := by
  obtain ⟨v, r, hR, hL, hM, hw, hS, hd, hdr, hrow⟩ := id h
  unfold fX3_fatten fX4_fatten
  rcases goerC hL hM hR p0 with ⟨e1, e2⟩ | ⟨k, hk, rfl, e1, e2⟩
  · rw [e1, e2]; exact ⟨0, _, _, by decide, rfl, rfl, rfl, h⟩
  · have h1 := hR.2.1
    obtain ⟨a1, a2, a3⟩ := hL.2.2.2 k hk
    obtain ⟨b1, b2, b3⟩ := hM.2.2.2 k hk
    rw [e1, e2]
    simp only [Option.bind_some, one_ne, if_false, fX4_within]
    by_cases q : p1 < 1
    · simp only [if_pos q]; exact ⟨0, _, _, by decide, rfl, rfl, rfl, h⟩
    · rcases ix p1 10 (by omega) with c | c | ⟨j, hj, rfl⟩
      · exact absurd (Int32.lt_trans c (by decide : (0 : Int32) < 1)) q
      · have q2 : ¬ p1 ≤ 9 := by intro c2; exact absurd (Int32.lt_of_le_of_lt c2 (by decide : (9 : Int32) < 10)) (Int32.not_lt.mpr c)
        have q3 : (9 : Int32) < p1 := Int32.not_le.mp q2
        simp only [if_neg q, if_neg q2, if_pos q3]; exact ⟨0, _, _, by decide, rfl, rfl, rfl, h⟩
      · have q2 : nI j ≤ 9 := (le' (a := j) (b := 9) (by omega) (by omega)).mpr (by omega)
        have q3 : ¬ (9 : Int32) < nI j := Int32.not_lt.mpr q2
        have hj1 : 1 ≤ j := by
          have := mt (lt' (a := j) (b := 1) (by omega) (by omega)).mpr q
          omega
        simp only [if_neg q, if_pos q2, if_neg q3, Option.bind_some, one_ne, if_false, gIn (show k < 5 by omega) (show 5 < 1000000 by omega), cl (show k < 1000000 by omega)]
        refine ⟨0, _, _, by decide, rfl, rfl, a2.trans b2.symm, ?_⟩
        exact ⟨uV v 5 k j, r, hR.setG k (Or.inr (Or.inl ⟨rfl, hj1, hj⟩)), hL.setG (Or.inr (Or.inl rfl)) k j, hM.setG (f := 5) (Or.inr (Or.inl rfl)) k j, hw, hS.fr rfl rfl rfl rfl, hd.fr rfl rfl rfl rfl, hdr.fr (uV_ne _ _ _ _ (by decide)) (uV_ne _ _ _ _ (by decide)), fun q hq => (hrow q hq).fr rfl rfl rfl⟩
