/-! sheets, readings -/
theorem vb0 : vp_nar .boolean 0 = 0 := by decide
theorem vb1 : vp_nar .boolean 1 = 1 := by decide
theorem sim_reading {X : Bk} {Rw : Nat → Bk} {L N M : Bk} (T : Bk) (h : Rel X Rw L N M) (p0 : Int32) (p1 : Int32) (p2 : Int32) (p3 : Int32) : ∃ (k : Nat) (ox : (Int32 × Bk)) (om : (Int32 × Bk)), k < 4 ∧ fX3_reading L N p0 p1 p2 p3 = some ox ∧ fX4_reading M p0 p1 p2 p3 = some om ∧ ox.1 = om.1 ∧ Rel X Rw L ox.2 om.2 := by
  obtain ⟨v, r, hR, hL, hM, hw, hS, hd, hdr, hrow⟩ := id h
  unfold fX3_reading fX4_reading
  rcases goerC hL hM hR p0 with ⟨e1, e2⟩ | ⟨k, hk, rfl, e1, e2⟩
  · rw [e1, e2]; exact ⟨0, _, _, by decide, rfl, rfl, rfl, h⟩
  · rcases twoC hL hM hR p1 p2 with ⟨e3, e4⟩ | ⟨a, b, ha, hb, hab, rfl, rfl, e3, e4⟩
    · rw [e1, e2, e3, e4]; exact ⟨0, _, _, by decide, rfl, rfl, rfl, h⟩
    · have h1 := hN_le _ hR.1
      have h2 := he_lt _ hR.1 a ha b hb hab
      rw [e1, e2, e3, e4]
      simp only [Option.bind_some, one_ne, if_false, fX4_within]
      rcases ix p3 2 (by omega) with q | q | ⟨j, hj, rfl⟩
      · simp only [if_pos q]; exact ⟨0, _, _, by decide, rfl, rfl, rfl, h⟩
      · have q2 : ¬ p3 ≤ 1 := by intro c; exact absurd (Int32.lt_of_le_of_lt c (by decide : (1 : Int32) < 2)) (Int32.not_lt.mpr q)
        have q3 : (1 : Int32) < p3 := Int32.not_le.mp q2
        by_cases c : p3 < 0
        · simp only [if_pos c]; exact ⟨0, _, _, by decide, rfl, rfl, rfl, h⟩
        · simp only [if_neg c, if_neg q2, if_pos q3]; exact ⟨0, _, _, by decide, rfl, rfl, rfl, h⟩
      · have q1 : ¬ nI j < 0 := nlt0 (by omega)
        have q2 : nI j ≤ 1 := (le' (a := j) (b := 1) (by omega) (by omega)).mpr (by omega)
        have q3 : ¬ (1 : Int32) < nI j := Int32.not_lt.mpr q2
        have hc := hd.1
        simp only [if_neg q1, if_pos q2, if_neg q3, one_ne, if_false, hd.2.1, hd.2.2.1]
        by_cases c8 : r 3 0 = 8
        · have q4 : ¬ nI (r 3 0) < 8 := by rw [c8]; decide
          have q5 : nI (r 3 0) = 8 := by rw [c8]; rfl
          simp only [if_neg q4, if_pos q5]; exact ⟨0, _, _, by decide, rfl, rfl, rfl, h⟩
        · have q4 : nI (r 3 0) < 8 := (lt' (b := 8) (by omega) (by omega)).mpr (by omega)
          have q5 : ¬ nI (r 3 0) = 8 := by intro c; exact c8 ((eq' (b := 8) (by omega) (by omega)).mp c)
          have q6 : ¬ (8 : Int32) ≤ nI (r 3 0) := Int32.not_le.mpr q4
          have ev : (if nI j = 1 then some (1 : Int32) else some 0) = some (nI j) ∧ vp_nar .boolean (nI j) = nI j := by
            rcases (show j = 0 ∨ j = 1 by omega) with rfl | rfl
            · exact ⟨rfl, vb0⟩
            · exact ⟨rfl, vb1⟩
          have e5 := fun M' (hm : M' 5 0 = nI (v 0 0)) => hedgeM0 (M := M') hm hR.1 ha hb hab
          simp only [if_pos q4, if_neg q5, hedgeX hL hR ha hb hab, Option.bind_some, ev.1, fX1_write, hd.2.1, if_neg q6, gIn (show r 3 0 < 8 by omega) (show 8 < 1000000 by omega), cl (show r 3 0 < 1000000 by omega), sB_ne _ _ _ (show (3 : Nat) ≠ 0 by decide), sB_ne _ _ _ (show (3 : Nat) ≠ 1 by decide), sB_ne _ _ _ (show (3 : Nat) ≠ 2 by decide), ev.2, sB_ne _ _ _ (show (25 : Nat) ≠ 26 by decide), sB_ne _ _ _ (show (25 : Nat) ≠ 27 by decide), sB_ne _ _ _ (show (25 : Nat) ≠ 28 by decide), hd.2.2.1]
          rw [e5 _ (by rw [sB_ne _ _ _ (by decide)]; exact hM.1)]
          simp only [Option.bind_some, gIn (show r 3 0 < 8 by omega) (show 8 < 1000000 by omega), cl (show r 3 0 < 1000000 by omega), sB_ne _ _ _ (show (25 : Nat) ≠ 26 by decide), sB_ne _ _ _ (show (25 : Nat) ≠ 27 by decide), sB_ne _ _ _ (show (25 : Nat) ≠ 28 by decide), hd.2.2.1, sB_same]
          refine ⟨0, _, _, by decide, rfl, rfl, rfl, ?_⟩
          refine ⟨v, uV (uV (uV (uV r 0 (r 3 0) k) 1 (r 3 0) (he (v 0 0) a b)) 2 (r 3 0) j) 3 0 (r 3 0 + 1), hR, hL, hM.fr rfl rfl rfl rfl rfl rfl, hw, hS.fr rfl rfl rfl rfl, ⟨?_, ?_, ?_, fun x hx => ?_⟩, fun x hx => ?_, fun k hk => (hrow k hk).fr rfl rfl rfl⟩
          · rw [uV_row, if_pos rfl]; omega
          · simp only [sB_same]; rw [uV_row, if_pos rfl]; exact nI_1 _
          · simp only [sB_same]; rw [uV_row, if_pos rfl]; exact nI_1 _
          · rw [uV_row, if_pos rfl] at hx
            simp only [uV_ne _ _ _ _ (show (0 : Nat) ≠ 3 by decide), uV_ne _ _ _ _ (show (1 : Nat) ≠ 3 by decide), uV_ne _ _ _ _ (show (2 : Nat) ≠ 3 by decide), uV_ne _ _ _ _ (show (0 : Nat) ≠ 2 by decide), uV_ne _ _ _ _ (show (1 : Nat) ≠ 2 by decide), uV_ne _ _ _ _ (show (0 : Nat) ≠ 1 by decide), uV_ne _ _ _ _ (show (1 : Nat) ≠ 0 by decide), uV_ne _ _ _ _ (show (2 : Nat) ≠ 1 by decide), uV_ne _ _ _ _ (show (2 : Nat) ≠ 0 by decide), uV_row]
            simp only [sB_ne _ _ _ (show (0 : Nat) ≠ 3 by decide), sB_ne _ _ _ (show (1 : Nat) ≠ 3 by decide), sB_ne _ _ _ (show (2 : Nat) ≠ 3 by decide), sB_ne _ _ _ (show (0 : Nat) ≠ 2 by decide), sB_ne _ _ _ (show (1 : Nat) ≠ 2 by decide), sB_ne _ _ _ (show (0 : Nat) ≠ 1 by decide), sB_ne _ _ _ (show (1 : Nat) ≠ 0 by decide), sB_ne _ _ _ (show (2 : Nat) ≠ 1 by decide), sB_ne _ _ _ (show (2 : Nat) ≠ 0 by decide), sB_ne _ _ _ (show (26 : Nat) ≠ 25 by decide), sB_ne _ _ _ (show (26 : Nat) ≠ 28 by decide), sB_ne _ _ _ (show (26 : Nat) ≠ 27 by decide), sB_ne _ _ _ (show (27 : Nat) ≠ 25 by decide), sB_ne _ _ _ (show (27 : Nat) ≠ 28 by decide), sB_ne _ _ _ (show (27 : Nat) ≠ 26 by decide), sB_ne _ _ _ (show (28 : Nat) ≠ 25 by decide), sB_ne _ _ _ (show (28 : Nat) ≠ 27 by decide), sB_ne _ _ _ (show (28 : Nat) ≠ 26 by decide), sB_row]
            by_cases c : x = r 3 0
            · simp only [c, if_true]; exact ⟨trivial, trivial, trivial, trivial, trivial, trivial⟩
            · simp only [c, if_false]; exact hd.2.2.2 x (by omega)
          · rw [uV_row, if_pos rfl] at hx
            simp only [uV_ne _ _ _ _ (show (0 : Nat) ≠ 3 by decide), uV_ne _ _ _ _ (show (1 : Nat) ≠ 3 by decide), uV_ne _ _ _ _ (show (2 : Nat) ≠ 3 by decide), uV_ne _ _ _ _ (show (0 : Nat) ≠ 2 by decide), uV_ne _ _ _ _ (show (1 : Nat) ≠ 2 by decide), uV_ne _ _ _ _ (show (0 : Nat) ≠ 1 by decide), uV_ne _ _ _ _ (show (1 : Nat) ≠ 0 by decide), uV_ne _ _ _ _ (show (2 : Nat) ≠ 1 by decide), uV_ne _ _ _ _ (show (2 : Nat) ≠ 0 by decide), uV_row]
            by_cases c : x = r 3 0
            · simp only [c, if_true]; exact ⟨hk, h2, hj⟩
            · simp only [c, if_false]; exact hdr x (by omega)
theorem gEn {α : Type} (k : Nat) (x : Option α) : gE k k x = x := if_pos rfl
theorem relRow {X : Bk} {Rw : Nat → Bk} {L N M M' : Bk} {R' : Bk} {k : Nat} (h : Rel X Rw L N M) (hk : k < 4) (hm : ∀ j, j ≠ 2 → j ≠ 3 → j ≠ 4 → M' j = M j) (hr : RowR R' M' k) (ho : ∀ q, q < 4 → q ≠ k → RowR (Rw q) M' q) : Rel X (va_up Rw k R') L N M' := by
  obtain ⟨v, r, hR, hL, hM, hw, hS, hd, hdr, hrow⟩ := id h
  refine ⟨v, r, hR, hL, hM.fr (hm 5 (by decide) (by decide) (by decide)) (hm 6 (by decide) (by decide) (by decide)) (hm 10 (by decide) (by decide) (by decide)) (hm 11 (by decide) (by decide) (by decide)) (hm 12 (by decide) (by decide) (by decide)) (hm 13 (by decide) (by decide) (by decide)), ?_, hS.fr (hm 0 (by decide) (by decide) (by decide)) (hm 1 (by decide) (by decide) (by decide)) (hm 7 (by decide) (by decide) (by decide)) (hm 8 (by decide) (by decide) (by decide)), hd.fr (hm 25 (by decide) (by decide) (by decide)) (hm 26 (by decide) (by decide) (by decide)) (hm 27 (by decide) (by decide) (by decide)) (hm 28 (by decide) (by decide) (by decide)), hdr, fun q hq => ?_⟩
  · rw [hm 9 (by decide) (by decide) (by decide)]; exact hw
  · by_cases c : q = k
    · subst c; rw [va_up_self]; exact hr
    · rw [va_up_ne _ _ c]; exact ho q hq c
theorem relSame {X : Bk} {Rw : Nat → Bk} {L N M : Bk} (h : Rel X Rw L N M) (k : Nat) : Rel X (va_up Rw k (Rw k)) L N M := by
  have e : va_up Rw k (Rw k) = Rw := by funext j; unfold va_up; by_cases h : j = k <;> simp [h]
  rw [e]; exact h
theorem rowZ {R M : Bk} {k : Nat} (h : RowR R M k) : (R 1 0 = 0) ↔ (M 2 k = -9) := by
  rcases h.2.1 with ⟨a, b⟩ | ⟨a, t, ht, b, c⟩
  · exact ⟨fun _ => b, fun _ => a⟩
  · refine ⟨fun h => ?_, fun h => ?_⟩
    · rw [a] at h; exact absurd h (by decide)
    · rw [c] at h
      rcases (show t = 0 ∨ t = 1 ∨ t = 2 by omega) with rfl | rfl | rfl <;> exact absurd h (by decide)
theorem sim_lose {X : Bk} {Rw : Nat → Bk} {L N M : Bk} (T : Bk) (h : Rel X Rw L N M) (p0 : Int32) : ∃ (k : Nat) (ox : (Int32 × Bk)) (om : (Int32 × Bk)), k < 4 ∧ fX3_lose k (Rw k) p0 = some ox ∧ fX4_lose M p0 = some om ∧ ox.1 = om.1 ∧ Rel X (va_up Rw k ox.2) L N om.2 := by
  obtain ⟨v, r, hR, hL, hM, hw, hS, hd, hdr, hrow⟩ := id h
  unfold fX3_lose fX4_lose
  rcases sheetC p0 with ⟨e1, e2⟩ | ⟨k, hk, rfl, e1, e2⟩
  · rw [e1, e2]; exact ⟨0, _, _, by decide, rfl, rfl, rfl, relSame h 0⟩
  · rw [e1, e2]
    refine ⟨k, ?_⟩
    have hz := rowZ (hrow k hk)
    simp only [Option.bind_some, one_ne, if_false, gIn hk (show 4 < 1000000 by omega), cl (show k < 1000000 by omega), gEn, hz]
    have key : Rel X (va_up Rw k (sB (Rw k) 1 0 0)) L N (sB M 2 k (-9)) := by
      refine relRow h hk (fun j h2 _ _ => sB_ne _ _ _ h2) ⟨?_, Or.inl ⟨sB_same _ _ _ _, sB_same _ _ _ _⟩, fun i hi => ?_⟩ (fun q hq hne => ?_)
      · rw [sB_ne _ _ _ (show (3 : Nat) ≠ 1 by decide), sB_ne _ _ _ (show (3 : Nat) ≠ 2 by decide)]; exact (hrow k hk).1
      · rw [sB_ne _ _ _ (show (0 : Nat) ≠ 1 by decide), sB_ne _ _ _ (show (4 : Nat) ≠ 2 by decide)]; exact (hrow k hk).2.2 i hi
      · refine ⟨?_, ?_, ?_⟩
        · rw [sB_ne _ _ _ (show (3 : Nat) ≠ 2 by decide)]; exact (hrow q hq).1
        · rw [sB_row, if_neg hne]; exact (hrow q hq).2.1
        · rw [sB_ne _ _ _ (show (4 : Nat) ≠ 2 by decide)]; exact (hrow q hq).2.2
    by_cases c : M 2 k = -9
    · simp only [c, if_true, Option.bind_some]; exact ⟨_, _, hk, rfl, rfl, rfl, key⟩
    · simp only [c, if_false, Option.bind_some]; exact ⟨_, _, hk, rfl, rfl, rfl, key⟩
theorem fillX (R : Bk) : ∃ R', fJ7_fill_53178 R 0 = some R' ∧ ∀ i, i < 60 → R' 0 i = 0 := by
  unfold fJ7_fill_53178
  refine fx2 (fun o => ∃ R' : Bk, o = some R' ∧ ∀ i, i < 60 → R' 0 i = 0) (fun (x : Int32) (B : Bk) m => ∃ j, j ≤ 60 ∧ x = nI j ∧ m = 60 - j ∧ ∀ i, i < j → B 0 i = 0) ?_ 100 0 R 60 ⟨0, by omega, rfl, rfl, fun i hi => absurd hi (Nat.not_lt_zero _)⟩ (by omega)
  rintro self x B m ⟨j, hj, rfl, hm, hB⟩ ih
  unfold FJ7_fill_53178_5
  by_cases c : 60 ≤ j
  · have : (60 : Int32) ≤ nI j := (le' (a := 60) (by omega) (by omega)).mpr c
    rw [if_pos this]
    exact ⟨B, rfl, fun i hi => hB i (by omega)⟩
  · have : ¬ (60 : Int32) ≤ nI j := by intro q; exact c ((le' (a := 60) (by omega) (by omega)).mp q)
    rw [if_neg this, gIn (show j < 60 by omega) (by omega), cl (show j < 1000000 by omega)]
    simp only [Option.bind_some]
    refine ih _ _ (m - 1) (by omega) ⟨j + 1, by omega, nI_1 j, by omega, fun i hi => ?_⟩
    rw [sB_row]
    by_cases c2 : i = j
    · rw [if_pos c2]
    · rw [if_neg c2]; exact hB i (by omega)
theorem sheetM {M : Bk} {k : Nat} (hk : k < 4) : ∃ M', fu2 (FX4_sheet_57 (nI k) (fun x4_18 M_19 => some ((1 : Int32), M_19))) 100 0 M = some (1, M') ∧ (∀ j, j ≠ 4 → M' j = M j) ∧ (∀ i, i < 60 → M' 4 (60 * k + i) = 0) ∧ (∀ q, (q < 60 * k ∨ 60 * k + 60 ≤ q) → M' 4 q = M 4 q) := by
  refine fx2 (fun o => ∃ M' : Bk, o = some ((1 : Int32), M') ∧ (∀ j, j ≠ 4 → M' j = M j) ∧ (∀ i, i < 60 → M' 4 (60 * k + i) = 0) ∧ (∀ q, (q < 60 * k ∨ 60 * k + 60 ≤ q) → M' 4 q = M 4 q)) (fun (x : Int32) (B : Bk) m => ∃ j, j ≤ 60 ∧ x = nI j ∧ m = 60 - j ∧ (∀ j, j ≠ 4 → B j = M j) ∧ (∀ i, i < j → B 4 (60 * k + i) = 0) ∧ (∀ q, (q < 60 * k ∨ 60 * k + 60 ≤ q) → B 4 q = M 4 q)) ?_ 100 0 M 60 ⟨0, by omega, rfl, rfl, fun _ _ => rfl, fun i hi => absurd hi (Nat.not_lt_zero _), fun _ _ => rfl⟩ (by omega)
  rintro self x B m ⟨j, hj, rfl, hm, h1, h2, h3⟩ ih
  unfold FX4_sheet_57
  by_cases c : 60 ≤ j
  · have : (60 : Int32) ≤ nI j := (le' (a := 60) (by omega) (by omega)).mpr c
    rw [if_pos this]
    exact ⟨B, rfl, h1, fun i hi => h2 i (by omega), h3⟩
  · have : ¬ (60 : Int32) ≤ nI j := by intro q; exact c ((le' (a := 60) (by omega) (by omega)).mp q)
    have e : (60 * nI k) + nI j = nI (60 * k + j) := by rw [show (60 : Int32) = nI 60 from rfl, pk_mul, nI_add]
    rw [if_neg this, e, gIn (show 60 * k + j < 240 by omega) (by omega), cl (show 60 * k + j < 1000000 by omega)]
    simp only [Option.bind_some]
    refine ih _ _ (m - 1) (by omega) ⟨j + 1, by omega, nI_1 j, by omega, fun i hi => ?_, fun i hi => ?_, fun q hq => ?_⟩
    · rw [sB_ne _ _ _ hi]; exact h1 i hi
    · rw [sB_row]
      by_cases c2 : 60 * k + i = 60 * k + j
      · rw [if_pos c2]
      · rw [if_neg c2]; exact h2 i (by omega)
    · rw [sB_row, if_neg (by omega)]; exact h3 q hq
theorem sim_sheet {X : Bk} {Rw : Nat → Bk} {L N M : Bk} (T : Bk) (h : Rel X Rw L N M) (p0 : Int32) (p1 : Int32) (p2 : Int32) : ∃ (k : Nat) (ox : (Int32 × Bk × Bk)) (om : (Int32 × Bk)), k < 4 ∧ fX3_sheet k X (Rw k) p0 p1 p2 = some ox ∧ fX4_sheet M p0 p1 p2 = some om ∧ ox.1 = om.1 ∧ Rel ox.2.1 (va_up Rw k ox.2.2) L N om.2 := by
  have h' := relF h 0
  obtain ⟨v, r, hR, hL, hM, hw, hS, hd, hdr, hrow⟩ := id h'
  unfold fX3_sheet fX4_sheet
  simp only [Option.bind_some]
  rcases sheetC p0 with ⟨e1, e2⟩ | ⟨k, hk, rfl, e1, e2⟩
  · rw [e1, e2]; exact ⟨0, _, _, by decide, rfl, rfl, rfl, relSame h' 0⟩
  · rcases laneC p1 with ⟨e3, e4⟩ | ⟨t, ht, rfl, e3, e4⟩
    · rw [e1, e2, e3, e4]; exact ⟨k, _, _, hk, rfl, rfl, rfl, relSame h' k⟩
    · rw [e1, e2, e3, e4]
      refine ⟨k, ?_⟩
      simp only [Option.bind_some, one_ne, if_false]
      by_cases q : p2 ≤ 60
      · by_cases q0 : 0 ≤ p2
        · obtain ⟨z, hz, rfl⟩ : ∃ z, z < 61 ∧ p2 = nI z := by
            rcases ix p2 61 (by omega) with c | c | c
            · exact absurd c (Int32.not_lt.mpr q0)
            · exact absurd (Int32.lt_of_le_of_lt q (by decide : (60 : Int32) < 61)) (Int32.not_lt.mpr c)
            · exact c
          obtain ⟨R', eR, hR0⟩ := fillX (Rw k)
          obtain ⟨M', eM, m1, m2, m3⟩ := sheetM (M := sB (sB (sB M 0 0 0) 2 k (nI t)) 3 k (nI z)) hk
          simp only [if_pos q, if_pos q0, gIn hk (show 4 < 1000000 by omega), cl (show k < 1000000 by omega), gEn, fX2_begin, eR, Option.bind_some, eM]
          refine ⟨_, _, hk, rfl, rfl, rfl, ?_⟩
          show Rel (sB X 7 0 0) (va_up Rw k (sB (sB (sB (sA (Rw k) 0 (R' 0)) 1 0 1) 2 0 (nI t)) 3 0 (nI z))) L N M'
          refine relRow h' hk (fun j h2 h3 h4 => ?_) ⟨⟨z, hz, (show sB (sB (sB (sA (Rw k) 0 (R' 0)) 1 0 1) 2 0 (nI t)) 3 0 (nI z) 3 0 = nI z from sB_same _ _ _ _), ?_⟩, Or.inr ⟨?_, t, ht, ?_, ?_⟩, fun i hi => ?_⟩ (fun q hq hne => ⟨?_, ?_, fun i hi => ?_⟩)
          · rw [m1 j h4, sB_ne _ _ _ h3, sB_ne _ _ _ h2]
          · rw [m1 3 (by decide)]; exact sB_same _ _ _ _
          · rw [sB_ne _ _ _ (show (1 : Nat) ≠ 3 by decide), sB_ne _ _ _ (show (1 : Nat) ≠ 2 by decide)]; exact sB_same _ _ _ _
          · rw [sB_ne _ _ _ (show (2 : Nat) ≠ 3 by decide)]; exact sB_same _ _ _ _
          · rw [m1 2 (by decide), sB_ne _ _ _ (show (2 : Nat) ≠ 3 by decide)]; exact sB_same _ _ _ _
          · rw [m2 i hi, sB_ne _ _ _ (show (0 : Nat) ≠ 3 by decide), sB_ne _ _ _ (show (0 : Nat) ≠ 2 by decide), sB_ne _ _ _ (show (0 : Nat) ≠ 1 by decide), sA_same]; exact (hR0 i hi).symm
          · rw [m1 3 (by decide), sB_row, if_neg hne, sB_ne _ _ _ (show (3 : Nat) ≠ 2 by decide)]; exact (hrow q hq).1
          · rw [m1 2 (by decide), sB_ne _ _ _ (show (2 : Nat) ≠ 3 by decide), sB_row, if_neg hne]; exact (hrow q hq).2.1
          · rw [m3 _ (by omega), sB_ne _ _ _ (show (4 : Nat) ≠ 3 by decide), sB_ne _ _ _ (show (4 : Nat) ≠ 2 by decide)]; exact (hrow q hq).2.2 i hi
        · simp only [if_pos q, if_neg q0, fX3_failed, fX4_fails, Option.bind_some]
          exact ⟨_, _, hk, rfl, rfl, rfl, relSame (relF h' 4) k⟩
      · simp only [if_neg q]; exact ⟨_, _, hk, rfl, rfl, rfl, relSame h' k⟩
/-- one cell of a sheet of z cells -/
theorem span1 {R : Bk} {z : Nat} (hz : z < 61) (hR : R 3 0 = nI z) (p : Int32) : (fX2_spans R p 1 = some 0 ∧ fX4_within p 0 (nI z - 1) = some 0) ∨ ∃ j, j < z ∧ p = nI j ∧ fX2_spans R p 1 = some 1 ∧ fX4_within p 0 (nI z - 1) = some 1 := by
  unfold fX2_spans fX4_within
  rw [hR, if_neg (show ¬ (1 : Int32) < 0 by decide)]
  rcases ix p z (by omega) with q | q | ⟨j, hj, rfl⟩
  · left; simp only [if_pos q]; exact ⟨trivial, trivial⟩
  · left
    by_cases c : p < 0
    · simp only [if_pos c]; exact ⟨trivial, trivial⟩
    · have c3 : nI z - 1 < p := by
        have e : (nI z - nI 1).toInt = (z : Int) - 1 := pk_sub_toInt (by omega) (by omega)
        have e2 : (nI z).toInt = (z : Int) := nI_toInt (by omega)
        have q' := q
        rw [Int32.le_iff_toInt_le, e2] at q'
        show nI z - nI 1 < p
        rw [Int32.lt_iff_toInt_lt, e]; omega
      simp only [if_neg c, if_pos c3]
      refine ⟨?_, trivial⟩
      by_cases c4 : nI z < p
      · rw [if_pos c4]
      · have e : p = nI z := Int32.le_antisymm (Int32.not_lt.mp c4) q
        rw [if_neg c4, e, Int32.sub_self, if_pos (by decide)]
  · right
    have c0 : ¬ nI j < 0 := nlt0 (by omega)
    have c1 : ¬ nI z < nI j := by rw [lt' (by omega) (by omega)]; omega
    have c2 : ¬ nI z - nI j < 1 := by rw [pk_sub (by omega)]; rw [show (1 : Int32) = nI 1 from rfl, lt' (by omega) (by omega)]; omega
    have c3 : ¬ nI z - 1 < nI j := by rw [show (1 : Int32) = nI 1 from rfl, pk_sub (by omega), lt' (by omega) (by omega)]; omega
    refine ⟨j, hj, rfl, ?_, ?_⟩
    · rw [if_neg c0, if_neg c1, if_neg c2]
    · rw [if_neg c0, if_neg c3]
theorem sim_put {X : Bk} {Rw : Nat → Bk} {L N M : Bk} (T : Bk) (h : Rel X Rw L N M) (p0 : Int32) (p1 : Int32) (p2 : Int32) : ∃ (k : Nat) (ox : (Int32 × Bk × Bk)) (om : (Int32 × Bk)), k < 4 ∧ fX3_put k X (Rw k) p0 p1 p2 = some ox ∧ fX4_put M p0 p1 p2 = some om ∧ ox.1 = om.1 ∧ Rel ox.2.1 (va_up Rw k ox.2.2) L N om.2 := by
  have h' := relF h 0
  obtain ⟨v, r, hR, hL, hM, hw, hS, hd, hdr, hrow⟩ := id h'
  unfold fX3_put fX4_put
  simp only [Option.bind_some]
  rcases sheetC p0 with ⟨e1, e2⟩ | ⟨k, hk, rfl, e1, e2⟩
  · rw [e1, e2]; exact ⟨0, _, _, by decide, rfl, rfl, rfl, relSame h' 0⟩
  · rw [e1, e2]
    refine ⟨k, ?_⟩
    obtain ⟨⟨z, hz, z1, z2⟩, hl, hc⟩ := id (hrow k hk)
    simp only [Option.bind_some, one_ne, if_false, gIn hk (show 4 < 1000000 by omega), cl (show k < 1000000 by omega), gEn, z2]
    rcases hl with ⟨a1, a2⟩ | ⟨a1, t, ht, a2, a3⟩
    · simp only [a1, a2, if_true, fX3_failed, fX4_fails, Option.bind_some]
      exact ⟨_, _, hk, rfl, rfl, rfl, relSame (relF h' 1) k⟩
    · have n9 : ¬ nI t = -9 := by rcases (show t = 0 ∨ t = 1 ∨ t = 2 by omega) with rfl | rfl | rfl <;> decide
      simp only [a1, a3, n9, one_ne, if_false]
      rcases span1 hz z1 p1 with ⟨e3, e4⟩ | ⟨j, hj, rfl, e3, e4⟩
      · simp only [e3, e4, Option.bind_some, if_true, fX3_failed, fX4_fails]
        exact ⟨_, _, hk, rfl, rfl, rfl, relSame (relF h' 3) k⟩
      · have e : (60 * nI k) + nI j = nI (60 * k + j) := by rw [show (60 : Int32) = nI 60 from rfl, pk_mul, nI_add]
        have key : ∀ x : Int32, Rel (sB X 7 0 0) (va_up Rw k (sB (Rw k) 0 j x)) L N (sB (sB M 0 0 0) 4 (60 * k + j) x) := by
          intro x
          refine relRow h' hk (fun i _ _ h4 => sB_ne _ _ _ h4) ⟨?_, ?_, fun i hi => ?_⟩ (fun q hq hne => ⟨?_, ?_, fun i hi => ?_⟩)
          · rw [sB_ne _ _ _ (show (3 : Nat) ≠ 0 by decide), sB_ne _ _ _ (show (3 : Nat) ≠ 4 by decide)]; exact (hrow k hk).1
          · rw [sB_ne _ _ _ (show (1 : Nat) ≠ 0 by decide), sB_ne _ _ _ (show (2 : Nat) ≠ 0 by decide), sB_ne _ _ _ (show (2 : Nat) ≠ 4 by decide)]; exact (hrow k hk).2.1
          · rw [sB_row, sB_row]
            by_cases c : i = j
            · rw [if_pos c, if_pos (by omega)]
            · rw [if_neg c, if_neg (by omega)]; exact hc i hi
          · rw [sB_ne _ _ _ (show (3 : Nat) ≠ 4 by decide)]; exact (hrow q hq).1
          · rw [sB_ne _ _ _ (show (2 : Nat) ≠ 4 by decide)]; exact (hrow q hq).2.1
          · rw [sB_row, if_neg (by omega)]; exact (hrow q hq).2.2 i hi
        simp only [e3, e4, Option.bind_some, one_ne, if_false, fX3_cutTo, a2, gIn (show j < 60 by omega) (show 60 < 1000000 by omega), cl (show j < 1000000 by omega), e, gIn (show 60 * k + j < 240 by omega) (show 240 < 1000000 by omega), cl (show 60 * k + j < 1000000 by omega)]
        by_cases c0 : nI t = 0
        · simp only [c0, if_true, Option.bind_some]; exact ⟨_, _, hk, rfl, rfl, rfl, key _⟩
        · by_cases c1 : nI t = 1
          · simp only [c1, one_ne, if_true, if_false, Option.bind_some]; exact ⟨_, _, hk, rfl, rfl, rfl, key _⟩
          · simp only [c0, c1, if_false, Option.bind_some]; exact ⟨_, _, hk, rfl, rfl, rfl, key _⟩
theorem relX7 {X : Bk} {Rw : Nat → Bk} {L N M : Bk} (h : Rel X Rw L N M) {x : Int32} (hx : x = M 0 0) : Rel (sB X 7 0 x) Rw L N M := by
  obtain ⟨v, r, hR, hL, hM, hw, hS, hd, hdr, hrow⟩ := id h
  exact ⟨v, r, hR, hL, hM, hw, ⟨(sB_same _ _ _ _).trans hx, hS.2.1, hS.2.2.1, hS.2.2.2⟩, hd, hdr, hrow⟩
theorem laneNe {t : Nat} (ht : t < 3) : ¬ nI t = -9 := by rcases (show t = 0 ∨ t = 1 ∨ t = 2 by omega) with rfl | rfl | rfl <;> decide
theorem relF2 {X : Bk} {Rw : Nat → Bk} {L N M : Bk} (h : Rel X Rw L N M) (y x : Int32) : Rel (sB (sB X 7 0 y) 7 0 x) Rw L N (sB (sB M 0 0 y) 0 0 x) := relF (relF h y) x
theorem sim_cell {X : Bk} {Rw : Nat → Bk} {L N M : Bk} (T : Bk) (h : Rel X Rw L N M) (p0 : Int32) (p1 : Int32) (p2 : Int32) : ∃ (k : Nat) (ox : (Int64 × Bk)) (om : (Int64 × Bk)), k < 4 ∧ fX3_cell k X (Rw k) p0 p1 p2 = some ox ∧ fX4_cell M p0 p1 p2 = some om ∧ ox.1 = om.1 ∧ Rel ox.2 Rw L N om.2 := by
  have h' := relF h 0
  obtain ⟨v, r, hR, hL, hM, hw, hS, hd, hdr, hrow⟩ := id h'
  unfold fX3_cell fX4_cell
  simp only [Option.bind_some]
  rcases sheetC p0 with ⟨e1, e2⟩ | ⟨k, hk, rfl, e1, e2⟩
  · rw [e1, e2]; exact ⟨0, _, _, by decide, rfl, rfl, rfl, h'⟩
  · rcases laneC p2 with ⟨e3, e4⟩ | ⟨t2, ht2, rfl, e3, e4⟩
    · rw [e1, e2, e3, e4]; exact ⟨k, _, _, hk, rfl, rfl, rfl, h'⟩
    · rw [e1, e2, e3, e4]
      refine ⟨k, ?_⟩
      obtain ⟨⟨z, hz, z1, z2⟩, hl, hc⟩ := id (hrow k hk)
      simp only [Option.bind_some, one_ne, if_false, gIn hk (show 4 < 1000000 by omega), cl (show k < 1000000 by omega), gEn, z2, fX2_faultAs]
      rcases hl with ⟨a1, a2⟩ | ⟨a1, t, ht, a2, a3⟩
      · simp only [a1, a2, if_true, fX4_lost, Option.bind_some, one_ne, if_false]
        exact ⟨_, _, hk, rfl, rfl, rfl, relF h' 1⟩
      · simp only [a1, a3, a2, laneNe ht, one_ne, if_false, fX4_lost]
        by_cases c : nI t = nI t2
        · simp only [if_pos c, Option.bind_some, if_true]
          rcases span1 hz z1 p1 with ⟨e5, e6⟩ | ⟨j, hj, rfl, e5, e6⟩
          · simp only [e5, e6, Option.bind_some, if_true, show ¬ ((3 : Int32) = 0) by decide, if_false]
            exact ⟨_, _, hk, rfl, rfl, rfl, relF h' 3⟩
          · have e : (60 * nI k) + nI j = nI (60 * k + j) := by rw [show (60 : Int32) = nI 60 from rfl, pk_mul, nI_add]
            simp only [e5, e6, Option.bind_some, one_ne, if_false, if_true, gIn (show j < 60 by omega) (show 60 < 1000000 by omega), cl (show j < 1000000 by omega), e, gIn (show 60 * k + j < 240 by omega) (show 240 < 1000000 by omega), cl (show 60 * k + j < 1000000 by omega), hc j (by omega)]
            exact ⟨_, _, hk, rfl, rfl, rfl, relX7 h' rfl⟩
        · simp only [if_neg c, Option.bind_some, show ¬ ((2 : Int32) = 0) by decide, if_false]
          exact ⟨_, _, hk, rfl, rfl, rfl, relF h' 2⟩
/-- n cells from i on of a sheet of z cells -/
theorem spanN {R : Bk} {z : Nat} (hz : z < 61) (hR : R 3 0 = nI z) (i n : Int32) : (fX2_spans R i n = some 0 ∧ (i < 0 ∨ n < 0 ∨ nI z < i ∨ nI z - i < n)) ∨ ∃ a b, a + b ≤ z ∧ i = nI a ∧ n = nI b ∧ fX2_spans R i n = some 1 := by
  unfold fX2_spans
  rw [hR]
  by_cases c1 : i < 0
  · left; rw [if_pos c1]; exact ⟨rfl, Or.inl c1⟩
  · by_cases c2 : nI z < i
    · left; rw [if_neg c1, if_pos c2]; exact ⟨rfl, Or.inr (Or.inr (Or.inl c2))⟩
    · by_cases c3 : n < 0
      · left; rw [if_neg c1, if_neg c2, if_pos c3]; exact ⟨rfl, Or.inr (Or.inl c3)⟩
      · by_cases c4 : nI z - i < n
        · left; rw [if_neg c1, if_neg c2, if_neg c3, if_pos c4]; exact ⟨rfl, Or.inr (Or.inr (Or.inr c4))⟩
        · right
          obtain ⟨a, ha, rfl⟩ : ∃ a, a < 2 ^ 31 ∧ i = nI a := nI_of c1
          obtain ⟨b, hb, rfl⟩ : ∃ b, b < 2 ^ 31 ∧ n = nI b := nI_of c3
          have ha2 : a ≤ z := by
            have := mt (nI_ltI (by omega) ha).mpr c2
            omega
          rw [pk_sub ha2, nI_ltI (by omega) hb] at c4
          refine ⟨a, b, by omega, rfl, rfl, ?_⟩
          rw [if_neg c1, if_neg c2, if_neg c3, pk_sub ha2, if_neg (by rw [nI_ltI (by omega) hb]; exact c4)]
theorem copyM {M : Bk} {k o a b n : Nat} (hk : k < 4) (ho : o < 4) (ha : a + n ≤ 60) (hb : b + n ≤ 60) (d : Bool) (hd : k = o → (d = true ↔ a < b)) : ∃ M', fu2 (FX4_copy_166 (nI k) (nI a) (nI o) (nI b) (nI n) (b2i d) (fun x8_29 M_30 => some (nI n, M_30))) 100 0 M = some (nI n, M') ∧ (∀ j, j ≠ 4 → M' j = M j) ∧ ∀ y, M' 4 y = va_cpy (M 4) (M 4) (60 * k + a) (60 * o + b) n y := by
  refine fx2 (fun out => ∃ M' : Bk, out = some (nI n, M') ∧ (∀ j, j ≠ 4 → M' j = M j) ∧ ∀ y, M' 4 y = va_cpy (M 4) (M 4) (60 * k + a) (60 * o + b) n y) (fun (x : Int32) (B : Bk) m => ∃ j, j ≤ n ∧ x = nI j ∧ m = n - j ∧ (∀ j, j ≠ 4 → B j = M j) ∧ ∀ y, B 4 y = if 60 * o + b + (if d then n - j else 0) ≤ y ∧ y < 60 * o + b + (if d then n else j) then M 4 (60 * k + a + (y - (60 * o + b))) else M 4 y) ?_ 100 0 M n ⟨0, by omega, rfl, rfl, fun _ _ => rfl, fun y => ?_⟩ (by omega)
  · rintro self x B m ⟨j, hj, rfl, hm, h1, h2⟩ ih
    unfold FX4_copy_166
    by_cases c : n ≤ j
    · have : nI n ≤ nI j := (le' (by omega) (by omega)).mpr c
      have ej : j = n := by omega
      subst ej
      rw [if_pos this]
      refine ⟨B, rfl, h1, fun y => ?_⟩
      rw [h2 y]; unfold va_cpy
      cases d <;> simp
    · have : ¬ nI n ≤ nI j := by intro q; exact c ((le' (by omega) (by omega)).mp q)
      rw [if_neg this]
      obtain ⟨cc, hcc, ecc⟩ : ∃ cc, cc = (if d then n - 1 - j else j) ∧ ((if b2i d = 0 then some (nI j) else some (((nI n - 1) - nI j))) : Option Int32) = some (nI cc) := by
        refine ⟨_, rfl, ?_⟩
        cases d
        · rfl
        · show some ((nI n - nI 1) - nI j) = some (nI (n - 1 - j))
          rw [pk_sub (by omega), pk_sub (by omega)]
      have hc2 : cc < n := by rw [hcc]; cases d <;> simp <;> omega
      have e1 : ((60 * nI k) + nI a) + nI cc = nI (60 * k + a + cc) := by rw [show (60 : Int32) = nI 60 from rfl, pk_mul, nI_add, nI_add]
      have e2 : ((60 * nI o) + nI b) + nI cc = nI (60 * o + b + cc) := by rw [show (60 : Int32) = nI 60 from rfl, pk_mul, nI_add, nI_add]
      simp only [ecc, Option.bind_some, e1, e2, gIn (show 60 * k + a + cc < 240 by omega) (show 240 < 1000000 by omega), gIn (show 60 * o + b + cc < 240 by omega) (show 240 < 1000000 by omega), cl (show 60 * k + a + cc < 1000000 by omega), cl (show 60 * o + b + cc < 1000000 by omega)]
      refine ih _ _ (m - 1) (by omega) ⟨j + 1, by omega, nI_1 j, by omega, fun i hi => ?_, fun y => ?_⟩
      · rw [sB_ne _ _ _ hi]; exact h1 i hi
      · rw [sB_row]
        have hsrc : B 4 (60 * k + a + cc) = M 4 (60 * k + a + cc) := by
          rw [h2]
          refine if_neg (fun hh => ?_)
          cases d
          · simp at hcc hh
            by_cases ek : k = o
            · have := hd ek; simp at this; omega
            · omega
          · simp at hcc hh
            by_cases ek : k = o
            · have := hd ek; simp at this; omega
            · omega
        rw [hsrc]
        by_cases cy : y = 60 * o + b + cc
        · rw [if_pos cy, if_pos (by cases d <;> simp at hcc ⊢ <;> omega)]
          rw [show 60 * k + a + (y - (60 * o + b)) = 60 * k + a + cc by omega]
        · rw [if_neg cy, h2]
          cases d
          · simp at hcc ⊢
            by_cases q : 60 * o + b ≤ y ∧ y < 60 * o + b + j
            · rw [if_pos q, if_pos (by omega)]
            · rw [if_neg q, if_neg (by omega)]
          · simp at hcc ⊢
            by_cases q : 60 * o + b + (n - j) ≤ y ∧ y < 60 * o + b + n
            · rw [if_pos q, if_pos (by omega)]
            · rw [if_neg q, if_neg (by omega)]
  · show M 4 y = _
    rw [if_neg]
    cases d <;> simp <;> omega
def cpE {α : Type} (p1 p3 p4 s1 s2 : Int32) (F G : Option α) : Option α := ((if p1 < 0 then some 0 else (if p3 < 0 then some 0 else (if p4 < 0 then some 0 else (if s1 < p1 then some 0 else (if s2 < p3 then some 0 else some 1))))) : Option Int32).bind fun v16 => (if v16 = 0 then F else (if (s1 - p1) < p4 then F else (if p4 ≤ (s2 - p3) then G else F)))
theorem cpA {α : Type} {p1 p3 p4 s1 s2 : Int32} {F G : Option α} (h : p1 < 0 ∨ p4 < 0 ∨ s1 < p1 ∨ s1 - p1 < p4) : cpE p1 p3 p4 s1 s2 F G = F := by
  unfold cpE
  by_cases c1 : p1 < 0
  · simp [c1]
  · by_cases c2 : p3 < 0
    · simp [c1, c2]
    · by_cases c3 : p4 < 0
      · simp [c1, c2, c3]
      · by_cases c4 : s1 < p1
        · simp [c1, c2, c3, c4]
        · by_cases c5 : s2 < p3
          · simp [c1, c2, c3, c4, c5]
          · have c6 : s1 - p1 < p4 := by
              rcases h with h | h | h | h
              · exact absurd h c1
              · exact absurd h c3
              · exact absurd h c4
              · exact h
            simp [c1, c2, c3, c4, c5, c6]
theorem cpB {α : Type} {p1 p3 p4 s1 s2 : Int32} {F G : Option α} (h : p3 < 0 ∨ p4 < 0 ∨ s2 < p3 ∨ s2 - p3 < p4) : cpE p1 p3 p4 s1 s2 F G = F := by
  unfold cpE
  by_cases c1 : p1 < 0
  · simp [c1]
  · by_cases c2 : p3 < 0
    · simp [c1, c2]
    · by_cases c3 : p4 < 0
      · simp [c1, c2, c3]
      · by_cases c4 : s1 < p1
        · simp [c1, c2, c3, c4]
        · by_cases c5 : s2 < p3
          · simp [c1, c2, c3, c4, c5]
          · have c6 : ¬ p4 ≤ s2 - p3 := by
              rcases h with h | h | h | h
              · exact absurd h c2
              · exact absurd h c3
              · exact absurd h c5
              · exact Int32.not_le.mpr h
            by_cases c7 : s1 - p1 < p4
            · simp [c1, c2, c3, c4, c5, c7]
            · simp [c1, c2, c3, c4, c5, c6, c7]
theorem cpC {α : Type} {a b n z z2 : Nat} {F G : Option α} (h1 : a + n ≤ z) (h2 : b + n ≤ z2) (hz : z < 61) (hz2 : z2 < 61) : cpE (nI a) (nI b) (nI n) (nI z) (nI z2) F G = G := by
  unfold cpE
  have c1 : ¬ nI a < 0 := nlt0 (by omega)
  have c2 : ¬ nI b < 0 := nlt0 (by omega)
  have c3 : ¬ nI n < 0 := nlt0 (by omega)
  have c4 : ¬ nI z < nI a := by rw [lt' (by omega) (by omega)]; omega
  have c5 : ¬ nI z2 < nI b := by rw [lt' (by omega) (by omega)]; omega
  have c6 : ¬ nI z - nI a < nI n := by rw [pk_sub (by omega), lt' (by omega) (by omega)]; omega
  have c7 : nI n ≤ nI z2 - nI b := by rw [pk_sub (by omega), le' (by omega) (by omega)]; omega
  simp [c1, c2, c3, c4, c5, c6, c7]
theorem gCok {α : Type} {a b n : Nat} {x : Option α} (h1 : a + n ≤ 60) (h2 : b + n ≤ 60) : gC (nI a) (nI b) (nI n) 60 60 x = x := by
  unfold gC
  rw [if_pos]
  refine ⟨nlt0 (by omega), nlt0 (by omega), nlt0 (by omega), ?_, ?_⟩
  · rw [cl (show a < 1000000 by omega), cl (show n < 1000000 by omega)]; exact h1
  · rw [cl (show b < 1000000 by omega), cl (show n < 1000000 by omega)]; exact h2
theorem aheadI {a b : Nat} (ha : a < 1000000) (hb : b < 1000000) : ((if nI b ≤ nI a then some 0 else some 1) : Option Int32) = some (b2i (decide (a < b))) := by
  by_cases c : a < b
  · rw [if_neg (by rw [le' hb ha]; omega)]; simp [c, b2i]
  · rw [if_pos (by rw [le' hb ha]; omega)]; simp [c, b2i]
theorem sim_copy {X : Bk} {Rw : Nat → Bk} {L N M : Bk} (T : Bk) (h : Rel X Rw L N M) (p0 : Int32) (p1 : Int32) (p2 : Int32) (p3 : Int32) (p4 : Int32) : (∃ (k : Nat) (ox : (Int32 × Bk × Bk)) (om : (Int32 × Bk)), k < 4 ∧ fX3_copy k X (Rw k) p0 p1 p2 p3 p4 = some ox ∧ fX4_copy M p0 p1 p2 p3 p4 = some om ∧ ox.1 = om.1 ∧ Rel ox.2.1 (va_up Rw k ox.2.2) L N om.2) ∨ (∃ (k k2 : Nat) (ox : (Int32 × Bk × Bk)) (om : (Int32 × Bk)), k < 4 ∧ k2 < 4 ∧ k ≠ k2 ∧ fX3_copy_2 k k2 X (Rw k) (Rw k2) p0 p1 p2 p3 p4 = some ox ∧ fX4_copy M p0 p1 p2 p3 p4 = some om ∧ ox.1 = om.1 ∧ Rel ox.2.1 (va_up Rw k2 ox.2.2) L N om.2) := by
  have h' := relF h 0
  obtain ⟨v, r, hR, hL, hM, hw, hS, hd, hdr, hrow⟩ := id h'
  unfold fX3_copy fX3_copy_2 fX4_copy
  simp only [Option.bind_some]
  rcases sheetC p0 with ⟨e1, e2⟩ | ⟨k, hk, rfl, e1, e2⟩
  · left; rw [e1, e2]; exact ⟨0, _, _, by decide, rfl, rfl, rfl, relSame h' 0⟩
  · rcases sheetC p2 with ⟨e3, e4⟩ | ⟨o, ho, rfl, e3, e4⟩
    · left; rw [e1, e2, e3, e4]; exact ⟨k, _, _, hk, rfl, rfl, rfl, relSame h' k⟩
    · rw [e1, e2, e3, e4]
      obtain ⟨⟨z, hz, z1, z2⟩, hl, hc⟩ := id (hrow k hk)
      obtain ⟨⟨y, hy, y1, y2⟩, hl2, hc2⟩ := id (hrow o ho)
      -- what a copy makes of the row
      have key : ∀ a b n, a + n ≤ 60 → b + n ≤ 60 → ∀ M', (∀ j, j ≠ 4 → M' j = sB M 0 0 0 j) → (∀ w, M' 4 w = va_cpy (sB M 0 0 0 4) (sB M 0 0 0 4) (60 * k + a) (60 * o + b) n w) → Rel (sB X 7 0 0) (va_up Rw o (sA (Rw o) 0 (va_cpy (Rw k 0) (Rw o 0) a b n))) L N M' := by
        intro a b n ha hb M' m1 m2
        refine relRow h' ho (fun i _ _ h4 => m1 i h4) ⟨?_, ?_, fun i hi => ?_⟩ (fun q hq hne => ⟨?_, ?_, fun i hi => ?_⟩)
        · rw [sA_ne _ _ (show (3 : Nat) ≠ 0 by decide), m1 3 (by decide)]; exact (hrow o ho).1
        · rw [sA_ne _ _ (show (1 : Nat) ≠ 0 by decide), sA_ne _ _ (show (2 : Nat) ≠ 0 by decide), m1 2 (by decide)]; exact (hrow o ho).2.1
        · rw [m2, sA_same]; unfold va_cpy
          by_cases c : b ≤ i ∧ i < b + n
          · rw [if_pos c, if_pos (by omega), ← hc (a + (i - b)) (by omega), show 60 * k + a + (60 * o + i - (60 * o + b)) = 60 * k + (a + (i - b)) by omega]
          · rw [if_neg c, if_neg (by omega)]; exact hc2 i hi
        · rw [m1 3 (by decide)]; exact (hrow q hq).1
        · rw [m1 2 (by decide)]; exact (hrow q hq).2.1
        · rw [m2]; unfold va_cpy; rw [if_neg (by omega)]; exact (hrow q hq).2.2 i hi
      by_cases ek : k = o
      · left
        subst ek
        refine ⟨k, ?_⟩
        simp only [Option.bind_some, one_ne, if_false, gIn hk (show 4 < 1000000 by omega), cl (show k < 1000000 by omega), gEn, z2]
        rcases hl with ⟨a1, a2⟩ | ⟨a1, t, ht, a2, a3⟩
        · simp only [a1, a2, if_true, fX3_failed, fX4_fails, Option.bind_some]
          exact ⟨_, _, hk, rfl, rfl, rfl, relSame (relF h' 1) k⟩
        · simp only [a1, a3, laneNe ht, one_ne, if_false, if_true, fX3_failed, fX4_fails, Option.bind_some]
          rw [show (∀ (F G : Option (Int32 × Bk)), (((if p1 < 0 then some 0 else (if p3 < 0 then some 0 else (if p4 < 0 then some 0 else (if nI z < p1 then some 0 else (if nI z < p3 then some 0 else some 1))))) : Option Int32).bind fun v16 => (if v16 = 0 then F else (if (nI z - p1) < p4 then F else (if p4 ≤ (nI z - p3) then G else F)))) = cpE p1 p3 p4 (nI z) (nI z) F G) from fun _ _ => rfl]
          rcases spanN hz z1 p1 p4 with ⟨f1, hf⟩ | ⟨a, n, han, rfl, rfl, f1⟩
          · rw [f1, cpA hf]; simp only [Option.bind_some, if_true]
            exact ⟨_, _, hk, rfl, rfl, rfl, relSame (relF h' 3) k⟩
          · rcases spanN hz z1 p3 (nI n) with ⟨f2, hf⟩ | ⟨b, n', hbn, rfl, en, f2⟩
            · rw [f1, f2, cpB hf]; simp only [Option.bind_some, if_true, one_ne, if_false]
              exact ⟨_, _, hk, rfl, rfl, rfl, relSame (relF h' 3) k⟩
            · have en' : n = n' := by
                have h1 : (nI n).toBitVec = (nI n').toBitVec := congrArg Int32.toBitVec en
                have h2 := f1
                by_cases q : n < 1000000
                · exact (eq' q (by omega)).mp en
                · omega
              subst en'
              obtain ⟨M', eM, m1, m2⟩ := copyM (M := sB M 0 0 0) hk hk (show a + n ≤ 60 by omega) (show b + n ≤ 60 by omega) (decide (a < b)) (fun _ => by simp)
              rw [f1, f2, cpC han hbn hz hz, aheadI (by omega) (by omega)]
              simp only [Option.bind_some, one_ne, if_false, gCok (show a + n ≤ 60 by omega) (show b + n ≤ 60 by omega), eM, cl (show a < 1000000 by omega), cl (show b < 1000000 by omega), cl (show n < 1000000 by omega)]
              exact ⟨_, _, hk, rfl, rfl, rfl, key a b n (by omega) (by omega) M' m1 m2⟩
      · right
        refine ⟨k, o, ?_⟩
        simp only [Option.bind_some, one_ne, if_false, gIn hk (show 4 < 1000000 by omega), cl (show k < 1000000 by omega), gIn ho (show 4 < 1000000 by omega), cl (show o < 1000000 by omega), gEn, z2, y2]
        rcases hl with ⟨a1, a2⟩ | ⟨a1, t, ht, a2, a3⟩
        · simp only [a1, a2, if_true, fX3_failed_2, fX4_fails, Option.bind_some]
          exact ⟨_, _, hk, ho, ek, rfl, rfl, rfl, relSame (relF h' 1) o⟩
        · rcases hl2 with ⟨b1, b2⟩ | ⟨b1, t2, ht2, b2, b3⟩
          · simp only [a1, a3, b1, b2, laneNe ht, one_ne, if_false, if_true, fX3_failed_2, fX4_fails, Option.bind_some]
            exact ⟨_, _, hk, ho, ek, rfl, rfl, rfl, relSame (relF h' 1) o⟩
          · simp only [a1, a2, a3, b1, b2, b3, laneNe ht, laneNe ht2, one_ne, if_false, fX3_failed_2, fX4_fails, Option.bind_some]
            by_cases c : nI t = nI t2
            · simp only [if_pos c]
              rw [show (∀ (F G : Option (Int32 × Bk)), (((if p1 < 0 then some 0 else (if p3 < 0 then some 0 else (if p4 < 0 then some 0 else (if nI z < p1 then some 0 else (if nI y < p3 then some 0 else some 1))))) : Option Int32).bind fun v16 => (if v16 = 0 then F else (if (nI z - p1) < p4 then F else (if p4 ≤ (nI y - p3) then G else F)))) = cpE p1 p3 p4 (nI z) (nI y) F G) from fun _ _ => rfl]
              rcases spanN hz z1 p1 p4 with ⟨f1, hf⟩ | ⟨a, n, han, rfl, rfl, f1⟩
              · rw [f1, cpA hf]; simp only [Option.bind_some, if_true]
                exact ⟨_, _, hk, ho, ek, rfl, rfl, rfl, relSame (relF h' 3) o⟩
              · rcases spanN hy y1 p3 (nI n) with ⟨f2, hf⟩ | ⟨b, n', hbn, rfl, en, f2⟩
                · rw [f1, f2, cpB hf]; simp only [Option.bind_some, if_true, one_ne, if_false]
                  exact ⟨_, _, hk, ho, ek, rfl, rfl, rfl, relSame (relF h' 3) o⟩
                · have en' : n = n' := by
                    by_cases q : n < 1000000
                    · exact (eq' q (by omega)).mp en
                    · omega
                  subst en'
                  obtain ⟨M', eM, m1, m2⟩ := copyM (M := sB M 0 0 0) hk ho (show a + n ≤ 60 by omega) (show b + n ≤ 60 by omega) (decide (a < b)) (fun _ => by simp)
                  rw [f1, f2, cpC han hbn hz hy, aheadI (by omega) (by omega)]
                  simp only [Option.bind_some, one_ne, if_false, gCok (show a + n ≤ 60 by omega) (show b + n ≤ 60 by omega), eM, cl (show a < 1000000 by omega), cl (show b < 1000000 by omega), cl (show n < 1000000 by omega)]
                  exact ⟨_, _, hk, ho, ek, rfl, rfl, rfl, key a b n (by omega) (by omega) M' m1 m2⟩
            · simp only [if_neg c]
              exact ⟨_, _, hk, ho, ek, rfl, rfl, rfl, relSame (relF h' 2) o⟩
