-- still owed
theorem sim_county {X : Bk} {Rw : Nat → Bk} {L N M : Bk} (T : Bk) (h : Rel X Rw L N M) (p0 : Int32) (p1 : Int32) (p2 : Int32) (p3 : Int32) : ∃ (k : Nat) (ox : (Int32 × Bk × Bk × Bk × Bk)) (om : (Int32 × Bk)), k < 4 ∧ fX3_county k X (Rw k) L T N p0 p1 p2 p3 = some ox ∧ fX4_county M p0 p1 p2 p3 = some om ∧ ox.1 = om.1 ∧ Rel ox.2.1 Rw ox.2.2.1 ox.2.2.2.2 om.2 := by
  sorry
theorem sim_years {X : Bk} {Rw : Nat → Bk} {L N M : Bk} (T : Bk) (h : Rel X Rw L N M) (p0 : Int32) : ∃ (k : Nat) (ox : (Int32 × Bk × Bk)) (om : (Int32 × Bk)), k < 4 ∧ fX3_years X L p0 = some ox ∧ fX4_years M p0 = some om ∧ ox.1 = om.1 ∧ Rel ox.2.1 Rw ox.2.2 N om.2 := by
  sorry
theorem sim_season {X : Bk} {Rw : Nat → Bk} {L N M : Bk} (T : Bk) (h : Rel X Rw L N M) (p0 : Int32) (p1 : Int32) (p2 : Int32) (p3 : Int32) (p4 : Int32) : ∃ (k : Nat) (ox : (Int32 × Bk × Bk)) (om : (Int32 × Bk)), k < 4 ∧ fX3_season k X (Rw k) L T p0 p1 p2 p3 p4 = some ox ∧ fX4_season M p0 p1 p2 p3 p4 = some om ∧ ox.1 = om.1 ∧ Rel ox.2.1 Rw L N om.2 := by
  sorry
theorem sim_widest {X : Bk} {Rw : Nat → Bk} {L N M : Bk} (T : Bk) (h : Rel X Rw L N M) (p0 : Int32) (p1 : Int32) : ∃ (k : Nat) (ox : Int32) (om : Int32), k < 4 ∧ fX3_widest L p0 p1 = some ox ∧ fX4_widest M p0 p1 = some om ∧ ox = om ∧ Rel X Rw L N M := by
  sorry
theorem sim_way {X : Bk} {Rw : Nat → Bk} {L N M : Bk} (T : Bk) (h : Rel X Rw L N M) (p0 : Int32) (p1 : Int32) (p2 : Int32) : ∃ (k : Nat) (ox : (Int32 × Bk)) (om : (Int32 × Bk)), k < 4 ∧ fX3_way L p0 p1 p2 = some ox ∧ fX4_way M p0 p1 p2 = some om ∧ ox.1 = om.1 ∧ Rel X Rw ox.2 N om.2 := by
  sorry
theorem sim_market {X : Bk} {Rw : Nat → Bk} {L N M : Bk} (T : Bk) (h : Rel X Rw L N M) (p0 : Int32) : ∃ (k : Nat) (ox : Int32) (om : Int32), k < 4 ∧ fX3_market L p0 = some ox ∧ fX4_market M p0 = some om ∧ ox = om ∧ Rel X Rw L N M := by
  sorry
theorem sim_widen {X : Bk} {Rw : Nat → Bk} {L N M : Bk} (T : Bk) (h : Rel X Rw L N M) (p0 : Int32) (p1 : Int32) : ∃ (k : Nat) (ox : (Int32 × Bk)) (om : (Int32 × Bk)), k < 4 ∧ fX3_widen L p0 p1 = some ox ∧ fX4_widen M p0 p1 = some om ∧ ox.1 = om.1 ∧ Rel X Rw ox.2 N om.2 := by
  sorry
theorem sim_keep {X : Bk} {Rw : Nat → Bk} {L N M : Bk} (T : Bk) (h : Rel X Rw L N M) (p0 : Int32) (p1 : Int32) : ∃ (k : Nat) (ox : Int32) (om : Int32), k < 4 ∧ fX3_keep L p0 p1 = some ox ∧ fX4_keep M p0 p1 = some om ∧ ox = om ∧ Rel X Rw L N M := by
  sorry
theorem sim_girths {X : Bk} {Rw : Nat → Bk} {L N M : Bk} (T : Bk) (h : Rel X Rw L N M) (p0 : Int32) : ∃ (k : Nat) (ox : (Int32 × Bk)) (om : (Int32 × Bk)), k < 4 ∧ fX3_girths L T N p0 = some ox ∧ fX4_girths M p0 = some om ∧ ox.1 = om.1 ∧ Rel X Rw L N om.2 := by
  sorry
theorem sim_kinds {X : Bk} {Rw : Nat → Bk} {L N M : Bk} (T : Bk) (h : Rel X Rw L N M) (p0 : Int32) : ∃ (k : Nat) (ox : (Int32 × Bk)) (om : (Int32 × Bk)), k < 4 ∧ fX3_kinds L T N p0 = some ox ∧ fX4_kinds M p0 = some om ∧ ox.1 = om.1 ∧ Rel X Rw L N om.2 := by
  sorry
theorem sim_holes {X : Bk} {Rw : Nat → Bk} {L N M : Bk} (T : Bk) (h : Rel X Rw L N M) (p0 : Int32) (p1 : Int32) : ∃ (k : Nat) (ox : (Int32 × Bk)) (om : (Int32 × Bk)), k < 4 ∧ fX3_holes L T N p0 p1 = some ox ∧ fX4_holes M p0 p1 = some om ∧ ox.1 = om.1 ∧ Rel X Rw L N om.2 := by
  sorry
theorem sim_odds {X : Bk} {Rw : Nat → Bk} {L N M : Bk} (T : Bk) (h : Rel X Rw L N M) (p0 : Int32) (p1 : Int32) (p2 : Int32) : ∃ (k : Nat) (ox : Int64) (om : (Int64 × Bk)), k < 4 ∧ fX3_odds L p0 p1 p2 = some ox ∧ fX4_odds M p0 p1 p2 = some om ∧ ox = om.1 ∧ Rel X Rw L N om.2 := by
  sorry
