/-! widest, market, odds -/
theorem reachC2 {L M : Bk} {v u : Vw} (hL : LandV L v) (hM : ModV M u) (hR : Rng v) (hU : Rng u) (u0 : u 0 0 = v 0 0) (u3 : ∀ h, u 3 h = v 3 h) {f t : Nat} (hf : f < v 0 0) (ht : t < 10) : ∃ S, S < 2 ^ (v 0 0) ∧ fX0_reachOf L (nI f) (nI t) = some (nI S) ∧ fX4_reached M (nI f) (nI (max 1 t)) 0 = some (nI S) := by
  obtain ⟨S, e1, hS, d1⟩ := reachX hL hR hf ht
  obtain ⟨S', e2, hS', d2⟩ := reachM hM hU (f := f) (t := t) (by rw [u0]; exact hf) ht 0
  have ea : ∀ a b, adj u t a b = adj v t a b := fun a b => by unfold adj; rw [u0, u3]
  rw [u0] at hS' d2
  have d3 : Ds (cA (adj v t)) (v 0 0) f (dS S') := Ds_c (fun a ha b hb => by unfold cA; rw [AC_0 hU (by rw [u0]; exact hb) (by rw [u0]; exact ha), ea]) d2
  have e : S' = S := dS_inj hS' hS (d3.uniq d1)
  rw [e] at e2
  exact ⟨S, hS, e1, e2⟩
theorem dec_I : ∀ j, j < 10 → nI (j + 1) + (-1) = nI j := by decide +kernel
theorem max1 {j : Nat} : max 1 (j + 1) = j + 1 := by omega
theorem widestL {L M : Bk} {v : Vw} (hL : LandV L v) (hM : ModV M v) (hR : Rng v) {a b : Nat} (ha : a < v 0 0) (hb : b < v 0 0) : ∀ j N, j < N → j < 10 → ∃ z, fu1 (FX3_widest_14 (nI a) (nI b) L (fun _ => some 0)) N (nI j) = some z ∧ fu1 (FX4_widest_14 (nI a) (nI b) M (fun x => some x)) N (nI j) = some z := by
  intro j
  induction j with
  | zero =>
    intro N hN _
    obtain ⟨N, rfl⟩ : ∃ k, N = k + 1 := ⟨N - 1, by omega⟩
    exact ⟨0, rfl, rfl⟩
  | succ j ih =>
    intro N hN hj
    obtain ⟨N, rfl⟩ : ∃ k, N = k + 1 := ⟨N - 1, by omega⟩
    obtain ⟨S, hS, e1, e2⟩ := reachC hL hM hR (f := a) (t := j + 1) ha hj
    rw [max1] at e2
    have c : ¬ nI (j + 1) ≤ 0 := by rw [show (0 : Int32) = nI 0 from rfl, le' (by omega) (by omega)]; omega
    show ∃ z, FX3_widest_14 (nI a) (nI b) L (fun _ => some 0) (fu1 (FX3_widest_14 (nI a) (nI b) L (fun _ => some 0)) N) (nI (j + 1)) = some z ∧ FX4_widest_14 (nI a) (nI b) M (fun x => some x) (fu1 (FX4_widest_14 (nI a) (nI b) M (fun x => some x)) N) (nI (j + 1)) = some z
    have ih' := ih N (by omega) (by omega)
    generalize fu1 (FX3_widest_14 (nI a) (nI b) L (fun _ => some 0)) N = sX at ih' ⊢
    generalize fu1 (FX4_widest_14 (nI a) (nI b) M (fun x => some x)) N = sM at ih' ⊢
    unfold FX3_widest_14 FX4_widest_14
    simp only [if_neg c, e1, e2, Option.bind_some, isInX, isOfM, b2i_0, dec_I j (by omega)]
    cases q : bt (nI S) b with
    | false => simp only [if_true]; exact ih'
    | true => simp only [Bool.true_eq_false, if_false]; exact ⟨_, rfl, rfl⟩
theorem sim_widest {X : Bk} {Rw : Nat → Bk} {L N M : Bk} (T : Bk) (h : Rel X Rw L N M) (p0 : Int32) (p1 : Int32) : ∃ (k : Nat) (ox : Int32) (om : Int32), k < 4 ∧ fX3_widest L p0 p1 = some ox ∧ fX4_widest M p0 p1 = some om ∧ ox = om ∧ Rel X Rw L N M := by
  obtain ⟨v, r, hR, hL, hM, hw, hS, hd, hdr, hrow⟩ := id h
  unfold fX3_widest fX4_widest
  rcases twoC hL hM hR p0 p1 with ⟨e1, e2⟩ | ⟨a, b, ha, hb, hab, rfl, rfl, e1, e2⟩
  · rw [e1, e2]; exact ⟨0, _, _, by decide, rfl, rfl, rfl, h⟩
  · obtain ⟨z, z1, z2⟩ := widestL hL hM hR ha hb 9 100 (by omega) (by omega)
    rw [e1, e2]
    simp only [Option.bind_some, one_ne, if_false]
    exact ⟨0, z, z, by decide, z1, z2, rfl, h⟩
-- market
theorem wantsM {M : Bk} {v : Vw} (hM : ModV M v) (hR : Rng v) {k : Nat} (hk : k < v 1 0) : fX4_wantsOf M (nI k) = some (nI (max 1 (th v k))) := by
  have ht := th_lt hR hk
  unfold fX4_wantsOf
  rw [thickM hM hR hk]
  simp only [Option.bind_some]
  by_cases c : 1 ≤ th v k
  · rw [if_pos (show (1 : Int32) ≤ nI (th v k) from (le' (a := 1) (by omega) (by omega)).mpr c), Nat.max_eq_right c]
  · rw [if_neg (show ¬ (1 : Int32) ≤ nI (th v k) by intro q; exact c ((le' (a := 1) (by omega) (by omega)).mp q)), Nat.max_eq_left (by omega)]; rfl
/-- goer k gets to f -/
def gt (L : Bk) (v : Vw) (f k : Nat) : Bool := bt ((fX0_reachOf L (nI (v 6 k)) (nI (th v k))).getD 0) f
theorem gtM {L M : Bk} {v : Vw} (hL : LandV L v) (hM : ModV M v) (hR : Rng v) {k : Nat} (hk : k < v 1 0) : ∃ S, fX0_reachOf L (nI (v 6 k)) (nI (th v k)) = some (nI S) ∧ fX4_reachedBy M (nI k) = some (nI S) ∧ ∀ f, gt L v f k = bt (nI S) f := by
  have h1 := hR.2.1
  obtain ⟨S, hS, e1, e2⟩ := reachC hL hM hR (f := v 6 k) (t := th v k) (hR.2.2.2 k hk).2.2.2 (th_lt hR hk)
  refine ⟨S, e1, ?_, fun f => by unfold gt; rw [e1]; rfl⟩
  unfold fX4_reachedBy
  rw [gIn (show k < 5 by omega) (by omega), wantsM hM hR hk, cl (show k < 1000000 by omega), (hM.2.2.2 k hk).2.2]
  simp only [Option.bind_some, e2]
theorem comersX {L M : Bk} {v : Vw} (hL : LandV L v) (hM : ModV M v) (hR : Rng v) (f : Nat) : fX0_comersTo L (nI f) = some (accF (gt L v f) 0 (v 1 0) 0) := by
  have h1 := hR.2.1
  unfold fX0_comersTo
  refine fx2 (fun o => o = some (accF (gt L v f) 0 (v 1 0) 0)) (fun (a x : Int32) m => ∃ j, j ≤ v 1 0 ∧ x = nI j ∧ m = v 1 0 - j ∧ accF (gt L v f) j (v 1 0 - j) a = accF (gt L v f) 0 (v 1 0) 0) ?_ 100 0 0 (v 1 0) ⟨0, by omega, rfl, by omega, rfl⟩ (by omega)
  rintro self a x m ⟨j, hj, rfl, hm, hacc⟩ ih
  unfold FX0_comersTo_4
  rw [hL.2.1]
  by_cases c : v 1 0 ≤ j
  · rw [if_pos ((le' (by omega) (by omega)).mpr c)]
    rw [show v 1 0 - j = 0 by omega] at hacc
    rw [← hacc]; rfl
  · have hk : j < v 1 0 := by omega
    obtain ⟨S, e1, -, e3⟩ := gtM hL hM hR hk
    rw [if_neg (by rw [le' (by omega) (by omega)]; exact c), gIn (show j < 5 by omega) (by omega), cl (show j < 1000000 by omega), (hL.2.2.2 j hk).2.2, thickX hL hR hk]
    simp only [Option.bind_some, e1, isInX, accB, ← e3]
    refine ih _ _ (m - 1) (by omega) ⟨j + 1, by omega, nI_1 j, by omega, ?_⟩
    rw [← hacc, show v 1 0 - j = (v 1 0 - (j + 1)) + 1 by omega]; rfl
theorem comersM {ρ : Type} {L M : Bk} {v : Vw} (hL : LandV L v) (hM : ModV M v) (hR : Rng v) (f : Nat) {F : Int32} (hF : F = nI f) (kx : Int32 → Int32 → Option ρ) : fu2 (FX4_market_44 M F kx) 100 0 0 = kx (accF (gt L v f) 0 (v 1 0) 0) (nI (v 1 0)) := by
  subst hF
  have h1 := hR.2.1
  refine fx2 (fun o => o = kx (accF (gt L v f) 0 (v 1 0) 0) (nI (v 1 0))) (fun (a x : Int32) m => ∃ j, j ≤ v 1 0 ∧ x = nI j ∧ m = v 1 0 - j ∧ accF (gt L v f) j (v 1 0 - j) a = accF (gt L v f) 0 (v 1 0) 0) ?_ 100 0 0 (v 1 0) ⟨0, by omega, rfl, by omega, rfl⟩ (by omega)
  rintro self a x m ⟨j, hj, rfl, hm, hacc⟩ ih
  unfold FX4_market_44
  rw [hM.2.1]
  by_cases c : v 1 0 ≤ j
  · rw [if_pos ((le' (by omega) (by omega)).mpr c)]
    rw [show v 1 0 - j = 0 by omega] at hacc
    rw [← hacc, show v 1 0 = j by omega]; rfl
  · have hk : j < v 1 0 := by omega
    obtain ⟨S, -, e2, e3⟩ := gtM hL hM hR hk
    rw [if_neg (by rw [le' (by omega) (by omega)]; exact c), e2]
    simp only [Option.bind_some, isOfM, accB, ← e3]
    refine ih _ _ (m - 1) (by omega) ⟨j + 1, by omega, nI_1 j, by omega, ?_⟩
    rw [← hacc, show v 1 0 - j = (v 1 0 - (j + 1)) + 1 by omega]; rfl
theorem accF_I (P : Nat → Bool) : ∀ m j s, j + m ≤ 5 → s < 32 → ∃ s', s' < 32 ∧ accF P j m (nI s) = nI s' := by
  intro m
  induction m with
  | zero => intro j s _ hs; exact ⟨s, hs, rfl⟩
  | succ m ih =>
    intro j s hj hs
    unfold accF
    cases P j with
    | false => simp only [Bool.false_eq_true, if_false, Int32.or_zero]; exact ih (j + 1) s (by omega) hs
    | true =>
      rw [if_pos rfl, or_I s hs j (by omega)]
      exact ih (j + 1) _ (by omega) (or_lt (n := 5) hs (by omega))
def pc (s : Nat) : Nat := (if s.testBit 0 then 1 else 0) + (if s.testBit 1 then 1 else 0) + (if s.testBit 2 then 1 else 0) + (if s.testBit 3 then 1 else 0) + (if s.testBit 4 then 1 else 0) + (if s.testBit 5 then 1 else 0) + (if s.testBit 6 then 1 else 0) + (if s.testBit 7 then 1 else 0) + (if s.testBit 8 then 1 else 0) + (if s.testBit 9 then 1 else 0)
theorem pc_X : ∀ s, s < 1024 → fJ6_bitCount_0f7a4 (nI s) = some (nI (pc s)) := by decide +kernel
theorem pc_M : ∀ s, s < 1024 → fX4_size (nI s) = some (nI (pc s)) := by decide +kernel
theorem mkX1 {L M : Bk} {v : Vw} (hL : LandV L v) (hM : ModV M v) (hR : Rng v) {kx sX : Int32 → Int32 → Int32 → Option Int32} {j s s' : Nat} (a : Int32) (hj : j < v 0 0) (hs : s < 32) (hs' : s' < 32) (es : accF (gt L v j) 0 (v 1 0) 0 = nI s') : FX3_market_36 L kx sX a (nI s) (nI j) = if nI (pc s') ≤ nI (pc s) then sX a (nI s) (nI (j + 1)) else sX (nI j) (nI s') (nI (j + 1)) := by
  have h0 := hR.1
  unfold FX3_market_36
  rw [hL.1, if_neg (by rw [le' (by omega) (by omega)]; omega), comersX hL hM hR j, es, Option.bind_some, pc_X s' (by omega), Option.bind_some, pc_X s (by omega), Option.bind_some, nI_1 j]
  by_cases q : nI (pc s') ≤ nI (pc s)
  · rw [if_pos q, if_pos q]; rfl
  · rw [if_neg q, if_neg q]; rfl
theorem mkM1 {L M : Bk} {v : Vw} (hL : LandV L v) (hM : ModV M v) (hR : Rng v) {kx sM : Int32 → Int32 → Int32 → Option Int32} {j s s' : Nat} (a : Int32) (hj1 : 1 ≤ j) (hj : j < v 0 0) (hs : s < 32) (hs' : s' < 32) (es : accF (gt L v j) 0 (v 1 0) 0 = nI s') : FX4_market_29 M kx sM a (nI s) (nI j) = if nI (pc s') ≤ nI (pc s) then sM a (nI s) (nI (j + 1)) else sM (nI j) (nI s') (nI (j + 1)) := by
  have h0 := hR.1
  have cj : ¬ nI j = 0 := by
    intro e
    have := (eq' (a := j) (b := 0) (by omega) (by omega)).mp e
    omega
  unfold FX4_market_29
  rw [hM.1, if_neg (by rw [le' (by omega) (by omega)]; omega), comersM hL hM hR j rfl, es, if_neg cj, pc_M s' (by omega), Option.bind_some, pc_M s (by omega), Option.bind_some, nI_1 j]
  by_cases q : nI (pc s') ≤ nI (pc s)
  · rw [if_pos q, if_pos q]; rfl
  · rw [if_neg q, if_neg q]; rfl
theorem marketL {L M : Bk} {v : Vw} (hL : LandV L v) (hM : ModV M v) (hR : Rng v) (kx : Int32 → Int32 → Int32 → Option Int32) (hk : ∀ a b c, ∃ z, kx a b c = some z) : ∀ m N K j a s, m = v 0 0 - j → 1 ≤ j → j ≤ v 0 0 → m < N → m < K → s < 32 → ∃ z, fu3 (FX3_market_36 L kx) N a (nI s) (nI j) = some z ∧ fu3 (FX4_market_29 M kx) K a (nI s) (nI j) = some z := by
  have h0 := hR.1
  have h1 := hR.2.1
  intro m
  induction m with
  | zero =>
    intro N K j a s hm hj1 hj hN hK hs
    obtain ⟨N, rfl⟩ : ∃ k, N = k + 1 := ⟨N - 1, by omega⟩
    obtain ⟨K, rfl⟩ : ∃ k, K = k + 1 := ⟨K - 1, by omega⟩
    show ∃ z, FX3_market_36 L kx (fu3 (FX3_market_36 L kx) N) a (nI s) (nI j) = some z ∧ FX4_market_29 M kx (fu3 (FX4_market_29 M kx) K) a (nI s) (nI j) = some z
    unfold FX3_market_36 FX4_market_29
    have c : nI (v 0 0) ≤ nI j := (le' (by omega) (by omega)).mpr (by omega)
    rw [hL.1, hM.1, if_pos c, if_pos c]
    obtain ⟨z, hz⟩ := hk a (nI s) (nI j)
    exact ⟨z, hz, hz⟩
  | succ m ih =>
    intro N K j a s hm hj1 hj hN hK hs
    obtain ⟨N, rfl⟩ : ∃ k, N = k + 1 := ⟨N - 1, by omega⟩
    obtain ⟨K, rfl⟩ : ∃ k, K = k + 1 := ⟨K - 1, by omega⟩
    show ∃ z, FX3_market_36 L kx (fu3 (FX3_market_36 L kx) N) a (nI s) (nI j) = some z ∧ FX4_market_29 M kx (fu3 (FX4_market_29 M kx) K) a (nI s) (nI j) = some z
    obtain ⟨s', hs', es⟩ := accF_I (gt L v j) (v 1 0) 0 0 (by omega) (by omega)
    have es' : accF (gt L v j) 0 (v 1 0) 0 = nI s' := es
    have ih1 := ih N K (j + 1) a s (by omega) (by omega) (by omega) (by omega) (by omega) hs
    have ih2 := ih N K (j + 1) (nI j) s' (by omega) (by omega) (by omega) (by omega) (by omega) hs'
    generalize fu3 (FX3_market_36 L kx) N = sX at ih1 ih2 ⊢
    generalize fu3 (FX4_market_29 M kx) K = sM at ih1 ih2 ⊢
    rw [mkX1 hL hM hR a (by omega) hs hs' es', mkM1 hL hM hR a hj1 (by omega) hs hs' es']
    by_cases q : nI (pc s') ≤ nI (pc s)
    · rw [if_pos q, if_pos q]; exact ih1
    · rw [if_neg q, if_neg q]; exact ih2
theorem sim_market {X : Bk} {Rw : Nat → Bk} {L N M : Bk} (T : Bk) (h : Rel X Rw L N M) (p0 : Int32) : ∃ (k : Nat) (ox : Int32) (om : Int32), k < 4 ∧ fX3_market L p0 = some ox ∧ fX4_market M p0 = some om ∧ ox = om ∧ Rel X Rw L N M := by
  obtain ⟨v, r, hR, hL, hM, hw, hS, hd, hdr, hrow⟩ := id h
  have h0 := hR.1
  have h1 := hR.2.1
  unfold fX3_market fX4_market fX4_within
  by_cases q : p0 < 0
  · simp only [if_pos q]; exact ⟨0, _, _, by decide, rfl, rfl, rfl, h⟩
  · by_cases q2 : p0 ≤ 1
    · have q3 : ¬ (1 : Int32) < p0 := Int32.not_lt.mpr q2
      simp only [if_neg q, if_pos q2, if_neg q3, Option.bind_some, one_ne, if_false, hasX hL hR, noM hM hR]
      by_cases c0 : v 0 0 = 0
      · simp only [c0, if_true]; exact ⟨0, _, _, by decide, rfl, rfl, rfl, h⟩
      · simp only [c0, if_false, one_ne]
        obtain ⟨s, hs, es⟩ := accF_I (gt L v 0) (v 1 0) 0 0 (by omega) (by omega)
        have eX : fX0_comersTo L 0 = some (nI s) := (comersX hL hM hR 0).trans (by rw [show (0 : Int32) = nI 0 from rfl, es])
        rw [eX]
        simp only [Option.bind_some]
        obtain ⟨z, z1, z2⟩ := marketL hL hM hR (fun x2_11 x3_12 x4_13 => (if p0 = 0 then some x2_11 else some x3_12)) (fun a b c => by by_cases q : p0 = 0 <;> simp [q]) (v 0 0 - 1) 100 99 1 0 s (by omega) (by omega) (by omega) (by omega) (by omega) hs
        have eM : fu3 (FX4_market_29 M (fun x2_8 x3_9 x4_10 => (if p0 = 0 then some x2_8 else some x3_9))) 100 0 0 0 = some z := by
          show FX4_market_29 M (fun x2_8 x3_9 x4_10 => (if p0 = 0 then some x2_8 else some x3_9)) (fu3 (FX4_market_29 M (fun x2_8 x3_9 x4_10 => (if p0 = 0 then some x2_8 else some x3_9))) 99) 0 0 0 = some z
          generalize fu3 (FX4_market_29 M (fun x2_8 x3_9 x4_10 => (if p0 = 0 then some x2_8 else some x3_9))) 99 = sM at z2 ⊢
          unfold FX4_market_29
          rw [hM.1, if_neg (show ¬ nI (v 0 0) ≤ (0 : Int32) by rw [show (0 : Int32) = nI 0 from rfl, le' (by omega) (by omega)]; omega), comersM hL hM hR 0 (show (0 : Int32) = nI 0 from rfl), show accF (gt L v 0) 0 (v 1 0) 0 = nI s from es]
          simp only [if_true, Option.bind_some]
          exact z2
        rw [eM]
        exact ⟨0, z, z, by decide, z1, rfl, rfl, h⟩
    · have q3 : (1 : Int32) < p0 := Int32.not_le.mp q2
      simp only [if_neg q, if_neg q2, if_pos q3]; exact ⟨0, _, _, by decide, rfl, rfl, rfl, h⟩
-- odds
theorem oddsI : ∀ c, c < 10 → ∀ p, p < 2 → ∃ z, ((fX3_commonDivisor (nI c) 9).bind fun v24 => (if nI p = 0 then gN v24 <| some (((nI c / v24).toInt64)) else gN v24 <| some (((9 / v24).toInt64)))) = some z ∧ fX4_inLeastTerms (nI c).toInt64 9 (nI p) = some z := by
  have key : ∀ c, c < 10 → ∀ p, p < 2 → (((fX3_commonDivisor (nI c) 9).bind fun v24 => (if nI p = 0 then gN v24 <| some (((nI c / v24).toInt64)) else gN v24 <| some (((9 / v24).toInt64)))) = fX4_inLeastTerms (nI c).toInt64 9 (nI p) ∧ (fX4_inLeastTerms (nI c).toInt64 9 (nI p)).isSome = true) := by decide +kernel
  intro c hc p hp
  obtain ⟨k1, k2⟩ := key c hc p hp
  obtain ⟨z, hz⟩ := Option.isSome_iff_exists.mp k2
  exact ⟨z, k1.trans hz, hz⟩
def cF (P : Nat → Bool) : Nat → Nat
  | 0 => 0
  | j + 1 => cF P j + (if P (j + 1) then 1 else 0)
theorem cF_1 (P : Nat → Bool) (j : Nat) : cF P (j + 1) = cF P j + (if P (j + 1) then 1 else 0) := rfl
theorem cF_le (P : Nat → Bool) (j : Nat) : cF P j ≤ j := by
  induction j with
  | zero => exact Nat.le_refl 0
  | succ j ih => rw [cF_1]; cases P (j + 1) <;> simp <;> omega
/-- with girth j goer k gets to f -/
def gj (L : Bk) (v : Vw) (f k j : Nat) : Bool := bt ((fX0_reachOf L (nI (v 6 k)) (nI (thN (v 4 k) j))).getD 0) f
theorem cF_nx (P : Nat → Bool) (j : Nat) : nI (cF P j) + (if P (j + 1) then 1 else 0) = nI (cF P (j + 1)) := by
  rw [cF_1]
  cases P (j + 1) with
  | false => simp
  | true => simp only [if_true]; exact nI_1 _
theorem oddsX {L M : Bk} {v : Vw} (hL : LandV L v) (hM : ModV M v) (hR : Rng v) {k f : Nat} (hk : k < v 1 0) {ρ : Type} (kx : Int32 → Int32 → Option ρ) : fu2 (FX3_odds_35 (nI k) (nI f) L kx) 100 0 1 = kx (nI (cF (gj L v f k) 9)) (nI 10) := by
  have h1 := hR.2.1
  obtain ⟨a1, a2, a3⟩ := hL.2.2.2 k hk
  obtain ⟨g1, g2, g3, g4⟩ := hR.2.2.2 k hk
  refine fx2 (fun o => o = kx (nI (cF (gj L v f k) 9)) (nI 10)) (fun (a x : Int32) m => ∃ j, j ≤ 9 ∧ a = nI (cF (gj L v f k) j) ∧ x = nI (j + 1) ∧ m = 9 - j) ?_ 100 0 1 9 ⟨0, by omega, rfl, rfl, by omega⟩ (by omega)
  rintro self a x m ⟨j, hj, rfl, rfl, hm⟩ ih
  unfold FX3_odds_35
  by_cases c : 9 ≤ j
  · have ej : j = 9 := by omega
    subst ej
    rw [if_pos (show (9 : Int32) < nI (9 + 1) by decide)]
  · have c' : ¬ (9 : Int32) < nI (j + 1) := by rw [show (9 : Int32) = nI 9 from rfl, lt' (by omega) (by omega)]; omega
    obtain ⟨S, e1, hS, -⟩ := reachX hL hR (f := v 6 k) (t := thN (v 4 k) (j + 1)) g4 (thN_lt _ g1 _ (by omega))
    have eg : gj L v f k (j + 1) = bt (nI S) f := by unfold gj; rw [e1]; rfl
    rw [if_neg c', gIn (show k < 5 by omega) (by omega), cl (show k < 1000000 by omega), a1, a3, thN_X _ g1 _ (by omega) (by omega)]
    simp only [Option.bind_some, e1, isInX, accB, ← eg]
    refine ih _ _ (m - 1) (by omega) ⟨j + 1, by omega, cF_nx _ j, nI_1 _, by omega⟩
theorem oddsM {L M : Bk} {v : Vw} (hL : LandV L v) (hM : ModV M v) (hR : Rng v) {k f : Nat} (hk : k < v 1 0) {ρ : Type} (kx : Int32 → Int32 → Bk → Option ρ) : ∃ M', fu3 (FX4_odds_43 (nI k) (nI f) kx) 100 0 1 M = kx (nI (cF (gj L v f k) 9)) (nI 10) M' ∧ (∃ y, ModV M' (uV v 5 k y)) ∧ ∀ i, i ≠ 12 → M' i = M i := by
  have h1 := hR.2.1
  obtain ⟨g1, g2, g3, g4⟩ := hR.2.2.2 k hk
  refine fx3 (fun o => ∃ M' : Bk, o = kx (nI (cF (gj L v f k) 9)) (nI 10) M' ∧ (∃ y, ModV M' (uV v 5 k y)) ∧ ∀ i, i ≠ 12 → M' i = M i) (fun (a x : Int32) (B : Bk) m => ∃ j, j ≤ 9 ∧ a = nI (cF (gj L v f k) j) ∧ x = nI (j + 1) ∧ m = 9 - j ∧ (∃ y, ModV B (uV v 5 k y)) ∧ ∀ i, i ≠ 12 → B i = M i) ?_ 100 0 1 M 9 ⟨0, by omega, rfl, rfl, by omega, ⟨v 5 k, by rw [uV_id]; exact hM⟩, fun _ _ => rfl⟩ (by omega)
  rintro self a x B m ⟨j, hj, rfl, rfl, hm, ⟨y, hB⟩, hBo⟩ ih
  unfold FX4_odds_43
  by_cases c : 9 ≤ j
  · have ej : j = 9 := by omega
    subst ej
    rw [if_pos (show (9 : Int32) < nI (9 + 1) by decide)]
    exact ⟨B, rfl, ⟨y, hB⟩, hBo⟩
  · have c' : ¬ (9 : Int32) < nI (j + 1) := by rw [show (9 : Int32) = nI 9 from rfl, lt' (by omega) (by omega)]; omega
    have hB2 : ModV (sB B 12 k (nI (j + 1))) (uV v 5 k (j + 1)) := by have := ModV.setG (f := 5) hB (Or.inr (Or.inl rfl)) k (j + 1); rw [uV_uV] at this; exact this
    have hR2 : Rng (uV v 5 k (j + 1)) := hR.setG k (Or.inr (Or.inl ⟨rfl, by omega, by omega⟩))
    have hk2 : k < uV v 5 k (j + 1) 1 0 := by rw [uV_ne _ _ _ _ (by decide)]; exact hk
    have et : th (uV v 5 k (j + 1)) k = thN (v 4 k) (j + 1) := by unfold th; rw [uV_ne _ _ _ _ (by decide), uV_row, if_pos rfl]
    obtain ⟨S, hS, e1, e2⟩ := reachC2 hL hB2 hR hR2 (uV_ne _ _ _ _ (by decide)) (fun h => uV_ne _ _ _ _ (by decide)) (f := v 6 k) (t := thN (v 4 k) (j + 1)) g4 (thN_lt _ g1 _ (by omega))
    have eg : gj L v f k (j + 1) = bt (nI S) f := by unfold gj; rw [e1]; rfl
    have e3 : fX4_reachedBy (sB B 12 k (nI (j + 1))) (nI k) = some (nI S) := by
      unfold fX4_reachedBy
      rw [gIn (show k < 5 by omega) (by omega), wantsM hB2 hR2 hk2, cl (show k < 1000000 by omega), (hB2.2.2.2 k hk2).2.2, uV_ne _ _ _ _ (by decide), et]
      simp only [Option.bind_some, e2]
    rw [if_neg c']
    simp only [Option.bind_some, cl (show k < 1000000 by omega), e3, isOfM, accB, ← eg]
    exact ih _ _ _ (m - 1) (by omega) ⟨j + 1, by omega, cF_nx _ j, nI_1 _, by omega, ⟨j + 1, hB2⟩, fun i hi => by rw [sB_ne _ _ _ hi]; exact hBo i hi⟩
theorem sim_odds {X : Bk} {Rw : Nat → Bk} {L N M : Bk} (T : Bk) (h : Rel X Rw L N M) (p0 : Int32) (p1 : Int32) (p2 : Int32) : ∃ (k : Nat) (ox : Int64) (om : (Int64 × Bk)), k < 4 ∧ fX3_odds L p0 p1 p2 = some ox ∧ fX4_odds M p0 p1 p2 = some om ∧ ox = om.1 ∧ Rel X Rw L N om.2 := by
  obtain ⟨v, r, hR, hL, hM, hw, hS, hd, hdr, hrow⟩ := id h
  unfold fX3_odds fX4_odds
  rcases goerC hL hM hR p0 with ⟨e1, e2⟩ | ⟨k, hk, rfl, e1, e2⟩
  · rw [e1, e2]; exact ⟨0, _, _, by decide, rfl, rfl, rfl, h⟩
  · rcases fieldC hL hM hR p1 with ⟨e3, e4⟩ | ⟨f, hf, rfl, e3, e4⟩
    · rw [e1, e2, e3, e4]; exact ⟨0, _, _, by decide, rfl, rfl, rfl, h⟩
    · have h1 := hR.2.1
      rw [e1, e2, e3, e4]
      simp only [Option.bind_some, one_ne, if_false, fX4_within]
      rcases ix p2 2 (by omega) with q | q | ⟨p, hp, rfl⟩
      · simp only [if_pos q]; exact ⟨0, _, _, by decide, rfl, rfl, rfl, h⟩
      · have q2 : ¬ p2 ≤ 1 := by intro c2; exact absurd (Int32.lt_of_le_of_lt c2 (by decide : (1 : Int32) < 2)) (Int32.not_lt.mpr q)
        have q3 : (1 : Int32) < p2 := Int32.not_le.mp q2
        have q4 : ¬ p2 < 0 := by intro c; exact absurd (Int32.lt_of_lt_of_le c (by decide : (0 : Int32) ≤ 2)) (Int32.not_lt.mpr q)
        simp only [if_neg q4, if_neg q2, if_pos q3]; exact ⟨0, _, _, by decide, rfl, rfl, rfl, h⟩
      · have q1 : ¬ nI p < 0 := nlt0 (by omega)
        have q2 : nI p ≤ 1 := (le' (a := p) (b := 1) (by omega) (by omega)).mpr (by omega)
        have q3 : ¬ (1 : Int32) < nI p := Int32.not_lt.mpr q2
        obtain ⟨M2, em, ⟨y, hM2⟩, hMo⟩ := oddsM hL hM hR (f := f) hk (fun x5_14 x6_15 M_16 => (fX4_inLeastTerms (x5_14.toInt64) (9) (nI p)).bind fun v29 => some (v29, sB M_16 12 k (M 12 k)))
        obtain ⟨z, z1, z2⟩ := oddsI (cF (gj L v f k) 9) (by have := cF_le (gj L v f k) 9; omega) p hp
        simp only [if_neg q1, if_pos q2, if_neg q3, Option.bind_some, one_ne, if_false, gIn (show k < 5 by omega) (show 5 < 1000000 by omega), cl (show k < 1000000 by omega)]
        rw [oddsX hL hM hR hk, em]
        simp only [z1, z2, Option.bind_some]
        refine ⟨0, _, _, by decide, rfl, rfl, rfl, ?_⟩
        have hM3 : ModV (sB M2 12 k (M 12 k)) v := by
          have := ModV.setG (f := 5) hM2 (Or.inr (Or.inl rfl)) k (v 5 k)
          rw [uV_uV, uV_id] at this
          rw [(hM.2.2.2 k hk).2.1]; exact this
        have hMo3 : ∀ i, i ≠ 12 → sB M2 12 k (M 12 k) i = M i := fun i hi => by rw [sB_ne _ _ _ hi]; exact hMo i hi
        refine ⟨v, r, hR, hL, hM3, ?_, hS.fr (hMo3 0 (by decide)) (hMo3 1 (by decide)) (hMo3 7 (by decide)) (hMo3 8 (by decide)), hd.fr (hMo3 25 (by decide)) (hMo3 26 (by decide)) (hMo3 27 (by decide)) (hMo3 28 (by decide)), hdr, fun q hq => (hrow q hq).fr (hMo3 2 (by decide)) (hMo3 3 (by decide)) (hMo3 4 (by decide))⟩
        show L 2 0 = sB M2 12 k (M 12 k) 9 0
        rw [hMo3 9 (by decide)]; exact hw
