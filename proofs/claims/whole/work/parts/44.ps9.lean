/-! counties: the text read -/
def Fr (M M' : Bk) : Prop := ∀ i, i < 14 ∨ 19 ≤ i → M' i = M i
theorem Fr.sB {M B : Bk} (h : Fr M B) {k : Nat} (hk : 14 ≤ k ∧ k < 19) (i : Nat) (x : Int32) : Fr M (sB B k i x) := fun j hj => (sB_ne _ _ _ (by omega)).trans (h j hj)
/-- what both have read of n fields, the first w hedges and g goers -/
def Rd (n w g : Nat) (v : Vw) (T B : Bk) : Prop := T 0 0 = nI n ∧ B 15 0 = nI n ∧ T 1 0 = nI g ∧ B 16 0 = nI g ∧ T 2 0 = 0 ∧ (∀ h, h < w → T 3 h = nI (v 3 h) ∧ B 17 h = nI (v 3 h) ∧ v 3 h < 10) ∧ ∀ q, q < g → (T 4 q = nI (v 4 q) ∧ T 5 q = nI (v 5 q) ∧ T 6 q = nI (v 6 q)) ∧ (B 18 (3 * q) = nI (v 4 q) ∧ B 18 (3 * q + 1) = nI (v 5 q) ∧ B 18 (3 * q + 2) = nI (v 6 q)) ∧ v 4 q < 3 ∧ 1 ≤ v 5 q ∧ v 5 q < 10 ∧ v 6 q < n
def Out (M : Bk) (s len : Nat) (o1 o2 : Option (Int32 × Bk)) : Prop := (∃ i T' M', i ≤ len ∧ o1 = some (nI i, T') ∧ o2 = some (0, M') ∧ M' 14 0 = nI (s + i) ∧ Fr M M') ∨ ∃ T' M' n g v, o1 = some (-9, T') ∧ o2 = some (1, M') ∧ Fr M M' ∧ 2 ≤ n ∧ n < 6 ∧ 1 ≤ g ∧ g < 6 ∧ Rd n (hN n) g v T' M'
theorem digC (c : Int32) {lo hi : Nat} (hlo : lo ≤ 9) (hhi : hi ≤ 9) : (fX3_digit c (nI lo) (nI hi) = some (-9) ∧ fX4_within c (48 + nI lo) (48 + nI hi) = some 0) ∨ ∃ d, lo ≤ d ∧ d ≤ hi ∧ c - 48 = nI d ∧ fX3_digit c (nI lo) (nI hi) = some (nI d) ∧ fX4_within c (48 + nI lo) (48 + nI hi) = some 1 := by
  have e1 : (48 : Int32) + nI lo = nI (48 + lo) := by rw [show (48 : Int32) = nI 48 from rfl, nI_add]
  have e2 : (48 : Int32) + nI hi = nI (48 + hi) := by rw [show (48 : Int32) = nI 48 from rfl, nI_add]
  unfold fX3_digit fX4_within
  rw [e1, e2]
  by_cases c1 : c < nI (48 + lo)
  · left; rw [if_pos c1, if_pos c1]; exact ⟨rfl, rfl⟩
  · by_cases c2 : nI (48 + hi) < c
    · left; rw [if_neg c1, if_neg c1, if_pos c2, if_pos c2]; exact ⟨rfl, rfl⟩
    · right
      rw [if_neg c1, if_neg c1, if_neg c2, if_neg c2]
      rcases ix c 58 (by omega) with q | q | ⟨j, hj, rfl⟩
      · exact absurd (Int32.lt_of_lt_of_le q (Int32.not_lt.mp (nlt0 (show 48 + lo < 1000000 by omega)))) c1
      · exact absurd (Int32.lt_of_lt_of_le ((lt' (a := 48 + hi) (b := 58) (by omega) (by omega)).mpr (by omega)) q) c2
      · have h1 : 48 + lo ≤ j := by
          have := mt (lt' (show j < 1000000 by omega) (show 48 + lo < 1000000 by omega)).mpr c1
          omega
        have h2 : j ≤ 48 + hi := by
          have := mt (lt' (show 48 + hi < 1000000 by omega) (show j < 1000000 by omega)).mpr c2
          omega
        have e : nI j - 48 = nI (j - 48) := by rw [show (48 : Int32) = nI 48 from rfl, pk_sub (by omega)]
        exact ⟨j - 48, by omega, by omega, e, by rw [e], rfl⟩
theorem hedgesX0 {L : Bk} {n : Nat} (hL : L 0 0 = nI n) (hn : n < 6) : fX0_hedges L = some (nI (hN n)) := by
  unfold fX0_hedges; rw [hL, hN_I _ hn]
theorem div4 : ∀ x, x < 20 → (nI x / 4 = nI (x / 4) ∧ nI x - nI x / 4 * 4 = nI (x % 4)) := by decide +kernel
-- the class reads a sign
theorem rd0 (T : Bk) (c : Int32) : fX0_reads T (nI 0) c = if c = 104 then some (1, T) else some (0, T) := rfl
theorem rdG {T : Bk} {n : Nat} (hT : T 0 0 = nI n) (hn : n < 6) {x : Nat} (hx : x < 20) (c : Int32) : fX0_reads T (nI (2 + hN n + x)) c = (fX0_readsGoer T (nI (x / 4)) (nI (x % 4)) c).bind fun v9 => (if v9.1 = 0 then some (0, v9.2) else some (1, v9.2)) := by
  have h3 := hN_le _ hn
  have e : nI (2 + hN n + x) - 2 = nI (hN n + x) := by rw [show (2 : Int32) = nI 2 from rfl, pk_sub (by omega)]; congr 1; omega
  have e2 : nI (hN n + x) - nI (hN n) = nI x := by rw [pk_sub (by omega)]; congr 1; omega
  unfold fX0_reads
  rw [if_neg (show ¬ nI (2 + hN n + x) = 0 by intro q; have := (eq' (b := 0) (by omega) (by omega)).mp q; omega), if_neg (show ¬ nI (2 + hN n + x) = 1 by intro q; have := (eq' (b := 1) (by omega) (by omega)).mp q; omega), hedgesX0 hT hn, e]
  simp only [Option.bind_some, e2]
  rw [if_pos ((le' (by omega) (by omega)).mpr (by omega)), if_neg (show ¬ (20 : Int32) ≤ nI x by intro q; have := (le' (a := 20) (by omega) (by omega)).mp q; omega), (div4 x hx).2, (div4 x hx).1]
theorem rd20 {T : Bk} {n : Nat} (hT : T 0 0 = nI n) (hn : n < 6) (c : Int32) : fX0_reads T (nI (2 + hN n + 20)) c = some (0, T) := by
  have h3 := hN_le _ hn
  have e : nI (2 + hN n + 20) - 2 = nI (hN n + 20) := by rw [show (2 : Int32) = nI 2 from rfl, pk_sub (by omega)]; congr 1; omega
  have e2 : nI (hN n + 20) - nI (hN n) = nI 20 := by rw [pk_sub (by omega)]; congr 1; omega
  unfold fX0_reads
  rw [if_neg (show ¬ nI (2 + hN n + 20) = 0 by intro q; have := (eq' (b := 0) (by omega) (by omega)).mp q; omega), if_neg (show ¬ nI (2 + hN n + 20) = 1 by intro q; have := (eq' (b := 1) (by omega) (by omega)).mp q; omega), hedgesX0 hT hn, e]
  simp only [Option.bind_some, e2]
  rw [if_pos ((le' (by omega) (by omega)).mpr (by omega)), if_pos (show (20 : Int32) ≤ nI 20 by decide)]
theorem rdH {T : Bk} {n w : Nat} (hT : T 0 0 = nI n) (hn : n < 6) (hw : w < hN n) (c : Int32) : fX0_reads T (nI (2 + w)) c = (fX3_digit c (nI 0) (nI 9)).bind fun v12 => (if v12 = (-9) then some (0, sB T 3 w v12) else some (1, sB T 3 w v12)) := by
  have h3 := hN_le _ hn
  have e : nI (2 + w) - 2 = nI w := by rw [show (2 : Int32) = nI 2 from rfl, pk_sub (by omega)]; congr 1; omega
  unfold fX0_reads
  rw [if_neg (show ¬ nI (2 + w) = 0 by intro q; have := (eq' (b := 0) (by omega) (by omega)).mp q; omega), if_neg (show ¬ nI (2 + w) = 1 by intro q; have := (eq' (b := 1) (by omega) (by omega)).mp q; omega), hedgesX0 hT hn, e]
  simp only [Option.bind_some]
  rw [if_neg (by rw [le' (by omega) (by omega)]; omega)]
  simp only [gIn (show w < 10 by omega) (show 10 < 1000000 by omega), cl (show w < 1000000 by omega), sB_same]
  rfl
/-- may it end at len? -/
theorem endX {T : Bk} {n g len : Nat} (h0 : T 0 0 = nI n) (h1 : T 1 0 = nI g) (hn : n < 6) (hg : g < 6) (hl : len < 1000) : fX0_mayEndAt T (nI len) = some (if 1 ≤ g ∧ len = 2 + hN n + 4 * g then 1 else 0) := by
  have h3 := hN_le _ hn
  unfold fX0_mayEndAt
  rw [hedgesX0 h0 hn, h1]
  have z : (nI g ≤ 0) ↔ g = 0 := (le' (b := 0) (by omega) (by omega)).trans (by omega)
  have e : (2 + nI (hN n)) + (nI g * 4) = nI (2 + hN n + 4 * g) := by rw [show (2 : Int32) = nI 2 from rfl, show (4 : Int32) = nI 4 from rfl, pk_mul, nI_add, nI_add, Nat.mul_comm]
  simp only [z, Option.bind_some, e, eq' (show len < 1000000 by omega) (show 2 + hN n + 4 * g < 1000000 by omega)]
  by_cases c : g = 0
  · simp [c]
  · by_cases c2 : len = 2 + hN n + 4 * g
    · simp [c, c2, show 1 ≤ g by omega]
    · simp [c, c2]
theorem end0 {T : Bk} (h1 : T 1 0 = 0) (l : Int32) : fX0_mayEndAt T l = some 0 := by
  unfold fX0_mayEndAt; rw [h1]; rfl
/-- the class reads on from i -/
def kxC (len : Nat) (T : Bk) : Option (Int32 × Bk) := (fX0_mayEndAt T (nI len)).bind fun v12 => (if v12 = 0 then some (nI len, T) else some (((-9), T)))
def CX (R : Bk) (a len N i : Nat) (T : Bk) : Option (Int32 × Bk) := fu2 (FX3_firstFaultOfText_10 (nI a) (nI len) R (fun _ T_6 => kxC len T_6)) N (nI i) T
theorem fu2_s {A B ρ : Type} (F : (A → B → Option ρ) → A → B → Option ρ) (N : Nat) (x : A) (y : B) : fu2 F (N + 1) x y = F (fu2 F N) x y := rfl
theorem CX_end {R : Bk} {a len N i : Nat} (hi : len ≤ i) (hl : len < 100) (hi2 : i < 1000) (hNf : 0 < N) (T : Bk) : CX R a len N i T = kxC len T := by
  obtain ⟨N, rfl⟩ : ∃ k, N = k + 1 := ⟨N - 1, by omega⟩
  unfold CX
  rw [fu2_s]
  generalize fu2 (FX3_firstFaultOfText_10 (nI a) (nI len) R (fun _ T_6 => kxC len T_6)) N = sX
  unfold FX3_firstFaultOfText_10
  rw [if_pos ((le' (by omega) (by omega)).mpr hi)]
theorem CX_st {R : Bk} {a len N i : Nat} (hi : i < len) (ha : a + len ≤ 60) (T : Bk) : CX R a len (N + 1) i T = (fX0_reads T (nI i) (R 0 (a + i))).bind fun v9 => (if v9.1 = 0 then some (nI i, v9.2) else CX R a len N (i + 1) v9.2) := by
  unfold CX
  rw [fu2_s]
  generalize fu2 (FX3_firstFaultOfText_10 (nI a) (nI len) R (fun _ T_6 => kxC len T_6)) N = sX
  unfold FX3_firstFaultOfText_10
  rw [if_neg (by rw [le' (by omega) (by omega)]; omega), nI_add, nI_1, gIn (show a + i < 60 by omega) (by omega), cl (show a + i < 1000000 by omega)]
-- the reference reads a sign
theorem dgM {M B : Bk} {s len i lo hi : Nat} {R : Bk} {a : Nat} (hF : Fr M B) (h4 : ∀ j, j < len → M 4 (s + j) = R 0 (a + j)) (hs : s + len ≤ 240) (hp : B 14 0 = nI (s + i)) (hi2 : i ≤ len) (hlo : lo ≤ 9) (hhi : hi ≤ 9) : (i = len ∧ fX4_digit B (nI (s + len)) (nI lo) (nI hi) = some (-9, B)) ∨ (i < len ∧ fX3_digit (R 0 (a + i)) (nI lo) (nI hi) = some (-9) ∧ fX4_digit B (nI (s + len)) (nI lo) (nI hi) = some (-9, B)) ∨ (i < len ∧ ∃ d, lo ≤ d ∧ d ≤ hi ∧ fX3_digit (R 0 (a + i)) (nI lo) (nI hi) = some (nI d) ∧ fX4_digit B (nI (s + len)) (nI lo) (nI hi) = some (nI d, sB B 14 0 (nI (s + (i + 1))))) := by
  unfold fX4_digit
  rw [hp]
  by_cases c : i = len
  · left; rw [if_pos ((le' (by omega) (by omega)).mpr (by omega))]; exact ⟨c, rfl⟩
  · right
    have hl : i < len := by omega
    rw [if_neg (by rw [le' (by omega) (by omega)]; omega), gIn (show s + i < 240 by omega) (by omega), cl (show s + i < 1000000 by omega), hF 4 (by omega), h4 i hl]
    rcases digC (R 0 (a + i)) hlo hhi with ⟨e1, e2⟩ | ⟨d, d1, d2, d3, e1, e2⟩
    · left; rw [e2]; exact ⟨hl, e1, rfl⟩
    · right
      refine ⟨hl, d, d1, d2, e1, ?_⟩
      rw [e2]
      simp only [Option.bind_some, one_ne, if_false, nI_1, sB_same]
      have em : nI (s + i + 1) - 1 = nI (s + i) := nI_pred (s + i)
      rw [em, gIn (show s + i < 240 by omega) (by omega), cl (show s + i < 1000000 by omega), sB_ne _ _ _ (show (4 : Nat) ≠ 14 by decide), hF 4 (by omega), h4 i hl, d3]
      rfl
theorem sgM {M B : Bk} {s len i : Nat} {R : Bk} {a : Nat} (hF : Fr M B) (h4 : ∀ j, j < len → M 4 (s + j) = R 0 (a + j)) (hs : s + len ≤ 240) (hp : B 14 0 = nI (s + i)) (hi2 : i ≤ len) (w : Int32) : fX4_isSign B (nI (s + len)) w = if i = len then some (0, B) else if R 0 (a + i) = w then some (1, sB B 14 0 (nI (s + (i + 1)))) else some (0, B) := by
  unfold fX4_isSign
  rw [hp]
  by_cases c : i = len
  · rw [if_pos ((le' (by omega) (by omega)).mpr (by omega)), if_pos c]
  · rw [if_neg (by rw [le' (by omega) (by omega)]; omega), if_neg c, gIn (show s + i < 240 by omega) (by omega), cl (show s + i < 1000000 by omega), hF 4 (by omega), h4 i (by omega), nI_1]
    rfl
theorem kdC (c : Int32) : (fX0_kindOf c = some (-9) ∧ ((if c = 103 then some 0 else (if c = 116 then some 1 else (if c = 99 then some 2 else some (-9)))) : Option Int32) = some (-9)) ∨ ∃ d, d < 3 ∧ fX0_kindOf c = some (nI d) ∧ ((if c = 103 then some 0 else (if c = 116 then some 1 else (if c = 99 then some 2 else some (-9)))) : Option Int32) = some (nI d) := by
  unfold fX0_kindOf
  by_cases c1 : c = 103
  · subst c1; right; exact ⟨0, by decide, by decide, by decide⟩
  · by_cases c2 : c = 116
    · subst c2; right; exact ⟨1, by decide, by decide, by decide⟩
    · by_cases c3 : c = 99
      · subst c3; right; exact ⟨2, by decide, by decide, by decide⟩
      · left; simp [c1, c2, c3]
theorem m9 : ∀ d, d < 1000 → ¬ nI d = -9 := fun d hd => nI_n9 (by omega)
/-- one goer, from the sign of its kind on -/
theorem goerR {M T B R : Bk} {s len a n g i N : Nat} {v : Vw} (hF : Fr M B) (h4 : ∀ j, j < len → M 4 (s + j) = R 0 (a + j)) (hs : s + len ≤ 240) (ha : a + len ≤ 60) (hn2 : 2 ≤ n) (hn : n < 6) (hg : g < 5) (hR : Rd n (hN n) g v T B) (hi : i = 2 + hN n + 4 * g + 1) (hil : i ≤ len) (hp : B 14 0 = nI (s + i)) (hNf : len - i < N) : (∃ j T' B', j ≤ len ∧ CX R a len N i T = some (nI j, T') ∧ fX4_readGoer B (nI (s + len)) = some (0, B') ∧ B' 14 0 = nI (s + j) ∧ Fr M B') ∨ ∃ T' B' v', i + 3 ≤ len ∧ CX R a len N i T = CX R a len (N - 3) (i + 3) T' ∧ fX4_readGoer B (nI (s + len)) = some (1, B') ∧ B' 14 0 = nI (s + (i + 3)) ∧ Fr M B' ∧ Rd n (hN n) (g + 1) v' T' B' := by
  obtain ⟨r0, r1, r2, r3, r4, r5, r6⟩ := id hR
  have h3 := hN_le _ hn
  have ende : ∀ (T' : Bk) (j K : Nat), T' 0 0 = nI n → T' 1 0 = nI g → j = len → 0 < K → (2 + hN n + 4 * g < j) → CX R a len K j T' = some (nI j, T') := by
    intro T' j K t0 t1 hj hK hlt
    rw [CX_end (by omega) (by omega) (by omega) hK, kxC, endX t0 t1 hn (by omega) (by omega), Option.bind_some, if_neg (show ¬ (1 ≤ g ∧ len = 2 + hN n + 4 * g) by omega), if_pos rfl, hj]
  have e3 : (3 : Int32) * nI g = nI (3 * g) := by rw [show (3 : Int32) = nI 3 from rfl, pk_mul]
  have e31 : nI (3 * g) + 1 = nI (3 * g + 1) := nI_1 _
  have e32 : nI (3 * g) + 2 = nI (3 * g + 2) := by rw [show (2 : Int32) = nI 2 from rfl, nI_add]
  unfold fX4_readGoer
  rw [hp, r3, e3, e31, e32]
  by_cases c0 : i = len
  · left
    rw [if_pos ((le' (by omega) (by omega)).mpr (by omega))]
    refine ⟨i, T, sB B 18 (3 * g) (-9), hil, ende T i N r0 r2 c0 (by omega) (by omega), ?_, ?_, hF.sB (by omega) _ _⟩
    · simp only [Option.bind_some, show ¬ (0 : Int32) = 103 by decide, show ¬ (0 : Int32) = 116 by decide, show ¬ (0 : Int32) = 99 by decide, if_false, gIn (show 3 * g < 15 by omega) (show 15 < 1000000 by omega), cl (show 3 * g < 1000000 by omega), sB_same, if_true]
    · rw [sB_ne _ _ _ (by decide)]; exact hp
  · obtain ⟨N, rfl⟩ : ∃ k, N = k + 1 := ⟨N - 1, by omega⟩
    have hl : i < len := by omega
    rw [if_neg (by rw [le' (by omega) (by omega)]; omega), gIn (show s + i < 240 by omega) (by omega), cl (show s + i < 1000000 by omega), hF 4 (by omega), h4 i hl, CX_st hl ha, hi, show 2 + hN n + 4 * g + 1 = 2 + hN n + (4 * g + 1) by omega, rdG r0 hn (show 4 * g + 1 < 20 by omega), show (4 * g + 1) / 4 = g by omega, show (4 * g + 1) % 4 = 1 by omega, ← show i = 2 + hN n + (4 * g + 1) by omega]
    have rg : fX0_readsGoer T (nI g) (nI 1) (R 0 (a + i)) = (fX0_kindOf (R 0 (a + i))).bind fun v4 => (if v4 = (-9) then some (0, sB T 4 g v4) else some (1, sB T 4 g v4)) := by
      unfold fX0_readsGoer
      rw [if_neg (by decide), if_pos (show nI 1 = 1 from rfl)]
      simp only [gIn (show g < 5 by omega) (show 5 < 1000000 by omega), cl (show g < 1000000 by omega), Option.bind_some, sB_same]
    rw [rg]
    simp only [Option.bind_some]
    rcases kdC (R 0 (a + i)) with ⟨k1, k2⟩ | ⟨kd, hkd, k1, k2⟩
    · left
      rw [k1, k2]
      refine ⟨i, sB T 4 g (-9), sB B 18 (3 * g) (-9), hil, rfl, ?_, ?_, hF.sB (by omega) _ _⟩
      · simp only [Option.bind_some, gIn (show 3 * g < 15 by omega) (show 15 < 1000000 by omega), cl (show 3 * g < 1000000 by omega), sB_same, if_true]
      · rw [sB_ne _ _ _ (by decide)]; exact hp
    · rw [k1, k2]
      simp only [Option.bind_some, gIn (show 3 * g < 15 by omega) (show 15 < 1000000 by omega), gIn (show 3 * g + 1 < 15 by omega) (show 15 < 1000000 by omega), gIn (show 3 * g + 2 < 15 by omega) (show 15 < 1000000 by omega), cl (show 3 * g < 1000000 by omega), cl (show 3 * g + 1 < 1000000 by omega), cl (show 3 * g + 2 < 1000000 by omega), sB_same, m9 kd (by omega), if_false, one_ne]
      have p1 : sB B 18 (3 * g) (nI kd) 14 0 + 1 = nI (s + (i + 1)) := by rw [sB_ne _ _ _ (by decide), hp]; exact nI_1 _
      rw [p1]
      have hF1 : Fr M (sB (sB B 18 (3 * g) (nI kd)) 14 0 (nI (s + (i + 1)))) := (hF.sB (by omega) _ _).sB (by omega) _ _
      have t10 : sB T 4 g (nI kd) 0 0 = nI n := by rw [sB_ne _ _ _ (by decide)]; exact r0
      have t11 : sB T 4 g (nI kd) 1 0 = nI g := by rw [sB_ne _ _ _ (by decide)]; exact r2
      have hd1 := dgM hF1 h4 hs (sB_same _ _ _ _) (show i + 1 ≤ len by omega) (show 1 ≤ 9 by omega) (show 9 ≤ 9 by omega)
      have rg2 : ∀ T' : Bk, fX0_readsGoer T' (nI g) (nI 2) (R 0 (a + (i + 1))) = (fX3_digit (R 0 (a + (i + 1))) (nI 1) (nI 9)).bind fun v4 => (if v4 = (-9) then some (0, sB T' 5 g v4) else some (1, sB T' 5 g v4)) := by
        intro T'
        unfold fX0_readsGoer
        rw [if_neg (by decide), if_neg (by decide), if_pos (show nI 2 = 2 from rfl)]
        simp only [gIn (show g < 5 by omega) (show 5 < 1000000 by omega), cl (show g < 1000000 by omega), Option.bind_some, sB_same]
        rfl
      have stp2 : ∀ (T' : Bk) (K : Nat), T' 0 0 = nI n → i + 1 < len → CX R a len (K + 1) (i + 1) T' = (fX3_digit (R 0 (a + (i + 1))) (nI 1) (nI 9)).bind fun v4 => (if v4 = (-9) then some (nI (i + 1), sB T' 5 g v4) else CX R a len K (i + 2) (sB T' 5 g v4)) := by
        intro T' K t0 hl1
        rw [CX_st hl1 ha, show i + 1 = 2 + hN n + (4 * g + 2) by omega, rdG t0 hn (show 4 * g + 2 < 20 by omega), show (4 * g + 2) / 4 = g by omega, show (4 * g + 2) % 4 = 2 by omega, ← show i + 1 = 2 + hN n + (4 * g + 2) by omega, rg2]
        cases fX3_digit (R 0 (a + (i + 1))) (nI 1) (nI 9) with
        | none => rfl
        | some z => by_cases q : z = -9 <;> simp [q]
      rcases hd1 with ⟨q1, q2⟩ | ⟨q0, q1, q2⟩ | ⟨q0, gi, g1, g2, q1, q2⟩
      · left
        have q2' : fX4_digit (sB (sB B 18 (3 * g) (nI kd)) 14 0 (nI (s + (i + 1)))) (nI (s + len)) 1 9 = some (-9, (sB (sB B 18 (3 * g) (nI kd)) 14 0 (nI (s + (i + 1))))) := q2
        rw [q2', ende _ (i + 1) N t10 t11 q1 (by omega) (by omega)]
        refine ⟨i + 1, _, _, by omega, rfl, ?_, ?_, hF1.sB (k := 18) (by omega) (3 * g + 1) (-9)⟩
        · simp only [Option.bind_some, sB_same, if_true]
        · rw [sB_ne _ _ _ (by decide), sB_same]
      · left
        obtain ⟨N, rfl⟩ : ∃ k, N = k + 1 := ⟨N - 1, by omega⟩
        have q2' : fX4_digit (sB (sB B 18 (3 * g) (nI kd)) 14 0 (nI (s + (i + 1)))) (nI (s + len)) 1 9 = some (-9, (sB (sB B 18 (3 * g) (nI kd)) 14 0 (nI (s + (i + 1))))) := q2
        rw [q2', stp2 _ N t10 q0, q1]
        refine ⟨i + 1, _, _, by omega, rfl, ?_, ?_, hF1.sB (k := 18) (by omega) (3 * g + 1) (-9)⟩
        · simp only [Option.bind_some, sB_same, if_true]
        · rw [sB_ne _ _ _ (by decide), sB_same]
      · obtain ⟨N, rfl⟩ : ∃ k, N = k + 1 := ⟨N - 1, by omega⟩
        have q2' : fX4_digit (sB (sB B 18 (3 * g) (nI kd)) 14 0 (nI (s + (i + 1)))) (nI (s + len)) 1 9 = some (nI gi, sB (sB (sB B 18 (3 * g) (nI kd)) 14 0 (nI (s + (i + 1)))) 14 0 (nI (s + (i + 1 + 1)))) := q2
        rw [q2', stp2 _ N t10 q0, q1]
        simp only [Option.bind_some, sB_same, m9 gi (by omega), if_false]
        generalize hB2 : sB (sB (sB (sB B 18 (3 * g) (nI kd)) 14 0 (nI (s + (i + 1)))) 14 0 (nI (s + (i + 1 + 1)))) 18 (3 * g + 1) (nI gi) = B2
        have hF2 : Fr M B2 := by rw [← hB2]; exact (hF1.sB (by omega) _ _).sB (by omega) _ _
        have p2 : B2 14 0 = nI (s + (i + 2)) := by rw [← hB2, sB_ne _ _ _ (by decide), sB_same]
        have b15 : B2 15 0 = nI n := by rw [← hB2, sB_ne _ _ _ (by decide), sB_ne _ _ _ (by decide), sB_ne _ _ _ (by decide), sB_ne _ _ _ (by decide)]; exact r1
        have b16 : B2 16 0 = nI g := by rw [← hB2, sB_ne _ _ _ (by decide), sB_ne _ _ _ (by decide), sB_ne _ _ _ (by decide), sB_ne _ _ _ (by decide)]; exact r3
        have b17 : B2 17 = B 17 := by rw [← hB2, sB_ne _ _ _ (by decide), sB_ne _ _ _ (by decide), sB_ne _ _ _ (by decide), sB_ne _ _ _ (by decide)]
        have b18 : ∀ x, B2 18 x = if x = 3 * g + 1 then nI gi else if x = 3 * g then nI kd else B 18 x := by
          intro x
          rw [← hB2, sB_row, sB_ne _ _ _ (show (18 : Nat) ≠ 14 by decide), sB_ne _ _ _ (show (18 : Nat) ≠ 14 by decide), sB_row]
        have t20 : sB (sB T 4 g (nI kd)) 5 g (nI gi) 0 0 = nI n := by rw [sB_ne _ _ _ (by decide)]; exact t10
        have t21 : sB (sB T 4 g (nI kd)) 5 g (nI gi) 1 0 = nI g := by rw [sB_ne _ _ _ (by decide)]; exact t11
        have en1 : nI n - 1 = nI (n - 1) := by rw [show (1 : Int32) = nI 1 from rfl, pk_sub (by omega)]
        rw [b15, en1]
        have hd2 := dgM hF2 h4 hs p2 (show i + 2 ≤ len by omega) (show 0 ≤ 9 by omega) (show n - 1 ≤ 9 by omega)
        have stp3 : ∀ (T' : Bk) (K : Nat), T' 0 0 = nI n → i + 2 < len → CX R a len (K + 1) (i + 2) T' = (fX3_digit (R 0 (a + (i + 2))) (nI 0) (nI (n - 1))).bind fun v4 => (if v4 = (-9) then some (nI (i + 2), sB (sB T' 6 g v4) 1 0 (nI (g + 1))) else CX R a len K (i + 3) (sB (sB T' 6 g v4) 1 0 (nI (g + 1)))) := by
          intro T' K t0 hl1
          rw [CX_st hl1 ha, show i + 2 = 2 + hN n + (4 * g + 3) by omega, rdG t0 hn (show 4 * g + 3 < 20 by omega), show (4 * g + 3) / 4 = g by omega, show (4 * g + 3) % 4 = 3 by omega, ← show i + 2 = 2 + hN n + (4 * g + 3) by omega]
          unfold fX0_readsGoer
          rw [if_neg (by decide), if_neg (by decide), if_neg (by decide), t0, en1]
          simp only [gIn (show g < 5 by omega) (show 5 < 1000000 by omega), cl (show g < 1000000 by omega), Option.bind_some, nI_1 g, sB_ne _ _ _ (show (6 : Nat) ≠ 1 by decide), sB_same]
          have z0 : (0 : Int32) = nI 0 := rfl
          rw [show fX3_digit (R 0 (a + (i + 2))) 0 (nI (n - 1)) = fX3_digit (R 0 (a + (i + 2))) (nI 0) (nI (n - 1)) from rfl]
          cases fX3_digit (R 0 (a + (i + 2))) (nI 0) (nI (n - 1)) with
          | none => rfl
          | some z => by_cases q : z = -9 <;> simp [q]
        rcases hd2 with ⟨u1, u2⟩ | ⟨u0, u1, u2⟩ | ⟨u0, pl, l1, l2, u1, u2⟩
        · left
          have u2' : fX4_digit B2 (nI (s + len)) 0 (nI (n - 1)) = some (-9, B2) := u2
          rw [u2', ende _ (i + 2) N t20 t21 u1 (by omega) (by omega)]
          refine ⟨i + 2, _, sB (sB B2 18 (3 * g + 2) (-9)) 16 0 (nI g + 1), by omega, rfl, ?_, ?_, (hF2.sB (by omega) _ _).sB (by omega) _ _⟩
          · simp only [Option.bind_some, sB_ne _ _ _ (show (18 : Nat) ≠ 16 by decide), sB_ne _ _ _ (show (16 : Nat) ≠ 18 by decide), b16, sB_same, if_true]
          · rw [sB_ne _ _ _ (by decide), sB_ne _ _ _ (by decide)]; exact p2
        · left
          obtain ⟨N, rfl⟩ : ∃ k, N = k + 1 := ⟨N - 1, by omega⟩
          have u2' : fX4_digit B2 (nI (s + len)) 0 (nI (n - 1)) = some (-9, B2) := u2
          rw [u2', stp3 _ N t20 u0, u1]
          refine ⟨i + 2, _, sB (sB B2 18 (3 * g + 2) (-9)) 16 0 (nI g + 1), by omega, rfl, ?_, ?_, (hF2.sB (by omega) _ _).sB (by omega) _ _⟩
          · simp only [Option.bind_some, sB_ne _ _ _ (show (18 : Nat) ≠ 16 by decide), sB_ne _ _ _ (show (16 : Nat) ≠ 18 by decide), b16, sB_same, if_true]
          · rw [sB_ne _ _ _ (by decide), sB_ne _ _ _ (by decide)]; exact p2
        · right
          obtain ⟨N, rfl⟩ : ∃ k, N = k + 1 := ⟨N - 1, by omega⟩
          have u2' : fX4_digit B2 (nI (s + len)) 0 (nI (n - 1)) = some (nI pl, sB B2 14 0 (nI (s + (i + 2 + 1)))) := u2
          rw [u2', stp3 _ N t20 u0, u1]
          simp only [Option.bind_some, m9 pl (by omega), if_false, sB_ne _ _ _ (show (18 : Nat) ≠ 16 by decide), sB_ne _ _ _ (show (16 : Nat) ≠ 18 by decide), sB_ne _ _ _ (show (16 : Nat) ≠ 14 by decide), b16, sB_same, nI_1 g]
          refine ⟨sB (sB (sB (sB T 4 g (nI kd)) 5 g (nI gi)) 6 g (nI pl)) 1 0 (nI (g + 1)), _, uV (uV (uV v 4 g kd) 5 g gi) 6 g pl, by omega, ?_, rfl, ?_, ((hF2.sB (by omega) _ _).sB (by omega) _ _).sB (by omega) _ _, ?_⟩
          · rw [show N + 1 + 1 + 1 - 3 = N by omega]
          · rw [sB_ne _ _ _ (by decide), sB_ne _ _ _ (by decide), sB_same]
          · refine ⟨?_, ?_, sB_same _ _ _ _, sB_same _ _ _ _, ?_, fun h hh => ?_, fun q hq => ?_⟩
            · rw [sB_ne _ _ _ (by decide), sB_ne _ _ _ (by decide)]; exact t20
            · rw [sB_ne _ _ _ (by decide), sB_ne _ _ _ (by decide), sB_ne _ _ _ (by decide)]; exact b15
            · rw [sB_ne _ _ _ (by decide), sB_ne _ _ _ (by decide), sB_ne _ _ _ (by decide), sB_ne _ _ _ (by decide)]; exact r4
            · rw [sB_ne _ _ _ (show (3 : Nat) ≠ 1 by decide), sB_ne _ _ _ (show (3 : Nat) ≠ 6 by decide), sB_ne _ _ _ (show (3 : Nat) ≠ 5 by decide), sB_ne _ _ _ (show (3 : Nat) ≠ 4 by decide), sB_ne _ _ _ (show (17 : Nat) ≠ 16 by decide), sB_ne _ _ _ (show (17 : Nat) ≠ 18 by decide), sB_ne _ _ _ (show (17 : Nat) ≠ 14 by decide), b17, uV_ne _ _ _ _ (show (3 : Nat) ≠ 6 by decide), uV_ne _ _ _ _ (show (3 : Nat) ≠ 5 by decide), uV_ne _ _ _ _ (show (3 : Nat) ≠ 4 by decide)]
              exact r5 h hh
            · rw [sB_ne _ _ _ (show (4 : Nat) ≠ 1 by decide), sB_ne _ _ _ (show (4 : Nat) ≠ 6 by decide), sB_ne _ _ _ (show (4 : Nat) ≠ 5 by decide), sB_ne _ _ _ (show (5 : Nat) ≠ 1 by decide), sB_ne _ _ _ (show (5 : Nat) ≠ 6 by decide), sB_ne _ _ _ (show (6 : Nat) ≠ 1 by decide), sB_ne _ _ _ (show (18 : Nat) ≠ 16 by decide), uV_ne _ _ _ _ (show (4 : Nat) ≠ 6 by decide), uV_ne _ _ _ _ (show (4 : Nat) ≠ 5 by decide), uV_ne _ _ _ _ (show (5 : Nat) ≠ 6 by decide), uV_row, uV_row, uV_row, sB_row, sB_row, sB_row, sB_row, sB_row, sB_row, sB_ne _ _ _ (show (18 : Nat) ≠ 14 by decide), sB_ne _ _ _ (show (6 : Nat) ≠ 5 by decide), sB_ne _ _ _ (show (6 : Nat) ≠ 4 by decide), sB_ne _ _ _ (show (5 : Nat) ≠ 4 by decide), b18, b18, b18]
              by_cases e : q = g
              · subst e
                simp only [if_true, if_neg (show ¬ 3 * q = 3 * q + 2 by omega), if_neg (show ¬ 3 * q = 3 * q + 1 by omega), if_neg (show ¬ 3 * q + 1 = 3 * q + 2 by omega)]
                exact ⟨⟨trivial, trivial, trivial⟩, ⟨trivial, trivial, trivial⟩, hkd, g1, by omega, by omega⟩
              · have hqg : q < g := by omega
                simp only [if_neg e, if_neg (show ¬ 3 * q = 3 * g + 2 by omega), if_neg (show ¬ 3 * q = 3 * g + 1 by omega), if_neg (show ¬ 3 * q = 3 * g by omega), if_neg (show ¬ 3 * q + 1 = 3 * g + 2 by omega), if_neg (show ¬ 3 * q + 1 = 3 * g + 1 by omega), if_neg (show ¬ 3 * q + 1 = 3 * g by omega), if_neg (show ¬ 3 * q + 2 = 3 * g + 2 by omega), if_neg (show ¬ 3 * q + 2 = 3 * g + 1 by omega), if_neg (show ¬ 3 * q + 2 = 3 * g by omega)]
                exact r6 q hqg
