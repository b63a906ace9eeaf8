abbrev rmX1_write : Room := { frames := 0, cells := 0, slots := 0, locals := 0 }
theorem inX1_write_X1 : ∀ w ∈ wsX10, w ∈ wsX1_write := fun _ h => List.mem_cons_of_mem _ (List.mem_append_right _ h)
set_option maxHeartbeats 4000000 in
set_option maxRecDepth 100000 in
theorem mtX1_write (l : Launch) (D : va_G) (cI cZ cQ : ClassId) (oN : Nat) (aN : Nat → Nat) (N : Bk) (p0 : Int32) (p1 : Int32) (p2 : Int32) (sz : Nat) (out : Bk) (hf : fX1_write N p0 p1 p2 = some out) : Met l yX1_write wsX1_write rmX1_write (WrP D cI cZ cQ [.ref oN, .int p0, .int p1, .int p2] (wN cI cZ oN aN N) sz) (WrQv D (wN cI cZ oN aN N) (wN cI cZ oN aN out) sz) 0 0 (va_A (wN cI cZ oN aN N) sz) := by
  refine metWv (cc := cX1_write) (maxL := 4) (by decide) rfl (Nat.le_of_ble_eq_true rfl) ?_
  intro p e s m args below meth c Q A CF hK hP hD hA hRet ls hl
  obtain ⟨hx, hb, hml, hown, hts⟩ := id CF
  have hS : va_S A s.heap s.heap [] := va_S.rf
  have hl : lv_has ls 4 [(0, .ref oN), (1, .int p0), (2, .int p1), (3, .int p2)] := hl
  unfold fX1_write at hf
  refine lv_aload_n (pc := 0) hx hb dX1_write_0 rfl (lv_at hl 0 rfl) ?_
  refine va_get (pc := 1) (D := D) (ci := 1) (v := .int (N 3 0)) (C := RX1) (T := TX1) (N := 4) hx hb hts inX1_write_X1 hown hK.1 hP 0 rfl rfl 3 (by decide) (hts (.fieldLink RX1 22 "HedgeHoles$Notebook" "count" "I") (by decide +kernel)) (fun _ h9 => h9) rfl dX1_write_1 ?_
  refine lv_bipush (pc := 4) (v := 8) hx hb dX1_write_4 (by decide) ?_
  refine lv_icmp_ge (pc := 6) (tgt := 49) hx hb dX1_write_6 (by decide) (fun c1 => ?_) (fun c1 => ?_)
  · have hf := iT c1 hf
    obtain rfl := Option.some.inj hf
    exact hRet 49 ls s.heap [] dX1_write_49 hP hS
  · have hf := iF c1 hf
    refine lv_aload_n (pc := 9) hx hb dX1_write_9 rfl (lv_at hl 0 rfl) ?_
    refine va_get (pc := 10) (D := D) (ci := 1) (v := .ref (aN 0)) (C := RX1) (T := TX1) (N := 4) hx hb hts inX1_write_X1 hown hK.1 hP 0 rfl rfl 0 (by decide) (hts (.fieldLink RX1 9 "HedgeHoles$Notebook" "goer" "[I") (by decide +kernel)) (fun _ h9 => h9) rfl dX1_write_10 ?_
    refine lv_aload_n (pc := 13) hx hb dX1_write_13 rfl (lv_at hl 0 rfl) ?_
    refine va_get (pc := 14) (D := D) (ci := 1) (v := .int (N 3 0)) (C := RX1) (T := TX1) (N := 4) hx hb hts inX1_write_X1 hown hK.1 hP 0 rfl rfl 3 (by decide) (hts (.fieldLink RX1 22 "HedgeHoles$Notebook" "count" "I") (by decide +kernel)) (fun _ h9 => h9) rfl dX1_write_14 ?_
    refine lv_iload_n (pc := 17) hx hb dX1_write_17 rfl (lv_at hl 1 rfl) ?_
    obtain ⟨h2, hf⟩ := gI_e hf
    refine va_iast (pc := 18) (f := N 0) (n := 8) hx hb hK.1 hP hD hS 1 0 rfl rfl h2 dX1_write_18 (fun H locs hP hD hS => ?_)
    have hP : va_P D vwCl (wN cI cZ oN aN (sB N 0 (N 3 0).toNatClampNeg p0)) H := hP
    have hD : va_D A (wN cI cZ oN aN (sB N 0 (N 3 0).toNatClampNeg p0)) := hD
    obtain ⟨N_3, h4, hf⟩ := bd hf
    have h4 := Option.some.inj h4
    rw [h4] at hP hD
    refine lv_aload_n (pc := 19) hx hb dX1_write_19 rfl (lv_at hl 0 rfl) ?_
    refine va_get (pc := 20) (D := D) (ci := 1) (v := .ref (aN 1)) (C := RX1) (T := TX1) (N := 4) hx hb hts inX1_write_X1 hown hK.1 hP 0 rfl rfl 1 (by decide) (hts (.fieldLink RX1 15 "HedgeHoles$Notebook" "hedge" "[I") (by decide +kernel)) (fun _ h9 => h9) rfl dX1_write_20 ?_
    refine lv_aload_n (pc := 23) hx hb dX1_write_23 rfl (lv_at hl 0 rfl) ?_
    refine va_get (pc := 24) (D := D) (ci := 1) (v := .int (N_3 3 0)) (C := RX1) (T := TX1) (N := 4) hx hb hts inX1_write_X1 hown hK.1 hP 0 rfl rfl 3 (by decide) (hts (.fieldLink RX1 22 "HedgeHoles$Notebook" "count" "I") (by decide +kernel)) (fun _ h9 => h9) rfl dX1_write_24 ?_
    refine lv_iload_n (pc := 27) hx hb dX1_write_27 rfl (lv_at hl 2 rfl) ?_
    obtain ⟨h5, hf⟩ := gI_e hf
    refine va_iast (pc := 28) (f := N_3 1) (n := 8) hx hb hK.1 hP hD hS 2 0 rfl rfl h5 dX1_write_28 (fun H locs hP hD hS => ?_)
    have hP : va_P D vwCl (wN cI cZ oN aN (sB N_3 1 (N_3 3 0).toNatClampNeg p1)) H := hP
    have hD : va_D A (wN cI cZ oN aN (sB N_3 1 (N_3 3 0).toNatClampNeg p1)) := hD
    obtain ⟨N_6, h7, hf⟩ := bd hf
    have h7 := Option.some.inj h7
    rw [h7] at hP hD
    refine lv_aload_n (pc := 29) hx hb dX1_write_29 rfl (lv_at hl 0 rfl) ?_
    refine va_get (pc := 30) (D := D) (ci := 1) (v := .ref (aN 2)) (C := RX1) (T := TX1) (N := 4) hx hb hts inX1_write_X1 hown hK.1 hP 0 rfl rfl 2 (by decide) (hts (.fieldLink RX1 18 "HedgeHoles$Notebook" "fits" "[Z") (by decide +kernel)) (fun _ h9 => h9) rfl dX1_write_30 ?_
    refine lv_aload_n (pc := 33) hx hb dX1_write_33 rfl (lv_at hl 0 rfl) ?_
    refine va_get (pc := 34) (D := D) (ci := 1) (v := .int (N_6 3 0)) (C := RX1) (T := TX1) (N := 4) hx hb hts inX1_write_X1 hown hK.1 hP 0 rfl rfl 3 (by decide) (hts (.fieldLink RX1 22 "HedgeHoles$Notebook" "count" "I") (by decide +kernel)) (fun _ h9 => h9) rfl dX1_write_34 ?_
    refine lv_iload_n (pc := 37) hx hb dX1_write_37 rfl (lv_at hl 3 rfl) ?_
    obtain ⟨h8, hf⟩ := gI_e hf
    refine va_zast (pc := 38) (f := N_6 2) (n := 8) hx hb hK.1 hP hD hS 3 1 rfl rfl h8 dX1_write_38 (fun H locs hP hD hS => ?_)
    have hP : va_P D vwCl (wN cI cZ oN aN (sB N_6 2 (N_6 3 0).toNatClampNeg (vp_nar .boolean p2))) H := hP
    have hD : va_D A (wN cI cZ oN aN (sB N_6 2 (N_6 3 0).toNatClampNeg (vp_nar .boolean p2))) := hD
    obtain ⟨N_9, h10, hf⟩ := bd hf
    have h10 := Option.some.inj h10
    rw [h10] at hP hD
    refine lv_aload_n (pc := 39) hx hb dX1_write_39 rfl (lv_at hl 0 rfl) ?_
    refine lv_dup (pc := 40) hx hb dX1_write_40 rfl ?_
    refine va_get (pc := 41) (D := D) (ci := 1) (v := .int (N_9 3 0)) (C := RX1) (T := TX1) (N := 4) hx hb hts inX1_write_X1 hown hK.1 hP 0 rfl rfl 3 (by decide) (hts (.fieldLink RX1 22 "HedgeHoles$Notebook" "count" "I") (by decide +kernel)) (fun _ h9 => h9) rfl dX1_write_41 ?_
    refine lv_iconst (pc := 44) (v := 1) hx hb dX1_write_44 (by decide) ?_
    refine lv_iadd (pc := 45) hx hb dX1_write_45 ?_
    refine va_put (pc := 46) (D := D) (ci := 1) (v := .int ((N_9 3 0) + 1)) (ty := .int) (C := RX1) (T := TX1) (N := 4) hx hb hts inX1_write_X1 tyX1 tyX1_ok nmX1 hown hK.1 hP hD hS 0 rfl rfl 3 (by decide) (hts (.fieldLink RX1 22 "HedgeHoles$Notebook" "count" "I") (by decide +kernel)) (fun _ h9 => h9) rfl (by decide +kernel) (vp_nar_int _) rfl (Nat.le_of_ble_eq_true rfl) dX1_write_46 (fun H locs hP hD hS => ?_)
    have hP : va_P D vwCl (wN cI cZ oN aN (sB N_9 3 0 ((N_9 3 0) + 1))) H := hP
    have hD : va_D A (wN cI cZ oN aN (sB N_9 3 0 ((N_9 3 0) + 1))) := hD
    obtain ⟨N_11, h12, hf⟩ := bd hf
    have h12 := Option.some.inj h12
    rw [h12] at hP hD
    obtain rfl := Option.some.inj hf
    exact hRet 49 ls H locs dX1_write_49 hP hS
theorem hdX1_write : yX1_write.cls ≠ "java/lang/invoke/MethodHandle" ∧ yX1_write.cls ≠ "java/lang/invoke/VarHandle" ∧ (parseMethodDescriptor yX1_write.desc).map (fun d => d.parameters.length) = some 3 := by decide +kernel
abbrev rmX1_agrees : Room := { frames := 2, cells := 0, slots := 0, locals := 42 }
theorem inX1_agrees_X0 : ∀ w ∈ wsX00, w ∈ wsX1_agrees := fun _ h => List.mem_cons_of_mem _ (List.mem_append_right _ h)
theorem inX1_agrees_X1 : ∀ w ∈ wsX10, w ∈ wsX1_agrees := fun _ h => List.mem_cons_of_mem _ (List.mem_append_left _ (List.mem_append_right _ h))
set_option maxHeartbeats 4000000 in
set_option maxRecDepth 100000 in
theorem mtX1_agrees (l : Launch) (D : va_G) (cI cZ cQ : ClassId) (oN : Nat) (aN : Nat → Nat) (N : Bk) (oL : Nat) (aL : Nat → Nat) (L : Bk)  (out : Int32) (hf : fX1_agrees N L = some out) : Met l yX1_agrees wsX1_agrees rmX1_agrees (RoP D cI cZ cQ [.ref oN, .ref oL] (wNL cI cZ oN aN N oL aL L)) (vp_Si (fun r' => r' = out)) 0 0 (fun _ => False) := by
  refine metRi (ty := .boolean) (cc := cX1_agrees) (maxL := 3) (by decide) rfl (Nat.le_of_ble_eq_true rfl) ?_
  intro p e s m args below meth c Q CF hK hP hRet ls hl
  obtain ⟨hx, hb, hml, hown, hts⟩ := id CF
  have hl : lv_has ls 3 [(0, .ref oN), (1, .ref oL)] := hl
  unfold fX1_agrees at hf
  refine lv_iconst (pc := 0) (v := 0) hx hb dX1_agrees_0 (by decide) ?_
  refine lv_istore_n (pc := 1) (lv' := [(2, .int 0), (0, .ref oN), (1, .ref oL)]) hx hb dX1_agrees_1 rfl hl (by decide) rfl (fun ls hl => ?_)
  refine zl1 (G := FX1_agrees_2 N L) (fun x2_1 => ∀ (ls : Array Slot), lv_has ls 3 [(0, .ref oN), (1, .ref oL), (2, .int x2_1)] → W p l e rmX1_agrees s m args below meth c s.heap [] 0 0 Q (F0 m 2 ls [])) (fun x2_2 => ∀ (ls : Array Slot), lv_has ls 3 [(0, .ref oN), (1, .ref oL), (2, .int x2_2)] → W p l e rmX1_agrees s m args below meth c s.heap [] 0 0 Q (F0 m 51 ls [])) hf (fun x2_2 hf => ?_) (fun kx slf hkx hslf x2_1 hf => ?_) ls (lv_sub hl [1, 2, 0] rfl)
  · intro ls hl
    refine lv_iconst (pc := 51) (v := 1) hx hb dX1_agrees_51 (by decide) ?_
    obtain rfl := Option.some.inj hf
    exact hRet 52 ls (nzB (Or.inr rfl)) dX1_agrees_52
  · unfold FX1_agrees_2 at hf
    intro ls hl
    refine lv_iload_n (pc := 2) hx hb dX1_agrees_2 rfl (lv_at hl 2 rfl) ?_
    refine lv_aload_n (pc := 3) hx hb dX1_agrees_3 rfl (lv_at hl 0 rfl) ?_
    refine va_get (pc := 4) (D := D) (ci := 1) (v := .int (N 3 0)) (C := RX1) (T := TX1) (N := 4) hx hb hts inX1_agrees_X1 hown hK.1 hP 0 rfl rfl 3 (by decide) (hts (.fieldLink RX1 22 "HedgeHoles$Notebook" "count" "I") (by decide +kernel)) (fun _ h9 => h9) rfl dX1_agrees_4 ?_
    refine lv_icmp_ge (pc := 7) (tgt := 51) hx hb dX1_agrees_7 (by decide) (fun c3 => ?_) (fun c3 => ?_)
    · have hf := iT c3 hf
      exact hkx _ hf ls (lv_sub hl [0, 1, 2] rfl)
    · have hf := iF c3 hf
      refine lv_aload_n (pc := 10) hx hb dX1_agrees_10 rfl (lv_at hl 1 rfl) ?_
      refine va_get (pc := 11) (D := D) (ci := 0) (v := .ref (aL 3)) (C := RX0) (T := TX0) (N := 8) hx hb hts inX1_agrees_X0 hown hK.1 hP 4 rfl rfl 3 (by decide) (hts (.fieldLink RX1 26 "HedgeHoles$Land" "width" "[I") (by decide +kernel)) (fun _ h9 => h9) rfl dX1_agrees_11 ?_
      refine lv_aload_n (pc := 14) hx hb dX1_agrees_14 rfl (lv_at hl 0 rfl) ?_
      refine va_get (pc := 15) (D := D) (ci := 1) (v := .ref (aN 1)) (C := RX1) (T := TX1) (N := 4) hx hb hts inX1_agrees_X1 hown hK.1 hP 0 rfl rfl 1 (by decide) (hts (.fieldLink RX1 15 "HedgeHoles$Notebook" "hedge" "[I") (by decide +kernel)) (fun _ h9 => h9) rfl dX1_agrees_15 ?_
      refine lv_iload_n (pc := 18) hx hb dX1_agrees_18 rfl (lv_at hl 2 rfl) ?_
      obtain ⟨h4, hf⟩ := gI_e hf
      refine va_iald (pc := 19) (f := N 1) (n := 8) hx hb hK.1 hP 2 0 rfl rfl h4 dX1_agrees_19 ?_
      obtain ⟨h5, hf⟩ := gI_e hf
      refine va_iald (pc := 20) (f := L 3) (n := 10) hx hb hK.1 hP 5 0 rfl rfl h5 dX1_agrees_20 ?_
      refine lv_aload_n (pc := 21) hx hb dX1_agrees_21 rfl (lv_at hl 1 rfl) ?_
      refine lv_aload_n (pc := 22) hx hb dX1_agrees_22 rfl (lv_at hl 0 rfl) ?_
      refine va_get (pc := 23) (D := D) (ci := 1) (v := .ref (aN 0)) (C := RX1) (T := TX1) (N := 4) hx hb hts inX1_agrees_X1 hown hK.1 hP 0 rfl rfl 0 (by decide) (hts (.fieldLink RX1 9 "HedgeHoles$Notebook" "goer" "[I") (by decide +kernel)) (fun _ h9 => h9) rfl dX1_agrees_23 ?_
      refine lv_iload_n (pc := 26) hx hb dX1_agrees_26 rfl (lv_at hl 2 rfl) ?_
      refine va_iald (pc := 27) (f := N 0) (n := 8) hx hb hK.1 hP 1 0 rfl rfl h4 dX1_agrees_27 ?_
      obtain ⟨v6, h7, hf⟩ := bd hf
      refine roVi (pc := 28) (As := [.int (N 0 x2_1.toNatClampNeg)]) (rest := [.int (L 3 (N 1 x2_1.toNatClampNeg).toNatClampNeg)]) CF (mtX0_thickOf l D cI cZ cQ oL aL L (N 0 x2_1.toNatClampNeg) v6 h7) (cwV 1 hts gX1_agrees_X0_thickOf rfl rfl rfl ⟨rfl, hdX0_thickOf⟩ ⟨Nat.le_of_ble_eq_true rfl, Nat.le_of_ble_eq_true rfl⟩) hK (va_P_sub' hP [4, 5, 6, 7, 8, 9] rfl) rfl rfl rfl rfl hl.1 rfl (Nat.le_of_ble_eq_true rfl) dX1_agrees_28 ?_
      obtain ⟨v8, h9, hf⟩ := bd hf
      refine roNi (pc := 31) (As := [.int (L 3 (N 1 x2_1.toNatClampNeg).toNatClampNeg), .int v6]) (rest := []) CF (mtX3_lets l D cI cZ cQ (L 3 (N 1 x2_1.toNatClampNeg).toNatClampNeg) v6 v8 h9) (va_cnB 2 hts gX1_agrees_X3_lets_n35 rfl rfl rfl hK.2.2.2.2.2.1 (hts (.initialized RX3) (by decide +kernel)) hdX3_lets ⟨Nat.le_of_ble_eq_true rfl, Nat.le_of_ble_eq_true rfl⟩) (hts (.static yX3_lets) (by decide +kernel)) hK P0 rfl hl.1 rfl (Nat.le_of_ble_eq_true rfl) dX1_agrees_31 ?_
      refine lv_aload_n (pc := 34) hx hb dX1_agrees_34 rfl (lv_at hl 0 rfl) ?_
      refine va_get (pc := 35) (D := D) (ci := 1) (v := .ref (aN 2)) (C := RX1) (T := TX1) (N := 4) hx hb hts inX1_agrees_X1 hown hK.1 hP 0 rfl rfl 2 (by decide) (hts (.fieldLink RX1 18 "HedgeHoles$Notebook" "fits" "[Z") (by decide +kernel)) (fun _ h9 => h9) rfl dX1_agrees_35 ?_
      refine lv_iload_n (pc := 38) hx hb dX1_agrees_38 rfl (lv_at hl 2 rfl) ?_
      refine va_zald (pc := 39) (f := N 2) (n := 8) hx hb hK.1 hP 3 1 rfl rfl h4 dX1_agrees_39 ?_
      refine lv_icmp_eq (pc := 40) (tgt := 45) hx hb dX1_agrees_40 (by decide) (fun c10 => ?_) (fun c10 => ?_)
      · have hf := iT c10 hf
        refine lv_iinc (pc := 45) (v := (x2_1 + 1)) (lv' := [(2, .int (x2_1 + 1)), (0, .ref oN), (1, .ref oL)]) hx hb dX1_agrees_45 hl (k := 2) rfl rfl (by decide) rfl (fun ls hl => ?_)
        refine lv_goto (pc := 48) (tgt := 2) hx hb dX1_agrees_48 (by decide) ?_
        exact hslf _ hf ls (lv_sub hl [1, 2, 0] rfl)
      · have hf := iF c10 hf
        refine lv_iconst (pc := 43) (v := 0) hx hb dX1_agrees_43 (by decide) ?_
        obtain rfl := Option.some.inj hf
        exact hRet 44 ls (nzB (Or.inl rfl)) dX1_agrees_44
theorem hdX1_agrees : yX1_agrees.cls ≠ "java/lang/invoke/MethodHandle" ∧ yX1_agrees.cls ≠ "java/lang/invoke/VarHandle" ∧ (parseMethodDescriptor yX1_agrees.desc).map (fun d => d.parameters.length) = some 1 := by decide +kernel
abbrev rmX2_begin : Room := { frames := 1, cells := 0, slots := 0, locals := 23 }
theorem inX2_begin_X2 : ∀ w ∈ wsX20, w ∈ wsX2_begin := fun _ h => List.mem_cons_of_mem _ (List.mem_append_right _ h)
set_option maxHeartbeats 4000000 in
set_option maxRecDepth 100000 in
theorem mtX2_begin (l : Launch) (D : va_G) (cI cZ cQ : ClassId) (oR : Nat) (aR : Nat → Nat) (R : Bk) (p0 : Int32) (p1 : Int32) (sz : Nat) (out : Bk) (hf : fX2_begin R p0 p1 = some out) : Met l yX2_begin wsX2_begin rmX2_begin (WrP D cI cZ cQ [.ref oR, .int p0, .int p1] (wR cI oR aR R) sz) (WrQv D (wR cI oR aR R) (wR cI oR aR out) sz) 0 0 (va_A (wR cI oR aR R) sz) := by
  refine metWv (cc := cX2_begin) (maxL := 3) (by decide) rfl (Nat.le_of_ble_eq_true rfl) ?_
  intro p e s m args below meth c Q A CF hK hP hD hA hRet ls hl
  obtain ⟨hx, hb, hml, hown, hts⟩ := id CF
  have hS : va_S A s.heap s.heap [] := va_S.rf
  have hl : lv_has ls 3 [(0, .ref oR), (1, .int p0), (2, .int p1)] := hl
  unfold fX2_begin at hf
  refine lv_aload_n (pc := 0) hx hb dX2_begin_0 rfl (lv_at hl 0 rfl) ?_
  refine va_get (pc := 1) (D := D) (ci := 2) (v := .ref (aR 0)) (C := RX2) (T := TX2) (N := 4) hx hb hts inX2_begin_X2 hown hK.1 hP 0 rfl rfl 0 (by decide) (hts (.fieldLink RX2 9 "HedgeHoles$Row" "cells" "[I") (by decide +kernel)) (fun _ h9 => h9) rfl dX2_begin_1 ?_
  refine lv_iconst (pc := 4) (v := 0) hx hb dX2_begin_4 (by decide) ?_
  obtain ⟨v1, h2, hf⟩ := bd hf
  refine wrSv (pc := 5) (As := [.ref (aR 0), .int 0]) (rest := []) (wB' := wR cI oR aR (sA R 0 (v1 0))) CF (mtJ7_fill_53178 l D cI cZ cQ aR R 0 s.heap.size v1 h2) (va_cwS 2 hts gX2_begin_J7_fill_53178 rfl rfl rfl hdJ7_fill_53178 ⟨Nat.le_of_ble_eq_true rfl, Nat.le_of_ble_eq_true rfl⟩) hK hP hD hS hA [1] rfl (by decide) rfl rfl rfl rfl hl.1 rfl (Nat.le_of_ble_eq_true rfl) dX2_begin_5 (fun H locs hP hD hS => ?_)
  refine lv_aload_n (pc := 8) hx hb dX2_begin_8 rfl (lv_at hl 0 rfl) ?_
  refine lv_iconst (pc := 9) (v := 1) hx hb dX2_begin_9 (by decide) ?_
  refine va_put (pc := 10) (D := D) (ci := 2) (v := .int 1) (ty := .boolean) (C := RX2) (T := TX2) (N := 4) hx hb hts inX2_begin_X2 tyX2 tyX2_ok nmX2 hown hK.1 hP hD hS 0 rfl rfl 1 (by decide) (hts (.fieldLink RX2 15 "HedgeHoles$Row" "there" "Z") (by decide +kernel)) (fun _ h9 => h9) rfl (by decide +kernel) rfl rfl (Nat.le_of_ble_eq_true rfl) dX2_begin_10 (fun H locs hP hD hS => ?_)
  have hP : va_P D vwCl (wR cI oR aR (sB (sA R 0 (v1 0)) 1 0 1)) H := hP
  have hD : va_D A (wR cI oR aR (sB (sA R 0 (v1 0)) 1 0 1)) := hD
  obtain ⟨R_3, h4, hf⟩ := bd hf
  have h4 := Option.some.inj h4
  rw [h4] at hP hD
  refine lv_aload_n (pc := 13) hx hb dX2_begin_13 rfl (lv_at hl 0 rfl) ?_
  refine lv_iload_n (pc := 14) hx hb dX2_begin_14 rfl (lv_at hl 1 rfl) ?_
  refine va_put (pc := 15) (D := D) (ci := 2) (v := .int p0) (ty := .int) (C := RX2) (T := TX2) (N := 4) hx hb hts inX2_begin_X2 tyX2 tyX2_ok nmX2 hown hK.1 hP hD hS 0 rfl rfl 2 (by decide) (hts (.fieldLink RX2 19 "HedgeHoles$Row" "lane" "I") (by decide +kernel)) (fun _ h9 => h9) rfl (by decide +kernel) (vp_nar_int _) rfl (Nat.le_of_ble_eq_true rfl) dX2_begin_15 (fun H locs hP hD hS => ?_)
  have hP : va_P D vwCl (wR cI oR aR (sB R_3 2 0 p0)) H := hP
  have hD : va_D A (wR cI oR aR (sB R_3 2 0 p0)) := hD
  obtain ⟨R_5, h6, hf⟩ := bd hf
  have h6 := Option.some.inj h6
  rw [h6] at hP hD
  refine lv_aload_n (pc := 18) hx hb dX2_begin_18 rfl (lv_at hl 0 rfl) ?_
  refine lv_iload_n (pc := 19) hx hb dX2_begin_19 rfl (lv_at hl 2 rfl) ?_
  refine va_put (pc := 20) (D := D) (ci := 2) (v := .int p1) (ty := .int) (C := RX2) (T := TX2) (N := 4) hx hb hts inX2_begin_X2 tyX2 tyX2_ok nmX2 hown hK.1 hP hD hS 0 rfl rfl 3 (by decide) (hts (.fieldLink RX2 23 "HedgeHoles$Row" "size" "I") (by decide +kernel)) (fun _ h9 => h9) rfl (by decide +kernel) (vp_nar_int _) rfl (Nat.le_of_ble_eq_true rfl) dX2_begin_20 (fun H locs hP hD hS => ?_)
  have hP : va_P D vwCl (wR cI oR aR (sB R_5 3 0 p1)) H := hP
  have hD : va_D A (wR cI oR aR (sB R_5 3 0 p1)) := hD
  obtain ⟨R_7, h8, hf⟩ := bd hf
  have h8 := Option.some.inj h8
  rw [h8] at hP hD
  obtain rfl := Option.some.inj hf
  exact hRet 23 ls H locs dX2_begin_23 hP hS
theorem hdX2_begin : yX2_begin.cls ≠ "java/lang/invoke/MethodHandle" ∧ yX2_begin.cls ≠ "java/lang/invoke/VarHandle" ∧ (parseMethodDescriptor yX2_begin.desc).map (fun d => d.parameters.length) = some 2 := by decide +kernel
abbrev rmX2_faultAs : Room := { frames := 0, cells := 0, slots := 0, locals := 0 }
theorem inX2_faultAs_X2 : ∀ w ∈ wsX20, w ∈ wsX2_faultAs := fun _ h => List.mem_cons_of_mem _ (List.mem_append_right _ h)
set_option maxHeartbeats 4000000 in
set_option maxRecDepth 100000 in
theorem mtX2_faultAs (l : Launch) (D : va_G) (cI cZ cQ : ClassId) (oR : Nat) (aR : Nat → Nat) (R : Bk) (p0 : Int32) (out : Int32) (hf : fX2_faultAs R p0 = some out) : Met l yX2_faultAs wsX2_faultAs rmX2_faultAs (RoP D cI cZ cQ [.ref oR, .int p0] (wR cI oR aR R)) (vp_Si (fun r' => r' = out)) 0 0 (fun _ => False) := by
  refine metRi (ty := .int) (cc := cX2_faultAs) (maxL := 2) (by decide) rfl (Nat.le_of_ble_eq_true rfl) ?_
  intro p e s m args below meth c Q CF hK hP hRet ls hl
  obtain ⟨hx, hb, hml, hown, hts⟩ := id CF
  have hl : lv_has ls 2 [(0, .ref oR), (1, .int p0)] := hl
  unfold fX2_faultAs at hf
  refine lv_aload_n (pc := 0) hx hb dX2_faultAs_0 rfl (lv_at hl 0 rfl) ?_
  refine va_get (pc := 1) (D := D) (ci := 2) (v := .int (R 1 0)) (C := RX2) (T := TX2) (N := 4) hx hb hts inX2_faultAs_X2 hown hK.1 hP 0 rfl rfl 1 (by decide) (hts (.fieldLink RX2 15 "HedgeHoles$Row" "there" "Z") (by decide +kernel)) (fun _ h9 => h9) rfl dX2_faultAs_1 ?_
  refine lv_if_ne (pc := 4) (tgt := 9) hx hb dX2_faultAs_4 (by decide) (fun c1 => ?_) (fun c1 => ?_)
  · have hf := iF c1 hf
    refine lv_aload_n (pc := 9) hx hb dX2_faultAs_9 rfl (lv_at hl 0 rfl) ?_
    refine va_get (pc := 10) (D := D) (ci := 2) (v := .int (R 2 0)) (C := RX2) (T := TX2) (N := 4) hx hb hts inX2_faultAs_X2 hown hK.1 hP 0 rfl rfl 2 (by decide) (hts (.fieldLink RX2 19 "HedgeHoles$Row" "lane" "I") (by decide +kernel)) (fun _ h9 => h9) rfl dX2_faultAs_10 ?_
    refine lv_iload_n (pc := 13) hx hb dX2_faultAs_13 rfl (lv_at hl 1 rfl) ?_
    refine lv_icmp_ne (pc := 14) (tgt := 21) hx hb dX2_faultAs_14 (by decide) (fun c2 => ?_) (fun c2 => ?_)
    · have hf := iF c2 hf
      refine lv_iconst (pc := 21) (v := 2) hx hb dX2_faultAs_21 (by decide) ?_
      obtain rfl := Option.some.inj hf
      exact hRet 22 ls (vp_nar_int _) dX2_faultAs_22
    · have hf := iT c2 hf
      refine lv_iconst (pc := 17) (v := 0) hx hb dX2_faultAs_17 (by decide) ?_
      refine lv_goto (pc := 18) (tgt := 22) hx hb dX2_faultAs_18 (by decide) ?_
      obtain rfl := Option.some.inj hf
      exact hRet 22 ls (vp_nar_int _) dX2_faultAs_22
  · have hf := iT c1 hf
    refine lv_iconst (pc := 7) (v := 1) hx hb dX2_faultAs_7 (by decide) ?_
    obtain rfl := Option.some.inj hf
    exact hRet 8 ls (vp_nar_int _) dX2_faultAs_8
theorem hdX2_faultAs : yX2_faultAs.cls ≠ "java/lang/invoke/MethodHandle" ∧ yX2_faultAs.cls ≠ "java/lang/invoke/VarHandle" ∧ (parseMethodDescriptor yX2_faultAs.desc).map (fun d => d.parameters.length) = some 1 := by decide +kernel
abbrev rmX2_spans : Room := { frames := 0, cells := 0, slots := 0, locals := 0 }
theorem inX2_spans_X2 : ∀ w ∈ wsX20, w ∈ wsX2_spans := fun _ h => List.mem_cons_of_mem _ (List.mem_append_right _ h)
set_option maxHeartbeats 4000000 in
set_option maxRecDepth 100000 in
theorem mtX2_spans (l : Launch) (D : va_G) (cI cZ cQ : ClassId) (oR : Nat) (aR : Nat → Nat) (R : Bk) (p0 : Int32) (p1 : Int32) (out : Int32) (hf : fX2_spans R p0 p1 = some out) : Met l yX2_spans wsX2_spans rmX2_spans (RoP D cI cZ cQ [.ref oR, .int p0, .int p1] (wR cI oR aR R)) (vp_Si (fun r' => r' = out)) 0 0 (fun _ => False) := by
  refine metRi (ty := .boolean) (cc := cX2_spans) (maxL := 3) (by decide) rfl (Nat.le_of_ble_eq_true rfl) ?_
  intro p e s m args below meth c Q CF hK hP hRet ls hl
  obtain ⟨hx, hb, hml, hown, hts⟩ := id CF
  have hl : lv_has ls 3 [(0, .ref oR), (1, .int p0), (2, .int p1)] := hl
  unfold fX2_spans at hf
  refine lv_iload_n (pc := 0) hx hb dX2_spans_0 rfl (lv_at hl 1 rfl) ?_
  refine lv_if_lt (pc := 1) (tgt := 30) hx hb dX2_spans_1 (by decide) (fun c1 => ?_) (fun c1 => ?_)
  · have hf := iT c1 hf
    refine lv_iconst (pc := 30) (v := 0) hx hb dX2_spans_30 (by decide) ?_
    obtain rfl := Option.some.inj hf
    exact hRet 31 ls (nzB (Or.inl rfl)) dX2_spans_31
  · have hf := iF c1 hf
    refine lv_iload_n (pc := 4) hx hb dX2_spans_4 rfl (lv_at hl 1 rfl) ?_
    refine lv_aload_n (pc := 5) hx hb dX2_spans_5 rfl (lv_at hl 0 rfl) ?_
    refine va_get (pc := 6) (D := D) (ci := 2) (v := .int (R 3 0)) (C := RX2) (T := TX2) (N := 4) hx hb hts inX2_spans_X2 hown hK.1 hP 0 rfl rfl 3 (by decide) (hts (.fieldLink RX2 23 "HedgeHoles$Row" "size" "I") (by decide +kernel)) (fun _ h9 => h9) rfl dX2_spans_6 ?_
    refine lv_icmp_gt (pc := 9) (tgt := 30) hx hb dX2_spans_9 (by decide) (fun c2 => ?_) (fun c2 => ?_)
    · have hf := iT c2 hf
      refine lv_iconst (pc := 30) (v := 0) hx hb dX2_spans_30 (by decide) ?_
      obtain rfl := Option.some.inj hf
      exact hRet 31 ls (nzB (Or.inl rfl)) dX2_spans_31
    · have hf := iF c2 hf
      refine lv_iload_n (pc := 12) hx hb dX2_spans_12 rfl (lv_at hl 2 rfl) ?_
      refine lv_if_lt (pc := 13) (tgt := 30) hx hb dX2_spans_13 (by decide) (fun c3 => ?_) (fun c3 => ?_)
      · have hf := iT c3 hf
        refine lv_iconst (pc := 30) (v := 0) hx hb dX2_spans_30 (by decide) ?_
        obtain rfl := Option.some.inj hf
        exact hRet 31 ls (nzB (Or.inl rfl)) dX2_spans_31
      · have hf := iF c3 hf
        refine lv_iload_n (pc := 16) hx hb dX2_spans_16 rfl (lv_at hl 2 rfl) ?_
        refine lv_aload_n (pc := 17) hx hb dX2_spans_17 rfl (lv_at hl 0 rfl) ?_
        refine va_get (pc := 18) (D := D) (ci := 2) (v := .int (R 3 0)) (C := RX2) (T := TX2) (N := 4) hx hb hts inX2_spans_X2 hown hK.1 hP 0 rfl rfl 3 (by decide) (hts (.fieldLink RX2 23 "HedgeHoles$Row" "size" "I") (by decide +kernel)) (fun _ h9 => h9) rfl dX2_spans_18 ?_
        refine lv_iload_n (pc := 21) hx hb dX2_spans_21 rfl (lv_at hl 1 rfl) ?_
        refine lv_isub (pc := 22) hx hb dX2_spans_22 ?_
        refine lv_icmp_gt (pc := 23) (tgt := 30) hx hb dX2_spans_23 (by decide) (fun c4 => ?_) (fun c4 => ?_)
        · have hf := iT c4 hf
          refine lv_iconst (pc := 30) (v := 0) hx hb dX2_spans_30 (by decide) ?_
          obtain rfl := Option.some.inj hf
          exact hRet 31 ls (nzB (Or.inl rfl)) dX2_spans_31
        · have hf := iF c4 hf
          refine lv_iconst (pc := 26) (v := 1) hx hb dX2_spans_26 (by decide) ?_
          refine lv_goto (pc := 27) (tgt := 31) hx hb dX2_spans_27 (by decide) ?_
          obtain rfl := Option.some.inj hf
          exact hRet 31 ls (nzB (Or.inr rfl)) dX2_spans_31
theorem hdX2_spans : yX2_spans.cls ≠ "java/lang/invoke/MethodHandle" ∧ yX2_spans.cls ≠ "java/lang/invoke/VarHandle" ∧ (parseMethodDescriptor yX2_spans.desc).map (fun d => d.parameters.length) = some 2 := by decide +kernel
abbrev rmX3_goingsTold : Room := { frames := 0, cells := 0, slots := 0, locals := 0 }
theorem inX3_goingsTold_X2 : ∀ w ∈ wsX20, w ∈ wsX3_goingsTold := fun _ h => List.mem_cons_of_mem _ (List.mem_append_right _ h)
set_option maxHeartbeats 4000000 in
set_option maxRecDepth 100000 in
theorem mtX3_goingsTold (l : Launch) (D : va_G) (cI cZ cQ : ClassId) (oR : Nat) (aR : Nat → Nat) (R : Bk) (p1 : Int32) (p2 : Int32) (out : Int32) (hf : fX3_goingsTold R p1 p2 = some out) : Met l yX3_goingsTold wsX3_goingsTold rmX3_goingsTold (RoP D cI cZ cQ [.ref oR, .int p1, .int p2] (wR cI oR aR R)) (vp_Si (fun r' => r' = out)) 0 0 (fun _ => False) := by
  refine metRi (ty := .int) (cc := cX3_goingsTold) (maxL := 5) (by decide) rfl (Nat.le_of_ble_eq_true rfl) ?_
  intro p e s m args below meth c Q CF hK hP hRet ls hl
  obtain ⟨hx, hb, hml, hown, hts⟩ := id CF
  have hl : lv_has ls 5 [(0, .ref oR), (1, .int p1), (2, .int p2)] := hl
  unfold fX3_goingsTold at hf
  refine lv_iconst (pc := 0) (v := 0) hx hb dX3_goingsTold_0 (by decide) ?_
  refine lv_istore_n (pc := 1) (lv' := [(3, .int 0), (0, .ref oR), (1, .int p1), (2, .int p2)]) hx hb dX3_goingsTold_1 rfl hl (by decide) rfl (fun ls hl => ?_)
  refine lv_iconst (pc := 2) (v := 0) hx hb dX3_goingsTold_2 (by decide) ?_
  refine lv_istore (pc := 3) (lv' := [(4, .int 0), (3, .int 0), (0, .ref oR), (1, .int p1), (2, .int p2)]) hx hb dX3_goingsTold_3 hl (by decide) rfl (fun ls hl => ?_)
  refine zl2 (G := FX3_goingsTold_5 p1 p2 R) (fun x3_1 x4_2 => ∀ (ls : Array Slot), lv_has ls 5 [(0, .ref oR), (1, .int p1), (2, .int p2), (3, .int x3_1), (4, .int x4_2)] → W p l e rmX3_goingsTold s m args below meth c s.heap [] 0 0 Q (F0 m 5 ls [])) (fun x3_3 x4_4 => ∀ (ls : Array Slot), lv_has ls 5 [(0, .ref oR), (1, .int p1), (2, .int p2), (3, .int x3_3), (4, .int x4_4)] → W p l e rmX3_goingsTold s m args below meth c s.heap [] 0 0 Q (F0 m 42 ls [])) hf (fun x3_3 x4_4 hf => ?_) (fun kx slf hkx hslf x3_1 x4_2 hf => ?_) ls (lv_sub hl [2, 3, 4, 1, 0] rfl)
  · intro ls hl
    refine lv_iload_n (pc := 42) hx hb dX3_goingsTold_42 rfl (lv_at hl 3 rfl) ?_
    obtain rfl := Option.some.inj hf
    exact hRet 43 ls (vp_nar_int _) dX3_goingsTold_43
  · unfold FX3_goingsTold_5 at hf
    intro ls hl
    refine lv_iload (pc := 5) hx hb dX3_goingsTold_5 (lv_at hl 4 rfl) ?_
    refine lv_iload_n (pc := 7) hx hb dX3_goingsTold_7 rfl (lv_at hl 2 rfl) ?_
    refine lv_icmp_ge (pc := 8) (tgt := 42) hx hb dX3_goingsTold_8 (by decide) (fun c5 => ?_) (fun c5 => ?_)
    · have hf := iT c5 hf
      exact hkx _ _ hf ls (lv_sub hl [0, 1, 2, 3, 4] rfl)
    · have hf := iF c5 hf
      refine lv_iload_n (pc := 11) hx hb dX3_goingsTold_11 rfl (lv_at hl 3 rfl) ?_
      refine lv_aload_n (pc := 12) hx hb dX3_goingsTold_12 rfl (lv_at hl 0 rfl) ?_
      refine va_get (pc := 13) (D := D) (ci := 2) (v := .ref (aR 0)) (C := RX2) (T := TX2) (N := 4) hx hb hts inX3_goingsTold_X2 hown hK.1 hP 0 rfl rfl 0 (by decide) (hts (.fieldLink RX3 202 "HedgeHoles$Row" "cells" "[I") (by decide +kernel)) (fun _ h9 => h9) rfl dX3_goingsTold_13 ?_
      refine lv_iload_n (pc := 16) hx hb dX3_goingsTold_16 rfl (lv_at hl 1 rfl) ?_
      refine lv_iconst (pc := 17) (v := 2) hx hb dX3_goingsTold_17 (by decide) ?_
      refine lv_iload (pc := 18) hx hb dX3_goingsTold_18 (lv_at hl 4 rfl) ?_
      refine lv_imul (pc := 20) hx hb dX3_goingsTold_20 ?_
      refine lv_iadd (pc := 21) hx hb dX3_goingsTold_21 ?_
      refine lv_iconst (pc := 22) (v := 1) hx hb dX3_goingsTold_22 (by decide) ?_
      refine lv_iadd (pc := 23) hx hb dX3_goingsTold_23 ?_
      obtain ⟨h6, hf⟩ := gI_e hf
      refine va_iald (pc := 24) (f := R 0) (n := 60) hx hb hK.1 hP 1 0 rfl rfl h6 dX3_goingsTold_24 ?_
      refine lv_iconst (pc := 25) (v := 5) hx hb dX3_goingsTold_25 (by decide) ?_
      obtain ⟨v7, hv, hf⟩ := bd hf
      have J8 : ∀ (ls : Array Slot), lv_has ls 5 [(0, .ref oR), (1, .int p1), (2, .int p2), (3, .int x3_1), (4, .int x4_2)] → W p l e rmX3_goingsTold s m args below meth c s.heap [] 0 0 Q (F0 m 34 ls [.int v7, .int x3_1]) := by
        intro ls hl
        refine lv_iadd (pc := 34) hx hb dX3_goingsTold_34 ?_
        refine lv_istore_n (pc := 35) (lv' := [(3, .int (x3_1 + v7)), (0, .ref oR), (1, .int p1), (2, .int p2), (4, .int x4_2)]) hx hb dX3_goingsTold_35 rfl hl (by decide) rfl (fun ls hl => ?_)
        refine lv_iinc (pc := 36) (v := (x4_2 + 1)) (lv' := [(4, .int (x4_2 + 1)), (3, .int (x3_1 + v7)), (0, .ref oR), (1, .int p1), (2, .int p2)]) hx hb dX3_goingsTold_36 hl (k := 4) rfl rfl (by decide) rfl (fun ls hl => ?_)
        refine lv_goto (pc := 39) (tgt := 5) hx hb dX3_goingsTold_39 (by decide) ?_
        exact hslf _ _ hf ls (lv_sub hl [2, 3, 4, 1, 0] rfl)
      clear hf
      have hf := hv
      clear hv
      refine lv_icmp_ge (pc := 26) (tgt := 33) hx hb dX3_goingsTold_26 (by decide) (fun c9 => ?_) (fun c9 => ?_)
      · have hf := iT c9 hf
        refine lv_iconst (pc := 33) (v := 0) hx hb dX3_goingsTold_33 (by decide) ?_
        obtain rfl := Option.some.inj hf
        exact J8 ls (lv_sub hl [0, 1, 2, 3, 4] rfl)
      · have hf := iF c9 hf
        refine lv_iconst (pc := 29) (v := 1) hx hb dX3_goingsTold_29 (by decide) ?_
        refine lv_goto (pc := 30) (tgt := 34) hx hb dX3_goingsTold_30 (by decide) ?_
        obtain rfl := Option.some.inj hf
        exact J8 ls (lv_sub hl [0, 1, 2, 3, 4] rfl)
theorem hdX3_goingsTold : yX3_goingsTold.cls ≠ "java/lang/invoke/MethodHandle" ∧ yX3_goingsTold.cls ≠ "java/lang/invoke/VarHandle" ∧ (parseMethodDescriptor yX3_goingsTold.desc).map (fun d => d.parameters.length) = some 3 := by decide +kernel
