abbrev rmX0_clear : Room := { frames := 0, cells := 0, slots := 0, locals := 0 }
theorem inX0_clear_X0 : ∀ w ∈ wsX00, w ∈ wsX0_clear := fun _ h => List.mem_cons_of_mem _ (List.mem_append_right _ h)
set_option maxHeartbeats 4000000 in
set_option maxRecDepth 100000 in
theorem mtX0_clear (l : Launch) (D : va_G) (cI cZ cQ : ClassId) (oL : Nat) (aL : Nat → Nat) (L : Bk)  (sz : Nat) (out : Bk) (hf : fX0_clear L = some out) : Met l yX0_clear wsX0_clear rmX0_clear (WrP D cI cZ cQ [.ref oL] (wL cI oL aL L) sz) (WrQv D (wL cI oL aL L) (wL cI oL aL out) sz) 0 0 (va_A (wL cI oL aL L) sz) := by
  refine metWv (cc := cX0_clear) (maxL := 1) (by decide) rfl (Nat.le_of_ble_eq_true rfl) ?_
  intro p e s m args below meth c Q A CF hK hP hD hA hRet ls hl
  obtain ⟨hx, hb, hml, hown, hts⟩ := id CF
  have hS : va_S A s.heap s.heap [] := va_S.rf
  have hl : lv_has ls 1 [(0, .ref oL)] := hl
  unfold fX0_clear at hf
  refine lv_aload_n (pc := 0) hx hb dX0_clear_0 rfl (lv_at hl 0 rfl) ?_
  refine lv_iconst (pc := 1) (v := 0) hx hb dX0_clear_1 (by decide) ?_
  refine va_put (pc := 2) (D := D) (ci := 0) (v := .int 0) (ty := .int) (C := RX0) (T := TX0) (N := 8) hx hb hts inX0_clear_X0 tyX0 tyX0_ok nmX0 hown hK.1 hP hD hS 0 rfl rfl 0 (by decide) (hts (.fieldLink RX0 9 "HedgeHoles$Land" "fields" "I") (by decide +kernel)) (fun _ h9 => h9) rfl (by decide +kernel) (vp_nar_int _) rfl (Nat.le_of_ble_eq_true rfl) dX0_clear_2 (fun H locs hP hD hS => ?_)
  have hP : va_P D vwCl (wL cI oL aL (sB L 0 0 0)) H := hP
  have hD : va_D A (wL cI oL aL (sB L 0 0 0)) := hD
  obtain ⟨L_1, h2, hf⟩ := bd hf
  have h2 := Option.some.inj h2
  rw [h2] at hP hD
  refine lv_aload_n (pc := 5) hx hb dX0_clear_5 rfl (lv_at hl 0 rfl) ?_
  refine lv_iconst (pc := 6) (v := 0) hx hb dX0_clear_6 (by decide) ?_
  refine va_put (pc := 7) (D := D) (ci := 0) (v := .int 0) (ty := .int) (C := RX0) (T := TX0) (N := 8) hx hb hts inX0_clear_X0 tyX0 tyX0_ok nmX0 hown hK.1 hP hD hS 0 rfl rfl 1 (by decide) (hts (.fieldLink RX0 15 "HedgeHoles$Land" "goers" "I") (by decide +kernel)) (fun _ h9 => h9) rfl (by decide +kernel) (vp_nar_int _) rfl (Nat.le_of_ble_eq_true rfl) dX0_clear_7 (fun H locs hP hD hS => ?_)
  have hP : va_P D vwCl (wL cI oL aL (sB L_1 1 0 0)) H := hP
  have hD : va_D A (wL cI oL aL (sB L_1 1 0 0)) := hD
  obtain ⟨L_3, h4, hf⟩ := bd hf
  have h4 := Option.some.inj h4
  rw [h4] at hP hD
  refine lv_aload_n (pc := 10) hx hb dX0_clear_10 rfl (lv_at hl 0 rfl) ?_
  refine lv_iconst (pc := 11) (v := 0) hx hb dX0_clear_11 (by decide) ?_
  refine va_put (pc := 12) (D := D) (ci := 0) (v := .int 0) (ty := .int) (C := RX0) (T := TX0) (N := 8) hx hb hts inX0_clear_X0 tyX0 tyX0_ok nmX0 hown hK.1 hP hD hS 0 rfl rfl 2 (by decide) (hts (.fieldLink RX0 18 "HedgeHoles$Land" "worn" "I") (by decide +kernel)) (fun _ h9 => h9) rfl (by decide +kernel) (vp_nar_int _) rfl (Nat.le_of_ble_eq_true rfl) dX0_clear_12 (fun H locs hP hD hS => ?_)
  have hP : va_P D vwCl (wL cI oL aL (sB L_3 2 0 0)) H := hP
  have hD : va_D A (wL cI oL aL (sB L_3 2 0 0)) := hD
  obtain ⟨L_5, h6, hf⟩ := bd hf
  have h6 := Option.some.inj h6
  rw [h6] at hP hD
  obtain rfl := Option.some.inj hf
  exact hRet 15 ls H locs dX0_clear_15 hP hS
theorem hdX0_clear : yX0_clear.cls ≠ "java/lang/invoke/MethodHandle" ∧ yX0_clear.cls ≠ "java/lang/invoke/VarHandle" ∧ (parseMethodDescriptor yX0_clear.desc).map (fun d => d.parameters.length) = some 0 := by decide +kernel
abbrev rmX0_become : Room := { frames := 1, cells := 0, slots := 0, locals := 26 }
theorem inX0_become_X0 : ∀ w ∈ wsX00, w ∈ wsX0_become := fun _ h => List.mem_cons_of_mem _ (List.mem_append_right _ h)
set_option maxHeartbeats 4000000 in
set_option maxRecDepth 100000 in
theorem mtX0_become (l : Launch) (D : va_G) (cI cZ cQ : ClassId) (oL : Nat) (aL : Nat → Nat) (L : Bk) (oT : Nat) (aT : Nat → Nat) (T : Bk)  (sz : Nat) (out : Bk) (hf : fX0_become L T = some out) : Met l yX0_become wsX0_become rmX0_become (WrP D cI cZ cQ [.ref oL, .ref oT] (wLL cI oL aL L oT aT T) sz) (WrQv D (wLL cI oL aL L oT aT T) (wLL cI oL aL out oT aT T) sz) 0 0 (va_A (wLL cI oL aL L oT aT T) sz) := by
  refine metWv (cc := cX0_become) (maxL := 2) (by decide) rfl (Nat.le_of_ble_eq_true rfl) ?_
  intro p e s m args below meth c Q A CF hK hP hD hA hRet ls hl
  obtain ⟨hx, hb, hml, hown, hts⟩ := id CF
  have hS : va_S A s.heap s.heap [] := va_S.rf
  have hl : lv_has ls 2 [(0, .ref oL), (1, .ref oT)] := hl
  unfold fX0_become at hf
  refine lv_aload_n (pc := 0) hx hb dX0_become_0 rfl (lv_at hl 0 rfl) ?_
  refine lv_aload_n (pc := 1) hx hb dX0_become_1 rfl (lv_at hl 1 rfl) ?_
  refine va_get (pc := 2) (D := D) (ci := 0) (v := .int (T 0 0)) (C := RX0) (T := TX0) (N := 8) hx hb hts inX0_become_X0 hown hK.1 hP 6 rfl rfl 0 (by decide) (hts (.fieldLink RX0 9 "HedgeHoles$Land" "fields" "I") (by decide +kernel)) (fun _ h9 => h9) rfl dX0_become_2 ?_
  refine va_put (pc := 5) (D := D) (ci := 0) (v := .int (T 0 0)) (ty := .int) (C := RX0) (T := TX0) (N := 8) hx hb hts inX0_become_X0 tyX0 tyX0_ok nmX0 hown hK.1 hP hD hS 0 rfl rfl 0 (by decide) (hts (.fieldLink RX0 9 "HedgeHoles$Land" "fields" "I") (by decide +kernel)) (fun _ h9 => h9) rfl (by decide +kernel) (vp_nar_int _) rfl (Nat.le_of_ble_eq_true rfl) dX0_become_5 (fun H locs hP hD hS => ?_)
  have hP : va_P D vwCl (wLL cI oL aL (sB L 0 0 (T 0 0)) oT aT T) H := hP
  have hD : va_D A (wLL cI oL aL (sB L 0 0 (T 0 0)) oT aT T) := hD
  obtain ⟨L_1, h2, hf⟩ := bd hf
  have h2 := Option.some.inj h2
  rw [h2] at hP hD
  refine lv_aload_n (pc := 8) hx hb dX0_become_8 rfl (lv_at hl 0 rfl) ?_
  refine lv_aload_n (pc := 9) hx hb dX0_become_9 rfl (lv_at hl 1 rfl) ?_
  refine va_get (pc := 10) (D := D) (ci := 0) (v := .int (T 1 0)) (C := RX0) (T := TX0) (N := 8) hx hb hts inX0_become_X0 hown hK.1 hP 6 rfl rfl 1 (by decide) (hts (.fieldLink RX0 15 "HedgeHoles$Land" "goers" "I") (by decide +kernel)) (fun _ h9 => h9) rfl dX0_become_10 ?_
  refine va_put (pc := 13) (D := D) (ci := 0) (v := .int (T 1 0)) (ty := .int) (C := RX0) (T := TX0) (N := 8) hx hb hts inX0_become_X0 tyX0 tyX0_ok nmX0 hown hK.1 hP hD hS 0 rfl rfl 1 (by decide) (hts (.fieldLink RX0 15 "HedgeHoles$Land" "goers" "I") (by decide +kernel)) (fun _ h9 => h9) rfl (by decide +kernel) (vp_nar_int _) rfl (Nat.le_of_ble_eq_true rfl) dX0_become_13 (fun H locs hP hD hS => ?_)
  have hP : va_P D vwCl (wLL cI oL aL (sB L_1 1 0 (T 1 0)) oT aT T) H := hP
  have hD : va_D A (wLL cI oL aL (sB L_1 1 0 (T 1 0)) oT aT T) := hD
  obtain ⟨L_3, h4, hf⟩ := bd hf
  have h4 := Option.some.inj h4
  rw [h4] at hP hD
  refine lv_aload_n (pc := 16) hx hb dX0_become_16 rfl (lv_at hl 0 rfl) ?_
  refine lv_aload_n (pc := 17) hx hb dX0_become_17 rfl (lv_at hl 1 rfl) ?_
  refine va_get (pc := 18) (D := D) (ci := 0) (v := .int (T 2 0)) (C := RX0) (T := TX0) (N := 8) hx hb hts inX0_become_X0 hown hK.1 hP 6 rfl rfl 2 (by decide) (hts (.fieldLink RX0 18 "HedgeHoles$Land" "worn" "I") (by decide +kernel)) (fun _ h9 => h9) rfl dX0_become_18 ?_
  refine va_put (pc := 21) (D := D) (ci := 0) (v := .int (T 2 0)) (ty := .int) (C := RX0) (T := TX0) (N := 8) hx hb hts inX0_become_X0 tyX0 tyX0_ok nmX0 hown hK.1 hP hD hS 0 rfl rfl 2 (by decide) (hts (.fieldLink RX0 18 "HedgeHoles$Land" "worn" "I") (by decide +kernel)) (fun _ h9 => h9) rfl (by decide +kernel) (vp_nar_int _) rfl (Nat.le_of_ble_eq_true rfl) dX0_become_21 (fun H locs hP hD hS => ?_)
  have hP : va_P D vwCl (wLL cI oL aL (sB L_3 2 0 (T 2 0)) oT aT T) H := hP
  have hD : va_D A (wLL cI oL aL (sB L_3 2 0 (T 2 0)) oT aT T) := hD
  obtain ⟨L_5, h6, hf⟩ := bd hf
  have h6 := Option.some.inj h6
  rw [h6] at hP hD
  refine lv_aload_n (pc := 24) hx hb dX0_become_24 rfl (lv_at hl 1 rfl) ?_
  refine va_get (pc := 25) (D := D) (ci := 0) (v := .ref (aT 3)) (C := RX0) (T := TX0) (N := 8) hx hb hts inX0_become_X0 hown hK.1 hP 6 rfl rfl 3 (by decide) (hts (.fieldLink RX0 21 "HedgeHoles$Land" "width" "[I") (by decide +kernel)) (fun _ h9 => h9) rfl dX0_become_25 ?_
  refine lv_iconst (pc := 28) (v := 0) hx hb dX0_become_28 (by decide) ?_
  refine lv_aload_n (pc := 29) hx hb dX0_become_29 rfl (lv_at hl 0 rfl) ?_
  refine va_get (pc := 30) (D := D) (ci := 0) (v := .ref (aL 3)) (C := RX0) (T := TX0) (N := 8) hx hb hts inX0_become_X0 hown hK.1 hP 0 rfl rfl 3 (by decide) (hts (.fieldLink RX0 21 "HedgeHoles$Land" "width" "[I") (by decide +kernel)) (fun _ h9 => h9) rfl dX0_become_30 ?_
  refine lv_iconst (pc := 33) (v := 0) hx hb dX0_become_33 (by decide) ?_
  refine lv_bipush (pc := 34) (v := 10) hx hb dX0_become_34 (by decide) ?_
  refine va_copyi (pc := 36) (f := T 3) (g := L_5 3) (n0 := 10) (n1 := 10) (ty := .int) hx hb (hml.trans hl.1.symm) hown (hts (.methodLink RX0 37 arraycopyName) (by decide +kernel)) (hts (.native arraycopyName) (by decide +kernel)) (hts (.static arraycopyName) (by decide +kernel)) (hts (.initialized "java/lang/System") (by decide +kernel)) hK.1 hP hD hS 7 1 0 0 rfl rfl rfl rfl rfl (by decide) (by decide) (by decide) (by decide) (by decide) (fun _ _ => rfl) (Nat.le_of_ble_eq_true rfl) (Nat.le_of_ble_eq_true rfl) dX0_become_36 (fun H locs hP hD hS => ?_)
  have hP : va_P D vwCl (wLL cI oL aL (sA L_5 3 (va_cpy (T 3) (L_5 3) (0 : Int32).toNatClampNeg (0 : Int32).toNatClampNeg (10 : Int32).toNatClampNeg)) oT aT T) H := hP
  have hD : va_D A (wLL cI oL aL (sA L_5 3 (va_cpy (T 3) (L_5 3) (0 : Int32).toNatClampNeg (0 : Int32).toNatClampNeg (10 : Int32).toNatClampNeg)) oT aT T) := hD
  obtain ⟨L_7, h8, hf⟩ := bd hf
  have h8 := Option.some.inj h8
  rw [h8] at hP hD
  refine lv_aload_n (pc := 39) hx hb dX0_become_39 rfl (lv_at hl 1 rfl) ?_
  refine va_get (pc := 40) (D := D) (ci := 0) (v := .ref (aT 4)) (C := RX0) (T := TX0) (N := 8) hx hb hts inX0_become_X0 hown hK.1 hP 6 rfl rfl 4 (by decide) (hts (.fieldLink RX0 25 "HedgeHoles$Land" "kind" "[I") (by decide +kernel)) (fun _ h9 => h9) rfl dX0_become_40 ?_
  refine lv_iconst (pc := 43) (v := 0) hx hb dX0_become_43 (by decide) ?_
  refine lv_aload_n (pc := 44) hx hb dX0_become_44 rfl (lv_at hl 0 rfl) ?_
  refine va_get (pc := 45) (D := D) (ci := 0) (v := .ref (aL 4)) (C := RX0) (T := TX0) (N := 8) hx hb hts inX0_become_X0 hown hK.1 hP 0 rfl rfl 4 (by decide) (hts (.fieldLink RX0 25 "HedgeHoles$Land" "kind" "[I") (by decide +kernel)) (fun _ h9 => h9) rfl dX0_become_45 ?_
  refine lv_iconst (pc := 48) (v := 0) hx hb dX0_become_48 (by decide) ?_
  refine lv_iconst (pc := 49) (v := 5) hx hb dX0_become_49 (by decide) ?_
  refine va_copyi (pc := 50) (f := T 4) (g := L_7 4) (n0 := 5) (n1 := 5) (ty := .int) hx hb (hml.trans hl.1.symm) hown (hts (.methodLink RX0 37 arraycopyName) (by decide +kernel)) (hts (.native arraycopyName) (by decide +kernel)) (hts (.static arraycopyName) (by decide +kernel)) (hts (.initialized "java/lang/System") (by decide +kernel)) hK.1 hP hD hS 8 2 0 0 rfl rfl rfl rfl rfl (by decide) (by decide) (by decide) (by decide) (by decide) (fun _ _ => rfl) (Nat.le_of_ble_eq_true rfl) (Nat.le_of_ble_eq_true rfl) dX0_become_50 (fun H locs hP hD hS => ?_)
  have hP : va_P D vwCl (wLL cI oL aL (sA L_7 4 (va_cpy (T 4) (L_7 4) (0 : Int32).toNatClampNeg (0 : Int32).toNatClampNeg (5 : Int32).toNatClampNeg)) oT aT T) H := hP
  have hD : va_D A (wLL cI oL aL (sA L_7 4 (va_cpy (T 4) (L_7 4) (0 : Int32).toNatClampNeg (0 : Int32).toNatClampNeg (5 : Int32).toNatClampNeg)) oT aT T) := hD
  obtain ⟨L_9, h10, hf⟩ := bd hf
  have h10 := Option.some.inj h10
  rw [h10] at hP hD
  refine lv_aload_n (pc := 53) hx hb dX0_become_53 rfl (lv_at hl 1 rfl) ?_
  refine va_get (pc := 54) (D := D) (ci := 0) (v := .ref (aT 5)) (C := RX0) (T := TX0) (N := 8) hx hb hts inX0_become_X0 hown hK.1 hP 6 rfl rfl 5 (by decide) (hts (.fieldLink RX0 28 "HedgeHoles$Land" "girth" "[I") (by decide +kernel)) (fun _ h9 => h9) rfl dX0_become_54 ?_
  refine lv_iconst (pc := 57) (v := 0) hx hb dX0_become_57 (by decide) ?_
  refine lv_aload_n (pc := 58) hx hb dX0_become_58 rfl (lv_at hl 0 rfl) ?_
  refine va_get (pc := 59) (D := D) (ci := 0) (v := .ref (aL 5)) (C := RX0) (T := TX0) (N := 8) hx hb hts inX0_become_X0 hown hK.1 hP 0 rfl rfl 5 (by decide) (hts (.fieldLink RX0 28 "HedgeHoles$Land" "girth" "[I") (by decide +kernel)) (fun _ h9 => h9) rfl dX0_become_59 ?_
  refine lv_iconst (pc := 62) (v := 0) hx hb dX0_become_62 (by decide) ?_
  refine lv_iconst (pc := 63) (v := 5) hx hb dX0_become_63 (by decide) ?_
  refine va_copyi (pc := 64) (f := T 5) (g := L_9 5) (n0 := 5) (n1 := 5) (ty := .int) hx hb (hml.trans hl.1.symm) hown (hts (.methodLink RX0 37 arraycopyName) (by decide +kernel)) (hts (.native arraycopyName) (by decide +kernel)) (hts (.static arraycopyName) (by decide +kernel)) (hts (.initialized "java/lang/System") (by decide +kernel)) hK.1 hP hD hS 9 3 0 0 rfl rfl rfl rfl rfl (by decide) (by decide) (by decide) (by decide) (by decide) (fun _ _ => rfl) (Nat.le_of_ble_eq_true rfl) (Nat.le_of_ble_eq_true rfl) dX0_become_64 (fun H locs hP hD hS => ?_)
  have hP : va_P D vwCl (wLL cI oL aL (sA L_9 5 (va_cpy (T 5) (L_9 5) (0 : Int32).toNatClampNeg (0 : Int32).toNatClampNeg (5 : Int32).toNatClampNeg)) oT aT T) H := hP
  have hD : va_D A (wLL cI oL aL (sA L_9 5 (va_cpy (T 5) (L_9 5) (0 : Int32).toNatClampNeg (0 : Int32).toNatClampNeg (5 : Int32).toNatClampNeg)) oT aT T) := hD
  obtain ⟨L_11, h12, hf⟩ := bd hf
  have h12 := Option.some.inj h12
  rw [h12] at hP hD
  refine lv_aload_n (pc := 67) hx hb dX0_become_67 rfl (lv_at hl 1 rfl) ?_
  refine va_get (pc := 68) (D := D) (ci := 0) (v := .ref (aT 6)) (C := RX0) (T := TX0) (N := 8) hx hb hts inX0_become_X0 hown hK.1 hP 6 rfl rfl 6 (by decide) (hts (.fieldLink RX0 31 "HedgeHoles$Land" "place" "[I") (by decide +kernel)) (fun _ h9 => h9) rfl dX0_become_68 ?_
  refine lv_iconst (pc := 71) (v := 0) hx hb dX0_become_71 (by decide) ?_
  refine lv_aload_n (pc := 72) hx hb dX0_become_72 rfl (lv_at hl 0 rfl) ?_
  refine va_get (pc := 73) (D := D) (ci := 0) (v := .ref (aL 6)) (C := RX0) (T := TX0) (N := 8) hx hb hts inX0_become_X0 hown hK.1 hP 0 rfl rfl 6 (by decide) (hts (.fieldLink RX0 31 "HedgeHoles$Land" "place" "[I") (by decide +kernel)) (fun _ h9 => h9) rfl dX0_become_73 ?_
  refine lv_iconst (pc := 76) (v := 0) hx hb dX0_become_76 (by decide) ?_
  refine lv_iconst (pc := 77) (v := 5) hx hb dX0_become_77 (by decide) ?_
  refine va_copyi (pc := 78) (f := T 6) (g := L_11 6) (n0 := 5) (n1 := 5) (ty := .int) hx hb (hml.trans hl.1.symm) hown (hts (.methodLink RX0 37 arraycopyName) (by decide +kernel)) (hts (.native arraycopyName) (by decide +kernel)) (hts (.static arraycopyName) (by decide +kernel)) (hts (.initialized "java/lang/System") (by decide +kernel)) hK.1 hP hD hS 10 4 0 0 rfl rfl rfl rfl rfl (by decide) (by decide) (by decide) (by decide) (by decide) (fun _ _ => rfl) (Nat.le_of_ble_eq_true rfl) (Nat.le_of_ble_eq_true rfl) dX0_become_78 (fun H locs hP hD hS => ?_)
  have hP : va_P D vwCl (wLL cI oL aL (sA L_11 6 (va_cpy (T 6) (L_11 6) (0 : Int32).toNatClampNeg (0 : Int32).toNatClampNeg (5 : Int32).toNatClampNeg)) oT aT T) H := hP
  have hD : va_D A (wLL cI oL aL (sA L_11 6 (va_cpy (T 6) (L_11 6) (0 : Int32).toNatClampNeg (0 : Int32).toNatClampNeg (5 : Int32).toNatClampNeg)) oT aT T) := hD
  obtain ⟨L_13, h14, hf⟩ := bd hf
  have h14 := Option.some.inj h14
  rw [h14] at hP hD
  obtain rfl := Option.some.inj hf
  exact hRet 81 ls H locs dX0_become_81 hP hS
theorem hdX0_become : yX0_become.cls ≠ "java/lang/invoke/MethodHandle" ∧ yX0_become.cls ≠ "java/lang/invoke/VarHandle" ∧ (parseMethodDescriptor yX0_become.desc).map (fun d => d.parameters.length) = some 1 := by decide +kernel
abbrev rmX0_hedges : Room := { frames := 0, cells := 0, slots := 0, locals := 0 }
theorem inX0_hedges_X0 : ∀ w ∈ wsX00, w ∈ wsX0_hedges := fun _ h => List.mem_cons_of_mem _ (List.mem_append_right _ h)
set_option maxHeartbeats 4000000 in
set_option maxRecDepth 100000 in
theorem mtX0_hedges (l : Launch) (D : va_G) (cI cZ cQ : ClassId) (oL : Nat) (aL : Nat → Nat) (L : Bk)  (out : Int32) (hf : fX0_hedges L = some out) : Met l yX0_hedges wsX0_hedges rmX0_hedges (RoP D cI cZ cQ [.ref oL] (wL cI oL aL L)) (vp_Si (fun r' => r' = out)) 0 0 (fun _ => False) := by
  refine metRi (ty := .int) (cc := cX0_hedges) (maxL := 1) (by decide) rfl (Nat.le_of_ble_eq_true rfl) ?_
  intro p e s m args below meth c Q CF hK hP hRet ls hl
  obtain ⟨hx, hb, hml, hown, hts⟩ := id CF
  have hl : lv_has ls 1 [(0, .ref oL)] := hl
  unfold fX0_hedges at hf
  refine lv_aload_n (pc := 0) hx hb dX0_hedges_0 rfl (lv_at hl 0 rfl) ?_
  refine va_get (pc := 1) (D := D) (ci := 0) (v := .int (L 0 0)) (C := RX0) (T := TX0) (N := 8) hx hb hts inX0_hedges_X0 hown hK.1 hP 0 rfl rfl 0 (by decide) (hts (.fieldLink RX0 9 "HedgeHoles$Land" "fields" "I") (by decide +kernel)) (fun _ h9 => h9) rfl dX0_hedges_1 ?_
  refine lv_aload_n (pc := 4) hx hb dX0_hedges_4 rfl (lv_at hl 0 rfl) ?_
  refine va_get (pc := 5) (D := D) (ci := 0) (v := .int (L 0 0)) (C := RX0) (T := TX0) (N := 8) hx hb hts inX0_hedges_X0 hown hK.1 hP 0 rfl rfl 0 (by decide) (hts (.fieldLink RX0 9 "HedgeHoles$Land" "fields" "I") (by decide +kernel)) (fun _ h9 => h9) rfl dX0_hedges_5 ?_
  refine lv_iconst (pc := 8) (v := 1) hx hb dX0_hedges_8 (by decide) ?_
  refine lv_isub (pc := 9) hx hb dX0_hedges_9 ?_
  refine lv_imul (pc := 10) hx hb dX0_hedges_10 ?_
  refine lv_iconst (pc := 11) (v := 2) hx hb dX0_hedges_11 (by decide) ?_
  refine lv_idiv (pc := 12) hx hb dX0_hedges_12 (by decide) ?_
  obtain rfl := Option.some.inj hf
  exact hRet 13 ls (vp_nar_int _) dX0_hedges_13
theorem hdX0_hedges : yX0_hedges.cls ≠ "java/lang/invoke/MethodHandle" ∧ yX0_hedges.cls ≠ "java/lang/invoke/VarHandle" ∧ (parseMethodDescriptor yX0_hedges.desc).map (fun d => d.parameters.length) = some 0 := by decide +kernel
abbrev rmX0_hedgeOf : Room := { frames := 1, cells := 0, slots := 0, locals := 21 }
theorem inX0_hedgeOf_X0 : ∀ w ∈ wsX00, w ∈ wsX0_hedgeOf := fun _ h => List.mem_cons_of_mem _ (List.mem_append_right _ h)
set_option maxHeartbeats 4000000 in
set_option maxRecDepth 100000 in
theorem mtX0_hedgeOf (l : Launch) (D : va_G) (cI cZ cQ : ClassId) (oL : Nat) (aL : Nat → Nat) (L : Bk) (p0 : Int32) (p1 : Int32) (out : Int32) (hf : fX0_hedgeOf L p0 p1 = some out) : Met l yX0_hedgeOf wsX0_hedgeOf rmX0_hedgeOf (RoP D cI cZ cQ [.ref oL, .int p0, .int p1] (wL cI oL aL L)) (vp_Si (fun r' => r' = out)) 0 0 (fun _ => False) := by
  refine metRi (ty := .int) (cc := cX0_hedgeOf) (maxL := 5) (by decide) rfl (Nat.le_of_ble_eq_true rfl) ?_
  intro p e s m args below meth c Q CF hK hP hRet ls hl
  obtain ⟨hx, hb, hml, hown, hts⟩ := id CF
  have hl : lv_has ls 5 [(0, .ref oL), (1, .int p0), (2, .int p1)] := hl
  unfold fX0_hedgeOf at hf
  refine lv_iload_n (pc := 0) hx hb dX0_hedgeOf_0 rfl (lv_at hl 1 rfl) ?_
  refine lv_iload_n (pc := 1) hx hb dX0_hedgeOf_1 rfl (lv_at hl 2 rfl) ?_
  refine va_mmin (pc := 2) hx hb (hml.trans hl.1.symm) hown (hts (.methodLink RX0 43 Lib.Math.min.name) (by decide +kernel)) (hts (.static Lib.Math.min.name) (by decide +kernel)) (hts (.initialized "java/lang/Math") (by decide +kernel)) (hts (.code Lib.Math.min.name Lib.Math.min.code 2 (some .int)) (by decide +kernel)) (Nat.le_of_ble_eq_true rfl) (Nat.le_of_ble_eq_true rfl) (Nat.zero_le _) (Nat.zero_le _) dX0_hedgeOf_2 ?_
  refine lv_istore_n (pc := 5) (lv' := [(3, .int (if p1 < p0 then p1 else p0)), (0, .ref oL), (1, .int p0), (2, .int p1)]) hx hb dX0_hedgeOf_5 rfl hl (by decide) rfl (fun ls hl => ?_)
  refine lv_iload_n (pc := 6) hx hb dX0_hedgeOf_6 rfl (lv_at hl 2 rfl) ?_
  refine lv_iload_n (pc := 7) hx hb dX0_hedgeOf_7 rfl (lv_at hl 3 rfl) ?_
  refine va_mmax (pc := 8) hx hb (hml.trans hl.1.symm) hown (hts (.methodLink RX0 49 Lib.Math.max.name) (by decide +kernel)) (hts (.static Lib.Math.max.name) (by decide +kernel)) (hts (.initialized "java/lang/Math") (by decide +kernel)) (hts (.code Lib.Math.max.name Lib.Math.max.code 2 (some .int)) (by decide +kernel)) (Nat.le_of_ble_eq_true rfl) (Nat.le_of_ble_eq_true rfl) (Nat.zero_le _) (Nat.zero_le _) dX0_hedgeOf_8 ?_
  refine lv_istore (pc := 11) (lv' := [(4, .int (if p0 < p1 then p1 else p0)), (3, .int (if p1 < p0 then p1 else p0)), (0, .ref oL), (1, .int p0), (2, .int p1)]) hx hb dX0_hedgeOf_11 hl (by decide) rfl (fun ls hl => ?_)
  refine lv_iload_n (pc := 13) hx hb dX0_hedgeOf_13 rfl (lv_at hl 1 rfl) ?_
  refine lv_iconst (pc := 14) (v := 2) hx hb dX0_hedgeOf_14 (by decide) ?_
  refine lv_aload_n (pc := 15) hx hb dX0_hedgeOf_15 rfl (lv_at hl 2 rfl) ?_
  refine va_get (pc := 16) (D := D) (ci := 0) (v := .int (L 0 0)) (C := RX0) (T := TX0) (N := 8) hx hb hts inX0_hedgeOf_X0 hown hK.1 hP 0 rfl rfl 0 (by decide) (hts (.fieldLink RX0 9 "HedgeHoles$Land" "fields" "I") (by decide +kernel)) (fun _ h9 => h9) rfl dX0_hedgeOf_16 ?_
  refine lv_imul (pc := 19) hx hb dX0_hedgeOf_19 ?_
  refine lv_iload_n (pc := 20) hx hb dX0_hedgeOf_20 rfl (lv_at hl 1 rfl) ?_
  refine lv_isub (pc := 21) hx hb dX0_hedgeOf_21 ?_
  refine lv_iconst (pc := 22) (v := 1) hx hb dX0_hedgeOf_22 (by decide) ?_
  refine lv_isub (pc := 23) hx hb dX0_hedgeOf_23 ?_
  refine lv_imul (pc := 24) hx hb dX0_hedgeOf_24 ?_
  refine lv_iconst (pc := 25) (v := 2) hx hb dX0_hedgeOf_25 (by decide) ?_
  refine lv_idiv (pc := 26) hx hb dX0_hedgeOf_26 (by decide) ?_
  refine lv_iload (pc := 27) hx hb dX0_hedgeOf_27 (lv_at hl 0 rfl) ?_
  refine lv_iadd (pc := 29) hx hb dX0_hedgeOf_29 ?_
  refine lv_iload_n (pc := 30) hx hb dX0_hedgeOf_30 rfl (lv_at hl 1 rfl) ?_
  refine lv_isub (pc := 31) hx hb dX0_hedgeOf_31 ?_
  refine lv_iconst (pc := 32) (v := 1) hx hb dX0_hedgeOf_32 (by decide) ?_
  refine lv_isub (pc := 33) hx hb dX0_hedgeOf_33 ?_
  obtain rfl := Option.some.inj hf
  exact hRet 34 ls (vp_nar_int _) dX0_hedgeOf_34
theorem hdX0_hedgeOf : yX0_hedgeOf.cls ≠ "java/lang/invoke/MethodHandle" ∧ yX0_hedgeOf.cls ≠ "java/lang/invoke/VarHandle" ∧ (parseMethodDescriptor yX0_hedgeOf.desc).map (fun d => d.parameters.length) = some 2 := by decide +kernel
abbrev rmX0_thickOf : Room := { frames := 1, cells := 0, slots := 0, locals := 21 }
theorem inX0_thickOf_X0 : ∀ w ∈ wsX00, w ∈ wsX0_thickOf := fun _ h => List.mem_cons_of_mem _ (List.mem_append_right _ h)
set_option maxHeartbeats 4000000 in
set_option maxRecDepth 100000 in
theorem mtX0_thickOf (l : Launch) (D : va_G) (cI cZ cQ : ClassId) (oL : Nat) (aL : Nat → Nat) (L : Bk) (p0 : Int32) (out : Int32) (hf : fX0_thickOf L p0 = some out) : Met l yX0_thickOf wsX0_thickOf rmX0_thickOf (RoP D cI cZ cQ [.ref oL, .int p0] (wL cI oL aL L)) (vp_Si (fun r' => r' = out)) 0 0 (fun _ => False) := by
  refine metRi (ty := .int) (cc := cX0_thickOf) (maxL := 2) (by decide) rfl (Nat.le_of_ble_eq_true rfl) ?_
  intro p e s m args below meth c Q CF hK hP hRet ls hl
  obtain ⟨hx, hb, hml, hown, hts⟩ := id CF
  have hl : lv_has ls 2 [(0, .ref oL), (1, .int p0)] := hl
  unfold fX0_thickOf at hf
  refine lv_aload_n (pc := 0) hx hb dX0_thickOf_0 rfl (lv_at hl 0 rfl) ?_
  refine va_get (pc := 1) (D := D) (ci := 0) (v := .ref (aL 4)) (C := RX0) (T := TX0) (N := 8) hx hb hts inX0_thickOf_X0 hown hK.1 hP 0 rfl rfl 4 (by decide) (hts (.fieldLink RX0 25 "HedgeHoles$Land" "kind" "[I") (by decide +kernel)) (fun _ h9 => h9) rfl dX0_thickOf_1 ?_
  refine lv_iload_n (pc := 4) hx hb dX0_thickOf_4 rfl (lv_at hl 1 rfl) ?_
  obtain ⟨h1, hf⟩ := gI_e hf
  refine va_iald (pc := 5) (f := L 4) (n := 5) hx hb hK.1 hP 2 0 rfl rfl h1 dX0_thickOf_5 ?_
  refine lv_aload_n (pc := 6) hx hb dX0_thickOf_6 rfl (lv_at hl 0 rfl) ?_
  refine va_get (pc := 7) (D := D) (ci := 0) (v := .ref (aL 5)) (C := RX0) (T := TX0) (N := 8) hx hb hts inX0_thickOf_X0 hown hK.1 hP 0 rfl rfl 5 (by decide) (hts (.fieldLink RX0 28 "HedgeHoles$Land" "girth" "[I") (by decide +kernel)) (fun _ h9 => h9) rfl dX0_thickOf_7 ?_
  refine lv_iload_n (pc := 10) hx hb dX0_thickOf_10 rfl (lv_at hl 1 rfl) ?_
  refine va_iald (pc := 11) (f := L 5) (n := 5) hx hb hK.1 hP 3 0 rfl rfl h1 dX0_thickOf_11 ?_
  obtain ⟨v2, h3, hf⟩ := bd hf
  refine roNi (pc := 12) (As := [.int (L 4 p0.toNatClampNeg), .int (L 5 p0.toNatClampNeg)]) (rest := []) CF (mtX3_thickness l D cI cZ cQ (L 4 p0.toNatClampNeg) (L 5 p0.toNatClampNeg) v2 h3) (va_cnB 2 hts gX0_thickOf_X3_thickness_n52 rfl rfl rfl hK.2.2.1 (hts (.initialized RX3) (by decide +kernel)) hdX3_thickness ⟨Nat.le_of_ble_eq_true rfl, Nat.le_of_ble_eq_true rfl⟩) (hts (.static yX3_thickness) (by decide +kernel)) hK P0 rfl hl.1 rfl (Nat.le_of_ble_eq_true rfl) dX0_thickOf_12 ?_
  obtain rfl := Option.some.inj hf
  exact hRet 15 ls (vp_nar_int _) dX0_thickOf_15
theorem hdX0_thickOf : yX0_thickOf.cls ≠ "java/lang/invoke/MethodHandle" ∧ yX0_thickOf.cls ≠ "java/lang/invoke/VarHandle" ∧ (parseMethodDescriptor yX0_thickOf.desc).map (fun d => d.parameters.length) = some 1 := by decide +kernel
abbrev rmX0_letsBetween : Room := { frames := 2, cells := 0, slots := 0, locals := 45 }
theorem inX0_letsBetween_X0 : ∀ w ∈ wsX00, w ∈ wsX0_letsBetween := fun _ h => List.mem_cons_of_mem _ (List.mem_append_right _ h)
set_option maxHeartbeats 4000000 in
set_option maxRecDepth 100000 in
theorem mtX0_letsBetween (l : Launch) (D : va_G) (cI cZ cQ : ClassId) (oL : Nat) (aL : Nat → Nat) (L : Bk) (p0 : Int32) (p1 : Int32) (p2 : Int32) (out : Int32) (hf : fX0_letsBetween L p0 p1 p2 = some out) : Met l yX0_letsBetween wsX0_letsBetween rmX0_letsBetween (RoP D cI cZ cQ [.ref oL, .int p0, .int p1, .int p2] (wL cI oL aL L)) (vp_Si (fun r' => r' = out)) 0 0 (fun _ => False) := by
  refine metRi (ty := .boolean) (cc := cX0_letsBetween) (maxL := 4) (by decide) rfl (Nat.le_of_ble_eq_true rfl) ?_
  intro p e s m args below meth c Q CF hK hP hRet ls hl
  obtain ⟨hx, hb, hml, hown, hts⟩ := id CF
  have hl : lv_has ls 4 [(0, .ref oL), (1, .int p0), (2, .int p1), (3, .int p2)] := hl
  unfold fX0_letsBetween at hf
  refine lv_iload_n (pc := 0) hx hb dX0_letsBetween_0 rfl (lv_at hl 1 rfl) ?_
  refine lv_iload_n (pc := 1) hx hb dX0_letsBetween_1 rfl (lv_at hl 2 rfl) ?_
  refine lv_icmp_eq (pc := 2) (tgt := 27) hx hb dX0_letsBetween_2 (by decide) (fun c1 => ?_) (fun c1 => ?_)
  · have hf := iT c1 hf
    refine lv_iconst (pc := 27) (v := 0) hx hb dX0_letsBetween_27 (by decide) ?_
    obtain rfl := Option.some.inj hf
    exact hRet 28 ls (nzB (Or.inl rfl)) dX0_letsBetween_28
  · have hf := iF c1 hf
    refine lv_aload_n (pc := 5) hx hb dX0_letsBetween_5 rfl (lv_at hl 0 rfl) ?_
    refine va_get (pc := 6) (D := D) (ci := 0) (v := .ref (aL 3)) (C := RX0) (T := TX0) (N := 8) hx hb hts inX0_letsBetween_X0 hown hK.1 hP 0 rfl rfl 3 (by decide) (hts (.fieldLink RX0 21 "HedgeHoles$Land" "width" "[I") (by decide +kernel)) (fun _ h9 => h9) rfl dX0_letsBetween_6 ?_
    refine lv_aload_n (pc := 9) hx hb dX0_letsBetween_9 rfl (lv_at hl 0 rfl) ?_
    refine lv_iload_n (pc := 10) hx hb dX0_letsBetween_10 rfl (lv_at hl 1 rfl) ?_
    refine lv_iload_n (pc := 11) hx hb dX0_letsBetween_11 rfl (lv_at hl 2 rfl) ?_
    obtain ⟨v2, h3, hf⟩ := bd hf
    refine roVi (pc := 12) (As := [.int p0, .int p1]) (rest := [.ref (aL 3)]) CF (mtX0_hedgeOf l D cI cZ cQ oL aL L p0 p1 v2 h3) (cwV 2 hts gX0_letsBetween_X0_hedgeOf rfl rfl rfl ⟨rfl, hdX0_hedgeOf⟩ ⟨Nat.le_of_ble_eq_true rfl, Nat.le_of_ble_eq_true rfl⟩) hK hP rfl rfl rfl rfl hl.1 rfl (Nat.le_of_ble_eq_true rfl) dX0_letsBetween_12 ?_
    obtain ⟨h4, hf⟩ := gI_e hf
    refine va_iald (pc := 15) (f := L 3) (n := 10) hx hb hK.1 hP 1 0 rfl rfl h4 dX0_letsBetween_15 ?_
    refine lv_iload_n (pc := 16) hx hb dX0_letsBetween_16 rfl (lv_at hl 3 rfl) ?_
    obtain ⟨v5, h6, hf⟩ := bd hf
    refine roNi (pc := 17) (As := [.int (L 3 v2.toNatClampNeg), .int p2]) (rest := []) CF (mtX3_lets l D cI cZ cQ (L 3 v2.toNatClampNeg) p2 v5 h6) (va_cnB 2 hts gX0_letsBetween_X3_lets_n58 rfl rfl rfl hK.2.2.2.1 (hts (.initialized RX3) (by decide +kernel)) hdX3_lets ⟨Nat.le_of_ble_eq_true rfl, Nat.le_of_ble_eq_true rfl⟩) (hts (.static yX3_lets) (by decide +kernel)) hK P0 rfl hl.1 rfl (Nat.le_of_ble_eq_true rfl) dX0_letsBetween_17 ?_
    refine lv_if_eq (pc := 20) (tgt := 27) hx hb dX0_letsBetween_20 (by decide) (fun c7 => ?_) (fun c7 => ?_)
    · have hf := iT c7 hf
      refine lv_iconst (pc := 27) (v := 0) hx hb dX0_letsBetween_27 (by decide) ?_
      obtain rfl := Option.some.inj hf
      exact hRet 28 ls (nzB (Or.inl rfl)) dX0_letsBetween_28
    · have hf := iF c7 hf
      refine lv_iconst (pc := 23) (v := 1) hx hb dX0_letsBetween_23 (by decide) ?_
      refine lv_goto (pc := 24) (tgt := 28) hx hb dX0_letsBetween_24 (by decide) ?_
      obtain rfl := Option.some.inj hf
      exact hRet 28 ls (nzB (Or.inr rfl)) dX0_letsBetween_28
theorem hdX0_letsBetween : yX0_letsBetween.cls ≠ "java/lang/invoke/MethodHandle" ∧ yX0_letsBetween.cls ≠ "java/lang/invoke/VarHandle" ∧ (parseMethodDescriptor yX0_letsBetween.desc).map (fun d => d.parameters.length) = some 3 := by decide +kernel
abbrev rmX0_readsGoer : Room := { frames := 1, cells := 0, slots := 0, locals := 22 }
theorem inX0_readsGoer_X0 : ∀ w ∈ wsX00, w ∈ wsX0_readsGoer := fun _ h => List.mem_cons_of_mem _ (List.mem_append_right _ h)
set_option maxHeartbeats 4000000 in
set_option maxRecDepth 100000 in
theorem mtX0_readsGoer (l : Launch) (D : va_G) (cI cZ cQ : ClassId) (oL : Nat) (aL : Nat → Nat) (L : Bk) (p0 : Int32) (p1 : Int32) (p2 : Int32) (sz : Nat) (out : (Int32 × Bk)) (hf : fX0_readsGoer L p0 p1 p2 = some out) : Met l yX0_readsGoer wsX0_readsGoer rmX0_readsGoer (WrP D cI cZ cQ [.ref oL, .int p0, .int p1, .int p2] (wL cI oL aL L) sz) (WrQi D out.1 (wL cI oL aL L) (wL cI oL aL out.2) sz) 0 0 (va_A (wL cI oL aL L) sz) := by
  refine metWi (ty := .boolean) (cc := cX0_readsGoer) (maxL := 4) (by decide) rfl (Nat.le_of_ble_eq_true rfl) ?_
  intro p e s m args below meth c Q A CF hK hP hD hA hRet ls hl
  obtain ⟨hx, hb, hml, hown, hts⟩ := id CF
  have hS : va_S A s.heap s.heap [] := va_S.rf
  have hl : lv_has ls 4 [(0, .ref oL), (1, .int p0), (2, .int p1), (3, .int p2)] := hl
  unfold fX0_readsGoer at hf
  refine lv_iload_n (pc := 0) hx hb dX0_readsGoer_0 rfl (lv_at hl 2 rfl) ?_
  by_cases c1 : p1 = 0
  · have hf := iT c1 hf
    refine lv_tableIn (pc := 1) (tgt := 28) (off := 27) hx hb dX0_readsGoer_1 (by rw [c1]; decide) (by rw [c1]; decide) (by rw [c1]; rfl) (by decide) ?_
    refine lv_iload_n (pc := 28) hx hb dX0_readsGoer_28 rfl (lv_at hl 3 rfl) ?_
    refine lv_bipush (pc := 29) (v := 59) hx hb dX0_readsGoer_29 (by decide) ?_
    refine lv_icmp_ne (pc := 31) (tgt := 38) hx hb dX0_readsGoer_31 (by decide) (fun c2 => ?_) (fun c2 => ?_)
    · have hf := iF c2 hf
      refine lv_iconst (pc := 38) (v := 0) hx hb dX0_readsGoer_38 (by decide) ?_
      obtain rfl := Option.some.inj hf
      exact hRet 39 ls s.heap [] (nzB (Or.inl rfl)) dX0_readsGoer_39 hP hS
    · have hf := iT c2 hf
      refine lv_iconst (pc := 34) (v := 1) hx hb dX0_readsGoer_34 (by decide) ?_
      refine lv_goto (pc := 35) (tgt := 39) hx hb dX0_readsGoer_35 (by decide) ?_
      obtain rfl := Option.some.inj hf
      exact hRet 39 ls s.heap [] (nzB (Or.inr rfl)) dX0_readsGoer_39 hP hS
  · have hf := iF c1 hf
    by_cases c3 : p1 = 1
    · have hf := iT c3 hf
      refine lv_tableIn (pc := 1) (tgt := 40) (off := 39) hx hb dX0_readsGoer_1 (by rw [c3]; decide) (by rw [c3]; decide) (by rw [c3]; rfl) (by decide) ?_
      refine lv_aload_n (pc := 40) hx hb dX0_readsGoer_40 rfl (lv_at hl 0 rfl) ?_
      refine va_get (pc := 41) (D := D) (ci := 0) (v := .ref (aL 4)) (C := RX0) (T := TX0) (N := 8) hx hb hts inX0_readsGoer_X0 hown hK.1 hP 0 rfl rfl 4 (by decide) (hts (.fieldLink RX0 25 "HedgeHoles$Land" "kind" "[I") (by decide +kernel)) (fun _ h9 => h9) rfl dX0_readsGoer_41 ?_
      refine lv_iload_n (pc := 44) hx hb dX0_readsGoer_44 rfl (lv_at hl 1 rfl) ?_
      refine lv_iload_n (pc := 45) hx hb dX0_readsGoer_45 rfl (lv_at hl 3 rfl) ?_
      obtain ⟨v4, h5, hf⟩ := bd hf
      refine roSi (pc := 46) (As := [.int p2]) (rest := [.int p0, .ref (aL 4)]) CF (mtX0_kindOf l D cI cZ cQ p2 v4 h5) (va_cwS 1 hts gX0_readsGoer_X0_kindOf rfl rfl rfl hdX0_kindOf ⟨Nat.le_of_ble_eq_true rfl, Nat.le_of_ble_eq_true rfl⟩) hK P0 rfl hl.1 rfl (Nat.le_of_ble_eq_true rfl) dX0_readsGoer_46 ?_
      obtain ⟨h6, hf⟩ := gI_e hf
      refine va_iast (pc := 49) (f := L 4) (n := 5) hx hb hK.1 hP hD hS 2 0 rfl rfl h6 dX0_readsGoer_49 (fun H locs hP hD hS => ?_)
      have hP : va_P D vwCl (wL cI oL aL (sB L 4 p0.toNatClampNeg v4)) H := hP
      have hD : va_D A (wL cI oL aL (sB L 4 p0.toNatClampNeg v4)) := hD
      obtain ⟨L_7, h8, hf⟩ := bd hf
      have h8 := Option.some.inj h8
      rw [h8] at hP hD
      refine lv_aload_n (pc := 50) hx hb dX0_readsGoer_50 rfl (lv_at hl 0 rfl) ?_
      refine va_get (pc := 51) (D := D) (ci := 0) (v := .ref (aL 4)) (C := RX0) (T := TX0) (N := 8) hx hb hts inX0_readsGoer_X0 hown hK.1 hP 0 rfl rfl 4 (by decide) (hts (.fieldLink RX0 25 "HedgeHoles$Land" "kind" "[I") (by decide +kernel)) (fun _ h9 => h9) rfl dX0_readsGoer_51 ?_
      refine lv_iload_n (pc := 54) hx hb dX0_readsGoer_54 rfl (lv_at hl 1 rfl) ?_
      refine va_iald (pc := 55) (f := L_7 4) (n := 5) hx hb hK.1 hP 2 0 rfl rfl h6 dX0_readsGoer_55 ?_
      refine lv_bipush (pc := 56) (v := (-9)) hx hb dX0_readsGoer_56 (by decide) ?_
      refine lv_icmp_eq (pc := 58) (tgt := 65) hx hb dX0_readsGoer_58 (by decide) (fun c9 => ?_) (fun c9 => ?_)
      · have hf := iT c9 hf
        refine lv_iconst (pc := 65) (v := 0) hx hb dX0_readsGoer_65 (by decide) ?_
        obtain rfl := Option.some.inj hf
        exact hRet 66 ls H locs (nzB (Or.inl rfl)) dX0_readsGoer_66 hP hS
      · have hf := iF c9 hf
        refine lv_iconst (pc := 61) (v := 1) hx hb dX0_readsGoer_61 (by decide) ?_
        refine lv_goto (pc := 62) (tgt := 66) hx hb dX0_readsGoer_62 (by decide) ?_
        obtain rfl := Option.some.inj hf
        exact hRet 66 ls H locs (nzB (Or.inr rfl)) dX0_readsGoer_66 hP hS
    · have hf := iF c3 hf
      by_cases c10 : p1 = 2
      · have hf := iT c10 hf
        refine lv_tableIn (pc := 1) (tgt := 67) (off := 66) hx hb dX0_readsGoer_1 (by rw [c10]; decide) (by rw [c10]; decide) (by rw [c10]; rfl) (by decide) ?_
        refine lv_aload_n (pc := 67) hx hb dX0_readsGoer_67 rfl (lv_at hl 0 rfl) ?_
        refine va_get (pc := 68) (D := D) (ci := 0) (v := .ref (aL 5)) (C := RX0) (T := TX0) (N := 8) hx hb hts inX0_readsGoer_X0 hown hK.1 hP 0 rfl rfl 5 (by decide) (hts (.fieldLink RX0 28 "HedgeHoles$Land" "girth" "[I") (by decide +kernel)) (fun _ h9 => h9) rfl dX0_readsGoer_68 ?_
        refine lv_iload_n (pc := 71) hx hb dX0_readsGoer_71 rfl (lv_at hl 1 rfl) ?_
        refine lv_iload_n (pc := 72) hx hb dX0_readsGoer_72 rfl (lv_at hl 3 rfl) ?_
        refine lv_iconst (pc := 73) (v := 1) hx hb dX0_readsGoer_73 (by decide) ?_
        refine lv_bipush (pc := 74) (v := 9) hx hb dX0_readsGoer_74 (by decide) ?_
        obtain ⟨v11, h12, hf⟩ := bd hf
        refine roNi (pc := 76) (As := [.int p2, .int 1, .int 9]) (rest := [.int p0, .ref (aL 5)]) CF (mtX3_digit l D cI cZ cQ p2 1 9 v11 h12) (va_cnB 3 hts gX0_readsGoer_X3_digit_n62 rfl rfl rfl hK.2.1 (hts (.initialized RX3) (by decide +kernel)) hdX3_digit ⟨Nat.le_of_ble_eq_true rfl, Nat.le_of_ble_eq_true rfl⟩) (hts (.static yX3_digit) (by decide +kernel)) hK P0 rfl hl.1 rfl (Nat.le_of_ble_eq_true rfl) dX0_readsGoer_76 ?_
        obtain ⟨h13, hf⟩ := gI_e hf
        refine va_iast (pc := 79) (f := L 5) (n := 5) hx hb hK.1 hP hD hS 3 0 rfl rfl h13 dX0_readsGoer_79 (fun H locs hP hD hS => ?_)
        have hP : va_P D vwCl (wL cI oL aL (sB L 5 p0.toNatClampNeg v11)) H := hP
        have hD : va_D A (wL cI oL aL (sB L 5 p0.toNatClampNeg v11)) := hD
        obtain ⟨L_14, h15, hf⟩ := bd hf
        have h15 := Option.some.inj h15
        rw [h15] at hP hD
        refine lv_aload_n (pc := 80) hx hb dX0_readsGoer_80 rfl (lv_at hl 0 rfl) ?_
        refine va_get (pc := 81) (D := D) (ci := 0) (v := .ref (aL 5)) (C := RX0) (T := TX0) (N := 8) hx hb hts inX0_readsGoer_X0 hown hK.1 hP 0 rfl rfl 5 (by decide) (hts (.fieldLink RX0 28 "HedgeHoles$Land" "girth" "[I") (by decide +kernel)) (fun _ h9 => h9) rfl dX0_readsGoer_81 ?_
        refine lv_iload_n (pc := 84) hx hb dX0_readsGoer_84 rfl (lv_at hl 1 rfl) ?_
        refine va_iald (pc := 85) (f := L_14 5) (n := 5) hx hb hK.1 hP 3 0 rfl rfl h13 dX0_readsGoer_85 ?_
        refine lv_bipush (pc := 86) (v := (-9)) hx hb dX0_readsGoer_86 (by decide) ?_
        refine lv_icmp_eq (pc := 88) (tgt := 95) hx hb dX0_readsGoer_88 (by decide) (fun c16 => ?_) (fun c16 => ?_)
        · have hf := iT c16 hf
          refine lv_iconst (pc := 95) (v := 0) hx hb dX0_readsGoer_95 (by decide) ?_
          obtain rfl := Option.some.inj hf
          exact hRet 96 ls H locs (nzB (Or.inl rfl)) dX0_readsGoer_96 hP hS
        · have hf := iF c16 hf
          refine lv_iconst (pc := 91) (v := 1) hx hb dX0_readsGoer_91 (by decide) ?_
          refine lv_goto (pc := 92) (tgt := 96) hx hb dX0_readsGoer_92 (by decide) ?_
          obtain rfl := Option.some.inj hf
          exact hRet 96 ls H locs (nzB (Or.inr rfl)) dX0_readsGoer_96 hP hS
      · have hf := iF c10 hf
        refine lv_tableOut (pc := 1) (tgt := 97) hx hb dX0_readsGoer_1 (by have e0 := lv_neT (a := 0) c1 rfl; have e1 := lv_neT (a := 1) c3 rfl; have e2 := lv_neT (a := 2) c10 rfl; omega) (by decide) ?_
        refine lv_aload_n (pc := 97) hx hb dX0_readsGoer_97 rfl (lv_at hl 0 rfl) ?_
        refine va_get (pc := 98) (D := D) (ci := 0) (v := .ref (aL 6)) (C := RX0) (T := TX0) (N := 8) hx hb hts inX0_readsGoer_X0 hown hK.1 hP 0 rfl rfl 6 (by decide) (hts (.fieldLink RX0 31 "HedgeHoles$Land" "place" "[I") (by decide +kernel)) (fun _ h9 => h9) rfl dX0_readsGoer_98 ?_
        refine lv_iload_n (pc := 101) hx hb dX0_readsGoer_101 rfl (lv_at hl 1 rfl) ?_
        refine lv_iload_n (pc := 102) hx hb dX0_readsGoer_102 rfl (lv_at hl 3 rfl) ?_
        refine lv_iconst (pc := 103) (v := 0) hx hb dX0_readsGoer_103 (by decide) ?_
        refine lv_aload_n (pc := 104) hx hb dX0_readsGoer_104 rfl (lv_at hl 0 rfl) ?_
        refine va_get (pc := 105) (D := D) (ci := 0) (v := .int (L 0 0)) (C := RX0) (T := TX0) (N := 8) hx hb hts inX0_readsGoer_X0 hown hK.1 hP 0 rfl rfl 0 (by decide) (hts (.fieldLink RX0 9 "HedgeHoles$Land" "fields" "I") (by decide +kernel)) (fun _ h9 => h9) rfl dX0_readsGoer_105 ?_
        refine lv_iconst (pc := 108) (v := 1) hx hb dX0_readsGoer_108 (by decide) ?_
        refine lv_isub (pc := 109) hx hb dX0_readsGoer_109 ?_
        obtain ⟨v17, h18, hf⟩ := bd hf
        refine roNi (pc := 110) (As := [.int p2, .int 0, .int ((L 0 0) - 1)]) (rest := [.int p0, .ref (aL 6)]) CF (mtX3_digit l D cI cZ cQ p2 0 ((L 0 0) - 1) v17 h18) (va_cnB 3 hts gX0_readsGoer_X3_digit_n62 rfl rfl rfl hK.2.1 (hts (.initialized RX3) (by decide +kernel)) hdX3_digit ⟨Nat.le_of_ble_eq_true rfl, Nat.le_of_ble_eq_true rfl⟩) (hts (.static yX3_digit) (by decide +kernel)) hK P0 rfl hl.1 rfl (Nat.le_of_ble_eq_true rfl) dX0_readsGoer_110 ?_
        obtain ⟨h19, hf⟩ := gI_e hf
        refine va_iast (pc := 113) (f := L 6) (n := 5) hx hb hK.1 hP hD hS 4 0 rfl rfl h19 dX0_readsGoer_113 (fun H locs hP hD hS => ?_)
        have hP : va_P D vwCl (wL cI oL aL (sB L 6 p0.toNatClampNeg v17)) H := hP
        have hD : va_D A (wL cI oL aL (sB L 6 p0.toNatClampNeg v17)) := hD
        obtain ⟨L_20, h21, hf⟩ := bd hf
        have h21 := Option.some.inj h21
        rw [h21] at hP hD
        refine lv_aload_n (pc := 114) hx hb dX0_readsGoer_114 rfl (lv_at hl 0 rfl) ?_
        refine lv_iload_n (pc := 115) hx hb dX0_readsGoer_115 rfl (lv_at hl 1 rfl) ?_
        refine lv_iconst (pc := 116) (v := 1) hx hb dX0_readsGoer_116 (by decide) ?_
        refine lv_iadd (pc := 117) hx hb dX0_readsGoer_117 ?_
        refine va_put (pc := 118) (D := D) (ci := 0) (v := .int (p0 + 1)) (ty := .int) (C := RX0) (T := TX0) (N := 8) hx hb hts inX0_readsGoer_X0 tyX0 tyX0_ok nmX0 hown hK.1 hP hD hS 0 rfl rfl 1 (by decide) (hts (.fieldLink RX0 15 "HedgeHoles$Land" "goers" "I") (by decide +kernel)) (fun _ h9 => h9) rfl (by decide +kernel) (vp_nar_int _) rfl (Nat.le_of_ble_eq_true rfl) dX0_readsGoer_118 (fun H locs hP hD hS => ?_)
        have hP : va_P D vwCl (wL cI oL aL (sB L_20 1 0 (p0 + 1))) H := hP
        have hD : va_D A (wL cI oL aL (sB L_20 1 0 (p0 + 1))) := hD
        obtain ⟨L_22, h23, hf⟩ := bd hf
        have h23 := Option.some.inj h23
        rw [h23] at hP hD
        refine lv_aload_n (pc := 121) hx hb dX0_readsGoer_121 rfl (lv_at hl 0 rfl) ?_
        refine va_get (pc := 122) (D := D) (ci := 0) (v := .ref (aL 6)) (C := RX0) (T := TX0) (N := 8) hx hb hts inX0_readsGoer_X0 hown hK.1 hP 0 rfl rfl 6 (by decide) (hts (.fieldLink RX0 31 "HedgeHoles$Land" "place" "[I") (by decide +kernel)) (fun _ h9 => h9) rfl dX0_readsGoer_122 ?_
        refine lv_iload_n (pc := 125) hx hb dX0_readsGoer_125 rfl (lv_at hl 1 rfl) ?_
        refine va_iald (pc := 126) (f := L_22 6) (n := 5) hx hb hK.1 hP 4 0 rfl rfl h19 dX0_readsGoer_126 ?_
        refine lv_bipush (pc := 127) (v := (-9)) hx hb dX0_readsGoer_127 (by decide) ?_
        refine lv_icmp_eq (pc := 129) (tgt := 136) hx hb dX0_readsGoer_129 (by decide) (fun c24 => ?_) (fun c24 => ?_)
        · have hf := iT c24 hf
          refine lv_iconst (pc := 136) (v := 0) hx hb dX0_readsGoer_136 (by decide) ?_
          obtain rfl := Option.some.inj hf
          exact hRet 137 ls H locs (nzB (Or.inl rfl)) dX0_readsGoer_137 hP hS
        · have hf := iF c24 hf
          refine lv_iconst (pc := 132) (v := 1) hx hb dX0_readsGoer_132 (by decide) ?_
          refine lv_goto (pc := 133) (tgt := 137) hx hb dX0_readsGoer_133 (by decide) ?_
          obtain rfl := Option.some.inj hf
          exact hRet 137 ls H locs (nzB (Or.inr rfl)) dX0_readsGoer_137 hP hS
theorem hdX0_readsGoer : yX0_readsGoer.cls ≠ "java/lang/invoke/MethodHandle" ∧ yX0_readsGoer.cls ≠ "java/lang/invoke/VarHandle" ∧ (parseMethodDescriptor yX0_readsGoer.desc).map (fun d => d.parameters.length) = some 3 := by decide +kernel
abbrev rmX0_reads : Room := { frames := 2, cells := 0, slots := 0, locals := 45 }
theorem inX0_reads_X0 : ∀ w ∈ wsX00, w ∈ wsX0_reads := fun _ h => List.mem_cons_of_mem _ (List.mem_append_right _ h)
set_option maxHeartbeats 4000000 in
set_option maxRecDepth 100000 in
theorem mtX0_reads (l : Launch) (D : va_G) (cI cZ cQ : ClassId) (oL : Nat) (aL : Nat → Nat) (L : Bk) (p0 : Int32) (p1 : Int32) (sz : Nat) (out : (Int32 × Bk)) (hf : fX0_reads L p0 p1 = some out) : Met l yX0_reads wsX0_reads rmX0_reads (WrP D cI cZ cQ [.ref oL, .int p0, .int p1] (wL cI oL aL L) sz) (WrQi D out.1 (wL cI oL aL L) (wL cI oL aL out.2) sz) 0 0 (va_A (wL cI oL aL L) sz) := by
  refine metWi (ty := .boolean) (cc := cX0_reads) (maxL := 5) (by decide) rfl (Nat.le_of_ble_eq_true rfl) ?_
  intro p e s m args below meth c Q A CF hK hP hD hA hRet ls hl
  obtain ⟨hx, hb, hml, hown, hts⟩ := id CF
  have hS : va_S A s.heap s.heap [] := va_S.rf
  have hl : lv_has ls 5 [(0, .ref oL), (1, .int p0), (2, .int p1)] := hl
  unfold fX0_reads at hf
  refine lv_iload_n (pc := 0) hx hb dX0_reads_0 rfl (lv_at hl 1 rfl) ?_
  refine lv_if_ne (pc := 1) (tgt := 16) hx hb dX0_reads_1 (by decide) (fun c1 => ?_) (fun c1 => ?_)
  · have hf := iF c1 hf
    refine lv_iload_n (pc := 16) hx hb dX0_reads_16 rfl (lv_at hl 1 rfl) ?_
    refine lv_iconst (pc := 17) (v := 1) hx hb dX0_reads_17 (by decide) ?_
    refine lv_icmp_ne (pc := 18) (tgt := 55) hx hb dX0_reads_18 (by decide) (fun c2 => ?_) (fun c2 => ?_)
    · have hf := iF c2 hf
      refine lv_iload_n (pc := 55) hx hb dX0_reads_55 rfl (lv_at hl 1 rfl) ?_
      refine lv_iconst (pc := 56) (v := 2) hx hb dX0_reads_56 (by decide) ?_
      refine lv_isub (pc := 57) hx hb dX0_reads_57 ?_
      refine lv_istore_n (pc := 58) (lv' := [(3, .int (p0 - 2)), (0, .ref oL), (1, .int p0), (2, .int p1)]) hx hb dX0_reads_58 rfl hl (by decide) rfl (fun ls hl => ?_)
      refine lv_iload_n (pc := 59) hx hb dX0_reads_59 rfl (lv_at hl 0 rfl) ?_
      refine lv_aload_n (pc := 60) hx hb dX0_reads_60 rfl (lv_at hl 1 rfl) ?_
      obtain ⟨v3, h4, hf⟩ := bd hf
      refine roVi (pc := 61) (As := []) (rest := [.int (p0 - 2)]) CF (mtX0_hedges l D cI cZ cQ oL aL L v3 h4) (cwV 0 hts gX0_reads_X0_hedges rfl rfl rfl ⟨rfl, hdX0_hedges⟩ ⟨Nat.le_of_ble_eq_true rfl, Nat.le_of_ble_eq_true rfl⟩) hK hP rfl rfl rfl rfl hl.1 rfl (Nat.le_of_ble_eq_true rfl) dX0_reads_61 ?_
      refine lv_icmp_ge (pc := 64) (tgt := 97) hx hb dX0_reads_64 (by decide) (fun c5 => ?_) (fun c5 => ?_)
      · have hf := iT c5 hf
        refine lv_iload_n (pc := 97) hx hb dX0_reads_97 rfl (lv_at hl 0 rfl) ?_
        refine lv_aload_n (pc := 98) hx hb dX0_reads_98 rfl (lv_at hl 1 rfl) ?_
        obtain ⟨v6, h7, hf⟩ := bd hf
        refine roVi (pc := 99) (As := []) (rest := [.int (p0 - 2)]) CF (mtX0_hedges l D cI cZ cQ oL aL L v6 h7) (cwV 0 hts gX0_reads_X0_hedges rfl rfl rfl ⟨rfl, hdX0_hedges⟩ ⟨Nat.le_of_ble_eq_true rfl, Nat.le_of_ble_eq_true rfl⟩) hK hP rfl rfl rfl rfl hl.1 rfl (Nat.le_of_ble_eq_true rfl) dX0_reads_99 ?_
        refine lv_isub (pc := 102) hx hb dX0_reads_102 ?_
        refine lv_istore (pc := 103) (lv' := [(4, .int ((p0 - 2) - v6)), (3, .int (p0 - 2)), (0, .ref oL), (1, .int p0), (2, .int p1)]) hx hb dX0_reads_103 hl (by decide) rfl (fun ls hl => ?_)
        refine lv_iload (pc := 105) hx hb dX0_reads_105 (lv_at hl 0 rfl) ?_
        refine lv_bipush (pc := 107) (v := 20) hx hb dX0_reads_107 (by decide) ?_
        refine lv_icmp_ge (pc := 109) (tgt := 132) hx hb dX0_reads_109 (by decide) (fun c8 => ?_) (fun c8 => ?_)
        · have hf := iT c8 hf
          refine lv_iconst (pc := 132) (v := 0) hx hb dX0_reads_132 (by decide) ?_
          obtain rfl := Option.some.inj hf
          exact hRet 133 ls s.heap [] (nzB (Or.inl rfl)) dX0_reads_133 hP hS
        · have hf := iF c8 hf
          refine lv_aload_n (pc := 112) hx hb dX0_reads_112 rfl (lv_at hl 2 rfl) ?_
          refine lv_iload (pc := 113) hx hb dX0_reads_113 (lv_at hl 0 rfl) ?_
          refine lv_iconst (pc := 115) (v := 4) hx hb dX0_reads_115 (by decide) ?_
          refine lv_idiv (pc := 116) hx hb dX0_reads_116 (by decide) ?_
          refine lv_iload (pc := 117) hx hb dX0_reads_117 (lv_at hl 0 rfl) ?_
          refine lv_iconst (pc := 119) (v := 4) hx hb dX0_reads_119 (by decide) ?_
          refine lv_irem (pc := 120) hx hb dX0_reads_120 (by decide) ?_
          refine lv_iload_n (pc := 121) hx hb dX0_reads_121 rfl (lv_at hl 4 rfl) ?_
          obtain ⟨v9, h10, hf⟩ := bd hf
          refine wsVi (pc := 122) (As := [.int (((p0 - 2) - v6) / 4), .int (((p0 - 2) - v6) - ((p0 - 2) - v6) / 4 * 4), .int p1]) (rest := []) (w1 := wL cI oL aL v9.2) CF (mtX0_readsGoer l D cI cZ cQ oL aL L (((p0 - 2) - v6) / 4) (((p0 - 2) - v6) - ((p0 - 2) - v6) / 4 * 4) p1 s.heap.size v9 h10) (cwV 3 hts gX0_reads_X0_readsGoer rfl rfl rfl ⟨rfl, hdX0_readsGoer⟩ ⟨Nat.le_of_ble_eq_true rfl, Nat.le_of_ble_eq_true rfl⟩) hK hP hD hS hA rfl rfl rfl rfl rfl hl.1 rfl (Nat.le_of_ble_eq_true rfl) dX0_reads_122 (fun H locs hP hD hS => ?_)
          refine lv_if_eq (pc := 125) (tgt := 132) hx hb dX0_reads_125 (by decide) (fun c11 => ?_) (fun c11 => ?_)
          · have hf := iT c11 hf
            refine lv_iconst (pc := 132) (v := 0) hx hb dX0_reads_132 (by decide) ?_
            obtain rfl := Option.some.inj hf
            exact hRet 133 ls H locs (nzB (Or.inl rfl)) dX0_reads_133 hP hS
          · have hf := iF c11 hf
            refine lv_iconst (pc := 128) (v := 1) hx hb dX0_reads_128 (by decide) ?_
            refine lv_goto (pc := 129) (tgt := 133) hx hb dX0_reads_129 (by decide) ?_
            obtain rfl := Option.some.inj hf
            exact hRet 133 ls H locs (nzB (Or.inr rfl)) dX0_reads_133 hP hS
      · have hf := iF c5 hf
        refine lv_aload_n (pc := 67) hx hb dX0_reads_67 rfl (lv_at hl 1 rfl) ?_
        refine va_get (pc := 68) (D := D) (ci := 0) (v := .ref (aL 3)) (C := RX0) (T := TX0) (N := 8) hx hb hts inX0_reads_X0 hown hK.1 hP 0 rfl rfl 3 (by decide) (hts (.fieldLink RX0 21 "HedgeHoles$Land" "width" "[I") (by decide +kernel)) (fun _ h9 => h9) rfl dX0_reads_68 ?_
        refine lv_iload_n (pc := 71) hx hb dX0_reads_71 rfl (lv_at hl 0 rfl) ?_
        refine lv_iload_n (pc := 72) hx hb dX0_reads_72 rfl (lv_at hl 3 rfl) ?_
        refine lv_iconst (pc := 73) (v := 0) hx hb dX0_reads_73 (by decide) ?_
        refine lv_bipush (pc := 74) (v := 9) hx hb dX0_reads_74 (by decide) ?_
        obtain ⟨v12, h13, hf⟩ := bd hf
        refine roNi (pc := 76) (As := [.int p1, .int 0, .int 9]) (rest := [.int (p0 - 2), .ref (aL 3)]) CF (mtX3_digit l D cI cZ cQ p1 0 9 v12 h13) (va_cnB 3 hts gX0_reads_X3_digit_n62 rfl rfl rfl hK.2.1 (hts (.initialized RX3) (by decide +kernel)) hdX3_digit ⟨Nat.le_of_ble_eq_true rfl, Nat.le_of_ble_eq_true rfl⟩) (hts (.static yX3_digit) (by decide +kernel)) hK P0 rfl hl.1 rfl (Nat.le_of_ble_eq_true rfl) dX0_reads_76 ?_
        obtain ⟨h14, hf⟩ := gI_e hf
        refine va_iast (pc := 79) (f := L 3) (n := 10) hx hb hK.1 hP hD hS 1 0 rfl rfl h14 dX0_reads_79 (fun H locs hP hD hS => ?_)
        have hP : va_P D vwCl (wL cI oL aL (sB L 3 (p0 - 2).toNatClampNeg v12)) H := hP
        have hD : va_D A (wL cI oL aL (sB L 3 (p0 - 2).toNatClampNeg v12)) := hD
        obtain ⟨L_15, h16, hf⟩ := bd hf
        have h16 := Option.some.inj h16
        rw [h16] at hP hD
        refine lv_aload_n (pc := 80) hx hb dX0_reads_80 rfl (lv_at hl 1 rfl) ?_
        refine va_get (pc := 81) (D := D) (ci := 0) (v := .ref (aL 3)) (C := RX0) (T := TX0) (N := 8) hx hb hts inX0_reads_X0 hown hK.1 hP 0 rfl rfl 3 (by decide) (hts (.fieldLink RX0 21 "HedgeHoles$Land" "width" "[I") (by decide +kernel)) (fun _ h9 => h9) rfl dX0_reads_81 ?_
        refine lv_iload_n (pc := 84) hx hb dX0_reads_84 rfl (lv_at hl 0 rfl) ?_
        refine va_iald (pc := 85) (f := L_15 3) (n := 10) hx hb hK.1 hP 1 0 rfl rfl h14 dX0_reads_85 ?_
        refine lv_bipush (pc := 86) (v := (-9)) hx hb dX0_reads_86 (by decide) ?_
        refine lv_icmp_eq (pc := 88) (tgt := 95) hx hb dX0_reads_88 (by decide) (fun c17 => ?_) (fun c17 => ?_)
        · have hf := iT c17 hf
          refine lv_iconst (pc := 95) (v := 0) hx hb dX0_reads_95 (by decide) ?_
          obtain rfl := Option.some.inj hf
          exact hRet 96 ls H locs (nzB (Or.inl rfl)) dX0_reads_96 hP hS
        · have hf := iF c17 hf
          refine lv_iconst (pc := 91) (v := 1) hx hb dX0_reads_91 (by decide) ?_
          refine lv_goto (pc := 92) (tgt := 96) hx hb dX0_reads_92 (by decide) ?_
          obtain rfl := Option.some.inj hf
          exact hRet 96 ls H locs (nzB (Or.inr rfl)) dX0_reads_96 hP hS
    · have hf := iT c2 hf
      refine lv_iload_n (pc := 21) hx hb dX0_reads_21 rfl (lv_at hl 2 rfl) ?_
      refine lv_iconst (pc := 22) (v := 2) hx hb dX0_reads_22 (by decide) ?_
      refine lv_iconst (pc := 23) (v := 5) hx hb dX0_reads_23 (by decide) ?_
      obtain ⟨v18, h19, hf⟩ := bd hf
      refine roNi (pc := 24) (As := [.int p1, .int 2, .int 5]) (rest := []) CF (mtX3_digit l D cI cZ cQ p1 2 5 v18 h19) (va_cnB 3 hts gX0_reads_X3_digit_n62 rfl rfl rfl hK.2.1 (hts (.initialized RX3) (by decide +kernel)) hdX3_digit ⟨Nat.le_of_ble_eq_true rfl, Nat.le_of_ble_eq_true rfl⟩) (hts (.static yX3_digit) (by decide +kernel)) hK P0 rfl hl.1 rfl (Nat.le_of_ble_eq_true rfl) dX0_reads_24 ?_
      refine lv_istore_n (pc := 27) (lv' := [(3, .int v18), (0, .ref oL), (1, .int p0), (2, .int p1)]) hx hb dX0_reads_27 rfl hl (by decide) rfl (fun ls hl => ?_)
      refine lv_aload_n (pc := 28) hx hb dX0_reads_28 rfl (lv_at hl 1 rfl) ?_
      refine lv_iload_n (pc := 29) hx hb dX0_reads_29 rfl (lv_at hl 0 rfl) ?_
      refine lv_bipush (pc := 30) (v := (-9)) hx hb dX0_reads_30 (by decide) ?_
      obtain ⟨v20, hv, hf⟩ := bd hf
      have J21 : ∀ (ls : Array Slot), lv_has ls 5 [(0, .ref oL), (1, .int p0), (2, .int p1), (3, .int v18)] → W p l e rmX0_reads s m args below meth c s.heap [] 0 0 Q (F0 m 40 ls [.int v20, .ref oL]) := by
        intro ls hl
        refine va_put (pc := 40) (D := D) (ci := 0) (v := .int v20) (ty := .int) (C := RX0) (T := TX0) (N := 8) hx hb hts inX0_reads_X0 tyX0 tyX0_ok nmX0 hown hK.1 hP hD hS 0 rfl rfl 0 (by decide) (hts (.fieldLink RX0 9 "HedgeHoles$Land" "fields" "I") (by decide +kernel)) (fun _ h9 => h9) rfl (by decide +kernel) (vp_nar_int _) rfl (Nat.le_of_ble_eq_true rfl) dX0_reads_40 (fun H locs hP hD hS => ?_)
        have hP : va_P D vwCl (wL cI oL aL (sB L 0 0 v20)) H := hP
        have hD : va_D A (wL cI oL aL (sB L 0 0 v20)) := hD
        obtain ⟨L_22, h23, hf⟩ := bd hf
        have h23 := Option.some.inj h23
        rw [h23] at hP hD
        refine lv_iload_n (pc := 43) hx hb dX0_reads_43 rfl (lv_at hl 3 rfl) ?_
        refine lv_bipush (pc := 44) (v := (-9)) hx hb dX0_reads_44 (by decide) ?_
        refine lv_icmp_eq (pc := 46) (tgt := 53) hx hb dX0_reads_46 (by decide) (fun c24 => ?_) (fun c24 => ?_)
        · have hf := iT c24 hf
          refine lv_iconst (pc := 53) (v := 0) hx hb dX0_reads_53 (by decide) ?_
          obtain rfl := Option.some.inj hf
          exact hRet 54 ls H locs (nzB (Or.inl rfl)) dX0_reads_54 hP hS
        · have hf := iF c24 hf
          refine lv_iconst (pc := 49) (v := 1) hx hb dX0_reads_49 (by decide) ?_
          refine lv_goto (pc := 50) (tgt := 54) hx hb dX0_reads_50 (by decide) ?_
          obtain rfl := Option.some.inj hf
          exact hRet 54 ls H locs (nzB (Or.inr rfl)) dX0_reads_54 hP hS
      clear hf
      have hf := hv
      clear hv
      refine lv_icmp_ne (pc := 32) (tgt := 39) hx hb dX0_reads_32 (by decide) (fun c25 => ?_) (fun c25 => ?_)
      · have hf := iF c25 hf
        refine lv_iload_n (pc := 39) hx hb dX0_reads_39 rfl (lv_at hl 0 rfl) ?_
        obtain rfl := Option.some.inj hf
        exact J21 ls (lv_sub hl [1, 2, 3, 0] rfl)
      · have hf := iT c25 hf
        refine lv_iconst (pc := 35) (v := 0) hx hb dX0_reads_35 (by decide) ?_
        refine lv_goto (pc := 36) (tgt := 40) hx hb dX0_reads_36 (by decide) ?_
        obtain rfl := Option.some.inj hf
        exact J21 ls (lv_sub hl [1, 2, 3, 0] rfl)
  · have hf := iT c1 hf
    refine lv_iload_n (pc := 4) hx hb dX0_reads_4 rfl (lv_at hl 2 rfl) ?_
    refine lv_bipush (pc := 5) (v := 104) hx hb dX0_reads_5 (by decide) ?_
    refine lv_icmp_ne (pc := 7) (tgt := 14) hx hb dX0_reads_7 (by decide) (fun c26 => ?_) (fun c26 => ?_)
    · have hf := iF c26 hf
      refine lv_iconst (pc := 14) (v := 0) hx hb dX0_reads_14 (by decide) ?_
      obtain rfl := Option.some.inj hf
      exact hRet 15 ls s.heap [] (nzB (Or.inl rfl)) dX0_reads_15 hP hS
    · have hf := iT c26 hf
      refine lv_iconst (pc := 10) (v := 1) hx hb dX0_reads_10 (by decide) ?_
      refine lv_goto (pc := 11) (tgt := 15) hx hb dX0_reads_11 (by decide) ?_
      obtain rfl := Option.some.inj hf
      exact hRet 15 ls s.heap [] (nzB (Or.inr rfl)) dX0_reads_15 hP hS
theorem hdX0_reads : yX0_reads.cls ≠ "java/lang/invoke/MethodHandle" ∧ yX0_reads.cls ≠ "java/lang/invoke/VarHandle" ∧ (parseMethodDescriptor yX0_reads.desc).map (fun d => d.parameters.length) = some 2 := by decide +kernel
abbrev rmX0_mayEndAt : Room := { frames := 1, cells := 0, slots := 0, locals := 20 }
theorem inX0_mayEndAt_X0 : ∀ w ∈ wsX00, w ∈ wsX0_mayEndAt := fun _ h => List.mem_cons_of_mem _ (List.mem_append_right _ h)
set_option maxHeartbeats 4000000 in
set_option maxRecDepth 100000 in
theorem mtX0_mayEndAt (l : Launch) (D : va_G) (cI cZ cQ : ClassId) (oL : Nat) (aL : Nat → Nat) (L : Bk) (p0 : Int32) (out : Int32) (hf : fX0_mayEndAt L p0 = some out) : Met l yX0_mayEndAt wsX0_mayEndAt rmX0_mayEndAt (RoP D cI cZ cQ [.ref oL, .int p0] (wL cI oL aL L)) (vp_Si (fun r' => r' = out)) 0 0 (fun _ => False) := by
  refine metRi (ty := .boolean) (cc := cX0_mayEndAt) (maxL := 2) (by decide) rfl (Nat.le_of_ble_eq_true rfl) ?_
  intro p e s m args below meth c Q CF hK hP hRet ls hl
  obtain ⟨hx, hb, hml, hown, hts⟩ := id CF
  have hl : lv_has ls 2 [(0, .ref oL), (1, .int p0)] := hl
  unfold fX0_mayEndAt at hf
  refine lv_aload_n (pc := 0) hx hb dX0_mayEndAt_0 rfl (lv_at hl 0 rfl) ?_
  refine va_get (pc := 1) (D := D) (ci := 0) (v := .int (L 1 0)) (C := RX0) (T := TX0) (N := 8) hx hb hts inX0_mayEndAt_X0 hown hK.1 hP 0 rfl rfl 1 (by decide) (hts (.fieldLink RX0 15 "HedgeHoles$Land" "goers" "I") (by decide +kernel)) (fun _ h9 => h9) rfl dX0_mayEndAt_1 ?_
  refine lv_if_le (pc := 4) (tgt := 28) hx hb dX0_mayEndAt_4 (by decide) (fun c1 => ?_) (fun c1 => ?_)
  · have hf := iT c1 hf
    refine lv_iconst (pc := 28) (v := 0) hx hb dX0_mayEndAt_28 (by decide) ?_
    obtain rfl := Option.some.inj hf
    exact hRet 29 ls (nzB (Or.inl rfl)) dX0_mayEndAt_29
  · have hf := iF c1 hf
    refine lv_iload_n (pc := 7) hx hb dX0_mayEndAt_7 rfl (lv_at hl 1 rfl) ?_
    refine lv_iconst (pc := 8) (v := 2) hx hb dX0_mayEndAt_8 (by decide) ?_
    refine lv_aload_n (pc := 9) hx hb dX0_mayEndAt_9 rfl (lv_at hl 0 rfl) ?_
    obtain ⟨v2, h3, hf⟩ := bd hf
    refine roVi (pc := 10) (As := []) (rest := [.int 2, .int p0]) CF (mtX0_hedges l D cI cZ cQ oL aL L v2 h3) (cwV 0 hts gX0_mayEndAt_X0_hedges rfl rfl rfl ⟨rfl, hdX0_hedges⟩ ⟨Nat.le_of_ble_eq_true rfl, Nat.le_of_ble_eq_true rfl⟩) hK hP rfl rfl rfl rfl hl.1 rfl (Nat.le_of_ble_eq_true rfl) dX0_mayEndAt_10 ?_
    refine lv_iadd (pc := 13) hx hb dX0_mayEndAt_13 ?_
    refine lv_aload_n (pc := 14) hx hb dX0_mayEndAt_14 rfl (lv_at hl 0 rfl) ?_
    refine va_get (pc := 15) (D := D) (ci := 0) (v := .int (L 1 0)) (C := RX0) (T := TX0) (N := 8) hx hb hts inX0_mayEndAt_X0 hown hK.1 hP 0 rfl rfl 1 (by decide) (hts (.fieldLink RX0 15 "HedgeHoles$Land" "goers" "I") (by decide +kernel)) (fun _ h9 => h9) rfl dX0_mayEndAt_15 ?_
    refine lv_iconst (pc := 18) (v := 4) hx hb dX0_mayEndAt_18 (by decide) ?_
    refine lv_imul (pc := 19) hx hb dX0_mayEndAt_19 ?_
    refine lv_iadd (pc := 20) hx hb dX0_mayEndAt_20 ?_
    refine lv_icmp_ne (pc := 21) (tgt := 28) hx hb dX0_mayEndAt_21 (by decide) (fun c4 => ?_) (fun c4 => ?_)
    · have hf := iF c4 hf
      refine lv_iconst (pc := 28) (v := 0) hx hb dX0_mayEndAt_28 (by decide) ?_
      obtain rfl := Option.some.inj hf
      exact hRet 29 ls (nzB (Or.inl rfl)) dX0_mayEndAt_29
    · have hf := iT c4 hf
      refine lv_iconst (pc := 24) (v := 1) hx hb dX0_mayEndAt_24 (by decide) ?_
      refine lv_goto (pc := 25) (tgt := 29) hx hb dX0_mayEndAt_25 (by decide) ?_
      obtain rfl := Option.some.inj hf
      exact hRet 29 ls (nzB (Or.inr rfl)) dX0_mayEndAt_29
theorem hdX0_mayEndAt : yX0_mayEndAt.cls ≠ "java/lang/invoke/MethodHandle" ∧ yX0_mayEndAt.cls ≠ "java/lang/invoke/VarHandle" ∧ (parseMethodDescriptor yX0_mayEndAt.desc).map (fun d => d.parameters.length) = some 1 := by decide +kernel
abbrev rmX0_canMove : Room := { frames := 3, cells := 0, slots := 0, locals := 68 }
theorem inX0_canMove_X0 : ∀ w ∈ wsX00, w ∈ wsX0_canMove := fun _ h => List.mem_cons_of_mem _ (List.mem_append_right _ h)
set_option maxHeartbeats 4000000 in
set_option maxRecDepth 100000 in
theorem mtX0_canMove (l : Launch) (D : va_G) (cI cZ cQ : ClassId) (oL : Nat) (aL : Nat → Nat) (L : Bk) (p0 : Int32) (p1 : Int32) (out : Int32) (hf : fX0_canMove L p0 p1 = some out) : Met l yX0_canMove wsX0_canMove rmX0_canMove (RoP D cI cZ cQ [.ref oL, .int p0, .int p1] (wL cI oL aL L)) (vp_Si (fun r' => r' = out)) 0 0 (fun _ => False) := by
  refine metRi (ty := .boolean) (cc := cX0_canMove) (maxL := 3) (by decide) rfl (Nat.le_of_ble_eq_true rfl) ?_
  intro p e s m args below meth c Q CF hK hP hRet ls hl
  obtain ⟨hx, hb, hml, hown, hts⟩ := id CF
  have hl : lv_has ls 3 [(0, .ref oL), (1, .int p0), (2, .int p1)] := hl
  unfold fX0_canMove at hf
  refine lv_aload_n (pc := 0) hx hb dX0_canMove_0 rfl (lv_at hl 0 rfl) ?_
  refine lv_aload_n (pc := 1) hx hb dX0_canMove_1 rfl (lv_at hl 0 rfl) ?_
  refine va_get (pc := 2) (D := D) (ci := 0) (v := .ref (aL 6)) (C := RX0) (T := TX0) (N := 8) hx hb hts inX0_canMove_X0 hown hK.1 hP 0 rfl rfl 6 (by decide) (hts (.fieldLink RX0 31 "HedgeHoles$Land" "place" "[I") (by decide +kernel)) (fun _ h9 => h9) rfl dX0_canMove_2 ?_
  refine lv_iload_n (pc := 5) hx hb dX0_canMove_5 rfl (lv_at hl 1 rfl) ?_
  obtain ⟨h1, hf⟩ := gI_e hf
  refine va_iald (pc := 6) (f := L 6) (n := 5) hx hb hK.1 hP 4 0 rfl rfl h1 dX0_canMove_6 ?_
  refine lv_iload_n (pc := 7) hx hb dX0_canMove_7 rfl (lv_at hl 2 rfl) ?_
  refine lv_aload_n (pc := 8) hx hb dX0_canMove_8 rfl (lv_at hl 0 rfl) ?_
  refine lv_iload_n (pc := 9) hx hb dX0_canMove_9 rfl (lv_at hl 1 rfl) ?_
  obtain ⟨v2, h3, hf⟩ := bd hf
  refine roVi (pc := 10) (As := [.int p0]) (rest := [.int p1, .int (L 6 p0.toNatClampNeg), .ref oL]) CF (mtX0_thickOf l D cI cZ cQ oL aL L p0 v2 h3) (cwV 1 hts gX0_canMove_X0_thickOf rfl rfl rfl ⟨rfl, hdX0_thickOf⟩ ⟨Nat.le_of_ble_eq_true rfl, Nat.le_of_ble_eq_true rfl⟩) hK hP rfl rfl rfl rfl hl.1 rfl (Nat.le_of_ble_eq_true rfl) dX0_canMove_10 ?_
  obtain ⟨v4, h5, hf⟩ := bd hf
  refine roVi (pc := 13) (As := [.int (L 6 p0.toNatClampNeg), .int p1, .int v2]) (rest := []) CF (mtX0_letsBetween l D cI cZ cQ oL aL L (L 6 p0.toNatClampNeg) p1 v2 v4 h5) (cwV 3 hts gX0_canMove_X0_letsBetween rfl rfl rfl ⟨rfl, hdX0_letsBetween⟩ ⟨Nat.le_of_ble_eq_true rfl, Nat.le_of_ble_eq_true rfl⟩) hK hP rfl rfl rfl rfl hl.1 rfl (Nat.le_of_ble_eq_true rfl) dX0_canMove_13 ?_
  obtain ⟨h6, hf⟩ := gB_e hf
  obtain rfl := Option.some.inj hf
  exact hRet 16 ls (nzB h6) dX0_canMove_16
theorem hdX0_canMove : yX0_canMove.cls ≠ "java/lang/invoke/MethodHandle" ∧ yX0_canMove.cls ≠ "java/lang/invoke/VarHandle" ∧ (parseMethodDescriptor yX0_canMove.desc).map (fun d => d.parameters.length) = some 2 := by decide +kernel
abbrev rmX0_move : Room := { frames := 2, cells := 0, slots := 0, locals := 45 }
theorem inX0_move_X0 : ∀ w ∈ wsX00, w ∈ wsX0_move := fun _ h => List.mem_cons_of_mem _ (List.mem_append_right _ h)
set_option maxHeartbeats 4000000 in
set_option maxRecDepth 100000 in
theorem mtX0_move (l : Launch) (D : va_G) (cI cZ cQ : ClassId) (oL : Nat) (aL : Nat → Nat) (L : Bk) (p0 : Int32) (p1 : Int32) (sz : Nat) (out : Bk) (hf : fX0_move L p0 p1 = some out) : Met l yX0_move wsX0_move rmX0_move (WrP D cI cZ cQ [.ref oL, .int p0, .int p1] (wL cI oL aL L) sz) (WrQv D (wL cI oL aL L) (wL cI oL aL out) sz) 0 0 (va_A (wL cI oL aL L) sz) := by
  refine metWv (cc := cX0_move) (maxL := 3) (by decide) rfl (Nat.le_of_ble_eq_true rfl) ?_
  intro p e s m args below meth c Q A CF hK hP hD hA hRet ls hl
  obtain ⟨hx, hb, hml, hown, hts⟩ := id CF
  have hS : va_S A s.heap s.heap [] := va_S.rf
  have hl : lv_has ls 3 [(0, .ref oL), (1, .int p0), (2, .int p1)] := hl
  unfold fX0_move at hf
  refine lv_aload_n (pc := 0) hx hb dX0_move_0 rfl (lv_at hl 0 rfl) ?_
  refine lv_dup (pc := 1) hx hb dX0_move_1 rfl ?_
  refine va_get (pc := 2) (D := D) (ci := 0) (v := .int (L 2 0)) (C := RX0) (T := TX0) (N := 8) hx hb hts inX0_move_X0 hown hK.1 hP 0 rfl rfl 2 (by decide) (hts (.fieldLink RX0 18 "HedgeHoles$Land" "worn" "I") (by decide +kernel)) (fun _ h9 => h9) rfl dX0_move_2 ?_
  refine lv_iconst (pc := 5) (v := 1) hx hb dX0_move_5 (by decide) ?_
  refine lv_aload_n (pc := 6) hx hb dX0_move_6 rfl (lv_at hl 0 rfl) ?_
  refine lv_aload_n (pc := 7) hx hb dX0_move_7 rfl (lv_at hl 0 rfl) ?_
  refine va_get (pc := 8) (D := D) (ci := 0) (v := .ref (aL 6)) (C := RX0) (T := TX0) (N := 8) hx hb hts inX0_move_X0 hown hK.1 hP 0 rfl rfl 6 (by decide) (hts (.fieldLink RX0 31 "HedgeHoles$Land" "place" "[I") (by decide +kernel)) (fun _ h9 => h9) rfl dX0_move_8 ?_
  refine lv_iload_n (pc := 11) hx hb dX0_move_11 rfl (lv_at hl 1 rfl) ?_
  obtain ⟨h1, hf⟩ := gI_e hf
  refine va_iald (pc := 12) (f := L 6) (n := 5) hx hb hK.1 hP 4 0 rfl rfl h1 dX0_move_12 ?_
  refine lv_iload_n (pc := 13) hx hb dX0_move_13 rfl (lv_at hl 2 rfl) ?_
  obtain ⟨v2, h3, hf⟩ := bd hf
  refine roVi (pc := 14) (As := [.int (L 6 p0.toNatClampNeg), .int p1]) (rest := [.int 1, .int (L 2 0), .ref oL]) CF (mtX0_hedgeOf l D cI cZ cQ oL aL L (L 6 p0.toNatClampNeg) p1 v2 h3) (cwV 2 hts gX0_move_X0_hedgeOf rfl rfl rfl ⟨rfl, hdX0_hedgeOf⟩ ⟨Nat.le_of_ble_eq_true rfl, Nat.le_of_ble_eq_true rfl⟩) hK hP rfl rfl rfl rfl hl.1 rfl (Nat.le_of_ble_eq_true rfl) dX0_move_14 ?_
  refine lv_ishl (pc := 17) hx hb dX0_move_17 ?_
  refine lv_ior (pc := 18) hx hb dX0_move_18 ?_
  refine va_put (pc := 19) (D := D) (ci := 0) (v := .int ((L 2 0) ||| (1 <<< (v2 &&& 31)))) (ty := .int) (C := RX0) (T := TX0) (N := 8) hx hb hts inX0_move_X0 tyX0 tyX0_ok nmX0 hown hK.1 hP hD hS 0 rfl rfl 2 (by decide) (hts (.fieldLink RX0 18 "HedgeHoles$Land" "worn" "I") (by decide +kernel)) (fun _ h9 => h9) rfl (by decide +kernel) (vp_nar_int _) rfl (Nat.le_of_ble_eq_true rfl) dX0_move_19 (fun H locs hP hD hS => ?_)
  have hP : va_P D vwCl (wL cI oL aL (sB L 2 0 ((L 2 0) ||| (1 <<< (v2 &&& 31))))) H := hP
  have hD : va_D A (wL cI oL aL (sB L 2 0 ((L 2 0) ||| (1 <<< (v2 &&& 31))))) := hD
  obtain ⟨L_4, h5, hf⟩ := bd hf
  have h5 := Option.some.inj h5
  rw [h5] at hP hD
  refine lv_aload_n (pc := 22) hx hb dX0_move_22 rfl (lv_at hl 0 rfl) ?_
  refine va_get (pc := 23) (D := D) (ci := 0) (v := .ref (aL 6)) (C := RX0) (T := TX0) (N := 8) hx hb hts inX0_move_X0 hown hK.1 hP 0 rfl rfl 6 (by decide) (hts (.fieldLink RX0 31 "HedgeHoles$Land" "place" "[I") (by decide +kernel)) (fun _ h9 => h9) rfl dX0_move_23 ?_
  refine lv_iload_n (pc := 26) hx hb dX0_move_26 rfl (lv_at hl 1 rfl) ?_
  refine lv_iload_n (pc := 27) hx hb dX0_move_27 rfl (lv_at hl 2 rfl) ?_
  refine va_iast (pc := 28) (f := L_4 6) (n := 5) hx hb hK.1 hP hD hS 4 0 rfl rfl h1 dX0_move_28 (fun H locs hP hD hS => ?_)
  have hP : va_P D vwCl (wL cI oL aL (sB L_4 6 p0.toNatClampNeg p1)) H := hP
  have hD : va_D A (wL cI oL aL (sB L_4 6 p0.toNatClampNeg p1)) := hD
  obtain ⟨L_6, h7, hf⟩ := bd hf
  have h7 := Option.some.inj h7
  rw [h7] at hP hD
  obtain rfl := Option.some.inj hf
  exact hRet 29 ls H locs dX0_move_29 hP hS
theorem hdX0_move : yX0_move.cls ≠ "java/lang/invoke/MethodHandle" ∧ yX0_move.cls ≠ "java/lang/invoke/VarHandle" ∧ (parseMethodDescriptor yX0_move.desc).map (fun d => d.parameters.length) = some 2 := by decide +kernel
abbrev rmX0_age : Room := { frames := 1, cells := 0, slots := 0, locals := 21 }
theorem inX0_age_X0 : ∀ w ∈ wsX00, w ∈ wsX0_age := fun _ h => List.mem_cons_of_mem _ (List.mem_append_right _ h)
set_option maxHeartbeats 4000000 in
set_option maxRecDepth 100000 in
theorem mtX0_age (l : Launch) (D : va_G) (cI cZ cQ : ClassId) (oL : Nat) (aL : Nat → Nat) (L : Bk) (p0 : Int32) (sz : Nat) (out : Bk) (hf : fX0_age L p0 = some out) : Met l yX0_age wsX0_age rmX0_age (WrP D cI cZ cQ [.ref oL, .int p0] (wL cI oL aL L) sz) (WrQv D (wL cI oL aL L) (wL cI oL aL out) sz) 0 0 (va_A (wL cI oL aL L) sz) := by
  refine metWv (cc := cX0_age) (maxL := 4) (by decide) rfl (Nat.le_of_ble_eq_true rfl) ?_
  intro p e s m args below meth c Q A CF hK hP hD hA hRet ls hl
  obtain ⟨hx, hb, hml, hown, hts⟩ := id CF
  have hS : va_S A s.heap s.heap [] := va_S.rf
  have hl : lv_has ls 4 [(0, .ref oL), (1, .int p0)] := hl
  unfold fX0_age at hf
  refine lv_iconst (pc := 0) (v := 0) hx hb dX0_age_0 (by decide) ?_
  refine lv_istore_n (pc := 1) (lv' := [(2, .int 0), (0, .ref oL), (1, .int p0)]) hx hb dX0_age_1 rfl hl (by decide) rfl (fun ls hl => ?_)
  refine zl2 (G := FX0_age_2 p0) (fun x2_1 L_2 => ∀ (ls : Array Slot) (H : Heap) (locs : List Loc), lv_has ls 4 [(0, .ref oL), (1, .int p0), (2, .int x2_1)] → va_P D vwCl (wL cI oL aL L_2) H → va_D A (wL cI oL aL L_2) → va_S A s.heap H locs → W p l e rmX0_age s m args below meth c H locs 0 0 Q (F0 m 2 ls [])) (fun x2_3 L_4 => ∀ (ls : Array Slot) (H : Heap) (locs : List Loc), lv_has ls 4 [(0, .ref oL), (1, .int p0), (2, .int x2_3)] → va_P D vwCl (wL cI oL aL L_4) H → va_D A (wL cI oL aL L_4) → va_S A s.heap H locs → W p l e rmX0_age s m args below meth c H locs 0 0 Q (F0 m 79 ls [])) hf (fun x2_3 L_4 hf => ?_) (fun kx slf hkx hslf x2_1 L_2 hf => ?_) ls s.heap [] (lv_sub hl [1, 2, 0] rfl) hP hD hS
  · intro ls H locs hl hP hD hS
    obtain rfl := Option.some.inj hf
    exact hRet 79 ls H locs dX0_age_79 hP hS
  · unfold FX0_age_2 at hf
    intro ls H locs hl hP hD hS
    refine lv_iload_n (pc := 2) hx hb dX0_age_2 rfl (lv_at hl 2 rfl) ?_
    refine lv_iload_n (pc := 3) hx hb dX0_age_3 rfl (lv_at hl 1 rfl) ?_
    refine lv_icmp_ge (pc := 4) (tgt := 79) hx hb dX0_age_4 (by decide) (fun c5 => ?_) (fun c5 => ?_)
    · have hf := iT c5 hf
      exact hkx _ _ hf ls H locs (lv_sub hl [0, 1, 2] rfl) hP hD hS
    · have hf := iF c5 hf
      refine lv_iconst (pc := 7) (v := 0) hx hb dX0_age_7 (by decide) ?_
      refine lv_istore_n (pc := 8) (lv' := [(3, .int 0), (0, .ref oL), (1, .int p0), (2, .int x2_1)]) hx hb dX0_age_8 rfl hl (by decide) rfl (fun ls hl => ?_)
      refine zl2 (G := FX0_age_9 ) (fun x3_6 L_7 => ∀ (ls : Array Slot) (H : Heap) (locs : List Loc), lv_has ls 4 [(0, .ref oL), (1, .int p0), (2, .int x2_1), (3, .int x3_6)] → va_P D vwCl (wL cI oL aL L_7) H → va_D A (wL cI oL aL L_7) → va_S A s.heap H locs → W p l e rmX0_age s m args below meth c H locs 0 0 Q (F0 m 9 ls [])) (fun x3_8 L_9 => ∀ (ls : Array Slot) (H : Heap) (locs : List Loc), lv_has ls 4 [(0, .ref oL), (1, .int p0), (2, .int x2_1), (3, .int x3_8)] → va_P D vwCl (wL cI oL aL L_9) H → va_D A (wL cI oL aL L_9) → va_S A s.heap H locs → W p l e rmX0_age s m args below meth c H locs 0 0 Q (F0 m 68 ls [])) hf (fun x3_8 L_9 hf => ?_) (fun kx slf hkx hslf x3_6 L_7 hf => ?_) ls H locs (lv_sub hl [1, 2, 3, 0] rfl) hP hD hS
      · intro ls H locs hl hP hD hS
        refine lv_aload_n (pc := 68) hx hb dX0_age_68 rfl (lv_at hl 0 rfl) ?_
        refine lv_iconst (pc := 69) (v := 0) hx hb dX0_age_69 (by decide) ?_
        refine va_put (pc := 70) (D := D) (ci := 0) (v := .int 0) (ty := .int) (C := RX0) (T := TX0) (N := 8) hx hb hts inX0_age_X0 tyX0 tyX0_ok nmX0 hown hK.1 hP hD hS 0 rfl rfl 2 (by decide) (hts (.fieldLink RX0 18 "HedgeHoles$Land" "worn" "I") (by decide +kernel)) (fun _ h9 => h9) rfl (by decide +kernel) (vp_nar_int _) rfl (Nat.le_of_ble_eq_true rfl) dX0_age_70 (fun H locs hP hD hS => ?_)
        have hP : va_P D vwCl (wL cI oL aL (sB L_9 2 0 0)) H := hP
        have hD : va_D A (wL cI oL aL (sB L_9 2 0 0)) := hD
        obtain ⟨L_23, h24, hf⟩ := bd hf
        have h24 := Option.some.inj h24
        rw [h24] at hP hD
        refine lv_iinc (pc := 73) (v := (x2_1 + 1)) (lv' := [(2, .int (x2_1 + 1)), (0, .ref oL), (1, .int p0), (3, .int x3_8)]) hx hb dX0_age_73 hl (k := 2) rfl rfl (by decide) rfl (fun ls hl => ?_)
        refine lv_goto (pc := 76) (tgt := 2) hx hb dX0_age_76 (by decide) ?_
        exact hslf _ _ hf ls H locs (lv_sub hl [1, 2, 0] rfl) hP hD hS
      · unfold FX0_age_9 at hf
        intro ls H locs hl hP hD hS
        refine lv_iload_n (pc := 9) hx hb dX0_age_9 rfl (lv_at hl 3 rfl) ?_
        refine lv_aload_n (pc := 10) hx hb dX0_age_10 rfl (lv_at hl 0 rfl) ?_
        obtain ⟨v10, h11, hf⟩ := bd hf
        refine roVi (pc := 11) (As := []) (rest := [.int x3_6]) CF (mtX0_hedges l D cI cZ cQ oL aL L_7 v10 h11) (cwV 0 hts gX0_age_X0_hedges rfl rfl rfl ⟨rfl, hdX0_hedges⟩ ⟨Nat.le_of_ble_eq_true rfl, Nat.le_of_ble_eq_true rfl⟩) hK hP rfl rfl rfl rfl hl.1 rfl (Nat.le_of_ble_eq_true rfl) dX0_age_11 ?_
        refine lv_icmp_ge (pc := 14) (tgt := 68) hx hb dX0_age_14 (by decide) (fun c12 => ?_) (fun c12 => ?_)
        · have hf := iT c12 hf
          exact hkx _ _ hf ls H locs (lv_sub hl [0, 1, 2, 3] rfl) hP hD hS
        · have hf := iF c12 hf
          refine lv_aload_n (pc := 17) hx hb dX0_age_17 rfl (lv_at hl 0 rfl) ?_
          refine va_get (pc := 18) (D := D) (ci := 0) (v := .ref (aL 3)) (C := RX0) (T := TX0) (N := 8) hx hb hts inX0_age_X0 hown hK.1 hP 0 rfl rfl 3 (by decide) (hts (.fieldLink RX0 21 "HedgeHoles$Land" "width" "[I") (by decide +kernel)) (fun _ h9 => h9) rfl dX0_age_18 ?_
          refine lv_iload_n (pc := 21) hx hb dX0_age_21 rfl (lv_at hl 3 rfl) ?_
          refine lv_aload_n (pc := 22) hx hb dX0_age_22 rfl (lv_at hl 0 rfl) ?_
          refine va_get (pc := 23) (D := D) (ci := 0) (v := .int (L_7 2 0)) (C := RX0) (T := TX0) (N := 8) hx hb hts inX0_age_X0 hown hK.1 hP 0 rfl rfl 2 (by decide) (hts (.fieldLink RX0 18 "HedgeHoles$Land" "worn" "I") (by decide +kernel)) (fun _ h9 => h9) rfl dX0_age_23 ?_
          refine lv_iload_n (pc := 26) hx hb dX0_age_26 rfl (lv_at hl 3 rfl) ?_
          obtain ⟨v13, h14, hf⟩ := bd hf
          refine roNi (pc := 27) (As := [.int (L_7 2 0), .int x3_6]) (rest := [.int x3_6, .ref (aL 3)]) CF (mtX3_isIn l D cI cZ cQ (L_7 2 0) x3_6 v13 h14) (va_cnB 2 hts gX0_age_X3_isIn_n84 rfl rfl rfl hK.2.2.2.2.1 (hts (.initialized RX3) (by decide +kernel)) hdX3_isIn ⟨Nat.le_of_ble_eq_true rfl, Nat.le_of_ble_eq_true rfl⟩) (hts (.static yX3_isIn) (by decide +kernel)) hK P0 rfl hl.1 rfl (Nat.le_of_ble_eq_true rfl) dX0_age_27 ?_
          obtain ⟨v15, hv, hf⟩ := bd hf
          have J16 : ∀ (ls : Array Slot), lv_has ls 4 [(0, .ref oL), (1, .int p0), (2, .int x2_1), (3, .int x3_6)] → W p l e rmX0_age s m args below meth c H locs 0 0 Q (F0 m 61 ls [.int v15, .int x3_6, .ref (aL 3)]) := by
            intro ls hl
            obtain ⟨h17, hf⟩ := gI_e hf
            refine va_iast (pc := 61) (f := L_7 3) (n := 10) hx hb hK.1 hP hD hS 1 0 rfl rfl h17 dX0_age_61 (fun H locs hP hD hS => ?_)
            have hP : va_P D vwCl (wL cI oL aL (sB L_7 3 x3_6.toNatClampNeg v15)) H := hP
            have hD : va_D A (wL cI oL aL (sB L_7 3 x3_6.toNatClampNeg v15)) := hD
            obtain ⟨L_18, h19, hf⟩ := bd hf
            have h19 := Option.some.inj h19
            rw [h19] at hP hD
            refine lv_iinc (pc := 62) (v := (x3_6 + 1)) (lv' := [(3, .int (x3_6 + 1)), (0, .ref oL), (1, .int p0), (2, .int x2_1)]) hx hb dX0_age_62 hl (k := 3) rfl rfl (by decide) rfl (fun ls hl => ?_)
            refine lv_goto (pc := 65) (tgt := 9) hx hb dX0_age_65 (by decide) ?_
            exact hslf _ _ hf ls H locs (lv_sub hl [1, 2, 3, 0] rfl) hP hD hS
          clear hf
          have hf := hv
          clear hv
          refine lv_if_eq (pc := 30) (tgt := 49) hx hb dX0_age_30 (by decide) (fun c20 => ?_) (fun c20 => ?_)
          · have hf := iT c20 hf
            refine lv_aload_n (pc := 49) hx hb dX0_age_49 rfl (lv_at hl 0 rfl) ?_
            refine va_get (pc := 50) (D := D) (ci := 0) (v := .ref (aL 3)) (C := RX0) (T := TX0) (N := 8) hx hb hts inX0_age_X0 hown hK.1 hP 0 rfl rfl 3 (by decide) (hts (.fieldLink RX0 21 "HedgeHoles$Land" "width" "[I") (by decide +kernel)) (fun _ h9 => h9) rfl dX0_age_50 ?_
            refine lv_iload_n (pc := 53) hx hb dX0_age_53 rfl (lv_at hl 3 rfl) ?_
            obtain ⟨h21, hf⟩ := gI_e hf
            refine va_iald (pc := 54) (f := L_7 3) (n := 10) hx hb hK.1 hP 1 0 rfl rfl h21 dX0_age_54 ?_
            refine lv_iconst (pc := 55) (v := 1) hx hb dX0_age_55 (by decide) ?_
            refine lv_isub (pc := 56) hx hb dX0_age_56 ?_
            refine lv_iconst (pc := 57) (v := 0) hx hb dX0_age_57 (by decide) ?_
            refine va_mmax (pc := 58) hx hb (hml.trans hl.1.symm) hown (hts (.methodLink RX0 49 Lib.Math.max.name) (by decide +kernel)) (hts (.static Lib.Math.max.name) (by decide +kernel)) (hts (.initialized "java/lang/Math") (by decide +kernel)) (hts (.code Lib.Math.max.name Lib.Math.max.code 2 (some .int)) (by decide +kernel)) (Nat.le_of_ble_eq_true rfl) (Nat.le_of_ble_eq_true rfl) (Nat.zero_le _) (Nat.zero_le _) dX0_age_58 ?_
            obtain rfl := Option.some.inj hf
            exact J16 ls (lv_sub hl [0, 1, 2, 3] rfl)
          · have hf := iF c20 hf
            refine lv_aload_n (pc := 33) hx hb dX0_age_33 rfl (lv_at hl 0 rfl) ?_
            refine va_get (pc := 34) (D := D) (ci := 0) (v := .ref (aL 3)) (C := RX0) (T := TX0) (N := 8) hx hb hts inX0_age_X0 hown hK.1 hP 0 rfl rfl 3 (by decide) (hts (.fieldLink RX0 21 "HedgeHoles$Land" "width" "[I") (by decide +kernel)) (fun _ h9 => h9) rfl dX0_age_34 ?_
            refine lv_iload_n (pc := 37) hx hb dX0_age_37 rfl (lv_at hl 3 rfl) ?_
            obtain ⟨h22, hf⟩ := gI_e hf
            refine va_iald (pc := 38) (f := L_7 3) (n := 10) hx hb hK.1 hP 1 0 rfl rfl h22 dX0_age_38 ?_
            refine lv_iconst (pc := 39) (v := 1) hx hb dX0_age_39 (by decide) ?_
            refine lv_iadd (pc := 40) hx hb dX0_age_40 ?_
            refine lv_bipush (pc := 41) (v := 9) hx hb dX0_age_41 (by decide) ?_
            refine va_mmin (pc := 43) hx hb (hml.trans hl.1.symm) hown (hts (.methodLink RX0 43 Lib.Math.min.name) (by decide +kernel)) (hts (.static Lib.Math.min.name) (by decide +kernel)) (hts (.initialized "java/lang/Math") (by decide +kernel)) (hts (.code Lib.Math.min.name Lib.Math.min.code 2 (some .int)) (by decide +kernel)) (Nat.le_of_ble_eq_true rfl) (Nat.le_of_ble_eq_true rfl) (Nat.zero_le _) (Nat.zero_le _) dX0_age_43 ?_
            refine lv_goto (pc := 46) (tgt := 61) hx hb dX0_age_46 (by decide) ?_
            obtain rfl := Option.some.inj hf
            exact J16 ls (lv_sub hl [0, 1, 2, 3] rfl)
theorem hdX0_age : yX0_age.cls ≠ "java/lang/invoke/MethodHandle" ∧ yX0_age.cls ≠ "java/lang/invoke/VarHandle" ∧ (parseMethodDescriptor yX0_age.desc).map (fun d => d.parameters.length) = some 1 := by decide +kernel
abbrev rmX0_stopUp : Room := { frames := 1, cells := 0, slots := 0, locals := 20 }
theorem inX0_stopUp_X0 : ∀ w ∈ wsX00, w ∈ wsX0_stopUp := fun _ h => List.mem_cons_of_mem _ (List.mem_append_right _ h)
set_option maxHeartbeats 4000000 in
set_option maxRecDepth 100000 in
theorem mtX0_stopUp (l : Launch) (D : va_G) (cI cZ cQ : ClassId) (oL : Nat) (aL : Nat → Nat) (L : Bk) (p0 : Int32) (sz : Nat) (out : (Int32 × Bk)) (hf : fX0_stopUp L p0 = some out) : Met l yX0_stopUp wsX0_stopUp rmX0_stopUp (WrP D cI cZ cQ [.ref oL, .int p0] (wL cI oL aL L) sz) (WrQi D out.1 (wL cI oL aL L) (wL cI oL aL out.2) sz) 0 0 (va_A (wL cI oL aL L) sz) := by
  refine metWi (ty := .boolean) (cc := cX0_stopUp) (maxL := 2) (by decide) rfl (Nat.le_of_ble_eq_true rfl) ?_
  intro p e s m args below meth c Q A CF hK hP hD hA hRet ls hl
  obtain ⟨hx, hb, hml, hown, hts⟩ := id CF
  have hS : va_S A s.heap s.heap [] := va_S.rf
  have hl : lv_has ls 2 [(0, .ref oL), (1, .int p0)] := hl
  unfold fX0_stopUp at hf
  refine lv_iload_n (pc := 0) hx hb dX0_stopUp_0 rfl (lv_at hl 1 rfl) ?_
  refine lv_aload_n (pc := 1) hx hb dX0_stopUp_1 rfl (lv_at hl 0 rfl) ?_
  obtain ⟨v1, h2, hf⟩ := bd hf
  refine roVi (pc := 2) (As := []) (rest := [.int p0]) CF (mtX0_hedges l D cI cZ cQ oL aL L v1 h2) (cwV 0 hts gX0_stopUp_X0_hedges rfl rfl rfl ⟨rfl, hdX0_hedges⟩ ⟨Nat.le_of_ble_eq_true rfl, Nat.le_of_ble_eq_true rfl⟩) hK hP rfl rfl rfl rfl hl.1 rfl (Nat.le_of_ble_eq_true rfl) dX0_stopUp_2 ?_
  refine lv_icmp_ge (pc := 5) (tgt := 17) hx hb dX0_stopUp_5 (by decide) (fun c3 => ?_) (fun c3 => ?_)
  · have hf := iT c3 hf
    refine lv_iconst (pc := 17) (v := 0) hx hb dX0_stopUp_17 (by decide) ?_
    obtain rfl := Option.some.inj hf
    exact hRet 18 ls s.heap [] (nzB (Or.inl rfl)) dX0_stopUp_18 hP hS
  · have hf := iF c3 hf
    refine lv_aload_n (pc := 8) hx hb dX0_stopUp_8 rfl (lv_at hl 0 rfl) ?_
    refine va_get (pc := 9) (D := D) (ci := 0) (v := .ref (aL 3)) (C := RX0) (T := TX0) (N := 8) hx hb hts inX0_stopUp_X0 hown hK.1 hP 0 rfl rfl 3 (by decide) (hts (.fieldLink RX0 21 "HedgeHoles$Land" "width" "[I") (by decide +kernel)) (fun _ h9 => h9) rfl dX0_stopUp_9 ?_
    refine lv_iload_n (pc := 12) hx hb dX0_stopUp_12 rfl (lv_at hl 1 rfl) ?_
    obtain ⟨h4, hf⟩ := gI_e hf
    refine va_iald (pc := 13) (f := L 3) (n := 10) hx hb hK.1 hP 1 0 rfl rfl h4 dX0_stopUp_13 ?_
    refine lv_if_ne (pc := 14) (tgt := 19) hx hb dX0_stopUp_14 (by decide) (fun c5 => ?_) (fun c5 => ?_)
    · have hf := iF c5 hf
      refine lv_aload_n (pc := 19) hx hb dX0_stopUp_19 rfl (lv_at hl 0 rfl) ?_
      refine va_get (pc := 20) (D := D) (ci := 0) (v := .ref (aL 3)) (C := RX0) (T := TX0) (N := 8) hx hb hts inX0_stopUp_X0 hown hK.1 hP 0 rfl rfl 3 (by decide) (hts (.fieldLink RX0 21 "HedgeHoles$Land" "width" "[I") (by decide +kernel)) (fun _ h9 => h9) rfl dX0_stopUp_20 ?_
      refine lv_iload_n (pc := 23) hx hb dX0_stopUp_23 rfl (lv_at hl 1 rfl) ?_
      refine lv_bipush (pc := 24) (v := 9) hx hb dX0_stopUp_24 (by decide) ?_
      refine va_iast (pc := 26) (f := L 3) (n := 10) hx hb hK.1 hP hD hS 1 0 rfl rfl h4 dX0_stopUp_26 (fun H locs hP hD hS => ?_)
      have hP : va_P D vwCl (wL cI oL aL (sB L 3 p0.toNatClampNeg 9)) H := hP
      have hD : va_D A (wL cI oL aL (sB L 3 p0.toNatClampNeg 9)) := hD
      obtain ⟨L_6, h7, hf⟩ := bd hf
      have h7 := Option.some.inj h7
      rw [h7] at hP hD
      refine lv_iconst (pc := 27) (v := 1) hx hb dX0_stopUp_27 (by decide) ?_
      obtain rfl := Option.some.inj hf
      exact hRet 28 ls H locs (nzB (Or.inr rfl)) dX0_stopUp_28 hP hS
    · have hf := iT c5 hf
      refine lv_iconst (pc := 17) (v := 0) hx hb dX0_stopUp_17 (by decide) ?_
      obtain rfl := Option.some.inj hf
      exact hRet 18 ls s.heap [] (nzB (Or.inl rfl)) dX0_stopUp_18 hP hS
theorem hdX0_stopUp : yX0_stopUp.cls ≠ "java/lang/invoke/MethodHandle" ∧ yX0_stopUp.cls ≠ "java/lang/invoke/VarHandle" ∧ (parseMethodDescriptor yX0_stopUp.desc).map (fun d => d.parameters.length) = some 1 := by decide +kernel
abbrev rmX0_acts : Room := { frames := 4, cells := 0, slots := 0, locals := 90 }
theorem inX0_acts_X0 : ∀ w ∈ wsX00, w ∈ wsX0_acts := fun _ h => List.mem_cons_of_mem _ (List.mem_append_right _ h)
set_option maxHeartbeats 4000000 in
set_option maxRecDepth 100000 in
theorem mtX0_acts (l : Launch) (D : va_G) (cI cZ cQ : ClassId) (oL : Nat) (aL : Nat → Nat) (L : Bk) (p0 : Int32) (p1 : Int32) (sz : Nat) (out : (Int32 × Bk)) (hf : fX0_acts L p0 p1 = some out) : Met l yX0_acts wsX0_acts rmX0_acts (WrP D cI cZ cQ [.ref oL, .int p0, .int p1] (wL cI oL aL L) sz) (WrQi D out.1 (wL cI oL aL L) (wL cI oL aL out.2) sz) 0 0 (va_A (wL cI oL aL L) sz) := by
  refine metWi (ty := .boolean) (cc := cX0_acts) (maxL := 3) (by decide) rfl (Nat.le_of_ble_eq_true rfl) ?_
  intro p e s m args below meth c Q A CF hK hP hD hA hRet ls hl
  obtain ⟨hx, hb, hml, hown, hts⟩ := id CF
  have hS : va_S A s.heap s.heap [] := va_S.rf
  have hl : lv_has ls 3 [(0, .ref oL), (1, .int p0), (2, .int p1)] := hl
  unfold fX0_acts at hf
  refine lv_iload_n (pc := 0) hx hb dX0_acts_0 rfl (lv_at hl 2 rfl) ?_
  refine lv_bipush (pc := 1) (v := 10) hx hb dX0_acts_1 (by decide) ?_
  refine lv_icmp_ne (pc := 3) (tgt := 13) hx hb dX0_acts_3 (by decide) (fun c1 => ?_) (fun c1 => ?_)
  · have hf := iF c1 hf
    refine lv_iload_n (pc := 13) hx hb dX0_acts_13 rfl (lv_at hl 2 rfl) ?_
    refine lv_bipush (pc := 14) (v := 20) hx hb dX0_acts_14 (by decide) ?_
    refine lv_icmp_ne (pc := 16) (tgt := 25) hx hb dX0_acts_16 (by decide) (fun c2 => ?_) (fun c2 => ?_)
    · have hf := iF c2 hf
      refine lv_iload_n (pc := 25) hx hb dX0_acts_25 rfl (lv_at hl 2 rfl) ?_
      refine lv_aload_n (pc := 26) hx hb dX0_acts_26 rfl (lv_at hl 0 rfl) ?_
      refine va_get (pc := 27) (D := D) (ci := 0) (v := .int (L 0 0)) (C := RX0) (T := TX0) (N := 8) hx hb hts inX0_acts_X0 hown hK.1 hP 0 rfl rfl 0 (by decide) (hts (.fieldLink RX0 9 "HedgeHoles$Land" "fields" "I") (by decide +kernel)) (fun _ h9 => h9) rfl dX0_acts_27 ?_
      refine lv_icmp_ge (pc := 30) (tgt := 42) hx hb dX0_acts_30 (by decide) (fun c3 => ?_) (fun c3 => ?_)
      · have hf := iT c3 hf
        refine lv_iconst (pc := 42) (v := 0) hx hb dX0_acts_42 (by decide) ?_
        obtain rfl := Option.some.inj hf
        exact hRet 43 ls s.heap [] (nzB (Or.inl rfl)) dX0_acts_43 hP hS
      · have hf := iF c3 hf
        refine lv_aload_n (pc := 33) hx hb dX0_acts_33 rfl (lv_at hl 0 rfl) ?_
        refine lv_iload_n (pc := 34) hx hb dX0_acts_34 rfl (lv_at hl 1 rfl) ?_
        refine lv_iload_n (pc := 35) hx hb dX0_acts_35 rfl (lv_at hl 2 rfl) ?_
        obtain ⟨v4, h5, hf⟩ := bd hf
        refine roVi (pc := 36) (As := [.int p0, .int p1]) (rest := []) CF (mtX0_canMove l D cI cZ cQ oL aL L p0 p1 v4 h5) (cwV 2 hts gX0_acts_X0_canMove rfl rfl rfl ⟨rfl, hdX0_canMove⟩ ⟨Nat.le_of_ble_eq_true rfl, Nat.le_of_ble_eq_true rfl⟩) hK hP rfl rfl rfl rfl hl.1 rfl (Nat.le_of_ble_eq_true rfl) dX0_acts_36 ?_
        refine lv_if_ne (pc := 39) (tgt := 44) hx hb dX0_acts_39 (by decide) (fun c6 => ?_) (fun c6 => ?_)
        · have hf := iF c6 hf
          refine lv_aload_n (pc := 44) hx hb dX0_acts_44 rfl (lv_at hl 0 rfl) ?_
          refine lv_iload_n (pc := 45) hx hb dX0_acts_45 rfl (lv_at hl 1 rfl) ?_
          refine lv_iload_n (pc := 46) hx hb dX0_acts_46 rfl (lv_at hl 2 rfl) ?_
          obtain ⟨v7, h8, hf⟩ := bd hf
          refine wsVv (pc := 47) (As := [.int p0, .int p1]) (rest := []) (w1 := wL cI oL aL v7) CF (mtX0_move l D cI cZ cQ oL aL L p0 p1 s.heap.size v7 h8) (cwV 2 hts gX0_acts_X0_move rfl rfl rfl ⟨rfl, hdX0_move⟩ ⟨Nat.le_of_ble_eq_true rfl, Nat.le_of_ble_eq_true rfl⟩) hK hP hD hS hA rfl rfl rfl rfl rfl hl.1 rfl (Nat.le_of_ble_eq_true rfl) dX0_acts_47 (fun H locs hP hD hS => ?_)
          refine lv_iconst (pc := 50) (v := 1) hx hb dX0_acts_50 (by decide) ?_
          obtain rfl := Option.some.inj hf
          exact hRet 51 ls H locs (nzB (Or.inr rfl)) dX0_acts_51 hP hS
        · have hf := iT c6 hf
          refine lv_iconst (pc := 42) (v := 0) hx hb dX0_acts_42 (by decide) ?_
          obtain rfl := Option.some.inj hf
          exact hRet 43 ls s.heap [] (nzB (Or.inl rfl)) dX0_acts_43 hP hS
    · have hf := iT c2 hf
      refine lv_aload_n (pc := 19) hx hb dX0_acts_19 rfl (lv_at hl 0 rfl) ?_
      refine lv_iload_n (pc := 20) hx hb dX0_acts_20 rfl (lv_at hl 1 rfl) ?_
      obtain ⟨v9, h10, hf⟩ := bd hf
      refine wsVi (pc := 21) (As := [.int p0]) (rest := []) (w1 := wL cI oL aL v9.2) CF (mtX0_stopUp l D cI cZ cQ oL aL L p0 s.heap.size v9 h10) (cwV 1 hts gX0_acts_X0_stopUp rfl rfl rfl ⟨rfl, hdX0_stopUp⟩ ⟨Nat.le_of_ble_eq_true rfl, Nat.le_of_ble_eq_true rfl⟩) hK hP hD hS hA rfl rfl rfl rfl rfl hl.1 rfl (Nat.le_of_ble_eq_true rfl) dX0_acts_21 (fun H locs hP hD hS => ?_)
      obtain ⟨h11, hf⟩ := gB_e hf
      obtain rfl := Option.some.inj hf
      exact hRet 24 ls H locs (nzB h11) dX0_acts_24 hP hS
  · have hf := iT c1 hf
    refine lv_aload_n (pc := 6) hx hb dX0_acts_6 rfl (lv_at hl 0 rfl) ?_
    refine lv_iload_n (pc := 7) hx hb dX0_acts_7 rfl (lv_at hl 1 rfl) ?_
    obtain ⟨v12, h13, hf⟩ := bd hf
    refine wsVv (pc := 8) (As := [.int p0]) (rest := []) (w1 := wL cI oL aL v12) CF (mtX0_age l D cI cZ cQ oL aL L p0 s.heap.size v12 h13) (cwV 1 hts gX0_acts_X0_age rfl rfl rfl ⟨rfl, hdX0_age⟩ ⟨Nat.le_of_ble_eq_true rfl, Nat.le_of_ble_eq_true rfl⟩) hK hP hD hS hA rfl rfl rfl rfl rfl hl.1 rfl (Nat.le_of_ble_eq_true rfl) dX0_acts_8 (fun H locs hP hD hS => ?_)
    refine lv_iconst (pc := 11) (v := 1) hx hb dX0_acts_11 (by decide) ?_
    obtain rfl := Option.some.inj hf
    exact hRet 12 ls H locs (nzB (Or.inr rfl)) dX0_acts_12 hP hS
theorem hdX0_acts : yX0_acts.cls ≠ "java/lang/invoke/MethodHandle" ∧ yX0_acts.cls ≠ "java/lang/invoke/VarHandle" ∧ (parseMethodDescriptor yX0_acts.desc).map (fun d => d.parameters.length) = some 2 := by decide +kernel
abbrev rmX0_openHoles : Room := { frames := 1, cells := 0, slots := 0, locals := 20 }
theorem inX0_openHoles_X0 : ∀ w ∈ wsX00, w ∈ wsX0_openHoles := fun _ h => List.mem_cons_of_mem _ (List.mem_append_right _ h)
set_option maxHeartbeats 4000000 in
set_option maxRecDepth 100000 in
theorem mtX0_openHoles (l : Launch) (D : va_G) (cI cZ cQ : ClassId) (oL : Nat) (aL : Nat → Nat) (L : Bk)  (out : Int32) (hf : fX0_openHoles L = some out) : Met l yX0_openHoles wsX0_openHoles rmX0_openHoles (RoP D cI cZ cQ [.ref oL] (wL cI oL aL L)) (vp_Si (fun r' => r' = out)) 0 0 (fun _ => False) := by
  refine metRi (ty := .int) (cc := cX0_openHoles) (maxL := 3) (by decide) rfl (Nat.le_of_ble_eq_true rfl) ?_
  intro p e s m args below meth c Q CF hK hP hRet ls hl
  obtain ⟨hx, hb, hml, hown, hts⟩ := id CF
  have hl : lv_has ls 3 [(0, .ref oL)] := hl
  unfold fX0_openHoles at hf
  refine lv_iconst (pc := 0) (v := 0) hx hb dX0_openHoles_0 (by decide) ?_
  refine lv_istore_n (pc := 1) (lv' := [(1, .int 0), (0, .ref oL)]) hx hb dX0_openHoles_1 rfl hl (by decide) rfl (fun ls hl => ?_)
  refine lv_iconst (pc := 2) (v := 0) hx hb dX0_openHoles_2 (by decide) ?_
  refine lv_istore_n (pc := 3) (lv' := [(2, .int 0), (1, .int 0), (0, .ref oL)]) hx hb dX0_openHoles_3 rfl hl (by decide) rfl (fun ls hl => ?_)
  refine zl2 (G := FX0_openHoles_4 L) (fun x1_1 x2_2 => ∀ (ls : Array Slot), lv_has ls 3 [(0, .ref oL), (1, .int x1_1), (2, .int x2_2)] → W p l e rmX0_openHoles s m args below meth c s.heap [] 0 0 Q (F0 m 4 ls [])) (fun x1_3 x2_4 => ∀ (ls : Array Slot), lv_has ls 3 [(0, .ref oL), (1, .int x1_3), (2, .int x2_4)] → W p l e rmX0_openHoles s m args below meth c s.heap [] 0 0 Q (F0 m 35 ls [])) hf (fun x1_3 x2_4 hf => ?_) (fun kx slf hkx hslf x1_1 x2_2 hf => ?_) ls (lv_sub hl [2, 1, 0] rfl)
  · intro ls hl
    refine lv_iload_n (pc := 35) hx hb dX0_openHoles_35 rfl (lv_at hl 1 rfl) ?_
    obtain rfl := Option.some.inj hf
    exact hRet 36 ls (vp_nar_int _) dX0_openHoles_36
  · unfold FX0_openHoles_4 at hf
    intro ls hl
    refine lv_iload_n (pc := 4) hx hb dX0_openHoles_4 rfl (lv_at hl 2 rfl) ?_
    refine lv_aload_n (pc := 5) hx hb dX0_openHoles_5 rfl (lv_at hl 0 rfl) ?_
    obtain ⟨v5, h6, hf⟩ := bd hf
    refine roVi (pc := 6) (As := []) (rest := [.int x2_2]) CF (mtX0_hedges l D cI cZ cQ oL aL L v5 h6) (cwV 0 hts gX0_openHoles_X0_hedges rfl rfl rfl ⟨rfl, hdX0_hedges⟩ ⟨Nat.le_of_ble_eq_true rfl, Nat.le_of_ble_eq_true rfl⟩) hK hP rfl rfl rfl rfl hl.1 rfl (Nat.le_of_ble_eq_true rfl) dX0_openHoles_6 ?_
    refine lv_icmp_ge (pc := 9) (tgt := 35) hx hb dX0_openHoles_9 (by decide) (fun c7 => ?_) (fun c7 => ?_)
    · have hf := iT c7 hf
      exact hkx _ _ hf ls (lv_sub hl [0, 1, 2] rfl)
    · have hf := iF c7 hf
      refine lv_iload_n (pc := 12) hx hb dX0_openHoles_12 rfl (lv_at hl 1 rfl) ?_
      refine lv_aload_n (pc := 13) hx hb dX0_openHoles_13 rfl (lv_at hl 0 rfl) ?_
      refine va_get (pc := 14) (D := D) (ci := 0) (v := .ref (aL 3)) (C := RX0) (T := TX0) (N := 8) hx hb hts inX0_openHoles_X0 hown hK.1 hP 0 rfl rfl 3 (by decide) (hts (.fieldLink RX0 21 "HedgeHoles$Land" "width" "[I") (by decide +kernel)) (fun _ h9 => h9) rfl dX0_openHoles_14 ?_
      refine lv_iload_n (pc := 17) hx hb dX0_openHoles_17 rfl (lv_at hl 2 rfl) ?_
      obtain ⟨h8, hf⟩ := gI_e hf
      refine va_iald (pc := 18) (f := L 3) (n := 10) hx hb hK.1 hP 1 0 rfl rfl h8 dX0_openHoles_18 ?_
      obtain ⟨v9, hv, hf⟩ := bd hf
      have J10 : ∀ (ls : Array Slot), lv_has ls 3 [(0, .ref oL), (1, .int x1_1), (2, .int x2_2)] → W p l e rmX0_openHoles s m args below meth c s.heap [] 0 0 Q (F0 m 27 ls [.int v9, .int x1_1]) := by
        intro ls hl
        refine lv_iadd (pc := 27) hx hb dX0_openHoles_27 ?_
        refine lv_istore_n (pc := 28) (lv' := [(1, .int (x1_1 + v9)), (0, .ref oL), (2, .int x2_2)]) hx hb dX0_openHoles_28 rfl hl (by decide) rfl (fun ls hl => ?_)
        refine lv_iinc (pc := 29) (v := (x2_2 + 1)) (lv' := [(2, .int (x2_2 + 1)), (1, .int (x1_1 + v9)), (0, .ref oL)]) hx hb dX0_openHoles_29 hl (k := 2) rfl rfl (by decide) rfl (fun ls hl => ?_)
        refine lv_goto (pc := 32) (tgt := 4) hx hb dX0_openHoles_32 (by decide) ?_
        exact hslf _ _ hf ls (lv_sub hl [2, 1, 0] rfl)
      clear hf
      have hf := hv
      clear hv
      refine lv_if_le (pc := 19) (tgt := 26) hx hb dX0_openHoles_19 (by decide) (fun c11 => ?_) (fun c11 => ?_)
      · have hf := iT c11 hf
        refine lv_iconst (pc := 26) (v := 0) hx hb dX0_openHoles_26 (by decide) ?_
        obtain rfl := Option.some.inj hf
        exact J10 ls (lv_sub hl [0, 1, 2] rfl)
      · have hf := iF c11 hf
        refine lv_iconst (pc := 22) (v := 1) hx hb dX0_openHoles_22 (by decide) ?_
        refine lv_goto (pc := 23) (tgt := 27) hx hb dX0_openHoles_23 (by decide) ?_
        obtain rfl := Option.some.inj hf
        exact J10 ls (lv_sub hl [0, 1, 2] rfl)
theorem hdX0_openHoles : yX0_openHoles.cls ≠ "java/lang/invoke/MethodHandle" ∧ yX0_openHoles.cls ≠ "java/lang/invoke/VarHandle" ∧ (parseMethodDescriptor yX0_openHoles.desc).map (fun d => d.parameters.length) = some 0 := by decide +kernel
abbrev rmX0_peopled : Room := { frames := 0, cells := 0, slots := 0, locals := 0 }
theorem inX0_peopled_X0 : ∀ w ∈ wsX00, w ∈ wsX0_peopled := fun _ h => List.mem_cons_of_mem _ (List.mem_append_right _ h)
set_option maxHeartbeats 4000000 in
set_option maxRecDepth 100000 in
theorem mtX0_peopled (l : Launch) (D : va_G) (cI cZ cQ : ClassId) (oL : Nat) (aL : Nat → Nat) (L : Bk)  (out : Int32) (hf : fX0_peopled L = some out) : Met l yX0_peopled wsX0_peopled rmX0_peopled (RoP D cI cZ cQ [.ref oL] (wL cI oL aL L)) (vp_Si (fun r' => r' = out)) 0 0 (fun _ => False) := by
  refine metRi (ty := .int) (cc := cX0_peopled) (maxL := 3) (by decide) rfl (Nat.le_of_ble_eq_true rfl) ?_
  intro p e s m args below meth c Q CF hK hP hRet ls hl
  obtain ⟨hx, hb, hml, hown, hts⟩ := id CF
  have hl : lv_has ls 3 [(0, .ref oL)] := hl
  unfold fX0_peopled at hf
  refine lv_iconst (pc := 0) (v := 0) hx hb dX0_peopled_0 (by decide) ?_
  refine lv_istore_n (pc := 1) (lv' := [(1, .int 0), (0, .ref oL)]) hx hb dX0_peopled_1 rfl hl (by decide) rfl (fun ls hl => ?_)
  refine lv_iconst (pc := 2) (v := 0) hx hb dX0_peopled_2 (by decide) ?_
  refine lv_istore_n (pc := 3) (lv' := [(2, .int 0), (1, .int 0), (0, .ref oL)]) hx hb dX0_peopled_3 rfl hl (by decide) rfl (fun ls hl => ?_)
  refine zl2 (G := FX0_peopled_4 L) (fun x1_1 x2_2 => ∀ (ls : Array Slot), lv_has ls 3 [(0, .ref oL), (1, .int x1_1), (2, .int x2_2)] → W p l e rmX0_peopled s m args below meth c s.heap [] 0 0 Q (F0 m 4 ls [])) (fun x1_3 x2_4 => ∀ (ls : Array Slot), lv_has ls 3 [(0, .ref oL), (1, .int x1_3), (2, .int x2_4)] → W p l e rmX0_peopled s m args below meth c s.heap [] 0 0 Q (F0 m 29 ls [])) hf (fun x1_3 x2_4 hf => ?_) (fun kx slf hkx hslf x1_1 x2_2 hf => ?_) ls (lv_sub hl [2, 1, 0] rfl)
  · intro ls hl
    refine lv_iload_n (pc := 29) hx hb dX0_peopled_29 rfl (lv_at hl 1 rfl) ?_
    obtain rfl := Option.some.inj hf
    exact hRet 30 ls (vp_nar_int _) dX0_peopled_30
  · unfold FX0_peopled_4 at hf
    intro ls hl
    refine lv_iload_n (pc := 4) hx hb dX0_peopled_4 rfl (lv_at hl 2 rfl) ?_
    refine lv_aload_n (pc := 5) hx hb dX0_peopled_5 rfl (lv_at hl 0 rfl) ?_
    refine va_get (pc := 6) (D := D) (ci := 0) (v := .int (L 1 0)) (C := RX0) (T := TX0) (N := 8) hx hb hts inX0_peopled_X0 hown hK.1 hP 0 rfl rfl 1 (by decide) (hts (.fieldLink RX0 15 "HedgeHoles$Land" "goers" "I") (by decide +kernel)) (fun _ h9 => h9) rfl dX0_peopled_6 ?_
    refine lv_icmp_ge (pc := 9) (tgt := 29) hx hb dX0_peopled_9 (by decide) (fun c5 => ?_) (fun c5 => ?_)
    · have hf := iT c5 hf
      exact hkx _ _ hf ls (lv_sub hl [0, 1, 2] rfl)
    · have hf := iF c5 hf
      refine lv_iload_n (pc := 12) hx hb dX0_peopled_12 rfl (lv_at hl 1 rfl) ?_
      refine lv_iconst (pc := 13) (v := 1) hx hb dX0_peopled_13 (by decide) ?_
      refine lv_aload_n (pc := 14) hx hb dX0_peopled_14 rfl (lv_at hl 0 rfl) ?_
      refine va_get (pc := 15) (D := D) (ci := 0) (v := .ref (aL 6)) (C := RX0) (T := TX0) (N := 8) hx hb hts inX0_peopled_X0 hown hK.1 hP 0 rfl rfl 6 (by decide) (hts (.fieldLink RX0 31 "HedgeHoles$Land" "place" "[I") (by decide +kernel)) (fun _ h9 => h9) rfl dX0_peopled_15 ?_
      refine lv_iload_n (pc := 18) hx hb dX0_peopled_18 rfl (lv_at hl 2 rfl) ?_
      obtain ⟨h6, hf⟩ := gI_e hf
      refine va_iald (pc := 19) (f := L 6) (n := 5) hx hb hK.1 hP 4 0 rfl rfl h6 dX0_peopled_19 ?_
      refine lv_ishl (pc := 20) hx hb dX0_peopled_20 ?_
      refine lv_ior (pc := 21) hx hb dX0_peopled_21 ?_
      refine lv_istore_n (pc := 22) (lv' := [(1, .int (x1_1 ||| (1 <<< ((L 6 x2_2.toNatClampNeg) &&& 31)))), (0, .ref oL), (2, .int x2_2)]) hx hb dX0_peopled_22 rfl hl (by decide) rfl (fun ls hl => ?_)
      refine lv_iinc (pc := 23) (v := (x2_2 + 1)) (lv' := [(2, .int (x2_2 + 1)), (1, .int (x1_1 ||| (1 <<< ((L 6 x2_2.toNatClampNeg) &&& 31)))), (0, .ref oL)]) hx hb dX0_peopled_23 hl (k := 2) rfl rfl (by decide) rfl (fun ls hl => ?_)
      refine lv_goto (pc := 26) (tgt := 4) hx hb dX0_peopled_26 (by decide) ?_
      exact hslf _ _ hf ls (lv_sub hl [2, 1, 0] rfl)
theorem hdX0_peopled : yX0_peopled.cls ≠ "java/lang/invoke/MethodHandle" ∧ yX0_peopled.cls ≠ "java/lang/invoke/VarHandle" ∧ (parseMethodDescriptor yX0_peopled.desc).map (fun d => d.parameters.length) = some 0 := by decide +kernel
abbrev rmX0_reachOf : Room := { frames := 3, cells := 0, slots := 0, locals := 68 }
theorem inX0_reachOf_X0 : ∀ w ∈ wsX00, w ∈ wsX0_reachOf := fun _ h => List.mem_cons_of_mem _ (List.mem_append_right _ h)
set_option maxHeartbeats 4000000 in
set_option maxRecDepth 100000 in
theorem mtX0_reachOf (l : Launch) (D : va_G) (cI cZ cQ : ClassId) (oL : Nat) (aL : Nat → Nat) (L : Bk) (p0 : Int32) (p1 : Int32) (out : Int32) (hf : fX0_reachOf L p0 p1 = some out) : Met l yX0_reachOf wsX0_reachOf rmX0_reachOf (RoP D cI cZ cQ [.ref oL, .int p0, .int p1] (wL cI oL aL L)) (vp_Si (fun r' => r' = out)) 0 0 (fun _ => False) := by
  refine metRi (ty := .int) (cc := cX0_reachOf) (maxL := 7) (by decide) rfl (Nat.le_of_ble_eq_true rfl) ?_
  intro p e s m args below meth c Q CF hK hP hRet ls hl
  obtain ⟨hx, hb, hml, hown, hts⟩ := id CF
  have hl : lv_has ls 7 [(0, .ref oL), (1, .int p0), (2, .int p1)] := hl
  unfold fX0_reachOf at hf
  refine lv_iconst (pc := 0) (v := 1) hx hb dX0_reachOf_0 (by decide) ?_
  refine lv_iload_n (pc := 1) hx hb dX0_reachOf_1 rfl (lv_at hl 1 rfl) ?_
  refine lv_ishl (pc := 2) hx hb dX0_reachOf_2 ?_
  refine lv_istore_n (pc := 3) (lv' := [(3, .int (1 <<< (p0 &&& 31))), (0, .ref oL), (1, .int p0), (2, .int p1)]) hx hb dX0_reachOf_3 rfl hl (by decide) rfl (fun ls hl => ?_)
  refine lv_iconst (pc := 4) (v := 1) hx hb dX0_reachOf_4 (by decide) ?_
  refine lv_istore (pc := 5) (lv' := [(4, .int 1), (3, .int (1 <<< (p0 &&& 31))), (0, .ref oL), (1, .int p0), (2, .int p1)]) hx hb dX0_reachOf_5 hl (by decide) rfl (fun ls hl => ?_)
  refine zl2 (G := FX0_reachOf_7 p1 L) (fun x3_1 x4_2 => ∀ (ls : Array Slot), lv_has ls 7 [(0, .ref oL), (1, .int p0), (2, .int p1), (3, .int x3_1), (4, .int x4_2)] → W p l e rmX0_reachOf s m args below meth c s.heap [] 0 0 Q (F0 m 7 ls [])) (fun x3_3 x4_4 => ∀ (ls : Array Slot), lv_has ls 7 [(0, .ref oL), (1, .int p0), (2, .int p1), (3, .int x3_3), (4, .int x4_4)] → W p l e rmX0_reachOf s m args below meth c s.heap [] 0 0 Q (F0 m 86 ls [])) hf (fun x3_3 x4_4 hf => ?_) (fun kx slf hkx hslf x3_1 x4_2 hf => ?_) ls (lv_sub hl [2, 3, 4, 1, 0] rfl)
  · intro ls hl
    refine lv_iload_n (pc := 86) hx hb dX0_reachOf_86 rfl (lv_at hl 3 rfl) ?_
    obtain rfl := Option.some.inj hf
    exact hRet 87 ls (vp_nar_int _) dX0_reachOf_87
  · unfold FX0_reachOf_7 at hf
    intro ls hl
    refine lv_iload (pc := 7) hx hb dX0_reachOf_7 (lv_at hl 4 rfl) ?_
    refine lv_aload_n (pc := 9) hx hb dX0_reachOf_9 rfl (lv_at hl 0 rfl) ?_
    refine va_get (pc := 10) (D := D) (ci := 0) (v := .int (L 0 0)) (C := RX0) (T := TX0) (N := 8) hx hb hts inX0_reachOf_X0 hown hK.1 hP 0 rfl rfl 0 (by decide) (hts (.fieldLink RX0 9 "HedgeHoles$Land" "fields" "I") (by decide +kernel)) (fun _ h9 => h9) rfl dX0_reachOf_10 ?_
    refine lv_icmp_ge (pc := 13) (tgt := 86) hx hb dX0_reachOf_13 (by decide) (fun c5 => ?_) (fun c5 => ?_)
    · have hf := iT c5 hf
      exact hkx _ _ hf ls (lv_sub hl [0, 1, 2, 3, 4] rfl)
    · have hf := iF c5 hf
      refine lv_iconst (pc := 16) (v := 0) hx hb dX0_reachOf_16 (by decide) ?_
      refine lv_istore (pc := 17) (lv' := [(5, .int 0), (0, .ref oL), (1, .int p0), (2, .int p1), (3, .int x3_1), (4, .int x4_2)]) hx hb dX0_reachOf_17 hl (by decide) rfl (fun ls hl => ?_)
      refine zl2 (G := FX0_reachOf_19 p1 L) (fun x3_6 x5_7 => ∀ (ls : Array Slot), lv_has ls 7 [(0, .ref oL), (1, .int p0), (2, .int p1), (3, .int x3_6), (4, .int x4_2), (5, .int x5_7)] → W p l e rmX0_reachOf s m args below meth c s.heap [] 0 0 Q (F0 m 19 ls [])) (fun x3_8 x5_9 => ∀ (ls : Array Slot), lv_has ls 7 [(0, .ref oL), (1, .int p0), (2, .int p1), (3, .int x3_8), (4, .int x4_2), (5, .int x5_9)] → W p l e rmX0_reachOf s m args below meth c s.heap [] 0 0 Q (F0 m 80 ls [])) hf (fun x3_8 x5_9 hf => ?_) (fun kx slf hkx hslf x3_6 x5_7 hf => ?_) ls (lv_sub hl [1, 2, 3, 4, 5, 0] rfl)
      · intro ls hl
        refine lv_iinc (pc := 80) (v := (x4_2 + 1)) (lv' := [(4, .int (x4_2 + 1)), (0, .ref oL), (1, .int p0), (2, .int p1), (3, .int x3_8), (5, .int x5_9)]) hx hb dX0_reachOf_80 hl (k := 4) rfl rfl (by decide) rfl (fun ls hl => ?_)
        refine lv_goto (pc := 83) (tgt := 7) hx hb dX0_reachOf_83 (by decide) ?_
        exact hslf _ _ hf ls (lv_sub hl [1, 2, 3, 4, 0] rfl)
      · unfold FX0_reachOf_19 at hf
        intro ls hl
        refine lv_iload (pc := 19) hx hb dX0_reachOf_19 (lv_at hl 5 rfl) ?_
        refine lv_aload_n (pc := 21) hx hb dX0_reachOf_21 rfl (lv_at hl 0 rfl) ?_
        refine va_get (pc := 22) (D := D) (ci := 0) (v := .int (L 0 0)) (C := RX0) (T := TX0) (N := 8) hx hb hts inX0_reachOf_X0 hown hK.1 hP 0 rfl rfl 0 (by decide) (hts (.fieldLink RX0 9 "HedgeHoles$Land" "fields" "I") (by decide +kernel)) (fun _ h9 => h9) rfl dX0_reachOf_22 ?_
        refine lv_icmp_ge (pc := 25) (tgt := 80) hx hb dX0_reachOf_25 (by decide) (fun c10 => ?_) (fun c10 => ?_)
        · have hf := iT c10 hf
          exact hkx _ _ hf ls (lv_sub hl [0, 1, 2, 3, 4, 5] rfl)
        · have hf := iF c10 hf
          refine lv_iconst (pc := 28) (v := 0) hx hb dX0_reachOf_28 (by decide) ?_
          refine lv_istore (pc := 29) (lv' := [(6, .int 0), (0, .ref oL), (1, .int p0), (2, .int p1), (3, .int x3_6), (4, .int x4_2), (5, .int x5_7)]) hx hb dX0_reachOf_29 hl (by decide) rfl (fun ls hl => ?_)
          refine zl2 (G := FX0_reachOf_31 p1 L x5_7) (fun x3_11 x6_12 => ∀ (ls : Array Slot), lv_has ls 7 [(0, .ref oL), (1, .int p0), (2, .int p1), (3, .int x3_11), (4, .int x4_2), (5, .int x5_7), (6, .int x6_12)] → W p l e rmX0_reachOf s m args below meth c s.heap [] 0 0 Q (F0 m 31 ls [])) (fun x3_13 x6_14 => ∀ (ls : Array Slot), lv_has ls 7 [(0, .ref oL), (1, .int p0), (2, .int p1), (3, .int x3_13), (4, .int x4_2), (5, .int x5_7), (6, .int x6_14)] → W p l e rmX0_reachOf s m args below meth c s.heap [] 0 0 Q (F0 m 74 ls [])) hf (fun x3_13 x6_14 hf => ?_) (fun kx slf hkx hslf x3_11 x6_12 hf => ?_) ls (lv_sub hl [1, 2, 3, 4, 5, 6, 0] rfl)
          · intro ls hl
            refine lv_iinc (pc := 74) (v := (x5_7 + 1)) (lv' := [(5, .int (x5_7 + 1)), (0, .ref oL), (1, .int p0), (2, .int p1), (3, .int x3_13), (4, .int x4_2), (6, .int x6_14)]) hx hb dX0_reachOf_74 hl (k := 5) rfl rfl (by decide) rfl (fun ls hl => ?_)
            refine lv_goto (pc := 77) (tgt := 19) hx hb dX0_reachOf_77 (by decide) ?_
            exact hslf _ _ hf ls (lv_sub hl [1, 2, 3, 4, 5, 0] rfl)
          · unfold FX0_reachOf_31 at hf
            intro ls hl
            refine lv_iload (pc := 31) hx hb dX0_reachOf_31 (lv_at hl 6 rfl) ?_
            refine lv_aload_n (pc := 33) hx hb dX0_reachOf_33 rfl (lv_at hl 0 rfl) ?_
            refine va_get (pc := 34) (D := D) (ci := 0) (v := .int (L 0 0)) (C := RX0) (T := TX0) (N := 8) hx hb hts inX0_reachOf_X0 hown hK.1 hP 0 rfl rfl 0 (by decide) (hts (.fieldLink RX0 9 "HedgeHoles$Land" "fields" "I") (by decide +kernel)) (fun _ h9 => h9) rfl dX0_reachOf_34 ?_
            refine lv_icmp_ge (pc := 37) (tgt := 74) hx hb dX0_reachOf_37 (by decide) (fun c15 => ?_) (fun c15 => ?_)
            · have hf := iT c15 hf
              exact hkx _ _ hf ls (lv_sub hl [0, 1, 2, 3, 4, 5, 6] rfl)
            · have hf := iF c15 hf
              refine lv_iload_n (pc := 40) hx hb dX0_reachOf_40 rfl (lv_at hl 3 rfl) ?_
              refine lv_iload (pc := 41) hx hb dX0_reachOf_41 (lv_at hl 5 rfl) ?_
              obtain ⟨v16, h17, hf⟩ := bd hf
              refine roNi (pc := 43) (As := [.int x3_11, .int x5_7]) (rest := []) CF (mtX3_isIn l D cI cZ cQ x3_11 x5_7 v16 h17) (va_cnB 2 hts gX0_reachOf_X3_isIn_n84 rfl rfl rfl hK.2.2.2.2.1 (hts (.initialized RX3) (by decide +kernel)) hdX3_isIn ⟨Nat.le_of_ble_eq_true rfl, Nat.le_of_ble_eq_true rfl⟩) (hts (.static yX3_isIn) (by decide +kernel)) hK P0 rfl hl.1 rfl (Nat.le_of_ble_eq_true rfl) dX0_reachOf_43 ?_
              obtain ⟨v18, hv, hf⟩ := bd hf
              have J19 : ∀ (ls : Array Slot), lv_has ls 7 [(0, .ref oL), (1, .int p0), (2, .int p1), (3, .int v18), (4, .int x4_2), (5, .int x5_7), (6, .int x6_12)] → W p l e rmX0_reachOf s m args below meth c s.heap [] 0 0 Q (F0 m 68 ls []) := by
                intro ls hl
                refine lv_iinc (pc := 68) (v := (x6_12 + 1)) (lv' := [(6, .int (x6_12 + 1)), (0, .ref oL), (1, .int p0), (2, .int p1), (3, .int v18), (4, .int x4_2), (5, .int x5_7)]) hx hb dX0_reachOf_68 hl (k := 6) rfl rfl (by decide) rfl (fun ls hl => ?_)
                refine lv_goto (pc := 71) (tgt := 31) hx hb dX0_reachOf_71 (by decide) ?_
                exact hslf _ _ hf ls (lv_sub hl [1, 2, 3, 4, 5, 6, 0] rfl)
              clear hf
              have hf := hv
              clear hv
              refine lv_if_eq (pc := 46) (tgt := 68) hx hb dX0_reachOf_46 (by decide) (fun c20 => ?_) (fun c20 => ?_)
              · have hf := iT c20 hf
                obtain rfl := Option.some.inj hf
                exact J19 ls (lv_sub hl [0, 1, 2, 3, 4, 5, 6] rfl)
              · have hf := iF c20 hf
                refine lv_aload_n (pc := 49) hx hb dX0_reachOf_49 rfl (lv_at hl 0 rfl) ?_
                refine lv_iload (pc := 50) hx hb dX0_reachOf_50 (lv_at hl 5 rfl) ?_
                refine lv_iload (pc := 52) hx hb dX0_reachOf_52 (lv_at hl 6 rfl) ?_
                refine lv_iload_n (pc := 54) hx hb dX0_reachOf_54 rfl (lv_at hl 2 rfl) ?_
                obtain ⟨v21, h22, hf⟩ := bd hf
                refine roVi (pc := 55) (As := [.int x5_7, .int x6_12, .int p1]) (rest := []) CF (mtX0_letsBetween l D cI cZ cQ oL aL L x5_7 x6_12 p1 v21 h22) (cwV 3 hts gX0_reachOf_X0_letsBetween rfl rfl rfl ⟨rfl, hdX0_letsBetween⟩ ⟨Nat.le_of_ble_eq_true rfl, Nat.le_of_ble_eq_true rfl⟩) hK hP rfl rfl rfl rfl hl.1 rfl (Nat.le_of_ble_eq_true rfl) dX0_reachOf_55 ?_
                refine lv_if_eq (pc := 58) (tgt := 68) hx hb dX0_reachOf_58 (by decide) (fun c23 => ?_) (fun c23 => ?_)
                · have hf := iT c23 hf
                  obtain rfl := Option.some.inj hf
                  exact J19 ls (lv_sub hl [0, 1, 2, 3, 4, 5, 6] rfl)
                · have hf := iF c23 hf
                  refine lv_iload_n (pc := 61) hx hb dX0_reachOf_61 rfl (lv_at hl 3 rfl) ?_
                  refine lv_iconst (pc := 62) (v := 1) hx hb dX0_reachOf_62 (by decide) ?_
                  refine lv_iload (pc := 63) hx hb dX0_reachOf_63 (lv_at hl 6 rfl) ?_
                  refine lv_ishl (pc := 65) hx hb dX0_reachOf_65 ?_
                  refine lv_ior (pc := 66) hx hb dX0_reachOf_66 ?_
                  refine lv_istore_n (pc := 67) (lv' := [(3, .int (x3_11 ||| (1 <<< (x6_12 &&& 31)))), (0, .ref oL), (1, .int p0), (2, .int p1), (4, .int x4_2), (5, .int x5_7), (6, .int x6_12)]) hx hb dX0_reachOf_67 rfl hl (by decide) rfl (fun ls hl => ?_)
                  obtain rfl := Option.some.inj hf
                  exact J19 ls (lv_sub hl [1, 2, 3, 0, 4, 5, 6] rfl)
theorem hdX0_reachOf : yX0_reachOf.cls ≠ "java/lang/invoke/MethodHandle" ∧ yX0_reachOf.cls ≠ "java/lang/invoke/VarHandle" ∧ (parseMethodDescriptor yX0_reachOf.desc).map (fun d => d.parameters.length) = some 2 := by decide +kernel
abbrev rmX0_comersTo : Room := { frames := 4, cells := 0, slots := 0, locals := 94 }
theorem inX0_comersTo_X0 : ∀ w ∈ wsX00, w ∈ wsX0_comersTo := fun _ h => List.mem_cons_of_mem _ (List.mem_append_right _ h)
set_option maxHeartbeats 4000000 in
set_option maxRecDepth 100000 in
theorem mtX0_comersTo (l : Launch) (D : va_G) (cI cZ cQ : ClassId) (oL : Nat) (aL : Nat → Nat) (L : Bk) (p0 : Int32) (out : Int32) (hf : fX0_comersTo L p0 = some out) : Met l yX0_comersTo wsX0_comersTo rmX0_comersTo (RoP D cI cZ cQ [.ref oL, .int p0] (wL cI oL aL L)) (vp_Si (fun r' => r' = out)) 0 0 (fun _ => False) := by
  refine metRi (ty := .int) (cc := cX0_comersTo) (maxL := 4) (by decide) rfl (Nat.le_of_ble_eq_true rfl) ?_
  intro p e s m args below meth c Q CF hK hP hRet ls hl
  obtain ⟨hx, hb, hml, hown, hts⟩ := id CF
  have hl : lv_has ls 4 [(0, .ref oL), (1, .int p0)] := hl
  unfold fX0_comersTo at hf
  refine lv_iconst (pc := 0) (v := 0) hx hb dX0_comersTo_0 (by decide) ?_
  refine lv_istore_n (pc := 1) (lv' := [(2, .int 0), (0, .ref oL), (1, .int p0)]) hx hb dX0_comersTo_1 rfl hl (by decide) rfl (fun ls hl => ?_)
  refine lv_iconst (pc := 2) (v := 0) hx hb dX0_comersTo_2 (by decide) ?_
  refine lv_istore_n (pc := 3) (lv' := [(3, .int 0), (2, .int 0), (0, .ref oL), (1, .int p0)]) hx hb dX0_comersTo_3 rfl hl (by decide) rfl (fun ls hl => ?_)
  refine zl2 (G := FX0_comersTo_4 p0 L) (fun x2_1 x3_2 => ∀ (ls : Array Slot), lv_has ls 4 [(0, .ref oL), (1, .int p0), (2, .int x2_1), (3, .int x3_2)] → W p l e rmX0_comersTo s m args below meth c s.heap [] 0 0 Q (F0 m 4 ls [])) (fun x2_3 x3_4 => ∀ (ls : Array Slot), lv_has ls 4 [(0, .ref oL), (1, .int p0), (2, .int x2_3), (3, .int x3_4)] → W p l e rmX0_comersTo s m args below meth c s.heap [] 0 0 Q (F0 m 50 ls [])) hf (fun x2_3 x3_4 hf => ?_) (fun kx slf hkx hslf x2_1 x3_2 hf => ?_) ls (lv_sub hl [2, 3, 1, 0] rfl)
  · intro ls hl
    refine lv_iload_n (pc := 50) hx hb dX0_comersTo_50 rfl (lv_at hl 2 rfl) ?_
    obtain rfl := Option.some.inj hf
    exact hRet 51 ls (vp_nar_int _) dX0_comersTo_51
  · unfold FX0_comersTo_4 at hf
    intro ls hl
    refine lv_iload_n (pc := 4) hx hb dX0_comersTo_4 rfl (lv_at hl 3 rfl) ?_
    refine lv_aload_n (pc := 5) hx hb dX0_comersTo_5 rfl (lv_at hl 0 rfl) ?_
    refine va_get (pc := 6) (D := D) (ci := 0) (v := .int (L 1 0)) (C := RX0) (T := TX0) (N := 8) hx hb hts inX0_comersTo_X0 hown hK.1 hP 0 rfl rfl 1 (by decide) (hts (.fieldLink RX0 15 "HedgeHoles$Land" "goers" "I") (by decide +kernel)) (fun _ h9 => h9) rfl dX0_comersTo_6 ?_
    refine lv_icmp_ge (pc := 9) (tgt := 50) hx hb dX0_comersTo_9 (by decide) (fun c5 => ?_) (fun c5 => ?_)
    · have hf := iT c5 hf
      exact hkx _ _ hf ls (lv_sub hl [0, 1, 2, 3] rfl)
    · have hf := iF c5 hf
      refine lv_iload_n (pc := 12) hx hb dX0_comersTo_12 rfl (lv_at hl 2 rfl) ?_
      refine lv_aload_n (pc := 13) hx hb dX0_comersTo_13 rfl (lv_at hl 0 rfl) ?_
      refine lv_aload_n (pc := 14) hx hb dX0_comersTo_14 rfl (lv_at hl 0 rfl) ?_
      refine va_get (pc := 15) (D := D) (ci := 0) (v := .ref (aL 6)) (C := RX0) (T := TX0) (N := 8) hx hb hts inX0_comersTo_X0 hown hK.1 hP 0 rfl rfl 6 (by decide) (hts (.fieldLink RX0 31 "HedgeHoles$Land" "place" "[I") (by decide +kernel)) (fun _ h9 => h9) rfl dX0_comersTo_15 ?_
      refine lv_iload_n (pc := 18) hx hb dX0_comersTo_18 rfl (lv_at hl 3 rfl) ?_
      obtain ⟨h6, hf⟩ := gI_e hf
      refine va_iald (pc := 19) (f := L 6) (n := 5) hx hb hK.1 hP 4 0 rfl rfl h6 dX0_comersTo_19 ?_
      refine lv_aload_n (pc := 20) hx hb dX0_comersTo_20 rfl (lv_at hl 0 rfl) ?_
      refine lv_iload_n (pc := 21) hx hb dX0_comersTo_21 rfl (lv_at hl 3 rfl) ?_
      obtain ⟨v7, h8, hf⟩ := bd hf
      refine roVi (pc := 22) (As := [.int x3_2]) (rest := [.int (L 6 x3_2.toNatClampNeg), .ref oL, .int x2_1]) CF (mtX0_thickOf l D cI cZ cQ oL aL L x3_2 v7 h8) (cwV 1 hts gX0_comersTo_X0_thickOf rfl rfl rfl ⟨rfl, hdX0_thickOf⟩ ⟨Nat.le_of_ble_eq_true rfl, Nat.le_of_ble_eq_true rfl⟩) hK hP rfl rfl rfl rfl hl.1 rfl (Nat.le_of_ble_eq_true rfl) dX0_comersTo_22 ?_
      obtain ⟨v9, h10, hf⟩ := bd hf
      refine roVi (pc := 25) (As := [.int (L 6 x3_2.toNatClampNeg), .int v7]) (rest := [.int x2_1]) CF (mtX0_reachOf l D cI cZ cQ oL aL L (L 6 x3_2.toNatClampNeg) v7 v9 h10) (cwV 2 hts gX0_comersTo_X0_reachOf rfl rfl rfl ⟨rfl, hdX0_reachOf⟩ ⟨Nat.le_of_ble_eq_true rfl, Nat.le_of_ble_eq_true rfl⟩) hK hP rfl rfl rfl rfl hl.1 rfl (Nat.le_of_ble_eq_true rfl) dX0_comersTo_25 ?_
      refine lv_iload_n (pc := 28) hx hb dX0_comersTo_28 rfl (lv_at hl 1 rfl) ?_
      obtain ⟨v11, h12, hf⟩ := bd hf
      refine roNi (pc := 29) (As := [.int v9, .int p0]) (rest := [.int x2_1]) CF (mtX3_isIn l D cI cZ cQ v9 p0 v11 h12) (va_cnB 2 hts gX0_comersTo_X3_isIn_n84 rfl rfl rfl hK.2.2.2.2.1 (hts (.initialized RX3) (by decide +kernel)) hdX3_isIn ⟨Nat.le_of_ble_eq_true rfl, Nat.le_of_ble_eq_true rfl⟩) (hts (.static yX3_isIn) (by decide +kernel)) hK P0 rfl hl.1 rfl (Nat.le_of_ble_eq_true rfl) dX0_comersTo_29 ?_
      obtain ⟨v13, hv, hf⟩ := bd hf
      have J14 : ∀ (ls : Array Slot), lv_has ls 4 [(0, .ref oL), (1, .int p0), (2, .int x2_1), (3, .int x3_2)] → W p l e rmX0_comersTo s m args below meth c s.heap [] 0 0 Q (F0 m 42 ls [.int v13, .int x2_1]) := by
        intro ls hl
        refine lv_ior (pc := 42) hx hb dX0_comersTo_42 ?_
        refine lv_istore_n (pc := 43) (lv' := [(2, .int (x2_1 ||| v13)), (0, .ref oL), (1, .int p0), (3, .int x3_2)]) hx hb dX0_comersTo_43 rfl hl (by decide) rfl (fun ls hl => ?_)
        refine lv_iinc (pc := 44) (v := (x3_2 + 1)) (lv' := [(3, .int (x3_2 + 1)), (2, .int (x2_1 ||| v13)), (0, .ref oL), (1, .int p0)]) hx hb dX0_comersTo_44 hl (k := 3) rfl rfl (by decide) rfl (fun ls hl => ?_)
        refine lv_goto (pc := 47) (tgt := 4) hx hb dX0_comersTo_47 (by decide) ?_
        exact hslf _ _ hf ls (lv_sub hl [2, 3, 1, 0] rfl)
      clear hf
      have hf := hv
      clear hv
      refine lv_if_eq (pc := 32) (tgt := 41) hx hb dX0_comersTo_32 (by decide) (fun c15 => ?_) (fun c15 => ?_)
      · have hf := iT c15 hf
        refine lv_iconst (pc := 41) (v := 0) hx hb dX0_comersTo_41 (by decide) ?_
        obtain rfl := Option.some.inj hf
        exact J14 ls (lv_sub hl [0, 1, 2, 3] rfl)
      · have hf := iF c15 hf
        refine lv_iconst (pc := 35) (v := 1) hx hb dX0_comersTo_35 (by decide) ?_
        refine lv_iload_n (pc := 36) hx hb dX0_comersTo_36 rfl (lv_at hl 3 rfl) ?_
        refine lv_ishl (pc := 37) hx hb dX0_comersTo_37 ?_
        refine lv_goto (pc := 38) (tgt := 42) hx hb dX0_comersTo_38 (by decide) ?_
        obtain rfl := Option.some.inj hf
        exact J14 ls (lv_sub hl [0, 1, 2, 3] rfl)
theorem hdX0_comersTo : yX0_comersTo.cls ≠ "java/lang/invoke/MethodHandle" ∧ yX0_comersTo.cls ≠ "java/lang/invoke/VarHandle" ∧ (parseMethodDescriptor yX0_comersTo.desc).map (fun d => d.parameters.length) = some 1 := by decide +kernel
abbrev rmX0_measureTo : Room := { frames := 3, cells := 0, slots := 0, locals := 68 }
theorem inX0_measureTo_X0 : ∀ w ∈ wsX00, w ∈ wsX0_measureTo := fun _ h => List.mem_cons_of_mem _ (List.mem_append_right _ h)
set_option maxHeartbeats 4000000 in
set_option maxRecDepth 100000 in
theorem mtX0_measureTo (l : Launch) (D : va_G) (cI cZ cQ : ClassId) (oL : Nat) (aL : Nat → Nat) (L : Bk) (p0 : Int32) (p1 : Int32) (p2 : Int32) (p3 : Int32) (sz : Nat) (out : Bk) (hf : fX0_measureTo L p0 p1 p2 p3 = some out) : Met l yX0_measureTo wsX0_measureTo rmX0_measureTo (WrP D cI cZ cQ [.ref oL, .int p0, .int p1, .int p2, .int p3] (wL cI oL aL L) sz) (WrQv D (wL cI oL aL L) (wL cI oL aL out) sz) 0 0 (va_A (wL cI oL aL L) sz) := by
  refine metWv (cc := cX0_measureTo) (maxL := 9) (by decide) rfl (Nat.le_of_ble_eq_true rfl) ?_
  intro p e s m args below meth c Q A CF hK hP hD hA hRet ls hl
  obtain ⟨hx, hb, hml, hown, hts⟩ := id CF
  have hS : va_S A s.heap s.heap [] := va_S.rf
  have hl : lv_has ls 9 [(0, .ref oL), (1, .int p0), (2, .int p1), (3, .int p2), (4, .int p3)] := hl
  unfold fX0_measureTo at hf
  refine lv_iconst (pc := 0) (v := 0) hx hb dX0_measureTo_0 (by decide) ?_
  refine lv_istore (pc := 1) (lv' := [(5, .int 0), (0, .ref oL), (1, .int p0), (2, .int p1), (3, .int p2), (4, .int p3)]) hx hb dX0_measureTo_1 hl (by decide) rfl (fun ls hl => ?_)
  refine zl2 (G := FX0_measureTo_3 p0) (fun x5_1 L_2 => ∀ (ls : Array Slot) (H : Heap) (locs : List Loc), lv_has ls 9 [(0, .ref oL), (1, .int p0), (2, .int p1), (3, .int p2), (4, .int p3), (5, .int x5_1)] → va_P D vwCl (wL cI oL aL L_2) H → va_D A (wL cI oL aL L_2) → va_S A s.heap H locs → W p l e rmX0_measureTo s m args below meth c H locs 0 0 Q (F0 m 3 ls [])) (fun x5_3 L_4 => ∀ (ls : Array Slot) (H : Heap) (locs : List Loc), lv_has ls 9 [(0, .ref oL), (1, .int p0), (2, .int p1), (3, .int p2), (4, .int p3), (5, .int x5_3)] → va_P D vwCl (wL cI oL aL L_4) H → va_D A (wL cI oL aL L_4) → va_S A s.heap H locs → W p l e rmX0_measureTo s m args below meth c H locs 0 0 Q (F0 m 38 ls [])) hf (fun x5_3 L_4 hf => ?_) (fun kx slf hkx hslf x5_1 L_2 hf => ?_) ls s.heap [] (lv_sub hl [1, 2, 3, 4, 5, 0] rfl) hP hD hS
  · intro ls H locs hl hP hD hS
    refine lv_iconst (pc := 38) (v := 1) hx hb dX0_measureTo_38 (by decide) ?_
    refine lv_istore (pc := 39) (lv' := [(5, .int 1), (0, .ref oL), (1, .int p0), (2, .int p1), (3, .int p2), (4, .int p3)]) hx hb dX0_measureTo_39 hl (by decide) rfl (fun ls hl => ?_)
    refine zl2 (G := FX0_measureTo_41 p1 p2 p3) (fun x5_12 L_13 => ∀ (ls : Array Slot) (H : Heap) (locs : List Loc), lv_has ls 9 [(0, .ref oL), (1, .int p0), (2, .int p1), (3, .int p2), (4, .int p3), (5, .int x5_12)] → va_P D vwCl (wL cI oL aL L_13) H → va_D A (wL cI oL aL L_13) → va_S A s.heap H locs → W p l e rmX0_measureTo s m args below meth c H locs 0 0 Q (F0 m 41 ls [])) (fun x5_14 L_15 => ∀ (ls : Array Slot) (H : Heap) (locs : List Loc), lv_has ls 9 [(0, .ref oL), (1, .int p0), (2, .int p1), (3, .int p2), (4, .int p3), (5, .int x5_14)] → va_P D vwCl (wL cI oL aL L_15) H → va_D A (wL cI oL aL L_15) → va_S A s.heap H locs → W p l e rmX0_measureTo s m args below meth c H locs 0 0 Q (F0 m 162 ls [])) hf (fun x5_14 L_15 hf => ?_) (fun kx slf hkx hslf x5_12 L_13 hf => ?_) ls H locs (lv_sub hl [1, 2, 3, 4, 5, 0] rfl) hP hD hS
    · intro ls H locs hl hP hD hS
      obtain rfl := Option.some.inj hf
      exact hRet 162 ls H locs dX0_measureTo_162 hP hS
    · unfold FX0_measureTo_41 at hf
      intro ls H locs hl hP hD hS
      refine lv_iload (pc := 41) hx hb dX0_measureTo_41 (lv_at hl 5 rfl) ?_
      refine lv_aload_n (pc := 43) hx hb dX0_measureTo_43 rfl (lv_at hl 0 rfl) ?_
      refine va_get (pc := 44) (D := D) (ci := 0) (v := .int (L_13 0 0)) (C := RX0) (T := TX0) (N := 8) hx hb hts inX0_measureTo_X0 hown hK.1 hP 0 rfl rfl 0 (by decide) (hts (.fieldLink RX0 9 "HedgeHoles$Land" "fields" "I") (by decide +kernel)) (fun _ h9 => h9) rfl dX0_measureTo_44 ?_
      refine lv_icmp_ge (pc := 47) (tgt := 162) hx hb dX0_measureTo_47 (by decide) (fun c16 => ?_) (fun c16 => ?_)
      · have hf := iT c16 hf
        exact hkx _ _ hf ls H locs (lv_sub hl [0, 1, 2, 3, 4, 5] rfl) hP hD hS
      · have hf := iF c16 hf
        refine lv_iconst (pc := 50) (v := 0) hx hb dX0_measureTo_50 (by decide) ?_
        refine lv_istore (pc := 51) (lv' := [(6, .int 0), (0, .ref oL), (1, .int p0), (2, .int p1), (3, .int p2), (4, .int p3), (5, .int x5_12)]) hx hb dX0_measureTo_51 hl (by decide) rfl (fun ls hl => ?_)
        refine zl2 (G := FX0_measureTo_53 p1 p2 p3) (fun x6_17 L_18 => ∀ (ls : Array Slot) (H : Heap) (locs : List Loc), lv_has ls 9 [(0, .ref oL), (1, .int p0), (2, .int p1), (3, .int p2), (4, .int p3), (5, .int x5_12), (6, .int x6_17)] → va_P D vwCl (wL cI oL aL L_18) H → va_D A (wL cI oL aL L_18) → va_S A s.heap H locs → W p l e rmX0_measureTo s m args below meth c H locs 0 0 Q (F0 m 53 ls [])) (fun x6_19 L_20 => ∀ (ls : Array Slot) (H : Heap) (locs : List Loc), lv_has ls 9 [(0, .ref oL), (1, .int p0), (2, .int p1), (3, .int p2), (4, .int p3), (5, .int x5_12), (6, .int x6_19)] → va_P D vwCl (wL cI oL aL L_20) H → va_D A (wL cI oL aL L_20) → va_S A s.heap H locs → W p l e rmX0_measureTo s m args below meth c H locs 0 0 Q (F0 m 156 ls [])) hf (fun x6_19 L_20 hf => ?_) (fun kx slf hkx hslf x6_17 L_18 hf => ?_) ls H locs (lv_sub hl [1, 2, 3, 4, 5, 6, 0] rfl) hP hD hS
        · intro ls H locs hl hP hD hS
          refine lv_iinc (pc := 156) (v := (x5_12 + 1)) (lv' := [(5, .int (x5_12 + 1)), (0, .ref oL), (1, .int p0), (2, .int p1), (3, .int p2), (4, .int p3), (6, .int x6_19)]) hx hb dX0_measureTo_156 hl (k := 5) rfl rfl (by decide) rfl (fun ls hl => ?_)
          refine lv_goto (pc := 159) (tgt := 41) hx hb dX0_measureTo_159 (by decide) ?_
          exact hslf _ _ hf ls H locs (lv_sub hl [1, 2, 3, 4, 5, 0] rfl) hP hD hS
        · unfold FX0_measureTo_53 at hf
          intro ls H locs hl hP hD hS
          refine lv_iload (pc := 53) hx hb dX0_measureTo_53 (lv_at hl 6 rfl) ?_
          refine lv_aload_n (pc := 55) hx hb dX0_measureTo_55 rfl (lv_at hl 0 rfl) ?_
          refine va_get (pc := 56) (D := D) (ci := 0) (v := .int (L_18 0 0)) (C := RX0) (T := TX0) (N := 8) hx hb hts inX0_measureTo_X0 hown hK.1 hP 0 rfl rfl 0 (by decide) (hts (.fieldLink RX0 9 "HedgeHoles$Land" "fields" "I") (by decide +kernel)) (fun _ h9 => h9) rfl dX0_measureTo_56 ?_
          refine lv_icmp_ge (pc := 59) (tgt := 156) hx hb dX0_measureTo_59 (by decide) (fun c21 => ?_) (fun c21 => ?_)
          · have hf := iT c21 hf
            exact hkx _ _ hf ls H locs (lv_sub hl [0, 1, 2, 3, 4, 5, 6] rfl) hP hD hS
          · have hf := iF c21 hf
            refine lv_iconst (pc := 62) (v := 0) hx hb dX0_measureTo_62 (by decide) ?_
            refine lv_istore (pc := 63) (lv' := [(7, .int 0), (0, .ref oL), (1, .int p0), (2, .int p1), (3, .int p2), (4, .int p3), (5, .int x5_12), (6, .int x6_17)]) hx hb dX0_measureTo_63 hl (by decide) rfl (fun ls hl => ?_)
            refine zl2 (G := FX0_measureTo_65 p1 p2 p3 x6_17) (fun x7_22 L_23 => ∀ (ls : Array Slot) (H : Heap) (locs : List Loc), lv_has ls 9 [(0, .ref oL), (1, .int p0), (2, .int p1), (3, .int p2), (4, .int p3), (5, .int x5_12), (6, .int x6_17), (7, .int x7_22)] → va_P D vwCl (wL cI oL aL L_23) H → va_D A (wL cI oL aL L_23) → va_S A s.heap H locs → W p l e rmX0_measureTo s m args below meth c H locs 0 0 Q (F0 m 65 ls [])) (fun x7_24 L_25 => ∀ (ls : Array Slot) (H : Heap) (locs : List Loc), lv_has ls 9 [(0, .ref oL), (1, .int p0), (2, .int p1), (3, .int p2), (4, .int p3), (5, .int x5_12), (6, .int x6_17), (7, .int x7_24)] → va_P D vwCl (wL cI oL aL L_25) H → va_D A (wL cI oL aL L_25) → va_S A s.heap H locs → W p l e rmX0_measureTo s m args below meth c H locs 0 0 Q (F0 m 150 ls [])) hf (fun x7_24 L_25 hf => ?_) (fun kx slf hkx hslf x7_22 L_23 hf => ?_) ls H locs (lv_sub hl [1, 2, 3, 4, 5, 6, 7, 0] rfl) hP hD hS
            · intro ls H locs hl hP hD hS
              refine lv_iinc (pc := 150) (v := (x6_17 + 1)) (lv' := [(6, .int (x6_17 + 1)), (0, .ref oL), (1, .int p0), (2, .int p1), (3, .int p2), (4, .int p3), (5, .int x5_12), (7, .int x7_24)]) hx hb dX0_measureTo_150 hl (k := 6) rfl rfl (by decide) rfl (fun ls hl => ?_)
              refine lv_goto (pc := 153) (tgt := 53) hx hb dX0_measureTo_153 (by decide) ?_
              exact hslf _ _ hf ls H locs (lv_sub hl [1, 2, 3, 4, 5, 6, 0] rfl) hP hD hS
            · unfold FX0_measureTo_65 at hf
              intro ls H locs hl hP hD hS
              refine lv_iload (pc := 65) hx hb dX0_measureTo_65 (lv_at hl 7 rfl) ?_
              refine lv_aload_n (pc := 67) hx hb dX0_measureTo_67 rfl (lv_at hl 0 rfl) ?_
              refine va_get (pc := 68) (D := D) (ci := 0) (v := .int (L_23 0 0)) (C := RX0) (T := TX0) (N := 8) hx hb hts inX0_measureTo_X0 hown hK.1 hP 0 rfl rfl 0 (by decide) (hts (.fieldLink RX0 9 "HedgeHoles$Land" "fields" "I") (by decide +kernel)) (fun _ h9 => h9) rfl dX0_measureTo_68 ?_
              refine lv_icmp_ge (pc := 71) (tgt := 150) hx hb dX0_measureTo_71 (by decide) (fun c26 => ?_) (fun c26 => ?_)
              · have hf := iT c26 hf
                exact hkx _ _ hf ls H locs (lv_sub hl [0, 1, 2, 3, 4, 5, 6, 7] rfl) hP hD hS
              · have hf := iF c26 hf
                refine lv_iload (pc := 74) hx hb dX0_measureTo_74 (lv_at hl 6 rfl) ?_
                refine lv_iload (pc := 76) hx hb dX0_measureTo_76 (lv_at hl 7 rfl) ?_
                obtain ⟨v27, hv, hf⟩ := bd hf
                have J28 : ∀ (ls : Array Slot) (H : Heap) (locs : List Loc), lv_has ls 9 [(0, .ref oL), (1, .int p0), (2, .int p1), (3, .int p2), (4, .int p3), (5, .int x5_12), (6, .int x6_17), (7, .int x7_22)] → va_P D vwCl (wL cI oL aL v27) H → va_D A (wL cI oL aL v27) → va_S A s.heap H locs → W p l e rmX0_measureTo s m args below meth c H locs 0 0 Q (F0 m 144 ls []) := by
                  intro ls H locs hl hP hD hS
                  refine lv_iinc (pc := 144) (v := (x7_22 + 1)) (lv' := [(7, .int (x7_22 + 1)), (0, .ref oL), (1, .int p0), (2, .int p1), (3, .int p2), (4, .int p3), (5, .int x5_12), (6, .int x6_17)]) hx hb dX0_measureTo_144 hl (k := 7) rfl rfl (by decide) rfl (fun ls hl => ?_)
                  refine lv_goto (pc := 147) (tgt := 65) hx hb dX0_measureTo_147 (by decide) ?_
                  exact hslf _ _ hf ls H locs (lv_sub hl [1, 2, 3, 4, 5, 6, 7, 0] rfl) hP hD hS
                clear hf
                have hf := hv
                clear hv
                refine lv_icmp_eq (pc := 78) (tgt := 144) hx hb dX0_measureTo_78 (by decide) (fun c29 => ?_) (fun c29 => ?_)
                · have hf := iT c29 hf
                  obtain rfl := Option.some.inj hf
                  exact J28 ls H locs (lv_sub hl [0, 1, 2, 3, 4, 5, 6, 7] rfl) hP hD hS
                · have hf := iF c29 hf
                  refine lv_aload_n (pc := 81) hx hb dX0_measureTo_81 rfl (lv_at hl 0 rfl) ?_
                  refine va_get (pc := 82) (D := D) (ci := 0) (v := .ref (aL 3)) (C := RX0) (T := TX0) (N := 8) hx hb hts inX0_measureTo_X0 hown hK.1 hP 0 rfl rfl 3 (by decide) (hts (.fieldLink RX0 21 "HedgeHoles$Land" "width" "[I") (by decide +kernel)) (fun _ h9 => h9) rfl dX0_measureTo_82 ?_
                  refine lv_aload_n (pc := 85) hx hb dX0_measureTo_85 rfl (lv_at hl 0 rfl) ?_
                  refine lv_iload (pc := 86) hx hb dX0_measureTo_86 (lv_at hl 6 rfl) ?_
                  refine lv_iload (pc := 88) hx hb dX0_measureTo_88 (lv_at hl 7 rfl) ?_
                  obtain ⟨v30, h31, hf⟩ := bd hf
                  refine roVi (pc := 90) (As := [.int x6_17, .int x7_22]) (rest := [.ref (aL 3)]) CF (mtX0_hedgeOf l D cI cZ cQ oL aL L_23 x6_17 x7_22 v30 h31) (cwV 2 hts gX0_measureTo_X0_hedgeOf rfl rfl rfl ⟨rfl, hdX0_hedgeOf⟩ ⟨Nat.le_of_ble_eq_true rfl, Nat.le_of_ble_eq_true rfl⟩) hK hP rfl rfl rfl rfl hl.1 rfl (Nat.le_of_ble_eq_true rfl) dX0_measureTo_90 ?_
                  obtain ⟨h32, hf⟩ := gI_e hf
                  refine va_iald (pc := 93) (f := L_23 3) (n := 10) hx hb hK.1 hP 1 0 rfl rfl h32 dX0_measureTo_93 ?_
                  refine lv_if_le (pc := 94) (tgt := 144) hx hb dX0_measureTo_94 (by decide) (fun c33 => ?_) (fun c33 => ?_)
                  · have hf := iT c33 hf
                    obtain rfl := Option.some.inj hf
                    exact J28 ls H locs (lv_sub hl [0, 1, 2, 3, 4, 5, 6, 7] rfl) hP hD hS
                  · have hf := iF c33 hf
                    refine lv_aload_n (pc := 97) hx hb dX0_measureTo_97 rfl (lv_at hl 0 rfl) ?_
                    refine lv_iload (pc := 98) hx hb dX0_measureTo_98 (lv_at hl 6 rfl) ?_
                    refine lv_iload (pc := 100) hx hb dX0_measureTo_100 (lv_at hl 7 rfl) ?_
                    refine lv_iload_n (pc := 102) hx hb dX0_measureTo_102 rfl (lv_at hl 2 rfl) ?_
                    obtain ⟨v34, h35, hf⟩ := bd hf
                    refine roVi (pc := 103) (As := [.int x6_17, .int x7_22, .int p1]) (rest := []) CF (mtX0_letsBetween l D cI cZ cQ oL aL L_23 x6_17 x7_22 p1 v34 h35) (cwV 3 hts gX0_measureTo_X0_letsBetween rfl rfl rfl ⟨rfl, hdX0_letsBetween⟩ ⟨Nat.le_of_ble_eq_true rfl, Nat.le_of_ble_eq_true rfl⟩) hK hP rfl rfl rfl rfl hl.1 rfl (Nat.le_of_ble_eq_true rfl) dX0_measureTo_103 ?_
                    obtain ⟨v36, hv, hf⟩ := bd hf
                    have J37 : ∀ (ls : Array Slot), lv_has ls 9 [(0, .ref oL), (1, .int p0), (2, .int p1), (3, .int p2), (4, .int p3), (5, .int x5_12), (6, .int x6_17), (7, .int x7_22)] → W p l e rmX0_measureTo s m args below meth c H locs 0 0 Q (F0 m 115 ls [.int v36]) := by
                      intro ls hl
                      refine lv_istore (pc := 115) (lv' := [(8, .int v36), (0, .ref oL), (1, .int p0), (2, .int p1), (3, .int p2), (4, .int p3), (5, .int x5_12), (6, .int x6_17), (7, .int x7_22)]) hx hb dX0_measureTo_115 hl (by decide) rfl (fun ls hl => ?_)
                      refine lv_aload_n (pc := 117) hx hb dX0_measureTo_117 rfl (lv_at hl 1 rfl) ?_
                      refine va_get (pc := 118) (D := D) (ci := 0) (v := .ref (aL 7)) (C := RX0) (T := TX0) (N := 8) hx hb hts inX0_measureTo_X0 hown hK.1 hP 0 rfl rfl 7 (by decide) (hts (.fieldLink RX0 34 "HedgeHoles$Land" "distance" "[I") (by decide +kernel)) (fun _ h9 => h9) rfl dX0_measureTo_118 ?_
                      refine lv_iload (pc := 121) hx hb dX0_measureTo_121 (lv_at hl 7 rfl) ?_
                      refine lv_aload_n (pc := 123) hx hb dX0_measureTo_123 rfl (lv_at hl 1 rfl) ?_
                      refine va_get (pc := 124) (D := D) (ci := 0) (v := .ref (aL 7)) (C := RX0) (T := TX0) (N := 8) hx hb hts inX0_measureTo_X0 hown hK.1 hP 0 rfl rfl 7 (by decide) (hts (.fieldLink RX0 34 "HedgeHoles$Land" "distance" "[I") (by decide +kernel)) (fun _ h9 => h9) rfl dX0_measureTo_124 ?_
                      refine lv_iload (pc := 127) hx hb dX0_measureTo_127 (lv_at hl 7 rfl) ?_
                      obtain ⟨h38, hf⟩ := gI_e hf
                      refine va_iald (pc := 129) (f := L_23 7) (n := 5) hx hb hK.1 hP 5 0 rfl rfl h38 dX0_measureTo_129 ?_
                      refine lv_aload_n (pc := 130) hx hb dX0_measureTo_130 rfl (lv_at hl 1 rfl) ?_
                      refine va_get (pc := 131) (D := D) (ci := 0) (v := .ref (aL 7)) (C := RX0) (T := TX0) (N := 8) hx hb hts inX0_measureTo_X0 hown hK.1 hP 0 rfl rfl 7 (by decide) (hts (.fieldLink RX0 34 "HedgeHoles$Land" "distance" "[I") (by decide +kernel)) (fun _ h9 => h9) rfl dX0_measureTo_131 ?_
                      refine lv_iload (pc := 134) hx hb dX0_measureTo_134 (lv_at hl 8 rfl) ?_
                      obtain ⟨h39, hf⟩ := gI_e hf
                      refine va_iald (pc := 136) (f := L_23 7) (n := 5) hx hb hK.1 hP 5 0 rfl rfl h39 dX0_measureTo_136 ?_
                      refine lv_iload (pc := 137) hx hb dX0_measureTo_137 (lv_at hl 0 rfl) ?_
                      refine lv_iadd (pc := 139) hx hb dX0_measureTo_139 ?_
                      refine va_mmin (pc := 140) hx hb (hml.trans hl.1.symm) hown (hts (.methodLink RX0 43 Lib.Math.min.name) (by decide +kernel)) (hts (.static Lib.Math.min.name) (by decide +kernel)) (hts (.initialized "java/lang/Math") (by decide +kernel)) (hts (.code Lib.Math.min.name Lib.Math.min.code 2 (some .int)) (by decide +kernel)) (Nat.le_of_ble_eq_true rfl) (Nat.le_of_ble_eq_true rfl) (Nat.zero_le _) (Nat.zero_le _) dX0_measureTo_140 ?_
                      refine va_iast (pc := 143) (f := L_23 7) (n := 5) hx hb hK.1 hP hD hS 5 0 rfl rfl h38 dX0_measureTo_143 (fun H locs hP hD hS => ?_)
                      have hP : va_P D vwCl (wL cI oL aL (sB L_23 7 x6_17.toNatClampNeg (if ((L_23 7 x7_22.toNatClampNeg) + v36) < (L_23 7 x6_17.toNatClampNeg) then ((L_23 7 x7_22.toNatClampNeg) + v36) else (L_23 7 x6_17.toNatClampNeg)))) H := hP
                      have hD : va_D A (wL cI oL aL (sB L_23 7 x6_17.toNatClampNeg (if ((L_23 7 x7_22.toNatClampNeg) + v36) < (L_23 7 x6_17.toNatClampNeg) then ((L_23 7 x7_22.toNatClampNeg) + v36) else (L_23 7 x6_17.toNatClampNeg)))) := hD
                      obtain ⟨L_40, h41, hf⟩ := bd hf
                      have h41 := Option.some.inj h41
                      rw [h41] at hP hD
                      obtain rfl := Option.some.inj hf
                      exact J28 ls H locs (lv_sub hl [1, 2, 3, 4, 5, 6, 7, 8] rfl) hP hD hS
                    clear hf
                    have hf := hv
                    clear hv
                    refine lv_if_eq (pc := 106) (tgt := 113) hx hb dX0_measureTo_106 (by decide) (fun c42 => ?_) (fun c42 => ?_)
                    · have hf := iT c42 hf
                      refine lv_iload (pc := 113) hx hb dX0_measureTo_113 (lv_at hl 4 rfl) ?_
                      obtain rfl := Option.some.inj hf
                      exact J37 ls (lv_sub hl [0, 1, 2, 3, 4, 5, 6, 7] rfl)
                    · have hf := iF c42 hf
                      refine lv_iload_n (pc := 109) hx hb dX0_measureTo_109 rfl (lv_at hl 3 rfl) ?_
                      refine lv_goto (pc := 110) (tgt := 115) hx hb dX0_measureTo_110 (by decide) ?_
                      obtain rfl := Option.some.inj hf
                      exact J37 ls (lv_sub hl [0, 1, 2, 3, 4, 5, 6, 7] rfl)
  · unfold FX0_measureTo_3 at hf
    intro ls H locs hl hP hD hS
    refine lv_iload (pc := 3) hx hb dX0_measureTo_3 (lv_at hl 5 rfl) ?_
    refine lv_aload_n (pc := 5) hx hb dX0_measureTo_5 rfl (lv_at hl 0 rfl) ?_
    refine va_get (pc := 6) (D := D) (ci := 0) (v := .int (L_2 0 0)) (C := RX0) (T := TX0) (N := 8) hx hb hts inX0_measureTo_X0 hown hK.1 hP 0 rfl rfl 0 (by decide) (hts (.fieldLink RX0 9 "HedgeHoles$Land" "fields" "I") (by decide +kernel)) (fun _ h9 => h9) rfl dX0_measureTo_6 ?_
    refine lv_icmp_ge (pc := 9) (tgt := 38) hx hb dX0_measureTo_9 (by decide) (fun c5 => ?_) (fun c5 => ?_)
    · have hf := iT c5 hf
      exact hkx _ _ hf ls H locs (lv_sub hl [0, 1, 2, 3, 4, 5] rfl) hP hD hS
    · have hf := iF c5 hf
      refine lv_aload_n (pc := 12) hx hb dX0_measureTo_12 rfl (lv_at hl 0 rfl) ?_
      refine va_get (pc := 13) (D := D) (ci := 0) (v := .ref (aL 7)) (C := RX0) (T := TX0) (N := 8) hx hb hts inX0_measureTo_X0 hown hK.1 hP 0 rfl rfl 7 (by decide) (hts (.fieldLink RX0 34 "HedgeHoles$Land" "distance" "[I") (by decide +kernel)) (fun _ h9 => h9) rfl dX0_measureTo_13 ?_
      refine lv_iload (pc := 16) hx hb dX0_measureTo_16 (lv_at hl 5 rfl) ?_
      refine lv_iload (pc := 18) hx hb dX0_measureTo_18 (lv_at hl 5 rfl) ?_
      refine lv_iload_n (pc := 20) hx hb dX0_measureTo_20 rfl (lv_at hl 1 rfl) ?_
      obtain ⟨v6, hv, hf⟩ := bd hf
      have J7 : ∀ (ls : Array Slot), lv_has ls 9 [(0, .ref oL), (1, .int p0), (2, .int p1), (3, .int p2), (4, .int p3), (5, .int x5_1)] → W p l e rmX0_measureTo s m args below meth c H locs 0 0 Q (F0 m 31 ls [.int v6, .int x5_1, .ref (aL 7)]) := by
        intro ls hl
        obtain ⟨h8, hf⟩ := gI_e hf
        refine va_iast (pc := 31) (f := L_2 7) (n := 5) hx hb hK.1 hP hD hS 5 0 rfl rfl h8 dX0_measureTo_31 (fun H locs hP hD hS => ?_)
        have hP : va_P D vwCl (wL cI oL aL (sB L_2 7 x5_1.toNatClampNeg v6)) H := hP
        have hD : va_D A (wL cI oL aL (sB L_2 7 x5_1.toNatClampNeg v6)) := hD
        obtain ⟨L_9, h10, hf⟩ := bd hf
        have h10 := Option.some.inj h10
        rw [h10] at hP hD
        refine lv_iinc (pc := 32) (v := (x5_1 + 1)) (lv' := [(5, .int (x5_1 + 1)), (0, .ref oL), (1, .int p0), (2, .int p1), (3, .int p2), (4, .int p3)]) hx hb dX0_measureTo_32 hl (k := 5) rfl rfl (by decide) rfl (fun ls hl => ?_)
        refine lv_goto (pc := 35) (tgt := 3) hx hb dX0_measureTo_35 (by decide) ?_
        exact hslf _ _ hf ls H locs (lv_sub hl [1, 2, 3, 4, 5, 0] rfl) hP hD hS
      clear hf
      have hf := hv
      clear hv
      refine lv_icmp_ne (pc := 21) (tgt := 28) hx hb dX0_measureTo_21 (by decide) (fun c11 => ?_) (fun c11 => ?_)
      · have hf := iF c11 hf
        refine lv_sipush (pc := 28) (v := 1000) hx hb dX0_measureTo_28 (by decide) ?_
        obtain rfl := Option.some.inj hf
        exact J7 ls (lv_sub hl [0, 1, 2, 3, 4, 5] rfl)
      · have hf := iT c11 hf
        refine lv_iconst (pc := 24) (v := 0) hx hb dX0_measureTo_24 (by decide) ?_
        refine lv_goto (pc := 25) (tgt := 31) hx hb dX0_measureTo_25 (by decide) ?_
        obtain rfl := Option.some.inj hf
        exact J7 ls (lv_sub hl [0, 1, 2, 3, 4, 5] rfl)
theorem hdX0_measureTo : yX0_measureTo.cls ≠ "java/lang/invoke/MethodHandle" ∧ yX0_measureTo.cls ≠ "java/lang/invoke/VarHandle" ∧ (parseMethodDescriptor yX0_measureTo.desc).map (fun d => d.parameters.length) = some 4 := by decide +kernel
abbrev rmX0_nearerThan : Room := { frames := 3, cells := 0, slots := 0, locals := 68 }
theorem inX0_nearerThan_X0 : ∀ w ∈ wsX00, w ∈ wsX0_nearerThan := fun _ h => List.mem_cons_of_mem _ (List.mem_append_right _ h)
set_option maxHeartbeats 4000000 in
set_option maxRecDepth 100000 in
theorem mtX0_nearerThan (l : Launch) (D : va_G) (cI cZ cQ : ClassId) (oL : Nat) (aL : Nat → Nat) (L : Bk) (p0 : Int32) (p1 : Int32) (out : Int32) (hf : fX0_nearerThan L p0 p1 = some out) : Met l yX0_nearerThan wsX0_nearerThan rmX0_nearerThan (RoP D cI cZ cQ [.ref oL, .int p0, .int p1] (wL cI oL aL L)) (vp_Si (fun r' => r' = out)) 0 0 (fun _ => False) := by
  refine metRi (ty := .int) (cc := cX0_nearerThan) (maxL := 4) (by decide) rfl (Nat.le_of_ble_eq_true rfl) ?_
  intro p e s m args below meth c Q CF hK hP hRet ls hl
  obtain ⟨hx, hb, hml, hown, hts⟩ := id CF
  have hl : lv_has ls 4 [(0, .ref oL), (1, .int p0), (2, .int p1)] := hl
  unfold fX0_nearerThan at hf
  refine lv_iconst (pc := 0) (v := 0) hx hb dX0_nearerThan_0 (by decide) ?_
  refine lv_istore_n (pc := 1) (lv' := [(3, .int 0), (0, .ref oL), (1, .int p0), (2, .int p1)]) hx hb dX0_nearerThan_1 rfl hl (by decide) rfl (fun ls hl => ?_)
  refine zl1 (G := FX0_nearerThan_2 p0 p1 L) (fun x3_1 => ∀ (ls : Array Slot), lv_has ls 4 [(0, .ref oL), (1, .int p0), (2, .int p1), (3, .int x3_1)] → W p l e rmX0_nearerThan s m args below meth c s.heap [] 0 0 Q (F0 m 2 ls [])) (fun x3_2 => ∀ (ls : Array Slot), lv_has ls 4 [(0, .ref oL), (1, .int p0), (2, .int p1), (3, .int x3_2)] → W p l e rmX0_nearerThan s m args below meth c s.heap [] 0 0 Q (F0 m 43 ls [])) hf (fun x3_2 hf => ?_) (fun kx slf hkx hslf x3_1 hf => ?_) ls (lv_sub hl [1, 2, 3, 0] rfl)
  · intro ls hl
    refine lv_iload_n (pc := 43) hx hb dX0_nearerThan_43 rfl (lv_at hl 1 rfl) ?_
    obtain rfl := Option.some.inj hf
    exact hRet 44 ls (vp_nar_int _) dX0_nearerThan_44
  · unfold FX0_nearerThan_2 at hf
    intro ls hl
    refine lv_iload_n (pc := 2) hx hb dX0_nearerThan_2 rfl (lv_at hl 3 rfl) ?_
    refine lv_aload_n (pc := 3) hx hb dX0_nearerThan_3 rfl (lv_at hl 0 rfl) ?_
    refine va_get (pc := 4) (D := D) (ci := 0) (v := .int (L 0 0)) (C := RX0) (T := TX0) (N := 8) hx hb hts inX0_nearerThan_X0 hown hK.1 hP 0 rfl rfl 0 (by decide) (hts (.fieldLink RX0 9 "HedgeHoles$Land" "fields" "I") (by decide +kernel)) (fun _ h9 => h9) rfl dX0_nearerThan_4 ?_
    refine lv_icmp_ge (pc := 7) (tgt := 43) hx hb dX0_nearerThan_7 (by decide) (fun c3 => ?_) (fun c3 => ?_)
    · have hf := iT c3 hf
      exact hkx _ hf ls (lv_sub hl [0, 1, 2, 3] rfl)
    · have hf := iF c3 hf
      refine lv_aload_n (pc := 10) hx hb dX0_nearerThan_10 rfl (lv_at hl 0 rfl) ?_
      refine lv_iload_n (pc := 11) hx hb dX0_nearerThan_11 rfl (lv_at hl 1 rfl) ?_
      refine lv_iload_n (pc := 12) hx hb dX0_nearerThan_12 rfl (lv_at hl 3 rfl) ?_
      refine lv_iload_n (pc := 13) hx hb dX0_nearerThan_13 rfl (lv_at hl 2 rfl) ?_
      obtain ⟨v4, h5, hf⟩ := bd hf
      refine roVi (pc := 14) (As := [.int p0, .int x3_1, .int p1]) (rest := []) CF (mtX0_letsBetween l D cI cZ cQ oL aL L p0 x3_1 p1 v4 h5) (cwV 3 hts gX0_nearerThan_X0_letsBetween rfl rfl rfl ⟨rfl, hdX0_letsBetween⟩ ⟨Nat.le_of_ble_eq_true rfl, Nat.le_of_ble_eq_true rfl⟩) hK hP rfl rfl rfl rfl hl.1 rfl (Nat.le_of_ble_eq_true rfl) dX0_nearerThan_14 ?_
      refine lv_if_eq (pc := 17) (tgt := 37) hx hb dX0_nearerThan_17 (by decide) (fun c6 => ?_) (fun c6 => ?_)
      · have hf := iT c6 hf
        refine lv_iinc (pc := 37) (v := (x3_1 + 1)) (lv' := [(3, .int (x3_1 + 1)), (0, .ref oL), (1, .int p0), (2, .int p1)]) hx hb dX0_nearerThan_37 hl (k := 3) rfl rfl (by decide) rfl (fun ls hl => ?_)
        refine lv_goto (pc := 40) (tgt := 2) hx hb dX0_nearerThan_40 (by decide) ?_
        exact hslf _ hf ls (lv_sub hl [1, 2, 3, 0] rfl)
      · have hf := iF c6 hf
        refine lv_aload_n (pc := 20) hx hb dX0_nearerThan_20 rfl (lv_at hl 0 rfl) ?_
        refine va_get (pc := 21) (D := D) (ci := 0) (v := .ref (aL 7)) (C := RX0) (T := TX0) (N := 8) hx hb hts inX0_nearerThan_X0 hown hK.1 hP 0 rfl rfl 7 (by decide) (hts (.fieldLink RX0 34 "HedgeHoles$Land" "distance" "[I") (by decide +kernel)) (fun _ h9 => h9) rfl dX0_nearerThan_21 ?_
        refine lv_iload_n (pc := 24) hx hb dX0_nearerThan_24 rfl (lv_at hl 3 rfl) ?_
        obtain ⟨h7, hf⟩ := gI_e hf
        refine va_iald (pc := 25) (f := L 7) (n := 5) hx hb hK.1 hP 5 0 rfl rfl h7 dX0_nearerThan_25 ?_
        refine lv_aload_n (pc := 26) hx hb dX0_nearerThan_26 rfl (lv_at hl 0 rfl) ?_
        refine va_get (pc := 27) (D := D) (ci := 0) (v := .ref (aL 7)) (C := RX0) (T := TX0) (N := 8) hx hb hts inX0_nearerThan_X0 hown hK.1 hP 0 rfl rfl 7 (by decide) (hts (.fieldLink RX0 34 "HedgeHoles$Land" "distance" "[I") (by decide +kernel)) (fun _ h9 => h9) rfl dX0_nearerThan_27 ?_
        refine lv_iload_n (pc := 30) hx hb dX0_nearerThan_30 rfl (lv_at hl 1 rfl) ?_
        obtain ⟨h8, hf⟩ := gI_e hf
        refine va_iald (pc := 31) (f := L 7) (n := 5) hx hb hK.1 hP 5 0 rfl rfl h8 dX0_nearerThan_31 ?_
        refine lv_icmp_ge (pc := 32) (tgt := 37) hx hb dX0_nearerThan_32 (by decide) (fun c9 => ?_) (fun c9 => ?_)
        · have hf := iT c9 hf
          refine lv_iinc (pc := 37) (v := (x3_1 + 1)) (lv' := [(3, .int (x3_1 + 1)), (0, .ref oL), (1, .int p0), (2, .int p1)]) hx hb dX0_nearerThan_37 hl (k := 3) rfl rfl (by decide) rfl (fun ls hl => ?_)
          refine lv_goto (pc := 40) (tgt := 2) hx hb dX0_nearerThan_40 (by decide) ?_
          exact hslf _ hf ls (lv_sub hl [1, 2, 3, 0] rfl)
        · have hf := iF c9 hf
          refine lv_iload_n (pc := 35) hx hb dX0_nearerThan_35 rfl (lv_at hl 3 rfl) ?_
          obtain rfl := Option.some.inj hf
          exact hRet 36 ls (vp_nar_int _) dX0_nearerThan_36
theorem hdX0_nearerThan : yX0_nearerThan.cls ≠ "java/lang/invoke/MethodHandle" ∧ yX0_nearerThan.cls ≠ "java/lang/invoke/VarHandle" ∧ (parseMethodDescriptor yX0_nearerThan.desc).map (fun d => d.parameters.length) = some 2 := by decide +kernel
abbrev rmX0_fieldOnWay : Room := { frames := 4, cells := 0, slots := 0, locals := 91 }
theorem inX0_fieldOnWay_X0 : ∀ w ∈ wsX00, w ∈ wsX0_fieldOnWay := fun _ h => List.mem_cons_of_mem _ (List.mem_append_right _ h)
set_option maxHeartbeats 4000000 in
set_option maxRecDepth 100000 in
theorem mtX0_fieldOnWay (l : Launch) (D : va_G) (cI cZ cQ : ClassId) (oL : Nat) (aL : Nat → Nat) (L : Bk) (p0 : Int32) (p1 : Int32) (out : Int32) (hf : fX0_fieldOnWay L p0 p1 = some out) : Met l yX0_fieldOnWay wsX0_fieldOnWay rmX0_fieldOnWay (RoP D cI cZ cQ [.ref oL, .int p0, .int p1] (wL cI oL aL L)) (vp_Si (fun r' => r' = out)) 0 0 (fun _ => False) := by
  refine metRi (ty := .int) (cc := cX0_fieldOnWay) (maxL := 5) (by decide) rfl (Nat.le_of_ble_eq_true rfl) ?_
  intro p e s m args below meth c Q CF hK hP hRet ls hl
  obtain ⟨hx, hb, hml, hown, hts⟩ := id CF
  have hl : lv_has ls 5 [(0, .ref oL), (1, .int p0), (2, .int p1)] := hl
  unfold fX0_fieldOnWay at hf
  refine lv_aload_n (pc := 0) hx hb dX0_fieldOnWay_0 rfl (lv_at hl 0 rfl) ?_
  refine va_get (pc := 1) (D := D) (ci := 0) (v := .ref (aL 6)) (C := RX0) (T := TX0) (N := 8) hx hb hts inX0_fieldOnWay_X0 hown hK.1 hP 0 rfl rfl 6 (by decide) (hts (.fieldLink RX0 31 "HedgeHoles$Land" "place" "[I") (by decide +kernel)) (fun _ h9 => h9) rfl dX0_fieldOnWay_1 ?_
  refine lv_iload_n (pc := 4) hx hb dX0_fieldOnWay_4 rfl (lv_at hl 1 rfl) ?_
  obtain ⟨h1, hf⟩ := gI_e hf
  refine va_iald (pc := 5) (f := L 6) (n := 5) hx hb hK.1 hP 4 0 rfl rfl h1 dX0_fieldOnWay_5 ?_
  refine lv_istore_n (pc := 6) (lv' := [(3, .int (L 6 p0.toNatClampNeg)), (0, .ref oL), (1, .int p0), (2, .int p1)]) hx hb dX0_fieldOnWay_6 rfl hl (by decide) rfl (fun ls hl => ?_)
  refine lv_iconst (pc := 7) (v := 0) hx hb dX0_fieldOnWay_7 (by decide) ?_
  refine lv_istore (pc := 8) (lv' := [(4, .int 0), (3, .int (L 6 p0.toNatClampNeg)), (0, .ref oL), (1, .int p0), (2, .int p1)]) hx hb dX0_fieldOnWay_8 hl (by decide) rfl (fun ls hl => ?_)
  refine zl2 (G := FX0_fieldOnWay_10 p0 p1 L) (fun x3_2 x4_3 => ∀ (ls : Array Slot), lv_has ls 5 [(0, .ref oL), (1, .int p0), (2, .int p1), (3, .int x3_2), (4, .int x4_3)] → W p l e rmX0_fieldOnWay s m args below meth c s.heap [] 0 0 Q (F0 m 10 ls [])) (fun x3_4 x4_5 => ∀ (ls : Array Slot), lv_has ls 5 [(0, .ref oL), (1, .int p0), (2, .int p1), (3, .int x3_4), (4, .int x4_5)] → W p l e rmX0_fieldOnWay s m args below meth c s.heap [] 0 0 Q (F0 m 33 ls [])) hf (fun x3_4 x4_5 hf => ?_) (fun kx slf hkx hslf x3_2 x4_3 hf => ?_) ls (lv_sub hl [2, 3, 4, 1, 0] rfl)
  · intro ls hl
    refine lv_iload_n (pc := 33) hx hb dX0_fieldOnWay_33 rfl (lv_at hl 3 rfl) ?_
    obtain rfl := Option.some.inj hf
    exact hRet 34 ls (vp_nar_int _) dX0_fieldOnWay_34
  · unfold FX0_fieldOnWay_10 at hf
    intro ls hl
    refine lv_iload (pc := 10) hx hb dX0_fieldOnWay_10 (lv_at hl 4 rfl) ?_
    refine lv_iload_n (pc := 12) hx hb dX0_fieldOnWay_12 rfl (lv_at hl 2 rfl) ?_
    refine lv_icmp_ge (pc := 13) (tgt := 33) hx hb dX0_fieldOnWay_13 (by decide) (fun c6 => ?_) (fun c6 => ?_)
    · have hf := iT c6 hf
      exact hkx _ _ hf ls (lv_sub hl [0, 1, 2, 3, 4] rfl)
    · have hf := iF c6 hf
      refine lv_aload_n (pc := 16) hx hb dX0_fieldOnWay_16 rfl (lv_at hl 0 rfl) ?_
      refine lv_iload_n (pc := 17) hx hb dX0_fieldOnWay_17 rfl (lv_at hl 3 rfl) ?_
      refine lv_aload_n (pc := 18) hx hb dX0_fieldOnWay_18 rfl (lv_at hl 0 rfl) ?_
      refine lv_iload_n (pc := 19) hx hb dX0_fieldOnWay_19 rfl (lv_at hl 1 rfl) ?_
      obtain ⟨v7, h8, hf⟩ := bd hf
      refine roVi (pc := 20) (As := [.int p0]) (rest := [.int x3_2, .ref oL]) CF (mtX0_thickOf l D cI cZ cQ oL aL L p0 v7 h8) (cwV 1 hts gX0_fieldOnWay_X0_thickOf rfl rfl rfl ⟨rfl, hdX0_thickOf⟩ ⟨Nat.le_of_ble_eq_true rfl, Nat.le_of_ble_eq_true rfl⟩) hK hP rfl rfl rfl rfl hl.1 rfl (Nat.le_of_ble_eq_true rfl) dX0_fieldOnWay_20 ?_
      obtain ⟨v9, h10, hf⟩ := bd hf
      refine roVi (pc := 23) (As := [.int x3_2, .int v7]) (rest := []) CF (mtX0_nearerThan l D cI cZ cQ oL aL L x3_2 v7 v9 h10) (cwV 2 hts gX0_fieldOnWay_X0_nearerThan rfl rfl rfl ⟨rfl, hdX0_nearerThan⟩ ⟨Nat.le_of_ble_eq_true rfl, Nat.le_of_ble_eq_true rfl⟩) hK hP rfl rfl rfl rfl hl.1 rfl (Nat.le_of_ble_eq_true rfl) dX0_fieldOnWay_23 ?_
      refine lv_istore_n (pc := 26) (lv' := [(3, .int v9), (0, .ref oL), (1, .int p0), (2, .int p1), (4, .int x4_3)]) hx hb dX0_fieldOnWay_26 rfl hl (by decide) rfl (fun ls hl => ?_)
      refine lv_iinc (pc := 27) (v := (x4_3 + 1)) (lv' := [(4, .int (x4_3 + 1)), (3, .int v9), (0, .ref oL), (1, .int p0), (2, .int p1)]) hx hb dX0_fieldOnWay_27 hl (k := 4) rfl rfl (by decide) rfl (fun ls hl => ?_)
      refine lv_goto (pc := 30) (tgt := 10) hx hb dX0_fieldOnWay_30 (by decide) ?_
      exact hslf _ _ hf ls (lv_sub hl [2, 3, 4, 1, 0] rfl)
theorem hdX0_fieldOnWay : yX0_fieldOnWay.cls ≠ "java/lang/invoke/MethodHandle" ∧ yX0_fieldOnWay.cls ≠ "java/lang/invoke/VarHandle" ∧ (parseMethodDescriptor yX0_fieldOnWay.desc).map (fun d => d.parameters.length) = some 2 := by decide +kernel
abbrev rmX0_fittedAround : Room := { frames := 3, cells := 0, slots := 0, locals := 68 }
theorem inX0_fittedAround_X0 : ∀ w ∈ wsX00, w ∈ wsX0_fittedAround := fun _ h => List.mem_cons_of_mem _ (List.mem_append_right _ h)
set_option maxHeartbeats 4000000 in
set_option maxRecDepth 100000 in
theorem mtX0_fittedAround (l : Launch) (D : va_G) (cI cZ cQ : ClassId) (oL : Nat) (aL : Nat → Nat) (L : Bk) (p0 : Int32) (p1 : Int32) (out : Int32) (hf : fX0_fittedAround L p0 p1 = some out) : Met l yX0_fittedAround wsX0_fittedAround rmX0_fittedAround (RoP D cI cZ cQ [.ref oL, .int p0, .int p1] (wL cI oL aL L)) (vp_Si (fun r' => r' = out)) 0 0 (fun _ => False) := by
  refine metRi (ty := .int) (cc := cX0_fittedAround) (maxL := 6) (by decide) rfl (Nat.le_of_ble_eq_true rfl) ?_
  intro p e s m args below meth c Q CF hK hP hRet ls hl
  obtain ⟨hx, hb, hml, hown, hts⟩ := id CF
  have hl : lv_has ls 6 [(0, .ref oL), (1, .int p0), (2, .int p1)] := hl
  unfold fX0_fittedAround at hf
  refine lv_iconst (pc := 0) (v := 0) hx hb dX0_fittedAround_0 (by decide) ?_
  refine lv_istore_n (pc := 1) (lv' := [(3, .int 0), (0, .ref oL), (1, .int p0), (2, .int p1)]) hx hb dX0_fittedAround_1 rfl hl (by decide) rfl (fun ls hl => ?_)
  refine lv_iconst (pc := 2) (v := 0) hx hb dX0_fittedAround_2 (by decide) ?_
  refine lv_istore (pc := 3) (lv' := [(4, .int 0), (3, .int 0), (0, .ref oL), (1, .int p0), (2, .int p1)]) hx hb dX0_fittedAround_3 hl (by decide) rfl (fun ls hl => ?_)
  refine zl2 (G := FX0_fittedAround_5 p0 p1 L) (fun x3_1 x4_2 => ∀ (ls : Array Slot), lv_has ls 6 [(0, .ref oL), (1, .int p0), (2, .int p1), (3, .int x3_1), (4, .int x4_2)] → W p l e rmX0_fittedAround s m args below meth c s.heap [] 0 0 Q (F0 m 5 ls [])) (fun x3_3 x4_4 => ∀ (ls : Array Slot), lv_has ls 6 [(0, .ref oL), (1, .int p0), (2, .int p1), (3, .int x3_3), (4, .int x4_4)] → W p l e rmX0_fittedAround s m args below meth c s.heap [] 0 0 Q (F0 m 81 ls [])) hf (fun x3_3 x4_4 hf => ?_) (fun kx slf hkx hslf x3_1 x4_2 hf => ?_) ls (lv_sub hl [2, 3, 4, 1, 0] rfl)
  · intro ls hl
    refine lv_iload_n (pc := 81) hx hb dX0_fittedAround_81 rfl (lv_at hl 3 rfl) ?_
    obtain rfl := Option.some.inj hf
    exact hRet 82 ls (vp_nar_int _) dX0_fittedAround_82
  · unfold FX0_fittedAround_5 at hf
    intro ls hl
    refine lv_iload (pc := 5) hx hb dX0_fittedAround_5 (lv_at hl 4 rfl) ?_
    refine lv_aload_n (pc := 7) hx hb dX0_fittedAround_7 rfl (lv_at hl 0 rfl) ?_
    refine va_get (pc := 8) (D := D) (ci := 0) (v := .int (L 0 0)) (C := RX0) (T := TX0) (N := 8) hx hb hts inX0_fittedAround_X0 hown hK.1 hP 0 rfl rfl 0 (by decide) (hts (.fieldLink RX0 9 "HedgeHoles$Land" "fields" "I") (by decide +kernel)) (fun _ h9 => h9) rfl dX0_fittedAround_8 ?_
    refine lv_icmp_ge (pc := 11) (tgt := 81) hx hb dX0_fittedAround_11 (by decide) (fun c5 => ?_) (fun c5 => ?_)
    · have hf := iT c5 hf
      exact hkx _ _ hf ls (lv_sub hl [0, 1, 2, 3, 4] rfl)
    · have hf := iF c5 hf
      refine lv_iconst (pc := 14) (v := 0) hx hb dX0_fittedAround_14 (by decide) ?_
      refine lv_istore (pc := 15) (lv' := [(5, .int 0), (0, .ref oL), (1, .int p0), (2, .int p1), (3, .int x3_1), (4, .int x4_2)]) hx hb dX0_fittedAround_15 hl (by decide) rfl (fun ls hl => ?_)
      refine zl2 (G := FX0_fittedAround_17 p0 p1 L x4_2) (fun x3_6 x5_7 => ∀ (ls : Array Slot), lv_has ls 6 [(0, .ref oL), (1, .int p0), (2, .int p1), (3, .int x3_6), (4, .int x4_2), (5, .int x5_7)] → W p l e rmX0_fittedAround s m args below meth c s.heap [] 0 0 Q (F0 m 17 ls [])) (fun x3_8 x5_9 => ∀ (ls : Array Slot), lv_has ls 6 [(0, .ref oL), (1, .int p0), (2, .int p1), (3, .int x3_8), (4, .int x4_2), (5, .int x5_9)] → W p l e rmX0_fittedAround s m args below meth c s.heap [] 0 0 Q (F0 m 75 ls [])) hf (fun x3_8 x5_9 hf => ?_) (fun kx slf hkx hslf x3_6 x5_7 hf => ?_) ls (lv_sub hl [1, 2, 3, 4, 5, 0] rfl)
      · intro ls hl
        refine lv_iinc (pc := 75) (v := (x4_2 + 1)) (lv' := [(4, .int (x4_2 + 1)), (0, .ref oL), (1, .int p0), (2, .int p1), (3, .int x3_8), (5, .int x5_9)]) hx hb dX0_fittedAround_75 hl (k := 4) rfl rfl (by decide) rfl (fun ls hl => ?_)
        refine lv_goto (pc := 78) (tgt := 5) hx hb dX0_fittedAround_78 (by decide) ?_
        exact hslf _ _ hf ls (lv_sub hl [1, 2, 3, 4, 0] rfl)
      · unfold FX0_fittedAround_17 at hf
        intro ls hl
        refine lv_iload (pc := 17) hx hb dX0_fittedAround_17 (lv_at hl 5 rfl) ?_
        refine lv_aload_n (pc := 19) hx hb dX0_fittedAround_19 rfl (lv_at hl 0 rfl) ?_
        refine va_get (pc := 20) (D := D) (ci := 0) (v := .int (L 0 0)) (C := RX0) (T := TX0) (N := 8) hx hb hts inX0_fittedAround_X0 hown hK.1 hP 0 rfl rfl 0 (by decide) (hts (.fieldLink RX0 9 "HedgeHoles$Land" "fields" "I") (by decide +kernel)) (fun _ h9 => h9) rfl dX0_fittedAround_20 ?_
        refine lv_icmp_ge (pc := 23) (tgt := 75) hx hb dX0_fittedAround_23 (by decide) (fun c10 => ?_) (fun c10 => ?_)
        · have hf := iT c10 hf
          exact hkx _ _ hf ls (lv_sub hl [0, 1, 2, 3, 4, 5] rfl)
        · have hf := iF c10 hf
          refine lv_iload_n (pc := 26) hx hb dX0_fittedAround_26 rfl (lv_at hl 1 rfl) ?_
          refine lv_iload (pc := 27) hx hb dX0_fittedAround_27 (lv_at hl 4 rfl) ?_
          obtain ⟨v11, h12, hf⟩ := bd hf
          refine roNi (pc := 29) (As := [.int p0, .int x4_2]) (rest := []) CF (mtX3_isIn l D cI cZ cQ p0 x4_2 v11 h12) (va_cnB 2 hts gX0_fittedAround_X3_isIn_n84 rfl rfl rfl hK.2.2.2.2.1 (hts (.initialized RX3) (by decide +kernel)) hdX3_isIn ⟨Nat.le_of_ble_eq_true rfl, Nat.le_of_ble_eq_true rfl⟩) (hts (.static yX3_isIn) (by decide +kernel)) hK P0 rfl hl.1 rfl (Nat.le_of_ble_eq_true rfl) dX0_fittedAround_29 ?_
          obtain ⟨v13, hv, hf⟩ := bd hf
          have J14 : ∀ (ls : Array Slot), lv_has ls 6 [(0, .ref oL), (1, .int p0), (2, .int p1), (3, .int v13), (4, .int x4_2), (5, .int x5_7)] → W p l e rmX0_fittedAround s m args below meth c s.heap [] 0 0 Q (F0 m 69 ls []) := by
            intro ls hl
            refine lv_iinc (pc := 69) (v := (x5_7 + 1)) (lv' := [(5, .int (x5_7 + 1)), (0, .ref oL), (1, .int p0), (2, .int p1), (3, .int v13), (4, .int x4_2)]) hx hb dX0_fittedAround_69 hl (k := 5) rfl rfl (by decide) rfl (fun ls hl => ?_)
            refine lv_goto (pc := 72) (tgt := 17) hx hb dX0_fittedAround_72 (by decide) ?_
            exact hslf _ _ hf ls (lv_sub hl [1, 2, 3, 4, 5, 0] rfl)
          clear hf
          have hf := hv
          clear hv
          refine lv_if_eq (pc := 32) (tgt := 69) hx hb dX0_fittedAround_32 (by decide) (fun c15 => ?_) (fun c15 => ?_)
          · have hf := iT c15 hf
            obtain rfl := Option.some.inj hf
            exact J14 ls (lv_sub hl [0, 1, 2, 3, 4, 5] rfl)
          · have hf := iF c15 hf
            refine lv_iload_n (pc := 35) hx hb dX0_fittedAround_35 rfl (lv_at hl 1 rfl) ?_
            refine lv_iload (pc := 36) hx hb dX0_fittedAround_36 (lv_at hl 5 rfl) ?_
            obtain ⟨v16, h17, hf⟩ := bd hf
            refine roNi (pc := 38) (As := [.int p0, .int x5_7]) (rest := []) CF (mtX3_isIn l D cI cZ cQ p0 x5_7 v16 h17) (va_cnB 2 hts gX0_fittedAround_X3_isIn_n84 rfl rfl rfl hK.2.2.2.2.1 (hts (.initialized RX3) (by decide +kernel)) hdX3_isIn ⟨Nat.le_of_ble_eq_true rfl, Nat.le_of_ble_eq_true rfl⟩) (hts (.static yX3_isIn) (by decide +kernel)) hK P0 rfl hl.1 rfl (Nat.le_of_ble_eq_true rfl) dX0_fittedAround_38 ?_
            refine lv_if_ne (pc := 41) (tgt := 69) hx hb dX0_fittedAround_41 (by decide) (fun c18 => ?_) (fun c18 => ?_)
            · have hf := iF c18 hf
              obtain rfl := Option.some.inj hf
              exact J14 ls (lv_sub hl [0, 1, 2, 3, 4, 5] rfl)
            · have hf := iT c18 hf
              refine lv_aload_n (pc := 44) hx hb dX0_fittedAround_44 rfl (lv_at hl 0 rfl) ?_
              refine lv_iload (pc := 45) hx hb dX0_fittedAround_45 (lv_at hl 4 rfl) ?_
              refine lv_iload (pc := 47) hx hb dX0_fittedAround_47 (lv_at hl 5 rfl) ?_
              refine lv_iload_n (pc := 49) hx hb dX0_fittedAround_49 rfl (lv_at hl 2 rfl) ?_
              obtain ⟨v19, h20, hf⟩ := bd hf
              refine roVi (pc := 50) (As := [.int x4_2, .int x5_7, .int p1]) (rest := []) CF (mtX0_letsBetween l D cI cZ cQ oL aL L x4_2 x5_7 p1 v19 h20) (cwV 3 hts gX0_fittedAround_X0_letsBetween rfl rfl rfl ⟨rfl, hdX0_letsBetween⟩ ⟨Nat.le_of_ble_eq_true rfl, Nat.le_of_ble_eq_true rfl⟩) hK hP rfl rfl rfl rfl hl.1 rfl (Nat.le_of_ble_eq_true rfl) dX0_fittedAround_50 ?_
              refine lv_if_eq (pc := 53) (tgt := 69) hx hb dX0_fittedAround_53 (by decide) (fun c21 => ?_) (fun c21 => ?_)
              · have hf := iT c21 hf
                obtain rfl := Option.some.inj hf
                exact J14 ls (lv_sub hl [0, 1, 2, 3, 4, 5] rfl)
              · have hf := iF c21 hf
                refine lv_iload_n (pc := 56) hx hb dX0_fittedAround_56 rfl (lv_at hl 3 rfl) ?_
                refine lv_iconst (pc := 57) (v := 1) hx hb dX0_fittedAround_57 (by decide) ?_
                refine lv_aload_n (pc := 58) hx hb dX0_fittedAround_58 rfl (lv_at hl 0 rfl) ?_
                refine lv_iload (pc := 59) hx hb dX0_fittedAround_59 (lv_at hl 4 rfl) ?_
                refine lv_iload (pc := 61) hx hb dX0_fittedAround_61 (lv_at hl 5 rfl) ?_
                obtain ⟨v22, h23, hf⟩ := bd hf
                refine roVi (pc := 63) (As := [.int x4_2, .int x5_7]) (rest := [.int 1, .int x3_6]) CF (mtX0_hedgeOf l D cI cZ cQ oL aL L x4_2 x5_7 v22 h23) (cwV 2 hts gX0_fittedAround_X0_hedgeOf rfl rfl rfl ⟨rfl, hdX0_hedgeOf⟩ ⟨Nat.le_of_ble_eq_true rfl, Nat.le_of_ble_eq_true rfl⟩) hK hP rfl rfl rfl rfl hl.1 rfl (Nat.le_of_ble_eq_true rfl) dX0_fittedAround_63 ?_
                refine lv_ishl (pc := 66) hx hb dX0_fittedAround_66 ?_
                refine lv_ior (pc := 67) hx hb dX0_fittedAround_67 ?_
                refine lv_istore_n (pc := 68) (lv' := [(3, .int (x3_6 ||| (1 <<< (v22 &&& 31)))), (0, .ref oL), (1, .int p0), (2, .int p1), (4, .int x4_2), (5, .int x5_7)]) hx hb dX0_fittedAround_68 rfl hl (by decide) rfl (fun ls hl => ?_)
                obtain rfl := Option.some.inj hf
                exact J14 ls (lv_sub hl [1, 2, 3, 0, 4, 5] rfl)
theorem hdX0_fittedAround : yX0_fittedAround.cls ≠ "java/lang/invoke/MethodHandle" ∧ yX0_fittedAround.cls ≠ "java/lang/invoke/VarHandle" ∧ (parseMethodDescriptor yX0_fittedAround.desc).map (fun d => d.parameters.length) = some 2 := by decide +kernel
abbrev rmX0_fewestToShut : Room := { frames := 4, cells := 0, slots := 0, locals := 93 }
theorem inX0_fewestToShut_X0 : ∀ w ∈ wsX00, w ∈ wsX0_fewestToShut := fun _ h => List.mem_cons_of_mem _ (List.mem_append_right _ h)
set_option maxHeartbeats 4000000 in
set_option maxRecDepth 100000 in
theorem mtX0_fewestToShut (l : Launch) (D : va_G) (cI cZ cQ : ClassId) (oL : Nat) (aL : Nat → Nat) (L : Bk) (p0 : Int32) (p1 : Int32) (out : Int32) (hf : fX0_fewestToShut L p0 p1 = some out) : Met l yX0_fewestToShut wsX0_fewestToShut rmX0_fewestToShut (RoP D cI cZ cQ [.ref oL, .int p0, .int p1] (wL cI oL aL L)) (vp_Si (fun r' => r' = out)) 0 0 (fun _ => False) := by
  refine metRi (ty := .int) (cc := cX0_fewestToShut) (maxL := 6) (by decide) rfl (Nat.le_of_ble_eq_true rfl) ?_
  intro p e s m args below meth c Q CF hK hP hRet ls hl
  obtain ⟨hx, hb, hml, hown, hts⟩ := id CF
  have hl : lv_has ls 6 [(0, .ref oL), (1, .int p0), (2, .int p1)] := hl
  unfold fX0_fewestToShut at hf
  refine lv_sipush (pc := 0) (v := 1023) hx hb dX0_fewestToShut_0 (by decide) ?_
  refine lv_istore_n (pc := 3) (lv' := [(3, .int 1023), (0, .ref oL), (1, .int p0), (2, .int p1)]) hx hb dX0_fewestToShut_3 rfl hl (by decide) rfl (fun ls hl => ?_)
  refine lv_iconst (pc := 4) (v := 0) hx hb dX0_fewestToShut_4 (by decide) ?_
  refine lv_istore (pc := 5) (lv' := [(4, .int 0), (3, .int 1023), (0, .ref oL), (1, .int p0), (2, .int p1)]) hx hb dX0_fewestToShut_5 hl (by decide) rfl (fun ls hl => ?_)
  refine zl2 (G := FX0_fewestToShut_7 p0 p1 L) (fun x3_1 x4_2 => ∀ (ls : Array Slot), lv_has ls 6 [(0, .ref oL), (1, .int p0), (2, .int p1), (3, .int x3_1), (4, .int x4_2)] → W p l e rmX0_fewestToShut s m args below meth c s.heap [] 0 0 Q (F0 m 7 ls [])) (fun x3_3 x4_4 => ∀ (ls : Array Slot), lv_has ls 6 [(0, .ref oL), (1, .int p0), (2, .int p1), (3, .int x3_3), (4, .int x4_4)] → W p l e rmX0_fewestToShut s m args below meth c s.heap [] 0 0 Q (F0 m 76 ls [])) hf (fun x3_3 x4_4 hf => ?_) (fun kx slf hkx hslf x3_1 x4_2 hf => ?_) ls (lv_sub hl [2, 3, 4, 1, 0] rfl)
  · intro ls hl
    refine lv_iload_n (pc := 76) hx hb dX0_fewestToShut_76 rfl (lv_at hl 3 rfl) ?_
    obtain rfl := Option.some.inj hf
    exact hRet 77 ls (vp_nar_int _) dX0_fewestToShut_77
  · unfold FX0_fewestToShut_7 at hf
    intro ls hl
    refine lv_iload (pc := 7) hx hb dX0_fewestToShut_7 (lv_at hl 4 rfl) ?_
    refine lv_iconst (pc := 9) (v := 1) hx hb dX0_fewestToShut_9 (by decide) ?_
    refine lv_aload_n (pc := 10) hx hb dX0_fewestToShut_10 rfl (lv_at hl 0 rfl) ?_
    refine va_get (pc := 11) (D := D) (ci := 0) (v := .int (L 0 0)) (C := RX0) (T := TX0) (N := 8) hx hb hts inX0_fewestToShut_X0 hown hK.1 hP 0 rfl rfl 0 (by decide) (hts (.fieldLink RX0 9 "HedgeHoles$Land" "fields" "I") (by decide +kernel)) (fun _ h9 => h9) rfl dX0_fewestToShut_11 ?_
    refine lv_ishl (pc := 14) hx hb dX0_fewestToShut_14 ?_
    refine lv_icmp_ge (pc := 15) (tgt := 76) hx hb dX0_fewestToShut_15 (by decide) (fun c5 => ?_) (fun c5 => ?_)
    · have hf := iT c5 hf
      exact hkx _ _ hf ls (lv_sub hl [0, 1, 2, 3, 4] rfl)
    · have hf := iF c5 hf
      refine lv_iload (pc := 18) hx hb dX0_fewestToShut_18 (lv_at hl 4 rfl) ?_
      refine lv_aload_n (pc := 20) hx hb dX0_fewestToShut_20 rfl (lv_at hl 0 rfl) ?_
      refine va_get (pc := 21) (D := D) (ci := 0) (v := .ref (aL 6)) (C := RX0) (T := TX0) (N := 8) hx hb hts inX0_fewestToShut_X0 hown hK.1 hP 0 rfl rfl 6 (by decide) (hts (.fieldLink RX0 31 "HedgeHoles$Land" "place" "[I") (by decide +kernel)) (fun _ h9 => h9) rfl dX0_fewestToShut_21 ?_
      refine lv_iload_n (pc := 24) hx hb dX0_fewestToShut_24 rfl (lv_at hl 1 rfl) ?_
      obtain ⟨h6, hf⟩ := gI_e hf
      refine va_iald (pc := 25) (f := L 6) (n := 5) hx hb hK.1 hP 4 0 rfl rfl h6 dX0_fewestToShut_25 ?_
      obtain ⟨v7, h8, hf⟩ := bd hf
      refine roNi (pc := 26) (As := [.int x4_2, .int (L 6 p0.toNatClampNeg)]) (rest := []) CF (mtX3_isIn l D cI cZ cQ x4_2 (L 6 p0.toNatClampNeg) v7 h8) (va_cnB 2 hts gX0_fewestToShut_X3_isIn_n84 rfl rfl rfl hK.2.2.2.2.1 (hts (.initialized RX3) (by decide +kernel)) hdX3_isIn ⟨Nat.le_of_ble_eq_true rfl, Nat.le_of_ble_eq_true rfl⟩) (hts (.static yX3_isIn) (by decide +kernel)) hK P0 rfl hl.1 rfl (Nat.le_of_ble_eq_true rfl) dX0_fewestToShut_26 ?_
      obtain ⟨v9, hv, hf⟩ := bd hf
      have J10 : ∀ (ls : Array Slot), lv_has ls 6 [(0, .ref oL), (1, .int p0), (2, .int p1), (3, .int v9), (4, .int x4_2)] → W p l e rmX0_fewestToShut s m args below meth c s.heap [] 0 0 Q (F0 m 70 ls []) := by
        intro ls hl
        refine lv_iinc (pc := 70) (v := (x4_2 + 1)) (lv' := [(4, .int (x4_2 + 1)), (0, .ref oL), (1, .int p0), (2, .int p1), (3, .int v9)]) hx hb dX0_fewestToShut_70 hl (k := 4) rfl rfl (by decide) rfl (fun ls hl => ?_)
        refine lv_goto (pc := 73) (tgt := 7) hx hb dX0_fewestToShut_73 (by decide) ?_
        exact hslf _ _ hf ls (lv_sub hl [1, 2, 3, 4, 0] rfl)
      clear hf
      have hf := hv
      clear hv
      refine lv_if_eq (pc := 29) (tgt := 70) hx hb dX0_fewestToShut_29 (by decide) (fun c11 => ?_) (fun c11 => ?_)
      · have hf := iT c11 hf
        obtain rfl := Option.some.inj hf
        exact J10 ls (lv_sub hl [0, 1, 2, 3, 4] rfl)
      · have hf := iF c11 hf
        refine lv_iload (pc := 32) hx hb dX0_fewestToShut_32 (lv_at hl 4 rfl) ?_
        refine lv_iload_n (pc := 34) hx hb dX0_fewestToShut_34 rfl (lv_at hl 2 rfl) ?_
        obtain ⟨v12, h13, hf⟩ := bd hf
        refine roNi (pc := 35) (As := [.int x4_2, .int p1]) (rest := []) CF (mtX3_isIn l D cI cZ cQ x4_2 p1 v12 h13) (va_cnB 2 hts gX0_fewestToShut_X3_isIn_n84 rfl rfl rfl hK.2.2.2.2.1 (hts (.initialized RX3) (by decide +kernel)) hdX3_isIn ⟨Nat.le_of_ble_eq_true rfl, Nat.le_of_ble_eq_true rfl⟩) (hts (.static yX3_isIn) (by decide +kernel)) hK P0 rfl hl.1 rfl (Nat.le_of_ble_eq_true rfl) dX0_fewestToShut_35 ?_
        refine lv_if_ne (pc := 38) (tgt := 70) hx hb dX0_fewestToShut_38 (by decide) (fun c14 => ?_) (fun c14 => ?_)
        · have hf := iF c14 hf
          obtain rfl := Option.some.inj hf
          exact J10 ls (lv_sub hl [0, 1, 2, 3, 4] rfl)
        · have hf := iT c14 hf
          refine lv_aload_n (pc := 41) hx hb dX0_fewestToShut_41 rfl (lv_at hl 0 rfl) ?_
          refine lv_iload (pc := 42) hx hb dX0_fewestToShut_42 (lv_at hl 4 rfl) ?_
          refine lv_aload_n (pc := 44) hx hb dX0_fewestToShut_44 rfl (lv_at hl 0 rfl) ?_
          refine lv_iload_n (pc := 45) hx hb dX0_fewestToShut_45 rfl (lv_at hl 1 rfl) ?_
          obtain ⟨v15, h16, hf⟩ := bd hf
          refine roVi (pc := 46) (As := [.int p0]) (rest := [.int x4_2, .ref oL]) CF (mtX0_thickOf l D cI cZ cQ oL aL L p0 v15 h16) (cwV 1 hts gX0_fewestToShut_X0_thickOf rfl rfl rfl ⟨rfl, hdX0_thickOf⟩ ⟨Nat.le_of_ble_eq_true rfl, Nat.le_of_ble_eq_true rfl⟩) hK hP rfl rfl rfl rfl hl.1 rfl (Nat.le_of_ble_eq_true rfl) dX0_fewestToShut_46 ?_
          obtain ⟨v17, h18, hf⟩ := bd hf
          refine roVi (pc := 49) (As := [.int x4_2, .int v15]) (rest := []) CF (mtX0_fittedAround l D cI cZ cQ oL aL L x4_2 v15 v17 h18) (cwV 2 hts gX0_fewestToShut_X0_fittedAround rfl rfl rfl ⟨rfl, hdX0_fittedAround⟩ ⟨Nat.le_of_ble_eq_true rfl, Nat.le_of_ble_eq_true rfl⟩) hK hP rfl rfl rfl rfl hl.1 rfl (Nat.le_of_ble_eq_true rfl) dX0_fewestToShut_49 ?_
          refine lv_istore (pc := 52) (lv' := [(5, .int v17), (0, .ref oL), (1, .int p0), (2, .int p1), (3, .int x3_1), (4, .int x4_2)]) hx hb dX0_fewestToShut_52 hl (by decide) rfl (fun ls hl => ?_)
          refine lv_iload (pc := 54) hx hb dX0_fewestToShut_54 (lv_at hl 0 rfl) ?_
          refine lv_iload_n (pc := 56) hx hb dX0_fewestToShut_56 rfl (lv_at hl 4 rfl) ?_
          obtain ⟨v19, h20, hf⟩ := bd hf
          refine roSi (pc := 57) (As := [.int v17, .int x3_1]) (rest := []) CF (mtX0_isFewer l D cI cZ cQ v17 x3_1 v19 h20) (va_cwS 2 hts gX0_fewestToShut_X0_isFewer rfl rfl rfl hdX0_isFewer ⟨Nat.le_of_ble_eq_true rfl, Nat.le_of_ble_eq_true rfl⟩) hK P0 rfl hl.1 rfl (Nat.le_of_ble_eq_true rfl) dX0_fewestToShut_57 ?_
          obtain ⟨v21, hv, hf⟩ := bd hf
          have J22 : ∀ (ls : Array Slot), lv_has ls 6 [(0, .ref oL), (1, .int p0), (2, .int p1), (3, .int x3_1), (4, .int x4_2), (5, .int v17)] → W p l e rmX0_fewestToShut s m args below meth c s.heap [] 0 0 Q (F0 m 69 ls [.int v21]) := by
            intro ls hl
            refine lv_istore_n (pc := 69) (lv' := [(3, .int v21), (0, .ref oL), (1, .int p0), (2, .int p1), (4, .int x4_2), (5, .int v17)]) hx hb dX0_fewestToShut_69 rfl hl (by decide) rfl (fun ls hl => ?_)
            obtain rfl := Option.some.inj hf
            exact J10 ls (lv_sub hl [1, 2, 3, 0, 4] rfl)
          clear hf
          have hf := hv
          clear hv
          refine lv_if_eq (pc := 60) (tgt := 68) hx hb dX0_fewestToShut_60 (by decide) (fun c23 => ?_) (fun c23 => ?_)
          · have hf := iT c23 hf
            refine lv_iload_n (pc := 68) hx hb dX0_fewestToShut_68 rfl (lv_at hl 4 rfl) ?_
            obtain rfl := Option.some.inj hf
            exact J22 ls (lv_sub hl [1, 2, 3, 4, 5, 0] rfl)
          · have hf := iF c23 hf
            refine lv_iload (pc := 63) hx hb dX0_fewestToShut_63 (lv_at hl 0 rfl) ?_
            refine lv_goto (pc := 65) (tgt := 69) hx hb dX0_fewestToShut_65 (by decide) ?_
            obtain rfl := Option.some.inj hf
            exact J22 ls (lv_sub hl [1, 2, 3, 4, 5, 0] rfl)
theorem hdX0_fewestToShut : yX0_fewestToShut.cls ≠ "java/lang/invoke/MethodHandle" ∧ yX0_fewestToShut.cls ≠ "java/lang/invoke/VarHandle" ∧ (parseMethodDescriptor yX0_fewestToShut.desc).map (fun d => d.parameters.length) = some 2 := by decide +kernel
