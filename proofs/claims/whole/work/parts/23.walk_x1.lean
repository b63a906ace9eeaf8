abbrev rmX3_failed : Room := { frames := 0, cells := 0, slots := 0, locals := 0 }
theorem inX3_failed_X3 : ∀ w ∈ wsX30, w ∈ wsX3_failed := fun _ h => List.mem_cons_of_mem _ (List.mem_append_right _ h)
set_option maxHeartbeats 4000000 in
set_option maxRecDepth 100000 in
theorem mtX3_failed (l : Launch) (D : va_G) (cI cZ cQ : ClassId) (o ra : Nat) (rr : Nat → Nat) (k rc : Nat) (oL : Nat) (aL : Nat → Nat) (oT : Nat) (aT : Nat → Nat) (oN : Nat) (aN : Nat → Nat) (X R L T N : Bk) (p0 : Int32) (sz : Nat) (out : (Int32 × Bk)) (hf : fX3_failed X p0 = some out) : Met l yX3_failed wsX3_failed rmX3_failed (WrP D cI cZ cQ [.ref o, .int p0] (wX cI cZ cQ o ra rr k rc oL aL oT aT oN aN X R L T N) sz) (WrQi D out.1 (wX cI cZ cQ o ra rr k rc oL aL oT aT oN aN X R L T N) (wX cI cZ cQ o ra rr k rc oL aL oT aT oN aN out.2 R L T N) sz) 0 0 (va_A (wX cI cZ cQ o ra rr k rc oL aL oT aT oN aN X R L T N) sz) := by
  refine metWi (ty := .int) (cc := cX3_failed) (maxL := 2) (by decide) rfl (Nat.le_of_ble_eq_true rfl) ?_
  intro p e s m args below meth c Q A CF hK hP hD hA hRet ls hl
  obtain ⟨hx, hb, hml, hown, hts⟩ := id CF
  have hS : va_S A s.heap s.heap [] := va_S.rf
  have hl : lv_has ls 2 [(0, .ref o), (1, .int p0)] := hl
  unfold fX3_failed at hf
  refine lv_aload_n (pc := 0) hx hb dX3_failed_0 rfl (lv_at hl 0 rfl) ?_
  refine lv_iload_n (pc := 1) hx hb dX3_failed_1 rfl (lv_at hl 1 rfl) ?_
  refine va_put (pc := 2) (D := D) (ci := 3) (v := .int p0) (ty := .int) (C := RX3) (T := TX3) (N := 8) hx hb hts inX3_failed_X3 tyX3 tyX3_ok nmX3 hown hK.1 hP hD hS 0 rfl rfl 7 (by decide) (hts (.fieldLink RX3 44 "HedgeHoles" "lastFault" "I") (by decide +kernel)) (fun _ h9 => h9) rfl (by decide +kernel) (vp_nar_int _) rfl (Nat.le_of_ble_eq_true rfl) dX3_failed_2 (fun H locs hP hD hS => ?_)
  have hP : va_P D vwCl (wX cI cZ cQ o ra rr k rc oL aL oT aT oN aN (sB X 7 0 p0) R L T N) H := hP
  have hD : va_D A (wX cI cZ cQ o ra rr k rc oL aL oT aT oN aN (sB X 7 0 p0) R L T N) := hD
  obtain ⟨X_1, h2, hf⟩ := bd hf
  have h2 := Option.some.inj h2
  rw [h2] at hP hD
  refine lv_bipush (pc := 5) (v := (-10)) hx hb dX3_failed_5 (by decide) ?_
  refine lv_iload_n (pc := 7) hx hb dX3_failed_7 rfl (lv_at hl 1 rfl) ?_
  refine lv_isub (pc := 8) hx hb dX3_failed_8 ?_
  obtain rfl := Option.some.inj hf
  exact hRet 9 ls H locs (vp_nar_int _) dX3_failed_9 hP hS
theorem hdX3_failed : yX3_failed.cls ≠ "java/lang/invoke/MethodHandle" ∧ yX3_failed.cls ≠ "java/lang/invoke/VarHandle" ∧ (parseMethodDescriptor yX3_failed.desc).map (fun d => d.parameters.length) = some 1 := by decide +kernel
abbrev rmX3_failed_2 : Room := { frames := 0, cells := 0, slots := 0, locals := 0 }
set_option maxHeartbeats 4000000 in
set_option maxRecDepth 100000 in
theorem mtX3_failed_2 (l : Launch) (D : va_G) (cI cZ cQ : ClassId) (o ra : Nat) (rr : Nat → Nat) (k rc k2 rc2 : Nat) (oL oT oN : Nat) (X R S : Bk) (p0 : Int32) (sz : Nat) (out : (Int32 × Bk)) (hf : fX3_failed_2 X p0 = some out) : Met l yX3_failed wsX3_failed rmX3_failed_2 (WrP D cI cZ cQ [.ref o, .int p0] (wX2 cI cZ cQ o ra rr k rc k2 rc2 oL oT oN X R S) sz) (WrQi D out.1 (wX2 cI cZ cQ o ra rr k rc k2 rc2 oL oT oN X R S) (wX2 cI cZ cQ o ra rr k rc k2 rc2 oL oT oN out.2 R S) sz) 0 0 (va_A (wX2 cI cZ cQ o ra rr k rc k2 rc2 oL oT oN X R S) sz) := by
  refine metWi (ty := .int) (cc := cX3_failed) (maxL := 2) (by decide) rfl (Nat.le_of_ble_eq_true rfl) ?_
  intro p e s m args below meth c Q A CF hK hP hD hA hRet ls hl
  obtain ⟨hx, hb, hml, hown, hts⟩ := id CF
  have hS : va_S A s.heap s.heap [] := va_S.rf
  have hl : lv_has ls 2 [(0, .ref o), (1, .int p0)] := hl
  unfold fX3_failed_2 at hf
  refine lv_aload_n (pc := 0) hx hb dX3_failed_0 rfl (lv_at hl 0 rfl) ?_
  refine lv_iload_n (pc := 1) hx hb dX3_failed_1 rfl (lv_at hl 1 rfl) ?_
  refine va_put (pc := 2) (D := D) (ci := 3) (v := .int p0) (ty := .int) (C := RX3) (T := TX3) (N := 8) hx hb hts inX3_failed_X3 tyX3 tyX3_ok nmX3 hown hK.1 hP hD hS 0 rfl rfl 7 (by decide) (hts (.fieldLink RX3 44 "HedgeHoles" "lastFault" "I") (by decide +kernel)) (fun _ h9 => h9) rfl (by decide +kernel) (vp_nar_int _) rfl (Nat.le_of_ble_eq_true rfl) dX3_failed_2 (fun H locs hP hD hS => ?_)
  have hP : va_P D vwCl (wX2 cI cZ cQ o ra rr k rc k2 rc2 oL oT oN (sB X 7 0 p0) R S) H := hP
  have hD : va_D A (wX2 cI cZ cQ o ra rr k rc k2 rc2 oL oT oN (sB X 7 0 p0) R S) := hD
  obtain ⟨X_1, h2, hf⟩ := bd hf
  have h2 := Option.some.inj h2
  rw [h2] at hP hD
  refine lv_bipush (pc := 5) (v := (-10)) hx hb dX3_failed_5 (by decide) ?_
  refine lv_iload_n (pc := 7) hx hb dX3_failed_7 rfl (lv_at hl 1 rfl) ?_
  refine lv_isub (pc := 8) hx hb dX3_failed_8 ?_
  obtain rfl := Option.some.inj hf
  exact hRet 9 ls H locs (vp_nar_int _) dX3_failed_9 hP hS
theorem hdX3_failed_2 : yX3_failed.cls ≠ "java/lang/invoke/MethodHandle" ∧ yX3_failed.cls ≠ "java/lang/invoke/VarHandle" ∧ (parseMethodDescriptor yX3_failed.desc).map (fun d => d.parameters.length) = some 1 := by decide +kernel
abbrev rmX3_firstFaultOfText : Room := { frames := 3, cells := 0, slots := 0, locals := 69 }
theorem inX3_firstFaultOfText_X2 : ∀ w ∈ wsX20, w ∈ wsX3_firstFaultOfText := fun _ h => List.mem_cons_of_mem _ (List.mem_append_left _ (List.mem_append_right _ h))
theorem inX3_firstFaultOfText_X3 : ∀ w ∈ wsX30, w ∈ wsX3_firstFaultOfText := fun _ h => List.mem_cons_of_mem _ (List.mem_append_left _ (List.mem_append_left _ (List.mem_append_right _ h)))
set_option maxHeartbeats 4000000 in
set_option maxRecDepth 100000 in
theorem mtX3_firstFaultOfText (l : Launch) (D : va_G) (cI cZ cQ : ClassId) (o ra : Nat) (rr : Nat → Nat) (k rc : Nat) (oL : Nat) (aL : Nat → Nat) (oT : Nat) (aT : Nat → Nat) (oN : Nat) (aN : Nat → Nat) (X R L T N : Bk) (p1 : Int32) (p2 : Int32) (sz : Nat) (out : (Int32 × Bk)) (hf : fX3_firstFaultOfText R T p1 p2 = some out) : Met l yX3_firstFaultOfText wsX3_firstFaultOfText rmX3_firstFaultOfText (WrP D cI cZ cQ [.ref o, .ref (rr k), .int p1, .int p2] (wX cI cZ cQ o ra rr k rc oL aL oT aT oN aN X R L T N) sz) (WrQi D out.1 (wX cI cZ cQ o ra rr k rc oL aL oT aT oN aN X R L T N) (wX cI cZ cQ o ra rr k rc oL aL oT aT oN aN X R L out.2 N) sz) 0 0 (va_A (wX cI cZ cQ o ra rr k rc oL aL oT aT oN aN X R L T N) sz) := by
  refine metWi (ty := .int) (cc := cX3_firstFaultOfText) (maxL := 5) (by decide) rfl (Nat.le_of_ble_eq_true rfl) ?_
  intro p e s m args below meth c Q A CF hK hP hD hA hRet ls hl
  obtain ⟨hx, hb, hml, hown, hts⟩ := id CF
  have hS : va_S A s.heap s.heap [] := va_S.rf
  have hl : lv_has ls 5 [(0, .ref o), (1, .ref (rr k)), (2, .int p1), (3, .int p2)] := hl
  unfold fX3_firstFaultOfText at hf
  refine lv_aload_n (pc := 0) hx hb dX3_firstFaultOfText_0 rfl (lv_at hl 0 rfl) ?_
  refine va_get (pc := 1) (D := D) (ci := 3) (v := .ref oT) (C := RX3) (T := TX3) (N := 8) hx hb hts inX3_firstFaultOfText_X3 hown hK.1 hP 0 rfl rfl 2 (by decide) (hts (.fieldLink RX3 24 "HedgeHoles" "trial" "LHedgeHoles$Land;") (by decide +kernel)) (fun _ h9 => h9) rfl dX3_firstFaultOfText_1 ?_
  obtain ⟨v1, h2, hf⟩ := bd hf
  refine wrVv (pc := 4) (As := []) (rest := []) (wB' := wX cI cZ cQ o ra rr k rc oL aL oT aT oN aN X R L v1 N) CF (mtX0_clear l D cI cZ cQ oT aT T s.heap.size v1 h2) (cwV 0 hts gX3_firstFaultOfText_X0_clear rfl rfl rfl ⟨rfl, hdX0_clear⟩ ⟨Nat.le_of_ble_eq_true rfl, Nat.le_of_ble_eq_true rfl⟩) hK hP hD hS hA [10, 11, 12, 13, 14, 15] rfl (by decide) rfl rfl rfl rfl rfl rfl rfl hl.1 rfl (Nat.le_of_ble_eq_true rfl) dX3_firstFaultOfText_4 (fun H locs hP hD hS => ?_)
  refine lv_iconst (pc := 7) (v := 0) hx hb dX3_firstFaultOfText_7 (by decide) ?_
  refine lv_istore (pc := 8) (lv' := [(4, .int 0), (0, .ref o), (1, .ref (rr k)), (2, .int p1), (3, .int p2)]) hx hb dX3_firstFaultOfText_8 hl (by decide) rfl (fun ls hl => ?_)
  refine zl2 (G := FX3_firstFaultOfText_10 p1 p2 R) (fun x4_3 T_4 => ∀ (ls : Array Slot) (H : Heap) (locs : List Loc), lv_has ls 5 [(0, .ref o), (1, .ref (rr k)), (2, .int p1), (3, .int p2), (4, .int x4_3)] → va_P D vwCl (wX cI cZ cQ o ra rr k rc oL aL oT aT oN aN X R L T_4 N) H → va_D A (wX cI cZ cQ o ra rr k rc oL aL oT aT oN aN X R L T_4 N) → va_S A s.heap H locs → W p l e rmX3_firstFaultOfText s m args below meth c H locs 0 0 Q (F0 m 10 ls [])) (fun x4_5 T_6 => ∀ (ls : Array Slot) (H : Heap) (locs : List Loc), lv_has ls 5 [(0, .ref o), (1, .ref (rr k)), (2, .int p1), (3, .int p2), (4, .int x4_5)] → va_P D vwCl (wX cI cZ cQ o ra rr k rc oL aL oT aT oN aN X R L T_6 N) H → va_D A (wX cI cZ cQ o ra rr k rc oL aL oT aT oN aN X R L T_6 N) → va_S A s.heap H locs → W p l e rmX3_firstFaultOfText s m args below meth c H locs 0 0 Q (F0 m 46 ls [])) hf (fun x4_5 T_6 hf => ?_) (fun kx slf hkx hslf x4_3 T_4 hf => ?_) ls H locs (lv_sub hl [1, 2, 3, 4, 0] rfl) hP hD hS
  · intro ls H locs hl hP hD hS
    refine lv_aload_n (pc := 46) hx hb dX3_firstFaultOfText_46 rfl (lv_at hl 0 rfl) ?_
    refine va_get (pc := 47) (D := D) (ci := 3) (v := .ref oT) (C := RX3) (T := TX3) (N := 8) hx hb hts inX3_firstFaultOfText_X3 hown hK.1 hP 0 rfl rfl 2 (by decide) (hts (.fieldLink RX3 24 "HedgeHoles" "trial" "LHedgeHoles$Land;") (by decide +kernel)) (fun _ h9 => h9) rfl dX3_firstFaultOfText_47 ?_
    refine lv_iload_n (pc := 50) hx hb dX3_firstFaultOfText_50 rfl (lv_at hl 3 rfl) ?_
    obtain ⟨v12, h13, hf⟩ := bd hf
    refine roVi (pc := 51) (As := [.int p2]) (rest := []) CF (mtX0_mayEndAt l D cI cZ cQ oT aT T_6 p2 v12 h13) (cwV 1 hts gX3_firstFaultOfText_X0_mayEndAt rfl rfl rfl ⟨rfl, hdX0_mayEndAt⟩ ⟨Nat.le_of_ble_eq_true rfl, Nat.le_of_ble_eq_true rfl⟩) hK (va_P_sub' hP [10, 11, 12, 13, 14, 15] rfl) rfl rfl rfl rfl hl.1 rfl (Nat.le_of_ble_eq_true rfl) dX3_firstFaultOfText_51 ?_
    refine lv_if_eq (pc := 54) (tgt := 62) hx hb dX3_firstFaultOfText_54 (by decide) (fun c14 => ?_) (fun c14 => ?_)
    · have hf := iT c14 hf
      refine lv_iload_n (pc := 62) hx hb dX3_firstFaultOfText_62 rfl (lv_at hl 3 rfl) ?_
      obtain rfl := Option.some.inj hf
      exact hRet 63 ls H locs (vp_nar_int _) dX3_firstFaultOfText_63 hP hS
    · have hf := iF c14 hf
      refine lv_bipush (pc := 57) (v := (-9)) hx hb dX3_firstFaultOfText_57 (by decide) ?_
      refine lv_goto (pc := 59) (tgt := 63) hx hb dX3_firstFaultOfText_59 (by decide) ?_
      obtain rfl := Option.some.inj hf
      exact hRet 63 ls H locs (vp_nar_int _) dX3_firstFaultOfText_63 hP hS
  · unfold FX3_firstFaultOfText_10 at hf
    intro ls H locs hl hP hD hS
    refine lv_iload (pc := 10) hx hb dX3_firstFaultOfText_10 (lv_at hl 4 rfl) ?_
    refine lv_iload_n (pc := 12) hx hb dX3_firstFaultOfText_12 rfl (lv_at hl 3 rfl) ?_
    refine lv_icmp_ge (pc := 13) (tgt := 46) hx hb dX3_firstFaultOfText_13 (by decide) (fun c7 => ?_) (fun c7 => ?_)
    · have hf := iT c7 hf
      exact hkx _ _ hf ls H locs (lv_sub hl [0, 1, 2, 3, 4] rfl) hP hD hS
    · have hf := iF c7 hf
      refine lv_aload_n (pc := 16) hx hb dX3_firstFaultOfText_16 rfl (lv_at hl 0 rfl) ?_
      refine va_get (pc := 17) (D := D) (ci := 3) (v := .ref oT) (C := RX3) (T := TX3) (N := 8) hx hb hts inX3_firstFaultOfText_X3 hown hK.1 hP 0 rfl rfl 2 (by decide) (hts (.fieldLink RX3 24 "HedgeHoles" "trial" "LHedgeHoles$Land;") (by decide +kernel)) (fun _ h9 => h9) rfl dX3_firstFaultOfText_17 ?_
      refine lv_iload (pc := 20) hx hb dX3_firstFaultOfText_20 (lv_at hl 4 rfl) ?_
      refine lv_aload_n (pc := 22) hx hb dX3_firstFaultOfText_22 rfl (lv_at hl 1 rfl) ?_
      refine va_get (pc := 23) (D := D) (ci := 2) (v := .ref rc) (C := RX2) (T := TX2) (N := 4) hx hb hts inX3_firstFaultOfText_X2 hown hK.1 hP 2 rfl rfl 0 (by decide) (hts (.fieldLink RX3 202 "HedgeHoles$Row" "cells" "[I") (by decide +kernel)) (fun _ h9 => h9) rfl dX3_firstFaultOfText_23 ?_
      refine lv_iload_n (pc := 26) hx hb dX3_firstFaultOfText_26 rfl (lv_at hl 2 rfl) ?_
      refine lv_iload (pc := 27) hx hb dX3_firstFaultOfText_27 (lv_at hl 4 rfl) ?_
      refine lv_iadd (pc := 29) hx hb dX3_firstFaultOfText_29 ?_
      obtain ⟨h8, hf⟩ := gI_e hf
      refine va_iald (pc := 30) (f := R 0) (n := 60) hx hb hK.1 hP 3 0 rfl rfl h8 dX3_firstFaultOfText_30 ?_
      obtain ⟨v9, h10, hf⟩ := bd hf
      refine wrVi (pc := 31) (As := [.int x4_3, .int (R 0 (p1 + x4_3).toNatClampNeg)]) (rest := []) (wB' := wX cI cZ cQ o ra rr k rc oL aL oT aT oN aN X R L v9.2 N) CF (mtX0_reads l D cI cZ cQ oT aT T_4 x4_3 (R 0 (p1 + x4_3).toNatClampNeg) H.size v9 h10) (cwV 2 hts gX3_firstFaultOfText_X0_reads rfl rfl rfl ⟨rfl, hdX0_reads⟩ ⟨Nat.le_of_ble_eq_true rfl, Nat.le_of_ble_eq_true rfl⟩) hK hP hD hS hA [10, 11, 12, 13, 14, 15] rfl (by decide) rfl rfl rfl rfl rfl rfl rfl hl.1 rfl (Nat.le_of_ble_eq_true rfl) dX3_firstFaultOfText_31 (fun H locs hP hD hS => ?_)
      refine lv_if_ne (pc := 34) (tgt := 40) hx hb dX3_firstFaultOfText_34 (by decide) (fun c11 => ?_) (fun c11 => ?_)
      · have hf := iF c11 hf
        refine lv_iinc (pc := 40) (v := (x4_3 + 1)) (lv' := [(4, .int (x4_3 + 1)), (0, .ref o), (1, .ref (rr k)), (2, .int p1), (3, .int p2)]) hx hb dX3_firstFaultOfText_40 hl (k := 4) rfl rfl (by decide) rfl (fun ls hl => ?_)
        refine lv_goto (pc := 43) (tgt := 10) hx hb dX3_firstFaultOfText_43 (by decide) ?_
        exact hslf _ _ hf ls H locs (lv_sub hl [1, 2, 3, 4, 0] rfl) hP hD hS
      · have hf := iT c11 hf
        refine lv_iload (pc := 37) hx hb dX3_firstFaultOfText_37 (lv_at hl 4 rfl) ?_
        obtain rfl := Option.some.inj hf
        exact hRet 39 ls H locs (vp_nar_int _) dX3_firstFaultOfText_39 hP hS
theorem hdX3_firstFaultOfText : yX3_firstFaultOfText.cls ≠ "java/lang/invoke/MethodHandle" ∧ yX3_firstFaultOfText.cls ≠ "java/lang/invoke/VarHandle" ∧ (parseMethodDescriptor yX3_firstFaultOfText.desc).map (fun d => d.parameters.length) = some 3 := by decide +kernel
abbrev rmX3_county : Room := { frames := 4, cells := 0, slots := 0, locals := 93 }
theorem inX3_county_X0 : ∀ w ∈ wsX00, w ∈ wsX3_county := fun _ h => List.mem_cons_of_mem _ (List.mem_append_left _ (List.mem_append_right _ h))
theorem inX3_county_X1 : ∀ w ∈ wsX10, w ∈ wsX3_county := fun _ h => List.mem_cons_of_mem _ (List.mem_append_left _ (List.mem_append_left _ (List.mem_append_right _ h)))
theorem inX3_county_X3 : ∀ w ∈ wsX30, w ∈ wsX3_county := fun _ h => List.mem_cons_of_mem _ (List.mem_append_left _ (List.mem_append_left _ (List.mem_append_left _ (List.mem_append_right _ h))))
set_option maxHeartbeats 4000000 in
set_option maxRecDepth 100000 in
theorem mtX3_county (l : Launch) (D : va_G) (cI cZ cQ : ClassId) (o ra : Nat) (rr : Nat → Nat) (k rc : Nat) (oL : Nat) (aL : Nat → Nat) (oT : Nat) (aT : Nat → Nat) (oN : Nat) (aN : Nat → Nat) (X R L T N : Bk) (p0 : Int32) (p1 : Int32) (p2 : Int32) (p3 : Int32) (sz : Nat) (out : (Int32 × Bk × Bk × Bk × Bk)) (hf : fX3_county k X R L T N p0 p1 p2 p3 = some out) : Met l yX3_county wsX3_county rmX3_county (WrP D cI cZ cQ [.ref o, .int p0, .int p1, .int p2, .int p3] (wX cI cZ cQ o ra rr k rc oL aL oT aT oN aN X R L T N) sz) (WrQi D out.1 (wX cI cZ cQ o ra rr k rc oL aL oT aT oN aN X R L T N) (wX cI cZ cQ o ra rr k rc oL aL oT aT oN aN out.2.1 R out.2.2.1 out.2.2.2.1 out.2.2.2.2) sz) 0 0 (va_A (wX cI cZ cQ o ra rr k rc oL aL oT aT oN aN X R L T N) sz) := by
  refine metWi (ty := .int) (cc := cX3_county) (maxL := 7) (by decide) rfl (Nat.le_of_ble_eq_true rfl) ?_
  intro p e s m args below meth c Q A CF hK hP hD hA hRet ls hl
  obtain ⟨hx, hb, hml, hown, hts⟩ := id CF
  have hS : va_S A s.heap s.heap [] := va_S.rf
  have hl : lv_has ls 7 [(0, .ref o), (1, .int p0), (2, .int p1), (3, .int p2), (4, .int p3)] := hl
  unfold fX3_county at hf
  refine lv_aload_n (pc := 0) hx hb dX3_county_0 rfl (lv_at hl 0 rfl) ?_
  refine lv_iconst (pc := 1) (v := 0) hx hb dX3_county_1 (by decide) ?_
  refine va_put (pc := 2) (D := D) (ci := 3) (v := .int 0) (ty := .int) (C := RX3) (T := TX3) (N := 8) hx hb hts inX3_county_X3 tyX3 tyX3_ok nmX3 hown hK.1 hP hD hS 0 rfl rfl 7 (by decide) (hts (.fieldLink RX3 44 "HedgeHoles" "lastFault" "I") (by decide +kernel)) (fun _ h9 => h9) rfl (by decide +kernel) (vp_nar_int _) rfl (Nat.le_of_ble_eq_true rfl) dX3_county_2 (fun H locs hP hD hS => ?_)
  have hP : va_P D vwCl (wX cI cZ cQ o ra rr k rc oL aL oT aT oN aN (sB X 7 0 0) R L T N) H := hP
  have hD : va_D A (wX cI cZ cQ o ra rr k rc oL aL oT aT oN aN (sB X 7 0 0) R L T N) := hD
  obtain ⟨X_1, h2, hf⟩ := bd hf
  have h2 := Option.some.inj h2
  rw [h2] at hP hD
  refine lv_iload_n (pc := 5) hx hb dX3_county_5 rfl (lv_at hl 1 rfl) ?_
  obtain ⟨v3, h4, hf⟩ := bd hf
  refine roSi (pc := 6) (As := [.int p0]) (rest := []) CF (mtX3_isSheet l D cI cZ cQ p0 v3 h4) (va_cwS 1 hts gX3_county_X3_isSheet rfl rfl rfl hdX3_isSheet ⟨Nat.le_of_ble_eq_true rfl, Nat.le_of_ble_eq_true rfl⟩) hK P0 rfl hl.1 rfl (Nat.le_of_ble_eq_true rfl) dX3_county_6 ?_
  refine lv_if_ne (pc := 9) (tgt := 14) hx hb dX3_county_9 (by decide) (fun c5 => ?_) (fun c5 => ?_)
  · have hf := iF c5 hf
    refine lv_iload_n (pc := 14) hx hb dX3_county_14 rfl (lv_at hl 2 rfl) ?_
    obtain ⟨v6, h7, hf⟩ := bd hf
    refine roSi (pc := 15) (As := [.int p1]) (rest := []) CF (mtX3_isLane l D cI cZ cQ p1 v6 h7) (va_cwS 1 hts gX3_county_X3_isLane rfl rfl rfl hdX3_isLane ⟨Nat.le_of_ble_eq_true rfl, Nat.le_of_ble_eq_true rfl⟩) hK P0 rfl hl.1 rfl (Nat.le_of_ble_eq_true rfl) dX3_county_15 ?_
    refine lv_if_ne (pc := 18) (tgt := 24) hx hb dX3_county_18 (by decide) (fun c8 => ?_) (fun c8 => ?_)
    · have hf := iF c8 hf
      refine lv_aload_n (pc := 24) hx hb dX3_county_24 rfl (lv_at hl 0 rfl) ?_
      refine va_get (pc := 25) (D := D) (ci := 3) (v := .ref ra) (C := RX3) (T := TX3) (N := 8) hx hb hts inX3_county_X3 hown hK.1 hP 0 rfl rfl 0 (by decide) (hts (.fieldLink RX3 13 "HedgeHoles" "rows" "[LHedgeHoles$Row;") (by decide +kernel)) (fun _ h9 => h9) rfl dX3_county_25 ?_
      refine lv_iload_n (pc := 28) hx hb dX3_county_28 rfl (lv_at hl 1 rfl) ?_
      obtain ⟨h9, hf⟩ := gI_e hf
      obtain ⟨h10, hf⟩ := gE_e hf
      refine va_aldq (pc := 29) (f := fun i => some (rr i)) (n := 4) hx hb hK.1 hP 1 2 rfl rfl h9 dX3_county_29 ?_
      rw [h10]
      refine W.eq (g2 := F0 m 30 ls [.ref (rr k)]) rfl ?_
      refine lv_iload_n (pc := 30) hx hb dX3_county_30 rfl (lv_at hl 2 rfl) ?_
      obtain ⟨v11, h12, hf⟩ := bd hf
      refine roVi (pc := 31) (As := [.int p1]) (rest := []) CF (mtX2_faultAs l D cI cZ cQ (rr k) (fun _ => rc) R p1 v11 h12) (cwV 1 hts gX3_county_X2_faultAs rfl rfl rfl ⟨rfl, hdX2_faultAs⟩ ⟨Nat.le_of_ble_eq_true rfl, Nat.le_of_ble_eq_true rfl⟩) hK (va_P_sub' hP [2, 3] rfl) rfl rfl rfl rfl hl.1 rfl (Nat.le_of_ble_eq_true rfl) dX3_county_31 ?_
      refine lv_istore (pc := 34) (lv' := [(5, .int v11), (0, .ref o), (1, .int p0), (2, .int p1), (3, .int p2), (4, .int p3)]) hx hb dX3_county_34 hl (by decide) rfl (fun ls hl => ?_)
      refine lv_iload (pc := 36) hx hb dX3_county_36 (lv_at hl 0 rfl) ?_
      obtain ⟨v13, hv, hf⟩ := bd hf
      have J14 : ∀ (ls : Array Slot), lv_has ls 7 [(0, .ref o), (1, .int p0), (2, .int p1), (3, .int p2), (4, .int p3), (5, .int v13)] → W p l e rmX3_county s m args below meth c H locs 0 0 Q (F0 m 49 ls []) := by
        intro ls hl
        refine lv_iload (pc := 49) hx hb dX3_county_49 (lv_at hl 5 rfl) ?_
        obtain ⟨v15, hv, hf⟩ := bd hf
        have J16 : ∀ (ls : Array Slot), lv_has ls 7 [(0, .ref o), (1, .int p0), (2, .int p1), (3, .int p2), (4, .int p3), (5, .int v15)] → W p l e rmX3_county s m args below meth c H locs 0 0 Q (F0 m 72 ls []) := by
          intro ls hl
          refine lv_iload (pc := 72) hx hb dX3_county_72 (lv_at hl 5 rfl) ?_
          refine lv_if_eq (pc := 74) (tgt := 84) hx hb dX3_county_74 (by decide) (fun c17 => ?_) (fun c17 => ?_)
          · have hf := iT c17 hf
            refine lv_aload_n (pc := 84) hx hb dX3_county_84 rfl (lv_at hl 0 rfl) ?_
            refine lv_aload_n (pc := 85) hx hb dX3_county_85 rfl (lv_at hl 0 rfl) ?_
            refine va_get (pc := 86) (D := D) (ci := 3) (v := .ref ra) (C := RX3) (T := TX3) (N := 8) hx hb hts inX3_county_X3 hown hK.1 hP 0 rfl rfl 0 (by decide) (hts (.fieldLink RX3 13 "HedgeHoles" "rows" "[LHedgeHoles$Row;") (by decide +kernel)) (fun _ h9 => h9) rfl dX3_county_86 ?_
            refine lv_iload_n (pc := 89) hx hb dX3_county_89 rfl (lv_at hl 1 rfl) ?_
            refine va_aldq (pc := 90) (f := fun i => some (rr i)) (n := 4) hx hb hK.1 hP 1 2 rfl rfl h9 dX3_county_90 ?_
            rw [h10]
            refine W.eq (g2 := F0 m 91 ls [.ref (rr k), .ref o]) rfl ?_
            refine lv_iload_n (pc := 91) hx hb dX3_county_91 rfl (lv_at hl 3 rfl) ?_
            refine lv_iload (pc := 92) hx hb dX3_county_92 (lv_at hl 4 rfl) ?_
            obtain ⟨v18, h19, hf⟩ := bd hf
            refine wsVi (pc := 94) (As := [.ref (rr k), .int p2, .int p3]) (rest := []) (w1 := wX cI cZ cQ o ra rr k rc oL aL oT aT oN aN X_1 R L v18.2 N) CF (mtX3_firstFaultOfText l D cI cZ cQ o ra rr k rc oL aL oT aT oN aN X_1 R L T N p2 p3 H.size v18 h19) (cwV 3 hts gX3_county_X3_firstFaultOfText rfl rfl rfl ⟨rfl, hdX3_firstFaultOfText⟩ ⟨Nat.le_of_ble_eq_true rfl, Nat.le_of_ble_eq_true rfl⟩) hK hP hD hS hA rfl rfl rfl rfl rfl hl.1 rfl (Nat.le_of_ble_eq_true rfl) dX3_county_94 (fun H locs hP hD hS => ?_)
            refine lv_istore (pc := 97) (lv' := [(6, .int v18.1), (0, .ref o), (1, .int p0), (2, .int p1), (3, .int p2), (4, .int p3), (5, .int v15)]) hx hb dX3_county_97 hl (by decide) rfl (fun ls hl => ?_)
            refine lv_iload (pc := 99) hx hb dX3_county_99 (lv_at hl 0 rfl) ?_
            refine lv_bipush (pc := 101) (v := (-9)) hx hb dX3_county_101 (by decide) ?_
            refine lv_icmp_eq (pc := 103) (tgt := 112) hx hb dX3_county_103 (by decide) (fun c20 => ?_) (fun c20 => ?_)
            · have hf := iT c20 hf
              refine lv_aload_n (pc := 112) hx hb dX3_county_112 rfl (lv_at hl 1 rfl) ?_
              refine va_get (pc := 113) (D := D) (ci := 3) (v := .ref oL) (C := RX3) (T := TX3) (N := 8) hx hb hts inX3_county_X3 hown hK.1 hP 0 rfl rfl 1 (by decide) (hts (.fieldLink RX3 20 "HedgeHoles" "land" "LHedgeHoles$Land;") (by decide +kernel)) (fun _ h9 => h9) rfl dX3_county_113 ?_
              refine lv_aload_n (pc := 116) hx hb dX3_county_116 rfl (lv_at hl 1 rfl) ?_
              refine va_get (pc := 117) (D := D) (ci := 3) (v := .ref oT) (C := RX3) (T := TX3) (N := 8) hx hb hts inX3_county_X3 hown hK.1 hP 0 rfl rfl 2 (by decide) (hts (.fieldLink RX3 24 "HedgeHoles" "trial" "LHedgeHoles$Land;") (by decide +kernel)) (fun _ h9 => h9) rfl dX3_county_117 ?_
              obtain ⟨v21, h22, hf⟩ := bd hf
              refine wrVv (pc := 120) (As := [.ref oT]) (rest := []) (wB' := wX cI cZ cQ o ra rr k rc oL aL oT aT oN aN X_1 R v21 v18.2 N) CF (mtX0_become l D cI cZ cQ oL aL L oT aT v18.2 H.size v21 h22) (cwV 1 hts gX3_county_X0_become rfl rfl rfl ⟨rfl, hdX0_become⟩ ⟨Nat.le_of_ble_eq_true rfl, Nat.le_of_ble_eq_true rfl⟩) hK hP hD hS hA [4, 5, 6, 7, 8, 9, 10, 11, 12, 13, 14, 15] rfl (by decide) rfl rfl rfl rfl rfl rfl rfl hl.1 rfl (Nat.le_of_ble_eq_true rfl) dX3_county_120 (fun H locs hP hD hS => ?_)
              refine lv_aload_n (pc := 123) hx hb dX3_county_123 rfl (lv_at hl 1 rfl) ?_
              refine va_get (pc := 124) (D := D) (ci := 3) (v := .ref oN) (C := RX3) (T := TX3) (N := 8) hx hb hts inX3_county_X3 hown hK.1 hP 0 rfl rfl 3 (by decide) (hts (.fieldLink RX3 30 "HedgeHoles" "notebook" "LHedgeHoles$Notebook;") (by decide +kernel)) (fun _ h9 => h9) rfl dX3_county_124 ?_
              refine lv_iconst (pc := 127) (v := 0) hx hb dX3_county_127 (by decide) ?_
              refine va_put (pc := 128) (D := D) (ci := 1) (v := .int 0) (ty := .int) (C := RX1) (T := TX1) (N := 4) hx hb hts inX3_county_X1 tyX1 tyX1_ok nmX1 hown hK.1 hP hD hS 16 rfl rfl 3 (by decide) (hts (.fieldLink RX3 74 "HedgeHoles$Notebook" "count" "I") (by decide +kernel)) (fun _ h9 => h9) rfl (by decide +kernel) (vp_nar_int _) rfl (Nat.le_of_ble_eq_true rfl) dX3_county_128 (fun H locs hP hD hS => ?_)
              have hP : va_P D vwCl (wX cI cZ cQ o ra rr k rc oL aL oT aT oN aN X_1 R v21 v18.2 (sB N 3 0 0)) H := hP
              have hD : va_D A (wX cI cZ cQ o ra rr k rc oL aL oT aT oN aN X_1 R v21 v18.2 (sB N 3 0 0)) := hD
              obtain ⟨N_23, h24, hf⟩ := bd hf
              have h24 := Option.some.inj h24
              rw [h24] at hP hD
              refine lv_aload_n (pc := 131) hx hb dX3_county_131 rfl (lv_at hl 1 rfl) ?_
              refine lv_iconst (pc := 132) (v := 0) hx hb dX3_county_132 (by decide) ?_
              refine va_put (pc := 133) (D := D) (ci := 3) (v := .int 0) (ty := .int) (C := RX3) (T := TX3) (N := 8) hx hb hts inX3_county_X3 tyX3 tyX3_ok nmX3 hown hK.1 hP hD hS 0 rfl rfl 4 (by decide) (hts (.fieldLink RX3 34 "HedgeHoles" "year" "I") (by decide +kernel)) (fun _ h9 => h9) rfl (by decide +kernel) (vp_nar_int _) rfl (Nat.le_of_ble_eq_true rfl) dX3_county_133 (fun H locs hP hD hS => ?_)
              have hP : va_P D vwCl (wX cI cZ cQ o ra rr k rc oL aL oT aT oN aN (sB X_1 4 0 0) R v21 v18.2 N_23) H := hP
              have hD : va_D A (wX cI cZ cQ o ra rr k rc oL aL oT aT oN aN (sB X_1 4 0 0) R v21 v18.2 N_23) := hD
              obtain ⟨X_25, h26, hf⟩ := bd hf
              have h26 := Option.some.inj h26
              rw [h26] at hP hD
              refine lv_aload_n (pc := 136) hx hb dX3_county_136 rfl (lv_at hl 1 rfl) ?_
              refine lv_iconst (pc := 137) (v := 0) hx hb dX3_county_137 (by decide) ?_
              refine va_put (pc := 138) (D := D) (ci := 3) (v := .int 0) (ty := .int) (C := RX3) (T := TX3) (N := 8) hx hb hts inX3_county_X3 tyX3 tyX3_ok nmX3 hown hK.1 hP hD hS 0 rfl rfl 5 (by decide) (hts (.fieldLink RX3 38 "HedgeHoles" "goings" "I") (by decide +kernel)) (fun _ h9 => h9) rfl (by decide +kernel) (vp_nar_int _) rfl (Nat.le_of_ble_eq_true rfl) dX3_county_138 (fun H locs hP hD hS => ?_)
              have hP : va_P D vwCl (wX cI cZ cQ o ra rr k rc oL aL oT aT oN aN (sB X_25 5 0 0) R v21 v18.2 N_23) H := hP
              have hD : va_D A (wX cI cZ cQ o ra rr k rc oL aL oT aT oN aN (sB X_25 5 0 0) R v21 v18.2 N_23) := hD
              obtain ⟨X_27, h28, hf⟩ := bd hf
              have h28 := Option.some.inj h28
              rw [h28] at hP hD
              refine lv_aload_n (pc := 141) hx hb dX3_county_141 rfl (lv_at hl 1 rfl) ?_
              refine va_get (pc := 142) (D := D) (ci := 3) (v := .ref oL) (C := RX3) (T := TX3) (N := 8) hx hb hts inX3_county_X3 hown hK.1 hP 0 rfl rfl 1 (by decide) (hts (.fieldLink RX3 20 "HedgeHoles" "land" "LHedgeHoles$Land;") (by decide +kernel)) (fun _ h9 => h9) rfl dX3_county_142 ?_
              refine va_get (pc := 145) (D := D) (ci := 0) (v := .int (v21 1 0)) (C := RX0) (T := TX0) (N := 8) hx hb hts inX3_county_X0 hown hK.1 hP 4 rfl rfl 1 (by decide) (hts (.fieldLink RX3 77 "HedgeHoles$Land" "goers" "I") (by decide +kernel)) (fun _ h9 => h9) rfl dX3_county_145 ?_
              obtain rfl := Option.some.inj hf
              exact hRet 148 ls H locs (vp_nar_int _) dX3_county_148 hP hS
            · have hf := iF c20 hf
              refine lv_bipush (pc := 106) (v := (-100)) hx hb dX3_county_106 (by decide) ?_
              refine lv_iload (pc := 108) hx hb dX3_county_108 (lv_at hl 0 rfl) ?_
              refine lv_isub (pc := 110) hx hb dX3_county_110 ?_
              obtain rfl := Option.some.inj hf
              exact hRet 111 ls H locs (vp_nar_int _) dX3_county_111 hP hS
          · have hf := iF c17 hf
            refine lv_aload_n (pc := 77) hx hb dX3_county_77 rfl (lv_at hl 0 rfl) ?_
            refine lv_iload (pc := 78) hx hb dX3_county_78 (lv_at hl 5 rfl) ?_
            obtain ⟨v29, h30, hf⟩ := bd hf
            refine wsVi (pc := 80) (As := [.int v15]) (rest := []) (w1 := wX cI cZ cQ o ra rr k rc oL aL oT aT oN aN v29.2 R L T N) CF (mtX3_failed l D cI cZ cQ o ra rr k rc oL aL oT aT oN aN X_1 R L T N v15 H.size v29 h30) (cwV 1 hts gX3_county_X3_failed rfl rfl rfl ⟨rfl, hdX3_failed⟩ ⟨Nat.le_of_ble_eq_true rfl, Nat.le_of_ble_eq_true rfl⟩) hK hP hD hS hA rfl rfl rfl rfl rfl hl.1 rfl (Nat.le_of_ble_eq_true rfl) dX3_county_80 (fun H locs hP hD hS => ?_)
            obtain rfl := Option.some.inj hf
            exact hRet 83 ls H locs (vp_nar_int _) dX3_county_83 hP hS
        clear hf
        have hf := hv
        clear hv
        refine lv_if_ne (pc := 51) (tgt := 72) hx hb dX3_county_51 (by decide) (fun c31 => ?_) (fun c31 => ?_)
        · have hf := iF c31 hf
          obtain rfl := Option.some.inj hf
          exact J16 ls (lv_sub hl [0, 1, 2, 3, 4, 5] rfl)
        · have hf := iT c31 hf
          refine lv_aload_n (pc := 54) hx hb dX3_county_54 rfl (lv_at hl 0 rfl) ?_
          refine va_get (pc := 55) (D := D) (ci := 3) (v := .ref ra) (C := RX3) (T := TX3) (N := 8) hx hb hts inX3_county_X3 hown hK.1 hP 0 rfl rfl 0 (by decide) (hts (.fieldLink RX3 13 "HedgeHoles" "rows" "[LHedgeHoles$Row;") (by decide +kernel)) (fun _ h9 => h9) rfl dX3_county_55 ?_
          refine lv_iload_n (pc := 58) hx hb dX3_county_58 rfl (lv_at hl 1 rfl) ?_
          refine va_aldq (pc := 59) (f := fun i => some (rr i)) (n := 4) hx hb hK.1 hP 1 2 rfl rfl h9 dX3_county_59 ?_
          rw [h10]
          refine W.eq (g2 := F0 m 60 ls [.ref (rr k)]) rfl ?_
          refine lv_iload_n (pc := 60) hx hb dX3_county_60 rfl (lv_at hl 3 rfl) ?_
          refine lv_iload (pc := 61) hx hb dX3_county_61 (lv_at hl 4 rfl) ?_
          obtain ⟨v32, h33, hf⟩ := bd hf
          refine roVi (pc := 63) (As := [.int p2, .int p3]) (rest := []) CF (mtX2_spans l D cI cZ cQ (rr k) (fun _ => rc) R p2 p3 v32 h33) (cwV 2 hts gX3_county_X2_spans rfl rfl rfl ⟨rfl, hdX2_spans⟩ ⟨Nat.le_of_ble_eq_true rfl, Nat.le_of_ble_eq_true rfl⟩) hK (va_P_sub' hP [2, 3] rfl) rfl rfl rfl rfl hl.1 rfl (Nat.le_of_ble_eq_true rfl) dX3_county_63 ?_
          refine lv_if_ne (pc := 66) (tgt := 72) hx hb dX3_county_66 (by decide) (fun c34 => ?_) (fun c34 => ?_)
          · have hf := iF c34 hf
            obtain rfl := Option.some.inj hf
            exact J16 ls (lv_sub hl [0, 1, 2, 3, 4, 5] rfl)
          · have hf := iT c34 hf
            refine lv_iconst (pc := 69) (v := 3) hx hb dX3_county_69 (by decide) ?_
            refine lv_istore (pc := 70) (lv' := [(5, .int 3), (0, .ref o), (1, .int p0), (2, .int p1), (3, .int p2), (4, .int p3)]) hx hb dX3_county_70 hl (by decide) rfl (fun ls hl => ?_)
            obtain rfl := Option.some.inj hf
            exact J16 ls (lv_sub hl [1, 2, 3, 4, 5, 0] rfl)
      clear hf
      have hf := hv
      clear hv
      refine lv_if_ne (pc := 38) (tgt := 49) hx hb dX3_county_38 (by decide) (fun c35 => ?_) (fun c35 => ?_)
      · have hf := iF c35 hf
        obtain rfl := Option.some.inj hf
        exact J14 ls (lv_sub hl [1, 2, 3, 4, 5, 0] rfl)
      · have hf := iT c35 hf
        refine lv_iload (pc := 41) hx hb dX3_county_41 (lv_at hl 5 rfl) ?_
        refine lv_if_ge (pc := 43) (tgt := 49) hx hb dX3_county_43 (by decide) (fun c36 => ?_) (fun c36 => ?_)
        · have hf := iT c36 hf
          obtain rfl := Option.some.inj hf
          exact J14 ls (lv_sub hl [1, 2, 3, 4, 5, 0] rfl)
        · have hf := iF c36 hf
          refine lv_iconst (pc := 46) (v := 4) hx hb dX3_county_46 (by decide) ?_
          refine lv_istore (pc := 47) (lv' := [(5, .int 4), (0, .ref o), (1, .int p0), (2, .int p1), (3, .int p2), (4, .int p3)]) hx hb dX3_county_47 hl (by decide) rfl (fun ls hl => ?_)
          obtain rfl := Option.some.inj hf
          exact J14 ls (lv_sub hl [1, 2, 3, 4, 5, 0] rfl)
    · have hf := iT c8 hf
      refine lv_bipush (pc := 21) (v := (-2)) hx hb dX3_county_21 (by decide) ?_
      obtain rfl := Option.some.inj hf
      exact hRet 23 ls H locs (vp_nar_int _) dX3_county_23 hP hS
  · have hf := iT c5 hf
    refine lv_iconst (pc := 12) (v := (-1)) hx hb dX3_county_12 (by decide) ?_
    obtain rfl := Option.some.inj hf
    exact hRet 13 ls H locs (vp_nar_int _) dX3_county_13 hP hS
theorem hdX3_county : yX3_county.cls ≠ "java/lang/invoke/MethodHandle" ∧ yX3_county.cls ≠ "java/lang/invoke/VarHandle" ∧ (parseMethodDescriptor yX3_county.desc).map (fun d => d.parameters.length) = some 4 := by decide +kernel
abbrev rmX3_isGoer : Room := { frames := 0, cells := 0, slots := 0, locals := 0 }
theorem inX3_isGoer_X0 : ∀ w ∈ wsX00, w ∈ wsX3_isGoer := fun _ h => List.mem_cons_of_mem _ (List.mem_append_right _ h)
theorem inX3_isGoer_X3 : ∀ w ∈ wsX30, w ∈ wsX3_isGoer := fun _ h => List.mem_cons_of_mem _ (List.mem_append_left _ (List.mem_append_right _ h))
set_option maxHeartbeats 4000000 in
set_option maxRecDepth 100000 in
theorem mtX3_isGoer (l : Launch) (D : va_G) (cI cZ cQ : ClassId) (o ra : Nat) (rr : Nat → Nat) (k rc : Nat) (oL : Nat) (aL : Nat → Nat) (oT : Nat) (aT : Nat → Nat) (oN : Nat) (aN : Nat → Nat) (X R L T N : Bk) (p0 : Int32) (out : Int32) (hf : fX3_isGoer L p0 = some out) : Met l yX3_isGoer wsX3_isGoer rmX3_isGoer (RoP D cI cZ cQ [.ref o, .int p0] (wX cI cZ cQ o ra rr k rc oL aL oT aT oN aN X R L T N)) (vp_Si (fun r' => r' = out)) 0 0 (fun _ => False) := by
  refine metRi (ty := .boolean) (cc := cX3_isGoer) (maxL := 2) (by decide) rfl (Nat.le_of_ble_eq_true rfl) ?_
  intro p e s m args below meth c Q CF hK hP hRet ls hl
  obtain ⟨hx, hb, hml, hown, hts⟩ := id CF
  have hl : lv_has ls 2 [(0, .ref o), (1, .int p0)] := hl
  unfold fX3_isGoer at hf
  refine lv_iload_n (pc := 0) hx hb dX3_isGoer_0 rfl (lv_at hl 1 rfl) ?_
  refine lv_if_lt (pc := 1) (tgt := 19) hx hb dX3_isGoer_1 (by decide) (fun c1 => ?_) (fun c1 => ?_)
  · have hf := iT c1 hf
    refine lv_iconst (pc := 19) (v := 0) hx hb dX3_isGoer_19 (by decide) ?_
    obtain rfl := Option.some.inj hf
    exact hRet 20 ls (nzB (Or.inl rfl)) dX3_isGoer_20
  · have hf := iF c1 hf
    refine lv_iload_n (pc := 4) hx hb dX3_isGoer_4 rfl (lv_at hl 1 rfl) ?_
    refine lv_aload_n (pc := 5) hx hb dX3_isGoer_5 rfl (lv_at hl 0 rfl) ?_
    refine va_get (pc := 6) (D := D) (ci := 3) (v := .ref oL) (C := RX3) (T := TX3) (N := 8) hx hb hts inX3_isGoer_X3 hown hK.1 hP 0 rfl rfl 1 (by decide) (hts (.fieldLink RX3 20 "HedgeHoles" "land" "LHedgeHoles$Land;") (by decide +kernel)) (fun _ h9 => h9) rfl dX3_isGoer_6 ?_
    refine va_get (pc := 9) (D := D) (ci := 0) (v := .int (L 1 0)) (C := RX0) (T := TX0) (N := 8) hx hb hts inX3_isGoer_X0 hown hK.1 hP 4 rfl rfl 1 (by decide) (hts (.fieldLink RX3 77 "HedgeHoles$Land" "goers" "I") (by decide +kernel)) (fun _ h9 => h9) rfl dX3_isGoer_9 ?_
    refine lv_icmp_ge (pc := 12) (tgt := 19) hx hb dX3_isGoer_12 (by decide) (fun c2 => ?_) (fun c2 => ?_)
    · have hf := iT c2 hf
      refine lv_iconst (pc := 19) (v := 0) hx hb dX3_isGoer_19 (by decide) ?_
      obtain rfl := Option.some.inj hf
      exact hRet 20 ls (nzB (Or.inl rfl)) dX3_isGoer_20
    · have hf := iF c2 hf
      refine lv_iconst (pc := 15) (v := 1) hx hb dX3_isGoer_15 (by decide) ?_
      refine lv_goto (pc := 16) (tgt := 20) hx hb dX3_isGoer_16 (by decide) ?_
      obtain rfl := Option.some.inj hf
      exact hRet 20 ls (nzB (Or.inr rfl)) dX3_isGoer_20
theorem hdX3_isGoer : yX3_isGoer.cls ≠ "java/lang/invoke/MethodHandle" ∧ yX3_isGoer.cls ≠ "java/lang/invoke/VarHandle" ∧ (parseMethodDescriptor yX3_isGoer.desc).map (fun d => d.parameters.length) = some 1 := by decide +kernel
abbrev rmX3_ofGoer : Room := { frames := 2, cells := 0, slots := 0, locals := 42 }
theorem inX3_ofGoer_X0 : ∀ w ∈ wsX00, w ∈ wsX3_ofGoer := fun _ h => List.mem_cons_of_mem _ (List.mem_append_right _ h)
theorem inX3_ofGoer_X3 : ∀ w ∈ wsX30, w ∈ wsX3_ofGoer := fun _ h => List.mem_cons_of_mem _ (List.mem_append_left _ (List.mem_append_right _ h))
set_option maxHeartbeats 4000000 in
set_option maxRecDepth 100000 in
theorem mtX3_ofGoer (l : Launch) (D : va_G) (cI cZ cQ : ClassId) (o ra : Nat) (rr : Nat → Nat) (k rc : Nat) (oL : Nat) (aL : Nat → Nat) (oT : Nat) (aT : Nat → Nat) (oN : Nat) (aN : Nat → Nat) (X R L T N : Bk) (p0 : Int32) (p1 : Int32) (out : Int32) (hf : fX3_ofGoer L p0 p1 = some out) : Met l yX3_ofGoer wsX3_ofGoer rmX3_ofGoer (RoP D cI cZ cQ [.ref o, .int p0, .int p1] (wX cI cZ cQ o ra rr k rc oL aL oT aT oN aN X R L T N)) (vp_Si (fun r' => r' = out)) 0 0 (fun _ => False) := by
  refine metRi (ty := .int) (cc := cX3_ofGoer) (maxL := 3) (by decide) rfl (Nat.le_of_ble_eq_true rfl) ?_
  intro p e s m args below meth c Q CF hK hP hRet ls hl
  obtain ⟨hx, hb, hml, hown, hts⟩ := id CF
  have hl : lv_has ls 3 [(0, .ref o), (1, .int p0), (2, .int p1)] := hl
  unfold fX3_ofGoer at hf
  refine lv_aload_n (pc := 0) hx hb dX3_ofGoer_0 rfl (lv_at hl 0 rfl) ?_
  refine lv_iload_n (pc := 1) hx hb dX3_ofGoer_1 rfl (lv_at hl 1 rfl) ?_
  obtain ⟨v1, h2, hf⟩ := bd hf
  refine roVi (pc := 2) (As := [.int p0]) (rest := []) CF (mtX3_isGoer l D cI cZ cQ o ra rr k rc oL aL oT aT oN aN X R L T N p0 v1 h2) (cwV 1 hts gX3_ofGoer_X3_isGoer rfl rfl rfl ⟨rfl, hdX3_isGoer⟩ ⟨Nat.le_of_ble_eq_true rfl, Nat.le_of_ble_eq_true rfl⟩) hK hP rfl rfl rfl rfl hl.1 rfl (Nat.le_of_ble_eq_true rfl) dX3_ofGoer_2 ?_
  refine lv_if_ne (pc := 5) (tgt := 10) hx hb dX3_ofGoer_5 (by decide) (fun c3 => ?_) (fun c3 => ?_)
  · have hf := iF c3 hf
    refine lv_iload_n (pc := 10) hx hb dX3_ofGoer_10 rfl (lv_at hl 2 rfl) ?_
    by_cases c4 : p1 = 0
    · have hf := iT c4 hf
      refine lv_tableIn (pc := 11) (tgt := 40) (off := 29) hx hb dX3_ofGoer_11 (by rw [c4]; decide) (by rw [c4]; decide) (by rw [c4]; rfl) (by decide) ?_
      refine lv_aload_n (pc := 40) hx hb dX3_ofGoer_40 rfl (lv_at hl 0 rfl) ?_
      refine va_get (pc := 41) (D := D) (ci := 3) (v := .ref oL) (C := RX3) (T := TX3) (N := 8) hx hb hts inX3_ofGoer_X3 hown hK.1 hP 0 rfl rfl 1 (by decide) (hts (.fieldLink RX3 20 "HedgeHoles" "land" "LHedgeHoles$Land;") (by decide +kernel)) (fun _ h9 => h9) rfl dX3_ofGoer_41 ?_
      refine va_get (pc := 44) (D := D) (ci := 0) (v := .ref (aL 4)) (C := RX0) (T := TX0) (N := 8) hx hb hts inX3_ofGoer_X0 hown hK.1 hP 4 rfl rfl 4 (by decide) (hts (.fieldLink RX3 83 "HedgeHoles$Land" "kind" "[I") (by decide +kernel)) (fun _ h9 => h9) rfl dX3_ofGoer_44 ?_
      refine lv_iload_n (pc := 47) hx hb dX3_ofGoer_47 rfl (lv_at hl 1 rfl) ?_
      obtain ⟨h5, hf⟩ := gI_e hf
      refine va_iald (pc := 48) (f := L 4) (n := 5) hx hb hK.1 hP 6 0 rfl rfl h5 dX3_ofGoer_48 ?_
      obtain rfl := Option.some.inj hf
      exact hRet 49 ls (vp_nar_int _) dX3_ofGoer_49
    · have hf := iF c4 hf
      by_cases c6 : p1 = 1
      · have hf := iT c6 hf
        refine lv_tableIn (pc := 11) (tgt := 50) (off := 39) hx hb dX3_ofGoer_11 (by rw [c6]; decide) (by rw [c6]; decide) (by rw [c6]; rfl) (by decide) ?_
        refine lv_aload_n (pc := 50) hx hb dX3_ofGoer_50 rfl (lv_at hl 0 rfl) ?_
        refine va_get (pc := 51) (D := D) (ci := 3) (v := .ref oL) (C := RX3) (T := TX3) (N := 8) hx hb hts inX3_ofGoer_X3 hown hK.1 hP 0 rfl rfl 1 (by decide) (hts (.fieldLink RX3 20 "HedgeHoles" "land" "LHedgeHoles$Land;") (by decide +kernel)) (fun _ h9 => h9) rfl dX3_ofGoer_51 ?_
        refine va_get (pc := 54) (D := D) (ci := 0) (v := .ref (aL 5)) (C := RX0) (T := TX0) (N := 8) hx hb hts inX3_ofGoer_X0 hown hK.1 hP 4 rfl rfl 5 (by decide) (hts (.fieldLink RX3 87 "HedgeHoles$Land" "girth" "[I") (by decide +kernel)) (fun _ h9 => h9) rfl dX3_ofGoer_54 ?_
        refine lv_iload_n (pc := 57) hx hb dX3_ofGoer_57 rfl (lv_at hl 1 rfl) ?_
        obtain ⟨h7, hf⟩ := gI_e hf
        refine va_iald (pc := 58) (f := L 5) (n := 5) hx hb hK.1 hP 7 0 rfl rfl h7 dX3_ofGoer_58 ?_
        obtain rfl := Option.some.inj hf
        exact hRet 59 ls (vp_nar_int _) dX3_ofGoer_59
      · have hf := iF c6 hf
        by_cases c8 : p1 = 2
        · have hf := iT c8 hf
          refine lv_tableIn (pc := 11) (tgt := 60) (off := 49) hx hb dX3_ofGoer_11 (by rw [c8]; decide) (by rw [c8]; decide) (by rw [c8]; rfl) (by decide) ?_
          refine lv_aload_n (pc := 60) hx hb dX3_ofGoer_60 rfl (lv_at hl 0 rfl) ?_
          refine va_get (pc := 61) (D := D) (ci := 3) (v := .ref oL) (C := RX3) (T := TX3) (N := 8) hx hb hts inX3_ofGoer_X3 hown hK.1 hP 0 rfl rfl 1 (by decide) (hts (.fieldLink RX3 20 "HedgeHoles" "land" "LHedgeHoles$Land;") (by decide +kernel)) (fun _ h9 => h9) rfl dX3_ofGoer_61 ?_
          refine lv_iload_n (pc := 64) hx hb dX3_ofGoer_64 rfl (lv_at hl 1 rfl) ?_
          obtain ⟨v9, h10, hf⟩ := bd hf
          refine roVi (pc := 65) (As := [.int p0]) (rest := []) CF (mtX0_thickOf l D cI cZ cQ oL aL L p0 v9 h10) (cwV 1 hts gX3_ofGoer_X0_thickOf rfl rfl rfl ⟨rfl, hdX0_thickOf⟩ ⟨Nat.le_of_ble_eq_true rfl, Nat.le_of_ble_eq_true rfl⟩) hK (va_P_sub' hP [4, 5, 6, 7, 8, 9] rfl) rfl rfl rfl rfl hl.1 rfl (Nat.le_of_ble_eq_true rfl) dX3_ofGoer_65 ?_
          obtain rfl := Option.some.inj hf
          exact hRet 68 ls (vp_nar_int _) dX3_ofGoer_68
        · have hf := iF c8 hf
          by_cases c11 : p1 = 3
          · have hf := iT c11 hf
            refine lv_tableIn (pc := 11) (tgt := 69) (off := 58) hx hb dX3_ofGoer_11 (by rw [c11]; decide) (by rw [c11]; decide) (by rw [c11]; rfl) (by decide) ?_
            refine lv_aload_n (pc := 69) hx hb dX3_ofGoer_69 rfl (lv_at hl 0 rfl) ?_
            refine va_get (pc := 70) (D := D) (ci := 3) (v := .ref oL) (C := RX3) (T := TX3) (N := 8) hx hb hts inX3_ofGoer_X3 hown hK.1 hP 0 rfl rfl 1 (by decide) (hts (.fieldLink RX3 20 "HedgeHoles" "land" "LHedgeHoles$Land;") (by decide +kernel)) (fun _ h9 => h9) rfl dX3_ofGoer_70 ?_
            refine va_get (pc := 73) (D := D) (ci := 0) (v := .ref (aL 6)) (C := RX0) (T := TX0) (N := 8) hx hb hts inX3_ofGoer_X0 hown hK.1 hP 4 rfl rfl 6 (by decide) (hts (.fieldLink RX3 93 "HedgeHoles$Land" "place" "[I") (by decide +kernel)) (fun _ h9 => h9) rfl dX3_ofGoer_73 ?_
            refine lv_iload_n (pc := 76) hx hb dX3_ofGoer_76 rfl (lv_at hl 1 rfl) ?_
            obtain ⟨h12, hf⟩ := gI_e hf
            refine va_iald (pc := 77) (f := L 6) (n := 5) hx hb hK.1 hP 8 0 rfl rfl h12 dX3_ofGoer_77 ?_
            obtain rfl := Option.some.inj hf
            exact hRet 78 ls (vp_nar_int _) dX3_ofGoer_78
          · have hf := iF c11 hf
            refine lv_tableOut (pc := 11) (tgt := 79) hx hb dX3_ofGoer_11 (by have e0 := lv_neT (a := 0) c4 rfl; have e1 := lv_neT (a := 1) c6 rfl; have e2 := lv_neT (a := 2) c8 rfl; have e3 := lv_neT (a := 3) c11 rfl; omega) (by decide) ?_
            refine lv_bipush (pc := 79) (v := (-2)) hx hb dX3_ofGoer_79 (by decide) ?_
            obtain rfl := Option.some.inj hf
            exact hRet 81 ls (vp_nar_int _) dX3_ofGoer_81
  · have hf := iT c3 hf
    refine lv_iconst (pc := 8) (v := (-1)) hx hb dX3_ofGoer_8 (by decide) ?_
    obtain rfl := Option.some.inj hf
    exact hRet 9 ls (vp_nar_int _) dX3_ofGoer_9
theorem hdX3_ofGoer : yX3_ofGoer.cls ≠ "java/lang/invoke/MethodHandle" ∧ yX3_ofGoer.cls ≠ "java/lang/invoke/VarHandle" ∧ (parseMethodDescriptor yX3_ofGoer.desc).map (fun d => d.parameters.length) = some 2 := by decide +kernel
abbrev rmX3_isField : Room := { frames := 0, cells := 0, slots := 0, locals := 0 }
theorem inX3_isField_X0 : ∀ w ∈ wsX00, w ∈ wsX3_isField := fun _ h => List.mem_cons_of_mem _ (List.mem_append_right _ h)
theorem inX3_isField_X3 : ∀ w ∈ wsX30, w ∈ wsX3_isField := fun _ h => List.mem_cons_of_mem _ (List.mem_append_left _ (List.mem_append_right _ h))
set_option maxHeartbeats 4000000 in
set_option maxRecDepth 100000 in
theorem mtX3_isField (l : Launch) (D : va_G) (cI cZ cQ : ClassId) (o ra : Nat) (rr : Nat → Nat) (k rc : Nat) (oL : Nat) (aL : Nat → Nat) (oT : Nat) (aT : Nat → Nat) (oN : Nat) (aN : Nat → Nat) (X R L T N : Bk) (p0 : Int32) (out : Int32) (hf : fX3_isField L p0 = some out) : Met l yX3_isField wsX3_isField rmX3_isField (RoP D cI cZ cQ [.ref o, .int p0] (wX cI cZ cQ o ra rr k rc oL aL oT aT oN aN X R L T N)) (vp_Si (fun r' => r' = out)) 0 0 (fun _ => False) := by
  refine metRi (ty := .boolean) (cc := cX3_isField) (maxL := 2) (by decide) rfl (Nat.le_of_ble_eq_true rfl) ?_
  intro p e s m args below meth c Q CF hK hP hRet ls hl
  obtain ⟨hx, hb, hml, hown, hts⟩ := id CF
  have hl : lv_has ls 2 [(0, .ref o), (1, .int p0)] := hl
  unfold fX3_isField at hf
  refine lv_iload_n (pc := 0) hx hb dX3_isField_0 rfl (lv_at hl 1 rfl) ?_
  refine lv_if_lt (pc := 1) (tgt := 19) hx hb dX3_isField_1 (by decide) (fun c1 => ?_) (fun c1 => ?_)
  · have hf := iT c1 hf
    refine lv_iconst (pc := 19) (v := 0) hx hb dX3_isField_19 (by decide) ?_
    obtain rfl := Option.some.inj hf
    exact hRet 20 ls (nzB (Or.inl rfl)) dX3_isField_20
  · have hf := iF c1 hf
    refine lv_iload_n (pc := 4) hx hb dX3_isField_4 rfl (lv_at hl 1 rfl) ?_
    refine lv_aload_n (pc := 5) hx hb dX3_isField_5 rfl (lv_at hl 0 rfl) ?_
    refine va_get (pc := 6) (D := D) (ci := 3) (v := .ref oL) (C := RX3) (T := TX3) (N := 8) hx hb hts inX3_isField_X3 hown hK.1 hP 0 rfl rfl 1 (by decide) (hts (.fieldLink RX3 20 "HedgeHoles" "land" "LHedgeHoles$Land;") (by decide +kernel)) (fun _ h9 => h9) rfl dX3_isField_6 ?_
    refine va_get (pc := 9) (D := D) (ci := 0) (v := .int (L 0 0)) (C := RX0) (T := TX0) (N := 8) hx hb hts inX3_isField_X0 hown hK.1 hP 4 rfl rfl 0 (by decide) (hts (.fieldLink RX3 168 "HedgeHoles$Land" "fields" "I") (by decide +kernel)) (fun _ h9 => h9) rfl dX3_isField_9 ?_
    refine lv_icmp_ge (pc := 12) (tgt := 19) hx hb dX3_isField_12 (by decide) (fun c2 => ?_) (fun c2 => ?_)
    · have hf := iT c2 hf
      refine lv_iconst (pc := 19) (v := 0) hx hb dX3_isField_19 (by decide) ?_
      obtain rfl := Option.some.inj hf
      exact hRet 20 ls (nzB (Or.inl rfl)) dX3_isField_20
    · have hf := iF c2 hf
      refine lv_iconst (pc := 15) (v := 1) hx hb dX3_isField_15 (by decide) ?_
      refine lv_goto (pc := 16) (tgt := 20) hx hb dX3_isField_16 (by decide) ?_
      obtain rfl := Option.some.inj hf
      exact hRet 20 ls (nzB (Or.inr rfl)) dX3_isField_20
theorem hdX3_isField : yX3_isField.cls ≠ "java/lang/invoke/MethodHandle" ∧ yX3_isField.cls ≠ "java/lang/invoke/VarHandle" ∧ (parseMethodDescriptor yX3_isField.desc).map (fun d => d.parameters.length) = some 1 := by decide +kernel
abbrev rmX3_areTwoFields : Room := { frames := 1, cells := 0, slots := 0, locals := 21 }
set_option maxHeartbeats 4000000 in
set_option maxRecDepth 100000 in
theorem mtX3_areTwoFields (l : Launch) (D : va_G) (cI cZ cQ : ClassId) (o ra : Nat) (rr : Nat → Nat) (k rc : Nat) (oL : Nat) (aL : Nat → Nat) (oT : Nat) (aT : Nat → Nat) (oN : Nat) (aN : Nat → Nat) (X R L T N : Bk) (p0 : Int32) (p1 : Int32) (out : Int32) (hf : fX3_areTwoFields L p0 p1 = some out) : Met l yX3_areTwoFields wsX3_areTwoFields rmX3_areTwoFields (RoP D cI cZ cQ [.ref o, .int p0, .int p1] (wX cI cZ cQ o ra rr k rc oL aL oT aT oN aN X R L T N)) (vp_Si (fun r' => r' = out)) 0 0 (fun _ => False) := by
  refine metRi (ty := .boolean) (cc := cX3_areTwoFields) (maxL := 3) (by decide) rfl (Nat.le_of_ble_eq_true rfl) ?_
  intro p e s m args below meth c Q CF hK hP hRet ls hl
  obtain ⟨hx, hb, hml, hown, hts⟩ := id CF
  have hl : lv_has ls 3 [(0, .ref o), (1, .int p0), (2, .int p1)] := hl
  unfold fX3_areTwoFields at hf
  refine lv_aload_n (pc := 0) hx hb dX3_areTwoFields_0 rfl (lv_at hl 0 rfl) ?_
  refine lv_iload_n (pc := 1) hx hb dX3_areTwoFields_1 rfl (lv_at hl 1 rfl) ?_
  obtain ⟨v1, h2, hf⟩ := bd hf
  refine roVi (pc := 2) (As := [.int p0]) (rest := []) CF (mtX3_isField l D cI cZ cQ o ra rr k rc oL aL oT aT oN aN X R L T N p0 v1 h2) (cwV 1 hts gX3_areTwoFields_X3_isField rfl rfl rfl ⟨rfl, hdX3_isField⟩ ⟨Nat.le_of_ble_eq_true rfl, Nat.le_of_ble_eq_true rfl⟩) hK hP rfl rfl rfl rfl hl.1 rfl (Nat.le_of_ble_eq_true rfl) dX3_areTwoFields_2 ?_
  refine lv_if_eq (pc := 5) (tgt := 25) hx hb dX3_areTwoFields_5 (by decide) (fun c3 => ?_) (fun c3 => ?_)
  · have hf := iT c3 hf
    refine lv_iconst (pc := 25) (v := 0) hx hb dX3_areTwoFields_25 (by decide) ?_
    obtain rfl := Option.some.inj hf
    exact hRet 26 ls (nzB (Or.inl rfl)) dX3_areTwoFields_26
  · have hf := iF c3 hf
    refine lv_aload_n (pc := 8) hx hb dX3_areTwoFields_8 rfl (lv_at hl 0 rfl) ?_
    refine lv_iload_n (pc := 9) hx hb dX3_areTwoFields_9 rfl (lv_at hl 2 rfl) ?_
    obtain ⟨v4, h5, hf⟩ := bd hf
    refine roVi (pc := 10) (As := [.int p1]) (rest := []) CF (mtX3_isField l D cI cZ cQ o ra rr k rc oL aL oT aT oN aN X R L T N p1 v4 h5) (cwV 1 hts gX3_areTwoFields_X3_isField rfl rfl rfl ⟨rfl, hdX3_isField⟩ ⟨Nat.le_of_ble_eq_true rfl, Nat.le_of_ble_eq_true rfl⟩) hK hP rfl rfl rfl rfl hl.1 rfl (Nat.le_of_ble_eq_true rfl) dX3_areTwoFields_10 ?_
    refine lv_if_eq (pc := 13) (tgt := 25) hx hb dX3_areTwoFields_13 (by decide) (fun c6 => ?_) (fun c6 => ?_)
    · have hf := iT c6 hf
      refine lv_iconst (pc := 25) (v := 0) hx hb dX3_areTwoFields_25 (by decide) ?_
      obtain rfl := Option.some.inj hf
      exact hRet 26 ls (nzB (Or.inl rfl)) dX3_areTwoFields_26
    · have hf := iF c6 hf
      refine lv_iload_n (pc := 16) hx hb dX3_areTwoFields_16 rfl (lv_at hl 1 rfl) ?_
      refine lv_iload_n (pc := 17) hx hb dX3_areTwoFields_17 rfl (lv_at hl 2 rfl) ?_
      refine lv_icmp_eq (pc := 18) (tgt := 25) hx hb dX3_areTwoFields_18 (by decide) (fun c7 => ?_) (fun c7 => ?_)
      · have hf := iT c7 hf
        refine lv_iconst (pc := 25) (v := 0) hx hb dX3_areTwoFields_25 (by decide) ?_
        obtain rfl := Option.some.inj hf
        exact hRet 26 ls (nzB (Or.inl rfl)) dX3_areTwoFields_26
      · have hf := iF c7 hf
        refine lv_iconst (pc := 21) (v := 1) hx hb dX3_areTwoFields_21 (by decide) ?_
        refine lv_goto (pc := 22) (tgt := 26) hx hb dX3_areTwoFields_22 (by decide) ?_
        obtain rfl := Option.some.inj hf
        exact hRet 26 ls (nzB (Or.inr rfl)) dX3_areTwoFields_26
theorem hdX3_areTwoFields : yX3_areTwoFields.cls ≠ "java/lang/invoke/MethodHandle" ∧ yX3_areTwoFields.cls ≠ "java/lang/invoke/VarHandle" ∧ (parseMethodDescriptor yX3_areTwoFields.desc).map (fun d => d.parameters.length) = some 2 := by decide +kernel
abbrev rmX3_hole : Room := { frames := 2, cells := 0, slots := 0, locals := 45 }
theorem inX3_hole_X0 : ∀ w ∈ wsX00, w ∈ wsX3_hole := fun _ h => List.mem_cons_of_mem _ (List.mem_append_right _ h)
theorem inX3_hole_X3 : ∀ w ∈ wsX30, w ∈ wsX3_hole := fun _ h => List.mem_cons_of_mem _ (List.mem_append_left _ (List.mem_append_right _ h))
set_option maxHeartbeats 4000000 in
set_option maxRecDepth 100000 in
theorem mtX3_hole (l : Launch) (D : va_G) (cI cZ cQ : ClassId) (o ra : Nat) (rr : Nat → Nat) (k rc : Nat) (oL : Nat) (aL : Nat → Nat) (oT : Nat) (aT : Nat → Nat) (oN : Nat) (aN : Nat → Nat) (X R L T N : Bk) (p0 : Int32) (p1 : Int32) (p2 : Int32) (out : Int32) (hf : fX3_hole L p0 p1 p2 = some out) : Met l yX3_hole wsX3_hole rmX3_hole (RoP D cI cZ cQ [.ref o, .int p0, .int p1, .int p2] (wX cI cZ cQ o ra rr k rc oL aL oT aT oN aN X R L T N)) (vp_Si (fun r' => r' = out)) 0 0 (fun _ => False) := by
  refine metRi (ty := .int) (cc := cX3_hole) (maxL := 5) (by decide) rfl (Nat.le_of_ble_eq_true rfl) ?_
  intro p e s m args below meth c Q CF hK hP hRet ls hl
  obtain ⟨hx, hb, hml, hown, hts⟩ := id CF
  have hl : lv_has ls 5 [(0, .ref o), (1, .int p0), (2, .int p1), (3, .int p2)] := hl
  unfold fX3_hole at hf
  refine lv_aload_n (pc := 0) hx hb dX3_hole_0 rfl (lv_at hl 0 rfl) ?_
  refine lv_iload_n (pc := 1) hx hb dX3_hole_1 rfl (lv_at hl 1 rfl) ?_
  refine lv_iload_n (pc := 2) hx hb dX3_hole_2 rfl (lv_at hl 2 rfl) ?_
  obtain ⟨v1, h2, hf⟩ := bd hf
  refine roVi (pc := 3) (As := [.int p0, .int p1]) (rest := []) CF (mtX3_areTwoFields l D cI cZ cQ o ra rr k rc oL aL oT aT oN aN X R L T N p0 p1 v1 h2) (cwV 2 hts gX3_hole_X3_areTwoFields rfl rfl rfl ⟨rfl, hdX3_areTwoFields⟩ ⟨Nat.le_of_ble_eq_true rfl, Nat.le_of_ble_eq_true rfl⟩) hK hP rfl rfl rfl rfl hl.1 rfl (Nat.le_of_ble_eq_true rfl) dX3_hole_3 ?_
  refine lv_if_ne (pc := 6) (tgt := 11) hx hb dX3_hole_6 (by decide) (fun c3 => ?_) (fun c3 => ?_)
  · have hf := iF c3 hf
    refine lv_aload_n (pc := 11) hx hb dX3_hole_11 rfl (lv_at hl 0 rfl) ?_
    refine va_get (pc := 12) (D := D) (ci := 3) (v := .ref oL) (C := RX3) (T := TX3) (N := 8) hx hb hts inX3_hole_X3 hown hK.1 hP 0 rfl rfl 1 (by decide) (hts (.fieldLink RX3 20 "HedgeHoles" "land" "LHedgeHoles$Land;") (by decide +kernel)) (fun _ h9 => h9) rfl dX3_hole_12 ?_
    refine lv_iload_n (pc := 15) hx hb dX3_hole_15 rfl (lv_at hl 1 rfl) ?_
    refine lv_iload_n (pc := 16) hx hb dX3_hole_16 rfl (lv_at hl 2 rfl) ?_
    obtain ⟨v4, h5, hf⟩ := bd hf
    refine roVi (pc := 17) (As := [.int p0, .int p1]) (rest := []) CF (mtX0_hedgeOf l D cI cZ cQ oL aL L p0 p1 v4 h5) (cwV 2 hts gX3_hole_X0_hedgeOf rfl rfl rfl ⟨rfl, hdX0_hedgeOf⟩ ⟨Nat.le_of_ble_eq_true rfl, Nat.le_of_ble_eq_true rfl⟩) hK (va_P_sub' hP [4, 5, 6, 7, 8, 9] rfl) rfl rfl rfl rfl hl.1 rfl (Nat.le_of_ble_eq_true rfl) dX3_hole_17 ?_
    refine lv_istore (pc := 20) (lv' := [(4, .int v4), (0, .ref o), (1, .int p0), (2, .int p1), (3, .int p2)]) hx hb dX3_hole_20 hl (by decide) rfl (fun ls hl => ?_)
    refine lv_iload_n (pc := 22) hx hb dX3_hole_22 rfl (lv_at hl 4 rfl) ?_
    by_cases c6 : p2 = 0
    · have hf := iT c6 hf
      refine lv_tableIn (pc := 23) (tgt := 48) (off := 25) hx hb dX3_hole_23 (by rw [c6]; decide) (by rw [c6]; decide) (by rw [c6]; rfl) (by decide) ?_
      refine lv_aload_n (pc := 48) hx hb dX3_hole_48 rfl (lv_at hl 1 rfl) ?_
      refine va_get (pc := 49) (D := D) (ci := 3) (v := .ref oL) (C := RX3) (T := TX3) (N := 8) hx hb hts inX3_hole_X3 hown hK.1 hP 0 rfl rfl 1 (by decide) (hts (.fieldLink RX3 20 "HedgeHoles" "land" "LHedgeHoles$Land;") (by decide +kernel)) (fun _ h9 => h9) rfl dX3_hole_49 ?_
      refine va_get (pc := 52) (D := D) (ci := 0) (v := .ref (aL 3)) (C := RX0) (T := TX0) (N := 8) hx hb hts inX3_hole_X0 hown hK.1 hP 4 rfl rfl 3 (by decide) (hts (.fieldLink RX3 103 "HedgeHoles$Land" "width" "[I") (by decide +kernel)) (fun _ h9 => h9) rfl dX3_hole_52 ?_
      refine lv_iload (pc := 55) hx hb dX3_hole_55 (lv_at hl 0 rfl) ?_
      obtain ⟨h7, hf⟩ := gI_e hf
      refine va_iald (pc := 57) (f := L 3) (n := 10) hx hb hK.1 hP 5 0 rfl rfl h7 dX3_hole_57 ?_
      obtain rfl := Option.some.inj hf
      exact hRet 58 ls (vp_nar_int _) dX3_hole_58
    · have hf := iF c6 hf
      by_cases c8 : p2 = 1
      · have hf := iT c8 hf
        refine lv_tableIn (pc := 23) (tgt := 59) (off := 36) hx hb dX3_hole_23 (by rw [c8]; decide) (by rw [c8]; decide) (by rw [c8]; rfl) (by decide) ?_
        refine lv_aload_n (pc := 59) hx hb dX3_hole_59 rfl (lv_at hl 1 rfl) ?_
        refine va_get (pc := 60) (D := D) (ci := 3) (v := .ref oL) (C := RX3) (T := TX3) (N := 8) hx hb hts inX3_hole_X3 hown hK.1 hP 0 rfl rfl 1 (by decide) (hts (.fieldLink RX3 20 "HedgeHoles" "land" "LHedgeHoles$Land;") (by decide +kernel)) (fun _ h9 => h9) rfl dX3_hole_60 ?_
        refine va_get (pc := 63) (D := D) (ci := 0) (v := .int (L 2 0)) (C := RX0) (T := TX0) (N := 8) hx hb hts inX3_hole_X0 hown hK.1 hP 4 rfl rfl 2 (by decide) (hts (.fieldLink RX3 106 "HedgeHoles$Land" "worn" "I") (by decide +kernel)) (fun _ h9 => h9) rfl dX3_hole_63 ?_
        refine lv_iload (pc := 66) hx hb dX3_hole_66 (lv_at hl 0 rfl) ?_
        obtain ⟨v9, h10, hf⟩ := bd hf
        refine roSi (pc := 68) (As := [.int (L 2 0), .int v4]) (rest := []) CF (mtX3_isIn l D cI cZ cQ (L 2 0) v4 v9 h10) (va_cwS 2 hts gX3_hole_X3_isIn rfl rfl rfl hdX3_isIn ⟨Nat.le_of_ble_eq_true rfl, Nat.le_of_ble_eq_true rfl⟩) hK P0 rfl hl.1 rfl (Nat.le_of_ble_eq_true rfl) dX3_hole_68 ?_
        refine lv_if_eq (pc := 71) (tgt := 78) hx hb dX3_hole_71 (by decide) (fun c11 => ?_) (fun c11 => ?_)
        · have hf := iT c11 hf
          refine lv_iconst (pc := 78) (v := 0) hx hb dX3_hole_78 (by decide) ?_
          obtain rfl := Option.some.inj hf
          exact hRet 79 ls (vp_nar_int _) dX3_hole_79
        · have hf := iF c11 hf
          refine lv_iconst (pc := 74) (v := 1) hx hb dX3_hole_74 (by decide) ?_
          refine lv_goto (pc := 75) (tgt := 79) hx hb dX3_hole_75 (by decide) ?_
          obtain rfl := Option.some.inj hf
          exact hRet 79 ls (vp_nar_int _) dX3_hole_79
      · have hf := iF c8 hf
        by_cases c12 : p2 = 2
        · have hf := iT c12 hf
          refine lv_tableIn (pc := 23) (tgt := 80) (off := 57) hx hb dX3_hole_23 (by rw [c12]; decide) (by rw [c12]; decide) (by rw [c12]; rfl) (by decide) ?_
          refine lv_iload (pc := 80) hx hb dX3_hole_80 (lv_at hl 0 rfl) ?_
          obtain rfl := Option.some.inj hf
          exact hRet 82 ls (vp_nar_int _) dX3_hole_82
        · have hf := iF c12 hf
          refine lv_tableOut (pc := 23) (tgt := 83) hx hb dX3_hole_23 (by have e0 := lv_neT (a := 0) c6 rfl; have e1 := lv_neT (a := 1) c8 rfl; have e2 := lv_neT (a := 2) c12 rfl; omega) (by decide) ?_
          refine lv_bipush (pc := 83) (v := (-2)) hx hb dX3_hole_83 (by decide) ?_
          obtain rfl := Option.some.inj hf
          exact hRet 85 ls (vp_nar_int _) dX3_hole_85
  · have hf := iT c3 hf
    refine lv_iconst (pc := 9) (v := (-1)) hx hb dX3_hole_9 (by decide) ?_
    obtain rfl := Option.some.inj hf
    exact hRet 10 ls (vp_nar_int _) dX3_hole_10
theorem hdX3_hole : yX3_hole.cls ≠ "java/lang/invoke/MethodHandle" ∧ yX3_hole.cls ≠ "java/lang/invoke/VarHandle" ∧ (parseMethodDescriptor yX3_hole.desc).map (fun d => d.parameters.length) = some 3 := by decide +kernel
abbrev rmX3_hoop : Room := { frames := 2, cells := 0, slots := 0, locals := 45 }
theorem inX3_hoop_X0 : ∀ w ∈ wsX00, w ∈ wsX3_hoop := fun _ h => List.mem_cons_of_mem _ (List.mem_append_right _ h)
theorem inX3_hoop_X3 : ∀ w ∈ wsX30, w ∈ wsX3_hoop := fun _ h => List.mem_cons_of_mem _ (List.mem_append_left _ (List.mem_append_right _ h))
set_option maxHeartbeats 4000000 in
set_option maxRecDepth 100000 in
theorem mtX3_hoop (l : Launch) (D : va_G) (cI cZ cQ : ClassId) (o ra : Nat) (rr : Nat → Nat) (k rc : Nat) (oL : Nat) (aL : Nat → Nat) (oT : Nat) (aT : Nat → Nat) (oN : Nat) (aN : Nat → Nat) (X R L T N : Bk) (p0 : Int32) (p1 : Int32) (p2 : Int32) (sz : Nat) (out : (Int32 × Bk)) (hf : fX3_hoop L p0 p1 p2 = some out) : Met l yX3_hoop wsX3_hoop rmX3_hoop (WrP D cI cZ cQ [.ref o, .int p0, .int p1, .int p2] (wX cI cZ cQ o ra rr k rc oL aL oT aT oN aN X R L T N) sz) (WrQi D out.1 (wX cI cZ cQ o ra rr k rc oL aL oT aT oN aN X R L T N) (wX cI cZ cQ o ra rr k rc oL aL oT aT oN aN X R out.2 T N) sz) 0 0 (va_A (wX cI cZ cQ o ra rr k rc oL aL oT aT oN aN X R L T N) sz) := by
  refine metWi (ty := .int) (cc := cX3_hoop) (maxL := 6) (by decide) rfl (Nat.le_of_ble_eq_true rfl) ?_
  intro p e s m args below meth c Q A CF hK hP hD hA hRet ls hl
  obtain ⟨hx, hb, hml, hown, hts⟩ := id CF
  have hS : va_S A s.heap s.heap [] := va_S.rf
  have hl : lv_has ls 6 [(0, .ref o), (1, .int p0), (2, .int p1), (3, .int p2)] := hl
  unfold fX3_hoop at hf
  refine lv_aload_n (pc := 0) hx hb dX3_hoop_0 rfl (lv_at hl 0 rfl) ?_
  refine lv_iload_n (pc := 1) hx hb dX3_hoop_1 rfl (lv_at hl 1 rfl) ?_
  refine lv_iload_n (pc := 2) hx hb dX3_hoop_2 rfl (lv_at hl 2 rfl) ?_
  obtain ⟨v1, h2, hf⟩ := bd hf
  refine roVi (pc := 3) (As := [.int p0, .int p1]) (rest := []) CF (mtX3_areTwoFields l D cI cZ cQ o ra rr k rc oL aL oT aT oN aN X R L T N p0 p1 v1 h2) (cwV 2 hts gX3_hoop_X3_areTwoFields rfl rfl rfl ⟨rfl, hdX3_areTwoFields⟩ ⟨Nat.le_of_ble_eq_true rfl, Nat.le_of_ble_eq_true rfl⟩) hK hP rfl rfl rfl rfl hl.1 rfl (Nat.le_of_ble_eq_true rfl) dX3_hoop_3 ?_
  refine lv_if_ne (pc := 6) (tgt := 11) hx hb dX3_hoop_6 (by decide) (fun c3 => ?_) (fun c3 => ?_)
  · have hf := iF c3 hf
    refine lv_iload_n (pc := 11) hx hb dX3_hoop_11 rfl (lv_at hl 3 rfl) ?_
    refine lv_if_lt (pc := 12) (tgt := 21) hx hb dX3_hoop_12 (by decide) (fun c4 => ?_) (fun c4 => ?_)
    · have hf := iT c4 hf
      refine lv_bipush (pc := 21) (v := (-2)) hx hb dX3_hoop_21 (by decide) ?_
      obtain rfl := Option.some.inj hf
      exact hRet 23 ls s.heap [] (vp_nar_int _) dX3_hoop_23 hP hS
    · have hf := iF c4 hf
      refine lv_iload_n (pc := 15) hx hb dX3_hoop_15 rfl (lv_at hl 3 rfl) ?_
      refine lv_bipush (pc := 16) (v := 9) hx hb dX3_hoop_16 (by decide) ?_
      refine lv_icmp_le (pc := 18) (tgt := 24) hx hb dX3_hoop_18 (by decide) (fun c5 => ?_) (fun c5 => ?_)
      · have hf := iT c5 hf
        refine lv_aload_n (pc := 24) hx hb dX3_hoop_24 rfl (lv_at hl 0 rfl) ?_
        refine va_get (pc := 25) (D := D) (ci := 3) (v := .ref oL) (C := RX3) (T := TX3) (N := 8) hx hb hts inX3_hoop_X3 hown hK.1 hP 0 rfl rfl 1 (by decide) (hts (.fieldLink RX3 20 "HedgeHoles" "land" "LHedgeHoles$Land;") (by decide +kernel)) (fun _ h9 => h9) rfl dX3_hoop_25 ?_
        refine lv_iload_n (pc := 28) hx hb dX3_hoop_28 rfl (lv_at hl 1 rfl) ?_
        refine lv_iload_n (pc := 29) hx hb dX3_hoop_29 rfl (lv_at hl 2 rfl) ?_
        obtain ⟨v6, h7, hf⟩ := bd hf
        refine roVi (pc := 30) (As := [.int p0, .int p1]) (rest := []) CF (mtX0_hedgeOf l D cI cZ cQ oL aL L p0 p1 v6 h7) (cwV 2 hts gX3_hoop_X0_hedgeOf rfl rfl rfl ⟨rfl, hdX0_hedgeOf⟩ ⟨Nat.le_of_ble_eq_true rfl, Nat.le_of_ble_eq_true rfl⟩) hK (va_P_sub' hP [4, 5, 6, 7, 8, 9] rfl) rfl rfl rfl rfl hl.1 rfl (Nat.le_of_ble_eq_true rfl) dX3_hoop_30 ?_
        refine lv_istore (pc := 33) (lv' := [(4, .int v6), (0, .ref o), (1, .int p0), (2, .int p1), (3, .int p2)]) hx hb dX3_hoop_33 hl (by decide) rfl (fun ls hl => ?_)
        refine lv_aload_n (pc := 35) hx hb dX3_hoop_35 rfl (lv_at hl 1 rfl) ?_
        refine va_get (pc := 36) (D := D) (ci := 3) (v := .ref oL) (C := RX3) (T := TX3) (N := 8) hx hb hts inX3_hoop_X3 hown hK.1 hP 0 rfl rfl 1 (by decide) (hts (.fieldLink RX3 20 "HedgeHoles" "land" "LHedgeHoles$Land;") (by decide +kernel)) (fun _ h9 => h9) rfl dX3_hoop_36 ?_
        refine va_get (pc := 39) (D := D) (ci := 0) (v := .ref (aL 3)) (C := RX0) (T := TX0) (N := 8) hx hb hts inX3_hoop_X0 hown hK.1 hP 4 rfl rfl 3 (by decide) (hts (.fieldLink RX3 103 "HedgeHoles$Land" "width" "[I") (by decide +kernel)) (fun _ h9 => h9) rfl dX3_hoop_39 ?_
        refine lv_iload (pc := 42) hx hb dX3_hoop_42 (lv_at hl 0 rfl) ?_
        obtain ⟨h8, hf⟩ := gI_e hf
        refine va_iald (pc := 44) (f := L 3) (n := 10) hx hb hK.1 hP 5 0 rfl rfl h8 dX3_hoop_44 ?_
        refine lv_istore (pc := 45) (lv' := [(5, .int (L 3 v6.toNatClampNeg)), (4, .int v6), (0, .ref o), (1, .int p0), (2, .int p1), (3, .int p2)]) hx hb dX3_hoop_45 hl (by decide) rfl (fun ls hl => ?_)
        refine lv_aload_n (pc := 47) hx hb dX3_hoop_47 rfl (lv_at hl 2 rfl) ?_
        refine va_get (pc := 48) (D := D) (ci := 3) (v := .ref oL) (C := RX3) (T := TX3) (N := 8) hx hb hts inX3_hoop_X3 hown hK.1 hP 0 rfl rfl 1 (by decide) (hts (.fieldLink RX3 20 "HedgeHoles" "land" "LHedgeHoles$Land;") (by decide +kernel)) (fun _ h9 => h9) rfl dX3_hoop_48 ?_
        refine va_get (pc := 51) (D := D) (ci := 0) (v := .ref (aL 3)) (C := RX0) (T := TX0) (N := 8) hx hb hts inX3_hoop_X0 hown hK.1 hP 4 rfl rfl 3 (by decide) (hts (.fieldLink RX3 103 "HedgeHoles$Land" "width" "[I") (by decide +kernel)) (fun _ h9 => h9) rfl dX3_hoop_51 ?_
        refine lv_iload (pc := 54) hx hb dX3_hoop_54 (lv_at hl 1 rfl) ?_
        refine lv_iload_n (pc := 56) hx hb dX3_hoop_56 rfl (lv_at hl 5 rfl) ?_
        refine va_iast (pc := 57) (f := L 3) (n := 10) hx hb hK.1 hP hD hS 5 0 rfl rfl h8 dX3_hoop_57 (fun H locs hP hD hS => ?_)
        have hP : va_P D vwCl (wX cI cZ cQ o ra rr k rc oL aL oT aT oN aN X R (sB L 3 v6.toNatClampNeg p2) T N) H := hP
        have hD : va_D A (wX cI cZ cQ o ra rr k rc oL aL oT aT oN aN X R (sB L 3 v6.toNatClampNeg p2) T N) := hD
        obtain ⟨L_9, h10, hf⟩ := bd hf
        have h10 := Option.some.inj h10
        rw [h10] at hP hD
        refine lv_aload_n (pc := 58) hx hb dX3_hoop_58 rfl (lv_at hl 2 rfl) ?_
        refine va_get (pc := 59) (D := D) (ci := 3) (v := .ref oL) (C := RX3) (T := TX3) (N := 8) hx hb hts inX3_hoop_X3 hown hK.1 hP 0 rfl rfl 1 (by decide) (hts (.fieldLink RX3 20 "HedgeHoles" "land" "LHedgeHoles$Land;") (by decide +kernel)) (fun _ h9 => h9) rfl dX3_hoop_59 ?_
        refine lv_dup (pc := 62) hx hb dX3_hoop_62 rfl ?_
        refine va_get (pc := 63) (D := D) (ci := 0) (v := .int (L_9 2 0)) (C := RX0) (T := TX0) (N := 8) hx hb hts inX3_hoop_X0 hown hK.1 hP 4 rfl rfl 2 (by decide) (hts (.fieldLink RX3 106 "HedgeHoles$Land" "worn" "I") (by decide +kernel)) (fun _ h9 => h9) rfl dX3_hoop_63 ?_
        refine lv_iconst (pc := 66) (v := 1) hx hb dX3_hoop_66 (by decide) ?_
        refine lv_iload (pc := 67) hx hb dX3_hoop_67 (lv_at hl 1 rfl) ?_
        refine lv_ishl (pc := 69) hx hb dX3_hoop_69 ?_
        refine lv_iconst (pc := 70) (v := (-1)) hx hb dX3_hoop_70 (by decide) ?_
        refine lv_ixor (pc := 71) hx hb dX3_hoop_71 ?_
        refine lv_iand (pc := 72) hx hb dX3_hoop_72 ?_
        refine va_put (pc := 73) (D := D) (ci := 0) (v := .int ((L_9 2 0) &&& ((1 <<< (v6 &&& 31)) ^^^ (-1)))) (ty := .int) (C := RX0) (T := TX0) (N := 8) hx hb hts inX3_hoop_X0 tyX0 tyX0_ok nmX0 hown hK.1 hP hD hS 4 rfl rfl 2 (by decide) (hts (.fieldLink RX3 106 "HedgeHoles$Land" "worn" "I") (by decide +kernel)) (fun _ h9 => h9) rfl (by decide +kernel) (vp_nar_int _) rfl (Nat.le_of_ble_eq_true rfl) dX3_hoop_73 (fun H locs hP hD hS => ?_)
        have hP : va_P D vwCl (wX cI cZ cQ o ra rr k rc oL aL oT aT oN aN X R (sB L_9 2 0 ((L_9 2 0) &&& ((1 <<< (v6 &&& 31)) ^^^ (-1)))) T N) H := hP
        have hD : va_D A (wX cI cZ cQ o ra rr k rc oL aL oT aT oN aN X R (sB L_9 2 0 ((L_9 2 0) &&& ((1 <<< (v6 &&& 31)) ^^^ (-1)))) T N) := hD
        obtain ⟨L_11, h12, hf⟩ := bd hf
        have h12 := Option.some.inj h12
        rw [h12] at hP hD
        refine lv_iload (pc := 76) hx hb dX3_hoop_76 (lv_at hl 0 rfl) ?_
        obtain rfl := Option.some.inj hf
        exact hRet 78 ls H locs (vp_nar_int _) dX3_hoop_78 hP hS
      · have hf := iF c5 hf
        refine lv_bipush (pc := 21) (v := (-2)) hx hb dX3_hoop_21 (by decide) ?_
        obtain rfl := Option.some.inj hf
        exact hRet 23 ls s.heap [] (vp_nar_int _) dX3_hoop_23 hP hS
  · have hf := iT c3 hf
    refine lv_iconst (pc := 9) (v := (-1)) hx hb dX3_hoop_9 (by decide) ?_
    obtain rfl := Option.some.inj hf
    exact hRet 10 ls s.heap [] (vp_nar_int _) dX3_hoop_10 hP hS
theorem hdX3_hoop : yX3_hoop.cls ≠ "java/lang/invoke/MethodHandle" ∧ yX3_hoop.cls ≠ "java/lang/invoke/VarHandle" ∧ (parseMethodDescriptor yX3_hoop.desc).map (fun d => d.parameters.length) = some 3 := by decide +kernel
abbrev rmX3_fatten : Room := { frames := 1, cells := 0, slots := 0, locals := 21 }
theorem inX3_fatten_X0 : ∀ w ∈ wsX00, w ∈ wsX3_fatten := fun _ h => List.mem_cons_of_mem _ (List.mem_append_right _ h)
theorem inX3_fatten_X3 : ∀ w ∈ wsX30, w ∈ wsX3_fatten := fun _ h => List.mem_cons_of_mem _ (List.mem_append_left _ (List.mem_append_right _ h))
set_option maxHeartbeats 4000000 in
set_option maxRecDepth 100000 in
theorem mtX3_fatten (l : Launch) (D : va_G) (cI cZ cQ : ClassId) (o ra : Nat) (rr : Nat → Nat) (k rc : Nat) (oL : Nat) (aL : Nat → Nat) (oT : Nat) (aT : Nat → Nat) (oN : Nat) (aN : Nat → Nat) (X R L T N : Bk) (p0 : Int32) (p1 : Int32) (sz : Nat) (out : (Int32 × Bk)) (hf : fX3_fatten L p0 p1 = some out) : Met l yX3_fatten wsX3_fatten rmX3_fatten (WrP D cI cZ cQ [.ref o, .int p0, .int p1] (wX cI cZ cQ o ra rr k rc oL aL oT aT oN aN X R L T N) sz) (WrQi D out.1 (wX cI cZ cQ o ra rr k rc oL aL oT aT oN aN X R L T N) (wX cI cZ cQ o ra rr k rc oL aL oT aT oN aN X R out.2 T N) sz) 0 0 (va_A (wX cI cZ cQ o ra rr k rc oL aL oT aT oN aN X R L T N) sz) := by
  refine metWi (ty := .int) (cc := cX3_fatten) (maxL := 4) (by decide) rfl (Nat.le_of_ble_eq_true rfl) ?_
  intro p e s m args below meth c Q A CF hK hP hD hA hRet ls hl
  obtain ⟨hx, hb, hml, hown, hts⟩ := id CF
  have hS : va_S A s.heap s.heap [] := va_S.rf
  have hl : lv_has ls 4 [(0, .ref o), (1, .int p0), (2, .int p1)] := hl
  unfold fX3_fatten at hf
  refine lv_aload_n (pc := 0) hx hb dX3_fatten_0 rfl (lv_at hl 0 rfl) ?_
  refine lv_iload_n (pc := 1) hx hb dX3_fatten_1 rfl (lv_at hl 1 rfl) ?_
  obtain ⟨v1, h2, hf⟩ := bd hf
  refine roVi (pc := 2) (As := [.int p0]) (rest := []) CF (mtX3_isGoer l D cI cZ cQ o ra rr k rc oL aL oT aT oN aN X R L T N p0 v1 h2) (cwV 1 hts gX3_fatten_X3_isGoer rfl rfl rfl ⟨rfl, hdX3_isGoer⟩ ⟨Nat.le_of_ble_eq_true rfl, Nat.le_of_ble_eq_true rfl⟩) hK hP rfl rfl rfl rfl hl.1 rfl (Nat.le_of_ble_eq_true rfl) dX3_fatten_2 ?_
  refine lv_if_ne (pc := 5) (tgt := 10) hx hb dX3_fatten_5 (by decide) (fun c3 => ?_) (fun c3 => ?_)
  · have hf := iF c3 hf
    refine lv_iload_n (pc := 10) hx hb dX3_fatten_10 rfl (lv_at hl 2 rfl) ?_
    refine lv_iconst (pc := 11) (v := 1) hx hb dX3_fatten_11 (by decide) ?_
    refine lv_icmp_lt (pc := 12) (tgt := 21) hx hb dX3_fatten_12 (by decide) (fun c4 => ?_) (fun c4 => ?_)
    · have hf := iT c4 hf
      refine lv_bipush (pc := 21) (v := (-2)) hx hb dX3_fatten_21 (by decide) ?_
      obtain rfl := Option.some.inj hf
      exact hRet 23 ls s.heap [] (vp_nar_int _) dX3_fatten_23 hP hS
    · have hf := iF c4 hf
      refine lv_iload_n (pc := 15) hx hb dX3_fatten_15 rfl (lv_at hl 2 rfl) ?_
      refine lv_bipush (pc := 16) (v := 9) hx hb dX3_fatten_16 (by decide) ?_
      refine lv_icmp_le (pc := 18) (tgt := 24) hx hb dX3_fatten_18 (by decide) (fun c5 => ?_) (fun c5 => ?_)
      · have hf := iT c5 hf
        refine lv_aload_n (pc := 24) hx hb dX3_fatten_24 rfl (lv_at hl 0 rfl) ?_
        refine va_get (pc := 25) (D := D) (ci := 3) (v := .ref oL) (C := RX3) (T := TX3) (N := 8) hx hb hts inX3_fatten_X3 hown hK.1 hP 0 rfl rfl 1 (by decide) (hts (.fieldLink RX3 20 "HedgeHoles" "land" "LHedgeHoles$Land;") (by decide +kernel)) (fun _ h9 => h9) rfl dX3_fatten_25 ?_
        refine va_get (pc := 28) (D := D) (ci := 0) (v := .ref (aL 5)) (C := RX0) (T := TX0) (N := 8) hx hb hts inX3_fatten_X0 hown hK.1 hP 4 rfl rfl 5 (by decide) (hts (.fieldLink RX3 87 "HedgeHoles$Land" "girth" "[I") (by decide +kernel)) (fun _ h9 => h9) rfl dX3_fatten_28 ?_
        refine lv_iload_n (pc := 31) hx hb dX3_fatten_31 rfl (lv_at hl 1 rfl) ?_
        obtain ⟨h6, hf⟩ := gI_e hf
        refine va_iald (pc := 32) (f := L 5) (n := 5) hx hb hK.1 hP 7 0 rfl rfl h6 dX3_fatten_32 ?_
        refine lv_istore_n (pc := 33) (lv' := [(3, .int (L 5 p0.toNatClampNeg)), (0, .ref o), (1, .int p0), (2, .int p1)]) hx hb dX3_fatten_33 rfl hl (by decide) rfl (fun ls hl => ?_)
        refine lv_aload_n (pc := 34) hx hb dX3_fatten_34 rfl (lv_at hl 1 rfl) ?_
        refine va_get (pc := 35) (D := D) (ci := 3) (v := .ref oL) (C := RX3) (T := TX3) (N := 8) hx hb hts inX3_fatten_X3 hown hK.1 hP 0 rfl rfl 1 (by decide) (hts (.fieldLink RX3 20 "HedgeHoles" "land" "LHedgeHoles$Land;") (by decide +kernel)) (fun _ h9 => h9) rfl dX3_fatten_35 ?_
        refine va_get (pc := 38) (D := D) (ci := 0) (v := .ref (aL 5)) (C := RX0) (T := TX0) (N := 8) hx hb hts inX3_fatten_X0 hown hK.1 hP 4 rfl rfl 5 (by decide) (hts (.fieldLink RX3 87 "HedgeHoles$Land" "girth" "[I") (by decide +kernel)) (fun _ h9 => h9) rfl dX3_fatten_38 ?_
        refine lv_iload_n (pc := 41) hx hb dX3_fatten_41 rfl (lv_at hl 2 rfl) ?_
        refine lv_iload_n (pc := 42) hx hb dX3_fatten_42 rfl (lv_at hl 3 rfl) ?_
        refine va_iast (pc := 43) (f := L 5) (n := 5) hx hb hK.1 hP hD hS 7 0 rfl rfl h6 dX3_fatten_43 (fun H locs hP hD hS => ?_)
        have hP : va_P D vwCl (wX cI cZ cQ o ra rr k rc oL aL oT aT oN aN X R (sB L 5 p0.toNatClampNeg p1) T N) H := hP
        have hD : va_D A (wX cI cZ cQ o ra rr k rc oL aL oT aT oN aN X R (sB L 5 p0.toNatClampNeg p1) T N) := hD
        obtain ⟨L_7, h8, hf⟩ := bd hf
        have h8 := Option.some.inj h8
        rw [h8] at hP hD
        refine lv_iload_n (pc := 44) hx hb dX3_fatten_44 rfl (lv_at hl 0 rfl) ?_
        obtain rfl := Option.some.inj hf
        exact hRet 45 ls H locs (vp_nar_int _) dX3_fatten_45 hP hS
      · have hf := iF c5 hf
        refine lv_bipush (pc := 21) (v := (-2)) hx hb dX3_fatten_21 (by decide) ?_
        obtain rfl := Option.some.inj hf
        exact hRet 23 ls s.heap [] (vp_nar_int _) dX3_fatten_23 hP hS
  · have hf := iT c3 hf
    refine lv_iconst (pc := 8) (v := (-1)) hx hb dX3_fatten_8 (by decide) ?_
    obtain rfl := Option.some.inj hf
    exact hRet 9 ls s.heap [] (vp_nar_int _) dX3_fatten_9 hP hS
theorem hdX3_fatten : yX3_fatten.cls ≠ "java/lang/invoke/MethodHandle" ∧ yX3_fatten.cls ≠ "java/lang/invoke/VarHandle" ∧ (parseMethodDescriptor yX3_fatten.desc).map (fun d => d.parameters.length) = some 2 := by decide +kernel
abbrev rmX3_go : Room := { frames := 4, cells := 0, slots := 0, locals := 90 }
theorem inX3_go_X0 : ∀ w ∈ wsX00, w ∈ wsX3_go := fun _ h => List.mem_cons_of_mem _ (List.mem_append_right _ h)
theorem inX3_go_X3 : ∀ w ∈ wsX30, w ∈ wsX3_go := fun _ h => List.mem_cons_of_mem _ (List.mem_append_left _ (List.mem_append_right _ h))
set_option maxHeartbeats 4000000 in
set_option maxRecDepth 100000 in
theorem mtX3_go (l : Launch) (D : va_G) (cI cZ cQ : ClassId) (o ra : Nat) (rr : Nat → Nat) (k rc : Nat) (oL : Nat) (aL : Nat → Nat) (oT : Nat) (aT : Nat → Nat) (oN : Nat) (aN : Nat → Nat) (X R L T N : Bk) (p0 : Int32) (p1 : Int32) (sz : Nat) (out : (Int32 × Bk × Bk)) (hf : fX3_go X L p0 p1 = some out) : Met l yX3_go wsX3_go rmX3_go (WrP D cI cZ cQ [.ref o, .int p0, .int p1] (wX cI cZ cQ o ra rr k rc oL aL oT aT oN aN X R L T N) sz) (WrQi D out.1 (wX cI cZ cQ o ra rr k rc oL aL oT aT oN aN X R L T N) (wX cI cZ cQ o ra rr k rc oL aL oT aT oN aN out.2.1 R out.2.2 T N) sz) 0 0 (va_A (wX cI cZ cQ o ra rr k rc oL aL oT aT oN aN X R L T N) sz) := by
  refine metWi (ty := .int) (cc := cX3_go) (maxL := 4) (by decide) rfl (Nat.le_of_ble_eq_true rfl) ?_
  intro p e s m args below meth c Q A CF hK hP hD hA hRet ls hl
  obtain ⟨hx, hb, hml, hown, hts⟩ := id CF
  have hS : va_S A s.heap s.heap [] := va_S.rf
  have hl : lv_has ls 4 [(0, .ref o), (1, .int p0), (2, .int p1)] := hl
  unfold fX3_go at hf
  refine lv_aload_n (pc := 0) hx hb dX3_go_0 rfl (lv_at hl 0 rfl) ?_
  refine lv_iload_n (pc := 1) hx hb dX3_go_1 rfl (lv_at hl 1 rfl) ?_
  obtain ⟨v1, h2, hf⟩ := bd hf
  refine roVi (pc := 2) (As := [.int p0]) (rest := []) CF (mtX3_isGoer l D cI cZ cQ o ra rr k rc oL aL oT aT oN aN X R L T N p0 v1 h2) (cwV 1 hts gX3_go_X3_isGoer rfl rfl rfl ⟨rfl, hdX3_isGoer⟩ ⟨Nat.le_of_ble_eq_true rfl, Nat.le_of_ble_eq_true rfl⟩) hK hP rfl rfl rfl rfl hl.1 rfl (Nat.le_of_ble_eq_true rfl) dX3_go_2 ?_
  refine lv_if_eq (pc := 5) (tgt := 16) hx hb dX3_go_5 (by decide) (fun c3 => ?_) (fun c3 => ?_)
  · have hf := iT c3 hf
    refine lv_iconst (pc := 16) (v := (-1)) hx hb dX3_go_16 (by decide) ?_
    obtain rfl := Option.some.inj hf
    exact hRet 17 ls s.heap [] (vp_nar_int _) dX3_go_17 hP hS
  · have hf := iF c3 hf
    refine lv_aload_n (pc := 8) hx hb dX3_go_8 rfl (lv_at hl 0 rfl) ?_
    refine lv_iload_n (pc := 9) hx hb dX3_go_9 rfl (lv_at hl 2 rfl) ?_
    obtain ⟨v4, h5, hf⟩ := bd hf
    refine roVi (pc := 10) (As := [.int p1]) (rest := []) CF (mtX3_isField l D cI cZ cQ o ra rr k rc oL aL oT aT oN aN X R L T N p1 v4 h5) (cwV 1 hts gX3_go_X3_isField rfl rfl rfl ⟨rfl, hdX3_isField⟩ ⟨Nat.le_of_ble_eq_true rfl, Nat.le_of_ble_eq_true rfl⟩) hK hP rfl rfl rfl rfl hl.1 rfl (Nat.le_of_ble_eq_true rfl) dX3_go_10 ?_
    refine lv_if_ne (pc := 13) (tgt := 18) hx hb dX3_go_13 (by decide) (fun c6 => ?_) (fun c6 => ?_)
    · have hf := iF c6 hf
      refine lv_aload_n (pc := 18) hx hb dX3_go_18 rfl (lv_at hl 0 rfl) ?_
      refine va_get (pc := 19) (D := D) (ci := 3) (v := .ref oL) (C := RX3) (T := TX3) (N := 8) hx hb hts inX3_go_X3 hown hK.1 hP 0 rfl rfl 1 (by decide) (hts (.fieldLink RX3 20 "HedgeHoles" "land" "LHedgeHoles$Land;") (by decide +kernel)) (fun _ h9 => h9) rfl dX3_go_19 ?_
      refine lv_iload_n (pc := 22) hx hb dX3_go_22 rfl (lv_at hl 1 rfl) ?_
      refine lv_iload_n (pc := 23) hx hb dX3_go_23 rfl (lv_at hl 2 rfl) ?_
      obtain ⟨v7, h8, hf⟩ := bd hf
      refine roVi (pc := 24) (As := [.int p0, .int p1]) (rest := []) CF (mtX0_canMove l D cI cZ cQ oL aL L p0 p1 v7 h8) (cwV 2 hts gX3_go_X0_canMove rfl rfl rfl ⟨rfl, hdX0_canMove⟩ ⟨Nat.le_of_ble_eq_true rfl, Nat.le_of_ble_eq_true rfl⟩) hK (va_P_sub' hP [4, 5, 6, 7, 8, 9] rfl) rfl rfl rfl rfl hl.1 rfl (Nat.le_of_ble_eq_true rfl) dX3_go_24 ?_
      refine lv_if_ne (pc := 27) (tgt := 33) hx hb dX3_go_27 (by decide) (fun c9 => ?_) (fun c9 => ?_)
      · have hf := iF c9 hf
        refine lv_aload_n (pc := 33) hx hb dX3_go_33 rfl (lv_at hl 0 rfl) ?_
        refine va_get (pc := 34) (D := D) (ci := 3) (v := .ref oL) (C := RX3) (T := TX3) (N := 8) hx hb hts inX3_go_X3 hown hK.1 hP 0 rfl rfl 1 (by decide) (hts (.fieldLink RX3 20 "HedgeHoles" "land" "LHedgeHoles$Land;") (by decide +kernel)) (fun _ h9 => h9) rfl dX3_go_34 ?_
        refine va_get (pc := 37) (D := D) (ci := 0) (v := .ref (aL 3)) (C := RX0) (T := TX0) (N := 8) hx hb hts inX3_go_X0 hown hK.1 hP 4 rfl rfl 3 (by decide) (hts (.fieldLink RX3 103 "HedgeHoles$Land" "width" "[I") (by decide +kernel)) (fun _ h9 => h9) rfl dX3_go_37 ?_
        refine lv_aload_n (pc := 40) hx hb dX3_go_40 rfl (lv_at hl 0 rfl) ?_
        refine va_get (pc := 41) (D := D) (ci := 3) (v := .ref oL) (C := RX3) (T := TX3) (N := 8) hx hb hts inX3_go_X3 hown hK.1 hP 0 rfl rfl 1 (by decide) (hts (.fieldLink RX3 20 "HedgeHoles" "land" "LHedgeHoles$Land;") (by decide +kernel)) (fun _ h9 => h9) rfl dX3_go_41 ?_
        refine lv_aload_n (pc := 44) hx hb dX3_go_44 rfl (lv_at hl 0 rfl) ?_
        refine va_get (pc := 45) (D := D) (ci := 3) (v := .ref oL) (C := RX3) (T := TX3) (N := 8) hx hb hts inX3_go_X3 hown hK.1 hP 0 rfl rfl 1 (by decide) (hts (.fieldLink RX3 20 "HedgeHoles" "land" "LHedgeHoles$Land;") (by decide +kernel)) (fun _ h9 => h9) rfl dX3_go_45 ?_
        refine va_get (pc := 48) (D := D) (ci := 0) (v := .ref (aL 6)) (C := RX0) (T := TX0) (N := 8) hx hb hts inX3_go_X0 hown hK.1 hP 4 rfl rfl 6 (by decide) (hts (.fieldLink RX3 93 "HedgeHoles$Land" "place" "[I") (by decide +kernel)) (fun _ h9 => h9) rfl dX3_go_48 ?_
        refine lv_iload_n (pc := 51) hx hb dX3_go_51 rfl (lv_at hl 1 rfl) ?_
        obtain ⟨h10, hf⟩ := gI_e hf
        refine va_iald (pc := 52) (f := L 6) (n := 5) hx hb hK.1 hP 8 0 rfl rfl h10 dX3_go_52 ?_
        refine lv_iload_n (pc := 53) hx hb dX3_go_53 rfl (lv_at hl 2 rfl) ?_
        obtain ⟨v11, h12, hf⟩ := bd hf
        refine roVi (pc := 54) (As := [.int (L 6 p0.toNatClampNeg), .int p1]) (rest := [.ref (aL 3)]) CF (mtX0_hedgeOf l D cI cZ cQ oL aL L (L 6 p0.toNatClampNeg) p1 v11 h12) (cwV 2 hts gX3_go_X0_hedgeOf rfl rfl rfl ⟨rfl, hdX0_hedgeOf⟩ ⟨Nat.le_of_ble_eq_true rfl, Nat.le_of_ble_eq_true rfl⟩) hK (va_P_sub' hP [4, 5, 6, 7, 8, 9] rfl) rfl rfl rfl rfl hl.1 rfl (Nat.le_of_ble_eq_true rfl) dX3_go_54 ?_
        obtain ⟨h13, hf⟩ := gI_e hf
        refine va_iald (pc := 57) (f := L 3) (n := 10) hx hb hK.1 hP 5 0 rfl rfl h13 dX3_go_57 ?_
        refine lv_aload_n (pc := 58) hx hb dX3_go_58 rfl (lv_at hl 0 rfl) ?_
        refine va_get (pc := 59) (D := D) (ci := 3) (v := .ref oL) (C := RX3) (T := TX3) (N := 8) hx hb hts inX3_go_X3 hown hK.1 hP 0 rfl rfl 1 (by decide) (hts (.fieldLink RX3 20 "HedgeHoles" "land" "LHedgeHoles$Land;") (by decide +kernel)) (fun _ h9 => h9) rfl dX3_go_59 ?_
        refine lv_iload_n (pc := 62) hx hb dX3_go_62 rfl (lv_at hl 1 rfl) ?_
        obtain ⟨v14, h15, hf⟩ := bd hf
        refine roVi (pc := 63) (As := [.int p0]) (rest := [.int (L 3 v11.toNatClampNeg)]) CF (mtX0_thickOf l D cI cZ cQ oL aL L p0 v14 h15) (cwV 1 hts gX3_go_X0_thickOf rfl rfl rfl ⟨rfl, hdX0_thickOf⟩ ⟨Nat.le_of_ble_eq_true rfl, Nat.le_of_ble_eq_true rfl⟩) hK (va_P_sub' hP [4, 5, 6, 7, 8, 9] rfl) rfl rfl rfl rfl hl.1 rfl (Nat.le_of_ble_eq_true rfl) dX3_go_63 ?_
        refine lv_isub (pc := 66) hx hb dX3_go_66 ?_
        refine lv_istore_n (pc := 67) (lv' := [(3, .int ((L 3 v11.toNatClampNeg) - v14)), (0, .ref o), (1, .int p0), (2, .int p1)]) hx hb dX3_go_67 rfl hl (by decide) rfl (fun ls hl => ?_)
        refine lv_aload_n (pc := 68) hx hb dX3_go_68 rfl (lv_at hl 1 rfl) ?_
        refine va_get (pc := 69) (D := D) (ci := 3) (v := .ref oL) (C := RX3) (T := TX3) (N := 8) hx hb hts inX3_go_X3 hown hK.1 hP 0 rfl rfl 1 (by decide) (hts (.fieldLink RX3 20 "HedgeHoles" "land" "LHedgeHoles$Land;") (by decide +kernel)) (fun _ h9 => h9) rfl dX3_go_69 ?_
        refine lv_iload_n (pc := 72) hx hb dX3_go_72 rfl (lv_at hl 2 rfl) ?_
        refine lv_iload_n (pc := 73) hx hb dX3_go_73 rfl (lv_at hl 3 rfl) ?_
        obtain ⟨v16, h17, hf⟩ := bd hf
        refine wrVv (pc := 74) (As := [.int p0, .int p1]) (rest := []) (wB' := wX cI cZ cQ o ra rr k rc oL aL oT aT oN aN X R v16 T N) CF (mtX0_move l D cI cZ cQ oL aL L p0 p1 s.heap.size v16 h17) (cwV 2 hts gX3_go_X0_move rfl rfl rfl ⟨rfl, hdX0_move⟩ ⟨Nat.le_of_ble_eq_true rfl, Nat.le_of_ble_eq_true rfl⟩) hK hP hD hS hA [4, 5, 6, 7, 8, 9] rfl (by decide) rfl rfl rfl rfl rfl rfl rfl hl.1 rfl (Nat.le_of_ble_eq_true rfl) dX3_go_74 (fun H locs hP hD hS => ?_)
        refine lv_aload_n (pc := 77) hx hb dX3_go_77 rfl (lv_at hl 1 rfl) ?_
        refine lv_dup (pc := 78) hx hb dX3_go_78 rfl ?_
        refine va_get (pc := 79) (D := D) (ci := 3) (v := .int (X 5 0)) (C := RX3) (T := TX3) (N := 8) hx hb hts inX3_go_X3 hown hK.1 hP 0 rfl rfl 5 (by decide) (hts (.fieldLink RX3 38 "HedgeHoles" "goings" "I") (by decide +kernel)) (fun _ h9 => h9) rfl dX3_go_79 ?_
        refine lv_iconst (pc := 82) (v := 1) hx hb dX3_go_82 (by decide) ?_
        refine lv_iadd (pc := 83) hx hb dX3_go_83 ?_
        refine va_put (pc := 84) (D := D) (ci := 3) (v := .int ((X 5 0) + 1)) (ty := .int) (C := RX3) (T := TX3) (N := 8) hx hb hts inX3_go_X3 tyX3 tyX3_ok nmX3 hown hK.1 hP hD hS 0 rfl rfl 5 (by decide) (hts (.fieldLink RX3 38 "HedgeHoles" "goings" "I") (by decide +kernel)) (fun _ h9 => h9) rfl (by decide +kernel) (vp_nar_int _) rfl (Nat.le_of_ble_eq_true rfl) dX3_go_84 (fun H locs hP hD hS => ?_)
        have hP : va_P D vwCl (wX cI cZ cQ o ra rr k rc oL aL oT aT oN aN (sB X 5 0 ((X 5 0) + 1)) R v16 T N) H := hP
        have hD : va_D A (wX cI cZ cQ o ra rr k rc oL aL oT aT oN aN (sB X 5 0 ((X 5 0) + 1)) R v16 T N) := hD
        obtain ⟨X_18, h19, hf⟩ := bd hf
        have h19 := Option.some.inj h19
        rw [h19] at hP hD
        refine lv_iload_n (pc := 87) hx hb dX3_go_87 rfl (lv_at hl 0 rfl) ?_
        obtain rfl := Option.some.inj hf
        exact hRet 88 ls H locs (vp_nar_int _) dX3_go_88 hP hS
      · have hf := iT c9 hf
        refine lv_bipush (pc := 30) (v := (-3)) hx hb dX3_go_30 (by decide) ?_
        obtain rfl := Option.some.inj hf
        exact hRet 32 ls s.heap [] (vp_nar_int _) dX3_go_32 hP hS
    · have hf := iT c6 hf
      refine lv_iconst (pc := 16) (v := (-1)) hx hb dX3_go_16 (by decide) ?_
      obtain rfl := Option.some.inj hf
      exact hRet 17 ls s.heap [] (vp_nar_int _) dX3_go_17 hP hS
theorem hdX3_go : yX3_go.cls ≠ "java/lang/invoke/MethodHandle" ∧ yX3_go.cls ≠ "java/lang/invoke/VarHandle" ∧ (parseMethodDescriptor yX3_go.desc).map (fun d => d.parameters.length) = some 2 := by decide +kernel
abbrev rmX3_hasCounty : Room := { frames := 0, cells := 0, slots := 0, locals := 0 }
theorem inX3_hasCounty_X0 : ∀ w ∈ wsX00, w ∈ wsX3_hasCounty := fun _ h => List.mem_cons_of_mem _ (List.mem_append_right _ h)
theorem inX3_hasCounty_X3 : ∀ w ∈ wsX30, w ∈ wsX3_hasCounty := fun _ h => List.mem_cons_of_mem _ (List.mem_append_left _ (List.mem_append_right _ h))
set_option maxHeartbeats 4000000 in
set_option maxRecDepth 100000 in
theorem mtX3_hasCounty (l : Launch) (D : va_G) (cI cZ cQ : ClassId) (o ra : Nat) (rr : Nat → Nat) (k rc : Nat) (oL : Nat) (aL : Nat → Nat) (oT : Nat) (aT : Nat → Nat) (oN : Nat) (aN : Nat → Nat) (X R L T N : Bk)  (out : Int32) (hf : fX3_hasCounty L = some out) : Met l yX3_hasCounty wsX3_hasCounty rmX3_hasCounty (RoP D cI cZ cQ [.ref o] (wX cI cZ cQ o ra rr k rc oL aL oT aT oN aN X R L T N)) (vp_Si (fun r' => r' = out)) 0 0 (fun _ => False) := by
  refine metRi (ty := .boolean) (cc := cX3_hasCounty) (maxL := 1) (by decide) rfl (Nat.le_of_ble_eq_true rfl) ?_
  intro p e s m args below meth c Q CF hK hP hRet ls hl
  obtain ⟨hx, hb, hml, hown, hts⟩ := id CF
  have hl : lv_has ls 1 [(0, .ref o)] := hl
  unfold fX3_hasCounty at hf
  refine lv_aload_n (pc := 0) hx hb dX3_hasCounty_0 rfl (lv_at hl 0 rfl) ?_
  refine va_get (pc := 1) (D := D) (ci := 3) (v := .ref oL) (C := RX3) (T := TX3) (N := 8) hx hb hts inX3_hasCounty_X3 hown hK.1 hP 0 rfl rfl 1 (by decide) (hts (.fieldLink RX3 20 "HedgeHoles" "land" "LHedgeHoles$Land;") (by decide +kernel)) (fun _ h9 => h9) rfl dX3_hasCounty_1 ?_
  refine va_get (pc := 4) (D := D) (ci := 0) (v := .int (L 0 0)) (C := RX0) (T := TX0) (N := 8) hx hb hts inX3_hasCounty_X0 hown hK.1 hP 4 rfl rfl 0 (by decide) (hts (.fieldLink RX3 168 "HedgeHoles$Land" "fields" "I") (by decide +kernel)) (fun _ h9 => h9) rfl dX3_hasCounty_4 ?_
  refine lv_if_le (pc := 7) (tgt := 14) hx hb dX3_hasCounty_7 (by decide) (fun c1 => ?_) (fun c1 => ?_)
  · have hf := iT c1 hf
    refine lv_iconst (pc := 14) (v := 0) hx hb dX3_hasCounty_14 (by decide) ?_
    obtain rfl := Option.some.inj hf
    exact hRet 15 ls (nzB (Or.inl rfl)) dX3_hasCounty_15
  · have hf := iF c1 hf
    refine lv_iconst (pc := 10) (v := 1) hx hb dX3_hasCounty_10 (by decide) ?_
    refine lv_goto (pc := 11) (tgt := 15) hx hb dX3_hasCounty_11 (by decide) ?_
    obtain rfl := Option.some.inj hf
    exact hRet 15 ls (nzB (Or.inr rfl)) dX3_hasCounty_15
theorem hdX3_hasCounty : yX3_hasCounty.cls ≠ "java/lang/invoke/MethodHandle" ∧ yX3_hasCounty.cls ≠ "java/lang/invoke/VarHandle" ∧ (parseMethodDescriptor yX3_hasCounty.desc).map (fun d => d.parameters.length) = some 0 := by decide +kernel
abbrev rmX3_years : Room := { frames := 2, cells := 0, slots := 0, locals := 44 }
theorem inX3_years_X3 : ∀ w ∈ wsX30, w ∈ wsX3_years := fun _ h => List.mem_cons_of_mem _ (List.mem_append_left _ (List.mem_append_right _ h))
set_option maxHeartbeats 4000000 in
set_option maxRecDepth 100000 in
theorem mtX3_years (l : Launch) (D : va_G) (cI cZ cQ : ClassId) (o ra : Nat) (rr : Nat → Nat) (k rc : Nat) (oL : Nat) (aL : Nat → Nat) (oT : Nat) (aT : Nat → Nat) (oN : Nat) (aN : Nat → Nat) (X R L T N : Bk) (p0 : Int32) (sz : Nat) (out : (Int32 × Bk × Bk)) (hf : fX3_years X L p0 = some out) : Met l yX3_years wsX3_years rmX3_years (WrP D cI cZ cQ [.ref o, .int p0] (wX cI cZ cQ o ra rr k rc oL aL oT aT oN aN X R L T N) sz) (WrQi D out.1 (wX cI cZ cQ o ra rr k rc oL aL oT aT oN aN X R L T N) (wX cI cZ cQ o ra rr k rc oL aL oT aT oN aN out.2.1 R out.2.2 T N) sz) 0 0 (va_A (wX cI cZ cQ o ra rr k rc oL aL oT aT oN aN X R L T N) sz) := by
  refine metWi (ty := .int) (cc := cX3_years) (maxL := 2) (by decide) rfl (Nat.le_of_ble_eq_true rfl) ?_
  intro p e s m args below meth c Q A CF hK hP hD hA hRet ls hl
  obtain ⟨hx, hb, hml, hown, hts⟩ := id CF
  have hS : va_S A s.heap s.heap [] := va_S.rf
  have hl : lv_has ls 2 [(0, .ref o), (1, .int p0)] := hl
  unfold fX3_years at hf
  refine lv_iload_n (pc := 0) hx hb dX3_years_0 rfl (lv_at hl 1 rfl) ?_
  refine lv_iconst (pc := 1) (v := 1) hx hb dX3_years_1 (by decide) ?_
  refine lv_icmp_lt (pc := 2) (tgt := 11) hx hb dX3_years_2 (by decide) (fun c1 => ?_) (fun c1 => ?_)
  · have hf := iT c1 hf
    refine lv_bipush (pc := 11) (v := (-2)) hx hb dX3_years_11 (by decide) ?_
    obtain rfl := Option.some.inj hf
    exact hRet 13 ls s.heap [] (vp_nar_int _) dX3_years_13 hP hS
  · have hf := iF c1 hf
    refine lv_iload_n (pc := 5) hx hb dX3_years_5 rfl (lv_at hl 1 rfl) ?_
    refine lv_bipush (pc := 6) (v := 60) hx hb dX3_years_6 (by decide) ?_
    refine lv_icmp_le (pc := 8) (tgt := 14) hx hb dX3_years_8 (by decide) (fun c2 => ?_) (fun c2 => ?_)
    · have hf := iT c2 hf
      refine lv_aload_n (pc := 14) hx hb dX3_years_14 rfl (lv_at hl 0 rfl) ?_
      obtain ⟨v3, h4, hf⟩ := bd hf
      refine roVi (pc := 15) (As := []) (rest := []) CF (mtX3_hasCounty l D cI cZ cQ o ra rr k rc oL aL oT aT oN aN X R L T N v3 h4) (cwV 0 hts gX3_years_X3_hasCounty rfl rfl rfl ⟨rfl, hdX3_hasCounty⟩ ⟨Nat.le_of_ble_eq_true rfl, Nat.le_of_ble_eq_true rfl⟩) hK hP rfl rfl rfl rfl hl.1 rfl (Nat.le_of_ble_eq_true rfl) dX3_years_15 ?_
      refine lv_if_ne (pc := 18) (tgt := 24) hx hb dX3_years_18 (by decide) (fun c5 => ?_) (fun c5 => ?_)
      · have hf := iF c5 hf
        refine lv_aload_n (pc := 24) hx hb dX3_years_24 rfl (lv_at hl 0 rfl) ?_
        refine va_get (pc := 25) (D := D) (ci := 3) (v := .ref oL) (C := RX3) (T := TX3) (N := 8) hx hb hts inX3_years_X3 hown hK.1 hP 0 rfl rfl 1 (by decide) (hts (.fieldLink RX3 20 "HedgeHoles" "land" "LHedgeHoles$Land;") (by decide +kernel)) (fun _ h9 => h9) rfl dX3_years_25 ?_
        refine lv_iload_n (pc := 28) hx hb dX3_years_28 rfl (lv_at hl 1 rfl) ?_
        obtain ⟨v6, h7, hf⟩ := bd hf
        refine wrVv (pc := 29) (As := [.int p0]) (rest := []) (wB' := wX cI cZ cQ o ra rr k rc oL aL oT aT oN aN X R v6 T N) CF (mtX0_age l D cI cZ cQ oL aL L p0 s.heap.size v6 h7) (cwV 1 hts gX3_years_X0_age rfl rfl rfl ⟨rfl, hdX0_age⟩ ⟨Nat.le_of_ble_eq_true rfl, Nat.le_of_ble_eq_true rfl⟩) hK hP hD hS hA [4, 5, 6, 7, 8, 9] rfl (by decide) rfl rfl rfl rfl rfl rfl rfl hl.1 rfl (Nat.le_of_ble_eq_true rfl) dX3_years_29 (fun H locs hP hD hS => ?_)
        refine lv_aload_n (pc := 32) hx hb dX3_years_32 rfl (lv_at hl 0 rfl) ?_
        refine lv_dup (pc := 33) hx hb dX3_years_33 rfl ?_
        refine va_get (pc := 34) (D := D) (ci := 3) (v := .int (X 4 0)) (C := RX3) (T := TX3) (N := 8) hx hb hts inX3_years_X3 hown hK.1 hP 0 rfl rfl 4 (by decide) (hts (.fieldLink RX3 34 "HedgeHoles" "year" "I") (by decide +kernel)) (fun _ h9 => h9) rfl dX3_years_34 ?_
        refine lv_iload_n (pc := 37) hx hb dX3_years_37 rfl (lv_at hl 1 rfl) ?_
        refine lv_iadd (pc := 38) hx hb dX3_years_38 ?_
        refine va_put (pc := 39) (D := D) (ci := 3) (v := .int ((X 4 0) + p0)) (ty := .int) (C := RX3) (T := TX3) (N := 8) hx hb hts inX3_years_X3 tyX3 tyX3_ok nmX3 hown hK.1 hP hD hS 0 rfl rfl 4 (by decide) (hts (.fieldLink RX3 34 "HedgeHoles" "year" "I") (by decide +kernel)) (fun _ h9 => h9) rfl (by decide +kernel) (vp_nar_int _) rfl (Nat.le_of_ble_eq_true rfl) dX3_years_39 (fun H locs hP hD hS => ?_)
        have hP : va_P D vwCl (wX cI cZ cQ o ra rr k rc oL aL oT aT oN aN (sB X 4 0 ((X 4 0) + p0)) R v6 T N) H := hP
        have hD : va_D A (wX cI cZ cQ o ra rr k rc oL aL oT aT oN aN (sB X 4 0 ((X 4 0) + p0)) R v6 T N) := hD
        obtain ⟨X_8, h9, hf⟩ := bd hf
        have h9 := Option.some.inj h9
        rw [h9] at hP hD
        refine lv_aload_n (pc := 42) hx hb dX3_years_42 rfl (lv_at hl 0 rfl) ?_
        refine va_get (pc := 43) (D := D) (ci := 3) (v := .ref oL) (C := RX3) (T := TX3) (N := 8) hx hb hts inX3_years_X3 hown hK.1 hP 0 rfl rfl 1 (by decide) (hts (.fieldLink RX3 20 "HedgeHoles" "land" "LHedgeHoles$Land;") (by decide +kernel)) (fun _ h9 => h9) rfl dX3_years_43 ?_
        obtain ⟨v10, h11, hf⟩ := bd hf
        refine roVi (pc := 46) (As := []) (rest := []) CF (mtX0_openHoles l D cI cZ cQ oL aL v6 v10 h11) (cwV 0 hts gX3_years_X0_openHoles rfl rfl rfl ⟨rfl, hdX0_openHoles⟩ ⟨Nat.le_of_ble_eq_true rfl, Nat.le_of_ble_eq_true rfl⟩) hK (va_P_sub' hP [4, 5, 6, 7, 8, 9] rfl) rfl rfl rfl rfl hl.1 rfl (Nat.le_of_ble_eq_true rfl) dX3_years_46 ?_
        obtain rfl := Option.some.inj hf
        exact hRet 49 ls H locs (vp_nar_int _) dX3_years_49 hP hS
      · have hf := iT c5 hf
        refine lv_bipush (pc := 21) (v := (-3)) hx hb dX3_years_21 (by decide) ?_
        obtain rfl := Option.some.inj hf
        exact hRet 23 ls s.heap [] (vp_nar_int _) dX3_years_23 hP hS
    · have hf := iF c2 hf
      refine lv_bipush (pc := 11) (v := (-2)) hx hb dX3_years_11 (by decide) ?_
      obtain rfl := Option.some.inj hf
      exact hRet 13 ls s.heap [] (vp_nar_int _) dX3_years_13 hP hS
theorem hdX3_years : yX3_years.cls ≠ "java/lang/invoke/MethodHandle" ∧ yX3_years.cls ≠ "java/lang/invoke/VarHandle" ∧ (parseMethodDescriptor yX3_years.desc).map (fun d => d.parameters.length) = some 1 := by decide +kernel
abbrev rmX3_stop : Room := { frames := 2, cells := 0, slots := 0, locals := 45 }
theorem inX3_stop_X0 : ∀ w ∈ wsX00, w ∈ wsX3_stop := fun _ h => List.mem_cons_of_mem _ (List.mem_append_right _ h)
theorem inX3_stop_X3 : ∀ w ∈ wsX30, w ∈ wsX3_stop := fun _ h => List.mem_cons_of_mem _ (List.mem_append_left _ (List.mem_append_right _ h))
set_option maxHeartbeats 4000000 in
set_option maxRecDepth 100000 in
theorem mtX3_stop (l : Launch) (D : va_G) (cI cZ cQ : ClassId) (o ra : Nat) (rr : Nat → Nat) (k rc : Nat) (oL : Nat) (aL : Nat → Nat) (oT : Nat) (aT : Nat → Nat) (oN : Nat) (aN : Nat → Nat) (X R L T N : Bk) (p0 : Int32) (p1 : Int32) (sz : Nat) (out : (Int32 × Bk)) (hf : fX3_stop L p0 p1 = some out) : Met l yX3_stop wsX3_stop rmX3_stop (WrP D cI cZ cQ [.ref o, .int p0, .int p1] (wX cI cZ cQ o ra rr k rc oL aL oT aT oN aN X R L T N) sz) (WrQi D out.1 (wX cI cZ cQ o ra rr k rc oL aL oT aT oN aN X R L T N) (wX cI cZ cQ o ra rr k rc oL aL oT aT oN aN X R out.2 T N) sz) 0 0 (va_A (wX cI cZ cQ o ra rr k rc oL aL oT aT oN aN X R L T N) sz) := by
  refine metWi (ty := .int) (cc := cX3_stop) (maxL := 5) (by decide) rfl (Nat.le_of_ble_eq_true rfl) ?_
  intro p e s m args below meth c Q A CF hK hP hD hA hRet ls hl
  obtain ⟨hx, hb, hml, hown, hts⟩ := id CF
  have hS : va_S A s.heap s.heap [] := va_S.rf
  have hl : lv_has ls 5 [(0, .ref o), (1, .int p0), (2, .int p1)] := hl
  unfold fX3_stop at hf
  refine lv_aload_n (pc := 0) hx hb dX3_stop_0 rfl (lv_at hl 0 rfl) ?_
  refine lv_iload_n (pc := 1) hx hb dX3_stop_1 rfl (lv_at hl 1 rfl) ?_
  refine lv_iload_n (pc := 2) hx hb dX3_stop_2 rfl (lv_at hl 2 rfl) ?_
  obtain ⟨v1, h2, hf⟩ := bd hf
  refine roVi (pc := 3) (As := [.int p0, .int p1]) (rest := []) CF (mtX3_areTwoFields l D cI cZ cQ o ra rr k rc oL aL oT aT oN aN X R L T N p0 p1 v1 h2) (cwV 2 hts gX3_stop_X3_areTwoFields rfl rfl rfl ⟨rfl, hdX3_areTwoFields⟩ ⟨Nat.le_of_ble_eq_true rfl, Nat.le_of_ble_eq_true rfl⟩) hK hP rfl rfl rfl rfl hl.1 rfl (Nat.le_of_ble_eq_true rfl) dX3_stop_3 ?_
  refine lv_if_ne (pc := 6) (tgt := 11) hx hb dX3_stop_6 (by decide) (fun c3 => ?_) (fun c3 => ?_)
  · have hf := iF c3 hf
    refine lv_aload_n (pc := 11) hx hb dX3_stop_11 rfl (lv_at hl 0 rfl) ?_
    refine va_get (pc := 12) (D := D) (ci := 3) (v := .ref oL) (C := RX3) (T := TX3) (N := 8) hx hb hts inX3_stop_X3 hown hK.1 hP 0 rfl rfl 1 (by decide) (hts (.fieldLink RX3 20 "HedgeHoles" "land" "LHedgeHoles$Land;") (by decide +kernel)) (fun _ h9 => h9) rfl dX3_stop_12 ?_
    refine lv_iload_n (pc := 15) hx hb dX3_stop_15 rfl (lv_at hl 1 rfl) ?_
    refine lv_iload_n (pc := 16) hx hb dX3_stop_16 rfl (lv_at hl 2 rfl) ?_
    obtain ⟨v4, h5, hf⟩ := bd hf
    refine roVi (pc := 17) (As := [.int p0, .int p1]) (rest := []) CF (mtX0_hedgeOf l D cI cZ cQ oL aL L p0 p1 v4 h5) (cwV 2 hts gX3_stop_X0_hedgeOf rfl rfl rfl ⟨rfl, hdX0_hedgeOf⟩ ⟨Nat.le_of_ble_eq_true rfl, Nat.le_of_ble_eq_true rfl⟩) hK (va_P_sub' hP [4, 5, 6, 7, 8, 9] rfl) rfl rfl rfl rfl hl.1 rfl (Nat.le_of_ble_eq_true rfl) dX3_stop_17 ?_
    refine lv_istore_n (pc := 20) (lv' := [(3, .int v4), (0, .ref o), (1, .int p0), (2, .int p1)]) hx hb dX3_stop_20 rfl hl (by decide) rfl (fun ls hl => ?_)
    refine lv_aload_n (pc := 21) hx hb dX3_stop_21 rfl (lv_at hl 1 rfl) ?_
    refine va_get (pc := 22) (D := D) (ci := 3) (v := .ref oL) (C := RX3) (T := TX3) (N := 8) hx hb hts inX3_stop_X3 hown hK.1 hP 0 rfl rfl 1 (by decide) (hts (.fieldLink RX3 20 "HedgeHoles" "land" "LHedgeHoles$Land;") (by decide +kernel)) (fun _ h9 => h9) rfl dX3_stop_22 ?_
    refine va_get (pc := 25) (D := D) (ci := 0) (v := .ref (aL 3)) (C := RX0) (T := TX0) (N := 8) hx hb hts inX3_stop_X0 hown hK.1 hP 4 rfl rfl 3 (by decide) (hts (.fieldLink RX3 103 "HedgeHoles$Land" "width" "[I") (by decide +kernel)) (fun _ h9 => h9) rfl dX3_stop_25 ?_
    refine lv_iload_n (pc := 28) hx hb dX3_stop_28 rfl (lv_at hl 0 rfl) ?_
    obtain ⟨h6, hf⟩ := gI_e hf
    refine va_iald (pc := 29) (f := L 3) (n := 10) hx hb hK.1 hP 5 0 rfl rfl h6 dX3_stop_29 ?_
    refine lv_istore (pc := 30) (lv' := [(4, .int (L 3 v4.toNatClampNeg)), (3, .int v4), (0, .ref o), (1, .int p0), (2, .int p1)]) hx hb dX3_stop_30 hl (by decide) rfl (fun ls hl => ?_)
    refine lv_aload_n (pc := 32) hx hb dX3_stop_32 rfl (lv_at hl 2 rfl) ?_
    refine va_get (pc := 33) (D := D) (ci := 3) (v := .ref oL) (C := RX3) (T := TX3) (N := 8) hx hb hts inX3_stop_X3 hown hK.1 hP 0 rfl rfl 1 (by decide) (hts (.fieldLink RX3 20 "HedgeHoles" "land" "LHedgeHoles$Land;") (by decide +kernel)) (fun _ h9 => h9) rfl dX3_stop_33 ?_
    refine lv_iload_n (pc := 36) hx hb dX3_stop_36 rfl (lv_at hl 1 rfl) ?_
    obtain ⟨v7, h8, hf⟩ := bd hf
    refine wrVi (pc := 37) (As := [.int v4]) (rest := []) (wB' := wX cI cZ cQ o ra rr k rc oL aL oT aT oN aN X R v7.2 T N) CF (mtX0_stopUp l D cI cZ cQ oL aL L v4 s.heap.size v7 h8) (cwV 1 hts gX3_stop_X0_stopUp rfl rfl rfl ⟨rfl, hdX0_stopUp⟩ ⟨Nat.le_of_ble_eq_true rfl, Nat.le_of_ble_eq_true rfl⟩) hK hP hD hS hA [4, 5, 6, 7, 8, 9] rfl (by decide) rfl rfl rfl rfl rfl rfl rfl hl.1 rfl (Nat.le_of_ble_eq_true rfl) dX3_stop_37 (fun H locs hP hD hS => ?_)
    refine lv_if_eq (pc := 40) (tgt := 48) hx hb dX3_stop_40 (by decide) (fun c9 => ?_) (fun c9 => ?_)
    · have hf := iT c9 hf
      refine lv_bipush (pc := 48) (v := (-3)) hx hb dX3_stop_48 (by decide) ?_
      obtain rfl := Option.some.inj hf
      exact hRet 50 ls H locs (vp_nar_int _) dX3_stop_50 hP hS
    · have hf := iF c9 hf
      refine lv_iload (pc := 43) hx hb dX3_stop_43 (lv_at hl 0 rfl) ?_
      refine lv_goto (pc := 45) (tgt := 50) hx hb dX3_stop_45 (by decide) ?_
      obtain rfl := Option.some.inj hf
      exact hRet 50 ls H locs (vp_nar_int _) dX3_stop_50 hP hS
  · have hf := iT c3 hf
    refine lv_iconst (pc := 9) (v := (-1)) hx hb dX3_stop_9 (by decide) ?_
    obtain rfl := Option.some.inj hf
    exact hRet 10 ls s.heap [] (vp_nar_int _) dX3_stop_10 hP hS
theorem hdX3_stop : yX3_stop.cls ≠ "java/lang/invoke/MethodHandle" ∧ yX3_stop.cls ≠ "java/lang/invoke/VarHandle" ∧ (parseMethodDescriptor yX3_stop.desc).map (fun d => d.parameters.length) = some 2 := by decide +kernel
abbrev rmX3_refusalOfPairs : Room := { frames := 1, cells := 0, slots := 0, locals := 21 }
theorem inX3_refusalOfPairs_X2 : ∀ w ∈ wsX20, w ∈ wsX3_refusalOfPairs := fun _ h => List.mem_cons_of_mem _ (List.mem_append_left _ (List.mem_append_left _ (List.mem_append_right _ h)))
set_option maxHeartbeats 4000000 in
set_option maxRecDepth 100000 in
theorem mtX3_refusalOfPairs (l : Launch) (D : va_G) (cI cZ cQ : ClassId) (o ra : Nat) (rr : Nat → Nat) (k rc : Nat) (oL : Nat) (aL : Nat → Nat) (oT : Nat) (aT : Nat → Nat) (oN : Nat) (aN : Nat → Nat) (X R L T N : Bk) (p1 : Int32) (p2 : Int32) (out : Int32) (hf : fX3_refusalOfPairs R L p1 p2 = some out) : Met l yX3_refusalOfPairs wsX3_refusalOfPairs rmX3_refusalOfPairs (RoP D cI cZ cQ [.ref o, .ref (rr k), .int p1, .int p2] (wX cI cZ cQ o ra rr k rc oL aL oT aT oN aN X R L T N)) (vp_Si (fun r' => r' = out)) 0 0 (fun _ => False) := by
  refine metRi (ty := .int) (cc := cX3_refusalOfPairs) (maxL := 7) (by decide) rfl (Nat.le_of_ble_eq_true rfl) ?_
  intro p e s m args below meth c Q CF hK hP hRet ls hl
  obtain ⟨hx, hb, hml, hown, hts⟩ := id CF
  have hl : lv_has ls 7 [(0, .ref o), (1, .ref (rr k)), (2, .int p1), (3, .int p2)] := hl
  unfold fX3_refusalOfPairs at hf
  refine lv_iconst (pc := 0) (v := 0) hx hb dX3_refusalOfPairs_0 (by decide) ?_
  refine lv_istore (pc := 1) (lv' := [(4, .int 0), (0, .ref o), (1, .ref (rr k)), (2, .int p1), (3, .int p2)]) hx hb dX3_refusalOfPairs_1 hl (by decide) rfl (fun ls hl => ?_)
  refine zl1 (G := FX3_refusalOfPairs_3 p1 p2 R L) (fun x4_1 => ∀ (ls : Array Slot), lv_has ls 7 [(0, .ref o), (1, .ref (rr k)), (2, .int p1), (3, .int p2), (4, .int x4_1)] → W p l e rmX3_refusalOfPairs s m args below meth c s.heap [] 0 0 Q (F0 m 3 ls [])) (fun x4_2 => ∀ (ls : Array Slot), lv_has ls 7 [(0, .ref o), (1, .ref (rr k)), (2, .int p1), (3, .int p2), (4, .int x4_2)] → W p l e rmX3_refusalOfPairs s m args below meth c s.heap [] 0 0 Q (F0 m 97 ls [])) hf (fun x4_2 hf => ?_) (fun kx slf hkx hslf x4_1 hf => ?_) ls (lv_sub hl [1, 2, 3, 4, 0] rfl)
  · intro ls hl
    refine lv_iconst (pc := 97) (v := 0) hx hb dX3_refusalOfPairs_97 (by decide) ?_
    obtain rfl := Option.some.inj hf
    exact hRet 98 ls (vp_nar_int _) dX3_refusalOfPairs_98
  · unfold FX3_refusalOfPairs_3 at hf
    intro ls hl
    refine lv_iload (pc := 3) hx hb dX3_refusalOfPairs_3 (lv_at hl 4 rfl) ?_
    refine lv_iload_n (pc := 5) hx hb dX3_refusalOfPairs_5 rfl (lv_at hl 3 rfl) ?_
    refine lv_icmp_ge (pc := 6) (tgt := 97) hx hb dX3_refusalOfPairs_6 (by decide) (fun c3 => ?_) (fun c3 => ?_)
    · have hf := iT c3 hf
      exact hkx _ hf ls (lv_sub hl [0, 1, 2, 3, 4] rfl)
    · have hf := iF c3 hf
      refine lv_aload_n (pc := 9) hx hb dX3_refusalOfPairs_9 rfl (lv_at hl 1 rfl) ?_
      refine va_get (pc := 10) (D := D) (ci := 2) (v := .ref rc) (C := RX2) (T := TX2) (N := 4) hx hb hts inX3_refusalOfPairs_X2 hown hK.1 hP 2 rfl rfl 0 (by decide) (hts (.fieldLink RX3 202 "HedgeHoles$Row" "cells" "[I") (by decide +kernel)) (fun _ h9 => h9) rfl dX3_refusalOfPairs_10 ?_
      refine lv_iload_n (pc := 13) hx hb dX3_refusalOfPairs_13 rfl (lv_at hl 2 rfl) ?_
      refine lv_iconst (pc := 14) (v := 2) hx hb dX3_refusalOfPairs_14 (by decide) ?_
      refine lv_iload (pc := 15) hx hb dX3_refusalOfPairs_15 (lv_at hl 4 rfl) ?_
      refine lv_imul (pc := 17) hx hb dX3_refusalOfPairs_17 ?_
      refine lv_iadd (pc := 18) hx hb dX3_refusalOfPairs_18 ?_
      obtain ⟨h4, hf⟩ := gI_e hf
      refine va_iald (pc := 19) (f := R 0) (n := 60) hx hb hK.1 hP 3 0 rfl rfl h4 dX3_refusalOfPairs_19 ?_
      refine lv_istore (pc := 20) (lv' := [(5, .int (R 0 ((p1 + (2 * x4_1))).toNatClampNeg)), (0, .ref o), (1, .ref (rr k)), (2, .int p1), (3, .int p2), (4, .int x4_1)]) hx hb dX3_refusalOfPairs_20 hl (by decide) rfl (fun ls hl => ?_)
      refine lv_aload_n (pc := 22) hx hb dX3_refusalOfPairs_22 rfl (lv_at hl 2 rfl) ?_
      refine va_get (pc := 23) (D := D) (ci := 2) (v := .ref rc) (C := RX2) (T := TX2) (N := 4) hx hb hts inX3_refusalOfPairs_X2 hown hK.1 hP 2 rfl rfl 0 (by decide) (hts (.fieldLink RX3 202 "HedgeHoles$Row" "cells" "[I") (by decide +kernel)) (fun _ h9 => h9) rfl dX3_refusalOfPairs_23 ?_
      refine lv_iload_n (pc := 26) hx hb dX3_refusalOfPairs_26 rfl (lv_at hl 3 rfl) ?_
      refine lv_iconst (pc := 27) (v := 2) hx hb dX3_refusalOfPairs_27 (by decide) ?_
      refine lv_iload (pc := 28) hx hb dX3_refusalOfPairs_28 (lv_at hl 5 rfl) ?_
      refine lv_imul (pc := 30) hx hb dX3_refusalOfPairs_30 ?_
      refine lv_iadd (pc := 31) hx hb dX3_refusalOfPairs_31 ?_
      refine lv_iconst (pc := 32) (v := 1) hx hb dX3_refusalOfPairs_32 (by decide) ?_
      refine lv_iadd (pc := 33) hx hb dX3_refusalOfPairs_33 ?_
      obtain ⟨h5, hf⟩ := gI_e hf
      refine va_iald (pc := 34) (f := R 0) (n := 60) hx hb hK.1 hP 3 0 rfl rfl h5 dX3_refusalOfPairs_34 ?_
      refine lv_istore (pc := 35) (lv' := [(6, .int (R 0 (((p1 + (2 * x4_1)) + 1)).toNatClampNeg)), (5, .int (R 0 ((p1 + (2 * x4_1))).toNatClampNeg)), (0, .ref o), (1, .ref (rr k)), (2, .int p1), (3, .int p2), (4, .int x4_1)]) hx hb dX3_refusalOfPairs_35 hl (by decide) rfl (fun ls hl => ?_)
      refine lv_iload (pc := 37) hx hb dX3_refusalOfPairs_37 (lv_at hl 0 rfl) ?_
      refine lv_bipush (pc := 39) (v := 10) hx hb dX3_refusalOfPairs_39 (by decide) ?_
      refine lv_icmp_eq (pc := 41) (tgt := 51) hx hb dX3_refusalOfPairs_41 (by decide) (fun c6 => ?_) (fun c6 => ?_)
      · have hf := iT c6 hf
        refine lv_iload (pc := 51) hx hb dX3_refusalOfPairs_51 (lv_at hl 1 rfl) ?_
        refine lv_if_lt (pc := 53) (tgt := 63) hx hb dX3_refusalOfPairs_53 (by decide) (fun c7 => ?_) (fun c7 => ?_)
        · have hf := iT c7 hf
          refine lv_bipush (pc := 63) (v := (-2)) hx hb dX3_refusalOfPairs_63 (by decide) ?_
          obtain rfl := Option.some.inj hf
          exact hRet 65 ls (vp_nar_int _) dX3_refusalOfPairs_65
        · have hf := iF c7 hf
          refine lv_iload (pc := 56) hx hb dX3_refusalOfPairs_56 (lv_at hl 1 rfl) ?_
          refine lv_bipush (pc := 58) (v := 9) hx hb dX3_refusalOfPairs_58 (by decide) ?_
          refine lv_icmp_le (pc := 60) (tgt := 91) hx hb dX3_refusalOfPairs_60 (by decide) (fun c8 => ?_) (fun c8 => ?_)
          · have hf := iT c8 hf
            refine lv_iinc (pc := 91) (v := (x4_1 + 1)) (lv' := [(4, .int (x4_1 + 1)), (6, .int (R 0 (((p1 + (2 * x4_1)) + 1)).toNatClampNeg)), (5, .int (R 0 ((p1 + (2 * x4_1))).toNatClampNeg)), (0, .ref o), (1, .ref (rr k)), (2, .int p1), (3, .int p2)]) hx hb dX3_refusalOfPairs_91 hl (k := 6) rfl rfl (by decide) rfl (fun ls hl => ?_)
            refine lv_goto (pc := 94) (tgt := 3) hx hb dX3_refusalOfPairs_94 (by decide) ?_
            exact hslf _ hf ls (lv_sub hl [3, 4, 5, 6, 0] rfl)
          · have hf := iF c8 hf
            refine lv_bipush (pc := 63) (v := (-2)) hx hb dX3_refusalOfPairs_63 (by decide) ?_
            obtain rfl := Option.some.inj hf
            exact hRet 65 ls (vp_nar_int _) dX3_refusalOfPairs_65
      · have hf := iF c6 hf
        refine lv_iload (pc := 44) hx hb dX3_refusalOfPairs_44 (lv_at hl 0 rfl) ?_
        refine lv_bipush (pc := 46) (v := 20) hx hb dX3_refusalOfPairs_46 (by decide) ?_
        refine lv_icmp_ne (pc := 48) (tgt := 66) hx hb dX3_refusalOfPairs_48 (by decide) (fun c9 => ?_) (fun c9 => ?_)
        · have hf := iF c9 hf
          refine lv_iload (pc := 66) hx hb dX3_refusalOfPairs_66 (lv_at hl 0 rfl) ?_
          refine lv_if_lt (pc := 68) (tgt := 77) hx hb dX3_refusalOfPairs_68 (by decide) (fun c10 => ?_) (fun c10 => ?_)
          · have hf := iT c10 hf
            refine lv_bipush (pc := 77) (v := (-2)) hx hb dX3_refusalOfPairs_77 (by decide) ?_
            obtain rfl := Option.some.inj hf
            exact hRet 79 ls (vp_nar_int _) dX3_refusalOfPairs_79
          · have hf := iF c10 hf
            refine lv_iload (pc := 71) hx hb dX3_refusalOfPairs_71 (lv_at hl 0 rfl) ?_
            refine lv_iconst (pc := 73) (v := 5) hx hb dX3_refusalOfPairs_73 (by decide) ?_
            refine lv_icmp_lt (pc := 74) (tgt := 80) hx hb dX3_refusalOfPairs_74 (by decide) (fun c11 => ?_) (fun c11 => ?_)
            · have hf := iT c11 hf
              refine lv_aload_n (pc := 80) hx hb dX3_refusalOfPairs_80 rfl (lv_at hl 2 rfl) ?_
              refine lv_iload (pc := 81) hx hb dX3_refusalOfPairs_81 (lv_at hl 1 rfl) ?_
              obtain ⟨v12, h13, hf⟩ := bd hf
              refine roVi (pc := 83) (As := [.int (R 0 ((p1 + (2 * x4_1))).toNatClampNeg)]) (rest := []) CF (mtX3_isGoer l D cI cZ cQ o ra rr k rc oL aL oT aT oN aN X R L T N (R 0 ((p1 + (2 * x4_1))).toNatClampNeg) v12 h13) (cwV 1 hts gX3_refusalOfPairs_X3_isGoer rfl rfl rfl ⟨rfl, hdX3_isGoer⟩ ⟨Nat.le_of_ble_eq_true rfl, Nat.le_of_ble_eq_true rfl⟩) hK hP rfl rfl rfl rfl hl.1 rfl (Nat.le_of_ble_eq_true rfl) dX3_refusalOfPairs_83 ?_
              refine lv_if_ne (pc := 86) (tgt := 91) hx hb dX3_refusalOfPairs_86 (by decide) (fun c14 => ?_) (fun c14 => ?_)
              · have hf := iF c14 hf
                refine lv_iinc (pc := 91) (v := (x4_1 + 1)) (lv' := [(4, .int (x4_1 + 1)), (6, .int (R 0 (((p1 + (2 * x4_1)) + 1)).toNatClampNeg)), (5, .int (R 0 ((p1 + (2 * x4_1))).toNatClampNeg)), (0, .ref o), (1, .ref (rr k)), (2, .int p1), (3, .int p2)]) hx hb dX3_refusalOfPairs_91 hl (k := 6) rfl rfl (by decide) rfl (fun ls hl => ?_)
                refine lv_goto (pc := 94) (tgt := 3) hx hb dX3_refusalOfPairs_94 (by decide) ?_
                exact hslf _ hf ls (lv_sub hl [3, 4, 5, 6, 0] rfl)
              · have hf := iT c14 hf
                refine lv_iconst (pc := 89) (v := (-1)) hx hb dX3_refusalOfPairs_89 (by decide) ?_
                obtain rfl := Option.some.inj hf
                exact hRet 90 ls (vp_nar_int _) dX3_refusalOfPairs_90
            · have hf := iF c11 hf
              refine lv_bipush (pc := 77) (v := (-2)) hx hb dX3_refusalOfPairs_77 (by decide) ?_
              obtain rfl := Option.some.inj hf
              exact hRet 79 ls (vp_nar_int _) dX3_refusalOfPairs_79
        · have hf := iT c9 hf
          refine lv_iload (pc := 51) hx hb dX3_refusalOfPairs_51 (lv_at hl 1 rfl) ?_
          refine lv_if_lt (pc := 53) (tgt := 63) hx hb dX3_refusalOfPairs_53 (by decide) (fun c15 => ?_) (fun c15 => ?_)
          · have hf := iT c15 hf
            refine lv_bipush (pc := 63) (v := (-2)) hx hb dX3_refusalOfPairs_63 (by decide) ?_
            obtain rfl := Option.some.inj hf
            exact hRet 65 ls (vp_nar_int _) dX3_refusalOfPairs_65
          · have hf := iF c15 hf
            refine lv_iload (pc := 56) hx hb dX3_refusalOfPairs_56 (lv_at hl 1 rfl) ?_
            refine lv_bipush (pc := 58) (v := 9) hx hb dX3_refusalOfPairs_58 (by decide) ?_
            refine lv_icmp_le (pc := 60) (tgt := 91) hx hb dX3_refusalOfPairs_60 (by decide) (fun c16 => ?_) (fun c16 => ?_)
            · have hf := iT c16 hf
              refine lv_iinc (pc := 91) (v := (x4_1 + 1)) (lv' := [(4, .int (x4_1 + 1)), (6, .int (R 0 (((p1 + (2 * x4_1)) + 1)).toNatClampNeg)), (5, .int (R 0 ((p1 + (2 * x4_1))).toNatClampNeg)), (0, .ref o), (1, .ref (rr k)), (2, .int p1), (3, .int p2)]) hx hb dX3_refusalOfPairs_91 hl (k := 6) rfl rfl (by decide) rfl (fun ls hl => ?_)
              refine lv_goto (pc := 94) (tgt := 3) hx hb dX3_refusalOfPairs_94 (by decide) ?_
              exact hslf _ hf ls (lv_sub hl [3, 4, 5, 6, 0] rfl)
            · have hf := iF c16 hf
              refine lv_bipush (pc := 63) (v := (-2)) hx hb dX3_refusalOfPairs_63 (by decide) ?_
              obtain rfl := Option.some.inj hf
              exact hRet 65 ls (vp_nar_int _) dX3_refusalOfPairs_65
theorem hdX3_refusalOfPairs : yX3_refusalOfPairs.cls ≠ "java/lang/invoke/MethodHandle" ∧ yX3_refusalOfPairs.cls ≠ "java/lang/invoke/VarHandle" ∧ (parseMethodDescriptor yX3_refusalOfPairs.desc).map (fun d => d.parameters.length) = some 3 := by decide +kernel
abbrev rmX3_firstWrongOfSeason : Room := { frames := 5, cells := 0, slots := 0, locals := 112 }
theorem inX3_firstWrongOfSeason_X2 : ∀ w ∈ wsX20, w ∈ wsX3_firstWrongOfSeason := fun _ h => List.mem_cons_of_mem _ (List.mem_append_left _ (List.mem_append_right _ h))
theorem inX3_firstWrongOfSeason_X3 : ∀ w ∈ wsX30, w ∈ wsX3_firstWrongOfSeason := fun _ h => List.mem_cons_of_mem _ (List.mem_append_left _ (List.mem_append_left _ (List.mem_append_right _ h)))
set_option maxHeartbeats 4000000 in
set_option maxRecDepth 100000 in
theorem mtX3_firstWrongOfSeason (l : Launch) (D : va_G) (cI cZ cQ : ClassId) (o ra : Nat) (rr : Nat → Nat) (k rc : Nat) (oL : Nat) (aL : Nat → Nat) (oT : Nat) (aT : Nat → Nat) (oN : Nat) (aN : Nat → Nat) (X R L T N : Bk) (p1 : Int32) (p2 : Int32) (sz : Nat) (out : (Int32 × Bk)) (hf : fX3_firstWrongOfSeason R L T p1 p2 = some out) : Met l yX3_firstWrongOfSeason wsX3_firstWrongOfSeason rmX3_firstWrongOfSeason (WrP D cI cZ cQ [.ref o, .ref (rr k), .int p1, .int p2] (wX cI cZ cQ o ra rr k rc oL aL oT aT oN aN X R L T N) sz) (WrQi D out.1 (wX cI cZ cQ o ra rr k rc oL aL oT aT oN aN X R L T N) (wX cI cZ cQ o ra rr k rc oL aL oT aT oN aN X R L out.2 N) sz) 0 0 (va_A (wX cI cZ cQ o ra rr k rc oL aL oT aT oN aN X R L T N) sz) := by
  refine metWi (ty := .int) (cc := cX3_firstWrongOfSeason) (maxL := 5) (by decide) rfl (Nat.le_of_ble_eq_true rfl) ?_
  intro p e s m args below meth c Q A CF hK hP hD hA hRet ls hl
  obtain ⟨hx, hb, hml, hown, hts⟩ := id CF
  have hS : va_S A s.heap s.heap [] := va_S.rf
  have hl : lv_has ls 5 [(0, .ref o), (1, .ref (rr k)), (2, .int p1), (3, .int p2)] := hl
  unfold fX3_firstWrongOfSeason at hf
  refine lv_aload_n (pc := 0) hx hb dX3_firstWrongOfSeason_0 rfl (lv_at hl 0 rfl) ?_
  refine va_get (pc := 1) (D := D) (ci := 3) (v := .ref oT) (C := RX3) (T := TX3) (N := 8) hx hb hts inX3_firstWrongOfSeason_X3 hown hK.1 hP 0 rfl rfl 2 (by decide) (hts (.fieldLink RX3 24 "HedgeHoles" "trial" "LHedgeHoles$Land;") (by decide +kernel)) (fun _ h9 => h9) rfl dX3_firstWrongOfSeason_1 ?_
  refine lv_aload_n (pc := 4) hx hb dX3_firstWrongOfSeason_4 rfl (lv_at hl 0 rfl) ?_
  refine va_get (pc := 5) (D := D) (ci := 3) (v := .ref oL) (C := RX3) (T := TX3) (N := 8) hx hb hts inX3_firstWrongOfSeason_X3 hown hK.1 hP 0 rfl rfl 1 (by decide) (hts (.fieldLink RX3 20 "HedgeHoles" "land" "LHedgeHoles$Land;") (by decide +kernel)) (fun _ h9 => h9) rfl dX3_firstWrongOfSeason_5 ?_
  obtain ⟨v1, h2, hf⟩ := bd hf
  refine wrVv (pc := 8) (As := [.ref oL]) (rest := []) (wB' := wX cI cZ cQ o ra rr k rc oL aL oT aT oN aN X R L v1 N) CF (mtX0_become l D cI cZ cQ oT aT T oL aL L s.heap.size v1 h2) (cwV 1 hts gX3_firstWrongOfSeason_X0_become rfl rfl rfl ⟨rfl, hdX0_become⟩ ⟨Nat.le_of_ble_eq_true rfl, Nat.le_of_ble_eq_true rfl⟩) hK hP hD hS hA [10, 11, 12, 13, 14, 15, 4, 5, 6, 7, 8, 9] rfl (by decide) rfl rfl rfl rfl rfl rfl rfl hl.1 rfl (Nat.le_of_ble_eq_true rfl) dX3_firstWrongOfSeason_8 (fun H locs hP hD hS => ?_)
  refine lv_iconst (pc := 11) (v := 0) hx hb dX3_firstWrongOfSeason_11 (by decide) ?_
  refine lv_istore (pc := 12) (lv' := [(4, .int 0), (0, .ref o), (1, .ref (rr k)), (2, .int p1), (3, .int p2)]) hx hb dX3_firstWrongOfSeason_12 hl (by decide) rfl (fun ls hl => ?_)
  refine zl2 (G := FX3_firstWrongOfSeason_14 p1 p2 R) (fun x4_3 T_4 => ∀ (ls : Array Slot) (H : Heap) (locs : List Loc), lv_has ls 5 [(0, .ref o), (1, .ref (rr k)), (2, .int p1), (3, .int p2), (4, .int x4_3)] → va_P D vwCl (wX cI cZ cQ o ra rr k rc oL aL oT aT oN aN X R L T_4 N) H → va_D A (wX cI cZ cQ o ra rr k rc oL aL oT aT oN aN X R L T_4 N) → va_S A s.heap H locs → W p l e rmX3_firstWrongOfSeason s m args below meth c H locs 0 0 Q (F0 m 14 ls [])) (fun x4_5 T_6 => ∀ (ls : Array Slot) (H : Heap) (locs : List Loc), lv_has ls 5 [(0, .ref o), (1, .ref (rr k)), (2, .int p1), (3, .int p2), (4, .int x4_5)] → va_P D vwCl (wX cI cZ cQ o ra rr k rc oL aL oT aT oN aN X R L T_6 N) H → va_D A (wX cI cZ cQ o ra rr k rc oL aL oT aT oN aN X R L T_6 N) → va_S A s.heap H locs → W p l e rmX3_firstWrongOfSeason s m args below meth c H locs 0 0 Q (F0 m 63 ls [])) hf (fun x4_5 T_6 hf => ?_) (fun kx slf hkx hslf x4_3 T_4 hf => ?_) ls H locs (lv_sub hl [1, 2, 3, 4, 0] rfl) hP hD hS
  · intro ls H locs hl hP hD hS
    refine lv_bipush (pc := 63) (v := (-9)) hx hb dX3_firstWrongOfSeason_63 (by decide) ?_
    obtain rfl := Option.some.inj hf
    exact hRet 65 ls H locs (vp_nar_int _) dX3_firstWrongOfSeason_65 hP hS
  · unfold FX3_firstWrongOfSeason_14 at hf
    intro ls H locs hl hP hD hS
    refine lv_iload (pc := 14) hx hb dX3_firstWrongOfSeason_14 (lv_at hl 4 rfl) ?_
    refine lv_iload_n (pc := 16) hx hb dX3_firstWrongOfSeason_16 rfl (lv_at hl 3 rfl) ?_
    refine lv_icmp_ge (pc := 17) (tgt := 63) hx hb dX3_firstWrongOfSeason_17 (by decide) (fun c7 => ?_) (fun c7 => ?_)
    · have hf := iT c7 hf
      exact hkx _ _ hf ls H locs (lv_sub hl [0, 1, 2, 3, 4] rfl) hP hD hS
    · have hf := iF c7 hf
      refine lv_aload_n (pc := 20) hx hb dX3_firstWrongOfSeason_20 rfl (lv_at hl 0 rfl) ?_
      refine va_get (pc := 21) (D := D) (ci := 3) (v := .ref oT) (C := RX3) (T := TX3) (N := 8) hx hb hts inX3_firstWrongOfSeason_X3 hown hK.1 hP 0 rfl rfl 2 (by decide) (hts (.fieldLink RX3 24 "HedgeHoles" "trial" "LHedgeHoles$Land;") (by decide +kernel)) (fun _ h9 => h9) rfl dX3_firstWrongOfSeason_21 ?_
      refine lv_aload_n (pc := 24) hx hb dX3_firstWrongOfSeason_24 rfl (lv_at hl 1 rfl) ?_
      refine va_get (pc := 25) (D := D) (ci := 2) (v := .ref rc) (C := RX2) (T := TX2) (N := 4) hx hb hts inX3_firstWrongOfSeason_X2 hown hK.1 hP 2 rfl rfl 0 (by decide) (hts (.fieldLink RX3 202 "HedgeHoles$Row" "cells" "[I") (by decide +kernel)) (fun _ h9 => h9) rfl dX3_firstWrongOfSeason_25 ?_
      refine lv_iload_n (pc := 28) hx hb dX3_firstWrongOfSeason_28 rfl (lv_at hl 2 rfl) ?_
      refine lv_iconst (pc := 29) (v := 2) hx hb dX3_firstWrongOfSeason_29 (by decide) ?_
      refine lv_iload (pc := 30) hx hb dX3_firstWrongOfSeason_30 (lv_at hl 4 rfl) ?_
      refine lv_imul (pc := 32) hx hb dX3_firstWrongOfSeason_32 ?_
      refine lv_iadd (pc := 33) hx hb dX3_firstWrongOfSeason_33 ?_
      obtain ⟨h8, hf⟩ := gI_e hf
      refine va_iald (pc := 34) (f := R 0) (n := 60) hx hb hK.1 hP 3 0 rfl rfl h8 dX3_firstWrongOfSeason_34 ?_
      refine lv_aload_n (pc := 35) hx hb dX3_firstWrongOfSeason_35 rfl (lv_at hl 1 rfl) ?_
      refine va_get (pc := 36) (D := D) (ci := 2) (v := .ref rc) (C := RX2) (T := TX2) (N := 4) hx hb hts inX3_firstWrongOfSeason_X2 hown hK.1 hP 2 rfl rfl 0 (by decide) (hts (.fieldLink RX3 202 "HedgeHoles$Row" "cells" "[I") (by decide +kernel)) (fun _ h9 => h9) rfl dX3_firstWrongOfSeason_36 ?_
      refine lv_iload_n (pc := 39) hx hb dX3_firstWrongOfSeason_39 rfl (lv_at hl 2 rfl) ?_
      refine lv_iconst (pc := 40) (v := 2) hx hb dX3_firstWrongOfSeason_40 (by decide) ?_
      refine lv_iload (pc := 41) hx hb dX3_firstWrongOfSeason_41 (lv_at hl 4 rfl) ?_
      refine lv_imul (pc := 43) hx hb dX3_firstWrongOfSeason_43 ?_
      refine lv_iadd (pc := 44) hx hb dX3_firstWrongOfSeason_44 ?_
      refine lv_iconst (pc := 45) (v := 1) hx hb dX3_firstWrongOfSeason_45 (by decide) ?_
      refine lv_iadd (pc := 46) hx hb dX3_firstWrongOfSeason_46 ?_
      obtain ⟨h9, hf⟩ := gI_e hf
      refine va_iald (pc := 47) (f := R 0) (n := 60) hx hb hK.1 hP 3 0 rfl rfl h9 dX3_firstWrongOfSeason_47 ?_
      obtain ⟨v10, h11, hf⟩ := bd hf
      refine wrVi (pc := 48) (As := [.int (R 0 ((p1 + (2 * x4_3))).toNatClampNeg), .int (R 0 (((p1 + (2 * x4_3)) + 1)).toNatClampNeg)]) (rest := []) (wB' := wX cI cZ cQ o ra rr k rc oL aL oT aT oN aN X R L v10.2 N) CF (mtX0_acts l D cI cZ cQ oT aT T_4 (R 0 ((p1 + (2 * x4_3))).toNatClampNeg) (R 0 (((p1 + (2 * x4_3)) + 1)).toNatClampNeg) H.size v10 h11) (cwV 2 hts gX3_firstWrongOfSeason_X0_acts rfl rfl rfl ⟨rfl, hdX0_acts⟩ ⟨Nat.le_of_ble_eq_true rfl, Nat.le_of_ble_eq_true rfl⟩) hK hP hD hS hA [10, 11, 12, 13, 14, 15] rfl (by decide) rfl rfl rfl rfl rfl rfl rfl hl.1 rfl (Nat.le_of_ble_eq_true rfl) dX3_firstWrongOfSeason_48 (fun H locs hP hD hS => ?_)
      refine lv_if_ne (pc := 51) (tgt := 57) hx hb dX3_firstWrongOfSeason_51 (by decide) (fun c12 => ?_) (fun c12 => ?_)
      · have hf := iF c12 hf
        refine lv_iinc (pc := 57) (v := (x4_3 + 1)) (lv' := [(4, .int (x4_3 + 1)), (0, .ref o), (1, .ref (rr k)), (2, .int p1), (3, .int p2)]) hx hb dX3_firstWrongOfSeason_57 hl (k := 4) rfl rfl (by decide) rfl (fun ls hl => ?_)
        refine lv_goto (pc := 60) (tgt := 14) hx hb dX3_firstWrongOfSeason_60 (by decide) ?_
        exact hslf _ _ hf ls H locs (lv_sub hl [1, 2, 3, 4, 0] rfl) hP hD hS
      · have hf := iT c12 hf
        refine lv_iload (pc := 54) hx hb dX3_firstWrongOfSeason_54 (lv_at hl 4 rfl) ?_
        obtain rfl := Option.some.inj hf
        exact hRet 56 ls H locs (vp_nar_int _) dX3_firstWrongOfSeason_56 hP hS
theorem hdX3_firstWrongOfSeason : yX3_firstWrongOfSeason.cls ≠ "java/lang/invoke/MethodHandle" ∧ yX3_firstWrongOfSeason.cls ≠ "java/lang/invoke/VarHandle" ∧ (parseMethodDescriptor yX3_firstWrongOfSeason.desc).map (fun d => d.parameters.length) = some 3 := by decide +kernel
abbrev rmX3_ofTrial : Room := { frames := 2, cells := 0, slots := 0, locals := 42 }
theorem inX3_ofTrial_X0 : ∀ w ∈ wsX00, w ∈ wsX3_ofTrial := fun _ h => List.mem_cons_of_mem _ (List.mem_append_right _ h)
theorem inX3_ofTrial_X3 : ∀ w ∈ wsX30, w ∈ wsX3_ofTrial := fun _ h => List.mem_cons_of_mem _ (List.mem_append_left _ (List.mem_append_right _ h))
set_option maxHeartbeats 4000000 in
set_option maxRecDepth 100000 in
theorem mtX3_ofTrial (l : Launch) (D : va_G) (cI cZ cQ : ClassId) (o ra : Nat) (rr : Nat → Nat) (k rc : Nat) (oL : Nat) (aL : Nat → Nat) (oT : Nat) (aT : Nat → Nat) (oN : Nat) (aN : Nat → Nat) (X R L T N : Bk) (p0 : Int32) (out : Int32) (hf : fX3_ofTrial L T p0 = some out) : Met l yX3_ofTrial wsX3_ofTrial rmX3_ofTrial (RoP D cI cZ cQ [.ref o, .int p0] (wX cI cZ cQ o ra rr k rc oL aL oT aT oN aN X R L T N)) (vp_Si (fun r' => r' = out)) 0 0 (fun _ => False) := by
  refine metRi (ty := .int) (cc := cX3_ofTrial) (maxL := 2) (by decide) rfl (Nat.le_of_ble_eq_true rfl) ?_
  intro p e s m args below meth c Q CF hK hP hRet ls hl
  obtain ⟨hx, hb, hml, hown, hts⟩ := id CF
  have hl : lv_has ls 2 [(0, .ref o), (1, .int p0)] := hl
  unfold fX3_ofTrial at hf
  refine lv_iload_n (pc := 0) hx hb dX3_ofTrial_0 rfl (lv_at hl 1 rfl) ?_
  by_cases c1 : p0 = 0
  · have hf := iT c1 hf
    refine lv_tableIn (pc := 1) (tgt := 36) (off := 35) hx hb dX3_ofTrial_1 (by rw [c1]; decide) (by rw [c1]; decide) (by rw [c1]; rfl) (by decide) ?_
    refine lv_aload_n (pc := 36) hx hb dX3_ofTrial_36 rfl (lv_at hl 0 rfl) ?_
    refine va_get (pc := 37) (D := D) (ci := 3) (v := .ref oT) (C := RX3) (T := TX3) (N := 8) hx hb hts inX3_ofTrial_X3 hown hK.1 hP 0 rfl rfl 2 (by decide) (hts (.fieldLink RX3 24 "HedgeHoles" "trial" "LHedgeHoles$Land;") (by decide +kernel)) (fun _ h9 => h9) rfl dX3_ofTrial_37 ?_
    obtain ⟨v2, h3, hf⟩ := bd hf
    refine roVi (pc := 40) (As := []) (rest := []) CF (mtX0_openHoles l D cI cZ cQ oT aT T v2 h3) (cwV 0 hts gX3_ofTrial_X0_openHoles rfl rfl rfl ⟨rfl, hdX0_openHoles⟩ ⟨Nat.le_of_ble_eq_true rfl, Nat.le_of_ble_eq_true rfl⟩) hK (va_P_sub' hP [10, 11, 12, 13, 14, 15] rfl) rfl rfl rfl rfl hl.1 rfl (Nat.le_of_ble_eq_true rfl) dX3_ofTrial_40 ?_
    obtain rfl := Option.some.inj hf
    exact hRet 43 ls (vp_nar_int _) dX3_ofTrial_43
  · have hf := iF c1 hf
    by_cases c4 : p0 = 1
    · have hf := iT c4 hf
      refine lv_tableIn (pc := 1) (tgt := 60) (off := 59) hx hb dX3_ofTrial_1 (by rw [c4]; decide) (by rw [c4]; decide) (by rw [c4]; rfl) (by decide) ?_
      refine lv_aload_n (pc := 60) hx hb dX3_ofTrial_60 rfl (lv_at hl 0 rfl) ?_
      refine lv_iload_n (pc := 61) hx hb dX3_ofTrial_61 rfl (lv_at hl 1 rfl) ?_
      refine lv_bipush (pc := 62) (v := 10) hx hb dX3_ofTrial_62 (by decide) ?_
      refine lv_isub (pc := 64) hx hb dX3_ofTrial_64 ?_
      obtain ⟨v5, h6, hf⟩ := bd hf
      refine roVi (pc := 65) (As := [.int (p0 - 10)]) (rest := []) CF (mtX3_isGoer l D cI cZ cQ o ra rr k rc oL aL oT aT oN aN X R L T N (p0 - 10) v5 h6) (cwV 1 hts gX3_ofTrial_X3_isGoer rfl rfl rfl ⟨rfl, hdX3_isGoer⟩ ⟨Nat.le_of_ble_eq_true rfl, Nat.le_of_ble_eq_true rfl⟩) hK hP rfl rfl rfl rfl hl.1 rfl (Nat.le_of_ble_eq_true rfl) dX3_ofTrial_65 ?_
      refine lv_if_eq (pc := 68) (tgt := 86) hx hb dX3_ofTrial_68 (by decide) (fun c7 => ?_) (fun c7 => ?_)
      · have hf := iT c7 hf
        refine lv_bipush (pc := 86) (v := (-9)) hx hb dX3_ofTrial_86 (by decide) ?_
        obtain rfl := Option.some.inj hf
        exact hRet 88 ls (vp_nar_int _) dX3_ofTrial_88
      · have hf := iF c7 hf
        refine lv_aload_n (pc := 71) hx hb dX3_ofTrial_71 rfl (lv_at hl 0 rfl) ?_
        refine va_get (pc := 72) (D := D) (ci := 3) (v := .ref oT) (C := RX3) (T := TX3) (N := 8) hx hb hts inX3_ofTrial_X3 hown hK.1 hP 0 rfl rfl 2 (by decide) (hts (.fieldLink RX3 24 "HedgeHoles" "trial" "LHedgeHoles$Land;") (by decide +kernel)) (fun _ h9 => h9) rfl dX3_ofTrial_72 ?_
        refine va_get (pc := 75) (D := D) (ci := 0) (v := .ref (aT 6)) (C := RX0) (T := TX0) (N := 8) hx hb hts inX3_ofTrial_X0 hown hK.1 hP 10 rfl rfl 6 (by decide) (hts (.fieldLink RX3 93 "HedgeHoles$Land" "place" "[I") (by decide +kernel)) (fun _ h9 => h9) rfl dX3_ofTrial_75 ?_
        refine lv_iload_n (pc := 78) hx hb dX3_ofTrial_78 rfl (lv_at hl 1 rfl) ?_
        refine lv_bipush (pc := 79) (v := 10) hx hb dX3_ofTrial_79 (by decide) ?_
        refine lv_isub (pc := 81) hx hb dX3_ofTrial_81 ?_
        obtain ⟨h8, hf⟩ := gI_e hf
        refine va_iald (pc := 82) (f := T 6) (n := 5) hx hb hK.1 hP 14 0 rfl rfl h8 dX3_ofTrial_82 ?_
        refine lv_goto (pc := 83) (tgt := 88) hx hb dX3_ofTrial_83 (by decide) ?_
        obtain rfl := Option.some.inj hf
        exact hRet 88 ls (vp_nar_int _) dX3_ofTrial_88
    · have hf := iF c4 hf
      by_cases c9 : p0 = 2
      · have hf := iT c9 hf
        refine lv_tableIn (pc := 1) (tgt := 44) (off := 43) hx hb dX3_ofTrial_1 (by rw [c9]; decide) (by rw [c9]; decide) (by rw [c9]; rfl) (by decide) ?_
        refine lv_aload_n (pc := 44) hx hb dX3_ofTrial_44 rfl (lv_at hl 0 rfl) ?_
        refine va_get (pc := 45) (D := D) (ci := 3) (v := .ref oT) (C := RX3) (T := TX3) (N := 8) hx hb hts inX3_ofTrial_X3 hown hK.1 hP 0 rfl rfl 2 (by decide) (hts (.fieldLink RX3 24 "HedgeHoles" "trial" "LHedgeHoles$Land;") (by decide +kernel)) (fun _ h9 => h9) rfl dX3_ofTrial_45 ?_
        refine va_get (pc := 48) (D := D) (ci := 0) (v := .int (T 2 0)) (C := RX0) (T := TX0) (N := 8) hx hb hts inX3_ofTrial_X0 hown hK.1 hP 10 rfl rfl 2 (by decide) (hts (.fieldLink RX3 106 "HedgeHoles$Land" "worn" "I") (by decide +kernel)) (fun _ h9 => h9) rfl dX3_ofTrial_48 ?_
        obtain rfl := Option.some.inj hf
        exact hRet 51 ls (vp_nar_int _) dX3_ofTrial_51
      · have hf := iF c9 hf
        by_cases c10 : p0 = 3
        · have hf := iT c10 hf
          refine lv_tableIn (pc := 1) (tgt := 60) (off := 59) hx hb dX3_ofTrial_1 (by rw [c10]; decide) (by rw [c10]; decide) (by rw [c10]; rfl) (by decide) ?_
          refine lv_aload_n (pc := 60) hx hb dX3_ofTrial_60 rfl (lv_at hl 0 rfl) ?_
          refine lv_iload_n (pc := 61) hx hb dX3_ofTrial_61 rfl (lv_at hl 1 rfl) ?_
          refine lv_bipush (pc := 62) (v := 10) hx hb dX3_ofTrial_62 (by decide) ?_
          refine lv_isub (pc := 64) hx hb dX3_ofTrial_64 ?_
          obtain ⟨v11, h12, hf⟩ := bd hf
          refine roVi (pc := 65) (As := [.int (p0 - 10)]) (rest := []) CF (mtX3_isGoer l D cI cZ cQ o ra rr k rc oL aL oT aT oN aN X R L T N (p0 - 10) v11 h12) (cwV 1 hts gX3_ofTrial_X3_isGoer rfl rfl rfl ⟨rfl, hdX3_isGoer⟩ ⟨Nat.le_of_ble_eq_true rfl, Nat.le_of_ble_eq_true rfl⟩) hK hP rfl rfl rfl rfl hl.1 rfl (Nat.le_of_ble_eq_true rfl) dX3_ofTrial_65 ?_
          refine lv_if_eq (pc := 68) (tgt := 86) hx hb dX3_ofTrial_68 (by decide) (fun c13 => ?_) (fun c13 => ?_)
          · have hf := iT c13 hf
            refine lv_bipush (pc := 86) (v := (-9)) hx hb dX3_ofTrial_86 (by decide) ?_
            obtain rfl := Option.some.inj hf
            exact hRet 88 ls (vp_nar_int _) dX3_ofTrial_88
          · have hf := iF c13 hf
            refine lv_aload_n (pc := 71) hx hb dX3_ofTrial_71 rfl (lv_at hl 0 rfl) ?_
            refine va_get (pc := 72) (D := D) (ci := 3) (v := .ref oT) (C := RX3) (T := TX3) (N := 8) hx hb hts inX3_ofTrial_X3 hown hK.1 hP 0 rfl rfl 2 (by decide) (hts (.fieldLink RX3 24 "HedgeHoles" "trial" "LHedgeHoles$Land;") (by decide +kernel)) (fun _ h9 => h9) rfl dX3_ofTrial_72 ?_
            refine va_get (pc := 75) (D := D) (ci := 0) (v := .ref (aT 6)) (C := RX0) (T := TX0) (N := 8) hx hb hts inX3_ofTrial_X0 hown hK.1 hP 10 rfl rfl 6 (by decide) (hts (.fieldLink RX3 93 "HedgeHoles$Land" "place" "[I") (by decide +kernel)) (fun _ h9 => h9) rfl dX3_ofTrial_75 ?_
            refine lv_iload_n (pc := 78) hx hb dX3_ofTrial_78 rfl (lv_at hl 1 rfl) ?_
            refine lv_bipush (pc := 79) (v := 10) hx hb dX3_ofTrial_79 (by decide) ?_
            refine lv_isub (pc := 81) hx hb dX3_ofTrial_81 ?_
            obtain ⟨h14, hf⟩ := gI_e hf
            refine va_iald (pc := 82) (f := T 6) (n := 5) hx hb hK.1 hP 14 0 rfl rfl h14 dX3_ofTrial_82 ?_
            refine lv_goto (pc := 83) (tgt := 88) hx hb dX3_ofTrial_83 (by decide) ?_
            obtain rfl := Option.some.inj hf
            exact hRet 88 ls (vp_nar_int _) dX3_ofTrial_88
        · have hf := iF c10 hf
          by_cases c15 : p0 = 4
          · have hf := iT c15 hf
            refine lv_tableIn (pc := 1) (tgt := 52) (off := 51) hx hb dX3_ofTrial_1 (by rw [c15]; decide) (by rw [c15]; decide) (by rw [c15]; rfl) (by decide) ?_
            refine lv_aload_n (pc := 52) hx hb dX3_ofTrial_52 rfl (lv_at hl 0 rfl) ?_
            refine va_get (pc := 53) (D := D) (ci := 3) (v := .ref oT) (C := RX3) (T := TX3) (N := 8) hx hb hts inX3_ofTrial_X3 hown hK.1 hP 0 rfl rfl 2 (by decide) (hts (.fieldLink RX3 24 "HedgeHoles" "trial" "LHedgeHoles$Land;") (by decide +kernel)) (fun _ h9 => h9) rfl dX3_ofTrial_53 ?_
            obtain ⟨v16, h17, hf⟩ := bd hf
            refine roVi (pc := 56) (As := []) (rest := []) CF (mtX0_peopled l D cI cZ cQ oT aT T v16 h17) (cwV 0 hts gX3_ofTrial_X0_peopled rfl rfl rfl ⟨rfl, hdX0_peopled⟩ ⟨Nat.le_of_ble_eq_true rfl, Nat.le_of_ble_eq_true rfl⟩) hK (va_P_sub' hP [10, 11, 12, 13, 14, 15] rfl) rfl rfl rfl rfl hl.1 rfl (Nat.le_of_ble_eq_true rfl) dX3_ofTrial_56 ?_
            obtain rfl := Option.some.inj hf
            exact hRet 59 ls (vp_nar_int _) dX3_ofTrial_59
          · have hf := iF c15 hf
            refine lv_tableOut (pc := 1) (tgt := 60) hx hb dX3_ofTrial_1 (by have e0 := lv_neT (a := 0) c1 rfl; have e1 := lv_neT (a := 1) c4 rfl; have e2 := lv_neT (a := 2) c9 rfl; have e3 := lv_neT (a := 3) c10 rfl; have e4 := lv_neT (a := 4) c15 rfl; omega) (by decide) ?_
            refine lv_aload_n (pc := 60) hx hb dX3_ofTrial_60 rfl (lv_at hl 0 rfl) ?_
            refine lv_iload_n (pc := 61) hx hb dX3_ofTrial_61 rfl (lv_at hl 1 rfl) ?_
            refine lv_bipush (pc := 62) (v := 10) hx hb dX3_ofTrial_62 (by decide) ?_
            refine lv_isub (pc := 64) hx hb dX3_ofTrial_64 ?_
            obtain ⟨v18, h19, hf⟩ := bd hf
            refine roVi (pc := 65) (As := [.int (p0 - 10)]) (rest := []) CF (mtX3_isGoer l D cI cZ cQ o ra rr k rc oL aL oT aT oN aN X R L T N (p0 - 10) v18 h19) (cwV 1 hts gX3_ofTrial_X3_isGoer rfl rfl rfl ⟨rfl, hdX3_isGoer⟩ ⟨Nat.le_of_ble_eq_true rfl, Nat.le_of_ble_eq_true rfl⟩) hK hP rfl rfl rfl rfl hl.1 rfl (Nat.le_of_ble_eq_true rfl) dX3_ofTrial_65 ?_
            refine lv_if_eq (pc := 68) (tgt := 86) hx hb dX3_ofTrial_68 (by decide) (fun c20 => ?_) (fun c20 => ?_)
            · have hf := iT c20 hf
              refine lv_bipush (pc := 86) (v := (-9)) hx hb dX3_ofTrial_86 (by decide) ?_
              obtain rfl := Option.some.inj hf
              exact hRet 88 ls (vp_nar_int _) dX3_ofTrial_88
            · have hf := iF c20 hf
              refine lv_aload_n (pc := 71) hx hb dX3_ofTrial_71 rfl (lv_at hl 0 rfl) ?_
              refine va_get (pc := 72) (D := D) (ci := 3) (v := .ref oT) (C := RX3) (T := TX3) (N := 8) hx hb hts inX3_ofTrial_X3 hown hK.1 hP 0 rfl rfl 2 (by decide) (hts (.fieldLink RX3 24 "HedgeHoles" "trial" "LHedgeHoles$Land;") (by decide +kernel)) (fun _ h9 => h9) rfl dX3_ofTrial_72 ?_
              refine va_get (pc := 75) (D := D) (ci := 0) (v := .ref (aT 6)) (C := RX0) (T := TX0) (N := 8) hx hb hts inX3_ofTrial_X0 hown hK.1 hP 10 rfl rfl 6 (by decide) (hts (.fieldLink RX3 93 "HedgeHoles$Land" "place" "[I") (by decide +kernel)) (fun _ h9 => h9) rfl dX3_ofTrial_75 ?_
              refine lv_iload_n (pc := 78) hx hb dX3_ofTrial_78 rfl (lv_at hl 1 rfl) ?_
              refine lv_bipush (pc := 79) (v := 10) hx hb dX3_ofTrial_79 (by decide) ?_
              refine lv_isub (pc := 81) hx hb dX3_ofTrial_81 ?_
              obtain ⟨h21, hf⟩ := gI_e hf
              refine va_iald (pc := 82) (f := T 6) (n := 5) hx hb hK.1 hP 14 0 rfl rfl h21 dX3_ofTrial_82 ?_
              refine lv_goto (pc := 83) (tgt := 88) hx hb dX3_ofTrial_83 (by decide) ?_
              obtain rfl := Option.some.inj hf
              exact hRet 88 ls (vp_nar_int _) dX3_ofTrial_88
theorem hdX3_ofTrial : yX3_ofTrial.cls ≠ "java/lang/invoke/MethodHandle" ∧ yX3_ofTrial.cls ≠ "java/lang/invoke/VarHandle" ∧ (parseMethodDescriptor yX3_ofTrial.desc).map (fun d => d.parameters.length) = some 1 := by decide +kernel
abbrev rmX3_season : Room := { frames := 6, cells := 0, slots := 0, locals := 136 }
theorem inX3_season_X3 : ∀ w ∈ wsX30, w ∈ wsX3_season := fun _ h => List.mem_cons_of_mem _ (List.mem_append_left _ (List.mem_append_left _ (List.mem_append_right _ h)))
set_option maxHeartbeats 4000000 in
set_option maxRecDepth 100000 in
theorem mtX3_season (l : Launch) (D : va_G) (cI cZ cQ : ClassId) (o ra : Nat) (rr : Nat → Nat) (k rc : Nat) (oL : Nat) (aL : Nat → Nat) (oT : Nat) (aT : Nat → Nat) (oN : Nat) (aN : Nat → Nat) (X R L T N : Bk) (p0 : Int32) (p1 : Int32) (p2 : Int32) (p3 : Int32) (p4 : Int32) (sz : Nat) (out : (Int32 × Bk × Bk)) (hf : fX3_season k X R L T p0 p1 p2 p3 p4 = some out) : Met l yX3_season wsX3_season rmX3_season (WrP D cI cZ cQ [.ref o, .int p0, .int p1, .int p2, .int p3, .int p4] (wX cI cZ cQ o ra rr k rc oL aL oT aT oN aN X R L T N) sz) (WrQi D out.1 (wX cI cZ cQ o ra rr k rc oL aL oT aT oN aN X R L T N) (wX cI cZ cQ o ra rr k rc oL aL oT aT oN aN out.2.1 R L out.2.2 N) sz) 0 0 (va_A (wX cI cZ cQ o ra rr k rc oL aL oT aT oN aN X R L T N) sz) := by
  refine metWi (ty := .int) (cc := cX3_season) (maxL := 9) (by decide) rfl (Nat.le_of_ble_eq_true rfl) ?_
  intro p e s m args below meth c Q A CF hK hP hD hA hRet ls hl
  obtain ⟨hx, hb, hml, hown, hts⟩ := id CF
  have hS : va_S A s.heap s.heap [] := va_S.rf
  have hl : lv_has ls 9 [(0, .ref o), (1, .int p0), (2, .int p1), (3, .int p2), (4, .int p3), (5, .int p4)] := hl
  unfold fX3_season at hf
  refine lv_aload_n (pc := 0) hx hb dX3_season_0 rfl (lv_at hl 0 rfl) ?_
  refine lv_iconst (pc := 1) (v := 0) hx hb dX3_season_1 (by decide) ?_
  refine va_put (pc := 2) (D := D) (ci := 3) (v := .int 0) (ty := .int) (C := RX3) (T := TX3) (N := 8) hx hb hts inX3_season_X3 tyX3 tyX3_ok nmX3 hown hK.1 hP hD hS 0 rfl rfl 7 (by decide) (hts (.fieldLink RX3 44 "HedgeHoles" "lastFault" "I") (by decide +kernel)) (fun _ h9 => h9) rfl (by decide +kernel) (vp_nar_int _) rfl (Nat.le_of_ble_eq_true rfl) dX3_season_2 (fun H locs hP hD hS => ?_)
  have hP : va_P D vwCl (wX cI cZ cQ o ra rr k rc oL aL oT aT oN aN (sB X 7 0 0) R L T N) H := hP
  have hD : va_D A (wX cI cZ cQ o ra rr k rc oL aL oT aT oN aN (sB X 7 0 0) R L T N) := hD
  obtain ⟨X_1, h2, hf⟩ := bd hf
  have h2 := Option.some.inj h2
  rw [h2] at hP hD
  refine lv_iload_n (pc := 5) hx hb dX3_season_5 rfl (lv_at hl 1 rfl) ?_
  obtain ⟨v3, h4, hf⟩ := bd hf
  refine roSi (pc := 6) (As := [.int p0]) (rest := []) CF (mtX3_isSheet l D cI cZ cQ p0 v3 h4) (va_cwS 1 hts gX3_season_X3_isSheet rfl rfl rfl hdX3_isSheet ⟨Nat.le_of_ble_eq_true rfl, Nat.le_of_ble_eq_true rfl⟩) hK P0 rfl hl.1 rfl (Nat.le_of_ble_eq_true rfl) dX3_season_6 ?_
  refine lv_if_ne (pc := 9) (tgt := 14) hx hb dX3_season_9 (by decide) (fun c5 => ?_) (fun c5 => ?_)
  · have hf := iF c5 hf
    refine lv_iload_n (pc := 14) hx hb dX3_season_14 rfl (lv_at hl 2 rfl) ?_
    obtain ⟨v6, h7, hf⟩ := bd hf
    refine roSi (pc := 15) (As := [.int p1]) (rest := []) CF (mtX3_isLane l D cI cZ cQ p1 v6 h7) (va_cwS 1 hts gX3_season_X3_isLane rfl rfl rfl hdX3_isLane ⟨Nat.le_of_ble_eq_true rfl, Nat.le_of_ble_eq_true rfl⟩) hK P0 rfl hl.1 rfl (Nat.le_of_ble_eq_true rfl) dX3_season_15 ?_
    refine lv_if_eq (pc := 18) (tgt := 41) hx hb dX3_season_18 (by decide) (fun c8 => ?_) (fun c8 => ?_)
    · have hf := iT c8 hf
      refine lv_bipush (pc := 41) (v := (-2)) hx hb dX3_season_41 (by decide) ?_
      obtain rfl := Option.some.inj hf
      exact hRet 43 ls H locs (vp_nar_int _) dX3_season_43 hP hS
    · have hf := iF c8 hf
      refine lv_iload (pc := 21) hx hb dX3_season_21 (lv_at hl 4 rfl) ?_
      refine lv_if_lt (pc := 23) (tgt := 41) hx hb dX3_season_23 (by decide) (fun c9 => ?_) (fun c9 => ?_)
      · have hf := iT c9 hf
        refine lv_bipush (pc := 41) (v := (-2)) hx hb dX3_season_41 (by decide) ?_
        obtain rfl := Option.some.inj hf
        exact hRet 43 ls H locs (vp_nar_int _) dX3_season_43 hP hS
      · have hf := iF c9 hf
        refine lv_iload (pc := 26) hx hb dX3_season_26 (lv_at hl 4 rfl) ?_
        refine lv_bipush (pc := 28) (v := 20) hx hb dX3_season_28 (by decide) ?_
        refine lv_icmp_gt (pc := 30) (tgt := 41) hx hb dX3_season_30 (by decide) (fun c10 => ?_) (fun c10 => ?_)
        · have hf := iT c10 hf
          refine lv_bipush (pc := 41) (v := (-2)) hx hb dX3_season_41 (by decide) ?_
          obtain rfl := Option.some.inj hf
          exact hRet 43 ls H locs (vp_nar_int _) dX3_season_43 hP hS
        · have hf := iF c10 hf
          refine lv_iload (pc := 33) hx hb dX3_season_33 (lv_at hl 5 rfl) ?_
          obtain ⟨v11, h12, hf⟩ := bd hf
          refine roSi (pc := 35) (As := [.int p4]) (rest := []) CF (mtX3_isAskedOfSeason l D cI cZ cQ p4 v11 h12) (va_cwS 1 hts gX3_season_X3_isAskedOfSeason rfl rfl rfl hdX3_isAskedOfSeason ⟨Nat.le_of_ble_eq_true rfl, Nat.le_of_ble_eq_true rfl⟩) hK P0 rfl hl.1 rfl (Nat.le_of_ble_eq_true rfl) dX3_season_35 ?_
          refine lv_if_ne (pc := 38) (tgt := 44) hx hb dX3_season_38 (by decide) (fun c13 => ?_) (fun c13 => ?_)
          · have hf := iF c13 hf
            refine lv_aload_n (pc := 44) hx hb dX3_season_44 rfl (lv_at hl 0 rfl) ?_
            refine va_get (pc := 45) (D := D) (ci := 3) (v := .ref ra) (C := RX3) (T := TX3) (N := 8) hx hb hts inX3_season_X3 hown hK.1 hP 0 rfl rfl 0 (by decide) (hts (.fieldLink RX3 13 "HedgeHoles" "rows" "[LHedgeHoles$Row;") (by decide +kernel)) (fun _ h9 => h9) rfl dX3_season_45 ?_
            refine lv_iload_n (pc := 48) hx hb dX3_season_48 rfl (lv_at hl 1 rfl) ?_
            obtain ⟨h14, hf⟩ := gI_e hf
            obtain ⟨h15, hf⟩ := gE_e hf
            refine va_aldq (pc := 49) (f := fun i => some (rr i)) (n := 4) hx hb hK.1 hP 1 2 rfl rfl h14 dX3_season_49 ?_
            rw [h15]
            refine W.eq (g2 := F0 m 50 ls [.ref (rr k)]) rfl ?_
            refine lv_iload_n (pc := 50) hx hb dX3_season_50 rfl (lv_at hl 2 rfl) ?_
            obtain ⟨v16, h17, hf⟩ := bd hf
            refine roVi (pc := 51) (As := [.int p1]) (rest := []) CF (mtX2_faultAs l D cI cZ cQ (rr k) (fun _ => rc) R p1 v16 h17) (cwV 1 hts gX3_season_X2_faultAs rfl rfl rfl ⟨rfl, hdX2_faultAs⟩ ⟨Nat.le_of_ble_eq_true rfl, Nat.le_of_ble_eq_true rfl⟩) hK (va_P_sub' hP [2, 3] rfl) rfl rfl rfl rfl hl.1 rfl (Nat.le_of_ble_eq_true rfl) dX3_season_51 ?_
            refine lv_istore (pc := 54) (lv' := [(6, .int v16), (0, .ref o), (1, .int p0), (2, .int p1), (3, .int p2), (4, .int p3), (5, .int p4)]) hx hb dX3_season_54 hl (by decide) rfl (fun ls hl => ?_)
            refine lv_iload (pc := 56) hx hb dX3_season_56 (lv_at hl 0 rfl) ?_
            obtain ⟨v18, hv, hf⟩ := bd hf
            have J19 : ∀ (ls : Array Slot), lv_has ls 9 [(0, .ref o), (1, .int p0), (2, .int p1), (3, .int p2), (4, .int p3), (5, .int p4), (6, .int v18)] → W p l e rmX3_season s m args below meth c H locs 0 0 Q (F0 m 81 ls []) := by
              intro ls hl
              refine lv_iload (pc := 81) hx hb dX3_season_81 (lv_at hl 6 rfl) ?_
              refine lv_if_eq (pc := 83) (tgt := 93) hx hb dX3_season_83 (by decide) (fun c20 => ?_) (fun c20 => ?_)
              · have hf := iT c20 hf
                refine lv_aload_n (pc := 93) hx hb dX3_season_93 rfl (lv_at hl 0 rfl) ?_
                obtain ⟨v21, h22, hf⟩ := bd hf
                refine roVi (pc := 94) (As := []) (rest := []) CF (mtX3_hasCounty l D cI cZ cQ o ra rr k rc oL aL oT aT oN aN X_1 R L T N v21 h22) (cwV 0 hts gX3_season_X3_hasCounty rfl rfl rfl ⟨rfl, hdX3_hasCounty⟩ ⟨Nat.le_of_ble_eq_true rfl, Nat.le_of_ble_eq_true rfl⟩) hK hP rfl rfl rfl rfl hl.1 rfl (Nat.le_of_ble_eq_true rfl) dX3_season_94 ?_
                refine lv_if_ne (pc := 97) (tgt := 103) hx hb dX3_season_97 (by decide) (fun c23 => ?_) (fun c23 => ?_)
                · have hf := iF c23 hf
                  refine lv_aload_n (pc := 103) hx hb dX3_season_103 rfl (lv_at hl 0 rfl) ?_
                  refine lv_aload_n (pc := 104) hx hb dX3_season_104 rfl (lv_at hl 0 rfl) ?_
                  refine va_get (pc := 105) (D := D) (ci := 3) (v := .ref ra) (C := RX3) (T := TX3) (N := 8) hx hb hts inX3_season_X3 hown hK.1 hP 0 rfl rfl 0 (by decide) (hts (.fieldLink RX3 13 "HedgeHoles" "rows" "[LHedgeHoles$Row;") (by decide +kernel)) (fun _ h9 => h9) rfl dX3_season_105 ?_
                  refine lv_iload_n (pc := 108) hx hb dX3_season_108 rfl (lv_at hl 1 rfl) ?_
                  refine va_aldq (pc := 109) (f := fun i => some (rr i)) (n := 4) hx hb hK.1 hP 1 2 rfl rfl h14 dX3_season_109 ?_
                  rw [h15]
                  refine W.eq (g2 := F0 m 110 ls [.ref (rr k), .ref o]) rfl ?_
                  refine lv_iload_n (pc := 110) hx hb dX3_season_110 rfl (lv_at hl 3 rfl) ?_
                  refine lv_iload (pc := 111) hx hb dX3_season_111 (lv_at hl 4 rfl) ?_
                  obtain ⟨v24, h25, hf⟩ := bd hf
                  refine roVi (pc := 113) (As := [.ref (rr k), .int p2, .int p3]) (rest := []) CF (mtX3_refusalOfPairs l D cI cZ cQ o ra rr k rc oL aL oT aT oN aN X_1 R L T N p2 p3 v24 h25) (cwV 3 hts gX3_season_X3_refusalOfPairs rfl rfl rfl ⟨rfl, hdX3_refusalOfPairs⟩ ⟨Nat.le_of_ble_eq_true rfl, Nat.le_of_ble_eq_true rfl⟩) hK hP rfl rfl rfl rfl hl.1 rfl (Nat.le_of_ble_eq_true rfl) dX3_season_113 ?_
                  refine lv_istore (pc := 116) (lv' := [(7, .int v24), (0, .ref o), (1, .int p0), (2, .int p1), (3, .int p2), (4, .int p3), (5, .int p4), (6, .int v18)]) hx hb dX3_season_116 hl (by decide) rfl (fun ls hl => ?_)
                  refine lv_iload (pc := 118) hx hb dX3_season_118 (lv_at hl 0 rfl) ?_
                  refine lv_if_eq (pc := 120) (tgt := 126) hx hb dX3_season_120 (by decide) (fun c26 => ?_) (fun c26 => ?_)
                  · have hf := iT c26 hf
                    refine lv_aload_n (pc := 126) hx hb dX3_season_126 rfl (lv_at hl 1 rfl) ?_
                    refine lv_aload_n (pc := 127) hx hb dX3_season_127 rfl (lv_at hl 1 rfl) ?_
                    refine va_get (pc := 128) (D := D) (ci := 3) (v := .ref ra) (C := RX3) (T := TX3) (N := 8) hx hb hts inX3_season_X3 hown hK.1 hP 0 rfl rfl 0 (by decide) (hts (.fieldLink RX3 13 "HedgeHoles" "rows" "[LHedgeHoles$Row;") (by decide +kernel)) (fun _ h9 => h9) rfl dX3_season_128 ?_
                    refine lv_iload_n (pc := 131) hx hb dX3_season_131 rfl (lv_at hl 2 rfl) ?_
                    refine va_aldq (pc := 132) (f := fun i => some (rr i)) (n := 4) hx hb hK.1 hP 1 2 rfl rfl h14 dX3_season_132 ?_
                    rw [h15]
                    refine W.eq (g2 := F0 m 133 ls [.ref (rr k), .ref o]) rfl ?_
                    refine lv_iload_n (pc := 133) hx hb dX3_season_133 rfl (lv_at hl 4 rfl) ?_
                    refine lv_iload (pc := 134) hx hb dX3_season_134 (lv_at hl 5 rfl) ?_
                    obtain ⟨v27, h28, hf⟩ := bd hf
                    refine wsVi (pc := 136) (As := [.ref (rr k), .int p2, .int p3]) (rest := []) (w1 := wX cI cZ cQ o ra rr k rc oL aL oT aT oN aN X_1 R L v27.2 N) CF (mtX3_firstWrongOfSeason l D cI cZ cQ o ra rr k rc oL aL oT aT oN aN X_1 R L T N p2 p3 H.size v27 h28) (cwV 3 hts gX3_season_X3_firstWrongOfSeason rfl rfl rfl ⟨rfl, hdX3_firstWrongOfSeason⟩ ⟨Nat.le_of_ble_eq_true rfl, Nat.le_of_ble_eq_true rfl⟩) hK hP hD hS hA rfl rfl rfl rfl rfl hl.1 rfl (Nat.le_of_ble_eq_true rfl) dX3_season_136 (fun H locs hP hD hS => ?_)
                    refine lv_istore (pc := 139) (lv' := [(8, .int v27.1), (7, .int v24), (0, .ref o), (1, .int p0), (2, .int p1), (3, .int p2), (4, .int p3), (5, .int p4), (6, .int v18)]) hx hb dX3_season_139 hl (by decide) rfl (fun ls hl => ?_)
                    refine lv_iload (pc := 141) hx hb dX3_season_141 (lv_at hl 7 rfl) ?_
                    refine lv_iconst (pc := 143) (v := 1) hx hb dX3_season_143 (by decide) ?_
                    refine lv_icmp_ne (pc := 144) (tgt := 150) hx hb dX3_season_144 (by decide) (fun c29 => ?_) (fun c29 => ?_)
                    · have hf := iF c29 hf
                      refine lv_iload (pc := 150) hx hb dX3_season_150 (lv_at hl 0 rfl) ?_
                      refine lv_bipush (pc := 152) (v := (-9)) hx hb dX3_season_152 (by decide) ?_
                      refine lv_icmp_eq (pc := 154) (tgt := 163) hx hb dX3_season_154 (by decide) (fun c30 => ?_) (fun c30 => ?_)
                      · have hf := iT c30 hf
                        refine lv_iload (pc := 163) hx hb dX3_season_163 (lv_at hl 7 rfl) ?_
                        refine lv_iconst (pc := 165) (v := 3) hx hb dX3_season_165 (by decide) ?_
                        refine lv_icmp_ne (pc := 166) (tgt := 184) hx hb dX3_season_166 (by decide) (fun c31 => ?_) (fun c31 => ?_)
                        · have hf := iF c31 hf
                          refine lv_aload_n (pc := 184) hx hb dX3_season_184 rfl (lv_at hl 2 rfl) ?_
                          refine lv_iload (pc := 185) hx hb dX3_season_185 (lv_at hl 7 rfl) ?_
                          obtain ⟨v32, h33, hf⟩ := bd hf
                          refine roVi (pc := 187) (As := [.int p4]) (rest := []) CF (mtX3_ofTrial l D cI cZ cQ o ra rr k rc oL aL oT aT oN aN X_1 R L v27.2 N p4 v32 h33) (cwV 1 hts gX3_season_X3_ofTrial rfl rfl rfl ⟨rfl, hdX3_ofTrial⟩ ⟨Nat.le_of_ble_eq_true rfl, Nat.le_of_ble_eq_true rfl⟩) hK hP rfl rfl rfl rfl hl.1 rfl (Nat.le_of_ble_eq_true rfl) dX3_season_187 ?_
                          obtain rfl := Option.some.inj hf
                          exact hRet 190 ls H locs (vp_nar_int _) dX3_season_190 hP hS
                        · have hf := iT c31 hf
                          refine lv_aload_n (pc := 169) hx hb dX3_season_169 rfl (lv_at hl 2 rfl) ?_
                          refine va_get (pc := 170) (D := D) (ci := 3) (v := .ref ra) (C := RX3) (T := TX3) (N := 8) hx hb hts inX3_season_X3 hown hK.1 hP 0 rfl rfl 0 (by decide) (hts (.fieldLink RX3 13 "HedgeHoles" "rows" "[LHedgeHoles$Row;") (by decide +kernel)) (fun _ h9 => h9) rfl dX3_season_170 ?_
                          refine lv_iload_n (pc := 173) hx hb dX3_season_173 rfl (lv_at hl 3 rfl) ?_
                          refine va_aldq (pc := 174) (f := fun i => some (rr i)) (n := 4) hx hb hK.1 hP 1 2 rfl rfl h14 dX3_season_174 ?_
                          rw [h15]
                          refine W.eq (g2 := F0 m 175 ls [.ref (rr k)]) rfl ?_
                          refine lv_iload_n (pc := 175) hx hb dX3_season_175 rfl (lv_at hl 5 rfl) ?_
                          refine lv_iload (pc := 176) hx hb dX3_season_176 (lv_at hl 6 rfl) ?_
                          obtain ⟨v34, h35, hf⟩ := bd hf
                          refine roSi (pc := 178) (As := [.ref (rr k), .int p2, .int p3]) (rest := []) CF (mtX3_goingsTold l D cI cZ cQ (rr k) (fun _ => rc) R p2 p3 v34 h35) (va_cwS 3 hts gX3_season_X3_goingsTold rfl rfl rfl hdX3_goingsTold ⟨Nat.le_of_ble_eq_true rfl, Nat.le_of_ble_eq_true rfl⟩) hK (va_P_sub' hP [2, 3] rfl) rfl hl.1 rfl (Nat.le_of_ble_eq_true rfl) dX3_season_178 ?_
                          refine lv_goto (pc := 181) (tgt := 190) hx hb dX3_season_181 (by decide) ?_
                          obtain rfl := Option.some.inj hf
                          exact hRet 190 ls H locs (vp_nar_int _) dX3_season_190 hP hS
                      · have hf := iF c30 hf
                        refine lv_bipush (pc := 157) (v := (-100)) hx hb dX3_season_157 (by decide) ?_
                        refine lv_iload (pc := 159) hx hb dX3_season_159 (lv_at hl 0 rfl) ?_
                        refine lv_isub (pc := 161) hx hb dX3_season_161 ?_
                        obtain rfl := Option.some.inj hf
                        exact hRet 162 ls H locs (vp_nar_int _) dX3_season_162 hP hS
                    · have hf := iT c29 hf
                      refine lv_iload (pc := 147) hx hb dX3_season_147 (lv_at hl 0 rfl) ?_
                      obtain rfl := Option.some.inj hf
                      exact hRet 149 ls H locs (vp_nar_int _) dX3_season_149 hP hS
                  · have hf := iF c26 hf
                    refine lv_iload (pc := 123) hx hb dX3_season_123 (lv_at hl 0 rfl) ?_
                    obtain rfl := Option.some.inj hf
                    exact hRet 125 ls H locs (vp_nar_int _) dX3_season_125 hP hS
                · have hf := iT c23 hf
                  refine lv_bipush (pc := 100) (v := (-3)) hx hb dX3_season_100 (by decide) ?_
                  obtain rfl := Option.some.inj hf
                  exact hRet 102 ls H locs (vp_nar_int _) dX3_season_102 hP hS
              · have hf := iF c20 hf
                refine lv_aload_n (pc := 86) hx hb dX3_season_86 rfl (lv_at hl 0 rfl) ?_
                refine lv_iload (pc := 87) hx hb dX3_season_87 (lv_at hl 6 rfl) ?_
                obtain ⟨v36, h37, hf⟩ := bd hf
                refine wsVi (pc := 89) (As := [.int v18]) (rest := []) (w1 := wX cI cZ cQ o ra rr k rc oL aL oT aT oN aN v36.2 R L T N) CF (mtX3_failed l D cI cZ cQ o ra rr k rc oL aL oT aT oN aN X_1 R L T N v18 H.size v36 h37) (cwV 1 hts gX3_season_X3_failed rfl rfl rfl ⟨rfl, hdX3_failed⟩ ⟨Nat.le_of_ble_eq_true rfl, Nat.le_of_ble_eq_true rfl⟩) hK hP hD hS hA rfl rfl rfl rfl rfl hl.1 rfl (Nat.le_of_ble_eq_true rfl) dX3_season_89 (fun H locs hP hD hS => ?_)
                obtain rfl := Option.some.inj hf
                exact hRet 92 ls H locs (vp_nar_int _) dX3_season_92 hP hS
            clear hf
            have hf := hv
            clear hv
            refine lv_if_ne (pc := 58) (tgt := 81) hx hb dX3_season_58 (by decide) (fun c38 => ?_) (fun c38 => ?_)
            · have hf := iF c38 hf
              obtain rfl := Option.some.inj hf
              exact J19 ls (lv_sub hl [1, 2, 3, 4, 5, 6, 0] rfl)
            · have hf := iT c38 hf
              refine lv_aload_n (pc := 61) hx hb dX3_season_61 rfl (lv_at hl 1 rfl) ?_
              refine va_get (pc := 62) (D := D) (ci := 3) (v := .ref ra) (C := RX3) (T := TX3) (N := 8) hx hb hts inX3_season_X3 hown hK.1 hP 0 rfl rfl 0 (by decide) (hts (.fieldLink RX3 13 "HedgeHoles" "rows" "[LHedgeHoles$Row;") (by decide +kernel)) (fun _ h9 => h9) rfl dX3_season_62 ?_
              refine lv_iload_n (pc := 65) hx hb dX3_season_65 rfl (lv_at hl 2 rfl) ?_
              refine va_aldq (pc := 66) (f := fun i => some (rr i)) (n := 4) hx hb hK.1 hP 1 2 rfl rfl h14 dX3_season_66 ?_
              rw [h15]
              refine W.eq (g2 := F0 m 67 ls [.ref (rr k)]) rfl ?_
              refine lv_iload_n (pc := 67) hx hb dX3_season_67 rfl (lv_at hl 4 rfl) ?_
              refine lv_iconst (pc := 68) (v := 2) hx hb dX3_season_68 (by decide) ?_
              refine lv_iload (pc := 69) hx hb dX3_season_69 (lv_at hl 5 rfl) ?_
              refine lv_imul (pc := 71) hx hb dX3_season_71 ?_
              obtain ⟨v39, h40, hf⟩ := bd hf
              refine roVi (pc := 72) (As := [.int p2, .int (2 * p3)]) (rest := []) CF (mtX2_spans l D cI cZ cQ (rr k) (fun _ => rc) R p2 (2 * p3) v39 h40) (cwV 2 hts gX3_season_X2_spans rfl rfl rfl ⟨rfl, hdX2_spans⟩ ⟨Nat.le_of_ble_eq_true rfl, Nat.le_of_ble_eq_true rfl⟩) hK (va_P_sub' hP [2, 3] rfl) rfl rfl rfl rfl hl.1 rfl (Nat.le_of_ble_eq_true rfl) dX3_season_72 ?_
              refine lv_if_ne (pc := 75) (tgt := 81) hx hb dX3_season_75 (by decide) (fun c41 => ?_) (fun c41 => ?_)
              · have hf := iF c41 hf
                obtain rfl := Option.some.inj hf
                exact J19 ls (lv_sub hl [1, 2, 3, 4, 5, 6, 0] rfl)
              · have hf := iT c41 hf
                refine lv_iconst (pc := 78) (v := 3) hx hb dX3_season_78 (by decide) ?_
                refine lv_istore (pc := 79) (lv' := [(6, .int 3), (0, .ref o), (1, .int p0), (2, .int p1), (3, .int p2), (4, .int p3), (5, .int p4)]) hx hb dX3_season_79 hl (by decide) rfl (fun ls hl => ?_)
                obtain rfl := Option.some.inj hf
                exact J19 ls (lv_sub hl [1, 2, 3, 4, 5, 6, 0] rfl)
          · have hf := iT c13 hf
            refine lv_bipush (pc := 41) (v := (-2)) hx hb dX3_season_41 (by decide) ?_
            obtain rfl := Option.some.inj hf
            exact hRet 43 ls H locs (vp_nar_int _) dX3_season_43 hP hS
  · have hf := iT c5 hf
    refine lv_iconst (pc := 12) (v := (-1)) hx hb dX3_season_12 (by decide) ?_
    obtain rfl := Option.some.inj hf
    exact hRet 13 ls H locs (vp_nar_int _) dX3_season_13 hP hS
theorem hdX3_season : yX3_season.cls ≠ "java/lang/invoke/MethodHandle" ∧ yX3_season.cls ≠ "java/lang/invoke/VarHandle" ∧ (parseMethodDescriptor yX3_season.desc).map (fun d => d.parameters.length) = some 5 := by decide +kernel
abbrev rmX3_widest : Room := { frames := 4, cells := 0, slots := 0, locals := 94 }
theorem inX3_widest_X3 : ∀ w ∈ wsX30, w ∈ wsX3_widest := fun _ h => List.mem_cons_of_mem _ (List.mem_append_left _ (List.mem_append_right _ h))
set_option maxHeartbeats 4000000 in
set_option maxRecDepth 100000 in
theorem mtX3_widest (l : Launch) (D : va_G) (cI cZ cQ : ClassId) (o ra : Nat) (rr : Nat → Nat) (k rc : Nat) (oL : Nat) (aL : Nat → Nat) (oT : Nat) (aT : Nat → Nat) (oN : Nat) (aN : Nat → Nat) (X R L T N : Bk) (p0 : Int32) (p1 : Int32) (out : Int32) (hf : fX3_widest L p0 p1 = some out) : Met l yX3_widest wsX3_widest rmX3_widest (RoP D cI cZ cQ [.ref o, .int p0, .int p1] (wX cI cZ cQ o ra rr k rc oL aL oT aT oN aN X R L T N)) (vp_Si (fun r' => r' = out)) 0 0 (fun _ => False) := by
  refine metRi (ty := .int) (cc := cX3_widest) (maxL := 4) (by decide) rfl (Nat.le_of_ble_eq_true rfl) ?_
  intro p e s m args below meth c Q CF hK hP hRet ls hl
  obtain ⟨hx, hb, hml, hown, hts⟩ := id CF
  have hl : lv_has ls 4 [(0, .ref o), (1, .int p0), (2, .int p1)] := hl
  unfold fX3_widest at hf
  refine lv_aload_n (pc := 0) hx hb dX3_widest_0 rfl (lv_at hl 0 rfl) ?_
  refine lv_iload_n (pc := 1) hx hb dX3_widest_1 rfl (lv_at hl 1 rfl) ?_
  refine lv_iload_n (pc := 2) hx hb dX3_widest_2 rfl (lv_at hl 2 rfl) ?_
  obtain ⟨v1, h2, hf⟩ := bd hf
  refine roVi (pc := 3) (As := [.int p0, .int p1]) (rest := []) CF (mtX3_areTwoFields l D cI cZ cQ o ra rr k rc oL aL oT aT oN aN X R L T N p0 p1 v1 h2) (cwV 2 hts gX3_widest_X3_areTwoFields rfl rfl rfl ⟨rfl, hdX3_areTwoFields⟩ ⟨Nat.le_of_ble_eq_true rfl, Nat.le_of_ble_eq_true rfl⟩) hK hP rfl rfl rfl rfl hl.1 rfl (Nat.le_of_ble_eq_true rfl) dX3_widest_3 ?_
  refine lv_if_ne (pc := 6) (tgt := 11) hx hb dX3_widest_6 (by decide) (fun c3 => ?_) (fun c3 => ?_)
  · have hf := iF c3 hf
    refine lv_bipush (pc := 11) (v := 9) hx hb dX3_widest_11 (by decide) ?_
    refine lv_istore_n (pc := 13) (lv' := [(3, .int 9), (0, .ref o), (1, .int p0), (2, .int p1)]) hx hb dX3_widest_13 rfl hl (by decide) rfl (fun ls hl => ?_)
    refine zl1 (G := FX3_widest_14 p0 p1 L) (fun x3_4 => ∀ (ls : Array Slot), lv_has ls 4 [(0, .ref o), (1, .int p0), (2, .int p1), (3, .int x3_4)] → W p l e rmX3_widest s m args below meth c s.heap [] 0 0 Q (F0 m 14 ls [])) (fun x3_5 => ∀ (ls : Array Slot), lv_has ls 4 [(0, .ref o), (1, .int p0), (2, .int p1), (3, .int x3_5)] → W p l e rmX3_widest s m args below meth c s.heap [] 0 0 Q (F0 m 42 ls [])) hf (fun x3_5 hf => ?_) (fun kx slf hkx hslf x3_4 hf => ?_) ls (lv_sub hl [1, 2, 3, 0] rfl)
    · intro ls hl
      refine lv_iconst (pc := 42) (v := 0) hx hb dX3_widest_42 (by decide) ?_
      obtain rfl := Option.some.inj hf
      exact hRet 43 ls (vp_nar_int _) dX3_widest_43
    · unfold FX3_widest_14 at hf
      intro ls hl
      refine lv_iload_n (pc := 14) hx hb dX3_widest_14 rfl (lv_at hl 3 rfl) ?_
      refine lv_if_le (pc := 15) (tgt := 42) hx hb dX3_widest_15 (by decide) (fun c6 => ?_) (fun c6 => ?_)
      · have hf := iT c6 hf
        exact hkx _ hf ls (lv_sub hl [0, 1, 2, 3] rfl)
      · have hf := iF c6 hf
        refine lv_aload_n (pc := 18) hx hb dX3_widest_18 rfl (lv_at hl 0 rfl) ?_
        refine va_get (pc := 19) (D := D) (ci := 3) (v := .ref oL) (C := RX3) (T := TX3) (N := 8) hx hb hts inX3_widest_X3 hown hK.1 hP 0 rfl rfl 1 (by decide) (hts (.fieldLink RX3 20 "HedgeHoles" "land" "LHedgeHoles$Land;") (by decide +kernel)) (fun _ h9 => h9) rfl dX3_widest_19 ?_
        refine lv_iload_n (pc := 22) hx hb dX3_widest_22 rfl (lv_at hl 1 rfl) ?_
        refine lv_iload_n (pc := 23) hx hb dX3_widest_23 rfl (lv_at hl 3 rfl) ?_
        obtain ⟨v7, h8, hf⟩ := bd hf
        refine roVi (pc := 24) (As := [.int p0, .int x3_4]) (rest := []) CF (mtX0_reachOf l D cI cZ cQ oL aL L p0 x3_4 v7 h8) (cwV 2 hts gX3_widest_X0_reachOf rfl rfl rfl ⟨rfl, hdX0_reachOf⟩ ⟨Nat.le_of_ble_eq_true rfl, Nat.le_of_ble_eq_true rfl⟩) hK (va_P_sub' hP [4, 5, 6, 7, 8, 9] rfl) rfl rfl rfl rfl hl.1 rfl (Nat.le_of_ble_eq_true rfl) dX3_widest_24 ?_
        refine lv_iload_n (pc := 27) hx hb dX3_widest_27 rfl (lv_at hl 2 rfl) ?_
        obtain ⟨v9, h10, hf⟩ := bd hf
        refine roSi (pc := 28) (As := [.int v7, .int p1]) (rest := []) CF (mtX3_isIn l D cI cZ cQ v7 p1 v9 h10) (va_cwS 2 hts gX3_widest_X3_isIn rfl rfl rfl hdX3_isIn ⟨Nat.le_of_ble_eq_true rfl, Nat.le_of_ble_eq_true rfl⟩) hK P0 rfl hl.1 rfl (Nat.le_of_ble_eq_true rfl) dX3_widest_28 ?_
        refine lv_if_eq (pc := 31) (tgt := 36) hx hb dX3_widest_31 (by decide) (fun c11 => ?_) (fun c11 => ?_)
        · have hf := iT c11 hf
          refine lv_iinc (pc := 36) (v := (x3_4 + (-1))) (lv' := [(3, .int (x3_4 + (-1))), (0, .ref o), (1, .int p0), (2, .int p1)]) hx hb dX3_widest_36 hl (k := 3) rfl rfl (by decide) rfl (fun ls hl => ?_)
          refine lv_goto (pc := 39) (tgt := 14) hx hb dX3_widest_39 (by decide) ?_
          exact hslf _ hf ls (lv_sub hl [1, 2, 3, 0] rfl)
        · have hf := iF c11 hf
          refine lv_iload_n (pc := 34) hx hb dX3_widest_34 rfl (lv_at hl 3 rfl) ?_
          obtain rfl := Option.some.inj hf
          exact hRet 35 ls (vp_nar_int _) dX3_widest_35
  · have hf := iT c3 hf
    refine lv_iconst (pc := 9) (v := (-1)) hx hb dX3_widest_9 (by decide) ?_
    obtain rfl := Option.some.inj hf
    exact hRet 10 ls (vp_nar_int _) dX3_widest_10
theorem hdX3_widest : yX3_widest.cls ≠ "java/lang/invoke/MethodHandle" ∧ yX3_widest.cls ≠ "java/lang/invoke/VarHandle" ∧ (parseMethodDescriptor yX3_widest.desc).map (fun d => d.parameters.length) = some 2 := by decide +kernel
abbrev rmX3_way : Room := { frames := 5, cells := 0, slots := 0, locals := 115 }
theorem inX3_way_X0 : ∀ w ∈ wsX00, w ∈ wsX3_way := fun _ h => List.mem_cons_of_mem _ (List.mem_append_right _ h)
theorem inX3_way_X3 : ∀ w ∈ wsX30, w ∈ wsX3_way := fun _ h => List.mem_cons_of_mem _ (List.mem_append_left _ (List.mem_append_right _ h))
set_option maxHeartbeats 4000000 in
set_option maxRecDepth 100000 in
theorem mtX3_way (l : Launch) (D : va_G) (cI cZ cQ : ClassId) (o ra : Nat) (rr : Nat → Nat) (k rc : Nat) (oL : Nat) (aL : Nat → Nat) (oT : Nat) (aT : Nat → Nat) (oN : Nat) (aN : Nat → Nat) (X R L T N : Bk) (p0 : Int32) (p1 : Int32) (p2 : Int32) (sz : Nat) (out : (Int32 × Bk)) (hf : fX3_way L p0 p1 p2 = some out) : Met l yX3_way wsX3_way rmX3_way (WrP D cI cZ cQ [.ref o, .int p0, .int p1, .int p2] (wX cI cZ cQ o ra rr k rc oL aL oT aT oN aN X R L T N) sz) (WrQi D out.1 (wX cI cZ cQ o ra rr k rc oL aL oT aT oN aN X R L T N) (wX cI cZ cQ o ra rr k rc oL aL oT aT oN aN X R out.2 T N) sz) 0 0 (va_A (wX cI cZ cQ o ra rr k rc oL aL oT aT oN aN X R L T N) sz) := by
  refine metWi (ty := .int) (cc := cX3_way) (maxL := 5) (by decide) rfl (Nat.le_of_ble_eq_true rfl) ?_
  intro p e s m args below meth c Q A CF hK hP hD hA hRet ls hl
  obtain ⟨hx, hb, hml, hown, hts⟩ := id CF
  have hS : va_S A s.heap s.heap [] := va_S.rf
  have hl : lv_has ls 5 [(0, .ref o), (1, .int p0), (2, .int p1), (3, .int p2)] := hl
  unfold fX3_way at hf
  refine lv_aload_n (pc := 0) hx hb dX3_way_0 rfl (lv_at hl 0 rfl) ?_
  refine lv_iload_n (pc := 1) hx hb dX3_way_1 rfl (lv_at hl 1 rfl) ?_
  obtain ⟨v1, h2, hf⟩ := bd hf
  refine roVi (pc := 2) (As := [.int p0]) (rest := []) CF (mtX3_isGoer l D cI cZ cQ o ra rr k rc oL aL oT aT oN aN X R L T N p0 v1 h2) (cwV 1 hts gX3_way_X3_isGoer rfl rfl rfl ⟨rfl, hdX3_isGoer⟩ ⟨Nat.le_of_ble_eq_true rfl, Nat.le_of_ble_eq_true rfl⟩) hK hP rfl rfl rfl rfl hl.1 rfl (Nat.le_of_ble_eq_true rfl) dX3_way_2 ?_
  refine lv_if_eq (pc := 5) (tgt := 16) hx hb dX3_way_5 (by decide) (fun c3 => ?_) (fun c3 => ?_)
  · have hf := iT c3 hf
    refine lv_iconst (pc := 16) (v := (-1)) hx hb dX3_way_16 (by decide) ?_
    obtain rfl := Option.some.inj hf
    exact hRet 17 ls s.heap [] (vp_nar_int _) dX3_way_17 hP hS
  · have hf := iF c3 hf
    refine lv_aload_n (pc := 8) hx hb dX3_way_8 rfl (lv_at hl 0 rfl) ?_
    refine lv_iload_n (pc := 9) hx hb dX3_way_9 rfl (lv_at hl 2 rfl) ?_
    obtain ⟨v4, h5, hf⟩ := bd hf
    refine roVi (pc := 10) (As := [.int p1]) (rest := []) CF (mtX3_isField l D cI cZ cQ o ra rr k rc oL aL oT aT oN aN X R L T N p1 v4 h5) (cwV 1 hts gX3_way_X3_isField rfl rfl rfl ⟨rfl, hdX3_isField⟩ ⟨Nat.le_of_ble_eq_true rfl, Nat.le_of_ble_eq_true rfl⟩) hK hP rfl rfl rfl rfl hl.1 rfl (Nat.le_of_ble_eq_true rfl) dX3_way_10 ?_
    refine lv_if_ne (pc := 13) (tgt := 18) hx hb dX3_way_13 (by decide) (fun c6 => ?_) (fun c6 => ?_)
    · have hf := iF c6 hf
      refine lv_iload_n (pc := 18) hx hb dX3_way_18 rfl (lv_at hl 3 rfl) ?_
      refine lv_iconst (pc := 19) (v := (-1)) hx hb dX3_way_19 (by decide) ?_
      refine lv_icmp_lt (pc := 20) (tgt := 28) hx hb dX3_way_20 (by decide) (fun c7 => ?_) (fun c7 => ?_)
      · have hf := iT c7 hf
        refine lv_bipush (pc := 28) (v := (-2)) hx hb dX3_way_28 (by decide) ?_
        obtain rfl := Option.some.inj hf
        exact hRet 30 ls s.heap [] (vp_nar_int _) dX3_way_30 hP hS
      · have hf := iF c7 hf
        refine lv_iload_n (pc := 23) hx hb dX3_way_23 rfl (lv_at hl 3 rfl) ?_
        refine lv_iconst (pc := 24) (v := 5) hx hb dX3_way_24 (by decide) ?_
        refine lv_icmp_lt (pc := 25) (tgt := 31) hx hb dX3_way_25 (by decide) (fun c8 => ?_) (fun c8 => ?_)
        · have hf := iT c8 hf
          refine lv_aload_n (pc := 31) hx hb dX3_way_31 rfl (lv_at hl 0 rfl) ?_
          refine va_get (pc := 32) (D := D) (ci := 3) (v := .ref oL) (C := RX3) (T := TX3) (N := 8) hx hb hts inX3_way_X3 hown hK.1 hP 0 rfl rfl 1 (by decide) (hts (.fieldLink RX3 20 "HedgeHoles" "land" "LHedgeHoles$Land;") (by decide +kernel)) (fun _ h9 => h9) rfl dX3_way_32 ?_
          refine lv_iload_n (pc := 35) hx hb dX3_way_35 rfl (lv_at hl 2 rfl) ?_
          refine lv_aload_n (pc := 36) hx hb dX3_way_36 rfl (lv_at hl 0 rfl) ?_
          refine va_get (pc := 37) (D := D) (ci := 3) (v := .ref oL) (C := RX3) (T := TX3) (N := 8) hx hb hts inX3_way_X3 hown hK.1 hP 0 rfl rfl 1 (by decide) (hts (.fieldLink RX3 20 "HedgeHoles" "land" "LHedgeHoles$Land;") (by decide +kernel)) (fun _ h9 => h9) rfl dX3_way_37 ?_
          refine lv_iload_n (pc := 40) hx hb dX3_way_40 rfl (lv_at hl 1 rfl) ?_
          obtain ⟨v9, h10, hf⟩ := bd hf
          refine roVi (pc := 41) (As := [.int p0]) (rest := [.int p1, .ref oL]) CF (mtX0_thickOf l D cI cZ cQ oL aL L p0 v9 h10) (cwV 1 hts gX3_way_X0_thickOf rfl rfl rfl ⟨rfl, hdX0_thickOf⟩ ⟨Nat.le_of_ble_eq_true rfl, Nat.le_of_ble_eq_true rfl⟩) hK (va_P_sub' hP [4, 5, 6, 7, 8, 9] rfl) rfl rfl rfl rfl hl.1 rfl (Nat.le_of_ble_eq_true rfl) dX3_way_41 ?_
          refine lv_iconst (pc := 44) (v := 1) hx hb dX3_way_44 (by decide) ?_
          refine lv_sipush (pc := 45) (v := 1000) hx hb dX3_way_45 (by decide) ?_
          obtain ⟨v11, h12, hf⟩ := bd hf
          refine wrVv (pc := 48) (As := [.int p1, .int v9, .int 1, .int 1000]) (rest := []) (wB' := wX cI cZ cQ o ra rr k rc oL aL oT aT oN aN X R v11 T N) CF (mtX0_measureTo l D cI cZ cQ oL aL L p1 v9 1 1000 s.heap.size v11 h12) (cwV 4 hts gX3_way_X0_measureTo rfl rfl rfl ⟨rfl, hdX0_measureTo⟩ ⟨Nat.le_of_ble_eq_true rfl, Nat.le_of_ble_eq_true rfl⟩) hK hP hD hS hA [4, 5, 6, 7, 8, 9] rfl (by decide) rfl rfl rfl rfl rfl rfl rfl hl.1 rfl (Nat.le_of_ble_eq_true rfl) dX3_way_48 (fun H locs hP hD hS => ?_)
          refine lv_aload_n (pc := 51) hx hb dX3_way_51 rfl (lv_at hl 0 rfl) ?_
          refine va_get (pc := 52) (D := D) (ci := 3) (v := .ref oL) (C := RX3) (T := TX3) (N := 8) hx hb hts inX3_way_X3 hown hK.1 hP 0 rfl rfl 1 (by decide) (hts (.fieldLink RX3 20 "HedgeHoles" "land" "LHedgeHoles$Land;") (by decide +kernel)) (fun _ h9 => h9) rfl dX3_way_52 ?_
          refine va_get (pc := 55) (D := D) (ci := 0) (v := .ref (aL 7)) (C := RX0) (T := TX0) (N := 8) hx hb hts inX3_way_X0 hown hK.1 hP 4 rfl rfl 7 (by decide) (hts (.fieldLink RX3 159 "HedgeHoles$Land" "distance" "[I") (by decide +kernel)) (fun _ h9 => h9) rfl dX3_way_55 ?_
          refine lv_aload_n (pc := 58) hx hb dX3_way_58 rfl (lv_at hl 0 rfl) ?_
          refine va_get (pc := 59) (D := D) (ci := 3) (v := .ref oL) (C := RX3) (T := TX3) (N := 8) hx hb hts inX3_way_X3 hown hK.1 hP 0 rfl rfl 1 (by decide) (hts (.fieldLink RX3 20 "HedgeHoles" "land" "LHedgeHoles$Land;") (by decide +kernel)) (fun _ h9 => h9) rfl dX3_way_59 ?_
          refine va_get (pc := 62) (D := D) (ci := 0) (v := .ref (aL 6)) (C := RX0) (T := TX0) (N := 8) hx hb hts inX3_way_X0 hown hK.1 hP 4 rfl rfl 6 (by decide) (hts (.fieldLink RX3 93 "HedgeHoles$Land" "place" "[I") (by decide +kernel)) (fun _ h9 => h9) rfl dX3_way_62 ?_
          refine lv_iload_n (pc := 65) hx hb dX3_way_65 rfl (lv_at hl 1 rfl) ?_
          obtain ⟨h13, hf⟩ := gI_e hf
          refine va_iald (pc := 66) (f := v11 6) (n := 5) hx hb hK.1 hP 8 0 rfl rfl h13 dX3_way_66 ?_
          obtain ⟨h14, hf⟩ := gI_e hf
          refine va_iald (pc := 67) (f := v11 7) (n := 5) hx hb hK.1 hP 9 0 rfl rfl h14 dX3_way_67 ?_
          refine lv_istore (pc := 68) (lv' := [(4, .int (v11 7 (v11 6 p0.toNatClampNeg).toNatClampNeg)), (0, .ref o), (1, .int p0), (2, .int p1), (3, .int p2)]) hx hb dX3_way_68 hl (by decide) rfl (fun ls hl => ?_)
          refine lv_iload (pc := 70) hx hb dX3_way_70 (lv_at hl 0 rfl) ?_
          refine lv_sipush (pc := 72) (v := 1000) hx hb dX3_way_72 (by decide) ?_
          refine lv_icmp_ge (pc := 75) (tgt := 84) hx hb dX3_way_75 (by decide) (fun c15 => ?_) (fun c15 => ?_)
          · have hf := iT c15 hf
            refine lv_bipush (pc := 84) (v := (-9)) hx hb dX3_way_84 (by decide) ?_
            obtain rfl := Option.some.inj hf
            exact hRet 86 ls H locs (vp_nar_int _) dX3_way_86 hP hS
          · have hf := iF c15 hf
            refine lv_iload_n (pc := 78) hx hb dX3_way_78 rfl (lv_at hl 4 rfl) ?_
            refine lv_iload (pc := 79) hx hb dX3_way_79 (lv_at hl 0 rfl) ?_
            refine lv_icmp_le (pc := 81) (tgt := 87) hx hb dX3_way_81 (by decide) (fun c16 => ?_) (fun c16 => ?_)
            · have hf := iT c16 hf
              refine lv_iload_n (pc := 87) hx hb dX3_way_87 rfl (lv_at hl 4 rfl) ?_
              refine lv_iconst (pc := 88) (v := (-1)) hx hb dX3_way_88 (by decide) ?_
              refine lv_icmp_ne (pc := 89) (tgt := 99) hx hb dX3_way_89 (by decide) (fun c17 => ?_) (fun c17 => ?_)
              · have hf := iF c17 hf
                refine lv_aload_n (pc := 99) hx hb dX3_way_99 rfl (lv_at hl 1 rfl) ?_
                refine va_get (pc := 100) (D := D) (ci := 3) (v := .ref oL) (C := RX3) (T := TX3) (N := 8) hx hb hts inX3_way_X3 hown hK.1 hP 0 rfl rfl 1 (by decide) (hts (.fieldLink RX3 20 "HedgeHoles" "land" "LHedgeHoles$Land;") (by decide +kernel)) (fun _ h9 => h9) rfl dX3_way_100 ?_
                refine lv_iload_n (pc := 103) hx hb dX3_way_103 rfl (lv_at hl 2 rfl) ?_
                refine lv_iload_n (pc := 104) hx hb dX3_way_104 rfl (lv_at hl 4 rfl) ?_
                obtain ⟨v18, h19, hf⟩ := bd hf
                refine roVi (pc := 105) (As := [.int p0, .int p2]) (rest := []) CF (mtX0_fieldOnWay l D cI cZ cQ oL aL v11 p0 p2 v18 h19) (cwV 2 hts gX3_way_X0_fieldOnWay rfl rfl rfl ⟨rfl, hdX0_fieldOnWay⟩ ⟨Nat.le_of_ble_eq_true rfl, Nat.le_of_ble_eq_true rfl⟩) hK (va_P_sub' hP [4, 5, 6, 7, 8, 9] rfl) rfl rfl rfl rfl hl.1 rfl (Nat.le_of_ble_eq_true rfl) dX3_way_105 ?_
                obtain rfl := Option.some.inj hf
                exact hRet 108 ls H locs (vp_nar_int _) dX3_way_108 hP hS
              · have hf := iT c17 hf
                refine lv_iload (pc := 92) hx hb dX3_way_92 (lv_at hl 0 rfl) ?_
                refine lv_iconst (pc := 94) (v := 1) hx hb dX3_way_94 (by decide) ?_
                refine lv_iadd (pc := 95) hx hb dX3_way_95 ?_
                refine lv_goto (pc := 96) (tgt := 108) hx hb dX3_way_96 (by decide) ?_
                obtain rfl := Option.some.inj hf
                exact hRet 108 ls H locs (vp_nar_int _) dX3_way_108 hP hS
            · have hf := iF c16 hf
              refine lv_bipush (pc := 84) (v := (-9)) hx hb dX3_way_84 (by decide) ?_
              obtain rfl := Option.some.inj hf
              exact hRet 86 ls H locs (vp_nar_int _) dX3_way_86 hP hS
        · have hf := iF c8 hf
          refine lv_bipush (pc := 28) (v := (-2)) hx hb dX3_way_28 (by decide) ?_
          obtain rfl := Option.some.inj hf
          exact hRet 30 ls s.heap [] (vp_nar_int _) dX3_way_30 hP hS
    · have hf := iT c6 hf
      refine lv_iconst (pc := 16) (v := (-1)) hx hb dX3_way_16 (by decide) ?_
      obtain rfl := Option.some.inj hf
      exact hRet 17 ls s.heap [] (vp_nar_int _) dX3_way_17 hP hS
theorem hdX3_way : yX3_way.cls ≠ "java/lang/invoke/MethodHandle" ∧ yX3_way.cls ≠ "java/lang/invoke/VarHandle" ∧ (parseMethodDescriptor yX3_way.desc).map (fun d => d.parameters.length) = some 3 := by decide +kernel
abbrev rmX3_market : Room := { frames := 5, cells := 0, slots := 0, locals := 117 }
theorem inX3_market_X0 : ∀ w ∈ wsX00, w ∈ wsX3_market := fun _ h => List.mem_cons_of_mem _ (List.mem_append_right _ h)
theorem inX3_market_X3 : ∀ w ∈ wsX30, w ∈ wsX3_market := fun _ h => List.mem_cons_of_mem _ (List.mem_append_left _ (List.mem_append_right _ h))
set_option maxHeartbeats 4000000 in
set_option maxRecDepth 100000 in
theorem mtX3_market (l : Launch) (D : va_G) (cI cZ cQ : ClassId) (o ra : Nat) (rr : Nat → Nat) (k rc : Nat) (oL : Nat) (aL : Nat → Nat) (oT : Nat) (aT : Nat → Nat) (oN : Nat) (aN : Nat → Nat) (X R L T N : Bk) (p0 : Int32) (out : Int32) (hf : fX3_market L p0 = some out) : Met l yX3_market wsX3_market rmX3_market (RoP D cI cZ cQ [.ref o, .int p0] (wX cI cZ cQ o ra rr k rc oL aL oT aT oN aN X R L T N)) (vp_Si (fun r' => r' = out)) 0 0 (fun _ => False) := by
  refine metRi (ty := .int) (cc := cX3_market) (maxL := 6) (by decide) rfl (Nat.le_of_ble_eq_true rfl) ?_
  intro p e s m args below meth c Q CF hK hP hRet ls hl
  obtain ⟨hx, hb, hml, hown, hts⟩ := id CF
  have hl : lv_has ls 6 [(0, .ref o), (1, .int p0)] := hl
  unfold fX3_market at hf
  refine lv_iload_n (pc := 0) hx hb dX3_market_0 rfl (lv_at hl 1 rfl) ?_
  refine lv_if_lt (pc := 1) (tgt := 9) hx hb dX3_market_1 (by decide) (fun c1 => ?_) (fun c1 => ?_)
  · have hf := iT c1 hf
    refine lv_bipush (pc := 9) (v := (-2)) hx hb dX3_market_9 (by decide) ?_
    obtain rfl := Option.some.inj hf
    exact hRet 11 ls (vp_nar_int _) dX3_market_11
  · have hf := iF c1 hf
    refine lv_iload_n (pc := 4) hx hb dX3_market_4 rfl (lv_at hl 1 rfl) ?_
    refine lv_iconst (pc := 5) (v := 1) hx hb dX3_market_5 (by decide) ?_
    refine lv_icmp_le (pc := 6) (tgt := 12) hx hb dX3_market_6 (by decide) (fun c2 => ?_) (fun c2 => ?_)
    · have hf := iT c2 hf
      refine lv_aload_n (pc := 12) hx hb dX3_market_12 rfl (lv_at hl 0 rfl) ?_
      obtain ⟨v3, h4, hf⟩ := bd hf
      refine roVi (pc := 13) (As := []) (rest := []) CF (mtX3_hasCounty l D cI cZ cQ o ra rr k rc oL aL oT aT oN aN X R L T N v3 h4) (cwV 0 hts gX3_market_X3_hasCounty rfl rfl rfl ⟨rfl, hdX3_hasCounty⟩ ⟨Nat.le_of_ble_eq_true rfl, Nat.le_of_ble_eq_true rfl⟩) hK hP rfl rfl rfl rfl hl.1 rfl (Nat.le_of_ble_eq_true rfl) dX3_market_13 ?_
      refine lv_if_ne (pc := 16) (tgt := 22) hx hb dX3_market_16 (by decide) (fun c5 => ?_) (fun c5 => ?_)
      · have hf := iF c5 hf
        refine lv_iconst (pc := 22) (v := 0) hx hb dX3_market_22 (by decide) ?_
        refine lv_istore_n (pc := 23) (lv' := [(2, .int 0), (0, .ref o), (1, .int p0)]) hx hb dX3_market_23 rfl hl (by decide) rfl (fun ls hl => ?_)
        refine lv_aload_n (pc := 24) hx hb dX3_market_24 rfl (lv_at hl 1 rfl) ?_
        refine va_get (pc := 25) (D := D) (ci := 3) (v := .ref oL) (C := RX3) (T := TX3) (N := 8) hx hb hts inX3_market_X3 hown hK.1 hP 0 rfl rfl 1 (by decide) (hts (.fieldLink RX3 20 "HedgeHoles" "land" "LHedgeHoles$Land;") (by decide +kernel)) (fun _ h9 => h9) rfl dX3_market_25 ?_
        refine lv_iconst (pc := 28) (v := 0) hx hb dX3_market_28 (by decide) ?_
        obtain ⟨v6, h7, hf⟩ := bd hf
        refine roVi (pc := 29) (As := [.int 0]) (rest := []) CF (mtX0_comersTo l D cI cZ cQ oL aL L 0 v6 h7) (cwV 1 hts gX3_market_X0_comersTo rfl rfl rfl ⟨rfl, hdX0_comersTo⟩ ⟨Nat.le_of_ble_eq_true rfl, Nat.le_of_ble_eq_true rfl⟩) hK (va_P_sub' hP [4, 5, 6, 7, 8, 9] rfl) rfl rfl rfl rfl hl.1 rfl (Nat.le_of_ble_eq_true rfl) dX3_market_29 ?_
        refine lv_istore_n (pc := 32) (lv' := [(3, .int v6), (2, .int 0), (0, .ref o), (1, .int p0)]) hx hb dX3_market_32 rfl hl (by decide) rfl (fun ls hl => ?_)
        refine lv_iconst (pc := 33) (v := 1) hx hb dX3_market_33 (by decide) ?_
        refine lv_istore (pc := 34) (lv' := [(4, .int 1), (3, .int v6), (2, .int 0), (0, .ref o), (1, .int p0)]) hx hb dX3_market_34 hl (by decide) rfl (fun ls hl => ?_)
        refine zl3 (G := FX3_market_36 L) (fun x2_8 x3_9 x4_10 => ∀ (ls : Array Slot), lv_has ls 6 [(0, .ref o), (1, .int p0), (2, .int x2_8), (3, .int x3_9), (4, .int x4_10)] → W p l e rmX3_market s m args below meth c s.heap [] 0 0 Q (F0 m 36 ls [])) (fun x2_11 x3_12 x4_13 => ∀ (ls : Array Slot), lv_has ls 6 [(0, .ref o), (1, .int p0), (2, .int x2_11), (3, .int x3_12), (4, .int x4_13)] → W p l e rmX3_market s m args below meth c s.heap [] 0 0 Q (F0 m 83 ls [])) hf (fun x2_11 x3_12 x4_13 hf => ?_) (fun kx slf hkx hslf x2_8 x3_9 x4_10 hf => ?_) ls (lv_sub hl [3, 4, 2, 1, 0] rfl)
        · intro ls hl
          refine lv_iload_n (pc := 83) hx hb dX3_market_83 rfl (lv_at hl 1 rfl) ?_
          refine lv_if_ne (pc := 84) (tgt := 91) hx hb dX3_market_84 (by decide) (fun c24 => ?_) (fun c24 => ?_)
          · have hf := iF c24 hf
            refine lv_iload_n (pc := 91) hx hb dX3_market_91 rfl (lv_at hl 3 rfl) ?_
            obtain rfl := Option.some.inj hf
            exact hRet 92 ls (vp_nar_int _) dX3_market_92
          · have hf := iT c24 hf
            refine lv_iload_n (pc := 87) hx hb dX3_market_87 rfl (lv_at hl 2 rfl) ?_
            refine lv_goto (pc := 88) (tgt := 92) hx hb dX3_market_88 (by decide) ?_
            obtain rfl := Option.some.inj hf
            exact hRet 92 ls (vp_nar_int _) dX3_market_92
        · unfold FX3_market_36 at hf
          intro ls hl
          refine lv_iload (pc := 36) hx hb dX3_market_36 (lv_at hl 4 rfl) ?_
          refine lv_aload_n (pc := 38) hx hb dX3_market_38 rfl (lv_at hl 0 rfl) ?_
          refine va_get (pc := 39) (D := D) (ci := 3) (v := .ref oL) (C := RX3) (T := TX3) (N := 8) hx hb hts inX3_market_X3 hown hK.1 hP 0 rfl rfl 1 (by decide) (hts (.fieldLink RX3 20 "HedgeHoles" "land" "LHedgeHoles$Land;") (by decide +kernel)) (fun _ h9 => h9) rfl dX3_market_39 ?_
          refine va_get (pc := 42) (D := D) (ci := 0) (v := .int (L 0 0)) (C := RX0) (T := TX0) (N := 8) hx hb hts inX3_market_X0 hown hK.1 hP 4 rfl rfl 0 (by decide) (hts (.fieldLink RX3 168 "HedgeHoles$Land" "fields" "I") (by decide +kernel)) (fun _ h9 => h9) rfl dX3_market_42 ?_
          refine lv_icmp_ge (pc := 45) (tgt := 83) hx hb dX3_market_45 (by decide) (fun c14 => ?_) (fun c14 => ?_)
          · have hf := iT c14 hf
            exact hkx _ _ _ hf ls (lv_sub hl [0, 1, 2, 3, 4] rfl)
          · have hf := iF c14 hf
            refine lv_aload_n (pc := 48) hx hb dX3_market_48 rfl (lv_at hl 0 rfl) ?_
            refine va_get (pc := 49) (D := D) (ci := 3) (v := .ref oL) (C := RX3) (T := TX3) (N := 8) hx hb hts inX3_market_X3 hown hK.1 hP 0 rfl rfl 1 (by decide) (hts (.fieldLink RX3 20 "HedgeHoles" "land" "LHedgeHoles$Land;") (by decide +kernel)) (fun _ h9 => h9) rfl dX3_market_49 ?_
            refine lv_iload (pc := 52) hx hb dX3_market_52 (lv_at hl 4 rfl) ?_
            obtain ⟨v15, h16, hf⟩ := bd hf
            refine roVi (pc := 54) (As := [.int x4_10]) (rest := []) CF (mtX0_comersTo l D cI cZ cQ oL aL L x4_10 v15 h16) (cwV 1 hts gX3_market_X0_comersTo rfl rfl rfl ⟨rfl, hdX0_comersTo⟩ ⟨Nat.le_of_ble_eq_true rfl, Nat.le_of_ble_eq_true rfl⟩) hK (va_P_sub' hP [4, 5, 6, 7, 8, 9] rfl) rfl rfl rfl rfl hl.1 rfl (Nat.le_of_ble_eq_true rfl) dX3_market_54 ?_
            refine lv_istore (pc := 57) (lv' := [(5, .int v15), (0, .ref o), (1, .int p0), (2, .int x2_8), (3, .int x3_9), (4, .int x4_10)]) hx hb dX3_market_57 hl (by decide) rfl (fun ls hl => ?_)
            refine lv_iload (pc := 59) hx hb dX3_market_59 (lv_at hl 0 rfl) ?_
            obtain ⟨v17, h18, hf⟩ := bd hf
            refine roSi (pc := 61) (As := [.int v15]) (rest := []) CF (mtJ6_bitCount_0f7a4 l D cI cZ cQ v15 v17 h18) (va_cwS 1 hts gX3_market_J6_bitCount_0f7a4 rfl rfl rfl hdJ6_bitCount_0f7a4 ⟨Nat.le_of_ble_eq_true rfl, Nat.le_of_ble_eq_true rfl⟩) hK P0 rfl hl.1 rfl (Nat.le_of_ble_eq_true rfl) dX3_market_61 ?_
            refine lv_iload_n (pc := 64) hx hb dX3_market_64 rfl (lv_at hl 4 rfl) ?_
            obtain ⟨v19, h20, hf⟩ := bd hf
            refine roSi (pc := 65) (As := [.int x3_9]) (rest := [.int v17]) CF (mtJ6_bitCount_0f7a4 l D cI cZ cQ x3_9 v19 h20) (va_cwS 1 hts gX3_market_J6_bitCount_0f7a4 rfl rfl rfl hdJ6_bitCount_0f7a4 ⟨Nat.le_of_ble_eq_true rfl, Nat.le_of_ble_eq_true rfl⟩) hK P0 rfl hl.1 rfl (Nat.le_of_ble_eq_true rfl) dX3_market_65 ?_
            obtain ⟨v21, hv, hf⟩ := bd hf
            have J22 : ∀ (ls : Array Slot), lv_has ls 6 [(0, .ref o), (1, .int p0), (2, .int v21.1), (3, .int v21.2), (4, .int x4_10), (5, .int v15)] → W p l e rmX3_market s m args below meth c s.heap [] 0 0 Q (F0 m 77 ls []) := by
              intro ls hl
              refine lv_iinc (pc := 77) (v := (x4_10 + 1)) (lv' := [(4, .int (x4_10 + 1)), (0, .ref o), (1, .int p0), (2, .int v21.1), (3, .int v21.2), (5, .int v15)]) hx hb dX3_market_77 hl (k := 4) rfl rfl (by decide) rfl (fun ls hl => ?_)
              refine lv_goto (pc := 80) (tgt := 36) hx hb dX3_market_80 (by decide) ?_
              exact hslf _ _ _ hf ls (lv_sub hl [1, 2, 3, 4, 0] rfl)
            clear hf
            have hf := hv
            clear hv
            refine lv_icmp_le (pc := 68) (tgt := 77) hx hb dX3_market_68 (by decide) (fun c23 => ?_) (fun c23 => ?_)
            · have hf := iT c23 hf
              obtain rfl := Option.some.inj hf
              exact J22 ls (lv_sub hl [1, 2, 3, 4, 5, 0] rfl)
            · have hf := iF c23 hf
              refine lv_iload (pc := 71) hx hb dX3_market_71 (lv_at hl 5 rfl) ?_
              refine lv_istore_n (pc := 73) (lv' := [(2, .int x4_10), (5, .int v15), (0, .ref o), (1, .int p0), (3, .int x3_9), (4, .int x4_10)]) hx hb dX3_market_73 rfl hl (by decide) rfl (fun ls hl => ?_)
              refine lv_iload (pc := 74) hx hb dX3_market_74 (lv_at hl 1 rfl) ?_
              refine lv_istore_n (pc := 76) (lv' := [(3, .int v15), (2, .int x4_10), (5, .int v15), (0, .ref o), (1, .int p0), (4, .int x4_10)]) hx hb dX3_market_76 rfl hl (by decide) rfl (fun ls hl => ?_)
              obtain rfl := Option.some.inj hf
              exact J22 ls (lv_sub hl [3, 4, 1, 0, 5, 2] rfl)
      · have hf := iT c5 hf
        refine lv_bipush (pc := 19) (v := (-3)) hx hb dX3_market_19 (by decide) ?_
        obtain rfl := Option.some.inj hf
        exact hRet 21 ls (vp_nar_int _) dX3_market_21
    · have hf := iF c2 hf
      refine lv_bipush (pc := 9) (v := (-2)) hx hb dX3_market_9 (by decide) ?_
      obtain rfl := Option.some.inj hf
      exact hRet 11 ls (vp_nar_int _) dX3_market_11
theorem hdX3_market : yX3_market.cls ≠ "java/lang/invoke/MethodHandle" ∧ yX3_market.cls ≠ "java/lang/invoke/VarHandle" ∧ (parseMethodDescriptor yX3_market.desc).map (fun d => d.parameters.length) = some 1 := by decide +kernel
abbrev rmX3_widen : Room := { frames := 4, cells := 0, slots := 0, locals := 96 }
theorem inX3_widen_X0 : ∀ w ∈ wsX00, w ∈ wsX3_widen := fun _ h => List.mem_cons_of_mem _ (List.mem_append_right _ h)
theorem inX3_widen_X3 : ∀ w ∈ wsX30, w ∈ wsX3_widen := fun _ h => List.mem_cons_of_mem _ (List.mem_append_left _ (List.mem_append_right _ h))
set_option maxHeartbeats 4000000 in
set_option maxRecDepth 100000 in
theorem mtX3_widen (l : Launch) (D : va_G) (cI cZ cQ : ClassId) (o ra : Nat) (rr : Nat → Nat) (k rc : Nat) (oL : Nat) (aL : Nat → Nat) (oT : Nat) (aT : Nat → Nat) (oN : Nat) (aN : Nat → Nat) (X R L T N : Bk) (p0 : Int32) (p1 : Int32) (sz : Nat) (out : (Int32 × Bk)) (hf : fX3_widen L p0 p1 = some out) : Met l yX3_widen wsX3_widen rmX3_widen (WrP D cI cZ cQ [.ref o, .int p0, .int p1] (wX cI cZ cQ o ra rr k rc oL aL oT aT oN aN X R L T N) sz) (WrQi D out.1 (wX cI cZ cQ o ra rr k rc oL aL oT aT oN aN X R L T N) (wX cI cZ cQ o ra rr k rc oL aL oT aT oN aN X R out.2 T N) sz) 0 0 (va_A (wX cI cZ cQ o ra rr k rc oL aL oT aT oN aN X R L T N) sz) := by
  refine metWi (ty := .int) (cc := cX3_widen) (maxL := 4) (by decide) rfl (Nat.le_of_ble_eq_true rfl) ?_
  intro p e s m args below meth c Q A CF hK hP hD hA hRet ls hl
  obtain ⟨hx, hb, hml, hown, hts⟩ := id CF
  have hS : va_S A s.heap s.heap [] := va_S.rf
  have hl : lv_has ls 4 [(0, .ref o), (1, .int p0), (2, .int p1)] := hl
  unfold fX3_widen at hf
  refine lv_aload_n (pc := 0) hx hb dX3_widen_0 rfl (lv_at hl 0 rfl) ?_
  refine lv_iload_n (pc := 1) hx hb dX3_widen_1 rfl (lv_at hl 1 rfl) ?_
  obtain ⟨v1, h2, hf⟩ := bd hf
  refine roVi (pc := 2) (As := [.int p0]) (rest := []) CF (mtX3_isGoer l D cI cZ cQ o ra rr k rc oL aL oT aT oN aN X R L T N p0 v1 h2) (cwV 1 hts gX3_widen_X3_isGoer rfl rfl rfl ⟨rfl, hdX3_isGoer⟩ ⟨Nat.le_of_ble_eq_true rfl, Nat.le_of_ble_eq_true rfl⟩) hK hP rfl rfl rfl rfl hl.1 rfl (Nat.le_of_ble_eq_true rfl) dX3_widen_2 ?_
  refine lv_if_eq (pc := 5) (tgt := 16) hx hb dX3_widen_5 (by decide) (fun c3 => ?_) (fun c3 => ?_)
  · have hf := iT c3 hf
    refine lv_iconst (pc := 16) (v := (-1)) hx hb dX3_widen_16 (by decide) ?_
    obtain rfl := Option.some.inj hf
    exact hRet 17 ls s.heap [] (vp_nar_int _) dX3_widen_17 hP hS
  · have hf := iF c3 hf
    refine lv_aload_n (pc := 8) hx hb dX3_widen_8 rfl (lv_at hl 0 rfl) ?_
    refine lv_iload_n (pc := 9) hx hb dX3_widen_9 rfl (lv_at hl 2 rfl) ?_
    obtain ⟨v4, h5, hf⟩ := bd hf
    refine roVi (pc := 10) (As := [.int p1]) (rest := []) CF (mtX3_isField l D cI cZ cQ o ra rr k rc oL aL oT aT oN aN X R L T N p1 v4 h5) (cwV 1 hts gX3_widen_X3_isField rfl rfl rfl ⟨rfl, hdX3_isField⟩ ⟨Nat.le_of_ble_eq_true rfl, Nat.le_of_ble_eq_true rfl⟩) hK hP rfl rfl rfl rfl hl.1 rfl (Nat.le_of_ble_eq_true rfl) dX3_widen_10 ?_
    refine lv_if_ne (pc := 13) (tgt := 18) hx hb dX3_widen_13 (by decide) (fun c6 => ?_) (fun c6 => ?_)
    · have hf := iF c6 hf
      refine lv_aload_n (pc := 18) hx hb dX3_widen_18 rfl (lv_at hl 0 rfl) ?_
      refine va_get (pc := 19) (D := D) (ci := 3) (v := .ref oL) (C := RX3) (T := TX3) (N := 8) hx hb hts inX3_widen_X3 hown hK.1 hP 0 rfl rfl 1 (by decide) (hts (.fieldLink RX3 20 "HedgeHoles" "land" "LHedgeHoles$Land;") (by decide +kernel)) (fun _ h9 => h9) rfl dX3_widen_19 ?_
      refine lv_iload_n (pc := 22) hx hb dX3_widen_22 rfl (lv_at hl 2 rfl) ?_
      refine lv_aload_n (pc := 23) hx hb dX3_widen_23 rfl (lv_at hl 0 rfl) ?_
      refine va_get (pc := 24) (D := D) (ci := 3) (v := .ref oL) (C := RX3) (T := TX3) (N := 8) hx hb hts inX3_widen_X3 hown hK.1 hP 0 rfl rfl 1 (by decide) (hts (.fieldLink RX3 20 "HedgeHoles" "land" "LHedgeHoles$Land;") (by decide +kernel)) (fun _ h9 => h9) rfl dX3_widen_24 ?_
      refine lv_iload_n (pc := 27) hx hb dX3_widen_27 rfl (lv_at hl 1 rfl) ?_
      obtain ⟨v7, h8, hf⟩ := bd hf
      refine roVi (pc := 28) (As := [.int p0]) (rest := [.int p1, .ref oL]) CF (mtX0_thickOf l D cI cZ cQ oL aL L p0 v7 h8) (cwV 1 hts gX3_widen_X0_thickOf rfl rfl rfl ⟨rfl, hdX0_thickOf⟩ ⟨Nat.le_of_ble_eq_true rfl, Nat.le_of_ble_eq_true rfl⟩) hK (va_P_sub' hP [4, 5, 6, 7, 8, 9] rfl) rfl rfl rfl rfl hl.1 rfl (Nat.le_of_ble_eq_true rfl) dX3_widen_28 ?_
      refine lv_iconst (pc := 31) (v := 0) hx hb dX3_widen_31 (by decide) ?_
      refine lv_iconst (pc := 32) (v := 1) hx hb dX3_widen_32 (by decide) ?_
      obtain ⟨v9, h10, hf⟩ := bd hf
      refine wrVv (pc := 33) (As := [.int p1, .int v7, .int 0, .int 1]) (rest := []) (wB' := wX cI cZ cQ o ra rr k rc oL aL oT aT oN aN X R v9 T N) CF (mtX0_measureTo l D cI cZ cQ oL aL L p1 v7 0 1 s.heap.size v9 h10) (cwV 4 hts gX3_widen_X0_measureTo rfl rfl rfl ⟨rfl, hdX0_measureTo⟩ ⟨Nat.le_of_ble_eq_true rfl, Nat.le_of_ble_eq_true rfl⟩) hK hP hD hS hA [4, 5, 6, 7, 8, 9] rfl (by decide) rfl rfl rfl rfl rfl rfl rfl hl.1 rfl (Nat.le_of_ble_eq_true rfl) dX3_widen_33 (fun H locs hP hD hS => ?_)
      refine lv_aload_n (pc := 36) hx hb dX3_widen_36 rfl (lv_at hl 0 rfl) ?_
      refine va_get (pc := 37) (D := D) (ci := 3) (v := .ref oL) (C := RX3) (T := TX3) (N := 8) hx hb hts inX3_widen_X3 hown hK.1 hP 0 rfl rfl 1 (by decide) (hts (.fieldLink RX3 20 "HedgeHoles" "land" "LHedgeHoles$Land;") (by decide +kernel)) (fun _ h9 => h9) rfl dX3_widen_37 ?_
      refine va_get (pc := 40) (D := D) (ci := 0) (v := .ref (aL 7)) (C := RX0) (T := TX0) (N := 8) hx hb hts inX3_widen_X0 hown hK.1 hP 4 rfl rfl 7 (by decide) (hts (.fieldLink RX3 159 "HedgeHoles$Land" "distance" "[I") (by decide +kernel)) (fun _ h9 => h9) rfl dX3_widen_40 ?_
      refine lv_aload_n (pc := 43) hx hb dX3_widen_43 rfl (lv_at hl 0 rfl) ?_
      refine va_get (pc := 44) (D := D) (ci := 3) (v := .ref oL) (C := RX3) (T := TX3) (N := 8) hx hb hts inX3_widen_X3 hown hK.1 hP 0 rfl rfl 1 (by decide) (hts (.fieldLink RX3 20 "HedgeHoles" "land" "LHedgeHoles$Land;") (by decide +kernel)) (fun _ h9 => h9) rfl dX3_widen_44 ?_
      refine va_get (pc := 47) (D := D) (ci := 0) (v := .ref (aL 6)) (C := RX0) (T := TX0) (N := 8) hx hb hts inX3_widen_X0 hown hK.1 hP 4 rfl rfl 6 (by decide) (hts (.fieldLink RX3 93 "HedgeHoles$Land" "place" "[I") (by decide +kernel)) (fun _ h9 => h9) rfl dX3_widen_47 ?_
      refine lv_iload_n (pc := 50) hx hb dX3_widen_50 rfl (lv_at hl 1 rfl) ?_
      obtain ⟨h11, hf⟩ := gI_e hf
      refine va_iald (pc := 51) (f := v9 6) (n := 5) hx hb hK.1 hP 8 0 rfl rfl h11 dX3_widen_51 ?_
      obtain ⟨h12, hf⟩ := gI_e hf
      refine va_iald (pc := 52) (f := v9 7) (n := 5) hx hb hK.1 hP 9 0 rfl rfl h12 dX3_widen_52 ?_
      refine lv_istore_n (pc := 53) (lv' := [(3, .int (v9 7 (v9 6 p0.toNatClampNeg).toNatClampNeg)), (0, .ref o), (1, .int p0), (2, .int p1)]) hx hb dX3_widen_53 rfl hl (by decide) rfl (fun ls hl => ?_)
      refine lv_iload_n (pc := 54) hx hb dX3_widen_54 rfl (lv_at hl 0 rfl) ?_
      refine lv_sipush (pc := 55) (v := 1000) hx hb dX3_widen_55 (by decide) ?_
      refine lv_icmp_lt (pc := 58) (tgt := 66) hx hb dX3_widen_58 (by decide) (fun c13 => ?_) (fun c13 => ?_)
      · have hf := iT c13 hf
        refine lv_iload_n (pc := 66) hx hb dX3_widen_66 rfl (lv_at hl 0 rfl) ?_
        obtain rfl := Option.some.inj hf
        exact hRet 67 ls H locs (vp_nar_int _) dX3_widen_67 hP hS
      · have hf := iF c13 hf
        refine lv_bipush (pc := 61) (v := (-9)) hx hb dX3_widen_61 (by decide) ?_
        refine lv_goto (pc := 63) (tgt := 67) hx hb dX3_widen_63 (by decide) ?_
        obtain rfl := Option.some.inj hf
        exact hRet 67 ls H locs (vp_nar_int _) dX3_widen_67 hP hS
    · have hf := iT c6 hf
      refine lv_iconst (pc := 16) (v := (-1)) hx hb dX3_widen_16 (by decide) ?_
      obtain rfl := Option.some.inj hf
      exact hRet 17 ls s.heap [] (vp_nar_int _) dX3_widen_17 hP hS
theorem hdX3_widen : yX3_widen.cls ≠ "java/lang/invoke/MethodHandle" ∧ yX3_widen.cls ≠ "java/lang/invoke/VarHandle" ∧ (parseMethodDescriptor yX3_widen.desc).map (fun d => d.parameters.length) = some 2 := by decide +kernel
