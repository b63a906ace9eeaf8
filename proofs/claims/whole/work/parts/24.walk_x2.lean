abbrev rmX3_keep : Room := { frames := 5, cells := 0, slots := 0, locals := 118 }
theorem inX3_keep_X0 : ∀ w ∈ wsX00, w ∈ wsX3_keep := fun _ h => List.mem_cons_of_mem _ (List.mem_append_right _ h)
theorem inX3_keep_X3 : ∀ w ∈ wsX30, w ∈ wsX3_keep := fun _ h => List.mem_cons_of_mem _ (List.mem_append_left _ (List.mem_append_right _ h))
set_option maxHeartbeats 4000000 in
set_option maxRecDepth 100000 in
theorem mtX3_keep (l : Launch) (D : va_G) (cI cZ cQ : ClassId) (o ra : Nat) (rr : Nat → Nat) (k rc : Nat) (oL : Nat) (aL : Nat → Nat) (oT : Nat) (aT : Nat → Nat) (oN : Nat) (aN : Nat → Nat) (X R L T N : Bk) (p0 : Int32) (p1 : Int32) (out : Int32) (hf : fX3_keep L p0 p1 = some out) : Met l yX3_keep wsX3_keep rmX3_keep (RoP D cI cZ cQ [.ref o, .int p0, .int p1] (wX cI cZ cQ o ra rr k rc oL aL oT aT oN aN X R L T N)) (vp_Si (fun r' => r' = out)) 0 0 (fun _ => False) := by
  refine metRi (ty := .int) (cc := cX3_keep) (maxL := 3) (by decide) rfl (Nat.le_of_ble_eq_true rfl) ?_
  intro p e s m args below meth c Q CF hK hP hRet ls hl
  obtain ⟨hx, hb, hml, hown, hts⟩ := id CF
  have hl : lv_has ls 3 [(0, .ref o), (1, .int p0), (2, .int p1)] := hl
  unfold fX3_keep at hf
  refine lv_aload_n (pc := 0) hx hb dX3_keep_0 rfl (lv_at hl 0 rfl) ?_
  refine lv_iload_n (pc := 1) hx hb dX3_keep_1 rfl (lv_at hl 1 rfl) ?_
  obtain ⟨v1, h2, hf⟩ := bd hf
  refine roVi (pc := 2) (As := [.int p0]) (rest := []) CF (mtX3_isGoer l D cI cZ cQ o ra rr k rc oL aL oT aT oN aN X R L T N p0 v1 h2) (cwV 1 hts gX3_keep_X3_isGoer rfl rfl rfl ⟨rfl, hdX3_isGoer⟩ ⟨Nat.le_of_ble_eq_true rfl, Nat.le_of_ble_eq_true rfl⟩) hK hP rfl rfl rfl rfl hl.1 rfl (Nat.le_of_ble_eq_true rfl) dX3_keep_2 ?_
  refine lv_if_eq (pc := 5) (tgt := 16) hx hb dX3_keep_5 (by decide) (fun c3 => ?_) (fun c3 => ?_)
  · have hf := iT c3 hf
    refine lv_iconst (pc := 16) (v := (-1)) hx hb dX3_keep_16 (by decide) ?_
    obtain rfl := Option.some.inj hf
    exact hRet 17 ls (vp_nar_int _) dX3_keep_17
  · have hf := iF c3 hf
    refine lv_aload_n (pc := 8) hx hb dX3_keep_8 rfl (lv_at hl 0 rfl) ?_
    refine lv_iload_n (pc := 9) hx hb dX3_keep_9 rfl (lv_at hl 2 rfl) ?_
    obtain ⟨v4, h5, hf⟩ := bd hf
    refine roVi (pc := 10) (As := [.int p1]) (rest := []) CF (mtX3_isField l D cI cZ cQ o ra rr k rc oL aL oT aT oN aN X R L T N p1 v4 h5) (cwV 1 hts gX3_keep_X3_isField rfl rfl rfl ⟨rfl, hdX3_isField⟩ ⟨Nat.le_of_ble_eq_true rfl, Nat.le_of_ble_eq_true rfl⟩) hK hP rfl rfl rfl rfl hl.1 rfl (Nat.le_of_ble_eq_true rfl) dX3_keep_10 ?_
    refine lv_if_ne (pc := 13) (tgt := 18) hx hb dX3_keep_13 (by decide) (fun c6 => ?_) (fun c6 => ?_)
    · have hf := iF c6 hf
      refine lv_aload_n (pc := 18) hx hb dX3_keep_18 rfl (lv_at hl 0 rfl) ?_
      refine va_get (pc := 19) (D := D) (ci := 3) (v := .ref oL) (C := RX3) (T := TX3) (N := 8) hx hb hts inX3_keep_X3 hown hK.1 hP 0 rfl rfl 1 (by decide) (hts (.fieldLink RX3 20 "HedgeHoles" "land" "LHedgeHoles$Land;") (by decide +kernel)) (fun _ h9 => h9) rfl dX3_keep_19 ?_
      refine va_get (pc := 22) (D := D) (ci := 0) (v := .ref (aL 6)) (C := RX0) (T := TX0) (N := 8) hx hb hts inX3_keep_X0 hown hK.1 hP 4 rfl rfl 6 (by decide) (hts (.fieldLink RX3 93 "HedgeHoles$Land" "place" "[I") (by decide +kernel)) (fun _ h9 => h9) rfl dX3_keep_22 ?_
      refine lv_iload_n (pc := 25) hx hb dX3_keep_25 rfl (lv_at hl 1 rfl) ?_
      obtain ⟨h7, hf⟩ := gI_e hf
      refine va_iald (pc := 26) (f := L 6) (n := 5) hx hb hK.1 hP 8 0 rfl rfl h7 dX3_keep_26 ?_
      refine lv_iload_n (pc := 27) hx hb dX3_keep_27 rfl (lv_at hl 2 rfl) ?_
      refine lv_icmp_ne (pc := 28) (tgt := 36) hx hb dX3_keep_28 (by decide) (fun c8 => ?_) (fun c8 => ?_)
      · have hf := iF c8 hf
        refine lv_aload_n (pc := 36) hx hb dX3_keep_36 rfl (lv_at hl 0 rfl) ?_
        refine va_get (pc := 37) (D := D) (ci := 3) (v := .ref oL) (C := RX3) (T := TX3) (N := 8) hx hb hts inX3_keep_X3 hown hK.1 hP 0 rfl rfl 1 (by decide) (hts (.fieldLink RX3 20 "HedgeHoles" "land" "LHedgeHoles$Land;") (by decide +kernel)) (fun _ h9 => h9) rfl dX3_keep_37 ?_
        refine lv_iload_n (pc := 40) hx hb dX3_keep_40 rfl (lv_at hl 1 rfl) ?_
        refine lv_iload_n (pc := 41) hx hb dX3_keep_41 rfl (lv_at hl 2 rfl) ?_
        obtain ⟨v9, h10, hf⟩ := bd hf
        refine roVi (pc := 42) (As := [.int p0, .int p1]) (rest := []) CF (mtX0_fewestToShut l D cI cZ cQ oL aL L p0 p1 v9 h10) (cwV 2 hts gX3_keep_X0_fewestToShut rfl rfl rfl ⟨rfl, hdX0_fewestToShut⟩ ⟨Nat.le_of_ble_eq_true rfl, Nat.le_of_ble_eq_true rfl⟩) hK (va_P_sub' hP [4, 5, 6, 7, 8, 9] rfl) rfl rfl rfl rfl hl.1 rfl (Nat.le_of_ble_eq_true rfl) dX3_keep_42 ?_
        obtain rfl := Option.some.inj hf
        exact hRet 45 ls (vp_nar_int _) dX3_keep_45
      · have hf := iT c8 hf
        refine lv_bipush (pc := 31) (v := (-9)) hx hb dX3_keep_31 (by decide) ?_
        refine lv_goto (pc := 33) (tgt := 45) hx hb dX3_keep_33 (by decide) ?_
        obtain rfl := Option.some.inj hf
        exact hRet 45 ls (vp_nar_int _) dX3_keep_45
    · have hf := iT c6 hf
      refine lv_iconst (pc := 16) (v := (-1)) hx hb dX3_keep_16 (by decide) ?_
      obtain rfl := Option.some.inj hf
      exact hRet 17 ls (vp_nar_int _) dX3_keep_17
theorem hdX3_keep : yX3_keep.cls ≠ "java/lang/invoke/MethodHandle" ∧ yX3_keep.cls ≠ "java/lang/invoke/VarHandle" ∧ (parseMethodDescriptor yX3_keep.desc).map (fun d => d.parameters.length) = some 2 := by decide +kernel
abbrev rmX3_reading : Room := { frames := 2, cells := 0, slots := 0, locals := 45 }
theorem inX3_reading_X1 : ∀ w ∈ wsX10, w ∈ wsX3_reading := fun _ h => List.mem_cons_of_mem _ (List.mem_append_left _ (List.mem_append_right _ h))
theorem inX3_reading_X3 : ∀ w ∈ wsX30, w ∈ wsX3_reading := fun _ h => List.mem_cons_of_mem _ (List.mem_append_left _ (List.mem_append_left _ (List.mem_append_right _ h)))
set_option maxHeartbeats 4000000 in
set_option maxRecDepth 100000 in
theorem mtX3_reading (l : Launch) (D : va_G) (cI cZ cQ : ClassId) (o ra : Nat) (rr : Nat → Nat) (k rc : Nat) (oL : Nat) (aL : Nat → Nat) (oT : Nat) (aT : Nat → Nat) (oN : Nat) (aN : Nat → Nat) (X R L T N : Bk) (p0 : Int32) (p1 : Int32) (p2 : Int32) (p3 : Int32) (sz : Nat) (out : (Int32 × Bk)) (hf : fX3_reading L N p0 p1 p2 p3 = some out) : Met l yX3_reading wsX3_reading rmX3_reading (WrP D cI cZ cQ [.ref o, .int p0, .int p1, .int p2, .int p3] (wX cI cZ cQ o ra rr k rc oL aL oT aT oN aN X R L T N) sz) (WrQi D out.1 (wX cI cZ cQ o ra rr k rc oL aL oT aT oN aN X R L T N) (wX cI cZ cQ o ra rr k rc oL aL oT aT oN aN X R L T out.2) sz) 0 0 (va_A (wX cI cZ cQ o ra rr k rc oL aL oT aT oN aN X R L T N) sz) := by
  refine metWi (ty := .int) (cc := cX3_reading) (maxL := 5) (by decide) rfl (Nat.le_of_ble_eq_true rfl) ?_
  intro p e s m args below meth c Q A CF hK hP hD hA hRet ls hl
  obtain ⟨hx, hb, hml, hown, hts⟩ := id CF
  have hS : va_S A s.heap s.heap [] := va_S.rf
  have hl : lv_has ls 5 [(0, .ref o), (1, .int p0), (2, .int p1), (3, .int p2), (4, .int p3)] := hl
  unfold fX3_reading at hf
  refine lv_aload_n (pc := 0) hx hb dX3_reading_0 rfl (lv_at hl 0 rfl) ?_
  refine lv_iload_n (pc := 1) hx hb dX3_reading_1 rfl (lv_at hl 1 rfl) ?_
  obtain ⟨v1, h2, hf⟩ := bd hf
  refine roVi (pc := 2) (As := [.int p0]) (rest := []) CF (mtX3_isGoer l D cI cZ cQ o ra rr k rc oL aL oT aT oN aN X R L T N p0 v1 h2) (cwV 1 hts gX3_reading_X3_isGoer rfl rfl rfl ⟨rfl, hdX3_isGoer⟩ ⟨Nat.le_of_ble_eq_true rfl, Nat.le_of_ble_eq_true rfl⟩) hK hP rfl rfl rfl rfl hl.1 rfl (Nat.le_of_ble_eq_true rfl) dX3_reading_2 ?_
  refine lv_if_eq (pc := 5) (tgt := 17) hx hb dX3_reading_5 (by decide) (fun c3 => ?_) (fun c3 => ?_)
  · have hf := iT c3 hf
    refine lv_iconst (pc := 17) (v := (-1)) hx hb dX3_reading_17 (by decide) ?_
    obtain rfl := Option.some.inj hf
    exact hRet 18 ls s.heap [] (vp_nar_int _) dX3_reading_18 hP hS
  · have hf := iF c3 hf
    refine lv_aload_n (pc := 8) hx hb dX3_reading_8 rfl (lv_at hl 0 rfl) ?_
    refine lv_iload_n (pc := 9) hx hb dX3_reading_9 rfl (lv_at hl 2 rfl) ?_
    refine lv_iload_n (pc := 10) hx hb dX3_reading_10 rfl (lv_at hl 3 rfl) ?_
    obtain ⟨v4, h5, hf⟩ := bd hf
    refine roVi (pc := 11) (As := [.int p1, .int p2]) (rest := []) CF (mtX3_areTwoFields l D cI cZ cQ o ra rr k rc oL aL oT aT oN aN X R L T N p1 p2 v4 h5) (cwV 2 hts gX3_reading_X3_areTwoFields rfl rfl rfl ⟨rfl, hdX3_areTwoFields⟩ ⟨Nat.le_of_ble_eq_true rfl, Nat.le_of_ble_eq_true rfl⟩) hK hP rfl rfl rfl rfl hl.1 rfl (Nat.le_of_ble_eq_true rfl) dX3_reading_11 ?_
    refine lv_if_ne (pc := 14) (tgt := 19) hx hb dX3_reading_14 (by decide) (fun c6 => ?_) (fun c6 => ?_)
    · have hf := iF c6 hf
      refine lv_iload (pc := 19) hx hb dX3_reading_19 (lv_at hl 4 rfl) ?_
      refine lv_if_lt (pc := 21) (tgt := 30) hx hb dX3_reading_21 (by decide) (fun c7 => ?_) (fun c7 => ?_)
      · have hf := iT c7 hf
        refine lv_bipush (pc := 30) (v := (-2)) hx hb dX3_reading_30 (by decide) ?_
        obtain rfl := Option.some.inj hf
        exact hRet 32 ls s.heap [] (vp_nar_int _) dX3_reading_32 hP hS
      · have hf := iF c7 hf
        refine lv_iload (pc := 24) hx hb dX3_reading_24 (lv_at hl 4 rfl) ?_
        refine lv_iconst (pc := 26) (v := 1) hx hb dX3_reading_26 (by decide) ?_
        refine lv_icmp_le (pc := 27) (tgt := 33) hx hb dX3_reading_27 (by decide) (fun c8 => ?_) (fun c8 => ?_)
        · have hf := iT c8 hf
          refine lv_aload_n (pc := 33) hx hb dX3_reading_33 rfl (lv_at hl 0 rfl) ?_
          refine va_get (pc := 34) (D := D) (ci := 3) (v := .ref oN) (C := RX3) (T := TX3) (N := 8) hx hb hts inX3_reading_X3 hown hK.1 hP 0 rfl rfl 3 (by decide) (hts (.fieldLink RX3 30 "HedgeHoles" "notebook" "LHedgeHoles$Notebook;") (by decide +kernel)) (fun _ h9 => h9) rfl dX3_reading_34 ?_
          refine va_get (pc := 37) (D := D) (ci := 1) (v := .int (N 3 0)) (C := RX1) (T := TX1) (N := 4) hx hb hts inX3_reading_X1 hown hK.1 hP 16 rfl rfl 3 (by decide) (hts (.fieldLink RX3 74 "HedgeHoles$Notebook" "count" "I") (by decide +kernel)) (fun _ h9 => h9) rfl dX3_reading_37 ?_
          refine lv_bipush (pc := 40) (v := 8) hx hb dX3_reading_40 (by decide) ?_
          refine lv_icmp_lt (pc := 42) (tgt := 48) hx hb dX3_reading_42 (by decide) (fun c9 => ?_) (fun c9 => ?_)
          · have hf := iT c9 hf
            refine lv_aload_n (pc := 48) hx hb dX3_reading_48 rfl (lv_at hl 0 rfl) ?_
            refine va_get (pc := 49) (D := D) (ci := 3) (v := .ref oN) (C := RX3) (T := TX3) (N := 8) hx hb hts inX3_reading_X3 hown hK.1 hP 0 rfl rfl 3 (by decide) (hts (.fieldLink RX3 30 "HedgeHoles" "notebook" "LHedgeHoles$Notebook;") (by decide +kernel)) (fun _ h9 => h9) rfl dX3_reading_49 ?_
            refine lv_iload_n (pc := 52) hx hb dX3_reading_52 rfl (lv_at hl 1 rfl) ?_
            refine lv_aload_n (pc := 53) hx hb dX3_reading_53 rfl (lv_at hl 0 rfl) ?_
            refine va_get (pc := 54) (D := D) (ci := 3) (v := .ref oL) (C := RX3) (T := TX3) (N := 8) hx hb hts inX3_reading_X3 hown hK.1 hP 0 rfl rfl 1 (by decide) (hts (.fieldLink RX3 20 "HedgeHoles" "land" "LHedgeHoles$Land;") (by decide +kernel)) (fun _ h9 => h9) rfl dX3_reading_54 ?_
            refine lv_iload_n (pc := 57) hx hb dX3_reading_57 rfl (lv_at hl 2 rfl) ?_
            refine lv_iload_n (pc := 58) hx hb dX3_reading_58 rfl (lv_at hl 3 rfl) ?_
            obtain ⟨v10, h11, hf⟩ := bd hf
            refine roVi (pc := 59) (As := [.int p1, .int p2]) (rest := [.int p0, .ref oN]) CF (mtX0_hedgeOf l D cI cZ cQ oL aL L p1 p2 v10 h11) (cwV 2 hts gX3_reading_X0_hedgeOf rfl rfl rfl ⟨rfl, hdX0_hedgeOf⟩ ⟨Nat.le_of_ble_eq_true rfl, Nat.le_of_ble_eq_true rfl⟩) hK (va_P_sub' hP [4, 5, 6, 7, 8, 9] rfl) rfl rfl rfl rfl hl.1 rfl (Nat.le_of_ble_eq_true rfl) dX3_reading_59 ?_
            refine lv_iload (pc := 62) hx hb dX3_reading_62 (lv_at hl 4 rfl) ?_
            refine lv_iconst (pc := 64) (v := 1) hx hb dX3_reading_64 (by decide) ?_
            obtain ⟨v12, hv, hf⟩ := bd hf
            have J13 : ∀ (ls : Array Slot), lv_has ls 5 [(0, .ref o), (1, .int p0), (2, .int p1), (3, .int p2), (4, .int p3)] → W p l e rmX3_reading s m args below meth c s.heap [] 0 0 Q (F0 m 73 ls [.int v12, .int v10, .int p0, .ref oN]) := by
              intro ls hl
              obtain ⟨v14, h15, hf⟩ := bd hf
              refine wrVv (pc := 73) (As := [.int p0, .int v10, .int v12]) (rest := []) (wB' := wX cI cZ cQ o ra rr k rc oL aL oT aT oN aN X R L T v14) CF (mtX1_write l D cI cZ cQ oN aN N p0 v10 v12 s.heap.size v14 h15) (cwV 3 hts gX3_reading_X1_write rfl rfl rfl ⟨rfl, hdX1_write⟩ ⟨Nat.le_of_ble_eq_true rfl, Nat.le_of_ble_eq_true rfl⟩) hK hP hD hS hA [16, 17, 18, 19] rfl (by decide) rfl rfl rfl rfl rfl rfl rfl hl.1 rfl (Nat.le_of_ble_eq_true rfl) dX3_reading_73 (fun H locs hP hD hS => ?_)
              refine lv_aload_n (pc := 76) hx hb dX3_reading_76 rfl (lv_at hl 0 rfl) ?_
              refine va_get (pc := 77) (D := D) (ci := 3) (v := .ref oN) (C := RX3) (T := TX3) (N := 8) hx hb hts inX3_reading_X3 hown hK.1 hP 0 rfl rfl 3 (by decide) (hts (.fieldLink RX3 30 "HedgeHoles" "notebook" "LHedgeHoles$Notebook;") (by decide +kernel)) (fun _ h9 => h9) rfl dX3_reading_77 ?_
              refine va_get (pc := 80) (D := D) (ci := 1) (v := .int (v14 3 0)) (C := RX1) (T := TX1) (N := 4) hx hb hts inX3_reading_X1 hown hK.1 hP 16 rfl rfl 3 (by decide) (hts (.fieldLink RX3 74 "HedgeHoles$Notebook" "count" "I") (by decide +kernel)) (fun _ h9 => h9) rfl dX3_reading_80 ?_
              refine lv_iconst (pc := 83) (v := 1) hx hb dX3_reading_83 (by decide) ?_
              refine lv_isub (pc := 84) hx hb dX3_reading_84 ?_
              obtain rfl := Option.some.inj hf
              exact hRet 85 ls H locs (vp_nar_int _) dX3_reading_85 hP hS
            clear hf
            have hf := hv
            clear hv
            refine lv_icmp_ne (pc := 65) (tgt := 72) hx hb dX3_reading_65 (by decide) (fun c16 => ?_) (fun c16 => ?_)
            · have hf := iF c16 hf
              refine lv_iconst (pc := 72) (v := 0) hx hb dX3_reading_72 (by decide) ?_
              obtain rfl := Option.some.inj hf
              exact J13 ls (lv_sub hl [0, 1, 2, 3, 4] rfl)
            · have hf := iT c16 hf
              refine lv_iconst (pc := 68) (v := 1) hx hb dX3_reading_68 (by decide) ?_
              refine lv_goto (pc := 69) (tgt := 73) hx hb dX3_reading_69 (by decide) ?_
              obtain rfl := Option.some.inj hf
              exact J13 ls (lv_sub hl [0, 1, 2, 3, 4] rfl)
          · have hf := iF c9 hf
            refine lv_bipush (pc := 45) (v := (-4)) hx hb dX3_reading_45 (by decide) ?_
            obtain rfl := Option.some.inj hf
            exact hRet 47 ls s.heap [] (vp_nar_int _) dX3_reading_47 hP hS
        · have hf := iF c8 hf
          refine lv_bipush (pc := 30) (v := (-2)) hx hb dX3_reading_30 (by decide) ?_
          obtain rfl := Option.some.inj hf
          exact hRet 32 ls s.heap [] (vp_nar_int _) dX3_reading_32 hP hS
    · have hf := iT c6 hf
      refine lv_iconst (pc := 17) (v := (-1)) hx hb dX3_reading_17 (by decide) ?_
      obtain rfl := Option.some.inj hf
      exact hRet 18 ls s.heap [] (vp_nar_int _) dX3_reading_18 hP hS
theorem hdX3_reading : yX3_reading.cls ≠ "java/lang/invoke/MethodHandle" ∧ yX3_reading.cls ≠ "java/lang/invoke/VarHandle" ∧ (parseMethodDescriptor yX3_reading.desc).map (fun d => d.parameters.length) = some 4 := by decide +kernel
abbrev rmX3_back : Room := { frames := 0, cells := 0, slots := 0, locals := 0 }
theorem inX3_back_X1 : ∀ w ∈ wsX10, w ∈ wsX3_back := fun _ h => List.mem_cons_of_mem _ (List.mem_append_right _ h)
theorem inX3_back_X3 : ∀ w ∈ wsX30, w ∈ wsX3_back := fun _ h => List.mem_cons_of_mem _ (List.mem_append_left _ (List.mem_append_right _ h))
set_option maxHeartbeats 4000000 in
set_option maxRecDepth 100000 in
theorem mtX3_back (l : Launch) (D : va_G) (cI cZ cQ : ClassId) (o ra : Nat) (rr : Nat → Nat) (k rc : Nat) (oL : Nat) (aL : Nat → Nat) (oT : Nat) (aT : Nat → Nat) (oN : Nat) (aN : Nat → Nat) (X R L T N : Bk) (p0 : Int32) (sz : Nat) (out : (Int32 × Bk)) (hf : fX3_back N p0 = some out) : Met l yX3_back wsX3_back rmX3_back (WrP D cI cZ cQ [.ref o, .int p0] (wX cI cZ cQ o ra rr k rc oL aL oT aT oN aN X R L T N) sz) (WrQi D out.1 (wX cI cZ cQ o ra rr k rc oL aL oT aT oN aN X R L T N) (wX cI cZ cQ o ra rr k rc oL aL oT aT oN aN X R L T out.2) sz) 0 0 (va_A (wX cI cZ cQ o ra rr k rc oL aL oT aT oN aN X R L T N) sz) := by
  refine metWi (ty := .int) (cc := cX3_back) (maxL := 2) (by decide) rfl (Nat.le_of_ble_eq_true rfl) ?_
  intro p e s m args below meth c Q A CF hK hP hD hA hRet ls hl
  obtain ⟨hx, hb, hml, hown, hts⟩ := id CF
  have hS : va_S A s.heap s.heap [] := va_S.rf
  have hl : lv_has ls 2 [(0, .ref o), (1, .int p0)] := hl
  unfold fX3_back at hf
  refine lv_iload_n (pc := 0) hx hb dX3_back_0 rfl (lv_at hl 1 rfl) ?_
  refine lv_if_lt (pc := 1) (tgt := 15) hx hb dX3_back_1 (by decide) (fun c1 => ?_) (fun c1 => ?_)
  · have hf := iT c1 hf
    refine lv_bipush (pc := 15) (v := (-2)) hx hb dX3_back_15 (by decide) ?_
    obtain rfl := Option.some.inj hf
    exact hRet 17 ls s.heap [] (vp_nar_int _) dX3_back_17 hP hS
  · have hf := iF c1 hf
    refine lv_iload_n (pc := 4) hx hb dX3_back_4 rfl (lv_at hl 1 rfl) ?_
    refine lv_aload_n (pc := 5) hx hb dX3_back_5 rfl (lv_at hl 0 rfl) ?_
    refine va_get (pc := 6) (D := D) (ci := 3) (v := .ref oN) (C := RX3) (T := TX3) (N := 8) hx hb hts inX3_back_X3 hown hK.1 hP 0 rfl rfl 3 (by decide) (hts (.fieldLink RX3 30 "HedgeHoles" "notebook" "LHedgeHoles$Notebook;") (by decide +kernel)) (fun _ h9 => h9) rfl dX3_back_6 ?_
    refine va_get (pc := 9) (D := D) (ci := 1) (v := .int (N 3 0)) (C := RX1) (T := TX1) (N := 4) hx hb hts inX3_back_X1 hown hK.1 hP 16 rfl rfl 3 (by decide) (hts (.fieldLink RX3 74 "HedgeHoles$Notebook" "count" "I") (by decide +kernel)) (fun _ h9 => h9) rfl dX3_back_9 ?_
    refine lv_icmp_le (pc := 12) (tgt := 18) hx hb dX3_back_12 (by decide) (fun c2 => ?_) (fun c2 => ?_)
    · have hf := iT c2 hf
      refine lv_aload_n (pc := 18) hx hb dX3_back_18 rfl (lv_at hl 0 rfl) ?_
      refine va_get (pc := 19) (D := D) (ci := 3) (v := .ref oN) (C := RX3) (T := TX3) (N := 8) hx hb hts inX3_back_X3 hown hK.1 hP 0 rfl rfl 3 (by decide) (hts (.fieldLink RX3 30 "HedgeHoles" "notebook" "LHedgeHoles$Notebook;") (by decide +kernel)) (fun _ h9 => h9) rfl dX3_back_19 ?_
      refine lv_dup (pc := 22) hx hb dX3_back_22 rfl ?_
      refine va_get (pc := 23) (D := D) (ci := 1) (v := .int (N 3 0)) (C := RX1) (T := TX1) (N := 4) hx hb hts inX3_back_X1 hown hK.1 hP 16 rfl rfl 3 (by decide) (hts (.fieldLink RX3 74 "HedgeHoles$Notebook" "count" "I") (by decide +kernel)) (fun _ h9 => h9) rfl dX3_back_23 ?_
      refine lv_iload_n (pc := 26) hx hb dX3_back_26 rfl (lv_at hl 1 rfl) ?_
      refine lv_isub (pc := 27) hx hb dX3_back_27 ?_
      refine va_put (pc := 28) (D := D) (ci := 1) (v := .int ((N 3 0) - p0)) (ty := .int) (C := RX1) (T := TX1) (N := 4) hx hb hts inX3_back_X1 tyX1 tyX1_ok nmX1 hown hK.1 hP hD hS 16 rfl rfl 3 (by decide) (hts (.fieldLink RX3 74 "HedgeHoles$Notebook" "count" "I") (by decide +kernel)) (fun _ h9 => h9) rfl (by decide +kernel) (vp_nar_int _) rfl (Nat.le_of_ble_eq_true rfl) dX3_back_28 (fun H locs hP hD hS => ?_)
      have hP : va_P D vwCl (wX cI cZ cQ o ra rr k rc oL aL oT aT oN aN X R L T (sB N 3 0 ((N 3 0) - p0))) H := hP
      have hD : va_D A (wX cI cZ cQ o ra rr k rc oL aL oT aT oN aN X R L T (sB N 3 0 ((N 3 0) - p0))) := hD
      obtain ⟨N_3, h4, hf⟩ := bd hf
      have h4 := Option.some.inj h4
      rw [h4] at hP hD
      refine lv_aload_n (pc := 31) hx hb dX3_back_31 rfl (lv_at hl 0 rfl) ?_
      refine va_get (pc := 32) (D := D) (ci := 3) (v := .ref oN) (C := RX3) (T := TX3) (N := 8) hx hb hts inX3_back_X3 hown hK.1 hP 0 rfl rfl 3 (by decide) (hts (.fieldLink RX3 30 "HedgeHoles" "notebook" "LHedgeHoles$Notebook;") (by decide +kernel)) (fun _ h9 => h9) rfl dX3_back_32 ?_
      refine va_get (pc := 35) (D := D) (ci := 1) (v := .int (N_3 3 0)) (C := RX1) (T := TX1) (N := 4) hx hb hts inX3_back_X1 hown hK.1 hP 16 rfl rfl 3 (by decide) (hts (.fieldLink RX3 74 "HedgeHoles$Notebook" "count" "I") (by decide +kernel)) (fun _ h9 => h9) rfl dX3_back_35 ?_
      obtain rfl := Option.some.inj hf
      exact hRet 38 ls H locs (vp_nar_int _) dX3_back_38 hP hS
    · have hf := iF c2 hf
      refine lv_bipush (pc := 15) (v := (-2)) hx hb dX3_back_15 (by decide) ?_
      obtain rfl := Option.some.inj hf
      exact hRet 17 ls s.heap [] (vp_nar_int _) dX3_back_17 hP hS
theorem hdX3_back : yX3_back.cls ≠ "java/lang/invoke/MethodHandle" ∧ yX3_back.cls ≠ "java/lang/invoke/VarHandle" ∧ (parseMethodDescriptor yX3_back.desc).map (fun d => d.parameters.length) = some 1 := by decide +kernel
abbrev rmX3_girths : Room := { frames := 3, cells := 0, slots := 0, locals := 64 }
theorem inX3_girths_X0 : ∀ w ∈ wsX00, w ∈ wsX3_girths := fun _ h => List.mem_cons_of_mem _ (List.mem_append_left _ (List.mem_append_right _ h))
theorem inX3_girths_X3 : ∀ w ∈ wsX30, w ∈ wsX3_girths := fun _ h => List.mem_cons_of_mem _ (List.mem_append_left _ (List.mem_append_left _ (List.mem_append_right _ h)))
set_option maxHeartbeats 4000000 in
set_option maxRecDepth 100000 in
theorem mtX3_girths (l : Launch) (D : va_G) (cI cZ cQ : ClassId) (o ra : Nat) (rr : Nat → Nat) (k rc : Nat) (oL : Nat) (aL : Nat → Nat) (oT : Nat) (aT : Nat → Nat) (oN : Nat) (aN : Nat → Nat) (X R L T N : Bk) (p0 : Int32) (sz : Nat) (out : (Int32 × Bk)) (hf : fX3_girths L T N p0 = some out) : Met l yX3_girths wsX3_girths rmX3_girths (WrP D cI cZ cQ [.ref o, .int p0] (wX cI cZ cQ o ra rr k rc oL aL oT aT oN aN X R L T N) sz) (WrQi D out.1 (wX cI cZ cQ o ra rr k rc oL aL oT aT oN aN X R L T N) (wX cI cZ cQ o ra rr k rc oL aL oT aT oN aN X R L out.2 N) sz) 0 0 (va_A (wX cI cZ cQ o ra rr k rc oL aL oT aT oN aN X R L T N) sz) := by
  refine metWi (ty := .int) (cc := cX3_girths) (maxL := 4) (by decide) rfl (Nat.le_of_ble_eq_true rfl) ?_
  intro p e s m args below meth c Q A CF hK hP hD hA hRet ls hl
  obtain ⟨hx, hb, hml, hown, hts⟩ := id CF
  have hS : va_S A s.heap s.heap [] := va_S.rf
  have hl : lv_has ls 4 [(0, .ref o), (1, .int p0)] := hl
  unfold fX3_girths at hf
  refine lv_aload_n (pc := 0) hx hb dX3_girths_0 rfl (lv_at hl 0 rfl) ?_
  refine lv_iload_n (pc := 1) hx hb dX3_girths_1 rfl (lv_at hl 1 rfl) ?_
  obtain ⟨v1, h2, hf⟩ := bd hf
  refine roVi (pc := 2) (As := [.int p0]) (rest := []) CF (mtX3_isGoer l D cI cZ cQ o ra rr k rc oL aL oT aT oN aN X R L T N p0 v1 h2) (cwV 1 hts gX3_girths_X3_isGoer rfl rfl rfl ⟨rfl, hdX3_isGoer⟩ ⟨Nat.le_of_ble_eq_true rfl, Nat.le_of_ble_eq_true rfl⟩) hK hP rfl rfl rfl rfl hl.1 rfl (Nat.le_of_ble_eq_true rfl) dX3_girths_2 ?_
  refine lv_if_ne (pc := 5) (tgt := 10) hx hb dX3_girths_5 (by decide) (fun c3 => ?_) (fun c3 => ?_)
  · have hf := iF c3 hf
    refine lv_aload_n (pc := 10) hx hb dX3_girths_10 rfl (lv_at hl 0 rfl) ?_
    refine va_get (pc := 11) (D := D) (ci := 3) (v := .ref oT) (C := RX3) (T := TX3) (N := 8) hx hb hts inX3_girths_X3 hown hK.1 hP 0 rfl rfl 2 (by decide) (hts (.fieldLink RX3 24 "HedgeHoles" "trial" "LHedgeHoles$Land;") (by decide +kernel)) (fun _ h9 => h9) rfl dX3_girths_11 ?_
    refine lv_aload_n (pc := 14) hx hb dX3_girths_14 rfl (lv_at hl 0 rfl) ?_
    refine va_get (pc := 15) (D := D) (ci := 3) (v := .ref oL) (C := RX3) (T := TX3) (N := 8) hx hb hts inX3_girths_X3 hown hK.1 hP 0 rfl rfl 1 (by decide) (hts (.fieldLink RX3 20 "HedgeHoles" "land" "LHedgeHoles$Land;") (by decide +kernel)) (fun _ h9 => h9) rfl dX3_girths_15 ?_
    obtain ⟨v4, h5, hf⟩ := bd hf
    refine wrVv (pc := 18) (As := [.ref oL]) (rest := []) (wB' := wX cI cZ cQ o ra rr k rc oL aL oT aT oN aN X R L v4 N) CF (mtX0_become l D cI cZ cQ oT aT T oL aL L s.heap.size v4 h5) (cwV 1 hts gX3_girths_X0_become rfl rfl rfl ⟨rfl, hdX0_become⟩ ⟨Nat.le_of_ble_eq_true rfl, Nat.le_of_ble_eq_true rfl⟩) hK hP hD hS hA [10, 11, 12, 13, 14, 15, 4, 5, 6, 7, 8, 9] rfl (by decide) rfl rfl rfl rfl rfl rfl rfl hl.1 rfl (Nat.le_of_ble_eq_true rfl) dX3_girths_18 (fun H locs hP hD hS => ?_)
    refine lv_iconst (pc := 21) (v := 0) hx hb dX3_girths_21 (by decide) ?_
    refine lv_istore_n (pc := 22) (lv' := [(2, .int 0), (0, .ref o), (1, .int p0)]) hx hb dX3_girths_22 rfl hl (by decide) rfl (fun ls hl => ?_)
    refine lv_iconst (pc := 23) (v := 1) hx hb dX3_girths_23 (by decide) ?_
    refine lv_istore_n (pc := 24) (lv' := [(3, .int 1), (2, .int 0), (0, .ref o), (1, .int p0)]) hx hb dX3_girths_24 rfl hl (by decide) rfl (fun ls hl => ?_)
    refine zl3 (G := FX3_girths_25 p0 N) (fun x2_6 x3_7 T_8 => ∀ (ls : Array Slot) (H : Heap) (locs : List Loc), lv_has ls 4 [(0, .ref o), (1, .int p0), (2, .int x2_6), (3, .int x3_7)] → va_P D vwCl (wX cI cZ cQ o ra rr k rc oL aL oT aT oN aN X R L T_8 N) H → va_D A (wX cI cZ cQ o ra rr k rc oL aL oT aT oN aN X R L T_8 N) → va_S A s.heap H locs → W p l e rmX3_girths s m args below meth c H locs 0 0 Q (F0 m 25 ls [])) (fun x2_9 x3_10 T_11 => ∀ (ls : Array Slot) (H : Heap) (locs : List Loc), lv_has ls 4 [(0, .ref o), (1, .int p0), (2, .int x2_9), (3, .int x3_10)] → va_P D vwCl (wX cI cZ cQ o ra rr k rc oL aL oT aT oN aN X R L T_11 N) H → va_D A (wX cI cZ cQ o ra rr k rc oL aL oT aT oN aN X R L T_11 N) → va_S A s.heap H locs → W p l e rmX3_girths s m args below meth c H locs 0 0 Q (F0 m 71 ls [])) hf (fun x2_9 x3_10 T_11 hf => ?_) (fun kx slf hkx hslf x2_6 x3_7 T_8 hf => ?_) ls H locs (lv_sub hl [2, 3, 1, 0] rfl) hP hD hS
    · intro ls H locs hl hP hD hS
      refine lv_iload_n (pc := 71) hx hb dX3_girths_71 rfl (lv_at hl 2 rfl) ?_
      obtain rfl := Option.some.inj hf
      exact hRet 72 ls H locs (vp_nar_int _) dX3_girths_72 hP hS
    · unfold FX3_girths_25 at hf
      intro ls H locs hl hP hD hS
      refine lv_iload_n (pc := 25) hx hb dX3_girths_25 rfl (lv_at hl 3 rfl) ?_
      refine lv_bipush (pc := 26) (v := 9) hx hb dX3_girths_26 (by decide) ?_
      refine lv_icmp_gt (pc := 28) (tgt := 71) hx hb dX3_girths_28 (by decide) (fun c12 => ?_) (fun c12 => ?_)
      · have hf := iT c12 hf
        exact hkx _ _ _ hf ls H locs (lv_sub hl [0, 1, 2, 3] rfl) hP hD hS
      · have hf := iF c12 hf
        refine lv_aload_n (pc := 31) hx hb dX3_girths_31 rfl (lv_at hl 0 rfl) ?_
        refine va_get (pc := 32) (D := D) (ci := 3) (v := .ref oT) (C := RX3) (T := TX3) (N := 8) hx hb hts inX3_girths_X3 hown hK.1 hP 0 rfl rfl 2 (by decide) (hts (.fieldLink RX3 24 "HedgeHoles" "trial" "LHedgeHoles$Land;") (by decide +kernel)) (fun _ h9 => h9) rfl dX3_girths_32 ?_
        refine va_get (pc := 35) (D := D) (ci := 0) (v := .ref (aT 5)) (C := RX0) (T := TX0) (N := 8) hx hb hts inX3_girths_X0 hown hK.1 hP 10 rfl rfl 5 (by decide) (hts (.fieldLink RX3 87 "HedgeHoles$Land" "girth" "[I") (by decide +kernel)) (fun _ h9 => h9) rfl dX3_girths_35 ?_
        refine lv_iload_n (pc := 38) hx hb dX3_girths_38 rfl (lv_at hl 1 rfl) ?_
        refine lv_iload_n (pc := 39) hx hb dX3_girths_39 rfl (lv_at hl 3 rfl) ?_
        obtain ⟨h13, hf⟩ := gI_e hf
        refine va_iast (pc := 40) (f := T_8 5) (n := 5) hx hb hK.1 hP hD hS 13 0 rfl rfl h13 dX3_girths_40 (fun H locs hP hD hS => ?_)
        have hP : va_P D vwCl (wX cI cZ cQ o ra rr k rc oL aL oT aT oN aN X R L (sB T_8 5 p0.toNatClampNeg x3_7) N) H := hP
        have hD : va_D A (wX cI cZ cQ o ra rr k rc oL aL oT aT oN aN X R L (sB T_8 5 p0.toNatClampNeg x3_7) N) := hD
        obtain ⟨T_14, h15, hf⟩ := bd hf
        have h15 := Option.some.inj h15
        rw [h15] at hP hD
        refine lv_iload_n (pc := 41) hx hb dX3_girths_41 rfl (lv_at hl 2 rfl) ?_
        refine lv_aload_n (pc := 42) hx hb dX3_girths_42 rfl (lv_at hl 0 rfl) ?_
        refine va_get (pc := 43) (D := D) (ci := 3) (v := .ref oN) (C := RX3) (T := TX3) (N := 8) hx hb hts inX3_girths_X3 hown hK.1 hP 0 rfl rfl 3 (by decide) (hts (.fieldLink RX3 30 "HedgeHoles" "notebook" "LHedgeHoles$Notebook;") (by decide +kernel)) (fun _ h9 => h9) rfl dX3_girths_43 ?_
        refine lv_aload_n (pc := 46) hx hb dX3_girths_46 rfl (lv_at hl 0 rfl) ?_
        refine va_get (pc := 47) (D := D) (ci := 3) (v := .ref oT) (C := RX3) (T := TX3) (N := 8) hx hb hts inX3_girths_X3 hown hK.1 hP 0 rfl rfl 2 (by decide) (hts (.fieldLink RX3 24 "HedgeHoles" "trial" "LHedgeHoles$Land;") (by decide +kernel)) (fun _ h9 => h9) rfl dX3_girths_47 ?_
        obtain ⟨v16, h17, hf⟩ := bd hf
        refine roVi (pc := 50) (As := [.ref oT]) (rest := [.int x2_6]) CF (mtX1_agrees l D cI cZ cQ oN aN N oT aT T_14 v16 h17) (cwV 1 hts gX3_girths_X1_agrees rfl rfl rfl ⟨rfl, hdX1_agrees⟩ ⟨Nat.le_of_ble_eq_true rfl, Nat.le_of_ble_eq_true rfl⟩) hK (va_P_sub' hP [16, 17, 18, 19, 10, 11, 12, 13, 14, 15] rfl) rfl rfl rfl rfl hl.1 rfl (Nat.le_of_ble_eq_true rfl) dX3_girths_50 ?_
        obtain ⟨v18, hv, hf⟩ := bd hf
        have J19 : ∀ (ls : Array Slot), lv_has ls 4 [(0, .ref o), (1, .int p0), (2, .int x2_6), (3, .int x3_7)] → W p l e rmX3_girths s m args below meth c H locs 0 0 Q (F0 m 63 ls [.int v18, .int x2_6]) := by
          intro ls hl
          refine lv_ior (pc := 63) hx hb dX3_girths_63 ?_
          refine lv_istore_n (pc := 64) (lv' := [(2, .int (x2_6 ||| v18)), (0, .ref o), (1, .int p0), (3, .int x3_7)]) hx hb dX3_girths_64 rfl hl (by decide) rfl (fun ls hl => ?_)
          refine lv_iinc (pc := 65) (v := (x3_7 + 1)) (lv' := [(3, .int (x3_7 + 1)), (2, .int (x2_6 ||| v18)), (0, .ref o), (1, .int p0)]) hx hb dX3_girths_65 hl (k := 3) rfl rfl (by decide) rfl (fun ls hl => ?_)
          refine lv_goto (pc := 68) (tgt := 25) hx hb dX3_girths_68 (by decide) ?_
          exact hslf _ _ _ hf ls H locs (lv_sub hl [2, 3, 1, 0] rfl) hP hD hS
        clear hf
        have hf := hv
        clear hv
        refine lv_if_eq (pc := 53) (tgt := 62) hx hb dX3_girths_53 (by decide) (fun c20 => ?_) (fun c20 => ?_)
        · have hf := iT c20 hf
          refine lv_iconst (pc := 62) (v := 0) hx hb dX3_girths_62 (by decide) ?_
          obtain rfl := Option.some.inj hf
          exact J19 ls (lv_sub hl [0, 1, 2, 3] rfl)
        · have hf := iF c20 hf
          refine lv_iconst (pc := 56) (v := 1) hx hb dX3_girths_56 (by decide) ?_
          refine lv_iload_n (pc := 57) hx hb dX3_girths_57 rfl (lv_at hl 3 rfl) ?_
          refine lv_ishl (pc := 58) hx hb dX3_girths_58 ?_
          refine lv_goto (pc := 59) (tgt := 63) hx hb dX3_girths_59 (by decide) ?_
          obtain rfl := Option.some.inj hf
          exact J19 ls (lv_sub hl [0, 1, 2, 3] rfl)
  · have hf := iT c3 hf
    refine lv_iconst (pc := 8) (v := (-1)) hx hb dX3_girths_8 (by decide) ?_
    obtain rfl := Option.some.inj hf
    exact hRet 9 ls s.heap [] (vp_nar_int _) dX3_girths_9 hP hS
theorem hdX3_girths : yX3_girths.cls ≠ "java/lang/invoke/MethodHandle" ∧ yX3_girths.cls ≠ "java/lang/invoke/VarHandle" ∧ (parseMethodDescriptor yX3_girths.desc).map (fun d => d.parameters.length) = some 1 := by decide +kernel
abbrev rmX3_kinds : Room := { frames := 3, cells := 0, slots := 0, locals := 64 }
theorem inX3_kinds_X0 : ∀ w ∈ wsX00, w ∈ wsX3_kinds := fun _ h => List.mem_cons_of_mem _ (List.mem_append_left _ (List.mem_append_right _ h))
theorem inX3_kinds_X3 : ∀ w ∈ wsX30, w ∈ wsX3_kinds := fun _ h => List.mem_cons_of_mem _ (List.mem_append_left _ (List.mem_append_left _ (List.mem_append_right _ h)))
set_option maxHeartbeats 4000000 in
set_option maxRecDepth 100000 in
theorem mtX3_kinds (l : Launch) (D : va_G) (cI cZ cQ : ClassId) (o ra : Nat) (rr : Nat → Nat) (k rc : Nat) (oL : Nat) (aL : Nat → Nat) (oT : Nat) (aT : Nat → Nat) (oN : Nat) (aN : Nat → Nat) (X R L T N : Bk) (p0 : Int32) (sz : Nat) (out : (Int32 × Bk)) (hf : fX3_kinds L T N p0 = some out) : Met l yX3_kinds wsX3_kinds rmX3_kinds (WrP D cI cZ cQ [.ref o, .int p0] (wX cI cZ cQ o ra rr k rc oL aL oT aT oN aN X R L T N) sz) (WrQi D out.1 (wX cI cZ cQ o ra rr k rc oL aL oT aT oN aN X R L T N) (wX cI cZ cQ o ra rr k rc oL aL oT aT oN aN X R L out.2 N) sz) 0 0 (va_A (wX cI cZ cQ o ra rr k rc oL aL oT aT oN aN X R L T N) sz) := by
  refine metWi (ty := .int) (cc := cX3_kinds) (maxL := 4) (by decide) rfl (Nat.le_of_ble_eq_true rfl) ?_
  intro p e s m args below meth c Q A CF hK hP hD hA hRet ls hl
  obtain ⟨hx, hb, hml, hown, hts⟩ := id CF
  have hS : va_S A s.heap s.heap [] := va_S.rf
  have hl : lv_has ls 4 [(0, .ref o), (1, .int p0)] := hl
  unfold fX3_kinds at hf
  refine lv_aload_n (pc := 0) hx hb dX3_kinds_0 rfl (lv_at hl 0 rfl) ?_
  refine lv_iload_n (pc := 1) hx hb dX3_kinds_1 rfl (lv_at hl 1 rfl) ?_
  obtain ⟨v1, h2, hf⟩ := bd hf
  refine roVi (pc := 2) (As := [.int p0]) (rest := []) CF (mtX3_isGoer l D cI cZ cQ o ra rr k rc oL aL oT aT oN aN X R L T N p0 v1 h2) (cwV 1 hts gX3_kinds_X3_isGoer rfl rfl rfl ⟨rfl, hdX3_isGoer⟩ ⟨Nat.le_of_ble_eq_true rfl, Nat.le_of_ble_eq_true rfl⟩) hK hP rfl rfl rfl rfl hl.1 rfl (Nat.le_of_ble_eq_true rfl) dX3_kinds_2 ?_
  refine lv_if_ne (pc := 5) (tgt := 10) hx hb dX3_kinds_5 (by decide) (fun c3 => ?_) (fun c3 => ?_)
  · have hf := iF c3 hf
    refine lv_aload_n (pc := 10) hx hb dX3_kinds_10 rfl (lv_at hl 0 rfl) ?_
    refine va_get (pc := 11) (D := D) (ci := 3) (v := .ref oT) (C := RX3) (T := TX3) (N := 8) hx hb hts inX3_kinds_X3 hown hK.1 hP 0 rfl rfl 2 (by decide) (hts (.fieldLink RX3 24 "HedgeHoles" "trial" "LHedgeHoles$Land;") (by decide +kernel)) (fun _ h9 => h9) rfl dX3_kinds_11 ?_
    refine lv_aload_n (pc := 14) hx hb dX3_kinds_14 rfl (lv_at hl 0 rfl) ?_
    refine va_get (pc := 15) (D := D) (ci := 3) (v := .ref oL) (C := RX3) (T := TX3) (N := 8) hx hb hts inX3_kinds_X3 hown hK.1 hP 0 rfl rfl 1 (by decide) (hts (.fieldLink RX3 20 "HedgeHoles" "land" "LHedgeHoles$Land;") (by decide +kernel)) (fun _ h9 => h9) rfl dX3_kinds_15 ?_
    obtain ⟨v4, h5, hf⟩ := bd hf
    refine wrVv (pc := 18) (As := [.ref oL]) (rest := []) (wB' := wX cI cZ cQ o ra rr k rc oL aL oT aT oN aN X R L v4 N) CF (mtX0_become l D cI cZ cQ oT aT T oL aL L s.heap.size v4 h5) (cwV 1 hts gX3_kinds_X0_become rfl rfl rfl ⟨rfl, hdX0_become⟩ ⟨Nat.le_of_ble_eq_true rfl, Nat.le_of_ble_eq_true rfl⟩) hK hP hD hS hA [10, 11, 12, 13, 14, 15, 4, 5, 6, 7, 8, 9] rfl (by decide) rfl rfl rfl rfl rfl rfl rfl hl.1 rfl (Nat.le_of_ble_eq_true rfl) dX3_kinds_18 (fun H locs hP hD hS => ?_)
    refine lv_iconst (pc := 21) (v := 0) hx hb dX3_kinds_21 (by decide) ?_
    refine lv_istore_n (pc := 22) (lv' := [(2, .int 0), (0, .ref o), (1, .int p0)]) hx hb dX3_kinds_22 rfl hl (by decide) rfl (fun ls hl => ?_)
    refine lv_iconst (pc := 23) (v := 0) hx hb dX3_kinds_23 (by decide) ?_
    refine lv_istore_n (pc := 24) (lv' := [(3, .int 0), (2, .int 0), (0, .ref o), (1, .int p0)]) hx hb dX3_kinds_24 rfl hl (by decide) rfl (fun ls hl => ?_)
    refine zl3 (G := FX3_kinds_25 p0 N) (fun x2_6 x3_7 T_8 => ∀ (ls : Array Slot) (H : Heap) (locs : List Loc), lv_has ls 4 [(0, .ref o), (1, .int p0), (2, .int x2_6), (3, .int x3_7)] → va_P D vwCl (wX cI cZ cQ o ra rr k rc oL aL oT aT oN aN X R L T_8 N) H → va_D A (wX cI cZ cQ o ra rr k rc oL aL oT aT oN aN X R L T_8 N) → va_S A s.heap H locs → W p l e rmX3_kinds s m args below meth c H locs 0 0 Q (F0 m 25 ls [])) (fun x2_9 x3_10 T_11 => ∀ (ls : Array Slot) (H : Heap) (locs : List Loc), lv_has ls 4 [(0, .ref o), (1, .int p0), (2, .int x2_9), (3, .int x3_10)] → va_P D vwCl (wX cI cZ cQ o ra rr k rc oL aL oT aT oN aN X R L T_11 N) H → va_D A (wX cI cZ cQ o ra rr k rc oL aL oT aT oN aN X R L T_11 N) → va_S A s.heap H locs → W p l e rmX3_kinds s m args below meth c H locs 0 0 Q (F0 m 70 ls [])) hf (fun x2_9 x3_10 T_11 hf => ?_) (fun kx slf hkx hslf x2_6 x3_7 T_8 hf => ?_) ls H locs (lv_sub hl [2, 3, 1, 0] rfl) hP hD hS
    · intro ls H locs hl hP hD hS
      refine lv_iload_n (pc := 70) hx hb dX3_kinds_70 rfl (lv_at hl 2 rfl) ?_
      obtain rfl := Option.some.inj hf
      exact hRet 71 ls H locs (vp_nar_int _) dX3_kinds_71 hP hS
    · unfold FX3_kinds_25 at hf
      intro ls H locs hl hP hD hS
      refine lv_iload_n (pc := 25) hx hb dX3_kinds_25 rfl (lv_at hl 3 rfl) ?_
      refine lv_iconst (pc := 26) (v := 2) hx hb dX3_kinds_26 (by decide) ?_
      refine lv_icmp_gt (pc := 27) (tgt := 70) hx hb dX3_kinds_27 (by decide) (fun c12 => ?_) (fun c12 => ?_)
      · have hf := iT c12 hf
        exact hkx _ _ _ hf ls H locs (lv_sub hl [0, 1, 2, 3] rfl) hP hD hS
      · have hf := iF c12 hf
        refine lv_aload_n (pc := 30) hx hb dX3_kinds_30 rfl (lv_at hl 0 rfl) ?_
        refine va_get (pc := 31) (D := D) (ci := 3) (v := .ref oT) (C := RX3) (T := TX3) (N := 8) hx hb hts inX3_kinds_X3 hown hK.1 hP 0 rfl rfl 2 (by decide) (hts (.fieldLink RX3 24 "HedgeHoles" "trial" "LHedgeHoles$Land;") (by decide +kernel)) (fun _ h9 => h9) rfl dX3_kinds_31 ?_
        refine va_get (pc := 34) (D := D) (ci := 0) (v := .ref (aT 4)) (C := RX0) (T := TX0) (N := 8) hx hb hts inX3_kinds_X0 hown hK.1 hP 10 rfl rfl 4 (by decide) (hts (.fieldLink RX3 83 "HedgeHoles$Land" "kind" "[I") (by decide +kernel)) (fun _ h9 => h9) rfl dX3_kinds_34 ?_
        refine lv_iload_n (pc := 37) hx hb dX3_kinds_37 rfl (lv_at hl 1 rfl) ?_
        refine lv_iload_n (pc := 38) hx hb dX3_kinds_38 rfl (lv_at hl 3 rfl) ?_
        obtain ⟨h13, hf⟩ := gI_e hf
        refine va_iast (pc := 39) (f := T_8 4) (n := 5) hx hb hK.1 hP hD hS 12 0 rfl rfl h13 dX3_kinds_39 (fun H locs hP hD hS => ?_)
        have hP : va_P D vwCl (wX cI cZ cQ o ra rr k rc oL aL oT aT oN aN X R L (sB T_8 4 p0.toNatClampNeg x3_7) N) H := hP
        have hD : va_D A (wX cI cZ cQ o ra rr k rc oL aL oT aT oN aN X R L (sB T_8 4 p0.toNatClampNeg x3_7) N) := hD
        obtain ⟨T_14, h15, hf⟩ := bd hf
        have h15 := Option.some.inj h15
        rw [h15] at hP hD
        refine lv_iload_n (pc := 40) hx hb dX3_kinds_40 rfl (lv_at hl 2 rfl) ?_
        refine lv_aload_n (pc := 41) hx hb dX3_kinds_41 rfl (lv_at hl 0 rfl) ?_
        refine va_get (pc := 42) (D := D) (ci := 3) (v := .ref oN) (C := RX3) (T := TX3) (N := 8) hx hb hts inX3_kinds_X3 hown hK.1 hP 0 rfl rfl 3 (by decide) (hts (.fieldLink RX3 30 "HedgeHoles" "notebook" "LHedgeHoles$Notebook;") (by decide +kernel)) (fun _ h9 => h9) rfl dX3_kinds_42 ?_
        refine lv_aload_n (pc := 45) hx hb dX3_kinds_45 rfl (lv_at hl 0 rfl) ?_
        refine va_get (pc := 46) (D := D) (ci := 3) (v := .ref oT) (C := RX3) (T := TX3) (N := 8) hx hb hts inX3_kinds_X3 hown hK.1 hP 0 rfl rfl 2 (by decide) (hts (.fieldLink RX3 24 "HedgeHoles" "trial" "LHedgeHoles$Land;") (by decide +kernel)) (fun _ h9 => h9) rfl dX3_kinds_46 ?_
        obtain ⟨v16, h17, hf⟩ := bd hf
        refine roVi (pc := 49) (As := [.ref oT]) (rest := [.int x2_6]) CF (mtX1_agrees l D cI cZ cQ oN aN N oT aT T_14 v16 h17) (cwV 1 hts gX3_kinds_X1_agrees rfl rfl rfl ⟨rfl, hdX1_agrees⟩ ⟨Nat.le_of_ble_eq_true rfl, Nat.le_of_ble_eq_true rfl⟩) hK (va_P_sub' hP [16, 17, 18, 19, 10, 11, 12, 13, 14, 15] rfl) rfl rfl rfl rfl hl.1 rfl (Nat.le_of_ble_eq_true rfl) dX3_kinds_49 ?_
        obtain ⟨v18, hv, hf⟩ := bd hf
        have J19 : ∀ (ls : Array Slot), lv_has ls 4 [(0, .ref o), (1, .int p0), (2, .int x2_6), (3, .int x3_7)] → W p l e rmX3_kinds s m args below meth c H locs 0 0 Q (F0 m 62 ls [.int v18, .int x2_6]) := by
          intro ls hl
          refine lv_ior (pc := 62) hx hb dX3_kinds_62 ?_
          refine lv_istore_n (pc := 63) (lv' := [(2, .int (x2_6 ||| v18)), (0, .ref o), (1, .int p0), (3, .int x3_7)]) hx hb dX3_kinds_63 rfl hl (by decide) rfl (fun ls hl => ?_)
          refine lv_iinc (pc := 64) (v := (x3_7 + 1)) (lv' := [(3, .int (x3_7 + 1)), (2, .int (x2_6 ||| v18)), (0, .ref o), (1, .int p0)]) hx hb dX3_kinds_64 hl (k := 3) rfl rfl (by decide) rfl (fun ls hl => ?_)
          refine lv_goto (pc := 67) (tgt := 25) hx hb dX3_kinds_67 (by decide) ?_
          exact hslf _ _ _ hf ls H locs (lv_sub hl [2, 3, 1, 0] rfl) hP hD hS
        clear hf
        have hf := hv
        clear hv
        refine lv_if_eq (pc := 52) (tgt := 61) hx hb dX3_kinds_52 (by decide) (fun c20 => ?_) (fun c20 => ?_)
        · have hf := iT c20 hf
          refine lv_iconst (pc := 61) (v := 0) hx hb dX3_kinds_61 (by decide) ?_
          obtain rfl := Option.some.inj hf
          exact J19 ls (lv_sub hl [0, 1, 2, 3] rfl)
        · have hf := iF c20 hf
          refine lv_iconst (pc := 55) (v := 1) hx hb dX3_kinds_55 (by decide) ?_
          refine lv_iload_n (pc := 56) hx hb dX3_kinds_56 rfl (lv_at hl 3 rfl) ?_
          refine lv_ishl (pc := 57) hx hb dX3_kinds_57 ?_
          refine lv_goto (pc := 58) (tgt := 62) hx hb dX3_kinds_58 (by decide) ?_
          obtain rfl := Option.some.inj hf
          exact J19 ls (lv_sub hl [0, 1, 2, 3] rfl)
  · have hf := iT c3 hf
    refine lv_iconst (pc := 8) (v := (-1)) hx hb dX3_kinds_8 (by decide) ?_
    obtain rfl := Option.some.inj hf
    exact hRet 9 ls s.heap [] (vp_nar_int _) dX3_kinds_9 hP hS
theorem hdX3_kinds : yX3_kinds.cls ≠ "java/lang/invoke/MethodHandle" ∧ yX3_kinds.cls ≠ "java/lang/invoke/VarHandle" ∧ (parseMethodDescriptor yX3_kinds.desc).map (fun d => d.parameters.length) = some 1 := by decide +kernel
abbrev rmX3_holes : Room := { frames := 3, cells := 0, slots := 0, locals := 64 }
theorem inX3_holes_X0 : ∀ w ∈ wsX00, w ∈ wsX3_holes := fun _ h => List.mem_cons_of_mem _ (List.mem_append_left _ (List.mem_append_right _ h))
theorem inX3_holes_X3 : ∀ w ∈ wsX30, w ∈ wsX3_holes := fun _ h => List.mem_cons_of_mem _ (List.mem_append_left _ (List.mem_append_left _ (List.mem_append_right _ h)))
set_option maxHeartbeats 4000000 in
set_option maxRecDepth 100000 in
theorem mtX3_holes (l : Launch) (D : va_G) (cI cZ cQ : ClassId) (o ra : Nat) (rr : Nat → Nat) (k rc : Nat) (oL : Nat) (aL : Nat → Nat) (oT : Nat) (aT : Nat → Nat) (oN : Nat) (aN : Nat → Nat) (X R L T N : Bk) (p0 : Int32) (p1 : Int32) (sz : Nat) (out : (Int32 × Bk)) (hf : fX3_holes L T N p0 p1 = some out) : Met l yX3_holes wsX3_holes rmX3_holes (WrP D cI cZ cQ [.ref o, .int p0, .int p1] (wX cI cZ cQ o ra rr k rc oL aL oT aT oN aN X R L T N) sz) (WrQi D out.1 (wX cI cZ cQ o ra rr k rc oL aL oT aT oN aN X R L T N) (wX cI cZ cQ o ra rr k rc oL aL oT aT oN aN X R L out.2 N) sz) 0 0 (va_A (wX cI cZ cQ o ra rr k rc oL aL oT aT oN aN X R L T N) sz) := by
  refine metWi (ty := .int) (cc := cX3_holes) (maxL := 6) (by decide) rfl (Nat.le_of_ble_eq_true rfl) ?_
  intro p e s m args below meth c Q A CF hK hP hD hA hRet ls hl
  obtain ⟨hx, hb, hml, hown, hts⟩ := id CF
  have hS : va_S A s.heap s.heap [] := va_S.rf
  have hl : lv_has ls 6 [(0, .ref o), (1, .int p0), (2, .int p1)] := hl
  unfold fX3_holes at hf
  refine lv_aload_n (pc := 0) hx hb dX3_holes_0 rfl (lv_at hl 0 rfl) ?_
  refine lv_iload_n (pc := 1) hx hb dX3_holes_1 rfl (lv_at hl 1 rfl) ?_
  refine lv_iload_n (pc := 2) hx hb dX3_holes_2 rfl (lv_at hl 2 rfl) ?_
  obtain ⟨v1, h2, hf⟩ := bd hf
  refine roVi (pc := 3) (As := [.int p0, .int p1]) (rest := []) CF (mtX3_areTwoFields l D cI cZ cQ o ra rr k rc oL aL oT aT oN aN X R L T N p0 p1 v1 h2) (cwV 2 hts gX3_holes_X3_areTwoFields rfl rfl rfl ⟨rfl, hdX3_areTwoFields⟩ ⟨Nat.le_of_ble_eq_true rfl, Nat.le_of_ble_eq_true rfl⟩) hK hP rfl rfl rfl rfl hl.1 rfl (Nat.le_of_ble_eq_true rfl) dX3_holes_3 ?_
  refine lv_if_ne (pc := 6) (tgt := 11) hx hb dX3_holes_6 (by decide) (fun c3 => ?_) (fun c3 => ?_)
  · have hf := iF c3 hf
    refine lv_aload_n (pc := 11) hx hb dX3_holes_11 rfl (lv_at hl 0 rfl) ?_
    refine va_get (pc := 12) (D := D) (ci := 3) (v := .ref oT) (C := RX3) (T := TX3) (N := 8) hx hb hts inX3_holes_X3 hown hK.1 hP 0 rfl rfl 2 (by decide) (hts (.fieldLink RX3 24 "HedgeHoles" "trial" "LHedgeHoles$Land;") (by decide +kernel)) (fun _ h9 => h9) rfl dX3_holes_12 ?_
    refine lv_aload_n (pc := 15) hx hb dX3_holes_15 rfl (lv_at hl 0 rfl) ?_
    refine va_get (pc := 16) (D := D) (ci := 3) (v := .ref oL) (C := RX3) (T := TX3) (N := 8) hx hb hts inX3_holes_X3 hown hK.1 hP 0 rfl rfl 1 (by decide) (hts (.fieldLink RX3 20 "HedgeHoles" "land" "LHedgeHoles$Land;") (by decide +kernel)) (fun _ h9 => h9) rfl dX3_holes_16 ?_
    obtain ⟨v4, h5, hf⟩ := bd hf
    refine wrVv (pc := 19) (As := [.ref oL]) (rest := []) (wB' := wX cI cZ cQ o ra rr k rc oL aL oT aT oN aN X R L v4 N) CF (mtX0_become l D cI cZ cQ oT aT T oL aL L s.heap.size v4 h5) (cwV 1 hts gX3_holes_X0_become rfl rfl rfl ⟨rfl, hdX0_become⟩ ⟨Nat.le_of_ble_eq_true rfl, Nat.le_of_ble_eq_true rfl⟩) hK hP hD hS hA [10, 11, 12, 13, 14, 15, 4, 5, 6, 7, 8, 9] rfl (by decide) rfl rfl rfl rfl rfl rfl rfl hl.1 rfl (Nat.le_of_ble_eq_true rfl) dX3_holes_19 (fun H locs hP hD hS => ?_)
    refine lv_aload_n (pc := 22) hx hb dX3_holes_22 rfl (lv_at hl 0 rfl) ?_
    refine va_get (pc := 23) (D := D) (ci := 3) (v := .ref oL) (C := RX3) (T := TX3) (N := 8) hx hb hts inX3_holes_X3 hown hK.1 hP 0 rfl rfl 1 (by decide) (hts (.fieldLink RX3 20 "HedgeHoles" "land" "LHedgeHoles$Land;") (by decide +kernel)) (fun _ h9 => h9) rfl dX3_holes_23 ?_
    refine lv_iload_n (pc := 26) hx hb dX3_holes_26 rfl (lv_at hl 1 rfl) ?_
    refine lv_iload_n (pc := 27) hx hb dX3_holes_27 rfl (lv_at hl 2 rfl) ?_
    obtain ⟨v6, h7, hf⟩ := bd hf
    refine roVi (pc := 28) (As := [.int p0, .int p1]) (rest := []) CF (mtX0_hedgeOf l D cI cZ cQ oL aL L p0 p1 v6 h7) (cwV 2 hts gX3_holes_X0_hedgeOf rfl rfl rfl ⟨rfl, hdX0_hedgeOf⟩ ⟨Nat.le_of_ble_eq_true rfl, Nat.le_of_ble_eq_true rfl⟩) hK (va_P_sub' hP [4, 5, 6, 7, 8, 9] rfl) rfl rfl rfl rfl hl.1 rfl (Nat.le_of_ble_eq_true rfl) dX3_holes_28 ?_
    refine lv_istore_n (pc := 31) (lv' := [(3, .int v6), (0, .ref o), (1, .int p0), (2, .int p1)]) hx hb dX3_holes_31 rfl hl (by decide) rfl (fun ls hl => ?_)
    refine lv_iconst (pc := 32) (v := 0) hx hb dX3_holes_32 (by decide) ?_
    refine lv_istore (pc := 33) (lv' := [(4, .int 0), (3, .int v6), (0, .ref o), (1, .int p0), (2, .int p1)]) hx hb dX3_holes_33 hl (by decide) rfl (fun ls hl => ?_)
    refine lv_iconst (pc := 35) (v := 0) hx hb dX3_holes_35 (by decide) ?_
    refine lv_istore (pc := 36) (lv' := [(5, .int 0), (4, .int 0), (3, .int v6), (0, .ref o), (1, .int p0), (2, .int p1)]) hx hb dX3_holes_36 hl (by decide) rfl (fun ls hl => ?_)
    refine zl3 (G := FX3_holes_38 N v6) (fun x4_8 x5_9 T_10 => ∀ (ls : Array Slot) (H : Heap) (locs : List Loc), lv_has ls 6 [(0, .ref o), (1, .int p0), (2, .int p1), (3, .int v6), (4, .int x4_8), (5, .int x5_9)] → va_P D vwCl (wX cI cZ cQ o ra rr k rc oL aL oT aT oN aN X R L T_10 N) H → va_D A (wX cI cZ cQ o ra rr k rc oL aL oT aT oN aN X R L T_10 N) → va_S A s.heap H locs → W p l e rmX3_holes s m args below meth c H locs 0 0 Q (F0 m 38 ls [])) (fun x4_11 x5_12 T_13 => ∀ (ls : Array Slot) (H : Heap) (locs : List Loc), lv_has ls 6 [(0, .ref o), (1, .int p0), (2, .int p1), (3, .int v6), (4, .int x4_11), (5, .int x5_12)] → va_P D vwCl (wX cI cZ cQ o ra rr k rc oL aL oT aT oN aN X R L T_13 N) H → va_D A (wX cI cZ cQ o ra rr k rc oL aL oT aT oN aN X R L T_13 N) → va_S A s.heap H locs → W p l e rmX3_holes s m args below meth c H locs 0 0 Q (F0 m 89 ls [])) hf (fun x4_11 x5_12 T_13 hf => ?_) (fun kx slf hkx hslf x4_8 x5_9 T_10 hf => ?_) ls H locs (lv_sub hl [3, 4, 5, 2, 1, 0] rfl) hP hD hS
    · intro ls H locs hl hP hD hS
      refine lv_iload (pc := 89) hx hb dX3_holes_89 (lv_at hl 4 rfl) ?_
      obtain rfl := Option.some.inj hf
      exact hRet 91 ls H locs (vp_nar_int _) dX3_holes_91 hP hS
    · unfold FX3_holes_38 at hf
      intro ls H locs hl hP hD hS
      refine lv_iload (pc := 38) hx hb dX3_holes_38 (lv_at hl 5 rfl) ?_
      refine lv_bipush (pc := 40) (v := 9) hx hb dX3_holes_40 (by decide) ?_
      refine lv_icmp_gt (pc := 42) (tgt := 89) hx hb dX3_holes_42 (by decide) (fun c14 => ?_) (fun c14 => ?_)
      · have hf := iT c14 hf
        exact hkx _ _ _ hf ls H locs (lv_sub hl [0, 1, 2, 3, 4, 5] rfl) hP hD hS
      · have hf := iF c14 hf
        refine lv_aload_n (pc := 45) hx hb dX3_holes_45 rfl (lv_at hl 0 rfl) ?_
        refine va_get (pc := 46) (D := D) (ci := 3) (v := .ref oT) (C := RX3) (T := TX3) (N := 8) hx hb hts inX3_holes_X3 hown hK.1 hP 0 rfl rfl 2 (by decide) (hts (.fieldLink RX3 24 "HedgeHoles" "trial" "LHedgeHoles$Land;") (by decide +kernel)) (fun _ h9 => h9) rfl dX3_holes_46 ?_
        refine va_get (pc := 49) (D := D) (ci := 0) (v := .ref (aT 3)) (C := RX0) (T := TX0) (N := 8) hx hb hts inX3_holes_X0 hown hK.1 hP 10 rfl rfl 3 (by decide) (hts (.fieldLink RX3 103 "HedgeHoles$Land" "width" "[I") (by decide +kernel)) (fun _ h9 => h9) rfl dX3_holes_49 ?_
        refine lv_iload_n (pc := 52) hx hb dX3_holes_52 rfl (lv_at hl 3 rfl) ?_
        refine lv_iload (pc := 53) hx hb dX3_holes_53 (lv_at hl 5 rfl) ?_
        obtain ⟨h15, hf⟩ := gI_e hf
        refine va_iast (pc := 55) (f := T_10 3) (n := 10) hx hb hK.1 hP hD hS 11 0 rfl rfl h15 dX3_holes_55 (fun H locs hP hD hS => ?_)
        have hP : va_P D vwCl (wX cI cZ cQ o ra rr k rc oL aL oT aT oN aN X R L (sB T_10 3 v6.toNatClampNeg x5_9) N) H := hP
        have hD : va_D A (wX cI cZ cQ o ra rr k rc oL aL oT aT oN aN X R L (sB T_10 3 v6.toNatClampNeg x5_9) N) := hD
        obtain ⟨T_16, h17, hf⟩ := bd hf
        have h17 := Option.some.inj h17
        rw [h17] at hP hD
        refine lv_iload (pc := 56) hx hb dX3_holes_56 (lv_at hl 4 rfl) ?_
        refine lv_aload_n (pc := 58) hx hb dX3_holes_58 rfl (lv_at hl 0 rfl) ?_
        refine va_get (pc := 59) (D := D) (ci := 3) (v := .ref oN) (C := RX3) (T := TX3) (N := 8) hx hb hts inX3_holes_X3 hown hK.1 hP 0 rfl rfl 3 (by decide) (hts (.fieldLink RX3 30 "HedgeHoles" "notebook" "LHedgeHoles$Notebook;") (by decide +kernel)) (fun _ h9 => h9) rfl dX3_holes_59 ?_
        refine lv_aload_n (pc := 62) hx hb dX3_holes_62 rfl (lv_at hl 0 rfl) ?_
        refine va_get (pc := 63) (D := D) (ci := 3) (v := .ref oT) (C := RX3) (T := TX3) (N := 8) hx hb hts inX3_holes_X3 hown hK.1 hP 0 rfl rfl 2 (by decide) (hts (.fieldLink RX3 24 "HedgeHoles" "trial" "LHedgeHoles$Land;") (by decide +kernel)) (fun _ h9 => h9) rfl dX3_holes_63 ?_
        obtain ⟨v18, h19, hf⟩ := bd hf
        refine roVi (pc := 66) (As := [.ref oT]) (rest := [.int x4_8]) CF (mtX1_agrees l D cI cZ cQ oN aN N oT aT T_16 v18 h19) (cwV 1 hts gX3_holes_X1_agrees rfl rfl rfl ⟨rfl, hdX1_agrees⟩ ⟨Nat.le_of_ble_eq_true rfl, Nat.le_of_ble_eq_true rfl⟩) hK (va_P_sub' hP [16, 17, 18, 19, 10, 11, 12, 13, 14, 15] rfl) rfl rfl rfl rfl hl.1 rfl (Nat.le_of_ble_eq_true rfl) dX3_holes_66 ?_
        obtain ⟨v20, hv, hf⟩ := bd hf
        have J21 : ∀ (ls : Array Slot), lv_has ls 6 [(0, .ref o), (1, .int p0), (2, .int p1), (3, .int v6), (4, .int x4_8), (5, .int x5_9)] → W p l e rmX3_holes s m args below meth c H locs 0 0 Q (F0 m 80 ls [.int v20, .int x4_8]) := by
          intro ls hl
          refine lv_ior (pc := 80) hx hb dX3_holes_80 ?_
          refine lv_istore (pc := 81) (lv' := [(4, .int (x4_8 ||| v20)), (0, .ref o), (1, .int p0), (2, .int p1), (3, .int v6), (5, .int x5_9)]) hx hb dX3_holes_81 hl (by decide) rfl (fun ls hl => ?_)
          refine lv_iinc (pc := 83) (v := (x5_9 + 1)) (lv' := [(5, .int (x5_9 + 1)), (4, .int (x4_8 ||| v20)), (0, .ref o), (1, .int p0), (2, .int p1), (3, .int v6)]) hx hb dX3_holes_83 hl (k := 5) rfl rfl (by decide) rfl (fun ls hl => ?_)
          refine lv_goto (pc := 86) (tgt := 38) hx hb dX3_holes_86 (by decide) ?_
          exact hslf _ _ _ hf ls H locs (lv_sub hl [2, 3, 4, 5, 1, 0] rfl) hP hD hS
        clear hf
        have hf := hv
        clear hv
        refine lv_if_eq (pc := 69) (tgt := 79) hx hb dX3_holes_69 (by decide) (fun c22 => ?_) (fun c22 => ?_)
        · have hf := iT c22 hf
          refine lv_iconst (pc := 79) (v := 0) hx hb dX3_holes_79 (by decide) ?_
          obtain rfl := Option.some.inj hf
          exact J21 ls (lv_sub hl [0, 1, 2, 3, 4, 5] rfl)
        · have hf := iF c22 hf
          refine lv_iconst (pc := 72) (v := 1) hx hb dX3_holes_72 (by decide) ?_
          refine lv_iload (pc := 73) hx hb dX3_holes_73 (lv_at hl 5 rfl) ?_
          refine lv_ishl (pc := 75) hx hb dX3_holes_75 ?_
          refine lv_goto (pc := 76) (tgt := 80) hx hb dX3_holes_76 (by decide) ?_
          obtain rfl := Option.some.inj hf
          exact J21 ls (lv_sub hl [0, 1, 2, 3, 4, 5] rfl)
  · have hf := iT c3 hf
    refine lv_iconst (pc := 9) (v := (-1)) hx hb dX3_holes_9 (by decide) ?_
    obtain rfl := Option.some.inj hf
    exact hRet 10 ls s.heap [] (vp_nar_int _) dX3_holes_10 hP hS
theorem hdX3_holes : yX3_holes.cls ≠ "java/lang/invoke/MethodHandle" ∧ yX3_holes.cls ≠ "java/lang/invoke/VarHandle" ∧ (parseMethodDescriptor yX3_holes.desc).map (fun d => d.parameters.length) = some 2 := by decide +kernel
abbrev rmX3_odds : Room := { frames := 4, cells := 0, slots := 0, locals := 94 }
theorem inX3_odds_X0 : ∀ w ∈ wsX00, w ∈ wsX3_odds := fun _ h => List.mem_cons_of_mem _ (List.mem_append_right _ h)
theorem inX3_odds_X3 : ∀ w ∈ wsX30, w ∈ wsX3_odds := fun _ h => List.mem_cons_of_mem _ (List.mem_append_left _ (List.mem_append_right _ h))
set_option maxHeartbeats 4000000 in
set_option maxRecDepth 100000 in
theorem mtX3_odds (l : Launch) (D : va_G) (cI cZ cQ : ClassId) (o ra : Nat) (rr : Nat → Nat) (k rc : Nat) (oL : Nat) (aL : Nat → Nat) (oT : Nat) (aT : Nat → Nat) (oN : Nat) (aN : Nat → Nat) (X R L T N : Bk) (p0 : Int32) (p1 : Int32) (p2 : Int32) (out : Int64) (hf : fX3_odds L p0 p1 p2 = some out) : Met l yX3_odds wsX3_odds rmX3_odds (RoP D cI cZ cQ [.ref o, .int p0, .int p1, .int p2] (wX cI cZ cQ o ra rr k rc oL aL oT aT oN aN X R L T N)) (vp_Sl (fun r' => r' = out)) 0 0 (fun _ => False) := by
  refine metRl (cc := cX3_odds) (maxL := 7) (by decide) rfl (Nat.le_of_ble_eq_true rfl) ?_
  intro p e s m args below meth c Q CF hK hP hRet ls hl
  obtain ⟨hx, hb, hml, hown, hts⟩ := id CF
  have hl : lv_has ls 7 [(0, .ref o), (1, .int p0), (2, .int p1), (3, .int p2)] := hl
  unfold fX3_odds at hf
  refine lv_aload_n (pc := 0) hx hb dX3_odds_0 rfl (lv_at hl 0 rfl) ?_
  refine lv_iload_n (pc := 1) hx hb dX3_odds_1 rfl (lv_at hl 1 rfl) ?_
  obtain ⟨v1, h2, hf⟩ := bd hf
  refine roVi (pc := 2) (As := [.int p0]) (rest := []) CF (mtX3_isGoer l D cI cZ cQ o ra rr k rc oL aL oT aT oN aN X R L T N p0 v1 h2) (cwV 1 hts gX3_odds_X3_isGoer rfl rfl rfl ⟨rfl, hdX3_isGoer⟩ ⟨Nat.le_of_ble_eq_true rfl, Nat.le_of_ble_eq_true rfl⟩) hK hP rfl rfl rfl rfl hl.1 rfl (Nat.le_of_ble_eq_true rfl) dX3_odds_2 ?_
  refine lv_if_eq (pc := 5) (tgt := 25) hx hb dX3_odds_5 (by decide) (fun c3 => ?_) (fun c3 => ?_)
  · have hf := iT c3 hf
    refine lv_ldc2 (pc := 25) (v := (-9223372036854775808)) hx hb hown (hts (.constantLong RX3 187 (-9223372036854775808)) (by decide +kernel)) dX3_odds_25 ?_
    obtain rfl := Option.some.inj hf
    exact hRet 28 ls dX3_odds_28
  · have hf := iF c3 hf
    refine lv_aload_n (pc := 8) hx hb dX3_odds_8 rfl (lv_at hl 0 rfl) ?_
    refine lv_iload_n (pc := 9) hx hb dX3_odds_9 rfl (lv_at hl 2 rfl) ?_
    obtain ⟨v4, h5, hf⟩ := bd hf
    refine roVi (pc := 10) (As := [.int p1]) (rest := []) CF (mtX3_isField l D cI cZ cQ o ra rr k rc oL aL oT aT oN aN X R L T N p1 v4 h5) (cwV 1 hts gX3_odds_X3_isField rfl rfl rfl ⟨rfl, hdX3_isField⟩ ⟨Nat.le_of_ble_eq_true rfl, Nat.le_of_ble_eq_true rfl⟩) hK hP rfl rfl rfl rfl hl.1 rfl (Nat.le_of_ble_eq_true rfl) dX3_odds_10 ?_
    refine lv_if_eq (pc := 13) (tgt := 25) hx hb dX3_odds_13 (by decide) (fun c6 => ?_) (fun c6 => ?_)
    · have hf := iT c6 hf
      refine lv_ldc2 (pc := 25) (v := (-9223372036854775808)) hx hb hown (hts (.constantLong RX3 187 (-9223372036854775808)) (by decide +kernel)) dX3_odds_25 ?_
      obtain rfl := Option.some.inj hf
      exact hRet 28 ls dX3_odds_28
    · have hf := iF c6 hf
      refine lv_iload_n (pc := 16) hx hb dX3_odds_16 rfl (lv_at hl 3 rfl) ?_
      refine lv_if_lt (pc := 17) (tgt := 25) hx hb dX3_odds_17 (by decide) (fun c7 => ?_) (fun c7 => ?_)
      · have hf := iT c7 hf
        refine lv_ldc2 (pc := 25) (v := (-9223372036854775808)) hx hb hown (hts (.constantLong RX3 187 (-9223372036854775808)) (by decide +kernel)) dX3_odds_25 ?_
        obtain rfl := Option.some.inj hf
        exact hRet 28 ls dX3_odds_28
      · have hf := iF c7 hf
        refine lv_iload_n (pc := 20) hx hb dX3_odds_20 rfl (lv_at hl 3 rfl) ?_
        refine lv_iconst (pc := 21) (v := 1) hx hb dX3_odds_21 (by decide) ?_
        refine lv_icmp_le (pc := 22) (tgt := 29) hx hb dX3_odds_22 (by decide) (fun c8 => ?_) (fun c8 => ?_)
        · have hf := iT c8 hf
          refine lv_iconst (pc := 29) (v := 0) hx hb dX3_odds_29 (by decide) ?_
          refine lv_istore (pc := 30) (lv' := [(4, .int 0), (0, .ref o), (1, .int p0), (2, .int p1), (3, .int p2)]) hx hb dX3_odds_30 hl (by decide) rfl (fun ls hl => ?_)
          refine lv_iconst (pc := 32) (v := 1) hx hb dX3_odds_32 (by decide) ?_
          refine lv_istore (pc := 33) (lv' := [(5, .int 1), (4, .int 0), (0, .ref o), (1, .int p0), (2, .int p1), (3, .int p2)]) hx hb dX3_odds_33 hl (by decide) rfl (fun ls hl => ?_)
          refine zl2 (G := FX3_odds_35 p0 p1 L) (fun x4_9 x5_10 => ∀ (ls : Array Slot), lv_has ls 7 [(0, .ref o), (1, .int p0), (2, .int p1), (3, .int p2), (4, .int x4_9), (5, .int x5_10)] → W p l e rmX3_odds s m args below meth c s.heap [] 0 0 Q (F0 m 35 ls [])) (fun x4_11 x5_12 => ∀ (ls : Array Slot), lv_has ls 7 [(0, .ref o), (1, .int p0), (2, .int p1), (3, .int p2), (4, .int x4_11), (5, .int x5_12)] → W p l e rmX3_odds s m args below meth c s.heap [] 0 0 Q (F0 m 99 ls [])) hf (fun x4_11 x5_12 hf => ?_) (fun kx slf hkx hslf x4_9 x5_10 hf => ?_) ls (lv_sub hl [2, 3, 4, 5, 1, 0] rfl)
          · intro ls hl
            refine lv_iload (pc := 99) hx hb dX3_odds_99 (lv_at hl 4 rfl) ?_
            refine lv_bipush (pc := 101) (v := 9) hx hb dX3_odds_101 (by decide) ?_
            obtain ⟨v24, h25, hf⟩ := bd hf
            refine roSi (pc := 103) (As := [.int x4_11, .int 9]) (rest := []) CF (mtX3_commonDivisor l D cI cZ cQ x4_11 9 v24 h25) (va_cwS 2 hts gX3_odds_X3_commonDivisor rfl rfl rfl hdX3_commonDivisor ⟨Nat.le_of_ble_eq_true rfl, Nat.le_of_ble_eq_true rfl⟩) hK P0 rfl hl.1 rfl (Nat.le_of_ble_eq_true rfl) dX3_odds_103 ?_
            refine lv_istore (pc := 106) (lv' := [(5, .int v24), (0, .ref o), (1, .int p0), (2, .int p1), (3, .int p2), (4, .int x4_11)]) hx hb dX3_odds_106 hl (by decide) rfl (fun ls hl => ?_)
            refine lv_iload_n (pc := 108) hx hb dX3_odds_108 rfl (lv_at hl 4 rfl) ?_
            refine lv_if_ne (pc := 109) (tgt := 121) hx hb dX3_odds_109 (by decide) (fun c26 => ?_) (fun c26 => ?_)
            · have hf := iF c26 hf
              refine lv_bipush (pc := 121) (v := 9) hx hb dX3_odds_121 (by decide) ?_
              refine lv_iload (pc := 123) hx hb dX3_odds_123 (lv_at hl 0 rfl) ?_
              obtain ⟨h27, hf⟩ := gN_e hf
              refine lv_idiv (pc := 125) hx hb dX3_odds_125 h27 ?_
              refine lv_i2l (pc := 126) (v := ((9 / v24).toInt64)) hx hb dX3_odds_126 rfl ?_
              obtain rfl := Option.some.inj hf
              exact hRet 127 ls dX3_odds_127
            · have hf := iT c26 hf
              refine lv_iload (pc := 112) hx hb dX3_odds_112 (lv_at hl 5 rfl) ?_
              refine lv_iload (pc := 114) hx hb dX3_odds_114 (lv_at hl 0 rfl) ?_
              obtain ⟨h28, hf⟩ := gN_e hf
              refine lv_idiv (pc := 116) hx hb dX3_odds_116 h28 ?_
              refine lv_i2l (pc := 117) (v := ((x4_11 / v24).toInt64)) hx hb dX3_odds_117 rfl ?_
              refine lv_goto (pc := 118) (tgt := 127) hx hb dX3_odds_118 (by decide) ?_
              obtain rfl := Option.some.inj hf
              exact hRet 127 ls dX3_odds_127
          · unfold FX3_odds_35 at hf
            intro ls hl
            refine lv_iload (pc := 35) hx hb dX3_odds_35 (lv_at hl 5 rfl) ?_
            refine lv_bipush (pc := 37) (v := 9) hx hb dX3_odds_37 (by decide) ?_
            refine lv_icmp_gt (pc := 39) (tgt := 99) hx hb dX3_odds_39 (by decide) (fun c13 => ?_) (fun c13 => ?_)
            · have hf := iT c13 hf
              exact hkx _ _ hf ls (lv_sub hl [0, 1, 2, 3, 4, 5] rfl)
            · have hf := iF c13 hf
              refine lv_aload_n (pc := 42) hx hb dX3_odds_42 rfl (lv_at hl 0 rfl) ?_
              refine va_get (pc := 43) (D := D) (ci := 3) (v := .ref oL) (C := RX3) (T := TX3) (N := 8) hx hb hts inX3_odds_X3 hown hK.1 hP 0 rfl rfl 1 (by decide) (hts (.fieldLink RX3 20 "HedgeHoles" "land" "LHedgeHoles$Land;") (by decide +kernel)) (fun _ h9 => h9) rfl dX3_odds_43 ?_
              refine lv_aload_n (pc := 46) hx hb dX3_odds_46 rfl (lv_at hl 0 rfl) ?_
              refine va_get (pc := 47) (D := D) (ci := 3) (v := .ref oL) (C := RX3) (T := TX3) (N := 8) hx hb hts inX3_odds_X3 hown hK.1 hP 0 rfl rfl 1 (by decide) (hts (.fieldLink RX3 20 "HedgeHoles" "land" "LHedgeHoles$Land;") (by decide +kernel)) (fun _ h9 => h9) rfl dX3_odds_47 ?_
              refine va_get (pc := 50) (D := D) (ci := 0) (v := .ref (aL 6)) (C := RX0) (T := TX0) (N := 8) hx hb hts inX3_odds_X0 hown hK.1 hP 4 rfl rfl 6 (by decide) (hts (.fieldLink RX3 93 "HedgeHoles$Land" "place" "[I") (by decide +kernel)) (fun _ h9 => h9) rfl dX3_odds_50 ?_
              refine lv_iload_n (pc := 53) hx hb dX3_odds_53 rfl (lv_at hl 1 rfl) ?_
              obtain ⟨h14, hf⟩ := gI_e hf
              refine va_iald (pc := 54) (f := L 6) (n := 5) hx hb hK.1 hP 8 0 rfl rfl h14 dX3_odds_54 ?_
              refine lv_aload_n (pc := 55) hx hb dX3_odds_55 rfl (lv_at hl 0 rfl) ?_
              refine va_get (pc := 56) (D := D) (ci := 3) (v := .ref oL) (C := RX3) (T := TX3) (N := 8) hx hb hts inX3_odds_X3 hown hK.1 hP 0 rfl rfl 1 (by decide) (hts (.fieldLink RX3 20 "HedgeHoles" "land" "LHedgeHoles$Land;") (by decide +kernel)) (fun _ h9 => h9) rfl dX3_odds_56 ?_
              refine va_get (pc := 59) (D := D) (ci := 0) (v := .ref (aL 4)) (C := RX0) (T := TX0) (N := 8) hx hb hts inX3_odds_X0 hown hK.1 hP 4 rfl rfl 4 (by decide) (hts (.fieldLink RX3 83 "HedgeHoles$Land" "kind" "[I") (by decide +kernel)) (fun _ h9 => h9) rfl dX3_odds_59 ?_
              refine lv_iload_n (pc := 62) hx hb dX3_odds_62 rfl (lv_at hl 1 rfl) ?_
              refine va_iald (pc := 63) (f := L 4) (n := 5) hx hb hK.1 hP 6 0 rfl rfl h14 dX3_odds_63 ?_
              refine lv_iload (pc := 64) hx hb dX3_odds_64 (lv_at hl 5 rfl) ?_
              obtain ⟨v15, h16, hf⟩ := bd hf
              refine roSi (pc := 66) (As := [.int (L 4 p0.toNatClampNeg), .int x5_10]) (rest := [.int (L 6 p0.toNatClampNeg), .ref oL]) CF (mtX3_thickness l D cI cZ cQ (L 4 p0.toNatClampNeg) x5_10 v15 h16) (va_cwS 2 hts gX3_odds_X3_thickness rfl rfl rfl hdX3_thickness ⟨Nat.le_of_ble_eq_true rfl, Nat.le_of_ble_eq_true rfl⟩) hK P0 rfl hl.1 rfl (Nat.le_of_ble_eq_true rfl) dX3_odds_66 ?_
              obtain ⟨v17, h18, hf⟩ := bd hf
              refine roVi (pc := 69) (As := [.int (L 6 p0.toNatClampNeg), .int v15]) (rest := []) CF (mtX0_reachOf l D cI cZ cQ oL aL L (L 6 p0.toNatClampNeg) v15 v17 h18) (cwV 2 hts gX3_odds_X0_reachOf rfl rfl rfl ⟨rfl, hdX0_reachOf⟩ ⟨Nat.le_of_ble_eq_true rfl, Nat.le_of_ble_eq_true rfl⟩) hK (va_P_sub' hP [4, 5, 6, 7, 8, 9] rfl) rfl rfl rfl rfl hl.1 rfl (Nat.le_of_ble_eq_true rfl) dX3_odds_69 ?_
              refine lv_istore (pc := 72) (lv' := [(6, .int v17), (0, .ref o), (1, .int p0), (2, .int p1), (3, .int p2), (4, .int x4_9), (5, .int x5_10)]) hx hb dX3_odds_72 hl (by decide) rfl (fun ls hl => ?_)
              refine lv_iload (pc := 74) hx hb dX3_odds_74 (lv_at hl 5 rfl) ?_
              refine lv_iload (pc := 76) hx hb dX3_odds_76 (lv_at hl 0 rfl) ?_
              refine lv_iload_n (pc := 78) hx hb dX3_odds_78 rfl (lv_at hl 3 rfl) ?_
              obtain ⟨v19, h20, hf⟩ := bd hf
              refine roSi (pc := 79) (As := [.int v17, .int p1]) (rest := [.int x4_9]) CF (mtX3_isIn l D cI cZ cQ v17 p1 v19 h20) (va_cwS 2 hts gX3_odds_X3_isIn rfl rfl rfl hdX3_isIn ⟨Nat.le_of_ble_eq_true rfl, Nat.le_of_ble_eq_true rfl⟩) hK P0 rfl hl.1 rfl (Nat.le_of_ble_eq_true rfl) dX3_odds_79 ?_
              obtain ⟨v21, hv, hf⟩ := bd hf
              have J22 : ∀ (ls : Array Slot), lv_has ls 7 [(0, .ref o), (1, .int p0), (2, .int p1), (3, .int p2), (4, .int x4_9), (5, .int x5_10), (6, .int v17)] → W p l e rmX3_odds s m args below meth c s.heap [] 0 0 Q (F0 m 90 ls [.int v21, .int x4_9]) := by
                intro ls hl
                refine lv_iadd (pc := 90) hx hb dX3_odds_90 ?_
                refine lv_istore (pc := 91) (lv' := [(4, .int (x4_9 + v21)), (0, .ref o), (1, .int p0), (2, .int p1), (3, .int p2), (5, .int x5_10), (6, .int v17)]) hx hb dX3_odds_91 hl (by decide) rfl (fun ls hl => ?_)
                refine lv_iinc (pc := 93) (v := (x5_10 + 1)) (lv' := [(5, .int (x5_10 + 1)), (4, .int (x4_9 + v21)), (0, .ref o), (1, .int p0), (2, .int p1), (3, .int p2), (6, .int v17)]) hx hb dX3_odds_93 hl (k := 5) rfl rfl (by decide) rfl (fun ls hl => ?_)
                refine lv_goto (pc := 96) (tgt := 35) hx hb dX3_odds_96 (by decide) ?_
                exact hslf _ _ hf ls (lv_sub hl [2, 3, 4, 5, 1, 0] rfl)
              clear hf
              have hf := hv
              clear hv
              refine lv_if_eq (pc := 82) (tgt := 89) hx hb dX3_odds_82 (by decide) (fun c23 => ?_) (fun c23 => ?_)
              · have hf := iT c23 hf
                refine lv_iconst (pc := 89) (v := 0) hx hb dX3_odds_89 (by decide) ?_
                obtain rfl := Option.some.inj hf
                exact J22 ls (lv_sub hl [1, 2, 3, 4, 5, 6, 0] rfl)
              · have hf := iF c23 hf
                refine lv_iconst (pc := 85) (v := 1) hx hb dX3_odds_85 (by decide) ?_
                refine lv_goto (pc := 86) (tgt := 90) hx hb dX3_odds_86 (by decide) ?_
                obtain rfl := Option.some.inj hf
                exact J22 ls (lv_sub hl [1, 2, 3, 4, 5, 6, 0] rfl)
        · have hf := iF c8 hf
          refine lv_ldc2 (pc := 25) (v := (-9223372036854775808)) hx hb hown (hts (.constantLong RX3 187 (-9223372036854775808)) (by decide +kernel)) dX3_odds_25 ?_
          obtain rfl := Option.some.inj hf
          exact hRet 28 ls dX3_odds_28
theorem hdX3_odds : yX3_odds.cls ≠ "java/lang/invoke/MethodHandle" ∧ yX3_odds.cls ≠ "java/lang/invoke/VarHandle" ∧ (parseMethodDescriptor yX3_odds.desc).map (fun d => d.parameters.length) = some 3 := by decide +kernel
abbrev rmX3_sheet : Room := { frames := 2, cells := 0, slots := 0, locals := 45 }
theorem inX3_sheet_X3 : ∀ w ∈ wsX30, w ∈ wsX3_sheet := fun _ h => List.mem_cons_of_mem _ (List.mem_append_left _ (List.mem_append_right _ h))
set_option maxHeartbeats 4000000 in
set_option maxRecDepth 100000 in
theorem mtX3_sheet (l : Launch) (D : va_G) (cI cZ cQ : ClassId) (o ra : Nat) (rr : Nat → Nat) (k rc : Nat) (oL : Nat) (aL : Nat → Nat) (oT : Nat) (aT : Nat → Nat) (oN : Nat) (aN : Nat → Nat) (X R L T N : Bk) (p0 : Int32) (p1 : Int32) (p2 : Int32) (sz : Nat) (out : (Int32 × Bk × Bk)) (hf : fX3_sheet k X R p0 p1 p2 = some out) : Met l yX3_sheet wsX3_sheet rmX3_sheet (WrP D cI cZ cQ [.ref o, .int p0, .int p1, .int p2] (wX cI cZ cQ o ra rr k rc oL aL oT aT oN aN X R L T N) sz) (WrQi D out.1 (wX cI cZ cQ o ra rr k rc oL aL oT aT oN aN X R L T N) (wX cI cZ cQ o ra rr k rc oL aL oT aT oN aN out.2.1 out.2.2 L T N) sz) 0 0 (va_A (wX cI cZ cQ o ra rr k rc oL aL oT aT oN aN X R L T N) sz) := by
  refine metWi (ty := .int) (cc := cX3_sheet) (maxL := 4) (by decide) rfl (Nat.le_of_ble_eq_true rfl) ?_
  intro p e s m args below meth c Q A CF hK hP hD hA hRet ls hl
  obtain ⟨hx, hb, hml, hown, hts⟩ := id CF
  have hS : va_S A s.heap s.heap [] := va_S.rf
  have hl : lv_has ls 4 [(0, .ref o), (1, .int p0), (2, .int p1), (3, .int p2)] := hl
  unfold fX3_sheet at hf
  refine lv_aload_n (pc := 0) hx hb dX3_sheet_0 rfl (lv_at hl 0 rfl) ?_
  refine lv_iconst (pc := 1) (v := 0) hx hb dX3_sheet_1 (by decide) ?_
  refine va_put (pc := 2) (D := D) (ci := 3) (v := .int 0) (ty := .int) (C := RX3) (T := TX3) (N := 8) hx hb hts inX3_sheet_X3 tyX3 tyX3_ok nmX3 hown hK.1 hP hD hS 0 rfl rfl 7 (by decide) (hts (.fieldLink RX3 44 "HedgeHoles" "lastFault" "I") (by decide +kernel)) (fun _ h9 => h9) rfl (by decide +kernel) (vp_nar_int _) rfl (Nat.le_of_ble_eq_true rfl) dX3_sheet_2 (fun H locs hP hD hS => ?_)
  have hP : va_P D vwCl (wX cI cZ cQ o ra rr k rc oL aL oT aT oN aN (sB X 7 0 0) R L T N) H := hP
  have hD : va_D A (wX cI cZ cQ o ra rr k rc oL aL oT aT oN aN (sB X 7 0 0) R L T N) := hD
  obtain ⟨X_1, h2, hf⟩ := bd hf
  have h2 := Option.some.inj h2
  rw [h2] at hP hD
  refine lv_iload_n (pc := 5) hx hb dX3_sheet_5 rfl (lv_at hl 1 rfl) ?_
  obtain ⟨v3, h4, hf⟩ := bd hf
  refine roSi (pc := 6) (As := [.int p0]) (rest := []) CF (mtX3_isSheet l D cI cZ cQ p0 v3 h4) (va_cwS 1 hts gX3_sheet_X3_isSheet rfl rfl rfl hdX3_isSheet ⟨Nat.le_of_ble_eq_true rfl, Nat.le_of_ble_eq_true rfl⟩) hK P0 rfl hl.1 rfl (Nat.le_of_ble_eq_true rfl) dX3_sheet_6 ?_
  refine lv_if_ne (pc := 9) (tgt := 14) hx hb dX3_sheet_9 (by decide) (fun c5 => ?_) (fun c5 => ?_)
  · have hf := iF c5 hf
    refine lv_iload_n (pc := 14) hx hb dX3_sheet_14 rfl (lv_at hl 2 rfl) ?_
    obtain ⟨v6, h7, hf⟩ := bd hf
    refine roSi (pc := 15) (As := [.int p1]) (rest := []) CF (mtX3_isLane l D cI cZ cQ p1 v6 h7) (va_cwS 1 hts gX3_sheet_X3_isLane rfl rfl rfl hdX3_isLane ⟨Nat.le_of_ble_eq_true rfl, Nat.le_of_ble_eq_true rfl⟩) hK P0 rfl hl.1 rfl (Nat.le_of_ble_eq_true rfl) dX3_sheet_15 ?_
    refine lv_if_eq (pc := 18) (tgt := 27) hx hb dX3_sheet_18 (by decide) (fun c8 => ?_) (fun c8 => ?_)
    · have hf := iT c8 hf
      refine lv_bipush (pc := 27) (v := (-2)) hx hb dX3_sheet_27 (by decide) ?_
      obtain rfl := Option.some.inj hf
      exact hRet 29 ls H locs (vp_nar_int _) dX3_sheet_29 hP hS
    · have hf := iF c8 hf
      refine lv_iload_n (pc := 21) hx hb dX3_sheet_21 rfl (lv_at hl 3 rfl) ?_
      refine lv_bipush (pc := 22) (v := 60) hx hb dX3_sheet_22 (by decide) ?_
      refine lv_icmp_le (pc := 24) (tgt := 30) hx hb dX3_sheet_24 (by decide) (fun c9 => ?_) (fun c9 => ?_)
      · have hf := iT c9 hf
        refine lv_iload_n (pc := 30) hx hb dX3_sheet_30 rfl (lv_at hl 3 rfl) ?_
        refine lv_if_ge (pc := 31) (tgt := 40) hx hb dX3_sheet_31 (by decide) (fun c10 => ?_) (fun c10 => ?_)
        · have hf := iT c10 hf
          refine lv_aload_n (pc := 40) hx hb dX3_sheet_40 rfl (lv_at hl 0 rfl) ?_
          refine va_get (pc := 41) (D := D) (ci := 3) (v := .ref ra) (C := RX3) (T := TX3) (N := 8) hx hb hts inX3_sheet_X3 hown hK.1 hP 0 rfl rfl 0 (by decide) (hts (.fieldLink RX3 13 "HedgeHoles" "rows" "[LHedgeHoles$Row;") (by decide +kernel)) (fun _ h9 => h9) rfl dX3_sheet_41 ?_
          refine lv_iload_n (pc := 44) hx hb dX3_sheet_44 rfl (lv_at hl 1 rfl) ?_
          obtain ⟨h11, hf⟩ := gI_e hf
          obtain ⟨h12, hf⟩ := gE_e hf
          refine va_aldq (pc := 45) (f := fun i => some (rr i)) (n := 4) hx hb hK.1 hP 1 2 rfl rfl h11 dX3_sheet_45 ?_
          rw [h12]
          refine W.eq (g2 := F0 m 46 ls [.ref (rr k)]) rfl ?_
          refine lv_iload_n (pc := 46) hx hb dX3_sheet_46 rfl (lv_at hl 2 rfl) ?_
          refine lv_iload_n (pc := 47) hx hb dX3_sheet_47 rfl (lv_at hl 3 rfl) ?_
          obtain ⟨v13, h14, hf⟩ := bd hf
          refine wrVv (pc := 48) (As := [.int p1, .int p2]) (rest := []) (wB' := wX cI cZ cQ o ra rr k rc oL aL oT aT oN aN X_1 v13 L T N) CF (mtX2_begin l D cI cZ cQ (rr k) (fun _ => rc) R p1 p2 H.size v13 h14) (cwV 2 hts gX3_sheet_X2_begin rfl rfl rfl ⟨rfl, hdX2_begin⟩ ⟨Nat.le_of_ble_eq_true rfl, Nat.le_of_ble_eq_true rfl⟩) hK hP hD hS hA [2, 3] rfl (by decide) rfl rfl rfl rfl rfl rfl rfl hl.1 rfl (Nat.le_of_ble_eq_true rfl) dX3_sheet_48 (fun H locs hP hD hS => ?_)
          refine lv_iconst (pc := 51) (v := 1) hx hb dX3_sheet_51 (by decide) ?_
          obtain rfl := Option.some.inj hf
          exact hRet 52 ls H locs (vp_nar_int _) dX3_sheet_52 hP hS
        · have hf := iF c10 hf
          refine lv_aload_n (pc := 34) hx hb dX3_sheet_34 rfl (lv_at hl 0 rfl) ?_
          refine lv_iconst (pc := 35) (v := 4) hx hb dX3_sheet_35 (by decide) ?_
          obtain ⟨v15, h16, hf⟩ := bd hf
          refine wsVi (pc := 36) (As := [.int 4]) (rest := []) (w1 := wX cI cZ cQ o ra rr k rc oL aL oT aT oN aN v15.2 R L T N) CF (mtX3_failed l D cI cZ cQ o ra rr k rc oL aL oT aT oN aN X_1 R L T N 4 H.size v15 h16) (cwV 1 hts gX3_sheet_X3_failed rfl rfl rfl ⟨rfl, hdX3_failed⟩ ⟨Nat.le_of_ble_eq_true rfl, Nat.le_of_ble_eq_true rfl⟩) hK hP hD hS hA rfl rfl rfl rfl rfl hl.1 rfl (Nat.le_of_ble_eq_true rfl) dX3_sheet_36 (fun H locs hP hD hS => ?_)
          obtain rfl := Option.some.inj hf
          exact hRet 39 ls H locs (vp_nar_int _) dX3_sheet_39 hP hS
      · have hf := iF c9 hf
        refine lv_bipush (pc := 27) (v := (-2)) hx hb dX3_sheet_27 (by decide) ?_
        obtain rfl := Option.some.inj hf
        exact hRet 29 ls H locs (vp_nar_int _) dX3_sheet_29 hP hS
  · have hf := iT c5 hf
    refine lv_iconst (pc := 12) (v := (-1)) hx hb dX3_sheet_12 (by decide) ?_
    obtain rfl := Option.some.inj hf
    exact hRet 13 ls H locs (vp_nar_int _) dX3_sheet_13 hP hS
theorem hdX3_sheet : yX3_sheet.cls ≠ "java/lang/invoke/MethodHandle" ∧ yX3_sheet.cls ≠ "java/lang/invoke/VarHandle" ∧ (parseMethodDescriptor yX3_sheet.desc).map (fun d => d.parameters.length) = some 3 := by decide +kernel
abbrev rmX3_lose : Room := { frames := 1, cells := 0, slots := 0, locals := 20 }
theorem inX3_lose_X2 : ∀ w ∈ wsX20, w ∈ wsX3_lose := fun _ h => List.mem_cons_of_mem _ (List.mem_append_right _ h)
theorem inX3_lose_X3 : ∀ w ∈ wsX30, w ∈ wsX3_lose := fun _ h => List.mem_cons_of_mem _ (List.mem_append_left _ (List.mem_append_right _ h))
set_option maxHeartbeats 4000000 in
set_option maxRecDepth 100000 in
theorem mtX3_lose (l : Launch) (D : va_G) (cI cZ cQ : ClassId) (o ra : Nat) (rr : Nat → Nat) (k rc : Nat) (oL : Nat) (aL : Nat → Nat) (oT : Nat) (aT : Nat → Nat) (oN : Nat) (aN : Nat → Nat) (X R L T N : Bk) (p0 : Int32) (sz : Nat) (out : (Int32 × Bk)) (hf : fX3_lose k R p0 = some out) : Met l yX3_lose wsX3_lose rmX3_lose (WrP D cI cZ cQ [.ref o, .int p0] (wX cI cZ cQ o ra rr k rc oL aL oT aT oN aN X R L T N) sz) (WrQi D out.1 (wX cI cZ cQ o ra rr k rc oL aL oT aT oN aN X R L T N) (wX cI cZ cQ o ra rr k rc oL aL oT aT oN aN X out.2 L T N) sz) 0 0 (va_A (wX cI cZ cQ o ra rr k rc oL aL oT aT oN aN X R L T N) sz) := by
  refine metWi (ty := .int) (cc := cX3_lose) (maxL := 3) (by decide) rfl (Nat.le_of_ble_eq_true rfl) ?_
  intro p e s m args below meth c Q A CF hK hP hD hA hRet ls hl
  obtain ⟨hx, hb, hml, hown, hts⟩ := id CF
  have hS : va_S A s.heap s.heap [] := va_S.rf
  have hl : lv_has ls 3 [(0, .ref o), (1, .int p0)] := hl
  unfold fX3_lose at hf
  refine lv_iload_n (pc := 0) hx hb dX3_lose_0 rfl (lv_at hl 1 rfl) ?_
  obtain ⟨v1, h2, hf⟩ := bd hf
  refine roSi (pc := 1) (As := [.int p0]) (rest := []) CF (mtX3_isSheet l D cI cZ cQ p0 v1 h2) (va_cwS 1 hts gX3_lose_X3_isSheet rfl rfl rfl hdX3_isSheet ⟨Nat.le_of_ble_eq_true rfl, Nat.le_of_ble_eq_true rfl⟩) hK P0 rfl hl.1 rfl (Nat.le_of_ble_eq_true rfl) dX3_lose_1 ?_
  refine lv_if_ne (pc := 4) (tgt := 9) hx hb dX3_lose_4 (by decide) (fun c3 => ?_) (fun c3 => ?_)
  · have hf := iF c3 hf
    refine lv_aload_n (pc := 9) hx hb dX3_lose_9 rfl (lv_at hl 0 rfl) ?_
    refine va_get (pc := 10) (D := D) (ci := 3) (v := .ref ra) (C := RX3) (T := TX3) (N := 8) hx hb hts inX3_lose_X3 hown hK.1 hP 0 rfl rfl 0 (by decide) (hts (.fieldLink RX3 13 "HedgeHoles" "rows" "[LHedgeHoles$Row;") (by decide +kernel)) (fun _ h9 => h9) rfl dX3_lose_10 ?_
    refine lv_iload_n (pc := 13) hx hb dX3_lose_13 rfl (lv_at hl 1 rfl) ?_
    obtain ⟨h4, hf⟩ := gI_e hf
    obtain ⟨h5, hf⟩ := gE_e hf
    refine va_aldq (pc := 14) (f := fun i => some (rr i)) (n := 4) hx hb hK.1 hP 1 2 rfl rfl h4 dX3_lose_14 ?_
    rw [h5]
    refine W.eq (g2 := F0 m 15 ls [.ref (rr k)]) rfl ?_
    refine va_get (pc := 15) (D := D) (ci := 2) (v := .int (R 1 0)) (C := RX2) (T := TX2) (N := 4) hx hb hts inX3_lose_X2 hown hK.1 hP 2 rfl rfl 1 (by decide) (hts (.fieldLink RX3 198 "HedgeHoles$Row" "there" "Z") (by decide +kernel)) (fun _ h9 => h9) rfl dX3_lose_15 ?_
    obtain ⟨v6, hv, hf⟩ := bd hf
    have J7 : ∀ (ls : Array Slot), lv_has ls 3 [(0, .ref o), (1, .int p0)] → W p l e rmX3_lose s m args below meth c s.heap [] 0 0 Q (F0 m 26 ls [.int v6]) := by
      intro ls hl
      refine lv_istore_n (pc := 26) (lv' := [(2, .int v6), (0, .ref o), (1, .int p0)]) hx hb dX3_lose_26 rfl hl (by decide) rfl (fun ls hl => ?_)
      refine lv_aload_n (pc := 27) hx hb dX3_lose_27 rfl (lv_at hl 1 rfl) ?_
      refine va_get (pc := 28) (D := D) (ci := 3) (v := .ref ra) (C := RX3) (T := TX3) (N := 8) hx hb hts inX3_lose_X3 hown hK.1 hP 0 rfl rfl 0 (by decide) (hts (.fieldLink RX3 13 "HedgeHoles" "rows" "[LHedgeHoles$Row;") (by decide +kernel)) (fun _ h9 => h9) rfl dX3_lose_28 ?_
      refine lv_iload_n (pc := 31) hx hb dX3_lose_31 rfl (lv_at hl 2 rfl) ?_
      refine va_aldq (pc := 32) (f := fun i => some (rr i)) (n := 4) hx hb hK.1 hP 1 2 rfl rfl h4 dX3_lose_32 ?_
      rw [h5]
      refine W.eq (g2 := F0 m 33 ls [.ref (rr k)]) rfl ?_
      refine lv_iconst (pc := 33) (v := 0) hx hb dX3_lose_33 (by decide) ?_
      refine va_put (pc := 34) (D := D) (ci := 2) (v := .int 0) (ty := .boolean) (C := RX2) (T := TX2) (N := 4) hx hb hts inX3_lose_X2 tyX2 tyX2_ok nmX2 hown hK.1 hP hD hS 2 rfl rfl 1 (by decide) (hts (.fieldLink RX3 198 "HedgeHoles$Row" "there" "Z") (by decide +kernel)) (fun _ h9 => h9) rfl (by decide +kernel) rfl rfl (Nat.le_of_ble_eq_true rfl) dX3_lose_34 (fun H locs hP hD hS => ?_)
      have hP : va_P D vwCl (wX cI cZ cQ o ra rr k rc oL aL oT aT oN aN X (sB R 1 0 0) L T N) H := hP
      have hD : va_D A (wX cI cZ cQ o ra rr k rc oL aL oT aT oN aN X (sB R 1 0 0) L T N) := hD
      obtain ⟨R_8, h9, hf⟩ := bd hf
      have h9 := Option.some.inj h9
      rw [h9] at hP hD
      refine lv_iload_n (pc := 37) hx hb dX3_lose_37 rfl (lv_at hl 0 rfl) ?_
      obtain rfl := Option.some.inj hf
      exact hRet 38 ls H locs (vp_nar_int _) dX3_lose_38 hP hS
    clear hf
    have hf := hv
    clear hv
    refine lv_if_eq (pc := 18) (tgt := 25) hx hb dX3_lose_18 (by decide) (fun c10 => ?_) (fun c10 => ?_)
    · have hf := iT c10 hf
      refine lv_iconst (pc := 25) (v := 0) hx hb dX3_lose_25 (by decide) ?_
      obtain rfl := Option.some.inj hf
      exact J7 ls (lv_sub hl [0, 1] rfl)
    · have hf := iF c10 hf
      refine lv_iconst (pc := 21) (v := 1) hx hb dX3_lose_21 (by decide) ?_
      refine lv_goto (pc := 22) (tgt := 26) hx hb dX3_lose_22 (by decide) ?_
      obtain rfl := Option.some.inj hf
      exact J7 ls (lv_sub hl [0, 1] rfl)
  · have hf := iT c3 hf
    refine lv_iconst (pc := 7) (v := (-1)) hx hb dX3_lose_7 (by decide) ?_
    obtain rfl := Option.some.inj hf
    exact hRet 8 ls s.heap [] (vp_nar_int _) dX3_lose_8 hP hS
theorem hdX3_lose : yX3_lose.cls ≠ "java/lang/invoke/MethodHandle" ∧ yX3_lose.cls ≠ "java/lang/invoke/VarHandle" ∧ (parseMethodDescriptor yX3_lose.desc).map (fun d => d.parameters.length) = some 1 := by decide +kernel
abbrev rmX3_put : Room := { frames := 1, cells := 0, slots := 0, locals := 22 }
theorem inX3_put_X2 : ∀ w ∈ wsX20, w ∈ wsX3_put := fun _ h => List.mem_cons_of_mem _ (List.mem_append_right _ h)
theorem inX3_put_X3 : ∀ w ∈ wsX30, w ∈ wsX3_put := fun _ h => List.mem_cons_of_mem _ (List.mem_append_left _ (List.mem_append_right _ h))
set_option maxHeartbeats 4000000 in
set_option maxRecDepth 100000 in
theorem mtX3_put (l : Launch) (D : va_G) (cI cZ cQ : ClassId) (o ra : Nat) (rr : Nat → Nat) (k rc : Nat) (oL : Nat) (aL : Nat → Nat) (oT : Nat) (aT : Nat → Nat) (oN : Nat) (aN : Nat → Nat) (X R L T N : Bk) (p0 : Int32) (p1 : Int32) (p2 : Int32) (sz : Nat) (out : (Int32 × Bk × Bk)) (hf : fX3_put k X R p0 p1 p2 = some out) : Met l yX3_put wsX3_put rmX3_put (WrP D cI cZ cQ [.ref o, .int p0, .int p1, .int p2] (wX cI cZ cQ o ra rr k rc oL aL oT aT oN aN X R L T N) sz) (WrQi D out.1 (wX cI cZ cQ o ra rr k rc oL aL oT aT oN aN X R L T N) (wX cI cZ cQ o ra rr k rc oL aL oT aT oN aN out.2.1 out.2.2 L T N) sz) 0 0 (va_A (wX cI cZ cQ o ra rr k rc oL aL oT aT oN aN X R L T N) sz) := by
  refine metWi (ty := .int) (cc := cX3_put) (maxL := 4) (by decide) rfl (Nat.le_of_ble_eq_true rfl) ?_
  intro p e s m args below meth c Q A CF hK hP hD hA hRet ls hl
  obtain ⟨hx, hb, hml, hown, hts⟩ := id CF
  have hS : va_S A s.heap s.heap [] := va_S.rf
  have hl : lv_has ls 4 [(0, .ref o), (1, .int p0), (2, .int p1), (3, .int p2)] := hl
  unfold fX3_put at hf
  refine lv_aload_n (pc := 0) hx hb dX3_put_0 rfl (lv_at hl 0 rfl) ?_
  refine lv_iconst (pc := 1) (v := 0) hx hb dX3_put_1 (by decide) ?_
  refine va_put (pc := 2) (D := D) (ci := 3) (v := .int 0) (ty := .int) (C := RX3) (T := TX3) (N := 8) hx hb hts inX3_put_X3 tyX3 tyX3_ok nmX3 hown hK.1 hP hD hS 0 rfl rfl 7 (by decide) (hts (.fieldLink RX3 44 "HedgeHoles" "lastFault" "I") (by decide +kernel)) (fun _ h9 => h9) rfl (by decide +kernel) (vp_nar_int _) rfl (Nat.le_of_ble_eq_true rfl) dX3_put_2 (fun H locs hP hD hS => ?_)
  have hP : va_P D vwCl (wX cI cZ cQ o ra rr k rc oL aL oT aT oN aN (sB X 7 0 0) R L T N) H := hP
  have hD : va_D A (wX cI cZ cQ o ra rr k rc oL aL oT aT oN aN (sB X 7 0 0) R L T N) := hD
  obtain ⟨X_1, h2, hf⟩ := bd hf
  have h2 := Option.some.inj h2
  rw [h2] at hP hD
  refine lv_iload_n (pc := 5) hx hb dX3_put_5 rfl (lv_at hl 1 rfl) ?_
  obtain ⟨v3, h4, hf⟩ := bd hf
  refine roSi (pc := 6) (As := [.int p0]) (rest := []) CF (mtX3_isSheet l D cI cZ cQ p0 v3 h4) (va_cwS 1 hts gX3_put_X3_isSheet rfl rfl rfl hdX3_isSheet ⟨Nat.le_of_ble_eq_true rfl, Nat.le_of_ble_eq_true rfl⟩) hK P0 rfl hl.1 rfl (Nat.le_of_ble_eq_true rfl) dX3_put_6 ?_
  refine lv_if_ne (pc := 9) (tgt := 14) hx hb dX3_put_9 (by decide) (fun c5 => ?_) (fun c5 => ?_)
  · have hf := iF c5 hf
    refine lv_aload_n (pc := 14) hx hb dX3_put_14 rfl (lv_at hl 0 rfl) ?_
    refine va_get (pc := 15) (D := D) (ci := 3) (v := .ref ra) (C := RX3) (T := TX3) (N := 8) hx hb hts inX3_put_X3 hown hK.1 hP 0 rfl rfl 0 (by decide) (hts (.fieldLink RX3 13 "HedgeHoles" "rows" "[LHedgeHoles$Row;") (by decide +kernel)) (fun _ h9 => h9) rfl dX3_put_15 ?_
    refine lv_iload_n (pc := 18) hx hb dX3_put_18 rfl (lv_at hl 1 rfl) ?_
    obtain ⟨h6, hf⟩ := gI_e hf
    obtain ⟨h7, hf⟩ := gE_e hf
    refine va_aldq (pc := 19) (f := fun i => some (rr i)) (n := 4) hx hb hK.1 hP 1 2 rfl rfl h6 dX3_put_19 ?_
    rw [h7]
    refine W.eq (g2 := F0 m 20 ls [.ref (rr k)]) rfl ?_
    refine va_get (pc := 20) (D := D) (ci := 2) (v := .int (R 1 0)) (C := RX2) (T := TX2) (N := 4) hx hb hts inX3_put_X2 hown hK.1 hP 2 rfl rfl 1 (by decide) (hts (.fieldLink RX3 198 "HedgeHoles$Row" "there" "Z") (by decide +kernel)) (fun _ h9 => h9) rfl dX3_put_20 ?_
    refine lv_if_ne (pc := 23) (tgt := 32) hx hb dX3_put_23 (by decide) (fun c8 => ?_) (fun c8 => ?_)
    · have hf := iF c8 hf
      refine lv_aload_n (pc := 32) hx hb dX3_put_32 rfl (lv_at hl 0 rfl) ?_
      refine va_get (pc := 33) (D := D) (ci := 3) (v := .ref ra) (C := RX3) (T := TX3) (N := 8) hx hb hts inX3_put_X3 hown hK.1 hP 0 rfl rfl 0 (by decide) (hts (.fieldLink RX3 13 "HedgeHoles" "rows" "[LHedgeHoles$Row;") (by decide +kernel)) (fun _ h9 => h9) rfl dX3_put_33 ?_
      refine lv_iload_n (pc := 36) hx hb dX3_put_36 rfl (lv_at hl 1 rfl) ?_
      refine va_aldq (pc := 37) (f := fun i => some (rr i)) (n := 4) hx hb hK.1 hP 1 2 rfl rfl h6 dX3_put_37 ?_
      rw [h7]
      refine W.eq (g2 := F0 m 38 ls [.ref (rr k)]) rfl ?_
      refine lv_iload_n (pc := 38) hx hb dX3_put_38 rfl (lv_at hl 2 rfl) ?_
      refine lv_iconst (pc := 39) (v := 1) hx hb dX3_put_39 (by decide) ?_
      obtain ⟨v9, h10, hf⟩ := bd hf
      refine roVi (pc := 40) (As := [.int p1, .int 1]) (rest := []) CF (mtX2_spans l D cI cZ cQ (rr k) (fun _ => rc) R p1 1 v9 h10) (cwV 2 hts gX3_put_X2_spans rfl rfl rfl ⟨rfl, hdX2_spans⟩ ⟨Nat.le_of_ble_eq_true rfl, Nat.le_of_ble_eq_true rfl⟩) hK (va_P_sub' hP [2, 3] rfl) rfl rfl rfl rfl hl.1 rfl (Nat.le_of_ble_eq_true rfl) dX3_put_40 ?_
      refine lv_if_ne (pc := 43) (tgt := 52) hx hb dX3_put_43 (by decide) (fun c11 => ?_) (fun c11 => ?_)
      · have hf := iF c11 hf
        refine lv_aload_n (pc := 52) hx hb dX3_put_52 rfl (lv_at hl 0 rfl) ?_
        refine va_get (pc := 53) (D := D) (ci := 3) (v := .ref ra) (C := RX3) (T := TX3) (N := 8) hx hb hts inX3_put_X3 hown hK.1 hP 0 rfl rfl 0 (by decide) (hts (.fieldLink RX3 13 "HedgeHoles" "rows" "[LHedgeHoles$Row;") (by decide +kernel)) (fun _ h9 => h9) rfl dX3_put_53 ?_
        refine lv_iload_n (pc := 56) hx hb dX3_put_56 rfl (lv_at hl 1 rfl) ?_
        refine va_aldq (pc := 57) (f := fun i => some (rr i)) (n := 4) hx hb hK.1 hP 1 2 rfl rfl h6 dX3_put_57 ?_
        rw [h7]
        refine W.eq (g2 := F0 m 58 ls [.ref (rr k)]) rfl ?_
        refine va_get (pc := 58) (D := D) (ci := 2) (v := .ref rc) (C := RX2) (T := TX2) (N := 4) hx hb hts inX3_put_X2 hown hK.1 hP 2 rfl rfl 0 (by decide) (hts (.fieldLink RX3 202 "HedgeHoles$Row" "cells" "[I") (by decide +kernel)) (fun _ h9 => h9) rfl dX3_put_58 ?_
        refine lv_iload_n (pc := 61) hx hb dX3_put_61 rfl (lv_at hl 2 rfl) ?_
        refine lv_aload_n (pc := 62) hx hb dX3_put_62 rfl (lv_at hl 0 rfl) ?_
        refine va_get (pc := 63) (D := D) (ci := 3) (v := .ref ra) (C := RX3) (T := TX3) (N := 8) hx hb hts inX3_put_X3 hown hK.1 hP 0 rfl rfl 0 (by decide) (hts (.fieldLink RX3 13 "HedgeHoles" "rows" "[LHedgeHoles$Row;") (by decide +kernel)) (fun _ h9 => h9) rfl dX3_put_63 ?_
        refine lv_iload_n (pc := 66) hx hb dX3_put_66 rfl (lv_at hl 1 rfl) ?_
        refine va_aldq (pc := 67) (f := fun i => some (rr i)) (n := 4) hx hb hK.1 hP 1 2 rfl rfl h6 dX3_put_67 ?_
        rw [h7]
        refine W.eq (g2 := F0 m 68 ls [.ref (rr k), .int p1, .ref rc]) rfl ?_
        refine va_get (pc := 68) (D := D) (ci := 2) (v := .int (R 2 0)) (C := RX2) (T := TX2) (N := 4) hx hb hts inX3_put_X2 hown hK.1 hP 2 rfl rfl 2 (by decide) (hts (.fieldLink RX3 205 "HedgeHoles$Row" "lane" "I") (by decide +kernel)) (fun _ h9 => h9) rfl dX3_put_68 ?_
        refine lv_iload_n (pc := 71) hx hb dX3_put_71 rfl (lv_at hl 3 rfl) ?_
        obtain ⟨v12, h13, hf⟩ := bd hf
        refine roSi (pc := 72) (As := [.int (R 2 0), .int p2]) (rest := [.int p1, .ref rc]) CF (mtX3_cutTo l D cI cZ cQ (R 2 0) p2 v12 h13) (va_cwS 2 hts gX3_put_X3_cutTo rfl rfl rfl hdX3_cutTo ⟨Nat.le_of_ble_eq_true rfl, Nat.le_of_ble_eq_true rfl⟩) hK P0 rfl hl.1 rfl (Nat.le_of_ble_eq_true rfl) dX3_put_72 ?_
        obtain ⟨h14, hf⟩ := gI_e hf
        refine va_iast (pc := 75) (f := R 0) (n := 60) hx hb hK.1 hP hD hS 3 0 rfl rfl h14 dX3_put_75 (fun H locs hP hD hS => ?_)
        have hP : va_P D vwCl (wX cI cZ cQ o ra rr k rc oL aL oT aT oN aN X_1 (sB R 0 p1.toNatClampNeg v12) L T N) H := hP
        have hD : va_D A (wX cI cZ cQ o ra rr k rc oL aL oT aT oN aN X_1 (sB R 0 p1.toNatClampNeg v12) L T N) := hD
        obtain ⟨R_15, h16, hf⟩ := bd hf
        have h16 := Option.some.inj h16
        rw [h16] at hP hD
        refine lv_iconst (pc := 76) (v := 1) hx hb dX3_put_76 (by decide) ?_
        obtain rfl := Option.some.inj hf
        exact hRet 77 ls H locs (vp_nar_int _) dX3_put_77 hP hS
      · have hf := iT c11 hf
        refine lv_aload_n (pc := 46) hx hb dX3_put_46 rfl (lv_at hl 0 rfl) ?_
        refine lv_iconst (pc := 47) (v := 3) hx hb dX3_put_47 (by decide) ?_
        obtain ⟨v17, h18, hf⟩ := bd hf
        refine wsVi (pc := 48) (As := [.int 3]) (rest := []) (w1 := wX cI cZ cQ o ra rr k rc oL aL oT aT oN aN v17.2 R L T N) CF (mtX3_failed l D cI cZ cQ o ra rr k rc oL aL oT aT oN aN X_1 R L T N 3 H.size v17 h18) (cwV 1 hts gX3_put_X3_failed rfl rfl rfl ⟨rfl, hdX3_failed⟩ ⟨Nat.le_of_ble_eq_true rfl, Nat.le_of_ble_eq_true rfl⟩) hK hP hD hS hA rfl rfl rfl rfl rfl hl.1 rfl (Nat.le_of_ble_eq_true rfl) dX3_put_48 (fun H locs hP hD hS => ?_)
        obtain rfl := Option.some.inj hf
        exact hRet 51 ls H locs (vp_nar_int _) dX3_put_51 hP hS
    · have hf := iT c8 hf
      refine lv_aload_n (pc := 26) hx hb dX3_put_26 rfl (lv_at hl 0 rfl) ?_
      refine lv_iconst (pc := 27) (v := 1) hx hb dX3_put_27 (by decide) ?_
      obtain ⟨v19, h20, hf⟩ := bd hf
      refine wsVi (pc := 28) (As := [.int 1]) (rest := []) (w1 := wX cI cZ cQ o ra rr k rc oL aL oT aT oN aN v19.2 R L T N) CF (mtX3_failed l D cI cZ cQ o ra rr k rc oL aL oT aT oN aN X_1 R L T N 1 H.size v19 h20) (cwV 1 hts gX3_put_X3_failed rfl rfl rfl ⟨rfl, hdX3_failed⟩ ⟨Nat.le_of_ble_eq_true rfl, Nat.le_of_ble_eq_true rfl⟩) hK hP hD hS hA rfl rfl rfl rfl rfl hl.1 rfl (Nat.le_of_ble_eq_true rfl) dX3_put_28 (fun H locs hP hD hS => ?_)
      obtain rfl := Option.some.inj hf
      exact hRet 31 ls H locs (vp_nar_int _) dX3_put_31 hP hS
  · have hf := iT c5 hf
    refine lv_iconst (pc := 12) (v := (-1)) hx hb dX3_put_12 (by decide) ?_
    obtain rfl := Option.some.inj hf
    exact hRet 13 ls H locs (vp_nar_int _) dX3_put_13 hP hS
theorem hdX3_put : yX3_put.cls ≠ "java/lang/invoke/MethodHandle" ∧ yX3_put.cls ≠ "java/lang/invoke/VarHandle" ∧ (parseMethodDescriptor yX3_put.desc).map (fun d => d.parameters.length) = some 3 := by decide +kernel
abbrev rmX3_cell : Room := { frames := 1, cells := 0, slots := 0, locals := 22 }
theorem inX3_cell_X2 : ∀ w ∈ wsX20, w ∈ wsX3_cell := fun _ h => List.mem_cons_of_mem _ (List.mem_append_right _ h)
theorem inX3_cell_X3 : ∀ w ∈ wsX30, w ∈ wsX3_cell := fun _ h => List.mem_cons_of_mem _ (List.mem_append_left _ (List.mem_append_right _ h))
set_option maxHeartbeats 4000000 in
set_option maxRecDepth 100000 in
theorem mtX3_cell (l : Launch) (D : va_G) (cI cZ cQ : ClassId) (o ra : Nat) (rr : Nat → Nat) (k rc : Nat) (oL : Nat) (aL : Nat → Nat) (oT : Nat) (aT : Nat → Nat) (oN : Nat) (aN : Nat → Nat) (X R L T N : Bk) (p0 : Int32) (p1 : Int32) (p2 : Int32) (sz : Nat) (out : (Int64 × Bk)) (hf : fX3_cell k X R p0 p1 p2 = some out) : Met l yX3_cell wsX3_cell rmX3_cell (WrP D cI cZ cQ [.ref o, .int p0, .int p1, .int p2] (wX cI cZ cQ o ra rr k rc oL aL oT aT oN aN X R L T N) sz) (WrQl D out.1 (wX cI cZ cQ o ra rr k rc oL aL oT aT oN aN X R L T N) (wX cI cZ cQ o ra rr k rc oL aL oT aT oN aN out.2 R L T N) sz) 0 0 (va_A (wX cI cZ cQ o ra rr k rc oL aL oT aT oN aN X R L T N) sz) := by
  refine metWl (cc := cX3_cell) (maxL := 5) (by decide) rfl (Nat.le_of_ble_eq_true rfl) ?_
  intro p e s m args below meth c Q A CF hK hP hD hA hRet ls hl
  obtain ⟨hx, hb, hml, hown, hts⟩ := id CF
  have hS : va_S A s.heap s.heap [] := va_S.rf
  have hl : lv_has ls 5 [(0, .ref o), (1, .int p0), (2, .int p1), (3, .int p2)] := hl
  unfold fX3_cell at hf
  refine lv_aload_n (pc := 0) hx hb dX3_cell_0 rfl (lv_at hl 0 rfl) ?_
  refine lv_iconst (pc := 1) (v := 0) hx hb dX3_cell_1 (by decide) ?_
  refine va_put (pc := 2) (D := D) (ci := 3) (v := .int 0) (ty := .int) (C := RX3) (T := TX3) (N := 8) hx hb hts inX3_cell_X3 tyX3 tyX3_ok nmX3 hown hK.1 hP hD hS 0 rfl rfl 7 (by decide) (hts (.fieldLink RX3 44 "HedgeHoles" "lastFault" "I") (by decide +kernel)) (fun _ h9 => h9) rfl (by decide +kernel) (vp_nar_int _) rfl (Nat.le_of_ble_eq_true rfl) dX3_cell_2 (fun H locs hP hD hS => ?_)
  have hP : va_P D vwCl (wX cI cZ cQ o ra rr k rc oL aL oT aT oN aN (sB X 7 0 0) R L T N) H := hP
  have hD : va_D A (wX cI cZ cQ o ra rr k rc oL aL oT aT oN aN (sB X 7 0 0) R L T N) := hD
  obtain ⟨X_1, h2, hf⟩ := bd hf
  have h2 := Option.some.inj h2
  rw [h2] at hP hD
  refine lv_iload_n (pc := 5) hx hb dX3_cell_5 rfl (lv_at hl 1 rfl) ?_
  obtain ⟨v3, h4, hf⟩ := bd hf
  refine roSi (pc := 6) (As := [.int p0]) (rest := []) CF (mtX3_isSheet l D cI cZ cQ p0 v3 h4) (va_cwS 1 hts gX3_cell_X3_isSheet rfl rfl rfl hdX3_isSheet ⟨Nat.le_of_ble_eq_true rfl, Nat.le_of_ble_eq_true rfl⟩) hK P0 rfl hl.1 rfl (Nat.le_of_ble_eq_true rfl) dX3_cell_6 ?_
  refine lv_if_eq (pc := 9) (tgt := 19) hx hb dX3_cell_9 (by decide) (fun c5 => ?_) (fun c5 => ?_)
  · have hf := iT c5 hf
    refine lv_ldc2 (pc := 19) (v := (-9223372036854775808)) hx hb hown (hts (.constantLong RX3 187 (-9223372036854775808)) (by decide +kernel)) dX3_cell_19 ?_
    obtain rfl := Option.some.inj hf
    exact hRet 22 ls H locs dX3_cell_22 hP hS
  · have hf := iF c5 hf
    refine lv_iload_n (pc := 12) hx hb dX3_cell_12 rfl (lv_at hl 3 rfl) ?_
    obtain ⟨v6, h7, hf⟩ := bd hf
    refine roSi (pc := 13) (As := [.int p2]) (rest := []) CF (mtX3_isLane l D cI cZ cQ p2 v6 h7) (va_cwS 1 hts gX3_cell_X3_isLane rfl rfl rfl hdX3_isLane ⟨Nat.le_of_ble_eq_true rfl, Nat.le_of_ble_eq_true rfl⟩) hK P0 rfl hl.1 rfl (Nat.le_of_ble_eq_true rfl) dX3_cell_13 ?_
    refine lv_if_ne (pc := 16) (tgt := 23) hx hb dX3_cell_16 (by decide) (fun c8 => ?_) (fun c8 => ?_)
    · have hf := iF c8 hf
      refine lv_aload_n (pc := 23) hx hb dX3_cell_23 rfl (lv_at hl 0 rfl) ?_
      refine va_get (pc := 24) (D := D) (ci := 3) (v := .ref ra) (C := RX3) (T := TX3) (N := 8) hx hb hts inX3_cell_X3 hown hK.1 hP 0 rfl rfl 0 (by decide) (hts (.fieldLink RX3 13 "HedgeHoles" "rows" "[LHedgeHoles$Row;") (by decide +kernel)) (fun _ h9 => h9) rfl dX3_cell_24 ?_
      refine lv_iload_n (pc := 27) hx hb dX3_cell_27 rfl (lv_at hl 1 rfl) ?_
      obtain ⟨h9, hf⟩ := gI_e hf
      obtain ⟨h10, hf⟩ := gE_e hf
      refine va_aldq (pc := 28) (f := fun i => some (rr i)) (n := 4) hx hb hK.1 hP 1 2 rfl rfl h9 dX3_cell_28 ?_
      rw [h10]
      refine W.eq (g2 := F0 m 29 ls [.ref (rr k)]) rfl ?_
      refine lv_iload_n (pc := 29) hx hb dX3_cell_29 rfl (lv_at hl 3 rfl) ?_
      obtain ⟨v11, h12, hf⟩ := bd hf
      refine roVi (pc := 30) (As := [.int p2]) (rest := []) CF (mtX2_faultAs l D cI cZ cQ (rr k) (fun _ => rc) R p2 v11 h12) (cwV 1 hts gX3_cell_X2_faultAs rfl rfl rfl ⟨rfl, hdX2_faultAs⟩ ⟨Nat.le_of_ble_eq_true rfl, Nat.le_of_ble_eq_true rfl⟩) hK (va_P_sub' hP [2, 3] rfl) rfl rfl rfl rfl hl.1 rfl (Nat.le_of_ble_eq_true rfl) dX3_cell_30 ?_
      refine lv_istore (pc := 33) (lv' := [(4, .int v11), (0, .ref o), (1, .int p0), (2, .int p1), (3, .int p2)]) hx hb dX3_cell_33 hl (by decide) rfl (fun ls hl => ?_)
      refine lv_iload (pc := 35) hx hb dX3_cell_35 (lv_at hl 0 rfl) ?_
      obtain ⟨v13, hv, hf⟩ := bd hf
      have J14 : ∀ (ls : Array Slot), lv_has ls 5 [(0, .ref o), (1, .int p0), (2, .int p1), (3, .int p2), (4, .int v13)] → W p l e rmX3_cell s m args below meth c H locs 0 0 Q (F0 m 57 ls []) := by
        intro ls hl
        refine lv_aload_n (pc := 57) hx hb dX3_cell_57 rfl (lv_at hl 0 rfl) ?_
        refine lv_iload (pc := 58) hx hb dX3_cell_58 (lv_at hl 4 rfl) ?_
        refine va_put (pc := 60) (D := D) (ci := 3) (v := .int v13) (ty := .int) (C := RX3) (T := TX3) (N := 8) hx hb hts inX3_cell_X3 tyX3 tyX3_ok nmX3 hown hK.1 hP hD hS 0 rfl rfl 7 (by decide) (hts (.fieldLink RX3 44 "HedgeHoles" "lastFault" "I") (by decide +kernel)) (fun _ h9 => h9) rfl (by decide +kernel) (vp_nar_int _) rfl (Nat.le_of_ble_eq_true rfl) dX3_cell_60 (fun H locs hP hD hS => ?_)
        have hP : va_P D vwCl (wX cI cZ cQ o ra rr k rc oL aL oT aT oN aN (sB X_1 7 0 v13) R L T N) H := hP
        have hD : va_D A (wX cI cZ cQ o ra rr k rc oL aL oT aT oN aN (sB X_1 7 0 v13) R L T N) := hD
        obtain ⟨X_15, h16, hf⟩ := bd hf
        have h16 := Option.some.inj h16
        rw [h16] at hP hD
        refine lv_iload (pc := 63) hx hb dX3_cell_63 (lv_at hl 4 rfl) ?_
        refine lv_if_ne (pc := 65) (tgt := 83) hx hb dX3_cell_65 (by decide) (fun c17 => ?_) (fun c17 => ?_)
        · have hf := iF c17 hf
          refine lv_ldc2 (pc := 83) (v := (-9223372036854775808)) hx hb hown (hts (.constantLong RX3 187 (-9223372036854775808)) (by decide +kernel)) dX3_cell_83 ?_
          obtain rfl := Option.some.inj hf
          exact hRet 86 ls H locs dX3_cell_86 hP hS
        · have hf := iT c17 hf
          refine lv_aload_n (pc := 68) hx hb dX3_cell_68 rfl (lv_at hl 0 rfl) ?_
          refine va_get (pc := 69) (D := D) (ci := 3) (v := .ref ra) (C := RX3) (T := TX3) (N := 8) hx hb hts inX3_cell_X3 hown hK.1 hP 0 rfl rfl 0 (by decide) (hts (.fieldLink RX3 13 "HedgeHoles" "rows" "[LHedgeHoles$Row;") (by decide +kernel)) (fun _ h9 => h9) rfl dX3_cell_69 ?_
          refine lv_iload_n (pc := 72) hx hb dX3_cell_72 rfl (lv_at hl 1 rfl) ?_
          refine va_aldq (pc := 73) (f := fun i => some (rr i)) (n := 4) hx hb hK.1 hP 1 2 rfl rfl h9 dX3_cell_73 ?_
          rw [h10]
          refine W.eq (g2 := F0 m 74 ls [.ref (rr k)]) rfl ?_
          refine va_get (pc := 74) (D := D) (ci := 2) (v := .ref rc) (C := RX2) (T := TX2) (N := 4) hx hb hts inX3_cell_X2 hown hK.1 hP 2 rfl rfl 0 (by decide) (hts (.fieldLink RX3 202 "HedgeHoles$Row" "cells" "[I") (by decide +kernel)) (fun _ h9 => h9) rfl dX3_cell_74 ?_
          refine lv_iload_n (pc := 77) hx hb dX3_cell_77 rfl (lv_at hl 2 rfl) ?_
          obtain ⟨h18, hf⟩ := gI_e hf
          refine va_iald (pc := 78) (f := R 0) (n := 60) hx hb hK.1 hP 3 0 rfl rfl h18 dX3_cell_78 ?_
          refine lv_i2l (pc := 79) (v := ((R 0 p1.toNatClampNeg).toInt64)) hx hb dX3_cell_79 rfl ?_
          refine lv_goto (pc := 80) (tgt := 86) hx hb dX3_cell_80 (by decide) ?_
          obtain rfl := Option.some.inj hf
          exact hRet 86 ls H locs dX3_cell_86 hP hS
      clear hf
      have hf := hv
      clear hv
      refine lv_if_ne (pc := 37) (tgt := 57) hx hb dX3_cell_37 (by decide) (fun c19 => ?_) (fun c19 => ?_)
      · have hf := iF c19 hf
        obtain rfl := Option.some.inj hf
        exact J14 ls (lv_sub hl [1, 2, 3, 4, 0] rfl)
      · have hf := iT c19 hf
        refine lv_aload_n (pc := 40) hx hb dX3_cell_40 rfl (lv_at hl 1 rfl) ?_
        refine va_get (pc := 41) (D := D) (ci := 3) (v := .ref ra) (C := RX3) (T := TX3) (N := 8) hx hb hts inX3_cell_X3 hown hK.1 hP 0 rfl rfl 0 (by decide) (hts (.fieldLink RX3 13 "HedgeHoles" "rows" "[LHedgeHoles$Row;") (by decide +kernel)) (fun _ h9 => h9) rfl dX3_cell_41 ?_
        refine lv_iload_n (pc := 44) hx hb dX3_cell_44 rfl (lv_at hl 2 rfl) ?_
        refine va_aldq (pc := 45) (f := fun i => some (rr i)) (n := 4) hx hb hK.1 hP 1 2 rfl rfl h9 dX3_cell_45 ?_
        rw [h10]
        refine W.eq (g2 := F0 m 46 ls [.ref (rr k)]) rfl ?_
        refine lv_iload_n (pc := 46) hx hb dX3_cell_46 rfl (lv_at hl 3 rfl) ?_
        refine lv_iconst (pc := 47) (v := 1) hx hb dX3_cell_47 (by decide) ?_
        obtain ⟨v20, h21, hf⟩ := bd hf
        refine roVi (pc := 48) (As := [.int p1, .int 1]) (rest := []) CF (mtX2_spans l D cI cZ cQ (rr k) (fun _ => rc) R p1 1 v20 h21) (cwV 2 hts gX3_cell_X2_spans rfl rfl rfl ⟨rfl, hdX2_spans⟩ ⟨Nat.le_of_ble_eq_true rfl, Nat.le_of_ble_eq_true rfl⟩) hK (va_P_sub' hP [2, 3] rfl) rfl rfl rfl rfl hl.1 rfl (Nat.le_of_ble_eq_true rfl) dX3_cell_48 ?_
        refine lv_if_ne (pc := 51) (tgt := 57) hx hb dX3_cell_51 (by decide) (fun c22 => ?_) (fun c22 => ?_)
        · have hf := iF c22 hf
          obtain rfl := Option.some.inj hf
          exact J14 ls (lv_sub hl [1, 2, 3, 4, 0] rfl)
        · have hf := iT c22 hf
          refine lv_iconst (pc := 54) (v := 3) hx hb dX3_cell_54 (by decide) ?_
          refine lv_istore (pc := 55) (lv' := [(4, .int 3), (0, .ref o), (1, .int p0), (2, .int p1), (3, .int p2)]) hx hb dX3_cell_55 hl (by decide) rfl (fun ls hl => ?_)
          obtain rfl := Option.some.inj hf
          exact J14 ls (lv_sub hl [1, 2, 3, 4, 0] rfl)
    · have hf := iT c8 hf
      refine lv_ldc2 (pc := 19) (v := (-9223372036854775808)) hx hb hown (hts (.constantLong RX3 187 (-9223372036854775808)) (by decide +kernel)) dX3_cell_19 ?_
      obtain rfl := Option.some.inj hf
      exact hRet 22 ls H locs dX3_cell_22 hP hS
theorem hdX3_cell : yX3_cell.cls ≠ "java/lang/invoke/MethodHandle" ∧ yX3_cell.cls ≠ "java/lang/invoke/VarHandle" ∧ (parseMethodDescriptor yX3_cell.desc).map (fun d => d.parameters.length) = some 3 := by decide +kernel
abbrev rmX3_copy : Room := { frames := 1, cells := 0, slots := 0, locals := 26 }
theorem inX3_copy_X2 : ∀ w ∈ wsX20, w ∈ wsX3_copy := fun _ h => List.mem_cons_of_mem _ (List.mem_append_right _ h)
theorem inX3_copy_X3 : ∀ w ∈ wsX30, w ∈ wsX3_copy := fun _ h => List.mem_cons_of_mem _ (List.mem_append_left _ (List.mem_append_right _ h))
set_option maxHeartbeats 4000000 in
set_option maxRecDepth 100000 in
theorem mtX3_copy (l : Launch) (D : va_G) (cI cZ cQ : ClassId) (o ra : Nat) (rr : Nat → Nat) (k rc : Nat) (oL : Nat) (aL : Nat → Nat) (oT : Nat) (aT : Nat → Nat) (oN : Nat) (aN : Nat → Nat) (X R L T N : Bk) (p0 : Int32) (p1 : Int32) (p2 : Int32) (p3 : Int32) (p4 : Int32) (sz : Nat) (out : (Int32 × Bk × Bk)) (hf : fX3_copy k X R p0 p1 p2 p3 p4 = some out) : Met l yX3_copy wsX3_copy rmX3_copy (WrP D cI cZ cQ [.ref o, .int p0, .int p1, .int p2, .int p3, .int p4] (wX cI cZ cQ o ra rr k rc oL aL oT aT oN aN X R L T N) sz) (WrQi D out.1 (wX cI cZ cQ o ra rr k rc oL aL oT aT oN aN X R L T N) (wX cI cZ cQ o ra rr k rc oL aL oT aT oN aN out.2.1 out.2.2 L T N) sz) 0 0 (va_A (wX cI cZ cQ o ra rr k rc oL aL oT aT oN aN X R L T N) sz) := by
  refine metWi (ty := .int) (cc := cX3_copy) (maxL := 6) (by decide) rfl (Nat.le_of_ble_eq_true rfl) ?_
  intro p e s m args below meth c Q A CF hK hP hD hA hRet ls hl
  obtain ⟨hx, hb, hml, hown, hts⟩ := id CF
  have hS : va_S A s.heap s.heap [] := va_S.rf
  have hl : lv_has ls 6 [(0, .ref o), (1, .int p0), (2, .int p1), (3, .int p2), (4, .int p3), (5, .int p4)] := hl
  unfold fX3_copy at hf
  refine lv_aload_n (pc := 0) hx hb dX3_copy_0 rfl (lv_at hl 0 rfl) ?_
  refine lv_iconst (pc := 1) (v := 0) hx hb dX3_copy_1 (by decide) ?_
  refine va_put (pc := 2) (D := D) (ci := 3) (v := .int 0) (ty := .int) (C := RX3) (T := TX3) (N := 8) hx hb hts inX3_copy_X3 tyX3 tyX3_ok nmX3 hown hK.1 hP hD hS 0 rfl rfl 7 (by decide) (hts (.fieldLink RX3 44 "HedgeHoles" "lastFault" "I") (by decide +kernel)) (fun _ h9 => h9) rfl (by decide +kernel) (vp_nar_int _) rfl (Nat.le_of_ble_eq_true rfl) dX3_copy_2 (fun H locs hP hD hS => ?_)
  have hP : va_P D vwCl (wX cI cZ cQ o ra rr k rc oL aL oT aT oN aN (sB X 7 0 0) R L T N) H := hP
  have hD : va_D A (wX cI cZ cQ o ra rr k rc oL aL oT aT oN aN (sB X 7 0 0) R L T N) := hD
  obtain ⟨X_1, h2, hf⟩ := bd hf
  have h2 := Option.some.inj h2
  rw [h2] at hP hD
  refine lv_iload_n (pc := 5) hx hb dX3_copy_5 rfl (lv_at hl 1 rfl) ?_
  obtain ⟨v3, h4, hf⟩ := bd hf
  refine roSi (pc := 6) (As := [.int p0]) (rest := []) CF (mtX3_isSheet l D cI cZ cQ p0 v3 h4) (va_cwS 1 hts gX3_copy_X3_isSheet rfl rfl rfl hdX3_isSheet ⟨Nat.le_of_ble_eq_true rfl, Nat.le_of_ble_eq_true rfl⟩) hK P0 rfl hl.1 rfl (Nat.le_of_ble_eq_true rfl) dX3_copy_6 ?_
  refine lv_if_eq (pc := 9) (tgt := 19) hx hb dX3_copy_9 (by decide) (fun c5 => ?_) (fun c5 => ?_)
  · have hf := iT c5 hf
    refine lv_iconst (pc := 19) (v := (-1)) hx hb dX3_copy_19 (by decide) ?_
    obtain rfl := Option.some.inj hf
    exact hRet 20 ls H locs (vp_nar_int _) dX3_copy_20 hP hS
  · have hf := iF c5 hf
    refine lv_iload_n (pc := 12) hx hb dX3_copy_12 rfl (lv_at hl 3 rfl) ?_
    obtain ⟨v6, h7, hf⟩ := bd hf
    refine roSi (pc := 13) (As := [.int p2]) (rest := []) CF (mtX3_isSheet l D cI cZ cQ p2 v6 h7) (va_cwS 1 hts gX3_copy_X3_isSheet rfl rfl rfl hdX3_isSheet ⟨Nat.le_of_ble_eq_true rfl, Nat.le_of_ble_eq_true rfl⟩) hK P0 rfl hl.1 rfl (Nat.le_of_ble_eq_true rfl) dX3_copy_13 ?_
    refine lv_if_ne (pc := 16) (tgt := 21) hx hb dX3_copy_16 (by decide) (fun c8 => ?_) (fun c8 => ?_)
    · have hf := iF c8 hf
      refine lv_aload_n (pc := 21) hx hb dX3_copy_21 rfl (lv_at hl 0 rfl) ?_
      refine va_get (pc := 22) (D := D) (ci := 3) (v := .ref ra) (C := RX3) (T := TX3) (N := 8) hx hb hts inX3_copy_X3 hown hK.1 hP 0 rfl rfl 0 (by decide) (hts (.fieldLink RX3 13 "HedgeHoles" "rows" "[LHedgeHoles$Row;") (by decide +kernel)) (fun _ h9 => h9) rfl dX3_copy_22 ?_
      refine lv_iload_n (pc := 25) hx hb dX3_copy_25 rfl (lv_at hl 1 rfl) ?_
      obtain ⟨h9, hf⟩ := gI_e hf
      obtain ⟨h10, hf⟩ := gE_e hf
      refine va_aldq (pc := 26) (f := fun i => some (rr i)) (n := 4) hx hb hK.1 hP 1 2 rfl rfl h9 dX3_copy_26 ?_
      rw [h10]
      refine W.eq (g2 := F0 m 27 ls [.ref (rr k)]) rfl ?_
      refine va_get (pc := 27) (D := D) (ci := 2) (v := .int (R 1 0)) (C := RX2) (T := TX2) (N := 4) hx hb hts inX3_copy_X2 hown hK.1 hP 2 rfl rfl 1 (by decide) (hts (.fieldLink RX3 198 "HedgeHoles$Row" "there" "Z") (by decide +kernel)) (fun _ h9 => h9) rfl dX3_copy_27 ?_
      refine lv_if_eq (pc := 30) (tgt := 45) hx hb dX3_copy_30 (by decide) (fun c11 => ?_) (fun c11 => ?_)
      · have hf := iT c11 hf
        refine lv_aload_n (pc := 45) hx hb dX3_copy_45 rfl (lv_at hl 0 rfl) ?_
        refine lv_iconst (pc := 46) (v := 1) hx hb dX3_copy_46 (by decide) ?_
        obtain ⟨v12, h13, hf⟩ := bd hf
        refine wsVi (pc := 47) (As := [.int 1]) (rest := []) (w1 := wX cI cZ cQ o ra rr k rc oL aL oT aT oN aN v12.2 R L T N) CF (mtX3_failed l D cI cZ cQ o ra rr k rc oL aL oT aT oN aN X_1 R L T N 1 H.size v12 h13) (cwV 1 hts gX3_copy_X3_failed rfl rfl rfl ⟨rfl, hdX3_failed⟩ ⟨Nat.le_of_ble_eq_true rfl, Nat.le_of_ble_eq_true rfl⟩) hK hP hD hS hA rfl rfl rfl rfl rfl hl.1 rfl (Nat.le_of_ble_eq_true rfl) dX3_copy_47 (fun H locs hP hD hS => ?_)
        obtain rfl := Option.some.inj hf
        exact hRet 50 ls H locs (vp_nar_int _) dX3_copy_50 hP hS
      · have hf := iF c11 hf
        refine lv_aload_n (pc := 33) hx hb dX3_copy_33 rfl (lv_at hl 0 rfl) ?_
        refine va_get (pc := 34) (D := D) (ci := 3) (v := .ref ra) (C := RX3) (T := TX3) (N := 8) hx hb hts inX3_copy_X3 hown hK.1 hP 0 rfl rfl 0 (by decide) (hts (.fieldLink RX3 13 "HedgeHoles" "rows" "[LHedgeHoles$Row;") (by decide +kernel)) (fun _ h9 => h9) rfl dX3_copy_34 ?_
        refine lv_iload_n (pc := 37) hx hb dX3_copy_37 rfl (lv_at hl 3 rfl) ?_
        obtain ⟨h14, hf⟩ := gI_e hf
        obtain ⟨h15, hf⟩ := gE_e hf
        refine va_aldq (pc := 38) (f := fun i => some (rr i)) (n := 4) hx hb hK.1 hP 1 2 rfl rfl h14 dX3_copy_38 ?_
        rw [h15]
        refine W.eq (g2 := F0 m 39 ls [.ref (rr k)]) rfl ?_
        refine va_get (pc := 39) (D := D) (ci := 2) (v := .int (R 1 0)) (C := RX2) (T := TX2) (N := 4) hx hb hts inX3_copy_X2 hown hK.1 hP 2 rfl rfl 1 (by decide) (hts (.fieldLink RX3 198 "HedgeHoles$Row" "there" "Z") (by decide +kernel)) (fun _ h9 => h9) rfl dX3_copy_39 ?_
        refine lv_if_ne (pc := 42) (tgt := 51) hx hb dX3_copy_42 (by decide) (fun c16 => ?_) (fun c16 => ?_)
        · have hf := iF c16 hf
          refine lv_aload_n (pc := 51) hx hb dX3_copy_51 rfl (lv_at hl 0 rfl) ?_
          refine va_get (pc := 52) (D := D) (ci := 3) (v := .ref ra) (C := RX3) (T := TX3) (N := 8) hx hb hts inX3_copy_X3 hown hK.1 hP 0 rfl rfl 0 (by decide) (hts (.fieldLink RX3 13 "HedgeHoles" "rows" "[LHedgeHoles$Row;") (by decide +kernel)) (fun _ h9 => h9) rfl dX3_copy_52 ?_
          refine lv_iload_n (pc := 55) hx hb dX3_copy_55 rfl (lv_at hl 1 rfl) ?_
          refine va_aldq (pc := 56) (f := fun i => some (rr i)) (n := 4) hx hb hK.1 hP 1 2 rfl rfl h9 dX3_copy_56 ?_
          rw [h10]
          refine W.eq (g2 := F0 m 57 ls [.ref (rr k)]) rfl ?_
          refine va_get (pc := 57) (D := D) (ci := 2) (v := .int (R 2 0)) (C := RX2) (T := TX2) (N := 4) hx hb hts inX3_copy_X2 hown hK.1 hP 2 rfl rfl 2 (by decide) (hts (.fieldLink RX3 205 "HedgeHoles$Row" "lane" "I") (by decide +kernel)) (fun _ h9 => h9) rfl dX3_copy_57 ?_
          refine lv_aload_n (pc := 60) hx hb dX3_copy_60 rfl (lv_at hl 0 rfl) ?_
          refine va_get (pc := 61) (D := D) (ci := 3) (v := .ref ra) (C := RX3) (T := TX3) (N := 8) hx hb hts inX3_copy_X3 hown hK.1 hP 0 rfl rfl 0 (by decide) (hts (.fieldLink RX3 13 "HedgeHoles" "rows" "[LHedgeHoles$Row;") (by decide +kernel)) (fun _ h9 => h9) rfl dX3_copy_61 ?_
          refine lv_iload_n (pc := 64) hx hb dX3_copy_64 rfl (lv_at hl 3 rfl) ?_
          refine va_aldq (pc := 65) (f := fun i => some (rr i)) (n := 4) hx hb hK.1 hP 1 2 rfl rfl h14 dX3_copy_65 ?_
          rw [h15]
          refine W.eq (g2 := F0 m 66 ls [.ref (rr k), .int (R 2 0)]) rfl ?_
          refine va_get (pc := 66) (D := D) (ci := 2) (v := .int (R 2 0)) (C := RX2) (T := TX2) (N := 4) hx hb hts inX3_copy_X2 hown hK.1 hP 2 rfl rfl 2 (by decide) (hts (.fieldLink RX3 205 "HedgeHoles$Row" "lane" "I") (by decide +kernel)) (fun _ h9 => h9) rfl dX3_copy_66 ?_
          refine lv_icmp_eq (pc := 69) (tgt := 78) hx hb dX3_copy_69 (by decide) (fun c17 => ?_) (fun c17 => ?_)
          · have hf := iT c17 hf
            refine lv_aload_n (pc := 78) hx hb dX3_copy_78 rfl (lv_at hl 0 rfl) ?_
            refine va_get (pc := 79) (D := D) (ci := 3) (v := .ref ra) (C := RX3) (T := TX3) (N := 8) hx hb hts inX3_copy_X3 hown hK.1 hP 0 rfl rfl 0 (by decide) (hts (.fieldLink RX3 13 "HedgeHoles" "rows" "[LHedgeHoles$Row;") (by decide +kernel)) (fun _ h9 => h9) rfl dX3_copy_79 ?_
            refine lv_iload_n (pc := 82) hx hb dX3_copy_82 rfl (lv_at hl 1 rfl) ?_
            refine va_aldq (pc := 83) (f := fun i => some (rr i)) (n := 4) hx hb hK.1 hP 1 2 rfl rfl h9 dX3_copy_83 ?_
            rw [h10]
            refine W.eq (g2 := F0 m 84 ls [.ref (rr k)]) rfl ?_
            refine lv_iload_n (pc := 84) hx hb dX3_copy_84 rfl (lv_at hl 2 rfl) ?_
            refine lv_iload (pc := 85) hx hb dX3_copy_85 (lv_at hl 5 rfl) ?_
            obtain ⟨v18, h19, hf⟩ := bd hf
            refine roVi (pc := 87) (As := [.int p1, .int p4]) (rest := []) CF (mtX2_spans l D cI cZ cQ (rr k) (fun _ => rc) R p1 p4 v18 h19) (cwV 2 hts gX3_copy_X2_spans rfl rfl rfl ⟨rfl, hdX2_spans⟩ ⟨Nat.le_of_ble_eq_true rfl, Nat.le_of_ble_eq_true rfl⟩) hK (va_P_sub' hP [2, 3] rfl) rfl rfl rfl rfl hl.1 rfl (Nat.le_of_ble_eq_true rfl) dX3_copy_87 ?_
            refine lv_if_eq (pc := 90) (tgt := 109) hx hb dX3_copy_90 (by decide) (fun c20 => ?_) (fun c20 => ?_)
            · have hf := iT c20 hf
              refine lv_aload_n (pc := 109) hx hb dX3_copy_109 rfl (lv_at hl 0 rfl) ?_
              refine lv_iconst (pc := 110) (v := 3) hx hb dX3_copy_110 (by decide) ?_
              obtain ⟨v21, h22, hf⟩ := bd hf
              refine wsVi (pc := 111) (As := [.int 3]) (rest := []) (w1 := wX cI cZ cQ o ra rr k rc oL aL oT aT oN aN v21.2 R L T N) CF (mtX3_failed l D cI cZ cQ o ra rr k rc oL aL oT aT oN aN X_1 R L T N 3 H.size v21 h22) (cwV 1 hts gX3_copy_X3_failed rfl rfl rfl ⟨rfl, hdX3_failed⟩ ⟨Nat.le_of_ble_eq_true rfl, Nat.le_of_ble_eq_true rfl⟩) hK hP hD hS hA rfl rfl rfl rfl rfl hl.1 rfl (Nat.le_of_ble_eq_true rfl) dX3_copy_111 (fun H locs hP hD hS => ?_)
              obtain rfl := Option.some.inj hf
              exact hRet 114 ls H locs (vp_nar_int _) dX3_copy_114 hP hS
            · have hf := iF c20 hf
              refine lv_aload_n (pc := 93) hx hb dX3_copy_93 rfl (lv_at hl 0 rfl) ?_
              refine va_get (pc := 94) (D := D) (ci := 3) (v := .ref ra) (C := RX3) (T := TX3) (N := 8) hx hb hts inX3_copy_X3 hown hK.1 hP 0 rfl rfl 0 (by decide) (hts (.fieldLink RX3 13 "HedgeHoles" "rows" "[LHedgeHoles$Row;") (by decide +kernel)) (fun _ h9 => h9) rfl dX3_copy_94 ?_
              refine lv_iload_n (pc := 97) hx hb dX3_copy_97 rfl (lv_at hl 3 rfl) ?_
              refine va_aldq (pc := 98) (f := fun i => some (rr i)) (n := 4) hx hb hK.1 hP 1 2 rfl rfl h14 dX3_copy_98 ?_
              rw [h15]
              refine W.eq (g2 := F0 m 99 ls [.ref (rr k)]) rfl ?_
              refine lv_iload (pc := 99) hx hb dX3_copy_99 (lv_at hl 4 rfl) ?_
              refine lv_iload (pc := 101) hx hb dX3_copy_101 (lv_at hl 5 rfl) ?_
              obtain ⟨v23, h24, hf⟩ := bd hf
              refine roVi (pc := 103) (As := [.int p3, .int p4]) (rest := []) CF (mtX2_spans l D cI cZ cQ (rr k) (fun _ => rc) R p3 p4 v23 h24) (cwV 2 hts gX3_copy_X2_spans rfl rfl rfl ⟨rfl, hdX2_spans⟩ ⟨Nat.le_of_ble_eq_true rfl, Nat.le_of_ble_eq_true rfl⟩) hK (va_P_sub' hP [2, 3] rfl) rfl rfl rfl rfl hl.1 rfl (Nat.le_of_ble_eq_true rfl) dX3_copy_103 ?_
              refine lv_if_ne (pc := 106) (tgt := 115) hx hb dX3_copy_106 (by decide) (fun c25 => ?_) (fun c25 => ?_)
              · have hf := iF c25 hf
                refine lv_aload_n (pc := 115) hx hb dX3_copy_115 rfl (lv_at hl 0 rfl) ?_
                refine va_get (pc := 116) (D := D) (ci := 3) (v := .ref ra) (C := RX3) (T := TX3) (N := 8) hx hb hts inX3_copy_X3 hown hK.1 hP 0 rfl rfl 0 (by decide) (hts (.fieldLink RX3 13 "HedgeHoles" "rows" "[LHedgeHoles$Row;") (by decide +kernel)) (fun _ h9 => h9) rfl dX3_copy_116 ?_
                refine lv_iload_n (pc := 119) hx hb dX3_copy_119 rfl (lv_at hl 1 rfl) ?_
                refine va_aldq (pc := 120) (f := fun i => some (rr i)) (n := 4) hx hb hK.1 hP 1 2 rfl rfl h9 dX3_copy_120 ?_
                rw [h10]
                refine W.eq (g2 := F0 m 121 ls [.ref (rr k)]) rfl ?_
                refine va_get (pc := 121) (D := D) (ci := 2) (v := .ref rc) (C := RX2) (T := TX2) (N := 4) hx hb hts inX3_copy_X2 hown hK.1 hP 2 rfl rfl 0 (by decide) (hts (.fieldLink RX3 202 "HedgeHoles$Row" "cells" "[I") (by decide +kernel)) (fun _ h9 => h9) rfl dX3_copy_121 ?_
                refine lv_iload_n (pc := 124) hx hb dX3_copy_124 rfl (lv_at hl 2 rfl) ?_
                refine lv_aload_n (pc := 125) hx hb dX3_copy_125 rfl (lv_at hl 0 rfl) ?_
                refine va_get (pc := 126) (D := D) (ci := 3) (v := .ref ra) (C := RX3) (T := TX3) (N := 8) hx hb hts inX3_copy_X3 hown hK.1 hP 0 rfl rfl 0 (by decide) (hts (.fieldLink RX3 13 "HedgeHoles" "rows" "[LHedgeHoles$Row;") (by decide +kernel)) (fun _ h9 => h9) rfl dX3_copy_126 ?_
                refine lv_iload_n (pc := 129) hx hb dX3_copy_129 rfl (lv_at hl 3 rfl) ?_
                refine va_aldq (pc := 130) (f := fun i => some (rr i)) (n := 4) hx hb hK.1 hP 1 2 rfl rfl h14 dX3_copy_130 ?_
                rw [h15]
                refine W.eq (g2 := F0 m 131 ls [.ref (rr k), .int p1, .ref rc]) rfl ?_
                refine va_get (pc := 131) (D := D) (ci := 2) (v := .ref rc) (C := RX2) (T := TX2) (N := 4) hx hb hts inX3_copy_X2 hown hK.1 hP 2 rfl rfl 0 (by decide) (hts (.fieldLink RX3 202 "HedgeHoles$Row" "cells" "[I") (by decide +kernel)) (fun _ h9 => h9) rfl dX3_copy_131 ?_
                refine lv_iload (pc := 134) hx hb dX3_copy_134 (lv_at hl 4 rfl) ?_
                refine lv_iload (pc := 136) hx hb dX3_copy_136 (lv_at hl 5 rfl) ?_
                obtain ⟨h26, hf⟩ := gC_e hf
                refine va_copyi (pc := 138) (f := R 0) (g := R 0) (n0 := 60) (n1 := 60) (ty := .int) hx hb (hml.trans hl.1.symm) hown (hts (.methodLink RX3 211 arraycopyName) (by decide +kernel)) (hts (.native arraycopyName) (by decide +kernel)) (hts (.static arraycopyName) (by decide +kernel)) (hts (.initialized "java/lang/System") (by decide +kernel)) hK.1 hP hD hS 3 3 0 0 rfl rfl rfl rfl rfl h26.1 h26.2.1 h26.2.2.1 h26.2.2.2.1 h26.2.2.2.2 (fun _ _ => rfl) (Nat.le_of_ble_eq_true rfl) (Nat.le_of_ble_eq_true rfl) dX3_copy_138 (fun H locs hP hD hS => ?_)
                have hP : va_P D vwCl (wX cI cZ cQ o ra rr k rc oL aL oT aT oN aN X_1 (sA R 0 (va_cpy (R 0) (R 0) p1.toNatClampNeg p3.toNatClampNeg p4.toNatClampNeg)) L T N) H := hP
                have hD : va_D A (wX cI cZ cQ o ra rr k rc oL aL oT aT oN aN X_1 (sA R 0 (va_cpy (R 0) (R 0) p1.toNatClampNeg p3.toNatClampNeg p4.toNatClampNeg)) L T N) := hD
                obtain ⟨R_27, h28, hf⟩ := bd hf
                have h28 := Option.some.inj h28
                rw [h28] at hP hD
                refine lv_iload (pc := 141) hx hb dX3_copy_141 (lv_at hl 5 rfl) ?_
                obtain rfl := Option.some.inj hf
                exact hRet 143 ls H locs (vp_nar_int _) dX3_copy_143 hP hS
              · have hf := iT c25 hf
                refine lv_aload_n (pc := 109) hx hb dX3_copy_109 rfl (lv_at hl 0 rfl) ?_
                refine lv_iconst (pc := 110) (v := 3) hx hb dX3_copy_110 (by decide) ?_
                obtain ⟨v29, h30, hf⟩ := bd hf
                refine wsVi (pc := 111) (As := [.int 3]) (rest := []) (w1 := wX cI cZ cQ o ra rr k rc oL aL oT aT oN aN v29.2 R L T N) CF (mtX3_failed l D cI cZ cQ o ra rr k rc oL aL oT aT oN aN X_1 R L T N 3 H.size v29 h30) (cwV 1 hts gX3_copy_X3_failed rfl rfl rfl ⟨rfl, hdX3_failed⟩ ⟨Nat.le_of_ble_eq_true rfl, Nat.le_of_ble_eq_true rfl⟩) hK hP hD hS hA rfl rfl rfl rfl rfl hl.1 rfl (Nat.le_of_ble_eq_true rfl) dX3_copy_111 (fun H locs hP hD hS => ?_)
                obtain rfl := Option.some.inj hf
                exact hRet 114 ls H locs (vp_nar_int _) dX3_copy_114 hP hS
          · have hf := iF c17 hf
            refine lv_aload_n (pc := 72) hx hb dX3_copy_72 rfl (lv_at hl 0 rfl) ?_
            refine lv_iconst (pc := 73) (v := 2) hx hb dX3_copy_73 (by decide) ?_
            obtain ⟨v31, h32, hf⟩ := bd hf
            refine wsVi (pc := 74) (As := [.int 2]) (rest := []) (w1 := wX cI cZ cQ o ra rr k rc oL aL oT aT oN aN v31.2 R L T N) CF (mtX3_failed l D cI cZ cQ o ra rr k rc oL aL oT aT oN aN X_1 R L T N 2 H.size v31 h32) (cwV 1 hts gX3_copy_X3_failed rfl rfl rfl ⟨rfl, hdX3_failed⟩ ⟨Nat.le_of_ble_eq_true rfl, Nat.le_of_ble_eq_true rfl⟩) hK hP hD hS hA rfl rfl rfl rfl rfl hl.1 rfl (Nat.le_of_ble_eq_true rfl) dX3_copy_74 (fun H locs hP hD hS => ?_)
            obtain rfl := Option.some.inj hf
            exact hRet 77 ls H locs (vp_nar_int _) dX3_copy_77 hP hS
        · have hf := iT c16 hf
          refine lv_aload_n (pc := 45) hx hb dX3_copy_45 rfl (lv_at hl 0 rfl) ?_
          refine lv_iconst (pc := 46) (v := 1) hx hb dX3_copy_46 (by decide) ?_
          obtain ⟨v33, h34, hf⟩ := bd hf
          refine wsVi (pc := 47) (As := [.int 1]) (rest := []) (w1 := wX cI cZ cQ o ra rr k rc oL aL oT aT oN aN v33.2 R L T N) CF (mtX3_failed l D cI cZ cQ o ra rr k rc oL aL oT aT oN aN X_1 R L T N 1 H.size v33 h34) (cwV 1 hts gX3_copy_X3_failed rfl rfl rfl ⟨rfl, hdX3_failed⟩ ⟨Nat.le_of_ble_eq_true rfl, Nat.le_of_ble_eq_true rfl⟩) hK hP hD hS hA rfl rfl rfl rfl rfl hl.1 rfl (Nat.le_of_ble_eq_true rfl) dX3_copy_47 (fun H locs hP hD hS => ?_)
          obtain rfl := Option.some.inj hf
          exact hRet 50 ls H locs (vp_nar_int _) dX3_copy_50 hP hS
    · have hf := iT c8 hf
      refine lv_iconst (pc := 19) (v := (-1)) hx hb dX3_copy_19 (by decide) ?_
      obtain rfl := Option.some.inj hf
      exact hRet 20 ls H locs (vp_nar_int _) dX3_copy_20 hP hS
theorem hdX3_copy : yX3_copy.cls ≠ "java/lang/invoke/MethodHandle" ∧ yX3_copy.cls ≠ "java/lang/invoke/VarHandle" ∧ (parseMethodDescriptor yX3_copy.desc).map (fun d => d.parameters.length) = some 5 := by decide +kernel
abbrev rmX3_copy_2 : Room := { frames := 1, cells := 0, slots := 0, locals := 26 }
set_option maxHeartbeats 4000000 in
set_option maxRecDepth 100000 in
theorem mtX3_copy_2 (l : Launch) (D : va_G) (cI cZ cQ : ClassId) (o ra : Nat) (rr : Nat → Nat) (k rc k2 rc2 : Nat) (oL oT oN : Nat) (X R S : Bk) (p0 : Int32) (p1 : Int32) (p2 : Int32) (p3 : Int32) (p4 : Int32) (sz : Nat) (out : (Int32 × Bk × Bk)) (hf : fX3_copy_2 k k2 X R S p0 p1 p2 p3 p4 = some out) : Met l yX3_copy wsX3_copy rmX3_copy_2 (WrP D cI cZ cQ [.ref o, .int p0, .int p1, .int p2, .int p3, .int p4] (wX2 cI cZ cQ o ra rr k rc k2 rc2 oL oT oN X R S) sz) (WrQi D out.1 (wX2 cI cZ cQ o ra rr k rc k2 rc2 oL oT oN X R S) (wX2 cI cZ cQ o ra rr k rc k2 rc2 oL oT oN out.2.1 R out.2.2) sz) 0 0 (va_A (wX2 cI cZ cQ o ra rr k rc k2 rc2 oL oT oN X R S) sz) := by
  refine metWi (ty := .int) (cc := cX3_copy) (maxL := 6) (by decide) rfl (Nat.le_of_ble_eq_true rfl) ?_
  intro p e s m args below meth c Q A CF hK hP hD hA hRet ls hl
  obtain ⟨hx, hb, hml, hown, hts⟩ := id CF
  have hS : va_S A s.heap s.heap [] := va_S.rf
  have hl : lv_has ls 6 [(0, .ref o), (1, .int p0), (2, .int p1), (3, .int p2), (4, .int p3), (5, .int p4)] := hl
  unfold fX3_copy_2 at hf
  refine lv_aload_n (pc := 0) hx hb dX3_copy_0 rfl (lv_at hl 0 rfl) ?_
  refine lv_iconst (pc := 1) (v := 0) hx hb dX3_copy_1 (by decide) ?_
  refine va_put (pc := 2) (D := D) (ci := 3) (v := .int 0) (ty := .int) (C := RX3) (T := TX3) (N := 8) hx hb hts inX3_copy_X3 tyX3 tyX3_ok nmX3 hown hK.1 hP hD hS 0 rfl rfl 7 (by decide) (hts (.fieldLink RX3 44 "HedgeHoles" "lastFault" "I") (by decide +kernel)) (fun _ h9 => h9) rfl (by decide +kernel) (vp_nar_int _) rfl (Nat.le_of_ble_eq_true rfl) dX3_copy_2 (fun H locs hP hD hS => ?_)
  have hP : va_P D vwCl (wX2 cI cZ cQ o ra rr k rc k2 rc2 oL oT oN (sB X 7 0 0) R S) H := hP
  have hD : va_D A (wX2 cI cZ cQ o ra rr k rc k2 rc2 oL oT oN (sB X 7 0 0) R S) := hD
  obtain ⟨X_1, h2, hf⟩ := bd hf
  have h2 := Option.some.inj h2
  rw [h2] at hP hD
  refine lv_iload_n (pc := 5) hx hb dX3_copy_5 rfl (lv_at hl 1 rfl) ?_
  obtain ⟨v3, h4, hf⟩ := bd hf
  refine roSi (pc := 6) (As := [.int p0]) (rest := []) CF (mtX3_isSheet l D cI cZ cQ p0 v3 h4) (va_cwS 1 hts gX3_copy_X3_isSheet rfl rfl rfl hdX3_isSheet ⟨Nat.le_of_ble_eq_true rfl, Nat.le_of_ble_eq_true rfl⟩) hK P0 rfl hl.1 rfl (Nat.le_of_ble_eq_true rfl) dX3_copy_6 ?_
  refine lv_if_eq (pc := 9) (tgt := 19) hx hb dX3_copy_9 (by decide) (fun c5 => ?_) (fun c5 => ?_)
  · have hf := iT c5 hf
    refine lv_iconst (pc := 19) (v := (-1)) hx hb dX3_copy_19 (by decide) ?_
    obtain rfl := Option.some.inj hf
    exact hRet 20 ls H locs (vp_nar_int _) dX3_copy_20 hP hS
  · have hf := iF c5 hf
    refine lv_iload_n (pc := 12) hx hb dX3_copy_12 rfl (lv_at hl 3 rfl) ?_
    obtain ⟨v6, h7, hf⟩ := bd hf
    refine roSi (pc := 13) (As := [.int p2]) (rest := []) CF (mtX3_isSheet l D cI cZ cQ p2 v6 h7) (va_cwS 1 hts gX3_copy_X3_isSheet rfl rfl rfl hdX3_isSheet ⟨Nat.le_of_ble_eq_true rfl, Nat.le_of_ble_eq_true rfl⟩) hK P0 rfl hl.1 rfl (Nat.le_of_ble_eq_true rfl) dX3_copy_13 ?_
    refine lv_if_ne (pc := 16) (tgt := 21) hx hb dX3_copy_16 (by decide) (fun c8 => ?_) (fun c8 => ?_)
    · have hf := iF c8 hf
      refine lv_aload_n (pc := 21) hx hb dX3_copy_21 rfl (lv_at hl 0 rfl) ?_
      refine va_get (pc := 22) (D := D) (ci := 3) (v := .ref ra) (C := RX3) (T := TX3) (N := 8) hx hb hts inX3_copy_X3 hown hK.1 hP 0 rfl rfl 0 (by decide) (hts (.fieldLink RX3 13 "HedgeHoles" "rows" "[LHedgeHoles$Row;") (by decide +kernel)) (fun _ h9 => h9) rfl dX3_copy_22 ?_
      refine lv_iload_n (pc := 25) hx hb dX3_copy_25 rfl (lv_at hl 1 rfl) ?_
      obtain ⟨h9, hf⟩ := gI_e hf
      obtain ⟨h10, hf⟩ := gE_e hf
      refine va_aldq (pc := 26) (f := fun i => some (rr i)) (n := 4) hx hb hK.1 hP 1 2 rfl rfl h9 dX3_copy_26 ?_
      rw [h10]
      refine W.eq (g2 := F0 m 27 ls [.ref (rr k)]) rfl ?_
      refine va_get (pc := 27) (D := D) (ci := 2) (v := .int (R 1 0)) (C := RX2) (T := TX2) (N := 4) hx hb hts inX3_copy_X2 hown hK.1 hP 2 rfl rfl 1 (by decide) (hts (.fieldLink RX3 198 "HedgeHoles$Row" "there" "Z") (by decide +kernel)) (fun _ h9 => h9) rfl dX3_copy_27 ?_
      refine lv_if_eq (pc := 30) (tgt := 45) hx hb dX3_copy_30 (by decide) (fun c11 => ?_) (fun c11 => ?_)
      · have hf := iT c11 hf
        refine lv_aload_n (pc := 45) hx hb dX3_copy_45 rfl (lv_at hl 0 rfl) ?_
        refine lv_iconst (pc := 46) (v := 1) hx hb dX3_copy_46 (by decide) ?_
        obtain ⟨v12, h13, hf⟩ := bd hf
        refine wsVi (pc := 47) (As := [.int 1]) (rest := []) (w1 := wX2 cI cZ cQ o ra rr k rc k2 rc2 oL oT oN v12.2 R S) CF (mtX3_failed_2 l D cI cZ cQ o ra rr k rc k2 rc2 oL oT oN X_1 R S 1 H.size v12 h13) (cwV 1 hts gX3_copy_X3_failed rfl rfl rfl ⟨rfl, hdX3_failed⟩ ⟨Nat.le_of_ble_eq_true rfl, Nat.le_of_ble_eq_true rfl⟩) hK hP hD hS hA rfl rfl rfl rfl rfl hl.1 rfl (Nat.le_of_ble_eq_true rfl) dX3_copy_47 (fun H locs hP hD hS => ?_)
        obtain rfl := Option.some.inj hf
        exact hRet 50 ls H locs (vp_nar_int _) dX3_copy_50 hP hS
      · have hf := iF c11 hf
        refine lv_aload_n (pc := 33) hx hb dX3_copy_33 rfl (lv_at hl 0 rfl) ?_
        refine va_get (pc := 34) (D := D) (ci := 3) (v := .ref ra) (C := RX3) (T := TX3) (N := 8) hx hb hts inX3_copy_X3 hown hK.1 hP 0 rfl rfl 0 (by decide) (hts (.fieldLink RX3 13 "HedgeHoles" "rows" "[LHedgeHoles$Row;") (by decide +kernel)) (fun _ h9 => h9) rfl dX3_copy_34 ?_
        refine lv_iload_n (pc := 37) hx hb dX3_copy_37 rfl (lv_at hl 3 rfl) ?_
        obtain ⟨h14, hf⟩ := gI_e hf
        obtain ⟨h15, hf⟩ := gE_e hf
        refine va_aldq (pc := 38) (f := fun i => some (rr i)) (n := 4) hx hb hK.1 hP 1 2 rfl rfl h14 dX3_copy_38 ?_
        rw [h15]
        refine W.eq (g2 := F0 m 39 ls [.ref (rr k2)]) rfl ?_
        refine va_get (pc := 39) (D := D) (ci := 2) (v := .int (S 1 0)) (C := RX2) (T := TX2) (N := 4) hx hb hts inX3_copy_X2 hown hK.1 hP 4 rfl rfl 1 (by decide) (hts (.fieldLink RX3 198 "HedgeHoles$Row" "there" "Z") (by decide +kernel)) (fun _ h9 => h9) rfl dX3_copy_39 ?_
        refine lv_if_ne (pc := 42) (tgt := 51) hx hb dX3_copy_42 (by decide) (fun c16 => ?_) (fun c16 => ?_)
        · have hf := iF c16 hf
          refine lv_aload_n (pc := 51) hx hb dX3_copy_51 rfl (lv_at hl 0 rfl) ?_
          refine va_get (pc := 52) (D := D) (ci := 3) (v := .ref ra) (C := RX3) (T := TX3) (N := 8) hx hb hts inX3_copy_X3 hown hK.1 hP 0 rfl rfl 0 (by decide) (hts (.fieldLink RX3 13 "HedgeHoles" "rows" "[LHedgeHoles$Row;") (by decide +kernel)) (fun _ h9 => h9) rfl dX3_copy_52 ?_
          refine lv_iload_n (pc := 55) hx hb dX3_copy_55 rfl (lv_at hl 1 rfl) ?_
          refine va_aldq (pc := 56) (f := fun i => some (rr i)) (n := 4) hx hb hK.1 hP 1 2 rfl rfl h9 dX3_copy_56 ?_
          rw [h10]
          refine W.eq (g2 := F0 m 57 ls [.ref (rr k)]) rfl ?_
          refine va_get (pc := 57) (D := D) (ci := 2) (v := .int (R 2 0)) (C := RX2) (T := TX2) (N := 4) hx hb hts inX3_copy_X2 hown hK.1 hP 2 rfl rfl 2 (by decide) (hts (.fieldLink RX3 205 "HedgeHoles$Row" "lane" "I") (by decide +kernel)) (fun _ h9 => h9) rfl dX3_copy_57 ?_
          refine lv_aload_n (pc := 60) hx hb dX3_copy_60 rfl (lv_at hl 0 rfl) ?_
          refine va_get (pc := 61) (D := D) (ci := 3) (v := .ref ra) (C := RX3) (T := TX3) (N := 8) hx hb hts inX3_copy_X3 hown hK.1 hP 0 rfl rfl 0 (by decide) (hts (.fieldLink RX3 13 "HedgeHoles" "rows" "[LHedgeHoles$Row;") (by decide +kernel)) (fun _ h9 => h9) rfl dX3_copy_61 ?_
          refine lv_iload_n (pc := 64) hx hb dX3_copy_64 rfl (lv_at hl 3 rfl) ?_
          refine va_aldq (pc := 65) (f := fun i => some (rr i)) (n := 4) hx hb hK.1 hP 1 2 rfl rfl h14 dX3_copy_65 ?_
          rw [h15]
          refine W.eq (g2 := F0 m 66 ls [.ref (rr k2), .int (R 2 0)]) rfl ?_
          refine va_get (pc := 66) (D := D) (ci := 2) (v := .int (S 2 0)) (C := RX2) (T := TX2) (N := 4) hx hb hts inX3_copy_X2 hown hK.1 hP 4 rfl rfl 2 (by decide) (hts (.fieldLink RX3 205 "HedgeHoles$Row" "lane" "I") (by decide +kernel)) (fun _ h9 => h9) rfl dX3_copy_66 ?_
          refine lv_icmp_eq (pc := 69) (tgt := 78) hx hb dX3_copy_69 (by decide) (fun c17 => ?_) (fun c17 => ?_)
          · have hf := iT c17 hf
            refine lv_aload_n (pc := 78) hx hb dX3_copy_78 rfl (lv_at hl 0 rfl) ?_
            refine va_get (pc := 79) (D := D) (ci := 3) (v := .ref ra) (C := RX3) (T := TX3) (N := 8) hx hb hts inX3_copy_X3 hown hK.1 hP 0 rfl rfl 0 (by decide) (hts (.fieldLink RX3 13 "HedgeHoles" "rows" "[LHedgeHoles$Row;") (by decide +kernel)) (fun _ h9 => h9) rfl dX3_copy_79 ?_
            refine lv_iload_n (pc := 82) hx hb dX3_copy_82 rfl (lv_at hl 1 rfl) ?_
            refine va_aldq (pc := 83) (f := fun i => some (rr i)) (n := 4) hx hb hK.1 hP 1 2 rfl rfl h9 dX3_copy_83 ?_
            rw [h10]
            refine W.eq (g2 := F0 m 84 ls [.ref (rr k)]) rfl ?_
            refine lv_iload_n (pc := 84) hx hb dX3_copy_84 rfl (lv_at hl 2 rfl) ?_
            refine lv_iload (pc := 85) hx hb dX3_copy_85 (lv_at hl 5 rfl) ?_
            obtain ⟨v18, h19, hf⟩ := bd hf
            refine roVi (pc := 87) (As := [.int p1, .int p4]) (rest := []) CF (mtX2_spans l D cI cZ cQ (rr k) (fun _ => rc) R p1 p4 v18 h19) (cwV 2 hts gX3_copy_X2_spans rfl rfl rfl ⟨rfl, hdX2_spans⟩ ⟨Nat.le_of_ble_eq_true rfl, Nat.le_of_ble_eq_true rfl⟩) hK (va_P_sub' hP [2, 3] rfl) rfl rfl rfl rfl hl.1 rfl (Nat.le_of_ble_eq_true rfl) dX3_copy_87 ?_
            refine lv_if_eq (pc := 90) (tgt := 109) hx hb dX3_copy_90 (by decide) (fun c20 => ?_) (fun c20 => ?_)
            · have hf := iT c20 hf
              refine lv_aload_n (pc := 109) hx hb dX3_copy_109 rfl (lv_at hl 0 rfl) ?_
              refine lv_iconst (pc := 110) (v := 3) hx hb dX3_copy_110 (by decide) ?_
              obtain ⟨v21, h22, hf⟩ := bd hf
              refine wsVi (pc := 111) (As := [.int 3]) (rest := []) (w1 := wX2 cI cZ cQ o ra rr k rc k2 rc2 oL oT oN v21.2 R S) CF (mtX3_failed_2 l D cI cZ cQ o ra rr k rc k2 rc2 oL oT oN X_1 R S 3 H.size v21 h22) (cwV 1 hts gX3_copy_X3_failed rfl rfl rfl ⟨rfl, hdX3_failed⟩ ⟨Nat.le_of_ble_eq_true rfl, Nat.le_of_ble_eq_true rfl⟩) hK hP hD hS hA rfl rfl rfl rfl rfl hl.1 rfl (Nat.le_of_ble_eq_true rfl) dX3_copy_111 (fun H locs hP hD hS => ?_)
              obtain rfl := Option.some.inj hf
              exact hRet 114 ls H locs (vp_nar_int _) dX3_copy_114 hP hS
            · have hf := iF c20 hf
              refine lv_aload_n (pc := 93) hx hb dX3_copy_93 rfl (lv_at hl 0 rfl) ?_
              refine va_get (pc := 94) (D := D) (ci := 3) (v := .ref ra) (C := RX3) (T := TX3) (N := 8) hx hb hts inX3_copy_X3 hown hK.1 hP 0 rfl rfl 0 (by decide) (hts (.fieldLink RX3 13 "HedgeHoles" "rows" "[LHedgeHoles$Row;") (by decide +kernel)) (fun _ h9 => h9) rfl dX3_copy_94 ?_
              refine lv_iload_n (pc := 97) hx hb dX3_copy_97 rfl (lv_at hl 3 rfl) ?_
              refine va_aldq (pc := 98) (f := fun i => some (rr i)) (n := 4) hx hb hK.1 hP 1 2 rfl rfl h14 dX3_copy_98 ?_
              rw [h15]
              refine W.eq (g2 := F0 m 99 ls [.ref (rr k2)]) rfl ?_
              refine lv_iload (pc := 99) hx hb dX3_copy_99 (lv_at hl 4 rfl) ?_
              refine lv_iload (pc := 101) hx hb dX3_copy_101 (lv_at hl 5 rfl) ?_
              obtain ⟨v23, h24, hf⟩ := bd hf
              refine roVi (pc := 103) (As := [.int p3, .int p4]) (rest := []) CF (mtX2_spans l D cI cZ cQ (rr k2) (fun _ => rc2) S p3 p4 v23 h24) (cwV 2 hts gX3_copy_X2_spans rfl rfl rfl ⟨rfl, hdX2_spans⟩ ⟨Nat.le_of_ble_eq_true rfl, Nat.le_of_ble_eq_true rfl⟩) hK (va_P_sub' hP [4, 5] rfl) rfl rfl rfl rfl hl.1 rfl (Nat.le_of_ble_eq_true rfl) dX3_copy_103 ?_
              refine lv_if_ne (pc := 106) (tgt := 115) hx hb dX3_copy_106 (by decide) (fun c25 => ?_) (fun c25 => ?_)
              · have hf := iF c25 hf
                refine lv_aload_n (pc := 115) hx hb dX3_copy_115 rfl (lv_at hl 0 rfl) ?_
                refine va_get (pc := 116) (D := D) (ci := 3) (v := .ref ra) (C := RX3) (T := TX3) (N := 8) hx hb hts inX3_copy_X3 hown hK.1 hP 0 rfl rfl 0 (by decide) (hts (.fieldLink RX3 13 "HedgeHoles" "rows" "[LHedgeHoles$Row;") (by decide +kernel)) (fun _ h9 => h9) rfl dX3_copy_116 ?_
                refine lv_iload_n (pc := 119) hx hb dX3_copy_119 rfl (lv_at hl 1 rfl) ?_
                refine va_aldq (pc := 120) (f := fun i => some (rr i)) (n := 4) hx hb hK.1 hP 1 2 rfl rfl h9 dX3_copy_120 ?_
                rw [h10]
                refine W.eq (g2 := F0 m 121 ls [.ref (rr k)]) rfl ?_
                refine va_get (pc := 121) (D := D) (ci := 2) (v := .ref rc) (C := RX2) (T := TX2) (N := 4) hx hb hts inX3_copy_X2 hown hK.1 hP 2 rfl rfl 0 (by decide) (hts (.fieldLink RX3 202 "HedgeHoles$Row" "cells" "[I") (by decide +kernel)) (fun _ h9 => h9) rfl dX3_copy_121 ?_
                refine lv_iload_n (pc := 124) hx hb dX3_copy_124 rfl (lv_at hl 2 rfl) ?_
                refine lv_aload_n (pc := 125) hx hb dX3_copy_125 rfl (lv_at hl 0 rfl) ?_
                refine va_get (pc := 126) (D := D) (ci := 3) (v := .ref ra) (C := RX3) (T := TX3) (N := 8) hx hb hts inX3_copy_X3 hown hK.1 hP 0 rfl rfl 0 (by decide) (hts (.fieldLink RX3 13 "HedgeHoles" "rows" "[LHedgeHoles$Row;") (by decide +kernel)) (fun _ h9 => h9) rfl dX3_copy_126 ?_
                refine lv_iload_n (pc := 129) hx hb dX3_copy_129 rfl (lv_at hl 3 rfl) ?_
                refine va_aldq (pc := 130) (f := fun i => some (rr i)) (n := 4) hx hb hK.1 hP 1 2 rfl rfl h14 dX3_copy_130 ?_
                rw [h15]
                refine W.eq (g2 := F0 m 131 ls [.ref (rr k2), .int p1, .ref rc]) rfl ?_
                refine va_get (pc := 131) (D := D) (ci := 2) (v := .ref rc2) (C := RX2) (T := TX2) (N := 4) hx hb hts inX3_copy_X2 hown hK.1 hP 4 rfl rfl 0 (by decide) (hts (.fieldLink RX3 202 "HedgeHoles$Row" "cells" "[I") (by decide +kernel)) (fun _ h9 => h9) rfl dX3_copy_131 ?_
                refine lv_iload (pc := 134) hx hb dX3_copy_134 (lv_at hl 4 rfl) ?_
                refine lv_iload (pc := 136) hx hb dX3_copy_136 (lv_at hl 5 rfl) ?_
                obtain ⟨h26, hf⟩ := gC_e hf
                refine va_copyi (pc := 138) (f := R 0) (g := S 0) (n0 := 60) (n1 := 60) (ty := .int) hx hb (hml.trans hl.1.symm) hown (hts (.methodLink RX3 211 arraycopyName) (by decide +kernel)) (hts (.native arraycopyName) (by decide +kernel)) (hts (.static arraycopyName) (by decide +kernel)) (hts (.initialized "java/lang/System") (by decide +kernel)) hK.1 hP hD hS 3 5 0 0 rfl rfl rfl rfl rfl h26.1 h26.2.1 h26.2.2.1 h26.2.2.2.1 h26.2.2.2.2 (fun _ _ => rfl) (Nat.le_of_ble_eq_true rfl) (Nat.le_of_ble_eq_true rfl) dX3_copy_138 (fun H locs hP hD hS => ?_)
                have hP : va_P D vwCl (wX2 cI cZ cQ o ra rr k rc k2 rc2 oL oT oN X_1 R (sA S 0 (va_cpy (R 0) (S 0) p1.toNatClampNeg p3.toNatClampNeg p4.toNatClampNeg))) H := hP
                have hD : va_D A (wX2 cI cZ cQ o ra rr k rc k2 rc2 oL oT oN X_1 R (sA S 0 (va_cpy (R 0) (S 0) p1.toNatClampNeg p3.toNatClampNeg p4.toNatClampNeg))) := hD
                obtain ⟨S_27, h28, hf⟩ := bd hf
                have h28 := Option.some.inj h28
                rw [h28] at hP hD
                refine lv_iload (pc := 141) hx hb dX3_copy_141 (lv_at hl 5 rfl) ?_
                obtain rfl := Option.some.inj hf
                exact hRet 143 ls H locs (vp_nar_int _) dX3_copy_143 hP hS
              · have hf := iT c25 hf
                refine lv_aload_n (pc := 109) hx hb dX3_copy_109 rfl (lv_at hl 0 rfl) ?_
                refine lv_iconst (pc := 110) (v := 3) hx hb dX3_copy_110 (by decide) ?_
                obtain ⟨v29, h30, hf⟩ := bd hf
                refine wsVi (pc := 111) (As := [.int 3]) (rest := []) (w1 := wX2 cI cZ cQ o ra rr k rc k2 rc2 oL oT oN v29.2 R S) CF (mtX3_failed_2 l D cI cZ cQ o ra rr k rc k2 rc2 oL oT oN X_1 R S 3 H.size v29 h30) (cwV 1 hts gX3_copy_X3_failed rfl rfl rfl ⟨rfl, hdX3_failed⟩ ⟨Nat.le_of_ble_eq_true rfl, Nat.le_of_ble_eq_true rfl⟩) hK hP hD hS hA rfl rfl rfl rfl rfl hl.1 rfl (Nat.le_of_ble_eq_true rfl) dX3_copy_111 (fun H locs hP hD hS => ?_)
                obtain rfl := Option.some.inj hf
                exact hRet 114 ls H locs (vp_nar_int _) dX3_copy_114 hP hS
          · have hf := iF c17 hf
            refine lv_aload_n (pc := 72) hx hb dX3_copy_72 rfl (lv_at hl 0 rfl) ?_
            refine lv_iconst (pc := 73) (v := 2) hx hb dX3_copy_73 (by decide) ?_
            obtain ⟨v31, h32, hf⟩ := bd hf
            refine wsVi (pc := 74) (As := [.int 2]) (rest := []) (w1 := wX2 cI cZ cQ o ra rr k rc k2 rc2 oL oT oN v31.2 R S) CF (mtX3_failed_2 l D cI cZ cQ o ra rr k rc k2 rc2 oL oT oN X_1 R S 2 H.size v31 h32) (cwV 1 hts gX3_copy_X3_failed rfl rfl rfl ⟨rfl, hdX3_failed⟩ ⟨Nat.le_of_ble_eq_true rfl, Nat.le_of_ble_eq_true rfl⟩) hK hP hD hS hA rfl rfl rfl rfl rfl hl.1 rfl (Nat.le_of_ble_eq_true rfl) dX3_copy_74 (fun H locs hP hD hS => ?_)
            obtain rfl := Option.some.inj hf
            exact hRet 77 ls H locs (vp_nar_int _) dX3_copy_77 hP hS
        · have hf := iT c16 hf
          refine lv_aload_n (pc := 45) hx hb dX3_copy_45 rfl (lv_at hl 0 rfl) ?_
          refine lv_iconst (pc := 46) (v := 1) hx hb dX3_copy_46 (by decide) ?_
          obtain ⟨v33, h34, hf⟩ := bd hf
          refine wsVi (pc := 47) (As := [.int 1]) (rest := []) (w1 := wX2 cI cZ cQ o ra rr k rc k2 rc2 oL oT oN v33.2 R S) CF (mtX3_failed_2 l D cI cZ cQ o ra rr k rc k2 rc2 oL oT oN X_1 R S 1 H.size v33 h34) (cwV 1 hts gX3_copy_X3_failed rfl rfl rfl ⟨rfl, hdX3_failed⟩ ⟨Nat.le_of_ble_eq_true rfl, Nat.le_of_ble_eq_true rfl⟩) hK hP hD hS hA rfl rfl rfl rfl rfl hl.1 rfl (Nat.le_of_ble_eq_true rfl) dX3_copy_47 (fun H locs hP hD hS => ?_)
          obtain rfl := Option.some.inj hf
          exact hRet 50 ls H locs (vp_nar_int _) dX3_copy_50 hP hS
    · have hf := iT c8 hf
      refine lv_iconst (pc := 19) (v := (-1)) hx hb dX3_copy_19 (by decide) ?_
      obtain rfl := Option.some.inj hf
      exact hRet 20 ls H locs (vp_nar_int _) dX3_copy_20 hP hS
theorem hdX3_copy_2 : yX3_copy.cls ≠ "java/lang/invoke/MethodHandle" ∧ yX3_copy.cls ≠ "java/lang/invoke/VarHandle" ∧ (parseMethodDescriptor yX3_copy.desc).map (fun d => d.parameters.length) = some 5 := by decide +kernel
abbrev rmX3_leaveTrace : Room := { frames := 0, cells := 0, slots := 0, locals := 0 }
theorem inX3_leaveTrace_X3 : ∀ w ∈ wsX30, w ∈ wsX3_leaveTrace := fun _ h => List.mem_cons_of_mem _ (List.mem_append_right _ h)
set_option maxHeartbeats 4000000 in
set_option maxRecDepth 100000 in
theorem mtX3_leaveTrace (l : Launch) (D : va_G) (cI cZ cQ : ClassId) (o ra : Nat) (rr : Nat → Nat) (k rc : Nat) (oL : Nat) (aL : Nat → Nat) (oT : Nat) (aT : Nat → Nat) (oN : Nat) (aN : Nat → Nat) (X R L T N : Bk) (p0 : Int32) (sz : Nat) (out : Bk) (hf : fX3_leaveTrace X p0 = some out) : Met l yX3_leaveTrace wsX3_leaveTrace rmX3_leaveTrace (WrP D cI cZ cQ [.ref o, .int p0] (wX cI cZ cQ o ra rr k rc oL aL oT aT oN aN X R L T N) sz) (WrQv D (wX cI cZ cQ o ra rr k rc oL aL oT aT oN aN X R L T N) (wX cI cZ cQ o ra rr k rc oL aL oT aT oN aN out R L T N) sz) 0 0 (va_A (wX cI cZ cQ o ra rr k rc oL aL oT aT oN aN X R L T N) sz) := by
  refine metWv (cc := cX3_leaveTrace) (maxL := 2) (by decide) rfl (Nat.le_of_ble_eq_true rfl) ?_
  intro p e s m args below meth c Q A CF hK hP hD hA hRet ls hl
  obtain ⟨hx, hb, hml, hown, hts⟩ := id CF
  have hS : va_S A s.heap s.heap [] := va_S.rf
  have hl : lv_has ls 2 [(0, .ref o), (1, .int p0)] := hl
  unfold fX3_leaveTrace at hf
  refine lv_aload_n (pc := 0) hx hb dX3_leaveTrace_0 rfl (lv_at hl 0 rfl) ?_
  refine lv_bipush (pc := 1) (v := 31) hx hb dX3_leaveTrace_1 (by decide) ?_
  refine lv_aload_n (pc := 3) hx hb dX3_leaveTrace_3 rfl (lv_at hl 0 rfl) ?_
  refine va_get (pc := 4) (D := D) (ci := 3) (v := .int (X 6 0)) (C := RX3) (T := TX3) (N := 8) hx hb hts inX3_leaveTrace_X3 hown hK.1 hP 0 rfl rfl 6 (by decide) (hts (.fieldLink RX3 41 "HedgeHoles" "traceLeft" "I") (by decide +kernel)) (fun _ h9 => h9) rfl dX3_leaveTrace_4 ?_
  refine lv_imul (pc := 7) hx hb dX3_leaveTrace_7 ?_
  refine lv_iload_n (pc := 8) hx hb dX3_leaveTrace_8 rfl (lv_at hl 1 rfl) ?_
  refine lv_iadd (pc := 9) hx hb dX3_leaveTrace_9 ?_
  refine va_put (pc := 10) (D := D) (ci := 3) (v := .int ((31 * (X 6 0)) + p0)) (ty := .int) (C := RX3) (T := TX3) (N := 8) hx hb hts inX3_leaveTrace_X3 tyX3 tyX3_ok nmX3 hown hK.1 hP hD hS 0 rfl rfl 6 (by decide) (hts (.fieldLink RX3 41 "HedgeHoles" "traceLeft" "I") (by decide +kernel)) (fun _ h9 => h9) rfl (by decide +kernel) (vp_nar_int _) rfl (Nat.le_of_ble_eq_true rfl) dX3_leaveTrace_10 (fun H locs hP hD hS => ?_)
  have hP : va_P D vwCl (wX cI cZ cQ o ra rr k rc oL aL oT aT oN aN (sB X 6 0 ((31 * (X 6 0)) + p0)) R L T N) H := hP
  have hD : va_D A (wX cI cZ cQ o ra rr k rc oL aL oT aT oN aN (sB X 6 0 ((31 * (X 6 0)) + p0)) R L T N) := hD
  obtain ⟨X_1, h2, hf⟩ := bd hf
  have h2 := Option.some.inj h2
  rw [h2] at hP hD
  obtain rfl := Option.some.inj hf
  exact hRet 13 ls H locs dX3_leaveTrace_13 hP hS
theorem hdX3_leaveTrace : yX3_leaveTrace.cls ≠ "java/lang/invoke/MethodHandle" ∧ yX3_leaveTrace.cls ≠ "java/lang/invoke/VarHandle" ∧ (parseMethodDescriptor yX3_leaveTrace.desc).map (fun d => d.parameters.length) = some 1 := by decide +kernel
abbrev rmX3_plainTells : Room := { frames := 1, cells := 0, slots := 0, locals := 21 }
theorem inX3_plainTells_X0 : ∀ w ∈ wsX00, w ∈ wsX3_plainTells := fun _ h => List.mem_cons_of_mem _ (List.mem_append_right _ h)
theorem inX3_plainTells_X3 : ∀ w ∈ wsX30, w ∈ wsX3_plainTells := fun _ h => List.mem_cons_of_mem _ (List.mem_append_left _ (List.mem_append_right _ h))
set_option maxHeartbeats 4000000 in
set_option maxRecDepth 100000 in
theorem mtX3_plainTells (l : Launch) (D : va_G) (cI cZ cQ : ClassId) (o ra : Nat) (rr : Nat → Nat) (k rc : Nat) (oL : Nat) (aL : Nat → Nat) (oT : Nat) (aT : Nat → Nat) (oN : Nat) (aN : Nat → Nat) (X R L T N : Bk) (p0 : Int32) (sz : Nat) (out : (Int32 × Bk)) (hf : fX3_plainTells X L p0 = some out) : Met l yX3_plainTells wsX3_plainTells rmX3_plainTells (WrP D cI cZ cQ [.ref o, .int p0] (wX cI cZ cQ o ra rr k rc oL aL oT aT oN aN X R L T N) sz) (WrQi D out.1 (wX cI cZ cQ o ra rr k rc oL aL oT aT oN aN X R L T N) (wX cI cZ cQ o ra rr k rc oL aL oT aT oN aN out.2 R L T N) sz) 0 0 (va_A (wX cI cZ cQ o ra rr k rc oL aL oT aT oN aN X R L T N) sz) := by
  refine metWi (ty := .int) (cc := cX3_plainTells) (maxL := 2) (by decide) rfl (Nat.le_of_ble_eq_true rfl) ?_
  intro p e s m args below meth c Q A CF hK hP hD hA hRet ls hl
  obtain ⟨hx, hb, hml, hown, hts⟩ := id CF
  have hS : va_S A s.heap s.heap [] := va_S.rf
  have hl : lv_has ls 2 [(0, .ref o), (1, .int p0)] := hl
  unfold fX3_plainTells at hf
  refine lv_aload_n (pc := 0) hx hb dX3_plainTells_0 rfl (lv_at hl 0 rfl) ?_
  refine lv_iconst (pc := 1) (v := 1) hx hb dX3_plainTells_1 (by decide) ?_
  obtain ⟨v1, h2, hf⟩ := bd hf
  refine wsVv (pc := 2) (As := [.int 1]) (rest := []) (w1 := wX cI cZ cQ o ra rr k rc oL aL oT aT oN aN v1 R L T N) CF (mtX3_leaveTrace l D cI cZ cQ o ra rr k rc oL aL oT aT oN aN X R L T N 1 s.heap.size v1 h2) (cwV 1 hts gX3_plainTells_X3_leaveTrace rfl rfl rfl ⟨rfl, hdX3_leaveTrace⟩ ⟨Nat.le_of_ble_eq_true rfl, Nat.le_of_ble_eq_true rfl⟩) hK hP hD hS hA rfl rfl rfl rfl rfl hl.1 rfl (Nat.le_of_ble_eq_true rfl) dX3_plainTells_2 (fun H locs hP hD hS => ?_)
  refine lv_aload_n (pc := 5) hx hb dX3_plainTells_5 rfl (lv_at hl 0 rfl) ?_
  refine va_get (pc := 6) (D := D) (ci := 3) (v := .ref oL) (C := RX3) (T := TX3) (N := 8) hx hb hts inX3_plainTells_X3 hown hK.1 hP 0 rfl rfl 1 (by decide) (hts (.fieldLink RX3 20 "HedgeHoles" "land" "LHedgeHoles$Land;") (by decide +kernel)) (fun _ h9 => h9) rfl dX3_plainTells_6 ?_
  refine va_get (pc := 9) (D := D) (ci := 0) (v := .ref (aL 5)) (C := RX0) (T := TX0) (N := 8) hx hb hts inX3_plainTells_X0 hown hK.1 hP 4 rfl rfl 5 (by decide) (hts (.fieldLink RX3 87 "HedgeHoles$Land" "girth" "[I") (by decide +kernel)) (fun _ h9 => h9) rfl dX3_plainTells_9 ?_
  refine lv_iload_n (pc := 12) hx hb dX3_plainTells_12 rfl (lv_at hl 1 rfl) ?_
  obtain ⟨h3, hf⟩ := gI_e hf
  refine va_iald (pc := 13) (f := L 5) (n := 5) hx hb hK.1 hP 7 0 rfl rfl h3 dX3_plainTells_13 ?_
  obtain rfl := Option.some.inj hf
  exact hRet 14 ls H locs (vp_nar_int _) dX3_plainTells_14 hP hS
theorem hdX3_plainTells : yX3_plainTells.cls ≠ "java/lang/invoke/MethodHandle" ∧ yX3_plainTells.cls ≠ "java/lang/invoke/VarHandle" ∧ (parseMethodDescriptor yX3_plainTells.desc).map (fun d => d.parameters.length) = some 1 := by decide +kernel
abbrev rmX3_thiefTells : Room := { frames := 2, cells := 0, slots := 0, locals := 42 }
set_option maxHeartbeats 4000000 in
set_option maxRecDepth 100000 in
theorem mtX3_thiefTells (l : Launch) (D : va_G) (cI cZ cQ : ClassId) (o ra : Nat) (rr : Nat → Nat) (k rc : Nat) (oL : Nat) (aL : Nat → Nat) (oT : Nat) (aT : Nat → Nat) (oN : Nat) (aN : Nat → Nat) (X R L T N : Bk) (p0 : Int32) (sz : Nat) (out : (Int32 × Bk)) (hf : fX3_thiefTells X L p0 = some out) : Met l yX3_thiefTells wsX3_thiefTells rmX3_thiefTells (WrP D cI cZ cQ [.ref o, .int p0] (wX cI cZ cQ o ra rr k rc oL aL oT aT oN aN X R L T N) sz) (WrQi D out.1 (wX cI cZ cQ o ra rr k rc oL aL oT aT oN aN X R L T N) (wX cI cZ cQ o ra rr k rc oL aL oT aT oN aN out.2 R L T N) sz) 0 0 (va_A (wX cI cZ cQ o ra rr k rc oL aL oT aT oN aN X R L T N) sz) := by
  refine metWi (ty := .int) (cc := cX3_thiefTells) (maxL := 2) (by decide) rfl (Nat.le_of_ble_eq_true rfl) ?_
  intro p e s m args below meth c Q A CF hK hP hD hA hRet ls hl
  obtain ⟨hx, hb, hml, hown, hts⟩ := id CF
  have hS : va_S A s.heap s.heap [] := va_S.rf
  have hl : lv_has ls 2 [(0, .ref o), (1, .int p0)] := hl
  unfold fX3_thiefTells at hf
  refine lv_aload_n (pc := 0) hx hb dX3_thiefTells_0 rfl (lv_at hl 0 rfl) ?_
  refine lv_iconst (pc := 1) (v := 2) hx hb dX3_thiefTells_1 (by decide) ?_
  obtain ⟨v1, h2, hf⟩ := bd hf
  refine wsVv (pc := 2) (As := [.int 2]) (rest := []) (w1 := wX cI cZ cQ o ra rr k rc oL aL oT aT oN aN v1 R L T N) CF (mtX3_leaveTrace l D cI cZ cQ o ra rr k rc oL aL oT aT oN aN X R L T N 2 s.heap.size v1 h2) (cwV 1 hts gX3_thiefTells_X3_leaveTrace rfl rfl rfl ⟨rfl, hdX3_leaveTrace⟩ ⟨Nat.le_of_ble_eq_true rfl, Nat.le_of_ble_eq_true rfl⟩) hK hP hD hS hA rfl rfl rfl rfl rfl hl.1 rfl (Nat.le_of_ble_eq_true rfl) dX3_thiefTells_2 (fun H locs hP hD hS => ?_)
  refine lv_aload_n (pc := 5) hx hb dX3_thiefTells_5 rfl (lv_at hl 0 rfl) ?_
  refine lv_iload_n (pc := 6) hx hb dX3_thiefTells_6 rfl (lv_at hl 1 rfl) ?_
  obtain ⟨v3, h4, hf⟩ := bd hf
  refine wsVi (pc := 7) (As := [.int p0]) (rest := []) (w1 := wX cI cZ cQ o ra rr k rc oL aL oT aT oN aN v3.2 R L T N) CF (mtX3_plainTells l D cI cZ cQ o ra rr k rc oL aL oT aT oN aN v1 R L T N p0 H.size v3 h4) (cwV 1 hts gX3_thiefTells_X3_plainTells rfl rfl rfl ⟨rfl, hdX3_plainTells⟩ ⟨Nat.le_of_ble_eq_true rfl, Nat.le_of_ble_eq_true rfl⟩) hK hP hD hS hA rfl rfl rfl rfl rfl hl.1 rfl (Nat.le_of_ble_eq_true rfl) dX3_thiefTells_7 (fun H locs hP hD hS => ?_)
  refine lv_bipush (pc := 10) (v := 100) hx hb dX3_thiefTells_10 (by decide) ?_
  refine lv_iadd (pc := 12) hx hb dX3_thiefTells_12 ?_
  obtain rfl := Option.some.inj hf
  exact hRet 13 ls H locs (vp_nar_int _) dX3_thiefTells_13 hP hS
theorem hdX3_thiefTells : yX3_thiefTells.cls ≠ "java/lang/invoke/MethodHandle" ∧ yX3_thiefTells.cls ≠ "java/lang/invoke/VarHandle" ∧ (parseMethodDescriptor yX3_thiefTells.desc).map (fun d => d.parameters.length) = some 1 := by decide +kernel
abbrev rmX3_childTells : Room := { frames := 3, cells := 0, slots := 0, locals := 63 }
set_option maxHeartbeats 4000000 in
set_option maxRecDepth 100000 in
theorem mtX3_childTells (l : Launch) (D : va_G) (cI cZ cQ : ClassId) (o ra : Nat) (rr : Nat → Nat) (k rc : Nat) (oL : Nat) (aL : Nat → Nat) (oT : Nat) (aT : Nat → Nat) (oN : Nat) (aN : Nat → Nat) (X R L T N : Bk) (p0 : Int32) (sz : Nat) (out : (Int32 × Bk)) (hf : fX3_childTells X L p0 = some out) : Met l yX3_childTells wsX3_childTells rmX3_childTells (WrP D cI cZ cQ [.ref o, .int p0] (wX cI cZ cQ o ra rr k rc oL aL oT aT oN aN X R L T N) sz) (WrQi D out.1 (wX cI cZ cQ o ra rr k rc oL aL oT aT oN aN X R L T N) (wX cI cZ cQ o ra rr k rc oL aL oT aT oN aN out.2 R L T N) sz) 0 0 (va_A (wX cI cZ cQ o ra rr k rc oL aL oT aT oN aN X R L T N) sz) := by
  refine metWi (ty := .int) (cc := cX3_childTells) (maxL := 3) (by decide) rfl (Nat.le_of_ble_eq_true rfl) ?_
  intro p e s m args below meth c Q A CF hK hP hD hA hRet ls hl
  obtain ⟨hx, hb, hml, hown, hts⟩ := id CF
  have hS : va_S A s.heap s.heap [] := va_S.rf
  have hl : lv_has ls 3 [(0, .ref o), (1, .int p0)] := hl
  unfold fX3_childTells at hf
  refine lv_aload_n (pc := 0) hx hb dX3_childTells_0 rfl (lv_at hl 0 rfl) ?_
  refine lv_iconst (pc := 1) (v := 3) hx hb dX3_childTells_1 (by decide) ?_
  obtain ⟨v1, h2, hf⟩ := bd hf
  refine wsVv (pc := 2) (As := [.int 3]) (rest := []) (w1 := wX cI cZ cQ o ra rr k rc oL aL oT aT oN aN v1 R L T N) CF (mtX3_leaveTrace l D cI cZ cQ o ra rr k rc oL aL oT aT oN aN X R L T N 3 s.heap.size v1 h2) (cwV 1 hts gX3_childTells_X3_leaveTrace rfl rfl rfl ⟨rfl, hdX3_leaveTrace⟩ ⟨Nat.le_of_ble_eq_true rfl, Nat.le_of_ble_eq_true rfl⟩) hK hP hD hS hA rfl rfl rfl rfl rfl hl.1 rfl (Nat.le_of_ble_eq_true rfl) dX3_childTells_2 (fun H locs hP hD hS => ?_)
  refine lv_aload_n (pc := 5) hx hb dX3_childTells_5 rfl (lv_at hl 0 rfl) ?_
  refine lv_iload_n (pc := 6) hx hb dX3_childTells_6 rfl (lv_at hl 1 rfl) ?_
  obtain ⟨v3, h4, hf⟩ := bd hf
  refine wsVi (pc := 7) (As := [.int p0]) (rest := []) (w1 := wX cI cZ cQ o ra rr k rc oL aL oT aT oN aN v3.2 R L T N) CF (mtX3_thiefTells l D cI cZ cQ o ra rr k rc oL aL oT aT oN aN v1 R L T N p0 H.size v3 h4) (cwV 1 hts gX3_childTells_X3_thiefTells rfl rfl rfl ⟨rfl, hdX3_thiefTells⟩ ⟨Nat.le_of_ble_eq_true rfl, Nat.le_of_ble_eq_true rfl⟩) hK hP hD hS hA rfl rfl rfl rfl rfl hl.1 rfl (Nat.le_of_ble_eq_true rfl) dX3_childTells_7 (fun H locs hP hD hS => ?_)
  refine lv_istore_n (pc := 10) (lv' := [(2, .int v3.1), (0, .ref o), (1, .int p0)]) hx hb dX3_childTells_10 rfl hl (by decide) rfl (fun ls hl => ?_)
  refine lv_iload_n (pc := 11) hx hb dX3_childTells_11 rfl (lv_at hl 0 rfl) ?_
  refine lv_aload_n (pc := 12) hx hb dX3_childTells_12 rfl (lv_at hl 1 rfl) ?_
  refine lv_iload_n (pc := 13) hx hb dX3_childTells_13 rfl (lv_at hl 2 rfl) ?_
  obtain ⟨v5, h6, hf⟩ := bd hf
  refine wsVi (pc := 14) (As := [.int p0]) (rest := [.int v3.1]) (w1 := wX cI cZ cQ o ra rr k rc oL aL oT aT oN aN v5.2 R L T N) CF (mtX3_plainTells l D cI cZ cQ o ra rr k rc oL aL oT aT oN aN v3.2 R L T N p0 H.size v5 h6) (cwV 1 hts gX3_childTells_X3_plainTells rfl rfl rfl ⟨rfl, hdX3_plainTells⟩ ⟨Nat.le_of_ble_eq_true rfl, Nat.le_of_ble_eq_true rfl⟩) hK hP hD hS hA rfl rfl rfl rfl rfl hl.1 rfl (Nat.le_of_ble_eq_true rfl) dX3_childTells_14 (fun H locs hP hD hS => ?_)
  refine lv_iadd (pc := 17) hx hb dX3_childTells_17 ?_
  obtain rfl := Option.some.inj hf
  exact hRet 18 ls H locs (vp_nar_int _) dX3_childTells_18 hP hS
theorem hdX3_childTells : yX3_childTells.cls ≠ "java/lang/invoke/MethodHandle" ∧ yX3_childTells.cls ≠ "java/lang/invoke/VarHandle" ∧ (parseMethodDescriptor yX3_childTells.desc).map (fun d => d.parameters.length) = some 1 := by decide +kernel
abbrev rmX3_tell : Room := { frames := 4, cells := 0, slots := 0, locals := 85 }
theorem inX3_tell_X0 : ∀ w ∈ wsX00, w ∈ wsX3_tell := fun _ h => List.mem_cons_of_mem _ (List.mem_append_right _ h)
theorem inX3_tell_X3 : ∀ w ∈ wsX30, w ∈ wsX3_tell := fun _ h => List.mem_cons_of_mem _ (List.mem_append_left _ (List.mem_append_right _ h))
set_option maxHeartbeats 4000000 in
set_option maxRecDepth 100000 in
theorem mtX3_tell (l : Launch) (D : va_G) (cI cZ cQ : ClassId) (o ra : Nat) (rr : Nat → Nat) (k rc : Nat) (oL : Nat) (aL : Nat → Nat) (oT : Nat) (aT : Nat → Nat) (oN : Nat) (aN : Nat → Nat) (X R L T N : Bk) (p0 : Int32) (sz : Nat) (out : (Int32 × Bk)) (hf : fX3_tell X L p0 = some out) : Met l yX3_tell wsX3_tell rmX3_tell (WrP D cI cZ cQ [.ref o, .int p0] (wX cI cZ cQ o ra rr k rc oL aL oT aT oN aN X R L T N) sz) (WrQi D out.1 (wX cI cZ cQ o ra rr k rc oL aL oT aT oN aN X R L T N) (wX cI cZ cQ o ra rr k rc oL aL oT aT oN aN out.2 R L T N) sz) 0 0 (va_A (wX cI cZ cQ o ra rr k rc oL aL oT aT oN aN X R L T N) sz) := by
  refine metWi (ty := .int) (cc := cX3_tell) (maxL := 2) (by decide) rfl (Nat.le_of_ble_eq_true rfl) ?_
  intro p e s m args below meth c Q A CF hK hP hD hA hRet ls hl
  obtain ⟨hx, hb, hml, hown, hts⟩ := id CF
  have hS : va_S A s.heap s.heap [] := va_S.rf
  have hl : lv_has ls 2 [(0, .ref o), (1, .int p0)] := hl
  unfold fX3_tell at hf
  refine lv_aload_n (pc := 0) hx hb dX3_tell_0 rfl (lv_at hl 0 rfl) ?_
  refine lv_iload_n (pc := 1) hx hb dX3_tell_1 rfl (lv_at hl 1 rfl) ?_
  obtain ⟨v1, h2, hf⟩ := bd hf
  refine roVi (pc := 2) (As := [.int p0]) (rest := []) CF (mtX3_isGoer l D cI cZ cQ o ra rr k rc oL aL oT aT oN aN X R L T N p0 v1 h2) (cwV 1 hts gX3_tell_X3_isGoer rfl rfl rfl ⟨rfl, hdX3_isGoer⟩ ⟨Nat.le_of_ble_eq_true rfl, Nat.le_of_ble_eq_true rfl⟩) hK hP rfl rfl rfl rfl hl.1 rfl (Nat.le_of_ble_eq_true rfl) dX3_tell_2 ?_
  refine lv_if_ne (pc := 5) (tgt := 10) hx hb dX3_tell_5 (by decide) (fun c3 => ?_) (fun c3 => ?_)
  · have hf := iF c3 hf
    refine lv_aload_n (pc := 10) hx hb dX3_tell_10 rfl (lv_at hl 0 rfl) ?_
    refine va_get (pc := 11) (D := D) (ci := 3) (v := .ref oL) (C := RX3) (T := TX3) (N := 8) hx hb hts inX3_tell_X3 hown hK.1 hP 0 rfl rfl 1 (by decide) (hts (.fieldLink RX3 20 "HedgeHoles" "land" "LHedgeHoles$Land;") (by decide +kernel)) (fun _ h9 => h9) rfl dX3_tell_11 ?_
    refine va_get (pc := 14) (D := D) (ci := 0) (v := .ref (aL 4)) (C := RX0) (T := TX0) (N := 8) hx hb hts inX3_tell_X0 hown hK.1 hP 4 rfl rfl 4 (by decide) (hts (.fieldLink RX3 83 "HedgeHoles$Land" "kind" "[I") (by decide +kernel)) (fun _ h9 => h9) rfl dX3_tell_14 ?_
    refine lv_iload_n (pc := 17) hx hb dX3_tell_17 rfl (lv_at hl 1 rfl) ?_
    obtain ⟨h4, hf⟩ := gI_e hf
    refine va_iald (pc := 18) (f := L 4) (n := 5) hx hb hK.1 hP 6 0 rfl rfl h4 dX3_tell_18 ?_
    by_cases c5 : (L 4 p0.toNatClampNeg) = 1
    · have hf := iT c5 hf
      refine lv_lookup (pc := 19) (tgt := 50) (off := 31) hx hb dX3_tell_19 (by decide) (by rw [c5]; rfl) (by decide) ?_
      refine lv_aload_n (pc := 50) hx hb dX3_tell_50 rfl (lv_at hl 0 rfl) ?_
      refine lv_iload_n (pc := 51) hx hb dX3_tell_51 rfl (lv_at hl 1 rfl) ?_
      obtain ⟨v6, h7, hf⟩ := bd hf
      refine wsVi (pc := 52) (As := [.int p0]) (rest := []) (w1 := wX cI cZ cQ o ra rr k rc oL aL oT aT oN aN v6.2 R L T N) CF (mtX3_thiefTells l D cI cZ cQ o ra rr k rc oL aL oT aT oN aN X R L T N p0 s.heap.size v6 h7) (cwV 1 hts gX3_tell_X3_thiefTells rfl rfl rfl ⟨rfl, hdX3_thiefTells⟩ ⟨Nat.le_of_ble_eq_true rfl, Nat.le_of_ble_eq_true rfl⟩) hK hP hD hS hA rfl rfl rfl rfl rfl hl.1 rfl (Nat.le_of_ble_eq_true rfl) dX3_tell_52 (fun H locs hP hD hS => ?_)
      obtain rfl := Option.some.inj hf
      exact hRet 55 ls H locs (vp_nar_int _) dX3_tell_55 hP hS
    · have hf := iF c5 hf
      by_cases c8 : (L 4 p0.toNatClampNeg) = 2
      · have hf := iT c8 hf
        refine lv_lookup (pc := 19) (tgt := 44) (off := 25) hx hb dX3_tell_19 (by decide) (by rw [c8]; rfl) (by decide) ?_
        refine lv_aload_n (pc := 44) hx hb dX3_tell_44 rfl (lv_at hl 0 rfl) ?_
        refine lv_iload_n (pc := 45) hx hb dX3_tell_45 rfl (lv_at hl 1 rfl) ?_
        obtain ⟨v9, h10, hf⟩ := bd hf
        refine wsVi (pc := 46) (As := [.int p0]) (rest := []) (w1 := wX cI cZ cQ o ra rr k rc oL aL oT aT oN aN v9.2 R L T N) CF (mtX3_childTells l D cI cZ cQ o ra rr k rc oL aL oT aT oN aN X R L T N p0 s.heap.size v9 h10) (cwV 1 hts gX3_tell_X3_childTells rfl rfl rfl ⟨rfl, hdX3_childTells⟩ ⟨Nat.le_of_ble_eq_true rfl, Nat.le_of_ble_eq_true rfl⟩) hK hP hD hS hA rfl rfl rfl rfl rfl hl.1 rfl (Nat.le_of_ble_eq_true rfl) dX3_tell_46 (fun H locs hP hD hS => ?_)
        obtain rfl := Option.some.inj hf
        exact hRet 49 ls H locs (vp_nar_int _) dX3_tell_49 hP hS
      · have hf := iF c8 hf
        refine lv_lookup (pc := 19) (tgt := 56) (off := 37) hx hb dX3_tell_19 (by decide) ((lv_osw c5 rfl).trans ((lv_osw c8 rfl).trans (rfl))) (by decide) ?_
        refine lv_aload_n (pc := 56) hx hb dX3_tell_56 rfl (lv_at hl 0 rfl) ?_
        refine lv_iload_n (pc := 57) hx hb dX3_tell_57 rfl (lv_at hl 1 rfl) ?_
        obtain ⟨v11, h12, hf⟩ := bd hf
        refine wsVi (pc := 58) (As := [.int p0]) (rest := []) (w1 := wX cI cZ cQ o ra rr k rc oL aL oT aT oN aN v11.2 R L T N) CF (mtX3_plainTells l D cI cZ cQ o ra rr k rc oL aL oT aT oN aN X R L T N p0 s.heap.size v11 h12) (cwV 1 hts gX3_tell_X3_plainTells rfl rfl rfl ⟨rfl, hdX3_plainTells⟩ ⟨Nat.le_of_ble_eq_true rfl, Nat.le_of_ble_eq_true rfl⟩) hK hP hD hS hA rfl rfl rfl rfl rfl hl.1 rfl (Nat.le_of_ble_eq_true rfl) dX3_tell_58 (fun H locs hP hD hS => ?_)
        obtain rfl := Option.some.inj hf
        exact hRet 61 ls H locs (vp_nar_int _) dX3_tell_61 hP hS
  · have hf := iT c3 hf
    refine lv_iconst (pc := 8) (v := (-1)) hx hb dX3_tell_8 (by decide) ?_
    obtain rfl := Option.some.inj hf
    exact hRet 9 ls s.heap [] (vp_nar_int _) dX3_tell_9 hP hS
theorem hdX3_tell : yX3_tell.cls ≠ "java/lang/invoke/MethodHandle" ∧ yX3_tell.cls ≠ "java/lang/invoke/VarHandle" ∧ (parseMethodDescriptor yX3_tell.desc).map (fun d => d.parameters.length) = some 1 := by decide +kernel
abbrev rmX3_hail : Room := { frames := 1, cells := 0, slots := 0, locals := 21 }
theorem inX3_hail_X0 : ∀ w ∈ wsX00, w ∈ wsX3_hail := fun _ h => List.mem_cons_of_mem _ (List.mem_append_right _ h)
theorem inX3_hail_X3 : ∀ w ∈ wsX30, w ∈ wsX3_hail := fun _ h => List.mem_cons_of_mem _ (List.mem_append_left _ (List.mem_append_right _ h))
set_option maxHeartbeats 4000000 in
set_option maxRecDepth 100000 in
theorem mtX3_hail (l : Launch) (D : va_G) (cI cZ cQ : ClassId) (o ra : Nat) (rr : Nat → Nat) (k rc : Nat) (oL : Nat) (aL : Nat → Nat) (oT : Nat) (aT : Nat → Nat) (oN : Nat) (aN : Nat → Nat) (X R L T N : Bk) (p0 : Int32) (sz : Nat) (out : (Int32 × Bk)) (hf : fX3_hail X L p0 = some out) : Met l yX3_hail wsX3_hail rmX3_hail (WrP D cI cZ cQ [.ref o, .int p0] (wX cI cZ cQ o ra rr k rc oL aL oT aT oN aN X R L T N) sz) (WrQi D out.1 (wX cI cZ cQ o ra rr k rc oL aL oT aT oN aN X R L T N) (wX cI cZ cQ o ra rr k rc oL aL oT aT oN aN out.2 R L T N) sz) 0 0 (va_A (wX cI cZ cQ o ra rr k rc oL aL oT aT oN aN X R L T N) sz) := by
  refine metWi (ty := .int) (cc := cX3_hail) (maxL := 2) (by decide) rfl (Nat.le_of_ble_eq_true rfl) ?_
  intro p e s m args below meth c Q A CF hK hP hD hA hRet ls hl
  obtain ⟨hx, hb, hml, hown, hts⟩ := id CF
  have hS : va_S A s.heap s.heap [] := va_S.rf
  have hl : lv_has ls 2 [(0, .ref o), (1, .int p0)] := hl
  unfold fX3_hail at hf
  refine lv_aload_n (pc := 0) hx hb dX3_hail_0 rfl (lv_at hl 0 rfl) ?_
  refine lv_iload_n (pc := 1) hx hb dX3_hail_1 rfl (lv_at hl 1 rfl) ?_
  obtain ⟨v1, h2, hf⟩ := bd hf
  refine roVi (pc := 2) (As := [.int p0]) (rest := []) CF (mtX3_isGoer l D cI cZ cQ o ra rr k rc oL aL oT aT oN aN X R L T N p0 v1 h2) (cwV 1 hts gX3_hail_X3_isGoer rfl rfl rfl ⟨rfl, hdX3_isGoer⟩ ⟨Nat.le_of_ble_eq_true rfl, Nat.le_of_ble_eq_true rfl⟩) hK hP rfl rfl rfl rfl hl.1 rfl (Nat.le_of_ble_eq_true rfl) dX3_hail_2 ?_
  refine lv_if_ne (pc := 5) (tgt := 10) hx hb dX3_hail_5 (by decide) (fun c3 => ?_) (fun c3 => ?_)
  · have hf := iF c3 hf
    refine lv_aload_n (pc := 10) hx hb dX3_hail_10 rfl (lv_at hl 0 rfl) ?_
    refine va_get (pc := 11) (D := D) (ci := 3) (v := .ref oL) (C := RX3) (T := TX3) (N := 8) hx hb hts inX3_hail_X3 hown hK.1 hP 0 rfl rfl 1 (by decide) (hts (.fieldLink RX3 20 "HedgeHoles" "land" "LHedgeHoles$Land;") (by decide +kernel)) (fun _ h9 => h9) rfl dX3_hail_11 ?_
    refine va_get (pc := 14) (D := D) (ci := 0) (v := .ref (aL 4)) (C := RX0) (T := TX0) (N := 8) hx hb hts inX3_hail_X0 hown hK.1 hP 4 rfl rfl 4 (by decide) (hts (.fieldLink RX3 83 "HedgeHoles$Land" "kind" "[I") (by decide +kernel)) (fun _ h9 => h9) rfl dX3_hail_14 ?_
    refine lv_iload_n (pc := 17) hx hb dX3_hail_17 rfl (lv_at hl 1 rfl) ?_
    obtain ⟨h4, hf⟩ := gI_e hf
    refine va_iald (pc := 18) (f := L 4) (n := 5) hx hb hK.1 hP 6 0 rfl rfl h4 dX3_hail_18 ?_
    refine lv_iconst (pc := 19) (v := 2) hx hb dX3_hail_19 (by decide) ?_
    refine lv_icmp_ne (pc := 20) (tgt := 31) hx hb dX3_hail_20 (by decide) (fun c5 => ?_) (fun c5 => ?_)
    · have hf := iF c5 hf
      refine lv_aload_n (pc := 31) hx hb dX3_hail_31 rfl (lv_at hl 0 rfl) ?_
      refine lv_iconst (pc := 32) (v := 4) hx hb dX3_hail_32 (by decide) ?_
      obtain ⟨v6, h7, hf⟩ := bd hf
      refine wsVv (pc := 33) (As := [.int 4]) (rest := []) (w1 := wX cI cZ cQ o ra rr k rc oL aL oT aT oN aN v6 R L T N) CF (mtX3_leaveTrace l D cI cZ cQ o ra rr k rc oL aL oT aT oN aN X R L T N 4 s.heap.size v6 h7) (cwV 1 hts gX3_hail_X3_leaveTrace rfl rfl rfl ⟨rfl, hdX3_leaveTrace⟩ ⟨Nat.le_of_ble_eq_true rfl, Nat.le_of_ble_eq_true rfl⟩) hK hP hD hS hA rfl rfl rfl rfl rfl hl.1 rfl (Nat.le_of_ble_eq_true rfl) dX3_hail_33 (fun H locs hP hD hS => ?_)
      refine lv_aload_n (pc := 36) hx hb dX3_hail_36 rfl (lv_at hl 0 rfl) ?_
      refine va_get (pc := 37) (D := D) (ci := 3) (v := .ref oL) (C := RX3) (T := TX3) (N := 8) hx hb hts inX3_hail_X3 hown hK.1 hP 0 rfl rfl 1 (by decide) (hts (.fieldLink RX3 20 "HedgeHoles" "land" "LHedgeHoles$Land;") (by decide +kernel)) (fun _ h9 => h9) rfl dX3_hail_37 ?_
      refine va_get (pc := 40) (D := D) (ci := 0) (v := .ref (aL 6)) (C := RX0) (T := TX0) (N := 8) hx hb hts inX3_hail_X0 hown hK.1 hP 4 rfl rfl 6 (by decide) (hts (.fieldLink RX3 93 "HedgeHoles$Land" "place" "[I") (by decide +kernel)) (fun _ h9 => h9) rfl dX3_hail_40 ?_
      refine lv_iload_n (pc := 43) hx hb dX3_hail_43 rfl (lv_at hl 1 rfl) ?_
      refine va_iald (pc := 44) (f := L 6) (n := 5) hx hb hK.1 hP 8 0 rfl rfl h4 dX3_hail_44 ?_
      obtain rfl := Option.some.inj hf
      exact hRet 45 ls H locs (vp_nar_int _) dX3_hail_45 hP hS
    · have hf := iT c5 hf
      refine lv_aload_n (pc := 23) hx hb dX3_hail_23 rfl (lv_at hl 0 rfl) ?_
      refine lv_iconst (pc := 24) (v := 5) hx hb dX3_hail_24 (by decide) ?_
      obtain ⟨v8, h9, hf⟩ := bd hf
      refine wsVv (pc := 25) (As := [.int 5]) (rest := []) (w1 := wX cI cZ cQ o ra rr k rc oL aL oT aT oN aN v8 R L T N) CF (mtX3_leaveTrace l D cI cZ cQ o ra rr k rc oL aL oT aT oN aN X R L T N 5 s.heap.size v8 h9) (cwV 1 hts gX3_hail_X3_leaveTrace rfl rfl rfl ⟨rfl, hdX3_leaveTrace⟩ ⟨Nat.le_of_ble_eq_true rfl, Nat.le_of_ble_eq_true rfl⟩) hK hP hD hS hA rfl rfl rfl rfl rfl hl.1 rfl (Nat.le_of_ble_eq_true rfl) dX3_hail_25 (fun H locs hP hD hS => ?_)
      refine lv_bipush (pc := 28) (v := 90) hx hb dX3_hail_28 (by decide) ?_
      obtain rfl := Option.some.inj hf
      exact hRet 30 ls H locs (vp_nar_int _) dX3_hail_30 hP hS
  · have hf := iT c3 hf
    refine lv_iconst (pc := 8) (v := (-1)) hx hb dX3_hail_8 (by decide) ?_
    obtain rfl := Option.some.inj hf
    exact hRet 9 ls s.heap [] (vp_nar_int _) dX3_hail_9 hP hS
theorem hdX3_hail : yX3_hail.cls ≠ "java/lang/invoke/MethodHandle" ∧ yX3_hail.cls ≠ "java/lang/invoke/VarHandle" ∧ (parseMethodDescriptor yX3_hail.desc).map (fun d => d.parameters.length) = some 1 := by decide +kernel
abbrev rmX3_as : Room := { frames := 1, cells := 0, slots := 0, locals := 21 }
theorem inX3_as_X0 : ∀ w ∈ wsX00, w ∈ wsX3_as := fun _ h => List.mem_cons_of_mem _ (List.mem_append_right _ h)
theorem inX3_as_X3 : ∀ w ∈ wsX30, w ∈ wsX3_as := fun _ h => List.mem_cons_of_mem _ (List.mem_append_left _ (List.mem_append_right _ h))
set_option maxHeartbeats 4000000 in
set_option maxRecDepth 100000 in
theorem mtX3_as (l : Launch) (D : va_G) (cI cZ cQ : ClassId) (o ra : Nat) (rr : Nat → Nat) (k rc : Nat) (oL : Nat) (aL : Nat → Nat) (oT : Nat) (aT : Nat → Nat) (oN : Nat) (aN : Nat → Nat) (X R L T N : Bk) (p0 : Int32) (p1 : Int32) (sz : Nat) (out : (Int32 × Bk)) (hf : fX3_as X L p0 p1 = some out) : Met l yX3_as wsX3_as rmX3_as (WrP D cI cZ cQ [.ref o, .int p0, .int p1] (wX cI cZ cQ o ra rr k rc oL aL oT aT oN aN X R L T N) sz) (WrQi D out.1 (wX cI cZ cQ o ra rr k rc oL aL oT aT oN aN X R L T N) (wX cI cZ cQ o ra rr k rc oL aL oT aT oN aN out.2 R L T N) sz) 0 0 (va_A (wX cI cZ cQ o ra rr k rc oL aL oT aT oN aN X R L T N) sz) := by
  refine metWi (ty := .int) (cc := cX3_as) (maxL := 3) (by decide) rfl (Nat.le_of_ble_eq_true rfl) ?_
  intro p e s m args below meth c Q A CF hK hP hD hA hRet ls hl
  obtain ⟨hx, hb, hml, hown, hts⟩ := id CF
  have hS : va_S A s.heap s.heap [] := va_S.rf
  have hl : lv_has ls 3 [(0, .ref o), (1, .int p0), (2, .int p1)] := hl
  unfold fX3_as at hf
  refine lv_aload_n (pc := 0) hx hb dX3_as_0 rfl (lv_at hl 0 rfl) ?_
  refine lv_iconst (pc := 1) (v := 0) hx hb dX3_as_1 (by decide) ?_
  refine va_put (pc := 2) (D := D) (ci := 3) (v := .int 0) (ty := .int) (C := RX3) (T := TX3) (N := 8) hx hb hts inX3_as_X3 tyX3 tyX3_ok nmX3 hown hK.1 hP hD hS 0 rfl rfl 7 (by decide) (hts (.fieldLink RX3 44 "HedgeHoles" "lastFault" "I") (by decide +kernel)) (fun _ h9 => h9) rfl (by decide +kernel) (vp_nar_int _) rfl (Nat.le_of_ble_eq_true rfl) dX3_as_2 (fun H locs hP hD hS => ?_)
  have hP : va_P D vwCl (wX cI cZ cQ o ra rr k rc oL aL oT aT oN aN (sB X 7 0 0) R L T N) H := hP
  have hD : va_D A (wX cI cZ cQ o ra rr k rc oL aL oT aT oN aN (sB X 7 0 0) R L T N) := hD
  obtain ⟨X_1, h2, hf⟩ := bd hf
  have h2 := Option.some.inj h2
  rw [h2] at hP hD
  refine lv_aload_n (pc := 5) hx hb dX3_as_5 rfl (lv_at hl 0 rfl) ?_
  refine lv_iload_n (pc := 6) hx hb dX3_as_6 rfl (lv_at hl 1 rfl) ?_
  obtain ⟨v3, h4, hf⟩ := bd hf
  refine roVi (pc := 7) (As := [.int p0]) (rest := []) CF (mtX3_isGoer l D cI cZ cQ o ra rr k rc oL aL oT aT oN aN X_1 R L T N p0 v3 h4) (cwV 1 hts gX3_as_X3_isGoer rfl rfl rfl ⟨rfl, hdX3_isGoer⟩ ⟨Nat.le_of_ble_eq_true rfl, Nat.le_of_ble_eq_true rfl⟩) hK hP rfl rfl rfl rfl hl.1 rfl (Nat.le_of_ble_eq_true rfl) dX3_as_7 ?_
  refine lv_if_ne (pc := 10) (tgt := 15) hx hb dX3_as_10 (by decide) (fun c5 => ?_) (fun c5 => ?_)
  · have hf := iF c5 hf
    refine lv_iload_n (pc := 15) hx hb dX3_as_15 rfl (lv_at hl 2 rfl) ?_
    refine lv_if_lt (pc := 16) (tgt := 24) hx hb dX3_as_16 (by decide) (fun c6 => ?_) (fun c6 => ?_)
    · have hf := iT c6 hf
      refine lv_bipush (pc := 24) (v := (-2)) hx hb dX3_as_24 (by decide) ?_
      obtain rfl := Option.some.inj hf
      exact hRet 26 ls H locs (vp_nar_int _) dX3_as_26 hP hS
    · have hf := iF c6 hf
      refine lv_iload_n (pc := 19) hx hb dX3_as_19 rfl (lv_at hl 2 rfl) ?_
      refine lv_iconst (pc := 20) (v := 2) hx hb dX3_as_20 (by decide) ?_
      refine lv_icmp_le (pc := 21) (tgt := 27) hx hb dX3_as_21 (by decide) (fun c7 => ?_) (fun c7 => ?_)
      · have hf := iT c7 hf
        refine lv_aload_n (pc := 27) hx hb dX3_as_27 rfl (lv_at hl 0 rfl) ?_
        refine va_get (pc := 28) (D := D) (ci := 3) (v := .ref oL) (C := RX3) (T := TX3) (N := 8) hx hb hts inX3_as_X3 hown hK.1 hP 0 rfl rfl 1 (by decide) (hts (.fieldLink RX3 20 "HedgeHoles" "land" "LHedgeHoles$Land;") (by decide +kernel)) (fun _ h9 => h9) rfl dX3_as_28 ?_
        refine va_get (pc := 31) (D := D) (ci := 0) (v := .ref (aL 4)) (C := RX0) (T := TX0) (N := 8) hx hb hts inX3_as_X0 hown hK.1 hP 4 rfl rfl 4 (by decide) (hts (.fieldLink RX3 83 "HedgeHoles$Land" "kind" "[I") (by decide +kernel)) (fun _ h9 => h9) rfl dX3_as_31 ?_
        refine lv_iload_n (pc := 34) hx hb dX3_as_34 rfl (lv_at hl 1 rfl) ?_
        obtain ⟨h8, hf⟩ := gI_e hf
        refine va_iald (pc := 35) (f := L 4) (n := 5) hx hb hK.1 hP 6 0 rfl rfl h8 dX3_as_35 ?_
        refine lv_iload_n (pc := 36) hx hb dX3_as_36 rfl (lv_at hl 2 rfl) ?_
        refine lv_icmp_lt (pc := 37) (tgt := 44) hx hb dX3_as_37 (by decide) (fun c9 => ?_) (fun c9 => ?_)
        · have hf := iT c9 hf
          refine lv_aload_n (pc := 44) hx hb dX3_as_44 rfl (lv_at hl 0 rfl) ?_
          refine lv_iconst (pc := 45) (v := 2) hx hb dX3_as_45 (by decide) ?_
          obtain ⟨v10, h11, hf⟩ := bd hf
          refine wsVi (pc := 46) (As := [.int 2]) (rest := []) (w1 := wX cI cZ cQ o ra rr k rc oL aL oT aT oN aN v10.2 R L T N) CF (mtX3_failed l D cI cZ cQ o ra rr k rc oL aL oT aT oN aN X_1 R L T N 2 H.size v10 h11) (cwV 1 hts gX3_as_X3_failed rfl rfl rfl ⟨rfl, hdX3_failed⟩ ⟨Nat.le_of_ble_eq_true rfl, Nat.le_of_ble_eq_true rfl⟩) hK hP hD hS hA rfl rfl rfl rfl rfl hl.1 rfl (Nat.le_of_ble_eq_true rfl) dX3_as_46 (fun H locs hP hD hS => ?_)
          obtain rfl := Option.some.inj hf
          exact hRet 49 ls H locs (vp_nar_int _) dX3_as_49 hP hS
        · have hf := iF c9 hf
          refine lv_iconst (pc := 40) (v := 1) hx hb dX3_as_40 (by decide) ?_
          refine lv_goto (pc := 41) (tgt := 49) hx hb dX3_as_41 (by decide) ?_
          obtain rfl := Option.some.inj hf
          exact hRet 49 ls H locs (vp_nar_int _) dX3_as_49 hP hS
      · have hf := iF c7 hf
        refine lv_bipush (pc := 24) (v := (-2)) hx hb dX3_as_24 (by decide) ?_
        obtain rfl := Option.some.inj hf
        exact hRet 26 ls H locs (vp_nar_int _) dX3_as_26 hP hS
  · have hf := iT c5 hf
    refine lv_iconst (pc := 13) (v := (-1)) hx hb dX3_as_13 (by decide) ?_
    obtain rfl := Option.some.inj hf
    exact hRet 14 ls H locs (vp_nar_int _) dX3_as_14 hP hS
theorem hdX3_as : yX3_as.cls ≠ "java/lang/invoke/MethodHandle" ∧ yX3_as.cls ≠ "java/lang/invoke/VarHandle" ∧ (parseMethodDescriptor yX3_as.desc).map (fun d => d.parameters.length) = some 2 := by decide +kernel
abbrev rmX3_trace : Room := { frames := 0, cells := 0, slots := 0, locals := 0 }
theorem inX3_trace_X3 : ∀ w ∈ wsX30, w ∈ wsX3_trace := fun _ h => List.mem_cons_of_mem _ (List.mem_append_right _ h)
set_option maxHeartbeats 4000000 in
set_option maxRecDepth 100000 in
theorem mtX3_trace (l : Launch) (D : va_G) (cI cZ cQ : ClassId) (o ra : Nat) (rr : Nat → Nat) (k rc : Nat) (oL : Nat) (aL : Nat → Nat) (oT : Nat) (aT : Nat → Nat) (oN : Nat) (aN : Nat → Nat) (X R L T N : Bk)  (out : Int32) (hf : fX3_trace X = some out) : Met l yX3_trace wsX3_trace rmX3_trace (RoP D cI cZ cQ [.ref o] (wX cI cZ cQ o ra rr k rc oL aL oT aT oN aN X R L T N)) (vp_Si (fun r' => r' = out)) 0 0 (fun _ => False) := by
  refine metRi (ty := .int) (cc := cX3_trace) (maxL := 1) (by decide) rfl (Nat.le_of_ble_eq_true rfl) ?_
  intro p e s m args below meth c Q CF hK hP hRet ls hl
  obtain ⟨hx, hb, hml, hown, hts⟩ := id CF
  have hl : lv_has ls 1 [(0, .ref o)] := hl
  unfold fX3_trace at hf
  refine lv_aload_n (pc := 0) hx hb dX3_trace_0 rfl (lv_at hl 0 rfl) ?_
  refine va_get (pc := 1) (D := D) (ci := 3) (v := .int (X 6 0)) (C := RX3) (T := TX3) (N := 8) hx hb hts inX3_trace_X3 hown hK.1 hP 0 rfl rfl 6 (by decide) (hts (.fieldLink RX3 41 "HedgeHoles" "traceLeft" "I") (by decide +kernel)) (fun _ h9 => h9) rfl dX3_trace_1 ?_
  obtain rfl := Option.some.inj hf
  exact hRet 4 ls (vp_nar_int _) dX3_trace_4
theorem hdX3_trace : yX3_trace.cls ≠ "java/lang/invoke/MethodHandle" ∧ yX3_trace.cls ≠ "java/lang/invoke/VarHandle" ∧ (parseMethodDescriptor yX3_trace.desc).map (fun d => d.parameters.length) = some 0 := by decide +kernel
abbrev rmX3_fault : Room := { frames := 0, cells := 0, slots := 0, locals := 0 }
theorem inX3_fault_X3 : ∀ w ∈ wsX30, w ∈ wsX3_fault := fun _ h => List.mem_cons_of_mem _ (List.mem_append_right _ h)
set_option maxHeartbeats 4000000 in
set_option maxRecDepth 100000 in
theorem mtX3_fault (l : Launch) (D : va_G) (cI cZ cQ : ClassId) (o ra : Nat) (rr : Nat → Nat) (k rc : Nat) (oL : Nat) (aL : Nat → Nat) (oT : Nat) (aT : Nat → Nat) (oN : Nat) (aN : Nat → Nat) (X R L T N : Bk)  (out : Int32) (hf : fX3_fault X = some out) : Met l yX3_fault wsX3_fault rmX3_fault (RoP D cI cZ cQ [.ref o] (wX cI cZ cQ o ra rr k rc oL aL oT aT oN aN X R L T N)) (vp_Si (fun r' => r' = out)) 0 0 (fun _ => False) := by
  refine metRi (ty := .int) (cc := cX3_fault) (maxL := 1) (by decide) rfl (Nat.le_of_ble_eq_true rfl) ?_
  intro p e s m args below meth c Q CF hK hP hRet ls hl
  obtain ⟨hx, hb, hml, hown, hts⟩ := id CF
  have hl : lv_has ls 1 [(0, .ref o)] := hl
  unfold fX3_fault at hf
  refine lv_aload_n (pc := 0) hx hb dX3_fault_0 rfl (lv_at hl 0 rfl) ?_
  refine va_get (pc := 1) (D := D) (ci := 3) (v := .int (X 7 0)) (C := RX3) (T := TX3) (N := 8) hx hb hts inX3_fault_X3 hown hK.1 hP 0 rfl rfl 7 (by decide) (hts (.fieldLink RX3 44 "HedgeHoles" "lastFault" "I") (by decide +kernel)) (fun _ h9 => h9) rfl dX3_fault_1 ?_
  obtain rfl := Option.some.inj hf
  exact hRet 4 ls (vp_nar_int _) dX3_fault_4
theorem hdX3_fault : yX3_fault.cls ≠ "java/lang/invoke/MethodHandle" ∧ yX3_fault.cls ≠ "java/lang/invoke/VarHandle" ∧ (parseMethodDescriptor yX3_fault.desc).map (fun d => d.parameters.length) = some 0 := by decide +kernel
abbrev rmX3_many : Room := { frames := 0, cells := 0, slots := 0, locals := 0 }
theorem inX3_many_X0 : ∀ w ∈ wsX00, w ∈ wsX3_many := fun _ h => List.mem_cons_of_mem _ (List.mem_append_left _ (List.mem_append_right _ h))
theorem inX3_many_X1 : ∀ w ∈ wsX10, w ∈ wsX3_many := fun _ h => List.mem_cons_of_mem _ (List.mem_append_right _ h)
theorem inX3_many_X3 : ∀ w ∈ wsX30, w ∈ wsX3_many := fun _ h => List.mem_cons_of_mem _ (List.mem_append_left _ (List.mem_append_left _ (List.mem_append_right _ h)))
set_option maxHeartbeats 4000000 in
set_option maxRecDepth 100000 in
theorem mtX3_many (l : Launch) (D : va_G) (cI cZ cQ : ClassId) (o ra : Nat) (rr : Nat → Nat) (k rc : Nat) (oL : Nat) (aL : Nat → Nat) (oT : Nat) (aT : Nat → Nat) (oN : Nat) (aN : Nat → Nat) (X R L T N : Bk) (p0 : Int32) (out : Int32) (hf : fX3_many X L N p0 = some out) : Met l yX3_many wsX3_many rmX3_many (RoP D cI cZ cQ [.ref o, .int p0] (wX cI cZ cQ o ra rr k rc oL aL oT aT oN aN X R L T N)) (vp_Si (fun r' => r' = out)) 0 0 (fun _ => False) := by
  refine metRi (ty := .int) (cc := cX3_many) (maxL := 2) (by decide) rfl (Nat.le_of_ble_eq_true rfl) ?_
  intro p e s m args below meth c Q CF hK hP hRet ls hl
  obtain ⟨hx, hb, hml, hown, hts⟩ := id CF
  have hl : lv_has ls 2 [(0, .ref o), (1, .int p0)] := hl
  unfold fX3_many at hf
  refine lv_iload_n (pc := 0) hx hb dX3_many_0 rfl (lv_at hl 1 rfl) ?_
  by_cases c1 : p0 = 0
  · have hf := iT c1 hf
    refine lv_tableIn (pc := 1) (tgt := 36) (off := 35) hx hb dX3_many_1 (by rw [c1]; decide) (by rw [c1]; decide) (by rw [c1]; rfl) (by decide) ?_
    refine lv_aload_n (pc := 36) hx hb dX3_many_36 rfl (lv_at hl 0 rfl) ?_
    refine va_get (pc := 37) (D := D) (ci := 3) (v := .ref oL) (C := RX3) (T := TX3) (N := 8) hx hb hts inX3_many_X3 hown hK.1 hP 0 rfl rfl 1 (by decide) (hts (.fieldLink RX3 20 "HedgeHoles" "land" "LHedgeHoles$Land;") (by decide +kernel)) (fun _ h9 => h9) rfl dX3_many_37 ?_
    refine va_get (pc := 40) (D := D) (ci := 0) (v := .int (L 0 0)) (C := RX0) (T := TX0) (N := 8) hx hb hts inX3_many_X0 hown hK.1 hP 4 rfl rfl 0 (by decide) (hts (.fieldLink RX3 168 "HedgeHoles$Land" "fields" "I") (by decide +kernel)) (fun _ h9 => h9) rfl dX3_many_40 ?_
    obtain rfl := Option.some.inj hf
    exact hRet 43 ls (vp_nar_int _) dX3_many_43
  · have hf := iF c1 hf
    by_cases c2 : p0 = 1
    · have hf := iT c2 hf
      refine lv_tableIn (pc := 1) (tgt := 44) (off := 43) hx hb dX3_many_1 (by rw [c2]; decide) (by rw [c2]; decide) (by rw [c2]; rfl) (by decide) ?_
      refine lv_aload_n (pc := 44) hx hb dX3_many_44 rfl (lv_at hl 0 rfl) ?_
      refine va_get (pc := 45) (D := D) (ci := 3) (v := .ref oL) (C := RX3) (T := TX3) (N := 8) hx hb hts inX3_many_X3 hown hK.1 hP 0 rfl rfl 1 (by decide) (hts (.fieldLink RX3 20 "HedgeHoles" "land" "LHedgeHoles$Land;") (by decide +kernel)) (fun _ h9 => h9) rfl dX3_many_45 ?_
      refine va_get (pc := 48) (D := D) (ci := 0) (v := .int (L 1 0)) (C := RX0) (T := TX0) (N := 8) hx hb hts inX3_many_X0 hown hK.1 hP 4 rfl rfl 1 (by decide) (hts (.fieldLink RX3 77 "HedgeHoles$Land" "goers" "I") (by decide +kernel)) (fun _ h9 => h9) rfl dX3_many_48 ?_
      obtain rfl := Option.some.inj hf
      exact hRet 51 ls (vp_nar_int _) dX3_many_51
    · have hf := iF c2 hf
      by_cases c3 : p0 = 2
      · have hf := iT c3 hf
        refine lv_tableIn (pc := 1) (tgt := 52) (off := 51) hx hb dX3_many_1 (by rw [c3]; decide) (by rw [c3]; decide) (by rw [c3]; rfl) (by decide) ?_
        refine lv_aload_n (pc := 52) hx hb dX3_many_52 rfl (lv_at hl 0 rfl) ?_
        refine va_get (pc := 53) (D := D) (ci := 3) (v := .int (X 4 0)) (C := RX3) (T := TX3) (N := 8) hx hb hts inX3_many_X3 hown hK.1 hP 0 rfl rfl 4 (by decide) (hts (.fieldLink RX3 34 "HedgeHoles" "year" "I") (by decide +kernel)) (fun _ h9 => h9) rfl dX3_many_53 ?_
        obtain rfl := Option.some.inj hf
        exact hRet 56 ls (vp_nar_int _) dX3_many_56
      · have hf := iF c3 hf
        by_cases c4 : p0 = 3
        · have hf := iT c4 hf
          refine lv_tableIn (pc := 1) (tgt := 57) (off := 56) hx hb dX3_many_1 (by rw [c4]; decide) (by rw [c4]; decide) (by rw [c4]; rfl) (by decide) ?_
          refine lv_aload_n (pc := 57) hx hb dX3_many_57 rfl (lv_at hl 0 rfl) ?_
          refine va_get (pc := 58) (D := D) (ci := 3) (v := .int (X 5 0)) (C := RX3) (T := TX3) (N := 8) hx hb hts inX3_many_X3 hown hK.1 hP 0 rfl rfl 5 (by decide) (hts (.fieldLink RX3 38 "HedgeHoles" "goings" "I") (by decide +kernel)) (fun _ h9 => h9) rfl dX3_many_58 ?_
          obtain rfl := Option.some.inj hf
          exact hRet 61 ls (vp_nar_int _) dX3_many_61
        · have hf := iF c4 hf
          by_cases c5 : p0 = 4
          · have hf := iT c5 hf
            refine lv_tableIn (pc := 1) (tgt := 62) (off := 61) hx hb dX3_many_1 (by rw [c5]; decide) (by rw [c5]; decide) (by rw [c5]; rfl) (by decide) ?_
            refine lv_aload_n (pc := 62) hx hb dX3_many_62 rfl (lv_at hl 0 rfl) ?_
            refine va_get (pc := 63) (D := D) (ci := 3) (v := .ref oN) (C := RX3) (T := TX3) (N := 8) hx hb hts inX3_many_X3 hown hK.1 hP 0 rfl rfl 3 (by decide) (hts (.fieldLink RX3 30 "HedgeHoles" "notebook" "LHedgeHoles$Notebook;") (by decide +kernel)) (fun _ h9 => h9) rfl dX3_many_63 ?_
            refine va_get (pc := 66) (D := D) (ci := 1) (v := .int (N 3 0)) (C := RX1) (T := TX1) (N := 4) hx hb hts inX3_many_X1 hown hK.1 hP 16 rfl rfl 3 (by decide) (hts (.fieldLink RX3 74 "HedgeHoles$Notebook" "count" "I") (by decide +kernel)) (fun _ h9 => h9) rfl dX3_many_66 ?_
            obtain rfl := Option.some.inj hf
            exact hRet 69 ls (vp_nar_int _) dX3_many_69
          · have hf := iF c5 hf
            refine lv_tableOut (pc := 1) (tgt := 70) hx hb dX3_many_1 (by have e0 := lv_neT (a := 0) c1 rfl; have e1 := lv_neT (a := 1) c2 rfl; have e2 := lv_neT (a := 2) c3 rfl; have e3 := lv_neT (a := 3) c4 rfl; have e4 := lv_neT (a := 4) c5 rfl; omega) (by decide) ?_
            refine lv_bipush (pc := 70) (v := (-2)) hx hb dX3_many_70 (by decide) ?_
            obtain rfl := Option.some.inj hf
            exact hRet 72 ls (vp_nar_int _) dX3_many_72
theorem hdX3_many : yX3_many.cls ≠ "java/lang/invoke/MethodHandle" ∧ yX3_many.cls ≠ "java/lang/invoke/VarHandle" ∧ (parseMethodDescriptor yX3_many.desc).map (fun d => d.parameters.length) = some 1 := by decide +kernel
