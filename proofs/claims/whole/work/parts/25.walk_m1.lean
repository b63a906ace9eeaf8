abbrev rmX4_fails : Room := { frames := 0, cells := 0, slots := 0, locals := 0 }
theorem inX4_fails_X4 : ∀ w ∈ wsX40, w ∈ wsX4_fails := fun _ h => List.mem_cons_of_mem _ (List.mem_append_right _ h)
set_option maxHeartbeats 4000000 in
set_option maxRecDepth 100000 in
theorem mtX4_fails (l : Launch) (D : va_G) (cI cZ cQ : ClassId) (oM : Nat) (aM : Nat → Nat) (M : Bk) (p0 : Int32) (sz : Nat) (out : (Int32 × Bk)) (hf : fX4_fails M p0 = some out) : Met l yX4_fails wsX4_fails rmX4_fails (WrP D cI cZ cQ [.ref oM, .int p0] (wM cI oM aM M) sz) (WrQi D out.1 (wM cI oM aM M) (wM cI oM aM out.2) sz) 0 0 (va_A (wM cI oM aM M) sz) := by
  refine metWi (ty := .int) (cc := cX4_fails) (maxL := 2) (by decide) rfl (Nat.le_of_ble_eq_true rfl) ?_
  intro p e s m args below meth c Q A CF hK hP hD hA hRet ls hl
  obtain ⟨hx, hb, hml, hown, hts⟩ := id CF
  have hS : va_S A s.heap s.heap [] := va_S.rf
  have hl : lv_has ls 2 [(0, .ref oM), (1, .int p0)] := hl
  unfold fX4_fails at hf
  refine lv_aload_n (pc := 0) hx hb dX4_fails_0 rfl (lv_at hl 0 rfl) ?_
  refine lv_iload_n (pc := 1) hx hb dX4_fails_1 rfl (lv_at hl 1 rfl) ?_
  refine va_put (pc := 2) (D := D) (ci := 4) (v := .int p0) (ty := .int) (C := RX4) (T := TX4) (N := 29) hx hb hts inX4_fails_X4 tyX4 tyX4_ok nmX4 hown hK.1 hP hD hS 0 rfl rfl 0 (by decide) (hts (.fieldLink RX4 58 "HedgeHolesModel" "fault" "I") (by decide +kernel)) (fun _ h9 => h9) rfl (by decide +kernel) (vp_nar_int _) rfl (Nat.le_of_ble_eq_true rfl) dX4_fails_2 (fun H locs hP hD hS => ?_)
  have hP : va_P D vwCl (wM cI oM aM (sB M 0 0 p0)) H := hP
  have hD : va_D A (wM cI oM aM (sB M 0 0 p0)) := hD
  obtain ⟨M_1, h2, hf⟩ := bd hf
  have h2 := Option.some.inj h2
  rw [h2] at hP hD
  refine lv_bipush (pc := 5) (v := (-10)) hx hb dX4_fails_5 (by decide) ?_
  refine lv_iload_n (pc := 7) hx hb dX4_fails_7 rfl (lv_at hl 1 rfl) ?_
  refine lv_isub (pc := 8) hx hb dX4_fails_8 ?_
  obtain rfl := Option.some.inj hf
  exact hRet 9 ls H locs (vp_nar_int _) dX4_fails_9 hP hS
theorem hdX4_fails : yX4_fails.cls ≠ "java/lang/invoke/MethodHandle" ∧ yX4_fails.cls ≠ "java/lang/invoke/VarHandle" ∧ (parseMethodDescriptor yX4_fails.desc).map (fun d => d.parameters.length) = some 1 := by decide +kernel
abbrev rmX4_lost : Room := { frames := 0, cells := 0, slots := 0, locals := 0 }
theorem inX4_lost_X4 : ∀ w ∈ wsX40, w ∈ wsX4_lost := fun _ h => List.mem_cons_of_mem _ (List.mem_append_right _ h)
set_option maxHeartbeats 4000000 in
set_option maxRecDepth 100000 in
theorem mtX4_lost (l : Launch) (D : va_G) (cI cZ cQ : ClassId) (oM : Nat) (aM : Nat → Nat) (M : Bk) (p0 : Int32) (sz : Nat) (out : (Int64 × Bk)) (hf : fX4_lost M p0 = some out) : Met l yX4_lost wsX4_lost rmX4_lost (WrP D cI cZ cQ [.ref oM, .int p0] (wM cI oM aM M) sz) (WrQl D out.1 (wM cI oM aM M) (wM cI oM aM out.2) sz) 0 0 (va_A (wM cI oM aM M) sz) := by
  refine metWl (cc := cX4_lost) (maxL := 2) (by decide) rfl (Nat.le_of_ble_eq_true rfl) ?_
  intro p e s m args below meth c Q A CF hK hP hD hA hRet ls hl
  obtain ⟨hx, hb, hml, hown, hts⟩ := id CF
  have hS : va_S A s.heap s.heap [] := va_S.rf
  have hl : lv_has ls 2 [(0, .ref oM), (1, .int p0)] := hl
  unfold fX4_lost at hf
  refine lv_aload_n (pc := 0) hx hb dX4_lost_0 rfl (lv_at hl 0 rfl) ?_
  refine lv_iload_n (pc := 1) hx hb dX4_lost_1 rfl (lv_at hl 1 rfl) ?_
  refine va_put (pc := 2) (D := D) (ci := 4) (v := .int p0) (ty := .int) (C := RX4) (T := TX4) (N := 29) hx hb hts inX4_lost_X4 tyX4 tyX4_ok nmX4 hown hK.1 hP hD hS 0 rfl rfl 0 (by decide) (hts (.fieldLink RX4 58 "HedgeHolesModel" "fault" "I") (by decide +kernel)) (fun _ h9 => h9) rfl (by decide +kernel) (vp_nar_int _) rfl (Nat.le_of_ble_eq_true rfl) dX4_lost_2 (fun H locs hP hD hS => ?_)
  have hP : va_P D vwCl (wM cI oM aM (sB M 0 0 p0)) H := hP
  have hD : va_D A (wM cI oM aM (sB M 0 0 p0)) := hD
  obtain ⟨M_1, h2, hf⟩ := bd hf
  have h2 := Option.some.inj h2
  rw [h2] at hP hD
  refine lv_ldc2 (pc := 5) (v := (-9223372036854775808)) hx hb hown (hts (.constantLong RX4 62 (-9223372036854775808)) (by decide +kernel)) dX4_lost_5 ?_
  obtain rfl := Option.some.inj hf
  exact hRet 8 ls H locs dX4_lost_8 hP hS
theorem hdX4_lost : yX4_lost.cls ≠ "java/lang/invoke/MethodHandle" ∧ yX4_lost.cls ≠ "java/lang/invoke/VarHandle" ∧ (parseMethodDescriptor yX4_lost.desc).map (fun d => d.parameters.length) = some 1 := by decide +kernel
abbrev rmX4_against : Room := { frames := 0, cells := 0, slots := 0, locals := 0 }
theorem inX4_against_X4 : ∀ w ∈ wsX40, w ∈ wsX4_against := fun _ h => List.mem_cons_of_mem _ (List.mem_append_right _ h)
set_option maxHeartbeats 4000000 in
set_option maxRecDepth 100000 in
theorem mtX4_against (l : Launch) (D : va_G) (cI cZ cQ : ClassId) (oM : Nat) (aM : Nat → Nat) (M : Bk) (p0 : Int32) (p1 : Int32) (p2 : Int32) (p3 : Int32) (out : Int32) (hf : fX4_against M p0 p1 p2 p3 = some out) : Met l yX4_against wsX4_against rmX4_against (RoP D cI cZ cQ [.ref oM, .int p0, .int p1, .int p2, .int p3] (wM cI oM aM M)) (vp_Si (fun r' => r' = out)) 0 0 (fun _ => False) := by
  refine metRi (ty := .int) (cc := cX4_against) (maxL := 5) (by decide) rfl (Nat.le_of_ble_eq_true rfl) ?_
  intro p e s m args below meth c Q CF hK hP hRet ls hl
  obtain ⟨hx, hb, hml, hown, hts⟩ := id CF
  have hl : lv_has ls 5 [(0, .ref oM), (1, .int p0), (2, .int p1), (3, .int p2), (4, .int p3)] := hl
  unfold fX4_against at hf
  refine lv_aload_n (pc := 0) hx hb dX4_against_0 rfl (lv_at hl 0 rfl) ?_
  refine va_get (pc := 1) (D := D) (ci := 4) (v := .ref (aM 2)) (C := RX4) (T := TX4) (N := 29) hx hb hts inX4_against_X4 hown hK.1 hP 0 rfl rfl 2 (by decide) (hts (.fieldLink RX4 9 "HedgeHolesModel" "sorts" "[I") (by decide +kernel)) (fun _ h9 => h9) rfl dX4_against_1 ?_
  refine lv_iload_n (pc := 4) hx hb dX4_against_4 rfl (lv_at hl 1 rfl) ?_
  obtain ⟨h1, hf⟩ := gI_e hf
  refine va_iald (pc := 5) (f := M 2) (n := 4) hx hb hK.1 hP 1 0 rfl rfl h1 dX4_against_5 ?_
  refine lv_bipush (pc := 6) (v := (-9)) hx hb dX4_against_6 (by decide) ?_
  refine lv_icmp_eq (pc := 8) (tgt := 23) hx hb dX4_against_8 (by decide) (fun c2 => ?_) (fun c2 => ?_)
  · have hf := iT c2 hf
    refine lv_aload_n (pc := 23) hx hb dX4_against_23 rfl (lv_at hl 0 rfl) ?_
    refine va_get (pc := 24) (D := D) (ci := 4) (v := .ref (aM 2)) (C := RX4) (T := TX4) (N := 29) hx hb hts inX4_against_X4 hown hK.1 hP 0 rfl rfl 2 (by decide) (hts (.fieldLink RX4 9 "HedgeHolesModel" "sorts" "[I") (by decide +kernel)) (fun _ h9 => h9) rfl dX4_against_24 ?_
    refine lv_iload_n (pc := 27) hx hb dX4_against_27 rfl (lv_at hl 1 rfl) ?_
    refine va_iald (pc := 28) (f := M 2) (n := 4) hx hb hK.1 hP 1 0 rfl rfl h1 dX4_against_28 ?_
    refine lv_bipush (pc := 29) (v := (-9)) hx hb dX4_against_29 (by decide) ?_
    refine lv_icmp_ne (pc := 31) (tgt := 36) hx hb dX4_against_31 (by decide) (fun c3 => ?_) (fun c3 => ?_)
    · have hf := iF c3 hf
      refine lv_iload (pc := 36) hx hb dX4_against_36 (lv_at hl 4 rfl) ?_
      refine lv_if_ge (pc := 38) (tgt := 43) hx hb dX4_against_38 (by decide) (fun c4 => ?_) (fun c4 => ?_)
      · have hf := iT c4 hf
        refine lv_iload_n (pc := 43) hx hb dX4_against_43 rfl (lv_at hl 3 rfl) ?_
        refine lv_if_lt (pc := 44) (tgt := 70) hx hb dX4_against_44 (by decide) (fun c5 => ?_) (fun c5 => ?_)
        · have hf := iT c5 hf
          refine lv_iconst (pc := 70) (v := 3) hx hb dX4_against_70 (by decide) ?_
          refine lv_goto (pc := 71) (tgt := 75) hx hb dX4_against_71 (by decide) ?_
          obtain rfl := Option.some.inj hf
          exact hRet 75 ls (vp_nar_int _) dX4_against_75
        · have hf := iF c5 hf
          refine lv_iload_n (pc := 47) hx hb dX4_against_47 rfl (lv_at hl 3 rfl) ?_
          refine lv_aload_n (pc := 48) hx hb dX4_against_48 rfl (lv_at hl 0 rfl) ?_
          refine va_get (pc := 49) (D := D) (ci := 4) (v := .ref (aM 3)) (C := RX4) (T := TX4) (N := 29) hx hb hts inX4_against_X4 hown hK.1 hP 0 rfl rfl 3 (by decide) (hts (.fieldLink RX4 13 "HedgeHolesModel" "sheetLong" "[I") (by decide +kernel)) (fun _ h9 => h9) rfl dX4_against_49 ?_
          refine lv_iload_n (pc := 52) hx hb dX4_against_52 rfl (lv_at hl 1 rfl) ?_
          refine va_iald (pc := 53) (f := M 3) (n := 4) hx hb hK.1 hP 2 0 rfl rfl h1 dX4_against_53 ?_
          refine lv_icmp_gt (pc := 54) (tgt := 70) hx hb dX4_against_54 (by decide) (fun c6 => ?_) (fun c6 => ?_)
          · have hf := iT c6 hf
            refine lv_iconst (pc := 70) (v := 3) hx hb dX4_against_70 (by decide) ?_
            refine lv_goto (pc := 71) (tgt := 75) hx hb dX4_against_71 (by decide) ?_
            obtain rfl := Option.some.inj hf
            exact hRet 75 ls (vp_nar_int _) dX4_against_75
          · have hf := iF c6 hf
            refine lv_iload (pc := 57) hx hb dX4_against_57 (lv_at hl 4 rfl) ?_
            refine lv_aload_n (pc := 59) hx hb dX4_against_59 rfl (lv_at hl 0 rfl) ?_
            refine va_get (pc := 60) (D := D) (ci := 4) (v := .ref (aM 3)) (C := RX4) (T := TX4) (N := 29) hx hb hts inX4_against_X4 hown hK.1 hP 0 rfl rfl 3 (by decide) (hts (.fieldLink RX4 13 "HedgeHolesModel" "sheetLong" "[I") (by decide +kernel)) (fun _ h9 => h9) rfl dX4_against_60 ?_
            refine lv_iload_n (pc := 63) hx hb dX4_against_63 rfl (lv_at hl 1 rfl) ?_
            refine va_iald (pc := 64) (f := M 3) (n := 4) hx hb hK.1 hP 2 0 rfl rfl h1 dX4_against_64 ?_
            refine lv_iload_n (pc := 65) hx hb dX4_against_65 rfl (lv_at hl 3 rfl) ?_
            refine lv_isub (pc := 66) hx hb dX4_against_66 ?_
            refine lv_icmp_le (pc := 67) (tgt := 74) hx hb dX4_against_67 (by decide) (fun c7 => ?_) (fun c7 => ?_)
            · have hf := iT c7 hf
              refine lv_iconst (pc := 74) (v := 0) hx hb dX4_against_74 (by decide) ?_
              obtain rfl := Option.some.inj hf
              exact hRet 75 ls (vp_nar_int _) dX4_against_75
            · have hf := iF c7 hf
              refine lv_iconst (pc := 70) (v := 3) hx hb dX4_against_70 (by decide) ?_
              refine lv_goto (pc := 71) (tgt := 75) hx hb dX4_against_71 (by decide) ?_
              obtain rfl := Option.some.inj hf
              exact hRet 75 ls (vp_nar_int _) dX4_against_75
      · have hf := iF c4 hf
        refine lv_iconst (pc := 41) (v := 4) hx hb dX4_against_41 (by decide) ?_
        obtain rfl := Option.some.inj hf
        exact hRet 42 ls (vp_nar_int _) dX4_against_42
    · have hf := iT c3 hf
      refine lv_iconst (pc := 34) (v := 1) hx hb dX4_against_34 (by decide) ?_
      obtain rfl := Option.some.inj hf
      exact hRet 35 ls (vp_nar_int _) dX4_against_35
  · have hf := iF c2 hf
    refine lv_aload_n (pc := 11) hx hb dX4_against_11 rfl (lv_at hl 0 rfl) ?_
    refine va_get (pc := 12) (D := D) (ci := 4) (v := .ref (aM 2)) (C := RX4) (T := TX4) (N := 29) hx hb hts inX4_against_X4 hown hK.1 hP 0 rfl rfl 2 (by decide) (hts (.fieldLink RX4 9 "HedgeHolesModel" "sorts" "[I") (by decide +kernel)) (fun _ h9 => h9) rfl dX4_against_12 ?_
    refine lv_iload_n (pc := 15) hx hb dX4_against_15 rfl (lv_at hl 1 rfl) ?_
    refine va_iald (pc := 16) (f := M 2) (n := 4) hx hb hK.1 hP 1 0 rfl rfl h1 dX4_against_16 ?_
    refine lv_iload_n (pc := 17) hx hb dX4_against_17 rfl (lv_at hl 2 rfl) ?_
    refine lv_icmp_eq (pc := 18) (tgt := 23) hx hb dX4_against_18 (by decide) (fun c8 => ?_) (fun c8 => ?_)
    · have hf := iT c8 hf
      refine lv_aload_n (pc := 23) hx hb dX4_against_23 rfl (lv_at hl 0 rfl) ?_
      refine va_get (pc := 24) (D := D) (ci := 4) (v := .ref (aM 2)) (C := RX4) (T := TX4) (N := 29) hx hb hts inX4_against_X4 hown hK.1 hP 0 rfl rfl 2 (by decide) (hts (.fieldLink RX4 9 "HedgeHolesModel" "sorts" "[I") (by decide +kernel)) (fun _ h9 => h9) rfl dX4_against_24 ?_
      refine lv_iload_n (pc := 27) hx hb dX4_against_27 rfl (lv_at hl 1 rfl) ?_
      refine va_iald (pc := 28) (f := M 2) (n := 4) hx hb hK.1 hP 1 0 rfl rfl h1 dX4_against_28 ?_
      refine lv_bipush (pc := 29) (v := (-9)) hx hb dX4_against_29 (by decide) ?_
      refine lv_icmp_ne (pc := 31) (tgt := 36) hx hb dX4_against_31 (by decide) (fun c9 => ?_) (fun c9 => ?_)
      · have hf := iF c9 hf
        refine lv_iload (pc := 36) hx hb dX4_against_36 (lv_at hl 4 rfl) ?_
        refine lv_if_ge (pc := 38) (tgt := 43) hx hb dX4_against_38 (by decide) (fun c10 => ?_) (fun c10 => ?_)
        · have hf := iT c10 hf
          refine lv_iload_n (pc := 43) hx hb dX4_against_43 rfl (lv_at hl 3 rfl) ?_
          refine lv_if_lt (pc := 44) (tgt := 70) hx hb dX4_against_44 (by decide) (fun c11 => ?_) (fun c11 => ?_)
          · have hf := iT c11 hf
            refine lv_iconst (pc := 70) (v := 3) hx hb dX4_against_70 (by decide) ?_
            refine lv_goto (pc := 71) (tgt := 75) hx hb dX4_against_71 (by decide) ?_
            obtain rfl := Option.some.inj hf
            exact hRet 75 ls (vp_nar_int _) dX4_against_75
          · have hf := iF c11 hf
            refine lv_iload_n (pc := 47) hx hb dX4_against_47 rfl (lv_at hl 3 rfl) ?_
            refine lv_aload_n (pc := 48) hx hb dX4_against_48 rfl (lv_at hl 0 rfl) ?_
            refine va_get (pc := 49) (D := D) (ci := 4) (v := .ref (aM 3)) (C := RX4) (T := TX4) (N := 29) hx hb hts inX4_against_X4 hown hK.1 hP 0 rfl rfl 3 (by decide) (hts (.fieldLink RX4 13 "HedgeHolesModel" "sheetLong" "[I") (by decide +kernel)) (fun _ h9 => h9) rfl dX4_against_49 ?_
            refine lv_iload_n (pc := 52) hx hb dX4_against_52 rfl (lv_at hl 1 rfl) ?_
            refine va_iald (pc := 53) (f := M 3) (n := 4) hx hb hK.1 hP 2 0 rfl rfl h1 dX4_against_53 ?_
            refine lv_icmp_gt (pc := 54) (tgt := 70) hx hb dX4_against_54 (by decide) (fun c12 => ?_) (fun c12 => ?_)
            · have hf := iT c12 hf
              refine lv_iconst (pc := 70) (v := 3) hx hb dX4_against_70 (by decide) ?_
              refine lv_goto (pc := 71) (tgt := 75) hx hb dX4_against_71 (by decide) ?_
              obtain rfl := Option.some.inj hf
              exact hRet 75 ls (vp_nar_int _) dX4_against_75
            · have hf := iF c12 hf
              refine lv_iload (pc := 57) hx hb dX4_against_57 (lv_at hl 4 rfl) ?_
              refine lv_aload_n (pc := 59) hx hb dX4_against_59 rfl (lv_at hl 0 rfl) ?_
              refine va_get (pc := 60) (D := D) (ci := 4) (v := .ref (aM 3)) (C := RX4) (T := TX4) (N := 29) hx hb hts inX4_against_X4 hown hK.1 hP 0 rfl rfl 3 (by decide) (hts (.fieldLink RX4 13 "HedgeHolesModel" "sheetLong" "[I") (by decide +kernel)) (fun _ h9 => h9) rfl dX4_against_60 ?_
              refine lv_iload_n (pc := 63) hx hb dX4_against_63 rfl (lv_at hl 1 rfl) ?_
              refine va_iald (pc := 64) (f := M 3) (n := 4) hx hb hK.1 hP 2 0 rfl rfl h1 dX4_against_64 ?_
              refine lv_iload_n (pc := 65) hx hb dX4_against_65 rfl (lv_at hl 3 rfl) ?_
              refine lv_isub (pc := 66) hx hb dX4_against_66 ?_
              refine lv_icmp_le (pc := 67) (tgt := 74) hx hb dX4_against_67 (by decide) (fun c13 => ?_) (fun c13 => ?_)
              · have hf := iT c13 hf
                refine lv_iconst (pc := 74) (v := 0) hx hb dX4_against_74 (by decide) ?_
                obtain rfl := Option.some.inj hf
                exact hRet 75 ls (vp_nar_int _) dX4_against_75
              · have hf := iF c13 hf
                refine lv_iconst (pc := 70) (v := 3) hx hb dX4_against_70 (by decide) ?_
                refine lv_goto (pc := 71) (tgt := 75) hx hb dX4_against_71 (by decide) ?_
                obtain rfl := Option.some.inj hf
                exact hRet 75 ls (vp_nar_int _) dX4_against_75
        · have hf := iF c10 hf
          refine lv_iconst (pc := 41) (v := 4) hx hb dX4_against_41 (by decide) ?_
          obtain rfl := Option.some.inj hf
          exact hRet 42 ls (vp_nar_int _) dX4_against_42
      · have hf := iT c9 hf
        refine lv_iconst (pc := 34) (v := 1) hx hb dX4_against_34 (by decide) ?_
        obtain rfl := Option.some.inj hf
        exact hRet 35 ls (vp_nar_int _) dX4_against_35
    · have hf := iF c8 hf
      refine lv_iconst (pc := 21) (v := 2) hx hb dX4_against_21 (by decide) ?_
      obtain rfl := Option.some.inj hf
      exact hRet 22 ls (vp_nar_int _) dX4_against_22
theorem hdX4_against : yX4_against.cls ≠ "java/lang/invoke/MethodHandle" ∧ yX4_against.cls ≠ "java/lang/invoke/VarHandle" ∧ (parseMethodDescriptor yX4_against.desc).map (fun d => d.parameters.length) = some 4 := by decide +kernel
abbrev rmX4_isField : Room := { frames := 0, cells := 0, slots := 0, locals := 0 }
theorem inX4_isField_X4 : ∀ w ∈ wsX40, w ∈ wsX4_isField := fun _ h => List.mem_cons_of_mem _ (List.mem_append_right _ h)
set_option maxHeartbeats 4000000 in
set_option maxRecDepth 100000 in
theorem mtX4_isField (l : Launch) (D : va_G) (cI cZ cQ : ClassId) (oM : Nat) (aM : Nat → Nat) (M : Bk) (p0 : Int32) (out : Int32) (hf : fX4_isField M p0 = some out) : Met l yX4_isField wsX4_isField rmX4_isField (RoP D cI cZ cQ [.ref oM, .int p0] (wM cI oM aM M)) (vp_Si (fun r' => r' = out)) 0 0 (fun _ => False) := by
  refine metRi (ty := .boolean) (cc := cX4_isField) (maxL := 2) (by decide) rfl (Nat.le_of_ble_eq_true rfl) ?_
  intro p e s m args below meth c Q CF hK hP hRet ls hl
  obtain ⟨hx, hb, hml, hown, hts⟩ := id CF
  have hl : lv_has ls 2 [(0, .ref oM), (1, .int p0)] := hl
  unfold fX4_isField at hf
  refine lv_iload_n (pc := 0) hx hb dX4_isField_0 rfl (lv_at hl 1 rfl) ?_
  refine lv_if_lt (pc := 1) (tgt := 16) hx hb dX4_isField_1 (by decide) (fun c1 => ?_) (fun c1 => ?_)
  · have hf := iT c1 hf
    refine lv_iconst (pc := 16) (v := 0) hx hb dX4_isField_16 (by decide) ?_
    obtain rfl := Option.some.inj hf
    exact hRet 17 ls (nzB (Or.inl rfl)) dX4_isField_17
  · have hf := iF c1 hf
    refine lv_iload_n (pc := 4) hx hb dX4_isField_4 rfl (lv_at hl 1 rfl) ?_
    refine lv_aload_n (pc := 5) hx hb dX4_isField_5 rfl (lv_at hl 0 rfl) ?_
    refine va_get (pc := 6) (D := D) (ci := 4) (v := .int (M 5 0)) (C := RX4) (T := TX4) (N := 29) hx hb hts inX4_isField_X4 hown hK.1 hP 0 rfl rfl 5 (by decide) (hts (.fieldLink RX4 68 "HedgeHolesModel" "fields" "I") (by decide +kernel)) (fun _ h9 => h9) rfl dX4_isField_6 ?_
    refine lv_icmp_ge (pc := 9) (tgt := 16) hx hb dX4_isField_9 (by decide) (fun c2 => ?_) (fun c2 => ?_)
    · have hf := iT c2 hf
      refine lv_iconst (pc := 16) (v := 0) hx hb dX4_isField_16 (by decide) ?_
      obtain rfl := Option.some.inj hf
      exact hRet 17 ls (nzB (Or.inl rfl)) dX4_isField_17
    · have hf := iF c2 hf
      refine lv_iconst (pc := 12) (v := 1) hx hb dX4_isField_12 (by decide) ?_
      refine lv_goto (pc := 13) (tgt := 17) hx hb dX4_isField_13 (by decide) ?_
      obtain rfl := Option.some.inj hf
      exact hRet 17 ls (nzB (Or.inr rfl)) dX4_isField_17
theorem hdX4_isField : yX4_isField.cls ≠ "java/lang/invoke/MethodHandle" ∧ yX4_isField.cls ≠ "java/lang/invoke/VarHandle" ∧ (parseMethodDescriptor yX4_isField.desc).map (fun d => d.parameters.length) = some 1 := by decide +kernel
abbrev rmX4_areTwo : Room := { frames := 1, cells := 0, slots := 0, locals := 21 }
set_option maxHeartbeats 4000000 in
set_option maxRecDepth 100000 in
theorem mtX4_areTwo (l : Launch) (D : va_G) (cI cZ cQ : ClassId) (oM : Nat) (aM : Nat → Nat) (M : Bk) (p0 : Int32) (p1 : Int32) (out : Int32) (hf : fX4_areTwo M p0 p1 = some out) : Met l yX4_areTwo wsX4_areTwo rmX4_areTwo (RoP D cI cZ cQ [.ref oM, .int p0, .int p1] (wM cI oM aM M)) (vp_Si (fun r' => r' = out)) 0 0 (fun _ => False) := by
  refine metRi (ty := .boolean) (cc := cX4_areTwo) (maxL := 3) (by decide) rfl (Nat.le_of_ble_eq_true rfl) ?_
  intro p e s m args below meth c Q CF hK hP hRet ls hl
  obtain ⟨hx, hb, hml, hown, hts⟩ := id CF
  have hl : lv_has ls 3 [(0, .ref oM), (1, .int p0), (2, .int p1)] := hl
  unfold fX4_areTwo at hf
  refine lv_aload_n (pc := 0) hx hb dX4_areTwo_0 rfl (lv_at hl 0 rfl) ?_
  refine lv_iload_n (pc := 1) hx hb dX4_areTwo_1 rfl (lv_at hl 1 rfl) ?_
  obtain ⟨v1, h2, hf⟩ := bd hf
  refine roVi (pc := 2) (As := [.int p0]) (rest := []) CF (mtX4_isField l D cI cZ cQ oM aM M p0 v1 h2) (cwV 1 hts gX4_areTwo_X4_isField rfl rfl rfl ⟨rfl, hdX4_isField⟩ ⟨Nat.le_of_ble_eq_true rfl, Nat.le_of_ble_eq_true rfl⟩) hK hP rfl rfl rfl rfl hl.1 rfl (Nat.le_of_ble_eq_true rfl) dX4_areTwo_2 ?_
  refine lv_if_eq (pc := 5) (tgt := 25) hx hb dX4_areTwo_5 (by decide) (fun c3 => ?_) (fun c3 => ?_)
  · have hf := iT c3 hf
    refine lv_iconst (pc := 25) (v := 0) hx hb dX4_areTwo_25 (by decide) ?_
    obtain rfl := Option.some.inj hf
    exact hRet 26 ls (nzB (Or.inl rfl)) dX4_areTwo_26
  · have hf := iF c3 hf
    refine lv_aload_n (pc := 8) hx hb dX4_areTwo_8 rfl (lv_at hl 0 rfl) ?_
    refine lv_iload_n (pc := 9) hx hb dX4_areTwo_9 rfl (lv_at hl 2 rfl) ?_
    obtain ⟨v4, h5, hf⟩ := bd hf
    refine roVi (pc := 10) (As := [.int p1]) (rest := []) CF (mtX4_isField l D cI cZ cQ oM aM M p1 v4 h5) (cwV 1 hts gX4_areTwo_X4_isField rfl rfl rfl ⟨rfl, hdX4_isField⟩ ⟨Nat.le_of_ble_eq_true rfl, Nat.le_of_ble_eq_true rfl⟩) hK hP rfl rfl rfl rfl hl.1 rfl (Nat.le_of_ble_eq_true rfl) dX4_areTwo_10 ?_
    refine lv_if_eq (pc := 13) (tgt := 25) hx hb dX4_areTwo_13 (by decide) (fun c6 => ?_) (fun c6 => ?_)
    · have hf := iT c6 hf
      refine lv_iconst (pc := 25) (v := 0) hx hb dX4_areTwo_25 (by decide) ?_
      obtain rfl := Option.some.inj hf
      exact hRet 26 ls (nzB (Or.inl rfl)) dX4_areTwo_26
    · have hf := iF c6 hf
      refine lv_iload_n (pc := 16) hx hb dX4_areTwo_16 rfl (lv_at hl 1 rfl) ?_
      refine lv_iload_n (pc := 17) hx hb dX4_areTwo_17 rfl (lv_at hl 2 rfl) ?_
      refine lv_icmp_eq (pc := 18) (tgt := 25) hx hb dX4_areTwo_18 (by decide) (fun c7 => ?_) (fun c7 => ?_)
      · have hf := iT c7 hf
        refine lv_iconst (pc := 25) (v := 0) hx hb dX4_areTwo_25 (by decide) ?_
        obtain rfl := Option.some.inj hf
        exact hRet 26 ls (nzB (Or.inl rfl)) dX4_areTwo_26
      · have hf := iF c7 hf
        refine lv_iconst (pc := 21) (v := 1) hx hb dX4_areTwo_21 (by decide) ?_
        refine lv_goto (pc := 22) (tgt := 26) hx hb dX4_areTwo_22 (by decide) ?_
        obtain rfl := Option.some.inj hf
        exact hRet 26 ls (nzB (Or.inr rfl)) dX4_areTwo_26
theorem hdX4_areTwo : yX4_areTwo.cls ≠ "java/lang/invoke/MethodHandle" ∧ yX4_areTwo.cls ≠ "java/lang/invoke/VarHandle" ∧ (parseMethodDescriptor yX4_areTwo.desc).map (fun d => d.parameters.length) = some 2 := by decide +kernel
abbrev rmX4_isGoer : Room := { frames := 0, cells := 0, slots := 0, locals := 0 }
theorem inX4_isGoer_X4 : ∀ w ∈ wsX40, w ∈ wsX4_isGoer := fun _ h => List.mem_cons_of_mem _ (List.mem_append_right _ h)
set_option maxHeartbeats 4000000 in
set_option maxRecDepth 100000 in
theorem mtX4_isGoer (l : Launch) (D : va_G) (cI cZ cQ : ClassId) (oM : Nat) (aM : Nat → Nat) (M : Bk) (p0 : Int32) (out : Int32) (hf : fX4_isGoer M p0 = some out) : Met l yX4_isGoer wsX4_isGoer rmX4_isGoer (RoP D cI cZ cQ [.ref oM, .int p0] (wM cI oM aM M)) (vp_Si (fun r' => r' = out)) 0 0 (fun _ => False) := by
  refine metRi (ty := .boolean) (cc := cX4_isGoer) (maxL := 2) (by decide) rfl (Nat.le_of_ble_eq_true rfl) ?_
  intro p e s m args below meth c Q CF hK hP hRet ls hl
  obtain ⟨hx, hb, hml, hown, hts⟩ := id CF
  have hl : lv_has ls 2 [(0, .ref oM), (1, .int p0)] := hl
  unfold fX4_isGoer at hf
  refine lv_iload_n (pc := 0) hx hb dX4_isGoer_0 rfl (lv_at hl 1 rfl) ?_
  refine lv_if_lt (pc := 1) (tgt := 16) hx hb dX4_isGoer_1 (by decide) (fun c1 => ?_) (fun c1 => ?_)
  · have hf := iT c1 hf
    refine lv_iconst (pc := 16) (v := 0) hx hb dX4_isGoer_16 (by decide) ?_
    obtain rfl := Option.some.inj hf
    exact hRet 17 ls (nzB (Or.inl rfl)) dX4_isGoer_17
  · have hf := iF c1 hf
    refine lv_iload_n (pc := 4) hx hb dX4_isGoer_4 rfl (lv_at hl 1 rfl) ?_
    refine lv_aload_n (pc := 5) hx hb dX4_isGoer_5 rfl (lv_at hl 0 rfl) ?_
    refine va_get (pc := 6) (D := D) (ci := 4) (v := .int (M 6 0)) (C := RX4) (T := TX4) (N := 29) hx hb hts inX4_isGoer_X4 hown hK.1 hP 0 rfl rfl 6 (by decide) (hts (.fieldLink RX4 75 "HedgeHolesModel" "goers" "I") (by decide +kernel)) (fun _ h9 => h9) rfl dX4_isGoer_6 ?_
    refine lv_icmp_ge (pc := 9) (tgt := 16) hx hb dX4_isGoer_9 (by decide) (fun c2 => ?_) (fun c2 => ?_)
    · have hf := iT c2 hf
      refine lv_iconst (pc := 16) (v := 0) hx hb dX4_isGoer_16 (by decide) ?_
      obtain rfl := Option.some.inj hf
      exact hRet 17 ls (nzB (Or.inl rfl)) dX4_isGoer_17
    · have hf := iF c2 hf
      refine lv_iconst (pc := 12) (v := 1) hx hb dX4_isGoer_12 (by decide) ?_
      refine lv_goto (pc := 13) (tgt := 17) hx hb dX4_isGoer_13 (by decide) ?_
      obtain rfl := Option.some.inj hf
      exact hRet 17 ls (nzB (Or.inr rfl)) dX4_isGoer_17
theorem hdX4_isGoer : yX4_isGoer.cls ≠ "java/lang/invoke/MethodHandle" ∧ yX4_isGoer.cls ≠ "java/lang/invoke/VarHandle" ∧ (parseMethodDescriptor yX4_isGoer.desc).map (fun d => d.parameters.length) = some 1 := by decide +kernel
abbrev rmX4_hedges : Room := { frames := 1, cells := 0, slots := 0, locals := 20 }
theorem inX4_hedges_X4 : ∀ w ∈ wsX40, w ∈ wsX4_hedges := fun _ h => List.mem_cons_of_mem _ (List.mem_append_right _ h)
set_option maxHeartbeats 4000000 in
set_option maxRecDepth 100000 in
theorem mtX4_hedges (l : Launch) (D : va_G) (cI cZ cQ : ClassId) (oM : Nat) (aM : Nat → Nat) (M : Bk)  (out : Int32) (hf : fX4_hedges M = some out) : Met l yX4_hedges wsX4_hedges rmX4_hedges (RoP D cI cZ cQ [.ref oM] (wM cI oM aM M)) (vp_Si (fun r' => r' = out)) 0 0 (fun _ => False) := by
  refine metRi (ty := .int) (cc := cX4_hedges) (maxL := 1) (by decide) rfl (Nat.le_of_ble_eq_true rfl) ?_
  intro p e s m args below meth c Q CF hK hP hRet ls hl
  obtain ⟨hx, hb, hml, hown, hts⟩ := id CF
  have hl : lv_has ls 1 [(0, .ref oM)] := hl
  unfold fX4_hedges at hf
  refine lv_aload_n (pc := 0) hx hb dX4_hedges_0 rfl (lv_at hl 0 rfl) ?_
  refine va_get (pc := 1) (D := D) (ci := 4) (v := .int (M 5 0)) (C := RX4) (T := TX4) (N := 29) hx hb hts inX4_hedges_X4 hown hK.1 hP 0 rfl rfl 5 (by decide) (hts (.fieldLink RX4 68 "HedgeHolesModel" "fields" "I") (by decide +kernel)) (fun _ h9 => h9) rfl dX4_hedges_1 ?_
  obtain ⟨v1, h2, hf⟩ := bd hf
  refine roSi (pc := 4) (As := [.int (M 5 0)]) (rest := []) CF (mtX4_hedgesOf l D cI cZ cQ (M 5 0) v1 h2) (va_cwS 1 hts gX4_hedges_X4_hedgesOf rfl rfl rfl hdX4_hedgesOf ⟨Nat.le_of_ble_eq_true rfl, Nat.le_of_ble_eq_true rfl⟩) hK P0 rfl hl.1 rfl (Nat.le_of_ble_eq_true rfl) dX4_hedges_4 ?_
  obtain rfl := Option.some.inj hf
  exact hRet 7 ls (vp_nar_int _) dX4_hedges_7
theorem hdX4_hedges : yX4_hedges.cls ≠ "java/lang/invoke/MethodHandle" ∧ yX4_hedges.cls ≠ "java/lang/invoke/VarHandle" ∧ (parseMethodDescriptor yX4_hedges.desc).map (fun d => d.parameters.length) = some 0 := by decide +kernel
abbrev rmX4_hedge : Room := { frames := 0, cells := 0, slots := 0, locals := 0 }
theorem inX4_hedge_X4 : ∀ w ∈ wsX40, w ∈ wsX4_hedge := fun _ h => List.mem_cons_of_mem _ (List.mem_append_right _ h)
set_option maxHeartbeats 4000000 in
set_option maxRecDepth 100000 in
theorem mtX4_hedge (l : Launch) (D : va_G) (cI cZ cQ : ClassId) (oM : Nat) (aM : Nat → Nat) (M : Bk) (p0 : Int32) (p1 : Int32) (out : Int32) (hf : fX4_hedge M p0 p1 = some out) : Met l yX4_hedge wsX4_hedge rmX4_hedge (RoP D cI cZ cQ [.ref oM, .int p0, .int p1] (wM cI oM aM M)) (vp_Si (fun r' => r' = out)) 0 0 (fun _ => False) := by
  refine metRi (ty := .int) (cc := cX4_hedge) (maxL := 7) (by decide) rfl (Nat.le_of_ble_eq_true rfl) ?_
  intro p e s m args below meth c Q CF hK hP hRet ls hl
  obtain ⟨hx, hb, hml, hown, hts⟩ := id CF
  have hl : lv_has ls 7 [(0, .ref oM), (1, .int p0), (2, .int p1)] := hl
  unfold fX4_hedge at hf
  refine lv_iload_n (pc := 0) hx hb dX4_hedge_0 rfl (lv_at hl 1 rfl) ?_
  refine lv_iload_n (pc := 1) hx hb dX4_hedge_1 rfl (lv_at hl 2 rfl) ?_
  obtain ⟨v1, hv, hf⟩ := bd hf
  have J2 : ∀ (ls : Array Slot), lv_has ls 7 [(0, .ref oM), (1, .int p0), (2, .int p1)] → W p l e rmX4_hedge s m args below meth c s.heap [] 0 0 Q (F0 m 10 ls [.int v1]) := by
    intro ls hl
    refine lv_istore_n (pc := 10) (lv' := [(3, .int v1), (0, .ref oM), (1, .int p0), (2, .int p1)]) hx hb dX4_hedge_10 rfl hl (by decide) rfl (fun ls hl => ?_)
    refine lv_iload_n (pc := 11) hx hb dX4_hedge_11 rfl (lv_at hl 2 rfl) ?_
    refine lv_iload_n (pc := 12) hx hb dX4_hedge_12 rfl (lv_at hl 3 rfl) ?_
    obtain ⟨v3, hv, hf⟩ := bd hf
    have J4 : ∀ (ls : Array Slot), lv_has ls 7 [(0, .ref oM), (1, .int p0), (2, .int p1), (3, .int v1)] → W p l e rmX4_hedge s m args below meth c s.heap [] 0 0 Q (F0 m 21 ls [.int v3]) := by
      intro ls hl
      refine lv_istore (pc := 21) (lv' := [(4, .int v3), (0, .ref oM), (1, .int p0), (2, .int p1), (3, .int v1)]) hx hb dX4_hedge_21 hl (by decide) rfl (fun ls hl => ?_)
      refine lv_iconst (pc := 23) (v := 0) hx hb dX4_hedge_23 (by decide) ?_
      refine lv_istore (pc := 24) (lv' := [(5, .int 0), (4, .int v3), (0, .ref oM), (1, .int p0), (2, .int p1), (3, .int v1)]) hx hb dX4_hedge_24 hl (by decide) rfl (fun ls hl => ?_)
      refine lv_iconst (pc := 26) (v := 0) hx hb dX4_hedge_26 (by decide) ?_
      refine lv_istore (pc := 27) (lv' := [(6, .int 0), (5, .int 0), (4, .int v3), (0, .ref oM), (1, .int p0), (2, .int p1), (3, .int v1)]) hx hb dX4_hedge_27 hl (by decide) rfl (fun ls hl => ?_)
      refine zl2 (G := FX4_hedge_29 M v1) (fun x5_5 x6_6 => ∀ (ls : Array Slot), lv_has ls 7 [(0, .ref oM), (1, .int p0), (2, .int p1), (3, .int v1), (4, .int v3), (5, .int x5_5), (6, .int x6_6)] → W p l e rmX4_hedge s m args below meth c s.heap [] 0 0 Q (F0 m 29 ls [])) (fun x5_7 x6_8 => ∀ (ls : Array Slot), lv_has ls 7 [(0, .ref oM), (1, .int p0), (2, .int p1), (3, .int v1), (4, .int v3), (5, .int x5_7), (6, .int x6_8)] → W p l e rmX4_hedge s m args below meth c s.heap [] 0 0 Q (F0 m 55 ls [])) hf (fun x5_7 x6_8 hf => ?_) (fun kx slf hkx hslf x5_5 x6_6 hf => ?_) ls (lv_sub hl [3, 4, 5, 6, 2, 1, 0] rfl)
      · intro ls hl
        refine lv_iload (pc := 55) hx hb dX4_hedge_55 (lv_at hl 5 rfl) ?_
        refine lv_iload (pc := 57) hx hb dX4_hedge_57 (lv_at hl 4 rfl) ?_
        refine lv_iadd (pc := 59) hx hb dX4_hedge_59 ?_
        refine lv_iload_n (pc := 60) hx hb dX4_hedge_60 rfl (lv_at hl 3 rfl) ?_
        refine lv_isub (pc := 61) hx hb dX4_hedge_61 ?_
        refine lv_iconst (pc := 62) (v := 1) hx hb dX4_hedge_62 (by decide) ?_
        refine lv_isub (pc := 63) hx hb dX4_hedge_63 ?_
        obtain rfl := Option.some.inj hf
        exact hRet 64 ls (vp_nar_int _) dX4_hedge_64
      · unfold FX4_hedge_29 at hf
        intro ls hl
        refine lv_iload (pc := 29) hx hb dX4_hedge_29 (lv_at hl 6 rfl) ?_
        refine lv_iload_n (pc := 31) hx hb dX4_hedge_31 rfl (lv_at hl 3 rfl) ?_
        refine lv_icmp_ge (pc := 32) (tgt := 55) hx hb dX4_hedge_32 (by decide) (fun c9 => ?_) (fun c9 => ?_)
        · have hf := iT c9 hf
          exact hkx _ _ hf ls (lv_sub hl [0, 1, 2, 3, 4, 5, 6] rfl)
        · have hf := iF c9 hf
          refine lv_iload (pc := 35) hx hb dX4_hedge_35 (lv_at hl 5 rfl) ?_
          refine lv_aload_n (pc := 37) hx hb dX4_hedge_37 rfl (lv_at hl 0 rfl) ?_
          refine va_get (pc := 38) (D := D) (ci := 4) (v := .int (M 5 0)) (C := RX4) (T := TX4) (N := 29) hx hb hts inX4_hedge_X4 hown hK.1 hP 0 rfl rfl 5 (by decide) (hts (.fieldLink RX4 68 "HedgeHolesModel" "fields" "I") (by decide +kernel)) (fun _ h9 => h9) rfl dX4_hedge_38 ?_
          refine lv_iconst (pc := 41) (v := 1) hx hb dX4_hedge_41 (by decide) ?_
          refine lv_isub (pc := 42) hx hb dX4_hedge_42 ?_
          refine lv_iload (pc := 43) hx hb dX4_hedge_43 (lv_at hl 6 rfl) ?_
          refine lv_isub (pc := 45) hx hb dX4_hedge_45 ?_
          refine lv_iadd (pc := 46) hx hb dX4_hedge_46 ?_
          refine lv_istore (pc := 47) (lv' := [(5, .int (x5_5 + (((M 5 0) - 1) - x6_6))), (0, .ref oM), (1, .int p0), (2, .int p1), (3, .int v1), (4, .int v3), (6, .int x6_6)]) hx hb dX4_hedge_47 hl (by decide) rfl (fun ls hl => ?_)
          refine lv_iinc (pc := 49) (v := (x6_6 + 1)) (lv' := [(6, .int (x6_6 + 1)), (5, .int (x5_5 + (((M 5 0) - 1) - x6_6))), (0, .ref oM), (1, .int p0), (2, .int p1), (3, .int v1), (4, .int v3)]) hx hb dX4_hedge_49 hl (k := 6) rfl rfl (by decide) rfl (fun ls hl => ?_)
          refine lv_goto (pc := 52) (tgt := 29) hx hb dX4_hedge_52 (by decide) ?_
          exact hslf _ _ hf ls (lv_sub hl [2, 3, 4, 5, 6, 1, 0] rfl)
    clear hf
    have hf := hv
    clear hv
    refine lv_icmp_ge (pc := 13) (tgt := 20) hx hb dX4_hedge_13 (by decide) (fun c10 => ?_) (fun c10 => ?_)
    · have hf := iT c10 hf
      refine lv_iload_n (pc := 20) hx hb dX4_hedge_20 rfl (lv_at hl 2 rfl) ?_
      obtain rfl := Option.some.inj hf
      exact J4 ls (lv_sub hl [1, 2, 3, 0] rfl)
    · have hf := iF c10 hf
      refine lv_iload_n (pc := 16) hx hb dX4_hedge_16 rfl (lv_at hl 3 rfl) ?_
      refine lv_goto (pc := 17) (tgt := 21) hx hb dX4_hedge_17 (by decide) ?_
      obtain rfl := Option.some.inj hf
      exact J4 ls (lv_sub hl [1, 2, 3, 0] rfl)
  clear hf
  have hf := hv
  clear hv
  refine lv_icmp_ge (pc := 2) (tgt := 9) hx hb dX4_hedge_2 (by decide) (fun c11 => ?_) (fun c11 => ?_)
  · have hf := iT c11 hf
    refine lv_iload_n (pc := 9) hx hb dX4_hedge_9 rfl (lv_at hl 2 rfl) ?_
    obtain rfl := Option.some.inj hf
    exact J2 ls (lv_sub hl [0, 1, 2] rfl)
  · have hf := iF c11 hf
    refine lv_iload_n (pc := 5) hx hb dX4_hedge_5 rfl (lv_at hl 1 rfl) ?_
    refine lv_goto (pc := 6) (tgt := 10) hx hb dX4_hedge_6 (by decide) ?_
    obtain rfl := Option.some.inj hf
    exact J2 ls (lv_sub hl [0, 1, 2] rfl)
theorem hdX4_hedge : yX4_hedge.cls ≠ "java/lang/invoke/MethodHandle" ∧ yX4_hedge.cls ≠ "java/lang/invoke/VarHandle" ∧ (parseMethodDescriptor yX4_hedge.desc).map (fun d => d.parameters.length) = some 2 := by decide +kernel
abbrev rmX4_digit : Room := { frames := 1, cells := 0, slots := 0, locals := 22 }
theorem inX4_digit_X4 : ∀ w ∈ wsX40, w ∈ wsX4_digit := fun _ h => List.mem_cons_of_mem _ (List.mem_append_right _ h)
set_option maxHeartbeats 4000000 in
set_option maxRecDepth 100000 in
theorem mtX4_digit (l : Launch) (D : va_G) (cI cZ cQ : ClassId) (oM : Nat) (aM : Nat → Nat) (M : Bk) (p0 : Int32) (p1 : Int32) (p2 : Int32) (sz : Nat) (out : (Int32 × Bk)) (hf : fX4_digit M p0 p1 p2 = some out) : Met l yX4_digit wsX4_digit rmX4_digit (WrP D cI cZ cQ [.ref oM, .int p0, .int p1, .int p2] (wM cI oM aM M) sz) (WrQi D out.1 (wM cI oM aM M) (wM cI oM aM out.2) sz) 0 0 (va_A (wM cI oM aM M) sz) := by
  refine metWi (ty := .int) (cc := cX4_digit) (maxL := 4) (by decide) rfl (Nat.le_of_ble_eq_true rfl) ?_
  intro p e s m args below meth c Q A CF hK hP hD hA hRet ls hl
  obtain ⟨hx, hb, hml, hown, hts⟩ := id CF
  have hS : va_S A s.heap s.heap [] := va_S.rf
  have hl : lv_has ls 4 [(0, .ref oM), (1, .int p0), (2, .int p1), (3, .int p2)] := hl
  unfold fX4_digit at hf
  refine lv_aload_n (pc := 0) hx hb dX4_digit_0 rfl (lv_at hl 0 rfl) ?_
  refine va_get (pc := 1) (D := D) (ci := 4) (v := .int (M 14 0)) (C := RX4) (T := TX4) (N := 29) hx hb hts inX4_digit_X4 hown hK.1 hP 0 rfl rfl 14 (by decide) (hts (.fieldLink RX4 82 "HedgeHolesModel" "at" "I") (by decide +kernel)) (fun _ h9 => h9) rfl dX4_digit_1 ?_
  refine lv_iload_n (pc := 4) hx hb dX4_digit_4 rfl (lv_at hl 1 rfl) ?_
  refine lv_icmp_ge (pc := 5) (tgt := 31) hx hb dX4_digit_5 (by decide) (fun c1 => ?_) (fun c1 => ?_)
  · have hf := iT c1 hf
    refine lv_bipush (pc := 31) (v := (-9)) hx hb dX4_digit_31 (by decide) ?_
    obtain rfl := Option.some.inj hf
    exact hRet 33 ls s.heap [] (vp_nar_int _) dX4_digit_33 hP hS
  · have hf := iF c1 hf
    refine lv_aload_n (pc := 8) hx hb dX4_digit_8 rfl (lv_at hl 0 rfl) ?_
    refine va_get (pc := 9) (D := D) (ci := 4) (v := .ref (aM 4)) (C := RX4) (T := TX4) (N := 29) hx hb hts inX4_digit_X4 hown hK.1 hP 0 rfl rfl 4 (by decide) (hts (.fieldLink RX4 16 "HedgeHolesModel" "cells" "[I") (by decide +kernel)) (fun _ h9 => h9) rfl dX4_digit_9 ?_
    refine lv_aload_n (pc := 12) hx hb dX4_digit_12 rfl (lv_at hl 0 rfl) ?_
    refine va_get (pc := 13) (D := D) (ci := 4) (v := .int (M 14 0)) (C := RX4) (T := TX4) (N := 29) hx hb hts inX4_digit_X4 hown hK.1 hP 0 rfl rfl 14 (by decide) (hts (.fieldLink RX4 82 "HedgeHolesModel" "at" "I") (by decide +kernel)) (fun _ h9 => h9) rfl dX4_digit_13 ?_
    obtain ⟨h2, hf⟩ := gI_e hf
    refine va_iald (pc := 16) (f := M 4) (n := 240) hx hb hK.1 hP 3 0 rfl rfl h2 dX4_digit_16 ?_
    refine lv_bipush (pc := 17) (v := 48) hx hb dX4_digit_17 (by decide) ?_
    refine lv_iload_n (pc := 19) hx hb dX4_digit_19 rfl (lv_at hl 2 rfl) ?_
    refine lv_iadd (pc := 20) hx hb dX4_digit_20 ?_
    refine lv_bipush (pc := 21) (v := 48) hx hb dX4_digit_21 (by decide) ?_
    refine lv_iload_n (pc := 23) hx hb dX4_digit_23 rfl (lv_at hl 3 rfl) ?_
    refine lv_iadd (pc := 24) hx hb dX4_digit_24 ?_
    obtain ⟨v3, h4, hf⟩ := bd hf
    refine roSi (pc := 25) (As := [.int (M 4 (M 14 0).toNatClampNeg), .int (48 + p1), .int (48 + p2)]) (rest := []) CF (mtX4_within l D cI cZ cQ (M 4 (M 14 0).toNatClampNeg) (48 + p1) (48 + p2) v3 h4) (va_cwS 3 hts gX4_digit_X4_within rfl rfl rfl hdX4_within ⟨Nat.le_of_ble_eq_true rfl, Nat.le_of_ble_eq_true rfl⟩) hK P0 rfl hl.1 rfl (Nat.le_of_ble_eq_true rfl) dX4_digit_25 ?_
    refine lv_if_ne (pc := 28) (tgt := 34) hx hb dX4_digit_28 (by decide) (fun c5 => ?_) (fun c5 => ?_)
    · have hf := iF c5 hf
      refine lv_aload_n (pc := 34) hx hb dX4_digit_34 rfl (lv_at hl 0 rfl) ?_
      refine lv_dup (pc := 35) hx hb dX4_digit_35 rfl ?_
      refine va_get (pc := 36) (D := D) (ci := 4) (v := .int (M 14 0)) (C := RX4) (T := TX4) (N := 29) hx hb hts inX4_digit_X4 hown hK.1 hP 0 rfl rfl 14 (by decide) (hts (.fieldLink RX4 82 "HedgeHolesModel" "at" "I") (by decide +kernel)) (fun _ h9 => h9) rfl dX4_digit_36 ?_
      refine lv_iconst (pc := 39) (v := 1) hx hb dX4_digit_39 (by decide) ?_
      refine lv_iadd (pc := 40) hx hb dX4_digit_40 ?_
      refine va_put (pc := 41) (D := D) (ci := 4) (v := .int ((M 14 0) + 1)) (ty := .int) (C := RX4) (T := TX4) (N := 29) hx hb hts inX4_digit_X4 tyX4 tyX4_ok nmX4 hown hK.1 hP hD hS 0 rfl rfl 14 (by decide) (hts (.fieldLink RX4 82 "HedgeHolesModel" "at" "I") (by decide +kernel)) (fun _ h9 => h9) rfl (by decide +kernel) (vp_nar_int _) rfl (Nat.le_of_ble_eq_true rfl) dX4_digit_41 (fun H locs hP hD hS => ?_)
      have hP : va_P D vwCl (wM cI oM aM (sB M 14 0 ((M 14 0) + 1))) H := hP
      have hD : va_D A (wM cI oM aM (sB M 14 0 ((M 14 0) + 1))) := hD
      obtain ⟨M_6, h7, hf⟩ := bd hf
      have h7 := Option.some.inj h7
      rw [h7] at hP hD
      refine lv_aload_n (pc := 44) hx hb dX4_digit_44 rfl (lv_at hl 0 rfl) ?_
      refine va_get (pc := 45) (D := D) (ci := 4) (v := .ref (aM 4)) (C := RX4) (T := TX4) (N := 29) hx hb hts inX4_digit_X4 hown hK.1 hP 0 rfl rfl 4 (by decide) (hts (.fieldLink RX4 16 "HedgeHolesModel" "cells" "[I") (by decide +kernel)) (fun _ h9 => h9) rfl dX4_digit_45 ?_
      refine lv_aload_n (pc := 48) hx hb dX4_digit_48 rfl (lv_at hl 0 rfl) ?_
      refine va_get (pc := 49) (D := D) (ci := 4) (v := .int (M_6 14 0)) (C := RX4) (T := TX4) (N := 29) hx hb hts inX4_digit_X4 hown hK.1 hP 0 rfl rfl 14 (by decide) (hts (.fieldLink RX4 82 "HedgeHolesModel" "at" "I") (by decide +kernel)) (fun _ h9 => h9) rfl dX4_digit_49 ?_
      refine lv_iconst (pc := 52) (v := 1) hx hb dX4_digit_52 (by decide) ?_
      refine lv_isub (pc := 53) hx hb dX4_digit_53 ?_
      obtain ⟨h8, hf⟩ := gI_e hf
      refine va_iald (pc := 54) (f := M_6 4) (n := 240) hx hb hK.1 hP 3 0 rfl rfl h8 dX4_digit_54 ?_
      refine lv_bipush (pc := 55) (v := 48) hx hb dX4_digit_55 (by decide) ?_
      refine lv_isub (pc := 57) hx hb dX4_digit_57 ?_
      obtain rfl := Option.some.inj hf
      exact hRet 58 ls H locs (vp_nar_int _) dX4_digit_58 hP hS
    · have hf := iT c5 hf
      refine lv_bipush (pc := 31) (v := (-9)) hx hb dX4_digit_31 (by decide) ?_
      obtain rfl := Option.some.inj hf
      exact hRet 33 ls s.heap [] (vp_nar_int _) dX4_digit_33 hP hS
theorem hdX4_digit : yX4_digit.cls ≠ "java/lang/invoke/MethodHandle" ∧ yX4_digit.cls ≠ "java/lang/invoke/VarHandle" ∧ (parseMethodDescriptor yX4_digit.desc).map (fun d => d.parameters.length) = some 3 := by decide +kernel
abbrev rmX4_isSign : Room := { frames := 0, cells := 0, slots := 0, locals := 0 }
theorem inX4_isSign_X4 : ∀ w ∈ wsX40, w ∈ wsX4_isSign := fun _ h => List.mem_cons_of_mem _ (List.mem_append_right _ h)
set_option maxHeartbeats 4000000 in
set_option maxRecDepth 100000 in
theorem mtX4_isSign (l : Launch) (D : va_G) (cI cZ cQ : ClassId) (oM : Nat) (aM : Nat → Nat) (M : Bk) (p0 : Int32) (p1 : Int32) (sz : Nat) (out : (Int32 × Bk)) (hf : fX4_isSign M p0 p1 = some out) : Met l yX4_isSign wsX4_isSign rmX4_isSign (WrP D cI cZ cQ [.ref oM, .int p0, .int p1] (wM cI oM aM M) sz) (WrQi D out.1 (wM cI oM aM M) (wM cI oM aM out.2) sz) 0 0 (va_A (wM cI oM aM M) sz) := by
  refine metWi (ty := .boolean) (cc := cX4_isSign) (maxL := 3) (by decide) rfl (Nat.le_of_ble_eq_true rfl) ?_
  intro p e s m args below meth c Q A CF hK hP hD hA hRet ls hl
  obtain ⟨hx, hb, hml, hown, hts⟩ := id CF
  have hS : va_S A s.heap s.heap [] := va_S.rf
  have hl : lv_has ls 3 [(0, .ref oM), (1, .int p0), (2, .int p1)] := hl
  unfold fX4_isSign at hf
  refine lv_aload_n (pc := 0) hx hb dX4_isSign_0 rfl (lv_at hl 0 rfl) ?_
  refine va_get (pc := 1) (D := D) (ci := 4) (v := .int (M 14 0)) (C := RX4) (T := TX4) (N := 29) hx hb hts inX4_isSign_X4 hown hK.1 hP 0 rfl rfl 14 (by decide) (hts (.fieldLink RX4 82 "HedgeHolesModel" "at" "I") (by decide +kernel)) (fun _ h9 => h9) rfl dX4_isSign_1 ?_
  refine lv_iload_n (pc := 4) hx hb dX4_isSign_4 rfl (lv_at hl 1 rfl) ?_
  refine lv_icmp_ge (pc := 5) (tgt := 21) hx hb dX4_isSign_5 (by decide) (fun c1 => ?_) (fun c1 => ?_)
  · have hf := iT c1 hf
    refine lv_iconst (pc := 21) (v := 0) hx hb dX4_isSign_21 (by decide) ?_
    obtain rfl := Option.some.inj hf
    exact hRet 22 ls s.heap [] (nzB (Or.inl rfl)) dX4_isSign_22 hP hS
  · have hf := iF c1 hf
    refine lv_aload_n (pc := 8) hx hb dX4_isSign_8 rfl (lv_at hl 0 rfl) ?_
    refine va_get (pc := 9) (D := D) (ci := 4) (v := .ref (aM 4)) (C := RX4) (T := TX4) (N := 29) hx hb hts inX4_isSign_X4 hown hK.1 hP 0 rfl rfl 4 (by decide) (hts (.fieldLink RX4 16 "HedgeHolesModel" "cells" "[I") (by decide +kernel)) (fun _ h9 => h9) rfl dX4_isSign_9 ?_
    refine lv_aload_n (pc := 12) hx hb dX4_isSign_12 rfl (lv_at hl 0 rfl) ?_
    refine va_get (pc := 13) (D := D) (ci := 4) (v := .int (M 14 0)) (C := RX4) (T := TX4) (N := 29) hx hb hts inX4_isSign_X4 hown hK.1 hP 0 rfl rfl 14 (by decide) (hts (.fieldLink RX4 82 "HedgeHolesModel" "at" "I") (by decide +kernel)) (fun _ h9 => h9) rfl dX4_isSign_13 ?_
    obtain ⟨h2, hf⟩ := gI_e hf
    refine va_iald (pc := 16) (f := M 4) (n := 240) hx hb hK.1 hP 3 0 rfl rfl h2 dX4_isSign_16 ?_
    refine lv_iload_n (pc := 17) hx hb dX4_isSign_17 rfl (lv_at hl 2 rfl) ?_
    refine lv_icmp_eq (pc := 18) (tgt := 23) hx hb dX4_isSign_18 (by decide) (fun c3 => ?_) (fun c3 => ?_)
    · have hf := iT c3 hf
      refine lv_aload_n (pc := 23) hx hb dX4_isSign_23 rfl (lv_at hl 0 rfl) ?_
      refine lv_dup (pc := 24) hx hb dX4_isSign_24 rfl ?_
      refine va_get (pc := 25) (D := D) (ci := 4) (v := .int (M 14 0)) (C := RX4) (T := TX4) (N := 29) hx hb hts inX4_isSign_X4 hown hK.1 hP 0 rfl rfl 14 (by decide) (hts (.fieldLink RX4 82 "HedgeHolesModel" "at" "I") (by decide +kernel)) (fun _ h9 => h9) rfl dX4_isSign_25 ?_
      refine lv_iconst (pc := 28) (v := 1) hx hb dX4_isSign_28 (by decide) ?_
      refine lv_iadd (pc := 29) hx hb dX4_isSign_29 ?_
      refine va_put (pc := 30) (D := D) (ci := 4) (v := .int ((M 14 0) + 1)) (ty := .int) (C := RX4) (T := TX4) (N := 29) hx hb hts inX4_isSign_X4 tyX4 tyX4_ok nmX4 hown hK.1 hP hD hS 0 rfl rfl 14 (by decide) (hts (.fieldLink RX4 82 "HedgeHolesModel" "at" "I") (by decide +kernel)) (fun _ h9 => h9) rfl (by decide +kernel) (vp_nar_int _) rfl (Nat.le_of_ble_eq_true rfl) dX4_isSign_30 (fun H locs hP hD hS => ?_)
      have hP : va_P D vwCl (wM cI oM aM (sB M 14 0 ((M 14 0) + 1))) H := hP
      have hD : va_D A (wM cI oM aM (sB M 14 0 ((M 14 0) + 1))) := hD
      obtain ⟨M_4, h5, hf⟩ := bd hf
      have h5 := Option.some.inj h5
      rw [h5] at hP hD
      refine lv_iconst (pc := 33) (v := 1) hx hb dX4_isSign_33 (by decide) ?_
      obtain rfl := Option.some.inj hf
      exact hRet 34 ls H locs (nzB (Or.inr rfl)) dX4_isSign_34 hP hS
    · have hf := iF c3 hf
      refine lv_iconst (pc := 21) (v := 0) hx hb dX4_isSign_21 (by decide) ?_
      obtain rfl := Option.some.inj hf
      exact hRet 22 ls s.heap [] (nzB (Or.inl rfl)) dX4_isSign_22 hP hS
theorem hdX4_isSign : yX4_isSign.cls ≠ "java/lang/invoke/MethodHandle" ∧ yX4_isSign.cls ≠ "java/lang/invoke/VarHandle" ∧ (parseMethodDescriptor yX4_isSign.desc).map (fun d => d.parameters.length) = some 2 := by decide +kernel
abbrev rmX4_readGoer : Room := { frames := 2, cells := 0, slots := 0, locals := 45 }
theorem inX4_readGoer_X4 : ∀ w ∈ wsX40, w ∈ wsX4_readGoer := fun _ h => List.mem_cons_of_mem _ (List.mem_append_right _ h)
set_option maxHeartbeats 4000000 in
set_option maxRecDepth 100000 in
theorem mtX4_readGoer (l : Launch) (D : va_G) (cI cZ cQ : ClassId) (oM : Nat) (aM : Nat → Nat) (M : Bk) (p0 : Int32) (sz : Nat) (out : (Int32 × Bk)) (hf : fX4_readGoer M p0 = some out) : Met l yX4_readGoer wsX4_readGoer rmX4_readGoer (WrP D cI cZ cQ [.ref oM, .int p0] (wM cI oM aM M) sz) (WrQi D out.1 (wM cI oM aM M) (wM cI oM aM out.2) sz) 0 0 (va_A (wM cI oM aM M) sz) := by
  refine metWi (ty := .boolean) (cc := cX4_readGoer) (maxL := 4) (by decide) rfl (Nat.le_of_ble_eq_true rfl) ?_
  intro p e s m args below meth c Q A CF hK hP hD hA hRet ls hl
  obtain ⟨hx, hb, hml, hown, hts⟩ := id CF
  have hS : va_S A s.heap s.heap [] := va_S.rf
  have hl : lv_has ls 4 [(0, .ref oM), (1, .int p0)] := hl
  unfold fX4_readGoer at hf
  refine lv_aload_n (pc := 0) hx hb dX4_readGoer_0 rfl (lv_at hl 0 rfl) ?_
  refine va_get (pc := 1) (D := D) (ci := 4) (v := .int (M 14 0)) (C := RX4) (T := TX4) (N := 29) hx hb hts inX4_readGoer_X4 hown hK.1 hP 0 rfl rfl 14 (by decide) (hts (.fieldLink RX4 82 "HedgeHolesModel" "at" "I") (by decide +kernel)) (fun _ h9 => h9) rfl dX4_readGoer_1 ?_
  refine lv_iload_n (pc := 4) hx hb dX4_readGoer_4 rfl (lv_at hl 1 rfl) ?_
  obtain ⟨v1, hv, hf⟩ := bd hf
  have J2 : ∀ (ls : Array Slot), lv_has ls 4 [(0, .ref oM), (1, .int p0)] → W p l e rmX4_readGoer s m args below meth c s.heap [] 0 0 Q (F0 m 21 ls [.int v1]) := by
    intro ls hl
    refine lv_istore_n (pc := 21) (lv' := [(2, .int v1), (0, .ref oM), (1, .int p0)]) hx hb dX4_readGoer_21 rfl hl (by decide) rfl (fun ls hl => ?_)
    refine lv_iconst (pc := 22) (v := 3) hx hb dX4_readGoer_22 (by decide) ?_
    refine lv_aload_n (pc := 23) hx hb dX4_readGoer_23 rfl (lv_at hl 1 rfl) ?_
    refine va_get (pc := 24) (D := D) (ci := 4) (v := .int (M 16 0)) (C := RX4) (T := TX4) (N := 29) hx hb hts inX4_readGoer_X4 hown hK.1 hP 0 rfl rfl 16 (by decide) (hts (.fieldLink RX4 111 "HedgeHolesModel" "readGoers" "I") (by decide +kernel)) (fun _ h9 => h9) rfl dX4_readGoer_24 ?_
    refine lv_imul (pc := 27) hx hb dX4_readGoer_27 ?_
    refine lv_istore_n (pc := 28) (lv' := [(3, .int (3 * (M 16 0))), (2, .int v1), (0, .ref oM), (1, .int p0)]) hx hb dX4_readGoer_28 rfl hl (by decide) rfl (fun ls hl => ?_)
    refine lv_aload_n (pc := 29) hx hb dX4_readGoer_29 rfl (lv_at hl 2 rfl) ?_
    refine va_get (pc := 30) (D := D) (ci := 4) (v := .ref (aM 18)) (C := RX4) (T := TX4) (N := 29) hx hb hts inX4_readGoer_X4 hown hK.1 hP 0 rfl rfl 18 (by decide) (hts (.fieldLink RX4 34 "HedgeHolesModel" "read" "[I") (by decide +kernel)) (fun _ h9 => h9) rfl dX4_readGoer_30 ?_
    refine lv_iload_n (pc := 33) hx hb dX4_readGoer_33 rfl (lv_at hl 0 rfl) ?_
    refine lv_iload_n (pc := 34) hx hb dX4_readGoer_34 rfl (lv_at hl 1 rfl) ?_
    refine lv_bipush (pc := 35) (v := 103) hx hb dX4_readGoer_35 (by decide) ?_
    obtain ⟨v3, hv, hf⟩ := bd hf
    have J4 : ∀ (ls : Array Slot), lv_has ls 4 [(0, .ref oM), (1, .int p0), (2, .int v1), (3, .int (3 * (M 16 0)))] → W p l e rmX4_readGoer s m args below meth c s.heap [] 0 0 Q (F0 m 66 ls [.int v3, .int (3 * (M 16 0)), .ref (aM 18)]) := by
      intro ls hl
      obtain ⟨h5, hf⟩ := gI_e hf
      refine va_iast (pc := 66) (f := M 18) (n := 15) hx hb hK.1 hP hD hS 9 0 rfl rfl h5 dX4_readGoer_66 (fun H locs hP hD hS => ?_)
      have hP : va_P D vwCl (wM cI oM aM (sB M 18 ((3 * (M 16 0))).toNatClampNeg v3)) H := hP
      have hD : va_D A (wM cI oM aM (sB M 18 ((3 * (M 16 0))).toNatClampNeg v3)) := hD
      obtain ⟨M_6, h7, hf⟩ := bd hf
      have h7 := Option.some.inj h7
      rw [h7] at hP hD
      refine lv_aload_n (pc := 67) hx hb dX4_readGoer_67 rfl (lv_at hl 0 rfl) ?_
      refine va_get (pc := 68) (D := D) (ci := 4) (v := .ref (aM 18)) (C := RX4) (T := TX4) (N := 29) hx hb hts inX4_readGoer_X4 hown hK.1 hP 0 rfl rfl 18 (by decide) (hts (.fieldLink RX4 34 "HedgeHolesModel" "read" "[I") (by decide +kernel)) (fun _ h9 => h9) rfl dX4_readGoer_68 ?_
      refine lv_iload_n (pc := 71) hx hb dX4_readGoer_71 rfl (lv_at hl 3 rfl) ?_
      refine va_iald (pc := 72) (f := M_6 18) (n := 15) hx hb hK.1 hP 9 0 rfl rfl h5 dX4_readGoer_72 ?_
      refine lv_bipush (pc := 73) (v := (-9)) hx hb dX4_readGoer_73 (by decide) ?_
      refine lv_icmp_ne (pc := 75) (tgt := 80) hx hb dX4_readGoer_75 (by decide) (fun c8 => ?_) (fun c8 => ?_)
      · have hf := iF c8 hf
        refine lv_aload_n (pc := 80) hx hb dX4_readGoer_80 rfl (lv_at hl 0 rfl) ?_
        refine lv_dup (pc := 81) hx hb dX4_readGoer_81 rfl ?_
        refine va_get (pc := 82) (D := D) (ci := 4) (v := .int (M_6 14 0)) (C := RX4) (T := TX4) (N := 29) hx hb hts inX4_readGoer_X4 hown hK.1 hP 0 rfl rfl 14 (by decide) (hts (.fieldLink RX4 82 "HedgeHolesModel" "at" "I") (by decide +kernel)) (fun _ h9 => h9) rfl dX4_readGoer_82 ?_
        refine lv_iconst (pc := 85) (v := 1) hx hb dX4_readGoer_85 (by decide) ?_
        refine lv_iadd (pc := 86) hx hb dX4_readGoer_86 ?_
        refine va_put (pc := 87) (D := D) (ci := 4) (v := .int ((M_6 14 0) + 1)) (ty := .int) (C := RX4) (T := TX4) (N := 29) hx hb hts inX4_readGoer_X4 tyX4 tyX4_ok nmX4 hown hK.1 hP hD hS 0 rfl rfl 14 (by decide) (hts (.fieldLink RX4 82 "HedgeHolesModel" "at" "I") (by decide +kernel)) (fun _ h9 => h9) rfl (by decide +kernel) (vp_nar_int _) rfl (Nat.le_of_ble_eq_true rfl) dX4_readGoer_87 (fun H locs hP hD hS => ?_)
        have hP : va_P D vwCl (wM cI oM aM (sB M_6 14 0 ((M_6 14 0) + 1))) H := hP
        have hD : va_D A (wM cI oM aM (sB M_6 14 0 ((M_6 14 0) + 1))) := hD
        obtain ⟨M_9, h10, hf⟩ := bd hf
        have h10 := Option.some.inj h10
        rw [h10] at hP hD
        refine lv_aload_n (pc := 90) hx hb dX4_readGoer_90 rfl (lv_at hl 0 rfl) ?_
        refine va_get (pc := 91) (D := D) (ci := 4) (v := .ref (aM 18)) (C := RX4) (T := TX4) (N := 29) hx hb hts inX4_readGoer_X4 hown hK.1 hP 0 rfl rfl 18 (by decide) (hts (.fieldLink RX4 34 "HedgeHolesModel" "read" "[I") (by decide +kernel)) (fun _ h9 => h9) rfl dX4_readGoer_91 ?_
        refine lv_iload_n (pc := 94) hx hb dX4_readGoer_94 rfl (lv_at hl 3 rfl) ?_
        refine lv_iconst (pc := 95) (v := 1) hx hb dX4_readGoer_95 (by decide) ?_
        refine lv_iadd (pc := 96) hx hb dX4_readGoer_96 ?_
        refine lv_aload_n (pc := 97) hx hb dX4_readGoer_97 rfl (lv_at hl 0 rfl) ?_
        refine lv_iload_n (pc := 98) hx hb dX4_readGoer_98 rfl (lv_at hl 1 rfl) ?_
        refine lv_iconst (pc := 99) (v := 1) hx hb dX4_readGoer_99 (by decide) ?_
        refine lv_bipush (pc := 100) (v := 9) hx hb dX4_readGoer_100 (by decide) ?_
        obtain ⟨v11, h12, hf⟩ := bd hf
        refine wsVi (pc := 102) (As := [.int p0, .int 1, .int 9]) (rest := [.int ((3 * (M 16 0)) + 1), .ref (aM 18)]) (w1 := wM cI oM aM v11.2) CF (mtX4_digit l D cI cZ cQ oM aM M_9 p0 1 9 H.size v11 h12) (cwV 3 hts gX4_readGoer_X4_digit rfl rfl rfl ⟨rfl, hdX4_digit⟩ ⟨Nat.le_of_ble_eq_true rfl, Nat.le_of_ble_eq_true rfl⟩) hK hP hD hS hA rfl rfl rfl rfl rfl hl.1 rfl (Nat.le_of_ble_eq_true rfl) dX4_readGoer_102 (fun H locs hP hD hS => ?_)
        obtain ⟨h13, hf⟩ := gI_e hf
        refine va_iast (pc := 105) (f := v11.2 18) (n := 15) hx hb hK.1 hP hD hS 9 0 rfl rfl h13 dX4_readGoer_105 (fun H locs hP hD hS => ?_)
        have hP : va_P D vwCl (wM cI oM aM (sB v11.2 18 (((3 * (M 16 0)) + 1)).toNatClampNeg v11.1)) H := hP
        have hD : va_D A (wM cI oM aM (sB v11.2 18 (((3 * (M 16 0)) + 1)).toNatClampNeg v11.1)) := hD
        obtain ⟨M_14, h15, hf⟩ := bd hf
        have h15 := Option.some.inj h15
        rw [h15] at hP hD
        refine lv_aload_n (pc := 106) hx hb dX4_readGoer_106 rfl (lv_at hl 0 rfl) ?_
        refine va_get (pc := 107) (D := D) (ci := 4) (v := .ref (aM 18)) (C := RX4) (T := TX4) (N := 29) hx hb hts inX4_readGoer_X4 hown hK.1 hP 0 rfl rfl 18 (by decide) (hts (.fieldLink RX4 34 "HedgeHolesModel" "read" "[I") (by decide +kernel)) (fun _ h9 => h9) rfl dX4_readGoer_107 ?_
        refine lv_iload_n (pc := 110) hx hb dX4_readGoer_110 rfl (lv_at hl 3 rfl) ?_
        refine lv_iconst (pc := 111) (v := 1) hx hb dX4_readGoer_111 (by decide) ?_
        refine lv_iadd (pc := 112) hx hb dX4_readGoer_112 ?_
        refine va_iald (pc := 113) (f := M_14 18) (n := 15) hx hb hK.1 hP 9 0 rfl rfl h13 dX4_readGoer_113 ?_
        refine lv_bipush (pc := 114) (v := (-9)) hx hb dX4_readGoer_114 (by decide) ?_
        refine lv_icmp_ne (pc := 116) (tgt := 121) hx hb dX4_readGoer_116 (by decide) (fun c16 => ?_) (fun c16 => ?_)
        · have hf := iF c16 hf
          refine lv_aload_n (pc := 121) hx hb dX4_readGoer_121 rfl (lv_at hl 0 rfl) ?_
          refine va_get (pc := 122) (D := D) (ci := 4) (v := .ref (aM 18)) (C := RX4) (T := TX4) (N := 29) hx hb hts inX4_readGoer_X4 hown hK.1 hP 0 rfl rfl 18 (by decide) (hts (.fieldLink RX4 34 "HedgeHolesModel" "read" "[I") (by decide +kernel)) (fun _ h9 => h9) rfl dX4_readGoer_122 ?_
          refine lv_iload_n (pc := 125) hx hb dX4_readGoer_125 rfl (lv_at hl 3 rfl) ?_
          refine lv_iconst (pc := 126) (v := 2) hx hb dX4_readGoer_126 (by decide) ?_
          refine lv_iadd (pc := 127) hx hb dX4_readGoer_127 ?_
          refine lv_aload_n (pc := 128) hx hb dX4_readGoer_128 rfl (lv_at hl 0 rfl) ?_
          refine lv_iload_n (pc := 129) hx hb dX4_readGoer_129 rfl (lv_at hl 1 rfl) ?_
          refine lv_iconst (pc := 130) (v := 0) hx hb dX4_readGoer_130 (by decide) ?_
          refine lv_aload_n (pc := 131) hx hb dX4_readGoer_131 rfl (lv_at hl 0 rfl) ?_
          refine va_get (pc := 132) (D := D) (ci := 4) (v := .int (M_14 15 0)) (C := RX4) (T := TX4) (N := 29) hx hb hts inX4_readGoer_X4 hown hK.1 hP 0 rfl rfl 15 (by decide) (hts (.fieldLink RX4 104 "HedgeHolesModel" "readFields" "I") (by decide +kernel)) (fun _ h9 => h9) rfl dX4_readGoer_132 ?_
          refine lv_iconst (pc := 135) (v := 1) hx hb dX4_readGoer_135 (by decide) ?_
          refine lv_isub (pc := 136) hx hb dX4_readGoer_136 ?_
          obtain ⟨v17, h18, hf⟩ := bd hf
          refine wsVi (pc := 137) (As := [.int p0, .int 0, .int ((M_14 15 0) - 1)]) (rest := [.int ((3 * (M 16 0)) + 2), .ref (aM 18)]) (w1 := wM cI oM aM v17.2) CF (mtX4_digit l D cI cZ cQ oM aM M_14 p0 0 ((M_14 15 0) - 1) H.size v17 h18) (cwV 3 hts gX4_readGoer_X4_digit rfl rfl rfl ⟨rfl, hdX4_digit⟩ ⟨Nat.le_of_ble_eq_true rfl, Nat.le_of_ble_eq_true rfl⟩) hK hP hD hS hA rfl rfl rfl rfl rfl hl.1 rfl (Nat.le_of_ble_eq_true rfl) dX4_readGoer_137 (fun H locs hP hD hS => ?_)
          obtain ⟨h19, hf⟩ := gI_e hf
          refine va_iast (pc := 140) (f := v17.2 18) (n := 15) hx hb hK.1 hP hD hS 9 0 rfl rfl h19 dX4_readGoer_140 (fun H locs hP hD hS => ?_)
          have hP : va_P D vwCl (wM cI oM aM (sB v17.2 18 (((3 * (M 16 0)) + 2)).toNatClampNeg v17.1)) H := hP
          have hD : va_D A (wM cI oM aM (sB v17.2 18 (((3 * (M 16 0)) + 2)).toNatClampNeg v17.1)) := hD
          obtain ⟨M_20, h21, hf⟩ := bd hf
          have h21 := Option.some.inj h21
          rw [h21] at hP hD
          refine lv_aload_n (pc := 141) hx hb dX4_readGoer_141 rfl (lv_at hl 0 rfl) ?_
          refine lv_dup (pc := 142) hx hb dX4_readGoer_142 rfl ?_
          refine va_get (pc := 143) (D := D) (ci := 4) (v := .int (M_20 16 0)) (C := RX4) (T := TX4) (N := 29) hx hb hts inX4_readGoer_X4 hown hK.1 hP 0 rfl rfl 16 (by decide) (hts (.fieldLink RX4 111 "HedgeHolesModel" "readGoers" "I") (by decide +kernel)) (fun _ h9 => h9) rfl dX4_readGoer_143 ?_
          refine lv_iconst (pc := 146) (v := 1) hx hb dX4_readGoer_146 (by decide) ?_
          refine lv_iadd (pc := 147) hx hb dX4_readGoer_147 ?_
          refine va_put (pc := 148) (D := D) (ci := 4) (v := .int ((M_20 16 0) + 1)) (ty := .int) (C := RX4) (T := TX4) (N := 29) hx hb hts inX4_readGoer_X4 tyX4 tyX4_ok nmX4 hown hK.1 hP hD hS 0 rfl rfl 16 (by decide) (hts (.fieldLink RX4 111 "HedgeHolesModel" "readGoers" "I") (by decide +kernel)) (fun _ h9 => h9) rfl (by decide +kernel) (vp_nar_int _) rfl (Nat.le_of_ble_eq_true rfl) dX4_readGoer_148 (fun H locs hP hD hS => ?_)
          have hP : va_P D vwCl (wM cI oM aM (sB M_20 16 0 ((M_20 16 0) + 1))) H := hP
          have hD : va_D A (wM cI oM aM (sB M_20 16 0 ((M_20 16 0) + 1))) := hD
          obtain ⟨M_22, h23, hf⟩ := bd hf
          have h23 := Option.some.inj h23
          rw [h23] at hP hD
          refine lv_aload_n (pc := 151) hx hb dX4_readGoer_151 rfl (lv_at hl 0 rfl) ?_
          refine va_get (pc := 152) (D := D) (ci := 4) (v := .ref (aM 18)) (C := RX4) (T := TX4) (N := 29) hx hb hts inX4_readGoer_X4 hown hK.1 hP 0 rfl rfl 18 (by decide) (hts (.fieldLink RX4 34 "HedgeHolesModel" "read" "[I") (by decide +kernel)) (fun _ h9 => h9) rfl dX4_readGoer_152 ?_
          refine lv_iload_n (pc := 155) hx hb dX4_readGoer_155 rfl (lv_at hl 3 rfl) ?_
          refine lv_iconst (pc := 156) (v := 2) hx hb dX4_readGoer_156 (by decide) ?_
          refine lv_iadd (pc := 157) hx hb dX4_readGoer_157 ?_
          refine va_iald (pc := 158) (f := M_22 18) (n := 15) hx hb hK.1 hP 9 0 rfl rfl h19 dX4_readGoer_158 ?_
          refine lv_bipush (pc := 159) (v := (-9)) hx hb dX4_readGoer_159 (by decide) ?_
          refine lv_icmp_eq (pc := 161) (tgt := 168) hx hb dX4_readGoer_161 (by decide) (fun c24 => ?_) (fun c24 => ?_)
          · have hf := iT c24 hf
            refine lv_iconst (pc := 168) (v := 0) hx hb dX4_readGoer_168 (by decide) ?_
            obtain rfl := Option.some.inj hf
            exact hRet 169 ls H locs (nzB (Or.inl rfl)) dX4_readGoer_169 hP hS
          · have hf := iF c24 hf
            refine lv_iconst (pc := 164) (v := 1) hx hb dX4_readGoer_164 (by decide) ?_
            refine lv_goto (pc := 165) (tgt := 169) hx hb dX4_readGoer_165 (by decide) ?_
            obtain rfl := Option.some.inj hf
            exact hRet 169 ls H locs (nzB (Or.inr rfl)) dX4_readGoer_169 hP hS
        · have hf := iT c16 hf
          refine lv_iconst (pc := 119) (v := 0) hx hb dX4_readGoer_119 (by decide) ?_
          obtain rfl := Option.some.inj hf
          exact hRet 120 ls H locs (nzB (Or.inl rfl)) dX4_readGoer_120 hP hS
      · have hf := iT c8 hf
        refine lv_iconst (pc := 78) (v := 0) hx hb dX4_readGoer_78 (by decide) ?_
        obtain rfl := Option.some.inj hf
        exact hRet 79 ls H locs (nzB (Or.inl rfl)) dX4_readGoer_79 hP hS
    clear hf
    have hf := hv
    clear hv
    refine lv_icmp_ne (pc := 37) (tgt := 44) hx hb dX4_readGoer_37 (by decide) (fun c25 => ?_) (fun c25 => ?_)
    · have hf := iF c25 hf
      refine lv_iload_n (pc := 44) hx hb dX4_readGoer_44 rfl (lv_at hl 1 rfl) ?_
      refine lv_bipush (pc := 45) (v := 116) hx hb dX4_readGoer_45 (by decide) ?_
      refine lv_icmp_ne (pc := 47) (tgt := 54) hx hb dX4_readGoer_47 (by decide) (fun c26 => ?_) (fun c26 => ?_)
      · have hf := iF c26 hf
        refine lv_iload_n (pc := 54) hx hb dX4_readGoer_54 rfl (lv_at hl 1 rfl) ?_
        refine lv_bipush (pc := 55) (v := 99) hx hb dX4_readGoer_55 (by decide) ?_
        refine lv_icmp_ne (pc := 57) (tgt := 64) hx hb dX4_readGoer_57 (by decide) (fun c27 => ?_) (fun c27 => ?_)
        · have hf := iF c27 hf
          refine lv_bipush (pc := 64) (v := (-9)) hx hb dX4_readGoer_64 (by decide) ?_
          obtain rfl := Option.some.inj hf
          exact J4 ls (lv_sub hl [2, 3, 1, 0] rfl)
        · have hf := iT c27 hf
          refine lv_iconst (pc := 60) (v := 2) hx hb dX4_readGoer_60 (by decide) ?_
          refine lv_goto (pc := 61) (tgt := 66) hx hb dX4_readGoer_61 (by decide) ?_
          obtain rfl := Option.some.inj hf
          exact J4 ls (lv_sub hl [2, 3, 1, 0] rfl)
      · have hf := iT c26 hf
        refine lv_iconst (pc := 50) (v := 1) hx hb dX4_readGoer_50 (by decide) ?_
        refine lv_goto (pc := 51) (tgt := 66) hx hb dX4_readGoer_51 (by decide) ?_
        obtain rfl := Option.some.inj hf
        exact J4 ls (lv_sub hl [2, 3, 1, 0] rfl)
    · have hf := iT c25 hf
      refine lv_iconst (pc := 40) (v := 0) hx hb dX4_readGoer_40 (by decide) ?_
      refine lv_goto (pc := 41) (tgt := 66) hx hb dX4_readGoer_41 (by decide) ?_
      obtain rfl := Option.some.inj hf
      exact J4 ls (lv_sub hl [2, 3, 1, 0] rfl)
  clear hf
  have hf := hv
  clear hv
  refine lv_icmp_ge (pc := 5) (tgt := 20) hx hb dX4_readGoer_5 (by decide) (fun c28 => ?_) (fun c28 => ?_)
  · have hf := iT c28 hf
    refine lv_iconst (pc := 20) (v := 0) hx hb dX4_readGoer_20 (by decide) ?_
    obtain rfl := Option.some.inj hf
    exact J2 ls (lv_sub hl [0, 1] rfl)
  · have hf := iF c28 hf
    refine lv_aload_n (pc := 8) hx hb dX4_readGoer_8 rfl (lv_at hl 0 rfl) ?_
    refine va_get (pc := 9) (D := D) (ci := 4) (v := .ref (aM 4)) (C := RX4) (T := TX4) (N := 29) hx hb hts inX4_readGoer_X4 hown hK.1 hP 0 rfl rfl 4 (by decide) (hts (.fieldLink RX4 16 "HedgeHolesModel" "cells" "[I") (by decide +kernel)) (fun _ h9 => h9) rfl dX4_readGoer_9 ?_
    refine lv_aload_n (pc := 12) hx hb dX4_readGoer_12 rfl (lv_at hl 0 rfl) ?_
    refine va_get (pc := 13) (D := D) (ci := 4) (v := .int (M 14 0)) (C := RX4) (T := TX4) (N := 29) hx hb hts inX4_readGoer_X4 hown hK.1 hP 0 rfl rfl 14 (by decide) (hts (.fieldLink RX4 82 "HedgeHolesModel" "at" "I") (by decide +kernel)) (fun _ h9 => h9) rfl dX4_readGoer_13 ?_
    obtain ⟨h29, hf⟩ := gI_e hf
    refine va_iald (pc := 16) (f := M 4) (n := 240) hx hb hK.1 hP 3 0 rfl rfl h29 dX4_readGoer_16 ?_
    refine lv_goto (pc := 17) (tgt := 21) hx hb dX4_readGoer_17 (by decide) ?_
    obtain rfl := Option.some.inj hf
    exact J2 ls (lv_sub hl [0, 1] rfl)
theorem hdX4_readGoer : yX4_readGoer.cls ≠ "java/lang/invoke/MethodHandle" ∧ yX4_readGoer.cls ≠ "java/lang/invoke/VarHandle" ∧ (parseMethodDescriptor yX4_readGoer.desc).map (fun d => d.parameters.length) = some 1 := by decide +kernel
abbrev rmX4_readCounty : Room := { frames := 3, cells := 0, slots := 0, locals := 68 }
theorem inX4_readCounty_X4 : ∀ w ∈ wsX40, w ∈ wsX4_readCounty := fun _ h => List.mem_cons_of_mem _ (List.mem_append_right _ h)
set_option maxHeartbeats 4000000 in
set_option maxRecDepth 100000 in
theorem mtX4_readCounty (l : Launch) (D : va_G) (cI cZ cQ : ClassId) (oM : Nat) (aM : Nat → Nat) (M : Bk) (p0 : Int32) (sz : Nat) (out : (Int32 × Bk)) (hf : fX4_readCounty M p0 = some out) : Met l yX4_readCounty wsX4_readCounty rmX4_readCounty (WrP D cI cZ cQ [.ref oM, .int p0] (wM cI oM aM M) sz) (WrQi D out.1 (wM cI oM aM M) (wM cI oM aM out.2) sz) 0 0 (va_A (wM cI oM aM M) sz) := by
  refine metWi (ty := .boolean) (cc := cX4_readCounty) (maxL := 3) (by decide) rfl (Nat.le_of_ble_eq_true rfl) ?_
  intro p e s m args below meth c Q A CF hK hP hD hA hRet ls hl
  obtain ⟨hx, hb, hml, hown, hts⟩ := id CF
  have hS : va_S A s.heap s.heap [] := va_S.rf
  have hl : lv_has ls 3 [(0, .ref oM), (1, .int p0)] := hl
  unfold fX4_readCounty at hf
  refine lv_aload_n (pc := 0) hx hb dX4_readCounty_0 rfl (lv_at hl 0 rfl) ?_
  refine lv_iconst (pc := 1) (v := 0) hx hb dX4_readCounty_1 (by decide) ?_
  refine va_put (pc := 2) (D := D) (ci := 4) (v := .int 0) (ty := .int) (C := RX4) (T := TX4) (N := 29) hx hb hts inX4_readCounty_X4 tyX4 tyX4_ok nmX4 hown hK.1 hP hD hS 0 rfl rfl 16 (by decide) (hts (.fieldLink RX4 111 "HedgeHolesModel" "readGoers" "I") (by decide +kernel)) (fun _ h9 => h9) rfl (by decide +kernel) (vp_nar_int _) rfl (Nat.le_of_ble_eq_true rfl) dX4_readCounty_2 (fun H locs hP hD hS => ?_)
  have hP : va_P D vwCl (wM cI oM aM (sB M 16 0 0)) H := hP
  have hD : va_D A (wM cI oM aM (sB M 16 0 0)) := hD
  obtain ⟨M_1, h2, hf⟩ := bd hf
  have h2 := Option.some.inj h2
  rw [h2] at hP hD
  refine lv_aload_n (pc := 5) hx hb dX4_readCounty_5 rfl (lv_at hl 0 rfl) ?_
  refine lv_iload_n (pc := 6) hx hb dX4_readCounty_6 rfl (lv_at hl 1 rfl) ?_
  refine lv_bipush (pc := 7) (v := 104) hx hb dX4_readCounty_7 (by decide) ?_
  obtain ⟨v3, h4, hf⟩ := bd hf
  refine wsVi (pc := 9) (As := [.int p0, .int 104]) (rest := []) (w1 := wM cI oM aM v3.2) CF (mtX4_isSign l D cI cZ cQ oM aM M_1 p0 104 H.size v3 h4) (cwV 2 hts gX4_readCounty_X4_isSign rfl rfl rfl ⟨rfl, hdX4_isSign⟩ ⟨Nat.le_of_ble_eq_true rfl, Nat.le_of_ble_eq_true rfl⟩) hK hP hD hS hA rfl rfl rfl rfl rfl hl.1 rfl (Nat.le_of_ble_eq_true rfl) dX4_readCounty_9 (fun H locs hP hD hS => ?_)
  refine lv_if_ne (pc := 12) (tgt := 17) hx hb dX4_readCounty_12 (by decide) (fun c5 => ?_) (fun c5 => ?_)
  · have hf := iF c5 hf
    refine lv_aload_n (pc := 17) hx hb dX4_readCounty_17 rfl (lv_at hl 0 rfl) ?_
    refine lv_aload_n (pc := 18) hx hb dX4_readCounty_18 rfl (lv_at hl 0 rfl) ?_
    refine lv_iload_n (pc := 19) hx hb dX4_readCounty_19 rfl (lv_at hl 1 rfl) ?_
    refine lv_iconst (pc := 20) (v := 2) hx hb dX4_readCounty_20 (by decide) ?_
    refine lv_iconst (pc := 21) (v := 5) hx hb dX4_readCounty_21 (by decide) ?_
    obtain ⟨v6, h7, hf⟩ := bd hf
    refine wsVi (pc := 22) (As := [.int p0, .int 2, .int 5]) (rest := [.ref oM]) (w1 := wM cI oM aM v6.2) CF (mtX4_digit l D cI cZ cQ oM aM v3.2 p0 2 5 H.size v6 h7) (cwV 3 hts gX4_readCounty_X4_digit rfl rfl rfl ⟨rfl, hdX4_digit⟩ ⟨Nat.le_of_ble_eq_true rfl, Nat.le_of_ble_eq_true rfl⟩) hK hP hD hS hA rfl rfl rfl rfl rfl hl.1 rfl (Nat.le_of_ble_eq_true rfl) dX4_readCounty_22 (fun H locs hP hD hS => ?_)
    refine va_put (pc := 25) (D := D) (ci := 4) (v := .int v6.1) (ty := .int) (C := RX4) (T := TX4) (N := 29) hx hb hts inX4_readCounty_X4 tyX4 tyX4_ok nmX4 hown hK.1 hP hD hS 0 rfl rfl 15 (by decide) (hts (.fieldLink RX4 104 "HedgeHolesModel" "readFields" "I") (by decide +kernel)) (fun _ h9 => h9) rfl (by decide +kernel) (vp_nar_int _) rfl (Nat.le_of_ble_eq_true rfl) dX4_readCounty_25 (fun H locs hP hD hS => ?_)
    have hP : va_P D vwCl (wM cI oM aM (sB v6.2 15 0 v6.1)) H := hP
    have hD : va_D A (wM cI oM aM (sB v6.2 15 0 v6.1)) := hD
    obtain ⟨M_8, h9, hf⟩ := bd hf
    have h9 := Option.some.inj h9
    rw [h9] at hP hD
    refine lv_aload_n (pc := 28) hx hb dX4_readCounty_28 rfl (lv_at hl 0 rfl) ?_
    refine va_get (pc := 29) (D := D) (ci := 4) (v := .int (M_8 15 0)) (C := RX4) (T := TX4) (N := 29) hx hb hts inX4_readCounty_X4 hown hK.1 hP 0 rfl rfl 15 (by decide) (hts (.fieldLink RX4 104 "HedgeHolesModel" "readFields" "I") (by decide +kernel)) (fun _ h9 => h9) rfl dX4_readCounty_29 ?_
    refine lv_bipush (pc := 32) (v := (-9)) hx hb dX4_readCounty_32 (by decide) ?_
    refine lv_icmp_ne (pc := 34) (tgt := 39) hx hb dX4_readCounty_34 (by decide) (fun c10 => ?_) (fun c10 => ?_)
    · have hf := iF c10 hf
      refine lv_iconst (pc := 39) (v := 0) hx hb dX4_readCounty_39 (by decide) ?_
      refine lv_istore_n (pc := 40) (lv' := [(2, .int 0), (0, .ref oM), (1, .int p0)]) hx hb dX4_readCounty_40 rfl hl (by decide) rfl (fun ls hl => ?_)
      refine zl2 (G := FX4_readCounty_41 p0) (fun x2_11 M_12 => ∀ (ls : Array Slot) (H : Heap) (locs : List Loc), lv_has ls 3 [(0, .ref oM), (1, .int p0), (2, .int x2_11)] → va_P D vwCl (wM cI oM aM M_12) H → va_D A (wM cI oM aM M_12) → va_S A s.heap H locs → W p l e rmX4_readCounty s m args below meth c H locs 0 0 Q (F0 m 41 ls [])) (fun x2_13 M_14 => ∀ (ls : Array Slot) (H : Heap) (locs : List Loc), lv_has ls 3 [(0, .ref oM), (1, .int p0), (2, .int x2_13)] → va_P D vwCl (wM cI oM aM M_14) H → va_D A (wM cI oM aM M_14) → va_S A s.heap H locs → W p l e rmX4_readCounty s m args below meth c H locs 0 0 Q (F0 m 85 ls [])) hf (fun x2_13 M_14 hf => ?_) (fun kx slf hkx hslf x2_11 M_12 hf => ?_) ls H locs (lv_sub hl [1, 2, 0] rfl) hP hD hS
      · intro ls H locs hl hP hD hS
        refine zl1 (G := FX4_readCounty_85 p0) (fun M_24 => ∀ (ls : Array Slot) (H : Heap) (locs : List Loc), lv_has ls 3 [(0, .ref oM), (1, .int p0), (2, .int x2_13)] → va_P D vwCl (wM cI oM aM M_24) H → va_D A (wM cI oM aM M_24) → va_S A s.heap H locs → W p l e rmX4_readCounty s m args below meth c H locs 0 0 Q (F0 m 85 ls [])) (fun M_25 => ∀ (ls : Array Slot) (H : Heap) (locs : List Loc), lv_has ls 3 [(0, .ref oM), (1, .int p0), (2, .int x2_13)] → va_P D vwCl (wM cI oM aM M_25) H → va_D A (wM cI oM aM M_25) → va_S A s.heap H locs → W p l e rmX4_readCounty s m args below meth c H locs 0 0 Q (F0 m 126 ls [])) hf (fun M_25 hf => ?_) (fun kx slf hkx hslf M_24 hf => ?_) ls H locs (lv_sub hl [0, 1, 2] rfl) hP hD hS
        · intro ls H locs hl hP hD hS
          refine lv_iconst (pc := 126) (v := 0) hx hb dX4_readCounty_126 (by decide) ?_
          obtain rfl := Option.some.inj hf
          exact hRet 127 ls H locs (nzB (Or.inl rfl)) dX4_readCounty_127 hP hS
        · unfold FX4_readCounty_85 at hf
          intro ls H locs hl hP hD hS
          refine lv_aload_n (pc := 85) hx hb dX4_readCounty_85 rfl (lv_at hl 0 rfl) ?_
          refine va_get (pc := 86) (D := D) (ci := 4) (v := .int (M_24 16 0)) (C := RX4) (T := TX4) (N := 29) hx hb hts inX4_readCounty_X4 hown hK.1 hP 0 rfl rfl 16 (by decide) (hts (.fieldLink RX4 111 "HedgeHolesModel" "readGoers" "I") (by decide +kernel)) (fun _ h9 => h9) rfl dX4_readCounty_86 ?_
          refine lv_if_eq (pc := 89) (tgt := 108) hx hb dX4_readCounty_89 (by decide) (fun c26 => ?_) (fun c26 => ?_)
          · have hf := iT c26 hf
            refine lv_aload_n (pc := 108) hx hb dX4_readCounty_108 rfl (lv_at hl 0 rfl) ?_
            refine lv_iload_n (pc := 109) hx hb dX4_readCounty_109 rfl (lv_at hl 1 rfl) ?_
            refine lv_bipush (pc := 110) (v := 59) hx hb dX4_readCounty_110 (by decide) ?_
            obtain ⟨v27, h28, hf⟩ := bd hf
            refine wsVi (pc := 112) (As := [.int p0, .int 59]) (rest := []) (w1 := wM cI oM aM v27.2) CF (mtX4_isSign l D cI cZ cQ oM aM M_24 p0 59 H.size v27 h28) (cwV 2 hts gX4_readCounty_X4_isSign rfl rfl rfl ⟨rfl, hdX4_isSign⟩ ⟨Nat.le_of_ble_eq_true rfl, Nat.le_of_ble_eq_true rfl⟩) hK hP hD hS hA rfl rfl rfl rfl rfl hl.1 rfl (Nat.le_of_ble_eq_true rfl) dX4_readCounty_112 (fun H locs hP hD hS => ?_)
            refine lv_if_eq (pc := 115) (tgt := 126) hx hb dX4_readCounty_115 (by decide) (fun c29 => ?_) (fun c29 => ?_)
            · have hf := iT c29 hf
              exact hkx _ hf ls H locs (lv_sub hl [0, 1, 2] rfl) hP hD hS
            · have hf := iF c29 hf
              refine lv_aload_n (pc := 118) hx hb dX4_readCounty_118 rfl (lv_at hl 0 rfl) ?_
              refine lv_iload_n (pc := 119) hx hb dX4_readCounty_119 rfl (lv_at hl 1 rfl) ?_
              obtain ⟨v30, h31, hf⟩ := bd hf
              refine wsVi (pc := 120) (As := [.int p0]) (rest := []) (w1 := wM cI oM aM v30.2) CF (mtX4_readGoer l D cI cZ cQ oM aM v27.2 p0 H.size v30 h31) (cwV 1 hts gX4_readCounty_X4_readGoer rfl rfl rfl ⟨rfl, hdX4_readGoer⟩ ⟨Nat.le_of_ble_eq_true rfl, Nat.le_of_ble_eq_true rfl⟩) hK hP hD hS hA rfl rfl rfl rfl rfl hl.1 rfl (Nat.le_of_ble_eq_true rfl) dX4_readCounty_120 (fun H locs hP hD hS => ?_)
              refine lv_if_ne (pc := 123) (tgt := 85) hx hb dX4_readCounty_123 (by decide) (fun c32 => ?_) (fun c32 => ?_)
              · have hf := iF c32 hf
                exact hslf _ hf ls H locs (lv_sub hl [0, 1, 2] rfl) hP hD hS
              · have hf := iT c32 hf
                exact hkx _ hf ls H locs (lv_sub hl [0, 1, 2] rfl) hP hD hS
          · have hf := iF c26 hf
            refine lv_aload_n (pc := 92) hx hb dX4_readCounty_92 rfl (lv_at hl 0 rfl) ?_
            refine va_get (pc := 93) (D := D) (ci := 4) (v := .int (M_24 16 0)) (C := RX4) (T := TX4) (N := 29) hx hb hts inX4_readCounty_X4 hown hK.1 hP 0 rfl rfl 16 (by decide) (hts (.fieldLink RX4 111 "HedgeHolesModel" "readGoers" "I") (by decide +kernel)) (fun _ h9 => h9) rfl dX4_readCounty_93 ?_
            refine lv_iconst (pc := 96) (v := 5) hx hb dX4_readCounty_96 (by decide) ?_
            refine lv_icmp_ge (pc := 97) (tgt := 128) hx hb dX4_readCounty_97 (by decide) (fun c33 => ?_) (fun c33 => ?_)
            · have hf := iT c33 hf
              refine lv_aload_n (pc := 128) hx hb dX4_readCounty_128 rfl (lv_at hl 0 rfl) ?_
              refine va_get (pc := 129) (D := D) (ci := 4) (v := .int (M_24 14 0)) (C := RX4) (T := TX4) (N := 29) hx hb hts inX4_readCounty_X4 hown hK.1 hP 0 rfl rfl 14 (by decide) (hts (.fieldLink RX4 82 "HedgeHolesModel" "at" "I") (by decide +kernel)) (fun _ h9 => h9) rfl dX4_readCounty_129 ?_
              refine lv_iload_n (pc := 132) hx hb dX4_readCounty_132 rfl (lv_at hl 1 rfl) ?_
              refine lv_icmp_ne (pc := 133) (tgt := 140) hx hb dX4_readCounty_133 (by decide) (fun c34 => ?_) (fun c34 => ?_)
              · have hf := iF c34 hf
                refine lv_iconst (pc := 140) (v := 0) hx hb dX4_readCounty_140 (by decide) ?_
                obtain rfl := Option.some.inj hf
                exact hRet 141 ls H locs (nzB (Or.inl rfl)) dX4_readCounty_141 hP hS
              · have hf := iT c34 hf
                refine lv_iconst (pc := 136) (v := 1) hx hb dX4_readCounty_136 (by decide) ?_
                refine lv_goto (pc := 137) (tgt := 141) hx hb dX4_readCounty_137 (by decide) ?_
                obtain rfl := Option.some.inj hf
                exact hRet 141 ls H locs (nzB (Or.inr rfl)) dX4_readCounty_141 hP hS
            · have hf := iF c33 hf
              refine lv_aload_n (pc := 100) hx hb dX4_readCounty_100 rfl (lv_at hl 0 rfl) ?_
              refine va_get (pc := 101) (D := D) (ci := 4) (v := .int (M_24 14 0)) (C := RX4) (T := TX4) (N := 29) hx hb hts inX4_readCounty_X4 hown hK.1 hP 0 rfl rfl 14 (by decide) (hts (.fieldLink RX4 82 "HedgeHolesModel" "at" "I") (by decide +kernel)) (fun _ h9 => h9) rfl dX4_readCounty_101 ?_
              refine lv_iload_n (pc := 104) hx hb dX4_readCounty_104 rfl (lv_at hl 1 rfl) ?_
              refine lv_icmp_ge (pc := 105) (tgt := 128) hx hb dX4_readCounty_105 (by decide) (fun c35 => ?_) (fun c35 => ?_)
              · have hf := iT c35 hf
                refine lv_aload_n (pc := 128) hx hb dX4_readCounty_128 rfl (lv_at hl 0 rfl) ?_
                refine va_get (pc := 129) (D := D) (ci := 4) (v := .int (M_24 14 0)) (C := RX4) (T := TX4) (N := 29) hx hb hts inX4_readCounty_X4 hown hK.1 hP 0 rfl rfl 14 (by decide) (hts (.fieldLink RX4 82 "HedgeHolesModel" "at" "I") (by decide +kernel)) (fun _ h9 => h9) rfl dX4_readCounty_129 ?_
                refine lv_iload_n (pc := 132) hx hb dX4_readCounty_132 rfl (lv_at hl 1 rfl) ?_
                refine lv_icmp_ne (pc := 133) (tgt := 140) hx hb dX4_readCounty_133 (by decide) (fun c36 => ?_) (fun c36 => ?_)
                · have hf := iF c36 hf
                  refine lv_iconst (pc := 140) (v := 0) hx hb dX4_readCounty_140 (by decide) ?_
                  obtain rfl := Option.some.inj hf
                  exact hRet 141 ls H locs (nzB (Or.inl rfl)) dX4_readCounty_141 hP hS
                · have hf := iT c36 hf
                  refine lv_iconst (pc := 136) (v := 1) hx hb dX4_readCounty_136 (by decide) ?_
                  refine lv_goto (pc := 137) (tgt := 141) hx hb dX4_readCounty_137 (by decide) ?_
                  obtain rfl := Option.some.inj hf
                  exact hRet 141 ls H locs (nzB (Or.inr rfl)) dX4_readCounty_141 hP hS
              · have hf := iF c35 hf
                refine lv_aload_n (pc := 108) hx hb dX4_readCounty_108 rfl (lv_at hl 0 rfl) ?_
                refine lv_iload_n (pc := 109) hx hb dX4_readCounty_109 rfl (lv_at hl 1 rfl) ?_
                refine lv_bipush (pc := 110) (v := 59) hx hb dX4_readCounty_110 (by decide) ?_
                obtain ⟨v37, h38, hf⟩ := bd hf
                refine wsVi (pc := 112) (As := [.int p0, .int 59]) (rest := []) (w1 := wM cI oM aM v37.2) CF (mtX4_isSign l D cI cZ cQ oM aM M_24 p0 59 H.size v37 h38) (cwV 2 hts gX4_readCounty_X4_isSign rfl rfl rfl ⟨rfl, hdX4_isSign⟩ ⟨Nat.le_of_ble_eq_true rfl, Nat.le_of_ble_eq_true rfl⟩) hK hP hD hS hA rfl rfl rfl rfl rfl hl.1 rfl (Nat.le_of_ble_eq_true rfl) dX4_readCounty_112 (fun H locs hP hD hS => ?_)
                refine lv_if_eq (pc := 115) (tgt := 126) hx hb dX4_readCounty_115 (by decide) (fun c39 => ?_) (fun c39 => ?_)
                · have hf := iT c39 hf
                  exact hkx _ hf ls H locs (lv_sub hl [0, 1, 2] rfl) hP hD hS
                · have hf := iF c39 hf
                  refine lv_aload_n (pc := 118) hx hb dX4_readCounty_118 rfl (lv_at hl 0 rfl) ?_
                  refine lv_iload_n (pc := 119) hx hb dX4_readCounty_119 rfl (lv_at hl 1 rfl) ?_
                  obtain ⟨v40, h41, hf⟩ := bd hf
                  refine wsVi (pc := 120) (As := [.int p0]) (rest := []) (w1 := wM cI oM aM v40.2) CF (mtX4_readGoer l D cI cZ cQ oM aM v37.2 p0 H.size v40 h41) (cwV 1 hts gX4_readCounty_X4_readGoer rfl rfl rfl ⟨rfl, hdX4_readGoer⟩ ⟨Nat.le_of_ble_eq_true rfl, Nat.le_of_ble_eq_true rfl⟩) hK hP hD hS hA rfl rfl rfl rfl rfl hl.1 rfl (Nat.le_of_ble_eq_true rfl) dX4_readCounty_120 (fun H locs hP hD hS => ?_)
                  refine lv_if_ne (pc := 123) (tgt := 85) hx hb dX4_readCounty_123 (by decide) (fun c42 => ?_) (fun c42 => ?_)
                  · have hf := iF c42 hf
                    exact hslf _ hf ls H locs (lv_sub hl [0, 1, 2] rfl) hP hD hS
                  · have hf := iT c42 hf
                    exact hkx _ hf ls H locs (lv_sub hl [0, 1, 2] rfl) hP hD hS
      · unfold FX4_readCounty_41 at hf
        intro ls H locs hl hP hD hS
        refine lv_iload_n (pc := 41) hx hb dX4_readCounty_41 rfl (lv_at hl 2 rfl) ?_
        refine lv_aload_n (pc := 42) hx hb dX4_readCounty_42 rfl (lv_at hl 0 rfl) ?_
        refine va_get (pc := 43) (D := D) (ci := 4) (v := .int (M_12 15 0)) (C := RX4) (T := TX4) (N := 29) hx hb hts inX4_readCounty_X4 hown hK.1 hP 0 rfl rfl 15 (by decide) (hts (.fieldLink RX4 104 "HedgeHolesModel" "readFields" "I") (by decide +kernel)) (fun _ h9 => h9) rfl dX4_readCounty_43 ?_
        obtain ⟨v15, h16, hf⟩ := bd hf
        refine roSi (pc := 46) (As := [.int (M_12 15 0)]) (rest := [.int x2_11]) CF (mtX4_hedgesOf l D cI cZ cQ (M_12 15 0) v15 h16) (va_cwS 1 hts gX4_readCounty_X4_hedgesOf rfl rfl rfl hdX4_hedgesOf ⟨Nat.le_of_ble_eq_true rfl, Nat.le_of_ble_eq_true rfl⟩) hK P0 rfl hl.1 rfl (Nat.le_of_ble_eq_true rfl) dX4_readCounty_46 ?_
        refine lv_icmp_ge (pc := 49) (tgt := 85) hx hb dX4_readCounty_49 (by decide) (fun c17 => ?_) (fun c17 => ?_)
        · have hf := iT c17 hf
          exact hkx _ _ hf ls H locs (lv_sub hl [0, 1, 2] rfl) hP hD hS
        · have hf := iF c17 hf
          refine lv_aload_n (pc := 52) hx hb dX4_readCounty_52 rfl (lv_at hl 0 rfl) ?_
          refine va_get (pc := 53) (D := D) (ci := 4) (v := .ref (aM 17)) (C := RX4) (T := TX4) (N := 29) hx hb hts inX4_readCounty_X4 hown hK.1 hP 0 rfl rfl 17 (by decide) (hts (.fieldLink RX4 31 "HedgeHolesModel" "readHoles" "[I") (by decide +kernel)) (fun _ h9 => h9) rfl dX4_readCounty_53 ?_
          refine lv_iload_n (pc := 56) hx hb dX4_readCounty_56 rfl (lv_at hl 2 rfl) ?_
          refine lv_aload_n (pc := 57) hx hb dX4_readCounty_57 rfl (lv_at hl 0 rfl) ?_
          refine lv_iload_n (pc := 58) hx hb dX4_readCounty_58 rfl (lv_at hl 1 rfl) ?_
          refine lv_iconst (pc := 59) (v := 0) hx hb dX4_readCounty_59 (by decide) ?_
          refine lv_bipush (pc := 60) (v := 9) hx hb dX4_readCounty_60 (by decide) ?_
          obtain ⟨v18, h19, hf⟩ := bd hf
          refine wsVi (pc := 62) (As := [.int p0, .int 0, .int 9]) (rest := [.int x2_11, .ref (aM 17)]) (w1 := wM cI oM aM v18.2) CF (mtX4_digit l D cI cZ cQ oM aM M_12 p0 0 9 H.size v18 h19) (cwV 3 hts gX4_readCounty_X4_digit rfl rfl rfl ⟨rfl, hdX4_digit⟩ ⟨Nat.le_of_ble_eq_true rfl, Nat.le_of_ble_eq_true rfl⟩) hK hP hD hS hA rfl rfl rfl rfl rfl hl.1 rfl (Nat.le_of_ble_eq_true rfl) dX4_readCounty_62 (fun H locs hP hD hS => ?_)
          obtain ⟨h20, hf⟩ := gI_e hf
          refine va_iast (pc := 65) (f := v18.2 17) (n := 10) hx hb hK.1 hP hD hS 8 0 rfl rfl h20 dX4_readCounty_65 (fun H locs hP hD hS => ?_)
          have hP : va_P D vwCl (wM cI oM aM (sB v18.2 17 x2_11.toNatClampNeg v18.1)) H := hP
          have hD : va_D A (wM cI oM aM (sB v18.2 17 x2_11.toNatClampNeg v18.1)) := hD
          obtain ⟨M_21, h22, hf⟩ := bd hf
          have h22 := Option.some.inj h22
          rw [h22] at hP hD
          refine lv_aload_n (pc := 66) hx hb dX4_readCounty_66 rfl (lv_at hl 0 rfl) ?_
          refine va_get (pc := 67) (D := D) (ci := 4) (v := .ref (aM 17)) (C := RX4) (T := TX4) (N := 29) hx hb hts inX4_readCounty_X4 hown hK.1 hP 0 rfl rfl 17 (by decide) (hts (.fieldLink RX4 31 "HedgeHolesModel" "readHoles" "[I") (by decide +kernel)) (fun _ h9 => h9) rfl dX4_readCounty_67 ?_
          refine lv_iload_n (pc := 70) hx hb dX4_readCounty_70 rfl (lv_at hl 2 rfl) ?_
          refine va_iald (pc := 71) (f := M_21 17) (n := 10) hx hb hK.1 hP 8 0 rfl rfl h20 dX4_readCounty_71 ?_
          refine lv_bipush (pc := 72) (v := (-9)) hx hb dX4_readCounty_72 (by decide) ?_
          refine lv_icmp_ne (pc := 74) (tgt := 79) hx hb dX4_readCounty_74 (by decide) (fun c23 => ?_) (fun c23 => ?_)
          · have hf := iF c23 hf
            refine lv_iinc (pc := 79) (v := (x2_11 + 1)) (lv' := [(2, .int (x2_11 + 1)), (0, .ref oM), (1, .int p0)]) hx hb dX4_readCounty_79 hl (k := 2) rfl rfl (by decide) rfl (fun ls hl => ?_)
            refine lv_goto (pc := 82) (tgt := 41) hx hb dX4_readCounty_82 (by decide) ?_
            exact hslf _ _ hf ls H locs (lv_sub hl [1, 2, 0] rfl) hP hD hS
          · have hf := iT c23 hf
            refine lv_iconst (pc := 77) (v := 0) hx hb dX4_readCounty_77 (by decide) ?_
            obtain rfl := Option.some.inj hf
            exact hRet 78 ls H locs (nzB (Or.inl rfl)) dX4_readCounty_78 hP hS
    · have hf := iT c10 hf
      refine lv_iconst (pc := 37) (v := 0) hx hb dX4_readCounty_37 (by decide) ?_
      obtain rfl := Option.some.inj hf
      exact hRet 38 ls H locs (nzB (Or.inl rfl)) dX4_readCounty_38 hP hS
  · have hf := iT c5 hf
    refine lv_iconst (pc := 15) (v := 0) hx hb dX4_readCounty_15 (by decide) ?_
    obtain rfl := Option.some.inj hf
    exact hRet 16 ls H locs (nzB (Or.inl rfl)) dX4_readCounty_16 hP hS
theorem hdX4_readCounty : yX4_readCounty.cls ≠ "java/lang/invoke/MethodHandle" ∧ yX4_readCounty.cls ≠ "java/lang/invoke/VarHandle" ∧ (parseMethodDescriptor yX4_readCounty.desc).map (fun d => d.parameters.length) = some 1 := by decide +kernel
abbrev rmX4_takeCounty : Room := { frames := 2, cells := 0, slots := 0, locals := 40 }
theorem inX4_takeCounty_X4 : ∀ w ∈ wsX40, w ∈ wsX4_takeCounty := fun _ h => List.mem_cons_of_mem _ (List.mem_append_right _ h)
set_option maxHeartbeats 4000000 in
set_option maxRecDepth 100000 in
theorem mtX4_takeCounty (l : Launch) (D : va_G) (cI cZ cQ : ClassId) (oM : Nat) (aM : Nat → Nat) (M : Bk)  (sz : Nat) (out : Bk) (hf : fX4_takeCounty M = some out) : Met l yX4_takeCounty wsX4_takeCounty rmX4_takeCounty (WrP D cI cZ cQ [.ref oM] (wM cI oM aM M) sz) (WrQv D (wM cI oM aM M) (wM cI oM aM out) sz) 0 0 (va_A (wM cI oM aM M) sz) := by
  refine metWv (cc := cX4_takeCounty) (maxL := 2) (by decide) rfl (Nat.le_of_ble_eq_true rfl) ?_
  intro p e s m args below meth c Q A CF hK hP hD hA hRet ls hl
  obtain ⟨hx, hb, hml, hown, hts⟩ := id CF
  have hS : va_S A s.heap s.heap [] := va_S.rf
  have hl : lv_has ls 2 [(0, .ref oM)] := hl
  unfold fX4_takeCounty at hf
  refine lv_aload_n (pc := 0) hx hb dX4_takeCounty_0 rfl (lv_at hl 0 rfl) ?_
  refine lv_aload_n (pc := 1) hx hb dX4_takeCounty_1 rfl (lv_at hl 0 rfl) ?_
  refine va_get (pc := 2) (D := D) (ci := 4) (v := .int (M 15 0)) (C := RX4) (T := TX4) (N := 29) hx hb hts inX4_takeCounty_X4 hown hK.1 hP 0 rfl rfl 15 (by decide) (hts (.fieldLink RX4 104 "HedgeHolesModel" "readFields" "I") (by decide +kernel)) (fun _ h9 => h9) rfl dX4_takeCounty_2 ?_
  refine va_put (pc := 5) (D := D) (ci := 4) (v := .int (M 15 0)) (ty := .int) (C := RX4) (T := TX4) (N := 29) hx hb hts inX4_takeCounty_X4 tyX4 tyX4_ok nmX4 hown hK.1 hP hD hS 0 rfl rfl 5 (by decide) (hts (.fieldLink RX4 68 "HedgeHolesModel" "fields" "I") (by decide +kernel)) (fun _ h9 => h9) rfl (by decide +kernel) (vp_nar_int _) rfl (Nat.le_of_ble_eq_true rfl) dX4_takeCounty_5 (fun H locs hP hD hS => ?_)
  have hP : va_P D vwCl (wM cI oM aM (sB M 5 0 (M 15 0))) H := hP
  have hD : va_D A (wM cI oM aM (sB M 5 0 (M 15 0))) := hD
  obtain ⟨M_1, h2, hf⟩ := bd hf
  have h2 := Option.some.inj h2
  rw [h2] at hP hD
  refine lv_iconst (pc := 8) (v := 0) hx hb dX4_takeCounty_8 (by decide) ?_
  refine lv_istore_n (pc := 9) (lv' := [(1, .int 0), (0, .ref oM)]) hx hb dX4_takeCounty_9 rfl hl (by decide) rfl (fun ls hl => ?_)
  refine zl2 (G := FX4_takeCounty_10 ) (fun x1_3 M_4 => ∀ (ls : Array Slot) (H : Heap) (locs : List Loc), lv_has ls 2 [(0, .ref oM), (1, .int x1_3)] → va_P D vwCl (wM cI oM aM M_4) H → va_D A (wM cI oM aM M_4) → va_S A s.heap H locs → W p l e rmX4_takeCounty s m args below meth c H locs 0 0 Q (F0 m 10 ls [])) (fun x1_5 M_6 => ∀ (ls : Array Slot) (H : Heap) (locs : List Loc), lv_has ls 2 [(0, .ref oM), (1, .int x1_5)] → va_P D vwCl (wM cI oM aM M_6) H → va_D A (wM cI oM aM M_6) → va_S A s.heap H locs → W p l e rmX4_takeCounty s m args below meth c H locs 0 0 Q (F0 m 36 ls [])) hf (fun x1_5 M_6 hf => ?_) (fun kx slf hkx hslf x1_3 M_4 hf => ?_) ls H locs (lv_sub hl [1, 0] rfl) hP hD hS
  · intro ls H locs hl hP hD hS
    refine lv_aload_n (pc := 36) hx hb dX4_takeCounty_36 rfl (lv_at hl 0 rfl) ?_
    refine lv_aload_n (pc := 37) hx hb dX4_takeCounty_37 rfl (lv_at hl 0 rfl) ?_
    refine va_get (pc := 38) (D := D) (ci := 4) (v := .int (M_6 16 0)) (C := RX4) (T := TX4) (N := 29) hx hb hts inX4_takeCounty_X4 hown hK.1 hP 0 rfl rfl 16 (by decide) (hts (.fieldLink RX4 111 "HedgeHolesModel" "readGoers" "I") (by decide +kernel)) (fun _ h9 => h9) rfl dX4_takeCounty_38 ?_
    refine va_put (pc := 41) (D := D) (ci := 4) (v := .int (M_6 16 0)) (ty := .int) (C := RX4) (T := TX4) (N := 29) hx hb hts inX4_takeCounty_X4 tyX4 tyX4_ok nmX4 hown hK.1 hP hD hS 0 rfl rfl 6 (by decide) (hts (.fieldLink RX4 75 "HedgeHolesModel" "goers" "I") (by decide +kernel)) (fun _ h9 => h9) rfl (by decide +kernel) (vp_nar_int _) rfl (Nat.le_of_ble_eq_true rfl) dX4_takeCounty_41 (fun H locs hP hD hS => ?_)
    have hP : va_P D vwCl (wM cI oM aM (sB M_6 6 0 (M_6 16 0))) H := hP
    have hD : va_D A (wM cI oM aM (sB M_6 6 0 (M_6 16 0))) := hD
    obtain ⟨M_13, h14, hf⟩ := bd hf
    have h14 := Option.some.inj h14
    rw [h14] at hP hD
    refine lv_iconst (pc := 44) (v := 0) hx hb dX4_takeCounty_44 (by decide) ?_
    refine lv_istore_n (pc := 45) (lv' := [(1, .int 0), (0, .ref oM)]) hx hb dX4_takeCounty_45 rfl hl (by decide) rfl (fun ls hl => ?_)
    refine zl2 (G := FX4_takeCounty_46 ) (fun x1_15 M_16 => ∀ (ls : Array Slot) (H : Heap) (locs : List Loc), lv_has ls 2 [(0, .ref oM), (1, .int x1_15)] → va_P D vwCl (wM cI oM aM M_16) H → va_D A (wM cI oM aM M_16) → va_S A s.heap H locs → W p l e rmX4_takeCounty s m args below meth c H locs 0 0 Q (F0 m 46 ls [])) (fun x1_17 M_18 => ∀ (ls : Array Slot) (H : Heap) (locs : List Loc), lv_has ls 2 [(0, .ref oM), (1, .int x1_17)] → va_P D vwCl (wM cI oM aM M_18) H → va_D A (wM cI oM aM M_18) → va_S A s.heap H locs → W p l e rmX4_takeCounty s m args below meth c H locs 0 0 Q (F0 m 106 ls [])) hf (fun x1_17 M_18 hf => ?_) (fun kx slf hkx hslf x1_15 M_16 hf => ?_) ls H locs (lv_sub hl [1, 0] rfl) hP hD hS
    · intro ls H locs hl hP hD hS
      refine lv_aload_n (pc := 106) hx hb dX4_takeCounty_106 rfl (lv_at hl 0 rfl) ?_
      refine lv_iconst (pc := 107) (v := 0) hx hb dX4_takeCounty_107 (by decide) ?_
      refine va_put (pc := 108) (D := D) (ci := 4) (v := .int 0) (ty := .int) (C := RX4) (T := TX4) (N := 29) hx hb hts inX4_takeCounty_X4 tyX4 tyX4_ok nmX4 hown hK.1 hP hD hS 0 rfl rfl 9 (by decide) (hts (.fieldLink RX4 114 "HedgeHolesModel" "worn" "I") (by decide +kernel)) (fun _ h9 => h9) rfl (by decide +kernel) (vp_nar_int _) rfl (Nat.le_of_ble_eq_true rfl) dX4_takeCounty_108 (fun H locs hP hD hS => ?_)
      have hP : va_P D vwCl (wM cI oM aM (sB M_18 9 0 0)) H := hP
      have hD : va_D A (wM cI oM aM (sB M_18 9 0 0)) := hD
      obtain ⟨M_30, h31, hf⟩ := bd hf
      have h31 := Option.some.inj h31
      rw [h31] at hP hD
      refine lv_aload_n (pc := 111) hx hb dX4_takeCounty_111 rfl (lv_at hl 0 rfl) ?_
      refine lv_iconst (pc := 112) (v := 0) hx hb dX4_takeCounty_112 (by decide) ?_
      refine va_put (pc := 113) (D := D) (ci := 4) (v := .int 0) (ty := .int) (C := RX4) (T := TX4) (N := 29) hx hb hts inX4_takeCounty_X4 tyX4 tyX4_ok nmX4 hown hK.1 hP hD hS 0 rfl rfl 7 (by decide) (hts (.fieldLink RX4 117 "HedgeHolesModel" "year" "I") (by decide +kernel)) (fun _ h9 => h9) rfl (by decide +kernel) (vp_nar_int _) rfl (Nat.le_of_ble_eq_true rfl) dX4_takeCounty_113 (fun H locs hP hD hS => ?_)
      have hP : va_P D vwCl (wM cI oM aM (sB M_30 7 0 0)) H := hP
      have hD : va_D A (wM cI oM aM (sB M_30 7 0 0)) := hD
      obtain ⟨M_32, h33, hf⟩ := bd hf
      have h33 := Option.some.inj h33
      rw [h33] at hP hD
      refine lv_aload_n (pc := 116) hx hb dX4_takeCounty_116 rfl (lv_at hl 0 rfl) ?_
      refine lv_iconst (pc := 117) (v := 0) hx hb dX4_takeCounty_117 (by decide) ?_
      refine va_put (pc := 118) (D := D) (ci := 4) (v := .int 0) (ty := .int) (C := RX4) (T := TX4) (N := 29) hx hb hts inX4_takeCounty_X4 tyX4 tyX4_ok nmX4 hown hK.1 hP hD hS 0 rfl rfl 8 (by decide) (hts (.fieldLink RX4 120 "HedgeHolesModel" "went" "I") (by decide +kernel)) (fun _ h9 => h9) rfl (by decide +kernel) (vp_nar_int _) rfl (Nat.le_of_ble_eq_true rfl) dX4_takeCounty_118 (fun H locs hP hD hS => ?_)
      have hP : va_P D vwCl (wM cI oM aM (sB M_32 8 0 0)) H := hP
      have hD : va_D A (wM cI oM aM (sB M_32 8 0 0)) := hD
      obtain ⟨M_34, h35, hf⟩ := bd hf
      have h35 := Option.some.inj h35
      rw [h35] at hP hD
      refine lv_aload_n (pc := 121) hx hb dX4_takeCounty_121 rfl (lv_at hl 0 rfl) ?_
      refine lv_iconst (pc := 122) (v := 0) hx hb dX4_takeCounty_122 (by decide) ?_
      refine va_put (pc := 123) (D := D) (ci := 4) (v := .int 0) (ty := .int) (C := RX4) (T := TX4) (N := 29) hx hb hts inX4_takeCounty_X4 tyX4 tyX4_ok nmX4 hown hK.1 hP hD hS 0 rfl rfl 25 (by decide) (hts (.fieldLink RX4 123 "HedgeHolesModel" "readings" "I") (by decide +kernel)) (fun _ h9 => h9) rfl (by decide +kernel) (vp_nar_int _) rfl (Nat.le_of_ble_eq_true rfl) dX4_takeCounty_123 (fun H locs hP hD hS => ?_)
      have hP : va_P D vwCl (wM cI oM aM (sB M_34 25 0 0)) H := hP
      have hD : va_D A (wM cI oM aM (sB M_34 25 0 0)) := hD
      obtain ⟨M_36, h37, hf⟩ := bd hf
      have h37 := Option.some.inj h37
      rw [h37] at hP hD
      obtain rfl := Option.some.inj hf
      exact hRet 126 ls H locs dX4_takeCounty_126 hP hS
    · unfold FX4_takeCounty_46 at hf
      intro ls H locs hl hP hD hS
      refine lv_iload_n (pc := 46) hx hb dX4_takeCounty_46 rfl (lv_at hl 1 rfl) ?_
      refine lv_aload_n (pc := 47) hx hb dX4_takeCounty_47 rfl (lv_at hl 0 rfl) ?_
      refine va_get (pc := 48) (D := D) (ci := 4) (v := .int (M_16 6 0)) (C := RX4) (T := TX4) (N := 29) hx hb hts inX4_takeCounty_X4 hown hK.1 hP 0 rfl rfl 6 (by decide) (hts (.fieldLink RX4 75 "HedgeHolesModel" "goers" "I") (by decide +kernel)) (fun _ h9 => h9) rfl dX4_takeCounty_48 ?_
      refine lv_icmp_ge (pc := 51) (tgt := 106) hx hb dX4_takeCounty_51 (by decide) (fun c19 => ?_) (fun c19 => ?_)
      · have hf := iT c19 hf
        exact hkx _ _ hf ls H locs (lv_sub hl [0, 1] rfl) hP hD hS
      · have hf := iF c19 hf
        refine lv_aload_n (pc := 54) hx hb dX4_takeCounty_54 rfl (lv_at hl 0 rfl) ?_
        refine va_get (pc := 55) (D := D) (ci := 4) (v := .ref (aM 11)) (C := RX4) (T := TX4) (N := 29) hx hb hts inX4_takeCounty_X4 hown hK.1 hP 0 rfl rfl 11 (by decide) (hts (.fieldLink RX4 22 "HedgeHolesModel" "kind" "[I") (by decide +kernel)) (fun _ h9 => h9) rfl dX4_takeCounty_55 ?_
        refine lv_iload_n (pc := 58) hx hb dX4_takeCounty_58 rfl (lv_at hl 1 rfl) ?_
        refine lv_aload_n (pc := 59) hx hb dX4_takeCounty_59 rfl (lv_at hl 0 rfl) ?_
        refine va_get (pc := 60) (D := D) (ci := 4) (v := .ref (aM 18)) (C := RX4) (T := TX4) (N := 29) hx hb hts inX4_takeCounty_X4 hown hK.1 hP 0 rfl rfl 18 (by decide) (hts (.fieldLink RX4 34 "HedgeHolesModel" "read" "[I") (by decide +kernel)) (fun _ h9 => h9) rfl dX4_takeCounty_60 ?_
        refine lv_iconst (pc := 63) (v := 3) hx hb dX4_takeCounty_63 (by decide) ?_
        refine lv_iload_n (pc := 64) hx hb dX4_takeCounty_64 rfl (lv_at hl 1 rfl) ?_
        refine lv_imul (pc := 65) hx hb dX4_takeCounty_65 ?_
        obtain ⟨h20, hf⟩ := gI_e hf
        refine va_iald (pc := 66) (f := M_16 18) (n := 15) hx hb hK.1 hP 9 0 rfl rfl h20 dX4_takeCounty_66 ?_
        obtain ⟨h21, hf⟩ := gI_e hf
        refine va_iast (pc := 67) (f := M_16 11) (n := 5) hx hb hK.1 hP hD hS 5 0 rfl rfl h21 dX4_takeCounty_67 (fun H locs hP hD hS => ?_)
        have hP : va_P D vwCl (wM cI oM aM (sB M_16 11 x1_15.toNatClampNeg (M_16 18 (3 * x1_15).toNatClampNeg))) H := hP
        have hD : va_D A (wM cI oM aM (sB M_16 11 x1_15.toNatClampNeg (M_16 18 (3 * x1_15).toNatClampNeg))) := hD
        obtain ⟨M_22, h23, hf⟩ := bd hf
        have h23 := Option.some.inj h23
        rw [h23] at hP hD
        refine lv_aload_n (pc := 68) hx hb dX4_takeCounty_68 rfl (lv_at hl 0 rfl) ?_
        refine va_get (pc := 69) (D := D) (ci := 4) (v := .ref (aM 12)) (C := RX4) (T := TX4) (N := 29) hx hb hts inX4_takeCounty_X4 hown hK.1 hP 0 rfl rfl 12 (by decide) (hts (.fieldLink RX4 25 "HedgeHolesModel" "girth" "[I") (by decide +kernel)) (fun _ h9 => h9) rfl dX4_takeCounty_69 ?_
        refine lv_iload_n (pc := 72) hx hb dX4_takeCounty_72 rfl (lv_at hl 1 rfl) ?_
        refine lv_aload_n (pc := 73) hx hb dX4_takeCounty_73 rfl (lv_at hl 0 rfl) ?_
        refine va_get (pc := 74) (D := D) (ci := 4) (v := .ref (aM 18)) (C := RX4) (T := TX4) (N := 29) hx hb hts inX4_takeCounty_X4 hown hK.1 hP 0 rfl rfl 18 (by decide) (hts (.fieldLink RX4 34 "HedgeHolesModel" "read" "[I") (by decide +kernel)) (fun _ h9 => h9) rfl dX4_takeCounty_74 ?_
        refine lv_iconst (pc := 77) (v := 3) hx hb dX4_takeCounty_77 (by decide) ?_
        refine lv_iload_n (pc := 78) hx hb dX4_takeCounty_78 rfl (lv_at hl 1 rfl) ?_
        refine lv_imul (pc := 79) hx hb dX4_takeCounty_79 ?_
        refine lv_iconst (pc := 80) (v := 1) hx hb dX4_takeCounty_80 (by decide) ?_
        refine lv_iadd (pc := 81) hx hb dX4_takeCounty_81 ?_
        obtain ⟨h24, hf⟩ := gI_e hf
        refine va_iald (pc := 82) (f := M_22 18) (n := 15) hx hb hK.1 hP 9 0 rfl rfl h24 dX4_takeCounty_82 ?_
        refine va_iast (pc := 83) (f := M_22 12) (n := 5) hx hb hK.1 hP hD hS 6 0 rfl rfl h21 dX4_takeCounty_83 (fun H locs hP hD hS => ?_)
        have hP : va_P D vwCl (wM cI oM aM (sB M_22 12 x1_15.toNatClampNeg (M_22 18 (((3 * x1_15) + 1)).toNatClampNeg))) H := hP
        have hD : va_D A (wM cI oM aM (sB M_22 12 x1_15.toNatClampNeg (M_22 18 (((3 * x1_15) + 1)).toNatClampNeg))) := hD
        obtain ⟨M_25, h26, hf⟩ := bd hf
        have h26 := Option.some.inj h26
        rw [h26] at hP hD
        refine lv_aload_n (pc := 84) hx hb dX4_takeCounty_84 rfl (lv_at hl 0 rfl) ?_
        refine va_get (pc := 85) (D := D) (ci := 4) (v := .ref (aM 13)) (C := RX4) (T := TX4) (N := 29) hx hb hts inX4_takeCounty_X4 hown hK.1 hP 0 rfl rfl 13 (by decide) (hts (.fieldLink RX4 28 "HedgeHolesModel" "field" "[I") (by decide +kernel)) (fun _ h9 => h9) rfl dX4_takeCounty_85 ?_
        refine lv_iload_n (pc := 88) hx hb dX4_takeCounty_88 rfl (lv_at hl 1 rfl) ?_
        refine lv_aload_n (pc := 89) hx hb dX4_takeCounty_89 rfl (lv_at hl 0 rfl) ?_
        refine va_get (pc := 90) (D := D) (ci := 4) (v := .ref (aM 18)) (C := RX4) (T := TX4) (N := 29) hx hb hts inX4_takeCounty_X4 hown hK.1 hP 0 rfl rfl 18 (by decide) (hts (.fieldLink RX4 34 "HedgeHolesModel" "read" "[I") (by decide +kernel)) (fun _ h9 => h9) rfl dX4_takeCounty_90 ?_
        refine lv_iconst (pc := 93) (v := 3) hx hb dX4_takeCounty_93 (by decide) ?_
        refine lv_iload_n (pc := 94) hx hb dX4_takeCounty_94 rfl (lv_at hl 1 rfl) ?_
        refine lv_imul (pc := 95) hx hb dX4_takeCounty_95 ?_
        refine lv_iconst (pc := 96) (v := 2) hx hb dX4_takeCounty_96 (by decide) ?_
        refine lv_iadd (pc := 97) hx hb dX4_takeCounty_97 ?_
        obtain ⟨h27, hf⟩ := gI_e hf
        refine va_iald (pc := 98) (f := M_25 18) (n := 15) hx hb hK.1 hP 9 0 rfl rfl h27 dX4_takeCounty_98 ?_
        refine va_iast (pc := 99) (f := M_25 13) (n := 5) hx hb hK.1 hP hD hS 7 0 rfl rfl h21 dX4_takeCounty_99 (fun H locs hP hD hS => ?_)
        have hP : va_P D vwCl (wM cI oM aM (sB M_25 13 x1_15.toNatClampNeg (M_25 18 (((3 * x1_15) + 2)).toNatClampNeg))) H := hP
        have hD : va_D A (wM cI oM aM (sB M_25 13 x1_15.toNatClampNeg (M_25 18 (((3 * x1_15) + 2)).toNatClampNeg))) := hD
        obtain ⟨M_28, h29, hf⟩ := bd hf
        have h29 := Option.some.inj h29
        rw [h29] at hP hD
        refine lv_iinc (pc := 100) (v := (x1_15 + 1)) (lv' := [(1, .int (x1_15 + 1)), (0, .ref oM)]) hx hb dX4_takeCounty_100 hl (k := 1) rfl rfl (by decide) rfl (fun ls hl => ?_)
        refine lv_goto (pc := 103) (tgt := 46) hx hb dX4_takeCounty_103 (by decide) ?_
        exact hslf _ _ hf ls H locs (lv_sub hl [1, 0] rfl) hP hD hS
  · unfold FX4_takeCounty_10 at hf
    intro ls H locs hl hP hD hS
    refine lv_iload_n (pc := 10) hx hb dX4_takeCounty_10 rfl (lv_at hl 1 rfl) ?_
    refine lv_aload_n (pc := 11) hx hb dX4_takeCounty_11 rfl (lv_at hl 0 rfl) ?_
    obtain ⟨v7, h8, hf⟩ := bd hf
    refine roVi (pc := 12) (As := []) (rest := [.int x1_3]) CF (mtX4_hedges l D cI cZ cQ oM aM M_4 v7 h8) (cwV 0 hts gX4_takeCounty_X4_hedges rfl rfl rfl ⟨rfl, hdX4_hedges⟩ ⟨Nat.le_of_ble_eq_true rfl, Nat.le_of_ble_eq_true rfl⟩) hK hP rfl rfl rfl rfl hl.1 rfl (Nat.le_of_ble_eq_true rfl) dX4_takeCounty_12 ?_
    refine lv_icmp_ge (pc := 15) (tgt := 36) hx hb dX4_takeCounty_15 (by decide) (fun c9 => ?_) (fun c9 => ?_)
    · have hf := iT c9 hf
      exact hkx _ _ hf ls H locs (lv_sub hl [0, 1] rfl) hP hD hS
    · have hf := iF c9 hf
      refine lv_aload_n (pc := 18) hx hb dX4_takeCounty_18 rfl (lv_at hl 0 rfl) ?_
      refine va_get (pc := 19) (D := D) (ci := 4) (v := .ref (aM 10)) (C := RX4) (T := TX4) (N := 29) hx hb hts inX4_takeCounty_X4 hown hK.1 hP 0 rfl rfl 10 (by decide) (hts (.fieldLink RX4 19 "HedgeHolesModel" "greats" "[I") (by decide +kernel)) (fun _ h9 => h9) rfl dX4_takeCounty_19 ?_
      refine lv_iload_n (pc := 22) hx hb dX4_takeCounty_22 rfl (lv_at hl 1 rfl) ?_
      refine lv_aload_n (pc := 23) hx hb dX4_takeCounty_23 rfl (lv_at hl 0 rfl) ?_
      refine va_get (pc := 24) (D := D) (ci := 4) (v := .ref (aM 17)) (C := RX4) (T := TX4) (N := 29) hx hb hts inX4_takeCounty_X4 hown hK.1 hP 0 rfl rfl 17 (by decide) (hts (.fieldLink RX4 31 "HedgeHolesModel" "readHoles" "[I") (by decide +kernel)) (fun _ h9 => h9) rfl dX4_takeCounty_24 ?_
      refine lv_iload_n (pc := 27) hx hb dX4_takeCounty_27 rfl (lv_at hl 1 rfl) ?_
      obtain ⟨h10, hf⟩ := gI_e hf
      refine va_iald (pc := 28) (f := M_4 17) (n := 10) hx hb hK.1 hP 8 0 rfl rfl h10 dX4_takeCounty_28 ?_
      refine va_iast (pc := 29) (f := M_4 10) (n := 10) hx hb hK.1 hP hD hS 4 0 rfl rfl h10 dX4_takeCounty_29 (fun H locs hP hD hS => ?_)
      have hP : va_P D vwCl (wM cI oM aM (sB M_4 10 x1_3.toNatClampNeg (M_4 17 x1_3.toNatClampNeg))) H := hP
      have hD : va_D A (wM cI oM aM (sB M_4 10 x1_3.toNatClampNeg (M_4 17 x1_3.toNatClampNeg))) := hD
      obtain ⟨M_11, h12, hf⟩ := bd hf
      have h12 := Option.some.inj h12
      rw [h12] at hP hD
      refine lv_iinc (pc := 30) (v := (x1_3 + 1)) (lv' := [(1, .int (x1_3 + 1)), (0, .ref oM)]) hx hb dX4_takeCounty_30 hl (k := 1) rfl rfl (by decide) rfl (fun ls hl => ?_)
      refine lv_goto (pc := 33) (tgt := 10) hx hb dX4_takeCounty_33 (by decide) ?_
      exact hslf _ _ hf ls H locs (lv_sub hl [1, 0] rfl) hP hD hS
theorem hdX4_takeCounty : yX4_takeCounty.cls ≠ "java/lang/invoke/MethodHandle" ∧ yX4_takeCounty.cls ≠ "java/lang/invoke/VarHandle" ∧ (parseMethodDescriptor yX4_takeCounty.desc).map (fun d => d.parameters.length) = some 0 := by decide +kernel
abbrev rmX4_county : Room := { frames := 4, cells := 0, slots := 0, locals := 90 }
theorem inX4_county_X4 : ∀ w ∈ wsX40, w ∈ wsX4_county := fun _ h => List.mem_cons_of_mem _ (List.mem_append_right _ h)
set_option maxHeartbeats 4000000 in
set_option maxRecDepth 100000 in
theorem mtX4_county (l : Launch) (D : va_G) (cI cZ cQ : ClassId) (oM : Nat) (aM : Nat → Nat) (M : Bk) (p0 : Int32) (p1 : Int32) (p2 : Int32) (p3 : Int32) (sz : Nat) (out : (Int32 × Bk)) (hf : fX4_county M p0 p1 p2 p3 = some out) : Met l yX4_county wsX4_county rmX4_county (WrP D cI cZ cQ [.ref oM, .int p0, .int p1, .int p2, .int p3] (wM cI oM aM M) sz) (WrQi D out.1 (wM cI oM aM M) (wM cI oM aM out.2) sz) 0 0 (va_A (wM cI oM aM M) sz) := by
  refine metWi (ty := .int) (cc := cX4_county) (maxL := 7) (by decide) rfl (Nat.le_of_ble_eq_true rfl) ?_
  intro p e s m args below meth c Q A CF hK hP hD hA hRet ls hl
  obtain ⟨hx, hb, hml, hown, hts⟩ := id CF
  have hS : va_S A s.heap s.heap [] := va_S.rf
  have hl : lv_has ls 7 [(0, .ref oM), (1, .int p0), (2, .int p1), (3, .int p2), (4, .int p3)] := hl
  unfold fX4_county at hf
  refine lv_aload_n (pc := 0) hx hb dX4_county_0 rfl (lv_at hl 0 rfl) ?_
  refine lv_iconst (pc := 1) (v := 0) hx hb dX4_county_1 (by decide) ?_
  refine va_put (pc := 2) (D := D) (ci := 4) (v := .int 0) (ty := .int) (C := RX4) (T := TX4) (N := 29) hx hb hts inX4_county_X4 tyX4 tyX4_ok nmX4 hown hK.1 hP hD hS 0 rfl rfl 0 (by decide) (hts (.fieldLink RX4 58 "HedgeHolesModel" "fault" "I") (by decide +kernel)) (fun _ h9 => h9) rfl (by decide +kernel) (vp_nar_int _) rfl (Nat.le_of_ble_eq_true rfl) dX4_county_2 (fun H locs hP hD hS => ?_)
  have hP : va_P D vwCl (wM cI oM aM (sB M 0 0 0)) H := hP
  have hD : va_D A (wM cI oM aM (sB M 0 0 0)) := hD
  obtain ⟨M_1, h2, hf⟩ := bd hf
  have h2 := Option.some.inj h2
  rw [h2] at hP hD
  refine lv_iload_n (pc := 5) hx hb dX4_county_5 rfl (lv_at hl 1 rfl) ?_
  obtain ⟨v3, h4, hf⟩ := bd hf
  refine roSi (pc := 6) (As := [.int p0]) (rest := []) CF (mtX4_isSheet l D cI cZ cQ p0 v3 h4) (va_cwS 1 hts gX4_county_X4_isSheet rfl rfl rfl hdX4_isSheet ⟨Nat.le_of_ble_eq_true rfl, Nat.le_of_ble_eq_true rfl⟩) hK P0 rfl hl.1 rfl (Nat.le_of_ble_eq_true rfl) dX4_county_6 ?_
  refine lv_if_ne (pc := 9) (tgt := 14) hx hb dX4_county_9 (by decide) (fun c5 => ?_) (fun c5 => ?_)
  · have hf := iF c5 hf
    refine lv_iload_n (pc := 14) hx hb dX4_county_14 rfl (lv_at hl 2 rfl) ?_
    obtain ⟨v6, h7, hf⟩ := bd hf
    refine roSi (pc := 15) (As := [.int p1]) (rest := []) CF (mtX4_isSort l D cI cZ cQ p1 v6 h7) (va_cwS 1 hts gX4_county_X4_isSort rfl rfl rfl hdX4_isSort ⟨Nat.le_of_ble_eq_true rfl, Nat.le_of_ble_eq_true rfl⟩) hK P0 rfl hl.1 rfl (Nat.le_of_ble_eq_true rfl) dX4_county_15 ?_
    refine lv_if_ne (pc := 18) (tgt := 24) hx hb dX4_county_18 (by decide) (fun c8 => ?_) (fun c8 => ?_)
    · have hf := iF c8 hf
      refine lv_aload_n (pc := 24) hx hb dX4_county_24 rfl (lv_at hl 0 rfl) ?_
      refine lv_iload_n (pc := 25) hx hb dX4_county_25 rfl (lv_at hl 1 rfl) ?_
      refine lv_iload_n (pc := 26) hx hb dX4_county_26 rfl (lv_at hl 2 rfl) ?_
      refine lv_iload_n (pc := 27) hx hb dX4_county_27 rfl (lv_at hl 3 rfl) ?_
      refine lv_iload (pc := 28) hx hb dX4_county_28 (lv_at hl 4 rfl) ?_
      obtain ⟨v9, h10, hf⟩ := bd hf
      refine roVi (pc := 30) (As := [.int p0, .int p1, .int p2, .int p3]) (rest := []) CF (mtX4_against l D cI cZ cQ oM aM M_1 p0 p1 p2 p3 v9 h10) (cwV 4 hts gX4_county_X4_against rfl rfl rfl ⟨rfl, hdX4_against⟩ ⟨Nat.le_of_ble_eq_true rfl, Nat.le_of_ble_eq_true rfl⟩) hK hP rfl rfl rfl rfl hl.1 rfl (Nat.le_of_ble_eq_true rfl) dX4_county_30 ?_
      refine lv_istore (pc := 33) (lv' := [(5, .int v9), (0, .ref oM), (1, .int p0), (2, .int p1), (3, .int p2), (4, .int p3)]) hx hb dX4_county_33 hl (by decide) rfl (fun ls hl => ?_)
      refine lv_iload (pc := 35) hx hb dX4_county_35 (lv_at hl 0 rfl) ?_
      refine lv_if_eq (pc := 37) (tgt := 47) hx hb dX4_county_37 (by decide) (fun c11 => ?_) (fun c11 => ?_)
      · have hf := iT c11 hf
        refine lv_bipush (pc := 47) (v := 60) hx hb dX4_county_47 (by decide) ?_
        refine lv_iload_n (pc := 49) hx hb dX4_county_49 rfl (lv_at hl 2 rfl) ?_
        refine lv_imul (pc := 50) hx hb dX4_county_50 ?_
        refine lv_iload_n (pc := 51) hx hb dX4_county_51 rfl (lv_at hl 4 rfl) ?_
        refine lv_iadd (pc := 52) hx hb dX4_county_52 ?_
        refine lv_istore (pc := 53) (lv' := [(6, .int ((60 * p0) + p2)), (5, .int v9), (0, .ref oM), (1, .int p0), (2, .int p1), (3, .int p2), (4, .int p3)]) hx hb dX4_county_53 hl (by decide) rfl (fun ls hl => ?_)
        refine lv_aload_n (pc := 55) hx hb dX4_county_55 rfl (lv_at hl 2 rfl) ?_
        refine lv_iload (pc := 56) hx hb dX4_county_56 (lv_at hl 0 rfl) ?_
        refine va_put (pc := 58) (D := D) (ci := 4) (v := .int ((60 * p0) + p2)) (ty := .int) (C := RX4) (T := TX4) (N := 29) hx hb hts inX4_county_X4 tyX4 tyX4_ok nmX4 hown hK.1 hP hD hS 0 rfl rfl 14 (by decide) (hts (.fieldLink RX4 82 "HedgeHolesModel" "at" "I") (by decide +kernel)) (fun _ h9 => h9) rfl (by decide +kernel) (vp_nar_int _) rfl (Nat.le_of_ble_eq_true rfl) dX4_county_58 (fun H locs hP hD hS => ?_)
        have hP : va_P D vwCl (wM cI oM aM (sB M_1 14 0 ((60 * p0) + p2))) H := hP
        have hD : va_D A (wM cI oM aM (sB M_1 14 0 ((60 * p0) + p2))) := hD
        obtain ⟨M_12, h13, hf⟩ := bd hf
        have h13 := Option.some.inj h13
        rw [h13] at hP hD
        refine lv_aload_n (pc := 61) hx hb dX4_county_61 rfl (lv_at hl 2 rfl) ?_
        refine lv_iload (pc := 62) hx hb dX4_county_62 (lv_at hl 0 rfl) ?_
        refine lv_iload (pc := 64) hx hb dX4_county_64 (lv_at hl 6 rfl) ?_
        refine lv_iadd (pc := 66) hx hb dX4_county_66 ?_
        obtain ⟨v14, h15, hf⟩ := bd hf
        refine wsVi (pc := 67) (As := [.int (((60 * p0) + p2) + p3)]) (rest := []) (w1 := wM cI oM aM v14.2) CF (mtX4_readCounty l D cI cZ cQ oM aM M_12 (((60 * p0) + p2) + p3) H.size v14 h15) (cwV 1 hts gX4_county_X4_readCounty rfl rfl rfl ⟨rfl, hdX4_readCounty⟩ ⟨Nat.le_of_ble_eq_true rfl, Nat.le_of_ble_eq_true rfl⟩) hK hP hD hS hA rfl rfl rfl rfl rfl hl.1 rfl (Nat.le_of_ble_eq_true rfl) dX4_county_67 (fun H locs hP hD hS => ?_)
        refine lv_if_ne (pc := 70) (tgt := 84) hx hb dX4_county_70 (by decide) (fun c16 => ?_) (fun c16 => ?_)
        · have hf := iF c16 hf
          refine lv_aload_n (pc := 84) hx hb dX4_county_84 rfl (lv_at hl 2 rfl) ?_
          obtain ⟨v17, h18, hf⟩ := bd hf
          refine wsVv (pc := 85) (As := []) (rest := []) (w1 := wM cI oM aM v17) CF (mtX4_takeCounty l D cI cZ cQ oM aM v14.2 H.size v17 h18) (cwV 0 hts gX4_county_X4_takeCounty rfl rfl rfl ⟨rfl, hdX4_takeCounty⟩ ⟨Nat.le_of_ble_eq_true rfl, Nat.le_of_ble_eq_true rfl⟩) hK hP hD hS hA rfl rfl rfl rfl rfl hl.1 rfl (Nat.le_of_ble_eq_true rfl) dX4_county_85 (fun H locs hP hD hS => ?_)
          refine lv_aload_n (pc := 88) hx hb dX4_county_88 rfl (lv_at hl 2 rfl) ?_
          refine va_get (pc := 89) (D := D) (ci := 4) (v := .int (v17 6 0)) (C := RX4) (T := TX4) (N := 29) hx hb hts inX4_county_X4 hown hK.1 hP 0 rfl rfl 6 (by decide) (hts (.fieldLink RX4 75 "HedgeHolesModel" "goers" "I") (by decide +kernel)) (fun _ h9 => h9) rfl dX4_county_89 ?_
          obtain rfl := Option.some.inj hf
          exact hRet 92 ls H locs (vp_nar_int _) dX4_county_92 hP hS
        · have hf := iT c16 hf
          refine lv_bipush (pc := 73) (v := (-100)) hx hb dX4_county_73 (by decide) ?_
          refine lv_aload_n (pc := 75) hx hb dX4_county_75 rfl (lv_at hl 2 rfl) ?_
          refine va_get (pc := 76) (D := D) (ci := 4) (v := .int (v14.2 14 0)) (C := RX4) (T := TX4) (N := 29) hx hb hts inX4_county_X4 hown hK.1 hP 0 rfl rfl 14 (by decide) (hts (.fieldLink RX4 82 "HedgeHolesModel" "at" "I") (by decide +kernel)) (fun _ h9 => h9) rfl dX4_county_76 ?_
          refine lv_iload (pc := 79) hx hb dX4_county_79 (lv_at hl 0 rfl) ?_
          refine lv_isub (pc := 81) hx hb dX4_county_81 ?_
          refine lv_isub (pc := 82) hx hb dX4_county_82 ?_
          obtain rfl := Option.some.inj hf
          exact hRet 83 ls H locs (vp_nar_int _) dX4_county_83 hP hS
      · have hf := iF c11 hf
        refine lv_aload_n (pc := 40) hx hb dX4_county_40 rfl (lv_at hl 1 rfl) ?_
        refine lv_iload (pc := 41) hx hb dX4_county_41 (lv_at hl 0 rfl) ?_
        obtain ⟨v19, h20, hf⟩ := bd hf
        refine wsVi (pc := 43) (As := [.int v9]) (rest := []) (w1 := wM cI oM aM v19.2) CF (mtX4_fails l D cI cZ cQ oM aM M_1 v9 H.size v19 h20) (cwV 1 hts gX4_county_X4_fails rfl rfl rfl ⟨rfl, hdX4_fails⟩ ⟨Nat.le_of_ble_eq_true rfl, Nat.le_of_ble_eq_true rfl⟩) hK hP hD hS hA rfl rfl rfl rfl rfl hl.1 rfl (Nat.le_of_ble_eq_true rfl) dX4_county_43 (fun H locs hP hD hS => ?_)
        obtain rfl := Option.some.inj hf
        exact hRet 46 ls H locs (vp_nar_int _) dX4_county_46 hP hS
    · have hf := iT c8 hf
      refine lv_bipush (pc := 21) (v := (-2)) hx hb dX4_county_21 (by decide) ?_
      obtain rfl := Option.some.inj hf
      exact hRet 23 ls H locs (vp_nar_int _) dX4_county_23 hP hS
  · have hf := iT c5 hf
    refine lv_iconst (pc := 12) (v := (-1)) hx hb dX4_county_12 (by decide) ?_
    obtain rfl := Option.some.inj hf
    exact hRet 13 ls H locs (vp_nar_int _) dX4_county_13 hP hS
theorem hdX4_county : yX4_county.cls ≠ "java/lang/invoke/MethodHandle" ∧ yX4_county.cls ≠ "java/lang/invoke/VarHandle" ∧ (parseMethodDescriptor yX4_county.desc).map (fun d => d.parameters.length) = some 4 := by decide +kernel
abbrev rmX4_thickOf : Room := { frames := 0, cells := 0, slots := 0, locals := 0 }
theorem inX4_thickOf_X4 : ∀ w ∈ wsX40, w ∈ wsX4_thickOf := fun _ h => List.mem_cons_of_mem _ (List.mem_append_right _ h)
set_option maxHeartbeats 4000000 in
set_option maxRecDepth 100000 in
theorem mtX4_thickOf (l : Launch) (D : va_G) (cI cZ cQ : ClassId) (oM : Nat) (aM : Nat → Nat) (M : Bk) (p0 : Int32) (out : Int32) (hf : fX4_thickOf M p0 = some out) : Met l yX4_thickOf wsX4_thickOf rmX4_thickOf (RoP D cI cZ cQ [.ref oM, .int p0] (wM cI oM aM M)) (vp_Si (fun r' => r' = out)) 0 0 (fun _ => False) := by
  refine metRi (ty := .int) (cc := cX4_thickOf) (maxL := 2) (by decide) rfl (Nat.le_of_ble_eq_true rfl) ?_
  intro p e s m args below meth c Q CF hK hP hRet ls hl
  obtain ⟨hx, hb, hml, hown, hts⟩ := id CF
  have hl : lv_has ls 2 [(0, .ref oM), (1, .int p0)] := hl
  unfold fX4_thickOf at hf
  refine lv_aload_n (pc := 0) hx hb dX4_thickOf_0 rfl (lv_at hl 0 rfl) ?_
  refine va_get (pc := 1) (D := D) (ci := 4) (v := .ref (aM 11)) (C := RX4) (T := TX4) (N := 29) hx hb hts inX4_thickOf_X4 hown hK.1 hP 0 rfl rfl 11 (by decide) (hts (.fieldLink RX4 22 "HedgeHolesModel" "kind" "[I") (by decide +kernel)) (fun _ h9 => h9) rfl dX4_thickOf_1 ?_
  refine lv_iload_n (pc := 4) hx hb dX4_thickOf_4 rfl (lv_at hl 1 rfl) ?_
  obtain ⟨h1, hf⟩ := gI_e hf
  refine va_iald (pc := 5) (f := M 11) (n := 5) hx hb hK.1 hP 5 0 rfl rfl h1 dX4_thickOf_5 ?_
  refine lv_if_ne (pc := 6) (tgt := 18) hx hb dX4_thickOf_6 (by decide) (fun c2 => ?_) (fun c2 => ?_)
  · have hf := iF c2 hf
    refine lv_aload_n (pc := 18) hx hb dX4_thickOf_18 rfl (lv_at hl 0 rfl) ?_
    refine va_get (pc := 19) (D := D) (ci := 4) (v := .ref (aM 11)) (C := RX4) (T := TX4) (N := 29) hx hb hts inX4_thickOf_X4 hown hK.1 hP 0 rfl rfl 11 (by decide) (hts (.fieldLink RX4 22 "HedgeHolesModel" "kind" "[I") (by decide +kernel)) (fun _ h9 => h9) rfl dX4_thickOf_19 ?_
    refine lv_iload_n (pc := 22) hx hb dX4_thickOf_22 rfl (lv_at hl 1 rfl) ?_
    refine va_iald (pc := 23) (f := M 11) (n := 5) hx hb hK.1 hP 5 0 rfl rfl h1 dX4_thickOf_23 ?_
    refine lv_iconst (pc := 24) (v := 1) hx hb dX4_thickOf_24 (by decide) ?_
    refine lv_icmp_ne (pc := 25) (tgt := 39) hx hb dX4_thickOf_25 (by decide) (fun c3 => ?_) (fun c3 => ?_)
    · have hf := iF c3 hf
      refine lv_aload_n (pc := 39) hx hb dX4_thickOf_39 rfl (lv_at hl 0 rfl) ?_
      refine va_get (pc := 40) (D := D) (ci := 4) (v := .ref (aM 12)) (C := RX4) (T := TX4) (N := 29) hx hb hts inX4_thickOf_X4 hown hK.1 hP 0 rfl rfl 12 (by decide) (hts (.fieldLink RX4 25 "HedgeHolesModel" "girth" "[I") (by decide +kernel)) (fun _ h9 => h9) rfl dX4_thickOf_40 ?_
      refine lv_iload_n (pc := 43) hx hb dX4_thickOf_43 rfl (lv_at hl 1 rfl) ?_
      refine va_iald (pc := 44) (f := M 12) (n := 5) hx hb hK.1 hP 6 0 rfl rfl h1 dX4_thickOf_44 ?_
      refine lv_iconst (pc := 45) (v := 2) hx hb dX4_thickOf_45 (by decide) ?_
      refine lv_idiv (pc := 46) hx hb dX4_thickOf_46 (by decide) ?_
      obtain rfl := Option.some.inj hf
      exact hRet 47 ls (vp_nar_int _) dX4_thickOf_47
    · have hf := iT c3 hf
      refine lv_aload_n (pc := 28) hx hb dX4_thickOf_28 rfl (lv_at hl 0 rfl) ?_
      refine va_get (pc := 29) (D := D) (ci := 4) (v := .ref (aM 12)) (C := RX4) (T := TX4) (N := 29) hx hb hts inX4_thickOf_X4 hown hK.1 hP 0 rfl rfl 12 (by decide) (hts (.fieldLink RX4 25 "HedgeHolesModel" "girth" "[I") (by decide +kernel)) (fun _ h9 => h9) rfl dX4_thickOf_29 ?_
      refine lv_iload_n (pc := 32) hx hb dX4_thickOf_32 rfl (lv_at hl 1 rfl) ?_
      refine va_iald (pc := 33) (f := M 12) (n := 5) hx hb hK.1 hP 6 0 rfl rfl h1 dX4_thickOf_33 ?_
      refine lv_iconst (pc := 34) (v := 1) hx hb dX4_thickOf_34 (by decide) ?_
      refine lv_isub (pc := 35) hx hb dX4_thickOf_35 ?_
      refine lv_goto (pc := 36) (tgt := 47) hx hb dX4_thickOf_36 (by decide) ?_
      obtain rfl := Option.some.inj hf
      exact hRet 47 ls (vp_nar_int _) dX4_thickOf_47
  · have hf := iT c2 hf
    refine lv_aload_n (pc := 9) hx hb dX4_thickOf_9 rfl (lv_at hl 0 rfl) ?_
    refine va_get (pc := 10) (D := D) (ci := 4) (v := .ref (aM 12)) (C := RX4) (T := TX4) (N := 29) hx hb hts inX4_thickOf_X4 hown hK.1 hP 0 rfl rfl 12 (by decide) (hts (.fieldLink RX4 25 "HedgeHolesModel" "girth" "[I") (by decide +kernel)) (fun _ h9 => h9) rfl dX4_thickOf_10 ?_
    refine lv_iload_n (pc := 13) hx hb dX4_thickOf_13 rfl (lv_at hl 1 rfl) ?_
    refine va_iald (pc := 14) (f := M 12) (n := 5) hx hb hK.1 hP 6 0 rfl rfl h1 dX4_thickOf_14 ?_
    refine lv_goto (pc := 15) (tgt := 47) hx hb dX4_thickOf_15 (by decide) ?_
    obtain rfl := Option.some.inj hf
    exact hRet 47 ls (vp_nar_int _) dX4_thickOf_47
theorem hdX4_thickOf : yX4_thickOf.cls ≠ "java/lang/invoke/MethodHandle" ∧ yX4_thickOf.cls ≠ "java/lang/invoke/VarHandle" ∧ (parseMethodDescriptor yX4_thickOf.desc).map (fun d => d.parameters.length) = some 1 := by decide +kernel
abbrev rmX4_fitsHole : Room := { frames := 1, cells := 0, slots := 0, locals := 21 }
theorem inX4_fitsHole_X4 : ∀ w ∈ wsX40, w ∈ wsX4_fitsHole := fun _ h => List.mem_cons_of_mem _ (List.mem_append_right _ h)
set_option maxHeartbeats 4000000 in
set_option maxRecDepth 100000 in
theorem mtX4_fitsHole (l : Launch) (D : va_G) (cI cZ cQ : ClassId) (oM : Nat) (aM : Nat → Nat) (M : Bk) (p0 : Int32) (p1 : Int32) (out : Int32) (hf : fX4_fitsHole M p0 p1 = some out) : Met l yX4_fitsHole wsX4_fitsHole rmX4_fitsHole (RoP D cI cZ cQ [.ref oM, .int p0, .int p1] (wM cI oM aM M)) (vp_Si (fun r' => r' = out)) 0 0 (fun _ => False) := by
  refine metRi (ty := .boolean) (cc := cX4_fitsHole) (maxL := 3) (by decide) rfl (Nat.le_of_ble_eq_true rfl) ?_
  intro p e s m args below meth c Q CF hK hP hRet ls hl
  obtain ⟨hx, hb, hml, hown, hts⟩ := id CF
  have hl : lv_has ls 3 [(0, .ref oM), (1, .int p0), (2, .int p1)] := hl
  unfold fX4_fitsHole at hf
  refine lv_aload_n (pc := 0) hx hb dX4_fitsHole_0 rfl (lv_at hl 0 rfl) ?_
  refine va_get (pc := 1) (D := D) (ci := 4) (v := .ref (aM 10)) (C := RX4) (T := TX4) (N := 29) hx hb hts inX4_fitsHole_X4 hown hK.1 hP 0 rfl rfl 10 (by decide) (hts (.fieldLink RX4 19 "HedgeHolesModel" "greats" "[I") (by decide +kernel)) (fun _ h9 => h9) rfl dX4_fitsHole_1 ?_
  refine lv_iload_n (pc := 4) hx hb dX4_fitsHole_4 rfl (lv_at hl 2 rfl) ?_
  obtain ⟨h1, hf⟩ := gI_e hf
  refine va_iald (pc := 5) (f := M 10) (n := 10) hx hb hK.1 hP 4 0 rfl rfl h1 dX4_fitsHole_5 ?_
  refine lv_if_le (pc := 6) (tgt := 27) hx hb dX4_fitsHole_6 (by decide) (fun c2 => ?_) (fun c2 => ?_)
  · have hf := iT c2 hf
    refine lv_iconst (pc := 27) (v := 0) hx hb dX4_fitsHole_27 (by decide) ?_
    obtain rfl := Option.some.inj hf
    exact hRet 28 ls (nzB (Or.inl rfl)) dX4_fitsHole_28
  · have hf := iF c2 hf
    refine lv_aload_n (pc := 9) hx hb dX4_fitsHole_9 rfl (lv_at hl 0 rfl) ?_
    refine va_get (pc := 10) (D := D) (ci := 4) (v := .ref (aM 10)) (C := RX4) (T := TX4) (N := 29) hx hb hts inX4_fitsHole_X4 hown hK.1 hP 0 rfl rfl 10 (by decide) (hts (.fieldLink RX4 19 "HedgeHolesModel" "greats" "[I") (by decide +kernel)) (fun _ h9 => h9) rfl dX4_fitsHole_10 ?_
    refine lv_iload_n (pc := 13) hx hb dX4_fitsHole_13 rfl (lv_at hl 2 rfl) ?_
    refine va_iald (pc := 14) (f := M 10) (n := 10) hx hb hK.1 hP 4 0 rfl rfl h1 dX4_fitsHole_14 ?_
    refine lv_aload_n (pc := 15) hx hb dX4_fitsHole_15 rfl (lv_at hl 0 rfl) ?_
    refine lv_iload_n (pc := 16) hx hb dX4_fitsHole_16 rfl (lv_at hl 1 rfl) ?_
    obtain ⟨v3, h4, hf⟩ := bd hf
    refine roVi (pc := 17) (As := [.int p0]) (rest := [.int (M 10 p1.toNatClampNeg)]) CF (mtX4_thickOf l D cI cZ cQ oM aM M p0 v3 h4) (cwV 1 hts gX4_fitsHole_X4_thickOf rfl rfl rfl ⟨rfl, hdX4_thickOf⟩ ⟨Nat.le_of_ble_eq_true rfl, Nat.le_of_ble_eq_true rfl⟩) hK hP rfl rfl rfl rfl hl.1 rfl (Nat.le_of_ble_eq_true rfl) dX4_fitsHole_17 ?_
    refine lv_icmp_lt (pc := 20) (tgt := 27) hx hb dX4_fitsHole_20 (by decide) (fun c5 => ?_) (fun c5 => ?_)
    · have hf := iT c5 hf
      refine lv_iconst (pc := 27) (v := 0) hx hb dX4_fitsHole_27 (by decide) ?_
      obtain rfl := Option.some.inj hf
      exact hRet 28 ls (nzB (Or.inl rfl)) dX4_fitsHole_28
    · have hf := iF c5 hf
      refine lv_iconst (pc := 23) (v := 1) hx hb dX4_fitsHole_23 (by decide) ?_
      refine lv_goto (pc := 24) (tgt := 28) hx hb dX4_fitsHole_24 (by decide) ?_
      obtain rfl := Option.some.inj hf
      exact hRet 28 ls (nzB (Or.inr rfl)) dX4_fitsHole_28
theorem hdX4_fitsHole : yX4_fitsHole.cls ≠ "java/lang/invoke/MethodHandle" ∧ yX4_fitsHole.cls ≠ "java/lang/invoke/VarHandle" ∧ (parseMethodDescriptor yX4_fitsHole.desc).map (fun d => d.parameters.length) = some 2 := by decide +kernel
abbrev rmX4_ofGoer : Room := { frames := 1, cells := 0, slots := 0, locals := 21 }
theorem inX4_ofGoer_X4 : ∀ w ∈ wsX40, w ∈ wsX4_ofGoer := fun _ h => List.mem_cons_of_mem _ (List.mem_append_right _ h)
set_option maxHeartbeats 4000000 in
set_option maxRecDepth 100000 in
theorem mtX4_ofGoer (l : Launch) (D : va_G) (cI cZ cQ : ClassId) (oM : Nat) (aM : Nat → Nat) (M : Bk) (p0 : Int32) (p1 : Int32) (out : Int32) (hf : fX4_ofGoer M p0 p1 = some out) : Met l yX4_ofGoer wsX4_ofGoer rmX4_ofGoer (RoP D cI cZ cQ [.ref oM, .int p0, .int p1] (wM cI oM aM M)) (vp_Si (fun r' => r' = out)) 0 0 (fun _ => False) := by
  refine metRi (ty := .int) (cc := cX4_ofGoer) (maxL := 3) (by decide) rfl (Nat.le_of_ble_eq_true rfl) ?_
  intro p e s m args below meth c Q CF hK hP hRet ls hl
  obtain ⟨hx, hb, hml, hown, hts⟩ := id CF
  have hl : lv_has ls 3 [(0, .ref oM), (1, .int p0), (2, .int p1)] := hl
  unfold fX4_ofGoer at hf
  refine lv_aload_n (pc := 0) hx hb dX4_ofGoer_0 rfl (lv_at hl 0 rfl) ?_
  refine lv_iload_n (pc := 1) hx hb dX4_ofGoer_1 rfl (lv_at hl 1 rfl) ?_
  obtain ⟨v1, h2, hf⟩ := bd hf
  refine roVi (pc := 2) (As := [.int p0]) (rest := []) CF (mtX4_isGoer l D cI cZ cQ oM aM M p0 v1 h2) (cwV 1 hts gX4_ofGoer_X4_isGoer rfl rfl rfl ⟨rfl, hdX4_isGoer⟩ ⟨Nat.le_of_ble_eq_true rfl, Nat.le_of_ble_eq_true rfl⟩) hK hP rfl rfl rfl rfl hl.1 rfl (Nat.le_of_ble_eq_true rfl) dX4_ofGoer_2 ?_
  refine lv_if_ne (pc := 5) (tgt := 10) hx hb dX4_ofGoer_5 (by decide) (fun c3 => ?_) (fun c3 => ?_)
  · have hf := iF c3 hf
    refine lv_iload_n (pc := 10) hx hb dX4_ofGoer_10 rfl (lv_at hl 2 rfl) ?_
    by_cases c4 : p1 = 0
    · have hf := iT c4 hf
      refine lv_tableIn (pc := 11) (tgt := 40) (off := 29) hx hb dX4_ofGoer_11 (by rw [c4]; decide) (by rw [c4]; decide) (by rw [c4]; rfl) (by decide) ?_
      refine lv_aload_n (pc := 40) hx hb dX4_ofGoer_40 rfl (lv_at hl 0 rfl) ?_
      refine va_get (pc := 41) (D := D) (ci := 4) (v := .ref (aM 11)) (C := RX4) (T := TX4) (N := 29) hx hb hts inX4_ofGoer_X4 hown hK.1 hP 0 rfl rfl 11 (by decide) (hts (.fieldLink RX4 22 "HedgeHolesModel" "kind" "[I") (by decide +kernel)) (fun _ h9 => h9) rfl dX4_ofGoer_41 ?_
      refine lv_iload_n (pc := 44) hx hb dX4_ofGoer_44 rfl (lv_at hl 1 rfl) ?_
      obtain ⟨h5, hf⟩ := gI_e hf
      refine va_iald (pc := 45) (f := M 11) (n := 5) hx hb hK.1 hP 5 0 rfl rfl h5 dX4_ofGoer_45 ?_
      obtain rfl := Option.some.inj hf
      exact hRet 46 ls (vp_nar_int _) dX4_ofGoer_46
    · have hf := iF c4 hf
      by_cases c6 : p1 = 1
      · have hf := iT c6 hf
        refine lv_tableIn (pc := 11) (tgt := 47) (off := 36) hx hb dX4_ofGoer_11 (by rw [c6]; decide) (by rw [c6]; decide) (by rw [c6]; rfl) (by decide) ?_
        refine lv_aload_n (pc := 47) hx hb dX4_ofGoer_47 rfl (lv_at hl 0 rfl) ?_
        refine va_get (pc := 48) (D := D) (ci := 4) (v := .ref (aM 12)) (C := RX4) (T := TX4) (N := 29) hx hb hts inX4_ofGoer_X4 hown hK.1 hP 0 rfl rfl 12 (by decide) (hts (.fieldLink RX4 25 "HedgeHolesModel" "girth" "[I") (by decide +kernel)) (fun _ h9 => h9) rfl dX4_ofGoer_48 ?_
        refine lv_iload_n (pc := 51) hx hb dX4_ofGoer_51 rfl (lv_at hl 1 rfl) ?_
        obtain ⟨h7, hf⟩ := gI_e hf
        refine va_iald (pc := 52) (f := M 12) (n := 5) hx hb hK.1 hP 6 0 rfl rfl h7 dX4_ofGoer_52 ?_
        obtain rfl := Option.some.inj hf
        exact hRet 53 ls (vp_nar_int _) dX4_ofGoer_53
      · have hf := iF c6 hf
        by_cases c8 : p1 = 2
        · have hf := iT c8 hf
          refine lv_tableIn (pc := 11) (tgt := 54) (off := 43) hx hb dX4_ofGoer_11 (by rw [c8]; decide) (by rw [c8]; decide) (by rw [c8]; rfl) (by decide) ?_
          refine lv_aload_n (pc := 54) hx hb dX4_ofGoer_54 rfl (lv_at hl 0 rfl) ?_
          refine lv_iload_n (pc := 55) hx hb dX4_ofGoer_55 rfl (lv_at hl 1 rfl) ?_
          obtain ⟨v9, h10, hf⟩ := bd hf
          refine roVi (pc := 56) (As := [.int p0]) (rest := []) CF (mtX4_thickOf l D cI cZ cQ oM aM M p0 v9 h10) (cwV 1 hts gX4_ofGoer_X4_thickOf rfl rfl rfl ⟨rfl, hdX4_thickOf⟩ ⟨Nat.le_of_ble_eq_true rfl, Nat.le_of_ble_eq_true rfl⟩) hK hP rfl rfl rfl rfl hl.1 rfl (Nat.le_of_ble_eq_true rfl) dX4_ofGoer_56 ?_
          obtain rfl := Option.some.inj hf
          exact hRet 59 ls (vp_nar_int _) dX4_ofGoer_59
        · have hf := iF c8 hf
          by_cases c11 : p1 = 3
          · have hf := iT c11 hf
            refine lv_tableIn (pc := 11) (tgt := 60) (off := 49) hx hb dX4_ofGoer_11 (by rw [c11]; decide) (by rw [c11]; decide) (by rw [c11]; rfl) (by decide) ?_
            refine lv_aload_n (pc := 60) hx hb dX4_ofGoer_60 rfl (lv_at hl 0 rfl) ?_
            refine va_get (pc := 61) (D := D) (ci := 4) (v := .ref (aM 13)) (C := RX4) (T := TX4) (N := 29) hx hb hts inX4_ofGoer_X4 hown hK.1 hP 0 rfl rfl 13 (by decide) (hts (.fieldLink RX4 28 "HedgeHolesModel" "field" "[I") (by decide +kernel)) (fun _ h9 => h9) rfl dX4_ofGoer_61 ?_
            refine lv_iload_n (pc := 64) hx hb dX4_ofGoer_64 rfl (lv_at hl 1 rfl) ?_
            obtain ⟨h12, hf⟩ := gI_e hf
            refine va_iald (pc := 65) (f := M 13) (n := 5) hx hb hK.1 hP 7 0 rfl rfl h12 dX4_ofGoer_65 ?_
            obtain rfl := Option.some.inj hf
            exact hRet 66 ls (vp_nar_int _) dX4_ofGoer_66
          · have hf := iF c11 hf
            refine lv_tableOut (pc := 11) (tgt := 67) hx hb dX4_ofGoer_11 (by have e0 := lv_neT (a := 0) c4 rfl; have e1 := lv_neT (a := 1) c6 rfl; have e2 := lv_neT (a := 2) c8 rfl; have e3 := lv_neT (a := 3) c11 rfl; omega) (by decide) ?_
            refine lv_bipush (pc := 67) (v := (-2)) hx hb dX4_ofGoer_67 (by decide) ?_
            obtain rfl := Option.some.inj hf
            exact hRet 69 ls (vp_nar_int _) dX4_ofGoer_69
  · have hf := iT c3 hf
    refine lv_iconst (pc := 8) (v := (-1)) hx hb dX4_ofGoer_8 (by decide) ?_
    obtain rfl := Option.some.inj hf
    exact hRet 9 ls (vp_nar_int _) dX4_ofGoer_9
theorem hdX4_ofGoer : yX4_ofGoer.cls ≠ "java/lang/invoke/MethodHandle" ∧ yX4_ofGoer.cls ≠ "java/lang/invoke/VarHandle" ∧ (parseMethodDescriptor yX4_ofGoer.desc).map (fun d => d.parameters.length) = some 2 := by decide +kernel
abbrev rmX4_hole : Room := { frames := 2, cells := 0, slots := 0, locals := 43 }
theorem inX4_hole_X4 : ∀ w ∈ wsX40, w ∈ wsX4_hole := fun _ h => List.mem_cons_of_mem _ (List.mem_append_right _ h)
set_option maxHeartbeats 4000000 in
set_option maxRecDepth 100000 in
theorem mtX4_hole (l : Launch) (D : va_G) (cI cZ cQ : ClassId) (oM : Nat) (aM : Nat → Nat) (M : Bk) (p0 : Int32) (p1 : Int32) (p2 : Int32) (out : Int32) (hf : fX4_hole M p0 p1 p2 = some out) : Met l yX4_hole wsX4_hole rmX4_hole (RoP D cI cZ cQ [.ref oM, .int p0, .int p1, .int p2] (wM cI oM aM M)) (vp_Si (fun r' => r' = out)) 0 0 (fun _ => False) := by
  refine metRi (ty := .int) (cc := cX4_hole) (maxL := 5) (by decide) rfl (Nat.le_of_ble_eq_true rfl) ?_
  intro p e s m args below meth c Q CF hK hP hRet ls hl
  obtain ⟨hx, hb, hml, hown, hts⟩ := id CF
  have hl : lv_has ls 5 [(0, .ref oM), (1, .int p0), (2, .int p1), (3, .int p2)] := hl
  unfold fX4_hole at hf
  refine lv_aload_n (pc := 0) hx hb dX4_hole_0 rfl (lv_at hl 0 rfl) ?_
  refine lv_iload_n (pc := 1) hx hb dX4_hole_1 rfl (lv_at hl 1 rfl) ?_
  refine lv_iload_n (pc := 2) hx hb dX4_hole_2 rfl (lv_at hl 2 rfl) ?_
  obtain ⟨v1, h2, hf⟩ := bd hf
  refine roVi (pc := 3) (As := [.int p0, .int p1]) (rest := []) CF (mtX4_areTwo l D cI cZ cQ oM aM M p0 p1 v1 h2) (cwV 2 hts gX4_hole_X4_areTwo rfl rfl rfl ⟨rfl, hdX4_areTwo⟩ ⟨Nat.le_of_ble_eq_true rfl, Nat.le_of_ble_eq_true rfl⟩) hK hP rfl rfl rfl rfl hl.1 rfl (Nat.le_of_ble_eq_true rfl) dX4_hole_3 ?_
  refine lv_if_ne (pc := 6) (tgt := 11) hx hb dX4_hole_6 (by decide) (fun c3 => ?_) (fun c3 => ?_)
  · have hf := iF c3 hf
    refine lv_aload_n (pc := 11) hx hb dX4_hole_11 rfl (lv_at hl 0 rfl) ?_
    refine lv_iload_n (pc := 12) hx hb dX4_hole_12 rfl (lv_at hl 1 rfl) ?_
    refine lv_iload_n (pc := 13) hx hb dX4_hole_13 rfl (lv_at hl 2 rfl) ?_
    obtain ⟨v4, h5, hf⟩ := bd hf
    refine roVi (pc := 14) (As := [.int p0, .int p1]) (rest := []) CF (mtX4_hedge l D cI cZ cQ oM aM M p0 p1 v4 h5) (cwV 2 hts gX4_hole_X4_hedge rfl rfl rfl ⟨rfl, hdX4_hedge⟩ ⟨Nat.le_of_ble_eq_true rfl, Nat.le_of_ble_eq_true rfl⟩) hK hP rfl rfl rfl rfl hl.1 rfl (Nat.le_of_ble_eq_true rfl) dX4_hole_14 ?_
    refine lv_istore (pc := 17) (lv' := [(4, .int v4), (0, .ref oM), (1, .int p0), (2, .int p1), (3, .int p2)]) hx hb dX4_hole_17 hl (by decide) rfl (fun ls hl => ?_)
    refine lv_iload_n (pc := 19) hx hb dX4_hole_19 rfl (lv_at hl 4 rfl) ?_
    refine lv_if_ne (pc := 20) (tgt := 33) hx hb dX4_hole_20 (by decide) (fun c6 => ?_) (fun c6 => ?_)
    · have hf := iF c6 hf
      refine lv_iload_n (pc := 33) hx hb dX4_hole_33 rfl (lv_at hl 4 rfl) ?_
      refine lv_iconst (pc := 34) (v := 1) hx hb dX4_hole_34 (by decide) ?_
      refine lv_icmp_ne (pc := 35) (tgt := 50) hx hb dX4_hole_35 (by decide) (fun c7 => ?_) (fun c7 => ?_)
      · have hf := iF c7 hf
        refine lv_iload_n (pc := 50) hx hb dX4_hole_50 rfl (lv_at hl 4 rfl) ?_
        refine lv_iconst (pc := 51) (v := 2) hx hb dX4_hole_51 (by decide) ?_
        refine lv_icmp_ne (pc := 52) (tgt := 60) hx hb dX4_hole_52 (by decide) (fun c8 => ?_) (fun c8 => ?_)
        · have hf := iF c8 hf
          refine lv_bipush (pc := 60) (v := (-2)) hx hb dX4_hole_60 (by decide) ?_
          obtain rfl := Option.some.inj hf
          exact hRet 62 ls (vp_nar_int _) dX4_hole_62
        · have hf := iT c8 hf
          refine lv_iload (pc := 55) hx hb dX4_hole_55 (lv_at hl 0 rfl) ?_
          refine lv_goto (pc := 57) (tgt := 62) hx hb dX4_hole_57 (by decide) ?_
          obtain rfl := Option.some.inj hf
          exact hRet 62 ls (vp_nar_int _) dX4_hole_62
      · have hf := iT c7 hf
        refine lv_aload_n (pc := 38) hx hb dX4_hole_38 rfl (lv_at hl 1 rfl) ?_
        refine va_get (pc := 39) (D := D) (ci := 4) (v := .int (M 9 0)) (C := RX4) (T := TX4) (N := 29) hx hb hts inX4_hole_X4 hown hK.1 hP 0 rfl rfl 9 (by decide) (hts (.fieldLink RX4 114 "HedgeHolesModel" "worn" "I") (by decide +kernel)) (fun _ h9 => h9) rfl dX4_hole_39 ?_
        refine lv_iload (pc := 42) hx hb dX4_hole_42 (lv_at hl 0 rfl) ?_
        refine lv_ishr (pc := 44) hx hb dX4_hole_44 ?_
        refine lv_iconst (pc := 45) (v := 1) hx hb dX4_hole_45 (by decide) ?_
        refine lv_iand (pc := 46) hx hb dX4_hole_46 ?_
        refine lv_goto (pc := 47) (tgt := 62) hx hb dX4_hole_47 (by decide) ?_
        obtain rfl := Option.some.inj hf
        exact hRet 62 ls (vp_nar_int _) dX4_hole_62
    · have hf := iT c6 hf
      refine lv_aload_n (pc := 23) hx hb dX4_hole_23 rfl (lv_at hl 1 rfl) ?_
      refine va_get (pc := 24) (D := D) (ci := 4) (v := .ref (aM 10)) (C := RX4) (T := TX4) (N := 29) hx hb hts inX4_hole_X4 hown hK.1 hP 0 rfl rfl 10 (by decide) (hts (.fieldLink RX4 19 "HedgeHolesModel" "greats" "[I") (by decide +kernel)) (fun _ h9 => h9) rfl dX4_hole_24 ?_
      refine lv_iload (pc := 27) hx hb dX4_hole_27 (lv_at hl 0 rfl) ?_
      obtain ⟨h9, hf⟩ := gI_e hf
      refine va_iald (pc := 29) (f := M 10) (n := 10) hx hb hK.1 hP 4 0 rfl rfl h9 dX4_hole_29 ?_
      refine lv_goto (pc := 30) (tgt := 62) hx hb dX4_hole_30 (by decide) ?_
      obtain rfl := Option.some.inj hf
      exact hRet 62 ls (vp_nar_int _) dX4_hole_62
  · have hf := iT c3 hf
    refine lv_iconst (pc := 9) (v := (-1)) hx hb dX4_hole_9 (by decide) ?_
    obtain rfl := Option.some.inj hf
    exact hRet 10 ls (vp_nar_int _) dX4_hole_10
theorem hdX4_hole : yX4_hole.cls ≠ "java/lang/invoke/MethodHandle" ∧ yX4_hole.cls ≠ "java/lang/invoke/VarHandle" ∧ (parseMethodDescriptor yX4_hole.desc).map (fun d => d.parameters.length) = some 3 := by decide +kernel
abbrev rmX4_hoop : Room := { frames := 2, cells := 0, slots := 0, locals := 43 }
theorem inX4_hoop_X4 : ∀ w ∈ wsX40, w ∈ wsX4_hoop := fun _ h => List.mem_cons_of_mem _ (List.mem_append_right _ h)
set_option maxHeartbeats 4000000 in
set_option maxRecDepth 100000 in
theorem mtX4_hoop (l : Launch) (D : va_G) (cI cZ cQ : ClassId) (oM : Nat) (aM : Nat → Nat) (M : Bk) (p0 : Int32) (p1 : Int32) (p2 : Int32) (sz : Nat) (out : (Int32 × Bk)) (hf : fX4_hoop M p0 p1 p2 = some out) : Met l yX4_hoop wsX4_hoop rmX4_hoop (WrP D cI cZ cQ [.ref oM, .int p0, .int p1, .int p2] (wM cI oM aM M) sz) (WrQi D out.1 (wM cI oM aM M) (wM cI oM aM out.2) sz) 0 0 (va_A (wM cI oM aM M) sz) := by
  refine metWi (ty := .int) (cc := cX4_hoop) (maxL := 6) (by decide) rfl (Nat.le_of_ble_eq_true rfl) ?_
  intro p e s m args below meth c Q A CF hK hP hD hA hRet ls hl
  obtain ⟨hx, hb, hml, hown, hts⟩ := id CF
  have hS : va_S A s.heap s.heap [] := va_S.rf
  have hl : lv_has ls 6 [(0, .ref oM), (1, .int p0), (2, .int p1), (3, .int p2)] := hl
  unfold fX4_hoop at hf
  refine lv_aload_n (pc := 0) hx hb dX4_hoop_0 rfl (lv_at hl 0 rfl) ?_
  refine lv_iload_n (pc := 1) hx hb dX4_hoop_1 rfl (lv_at hl 1 rfl) ?_
  refine lv_iload_n (pc := 2) hx hb dX4_hoop_2 rfl (lv_at hl 2 rfl) ?_
  obtain ⟨v1, h2, hf⟩ := bd hf
  refine roVi (pc := 3) (As := [.int p0, .int p1]) (rest := []) CF (mtX4_areTwo l D cI cZ cQ oM aM M p0 p1 v1 h2) (cwV 2 hts gX4_hoop_X4_areTwo rfl rfl rfl ⟨rfl, hdX4_areTwo⟩ ⟨Nat.le_of_ble_eq_true rfl, Nat.le_of_ble_eq_true rfl⟩) hK hP rfl rfl rfl rfl hl.1 rfl (Nat.le_of_ble_eq_true rfl) dX4_hoop_3 ?_
  refine lv_if_ne (pc := 6) (tgt := 11) hx hb dX4_hoop_6 (by decide) (fun c3 => ?_) (fun c3 => ?_)
  · have hf := iF c3 hf
    refine lv_iload_n (pc := 11) hx hb dX4_hoop_11 rfl (lv_at hl 3 rfl) ?_
    refine lv_iconst (pc := 12) (v := 0) hx hb dX4_hoop_12 (by decide) ?_
    refine lv_bipush (pc := 13) (v := 9) hx hb dX4_hoop_13 (by decide) ?_
    obtain ⟨v4, h5, hf⟩ := bd hf
    refine roSi (pc := 15) (As := [.int p2, .int 0, .int 9]) (rest := []) CF (mtX4_within l D cI cZ cQ p2 0 9 v4 h5) (va_cwS 3 hts gX4_hoop_X4_within rfl rfl rfl hdX4_within ⟨Nat.le_of_ble_eq_true rfl, Nat.le_of_ble_eq_true rfl⟩) hK P0 rfl hl.1 rfl (Nat.le_of_ble_eq_true rfl) dX4_hoop_15 ?_
    refine lv_if_ne (pc := 18) (tgt := 24) hx hb dX4_hoop_18 (by decide) (fun c6 => ?_) (fun c6 => ?_)
    · have hf := iF c6 hf
      refine lv_aload_n (pc := 24) hx hb dX4_hoop_24 rfl (lv_at hl 0 rfl) ?_
      refine lv_iload_n (pc := 25) hx hb dX4_hoop_25 rfl (lv_at hl 1 rfl) ?_
      refine lv_iload_n (pc := 26) hx hb dX4_hoop_26 rfl (lv_at hl 2 rfl) ?_
      obtain ⟨v7, h8, hf⟩ := bd hf
      refine roVi (pc := 27) (As := [.int p0, .int p1]) (rest := []) CF (mtX4_hedge l D cI cZ cQ oM aM M p0 p1 v7 h8) (cwV 2 hts gX4_hoop_X4_hedge rfl rfl rfl ⟨rfl, hdX4_hedge⟩ ⟨Nat.le_of_ble_eq_true rfl, Nat.le_of_ble_eq_true rfl⟩) hK hP rfl rfl rfl rfl hl.1 rfl (Nat.le_of_ble_eq_true rfl) dX4_hoop_27 ?_
      refine lv_istore (pc := 30) (lv' := [(4, .int v7), (0, .ref oM), (1, .int p0), (2, .int p1), (3, .int p2)]) hx hb dX4_hoop_30 hl (by decide) rfl (fun ls hl => ?_)
      refine lv_aload_n (pc := 32) hx hb dX4_hoop_32 rfl (lv_at hl 1 rfl) ?_
      refine va_get (pc := 33) (D := D) (ci := 4) (v := .ref (aM 10)) (C := RX4) (T := TX4) (N := 29) hx hb hts inX4_hoop_X4 hown hK.1 hP 0 rfl rfl 10 (by decide) (hts (.fieldLink RX4 19 "HedgeHolesModel" "greats" "[I") (by decide +kernel)) (fun _ h9 => h9) rfl dX4_hoop_33 ?_
      refine lv_iload (pc := 36) hx hb dX4_hoop_36 (lv_at hl 0 rfl) ?_
      obtain ⟨h9, hf⟩ := gI_e hf
      refine va_iald (pc := 38) (f := M 10) (n := 10) hx hb hK.1 hP 4 0 rfl rfl h9 dX4_hoop_38 ?_
      refine lv_istore (pc := 39) (lv' := [(5, .int (M 10 v7.toNatClampNeg)), (4, .int v7), (0, .ref oM), (1, .int p0), (2, .int p1), (3, .int p2)]) hx hb dX4_hoop_39 hl (by decide) rfl (fun ls hl => ?_)
      refine lv_aload_n (pc := 41) hx hb dX4_hoop_41 rfl (lv_at hl 2 rfl) ?_
      refine va_get (pc := 42) (D := D) (ci := 4) (v := .ref (aM 10)) (C := RX4) (T := TX4) (N := 29) hx hb hts inX4_hoop_X4 hown hK.1 hP 0 rfl rfl 10 (by decide) (hts (.fieldLink RX4 19 "HedgeHolesModel" "greats" "[I") (by decide +kernel)) (fun _ h9 => h9) rfl dX4_hoop_42 ?_
      refine lv_iload (pc := 45) hx hb dX4_hoop_45 (lv_at hl 1 rfl) ?_
      refine lv_iload_n (pc := 47) hx hb dX4_hoop_47 rfl (lv_at hl 5 rfl) ?_
      refine va_iast (pc := 48) (f := M 10) (n := 10) hx hb hK.1 hP hD hS 4 0 rfl rfl h9 dX4_hoop_48 (fun H locs hP hD hS => ?_)
      have hP : va_P D vwCl (wM cI oM aM (sB M 10 v7.toNatClampNeg p2)) H := hP
      have hD : va_D A (wM cI oM aM (sB M 10 v7.toNatClampNeg p2)) := hD
      obtain ⟨M_10, h11, hf⟩ := bd hf
      have h11 := Option.some.inj h11
      rw [h11] at hP hD
      refine lv_aload_n (pc := 49) hx hb dX4_hoop_49 rfl (lv_at hl 2 rfl) ?_
      refine lv_dup (pc := 50) hx hb dX4_hoop_50 rfl ?_
      refine va_get (pc := 51) (D := D) (ci := 4) (v := .int (M_10 9 0)) (C := RX4) (T := TX4) (N := 29) hx hb hts inX4_hoop_X4 hown hK.1 hP 0 rfl rfl 9 (by decide) (hts (.fieldLink RX4 114 "HedgeHolesModel" "worn" "I") (by decide +kernel)) (fun _ h9 => h9) rfl dX4_hoop_51 ?_
      refine lv_iconst (pc := 54) (v := 1) hx hb dX4_hoop_54 (by decide) ?_
      refine lv_iload (pc := 55) hx hb dX4_hoop_55 (lv_at hl 1 rfl) ?_
      refine lv_ishl (pc := 57) hx hb dX4_hoop_57 ?_
      refine lv_iconst (pc := 58) (v := (-1)) hx hb dX4_hoop_58 (by decide) ?_
      refine lv_ixor (pc := 59) hx hb dX4_hoop_59 ?_
      refine lv_iand (pc := 60) hx hb dX4_hoop_60 ?_
      refine va_put (pc := 61) (D := D) (ci := 4) (v := .int ((M_10 9 0) &&& ((1 <<< (v7 &&& 31)) ^^^ (-1)))) (ty := .int) (C := RX4) (T := TX4) (N := 29) hx hb hts inX4_hoop_X4 tyX4 tyX4_ok nmX4 hown hK.1 hP hD hS 0 rfl rfl 9 (by decide) (hts (.fieldLink RX4 114 "HedgeHolesModel" "worn" "I") (by decide +kernel)) (fun _ h9 => h9) rfl (by decide +kernel) (vp_nar_int _) rfl (Nat.le_of_ble_eq_true rfl) dX4_hoop_61 (fun H locs hP hD hS => ?_)
      have hP : va_P D vwCl (wM cI oM aM (sB M_10 9 0 ((M_10 9 0) &&& ((1 <<< (v7 &&& 31)) ^^^ (-1))))) H := hP
      have hD : va_D A (wM cI oM aM (sB M_10 9 0 ((M_10 9 0) &&& ((1 <<< (v7 &&& 31)) ^^^ (-1))))) := hD
      obtain ⟨M_12, h13, hf⟩ := bd hf
      have h13 := Option.some.inj h13
      rw [h13] at hP hD
      refine lv_iload (pc := 64) hx hb dX4_hoop_64 (lv_at hl 0 rfl) ?_
      obtain rfl := Option.some.inj hf
      exact hRet 66 ls H locs (vp_nar_int _) dX4_hoop_66 hP hS
    · have hf := iT c6 hf
      refine lv_bipush (pc := 21) (v := (-2)) hx hb dX4_hoop_21 (by decide) ?_
      obtain rfl := Option.some.inj hf
      exact hRet 23 ls s.heap [] (vp_nar_int _) dX4_hoop_23 hP hS
  · have hf := iT c3 hf
    refine lv_iconst (pc := 9) (v := (-1)) hx hb dX4_hoop_9 (by decide) ?_
    obtain rfl := Option.some.inj hf
    exact hRet 10 ls s.heap [] (vp_nar_int _) dX4_hoop_10 hP hS
theorem hdX4_hoop : yX4_hoop.cls ≠ "java/lang/invoke/MethodHandle" ∧ yX4_hoop.cls ≠ "java/lang/invoke/VarHandle" ∧ (parseMethodDescriptor yX4_hoop.desc).map (fun d => d.parameters.length) = some 3 := by decide +kernel
abbrev rmX4_fatten : Room := { frames := 1, cells := 0, slots := 0, locals := 22 }
theorem inX4_fatten_X4 : ∀ w ∈ wsX40, w ∈ wsX4_fatten := fun _ h => List.mem_cons_of_mem _ (List.mem_append_right _ h)
set_option maxHeartbeats 4000000 in
set_option maxRecDepth 100000 in
theorem mtX4_fatten (l : Launch) (D : va_G) (cI cZ cQ : ClassId) (oM : Nat) (aM : Nat → Nat) (M : Bk) (p0 : Int32) (p1 : Int32) (sz : Nat) (out : (Int32 × Bk)) (hf : fX4_fatten M p0 p1 = some out) : Met l yX4_fatten wsX4_fatten rmX4_fatten (WrP D cI cZ cQ [.ref oM, .int p0, .int p1] (wM cI oM aM M) sz) (WrQi D out.1 (wM cI oM aM M) (wM cI oM aM out.2) sz) 0 0 (va_A (wM cI oM aM M) sz) := by
  refine metWi (ty := .int) (cc := cX4_fatten) (maxL := 4) (by decide) rfl (Nat.le_of_ble_eq_true rfl) ?_
  intro p e s m args below meth c Q A CF hK hP hD hA hRet ls hl
  obtain ⟨hx, hb, hml, hown, hts⟩ := id CF
  have hS : va_S A s.heap s.heap [] := va_S.rf
  have hl : lv_has ls 4 [(0, .ref oM), (1, .int p0), (2, .int p1)] := hl
  unfold fX4_fatten at hf
  refine lv_aload_n (pc := 0) hx hb dX4_fatten_0 rfl (lv_at hl 0 rfl) ?_
  refine lv_iload_n (pc := 1) hx hb dX4_fatten_1 rfl (lv_at hl 1 rfl) ?_
  obtain ⟨v1, h2, hf⟩ := bd hf
  refine roVi (pc := 2) (As := [.int p0]) (rest := []) CF (mtX4_isGoer l D cI cZ cQ oM aM M p0 v1 h2) (cwV 1 hts gX4_fatten_X4_isGoer rfl rfl rfl ⟨rfl, hdX4_isGoer⟩ ⟨Nat.le_of_ble_eq_true rfl, Nat.le_of_ble_eq_true rfl⟩) hK hP rfl rfl rfl rfl hl.1 rfl (Nat.le_of_ble_eq_true rfl) dX4_fatten_2 ?_
  refine lv_if_ne (pc := 5) (tgt := 10) hx hb dX4_fatten_5 (by decide) (fun c3 => ?_) (fun c3 => ?_)
  · have hf := iF c3 hf
    refine lv_iload_n (pc := 10) hx hb dX4_fatten_10 rfl (lv_at hl 2 rfl) ?_
    refine lv_iconst (pc := 11) (v := 1) hx hb dX4_fatten_11 (by decide) ?_
    refine lv_bipush (pc := 12) (v := 9) hx hb dX4_fatten_12 (by decide) ?_
    obtain ⟨v4, h5, hf⟩ := bd hf
    refine roSi (pc := 14) (As := [.int p1, .int 1, .int 9]) (rest := []) CF (mtX4_within l D cI cZ cQ p1 1 9 v4 h5) (va_cwS 3 hts gX4_fatten_X4_within rfl rfl rfl hdX4_within ⟨Nat.le_of_ble_eq_true rfl, Nat.le_of_ble_eq_true rfl⟩) hK P0 rfl hl.1 rfl (Nat.le_of_ble_eq_true rfl) dX4_fatten_14 ?_
    refine lv_if_ne (pc := 17) (tgt := 23) hx hb dX4_fatten_17 (by decide) (fun c6 => ?_) (fun c6 => ?_)
    · have hf := iF c6 hf
      refine lv_aload_n (pc := 23) hx hb dX4_fatten_23 rfl (lv_at hl 0 rfl) ?_
      refine va_get (pc := 24) (D := D) (ci := 4) (v := .ref (aM 12)) (C := RX4) (T := TX4) (N := 29) hx hb hts inX4_fatten_X4 hown hK.1 hP 0 rfl rfl 12 (by decide) (hts (.fieldLink RX4 25 "HedgeHolesModel" "girth" "[I") (by decide +kernel)) (fun _ h9 => h9) rfl dX4_fatten_24 ?_
      refine lv_iload_n (pc := 27) hx hb dX4_fatten_27 rfl (lv_at hl 1 rfl) ?_
      obtain ⟨h7, hf⟩ := gI_e hf
      refine va_iald (pc := 28) (f := M 12) (n := 5) hx hb hK.1 hP 6 0 rfl rfl h7 dX4_fatten_28 ?_
      refine lv_istore_n (pc := 29) (lv' := [(3, .int (M 12 p0.toNatClampNeg)), (0, .ref oM), (1, .int p0), (2, .int p1)]) hx hb dX4_fatten_29 rfl hl (by decide) rfl (fun ls hl => ?_)
      refine lv_aload_n (pc := 30) hx hb dX4_fatten_30 rfl (lv_at hl 1 rfl) ?_
      refine va_get (pc := 31) (D := D) (ci := 4) (v := .ref (aM 12)) (C := RX4) (T := TX4) (N := 29) hx hb hts inX4_fatten_X4 hown hK.1 hP 0 rfl rfl 12 (by decide) (hts (.fieldLink RX4 25 "HedgeHolesModel" "girth" "[I") (by decide +kernel)) (fun _ h9 => h9) rfl dX4_fatten_31 ?_
      refine lv_iload_n (pc := 34) hx hb dX4_fatten_34 rfl (lv_at hl 2 rfl) ?_
      refine lv_iload_n (pc := 35) hx hb dX4_fatten_35 rfl (lv_at hl 3 rfl) ?_
      refine va_iast (pc := 36) (f := M 12) (n := 5) hx hb hK.1 hP hD hS 6 0 rfl rfl h7 dX4_fatten_36 (fun H locs hP hD hS => ?_)
      have hP : va_P D vwCl (wM cI oM aM (sB M 12 p0.toNatClampNeg p1)) H := hP
      have hD : va_D A (wM cI oM aM (sB M 12 p0.toNatClampNeg p1)) := hD
      obtain ⟨M_8, h9, hf⟩ := bd hf
      have h9 := Option.some.inj h9
      rw [h9] at hP hD
      refine lv_iload_n (pc := 37) hx hb dX4_fatten_37 rfl (lv_at hl 0 rfl) ?_
      obtain rfl := Option.some.inj hf
      exact hRet 38 ls H locs (vp_nar_int _) dX4_fatten_38 hP hS
    · have hf := iT c6 hf
      refine lv_bipush (pc := 20) (v := (-2)) hx hb dX4_fatten_20 (by decide) ?_
      obtain rfl := Option.some.inj hf
      exact hRet 22 ls s.heap [] (vp_nar_int _) dX4_fatten_22 hP hS
  · have hf := iT c3 hf
    refine lv_iconst (pc := 8) (v := (-1)) hx hb dX4_fatten_8 (by decide) ?_
    obtain rfl := Option.some.inj hf
    exact hRet 9 ls s.heap [] (vp_nar_int _) dX4_fatten_9 hP hS
theorem hdX4_fatten : yX4_fatten.cls ≠ "java/lang/invoke/MethodHandle" ∧ yX4_fatten.cls ≠ "java/lang/invoke/VarHandle" ∧ (parseMethodDescriptor yX4_fatten.desc).map (fun d => d.parameters.length) = some 2 := by decide +kernel
abbrev rmX4_goesTo : Room := { frames := 2, cells := 0, slots := 0, locals := 43 }
theorem inX4_goesTo_X4 : ∀ w ∈ wsX40, w ∈ wsX4_goesTo := fun _ h => List.mem_cons_of_mem _ (List.mem_append_right _ h)
set_option maxHeartbeats 4000000 in
set_option maxRecDepth 100000 in
theorem mtX4_goesTo (l : Launch) (D : va_G) (cI cZ cQ : ClassId) (oM : Nat) (aM : Nat → Nat) (M : Bk) (p0 : Int32) (p1 : Int32) (sz : Nat) (out : (Int32 × Bk)) (hf : fX4_goesTo M p0 p1 = some out) : Met l yX4_goesTo wsX4_goesTo rmX4_goesTo (WrP D cI cZ cQ [.ref oM, .int p0, .int p1] (wM cI oM aM M) sz) (WrQi D out.1 (wM cI oM aM M) (wM cI oM aM out.2) sz) 0 0 (va_A (wM cI oM aM M) sz) := by
  refine metWi (ty := .boolean) (cc := cX4_goesTo) (maxL := 3) (by decide) rfl (Nat.le_of_ble_eq_true rfl) ?_
  intro p e s m args below meth c Q A CF hK hP hD hA hRet ls hl
  obtain ⟨hx, hb, hml, hown, hts⟩ := id CF
  have hS : va_S A s.heap s.heap [] := va_S.rf
  have hl : lv_has ls 3 [(0, .ref oM), (1, .int p0), (2, .int p1)] := hl
  unfold fX4_goesTo at hf
  refine lv_aload_n (pc := 0) hx hb dX4_goesTo_0 rfl (lv_at hl 0 rfl) ?_
  refine lv_aload_n (pc := 1) hx hb dX4_goesTo_1 rfl (lv_at hl 0 rfl) ?_
  refine va_get (pc := 2) (D := D) (ci := 4) (v := .ref (aM 13)) (C := RX4) (T := TX4) (N := 29) hx hb hts inX4_goesTo_X4 hown hK.1 hP 0 rfl rfl 13 (by decide) (hts (.fieldLink RX4 28 "HedgeHolesModel" "field" "[I") (by decide +kernel)) (fun _ h9 => h9) rfl dX4_goesTo_2 ?_
  refine lv_iload_n (pc := 5) hx hb dX4_goesTo_5 rfl (lv_at hl 1 rfl) ?_
  obtain ⟨h1, hf⟩ := gI_e hf
  refine va_iald (pc := 6) (f := M 13) (n := 5) hx hb hK.1 hP 7 0 rfl rfl h1 dX4_goesTo_6 ?_
  refine lv_iload_n (pc := 7) hx hb dX4_goesTo_7 rfl (lv_at hl 2 rfl) ?_
  obtain ⟨v2, h3, hf⟩ := bd hf
  refine roVi (pc := 8) (As := [.int (M 13 p0.toNatClampNeg), .int p1]) (rest := []) CF (mtX4_areTwo l D cI cZ cQ oM aM M (M 13 p0.toNatClampNeg) p1 v2 h3) (cwV 2 hts gX4_goesTo_X4_areTwo rfl rfl rfl ⟨rfl, hdX4_areTwo⟩ ⟨Nat.le_of_ble_eq_true rfl, Nat.le_of_ble_eq_true rfl⟩) hK hP rfl rfl rfl rfl hl.1 rfl (Nat.le_of_ble_eq_true rfl) dX4_goesTo_8 ?_
  refine lv_if_eq (pc := 11) (tgt := 33) hx hb dX4_goesTo_11 (by decide) (fun c4 => ?_) (fun c4 => ?_)
  · have hf := iT c4 hf
    refine lv_iconst (pc := 33) (v := 0) hx hb dX4_goesTo_33 (by decide) ?_
    obtain rfl := Option.some.inj hf
    exact hRet 34 ls s.heap [] (nzB (Or.inl rfl)) dX4_goesTo_34 hP hS
  · have hf := iF c4 hf
    refine lv_aload_n (pc := 14) hx hb dX4_goesTo_14 rfl (lv_at hl 0 rfl) ?_
    refine lv_iload_n (pc := 15) hx hb dX4_goesTo_15 rfl (lv_at hl 1 rfl) ?_
    refine lv_aload_n (pc := 16) hx hb dX4_goesTo_16 rfl (lv_at hl 0 rfl) ?_
    refine lv_aload_n (pc := 17) hx hb dX4_goesTo_17 rfl (lv_at hl 0 rfl) ?_
    refine va_get (pc := 18) (D := D) (ci := 4) (v := .ref (aM 13)) (C := RX4) (T := TX4) (N := 29) hx hb hts inX4_goesTo_X4 hown hK.1 hP 0 rfl rfl 13 (by decide) (hts (.fieldLink RX4 28 "HedgeHolesModel" "field" "[I") (by decide +kernel)) (fun _ h9 => h9) rfl dX4_goesTo_18 ?_
    refine lv_iload_n (pc := 21) hx hb dX4_goesTo_21 rfl (lv_at hl 1 rfl) ?_
    refine va_iald (pc := 22) (f := M 13) (n := 5) hx hb hK.1 hP 7 0 rfl rfl h1 dX4_goesTo_22 ?_
    refine lv_iload_n (pc := 23) hx hb dX4_goesTo_23 rfl (lv_at hl 2 rfl) ?_
    obtain ⟨v5, h6, hf⟩ := bd hf
    refine roVi (pc := 24) (As := [.int (M 13 p0.toNatClampNeg), .int p1]) (rest := [.int p0, .ref oM]) CF (mtX4_hedge l D cI cZ cQ oM aM M (M 13 p0.toNatClampNeg) p1 v5 h6) (cwV 2 hts gX4_goesTo_X4_hedge rfl rfl rfl ⟨rfl, hdX4_hedge⟩ ⟨Nat.le_of_ble_eq_true rfl, Nat.le_of_ble_eq_true rfl⟩) hK hP rfl rfl rfl rfl hl.1 rfl (Nat.le_of_ble_eq_true rfl) dX4_goesTo_24 ?_
    obtain ⟨v7, h8, hf⟩ := bd hf
    refine roVi (pc := 27) (As := [.int p0, .int v5]) (rest := []) CF (mtX4_fitsHole l D cI cZ cQ oM aM M p0 v5 v7 h8) (cwV 2 hts gX4_goesTo_X4_fitsHole rfl rfl rfl ⟨rfl, hdX4_fitsHole⟩ ⟨Nat.le_of_ble_eq_true rfl, Nat.le_of_ble_eq_true rfl⟩) hK hP rfl rfl rfl rfl hl.1 rfl (Nat.le_of_ble_eq_true rfl) dX4_goesTo_27 ?_
    refine lv_if_ne (pc := 30) (tgt := 35) hx hb dX4_goesTo_30 (by decide) (fun c9 => ?_) (fun c9 => ?_)
    · have hf := iF c9 hf
      refine lv_aload_n (pc := 35) hx hb dX4_goesTo_35 rfl (lv_at hl 0 rfl) ?_
      refine lv_dup (pc := 36) hx hb dX4_goesTo_36 rfl ?_
      refine va_get (pc := 37) (D := D) (ci := 4) (v := .int (M 9 0)) (C := RX4) (T := TX4) (N := 29) hx hb hts inX4_goesTo_X4 hown hK.1 hP 0 rfl rfl 9 (by decide) (hts (.fieldLink RX4 114 "HedgeHolesModel" "worn" "I") (by decide +kernel)) (fun _ h9 => h9) rfl dX4_goesTo_37 ?_
      refine lv_iconst (pc := 40) (v := 1) hx hb dX4_goesTo_40 (by decide) ?_
      refine lv_aload_n (pc := 41) hx hb dX4_goesTo_41 rfl (lv_at hl 0 rfl) ?_
      refine lv_aload_n (pc := 42) hx hb dX4_goesTo_42 rfl (lv_at hl 0 rfl) ?_
      refine va_get (pc := 43) (D := D) (ci := 4) (v := .ref (aM 13)) (C := RX4) (T := TX4) (N := 29) hx hb hts inX4_goesTo_X4 hown hK.1 hP 0 rfl rfl 13 (by decide) (hts (.fieldLink RX4 28 "HedgeHolesModel" "field" "[I") (by decide +kernel)) (fun _ h9 => h9) rfl dX4_goesTo_43 ?_
      refine lv_iload_n (pc := 46) hx hb dX4_goesTo_46 rfl (lv_at hl 1 rfl) ?_
      refine va_iald (pc := 47) (f := M 13) (n := 5) hx hb hK.1 hP 7 0 rfl rfl h1 dX4_goesTo_47 ?_
      refine lv_iload_n (pc := 48) hx hb dX4_goesTo_48 rfl (lv_at hl 2 rfl) ?_
      obtain ⟨v10, h11, hf⟩ := bd hf
      refine roVi (pc := 49) (As := [.int (M 13 p0.toNatClampNeg), .int p1]) (rest := [.int 1, .int (M 9 0), .ref oM]) CF (mtX4_hedge l D cI cZ cQ oM aM M (M 13 p0.toNatClampNeg) p1 v10 h11) (cwV 2 hts gX4_goesTo_X4_hedge rfl rfl rfl ⟨rfl, hdX4_hedge⟩ ⟨Nat.le_of_ble_eq_true rfl, Nat.le_of_ble_eq_true rfl⟩) hK hP rfl rfl rfl rfl hl.1 rfl (Nat.le_of_ble_eq_true rfl) dX4_goesTo_49 ?_
      refine lv_ishl (pc := 52) hx hb dX4_goesTo_52 ?_
      refine lv_ior (pc := 53) hx hb dX4_goesTo_53 ?_
      refine va_put (pc := 54) (D := D) (ci := 4) (v := .int ((M 9 0) ||| (1 <<< (v10 &&& 31)))) (ty := .int) (C := RX4) (T := TX4) (N := 29) hx hb hts inX4_goesTo_X4 tyX4 tyX4_ok nmX4 hown hK.1 hP hD hS 0 rfl rfl 9 (by decide) (hts (.fieldLink RX4 114 "HedgeHolesModel" "worn" "I") (by decide +kernel)) (fun _ h9 => h9) rfl (by decide +kernel) (vp_nar_int _) rfl (Nat.le_of_ble_eq_true rfl) dX4_goesTo_54 (fun H locs hP hD hS => ?_)
      have hP : va_P D vwCl (wM cI oM aM (sB M 9 0 ((M 9 0) ||| (1 <<< (v10 &&& 31))))) H := hP
      have hD : va_D A (wM cI oM aM (sB M 9 0 ((M 9 0) ||| (1 <<< (v10 &&& 31))))) := hD
      obtain ⟨M_12, h13, hf⟩ := bd hf
      have h13 := Option.some.inj h13
      rw [h13] at hP hD
      refine lv_aload_n (pc := 57) hx hb dX4_goesTo_57 rfl (lv_at hl 0 rfl) ?_
      refine va_get (pc := 58) (D := D) (ci := 4) (v := .ref (aM 13)) (C := RX4) (T := TX4) (N := 29) hx hb hts inX4_goesTo_X4 hown hK.1 hP 0 rfl rfl 13 (by decide) (hts (.fieldLink RX4 28 "HedgeHolesModel" "field" "[I") (by decide +kernel)) (fun _ h9 => h9) rfl dX4_goesTo_58 ?_
      refine lv_iload_n (pc := 61) hx hb dX4_goesTo_61 rfl (lv_at hl 1 rfl) ?_
      refine lv_iload_n (pc := 62) hx hb dX4_goesTo_62 rfl (lv_at hl 2 rfl) ?_
      refine va_iast (pc := 63) (f := M_12 13) (n := 5) hx hb hK.1 hP hD hS 7 0 rfl rfl h1 dX4_goesTo_63 (fun H locs hP hD hS => ?_)
      have hP : va_P D vwCl (wM cI oM aM (sB M_12 13 p0.toNatClampNeg p1)) H := hP
      have hD : va_D A (wM cI oM aM (sB M_12 13 p0.toNatClampNeg p1)) := hD
      obtain ⟨M_14, h15, hf⟩ := bd hf
      have h15 := Option.some.inj h15
      rw [h15] at hP hD
      refine lv_iconst (pc := 64) (v := 1) hx hb dX4_goesTo_64 (by decide) ?_
      obtain rfl := Option.some.inj hf
      exact hRet 65 ls H locs (nzB (Or.inr rfl)) dX4_goesTo_65 hP hS
    · have hf := iT c9 hf
      refine lv_iconst (pc := 33) (v := 0) hx hb dX4_goesTo_33 (by decide) ?_
      obtain rfl := Option.some.inj hf
      exact hRet 34 ls s.heap [] (nzB (Or.inl rfl)) dX4_goesTo_34 hP hS
theorem hdX4_goesTo : yX4_goesTo.cls ≠ "java/lang/invoke/MethodHandle" ∧ yX4_goesTo.cls ≠ "java/lang/invoke/VarHandle" ∧ (parseMethodDescriptor yX4_goesTo.desc).map (fun d => d.parameters.length) = some 2 := by decide +kernel
abbrev rmX4_go : Room := { frames := 3, cells := 0, slots := 0, locals := 65 }
theorem inX4_go_X4 : ∀ w ∈ wsX40, w ∈ wsX4_go := fun _ h => List.mem_cons_of_mem _ (List.mem_append_right _ h)
set_option maxHeartbeats 4000000 in
set_option maxRecDepth 100000 in
theorem mtX4_go (l : Launch) (D : va_G) (cI cZ cQ : ClassId) (oM : Nat) (aM : Nat → Nat) (M : Bk) (p0 : Int32) (p1 : Int32) (sz : Nat) (out : (Int32 × Bk)) (hf : fX4_go M p0 p1 = some out) : Met l yX4_go wsX4_go rmX4_go (WrP D cI cZ cQ [.ref oM, .int p0, .int p1] (wM cI oM aM M) sz) (WrQi D out.1 (wM cI oM aM M) (wM cI oM aM out.2) sz) 0 0 (va_A (wM cI oM aM M) sz) := by
  refine metWi (ty := .int) (cc := cX4_go) (maxL := 4) (by decide) rfl (Nat.le_of_ble_eq_true rfl) ?_
  intro p e s m args below meth c Q A CF hK hP hD hA hRet ls hl
  obtain ⟨hx, hb, hml, hown, hts⟩ := id CF
  have hS : va_S A s.heap s.heap [] := va_S.rf
  have hl : lv_has ls 4 [(0, .ref oM), (1, .int p0), (2, .int p1)] := hl
  unfold fX4_go at hf
  refine lv_aload_n (pc := 0) hx hb dX4_go_0 rfl (lv_at hl 0 rfl) ?_
  refine lv_iload_n (pc := 1) hx hb dX4_go_1 rfl (lv_at hl 1 rfl) ?_
  obtain ⟨v1, h2, hf⟩ := bd hf
  refine roVi (pc := 2) (As := [.int p0]) (rest := []) CF (mtX4_isGoer l D cI cZ cQ oM aM M p0 v1 h2) (cwV 1 hts gX4_go_X4_isGoer rfl rfl rfl ⟨rfl, hdX4_isGoer⟩ ⟨Nat.le_of_ble_eq_true rfl, Nat.le_of_ble_eq_true rfl⟩) hK hP rfl rfl rfl rfl hl.1 rfl (Nat.le_of_ble_eq_true rfl) dX4_go_2 ?_
  refine lv_if_eq (pc := 5) (tgt := 16) hx hb dX4_go_5 (by decide) (fun c3 => ?_) (fun c3 => ?_)
  · have hf := iT c3 hf
    refine lv_iconst (pc := 16) (v := (-1)) hx hb dX4_go_16 (by decide) ?_
    obtain rfl := Option.some.inj hf
    exact hRet 17 ls s.heap [] (vp_nar_int _) dX4_go_17 hP hS
  · have hf := iF c3 hf
    refine lv_aload_n (pc := 8) hx hb dX4_go_8 rfl (lv_at hl 0 rfl) ?_
    refine lv_iload_n (pc := 9) hx hb dX4_go_9 rfl (lv_at hl 2 rfl) ?_
    obtain ⟨v4, h5, hf⟩ := bd hf
    refine roVi (pc := 10) (As := [.int p1]) (rest := []) CF (mtX4_isField l D cI cZ cQ oM aM M p1 v4 h5) (cwV 1 hts gX4_go_X4_isField rfl rfl rfl ⟨rfl, hdX4_isField⟩ ⟨Nat.le_of_ble_eq_true rfl, Nat.le_of_ble_eq_true rfl⟩) hK hP rfl rfl rfl rfl hl.1 rfl (Nat.le_of_ble_eq_true rfl) dX4_go_10 ?_
    refine lv_if_ne (pc := 13) (tgt := 18) hx hb dX4_go_13 (by decide) (fun c6 => ?_) (fun c6 => ?_)
    · have hf := iF c6 hf
      refine lv_aload_n (pc := 18) hx hb dX4_go_18 rfl (lv_at hl 0 rfl) ?_
      refine va_get (pc := 19) (D := D) (ci := 4) (v := .ref (aM 13)) (C := RX4) (T := TX4) (N := 29) hx hb hts inX4_go_X4 hown hK.1 hP 0 rfl rfl 13 (by decide) (hts (.fieldLink RX4 28 "HedgeHolesModel" "field" "[I") (by decide +kernel)) (fun _ h9 => h9) rfl dX4_go_19 ?_
      refine lv_iload_n (pc := 22) hx hb dX4_go_22 rfl (lv_at hl 1 rfl) ?_
      obtain ⟨h7, hf⟩ := gI_e hf
      refine va_iald (pc := 23) (f := M 13) (n := 5) hx hb hK.1 hP 7 0 rfl rfl h7 dX4_go_23 ?_
      refine lv_istore_n (pc := 24) (lv' := [(3, .int (M 13 p0.toNatClampNeg)), (0, .ref oM), (1, .int p0), (2, .int p1)]) hx hb dX4_go_24 rfl hl (by decide) rfl (fun ls hl => ?_)
      refine lv_aload_n (pc := 25) hx hb dX4_go_25 rfl (lv_at hl 1 rfl) ?_
      refine lv_iload_n (pc := 26) hx hb dX4_go_26 rfl (lv_at hl 2 rfl) ?_
      refine lv_iload_n (pc := 27) hx hb dX4_go_27 rfl (lv_at hl 3 rfl) ?_
      obtain ⟨v8, h9, hf⟩ := bd hf
      refine wsVi (pc := 28) (As := [.int p0, .int p1]) (rest := []) (w1 := wM cI oM aM v8.2) CF (mtX4_goesTo l D cI cZ cQ oM aM M p0 p1 s.heap.size v8 h9) (cwV 2 hts gX4_go_X4_goesTo rfl rfl rfl ⟨rfl, hdX4_goesTo⟩ ⟨Nat.le_of_ble_eq_true rfl, Nat.le_of_ble_eq_true rfl⟩) hK hP hD hS hA rfl rfl rfl rfl rfl hl.1 rfl (Nat.le_of_ble_eq_true rfl) dX4_go_28 (fun H locs hP hD hS => ?_)
      refine lv_if_ne (pc := 31) (tgt := 37) hx hb dX4_go_31 (by decide) (fun c10 => ?_) (fun c10 => ?_)
      · have hf := iF c10 hf
        refine lv_aload_n (pc := 37) hx hb dX4_go_37 rfl (lv_at hl 1 rfl) ?_
        refine lv_dup (pc := 38) hx hb dX4_go_38 rfl ?_
        refine va_get (pc := 39) (D := D) (ci := 4) (v := .int (v8.2 8 0)) (C := RX4) (T := TX4) (N := 29) hx hb hts inX4_go_X4 hown hK.1 hP 0 rfl rfl 8 (by decide) (hts (.fieldLink RX4 120 "HedgeHolesModel" "went" "I") (by decide +kernel)) (fun _ h9 => h9) rfl dX4_go_39 ?_
        refine lv_iconst (pc := 42) (v := 1) hx hb dX4_go_42 (by decide) ?_
        refine lv_iadd (pc := 43) hx hb dX4_go_43 ?_
        refine va_put (pc := 44) (D := D) (ci := 4) (v := .int ((v8.2 8 0) + 1)) (ty := .int) (C := RX4) (T := TX4) (N := 29) hx hb hts inX4_go_X4 tyX4 tyX4_ok nmX4 hown hK.1 hP hD hS 0 rfl rfl 8 (by decide) (hts (.fieldLink RX4 120 "HedgeHolesModel" "went" "I") (by decide +kernel)) (fun _ h9 => h9) rfl (by decide +kernel) (vp_nar_int _) rfl (Nat.le_of_ble_eq_true rfl) dX4_go_44 (fun H locs hP hD hS => ?_)
        have hP : va_P D vwCl (wM cI oM aM (sB v8.2 8 0 ((v8.2 8 0) + 1))) H := hP
        have hD : va_D A (wM cI oM aM (sB v8.2 8 0 ((v8.2 8 0) + 1))) := hD
        obtain ⟨M_11, h12, hf⟩ := bd hf
        have h12 := Option.some.inj h12
        rw [h12] at hP hD
        refine lv_aload_n (pc := 47) hx hb dX4_go_47 rfl (lv_at hl 1 rfl) ?_
        refine va_get (pc := 48) (D := D) (ci := 4) (v := .ref (aM 10)) (C := RX4) (T := TX4) (N := 29) hx hb hts inX4_go_X4 hown hK.1 hP 0 rfl rfl 10 (by decide) (hts (.fieldLink RX4 19 "HedgeHolesModel" "greats" "[I") (by decide +kernel)) (fun _ h9 => h9) rfl dX4_go_48 ?_
        refine lv_aload_n (pc := 51) hx hb dX4_go_51 rfl (lv_at hl 1 rfl) ?_
        refine lv_iload_n (pc := 52) hx hb dX4_go_52 rfl (lv_at hl 0 rfl) ?_
        refine lv_iload_n (pc := 53) hx hb dX4_go_53 rfl (lv_at hl 3 rfl) ?_
        obtain ⟨v13, h14, hf⟩ := bd hf
        refine roVi (pc := 54) (As := [.int (M 13 p0.toNatClampNeg), .int p1]) (rest := [.ref (aM 10)]) CF (mtX4_hedge l D cI cZ cQ oM aM M_11 (M 13 p0.toNatClampNeg) p1 v13 h14) (cwV 2 hts gX4_go_X4_hedge rfl rfl rfl ⟨rfl, hdX4_hedge⟩ ⟨Nat.le_of_ble_eq_true rfl, Nat.le_of_ble_eq_true rfl⟩) hK hP rfl rfl rfl rfl hl.1 rfl (Nat.le_of_ble_eq_true rfl) dX4_go_54 ?_
        obtain ⟨h15, hf⟩ := gI_e hf
        refine va_iald (pc := 57) (f := M_11 10) (n := 10) hx hb hK.1 hP 4 0 rfl rfl h15 dX4_go_57 ?_
        refine lv_aload_n (pc := 58) hx hb dX4_go_58 rfl (lv_at hl 1 rfl) ?_
        refine lv_iload_n (pc := 59) hx hb dX4_go_59 rfl (lv_at hl 2 rfl) ?_
        obtain ⟨v16, h17, hf⟩ := bd hf
        refine roVi (pc := 60) (As := [.int p0]) (rest := [.int (M_11 10 v13.toNatClampNeg)]) CF (mtX4_thickOf l D cI cZ cQ oM aM M_11 p0 v16 h17) (cwV 1 hts gX4_go_X4_thickOf rfl rfl rfl ⟨rfl, hdX4_thickOf⟩ ⟨Nat.le_of_ble_eq_true rfl, Nat.le_of_ble_eq_true rfl⟩) hK hP rfl rfl rfl rfl hl.1 rfl (Nat.le_of_ble_eq_true rfl) dX4_go_60 ?_
        refine lv_isub (pc := 63) hx hb dX4_go_63 ?_
        obtain rfl := Option.some.inj hf
        exact hRet 64 ls H locs (vp_nar_int _) dX4_go_64 hP hS
      · have hf := iT c10 hf
        refine lv_bipush (pc := 34) (v := (-3)) hx hb dX4_go_34 (by decide) ?_
        obtain rfl := Option.some.inj hf
        exact hRet 36 ls H locs (vp_nar_int _) dX4_go_36 hP hS
    · have hf := iT c6 hf
      refine lv_iconst (pc := 16) (v := (-1)) hx hb dX4_go_16 (by decide) ?_
      obtain rfl := Option.some.inj hf
      exact hRet 17 ls s.heap [] (vp_nar_int _) dX4_go_17 hP hS
theorem hdX4_go : yX4_go.cls ≠ "java/lang/invoke/MethodHandle" ∧ yX4_go.cls ≠ "java/lang/invoke/VarHandle" ∧ (parseMethodDescriptor yX4_go.desc).map (fun d => d.parameters.length) = some 2 := by decide +kernel
abbrev rmX4_oneYear : Room := { frames := 2, cells := 0, slots := 0, locals := 40 }
theorem inX4_oneYear_X4 : ∀ w ∈ wsX40, w ∈ wsX4_oneYear := fun _ h => List.mem_cons_of_mem _ (List.mem_append_right _ h)
set_option maxHeartbeats 4000000 in
set_option maxRecDepth 100000 in
theorem mtX4_oneYear (l : Launch) (D : va_G) (cI cZ cQ : ClassId) (oM : Nat) (aM : Nat → Nat) (M : Bk)  (sz : Nat) (out : Bk) (hf : fX4_oneYear M = some out) : Met l yX4_oneYear wsX4_oneYear rmX4_oneYear (WrP D cI cZ cQ [.ref oM] (wM cI oM aM M) sz) (WrQv D (wM cI oM aM M) (wM cI oM aM out) sz) 0 0 (va_A (wM cI oM aM M) sz) := by
  refine metWv (cc := cX4_oneYear) (maxL := 3) (by decide) rfl (Nat.le_of_ble_eq_true rfl) ?_
  intro p e s m args below meth c Q A CF hK hP hD hA hRet ls hl
  obtain ⟨hx, hb, hml, hown, hts⟩ := id CF
  have hS : va_S A s.heap s.heap [] := va_S.rf
  have hl : lv_has ls 3 [(0, .ref oM)] := hl
  unfold fX4_oneYear at hf
  refine lv_iconst (pc := 0) (v := 0) hx hb dX4_oneYear_0 (by decide) ?_
  refine lv_istore_n (pc := 1) (lv' := [(1, .int 0), (0, .ref oM)]) hx hb dX4_oneYear_1 rfl hl (by decide) rfl (fun ls hl => ?_)
  refine zl2 (G := FX4_oneYear_2 ) (fun x1_1 M_2 => ∀ (ls : Array Slot) (H : Heap) (locs : List Loc), lv_has ls 3 [(0, .ref oM), (1, .int x1_1)] → va_P D vwCl (wM cI oM aM M_2) H → va_D A (wM cI oM aM M_2) → va_S A s.heap H locs → W p l e rmX4_oneYear s m args below meth c H locs 0 0 Q (F0 m 2 ls [])) (fun x1_3 M_4 => ∀ (ls : Array Slot) (H : Heap) (locs : List Loc), lv_has ls 3 [(0, .ref oM), (1, .int x1_3)] → va_P D vwCl (wM cI oM aM M_4) H → va_D A (wM cI oM aM M_4) → va_S A s.heap H locs → W p l e rmX4_oneYear s m args below meth c H locs 0 0 Q (F0 m 73 ls [])) hf (fun x1_3 M_4 hf => ?_) (fun kx slf hkx hslf x1_1 M_2 hf => ?_) ls s.heap [] (lv_sub hl [1, 0] rfl) hP hD hS
  · intro ls H locs hl hP hD hS
    refine lv_aload_n (pc := 73) hx hb dX4_oneYear_73 rfl (lv_at hl 0 rfl) ?_
    refine lv_iconst (pc := 74) (v := 0) hx hb dX4_oneYear_74 (by decide) ?_
    refine va_put (pc := 75) (D := D) (ci := 4) (v := .int 0) (ty := .int) (C := RX4) (T := TX4) (N := 29) hx hb hts inX4_oneYear_X4 tyX4 tyX4_ok nmX4 hown hK.1 hP hD hS 0 rfl rfl 9 (by decide) (hts (.fieldLink RX4 114 "HedgeHolesModel" "worn" "I") (by decide +kernel)) (fun _ h9 => h9) rfl (by decide +kernel) (vp_nar_int _) rfl (Nat.le_of_ble_eq_true rfl) dX4_oneYear_75 (fun H locs hP hD hS => ?_)
    have hP : va_P D vwCl (wM cI oM aM (sB M_4 9 0 0)) H := hP
    have hD : va_D A (wM cI oM aM (sB M_4 9 0 0)) := hD
    obtain ⟨M_22, h23, hf⟩ := bd hf
    have h23 := Option.some.inj h23
    rw [h23] at hP hD
    obtain rfl := Option.some.inj hf
    exact hRet 78 ls H locs dX4_oneYear_78 hP hS
  · unfold FX4_oneYear_2 at hf
    intro ls H locs hl hP hD hS
    refine lv_iload_n (pc := 2) hx hb dX4_oneYear_2 rfl (lv_at hl 1 rfl) ?_
    refine lv_aload_n (pc := 3) hx hb dX4_oneYear_3 rfl (lv_at hl 0 rfl) ?_
    obtain ⟨v5, h6, hf⟩ := bd hf
    refine roVi (pc := 4) (As := []) (rest := [.int x1_1]) CF (mtX4_hedges l D cI cZ cQ oM aM M_2 v5 h6) (cwV 0 hts gX4_oneYear_X4_hedges rfl rfl rfl ⟨rfl, hdX4_hedges⟩ ⟨Nat.le_of_ble_eq_true rfl, Nat.le_of_ble_eq_true rfl⟩) hK hP rfl rfl rfl rfl hl.1 rfl (Nat.le_of_ble_eq_true rfl) dX4_oneYear_4 ?_
    refine lv_icmp_ge (pc := 7) (tgt := 73) hx hb dX4_oneYear_7 (by decide) (fun c7 => ?_) (fun c7 => ?_)
    · have hf := iT c7 hf
      exact hkx _ _ hf ls H locs (lv_sub hl [0, 1] rfl) hP hD hS
    · have hf := iF c7 hf
      refine lv_aload_n (pc := 10) hx hb dX4_oneYear_10 rfl (lv_at hl 0 rfl) ?_
      refine va_get (pc := 11) (D := D) (ci := 4) (v := .int (M_2 9 0)) (C := RX4) (T := TX4) (N := 29) hx hb hts inX4_oneYear_X4 hown hK.1 hP 0 rfl rfl 9 (by decide) (hts (.fieldLink RX4 114 "HedgeHolesModel" "worn" "I") (by decide +kernel)) (fun _ h9 => h9) rfl dX4_oneYear_11 ?_
      refine lv_iload_n (pc := 14) hx hb dX4_oneYear_14 rfl (lv_at hl 1 rfl) ?_
      obtain ⟨v8, h9, hf⟩ := bd hf
      refine roSi (pc := 15) (As := [.int (M_2 9 0), .int x1_1]) (rest := []) CF (mtX4_isOf l D cI cZ cQ (M_2 9 0) x1_1 v8 h9) (va_cwS 2 hts gX4_oneYear_X4_isOf rfl rfl rfl hdX4_isOf ⟨Nat.le_of_ble_eq_true rfl, Nat.le_of_ble_eq_true rfl⟩) hK P0 rfl hl.1 rfl (Nat.le_of_ble_eq_true rfl) dX4_oneYear_15 ?_
      obtain ⟨v10, hv, hf⟩ := bd hf
      have J11 : ∀ (ls : Array Slot), lv_has ls 3 [(0, .ref oM), (1, .int x1_1)] → W p l e rmX4_oneYear s m args below meth c H locs 0 0 Q (F0 m 40 ls [.int v10]) := by
        intro ls hl
        refine lv_istore_n (pc := 40) (lv' := [(2, .int v10), (0, .ref oM), (1, .int x1_1)]) hx hb dX4_oneYear_40 rfl hl (by decide) rfl (fun ls hl => ?_)
        refine lv_aload_n (pc := 41) hx hb dX4_oneYear_41 rfl (lv_at hl 1 rfl) ?_
        refine va_get (pc := 42) (D := D) (ci := 4) (v := .ref (aM 10)) (C := RX4) (T := TX4) (N := 29) hx hb hts inX4_oneYear_X4 hown hK.1 hP 0 rfl rfl 10 (by decide) (hts (.fieldLink RX4 19 "HedgeHolesModel" "greats" "[I") (by decide +kernel)) (fun _ h9 => h9) rfl dX4_oneYear_42 ?_
        refine lv_iload_n (pc := 45) hx hb dX4_oneYear_45 rfl (lv_at hl 2 rfl) ?_
        refine lv_iload_n (pc := 46) hx hb dX4_oneYear_46 rfl (lv_at hl 0 rfl) ?_
        refine lv_bipush (pc := 47) (v := 9) hx hb dX4_oneYear_47 (by decide) ?_
        obtain ⟨v12, hv, hf⟩ := bd hf
        have J13 : ∀ (ls : Array Slot), lv_has ls 3 [(0, .ref oM), (1, .int x1_1), (2, .int v10)] → W p l e rmX4_oneYear s m args below meth c H locs 0 0 Q (F0 m 66 ls [.int v12, .int x1_1, .ref (aM 10)]) := by
          intro ls hl
          obtain ⟨h14, hf⟩ := gI_e hf
          refine va_iast (pc := 66) (f := M_2 10) (n := 10) hx hb hK.1 hP hD hS 4 0 rfl rfl h14 dX4_oneYear_66 (fun H locs hP hD hS => ?_)
          have hP : va_P D vwCl (wM cI oM aM (sB M_2 10 x1_1.toNatClampNeg v12)) H := hP
          have hD : va_D A (wM cI oM aM (sB M_2 10 x1_1.toNatClampNeg v12)) := hD
          obtain ⟨M_15, h16, hf⟩ := bd hf
          have h16 := Option.some.inj h16
          rw [h16] at hP hD
          refine lv_iinc (pc := 67) (v := (x1_1 + 1)) (lv' := [(1, .int (x1_1 + 1)), (0, .ref oM), (2, .int v10)]) hx hb dX4_oneYear_67 hl (k := 1) rfl rfl (by decide) rfl (fun ls hl => ?_)
          refine lv_goto (pc := 70) (tgt := 2) hx hb dX4_oneYear_70 (by decide) ?_
          exact hslf _ _ hf ls H locs (lv_sub hl [1, 0] rfl) hP hD hS
        clear hf
        have hf := hv
        clear hv
        refine lv_icmp_le (pc := 49) (tgt := 57) hx hb dX4_oneYear_49 (by decide) (fun c17 => ?_) (fun c17 => ?_)
        · have hf := iT c17 hf
          refine lv_iload_n (pc := 57) hx hb dX4_oneYear_57 rfl (lv_at hl 0 rfl) ?_
          refine lv_if_ge (pc := 58) (tgt := 65) hx hb dX4_oneYear_58 (by decide) (fun c18 => ?_) (fun c18 => ?_)
          · have hf := iT c18 hf
            refine lv_iload_n (pc := 65) hx hb dX4_oneYear_65 rfl (lv_at hl 0 rfl) ?_
            obtain rfl := Option.some.inj hf
            exact J13 ls (lv_sub hl [1, 2, 0] rfl)
          · have hf := iF c18 hf
            refine lv_iconst (pc := 61) (v := 0) hx hb dX4_oneYear_61 (by decide) ?_
            refine lv_goto (pc := 62) (tgt := 66) hx hb dX4_oneYear_62 (by decide) ?_
            obtain rfl := Option.some.inj hf
            exact J13 ls (lv_sub hl [1, 2, 0] rfl)
        · have hf := iF c17 hf
          refine lv_bipush (pc := 52) (v := 9) hx hb dX4_oneYear_52 (by decide) ?_
          refine lv_goto (pc := 54) (tgt := 66) hx hb dX4_oneYear_54 (by decide) ?_
          obtain rfl := Option.some.inj hf
          exact J13 ls (lv_sub hl [1, 2, 0] rfl)
      clear hf
      have hf := hv
      clear hv
      refine lv_if_eq (pc := 18) (tgt := 32) hx hb dX4_oneYear_18 (by decide) (fun c19 => ?_) (fun c19 => ?_)
      · have hf := iT c19 hf
        refine lv_aload_n (pc := 32) hx hb dX4_oneYear_32 rfl (lv_at hl 0 rfl) ?_
        refine va_get (pc := 33) (D := D) (ci := 4) (v := .ref (aM 10)) (C := RX4) (T := TX4) (N := 29) hx hb hts inX4_oneYear_X4 hown hK.1 hP 0 rfl rfl 10 (by decide) (hts (.fieldLink RX4 19 "HedgeHolesModel" "greats" "[I") (by decide +kernel)) (fun _ h9 => h9) rfl dX4_oneYear_33 ?_
        refine lv_iload_n (pc := 36) hx hb dX4_oneYear_36 rfl (lv_at hl 1 rfl) ?_
        obtain ⟨h20, hf⟩ := gI_e hf
        refine va_iald (pc := 37) (f := M_2 10) (n := 10) hx hb hK.1 hP 4 0 rfl rfl h20 dX4_oneYear_37 ?_
        refine lv_iconst (pc := 38) (v := 1) hx hb dX4_oneYear_38 (by decide) ?_
        refine lv_isub (pc := 39) hx hb dX4_oneYear_39 ?_
        obtain rfl := Option.some.inj hf
        exact J11 ls (lv_sub hl [0, 1] rfl)
      · have hf := iF c19 hf
        refine lv_aload_n (pc := 21) hx hb dX4_oneYear_21 rfl (lv_at hl 0 rfl) ?_
        refine va_get (pc := 22) (D := D) (ci := 4) (v := .ref (aM 10)) (C := RX4) (T := TX4) (N := 29) hx hb hts inX4_oneYear_X4 hown hK.1 hP 0 rfl rfl 10 (by decide) (hts (.fieldLink RX4 19 "HedgeHolesModel" "greats" "[I") (by decide +kernel)) (fun _ h9 => h9) rfl dX4_oneYear_22 ?_
        refine lv_iload_n (pc := 25) hx hb dX4_oneYear_25 rfl (lv_at hl 1 rfl) ?_
        obtain ⟨h21, hf⟩ := gI_e hf
        refine va_iald (pc := 26) (f := M_2 10) (n := 10) hx hb hK.1 hP 4 0 rfl rfl h21 dX4_oneYear_26 ?_
        refine lv_iconst (pc := 27) (v := 1) hx hb dX4_oneYear_27 (by decide) ?_
        refine lv_iadd (pc := 28) hx hb dX4_oneYear_28 ?_
        refine lv_goto (pc := 29) (tgt := 40) hx hb dX4_oneYear_29 (by decide) ?_
        obtain rfl := Option.some.inj hf
        exact J11 ls (lv_sub hl [0, 1] rfl)
theorem hdX4_oneYear : yX4_oneYear.cls ≠ "java/lang/invoke/MethodHandle" ∧ yX4_oneYear.cls ≠ "java/lang/invoke/VarHandle" ∧ (parseMethodDescriptor yX4_oneYear.desc).map (fun d => d.parameters.length) = some 0 := by decide +kernel
abbrev rmX4_holesNow : Room := { frames := 2, cells := 0, slots := 0, locals := 40 }
theorem inX4_holesNow_X4 : ∀ w ∈ wsX40, w ∈ wsX4_holesNow := fun _ h => List.mem_cons_of_mem _ (List.mem_append_right _ h)
set_option maxHeartbeats 4000000 in
set_option maxRecDepth 100000 in
theorem mtX4_holesNow (l : Launch) (D : va_G) (cI cZ cQ : ClassId) (oM : Nat) (aM : Nat → Nat) (M : Bk)  (out : Int32) (hf : fX4_holesNow M = some out) : Met l yX4_holesNow wsX4_holesNow rmX4_holesNow (RoP D cI cZ cQ [.ref oM] (wM cI oM aM M)) (vp_Si (fun r' => r' = out)) 0 0 (fun _ => False) := by
  refine metRi (ty := .int) (cc := cX4_holesNow) (maxL := 3) (by decide) rfl (Nat.le_of_ble_eq_true rfl) ?_
  intro p e s m args below meth c Q CF hK hP hRet ls hl
  obtain ⟨hx, hb, hml, hown, hts⟩ := id CF
  have hl : lv_has ls 3 [(0, .ref oM)] := hl
  unfold fX4_holesNow at hf
  refine lv_iconst (pc := 0) (v := 0) hx hb dX4_holesNow_0 (by decide) ?_
  refine lv_istore_n (pc := 1) (lv' := [(1, .int 0), (0, .ref oM)]) hx hb dX4_holesNow_1 rfl hl (by decide) rfl (fun ls hl => ?_)
  refine lv_iconst (pc := 2) (v := 0) hx hb dX4_holesNow_2 (by decide) ?_
  refine lv_istore_n (pc := 3) (lv' := [(2, .int 0), (1, .int 0), (0, .ref oM)]) hx hb dX4_holesNow_3 rfl hl (by decide) rfl (fun ls hl => ?_)
  refine zl2 (G := FX4_holesNow_4 M) (fun x1_1 x2_2 => ∀ (ls : Array Slot), lv_has ls 3 [(0, .ref oM), (1, .int x1_1), (2, .int x2_2)] → W p l e rmX4_holesNow s m args below meth c s.heap [] 0 0 Q (F0 m 4 ls [])) (fun x1_3 x2_4 => ∀ (ls : Array Slot), lv_has ls 3 [(0, .ref oM), (1, .int x1_3), (2, .int x2_4)] → W p l e rmX4_holesNow s m args below meth c s.heap [] 0 0 Q (F0 m 35 ls [])) hf (fun x1_3 x2_4 hf => ?_) (fun kx slf hkx hslf x1_1 x2_2 hf => ?_) ls (lv_sub hl [2, 1, 0] rfl)
  · intro ls hl
    refine lv_iload_n (pc := 35) hx hb dX4_holesNow_35 rfl (lv_at hl 1 rfl) ?_
    obtain rfl := Option.some.inj hf
    exact hRet 36 ls (vp_nar_int _) dX4_holesNow_36
  · unfold FX4_holesNow_4 at hf
    intro ls hl
    refine lv_iload_n (pc := 4) hx hb dX4_holesNow_4 rfl (lv_at hl 2 rfl) ?_
    refine lv_aload_n (pc := 5) hx hb dX4_holesNow_5 rfl (lv_at hl 0 rfl) ?_
    obtain ⟨v5, h6, hf⟩ := bd hf
    refine roVi (pc := 6) (As := []) (rest := [.int x2_2]) CF (mtX4_hedges l D cI cZ cQ oM aM M v5 h6) (cwV 0 hts gX4_holesNow_X4_hedges rfl rfl rfl ⟨rfl, hdX4_hedges⟩ ⟨Nat.le_of_ble_eq_true rfl, Nat.le_of_ble_eq_true rfl⟩) hK hP rfl rfl rfl rfl hl.1 rfl (Nat.le_of_ble_eq_true rfl) dX4_holesNow_6 ?_
    refine lv_icmp_ge (pc := 9) (tgt := 35) hx hb dX4_holesNow_9 (by decide) (fun c7 => ?_) (fun c7 => ?_)
    · have hf := iT c7 hf
      exact hkx _ _ hf ls (lv_sub hl [0, 1, 2] rfl)
    · have hf := iF c7 hf
      refine lv_iload_n (pc := 12) hx hb dX4_holesNow_12 rfl (lv_at hl 1 rfl) ?_
      refine lv_aload_n (pc := 13) hx hb dX4_holesNow_13 rfl (lv_at hl 0 rfl) ?_
      refine va_get (pc := 14) (D := D) (ci := 4) (v := .ref (aM 10)) (C := RX4) (T := TX4) (N := 29) hx hb hts inX4_holesNow_X4 hown hK.1 hP 0 rfl rfl 10 (by decide) (hts (.fieldLink RX4 19 "HedgeHolesModel" "greats" "[I") (by decide +kernel)) (fun _ h9 => h9) rfl dX4_holesNow_14 ?_
      refine lv_iload_n (pc := 17) hx hb dX4_holesNow_17 rfl (lv_at hl 2 rfl) ?_
      obtain ⟨h8, hf⟩ := gI_e hf
      refine va_iald (pc := 18) (f := M 10) (n := 10) hx hb hK.1 hP 4 0 rfl rfl h8 dX4_holesNow_18 ?_
      obtain ⟨v9, hv, hf⟩ := bd hf
      have J10 : ∀ (ls : Array Slot), lv_has ls 3 [(0, .ref oM), (1, .int x1_1), (2, .int x2_2)] → W p l e rmX4_holesNow s m args below meth c s.heap [] 0 0 Q (F0 m 27 ls [.int v9, .int x1_1]) := by
        intro ls hl
        refine lv_iadd (pc := 27) hx hb dX4_holesNow_27 ?_
        refine lv_istore_n (pc := 28) (lv' := [(1, .int (x1_1 + v9)), (0, .ref oM), (2, .int x2_2)]) hx hb dX4_holesNow_28 rfl hl (by decide) rfl (fun ls hl => ?_)
        refine lv_iinc (pc := 29) (v := (x2_2 + 1)) (lv' := [(2, .int (x2_2 + 1)), (1, .int (x1_1 + v9)), (0, .ref oM)]) hx hb dX4_holesNow_29 hl (k := 2) rfl rfl (by decide) rfl (fun ls hl => ?_)
        refine lv_goto (pc := 32) (tgt := 4) hx hb dX4_holesNow_32 (by decide) ?_
        exact hslf _ _ hf ls (lv_sub hl [2, 1, 0] rfl)
      clear hf
      have hf := hv
      clear hv
      refine lv_if_le (pc := 19) (tgt := 26) hx hb dX4_holesNow_19 (by decide) (fun c11 => ?_) (fun c11 => ?_)
      · have hf := iT c11 hf
        refine lv_iconst (pc := 26) (v := 0) hx hb dX4_holesNow_26 (by decide) ?_
        obtain rfl := Option.some.inj hf
        exact J10 ls (lv_sub hl [0, 1, 2] rfl)
      · have hf := iF c11 hf
        refine lv_iconst (pc := 22) (v := 1) hx hb dX4_holesNow_22 (by decide) ?_
        refine lv_goto (pc := 23) (tgt := 27) hx hb dX4_holesNow_23 (by decide) ?_
        obtain rfl := Option.some.inj hf
        exact J10 ls (lv_sub hl [0, 1, 2] rfl)
theorem hdX4_holesNow : yX4_holesNow.cls ≠ "java/lang/invoke/MethodHandle" ∧ yX4_holesNow.cls ≠ "java/lang/invoke/VarHandle" ∧ (parseMethodDescriptor yX4_holesNow.desc).map (fun d => d.parameters.length) = some 0 := by decide +kernel
abbrev rmX4_years : Room := { frames := 3, cells := 0, slots := 0, locals := 62 }
theorem inX4_years_X4 : ∀ w ∈ wsX40, w ∈ wsX4_years := fun _ h => List.mem_cons_of_mem _ (List.mem_append_right _ h)
set_option maxHeartbeats 4000000 in
set_option maxRecDepth 100000 in
theorem mtX4_years (l : Launch) (D : va_G) (cI cZ cQ : ClassId) (oM : Nat) (aM : Nat → Nat) (M : Bk) (p0 : Int32) (sz : Nat) (out : (Int32 × Bk)) (hf : fX4_years M p0 = some out) : Met l yX4_years wsX4_years rmX4_years (WrP D cI cZ cQ [.ref oM, .int p0] (wM cI oM aM M) sz) (WrQi D out.1 (wM cI oM aM M) (wM cI oM aM out.2) sz) 0 0 (va_A (wM cI oM aM M) sz) := by
  refine metWi (ty := .int) (cc := cX4_years) (maxL := 3) (by decide) rfl (Nat.le_of_ble_eq_true rfl) ?_
  intro p e s m args below meth c Q A CF hK hP hD hA hRet ls hl
  obtain ⟨hx, hb, hml, hown, hts⟩ := id CF
  have hS : va_S A s.heap s.heap [] := va_S.rf
  have hl : lv_has ls 3 [(0, .ref oM), (1, .int p0)] := hl
  unfold fX4_years at hf
  refine lv_iload_n (pc := 0) hx hb dX4_years_0 rfl (lv_at hl 1 rfl) ?_
  refine lv_iconst (pc := 1) (v := 1) hx hb dX4_years_1 (by decide) ?_
  refine lv_bipush (pc := 2) (v := 60) hx hb dX4_years_2 (by decide) ?_
  obtain ⟨v1, h2, hf⟩ := bd hf
  refine roSi (pc := 4) (As := [.int p0, .int 1, .int 60]) (rest := []) CF (mtX4_within l D cI cZ cQ p0 1 60 v1 h2) (va_cwS 3 hts gX4_years_X4_within rfl rfl rfl hdX4_within ⟨Nat.le_of_ble_eq_true rfl, Nat.le_of_ble_eq_true rfl⟩) hK P0 rfl hl.1 rfl (Nat.le_of_ble_eq_true rfl) dX4_years_4 ?_
  refine lv_if_ne (pc := 7) (tgt := 13) hx hb dX4_years_7 (by decide) (fun c3 => ?_) (fun c3 => ?_)
  · have hf := iF c3 hf
    refine lv_aload_n (pc := 13) hx hb dX4_years_13 rfl (lv_at hl 0 rfl) ?_
    refine va_get (pc := 14) (D := D) (ci := 4) (v := .int (M 5 0)) (C := RX4) (T := TX4) (N := 29) hx hb hts inX4_years_X4 hown hK.1 hP 0 rfl rfl 5 (by decide) (hts (.fieldLink RX4 68 "HedgeHolesModel" "fields" "I") (by decide +kernel)) (fun _ h9 => h9) rfl dX4_years_14 ?_
    refine lv_if_ne (pc := 17) (tgt := 23) hx hb dX4_years_17 (by decide) (fun c4 => ?_) (fun c4 => ?_)
    · have hf := iF c4 hf
      refine lv_iconst (pc := 23) (v := 0) hx hb dX4_years_23 (by decide) ?_
      refine lv_istore_n (pc := 24) (lv' := [(2, .int 0), (0, .ref oM), (1, .int p0)]) hx hb dX4_years_24 rfl hl (by decide) rfl (fun ls hl => ?_)
      refine zl2 (G := FX4_years_25 p0) (fun x2_5 M_6 => ∀ (ls : Array Slot) (H : Heap) (locs : List Loc), lv_has ls 3 [(0, .ref oM), (1, .int p0), (2, .int x2_5)] → va_P D vwCl (wM cI oM aM M_6) H → va_D A (wM cI oM aM M_6) → va_S A s.heap H locs → W p l e rmX4_years s m args below meth c H locs 0 0 Q (F0 m 25 ls [])) (fun x2_7 M_8 => ∀ (ls : Array Slot) (H : Heap) (locs : List Loc), lv_has ls 3 [(0, .ref oM), (1, .int p0), (2, .int x2_7)] → va_P D vwCl (wM cI oM aM M_8) H → va_D A (wM cI oM aM M_8) → va_S A s.heap H locs → W p l e rmX4_years s m args below meth c H locs 0 0 Q (F0 m 40 ls [])) hf (fun x2_7 M_8 hf => ?_) (fun kx slf hkx hslf x2_5 M_6 hf => ?_) ls s.heap [] (lv_sub hl [1, 2, 0] rfl) hP hD hS
      · intro ls H locs hl hP hD hS
        refine lv_aload_n (pc := 40) hx hb dX4_years_40 rfl (lv_at hl 0 rfl) ?_
        refine lv_dup (pc := 41) hx hb dX4_years_41 rfl ?_
        refine va_get (pc := 42) (D := D) (ci := 4) (v := .int (M_8 7 0)) (C := RX4) (T := TX4) (N := 29) hx hb hts inX4_years_X4 hown hK.1 hP 0 rfl rfl 7 (by decide) (hts (.fieldLink RX4 117 "HedgeHolesModel" "year" "I") (by decide +kernel)) (fun _ h9 => h9) rfl dX4_years_42 ?_
        refine lv_iload_n (pc := 45) hx hb dX4_years_45 rfl (lv_at hl 1 rfl) ?_
        refine lv_iadd (pc := 46) hx hb dX4_years_46 ?_
        refine va_put (pc := 47) (D := D) (ci := 4) (v := .int ((M_8 7 0) + p0)) (ty := .int) (C := RX4) (T := TX4) (N := 29) hx hb hts inX4_years_X4 tyX4 tyX4_ok nmX4 hown hK.1 hP hD hS 0 rfl rfl 7 (by decide) (hts (.fieldLink RX4 117 "HedgeHolesModel" "year" "I") (by decide +kernel)) (fun _ h9 => h9) rfl (by decide +kernel) (vp_nar_int _) rfl (Nat.le_of_ble_eq_true rfl) dX4_years_47 (fun H locs hP hD hS => ?_)
        have hP : va_P D vwCl (wM cI oM aM (sB M_8 7 0 ((M_8 7 0) + p0))) H := hP
        have hD : va_D A (wM cI oM aM (sB M_8 7 0 ((M_8 7 0) + p0))) := hD
        obtain ⟨M_12, h13, hf⟩ := bd hf
        have h13 := Option.some.inj h13
        rw [h13] at hP hD
        refine lv_aload_n (pc := 50) hx hb dX4_years_50 rfl (lv_at hl 0 rfl) ?_
        obtain ⟨v14, h15, hf⟩ := bd hf
        refine roVi (pc := 51) (As := []) (rest := []) CF (mtX4_holesNow l D cI cZ cQ oM aM M_12 v14 h15) (cwV 0 hts gX4_years_X4_holesNow rfl rfl rfl ⟨rfl, hdX4_holesNow⟩ ⟨Nat.le_of_ble_eq_true rfl, Nat.le_of_ble_eq_true rfl⟩) hK hP rfl rfl rfl rfl hl.1 rfl (Nat.le_of_ble_eq_true rfl) dX4_years_51 ?_
        obtain rfl := Option.some.inj hf
        exact hRet 54 ls H locs (vp_nar_int _) dX4_years_54 hP hS
      · unfold FX4_years_25 at hf
        intro ls H locs hl hP hD hS
        refine lv_iload_n (pc := 25) hx hb dX4_years_25 rfl (lv_at hl 2 rfl) ?_
        refine lv_iload_n (pc := 26) hx hb dX4_years_26 rfl (lv_at hl 1 rfl) ?_
        refine lv_icmp_ge (pc := 27) (tgt := 40) hx hb dX4_years_27 (by decide) (fun c9 => ?_) (fun c9 => ?_)
        · have hf := iT c9 hf
          exact hkx _ _ hf ls H locs (lv_sub hl [0, 1, 2] rfl) hP hD hS
        · have hf := iF c9 hf
          refine lv_aload_n (pc := 30) hx hb dX4_years_30 rfl (lv_at hl 0 rfl) ?_
          obtain ⟨v10, h11, hf⟩ := bd hf
          refine wsVv (pc := 31) (As := []) (rest := []) (w1 := wM cI oM aM v10) CF (mtX4_oneYear l D cI cZ cQ oM aM M_6 H.size v10 h11) (cwV 0 hts gX4_years_X4_oneYear rfl rfl rfl ⟨rfl, hdX4_oneYear⟩ ⟨Nat.le_of_ble_eq_true rfl, Nat.le_of_ble_eq_true rfl⟩) hK hP hD hS hA rfl rfl rfl rfl rfl hl.1 rfl (Nat.le_of_ble_eq_true rfl) dX4_years_31 (fun H locs hP hD hS => ?_)
          refine lv_iinc (pc := 34) (v := (x2_5 + 1)) (lv' := [(2, .int (x2_5 + 1)), (0, .ref oM), (1, .int p0)]) hx hb dX4_years_34 hl (k := 2) rfl rfl (by decide) rfl (fun ls hl => ?_)
          refine lv_goto (pc := 37) (tgt := 25) hx hb dX4_years_37 (by decide) ?_
          exact hslf _ _ hf ls H locs (lv_sub hl [1, 2, 0] rfl) hP hD hS
    · have hf := iT c4 hf
      refine lv_bipush (pc := 20) (v := (-3)) hx hb dX4_years_20 (by decide) ?_
      obtain rfl := Option.some.inj hf
      exact hRet 22 ls s.heap [] (vp_nar_int _) dX4_years_22 hP hS
  · have hf := iT c3 hf
    refine lv_bipush (pc := 10) (v := (-2)) hx hb dX4_years_10 (by decide) ?_
    obtain rfl := Option.some.inj hf
    exact hRet 12 ls s.heap [] (vp_nar_int _) dX4_years_12 hP hS
theorem hdX4_years : yX4_years.cls ≠ "java/lang/invoke/MethodHandle" ∧ yX4_years.cls ≠ "java/lang/invoke/VarHandle" ∧ (parseMethodDescriptor yX4_years.desc).map (fun d => d.parameters.length) = some 1 := by decide +kernel
abbrev rmX4_stop : Room := { frames := 2, cells := 0, slots := 0, locals := 43 }
theorem inX4_stop_X4 : ∀ w ∈ wsX40, w ∈ wsX4_stop := fun _ h => List.mem_cons_of_mem _ (List.mem_append_right _ h)
set_option maxHeartbeats 4000000 in
set_option maxRecDepth 100000 in
theorem mtX4_stop (l : Launch) (D : va_G) (cI cZ cQ : ClassId) (oM : Nat) (aM : Nat → Nat) (M : Bk) (p0 : Int32) (p1 : Int32) (sz : Nat) (out : (Int32 × Bk)) (hf : fX4_stop M p0 p1 = some out) : Met l yX4_stop wsX4_stop rmX4_stop (WrP D cI cZ cQ [.ref oM, .int p0, .int p1] (wM cI oM aM M) sz) (WrQi D out.1 (wM cI oM aM M) (wM cI oM aM out.2) sz) 0 0 (va_A (wM cI oM aM M) sz) := by
  refine metWi (ty := .int) (cc := cX4_stop) (maxL := 5) (by decide) rfl (Nat.le_of_ble_eq_true rfl) ?_
  intro p e s m args below meth c Q A CF hK hP hD hA hRet ls hl
  obtain ⟨hx, hb, hml, hown, hts⟩ := id CF
  have hS : va_S A s.heap s.heap [] := va_S.rf
  have hl : lv_has ls 5 [(0, .ref oM), (1, .int p0), (2, .int p1)] := hl
  unfold fX4_stop at hf
  refine lv_aload_n (pc := 0) hx hb dX4_stop_0 rfl (lv_at hl 0 rfl) ?_
  refine lv_iload_n (pc := 1) hx hb dX4_stop_1 rfl (lv_at hl 1 rfl) ?_
  refine lv_iload_n (pc := 2) hx hb dX4_stop_2 rfl (lv_at hl 2 rfl) ?_
  obtain ⟨v1, h2, hf⟩ := bd hf
  refine roVi (pc := 3) (As := [.int p0, .int p1]) (rest := []) CF (mtX4_areTwo l D cI cZ cQ oM aM M p0 p1 v1 h2) (cwV 2 hts gX4_stop_X4_areTwo rfl rfl rfl ⟨rfl, hdX4_areTwo⟩ ⟨Nat.le_of_ble_eq_true rfl, Nat.le_of_ble_eq_true rfl⟩) hK hP rfl rfl rfl rfl hl.1 rfl (Nat.le_of_ble_eq_true rfl) dX4_stop_3 ?_
  refine lv_if_ne (pc := 6) (tgt := 11) hx hb dX4_stop_6 (by decide) (fun c3 => ?_) (fun c3 => ?_)
  · have hf := iF c3 hf
    refine lv_aload_n (pc := 11) hx hb dX4_stop_11 rfl (lv_at hl 0 rfl) ?_
    refine lv_iload_n (pc := 12) hx hb dX4_stop_12 rfl (lv_at hl 1 rfl) ?_
    refine lv_iload_n (pc := 13) hx hb dX4_stop_13 rfl (lv_at hl 2 rfl) ?_
    obtain ⟨v4, h5, hf⟩ := bd hf
    refine roVi (pc := 14) (As := [.int p0, .int p1]) (rest := []) CF (mtX4_hedge l D cI cZ cQ oM aM M p0 p1 v4 h5) (cwV 2 hts gX4_stop_X4_hedge rfl rfl rfl ⟨rfl, hdX4_hedge⟩ ⟨Nat.le_of_ble_eq_true rfl, Nat.le_of_ble_eq_true rfl⟩) hK hP rfl rfl rfl rfl hl.1 rfl (Nat.le_of_ble_eq_true rfl) dX4_stop_14 ?_
    refine lv_istore_n (pc := 17) (lv' := [(3, .int v4), (0, .ref oM), (1, .int p0), (2, .int p1)]) hx hb dX4_stop_17 rfl hl (by decide) rfl (fun ls hl => ?_)
    refine lv_aload_n (pc := 18) hx hb dX4_stop_18 rfl (lv_at hl 1 rfl) ?_
    refine va_get (pc := 19) (D := D) (ci := 4) (v := .ref (aM 10)) (C := RX4) (T := TX4) (N := 29) hx hb hts inX4_stop_X4 hown hK.1 hP 0 rfl rfl 10 (by decide) (hts (.fieldLink RX4 19 "HedgeHolesModel" "greats" "[I") (by decide +kernel)) (fun _ h9 => h9) rfl dX4_stop_19 ?_
    refine lv_iload_n (pc := 22) hx hb dX4_stop_22 rfl (lv_at hl 0 rfl) ?_
    obtain ⟨h6, hf⟩ := gI_e hf
    refine va_iald (pc := 23) (f := M 10) (n := 10) hx hb hK.1 hP 4 0 rfl rfl h6 dX4_stop_23 ?_
    refine lv_if_ne (pc := 24) (tgt := 30) hx hb dX4_stop_24 (by decide) (fun c7 => ?_) (fun c7 => ?_)
    · have hf := iF c7 hf
      refine lv_aload_n (pc := 30) hx hb dX4_stop_30 rfl (lv_at hl 1 rfl) ?_
      refine va_get (pc := 31) (D := D) (ci := 4) (v := .ref (aM 10)) (C := RX4) (T := TX4) (N := 29) hx hb hts inX4_stop_X4 hown hK.1 hP 0 rfl rfl 10 (by decide) (hts (.fieldLink RX4 19 "HedgeHolesModel" "greats" "[I") (by decide +kernel)) (fun _ h9 => h9) rfl dX4_stop_31 ?_
      refine lv_iload_n (pc := 34) hx hb dX4_stop_34 rfl (lv_at hl 0 rfl) ?_
      refine va_iald (pc := 35) (f := M 10) (n := 10) hx hb hK.1 hP 4 0 rfl rfl h6 dX4_stop_35 ?_
      refine lv_istore (pc := 36) (lv' := [(4, .int (M 10 v4.toNatClampNeg)), (3, .int v4), (0, .ref oM), (1, .int p0), (2, .int p1)]) hx hb dX4_stop_36 hl (by decide) rfl (fun ls hl => ?_)
      refine lv_aload_n (pc := 38) hx hb dX4_stop_38 rfl (lv_at hl 2 rfl) ?_
      refine va_get (pc := 39) (D := D) (ci := 4) (v := .ref (aM 10)) (C := RX4) (T := TX4) (N := 29) hx hb hts inX4_stop_X4 hown hK.1 hP 0 rfl rfl 10 (by decide) (hts (.fieldLink RX4 19 "HedgeHolesModel" "greats" "[I") (by decide +kernel)) (fun _ h9 => h9) rfl dX4_stop_39 ?_
      refine lv_iload_n (pc := 42) hx hb dX4_stop_42 rfl (lv_at hl 1 rfl) ?_
      refine lv_bipush (pc := 43) (v := 9) hx hb dX4_stop_43 (by decide) ?_
      refine va_iast (pc := 45) (f := M 10) (n := 10) hx hb hK.1 hP hD hS 4 0 rfl rfl h6 dX4_stop_45 (fun H locs hP hD hS => ?_)
      have hP : va_P D vwCl (wM cI oM aM (sB M 10 v4.toNatClampNeg 9)) H := hP
      have hD : va_D A (wM cI oM aM (sB M 10 v4.toNatClampNeg 9)) := hD
      obtain ⟨M_8, h9, hf⟩ := bd hf
      have h9 := Option.some.inj h9
      rw [h9] at hP hD
      refine lv_iload (pc := 46) hx hb dX4_stop_46 (lv_at hl 0 rfl) ?_
      obtain rfl := Option.some.inj hf
      exact hRet 48 ls H locs (vp_nar_int _) dX4_stop_48 hP hS
    · have hf := iT c7 hf
      refine lv_bipush (pc := 27) (v := (-3)) hx hb dX4_stop_27 (by decide) ?_
      obtain rfl := Option.some.inj hf
      exact hRet 29 ls s.heap [] (vp_nar_int _) dX4_stop_29 hP hS
  · have hf := iT c3 hf
    refine lv_iconst (pc := 9) (v := (-1)) hx hb dX4_stop_9 (by decide) ?_
    obtain rfl := Option.some.inj hf
    exact hRet 10 ls s.heap [] (vp_nar_int _) dX4_stop_10 hP hS
theorem hdX4_stop : yX4_stop.cls ≠ "java/lang/invoke/MethodHandle" ∧ yX4_stop.cls ≠ "java/lang/invoke/VarHandle" ∧ (parseMethodDescriptor yX4_stop.desc).map (fun d => d.parameters.length) = some 2 := by decide +kernel
