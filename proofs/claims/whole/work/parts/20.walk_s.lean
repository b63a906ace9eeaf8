abbrev rmX3_thickness : Room := { frames := 0, cells := 0, slots := 0, locals := 0 }
set_option maxHeartbeats 4000000 in
set_option maxRecDepth 100000 in
theorem mtX3_thickness (l : Launch) (D : va_G) (cI cZ cQ : ClassId)  (p0 : Int32) (p1 : Int32) (out : Int32) (hf : fX3_thickness p0 p1 = some out) : Met l yX3_thickness wsX3_thickness rmX3_thickness (RoP D cI cZ cQ [.int p0, .int p1] ([])) (vp_Si (fun r' => r' = out)) 0 0 (fun _ => False) := by
  refine metRi (ty := .int) (cc := cX3_thickness) (maxL := 2) (by decide) rfl (Nat.le_of_ble_eq_true rfl) ?_
  intro p e s m args below meth c Q CF hK hP hRet ls hl
  obtain ⟨hx, hb, hml, hown, hts⟩ := id CF
  have hl : lv_has ls 2 [(0, .int p0), (1, .int p1)] := hl
  unfold fX3_thickness at hf
  refine lv_iload_n (pc := 0) hx hb dX3_thickness_0 rfl (lv_at hl 0 rfl) ?_
  by_cases c1 : p0 = 1
  · have hf := iT c1 hf
    refine lv_lookup (pc := 1) (tgt := 28) (off := 27) hx hb dX3_thickness_1 (by decide) (by rw [c1]; rfl) (by decide) ?_
    refine lv_iload_n (pc := 28) hx hb dX3_thickness_28 rfl (lv_at hl 1 rfl) ?_
    refine lv_iconst (pc := 29) (v := 1) hx hb dX3_thickness_29 (by decide) ?_
    refine lv_isub (pc := 30) hx hb dX3_thickness_30 ?_
    obtain rfl := Option.some.inj hf
    exact hRet 31 ls (vp_nar_int _) dX3_thickness_31
  · have hf := iF c1 hf
    by_cases c2 : p0 = 2
    · have hf := iT c2 hf
      refine lv_lookup (pc := 1) (tgt := 32) (off := 31) hx hb dX3_thickness_1 (by decide) (by rw [c2]; rfl) (by decide) ?_
      refine lv_iload_n (pc := 32) hx hb dX3_thickness_32 rfl (lv_at hl 1 rfl) ?_
      refine lv_iconst (pc := 33) (v := 2) hx hb dX3_thickness_33 (by decide) ?_
      refine lv_idiv (pc := 34) hx hb dX3_thickness_34 (by decide) ?_
      obtain rfl := Option.some.inj hf
      exact hRet 35 ls (vp_nar_int _) dX3_thickness_35
    · have hf := iF c2 hf
      refine lv_lookup (pc := 1) (tgt := 36) (off := 35) hx hb dX3_thickness_1 (by decide) ((lv_osw c1 rfl).trans ((lv_osw c2 rfl).trans (rfl))) (by decide) ?_
      refine lv_iload_n (pc := 36) hx hb dX3_thickness_36 rfl (lv_at hl 1 rfl) ?_
      obtain rfl := Option.some.inj hf
      exact hRet 37 ls (vp_nar_int _) dX3_thickness_37
theorem hdX3_thickness : yX3_thickness.cls ≠ "java/lang/invoke/MethodHandle" ∧ yX3_thickness.cls ≠ "java/lang/invoke/VarHandle" ∧ (parseMethodDescriptor yX3_thickness.desc).map (fun d => d.parameters.length) = some 2 := by decide +kernel
abbrev rmX3_lets : Room := { frames := 0, cells := 0, slots := 0, locals := 0 }
set_option maxHeartbeats 4000000 in
set_option maxRecDepth 100000 in
theorem mtX3_lets (l : Launch) (D : va_G) (cI cZ cQ : ClassId)  (p0 : Int32) (p1 : Int32) (out : Int32) (hf : fX3_lets p0 p1 = some out) : Met l yX3_lets wsX3_lets rmX3_lets (RoP D cI cZ cQ [.int p0, .int p1] ([])) (vp_Si (fun r' => r' = out)) 0 0 (fun _ => False) := by
  refine metRi (ty := .boolean) (cc := cX3_lets) (maxL := 2) (by decide) rfl (Nat.le_of_ble_eq_true rfl) ?_
  intro p e s m args below meth c Q CF hK hP hRet ls hl
  obtain ⟨hx, hb, hml, hown, hts⟩ := id CF
  have hl : lv_has ls 2 [(0, .int p0), (1, .int p1)] := hl
  unfold fX3_lets at hf
  refine lv_iload_n (pc := 0) hx hb dX3_lets_0 rfl (lv_at hl 0 rfl) ?_
  refine lv_if_le (pc := 1) (tgt := 13) hx hb dX3_lets_1 (by decide) (fun c1 => ?_) (fun c1 => ?_)
  · have hf := iT c1 hf
    refine lv_iconst (pc := 13) (v := 0) hx hb dX3_lets_13 (by decide) ?_
    obtain rfl := Option.some.inj hf
    exact hRet 14 ls (nzB (Or.inl rfl)) dX3_lets_14
  · have hf := iF c1 hf
    refine lv_iload_n (pc := 4) hx hb dX3_lets_4 rfl (lv_at hl 0 rfl) ?_
    refine lv_iload_n (pc := 5) hx hb dX3_lets_5 rfl (lv_at hl 1 rfl) ?_
    refine lv_icmp_lt (pc := 6) (tgt := 13) hx hb dX3_lets_6 (by decide) (fun c2 => ?_) (fun c2 => ?_)
    · have hf := iT c2 hf
      refine lv_iconst (pc := 13) (v := 0) hx hb dX3_lets_13 (by decide) ?_
      obtain rfl := Option.some.inj hf
      exact hRet 14 ls (nzB (Or.inl rfl)) dX3_lets_14
    · have hf := iF c2 hf
      refine lv_iconst (pc := 9) (v := 1) hx hb dX3_lets_9 (by decide) ?_
      refine lv_goto (pc := 10) (tgt := 14) hx hb dX3_lets_10 (by decide) ?_
      obtain rfl := Option.some.inj hf
      exact hRet 14 ls (nzB (Or.inr rfl)) dX3_lets_14
theorem hdX3_lets : yX3_lets.cls ≠ "java/lang/invoke/MethodHandle" ∧ yX3_lets.cls ≠ "java/lang/invoke/VarHandle" ∧ (parseMethodDescriptor yX3_lets.desc).map (fun d => d.parameters.length) = some 2 := by decide +kernel
abbrev rmX3_digit : Room := { frames := 0, cells := 0, slots := 0, locals := 0 }
set_option maxHeartbeats 4000000 in
set_option maxRecDepth 100000 in
theorem mtX3_digit (l : Launch) (D : va_G) (cI cZ cQ : ClassId)  (p0 : Int32) (p1 : Int32) (p2 : Int32) (out : Int32) (hf : fX3_digit p0 p1 p2 = some out) : Met l yX3_digit wsX3_digit rmX3_digit (RoP D cI cZ cQ [.int p0, .int p1, .int p2] ([])) (vp_Si (fun r' => r' = out)) 0 0 (fun _ => False) := by
  refine metRi (ty := .int) (cc := cX3_digit) (maxL := 3) (by decide) rfl (Nat.le_of_ble_eq_true rfl) ?_
  intro p e s m args below meth c Q CF hK hP hRet ls hl
  obtain ⟨hx, hb, hml, hown, hts⟩ := id CF
  have hl : lv_has ls 3 [(0, .int p0), (1, .int p1), (2, .int p2)] := hl
  unfold fX3_digit at hf
  refine lv_iload_n (pc := 0) hx hb dX3_digit_0 rfl (lv_at hl 0 rfl) ?_
  refine lv_bipush (pc := 1) (v := 48) hx hb dX3_digit_1 (by decide) ?_
  refine lv_iload_n (pc := 3) hx hb dX3_digit_3 rfl (lv_at hl 1 rfl) ?_
  refine lv_iadd (pc := 4) hx hb dX3_digit_4 ?_
  refine lv_icmp_lt (pc := 5) (tgt := 23) hx hb dX3_digit_5 (by decide) (fun c1 => ?_) (fun c1 => ?_)
  · have hf := iT c1 hf
    refine lv_bipush (pc := 23) (v := (-9)) hx hb dX3_digit_23 (by decide) ?_
    obtain rfl := Option.some.inj hf
    exact hRet 25 ls (vp_nar_int _) dX3_digit_25
  · have hf := iF c1 hf
    refine lv_iload_n (pc := 8) hx hb dX3_digit_8 rfl (lv_at hl 0 rfl) ?_
    refine lv_bipush (pc := 9) (v := 48) hx hb dX3_digit_9 (by decide) ?_
    refine lv_iload_n (pc := 11) hx hb dX3_digit_11 rfl (lv_at hl 2 rfl) ?_
    refine lv_iadd (pc := 12) hx hb dX3_digit_12 ?_
    refine lv_icmp_gt (pc := 13) (tgt := 23) hx hb dX3_digit_13 (by decide) (fun c2 => ?_) (fun c2 => ?_)
    · have hf := iT c2 hf
      refine lv_bipush (pc := 23) (v := (-9)) hx hb dX3_digit_23 (by decide) ?_
      obtain rfl := Option.some.inj hf
      exact hRet 25 ls (vp_nar_int _) dX3_digit_25
    · have hf := iF c2 hf
      refine lv_iload_n (pc := 16) hx hb dX3_digit_16 rfl (lv_at hl 0 rfl) ?_
      refine lv_bipush (pc := 17) (v := 48) hx hb dX3_digit_17 (by decide) ?_
      refine lv_isub (pc := 19) hx hb dX3_digit_19 ?_
      refine lv_goto (pc := 20) (tgt := 25) hx hb dX3_digit_20 (by decide) ?_
      obtain rfl := Option.some.inj hf
      exact hRet 25 ls (vp_nar_int _) dX3_digit_25
theorem hdX3_digit : yX3_digit.cls ≠ "java/lang/invoke/MethodHandle" ∧ yX3_digit.cls ≠ "java/lang/invoke/VarHandle" ∧ (parseMethodDescriptor yX3_digit.desc).map (fun d => d.parameters.length) = some 3 := by decide +kernel
abbrev rmX0_kindOf : Room := { frames := 0, cells := 0, slots := 0, locals := 0 }
set_option maxHeartbeats 4000000 in
set_option maxRecDepth 100000 in
theorem mtX0_kindOf (l : Launch) (D : va_G) (cI cZ cQ : ClassId)  (p0 : Int32) (out : Int32) (hf : fX0_kindOf p0 = some out) : Met l yX0_kindOf wsX0_kindOf rmX0_kindOf (RoP D cI cZ cQ [.int p0] ([])) (vp_Si (fun r' => r' = out)) 0 0 (fun _ => False) := by
  refine metRi (ty := .int) (cc := cX0_kindOf) (maxL := 1) (by decide) rfl (Nat.le_of_ble_eq_true rfl) ?_
  intro p e s m args below meth c Q CF hK hP hRet ls hl
  obtain ⟨hx, hb, hml, hown, hts⟩ := id CF
  have hl : lv_has ls 1 [(0, .int p0)] := hl
  unfold fX0_kindOf at hf
  refine lv_iload_n (pc := 0) hx hb dX0_kindOf_0 rfl (lv_at hl 0 rfl) ?_
  by_cases c1 : p0 = 99
  · have hf := iT c1 hf
    refine lv_lookup (pc := 1) (tgt := 40) (off := 39) hx hb dX0_kindOf_1 (by decide) (by rw [c1]; rfl) (by decide) ?_
    refine lv_iconst (pc := 40) (v := 2) hx hb dX0_kindOf_40 (by decide) ?_
    obtain rfl := Option.some.inj hf
    exact hRet 41 ls (vp_nar_int _) dX0_kindOf_41
  · have hf := iF c1 hf
    by_cases c2 : p0 = 103
    · have hf := iT c2 hf
      refine lv_lookup (pc := 1) (tgt := 36) (off := 35) hx hb dX0_kindOf_1 (by decide) (by rw [c2]; rfl) (by decide) ?_
      refine lv_iconst (pc := 36) (v := 0) hx hb dX0_kindOf_36 (by decide) ?_
      obtain rfl := Option.some.inj hf
      exact hRet 37 ls (vp_nar_int _) dX0_kindOf_37
    · have hf := iF c2 hf
      by_cases c3 : p0 = 116
      · have hf := iT c3 hf
        refine lv_lookup (pc := 1) (tgt := 38) (off := 37) hx hb dX0_kindOf_1 (by decide) (by rw [c3]; rfl) (by decide) ?_
        refine lv_iconst (pc := 38) (v := 1) hx hb dX0_kindOf_38 (by decide) ?_
        obtain rfl := Option.some.inj hf
        exact hRet 39 ls (vp_nar_int _) dX0_kindOf_39
      · have hf := iF c3 hf
        refine lv_lookup (pc := 1) (tgt := 42) (off := 41) hx hb dX0_kindOf_1 (by decide) ((lv_osw c1 rfl).trans ((lv_osw c2 rfl).trans ((lv_osw c3 rfl).trans (rfl)))) (by decide) ?_
        refine lv_bipush (pc := 42) (v := (-9)) hx hb dX0_kindOf_42 (by decide) ?_
        obtain rfl := Option.some.inj hf
        exact hRet 44 ls (vp_nar_int _) dX0_kindOf_44
theorem hdX0_kindOf : yX0_kindOf.cls ≠ "java/lang/invoke/MethodHandle" ∧ yX0_kindOf.cls ≠ "java/lang/invoke/VarHandle" ∧ (parseMethodDescriptor yX0_kindOf.desc).map (fun d => d.parameters.length) = some 1 := by decide +kernel
abbrev rmX3_isIn : Room := { frames := 0, cells := 0, slots := 0, locals := 0 }
set_option maxHeartbeats 4000000 in
set_option maxRecDepth 100000 in
theorem mtX3_isIn (l : Launch) (D : va_G) (cI cZ cQ : ClassId)  (p0 : Int32) (p1 : Int32) (out : Int32) (hf : fX3_isIn p0 p1 = some out) : Met l yX3_isIn wsX3_isIn rmX3_isIn (RoP D cI cZ cQ [.int p0, .int p1] ([])) (vp_Si (fun r' => r' = out)) 0 0 (fun _ => False) := by
  refine metRi (ty := .boolean) (cc := cX3_isIn) (maxL := 2) (by decide) rfl (Nat.le_of_ble_eq_true rfl) ?_
  intro p e s m args below meth c Q CF hK hP hRet ls hl
  obtain ⟨hx, hb, hml, hown, hts⟩ := id CF
  have hl : lv_has ls 2 [(0, .int p0), (1, .int p1)] := hl
  unfold fX3_isIn at hf
  refine lv_iload_n (pc := 0) hx hb dX3_isIn_0 rfl (lv_at hl 0 rfl) ?_
  refine lv_iload_n (pc := 1) hx hb dX3_isIn_1 rfl (lv_at hl 1 rfl) ?_
  refine lv_ishr (pc := 2) hx hb dX3_isIn_2 ?_
  refine lv_iconst (pc := 3) (v := 1) hx hb dX3_isIn_3 (by decide) ?_
  refine lv_iand (pc := 4) hx hb dX3_isIn_4 ?_
  refine lv_iconst (pc := 5) (v := 1) hx hb dX3_isIn_5 (by decide) ?_
  refine lv_icmp_ne (pc := 6) (tgt := 13) hx hb dX3_isIn_6 (by decide) (fun c1 => ?_) (fun c1 => ?_)
  · have hf := iF c1 hf
    refine lv_iconst (pc := 13) (v := 0) hx hb dX3_isIn_13 (by decide) ?_
    obtain rfl := Option.some.inj hf
    exact hRet 14 ls (nzB (Or.inl rfl)) dX3_isIn_14
  · have hf := iT c1 hf
    refine lv_iconst (pc := 9) (v := 1) hx hb dX3_isIn_9 (by decide) ?_
    refine lv_goto (pc := 10) (tgt := 14) hx hb dX3_isIn_10 (by decide) ?_
    obtain rfl := Option.some.inj hf
    exact hRet 14 ls (nzB (Or.inr rfl)) dX3_isIn_14
theorem hdX3_isIn : yX3_isIn.cls ≠ "java/lang/invoke/MethodHandle" ∧ yX3_isIn.cls ≠ "java/lang/invoke/VarHandle" ∧ (parseMethodDescriptor yX3_isIn.desc).map (fun d => d.parameters.length) = some 2 := by decide +kernel
abbrev rmJ6_bitCount_0f7a4 : Room := { frames := 0, cells := 0, slots := 0, locals := 0 }
set_option maxHeartbeats 4000000 in
set_option maxRecDepth 100000 in
theorem mtJ6_bitCount_0f7a4 (l : Launch) (D : va_G) (cI cZ cQ : ClassId)  (p0 : Int32) (out : Int32) (hf : fJ6_bitCount_0f7a4 p0 = some out) : Met l yJ6_bitCount_0f7a4 wsJ6_bitCount_0f7a4 rmJ6_bitCount_0f7a4 (RoP D cI cZ cQ [.int p0] ([])) (vp_Si (fun r' => r' = out)) 0 0 (fun _ => False) := by
  refine metRi (ty := .int) (cc := cJ6_bitCount_0f7a4) (maxL := 1) (by decide) rfl (Nat.le_of_ble_eq_true rfl) ?_
  intro p e s m args below meth c Q CF hK hP hRet ls hl
  obtain ⟨hx, hb, hml, hown, hts⟩ := id CF
  have hl : lv_has ls 1 [(0, .int p0)] := hl
  unfold fJ6_bitCount_0f7a4 at hf
  refine lv_iload_n (pc := 0) hx hb dJ6_bitCount_0f7a4_0 rfl (lv_at hl 0 rfl) ?_
  refine lv_iload_n (pc := 1) hx hb dJ6_bitCount_0f7a4_1 rfl (lv_at hl 0 rfl) ?_
  refine lv_iconst (pc := 2) (v := 1) hx hb dJ6_bitCount_0f7a4_2 (by decide) ?_
  refine lv_iushr (pc := 3) (v := (((p0 : Int32).toUInt32 >>> ((1 : Int32).toUInt32 &&& Int32.toUInt32 31)).toInt32)) hx hb dJ6_bitCount_0f7a4_3 rfl ?_
  refine lv_ldcw (pc := 4) (v := 1431655765) hx hb hown (hts (.constant RJ6 265 (1431655765)) (by decide +kernel)) dJ6_bitCount_0f7a4_4 ?_
  refine lv_iand (pc := 7) hx hb dJ6_bitCount_0f7a4_7 ?_
  refine lv_isub (pc := 8) hx hb dJ6_bitCount_0f7a4_8 ?_
  refine lv_istore_n (pc := 9) (lv' := [(0, .int (p0 - ((((p0 : Int32).toUInt32 >>> ((1 : Int32).toUInt32 &&& Int32.toUInt32 31)).toInt32) &&& 1431655765)))]) hx hb dJ6_bitCount_0f7a4_9 rfl hl (by decide) rfl (fun ls hl => ?_)
  refine lv_iload_n (pc := 10) hx hb dJ6_bitCount_0f7a4_10 rfl (lv_at hl 0 rfl) ?_
  refine lv_ldcw (pc := 11) (v := 858993459) hx hb hown (hts (.constant RJ6 266 (858993459)) (by decide +kernel)) dJ6_bitCount_0f7a4_11 ?_
  refine lv_iand (pc := 14) hx hb dJ6_bitCount_0f7a4_14 ?_
  refine lv_iload_n (pc := 15) hx hb dJ6_bitCount_0f7a4_15 rfl (lv_at hl 0 rfl) ?_
  refine lv_iconst (pc := 16) (v := 2) hx hb dJ6_bitCount_0f7a4_16 (by decide) ?_
  refine lv_iushr (pc := 17) (v := ((((p0 - ((((p0 : Int32).toUInt32 >>> ((1 : Int32).toUInt32 &&& Int32.toUInt32 31)).toInt32) &&& 1431655765)) : Int32).toUInt32 >>> ((2 : Int32).toUInt32 &&& Int32.toUInt32 31)).toInt32)) hx hb dJ6_bitCount_0f7a4_17 rfl ?_
  refine lv_ldcw (pc := 18) (v := 858993459) hx hb hown (hts (.constant RJ6 266 (858993459)) (by decide +kernel)) dJ6_bitCount_0f7a4_18 ?_
  refine lv_iand (pc := 21) hx hb dJ6_bitCount_0f7a4_21 ?_
  refine lv_iadd (pc := 22) hx hb dJ6_bitCount_0f7a4_22 ?_
  refine lv_istore_n (pc := 23) (lv' := [(0, .int (((p0 - ((((p0 : Int32).toUInt32 >>> ((1 : Int32).toUInt32 &&& Int32.toUInt32 31)).toInt32) &&& 1431655765)) &&& 858993459) + (((((p0 - ((((p0 : Int32).toUInt32 >>> ((1 : Int32).toUInt32 &&& Int32.toUInt32 31)).toInt32) &&& 1431655765)) : Int32).toUInt32 >>> ((2 : Int32).toUInt32 &&& Int32.toUInt32 31)).toInt32) &&& 858993459)))]) hx hb dJ6_bitCount_0f7a4_23 rfl hl (by decide) rfl (fun ls hl => ?_)
  refine lv_iload_n (pc := 24) hx hb dJ6_bitCount_0f7a4_24 rfl (lv_at hl 0 rfl) ?_
  refine lv_iload_n (pc := 25) hx hb dJ6_bitCount_0f7a4_25 rfl (lv_at hl 0 rfl) ?_
  refine lv_iconst (pc := 26) (v := 4) hx hb dJ6_bitCount_0f7a4_26 (by decide) ?_
  refine lv_iushr (pc := 27) (v := ((((((p0 - ((((p0 : Int32).toUInt32 >>> ((1 : Int32).toUInt32 &&& Int32.toUInt32 31)).toInt32) &&& 1431655765)) &&& 858993459) + (((((p0 - ((((p0 : Int32).toUInt32 >>> ((1 : Int32).toUInt32 &&& Int32.toUInt32 31)).toInt32) &&& 1431655765)) : Int32).toUInt32 >>> ((2 : Int32).toUInt32 &&& Int32.toUInt32 31)).toInt32) &&& 858993459)) : Int32).toUInt32 >>> ((4 : Int32).toUInt32 &&& Int32.toUInt32 31)).toInt32)) hx hb dJ6_bitCount_0f7a4_27 rfl ?_
  refine lv_iadd (pc := 28) hx hb dJ6_bitCount_0f7a4_28 ?_
  refine lv_ldcw (pc := 29) (v := 252645135) hx hb hown (hts (.constant RJ6 267 (252645135)) (by decide +kernel)) dJ6_bitCount_0f7a4_29 ?_
  refine lv_iand (pc := 32) hx hb dJ6_bitCount_0f7a4_32 ?_
  refine lv_istore_n (pc := 33) (lv' := [(0, .int (((((p0 - ((((p0 : Int32).toUInt32 >>> ((1 : Int32).toUInt32 &&& Int32.toUInt32 31)).toInt32) &&& 1431655765)) &&& 858993459) + (((((p0 - ((((p0 : Int32).toUInt32 >>> ((1 : Int32).toUInt32 &&& Int32.toUInt32 31)).toInt32) &&& 1431655765)) : Int32).toUInt32 >>> ((2 : Int32).toUInt32 &&& Int32.toUInt32 31)).toInt32) &&& 858993459)) + ((((((p0 - ((((p0 : Int32).toUInt32 >>> ((1 : Int32).toUInt32 &&& Int32.toUInt32 31)).toInt32) &&& 1431655765)) &&& 858993459) + (((((p0 - ((((p0 : Int32).toUInt32 >>> ((1 : Int32).toUInt32 &&& Int32.toUInt32 31)).toInt32) &&& 1431655765)) : Int32).toUInt32 >>> ((2 : Int32).toUInt32 &&& Int32.toUInt32 31)).toInt32) &&& 858993459)) : Int32).toUInt32 >>> ((4 : Int32).toUInt32 &&& Int32.toUInt32 31)).toInt32)) &&& 252645135))]) hx hb dJ6_bitCount_0f7a4_33 rfl hl (by decide) rfl (fun ls hl => ?_)
  refine lv_iload_n (pc := 34) hx hb dJ6_bitCount_0f7a4_34 rfl (lv_at hl 0 rfl) ?_
  refine lv_iload_n (pc := 35) hx hb dJ6_bitCount_0f7a4_35 rfl (lv_at hl 0 rfl) ?_
  refine lv_bipush (pc := 36) (v := 8) hx hb dJ6_bitCount_0f7a4_36 (by decide) ?_
  refine lv_iushr (pc := 38) (v := ((((((((p0 - ((((p0 : Int32).toUInt32 >>> ((1 : Int32).toUInt32 &&& Int32.toUInt32 31)).toInt32) &&& 1431655765)) &&& 858993459) + (((((p0 - ((((p0 : Int32).toUInt32 >>> ((1 : Int32).toUInt32 &&& Int32.toUInt32 31)).toInt32) &&& 1431655765)) : Int32).toUInt32 >>> ((2 : Int32).toUInt32 &&& Int32.toUInt32 31)).toInt32) &&& 858993459)) + ((((((p0 - ((((p0 : Int32).toUInt32 >>> ((1 : Int32).toUInt32 &&& Int32.toUInt32 31)).toInt32) &&& 1431655765)) &&& 858993459) + (((((p0 - ((((p0 : Int32).toUInt32 >>> ((1 : Int32).toUInt32 &&& Int32.toUInt32 31)).toInt32) &&& 1431655765)) : Int32).toUInt32 >>> ((2 : Int32).toUInt32 &&& Int32.toUInt32 31)).toInt32) &&& 858993459)) : Int32).toUInt32 >>> ((4 : Int32).toUInt32 &&& Int32.toUInt32 31)).toInt32)) &&& 252645135) : Int32).toUInt32 >>> ((8 : Int32).toUInt32 &&& Int32.toUInt32 31)).toInt32)) hx hb dJ6_bitCount_0f7a4_38 rfl ?_
  refine lv_iadd (pc := 39) hx hb dJ6_bitCount_0f7a4_39 ?_
  refine lv_istore_n (pc := 40) (lv' := [(0, .int ((((((p0 - ((((p0 : Int32).toUInt32 >>> ((1 : Int32).toUInt32 &&& Int32.toUInt32 31)).toInt32) &&& 1431655765)) &&& 858993459) + (((((p0 - ((((p0 : Int32).toUInt32 >>> ((1 : Int32).toUInt32 &&& Int32.toUInt32 31)).toInt32) &&& 1431655765)) : Int32).toUInt32 >>> ((2 : Int32).toUInt32 &&& Int32.toUInt32 31)).toInt32) &&& 858993459)) + ((((((p0 - ((((p0 : Int32).toUInt32 >>> ((1 : Int32).toUInt32 &&& Int32.toUInt32 31)).toInt32) &&& 1431655765)) &&& 858993459) + (((((p0 - ((((p0 : Int32).toUInt32 >>> ((1 : Int32).toUInt32 &&& Int32.toUInt32 31)).toInt32) &&& 1431655765)) : Int32).toUInt32 >>> ((2 : Int32).toUInt32 &&& Int32.toUInt32 31)).toInt32) &&& 858993459)) : Int32).toUInt32 >>> ((4 : Int32).toUInt32 &&& Int32.toUInt32 31)).toInt32)) &&& 252645135) + ((((((((p0 - ((((p0 : Int32).toUInt32 >>> ((1 : Int32).toUInt32 &&& Int32.toUInt32 31)).toInt32) &&& 1431655765)) &&& 858993459) + (((((p0 - ((((p0 : Int32).toUInt32 >>> ((1 : Int32).toUInt32 &&& Int32.toUInt32 31)).toInt32) &&& 1431655765)) : Int32).toUInt32 >>> ((2 : Int32).toUInt32 &&& Int32.toUInt32 31)).toInt32) &&& 858993459)) + ((((((p0 - ((((p0 : Int32).toUInt32 >>> ((1 : Int32).toUInt32 &&& Int32.toUInt32 31)).toInt32) &&& 1431655765)) &&& 858993459) + (((((p0 - ((((p0 : Int32).toUInt32 >>> ((1 : Int32).toUInt32 &&& Int32.toUInt32 31)).toInt32) &&& 1431655765)) : Int32).toUInt32 >>> ((2 : Int32).toUInt32 &&& Int32.toUInt32 31)).toInt32) &&& 858993459)) : Int32).toUInt32 >>> ((4 : Int32).toUInt32 &&& Int32.toUInt32 31)).toInt32)) &&& 252645135) : Int32).toUInt32 >>> ((8 : Int32).toUInt32 &&& Int32.toUInt32 31)).toInt32)))]) hx hb dJ6_bitCount_0f7a4_40 rfl hl (by decide) rfl (fun ls hl => ?_)
  refine lv_iload_n (pc := 41) hx hb dJ6_bitCount_0f7a4_41 rfl (lv_at hl 0 rfl) ?_
  refine lv_iload_n (pc := 42) hx hb dJ6_bitCount_0f7a4_42 rfl (lv_at hl 0 rfl) ?_
  refine lv_bipush (pc := 43) (v := 16) hx hb dJ6_bitCount_0f7a4_43 (by decide) ?_
  refine lv_iushr (pc := 45) (v := (((((((((p0 - ((((p0 : Int32).toUInt32 >>> ((1 : Int32).toUInt32 &&& Int32.toUInt32 31)).toInt32) &&& 1431655765)) &&& 858993459) + (((((p0 - ((((p0 : Int32).toUInt32 >>> ((1 : Int32).toUInt32 &&& Int32.toUInt32 31)).toInt32) &&& 1431655765)) : Int32).toUInt32 >>> ((2 : Int32).toUInt32 &&& Int32.toUInt32 31)).toInt32) &&& 858993459)) + ((((((p0 - ((((p0 : Int32).toUInt32 >>> ((1 : Int32).toUInt32 &&& Int32.toUInt32 31)).toInt32) &&& 1431655765)) &&& 858993459) + (((((p0 - ((((p0 : Int32).toUInt32 >>> ((1 : Int32).toUInt32 &&& Int32.toUInt32 31)).toInt32) &&& 1431655765)) : Int32).toUInt32 >>> ((2 : Int32).toUInt32 &&& Int32.toUInt32 31)).toInt32) &&& 858993459)) : Int32).toUInt32 >>> ((4 : Int32).toUInt32 &&& Int32.toUInt32 31)).toInt32)) &&& 252645135) + ((((((((p0 - ((((p0 : Int32).toUInt32 >>> ((1 : Int32).toUInt32 &&& Int32.toUInt32 31)).toInt32) &&& 1431655765)) &&& 858993459) + (((((p0 - ((((p0 : Int32).toUInt32 >>> ((1 : Int32).toUInt32 &&& Int32.toUInt32 31)).toInt32) &&& 1431655765)) : Int32).toUInt32 >>> ((2 : Int32).toUInt32 &&& Int32.toUInt32 31)).toInt32) &&& 858993459)) + ((((((p0 - ((((p0 : Int32).toUInt32 >>> ((1 : Int32).toUInt32 &&& Int32.toUInt32 31)).toInt32) &&& 1431655765)) &&& 858993459) + (((((p0 - ((((p0 : Int32).toUInt32 >>> ((1 : Int32).toUInt32 &&& Int32.toUInt32 31)).toInt32) &&& 1431655765)) : Int32).toUInt32 >>> ((2 : Int32).toUInt32 &&& Int32.toUInt32 31)).toInt32) &&& 858993459)) : Int32).toUInt32 >>> ((4 : Int32).toUInt32 &&& Int32.toUInt32 31)).toInt32)) &&& 252645135) : Int32).toUInt32 >>> ((8 : Int32).toUInt32 &&& Int32.toUInt32 31)).toInt32)) : Int32).toUInt32 >>> ((16 : Int32).toUInt32 &&& Int32.toUInt32 31)).toInt32)) hx hb dJ6_bitCount_0f7a4_45 rfl ?_
  refine lv_iadd (pc := 46) hx hb dJ6_bitCount_0f7a4_46 ?_
  refine lv_istore_n (pc := 47) (lv' := [(0, .int (((((((p0 - ((((p0 : Int32).toUInt32 >>> ((1 : Int32).toUInt32 &&& Int32.toUInt32 31)).toInt32) &&& 1431655765)) &&& 858993459) + (((((p0 - ((((p0 : Int32).toUInt32 >>> ((1 : Int32).toUInt32 &&& Int32.toUInt32 31)).toInt32) &&& 1431655765)) : Int32).toUInt32 >>> ((2 : Int32).toUInt32 &&& Int32.toUInt32 31)).toInt32) &&& 858993459)) + ((((((p0 - ((((p0 : Int32).toUInt32 >>> ((1 : Int32).toUInt32 &&& Int32.toUInt32 31)).toInt32) &&& 1431655765)) &&& 858993459) + (((((p0 - ((((p0 : Int32).toUInt32 >>> ((1 : Int32).toUInt32 &&& Int32.toUInt32 31)).toInt32) &&& 1431655765)) : Int32).toUInt32 >>> ((2 : Int32).toUInt32 &&& Int32.toUInt32 31)).toInt32) &&& 858993459)) : Int32).toUInt32 >>> ((4 : Int32).toUInt32 &&& Int32.toUInt32 31)).toInt32)) &&& 252645135) + ((((((((p0 - ((((p0 : Int32).toUInt32 >>> ((1 : Int32).toUInt32 &&& Int32.toUInt32 31)).toInt32) &&& 1431655765)) &&& 858993459) + (((((p0 - ((((p0 : Int32).toUInt32 >>> ((1 : Int32).toUInt32 &&& Int32.toUInt32 31)).toInt32) &&& 1431655765)) : Int32).toUInt32 >>> ((2 : Int32).toUInt32 &&& Int32.toUInt32 31)).toInt32) &&& 858993459)) + ((((((p0 - ((((p0 : Int32).toUInt32 >>> ((1 : Int32).toUInt32 &&& Int32.toUInt32 31)).toInt32) &&& 1431655765)) &&& 858993459) + (((((p0 - ((((p0 : Int32).toUInt32 >>> ((1 : Int32).toUInt32 &&& Int32.toUInt32 31)).toInt32) &&& 1431655765)) : Int32).toUInt32 >>> ((2 : Int32).toUInt32 &&& Int32.toUInt32 31)).toInt32) &&& 858993459)) : Int32).toUInt32 >>> ((4 : Int32).toUInt32 &&& Int32.toUInt32 31)).toInt32)) &&& 252645135) : Int32).toUInt32 >>> ((8 : Int32).toUInt32 &&& Int32.toUInt32 31)).toInt32)) + (((((((((p0 - ((((p0 : Int32).toUInt32 >>> ((1 : Int32).toUInt32 &&& Int32.toUInt32 31)).toInt32) &&& 1431655765)) &&& 858993459) + (((((p0 - ((((p0 : Int32).toUInt32 >>> ((1 : Int32).toUInt32 &&& Int32.toUInt32 31)).toInt32) &&& 1431655765)) : Int32).toUInt32 >>> ((2 : Int32).toUInt32 &&& Int32.toUInt32 31)).toInt32) &&& 858993459)) + ((((((p0 - ((((p0 : Int32).toUInt32 >>> ((1 : Int32).toUInt32 &&& Int32.toUInt32 31)).toInt32) &&& 1431655765)) &&& 858993459) + (((((p0 - ((((p0 : Int32).toUInt32 >>> ((1 : Int32).toUInt32 &&& Int32.toUInt32 31)).toInt32) &&& 1431655765)) : Int32).toUInt32 >>> ((2 : Int32).toUInt32 &&& Int32.toUInt32 31)).toInt32) &&& 858993459)) : Int32).toUInt32 >>> ((4 : Int32).toUInt32 &&& Int32.toUInt32 31)).toInt32)) &&& 252645135) + ((((((((p0 - ((((p0 : Int32).toUInt32 >>> ((1 : Int32).toUInt32 &&& Int32.toUInt32 31)).toInt32) &&& 1431655765)) &&& 858993459) + (((((p0 - ((((p0 : Int32).toUInt32 >>> ((1 : Int32).toUInt32 &&& Int32.toUInt32 31)).toInt32) &&& 1431655765)) : Int32).toUInt32 >>> ((2 : Int32).toUInt32 &&& Int32.toUInt32 31)).toInt32) &&& 858993459)) + ((((((p0 - ((((p0 : Int32).toUInt32 >>> ((1 : Int32).toUInt32 &&& Int32.toUInt32 31)).toInt32) &&& 1431655765)) &&& 858993459) + (((((p0 - ((((p0 : Int32).toUInt32 >>> ((1 : Int32).toUInt32 &&& Int32.toUInt32 31)).toInt32) &&& 1431655765)) : Int32).toUInt32 >>> ((2 : Int32).toUInt32 &&& Int32.toUInt32 31)).toInt32) &&& 858993459)) : Int32).toUInt32 >>> ((4 : Int32).toUInt32 &&& Int32.toUInt32 31)).toInt32)) &&& 252645135) : Int32).toUInt32 >>> ((8 : Int32).toUInt32 &&& Int32.toUInt32 31)).toInt32)) : Int32).toUInt32 >>> ((16 : Int32).toUInt32 &&& Int32.toUInt32 31)).toInt32)))]) hx hb dJ6_bitCount_0f7a4_47 rfl hl (by decide) rfl (fun ls hl => ?_)
  refine lv_iload_n (pc := 48) hx hb dJ6_bitCount_0f7a4_48 rfl (lv_at hl 0 rfl) ?_
  refine lv_bipush (pc := 49) (v := 63) hx hb dJ6_bitCount_0f7a4_49 (by decide) ?_
  refine lv_iand (pc := 51) hx hb dJ6_bitCount_0f7a4_51 ?_
  obtain rfl := Option.some.inj hf
  exact hRet 52 ls (vp_nar_int _) dJ6_bitCount_0f7a4_52
theorem hdJ6_bitCount_0f7a4 : yJ6_bitCount_0f7a4.cls ≠ "java/lang/invoke/MethodHandle" ∧ yJ6_bitCount_0f7a4.cls ≠ "java/lang/invoke/VarHandle" ∧ (parseMethodDescriptor yJ6_bitCount_0f7a4.desc).map (fun d => d.parameters.length) = some 1 := by decide +kernel
abbrev rmX0_isFewer : Room := { frames := 1, cells := 0, slots := 0, locals := 20 }
set_option maxHeartbeats 4000000 in
set_option maxRecDepth 100000 in
theorem mtX0_isFewer (l : Launch) (D : va_G) (cI cZ cQ : ClassId)  (p0 : Int32) (p1 : Int32) (out : Int32) (hf : fX0_isFewer p0 p1 = some out) : Met l yX0_isFewer wsX0_isFewer rmX0_isFewer (RoP D cI cZ cQ [.int p0, .int p1] ([])) (vp_Si (fun r' => r' = out)) 0 0 (fun _ => False) := by
  refine metRi (ty := .boolean) (cc := cX0_isFewer) (maxL := 3) (by decide) rfl (Nat.le_of_ble_eq_true rfl) ?_
  intro p e s m args below meth c Q CF hK hP hRet ls hl
  obtain ⟨hx, hb, hml, hown, hts⟩ := id CF
  have hl : lv_has ls 3 [(0, .int p0), (1, .int p1)] := hl
  unfold fX0_isFewer at hf
  refine lv_iload_n (pc := 0) hx hb dX0_isFewer_0 rfl (lv_at hl 0 rfl) ?_
  obtain ⟨v1, h2, hf⟩ := bd hf
  refine roSi (pc := 1) (As := [.int p0]) (rest := []) CF (mtJ6_bitCount_0f7a4 l D cI cZ cQ p0 v1 h2) (va_cwS 1 hts gX0_isFewer_J6_bitCount_0f7a4 rfl rfl rfl hdJ6_bitCount_0f7a4 ⟨Nat.le_of_ble_eq_true rfl, Nat.le_of_ble_eq_true rfl⟩) hK P0 rfl hl.1 rfl (Nat.le_of_ble_eq_true rfl) dX0_isFewer_1 ?_
  refine lv_iload_n (pc := 4) hx hb dX0_isFewer_4 rfl (lv_at hl 1 rfl) ?_
  obtain ⟨v3, h4, hf⟩ := bd hf
  refine roSi (pc := 5) (As := [.int p1]) (rest := [.int v1]) CF (mtJ6_bitCount_0f7a4 l D cI cZ cQ p1 v3 h4) (va_cwS 1 hts gX0_isFewer_J6_bitCount_0f7a4 rfl rfl rfl hdJ6_bitCount_0f7a4 ⟨Nat.le_of_ble_eq_true rfl, Nat.le_of_ble_eq_true rfl⟩) hK P0 rfl hl.1 rfl (Nat.le_of_ble_eq_true rfl) dX0_isFewer_5 ?_
  refine lv_isub (pc := 8) hx hb dX0_isFewer_8 ?_
  refine lv_istore_n (pc := 9) (lv' := [(2, .int (v1 - v3)), (0, .int p0), (1, .int p1)]) hx hb dX0_isFewer_9 rfl hl (by decide) rfl (fun ls hl => ?_)
  refine lv_iload_n (pc := 10) hx hb dX0_isFewer_10 rfl (lv_at hl 0 rfl) ?_
  refine lv_if_lt (pc := 11) (tgt := 23) hx hb dX0_isFewer_11 (by decide) (fun c5 => ?_) (fun c5 => ?_)
  · have hf := iT c5 hf
    refine lv_iconst (pc := 23) (v := 1) hx hb dX0_isFewer_23 (by decide) ?_
    refine lv_goto (pc := 24) (tgt := 28) hx hb dX0_isFewer_24 (by decide) ?_
    obtain rfl := Option.some.inj hf
    exact hRet 28 ls (nzB (Or.inr rfl)) dX0_isFewer_28
  · have hf := iF c5 hf
    refine lv_iload_n (pc := 14) hx hb dX0_isFewer_14 rfl (lv_at hl 0 rfl) ?_
    refine lv_if_ne (pc := 15) (tgt := 27) hx hb dX0_isFewer_15 (by decide) (fun c6 => ?_) (fun c6 => ?_)
    · have hf := iF c6 hf
      refine lv_iconst (pc := 27) (v := 0) hx hb dX0_isFewer_27 (by decide) ?_
      obtain rfl := Option.some.inj hf
      exact hRet 28 ls (nzB (Or.inl rfl)) dX0_isFewer_28
    · have hf := iT c6 hf
      refine lv_iload_n (pc := 18) hx hb dX0_isFewer_18 rfl (lv_at hl 1 rfl) ?_
      refine lv_iload_n (pc := 19) hx hb dX0_isFewer_19 rfl (lv_at hl 2 rfl) ?_
      refine lv_icmp_ge (pc := 20) (tgt := 27) hx hb dX0_isFewer_20 (by decide) (fun c7 => ?_) (fun c7 => ?_)
      · have hf := iT c7 hf
        refine lv_iconst (pc := 27) (v := 0) hx hb dX0_isFewer_27 (by decide) ?_
        obtain rfl := Option.some.inj hf
        exact hRet 28 ls (nzB (Or.inl rfl)) dX0_isFewer_28
      · have hf := iF c7 hf
        refine lv_iconst (pc := 23) (v := 1) hx hb dX0_isFewer_23 (by decide) ?_
        refine lv_goto (pc := 24) (tgt := 28) hx hb dX0_isFewer_24 (by decide) ?_
        obtain rfl := Option.some.inj hf
        exact hRet 28 ls (nzB (Or.inr rfl)) dX0_isFewer_28
theorem hdX0_isFewer : yX0_isFewer.cls ≠ "java/lang/invoke/MethodHandle" ∧ yX0_isFewer.cls ≠ "java/lang/invoke/VarHandle" ∧ (parseMethodDescriptor yX0_isFewer.desc).map (fun d => d.parameters.length) = some 2 := by decide +kernel
abbrev rmJ7_fill_53178 : Room := { frames := 0, cells := 0, slots := 0, locals := 0 }
set_option maxHeartbeats 4000000 in
set_option maxRecDepth 100000 in
theorem mtJ7_fill_53178 (l : Launch) (D : va_G) (cI cZ cQ : ClassId) (aR : Nat → Nat) (R : Bk) (p1 : Int32) (sz : Nat) (out : Bk) (hf : fJ7_fill_53178 R p1 = some out) : Met l yJ7_fill_53178 wsJ7_fill_53178 rmJ7_fill_53178 (WrP D cI cZ cQ [.ref (aR 0), .int p1] ([(aR 0, .inl (cI, 60, .inl (R 0)))]) sz) (WrQv D ([(aR 0, .inl (cI, 60, .inl (R 0)))]) ([(aR 0, .inl (cI, 60, .inl (out 0)))]) sz) 0 0 (va_A ([(aR 0, .inl (cI, 60, .inl (R 0)))]) sz) := by
  refine metWv (cc := cJ7_fill_53178) (maxL := 4) (by decide) rfl (Nat.le_of_ble_eq_true rfl) ?_
  intro p e s m args below meth c Q A CF hK hP hD hA hRet ls hl
  obtain ⟨hx, hb, hml, hown, hts⟩ := id CF
  have hS : va_S A s.heap s.heap [] := va_S.rf
  have hl : lv_has ls 4 [(0, .ref (aR 0)), (1, .int p1)] := hl
  unfold fJ7_fill_53178 at hf
  refine lv_iconst (pc := 0) (v := 0) hx hb dJ7_fill_53178_0 (by decide) ?_
  refine lv_istore_n (pc := 1) (lv' := [(2, .int 0), (0, .ref (aR 0)), (1, .int p1)]) hx hb dJ7_fill_53178_1 rfl hl (by decide) rfl (fun ls hl => ?_)
  refine lv_aload_n (pc := 2) hx hb dJ7_fill_53178_2 rfl (lv_at hl 1 rfl) ?_
  refine va_alen (pc := 3) (v := 60) hx hb hK.1 hP 0 0 rfl rfl rfl dJ7_fill_53178_3 ?_
  refine lv_istore_n (pc := 4) (lv' := [(3, .int 60), (2, .int 0), (0, .ref (aR 0)), (1, .int p1)]) hx hb dJ7_fill_53178_4 rfl hl (by decide) rfl (fun ls hl => ?_)
  refine zl2 (G := FJ7_fill_53178_5 p1) (fun x2_1 R_2 => ∀ (ls : Array Slot) (H : Heap) (locs : List Loc), lv_has ls 4 [(0, .ref (aR 0)), (1, .int p1), (2, .int x2_1), (3, .int 60)] → va_P D vwCl ([(aR 0, .inl (cI, 60, .inl (R_2 0)))]) H → va_D A ([(aR 0, .inl (cI, 60, .inl (R_2 0)))]) → va_S A s.heap H locs → W p l e rmJ7_fill_53178 s m args below meth c H locs 0 0 Q (F0 m 5 ls [])) (fun x2_3 R_4 => ∀ (ls : Array Slot) (H : Heap) (locs : List Loc), lv_has ls 4 [(0, .ref (aR 0)), (1, .int p1), (2, .int x2_3), (3, .int 60)] → va_P D vwCl ([(aR 0, .inl (cI, 60, .inl (R_4 0)))]) H → va_D A ([(aR 0, .inl (cI, 60, .inl (R_4 0)))]) → va_S A s.heap H locs → W p l e rmJ7_fill_53178 s m args below meth c H locs 0 0 Q (F0 m 20 ls [])) hf (fun x2_3 R_4 hf => ?_) (fun kx slf hkx hslf x2_1 R_2 hf => ?_) ls s.heap [] (lv_sub hl [2, 3, 1, 0] rfl) hP hD hS
  · intro ls H locs hl hP hD hS
    obtain rfl := Option.some.inj hf
    exact hRet 20 ls H locs dJ7_fill_53178_20 hP hS
  · unfold FJ7_fill_53178_5 at hf
    intro ls H locs hl hP hD hS
    refine lv_iload_n (pc := 5) hx hb dJ7_fill_53178_5 rfl (lv_at hl 2 rfl) ?_
    refine lv_iload_n (pc := 6) hx hb dJ7_fill_53178_6 rfl (lv_at hl 3 rfl) ?_
    refine lv_icmp_ge (pc := 7) (tgt := 20) hx hb dJ7_fill_53178_7 (by decide) (fun c5 => ?_) (fun c5 => ?_)
    · have hf := iT c5 hf
      exact hkx _ _ hf ls H locs (lv_sub hl [0, 1, 2, 3] rfl) hP hD hS
    · have hf := iF c5 hf
      refine lv_aload_n (pc := 10) hx hb dJ7_fill_53178_10 rfl (lv_at hl 0 rfl) ?_
      refine lv_iload_n (pc := 11) hx hb dJ7_fill_53178_11 rfl (lv_at hl 2 rfl) ?_
      refine lv_iload_n (pc := 12) hx hb dJ7_fill_53178_12 rfl (lv_at hl 1 rfl) ?_
      obtain ⟨h6, hf⟩ := gI_e hf
      refine va_iast (pc := 13) (f := R_2 0) (n := 60) hx hb hK.1 hP hD hS 0 0 rfl rfl h6 dJ7_fill_53178_13 (fun H locs hP hD hS => ?_)
      have hP : va_P D vwCl ([(aR 0, .inl (cI, 60, .inl ((sB R_2 0 x2_1.toNatClampNeg p1) 0)))]) H := hP
      have hD : va_D A ([(aR 0, .inl (cI, 60, .inl ((sB R_2 0 x2_1.toNatClampNeg p1) 0)))]) := hD
      obtain ⟨R_7, h8, hf⟩ := bd hf
      have h8 := Option.some.inj h8
      rw [h8] at hP hD
      refine lv_iinc (pc := 14) (v := (x2_1 + 1)) (lv' := [(2, .int (x2_1 + 1)), (0, .ref (aR 0)), (1, .int p1), (3, .int 60)]) hx hb dJ7_fill_53178_14 hl (k := 2) rfl rfl (by decide) rfl (fun ls hl => ?_)
      refine lv_goto (pc := 17) (tgt := 5) hx hb dJ7_fill_53178_17 (by decide) ?_
      exact hslf _ _ hf ls H locs (lv_sub hl [1, 2, 0, 3] rfl) hP hD hS
theorem hdJ7_fill_53178 : yJ7_fill_53178.cls ≠ "java/lang/invoke/MethodHandle" ∧ yJ7_fill_53178.cls ≠ "java/lang/invoke/VarHandle" ∧ (parseMethodDescriptor yJ7_fill_53178.desc).map (fun d => d.parameters.length) = some 2 := by decide +kernel
abbrev rmX3_isSheet : Room := { frames := 0, cells := 0, slots := 0, locals := 0 }
set_option maxHeartbeats 4000000 in
set_option maxRecDepth 100000 in
theorem mtX3_isSheet (l : Launch) (D : va_G) (cI cZ cQ : ClassId)  (p0 : Int32) (out : Int32) (hf : fX3_isSheet p0 = some out) : Met l yX3_isSheet wsX3_isSheet rmX3_isSheet (RoP D cI cZ cQ [.int p0] ([])) (vp_Si (fun r' => r' = out)) 0 0 (fun _ => False) := by
  refine metRi (ty := .boolean) (cc := cX3_isSheet) (maxL := 1) (by decide) rfl (Nat.le_of_ble_eq_true rfl) ?_
  intro p e s m args below meth c Q CF hK hP hRet ls hl
  obtain ⟨hx, hb, hml, hown, hts⟩ := id CF
  have hl : lv_has ls 1 [(0, .int p0)] := hl
  unfold fX3_isSheet at hf
  refine lv_iload_n (pc := 0) hx hb dX3_isSheet_0 rfl (lv_at hl 0 rfl) ?_
  refine lv_if_lt (pc := 1) (tgt := 13) hx hb dX3_isSheet_1 (by decide) (fun c1 => ?_) (fun c1 => ?_)
  · have hf := iT c1 hf
    refine lv_iconst (pc := 13) (v := 0) hx hb dX3_isSheet_13 (by decide) ?_
    obtain rfl := Option.some.inj hf
    exact hRet 14 ls (nzB (Or.inl rfl)) dX3_isSheet_14
  · have hf := iF c1 hf
    refine lv_iload_n (pc := 4) hx hb dX3_isSheet_4 rfl (lv_at hl 0 rfl) ?_
    refine lv_iconst (pc := 5) (v := 4) hx hb dX3_isSheet_5 (by decide) ?_
    refine lv_icmp_ge (pc := 6) (tgt := 13) hx hb dX3_isSheet_6 (by decide) (fun c2 => ?_) (fun c2 => ?_)
    · have hf := iT c2 hf
      refine lv_iconst (pc := 13) (v := 0) hx hb dX3_isSheet_13 (by decide) ?_
      obtain rfl := Option.some.inj hf
      exact hRet 14 ls (nzB (Or.inl rfl)) dX3_isSheet_14
    · have hf := iF c2 hf
      refine lv_iconst (pc := 9) (v := 1) hx hb dX3_isSheet_9 (by decide) ?_
      refine lv_goto (pc := 10) (tgt := 14) hx hb dX3_isSheet_10 (by decide) ?_
      obtain rfl := Option.some.inj hf
      exact hRet 14 ls (nzB (Or.inr rfl)) dX3_isSheet_14
theorem hdX3_isSheet : yX3_isSheet.cls ≠ "java/lang/invoke/MethodHandle" ∧ yX3_isSheet.cls ≠ "java/lang/invoke/VarHandle" ∧ (parseMethodDescriptor yX3_isSheet.desc).map (fun d => d.parameters.length) = some 1 := by decide +kernel
abbrev rmX3_isLane : Room := { frames := 0, cells := 0, slots := 0, locals := 0 }
set_option maxHeartbeats 4000000 in
set_option maxRecDepth 100000 in
theorem mtX3_isLane (l : Launch) (D : va_G) (cI cZ cQ : ClassId)  (p0 : Int32) (out : Int32) (hf : fX3_isLane p0 = some out) : Met l yX3_isLane wsX3_isLane rmX3_isLane (RoP D cI cZ cQ [.int p0] ([])) (vp_Si (fun r' => r' = out)) 0 0 (fun _ => False) := by
  refine metRi (ty := .boolean) (cc := cX3_isLane) (maxL := 1) (by decide) rfl (Nat.le_of_ble_eq_true rfl) ?_
  intro p e s m args below meth c Q CF hK hP hRet ls hl
  obtain ⟨hx, hb, hml, hown, hts⟩ := id CF
  have hl : lv_has ls 1 [(0, .int p0)] := hl
  unfold fX3_isLane at hf
  refine lv_iload_n (pc := 0) hx hb dX3_isLane_0 rfl (lv_at hl 0 rfl) ?_
  refine lv_if_lt (pc := 1) (tgt := 13) hx hb dX3_isLane_1 (by decide) (fun c1 => ?_) (fun c1 => ?_)
  · have hf := iT c1 hf
    refine lv_iconst (pc := 13) (v := 0) hx hb dX3_isLane_13 (by decide) ?_
    obtain rfl := Option.some.inj hf
    exact hRet 14 ls (nzB (Or.inl rfl)) dX3_isLane_14
  · have hf := iF c1 hf
    refine lv_iload_n (pc := 4) hx hb dX3_isLane_4 rfl (lv_at hl 0 rfl) ?_
    refine lv_iconst (pc := 5) (v := 2) hx hb dX3_isLane_5 (by decide) ?_
    refine lv_icmp_gt (pc := 6) (tgt := 13) hx hb dX3_isLane_6 (by decide) (fun c2 => ?_) (fun c2 => ?_)
    · have hf := iT c2 hf
      refine lv_iconst (pc := 13) (v := 0) hx hb dX3_isLane_13 (by decide) ?_
      obtain rfl := Option.some.inj hf
      exact hRet 14 ls (nzB (Or.inl rfl)) dX3_isLane_14
    · have hf := iF c2 hf
      refine lv_iconst (pc := 9) (v := 1) hx hb dX3_isLane_9 (by decide) ?_
      refine lv_goto (pc := 10) (tgt := 14) hx hb dX3_isLane_10 (by decide) ?_
      obtain rfl := Option.some.inj hf
      exact hRet 14 ls (nzB (Or.inr rfl)) dX3_isLane_14
theorem hdX3_isLane : yX3_isLane.cls ≠ "java/lang/invoke/MethodHandle" ∧ yX3_isLane.cls ≠ "java/lang/invoke/VarHandle" ∧ (parseMethodDescriptor yX3_isLane.desc).map (fun d => d.parameters.length) = some 1 := by decide +kernel
abbrev rmX3_isAskedOfSeason : Room := { frames := 0, cells := 0, slots := 0, locals := 0 }
set_option maxHeartbeats 4000000 in
set_option maxRecDepth 100000 in
theorem mtX3_isAskedOfSeason (l : Launch) (D : va_G) (cI cZ cQ : ClassId)  (p0 : Int32) (out : Int32) (hf : fX3_isAskedOfSeason p0 = some out) : Met l yX3_isAskedOfSeason wsX3_isAskedOfSeason rmX3_isAskedOfSeason (RoP D cI cZ cQ [.int p0] ([])) (vp_Si (fun r' => r' = out)) 0 0 (fun _ => False) := by
  refine metRi (ty := .boolean) (cc := cX3_isAskedOfSeason) (maxL := 1) (by decide) rfl (Nat.le_of_ble_eq_true rfl) ?_
  intro p e s m args below meth c Q CF hK hP hRet ls hl
  obtain ⟨hx, hb, hml, hown, hts⟩ := id CF
  have hl : lv_has ls 1 [(0, .int p0)] := hl
  unfold fX3_isAskedOfSeason at hf
  refine lv_iload_n (pc := 0) hx hb dX3_isAskedOfSeason_0 rfl (lv_at hl 0 rfl) ?_
  refine lv_if_lt (pc := 1) (tgt := 9) hx hb dX3_isAskedOfSeason_1 (by decide) (fun c1 => ?_) (fun c1 => ?_)
  · have hf := iT c1 hf
    refine lv_iload_n (pc := 9) hx hb dX3_isAskedOfSeason_9 rfl (lv_at hl 0 rfl) ?_
    refine lv_bipush (pc := 10) (v := 10) hx hb dX3_isAskedOfSeason_10 (by decide) ?_
    refine lv_icmp_lt (pc := 12) (tgt := 25) hx hb dX3_isAskedOfSeason_12 (by decide) (fun c2 => ?_) (fun c2 => ?_)
    · have hf := iT c2 hf
      refine lv_iconst (pc := 25) (v := 0) hx hb dX3_isAskedOfSeason_25 (by decide) ?_
      obtain rfl := Option.some.inj hf
      exact hRet 26 ls (nzB (Or.inl rfl)) dX3_isAskedOfSeason_26
    · have hf := iF c2 hf
      refine lv_iload_n (pc := 15) hx hb dX3_isAskedOfSeason_15 rfl (lv_at hl 0 rfl) ?_
      refine lv_bipush (pc := 16) (v := 15) hx hb dX3_isAskedOfSeason_16 (by decide) ?_
      refine lv_icmp_ge (pc := 18) (tgt := 25) hx hb dX3_isAskedOfSeason_18 (by decide) (fun c3 => ?_) (fun c3 => ?_)
      · have hf := iT c3 hf
        refine lv_iconst (pc := 25) (v := 0) hx hb dX3_isAskedOfSeason_25 (by decide) ?_
        obtain rfl := Option.some.inj hf
        exact hRet 26 ls (nzB (Or.inl rfl)) dX3_isAskedOfSeason_26
      · have hf := iF c3 hf
        refine lv_iconst (pc := 21) (v := 1) hx hb dX3_isAskedOfSeason_21 (by decide) ?_
        refine lv_goto (pc := 22) (tgt := 26) hx hb dX3_isAskedOfSeason_22 (by decide) ?_
        obtain rfl := Option.some.inj hf
        exact hRet 26 ls (nzB (Or.inr rfl)) dX3_isAskedOfSeason_26
  · have hf := iF c1 hf
    refine lv_iload_n (pc := 4) hx hb dX3_isAskedOfSeason_4 rfl (lv_at hl 0 rfl) ?_
    refine lv_iconst (pc := 5) (v := 4) hx hb dX3_isAskedOfSeason_5 (by decide) ?_
    refine lv_icmp_le (pc := 6) (tgt := 21) hx hb dX3_isAskedOfSeason_6 (by decide) (fun c4 => ?_) (fun c4 => ?_)
    · have hf := iT c4 hf
      refine lv_iconst (pc := 21) (v := 1) hx hb dX3_isAskedOfSeason_21 (by decide) ?_
      refine lv_goto (pc := 22) (tgt := 26) hx hb dX3_isAskedOfSeason_22 (by decide) ?_
      obtain rfl := Option.some.inj hf
      exact hRet 26 ls (nzB (Or.inr rfl)) dX3_isAskedOfSeason_26
    · have hf := iF c4 hf
      refine lv_iload_n (pc := 9) hx hb dX3_isAskedOfSeason_9 rfl (lv_at hl 0 rfl) ?_
      refine lv_bipush (pc := 10) (v := 10) hx hb dX3_isAskedOfSeason_10 (by decide) ?_
      refine lv_icmp_lt (pc := 12) (tgt := 25) hx hb dX3_isAskedOfSeason_12 (by decide) (fun c5 => ?_) (fun c5 => ?_)
      · have hf := iT c5 hf
        refine lv_iconst (pc := 25) (v := 0) hx hb dX3_isAskedOfSeason_25 (by decide) ?_
        obtain rfl := Option.some.inj hf
        exact hRet 26 ls (nzB (Or.inl rfl)) dX3_isAskedOfSeason_26
      · have hf := iF c5 hf
        refine lv_iload_n (pc := 15) hx hb dX3_isAskedOfSeason_15 rfl (lv_at hl 0 rfl) ?_
        refine lv_bipush (pc := 16) (v := 15) hx hb dX3_isAskedOfSeason_16 (by decide) ?_
        refine lv_icmp_ge (pc := 18) (tgt := 25) hx hb dX3_isAskedOfSeason_18 (by decide) (fun c6 => ?_) (fun c6 => ?_)
        · have hf := iT c6 hf
          refine lv_iconst (pc := 25) (v := 0) hx hb dX3_isAskedOfSeason_25 (by decide) ?_
          obtain rfl := Option.some.inj hf
          exact hRet 26 ls (nzB (Or.inl rfl)) dX3_isAskedOfSeason_26
        · have hf := iF c6 hf
          refine lv_iconst (pc := 21) (v := 1) hx hb dX3_isAskedOfSeason_21 (by decide) ?_
          refine lv_goto (pc := 22) (tgt := 26) hx hb dX3_isAskedOfSeason_22 (by decide) ?_
          obtain rfl := Option.some.inj hf
          exact hRet 26 ls (nzB (Or.inr rfl)) dX3_isAskedOfSeason_26
theorem hdX3_isAskedOfSeason : yX3_isAskedOfSeason.cls ≠ "java/lang/invoke/MethodHandle" ∧ yX3_isAskedOfSeason.cls ≠ "java/lang/invoke/VarHandle" ∧ (parseMethodDescriptor yX3_isAskedOfSeason.desc).map (fun d => d.parameters.length) = some 1 := by decide +kernel
abbrev rmX3_commonDivisor : Room := { frames := 0, cells := 0, slots := 0, locals := 0 }
set_option maxHeartbeats 4000000 in
set_option maxRecDepth 100000 in
theorem mtX3_commonDivisor (l : Launch) (D : va_G) (cI cZ cQ : ClassId)  (p0 : Int32) (p1 : Int32) (out : Int32) (hf : fX3_commonDivisor p0 p1 = some out) : Met l yX3_commonDivisor wsX3_commonDivisor rmX3_commonDivisor (RoP D cI cZ cQ [.int p0, .int p1] ([])) (vp_Si (fun r' => r' = out)) 0 0 (fun _ => False) := by
  refine metRi (ty := .int) (cc := cX3_commonDivisor) (maxL := 3) (by decide) rfl (Nat.le_of_ble_eq_true rfl) ?_
  intro p e s m args below meth c Q CF hK hP hRet ls hl
  obtain ⟨hx, hb, hml, hown, hts⟩ := id CF
  have hl : lv_has ls 3 [(0, .int p0), (1, .int p1)] := hl
  unfold fX3_commonDivisor at hf
  refine lv_iload_n (pc := 0) hx hb dX3_commonDivisor_0 rfl (lv_at hl 1 rfl) ?_
  refine lv_istore_n (pc := 1) (lv' := [(2, .int p1), (0, .int p0), (1, .int p1)]) hx hb dX3_commonDivisor_1 rfl hl (by decide) rfl (fun ls hl => ?_)
  refine zl1 (G := FX3_commonDivisor_2 p0 p1) (fun x2_1 => ∀ (ls : Array Slot), lv_has ls 3 [(0, .int p0), (1, .int p1), (2, .int x2_1)] → W p l e rmX3_commonDivisor s m args below meth c s.heap [] 0 0 Q (F0 m 2 ls [])) (fun x2_2 => ∀ (ls : Array Slot), lv_has ls 3 [(0, .int p0), (1, .int p1), (2, .int x2_2)] → W p l e rmX3_commonDivisor s m args below meth c s.heap [] 0 0 Q (F0 m 27 ls [])) hf (fun x2_2 hf => ?_) (fun kx slf hkx hslf x2_1 hf => ?_) ls (lv_sub hl [1, 2, 0] rfl)
  · intro ls hl
    refine lv_iconst (pc := 27) (v := 1) hx hb dX3_commonDivisor_27 (by decide) ?_
    obtain rfl := Option.some.inj hf
    exact hRet 28 ls (vp_nar_int _) dX3_commonDivisor_28
  · unfold FX3_commonDivisor_2 at hf
    intro ls hl
    refine lv_iload_n (pc := 2) hx hb dX3_commonDivisor_2 rfl (lv_at hl 2 rfl) ?_
    refine lv_iconst (pc := 3) (v := 1) hx hb dX3_commonDivisor_3 (by decide) ?_
    refine lv_icmp_le (pc := 4) (tgt := 27) hx hb dX3_commonDivisor_4 (by decide) (fun c3 => ?_) (fun c3 => ?_)
    · have hf := iT c3 hf
      exact hkx _ hf ls (lv_sub hl [0, 1, 2] rfl)
    · have hf := iF c3 hf
      refine lv_iload_n (pc := 7) hx hb dX3_commonDivisor_7 rfl (lv_at hl 0 rfl) ?_
      refine lv_iload_n (pc := 8) hx hb dX3_commonDivisor_8 rfl (lv_at hl 2 rfl) ?_
      obtain ⟨h4, hf⟩ := gN_e hf
      refine lv_irem (pc := 9) hx hb dX3_commonDivisor_9 h4 ?_
      refine lv_if_ne (pc := 10) (tgt := 21) hx hb dX3_commonDivisor_10 (by decide) (fun c5 => ?_) (fun c5 => ?_)
      · have hf := iF c5 hf
        refine lv_iinc (pc := 21) (v := (x2_1 + (-1))) (lv' := [(2, .int (x2_1 + (-1))), (0, .int p0), (1, .int p1)]) hx hb dX3_commonDivisor_21 hl (k := 2) rfl rfl (by decide) rfl (fun ls hl => ?_)
        refine lv_goto (pc := 24) (tgt := 2) hx hb dX3_commonDivisor_24 (by decide) ?_
        exact hslf _ hf ls (lv_sub hl [1, 2, 0] rfl)
      · have hf := iT c5 hf
        refine lv_iload_n (pc := 13) hx hb dX3_commonDivisor_13 rfl (lv_at hl 1 rfl) ?_
        refine lv_iload_n (pc := 14) hx hb dX3_commonDivisor_14 rfl (lv_at hl 2 rfl) ?_
        obtain ⟨h6, hf⟩ := gN_e hf
        refine lv_irem (pc := 15) hx hb dX3_commonDivisor_15 h6 ?_
        refine lv_if_ne (pc := 16) (tgt := 21) hx hb dX3_commonDivisor_16 (by decide) (fun c7 => ?_) (fun c7 => ?_)
        · have hf := iF c7 hf
          refine lv_iinc (pc := 21) (v := (x2_1 + (-1))) (lv' := [(2, .int (x2_1 + (-1))), (0, .int p0), (1, .int p1)]) hx hb dX3_commonDivisor_21 hl (k := 2) rfl rfl (by decide) rfl (fun ls hl => ?_)
          refine lv_goto (pc := 24) (tgt := 2) hx hb dX3_commonDivisor_24 (by decide) ?_
          exact hslf _ hf ls (lv_sub hl [1, 2, 0] rfl)
        · have hf := iT c7 hf
          refine lv_iload_n (pc := 19) hx hb dX3_commonDivisor_19 rfl (lv_at hl 2 rfl) ?_
          obtain rfl := Option.some.inj hf
          exact hRet 20 ls (vp_nar_int _) dX3_commonDivisor_20
theorem hdX3_commonDivisor : yX3_commonDivisor.cls ≠ "java/lang/invoke/MethodHandle" ∧ yX3_commonDivisor.cls ≠ "java/lang/invoke/VarHandle" ∧ (parseMethodDescriptor yX3_commonDivisor.desc).map (fun d => d.parameters.length) = some 2 := by decide +kernel
abbrev rmX3_cutTo : Room := { frames := 0, cells := 0, slots := 0, locals := 0 }
set_option maxHeartbeats 4000000 in
set_option maxRecDepth 100000 in
theorem mtX3_cutTo (l : Launch) (D : va_G) (cI cZ cQ : ClassId)  (p0 : Int32) (p1 : Int32) (out : Int32) (hf : fX3_cutTo p0 p1 = some out) : Met l yX3_cutTo wsX3_cutTo rmX3_cutTo (RoP D cI cZ cQ [.int p0, .int p1] ([])) (vp_Si (fun r' => r' = out)) 0 0 (fun _ => False) := by
  refine metRi (ty := .int) (cc := cX3_cutTo) (maxL := 2) (by decide) rfl (Nat.le_of_ble_eq_true rfl) ?_
  intro p e s m args below meth c Q CF hK hP hRet ls hl
  obtain ⟨hx, hb, hml, hown, hts⟩ := id CF
  have hl : lv_has ls 2 [(0, .int p0), (1, .int p1)] := hl
  unfold fX3_cutTo at hf
  refine lv_iload_n (pc := 0) hx hb dX3_cutTo_0 rfl (lv_at hl 0 rfl) ?_
  by_cases c1 : p0 = 0
  · have hf := iT c1 hf
    refine lv_lookup (pc := 1) (tgt := 28) (off := 27) hx hb dX3_cutTo_1 (by decide) (by rw [c1]; rfl) (by decide) ?_
    refine lv_iload_n (pc := 28) hx hb dX3_cutTo_28 rfl (lv_at hl 1 rfl) ?_
    refine lv_i2b (pc := 29) (v := (p1.toInt8.toInt32)) hx hb dX3_cutTo_29 rfl ?_
    obtain rfl := Option.some.inj hf
    exact hRet 30 ls (vp_nar_int _) dX3_cutTo_30
  · have hf := iF c1 hf
    by_cases c2 : p0 = 1
    · have hf := iT c2 hf
      refine lv_lookup (pc := 1) (tgt := 31) (off := 30) hx hb dX3_cutTo_1 (by decide) (by rw [c2]; rfl) (by decide) ?_
      refine lv_iload_n (pc := 31) hx hb dX3_cutTo_31 rfl (lv_at hl 1 rfl) ?_
      refine lv_i2s (pc := 32) (v := (p1.toInt16.toInt32)) hx hb dX3_cutTo_32 rfl ?_
      obtain rfl := Option.some.inj hf
      exact hRet 33 ls (vp_nar_int _) dX3_cutTo_33
    · have hf := iF c2 hf
      refine lv_lookup (pc := 1) (tgt := 34) (off := 33) hx hb dX3_cutTo_1 (by decide) ((lv_osw c1 rfl).trans ((lv_osw c2 rfl).trans (rfl))) (by decide) ?_
      refine lv_iload_n (pc := 34) hx hb dX3_cutTo_34 rfl (lv_at hl 1 rfl) ?_
      obtain rfl := Option.some.inj hf
      exact hRet 35 ls (vp_nar_int _) dX3_cutTo_35
theorem hdX3_cutTo : yX3_cutTo.cls ≠ "java/lang/invoke/MethodHandle" ∧ yX3_cutTo.cls ≠ "java/lang/invoke/VarHandle" ∧ (parseMethodDescriptor yX3_cutTo.desc).map (fun d => d.parameters.length) = some 2 := by decide +kernel
abbrev rmX4_within : Room := { frames := 0, cells := 0, slots := 0, locals := 0 }
set_option maxHeartbeats 4000000 in
set_option maxRecDepth 100000 in
theorem mtX4_within (l : Launch) (D : va_G) (cI cZ cQ : ClassId)  (p0 : Int32) (p1 : Int32) (p2 : Int32) (out : Int32) (hf : fX4_within p0 p1 p2 = some out) : Met l yX4_within wsX4_within rmX4_within (RoP D cI cZ cQ [.int p0, .int p1, .int p2] ([])) (vp_Si (fun r' => r' = out)) 0 0 (fun _ => False) := by
  refine metRi (ty := .boolean) (cc := cX4_within) (maxL := 3) (by decide) rfl (Nat.le_of_ble_eq_true rfl) ?_
  intro p e s m args below meth c Q CF hK hP hRet ls hl
  obtain ⟨hx, hb, hml, hown, hts⟩ := id CF
  have hl : lv_has ls 3 [(0, .int p0), (1, .int p1), (2, .int p2)] := hl
  unfold fX4_within at hf
  refine lv_iload_n (pc := 0) hx hb dX4_within_0 rfl (lv_at hl 0 rfl) ?_
  refine lv_iload_n (pc := 1) hx hb dX4_within_1 rfl (lv_at hl 1 rfl) ?_
  refine lv_icmp_lt (pc := 2) (tgt := 14) hx hb dX4_within_2 (by decide) (fun c1 => ?_) (fun c1 => ?_)
  · have hf := iT c1 hf
    refine lv_iconst (pc := 14) (v := 0) hx hb dX4_within_14 (by decide) ?_
    obtain rfl := Option.some.inj hf
    exact hRet 15 ls (nzB (Or.inl rfl)) dX4_within_15
  · have hf := iF c1 hf
    refine lv_iload_n (pc := 5) hx hb dX4_within_5 rfl (lv_at hl 0 rfl) ?_
    refine lv_iload_n (pc := 6) hx hb dX4_within_6 rfl (lv_at hl 2 rfl) ?_
    refine lv_icmp_gt (pc := 7) (tgt := 14) hx hb dX4_within_7 (by decide) (fun c2 => ?_) (fun c2 => ?_)
    · have hf := iT c2 hf
      refine lv_iconst (pc := 14) (v := 0) hx hb dX4_within_14 (by decide) ?_
      obtain rfl := Option.some.inj hf
      exact hRet 15 ls (nzB (Or.inl rfl)) dX4_within_15
    · have hf := iF c2 hf
      refine lv_iconst (pc := 10) (v := 1) hx hb dX4_within_10 (by decide) ?_
      refine lv_goto (pc := 11) (tgt := 15) hx hb dX4_within_11 (by decide) ?_
      obtain rfl := Option.some.inj hf
      exact hRet 15 ls (nzB (Or.inr rfl)) dX4_within_15
theorem hdX4_within : yX4_within.cls ≠ "java/lang/invoke/MethodHandle" ∧ yX4_within.cls ≠ "java/lang/invoke/VarHandle" ∧ (parseMethodDescriptor yX4_within.desc).map (fun d => d.parameters.length) = some 3 := by decide +kernel
abbrev rmX4_isSheet : Room := { frames := 1, cells := 0, slots := 0, locals := 22 }
set_option maxHeartbeats 4000000 in
set_option maxRecDepth 100000 in
theorem mtX4_isSheet (l : Launch) (D : va_G) (cI cZ cQ : ClassId)  (p0 : Int32) (out : Int32) (hf : fX4_isSheet p0 = some out) : Met l yX4_isSheet wsX4_isSheet rmX4_isSheet (RoP D cI cZ cQ [.int p0] ([])) (vp_Si (fun r' => r' = out)) 0 0 (fun _ => False) := by
  refine metRi (ty := .boolean) (cc := cX4_isSheet) (maxL := 1) (by decide) rfl (Nat.le_of_ble_eq_true rfl) ?_
  intro p e s m args below meth c Q CF hK hP hRet ls hl
  obtain ⟨hx, hb, hml, hown, hts⟩ := id CF
  have hl : lv_has ls 1 [(0, .int p0)] := hl
  unfold fX4_isSheet at hf
  refine lv_iload_n (pc := 0) hx hb dX4_isSheet_0 rfl (lv_at hl 0 rfl) ?_
  refine lv_iconst (pc := 1) (v := 0) hx hb dX4_isSheet_1 (by decide) ?_
  refine lv_iconst (pc := 2) (v := 3) hx hb dX4_isSheet_2 (by decide) ?_
  obtain ⟨v1, h2, hf⟩ := bd hf
  refine roSi (pc := 3) (As := [.int p0, .int 0, .int 3]) (rest := []) CF (mtX4_within l D cI cZ cQ p0 0 3 v1 h2) (va_cwS 3 hts gX4_isSheet_X4_within rfl rfl rfl hdX4_within ⟨Nat.le_of_ble_eq_true rfl, Nat.le_of_ble_eq_true rfl⟩) hK P0 rfl hl.1 rfl (Nat.le_of_ble_eq_true rfl) dX4_isSheet_3 ?_
  obtain ⟨h3, hf⟩ := gB_e hf
  obtain rfl := Option.some.inj hf
  exact hRet 6 ls (nzB h3) dX4_isSheet_6
theorem hdX4_isSheet : yX4_isSheet.cls ≠ "java/lang/invoke/MethodHandle" ∧ yX4_isSheet.cls ≠ "java/lang/invoke/VarHandle" ∧ (parseMethodDescriptor yX4_isSheet.desc).map (fun d => d.parameters.length) = some 1 := by decide +kernel
abbrev rmX4_isSort : Room := { frames := 1, cells := 0, slots := 0, locals := 22 }
set_option maxHeartbeats 4000000 in
set_option maxRecDepth 100000 in
theorem mtX4_isSort (l : Launch) (D : va_G) (cI cZ cQ : ClassId)  (p0 : Int32) (out : Int32) (hf : fX4_isSort p0 = some out) : Met l yX4_isSort wsX4_isSort rmX4_isSort (RoP D cI cZ cQ [.int p0] ([])) (vp_Si (fun r' => r' = out)) 0 0 (fun _ => False) := by
  refine metRi (ty := .boolean) (cc := cX4_isSort) (maxL := 1) (by decide) rfl (Nat.le_of_ble_eq_true rfl) ?_
  intro p e s m args below meth c Q CF hK hP hRet ls hl
  obtain ⟨hx, hb, hml, hown, hts⟩ := id CF
  have hl : lv_has ls 1 [(0, .int p0)] := hl
  unfold fX4_isSort at hf
  refine lv_iload_n (pc := 0) hx hb dX4_isSort_0 rfl (lv_at hl 0 rfl) ?_
  refine lv_iconst (pc := 1) (v := 0) hx hb dX4_isSort_1 (by decide) ?_
  refine lv_iconst (pc := 2) (v := 2) hx hb dX4_isSort_2 (by decide) ?_
  obtain ⟨v1, h2, hf⟩ := bd hf
  refine roSi (pc := 3) (As := [.int p0, .int 0, .int 2]) (rest := []) CF (mtX4_within l D cI cZ cQ p0 0 2 v1 h2) (va_cwS 3 hts gX4_isSort_X4_within rfl rfl rfl hdX4_within ⟨Nat.le_of_ble_eq_true rfl, Nat.le_of_ble_eq_true rfl⟩) hK P0 rfl hl.1 rfl (Nat.le_of_ble_eq_true rfl) dX4_isSort_3 ?_
  obtain ⟨h3, hf⟩ := gB_e hf
  obtain rfl := Option.some.inj hf
  exact hRet 6 ls (nzB h3) dX4_isSort_6
theorem hdX4_isSort : yX4_isSort.cls ≠ "java/lang/invoke/MethodHandle" ∧ yX4_isSort.cls ≠ "java/lang/invoke/VarHandle" ∧ (parseMethodDescriptor yX4_isSort.desc).map (fun d => d.parameters.length) = some 1 := by decide +kernel
abbrev rmX4_isOf : Room := { frames := 0, cells := 0, slots := 0, locals := 0 }
set_option maxHeartbeats 4000000 in
set_option maxRecDepth 100000 in
theorem mtX4_isOf (l : Launch) (D : va_G) (cI cZ cQ : ClassId)  (p0 : Int32) (p1 : Int32) (out : Int32) (hf : fX4_isOf p0 p1 = some out) : Met l yX4_isOf wsX4_isOf rmX4_isOf (RoP D cI cZ cQ [.int p0, .int p1] ([])) (vp_Si (fun r' => r' = out)) 0 0 (fun _ => False) := by
  refine metRi (ty := .boolean) (cc := cX4_isOf) (maxL := 2) (by decide) rfl (Nat.le_of_ble_eq_true rfl) ?_
  intro p e s m args below meth c Q CF hK hP hRet ls hl
  obtain ⟨hx, hb, hml, hown, hts⟩ := id CF
  have hl : lv_has ls 2 [(0, .int p0), (1, .int p1)] := hl
  unfold fX4_isOf at hf
  refine lv_iload_n (pc := 0) hx hb dX4_isOf_0 rfl (lv_at hl 0 rfl) ?_
  refine lv_iload_n (pc := 1) hx hb dX4_isOf_1 rfl (lv_at hl 1 rfl) ?_
  refine lv_ishr (pc := 2) hx hb dX4_isOf_2 ?_
  refine lv_iconst (pc := 3) (v := 1) hx hb dX4_isOf_3 (by decide) ?_
  refine lv_iand (pc := 4) hx hb dX4_isOf_4 ?_
  refine lv_iconst (pc := 5) (v := 1) hx hb dX4_isOf_5 (by decide) ?_
  refine lv_icmp_ne (pc := 6) (tgt := 13) hx hb dX4_isOf_6 (by decide) (fun c1 => ?_) (fun c1 => ?_)
  · have hf := iF c1 hf
    refine lv_iconst (pc := 13) (v := 0) hx hb dX4_isOf_13 (by decide) ?_
    obtain rfl := Option.some.inj hf
    exact hRet 14 ls (nzB (Or.inl rfl)) dX4_isOf_14
  · have hf := iT c1 hf
    refine lv_iconst (pc := 9) (v := 1) hx hb dX4_isOf_9 (by decide) ?_
    refine lv_goto (pc := 10) (tgt := 14) hx hb dX4_isOf_10 (by decide) ?_
    obtain rfl := Option.some.inj hf
    exact hRet 14 ls (nzB (Or.inr rfl)) dX4_isOf_14
theorem hdX4_isOf : yX4_isOf.cls ≠ "java/lang/invoke/MethodHandle" ∧ yX4_isOf.cls ≠ "java/lang/invoke/VarHandle" ∧ (parseMethodDescriptor yX4_isOf.desc).map (fun d => d.parameters.length) = some 2 := by decide +kernel
abbrev rmX4_size : Room := { frames := 0, cells := 0, slots := 0, locals := 0 }
set_option maxHeartbeats 4000000 in
set_option maxRecDepth 100000 in
theorem mtX4_size (l : Launch) (D : va_G) (cI cZ cQ : ClassId)  (p0 : Int32) (out : Int32) (hf : fX4_size p0 = some out) : Met l yX4_size wsX4_size rmX4_size (RoP D cI cZ cQ [.int p0] ([])) (vp_Si (fun r' => r' = out)) 0 0 (fun _ => False) := by
  refine metRi (ty := .int) (cc := cX4_size) (maxL := 3) (by decide) rfl (Nat.le_of_ble_eq_true rfl) ?_
  intro p e s m args below meth c Q CF hK hP hRet ls hl
  obtain ⟨hx, hb, hml, hown, hts⟩ := id CF
  have hl : lv_has ls 3 [(0, .int p0)] := hl
  unfold fX4_size at hf
  refine lv_iconst (pc := 0) (v := 0) hx hb dX4_size_0 (by decide) ?_
  refine lv_istore_n (pc := 1) (lv' := [(1, .int 0), (0, .int p0)]) hx hb dX4_size_1 rfl hl (by decide) rfl (fun ls hl => ?_)
  refine lv_iload_n (pc := 2) hx hb dX4_size_2 rfl (lv_at hl 1 rfl) ?_
  refine lv_istore_n (pc := 3) (lv' := [(2, .int p0), (1, .int 0), (0, .int p0)]) hx hb dX4_size_3 rfl hl (by decide) rfl (fun ls hl => ?_)
  refine zl2 (G := FX4_size_4 ) (fun x1_1 x2_2 => ∀ (ls : Array Slot), lv_has ls 3 [(0, .int p0), (1, .int x1_1), (2, .int x2_2)] → W p l e rmX4_size s m args below meth c s.heap [] 0 0 Q (F0 m 4 ls [])) (fun x1_3 x2_4 => ∀ (ls : Array Slot), lv_has ls 3 [(0, .int p0), (1, .int x1_3), (2, .int x2_4)] → W p l e rmX4_size s m args below meth c s.heap [] 0 0 Q (F0 m 21 ls [])) hf (fun x1_3 x2_4 hf => ?_) (fun kx slf hkx hslf x1_1 x2_2 hf => ?_) ls (lv_sub hl [2, 1, 0] rfl)
  · intro ls hl
    refine lv_iload_n (pc := 21) hx hb dX4_size_21 rfl (lv_at hl 1 rfl) ?_
    obtain rfl := Option.some.inj hf
    exact hRet 22 ls (vp_nar_int _) dX4_size_22
  · unfold FX4_size_4 at hf
    intro ls hl
    refine lv_iload_n (pc := 4) hx hb dX4_size_4 rfl (lv_at hl 2 rfl) ?_
    refine lv_if_le (pc := 5) (tgt := 21) hx hb dX4_size_5 (by decide) (fun c5 => ?_) (fun c5 => ?_)
    · have hf := iT c5 hf
      exact hkx _ _ hf ls (lv_sub hl [0, 1, 2] rfl)
    · have hf := iF c5 hf
      refine lv_iload_n (pc := 8) hx hb dX4_size_8 rfl (lv_at hl 1 rfl) ?_
      refine lv_iload_n (pc := 9) hx hb dX4_size_9 rfl (lv_at hl 2 rfl) ?_
      refine lv_iconst (pc := 10) (v := 1) hx hb dX4_size_10 (by decide) ?_
      refine lv_iand (pc := 11) hx hb dX4_size_11 ?_
      refine lv_iadd (pc := 12) hx hb dX4_size_12 ?_
      refine lv_istore_n (pc := 13) (lv' := [(1, .int (x1_1 + (x2_2 &&& 1))), (0, .int p0), (2, .int x2_2)]) hx hb dX4_size_13 rfl hl (by decide) rfl (fun ls hl => ?_)
      refine lv_iload_n (pc := 14) hx hb dX4_size_14 rfl (lv_at hl 2 rfl) ?_
      refine lv_iconst (pc := 15) (v := 1) hx hb dX4_size_15 (by decide) ?_
      refine lv_ishr (pc := 16) hx hb dX4_size_16 ?_
      refine lv_istore_n (pc := 17) (lv' := [(2, .int (x2_2 >>> (1 &&& 31))), (1, .int (x1_1 + (x2_2 &&& 1))), (0, .int p0)]) hx hb dX4_size_17 rfl hl (by decide) rfl (fun ls hl => ?_)
      refine lv_goto (pc := 18) (tgt := 4) hx hb dX4_size_18 (by decide) ?_
      exact hslf _ _ hf ls (lv_sub hl [2, 1, 0] rfl)
theorem hdX4_size : yX4_size.cls ≠ "java/lang/invoke/MethodHandle" ∧ yX4_size.cls ≠ "java/lang/invoke/VarHandle" ∧ (parseMethodDescriptor yX4_size.desc).map (fun d => d.parameters.length) = some 1 := by decide +kernel
abbrev rmX4_hedgesOf : Room := { frames := 0, cells := 0, slots := 0, locals := 0 }
set_option maxHeartbeats 4000000 in
set_option maxRecDepth 100000 in
theorem mtX4_hedgesOf (l : Launch) (D : va_G) (cI cZ cQ : ClassId)  (p0 : Int32) (out : Int32) (hf : fX4_hedgesOf p0 = some out) : Met l yX4_hedgesOf wsX4_hedgesOf rmX4_hedgesOf (RoP D cI cZ cQ [.int p0] ([])) (vp_Si (fun r' => r' = out)) 0 0 (fun _ => False) := by
  refine metRi (ty := .int) (cc := cX4_hedgesOf) (maxL := 1) (by decide) rfl (Nat.le_of_ble_eq_true rfl) ?_
  intro p e s m args below meth c Q CF hK hP hRet ls hl
  obtain ⟨hx, hb, hml, hown, hts⟩ := id CF
  have hl : lv_has ls 1 [(0, .int p0)] := hl
  unfold fX4_hedgesOf at hf
  refine lv_iload_n (pc := 0) hx hb dX4_hedgesOf_0 rfl (lv_at hl 0 rfl) ?_
  refine lv_iload_n (pc := 1) hx hb dX4_hedgesOf_1 rfl (lv_at hl 0 rfl) ?_
  refine lv_iconst (pc := 2) (v := 1) hx hb dX4_hedgesOf_2 (by decide) ?_
  refine lv_isub (pc := 3) hx hb dX4_hedgesOf_3 ?_
  refine lv_imul (pc := 4) hx hb dX4_hedgesOf_4 ?_
  refine lv_iconst (pc := 5) (v := 2) hx hb dX4_hedgesOf_5 (by decide) ?_
  refine lv_idiv (pc := 6) hx hb dX4_hedgesOf_6 (by decide) ?_
  obtain rfl := Option.some.inj hf
  exact hRet 7 ls (vp_nar_int _) dX4_hedgesOf_7
theorem hdX4_hedgesOf : yX4_hedgesOf.cls ≠ "java/lang/invoke/MethodHandle" ∧ yX4_hedgesOf.cls ≠ "java/lang/invoke/VarHandle" ∧ (parseMethodDescriptor yX4_hedgesOf.desc).map (fun d => d.parameters.length) = some 1 := by decide +kernel
abbrev rmX4_inLeastTerms : Room := { frames := 0, cells := 0, slots := 0, locals := 0 }
set_option maxHeartbeats 4000000 in
set_option maxRecDepth 100000 in
theorem mtX4_inLeastTerms (l : Launch) (D : va_G) (cI cZ cQ : ClassId)  (p0 : Int64) (p1 : Int64) (p2 : Int32) (out : Int64) (hf : fX4_inLeastTerms p0 p1 p2 = some out) : Met l yX4_inLeastTerms wsX4_inLeastTerms rmX4_inLeastTerms (RoP D cI cZ cQ [.long p0, .long p1, .int p2] ([])) (vp_Sl (fun r' => r' = out)) 0 0 (fun _ => False) := by
  refine metRl (cc := cX4_inLeastTerms) (maxL := 11) (by decide) rfl (Nat.le_of_ble_eq_true rfl) ?_
  intro p e s m args below meth c Q CF hK hP hRet ls hl
  obtain ⟨hx, hb, hml, hown, hts⟩ := id CF
  have hl : lv_has ls 11 [(0, .long p0), (2, .long p1), (4, .int p2)] := hl
  unfold fX4_inLeastTerms at hf
  refine lv_lload_n (pc := 0) hx hb dX4_inLeastTerms_0 rfl (lv_at hl 0 rfl) ?_
  refine lv_lstore (pc := 1) (lv' := [(5, .long p0), (0, .long p0), (2, .long p1), (4, .int p2)]) hx hb dX4_inLeastTerms_1 hl (by decide) rfl (fun ls hl => ?_)
  refine lv_lload_n (pc := 3) hx hb dX4_inLeastTerms_3 rfl (lv_at hl 2 rfl) ?_
  refine lv_lstore (pc := 4) (lv' := [(7, .long p1), (5, .long p0), (0, .long p0), (2, .long p1), (4, .int p2)]) hx hb dX4_inLeastTerms_4 hl (by decide) rfl (fun ls hl => ?_)
  refine zl2 (G := FX4_inLeastTerms_6 ) (fun x5_1 x7_2 => ∀ (ls : Array Slot), lv_has ls 11 [(0, .long p0), (2, .long p1), (4, .int p2), (5, .long x5_1), (7, .long x7_2)] → W p l e rmX4_inLeastTerms s m args below meth c s.heap [] 0 0 Q (F0 m 6 ls [])) (fun x5_3 x7_4 => ∀ (ls : Array Slot), lv_has ls 11 [(0, .long p0), (2, .long p1), (4, .int p2), (5, .long x5_3), (7, .long x7_4)] → W p l e rmX4_inLeastTerms s m args below meth c s.heap [] 0 0 Q (F0 m 31 ls [])) hf (fun x5_3 x7_4 hf => ?_) (fun kx slf hkx hslf x5_1 x7_2 hf => ?_) ls (lv_sub hl [2, 3, 4, 1, 0] rfl)
  · intro ls hl
    refine lv_iload (pc := 31) hx hb dX4_inLeastTerms_31 (lv_at hl 2 rfl) ?_
    refine lv_if_ne (pc := 33) (tgt := 43) hx hb dX4_inLeastTerms_33 (by decide) (fun c7 => ?_) (fun c7 => ?_)
    · have hf := iF c7 hf
      refine lv_lload_n (pc := 43) hx hb dX4_inLeastTerms_43 rfl (lv_at hl 1 rfl) ?_
      refine lv_lload (pc := 44) hx hb dX4_inLeastTerms_44 (lv_at hl 3 rfl) ?_
      obtain ⟨h8, hf⟩ := gJ_e hf
      refine lv_ldiv (pc := 46) hx hb dX4_inLeastTerms_46 h8 ?_
      obtain rfl := Option.some.inj hf
      exact hRet 47 ls dX4_inLeastTerms_47
    · have hf := iT c7 hf
      refine lv_lload_n (pc := 36) hx hb dX4_inLeastTerms_36 rfl (lv_at hl 0 rfl) ?_
      refine lv_lload (pc := 37) hx hb dX4_inLeastTerms_37 (lv_at hl 3 rfl) ?_
      obtain ⟨h9, hf⟩ := gJ_e hf
      refine lv_ldiv (pc := 39) hx hb dX4_inLeastTerms_39 h9 ?_
      refine lv_goto (pc := 40) (tgt := 47) hx hb dX4_inLeastTerms_40 (by decide) ?_
      obtain rfl := Option.some.inj hf
      exact hRet 47 ls dX4_inLeastTerms_47
  · unfold FX4_inLeastTerms_6 at hf
    intro ls hl
    refine lv_lload (pc := 6) hx hb dX4_inLeastTerms_6 (lv_at hl 4 rfl) ?_
    refine lv_lconst (pc := 8) (v := 0) hx hb dX4_inLeastTerms_8 (by decide) ?_
    refine W.lcmp (pc := 9) hx hb dX4_inLeastTerms_9 ?_
    refine lv_if_eq (pc := 10) (tgt := 31) hx hb dX4_inLeastTerms_10 (by decide) (fun c5 => ?_) (fun c5 => ?_)
    · have hf := iT c5 hf
      exact hkx _ _ hf ls (lv_sub hl [0, 1, 2, 3, 4] rfl)
    · have hf := iF c5 hf
      refine lv_lload (pc := 13) hx hb dX4_inLeastTerms_13 (lv_at hl 3 rfl) ?_
      refine lv_lload (pc := 15) hx hb dX4_inLeastTerms_15 (lv_at hl 4 rfl) ?_
      obtain ⟨h6, hf⟩ := gJ_e hf
      refine lv_lrem (pc := 17) hx hb dX4_inLeastTerms_17 h6 ?_
      refine lv_lstore (pc := 18) (lv' := [(9, .long (x5_1 - x5_1 / x7_2 * x7_2)), (0, .long p0), (2, .long p1), (4, .int p2), (5, .long x5_1), (7, .long x7_2)]) hx hb dX4_inLeastTerms_18 hl (by decide) rfl (fun ls hl => ?_)
      refine lv_lload (pc := 20) hx hb dX4_inLeastTerms_20 (lv_at hl 5 rfl) ?_
      refine lv_lstore (pc := 22) (lv' := [(5, .long x7_2), (9, .long (x5_1 - x5_1 / x7_2 * x7_2)), (0, .long p0), (2, .long p1), (4, .int p2), (7, .long x7_2)]) hx hb dX4_inLeastTerms_22 hl (by decide) rfl (fun ls hl => ?_)
      refine lv_lload (pc := 24) hx hb dX4_inLeastTerms_24 (lv_at hl 1 rfl) ?_
      refine lv_lstore (pc := 26) (lv' := [(7, .long (x5_1 - x5_1 / x7_2 * x7_2)), (5, .long x7_2), (9, .long (x5_1 - x5_1 / x7_2 * x7_2)), (0, .long p0), (2, .long p1), (4, .int p2)]) hx hb dX4_inLeastTerms_26 hl (by decide) rfl (fun ls hl => ?_)
      refine lv_goto (pc := 28) (tgt := 6) hx hb dX4_inLeastTerms_28 (by decide) ?_
      exact hslf _ _ hf ls (lv_sub hl [3, 4, 5, 1, 0] rfl)
theorem hdX4_inLeastTerms : yX4_inLeastTerms.cls ≠ "java/lang/invoke/MethodHandle" ∧ yX4_inLeastTerms.cls ≠ "java/lang/invoke/VarHandle" ∧ (parseMethodDescriptor yX4_inLeastTerms.desc).map (fun d => d.parameters.length) = some 3 := by decide +kernel
