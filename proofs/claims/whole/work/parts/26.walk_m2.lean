abbrev rmX4_keepAll : Room := { frames := 2, cells := 0, slots := 0, locals := 40 }
theorem inX4_keepAll_X4 : ∀ w ∈ wsX40, w ∈ wsX4_keepAll := fun _ h => List.mem_cons_of_mem _ (List.mem_append_right _ h)
set_option maxHeartbeats 4000000 in
set_option maxRecDepth 100000 in
theorem mtX4_keepAll (l : Launch) (D : va_G) (cI cZ cQ : ClassId) (oM : Nat) (aM : Nat → Nat) (M : Bk)  (sz : Nat) (out : Bk) (hf : fX4_keepAll M = some out) : Met l yX4_keepAll wsX4_keepAll rmX4_keepAll (WrP D cI cZ cQ [.ref oM] (wM cI oM aM M) sz) (WrQv D (wM cI oM aM M) (wM cI oM aM out) sz) 0 0 (va_A (wM cI oM aM M) sz) := by
  refine metWv (cc := cX4_keepAll) (maxL := 2) (by decide) rfl (Nat.le_of_ble_eq_true rfl) ?_
  intro p e s m args below meth c Q A CF hK hP hD hA hRet ls hl
  obtain ⟨hx, hb, hml, hown, hts⟩ := id CF
  have hS : va_S A s.heap s.heap [] := va_S.rf
  have hl : lv_has ls 2 [(0, .ref oM)] := hl
  unfold fX4_keepAll at hf
  refine lv_aload_n (pc := 0) hx hb dX4_keepAll_0 rfl (lv_at hl 0 rfl) ?_
  refine lv_aload_n (pc := 1) hx hb dX4_keepAll_1 rfl (lv_at hl 0 rfl) ?_
  refine va_get (pc := 2) (D := D) (ci := 4) (v := .int (M 9 0)) (C := RX4) (T := TX4) (N := 29) hx hb hts inX4_keepAll_X4 hown hK.1 hP 0 rfl rfl 9 (by decide) (hts (.fieldLink RX4 114 "HedgeHolesModel" "worn" "I") (by decide +kernel)) (fun _ h9 => h9) rfl dX4_keepAll_2 ?_
  refine va_put (pc := 5) (D := D) (ci := 4) (v := .int (M 9 0)) (ty := .int) (C := RX4) (T := TX4) (N := 29) hx hb hts inX4_keepAll_X4 tyX4 tyX4_ok nmX4 hown hK.1 hP hD hS 0 rfl rfl 21 (by decide) (hts (.fieldLink RX4 165 "HedgeHolesModel" "keptWorn" "I") (by decide +kernel)) (fun _ h9 => h9) rfl (by decide +kernel) (vp_nar_int _) rfl (Nat.le_of_ble_eq_true rfl) dX4_keepAll_5 (fun H locs hP hD hS => ?_)
  have hP : va_P D vwCl (wM cI oM aM (sB M 21 0 (M 9 0))) H := hP
  have hD : va_D A (wM cI oM aM (sB M 21 0 (M 9 0))) := hD
  obtain ⟨M_1, h2, hf⟩ := bd hf
  have h2 := Option.some.inj h2
  rw [h2] at hP hD
  refine lv_iconst (pc := 8) (v := 0) hx hb dX4_keepAll_8 (by decide) ?_
  refine lv_istore_n (pc := 9) (lv' := [(1, .int 0), (0, .ref oM)]) hx hb dX4_keepAll_9 rfl hl (by decide) rfl (fun ls hl => ?_)
  refine zl2 (G := FX4_keepAll_10 ) (fun x1_3 M_4 => ∀ (ls : Array Slot) (H : Heap) (locs : List Loc), lv_has ls 2 [(0, .ref oM), (1, .int x1_3)] → va_P D vwCl (wM cI oM aM M_4) H → va_D A (wM cI oM aM M_4) → va_S A s.heap H locs → W p l e rmX4_keepAll s m args below meth c H locs 0 0 Q (F0 m 10 ls [])) (fun x1_5 M_6 => ∀ (ls : Array Slot) (H : Heap) (locs : List Loc), lv_has ls 2 [(0, .ref oM), (1, .int x1_5)] → va_P D vwCl (wM cI oM aM M_6) H → va_D A (wM cI oM aM M_6) → va_S A s.heap H locs → W p l e rmX4_keepAll s m args below meth c H locs 0 0 Q (F0 m 36 ls [])) hf (fun x1_5 M_6 hf => ?_) (fun kx slf hkx hslf x1_3 M_4 hf => ?_) ls H locs (lv_sub hl [1, 0] rfl) hP hD hS
  · intro ls H locs hl hP hD hS
    refine lv_iconst (pc := 36) (v := 0) hx hb dX4_keepAll_36 (by decide) ?_
    refine lv_istore_n (pc := 37) (lv' := [(1, .int 0), (0, .ref oM)]) hx hb dX4_keepAll_37 rfl hl (by decide) rfl (fun ls hl => ?_)
    refine zl2 (G := FX4_keepAll_38 ) (fun x1_13 M_14 => ∀ (ls : Array Slot) (H : Heap) (locs : List Loc), lv_has ls 2 [(0, .ref oM), (1, .int x1_13)] → va_P D vwCl (wM cI oM aM M_14) H → va_D A (wM cI oM aM M_14) → va_S A s.heap H locs → W p l e rmX4_keepAll s m args below meth c H locs 0 0 Q (F0 m 38 ls [])) (fun x1_15 M_16 => ∀ (ls : Array Slot) (H : Heap) (locs : List Loc), lv_has ls 2 [(0, .ref oM), (1, .int x1_15)] → va_P D vwCl (wM cI oM aM M_16) H → va_D A (wM cI oM aM M_16) → va_S A s.heap H locs → W p l e rmX4_keepAll s m args below meth c H locs 0 0 Q (F0 m 64 ls [])) hf (fun x1_15 M_16 hf => ?_) (fun kx slf hkx hslf x1_13 M_14 hf => ?_) ls H locs (lv_sub hl [1, 0] rfl) hP hD hS
    · intro ls H locs hl hP hD hS
      obtain rfl := Option.some.inj hf
      exact hRet 64 ls H locs dX4_keepAll_64 hP hS
    · unfold FX4_keepAll_38 at hf
      intro ls H locs hl hP hD hS
      refine lv_iload_n (pc := 38) hx hb dX4_keepAll_38 rfl (lv_at hl 1 rfl) ?_
      refine lv_aload_n (pc := 39) hx hb dX4_keepAll_39 rfl (lv_at hl 0 rfl) ?_
      refine va_get (pc := 40) (D := D) (ci := 4) (v := .int (M_14 6 0)) (C := RX4) (T := TX4) (N := 29) hx hb hts inX4_keepAll_X4 hown hK.1 hP 0 rfl rfl 6 (by decide) (hts (.fieldLink RX4 75 "HedgeHolesModel" "goers" "I") (by decide +kernel)) (fun _ h9 => h9) rfl dX4_keepAll_40 ?_
      refine lv_icmp_ge (pc := 43) (tgt := 64) hx hb dX4_keepAll_43 (by decide) (fun c17 => ?_) (fun c17 => ?_)
      · have hf := iT c17 hf
        exact hkx _ _ hf ls H locs (lv_sub hl [0, 1] rfl) hP hD hS
      · have hf := iF c17 hf
        refine lv_aload_n (pc := 46) hx hb dX4_keepAll_46 rfl (lv_at hl 0 rfl) ?_
        refine va_get (pc := 47) (D := D) (ci := 4) (v := .ref (aM 20)) (C := RX4) (T := TX4) (N := 29) hx hb hts inX4_keepAll_X4 hown hK.1 hP 0 rfl rfl 20 (by decide) (hts (.fieldLink RX4 40 "HedgeHolesModel" "keptField" "[I") (by decide +kernel)) (fun _ h9 => h9) rfl dX4_keepAll_47 ?_
        refine lv_iload_n (pc := 50) hx hb dX4_keepAll_50 rfl (lv_at hl 1 rfl) ?_
        refine lv_aload_n (pc := 51) hx hb dX4_keepAll_51 rfl (lv_at hl 0 rfl) ?_
        refine va_get (pc := 52) (D := D) (ci := 4) (v := .ref (aM 13)) (C := RX4) (T := TX4) (N := 29) hx hb hts inX4_keepAll_X4 hown hK.1 hP 0 rfl rfl 13 (by decide) (hts (.fieldLink RX4 28 "HedgeHolesModel" "field" "[I") (by decide +kernel)) (fun _ h9 => h9) rfl dX4_keepAll_52 ?_
        refine lv_iload_n (pc := 55) hx hb dX4_keepAll_55 rfl (lv_at hl 1 rfl) ?_
        obtain ⟨h18, hf⟩ := gI_e hf
        refine va_iald (pc := 56) (f := M_14 13) (n := 5) hx hb hK.1 hP 7 0 rfl rfl h18 dX4_keepAll_56 ?_
        refine va_iast (pc := 57) (f := M_14 20) (n := 5) hx hb hK.1 hP hD hS 11 0 rfl rfl h18 dX4_keepAll_57 (fun H locs hP hD hS => ?_)
        have hP : va_P D vwCl (wM cI oM aM (sB M_14 20 x1_13.toNatClampNeg (M_14 13 x1_13.toNatClampNeg))) H := hP
        have hD : va_D A (wM cI oM aM (sB M_14 20 x1_13.toNatClampNeg (M_14 13 x1_13.toNatClampNeg))) := hD
        obtain ⟨M_19, h20, hf⟩ := bd hf
        have h20 := Option.some.inj h20
        rw [h20] at hP hD
        refine lv_iinc (pc := 58) (v := (x1_13 + 1)) (lv' := [(1, .int (x1_13 + 1)), (0, .ref oM)]) hx hb dX4_keepAll_58 hl (k := 1) rfl rfl (by decide) rfl (fun ls hl => ?_)
        refine lv_goto (pc := 61) (tgt := 38) hx hb dX4_keepAll_61 (by decide) ?_
        exact hslf _ _ hf ls H locs (lv_sub hl [1, 0] rfl) hP hD hS
  · unfold FX4_keepAll_10 at hf
    intro ls H locs hl hP hD hS
    refine lv_iload_n (pc := 10) hx hb dX4_keepAll_10 rfl (lv_at hl 1 rfl) ?_
    refine lv_aload_n (pc := 11) hx hb dX4_keepAll_11 rfl (lv_at hl 0 rfl) ?_
    obtain ⟨v7, h8, hf⟩ := bd hf
    refine roVi (pc := 12) (As := []) (rest := [.int x1_3]) CF (mtX4_hedges l D cI cZ cQ oM aM M_4 v7 h8) (cwV 0 hts gX4_keepAll_X4_hedges rfl rfl rfl ⟨rfl, hdX4_hedges⟩ ⟨Nat.le_of_ble_eq_true rfl, Nat.le_of_ble_eq_true rfl⟩) hK hP rfl rfl rfl rfl hl.1 rfl (Nat.le_of_ble_eq_true rfl) dX4_keepAll_12 ?_
    refine lv_icmp_ge (pc := 15) (tgt := 36) hx hb dX4_keepAll_15 (by decide) (fun c9 => ?_) (fun c9 => ?_)
    · have hf := iT c9 hf
      exact hkx _ _ hf ls H locs (lv_sub hl [0, 1] rfl) hP hD hS
    · have hf := iF c9 hf
      refine lv_aload_n (pc := 18) hx hb dX4_keepAll_18 rfl (lv_at hl 0 rfl) ?_
      refine va_get (pc := 19) (D := D) (ci := 4) (v := .ref (aM 19)) (C := RX4) (T := TX4) (N := 29) hx hb hts inX4_keepAll_X4 hown hK.1 hP 0 rfl rfl 19 (by decide) (hts (.fieldLink RX4 37 "HedgeHolesModel" "keptGreats" "[I") (by decide +kernel)) (fun _ h9 => h9) rfl dX4_keepAll_19 ?_
      refine lv_iload_n (pc := 22) hx hb dX4_keepAll_22 rfl (lv_at hl 1 rfl) ?_
      refine lv_aload_n (pc := 23) hx hb dX4_keepAll_23 rfl (lv_at hl 0 rfl) ?_
      refine va_get (pc := 24) (D := D) (ci := 4) (v := .ref (aM 10)) (C := RX4) (T := TX4) (N := 29) hx hb hts inX4_keepAll_X4 hown hK.1 hP 0 rfl rfl 10 (by decide) (hts (.fieldLink RX4 19 "HedgeHolesModel" "greats" "[I") (by decide +kernel)) (fun _ h9 => h9) rfl dX4_keepAll_24 ?_
      refine lv_iload_n (pc := 27) hx hb dX4_keepAll_27 rfl (lv_at hl 1 rfl) ?_
      obtain ⟨h10, hf⟩ := gI_e hf
      refine va_iald (pc := 28) (f := M_4 10) (n := 10) hx hb hK.1 hP 4 0 rfl rfl h10 dX4_keepAll_28 ?_
      refine va_iast (pc := 29) (f := M_4 19) (n := 10) hx hb hK.1 hP hD hS 10 0 rfl rfl h10 dX4_keepAll_29 (fun H locs hP hD hS => ?_)
      have hP : va_P D vwCl (wM cI oM aM (sB M_4 19 x1_3.toNatClampNeg (M_4 10 x1_3.toNatClampNeg))) H := hP
      have hD : va_D A (wM cI oM aM (sB M_4 19 x1_3.toNatClampNeg (M_4 10 x1_3.toNatClampNeg))) := hD
      obtain ⟨M_11, h12, hf⟩ := bd hf
      have h12 := Option.some.inj h12
      rw [h12] at hP hD
      refine lv_iinc (pc := 30) (v := (x1_3 + 1)) (lv' := [(1, .int (x1_3 + 1)), (0, .ref oM)]) hx hb dX4_keepAll_30 hl (k := 1) rfl rfl (by decide) rfl (fun ls hl => ?_)
      refine lv_goto (pc := 33) (tgt := 10) hx hb dX4_keepAll_33 (by decide) ?_
      exact hslf _ _ hf ls H locs (lv_sub hl [1, 0] rfl) hP hD hS
theorem hdX4_keepAll : yX4_keepAll.cls ≠ "java/lang/invoke/MethodHandle" ∧ yX4_keepAll.cls ≠ "java/lang/invoke/VarHandle" ∧ (parseMethodDescriptor yX4_keepAll.desc).map (fun d => d.parameters.length) = some 0 := by decide +kernel
abbrev rmX4_putBack : Room := { frames := 2, cells := 0, slots := 0, locals := 40 }
theorem inX4_putBack_X4 : ∀ w ∈ wsX40, w ∈ wsX4_putBack := fun _ h => List.mem_cons_of_mem _ (List.mem_append_right _ h)
set_option maxHeartbeats 4000000 in
set_option maxRecDepth 100000 in
theorem mtX4_putBack (l : Launch) (D : va_G) (cI cZ cQ : ClassId) (oM : Nat) (aM : Nat → Nat) (M : Bk)  (sz : Nat) (out : Bk) (hf : fX4_putBack M = some out) : Met l yX4_putBack wsX4_putBack rmX4_putBack (WrP D cI cZ cQ [.ref oM] (wM cI oM aM M) sz) (WrQv D (wM cI oM aM M) (wM cI oM aM out) sz) 0 0 (va_A (wM cI oM aM M) sz) := by
  refine metWv (cc := cX4_putBack) (maxL := 2) (by decide) rfl (Nat.le_of_ble_eq_true rfl) ?_
  intro p e s m args below meth c Q A CF hK hP hD hA hRet ls hl
  obtain ⟨hx, hb, hml, hown, hts⟩ := id CF
  have hS : va_S A s.heap s.heap [] := va_S.rf
  have hl : lv_has ls 2 [(0, .ref oM)] := hl
  unfold fX4_putBack at hf
  refine lv_aload_n (pc := 0) hx hb dX4_putBack_0 rfl (lv_at hl 0 rfl) ?_
  refine lv_aload_n (pc := 1) hx hb dX4_putBack_1 rfl (lv_at hl 0 rfl) ?_
  refine va_get (pc := 2) (D := D) (ci := 4) (v := .int (M 21 0)) (C := RX4) (T := TX4) (N := 29) hx hb hts inX4_putBack_X4 hown hK.1 hP 0 rfl rfl 21 (by decide) (hts (.fieldLink RX4 165 "HedgeHolesModel" "keptWorn" "I") (by decide +kernel)) (fun _ h9 => h9) rfl dX4_putBack_2 ?_
  refine va_put (pc := 5) (D := D) (ci := 4) (v := .int (M 21 0)) (ty := .int) (C := RX4) (T := TX4) (N := 29) hx hb hts inX4_putBack_X4 tyX4 tyX4_ok nmX4 hown hK.1 hP hD hS 0 rfl rfl 9 (by decide) (hts (.fieldLink RX4 114 "HedgeHolesModel" "worn" "I") (by decide +kernel)) (fun _ h9 => h9) rfl (by decide +kernel) (vp_nar_int _) rfl (Nat.le_of_ble_eq_true rfl) dX4_putBack_5 (fun H locs hP hD hS => ?_)
  have hP : va_P D vwCl (wM cI oM aM (sB M 9 0 (M 21 0))) H := hP
  have hD : va_D A (wM cI oM aM (sB M 9 0 (M 21 0))) := hD
  obtain ⟨M_1, h2, hf⟩ := bd hf
  have h2 := Option.some.inj h2
  rw [h2] at hP hD
  refine lv_iconst (pc := 8) (v := 0) hx hb dX4_putBack_8 (by decide) ?_
  refine lv_istore_n (pc := 9) (lv' := [(1, .int 0), (0, .ref oM)]) hx hb dX4_putBack_9 rfl hl (by decide) rfl (fun ls hl => ?_)
  refine zl2 (G := FX4_putBack_10 ) (fun x1_3 M_4 => ∀ (ls : Array Slot) (H : Heap) (locs : List Loc), lv_has ls 2 [(0, .ref oM), (1, .int x1_3)] → va_P D vwCl (wM cI oM aM M_4) H → va_D A (wM cI oM aM M_4) → va_S A s.heap H locs → W p l e rmX4_putBack s m args below meth c H locs 0 0 Q (F0 m 10 ls [])) (fun x1_5 M_6 => ∀ (ls : Array Slot) (H : Heap) (locs : List Loc), lv_has ls 2 [(0, .ref oM), (1, .int x1_5)] → va_P D vwCl (wM cI oM aM M_6) H → va_D A (wM cI oM aM M_6) → va_S A s.heap H locs → W p l e rmX4_putBack s m args below meth c H locs 0 0 Q (F0 m 36 ls [])) hf (fun x1_5 M_6 hf => ?_) (fun kx slf hkx hslf x1_3 M_4 hf => ?_) ls H locs (lv_sub hl [1, 0] rfl) hP hD hS
  · intro ls H locs hl hP hD hS
    refine lv_iconst (pc := 36) (v := 0) hx hb dX4_putBack_36 (by decide) ?_
    refine lv_istore_n (pc := 37) (lv' := [(1, .int 0), (0, .ref oM)]) hx hb dX4_putBack_37 rfl hl (by decide) rfl (fun ls hl => ?_)
    refine zl2 (G := FX4_putBack_38 ) (fun x1_13 M_14 => ∀ (ls : Array Slot) (H : Heap) (locs : List Loc), lv_has ls 2 [(0, .ref oM), (1, .int x1_13)] → va_P D vwCl (wM cI oM aM M_14) H → va_D A (wM cI oM aM M_14) → va_S A s.heap H locs → W p l e rmX4_putBack s m args below meth c H locs 0 0 Q (F0 m 38 ls [])) (fun x1_15 M_16 => ∀ (ls : Array Slot) (H : Heap) (locs : List Loc), lv_has ls 2 [(0, .ref oM), (1, .int x1_15)] → va_P D vwCl (wM cI oM aM M_16) H → va_D A (wM cI oM aM M_16) → va_S A s.heap H locs → W p l e rmX4_putBack s m args below meth c H locs 0 0 Q (F0 m 64 ls [])) hf (fun x1_15 M_16 hf => ?_) (fun kx slf hkx hslf x1_13 M_14 hf => ?_) ls H locs (lv_sub hl [1, 0] rfl) hP hD hS
    · intro ls H locs hl hP hD hS
      obtain rfl := Option.some.inj hf
      exact hRet 64 ls H locs dX4_putBack_64 hP hS
    · unfold FX4_putBack_38 at hf
      intro ls H locs hl hP hD hS
      refine lv_iload_n (pc := 38) hx hb dX4_putBack_38 rfl (lv_at hl 1 rfl) ?_
      refine lv_aload_n (pc := 39) hx hb dX4_putBack_39 rfl (lv_at hl 0 rfl) ?_
      refine va_get (pc := 40) (D := D) (ci := 4) (v := .int (M_14 6 0)) (C := RX4) (T := TX4) (N := 29) hx hb hts inX4_putBack_X4 hown hK.1 hP 0 rfl rfl 6 (by decide) (hts (.fieldLink RX4 75 "HedgeHolesModel" "goers" "I") (by decide +kernel)) (fun _ h9 => h9) rfl dX4_putBack_40 ?_
      refine lv_icmp_ge (pc := 43) (tgt := 64) hx hb dX4_putBack_43 (by decide) (fun c17 => ?_) (fun c17 => ?_)
      · have hf := iT c17 hf
        exact hkx _ _ hf ls H locs (lv_sub hl [0, 1] rfl) hP hD hS
      · have hf := iF c17 hf
        refine lv_aload_n (pc := 46) hx hb dX4_putBack_46 rfl (lv_at hl 0 rfl) ?_
        refine va_get (pc := 47) (D := D) (ci := 4) (v := .ref (aM 13)) (C := RX4) (T := TX4) (N := 29) hx hb hts inX4_putBack_X4 hown hK.1 hP 0 rfl rfl 13 (by decide) (hts (.fieldLink RX4 28 "HedgeHolesModel" "field" "[I") (by decide +kernel)) (fun _ h9 => h9) rfl dX4_putBack_47 ?_
        refine lv_iload_n (pc := 50) hx hb dX4_putBack_50 rfl (lv_at hl 1 rfl) ?_
        refine lv_aload_n (pc := 51) hx hb dX4_putBack_51 rfl (lv_at hl 0 rfl) ?_
        refine va_get (pc := 52) (D := D) (ci := 4) (v := .ref (aM 20)) (C := RX4) (T := TX4) (N := 29) hx hb hts inX4_putBack_X4 hown hK.1 hP 0 rfl rfl 20 (by decide) (hts (.fieldLink RX4 40 "HedgeHolesModel" "keptField" "[I") (by decide +kernel)) (fun _ h9 => h9) rfl dX4_putBack_52 ?_
        refine lv_iload_n (pc := 55) hx hb dX4_putBack_55 rfl (lv_at hl 1 rfl) ?_
        obtain ⟨h18, hf⟩ := gI_e hf
        refine va_iald (pc := 56) (f := M_14 20) (n := 5) hx hb hK.1 hP 11 0 rfl rfl h18 dX4_putBack_56 ?_
        refine va_iast (pc := 57) (f := M_14 13) (n := 5) hx hb hK.1 hP hD hS 7 0 rfl rfl h18 dX4_putBack_57 (fun H locs hP hD hS => ?_)
        have hP : va_P D vwCl (wM cI oM aM (sB M_14 13 x1_13.toNatClampNeg (M_14 20 x1_13.toNatClampNeg))) H := hP
        have hD : va_D A (wM cI oM aM (sB M_14 13 x1_13.toNatClampNeg (M_14 20 x1_13.toNatClampNeg))) := hD
        obtain ⟨M_19, h20, hf⟩ := bd hf
        have h20 := Option.some.inj h20
        rw [h20] at hP hD
        refine lv_iinc (pc := 58) (v := (x1_13 + 1)) (lv' := [(1, .int (x1_13 + 1)), (0, .ref oM)]) hx hb dX4_putBack_58 hl (k := 1) rfl rfl (by decide) rfl (fun ls hl => ?_)
        refine lv_goto (pc := 61) (tgt := 38) hx hb dX4_putBack_61 (by decide) ?_
        exact hslf _ _ hf ls H locs (lv_sub hl [1, 0] rfl) hP hD hS
  · unfold FX4_putBack_10 at hf
    intro ls H locs hl hP hD hS
    refine lv_iload_n (pc := 10) hx hb dX4_putBack_10 rfl (lv_at hl 1 rfl) ?_
    refine lv_aload_n (pc := 11) hx hb dX4_putBack_11 rfl (lv_at hl 0 rfl) ?_
    obtain ⟨v7, h8, hf⟩ := bd hf
    refine roVi (pc := 12) (As := []) (rest := [.int x1_3]) CF (mtX4_hedges l D cI cZ cQ oM aM M_4 v7 h8) (cwV 0 hts gX4_putBack_X4_hedges rfl rfl rfl ⟨rfl, hdX4_hedges⟩ ⟨Nat.le_of_ble_eq_true rfl, Nat.le_of_ble_eq_true rfl⟩) hK hP rfl rfl rfl rfl hl.1 rfl (Nat.le_of_ble_eq_true rfl) dX4_putBack_12 ?_
    refine lv_icmp_ge (pc := 15) (tgt := 36) hx hb dX4_putBack_15 (by decide) (fun c9 => ?_) (fun c9 => ?_)
    · have hf := iT c9 hf
      exact hkx _ _ hf ls H locs (lv_sub hl [0, 1] rfl) hP hD hS
    · have hf := iF c9 hf
      refine lv_aload_n (pc := 18) hx hb dX4_putBack_18 rfl (lv_at hl 0 rfl) ?_
      refine va_get (pc := 19) (D := D) (ci := 4) (v := .ref (aM 10)) (C := RX4) (T := TX4) (N := 29) hx hb hts inX4_putBack_X4 hown hK.1 hP 0 rfl rfl 10 (by decide) (hts (.fieldLink RX4 19 "HedgeHolesModel" "greats" "[I") (by decide +kernel)) (fun _ h9 => h9) rfl dX4_putBack_19 ?_
      refine lv_iload_n (pc := 22) hx hb dX4_putBack_22 rfl (lv_at hl 1 rfl) ?_
      refine lv_aload_n (pc := 23) hx hb dX4_putBack_23 rfl (lv_at hl 0 rfl) ?_
      refine va_get (pc := 24) (D := D) (ci := 4) (v := .ref (aM 19)) (C := RX4) (T := TX4) (N := 29) hx hb hts inX4_putBack_X4 hown hK.1 hP 0 rfl rfl 19 (by decide) (hts (.fieldLink RX4 37 "HedgeHolesModel" "keptGreats" "[I") (by decide +kernel)) (fun _ h9 => h9) rfl dX4_putBack_24 ?_
      refine lv_iload_n (pc := 27) hx hb dX4_putBack_27 rfl (lv_at hl 1 rfl) ?_
      obtain ⟨h10, hf⟩ := gI_e hf
      refine va_iald (pc := 28) (f := M_4 19) (n := 10) hx hb hK.1 hP 10 0 rfl rfl h10 dX4_putBack_28 ?_
      refine va_iast (pc := 29) (f := M_4 10) (n := 10) hx hb hK.1 hP hD hS 4 0 rfl rfl h10 dX4_putBack_29 (fun H locs hP hD hS => ?_)
      have hP : va_P D vwCl (wM cI oM aM (sB M_4 10 x1_3.toNatClampNeg (M_4 19 x1_3.toNatClampNeg))) H := hP
      have hD : va_D A (wM cI oM aM (sB M_4 10 x1_3.toNatClampNeg (M_4 19 x1_3.toNatClampNeg))) := hD
      obtain ⟨M_11, h12, hf⟩ := bd hf
      have h12 := Option.some.inj h12
      rw [h12] at hP hD
      refine lv_iinc (pc := 30) (v := (x1_3 + 1)) (lv' := [(1, .int (x1_3 + 1)), (0, .ref oM)]) hx hb dX4_putBack_30 hl (k := 1) rfl rfl (by decide) rfl (fun ls hl => ?_)
      refine lv_goto (pc := 33) (tgt := 10) hx hb dX4_putBack_33 (by decide) ?_
      exact hslf _ _ hf ls H locs (lv_sub hl [1, 0] rfl) hP hD hS
theorem hdX4_putBack : yX4_putBack.cls ≠ "java/lang/invoke/MethodHandle" ∧ yX4_putBack.cls ≠ "java/lang/invoke/VarHandle" ∧ (parseMethodDescriptor yX4_putBack.desc).map (fun d => d.parameters.length) = some 0 := by decide +kernel
abbrev rmX4_does : Room := { frames := 3, cells := 0, slots := 0, locals := 65 }
theorem inX4_does_X4 : ∀ w ∈ wsX40, w ∈ wsX4_does := fun _ h => List.mem_cons_of_mem _ (List.mem_append_right _ h)
set_option maxHeartbeats 4000000 in
set_option maxRecDepth 100000 in
theorem mtX4_does (l : Launch) (D : va_G) (cI cZ cQ : ClassId) (oM : Nat) (aM : Nat → Nat) (M : Bk) (p0 : Int32) (p1 : Int32) (sz : Nat) (out : (Int32 × Bk)) (hf : fX4_does M p0 p1 = some out) : Met l yX4_does wsX4_does rmX4_does (WrP D cI cZ cQ [.ref oM, .int p0, .int p1] (wM cI oM aM M) sz) (WrQi D out.1 (wM cI oM aM M) (wM cI oM aM out.2) sz) 0 0 (va_A (wM cI oM aM M) sz) := by
  refine metWi (ty := .boolean) (cc := cX4_does) (maxL := 4) (by decide) rfl (Nat.le_of_ble_eq_true rfl) ?_
  intro p e s m args below meth c Q A CF hK hP hD hA hRet ls hl
  obtain ⟨hx, hb, hml, hown, hts⟩ := id CF
  have hS : va_S A s.heap s.heap [] := va_S.rf
  have hl : lv_has ls 4 [(0, .ref oM), (1, .int p0), (2, .int p1)] := hl
  unfold fX4_does at hf
  refine lv_iload_n (pc := 0) hx hb dX4_does_0 rfl (lv_at hl 2 rfl) ?_
  refine lv_bipush (pc := 1) (v := 10) hx hb dX4_does_1 (by decide) ?_
  refine lv_icmp_ne (pc := 3) (tgt := 25) hx hb dX4_does_3 (by decide) (fun c1 => ?_) (fun c1 => ?_)
  · have hf := iF c1 hf
    refine lv_iload_n (pc := 25) hx hb dX4_does_25 rfl (lv_at hl 2 rfl) ?_
    refine lv_bipush (pc := 26) (v := 20) hx hb dX4_does_26 (by decide) ?_
    refine lv_icmp_ne (pc := 28) (tgt := 60) hx hb dX4_does_28 (by decide) (fun c2 => ?_) (fun c2 => ?_)
    · have hf := iF c2 hf
      refine lv_aload_n (pc := 60) hx hb dX4_does_60 rfl (lv_at hl 0 rfl) ?_
      refine lv_dup (pc := 61) hx hb dX4_does_61 rfl ?_
      refine va_get (pc := 62) (D := D) (ci := 4) (v := .int (M 22 0)) (C := RX4) (T := TX4) (N := 29) hx hb hts inX4_does_X4 hown hK.1 hP 0 rfl rfl 22 (by decide) (hts (.fieldLink RX4 168 "HedgeHolesModel" "goings" "I") (by decide +kernel)) (fun _ h9 => h9) rfl dX4_does_62 ?_
      refine lv_iconst (pc := 65) (v := 1) hx hb dX4_does_65 (by decide) ?_
      refine lv_iadd (pc := 66) hx hb dX4_does_66 ?_
      refine va_put (pc := 67) (D := D) (ci := 4) (v := .int ((M 22 0) + 1)) (ty := .int) (C := RX4) (T := TX4) (N := 29) hx hb hts inX4_does_X4 tyX4 tyX4_ok nmX4 hown hK.1 hP hD hS 0 rfl rfl 22 (by decide) (hts (.fieldLink RX4 168 "HedgeHolesModel" "goings" "I") (by decide +kernel)) (fun _ h9 => h9) rfl (by decide +kernel) (vp_nar_int _) rfl (Nat.le_of_ble_eq_true rfl) dX4_does_67 (fun H locs hP hD hS => ?_)
      have hP : va_P D vwCl (wM cI oM aM (sB M 22 0 ((M 22 0) + 1))) H := hP
      have hD : va_D A (wM cI oM aM (sB M 22 0 ((M 22 0) + 1))) := hD
      obtain ⟨M_3, h4, hf⟩ := bd hf
      have h4 := Option.some.inj h4
      rw [h4] at hP hD
      refine lv_aload_n (pc := 70) hx hb dX4_does_70 rfl (lv_at hl 0 rfl) ?_
      refine lv_iload_n (pc := 71) hx hb dX4_does_71 rfl (lv_at hl 1 rfl) ?_
      refine lv_iload_n (pc := 72) hx hb dX4_does_72 rfl (lv_at hl 2 rfl) ?_
      obtain ⟨v5, h6, hf⟩ := bd hf
      refine wsVi (pc := 73) (As := [.int p0, .int p1]) (rest := []) (w1 := wM cI oM aM v5.2) CF (mtX4_goesTo l D cI cZ cQ oM aM M_3 p0 p1 H.size v5 h6) (cwV 2 hts gX4_does_X4_goesTo rfl rfl rfl ⟨rfl, hdX4_goesTo⟩ ⟨Nat.le_of_ble_eq_true rfl, Nat.le_of_ble_eq_true rfl⟩) hK hP hD hS hA rfl rfl rfl rfl rfl hl.1 rfl (Nat.le_of_ble_eq_true rfl) dX4_does_73 (fun H locs hP hD hS => ?_)
      obtain ⟨h7, hf⟩ := gB_e hf
      obtain rfl := Option.some.inj hf
      exact hRet 76 ls H locs (nzB h7) dX4_does_76 hP hS
    · have hf := iT c2 hf
      refine lv_iload_n (pc := 31) hx hb dX4_does_31 rfl (lv_at hl 1 rfl) ?_
      refine lv_aload_n (pc := 32) hx hb dX4_does_32 rfl (lv_at hl 0 rfl) ?_
      obtain ⟨v8, h9, hf⟩ := bd hf
      refine roVi (pc := 33) (As := []) (rest := [.int p0]) CF (mtX4_hedges l D cI cZ cQ oM aM M v8 h9) (cwV 0 hts gX4_does_X4_hedges rfl rfl rfl ⟨rfl, hdX4_hedges⟩ ⟨Nat.le_of_ble_eq_true rfl, Nat.le_of_ble_eq_true rfl⟩) hK hP rfl rfl rfl rfl hl.1 rfl (Nat.le_of_ble_eq_true rfl) dX4_does_33 ?_
      refine lv_icmp_ge (pc := 36) (tgt := 48) hx hb dX4_does_36 (by decide) (fun c10 => ?_) (fun c10 => ?_)
      · have hf := iT c10 hf
        refine lv_iconst (pc := 48) (v := 0) hx hb dX4_does_48 (by decide) ?_
        obtain rfl := Option.some.inj hf
        exact hRet 49 ls s.heap [] (nzB (Or.inl rfl)) dX4_does_49 hP hS
      · have hf := iF c10 hf
        refine lv_aload_n (pc := 39) hx hb dX4_does_39 rfl (lv_at hl 0 rfl) ?_
        refine va_get (pc := 40) (D := D) (ci := 4) (v := .ref (aM 10)) (C := RX4) (T := TX4) (N := 29) hx hb hts inX4_does_X4 hown hK.1 hP 0 rfl rfl 10 (by decide) (hts (.fieldLink RX4 19 "HedgeHolesModel" "greats" "[I") (by decide +kernel)) (fun _ h9 => h9) rfl dX4_does_40 ?_
        refine lv_iload_n (pc := 43) hx hb dX4_does_43 rfl (lv_at hl 1 rfl) ?_
        obtain ⟨h11, hf⟩ := gI_e hf
        refine va_iald (pc := 44) (f := M 10) (n := 10) hx hb hK.1 hP 4 0 rfl rfl h11 dX4_does_44 ?_
        refine lv_if_ne (pc := 45) (tgt := 50) hx hb dX4_does_45 (by decide) (fun c12 => ?_) (fun c12 => ?_)
        · have hf := iF c12 hf
          refine lv_aload_n (pc := 50) hx hb dX4_does_50 rfl (lv_at hl 0 rfl) ?_
          refine va_get (pc := 51) (D := D) (ci := 4) (v := .ref (aM 10)) (C := RX4) (T := TX4) (N := 29) hx hb hts inX4_does_X4 hown hK.1 hP 0 rfl rfl 10 (by decide) (hts (.fieldLink RX4 19 "HedgeHolesModel" "greats" "[I") (by decide +kernel)) (fun _ h9 => h9) rfl dX4_does_51 ?_
          refine lv_iload_n (pc := 54) hx hb dX4_does_54 rfl (lv_at hl 1 rfl) ?_
          refine lv_bipush (pc := 55) (v := 9) hx hb dX4_does_55 (by decide) ?_
          refine va_iast (pc := 57) (f := M 10) (n := 10) hx hb hK.1 hP hD hS 4 0 rfl rfl h11 dX4_does_57 (fun H locs hP hD hS => ?_)
          have hP : va_P D vwCl (wM cI oM aM (sB M 10 p0.toNatClampNeg 9)) H := hP
          have hD : va_D A (wM cI oM aM (sB M 10 p0.toNatClampNeg 9)) := hD
          obtain ⟨M_13, h14, hf⟩ := bd hf
          have h14 := Option.some.inj h14
          rw [h14] at hP hD
          refine lv_iconst (pc := 58) (v := 1) hx hb dX4_does_58 (by decide) ?_
          obtain rfl := Option.some.inj hf
          exact hRet 59 ls H locs (nzB (Or.inr rfl)) dX4_does_59 hP hS
        · have hf := iT c12 hf
          refine lv_iconst (pc := 48) (v := 0) hx hb dX4_does_48 (by decide) ?_
          obtain rfl := Option.some.inj hf
          exact hRet 49 ls s.heap [] (nzB (Or.inl rfl)) dX4_does_49 hP hS
  · have hf := iT c1 hf
    refine lv_iconst (pc := 6) (v := 0) hx hb dX4_does_6 (by decide) ?_
    refine lv_istore_n (pc := 7) (lv' := [(3, .int 0), (0, .ref oM), (1, .int p0), (2, .int p1)]) hx hb dX4_does_7 rfl hl (by decide) rfl (fun ls hl => ?_)
    refine zl2 (G := FX4_does_8 p0) (fun x3_15 M_16 => ∀ (ls : Array Slot) (H : Heap) (locs : List Loc), lv_has ls 4 [(0, .ref oM), (1, .int p0), (2, .int p1), (3, .int x3_15)] → va_P D vwCl (wM cI oM aM M_16) H → va_D A (wM cI oM aM M_16) → va_S A s.heap H locs → W p l e rmX4_does s m args below meth c H locs 0 0 Q (F0 m 8 ls [])) (fun x3_17 M_18 => ∀ (ls : Array Slot) (H : Heap) (locs : List Loc), lv_has ls 4 [(0, .ref oM), (1, .int p0), (2, .int p1), (3, .int x3_17)] → va_P D vwCl (wM cI oM aM M_18) H → va_D A (wM cI oM aM M_18) → va_S A s.heap H locs → W p l e rmX4_does s m args below meth c H locs 0 0 Q (F0 m 23 ls [])) hf (fun x3_17 M_18 hf => ?_) (fun kx slf hkx hslf x3_15 M_16 hf => ?_) ls s.heap [] (lv_sub hl [1, 2, 3, 0] rfl) hP hD hS
    · intro ls H locs hl hP hD hS
      refine lv_iconst (pc := 23) (v := 1) hx hb dX4_does_23 (by decide) ?_
      obtain rfl := Option.some.inj hf
      exact hRet 24 ls H locs (nzB (Or.inr rfl)) dX4_does_24 hP hS
    · unfold FX4_does_8 at hf
      intro ls H locs hl hP hD hS
      refine lv_iload_n (pc := 8) hx hb dX4_does_8 rfl (lv_at hl 3 rfl) ?_
      refine lv_iload_n (pc := 9) hx hb dX4_does_9 rfl (lv_at hl 1 rfl) ?_
      refine lv_icmp_ge (pc := 10) (tgt := 23) hx hb dX4_does_10 (by decide) (fun c19 => ?_) (fun c19 => ?_)
      · have hf := iT c19 hf
        exact hkx _ _ hf ls H locs (lv_sub hl [0, 1, 2, 3] rfl) hP hD hS
      · have hf := iF c19 hf
        refine lv_aload_n (pc := 13) hx hb dX4_does_13 rfl (lv_at hl 0 rfl) ?_
        obtain ⟨v20, h21, hf⟩ := bd hf
        refine wsVv (pc := 14) (As := []) (rest := []) (w1 := wM cI oM aM v20) CF (mtX4_oneYear l D cI cZ cQ oM aM M_16 H.size v20 h21) (cwV 0 hts gX4_does_X4_oneYear rfl rfl rfl ⟨rfl, hdX4_oneYear⟩ ⟨Nat.le_of_ble_eq_true rfl, Nat.le_of_ble_eq_true rfl⟩) hK hP hD hS hA rfl rfl rfl rfl rfl hl.1 rfl (Nat.le_of_ble_eq_true rfl) dX4_does_14 (fun H locs hP hD hS => ?_)
        refine lv_iinc (pc := 17) (v := (x3_15 + 1)) (lv' := [(3, .int (x3_15 + 1)), (0, .ref oM), (1, .int p0), (2, .int p1)]) hx hb dX4_does_17 hl (k := 3) rfl rfl (by decide) rfl (fun ls hl => ?_)
        refine lv_goto (pc := 20) (tgt := 8) hx hb dX4_does_20 (by decide) ?_
        exact hslf _ _ hf ls H locs (lv_sub hl [1, 2, 3, 0] rfl) hP hD hS
theorem hdX4_does : yX4_does.cls ≠ "java/lang/invoke/MethodHandle" ∧ yX4_does.cls ≠ "java/lang/invoke/VarHandle" ∧ (parseMethodDescriptor yX4_does.desc).map (fun d => d.parameters.length) = some 2 := by decide +kernel
abbrev rmX4_goSeason : Room := { frames := 4, cells := 0, slots := 0, locals := 88 }
theorem inX4_goSeason_X4 : ∀ w ∈ wsX40, w ∈ wsX4_goSeason := fun _ h => List.mem_cons_of_mem _ (List.mem_append_right _ h)
set_option maxHeartbeats 4000000 in
set_option maxRecDepth 100000 in
theorem mtX4_goSeason (l : Launch) (D : va_G) (cI cZ cQ : ClassId) (oM : Nat) (aM : Nat → Nat) (M : Bk) (p0 : Int32) (p1 : Int32) (sz : Nat) (out : (Int32 × Bk)) (hf : fX4_goSeason M p0 p1 = some out) : Met l yX4_goSeason wsX4_goSeason rmX4_goSeason (WrP D cI cZ cQ [.ref oM, .int p0, .int p1] (wM cI oM aM M) sz) (WrQi D out.1 (wM cI oM aM M) (wM cI oM aM out.2) sz) 0 0 (va_A (wM cI oM aM M) sz) := by
  refine metWi (ty := .int) (cc := cX4_goSeason) (maxL := 4) (by decide) rfl (Nat.le_of_ble_eq_true rfl) ?_
  intro p e s m args below meth c Q A CF hK hP hD hA hRet ls hl
  obtain ⟨hx, hb, hml, hown, hts⟩ := id CF
  have hS : va_S A s.heap s.heap [] := va_S.rf
  have hl : lv_has ls 4 [(0, .ref oM), (1, .int p0), (2, .int p1)] := hl
  unfold fX4_goSeason at hf
  refine lv_aload_n (pc := 0) hx hb dX4_goSeason_0 rfl (lv_at hl 0 rfl) ?_
  refine lv_iconst (pc := 1) (v := 0) hx hb dX4_goSeason_1 (by decide) ?_
  refine va_put (pc := 2) (D := D) (ci := 4) (v := .int 0) (ty := .int) (C := RX4) (T := TX4) (N := 29) hx hb hts inX4_goSeason_X4 tyX4 tyX4_ok nmX4 hown hK.1 hP hD hS 0 rfl rfl 22 (by decide) (hts (.fieldLink RX4 168 "HedgeHolesModel" "goings" "I") (by decide +kernel)) (fun _ h9 => h9) rfl (by decide +kernel) (vp_nar_int _) rfl (Nat.le_of_ble_eq_true rfl) dX4_goSeason_2 (fun H locs hP hD hS => ?_)
  have hP : va_P D vwCl (wM cI oM aM (sB M 22 0 0)) H := hP
  have hD : va_D A (wM cI oM aM (sB M 22 0 0)) := hD
  obtain ⟨M_1, h2, hf⟩ := bd hf
  have h2 := Option.some.inj h2
  rw [h2] at hP hD
  refine lv_iconst (pc := 5) (v := 0) hx hb dX4_goSeason_5 (by decide) ?_
  refine lv_istore_n (pc := 6) (lv' := [(3, .int 0), (0, .ref oM), (1, .int p0), (2, .int p1)]) hx hb dX4_goSeason_6 rfl hl (by decide) rfl (fun ls hl => ?_)
  refine zl2 (G := FX4_goSeason_7 p0 p1) (fun x3_3 M_4 => ∀ (ls : Array Slot) (H : Heap) (locs : List Loc), lv_has ls 4 [(0, .ref oM), (1, .int p0), (2, .int p1), (3, .int x3_3)] → va_P D vwCl (wM cI oM aM M_4) H → va_D A (wM cI oM aM M_4) → va_S A s.heap H locs → W p l e rmX4_goSeason s m args below meth c H locs 0 0 Q (F0 m 7 ls [])) (fun x3_5 M_6 => ∀ (ls : Array Slot) (H : Heap) (locs : List Loc), lv_has ls 4 [(0, .ref oM), (1, .int p0), (2, .int p1), (3, .int x3_5)] → va_P D vwCl (wM cI oM aM M_6) H → va_D A (wM cI oM aM M_6) → va_S A s.heap H locs → W p l e rmX4_goSeason s m args below meth c H locs 0 0 Q (F0 m 49 ls [])) hf (fun x3_5 M_6 hf => ?_) (fun kx slf hkx hslf x3_3 M_4 hf => ?_) ls H locs (lv_sub hl [1, 2, 3, 0] rfl) hP hD hS
  · intro ls H locs hl hP hD hS
    refine lv_bipush (pc := 49) (v := (-9)) hx hb dX4_goSeason_49 (by decide) ?_
    obtain rfl := Option.some.inj hf
    exact hRet 51 ls H locs (vp_nar_int _) dX4_goSeason_51 hP hS
  · unfold FX4_goSeason_7 at hf
    intro ls H locs hl hP hD hS
    refine lv_iload_n (pc := 7) hx hb dX4_goSeason_7 rfl (lv_at hl 3 rfl) ?_
    refine lv_iload_n (pc := 8) hx hb dX4_goSeason_8 rfl (lv_at hl 2 rfl) ?_
    refine lv_icmp_ge (pc := 9) (tgt := 49) hx hb dX4_goSeason_9 (by decide) (fun c7 => ?_) (fun c7 => ?_)
    · have hf := iT c7 hf
      exact hkx _ _ hf ls H locs (lv_sub hl [0, 1, 2, 3] rfl) hP hD hS
    · have hf := iF c7 hf
      refine lv_aload_n (pc := 12) hx hb dX4_goSeason_12 rfl (lv_at hl 0 rfl) ?_
      refine lv_aload_n (pc := 13) hx hb dX4_goSeason_13 rfl (lv_at hl 0 rfl) ?_
      refine va_get (pc := 14) (D := D) (ci := 4) (v := .ref (aM 4)) (C := RX4) (T := TX4) (N := 29) hx hb hts inX4_goSeason_X4 hown hK.1 hP 0 rfl rfl 4 (by decide) (hts (.fieldLink RX4 16 "HedgeHolesModel" "cells" "[I") (by decide +kernel)) (fun _ h9 => h9) rfl dX4_goSeason_14 ?_
      refine lv_iload_n (pc := 17) hx hb dX4_goSeason_17 rfl (lv_at hl 1 rfl) ?_
      refine lv_iconst (pc := 18) (v := 2) hx hb dX4_goSeason_18 (by decide) ?_
      refine lv_iload_n (pc := 19) hx hb dX4_goSeason_19 rfl (lv_at hl 3 rfl) ?_
      refine lv_imul (pc := 20) hx hb dX4_goSeason_20 ?_
      refine lv_iadd (pc := 21) hx hb dX4_goSeason_21 ?_
      obtain ⟨h8, hf⟩ := gI_e hf
      refine va_iald (pc := 22) (f := M_4 4) (n := 240) hx hb hK.1 hP 3 0 rfl rfl h8 dX4_goSeason_22 ?_
      refine lv_aload_n (pc := 23) hx hb dX4_goSeason_23 rfl (lv_at hl 0 rfl) ?_
      refine va_get (pc := 24) (D := D) (ci := 4) (v := .ref (aM 4)) (C := RX4) (T := TX4) (N := 29) hx hb hts inX4_goSeason_X4 hown hK.1 hP 0 rfl rfl 4 (by decide) (hts (.fieldLink RX4 16 "HedgeHolesModel" "cells" "[I") (by decide +kernel)) (fun _ h9 => h9) rfl dX4_goSeason_24 ?_
      refine lv_iload_n (pc := 27) hx hb dX4_goSeason_27 rfl (lv_at hl 1 rfl) ?_
      refine lv_iconst (pc := 28) (v := 2) hx hb dX4_goSeason_28 (by decide) ?_
      refine lv_iload_n (pc := 29) hx hb dX4_goSeason_29 rfl (lv_at hl 3 rfl) ?_
      refine lv_imul (pc := 30) hx hb dX4_goSeason_30 ?_
      refine lv_iadd (pc := 31) hx hb dX4_goSeason_31 ?_
      refine lv_iconst (pc := 32) (v := 1) hx hb dX4_goSeason_32 (by decide) ?_
      refine lv_iadd (pc := 33) hx hb dX4_goSeason_33 ?_
      obtain ⟨h9, hf⟩ := gI_e hf
      refine va_iald (pc := 34) (f := M_4 4) (n := 240) hx hb hK.1 hP 3 0 rfl rfl h9 dX4_goSeason_34 ?_
      obtain ⟨v10, h11, hf⟩ := bd hf
      refine wsVi (pc := 35) (As := [.int (M_4 4 ((p0 + (2 * x3_3))).toNatClampNeg), .int (M_4 4 (((p0 + (2 * x3_3)) + 1)).toNatClampNeg)]) (rest := []) (w1 := wM cI oM aM v10.2) CF (mtX4_does l D cI cZ cQ oM aM M_4 (M_4 4 ((p0 + (2 * x3_3))).toNatClampNeg) (M_4 4 (((p0 + (2 * x3_3)) + 1)).toNatClampNeg) H.size v10 h11) (cwV 2 hts gX4_goSeason_X4_does rfl rfl rfl ⟨rfl, hdX4_does⟩ ⟨Nat.le_of_ble_eq_true rfl, Nat.le_of_ble_eq_true rfl⟩) hK hP hD hS hA rfl rfl rfl rfl rfl hl.1 rfl (Nat.le_of_ble_eq_true rfl) dX4_goSeason_35 (fun H locs hP hD hS => ?_)
      refine lv_if_ne (pc := 38) (tgt := 43) hx hb dX4_goSeason_38 (by decide) (fun c12 => ?_) (fun c12 => ?_)
      · have hf := iF c12 hf
        refine lv_iinc (pc := 43) (v := (x3_3 + 1)) (lv' := [(3, .int (x3_3 + 1)), (0, .ref oM), (1, .int p0), (2, .int p1)]) hx hb dX4_goSeason_43 hl (k := 3) rfl rfl (by decide) rfl (fun ls hl => ?_)
        refine lv_goto (pc := 46) (tgt := 7) hx hb dX4_goSeason_46 (by decide) ?_
        exact hslf _ _ hf ls H locs (lv_sub hl [1, 2, 3, 0] rfl) hP hD hS
      · have hf := iT c12 hf
        refine lv_iload_n (pc := 41) hx hb dX4_goSeason_41 rfl (lv_at hl 3 rfl) ?_
        obtain rfl := Option.some.inj hf
        exact hRet 42 ls H locs (vp_nar_int _) dX4_goSeason_42 hP hS
theorem hdX4_goSeason : yX4_goSeason.cls ≠ "java/lang/invoke/MethodHandle" ∧ yX4_goSeason.cls ≠ "java/lang/invoke/VarHandle" ∧ (parseMethodDescriptor yX4_goSeason.desc).map (fun d => d.parameters.length) = some 2 := by decide +kernel
abbrev rmX4_refusesPair : Room := { frames := 1, cells := 0, slots := 0, locals := 22 }
set_option maxHeartbeats 4000000 in
set_option maxRecDepth 100000 in
theorem mtX4_refusesPair (l : Launch) (D : va_G) (cI cZ cQ : ClassId) (oM : Nat) (aM : Nat → Nat) (M : Bk) (p0 : Int32) (p1 : Int32) (out : Int32) (hf : fX4_refusesPair M p0 p1 = some out) : Met l yX4_refusesPair wsX4_refusesPair rmX4_refusesPair (RoP D cI cZ cQ [.ref oM, .int p0, .int p1] (wM cI oM aM M)) (vp_Si (fun r' => r' = out)) 0 0 (fun _ => False) := by
  refine metRi (ty := .int) (cc := cX4_refusesPair) (maxL := 4) (by decide) rfl (Nat.le_of_ble_eq_true rfl) ?_
  intro p e s m args below meth c Q CF hK hP hRet ls hl
  obtain ⟨hx, hb, hml, hown, hts⟩ := id CF
  have hl : lv_has ls 4 [(0, .ref oM), (1, .int p0), (2, .int p1)] := hl
  unfold fX4_refusesPair at hf
  refine lv_iload_n (pc := 0) hx hb dX4_refusesPair_0 rfl (lv_at hl 2 rfl) ?_
  refine lv_iconst (pc := 1) (v := 0) hx hb dX4_refusesPair_1 (by decide) ?_
  refine lv_iconst (pc := 2) (v := 4) hx hb dX4_refusesPair_2 (by decide) ?_
  obtain ⟨v1, h2, hf⟩ := bd hf
  refine roSi (pc := 3) (As := [.int p1, .int 0, .int 4]) (rest := []) CF (mtX4_within l D cI cZ cQ p1 0 4 v1 h2) (va_cwS 3 hts gX4_refusesPair_X4_within rfl rfl rfl hdX4_within ⟨Nat.le_of_ble_eq_true rfl, Nat.le_of_ble_eq_true rfl⟩) hK P0 rfl hl.1 rfl (Nat.le_of_ble_eq_true rfl) dX4_refusesPair_3 ?_
  refine lv_istore_n (pc := 6) (lv' := [(3, .int v1), (0, .ref oM), (1, .int p0), (2, .int p1)]) hx hb dX4_refusesPair_6 rfl hl (by decide) rfl (fun ls hl => ?_)
  refine lv_iload_n (pc := 7) hx hb dX4_refusesPair_7 rfl (lv_at hl 0 rfl) ?_
  refine lv_if_ne (pc := 8) (tgt := 23) hx hb dX4_refusesPair_8 (by decide) (fun c3 => ?_) (fun c3 => ?_)
  · have hf := iF c3 hf
    refine lv_iload_n (pc := 23) hx hb dX4_refusesPair_23 rfl (lv_at hl 0 rfl) ?_
    refine lv_if_ne (pc := 24) (tgt := 40) hx hb dX4_refusesPair_24 (by decide) (fun c4 => ?_) (fun c4 => ?_)
    · have hf := iF c4 hf
      refine lv_iload_n (pc := 40) hx hb dX4_refusesPair_40 rfl (lv_at hl 0 rfl) ?_
      refine lv_if_eq (pc := 41) (tgt := 56) hx hb dX4_refusesPair_41 (by decide) (fun c5 => ?_) (fun c5 => ?_)
      · have hf := iT c5 hf
        refine lv_iconst (pc := 56) (v := 0) hx hb dX4_refusesPair_56 (by decide) ?_
        obtain rfl := Option.some.inj hf
        exact hRet 57 ls (vp_nar_int _) dX4_refusesPair_57
      · have hf := iF c5 hf
        refine lv_aload_n (pc := 44) hx hb dX4_refusesPair_44 rfl (lv_at hl 1 rfl) ?_
        refine lv_iload_n (pc := 45) hx hb dX4_refusesPair_45 rfl (lv_at hl 2 rfl) ?_
        obtain ⟨v6, h7, hf⟩ := bd hf
        refine roVi (pc := 46) (As := [.int p0]) (rest := []) CF (mtX4_isGoer l D cI cZ cQ oM aM M p0 v6 h7) (cwV 1 hts gX4_refusesPair_X4_isGoer rfl rfl rfl ⟨rfl, hdX4_isGoer⟩ ⟨Nat.le_of_ble_eq_true rfl, Nat.le_of_ble_eq_true rfl⟩) hK hP rfl rfl rfl rfl hl.1 rfl (Nat.le_of_ble_eq_true rfl) dX4_refusesPair_46 ?_
        refine lv_if_ne (pc := 49) (tgt := 56) hx hb dX4_refusesPair_49 (by decide) (fun c8 => ?_) (fun c8 => ?_)
        · have hf := iF c8 hf
          refine lv_iconst (pc := 56) (v := 0) hx hb dX4_refusesPair_56 (by decide) ?_
          obtain rfl := Option.some.inj hf
          exact hRet 57 ls (vp_nar_int _) dX4_refusesPair_57
        · have hf := iT c8 hf
          refine lv_iconst (pc := 52) (v := (-1)) hx hb dX4_refusesPair_52 (by decide) ?_
          refine lv_goto (pc := 53) (tgt := 57) hx hb dX4_refusesPair_53 (by decide) ?_
          obtain rfl := Option.some.inj hf
          exact hRet 57 ls (vp_nar_int _) dX4_refusesPair_57
    · have hf := iT c4 hf
      refine lv_iload_n (pc := 27) hx hb dX4_refusesPair_27 rfl (lv_at hl 2 rfl) ?_
      refine lv_iconst (pc := 28) (v := 0) hx hb dX4_refusesPair_28 (by decide) ?_
      refine lv_bipush (pc := 29) (v := 9) hx hb dX4_refusesPair_29 (by decide) ?_
      obtain ⟨v9, h10, hf⟩ := bd hf
      refine roSi (pc := 31) (As := [.int p0, .int 0, .int 9]) (rest := []) CF (mtX4_within l D cI cZ cQ p0 0 9 v9 h10) (va_cwS 3 hts gX4_refusesPair_X4_within rfl rfl rfl hdX4_within ⟨Nat.le_of_ble_eq_true rfl, Nat.le_of_ble_eq_true rfl⟩) hK P0 rfl hl.1 rfl (Nat.le_of_ble_eq_true rfl) dX4_refusesPair_31 ?_
      refine lv_if_ne (pc := 34) (tgt := 40) hx hb dX4_refusesPair_34 (by decide) (fun c11 => ?_) (fun c11 => ?_)
      · have hf := iF c11 hf
        refine lv_iload_n (pc := 40) hx hb dX4_refusesPair_40 rfl (lv_at hl 0 rfl) ?_
        refine lv_if_eq (pc := 41) (tgt := 56) hx hb dX4_refusesPair_41 (by decide) (fun c12 => ?_) (fun c12 => ?_)
        · have hf := iT c12 hf
          refine lv_iconst (pc := 56) (v := 0) hx hb dX4_refusesPair_56 (by decide) ?_
          obtain rfl := Option.some.inj hf
          exact hRet 57 ls (vp_nar_int _) dX4_refusesPair_57
        · have hf := iF c12 hf
          refine lv_aload_n (pc := 44) hx hb dX4_refusesPair_44 rfl (lv_at hl 1 rfl) ?_
          refine lv_iload_n (pc := 45) hx hb dX4_refusesPair_45 rfl (lv_at hl 2 rfl) ?_
          obtain ⟨v13, h14, hf⟩ := bd hf
          refine roVi (pc := 46) (As := [.int p0]) (rest := []) CF (mtX4_isGoer l D cI cZ cQ oM aM M p0 v13 h14) (cwV 1 hts gX4_refusesPair_X4_isGoer rfl rfl rfl ⟨rfl, hdX4_isGoer⟩ ⟨Nat.le_of_ble_eq_true rfl, Nat.le_of_ble_eq_true rfl⟩) hK hP rfl rfl rfl rfl hl.1 rfl (Nat.le_of_ble_eq_true rfl) dX4_refusesPair_46 ?_
          refine lv_if_ne (pc := 49) (tgt := 56) hx hb dX4_refusesPair_49 (by decide) (fun c15 => ?_) (fun c15 => ?_)
          · have hf := iF c15 hf
            refine lv_iconst (pc := 56) (v := 0) hx hb dX4_refusesPair_56 (by decide) ?_
            obtain rfl := Option.some.inj hf
            exact hRet 57 ls (vp_nar_int _) dX4_refusesPair_57
          · have hf := iT c15 hf
            refine lv_iconst (pc := 52) (v := (-1)) hx hb dX4_refusesPair_52 (by decide) ?_
            refine lv_goto (pc := 53) (tgt := 57) hx hb dX4_refusesPair_53 (by decide) ?_
            obtain rfl := Option.some.inj hf
            exact hRet 57 ls (vp_nar_int _) dX4_refusesPair_57
      · have hf := iT c11 hf
        refine lv_bipush (pc := 37) (v := (-2)) hx hb dX4_refusesPair_37 (by decide) ?_
        obtain rfl := Option.some.inj hf
        exact hRet 39 ls (vp_nar_int _) dX4_refusesPair_39
  · have hf := iT c3 hf
    refine lv_iload_n (pc := 11) hx hb dX4_refusesPair_11 rfl (lv_at hl 3 rfl) ?_
    refine lv_bipush (pc := 12) (v := 10) hx hb dX4_refusesPair_12 (by decide) ?_
    refine lv_icmp_eq (pc := 14) (tgt := 23) hx hb dX4_refusesPair_14 (by decide) (fun c16 => ?_) (fun c16 => ?_)
    · have hf := iT c16 hf
      refine lv_iload_n (pc := 23) hx hb dX4_refusesPair_23 rfl (lv_at hl 0 rfl) ?_
      refine lv_if_ne (pc := 24) (tgt := 40) hx hb dX4_refusesPair_24 (by decide) (fun c17 => ?_) (fun c17 => ?_)
      · have hf := iF c17 hf
        refine lv_iload_n (pc := 40) hx hb dX4_refusesPair_40 rfl (lv_at hl 0 rfl) ?_
        refine lv_if_eq (pc := 41) (tgt := 56) hx hb dX4_refusesPair_41 (by decide) (fun c18 => ?_) (fun c18 => ?_)
        · have hf := iT c18 hf
          refine lv_iconst (pc := 56) (v := 0) hx hb dX4_refusesPair_56 (by decide) ?_
          obtain rfl := Option.some.inj hf
          exact hRet 57 ls (vp_nar_int _) dX4_refusesPair_57
        · have hf := iF c18 hf
          refine lv_aload_n (pc := 44) hx hb dX4_refusesPair_44 rfl (lv_at hl 1 rfl) ?_
          refine lv_iload_n (pc := 45) hx hb dX4_refusesPair_45 rfl (lv_at hl 2 rfl) ?_
          obtain ⟨v19, h20, hf⟩ := bd hf
          refine roVi (pc := 46) (As := [.int p0]) (rest := []) CF (mtX4_isGoer l D cI cZ cQ oM aM M p0 v19 h20) (cwV 1 hts gX4_refusesPair_X4_isGoer rfl rfl rfl ⟨rfl, hdX4_isGoer⟩ ⟨Nat.le_of_ble_eq_true rfl, Nat.le_of_ble_eq_true rfl⟩) hK hP rfl rfl rfl rfl hl.1 rfl (Nat.le_of_ble_eq_true rfl) dX4_refusesPair_46 ?_
          refine lv_if_ne (pc := 49) (tgt := 56) hx hb dX4_refusesPair_49 (by decide) (fun c21 => ?_) (fun c21 => ?_)
          · have hf := iF c21 hf
            refine lv_iconst (pc := 56) (v := 0) hx hb dX4_refusesPair_56 (by decide) ?_
            obtain rfl := Option.some.inj hf
            exact hRet 57 ls (vp_nar_int _) dX4_refusesPair_57
          · have hf := iT c21 hf
            refine lv_iconst (pc := 52) (v := (-1)) hx hb dX4_refusesPair_52 (by decide) ?_
            refine lv_goto (pc := 53) (tgt := 57) hx hb dX4_refusesPair_53 (by decide) ?_
            obtain rfl := Option.some.inj hf
            exact hRet 57 ls (vp_nar_int _) dX4_refusesPair_57
      · have hf := iT c17 hf
        refine lv_iload_n (pc := 27) hx hb dX4_refusesPair_27 rfl (lv_at hl 2 rfl) ?_
        refine lv_iconst (pc := 28) (v := 0) hx hb dX4_refusesPair_28 (by decide) ?_
        refine lv_bipush (pc := 29) (v := 9) hx hb dX4_refusesPair_29 (by decide) ?_
        obtain ⟨v22, h23, hf⟩ := bd hf
        refine roSi (pc := 31) (As := [.int p0, .int 0, .int 9]) (rest := []) CF (mtX4_within l D cI cZ cQ p0 0 9 v22 h23) (va_cwS 3 hts gX4_refusesPair_X4_within rfl rfl rfl hdX4_within ⟨Nat.le_of_ble_eq_true rfl, Nat.le_of_ble_eq_true rfl⟩) hK P0 rfl hl.1 rfl (Nat.le_of_ble_eq_true rfl) dX4_refusesPair_31 ?_
        refine lv_if_ne (pc := 34) (tgt := 40) hx hb dX4_refusesPair_34 (by decide) (fun c24 => ?_) (fun c24 => ?_)
        · have hf := iF c24 hf
          refine lv_iload_n (pc := 40) hx hb dX4_refusesPair_40 rfl (lv_at hl 0 rfl) ?_
          refine lv_if_eq (pc := 41) (tgt := 56) hx hb dX4_refusesPair_41 (by decide) (fun c25 => ?_) (fun c25 => ?_)
          · have hf := iT c25 hf
            refine lv_iconst (pc := 56) (v := 0) hx hb dX4_refusesPair_56 (by decide) ?_
            obtain rfl := Option.some.inj hf
            exact hRet 57 ls (vp_nar_int _) dX4_refusesPair_57
          · have hf := iF c25 hf
            refine lv_aload_n (pc := 44) hx hb dX4_refusesPair_44 rfl (lv_at hl 1 rfl) ?_
            refine lv_iload_n (pc := 45) hx hb dX4_refusesPair_45 rfl (lv_at hl 2 rfl) ?_
            obtain ⟨v26, h27, hf⟩ := bd hf
            refine roVi (pc := 46) (As := [.int p0]) (rest := []) CF (mtX4_isGoer l D cI cZ cQ oM aM M p0 v26 h27) (cwV 1 hts gX4_refusesPair_X4_isGoer rfl rfl rfl ⟨rfl, hdX4_isGoer⟩ ⟨Nat.le_of_ble_eq_true rfl, Nat.le_of_ble_eq_true rfl⟩) hK hP rfl rfl rfl rfl hl.1 rfl (Nat.le_of_ble_eq_true rfl) dX4_refusesPair_46 ?_
            refine lv_if_ne (pc := 49) (tgt := 56) hx hb dX4_refusesPair_49 (by decide) (fun c28 => ?_) (fun c28 => ?_)
            · have hf := iF c28 hf
              refine lv_iconst (pc := 56) (v := 0) hx hb dX4_refusesPair_56 (by decide) ?_
              obtain rfl := Option.some.inj hf
              exact hRet 57 ls (vp_nar_int _) dX4_refusesPair_57
            · have hf := iT c28 hf
              refine lv_iconst (pc := 52) (v := (-1)) hx hb dX4_refusesPair_52 (by decide) ?_
              refine lv_goto (pc := 53) (tgt := 57) hx hb dX4_refusesPair_53 (by decide) ?_
              obtain rfl := Option.some.inj hf
              exact hRet 57 ls (vp_nar_int _) dX4_refusesPair_57
        · have hf := iT c24 hf
          refine lv_bipush (pc := 37) (v := (-2)) hx hb dX4_refusesPair_37 (by decide) ?_
          obtain rfl := Option.some.inj hf
          exact hRet 39 ls (vp_nar_int _) dX4_refusesPair_39
    · have hf := iF c16 hf
      refine lv_iload_n (pc := 17) hx hb dX4_refusesPair_17 rfl (lv_at hl 3 rfl) ?_
      refine lv_bipush (pc := 18) (v := 20) hx hb dX4_refusesPair_18 (by decide) ?_
      refine lv_icmp_ne (pc := 20) (tgt := 37) hx hb dX4_refusesPair_20 (by decide) (fun c29 => ?_) (fun c29 => ?_)
      · have hf := iF c29 hf
        refine lv_bipush (pc := 37) (v := (-2)) hx hb dX4_refusesPair_37 (by decide) ?_
        obtain rfl := Option.some.inj hf
        exact hRet 39 ls (vp_nar_int _) dX4_refusesPair_39
      · have hf := iT c29 hf
        refine lv_iload_n (pc := 23) hx hb dX4_refusesPair_23 rfl (lv_at hl 0 rfl) ?_
        refine lv_if_ne (pc := 24) (tgt := 40) hx hb dX4_refusesPair_24 (by decide) (fun c30 => ?_) (fun c30 => ?_)
        · have hf := iF c30 hf
          refine lv_iload_n (pc := 40) hx hb dX4_refusesPair_40 rfl (lv_at hl 0 rfl) ?_
          refine lv_if_eq (pc := 41) (tgt := 56) hx hb dX4_refusesPair_41 (by decide) (fun c31 => ?_) (fun c31 => ?_)
          · have hf := iT c31 hf
            refine lv_iconst (pc := 56) (v := 0) hx hb dX4_refusesPair_56 (by decide) ?_
            obtain rfl := Option.some.inj hf
            exact hRet 57 ls (vp_nar_int _) dX4_refusesPair_57
          · have hf := iF c31 hf
            refine lv_aload_n (pc := 44) hx hb dX4_refusesPair_44 rfl (lv_at hl 1 rfl) ?_
            refine lv_iload_n (pc := 45) hx hb dX4_refusesPair_45 rfl (lv_at hl 2 rfl) ?_
            obtain ⟨v32, h33, hf⟩ := bd hf
            refine roVi (pc := 46) (As := [.int p0]) (rest := []) CF (mtX4_isGoer l D cI cZ cQ oM aM M p0 v32 h33) (cwV 1 hts gX4_refusesPair_X4_isGoer rfl rfl rfl ⟨rfl, hdX4_isGoer⟩ ⟨Nat.le_of_ble_eq_true rfl, Nat.le_of_ble_eq_true rfl⟩) hK hP rfl rfl rfl rfl hl.1 rfl (Nat.le_of_ble_eq_true rfl) dX4_refusesPair_46 ?_
            refine lv_if_ne (pc := 49) (tgt := 56) hx hb dX4_refusesPair_49 (by decide) (fun c34 => ?_) (fun c34 => ?_)
            · have hf := iF c34 hf
              refine lv_iconst (pc := 56) (v := 0) hx hb dX4_refusesPair_56 (by decide) ?_
              obtain rfl := Option.some.inj hf
              exact hRet 57 ls (vp_nar_int _) dX4_refusesPair_57
            · have hf := iT c34 hf
              refine lv_iconst (pc := 52) (v := (-1)) hx hb dX4_refusesPair_52 (by decide) ?_
              refine lv_goto (pc := 53) (tgt := 57) hx hb dX4_refusesPair_53 (by decide) ?_
              obtain rfl := Option.some.inj hf
              exact hRet 57 ls (vp_nar_int _) dX4_refusesPair_57
        · have hf := iT c30 hf
          refine lv_iload_n (pc := 27) hx hb dX4_refusesPair_27 rfl (lv_at hl 2 rfl) ?_
          refine lv_iconst (pc := 28) (v := 0) hx hb dX4_refusesPair_28 (by decide) ?_
          refine lv_bipush (pc := 29) (v := 9) hx hb dX4_refusesPair_29 (by decide) ?_
          obtain ⟨v35, h36, hf⟩ := bd hf
          refine roSi (pc := 31) (As := [.int p0, .int 0, .int 9]) (rest := []) CF (mtX4_within l D cI cZ cQ p0 0 9 v35 h36) (va_cwS 3 hts gX4_refusesPair_X4_within rfl rfl rfl hdX4_within ⟨Nat.le_of_ble_eq_true rfl, Nat.le_of_ble_eq_true rfl⟩) hK P0 rfl hl.1 rfl (Nat.le_of_ble_eq_true rfl) dX4_refusesPair_31 ?_
          refine lv_if_ne (pc := 34) (tgt := 40) hx hb dX4_refusesPair_34 (by decide) (fun c37 => ?_) (fun c37 => ?_)
          · have hf := iF c37 hf
            refine lv_iload_n (pc := 40) hx hb dX4_refusesPair_40 rfl (lv_at hl 0 rfl) ?_
            refine lv_if_eq (pc := 41) (tgt := 56) hx hb dX4_refusesPair_41 (by decide) (fun c38 => ?_) (fun c38 => ?_)
            · have hf := iT c38 hf
              refine lv_iconst (pc := 56) (v := 0) hx hb dX4_refusesPair_56 (by decide) ?_
              obtain rfl := Option.some.inj hf
              exact hRet 57 ls (vp_nar_int _) dX4_refusesPair_57
            · have hf := iF c38 hf
              refine lv_aload_n (pc := 44) hx hb dX4_refusesPair_44 rfl (lv_at hl 1 rfl) ?_
              refine lv_iload_n (pc := 45) hx hb dX4_refusesPair_45 rfl (lv_at hl 2 rfl) ?_
              obtain ⟨v39, h40, hf⟩ := bd hf
              refine roVi (pc := 46) (As := [.int p0]) (rest := []) CF (mtX4_isGoer l D cI cZ cQ oM aM M p0 v39 h40) (cwV 1 hts gX4_refusesPair_X4_isGoer rfl rfl rfl ⟨rfl, hdX4_isGoer⟩ ⟨Nat.le_of_ble_eq_true rfl, Nat.le_of_ble_eq_true rfl⟩) hK hP rfl rfl rfl rfl hl.1 rfl (Nat.le_of_ble_eq_true rfl) dX4_refusesPair_46 ?_
              refine lv_if_ne (pc := 49) (tgt := 56) hx hb dX4_refusesPair_49 (by decide) (fun c41 => ?_) (fun c41 => ?_)
              · have hf := iF c41 hf
                refine lv_iconst (pc := 56) (v := 0) hx hb dX4_refusesPair_56 (by decide) ?_
                obtain rfl := Option.some.inj hf
                exact hRet 57 ls (vp_nar_int _) dX4_refusesPair_57
              · have hf := iT c41 hf
                refine lv_iconst (pc := 52) (v := (-1)) hx hb dX4_refusesPair_52 (by decide) ?_
                refine lv_goto (pc := 53) (tgt := 57) hx hb dX4_refusesPair_53 (by decide) ?_
                obtain rfl := Option.some.inj hf
                exact hRet 57 ls (vp_nar_int _) dX4_refusesPair_57
          · have hf := iT c37 hf
            refine lv_bipush (pc := 37) (v := (-2)) hx hb dX4_refusesPair_37 (by decide) ?_
            obtain rfl := Option.some.inj hf
            exact hRet 39 ls (vp_nar_int _) dX4_refusesPair_39
theorem hdX4_refusesPair : yX4_refusesPair.cls ≠ "java/lang/invoke/MethodHandle" ∧ yX4_refusesPair.cls ≠ "java/lang/invoke/VarHandle" ∧ (parseMethodDescriptor yX4_refusesPair.desc).map (fun d => d.parameters.length) = some 2 := by decide +kernel
abbrev rmX4_tellSeason : Room := { frames := 3, cells := 0, slots := 0, locals := 62 }
theorem inX4_tellSeason_X4 : ∀ w ∈ wsX40, w ∈ wsX4_tellSeason := fun _ h => List.mem_cons_of_mem _ (List.mem_append_right _ h)
set_option maxHeartbeats 4000000 in
set_option maxRecDepth 100000 in
theorem mtX4_tellSeason (l : Launch) (D : va_G) (cI cZ cQ : ClassId) (oM : Nat) (aM : Nat → Nat) (M : Bk) (p0 : Int32) (out : Int32) (hf : fX4_tellSeason M p0 = some out) : Met l yX4_tellSeason wsX4_tellSeason rmX4_tellSeason (RoP D cI cZ cQ [.ref oM, .int p0] (wM cI oM aM M)) (vp_Si (fun r' => r' = out)) 0 0 (fun _ => False) := by
  refine metRi (ty := .int) (cc := cX4_tellSeason) (maxL := 4) (by decide) rfl (Nat.le_of_ble_eq_true rfl) ?_
  intro p e s m args below meth c Q CF hK hP hRet ls hl
  obtain ⟨hx, hb, hml, hown, hts⟩ := id CF
  have hl : lv_has ls 4 [(0, .ref oM), (1, .int p0)] := hl
  unfold fX4_tellSeason at hf
  refine lv_iload_n (pc := 0) hx hb dX4_tellSeason_0 rfl (lv_at hl 1 rfl) ?_
  refine lv_bipush (pc := 1) (v := 10) hx hb dX4_tellSeason_1 (by decide) ?_
  refine lv_icmp_lt (pc := 3) (tgt := 32) hx hb dX4_tellSeason_3 (by decide) (fun c1 => ?_) (fun c1 => ?_)
  · have hf := iT c1 hf
    refine lv_iload_n (pc := 32) hx hb dX4_tellSeason_32 rfl (lv_at hl 1 rfl) ?_
    refine lv_iconst (pc := 33) (v := 4) hx hb dX4_tellSeason_33 (by decide) ?_
    refine lv_icmp_ge (pc := 34) (tgt := 65) hx hb dX4_tellSeason_34 (by decide) (fun c2 => ?_) (fun c2 => ?_)
    · have hf := iT c2 hf
      refine lv_iconst (pc := 65) (v := 0) hx hb dX4_tellSeason_65 (by decide) ?_
      refine lv_istore_n (pc := 66) (lv' := [(2, .int 0), (0, .ref oM), (1, .int p0)]) hx hb dX4_tellSeason_66 rfl hl (by decide) rfl (fun ls hl => ?_)
      refine lv_iconst (pc := 67) (v := 0) hx hb dX4_tellSeason_67 (by decide) ?_
      refine lv_istore_n (pc := 68) (lv' := [(3, .int 0), (2, .int 0), (0, .ref oM), (1, .int p0)]) hx hb dX4_tellSeason_68 rfl hl (by decide) rfl (fun ls hl => ?_)
      refine zl2 (G := FX4_tellSeason_69 M) (fun x2_3 x3_4 => ∀ (ls : Array Slot), lv_has ls 4 [(0, .ref oM), (1, .int p0), (2, .int x2_3), (3, .int x3_4)] → W p l e rmX4_tellSeason s m args below meth c s.heap [] 0 0 Q (F0 m 69 ls [])) (fun x2_5 x3_6 => ∀ (ls : Array Slot), lv_has ls 4 [(0, .ref oM), (1, .int p0), (2, .int x2_5), (3, .int x3_6)] → W p l e rmX4_tellSeason s m args below meth c s.heap [] 0 0 Q (F0 m 94 ls [])) hf (fun x2_5 x3_6 hf => ?_) (fun kx slf hkx hslf x2_3 x3_4 hf => ?_) ls (lv_sub hl [2, 3, 1, 0] rfl)
      · intro ls hl
        refine lv_iload_n (pc := 94) hx hb dX4_tellSeason_94 rfl (lv_at hl 2 rfl) ?_
        obtain rfl := Option.some.inj hf
        exact hRet 95 ls (vp_nar_int _) dX4_tellSeason_95
      · unfold FX4_tellSeason_69 at hf
        intro ls hl
        refine lv_iload_n (pc := 69) hx hb dX4_tellSeason_69 rfl (lv_at hl 3 rfl) ?_
        refine lv_aload_n (pc := 70) hx hb dX4_tellSeason_70 rfl (lv_at hl 0 rfl) ?_
        refine va_get (pc := 71) (D := D) (ci := 4) (v := .int (M 6 0)) (C := RX4) (T := TX4) (N := 29) hx hb hts inX4_tellSeason_X4 hown hK.1 hP 0 rfl rfl 6 (by decide) (hts (.fieldLink RX4 75 "HedgeHolesModel" "goers" "I") (by decide +kernel)) (fun _ h9 => h9) rfl dX4_tellSeason_71 ?_
        refine lv_icmp_ge (pc := 74) (tgt := 94) hx hb dX4_tellSeason_74 (by decide) (fun c7 => ?_) (fun c7 => ?_)
        · have hf := iT c7 hf
          exact hkx _ _ hf ls (lv_sub hl [0, 1, 2, 3] rfl)
        · have hf := iF c7 hf
          refine lv_iload_n (pc := 77) hx hb dX4_tellSeason_77 rfl (lv_at hl 2 rfl) ?_
          refine lv_iconst (pc := 78) (v := 1) hx hb dX4_tellSeason_78 (by decide) ?_
          refine lv_aload_n (pc := 79) hx hb dX4_tellSeason_79 rfl (lv_at hl 0 rfl) ?_
          refine va_get (pc := 80) (D := D) (ci := 4) (v := .ref (aM 13)) (C := RX4) (T := TX4) (N := 29) hx hb hts inX4_tellSeason_X4 hown hK.1 hP 0 rfl rfl 13 (by decide) (hts (.fieldLink RX4 28 "HedgeHolesModel" "field" "[I") (by decide +kernel)) (fun _ h9 => h9) rfl dX4_tellSeason_80 ?_
          refine lv_iload_n (pc := 83) hx hb dX4_tellSeason_83 rfl (lv_at hl 3 rfl) ?_
          obtain ⟨h8, hf⟩ := gI_e hf
          refine va_iald (pc := 84) (f := M 13) (n := 5) hx hb hK.1 hP 7 0 rfl rfl h8 dX4_tellSeason_84 ?_
          refine lv_ishl (pc := 85) hx hb dX4_tellSeason_85 ?_
          refine lv_ior (pc := 86) hx hb dX4_tellSeason_86 ?_
          refine lv_istore_n (pc := 87) (lv' := [(2, .int (x2_3 ||| (1 <<< ((M 13 x3_4.toNatClampNeg) &&& 31)))), (0, .ref oM), (1, .int p0), (3, .int x3_4)]) hx hb dX4_tellSeason_87 rfl hl (by decide) rfl (fun ls hl => ?_)
          refine lv_iinc (pc := 88) (v := (x3_4 + 1)) (lv' := [(3, .int (x3_4 + 1)), (2, .int (x2_3 ||| (1 <<< ((M 13 x3_4.toNatClampNeg) &&& 31)))), (0, .ref oM), (1, .int p0)]) hx hb dX4_tellSeason_88 hl (k := 3) rfl rfl (by decide) rfl (fun ls hl => ?_)
          refine lv_goto (pc := 91) (tgt := 69) hx hb dX4_tellSeason_91 (by decide) ?_
          exact hslf _ _ hf ls (lv_sub hl [2, 3, 1, 0] rfl)
    · have hf := iF c2 hf
      refine lv_iload_n (pc := 37) hx hb dX4_tellSeason_37 rfl (lv_at hl 1 rfl) ?_
      refine lv_if_ne (pc := 38) (tgt := 48) hx hb dX4_tellSeason_38 (by decide) (fun c9 => ?_) (fun c9 => ?_)
      · have hf := iF c9 hf
        refine lv_iload_n (pc := 48) hx hb dX4_tellSeason_48 rfl (lv_at hl 1 rfl) ?_
        refine lv_iconst (pc := 49) (v := 2) hx hb dX4_tellSeason_49 (by decide) ?_
        refine lv_icmp_ne (pc := 50) (tgt := 60) hx hb dX4_tellSeason_50 (by decide) (fun c10 => ?_) (fun c10 => ?_)
        · have hf := iF c10 hf
          refine lv_aload_n (pc := 60) hx hb dX4_tellSeason_60 rfl (lv_at hl 0 rfl) ?_
          refine va_get (pc := 61) (D := D) (ci := 4) (v := .int (M 22 0)) (C := RX4) (T := TX4) (N := 29) hx hb hts inX4_tellSeason_X4 hown hK.1 hP 0 rfl rfl 22 (by decide) (hts (.fieldLink RX4 168 "HedgeHolesModel" "goings" "I") (by decide +kernel)) (fun _ h9 => h9) rfl dX4_tellSeason_61 ?_
          obtain rfl := Option.some.inj hf
          exact hRet 64 ls (vp_nar_int _) dX4_tellSeason_64
        · have hf := iT c10 hf
          refine lv_aload_n (pc := 53) hx hb dX4_tellSeason_53 rfl (lv_at hl 0 rfl) ?_
          refine va_get (pc := 54) (D := D) (ci := 4) (v := .int (M 9 0)) (C := RX4) (T := TX4) (N := 29) hx hb hts inX4_tellSeason_X4 hown hK.1 hP 0 rfl rfl 9 (by decide) (hts (.fieldLink RX4 114 "HedgeHolesModel" "worn" "I") (by decide +kernel)) (fun _ h9 => h9) rfl dX4_tellSeason_54 ?_
          refine lv_goto (pc := 57) (tgt := 64) hx hb dX4_tellSeason_57 (by decide) ?_
          obtain rfl := Option.some.inj hf
          exact hRet 64 ls (vp_nar_int _) dX4_tellSeason_64
      · have hf := iT c9 hf
        refine lv_aload_n (pc := 41) hx hb dX4_tellSeason_41 rfl (lv_at hl 0 rfl) ?_
        obtain ⟨v11, h12, hf⟩ := bd hf
        refine roVi (pc := 42) (As := []) (rest := []) CF (mtX4_holesNow l D cI cZ cQ oM aM M v11 h12) (cwV 0 hts gX4_tellSeason_X4_holesNow rfl rfl rfl ⟨rfl, hdX4_holesNow⟩ ⟨Nat.le_of_ble_eq_true rfl, Nat.le_of_ble_eq_true rfl⟩) hK hP rfl rfl rfl rfl hl.1 rfl (Nat.le_of_ble_eq_true rfl) dX4_tellSeason_42 ?_
        refine lv_goto (pc := 45) (tgt := 64) hx hb dX4_tellSeason_45 (by decide) ?_
        obtain rfl := Option.some.inj hf
        exact hRet 64 ls (vp_nar_int _) dX4_tellSeason_64
  · have hf := iF c1 hf
    refine lv_aload_n (pc := 6) hx hb dX4_tellSeason_6 rfl (lv_at hl 0 rfl) ?_
    refine lv_iload_n (pc := 7) hx hb dX4_tellSeason_7 rfl (lv_at hl 1 rfl) ?_
    refine lv_bipush (pc := 8) (v := 10) hx hb dX4_tellSeason_8 (by decide) ?_
    refine lv_isub (pc := 10) hx hb dX4_tellSeason_10 ?_
    obtain ⟨v13, h14, hf⟩ := bd hf
    refine roVi (pc := 11) (As := [.int (p0 - 10)]) (rest := []) CF (mtX4_isGoer l D cI cZ cQ oM aM M (p0 - 10) v13 h14) (cwV 1 hts gX4_tellSeason_X4_isGoer rfl rfl rfl ⟨rfl, hdX4_isGoer⟩ ⟨Nat.le_of_ble_eq_true rfl, Nat.le_of_ble_eq_true rfl⟩) hK hP rfl rfl rfl rfl hl.1 rfl (Nat.le_of_ble_eq_true rfl) dX4_tellSeason_11 ?_
    refine lv_if_eq (pc := 14) (tgt := 29) hx hb dX4_tellSeason_14 (by decide) (fun c15 => ?_) (fun c15 => ?_)
    · have hf := iT c15 hf
      refine lv_bipush (pc := 29) (v := (-9)) hx hb dX4_tellSeason_29 (by decide) ?_
      obtain rfl := Option.some.inj hf
      exact hRet 31 ls (vp_nar_int _) dX4_tellSeason_31
    · have hf := iF c15 hf
      refine lv_aload_n (pc := 17) hx hb dX4_tellSeason_17 rfl (lv_at hl 0 rfl) ?_
      refine va_get (pc := 18) (D := D) (ci := 4) (v := .ref (aM 13)) (C := RX4) (T := TX4) (N := 29) hx hb hts inX4_tellSeason_X4 hown hK.1 hP 0 rfl rfl 13 (by decide) (hts (.fieldLink RX4 28 "HedgeHolesModel" "field" "[I") (by decide +kernel)) (fun _ h9 => h9) rfl dX4_tellSeason_18 ?_
      refine lv_iload_n (pc := 21) hx hb dX4_tellSeason_21 rfl (lv_at hl 1 rfl) ?_
      refine lv_bipush (pc := 22) (v := 10) hx hb dX4_tellSeason_22 (by decide) ?_
      refine lv_isub (pc := 24) hx hb dX4_tellSeason_24 ?_
      obtain ⟨h16, hf⟩ := gI_e hf
      refine va_iald (pc := 25) (f := M 13) (n := 5) hx hb hK.1 hP 7 0 rfl rfl h16 dX4_tellSeason_25 ?_
      refine lv_goto (pc := 26) (tgt := 31) hx hb dX4_tellSeason_26 (by decide) ?_
      obtain rfl := Option.some.inj hf
      exact hRet 31 ls (vp_nar_int _) dX4_tellSeason_31
theorem hdX4_tellSeason : yX4_tellSeason.cls ≠ "java/lang/invoke/MethodHandle" ∧ yX4_tellSeason.cls ≠ "java/lang/invoke/VarHandle" ∧ (parseMethodDescriptor yX4_tellSeason.desc).map (fun d => d.parameters.length) = some 1 := by decide +kernel
abbrev rmX4_season : Room := { frames := 5, cells := 0, slots := 0, locals := 111 }
theorem inX4_season_X4 : ∀ w ∈ wsX40, w ∈ wsX4_season := fun _ h => List.mem_cons_of_mem _ (List.mem_append_right _ h)
set_option maxHeartbeats 4000000 in
set_option maxRecDepth 100000 in
theorem mtX4_season (l : Launch) (D : va_G) (cI cZ cQ : ClassId) (oM : Nat) (aM : Nat → Nat) (M : Bk) (p0 : Int32) (p1 : Int32) (p2 : Int32) (p3 : Int32) (p4 : Int32) (sz : Nat) (out : (Int32 × Bk)) (hf : fX4_season M p0 p1 p2 p3 p4 = some out) : Met l yX4_season wsX4_season rmX4_season (WrP D cI cZ cQ [.ref oM, .int p0, .int p1, .int p2, .int p3, .int p4] (wM cI oM aM M) sz) (WrQi D out.1 (wM cI oM aM M) (wM cI oM aM out.2) sz) 0 0 (va_A (wM cI oM aM M) sz) := by
  refine metWi (ty := .int) (cc := cX4_season) (maxL := 10) (by decide) rfl (Nat.le_of_ble_eq_true rfl) ?_
  intro p e s m args below meth c Q A CF hK hP hD hA hRet ls hl
  obtain ⟨hx, hb, hml, hown, hts⟩ := id CF
  have hS : va_S A s.heap s.heap [] := va_S.rf
  have hl : lv_has ls 10 [(0, .ref oM), (1, .int p0), (2, .int p1), (3, .int p2), (4, .int p3), (5, .int p4)] := hl
  unfold fX4_season at hf
  refine lv_aload_n (pc := 0) hx hb dX4_season_0 rfl (lv_at hl 0 rfl) ?_
  refine lv_iconst (pc := 1) (v := 0) hx hb dX4_season_1 (by decide) ?_
  refine va_put (pc := 2) (D := D) (ci := 4) (v := .int 0) (ty := .int) (C := RX4) (T := TX4) (N := 29) hx hb hts inX4_season_X4 tyX4 tyX4_ok nmX4 hown hK.1 hP hD hS 0 rfl rfl 0 (by decide) (hts (.fieldLink RX4 58 "HedgeHolesModel" "fault" "I") (by decide +kernel)) (fun _ h9 => h9) rfl (by decide +kernel) (vp_nar_int _) rfl (Nat.le_of_ble_eq_true rfl) dX4_season_2 (fun H locs hP hD hS => ?_)
  have hP : va_P D vwCl (wM cI oM aM (sB M 0 0 0)) H := hP
  have hD : va_D A (wM cI oM aM (sB M 0 0 0)) := hD
  obtain ⟨M_1, h2, hf⟩ := bd hf
  have h2 := Option.some.inj h2
  rw [h2] at hP hD
  refine lv_iload_n (pc := 5) hx hb dX4_season_5 rfl (lv_at hl 1 rfl) ?_
  obtain ⟨v3, h4, hf⟩ := bd hf
  refine roSi (pc := 6) (As := [.int p0]) (rest := []) CF (mtX4_isSheet l D cI cZ cQ p0 v3 h4) (va_cwS 1 hts gX4_season_X4_isSheet rfl rfl rfl hdX4_isSheet ⟨Nat.le_of_ble_eq_true rfl, Nat.le_of_ble_eq_true rfl⟩) hK P0 rfl hl.1 rfl (Nat.le_of_ble_eq_true rfl) dX4_season_6 ?_
  refine lv_if_ne (pc := 9) (tgt := 14) hx hb dX4_season_9 (by decide) (fun c5 => ?_) (fun c5 => ?_)
  · have hf := iF c5 hf
    refine lv_iload_n (pc := 14) hx hb dX4_season_14 rfl (lv_at hl 2 rfl) ?_
    obtain ⟨v6, h7, hf⟩ := bd hf
    refine roSi (pc := 15) (As := [.int p1]) (rest := []) CF (mtX4_isSort l D cI cZ cQ p1 v6 h7) (va_cwS 1 hts gX4_season_X4_isSort rfl rfl rfl hdX4_isSort ⟨Nat.le_of_ble_eq_true rfl, Nat.le_of_ble_eq_true rfl⟩) hK P0 rfl hl.1 rfl (Nat.le_of_ble_eq_true rfl) dX4_season_15 ?_
    refine lv_if_eq (pc := 18) (tgt := 54) hx hb dX4_season_18 (by decide) (fun c8 => ?_) (fun c8 => ?_)
    · have hf := iT c8 hf
      refine lv_bipush (pc := 54) (v := (-2)) hx hb dX4_season_54 (by decide) ?_
      obtain rfl := Option.some.inj hf
      exact hRet 56 ls H locs (vp_nar_int _) dX4_season_56 hP hS
    · have hf := iF c8 hf
      refine lv_iload (pc := 21) hx hb dX4_season_21 (lv_at hl 4 rfl) ?_
      refine lv_iconst (pc := 23) (v := 0) hx hb dX4_season_23 (by decide) ?_
      refine lv_bipush (pc := 24) (v := 20) hx hb dX4_season_24 (by decide) ?_
      obtain ⟨v9, h10, hf⟩ := bd hf
      refine roSi (pc := 26) (As := [.int p3, .int 0, .int 20]) (rest := []) CF (mtX4_within l D cI cZ cQ p3 0 20 v9 h10) (va_cwS 3 hts gX4_season_X4_within rfl rfl rfl hdX4_within ⟨Nat.le_of_ble_eq_true rfl, Nat.le_of_ble_eq_true rfl⟩) hK P0 rfl hl.1 rfl (Nat.le_of_ble_eq_true rfl) dX4_season_26 ?_
      refine lv_if_eq (pc := 29) (tgt := 54) hx hb dX4_season_29 (by decide) (fun c11 => ?_) (fun c11 => ?_)
      · have hf := iT c11 hf
        refine lv_bipush (pc := 54) (v := (-2)) hx hb dX4_season_54 (by decide) ?_
        obtain rfl := Option.some.inj hf
        exact hRet 56 ls H locs (vp_nar_int _) dX4_season_56 hP hS
      · have hf := iF c11 hf
        refine wK_e (∀ (ls : Array Slot) (H : Heap) (locs : List Loc), lv_has ls 10 [(0, .ref oM), (1, .int p0), (2, .int p1), (3, .int p2), (4, .int p3), (5, .int p4)] → va_P D vwCl (wM cI oM aM M_1) H → va_D A (wM cI oM aM M_1) → va_S A s.heap H locs → W p l e rmX4_season s m args below meth c H locs 0 0 Q (F0 m 57 ls [])) hf (fun hf => ?_) (fun kj12 hkj12 hf => ?_)
        · intro ls H locs hl hP hD hS
          refine lv_aload_n (pc := 57) hx hb dX4_season_57 rfl (lv_at hl 0 rfl) ?_
          refine lv_iload_n (pc := 58) hx hb dX4_season_58 rfl (lv_at hl 1 rfl) ?_
          refine lv_iload_n (pc := 59) hx hb dX4_season_59 rfl (lv_at hl 2 rfl) ?_
          refine lv_iload_n (pc := 60) hx hb dX4_season_60 rfl (lv_at hl 3 rfl) ?_
          refine lv_iconst (pc := 61) (v := 2) hx hb dX4_season_61 (by decide) ?_
          refine lv_iload (pc := 62) hx hb dX4_season_62 (lv_at hl 4 rfl) ?_
          refine lv_imul (pc := 64) hx hb dX4_season_64 ?_
          obtain ⟨v13, h14, hf⟩ := bd hf
          refine roVi (pc := 65) (As := [.int p0, .int p1, .int p2, .int (2 * p3)]) (rest := []) CF (mtX4_against l D cI cZ cQ oM aM M_1 p0 p1 p2 (2 * p3) v13 h14) (cwV 4 hts gX4_season_X4_against rfl rfl rfl ⟨rfl, hdX4_against⟩ ⟨Nat.le_of_ble_eq_true rfl, Nat.le_of_ble_eq_true rfl⟩) hK hP rfl rfl rfl rfl hl.1 rfl (Nat.le_of_ble_eq_true rfl) dX4_season_65 ?_
          refine lv_istore (pc := 68) (lv' := [(6, .int v13), (0, .ref oM), (1, .int p0), (2, .int p1), (3, .int p2), (4, .int p3), (5, .int p4)]) hx hb dX4_season_68 hl (by decide) rfl (fun ls hl => ?_)
          refine lv_iload (pc := 70) hx hb dX4_season_70 (lv_at hl 0 rfl) ?_
          refine lv_if_eq (pc := 72) (tgt := 82) hx hb dX4_season_72 (by decide) (fun c15 => ?_) (fun c15 => ?_)
          · have hf := iT c15 hf
            refine lv_aload_n (pc := 82) hx hb dX4_season_82 rfl (lv_at hl 1 rfl) ?_
            refine va_get (pc := 83) (D := D) (ci := 4) (v := .int (M_1 5 0)) (C := RX4) (T := TX4) (N := 29) hx hb hts inX4_season_X4 hown hK.1 hP 0 rfl rfl 5 (by decide) (hts (.fieldLink RX4 68 "HedgeHolesModel" "fields" "I") (by decide +kernel)) (fun _ h9 => h9) rfl dX4_season_83 ?_
            refine lv_if_ne (pc := 86) (tgt := 92) hx hb dX4_season_86 (by decide) (fun c16 => ?_) (fun c16 => ?_)
            · have hf := iF c16 hf
              refine lv_bipush (pc := 92) (v := 60) hx hb dX4_season_92 (by decide) ?_
              refine lv_iload_n (pc := 94) hx hb dX4_season_94 rfl (lv_at hl 2 rfl) ?_
              refine lv_imul (pc := 95) hx hb dX4_season_95 ?_
              refine lv_iload_n (pc := 96) hx hb dX4_season_96 rfl (lv_at hl 4 rfl) ?_
              refine lv_iadd (pc := 97) hx hb dX4_season_97 ?_
              refine lv_istore (pc := 98) (lv' := [(7, .int ((60 * p0) + p2)), (6, .int v13), (0, .ref oM), (1, .int p0), (2, .int p1), (3, .int p2), (4, .int p3), (5, .int p4)]) hx hb dX4_season_98 hl (by decide) rfl (fun ls hl => ?_)
              refine lv_iconst (pc := 100) (v := 0) hx hb dX4_season_100 (by decide) ?_
              refine lv_istore (pc := 101) (lv' := [(8, .int 0), (7, .int ((60 * p0) + p2)), (6, .int v13), (0, .ref oM), (1, .int p0), (2, .int p1), (3, .int p2), (4, .int p3), (5, .int p4)]) hx hb dX4_season_101 hl (by decide) rfl (fun ls hl => ?_)
              refine zl1 (G := FX4_season_103 p0 p2 p3 M_1) (fun x8_17 => ∀ (ls : Array Slot), lv_has ls 10 [(0, .ref oM), (1, .int p0), (2, .int p1), (3, .int p2), (4, .int p3), (5, .int p4), (6, .int v13), (7, .int ((60 * p0) + p2)), (8, .int x8_17)] → W p l e rmX4_season s m args below meth c H locs 0 0 Q (F0 m 103 ls [])) (fun x8_18 => ∀ (ls : Array Slot), lv_has ls 10 [(0, .ref oM), (1, .int p0), (2, .int p1), (3, .int p2), (4, .int p3), (5, .int p4), (6, .int v13), (7, .int ((60 * p0) + p2)), (8, .int x8_18)] → W p l e rmX4_season s m args below meth c H locs 0 0 Q (F0 m 156 ls [])) hf (fun x8_18 hf => ?_) (fun kx slf hkx hslf x8_17 hf => ?_) ls (lv_sub hl [3, 4, 5, 6, 7, 8, 2, 1, 0] rfl)
              · intro ls hl
                refine lv_aload_n (pc := 156) hx hb dX4_season_156 rfl (lv_at hl 0 rfl) ?_
                obtain ⟨v25, h26, hf⟩ := bd hf
                refine wsVv (pc := 157) (As := []) (rest := []) (w1 := wM cI oM aM v25) CF (mtX4_keepAll l D cI cZ cQ oM aM M_1 H.size v25 h26) (cwV 0 hts gX4_season_X4_keepAll rfl rfl rfl ⟨rfl, hdX4_keepAll⟩ ⟨Nat.le_of_ble_eq_true rfl, Nat.le_of_ble_eq_true rfl⟩) hK hP hD hS hA rfl rfl rfl rfl rfl hl.1 rfl (Nat.le_of_ble_eq_true rfl) dX4_season_157 (fun H locs hP hD hS => ?_)
                refine lv_aload_n (pc := 160) hx hb dX4_season_160 rfl (lv_at hl 0 rfl) ?_
                refine lv_iload (pc := 161) hx hb dX4_season_161 (lv_at hl 7 rfl) ?_
                refine lv_iload (pc := 163) hx hb dX4_season_163 (lv_at hl 4 rfl) ?_
                obtain ⟨v27, h28, hf⟩ := bd hf
                refine wsVi (pc := 165) (As := [.int ((60 * p0) + p2), .int p3]) (rest := []) (w1 := wM cI oM aM v27.2) CF (mtX4_goSeason l D cI cZ cQ oM aM v25 ((60 * p0) + p2) p3 H.size v27 h28) (cwV 2 hts gX4_season_X4_goSeason rfl rfl rfl ⟨rfl, hdX4_goSeason⟩ ⟨Nat.le_of_ble_eq_true rfl, Nat.le_of_ble_eq_true rfl⟩) hK hP hD hS hA rfl rfl rfl rfl rfl hl.1 rfl (Nat.le_of_ble_eq_true rfl) dX4_season_165 (fun H locs hP hD hS => ?_)
                refine lv_istore (pc := 168) (lv' := [(8, .int v27.1), (0, .ref oM), (1, .int p0), (2, .int p1), (3, .int p2), (4, .int p3), (5, .int p4), (6, .int v13), (7, .int ((60 * p0) + p2))]) hx hb dX4_season_168 hl (by decide) rfl (fun ls hl => ?_)
                refine lv_aload_n (pc := 170) hx hb dX4_season_170 rfl (lv_at hl 1 rfl) ?_
                refine lv_iload (pc := 171) hx hb dX4_season_171 (lv_at hl 6 rfl) ?_
                obtain ⟨v29, h30, hf⟩ := bd hf
                refine roVi (pc := 173) (As := [.int p4]) (rest := []) CF (mtX4_tellSeason l D cI cZ cQ oM aM v27.2 p4 v29 h30) (cwV 1 hts gX4_season_X4_tellSeason rfl rfl rfl ⟨rfl, hdX4_tellSeason⟩ ⟨Nat.le_of_ble_eq_true rfl, Nat.le_of_ble_eq_true rfl⟩) hK hP rfl rfl rfl rfl hl.1 rfl (Nat.le_of_ble_eq_true rfl) dX4_season_173 ?_
                refine lv_istore (pc := 176) (lv' := [(9, .int v29), (8, .int v27.1), (0, .ref oM), (1, .int p0), (2, .int p1), (3, .int p2), (4, .int p3), (5, .int p4), (6, .int v13), (7, .int ((60 * p0) + p2))]) hx hb dX4_season_176 hl (by decide) rfl (fun ls hl => ?_)
                refine lv_aload_n (pc := 178) hx hb dX4_season_178 rfl (lv_at hl 2 rfl) ?_
                obtain ⟨v31, h32, hf⟩ := bd hf
                refine wsVv (pc := 179) (As := []) (rest := []) (w1 := wM cI oM aM v31) CF (mtX4_putBack l D cI cZ cQ oM aM v27.2 H.size v31 h32) (cwV 0 hts gX4_season_X4_putBack rfl rfl rfl ⟨rfl, hdX4_putBack⟩ ⟨Nat.le_of_ble_eq_true rfl, Nat.le_of_ble_eq_true rfl⟩) hK hP hD hS hA rfl rfl rfl rfl rfl hl.1 rfl (Nat.le_of_ble_eq_true rfl) dX4_season_179 (fun H locs hP hD hS => ?_)
                refine lv_iload (pc := 182) hx hb dX4_season_182 (lv_at hl 7 rfl) ?_
                refine lv_iconst (pc := 184) (v := 1) hx hb dX4_season_184 (by decide) ?_
                refine lv_icmp_ne (pc := 185) (tgt := 193) hx hb dX4_season_185 (by decide) (fun c33 => ?_) (fun c33 => ?_)
                · have hf := iF c33 hf
                  refine lv_iload (pc := 193) hx hb dX4_season_193 (lv_at hl 1 rfl) ?_
                  refine lv_bipush (pc := 195) (v := (-9)) hx hb dX4_season_195 (by decide) ?_
                  refine lv_icmp_ne (pc := 197) (tgt := 205) hx hb dX4_season_197 (by decide) (fun c34 => ?_) (fun c34 => ?_)
                  · have hf := iF c34 hf
                    refine lv_bipush (pc := 205) (v := (-100)) hx hb dX4_season_205 (by decide) ?_
                    refine lv_iload (pc := 207) hx hb dX4_season_207 (lv_at hl 1 rfl) ?_
                    refine lv_isub (pc := 209) hx hb dX4_season_209 ?_
                    obtain rfl := Option.some.inj hf
                    exact hRet 210 ls H locs (vp_nar_int _) dX4_season_210 hP hS
                  · have hf := iT c34 hf
                    refine lv_iload (pc := 200) hx hb dX4_season_200 (lv_at hl 0 rfl) ?_
                    refine lv_goto (pc := 202) (tgt := 210) hx hb dX4_season_202 (by decide) ?_
                    obtain rfl := Option.some.inj hf
                    exact hRet 210 ls H locs (vp_nar_int _) dX4_season_210 hP hS
                · have hf := iT c33 hf
                  refine lv_iload (pc := 188) hx hb dX4_season_188 (lv_at hl 1 rfl) ?_
                  refine lv_goto (pc := 190) (tgt := 210) hx hb dX4_season_190 (by decide) ?_
                  obtain rfl := Option.some.inj hf
                  exact hRet 210 ls H locs (vp_nar_int _) dX4_season_210 hP hS
              · unfold FX4_season_103 at hf
                intro ls hl
                refine lv_iload (pc := 103) hx hb dX4_season_103 (lv_at hl 8 rfl) ?_
                refine lv_iload (pc := 105) hx hb dX4_season_105 (lv_at hl 4 rfl) ?_
                refine lv_icmp_ge (pc := 107) (tgt := 156) hx hb dX4_season_107 (by decide) (fun c19 => ?_) (fun c19 => ?_)
                · have hf := iT c19 hf
                  exact hkx _ hf ls (lv_sub hl [0, 1, 2, 3, 4, 5, 6, 7, 8] rfl)
                · have hf := iF c19 hf
                  refine lv_aload_n (pc := 110) hx hb dX4_season_110 rfl (lv_at hl 0 rfl) ?_
                  refine lv_aload_n (pc := 111) hx hb dX4_season_111 rfl (lv_at hl 0 rfl) ?_
                  refine va_get (pc := 112) (D := D) (ci := 4) (v := .ref (aM 4)) (C := RX4) (T := TX4) (N := 29) hx hb hts inX4_season_X4 hown hK.1 hP 0 rfl rfl 4 (by decide) (hts (.fieldLink RX4 16 "HedgeHolesModel" "cells" "[I") (by decide +kernel)) (fun _ h9 => h9) rfl dX4_season_112 ?_
                  refine lv_iload (pc := 115) hx hb dX4_season_115 (lv_at hl 7 rfl) ?_
                  refine lv_iconst (pc := 117) (v := 2) hx hb dX4_season_117 (by decide) ?_
                  refine lv_iload (pc := 118) hx hb dX4_season_118 (lv_at hl 8 rfl) ?_
                  refine lv_imul (pc := 120) hx hb dX4_season_120 ?_
                  refine lv_iadd (pc := 121) hx hb dX4_season_121 ?_
                  obtain ⟨h20, hf⟩ := gI_e hf
                  refine va_iald (pc := 122) (f := M_1 4) (n := 240) hx hb hK.1 hP 3 0 rfl rfl h20 dX4_season_122 ?_
                  refine lv_aload_n (pc := 123) hx hb dX4_season_123 rfl (lv_at hl 0 rfl) ?_
                  refine va_get (pc := 124) (D := D) (ci := 4) (v := .ref (aM 4)) (C := RX4) (T := TX4) (N := 29) hx hb hts inX4_season_X4 hown hK.1 hP 0 rfl rfl 4 (by decide) (hts (.fieldLink RX4 16 "HedgeHolesModel" "cells" "[I") (by decide +kernel)) (fun _ h9 => h9) rfl dX4_season_124 ?_
                  refine lv_iload (pc := 127) hx hb dX4_season_127 (lv_at hl 7 rfl) ?_
                  refine lv_iconst (pc := 129) (v := 2) hx hb dX4_season_129 (by decide) ?_
                  refine lv_iload (pc := 130) hx hb dX4_season_130 (lv_at hl 8 rfl) ?_
                  refine lv_imul (pc := 132) hx hb dX4_season_132 ?_
                  refine lv_iadd (pc := 133) hx hb dX4_season_133 ?_
                  refine lv_iconst (pc := 134) (v := 1) hx hb dX4_season_134 (by decide) ?_
                  refine lv_iadd (pc := 135) hx hb dX4_season_135 ?_
                  obtain ⟨h21, hf⟩ := gI_e hf
                  refine va_iald (pc := 136) (f := M_1 4) (n := 240) hx hb hK.1 hP 3 0 rfl rfl h21 dX4_season_136 ?_
                  obtain ⟨v22, h23, hf⟩ := bd hf
                  refine roVi (pc := 137) (As := [.int (M_1 4 ((((60 * p0) + p2) + (2 * x8_17))).toNatClampNeg), .int (M_1 4 (((((60 * p0) + p2) + (2 * x8_17)) + 1)).toNatClampNeg)]) (rest := []) CF (mtX4_refusesPair l D cI cZ cQ oM aM M_1 (M_1 4 ((((60 * p0) + p2) + (2 * x8_17))).toNatClampNeg) (M_1 4 (((((60 * p0) + p2) + (2 * x8_17)) + 1)).toNatClampNeg) v22 h23) (cwV 2 hts gX4_season_X4_refusesPair rfl rfl rfl ⟨rfl, hdX4_refusesPair⟩ ⟨Nat.le_of_ble_eq_true rfl, Nat.le_of_ble_eq_true rfl⟩) hK hP rfl rfl rfl rfl hl.1 rfl (Nat.le_of_ble_eq_true rfl) dX4_season_137 ?_
                  refine lv_istore (pc := 140) (lv' := [(9, .int v22), (0, .ref oM), (1, .int p0), (2, .int p1), (3, .int p2), (4, .int p3), (5, .int p4), (6, .int v13), (7, .int ((60 * p0) + p2)), (8, .int x8_17)]) hx hb dX4_season_140 hl (by decide) rfl (fun ls hl => ?_)
                  refine lv_iload (pc := 142) hx hb dX4_season_142 (lv_at hl 0 rfl) ?_
                  refine lv_if_eq (pc := 144) (tgt := 150) hx hb dX4_season_144 (by decide) (fun c24 => ?_) (fun c24 => ?_)
                  · have hf := iT c24 hf
                    refine lv_iinc (pc := 150) (v := (x8_17 + 1)) (lv' := [(8, .int (x8_17 + 1)), (9, .int v22), (0, .ref oM), (1, .int p0), (2, .int p1), (3, .int p2), (4, .int p3), (5, .int p4), (6, .int v13), (7, .int ((60 * p0) + p2))]) hx hb dX4_season_150 hl (k := 9) rfl rfl (by decide) rfl (fun ls hl => ?_)
                    refine lv_goto (pc := 153) (tgt := 103) hx hb dX4_season_153 (by decide) ?_
                    exact hslf _ hf ls (lv_sub hl [2, 3, 4, 5, 6, 7, 8, 9, 0] rfl)
                  · have hf := iF c24 hf
                    refine lv_iload (pc := 147) hx hb dX4_season_147 (lv_at hl 0 rfl) ?_
                    obtain rfl := Option.some.inj hf
                    exact hRet 149 ls H locs (vp_nar_int _) dX4_season_149 hP hS
            · have hf := iT c16 hf
              refine lv_bipush (pc := 89) (v := (-3)) hx hb dX4_season_89 (by decide) ?_
              obtain rfl := Option.some.inj hf
              exact hRet 91 ls H locs (vp_nar_int _) dX4_season_91 hP hS
          · have hf := iF c15 hf
            refine lv_aload_n (pc := 75) hx hb dX4_season_75 rfl (lv_at hl 1 rfl) ?_
            refine lv_iload (pc := 76) hx hb dX4_season_76 (lv_at hl 0 rfl) ?_
            obtain ⟨v35, h36, hf⟩ := bd hf
            refine wsVi (pc := 78) (As := [.int v13]) (rest := []) (w1 := wM cI oM aM v35.2) CF (mtX4_fails l D cI cZ cQ oM aM M_1 v13 H.size v35 h36) (cwV 1 hts gX4_season_X4_fails rfl rfl rfl ⟨rfl, hdX4_fails⟩ ⟨Nat.le_of_ble_eq_true rfl, Nat.le_of_ble_eq_true rfl⟩) hK hP hD hS hA rfl rfl rfl rfl rfl hl.1 rfl (Nat.le_of_ble_eq_true rfl) dX4_season_78 (fun H locs hP hD hS => ?_)
            obtain rfl := Option.some.inj hf
            exact hRet 81 ls H locs (vp_nar_int _) dX4_season_81 hP hS
        · refine lv_iload (pc := 32) hx hb dX4_season_32 (lv_at hl 5 rfl) ?_
          refine lv_iconst (pc := 34) (v := 0) hx hb dX4_season_34 (by decide) ?_
          refine lv_iconst (pc := 35) (v := 4) hx hb dX4_season_35 (by decide) ?_
          obtain ⟨v37, h38, hf⟩ := bd hf
          refine roSi (pc := 36) (As := [.int p4, .int 0, .int 4]) (rest := []) CF (mtX4_within l D cI cZ cQ p4 0 4 v37 h38) (va_cwS 3 hts gX4_season_X4_within rfl rfl rfl hdX4_within ⟨Nat.le_of_ble_eq_true rfl, Nat.le_of_ble_eq_true rfl⟩) hK P0 rfl hl.1 rfl (Nat.le_of_ble_eq_true rfl) dX4_season_36 ?_
          refine lv_if_ne (pc := 39) (tgt := 57) hx hb dX4_season_39 (by decide) (fun c39 => ?_) (fun c39 => ?_)
          · have hf := iF c39 hf
            exact hkj12 hf ls H locs (lv_sub hl [0, 1, 2, 3, 4, 5] rfl) hP hD hS
          · have hf := iT c39 hf
            refine lv_iload (pc := 42) hx hb dX4_season_42 (lv_at hl 5 rfl) ?_
            refine lv_bipush (pc := 44) (v := 10) hx hb dX4_season_44 (by decide) ?_
            refine lv_bipush (pc := 46) (v := 14) hx hb dX4_season_46 (by decide) ?_
            obtain ⟨v40, h41, hf⟩ := bd hf
            refine roSi (pc := 48) (As := [.int p4, .int 10, .int 14]) (rest := []) CF (mtX4_within l D cI cZ cQ p4 10 14 v40 h41) (va_cwS 3 hts gX4_season_X4_within rfl rfl rfl hdX4_within ⟨Nat.le_of_ble_eq_true rfl, Nat.le_of_ble_eq_true rfl⟩) hK P0 rfl hl.1 rfl (Nat.le_of_ble_eq_true rfl) dX4_season_48 ?_
            refine lv_if_ne (pc := 51) (tgt := 57) hx hb dX4_season_51 (by decide) (fun c42 => ?_) (fun c42 => ?_)
            · have hf := iF c42 hf
              exact hkj12 hf ls H locs (lv_sub hl [0, 1, 2, 3, 4, 5] rfl) hP hD hS
            · have hf := iT c42 hf
              refine lv_bipush (pc := 54) (v := (-2)) hx hb dX4_season_54 (by decide) ?_
              obtain rfl := Option.some.inj hf
              exact hRet 56 ls H locs (vp_nar_int _) dX4_season_56 hP hS
  · have hf := iT c5 hf
    refine lv_iconst (pc := 12) (v := (-1)) hx hb dX4_season_12 (by decide) ?_
    obtain rfl := Option.some.inj hf
    exact hRet 13 ls H locs (vp_nar_int _) dX4_season_13 hP hS
theorem hdX4_season : yX4_season.cls ≠ "java/lang/invoke/MethodHandle" ∧ yX4_season.cls ≠ "java/lang/invoke/VarHandle" ∧ (parseMethodDescriptor yX4_season.desc).map (fun d => d.parameters.length) = some 5 := by decide +kernel
abbrev rmX4_reached : Room := { frames := 1, cells := 0, slots := 0, locals := 26 }
theorem inX4_reached_X4 : ∀ w ∈ wsX40, w ∈ wsX4_reached := fun _ h => List.mem_cons_of_mem _ (List.mem_append_right _ h)
set_option maxHeartbeats 4000000 in
set_option maxRecDepth 100000 in
theorem mtX4_reached (l : Launch) (D : va_G) (cI cZ cQ : ClassId) (oM : Nat) (aM : Nat → Nat) (M : Bk) (p0 : Int32) (p1 : Int32) (p2 : Int32) (out : Int32) (hf : fX4_reached M p0 p1 p2 = some out) : Met l yX4_reached wsX4_reached rmX4_reached (RoP D cI cZ cQ [.ref oM, .int p0, .int p1, .int p2] (wM cI oM aM M)) (vp_Si (fun r' => r' = out)) 0 0 (fun _ => False) := by
  refine metRi (ty := .int) (cc := cX4_reached) (maxL := 9) (by decide) rfl (Nat.le_of_ble_eq_true rfl) ?_
  intro p e s m args below meth c Q CF hK hP hRet ls hl
  obtain ⟨hx, hb, hml, hown, hts⟩ := id CF
  have hl : lv_has ls 9 [(0, .ref oM), (1, .int p0), (2, .int p1), (3, .int p2)] := hl
  unfold fX4_reached at hf
  refine lv_iconst (pc := 0) (v := 1) hx hb dX4_reached_0 (by decide) ?_
  refine lv_iload_n (pc := 1) hx hb dX4_reached_1 rfl (lv_at hl 1 rfl) ?_
  refine lv_ishl (pc := 2) hx hb dX4_reached_2 ?_
  refine lv_istore (pc := 3) (lv' := [(4, .int (1 <<< (p0 &&& 31))), (0, .ref oM), (1, .int p0), (2, .int p1), (3, .int p2)]) hx hb dX4_reached_3 hl (by decide) rfl (fun ls hl => ?_)
  refine lv_iconst (pc := 5) (v := 0) hx hb dX4_reached_5 (by decide) ?_
  refine lv_istore (pc := 6) (lv' := [(5, .int 0), (4, .int (1 <<< (p0 &&& 31))), (0, .ref oM), (1, .int p0), (2, .int p1), (3, .int p2)]) hx hb dX4_reached_6 hl (by decide) rfl (fun ls hl => ?_)
  refine zl2 (G := FX4_reached_8 p1 p2 M) (fun x4_1 x5_2 => ∀ (ls : Array Slot), lv_has ls 9 [(0, .ref oM), (1, .int p0), (2, .int p1), (3, .int p2), (4, .int x4_1), (5, .int x5_2)] → W p l e rmX4_reached s m args below meth c s.heap [] 0 0 Q (F0 m 8 ls [])) (fun x4_3 x5_4 => ∀ (ls : Array Slot), lv_has ls 9 [(0, .ref oM), (1, .int p0), (2, .int p1), (3, .int p2), (4, .int x4_3), (5, .int x5_4)] → W p l e rmX4_reached s m args below meth c s.heap [] 0 0 Q (F0 m 132 ls [])) hf (fun x4_3 x5_4 hf => ?_) (fun kx slf hkx hslf x4_1 x5_2 hf => ?_) ls (lv_sub hl [2, 3, 4, 5, 1, 0] rfl)
  · intro ls hl
    refine lv_iload (pc := 132) hx hb dX4_reached_132 (lv_at hl 4 rfl) ?_
    obtain rfl := Option.some.inj hf
    exact hRet 134 ls (vp_nar_int _) dX4_reached_134
  · unfold FX4_reached_8 at hf
    intro ls hl
    refine lv_iload (pc := 8) hx hb dX4_reached_8 (lv_at hl 4 rfl) ?_
    refine lv_iload (pc := 10) hx hb dX4_reached_10 (lv_at hl 5 rfl) ?_
    refine lv_icmp_eq (pc := 12) (tgt := 132) hx hb dX4_reached_12 (by decide) (fun c5 => ?_) (fun c5 => ?_)
    · have hf := iT c5 hf
      exact hkx _ _ hf ls (lv_sub hl [0, 1, 2, 3, 4, 5] rfl)
    · have hf := iF c5 hf
      refine lv_iload (pc := 15) hx hb dX4_reached_15 (lv_at hl 4 rfl) ?_
      refine lv_istore (pc := 17) (lv' := [(5, .int x4_1), (0, .ref oM), (1, .int p0), (2, .int p1), (3, .int p2), (4, .int x4_1)]) hx hb dX4_reached_17 hl (by decide) rfl (fun ls hl => ?_)
      refine lv_iconst (pc := 19) (v := 0) hx hb dX4_reached_19 (by decide) ?_
      refine lv_istore (pc := 20) (lv' := [(6, .int 0), (5, .int x4_1), (0, .ref oM), (1, .int p0), (2, .int p1), (3, .int p2), (4, .int x4_1)]) hx hb dX4_reached_20 hl (by decide) rfl (fun ls hl => ?_)
      refine zl2 (G := FX4_reached_22 p1 p2 M) (fun x4_6 x6_7 => ∀ (ls : Array Slot), lv_has ls 9 [(0, .ref oM), (1, .int p0), (2, .int p1), (3, .int p2), (4, .int x4_6), (5, .int x4_1), (6, .int x6_7)] → W p l e rmX4_reached s m args below meth c s.heap [] 0 0 Q (F0 m 22 ls [])) (fun x4_8 x6_9 => ∀ (ls : Array Slot), lv_has ls 9 [(0, .ref oM), (1, .int p0), (2, .int p1), (3, .int p2), (4, .int x4_8), (5, .int x4_1), (6, .int x6_9)] → W p l e rmX4_reached s m args below meth c s.heap [] 0 0 Q (F0 m 129 ls [])) hf (fun x4_8 x6_9 hf => ?_) (fun kx slf hkx hslf x4_6 x6_7 hf => ?_) ls (lv_sub hl [2, 3, 4, 5, 6, 1, 0] rfl)
      · intro ls hl
        refine lv_goto (pc := 129) (tgt := 8) hx hb dX4_reached_129 (by decide) ?_
        exact hslf _ _ hf ls (lv_sub hl [0, 1, 2, 3, 4, 5] rfl)
      · unfold FX4_reached_22 at hf
        intro ls hl
        refine lv_iload (pc := 22) hx hb dX4_reached_22 (lv_at hl 6 rfl) ?_
        refine lv_aload_n (pc := 24) hx hb dX4_reached_24 rfl (lv_at hl 0 rfl) ?_
        refine va_get (pc := 25) (D := D) (ci := 4) (v := .int (M 5 0)) (C := RX4) (T := TX4) (N := 29) hx hb hts inX4_reached_X4 hown hK.1 hP 0 rfl rfl 5 (by decide) (hts (.fieldLink RX4 68 "HedgeHolesModel" "fields" "I") (by decide +kernel)) (fun _ h9 => h9) rfl dX4_reached_25 ?_
        refine lv_icmp_ge (pc := 28) (tgt := 129) hx hb dX4_reached_28 (by decide) (fun c10 => ?_) (fun c10 => ?_)
        · have hf := iT c10 hf
          exact hkx _ _ hf ls (lv_sub hl [0, 1, 2, 3, 4, 5, 6] rfl)
        · have hf := iF c10 hf
          refine lv_iconst (pc := 31) (v := 0) hx hb dX4_reached_31 (by decide) ?_
          refine lv_istore (pc := 32) (lv' := [(7, .int 0), (0, .ref oM), (1, .int p0), (2, .int p1), (3, .int p2), (4, .int x4_6), (5, .int x4_1), (6, .int x6_7)]) hx hb dX4_reached_32 hl (by decide) rfl (fun ls hl => ?_)
          refine zl2 (G := FX4_reached_34 p1 p2 M x6_7) (fun x4_11 x7_12 => ∀ (ls : Array Slot), lv_has ls 9 [(0, .ref oM), (1, .int p0), (2, .int p1), (3, .int p2), (4, .int x4_11), (5, .int x4_1), (6, .int x6_7), (7, .int x7_12)] → W p l e rmX4_reached s m args below meth c s.heap [] 0 0 Q (F0 m 34 ls [])) (fun x4_13 x7_14 => ∀ (ls : Array Slot), lv_has ls 9 [(0, .ref oM), (1, .int p0), (2, .int p1), (3, .int p2), (4, .int x4_13), (5, .int x4_1), (6, .int x6_7), (7, .int x7_14)] → W p l e rmX4_reached s m args below meth c s.heap [] 0 0 Q (F0 m 123 ls [])) hf (fun x4_13 x7_14 hf => ?_) (fun kx slf hkx hslf x4_11 x7_12 hf => ?_) ls (lv_sub hl [1, 2, 3, 4, 5, 6, 7, 0] rfl)
          · intro ls hl
            refine lv_iinc (pc := 123) (v := (x6_7 + 1)) (lv' := [(6, .int (x6_7 + 1)), (0, .ref oM), (1, .int p0), (2, .int p1), (3, .int p2), (4, .int x4_13), (5, .int x4_1), (7, .int x7_14)]) hx hb dX4_reached_123 hl (k := 6) rfl rfl (by decide) rfl (fun ls hl => ?_)
            refine lv_goto (pc := 126) (tgt := 22) hx hb dX4_reached_126 (by decide) ?_
            exact hslf _ _ hf ls (lv_sub hl [1, 2, 3, 4, 5, 6, 0] rfl)
          · unfold FX4_reached_34 at hf
            intro ls hl
            refine lv_iload (pc := 34) hx hb dX4_reached_34 (lv_at hl 7 rfl) ?_
            refine lv_aload_n (pc := 36) hx hb dX4_reached_36 rfl (lv_at hl 0 rfl) ?_
            refine va_get (pc := 37) (D := D) (ci := 4) (v := .int (M 5 0)) (C := RX4) (T := TX4) (N := 29) hx hb hts inX4_reached_X4 hown hK.1 hP 0 rfl rfl 5 (by decide) (hts (.fieldLink RX4 68 "HedgeHolesModel" "fields" "I") (by decide +kernel)) (fun _ h9 => h9) rfl dX4_reached_37 ?_
            refine lv_icmp_ge (pc := 40) (tgt := 123) hx hb dX4_reached_40 (by decide) (fun c15 => ?_) (fun c15 => ?_)
            · have hf := iT c15 hf
              exact hkx _ _ hf ls (lv_sub hl [0, 1, 2, 3, 4, 5, 6, 7] rfl)
            · have hf := iF c15 hf
              refine lv_iload (pc := 43) hx hb dX4_reached_43 (lv_at hl 6 rfl) ?_
              refine lv_iload (pc := 45) hx hb dX4_reached_45 (lv_at hl 7 rfl) ?_
              obtain ⟨v16, hv, hf⟩ := bd hf
              have J17 : ∀ (ls : Array Slot), lv_has ls 9 [(0, .ref oM), (1, .int p0), (2, .int p1), (3, .int p2), (4, .int x4_11), (5, .int x4_1), (6, .int x6_7), (7, .int x7_12)] → W p l e rmX4_reached s m args below meth c s.heap [] 0 0 Q (F0 m 97 ls [.int v16]) := by
                intro ls hl
                refine lv_istore (pc := 97) (lv' := [(8, .int v16), (0, .ref oM), (1, .int p0), (2, .int p1), (3, .int p2), (4, .int x4_11), (5, .int x4_1), (6, .int x6_7), (7, .int x7_12)]) hx hb dX4_reached_97 hl (by decide) rfl (fun ls hl => ?_)
                refine lv_iload (pc := 99) hx hb dX4_reached_99 (lv_at hl 5 rfl) ?_
                refine lv_iload (pc := 101) hx hb dX4_reached_101 (lv_at hl 0 rfl) ?_
                obtain ⟨v18, hv, hf⟩ := bd hf
                have J19 : ∀ (ls : Array Slot), lv_has ls 9 [(0, .ref oM), (1, .int p0), (2, .int p1), (3, .int p2), (4, .int x4_11), (5, .int x4_1), (6, .int x6_7), (7, .int x7_12), (8, .int v16)] → W p l e rmX4_reached s m args below meth c s.heap [] 0 0 Q (F0 m 114 ls [.int v18, .int x4_11]) := by
                  intro ls hl
                  refine lv_ior (pc := 114) hx hb dX4_reached_114 ?_
                  refine lv_istore (pc := 115) (lv' := [(4, .int (x4_11 ||| v18)), (0, .ref oM), (1, .int p0), (2, .int p1), (3, .int p2), (5, .int x4_1), (6, .int x6_7), (7, .int x7_12), (8, .int v16)]) hx hb dX4_reached_115 hl (by decide) rfl (fun ls hl => ?_)
                  refine lv_iinc (pc := 117) (v := (x7_12 + 1)) (lv' := [(7, .int (x7_12 + 1)), (4, .int (x4_11 ||| v18)), (0, .ref oM), (1, .int p0), (2, .int p1), (3, .int p2), (5, .int x4_1), (6, .int x6_7), (8, .int v16)]) hx hb dX4_reached_117 hl (k := 7) rfl rfl (by decide) rfl (fun ls hl => ?_)
                  refine lv_goto (pc := 120) (tgt := 34) hx hb dX4_reached_120 (by decide) ?_
                  exact hslf _ _ hf ls (lv_sub hl [2, 3, 4, 5, 1, 6, 7, 0] rfl)
                clear hf
                have hf := hv
                clear hv
                refine lv_if_eq (pc := 103) (tgt := 113) hx hb dX4_reached_103 (by decide) (fun c20 => ?_) (fun c20 => ?_)
                · have hf := iT c20 hf
                  refine lv_iconst (pc := 113) (v := 0) hx hb dX4_reached_113 (by decide) ?_
                  obtain rfl := Option.some.inj hf
                  exact J19 ls (lv_sub hl [1, 2, 3, 4, 5, 6, 7, 8, 0] rfl)
                · have hf := iF c20 hf
                  refine lv_iconst (pc := 106) (v := 1) hx hb dX4_reached_106 (by decide) ?_
                  refine lv_iload (pc := 107) hx hb dX4_reached_107 (lv_at hl 8 rfl) ?_
                  refine lv_ishl (pc := 109) hx hb dX4_reached_109 ?_
                  refine lv_goto (pc := 110) (tgt := 114) hx hb dX4_reached_110 (by decide) ?_
                  obtain rfl := Option.some.inj hf
                  exact J19 ls (lv_sub hl [1, 2, 3, 4, 5, 6, 7, 8, 0] rfl)
              clear hf
              have hf := hv
              clear hv
              refine lv_icmp_eq (pc := 47) (tgt := 96) hx hb dX4_reached_47 (by decide) (fun c21 => ?_) (fun c21 => ?_)
              · have hf := iT c21 hf
                refine lv_iconst (pc := 96) (v := 0) hx hb dX4_reached_96 (by decide) ?_
                obtain rfl := Option.some.inj hf
                exact J17 ls (lv_sub hl [0, 1, 2, 3, 4, 5, 6, 7] rfl)
              · have hf := iF c21 hf
                refine lv_iload (pc := 50) hx hb dX4_reached_50 (lv_at hl 4 rfl) ?_
                refine lv_iload (pc := 52) hx hb dX4_reached_52 (lv_at hl 6 rfl) ?_
                obtain ⟨v22, h23, hf⟩ := bd hf
                refine roSi (pc := 54) (As := [.int x4_11, .int x6_7]) (rest := []) CF (mtX4_isOf l D cI cZ cQ x4_11 x6_7 v22 h23) (va_cwS 2 hts gX4_reached_X4_isOf rfl rfl rfl hdX4_isOf ⟨Nat.le_of_ble_eq_true rfl, Nat.le_of_ble_eq_true rfl⟩) hK P0 rfl hl.1 rfl (Nat.le_of_ble_eq_true rfl) dX4_reached_54 ?_
                refine lv_if_eq (pc := 57) (tgt := 96) hx hb dX4_reached_57 (by decide) (fun c24 => ?_) (fun c24 => ?_)
                · have hf := iT c24 hf
                  refine lv_iconst (pc := 96) (v := 0) hx hb dX4_reached_96 (by decide) ?_
                  obtain rfl := Option.some.inj hf
                  exact J17 ls (lv_sub hl [0, 1, 2, 3, 4, 5, 6, 7] rfl)
                · have hf := iF c24 hf
                  refine lv_iload_n (pc := 60) hx hb dX4_reached_60 rfl (lv_at hl 3 rfl) ?_
                  refine lv_aload_n (pc := 61) hx hb dX4_reached_61 rfl (lv_at hl 0 rfl) ?_
                  refine lv_iload (pc := 62) hx hb dX4_reached_62 (lv_at hl 6 rfl) ?_
                  refine lv_iload (pc := 64) hx hb dX4_reached_64 (lv_at hl 7 rfl) ?_
                  obtain ⟨v25, h26, hf⟩ := bd hf
                  refine roVi (pc := 66) (As := [.int x6_7, .int x7_12]) (rest := [.int p2]) CF (mtX4_hedge l D cI cZ cQ oM aM M x6_7 x7_12 v25 h26) (cwV 2 hts gX4_reached_X4_hedge rfl rfl rfl ⟨rfl, hdX4_hedge⟩ ⟨Nat.le_of_ble_eq_true rfl, Nat.le_of_ble_eq_true rfl⟩) hK hP rfl rfl rfl rfl hl.1 rfl (Nat.le_of_ble_eq_true rfl) dX4_reached_66 ?_
                  obtain ⟨v27, h28, hf⟩ := bd hf
                  refine roSi (pc := 69) (As := [.int p2, .int v25]) (rest := []) CF (mtX4_isOf l D cI cZ cQ p2 v25 v27 h28) (va_cwS 2 hts gX4_reached_X4_isOf rfl rfl rfl hdX4_isOf ⟨Nat.le_of_ble_eq_true rfl, Nat.le_of_ble_eq_true rfl⟩) hK P0 rfl hl.1 rfl (Nat.le_of_ble_eq_true rfl) dX4_reached_69 ?_
                  refine lv_if_ne (pc := 72) (tgt := 96) hx hb dX4_reached_72 (by decide) (fun c29 => ?_) (fun c29 => ?_)
                  · have hf := iF c29 hf
                    refine lv_iconst (pc := 96) (v := 0) hx hb dX4_reached_96 (by decide) ?_
                    obtain rfl := Option.some.inj hf
                    exact J17 ls (lv_sub hl [0, 1, 2, 3, 4, 5, 6, 7] rfl)
                  · have hf := iT c29 hf
                    refine lv_aload_n (pc := 75) hx hb dX4_reached_75 rfl (lv_at hl 0 rfl) ?_
                    refine va_get (pc := 76) (D := D) (ci := 4) (v := .ref (aM 10)) (C := RX4) (T := TX4) (N := 29) hx hb hts inX4_reached_X4 hown hK.1 hP 0 rfl rfl 10 (by decide) (hts (.fieldLink RX4 19 "HedgeHolesModel" "greats" "[I") (by decide +kernel)) (fun _ h9 => h9) rfl dX4_reached_76 ?_
                    refine lv_aload_n (pc := 79) hx hb dX4_reached_79 rfl (lv_at hl 0 rfl) ?_
                    refine lv_iload (pc := 80) hx hb dX4_reached_80 (lv_at hl 6 rfl) ?_
                    refine lv_iload (pc := 82) hx hb dX4_reached_82 (lv_at hl 7 rfl) ?_
                    obtain ⟨v30, h31, hf⟩ := bd hf
                    refine roVi (pc := 84) (As := [.int x6_7, .int x7_12]) (rest := [.ref (aM 10)]) CF (mtX4_hedge l D cI cZ cQ oM aM M x6_7 x7_12 v30 h31) (cwV 2 hts gX4_reached_X4_hedge rfl rfl rfl ⟨rfl, hdX4_hedge⟩ ⟨Nat.le_of_ble_eq_true rfl, Nat.le_of_ble_eq_true rfl⟩) hK hP rfl rfl rfl rfl hl.1 rfl (Nat.le_of_ble_eq_true rfl) dX4_reached_84 ?_
                    obtain ⟨h32, hf⟩ := gI_e hf
                    refine va_iald (pc := 87) (f := M 10) (n := 10) hx hb hK.1 hP 4 0 rfl rfl h32 dX4_reached_87 ?_
                    refine lv_iload_n (pc := 88) hx hb dX4_reached_88 rfl (lv_at hl 2 rfl) ?_
                    refine lv_icmp_lt (pc := 89) (tgt := 96) hx hb dX4_reached_89 (by decide) (fun c33 => ?_) (fun c33 => ?_)
                    · have hf := iT c33 hf
                      refine lv_iconst (pc := 96) (v := 0) hx hb dX4_reached_96 (by decide) ?_
                      obtain rfl := Option.some.inj hf
                      exact J17 ls (lv_sub hl [0, 1, 2, 3, 4, 5, 6, 7] rfl)
                    · have hf := iF c33 hf
                      refine lv_iconst (pc := 92) (v := 1) hx hb dX4_reached_92 (by decide) ?_
                      refine lv_goto (pc := 93) (tgt := 97) hx hb dX4_reached_93 (by decide) ?_
                      obtain rfl := Option.some.inj hf
                      exact J17 ls (lv_sub hl [0, 1, 2, 3, 4, 5, 6, 7] rfl)
theorem hdX4_reached : yX4_reached.cls ≠ "java/lang/invoke/MethodHandle" ∧ yX4_reached.cls ≠ "java/lang/invoke/VarHandle" ∧ (parseMethodDescriptor yX4_reached.desc).map (fun d => d.parameters.length) = some 3 := by decide +kernel
abbrev rmX4_wantsOf : Room := { frames := 1, cells := 0, slots := 0, locals := 21 }
set_option maxHeartbeats 4000000 in
set_option maxRecDepth 100000 in
theorem mtX4_wantsOf (l : Launch) (D : va_G) (cI cZ cQ : ClassId) (oM : Nat) (aM : Nat → Nat) (M : Bk) (p0 : Int32) (out : Int32) (hf : fX4_wantsOf M p0 = some out) : Met l yX4_wantsOf wsX4_wantsOf rmX4_wantsOf (RoP D cI cZ cQ [.ref oM, .int p0] (wM cI oM aM M)) (vp_Si (fun r' => r' = out)) 0 0 (fun _ => False) := by
  refine metRi (ty := .int) (cc := cX4_wantsOf) (maxL := 2) (by decide) rfl (Nat.le_of_ble_eq_true rfl) ?_
  intro p e s m args below meth c Q CF hK hP hRet ls hl
  obtain ⟨hx, hb, hml, hown, hts⟩ := id CF
  have hl : lv_has ls 2 [(0, .ref oM), (1, .int p0)] := hl
  unfold fX4_wantsOf at hf
  refine lv_aload_n (pc := 0) hx hb dX4_wantsOf_0 rfl (lv_at hl 0 rfl) ?_
  refine lv_iload_n (pc := 1) hx hb dX4_wantsOf_1 rfl (lv_at hl 1 rfl) ?_
  obtain ⟨v1, h2, hf⟩ := bd hf
  refine roVi (pc := 2) (As := [.int p0]) (rest := []) CF (mtX4_thickOf l D cI cZ cQ oM aM M p0 v1 h2) (cwV 1 hts gX4_wantsOf_X4_thickOf rfl rfl rfl ⟨rfl, hdX4_thickOf⟩ ⟨Nat.le_of_ble_eq_true rfl, Nat.le_of_ble_eq_true rfl⟩) hK hP rfl rfl rfl rfl hl.1 rfl (Nat.le_of_ble_eq_true rfl) dX4_wantsOf_2 ?_
  refine lv_iconst (pc := 5) (v := 1) hx hb dX4_wantsOf_5 (by decide) ?_
  refine lv_icmp_ge (pc := 6) (tgt := 13) hx hb dX4_wantsOf_6 (by decide) (fun c3 => ?_) (fun c3 => ?_)
  · have hf := iT c3 hf
    refine lv_aload_n (pc := 13) hx hb dX4_wantsOf_13 rfl (lv_at hl 0 rfl) ?_
    refine lv_iload_n (pc := 14) hx hb dX4_wantsOf_14 rfl (lv_at hl 1 rfl) ?_
    obtain ⟨v4, h5, hf⟩ := bd hf
    refine roVi (pc := 15) (As := [.int p0]) (rest := []) CF (mtX4_thickOf l D cI cZ cQ oM aM M p0 v4 h5) (cwV 1 hts gX4_wantsOf_X4_thickOf rfl rfl rfl ⟨rfl, hdX4_thickOf⟩ ⟨Nat.le_of_ble_eq_true rfl, Nat.le_of_ble_eq_true rfl⟩) hK hP rfl rfl rfl rfl hl.1 rfl (Nat.le_of_ble_eq_true rfl) dX4_wantsOf_15 ?_
    obtain rfl := Option.some.inj hf
    exact hRet 18 ls (vp_nar_int _) dX4_wantsOf_18
  · have hf := iF c3 hf
    refine lv_iconst (pc := 9) (v := 1) hx hb dX4_wantsOf_9 (by decide) ?_
    refine lv_goto (pc := 10) (tgt := 18) hx hb dX4_wantsOf_10 (by decide) ?_
    obtain rfl := Option.some.inj hf
    exact hRet 18 ls (vp_nar_int _) dX4_wantsOf_18
theorem hdX4_wantsOf : yX4_wantsOf.cls ≠ "java/lang/invoke/MethodHandle" ∧ yX4_wantsOf.cls ≠ "java/lang/invoke/VarHandle" ∧ (parseMethodDescriptor yX4_wantsOf.desc).map (fun d => d.parameters.length) = some 1 := by decide +kernel
abbrev rmX4_reachedBy : Room := { frames := 2, cells := 0, slots := 0, locals := 54 }
theorem inX4_reachedBy_X4 : ∀ w ∈ wsX40, w ∈ wsX4_reachedBy := fun _ h => List.mem_cons_of_mem _ (List.mem_append_right _ h)
set_option maxHeartbeats 4000000 in
set_option maxRecDepth 100000 in
theorem mtX4_reachedBy (l : Launch) (D : va_G) (cI cZ cQ : ClassId) (oM : Nat) (aM : Nat → Nat) (M : Bk) (p0 : Int32) (out : Int32) (hf : fX4_reachedBy M p0 = some out) : Met l yX4_reachedBy wsX4_reachedBy rmX4_reachedBy (RoP D cI cZ cQ [.ref oM, .int p0] (wM cI oM aM M)) (vp_Si (fun r' => r' = out)) 0 0 (fun _ => False) := by
  refine metRi (ty := .int) (cc := cX4_reachedBy) (maxL := 2) (by decide) rfl (Nat.le_of_ble_eq_true rfl) ?_
  intro p e s m args below meth c Q CF hK hP hRet ls hl
  obtain ⟨hx, hb, hml, hown, hts⟩ := id CF
  have hl : lv_has ls 2 [(0, .ref oM), (1, .int p0)] := hl
  unfold fX4_reachedBy at hf
  refine lv_aload_n (pc := 0) hx hb dX4_reachedBy_0 rfl (lv_at hl 0 rfl) ?_
  refine lv_aload_n (pc := 1) hx hb dX4_reachedBy_1 rfl (lv_at hl 0 rfl) ?_
  refine va_get (pc := 2) (D := D) (ci := 4) (v := .ref (aM 13)) (C := RX4) (T := TX4) (N := 29) hx hb hts inX4_reachedBy_X4 hown hK.1 hP 0 rfl rfl 13 (by decide) (hts (.fieldLink RX4 28 "HedgeHolesModel" "field" "[I") (by decide +kernel)) (fun _ h9 => h9) rfl dX4_reachedBy_2 ?_
  refine lv_iload_n (pc := 5) hx hb dX4_reachedBy_5 rfl (lv_at hl 1 rfl) ?_
  obtain ⟨h1, hf⟩ := gI_e hf
  refine va_iald (pc := 6) (f := M 13) (n := 5) hx hb hK.1 hP 7 0 rfl rfl h1 dX4_reachedBy_6 ?_
  refine lv_aload_n (pc := 7) hx hb dX4_reachedBy_7 rfl (lv_at hl 0 rfl) ?_
  refine lv_iload_n (pc := 8) hx hb dX4_reachedBy_8 rfl (lv_at hl 1 rfl) ?_
  obtain ⟨v2, h3, hf⟩ := bd hf
  refine roVi (pc := 9) (As := [.int p0]) (rest := [.int (M 13 p0.toNatClampNeg), .ref oM]) CF (mtX4_wantsOf l D cI cZ cQ oM aM M p0 v2 h3) (cwV 1 hts gX4_reachedBy_X4_wantsOf rfl rfl rfl ⟨rfl, hdX4_wantsOf⟩ ⟨Nat.le_of_ble_eq_true rfl, Nat.le_of_ble_eq_true rfl⟩) hK hP rfl rfl rfl rfl hl.1 rfl (Nat.le_of_ble_eq_true rfl) dX4_reachedBy_9 ?_
  refine lv_iconst (pc := 12) (v := 0) hx hb dX4_reachedBy_12 (by decide) ?_
  obtain ⟨v4, h5, hf⟩ := bd hf
  refine roVi (pc := 13) (As := [.int (M 13 p0.toNatClampNeg), .int v2, .int 0]) (rest := []) CF (mtX4_reached l D cI cZ cQ oM aM M (M 13 p0.toNatClampNeg) v2 0 v4 h5) (cwV 3 hts gX4_reachedBy_X4_reached rfl rfl rfl ⟨rfl, hdX4_reached⟩ ⟨Nat.le_of_ble_eq_true rfl, Nat.le_of_ble_eq_true rfl⟩) hK hP rfl rfl rfl rfl hl.1 rfl (Nat.le_of_ble_eq_true rfl) dX4_reachedBy_13 ?_
  obtain rfl := Option.some.inj hf
  exact hRet 16 ls (vp_nar_int _) dX4_reachedBy_16
theorem hdX4_reachedBy : yX4_reachedBy.cls ≠ "java/lang/invoke/MethodHandle" ∧ yX4_reachedBy.cls ≠ "java/lang/invoke/VarHandle" ∧ (parseMethodDescriptor yX4_reachedBy.desc).map (fun d => d.parameters.length) = some 1 := by decide +kernel
abbrev rmX4_widest : Room := { frames := 2, cells := 0, slots := 0, locals := 54 }
set_option maxHeartbeats 4000000 in
set_option maxRecDepth 100000 in
theorem mtX4_widest (l : Launch) (D : va_G) (cI cZ cQ : ClassId) (oM : Nat) (aM : Nat → Nat) (M : Bk) (p0 : Int32) (p1 : Int32) (out : Int32) (hf : fX4_widest M p0 p1 = some out) : Met l yX4_widest wsX4_widest rmX4_widest (RoP D cI cZ cQ [.ref oM, .int p0, .int p1] (wM cI oM aM M)) (vp_Si (fun r' => r' = out)) 0 0 (fun _ => False) := by
  refine metRi (ty := .int) (cc := cX4_widest) (maxL := 4) (by decide) rfl (Nat.le_of_ble_eq_true rfl) ?_
  intro p e s m args below meth c Q CF hK hP hRet ls hl
  obtain ⟨hx, hb, hml, hown, hts⟩ := id CF
  have hl : lv_has ls 4 [(0, .ref oM), (1, .int p0), (2, .int p1)] := hl
  unfold fX4_widest at hf
  refine lv_aload_n (pc := 0) hx hb dX4_widest_0 rfl (lv_at hl 0 rfl) ?_
  refine lv_iload_n (pc := 1) hx hb dX4_widest_1 rfl (lv_at hl 1 rfl) ?_
  refine lv_iload_n (pc := 2) hx hb dX4_widest_2 rfl (lv_at hl 2 rfl) ?_
  obtain ⟨v1, h2, hf⟩ := bd hf
  refine roVi (pc := 3) (As := [.int p0, .int p1]) (rest := []) CF (mtX4_areTwo l D cI cZ cQ oM aM M p0 p1 v1 h2) (cwV 2 hts gX4_widest_X4_areTwo rfl rfl rfl ⟨rfl, hdX4_areTwo⟩ ⟨Nat.le_of_ble_eq_true rfl, Nat.le_of_ble_eq_true rfl⟩) hK hP rfl rfl rfl rfl hl.1 rfl (Nat.le_of_ble_eq_true rfl) dX4_widest_3 ?_
  refine lv_if_ne (pc := 6) (tgt := 11) hx hb dX4_widest_6 (by decide) (fun c3 => ?_) (fun c3 => ?_)
  · have hf := iF c3 hf
    refine lv_bipush (pc := 11) (v := 9) hx hb dX4_widest_11 (by decide) ?_
    refine lv_istore_n (pc := 13) (lv' := [(3, .int 9), (0, .ref oM), (1, .int p0), (2, .int p1)]) hx hb dX4_widest_13 rfl hl (by decide) rfl (fun ls hl => ?_)
    refine zl1 (G := FX4_widest_14 p0 p1 M) (fun x3_4 => ∀ (ls : Array Slot), lv_has ls 4 [(0, .ref oM), (1, .int p0), (2, .int p1), (3, .int x3_4)] → W p l e rmX4_widest s m args below meth c s.heap [] 0 0 Q (F0 m 14 ls [])) (fun x3_5 => ∀ (ls : Array Slot), lv_has ls 4 [(0, .ref oM), (1, .int p0), (2, .int p1), (3, .int x3_5)] → W p l e rmX4_widest s m args below meth c s.heap [] 0 0 Q (F0 m 38 ls [])) hf (fun x3_5 hf => ?_) (fun kx slf hkx hslf x3_4 hf => ?_) ls (lv_sub hl [1, 2, 3, 0] rfl)
    · intro ls hl
      refine lv_iload_n (pc := 38) hx hb dX4_widest_38 rfl (lv_at hl 3 rfl) ?_
      obtain rfl := Option.some.inj hf
      exact hRet 39 ls (vp_nar_int _) dX4_widest_39
    · unfold FX4_widest_14 at hf
      intro ls hl
      refine lv_iload_n (pc := 14) hx hb dX4_widest_14 rfl (lv_at hl 3 rfl) ?_
      refine lv_if_le (pc := 15) (tgt := 38) hx hb dX4_widest_15 (by decide) (fun c6 => ?_) (fun c6 => ?_)
      · have hf := iT c6 hf
        exact hkx _ hf ls (lv_sub hl [0, 1, 2, 3] rfl)
      · have hf := iF c6 hf
        refine lv_aload_n (pc := 18) hx hb dX4_widest_18 rfl (lv_at hl 0 rfl) ?_
        refine lv_iload_n (pc := 19) hx hb dX4_widest_19 rfl (lv_at hl 1 rfl) ?_
        refine lv_iload_n (pc := 20) hx hb dX4_widest_20 rfl (lv_at hl 3 rfl) ?_
        refine lv_iconst (pc := 21) (v := 0) hx hb dX4_widest_21 (by decide) ?_
        obtain ⟨v7, h8, hf⟩ := bd hf
        refine roVi (pc := 22) (As := [.int p0, .int x3_4, .int 0]) (rest := []) CF (mtX4_reached l D cI cZ cQ oM aM M p0 x3_4 0 v7 h8) (cwV 3 hts gX4_widest_X4_reached rfl rfl rfl ⟨rfl, hdX4_reached⟩ ⟨Nat.le_of_ble_eq_true rfl, Nat.le_of_ble_eq_true rfl⟩) hK hP rfl rfl rfl rfl hl.1 rfl (Nat.le_of_ble_eq_true rfl) dX4_widest_22 ?_
        refine lv_iload_n (pc := 25) hx hb dX4_widest_25 rfl (lv_at hl 2 rfl) ?_
        obtain ⟨v9, h10, hf⟩ := bd hf
        refine roSi (pc := 26) (As := [.int v7, .int p1]) (rest := []) CF (mtX4_isOf l D cI cZ cQ v7 p1 v9 h10) (va_cwS 2 hts gX4_widest_X4_isOf rfl rfl rfl hdX4_isOf ⟨Nat.le_of_ble_eq_true rfl, Nat.le_of_ble_eq_true rfl⟩) hK P0 rfl hl.1 rfl (Nat.le_of_ble_eq_true rfl) dX4_widest_26 ?_
        refine lv_if_ne (pc := 29) (tgt := 38) hx hb dX4_widest_29 (by decide) (fun c11 => ?_) (fun c11 => ?_)
        · have hf := iF c11 hf
          exact hkx _ hf ls (lv_sub hl [0, 1, 2, 3] rfl)
        · have hf := iT c11 hf
          refine lv_iinc (pc := 32) (v := (x3_4 + (-1))) (lv' := [(3, .int (x3_4 + (-1))), (0, .ref oM), (1, .int p0), (2, .int p1)]) hx hb dX4_widest_32 hl (k := 3) rfl rfl (by decide) rfl (fun ls hl => ?_)
          refine lv_goto (pc := 35) (tgt := 14) hx hb dX4_widest_35 (by decide) ?_
          exact hslf _ hf ls (lv_sub hl [1, 2, 3, 0] rfl)
  · have hf := iT c3 hf
    refine lv_iconst (pc := 9) (v := (-1)) hx hb dX4_widest_9 (by decide) ?_
    obtain rfl := Option.some.inj hf
    exact hRet 10 ls (vp_nar_int _) dX4_widest_10
theorem hdX4_widest : yX4_widest.cls ≠ "java/lang/invoke/MethodHandle" ∧ yX4_widest.cls ≠ "java/lang/invoke/VarHandle" ∧ (parseMethodDescriptor yX4_widest.desc).map (fun d => d.parameters.length) = some 2 := by decide +kernel
abbrev rmX4_findFar : Room := { frames := 2, cells := 0, slots := 0, locals := 43 }
theorem inX4_findFar_X4 : ∀ w ∈ wsX40, w ∈ wsX4_findFar := fun _ h => List.mem_cons_of_mem _ (List.mem_append_right _ h)
set_option maxHeartbeats 4000000 in
set_option maxRecDepth 100000 in
theorem mtX4_findFar (l : Launch) (D : va_G) (cI cZ cQ : ClassId) (oM : Nat) (aM : Nat → Nat) (M : Bk) (p0 : Int32) (p1 : Int32) (sz : Nat) (out : Bk) (hf : fX4_findFar M p0 p1 = some out) : Met l yX4_findFar wsX4_findFar rmX4_findFar (WrP D cI cZ cQ [.ref oM, .int p0, .int p1] (wM cI oM aM M) sz) (WrQv D (wM cI oM aM M) (wM cI oM aM out) sz) 0 0 (va_A (wM cI oM aM M) sz) := by
  refine metWv (cc := cX4_findFar) (maxL := 7) (by decide) rfl (Nat.le_of_ble_eq_true rfl) ?_
  intro p e s m args below meth c Q A CF hK hP hD hA hRet ls hl
  obtain ⟨hx, hb, hml, hown, hts⟩ := id CF
  have hS : va_S A s.heap s.heap [] := va_S.rf
  have hl : lv_has ls 7 [(0, .ref oM), (1, .int p0), (2, .int p1)] := hl
  unfold fX4_findFar at hf
  refine lv_iconst (pc := 0) (v := 0) hx hb dX4_findFar_0 (by decide) ?_
  refine lv_istore_n (pc := 1) (lv' := [(3, .int 0), (0, .ref oM), (1, .int p0), (2, .int p1)]) hx hb dX4_findFar_1 rfl hl (by decide) rfl (fun ls hl => ?_)
  refine zl2 (G := FX4_findFar_2 p1) (fun x3_1 M_2 => ∀ (ls : Array Slot) (H : Heap) (locs : List Loc), lv_has ls 7 [(0, .ref oM), (1, .int p0), (2, .int p1), (3, .int x3_1)] → va_P D vwCl (wM cI oM aM M_2) H → va_D A (wM cI oM aM M_2) → va_S A s.heap H locs → W p l e rmX4_findFar s m args below meth c H locs 0 0 Q (F0 m 2 ls [])) (fun x3_3 M_4 => ∀ (ls : Array Slot) (H : Heap) (locs : List Loc), lv_has ls 7 [(0, .ref oM), (1, .int p0), (2, .int p1), (3, .int x3_3)] → va_P D vwCl (wM cI oM aM M_4) H → va_D A (wM cI oM aM M_4) → va_S A s.heap H locs → W p l e rmX4_findFar s m args below meth c H locs 0 0 Q (F0 m 33 ls [])) hf (fun x3_3 M_4 hf => ?_) (fun kx slf hkx hslf x3_1 M_2 hf => ?_) ls s.heap [] (lv_sub hl [1, 2, 3, 0] rfl) hP hD hS
  · intro ls H locs hl hP hD hS
    refine lv_iconst (pc := 33) (v := 0) hx hb dX4_findFar_33 (by decide) ?_
    refine lv_istore_n (pc := 34) (lv' := [(3, .int 0), (0, .ref oM), (1, .int p0), (2, .int p1)]) hx hb dX4_findFar_34 rfl hl (by decide) rfl (fun ls hl => ?_)
    refine zl2 (G := FX4_findFar_35 p0) (fun x3_12 M_13 => ∀ (ls : Array Slot) (H : Heap) (locs : List Loc), lv_has ls 7 [(0, .ref oM), (1, .int p0), (2, .int p1), (3, .int x3_12)] → va_P D vwCl (wM cI oM aM M_13) H → va_D A (wM cI oM aM M_13) → va_S A s.heap H locs → W p l e rmX4_findFar s m args below meth c H locs 0 0 Q (F0 m 35 ls [])) (fun x3_14 M_15 => ∀ (ls : Array Slot) (H : Heap) (locs : List Loc), lv_has ls 7 [(0, .ref oM), (1, .int p0), (2, .int p1), (3, .int x3_14)] → va_P D vwCl (wM cI oM aM M_15) H → va_D A (wM cI oM aM M_15) → va_S A s.heap H locs → W p l e rmX4_findFar s m args below meth c H locs 0 0 Q (F0 m 163 ls [])) hf (fun x3_14 M_15 hf => ?_) (fun kx slf hkx hslf x3_12 M_13 hf => ?_) ls H locs (lv_sub hl [1, 2, 3, 0] rfl) hP hD hS
    · intro ls H locs hl hP hD hS
      obtain rfl := Option.some.inj hf
      exact hRet 163 ls H locs dX4_findFar_163 hP hS
    · unfold FX4_findFar_35 at hf
      intro ls H locs hl hP hD hS
      refine lv_iload_n (pc := 35) hx hb dX4_findFar_35 rfl (lv_at hl 3 rfl) ?_
      refine lv_aload_n (pc := 36) hx hb dX4_findFar_36 rfl (lv_at hl 0 rfl) ?_
      refine va_get (pc := 37) (D := D) (ci := 4) (v := .int (M_13 5 0)) (C := RX4) (T := TX4) (N := 29) hx hb hts inX4_findFar_X4 hown hK.1 hP 0 rfl rfl 5 (by decide) (hts (.fieldLink RX4 68 "HedgeHolesModel" "fields" "I") (by decide +kernel)) (fun _ h9 => h9) rfl dX4_findFar_37 ?_
      refine lv_icmp_ge (pc := 40) (tgt := 163) hx hb dX4_findFar_40 (by decide) (fun c16 => ?_) (fun c16 => ?_)
      · have hf := iT c16 hf
        exact hkx _ _ hf ls H locs (lv_sub hl [0, 1, 2, 3] rfl) hP hD hS
      · have hf := iF c16 hf
        refine lv_iconst (pc := 43) (v := 0) hx hb dX4_findFar_43 (by decide) ?_
        refine lv_istore (pc := 44) (lv' := [(4, .int 0), (0, .ref oM), (1, .int p0), (2, .int p1), (3, .int x3_12)]) hx hb dX4_findFar_44 hl (by decide) rfl (fun ls hl => ?_)
        refine zl2 (G := FX4_findFar_46 p0 x3_12) (fun x4_17 M_18 => ∀ (ls : Array Slot) (H : Heap) (locs : List Loc), lv_has ls 7 [(0, .ref oM), (1, .int p0), (2, .int p1), (3, .int x3_12), (4, .int x4_17)] → va_P D vwCl (wM cI oM aM M_18) H → va_D A (wM cI oM aM M_18) → va_S A s.heap H locs → W p l e rmX4_findFar s m args below meth c H locs 0 0 Q (F0 m 46 ls [])) (fun x4_19 M_20 => ∀ (ls : Array Slot) (H : Heap) (locs : List Loc), lv_has ls 7 [(0, .ref oM), (1, .int p0), (2, .int p1), (3, .int x3_12), (4, .int x4_19)] → va_P D vwCl (wM cI oM aM M_20) H → va_D A (wM cI oM aM M_20) → va_S A s.heap H locs → W p l e rmX4_findFar s m args below meth c H locs 0 0 Q (F0 m 157 ls [])) hf (fun x4_19 M_20 hf => ?_) (fun kx slf hkx hslf x4_17 M_18 hf => ?_) ls H locs (lv_sub hl [1, 2, 3, 4, 0] rfl) hP hD hS
        · intro ls H locs hl hP hD hS
          refine lv_iinc (pc := 157) (v := (x3_12 + 1)) (lv' := [(3, .int (x3_12 + 1)), (0, .ref oM), (1, .int p0), (2, .int p1), (4, .int x4_19)]) hx hb dX4_findFar_157 hl (k := 3) rfl rfl (by decide) rfl (fun ls hl => ?_)
          refine lv_goto (pc := 160) (tgt := 35) hx hb dX4_findFar_160 (by decide) ?_
          exact hslf _ _ hf ls H locs (lv_sub hl [1, 2, 3, 0] rfl) hP hD hS
        · unfold FX4_findFar_46 at hf
          intro ls H locs hl hP hD hS
          refine lv_iload (pc := 46) hx hb dX4_findFar_46 (lv_at hl 4 rfl) ?_
          refine lv_aload_n (pc := 48) hx hb dX4_findFar_48 rfl (lv_at hl 0 rfl) ?_
          refine va_get (pc := 49) (D := D) (ci := 4) (v := .int (M_18 5 0)) (C := RX4) (T := TX4) (N := 29) hx hb hts inX4_findFar_X4 hown hK.1 hP 0 rfl rfl 5 (by decide) (hts (.fieldLink RX4 68 "HedgeHolesModel" "fields" "I") (by decide +kernel)) (fun _ h9 => h9) rfl dX4_findFar_49 ?_
          refine lv_icmp_ge (pc := 52) (tgt := 157) hx hb dX4_findFar_52 (by decide) (fun c21 => ?_) (fun c21 => ?_)
          · have hf := iT c21 hf
            exact hkx _ _ hf ls H locs (lv_sub hl [0, 1, 2, 3, 4] rfl) hP hD hS
          · have hf := iF c21 hf
            refine lv_iconst (pc := 55) (v := 0) hx hb dX4_findFar_55 (by decide) ?_
            refine lv_istore (pc := 56) (lv' := [(5, .int 0), (0, .ref oM), (1, .int p0), (2, .int p1), (3, .int x3_12), (4, .int x4_17)]) hx hb dX4_findFar_56 hl (by decide) rfl (fun ls hl => ?_)
            refine zl2 (G := FX4_findFar_58 p0 x4_17 x3_12) (fun x5_22 M_23 => ∀ (ls : Array Slot) (H : Heap) (locs : List Loc), lv_has ls 7 [(0, .ref oM), (1, .int p0), (2, .int p1), (3, .int x3_12), (4, .int x4_17), (5, .int x5_22)] → va_P D vwCl (wM cI oM aM M_23) H → va_D A (wM cI oM aM M_23) → va_S A s.heap H locs → W p l e rmX4_findFar s m args below meth c H locs 0 0 Q (F0 m 58 ls [])) (fun x5_24 M_25 => ∀ (ls : Array Slot) (H : Heap) (locs : List Loc), lv_has ls 7 [(0, .ref oM), (1, .int p0), (2, .int p1), (3, .int x3_12), (4, .int x4_17), (5, .int x5_24)] → va_P D vwCl (wM cI oM aM M_25) H → va_D A (wM cI oM aM M_25) → va_S A s.heap H locs → W p l e rmX4_findFar s m args below meth c H locs 0 0 Q (F0 m 151 ls [])) hf (fun x5_24 M_25 hf => ?_) (fun kx slf hkx hslf x5_22 M_23 hf => ?_) ls H locs (lv_sub hl [1, 2, 3, 4, 5, 0] rfl) hP hD hS
            · intro ls H locs hl hP hD hS
              refine lv_iinc (pc := 151) (v := (x4_17 + 1)) (lv' := [(4, .int (x4_17 + 1)), (0, .ref oM), (1, .int p0), (2, .int p1), (3, .int x3_12), (5, .int x5_24)]) hx hb dX4_findFar_151 hl (k := 4) rfl rfl (by decide) rfl (fun ls hl => ?_)
              refine lv_goto (pc := 154) (tgt := 46) hx hb dX4_findFar_154 (by decide) ?_
              exact hslf _ _ hf ls H locs (lv_sub hl [1, 2, 3, 4, 0] rfl) hP hD hS
            · unfold FX4_findFar_58 at hf
              intro ls H locs hl hP hD hS
              refine lv_iload (pc := 58) hx hb dX4_findFar_58 (lv_at hl 5 rfl) ?_
              refine lv_aload_n (pc := 60) hx hb dX4_findFar_60 rfl (lv_at hl 0 rfl) ?_
              refine va_get (pc := 61) (D := D) (ci := 4) (v := .int (M_23 5 0)) (C := RX4) (T := TX4) (N := 29) hx hb hts inX4_findFar_X4 hown hK.1 hP 0 rfl rfl 5 (by decide) (hts (.fieldLink RX4 68 "HedgeHolesModel" "fields" "I") (by decide +kernel)) (fun _ h9 => h9) rfl dX4_findFar_61 ?_
              refine lv_icmp_ge (pc := 64) (tgt := 151) hx hb dX4_findFar_64 (by decide) (fun c26 => ?_) (fun c26 => ?_)
              · have hf := iT c26 hf
                exact hkx _ _ hf ls H locs (lv_sub hl [0, 1, 2, 3, 4, 5] rfl) hP hD hS
              · have hf := iF c26 hf
                refine lv_iload (pc := 67) hx hb dX4_findFar_67 (lv_at hl 4 rfl) ?_
                refine lv_iload (pc := 69) hx hb dX4_findFar_69 (lv_at hl 5 rfl) ?_
                obtain ⟨v27, hv, hf⟩ := bd hf
                have J28 : ∀ (ls : Array Slot), lv_has ls 7 [(0, .ref oM), (1, .int p0), (2, .int p1), (3, .int x3_12), (4, .int x4_17), (5, .int x5_22)] → W p l e rmX4_findFar s m args below meth c H locs 0 0 Q (F0 m 118 ls [.int v27]) := by
                  intro ls hl
                  refine lv_istore (pc := 118) (lv' := [(6, .int v27), (0, .ref oM), (1, .int p0), (2, .int p1), (3, .int x3_12), (4, .int x4_17), (5, .int x5_22)]) hx hb dX4_findFar_118 hl (by decide) rfl (fun ls hl => ?_)
                  refine lv_aload_n (pc := 120) hx hb dX4_findFar_120 rfl (lv_at hl 1 rfl) ?_
                  refine va_get (pc := 121) (D := D) (ci := 4) (v := .ref (aM 23)) (C := RX4) (T := TX4) (N := 29) hx hb hts inX4_findFar_X4 hown hK.1 hP 0 rfl rfl 23 (by decide) (hts (.fieldLink RX4 43 "HedgeHolesModel" "far" "[I") (by decide +kernel)) (fun _ h9 => h9) rfl dX4_findFar_121 ?_
                  refine lv_iload (pc := 124) hx hb dX4_findFar_124 (lv_at hl 6 rfl) ?_
                  refine lv_iload (pc := 126) hx hb dX4_findFar_126 (lv_at hl 0 rfl) ?_
                  obtain ⟨v29, hv, hf⟩ := bd hf
                  have J30 : ∀ (ls : Array Slot), lv_has ls 7 [(0, .ref oM), (1, .int p0), (2, .int p1), (3, .int x3_12), (4, .int x4_17), (5, .int x5_22), (6, .int v27)] → W p l e rmX4_findFar s m args below meth c H locs 0 0 Q (F0 m 144 ls [.int v29, .int x5_22, .ref (aM 23)]) := by
                    intro ls hl
                    obtain ⟨h31, hf⟩ := gI_e hf
                    refine va_iast (pc := 144) (f := M_23 23) (n := 5) hx hb hK.1 hP hD hS 12 0 rfl rfl h31 dX4_findFar_144 (fun H locs hP hD hS => ?_)
                    have hP : va_P D vwCl (wM cI oM aM (sB M_23 23 x5_22.toNatClampNeg v29)) H := hP
                    have hD : va_D A (wM cI oM aM (sB M_23 23 x5_22.toNatClampNeg v29)) := hD
                    obtain ⟨M_32, h33, hf⟩ := bd hf
                    have h33 := Option.some.inj h33
                    rw [h33] at hP hD
                    refine lv_iinc (pc := 145) (v := (x5_22 + 1)) (lv' := [(5, .int (x5_22 + 1)), (0, .ref oM), (1, .int p0), (2, .int p1), (3, .int x3_12), (4, .int x4_17), (6, .int v27)]) hx hb dX4_findFar_145 hl (k := 5) rfl rfl (by decide) rfl (fun ls hl => ?_)
                    refine lv_goto (pc := 148) (tgt := 58) hx hb dX4_findFar_148 (by decide) ?_
                    exact hslf _ _ hf ls H locs (lv_sub hl [1, 2, 3, 4, 5, 0] rfl) hP hD hS
                  clear hf
                  have hf := hv
                  clear hv
                  refine lv_if_eq (pc := 128) (tgt := 137) hx hb dX4_findFar_128 (by decide) (fun c34 => ?_) (fun c34 => ?_)
                  · have hf := iT c34 hf
                    refine lv_aload_n (pc := 137) hx hb dX4_findFar_137 rfl (lv_at hl 1 rfl) ?_
                    refine va_get (pc := 138) (D := D) (ci := 4) (v := .ref (aM 23)) (C := RX4) (T := TX4) (N := 29) hx hb hts inX4_findFar_X4 hown hK.1 hP 0 rfl rfl 23 (by decide) (hts (.fieldLink RX4 43 "HedgeHolesModel" "far" "[I") (by decide +kernel)) (fun _ h9 => h9) rfl dX4_findFar_138 ?_
                    refine lv_iload (pc := 141) hx hb dX4_findFar_141 (lv_at hl 6 rfl) ?_
                    obtain ⟨h35, hf⟩ := gI_e hf
                    refine va_iald (pc := 143) (f := M_23 23) (n := 5) hx hb hK.1 hP 12 0 rfl rfl h35 dX4_findFar_143 ?_
                    obtain rfl := Option.some.inj hf
                    exact J30 ls (lv_sub hl [1, 2, 3, 4, 5, 6, 0] rfl)
                  · have hf := iF c34 hf
                    refine lv_iload_n (pc := 131) hx hb dX4_findFar_131 rfl (lv_at hl 4 rfl) ?_
                    refine lv_iconst (pc := 132) (v := 1) hx hb dX4_findFar_132 (by decide) ?_
                    refine lv_iadd (pc := 133) hx hb dX4_findFar_133 ?_
                    refine lv_goto (pc := 134) (tgt := 144) hx hb dX4_findFar_134 (by decide) ?_
                    obtain rfl := Option.some.inj hf
                    exact J30 ls (lv_sub hl [1, 2, 3, 4, 5, 6, 0] rfl)
                clear hf
                have hf := hv
                clear hv
                refine lv_icmp_eq (pc := 71) (tgt := 117) hx hb dX4_findFar_71 (by decide) (fun c36 => ?_) (fun c36 => ?_)
                · have hf := iT c36 hf
                  refine lv_iconst (pc := 117) (v := 0) hx hb dX4_findFar_117 (by decide) ?_
                  obtain rfl := Option.some.inj hf
                  exact J28 ls (lv_sub hl [0, 1, 2, 3, 4, 5] rfl)
                · have hf := iF c36 hf
                  refine lv_aload_n (pc := 74) hx hb dX4_findFar_74 rfl (lv_at hl 0 rfl) ?_
                  refine va_get (pc := 75) (D := D) (ci := 4) (v := .ref (aM 23)) (C := RX4) (T := TX4) (N := 29) hx hb hts inX4_findFar_X4 hown hK.1 hP 0 rfl rfl 23 (by decide) (hts (.fieldLink RX4 43 "HedgeHolesModel" "far" "[I") (by decide +kernel)) (fun _ h9 => h9) rfl dX4_findFar_75 ?_
                  refine lv_iload (pc := 78) hx hb dX4_findFar_78 (lv_at hl 4 rfl) ?_
                  obtain ⟨h37, hf⟩ := gI_e hf
                  refine va_iald (pc := 80) (f := M_23 23) (n := 5) hx hb hK.1 hP 12 0 rfl rfl h37 dX4_findFar_80 ?_
                  refine lv_iload_n (pc := 81) hx hb dX4_findFar_81 rfl (lv_at hl 3 rfl) ?_
                  refine lv_icmp_ne (pc := 82) (tgt := 117) hx hb dX4_findFar_82 (by decide) (fun c38 => ?_) (fun c38 => ?_)
                  · have hf := iF c38 hf
                    refine lv_iconst (pc := 117) (v := 0) hx hb dX4_findFar_117 (by decide) ?_
                    obtain rfl := Option.some.inj hf
                    exact J28 ls (lv_sub hl [0, 1, 2, 3, 4, 5] rfl)
                  · have hf := iT c38 hf
                    refine lv_aload_n (pc := 85) hx hb dX4_findFar_85 rfl (lv_at hl 0 rfl) ?_
                    refine va_get (pc := 86) (D := D) (ci := 4) (v := .ref (aM 23)) (C := RX4) (T := TX4) (N := 29) hx hb hts inX4_findFar_X4 hown hK.1 hP 0 rfl rfl 23 (by decide) (hts (.fieldLink RX4 43 "HedgeHolesModel" "far" "[I") (by decide +kernel)) (fun _ h9 => h9) rfl dX4_findFar_86 ?_
                    refine lv_iload (pc := 89) hx hb dX4_findFar_89 (lv_at hl 5 rfl) ?_
                    obtain ⟨h39, hf⟩ := gI_e hf
                    refine va_iald (pc := 91) (f := M_23 23) (n := 5) hx hb hK.1 hP 12 0 rfl rfl h39 dX4_findFar_91 ?_
                    refine lv_bipush (pc := 92) (v := (-9)) hx hb dX4_findFar_92 (by decide) ?_
                    refine lv_icmp_ne (pc := 94) (tgt := 117) hx hb dX4_findFar_94 (by decide) (fun c40 => ?_) (fun c40 => ?_)
                    · have hf := iF c40 hf
                      refine lv_iconst (pc := 117) (v := 0) hx hb dX4_findFar_117 (by decide) ?_
                      obtain rfl := Option.some.inj hf
                      exact J28 ls (lv_sub hl [0, 1, 2, 3, 4, 5] rfl)
                    · have hf := iT c40 hf
                      refine lv_aload_n (pc := 97) hx hb dX4_findFar_97 rfl (lv_at hl 0 rfl) ?_
                      refine lv_iload_n (pc := 98) hx hb dX4_findFar_98 rfl (lv_at hl 1 rfl) ?_
                      refine lv_aload_n (pc := 99) hx hb dX4_findFar_99 rfl (lv_at hl 0 rfl) ?_
                      refine lv_iload (pc := 100) hx hb dX4_findFar_100 (lv_at hl 4 rfl) ?_
                      refine lv_iload (pc := 102) hx hb dX4_findFar_102 (lv_at hl 5 rfl) ?_
                      obtain ⟨v41, h42, hf⟩ := bd hf
                      refine roVi (pc := 104) (As := [.int x4_17, .int x5_22]) (rest := [.int p0, .ref oM]) CF (mtX4_hedge l D cI cZ cQ oM aM M_23 x4_17 x5_22 v41 h42) (cwV 2 hts gX4_findFar_X4_hedge rfl rfl rfl ⟨rfl, hdX4_hedge⟩ ⟨Nat.le_of_ble_eq_true rfl, Nat.le_of_ble_eq_true rfl⟩) hK hP rfl rfl rfl rfl hl.1 rfl (Nat.le_of_ble_eq_true rfl) dX4_findFar_104 ?_
                      obtain ⟨v43, h44, hf⟩ := bd hf
                      refine roVi (pc := 107) (As := [.int p0, .int v41]) (rest := []) CF (mtX4_fitsHole l D cI cZ cQ oM aM M_23 p0 v41 v43 h44) (cwV 2 hts gX4_findFar_X4_fitsHole rfl rfl rfl ⟨rfl, hdX4_fitsHole⟩ ⟨Nat.le_of_ble_eq_true rfl, Nat.le_of_ble_eq_true rfl⟩) hK hP rfl rfl rfl rfl hl.1 rfl (Nat.le_of_ble_eq_true rfl) dX4_findFar_107 ?_
                      refine lv_if_eq (pc := 110) (tgt := 117) hx hb dX4_findFar_110 (by decide) (fun c45 => ?_) (fun c45 => ?_)
                      · have hf := iT c45 hf
                        refine lv_iconst (pc := 117) (v := 0) hx hb dX4_findFar_117 (by decide) ?_
                        obtain rfl := Option.some.inj hf
                        exact J28 ls (lv_sub hl [0, 1, 2, 3, 4, 5] rfl)
                      · have hf := iF c45 hf
                        refine lv_iconst (pc := 113) (v := 1) hx hb dX4_findFar_113 (by decide) ?_
                        refine lv_goto (pc := 114) (tgt := 118) hx hb dX4_findFar_114 (by decide) ?_
                        obtain rfl := Option.some.inj hf
                        exact J28 ls (lv_sub hl [0, 1, 2, 3, 4, 5] rfl)
  · unfold FX4_findFar_2 at hf
    intro ls H locs hl hP hD hS
    refine lv_iload_n (pc := 2) hx hb dX4_findFar_2 rfl (lv_at hl 3 rfl) ?_
    refine lv_aload_n (pc := 3) hx hb dX4_findFar_3 rfl (lv_at hl 0 rfl) ?_
    refine va_get (pc := 4) (D := D) (ci := 4) (v := .int (M_2 5 0)) (C := RX4) (T := TX4) (N := 29) hx hb hts inX4_findFar_X4 hown hK.1 hP 0 rfl rfl 5 (by decide) (hts (.fieldLink RX4 68 "HedgeHolesModel" "fields" "I") (by decide +kernel)) (fun _ h9 => h9) rfl dX4_findFar_4 ?_
    refine lv_icmp_ge (pc := 7) (tgt := 33) hx hb dX4_findFar_7 (by decide) (fun c5 => ?_) (fun c5 => ?_)
    · have hf := iT c5 hf
      exact hkx _ _ hf ls H locs (lv_sub hl [0, 1, 2, 3] rfl) hP hD hS
    · have hf := iF c5 hf
      refine lv_aload_n (pc := 10) hx hb dX4_findFar_10 rfl (lv_at hl 0 rfl) ?_
      refine va_get (pc := 11) (D := D) (ci := 4) (v := .ref (aM 23)) (C := RX4) (T := TX4) (N := 29) hx hb hts inX4_findFar_X4 hown hK.1 hP 0 rfl rfl 23 (by decide) (hts (.fieldLink RX4 43 "HedgeHolesModel" "far" "[I") (by decide +kernel)) (fun _ h9 => h9) rfl dX4_findFar_11 ?_
      refine lv_iload_n (pc := 14) hx hb dX4_findFar_14 rfl (lv_at hl 3 rfl) ?_
      refine lv_iload_n (pc := 15) hx hb dX4_findFar_15 rfl (lv_at hl 3 rfl) ?_
      refine lv_iload_n (pc := 16) hx hb dX4_findFar_16 rfl (lv_at hl 2 rfl) ?_
      obtain ⟨v6, hv, hf⟩ := bd hf
      have J7 : ∀ (ls : Array Slot), lv_has ls 7 [(0, .ref oM), (1, .int p0), (2, .int p1), (3, .int x3_1)] → W p l e rmX4_findFar s m args below meth c H locs 0 0 Q (F0 m 26 ls [.int v6, .int x3_1, .ref (aM 23)]) := by
        intro ls hl
        obtain ⟨h8, hf⟩ := gI_e hf
        refine va_iast (pc := 26) (f := M_2 23) (n := 5) hx hb hK.1 hP hD hS 12 0 rfl rfl h8 dX4_findFar_26 (fun H locs hP hD hS => ?_)
        have hP : va_P D vwCl (wM cI oM aM (sB M_2 23 x3_1.toNatClampNeg v6)) H := hP
        have hD : va_D A (wM cI oM aM (sB M_2 23 x3_1.toNatClampNeg v6)) := hD
        obtain ⟨M_9, h10, hf⟩ := bd hf
        have h10 := Option.some.inj h10
        rw [h10] at hP hD
        refine lv_iinc (pc := 27) (v := (x3_1 + 1)) (lv' := [(3, .int (x3_1 + 1)), (0, .ref oM), (1, .int p0), (2, .int p1)]) hx hb dX4_findFar_27 hl (k := 3) rfl rfl (by decide) rfl (fun ls hl => ?_)
        refine lv_goto (pc := 30) (tgt := 2) hx hb dX4_findFar_30 (by decide) ?_
        exact hslf _ _ hf ls H locs (lv_sub hl [1, 2, 3, 0] rfl) hP hD hS
      clear hf
      have hf := hv
      clear hv
      refine lv_icmp_ne (pc := 17) (tgt := 24) hx hb dX4_findFar_17 (by decide) (fun c11 => ?_) (fun c11 => ?_)
      · have hf := iF c11 hf
        refine lv_bipush (pc := 24) (v := (-9)) hx hb dX4_findFar_24 (by decide) ?_
        obtain rfl := Option.some.inj hf
        exact J7 ls (lv_sub hl [0, 1, 2, 3] rfl)
      · have hf := iT c11 hf
        refine lv_iconst (pc := 20) (v := 0) hx hb dX4_findFar_20 (by decide) ?_
        refine lv_goto (pc := 21) (tgt := 26) hx hb dX4_findFar_21 (by decide) ?_
        obtain rfl := Option.some.inj hf
        exact J7 ls (lv_sub hl [0, 1, 2, 3] rfl)
theorem hdX4_findFar : yX4_findFar.cls ≠ "java/lang/invoke/MethodHandle" ∧ yX4_findFar.cls ≠ "java/lang/invoke/VarHandle" ∧ (parseMethodDescriptor yX4_findFar.desc).map (fun d => d.parameters.length) = some 2 := by decide +kernel
abbrev rmX4_way : Room := { frames := 3, cells := 0, slots := 0, locals := 69 }
theorem inX4_way_X4 : ∀ w ∈ wsX40, w ∈ wsX4_way := fun _ h => List.mem_cons_of_mem _ (List.mem_append_right _ h)
set_option maxHeartbeats 4000000 in
set_option maxRecDepth 100000 in
theorem mtX4_way (l : Launch) (D : va_G) (cI cZ cQ : ClassId) (oM : Nat) (aM : Nat → Nat) (M : Bk) (p0 : Int32) (p1 : Int32) (p2 : Int32) (sz : Nat) (out : (Int32 × Bk)) (hf : fX4_way M p0 p1 p2 = some out) : Met l yX4_way wsX4_way rmX4_way (WrP D cI cZ cQ [.ref oM, .int p0, .int p1, .int p2] (wM cI oM aM M) sz) (WrQi D out.1 (wM cI oM aM M) (wM cI oM aM out.2) sz) 0 0 (va_A (wM cI oM aM M) sz) := by
  refine metWi (ty := .int) (cc := cX4_way) (maxL := 7) (by decide) rfl (Nat.le_of_ble_eq_true rfl) ?_
  intro p e s m args below meth c Q A CF hK hP hD hA hRet ls hl
  obtain ⟨hx, hb, hml, hown, hts⟩ := id CF
  have hS : va_S A s.heap s.heap [] := va_S.rf
  have hl : lv_has ls 7 [(0, .ref oM), (1, .int p0), (2, .int p1), (3, .int p2)] := hl
  unfold fX4_way at hf
  refine lv_aload_n (pc := 0) hx hb dX4_way_0 rfl (lv_at hl 0 rfl) ?_
  refine lv_iload_n (pc := 1) hx hb dX4_way_1 rfl (lv_at hl 1 rfl) ?_
  obtain ⟨v1, h2, hf⟩ := bd hf
  refine roVi (pc := 2) (As := [.int p0]) (rest := []) CF (mtX4_isGoer l D cI cZ cQ oM aM M p0 v1 h2) (cwV 1 hts gX4_way_X4_isGoer rfl rfl rfl ⟨rfl, hdX4_isGoer⟩ ⟨Nat.le_of_ble_eq_true rfl, Nat.le_of_ble_eq_true rfl⟩) hK hP rfl rfl rfl rfl hl.1 rfl (Nat.le_of_ble_eq_true rfl) dX4_way_2 ?_
  refine lv_if_eq (pc := 5) (tgt := 16) hx hb dX4_way_5 (by decide) (fun c3 => ?_) (fun c3 => ?_)
  · have hf := iT c3 hf
    refine lv_iconst (pc := 16) (v := (-1)) hx hb dX4_way_16 (by decide) ?_
    obtain rfl := Option.some.inj hf
    exact hRet 17 ls s.heap [] (vp_nar_int _) dX4_way_17 hP hS
  · have hf := iF c3 hf
    refine lv_aload_n (pc := 8) hx hb dX4_way_8 rfl (lv_at hl 0 rfl) ?_
    refine lv_iload_n (pc := 9) hx hb dX4_way_9 rfl (lv_at hl 2 rfl) ?_
    obtain ⟨v4, h5, hf⟩ := bd hf
    refine roVi (pc := 10) (As := [.int p1]) (rest := []) CF (mtX4_isField l D cI cZ cQ oM aM M p1 v4 h5) (cwV 1 hts gX4_way_X4_isField rfl rfl rfl ⟨rfl, hdX4_isField⟩ ⟨Nat.le_of_ble_eq_true rfl, Nat.le_of_ble_eq_true rfl⟩) hK hP rfl rfl rfl rfl hl.1 rfl (Nat.le_of_ble_eq_true rfl) dX4_way_10 ?_
    refine lv_if_ne (pc := 13) (tgt := 18) hx hb dX4_way_13 (by decide) (fun c6 => ?_) (fun c6 => ?_)
    · have hf := iF c6 hf
      refine lv_iload_n (pc := 18) hx hb dX4_way_18 rfl (lv_at hl 3 rfl) ?_
      refine lv_iconst (pc := 19) (v := (-1)) hx hb dX4_way_19 (by decide) ?_
      refine lv_iconst (pc := 20) (v := 4) hx hb dX4_way_20 (by decide) ?_
      obtain ⟨v7, h8, hf⟩ := bd hf
      refine roSi (pc := 21) (As := [.int p2, .int (-1), .int 4]) (rest := []) CF (mtX4_within l D cI cZ cQ p2 (-1) 4 v7 h8) (va_cwS 3 hts gX4_way_X4_within rfl rfl rfl hdX4_within ⟨Nat.le_of_ble_eq_true rfl, Nat.le_of_ble_eq_true rfl⟩) hK P0 rfl hl.1 rfl (Nat.le_of_ble_eq_true rfl) dX4_way_21 ?_
      refine lv_if_ne (pc := 24) (tgt := 30) hx hb dX4_way_24 (by decide) (fun c9 => ?_) (fun c9 => ?_)
      · have hf := iF c9 hf
        refine lv_aload_n (pc := 30) hx hb dX4_way_30 rfl (lv_at hl 0 rfl) ?_
        refine lv_iload_n (pc := 31) hx hb dX4_way_31 rfl (lv_at hl 1 rfl) ?_
        refine lv_iload_n (pc := 32) hx hb dX4_way_32 rfl (lv_at hl 2 rfl) ?_
        obtain ⟨v10, h11, hf⟩ := bd hf
        refine wsVv (pc := 33) (As := [.int p0, .int p1]) (rest := []) (w1 := wM cI oM aM v10) CF (mtX4_findFar l D cI cZ cQ oM aM M p0 p1 s.heap.size v10 h11) (cwV 2 hts gX4_way_X4_findFar rfl rfl rfl ⟨rfl, hdX4_findFar⟩ ⟨Nat.le_of_ble_eq_true rfl, Nat.le_of_ble_eq_true rfl⟩) hK hP hD hS hA rfl rfl rfl rfl rfl hl.1 rfl (Nat.le_of_ble_eq_true rfl) dX4_way_33 (fun H locs hP hD hS => ?_)
        refine lv_aload_n (pc := 36) hx hb dX4_way_36 rfl (lv_at hl 0 rfl) ?_
        refine va_get (pc := 37) (D := D) (ci := 4) (v := .ref (aM 13)) (C := RX4) (T := TX4) (N := 29) hx hb hts inX4_way_X4 hown hK.1 hP 0 rfl rfl 13 (by decide) (hts (.fieldLink RX4 28 "HedgeHolesModel" "field" "[I") (by decide +kernel)) (fun _ h9 => h9) rfl dX4_way_37 ?_
        refine lv_iload_n (pc := 40) hx hb dX4_way_40 rfl (lv_at hl 1 rfl) ?_
        obtain ⟨h12, hf⟩ := gI_e hf
        refine va_iald (pc := 41) (f := v10 13) (n := 5) hx hb hK.1 hP 7 0 rfl rfl h12 dX4_way_41 ?_
        refine lv_istore (pc := 42) (lv' := [(4, .int (v10 13 p0.toNatClampNeg)), (0, .ref oM), (1, .int p0), (2, .int p1), (3, .int p2)]) hx hb dX4_way_42 hl (by decide) rfl (fun ls hl => ?_)
        refine lv_aload_n (pc := 44) hx hb dX4_way_44 rfl (lv_at hl 1 rfl) ?_
        refine va_get (pc := 45) (D := D) (ci := 4) (v := .ref (aM 23)) (C := RX4) (T := TX4) (N := 29) hx hb hts inX4_way_X4 hown hK.1 hP 0 rfl rfl 23 (by decide) (hts (.fieldLink RX4 43 "HedgeHolesModel" "far" "[I") (by decide +kernel)) (fun _ h9 => h9) rfl dX4_way_45 ?_
        refine lv_iload (pc := 48) hx hb dX4_way_48 (lv_at hl 0 rfl) ?_
        obtain ⟨h13, hf⟩ := gI_e hf
        refine va_iald (pc := 50) (f := v10 23) (n := 5) hx hb hK.1 hP 12 0 rfl rfl h13 dX4_way_50 ?_
        refine lv_bipush (pc := 51) (v := (-9)) hx hb dX4_way_51 (by decide) ?_
        refine lv_icmp_eq (pc := 53) (tgt := 67) hx hb dX4_way_53 (by decide) (fun c14 => ?_) (fun c14 => ?_)
        · have hf := iT c14 hf
          refine lv_bipush (pc := 67) (v := (-9)) hx hb dX4_way_67 (by decide) ?_
          obtain rfl := Option.some.inj hf
          exact hRet 69 ls H locs (vp_nar_int _) dX4_way_69 hP hS
        · have hf := iF c14 hf
          refine lv_iload_n (pc := 56) hx hb dX4_way_56 rfl (lv_at hl 4 rfl) ?_
          refine lv_aload_n (pc := 57) hx hb dX4_way_57 rfl (lv_at hl 1 rfl) ?_
          refine va_get (pc := 58) (D := D) (ci := 4) (v := .ref (aM 23)) (C := RX4) (T := TX4) (N := 29) hx hb hts inX4_way_X4 hown hK.1 hP 0 rfl rfl 23 (by decide) (hts (.fieldLink RX4 43 "HedgeHolesModel" "far" "[I") (by decide +kernel)) (fun _ h9 => h9) rfl dX4_way_58 ?_
          refine lv_iload (pc := 61) hx hb dX4_way_61 (lv_at hl 0 rfl) ?_
          refine va_iald (pc := 63) (f := v10 23) (n := 5) hx hb hK.1 hP 12 0 rfl rfl h13 dX4_way_63 ?_
          refine lv_icmp_le (pc := 64) (tgt := 70) hx hb dX4_way_64 (by decide) (fun c15 => ?_) (fun c15 => ?_)
          · have hf := iT c15 hf
            refine lv_iload_n (pc := 70) hx hb dX4_way_70 rfl (lv_at hl 4 rfl) ?_
            refine lv_iconst (pc := 71) (v := (-1)) hx hb dX4_way_71 (by decide) ?_
            refine lv_icmp_ne (pc := 72) (tgt := 85) hx hb dX4_way_72 (by decide) (fun c16 => ?_) (fun c16 => ?_)
            · have hf := iF c16 hf
              refine lv_iconst (pc := 85) (v := 0) hx hb dX4_way_85 (by decide) ?_
              refine lv_istore (pc := 86) (lv' := [(5, .int 0), (4, .int (v10 13 p0.toNatClampNeg)), (0, .ref oM), (1, .int p0), (2, .int p1), (3, .int p2)]) hx hb dX4_way_86 hl (by decide) rfl (fun ls hl => ?_)
              refine zl2 (G := FX4_way_88 p0 p2 v10) (fun x4_17 x5_18 => ∀ (ls : Array Slot), lv_has ls 7 [(0, .ref oM), (1, .int p0), (2, .int p1), (3, .int p2), (4, .int x4_17), (5, .int x5_18)] → W p l e rmX4_way s m args below meth c H locs 0 0 Q (F0 m 88 ls [])) (fun x4_19 x5_20 => ∀ (ls : Array Slot), lv_has ls 7 [(0, .ref oM), (1, .int p0), (2, .int p1), (3, .int p2), (4, .int x4_19), (5, .int x5_20)] → W p l e rmX4_way s m args below meth c H locs 0 0 Q (F0 m 155 ls [])) hf (fun x4_19 x5_20 hf => ?_) (fun kx slf hkx hslf x4_17 x5_18 hf => ?_) ls (lv_sub hl [2, 3, 4, 5, 1, 0] rfl)
              · intro ls hl
                refine lv_iload (pc := 155) hx hb dX4_way_155 (lv_at hl 4 rfl) ?_
                obtain rfl := Option.some.inj hf
                exact hRet 157 ls H locs (vp_nar_int _) dX4_way_157 hP hS
              · unfold FX4_way_88 at hf
                intro ls hl
                refine lv_iload (pc := 88) hx hb dX4_way_88 (lv_at hl 5 rfl) ?_
                refine lv_iload_n (pc := 90) hx hb dX4_way_90 rfl (lv_at hl 3 rfl) ?_
                refine lv_icmp_ge (pc := 91) (tgt := 155) hx hb dX4_way_91 (by decide) (fun c21 => ?_) (fun c21 => ?_)
                · have hf := iT c21 hf
                  exact hkx _ _ hf ls (lv_sub hl [0, 1, 2, 3, 4, 5] rfl)
                · have hf := iF c21 hf
                  refine lv_iconst (pc := 94) (v := 0) hx hb dX4_way_94 (by decide) ?_
                  refine lv_istore (pc := 95) (lv' := [(6, .int 0), (0, .ref oM), (1, .int p0), (2, .int p1), (3, .int p2), (4, .int x4_17), (5, .int x5_18)]) hx hb dX4_way_95 hl (by decide) rfl (fun ls hl => ?_)
                  refine zl1 (G := FX4_way_97 p0 v10 x4_17) (fun x6_22 => ∀ (ls : Array Slot), lv_has ls 7 [(0, .ref oM), (1, .int p0), (2, .int p1), (3, .int p2), (4, .int x4_17), (5, .int x5_18), (6, .int x6_22)] → W p l e rmX4_way s m args below meth c H locs 0 0 Q (F0 m 97 ls [])) (fun x6_23 => ∀ (ls : Array Slot), lv_has ls 7 [(0, .ref oM), (1, .int p0), (2, .int p1), (3, .int p2), (4, .int x4_17), (5, .int x5_18), (6, .int x6_23)] → W p l e rmX4_way s m args below meth c H locs 0 0 Q (F0 m 145 ls [])) hf (fun x6_23 hf => ?_) (fun kx slf hkx hslf x6_22 hf => ?_) ls (lv_sub hl [1, 2, 3, 4, 5, 6, 0] rfl)
                  · intro ls hl
                    refine lv_iload (pc := 145) hx hb dX4_way_145 (lv_at hl 6 rfl) ?_
                    refine lv_istore (pc := 147) (lv' := [(4, .int x6_23), (0, .ref oM), (1, .int p0), (2, .int p1), (3, .int p2), (5, .int x5_18), (6, .int x6_23)]) hx hb dX4_way_147 hl (by decide) rfl (fun ls hl => ?_)
                    refine lv_iinc (pc := 149) (v := (x5_18 + 1)) (lv' := [(5, .int (x5_18 + 1)), (4, .int x6_23), (0, .ref oM), (1, .int p0), (2, .int p1), (3, .int p2), (6, .int x6_23)]) hx hb dX4_way_149 hl (k := 5) rfl rfl (by decide) rfl (fun ls hl => ?_)
                    refine lv_goto (pc := 152) (tgt := 88) hx hb dX4_way_152 (by decide) ?_
                    exact hslf _ _ hf ls (lv_sub hl [2, 3, 4, 5, 1, 0] rfl)
                  · unfold FX4_way_97 at hf
                    intro ls hl
                    refine lv_iload (pc := 97) hx hb dX4_way_97 (lv_at hl 6 rfl) ?_
                    refine lv_iload (pc := 99) hx hb dX4_way_99 (lv_at hl 4 rfl) ?_
                    refine lv_icmp_eq (pc := 101) (tgt := 139) hx hb dX4_way_101 (by decide) (fun c24 => ?_) (fun c24 => ?_)
                    · have hf := iT c24 hf
                      refine lv_iinc (pc := 139) (v := (x6_22 + 1)) (lv' := [(6, .int (x6_22 + 1)), (0, .ref oM), (1, .int p0), (2, .int p1), (3, .int p2), (4, .int x4_17), (5, .int x5_18)]) hx hb dX4_way_139 hl (k := 6) rfl rfl (by decide) rfl (fun ls hl => ?_)
                      refine lv_goto (pc := 142) (tgt := 97) hx hb dX4_way_142 (by decide) ?_
                      exact hslf _ hf ls (lv_sub hl [1, 2, 3, 4, 5, 6, 0] rfl)
                    · have hf := iF c24 hf
                      refine lv_aload_n (pc := 104) hx hb dX4_way_104 rfl (lv_at hl 0 rfl) ?_
                      refine va_get (pc := 105) (D := D) (ci := 4) (v := .ref (aM 23)) (C := RX4) (T := TX4) (N := 29) hx hb hts inX4_way_X4 hown hK.1 hP 0 rfl rfl 23 (by decide) (hts (.fieldLink RX4 43 "HedgeHolesModel" "far" "[I") (by decide +kernel)) (fun _ h9 => h9) rfl dX4_way_105 ?_
                      refine lv_iload (pc := 108) hx hb dX4_way_108 (lv_at hl 6 rfl) ?_
                      obtain ⟨h25, hf⟩ := gI_e hf
                      refine va_iald (pc := 110) (f := v10 23) (n := 5) hx hb hK.1 hP 12 0 rfl rfl h25 dX4_way_110 ?_
                      refine lv_aload_n (pc := 111) hx hb dX4_way_111 rfl (lv_at hl 0 rfl) ?_
                      refine va_get (pc := 112) (D := D) (ci := 4) (v := .ref (aM 23)) (C := RX4) (T := TX4) (N := 29) hx hb hts inX4_way_X4 hown hK.1 hP 0 rfl rfl 23 (by decide) (hts (.fieldLink RX4 43 "HedgeHolesModel" "far" "[I") (by decide +kernel)) (fun _ h9 => h9) rfl dX4_way_112 ?_
                      refine lv_iload (pc := 115) hx hb dX4_way_115 (lv_at hl 4 rfl) ?_
                      obtain ⟨h26, hf⟩ := gI_e hf
                      refine va_iald (pc := 117) (f := v10 23) (n := 5) hx hb hK.1 hP 12 0 rfl rfl h26 dX4_way_117 ?_
                      refine lv_iconst (pc := 118) (v := 1) hx hb dX4_way_118 (by decide) ?_
                      refine lv_isub (pc := 119) hx hb dX4_way_119 ?_
                      refine lv_icmp_ne (pc := 120) (tgt := 139) hx hb dX4_way_120 (by decide) (fun c27 => ?_) (fun c27 => ?_)
                      · have hf := iF c27 hf
                        refine lv_iinc (pc := 139) (v := (x6_22 + 1)) (lv' := [(6, .int (x6_22 + 1)), (0, .ref oM), (1, .int p0), (2, .int p1), (3, .int p2), (4, .int x4_17), (5, .int x5_18)]) hx hb dX4_way_139 hl (k := 6) rfl rfl (by decide) rfl (fun ls hl => ?_)
                        refine lv_goto (pc := 142) (tgt := 97) hx hb dX4_way_142 (by decide) ?_
                        exact hslf _ hf ls (lv_sub hl [1, 2, 3, 4, 5, 6, 0] rfl)
                      · have hf := iT c27 hf
                        refine lv_aload_n (pc := 123) hx hb dX4_way_123 rfl (lv_at hl 0 rfl) ?_
                        refine lv_iload_n (pc := 124) hx hb dX4_way_124 rfl (lv_at hl 1 rfl) ?_
                        refine lv_aload_n (pc := 125) hx hb dX4_way_125 rfl (lv_at hl 0 rfl) ?_
                        refine lv_iload (pc := 126) hx hb dX4_way_126 (lv_at hl 4 rfl) ?_
                        refine lv_iload (pc := 128) hx hb dX4_way_128 (lv_at hl 6 rfl) ?_
                        obtain ⟨v28, h29, hf⟩ := bd hf
                        refine roVi (pc := 130) (As := [.int x4_17, .int x6_22]) (rest := [.int p0, .ref oM]) CF (mtX4_hedge l D cI cZ cQ oM aM v10 x4_17 x6_22 v28 h29) (cwV 2 hts gX4_way_X4_hedge rfl rfl rfl ⟨rfl, hdX4_hedge⟩ ⟨Nat.le_of_ble_eq_true rfl, Nat.le_of_ble_eq_true rfl⟩) hK hP rfl rfl rfl rfl hl.1 rfl (Nat.le_of_ble_eq_true rfl) dX4_way_130 ?_
                        obtain ⟨v30, h31, hf⟩ := bd hf
                        refine roVi (pc := 133) (As := [.int p0, .int v28]) (rest := []) CF (mtX4_fitsHole l D cI cZ cQ oM aM v10 p0 v28 v30 h31) (cwV 2 hts gX4_way_X4_fitsHole rfl rfl rfl ⟨rfl, hdX4_fitsHole⟩ ⟨Nat.le_of_ble_eq_true rfl, Nat.le_of_ble_eq_true rfl⟩) hK hP rfl rfl rfl rfl hl.1 rfl (Nat.le_of_ble_eq_true rfl) dX4_way_133 ?_
                        refine lv_if_ne (pc := 136) (tgt := 145) hx hb dX4_way_136 (by decide) (fun c32 => ?_) (fun c32 => ?_)
                        · have hf := iF c32 hf
                          exact hkx _ hf ls (lv_sub hl [0, 1, 2, 3, 4, 5, 6] rfl)
                        · have hf := iT c32 hf
                          refine lv_iinc (pc := 139) (v := (x6_22 + 1)) (lv' := [(6, .int (x6_22 + 1)), (0, .ref oM), (1, .int p0), (2, .int p1), (3, .int p2), (4, .int x4_17), (5, .int x5_18)]) hx hb dX4_way_139 hl (k := 6) rfl rfl (by decide) rfl (fun ls hl => ?_)
                          refine lv_goto (pc := 142) (tgt := 97) hx hb dX4_way_142 (by decide) ?_
                          exact hslf _ hf ls (lv_sub hl [1, 2, 3, 4, 5, 6, 0] rfl)
            · have hf := iT c16 hf
              refine lv_aload_n (pc := 75) hx hb dX4_way_75 rfl (lv_at hl 1 rfl) ?_
              refine va_get (pc := 76) (D := D) (ci := 4) (v := .ref (aM 23)) (C := RX4) (T := TX4) (N := 29) hx hb hts inX4_way_X4 hown hK.1 hP 0 rfl rfl 23 (by decide) (hts (.fieldLink RX4 43 "HedgeHolesModel" "far" "[I") (by decide +kernel)) (fun _ h9 => h9) rfl dX4_way_76 ?_
              refine lv_iload (pc := 79) hx hb dX4_way_79 (lv_at hl 0 rfl) ?_
              refine va_iald (pc := 81) (f := v10 23) (n := 5) hx hb hK.1 hP 12 0 rfl rfl h13 dX4_way_81 ?_
              refine lv_iconst (pc := 82) (v := 1) hx hb dX4_way_82 (by decide) ?_
              refine lv_iadd (pc := 83) hx hb dX4_way_83 ?_
              obtain rfl := Option.some.inj hf
              exact hRet 84 ls H locs (vp_nar_int _) dX4_way_84 hP hS
          · have hf := iF c15 hf
            refine lv_bipush (pc := 67) (v := (-9)) hx hb dX4_way_67 (by decide) ?_
            obtain rfl := Option.some.inj hf
            exact hRet 69 ls H locs (vp_nar_int _) dX4_way_69 hP hS
      · have hf := iT c9 hf
        refine lv_bipush (pc := 27) (v := (-2)) hx hb dX4_way_27 (by decide) ?_
        obtain rfl := Option.some.inj hf
        exact hRet 29 ls s.heap [] (vp_nar_int _) dX4_way_29 hP hS
    · have hf := iT c6 hf
      refine lv_iconst (pc := 16) (v := (-1)) hx hb dX4_way_16 (by decide) ?_
      obtain rfl := Option.some.inj hf
      exact hRet 17 ls s.heap [] (vp_nar_int _) dX4_way_17 hP hS
theorem hdX4_way : yX4_way.cls ≠ "java/lang/invoke/MethodHandle" ∧ yX4_way.cls ≠ "java/lang/invoke/VarHandle" ∧ (parseMethodDescriptor yX4_way.desc).map (fun d => d.parameters.length) = some 3 := by decide +kernel
abbrev rmX4_market : Room := { frames := 3, cells := 0, slots := 0, locals := 75 }
theorem inX4_market_X4 : ∀ w ∈ wsX40, w ∈ wsX4_market := fun _ h => List.mem_cons_of_mem _ (List.mem_append_right _ h)
set_option maxHeartbeats 4000000 in
set_option maxRecDepth 100000 in
theorem mtX4_market (l : Launch) (D : va_G) (cI cZ cQ : ClassId) (oM : Nat) (aM : Nat → Nat) (M : Bk) (p0 : Int32) (out : Int32) (hf : fX4_market M p0 = some out) : Met l yX4_market wsX4_market rmX4_market (RoP D cI cZ cQ [.ref oM, .int p0] (wM cI oM aM M)) (vp_Si (fun r' => r' = out)) 0 0 (fun _ => False) := by
  refine metRi (ty := .int) (cc := cX4_market) (maxL := 7) (by decide) rfl (Nat.le_of_ble_eq_true rfl) ?_
  intro p e s m args below meth c Q CF hK hP hRet ls hl
  obtain ⟨hx, hb, hml, hown, hts⟩ := id CF
  have hl : lv_has ls 7 [(0, .ref oM), (1, .int p0)] := hl
  unfold fX4_market at hf
  refine lv_iload_n (pc := 0) hx hb dX4_market_0 rfl (lv_at hl 1 rfl) ?_
  refine lv_iconst (pc := 1) (v := 0) hx hb dX4_market_1 (by decide) ?_
  refine lv_iconst (pc := 2) (v := 1) hx hb dX4_market_2 (by decide) ?_
  obtain ⟨v1, h2, hf⟩ := bd hf
  refine roSi (pc := 3) (As := [.int p0, .int 0, .int 1]) (rest := []) CF (mtX4_within l D cI cZ cQ p0 0 1 v1 h2) (va_cwS 3 hts gX4_market_X4_within rfl rfl rfl hdX4_within ⟨Nat.le_of_ble_eq_true rfl, Nat.le_of_ble_eq_true rfl⟩) hK P0 rfl hl.1 rfl (Nat.le_of_ble_eq_true rfl) dX4_market_3 ?_
  refine lv_if_ne (pc := 6) (tgt := 12) hx hb dX4_market_6 (by decide) (fun c3 => ?_) (fun c3 => ?_)
  · have hf := iF c3 hf
    refine lv_aload_n (pc := 12) hx hb dX4_market_12 rfl (lv_at hl 0 rfl) ?_
    refine va_get (pc := 13) (D := D) (ci := 4) (v := .int (M 5 0)) (C := RX4) (T := TX4) (N := 29) hx hb hts inX4_market_X4 hown hK.1 hP 0 rfl rfl 5 (by decide) (hts (.fieldLink RX4 68 "HedgeHolesModel" "fields" "I") (by decide +kernel)) (fun _ h9 => h9) rfl dX4_market_13 ?_
    refine lv_if_ne (pc := 16) (tgt := 22) hx hb dX4_market_16 (by decide) (fun c4 => ?_) (fun c4 => ?_)
    · have hf := iF c4 hf
      refine lv_iconst (pc := 22) (v := 0) hx hb dX4_market_22 (by decide) ?_
      refine lv_istore_n (pc := 23) (lv' := [(2, .int 0), (0, .ref oM), (1, .int p0)]) hx hb dX4_market_23 rfl hl (by decide) rfl (fun ls hl => ?_)
      refine lv_iconst (pc := 24) (v := 0) hx hb dX4_market_24 (by decide) ?_
      refine lv_istore_n (pc := 25) (lv' := [(3, .int 0), (2, .int 0), (0, .ref oM), (1, .int p0)]) hx hb dX4_market_25 rfl hl (by decide) rfl (fun ls hl => ?_)
      refine lv_iconst (pc := 26) (v := 0) hx hb dX4_market_26 (by decide) ?_
      refine lv_istore (pc := 27) (lv' := [(4, .int 0), (3, .int 0), (2, .int 0), (0, .ref oM), (1, .int p0)]) hx hb dX4_market_27 hl (by decide) rfl (fun ls hl => ?_)
      refine zl3 (G := FX4_market_29 M) (fun x2_5 x3_6 x4_7 => ∀ (ls : Array Slot), lv_has ls 7 [(0, .ref oM), (1, .int p0), (2, .int x2_5), (3, .int x3_6), (4, .int x4_7)] → W p l e rmX4_market s m args below meth c s.heap [] 0 0 Q (F0 m 29 ls [])) (fun x2_8 x3_9 x4_10 => ∀ (ls : Array Slot), lv_has ls 7 [(0, .ref oM), (1, .int p0), (2, .int x2_8), (3, .int x3_9), (4, .int x4_10)] → W p l e rmX4_market s m args below meth c s.heap [] 0 0 Q (F0 m 115 ls [])) hf (fun x2_8 x3_9 x4_10 hf => ?_) (fun kx slf hkx hslf x2_5 x3_6 x4_7 hf => ?_) ls (lv_sub hl [3, 4, 2, 1, 0] rfl)
      · intro ls hl
        refine lv_iload_n (pc := 115) hx hb dX4_market_115 rfl (lv_at hl 1 rfl) ?_
        refine lv_if_ne (pc := 116) (tgt := 123) hx hb dX4_market_116 (by decide) (fun c32 => ?_) (fun c32 => ?_)
        · have hf := iF c32 hf
          refine lv_iload_n (pc := 123) hx hb dX4_market_123 rfl (lv_at hl 3 rfl) ?_
          obtain rfl := Option.some.inj hf
          exact hRet 124 ls (vp_nar_int _) dX4_market_124
        · have hf := iT c32 hf
          refine lv_iload_n (pc := 119) hx hb dX4_market_119 rfl (lv_at hl 2 rfl) ?_
          refine lv_goto (pc := 120) (tgt := 124) hx hb dX4_market_120 (by decide) ?_
          obtain rfl := Option.some.inj hf
          exact hRet 124 ls (vp_nar_int _) dX4_market_124
      · unfold FX4_market_29 at hf
        intro ls hl
        refine lv_iload (pc := 29) hx hb dX4_market_29 (lv_at hl 4 rfl) ?_
        refine lv_aload_n (pc := 31) hx hb dX4_market_31 rfl (lv_at hl 0 rfl) ?_
        refine va_get (pc := 32) (D := D) (ci := 4) (v := .int (M 5 0)) (C := RX4) (T := TX4) (N := 29) hx hb hts inX4_market_X4 hown hK.1 hP 0 rfl rfl 5 (by decide) (hts (.fieldLink RX4 68 "HedgeHolesModel" "fields" "I") (by decide +kernel)) (fun _ h9 => h9) rfl dX4_market_32 ?_
        refine lv_icmp_ge (pc := 35) (tgt := 115) hx hb dX4_market_35 (by decide) (fun c11 => ?_) (fun c11 => ?_)
        · have hf := iT c11 hf
          exact hkx _ _ _ hf ls (lv_sub hl [0, 1, 2, 3, 4] rfl)
        · have hf := iF c11 hf
          refine lv_iconst (pc := 38) (v := 0) hx hb dX4_market_38 (by decide) ?_
          refine lv_istore (pc := 39) (lv' := [(5, .int 0), (0, .ref oM), (1, .int p0), (2, .int x2_5), (3, .int x3_6), (4, .int x4_7)]) hx hb dX4_market_39 hl (by decide) rfl (fun ls hl => ?_)
          refine lv_iconst (pc := 41) (v := 0) hx hb dX4_market_41 (by decide) ?_
          refine lv_istore (pc := 42) (lv' := [(6, .int 0), (5, .int 0), (0, .ref oM), (1, .int p0), (2, .int x2_5), (3, .int x3_6), (4, .int x4_7)]) hx hb dX4_market_42 hl (by decide) rfl (fun ls hl => ?_)
          refine zl2 (G := FX4_market_44 M x4_7) (fun x5_12 x6_13 => ∀ (ls : Array Slot), lv_has ls 7 [(0, .ref oM), (1, .int p0), (2, .int x2_5), (3, .int x3_6), (4, .int x4_7), (5, .int x5_12), (6, .int x6_13)] → W p l e rmX4_market s m args below meth c s.heap [] 0 0 Q (F0 m 44 ls [])) (fun x5_14 x6_15 => ∀ (ls : Array Slot), lv_has ls 7 [(0, .ref oM), (1, .int p0), (2, .int x2_5), (3, .int x3_6), (4, .int x4_7), (5, .int x5_14), (6, .int x6_15)] → W p l e rmX4_market s m args below meth c s.heap [] 0 0 Q (F0 m 86 ls [])) hf (fun x5_14 x6_15 hf => ?_) (fun kx slf hkx hslf x5_12 x6_13 hf => ?_) ls (lv_sub hl [2, 3, 4, 5, 6, 1, 0] rfl)
          · intro ls hl
            refine lv_iload (pc := 86) hx hb dX4_market_86 (lv_at hl 4 rfl) ?_
            obtain ⟨v24, hv, hf⟩ := bd hf
            have J25 : ∀ (ls : Array Slot), lv_has ls 7 [(0, .ref oM), (1, .int p0), (2, .int v24.1), (3, .int v24.2), (4, .int x4_7), (5, .int x5_14), (6, .int x6_15)] → W p l e rmX4_market s m args below meth c s.heap [] 0 0 Q (F0 m 109 ls []) := by
              intro ls hl
              refine lv_iinc (pc := 109) (v := (x4_7 + 1)) (lv' := [(4, .int (x4_7 + 1)), (0, .ref oM), (1, .int p0), (2, .int v24.1), (3, .int v24.2), (5, .int x5_14), (6, .int x6_15)]) hx hb dX4_market_109 hl (k := 4) rfl rfl (by decide) rfl (fun ls hl => ?_)
              refine lv_goto (pc := 112) (tgt := 29) hx hb dX4_market_112 (by decide) ?_
              exact hslf _ _ _ hf ls (lv_sub hl [1, 2, 3, 4, 0] rfl)
            clear hf
            have hf := hv
            clear hv
            refine lv_if_eq (pc := 88) (tgt := 103) hx hb dX4_market_88 (by decide) (fun c26 => ?_) (fun c26 => ?_)
            · have hf := iT c26 hf
              refine lv_iload (pc := 103) hx hb dX4_market_103 (lv_at hl 4 rfl) ?_
              refine lv_istore_n (pc := 105) (lv' := [(2, .int x4_7), (0, .ref oM), (1, .int p0), (3, .int x3_6), (4, .int x4_7), (5, .int x5_14), (6, .int x6_15)]) hx hb dX4_market_105 rfl hl (by decide) rfl (fun ls hl => ?_)
              refine lv_iload (pc := 106) hx hb dX4_market_106 (lv_at hl 5 rfl) ?_
              refine lv_istore_n (pc := 108) (lv' := [(3, .int x5_14), (2, .int x4_7), (0, .ref oM), (1, .int p0), (4, .int x4_7), (5, .int x5_14), (6, .int x6_15)]) hx hb dX4_market_108 rfl hl (by decide) rfl (fun ls hl => ?_)
              obtain rfl := Option.some.inj hf
              exact J25 ls (lv_sub hl [2, 3, 1, 0, 4, 5, 6] rfl)
            · have hf := iF c26 hf
              refine lv_iload (pc := 91) hx hb dX4_market_91 (lv_at hl 5 rfl) ?_
              obtain ⟨v27, h28, hf⟩ := bd hf
              refine roSi (pc := 93) (As := [.int x5_14]) (rest := []) CF (mtX4_size l D cI cZ cQ x5_14 v27 h28) (va_cwS 1 hts gX4_market_X4_size rfl rfl rfl hdX4_size ⟨Nat.le_of_ble_eq_true rfl, Nat.le_of_ble_eq_true rfl⟩) hK P0 rfl hl.1 rfl (Nat.le_of_ble_eq_true rfl) dX4_market_93 ?_
              refine lv_iload_n (pc := 96) hx hb dX4_market_96 rfl (lv_at hl 3 rfl) ?_
              obtain ⟨v29, h30, hf⟩ := bd hf
              refine roSi (pc := 97) (As := [.int x3_6]) (rest := [.int v27]) CF (mtX4_size l D cI cZ cQ x3_6 v29 h30) (va_cwS 1 hts gX4_market_X4_size rfl rfl rfl hdX4_size ⟨Nat.le_of_ble_eq_true rfl, Nat.le_of_ble_eq_true rfl⟩) hK P0 rfl hl.1 rfl (Nat.le_of_ble_eq_true rfl) dX4_market_97 ?_
              refine lv_icmp_le (pc := 100) (tgt := 109) hx hb dX4_market_100 (by decide) (fun c31 => ?_) (fun c31 => ?_)
              · have hf := iT c31 hf
                obtain rfl := Option.some.inj hf
                exact J25 ls (lv_sub hl [0, 1, 2, 3, 4, 5, 6] rfl)
              · have hf := iF c31 hf
                refine lv_iload (pc := 103) hx hb dX4_market_103 (lv_at hl 4 rfl) ?_
                refine lv_istore_n (pc := 105) (lv' := [(2, .int x4_7), (0, .ref oM), (1, .int p0), (3, .int x3_6), (4, .int x4_7), (5, .int x5_14), (6, .int x6_15)]) hx hb dX4_market_105 rfl hl (by decide) rfl (fun ls hl => ?_)
                refine lv_iload (pc := 106) hx hb dX4_market_106 (lv_at hl 5 rfl) ?_
                refine lv_istore_n (pc := 108) (lv' := [(3, .int x5_14), (2, .int x4_7), (0, .ref oM), (1, .int p0), (4, .int x4_7), (5, .int x5_14), (6, .int x6_15)]) hx hb dX4_market_108 rfl hl (by decide) rfl (fun ls hl => ?_)
                obtain rfl := Option.some.inj hf
                exact J25 ls (lv_sub hl [2, 3, 1, 0, 4, 5, 6] rfl)
          · unfold FX4_market_44 at hf
            intro ls hl
            refine lv_iload (pc := 44) hx hb dX4_market_44 (lv_at hl 6 rfl) ?_
            refine lv_aload_n (pc := 46) hx hb dX4_market_46 rfl (lv_at hl 0 rfl) ?_
            refine va_get (pc := 47) (D := D) (ci := 4) (v := .int (M 6 0)) (C := RX4) (T := TX4) (N := 29) hx hb hts inX4_market_X4 hown hK.1 hP 0 rfl rfl 6 (by decide) (hts (.fieldLink RX4 75 "HedgeHolesModel" "goers" "I") (by decide +kernel)) (fun _ h9 => h9) rfl dX4_market_47 ?_
            refine lv_icmp_ge (pc := 50) (tgt := 86) hx hb dX4_market_50 (by decide) (fun c16 => ?_) (fun c16 => ?_)
            · have hf := iT c16 hf
              exact hkx _ _ hf ls (lv_sub hl [0, 1, 2, 3, 4, 5, 6] rfl)
            · have hf := iF c16 hf
              refine lv_iload (pc := 53) hx hb dX4_market_53 (lv_at hl 5 rfl) ?_
              refine lv_aload_n (pc := 55) hx hb dX4_market_55 rfl (lv_at hl 0 rfl) ?_
              refine lv_iload (pc := 56) hx hb dX4_market_56 (lv_at hl 6 rfl) ?_
              obtain ⟨v17, h18, hf⟩ := bd hf
              refine roVi (pc := 58) (As := [.int x6_13]) (rest := [.int x5_12]) CF (mtX4_reachedBy l D cI cZ cQ oM aM M x6_13 v17 h18) (cwV 1 hts gX4_market_X4_reachedBy rfl rfl rfl ⟨rfl, hdX4_reachedBy⟩ ⟨Nat.le_of_ble_eq_true rfl, Nat.le_of_ble_eq_true rfl⟩) hK hP rfl rfl rfl rfl hl.1 rfl (Nat.le_of_ble_eq_true rfl) dX4_market_58 ?_
              refine lv_iload (pc := 61) hx hb dX4_market_61 (lv_at hl 4 rfl) ?_
              obtain ⟨v19, h20, hf⟩ := bd hf
              refine roSi (pc := 63) (As := [.int v17, .int x4_7]) (rest := [.int x5_12]) CF (mtX4_isOf l D cI cZ cQ v17 x4_7 v19 h20) (va_cwS 2 hts gX4_market_X4_isOf rfl rfl rfl hdX4_isOf ⟨Nat.le_of_ble_eq_true rfl, Nat.le_of_ble_eq_true rfl⟩) hK P0 rfl hl.1 rfl (Nat.le_of_ble_eq_true rfl) dX4_market_63 ?_
              obtain ⟨v21, hv, hf⟩ := bd hf
              have J22 : ∀ (ls : Array Slot), lv_has ls 7 [(0, .ref oM), (1, .int p0), (2, .int x2_5), (3, .int x3_6), (4, .int x4_7), (5, .int x5_12), (6, .int x6_13)] → W p l e rmX4_market s m args below meth c s.heap [] 0 0 Q (F0 m 77 ls [.int v21, .int x5_12]) := by
                intro ls hl
                refine lv_ior (pc := 77) hx hb dX4_market_77 ?_
                refine lv_istore (pc := 78) (lv' := [(5, .int (x5_12 ||| v21)), (0, .ref oM), (1, .int p0), (2, .int x2_5), (3, .int x3_6), (4, .int x4_7), (6, .int x6_13)]) hx hb dX4_market_78 hl (by decide) rfl (fun ls hl => ?_)
                refine lv_iinc (pc := 80) (v := (x6_13 + 1)) (lv' := [(6, .int (x6_13 + 1)), (5, .int (x5_12 ||| v21)), (0, .ref oM), (1, .int p0), (2, .int x2_5), (3, .int x3_6), (4, .int x4_7)]) hx hb dX4_market_80 hl (k := 6) rfl rfl (by decide) rfl (fun ls hl => ?_)
                refine lv_goto (pc := 83) (tgt := 44) hx hb dX4_market_83 (by decide) ?_
                exact hslf _ _ hf ls (lv_sub hl [2, 3, 4, 5, 6, 1, 0] rfl)
              clear hf
              have hf := hv
              clear hv
              refine lv_if_eq (pc := 66) (tgt := 76) hx hb dX4_market_66 (by decide) (fun c23 => ?_) (fun c23 => ?_)
              · have hf := iT c23 hf
                refine lv_iconst (pc := 76) (v := 0) hx hb dX4_market_76 (by decide) ?_
                obtain rfl := Option.some.inj hf
                exact J22 ls (lv_sub hl [0, 1, 2, 3, 4, 5, 6] rfl)
              · have hf := iF c23 hf
                refine lv_iconst (pc := 69) (v := 1) hx hb dX4_market_69 (by decide) ?_
                refine lv_iload (pc := 70) hx hb dX4_market_70 (lv_at hl 6 rfl) ?_
                refine lv_ishl (pc := 72) hx hb dX4_market_72 ?_
                refine lv_goto (pc := 73) (tgt := 77) hx hb dX4_market_73 (by decide) ?_
                obtain rfl := Option.some.inj hf
                exact J22 ls (lv_sub hl [0, 1, 2, 3, 4, 5, 6] rfl)
    · have hf := iT c4 hf
      refine lv_bipush (pc := 19) (v := (-3)) hx hb dX4_market_19 (by decide) ?_
      obtain rfl := Option.some.inj hf
      exact hRet 21 ls (vp_nar_int _) dX4_market_21
  · have hf := iT c3 hf
    refine lv_bipush (pc := 9) (v := (-2)) hx hb dX4_market_9 (by decide) ?_
    obtain rfl := Option.some.inj hf
    exact hRet 11 ls (vp_nar_int _) dX4_market_11
theorem hdX4_market : yX4_market.cls ≠ "java/lang/invoke/MethodHandle" ∧ yX4_market.cls ≠ "java/lang/invoke/VarHandle" ∧ (parseMethodDescriptor yX4_market.desc).map (fun d => d.parameters.length) = some 1 := by decide +kernel
abbrev rmX4_widen : Room := { frames := 2, cells := 0, slots := 0, locals := 43 }
theorem inX4_widen_X4 : ∀ w ∈ wsX40, w ∈ wsX4_widen := fun _ h => List.mem_cons_of_mem _ (List.mem_append_right _ h)
set_option maxHeartbeats 4000000 in
set_option maxRecDepth 100000 in
theorem mtX4_widen (l : Launch) (D : va_G) (cI cZ cQ : ClassId) (oM : Nat) (aM : Nat → Nat) (M : Bk) (p0 : Int32) (p1 : Int32) (sz : Nat) (out : (Int32 × Bk)) (hf : fX4_widen M p0 p1 = some out) : Met l yX4_widen wsX4_widen rmX4_widen (WrP D cI cZ cQ [.ref oM, .int p0, .int p1] (wM cI oM aM M) sz) (WrQi D out.1 (wM cI oM aM M) (wM cI oM aM out.2) sz) 0 0 (va_A (wM cI oM aM M) sz) := by
  refine metWi (ty := .int) (cc := cX4_widen) (maxL := 7) (by decide) rfl (Nat.le_of_ble_eq_true rfl) ?_
  intro p e s m args below meth c Q A CF hK hP hD hA hRet ls hl
  obtain ⟨hx, hb, hml, hown, hts⟩ := id CF
  have hS : va_S A s.heap s.heap [] := va_S.rf
  have hl : lv_has ls 7 [(0, .ref oM), (1, .int p0), (2, .int p1)] := hl
  unfold fX4_widen at hf
  refine lv_aload_n (pc := 0) hx hb dX4_widen_0 rfl (lv_at hl 0 rfl) ?_
  refine lv_iload_n (pc := 1) hx hb dX4_widen_1 rfl (lv_at hl 1 rfl) ?_
  obtain ⟨v1, h2, hf⟩ := bd hf
  refine roVi (pc := 2) (As := [.int p0]) (rest := []) CF (mtX4_isGoer l D cI cZ cQ oM aM M p0 v1 h2) (cwV 1 hts gX4_widen_X4_isGoer rfl rfl rfl ⟨rfl, hdX4_isGoer⟩ ⟨Nat.le_of_ble_eq_true rfl, Nat.le_of_ble_eq_true rfl⟩) hK hP rfl rfl rfl rfl hl.1 rfl (Nat.le_of_ble_eq_true rfl) dX4_widen_2 ?_
  refine lv_if_eq (pc := 5) (tgt := 16) hx hb dX4_widen_5 (by decide) (fun c3 => ?_) (fun c3 => ?_)
  · have hf := iT c3 hf
    refine lv_iconst (pc := 16) (v := (-1)) hx hb dX4_widen_16 (by decide) ?_
    obtain rfl := Option.some.inj hf
    exact hRet 17 ls s.heap [] (vp_nar_int _) dX4_widen_17 hP hS
  · have hf := iF c3 hf
    refine lv_aload_n (pc := 8) hx hb dX4_widen_8 rfl (lv_at hl 0 rfl) ?_
    refine lv_iload_n (pc := 9) hx hb dX4_widen_9 rfl (lv_at hl 2 rfl) ?_
    obtain ⟨v4, h5, hf⟩ := bd hf
    refine roVi (pc := 10) (As := [.int p1]) (rest := []) CF (mtX4_isField l D cI cZ cQ oM aM M p1 v4 h5) (cwV 1 hts gX4_widen_X4_isField rfl rfl rfl ⟨rfl, hdX4_isField⟩ ⟨Nat.le_of_ble_eq_true rfl, Nat.le_of_ble_eq_true rfl⟩) hK hP rfl rfl rfl rfl hl.1 rfl (Nat.le_of_ble_eq_true rfl) dX4_widen_10 ?_
    refine lv_if_ne (pc := 13) (tgt := 18) hx hb dX4_widen_13 (by decide) (fun c6 => ?_) (fun c6 => ?_)
    · have hf := iF c6 hf
      refine lv_iconst (pc := 18) (v := 0) hx hb dX4_widen_18 (by decide) ?_
      refine lv_istore_n (pc := 19) (lv' := [(3, .int 0), (0, .ref oM), (1, .int p0), (2, .int p1)]) hx hb dX4_widen_19 rfl hl (by decide) rfl (fun ls hl => ?_)
      refine zl2 (G := FX4_widen_20 p0) (fun x3_7 M_8 => ∀ (ls : Array Slot) (H : Heap) (locs : List Loc), lv_has ls 7 [(0, .ref oM), (1, .int p0), (2, .int p1), (3, .int x3_7)] → va_P D vwCl (wM cI oM aM M_8) H → va_D A (wM cI oM aM M_8) → va_S A s.heap H locs → W p l e rmX4_widen s m args below meth c H locs 0 0 Q (F0 m 20 ls [])) (fun x3_9 M_10 => ∀ (ls : Array Slot) (H : Heap) (locs : List Loc), lv_has ls 7 [(0, .ref oM), (1, .int p0), (2, .int p1), (3, .int x3_9)] → va_P D vwCl (wM cI oM aM M_10) H → va_D A (wM cI oM aM M_10) → va_S A s.heap H locs → W p l e rmX4_widen s m args below meth c H locs 0 0 Q (F0 m 56 ls [])) hf (fun x3_9 M_10 hf => ?_) (fun kx slf hkx hslf x3_7 M_8 hf => ?_) ls s.heap [] (lv_sub hl [1, 2, 3, 0] rfl) hP hD hS
      · intro ls H locs hl hP hD hS
        refine lv_iconst (pc := 56) (v := 0) hx hb dX4_widen_56 (by decide) ?_
        refine lv_istore_n (pc := 57) (lv' := [(3, .int 0), (0, .ref oM), (1, .int p0), (2, .int p1)]) hx hb dX4_widen_57 rfl hl (by decide) rfl (fun ls hl => ?_)
        refine zl2 (G := FX4_widen_58 p0) (fun x3_19 M_20 => ∀ (ls : Array Slot) (H : Heap) (locs : List Loc), lv_has ls 7 [(0, .ref oM), (1, .int p0), (2, .int p1), (3, .int x3_19)] → va_P D vwCl (wM cI oM aM M_20) H → va_D A (wM cI oM aM M_20) → va_S A s.heap H locs → W p l e rmX4_widen s m args below meth c H locs 0 0 Q (F0 m 58 ls [])) (fun x3_21 M_22 => ∀ (ls : Array Slot) (H : Heap) (locs : List Loc), lv_has ls 7 [(0, .ref oM), (1, .int p0), (2, .int p1), (3, .int x3_21)] → va_P D vwCl (wM cI oM aM M_22) H → va_D A (wM cI oM aM M_22) → va_S A s.heap H locs → W p l e rmX4_widen s m args below meth c H locs 0 0 Q (F0 m 217 ls [])) hf (fun x3_21 M_22 hf => ?_) (fun kx slf hkx hslf x3_19 M_20 hf => ?_) ls H locs (lv_sub hl [1, 2, 3, 0] rfl) hP hD hS
        · intro ls H locs hl hP hD hS
          refine lv_aload_n (pc := 217) hx hb dX4_widen_217 rfl (lv_at hl 0 rfl) ?_
          refine va_get (pc := 218) (D := D) (ci := 4) (v := .ref (aM 24)) (C := RX4) (T := TX4) (N := 29) hx hb hts inX4_widen_X4 hown hK.1 hP 0 rfl rfl 24 (by decide) (hts (.fieldLink RX4 46 "HedgeHolesModel" "cost" "[I") (by decide +kernel)) (fun _ h9 => h9) rfl dX4_widen_218 ?_
          refine lv_iload_n (pc := 221) hx hb dX4_widen_221 rfl (lv_at hl 2 rfl) ?_
          obtain ⟨h57, hf⟩ := gI_e hf
          refine va_iald (pc := 222) (f := M_22 24) (n := 5) hx hb hK.1 hP 13 0 rfl rfl h57 dX4_widen_222 ?_
          obtain rfl := Option.some.inj hf
          exact hRet 223 ls H locs (vp_nar_int _) dX4_widen_223 hP hS
        · unfold FX4_widen_58 at hf
          intro ls H locs hl hP hD hS
          refine lv_iload_n (pc := 58) hx hb dX4_widen_58 rfl (lv_at hl 3 rfl) ?_
          refine lv_aload_n (pc := 59) hx hb dX4_widen_59 rfl (lv_at hl 0 rfl) ?_
          refine va_get (pc := 60) (D := D) (ci := 4) (v := .int (M_20 5 0)) (C := RX4) (T := TX4) (N := 29) hx hb hts inX4_widen_X4 hown hK.1 hP 0 rfl rfl 5 (by decide) (hts (.fieldLink RX4 68 "HedgeHolesModel" "fields" "I") (by decide +kernel)) (fun _ h9 => h9) rfl dX4_widen_60 ?_
          refine lv_icmp_ge (pc := 63) (tgt := 217) hx hb dX4_widen_63 (by decide) (fun c23 => ?_) (fun c23 => ?_)
          · have hf := iT c23 hf
            exact hkx _ _ hf ls H locs (lv_sub hl [0, 1, 2, 3] rfl) hP hD hS
          · have hf := iF c23 hf
            refine lv_iconst (pc := 66) (v := 0) hx hb dX4_widen_66 (by decide) ?_
            refine lv_istore (pc := 67) (lv' := [(4, .int 0), (0, .ref oM), (1, .int p0), (2, .int p1), (3, .int x3_19)]) hx hb dX4_widen_67 hl (by decide) rfl (fun ls hl => ?_)
            refine zl2 (G := FX4_widen_69 p0) (fun x4_24 M_25 => ∀ (ls : Array Slot) (H : Heap) (locs : List Loc), lv_has ls 7 [(0, .ref oM), (1, .int p0), (2, .int p1), (3, .int x3_19), (4, .int x4_24)] → va_P D vwCl (wM cI oM aM M_25) H → va_D A (wM cI oM aM M_25) → va_S A s.heap H locs → W p l e rmX4_widen s m args below meth c H locs 0 0 Q (F0 m 69 ls [])) (fun x4_26 M_27 => ∀ (ls : Array Slot) (H : Heap) (locs : List Loc), lv_has ls 7 [(0, .ref oM), (1, .int p0), (2, .int p1), (3, .int x3_19), (4, .int x4_26)] → va_P D vwCl (wM cI oM aM M_27) H → va_D A (wM cI oM aM M_27) → va_S A s.heap H locs → W p l e rmX4_widen s m args below meth c H locs 0 0 Q (F0 m 211 ls [])) hf (fun x4_26 M_27 hf => ?_) (fun kx slf hkx hslf x4_24 M_25 hf => ?_) ls H locs (lv_sub hl [1, 2, 3, 4, 0] rfl) hP hD hS
            · intro ls H locs hl hP hD hS
              refine lv_iinc (pc := 211) (v := (x3_19 + 1)) (lv' := [(3, .int (x3_19 + 1)), (0, .ref oM), (1, .int p0), (2, .int p1), (4, .int x4_26)]) hx hb dX4_widen_211 hl (k := 3) rfl rfl (by decide) rfl (fun ls hl => ?_)
              refine lv_goto (pc := 214) (tgt := 58) hx hb dX4_widen_214 (by decide) ?_
              exact hslf _ _ hf ls H locs (lv_sub hl [1, 2, 3, 0] rfl) hP hD hS
            · unfold FX4_widen_69 at hf
              intro ls H locs hl hP hD hS
              refine lv_iload (pc := 69) hx hb dX4_widen_69 (lv_at hl 4 rfl) ?_
              refine lv_aload_n (pc := 71) hx hb dX4_widen_71 rfl (lv_at hl 0 rfl) ?_
              refine va_get (pc := 72) (D := D) (ci := 4) (v := .int (M_25 5 0)) (C := RX4) (T := TX4) (N := 29) hx hb hts inX4_widen_X4 hown hK.1 hP 0 rfl rfl 5 (by decide) (hts (.fieldLink RX4 68 "HedgeHolesModel" "fields" "I") (by decide +kernel)) (fun _ h9 => h9) rfl dX4_widen_72 ?_
              refine lv_icmp_ge (pc := 75) (tgt := 211) hx hb dX4_widen_75 (by decide) (fun c28 => ?_) (fun c28 => ?_)
              · have hf := iT c28 hf
                exact hkx _ _ hf ls H locs (lv_sub hl [0, 1, 2, 3, 4] rfl) hP hD hS
              · have hf := iF c28 hf
                refine lv_iconst (pc := 78) (v := 0) hx hb dX4_widen_78 (by decide) ?_
                refine lv_istore (pc := 79) (lv' := [(5, .int 0), (0, .ref oM), (1, .int p0), (2, .int p1), (3, .int x3_19), (4, .int x4_24)]) hx hb dX4_widen_79 hl (by decide) rfl (fun ls hl => ?_)
                refine zl2 (G := FX4_widen_81 p0 x4_24) (fun x5_29 M_30 => ∀ (ls : Array Slot) (H : Heap) (locs : List Loc), lv_has ls 7 [(0, .ref oM), (1, .int p0), (2, .int p1), (3, .int x3_19), (4, .int x4_24), (5, .int x5_29)] → va_P D vwCl (wM cI oM aM M_30) H → va_D A (wM cI oM aM M_30) → va_S A s.heap H locs → W p l e rmX4_widen s m args below meth c H locs 0 0 Q (F0 m 81 ls [])) (fun x5_31 M_32 => ∀ (ls : Array Slot) (H : Heap) (locs : List Loc), lv_has ls 7 [(0, .ref oM), (1, .int p0), (2, .int p1), (3, .int x3_19), (4, .int x4_24), (5, .int x5_31)] → va_P D vwCl (wM cI oM aM M_32) H → va_D A (wM cI oM aM M_32) → va_S A s.heap H locs → W p l e rmX4_widen s m args below meth c H locs 0 0 Q (F0 m 205 ls [])) hf (fun x5_31 M_32 hf => ?_) (fun kx slf hkx hslf x5_29 M_30 hf => ?_) ls H locs (lv_sub hl [1, 2, 3, 4, 5, 0] rfl) hP hD hS
                · intro ls H locs hl hP hD hS
                  refine lv_iinc (pc := 205) (v := (x4_24 + 1)) (lv' := [(4, .int (x4_24 + 1)), (0, .ref oM), (1, .int p0), (2, .int p1), (3, .int x3_19), (5, .int x5_31)]) hx hb dX4_widen_205 hl (k := 4) rfl rfl (by decide) rfl (fun ls hl => ?_)
                  refine lv_goto (pc := 208) (tgt := 69) hx hb dX4_widen_208 (by decide) ?_
                  exact hslf _ _ hf ls H locs (lv_sub hl [1, 2, 3, 4, 0] rfl) hP hD hS
                · unfold FX4_widen_81 at hf
                  intro ls H locs hl hP hD hS
                  refine lv_iload (pc := 81) hx hb dX4_widen_81 (lv_at hl 5 rfl) ?_
                  refine lv_aload_n (pc := 83) hx hb dX4_widen_83 rfl (lv_at hl 0 rfl) ?_
                  refine va_get (pc := 84) (D := D) (ci := 4) (v := .int (M_30 5 0)) (C := RX4) (T := TX4) (N := 29) hx hb hts inX4_widen_X4 hown hK.1 hP 0 rfl rfl 5 (by decide) (hts (.fieldLink RX4 68 "HedgeHolesModel" "fields" "I") (by decide +kernel)) (fun _ h9 => h9) rfl dX4_widen_84 ?_
                  refine lv_icmp_ge (pc := 87) (tgt := 205) hx hb dX4_widen_87 (by decide) (fun c33 => ?_) (fun c33 => ?_)
                  · have hf := iT c33 hf
                    exact hkx _ _ hf ls H locs (lv_sub hl [0, 1, 2, 3, 4, 5] rfl) hP hD hS
                  · have hf := iF c33 hf
                    refine lv_iload (pc := 90) hx hb dX4_widen_90 (lv_at hl 4 rfl) ?_
                    refine lv_iload (pc := 92) hx hb dX4_widen_92 (lv_at hl 5 rfl) ?_
                    obtain ⟨v34, hv, hf⟩ := bd hf
                    have J35 : ∀ (ls : Array Slot) (H : Heap) (locs : List Loc), lv_has ls 7 [(0, .ref oM), (1, .int p0), (2, .int p1), (3, .int x3_19), (4, .int x4_24), (5, .int x5_29)] → va_P D vwCl (wM cI oM aM v34) H → va_D A (wM cI oM aM v34) → va_S A s.heap H locs → W p l e rmX4_widen s m args below meth c H locs 0 0 Q (F0 m 199 ls []) := by
                      intro ls H locs hl hP hD hS
                      refine lv_iinc (pc := 199) (v := (x5_29 + 1)) (lv' := [(5, .int (x5_29 + 1)), (0, .ref oM), (1, .int p0), (2, .int p1), (3, .int x3_19), (4, .int x4_24)]) hx hb dX4_widen_199 hl (k := 5) rfl rfl (by decide) rfl (fun ls hl => ?_)
                      refine lv_goto (pc := 202) (tgt := 81) hx hb dX4_widen_202 (by decide) ?_
                      exact hslf _ _ hf ls H locs (lv_sub hl [1, 2, 3, 4, 5, 0] rfl) hP hD hS
                    clear hf
                    have hf := hv
                    clear hv
                    refine lv_icmp_eq (pc := 94) (tgt := 199) hx hb dX4_widen_94 (by decide) (fun c36 => ?_) (fun c36 => ?_)
                    · have hf := iT c36 hf
                      obtain rfl := Option.some.inj hf
                      exact J35 ls H locs (lv_sub hl [0, 1, 2, 3, 4, 5] rfl) hP hD hS
                    · have hf := iF c36 hf
                      refine lv_aload_n (pc := 97) hx hb dX4_widen_97 rfl (lv_at hl 0 rfl) ?_
                      refine va_get (pc := 98) (D := D) (ci := 4) (v := .ref (aM 24)) (C := RX4) (T := TX4) (N := 29) hx hb hts inX4_widen_X4 hown hK.1 hP 0 rfl rfl 24 (by decide) (hts (.fieldLink RX4 46 "HedgeHolesModel" "cost" "[I") (by decide +kernel)) (fun _ h9 => h9) rfl dX4_widen_98 ?_
                      refine lv_iload (pc := 101) hx hb dX4_widen_101 (lv_at hl 4 rfl) ?_
                      obtain ⟨h37, hf⟩ := gI_e hf
                      refine va_iald (pc := 103) (f := M_30 24) (n := 5) hx hb hK.1 hP 13 0 rfl rfl h37 dX4_widen_103 ?_
                      refine lv_bipush (pc := 104) (v := (-9)) hx hb dX4_widen_104 (by decide) ?_
                      refine lv_icmp_eq (pc := 106) (tgt := 199) hx hb dX4_widen_106 (by decide) (fun c38 => ?_) (fun c38 => ?_)
                      · have hf := iT c38 hf
                        obtain rfl := Option.some.inj hf
                        exact J35 ls H locs (lv_sub hl [0, 1, 2, 3, 4, 5] rfl) hP hD hS
                      · have hf := iF c38 hf
                        refine lv_aload_n (pc := 109) hx hb dX4_widen_109 rfl (lv_at hl 0 rfl) ?_
                        refine va_get (pc := 110) (D := D) (ci := 4) (v := .ref (aM 10)) (C := RX4) (T := TX4) (N := 29) hx hb hts inX4_widen_X4 hown hK.1 hP 0 rfl rfl 10 (by decide) (hts (.fieldLink RX4 19 "HedgeHolesModel" "greats" "[I") (by decide +kernel)) (fun _ h9 => h9) rfl dX4_widen_110 ?_
                        refine lv_aload_n (pc := 113) hx hb dX4_widen_113 rfl (lv_at hl 0 rfl) ?_
                        refine lv_iload (pc := 114) hx hb dX4_widen_114 (lv_at hl 4 rfl) ?_
                        refine lv_iload (pc := 116) hx hb dX4_widen_116 (lv_at hl 5 rfl) ?_
                        obtain ⟨v39, h40, hf⟩ := bd hf
                        refine roVi (pc := 118) (As := [.int x4_24, .int x5_29]) (rest := [.ref (aM 10)]) CF (mtX4_hedge l D cI cZ cQ oM aM M_30 x4_24 x5_29 v39 h40) (cwV 2 hts gX4_widen_X4_hedge rfl rfl rfl ⟨rfl, hdX4_hedge⟩ ⟨Nat.le_of_ble_eq_true rfl, Nat.le_of_ble_eq_true rfl⟩) hK hP rfl rfl rfl rfl hl.1 rfl (Nat.le_of_ble_eq_true rfl) dX4_widen_118 ?_
                        obtain ⟨h41, hf⟩ := gI_e hf
                        refine va_iald (pc := 121) (f := M_30 10) (n := 10) hx hb hK.1 hP 4 0 rfl rfl h41 dX4_widen_121 ?_
                        refine lv_if_le (pc := 122) (tgt := 199) hx hb dX4_widen_122 (by decide) (fun c42 => ?_) (fun c42 => ?_)
                        · have hf := iT c42 hf
                          obtain rfl := Option.some.inj hf
                          exact J35 ls H locs (lv_sub hl [0, 1, 2, 3, 4, 5] rfl) hP hD hS
                        · have hf := iF c42 hf
                          refine lv_aload_n (pc := 125) hx hb dX4_widen_125 rfl (lv_at hl 0 rfl) ?_
                          refine va_get (pc := 126) (D := D) (ci := 4) (v := .ref (aM 24)) (C := RX4) (T := TX4) (N := 29) hx hb hts inX4_widen_X4 hown hK.1 hP 0 rfl rfl 24 (by decide) (hts (.fieldLink RX4 46 "HedgeHolesModel" "cost" "[I") (by decide +kernel)) (fun _ h9 => h9) rfl dX4_widen_126 ?_
                          refine lv_iload (pc := 129) hx hb dX4_widen_129 (lv_at hl 4 rfl) ?_
                          refine va_iald (pc := 131) (f := M_30 24) (n := 5) hx hb hK.1 hP 13 0 rfl rfl h37 dX4_widen_131 ?_
                          refine lv_aload_n (pc := 132) hx hb dX4_widen_132 rfl (lv_at hl 0 rfl) ?_
                          refine lv_iload_n (pc := 133) hx hb dX4_widen_133 rfl (lv_at hl 1 rfl) ?_
                          refine lv_aload_n (pc := 134) hx hb dX4_widen_134 rfl (lv_at hl 0 rfl) ?_
                          refine lv_iload (pc := 135) hx hb dX4_widen_135 (lv_at hl 4 rfl) ?_
                          refine lv_iload (pc := 137) hx hb dX4_widen_137 (lv_at hl 5 rfl) ?_
                          obtain ⟨v43, h44, hf⟩ := bd hf
                          refine roVi (pc := 139) (As := [.int x4_24, .int x5_29]) (rest := [.int p0, .ref oM, .int (M_30 24 x4_24.toNatClampNeg)]) CF (mtX4_hedge l D cI cZ cQ oM aM M_30 x4_24 x5_29 v43 h44) (cwV 2 hts gX4_widen_X4_hedge rfl rfl rfl ⟨rfl, hdX4_hedge⟩ ⟨Nat.le_of_ble_eq_true rfl, Nat.le_of_ble_eq_true rfl⟩) hK hP rfl rfl rfl rfl hl.1 rfl (Nat.le_of_ble_eq_true rfl) dX4_widen_139 ?_
                          obtain ⟨v45, h46, hf⟩ := bd hf
                          refine roVi (pc := 142) (As := [.int p0, .int v43]) (rest := [.int (M_30 24 x4_24.toNatClampNeg)]) CF (mtX4_fitsHole l D cI cZ cQ oM aM M_30 p0 v43 v45 h46) (cwV 2 hts gX4_widen_X4_fitsHole rfl rfl rfl ⟨rfl, hdX4_fitsHole⟩ ⟨Nat.le_of_ble_eq_true rfl, Nat.le_of_ble_eq_true rfl⟩) hK hP rfl rfl rfl rfl hl.1 rfl (Nat.le_of_ble_eq_true rfl) dX4_widen_142 ?_
                          obtain ⟨v47, hv, hf⟩ := bd hf
                          have J48 : ∀ (ls : Array Slot), lv_has ls 7 [(0, .ref oM), (1, .int p0), (2, .int p1), (3, .int x3_19), (4, .int x4_24), (5, .int x5_29)] → W p l e rmX4_widen s m args below meth c H locs 0 0 Q (F0 m 153 ls [.int v47, .int (M_30 24 x4_24.toNatClampNeg)]) := by
                            intro ls hl
                            refine lv_iadd (pc := 153) hx hb dX4_widen_153 ?_
                            refine lv_istore (pc := 154) (lv' := [(6, .int ((M_30 24 x4_24.toNatClampNeg) + v47)), (0, .ref oM), (1, .int p0), (2, .int p1), (3, .int x3_19), (4, .int x4_24), (5, .int x5_29)]) hx hb dX4_widen_154 hl (by decide) rfl (fun ls hl => ?_)
                            refine lv_aload_n (pc := 156) hx hb dX4_widen_156 rfl (lv_at hl 1 rfl) ?_
                            refine va_get (pc := 157) (D := D) (ci := 4) (v := .ref (aM 24)) (C := RX4) (T := TX4) (N := 29) hx hb hts inX4_widen_X4 hown hK.1 hP 0 rfl rfl 24 (by decide) (hts (.fieldLink RX4 46 "HedgeHolesModel" "cost" "[I") (by decide +kernel)) (fun _ h9 => h9) rfl dX4_widen_157 ?_
                            refine lv_iload (pc := 160) hx hb dX4_widen_160 (lv_at hl 6 rfl) ?_
                            refine lv_aload_n (pc := 162) hx hb dX4_widen_162 rfl (lv_at hl 1 rfl) ?_
                            refine va_get (pc := 163) (D := D) (ci := 4) (v := .ref (aM 24)) (C := RX4) (T := TX4) (N := 29) hx hb hts inX4_widen_X4 hown hK.1 hP 0 rfl rfl 24 (by decide) (hts (.fieldLink RX4 46 "HedgeHolesModel" "cost" "[I") (by decide +kernel)) (fun _ h9 => h9) rfl dX4_widen_163 ?_
                            refine lv_iload (pc := 166) hx hb dX4_widen_166 (lv_at hl 6 rfl) ?_
                            obtain ⟨h49, hf⟩ := gI_e hf
                            refine va_iald (pc := 168) (f := M_30 24) (n := 5) hx hb hK.1 hP 13 0 rfl rfl h49 dX4_widen_168 ?_
                            refine lv_bipush (pc := 169) (v := (-9)) hx hb dX4_widen_169 (by decide) ?_
                            obtain ⟨v50, hv, hf⟩ := bd hf
                            have J51 : ∀ (ls : Array Slot), lv_has ls 7 [(0, .ref oM), (1, .int p0), (2, .int p1), (3, .int x3_19), (4, .int x4_24), (5, .int x5_29), (6, .int ((M_30 24 x4_24.toNatClampNeg) + v47))] → W p l e rmX4_widen s m args below meth c H locs 0 0 Q (F0 m 198 ls [.int v50, .int x5_29, .ref (aM 24)]) := by
                              intro ls hl
                              refine va_iast (pc := 198) (f := M_30 24) (n := 5) hx hb hK.1 hP hD hS 13 0 rfl rfl h49 dX4_widen_198 (fun H locs hP hD hS => ?_)
                              have hP : va_P D vwCl (wM cI oM aM (sB M_30 24 x5_29.toNatClampNeg v50)) H := hP
                              have hD : va_D A (wM cI oM aM (sB M_30 24 x5_29.toNatClampNeg v50)) := hD
                              obtain ⟨M_52, h53, hf⟩ := bd hf
                              have h53 := Option.some.inj h53
                              rw [h53] at hP hD
                              obtain rfl := Option.some.inj hf
                              exact J35 ls H locs (lv_sub hl [0, 1, 2, 3, 4, 5] rfl) hP hD hS
                            clear hf
                            have hf := hv
                            clear hv
                            refine lv_icmp_eq (pc := 171) (tgt := 186) hx hb dX4_widen_171 (by decide) (fun c54 => ?_) (fun c54 => ?_)
                            · have hf := iT c54 hf
                              refine lv_iload (pc := 186) hx hb dX4_widen_186 (lv_at hl 0 rfl) ?_
                              refine lv_goto (pc := 188) (tgt := 198) hx hb dX4_widen_188 (by decide) ?_
                              obtain rfl := Option.some.inj hf
                              exact J51 ls (lv_sub hl [1, 2, 3, 4, 5, 6, 0] rfl)
                            · have hf := iF c54 hf
                              refine lv_iload (pc := 174) hx hb dX4_widen_174 (lv_at hl 0 rfl) ?_
                              refine lv_aload_n (pc := 176) hx hb dX4_widen_176 rfl (lv_at hl 1 rfl) ?_
                              refine va_get (pc := 177) (D := D) (ci := 4) (v := .ref (aM 24)) (C := RX4) (T := TX4) (N := 29) hx hb hts inX4_widen_X4 hown hK.1 hP 0 rfl rfl 24 (by decide) (hts (.fieldLink RX4 46 "HedgeHolesModel" "cost" "[I") (by decide +kernel)) (fun _ h9 => h9) rfl dX4_widen_177 ?_
                              refine lv_iload (pc := 180) hx hb dX4_widen_180 (lv_at hl 6 rfl) ?_
                              refine va_iald (pc := 182) (f := M_30 24) (n := 5) hx hb hK.1 hP 13 0 rfl rfl h49 dX4_widen_182 ?_
                              refine lv_icmp_ge (pc := 183) (tgt := 191) hx hb dX4_widen_183 (by decide) (fun c55 => ?_) (fun c55 => ?_)
                              · have hf := iT c55 hf
                                refine lv_aload_n (pc := 191) hx hb dX4_widen_191 rfl (lv_at hl 1 rfl) ?_
                                refine va_get (pc := 192) (D := D) (ci := 4) (v := .ref (aM 24)) (C := RX4) (T := TX4) (N := 29) hx hb hts inX4_widen_X4 hown hK.1 hP 0 rfl rfl 24 (by decide) (hts (.fieldLink RX4 46 "HedgeHolesModel" "cost" "[I") (by decide +kernel)) (fun _ h9 => h9) rfl dX4_widen_192 ?_
                                refine lv_iload (pc := 195) hx hb dX4_widen_195 (lv_at hl 6 rfl) ?_
                                refine va_iald (pc := 197) (f := M_30 24) (n := 5) hx hb hK.1 hP 13 0 rfl rfl h49 dX4_widen_197 ?_
                                obtain rfl := Option.some.inj hf
                                exact J51 ls (lv_sub hl [1, 2, 3, 4, 5, 6, 0] rfl)
                              · have hf := iF c55 hf
                                refine lv_iload (pc := 186) hx hb dX4_widen_186 (lv_at hl 0 rfl) ?_
                                refine lv_goto (pc := 188) (tgt := 198) hx hb dX4_widen_188 (by decide) ?_
                                obtain rfl := Option.some.inj hf
                                exact J51 ls (lv_sub hl [1, 2, 3, 4, 5, 6, 0] rfl)
                          clear hf
                          have hf := hv
                          clear hv
                          refine lv_if_eq (pc := 145) (tgt := 152) hx hb dX4_widen_145 (by decide) (fun c56 => ?_) (fun c56 => ?_)
                          · have hf := iT c56 hf
                            refine lv_iconst (pc := 152) (v := 1) hx hb dX4_widen_152 (by decide) ?_
                            obtain rfl := Option.some.inj hf
                            exact J48 ls (lv_sub hl [0, 1, 2, 3, 4, 5] rfl)
                          · have hf := iF c56 hf
                            refine lv_iconst (pc := 148) (v := 0) hx hb dX4_widen_148 (by decide) ?_
                            refine lv_goto (pc := 149) (tgt := 153) hx hb dX4_widen_149 (by decide) ?_
                            obtain rfl := Option.some.inj hf
                            exact J48 ls (lv_sub hl [0, 1, 2, 3, 4, 5] rfl)
      · unfold FX4_widen_20 at hf
        intro ls H locs hl hP hD hS
        refine lv_iload_n (pc := 20) hx hb dX4_widen_20 rfl (lv_at hl 3 rfl) ?_
        refine lv_aload_n (pc := 21) hx hb dX4_widen_21 rfl (lv_at hl 0 rfl) ?_
        refine va_get (pc := 22) (D := D) (ci := 4) (v := .int (M_8 5 0)) (C := RX4) (T := TX4) (N := 29) hx hb hts inX4_widen_X4 hown hK.1 hP 0 rfl rfl 5 (by decide) (hts (.fieldLink RX4 68 "HedgeHolesModel" "fields" "I") (by decide +kernel)) (fun _ h9 => h9) rfl dX4_widen_22 ?_
        refine lv_icmp_ge (pc := 25) (tgt := 56) hx hb dX4_widen_25 (by decide) (fun c11 => ?_) (fun c11 => ?_)
        · have hf := iT c11 hf
          exact hkx _ _ hf ls H locs (lv_sub hl [0, 1, 2, 3] rfl) hP hD hS
        · have hf := iF c11 hf
          refine lv_aload_n (pc := 28) hx hb dX4_widen_28 rfl (lv_at hl 0 rfl) ?_
          refine va_get (pc := 29) (D := D) (ci := 4) (v := .ref (aM 24)) (C := RX4) (T := TX4) (N := 29) hx hb hts inX4_widen_X4 hown hK.1 hP 0 rfl rfl 24 (by decide) (hts (.fieldLink RX4 46 "HedgeHolesModel" "cost" "[I") (by decide +kernel)) (fun _ h9 => h9) rfl dX4_widen_29 ?_
          refine lv_iload_n (pc := 32) hx hb dX4_widen_32 rfl (lv_at hl 3 rfl) ?_
          refine lv_iload_n (pc := 33) hx hb dX4_widen_33 rfl (lv_at hl 3 rfl) ?_
          refine lv_aload_n (pc := 34) hx hb dX4_widen_34 rfl (lv_at hl 0 rfl) ?_
          refine va_get (pc := 35) (D := D) (ci := 4) (v := .ref (aM 13)) (C := RX4) (T := TX4) (N := 29) hx hb hts inX4_widen_X4 hown hK.1 hP 0 rfl rfl 13 (by decide) (hts (.fieldLink RX4 28 "HedgeHolesModel" "field" "[I") (by decide +kernel)) (fun _ h9 => h9) rfl dX4_widen_35 ?_
          refine lv_iload_n (pc := 38) hx hb dX4_widen_38 rfl (lv_at hl 1 rfl) ?_
          obtain ⟨h12, hf⟩ := gI_e hf
          refine va_iald (pc := 39) (f := M_8 13) (n := 5) hx hb hK.1 hP 7 0 rfl rfl h12 dX4_widen_39 ?_
          obtain ⟨v13, hv, hf⟩ := bd hf
          have J14 : ∀ (ls : Array Slot), lv_has ls 7 [(0, .ref oM), (1, .int p0), (2, .int p1), (3, .int x3_7)] → W p l e rmX4_widen s m args below meth c H locs 0 0 Q (F0 m 49 ls [.int v13, .int x3_7, .ref (aM 24)]) := by
            intro ls hl
            obtain ⟨h15, hf⟩ := gI_e hf
            refine va_iast (pc := 49) (f := M_8 24) (n := 5) hx hb hK.1 hP hD hS 13 0 rfl rfl h15 dX4_widen_49 (fun H locs hP hD hS => ?_)
            have hP : va_P D vwCl (wM cI oM aM (sB M_8 24 x3_7.toNatClampNeg v13)) H := hP
            have hD : va_D A (wM cI oM aM (sB M_8 24 x3_7.toNatClampNeg v13)) := hD
            obtain ⟨M_16, h17, hf⟩ := bd hf
            have h17 := Option.some.inj h17
            rw [h17] at hP hD
            refine lv_iinc (pc := 50) (v := (x3_7 + 1)) (lv' := [(3, .int (x3_7 + 1)), (0, .ref oM), (1, .int p0), (2, .int p1)]) hx hb dX4_widen_50 hl (k := 3) rfl rfl (by decide) rfl (fun ls hl => ?_)
            refine lv_goto (pc := 53) (tgt := 20) hx hb dX4_widen_53 (by decide) ?_
            exact hslf _ _ hf ls H locs (lv_sub hl [1, 2, 3, 0] rfl) hP hD hS
          clear hf
          have hf := hv
          clear hv
          refine lv_icmp_ne (pc := 40) (tgt := 47) hx hb dX4_widen_40 (by decide) (fun c18 => ?_) (fun c18 => ?_)
          · have hf := iF c18 hf
            refine lv_bipush (pc := 47) (v := (-9)) hx hb dX4_widen_47 (by decide) ?_
            obtain rfl := Option.some.inj hf
            exact J14 ls (lv_sub hl [0, 1, 2, 3] rfl)
          · have hf := iT c18 hf
            refine lv_iconst (pc := 43) (v := 0) hx hb dX4_widen_43 (by decide) ?_
            refine lv_goto (pc := 44) (tgt := 49) hx hb dX4_widen_44 (by decide) ?_
            obtain rfl := Option.some.inj hf
            exact J14 ls (lv_sub hl [0, 1, 2, 3] rfl)
    · have hf := iT c6 hf
      refine lv_iconst (pc := 16) (v := (-1)) hx hb dX4_widen_16 (by decide) ?_
      obtain rfl := Option.some.inj hf
      exact hRet 17 ls s.heap [] (vp_nar_int _) dX4_widen_17 hP hS
theorem hdX4_widen : yX4_widen.cls ≠ "java/lang/invoke/MethodHandle" ∧ yX4_widen.cls ≠ "java/lang/invoke/VarHandle" ∧ (parseMethodDescriptor yX4_widen.desc).map (fun d => d.parameters.length) = some 2 := by decide +kernel
