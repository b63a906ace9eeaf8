abbrev rmX4_keep : Room := { frames := 2, cells := 0, slots := 0, locals := 54 }
theorem inX4_keep_X4 : ∀ w ∈ wsX40, w ∈ wsX4_keep := fun _ h => List.mem_cons_of_mem _ (List.mem_append_right _ h)
set_option maxHeartbeats 4000000 in
set_option maxRecDepth 100000 in
theorem mtX4_keep (l : Launch) (D : va_G) (cI cZ cQ : ClassId) (oM : Nat) (aM : Nat → Nat) (M : Bk) (p0 : Int32) (p1 : Int32) (out : Int32) (hf : fX4_keep M p0 p1 = some out) : Met l yX4_keep wsX4_keep rmX4_keep (RoP D cI cZ cQ [.ref oM, .int p0, .int p1] (wM cI oM aM M)) (vp_Si (fun r' => r' = out)) 0 0 (fun _ => False) := by
  refine metRi (ty := .int) (cc := cX4_keep) (maxL := 6) (by decide) rfl (Nat.le_of_ble_eq_true rfl) ?_
  intro p e s m args below meth c Q CF hK hP hRet ls hl
  obtain ⟨hx, hb, hml, hown, hts⟩ := id CF
  have hl : lv_has ls 6 [(0, .ref oM), (1, .int p0), (2, .int p1)] := hl
  unfold fX4_keep at hf
  refine lv_aload_n (pc := 0) hx hb dX4_keep_0 rfl (lv_at hl 0 rfl) ?_
  refine lv_iload_n (pc := 1) hx hb dX4_keep_1 rfl (lv_at hl 1 rfl) ?_
  obtain ⟨v1, h2, hf⟩ := bd hf
  refine roVi (pc := 2) (As := [.int p0]) (rest := []) CF (mtX4_isGoer l D cI cZ cQ oM aM M p0 v1 h2) (cwV 1 hts gX4_keep_X4_isGoer rfl rfl rfl ⟨rfl, hdX4_isGoer⟩ ⟨Nat.le_of_ble_eq_true rfl, Nat.le_of_ble_eq_true rfl⟩) hK hP rfl rfl rfl rfl hl.1 rfl (Nat.le_of_ble_eq_true rfl) dX4_keep_2 ?_
  refine lv_if_eq (pc := 5) (tgt := 16) hx hb dX4_keep_5 (by decide) (fun c3 => ?_) (fun c3 => ?_)
  · have hf := iT c3 hf
    refine lv_iconst (pc := 16) (v := (-1)) hx hb dX4_keep_16 (by decide) ?_
    obtain rfl := Option.some.inj hf
    exact hRet 17 ls (vp_nar_int _) dX4_keep_17
  · have hf := iF c3 hf
    refine lv_aload_n (pc := 8) hx hb dX4_keep_8 rfl (lv_at hl 0 rfl) ?_
    refine lv_iload_n (pc := 9) hx hb dX4_keep_9 rfl (lv_at hl 2 rfl) ?_
    obtain ⟨v4, h5, hf⟩ := bd hf
    refine roVi (pc := 10) (As := [.int p1]) (rest := []) CF (mtX4_isField l D cI cZ cQ oM aM M p1 v4 h5) (cwV 1 hts gX4_keep_X4_isField rfl rfl rfl ⟨rfl, hdX4_isField⟩ ⟨Nat.le_of_ble_eq_true rfl, Nat.le_of_ble_eq_true rfl⟩) hK hP rfl rfl rfl rfl hl.1 rfl (Nat.le_of_ble_eq_true rfl) dX4_keep_10 ?_
    refine lv_if_ne (pc := 13) (tgt := 18) hx hb dX4_keep_13 (by decide) (fun c6 => ?_) (fun c6 => ?_)
    · have hf := iF c6 hf
      refine lv_aload_n (pc := 18) hx hb dX4_keep_18 rfl (lv_at hl 0 rfl) ?_
      refine va_get (pc := 19) (D := D) (ci := 4) (v := .ref (aM 13)) (C := RX4) (T := TX4) (N := 29) hx hb hts inX4_keep_X4 hown hK.1 hP 0 rfl rfl 13 (by decide) (hts (.fieldLink RX4 28 "HedgeHolesModel" "field" "[I") (by decide +kernel)) (fun _ h9 => h9) rfl dX4_keep_19 ?_
      refine lv_iload_n (pc := 22) hx hb dX4_keep_22 rfl (lv_at hl 1 rfl) ?_
      obtain ⟨h7, hf⟩ := gI_e hf
      refine va_iald (pc := 23) (f := M 13) (n := 5) hx hb hK.1 hP 7 0 rfl rfl h7 dX4_keep_23 ?_
      refine lv_iload_n (pc := 24) hx hb dX4_keep_24 rfl (lv_at hl 2 rfl) ?_
      refine lv_icmp_ne (pc := 25) (tgt := 31) hx hb dX4_keep_25 (by decide) (fun c8 => ?_) (fun c8 => ?_)
      · have hf := iF c8 hf
        refine lv_bipush (pc := 31) (v := (-9)) hx hb dX4_keep_31 (by decide) ?_
        refine lv_istore_n (pc := 33) (lv' := [(3, .int (-9)), (0, .ref oM), (1, .int p0), (2, .int p1)]) hx hb dX4_keep_33 rfl hl (by decide) rfl (fun ls hl => ?_)
        refine lv_iconst (pc := 34) (v := 0) hx hb dX4_keep_34 (by decide) ?_
        refine lv_istore (pc := 35) (lv' := [(4, .int 0), (3, .int (-9)), (0, .ref oM), (1, .int p0), (2, .int p1)]) hx hb dX4_keep_35 hl (by decide) rfl (fun ls hl => ?_)
        refine zl2 (G := FX4_keep_37 p0 p1 M) (fun x3_9 x4_10 => ∀ (ls : Array Slot), lv_has ls 6 [(0, .ref oM), (1, .int p0), (2, .int p1), (3, .int x3_9), (4, .int x4_10)] → W p l e rmX4_keep s m args below meth c s.heap [] 0 0 Q (F0 m 37 ls [])) (fun x3_11 x4_12 => ∀ (ls : Array Slot), lv_has ls 6 [(0, .ref oM), (1, .int p0), (2, .int p1), (3, .int x3_11), (4, .int x4_12)] → W p l e rmX4_keep s m args below meth c s.heap [] 0 0 Q (F0 m 111 ls [])) hf (fun x3_11 x4_12 hf => ?_) (fun kx slf hkx hslf x3_9 x4_10 hf => ?_) ls (lv_sub hl [2, 3, 4, 1, 0] rfl)
        · intro ls hl
          refine lv_iload_n (pc := 111) hx hb dX4_keep_111 rfl (lv_at hl 3 rfl) ?_
          obtain rfl := Option.some.inj hf
          exact hRet 112 ls (vp_nar_int _) dX4_keep_112
        · unfold FX4_keep_37 at hf
          intro ls hl
          refine lv_iload (pc := 37) hx hb dX4_keep_37 (lv_at hl 4 rfl) ?_
          refine lv_iconst (pc := 39) (v := 1) hx hb dX4_keep_39 (by decide) ?_
          refine lv_aload_n (pc := 40) hx hb dX4_keep_40 rfl (lv_at hl 0 rfl) ?_
          obtain ⟨v13, h14, hf⟩ := bd hf
          refine roVi (pc := 41) (As := []) (rest := [.int 1, .int x4_10]) CF (mtX4_hedges l D cI cZ cQ oM aM M v13 h14) (cwV 0 hts gX4_keep_X4_hedges rfl rfl rfl ⟨rfl, hdX4_hedges⟩ ⟨Nat.le_of_ble_eq_true rfl, Nat.le_of_ble_eq_true rfl⟩) hK hP rfl rfl rfl rfl hl.1 rfl (Nat.le_of_ble_eq_true rfl) dX4_keep_41 ?_
          refine lv_ishl (pc := 44) hx hb dX4_keep_44 ?_
          refine lv_icmp_ge (pc := 45) (tgt := 111) hx hb dX4_keep_45 (by decide) (fun c15 => ?_) (fun c15 => ?_)
          · have hf := iT c15 hf
            exact hkx _ _ hf ls (lv_sub hl [0, 1, 2, 3, 4] rfl)
          · have hf := iF c15 hf
            refine lv_iload_n (pc := 48) hx hb dX4_keep_48 rfl (lv_at hl 3 rfl) ?_
            refine lv_bipush (pc := 49) (v := (-9)) hx hb dX4_keep_49 (by decide) ?_
            obtain ⟨v16, hv, hf⟩ := bd hf
            have J17 : ∀ (ls : Array Slot), lv_has ls 6 [(0, .ref oM), (1, .int p0), (2, .int p1), (3, .int x3_9), (4, .int x4_10)] → W p l e rmX4_keep s m args below meth c s.heap [] 0 0 Q (F0 m 71 ls [.int v16]) := by
              intro ls hl
              refine lv_istore (pc := 71) (lv' := [(5, .int v16), (0, .ref oM), (1, .int p0), (2, .int p1), (3, .int x3_9), (4, .int x4_10)]) hx hb dX4_keep_71 hl (by decide) rfl (fun ls hl => ?_)
              refine lv_iload (pc := 73) hx hb dX4_keep_73 (lv_at hl 0 rfl) ?_
              obtain ⟨v18, hv, hf⟩ := bd hf
              have J19 : ∀ (ls : Array Slot), lv_has ls 6 [(0, .ref oM), (1, .int p0), (2, .int p1), (3, .int v18), (4, .int x4_10), (5, .int v16)] → W p l e rmX4_keep s m args below meth c s.heap [] 0 0 Q (F0 m 105 ls []) := by
                intro ls hl
                refine lv_iinc (pc := 105) (v := (x4_10 + 1)) (lv' := [(4, .int (x4_10 + 1)), (0, .ref oM), (1, .int p0), (2, .int p1), (3, .int v18), (5, .int v16)]) hx hb dX4_keep_105 hl (k := 4) rfl rfl (by decide) rfl (fun ls hl => ?_)
                refine lv_goto (pc := 108) (tgt := 37) hx hb dX4_keep_108 (by decide) ?_
                exact hslf _ _ hf ls (lv_sub hl [1, 2, 3, 4, 0] rfl)
              clear hf
              have hf := hv
              clear hv
              refine lv_if_eq (pc := 75) (tgt := 105) hx hb dX4_keep_75 (by decide) (fun c20 => ?_) (fun c20 => ?_)
              · have hf := iT c20 hf
                obtain rfl := Option.some.inj hf
                exact J19 ls (lv_sub hl [1, 2, 3, 4, 5, 0] rfl)
              · have hf := iF c20 hf
                refine lv_aload_n (pc := 78) hx hb dX4_keep_78 rfl (lv_at hl 1 rfl) ?_
                refine lv_aload_n (pc := 79) hx hb dX4_keep_79 rfl (lv_at hl 1 rfl) ?_
                refine va_get (pc := 80) (D := D) (ci := 4) (v := .ref (aM 13)) (C := RX4) (T := TX4) (N := 29) hx hb hts inX4_keep_X4 hown hK.1 hP 0 rfl rfl 13 (by decide) (hts (.fieldLink RX4 28 "HedgeHolesModel" "field" "[I") (by decide +kernel)) (fun _ h9 => h9) rfl dX4_keep_80 ?_
                refine lv_iload_n (pc := 83) hx hb dX4_keep_83 rfl (lv_at hl 2 rfl) ?_
                refine va_iald (pc := 84) (f := M 13) (n := 5) hx hb hK.1 hP 7 0 rfl rfl h7 dX4_keep_84 ?_
                refine lv_aload_n (pc := 85) hx hb dX4_keep_85 rfl (lv_at hl 1 rfl) ?_
                refine lv_iload_n (pc := 86) hx hb dX4_keep_86 rfl (lv_at hl 2 rfl) ?_
                obtain ⟨v21, h22, hf⟩ := bd hf
                refine roVi (pc := 87) (As := [.int p0]) (rest := [.int (M 13 p0.toNatClampNeg), .ref oM]) CF (mtX4_wantsOf l D cI cZ cQ oM aM M p0 v21 h22) (cwV 1 hts gX4_keep_X4_wantsOf rfl rfl rfl ⟨rfl, hdX4_wantsOf⟩ ⟨Nat.le_of_ble_eq_true rfl, Nat.le_of_ble_eq_true rfl⟩) hK hP rfl rfl rfl rfl hl.1 rfl (Nat.le_of_ble_eq_true rfl) dX4_keep_87 ?_
                refine lv_iload (pc := 90) hx hb dX4_keep_90 (lv_at hl 5 rfl) ?_
                obtain ⟨v23, h24, hf⟩ := bd hf
                refine roVi (pc := 92) (As := [.int (M 13 p0.toNatClampNeg), .int v21, .int x4_10]) (rest := []) CF (mtX4_reached l D cI cZ cQ oM aM M (M 13 p0.toNatClampNeg) v21 x4_10 v23 h24) (cwV 3 hts gX4_keep_X4_reached rfl rfl rfl ⟨rfl, hdX4_reached⟩ ⟨Nat.le_of_ble_eq_true rfl, Nat.le_of_ble_eq_true rfl⟩) hK hP rfl rfl rfl rfl hl.1 rfl (Nat.le_of_ble_eq_true rfl) dX4_keep_92 ?_
                refine lv_iload_n (pc := 95) hx hb dX4_keep_95 rfl (lv_at hl 3 rfl) ?_
                obtain ⟨v25, h26, hf⟩ := bd hf
                refine roSi (pc := 96) (As := [.int v23, .int p1]) (rest := []) CF (mtX4_isOf l D cI cZ cQ v23 p1 v25 h26) (va_cwS 2 hts gX4_keep_X4_isOf rfl rfl rfl hdX4_isOf ⟨Nat.le_of_ble_eq_true rfl, Nat.le_of_ble_eq_true rfl⟩) hK P0 rfl hl.1 rfl (Nat.le_of_ble_eq_true rfl) dX4_keep_96 ?_
                refine lv_if_ne (pc := 99) (tgt := 105) hx hb dX4_keep_99 (by decide) (fun c27 => ?_) (fun c27 => ?_)
                · have hf := iF c27 hf
                  obtain rfl := Option.some.inj hf
                  exact J19 ls (lv_sub hl [1, 2, 3, 4, 5, 0] rfl)
                · have hf := iT c27 hf
                  refine lv_iload (pc := 102) hx hb dX4_keep_102 (lv_at hl 5 rfl) ?_
                  refine lv_istore_n (pc := 104) (lv' := [(3, .int x4_10), (5, .int v16), (0, .ref oM), (1, .int p0), (2, .int p1), (4, .int x4_10)]) hx hb dX4_keep_104 rfl hl (by decide) rfl (fun ls hl => ?_)
                  obtain rfl := Option.some.inj hf
                  exact J19 ls (lv_sub hl [2, 3, 4, 0, 5, 1] rfl)
            clear hf
            have hf := hv
            clear hv
            refine lv_icmp_eq (pc := 51) (tgt := 66) hx hb dX4_keep_51 (by decide) (fun c28 => ?_) (fun c28 => ?_)
            · have hf := iT c28 hf
              refine lv_iconst (pc := 66) (v := 1) hx hb dX4_keep_66 (by decide) ?_
              refine lv_goto (pc := 67) (tgt := 71) hx hb dX4_keep_67 (by decide) ?_
              obtain rfl := Option.some.inj hf
              exact J17 ls (lv_sub hl [0, 1, 2, 3, 4] rfl)
            · have hf := iF c28 hf
              refine lv_iload (pc := 54) hx hb dX4_keep_54 (lv_at hl 4 rfl) ?_
              obtain ⟨v29, h30, hf⟩ := bd hf
              refine roSi (pc := 56) (As := [.int x4_10]) (rest := []) CF (mtX4_size l D cI cZ cQ x4_10 v29 h30) (va_cwS 1 hts gX4_keep_X4_size rfl rfl rfl hdX4_size ⟨Nat.le_of_ble_eq_true rfl, Nat.le_of_ble_eq_true rfl⟩) hK P0 rfl hl.1 rfl (Nat.le_of_ble_eq_true rfl) dX4_keep_56 ?_
              refine lv_iload_n (pc := 59) hx hb dX4_keep_59 rfl (lv_at hl 3 rfl) ?_
              obtain ⟨v31, h32, hf⟩ := bd hf
              refine roSi (pc := 60) (As := [.int x3_9]) (rest := [.int v29]) CF (mtX4_size l D cI cZ cQ x3_9 v31 h32) (va_cwS 1 hts gX4_keep_X4_size rfl rfl rfl hdX4_size ⟨Nat.le_of_ble_eq_true rfl, Nat.le_of_ble_eq_true rfl⟩) hK P0 rfl hl.1 rfl (Nat.le_of_ble_eq_true rfl) dX4_keep_60 ?_
              refine lv_icmp_ge (pc := 63) (tgt := 70) hx hb dX4_keep_63 (by decide) (fun c33 => ?_) (fun c33 => ?_)
              · have hf := iT c33 hf
                refine lv_iconst (pc := 70) (v := 0) hx hb dX4_keep_70 (by decide) ?_
                obtain rfl := Option.some.inj hf
                exact J17 ls (lv_sub hl [0, 1, 2, 3, 4] rfl)
              · have hf := iF c33 hf
                refine lv_iconst (pc := 66) (v := 1) hx hb dX4_keep_66 (by decide) ?_
                refine lv_goto (pc := 67) (tgt := 71) hx hb dX4_keep_67 (by decide) ?_
                obtain rfl := Option.some.inj hf
                exact J17 ls (lv_sub hl [0, 1, 2, 3, 4] rfl)
      · have hf := iT c8 hf
        refine lv_bipush (pc := 28) (v := (-9)) hx hb dX4_keep_28 (by decide) ?_
        obtain rfl := Option.some.inj hf
        exact hRet 30 ls (vp_nar_int _) dX4_keep_30
    · have hf := iT c6 hf
      refine lv_iconst (pc := 16) (v := (-1)) hx hb dX4_keep_16 (by decide) ?_
      obtain rfl := Option.some.inj hf
      exact hRet 17 ls (vp_nar_int _) dX4_keep_17
theorem hdX4_keep : yX4_keep.cls ≠ "java/lang/invoke/MethodHandle" ∧ yX4_keep.cls ≠ "java/lang/invoke/VarHandle" ∧ (parseMethodDescriptor yX4_keep.desc).map (fun d => d.parameters.length) = some 2 := by decide +kernel
abbrev rmX4_reading : Room := { frames := 2, cells := 0, slots := 0, locals := 43 }
theorem inX4_reading_X4 : ∀ w ∈ wsX40, w ∈ wsX4_reading := fun _ h => List.mem_cons_of_mem _ (List.mem_append_right _ h)
set_option maxHeartbeats 4000000 in
set_option maxRecDepth 100000 in
theorem mtX4_reading (l : Launch) (D : va_G) (cI cZ cQ : ClassId) (oM : Nat) (aM : Nat → Nat) (M : Bk) (p0 : Int32) (p1 : Int32) (p2 : Int32) (p3 : Int32) (sz : Nat) (out : (Int32 × Bk)) (hf : fX4_reading M p0 p1 p2 p3 = some out) : Met l yX4_reading wsX4_reading rmX4_reading (WrP D cI cZ cQ [.ref oM, .int p0, .int p1, .int p2, .int p3] (wM cI oM aM M) sz) (WrQi D out.1 (wM cI oM aM M) (wM cI oM aM out.2) sz) 0 0 (va_A (wM cI oM aM M) sz) := by
  refine metWi (ty := .int) (cc := cX4_reading) (maxL := 5) (by decide) rfl (Nat.le_of_ble_eq_true rfl) ?_
  intro p e s m args below meth c Q A CF hK hP hD hA hRet ls hl
  obtain ⟨hx, hb, hml, hown, hts⟩ := id CF
  have hS : va_S A s.heap s.heap [] := va_S.rf
  have hl : lv_has ls 5 [(0, .ref oM), (1, .int p0), (2, .int p1), (3, .int p2), (4, .int p3)] := hl
  unfold fX4_reading at hf
  refine lv_aload_n (pc := 0) hx hb dX4_reading_0 rfl (lv_at hl 0 rfl) ?_
  refine lv_iload_n (pc := 1) hx hb dX4_reading_1 rfl (lv_at hl 1 rfl) ?_
  obtain ⟨v1, h2, hf⟩ := bd hf
  refine roVi (pc := 2) (As := [.int p0]) (rest := []) CF (mtX4_isGoer l D cI cZ cQ oM aM M p0 v1 h2) (cwV 1 hts gX4_reading_X4_isGoer rfl rfl rfl ⟨rfl, hdX4_isGoer⟩ ⟨Nat.le_of_ble_eq_true rfl, Nat.le_of_ble_eq_true rfl⟩) hK hP rfl rfl rfl rfl hl.1 rfl (Nat.le_of_ble_eq_true rfl) dX4_reading_2 ?_
  refine lv_if_eq (pc := 5) (tgt := 17) hx hb dX4_reading_5 (by decide) (fun c3 => ?_) (fun c3 => ?_)
  · have hf := iT c3 hf
    refine lv_iconst (pc := 17) (v := (-1)) hx hb dX4_reading_17 (by decide) ?_
    obtain rfl := Option.some.inj hf
    exact hRet 18 ls s.heap [] (vp_nar_int _) dX4_reading_18 hP hS
  · have hf := iF c3 hf
    refine lv_aload_n (pc := 8) hx hb dX4_reading_8 rfl (lv_at hl 0 rfl) ?_
    refine lv_iload_n (pc := 9) hx hb dX4_reading_9 rfl (lv_at hl 2 rfl) ?_
    refine lv_iload_n (pc := 10) hx hb dX4_reading_10 rfl (lv_at hl 3 rfl) ?_
    obtain ⟨v4, h5, hf⟩ := bd hf
    refine roVi (pc := 11) (As := [.int p1, .int p2]) (rest := []) CF (mtX4_areTwo l D cI cZ cQ oM aM M p1 p2 v4 h5) (cwV 2 hts gX4_reading_X4_areTwo rfl rfl rfl ⟨rfl, hdX4_areTwo⟩ ⟨Nat.le_of_ble_eq_true rfl, Nat.le_of_ble_eq_true rfl⟩) hK hP rfl rfl rfl rfl hl.1 rfl (Nat.le_of_ble_eq_true rfl) dX4_reading_11 ?_
    refine lv_if_ne (pc := 14) (tgt := 19) hx hb dX4_reading_14 (by decide) (fun c6 => ?_) (fun c6 => ?_)
    · have hf := iF c6 hf
      refine lv_iload (pc := 19) hx hb dX4_reading_19 (lv_at hl 4 rfl) ?_
      refine lv_iconst (pc := 21) (v := 0) hx hb dX4_reading_21 (by decide) ?_
      refine lv_iconst (pc := 22) (v := 1) hx hb dX4_reading_22 (by decide) ?_
      obtain ⟨v7, h8, hf⟩ := bd hf
      refine roSi (pc := 23) (As := [.int p3, .int 0, .int 1]) (rest := []) CF (mtX4_within l D cI cZ cQ p3 0 1 v7 h8) (va_cwS 3 hts gX4_reading_X4_within rfl rfl rfl hdX4_within ⟨Nat.le_of_ble_eq_true rfl, Nat.le_of_ble_eq_true rfl⟩) hK P0 rfl hl.1 rfl (Nat.le_of_ble_eq_true rfl) dX4_reading_23 ?_
      refine lv_if_ne (pc := 26) (tgt := 32) hx hb dX4_reading_26 (by decide) (fun c9 => ?_) (fun c9 => ?_)
      · have hf := iF c9 hf
        refine lv_aload_n (pc := 32) hx hb dX4_reading_32 rfl (lv_at hl 0 rfl) ?_
        refine va_get (pc := 33) (D := D) (ci := 4) (v := .int (M 25 0)) (C := RX4) (T := TX4) (N := 29) hx hb hts inX4_reading_X4 hown hK.1 hP 0 rfl rfl 25 (by decide) (hts (.fieldLink RX4 123 "HedgeHolesModel" "readings" "I") (by decide +kernel)) (fun _ h9 => h9) rfl dX4_reading_33 ?_
        refine lv_bipush (pc := 36) (v := 8) hx hb dX4_reading_36 (by decide) ?_
        refine lv_icmp_ne (pc := 38) (tgt := 44) hx hb dX4_reading_38 (by decide) (fun c10 => ?_) (fun c10 => ?_)
        · have hf := iF c10 hf
          refine lv_aload_n (pc := 44) hx hb dX4_reading_44 rfl (lv_at hl 0 rfl) ?_
          refine va_get (pc := 45) (D := D) (ci := 4) (v := .ref (aM 26)) (C := RX4) (T := TX4) (N := 29) hx hb hts inX4_reading_X4 hown hK.1 hP 0 rfl rfl 26 (by decide) (hts (.fieldLink RX4 49 "HedgeHolesModel" "readWho" "[I") (by decide +kernel)) (fun _ h9 => h9) rfl dX4_reading_45 ?_
          refine lv_aload_n (pc := 48) hx hb dX4_reading_48 rfl (lv_at hl 0 rfl) ?_
          refine va_get (pc := 49) (D := D) (ci := 4) (v := .int (M 25 0)) (C := RX4) (T := TX4) (N := 29) hx hb hts inX4_reading_X4 hown hK.1 hP 0 rfl rfl 25 (by decide) (hts (.fieldLink RX4 123 "HedgeHolesModel" "readings" "I") (by decide +kernel)) (fun _ h9 => h9) rfl dX4_reading_49 ?_
          refine lv_iload_n (pc := 52) hx hb dX4_reading_52 rfl (lv_at hl 1 rfl) ?_
          obtain ⟨h11, hf⟩ := gI_e hf
          refine va_iast (pc := 53) (f := M 26) (n := 8) hx hb hK.1 hP hD hS 14 0 rfl rfl h11 dX4_reading_53 (fun H locs hP hD hS => ?_)
          have hP : va_P D vwCl (wM cI oM aM (sB M 26 (M 25 0).toNatClampNeg p0)) H := hP
          have hD : va_D A (wM cI oM aM (sB M 26 (M 25 0).toNatClampNeg p0)) := hD
          obtain ⟨M_12, h13, hf⟩ := bd hf
          have h13 := Option.some.inj h13
          rw [h13] at hP hD
          refine lv_aload_n (pc := 54) hx hb dX4_reading_54 rfl (lv_at hl 0 rfl) ?_
          refine va_get (pc := 55) (D := D) (ci := 4) (v := .ref (aM 27)) (C := RX4) (T := TX4) (N := 29) hx hb hts inX4_reading_X4 hown hK.1 hP 0 rfl rfl 27 (by decide) (hts (.fieldLink RX4 52 "HedgeHolesModel" "readWhere" "[I") (by decide +kernel)) (fun _ h9 => h9) rfl dX4_reading_55 ?_
          refine lv_aload_n (pc := 58) hx hb dX4_reading_58 rfl (lv_at hl 0 rfl) ?_
          refine va_get (pc := 59) (D := D) (ci := 4) (v := .int (M_12 25 0)) (C := RX4) (T := TX4) (N := 29) hx hb hts inX4_reading_X4 hown hK.1 hP 0 rfl rfl 25 (by decide) (hts (.fieldLink RX4 123 "HedgeHolesModel" "readings" "I") (by decide +kernel)) (fun _ h9 => h9) rfl dX4_reading_59 ?_
          refine lv_aload_n (pc := 62) hx hb dX4_reading_62 rfl (lv_at hl 0 rfl) ?_
          refine lv_iload_n (pc := 63) hx hb dX4_reading_63 rfl (lv_at hl 2 rfl) ?_
          refine lv_iload_n (pc := 64) hx hb dX4_reading_64 rfl (lv_at hl 3 rfl) ?_
          obtain ⟨v14, h15, hf⟩ := bd hf
          refine roVi (pc := 65) (As := [.int p1, .int p2]) (rest := [.int (M_12 25 0), .ref (aM 27)]) CF (mtX4_hedge l D cI cZ cQ oM aM M_12 p1 p2 v14 h15) (cwV 2 hts gX4_reading_X4_hedge rfl rfl rfl ⟨rfl, hdX4_hedge⟩ ⟨Nat.le_of_ble_eq_true rfl, Nat.le_of_ble_eq_true rfl⟩) hK hP rfl rfl rfl rfl hl.1 rfl (Nat.le_of_ble_eq_true rfl) dX4_reading_65 ?_
          obtain ⟨h16, hf⟩ := gI_e hf
          refine va_iast (pc := 68) (f := M_12 27) (n := 8) hx hb hK.1 hP hD hS 15 0 rfl rfl h16 dX4_reading_68 (fun H locs hP hD hS => ?_)
          have hP : va_P D vwCl (wM cI oM aM (sB M_12 27 (M_12 25 0).toNatClampNeg v14)) H := hP
          have hD : va_D A (wM cI oM aM (sB M_12 27 (M_12 25 0).toNatClampNeg v14)) := hD
          obtain ⟨M_17, h18, hf⟩ := bd hf
          have h18 := Option.some.inj h18
          rw [h18] at hP hD
          refine lv_aload_n (pc := 69) hx hb dX4_reading_69 rfl (lv_at hl 0 rfl) ?_
          refine va_get (pc := 70) (D := D) (ci := 4) (v := .ref (aM 28)) (C := RX4) (T := TX4) (N := 29) hx hb hts inX4_reading_X4 hown hK.1 hP 0 rfl rfl 28 (by decide) (hts (.fieldLink RX4 55 "HedgeHolesModel" "readFits" "[I") (by decide +kernel)) (fun _ h9 => h9) rfl dX4_reading_70 ?_
          refine lv_aload_n (pc := 73) hx hb dX4_reading_73 rfl (lv_at hl 0 rfl) ?_
          refine va_get (pc := 74) (D := D) (ci := 4) (v := .int (M_17 25 0)) (C := RX4) (T := TX4) (N := 29) hx hb hts inX4_reading_X4 hown hK.1 hP 0 rfl rfl 25 (by decide) (hts (.fieldLink RX4 123 "HedgeHolesModel" "readings" "I") (by decide +kernel)) (fun _ h9 => h9) rfl dX4_reading_74 ?_
          refine lv_iload (pc := 77) hx hb dX4_reading_77 (lv_at hl 4 rfl) ?_
          obtain ⟨h19, hf⟩ := gI_e hf
          refine va_iast (pc := 79) (f := M_17 28) (n := 8) hx hb hK.1 hP hD hS 16 0 rfl rfl h19 dX4_reading_79 (fun H locs hP hD hS => ?_)
          have hP : va_P D vwCl (wM cI oM aM (sB M_17 28 (M_17 25 0).toNatClampNeg p3)) H := hP
          have hD : va_D A (wM cI oM aM (sB M_17 28 (M_17 25 0).toNatClampNeg p3)) := hD
          obtain ⟨M_20, h21, hf⟩ := bd hf
          have h21 := Option.some.inj h21
          rw [h21] at hP hD
          refine lv_aload_n (pc := 80) hx hb dX4_reading_80 rfl (lv_at hl 0 rfl) ?_
          refine lv_dup (pc := 81) hx hb dX4_reading_81 rfl ?_
          refine va_get (pc := 82) (D := D) (ci := 4) (v := .int (M_20 25 0)) (C := RX4) (T := TX4) (N := 29) hx hb hts inX4_reading_X4 hown hK.1 hP 0 rfl rfl 25 (by decide) (hts (.fieldLink RX4 123 "HedgeHolesModel" "readings" "I") (by decide +kernel)) (fun _ h9 => h9) rfl dX4_reading_82 ?_
          refine lv_iconst (pc := 85) (v := 1) hx hb dX4_reading_85 (by decide) ?_
          refine lv_iadd (pc := 86) hx hb dX4_reading_86 ?_
          refine va_put (pc := 87) (D := D) (ci := 4) (v := .int ((M_20 25 0) + 1)) (ty := .int) (C := RX4) (T := TX4) (N := 29) hx hb hts inX4_reading_X4 tyX4 tyX4_ok nmX4 hown hK.1 hP hD hS 0 rfl rfl 25 (by decide) (hts (.fieldLink RX4 123 "HedgeHolesModel" "readings" "I") (by decide +kernel)) (fun _ h9 => h9) rfl (by decide +kernel) (vp_nar_int _) rfl (Nat.le_of_ble_eq_true rfl) dX4_reading_87 (fun H locs hP hD hS => ?_)
          have hP : va_P D vwCl (wM cI oM aM (sB M_20 25 0 ((M_20 25 0) + 1))) H := hP
          have hD : va_D A (wM cI oM aM (sB M_20 25 0 ((M_20 25 0) + 1))) := hD
          obtain ⟨M_22, h23, hf⟩ := bd hf
          have h23 := Option.some.inj h23
          rw [h23] at hP hD
          refine lv_aload_n (pc := 90) hx hb dX4_reading_90 rfl (lv_at hl 0 rfl) ?_
          refine va_get (pc := 91) (D := D) (ci := 4) (v := .int (M_22 25 0)) (C := RX4) (T := TX4) (N := 29) hx hb hts inX4_reading_X4 hown hK.1 hP 0 rfl rfl 25 (by decide) (hts (.fieldLink RX4 123 "HedgeHolesModel" "readings" "I") (by decide +kernel)) (fun _ h9 => h9) rfl dX4_reading_91 ?_
          refine lv_iconst (pc := 94) (v := 1) hx hb dX4_reading_94 (by decide) ?_
          refine lv_isub (pc := 95) hx hb dX4_reading_95 ?_
          obtain rfl := Option.some.inj hf
          exact hRet 96 ls H locs (vp_nar_int _) dX4_reading_96 hP hS
        · have hf := iT c10 hf
          refine lv_bipush (pc := 41) (v := (-4)) hx hb dX4_reading_41 (by decide) ?_
          obtain rfl := Option.some.inj hf
          exact hRet 43 ls s.heap [] (vp_nar_int _) dX4_reading_43 hP hS
      · have hf := iT c9 hf
        refine lv_bipush (pc := 29) (v := (-2)) hx hb dX4_reading_29 (by decide) ?_
        obtain rfl := Option.some.inj hf
        exact hRet 31 ls s.heap [] (vp_nar_int _) dX4_reading_31 hP hS
    · have hf := iT c6 hf
      refine lv_iconst (pc := 17) (v := (-1)) hx hb dX4_reading_17 (by decide) ?_
      obtain rfl := Option.some.inj hf
      exact hRet 18 ls s.heap [] (vp_nar_int _) dX4_reading_18 hP hS
theorem hdX4_reading : yX4_reading.cls ≠ "java/lang/invoke/MethodHandle" ∧ yX4_reading.cls ≠ "java/lang/invoke/VarHandle" ∧ (parseMethodDescriptor yX4_reading.desc).map (fun d => d.parameters.length) = some 4 := by decide +kernel
abbrev rmX4_back : Room := { frames := 1, cells := 0, slots := 0, locals := 22 }
theorem inX4_back_X4 : ∀ w ∈ wsX40, w ∈ wsX4_back := fun _ h => List.mem_cons_of_mem _ (List.mem_append_right _ h)
set_option maxHeartbeats 4000000 in
set_option maxRecDepth 100000 in
theorem mtX4_back (l : Launch) (D : va_G) (cI cZ cQ : ClassId) (oM : Nat) (aM : Nat → Nat) (M : Bk) (p0 : Int32) (sz : Nat) (out : (Int32 × Bk)) (hf : fX4_back M p0 = some out) : Met l yX4_back wsX4_back rmX4_back (WrP D cI cZ cQ [.ref oM, .int p0] (wM cI oM aM M) sz) (WrQi D out.1 (wM cI oM aM M) (wM cI oM aM out.2) sz) 0 0 (va_A (wM cI oM aM M) sz) := by
  refine metWi (ty := .int) (cc := cX4_back) (maxL := 2) (by decide) rfl (Nat.le_of_ble_eq_true rfl) ?_
  intro p e s m args below meth c Q A CF hK hP hD hA hRet ls hl
  obtain ⟨hx, hb, hml, hown, hts⟩ := id CF
  have hS : va_S A s.heap s.heap [] := va_S.rf
  have hl : lv_has ls 2 [(0, .ref oM), (1, .int p0)] := hl
  unfold fX4_back at hf
  refine lv_iload_n (pc := 0) hx hb dX4_back_0 rfl (lv_at hl 1 rfl) ?_
  refine lv_iconst (pc := 1) (v := 0) hx hb dX4_back_1 (by decide) ?_
  refine lv_aload_n (pc := 2) hx hb dX4_back_2 rfl (lv_at hl 0 rfl) ?_
  refine va_get (pc := 3) (D := D) (ci := 4) (v := .int (M 25 0)) (C := RX4) (T := TX4) (N := 29) hx hb hts inX4_back_X4 hown hK.1 hP 0 rfl rfl 25 (by decide) (hts (.fieldLink RX4 123 "HedgeHolesModel" "readings" "I") (by decide +kernel)) (fun _ h9 => h9) rfl dX4_back_3 ?_
  obtain ⟨v1, h2, hf⟩ := bd hf
  refine roSi (pc := 6) (As := [.int p0, .int 0, .int (M 25 0)]) (rest := []) CF (mtX4_within l D cI cZ cQ p0 0 (M 25 0) v1 h2) (va_cwS 3 hts gX4_back_X4_within rfl rfl rfl hdX4_within ⟨Nat.le_of_ble_eq_true rfl, Nat.le_of_ble_eq_true rfl⟩) hK P0 rfl hl.1 rfl (Nat.le_of_ble_eq_true rfl) dX4_back_6 ?_
  refine lv_if_ne (pc := 9) (tgt := 15) hx hb dX4_back_9 (by decide) (fun c3 => ?_) (fun c3 => ?_)
  · have hf := iF c3 hf
    refine lv_aload_n (pc := 15) hx hb dX4_back_15 rfl (lv_at hl 0 rfl) ?_
    refine lv_dup (pc := 16) hx hb dX4_back_16 rfl ?_
    refine va_get (pc := 17) (D := D) (ci := 4) (v := .int (M 25 0)) (C := RX4) (T := TX4) (N := 29) hx hb hts inX4_back_X4 hown hK.1 hP 0 rfl rfl 25 (by decide) (hts (.fieldLink RX4 123 "HedgeHolesModel" "readings" "I") (by decide +kernel)) (fun _ h9 => h9) rfl dX4_back_17 ?_
    refine lv_iload_n (pc := 20) hx hb dX4_back_20 rfl (lv_at hl 1 rfl) ?_
    refine lv_isub (pc := 21) hx hb dX4_back_21 ?_
    refine va_put (pc := 22) (D := D) (ci := 4) (v := .int ((M 25 0) - p0)) (ty := .int) (C := RX4) (T := TX4) (N := 29) hx hb hts inX4_back_X4 tyX4 tyX4_ok nmX4 hown hK.1 hP hD hS 0 rfl rfl 25 (by decide) (hts (.fieldLink RX4 123 "HedgeHolesModel" "readings" "I") (by decide +kernel)) (fun _ h9 => h9) rfl (by decide +kernel) (vp_nar_int _) rfl (Nat.le_of_ble_eq_true rfl) dX4_back_22 (fun H locs hP hD hS => ?_)
    have hP : va_P D vwCl (wM cI oM aM (sB M 25 0 ((M 25 0) - p0))) H := hP
    have hD : va_D A (wM cI oM aM (sB M 25 0 ((M 25 0) - p0))) := hD
    obtain ⟨M_4, h5, hf⟩ := bd hf
    have h5 := Option.some.inj h5
    rw [h5] at hP hD
    refine lv_aload_n (pc := 25) hx hb dX4_back_25 rfl (lv_at hl 0 rfl) ?_
    refine va_get (pc := 26) (D := D) (ci := 4) (v := .int (M_4 25 0)) (C := RX4) (T := TX4) (N := 29) hx hb hts inX4_back_X4 hown hK.1 hP 0 rfl rfl 25 (by decide) (hts (.fieldLink RX4 123 "HedgeHolesModel" "readings" "I") (by decide +kernel)) (fun _ h9 => h9) rfl dX4_back_26 ?_
    obtain rfl := Option.some.inj hf
    exact hRet 29 ls H locs (vp_nar_int _) dX4_back_29 hP hS
  · have hf := iT c3 hf
    refine lv_bipush (pc := 12) (v := (-2)) hx hb dX4_back_12 (by decide) ?_
    obtain rfl := Option.some.inj hf
    exact hRet 14 ls s.heap [] (vp_nar_int _) dX4_back_14 hP hS
theorem hdX4_back : yX4_back.cls ≠ "java/lang/invoke/MethodHandle" ∧ yX4_back.cls ≠ "java/lang/invoke/VarHandle" ∧ (parseMethodDescriptor yX4_back.desc).map (fun d => d.parameters.length) = some 1 := by decide +kernel
abbrev rmX4_areSo : Room := { frames := 2, cells := 0, slots := 0, locals := 43 }
theorem inX4_areSo_X4 : ∀ w ∈ wsX40, w ∈ wsX4_areSo := fun _ h => List.mem_cons_of_mem _ (List.mem_append_right _ h)
set_option maxHeartbeats 4000000 in
set_option maxRecDepth 100000 in
theorem mtX4_areSo (l : Launch) (D : va_G) (cI cZ cQ : ClassId) (oM : Nat) (aM : Nat → Nat) (M : Bk)  (out : Int32) (hf : fX4_areSo M = some out) : Met l yX4_areSo wsX4_areSo rmX4_areSo (RoP D cI cZ cQ [.ref oM] (wM cI oM aM M)) (vp_Si (fun r' => r' = out)) 0 0 (fun _ => False) := by
  refine metRi (ty := .boolean) (cc := cX4_areSo) (maxL := 3) (by decide) rfl (Nat.le_of_ble_eq_true rfl) ?_
  intro p e s m args below meth c Q CF hK hP hRet ls hl
  obtain ⟨hx, hb, hml, hown, hts⟩ := id CF
  have hl : lv_has ls 3 [(0, .ref oM)] := hl
  unfold fX4_areSo at hf
  refine lv_iconst (pc := 0) (v := 0) hx hb dX4_areSo_0 (by decide) ?_
  refine lv_istore_n (pc := 1) (lv' := [(1, .int 0), (0, .ref oM)]) hx hb dX4_areSo_1 rfl hl (by decide) rfl (fun ls hl => ?_)
  refine zl1 (G := FX4_areSo_2 M) (fun x1_1 => ∀ (ls : Array Slot), lv_has ls 3 [(0, .ref oM), (1, .int x1_1)] → W p l e rmX4_areSo s m args below meth c s.heap [] 0 0 Q (F0 m 2 ls [])) (fun x1_2 => ∀ (ls : Array Slot), lv_has ls 3 [(0, .ref oM), (1, .int x1_2)] → W p l e rmX4_areSo s m args below meth c s.heap [] 0 0 Q (F0 m 53 ls [])) hf (fun x1_2 hf => ?_) (fun kx slf hkx hslf x1_1 hf => ?_) ls (lv_sub hl [1, 0] rfl)
  · intro ls hl
    refine lv_iconst (pc := 53) (v := 1) hx hb dX4_areSo_53 (by decide) ?_
    obtain rfl := Option.some.inj hf
    exact hRet 54 ls (nzB (Or.inr rfl)) dX4_areSo_54
  · unfold FX4_areSo_2 at hf
    intro ls hl
    refine lv_iload_n (pc := 2) hx hb dX4_areSo_2 rfl (lv_at hl 1 rfl) ?_
    refine lv_aload_n (pc := 3) hx hb dX4_areSo_3 rfl (lv_at hl 0 rfl) ?_
    refine va_get (pc := 4) (D := D) (ci := 4) (v := .int (M 25 0)) (C := RX4) (T := TX4) (N := 29) hx hb hts inX4_areSo_X4 hown hK.1 hP 0 rfl rfl 25 (by decide) (hts (.fieldLink RX4 123 "HedgeHolesModel" "readings" "I") (by decide +kernel)) (fun _ h9 => h9) rfl dX4_areSo_4 ?_
    refine lv_icmp_ge (pc := 7) (tgt := 53) hx hb dX4_areSo_7 (by decide) (fun c3 => ?_) (fun c3 => ?_)
    · have hf := iT c3 hf
      exact hkx _ hf ls (lv_sub hl [0, 1] rfl)
    · have hf := iF c3 hf
      refine lv_aload_n (pc := 10) hx hb dX4_areSo_10 rfl (lv_at hl 0 rfl) ?_
      refine lv_aload_n (pc := 11) hx hb dX4_areSo_11 rfl (lv_at hl 0 rfl) ?_
      refine va_get (pc := 12) (D := D) (ci := 4) (v := .ref (aM 26)) (C := RX4) (T := TX4) (N := 29) hx hb hts inX4_areSo_X4 hown hK.1 hP 0 rfl rfl 26 (by decide) (hts (.fieldLink RX4 49 "HedgeHolesModel" "readWho" "[I") (by decide +kernel)) (fun _ h9 => h9) rfl dX4_areSo_12 ?_
      refine lv_iload_n (pc := 15) hx hb dX4_areSo_15 rfl (lv_at hl 1 rfl) ?_
      obtain ⟨h4, hf⟩ := gI_e hf
      refine va_iald (pc := 16) (f := M 26) (n := 8) hx hb hK.1 hP 14 0 rfl rfl h4 dX4_areSo_16 ?_
      refine lv_aload_n (pc := 17) hx hb dX4_areSo_17 rfl (lv_at hl 0 rfl) ?_
      refine va_get (pc := 18) (D := D) (ci := 4) (v := .ref (aM 27)) (C := RX4) (T := TX4) (N := 29) hx hb hts inX4_areSo_X4 hown hK.1 hP 0 rfl rfl 27 (by decide) (hts (.fieldLink RX4 52 "HedgeHolesModel" "readWhere" "[I") (by decide +kernel)) (fun _ h9 => h9) rfl dX4_areSo_18 ?_
      refine lv_iload_n (pc := 21) hx hb dX4_areSo_21 rfl (lv_at hl 1 rfl) ?_
      refine va_iald (pc := 22) (f := M 27) (n := 8) hx hb hK.1 hP 15 0 rfl rfl h4 dX4_areSo_22 ?_
      obtain ⟨v5, h6, hf⟩ := bd hf
      refine roVi (pc := 23) (As := [.int (M 26 x1_1.toNatClampNeg), .int (M 27 x1_1.toNatClampNeg)]) (rest := []) CF (mtX4_fitsHole l D cI cZ cQ oM aM M (M 26 x1_1.toNatClampNeg) (M 27 x1_1.toNatClampNeg) v5 h6) (cwV 2 hts gX4_areSo_X4_fitsHole rfl rfl rfl ⟨rfl, hdX4_fitsHole⟩ ⟨Nat.le_of_ble_eq_true rfl, Nat.le_of_ble_eq_true rfl⟩) hK hP rfl rfl rfl rfl hl.1 rfl (Nat.le_of_ble_eq_true rfl) dX4_areSo_23 ?_
      obtain ⟨v7, hv, hf⟩ := bd hf
      have J8 : ∀ (ls : Array Slot), lv_has ls 3 [(0, .ref oM), (1, .int x1_1)] → W p l e rmX4_areSo s m args below meth c s.heap [] 0 0 Q (F0 m 34 ls [.int v7]) := by
        intro ls hl
        refine lv_istore_n (pc := 34) (lv' := [(2, .int v7), (0, .ref oM), (1, .int x1_1)]) hx hb dX4_areSo_34 rfl hl (by decide) rfl (fun ls hl => ?_)
        refine lv_iload_n (pc := 35) hx hb dX4_areSo_35 rfl (lv_at hl 0 rfl) ?_
        refine lv_aload_n (pc := 36) hx hb dX4_areSo_36 rfl (lv_at hl 1 rfl) ?_
        refine va_get (pc := 37) (D := D) (ci := 4) (v := .ref (aM 28)) (C := RX4) (T := TX4) (N := 29) hx hb hts inX4_areSo_X4 hown hK.1 hP 0 rfl rfl 28 (by decide) (hts (.fieldLink RX4 55 "HedgeHolesModel" "readFits" "[I") (by decide +kernel)) (fun _ h9 => h9) rfl dX4_areSo_37 ?_
        refine lv_iload_n (pc := 40) hx hb dX4_areSo_40 rfl (lv_at hl 2 rfl) ?_
        refine va_iald (pc := 41) (f := M 28) (n := 8) hx hb hK.1 hP 16 0 rfl rfl h4 dX4_areSo_41 ?_
        refine lv_icmp_eq (pc := 42) (tgt := 47) hx hb dX4_areSo_42 (by decide) (fun c9 => ?_) (fun c9 => ?_)
        · have hf := iT c9 hf
          refine lv_iinc (pc := 47) (v := (x1_1 + 1)) (lv' := [(1, .int (x1_1 + 1)), (2, .int v7), (0, .ref oM)]) hx hb dX4_areSo_47 hl (k := 2) rfl rfl (by decide) rfl (fun ls hl => ?_)
          refine lv_goto (pc := 50) (tgt := 2) hx hb dX4_areSo_50 (by decide) ?_
          exact hslf _ hf ls (lv_sub hl [2, 0] rfl)
        · have hf := iF c9 hf
          refine lv_iconst (pc := 45) (v := 0) hx hb dX4_areSo_45 (by decide) ?_
          obtain rfl := Option.some.inj hf
          exact hRet 46 ls (nzB (Or.inl rfl)) dX4_areSo_46
      clear hf
      have hf := hv
      clear hv
      refine lv_if_eq (pc := 26) (tgt := 33) hx hb dX4_areSo_26 (by decide) (fun c10 => ?_) (fun c10 => ?_)
      · have hf := iT c10 hf
        refine lv_iconst (pc := 33) (v := 0) hx hb dX4_areSo_33 (by decide) ?_
        obtain rfl := Option.some.inj hf
        exact J8 ls (lv_sub hl [0, 1] rfl)
      · have hf := iF c10 hf
        refine lv_iconst (pc := 29) (v := 1) hx hb dX4_areSo_29 (by decide) ?_
        refine lv_goto (pc := 30) (tgt := 34) hx hb dX4_areSo_30 (by decide) ?_
        obtain rfl := Option.some.inj hf
        exact J8 ls (lv_sub hl [0, 1] rfl)
theorem hdX4_areSo : yX4_areSo.cls ≠ "java/lang/invoke/MethodHandle" ∧ yX4_areSo.cls ≠ "java/lang/invoke/VarHandle" ∧ (parseMethodDescriptor yX4_areSo.desc).map (fun d => d.parameters.length) = some 0 := by decide +kernel
abbrev rmX4_girths : Room := { frames := 3, cells := 0, slots := 0, locals := 65 }
theorem inX4_girths_X4 : ∀ w ∈ wsX40, w ∈ wsX4_girths := fun _ h => List.mem_cons_of_mem _ (List.mem_append_right _ h)
set_option maxHeartbeats 4000000 in
set_option maxRecDepth 100000 in
theorem mtX4_girths (l : Launch) (D : va_G) (cI cZ cQ : ClassId) (oM : Nat) (aM : Nat → Nat) (M : Bk) (p0 : Int32) (sz : Nat) (out : (Int32 × Bk)) (hf : fX4_girths M p0 = some out) : Met l yX4_girths wsX4_girths rmX4_girths (WrP D cI cZ cQ [.ref oM, .int p0] (wM cI oM aM M) sz) (WrQi D out.1 (wM cI oM aM M) (wM cI oM aM out.2) sz) 0 0 (va_A (wM cI oM aM M) sz) := by
  refine metWi (ty := .int) (cc := cX4_girths) (maxL := 5) (by decide) rfl (Nat.le_of_ble_eq_true rfl) ?_
  intro p e s m args below meth c Q A CF hK hP hD hA hRet ls hl
  obtain ⟨hx, hb, hml, hown, hts⟩ := id CF
  have hS : va_S A s.heap s.heap [] := va_S.rf
  have hl : lv_has ls 5 [(0, .ref oM), (1, .int p0)] := hl
  unfold fX4_girths at hf
  refine lv_aload_n (pc := 0) hx hb dX4_girths_0 rfl (lv_at hl 0 rfl) ?_
  refine lv_iload_n (pc := 1) hx hb dX4_girths_1 rfl (lv_at hl 1 rfl) ?_
  obtain ⟨v1, h2, hf⟩ := bd hf
  refine roVi (pc := 2) (As := [.int p0]) (rest := []) CF (mtX4_isGoer l D cI cZ cQ oM aM M p0 v1 h2) (cwV 1 hts gX4_girths_X4_isGoer rfl rfl rfl ⟨rfl, hdX4_isGoer⟩ ⟨Nat.le_of_ble_eq_true rfl, Nat.le_of_ble_eq_true rfl⟩) hK hP rfl rfl rfl rfl hl.1 rfl (Nat.le_of_ble_eq_true rfl) dX4_girths_2 ?_
  refine lv_if_ne (pc := 5) (tgt := 10) hx hb dX4_girths_5 (by decide) (fun c3 => ?_) (fun c3 => ?_)
  · have hf := iF c3 hf
    refine lv_aload_n (pc := 10) hx hb dX4_girths_10 rfl (lv_at hl 0 rfl) ?_
    refine va_get (pc := 11) (D := D) (ci := 4) (v := .ref (aM 12)) (C := RX4) (T := TX4) (N := 29) hx hb hts inX4_girths_X4 hown hK.1 hP 0 rfl rfl 12 (by decide) (hts (.fieldLink RX4 25 "HedgeHolesModel" "girth" "[I") (by decide +kernel)) (fun _ h9 => h9) rfl dX4_girths_11 ?_
    refine lv_iload_n (pc := 14) hx hb dX4_girths_14 rfl (lv_at hl 1 rfl) ?_
    obtain ⟨h4, hf⟩ := gI_e hf
    refine va_iald (pc := 15) (f := M 12) (n := 5) hx hb hK.1 hP 6 0 rfl rfl h4 dX4_girths_15 ?_
    refine lv_istore_n (pc := 16) (lv' := [(2, .int (M 12 p0.toNatClampNeg)), (0, .ref oM), (1, .int p0)]) hx hb dX4_girths_16 rfl hl (by decide) rfl (fun ls hl => ?_)
    refine lv_iconst (pc := 17) (v := 0) hx hb dX4_girths_17 (by decide) ?_
    refine lv_istore_n (pc := 18) (lv' := [(3, .int 0), (2, .int (M 12 p0.toNatClampNeg)), (0, .ref oM), (1, .int p0)]) hx hb dX4_girths_18 rfl hl (by decide) rfl (fun ls hl => ?_)
    refine lv_iconst (pc := 19) (v := 1) hx hb dX4_girths_19 (by decide) ?_
    refine lv_istore (pc := 20) (lv' := [(4, .int 1), (3, .int 0), (2, .int (M 12 p0.toNatClampNeg)), (0, .ref oM), (1, .int p0)]) hx hb dX4_girths_20 hl (by decide) rfl (fun ls hl => ?_)
    refine zl3 (G := FX4_girths_22 p0) (fun x3_5 x4_6 M_7 => ∀ (ls : Array Slot) (H : Heap) (locs : List Loc), lv_has ls 5 [(0, .ref oM), (1, .int p0), (2, .int (M 12 p0.toNatClampNeg)), (3, .int x3_5), (4, .int x4_6)] → va_P D vwCl (wM cI oM aM M_7) H → va_D A (wM cI oM aM M_7) → va_S A s.heap H locs → W p l e rmX4_girths s m args below meth c H locs 0 0 Q (F0 m 22 ls [])) (fun x3_8 x4_9 M_10 => ∀ (ls : Array Slot) (H : Heap) (locs : List Loc), lv_has ls 5 [(0, .ref oM), (1, .int p0), (2, .int (M 12 p0.toNatClampNeg)), (3, .int x3_8), (4, .int x4_9)] → va_P D vwCl (wM cI oM aM M_10) H → va_D A (wM cI oM aM M_10) → va_S A s.heap H locs → W p l e rmX4_girths s m args below meth c H locs 0 0 Q (F0 m 61 ls [])) hf (fun x3_8 x4_9 M_10 hf => ?_) (fun kx slf hkx hslf x3_5 x4_6 M_7 hf => ?_) ls s.heap [] (lv_sub hl [3, 4, 2, 1, 0] rfl) hP hD hS
    · intro ls H locs hl hP hD hS
      refine lv_aload_n (pc := 61) hx hb dX4_girths_61 rfl (lv_at hl 0 rfl) ?_
      refine va_get (pc := 62) (D := D) (ci := 4) (v := .ref (aM 12)) (C := RX4) (T := TX4) (N := 29) hx hb hts inX4_girths_X4 hown hK.1 hP 0 rfl rfl 12 (by decide) (hts (.fieldLink RX4 25 "HedgeHolesModel" "girth" "[I") (by decide +kernel)) (fun _ h9 => h9) rfl dX4_girths_62 ?_
      refine lv_iload_n (pc := 65) hx hb dX4_girths_65 rfl (lv_at hl 1 rfl) ?_
      refine lv_iload_n (pc := 66) hx hb dX4_girths_66 rfl (lv_at hl 2 rfl) ?_
      refine va_iast (pc := 67) (f := M_10 12) (n := 5) hx hb hK.1 hP hD hS 6 0 rfl rfl h4 dX4_girths_67 (fun H locs hP hD hS => ?_)
      have hP : va_P D vwCl (wM cI oM aM (sB M_10 12 p0.toNatClampNeg (M 12 p0.toNatClampNeg))) H := hP
      have hD : va_D A (wM cI oM aM (sB M_10 12 p0.toNatClampNeg (M 12 p0.toNatClampNeg))) := hD
      obtain ⟨M_19, h20, hf⟩ := bd hf
      have h20 := Option.some.inj h20
      rw [h20] at hP hD
      refine lv_iload_n (pc := 68) hx hb dX4_girths_68 rfl (lv_at hl 3 rfl) ?_
      obtain rfl := Option.some.inj hf
      exact hRet 69 ls H locs (vp_nar_int _) dX4_girths_69 hP hS
    · unfold FX4_girths_22 at hf
      intro ls H locs hl hP hD hS
      refine lv_iload (pc := 22) hx hb dX4_girths_22 (lv_at hl 4 rfl) ?_
      refine lv_bipush (pc := 24) (v := 9) hx hb dX4_girths_24 (by decide) ?_
      refine lv_icmp_gt (pc := 26) (tgt := 61) hx hb dX4_girths_26 (by decide) (fun c11 => ?_) (fun c11 => ?_)
      · have hf := iT c11 hf
        exact hkx _ _ _ hf ls H locs (lv_sub hl [0, 1, 2, 3, 4] rfl) hP hD hS
      · have hf := iF c11 hf
        refine lv_aload_n (pc := 29) hx hb dX4_girths_29 rfl (lv_at hl 0 rfl) ?_
        refine va_get (pc := 30) (D := D) (ci := 4) (v := .ref (aM 12)) (C := RX4) (T := TX4) (N := 29) hx hb hts inX4_girths_X4 hown hK.1 hP 0 rfl rfl 12 (by decide) (hts (.fieldLink RX4 25 "HedgeHolesModel" "girth" "[I") (by decide +kernel)) (fun _ h9 => h9) rfl dX4_girths_30 ?_
        refine lv_iload_n (pc := 33) hx hb dX4_girths_33 rfl (lv_at hl 1 rfl) ?_
        refine lv_iload (pc := 34) hx hb dX4_girths_34 (lv_at hl 4 rfl) ?_
        refine va_iast (pc := 36) (f := M_7 12) (n := 5) hx hb hK.1 hP hD hS 6 0 rfl rfl h4 dX4_girths_36 (fun H locs hP hD hS => ?_)
        have hP : va_P D vwCl (wM cI oM aM (sB M_7 12 p0.toNatClampNeg x4_6)) H := hP
        have hD : va_D A (wM cI oM aM (sB M_7 12 p0.toNatClampNeg x4_6)) := hD
        obtain ⟨M_12, h13, hf⟩ := bd hf
        have h13 := Option.some.inj h13
        rw [h13] at hP hD
        refine lv_iload_n (pc := 37) hx hb dX4_girths_37 rfl (lv_at hl 3 rfl) ?_
        refine lv_aload_n (pc := 38) hx hb dX4_girths_38 rfl (lv_at hl 0 rfl) ?_
        obtain ⟨v14, h15, hf⟩ := bd hf
        refine roVi (pc := 39) (As := []) (rest := [.int x3_5]) CF (mtX4_areSo l D cI cZ cQ oM aM M_12 v14 h15) (cwV 0 hts gX4_girths_X4_areSo rfl rfl rfl ⟨rfl, hdX4_areSo⟩ ⟨Nat.le_of_ble_eq_true rfl, Nat.le_of_ble_eq_true rfl⟩) hK hP rfl rfl rfl rfl hl.1 rfl (Nat.le_of_ble_eq_true rfl) dX4_girths_39 ?_
        obtain ⟨v16, hv, hf⟩ := bd hf
        have J17 : ∀ (ls : Array Slot), lv_has ls 5 [(0, .ref oM), (1, .int p0), (2, .int (M 12 p0.toNatClampNeg)), (3, .int x3_5), (4, .int x4_6)] → W p l e rmX4_girths s m args below meth c H locs 0 0 Q (F0 m 53 ls [.int v16, .int x3_5]) := by
          intro ls hl
          refine lv_ior (pc := 53) hx hb dX4_girths_53 ?_
          refine lv_istore_n (pc := 54) (lv' := [(3, .int (x3_5 ||| v16)), (0, .ref oM), (1, .int p0), (2, .int (M 12 p0.toNatClampNeg)), (4, .int x4_6)]) hx hb dX4_girths_54 rfl hl (by decide) rfl (fun ls hl => ?_)
          refine lv_iinc (pc := 55) (v := (x4_6 + 1)) (lv' := [(4, .int (x4_6 + 1)), (3, .int (x3_5 ||| v16)), (0, .ref oM), (1, .int p0), (2, .int (M 12 p0.toNatClampNeg))]) hx hb dX4_girths_55 hl (k := 4) rfl rfl (by decide) rfl (fun ls hl => ?_)
          refine lv_goto (pc := 58) (tgt := 22) hx hb dX4_girths_58 (by decide) ?_
          exact hslf _ _ _ hf ls H locs (lv_sub hl [2, 3, 4, 1, 0] rfl) hP hD hS
        clear hf
        have hf := hv
        clear hv
        refine lv_if_eq (pc := 42) (tgt := 52) hx hb dX4_girths_42 (by decide) (fun c18 => ?_) (fun c18 => ?_)
        · have hf := iT c18 hf
          refine lv_iconst (pc := 52) (v := 0) hx hb dX4_girths_52 (by decide) ?_
          obtain rfl := Option.some.inj hf
          exact J17 ls (lv_sub hl [0, 1, 2, 3, 4] rfl)
        · have hf := iF c18 hf
          refine lv_iconst (pc := 45) (v := 1) hx hb dX4_girths_45 (by decide) ?_
          refine lv_iload (pc := 46) hx hb dX4_girths_46 (lv_at hl 4 rfl) ?_
          refine lv_ishl (pc := 48) hx hb dX4_girths_48 ?_
          refine lv_goto (pc := 49) (tgt := 53) hx hb dX4_girths_49 (by decide) ?_
          obtain rfl := Option.some.inj hf
          exact J17 ls (lv_sub hl [0, 1, 2, 3, 4] rfl)
  · have hf := iT c3 hf
    refine lv_iconst (pc := 8) (v := (-1)) hx hb dX4_girths_8 (by decide) ?_
    obtain rfl := Option.some.inj hf
    exact hRet 9 ls s.heap [] (vp_nar_int _) dX4_girths_9 hP hS
theorem hdX4_girths : yX4_girths.cls ≠ "java/lang/invoke/MethodHandle" ∧ yX4_girths.cls ≠ "java/lang/invoke/VarHandle" ∧ (parseMethodDescriptor yX4_girths.desc).map (fun d => d.parameters.length) = some 1 := by decide +kernel
abbrev rmX4_kinds : Room := { frames := 3, cells := 0, slots := 0, locals := 65 }
theorem inX4_kinds_X4 : ∀ w ∈ wsX40, w ∈ wsX4_kinds := fun _ h => List.mem_cons_of_mem _ (List.mem_append_right _ h)
set_option maxHeartbeats 4000000 in
set_option maxRecDepth 100000 in
theorem mtX4_kinds (l : Launch) (D : va_G) (cI cZ cQ : ClassId) (oM : Nat) (aM : Nat → Nat) (M : Bk) (p0 : Int32) (sz : Nat) (out : (Int32 × Bk)) (hf : fX4_kinds M p0 = some out) : Met l yX4_kinds wsX4_kinds rmX4_kinds (WrP D cI cZ cQ [.ref oM, .int p0] (wM cI oM aM M) sz) (WrQi D out.1 (wM cI oM aM M) (wM cI oM aM out.2) sz) 0 0 (va_A (wM cI oM aM M) sz) := by
  refine metWi (ty := .int) (cc := cX4_kinds) (maxL := 5) (by decide) rfl (Nat.le_of_ble_eq_true rfl) ?_
  intro p e s m args below meth c Q A CF hK hP hD hA hRet ls hl
  obtain ⟨hx, hb, hml, hown, hts⟩ := id CF
  have hS : va_S A s.heap s.heap [] := va_S.rf
  have hl : lv_has ls 5 [(0, .ref oM), (1, .int p0)] := hl
  unfold fX4_kinds at hf
  refine lv_aload_n (pc := 0) hx hb dX4_kinds_0 rfl (lv_at hl 0 rfl) ?_
  refine lv_iload_n (pc := 1) hx hb dX4_kinds_1 rfl (lv_at hl 1 rfl) ?_
  obtain ⟨v1, h2, hf⟩ := bd hf
  refine roVi (pc := 2) (As := [.int p0]) (rest := []) CF (mtX4_isGoer l D cI cZ cQ oM aM M p0 v1 h2) (cwV 1 hts gX4_kinds_X4_isGoer rfl rfl rfl ⟨rfl, hdX4_isGoer⟩ ⟨Nat.le_of_ble_eq_true rfl, Nat.le_of_ble_eq_true rfl⟩) hK hP rfl rfl rfl rfl hl.1 rfl (Nat.le_of_ble_eq_true rfl) dX4_kinds_2 ?_
  refine lv_if_ne (pc := 5) (tgt := 10) hx hb dX4_kinds_5 (by decide) (fun c3 => ?_) (fun c3 => ?_)
  · have hf := iF c3 hf
    refine lv_aload_n (pc := 10) hx hb dX4_kinds_10 rfl (lv_at hl 0 rfl) ?_
    refine va_get (pc := 11) (D := D) (ci := 4) (v := .ref (aM 11)) (C := RX4) (T := TX4) (N := 29) hx hb hts inX4_kinds_X4 hown hK.1 hP 0 rfl rfl 11 (by decide) (hts (.fieldLink RX4 22 "HedgeHolesModel" "kind" "[I") (by decide +kernel)) (fun _ h9 => h9) rfl dX4_kinds_11 ?_
    refine lv_iload_n (pc := 14) hx hb dX4_kinds_14 rfl (lv_at hl 1 rfl) ?_
    obtain ⟨h4, hf⟩ := gI_e hf
    refine va_iald (pc := 15) (f := M 11) (n := 5) hx hb hK.1 hP 5 0 rfl rfl h4 dX4_kinds_15 ?_
    refine lv_istore_n (pc := 16) (lv' := [(2, .int (M 11 p0.toNatClampNeg)), (0, .ref oM), (1, .int p0)]) hx hb dX4_kinds_16 rfl hl (by decide) rfl (fun ls hl => ?_)
    refine lv_iconst (pc := 17) (v := 0) hx hb dX4_kinds_17 (by decide) ?_
    refine lv_istore_n (pc := 18) (lv' := [(3, .int 0), (2, .int (M 11 p0.toNatClampNeg)), (0, .ref oM), (1, .int p0)]) hx hb dX4_kinds_18 rfl hl (by decide) rfl (fun ls hl => ?_)
    refine lv_iconst (pc := 19) (v := 0) hx hb dX4_kinds_19 (by decide) ?_
    refine lv_istore (pc := 20) (lv' := [(4, .int 0), (3, .int 0), (2, .int (M 11 p0.toNatClampNeg)), (0, .ref oM), (1, .int p0)]) hx hb dX4_kinds_20 hl (by decide) rfl (fun ls hl => ?_)
    refine zl3 (G := FX4_kinds_22 p0) (fun x3_5 x4_6 M_7 => ∀ (ls : Array Slot) (H : Heap) (locs : List Loc), lv_has ls 5 [(0, .ref oM), (1, .int p0), (2, .int (M 11 p0.toNatClampNeg)), (3, .int x3_5), (4, .int x4_6)] → va_P D vwCl (wM cI oM aM M_7) H → va_D A (wM cI oM aM M_7) → va_S A s.heap H locs → W p l e rmX4_kinds s m args below meth c H locs 0 0 Q (F0 m 22 ls [])) (fun x3_8 x4_9 M_10 => ∀ (ls : Array Slot) (H : Heap) (locs : List Loc), lv_has ls 5 [(0, .ref oM), (1, .int p0), (2, .int (M 11 p0.toNatClampNeg)), (3, .int x3_8), (4, .int x4_9)] → va_P D vwCl (wM cI oM aM M_10) H → va_D A (wM cI oM aM M_10) → va_S A s.heap H locs → W p l e rmX4_kinds s m args below meth c H locs 0 0 Q (F0 m 60 ls [])) hf (fun x3_8 x4_9 M_10 hf => ?_) (fun kx slf hkx hslf x3_5 x4_6 M_7 hf => ?_) ls s.heap [] (lv_sub hl [3, 4, 2, 1, 0] rfl) hP hD hS
    · intro ls H locs hl hP hD hS
      refine lv_aload_n (pc := 60) hx hb dX4_kinds_60 rfl (lv_at hl 0 rfl) ?_
      refine va_get (pc := 61) (D := D) (ci := 4) (v := .ref (aM 11)) (C := RX4) (T := TX4) (N := 29) hx hb hts inX4_kinds_X4 hown hK.1 hP 0 rfl rfl 11 (by decide) (hts (.fieldLink RX4 22 "HedgeHolesModel" "kind" "[I") (by decide +kernel)) (fun _ h9 => h9) rfl dX4_kinds_61 ?_
      refine lv_iload_n (pc := 64) hx hb dX4_kinds_64 rfl (lv_at hl 1 rfl) ?_
      refine lv_iload_n (pc := 65) hx hb dX4_kinds_65 rfl (lv_at hl 2 rfl) ?_
      refine va_iast (pc := 66) (f := M_10 11) (n := 5) hx hb hK.1 hP hD hS 5 0 rfl rfl h4 dX4_kinds_66 (fun H locs hP hD hS => ?_)
      have hP : va_P D vwCl (wM cI oM aM (sB M_10 11 p0.toNatClampNeg (M 11 p0.toNatClampNeg))) H := hP
      have hD : va_D A (wM cI oM aM (sB M_10 11 p0.toNatClampNeg (M 11 p0.toNatClampNeg))) := hD
      obtain ⟨M_19, h20, hf⟩ := bd hf
      have h20 := Option.some.inj h20
      rw [h20] at hP hD
      refine lv_iload_n (pc := 67) hx hb dX4_kinds_67 rfl (lv_at hl 3 rfl) ?_
      obtain rfl := Option.some.inj hf
      exact hRet 68 ls H locs (vp_nar_int _) dX4_kinds_68 hP hS
    · unfold FX4_kinds_22 at hf
      intro ls H locs hl hP hD hS
      refine lv_iload (pc := 22) hx hb dX4_kinds_22 (lv_at hl 4 rfl) ?_
      refine lv_iconst (pc := 24) (v := 3) hx hb dX4_kinds_24 (by decide) ?_
      refine lv_icmp_ge (pc := 25) (tgt := 60) hx hb dX4_kinds_25 (by decide) (fun c11 => ?_) (fun c11 => ?_)
      · have hf := iT c11 hf
        exact hkx _ _ _ hf ls H locs (lv_sub hl [0, 1, 2, 3, 4] rfl) hP hD hS
      · have hf := iF c11 hf
        refine lv_aload_n (pc := 28) hx hb dX4_kinds_28 rfl (lv_at hl 0 rfl) ?_
        refine va_get (pc := 29) (D := D) (ci := 4) (v := .ref (aM 11)) (C := RX4) (T := TX4) (N := 29) hx hb hts inX4_kinds_X4 hown hK.1 hP 0 rfl rfl 11 (by decide) (hts (.fieldLink RX4 22 "HedgeHolesModel" "kind" "[I") (by decide +kernel)) (fun _ h9 => h9) rfl dX4_kinds_29 ?_
        refine lv_iload_n (pc := 32) hx hb dX4_kinds_32 rfl (lv_at hl 1 rfl) ?_
        refine lv_iload (pc := 33) hx hb dX4_kinds_33 (lv_at hl 4 rfl) ?_
        refine va_iast (pc := 35) (f := M_7 11) (n := 5) hx hb hK.1 hP hD hS 5 0 rfl rfl h4 dX4_kinds_35 (fun H locs hP hD hS => ?_)
        have hP : va_P D vwCl (wM cI oM aM (sB M_7 11 p0.toNatClampNeg x4_6)) H := hP
        have hD : va_D A (wM cI oM aM (sB M_7 11 p0.toNatClampNeg x4_6)) := hD
        obtain ⟨M_12, h13, hf⟩ := bd hf
        have h13 := Option.some.inj h13
        rw [h13] at hP hD
        refine lv_iload_n (pc := 36) hx hb dX4_kinds_36 rfl (lv_at hl 3 rfl) ?_
        refine lv_aload_n (pc := 37) hx hb dX4_kinds_37 rfl (lv_at hl 0 rfl) ?_
        obtain ⟨v14, h15, hf⟩ := bd hf
        refine roVi (pc := 38) (As := []) (rest := [.int x3_5]) CF (mtX4_areSo l D cI cZ cQ oM aM M_12 v14 h15) (cwV 0 hts gX4_kinds_X4_areSo rfl rfl rfl ⟨rfl, hdX4_areSo⟩ ⟨Nat.le_of_ble_eq_true rfl, Nat.le_of_ble_eq_true rfl⟩) hK hP rfl rfl rfl rfl hl.1 rfl (Nat.le_of_ble_eq_true rfl) dX4_kinds_38 ?_
        obtain ⟨v16, hv, hf⟩ := bd hf
        have J17 : ∀ (ls : Array Slot), lv_has ls 5 [(0, .ref oM), (1, .int p0), (2, .int (M 11 p0.toNatClampNeg)), (3, .int x3_5), (4, .int x4_6)] → W p l e rmX4_kinds s m args below meth c H locs 0 0 Q (F0 m 52 ls [.int v16, .int x3_5]) := by
          intro ls hl
          refine lv_ior (pc := 52) hx hb dX4_kinds_52 ?_
          refine lv_istore_n (pc := 53) (lv' := [(3, .int (x3_5 ||| v16)), (0, .ref oM), (1, .int p0), (2, .int (M 11 p0.toNatClampNeg)), (4, .int x4_6)]) hx hb dX4_kinds_53 rfl hl (by decide) rfl (fun ls hl => ?_)
          refine lv_iinc (pc := 54) (v := (x4_6 + 1)) (lv' := [(4, .int (x4_6 + 1)), (3, .int (x3_5 ||| v16)), (0, .ref oM), (1, .int p0), (2, .int (M 11 p0.toNatClampNeg))]) hx hb dX4_kinds_54 hl (k := 4) rfl rfl (by decide) rfl (fun ls hl => ?_)
          refine lv_goto (pc := 57) (tgt := 22) hx hb dX4_kinds_57 (by decide) ?_
          exact hslf _ _ _ hf ls H locs (lv_sub hl [2, 3, 4, 1, 0] rfl) hP hD hS
        clear hf
        have hf := hv
        clear hv
        refine lv_if_eq (pc := 41) (tgt := 51) hx hb dX4_kinds_41 (by decide) (fun c18 => ?_) (fun c18 => ?_)
        · have hf := iT c18 hf
          refine lv_iconst (pc := 51) (v := 0) hx hb dX4_kinds_51 (by decide) ?_
          obtain rfl := Option.some.inj hf
          exact J17 ls (lv_sub hl [0, 1, 2, 3, 4] rfl)
        · have hf := iF c18 hf
          refine lv_iconst (pc := 44) (v := 1) hx hb dX4_kinds_44 (by decide) ?_
          refine lv_iload (pc := 45) hx hb dX4_kinds_45 (lv_at hl 4 rfl) ?_
          refine lv_ishl (pc := 47) hx hb dX4_kinds_47 ?_
          refine lv_goto (pc := 48) (tgt := 52) hx hb dX4_kinds_48 (by decide) ?_
          obtain rfl := Option.some.inj hf
          exact J17 ls (lv_sub hl [0, 1, 2, 3, 4] rfl)
  · have hf := iT c3 hf
    refine lv_iconst (pc := 8) (v := (-1)) hx hb dX4_kinds_8 (by decide) ?_
    obtain rfl := Option.some.inj hf
    exact hRet 9 ls s.heap [] (vp_nar_int _) dX4_kinds_9 hP hS
theorem hdX4_kinds : yX4_kinds.cls ≠ "java/lang/invoke/MethodHandle" ∧ yX4_kinds.cls ≠ "java/lang/invoke/VarHandle" ∧ (parseMethodDescriptor yX4_kinds.desc).map (fun d => d.parameters.length) = some 1 := by decide +kernel
abbrev rmX4_holes : Room := { frames := 3, cells := 0, slots := 0, locals := 65 }
theorem inX4_holes_X4 : ∀ w ∈ wsX40, w ∈ wsX4_holes := fun _ h => List.mem_cons_of_mem _ (List.mem_append_right _ h)
set_option maxHeartbeats 4000000 in
set_option maxRecDepth 100000 in
theorem mtX4_holes (l : Launch) (D : va_G) (cI cZ cQ : ClassId) (oM : Nat) (aM : Nat → Nat) (M : Bk) (p0 : Int32) (p1 : Int32) (sz : Nat) (out : (Int32 × Bk)) (hf : fX4_holes M p0 p1 = some out) : Met l yX4_holes wsX4_holes rmX4_holes (WrP D cI cZ cQ [.ref oM, .int p0, .int p1] (wM cI oM aM M) sz) (WrQi D out.1 (wM cI oM aM M) (wM cI oM aM out.2) sz) 0 0 (va_A (wM cI oM aM M) sz) := by
  refine metWi (ty := .int) (cc := cX4_holes) (maxL := 7) (by decide) rfl (Nat.le_of_ble_eq_true rfl) ?_
  intro p e s m args below meth c Q A CF hK hP hD hA hRet ls hl
  obtain ⟨hx, hb, hml, hown, hts⟩ := id CF
  have hS : va_S A s.heap s.heap [] := va_S.rf
  have hl : lv_has ls 7 [(0, .ref oM), (1, .int p0), (2, .int p1)] := hl
  unfold fX4_holes at hf
  refine lv_aload_n (pc := 0) hx hb dX4_holes_0 rfl (lv_at hl 0 rfl) ?_
  refine lv_iload_n (pc := 1) hx hb dX4_holes_1 rfl (lv_at hl 1 rfl) ?_
  refine lv_iload_n (pc := 2) hx hb dX4_holes_2 rfl (lv_at hl 2 rfl) ?_
  obtain ⟨v1, h2, hf⟩ := bd hf
  refine roVi (pc := 3) (As := [.int p0, .int p1]) (rest := []) CF (mtX4_areTwo l D cI cZ cQ oM aM M p0 p1 v1 h2) (cwV 2 hts gX4_holes_X4_areTwo rfl rfl rfl ⟨rfl, hdX4_areTwo⟩ ⟨Nat.le_of_ble_eq_true rfl, Nat.le_of_ble_eq_true rfl⟩) hK hP rfl rfl rfl rfl hl.1 rfl (Nat.le_of_ble_eq_true rfl) dX4_holes_3 ?_
  refine lv_if_ne (pc := 6) (tgt := 11) hx hb dX4_holes_6 (by decide) (fun c3 => ?_) (fun c3 => ?_)
  · have hf := iF c3 hf
    refine lv_aload_n (pc := 11) hx hb dX4_holes_11 rfl (lv_at hl 0 rfl) ?_
    refine lv_iload_n (pc := 12) hx hb dX4_holes_12 rfl (lv_at hl 1 rfl) ?_
    refine lv_iload_n (pc := 13) hx hb dX4_holes_13 rfl (lv_at hl 2 rfl) ?_
    obtain ⟨v4, h5, hf⟩ := bd hf
    refine roVi (pc := 14) (As := [.int p0, .int p1]) (rest := []) CF (mtX4_hedge l D cI cZ cQ oM aM M p0 p1 v4 h5) (cwV 2 hts gX4_holes_X4_hedge rfl rfl rfl ⟨rfl, hdX4_hedge⟩ ⟨Nat.le_of_ble_eq_true rfl, Nat.le_of_ble_eq_true rfl⟩) hK hP rfl rfl rfl rfl hl.1 rfl (Nat.le_of_ble_eq_true rfl) dX4_holes_14 ?_
    refine lv_istore_n (pc := 17) (lv' := [(3, .int v4), (0, .ref oM), (1, .int p0), (2, .int p1)]) hx hb dX4_holes_17 rfl hl (by decide) rfl (fun ls hl => ?_)
    refine lv_aload_n (pc := 18) hx hb dX4_holes_18 rfl (lv_at hl 1 rfl) ?_
    refine va_get (pc := 19) (D := D) (ci := 4) (v := .ref (aM 10)) (C := RX4) (T := TX4) (N := 29) hx hb hts inX4_holes_X4 hown hK.1 hP 0 rfl rfl 10 (by decide) (hts (.fieldLink RX4 19 "HedgeHolesModel" "greats" "[I") (by decide +kernel)) (fun _ h9 => h9) rfl dX4_holes_19 ?_
    refine lv_iload_n (pc := 22) hx hb dX4_holes_22 rfl (lv_at hl 0 rfl) ?_
    obtain ⟨h6, hf⟩ := gI_e hf
    refine va_iald (pc := 23) (f := M 10) (n := 10) hx hb hK.1 hP 4 0 rfl rfl h6 dX4_holes_23 ?_
    refine lv_istore (pc := 24) (lv' := [(4, .int (M 10 v4.toNatClampNeg)), (3, .int v4), (0, .ref oM), (1, .int p0), (2, .int p1)]) hx hb dX4_holes_24 hl (by decide) rfl (fun ls hl => ?_)
    refine lv_iconst (pc := 26) (v := 0) hx hb dX4_holes_26 (by decide) ?_
    refine lv_istore (pc := 27) (lv' := [(5, .int 0), (4, .int (M 10 v4.toNatClampNeg)), (3, .int v4), (0, .ref oM), (1, .int p0), (2, .int p1)]) hx hb dX4_holes_27 hl (by decide) rfl (fun ls hl => ?_)
    refine lv_iconst (pc := 29) (v := 0) hx hb dX4_holes_29 (by decide) ?_
    refine lv_istore (pc := 30) (lv' := [(6, .int 0), (5, .int 0), (4, .int (M 10 v4.toNatClampNeg)), (3, .int v4), (0, .ref oM), (1, .int p0), (2, .int p1)]) hx hb dX4_holes_30 hl (by decide) rfl (fun ls hl => ?_)
    refine zl3 (G := FX4_holes_32 v4) (fun x5_7 x6_8 M_9 => ∀ (ls : Array Slot) (H : Heap) (locs : List Loc), lv_has ls 7 [(0, .ref oM), (1, .int p0), (2, .int p1), (3, .int v4), (4, .int (M 10 v4.toNatClampNeg)), (5, .int x5_7), (6, .int x6_8)] → va_P D vwCl (wM cI oM aM M_9) H → va_D A (wM cI oM aM M_9) → va_S A s.heap H locs → W p l e rmX4_holes s m args below meth c H locs 0 0 Q (F0 m 32 ls [])) (fun x5_10 x6_11 M_12 => ∀ (ls : Array Slot) (H : Heap) (locs : List Loc), lv_has ls 7 [(0, .ref oM), (1, .int p0), (2, .int p1), (3, .int v4), (4, .int (M 10 v4.toNatClampNeg)), (5, .int x5_10), (6, .int x6_11)] → va_P D vwCl (wM cI oM aM M_12) H → va_D A (wM cI oM aM M_12) → va_S A s.heap H locs → W p l e rmX4_holes s m args below meth c H locs 0 0 Q (F0 m 73 ls [])) hf (fun x5_10 x6_11 M_12 hf => ?_) (fun kx slf hkx hslf x5_7 x6_8 M_9 hf => ?_) ls s.heap [] (lv_sub hl [4, 5, 6, 3, 2, 1, 0] rfl) hP hD hS
    · intro ls H locs hl hP hD hS
      refine lv_aload_n (pc := 73) hx hb dX4_holes_73 rfl (lv_at hl 0 rfl) ?_
      refine va_get (pc := 74) (D := D) (ci := 4) (v := .ref (aM 10)) (C := RX4) (T := TX4) (N := 29) hx hb hts inX4_holes_X4 hown hK.1 hP 0 rfl rfl 10 (by decide) (hts (.fieldLink RX4 19 "HedgeHolesModel" "greats" "[I") (by decide +kernel)) (fun _ h9 => h9) rfl dX4_holes_74 ?_
      refine lv_iload_n (pc := 77) hx hb dX4_holes_77 rfl (lv_at hl 3 rfl) ?_
      refine lv_iload (pc := 78) hx hb dX4_holes_78 (lv_at hl 4 rfl) ?_
      refine va_iast (pc := 80) (f := M_12 10) (n := 10) hx hb hK.1 hP hD hS 4 0 rfl rfl h6 dX4_holes_80 (fun H locs hP hD hS => ?_)
      have hP : va_P D vwCl (wM cI oM aM (sB M_12 10 v4.toNatClampNeg (M 10 v4.toNatClampNeg))) H := hP
      have hD : va_D A (wM cI oM aM (sB M_12 10 v4.toNatClampNeg (M 10 v4.toNatClampNeg))) := hD
      obtain ⟨M_21, h22, hf⟩ := bd hf
      have h22 := Option.some.inj h22
      rw [h22] at hP hD
      refine lv_iload (pc := 81) hx hb dX4_holes_81 (lv_at hl 5 rfl) ?_
      obtain rfl := Option.some.inj hf
      exact hRet 83 ls H locs (vp_nar_int _) dX4_holes_83 hP hS
    · unfold FX4_holes_32 at hf
      intro ls H locs hl hP hD hS
      refine lv_iload (pc := 32) hx hb dX4_holes_32 (lv_at hl 6 rfl) ?_
      refine lv_bipush (pc := 34) (v := 9) hx hb dX4_holes_34 (by decide) ?_
      refine lv_icmp_gt (pc := 36) (tgt := 73) hx hb dX4_holes_36 (by decide) (fun c13 => ?_) (fun c13 => ?_)
      · have hf := iT c13 hf
        exact hkx _ _ _ hf ls H locs (lv_sub hl [0, 1, 2, 3, 4, 5, 6] rfl) hP hD hS
      · have hf := iF c13 hf
        refine lv_aload_n (pc := 39) hx hb dX4_holes_39 rfl (lv_at hl 0 rfl) ?_
        refine va_get (pc := 40) (D := D) (ci := 4) (v := .ref (aM 10)) (C := RX4) (T := TX4) (N := 29) hx hb hts inX4_holes_X4 hown hK.1 hP 0 rfl rfl 10 (by decide) (hts (.fieldLink RX4 19 "HedgeHolesModel" "greats" "[I") (by decide +kernel)) (fun _ h9 => h9) rfl dX4_holes_40 ?_
        refine lv_iload_n (pc := 43) hx hb dX4_holes_43 rfl (lv_at hl 3 rfl) ?_
        refine lv_iload (pc := 44) hx hb dX4_holes_44 (lv_at hl 6 rfl) ?_
        refine va_iast (pc := 46) (f := M_9 10) (n := 10) hx hb hK.1 hP hD hS 4 0 rfl rfl h6 dX4_holes_46 (fun H locs hP hD hS => ?_)
        have hP : va_P D vwCl (wM cI oM aM (sB M_9 10 v4.toNatClampNeg x6_8)) H := hP
        have hD : va_D A (wM cI oM aM (sB M_9 10 v4.toNatClampNeg x6_8)) := hD
        obtain ⟨M_14, h15, hf⟩ := bd hf
        have h15 := Option.some.inj h15
        rw [h15] at hP hD
        refine lv_iload (pc := 47) hx hb dX4_holes_47 (lv_at hl 5 rfl) ?_
        refine lv_aload_n (pc := 49) hx hb dX4_holes_49 rfl (lv_at hl 0 rfl) ?_
        obtain ⟨v16, h17, hf⟩ := bd hf
        refine roVi (pc := 50) (As := []) (rest := [.int x5_7]) CF (mtX4_areSo l D cI cZ cQ oM aM M_14 v16 h17) (cwV 0 hts gX4_holes_X4_areSo rfl rfl rfl ⟨rfl, hdX4_areSo⟩ ⟨Nat.le_of_ble_eq_true rfl, Nat.le_of_ble_eq_true rfl⟩) hK hP rfl rfl rfl rfl hl.1 rfl (Nat.le_of_ble_eq_true rfl) dX4_holes_50 ?_
        obtain ⟨v18, hv, hf⟩ := bd hf
        have J19 : ∀ (ls : Array Slot), lv_has ls 7 [(0, .ref oM), (1, .int p0), (2, .int p1), (3, .int v4), (4, .int (M 10 v4.toNatClampNeg)), (5, .int x5_7), (6, .int x6_8)] → W p l e rmX4_holes s m args below meth c H locs 0 0 Q (F0 m 64 ls [.int v18, .int x5_7]) := by
          intro ls hl
          refine lv_ior (pc := 64) hx hb dX4_holes_64 ?_
          refine lv_istore (pc := 65) (lv' := [(5, .int (x5_7 ||| v18)), (0, .ref oM), (1, .int p0), (2, .int p1), (3, .int v4), (4, .int (M 10 v4.toNatClampNeg)), (6, .int x6_8)]) hx hb dX4_holes_65 hl (by decide) rfl (fun ls hl => ?_)
          refine lv_iinc (pc := 67) (v := (x6_8 + 1)) (lv' := [(6, .int (x6_8 + 1)), (5, .int (x5_7 ||| v18)), (0, .ref oM), (1, .int p0), (2, .int p1), (3, .int v4), (4, .int (M 10 v4.toNatClampNeg))]) hx hb dX4_holes_67 hl (k := 6) rfl rfl (by decide) rfl (fun ls hl => ?_)
          refine lv_goto (pc := 70) (tgt := 32) hx hb dX4_holes_70 (by decide) ?_
          exact hslf _ _ _ hf ls H locs (lv_sub hl [2, 3, 4, 5, 6, 1, 0] rfl) hP hD hS
        clear hf
        have hf := hv
        clear hv
        refine lv_if_eq (pc := 53) (tgt := 63) hx hb dX4_holes_53 (by decide) (fun c20 => ?_) (fun c20 => ?_)
        · have hf := iT c20 hf
          refine lv_iconst (pc := 63) (v := 0) hx hb dX4_holes_63 (by decide) ?_
          obtain rfl := Option.some.inj hf
          exact J19 ls (lv_sub hl [0, 1, 2, 3, 4, 5, 6] rfl)
        · have hf := iF c20 hf
          refine lv_iconst (pc := 56) (v := 1) hx hb dX4_holes_56 (by decide) ?_
          refine lv_iload (pc := 57) hx hb dX4_holes_57 (lv_at hl 6 rfl) ?_
          refine lv_ishl (pc := 59) hx hb dX4_holes_59 ?_
          refine lv_goto (pc := 60) (tgt := 64) hx hb dX4_holes_60 (by decide) ?_
          obtain rfl := Option.some.inj hf
          exact J19 ls (lv_sub hl [0, 1, 2, 3, 4, 5, 6] rfl)
  · have hf := iT c3 hf
    refine lv_iconst (pc := 9) (v := (-1)) hx hb dX4_holes_9 (by decide) ?_
    obtain rfl := Option.some.inj hf
    exact hRet 10 ls s.heap [] (vp_nar_int _) dX4_holes_10 hP hS
theorem hdX4_holes : yX4_holes.cls ≠ "java/lang/invoke/MethodHandle" ∧ yX4_holes.cls ≠ "java/lang/invoke/VarHandle" ∧ (parseMethodDescriptor yX4_holes.desc).map (fun d => d.parameters.length) = some 2 := by decide +kernel
abbrev rmX4_odds : Room := { frames := 3, cells := 0, slots := 0, locals := 75 }
theorem inX4_odds_X4 : ∀ w ∈ wsX40, w ∈ wsX4_odds := fun _ h => List.mem_cons_of_mem _ (List.mem_append_right _ h)
set_option maxHeartbeats 4000000 in
set_option maxRecDepth 100000 in
theorem mtX4_odds (l : Launch) (D : va_G) (cI cZ cQ : ClassId) (oM : Nat) (aM : Nat → Nat) (M : Bk) (p0 : Int32) (p1 : Int32) (p2 : Int32) (sz : Nat) (out : (Int64 × Bk)) (hf : fX4_odds M p0 p1 p2 = some out) : Met l yX4_odds wsX4_odds rmX4_odds (WrP D cI cZ cQ [.ref oM, .int p0, .int p1, .int p2] (wM cI oM aM M) sz) (WrQl D out.1 (wM cI oM aM M) (wM cI oM aM out.2) sz) 0 0 (va_A (wM cI oM aM M) sz) := by
  refine metWl (cc := cX4_odds) (maxL := 7) (by decide) rfl (Nat.le_of_ble_eq_true rfl) ?_
  intro p e s m args below meth c Q A CF hK hP hD hA hRet ls hl
  obtain ⟨hx, hb, hml, hown, hts⟩ := id CF
  have hS : va_S A s.heap s.heap [] := va_S.rf
  have hl : lv_has ls 7 [(0, .ref oM), (1, .int p0), (2, .int p1), (3, .int p2)] := hl
  unfold fX4_odds at hf
  refine lv_aload_n (pc := 0) hx hb dX4_odds_0 rfl (lv_at hl 0 rfl) ?_
  refine lv_iload_n (pc := 1) hx hb dX4_odds_1 rfl (lv_at hl 1 rfl) ?_
  obtain ⟨v1, h2, hf⟩ := bd hf
  refine roVi (pc := 2) (As := [.int p0]) (rest := []) CF (mtX4_isGoer l D cI cZ cQ oM aM M p0 v1 h2) (cwV 1 hts gX4_odds_X4_isGoer rfl rfl rfl ⟨rfl, hdX4_isGoer⟩ ⟨Nat.le_of_ble_eq_true rfl, Nat.le_of_ble_eq_true rfl⟩) hK hP rfl rfl rfl rfl hl.1 rfl (Nat.le_of_ble_eq_true rfl) dX4_odds_2 ?_
  refine lv_if_eq (pc := 5) (tgt := 25) hx hb dX4_odds_5 (by decide) (fun c3 => ?_) (fun c3 => ?_)
  · have hf := iT c3 hf
    refine lv_ldc2 (pc := 25) (v := (-9223372036854775808)) hx hb hown (hts (.constantLong RX4 62 (-9223372036854775808)) (by decide +kernel)) dX4_odds_25 ?_
    obtain rfl := Option.some.inj hf
    exact hRet 28 ls s.heap [] dX4_odds_28 hP hS
  · have hf := iF c3 hf
    refine lv_aload_n (pc := 8) hx hb dX4_odds_8 rfl (lv_at hl 0 rfl) ?_
    refine lv_iload_n (pc := 9) hx hb dX4_odds_9 rfl (lv_at hl 2 rfl) ?_
    obtain ⟨v4, h5, hf⟩ := bd hf
    refine roVi (pc := 10) (As := [.int p1]) (rest := []) CF (mtX4_isField l D cI cZ cQ oM aM M p1 v4 h5) (cwV 1 hts gX4_odds_X4_isField rfl rfl rfl ⟨rfl, hdX4_isField⟩ ⟨Nat.le_of_ble_eq_true rfl, Nat.le_of_ble_eq_true rfl⟩) hK hP rfl rfl rfl rfl hl.1 rfl (Nat.le_of_ble_eq_true rfl) dX4_odds_10 ?_
    refine lv_if_eq (pc := 13) (tgt := 25) hx hb dX4_odds_13 (by decide) (fun c6 => ?_) (fun c6 => ?_)
    · have hf := iT c6 hf
      refine lv_ldc2 (pc := 25) (v := (-9223372036854775808)) hx hb hown (hts (.constantLong RX4 62 (-9223372036854775808)) (by decide +kernel)) dX4_odds_25 ?_
      obtain rfl := Option.some.inj hf
      exact hRet 28 ls s.heap [] dX4_odds_28 hP hS
    · have hf := iF c6 hf
      refine lv_iload_n (pc := 16) hx hb dX4_odds_16 rfl (lv_at hl 3 rfl) ?_
      refine lv_iconst (pc := 17) (v := 0) hx hb dX4_odds_17 (by decide) ?_
      refine lv_iconst (pc := 18) (v := 1) hx hb dX4_odds_18 (by decide) ?_
      obtain ⟨v7, h8, hf⟩ := bd hf
      refine roSi (pc := 19) (As := [.int p2, .int 0, .int 1]) (rest := []) CF (mtX4_within l D cI cZ cQ p2 0 1 v7 h8) (va_cwS 3 hts gX4_odds_X4_within rfl rfl rfl hdX4_within ⟨Nat.le_of_ble_eq_true rfl, Nat.le_of_ble_eq_true rfl⟩) hK P0 rfl hl.1 rfl (Nat.le_of_ble_eq_true rfl) dX4_odds_19 ?_
      refine lv_if_ne (pc := 22) (tgt := 29) hx hb dX4_odds_22 (by decide) (fun c9 => ?_) (fun c9 => ?_)
      · have hf := iF c9 hf
        refine lv_aload_n (pc := 29) hx hb dX4_odds_29 rfl (lv_at hl 0 rfl) ?_
        refine va_get (pc := 30) (D := D) (ci := 4) (v := .ref (aM 12)) (C := RX4) (T := TX4) (N := 29) hx hb hts inX4_odds_X4 hown hK.1 hP 0 rfl rfl 12 (by decide) (hts (.fieldLink RX4 25 "HedgeHolesModel" "girth" "[I") (by decide +kernel)) (fun _ h9 => h9) rfl dX4_odds_30 ?_
        refine lv_iload_n (pc := 33) hx hb dX4_odds_33 rfl (lv_at hl 1 rfl) ?_
        obtain ⟨h10, hf⟩ := gI_e hf
        refine va_iald (pc := 34) (f := M 12) (n := 5) hx hb hK.1 hP 6 0 rfl rfl h10 dX4_odds_34 ?_
        refine lv_istore (pc := 35) (lv' := [(4, .int (M 12 p0.toNatClampNeg)), (0, .ref oM), (1, .int p0), (2, .int p1), (3, .int p2)]) hx hb dX4_odds_35 hl (by decide) rfl (fun ls hl => ?_)
        refine lv_iconst (pc := 37) (v := 0) hx hb dX4_odds_37 (by decide) ?_
        refine lv_istore (pc := 38) (lv' := [(5, .int 0), (4, .int (M 12 p0.toNatClampNeg)), (0, .ref oM), (1, .int p0), (2, .int p1), (3, .int p2)]) hx hb dX4_odds_38 hl (by decide) rfl (fun ls hl => ?_)
        refine lv_iconst (pc := 40) (v := 1) hx hb dX4_odds_40 (by decide) ?_
        refine lv_istore (pc := 41) (lv' := [(6, .int 1), (5, .int 0), (4, .int (M 12 p0.toNatClampNeg)), (0, .ref oM), (1, .int p0), (2, .int p1), (3, .int p2)]) hx hb dX4_odds_41 hl (by decide) rfl (fun ls hl => ?_)
        refine zl3 (G := FX4_odds_43 p0 p1) (fun x5_11 x6_12 M_13 => ∀ (ls : Array Slot) (H : Heap) (locs : List Loc), lv_has ls 7 [(0, .ref oM), (1, .int p0), (2, .int p1), (3, .int p2), (4, .int (M 12 p0.toNatClampNeg)), (5, .int x5_11), (6, .int x6_12)] → va_P D vwCl (wM cI oM aM M_13) H → va_D A (wM cI oM aM M_13) → va_S A s.heap H locs → W p l e rmX4_odds s m args below meth c H locs 0 0 Q (F0 m 43 ls [])) (fun x5_14 x6_15 M_16 => ∀ (ls : Array Slot) (H : Heap) (locs : List Loc), lv_has ls 7 [(0, .ref oM), (1, .int p0), (2, .int p1), (3, .int p2), (4, .int (M 12 p0.toNatClampNeg)), (5, .int x5_14), (6, .int x6_15)] → va_P D vwCl (wM cI oM aM M_16) H → va_D A (wM cI oM aM M_16) → va_S A s.heap H locs → W p l e rmX4_odds s m args below meth c H locs 0 0 Q (F0 m 86 ls [])) hf (fun x5_14 x6_15 M_16 hf => ?_) (fun kx slf hkx hslf x5_11 x6_12 M_13 hf => ?_) ls s.heap [] (lv_sub hl [3, 4, 5, 6, 2, 1, 0] rfl) hP hD hS
        · intro ls H locs hl hP hD hS
          refine lv_aload_n (pc := 86) hx hb dX4_odds_86 rfl (lv_at hl 0 rfl) ?_
          refine va_get (pc := 87) (D := D) (ci := 4) (v := .ref (aM 12)) (C := RX4) (T := TX4) (N := 29) hx hb hts inX4_odds_X4 hown hK.1 hP 0 rfl rfl 12 (by decide) (hts (.fieldLink RX4 25 "HedgeHolesModel" "girth" "[I") (by decide +kernel)) (fun _ h9 => h9) rfl dX4_odds_87 ?_
          refine lv_iload_n (pc := 90) hx hb dX4_odds_90 rfl (lv_at hl 1 rfl) ?_
          refine lv_iload (pc := 91) hx hb dX4_odds_91 (lv_at hl 4 rfl) ?_
          refine va_iast (pc := 93) (f := M_16 12) (n := 5) hx hb hK.1 hP hD hS 6 0 rfl rfl h10 dX4_odds_93 (fun H locs hP hD hS => ?_)
          have hP : va_P D vwCl (wM cI oM aM (sB M_16 12 p0.toNatClampNeg (M 12 p0.toNatClampNeg))) H := hP
          have hD : va_D A (wM cI oM aM (sB M_16 12 p0.toNatClampNeg (M 12 p0.toNatClampNeg))) := hD
          obtain ⟨M_27, h28, hf⟩ := bd hf
          have h28 := Option.some.inj h28
          rw [h28] at hP hD
          refine lv_iload (pc := 94) hx hb dX4_odds_94 (lv_at hl 5 rfl) ?_
          refine lv_i2l (pc := 96) (v := (x5_14.toInt64)) hx hb dX4_odds_96 rfl ?_
          refine lv_ldc2 (pc := 97) (v := (9)) hx hb hown (hts (.constantLong RX4 209 (9)) (by decide +kernel)) dX4_odds_97 ?_
          refine lv_iload_n (pc := 100) hx hb dX4_odds_100 rfl (lv_at hl 3 rfl) ?_
          obtain ⟨v29, h30, hf⟩ := bd hf
          refine roSl (pc := 101) (As := [.long (x5_14.toInt64), .long (9), .int p2]) (rest := []) CF (mtX4_inLeastTerms l D cI cZ cQ (x5_14.toInt64) (9) p2 v29 h30) (va_cwS 3 hts gX4_odds_X4_inLeastTerms rfl rfl rfl hdX4_inLeastTerms ⟨Nat.le_of_ble_eq_true rfl, Nat.le_of_ble_eq_true rfl⟩) hK P0 rfl hl.1 rfl (Nat.le_of_ble_eq_true rfl) dX4_odds_101 ?_
          obtain rfl := Option.some.inj hf
          exact hRet 104 ls H locs dX4_odds_104 hP hS
        · unfold FX4_odds_43 at hf
          intro ls H locs hl hP hD hS
          refine lv_iload (pc := 43) hx hb dX4_odds_43 (lv_at hl 6 rfl) ?_
          refine lv_bipush (pc := 45) (v := 9) hx hb dX4_odds_45 (by decide) ?_
          refine lv_icmp_gt (pc := 47) (tgt := 86) hx hb dX4_odds_47 (by decide) (fun c17 => ?_) (fun c17 => ?_)
          · have hf := iT c17 hf
            exact hkx _ _ _ hf ls H locs (lv_sub hl [0, 1, 2, 3, 4, 5, 6] rfl) hP hD hS
          · have hf := iF c17 hf
            refine lv_aload_n (pc := 50) hx hb dX4_odds_50 rfl (lv_at hl 0 rfl) ?_
            refine va_get (pc := 51) (D := D) (ci := 4) (v := .ref (aM 12)) (C := RX4) (T := TX4) (N := 29) hx hb hts inX4_odds_X4 hown hK.1 hP 0 rfl rfl 12 (by decide) (hts (.fieldLink RX4 25 "HedgeHolesModel" "girth" "[I") (by decide +kernel)) (fun _ h9 => h9) rfl dX4_odds_51 ?_
            refine lv_iload_n (pc := 54) hx hb dX4_odds_54 rfl (lv_at hl 1 rfl) ?_
            refine lv_iload (pc := 55) hx hb dX4_odds_55 (lv_at hl 6 rfl) ?_
            refine va_iast (pc := 57) (f := M_13 12) (n := 5) hx hb hK.1 hP hD hS 6 0 rfl rfl h10 dX4_odds_57 (fun H locs hP hD hS => ?_)
            have hP : va_P D vwCl (wM cI oM aM (sB M_13 12 p0.toNatClampNeg x6_12)) H := hP
            have hD : va_D A (wM cI oM aM (sB M_13 12 p0.toNatClampNeg x6_12)) := hD
            obtain ⟨M_18, h19, hf⟩ := bd hf
            have h19 := Option.some.inj h19
            rw [h19] at hP hD
            refine lv_iload (pc := 58) hx hb dX4_odds_58 (lv_at hl 5 rfl) ?_
            refine lv_aload_n (pc := 60) hx hb dX4_odds_60 rfl (lv_at hl 0 rfl) ?_
            refine lv_iload_n (pc := 61) hx hb dX4_odds_61 rfl (lv_at hl 1 rfl) ?_
            obtain ⟨v20, h21, hf⟩ := bd hf
            refine roVi (pc := 62) (As := [.int p0]) (rest := [.int x5_11]) CF (mtX4_reachedBy l D cI cZ cQ oM aM M_18 p0 v20 h21) (cwV 1 hts gX4_odds_X4_reachedBy rfl rfl rfl ⟨rfl, hdX4_reachedBy⟩ ⟨Nat.le_of_ble_eq_true rfl, Nat.le_of_ble_eq_true rfl⟩) hK hP rfl rfl rfl rfl hl.1 rfl (Nat.le_of_ble_eq_true rfl) dX4_odds_62 ?_
            refine lv_iload_n (pc := 65) hx hb dX4_odds_65 rfl (lv_at hl 2 rfl) ?_
            obtain ⟨v22, h23, hf⟩ := bd hf
            refine roSi (pc := 66) (As := [.int v20, .int p1]) (rest := [.int x5_11]) CF (mtX4_isOf l D cI cZ cQ v20 p1 v22 h23) (va_cwS 2 hts gX4_odds_X4_isOf rfl rfl rfl hdX4_isOf ⟨Nat.le_of_ble_eq_true rfl, Nat.le_of_ble_eq_true rfl⟩) hK P0 rfl hl.1 rfl (Nat.le_of_ble_eq_true rfl) dX4_odds_66 ?_
            obtain ⟨v24, hv, hf⟩ := bd hf
            have J25 : ∀ (ls : Array Slot), lv_has ls 7 [(0, .ref oM), (1, .int p0), (2, .int p1), (3, .int p2), (4, .int (M 12 p0.toNatClampNeg)), (5, .int x5_11), (6, .int x6_12)] → W p l e rmX4_odds s m args below meth c H locs 0 0 Q (F0 m 77 ls [.int v24, .int x5_11]) := by
              intro ls hl
              refine lv_iadd (pc := 77) hx hb dX4_odds_77 ?_
              refine lv_istore (pc := 78) (lv' := [(5, .int (x5_11 + v24)), (0, .ref oM), (1, .int p0), (2, .int p1), (3, .int p2), (4, .int (M 12 p0.toNatClampNeg)), (6, .int x6_12)]) hx hb dX4_odds_78 hl (by decide) rfl (fun ls hl => ?_)
              refine lv_iinc (pc := 80) (v := (x6_12 + 1)) (lv' := [(6, .int (x6_12 + 1)), (5, .int (x5_11 + v24)), (0, .ref oM), (1, .int p0), (2, .int p1), (3, .int p2), (4, .int (M 12 p0.toNatClampNeg))]) hx hb dX4_odds_80 hl (k := 6) rfl rfl (by decide) rfl (fun ls hl => ?_)
              refine lv_goto (pc := 83) (tgt := 43) hx hb dX4_odds_83 (by decide) ?_
              exact hslf _ _ _ hf ls H locs (lv_sub hl [2, 3, 4, 5, 6, 1, 0] rfl) hP hD hS
            clear hf
            have hf := hv
            clear hv
            refine lv_if_eq (pc := 69) (tgt := 76) hx hb dX4_odds_69 (by decide) (fun c26 => ?_) (fun c26 => ?_)
            · have hf := iT c26 hf
              refine lv_iconst (pc := 76) (v := 0) hx hb dX4_odds_76 (by decide) ?_
              obtain rfl := Option.some.inj hf
              exact J25 ls (lv_sub hl [0, 1, 2, 3, 4, 5, 6] rfl)
            · have hf := iF c26 hf
              refine lv_iconst (pc := 72) (v := 1) hx hb dX4_odds_72 (by decide) ?_
              refine lv_goto (pc := 73) (tgt := 77) hx hb dX4_odds_73 (by decide) ?_
              obtain rfl := Option.some.inj hf
              exact J25 ls (lv_sub hl [0, 1, 2, 3, 4, 5, 6] rfl)
      · have hf := iT c9 hf
        refine lv_ldc2 (pc := 25) (v := (-9223372036854775808)) hx hb hown (hts (.constantLong RX4 62 (-9223372036854775808)) (by decide +kernel)) dX4_odds_25 ?_
        obtain rfl := Option.some.inj hf
        exact hRet 28 ls s.heap [] dX4_odds_28 hP hS
theorem hdX4_odds : yX4_odds.cls ≠ "java/lang/invoke/MethodHandle" ∧ yX4_odds.cls ≠ "java/lang/invoke/VarHandle" ∧ (parseMethodDescriptor yX4_odds.desc).map (fun d => d.parameters.length) = some 3 := by decide +kernel
abbrev rmX4_sheet : Room := { frames := 2, cells := 0, slots := 0, locals := 42 }
theorem inX4_sheet_X4 : ∀ w ∈ wsX40, w ∈ wsX4_sheet := fun _ h => List.mem_cons_of_mem _ (List.mem_append_right _ h)
set_option maxHeartbeats 4000000 in
set_option maxRecDepth 100000 in
theorem mtX4_sheet (l : Launch) (D : va_G) (cI cZ cQ : ClassId) (oM : Nat) (aM : Nat → Nat) (M : Bk) (p0 : Int32) (p1 : Int32) (p2 : Int32) (sz : Nat) (out : (Int32 × Bk)) (hf : fX4_sheet M p0 p1 p2 = some out) : Met l yX4_sheet wsX4_sheet rmX4_sheet (WrP D cI cZ cQ [.ref oM, .int p0, .int p1, .int p2] (wM cI oM aM M) sz) (WrQi D out.1 (wM cI oM aM M) (wM cI oM aM out.2) sz) 0 0 (va_A (wM cI oM aM M) sz) := by
  refine metWi (ty := .int) (cc := cX4_sheet) (maxL := 5) (by decide) rfl (Nat.le_of_ble_eq_true rfl) ?_
  intro p e s m args below meth c Q A CF hK hP hD hA hRet ls hl
  obtain ⟨hx, hb, hml, hown, hts⟩ := id CF
  have hS : va_S A s.heap s.heap [] := va_S.rf
  have hl : lv_has ls 5 [(0, .ref oM), (1, .int p0), (2, .int p1), (3, .int p2)] := hl
  unfold fX4_sheet at hf
  refine lv_aload_n (pc := 0) hx hb dX4_sheet_0 rfl (lv_at hl 0 rfl) ?_
  refine lv_iconst (pc := 1) (v := 0) hx hb dX4_sheet_1 (by decide) ?_
  refine va_put (pc := 2) (D := D) (ci := 4) (v := .int 0) (ty := .int) (C := RX4) (T := TX4) (N := 29) hx hb hts inX4_sheet_X4 tyX4 tyX4_ok nmX4 hown hK.1 hP hD hS 0 rfl rfl 0 (by decide) (hts (.fieldLink RX4 58 "HedgeHolesModel" "fault" "I") (by decide +kernel)) (fun _ h9 => h9) rfl (by decide +kernel) (vp_nar_int _) rfl (Nat.le_of_ble_eq_true rfl) dX4_sheet_2 (fun H locs hP hD hS => ?_)
  have hP : va_P D vwCl (wM cI oM aM (sB M 0 0 0)) H := hP
  have hD : va_D A (wM cI oM aM (sB M 0 0 0)) := hD
  obtain ⟨M_1, h2, hf⟩ := bd hf
  have h2 := Option.some.inj h2
  rw [h2] at hP hD
  refine lv_iload_n (pc := 5) hx hb dX4_sheet_5 rfl (lv_at hl 1 rfl) ?_
  obtain ⟨v3, h4, hf⟩ := bd hf
  refine roSi (pc := 6) (As := [.int p0]) (rest := []) CF (mtX4_isSheet l D cI cZ cQ p0 v3 h4) (va_cwS 1 hts gX4_sheet_X4_isSheet rfl rfl rfl hdX4_isSheet ⟨Nat.le_of_ble_eq_true rfl, Nat.le_of_ble_eq_true rfl⟩) hK P0 rfl hl.1 rfl (Nat.le_of_ble_eq_true rfl) dX4_sheet_6 ?_
  refine lv_if_ne (pc := 9) (tgt := 14) hx hb dX4_sheet_9 (by decide) (fun c5 => ?_) (fun c5 => ?_)
  · have hf := iF c5 hf
    refine lv_iload_n (pc := 14) hx hb dX4_sheet_14 rfl (lv_at hl 2 rfl) ?_
    obtain ⟨v6, h7, hf⟩ := bd hf
    refine roSi (pc := 15) (As := [.int p1]) (rest := []) CF (mtX4_isSort l D cI cZ cQ p1 v6 h7) (va_cwS 1 hts gX4_sheet_X4_isSort rfl rfl rfl hdX4_isSort ⟨Nat.le_of_ble_eq_true rfl, Nat.le_of_ble_eq_true rfl⟩) hK P0 rfl hl.1 rfl (Nat.le_of_ble_eq_true rfl) dX4_sheet_15 ?_
    refine lv_if_eq (pc := 18) (tgt := 27) hx hb dX4_sheet_18 (by decide) (fun c8 => ?_) (fun c8 => ?_)
    · have hf := iT c8 hf
      refine lv_bipush (pc := 27) (v := (-2)) hx hb dX4_sheet_27 (by decide) ?_
      obtain rfl := Option.some.inj hf
      exact hRet 29 ls H locs (vp_nar_int _) dX4_sheet_29 hP hS
    · have hf := iF c8 hf
      refine lv_iload_n (pc := 21) hx hb dX4_sheet_21 rfl (lv_at hl 3 rfl) ?_
      refine lv_bipush (pc := 22) (v := 60) hx hb dX4_sheet_22 (by decide) ?_
      refine lv_icmp_le (pc := 24) (tgt := 30) hx hb dX4_sheet_24 (by decide) (fun c9 => ?_) (fun c9 => ?_)
      · have hf := iT c9 hf
        refine lv_iload_n (pc := 30) hx hb dX4_sheet_30 rfl (lv_at hl 3 rfl) ?_
        refine lv_if_ge (pc := 31) (tgt := 40) hx hb dX4_sheet_31 (by decide) (fun c10 => ?_) (fun c10 => ?_)
        · have hf := iT c10 hf
          refine lv_aload_n (pc := 40) hx hb dX4_sheet_40 rfl (lv_at hl 0 rfl) ?_
          refine va_get (pc := 41) (D := D) (ci := 4) (v := .ref (aM 2)) (C := RX4) (T := TX4) (N := 29) hx hb hts inX4_sheet_X4 hown hK.1 hP 0 rfl rfl 2 (by decide) (hts (.fieldLink RX4 9 "HedgeHolesModel" "sorts" "[I") (by decide +kernel)) (fun _ h9 => h9) rfl dX4_sheet_41 ?_
          refine lv_iload_n (pc := 44) hx hb dX4_sheet_44 rfl (lv_at hl 1 rfl) ?_
          refine lv_iload_n (pc := 45) hx hb dX4_sheet_45 rfl (lv_at hl 2 rfl) ?_
          obtain ⟨h11, hf⟩ := gI_e hf
          refine va_iast (pc := 46) (f := M_1 2) (n := 4) hx hb hK.1 hP hD hS 1 0 rfl rfl h11 dX4_sheet_46 (fun H locs hP hD hS => ?_)
          have hP : va_P D vwCl (wM cI oM aM (sB M_1 2 p0.toNatClampNeg p1)) H := hP
          have hD : va_D A (wM cI oM aM (sB M_1 2 p0.toNatClampNeg p1)) := hD
          obtain ⟨M_12, h13, hf⟩ := bd hf
          have h13 := Option.some.inj h13
          rw [h13] at hP hD
          refine lv_aload_n (pc := 47) hx hb dX4_sheet_47 rfl (lv_at hl 0 rfl) ?_
          refine va_get (pc := 48) (D := D) (ci := 4) (v := .ref (aM 3)) (C := RX4) (T := TX4) (N := 29) hx hb hts inX4_sheet_X4 hown hK.1 hP 0 rfl rfl 3 (by decide) (hts (.fieldLink RX4 13 "HedgeHolesModel" "sheetLong" "[I") (by decide +kernel)) (fun _ h9 => h9) rfl dX4_sheet_48 ?_
          refine lv_iload_n (pc := 51) hx hb dX4_sheet_51 rfl (lv_at hl 1 rfl) ?_
          refine lv_iload_n (pc := 52) hx hb dX4_sheet_52 rfl (lv_at hl 3 rfl) ?_
          refine va_iast (pc := 53) (f := M_12 3) (n := 4) hx hb hK.1 hP hD hS 2 0 rfl rfl h11 dX4_sheet_53 (fun H locs hP hD hS => ?_)
          have hP : va_P D vwCl (wM cI oM aM (sB M_12 3 p0.toNatClampNeg p2)) H := hP
          have hD : va_D A (wM cI oM aM (sB M_12 3 p0.toNatClampNeg p2)) := hD
          obtain ⟨M_14, h15, hf⟩ := bd hf
          have h15 := Option.some.inj h15
          rw [h15] at hP hD
          refine lv_iconst (pc := 54) (v := 0) hx hb dX4_sheet_54 (by decide) ?_
          refine lv_istore (pc := 55) (lv' := [(4, .int 0), (0, .ref oM), (1, .int p0), (2, .int p1), (3, .int p2)]) hx hb dX4_sheet_55 hl (by decide) rfl (fun ls hl => ?_)
          refine zl2 (G := FX4_sheet_57 p0) (fun x4_16 M_17 => ∀ (ls : Array Slot) (H : Heap) (locs : List Loc), lv_has ls 5 [(0, .ref oM), (1, .int p0), (2, .int p1), (3, .int p2), (4, .int x4_16)] → va_P D vwCl (wM cI oM aM M_17) H → va_D A (wM cI oM aM M_17) → va_S A s.heap H locs → W p l e rmX4_sheet s m args below meth c H locs 0 0 Q (F0 m 57 ls [])) (fun x4_18 M_19 => ∀ (ls : Array Slot) (H : Heap) (locs : List Loc), lv_has ls 5 [(0, .ref oM), (1, .int p0), (2, .int p1), (3, .int p2), (4, .int x4_18)] → va_P D vwCl (wM cI oM aM M_19) H → va_D A (wM cI oM aM M_19) → va_S A s.heap H locs → W p l e rmX4_sheet s m args below meth c H locs 0 0 Q (F0 m 83 ls [])) hf (fun x4_18 M_19 hf => ?_) (fun kx slf hkx hslf x4_16 M_17 hf => ?_) ls H locs (lv_sub hl [1, 2, 3, 4, 0] rfl) hP hD hS
          · intro ls H locs hl hP hD hS
            refine lv_iconst (pc := 83) (v := 1) hx hb dX4_sheet_83 (by decide) ?_
            obtain rfl := Option.some.inj hf
            exact hRet 84 ls H locs (vp_nar_int _) dX4_sheet_84 hP hS
          · unfold FX4_sheet_57 at hf
            intro ls H locs hl hP hD hS
            refine lv_iload (pc := 57) hx hb dX4_sheet_57 (lv_at hl 4 rfl) ?_
            refine lv_bipush (pc := 59) (v := 60) hx hb dX4_sheet_59 (by decide) ?_
            refine lv_icmp_ge (pc := 61) (tgt := 83) hx hb dX4_sheet_61 (by decide) (fun c20 => ?_) (fun c20 => ?_)
            · have hf := iT c20 hf
              exact hkx _ _ hf ls H locs (lv_sub hl [0, 1, 2, 3, 4] rfl) hP hD hS
            · have hf := iF c20 hf
              refine lv_aload_n (pc := 64) hx hb dX4_sheet_64 rfl (lv_at hl 0 rfl) ?_
              refine va_get (pc := 65) (D := D) (ci := 4) (v := .ref (aM 4)) (C := RX4) (T := TX4) (N := 29) hx hb hts inX4_sheet_X4 hown hK.1 hP 0 rfl rfl 4 (by decide) (hts (.fieldLink RX4 16 "HedgeHolesModel" "cells" "[I") (by decide +kernel)) (fun _ h9 => h9) rfl dX4_sheet_65 ?_
              refine lv_bipush (pc := 68) (v := 60) hx hb dX4_sheet_68 (by decide) ?_
              refine lv_iload_n (pc := 70) hx hb dX4_sheet_70 rfl (lv_at hl 1 rfl) ?_
              refine lv_imul (pc := 71) hx hb dX4_sheet_71 ?_
              refine lv_iload (pc := 72) hx hb dX4_sheet_72 (lv_at hl 4 rfl) ?_
              refine lv_iadd (pc := 74) hx hb dX4_sheet_74 ?_
              refine lv_iconst (pc := 75) (v := 0) hx hb dX4_sheet_75 (by decide) ?_
              obtain ⟨h21, hf⟩ := gI_e hf
              refine va_iast (pc := 76) (f := M_17 4) (n := 240) hx hb hK.1 hP hD hS 3 0 rfl rfl h21 dX4_sheet_76 (fun H locs hP hD hS => ?_)
              have hP : va_P D vwCl (wM cI oM aM (sB M_17 4 (((60 * p0) + x4_16)).toNatClampNeg 0)) H := hP
              have hD : va_D A (wM cI oM aM (sB M_17 4 (((60 * p0) + x4_16)).toNatClampNeg 0)) := hD
              obtain ⟨M_22, h23, hf⟩ := bd hf
              have h23 := Option.some.inj h23
              rw [h23] at hP hD
              refine lv_iinc (pc := 77) (v := (x4_16 + 1)) (lv' := [(4, .int (x4_16 + 1)), (0, .ref oM), (1, .int p0), (2, .int p1), (3, .int p2)]) hx hb dX4_sheet_77 hl (k := 4) rfl rfl (by decide) rfl (fun ls hl => ?_)
              refine lv_goto (pc := 80) (tgt := 57) hx hb dX4_sheet_80 (by decide) ?_
              exact hslf _ _ hf ls H locs (lv_sub hl [1, 2, 3, 4, 0] rfl) hP hD hS
        · have hf := iF c10 hf
          refine lv_aload_n (pc := 34) hx hb dX4_sheet_34 rfl (lv_at hl 0 rfl) ?_
          refine lv_iconst (pc := 35) (v := 4) hx hb dX4_sheet_35 (by decide) ?_
          obtain ⟨v24, h25, hf⟩ := bd hf
          refine wsVi (pc := 36) (As := [.int 4]) (rest := []) (w1 := wM cI oM aM v24.2) CF (mtX4_fails l D cI cZ cQ oM aM M_1 4 H.size v24 h25) (cwV 1 hts gX4_sheet_X4_fails rfl rfl rfl ⟨rfl, hdX4_fails⟩ ⟨Nat.le_of_ble_eq_true rfl, Nat.le_of_ble_eq_true rfl⟩) hK hP hD hS hA rfl rfl rfl rfl rfl hl.1 rfl (Nat.le_of_ble_eq_true rfl) dX4_sheet_36 (fun H locs hP hD hS => ?_)
          obtain rfl := Option.some.inj hf
          exact hRet 39 ls H locs (vp_nar_int _) dX4_sheet_39 hP hS
      · have hf := iF c9 hf
        refine lv_bipush (pc := 27) (v := (-2)) hx hb dX4_sheet_27 (by decide) ?_
        obtain rfl := Option.some.inj hf
        exact hRet 29 ls H locs (vp_nar_int _) dX4_sheet_29 hP hS
  · have hf := iT c5 hf
    refine lv_iconst (pc := 12) (v := (-1)) hx hb dX4_sheet_12 (by decide) ?_
    obtain rfl := Option.some.inj hf
    exact hRet 13 ls H locs (vp_nar_int _) dX4_sheet_13 hP hS
theorem hdX4_sheet : yX4_sheet.cls ≠ "java/lang/invoke/MethodHandle" ∧ yX4_sheet.cls ≠ "java/lang/invoke/VarHandle" ∧ (parseMethodDescriptor yX4_sheet.desc).map (fun d => d.parameters.length) = some 3 := by decide +kernel
abbrev rmX4_lose : Room := { frames := 2, cells := 0, slots := 0, locals := 42 }
theorem inX4_lose_X4 : ∀ w ∈ wsX40, w ∈ wsX4_lose := fun _ h => List.mem_cons_of_mem _ (List.mem_append_right _ h)
set_option maxHeartbeats 4000000 in
set_option maxRecDepth 100000 in
theorem mtX4_lose (l : Launch) (D : va_G) (cI cZ cQ : ClassId) (oM : Nat) (aM : Nat → Nat) (M : Bk) (p0 : Int32) (sz : Nat) (out : (Int32 × Bk)) (hf : fX4_lose M p0 = some out) : Met l yX4_lose wsX4_lose rmX4_lose (WrP D cI cZ cQ [.ref oM, .int p0] (wM cI oM aM M) sz) (WrQi D out.1 (wM cI oM aM M) (wM cI oM aM out.2) sz) 0 0 (va_A (wM cI oM aM M) sz) := by
  refine metWi (ty := .int) (cc := cX4_lose) (maxL := 3) (by decide) rfl (Nat.le_of_ble_eq_true rfl) ?_
  intro p e s m args below meth c Q A CF hK hP hD hA hRet ls hl
  obtain ⟨hx, hb, hml, hown, hts⟩ := id CF
  have hS : va_S A s.heap s.heap [] := va_S.rf
  have hl : lv_has ls 3 [(0, .ref oM), (1, .int p0)] := hl
  unfold fX4_lose at hf
  refine lv_iload_n (pc := 0) hx hb dX4_lose_0 rfl (lv_at hl 1 rfl) ?_
  obtain ⟨v1, h2, hf⟩ := bd hf
  refine roSi (pc := 1) (As := [.int p0]) (rest := []) CF (mtX4_isSheet l D cI cZ cQ p0 v1 h2) (va_cwS 1 hts gX4_lose_X4_isSheet rfl rfl rfl hdX4_isSheet ⟨Nat.le_of_ble_eq_true rfl, Nat.le_of_ble_eq_true rfl⟩) hK P0 rfl hl.1 rfl (Nat.le_of_ble_eq_true rfl) dX4_lose_1 ?_
  refine lv_if_ne (pc := 4) (tgt := 9) hx hb dX4_lose_4 (by decide) (fun c3 => ?_) (fun c3 => ?_)
  · have hf := iF c3 hf
    refine lv_aload_n (pc := 9) hx hb dX4_lose_9 rfl (lv_at hl 0 rfl) ?_
    refine va_get (pc := 10) (D := D) (ci := 4) (v := .ref (aM 2)) (C := RX4) (T := TX4) (N := 29) hx hb hts inX4_lose_X4 hown hK.1 hP 0 rfl rfl 2 (by decide) (hts (.fieldLink RX4 9 "HedgeHolesModel" "sorts" "[I") (by decide +kernel)) (fun _ h9 => h9) rfl dX4_lose_10 ?_
    refine lv_iload_n (pc := 13) hx hb dX4_lose_13 rfl (lv_at hl 1 rfl) ?_
    obtain ⟨h4, hf⟩ := gI_e hf
    refine va_iald (pc := 14) (f := M 2) (n := 4) hx hb hK.1 hP 1 0 rfl rfl h4 dX4_lose_14 ?_
    refine lv_bipush (pc := 15) (v := (-9)) hx hb dX4_lose_15 (by decide) ?_
    obtain ⟨v5, hv, hf⟩ := bd hf
    have J6 : ∀ (ls : Array Slot), lv_has ls 3 [(0, .ref oM), (1, .int p0)] → W p l e rmX4_lose s m args below meth c s.heap [] 0 0 Q (F0 m 25 ls [.int v5]) := by
      intro ls hl
      refine lv_istore_n (pc := 25) (lv' := [(2, .int v5), (0, .ref oM), (1, .int p0)]) hx hb dX4_lose_25 rfl hl (by decide) rfl (fun ls hl => ?_)
      refine lv_aload_n (pc := 26) hx hb dX4_lose_26 rfl (lv_at hl 1 rfl) ?_
      refine va_get (pc := 27) (D := D) (ci := 4) (v := .ref (aM 2)) (C := RX4) (T := TX4) (N := 29) hx hb hts inX4_lose_X4 hown hK.1 hP 0 rfl rfl 2 (by decide) (hts (.fieldLink RX4 9 "HedgeHolesModel" "sorts" "[I") (by decide +kernel)) (fun _ h9 => h9) rfl dX4_lose_27 ?_
      refine lv_iload_n (pc := 30) hx hb dX4_lose_30 rfl (lv_at hl 2 rfl) ?_
      refine lv_bipush (pc := 31) (v := (-9)) hx hb dX4_lose_31 (by decide) ?_
      refine va_iast (pc := 33) (f := M 2) (n := 4) hx hb hK.1 hP hD hS 1 0 rfl rfl h4 dX4_lose_33 (fun H locs hP hD hS => ?_)
      have hP : va_P D vwCl (wM cI oM aM (sB M 2 p0.toNatClampNeg (-9))) H := hP
      have hD : va_D A (wM cI oM aM (sB M 2 p0.toNatClampNeg (-9))) := hD
      obtain ⟨M_7, h8, hf⟩ := bd hf
      have h8 := Option.some.inj h8
      rw [h8] at hP hD
      refine lv_iload_n (pc := 34) hx hb dX4_lose_34 rfl (lv_at hl 0 rfl) ?_
      obtain rfl := Option.some.inj hf
      exact hRet 35 ls H locs (vp_nar_int _) dX4_lose_35 hP hS
    clear hf
    have hf := hv
    clear hv
    refine lv_icmp_ne (pc := 17) (tgt := 24) hx hb dX4_lose_17 (by decide) (fun c9 => ?_) (fun c9 => ?_)
    · have hf := iF c9 hf
      refine lv_iconst (pc := 24) (v := 1) hx hb dX4_lose_24 (by decide) ?_
      obtain rfl := Option.some.inj hf
      exact J6 ls (lv_sub hl [0, 1] rfl)
    · have hf := iT c9 hf
      refine lv_iconst (pc := 20) (v := 0) hx hb dX4_lose_20 (by decide) ?_
      refine lv_goto (pc := 21) (tgt := 25) hx hb dX4_lose_21 (by decide) ?_
      obtain rfl := Option.some.inj hf
      exact J6 ls (lv_sub hl [0, 1] rfl)
  · have hf := iT c3 hf
    refine lv_iconst (pc := 7) (v := (-1)) hx hb dX4_lose_7 (by decide) ?_
    obtain rfl := Option.some.inj hf
    exact hRet 8 ls s.heap [] (vp_nar_int _) dX4_lose_8 hP hS
theorem hdX4_lose : yX4_lose.cls ≠ "java/lang/invoke/MethodHandle" ∧ yX4_lose.cls ≠ "java/lang/invoke/VarHandle" ∧ (parseMethodDescriptor yX4_lose.desc).map (fun d => d.parameters.length) = some 1 := by decide +kernel
abbrev rmX4_put : Room := { frames := 2, cells := 0, slots := 0, locals := 42 }
theorem inX4_put_X4 : ∀ w ∈ wsX40, w ∈ wsX4_put := fun _ h => List.mem_cons_of_mem _ (List.mem_append_right _ h)
set_option maxHeartbeats 4000000 in
set_option maxRecDepth 100000 in
theorem mtX4_put (l : Launch) (D : va_G) (cI cZ cQ : ClassId) (oM : Nat) (aM : Nat → Nat) (M : Bk) (p0 : Int32) (p1 : Int32) (p2 : Int32) (sz : Nat) (out : (Int32 × Bk)) (hf : fX4_put M p0 p1 p2 = some out) : Met l yX4_put wsX4_put rmX4_put (WrP D cI cZ cQ [.ref oM, .int p0, .int p1, .int p2] (wM cI oM aM M) sz) (WrQi D out.1 (wM cI oM aM M) (wM cI oM aM out.2) sz) 0 0 (va_A (wM cI oM aM M) sz) := by
  refine metWi (ty := .int) (cc := cX4_put) (maxL := 4) (by decide) rfl (Nat.le_of_ble_eq_true rfl) ?_
  intro p e s m args below meth c Q A CF hK hP hD hA hRet ls hl
  obtain ⟨hx, hb, hml, hown, hts⟩ := id CF
  have hS : va_S A s.heap s.heap [] := va_S.rf
  have hl : lv_has ls 4 [(0, .ref oM), (1, .int p0), (2, .int p1), (3, .int p2)] := hl
  unfold fX4_put at hf
  refine lv_aload_n (pc := 0) hx hb dX4_put_0 rfl (lv_at hl 0 rfl) ?_
  refine lv_iconst (pc := 1) (v := 0) hx hb dX4_put_1 (by decide) ?_
  refine va_put (pc := 2) (D := D) (ci := 4) (v := .int 0) (ty := .int) (C := RX4) (T := TX4) (N := 29) hx hb hts inX4_put_X4 tyX4 tyX4_ok nmX4 hown hK.1 hP hD hS 0 rfl rfl 0 (by decide) (hts (.fieldLink RX4 58 "HedgeHolesModel" "fault" "I") (by decide +kernel)) (fun _ h9 => h9) rfl (by decide +kernel) (vp_nar_int _) rfl (Nat.le_of_ble_eq_true rfl) dX4_put_2 (fun H locs hP hD hS => ?_)
  have hP : va_P D vwCl (wM cI oM aM (sB M 0 0 0)) H := hP
  have hD : va_D A (wM cI oM aM (sB M 0 0 0)) := hD
  obtain ⟨M_1, h2, hf⟩ := bd hf
  have h2 := Option.some.inj h2
  rw [h2] at hP hD
  refine lv_iload_n (pc := 5) hx hb dX4_put_5 rfl (lv_at hl 1 rfl) ?_
  obtain ⟨v3, h4, hf⟩ := bd hf
  refine roSi (pc := 6) (As := [.int p0]) (rest := []) CF (mtX4_isSheet l D cI cZ cQ p0 v3 h4) (va_cwS 1 hts gX4_put_X4_isSheet rfl rfl rfl hdX4_isSheet ⟨Nat.le_of_ble_eq_true rfl, Nat.le_of_ble_eq_true rfl⟩) hK P0 rfl hl.1 rfl (Nat.le_of_ble_eq_true rfl) dX4_put_6 ?_
  refine lv_if_ne (pc := 9) (tgt := 14) hx hb dX4_put_9 (by decide) (fun c5 => ?_) (fun c5 => ?_)
  · have hf := iF c5 hf
    refine lv_aload_n (pc := 14) hx hb dX4_put_14 rfl (lv_at hl 0 rfl) ?_
    refine va_get (pc := 15) (D := D) (ci := 4) (v := .ref (aM 2)) (C := RX4) (T := TX4) (N := 29) hx hb hts inX4_put_X4 hown hK.1 hP 0 rfl rfl 2 (by decide) (hts (.fieldLink RX4 9 "HedgeHolesModel" "sorts" "[I") (by decide +kernel)) (fun _ h9 => h9) rfl dX4_put_15 ?_
    refine lv_iload_n (pc := 18) hx hb dX4_put_18 rfl (lv_at hl 1 rfl) ?_
    obtain ⟨h6, hf⟩ := gI_e hf
    refine va_iald (pc := 19) (f := M_1 2) (n := 4) hx hb hK.1 hP 1 0 rfl rfl h6 dX4_put_19 ?_
    refine lv_bipush (pc := 20) (v := (-9)) hx hb dX4_put_20 (by decide) ?_
    refine lv_icmp_ne (pc := 22) (tgt := 31) hx hb dX4_put_22 (by decide) (fun c7 => ?_) (fun c7 => ?_)
    · have hf := iF c7 hf
      refine lv_iload_n (pc := 31) hx hb dX4_put_31 rfl (lv_at hl 2 rfl) ?_
      refine lv_iconst (pc := 32) (v := 0) hx hb dX4_put_32 (by decide) ?_
      refine lv_aload_n (pc := 33) hx hb dX4_put_33 rfl (lv_at hl 0 rfl) ?_
      refine va_get (pc := 34) (D := D) (ci := 4) (v := .ref (aM 3)) (C := RX4) (T := TX4) (N := 29) hx hb hts inX4_put_X4 hown hK.1 hP 0 rfl rfl 3 (by decide) (hts (.fieldLink RX4 13 "HedgeHolesModel" "sheetLong" "[I") (by decide +kernel)) (fun _ h9 => h9) rfl dX4_put_34 ?_
      refine lv_iload_n (pc := 37) hx hb dX4_put_37 rfl (lv_at hl 1 rfl) ?_
      refine va_iald (pc := 38) (f := M_1 3) (n := 4) hx hb hK.1 hP 2 0 rfl rfl h6 dX4_put_38 ?_
      refine lv_iconst (pc := 39) (v := 1) hx hb dX4_put_39 (by decide) ?_
      refine lv_isub (pc := 40) hx hb dX4_put_40 ?_
      obtain ⟨v8, h9, hf⟩ := bd hf
      refine roSi (pc := 41) (As := [.int p1, .int 0, .int ((M_1 3 p0.toNatClampNeg) - 1)]) (rest := []) CF (mtX4_within l D cI cZ cQ p1 0 ((M_1 3 p0.toNatClampNeg) - 1) v8 h9) (va_cwS 3 hts gX4_put_X4_within rfl rfl rfl hdX4_within ⟨Nat.le_of_ble_eq_true rfl, Nat.le_of_ble_eq_true rfl⟩) hK P0 rfl hl.1 rfl (Nat.le_of_ble_eq_true rfl) dX4_put_41 ?_
      refine lv_if_ne (pc := 44) (tgt := 53) hx hb dX4_put_44 (by decide) (fun c10 => ?_) (fun c10 => ?_)
      · have hf := iF c10 hf
        refine lv_aload_n (pc := 53) hx hb dX4_put_53 rfl (lv_at hl 0 rfl) ?_
        refine va_get (pc := 54) (D := D) (ci := 4) (v := .ref (aM 4)) (C := RX4) (T := TX4) (N := 29) hx hb hts inX4_put_X4 hown hK.1 hP 0 rfl rfl 4 (by decide) (hts (.fieldLink RX4 16 "HedgeHolesModel" "cells" "[I") (by decide +kernel)) (fun _ h9 => h9) rfl dX4_put_54 ?_
        refine lv_bipush (pc := 57) (v := 60) hx hb dX4_put_57 (by decide) ?_
        refine lv_iload_n (pc := 59) hx hb dX4_put_59 rfl (lv_at hl 1 rfl) ?_
        refine lv_imul (pc := 60) hx hb dX4_put_60 ?_
        refine lv_iload_n (pc := 61) hx hb dX4_put_61 rfl (lv_at hl 2 rfl) ?_
        refine lv_iadd (pc := 62) hx hb dX4_put_62 ?_
        refine lv_aload_n (pc := 63) hx hb dX4_put_63 rfl (lv_at hl 0 rfl) ?_
        refine va_get (pc := 64) (D := D) (ci := 4) (v := .ref (aM 2)) (C := RX4) (T := TX4) (N := 29) hx hb hts inX4_put_X4 hown hK.1 hP 0 rfl rfl 2 (by decide) (hts (.fieldLink RX4 9 "HedgeHolesModel" "sorts" "[I") (by decide +kernel)) (fun _ h9 => h9) rfl dX4_put_64 ?_
        refine lv_iload_n (pc := 67) hx hb dX4_put_67 rfl (lv_at hl 1 rfl) ?_
        refine va_iald (pc := 68) (f := M_1 2) (n := 4) hx hb hK.1 hP 1 0 rfl rfl h6 dX4_put_68 ?_
        obtain ⟨v11, hv, hf⟩ := bd hf
        have J12 : ∀ (ls : Array Slot), lv_has ls 4 [(0, .ref oM), (1, .int p0), (2, .int p1), (3, .int p2)] → W p l e rmX4_put s m args below meth c H locs 0 0 Q (F0 m 93 ls [.int v11, .int ((60 * p0) + p1), .ref (aM 4)]) := by
          intro ls hl
          obtain ⟨h13, hf⟩ := gI_e hf
          refine va_iast (pc := 93) (f := M_1 4) (n := 240) hx hb hK.1 hP hD hS 3 0 rfl rfl h13 dX4_put_93 (fun H locs hP hD hS => ?_)
          have hP : va_P D vwCl (wM cI oM aM (sB M_1 4 (((60 * p0) + p1)).toNatClampNeg v11)) H := hP
          have hD : va_D A (wM cI oM aM (sB M_1 4 (((60 * p0) + p1)).toNatClampNeg v11)) := hD
          obtain ⟨M_14, h15, hf⟩ := bd hf
          have h15 := Option.some.inj h15
          rw [h15] at hP hD
          refine lv_iconst (pc := 94) (v := 1) hx hb dX4_put_94 (by decide) ?_
          obtain rfl := Option.some.inj hf
          exact hRet 95 ls H locs (vp_nar_int _) dX4_put_95 hP hS
        clear hf
        have hf := hv
        clear hv
        refine lv_if_ne (pc := 69) (tgt := 77) hx hb dX4_put_69 (by decide) (fun c16 => ?_) (fun c16 => ?_)
        · have hf := iF c16 hf
          refine lv_aload_n (pc := 77) hx hb dX4_put_77 rfl (lv_at hl 0 rfl) ?_
          refine va_get (pc := 78) (D := D) (ci := 4) (v := .ref (aM 2)) (C := RX4) (T := TX4) (N := 29) hx hb hts inX4_put_X4 hown hK.1 hP 0 rfl rfl 2 (by decide) (hts (.fieldLink RX4 9 "HedgeHolesModel" "sorts" "[I") (by decide +kernel)) (fun _ h9 => h9) rfl dX4_put_78 ?_
          refine lv_iload_n (pc := 81) hx hb dX4_put_81 rfl (lv_at hl 1 rfl) ?_
          refine va_iald (pc := 82) (f := M_1 2) (n := 4) hx hb hK.1 hP 1 0 rfl rfl h6 dX4_put_82 ?_
          refine lv_iconst (pc := 83) (v := 1) hx hb dX4_put_83 (by decide) ?_
          refine lv_icmp_ne (pc := 84) (tgt := 92) hx hb dX4_put_84 (by decide) (fun c17 => ?_) (fun c17 => ?_)
          · have hf := iF c17 hf
            refine lv_iload_n (pc := 92) hx hb dX4_put_92 rfl (lv_at hl 3 rfl) ?_
            obtain rfl := Option.some.inj hf
            exact J12 ls (lv_sub hl [0, 1, 2, 3] rfl)
          · have hf := iT c17 hf
            refine lv_iload_n (pc := 87) hx hb dX4_put_87 rfl (lv_at hl 3 rfl) ?_
            refine lv_i2s (pc := 88) (v := (p2.toInt16.toInt32)) hx hb dX4_put_88 rfl ?_
            refine lv_goto (pc := 89) (tgt := 93) hx hb dX4_put_89 (by decide) ?_
            obtain rfl := Option.some.inj hf
            exact J12 ls (lv_sub hl [0, 1, 2, 3] rfl)
        · have hf := iT c16 hf
          refine lv_iload_n (pc := 72) hx hb dX4_put_72 rfl (lv_at hl 3 rfl) ?_
          refine lv_i2b (pc := 73) (v := (p2.toInt8.toInt32)) hx hb dX4_put_73 rfl ?_
          refine lv_goto (pc := 74) (tgt := 93) hx hb dX4_put_74 (by decide) ?_
          obtain rfl := Option.some.inj hf
          exact J12 ls (lv_sub hl [0, 1, 2, 3] rfl)
      · have hf := iT c10 hf
        refine lv_aload_n (pc := 47) hx hb dX4_put_47 rfl (lv_at hl 0 rfl) ?_
        refine lv_iconst (pc := 48) (v := 3) hx hb dX4_put_48 (by decide) ?_
        obtain ⟨v18, h19, hf⟩ := bd hf
        refine wsVi (pc := 49) (As := [.int 3]) (rest := []) (w1 := wM cI oM aM v18.2) CF (mtX4_fails l D cI cZ cQ oM aM M_1 3 H.size v18 h19) (cwV 1 hts gX4_put_X4_fails rfl rfl rfl ⟨rfl, hdX4_fails⟩ ⟨Nat.le_of_ble_eq_true rfl, Nat.le_of_ble_eq_true rfl⟩) hK hP hD hS hA rfl rfl rfl rfl rfl hl.1 rfl (Nat.le_of_ble_eq_true rfl) dX4_put_49 (fun H locs hP hD hS => ?_)
        obtain rfl := Option.some.inj hf
        exact hRet 52 ls H locs (vp_nar_int _) dX4_put_52 hP hS
    · have hf := iT c7 hf
      refine lv_aload_n (pc := 25) hx hb dX4_put_25 rfl (lv_at hl 0 rfl) ?_
      refine lv_iconst (pc := 26) (v := 1) hx hb dX4_put_26 (by decide) ?_
      obtain ⟨v20, h21, hf⟩ := bd hf
      refine wsVi (pc := 27) (As := [.int 1]) (rest := []) (w1 := wM cI oM aM v20.2) CF (mtX4_fails l D cI cZ cQ oM aM M_1 1 H.size v20 h21) (cwV 1 hts gX4_put_X4_fails rfl rfl rfl ⟨rfl, hdX4_fails⟩ ⟨Nat.le_of_ble_eq_true rfl, Nat.le_of_ble_eq_true rfl⟩) hK hP hD hS hA rfl rfl rfl rfl rfl hl.1 rfl (Nat.le_of_ble_eq_true rfl) dX4_put_27 (fun H locs hP hD hS => ?_)
      obtain rfl := Option.some.inj hf
      exact hRet 30 ls H locs (vp_nar_int _) dX4_put_30 hP hS
  · have hf := iT c5 hf
    refine lv_iconst (pc := 12) (v := (-1)) hx hb dX4_put_12 (by decide) ?_
    obtain rfl := Option.some.inj hf
    exact hRet 13 ls H locs (vp_nar_int _) dX4_put_13 hP hS
theorem hdX4_put : yX4_put.cls ≠ "java/lang/invoke/MethodHandle" ∧ yX4_put.cls ≠ "java/lang/invoke/VarHandle" ∧ (parseMethodDescriptor yX4_put.desc).map (fun d => d.parameters.length) = some 3 := by decide +kernel
abbrev rmX4_cell : Room := { frames := 2, cells := 0, slots := 0, locals := 42 }
theorem inX4_cell_X4 : ∀ w ∈ wsX40, w ∈ wsX4_cell := fun _ h => List.mem_cons_of_mem _ (List.mem_append_right _ h)
set_option maxHeartbeats 4000000 in
set_option maxRecDepth 100000 in
theorem mtX4_cell (l : Launch) (D : va_G) (cI cZ cQ : ClassId) (oM : Nat) (aM : Nat → Nat) (M : Bk) (p0 : Int32) (p1 : Int32) (p2 : Int32) (sz : Nat) (out : (Int64 × Bk)) (hf : fX4_cell M p0 p1 p2 = some out) : Met l yX4_cell wsX4_cell rmX4_cell (WrP D cI cZ cQ [.ref oM, .int p0, .int p1, .int p2] (wM cI oM aM M) sz) (WrQl D out.1 (wM cI oM aM M) (wM cI oM aM out.2) sz) 0 0 (va_A (wM cI oM aM M) sz) := by
  refine metWl (cc := cX4_cell) (maxL := 4) (by decide) rfl (Nat.le_of_ble_eq_true rfl) ?_
  intro p e s m args below meth c Q A CF hK hP hD hA hRet ls hl
  obtain ⟨hx, hb, hml, hown, hts⟩ := id CF
  have hS : va_S A s.heap s.heap [] := va_S.rf
  have hl : lv_has ls 4 [(0, .ref oM), (1, .int p0), (2, .int p1), (3, .int p2)] := hl
  unfold fX4_cell at hf
  refine lv_aload_n (pc := 0) hx hb dX4_cell_0 rfl (lv_at hl 0 rfl) ?_
  refine lv_iconst (pc := 1) (v := 0) hx hb dX4_cell_1 (by decide) ?_
  refine va_put (pc := 2) (D := D) (ci := 4) (v := .int 0) (ty := .int) (C := RX4) (T := TX4) (N := 29) hx hb hts inX4_cell_X4 tyX4 tyX4_ok nmX4 hown hK.1 hP hD hS 0 rfl rfl 0 (by decide) (hts (.fieldLink RX4 58 "HedgeHolesModel" "fault" "I") (by decide +kernel)) (fun _ h9 => h9) rfl (by decide +kernel) (vp_nar_int _) rfl (Nat.le_of_ble_eq_true rfl) dX4_cell_2 (fun H locs hP hD hS => ?_)
  have hP : va_P D vwCl (wM cI oM aM (sB M 0 0 0)) H := hP
  have hD : va_D A (wM cI oM aM (sB M 0 0 0)) := hD
  obtain ⟨M_1, h2, hf⟩ := bd hf
  have h2 := Option.some.inj h2
  rw [h2] at hP hD
  refine lv_iload_n (pc := 5) hx hb dX4_cell_5 rfl (lv_at hl 1 rfl) ?_
  obtain ⟨v3, h4, hf⟩ := bd hf
  refine roSi (pc := 6) (As := [.int p0]) (rest := []) CF (mtX4_isSheet l D cI cZ cQ p0 v3 h4) (va_cwS 1 hts gX4_cell_X4_isSheet rfl rfl rfl hdX4_isSheet ⟨Nat.le_of_ble_eq_true rfl, Nat.le_of_ble_eq_true rfl⟩) hK P0 rfl hl.1 rfl (Nat.le_of_ble_eq_true rfl) dX4_cell_6 ?_
  refine lv_if_eq (pc := 9) (tgt := 19) hx hb dX4_cell_9 (by decide) (fun c5 => ?_) (fun c5 => ?_)
  · have hf := iT c5 hf
    refine lv_ldc2 (pc := 19) (v := (-9223372036854775808)) hx hb hown (hts (.constantLong RX4 62 (-9223372036854775808)) (by decide +kernel)) dX4_cell_19 ?_
    obtain rfl := Option.some.inj hf
    exact hRet 22 ls H locs dX4_cell_22 hP hS
  · have hf := iF c5 hf
    refine lv_iload_n (pc := 12) hx hb dX4_cell_12 rfl (lv_at hl 3 rfl) ?_
    obtain ⟨v6, h7, hf⟩ := bd hf
    refine roSi (pc := 13) (As := [.int p2]) (rest := []) CF (mtX4_isSort l D cI cZ cQ p2 v6 h7) (va_cwS 1 hts gX4_cell_X4_isSort rfl rfl rfl hdX4_isSort ⟨Nat.le_of_ble_eq_true rfl, Nat.le_of_ble_eq_true rfl⟩) hK P0 rfl hl.1 rfl (Nat.le_of_ble_eq_true rfl) dX4_cell_13 ?_
    refine lv_if_ne (pc := 16) (tgt := 23) hx hb dX4_cell_16 (by decide) (fun c8 => ?_) (fun c8 => ?_)
    · have hf := iF c8 hf
      refine lv_aload_n (pc := 23) hx hb dX4_cell_23 rfl (lv_at hl 0 rfl) ?_
      refine va_get (pc := 24) (D := D) (ci := 4) (v := .ref (aM 2)) (C := RX4) (T := TX4) (N := 29) hx hb hts inX4_cell_X4 hown hK.1 hP 0 rfl rfl 2 (by decide) (hts (.fieldLink RX4 9 "HedgeHolesModel" "sorts" "[I") (by decide +kernel)) (fun _ h9 => h9) rfl dX4_cell_24 ?_
      refine lv_iload_n (pc := 27) hx hb dX4_cell_27 rfl (lv_at hl 1 rfl) ?_
      obtain ⟨h9, hf⟩ := gI_e hf
      refine va_iald (pc := 28) (f := M_1 2) (n := 4) hx hb hK.1 hP 1 0 rfl rfl h9 dX4_cell_28 ?_
      refine lv_bipush (pc := 29) (v := (-9)) hx hb dX4_cell_29 (by decide) ?_
      refine lv_icmp_eq (pc := 31) (tgt := 50) hx hb dX4_cell_31 (by decide) (fun c10 => ?_) (fun c10 => ?_)
      · have hf := iT c10 hf
        refine lv_aload_n (pc := 50) hx hb dX4_cell_50 rfl (lv_at hl 0 rfl) ?_
        refine va_get (pc := 51) (D := D) (ci := 4) (v := .ref (aM 2)) (C := RX4) (T := TX4) (N := 29) hx hb hts inX4_cell_X4 hown hK.1 hP 0 rfl rfl 2 (by decide) (hts (.fieldLink RX4 9 "HedgeHolesModel" "sorts" "[I") (by decide +kernel)) (fun _ h9 => h9) rfl dX4_cell_51 ?_
        refine lv_iload_n (pc := 54) hx hb dX4_cell_54 rfl (lv_at hl 1 rfl) ?_
        refine va_iald (pc := 55) (f := M_1 2) (n := 4) hx hb hK.1 hP 1 0 rfl rfl h9 dX4_cell_55 ?_
        refine lv_bipush (pc := 56) (v := (-9)) hx hb dX4_cell_56 (by decide) ?_
        refine lv_icmp_ne (pc := 58) (tgt := 67) hx hb dX4_cell_58 (by decide) (fun c11 => ?_) (fun c11 => ?_)
        · have hf := iF c11 hf
          refine lv_iload_n (pc := 67) hx hb dX4_cell_67 rfl (lv_at hl 2 rfl) ?_
          refine lv_iconst (pc := 68) (v := 0) hx hb dX4_cell_68 (by decide) ?_
          refine lv_aload_n (pc := 69) hx hb dX4_cell_69 rfl (lv_at hl 0 rfl) ?_
          refine va_get (pc := 70) (D := D) (ci := 4) (v := .ref (aM 3)) (C := RX4) (T := TX4) (N := 29) hx hb hts inX4_cell_X4 hown hK.1 hP 0 rfl rfl 3 (by decide) (hts (.fieldLink RX4 13 "HedgeHolesModel" "sheetLong" "[I") (by decide +kernel)) (fun _ h9 => h9) rfl dX4_cell_70 ?_
          refine lv_iload_n (pc := 73) hx hb dX4_cell_73 rfl (lv_at hl 1 rfl) ?_
          refine va_iald (pc := 74) (f := M_1 3) (n := 4) hx hb hK.1 hP 2 0 rfl rfl h9 dX4_cell_74 ?_
          refine lv_iconst (pc := 75) (v := 1) hx hb dX4_cell_75 (by decide) ?_
          refine lv_isub (pc := 76) hx hb dX4_cell_76 ?_
          obtain ⟨v12, h13, hf⟩ := bd hf
          refine roSi (pc := 77) (As := [.int p1, .int 0, .int ((M_1 3 p0.toNatClampNeg) - 1)]) (rest := []) CF (mtX4_within l D cI cZ cQ p1 0 ((M_1 3 p0.toNatClampNeg) - 1) v12 h13) (va_cwS 3 hts gX4_cell_X4_within rfl rfl rfl hdX4_within ⟨Nat.le_of_ble_eq_true rfl, Nat.le_of_ble_eq_true rfl⟩) hK P0 rfl hl.1 rfl (Nat.le_of_ble_eq_true rfl) dX4_cell_77 ?_
          refine lv_if_ne (pc := 80) (tgt := 89) hx hb dX4_cell_80 (by decide) (fun c14 => ?_) (fun c14 => ?_)
          · have hf := iF c14 hf
            refine lv_aload_n (pc := 89) hx hb dX4_cell_89 rfl (lv_at hl 0 rfl) ?_
            refine va_get (pc := 90) (D := D) (ci := 4) (v := .ref (aM 4)) (C := RX4) (T := TX4) (N := 29) hx hb hts inX4_cell_X4 hown hK.1 hP 0 rfl rfl 4 (by decide) (hts (.fieldLink RX4 16 "HedgeHolesModel" "cells" "[I") (by decide +kernel)) (fun _ h9 => h9) rfl dX4_cell_90 ?_
            refine lv_bipush (pc := 93) (v := 60) hx hb dX4_cell_93 (by decide) ?_
            refine lv_iload_n (pc := 95) hx hb dX4_cell_95 rfl (lv_at hl 1 rfl) ?_
            refine lv_imul (pc := 96) hx hb dX4_cell_96 ?_
            refine lv_iload_n (pc := 97) hx hb dX4_cell_97 rfl (lv_at hl 2 rfl) ?_
            refine lv_iadd (pc := 98) hx hb dX4_cell_98 ?_
            obtain ⟨h15, hf⟩ := gI_e hf
            refine va_iald (pc := 99) (f := M_1 4) (n := 240) hx hb hK.1 hP 3 0 rfl rfl h15 dX4_cell_99 ?_
            refine lv_i2l (pc := 100) (v := (((M_1 4 (((60 * p0) + p1)).toNatClampNeg)).toInt64)) hx hb dX4_cell_100 rfl ?_
            obtain rfl := Option.some.inj hf
            exact hRet 101 ls H locs dX4_cell_101 hP hS
          · have hf := iT c14 hf
            refine lv_aload_n (pc := 83) hx hb dX4_cell_83 rfl (lv_at hl 0 rfl) ?_
            refine lv_iconst (pc := 84) (v := 3) hx hb dX4_cell_84 (by decide) ?_
            obtain ⟨v16, h17, hf⟩ := bd hf
            refine wsVl (pc := 85) (As := [.int 3]) (rest := []) (w1 := wM cI oM aM v16.2) CF (mtX4_lost l D cI cZ cQ oM aM M_1 3 H.size v16 h17) (cwV 1 hts gX4_cell_X4_lost rfl rfl rfl ⟨rfl, hdX4_lost⟩ ⟨Nat.le_of_ble_eq_true rfl, Nat.le_of_ble_eq_true rfl⟩) hK hP hD hS hA rfl rfl rfl rfl rfl hl.1 rfl (Nat.le_of_ble_eq_true rfl) dX4_cell_85 (fun H locs hP hD hS => ?_)
            obtain rfl := Option.some.inj hf
            exact hRet 88 ls H locs dX4_cell_88 hP hS
        · have hf := iT c11 hf
          refine lv_aload_n (pc := 61) hx hb dX4_cell_61 rfl (lv_at hl 0 rfl) ?_
          refine lv_iconst (pc := 62) (v := 1) hx hb dX4_cell_62 (by decide) ?_
          obtain ⟨v18, h19, hf⟩ := bd hf
          refine wsVl (pc := 63) (As := [.int 1]) (rest := []) (w1 := wM cI oM aM v18.2) CF (mtX4_lost l D cI cZ cQ oM aM M_1 1 H.size v18 h19) (cwV 1 hts gX4_cell_X4_lost rfl rfl rfl ⟨rfl, hdX4_lost⟩ ⟨Nat.le_of_ble_eq_true rfl, Nat.le_of_ble_eq_true rfl⟩) hK hP hD hS hA rfl rfl rfl rfl rfl hl.1 rfl (Nat.le_of_ble_eq_true rfl) dX4_cell_63 (fun H locs hP hD hS => ?_)
          obtain rfl := Option.some.inj hf
          exact hRet 66 ls H locs dX4_cell_66 hP hS
      · have hf := iF c10 hf
        refine lv_aload_n (pc := 34) hx hb dX4_cell_34 rfl (lv_at hl 0 rfl) ?_
        refine va_get (pc := 35) (D := D) (ci := 4) (v := .ref (aM 2)) (C := RX4) (T := TX4) (N := 29) hx hb hts inX4_cell_X4 hown hK.1 hP 0 rfl rfl 2 (by decide) (hts (.fieldLink RX4 9 "HedgeHolesModel" "sorts" "[I") (by decide +kernel)) (fun _ h9 => h9) rfl dX4_cell_35 ?_
        refine lv_iload_n (pc := 38) hx hb dX4_cell_38 rfl (lv_at hl 1 rfl) ?_
        refine va_iald (pc := 39) (f := M_1 2) (n := 4) hx hb hK.1 hP 1 0 rfl rfl h9 dX4_cell_39 ?_
        refine lv_iload_n (pc := 40) hx hb dX4_cell_40 rfl (lv_at hl 3 rfl) ?_
        refine lv_icmp_eq (pc := 41) (tgt := 50) hx hb dX4_cell_41 (by decide) (fun c20 => ?_) (fun c20 => ?_)
        · have hf := iT c20 hf
          refine lv_aload_n (pc := 50) hx hb dX4_cell_50 rfl (lv_at hl 0 rfl) ?_
          refine va_get (pc := 51) (D := D) (ci := 4) (v := .ref (aM 2)) (C := RX4) (T := TX4) (N := 29) hx hb hts inX4_cell_X4 hown hK.1 hP 0 rfl rfl 2 (by decide) (hts (.fieldLink RX4 9 "HedgeHolesModel" "sorts" "[I") (by decide +kernel)) (fun _ h9 => h9) rfl dX4_cell_51 ?_
          refine lv_iload_n (pc := 54) hx hb dX4_cell_54 rfl (lv_at hl 1 rfl) ?_
          refine va_iald (pc := 55) (f := M_1 2) (n := 4) hx hb hK.1 hP 1 0 rfl rfl h9 dX4_cell_55 ?_
          refine lv_bipush (pc := 56) (v := (-9)) hx hb dX4_cell_56 (by decide) ?_
          refine lv_icmp_ne (pc := 58) (tgt := 67) hx hb dX4_cell_58 (by decide) (fun c21 => ?_) (fun c21 => ?_)
          · have hf := iF c21 hf
            refine lv_iload_n (pc := 67) hx hb dX4_cell_67 rfl (lv_at hl 2 rfl) ?_
            refine lv_iconst (pc := 68) (v := 0) hx hb dX4_cell_68 (by decide) ?_
            refine lv_aload_n (pc := 69) hx hb dX4_cell_69 rfl (lv_at hl 0 rfl) ?_
            refine va_get (pc := 70) (D := D) (ci := 4) (v := .ref (aM 3)) (C := RX4) (T := TX4) (N := 29) hx hb hts inX4_cell_X4 hown hK.1 hP 0 rfl rfl 3 (by decide) (hts (.fieldLink RX4 13 "HedgeHolesModel" "sheetLong" "[I") (by decide +kernel)) (fun _ h9 => h9) rfl dX4_cell_70 ?_
            refine lv_iload_n (pc := 73) hx hb dX4_cell_73 rfl (lv_at hl 1 rfl) ?_
            refine va_iald (pc := 74) (f := M_1 3) (n := 4) hx hb hK.1 hP 2 0 rfl rfl h9 dX4_cell_74 ?_
            refine lv_iconst (pc := 75) (v := 1) hx hb dX4_cell_75 (by decide) ?_
            refine lv_isub (pc := 76) hx hb dX4_cell_76 ?_
            obtain ⟨v22, h23, hf⟩ := bd hf
            refine roSi (pc := 77) (As := [.int p1, .int 0, .int ((M_1 3 p0.toNatClampNeg) - 1)]) (rest := []) CF (mtX4_within l D cI cZ cQ p1 0 ((M_1 3 p0.toNatClampNeg) - 1) v22 h23) (va_cwS 3 hts gX4_cell_X4_within rfl rfl rfl hdX4_within ⟨Nat.le_of_ble_eq_true rfl, Nat.le_of_ble_eq_true rfl⟩) hK P0 rfl hl.1 rfl (Nat.le_of_ble_eq_true rfl) dX4_cell_77 ?_
            refine lv_if_ne (pc := 80) (tgt := 89) hx hb dX4_cell_80 (by decide) (fun c24 => ?_) (fun c24 => ?_)
            · have hf := iF c24 hf
              refine lv_aload_n (pc := 89) hx hb dX4_cell_89 rfl (lv_at hl 0 rfl) ?_
              refine va_get (pc := 90) (D := D) (ci := 4) (v := .ref (aM 4)) (C := RX4) (T := TX4) (N := 29) hx hb hts inX4_cell_X4 hown hK.1 hP 0 rfl rfl 4 (by decide) (hts (.fieldLink RX4 16 "HedgeHolesModel" "cells" "[I") (by decide +kernel)) (fun _ h9 => h9) rfl dX4_cell_90 ?_
              refine lv_bipush (pc := 93) (v := 60) hx hb dX4_cell_93 (by decide) ?_
              refine lv_iload_n (pc := 95) hx hb dX4_cell_95 rfl (lv_at hl 1 rfl) ?_
              refine lv_imul (pc := 96) hx hb dX4_cell_96 ?_
              refine lv_iload_n (pc := 97) hx hb dX4_cell_97 rfl (lv_at hl 2 rfl) ?_
              refine lv_iadd (pc := 98) hx hb dX4_cell_98 ?_
              obtain ⟨h25, hf⟩ := gI_e hf
              refine va_iald (pc := 99) (f := M_1 4) (n := 240) hx hb hK.1 hP 3 0 rfl rfl h25 dX4_cell_99 ?_
              refine lv_i2l (pc := 100) (v := (((M_1 4 (((60 * p0) + p1)).toNatClampNeg)).toInt64)) hx hb dX4_cell_100 rfl ?_
              obtain rfl := Option.some.inj hf
              exact hRet 101 ls H locs dX4_cell_101 hP hS
            · have hf := iT c24 hf
              refine lv_aload_n (pc := 83) hx hb dX4_cell_83 rfl (lv_at hl 0 rfl) ?_
              refine lv_iconst (pc := 84) (v := 3) hx hb dX4_cell_84 (by decide) ?_
              obtain ⟨v26, h27, hf⟩ := bd hf
              refine wsVl (pc := 85) (As := [.int 3]) (rest := []) (w1 := wM cI oM aM v26.2) CF (mtX4_lost l D cI cZ cQ oM aM M_1 3 H.size v26 h27) (cwV 1 hts gX4_cell_X4_lost rfl rfl rfl ⟨rfl, hdX4_lost⟩ ⟨Nat.le_of_ble_eq_true rfl, Nat.le_of_ble_eq_true rfl⟩) hK hP hD hS hA rfl rfl rfl rfl rfl hl.1 rfl (Nat.le_of_ble_eq_true rfl) dX4_cell_85 (fun H locs hP hD hS => ?_)
              obtain rfl := Option.some.inj hf
              exact hRet 88 ls H locs dX4_cell_88 hP hS
          · have hf := iT c21 hf
            refine lv_aload_n (pc := 61) hx hb dX4_cell_61 rfl (lv_at hl 0 rfl) ?_
            refine lv_iconst (pc := 62) (v := 1) hx hb dX4_cell_62 (by decide) ?_
            obtain ⟨v28, h29, hf⟩ := bd hf
            refine wsVl (pc := 63) (As := [.int 1]) (rest := []) (w1 := wM cI oM aM v28.2) CF (mtX4_lost l D cI cZ cQ oM aM M_1 1 H.size v28 h29) (cwV 1 hts gX4_cell_X4_lost rfl rfl rfl ⟨rfl, hdX4_lost⟩ ⟨Nat.le_of_ble_eq_true rfl, Nat.le_of_ble_eq_true rfl⟩) hK hP hD hS hA rfl rfl rfl rfl rfl hl.1 rfl (Nat.le_of_ble_eq_true rfl) dX4_cell_63 (fun H locs hP hD hS => ?_)
            obtain rfl := Option.some.inj hf
            exact hRet 66 ls H locs dX4_cell_66 hP hS
        · have hf := iF c20 hf
          refine lv_aload_n (pc := 44) hx hb dX4_cell_44 rfl (lv_at hl 0 rfl) ?_
          refine lv_iconst (pc := 45) (v := 2) hx hb dX4_cell_45 (by decide) ?_
          obtain ⟨v30, h31, hf⟩ := bd hf
          refine wsVl (pc := 46) (As := [.int 2]) (rest := []) (w1 := wM cI oM aM v30.2) CF (mtX4_lost l D cI cZ cQ oM aM M_1 2 H.size v30 h31) (cwV 1 hts gX4_cell_X4_lost rfl rfl rfl ⟨rfl, hdX4_lost⟩ ⟨Nat.le_of_ble_eq_true rfl, Nat.le_of_ble_eq_true rfl⟩) hK hP hD hS hA rfl rfl rfl rfl rfl hl.1 rfl (Nat.le_of_ble_eq_true rfl) dX4_cell_46 (fun H locs hP hD hS => ?_)
          obtain rfl := Option.some.inj hf
          exact hRet 49 ls H locs dX4_cell_49 hP hS
    · have hf := iT c8 hf
      refine lv_ldc2 (pc := 19) (v := (-9223372036854775808)) hx hb hown (hts (.constantLong RX4 62 (-9223372036854775808)) (by decide +kernel)) dX4_cell_19 ?_
      obtain rfl := Option.some.inj hf
      exact hRet 22 ls H locs dX4_cell_22 hP hS
theorem hdX4_cell : yX4_cell.cls ≠ "java/lang/invoke/MethodHandle" ∧ yX4_cell.cls ≠ "java/lang/invoke/VarHandle" ∧ (parseMethodDescriptor yX4_cell.desc).map (fun d => d.parameters.length) = some 3 := by decide +kernel
abbrev rmX4_copy : Room := { frames := 2, cells := 0, slots := 0, locals := 42 }
theorem inX4_copy_X4 : ∀ w ∈ wsX40, w ∈ wsX4_copy := fun _ h => List.mem_cons_of_mem _ (List.mem_append_right _ h)
set_option maxHeartbeats 4000000 in
set_option maxRecDepth 100000 in
theorem mtX4_copy (l : Launch) (D : va_G) (cI cZ cQ : ClassId) (oM : Nat) (aM : Nat → Nat) (M : Bk) (p0 : Int32) (p1 : Int32) (p2 : Int32) (p3 : Int32) (p4 : Int32) (sz : Nat) (out : (Int32 × Bk)) (hf : fX4_copy M p0 p1 p2 p3 p4 = some out) : Met l yX4_copy wsX4_copy rmX4_copy (WrP D cI cZ cQ [.ref oM, .int p0, .int p1, .int p2, .int p3, .int p4] (wM cI oM aM M) sz) (WrQi D out.1 (wM cI oM aM M) (wM cI oM aM out.2) sz) 0 0 (va_A (wM cI oM aM M) sz) := by
  refine metWi (ty := .int) (cc := cX4_copy) (maxL := 10) (by decide) rfl (Nat.le_of_ble_eq_true rfl) ?_
  intro p e s m args below meth c Q A CF hK hP hD hA hRet ls hl
  obtain ⟨hx, hb, hml, hown, hts⟩ := id CF
  have hS : va_S A s.heap s.heap [] := va_S.rf
  have hl : lv_has ls 10 [(0, .ref oM), (1, .int p0), (2, .int p1), (3, .int p2), (4, .int p3), (5, .int p4)] := hl
  unfold fX4_copy at hf
  refine lv_aload_n (pc := 0) hx hb dX4_copy_0 rfl (lv_at hl 0 rfl) ?_
  refine lv_iconst (pc := 1) (v := 0) hx hb dX4_copy_1 (by decide) ?_
  refine va_put (pc := 2) (D := D) (ci := 4) (v := .int 0) (ty := .int) (C := RX4) (T := TX4) (N := 29) hx hb hts inX4_copy_X4 tyX4 tyX4_ok nmX4 hown hK.1 hP hD hS 0 rfl rfl 0 (by decide) (hts (.fieldLink RX4 58 "HedgeHolesModel" "fault" "I") (by decide +kernel)) (fun _ h9 => h9) rfl (by decide +kernel) (vp_nar_int _) rfl (Nat.le_of_ble_eq_true rfl) dX4_copy_2 (fun H locs hP hD hS => ?_)
  have hP : va_P D vwCl (wM cI oM aM (sB M 0 0 0)) H := hP
  have hD : va_D A (wM cI oM aM (sB M 0 0 0)) := hD
  obtain ⟨M_1, h2, hf⟩ := bd hf
  have h2 := Option.some.inj h2
  rw [h2] at hP hD
  refine lv_iload_n (pc := 5) hx hb dX4_copy_5 rfl (lv_at hl 1 rfl) ?_
  obtain ⟨v3, h4, hf⟩ := bd hf
  refine roSi (pc := 6) (As := [.int p0]) (rest := []) CF (mtX4_isSheet l D cI cZ cQ p0 v3 h4) (va_cwS 1 hts gX4_copy_X4_isSheet rfl rfl rfl hdX4_isSheet ⟨Nat.le_of_ble_eq_true rfl, Nat.le_of_ble_eq_true rfl⟩) hK P0 rfl hl.1 rfl (Nat.le_of_ble_eq_true rfl) dX4_copy_6 ?_
  refine lv_if_eq (pc := 9) (tgt := 19) hx hb dX4_copy_9 (by decide) (fun c5 => ?_) (fun c5 => ?_)
  · have hf := iT c5 hf
    refine lv_iconst (pc := 19) (v := (-1)) hx hb dX4_copy_19 (by decide) ?_
    obtain rfl := Option.some.inj hf
    exact hRet 20 ls H locs (vp_nar_int _) dX4_copy_20 hP hS
  · have hf := iF c5 hf
    refine lv_iload_n (pc := 12) hx hb dX4_copy_12 rfl (lv_at hl 3 rfl) ?_
    obtain ⟨v6, h7, hf⟩ := bd hf
    refine roSi (pc := 13) (As := [.int p2]) (rest := []) CF (mtX4_isSheet l D cI cZ cQ p2 v6 h7) (va_cwS 1 hts gX4_copy_X4_isSheet rfl rfl rfl hdX4_isSheet ⟨Nat.le_of_ble_eq_true rfl, Nat.le_of_ble_eq_true rfl⟩) hK P0 rfl hl.1 rfl (Nat.le_of_ble_eq_true rfl) dX4_copy_13 ?_
    refine lv_if_ne (pc := 16) (tgt := 21) hx hb dX4_copy_16 (by decide) (fun c8 => ?_) (fun c8 => ?_)
    · have hf := iF c8 hf
      refine lv_aload_n (pc := 21) hx hb dX4_copy_21 rfl (lv_at hl 0 rfl) ?_
      refine va_get (pc := 22) (D := D) (ci := 4) (v := .ref (aM 2)) (C := RX4) (T := TX4) (N := 29) hx hb hts inX4_copy_X4 hown hK.1 hP 0 rfl rfl 2 (by decide) (hts (.fieldLink RX4 9 "HedgeHolesModel" "sorts" "[I") (by decide +kernel)) (fun _ h9 => h9) rfl dX4_copy_22 ?_
      refine lv_iload_n (pc := 25) hx hb dX4_copy_25 rfl (lv_at hl 1 rfl) ?_
      obtain ⟨h9, hf⟩ := gI_e hf
      refine va_iald (pc := 26) (f := M_1 2) (n := 4) hx hb hK.1 hP 1 0 rfl rfl h9 dX4_copy_26 ?_
      refine lv_bipush (pc := 27) (v := (-9)) hx hb dX4_copy_27 (by decide) ?_
      refine lv_icmp_eq (pc := 29) (tgt := 43) hx hb dX4_copy_29 (by decide) (fun c10 => ?_) (fun c10 => ?_)
      · have hf := iT c10 hf
        refine lv_aload_n (pc := 43) hx hb dX4_copy_43 rfl (lv_at hl 0 rfl) ?_
        refine lv_iconst (pc := 44) (v := 1) hx hb dX4_copy_44 (by decide) ?_
        obtain ⟨v11, h12, hf⟩ := bd hf
        refine wsVi (pc := 45) (As := [.int 1]) (rest := []) (w1 := wM cI oM aM v11.2) CF (mtX4_fails l D cI cZ cQ oM aM M_1 1 H.size v11 h12) (cwV 1 hts gX4_copy_X4_fails rfl rfl rfl ⟨rfl, hdX4_fails⟩ ⟨Nat.le_of_ble_eq_true rfl, Nat.le_of_ble_eq_true rfl⟩) hK hP hD hS hA rfl rfl rfl rfl rfl hl.1 rfl (Nat.le_of_ble_eq_true rfl) dX4_copy_45 (fun H locs hP hD hS => ?_)
        obtain rfl := Option.some.inj hf
        exact hRet 48 ls H locs (vp_nar_int _) dX4_copy_48 hP hS
      · have hf := iF c10 hf
        refine lv_aload_n (pc := 32) hx hb dX4_copy_32 rfl (lv_at hl 0 rfl) ?_
        refine va_get (pc := 33) (D := D) (ci := 4) (v := .ref (aM 2)) (C := RX4) (T := TX4) (N := 29) hx hb hts inX4_copy_X4 hown hK.1 hP 0 rfl rfl 2 (by decide) (hts (.fieldLink RX4 9 "HedgeHolesModel" "sorts" "[I") (by decide +kernel)) (fun _ h9 => h9) rfl dX4_copy_33 ?_
        refine lv_iload_n (pc := 36) hx hb dX4_copy_36 rfl (lv_at hl 3 rfl) ?_
        obtain ⟨h13, hf⟩ := gI_e hf
        refine va_iald (pc := 37) (f := M_1 2) (n := 4) hx hb hK.1 hP 1 0 rfl rfl h13 dX4_copy_37 ?_
        refine lv_bipush (pc := 38) (v := (-9)) hx hb dX4_copy_38 (by decide) ?_
        refine lv_icmp_ne (pc := 40) (tgt := 49) hx hb dX4_copy_40 (by decide) (fun c14 => ?_) (fun c14 => ?_)
        · have hf := iF c14 hf
          refine lv_aload_n (pc := 49) hx hb dX4_copy_49 rfl (lv_at hl 0 rfl) ?_
          refine va_get (pc := 50) (D := D) (ci := 4) (v := .ref (aM 2)) (C := RX4) (T := TX4) (N := 29) hx hb hts inX4_copy_X4 hown hK.1 hP 0 rfl rfl 2 (by decide) (hts (.fieldLink RX4 9 "HedgeHolesModel" "sorts" "[I") (by decide +kernel)) (fun _ h9 => h9) rfl dX4_copy_50 ?_
          refine lv_iload_n (pc := 53) hx hb dX4_copy_53 rfl (lv_at hl 1 rfl) ?_
          refine va_iald (pc := 54) (f := M_1 2) (n := 4) hx hb hK.1 hP 1 0 rfl rfl h9 dX4_copy_54 ?_
          refine lv_aload_n (pc := 55) hx hb dX4_copy_55 rfl (lv_at hl 0 rfl) ?_
          refine va_get (pc := 56) (D := D) (ci := 4) (v := .ref (aM 2)) (C := RX4) (T := TX4) (N := 29) hx hb hts inX4_copy_X4 hown hK.1 hP 0 rfl rfl 2 (by decide) (hts (.fieldLink RX4 9 "HedgeHolesModel" "sorts" "[I") (by decide +kernel)) (fun _ h9 => h9) rfl dX4_copy_56 ?_
          refine lv_iload_n (pc := 59) hx hb dX4_copy_59 rfl (lv_at hl 3 rfl) ?_
          refine va_iald (pc := 60) (f := M_1 2) (n := 4) hx hb hK.1 hP 1 0 rfl rfl h13 dX4_copy_60 ?_
          refine lv_icmp_eq (pc := 61) (tgt := 70) hx hb dX4_copy_61 (by decide) (fun c15 => ?_) (fun c15 => ?_)
          · have hf := iT c15 hf
            refine lv_iload_n (pc := 70) hx hb dX4_copy_70 rfl (lv_at hl 2 rfl) ?_
            obtain ⟨v16, hv, hf⟩ := bd hf
            have J17 : ∀ (ls : Array Slot), lv_has ls 10 [(0, .ref oM), (1, .int p0), (2, .int p1), (3, .int p2), (4, .int p3), (5, .int p4)] → W p l e rmX4_copy s m args below meth c H locs 0 0 Q (F0 m 110 ls [.int v16]) := by
              intro ls hl
              refine lv_istore (pc := 110) (lv' := [(6, .int v16), (0, .ref oM), (1, .int p0), (2, .int p1), (3, .int p2), (4, .int p3), (5, .int p4)]) hx hb dX4_copy_110 hl (by decide) rfl (fun ls hl => ?_)
              refine lv_iload (pc := 112) hx hb dX4_copy_112 (lv_at hl 0 rfl) ?_
              refine lv_if_eq (pc := 114) (tgt := 144) hx hb dX4_copy_114 (by decide) (fun c18 => ?_) (fun c18 => ?_)
              · have hf := iT c18 hf
                refine lv_aload_n (pc := 144) hx hb dX4_copy_144 rfl (lv_at hl 1 rfl) ?_
                refine lv_iconst (pc := 145) (v := 3) hx hb dX4_copy_145 (by decide) ?_
                obtain ⟨v19, h20, hf⟩ := bd hf
                refine wsVi (pc := 146) (As := [.int 3]) (rest := []) (w1 := wM cI oM aM v19.2) CF (mtX4_fails l D cI cZ cQ oM aM M_1 3 H.size v19 h20) (cwV 1 hts gX4_copy_X4_fails rfl rfl rfl ⟨rfl, hdX4_fails⟩ ⟨Nat.le_of_ble_eq_true rfl, Nat.le_of_ble_eq_true rfl⟩) hK hP hD hS hA rfl rfl rfl rfl rfl hl.1 rfl (Nat.le_of_ble_eq_true rfl) dX4_copy_146 (fun H locs hP hD hS => ?_)
                obtain rfl := Option.some.inj hf
                exact hRet 149 ls H locs (vp_nar_int _) dX4_copy_149 hP hS
              · have hf := iF c18 hf
                refine lv_iload (pc := 117) hx hb dX4_copy_117 (lv_at hl 6 rfl) ?_
                refine lv_aload_n (pc := 119) hx hb dX4_copy_119 rfl (lv_at hl 1 rfl) ?_
                refine va_get (pc := 120) (D := D) (ci := 4) (v := .ref (aM 3)) (C := RX4) (T := TX4) (N := 29) hx hb hts inX4_copy_X4 hown hK.1 hP 0 rfl rfl 3 (by decide) (hts (.fieldLink RX4 13 "HedgeHolesModel" "sheetLong" "[I") (by decide +kernel)) (fun _ h9 => h9) rfl dX4_copy_120 ?_
                refine lv_iload_n (pc := 123) hx hb dX4_copy_123 rfl (lv_at hl 2 rfl) ?_
                refine va_iald (pc := 124) (f := M_1 3) (n := 4) hx hb hK.1 hP 2 0 rfl rfl h9 dX4_copy_124 ?_
                refine lv_iload_n (pc := 125) hx hb dX4_copy_125 rfl (lv_at hl 3 rfl) ?_
                refine lv_isub (pc := 126) hx hb dX4_copy_126 ?_
                refine lv_icmp_gt (pc := 127) (tgt := 144) hx hb dX4_copy_127 (by decide) (fun c21 => ?_) (fun c21 => ?_)
                · have hf := iT c21 hf
                  refine lv_aload_n (pc := 144) hx hb dX4_copy_144 rfl (lv_at hl 1 rfl) ?_
                  refine lv_iconst (pc := 145) (v := 3) hx hb dX4_copy_145 (by decide) ?_
                  obtain ⟨v22, h23, hf⟩ := bd hf
                  refine wsVi (pc := 146) (As := [.int 3]) (rest := []) (w1 := wM cI oM aM v22.2) CF (mtX4_fails l D cI cZ cQ oM aM M_1 3 H.size v22 h23) (cwV 1 hts gX4_copy_X4_fails rfl rfl rfl ⟨rfl, hdX4_fails⟩ ⟨Nat.le_of_ble_eq_true rfl, Nat.le_of_ble_eq_true rfl⟩) hK hP hD hS hA rfl rfl rfl rfl rfl hl.1 rfl (Nat.le_of_ble_eq_true rfl) dX4_copy_146 (fun H locs hP hD hS => ?_)
                  obtain rfl := Option.some.inj hf
                  exact hRet 149 ls H locs (vp_nar_int _) dX4_copy_149 hP hS
                · have hf := iF c21 hf
                  refine lv_iload (pc := 130) hx hb dX4_copy_130 (lv_at hl 6 rfl) ?_
                  refine lv_aload_n (pc := 132) hx hb dX4_copy_132 rfl (lv_at hl 1 rfl) ?_
                  refine va_get (pc := 133) (D := D) (ci := 4) (v := .ref (aM 3)) (C := RX4) (T := TX4) (N := 29) hx hb hts inX4_copy_X4 hown hK.1 hP 0 rfl rfl 3 (by decide) (hts (.fieldLink RX4 13 "HedgeHolesModel" "sheetLong" "[I") (by decide +kernel)) (fun _ h9 => h9) rfl dX4_copy_133 ?_
                  refine lv_iload_n (pc := 136) hx hb dX4_copy_136 rfl (lv_at hl 4 rfl) ?_
                  refine va_iald (pc := 137) (f := M_1 3) (n := 4) hx hb hK.1 hP 2 0 rfl rfl h13 dX4_copy_137 ?_
                  refine lv_iload (pc := 138) hx hb dX4_copy_138 (lv_at hl 5 rfl) ?_
                  refine lv_isub (pc := 140) hx hb dX4_copy_140 ?_
                  refine lv_icmp_le (pc := 141) (tgt := 150) hx hb dX4_copy_141 (by decide) (fun c24 => ?_) (fun c24 => ?_)
                  · have hf := iT c24 hf
                    refine lv_iload_n (pc := 150) hx hb dX4_copy_150 rfl (lv_at hl 3 rfl) ?_
                    refine lv_iload (pc := 151) hx hb dX4_copy_151 (lv_at hl 5 rfl) ?_
                    obtain ⟨v25, hv, hf⟩ := bd hf
                    have J26 : ∀ (ls : Array Slot), lv_has ls 10 [(0, .ref oM), (1, .int p0), (2, .int p1), (3, .int p2), (4, .int p3), (5, .int p4), (6, .int v16)] → W p l e rmX4_copy s m args below meth c H locs 0 0 Q (F0 m 161 ls [.int v25]) := by
                      intro ls hl
                      refine lv_istore (pc := 161) (lv' := [(7, .int v25), (0, .ref oM), (1, .int p0), (2, .int p1), (3, .int p2), (4, .int p3), (5, .int p4), (6, .int v16)]) hx hb dX4_copy_161 hl (by decide) rfl (fun ls hl => ?_)
                      refine lv_iconst (pc := 163) (v := 0) hx hb dX4_copy_163 (by decide) ?_
                      refine lv_istore (pc := 164) (lv' := [(8, .int 0), (7, .int v25), (0, .ref oM), (1, .int p0), (2, .int p1), (3, .int p2), (4, .int p3), (5, .int p4), (6, .int v16)]) hx hb dX4_copy_164 hl (by decide) rfl (fun ls hl => ?_)
                      refine zl2 (G := FX4_copy_166 p0 p1 p2 p3 p4 v25) (fun x8_27 M_28 => ∀ (ls : Array Slot) (H : Heap) (locs : List Loc), lv_has ls 10 [(0, .ref oM), (1, .int p0), (2, .int p1), (3, .int p2), (4, .int p3), (5, .int p4), (6, .int v16), (7, .int v25), (8, .int x8_27)] → va_P D vwCl (wM cI oM aM M_28) H → va_D A (wM cI oM aM M_28) → va_S A s.heap H locs → W p l e rmX4_copy s m args below meth c H locs 0 0 Q (F0 m 166 ls [])) (fun x8_29 M_30 => ∀ (ls : Array Slot) (H : Heap) (locs : List Loc), lv_has ls 10 [(0, .ref oM), (1, .int p0), (2, .int p1), (3, .int p2), (4, .int p3), (5, .int p4), (6, .int v16), (7, .int v25), (8, .int x8_29)] → va_P D vwCl (wM cI oM aM M_30) H → va_D A (wM cI oM aM M_30) → va_S A s.heap H locs → W p l e rmX4_copy s m args below meth c H locs 0 0 Q (F0 m 227 ls [])) hf (fun x8_29 M_30 hf => ?_) (fun kx slf hkx hslf x8_27 M_28 hf => ?_) ls H locs (lv_sub hl [2, 3, 4, 5, 6, 7, 8, 1, 0] rfl) hP hD hS
                      · intro ls H locs hl hP hD hS
                        refine lv_iload (pc := 227) hx hb dX4_copy_227 (lv_at hl 5 rfl) ?_
                        obtain rfl := Option.some.inj hf
                        exact hRet 229 ls H locs (vp_nar_int _) dX4_copy_229 hP hS
                      · unfold FX4_copy_166 at hf
                        intro ls H locs hl hP hD hS
                        refine lv_iload (pc := 166) hx hb dX4_copy_166 (lv_at hl 8 rfl) ?_
                        refine lv_iload (pc := 168) hx hb dX4_copy_168 (lv_at hl 5 rfl) ?_
                        refine lv_icmp_ge (pc := 170) (tgt := 227) hx hb dX4_copy_170 (by decide) (fun c31 => ?_) (fun c31 => ?_)
                        · have hf := iT c31 hf
                          exact hkx _ _ hf ls H locs (lv_sub hl [0, 1, 2, 3, 4, 5, 6, 7, 8] rfl) hP hD hS
                        · have hf := iF c31 hf
                          refine lv_iload (pc := 173) hx hb dX4_copy_173 (lv_at hl 7 rfl) ?_
                          obtain ⟨v32, hv, hf⟩ := bd hf
                          have J33 : ∀ (ls : Array Slot), lv_has ls 10 [(0, .ref oM), (1, .int p0), (2, .int p1), (3, .int p2), (4, .int p3), (5, .int p4), (6, .int v16), (7, .int v25), (8, .int x8_27)] → W p l e rmX4_copy s m args below meth c H locs 0 0 Q (F0 m 190 ls [.int v32]) := by
                            intro ls hl
                            refine lv_istore (pc := 190) (lv' := [(9, .int v32), (0, .ref oM), (1, .int p0), (2, .int p1), (3, .int p2), (4, .int p3), (5, .int p4), (6, .int v16), (7, .int v25), (8, .int x8_27)]) hx hb dX4_copy_190 hl (by decide) rfl (fun ls hl => ?_)
                            refine lv_aload_n (pc := 192) hx hb dX4_copy_192 rfl (lv_at hl 1 rfl) ?_
                            refine va_get (pc := 193) (D := D) (ci := 4) (v := .ref (aM 4)) (C := RX4) (T := TX4) (N := 29) hx hb hts inX4_copy_X4 hown hK.1 hP 0 rfl rfl 4 (by decide) (hts (.fieldLink RX4 16 "HedgeHolesModel" "cells" "[I") (by decide +kernel)) (fun _ h9 => h9) rfl dX4_copy_193 ?_
                            refine lv_bipush (pc := 196) (v := 60) hx hb dX4_copy_196 (by decide) ?_
                            refine lv_iload_n (pc := 198) hx hb dX4_copy_198 rfl (lv_at hl 4 rfl) ?_
                            refine lv_imul (pc := 199) hx hb dX4_copy_199 ?_
                            refine lv_iload (pc := 200) hx hb dX4_copy_200 (lv_at hl 5 rfl) ?_
                            refine lv_iadd (pc := 202) hx hb dX4_copy_202 ?_
                            refine lv_iload (pc := 203) hx hb dX4_copy_203 (lv_at hl 0 rfl) ?_
                            refine lv_iadd (pc := 205) hx hb dX4_copy_205 ?_
                            refine lv_aload_n (pc := 206) hx hb dX4_copy_206 rfl (lv_at hl 1 rfl) ?_
                            refine va_get (pc := 207) (D := D) (ci := 4) (v := .ref (aM 4)) (C := RX4) (T := TX4) (N := 29) hx hb hts inX4_copy_X4 hown hK.1 hP 0 rfl rfl 4 (by decide) (hts (.fieldLink RX4 16 "HedgeHolesModel" "cells" "[I") (by decide +kernel)) (fun _ h9 => h9) rfl dX4_copy_207 ?_
                            refine lv_bipush (pc := 210) (v := 60) hx hb dX4_copy_210 (by decide) ?_
                            refine lv_iload_n (pc := 212) hx hb dX4_copy_212 rfl (lv_at hl 2 rfl) ?_
                            refine lv_imul (pc := 213) hx hb dX4_copy_213 ?_
                            refine lv_iload_n (pc := 214) hx hb dX4_copy_214 rfl (lv_at hl 3 rfl) ?_
                            refine lv_iadd (pc := 215) hx hb dX4_copy_215 ?_
                            refine lv_iload (pc := 216) hx hb dX4_copy_216 (lv_at hl 0 rfl) ?_
                            refine lv_iadd (pc := 218) hx hb dX4_copy_218 ?_
                            obtain ⟨h34, hf⟩ := gI_e hf
                            refine va_iald (pc := 219) (f := M_28 4) (n := 240) hx hb hK.1 hP 3 0 rfl rfl h34 dX4_copy_219 ?_
                            obtain ⟨h35, hf⟩ := gI_e hf
                            refine va_iast (pc := 220) (f := M_28 4) (n := 240) hx hb hK.1 hP hD hS 3 0 rfl rfl h35 dX4_copy_220 (fun H locs hP hD hS => ?_)
                            have hP : va_P D vwCl (wM cI oM aM (sB M_28 4 ((((60 * p2) + p3) + v32)).toNatClampNeg (M_28 4 ((((60 * p0) + p1) + v32)).toNatClampNeg))) H := hP
                            have hD : va_D A (wM cI oM aM (sB M_28 4 ((((60 * p2) + p3) + v32)).toNatClampNeg (M_28 4 ((((60 * p0) + p1) + v32)).toNatClampNeg))) := hD
                            obtain ⟨M_36, h37, hf⟩ := bd hf
                            have h37 := Option.some.inj h37
                            rw [h37] at hP hD
                            refine lv_iinc (pc := 221) (v := (x8_27 + 1)) (lv' := [(8, .int (x8_27 + 1)), (9, .int v32), (0, .ref oM), (1, .int p0), (2, .int p1), (3, .int p2), (4, .int p3), (5, .int p4), (6, .int v16), (7, .int v25)]) hx hb dX4_copy_221 hl (k := 9) rfl rfl (by decide) rfl (fun ls hl => ?_)
                            refine lv_goto (pc := 224) (tgt := 166) hx hb dX4_copy_224 (by decide) ?_
                            exact hslf _ _ hf ls H locs (lv_sub hl [2, 3, 4, 5, 6, 7, 8, 9, 0] rfl) hP hD hS
                          clear hf
                          have hf := hv
                          clear hv
                          refine lv_if_eq (pc := 175) (tgt := 188) hx hb dX4_copy_175 (by decide) (fun c38 => ?_) (fun c38 => ?_)
                          · have hf := iT c38 hf
                            refine lv_iload (pc := 188) hx hb dX4_copy_188 (lv_at hl 8 rfl) ?_
                            obtain rfl := Option.some.inj hf
                            exact J33 ls (lv_sub hl [0, 1, 2, 3, 4, 5, 6, 7, 8] rfl)
                          · have hf := iF c38 hf
                            refine lv_iload (pc := 178) hx hb dX4_copy_178 (lv_at hl 5 rfl) ?_
                            refine lv_iconst (pc := 180) (v := 1) hx hb dX4_copy_180 (by decide) ?_
                            refine lv_isub (pc := 181) hx hb dX4_copy_181 ?_
                            refine lv_iload (pc := 182) hx hb dX4_copy_182 (lv_at hl 8 rfl) ?_
                            refine lv_isub (pc := 184) hx hb dX4_copy_184 ?_
                            refine lv_goto (pc := 185) (tgt := 190) hx hb dX4_copy_185 (by decide) ?_
                            obtain rfl := Option.some.inj hf
                            exact J33 ls (lv_sub hl [0, 1, 2, 3, 4, 5, 6, 7, 8] rfl)
                    clear hf
                    have hf := hv
                    clear hv
                    refine lv_icmp_ge (pc := 153) (tgt := 160) hx hb dX4_copy_153 (by decide) (fun c39 => ?_) (fun c39 => ?_)
                    · have hf := iT c39 hf
                      refine lv_iconst (pc := 160) (v := 0) hx hb dX4_copy_160 (by decide) ?_
                      obtain rfl := Option.some.inj hf
                      exact J26 ls (lv_sub hl [1, 2, 3, 4, 5, 6, 0] rfl)
                    · have hf := iF c39 hf
                      refine lv_iconst (pc := 156) (v := 1) hx hb dX4_copy_156 (by decide) ?_
                      refine lv_goto (pc := 157) (tgt := 161) hx hb dX4_copy_157 (by decide) ?_
                      obtain rfl := Option.some.inj hf
                      exact J26 ls (lv_sub hl [1, 2, 3, 4, 5, 6, 0] rfl)
                  · have hf := iF c24 hf
                    refine lv_aload_n (pc := 144) hx hb dX4_copy_144 rfl (lv_at hl 1 rfl) ?_
                    refine lv_iconst (pc := 145) (v := 3) hx hb dX4_copy_145 (by decide) ?_
                    obtain ⟨v40, h41, hf⟩ := bd hf
                    refine wsVi (pc := 146) (As := [.int 3]) (rest := []) (w1 := wM cI oM aM v40.2) CF (mtX4_fails l D cI cZ cQ oM aM M_1 3 H.size v40 h41) (cwV 1 hts gX4_copy_X4_fails rfl rfl rfl ⟨rfl, hdX4_fails⟩ ⟨Nat.le_of_ble_eq_true rfl, Nat.le_of_ble_eq_true rfl⟩) hK hP hD hS hA rfl rfl rfl rfl rfl hl.1 rfl (Nat.le_of_ble_eq_true rfl) dX4_copy_146 (fun H locs hP hD hS => ?_)
                    obtain rfl := Option.some.inj hf
                    exact hRet 149 ls H locs (vp_nar_int _) dX4_copy_149 hP hS
            clear hf
            have hf := hv
            clear hv
            refine lv_if_lt (pc := 71) (tgt := 109) hx hb dX4_copy_71 (by decide) (fun c42 => ?_) (fun c42 => ?_)
            · have hf := iT c42 hf
              refine lv_iconst (pc := 109) (v := 0) hx hb dX4_copy_109 (by decide) ?_
              obtain rfl := Option.some.inj hf
              exact J17 ls (lv_sub hl [0, 1, 2, 3, 4, 5] rfl)
            · have hf := iF c42 hf
              refine lv_iload (pc := 74) hx hb dX4_copy_74 (lv_at hl 4 rfl) ?_
              refine lv_if_lt (pc := 76) (tgt := 109) hx hb dX4_copy_76 (by decide) (fun c43 => ?_) (fun c43 => ?_)
              · have hf := iT c43 hf
                refine lv_iconst (pc := 109) (v := 0) hx hb dX4_copy_109 (by decide) ?_
                obtain rfl := Option.some.inj hf
                exact J17 ls (lv_sub hl [0, 1, 2, 3, 4, 5] rfl)
              · have hf := iF c43 hf
                refine lv_iload (pc := 79) hx hb dX4_copy_79 (lv_at hl 5 rfl) ?_
                refine lv_if_lt (pc := 81) (tgt := 109) hx hb dX4_copy_81 (by decide) (fun c44 => ?_) (fun c44 => ?_)
                · have hf := iT c44 hf
                  refine lv_iconst (pc := 109) (v := 0) hx hb dX4_copy_109 (by decide) ?_
                  obtain rfl := Option.some.inj hf
                  exact J17 ls (lv_sub hl [0, 1, 2, 3, 4, 5] rfl)
                · have hf := iF c44 hf
                  refine lv_iload_n (pc := 84) hx hb dX4_copy_84 rfl (lv_at hl 2 rfl) ?_
                  refine lv_aload_n (pc := 85) hx hb dX4_copy_85 rfl (lv_at hl 0 rfl) ?_
                  refine va_get (pc := 86) (D := D) (ci := 4) (v := .ref (aM 3)) (C := RX4) (T := TX4) (N := 29) hx hb hts inX4_copy_X4 hown hK.1 hP 0 rfl rfl 3 (by decide) (hts (.fieldLink RX4 13 "HedgeHolesModel" "sheetLong" "[I") (by decide +kernel)) (fun _ h9 => h9) rfl dX4_copy_86 ?_
                  refine lv_iload_n (pc := 89) hx hb dX4_copy_89 rfl (lv_at hl 1 rfl) ?_
                  refine va_iald (pc := 90) (f := M_1 3) (n := 4) hx hb hK.1 hP 2 0 rfl rfl h9 dX4_copy_90 ?_
                  refine lv_icmp_gt (pc := 91) (tgt := 109) hx hb dX4_copy_91 (by decide) (fun c45 => ?_) (fun c45 => ?_)
                  · have hf := iT c45 hf
                    refine lv_iconst (pc := 109) (v := 0) hx hb dX4_copy_109 (by decide) ?_
                    obtain rfl := Option.some.inj hf
                    exact J17 ls (lv_sub hl [0, 1, 2, 3, 4, 5] rfl)
                  · have hf := iF c45 hf
                    refine lv_iload (pc := 94) hx hb dX4_copy_94 (lv_at hl 4 rfl) ?_
                    refine lv_aload_n (pc := 96) hx hb dX4_copy_96 rfl (lv_at hl 0 rfl) ?_
                    refine va_get (pc := 97) (D := D) (ci := 4) (v := .ref (aM 3)) (C := RX4) (T := TX4) (N := 29) hx hb hts inX4_copy_X4 hown hK.1 hP 0 rfl rfl 3 (by decide) (hts (.fieldLink RX4 13 "HedgeHolesModel" "sheetLong" "[I") (by decide +kernel)) (fun _ h9 => h9) rfl dX4_copy_97 ?_
                    refine lv_iload_n (pc := 100) hx hb dX4_copy_100 rfl (lv_at hl 3 rfl) ?_
                    refine va_iald (pc := 101) (f := M_1 3) (n := 4) hx hb hK.1 hP 2 0 rfl rfl h13 dX4_copy_101 ?_
                    refine lv_icmp_gt (pc := 102) (tgt := 109) hx hb dX4_copy_102 (by decide) (fun c46 => ?_) (fun c46 => ?_)
                    · have hf := iT c46 hf
                      refine lv_iconst (pc := 109) (v := 0) hx hb dX4_copy_109 (by decide) ?_
                      obtain rfl := Option.some.inj hf
                      exact J17 ls (lv_sub hl [0, 1, 2, 3, 4, 5] rfl)
                    · have hf := iF c46 hf
                      refine lv_iconst (pc := 105) (v := 1) hx hb dX4_copy_105 (by decide) ?_
                      refine lv_goto (pc := 106) (tgt := 110) hx hb dX4_copy_106 (by decide) ?_
                      obtain rfl := Option.some.inj hf
                      exact J17 ls (lv_sub hl [0, 1, 2, 3, 4, 5] rfl)
          · have hf := iF c15 hf
            refine lv_aload_n (pc := 64) hx hb dX4_copy_64 rfl (lv_at hl 0 rfl) ?_
            refine lv_iconst (pc := 65) (v := 2) hx hb dX4_copy_65 (by decide) ?_
            obtain ⟨v47, h48, hf⟩ := bd hf
            refine wsVi (pc := 66) (As := [.int 2]) (rest := []) (w1 := wM cI oM aM v47.2) CF (mtX4_fails l D cI cZ cQ oM aM M_1 2 H.size v47 h48) (cwV 1 hts gX4_copy_X4_fails rfl rfl rfl ⟨rfl, hdX4_fails⟩ ⟨Nat.le_of_ble_eq_true rfl, Nat.le_of_ble_eq_true rfl⟩) hK hP hD hS hA rfl rfl rfl rfl rfl hl.1 rfl (Nat.le_of_ble_eq_true rfl) dX4_copy_66 (fun H locs hP hD hS => ?_)
            obtain rfl := Option.some.inj hf
            exact hRet 69 ls H locs (vp_nar_int _) dX4_copy_69 hP hS
        · have hf := iT c14 hf
          refine lv_aload_n (pc := 43) hx hb dX4_copy_43 rfl (lv_at hl 0 rfl) ?_
          refine lv_iconst (pc := 44) (v := 1) hx hb dX4_copy_44 (by decide) ?_
          obtain ⟨v49, h50, hf⟩ := bd hf
          refine wsVi (pc := 45) (As := [.int 1]) (rest := []) (w1 := wM cI oM aM v49.2) CF (mtX4_fails l D cI cZ cQ oM aM M_1 1 H.size v49 h50) (cwV 1 hts gX4_copy_X4_fails rfl rfl rfl ⟨rfl, hdX4_fails⟩ ⟨Nat.le_of_ble_eq_true rfl, Nat.le_of_ble_eq_true rfl⟩) hK hP hD hS hA rfl rfl rfl rfl rfl hl.1 rfl (Nat.le_of_ble_eq_true rfl) dX4_copy_45 (fun H locs hP hD hS => ?_)
          obtain rfl := Option.some.inj hf
          exact hRet 48 ls H locs (vp_nar_int _) dX4_copy_48 hP hS
    · have hf := iT c8 hf
      refine lv_iconst (pc := 19) (v := (-1)) hx hb dX4_copy_19 (by decide) ?_
      obtain rfl := Option.some.inj hf
      exact hRet 20 ls H locs (vp_nar_int _) dX4_copy_20 hP hS
theorem hdX4_copy : yX4_copy.cls ≠ "java/lang/invoke/MethodHandle" ∧ yX4_copy.cls ≠ "java/lang/invoke/VarHandle" ∧ (parseMethodDescriptor yX4_copy.desc).map (fun d => d.parameters.length) = some 5 := by decide +kernel
abbrev rmX4_begins : Room := { frames := 0, cells := 0, slots := 0, locals := 0 }
theorem inX4_begins_X4 : ∀ w ∈ wsX40, w ∈ wsX4_begins := fun _ h => List.mem_cons_of_mem _ (List.mem_append_right _ h)
set_option maxHeartbeats 4000000 in
set_option maxRecDepth 100000 in
theorem mtX4_begins (l : Launch) (D : va_G) (cI cZ cQ : ClassId) (oM : Nat) (aM : Nat → Nat) (M : Bk) (p0 : Int32) (sz : Nat) (out : Bk) (hf : fX4_begins M p0 = some out) : Met l yX4_begins wsX4_begins rmX4_begins (WrP D cI cZ cQ [.ref oM, .int p0] (wM cI oM aM M) sz) (WrQv D (wM cI oM aM M) (wM cI oM aM out) sz) 0 0 (va_A (wM cI oM aM M) sz) := by
  refine metWv (cc := cX4_begins) (maxL := 2) (by decide) rfl (Nat.le_of_ble_eq_true rfl) ?_
  intro p e s m args below meth c Q A CF hK hP hD hA hRet ls hl
  obtain ⟨hx, hb, hml, hown, hts⟩ := id CF
  have hS : va_S A s.heap s.heap [] := va_S.rf
  have hl : lv_has ls 2 [(0, .ref oM), (1, .int p0)] := hl
  unfold fX4_begins at hf
  refine lv_aload_n (pc := 0) hx hb dX4_begins_0 rfl (lv_at hl 0 rfl) ?_
  refine lv_bipush (pc := 1) (v := 31) hx hb dX4_begins_1 (by decide) ?_
  refine lv_aload_n (pc := 3) hx hb dX4_begins_3 rfl (lv_at hl 0 rfl) ?_
  refine va_get (pc := 4) (D := D) (ci := 4) (v := .int (M 1 0)) (C := RX4) (T := TX4) (N := 29) hx hb hts inX4_begins_X4 hown hK.1 hP 0 rfl rfl 1 (by decide) (hts (.fieldLink RX4 219 "HedgeHolesModel" "trace" "I") (by decide +kernel)) (fun _ h9 => h9) rfl dX4_begins_4 ?_
  refine lv_imul (pc := 7) hx hb dX4_begins_7 ?_
  refine lv_iload_n (pc := 8) hx hb dX4_begins_8 rfl (lv_at hl 1 rfl) ?_
  refine lv_iadd (pc := 9) hx hb dX4_begins_9 ?_
  refine va_put (pc := 10) (D := D) (ci := 4) (v := .int ((31 * (M 1 0)) + p0)) (ty := .int) (C := RX4) (T := TX4) (N := 29) hx hb hts inX4_begins_X4 tyX4 tyX4_ok nmX4 hown hK.1 hP hD hS 0 rfl rfl 1 (by decide) (hts (.fieldLink RX4 219 "HedgeHolesModel" "trace" "I") (by decide +kernel)) (fun _ h9 => h9) rfl (by decide +kernel) (vp_nar_int _) rfl (Nat.le_of_ble_eq_true rfl) dX4_begins_10 (fun H locs hP hD hS => ?_)
  have hP : va_P D vwCl (wM cI oM aM (sB M 1 0 ((31 * (M 1 0)) + p0))) H := hP
  have hD : va_D A (wM cI oM aM (sB M 1 0 ((31 * (M 1 0)) + p0))) := hD
  obtain ⟨M_1, h2, hf⟩ := bd hf
  have h2 := Option.some.inj h2
  rw [h2] at hP hD
  obtain rfl := Option.some.inj hf
  exact hRet 13 ls H locs dX4_begins_13 hP hS
theorem hdX4_begins : yX4_begins.cls ≠ "java/lang/invoke/MethodHandle" ∧ yX4_begins.cls ≠ "java/lang/invoke/VarHandle" ∧ (parseMethodDescriptor yX4_begins.desc).map (fun d => d.parameters.length) = some 1 := by decide +kernel
abbrev rmX4_tell : Room := { frames := 1, cells := 0, slots := 0, locals := 21 }
theorem inX4_tell_X4 : ∀ w ∈ wsX40, w ∈ wsX4_tell := fun _ h => List.mem_cons_of_mem _ (List.mem_append_right _ h)
set_option maxHeartbeats 4000000 in
set_option maxRecDepth 100000 in
theorem mtX4_tell (l : Launch) (D : va_G) (cI cZ cQ : ClassId) (oM : Nat) (aM : Nat → Nat) (M : Bk) (p0 : Int32) (sz : Nat) (out : (Int32 × Bk)) (hf : fX4_tell M p0 = some out) : Met l yX4_tell wsX4_tell rmX4_tell (WrP D cI cZ cQ [.ref oM, .int p0] (wM cI oM aM M) sz) (WrQi D out.1 (wM cI oM aM M) (wM cI oM aM out.2) sz) 0 0 (va_A (wM cI oM aM M) sz) := by
  refine metWi (ty := .int) (cc := cX4_tell) (maxL := 3) (by decide) rfl (Nat.le_of_ble_eq_true rfl) ?_
  intro p e s m args below meth c Q A CF hK hP hD hA hRet ls hl
  obtain ⟨hx, hb, hml, hown, hts⟩ := id CF
  have hS : va_S A s.heap s.heap [] := va_S.rf
  have hl : lv_has ls 3 [(0, .ref oM), (1, .int p0)] := hl
  unfold fX4_tell at hf
  refine lv_aload_n (pc := 0) hx hb dX4_tell_0 rfl (lv_at hl 0 rfl) ?_
  refine lv_iload_n (pc := 1) hx hb dX4_tell_1 rfl (lv_at hl 1 rfl) ?_
  obtain ⟨v1, h2, hf⟩ := bd hf
  refine roVi (pc := 2) (As := [.int p0]) (rest := []) CF (mtX4_isGoer l D cI cZ cQ oM aM M p0 v1 h2) (cwV 1 hts gX4_tell_X4_isGoer rfl rfl rfl ⟨rfl, hdX4_isGoer⟩ ⟨Nat.le_of_ble_eq_true rfl, Nat.le_of_ble_eq_true rfl⟩) hK hP rfl rfl rfl rfl hl.1 rfl (Nat.le_of_ble_eq_true rfl) dX4_tell_2 ?_
  refine lv_if_ne (pc := 5) (tgt := 10) hx hb dX4_tell_5 (by decide) (fun c3 => ?_) (fun c3 => ?_)
  · have hf := iF c3 hf
    refine lv_aload_n (pc := 10) hx hb dX4_tell_10 rfl (lv_at hl 0 rfl) ?_
    refine va_get (pc := 11) (D := D) (ci := 4) (v := .ref (aM 12)) (C := RX4) (T := TX4) (N := 29) hx hb hts inX4_tell_X4 hown hK.1 hP 0 rfl rfl 12 (by decide) (hts (.fieldLink RX4 25 "HedgeHolesModel" "girth" "[I") (by decide +kernel)) (fun _ h9 => h9) rfl dX4_tell_11 ?_
    refine lv_iload_n (pc := 14) hx hb dX4_tell_14 rfl (lv_at hl 1 rfl) ?_
    obtain ⟨h4, hf⟩ := gI_e hf
    refine va_iald (pc := 15) (f := M 12) (n := 5) hx hb hK.1 hP 6 0 rfl rfl h4 dX4_tell_15 ?_
    refine lv_istore_n (pc := 16) (lv' := [(2, .int (M 12 p0.toNatClampNeg)), (0, .ref oM), (1, .int p0)]) hx hb dX4_tell_16 rfl hl (by decide) rfl (fun ls hl => ?_)
    refine lv_aload_n (pc := 17) hx hb dX4_tell_17 rfl (lv_at hl 1 rfl) ?_
    refine va_get (pc := 18) (D := D) (ci := 4) (v := .ref (aM 11)) (C := RX4) (T := TX4) (N := 29) hx hb hts inX4_tell_X4 hown hK.1 hP 0 rfl rfl 11 (by decide) (hts (.fieldLink RX4 22 "HedgeHolesModel" "kind" "[I") (by decide +kernel)) (fun _ h9 => h9) rfl dX4_tell_18 ?_
    refine lv_iload_n (pc := 21) hx hb dX4_tell_21 rfl (lv_at hl 2 rfl) ?_
    refine va_iald (pc := 22) (f := M 11) (n := 5) hx hb hK.1 hP 5 0 rfl rfl h4 dX4_tell_22 ?_
    by_cases c5 : (M 11 p0.toNatClampNeg) = 1
    · have hf := iT c5 hf
      refine lv_lookup (pc := 23) (tgt := 48) (off := 25) hx hb dX4_tell_23 (by decide) (by rw [c5]; rfl) (by decide) ?_
      refine lv_aload_n (pc := 48) hx hb dX4_tell_48 rfl (lv_at hl 1 rfl) ?_
      refine lv_iconst (pc := 49) (v := 2) hx hb dX4_tell_49 (by decide) ?_
      obtain ⟨v6, h7, hf⟩ := bd hf
      refine wsVv (pc := 50) (As := [.int 2]) (rest := []) (w1 := wM cI oM aM v6) CF (mtX4_begins l D cI cZ cQ oM aM M 2 s.heap.size v6 h7) (cwV 1 hts gX4_tell_X4_begins rfl rfl rfl ⟨rfl, hdX4_begins⟩ ⟨Nat.le_of_ble_eq_true rfl, Nat.le_of_ble_eq_true rfl⟩) hK hP hD hS hA rfl rfl rfl rfl rfl hl.1 rfl (Nat.le_of_ble_eq_true rfl) dX4_tell_50 (fun H locs hP hD hS => ?_)
      refine lv_aload_n (pc := 53) hx hb dX4_tell_53 rfl (lv_at hl 1 rfl) ?_
      refine lv_iconst (pc := 54) (v := 1) hx hb dX4_tell_54 (by decide) ?_
      obtain ⟨v8, h9, hf⟩ := bd hf
      refine wsVv (pc := 55) (As := [.int 1]) (rest := []) (w1 := wM cI oM aM v8) CF (mtX4_begins l D cI cZ cQ oM aM v6 1 H.size v8 h9) (cwV 1 hts gX4_tell_X4_begins rfl rfl rfl ⟨rfl, hdX4_begins⟩ ⟨Nat.le_of_ble_eq_true rfl, Nat.le_of_ble_eq_true rfl⟩) hK hP hD hS hA rfl rfl rfl rfl rfl hl.1 rfl (Nat.le_of_ble_eq_true rfl) dX4_tell_55 (fun H locs hP hD hS => ?_)
      refine lv_iload_n (pc := 58) hx hb dX4_tell_58 rfl (lv_at hl 0 rfl) ?_
      refine lv_bipush (pc := 59) (v := 100) hx hb dX4_tell_59 (by decide) ?_
      refine lv_iadd (pc := 61) hx hb dX4_tell_61 ?_
      obtain rfl := Option.some.inj hf
      exact hRet 62 ls H locs (vp_nar_int _) dX4_tell_62 hP hS
    · have hf := iF c5 hf
      by_cases c10 : (M 11 p0.toNatClampNeg) = 2
      · have hf := iT c10 hf
        refine lv_lookup (pc := 23) (tgt := 63) (off := 40) hx hb dX4_tell_23 (by decide) (by rw [c10]; rfl) (by decide) ?_
        refine lv_aload_n (pc := 63) hx hb dX4_tell_63 rfl (lv_at hl 1 rfl) ?_
        refine lv_iconst (pc := 64) (v := 3) hx hb dX4_tell_64 (by decide) ?_
        obtain ⟨v11, h12, hf⟩ := bd hf
        refine wsVv (pc := 65) (As := [.int 3]) (rest := []) (w1 := wM cI oM aM v11) CF (mtX4_begins l D cI cZ cQ oM aM M 3 s.heap.size v11 h12) (cwV 1 hts gX4_tell_X4_begins rfl rfl rfl ⟨rfl, hdX4_begins⟩ ⟨Nat.le_of_ble_eq_true rfl, Nat.le_of_ble_eq_true rfl⟩) hK hP hD hS hA rfl rfl rfl rfl rfl hl.1 rfl (Nat.le_of_ble_eq_true rfl) dX4_tell_65 (fun H locs hP hD hS => ?_)
        refine lv_aload_n (pc := 68) hx hb dX4_tell_68 rfl (lv_at hl 1 rfl) ?_
        refine lv_iconst (pc := 69) (v := 2) hx hb dX4_tell_69 (by decide) ?_
        obtain ⟨v13, h14, hf⟩ := bd hf
        refine wsVv (pc := 70) (As := [.int 2]) (rest := []) (w1 := wM cI oM aM v13) CF (mtX4_begins l D cI cZ cQ oM aM v11 2 H.size v13 h14) (cwV 1 hts gX4_tell_X4_begins rfl rfl rfl ⟨rfl, hdX4_begins⟩ ⟨Nat.le_of_ble_eq_true rfl, Nat.le_of_ble_eq_true rfl⟩) hK hP hD hS hA rfl rfl rfl rfl rfl hl.1 rfl (Nat.le_of_ble_eq_true rfl) dX4_tell_70 (fun H locs hP hD hS => ?_)
        refine lv_aload_n (pc := 73) hx hb dX4_tell_73 rfl (lv_at hl 1 rfl) ?_
        refine lv_iconst (pc := 74) (v := 1) hx hb dX4_tell_74 (by decide) ?_
        obtain ⟨v15, h16, hf⟩ := bd hf
        refine wsVv (pc := 75) (As := [.int 1]) (rest := []) (w1 := wM cI oM aM v15) CF (mtX4_begins l D cI cZ cQ oM aM v13 1 H.size v15 h16) (cwV 1 hts gX4_tell_X4_begins rfl rfl rfl ⟨rfl, hdX4_begins⟩ ⟨Nat.le_of_ble_eq_true rfl, Nat.le_of_ble_eq_true rfl⟩) hK hP hD hS hA rfl rfl rfl rfl rfl hl.1 rfl (Nat.le_of_ble_eq_true rfl) dX4_tell_75 (fun H locs hP hD hS => ?_)
        refine lv_aload_n (pc := 78) hx hb dX4_tell_78 rfl (lv_at hl 1 rfl) ?_
        refine lv_iconst (pc := 79) (v := 1) hx hb dX4_tell_79 (by decide) ?_
        obtain ⟨v17, h18, hf⟩ := bd hf
        refine wsVv (pc := 80) (As := [.int 1]) (rest := []) (w1 := wM cI oM aM v17) CF (mtX4_begins l D cI cZ cQ oM aM v15 1 H.size v17 h18) (cwV 1 hts gX4_tell_X4_begins rfl rfl rfl ⟨rfl, hdX4_begins⟩ ⟨Nat.le_of_ble_eq_true rfl, Nat.le_of_ble_eq_true rfl⟩) hK hP hD hS hA rfl rfl rfl rfl rfl hl.1 rfl (Nat.le_of_ble_eq_true rfl) dX4_tell_80 (fun H locs hP hD hS => ?_)
        refine lv_iconst (pc := 83) (v := 2) hx hb dX4_tell_83 (by decide) ?_
        refine lv_iload_n (pc := 84) hx hb dX4_tell_84 rfl (lv_at hl 0 rfl) ?_
        refine lv_imul (pc := 85) hx hb dX4_tell_85 ?_
        refine lv_bipush (pc := 86) (v := 100) hx hb dX4_tell_86 (by decide) ?_
        refine lv_iadd (pc := 88) hx hb dX4_tell_88 ?_
        obtain rfl := Option.some.inj hf
        exact hRet 89 ls H locs (vp_nar_int _) dX4_tell_89 hP hS
      · have hf := iF c10 hf
        refine lv_lookup (pc := 23) (tgt := 90) (off := 67) hx hb dX4_tell_23 (by decide) ((lv_osw c5 rfl).trans ((lv_osw c10 rfl).trans (rfl))) (by decide) ?_
        refine lv_aload_n (pc := 90) hx hb dX4_tell_90 rfl (lv_at hl 1 rfl) ?_
        refine lv_iconst (pc := 91) (v := 1) hx hb dX4_tell_91 (by decide) ?_
        obtain ⟨v19, h20, hf⟩ := bd hf
        refine wsVv (pc := 92) (As := [.int 1]) (rest := []) (w1 := wM cI oM aM v19) CF (mtX4_begins l D cI cZ cQ oM aM M 1 s.heap.size v19 h20) (cwV 1 hts gX4_tell_X4_begins rfl rfl rfl ⟨rfl, hdX4_begins⟩ ⟨Nat.le_of_ble_eq_true rfl, Nat.le_of_ble_eq_true rfl⟩) hK hP hD hS hA rfl rfl rfl rfl rfl hl.1 rfl (Nat.le_of_ble_eq_true rfl) dX4_tell_92 (fun H locs hP hD hS => ?_)
        refine lv_iload_n (pc := 95) hx hb dX4_tell_95 rfl (lv_at hl 0 rfl) ?_
        obtain rfl := Option.some.inj hf
        exact hRet 96 ls H locs (vp_nar_int _) dX4_tell_96 hP hS
  · have hf := iT c3 hf
    refine lv_iconst (pc := 8) (v := (-1)) hx hb dX4_tell_8 (by decide) ?_
    obtain rfl := Option.some.inj hf
    exact hRet 9 ls s.heap [] (vp_nar_int _) dX4_tell_9 hP hS
theorem hdX4_tell : yX4_tell.cls ≠ "java/lang/invoke/MethodHandle" ∧ yX4_tell.cls ≠ "java/lang/invoke/VarHandle" ∧ (parseMethodDescriptor yX4_tell.desc).map (fun d => d.parameters.length) = some 1 := by decide +kernel
abbrev rmX4_hail : Room := { frames := 1, cells := 0, slots := 0, locals := 21 }
theorem inX4_hail_X4 : ∀ w ∈ wsX40, w ∈ wsX4_hail := fun _ h => List.mem_cons_of_mem _ (List.mem_append_right _ h)
set_option maxHeartbeats 4000000 in
set_option maxRecDepth 100000 in
theorem mtX4_hail (l : Launch) (D : va_G) (cI cZ cQ : ClassId) (oM : Nat) (aM : Nat → Nat) (M : Bk) (p0 : Int32) (sz : Nat) (out : (Int32 × Bk)) (hf : fX4_hail M p0 = some out) : Met l yX4_hail wsX4_hail rmX4_hail (WrP D cI cZ cQ [.ref oM, .int p0] (wM cI oM aM M) sz) (WrQi D out.1 (wM cI oM aM M) (wM cI oM aM out.2) sz) 0 0 (va_A (wM cI oM aM M) sz) := by
  refine metWi (ty := .int) (cc := cX4_hail) (maxL := 2) (by decide) rfl (Nat.le_of_ble_eq_true rfl) ?_
  intro p e s m args below meth c Q A CF hK hP hD hA hRet ls hl
  obtain ⟨hx, hb, hml, hown, hts⟩ := id CF
  have hS : va_S A s.heap s.heap [] := va_S.rf
  have hl : lv_has ls 2 [(0, .ref oM), (1, .int p0)] := hl
  unfold fX4_hail at hf
  refine lv_aload_n (pc := 0) hx hb dX4_hail_0 rfl (lv_at hl 0 rfl) ?_
  refine lv_iload_n (pc := 1) hx hb dX4_hail_1 rfl (lv_at hl 1 rfl) ?_
  obtain ⟨v1, h2, hf⟩ := bd hf
  refine roVi (pc := 2) (As := [.int p0]) (rest := []) CF (mtX4_isGoer l D cI cZ cQ oM aM M p0 v1 h2) (cwV 1 hts gX4_hail_X4_isGoer rfl rfl rfl ⟨rfl, hdX4_isGoer⟩ ⟨Nat.le_of_ble_eq_true rfl, Nat.le_of_ble_eq_true rfl⟩) hK hP rfl rfl rfl rfl hl.1 rfl (Nat.le_of_ble_eq_true rfl) dX4_hail_2 ?_
  refine lv_if_ne (pc := 5) (tgt := 10) hx hb dX4_hail_5 (by decide) (fun c3 => ?_) (fun c3 => ?_)
  · have hf := iF c3 hf
    refine lv_aload_n (pc := 10) hx hb dX4_hail_10 rfl (lv_at hl 0 rfl) ?_
    refine lv_aload_n (pc := 11) hx hb dX4_hail_11 rfl (lv_at hl 0 rfl) ?_
    refine va_get (pc := 12) (D := D) (ci := 4) (v := .ref (aM 11)) (C := RX4) (T := TX4) (N := 29) hx hb hts inX4_hail_X4 hown hK.1 hP 0 rfl rfl 11 (by decide) (hts (.fieldLink RX4 22 "HedgeHolesModel" "kind" "[I") (by decide +kernel)) (fun _ h9 => h9) rfl dX4_hail_12 ?_
    refine lv_iload_n (pc := 15) hx hb dX4_hail_15 rfl (lv_at hl 1 rfl) ?_
    obtain ⟨h4, hf⟩ := gI_e hf
    refine va_iald (pc := 16) (f := M 11) (n := 5) hx hb hK.1 hP 5 0 rfl rfl h4 dX4_hail_16 ?_
    refine lv_iconst (pc := 17) (v := 2) hx hb dX4_hail_17 (by decide) ?_
    obtain ⟨v5, hv, hf⟩ := bd hf
    have J6 : ∀ (ls : Array Slot), lv_has ls 2 [(0, .ref oM), (1, .int p0)] → W p l e rmX4_hail s m args below meth c s.heap [] 0 0 Q (F0 m 26 ls [.int v5, .ref oM]) := by
      intro ls hl
      obtain ⟨v7, h8, hf⟩ := bd hf
      refine wsVv (pc := 26) (As := [.int v5]) (rest := []) (w1 := wM cI oM aM v7) CF (mtX4_begins l D cI cZ cQ oM aM M v5 s.heap.size v7 h8) (cwV 1 hts gX4_hail_X4_begins rfl rfl rfl ⟨rfl, hdX4_begins⟩ ⟨Nat.le_of_ble_eq_true rfl, Nat.le_of_ble_eq_true rfl⟩) hK hP hD hS hA rfl rfl rfl rfl rfl hl.1 rfl (Nat.le_of_ble_eq_true rfl) dX4_hail_26 (fun H locs hP hD hS => ?_)
      refine lv_aload_n (pc := 29) hx hb dX4_hail_29 rfl (lv_at hl 0 rfl) ?_
      refine va_get (pc := 30) (D := D) (ci := 4) (v := .ref (aM 11)) (C := RX4) (T := TX4) (N := 29) hx hb hts inX4_hail_X4 hown hK.1 hP 0 rfl rfl 11 (by decide) (hts (.fieldLink RX4 22 "HedgeHolesModel" "kind" "[I") (by decide +kernel)) (fun _ h9 => h9) rfl dX4_hail_30 ?_
      refine lv_iload_n (pc := 33) hx hb dX4_hail_33 rfl (lv_at hl 1 rfl) ?_
      refine va_iald (pc := 34) (f := v7 11) (n := 5) hx hb hK.1 hP 5 0 rfl rfl h4 dX4_hail_34 ?_
      refine lv_iconst (pc := 35) (v := 2) hx hb dX4_hail_35 (by decide) ?_
      refine lv_icmp_ne (pc := 36) (tgt := 44) hx hb dX4_hail_36 (by decide) (fun c9 => ?_) (fun c9 => ?_)
      · have hf := iF c9 hf
        refine lv_aload_n (pc := 44) hx hb dX4_hail_44 rfl (lv_at hl 0 rfl) ?_
        refine va_get (pc := 45) (D := D) (ci := 4) (v := .ref (aM 13)) (C := RX4) (T := TX4) (N := 29) hx hb hts inX4_hail_X4 hown hK.1 hP 0 rfl rfl 13 (by decide) (hts (.fieldLink RX4 28 "HedgeHolesModel" "field" "[I") (by decide +kernel)) (fun _ h9 => h9) rfl dX4_hail_45 ?_
        refine lv_iload_n (pc := 48) hx hb dX4_hail_48 rfl (lv_at hl 1 rfl) ?_
        refine va_iald (pc := 49) (f := v7 13) (n := 5) hx hb hK.1 hP 7 0 rfl rfl h4 dX4_hail_49 ?_
        obtain rfl := Option.some.inj hf
        exact hRet 50 ls H locs (vp_nar_int _) dX4_hail_50 hP hS
      · have hf := iT c9 hf
        refine lv_bipush (pc := 39) (v := 90) hx hb dX4_hail_39 (by decide) ?_
        refine lv_goto (pc := 41) (tgt := 50) hx hb dX4_hail_41 (by decide) ?_
        obtain rfl := Option.some.inj hf
        exact hRet 50 ls H locs (vp_nar_int _) dX4_hail_50 hP hS
    clear hf
    have hf := hv
    clear hv
    refine lv_icmp_ne (pc := 18) (tgt := 25) hx hb dX4_hail_18 (by decide) (fun c10 => ?_) (fun c10 => ?_)
    · have hf := iF c10 hf
      refine lv_iconst (pc := 25) (v := 4) hx hb dX4_hail_25 (by decide) ?_
      obtain rfl := Option.some.inj hf
      exact J6 ls (lv_sub hl [0, 1] rfl)
    · have hf := iT c10 hf
      refine lv_iconst (pc := 21) (v := 5) hx hb dX4_hail_21 (by decide) ?_
      refine lv_goto (pc := 22) (tgt := 26) hx hb dX4_hail_22 (by decide) ?_
      obtain rfl := Option.some.inj hf
      exact J6 ls (lv_sub hl [0, 1] rfl)
  · have hf := iT c3 hf
    refine lv_iconst (pc := 8) (v := (-1)) hx hb dX4_hail_8 (by decide) ?_
    obtain rfl := Option.some.inj hf
    exact hRet 9 ls s.heap [] (vp_nar_int _) dX4_hail_9 hP hS
theorem hdX4_hail : yX4_hail.cls ≠ "java/lang/invoke/MethodHandle" ∧ yX4_hail.cls ≠ "java/lang/invoke/VarHandle" ∧ (parseMethodDescriptor yX4_hail.desc).map (fun d => d.parameters.length) = some 1 := by decide +kernel
abbrev rmX4_as : Room := { frames := 1, cells := 0, slots := 0, locals := 22 }
theorem inX4_as_X4 : ∀ w ∈ wsX40, w ∈ wsX4_as := fun _ h => List.mem_cons_of_mem _ (List.mem_append_right _ h)
set_option maxHeartbeats 4000000 in
set_option maxRecDepth 100000 in
theorem mtX4_as (l : Launch) (D : va_G) (cI cZ cQ : ClassId) (oM : Nat) (aM : Nat → Nat) (M : Bk) (p0 : Int32) (p1 : Int32) (sz : Nat) (out : (Int32 × Bk)) (hf : fX4_as M p0 p1 = some out) : Met l yX4_as wsX4_as rmX4_as (WrP D cI cZ cQ [.ref oM, .int p0, .int p1] (wM cI oM aM M) sz) (WrQi D out.1 (wM cI oM aM M) (wM cI oM aM out.2) sz) 0 0 (va_A (wM cI oM aM M) sz) := by
  refine metWi (ty := .int) (cc := cX4_as) (maxL := 3) (by decide) rfl (Nat.le_of_ble_eq_true rfl) ?_
  intro p e s m args below meth c Q A CF hK hP hD hA hRet ls hl
  obtain ⟨hx, hb, hml, hown, hts⟩ := id CF
  have hS : va_S A s.heap s.heap [] := va_S.rf
  have hl : lv_has ls 3 [(0, .ref oM), (1, .int p0), (2, .int p1)] := hl
  unfold fX4_as at hf
  refine lv_aload_n (pc := 0) hx hb dX4_as_0 rfl (lv_at hl 0 rfl) ?_
  refine lv_iconst (pc := 1) (v := 0) hx hb dX4_as_1 (by decide) ?_
  refine va_put (pc := 2) (D := D) (ci := 4) (v := .int 0) (ty := .int) (C := RX4) (T := TX4) (N := 29) hx hb hts inX4_as_X4 tyX4 tyX4_ok nmX4 hown hK.1 hP hD hS 0 rfl rfl 0 (by decide) (hts (.fieldLink RX4 58 "HedgeHolesModel" "fault" "I") (by decide +kernel)) (fun _ h9 => h9) rfl (by decide +kernel) (vp_nar_int _) rfl (Nat.le_of_ble_eq_true rfl) dX4_as_2 (fun H locs hP hD hS => ?_)
  have hP : va_P D vwCl (wM cI oM aM (sB M 0 0 0)) H := hP
  have hD : va_D A (wM cI oM aM (sB M 0 0 0)) := hD
  obtain ⟨M_1, h2, hf⟩ := bd hf
  have h2 := Option.some.inj h2
  rw [h2] at hP hD
  refine lv_aload_n (pc := 5) hx hb dX4_as_5 rfl (lv_at hl 0 rfl) ?_
  refine lv_iload_n (pc := 6) hx hb dX4_as_6 rfl (lv_at hl 1 rfl) ?_
  obtain ⟨v3, h4, hf⟩ := bd hf
  refine roVi (pc := 7) (As := [.int p0]) (rest := []) CF (mtX4_isGoer l D cI cZ cQ oM aM M_1 p0 v3 h4) (cwV 1 hts gX4_as_X4_isGoer rfl rfl rfl ⟨rfl, hdX4_isGoer⟩ ⟨Nat.le_of_ble_eq_true rfl, Nat.le_of_ble_eq_true rfl⟩) hK hP rfl rfl rfl rfl hl.1 rfl (Nat.le_of_ble_eq_true rfl) dX4_as_7 ?_
  refine lv_if_ne (pc := 10) (tgt := 15) hx hb dX4_as_10 (by decide) (fun c5 => ?_) (fun c5 => ?_)
  · have hf := iF c5 hf
    refine lv_iload_n (pc := 15) hx hb dX4_as_15 rfl (lv_at hl 2 rfl) ?_
    refine lv_iconst (pc := 16) (v := 0) hx hb dX4_as_16 (by decide) ?_
    refine lv_iconst (pc := 17) (v := 2) hx hb dX4_as_17 (by decide) ?_
    obtain ⟨v6, h7, hf⟩ := bd hf
    refine roSi (pc := 18) (As := [.int p1, .int 0, .int 2]) (rest := []) CF (mtX4_within l D cI cZ cQ p1 0 2 v6 h7) (va_cwS 3 hts gX4_as_X4_within rfl rfl rfl hdX4_within ⟨Nat.le_of_ble_eq_true rfl, Nat.le_of_ble_eq_true rfl⟩) hK P0 rfl hl.1 rfl (Nat.le_of_ble_eq_true rfl) dX4_as_18 ?_
    refine lv_if_ne (pc := 21) (tgt := 27) hx hb dX4_as_21 (by decide) (fun c8 => ?_) (fun c8 => ?_)
    · have hf := iF c8 hf
      refine lv_aload_n (pc := 27) hx hb dX4_as_27 rfl (lv_at hl 0 rfl) ?_
      refine va_get (pc := 28) (D := D) (ci := 4) (v := .ref (aM 11)) (C := RX4) (T := TX4) (N := 29) hx hb hts inX4_as_X4 hown hK.1 hP 0 rfl rfl 11 (by decide) (hts (.fieldLink RX4 22 "HedgeHolesModel" "kind" "[I") (by decide +kernel)) (fun _ h9 => h9) rfl dX4_as_28 ?_
      refine lv_iload_n (pc := 31) hx hb dX4_as_31 rfl (lv_at hl 1 rfl) ?_
      obtain ⟨h9, hf⟩ := gI_e hf
      refine va_iald (pc := 32) (f := M_1 11) (n := 5) hx hb hK.1 hP 5 0 rfl rfl h9 dX4_as_32 ?_
      refine lv_iload_n (pc := 33) hx hb dX4_as_33 rfl (lv_at hl 2 rfl) ?_
      refine lv_icmp_lt (pc := 34) (tgt := 41) hx hb dX4_as_34 (by decide) (fun c10 => ?_) (fun c10 => ?_)
      · have hf := iT c10 hf
        refine lv_aload_n (pc := 41) hx hb dX4_as_41 rfl (lv_at hl 0 rfl) ?_
        refine lv_iconst (pc := 42) (v := 2) hx hb dX4_as_42 (by decide) ?_
        obtain ⟨v11, h12, hf⟩ := bd hf
        refine wsVi (pc := 43) (As := [.int 2]) (rest := []) (w1 := wM cI oM aM v11.2) CF (mtX4_fails l D cI cZ cQ oM aM M_1 2 H.size v11 h12) (cwV 1 hts gX4_as_X4_fails rfl rfl rfl ⟨rfl, hdX4_fails⟩ ⟨Nat.le_of_ble_eq_true rfl, Nat.le_of_ble_eq_true rfl⟩) hK hP hD hS hA rfl rfl rfl rfl rfl hl.1 rfl (Nat.le_of_ble_eq_true rfl) dX4_as_43 (fun H locs hP hD hS => ?_)
        obtain rfl := Option.some.inj hf
        exact hRet 46 ls H locs (vp_nar_int _) dX4_as_46 hP hS
      · have hf := iF c10 hf
        refine lv_iconst (pc := 37) (v := 1) hx hb dX4_as_37 (by decide) ?_
        refine lv_goto (pc := 38) (tgt := 46) hx hb dX4_as_38 (by decide) ?_
        obtain rfl := Option.some.inj hf
        exact hRet 46 ls H locs (vp_nar_int _) dX4_as_46 hP hS
    · have hf := iT c8 hf
      refine lv_bipush (pc := 24) (v := (-2)) hx hb dX4_as_24 (by decide) ?_
      obtain rfl := Option.some.inj hf
      exact hRet 26 ls H locs (vp_nar_int _) dX4_as_26 hP hS
  · have hf := iT c5 hf
    refine lv_iconst (pc := 13) (v := (-1)) hx hb dX4_as_13 (by decide) ?_
    obtain rfl := Option.some.inj hf
    exact hRet 14 ls H locs (vp_nar_int _) dX4_as_14 hP hS
theorem hdX4_as : yX4_as.cls ≠ "java/lang/invoke/MethodHandle" ∧ yX4_as.cls ≠ "java/lang/invoke/VarHandle" ∧ (parseMethodDescriptor yX4_as.desc).map (fun d => d.parameters.length) = some 2 := by decide +kernel
abbrev rmX4_trace : Room := { frames := 0, cells := 0, slots := 0, locals := 0 }
theorem inX4_trace_X4 : ∀ w ∈ wsX40, w ∈ wsX4_trace := fun _ h => List.mem_cons_of_mem _ (List.mem_append_right _ h)
set_option maxHeartbeats 4000000 in
set_option maxRecDepth 100000 in
theorem mtX4_trace (l : Launch) (D : va_G) (cI cZ cQ : ClassId) (oM : Nat) (aM : Nat → Nat) (M : Bk)  (out : Int32) (hf : fX4_trace M = some out) : Met l yX4_trace wsX4_trace rmX4_trace (RoP D cI cZ cQ [.ref oM] (wM cI oM aM M)) (vp_Si (fun r' => r' = out)) 0 0 (fun _ => False) := by
  refine metRi (ty := .int) (cc := cX4_trace) (maxL := 1) (by decide) rfl (Nat.le_of_ble_eq_true rfl) ?_
  intro p e s m args below meth c Q CF hK hP hRet ls hl
  obtain ⟨hx, hb, hml, hown, hts⟩ := id CF
  have hl : lv_has ls 1 [(0, .ref oM)] := hl
  unfold fX4_trace at hf
  refine lv_aload_n (pc := 0) hx hb dX4_trace_0 rfl (lv_at hl 0 rfl) ?_
  refine va_get (pc := 1) (D := D) (ci := 4) (v := .int (M 1 0)) (C := RX4) (T := TX4) (N := 29) hx hb hts inX4_trace_X4 hown hK.1 hP 0 rfl rfl 1 (by decide) (hts (.fieldLink RX4 219 "HedgeHolesModel" "trace" "I") (by decide +kernel)) (fun _ h9 => h9) rfl dX4_trace_1 ?_
  obtain rfl := Option.some.inj hf
  exact hRet 4 ls (vp_nar_int _) dX4_trace_4
theorem hdX4_trace : yX4_trace.cls ≠ "java/lang/invoke/MethodHandle" ∧ yX4_trace.cls ≠ "java/lang/invoke/VarHandle" ∧ (parseMethodDescriptor yX4_trace.desc).map (fun d => d.parameters.length) = some 0 := by decide +kernel
abbrev rmX4_fault : Room := { frames := 0, cells := 0, slots := 0, locals := 0 }
theorem inX4_fault_X4 : ∀ w ∈ wsX40, w ∈ wsX4_fault := fun _ h => List.mem_cons_of_mem _ (List.mem_append_right _ h)
set_option maxHeartbeats 4000000 in
set_option maxRecDepth 100000 in
theorem mtX4_fault (l : Launch) (D : va_G) (cI cZ cQ : ClassId) (oM : Nat) (aM : Nat → Nat) (M : Bk)  (out : Int32) (hf : fX4_fault M = some out) : Met l yX4_fault wsX4_fault rmX4_fault (RoP D cI cZ cQ [.ref oM] (wM cI oM aM M)) (vp_Si (fun r' => r' = out)) 0 0 (fun _ => False) := by
  refine metRi (ty := .int) (cc := cX4_fault) (maxL := 1) (by decide) rfl (Nat.le_of_ble_eq_true rfl) ?_
  intro p e s m args below meth c Q CF hK hP hRet ls hl
  obtain ⟨hx, hb, hml, hown, hts⟩ := id CF
  have hl : lv_has ls 1 [(0, .ref oM)] := hl
  unfold fX4_fault at hf
  refine lv_aload_n (pc := 0) hx hb dX4_fault_0 rfl (lv_at hl 0 rfl) ?_
  refine va_get (pc := 1) (D := D) (ci := 4) (v := .int (M 0 0)) (C := RX4) (T := TX4) (N := 29) hx hb hts inX4_fault_X4 hown hK.1 hP 0 rfl rfl 0 (by decide) (hts (.fieldLink RX4 58 "HedgeHolesModel" "fault" "I") (by decide +kernel)) (fun _ h9 => h9) rfl dX4_fault_1 ?_
  obtain rfl := Option.some.inj hf
  exact hRet 4 ls (vp_nar_int _) dX4_fault_4
theorem hdX4_fault : yX4_fault.cls ≠ "java/lang/invoke/MethodHandle" ∧ yX4_fault.cls ≠ "java/lang/invoke/VarHandle" ∧ (parseMethodDescriptor yX4_fault.desc).map (fun d => d.parameters.length) = some 0 := by decide +kernel
abbrev rmX4_many : Room := { frames := 0, cells := 0, slots := 0, locals := 0 }
theorem inX4_many_X4 : ∀ w ∈ wsX40, w ∈ wsX4_many := fun _ h => List.mem_cons_of_mem _ (List.mem_append_right _ h)
set_option maxHeartbeats 4000000 in
set_option maxRecDepth 100000 in
theorem mtX4_many (l : Launch) (D : va_G) (cI cZ cQ : ClassId) (oM : Nat) (aM : Nat → Nat) (M : Bk) (p0 : Int32) (out : Int32) (hf : fX4_many M p0 = some out) : Met l yX4_many wsX4_many rmX4_many (RoP D cI cZ cQ [.ref oM, .int p0] (wM cI oM aM M)) (vp_Si (fun r' => r' = out)) 0 0 (fun _ => False) := by
  refine metRi (ty := .int) (cc := cX4_many) (maxL := 2) (by decide) rfl (Nat.le_of_ble_eq_true rfl) ?_
  intro p e s m args below meth c Q CF hK hP hRet ls hl
  obtain ⟨hx, hb, hml, hown, hts⟩ := id CF
  have hl : lv_has ls 2 [(0, .ref oM), (1, .int p0)] := hl
  unfold fX4_many at hf
  refine lv_iload_n (pc := 0) hx hb dX4_many_0 rfl (lv_at hl 1 rfl) ?_
  by_cases c1 : p0 = 0
  · have hf := iT c1 hf
    refine lv_tableIn (pc := 1) (tgt := 36) (off := 35) hx hb dX4_many_1 (by rw [c1]; decide) (by rw [c1]; decide) (by rw [c1]; rfl) (by decide) ?_
    refine lv_aload_n (pc := 36) hx hb dX4_many_36 rfl (lv_at hl 0 rfl) ?_
    refine va_get (pc := 37) (D := D) (ci := 4) (v := .int (M 5 0)) (C := RX4) (T := TX4) (N := 29) hx hb hts inX4_many_X4 hown hK.1 hP 0 rfl rfl 5 (by decide) (hts (.fieldLink RX4 68 "HedgeHolesModel" "fields" "I") (by decide +kernel)) (fun _ h9 => h9) rfl dX4_many_37 ?_
    obtain rfl := Option.some.inj hf
    exact hRet 40 ls (vp_nar_int _) dX4_many_40
  · have hf := iF c1 hf
    by_cases c2 : p0 = 1
    · have hf := iT c2 hf
      refine lv_tableIn (pc := 1) (tgt := 41) (off := 40) hx hb dX4_many_1 (by rw [c2]; decide) (by rw [c2]; decide) (by rw [c2]; rfl) (by decide) ?_
      refine lv_aload_n (pc := 41) hx hb dX4_many_41 rfl (lv_at hl 0 rfl) ?_
      refine va_get (pc := 42) (D := D) (ci := 4) (v := .int (M 6 0)) (C := RX4) (T := TX4) (N := 29) hx hb hts inX4_many_X4 hown hK.1 hP 0 rfl rfl 6 (by decide) (hts (.fieldLink RX4 75 "HedgeHolesModel" "goers" "I") (by decide +kernel)) (fun _ h9 => h9) rfl dX4_many_42 ?_
      obtain rfl := Option.some.inj hf
      exact hRet 45 ls (vp_nar_int _) dX4_many_45
    · have hf := iF c2 hf
      by_cases c3 : p0 = 2
      · have hf := iT c3 hf
        refine lv_tableIn (pc := 1) (tgt := 46) (off := 45) hx hb dX4_many_1 (by rw [c3]; decide) (by rw [c3]; decide) (by rw [c3]; rfl) (by decide) ?_
        refine lv_aload_n (pc := 46) hx hb dX4_many_46 rfl (lv_at hl 0 rfl) ?_
        refine va_get (pc := 47) (D := D) (ci := 4) (v := .int (M 7 0)) (C := RX4) (T := TX4) (N := 29) hx hb hts inX4_many_X4 hown hK.1 hP 0 rfl rfl 7 (by decide) (hts (.fieldLink RX4 117 "HedgeHolesModel" "year" "I") (by decide +kernel)) (fun _ h9 => h9) rfl dX4_many_47 ?_
        obtain rfl := Option.some.inj hf
        exact hRet 50 ls (vp_nar_int _) dX4_many_50
      · have hf := iF c3 hf
        by_cases c4 : p0 = 3
        · have hf := iT c4 hf
          refine lv_tableIn (pc := 1) (tgt := 51) (off := 50) hx hb dX4_many_1 (by rw [c4]; decide) (by rw [c4]; decide) (by rw [c4]; rfl) (by decide) ?_
          refine lv_aload_n (pc := 51) hx hb dX4_many_51 rfl (lv_at hl 0 rfl) ?_
          refine va_get (pc := 52) (D := D) (ci := 4) (v := .int (M 8 0)) (C := RX4) (T := TX4) (N := 29) hx hb hts inX4_many_X4 hown hK.1 hP 0 rfl rfl 8 (by decide) (hts (.fieldLink RX4 120 "HedgeHolesModel" "went" "I") (by decide +kernel)) (fun _ h9 => h9) rfl dX4_many_52 ?_
          obtain rfl := Option.some.inj hf
          exact hRet 55 ls (vp_nar_int _) dX4_many_55
        · have hf := iF c4 hf
          by_cases c5 : p0 = 4
          · have hf := iT c5 hf
            refine lv_tableIn (pc := 1) (tgt := 56) (off := 55) hx hb dX4_many_1 (by rw [c5]; decide) (by rw [c5]; decide) (by rw [c5]; rfl) (by decide) ?_
            refine lv_aload_n (pc := 56) hx hb dX4_many_56 rfl (lv_at hl 0 rfl) ?_
            refine va_get (pc := 57) (D := D) (ci := 4) (v := .int (M 25 0)) (C := RX4) (T := TX4) (N := 29) hx hb hts inX4_many_X4 hown hK.1 hP 0 rfl rfl 25 (by decide) (hts (.fieldLink RX4 123 "HedgeHolesModel" "readings" "I") (by decide +kernel)) (fun _ h9 => h9) rfl dX4_many_57 ?_
            obtain rfl := Option.some.inj hf
            exact hRet 60 ls (vp_nar_int _) dX4_many_60
          · have hf := iF c5 hf
            refine lv_tableOut (pc := 1) (tgt := 61) hx hb dX4_many_1 (by have e0 := lv_neT (a := 0) c1 rfl; have e1 := lv_neT (a := 1) c2 rfl; have e2 := lv_neT (a := 2) c3 rfl; have e3 := lv_neT (a := 3) c4 rfl; have e4 := lv_neT (a := 4) c5 rfl; omega) (by decide) ?_
            refine lv_bipush (pc := 61) (v := (-2)) hx hb dX4_many_61 (by decide) ?_
            obtain rfl := Option.some.inj hf
            exact hRet 63 ls (vp_nar_int _) dX4_many_63
theorem hdX4_many : yX4_many.cls ≠ "java/lang/invoke/MethodHandle" ∧ yX4_many.cls ≠ "java/lang/invoke/VarHandle" ∧ (parseMethodDescriptor yX4_many.desc).map (fun d => d.parameters.length) = some 1 := by decide +kernel
