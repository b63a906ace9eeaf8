set_option maxHeartbeats 8000000 in
set_option maxRecDepth 100000 in
theorem law_loop {p : Program} {l : Launch} {e : Env} {s : State} {m : MethodId} {below : List Frame} {meth : Method} {c : Code} {b len : Nat} {xs : Nat → Int32} {D : va_G} {cI cZ cQ : ClassId} (hL : len ≤ 3072) (C0 : lw_At p s m meth c b len xs) (hK : EK D cI cZ cQ s) {o : Nat} {a : Nat → Nat} {oM : Nat} {aM : Nat → Nat} : ∀ (n ii : Nat) (X : Bk) (Rw : Nat → Bk) (L T N M : Bk) (H : Heap) (locs : List Loc) (ls : Array Slot), ii ≤ len → len + 1 ≤ ii + n → Rel X Rw L N M → va_P D vwCl (wFM cI cZ cQ o a oM aM X Rw L T N M) H → va_D (fun q : Nat => s.heap.size ≤ q) (wFM cI cZ cQ o a oM aM X Rw L T N M) → va_S (fun q : Nat => s.heap.size ≤ q) s.heap H locs → lv_has ls 4 [(0, .ref b), (1, .ref o), (2, .ref oM), (3, .int (nI ii))] → W p l e room_1 s m #[Value.ref b] below meth c H locs 43 748 (lw_Z below #[Value.ref b] s) (F0 m 18 ls []) := by
  obtain ⟨hx, hb, hr, hml, hown, htsT, hX, hbl, hlocks, hgv⟩ := C0
  have hts : ∀ w ∈ wsL_law, w.before #[Value.ref b] s = true := fun w h => htsT w (wsL_law_in w h)
  have CF : CallFix p m c code 4 s #[Value.ref b] wsL_law RL := ⟨hx, hb, hml, hown, hts⟩
  have hbA : ¬ (fun q : Nat => s.heap.size ≤ q) b := Nat.not_le.mpr hbl
  intro n
  induction n with
  | zero => intro ii X Rw L T N M H locs ls h1 h2; exact absurd h2 (by omega)
  | succ n ih =>
    intro ii X Rw L T N M H locs ls hi hn hRel hP hD hS hl
    refine lv_iload_n (pc := 18) hx hb dL_law_18 rfl (lv_at hl 3 rfl) ?_
    refine lv_aload_n (pc := 19) hx hb dL_law_19 rfl (lv_at hl 0 rfl) ?_
    refine va_slen (pc := 20) hx hb hX hbl hbA hS dL_law_20 ?_
    refine lv_bipush (pc := 21) (v := 6) hx hb dL_law_21 (by decide) ?_
    refine lv_isub (pc := 23) hx hb dL_law_23 ?_
    refine lv_icmp_gt (pc := 24) (tgt := 1243) hx hb dL_law_24 (by decide) (fun c9 => ?_) (fun c9 => ?_)
    · refine lv_iconst (pc := 1243) (v := 1) hx hb dL_law_1243 (by decide) ?_
      refine va_forget (fun q hq => hS.2.2 q hq) ?_
      refine W.widen (k := 600000) (n := 7302250) (Nat.le_of_ble_eq_true rfl) (Nat.le_of_ble_eq_true rfl) ?_
      exact lw_ret hx hb hr hlocks dL_law_1244
    · have h6 : ii + 6 ≤ len := by
        have e1 : (nI len - nI 6).toInt = (len : Int) - 6 := pk_sub_toInt (by omega) (by omega)
        have e2 : (nI ii).toInt = (ii : Int) := nI_toInt (by omega)
        have c8 : ¬ (nI len - nI 6) < nI ii := c9
        rw [Int32.lt_iff_toInt_lt, e1, e2] at c8
        omega
      have hv : ∀ q : Nat, q < 6 → vp_in (nI ii + nI q) len := fun q hq => by rw [nI_add]; exact vp_in_nI (by omega) (by omega)
      have h0 : vp_in (nI ii) len := vp_in_nI (by omega) (by omega)
      refine lv_aload_n (pc := 27) hx hb dL_law_27 rfl (lv_at hl 0 rfl) ?_
      refine lv_iload_n (pc := 28) hx hb dL_law_28 rfl (lv_at hl 3 rfl) ?_
      refine va_sld (pc := 29) hx hb hX hbl hbA hS h0 dL_law_29 ?_
      refine lv_bipush (pc := 30) (v := 31) hx hb dL_law_30 (by decide) ?_
      refine lv_iand (pc := 32) hx hb dL_law_32 ?_
      have K : ∀ (X : Bk) (Rw : Nat → Bk) (L T N M : Bk) (H : Heap) (locs : List Loc) (ls : Array Slot), Rel X Rw L N M → va_P D vwCl (wFM cI cZ cQ o a oM aM X Rw L T N M) H → va_D (fun q : Nat => s.heap.size ≤ q) (wFM cI cZ cQ o a oM aM X Rw L T N M) → va_S (fun q : Nat => s.heap.size ≤ q) s.heap H locs → lv_has ls 4 [(0, .ref b), (1, .ref o), (2, .ref oM), (3, .int (nI ii))] → W p l e room_1 s m #[Value.ref b] below meth c H locs 43 748 (lw_Z below #[Value.ref b] s) (F0 m 1237 ls []) := by
        intro X Rw L T N M H locs ls hRel hP hD hS hl
        refine lv_iinc (pc := 1237) (v := nI (ii + 6)) (lv' := [(3, .int (nI (ii + 6))), (0, .ref b), (1, .ref o), (2, .ref oM)]) hx hb dL_law_1237 hl (k := 3) rfl (nI_add ii 6) (by decide) rfl (fun ls hl => ?_)
        refine lv_goto (pc := 1240) (tgt := 18) hx hb dL_law_1240 (by decide) ?_
        exact ih (ii + 6) X Rw L T N M H locs ls (by omega) (by omega) hRel hP hD hS (lv_sub hl [1, 2, 3, 0] rfl)
      generalize xs (nI ii).toNatClampNeg &&& 31 = z
      by_cases c0 : z = 0
      · refine lv_tableIn (pc := 33) (tgt := 172) (off := 139) hx hb dL_law_33 (by rw [c0]; decide) (by rw [c0]; decide) (by rw [c0]; rfl) (by decide) ?_
        exact lc_0 CF hr hlocks hK hX hbl (hv 1 (by decide)) (hv 2 (by decide)) (hv 3 (by decide)) (hv 4 (by decide)) (hv 5 (by decide)) hRel hP hD hS hl K
      by_cases c1 : z = 1
      · refine lv_tableIn (pc := 33) (tgt := 225) (off := 192) hx hb dL_law_33 (by rw [c1]; decide) (by rw [c1]; decide) (by rw [c1]; rfl) (by decide) ?_
        exact lc_1 CF hr hlocks hK hX hbl (hv 1 (by decide)) (hv 2 (by decide)) (hv 3 (by decide)) (hv 4 (by decide)) (hv 5 (by decide)) hRel hP hD hS hl K
      by_cases c2 : z = 2
      · refine lv_tableIn (pc := 33) (tgt := 258) (off := 225) hx hb dL_law_33 (by rw [c2]; decide) (by rw [c2]; decide) (by rw [c2]; rfl) (by decide) ?_
        exact lc_2 CF hr hlocks hK hX hbl (hv 1 (by decide)) (hv 2 (by decide)) (hv 3 (by decide)) (hv 4 (by decide)) (hv 5 (by decide)) hRel hP hD hS hl K
      by_cases c3 : z = 3
      · refine lv_tableIn (pc := 33) (tgt := 301) (off := 268) hx hb dL_law_33 (by rw [c3]; decide) (by rw [c3]; decide) (by rw [c3]; rfl) (by decide) ?_
        exact lc_3 CF hr hlocks hK hX hbl (hv 1 (by decide)) (hv 2 (by decide)) (hv 3 (by decide)) (hv 4 (by decide)) (hv 5 (by decide)) hRel hP hD hS hl K
      by_cases c4 : z = 4
      · refine lv_tableIn (pc := 33) (tgt := 344) (off := 311) hx hb dL_law_33 (by rw [c4]; decide) (by rw [c4]; decide) (by rw [c4]; rfl) (by decide) ?_
        exact lc_4 CF hr hlocks hK hX hbl (hv 1 (by decide)) (hv 2 (by decide)) (hv 3 (by decide)) (hv 4 (by decide)) (hv 5 (by decide)) hRel hP hD hS hl K
      by_cases c5 : z = 5
      · refine lv_tableIn (pc := 33) (tgt := 377) (off := 344) hx hb dL_law_33 (by rw [c5]; decide) (by rw [c5]; decide) (by rw [c5]; rfl) (by decide) ?_
        exact lc_5 CF hr hlocks hK hX hbl (hv 1 (by decide)) (hv 2 (by decide)) (hv 3 (by decide)) (hv 4 (by decide)) (hv 5 (by decide)) hRel hP hD hS hl K
      by_cases c6 : z = 6
      · refine lv_tableIn (pc := 33) (tgt := 410) (off := 377) hx hb dL_law_33 (by rw [c6]; decide) (by rw [c6]; decide) (by rw [c6]; rfl) (by decide) ?_
        exact lc_6 CF hr hlocks hK hX hbl (hv 1 (by decide)) (hv 2 (by decide)) (hv 3 (by decide)) (hv 4 (by decide)) (hv 5 (by decide)) hRel hP hD hS hl K
      by_cases c7 : z = 7
      · refine lv_tableIn (pc := 33) (tgt := 433) (off := 400) hx hb dL_law_33 (by rw [c7]; decide) (by rw [c7]; decide) (by rw [c7]; rfl) (by decide) ?_
        exact lc_7 CF hr hlocks hK hX hbl (hv 1 (by decide)) (hv 2 (by decide)) (hv 3 (by decide)) (hv 4 (by decide)) (hv 5 (by decide)) hRel hP hD hS hl K
      by_cases c8 : z = 8
      · refine lv_tableIn (pc := 33) (tgt := 466) (off := 433) hx hb dL_law_33 (by rw [c8]; decide) (by rw [c8]; decide) (by rw [c8]; rfl) (by decide) ?_
        exact lc_8 CF hr hlocks hK hX hbl (hv 1 (by decide)) (hv 2 (by decide)) (hv 3 (by decide)) (hv 4 (by decide)) (hv 5 (by decide)) hRel hP hD hS hl K
      by_cases c9 : z = 9
      · refine lv_tableIn (pc := 33) (tgt := 529) (off := 496) hx hb dL_law_33 (by rw [c9]; decide) (by rw [c9]; decide) (by rw [c9]; rfl) (by decide) ?_
        exact lc_9 CF hr hlocks hK hX hbl (hv 1 (by decide)) (hv 2 (by decide)) (hv 3 (by decide)) (hv 4 (by decide)) (hv 5 (by decide)) hRel hP hD hS hl K
      by_cases c10 : z = 10
      · refine lv_tableIn (pc := 33) (tgt := 562) (off := 529) hx hb dL_law_33 (by rw [c10]; decide) (by rw [c10]; decide) (by rw [c10]; rfl) (by decide) ?_
        exact lc_10 CF hr hlocks hK hX hbl (hv 1 (by decide)) (hv 2 (by decide)) (hv 3 (by decide)) (hv 4 (by decide)) (hv 5 (by decide)) hRel hP hD hS hl K
      by_cases c11 : z = 11
      · refine lv_tableIn (pc := 33) (tgt := 605) (off := 572) hx hb dL_law_33 (by rw [c11]; decide) (by rw [c11]; decide) (by rw [c11]; rfl) (by decide) ?_
        exact lc_11 CF hr hlocks hK hX hbl (hv 1 (by decide)) (hv 2 (by decide)) (hv 3 (by decide)) (hv 4 (by decide)) (hv 5 (by decide)) hRel hP hD hS hl K
      by_cases c12 : z = 12
      · refine lv_tableIn (pc := 33) (tgt := 628) (off := 595) hx hb dL_law_33 (by rw [c12]; decide) (by rw [c12]; decide) (by rw [c12]; rfl) (by decide) ?_
        exact lc_12 CF hr hlocks hK hX hbl (hv 1 (by decide)) (hv 2 (by decide)) (hv 3 (by decide)) (hv 4 (by decide)) (hv 5 (by decide)) hRel hP hD hS hl K
      by_cases c13 : z = 13
      · refine lv_tableIn (pc := 33) (tgt := 661) (off := 628) hx hb dL_law_33 (by rw [c13]; decide) (by rw [c13]; decide) (by rw [c13]; rfl) (by decide) ?_
        exact lc_13 CF hr hlocks hK hX hbl (hv 1 (by decide)) (hv 2 (by decide)) (hv 3 (by decide)) (hv 4 (by decide)) (hv 5 (by decide)) hRel hP hD hS hl K
      by_cases c14 : z = 14
      · refine lv_tableIn (pc := 33) (tgt := 694) (off := 661) hx hb dL_law_33 (by rw [c14]; decide) (by rw [c14]; decide) (by rw [c14]; rfl) (by decide) ?_
        exact lc_14 CF hr hlocks hK hX hbl (hv 1 (by decide)) (hv 2 (by decide)) (hv 3 (by decide)) (hv 4 (by decide)) (hv 5 (by decide)) hRel hP hD hS hl K
      by_cases c15 : z = 15
      · refine lv_tableIn (pc := 33) (tgt := 747) (off := 714) hx hb dL_law_33 (by rw [c15]; decide) (by rw [c15]; decide) (by rw [c15]; rfl) (by decide) ?_
        exact lc_15 CF hr hlocks hK hX hbl (hv 1 (by decide)) (hv 2 (by decide)) (hv 3 (by decide)) (hv 4 (by decide)) (hv 5 (by decide)) hRel hP hD hS hl K
      by_cases c16 : z = 16
      · refine lv_tableIn (pc := 33) (tgt := 770) (off := 737) hx hb dL_law_33 (by rw [c16]; decide) (by rw [c16]; decide) (by rw [c16]; rfl) (by decide) ?_
        exact lc_16 CF hr hlocks hK hX hbl (hv 1 (by decide)) (hv 2 (by decide)) (hv 3 (by decide)) (hv 4 (by decide)) (hv 5 (by decide)) hRel hP hD hS hl K
      by_cases c17 : z = 17
      · refine lv_tableIn (pc := 33) (tgt := 793) (off := 760) hx hb dL_law_33 (by rw [c17]; decide) (by rw [c17]; decide) (by rw [c17]; rfl) (by decide) ?_
        exact lc_17 CF hr hlocks hK hX hbl (hv 1 (by decide)) (hv 2 (by decide)) (hv 3 (by decide)) (hv 4 (by decide)) (hv 5 (by decide)) hRel hP hD hS hl K
      by_cases c18 : z = 18
      · refine lv_tableIn (pc := 33) (tgt := 816) (off := 783) hx hb dL_law_33 (by rw [c18]; decide) (by rw [c18]; decide) (by rw [c18]; rfl) (by decide) ?_
        exact lc_18 CF hr hlocks hK hX hbl (hv 1 (by decide)) (hv 2 (by decide)) (hv 3 (by decide)) (hv 4 (by decide)) (hv 5 (by decide)) hRel hP hD hS hl K
      by_cases c19 : z = 19
      · refine lv_tableIn (pc := 33) (tgt := 849) (off := 816) hx hb dL_law_33 (by rw [c19]; decide) (by rw [c19]; decide) (by rw [c19]; rfl) (by decide) ?_
        exact lc_19 CF hr hlocks hK hX hbl (hv 1 (by decide)) (hv 2 (by decide)) (hv 3 (by decide)) (hv 4 (by decide)) (hv 5 (by decide)) hRel hP hD hS hl K
      by_cases c20 : z = 20
      · refine lv_tableIn (pc := 33) (tgt := 893) (off := 860) hx hb dL_law_33 (by rw [c20]; decide) (by rw [c20]; decide) (by rw [c20]; rfl) (by decide) ?_
        exact lc_20 CF hr hlocks hK hX hbl (hv 1 (by decide)) (hv 2 (by decide)) (hv 3 (by decide)) (hv 4 (by decide)) (hv 5 (by decide)) hRel hP hD hS hl K
      by_cases c21 : z = 21
      · refine lv_tableIn (pc := 33) (tgt := 936) (off := 903) hx hb dL_law_33 (by rw [c21]; decide) (by rw [c21]; decide) (by rw [c21]; rfl) (by decide) ?_
        exact lc_21 CF hr hlocks hK hX hbl (hv 1 (by decide)) (hv 2 (by decide)) (hv 3 (by decide)) (hv 4 (by decide)) (hv 5 (by decide)) hRel hP hD hS hl K
      by_cases c22 : z = 22
      · refine lv_tableIn (pc := 33) (tgt := 959) (off := 926) hx hb dL_law_33 (by rw [c22]; decide) (by rw [c22]; decide) (by rw [c22]; rfl) (by decide) ?_
        exact lc_22 CF hr hlocks hK hX hbl (hv 1 (by decide)) (hv 2 (by decide)) (hv 3 (by decide)) (hv 4 (by decide)) (hv 5 (by decide)) hRel hP hD hS hl K
      by_cases c23 : z = 23
      · refine lv_tableIn (pc := 33) (tgt := 1002) (off := 969) hx hb dL_law_33 (by rw [c23]; decide) (by rw [c23]; decide) (by rw [c23]; rfl) (by decide) ?_
        exact lc_23 CF hr hlocks hK hX hbl (hv 1 (by decide)) (hv 2 (by decide)) (hv 3 (by decide)) (hv 4 (by decide)) (hv 5 (by decide)) hRel hP hD hS hl K
      by_cases c24 : z = 24
      · refine lv_tableIn (pc := 33) (tgt := 1046) (off := 1013) hx hb dL_law_33 (by rw [c24]; decide) (by rw [c24]; decide) (by rw [c24]; rfl) (by decide) ?_
        exact lc_24 CF hr hlocks hK hX hbl (hv 1 (by decide)) (hv 2 (by decide)) (hv 3 (by decide)) (hv 4 (by decide)) (hv 5 (by decide)) hRel hP hD hS hl K
      by_cases c25 : z = 25
      · refine lv_tableIn (pc := 33) (tgt := 1109) (off := 1076) hx hb dL_law_33 (by rw [c25]; decide) (by rw [c25]; decide) (by rw [c25]; rfl) (by decide) ?_
        exact lc_25 CF hr hlocks hK hX hbl (hv 1 (by decide)) (hv 2 (by decide)) (hv 3 (by decide)) (hv 4 (by decide)) (hv 5 (by decide)) hRel hP hD hS hl K
      by_cases c26 : z = 26
      · refine lv_tableIn (pc := 33) (tgt := 1132) (off := 1099) hx hb dL_law_33 (by rw [c26]; decide) (by rw [c26]; decide) (by rw [c26]; rfl) (by decide) ?_
        exact lc_26 CF hr hlocks hK hX hbl (hv 1 (by decide)) (hv 2 (by decide)) (hv 3 (by decide)) (hv 4 (by decide)) (hv 5 (by decide)) hRel hP hD hS hl K
      by_cases c27 : z = 27
      · refine lv_tableIn (pc := 33) (tgt := 1155) (off := 1122) hx hb dL_law_33 (by rw [c27]; decide) (by rw [c27]; decide) (by rw [c27]; rfl) (by decide) ?_
        exact lc_27 CF hr hlocks hK hX hbl (hv 1 (by decide)) (hv 2 (by decide)) (hv 3 (by decide)) (hv 4 (by decide)) (hv 5 (by decide)) hRel hP hD hS hl K
      by_cases c28 : z = 28
      · refine lv_tableIn (pc := 33) (tgt := 1188) (off := 1155) hx hb dL_law_33 (by rw [c28]; decide) (by rw [c28]; decide) (by rw [c28]; rfl) (by decide) ?_
        exact lc_28 CF hr hlocks hK hX hbl (hv 1 (by decide)) (hv 2 (by decide)) (hv 3 (by decide)) (hv 4 (by decide)) (hv 5 (by decide)) hRel hP hD hS hl K
      by_cases c29 : z = 29
      · refine lv_tableIn (pc := 33) (tgt := 1201) (off := 1168) hx hb dL_law_33 (by rw [c29]; decide) (by rw [c29]; decide) (by rw [c29]; rfl) (by decide) ?_
        exact lc_29 CF hr hlocks hK hX hbl (hv 1 (by decide)) (hv 2 (by decide)) (hv 3 (by decide)) (hv 4 (by decide)) (hv 5 (by decide)) hRel hP hD hS hl K
      by_cases c30 : z = 30
      · refine lv_tableIn (pc := 33) (tgt := 1214) (off := 1181) hx hb dL_law_33 (by rw [c30]; decide) (by rw [c30]; decide) (by rw [c30]; rfl) (by decide) ?_
        exact lc_30 CF hr hlocks hK hX hbl (hv 1 (by decide)) (hv 2 (by decide)) (hv 3 (by decide)) (hv 4 (by decide)) (hv 5 (by decide)) hRel hP hD hS hl K
      refine lv_tableOut (pc := 33) (tgt := 1237) hx hb dL_law_33 (by have e0 := lv_neT (a := 0) c0 rfl; have e1 := lv_neT (a := 1) c1 rfl; have e2 := lv_neT (a := 2) c2 rfl; have e3 := lv_neT (a := 3) c3 rfl; have e4 := lv_neT (a := 4) c4 rfl; have e5 := lv_neT (a := 5) c5 rfl; have e6 := lv_neT (a := 6) c6 rfl; have e7 := lv_neT (a := 7) c7 rfl; have e8 := lv_neT (a := 8) c8 rfl; have e9 := lv_neT (a := 9) c9 rfl; have e10 := lv_neT (a := 10) c10 rfl; have e11 := lv_neT (a := 11) c11 rfl; have e12 := lv_neT (a := 12) c12 rfl; have e13 := lv_neT (a := 13) c13 rfl; have e14 := lv_neT (a := 14) c14 rfl; have e15 := lv_neT (a := 15) c15 rfl; have e16 := lv_neT (a := 16) c16 rfl; have e17 := lv_neT (a := 17) c17 rfl; have e18 := lv_neT (a := 18) c18 rfl; have e19 := lv_neT (a := 19) c19 rfl; have e20 := lv_neT (a := 20) c20 rfl; have e21 := lv_neT (a := 21) c21 rfl; have e22 := lv_neT (a := 22) c22 rfl; have e23 := lv_neT (a := 23) c23 rfl; have e24 := lv_neT (a := 24) c24 rfl; have e25 := lv_neT (a := 25) c25 rfl; have e26 := lv_neT (a := 26) c26 rfl; have e27 := lv_neT (a := 27) c27 rfl; have e28 := lv_neT (a := 28) c28 rfl; have e29 := lv_neT (a := 29) c29 rfl; have e30 := lv_neT (a := 30) c30 rfl; omega) (by decide) ?_
      exact K X Rw L T N M H locs ls hRel hP hD hS hl
theorem rel0 : Rel Z0 (fun _ => Z0) Z0 Z0 mZ := by
  refine ⟨fun _ _ => 0, fun _ _ => 0, ⟨by decide, by decide, fun h hh => absurd hh (Nat.not_lt_zero _), fun k hk => absurd hk (Nat.not_lt_zero _)⟩, ⟨rfl, rfl, fun h hh => absurd hh (Nat.not_lt_zero _), fun k hk => absurd hk (Nat.not_lt_zero _)⟩, ⟨rfl, rfl, fun h hh => absurd hh (Nat.not_lt_zero _), fun k hk => absurd hk (Nat.not_lt_zero _)⟩, rfl, ⟨rfl, rfl, rfl, rfl⟩, ⟨by decide, rfl, rfl, fun k hk => absurd hk (Nat.not_lt_zero _)⟩, fun k hk => absurd hk (Nat.not_lt_zero _), fun k hk => ⟨⟨0, by decide, rfl, rfl⟩, Or.inl ⟨rfl, ?_⟩, fun i hi => rfl⟩⟩
  rcases (show k = 0 ∨ k = 1 ∨ k = 2 ∨ k = 3 by omega) with rfl | rfl | rfl | rfl <;> rfl
theorem arr_int {s : State} {args : Array Value} {ty : FieldType} (h : (Cond.arrayClass ty).before args s = true) : ∃ cA, s.vm.findClass ("[" ++ ty.toString) = some cA ∧ ArrOfT s cA ty := by
  obtain ⟨cA, kA, comp, e1, e2, e3⟩ := Cond.arrayClass_spec h
  exact ⟨cA, e1, fun N z => ⟨(fun k h => by cases h), kA, e2, comp, e3⟩⟩
theorem arr_obj {s : State} {args : Array Value} {C : String} (h : (Cond.arrayOver (.object C)).before args s = true) : ∃ cA, va_RA s cA (.object C) ∧ ArrOfT s cA (.object C) := by
  obtain ⟨comp, cA, kA, e1, e2, e3, e4, e5⟩ := Cond.arrayOver_spec h
  exact ⟨cA, ⟨kA, comp, e3, e4, e1, e5⟩, fun N z => ⟨(fun k h => by cases h), kA, e3, comp, e4⟩⟩
set_option maxHeartbeats 8000000 in
set_option maxRecDepth 100000 in
theorem whole_start {p : Program} {e : Env} {s : State} {m : MethodId} {below : List Frame} {meth : Method} {c : Code} (l : Launch) (hflags : l.flags = flags0) {b L : Nat} {xs : Nat → Int32} (hL : L ≤ 3072) (C0 : lw_At p s m meth c b L xs) : W p l e room_1 s m #[Value.ref b] below meth c s.heap [] 0 0 (lw_Z below #[Value.ref b] s) (entryFrame m ([Value.ref b] : List Value).toArray 4) := by
  obtain ⟨hx, hb, hr, hml, hown, htsT, hX, hbl, hlocks, hgv⟩ := id C0
  have hts : ∀ w ∈ wsL_law, w.before #[Value.ref b] s = true := fun w h => htsT w (wsL_law_in w h)
  have CF : CallFix p m c code 4 s #[Value.ref b] wsL_law RL := ⟨hx, hb, hml, hown, hts⟩
  have hA : ∀ q : Nat, s.heap.size ≤ q → (fun q : Nat => s.heap.size ≤ q) q := fun _ h => h
  obtain ⟨d0, i0, hKn0⟩ := u_known (C := RX0) (T := TX0) (N := 8) (n := 8) htsT inX0 (htsT (.instantiable RX0 8) (by decide +kernel))
  obtain ⟨d1, i1, hKn1⟩ := u_known (C := RX1) (T := TX1) (N := 4) (n := 4) htsT inX1 (htsT (.instantiable RX1 4) (by decide +kernel))
  obtain ⟨d2, i2, hKn2⟩ := u_known (C := RX2) (T := TX2) (N := 4) (n := 4) htsT inX2 (htsT (.instantiable RX2 4) (by decide +kernel))
  obtain ⟨d3, i3, hKn3⟩ := u_known (C := RX3) (T := TX3) (N := 8) (n := 8) htsT inX3 (htsT (.instantiable RX3 8) (by decide +kernel))
  obtain ⟨d4, i4, hKn4⟩ := u_known (C := RX4) (T := TX4) (N := 29) (n := 29) htsT inX4 (htsT (.instantiable RX4 29) (by decide +kernel))
  obtain ⟨dC, dI, hKc⟩ : ∃ (dC : Nat → ClassId) (dI : Nat → Nat → Nat), ∀ (k : Nat) (q : vw_C), vwCl[k]? = some q → u_Kn s q.1 q.2.1 q.2.2 (dC k) (dI k) := by
    refine ⟨fun k => if k = 0 then d0 else if k = 1 then d1 else if k = 2 then d2 else if k = 3 then d3 else d4, fun k => if k = 0 then i0 else if k = 1 then i1 else if k = 2 then i2 else if k = 3 then i3 else i4, ?_⟩
    intro k q hq
    match k, hq with
    | 0, hq => cases hq; exact hKn0
    | 1, hq => cases hq; exact hKn1
    | 2, hq => cases hq; exact hKn2
    | 3, hq => cases hq; exact hKn3
    | 4, hq => cases hq; exact hKn4
    | k + 5, hq => simp [vwCl] at hq
  obtain ⟨cI, eI, aI⟩ := arr_int (htsT (.arrayClass .int) (by decide +kernel))
  obtain ⟨cZ, eZ, aZ⟩ := arr_int (htsT (.arrayClass .boolean) (by decide +kernel))
  obtain ⟨cQ, eQ, aQ⟩ := arr_obj (htsT (.arrayOver (.object RX2)) (by decide +kernel))
  have hK : EK (dC, dI) cI cZ cQ s := by
    refine ⟨⟨hKc, ?_⟩, va_Nw.of rfl (htsT (.methodLinkNest RX0 62 yX3_digit RX3) (by decide +kernel)), va_Nw.of rfl (htsT (.methodLinkNest RX0 52 yX3_thickness RX3) (by decide +kernel)), va_Nw.of rfl (htsT (.methodLinkNest RX0 58 yX3_lets RX3) (by decide +kernel)), va_Nw.of rfl (htsT (.methodLinkNest RX0 84 yX3_isIn RX3) (by decide +kernel)), va_Nw.of rfl (htsT (.methodLinkNest RX1 35 yX3_lets RX3) (by decide +kernel)), va_AO.of (htsT (.arrayOver (.object RX2)) (by decide +kernel))⟩
    intro k q hq
    match k, hq with
    | 0, hq => cases hq; exact ⟨aI, eI⟩
    | 1, hq => cases hq; exact ⟨aZ, eZ⟩
    | 2, hq => cases hq; exact ⟨aQ, eQ⟩
    | k + 3, hq => simp [tyL] at hq
  have hS : va_S (fun q : Nat => s.heap.size ≤ q) s.heap s.heap [] := va_S.rf
  have hP : va_P (dC, dI) vwCl [] s.heap := P0
  have hD : va_D (fun q : Nat => s.heap.size ≤ q) [] := ⟨fun i j p q h => by simp at h, fun k q h => by simp at h⟩
  have hl := lv_entry ([.ref b]) (n := 4) (Nat.le_of_ble_eq_true rfl)
  rw [lg_entry_eq]
  generalize (lg_sl ([.ref b]) ++ List.replicate (4 - (lg_sl ([.ref b])).length) Slot.unset).toArray = ls at hl ⊢
  have hl : lv_has ls 4 [(0, .ref b)] := hl
  refine va_new (pc := 0) (ci := 3) (fs := [.null, .null, .null, .null, .int 0, .int 0, .int 0, .int 0]) (C := RX3) (T := TX3) (N := 8) hx hb hts inlX3 tyX3 tyX3_ok hown (hts (.classLink RL 7 RX3) (by decide +kernel)) (hts (.instantiable RX3 8) (by decide +kernel)) (hts (.initialized RX3) (by decide +kernel)) hK.1 hP hD hS hA rfl (fun j hj => by rcases (show j = 0 ∨ j = 1 ∨ j = 2 ∨ j = 3 ∨ j = 4 ∨ j = 5 ∨ j = 6 ∨ j = 7 by omega) with rfl | rfl | rfl | rfl | rfl | rfl | rfl | rfl <;> rfl) (Nat.le_of_ble_eq_true rfl) (Nat.le_of_ble_eq_true rfl) dL_law_0 (fun o H hP hD hS => ?_)
  have hP : va_P (dC, dI) vwCl [(o, .inr (3, [.null, .null, .null, .null, .int 0, .int 0, .int 0, .int 0]))] H := hP
  have hD : va_D (fun q : Nat => s.heap.size ≤ q) [(o, .inr (3, [.null, .null, .null, .null, .int 0, .int 0, .int 0, .int 0]))] := hD
  refine W.widen (k := 1) (n := 8) (Nat.le_of_ble_eq_true rfl) (Nat.le_of_ble_eq_true rfl) ?_
  refine lv_dup (pc := 3) hx hb dL_law_3 rfl ?_
  refine callI0 (pc := 4) (isC := [0]) (isR := []) (wr := []) CF (mtX3_init l (dC, dI) cI cZ cQ o H.size) (cwI 0 hts gL_law_X3_init rfl rfl rfl (hts (.initialized RX3) (by decide +kernel)) (hts (.methodLink RL 9 yX3_init) (by decide +kernel)) (hts (.instanceMethod yX3_init) (by decide +kernel)) rfl hdX3_init ⟨Nat.le_of_ble_eq_true rfl, Nat.le_of_ble_eq_true rfl⟩) hK hP hD hS hA rfl (by decide) rfl (by decide) (by decide) hl.1 (Nat.le_of_ble_eq_true rfl) dL_law_4 ⟨Nat.le_of_ble_eq_true rfl, Nat.le_of_ble_eq_true rfl⟩ (fun a H locs hP hD hS => ?_)
  have hP : va_P (dC, dI) vwCl (wF cI cZ cQ o a Z0 (fun _ => Z0) Z0 Z0 Z0) H := hP
  have hD : va_D (fun q : Nat => s.heap.size ≤ q) (wF cI cZ cQ o a Z0 (fun _ => Z0) Z0 Z0 Z0) := hD
  refine W.widen (k := 26) (n := 372) (Nat.le_of_ble_eq_true rfl) (Nat.le_of_ble_eq_true rfl) ?_
  refine lv_astore_n (pc := 7) (lv' := [(1, .ref o), (0, .ref b)]) hx hb dL_law_7 rfl hl (by decide) rfl (fun ls hl => ?_)
  refine va_new (pc := 8) (ci := 4) (fs := [.int 0, .int 0, .null, .null, .null, .int 0, .int 0, .int 0, .int 0, .int 0, .null, .null, .null, .null, .int 0, .int 0, .int 0, .null, .null, .null, .null, .int 0, .int 0, .null, .null, .int 0, .null, .null, .null]) (C := RX4) (T := TX4) (N := 29) hx hb hts inlX4 tyX4 tyX4_ok hown (hts (.classLink RL 10 RX4) (by decide +kernel)) (hts (.instantiable RX4 29) (by decide +kernel)) (hts (.initialized RX4) (by decide +kernel)) hK.1 hP hD hS hA rfl (fun j hj => by rcases (show j = 0 ∨ j = 1 ∨ j = 2 ∨ j = 3 ∨ j = 4 ∨ j = 5 ∨ j = 6 ∨ j = 7 ∨ j = 8 ∨ j = 9 ∨ j = 10 ∨ j = 11 ∨ j = 12 ∨ j = 13 ∨ j = 14 ∨ j = 15 ∨ j = 16 ∨ j = 17 ∨ j = 18 ∨ j = 19 ∨ j = 20 ∨ j = 21 ∨ j = 22 ∨ j = 23 ∨ j = 24 ∨ j = 25 ∨ j = 26 ∨ j = 27 ∨ j = 28 by omega) with rfl | rfl | rfl | rfl | rfl | rfl | rfl | rfl | rfl | rfl | rfl | rfl | rfl | rfl | rfl | rfl | rfl | rfl | rfl | rfl | rfl | rfl | rfl | rfl | rfl | rfl | rfl | rfl | rfl <;> rfl) (Nat.le_of_ble_eq_true rfl) (Nat.le_of_ble_eq_true rfl) dL_law_8 (fun oM H hP hD hS => ?_)
  refine W.widen (k := 27) (n := 401) (Nat.le_of_ble_eq_true rfl) (Nat.le_of_ble_eq_true rfl) ?_
  refine lv_dup (pc := 11) hx hb dL_law_11 rfl ?_
  refine callI0 (pc := 12) (isC := [26]) (isR := [0, 1, 2, 3, 4, 5, 6, 7, 8, 9, 10, 11, 12, 13, 14, 15, 16, 17, 18, 19, 20, 21, 22, 23, 24, 25]) (wr := wF cI cZ cQ o a Z0 (fun _ => Z0) Z0 Z0 Z0) CF (mtX4_init l (dC, dI) cI cZ cQ oM H.size) (cwI 0 hts gL_law_X4_init rfl rfl rfl (hts (.initialized RX4) (by decide +kernel)) (hts (.methodLink RL 12 yX4_init) (by decide +kernel)) (hts (.instanceMethod yX4_init) (by decide +kernel)) rfl hdX4_init ⟨Nat.le_of_ble_eq_true rfl, Nat.le_of_ble_eq_true rfl⟩) hK hP hD hS hA rfl (by decide) rfl (by decide) (by decide) hl.1 (Nat.le_of_ble_eq_true rfl) dL_law_12 ⟨Nat.le_of_ble_eq_true rfl, Nat.le_of_ble_eq_true rfl⟩ (fun aM H locs hP hD hS => ?_)
  have hP : va_P (dC, dI) vwCl (wFM cI cZ cQ o a oM aM Z0 (fun _ => Z0) Z0 Z0 Z0 mZ) H := hP
  have hD : va_D (fun q : Nat => s.heap.size ≤ q) (wFM cI cZ cQ o a oM aM Z0 (fun _ => Z0) Z0 Z0 Z0 mZ) := hD
  refine W.widen (k := 43) (n := 748) (Nat.le_of_ble_eq_true rfl) (Nat.le_of_ble_eq_true rfl) ?_
  refine lv_astore_n (pc := 15) (lv' := [(2, .ref oM), (1, .ref o), (0, .ref b)]) hx hb dL_law_15 rfl hl (by decide) rfl (fun ls hl => ?_)
  refine lv_iconst (pc := 16) (v := 0) hx hb dL_law_16 (by decide) ?_
  refine lv_istore_n (pc := 17) (lv' := [(3, .int 0), (2, .ref oM), (1, .ref o), (0, .ref b)]) hx hb dL_law_17 rfl hl (by decide) rfl (fun ls hl => ?_)
  exact law_loop hL C0 hK (L + 1) 0 Z0 (fun _ => Z0) Z0 Z0 Z0 mZ H locs ls (Nat.zero_le L) (by omega) rel0 hP hD hS (lv_sub hl [3, 2, 1, 0] rfl)
