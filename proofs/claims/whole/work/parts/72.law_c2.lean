set_option maxHeartbeats 4000000 in
set_option maxRecDepth 100000 in
theorem lc_16 {p : Program} {l : Launch} {e : Env} {s : State} {m : MethodId} {below : List Frame} {meth : Method} {c : Code} {b len : Nat} {xs : Nat → Int32} {D : va_G} {cI cZ cQ : ClassId} (CF : CallFix p m c code 4 s #[Value.ref b] wsL_law RL) (hr : meth.sig.returnType = ret) (hlocks : meth.locks = false) (hK : EK D cI cZ cQ s) (hX : va_X b len xs s s.heap) (hbl : b < s.heap.size) {o : Nat} {a : Nat → Nat} {oM : Nat} {aM : Nat → Nat} {X : Bk} {Rw : Nat → Bk} {L T N M : Bk} {H : Heap} {locs : List Loc} {ls : Array Slot} {i : Int32} (h1 : vp_in (i + 1) len) (h2 : vp_in (i + 2) len) (h3 : vp_in (i + 3) len) (h4 : vp_in (i + 4) len) (h5 : vp_in (i + 5) len) (hRel : Rel X Rw L N M) (hP : va_P D vwCl (wFM cI cZ cQ o a oM aM X Rw L T N M) H) (hD : va_D (fun q : Nat => s.heap.size ≤ q) (wFM cI cZ cQ o a oM aM X Rw L T N M)) (hS : va_S (fun q : Nat => s.heap.size ≤ q) s.heap H locs) (hl : lv_has ls 4 [(0, .ref b), (1, .ref o), (2, .ref oM), (3, .int i)]) (K : ∀ (X : Bk) (Rw : Nat → Bk) (L T N M : Bk) (H : Heap) (locs : List Loc) (ls : Array Slot), Rel X Rw L N M → va_P D vwCl (wFM cI cZ cQ o a oM aM X Rw L T N M) H → va_D (fun q : Nat => s.heap.size ≤ q) (wFM cI cZ cQ o a oM aM X Rw L T N M) → va_S (fun q : Nat => s.heap.size ≤ q) s.heap H locs → lv_has ls 4 [(0, .ref b), (1, .ref o), (2, .ref oM), (3, .int i)] → W p l e room_1 s m #[Value.ref b] below meth c H locs 43 748 (lw_Z below #[Value.ref b] s) (F0 m 1237 ls [])) : W p l e room_1 s m #[Value.ref b] below meth c H locs 43 748 (lw_Z below #[Value.ref b] s) (F0 m 770 ls []) := by
  obtain ⟨hx, hb, hml, hown, hts⟩ := id CF
  have hA : ∀ q : Nat, s.heap.size ≤ q → (fun q : Nat => s.heap.size ≤ q) q := fun _ h => h
  have hbA : ¬ (fun q : Nat => s.heap.size ≤ q) b := Nat.not_le.mpr hbl
  obtain ⟨k, ox, om, hk, hfx, hfm, hre, hRel2⟩ := sim_girths T hRel (xs (i + 1).toNatClampNeg)
  refine lv_aload_n (pc := 770) hx hb dL_law_770 rfl (lv_at hl 1 rfl) ?_
  refine lv_aload_n (pc := 771) hx hb dL_law_771 rfl (lv_at hl 0 rfl) ?_
  refine lv_iload_n (pc := 772) hx hb dL_law_772 rfl (lv_at hl 3 rfl) ?_
  refine lv_iconst (pc := 773) (v := 1) hx hb dL_law_773 (by decide) ?_
  refine lv_iadd (pc := 774) hx hb dL_law_774 ?_
  refine va_sld (pc := 775) hx hb hX hbl hbA hS h1 dL_law_775 ?_
  refine lxWi (pc := 776) (As := [.int (xs (i + 1).toNatClampNeg)]) (rest := []) (X' := X) (R' := Rw k) (L' := L) (T' := ox.2) (N' := N) hk CF (mtX3_girths l D cI cZ cQ o (a 0) (fun i => a (10 + i)) k (a (20 + k)) (a 30) (fun j => a (40 + j)) (a 50) (fun j => a (60 + j)) (a 70) (fun j => a (80 + j)) X (Rw k) L T N (xs (i + 1).toNatClampNeg) H.size ox hfx) (cwV 1 hts gL_law_X3_girths rfl rfl rfl ⟨rfl, hdX3_girths⟩ ⟨Nat.le_of_ble_eq_true rfl, Nat.le_of_ble_eq_true rfl⟩) hK hP hD hS hA rfl hl.1 rfl (Nat.le_of_ble_eq_true rfl) dL_law_776 ⟨Nat.le_of_ble_eq_true rfl, Nat.le_of_ble_eq_true rfl⟩ (fun H locs hP hD hS => ?_)
  rw [up_id] at hP hD
  refine lv_aload_n (pc := 779) hx hb dL_law_779 rfl (lv_at hl 2 rfl) ?_
  refine lv_aload_n (pc := 780) hx hb dL_law_780 rfl (lv_at hl 0 rfl) ?_
  refine lv_iload_n (pc := 781) hx hb dL_law_781 rfl (lv_at hl 3 rfl) ?_
  refine lv_iconst (pc := 782) (v := 1) hx hb dL_law_782 (by decide) ?_
  refine lv_iadd (pc := 783) hx hb dL_law_783 ?_
  refine va_sld (pc := 784) hx hb hX hbl hbA hS h1 dL_law_784 ?_
  refine lmWi (pc := 785) (As := [.int (xs (i + 1).toNatClampNeg)]) (rest := [.int ox.1]) (M' := om.2) CF (mtX4_girths l D cI cZ cQ oM aM M (xs (i + 1).toNatClampNeg) H.size om hfm) (cwV 1 hts gL_law_X4_girths rfl rfl rfl ⟨rfl, hdX4_girths⟩ ⟨Nat.le_of_ble_eq_true rfl, Nat.le_of_ble_eq_true rfl⟩) hK hP hD hS hA rfl hl.1 rfl (Nat.le_of_ble_eq_true rfl) dL_law_785 ⟨Nat.le_of_ble_eq_true rfl, Nat.le_of_ble_eq_true rfl⟩ (fun H locs hP hD hS => ?_)
  refine lv_icmp_eq (pc := 788) (tgt := 1237) hx hb dL_law_788 (by decide) (fun _ => ?_) (fun c9 => absurd hre c9)
  exact K _ _ _ _ _ _ _ _ _ hRel2 hP hD hS hl
set_option maxHeartbeats 4000000 in
set_option maxRecDepth 100000 in
theorem lc_17 {p : Program} {l : Launch} {e : Env} {s : State} {m : MethodId} {below : List Frame} {meth : Method} {c : Code} {b len : Nat} {xs : Nat → Int32} {D : va_G} {cI cZ cQ : ClassId} (CF : CallFix p m c code 4 s #[Value.ref b] wsL_law RL) (hr : meth.sig.returnType = ret) (hlocks : meth.locks = false) (hK : EK D cI cZ cQ s) (hX : va_X b len xs s s.heap) (hbl : b < s.heap.size) {o : Nat} {a : Nat → Nat} {oM : Nat} {aM : Nat → Nat} {X : Bk} {Rw : Nat → Bk} {L T N M : Bk} {H : Heap} {locs : List Loc} {ls : Array Slot} {i : Int32} (h1 : vp_in (i + 1) len) (h2 : vp_in (i + 2) len) (h3 : vp_in (i + 3) len) (h4 : vp_in (i + 4) len) (h5 : vp_in (i + 5) len) (hRel : Rel X Rw L N M) (hP : va_P D vwCl (wFM cI cZ cQ o a oM aM X Rw L T N M) H) (hD : va_D (fun q : Nat => s.heap.size ≤ q) (wFM cI cZ cQ o a oM aM X Rw L T N M)) (hS : va_S (fun q : Nat => s.heap.size ≤ q) s.heap H locs) (hl : lv_has ls 4 [(0, .ref b), (1, .ref o), (2, .ref oM), (3, .int i)]) (K : ∀ (X : Bk) (Rw : Nat → Bk) (L T N M : Bk) (H : Heap) (locs : List Loc) (ls : Array Slot), Rel X Rw L N M → va_P D vwCl (wFM cI cZ cQ o a oM aM X Rw L T N M) H → va_D (fun q : Nat => s.heap.size ≤ q) (wFM cI cZ cQ o a oM aM X Rw L T N M) → va_S (fun q : Nat => s.heap.size ≤ q) s.heap H locs → lv_has ls 4 [(0, .ref b), (1, .ref o), (2, .ref oM), (3, .int i)] → W p l e room_1 s m #[Value.ref b] below meth c H locs 43 748 (lw_Z below #[Value.ref b] s) (F0 m 1237 ls [])) : W p l e room_1 s m #[Value.ref b] below meth c H locs 43 748 (lw_Z below #[Value.ref b] s) (F0 m 793 ls []) := by
  obtain ⟨hx, hb, hml, hown, hts⟩ := id CF
  have hA : ∀ q : Nat, s.heap.size ≤ q → (fun q : Nat => s.heap.size ≤ q) q := fun _ h => h
  have hbA : ¬ (fun q : Nat => s.heap.size ≤ q) b := Nat.not_le.mpr hbl
  obtain ⟨k, ox, om, hk, hfx, hfm, hre, hRel2⟩ := sim_kinds T hRel (xs (i + 1).toNatClampNeg)
  refine lv_aload_n (pc := 793) hx hb dL_law_793 rfl (lv_at hl 1 rfl) ?_
  refine lv_aload_n (pc := 794) hx hb dL_law_794 rfl (lv_at hl 0 rfl) ?_
  refine lv_iload_n (pc := 795) hx hb dL_law_795 rfl (lv_at hl 3 rfl) ?_
  refine lv_iconst (pc := 796) (v := 1) hx hb dL_law_796 (by decide) ?_
  refine lv_iadd (pc := 797) hx hb dL_law_797 ?_
  refine va_sld (pc := 798) hx hb hX hbl hbA hS h1 dL_law_798 ?_
  refine lxWi (pc := 799) (As := [.int (xs (i + 1).toNatClampNeg)]) (rest := []) (X' := X) (R' := Rw k) (L' := L) (T' := ox.2) (N' := N) hk CF (mtX3_kinds l D cI cZ cQ o (a 0) (fun i => a (10 + i)) k (a (20 + k)) (a 30) (fun j => a (40 + j)) (a 50) (fun j => a (60 + j)) (a 70) (fun j => a (80 + j)) X (Rw k) L T N (xs (i + 1).toNatClampNeg) H.size ox hfx) (cwV 1 hts gL_law_X3_kinds rfl rfl rfl ⟨rfl, hdX3_kinds⟩ ⟨Nat.le_of_ble_eq_true rfl, Nat.le_of_ble_eq_true rfl⟩) hK hP hD hS hA rfl hl.1 rfl (Nat.le_of_ble_eq_true rfl) dL_law_799 ⟨Nat.le_of_ble_eq_true rfl, Nat.le_of_ble_eq_true rfl⟩ (fun H locs hP hD hS => ?_)
  rw [up_id] at hP hD
  refine lv_aload_n (pc := 802) hx hb dL_law_802 rfl (lv_at hl 2 rfl) ?_
  refine lv_aload_n (pc := 803) hx hb dL_law_803 rfl (lv_at hl 0 rfl) ?_
  refine lv_iload_n (pc := 804) hx hb dL_law_804 rfl (lv_at hl 3 rfl) ?_
  refine lv_iconst (pc := 805) (v := 1) hx hb dL_law_805 (by decide) ?_
  refine lv_iadd (pc := 806) hx hb dL_law_806 ?_
  refine va_sld (pc := 807) hx hb hX hbl hbA hS h1 dL_law_807 ?_
  refine lmWi (pc := 808) (As := [.int (xs (i + 1).toNatClampNeg)]) (rest := [.int ox.1]) (M' := om.2) CF (mtX4_kinds l D cI cZ cQ oM aM M (xs (i + 1).toNatClampNeg) H.size om hfm) (cwV 1 hts gL_law_X4_kinds rfl rfl rfl ⟨rfl, hdX4_kinds⟩ ⟨Nat.le_of_ble_eq_true rfl, Nat.le_of_ble_eq_true rfl⟩) hK hP hD hS hA rfl hl.1 rfl (Nat.le_of_ble_eq_true rfl) dL_law_808 ⟨Nat.le_of_ble_eq_true rfl, Nat.le_of_ble_eq_true rfl⟩ (fun H locs hP hD hS => ?_)
  refine lv_icmp_eq (pc := 811) (tgt := 1237) hx hb dL_law_811 (by decide) (fun _ => ?_) (fun c9 => absurd hre c9)
  exact K _ _ _ _ _ _ _ _ _ hRel2 hP hD hS hl
set_option maxHeartbeats 4000000 in
set_option maxRecDepth 100000 in
theorem lc_18 {p : Program} {l : Launch} {e : Env} {s : State} {m : MethodId} {below : List Frame} {meth : Method} {c : Code} {b len : Nat} {xs : Nat → Int32} {D : va_G} {cI cZ cQ : ClassId} (CF : CallFix p m c code 4 s #[Value.ref b] wsL_law RL) (hr : meth.sig.returnType = ret) (hlocks : meth.locks = false) (hK : EK D cI cZ cQ s) (hX : va_X b len xs s s.heap) (hbl : b < s.heap.size) {o : Nat} {a : Nat → Nat} {oM : Nat} {aM : Nat → Nat} {X : Bk} {Rw : Nat → Bk} {L T N M : Bk} {H : Heap} {locs : List Loc} {ls : Array Slot} {i : Int32} (h1 : vp_in (i + 1) len) (h2 : vp_in (i + 2) len) (h3 : vp_in (i + 3) len) (h4 : vp_in (i + 4) len) (h5 : vp_in (i + 5) len) (hRel : Rel X Rw L N M) (hP : va_P D vwCl (wFM cI cZ cQ o a oM aM X Rw L T N M) H) (hD : va_D (fun q : Nat => s.heap.size ≤ q) (wFM cI cZ cQ o a oM aM X Rw L T N M)) (hS : va_S (fun q : Nat => s.heap.size ≤ q) s.heap H locs) (hl : lv_has ls 4 [(0, .ref b), (1, .ref o), (2, .ref oM), (3, .int i)]) (K : ∀ (X : Bk) (Rw : Nat → Bk) (L T N M : Bk) (H : Heap) (locs : List Loc) (ls : Array Slot), Rel X Rw L N M → va_P D vwCl (wFM cI cZ cQ o a oM aM X Rw L T N M) H → va_D (fun q : Nat => s.heap.size ≤ q) (wFM cI cZ cQ o a oM aM X Rw L T N M) → va_S (fun q : Nat => s.heap.size ≤ q) s.heap H locs → lv_has ls 4 [(0, .ref b), (1, .ref o), (2, .ref oM), (3, .int i)] → W p l e room_1 s m #[Value.ref b] below meth c H locs 43 748 (lw_Z below #[Value.ref b] s) (F0 m 1237 ls [])) : W p l e room_1 s m #[Value.ref b] below meth c H locs 43 748 (lw_Z below #[Value.ref b] s) (F0 m 816 ls []) := by
  obtain ⟨hx, hb, hml, hown, hts⟩ := id CF
  have hA : ∀ q : Nat, s.heap.size ≤ q → (fun q : Nat => s.heap.size ≤ q) q := fun _ h => h
  have hbA : ¬ (fun q : Nat => s.heap.size ≤ q) b := Nat.not_le.mpr hbl
  obtain ⟨k, ox, om, hk, hfx, hfm, hre, hRel2⟩ := sim_holes T hRel (xs (i + 1).toNatClampNeg) (xs (i + 2).toNatClampNeg)
  refine lv_aload_n (pc := 816) hx hb dL_law_816 rfl (lv_at hl 1 rfl) ?_
  refine lv_aload_n (pc := 817) hx hb dL_law_817 rfl (lv_at hl 0 rfl) ?_
  refine lv_iload_n (pc := 818) hx hb dL_law_818 rfl (lv_at hl 3 rfl) ?_
  refine lv_iconst (pc := 819) (v := 1) hx hb dL_law_819 (by decide) ?_
  refine lv_iadd (pc := 820) hx hb dL_law_820 ?_
  refine va_sld (pc := 821) hx hb hX hbl hbA hS h1 dL_law_821 ?_
  refine lv_aload_n (pc := 822) hx hb dL_law_822 rfl (lv_at hl 0 rfl) ?_
  refine lv_iload_n (pc := 823) hx hb dL_law_823 rfl (lv_at hl 3 rfl) ?_
  refine lv_iconst (pc := 824) (v := 2) hx hb dL_law_824 (by decide) ?_
  refine lv_iadd (pc := 825) hx hb dL_law_825 ?_
  refine va_sld (pc := 826) hx hb hX hbl hbA hS h2 dL_law_826 ?_
  refine lxWi (pc := 827) (As := [.int (xs (i + 1).toNatClampNeg), .int (xs (i + 2).toNatClampNeg)]) (rest := []) (X' := X) (R' := Rw k) (L' := L) (T' := ox.2) (N' := N) hk CF (mtX3_holes l D cI cZ cQ o (a 0) (fun i => a (10 + i)) k (a (20 + k)) (a 30) (fun j => a (40 + j)) (a 50) (fun j => a (60 + j)) (a 70) (fun j => a (80 + j)) X (Rw k) L T N (xs (i + 1).toNatClampNeg) (xs (i + 2).toNatClampNeg) H.size ox hfx) (cwV 2 hts gL_law_X3_holes rfl rfl rfl ⟨rfl, hdX3_holes⟩ ⟨Nat.le_of_ble_eq_true rfl, Nat.le_of_ble_eq_true rfl⟩) hK hP hD hS hA rfl hl.1 rfl (Nat.le_of_ble_eq_true rfl) dL_law_827 ⟨Nat.le_of_ble_eq_true rfl, Nat.le_of_ble_eq_true rfl⟩ (fun H locs hP hD hS => ?_)
  rw [up_id] at hP hD
  refine lv_aload_n (pc := 830) hx hb dL_law_830 rfl (lv_at hl 2 rfl) ?_
  refine lv_aload_n (pc := 831) hx hb dL_law_831 rfl (lv_at hl 0 rfl) ?_
  refine lv_iload_n (pc := 832) hx hb dL_law_832 rfl (lv_at hl 3 rfl) ?_
  refine lv_iconst (pc := 833) (v := 1) hx hb dL_law_833 (by decide) ?_
  refine lv_iadd (pc := 834) hx hb dL_law_834 ?_
  refine va_sld (pc := 835) hx hb hX hbl hbA hS h1 dL_law_835 ?_
  refine lv_aload_n (pc := 836) hx hb dL_law_836 rfl (lv_at hl 0 rfl) ?_
  refine lv_iload_n (pc := 837) hx hb dL_law_837 rfl (lv_at hl 3 rfl) ?_
  refine lv_iconst (pc := 838) (v := 2) hx hb dL_law_838 (by decide) ?_
  refine lv_iadd (pc := 839) hx hb dL_law_839 ?_
  refine va_sld (pc := 840) hx hb hX hbl hbA hS h2 dL_law_840 ?_
  refine lmWi (pc := 841) (As := [.int (xs (i + 1).toNatClampNeg), .int (xs (i + 2).toNatClampNeg)]) (rest := [.int ox.1]) (M' := om.2) CF (mtX4_holes l D cI cZ cQ oM aM M (xs (i + 1).toNatClampNeg) (xs (i + 2).toNatClampNeg) H.size om hfm) (cwV 2 hts gL_law_X4_holes rfl rfl rfl ⟨rfl, hdX4_holes⟩ ⟨Nat.le_of_ble_eq_true rfl, Nat.le_of_ble_eq_true rfl⟩) hK hP hD hS hA rfl hl.1 rfl (Nat.le_of_ble_eq_true rfl) dL_law_841 ⟨Nat.le_of_ble_eq_true rfl, Nat.le_of_ble_eq_true rfl⟩ (fun H locs hP hD hS => ?_)
  refine lv_icmp_eq (pc := 844) (tgt := 1237) hx hb dL_law_844 (by decide) (fun _ => ?_) (fun c9 => absurd hre c9)
  exact K _ _ _ _ _ _ _ _ _ hRel2 hP hD hS hl
set_option maxHeartbeats 4000000 in
set_option maxRecDepth 100000 in
theorem lc_19 {p : Program} {l : Launch} {e : Env} {s : State} {m : MethodId} {below : List Frame} {meth : Method} {c : Code} {b len : Nat} {xs : Nat → Int32} {D : va_G} {cI cZ cQ : ClassId} (CF : CallFix p m c code 4 s #[Value.ref b] wsL_law RL) (hr : meth.sig.returnType = ret) (hlocks : meth.locks = false) (hK : EK D cI cZ cQ s) (hX : va_X b len xs s s.heap) (hbl : b < s.heap.size) {o : Nat} {a : Nat → Nat} {oM : Nat} {aM : Nat → Nat} {X : Bk} {Rw : Nat → Bk} {L T N M : Bk} {H : Heap} {locs : List Loc} {ls : Array Slot} {i : Int32} (h1 : vp_in (i + 1) len) (h2 : vp_in (i + 2) len) (h3 : vp_in (i + 3) len) (h4 : vp_in (i + 4) len) (h5 : vp_in (i + 5) len) (hRel : Rel X Rw L N M) (hP : va_P D vwCl (wFM cI cZ cQ o a oM aM X Rw L T N M) H) (hD : va_D (fun q : Nat => s.heap.size ≤ q) (wFM cI cZ cQ o a oM aM X Rw L T N M)) (hS : va_S (fun q : Nat => s.heap.size ≤ q) s.heap H locs) (hl : lv_has ls 4 [(0, .ref b), (1, .ref o), (2, .ref oM), (3, .int i)]) (K : ∀ (X : Bk) (Rw : Nat → Bk) (L T N M : Bk) (H : Heap) (locs : List Loc) (ls : Array Slot), Rel X Rw L N M → va_P D vwCl (wFM cI cZ cQ o a oM aM X Rw L T N M) H → va_D (fun q : Nat => s.heap.size ≤ q) (wFM cI cZ cQ o a oM aM X Rw L T N M) → va_S (fun q : Nat => s.heap.size ≤ q) s.heap H locs → lv_has ls 4 [(0, .ref b), (1, .ref o), (2, .ref oM), (3, .int i)] → W p l e room_1 s m #[Value.ref b] below meth c H locs 43 748 (lw_Z below #[Value.ref b] s) (F0 m 1237 ls [])) : W p l e room_1 s m #[Value.ref b] below meth c H locs 43 748 (lw_Z below #[Value.ref b] s) (F0 m 849 ls []) := by
  obtain ⟨hx, hb, hml, hown, hts⟩ := id CF
  have hA : ∀ q : Nat, s.heap.size ≤ q → (fun q : Nat => s.heap.size ≤ q) q := fun _ h => h
  have hbA : ¬ (fun q : Nat => s.heap.size ≤ q) b := Nat.not_le.mpr hbl
  obtain ⟨k, ox, om, hk, hfx, hfm, hre, hRel2⟩ := sim_odds T hRel (xs (i + 1).toNatClampNeg) (xs (i + 2).toNatClampNeg) (xs (i + 3).toNatClampNeg)
  refine lv_aload_n (pc := 849) hx hb dL_law_849 rfl (lv_at hl 1 rfl) ?_
  refine lv_aload_n (pc := 850) hx hb dL_law_850 rfl (lv_at hl 0 rfl) ?_
  refine lv_iload_n (pc := 851) hx hb dL_law_851 rfl (lv_at hl 3 rfl) ?_
  refine lv_iconst (pc := 852) (v := 1) hx hb dL_law_852 (by decide) ?_
  refine lv_iadd (pc := 853) hx hb dL_law_853 ?_
  refine va_sld (pc := 854) hx hb hX hbl hbA hS h1 dL_law_854 ?_
  refine lv_aload_n (pc := 855) hx hb dL_law_855 rfl (lv_at hl 0 rfl) ?_
  refine lv_iload_n (pc := 856) hx hb dL_law_856 rfl (lv_at hl 3 rfl) ?_
  refine lv_iconst (pc := 857) (v := 2) hx hb dL_law_857 (by decide) ?_
  refine lv_iadd (pc := 858) hx hb dL_law_858 ?_
  refine va_sld (pc := 859) hx hb hX hbl hbA hS h2 dL_law_859 ?_
  refine lv_aload_n (pc := 860) hx hb dL_law_860 rfl (lv_at hl 0 rfl) ?_
  refine lv_iload_n (pc := 861) hx hb dL_law_861 rfl (lv_at hl 3 rfl) ?_
  refine lv_iconst (pc := 862) (v := 3) hx hb dL_law_862 (by decide) ?_
  refine lv_iadd (pc := 863) hx hb dL_law_863 ?_
  refine va_sld (pc := 864) hx hb hX hbl hbA hS h3 dL_law_864 ?_
  refine lxRl (pc := 865) (As := [.int (xs (i + 1).toNatClampNeg), .int (xs (i + 2).toNatClampNeg), .int (xs (i + 3).toNatClampNeg)]) (rest := []) CF (mtX3_odds l D cI cZ cQ o (a 0) (fun i => a (10 + i)) 0 (a (20 + 0)) (a 30) (fun j => a (40 + j)) (a 50) (fun j => a (60 + j)) (a 70) (fun j => a (80 + j)) X (Rw 0) L T N (xs (i + 1).toNatClampNeg) (xs (i + 2).toNatClampNeg) (xs (i + 3).toNatClampNeg) ox hfx) (cwV 3 hts gL_law_X3_odds rfl rfl rfl ⟨rfl, hdX3_odds⟩ ⟨Nat.le_of_ble_eq_true rfl, Nat.le_of_ble_eq_true rfl⟩) hK hP rfl hl.1 rfl (Nat.le_of_ble_eq_true rfl) dL_law_865 ⟨Nat.le_of_ble_eq_true rfl, Nat.le_of_ble_eq_true rfl⟩ ?_
  refine lv_aload_n (pc := 868) hx hb dL_law_868 rfl (lv_at hl 2 rfl) ?_
  refine lv_aload_n (pc := 869) hx hb dL_law_869 rfl (lv_at hl 0 rfl) ?_
  refine lv_iload_n (pc := 870) hx hb dL_law_870 rfl (lv_at hl 3 rfl) ?_
  refine lv_iconst (pc := 871) (v := 1) hx hb dL_law_871 (by decide) ?_
  refine lv_iadd (pc := 872) hx hb dL_law_872 ?_
  refine va_sld (pc := 873) hx hb hX hbl hbA hS h1 dL_law_873 ?_
  refine lv_aload_n (pc := 874) hx hb dL_law_874 rfl (lv_at hl 0 rfl) ?_
  refine lv_iload_n (pc := 875) hx hb dL_law_875 rfl (lv_at hl 3 rfl) ?_
  refine lv_iconst (pc := 876) (v := 2) hx hb dL_law_876 (by decide) ?_
  refine lv_iadd (pc := 877) hx hb dL_law_877 ?_
  refine va_sld (pc := 878) hx hb hX hbl hbA hS h2 dL_law_878 ?_
  refine lv_aload_n (pc := 879) hx hb dL_law_879 rfl (lv_at hl 0 rfl) ?_
  refine lv_iload_n (pc := 880) hx hb dL_law_880 rfl (lv_at hl 3 rfl) ?_
  refine lv_iconst (pc := 881) (v := 3) hx hb dL_law_881 (by decide) ?_
  refine lv_iadd (pc := 882) hx hb dL_law_882 ?_
  refine va_sld (pc := 883) hx hb hX hbl hbA hS h3 dL_law_883 ?_
  refine lmWl (pc := 884) (As := [.int (xs (i + 1).toNatClampNeg), .int (xs (i + 2).toNatClampNeg), .int (xs (i + 3).toNatClampNeg)]) (rest := [.long ox]) (M' := om.2) CF (mtX4_odds l D cI cZ cQ oM aM M (xs (i + 1).toNatClampNeg) (xs (i + 2).toNatClampNeg) (xs (i + 3).toNatClampNeg) H.size om hfm) (cwV 3 hts gL_law_X4_odds rfl rfl rfl ⟨rfl, hdX4_odds⟩ ⟨Nat.le_of_ble_eq_true rfl, Nat.le_of_ble_eq_true rfl⟩) hK hP hD hS hA rfl hl.1 rfl (Nat.le_of_ble_eq_true rfl) dL_law_884 ⟨Nat.le_of_ble_eq_true rfl, Nat.le_of_ble_eq_true rfl⟩ (fun H locs hP hD hS => ?_)
  refine W.lcmp (pc := 887) hx hb dL_law_887 ?_
  refine lv_if_eq (pc := 888) (tgt := 1237) hx hb dL_law_888 (by decide) (fun _ => ?_) (fun c9 => absurd (lg_cmp_same hre) c9)
  exact K _ _ _ _ _ _ _ _ _ hRel2 hP hD hS hl
set_option maxHeartbeats 4000000 in
set_option maxRecDepth 100000 in
theorem lc_20 {p : Program} {l : Launch} {e : Env} {s : State} {m : MethodId} {below : List Frame} {meth : Method} {c : Code} {b len : Nat} {xs : Nat → Int32} {D : va_G} {cI cZ cQ : ClassId} (CF : CallFix p m c code 4 s #[Value.ref b] wsL_law RL) (hr : meth.sig.returnType = ret) (hlocks : meth.locks = false) (hK : EK D cI cZ cQ s) (hX : va_X b len xs s s.heap) (hbl : b < s.heap.size) {o : Nat} {a : Nat → Nat} {oM : Nat} {aM : Nat → Nat} {X : Bk} {Rw : Nat → Bk} {L T N M : Bk} {H : Heap} {locs : List Loc} {ls : Array Slot} {i : Int32} (h1 : vp_in (i + 1) len) (h2 : vp_in (i + 2) len) (h3 : vp_in (i + 3) len) (h4 : vp_in (i + 4) len) (h5 : vp_in (i + 5) len) (hRel : Rel X Rw L N M) (hP : va_P D vwCl (wFM cI cZ cQ o a oM aM X Rw L T N M) H) (hD : va_D (fun q : Nat => s.heap.size ≤ q) (wFM cI cZ cQ o a oM aM X Rw L T N M)) (hS : va_S (fun q : Nat => s.heap.size ≤ q) s.heap H locs) (hl : lv_has ls 4 [(0, .ref b), (1, .ref o), (2, .ref oM), (3, .int i)]) (K : ∀ (X : Bk) (Rw : Nat → Bk) (L T N M : Bk) (H : Heap) (locs : List Loc) (ls : Array Slot), Rel X Rw L N M → va_P D vwCl (wFM cI cZ cQ o a oM aM X Rw L T N M) H → va_D (fun q : Nat => s.heap.size ≤ q) (wFM cI cZ cQ o a oM aM X Rw L T N M) → va_S (fun q : Nat => s.heap.size ≤ q) s.heap H locs → lv_has ls 4 [(0, .ref b), (1, .ref o), (2, .ref oM), (3, .int i)] → W p l e room_1 s m #[Value.ref b] below meth c H locs 43 748 (lw_Z below #[Value.ref b] s) (F0 m 1237 ls [])) : W p l e room_1 s m #[Value.ref b] below meth c H locs 43 748 (lw_Z below #[Value.ref b] s) (F0 m 893 ls []) := by
  obtain ⟨hx, hb, hml, hown, hts⟩ := id CF
  have hA : ∀ q : Nat, s.heap.size ≤ q → (fun q : Nat => s.heap.size ≤ q) q := fun _ h => h
  have hbA : ¬ (fun q : Nat => s.heap.size ≤ q) b := Nat.not_le.mpr hbl
  obtain ⟨k, ox, om, hk, hfx, hfm, hre, hRel2⟩ := sim_sheet T hRel (xs (i + 1).toNatClampNeg) (xs (i + 2).toNatClampNeg) (xs (i + 3).toNatClampNeg)
  refine lv_aload_n (pc := 893) hx hb dL_law_893 rfl (lv_at hl 1 rfl) ?_
  refine lv_aload_n (pc := 894) hx hb dL_law_894 rfl (lv_at hl 0 rfl) ?_
  refine lv_iload_n (pc := 895) hx hb dL_law_895 rfl (lv_at hl 3 rfl) ?_
  refine lv_iconst (pc := 896) (v := 1) hx hb dL_law_896 (by decide) ?_
  refine lv_iadd (pc := 897) hx hb dL_law_897 ?_
  refine va_sld (pc := 898) hx hb hX hbl hbA hS h1 dL_law_898 ?_
  refine lv_aload_n (pc := 899) hx hb dL_law_899 rfl (lv_at hl 0 rfl) ?_
  refine lv_iload_n (pc := 900) hx hb dL_law_900 rfl (lv_at hl 3 rfl) ?_
  refine lv_iconst (pc := 901) (v := 2) hx hb dL_law_901 (by decide) ?_
  refine lv_iadd (pc := 902) hx hb dL_law_902 ?_
  refine va_sld (pc := 903) hx hb hX hbl hbA hS h2 dL_law_903 ?_
  refine lv_aload_n (pc := 904) hx hb dL_law_904 rfl (lv_at hl 0 rfl) ?_
  refine lv_iload_n (pc := 905) hx hb dL_law_905 rfl (lv_at hl 3 rfl) ?_
  refine lv_iconst (pc := 906) (v := 3) hx hb dL_law_906 (by decide) ?_
  refine lv_iadd (pc := 907) hx hb dL_law_907 ?_
  refine va_sld (pc := 908) hx hb hX hbl hbA hS h3 dL_law_908 ?_
  refine lxWi (pc := 909) (As := [.int (xs (i + 1).toNatClampNeg), .int (xs (i + 2).toNatClampNeg), .int (xs (i + 3).toNatClampNeg)]) (rest := []) (X' := ox.2.1) (R' := ox.2.2) (L' := L) (T' := T) (N' := N) hk CF (mtX3_sheet l D cI cZ cQ o (a 0) (fun i => a (10 + i)) k (a (20 + k)) (a 30) (fun j => a (40 + j)) (a 50) (fun j => a (60 + j)) (a 70) (fun j => a (80 + j)) X (Rw k) L T N (xs (i + 1).toNatClampNeg) (xs (i + 2).toNatClampNeg) (xs (i + 3).toNatClampNeg) H.size ox hfx) (cwV 3 hts gL_law_X3_sheet rfl rfl rfl ⟨rfl, hdX3_sheet⟩ ⟨Nat.le_of_ble_eq_true rfl, Nat.le_of_ble_eq_true rfl⟩) hK hP hD hS hA rfl hl.1 rfl (Nat.le_of_ble_eq_true rfl) dL_law_909 ⟨Nat.le_of_ble_eq_true rfl, Nat.le_of_ble_eq_true rfl⟩ (fun H locs hP hD hS => ?_)
  refine lv_aload_n (pc := 912) hx hb dL_law_912 rfl (lv_at hl 2 rfl) ?_
  refine lv_aload_n (pc := 913) hx hb dL_law_913 rfl (lv_at hl 0 rfl) ?_
  refine lv_iload_n (pc := 914) hx hb dL_law_914 rfl (lv_at hl 3 rfl) ?_
  refine lv_iconst (pc := 915) (v := 1) hx hb dL_law_915 (by decide) ?_
  refine lv_iadd (pc := 916) hx hb dL_law_916 ?_
  refine va_sld (pc := 917) hx hb hX hbl hbA hS h1 dL_law_917 ?_
  refine lv_aload_n (pc := 918) hx hb dL_law_918 rfl (lv_at hl 0 rfl) ?_
  refine lv_iload_n (pc := 919) hx hb dL_law_919 rfl (lv_at hl 3 rfl) ?_
  refine lv_iconst (pc := 920) (v := 2) hx hb dL_law_920 (by decide) ?_
  refine lv_iadd (pc := 921) hx hb dL_law_921 ?_
  refine va_sld (pc := 922) hx hb hX hbl hbA hS h2 dL_law_922 ?_
  refine lv_aload_n (pc := 923) hx hb dL_law_923 rfl (lv_at hl 0 rfl) ?_
  refine lv_iload_n (pc := 924) hx hb dL_law_924 rfl (lv_at hl 3 rfl) ?_
  refine lv_iconst (pc := 925) (v := 3) hx hb dL_law_925 (by decide) ?_
  refine lv_iadd (pc := 926) hx hb dL_law_926 ?_
  refine va_sld (pc := 927) hx hb hX hbl hbA hS h3 dL_law_927 ?_
  refine lmWi (pc := 928) (As := [.int (xs (i + 1).toNatClampNeg), .int (xs (i + 2).toNatClampNeg), .int (xs (i + 3).toNatClampNeg)]) (rest := [.int ox.1]) (M' := om.2) CF (mtX4_sheet l D cI cZ cQ oM aM M (xs (i + 1).toNatClampNeg) (xs (i + 2).toNatClampNeg) (xs (i + 3).toNatClampNeg) H.size om hfm) (cwV 3 hts gL_law_X4_sheet rfl rfl rfl ⟨rfl, hdX4_sheet⟩ ⟨Nat.le_of_ble_eq_true rfl, Nat.le_of_ble_eq_true rfl⟩) hK hP hD hS hA rfl hl.1 rfl (Nat.le_of_ble_eq_true rfl) dL_law_928 ⟨Nat.le_of_ble_eq_true rfl, Nat.le_of_ble_eq_true rfl⟩ (fun H locs hP hD hS => ?_)
  refine lv_icmp_eq (pc := 931) (tgt := 1237) hx hb dL_law_931 (by decide) (fun _ => ?_) (fun c9 => absurd hre c9)
  exact K _ _ _ _ _ _ _ _ _ hRel2 hP hD hS hl
set_option maxHeartbeats 4000000 in
set_option maxRecDepth 100000 in
theorem lc_21 {p : Program} {l : Launch} {e : Env} {s : State} {m : MethodId} {below : List Frame} {meth : Method} {c : Code} {b len : Nat} {xs : Nat → Int32} {D : va_G} {cI cZ cQ : ClassId} (CF : CallFix p m c code 4 s #[Value.ref b] wsL_law RL) (hr : meth.sig.returnType = ret) (hlocks : meth.locks = false) (hK : EK D cI cZ cQ s) (hX : va_X b len xs s s.heap) (hbl : b < s.heap.size) {o : Nat} {a : Nat → Nat} {oM : Nat} {aM : Nat → Nat} {X : Bk} {Rw : Nat → Bk} {L T N M : Bk} {H : Heap} {locs : List Loc} {ls : Array Slot} {i : Int32} (h1 : vp_in (i + 1) len) (h2 : vp_in (i + 2) len) (h3 : vp_in (i + 3) len) (h4 : vp_in (i + 4) len) (h5 : vp_in (i + 5) len) (hRel : Rel X Rw L N M) (hP : va_P D vwCl (wFM cI cZ cQ o a oM aM X Rw L T N M) H) (hD : va_D (fun q : Nat => s.heap.size ≤ q) (wFM cI cZ cQ o a oM aM X Rw L T N M)) (hS : va_S (fun q : Nat => s.heap.size ≤ q) s.heap H locs) (hl : lv_has ls 4 [(0, .ref b), (1, .ref o), (2, .ref oM), (3, .int i)]) (K : ∀ (X : Bk) (Rw : Nat → Bk) (L T N M : Bk) (H : Heap) (locs : List Loc) (ls : Array Slot), Rel X Rw L N M → va_P D vwCl (wFM cI cZ cQ o a oM aM X Rw L T N M) H → va_D (fun q : Nat => s.heap.size ≤ q) (wFM cI cZ cQ o a oM aM X Rw L T N M) → va_S (fun q : Nat => s.heap.size ≤ q) s.heap H locs → lv_has ls 4 [(0, .ref b), (1, .ref o), (2, .ref oM), (3, .int i)] → W p l e room_1 s m #[Value.ref b] below meth c H locs 43 748 (lw_Z below #[Value.ref b] s) (F0 m 1237 ls [])) : W p l e room_1 s m #[Value.ref b] below meth c H locs 43 748 (lw_Z below #[Value.ref b] s) (F0 m 936 ls []) := by
  obtain ⟨hx, hb, hml, hown, hts⟩ := id CF
  have hA : ∀ q : Nat, s.heap.size ≤ q → (fun q : Nat => s.heap.size ≤ q) q := fun _ h => h
  have hbA : ¬ (fun q : Nat => s.heap.size ≤ q) b := Nat.not_le.mpr hbl
  obtain ⟨k, ox, om, hk, hfx, hfm, hre, hRel2⟩ := sim_lose T hRel (xs (i + 1).toNatClampNeg)
  refine lv_aload_n (pc := 936) hx hb dL_law_936 rfl (lv_at hl 1 rfl) ?_
  refine lv_aload_n (pc := 937) hx hb dL_law_937 rfl (lv_at hl 0 rfl) ?_
  refine lv_iload_n (pc := 938) hx hb dL_law_938 rfl (lv_at hl 3 rfl) ?_
  refine lv_iconst (pc := 939) (v := 1) hx hb dL_law_939 (by decide) ?_
  refine lv_iadd (pc := 940) hx hb dL_law_940 ?_
  refine va_sld (pc := 941) hx hb hX hbl hbA hS h1 dL_law_941 ?_
  refine lxWi (pc := 942) (As := [.int (xs (i + 1).toNatClampNeg)]) (rest := []) (X' := X) (R' := ox.2) (L' := L) (T' := T) (N' := N) hk CF (mtX3_lose l D cI cZ cQ o (a 0) (fun i => a (10 + i)) k (a (20 + k)) (a 30) (fun j => a (40 + j)) (a 50) (fun j => a (60 + j)) (a 70) (fun j => a (80 + j)) X (Rw k) L T N (xs (i + 1).toNatClampNeg) H.size ox hfx) (cwV 1 hts gL_law_X3_lose rfl rfl rfl ⟨rfl, hdX3_lose⟩ ⟨Nat.le_of_ble_eq_true rfl, Nat.le_of_ble_eq_true rfl⟩) hK hP hD hS hA rfl hl.1 rfl (Nat.le_of_ble_eq_true rfl) dL_law_942 ⟨Nat.le_of_ble_eq_true rfl, Nat.le_of_ble_eq_true rfl⟩ (fun H locs hP hD hS => ?_)
  refine lv_aload_n (pc := 945) hx hb dL_law_945 rfl (lv_at hl 2 rfl) ?_
  refine lv_aload_n (pc := 946) hx hb dL_law_946 rfl (lv_at hl 0 rfl) ?_
  refine lv_iload_n (pc := 947) hx hb dL_law_947 rfl (lv_at hl 3 rfl) ?_
  refine lv_iconst (pc := 948) (v := 1) hx hb dL_law_948 (by decide) ?_
  refine lv_iadd (pc := 949) hx hb dL_law_949 ?_
  refine va_sld (pc := 950) hx hb hX hbl hbA hS h1 dL_law_950 ?_
  refine lmWi (pc := 951) (As := [.int (xs (i + 1).toNatClampNeg)]) (rest := [.int ox.1]) (M' := om.2) CF (mtX4_lose l D cI cZ cQ oM aM M (xs (i + 1).toNatClampNeg) H.size om hfm) (cwV 1 hts gL_law_X4_lose rfl rfl rfl ⟨rfl, hdX4_lose⟩ ⟨Nat.le_of_ble_eq_true rfl, Nat.le_of_ble_eq_true rfl⟩) hK hP hD hS hA rfl hl.1 rfl (Nat.le_of_ble_eq_true rfl) dL_law_951 ⟨Nat.le_of_ble_eq_true rfl, Nat.le_of_ble_eq_true rfl⟩ (fun H locs hP hD hS => ?_)
  refine lv_icmp_eq (pc := 954) (tgt := 1237) hx hb dL_law_954 (by decide) (fun _ => ?_) (fun c9 => absurd hre c9)
  exact K _ _ _ _ _ _ _ _ _ hRel2 hP hD hS hl
set_option maxHeartbeats 4000000 in
set_option maxRecDepth 100000 in
theorem lc_22 {p : Program} {l : Launch} {e : Env} {s : State} {m : MethodId} {below : List Frame} {meth : Method} {c : Code} {b len : Nat} {xs : Nat → Int32} {D : va_G} {cI cZ cQ : ClassId} (CF : CallFix p m c code 4 s #[Value.ref b] wsL_law RL) (hr : meth.sig.returnType = ret) (hlocks : meth.locks = false) (hK : EK D cI cZ cQ s) (hX : va_X b len xs s s.heap) (hbl : b < s.heap.size) {o : Nat} {a : Nat → Nat} {oM : Nat} {aM : Nat → Nat} {X : Bk} {Rw : Nat → Bk} {L T N M : Bk} {H : Heap} {locs : List Loc} {ls : Array Slot} {i : Int32} (h1 : vp_in (i + 1) len) (h2 : vp_in (i + 2) len) (h3 : vp_in (i + 3) len) (h4 : vp_in (i + 4) len) (h5 : vp_in (i + 5) len) (hRel : Rel X Rw L N M) (hP : va_P D vwCl (wFM cI cZ cQ o a oM aM X Rw L T N M) H) (hD : va_D (fun q : Nat => s.heap.size ≤ q) (wFM cI cZ cQ o a oM aM X Rw L T N M)) (hS : va_S (fun q : Nat => s.heap.size ≤ q) s.heap H locs) (hl : lv_has ls 4 [(0, .ref b), (1, .ref o), (2, .ref oM), (3, .int i)]) (K : ∀ (X : Bk) (Rw : Nat → Bk) (L T N M : Bk) (H : Heap) (locs : List Loc) (ls : Array Slot), Rel X Rw L N M → va_P D vwCl (wFM cI cZ cQ o a oM aM X Rw L T N M) H → va_D (fun q : Nat => s.heap.size ≤ q) (wFM cI cZ cQ o a oM aM X Rw L T N M) → va_S (fun q : Nat => s.heap.size ≤ q) s.heap H locs → lv_has ls 4 [(0, .ref b), (1, .ref o), (2, .ref oM), (3, .int i)] → W p l e room_1 s m #[Value.ref b] below meth c H locs 43 748 (lw_Z below #[Value.ref b] s) (F0 m 1237 ls [])) : W p l e room_1 s m #[Value.ref b] below meth c H locs 43 748 (lw_Z below #[Value.ref b] s) (F0 m 959 ls []) := by
  obtain ⟨hx, hb, hml, hown, hts⟩ := id CF
  have hA : ∀ q : Nat, s.heap.size ≤ q → (fun q : Nat => s.heap.size ≤ q) q := fun _ h => h
  have hbA : ¬ (fun q : Nat => s.heap.size ≤ q) b := Nat.not_le.mpr hbl
  obtain ⟨k, ox, om, hk, hfx, hfm, hre, hRel2⟩ := sim_put T hRel (xs (i + 1).toNatClampNeg) (xs (i + 2).toNatClampNeg) (xs (i + 3).toNatClampNeg)
  refine lv_aload_n (pc := 959) hx hb dL_law_959 rfl (lv_at hl 1 rfl) ?_
  refine lv_aload_n (pc := 960) hx hb dL_law_960 rfl (lv_at hl 0 rfl) ?_
  refine lv_iload_n (pc := 961) hx hb dL_law_961 rfl (lv_at hl 3 rfl) ?_
  refine lv_iconst (pc := 962) (v := 1) hx hb dL_law_962 (by decide) ?_
  refine lv_iadd (pc := 963) hx hb dL_law_963 ?_
  refine va_sld (pc := 964) hx hb hX hbl hbA hS h1 dL_law_964 ?_
  refine lv_aload_n (pc := 965) hx hb dL_law_965 rfl (lv_at hl 0 rfl) ?_
  refine lv_iload_n (pc := 966) hx hb dL_law_966 rfl (lv_at hl 3 rfl) ?_
  refine lv_iconst (pc := 967) (v := 2) hx hb dL_law_967 (by decide) ?_
  refine lv_iadd (pc := 968) hx hb dL_law_968 ?_
  refine va_sld (pc := 969) hx hb hX hbl hbA hS h2 dL_law_969 ?_
  refine lv_aload_n (pc := 970) hx hb dL_law_970 rfl (lv_at hl 0 rfl) ?_
  refine lv_iload_n (pc := 971) hx hb dL_law_971 rfl (lv_at hl 3 rfl) ?_
  refine lv_iconst (pc := 972) (v := 3) hx hb dL_law_972 (by decide) ?_
  refine lv_iadd (pc := 973) hx hb dL_law_973 ?_
  refine va_sld (pc := 974) hx hb hX hbl hbA hS h3 dL_law_974 ?_
  refine lxWi (pc := 975) (As := [.int (xs (i + 1).toNatClampNeg), .int (xs (i + 2).toNatClampNeg), .int (xs (i + 3).toNatClampNeg)]) (rest := []) (X' := ox.2.1) (R' := ox.2.2) (L' := L) (T' := T) (N' := N) hk CF (mtX3_put l D cI cZ cQ o (a 0) (fun i => a (10 + i)) k (a (20 + k)) (a 30) (fun j => a (40 + j)) (a 50) (fun j => a (60 + j)) (a 70) (fun j => a (80 + j)) X (Rw k) L T N (xs (i + 1).toNatClampNeg) (xs (i + 2).toNatClampNeg) (xs (i + 3).toNatClampNeg) H.size ox hfx) (cwV 3 hts gL_law_X3_put rfl rfl rfl ⟨rfl, hdX3_put⟩ ⟨Nat.le_of_ble_eq_true rfl, Nat.le_of_ble_eq_true rfl⟩) hK hP hD hS hA rfl hl.1 rfl (Nat.le_of_ble_eq_true rfl) dL_law_975 ⟨Nat.le_of_ble_eq_true rfl, Nat.le_of_ble_eq_true rfl⟩ (fun H locs hP hD hS => ?_)
  refine lv_aload_n (pc := 978) hx hb dL_law_978 rfl (lv_at hl 2 rfl) ?_
  refine lv_aload_n (pc := 979) hx hb dL_law_979 rfl (lv_at hl 0 rfl) ?_
  refine lv_iload_n (pc := 980) hx hb dL_law_980 rfl (lv_at hl 3 rfl) ?_
  refine lv_iconst (pc := 981) (v := 1) hx hb dL_law_981 (by decide) ?_
  refine lv_iadd (pc := 982) hx hb dL_law_982 ?_
  refine va_sld (pc := 983) hx hb hX hbl hbA hS h1 dL_law_983 ?_
  refine lv_aload_n (pc := 984) hx hb dL_law_984 rfl (lv_at hl 0 rfl) ?_
  refine lv_iload_n (pc := 985) hx hb dL_law_985 rfl (lv_at hl 3 rfl) ?_
  refine lv_iconst (pc := 986) (v := 2) hx hb dL_law_986 (by decide) ?_
  refine lv_iadd (pc := 987) hx hb dL_law_987 ?_
  refine va_sld (pc := 988) hx hb hX hbl hbA hS h2 dL_law_988 ?_
  refine lv_aload_n (pc := 989) hx hb dL_law_989 rfl (lv_at hl 0 rfl) ?_
  refine lv_iload_n (pc := 990) hx hb dL_law_990 rfl (lv_at hl 3 rfl) ?_
  refine lv_iconst (pc := 991) (v := 3) hx hb dL_law_991 (by decide) ?_
  refine lv_iadd (pc := 992) hx hb dL_law_992 ?_
  refine va_sld (pc := 993) hx hb hX hbl hbA hS h3 dL_law_993 ?_
  refine lmWi (pc := 994) (As := [.int (xs (i + 1).toNatClampNeg), .int (xs (i + 2).toNatClampNeg), .int (xs (i + 3).toNatClampNeg)]) (rest := [.int ox.1]) (M' := om.2) CF (mtX4_put l D cI cZ cQ oM aM M (xs (i + 1).toNatClampNeg) (xs (i + 2).toNatClampNeg) (xs (i + 3).toNatClampNeg) H.size om hfm) (cwV 3 hts gL_law_X4_put rfl rfl rfl ⟨rfl, hdX4_put⟩ ⟨Nat.le_of_ble_eq_true rfl, Nat.le_of_ble_eq_true rfl⟩) hK hP hD hS hA rfl hl.1 rfl (Nat.le_of_ble_eq_true rfl) dL_law_994 ⟨Nat.le_of_ble_eq_true rfl, Nat.le_of_ble_eq_true rfl⟩ (fun H locs hP hD hS => ?_)
  refine lv_icmp_eq (pc := 997) (tgt := 1237) hx hb dL_law_997 (by decide) (fun _ => ?_) (fun c9 => absurd hre c9)
  exact K _ _ _ _ _ _ _ _ _ hRel2 hP hD hS hl
set_option maxHeartbeats 4000000 in
set_option maxRecDepth 100000 in
theorem lc_23 {p : Program} {l : Launch} {e : Env} {s : State} {m : MethodId} {below : List Frame} {meth : Method} {c : Code} {b len : Nat} {xs : Nat → Int32} {D : va_G} {cI cZ cQ : ClassId} (CF : CallFix p m c code 4 s #[Value.ref b] wsL_law RL) (hr : meth.sig.returnType = ret) (hlocks : meth.locks = false) (hK : EK D cI cZ cQ s) (hX : va_X b len xs s s.heap) (hbl : b < s.heap.size) {o : Nat} {a : Nat → Nat} {oM : Nat} {aM : Nat → Nat} {X : Bk} {Rw : Nat → Bk} {L T N M : Bk} {H : Heap} {locs : List Loc} {ls : Array Slot} {i : Int32} (h1 : vp_in (i + 1) len) (h2 : vp_in (i + 2) len) (h3 : vp_in (i + 3) len) (h4 : vp_in (i + 4) len) (h5 : vp_in (i + 5) len) (hRel : Rel X Rw L N M) (hP : va_P D vwCl (wFM cI cZ cQ o a oM aM X Rw L T N M) H) (hD : va_D (fun q : Nat => s.heap.size ≤ q) (wFM cI cZ cQ o a oM aM X Rw L T N M)) (hS : va_S (fun q : Nat => s.heap.size ≤ q) s.heap H locs) (hl : lv_has ls 4 [(0, .ref b), (1, .ref o), (2, .ref oM), (3, .int i)]) (K : ∀ (X : Bk) (Rw : Nat → Bk) (L T N M : Bk) (H : Heap) (locs : List Loc) (ls : Array Slot), Rel X Rw L N M → va_P D vwCl (wFM cI cZ cQ o a oM aM X Rw L T N M) H → va_D (fun q : Nat => s.heap.size ≤ q) (wFM cI cZ cQ o a oM aM X Rw L T N M) → va_S (fun q : Nat => s.heap.size ≤ q) s.heap H locs → lv_has ls 4 [(0, .ref b), (1, .ref o), (2, .ref oM), (3, .int i)] → W p l e room_1 s m #[Value.ref b] below meth c H locs 43 748 (lw_Z below #[Value.ref b] s) (F0 m 1237 ls [])) : W p l e room_1 s m #[Value.ref b] below meth c H locs 43 748 (lw_Z below #[Value.ref b] s) (F0 m 1002 ls []) := by
  obtain ⟨hx, hb, hml, hown, hts⟩ := id CF
  have hA : ∀ q : Nat, s.heap.size ≤ q → (fun q : Nat => s.heap.size ≤ q) q := fun _ h => h
  have hbA : ¬ (fun q : Nat => s.heap.size ≤ q) b := Nat.not_le.mpr hbl
  obtain ⟨k, ox, om, hk, hfx, hfm, hre, hRel2⟩ := sim_cell T hRel (xs (i + 1).toNatClampNeg) (xs (i + 2).toNatClampNeg) (xs (i + 3).toNatClampNeg)
  refine lv_aload_n (pc := 1002) hx hb dL_law_1002 rfl (lv_at hl 1 rfl) ?_
  refine lv_aload_n (pc := 1003) hx hb dL_law_1003 rfl (lv_at hl 0 rfl) ?_
  refine lv_iload_n (pc := 1004) hx hb dL_law_1004 rfl (lv_at hl 3 rfl) ?_
  refine lv_iconst (pc := 1005) (v := 1) hx hb dL_law_1005 (by decide) ?_
  refine lv_iadd (pc := 1006) hx hb dL_law_1006 ?_
  refine va_sld (pc := 1007) hx hb hX hbl hbA hS h1 dL_law_1007 ?_
  refine lv_aload_n (pc := 1008) hx hb dL_law_1008 rfl (lv_at hl 0 rfl) ?_
  refine lv_iload_n (pc := 1009) hx hb dL_law_1009 rfl (lv_at hl 3 rfl) ?_
  refine lv_iconst (pc := 1010) (v := 2) hx hb dL_law_1010 (by decide) ?_
  refine lv_iadd (pc := 1011) hx hb dL_law_1011 ?_
  refine va_sld (pc := 1012) hx hb hX hbl hbA hS h2 dL_law_1012 ?_
  refine lv_aload_n (pc := 1013) hx hb dL_law_1013 rfl (lv_at hl 0 rfl) ?_
  refine lv_iload_n (pc := 1014) hx hb dL_law_1014 rfl (lv_at hl 3 rfl) ?_
  refine lv_iconst (pc := 1015) (v := 3) hx hb dL_law_1015 (by decide) ?_
  refine lv_iadd (pc := 1016) hx hb dL_law_1016 ?_
  refine va_sld (pc := 1017) hx hb hX hbl hbA hS h3 dL_law_1017 ?_
  refine lxWl (pc := 1018) (As := [.int (xs (i + 1).toNatClampNeg), .int (xs (i + 2).toNatClampNeg), .int (xs (i + 3).toNatClampNeg)]) (rest := []) (X' := ox.2) (R' := Rw k) (L' := L) (T' := T) (N' := N) hk CF (mtX3_cell l D cI cZ cQ o (a 0) (fun i => a (10 + i)) k (a (20 + k)) (a 30) (fun j => a (40 + j)) (a 50) (fun j => a (60 + j)) (a 70) (fun j => a (80 + j)) X (Rw k) L T N (xs (i + 1).toNatClampNeg) (xs (i + 2).toNatClampNeg) (xs (i + 3).toNatClampNeg) H.size ox hfx) (cwV 3 hts gL_law_X3_cell rfl rfl rfl ⟨rfl, hdX3_cell⟩ ⟨Nat.le_of_ble_eq_true rfl, Nat.le_of_ble_eq_true rfl⟩) hK hP hD hS hA rfl hl.1 rfl (Nat.le_of_ble_eq_true rfl) dL_law_1018 ⟨Nat.le_of_ble_eq_true rfl, Nat.le_of_ble_eq_true rfl⟩ (fun H locs hP hD hS => ?_)
  rw [up_id] at hP hD
  refine lv_aload_n (pc := 1021) hx hb dL_law_1021 rfl (lv_at hl 2 rfl) ?_
  refine lv_aload_n (pc := 1022) hx hb dL_law_1022 rfl (lv_at hl 0 rfl) ?_
  refine lv_iload_n (pc := 1023) hx hb dL_law_1023 rfl (lv_at hl 3 rfl) ?_
  refine lv_iconst (pc := 1024) (v := 1) hx hb dL_law_1024 (by decide) ?_
  refine lv_iadd (pc := 1025) hx hb dL_law_1025 ?_
  refine va_sld (pc := 1026) hx hb hX hbl hbA hS h1 dL_law_1026 ?_
  refine lv_aload_n (pc := 1027) hx hb dL_law_1027 rfl (lv_at hl 0 rfl) ?_
  refine lv_iload_n (pc := 1028) hx hb dL_law_1028 rfl (lv_at hl 3 rfl) ?_
  refine lv_iconst (pc := 1029) (v := 2) hx hb dL_law_1029 (by decide) ?_
  refine lv_iadd (pc := 1030) hx hb dL_law_1030 ?_
  refine va_sld (pc := 1031) hx hb hX hbl hbA hS h2 dL_law_1031 ?_
  refine lv_aload_n (pc := 1032) hx hb dL_law_1032 rfl (lv_at hl 0 rfl) ?_
  refine lv_iload_n (pc := 1033) hx hb dL_law_1033 rfl (lv_at hl 3 rfl) ?_
  refine lv_iconst (pc := 1034) (v := 3) hx hb dL_law_1034 (by decide) ?_
  refine lv_iadd (pc := 1035) hx hb dL_law_1035 ?_
  refine va_sld (pc := 1036) hx hb hX hbl hbA hS h3 dL_law_1036 ?_
  refine lmWl (pc := 1037) (As := [.int (xs (i + 1).toNatClampNeg), .int (xs (i + 2).toNatClampNeg), .int (xs (i + 3).toNatClampNeg)]) (rest := [.long ox.1]) (M' := om.2) CF (mtX4_cell l D cI cZ cQ oM aM M (xs (i + 1).toNatClampNeg) (xs (i + 2).toNatClampNeg) (xs (i + 3).toNatClampNeg) H.size om hfm) (cwV 3 hts gL_law_X4_cell rfl rfl rfl ⟨rfl, hdX4_cell⟩ ⟨Nat.le_of_ble_eq_true rfl, Nat.le_of_ble_eq_true rfl⟩) hK hP hD hS hA rfl hl.1 rfl (Nat.le_of_ble_eq_true rfl) dL_law_1037 ⟨Nat.le_of_ble_eq_true rfl, Nat.le_of_ble_eq_true rfl⟩ (fun H locs hP hD hS => ?_)
  refine W.lcmp (pc := 1040) hx hb dL_law_1040 ?_
  refine lv_if_eq (pc := 1041) (tgt := 1237) hx hb dL_law_1041 (by decide) (fun _ => ?_) (fun c9 => absurd (lg_cmp_same hre) c9)
  exact K _ _ _ _ _ _ _ _ _ hRel2 hP hD hS hl
set_option maxHeartbeats 4000000 in
set_option maxRecDepth 100000 in
theorem lc_24 {p : Program} {l : Launch} {e : Env} {s : State} {m : MethodId} {below : List Frame} {meth : Method} {c : Code} {b len : Nat} {xs : Nat → Int32} {D : va_G} {cI cZ cQ : ClassId} (CF : CallFix p m c code 4 s #[Value.ref b] wsL_law RL) (hr : meth.sig.returnType = ret) (hlocks : meth.locks = false) (hK : EK D cI cZ cQ s) (hX : va_X b len xs s s.heap) (hbl : b < s.heap.size) {o : Nat} {a : Nat → Nat} {oM : Nat} {aM : Nat → Nat} {X : Bk} {Rw : Nat → Bk} {L T N M : Bk} {H : Heap} {locs : List Loc} {ls : Array Slot} {i : Int32} (h1 : vp_in (i + 1) len) (h2 : vp_in (i + 2) len) (h3 : vp_in (i + 3) len) (h4 : vp_in (i + 4) len) (h5 : vp_in (i + 5) len) (hRel : Rel X Rw L N M) (hP : va_P D vwCl (wFM cI cZ cQ o a oM aM X Rw L T N M) H) (hD : va_D (fun q : Nat => s.heap.size ≤ q) (wFM cI cZ cQ o a oM aM X Rw L T N M)) (hS : va_S (fun q : Nat => s.heap.size ≤ q) s.heap H locs) (hl : lv_has ls 4 [(0, .ref b), (1, .ref o), (2, .ref oM), (3, .int i)]) (K : ∀ (X : Bk) (Rw : Nat → Bk) (L T N M : Bk) (H : Heap) (locs : List Loc) (ls : Array Slot), Rel X Rw L N M → va_P D vwCl (wFM cI cZ cQ o a oM aM X Rw L T N M) H → va_D (fun q : Nat => s.heap.size ≤ q) (wFM cI cZ cQ o a oM aM X Rw L T N M) → va_S (fun q : Nat => s.heap.size ≤ q) s.heap H locs → lv_has ls 4 [(0, .ref b), (1, .ref o), (2, .ref oM), (3, .int i)] → W p l e room_1 s m #[Value.ref b] below meth c H locs 43 748 (lw_Z below #[Value.ref b] s) (F0 m 1237 ls [])) : W p l e room_1 s m #[Value.ref b] below meth c H locs 43 748 (lw_Z below #[Value.ref b] s) (F0 m 1046 ls []) := by
  obtain ⟨hx, hb, hml, hown, hts⟩ := id CF
  have hA : ∀ q : Nat, s.heap.size ≤ q → (fun q : Nat => s.heap.size ≤ q) q := fun _ h => h
  have hbA : ¬ (fun q : Nat => s.heap.size ≤ q) b := Nat.not_le.mpr hbl
  rcases sim_copy T hRel (xs (i + 1).toNatClampNeg) (xs (i + 2).toNatClampNeg) (xs (i + 3).toNatClampNeg) (xs (i + 4).toNatClampNeg) (xs (i + 5).toNatClampNeg) with ⟨k, ox, om, hk, hfx, hfm, hre, hRel2⟩ | ⟨k, k2, ox, om, hk, hk2, hne, hfx, hfm, hre, hRel2⟩
  · refine lv_aload_n (pc := 1046) hx hb dL_law_1046 rfl (lv_at hl 1 rfl) ?_
    refine lv_aload_n (pc := 1047) hx hb dL_law_1047 rfl (lv_at hl 0 rfl) ?_
    refine lv_iload_n (pc := 1048) hx hb dL_law_1048 rfl (lv_at hl 3 rfl) ?_
    refine lv_iconst (pc := 1049) (v := 1) hx hb dL_law_1049 (by decide) ?_
    refine lv_iadd (pc := 1050) hx hb dL_law_1050 ?_
    refine va_sld (pc := 1051) hx hb hX hbl hbA hS h1 dL_law_1051 ?_
    refine lv_aload_n (pc := 1052) hx hb dL_law_1052 rfl (lv_at hl 0 rfl) ?_
    refine lv_iload_n (pc := 1053) hx hb dL_law_1053 rfl (lv_at hl 3 rfl) ?_
    refine lv_iconst (pc := 1054) (v := 2) hx hb dL_law_1054 (by decide) ?_
    refine lv_iadd (pc := 1055) hx hb dL_law_1055 ?_
    refine va_sld (pc := 1056) hx hb hX hbl hbA hS h2 dL_law_1056 ?_
    refine lv_aload_n (pc := 1057) hx hb dL_law_1057 rfl (lv_at hl 0 rfl) ?_
    refine lv_iload_n (pc := 1058) hx hb dL_law_1058 rfl (lv_at hl 3 rfl) ?_
    refine lv_iconst (pc := 1059) (v := 3) hx hb dL_law_1059 (by decide) ?_
    refine lv_iadd (pc := 1060) hx hb dL_law_1060 ?_
    refine va_sld (pc := 1061) hx hb hX hbl hbA hS h3 dL_law_1061 ?_
    refine lv_aload_n (pc := 1062) hx hb dL_law_1062 rfl (lv_at hl 0 rfl) ?_
    refine lv_iload_n (pc := 1063) hx hb dL_law_1063 rfl (lv_at hl 3 rfl) ?_
    refine lv_iconst (pc := 1064) (v := 4) hx hb dL_law_1064 (by decide) ?_
    refine lv_iadd (pc := 1065) hx hb dL_law_1065 ?_
    refine va_sld (pc := 1066) hx hb hX hbl hbA hS h4 dL_law_1066 ?_
    refine lv_aload_n (pc := 1067) hx hb dL_law_1067 rfl (lv_at hl 0 rfl) ?_
    refine lv_iload_n (pc := 1068) hx hb dL_law_1068 rfl (lv_at hl 3 rfl) ?_
    refine lv_iconst (pc := 1069) (v := 5) hx hb dL_law_1069 (by decide) ?_
    refine lv_iadd (pc := 1070) hx hb dL_law_1070 ?_
    refine va_sld (pc := 1071) hx hb hX hbl hbA hS h5 dL_law_1071 ?_
    refine lxWi (pc := 1072) (As := [.int (xs (i + 1).toNatClampNeg), .int (xs (i + 2).toNatClampNeg), .int (xs (i + 3).toNatClampNeg), .int (xs (i + 4).toNatClampNeg), .int (xs (i + 5).toNatClampNeg)]) (rest := []) (X' := ox.2.1) (R' := ox.2.2) (L' := L) (T' := T) (N' := N) hk CF (mtX3_copy l D cI cZ cQ o (a 0) (fun i => a (10 + i)) k (a (20 + k)) (a 30) (fun j => a (40 + j)) (a 50) (fun j => a (60 + j)) (a 70) (fun j => a (80 + j)) X (Rw k) L T N (xs (i + 1).toNatClampNeg) (xs (i + 2).toNatClampNeg) (xs (i + 3).toNatClampNeg) (xs (i + 4).toNatClampNeg) (xs (i + 5).toNatClampNeg) H.size ox hfx) (cwV 5 hts gL_law_X3_copy rfl rfl rfl ⟨rfl, hdX3_copy⟩ ⟨Nat.le_of_ble_eq_true rfl, Nat.le_of_ble_eq_true rfl⟩) hK hP hD hS hA rfl hl.1 rfl (Nat.le_of_ble_eq_true rfl) dL_law_1072 ⟨Nat.le_of_ble_eq_true rfl, Nat.le_of_ble_eq_true rfl⟩ (fun H locs hP hD hS => ?_)
    refine lv_aload_n (pc := 1075) hx hb dL_law_1075 rfl (lv_at hl 2 rfl) ?_
    refine lv_aload_n (pc := 1076) hx hb dL_law_1076 rfl (lv_at hl 0 rfl) ?_
    refine lv_iload_n (pc := 1077) hx hb dL_law_1077 rfl (lv_at hl 3 rfl) ?_
    refine lv_iconst (pc := 1078) (v := 1) hx hb dL_law_1078 (by decide) ?_
    refine lv_iadd (pc := 1079) hx hb dL_law_1079 ?_
    refine va_sld (pc := 1080) hx hb hX hbl hbA hS h1 dL_law_1080 ?_
    refine lv_aload_n (pc := 1081) hx hb dL_law_1081 rfl (lv_at hl 0 rfl) ?_
    refine lv_iload_n (pc := 1082) hx hb dL_law_1082 rfl (lv_at hl 3 rfl) ?_
    refine lv_iconst (pc := 1083) (v := 2) hx hb dL_law_1083 (by decide) ?_
    refine lv_iadd (pc := 1084) hx hb dL_law_1084 ?_
    refine va_sld (pc := 1085) hx hb hX hbl hbA hS h2 dL_law_1085 ?_
    refine lv_aload_n (pc := 1086) hx hb dL_law_1086 rfl (lv_at hl 0 rfl) ?_
    refine lv_iload_n (pc := 1087) hx hb dL_law_1087 rfl (lv_at hl 3 rfl) ?_
    refine lv_iconst (pc := 1088) (v := 3) hx hb dL_law_1088 (by decide) ?_
    refine lv_iadd (pc := 1089) hx hb dL_law_1089 ?_
    refine va_sld (pc := 1090) hx hb hX hbl hbA hS h3 dL_law_1090 ?_
    refine lv_aload_n (pc := 1091) hx hb dL_law_1091 rfl (lv_at hl 0 rfl) ?_
    refine lv_iload_n (pc := 1092) hx hb dL_law_1092 rfl (lv_at hl 3 rfl) ?_
    refine lv_iconst (pc := 1093) (v := 4) hx hb dL_law_1093 (by decide) ?_
    refine lv_iadd (pc := 1094) hx hb dL_law_1094 ?_
    refine va_sld (pc := 1095) hx hb hX hbl hbA hS h4 dL_law_1095 ?_
    refine lv_aload_n (pc := 1096) hx hb dL_law_1096 rfl (lv_at hl 0 rfl) ?_
    refine lv_iload_n (pc := 1097) hx hb dL_law_1097 rfl (lv_at hl 3 rfl) ?_
    refine lv_iconst (pc := 1098) (v := 5) hx hb dL_law_1098 (by decide) ?_
    refine lv_iadd (pc := 1099) hx hb dL_law_1099 ?_
    refine va_sld (pc := 1100) hx hb hX hbl hbA hS h5 dL_law_1100 ?_
    refine lmWi (pc := 1101) (As := [.int (xs (i + 1).toNatClampNeg), .int (xs (i + 2).toNatClampNeg), .int (xs (i + 3).toNatClampNeg), .int (xs (i + 4).toNatClampNeg), .int (xs (i + 5).toNatClampNeg)]) (rest := [.int ox.1]) (M' := om.2) CF (mtX4_copy l D cI cZ cQ oM aM M (xs (i + 1).toNatClampNeg) (xs (i + 2).toNatClampNeg) (xs (i + 3).toNatClampNeg) (xs (i + 4).toNatClampNeg) (xs (i + 5).toNatClampNeg) H.size om hfm) (cwV 5 hts gL_law_X4_copy rfl rfl rfl ⟨rfl, hdX4_copy⟩ ⟨Nat.le_of_ble_eq_true rfl, Nat.le_of_ble_eq_true rfl⟩) hK hP hD hS hA rfl hl.1 rfl (Nat.le_of_ble_eq_true rfl) dL_law_1101 ⟨Nat.le_of_ble_eq_true rfl, Nat.le_of_ble_eq_true rfl⟩ (fun H locs hP hD hS => ?_)
    refine lv_icmp_eq (pc := 1104) (tgt := 1237) hx hb dL_law_1104 (by decide) (fun _ => ?_) (fun c9 => absurd hre c9)
    exact K _ _ _ _ _ _ _ _ _ hRel2 hP hD hS hl
  · refine lv_aload_n (pc := 1046) hx hb dL_law_1046 rfl (lv_at hl 1 rfl) ?_
    refine lv_aload_n (pc := 1047) hx hb dL_law_1047 rfl (lv_at hl 0 rfl) ?_
    refine lv_iload_n (pc := 1048) hx hb dL_law_1048 rfl (lv_at hl 3 rfl) ?_
    refine lv_iconst (pc := 1049) (v := 1) hx hb dL_law_1049 (by decide) ?_
    refine lv_iadd (pc := 1050) hx hb dL_law_1050 ?_
    refine va_sld (pc := 1051) hx hb hX hbl hbA hS h1 dL_law_1051 ?_
    refine lv_aload_n (pc := 1052) hx hb dL_law_1052 rfl (lv_at hl 0 rfl) ?_
    refine lv_iload_n (pc := 1053) hx hb dL_law_1053 rfl (lv_at hl 3 rfl) ?_
    refine lv_iconst (pc := 1054) (v := 2) hx hb dL_law_1054 (by decide) ?_
    refine lv_iadd (pc := 1055) hx hb dL_law_1055 ?_
    refine va_sld (pc := 1056) hx hb hX hbl hbA hS h2 dL_law_1056 ?_
    refine lv_aload_n (pc := 1057) hx hb dL_law_1057 rfl (lv_at hl 0 rfl) ?_
    refine lv_iload_n (pc := 1058) hx hb dL_law_1058 rfl (lv_at hl 3 rfl) ?_
    refine lv_iconst (pc := 1059) (v := 3) hx hb dL_law_1059 (by decide) ?_
    refine lv_iadd (pc := 1060) hx hb dL_law_1060 ?_
    refine va_sld (pc := 1061) hx hb hX hbl hbA hS h3 dL_law_1061 ?_
    refine lv_aload_n (pc := 1062) hx hb dL_law_1062 rfl (lv_at hl 0 rfl) ?_
    refine lv_iload_n (pc := 1063) hx hb dL_law_1063 rfl (lv_at hl 3 rfl) ?_
    refine lv_iconst (pc := 1064) (v := 4) hx hb dL_law_1064 (by decide) ?_
    refine lv_iadd (pc := 1065) hx hb dL_law_1065 ?_
    refine va_sld (pc := 1066) hx hb hX hbl hbA hS h4 dL_law_1066 ?_
    refine lv_aload_n (pc := 1067) hx hb dL_law_1067 rfl (lv_at hl 0 rfl) ?_
    refine lv_iload_n (pc := 1068) hx hb dL_law_1068 rfl (lv_at hl 3 rfl) ?_
    refine lv_iconst (pc := 1069) (v := 5) hx hb dL_law_1069 (by decide) ?_
    refine lv_iadd (pc := 1070) hx hb dL_law_1070 ?_
    refine va_sld (pc := 1071) hx hb hX hbl hbA hS h5 dL_law_1071 ?_
    refine lx2W (pc := 1072) (As := [.int (xs (i + 1).toNatClampNeg), .int (xs (i + 2).toNatClampNeg), .int (xs (i + 3).toNatClampNeg), .int (xs (i + 4).toNatClampNeg), .int (xs (i + 5).toNatClampNeg)]) (rest := []) (X' := ox.2.1) (S' := ox.2.2) (L := L) (T := T) (N := N) hk hk2 hne CF (mtX3_copy_2 l D cI cZ cQ o (a 0) (fun i => a (10 + i)) k (a (20 + k)) k2 (a (20 + k2)) (a 30) (a 50) (a 70) X (Rw k) (Rw k2) (xs (i + 1).toNatClampNeg) (xs (i + 2).toNatClampNeg) (xs (i + 3).toNatClampNeg) (xs (i + 4).toNatClampNeg) (xs (i + 5).toNatClampNeg) H.size ox hfx) (cwV 5 hts gL_law_X3_copy rfl rfl rfl ⟨rfl, hdX3_copy_2⟩ ⟨Nat.le_of_ble_eq_true rfl, Nat.le_of_ble_eq_true rfl⟩) hK hP hD hS hA rfl hl.1 rfl (Nat.le_of_ble_eq_true rfl) dL_law_1072 ⟨Nat.le_of_ble_eq_true rfl, Nat.le_of_ble_eq_true rfl⟩ (fun H locs hP hD hS => ?_)
    refine lv_aload_n (pc := 1075) hx hb dL_law_1075 rfl (lv_at hl 2 rfl) ?_
    refine lv_aload_n (pc := 1076) hx hb dL_law_1076 rfl (lv_at hl 0 rfl) ?_
    refine lv_iload_n (pc := 1077) hx hb dL_law_1077 rfl (lv_at hl 3 rfl) ?_
    refine lv_iconst (pc := 1078) (v := 1) hx hb dL_law_1078 (by decide) ?_
    refine lv_iadd (pc := 1079) hx hb dL_law_1079 ?_
    refine va_sld (pc := 1080) hx hb hX hbl hbA hS h1 dL_law_1080 ?_
    refine lv_aload_n (pc := 1081) hx hb dL_law_1081 rfl (lv_at hl 0 rfl) ?_
    refine lv_iload_n (pc := 1082) hx hb dL_law_1082 rfl (lv_at hl 3 rfl) ?_
    refine lv_iconst (pc := 1083) (v := 2) hx hb dL_law_1083 (by decide) ?_
    refine lv_iadd (pc := 1084) hx hb dL_law_1084 ?_
    refine va_sld (pc := 1085) hx hb hX hbl hbA hS h2 dL_law_1085 ?_
    refine lv_aload_n (pc := 1086) hx hb dL_law_1086 rfl (lv_at hl 0 rfl) ?_
    refine lv_iload_n (pc := 1087) hx hb dL_law_1087 rfl (lv_at hl 3 rfl) ?_
    refine lv_iconst (pc := 1088) (v := 3) hx hb dL_law_1088 (by decide) ?_
    refine lv_iadd (pc := 1089) hx hb dL_law_1089 ?_
    refine va_sld (pc := 1090) hx hb hX hbl hbA hS h3 dL_law_1090 ?_
    refine lv_aload_n (pc := 1091) hx hb dL_law_1091 rfl (lv_at hl 0 rfl) ?_
    refine lv_iload_n (pc := 1092) hx hb dL_law_1092 rfl (lv_at hl 3 rfl) ?_
    refine lv_iconst (pc := 1093) (v := 4) hx hb dL_law_1093 (by decide) ?_
    refine lv_iadd (pc := 1094) hx hb dL_law_1094 ?_
    refine va_sld (pc := 1095) hx hb hX hbl hbA hS h4 dL_law_1095 ?_
    refine lv_aload_n (pc := 1096) hx hb dL_law_1096 rfl (lv_at hl 0 rfl) ?_
    refine lv_iload_n (pc := 1097) hx hb dL_law_1097 rfl (lv_at hl 3 rfl) ?_
    refine lv_iconst (pc := 1098) (v := 5) hx hb dL_law_1098 (by decide) ?_
    refine lv_iadd (pc := 1099) hx hb dL_law_1099 ?_
    refine va_sld (pc := 1100) hx hb hX hbl hbA hS h5 dL_law_1100 ?_
    refine lmWi (pc := 1101) (As := [.int (xs (i + 1).toNatClampNeg), .int (xs (i + 2).toNatClampNeg), .int (xs (i + 3).toNatClampNeg), .int (xs (i + 4).toNatClampNeg), .int (xs (i + 5).toNatClampNeg)]) (rest := [.int ox.1]) (M' := om.2) CF (mtX4_copy l D cI cZ cQ oM aM M (xs (i + 1).toNatClampNeg) (xs (i + 2).toNatClampNeg) (xs (i + 3).toNatClampNeg) (xs (i + 4).toNatClampNeg) (xs (i + 5).toNatClampNeg) H.size om hfm) (cwV 5 hts gL_law_X4_copy rfl rfl rfl ⟨rfl, hdX4_copy⟩ ⟨Nat.le_of_ble_eq_true rfl, Nat.le_of_ble_eq_true rfl⟩) hK hP hD hS hA rfl hl.1 rfl (Nat.le_of_ble_eq_true rfl) dL_law_1101 ⟨Nat.le_of_ble_eq_true rfl, Nat.le_of_ble_eq_true rfl⟩ (fun H locs hP hD hS => ?_)
    refine lv_icmp_eq (pc := 1104) (tgt := 1237) hx hb dL_law_1104 (by decide) (fun _ => ?_) (fun c9 => absurd hre c9)
    exact K _ _ _ _ _ _ _ _ _ hRel2 hP hD hS hl
set_option maxHeartbeats 4000000 in
set_option maxRecDepth 100000 in
theorem lc_25 {p : Program} {l : Launch} {e : Env} {s : State} {m : MethodId} {below : List Frame} {meth : Method} {c : Code} {b len : Nat} {xs : Nat → Int32} {D : va_G} {cI cZ cQ : ClassId} (CF : CallFix p m c code 4 s #[Value.ref b] wsL_law RL) (hr : meth.sig.returnType = ret) (hlocks : meth.locks = false) (hK : EK D cI cZ cQ s) (hX : va_X b len xs s s.heap) (hbl : b < s.heap.size) {o : Nat} {a : Nat → Nat} {oM : Nat} {aM : Nat → Nat} {X : Bk} {Rw : Nat → Bk} {L T N M : Bk} {H : Heap} {locs : List Loc} {ls : Array Slot} {i : Int32} (h1 : vp_in (i + 1) len) (h2 : vp_in (i + 2) len) (h3 : vp_in (i + 3) len) (h4 : vp_in (i + 4) len) (h5 : vp_in (i + 5) len) (hRel : Rel X Rw L N M) (hP : va_P D vwCl (wFM cI cZ cQ o a oM aM X Rw L T N M) H) (hD : va_D (fun q : Nat => s.heap.size ≤ q) (wFM cI cZ cQ o a oM aM X Rw L T N M)) (hS : va_S (fun q : Nat => s.heap.size ≤ q) s.heap H locs) (hl : lv_has ls 4 [(0, .ref b), (1, .ref o), (2, .ref oM), (3, .int i)]) (K : ∀ (X : Bk) (Rw : Nat → Bk) (L T N M : Bk) (H : Heap) (locs : List Loc) (ls : Array Slot), Rel X Rw L N M → va_P D vwCl (wFM cI cZ cQ o a oM aM X Rw L T N M) H → va_D (fun q : Nat => s.heap.size ≤ q) (wFM cI cZ cQ o a oM aM X Rw L T N M) → va_S (fun q : Nat => s.heap.size ≤ q) s.heap H locs → lv_has ls 4 [(0, .ref b), (1, .ref o), (2, .ref oM), (3, .int i)] → W p l e room_1 s m #[Value.ref b] below meth c H locs 43 748 (lw_Z below #[Value.ref b] s) (F0 m 1237 ls [])) : W p l e room_1 s m #[Value.ref b] below meth c H locs 43 748 (lw_Z below #[Value.ref b] s) (F0 m 1109 ls []) := by
  obtain ⟨hx, hb, hml, hown, hts⟩ := id CF
  have hA : ∀ q : Nat, s.heap.size ≤ q → (fun q : Nat => s.heap.size ≤ q) q := fun _ h => h
  have hbA : ¬ (fun q : Nat => s.heap.size ≤ q) b := Nat.not_le.mpr hbl
  obtain ⟨k, ox, om, hk, hfx, hfm, hre, hRel2⟩ := sim_tell T hRel (xs (i + 1).toNatClampNeg)
  refine lv_aload_n (pc := 1109) hx hb dL_law_1109 rfl (lv_at hl 1 rfl) ?_
  refine lv_aload_n (pc := 1110) hx hb dL_law_1110 rfl (lv_at hl 0 rfl) ?_
  refine lv_iload_n (pc := 1111) hx hb dL_law_1111 rfl (lv_at hl 3 rfl) ?_
  refine lv_iconst (pc := 1112) (v := 1) hx hb dL_law_1112 (by decide) ?_
  refine lv_iadd (pc := 1113) hx hb dL_law_1113 ?_
  refine va_sld (pc := 1114) hx hb hX hbl hbA hS h1 dL_law_1114 ?_
  refine lxWi (pc := 1115) (As := [.int (xs (i + 1).toNatClampNeg)]) (rest := []) (X' := ox.2) (R' := Rw k) (L' := L) (T' := T) (N' := N) hk CF (mtX3_tell l D cI cZ cQ o (a 0) (fun i => a (10 + i)) k (a (20 + k)) (a 30) (fun j => a (40 + j)) (a 50) (fun j => a (60 + j)) (a 70) (fun j => a (80 + j)) X (Rw k) L T N (xs (i + 1).toNatClampNeg) H.size ox hfx) (cwV 1 hts gL_law_X3_tell rfl rfl rfl ⟨rfl, hdX3_tell⟩ ⟨Nat.le_of_ble_eq_true rfl, Nat.le_of_ble_eq_true rfl⟩) hK hP hD hS hA rfl hl.1 rfl (Nat.le_of_ble_eq_true rfl) dL_law_1115 ⟨Nat.le_of_ble_eq_true rfl, Nat.le_of_ble_eq_true rfl⟩ (fun H locs hP hD hS => ?_)
  rw [up_id] at hP hD
  refine lv_aload_n (pc := 1118) hx hb dL_law_1118 rfl (lv_at hl 2 rfl) ?_
  refine lv_aload_n (pc := 1119) hx hb dL_law_1119 rfl (lv_at hl 0 rfl) ?_
  refine lv_iload_n (pc := 1120) hx hb dL_law_1120 rfl (lv_at hl 3 rfl) ?_
  refine lv_iconst (pc := 1121) (v := 1) hx hb dL_law_1121 (by decide) ?_
  refine lv_iadd (pc := 1122) hx hb dL_law_1122 ?_
  refine va_sld (pc := 1123) hx hb hX hbl hbA hS h1 dL_law_1123 ?_
  refine lmWi (pc := 1124) (As := [.int (xs (i + 1).toNatClampNeg)]) (rest := [.int ox.1]) (M' := om.2) CF (mtX4_tell l D cI cZ cQ oM aM M (xs (i + 1).toNatClampNeg) H.size om hfm) (cwV 1 hts gL_law_X4_tell rfl rfl rfl ⟨rfl, hdX4_tell⟩ ⟨Nat.le_of_ble_eq_true rfl, Nat.le_of_ble_eq_true rfl⟩) hK hP hD hS hA rfl hl.1 rfl (Nat.le_of_ble_eq_true rfl) dL_law_1124 ⟨Nat.le_of_ble_eq_true rfl, Nat.le_of_ble_eq_true rfl⟩ (fun H locs hP hD hS => ?_)
  refine lv_icmp_eq (pc := 1127) (tgt := 1237) hx hb dL_law_1127 (by decide) (fun _ => ?_) (fun c9 => absurd hre c9)
  exact K _ _ _ _ _ _ _ _ _ hRel2 hP hD hS hl
set_option maxHeartbeats 4000000 in
set_option maxRecDepth 100000 in
theorem lc_26 {p : Program} {l : Launch} {e : Env} {s : State} {m : MethodId} {below : List Frame} {meth : Method} {c : Code} {b len : Nat} {xs : Nat → Int32} {D : va_G} {cI cZ cQ : ClassId} (CF : CallFix p m c code 4 s #[Value.ref b] wsL_law RL) (hr : meth.sig.returnType = ret) (hlocks : meth.locks = false) (hK : EK D cI cZ cQ s) (hX : va_X b len xs s s.heap) (hbl : b < s.heap.size) {o : Nat} {a : Nat → Nat} {oM : Nat} {aM : Nat → Nat} {X : Bk} {Rw : Nat → Bk} {L T N M : Bk} {H : Heap} {locs : List Loc} {ls : Array Slot} {i : Int32} (h1 : vp_in (i + 1) len) (h2 : vp_in (i + 2) len) (h3 : vp_in (i + 3) len) (h4 : vp_in (i + 4) len) (h5 : vp_in (i + 5) len) (hRel : Rel X Rw L N M) (hP : va_P D vwCl (wFM cI cZ cQ o a oM aM X Rw L T N M) H) (hD : va_D (fun q : Nat => s.heap.size ≤ q) (wFM cI cZ cQ o a oM aM X Rw L T N M)) (hS : va_S (fun q : Nat => s.heap.size ≤ q) s.heap H locs) (hl : lv_has ls 4 [(0, .ref b), (1, .ref o), (2, .ref oM), (3, .int i)]) (K : ∀ (X : Bk) (Rw : Nat → Bk) (L T N M : Bk) (H : Heap) (locs : List Loc) (ls : Array Slot), Rel X Rw L N M → va_P D vwCl (wFM cI cZ cQ o a oM aM X Rw L T N M) H → va_D (fun q : Nat => s.heap.size ≤ q) (wFM cI cZ cQ o a oM aM X Rw L T N M) → va_S (fun q : Nat => s.heap.size ≤ q) s.heap H locs → lv_has ls 4 [(0, .ref b), (1, .ref o), (2, .ref oM), (3, .int i)] → W p l e room_1 s m #[Value.ref b] below meth c H locs 43 748 (lw_Z below #[Value.ref b] s) (F0 m 1237 ls [])) : W p l e room_1 s m #[Value.ref b] below meth c H locs 43 748 (lw_Z below #[Value.ref b] s) (F0 m 1132 ls []) := by
  obtain ⟨hx, hb, hml, hown, hts⟩ := id CF
  have hA : ∀ q : Nat, s.heap.size ≤ q → (fun q : Nat => s.heap.size ≤ q) q := fun _ h => h
  have hbA : ¬ (fun q : Nat => s.heap.size ≤ q) b := Nat.not_le.mpr hbl
  obtain ⟨k, ox, om, hk, hfx, hfm, hre, hRel2⟩ := sim_hail T hRel (xs (i + 1).toNatClampNeg)
  refine lv_aload_n (pc := 1132) hx hb dL_law_1132 rfl (lv_at hl 1 rfl) ?_
  refine lv_aload_n (pc := 1133) hx hb dL_law_1133 rfl (lv_at hl 0 rfl) ?_
  refine lv_iload_n (pc := 1134) hx hb dL_law_1134 rfl (lv_at hl 3 rfl) ?_
  refine lv_iconst (pc := 1135) (v := 1) hx hb dL_law_1135 (by decide) ?_
  refine lv_iadd (pc := 1136) hx hb dL_law_1136 ?_
  refine va_sld (pc := 1137) hx hb hX hbl hbA hS h1 dL_law_1137 ?_
  refine lxWi (pc := 1138) (As := [.int (xs (i + 1).toNatClampNeg)]) (rest := []) (X' := ox.2) (R' := Rw k) (L' := L) (T' := T) (N' := N) hk CF (mtX3_hail l D cI cZ cQ o (a 0) (fun i => a (10 + i)) k (a (20 + k)) (a 30) (fun j => a (40 + j)) (a 50) (fun j => a (60 + j)) (a 70) (fun j => a (80 + j)) X (Rw k) L T N (xs (i + 1).toNatClampNeg) H.size ox hfx) (cwV 1 hts gL_law_X3_hail rfl rfl rfl ⟨rfl, hdX3_hail⟩ ⟨Nat.le_of_ble_eq_true rfl, Nat.le_of_ble_eq_true rfl⟩) hK hP hD hS hA rfl hl.1 rfl (Nat.le_of_ble_eq_true rfl) dL_law_1138 ⟨Nat.le_of_ble_eq_true rfl, Nat.le_of_ble_eq_true rfl⟩ (fun H locs hP hD hS => ?_)
  rw [up_id] at hP hD
  refine lv_aload_n (pc := 1141) hx hb dL_law_1141 rfl (lv_at hl 2 rfl) ?_
  refine lv_aload_n (pc := 1142) hx hb dL_law_1142 rfl (lv_at hl 0 rfl) ?_
  refine lv_iload_n (pc := 1143) hx hb dL_law_1143 rfl (lv_at hl 3 rfl) ?_
  refine lv_iconst (pc := 1144) (v := 1) hx hb dL_law_1144 (by decide) ?_
  refine lv_iadd (pc := 1145) hx hb dL_law_1145 ?_
  refine va_sld (pc := 1146) hx hb hX hbl hbA hS h1 dL_law_1146 ?_
  refine lmWi (pc := 1147) (As := [.int (xs (i + 1).toNatClampNeg)]) (rest := [.int ox.1]) (M' := om.2) CF (mtX4_hail l D cI cZ cQ oM aM M (xs (i + 1).toNatClampNeg) H.size om hfm) (cwV 1 hts gL_law_X4_hail rfl rfl rfl ⟨rfl, hdX4_hail⟩ ⟨Nat.le_of_ble_eq_true rfl, Nat.le_of_ble_eq_true rfl⟩) hK hP hD hS hA rfl hl.1 rfl (Nat.le_of_ble_eq_true rfl) dL_law_1147 ⟨Nat.le_of_ble_eq_true rfl, Nat.le_of_ble_eq_true rfl⟩ (fun H locs hP hD hS => ?_)
  refine lv_icmp_eq (pc := 1150) (tgt := 1237) hx hb dL_law_1150 (by decide) (fun _ => ?_) (fun c9 => absurd hre c9)
  exact K _ _ _ _ _ _ _ _ _ hRel2 hP hD hS hl
set_option maxHeartbeats 4000000 in
set_option maxRecDepth 100000 in
theorem lc_27 {p : Program} {l : Launch} {e : Env} {s : State} {m : MethodId} {below : List Frame} {meth : Method} {c : Code} {b len : Nat} {xs : Nat → Int32} {D : va_G} {cI cZ cQ : ClassId} (CF : CallFix p m c code 4 s #[Value.ref b] wsL_law RL) (hr : meth.sig.returnType = ret) (hlocks : meth.locks = false) (hK : EK D cI cZ cQ s) (hX : va_X b len xs s s.heap) (hbl : b < s.heap.size) {o : Nat} {a : Nat → Nat} {oM : Nat} {aM : Nat → Nat} {X : Bk} {Rw : Nat → Bk} {L T N M : Bk} {H : Heap} {locs : List Loc} {ls : Array Slot} {i : Int32} (h1 : vp_in (i + 1) len) (h2 : vp_in (i + 2) len) (h3 : vp_in (i + 3) len) (h4 : vp_in (i + 4) len) (h5 : vp_in (i + 5) len) (hRel : Rel X Rw L N M) (hP : va_P D vwCl (wFM cI cZ cQ o a oM aM X Rw L T N M) H) (hD : va_D (fun q : Nat => s.heap.size ≤ q) (wFM cI cZ cQ o a oM aM X Rw L T N M)) (hS : va_S (fun q : Nat => s.heap.size ≤ q) s.heap H locs) (hl : lv_has ls 4 [(0, .ref b), (1, .ref o), (2, .ref oM), (3, .int i)]) (K : ∀ (X : Bk) (Rw : Nat → Bk) (L T N M : Bk) (H : Heap) (locs : List Loc) (ls : Array Slot), Rel X Rw L N M → va_P D vwCl (wFM cI cZ cQ o a oM aM X Rw L T N M) H → va_D (fun q : Nat => s.heap.size ≤ q) (wFM cI cZ cQ o a oM aM X Rw L T N M) → va_S (fun q : Nat => s.heap.size ≤ q) s.heap H locs → lv_has ls 4 [(0, .ref b), (1, .ref o), (2, .ref oM), (3, .int i)] → W p l e room_1 s m #[Value.ref b] below meth c H locs 43 748 (lw_Z below #[Value.ref b] s) (F0 m 1237 ls [])) : W p l e room_1 s m #[Value.ref b] below meth c H locs 43 748 (lw_Z below #[Value.ref b] s) (F0 m 1155 ls []) := by
  obtain ⟨hx, hb, hml, hown, hts⟩ := id CF
  have hA : ∀ q : Nat, s.heap.size ≤ q → (fun q : Nat => s.heap.size ≤ q) q := fun _ h => h
  have hbA : ¬ (fun q : Nat => s.heap.size ≤ q) b := Nat.not_le.mpr hbl
  obtain ⟨k, ox, om, hk, hfx, hfm, hre, hRel2⟩ := sim_as T hRel (xs (i + 1).toNatClampNeg) (xs (i + 2).toNatClampNeg)
  refine lv_aload_n (pc := 1155) hx hb dL_law_1155 rfl (lv_at hl 1 rfl) ?_
  refine lv_aload_n (pc := 1156) hx hb dL_law_1156 rfl (lv_at hl 0 rfl) ?_
  refine lv_iload_n (pc := 1157) hx hb dL_law_1157 rfl (lv_at hl 3 rfl) ?_
  refine lv_iconst (pc := 1158) (v := 1) hx hb dL_law_1158 (by decide) ?_
  refine lv_iadd (pc := 1159) hx hb dL_law_1159 ?_
  refine va_sld (pc := 1160) hx hb hX hbl hbA hS h1 dL_law_1160 ?_
  refine lv_aload_n (pc := 1161) hx hb dL_law_1161 rfl (lv_at hl 0 rfl) ?_
  refine lv_iload_n (pc := 1162) hx hb dL_law_1162 rfl (lv_at hl 3 rfl) ?_
  refine lv_iconst (pc := 1163) (v := 2) hx hb dL_law_1163 (by decide) ?_
  refine lv_iadd (pc := 1164) hx hb dL_law_1164 ?_
  refine va_sld (pc := 1165) hx hb hX hbl hbA hS h2 dL_law_1165 ?_
  refine lxWi (pc := 1166) (As := [.int (xs (i + 1).toNatClampNeg), .int (xs (i + 2).toNatClampNeg)]) (rest := []) (X' := ox.2) (R' := Rw k) (L' := L) (T' := T) (N' := N) hk CF (mtX3_as l D cI cZ cQ o (a 0) (fun i => a (10 + i)) k (a (20 + k)) (a 30) (fun j => a (40 + j)) (a 50) (fun j => a (60 + j)) (a 70) (fun j => a (80 + j)) X (Rw k) L T N (xs (i + 1).toNatClampNeg) (xs (i + 2).toNatClampNeg) H.size ox hfx) (cwV 2 hts gL_law_X3_as rfl rfl rfl ⟨rfl, hdX3_as⟩ ⟨Nat.le_of_ble_eq_true rfl, Nat.le_of_ble_eq_true rfl⟩) hK hP hD hS hA rfl hl.1 rfl (Nat.le_of_ble_eq_true rfl) dL_law_1166 ⟨Nat.le_of_ble_eq_true rfl, Nat.le_of_ble_eq_true rfl⟩ (fun H locs hP hD hS => ?_)
  rw [up_id] at hP hD
  refine lv_aload_n (pc := 1169) hx hb dL_law_1169 rfl (lv_at hl 2 rfl) ?_
  refine lv_aload_n (pc := 1170) hx hb dL_law_1170 rfl (lv_at hl 0 rfl) ?_
  refine lv_iload_n (pc := 1171) hx hb dL_law_1171 rfl (lv_at hl 3 rfl) ?_
  refine lv_iconst (pc := 1172) (v := 1) hx hb dL_law_1172 (by decide) ?_
  refine lv_iadd (pc := 1173) hx hb dL_law_1173 ?_
  refine va_sld (pc := 1174) hx hb hX hbl hbA hS h1 dL_law_1174 ?_
  refine lv_aload_n (pc := 1175) hx hb dL_law_1175 rfl (lv_at hl 0 rfl) ?_
  refine lv_iload_n (pc := 1176) hx hb dL_law_1176 rfl (lv_at hl 3 rfl) ?_
  refine lv_iconst (pc := 1177) (v := 2) hx hb dL_law_1177 (by decide) ?_
  refine lv_iadd (pc := 1178) hx hb dL_law_1178 ?_
  refine va_sld (pc := 1179) hx hb hX hbl hbA hS h2 dL_law_1179 ?_
  refine lmWi (pc := 1180) (As := [.int (xs (i + 1).toNatClampNeg), .int (xs (i + 2).toNatClampNeg)]) (rest := [.int ox.1]) (M' := om.2) CF (mtX4_as l D cI cZ cQ oM aM M (xs (i + 1).toNatClampNeg) (xs (i + 2).toNatClampNeg) H.size om hfm) (cwV 2 hts gL_law_X4_as rfl rfl rfl ⟨rfl, hdX4_as⟩ ⟨Nat.le_of_ble_eq_true rfl, Nat.le_of_ble_eq_true rfl⟩) hK hP hD hS hA rfl hl.1 rfl (Nat.le_of_ble_eq_true rfl) dL_law_1180 ⟨Nat.le_of_ble_eq_true rfl, Nat.le_of_ble_eq_true rfl⟩ (fun H locs hP hD hS => ?_)
  refine lv_icmp_eq (pc := 1183) (tgt := 1237) hx hb dL_law_1183 (by decide) (fun _ => ?_) (fun c9 => absurd hre c9)
  exact K _ _ _ _ _ _ _ _ _ hRel2 hP hD hS hl
set_option maxHeartbeats 4000000 in
set_option maxRecDepth 100000 in
theorem lc_28 {p : Program} {l : Launch} {e : Env} {s : State} {m : MethodId} {below : List Frame} {meth : Method} {c : Code} {b len : Nat} {xs : Nat → Int32} {D : va_G} {cI cZ cQ : ClassId} (CF : CallFix p m c code 4 s #[Value.ref b] wsL_law RL) (hr : meth.sig.returnType = ret) (hlocks : meth.locks = false) (hK : EK D cI cZ cQ s) (hX : va_X b len xs s s.heap) (hbl : b < s.heap.size) {o : Nat} {a : Nat → Nat} {oM : Nat} {aM : Nat → Nat} {X : Bk} {Rw : Nat → Bk} {L T N M : Bk} {H : Heap} {locs : List Loc} {ls : Array Slot} {i : Int32} (h1 : vp_in (i + 1) len) (h2 : vp_in (i + 2) len) (h3 : vp_in (i + 3) len) (h4 : vp_in (i + 4) len) (h5 : vp_in (i + 5) len) (hRel : Rel X Rw L N M) (hP : va_P D vwCl (wFM cI cZ cQ o a oM aM X Rw L T N M) H) (hD : va_D (fun q : Nat => s.heap.size ≤ q) (wFM cI cZ cQ o a oM aM X Rw L T N M)) (hS : va_S (fun q : Nat => s.heap.size ≤ q) s.heap H locs) (hl : lv_has ls 4 [(0, .ref b), (1, .ref o), (2, .ref oM), (3, .int i)]) (K : ∀ (X : Bk) (Rw : Nat → Bk) (L T N M : Bk) (H : Heap) (locs : List Loc) (ls : Array Slot), Rel X Rw L N M → va_P D vwCl (wFM cI cZ cQ o a oM aM X Rw L T N M) H → va_D (fun q : Nat => s.heap.size ≤ q) (wFM cI cZ cQ o a oM aM X Rw L T N M) → va_S (fun q : Nat => s.heap.size ≤ q) s.heap H locs → lv_has ls 4 [(0, .ref b), (1, .ref o), (2, .ref oM), (3, .int i)] → W p l e room_1 s m #[Value.ref b] below meth c H locs 43 748 (lw_Z below #[Value.ref b] s) (F0 m 1237 ls [])) : W p l e room_1 s m #[Value.ref b] below meth c H locs 43 748 (lw_Z below #[Value.ref b] s) (F0 m 1188 ls []) := by
  obtain ⟨hx, hb, hml, hown, hts⟩ := id CF
  have hA : ∀ q : Nat, s.heap.size ≤ q → (fun q : Nat => s.heap.size ≤ q) q := fun _ h => h
  have hbA : ¬ (fun q : Nat => s.heap.size ≤ q) b := Nat.not_le.mpr hbl
  obtain ⟨k, ox, om, hk, hfx, hfm, hre, hRel2⟩ := sim_trace T hRel 
  refine lv_aload_n (pc := 1188) hx hb dL_law_1188 rfl (lv_at hl 1 rfl) ?_
  refine lxRi (pc := 1189) (As := []) (rest := []) CF (mtX3_trace l D cI cZ cQ o (a 0) (fun i => a (10 + i)) 0 (a (20 + 0)) (a 30) (fun j => a (40 + j)) (a 50) (fun j => a (60 + j)) (a 70) (fun j => a (80 + j)) X (Rw 0) L T N  ox hfx) (cwV 0 hts gL_law_X3_trace rfl rfl rfl ⟨rfl, hdX3_trace⟩ ⟨Nat.le_of_ble_eq_true rfl, Nat.le_of_ble_eq_true rfl⟩) hK hP rfl hl.1 rfl (Nat.le_of_ble_eq_true rfl) dL_law_1189 ⟨Nat.le_of_ble_eq_true rfl, Nat.le_of_ble_eq_true rfl⟩ ?_
  refine lv_aload_n (pc := 1192) hx hb dL_law_1192 rfl (lv_at hl 2 rfl) ?_
  refine lmRi (pc := 1193) (As := []) (rest := [.int ox]) CF (mtX4_trace l D cI cZ cQ oM aM M  om hfm) (cwV 0 hts gL_law_X4_trace rfl rfl rfl ⟨rfl, hdX4_trace⟩ ⟨Nat.le_of_ble_eq_true rfl, Nat.le_of_ble_eq_true rfl⟩) hK hP rfl hl.1 rfl (Nat.le_of_ble_eq_true rfl) dL_law_1193 ⟨Nat.le_of_ble_eq_true rfl, Nat.le_of_ble_eq_true rfl⟩ ?_
  refine lv_icmp_eq (pc := 1196) (tgt := 1237) hx hb dL_law_1196 (by decide) (fun _ => ?_) (fun c9 => absurd hre c9)
  exact K _ _ _ _ _ _ _ _ _ hRel2 hP hD hS hl
set_option maxHeartbeats 4000000 in
set_option maxRecDepth 100000 in
theorem lc_29 {p : Program} {l : Launch} {e : Env} {s : State} {m : MethodId} {below : List Frame} {meth : Method} {c : Code} {b len : Nat} {xs : Nat → Int32} {D : va_G} {cI cZ cQ : ClassId} (CF : CallFix p m c code 4 s #[Value.ref b] wsL_law RL) (hr : meth.sig.returnType = ret) (hlocks : meth.locks = false) (hK : EK D cI cZ cQ s) (hX : va_X b len xs s s.heap) (hbl : b < s.heap.size) {o : Nat} {a : Nat → Nat} {oM : Nat} {aM : Nat → Nat} {X : Bk} {Rw : Nat → Bk} {L T N M : Bk} {H : Heap} {locs : List Loc} {ls : Array Slot} {i : Int32} (h1 : vp_in (i + 1) len) (h2 : vp_in (i + 2) len) (h3 : vp_in (i + 3) len) (h4 : vp_in (i + 4) len) (h5 : vp_in (i + 5) len) (hRel : Rel X Rw L N M) (hP : va_P D vwCl (wFM cI cZ cQ o a oM aM X Rw L T N M) H) (hD : va_D (fun q : Nat => s.heap.size ≤ q) (wFM cI cZ cQ o a oM aM X Rw L T N M)) (hS : va_S (fun q : Nat => s.heap.size ≤ q) s.heap H locs) (hl : lv_has ls 4 [(0, .ref b), (1, .ref o), (2, .ref oM), (3, .int i)]) (K : ∀ (X : Bk) (Rw : Nat → Bk) (L T N M : Bk) (H : Heap) (locs : List Loc) (ls : Array Slot), Rel X Rw L N M → va_P D vwCl (wFM cI cZ cQ o a oM aM X Rw L T N M) H → va_D (fun q : Nat => s.heap.size ≤ q) (wFM cI cZ cQ o a oM aM X Rw L T N M) → va_S (fun q : Nat => s.heap.size ≤ q) s.heap H locs → lv_has ls 4 [(0, .ref b), (1, .ref o), (2, .ref oM), (3, .int i)] → W p l e room_1 s m #[Value.ref b] below meth c H locs 43 748 (lw_Z below #[Value.ref b] s) (F0 m 1237 ls [])) : W p l e room_1 s m #[Value.ref b] below meth c H locs 43 748 (lw_Z below #[Value.ref b] s) (F0 m 1201 ls []) := by
  obtain ⟨hx, hb, hml, hown, hts⟩ := id CF
  have hA : ∀ q : Nat, s.heap.size ≤ q → (fun q : Nat => s.heap.size ≤ q) q := fun _ h => h
  have hbA : ¬ (fun q : Nat => s.heap.size ≤ q) b := Nat.not_le.mpr hbl
  obtain ⟨k, ox, om, hk, hfx, hfm, hre, hRel2⟩ := sim_fault T hRel 
  refine lv_aload_n (pc := 1201) hx hb dL_law_1201 rfl (lv_at hl 1 rfl) ?_
  refine lxRi (pc := 1202) (As := []) (rest := []) CF (mtX3_fault l D cI cZ cQ o (a 0) (fun i => a (10 + i)) 0 (a (20 + 0)) (a 30) (fun j => a (40 + j)) (a 50) (fun j => a (60 + j)) (a 70) (fun j => a (80 + j)) X (Rw 0) L T N  ox hfx) (cwV 0 hts gL_law_X3_fault rfl rfl rfl ⟨rfl, hdX3_fault⟩ ⟨Nat.le_of_ble_eq_true rfl, Nat.le_of_ble_eq_true rfl⟩) hK hP rfl hl.1 rfl (Nat.le_of_ble_eq_true rfl) dL_law_1202 ⟨Nat.le_of_ble_eq_true rfl, Nat.le_of_ble_eq_true rfl⟩ ?_
  refine lv_aload_n (pc := 1205) hx hb dL_law_1205 rfl (lv_at hl 2 rfl) ?_
  refine lmRi (pc := 1206) (As := []) (rest := [.int ox]) CF (mtX4_fault l D cI cZ cQ oM aM M  om hfm) (cwV 0 hts gL_law_X4_fault rfl rfl rfl ⟨rfl, hdX4_fault⟩ ⟨Nat.le_of_ble_eq_true rfl, Nat.le_of_ble_eq_true rfl⟩) hK hP rfl hl.1 rfl (Nat.le_of_ble_eq_true rfl) dL_law_1206 ⟨Nat.le_of_ble_eq_true rfl, Nat.le_of_ble_eq_true rfl⟩ ?_
  refine lv_icmp_eq (pc := 1209) (tgt := 1237) hx hb dL_law_1209 (by decide) (fun _ => ?_) (fun c9 => absurd hre c9)
  exact K _ _ _ _ _ _ _ _ _ hRel2 hP hD hS hl
set_option maxHeartbeats 4000000 in
set_option maxRecDepth 100000 in
theorem lc_30 {p : Program} {l : Launch} {e : Env} {s : State} {m : MethodId} {below : List Frame} {meth : Method} {c : Code} {b len : Nat} {xs : Nat → Int32} {D : va_G} {cI cZ cQ : ClassId} (CF : CallFix p m c code 4 s #[Value.ref b] wsL_law RL) (hr : meth.sig.returnType = ret) (hlocks : meth.locks = false) (hK : EK D cI cZ cQ s) (hX : va_X b len xs s s.heap) (hbl : b < s.heap.size) {o : Nat} {a : Nat → Nat} {oM : Nat} {aM : Nat → Nat} {X : Bk} {Rw : Nat → Bk} {L T N M : Bk} {H : Heap} {locs : List Loc} {ls : Array Slot} {i : Int32} (h1 : vp_in (i + 1) len) (h2 : vp_in (i + 2) len) (h3 : vp_in (i + 3) len) (h4 : vp_in (i + 4) len) (h5 : vp_in (i + 5) len) (hRel : Rel X Rw L N M) (hP : va_P D vwCl (wFM cI cZ cQ o a oM aM X Rw L T N M) H) (hD : va_D (fun q : Nat => s.heap.size ≤ q) (wFM cI cZ cQ o a oM aM X Rw L T N M)) (hS : va_S (fun q : Nat => s.heap.size ≤ q) s.heap H locs) (hl : lv_has ls 4 [(0, .ref b), (1, .ref o), (2, .ref oM), (3, .int i)]) (K : ∀ (X : Bk) (Rw : Nat → Bk) (L T N M : Bk) (H : Heap) (locs : List Loc) (ls : Array Slot), Rel X Rw L N M → va_P D vwCl (wFM cI cZ cQ o a oM aM X Rw L T N M) H → va_D (fun q : Nat => s.heap.size ≤ q) (wFM cI cZ cQ o a oM aM X Rw L T N M) → va_S (fun q : Nat => s.heap.size ≤ q) s.heap H locs → lv_has ls 4 [(0, .ref b), (1, .ref o), (2, .ref oM), (3, .int i)] → W p l e room_1 s m #[Value.ref b] below meth c H locs 43 748 (lw_Z below #[Value.ref b] s) (F0 m 1237 ls [])) : W p l e room_1 s m #[Value.ref b] below meth c H locs 43 748 (lw_Z below #[Value.ref b] s) (F0 m 1214 ls []) := by
  obtain ⟨hx, hb, hml, hown, hts⟩ := id CF
  have hA : ∀ q : Nat, s.heap.size ≤ q → (fun q : Nat => s.heap.size ≤ q) q := fun _ h => h
  have hbA : ¬ (fun q : Nat => s.heap.size ≤ q) b := Nat.not_le.mpr hbl
  obtain ⟨k, ox, om, hk, hfx, hfm, hre, hRel2⟩ := sim_many T hRel (xs (i + 1).toNatClampNeg)
  refine lv_aload_n (pc := 1214) hx hb dL_law_1214 rfl (lv_at hl 1 rfl) ?_
  refine lv_aload_n (pc := 1215) hx hb dL_law_1215 rfl (lv_at hl 0 rfl) ?_
  refine lv_iload_n (pc := 1216) hx hb dL_law_1216 rfl (lv_at hl 3 rfl) ?_
  refine lv_iconst (pc := 1217) (v := 1) hx hb dL_law_1217 (by decide) ?_
  refine lv_iadd (pc := 1218) hx hb dL_law_1218 ?_
  refine va_sld (pc := 1219) hx hb hX hbl hbA hS h1 dL_law_1219 ?_
  refine lxRi (pc := 1220) (As := [.int (xs (i + 1).toNatClampNeg)]) (rest := []) CF (mtX3_many l D cI cZ cQ o (a 0) (fun i => a (10 + i)) 0 (a (20 + 0)) (a 30) (fun j => a (40 + j)) (a 50) (fun j => a (60 + j)) (a 70) (fun j => a (80 + j)) X (Rw 0) L T N (xs (i + 1).toNatClampNeg) ox hfx) (cwV 1 hts gL_law_X3_many rfl rfl rfl ⟨rfl, hdX3_many⟩ ⟨Nat.le_of_ble_eq_true rfl, Nat.le_of_ble_eq_true rfl⟩) hK hP rfl hl.1 rfl (Nat.le_of_ble_eq_true rfl) dL_law_1220 ⟨Nat.le_of_ble_eq_true rfl, Nat.le_of_ble_eq_true rfl⟩ ?_
  refine lv_aload_n (pc := 1223) hx hb dL_law_1223 rfl (lv_at hl 2 rfl) ?_
  refine lv_aload_n (pc := 1224) hx hb dL_law_1224 rfl (lv_at hl 0 rfl) ?_
  refine lv_iload_n (pc := 1225) hx hb dL_law_1225 rfl (lv_at hl 3 rfl) ?_
  refine lv_iconst (pc := 1226) (v := 1) hx hb dL_law_1226 (by decide) ?_
  refine lv_iadd (pc := 1227) hx hb dL_law_1227 ?_
  refine va_sld (pc := 1228) hx hb hX hbl hbA hS h1 dL_law_1228 ?_
  refine lmRi (pc := 1229) (As := [.int (xs (i + 1).toNatClampNeg)]) (rest := [.int ox]) CF (mtX4_many l D cI cZ cQ oM aM M (xs (i + 1).toNatClampNeg) om hfm) (cwV 1 hts gL_law_X4_many rfl rfl rfl ⟨rfl, hdX4_many⟩ ⟨Nat.le_of_ble_eq_true rfl, Nat.le_of_ble_eq_true rfl⟩) hK hP rfl hl.1 rfl (Nat.le_of_ble_eq_true rfl) dL_law_1229 ⟨Nat.le_of_ble_eq_true rfl, Nat.le_of_ble_eq_true rfl⟩ ?_
  refine lv_icmp_eq (pc := 1232) (tgt := 1237) hx hb dL_law_1232 (by decide) (fun _ => ?_) (fun c9 => absurd hre c9)
  exact K _ _ _ _ _ _ _ _ _ hRel2 hP hD hS hl
