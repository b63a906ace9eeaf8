theorem lg_cmp_same {x y : Int64} (h : x = y) : lg_cmp x y = 0 := by subst h; unfold lg_cmp; simp
set_option maxHeartbeats 4000000 in
set_option maxRecDepth 100000 in
theorem lc_0 {p : Program} {l : Launch} {e : Env} {s : State} {m : MethodId} {below : List Frame} {meth : Method} {c : Code} {b len : Nat} {xs : Nat → Int32} {D : va_G} {cI cZ cQ : ClassId} (CF : CallFix p m c code 4 s #[Value.ref b] wsL_law RL) (hr : meth.sig.returnType = ret) (hlocks : meth.locks = false) (hK : EK D cI cZ cQ s) (hX : va_X b len xs s s.heap) (hbl : b < s.heap.size) {o : Nat} {a : Nat → Nat} {oM : Nat} {aM : Nat → Nat} {X : Bk} {Rw : Nat → Bk} {L T N M : Bk} {H : Heap} {locs : List Loc} {ls : Array Slot} {i : Int32} (h1 : vp_in (i + 1) len) (h2 : vp_in (i + 2) len) (h3 : vp_in (i + 3) len) (h4 : vp_in (i + 4) len) (h5 : vp_in (i + 5) len) (hRel : Rel X Rw L N M) (hP : va_P D vwCl (wFM cI cZ cQ o a oM aM X Rw L T N M) H) (hD : va_D (fun q : Nat => s.heap.size ≤ q) (wFM cI cZ cQ o a oM aM X Rw L T N M)) (hS : va_S (fun q : Nat => s.heap.size ≤ q) s.heap H locs) (hl : lv_has ls 4 [(0, .ref b), (1, .ref o), (2, .ref oM), (3, .int i)]) (K : ∀ (X : Bk) (Rw : Nat → Bk) (L T N M : Bk) (H : Heap) (locs : List Loc) (ls : Array Slot), Rel X Rw L N M → va_P D vwCl (wFM cI cZ cQ o a oM aM X Rw L T N M) H → va_D (fun q : Nat => s.heap.size ≤ q) (wFM cI cZ cQ o a oM aM X Rw L T N M) → va_S (fun q : Nat => s.heap.size ≤ q) s.heap H locs → lv_has ls 4 [(0, .ref b), (1, .ref o), (2, .ref oM), (3, .int i)] → W p l e room_1 s m #[Value.ref b] below meth c H locs 43 748 (lw_Z below #[Value.ref b] s) (F0 m 1237 ls [])) : W p l e room_1 s m #[Value.ref b] below meth c H locs 43 748 (lw_Z below #[Value.ref b] s) (F0 m 172 ls []) := by
  obtain ⟨hx, hb, hml, hown, hts⟩ := id CF
  have hA : ∀ q : Nat, s.heap.size ≤ q → (fun q : Nat => s.heap.size ≤ q) q := fun _ h => h
  have hbA : ¬ (fun q : Nat => s.heap.size ≤ q) b := Nat.not_le.mpr hbl
  obtain ⟨k, ox, om, hk, hfx, hfm, hre, hRel2⟩ := sim_county T hRel (xs (i + 1).toNatClampNeg) (xs (i + 2).toNatClampNeg) (xs (i + 3).toNatClampNeg) (xs (i + 4).toNatClampNeg)
  refine lv_aload_n (pc := 172) hx hb dL_law_172 rfl (lv_at hl 1 rfl) ?_
  refine lv_aload_n (pc := 173) hx hb dL_law_173 rfl (lv_at hl 0 rfl) ?_
  refine lv_iload_n (pc := 174) hx hb dL_law_174 rfl (lv_at hl 3 rfl) ?_
  refine lv_iconst (pc := 175) (v := 1) hx hb dL_law_175 (by decide) ?_
  refine lv_iadd (pc := 176) hx hb dL_law_176 ?_
  refine va_sld (pc := 177) hx hb hX hbl hbA hS h1 dL_law_177 ?_
  refine lv_aload_n (pc := 178) hx hb dL_law_178 rfl (lv_at hl 0 rfl) ?_
  refine lv_iload_n (pc := 179) hx hb dL_law_179 rfl (lv_at hl 3 rfl) ?_
  refine lv_iconst (pc := 180) (v := 2) hx hb dL_law_180 (by decide) ?_
  refine lv_iadd (pc := 181) hx hb dL_law_181 ?_
  refine va_sld (pc := 182) hx hb hX hbl hbA hS h2 dL_law_182 ?_
  refine lv_aload_n (pc := 183) hx hb dL_law_183 rfl (lv_at hl 0 rfl) ?_
  refine lv_iload_n (pc := 184) hx hb dL_law_184 rfl (lv_at hl 3 rfl) ?_
  refine lv_iconst (pc := 185) (v := 3) hx hb dL_law_185 (by decide) ?_
  refine lv_iadd (pc := 186) hx hb dL_law_186 ?_
  refine va_sld (pc := 187) hx hb hX hbl hbA hS h3 dL_law_187 ?_
  refine lv_aload_n (pc := 188) hx hb dL_law_188 rfl (lv_at hl 0 rfl) ?_
  refine lv_iload_n (pc := 189) hx hb dL_law_189 rfl (lv_at hl 3 rfl) ?_
  refine lv_iconst (pc := 190) (v := 4) hx hb dL_law_190 (by decide) ?_
  refine lv_iadd (pc := 191) hx hb dL_law_191 ?_
  refine va_sld (pc := 192) hx hb hX hbl hbA hS h4 dL_law_192 ?_
  refine lxWi (pc := 193) (As := [.int (xs (i + 1).toNatClampNeg), .int (xs (i + 2).toNatClampNeg), .int (xs (i + 3).toNatClampNeg), .int (xs (i + 4).toNatClampNeg)]) (rest := []) (X' := ox.2.1) (R' := Rw k) (L' := ox.2.2.1) (T' := ox.2.2.2.1) (N' := ox.2.2.2.2) hk CF (mtX3_county l D cI cZ cQ o (a 0) (fun i => a (10 + i)) k (a (20 + k)) (a 30) (fun j => a (40 + j)) (a 50) (fun j => a (60 + j)) (a 70) (fun j => a (80 + j)) X (Rw k) L T N (xs (i + 1).toNatClampNeg) (xs (i + 2).toNatClampNeg) (xs (i + 3).toNatClampNeg) (xs (i + 4).toNatClampNeg) H.size ox hfx) (cwV 4 hts gL_law_X3_county rfl rfl rfl ⟨rfl, hdX3_county⟩ ⟨Nat.le_of_ble_eq_true rfl, Nat.le_of_ble_eq_true rfl⟩) hK hP hD hS hA rfl hl.1 rfl (Nat.le_of_ble_eq_true rfl) dL_law_193 ⟨Nat.le_of_ble_eq_true rfl, Nat.le_of_ble_eq_true rfl⟩ (fun H locs hP hD hS => ?_)
  rw [up_id] at hP hD
  refine lv_aload_n (pc := 196) hx hb dL_law_196 rfl (lv_at hl 2 rfl) ?_
  refine lv_aload_n (pc := 197) hx hb dL_law_197 rfl (lv_at hl 0 rfl) ?_
  refine lv_iload_n (pc := 198) hx hb dL_law_198 rfl (lv_at hl 3 rfl) ?_
  refine lv_iconst (pc := 199) (v := 1) hx hb dL_law_199 (by decide) ?_
  refine lv_iadd (pc := 200) hx hb dL_law_200 ?_
  refine va_sld (pc := 201) hx hb hX hbl hbA hS h1 dL_law_201 ?_
  refine lv_aload_n (pc := 202) hx hb dL_law_202 rfl (lv_at hl 0 rfl) ?_
  refine lv_iload_n (pc := 203) hx hb dL_law_203 rfl (lv_at hl 3 rfl) ?_
  refine lv_iconst (pc := 204) (v := 2) hx hb dL_law_204 (by decide) ?_
  refine lv_iadd (pc := 205) hx hb dL_law_205 ?_
  refine va_sld (pc := 206) hx hb hX hbl hbA hS h2 dL_law_206 ?_
  refine lv_aload_n (pc := 207) hx hb dL_law_207 rfl (lv_at hl 0 rfl) ?_
  refine lv_iload_n (pc := 208) hx hb dL_law_208 rfl (lv_at hl 3 rfl) ?_
  refine lv_iconst (pc := 209) (v := 3) hx hb dL_law_209 (by decide) ?_
  refine lv_iadd (pc := 210) hx hb dL_law_210 ?_
  refine va_sld (pc := 211) hx hb hX hbl hbA hS h3 dL_law_211 ?_
  refine lv_aload_n (pc := 212) hx hb dL_law_212 rfl (lv_at hl 0 rfl) ?_
  refine lv_iload_n (pc := 213) hx hb dL_law_213 rfl (lv_at hl 3 rfl) ?_
  refine lv_iconst (pc := 214) (v := 4) hx hb dL_law_214 (by decide) ?_
  refine lv_iadd (pc := 215) hx hb dL_law_215 ?_
  refine va_sld (pc := 216) hx hb hX hbl hbA hS h4 dL_law_216 ?_
  refine lmWi (pc := 217) (As := [.int (xs (i + 1).toNatClampNeg), .int (xs (i + 2).toNatClampNeg), .int (xs (i + 3).toNatClampNeg), .int (xs (i + 4).toNatClampNeg)]) (rest := [.int ox.1]) (M' := om.2) CF (mtX4_county l D cI cZ cQ oM aM M (xs (i + 1).toNatClampNeg) (xs (i + 2).toNatClampNeg) (xs (i + 3).toNatClampNeg) (xs (i + 4).toNatClampNeg) H.size om hfm) (cwV 4 hts gL_law_X4_county rfl rfl rfl ⟨rfl, hdX4_county⟩ ⟨Nat.le_of_ble_eq_true rfl, Nat.le_of_ble_eq_true rfl⟩) hK hP hD hS hA rfl hl.1 rfl (Nat.le_of_ble_eq_true rfl) dL_law_217 ⟨Nat.le_of_ble_eq_true rfl, Nat.le_of_ble_eq_true rfl⟩ (fun H locs hP hD hS => ?_)
  refine lv_icmp_eq (pc := 220) (tgt := 1237) hx hb dL_law_220 (by decide) (fun _ => ?_) (fun c9 => absurd hre c9)
  exact K _ _ _ _ _ _ _ _ _ hRel2 hP hD hS hl
set_option maxHeartbeats 4000000 in
set_option maxRecDepth 100000 in
theorem lc_1 {p : Program} {l : Launch} {e : Env} {s : State} {m : MethodId} {below : List Frame} {meth : Method} {c : Code} {b len : Nat} {xs : Nat → Int32} {D : va_G} {cI cZ cQ : ClassId} (CF : CallFix p m c code 4 s #[Value.ref b] wsL_law RL) (hr : meth.sig.returnType = ret) (hlocks : meth.locks = false) (hK : EK D cI cZ cQ s) (hX : va_X b len xs s s.heap) (hbl : b < s.heap.size) {o : Nat} {a : Nat → Nat} {oM : Nat} {aM : Nat → Nat} {X : Bk} {Rw : Nat → Bk} {L T N M : Bk} {H : Heap} {locs : List Loc} {ls : Array Slot} {i : Int32} (h1 : vp_in (i + 1) len) (h2 : vp_in (i + 2) len) (h3 : vp_in (i + 3) len) (h4 : vp_in (i + 4) len) (h5 : vp_in (i + 5) len) (hRel : Rel X Rw L N M) (hP : va_P D vwCl (wFM cI cZ cQ o a oM aM X Rw L T N M) H) (hD : va_D (fun q : Nat => s.heap.size ≤ q) (wFM cI cZ cQ o a oM aM X Rw L T N M)) (hS : va_S (fun q : Nat => s.heap.size ≤ q) s.heap H locs) (hl : lv_has ls 4 [(0, .ref b), (1, .ref o), (2, .ref oM), (3, .int i)]) (K : ∀ (X : Bk) (Rw : Nat → Bk) (L T N M : Bk) (H : Heap) (locs : List Loc) (ls : Array Slot), Rel X Rw L N M → va_P D vwCl (wFM cI cZ cQ o a oM aM X Rw L T N M) H → va_D (fun q : Nat => s.heap.size ≤ q) (wFM cI cZ cQ o a oM aM X Rw L T N M) → va_S (fun q : Nat => s.heap.size ≤ q) s.heap H locs → lv_has ls 4 [(0, .ref b), (1, .ref o), (2, .ref oM), (3, .int i)] → W p l e room_1 s m #[Value.ref b] below meth c H locs 43 748 (lw_Z below #[Value.ref b] s) (F0 m 1237 ls [])) : W p l e room_1 s m #[Value.ref b] below meth c H locs 43 748 (lw_Z below #[Value.ref b] s) (F0 m 225 ls []) := by
  obtain ⟨hx, hb, hml, hown, hts⟩ := id CF
  have hA : ∀ q : Nat, s.heap.size ≤ q → (fun q : Nat => s.heap.size ≤ q) q := fun _ h => h
  have hbA : ¬ (fun q : Nat => s.heap.size ≤ q) b := Nat.not_le.mpr hbl
  obtain ⟨k, ox, om, hk, hfx, hfm, hre, hRel2⟩ := sim_ofGoer T hRel (xs (i + 1).toNatClampNeg) (xs (i + 2).toNatClampNeg)
  refine lv_aload_n (pc := 225) hx hb dL_law_225 rfl (lv_at hl 1 rfl) ?_
  refine lv_aload_n (pc := 226) hx hb dL_law_226 rfl (lv_at hl 0 rfl) ?_
  refine lv_iload_n (pc := 227) hx hb dL_law_227 rfl (lv_at hl 3 rfl) ?_
  refine lv_iconst (pc := 228) (v := 1) hx hb dL_law_228 (by decide) ?_
  refine lv_iadd (pc := 229) hx hb dL_law_229 ?_
  refine va_sld (pc := 230) hx hb hX hbl hbA hS h1 dL_law_230 ?_
  refine lv_aload_n (pc := 231) hx hb dL_law_231 rfl (lv_at hl 0 rfl) ?_
  refine lv_iload_n (pc := 232) hx hb dL_law_232 rfl (lv_at hl 3 rfl) ?_
  refine lv_iconst (pc := 233) (v := 2) hx hb dL_law_233 (by decide) ?_
  refine lv_iadd (pc := 234) hx hb dL_law_234 ?_
  refine va_sld (pc := 235) hx hb hX hbl hbA hS h2 dL_law_235 ?_
  refine lxRi (pc := 236) (As := [.int (xs (i + 1).toNatClampNeg), .int (xs (i + 2).toNatClampNeg)]) (rest := []) CF (mtX3_ofGoer l D cI cZ cQ o (a 0) (fun i => a (10 + i)) 0 (a (20 + 0)) (a 30) (fun j => a (40 + j)) (a 50) (fun j => a (60 + j)) (a 70) (fun j => a (80 + j)) X (Rw 0) L T N (xs (i + 1).toNatClampNeg) (xs (i + 2).toNatClampNeg) ox hfx) (cwV 2 hts gL_law_X3_ofGoer rfl rfl rfl ⟨rfl, hdX3_ofGoer⟩ ⟨Nat.le_of_ble_eq_true rfl, Nat.le_of_ble_eq_true rfl⟩) hK hP rfl hl.1 rfl (Nat.le_of_ble_eq_true rfl) dL_law_236 ⟨Nat.le_of_ble_eq_true rfl, Nat.le_of_ble_eq_true rfl⟩ ?_
  refine lv_aload_n (pc := 239) hx hb dL_law_239 rfl (lv_at hl 2 rfl) ?_
  refine lv_aload_n (pc := 240) hx hb dL_law_240 rfl (lv_at hl 0 rfl) ?_
  refine lv_iload_n (pc := 241) hx hb dL_law_241 rfl (lv_at hl 3 rfl) ?_
  refine lv_iconst (pc := 242) (v := 1) hx hb dL_law_242 (by decide) ?_
  refine lv_iadd (pc := 243) hx hb dL_law_243 ?_
  refine va_sld (pc := 244) hx hb hX hbl hbA hS h1 dL_law_244 ?_
  refine lv_aload_n (pc := 245) hx hb dL_law_245 rfl (lv_at hl 0 rfl) ?_
  refine lv_iload_n (pc := 246) hx hb dL_law_246 rfl (lv_at hl 3 rfl) ?_
  refine lv_iconst (pc := 247) (v := 2) hx hb dL_law_247 (by decide) ?_
  refine lv_iadd (pc := 248) hx hb dL_law_248 ?_
  refine va_sld (pc := 249) hx hb hX hbl hbA hS h2 dL_law_249 ?_
  refine lmRi (pc := 250) (As := [.int (xs (i + 1).toNatClampNeg), .int (xs (i + 2).toNatClampNeg)]) (rest := [.int ox]) CF (mtX4_ofGoer l D cI cZ cQ oM aM M (xs (i + 1).toNatClampNeg) (xs (i + 2).toNatClampNeg) om hfm) (cwV 2 hts gL_law_X4_ofGoer rfl rfl rfl ⟨rfl, hdX4_ofGoer⟩ ⟨Nat.le_of_ble_eq_true rfl, Nat.le_of_ble_eq_true rfl⟩) hK hP rfl hl.1 rfl (Nat.le_of_ble_eq_true rfl) dL_law_250 ⟨Nat.le_of_ble_eq_true rfl, Nat.le_of_ble_eq_true rfl⟩ ?_
  refine lv_icmp_eq (pc := 253) (tgt := 1237) hx hb dL_law_253 (by decide) (fun _ => ?_) (fun c9 => absurd hre c9)
  exact K _ _ _ _ _ _ _ _ _ hRel2 hP hD hS hl
set_option maxHeartbeats 4000000 in
set_option maxRecDepth 100000 in
theorem lc_2 {p : Program} {l : Launch} {e : Env} {s : State} {m : MethodId} {below : List Frame} {meth : Method} {c : Code} {b len : Nat} {xs : Nat → Int32} {D : va_G} {cI cZ cQ : ClassId} (CF : CallFix p m c code 4 s #[Value.ref b] wsL_law RL) (hr : meth.sig.returnType = ret) (hlocks : meth.locks = false) (hK : EK D cI cZ cQ s) (hX : va_X b len xs s s.heap) (hbl : b < s.heap.size) {o : Nat} {a : Nat → Nat} {oM : Nat} {aM : Nat → Nat} {X : Bk} {Rw : Nat → Bk} {L T N M : Bk} {H : Heap} {locs : List Loc} {ls : Array Slot} {i : Int32} (h1 : vp_in (i + 1) len) (h2 : vp_in (i + 2) len) (h3 : vp_in (i + 3) len) (h4 : vp_in (i + 4) len) (h5 : vp_in (i + 5) len) (hRel : Rel X Rw L N M) (hP : va_P D vwCl (wFM cI cZ cQ o a oM aM X Rw L T N M) H) (hD : va_D (fun q : Nat => s.heap.size ≤ q) (wFM cI cZ cQ o a oM aM X Rw L T N M)) (hS : va_S (fun q : Nat => s.heap.size ≤ q) s.heap H locs) (hl : lv_has ls 4 [(0, .ref b), (1, .ref o), (2, .ref oM), (3, .int i)]) (K : ∀ (X : Bk) (Rw : Nat → Bk) (L T N M : Bk) (H : Heap) (locs : List Loc) (ls : Array Slot), Rel X Rw L N M → va_P D vwCl (wFM cI cZ cQ o a oM aM X Rw L T N M) H → va_D (fun q : Nat => s.heap.size ≤ q) (wFM cI cZ cQ o a oM aM X Rw L T N M) → va_S (fun q : Nat => s.heap.size ≤ q) s.heap H locs → lv_has ls 4 [(0, .ref b), (1, .ref o), (2, .ref oM), (3, .int i)] → W p l e room_1 s m #[Value.ref b] below meth c H locs 43 748 (lw_Z below #[Value.ref b] s) (F0 m 1237 ls [])) : W p l e room_1 s m #[Value.ref b] below meth c H locs 43 748 (lw_Z below #[Value.ref b] s) (F0 m 258 ls []) := by
  obtain ⟨hx, hb, hml, hown, hts⟩ := id CF
  have hA : ∀ q : Nat, s.heap.size ≤ q → (fun q : Nat => s.heap.size ≤ q) q := fun _ h => h
  have hbA : ¬ (fun q : Nat => s.heap.size ≤ q) b := Nat.not_le.mpr hbl
  obtain ⟨k, ox, om, hk, hfx, hfm, hre, hRel2⟩ := sim_hole T hRel (xs (i + 1).toNatClampNeg) (xs (i + 2).toNatClampNeg) (xs (i + 3).toNatClampNeg)
  refine lv_aload_n (pc := 258) hx hb dL_law_258 rfl (lv_at hl 1 rfl) ?_
  refine lv_aload_n (pc := 259) hx hb dL_law_259 rfl (lv_at hl 0 rfl) ?_
  refine lv_iload_n (pc := 260) hx hb dL_law_260 rfl (lv_at hl 3 rfl) ?_
  refine lv_iconst (pc := 261) (v := 1) hx hb dL_law_261 (by decide) ?_
  refine lv_iadd (pc := 262) hx hb dL_law_262 ?_
  refine va_sld (pc := 263) hx hb hX hbl hbA hS h1 dL_law_263 ?_
  refine lv_aload_n (pc := 264) hx hb dL_law_264 rfl (lv_at hl 0 rfl) ?_
  refine lv_iload_n (pc := 265) hx hb dL_law_265 rfl (lv_at hl 3 rfl) ?_
  refine lv_iconst (pc := 266) (v := 2) hx hb dL_law_266 (by decide) ?_
  refine lv_iadd (pc := 267) hx hb dL_law_267 ?_
  refine va_sld (pc := 268) hx hb hX hbl hbA hS h2 dL_law_268 ?_
  refine lv_aload_n (pc := 269) hx hb dL_law_269 rfl (lv_at hl 0 rfl) ?_
  refine lv_iload_n (pc := 270) hx hb dL_law_270 rfl (lv_at hl 3 rfl) ?_
  refine lv_iconst (pc := 271) (v := 3) hx hb dL_law_271 (by decide) ?_
  refine lv_iadd (pc := 272) hx hb dL_law_272 ?_
  refine va_sld (pc := 273) hx hb hX hbl hbA hS h3 dL_law_273 ?_
  refine lxRi (pc := 274) (As := [.int (xs (i + 1).toNatClampNeg), .int (xs (i + 2).toNatClampNeg), .int (xs (i + 3).toNatClampNeg)]) (rest := []) CF (mtX3_hole l D cI cZ cQ o (a 0) (fun i => a (10 + i)) 0 (a (20 + 0)) (a 30) (fun j => a (40 + j)) (a 50) (fun j => a (60 + j)) (a 70) (fun j => a (80 + j)) X (Rw 0) L T N (xs (i + 1).toNatClampNeg) (xs (i + 2).toNatClampNeg) (xs (i + 3).toNatClampNeg) ox hfx) (cwV 3 hts gL_law_X3_hole rfl rfl rfl ⟨rfl, hdX3_hole⟩ ⟨Nat.le_of_ble_eq_true rfl, Nat.le_of_ble_eq_true rfl⟩) hK hP rfl hl.1 rfl (Nat.le_of_ble_eq_true rfl) dL_law_274 ⟨Nat.le_of_ble_eq_true rfl, Nat.le_of_ble_eq_true rfl⟩ ?_
  refine lv_aload_n (pc := 277) hx hb dL_law_277 rfl (lv_at hl 2 rfl) ?_
  refine lv_aload_n (pc := 278) hx hb dL_law_278 rfl (lv_at hl 0 rfl) ?_
  refine lv_iload_n (pc := 279) hx hb dL_law_279 rfl (lv_at hl 3 rfl) ?_
  refine lv_iconst (pc := 280) (v := 1) hx hb dL_law_280 (by decide) ?_
  refine lv_iadd (pc := 281) hx hb dL_law_281 ?_
  refine va_sld (pc := 282) hx hb hX hbl hbA hS h1 dL_law_282 ?_
  refine lv_aload_n (pc := 283) hx hb dL_law_283 rfl (lv_at hl 0 rfl) ?_
  refine lv_iload_n (pc := 284) hx hb dL_law_284 rfl (lv_at hl 3 rfl) ?_
  refine lv_iconst (pc := 285) (v := 2) hx hb dL_law_285 (by decide) ?_
  refine lv_iadd (pc := 286) hx hb dL_law_286 ?_
  refine va_sld (pc := 287) hx hb hX hbl hbA hS h2 dL_law_287 ?_
  refine lv_aload_n (pc := 288) hx hb dL_law_288 rfl (lv_at hl 0 rfl) ?_
  refine lv_iload_n (pc := 289) hx hb dL_law_289 rfl (lv_at hl 3 rfl) ?_
  refine lv_iconst (pc := 290) (v := 3) hx hb dL_law_290 (by decide) ?_
  refine lv_iadd (pc := 291) hx hb dL_law_291 ?_
  refine va_sld (pc := 292) hx hb hX hbl hbA hS h3 dL_law_292 ?_
  refine lmRi (pc := 293) (As := [.int (xs (i + 1).toNatClampNeg), .int (xs (i + 2).toNatClampNeg), .int (xs (i + 3).toNatClampNeg)]) (rest := [.int ox]) CF (mtX4_hole l D cI cZ cQ oM aM M (xs (i + 1).toNatClampNeg) (xs (i + 2).toNatClampNeg) (xs (i + 3).toNatClampNeg) om hfm) (cwV 3 hts gL_law_X4_hole rfl rfl rfl ⟨rfl, hdX4_hole⟩ ⟨Nat.le_of_ble_eq_true rfl, Nat.le_of_ble_eq_true rfl⟩) hK hP rfl hl.1 rfl (Nat.le_of_ble_eq_true rfl) dL_law_293 ⟨Nat.le_of_ble_eq_true rfl, Nat.le_of_ble_eq_true rfl⟩ ?_
  refine lv_icmp_eq (pc := 296) (tgt := 1237) hx hb dL_law_296 (by decide) (fun _ => ?_) (fun c9 => absurd hre c9)
  exact K _ _ _ _ _ _ _ _ _ hRel2 hP hD hS hl
set_option maxHeartbeats 4000000 in
set_option maxRecDepth 100000 in
theorem lc_3 {p : Program} {l : Launch} {e : Env} {s : State} {m : MethodId} {below : List Frame} {meth : Method} {c : Code} {b len : Nat} {xs : Nat → Int32} {D : va_G} {cI cZ cQ : ClassId} (CF : CallFix p m c code 4 s #[Value.ref b] wsL_law RL) (hr : meth.sig.returnType = ret) (hlocks : meth.locks = false) (hK : EK D cI cZ cQ s) (hX : va_X b len xs s s.heap) (hbl : b < s.heap.size) {o : Nat} {a : Nat → Nat} {oM : Nat} {aM : Nat → Nat} {X : Bk} {Rw : Nat → Bk} {L T N M : Bk} {H : Heap} {locs : List Loc} {ls : Array Slot} {i : Int32} (h1 : vp_in (i + 1) len) (h2 : vp_in (i + 2) len) (h3 : vp_in (i + 3) len) (h4 : vp_in (i + 4) len) (h5 : vp_in (i + 5) len) (hRel : Rel X Rw L N M) (hP : va_P D vwCl (wFM cI cZ cQ o a oM aM X Rw L T N M) H) (hD : va_D (fun q : Nat => s.heap.size ≤ q) (wFM cI cZ cQ o a oM aM X Rw L T N M)) (hS : va_S (fun q : Nat => s.heap.size ≤ q) s.heap H locs) (hl : lv_has ls 4 [(0, .ref b), (1, .ref o), (2, .ref oM), (3, .int i)]) (K : ∀ (X : Bk) (Rw : Nat → Bk) (L T N M : Bk) (H : Heap) (locs : List Loc) (ls : Array Slot), Rel X Rw L N M → va_P D vwCl (wFM cI cZ cQ o a oM aM X Rw L T N M) H → va_D (fun q : Nat => s.heap.size ≤ q) (wFM cI cZ cQ o a oM aM X Rw L T N M) → va_S (fun q : Nat => s.heap.size ≤ q) s.heap H locs → lv_has ls 4 [(0, .ref b), (1, .ref o), (2, .ref oM), (3, .int i)] → W p l e room_1 s m #[Value.ref b] below meth c H locs 43 748 (lw_Z below #[Value.ref b] s) (F0 m 1237 ls [])) : W p l e room_1 s m #[Value.ref b] below meth c H locs 43 748 (lw_Z below #[Value.ref b] s) (F0 m 301 ls []) := by
  obtain ⟨hx, hb, hml, hown, hts⟩ := id CF
  have hA : ∀ q : Nat, s.heap.size ≤ q → (fun q : Nat => s.heap.size ≤ q) q := fun _ h => h
  have hbA : ¬ (fun q : Nat => s.heap.size ≤ q) b := Nat.not_le.mpr hbl
  obtain ⟨k, ox, om, hk, hfx, hfm, hre, hRel2⟩ := sim_hoop T hRel (xs (i + 1).toNatClampNeg) (xs (i + 2).toNatClampNeg) (xs (i + 3).toNatClampNeg)
  refine lv_aload_n (pc := 301) hx hb dL_law_301 rfl (lv_at hl 1 rfl) ?_
  refine lv_aload_n (pc := 302) hx hb dL_law_302 rfl (lv_at hl 0 rfl) ?_
  refine lv_iload_n (pc := 303) hx hb dL_law_303 rfl (lv_at hl 3 rfl) ?_
  refine lv_iconst (pc := 304) (v := 1) hx hb dL_law_304 (by decide) ?_
  refine lv_iadd (pc := 305) hx hb dL_law_305 ?_
  refine va_sld (pc := 306) hx hb hX hbl hbA hS h1 dL_law_306 ?_
  refine lv_aload_n (pc := 307) hx hb dL_law_307 rfl (lv_at hl 0 rfl) ?_
  refine lv_iload_n (pc := 308) hx hb dL_law_308 rfl (lv_at hl 3 rfl) ?_
  refine lv_iconst (pc := 309) (v := 2) hx hb dL_law_309 (by decide) ?_
  refine lv_iadd (pc := 310) hx hb dL_law_310 ?_
  refine va_sld (pc := 311) hx hb hX hbl hbA hS h2 dL_law_311 ?_
  refine lv_aload_n (pc := 312) hx hb dL_law_312 rfl (lv_at hl 0 rfl) ?_
  refine lv_iload_n (pc := 313) hx hb dL_law_313 rfl (lv_at hl 3 rfl) ?_
  refine lv_iconst (pc := 314) (v := 3) hx hb dL_law_314 (by decide) ?_
  refine lv_iadd (pc := 315) hx hb dL_law_315 ?_
  refine va_sld (pc := 316) hx hb hX hbl hbA hS h3 dL_law_316 ?_
  refine lxWi (pc := 317) (As := [.int (xs (i + 1).toNatClampNeg), .int (xs (i + 2).toNatClampNeg), .int (xs (i + 3).toNatClampNeg)]) (rest := []) (X' := X) (R' := Rw k) (L' := ox.2) (T' := T) (N' := N) hk CF (mtX3_hoop l D cI cZ cQ o (a 0) (fun i => a (10 + i)) k (a (20 + k)) (a 30) (fun j => a (40 + j)) (a 50) (fun j => a (60 + j)) (a 70) (fun j => a (80 + j)) X (Rw k) L T N (xs (i + 1).toNatClampNeg) (xs (i + 2).toNatClampNeg) (xs (i + 3).toNatClampNeg) H.size ox hfx) (cwV 3 hts gL_law_X3_hoop rfl rfl rfl ⟨rfl, hdX3_hoop⟩ ⟨Nat.le_of_ble_eq_true rfl, Nat.le_of_ble_eq_true rfl⟩) hK hP hD hS hA rfl hl.1 rfl (Nat.le_of_ble_eq_true rfl) dL_law_317 ⟨Nat.le_of_ble_eq_true rfl, Nat.le_of_ble_eq_true rfl⟩ (fun H locs hP hD hS => ?_)
  rw [up_id] at hP hD
  refine lv_aload_n (pc := 320) hx hb dL_law_320 rfl (lv_at hl 2 rfl) ?_
  refine lv_aload_n (pc := 321) hx hb dL_law_321 rfl (lv_at hl 0 rfl) ?_
  refine lv_iload_n (pc := 322) hx hb dL_law_322 rfl (lv_at hl 3 rfl) ?_
  refine lv_iconst (pc := 323) (v := 1) hx hb dL_law_323 (by decide) ?_
  refine lv_iadd (pc := 324) hx hb dL_law_324 ?_
  refine va_sld (pc := 325) hx hb hX hbl hbA hS h1 dL_law_325 ?_
  refine lv_aload_n (pc := 326) hx hb dL_law_326 rfl (lv_at hl 0 rfl) ?_
  refine lv_iload_n (pc := 327) hx hb dL_law_327 rfl (lv_at hl 3 rfl) ?_
  refine lv_iconst (pc := 328) (v := 2) hx hb dL_law_328 (by decide) ?_
  refine lv_iadd (pc := 329) hx hb dL_law_329 ?_
  refine va_sld (pc := 330) hx hb hX hbl hbA hS h2 dL_law_330 ?_
  refine lv_aload_n (pc := 331) hx hb dL_law_331 rfl (lv_at hl 0 rfl) ?_
  refine lv_iload_n (pc := 332) hx hb dL_law_332 rfl (lv_at hl 3 rfl) ?_
  refine lv_iconst (pc := 333) (v := 3) hx hb dL_law_333 (by decide) ?_
  refine lv_iadd (pc := 334) hx hb dL_law_334 ?_
  refine va_sld (pc := 335) hx hb hX hbl hbA hS h3 dL_law_335 ?_
  refine lmWi (pc := 336) (As := [.int (xs (i + 1).toNatClampNeg), .int (xs (i + 2).toNatClampNeg), .int (xs (i + 3).toNatClampNeg)]) (rest := [.int ox.1]) (M' := om.2) CF (mtX4_hoop l D cI cZ cQ oM aM M (xs (i + 1).toNatClampNeg) (xs (i + 2).toNatClampNeg) (xs (i + 3).toNatClampNeg) H.size om hfm) (cwV 3 hts gL_law_X4_hoop rfl rfl rfl ⟨rfl, hdX4_hoop⟩ ⟨Nat.le_of_ble_eq_true rfl, Nat.le_of_ble_eq_true rfl⟩) hK hP hD hS hA rfl hl.1 rfl (Nat.le_of_ble_eq_true rfl) dL_law_336 ⟨Nat.le_of_ble_eq_true rfl, Nat.le_of_ble_eq_true rfl⟩ (fun H locs hP hD hS => ?_)
  refine lv_icmp_eq (pc := 339) (tgt := 1237) hx hb dL_law_339 (by decide) (fun _ => ?_) (fun c9 => absurd hre c9)
  exact K _ _ _ _ _ _ _ _ _ hRel2 hP hD hS hl
set_option maxHeartbeats 4000000 in
set_option maxRecDepth 100000 in
theorem lc_4 {p : Program} {l : Launch} {e : Env} {s : State} {m : MethodId} {below : List Frame} {meth : Method} {c : Code} {b len : Nat} {xs : Nat → Int32} {D : va_G} {cI cZ cQ : ClassId} (CF : CallFix p m c code 4 s #[Value.ref b] wsL_law RL) (hr : meth.sig.returnType = ret) (hlocks : meth.locks = false) (hK : EK D cI cZ cQ s) (hX : va_X b len xs s s.heap) (hbl : b < s.heap.size) {o : Nat} {a : Nat → Nat} {oM : Nat} {aM : Nat → Nat} {X : Bk} {Rw : Nat → Bk} {L T N M : Bk} {H : Heap} {locs : List Loc} {ls : Array Slot} {i : Int32} (h1 : vp_in (i + 1) len) (h2 : vp_in (i + 2) len) (h3 : vp_in (i + 3) len) (h4 : vp_in (i + 4) len) (h5 : vp_in (i + 5) len) (hRel : Rel X Rw L N M) (hP : va_P D vwCl (wFM cI cZ cQ o a oM aM X Rw L T N M) H) (hD : va_D (fun q : Nat => s.heap.size ≤ q) (wFM cI cZ cQ o a oM aM X Rw L T N M)) (hS : va_S (fun q : Nat => s.heap.size ≤ q) s.heap H locs) (hl : lv_has ls 4 [(0, .ref b), (1, .ref o), (2, .ref oM), (3, .int i)]) (K : ∀ (X : Bk) (Rw : Nat → Bk) (L T N M : Bk) (H : Heap) (locs : List Loc) (ls : Array Slot), Rel X Rw L N M → va_P D vwCl (wFM cI cZ cQ o a oM aM X Rw L T N M) H → va_D (fun q : Nat => s.heap.size ≤ q) (wFM cI cZ cQ o a oM aM X Rw L T N M) → va_S (fun q : Nat => s.heap.size ≤ q) s.heap H locs → lv_has ls 4 [(0, .ref b), (1, .ref o), (2, .ref oM), (3, .int i)] → W p l e room_1 s m #[Value.ref b] below meth c H locs 43 748 (lw_Z below #[Value.ref b] s) (F0 m 1237 ls [])) : W p l e room_1 s m #[Value.ref b] below meth c H locs 43 748 (lw_Z below #[Value.ref b] s) (F0 m 344 ls []) := by
  obtain ⟨hx, hb, hml, hown, hts⟩ := id CF
  have hA : ∀ q : Nat, s.heap.size ≤ q → (fun q : Nat => s.heap.size ≤ q) q := fun _ h => h
  have hbA : ¬ (fun q : Nat => s.heap.size ≤ q) b := Nat.not_le.mpr hbl
  obtain ⟨k, ox, om, hk, hfx, hfm, hre, hRel2⟩ := sim_fatten T hRel (xs (i + 1).toNatClampNeg) (xs (i + 2).toNatClampNeg)
  refine lv_aload_n (pc := 344) hx hb dL_law_344 rfl (lv_at hl 1 rfl) ?_
  refine lv_aload_n (pc := 345) hx hb dL_law_345 rfl (lv_at hl 0 rfl) ?_
  refine lv_iload_n (pc := 346) hx hb dL_law_346 rfl (lv_at hl 3 rfl) ?_
  refine lv_iconst (pc := 347) (v := 1) hx hb dL_law_347 (by decide) ?_
  refine lv_iadd (pc := 348) hx hb dL_law_348 ?_
  refine va_sld (pc := 349) hx hb hX hbl hbA hS h1 dL_law_349 ?_
  refine lv_aload_n (pc := 350) hx hb dL_law_350 rfl (lv_at hl 0 rfl) ?_
  refine lv_iload_n (pc := 351) hx hb dL_law_351 rfl (lv_at hl 3 rfl) ?_
  refine lv_iconst (pc := 352) (v := 2) hx hb dL_law_352 (by decide) ?_
  refine lv_iadd (pc := 353) hx hb dL_law_353 ?_
  refine va_sld (pc := 354) hx hb hX hbl hbA hS h2 dL_law_354 ?_
  refine lxWi (pc := 355) (As := [.int (xs (i + 1).toNatClampNeg), .int (xs (i + 2).toNatClampNeg)]) (rest := []) (X' := X) (R' := Rw k) (L' := ox.2) (T' := T) (N' := N) hk CF (mtX3_fatten l D cI cZ cQ o (a 0) (fun i => a (10 + i)) k (a (20 + k)) (a 30) (fun j => a (40 + j)) (a 50) (fun j => a (60 + j)) (a 70) (fun j => a (80 + j)) X (Rw k) L T N (xs (i + 1).toNatClampNeg) (xs (i + 2).toNatClampNeg) H.size ox hfx) (cwV 2 hts gL_law_X3_fatten rfl rfl rfl ⟨rfl, hdX3_fatten⟩ ⟨Nat.le_of_ble_eq_true rfl, Nat.le_of_ble_eq_true rfl⟩) hK hP hD hS hA rfl hl.1 rfl (Nat.le_of_ble_eq_true rfl) dL_law_355 ⟨Nat.le_of_ble_eq_true rfl, Nat.le_of_ble_eq_true rfl⟩ (fun H locs hP hD hS => ?_)
  rw [up_id] at hP hD
  refine lv_aload_n (pc := 358) hx hb dL_law_358 rfl (lv_at hl 2 rfl) ?_
  refine lv_aload_n (pc := 359) hx hb dL_law_359 rfl (lv_at hl 0 rfl) ?_
  refine lv_iload_n (pc := 360) hx hb dL_law_360 rfl (lv_at hl 3 rfl) ?_
  refine lv_iconst (pc := 361) (v := 1) hx hb dL_law_361 (by decide) ?_
  refine lv_iadd (pc := 362) hx hb dL_law_362 ?_
  refine va_sld (pc := 363) hx hb hX hbl hbA hS h1 dL_law_363 ?_
  refine lv_aload_n (pc := 364) hx hb dL_law_364 rfl (lv_at hl 0 rfl) ?_
  refine lv_iload_n (pc := 365) hx hb dL_law_365 rfl (lv_at hl 3 rfl) ?_
  refine lv_iconst (pc := 366) (v := 2) hx hb dL_law_366 (by decide) ?_
  refine lv_iadd (pc := 367) hx hb dL_law_367 ?_
  refine va_sld (pc := 368) hx hb hX hbl hbA hS h2 dL_law_368 ?_
  refine lmWi (pc := 369) (As := [.int (xs (i + 1).toNatClampNeg), .int (xs (i + 2).toNatClampNeg)]) (rest := [.int ox.1]) (M' := om.2) CF (mtX4_fatten l D cI cZ cQ oM aM M (xs (i + 1).toNatClampNeg) (xs (i + 2).toNatClampNeg) H.size om hfm) (cwV 2 hts gL_law_X4_fatten rfl rfl rfl ⟨rfl, hdX4_fatten⟩ ⟨Nat.le_of_ble_eq_true rfl, Nat.le_of_ble_eq_true rfl⟩) hK hP hD hS hA rfl hl.1 rfl (Nat.le_of_ble_eq_true rfl) dL_law_369 ⟨Nat.le_of_ble_eq_true rfl, Nat.le_of_ble_eq_true rfl⟩ (fun H locs hP hD hS => ?_)
  refine lv_icmp_eq (pc := 372) (tgt := 1237) hx hb dL_law_372 (by decide) (fun _ => ?_) (fun c9 => absurd hre c9)
  exact K _ _ _ _ _ _ _ _ _ hRel2 hP hD hS hl
set_option maxHeartbeats 4000000 in
set_option maxRecDepth 100000 in
theorem lc_5 {p : Program} {l : Launch} {e : Env} {s : State} {m : MethodId} {below : List Frame} {meth : Method} {c : Code} {b len : Nat} {xs : Nat → Int32} {D : va_G} {cI cZ cQ : ClassId} (CF : CallFix p m c code 4 s #[Value.ref b] wsL_law RL) (hr : meth.sig.returnType = ret) (hlocks : meth.locks = false) (hK : EK D cI cZ cQ s) (hX : va_X b len xs s s.heap) (hbl : b < s.heap.size) {o : Nat} {a : Nat → Nat} {oM : Nat} {aM : Nat → Nat} {X : Bk} {Rw : Nat → Bk} {L T N M : Bk} {H : Heap} {locs : List Loc} {ls : Array Slot} {i : Int32} (h1 : vp_in (i + 1) len) (h2 : vp_in (i + 2) len) (h3 : vp_in (i + 3) len) (h4 : vp_in (i + 4) len) (h5 : vp_in (i + 5) len) (hRel : Rel X Rw L N M) (hP : va_P D vwCl (wFM cI cZ cQ o a oM aM X Rw L T N M) H) (hD : va_D (fun q : Nat => s.heap.size ≤ q) (wFM cI cZ cQ o a oM aM X Rw L T N M)) (hS : va_S (fun q : Nat => s.heap.size ≤ q) s.heap H locs) (hl : lv_has ls 4 [(0, .ref b), (1, .ref o), (2, .ref oM), (3, .int i)]) (K : ∀ (X : Bk) (Rw : Nat → Bk) (L T N M : Bk) (H : Heap) (locs : List Loc) (ls : Array Slot), Rel X Rw L N M → va_P D vwCl (wFM cI cZ cQ o a oM aM X Rw L T N M) H → va_D (fun q : Nat => s.heap.size ≤ q) (wFM cI cZ cQ o a oM aM X Rw L T N M) → va_S (fun q : Nat => s.heap.size ≤ q) s.heap H locs → lv_has ls 4 [(0, .ref b), (1, .ref o), (2, .ref oM), (3, .int i)] → W p l e room_1 s m #[Value.ref b] below meth c H locs 43 748 (lw_Z below #[Value.ref b] s) (F0 m 1237 ls [])) : W p l e room_1 s m #[Value.ref b] below meth c H locs 43 748 (lw_Z below #[Value.ref b] s) (F0 m 377 ls []) := by
  obtain ⟨hx, hb, hml, hown, hts⟩ := id CF
  have hA : ∀ q : Nat, s.heap.size ≤ q → (fun q : Nat => s.heap.size ≤ q) q := fun _ h => h
  have hbA : ¬ (fun q : Nat => s.heap.size ≤ q) b := Nat.not_le.mpr hbl
  obtain ⟨k, ox, om, hk, hfx, hfm, hre, hRel2⟩ := sim_go T hRel (xs (i + 1).toNatClampNeg) (xs (i + 2).toNatClampNeg)
  refine lv_aload_n (pc := 377) hx hb dL_law_377 rfl (lv_at hl 1 rfl) ?_
  refine lv_aload_n (pc := 378) hx hb dL_law_378 rfl (lv_at hl 0 rfl) ?_
  refine lv_iload_n (pc := 379) hx hb dL_law_379 rfl (lv_at hl 3 rfl) ?_
  refine lv_iconst (pc := 380) (v := 1) hx hb dL_law_380 (by decide) ?_
  refine lv_iadd (pc := 381) hx hb dL_law_381 ?_
  refine va_sld (pc := 382) hx hb hX hbl hbA hS h1 dL_law_382 ?_
  refine lv_aload_n (pc := 383) hx hb dL_law_383 rfl (lv_at hl 0 rfl) ?_
  refine lv_iload_n (pc := 384) hx hb dL_law_384 rfl (lv_at hl 3 rfl) ?_
  refine lv_iconst (pc := 385) (v := 2) hx hb dL_law_385 (by decide) ?_
  refine lv_iadd (pc := 386) hx hb dL_law_386 ?_
  refine va_sld (pc := 387) hx hb hX hbl hbA hS h2 dL_law_387 ?_
  refine lxWi (pc := 388) (As := [.int (xs (i + 1).toNatClampNeg), .int (xs (i + 2).toNatClampNeg)]) (rest := []) (X' := ox.2.1) (R' := Rw k) (L' := ox.2.2) (T' := T) (N' := N) hk CF (mtX3_go l D cI cZ cQ o (a 0) (fun i => a (10 + i)) k (a (20 + k)) (a 30) (fun j => a (40 + j)) (a 50) (fun j => a (60 + j)) (a 70) (fun j => a (80 + j)) X (Rw k) L T N (xs (i + 1).toNatClampNeg) (xs (i + 2).toNatClampNeg) H.size ox hfx) (cwV 2 hts gL_law_X3_go rfl rfl rfl ⟨rfl, hdX3_go⟩ ⟨Nat.le_of_ble_eq_true rfl, Nat.le_of_ble_eq_true rfl⟩) hK hP hD hS hA rfl hl.1 rfl (Nat.le_of_ble_eq_true rfl) dL_law_388 ⟨Nat.le_of_ble_eq_true rfl, Nat.le_of_ble_eq_true rfl⟩ (fun H locs hP hD hS => ?_)
  rw [up_id] at hP hD
  refine lv_aload_n (pc := 391) hx hb dL_law_391 rfl (lv_at hl 2 rfl) ?_
  refine lv_aload_n (pc := 392) hx hb dL_law_392 rfl (lv_at hl 0 rfl) ?_
  refine lv_iload_n (pc := 393) hx hb dL_law_393 rfl (lv_at hl 3 rfl) ?_
  refine lv_iconst (pc := 394) (v := 1) hx hb dL_law_394 (by decide) ?_
  refine lv_iadd (pc := 395) hx hb dL_law_395 ?_
  refine va_sld (pc := 396) hx hb hX hbl hbA hS h1 dL_law_396 ?_
  refine lv_aload_n (pc := 397) hx hb dL_law_397 rfl (lv_at hl 0 rfl) ?_
  refine lv_iload_n (pc := 398) hx hb dL_law_398 rfl (lv_at hl 3 rfl) ?_
  refine lv_iconst (pc := 399) (v := 2) hx hb dL_law_399 (by decide) ?_
  refine lv_iadd (pc := 400) hx hb dL_law_400 ?_
  refine va_sld (pc := 401) hx hb hX hbl hbA hS h2 dL_law_401 ?_
  refine lmWi (pc := 402) (As := [.int (xs (i + 1).toNatClampNeg), .int (xs (i + 2).toNatClampNeg)]) (rest := [.int ox.1]) (M' := om.2) CF (mtX4_go l D cI cZ cQ oM aM M (xs (i + 1).toNatClampNeg) (xs (i + 2).toNatClampNeg) H.size om hfm) (cwV 2 hts gL_law_X4_go rfl rfl rfl ⟨rfl, hdX4_go⟩ ⟨Nat.le_of_ble_eq_true rfl, Nat.le_of_ble_eq_true rfl⟩) hK hP hD hS hA rfl hl.1 rfl (Nat.le_of_ble_eq_true rfl) dL_law_402 ⟨Nat.le_of_ble_eq_true rfl, Nat.le_of_ble_eq_true rfl⟩ (fun H locs hP hD hS => ?_)
  refine lv_icmp_eq (pc := 405) (tgt := 1237) hx hb dL_law_405 (by decide) (fun _ => ?_) (fun c9 => absurd hre c9)
  exact K _ _ _ _ _ _ _ _ _ hRel2 hP hD hS hl
set_option maxHeartbeats 4000000 in
set_option maxRecDepth 100000 in
theorem lc_6 {p : Program} {l : Launch} {e : Env} {s : State} {m : MethodId} {below : List Frame} {meth : Method} {c : Code} {b len : Nat} {xs : Nat → Int32} {D : va_G} {cI cZ cQ : ClassId} (CF : CallFix p m c code 4 s #[Value.ref b] wsL_law RL) (hr : meth.sig.returnType = ret) (hlocks : meth.locks = false) (hK : EK D cI cZ cQ s) (hX : va_X b len xs s s.heap) (hbl : b < s.heap.size) {o : Nat} {a : Nat → Nat} {oM : Nat} {aM : Nat → Nat} {X : Bk} {Rw : Nat → Bk} {L T N M : Bk} {H : Heap} {locs : List Loc} {ls : Array Slot} {i : Int32} (h1 : vp_in (i + 1) len) (h2 : vp_in (i + 2) len) (h3 : vp_in (i + 3) len) (h4 : vp_in (i + 4) len) (h5 : vp_in (i + 5) len) (hRel : Rel X Rw L N M) (hP : va_P D vwCl (wFM cI cZ cQ o a oM aM X Rw L T N M) H) (hD : va_D (fun q : Nat => s.heap.size ≤ q) (wFM cI cZ cQ o a oM aM X Rw L T N M)) (hS : va_S (fun q : Nat => s.heap.size ≤ q) s.heap H locs) (hl : lv_has ls 4 [(0, .ref b), (1, .ref o), (2, .ref oM), (3, .int i)]) (K : ∀ (X : Bk) (Rw : Nat → Bk) (L T N M : Bk) (H : Heap) (locs : List Loc) (ls : Array Slot), Rel X Rw L N M → va_P D vwCl (wFM cI cZ cQ o a oM aM X Rw L T N M) H → va_D (fun q : Nat => s.heap.size ≤ q) (wFM cI cZ cQ o a oM aM X Rw L T N M) → va_S (fun q : Nat => s.heap.size ≤ q) s.heap H locs → lv_has ls 4 [(0, .ref b), (1, .ref o), (2, .ref oM), (3, .int i)] → W p l e room_1 s m #[Value.ref b] below meth c H locs 43 748 (lw_Z below #[Value.ref b] s) (F0 m 1237 ls [])) : W p l e room_1 s m #[Value.ref b] below meth c H locs 43 748 (lw_Z below #[Value.ref b] s) (F0 m 410 ls []) := by
  obtain ⟨hx, hb, hml, hown, hts⟩ := id CF
  have hA : ∀ q : Nat, s.heap.size ≤ q → (fun q : Nat => s.heap.size ≤ q) q := fun _ h => h
  have hbA : ¬ (fun q : Nat => s.heap.size ≤ q) b := Nat.not_le.mpr hbl
  obtain ⟨k, ox, om, hk, hfx, hfm, hre, hRel2⟩ := sim_years T hRel (xs (i + 1).toNatClampNeg)
  refine lv_aload_n (pc := 410) hx hb dL_law_410 rfl (lv_at hl 1 rfl) ?_
  refine lv_aload_n (pc := 411) hx hb dL_law_411 rfl (lv_at hl 0 rfl) ?_
  refine lv_iload_n (pc := 412) hx hb dL_law_412 rfl (lv_at hl 3 rfl) ?_
  refine lv_iconst (pc := 413) (v := 1) hx hb dL_law_413 (by decide) ?_
  refine lv_iadd (pc := 414) hx hb dL_law_414 ?_
  refine va_sld (pc := 415) hx hb hX hbl hbA hS h1 dL_law_415 ?_
  refine lxWi (pc := 416) (As := [.int (xs (i + 1).toNatClampNeg)]) (rest := []) (X' := ox.2.1) (R' := Rw k) (L' := ox.2.2) (T' := T) (N' := N) hk CF (mtX3_years l D cI cZ cQ o (a 0) (fun i => a (10 + i)) k (a (20 + k)) (a 30) (fun j => a (40 + j)) (a 50) (fun j => a (60 + j)) (a 70) (fun j => a (80 + j)) X (Rw k) L T N (xs (i + 1).toNatClampNeg) H.size ox hfx) (cwV 1 hts gL_law_X3_years rfl rfl rfl ⟨rfl, hdX3_years⟩ ⟨Nat.le_of_ble_eq_true rfl, Nat.le_of_ble_eq_true rfl⟩) hK hP hD hS hA rfl hl.1 rfl (Nat.le_of_ble_eq_true rfl) dL_law_416 ⟨Nat.le_of_ble_eq_true rfl, Nat.le_of_ble_eq_true rfl⟩ (fun H locs hP hD hS => ?_)
  rw [up_id] at hP hD
  refine lv_aload_n (pc := 419) hx hb dL_law_419 rfl (lv_at hl 2 rfl) ?_
  refine lv_aload_n (pc := 420) hx hb dL_law_420 rfl (lv_at hl 0 rfl) ?_
  refine lv_iload_n (pc := 421) hx hb dL_law_421 rfl (lv_at hl 3 rfl) ?_
  refine lv_iconst (pc := 422) (v := 1) hx hb dL_law_422 (by decide) ?_
  refine lv_iadd (pc := 423) hx hb dL_law_423 ?_
  refine va_sld (pc := 424) hx hb hX hbl hbA hS h1 dL_law_424 ?_
  refine lmWi (pc := 425) (As := [.int (xs (i + 1).toNatClampNeg)]) (rest := [.int ox.1]) (M' := om.2) CF (mtX4_years l D cI cZ cQ oM aM M (xs (i + 1).toNatClampNeg) H.size om hfm) (cwV 1 hts gL_law_X4_years rfl rfl rfl ⟨rfl, hdX4_years⟩ ⟨Nat.le_of_ble_eq_true rfl, Nat.le_of_ble_eq_true rfl⟩) hK hP hD hS hA rfl hl.1 rfl (Nat.le_of_ble_eq_true rfl) dL_law_425 ⟨Nat.le_of_ble_eq_true rfl, Nat.le_of_ble_eq_true rfl⟩ (fun H locs hP hD hS => ?_)
  refine lv_icmp_eq (pc := 428) (tgt := 1237) hx hb dL_law_428 (by decide) (fun _ => ?_) (fun c9 => absurd hre c9)
  exact K _ _ _ _ _ _ _ _ _ hRel2 hP hD hS hl
set_option maxHeartbeats 4000000 in
set_option maxRecDepth 100000 in
theorem lc_7 {p : Program} {l : Launch} {e : Env} {s : State} {m : MethodId} {below : List Frame} {meth : Method} {c : Code} {b len : Nat} {xs : Nat → Int32} {D : va_G} {cI cZ cQ : ClassId} (CF : CallFix p m c code 4 s #[Value.ref b] wsL_law RL) (hr : meth.sig.returnType = ret) (hlocks : meth.locks = false) (hK : EK D cI cZ cQ s) (hX : va_X b len xs s s.heap) (hbl : b < s.heap.size) {o : Nat} {a : Nat → Nat} {oM : Nat} {aM : Nat → Nat} {X : Bk} {Rw : Nat → Bk} {L T N M : Bk} {H : Heap} {locs : List Loc} {ls : Array Slot} {i : Int32} (h1 : vp_in (i + 1) len) (h2 : vp_in (i + 2) len) (h3 : vp_in (i + 3) len) (h4 : vp_in (i + 4) len) (h5 : vp_in (i + 5) len) (hRel : Rel X Rw L N M) (hP : va_P D vwCl (wFM cI cZ cQ o a oM aM X Rw L T N M) H) (hD : va_D (fun q : Nat => s.heap.size ≤ q) (wFM cI cZ cQ o a oM aM X Rw L T N M)) (hS : va_S (fun q : Nat => s.heap.size ≤ q) s.heap H locs) (hl : lv_has ls 4 [(0, .ref b), (1, .ref o), (2, .ref oM), (3, .int i)]) (K : ∀ (X : Bk) (Rw : Nat → Bk) (L T N M : Bk) (H : Heap) (locs : List Loc) (ls : Array Slot), Rel X Rw L N M → va_P D vwCl (wFM cI cZ cQ o a oM aM X Rw L T N M) H → va_D (fun q : Nat => s.heap.size ≤ q) (wFM cI cZ cQ o a oM aM X Rw L T N M) → va_S (fun q : Nat => s.heap.size ≤ q) s.heap H locs → lv_has ls 4 [(0, .ref b), (1, .ref o), (2, .ref oM), (3, .int i)] → W p l e room_1 s m #[Value.ref b] below meth c H locs 43 748 (lw_Z below #[Value.ref b] s) (F0 m 1237 ls [])) : W p l e room_1 s m #[Value.ref b] below meth c H locs 43 748 (lw_Z below #[Value.ref b] s) (F0 m 433 ls []) := by
  obtain ⟨hx, hb, hml, hown, hts⟩ := id CF
  have hA : ∀ q : Nat, s.heap.size ≤ q → (fun q : Nat => s.heap.size ≤ q) q := fun _ h => h
  have hbA : ¬ (fun q : Nat => s.heap.size ≤ q) b := Nat.not_le.mpr hbl
  obtain ⟨k, ox, om, hk, hfx, hfm, hre, hRel2⟩ := sim_stop T hRel (xs (i + 1).toNatClampNeg) (xs (i + 2).toNatClampNeg)
  refine lv_aload_n (pc := 433) hx hb dL_law_433 rfl (lv_at hl 1 rfl) ?_
  refine lv_aload_n (pc := 434) hx hb dL_law_434 rfl (lv_at hl 0 rfl) ?_
  refine lv_iload_n (pc := 435) hx hb dL_law_435 rfl (lv_at hl 3 rfl) ?_
  refine lv_iconst (pc := 436) (v := 1) hx hb dL_law_436 (by decide) ?_
  refine lv_iadd (pc := 437) hx hb dL_law_437 ?_
  refine va_sld (pc := 438) hx hb hX hbl hbA hS h1 dL_law_438 ?_
  refine lv_aload_n (pc := 439) hx hb dL_law_439 rfl (lv_at hl 0 rfl) ?_
  refine lv_iload_n (pc := 440) hx hb dL_law_440 rfl (lv_at hl 3 rfl) ?_
  refine lv_iconst (pc := 441) (v := 2) hx hb dL_law_441 (by decide) ?_
  refine lv_iadd (pc := 442) hx hb dL_law_442 ?_
  refine va_sld (pc := 443) hx hb hX hbl hbA hS h2 dL_law_443 ?_
  refine lxWi (pc := 444) (As := [.int (xs (i + 1).toNatClampNeg), .int (xs (i + 2).toNatClampNeg)]) (rest := []) (X' := X) (R' := Rw k) (L' := ox.2) (T' := T) (N' := N) hk CF (mtX3_stop l D cI cZ cQ o (a 0) (fun i => a (10 + i)) k (a (20 + k)) (a 30) (fun j => a (40 + j)) (a 50) (fun j => a (60 + j)) (a 70) (fun j => a (80 + j)) X (Rw k) L T N (xs (i + 1).toNatClampNeg) (xs (i + 2).toNatClampNeg) H.size ox hfx) (cwV 2 hts gL_law_X3_stop rfl rfl rfl ⟨rfl, hdX3_stop⟩ ⟨Nat.le_of_ble_eq_true rfl, Nat.le_of_ble_eq_true rfl⟩) hK hP hD hS hA rfl hl.1 rfl (Nat.le_of_ble_eq_true rfl) dL_law_444 ⟨Nat.le_of_ble_eq_true rfl, Nat.le_of_ble_eq_true rfl⟩ (fun H locs hP hD hS => ?_)
  rw [up_id] at hP hD
  refine lv_aload_n (pc := 447) hx hb dL_law_447 rfl (lv_at hl 2 rfl) ?_
  refine lv_aload_n (pc := 448) hx hb dL_law_448 rfl (lv_at hl 0 rfl) ?_
  refine lv_iload_n (pc := 449) hx hb dL_law_449 rfl (lv_at hl 3 rfl) ?_
  refine lv_iconst (pc := 450) (v := 1) hx hb dL_law_450 (by decide) ?_
  refine lv_iadd (pc := 451) hx hb dL_law_451 ?_
  refine va_sld (pc := 452) hx hb hX hbl hbA hS h1 dL_law_452 ?_
  refine lv_aload_n (pc := 453) hx hb dL_law_453 rfl (lv_at hl 0 rfl) ?_
  refine lv_iload_n (pc := 454) hx hb dL_law_454 rfl (lv_at hl 3 rfl) ?_
  refine lv_iconst (pc := 455) (v := 2) hx hb dL_law_455 (by decide) ?_
  refine lv_iadd (pc := 456) hx hb dL_law_456 ?_
  refine va_sld (pc := 457) hx hb hX hbl hbA hS h2 dL_law_457 ?_
  refine lmWi (pc := 458) (As := [.int (xs (i + 1).toNatClampNeg), .int (xs (i + 2).toNatClampNeg)]) (rest := [.int ox.1]) (M' := om.2) CF (mtX4_stop l D cI cZ cQ oM aM M (xs (i + 1).toNatClampNeg) (xs (i + 2).toNatClampNeg) H.size om hfm) (cwV 2 hts gL_law_X4_stop rfl rfl rfl ⟨rfl, hdX4_stop⟩ ⟨Nat.le_of_ble_eq_true rfl, Nat.le_of_ble_eq_true rfl⟩) hK hP hD hS hA rfl hl.1 rfl (Nat.le_of_ble_eq_true rfl) dL_law_458 ⟨Nat.le_of_ble_eq_true rfl, Nat.le_of_ble_eq_true rfl⟩ (fun H locs hP hD hS => ?_)
  refine lv_icmp_eq (pc := 461) (tgt := 1237) hx hb dL_law_461 (by decide) (fun _ => ?_) (fun c9 => absurd hre c9)
  exact K _ _ _ _ _ _ _ _ _ hRel2 hP hD hS hl
set_option maxHeartbeats 4000000 in
set_option maxRecDepth 100000 in
theorem lc_8 {p : Program} {l : Launch} {e : Env} {s : State} {m : MethodId} {below : List Frame} {meth : Method} {c : Code} {b len : Nat} {xs : Nat → Int32} {D : va_G} {cI cZ cQ : ClassId} (CF : CallFix p m c code 4 s #[Value.ref b] wsL_law RL) (hr : meth.sig.returnType = ret) (hlocks : meth.locks = false) (hK : EK D cI cZ cQ s) (hX : va_X b len xs s s.heap) (hbl : b < s.heap.size) {o : Nat} {a : Nat → Nat} {oM : Nat} {aM : Nat → Nat} {X : Bk} {Rw : Nat → Bk} {L T N M : Bk} {H : Heap} {locs : List Loc} {ls : Array Slot} {i : Int32} (h1 : vp_in (i + 1) len) (h2 : vp_in (i + 2) len) (h3 : vp_in (i + 3) len) (h4 : vp_in (i + 4) len) (h5 : vp_in (i + 5) len) (hRel : Rel X Rw L N M) (hP : va_P D vwCl (wFM cI cZ cQ o a oM aM X Rw L T N M) H) (hD : va_D (fun q : Nat => s.heap.size ≤ q) (wFM cI cZ cQ o a oM aM X Rw L T N M)) (hS : va_S (fun q : Nat => s.heap.size ≤ q) s.heap H locs) (hl : lv_has ls 4 [(0, .ref b), (1, .ref o), (2, .ref oM), (3, .int i)]) (K : ∀ (X : Bk) (Rw : Nat → Bk) (L T N M : Bk) (H : Heap) (locs : List Loc) (ls : Array Slot), Rel X Rw L N M → va_P D vwCl (wFM cI cZ cQ o a oM aM X Rw L T N M) H → va_D (fun q : Nat => s.heap.size ≤ q) (wFM cI cZ cQ o a oM aM X Rw L T N M) → va_S (fun q : Nat => s.heap.size ≤ q) s.heap H locs → lv_has ls 4 [(0, .ref b), (1, .ref o), (2, .ref oM), (3, .int i)] → W p l e room_1 s m #[Value.ref b] below meth c H locs 43 748 (lw_Z below #[Value.ref b] s) (F0 m 1237 ls [])) : W p l e room_1 s m #[Value.ref b] below meth c H locs 43 748 (lw_Z below #[Value.ref b] s) (F0 m 466 ls []) := by
  obtain ⟨hx, hb, hml, hown, hts⟩ := id CF
  have hA : ∀ q : Nat, s.heap.size ≤ q → (fun q : Nat => s.heap.size ≤ q) q := fun _ h => h
  have hbA : ¬ (fun q : Nat => s.heap.size ≤ q) b := Nat.not_le.mpr hbl
  obtain ⟨k, ox, om, hk, hfx, hfm, hre, hRel2⟩ := sim_season T hRel (xs (i + 1).toNatClampNeg) (xs (i + 2).toNatClampNeg) (xs (i + 3).toNatClampNeg) (xs (i + 4).toNatClampNeg) (xs (i + 5).toNatClampNeg)
  refine lv_aload_n (pc := 466) hx hb dL_law_466 rfl (lv_at hl 1 rfl) ?_
  refine lv_aload_n (pc := 467) hx hb dL_law_467 rfl (lv_at hl 0 rfl) ?_
  refine lv_iload_n (pc := 468) hx hb dL_law_468 rfl (lv_at hl 3 rfl) ?_
  refine lv_iconst (pc := 469) (v := 1) hx hb dL_law_469 (by decide) ?_
  refine lv_iadd (pc := 470) hx hb dL_law_470 ?_
  refine va_sld (pc := 471) hx hb hX hbl hbA hS h1 dL_law_471 ?_
  refine lv_aload_n (pc := 472) hx hb dL_law_472 rfl (lv_at hl 0 rfl) ?_
  refine lv_iload_n (pc := 473) hx hb dL_law_473 rfl (lv_at hl 3 rfl) ?_
  refine lv_iconst (pc := 474) (v := 2) hx hb dL_law_474 (by decide) ?_
  refine lv_iadd (pc := 475) hx hb dL_law_475 ?_
  refine va_sld (pc := 476) hx hb hX hbl hbA hS h2 dL_law_476 ?_
  refine lv_aload_n (pc := 477) hx hb dL_law_477 rfl (lv_at hl 0 rfl) ?_
  refine lv_iload_n (pc := 478) hx hb dL_law_478 rfl (lv_at hl 3 rfl) ?_
  refine lv_iconst (pc := 479) (v := 3) hx hb dL_law_479 (by decide) ?_
  refine lv_iadd (pc := 480) hx hb dL_law_480 ?_
  refine va_sld (pc := 481) hx hb hX hbl hbA hS h3 dL_law_481 ?_
  refine lv_aload_n (pc := 482) hx hb dL_law_482 rfl (lv_at hl 0 rfl) ?_
  refine lv_iload_n (pc := 483) hx hb dL_law_483 rfl (lv_at hl 3 rfl) ?_
  refine lv_iconst (pc := 484) (v := 4) hx hb dL_law_484 (by decide) ?_
  refine lv_iadd (pc := 485) hx hb dL_law_485 ?_
  refine va_sld (pc := 486) hx hb hX hbl hbA hS h4 dL_law_486 ?_
  refine lv_aload_n (pc := 487) hx hb dL_law_487 rfl (lv_at hl 0 rfl) ?_
  refine lv_iload_n (pc := 488) hx hb dL_law_488 rfl (lv_at hl 3 rfl) ?_
  refine lv_iconst (pc := 489) (v := 5) hx hb dL_law_489 (by decide) ?_
  refine lv_iadd (pc := 490) hx hb dL_law_490 ?_
  refine va_sld (pc := 491) hx hb hX hbl hbA hS h5 dL_law_491 ?_
  refine lxWi (pc := 492) (As := [.int (xs (i + 1).toNatClampNeg), .int (xs (i + 2).toNatClampNeg), .int (xs (i + 3).toNatClampNeg), .int (xs (i + 4).toNatClampNeg), .int (xs (i + 5).toNatClampNeg)]) (rest := []) (X' := ox.2.1) (R' := Rw k) (L' := L) (T' := ox.2.2) (N' := N) hk CF (mtX3_season l D cI cZ cQ o (a 0) (fun i => a (10 + i)) k (a (20 + k)) (a 30) (fun j => a (40 + j)) (a 50) (fun j => a (60 + j)) (a 70) (fun j => a (80 + j)) X (Rw k) L T N (xs (i + 1).toNatClampNeg) (xs (i + 2).toNatClampNeg) (xs (i + 3).toNatClampNeg) (xs (i + 4).toNatClampNeg) (xs (i + 5).toNatClampNeg) H.size ox hfx) (cwV 5 hts gL_law_X3_season rfl rfl rfl ⟨rfl, hdX3_season⟩ ⟨Nat.le_of_ble_eq_true rfl, Nat.le_of_ble_eq_true rfl⟩) hK hP hD hS hA rfl hl.1 rfl (Nat.le_of_ble_eq_true rfl) dL_law_492 ⟨Nat.le_of_ble_eq_true rfl, Nat.le_of_ble_eq_true rfl⟩ (fun H locs hP hD hS => ?_)
  rw [up_id] at hP hD
  refine lv_aload_n (pc := 495) hx hb dL_law_495 rfl (lv_at hl 2 rfl) ?_
  refine lv_aload_n (pc := 496) hx hb dL_law_496 rfl (lv_at hl 0 rfl) ?_
  refine lv_iload_n (pc := 497) hx hb dL_law_497 rfl (lv_at hl 3 rfl) ?_
  refine lv_iconst (pc := 498) (v := 1) hx hb dL_law_498 (by decide) ?_
  refine lv_iadd (pc := 499) hx hb dL_law_499 ?_
  refine va_sld (pc := 500) hx hb hX hbl hbA hS h1 dL_law_500 ?_
  refine lv_aload_n (pc := 501) hx hb dL_law_501 rfl (lv_at hl 0 rfl) ?_
  refine lv_iload_n (pc := 502) hx hb dL_law_502 rfl (lv_at hl 3 rfl) ?_
  refine lv_iconst (pc := 503) (v := 2) hx hb dL_law_503 (by decide) ?_
  refine lv_iadd (pc := 504) hx hb dL_law_504 ?_
  refine va_sld (pc := 505) hx hb hX hbl hbA hS h2 dL_law_505 ?_
  refine lv_aload_n (pc := 506) hx hb dL_law_506 rfl (lv_at hl 0 rfl) ?_
  refine lv_iload_n (pc := 507) hx hb dL_law_507 rfl (lv_at hl 3 rfl) ?_
  refine lv_iconst (pc := 508) (v := 3) hx hb dL_law_508 (by decide) ?_
  refine lv_iadd (pc := 509) hx hb dL_law_509 ?_
  refine va_sld (pc := 510) hx hb hX hbl hbA hS h3 dL_law_510 ?_
  refine lv_aload_n (pc := 511) hx hb dL_law_511 rfl (lv_at hl 0 rfl) ?_
  refine lv_iload_n (pc := 512) hx hb dL_law_512 rfl (lv_at hl 3 rfl) ?_
  refine lv_iconst (pc := 513) (v := 4) hx hb dL_law_513 (by decide) ?_
  refine lv_iadd (pc := 514) hx hb dL_law_514 ?_
  refine va_sld (pc := 515) hx hb hX hbl hbA hS h4 dL_law_515 ?_
  refine lv_aload_n (pc := 516) hx hb dL_law_516 rfl (lv_at hl 0 rfl) ?_
  refine lv_iload_n (pc := 517) hx hb dL_law_517 rfl (lv_at hl 3 rfl) ?_
  refine lv_iconst (pc := 518) (v := 5) hx hb dL_law_518 (by decide) ?_
  refine lv_iadd (pc := 519) hx hb dL_law_519 ?_
  refine va_sld (pc := 520) hx hb hX hbl hbA hS h5 dL_law_520 ?_
  refine lmWi (pc := 521) (As := [.int (xs (i + 1).toNatClampNeg), .int (xs (i + 2).toNatClampNeg), .int (xs (i + 3).toNatClampNeg), .int (xs (i + 4).toNatClampNeg), .int (xs (i + 5).toNatClampNeg)]) (rest := [.int ox.1]) (M' := om.2) CF (mtX4_season l D cI cZ cQ oM aM M (xs (i + 1).toNatClampNeg) (xs (i + 2).toNatClampNeg) (xs (i + 3).toNatClampNeg) (xs (i + 4).toNatClampNeg) (xs (i + 5).toNatClampNeg) H.size om hfm) (cwV 5 hts gL_law_X4_season rfl rfl rfl ⟨rfl, hdX4_season⟩ ⟨Nat.le_of_ble_eq_true rfl, Nat.le_of_ble_eq_true rfl⟩) hK hP hD hS hA rfl hl.1 rfl (Nat.le_of_ble_eq_true rfl) dL_law_521 ⟨Nat.le_of_ble_eq_true rfl, Nat.le_of_ble_eq_true rfl⟩ (fun H locs hP hD hS => ?_)
  refine lv_icmp_eq (pc := 524) (tgt := 1237) hx hb dL_law_524 (by decide) (fun _ => ?_) (fun c9 => absurd hre c9)
  exact K _ _ _ _ _ _ _ _ _ hRel2 hP hD hS hl
set_option maxHeartbeats 4000000 in
set_option maxRecDepth 100000 in
theorem lc_9 {p : Program} {l : Launch} {e : Env} {s : State} {m : MethodId} {below : List Frame} {meth : Method} {c : Code} {b len : Nat} {xs : Nat → Int32} {D : va_G} {cI cZ cQ : ClassId} (CF : CallFix p m c code 4 s #[Value.ref b] wsL_law RL) (hr : meth.sig.returnType = ret) (hlocks : meth.locks = false) (hK : EK D cI cZ cQ s) (hX : va_X b len xs s s.heap) (hbl : b < s.heap.size) {o : Nat} {a : Nat → Nat} {oM : Nat} {aM : Nat → Nat} {X : Bk} {Rw : Nat → Bk} {L T N M : Bk} {H : Heap} {locs : List Loc} {ls : Array Slot} {i : Int32} (h1 : vp_in (i + 1) len) (h2 : vp_in (i + 2) len) (h3 : vp_in (i + 3) len) (h4 : vp_in (i + 4) len) (h5 : vp_in (i + 5) len) (hRel : Rel X Rw L N M) (hP : va_P D vwCl (wFM cI cZ cQ o a oM aM X Rw L T N M) H) (hD : va_D (fun q : Nat => s.heap.size ≤ q) (wFM cI cZ cQ o a oM aM X Rw L T N M)) (hS : va_S (fun q : Nat => s.heap.size ≤ q) s.heap H locs) (hl : lv_has ls 4 [(0, .ref b), (1, .ref o), (2, .ref oM), (3, .int i)]) (K : ∀ (X : Bk) (Rw : Nat → Bk) (L T N M : Bk) (H : Heap) (locs : List Loc) (ls : Array Slot), Rel X Rw L N M → va_P D vwCl (wFM cI cZ cQ o a oM aM X Rw L T N M) H → va_D (fun q : Nat => s.heap.size ≤ q) (wFM cI cZ cQ o a oM aM X Rw L T N M) → va_S (fun q : Nat => s.heap.size ≤ q) s.heap H locs → lv_has ls 4 [(0, .ref b), (1, .ref o), (2, .ref oM), (3, .int i)] → W p l e room_1 s m #[Value.ref b] below meth c H locs 43 748 (lw_Z below #[Value.ref b] s) (F0 m 1237 ls [])) : W p l e room_1 s m #[Value.ref b] below meth c H locs 43 748 (lw_Z below #[Value.ref b] s) (F0 m 529 ls []) := by
  obtain ⟨hx, hb, hml, hown, hts⟩ := id CF
  have hA : ∀ q : Nat, s.heap.size ≤ q → (fun q : Nat => s.heap.size ≤ q) q := fun _ h => h
  have hbA : ¬ (fun q : Nat => s.heap.size ≤ q) b := Nat.not_le.mpr hbl
  obtain ⟨k, ox, om, hk, hfx, hfm, hre, hRel2⟩ := sim_widest T hRel (xs (i + 1).toNatClampNeg) (xs (i + 2).toNatClampNeg)
  refine lv_aload_n (pc := 529) hx hb dL_law_529 rfl (lv_at hl 1 rfl) ?_
  refine lv_aload_n (pc := 530) hx hb dL_law_530 rfl (lv_at hl 0 rfl) ?_
  refine lv_iload_n (pc := 531) hx hb dL_law_531 rfl (lv_at hl 3 rfl) ?_
  refine lv_iconst (pc := 532) (v := 1) hx hb dL_law_532 (by decide) ?_
  refine lv_iadd (pc := 533) hx hb dL_law_533 ?_
  refine va_sld (pc := 534) hx hb hX hbl hbA hS h1 dL_law_534 ?_
  refine lv_aload_n (pc := 535) hx hb dL_law_535 rfl (lv_at hl 0 rfl) ?_
  refine lv_iload_n (pc := 536) hx hb dL_law_536 rfl (lv_at hl 3 rfl) ?_
  refine lv_iconst (pc := 537) (v := 2) hx hb dL_law_537 (by decide) ?_
  refine lv_iadd (pc := 538) hx hb dL_law_538 ?_
  refine va_sld (pc := 539) hx hb hX hbl hbA hS h2 dL_law_539 ?_
  refine lxRi (pc := 540) (As := [.int (xs (i + 1).toNatClampNeg), .int (xs (i + 2).toNatClampNeg)]) (rest := []) CF (mtX3_widest l D cI cZ cQ o (a 0) (fun i => a (10 + i)) 0 (a (20 + 0)) (a 30) (fun j => a (40 + j)) (a 50) (fun j => a (60 + j)) (a 70) (fun j => a (80 + j)) X (Rw 0) L T N (xs (i + 1).toNatClampNeg) (xs (i + 2).toNatClampNeg) ox hfx) (cwV 2 hts gL_law_X3_widest rfl rfl rfl ⟨rfl, hdX3_widest⟩ ⟨Nat.le_of_ble_eq_true rfl, Nat.le_of_ble_eq_true rfl⟩) hK hP rfl hl.1 rfl (Nat.le_of_ble_eq_true rfl) dL_law_540 ⟨Nat.le_of_ble_eq_true rfl, Nat.le_of_ble_eq_true rfl⟩ ?_
  refine lv_aload_n (pc := 543) hx hb dL_law_543 rfl (lv_at hl 2 rfl) ?_
  refine lv_aload_n (pc := 544) hx hb dL_law_544 rfl (lv_at hl 0 rfl) ?_
  refine lv_iload_n (pc := 545) hx hb dL_law_545 rfl (lv_at hl 3 rfl) ?_
  refine lv_iconst (pc := 546) (v := 1) hx hb dL_law_546 (by decide) ?_
  refine lv_iadd (pc := 547) hx hb dL_law_547 ?_
  refine va_sld (pc := 548) hx hb hX hbl hbA hS h1 dL_law_548 ?_
  refine lv_aload_n (pc := 549) hx hb dL_law_549 rfl (lv_at hl 0 rfl) ?_
  refine lv_iload_n (pc := 550) hx hb dL_law_550 rfl (lv_at hl 3 rfl) ?_
  refine lv_iconst (pc := 551) (v := 2) hx hb dL_law_551 (by decide) ?_
  refine lv_iadd (pc := 552) hx hb dL_law_552 ?_
  refine va_sld (pc := 553) hx hb hX hbl hbA hS h2 dL_law_553 ?_
  refine lmRi (pc := 554) (As := [.int (xs (i + 1).toNatClampNeg), .int (xs (i + 2).toNatClampNeg)]) (rest := [.int ox]) CF (mtX4_widest l D cI cZ cQ oM aM M (xs (i + 1).toNatClampNeg) (xs (i + 2).toNatClampNeg) om hfm) (cwV 2 hts gL_law_X4_widest rfl rfl rfl ⟨rfl, hdX4_widest⟩ ⟨Nat.le_of_ble_eq_true rfl, Nat.le_of_ble_eq_true rfl⟩) hK hP rfl hl.1 rfl (Nat.le_of_ble_eq_true rfl) dL_law_554 ⟨Nat.le_of_ble_eq_true rfl, Nat.le_of_ble_eq_true rfl⟩ ?_
  refine lv_icmp_eq (pc := 557) (tgt := 1237) hx hb dL_law_557 (by decide) (fun _ => ?_) (fun c9 => absurd hre c9)
  exact K _ _ _ _ _ _ _ _ _ hRel2 hP hD hS hl
set_option maxHeartbeats 4000000 in
set_option maxRecDepth 100000 in
theorem lc_10 {p : Program} {l : Launch} {e : Env} {s : State} {m : MethodId} {below : List Frame} {meth : Method} {c : Code} {b len : Nat} {xs : Nat → Int32} {D : va_G} {cI cZ cQ : ClassId} (CF : CallFix p m c code 4 s #[Value.ref b] wsL_law RL) (hr : meth.sig.returnType = ret) (hlocks : meth.locks = false) (hK : EK D cI cZ cQ s) (hX : va_X b len xs s s.heap) (hbl : b < s.heap.size) {o : Nat} {a : Nat → Nat} {oM : Nat} {aM : Nat → Nat} {X : Bk} {Rw : Nat → Bk} {L T N M : Bk} {H : Heap} {locs : List Loc} {ls : Array Slot} {i : Int32} (h1 : vp_in (i + 1) len) (h2 : vp_in (i + 2) len) (h3 : vp_in (i + 3) len) (h4 : vp_in (i + 4) len) (h5 : vp_in (i + 5) len) (hRel : Rel X Rw L N M) (hP : va_P D vwCl (wFM cI cZ cQ o a oM aM X Rw L T N M) H) (hD : va_D (fun q : Nat => s.heap.size ≤ q) (wFM cI cZ cQ o a oM aM X Rw L T N M)) (hS : va_S (fun q : Nat => s.heap.size ≤ q) s.heap H locs) (hl : lv_has ls 4 [(0, .ref b), (1, .ref o), (2, .ref oM), (3, .int i)]) (K : ∀ (X : Bk) (Rw : Nat → Bk) (L T N M : Bk) (H : Heap) (locs : List Loc) (ls : Array Slot), Rel X Rw L N M → va_P D vwCl (wFM cI cZ cQ o a oM aM X Rw L T N M) H → va_D (fun q : Nat => s.heap.size ≤ q) (wFM cI cZ cQ o a oM aM X Rw L T N M) → va_S (fun q : Nat => s.heap.size ≤ q) s.heap H locs → lv_has ls 4 [(0, .ref b), (1, .ref o), (2, .ref oM), (3, .int i)] → W p l e room_1 s m #[Value.ref b] below meth c H locs 43 748 (lw_Z below #[Value.ref b] s) (F0 m 1237 ls [])) : W p l e room_1 s m #[Value.ref b] below meth c H locs 43 748 (lw_Z below #[Value.ref b] s) (F0 m 562 ls []) := by
  obtain ⟨hx, hb, hml, hown, hts⟩ := id CF
  have hA : ∀ q : Nat, s.heap.size ≤ q → (fun q : Nat => s.heap.size ≤ q) q := fun _ h => h
  have hbA : ¬ (fun q : Nat => s.heap.size ≤ q) b := Nat.not_le.mpr hbl
  obtain ⟨k, ox, om, hk, hfx, hfm, hre, hRel2⟩ := sim_way T hRel (xs (i + 1).toNatClampNeg) (xs (i + 2).toNatClampNeg) (xs (i + 3).toNatClampNeg)
  refine lv_aload_n (pc := 562) hx hb dL_law_562 rfl (lv_at hl 1 rfl) ?_
  refine lv_aload_n (pc := 563) hx hb dL_law_563 rfl (lv_at hl 0 rfl) ?_
  refine lv_iload_n (pc := 564) hx hb dL_law_564 rfl (lv_at hl 3 rfl) ?_
  refine lv_iconst (pc := 565) (v := 1) hx hb dL_law_565 (by decide) ?_
  refine lv_iadd (pc := 566) hx hb dL_law_566 ?_
  refine va_sld (pc := 567) hx hb hX hbl hbA hS h1 dL_law_567 ?_
  refine lv_aload_n (pc := 568) hx hb dL_law_568 rfl (lv_at hl 0 rfl) ?_
  refine lv_iload_n (pc := 569) hx hb dL_law_569 rfl (lv_at hl 3 rfl) ?_
  refine lv_iconst (pc := 570) (v := 2) hx hb dL_law_570 (by decide) ?_
  refine lv_iadd (pc := 571) hx hb dL_law_571 ?_
  refine va_sld (pc := 572) hx hb hX hbl hbA hS h2 dL_law_572 ?_
  refine lv_aload_n (pc := 573) hx hb dL_law_573 rfl (lv_at hl 0 rfl) ?_
  refine lv_iload_n (pc := 574) hx hb dL_law_574 rfl (lv_at hl 3 rfl) ?_
  refine lv_iconst (pc := 575) (v := 3) hx hb dL_law_575 (by decide) ?_
  refine lv_iadd (pc := 576) hx hb dL_law_576 ?_
  refine va_sld (pc := 577) hx hb hX hbl hbA hS h3 dL_law_577 ?_
  refine lxWi (pc := 578) (As := [.int (xs (i + 1).toNatClampNeg), .int (xs (i + 2).toNatClampNeg), .int (xs (i + 3).toNatClampNeg)]) (rest := []) (X' := X) (R' := Rw k) (L' := ox.2) (T' := T) (N' := N) hk CF (mtX3_way l D cI cZ cQ o (a 0) (fun i => a (10 + i)) k (a (20 + k)) (a 30) (fun j => a (40 + j)) (a 50) (fun j => a (60 + j)) (a 70) (fun j => a (80 + j)) X (Rw k) L T N (xs (i + 1).toNatClampNeg) (xs (i + 2).toNatClampNeg) (xs (i + 3).toNatClampNeg) H.size ox hfx) (cwV 3 hts gL_law_X3_way rfl rfl rfl ⟨rfl, hdX3_way⟩ ⟨Nat.le_of_ble_eq_true rfl, Nat.le_of_ble_eq_true rfl⟩) hK hP hD hS hA rfl hl.1 rfl (Nat.le_of_ble_eq_true rfl) dL_law_578 ⟨Nat.le_of_ble_eq_true rfl, Nat.le_of_ble_eq_true rfl⟩ (fun H locs hP hD hS => ?_)
  rw [up_id] at hP hD
  refine lv_aload_n (pc := 581) hx hb dL_law_581 rfl (lv_at hl 2 rfl) ?_
  refine lv_aload_n (pc := 582) hx hb dL_law_582 rfl (lv_at hl 0 rfl) ?_
  refine lv_iload_n (pc := 583) hx hb dL_law_583 rfl (lv_at hl 3 rfl) ?_
  refine lv_iconst (pc := 584) (v := 1) hx hb dL_law_584 (by decide) ?_
  refine lv_iadd (pc := 585) hx hb dL_law_585 ?_
  refine va_sld (pc := 586) hx hb hX hbl hbA hS h1 dL_law_586 ?_
  refine lv_aload_n (pc := 587) hx hb dL_law_587 rfl (lv_at hl 0 rfl) ?_
  refine lv_iload_n (pc := 588) hx hb dL_law_588 rfl (lv_at hl 3 rfl) ?_
  refine lv_iconst (pc := 589) (v := 2) hx hb dL_law_589 (by decide) ?_
  refine lv_iadd (pc := 590) hx hb dL_law_590 ?_
  refine va_sld (pc := 591) hx hb hX hbl hbA hS h2 dL_law_591 ?_
  refine lv_aload_n (pc := 592) hx hb dL_law_592 rfl (lv_at hl 0 rfl) ?_
  refine lv_iload_n (pc := 593) hx hb dL_law_593 rfl (lv_at hl 3 rfl) ?_
  refine lv_iconst (pc := 594) (v := 3) hx hb dL_law_594 (by decide) ?_
  refine lv_iadd (pc := 595) hx hb dL_law_595 ?_
  refine va_sld (pc := 596) hx hb hX hbl hbA hS h3 dL_law_596 ?_
  refine lmWi (pc := 597) (As := [.int (xs (i + 1).toNatClampNeg), .int (xs (i + 2).toNatClampNeg), .int (xs (i + 3).toNatClampNeg)]) (rest := [.int ox.1]) (M' := om.2) CF (mtX4_way l D cI cZ cQ oM aM M (xs (i + 1).toNatClampNeg) (xs (i + 2).toNatClampNeg) (xs (i + 3).toNatClampNeg) H.size om hfm) (cwV 3 hts gL_law_X4_way rfl rfl rfl ⟨rfl, hdX4_way⟩ ⟨Nat.le_of_ble_eq_true rfl, Nat.le_of_ble_eq_true rfl⟩) hK hP hD hS hA rfl hl.1 rfl (Nat.le_of_ble_eq_true rfl) dL_law_597 ⟨Nat.le_of_ble_eq_true rfl, Nat.le_of_ble_eq_true rfl⟩ (fun H locs hP hD hS => ?_)
  refine lv_icmp_eq (pc := 600) (tgt := 1237) hx hb dL_law_600 (by decide) (fun _ => ?_) (fun c9 => absurd hre c9)
  exact K _ _ _ _ _ _ _ _ _ hRel2 hP hD hS hl
set_option maxHeartbeats 4000000 in
set_option maxRecDepth 100000 in
theorem lc_11 {p : Program} {l : Launch} {e : Env} {s : State} {m : MethodId} {below : List Frame} {meth : Method} {c : Code} {b len : Nat} {xs : Nat → Int32} {D : va_G} {cI cZ cQ : ClassId} (CF : CallFix p m c code 4 s #[Value.ref b] wsL_law RL) (hr : meth.sig.returnType = ret) (hlocks : meth.locks = false) (hK : EK D cI cZ cQ s) (hX : va_X b len xs s s.heap) (hbl : b < s.heap.size) {o : Nat} {a : Nat → Nat} {oM : Nat} {aM : Nat → Nat} {X : Bk} {Rw : Nat → Bk} {L T N M : Bk} {H : Heap} {locs : List Loc} {ls : Array Slot} {i : Int32} (h1 : vp_in (i + 1) len) (h2 : vp_in (i + 2) len) (h3 : vp_in (i + 3) len) (h4 : vp_in (i + 4) len) (h5 : vp_in (i + 5) len) (hRel : Rel X Rw L N M) (hP : va_P D vwCl (wFM cI cZ cQ o a oM aM X Rw L T N M) H) (hD : va_D (fun q : Nat => s.heap.size ≤ q) (wFM cI cZ cQ o a oM aM X Rw L T N M)) (hS : va_S (fun q : Nat => s.heap.size ≤ q) s.heap H locs) (hl : lv_has ls 4 [(0, .ref b), (1, .ref o), (2, .ref oM), (3, .int i)]) (K : ∀ (X : Bk) (Rw : Nat → Bk) (L T N M : Bk) (H : Heap) (locs : List Loc) (ls : Array Slot), Rel X Rw L N M → va_P D vwCl (wFM cI cZ cQ o a oM aM X Rw L T N M) H → va_D (fun q : Nat => s.heap.size ≤ q) (wFM cI cZ cQ o a oM aM X Rw L T N M) → va_S (fun q : Nat => s.heap.size ≤ q) s.heap H locs → lv_has ls 4 [(0, .ref b), (1, .ref o), (2, .ref oM), (3, .int i)] → W p l e room_1 s m #[Value.ref b] below meth c H locs 43 748 (lw_Z below #[Value.ref b] s) (F0 m 1237 ls [])) : W p l e room_1 s m #[Value.ref b] below meth c H locs 43 748 (lw_Z below #[Value.ref b] s) (F0 m 605 ls []) := by
  obtain ⟨hx, hb, hml, hown, hts⟩ := id CF
  have hA : ∀ q : Nat, s.heap.size ≤ q → (fun q : Nat => s.heap.size ≤ q) q := fun _ h => h
  have hbA : ¬ (fun q : Nat => s.heap.size ≤ q) b := Nat.not_le.mpr hbl
  obtain ⟨k, ox, om, hk, hfx, hfm, hre, hRel2⟩ := sim_market T hRel (xs (i + 1).toNatClampNeg)
  refine lv_aload_n (pc := 605) hx hb dL_law_605 rfl (lv_at hl 1 rfl) ?_
  refine lv_aload_n (pc := 606) hx hb dL_law_606 rfl (lv_at hl 0 rfl) ?_
  refine lv_iload_n (pc := 607) hx hb dL_law_607 rfl (lv_at hl 3 rfl) ?_
  refine lv_iconst (pc := 608) (v := 1) hx hb dL_law_608 (by decide) ?_
  refine lv_iadd (pc := 609) hx hb dL_law_609 ?_
  refine va_sld (pc := 610) hx hb hX hbl hbA hS h1 dL_law_610 ?_
  refine lxRi (pc := 611) (As := [.int (xs (i + 1).toNatClampNeg)]) (rest := []) CF (mtX3_market l D cI cZ cQ o (a 0) (fun i => a (10 + i)) 0 (a (20 + 0)) (a 30) (fun j => a (40 + j)) (a 50) (fun j => a (60 + j)) (a 70) (fun j => a (80 + j)) X (Rw 0) L T N (xs (i + 1).toNatClampNeg) ox hfx) (cwV 1 hts gL_law_X3_market rfl rfl rfl ⟨rfl, hdX3_market⟩ ⟨Nat.le_of_ble_eq_true rfl, Nat.le_of_ble_eq_true rfl⟩) hK hP rfl hl.1 rfl (Nat.le_of_ble_eq_true rfl) dL_law_611 ⟨Nat.le_of_ble_eq_true rfl, Nat.le_of_ble_eq_true rfl⟩ ?_
  refine lv_aload_n (pc := 614) hx hb dL_law_614 rfl (lv_at hl 2 rfl) ?_
  refine lv_aload_n (pc := 615) hx hb dL_law_615 rfl (lv_at hl 0 rfl) ?_
  refine lv_iload_n (pc := 616) hx hb dL_law_616 rfl (lv_at hl 3 rfl) ?_
  refine lv_iconst (pc := 617) (v := 1) hx hb dL_law_617 (by decide) ?_
  refine lv_iadd (pc := 618) hx hb dL_law_618 ?_
  refine va_sld (pc := 619) hx hb hX hbl hbA hS h1 dL_law_619 ?_
  refine lmRi (pc := 620) (As := [.int (xs (i + 1).toNatClampNeg)]) (rest := [.int ox]) CF (mtX4_market l D cI cZ cQ oM aM M (xs (i + 1).toNatClampNeg) om hfm) (cwV 1 hts gL_law_X4_market rfl rfl rfl ⟨rfl, hdX4_market⟩ ⟨Nat.le_of_ble_eq_true rfl, Nat.le_of_ble_eq_true rfl⟩) hK hP rfl hl.1 rfl (Nat.le_of_ble_eq_true rfl) dL_law_620 ⟨Nat.le_of_ble_eq_true rfl, Nat.le_of_ble_eq_true rfl⟩ ?_
  refine lv_icmp_eq (pc := 623) (tgt := 1237) hx hb dL_law_623 (by decide) (fun _ => ?_) (fun c9 => absurd hre c9)
  exact K _ _ _ _ _ _ _ _ _ hRel2 hP hD hS hl
set_option maxHeartbeats 4000000 in
set_option maxRecDepth 100000 in
theorem lc_12 {p : Program} {l : Launch} {e : Env} {s : State} {m : MethodId} {below : List Frame} {meth : Method} {c : Code} {b len : Nat} {xs : Nat → Int32} {D : va_G} {cI cZ cQ : ClassId} (CF : CallFix p m c code 4 s #[Value.ref b] wsL_law RL) (hr : meth.sig.returnType = ret) (hlocks : meth.locks = false) (hK : EK D cI cZ cQ s) (hX : va_X b len xs s s.heap) (hbl : b < s.heap.size) {o : Nat} {a : Nat → Nat} {oM : Nat} {aM : Nat → Nat} {X : Bk} {Rw : Nat → Bk} {L T N M : Bk} {H : Heap} {locs : List Loc} {ls : Array Slot} {i : Int32} (h1 : vp_in (i + 1) len) (h2 : vp_in (i + 2) len) (h3 : vp_in (i + 3) len) (h4 : vp_in (i + 4) len) (h5 : vp_in (i + 5) len) (hRel : Rel X Rw L N M) (hP : va_P D vwCl (wFM cI cZ cQ o a oM aM X Rw L T N M) H) (hD : va_D (fun q : Nat => s.heap.size ≤ q) (wFM cI cZ cQ o a oM aM X Rw L T N M)) (hS : va_S (fun q : Nat => s.heap.size ≤ q) s.heap H locs) (hl : lv_has ls 4 [(0, .ref b), (1, .ref o), (2, .ref oM), (3, .int i)]) (K : ∀ (X : Bk) (Rw : Nat → Bk) (L T N M : Bk) (H : Heap) (locs : List Loc) (ls : Array Slot), Rel X Rw L N M → va_P D vwCl (wFM cI cZ cQ o a oM aM X Rw L T N M) H → va_D (fun q : Nat => s.heap.size ≤ q) (wFM cI cZ cQ o a oM aM X Rw L T N M) → va_S (fun q : Nat => s.heap.size ≤ q) s.heap H locs → lv_has ls 4 [(0, .ref b), (1, .ref o), (2, .ref oM), (3, .int i)] → W p l e room_1 s m #[Value.ref b] below meth c H locs 43 748 (lw_Z below #[Value.ref b] s) (F0 m 1237 ls [])) : W p l e room_1 s m #[Value.ref b] below meth c H locs 43 748 (lw_Z below #[Value.ref b] s) (F0 m 628 ls []) := by
  obtain ⟨hx, hb, hml, hown, hts⟩ := id CF
  have hA : ∀ q : Nat, s.heap.size ≤ q → (fun q : Nat => s.heap.size ≤ q) q := fun _ h => h
  have hbA : ¬ (fun q : Nat => s.heap.size ≤ q) b := Nat.not_le.mpr hbl
  obtain ⟨k, ox, om, hk, hfx, hfm, hre, hRel2⟩ := sim_widen T hRel (xs (i + 1).toNatClampNeg) (xs (i + 2).toNatClampNeg)
  refine lv_aload_n (pc := 628) hx hb dL_law_628 rfl (lv_at hl 1 rfl) ?_
  refine lv_aload_n (pc := 629) hx hb dL_law_629 rfl (lv_at hl 0 rfl) ?_
  refine lv_iload_n (pc := 630) hx hb dL_law_630 rfl (lv_at hl 3 rfl) ?_
  refine lv_iconst (pc := 631) (v := 1) hx hb dL_law_631 (by decide) ?_
  refine lv_iadd (pc := 632) hx hb dL_law_632 ?_
  refine va_sld (pc := 633) hx hb hX hbl hbA hS h1 dL_law_633 ?_
  refine lv_aload_n (pc := 634) hx hb dL_law_634 rfl (lv_at hl 0 rfl) ?_
  refine lv_iload_n (pc := 635) hx hb dL_law_635 rfl (lv_at hl 3 rfl) ?_
  refine lv_iconst (pc := 636) (v := 2) hx hb dL_law_636 (by decide) ?_
  refine lv_iadd (pc := 637) hx hb dL_law_637 ?_
  refine va_sld (pc := 638) hx hb hX hbl hbA hS h2 dL_law_638 ?_
  refine lxWi (pc := 639) (As := [.int (xs (i + 1).toNatClampNeg), .int (xs (i + 2).toNatClampNeg)]) (rest := []) (X' := X) (R' := Rw k) (L' := ox.2) (T' := T) (N' := N) hk CF (mtX3_widen l D cI cZ cQ o (a 0) (fun i => a (10 + i)) k (a (20 + k)) (a 30) (fun j => a (40 + j)) (a 50) (fun j => a (60 + j)) (a 70) (fun j => a (80 + j)) X (Rw k) L T N (xs (i + 1).toNatClampNeg) (xs (i + 2).toNatClampNeg) H.size ox hfx) (cwV 2 hts gL_law_X3_widen rfl rfl rfl ⟨rfl, hdX3_widen⟩ ⟨Nat.le_of_ble_eq_true rfl, Nat.le_of_ble_eq_true rfl⟩) hK hP hD hS hA rfl hl.1 rfl (Nat.le_of_ble_eq_true rfl) dL_law_639 ⟨Nat.le_of_ble_eq_true rfl, Nat.le_of_ble_eq_true rfl⟩ (fun H locs hP hD hS => ?_)
  rw [up_id] at hP hD
  refine lv_aload_n (pc := 642) hx hb dL_law_642 rfl (lv_at hl 2 rfl) ?_
  refine lv_aload_n (pc := 643) hx hb dL_law_643 rfl (lv_at hl 0 rfl) ?_
  refine lv_iload_n (pc := 644) hx hb dL_law_644 rfl (lv_at hl 3 rfl) ?_
  refine lv_iconst (pc := 645) (v := 1) hx hb dL_law_645 (by decide) ?_
  refine lv_iadd (pc := 646) hx hb dL_law_646 ?_
  refine va_sld (pc := 647) hx hb hX hbl hbA hS h1 dL_law_647 ?_
  refine lv_aload_n (pc := 648) hx hb dL_law_648 rfl (lv_at hl 0 rfl) ?_
  refine lv_iload_n (pc := 649) hx hb dL_law_649 rfl (lv_at hl 3 rfl) ?_
  refine lv_iconst (pc := 650) (v := 2) hx hb dL_law_650 (by decide) ?_
  refine lv_iadd (pc := 651) hx hb dL_law_651 ?_
  refine va_sld (pc := 652) hx hb hX hbl hbA hS h2 dL_law_652 ?_
  refine lmWi (pc := 653) (As := [.int (xs (i + 1).toNatClampNeg), .int (xs (i + 2).toNatClampNeg)]) (rest := [.int ox.1]) (M' := om.2) CF (mtX4_widen l D cI cZ cQ oM aM M (xs (i + 1).toNatClampNeg) (xs (i + 2).toNatClampNeg) H.size om hfm) (cwV 2 hts gL_law_X4_widen rfl rfl rfl ⟨rfl, hdX4_widen⟩ ⟨Nat.le_of_ble_eq_true rfl, Nat.le_of_ble_eq_true rfl⟩) hK hP hD hS hA rfl hl.1 rfl (Nat.le_of_ble_eq_true rfl) dL_law_653 ⟨Nat.le_of_ble_eq_true rfl, Nat.le_of_ble_eq_true rfl⟩ (fun H locs hP hD hS => ?_)
  refine lv_icmp_eq (pc := 656) (tgt := 1237) hx hb dL_law_656 (by decide) (fun _ => ?_) (fun c9 => absurd hre c9)
  exact K _ _ _ _ _ _ _ _ _ hRel2 hP hD hS hl
set_option maxHeartbeats 4000000 in
set_option maxRecDepth 100000 in
theorem lc_13 {p : Program} {l : Launch} {e : Env} {s : State} {m : MethodId} {below : List Frame} {meth : Method} {c : Code} {b len : Nat} {xs : Nat → Int32} {D : va_G} {cI cZ cQ : ClassId} (CF : CallFix p m c code 4 s #[Value.ref b] wsL_law RL) (hr : meth.sig.returnType = ret) (hlocks : meth.locks = false) (hK : EK D cI cZ cQ s) (hX : va_X b len xs s s.heap) (hbl : b < s.heap.size) {o : Nat} {a : Nat → Nat} {oM : Nat} {aM : Nat → Nat} {X : Bk} {Rw : Nat → Bk} {L T N M : Bk} {H : Heap} {locs : List Loc} {ls : Array Slot} {i : Int32} (h1 : vp_in (i + 1) len) (h2 : vp_in (i + 2) len) (h3 : vp_in (i + 3) len) (h4 : vp_in (i + 4) len) (h5 : vp_in (i + 5) len) (hRel : Rel X Rw L N M) (hP : va_P D vwCl (wFM cI cZ cQ o a oM aM X Rw L T N M) H) (hD : va_D (fun q : Nat => s.heap.size ≤ q) (wFM cI cZ cQ o a oM aM X Rw L T N M)) (hS : va_S (fun q : Nat => s.heap.size ≤ q) s.heap H locs) (hl : lv_has ls 4 [(0, .ref b), (1, .ref o), (2, .ref oM), (3, .int i)]) (K : ∀ (X : Bk) (Rw : Nat → Bk) (L T N M : Bk) (H : Heap) (locs : List Loc) (ls : Array Slot), Rel X Rw L N M → va_P D vwCl (wFM cI cZ cQ o a oM aM X Rw L T N M) H → va_D (fun q : Nat => s.heap.size ≤ q) (wFM cI cZ cQ o a oM aM X Rw L T N M) → va_S (fun q : Nat => s.heap.size ≤ q) s.heap H locs → lv_has ls 4 [(0, .ref b), (1, .ref o), (2, .ref oM), (3, .int i)] → W p l e room_1 s m #[Value.ref b] below meth c H locs 43 748 (lw_Z below #[Value.ref b] s) (F0 m 1237 ls [])) : W p l e room_1 s m #[Value.ref b] below meth c H locs 43 748 (lw_Z below #[Value.ref b] s) (F0 m 661 ls []) := by
  obtain ⟨hx, hb, hml, hown, hts⟩ := id CF
  have hA : ∀ q : Nat, s.heap.size ≤ q → (fun q : Nat => s.heap.size ≤ q) q := fun _ h => h
  have hbA : ¬ (fun q : Nat => s.heap.size ≤ q) b := Nat.not_le.mpr hbl
  obtain ⟨k, ox, om, hk, hfx, hfm, hre, hRel2⟩ := sim_keep T hRel (xs (i + 1).toNatClampNeg) (xs (i + 2).toNatClampNeg)
  refine lv_aload_n (pc := 661) hx hb dL_law_661 rfl (lv_at hl 1 rfl) ?_
  refine lv_aload_n (pc := 662) hx hb dL_law_662 rfl (lv_at hl 0 rfl) ?_
  refine lv_iload_n (pc := 663) hx hb dL_law_663 rfl (lv_at hl 3 rfl) ?_
  refine lv_iconst (pc := 664) (v := 1) hx hb dL_law_664 (by decide) ?_
  refine lv_iadd (pc := 665) hx hb dL_law_665 ?_
  refine va_sld (pc := 666) hx hb hX hbl hbA hS h1 dL_law_666 ?_
  refine lv_aload_n (pc := 667) hx hb dL_law_667 rfl (lv_at hl 0 rfl) ?_
  refine lv_iload_n (pc := 668) hx hb dL_law_668 rfl (lv_at hl 3 rfl) ?_
  refine lv_iconst (pc := 669) (v := 2) hx hb dL_law_669 (by decide) ?_
  refine lv_iadd (pc := 670) hx hb dL_law_670 ?_
  refine va_sld (pc := 671) hx hb hX hbl hbA hS h2 dL_law_671 ?_
  refine lxRi (pc := 672) (As := [.int (xs (i + 1).toNatClampNeg), .int (xs (i + 2).toNatClampNeg)]) (rest := []) CF (mtX3_keep l D cI cZ cQ o (a 0) (fun i => a (10 + i)) 0 (a (20 + 0)) (a 30) (fun j => a (40 + j)) (a 50) (fun j => a (60 + j)) (a 70) (fun j => a (80 + j)) X (Rw 0) L T N (xs (i + 1).toNatClampNeg) (xs (i + 2).toNatClampNeg) ox hfx) (cwV 2 hts gL_law_X3_keep rfl rfl rfl ⟨rfl, hdX3_keep⟩ ⟨Nat.le_of_ble_eq_true rfl, Nat.le_of_ble_eq_true rfl⟩) hK hP rfl hl.1 rfl (Nat.le_of_ble_eq_true rfl) dL_law_672 ⟨Nat.le_of_ble_eq_true rfl, Nat.le_of_ble_eq_true rfl⟩ ?_
  refine lv_aload_n (pc := 675) hx hb dL_law_675 rfl (lv_at hl 2 rfl) ?_
  refine lv_aload_n (pc := 676) hx hb dL_law_676 rfl (lv_at hl 0 rfl) ?_
  refine lv_iload_n (pc := 677) hx hb dL_law_677 rfl (lv_at hl 3 rfl) ?_
  refine lv_iconst (pc := 678) (v := 1) hx hb dL_law_678 (by decide) ?_
  refine lv_iadd (pc := 679) hx hb dL_law_679 ?_
  refine va_sld (pc := 680) hx hb hX hbl hbA hS h1 dL_law_680 ?_
  refine lv_aload_n (pc := 681) hx hb dL_law_681 rfl (lv_at hl 0 rfl) ?_
  refine lv_iload_n (pc := 682) hx hb dL_law_682 rfl (lv_at hl 3 rfl) ?_
  refine lv_iconst (pc := 683) (v := 2) hx hb dL_law_683 (by decide) ?_
  refine lv_iadd (pc := 684) hx hb dL_law_684 ?_
  refine va_sld (pc := 685) hx hb hX hbl hbA hS h2 dL_law_685 ?_
  refine lmRi (pc := 686) (As := [.int (xs (i + 1).toNatClampNeg), .int (xs (i + 2).toNatClampNeg)]) (rest := [.int ox]) CF (mtX4_keep l D cI cZ cQ oM aM M (xs (i + 1).toNatClampNeg) (xs (i + 2).toNatClampNeg) om hfm) (cwV 2 hts gL_law_X4_keep rfl rfl rfl ⟨rfl, hdX4_keep⟩ ⟨Nat.le_of_ble_eq_true rfl, Nat.le_of_ble_eq_true rfl⟩) hK hP rfl hl.1 rfl (Nat.le_of_ble_eq_true rfl) dL_law_686 ⟨Nat.le_of_ble_eq_true rfl, Nat.le_of_ble_eq_true rfl⟩ ?_
  refine lv_icmp_eq (pc := 689) (tgt := 1237) hx hb dL_law_689 (by decide) (fun _ => ?_) (fun c9 => absurd hre c9)
  exact K _ _ _ _ _ _ _ _ _ hRel2 hP hD hS hl
set_option maxHeartbeats 4000000 in
set_option maxRecDepth 100000 in
theorem lc_14 {p : Program} {l : Launch} {e : Env} {s : State} {m : MethodId} {below : List Frame} {meth : Method} {c : Code} {b len : Nat} {xs : Nat → Int32} {D : va_G} {cI cZ cQ : ClassId} (CF : CallFix p m c code 4 s #[Value.ref b] wsL_law RL) (hr : meth.sig.returnType = ret) (hlocks : meth.locks = false) (hK : EK D cI cZ cQ s) (hX : va_X b len xs s s.heap) (hbl : b < s.heap.size) {o : Nat} {a : Nat → Nat} {oM : Nat} {aM : Nat → Nat} {X : Bk} {Rw : Nat → Bk} {L T N M : Bk} {H : Heap} {locs : List Loc} {ls : Array Slot} {i : Int32} (h1 : vp_in (i + 1) len) (h2 : vp_in (i + 2) len) (h3 : vp_in (i + 3) len) (h4 : vp_in (i + 4) len) (h5 : vp_in (i + 5) len) (hRel : Rel X Rw L N M) (hP : va_P D vwCl (wFM cI cZ cQ o a oM aM X Rw L T N M) H) (hD : va_D (fun q : Nat => s.heap.size ≤ q) (wFM cI cZ cQ o a oM aM X Rw L T N M)) (hS : va_S (fun q : Nat => s.heap.size ≤ q) s.heap H locs) (hl : lv_has ls 4 [(0, .ref b), (1, .ref o), (2, .ref oM), (3, .int i)]) (K : ∀ (X : Bk) (Rw : Nat → Bk) (L T N M : Bk) (H : Heap) (locs : List Loc) (ls : Array Slot), Rel X Rw L N M → va_P D vwCl (wFM cI cZ cQ o a oM aM X Rw L T N M) H → va_D (fun q : Nat => s.heap.size ≤ q) (wFM cI cZ cQ o a oM aM X Rw L T N M) → va_S (fun q : Nat => s.heap.size ≤ q) s.heap H locs → lv_has ls 4 [(0, .ref b), (1, .ref o), (2, .ref oM), (3, .int i)] → W p l e room_1 s m #[Value.ref b] below meth c H locs 43 748 (lw_Z below #[Value.ref b] s) (F0 m 1237 ls [])) : W p l e room_1 s m #[Value.ref b] below meth c H locs 43 748 (lw_Z below #[Value.ref b] s) (F0 m 694 ls []) := by
  obtain ⟨hx, hb, hml, hown, hts⟩ := id CF
  have hA : ∀ q : Nat, s.heap.size ≤ q → (fun q : Nat => s.heap.size ≤ q) q := fun _ h => h
  have hbA : ¬ (fun q : Nat => s.heap.size ≤ q) b := Nat.not_le.mpr hbl
  obtain ⟨k, ox, om, hk, hfx, hfm, hre, hRel2⟩ := sim_reading T hRel (xs (i + 1).toNatClampNeg) (xs (i + 2).toNatClampNeg) (xs (i + 3).toNatClampNeg) (xs (i + 4).toNatClampNeg)
  refine lv_aload_n (pc := 694) hx hb dL_law_694 rfl (lv_at hl 1 rfl) ?_
  refine lv_aload_n (pc := 695) hx hb dL_law_695 rfl (lv_at hl 0 rfl) ?_
  refine lv_iload_n (pc := 696) hx hb dL_law_696 rfl (lv_at hl 3 rfl) ?_
  refine lv_iconst (pc := 697) (v := 1) hx hb dL_law_697 (by decide) ?_
  refine lv_iadd (pc := 698) hx hb dL_law_698 ?_
  refine va_sld (pc := 699) hx hb hX hbl hbA hS h1 dL_law_699 ?_
  refine lv_aload_n (pc := 700) hx hb dL_law_700 rfl (lv_at hl 0 rfl) ?_
  refine lv_iload_n (pc := 701) hx hb dL_law_701 rfl (lv_at hl 3 rfl) ?_
  refine lv_iconst (pc := 702) (v := 2) hx hb dL_law_702 (by decide) ?_
  refine lv_iadd (pc := 703) hx hb dL_law_703 ?_
  refine va_sld (pc := 704) hx hb hX hbl hbA hS h2 dL_law_704 ?_
  refine lv_aload_n (pc := 705) hx hb dL_law_705 rfl (lv_at hl 0 rfl) ?_
  refine lv_iload_n (pc := 706) hx hb dL_law_706 rfl (lv_at hl 3 rfl) ?_
  refine lv_iconst (pc := 707) (v := 3) hx hb dL_law_707 (by decide) ?_
  refine lv_iadd (pc := 708) hx hb dL_law_708 ?_
  refine va_sld (pc := 709) hx hb hX hbl hbA hS h3 dL_law_709 ?_
  refine lv_aload_n (pc := 710) hx hb dL_law_710 rfl (lv_at hl 0 rfl) ?_
  refine lv_iload_n (pc := 711) hx hb dL_law_711 rfl (lv_at hl 3 rfl) ?_
  refine lv_iconst (pc := 712) (v := 4) hx hb dL_law_712 (by decide) ?_
  refine lv_iadd (pc := 713) hx hb dL_law_713 ?_
  refine va_sld (pc := 714) hx hb hX hbl hbA hS h4 dL_law_714 ?_
  refine lxWi (pc := 715) (As := [.int (xs (i + 1).toNatClampNeg), .int (xs (i + 2).toNatClampNeg), .int (xs (i + 3).toNatClampNeg), .int (xs (i + 4).toNatClampNeg)]) (rest := []) (X' := X) (R' := Rw k) (L' := L) (T' := T) (N' := ox.2) hk CF (mtX3_reading l D cI cZ cQ o (a 0) (fun i => a (10 + i)) k (a (20 + k)) (a 30) (fun j => a (40 + j)) (a 50) (fun j => a (60 + j)) (a 70) (fun j => a (80 + j)) X (Rw k) L T N (xs (i + 1).toNatClampNeg) (xs (i + 2).toNatClampNeg) (xs (i + 3).toNatClampNeg) (xs (i + 4).toNatClampNeg) H.size ox hfx) (cwV 4 hts gL_law_X3_reading rfl rfl rfl ⟨rfl, hdX3_reading⟩ ⟨Nat.le_of_ble_eq_true rfl, Nat.le_of_ble_eq_true rfl⟩) hK hP hD hS hA rfl hl.1 rfl (Nat.le_of_ble_eq_true rfl) dL_law_715 ⟨Nat.le_of_ble_eq_true rfl, Nat.le_of_ble_eq_true rfl⟩ (fun H locs hP hD hS => ?_)
  rw [up_id] at hP hD
  refine lv_aload_n (pc := 718) hx hb dL_law_718 rfl (lv_at hl 2 rfl) ?_
  refine lv_aload_n (pc := 719) hx hb dL_law_719 rfl (lv_at hl 0 rfl) ?_
  refine lv_iload_n (pc := 720) hx hb dL_law_720 rfl (lv_at hl 3 rfl) ?_
  refine lv_iconst (pc := 721) (v := 1) hx hb dL_law_721 (by decide) ?_
  refine lv_iadd (pc := 722) hx hb dL_law_722 ?_
  refine va_sld (pc := 723) hx hb hX hbl hbA hS h1 dL_law_723 ?_
  refine lv_aload_n (pc := 724) hx hb dL_law_724 rfl (lv_at hl 0 rfl) ?_
  refine lv_iload_n (pc := 725) hx hb dL_law_725 rfl (lv_at hl 3 rfl) ?_
  refine lv_iconst (pc := 726) (v := 2) hx hb dL_law_726 (by decide) ?_
  refine lv_iadd (pc := 727) hx hb dL_law_727 ?_
  refine va_sld (pc := 728) hx hb hX hbl hbA hS h2 dL_law_728 ?_
  refine lv_aload_n (pc := 729) hx hb dL_law_729 rfl (lv_at hl 0 rfl) ?_
  refine lv_iload_n (pc := 730) hx hb dL_law_730 rfl (lv_at hl 3 rfl) ?_
  refine lv_iconst (pc := 731) (v := 3) hx hb dL_law_731 (by decide) ?_
  refine lv_iadd (pc := 732) hx hb dL_law_732 ?_
  refine va_sld (pc := 733) hx hb hX hbl hbA hS h3 dL_law_733 ?_
  refine lv_aload_n (pc := 734) hx hb dL_law_734 rfl (lv_at hl 0 rfl) ?_
  refine lv_iload_n (pc := 735) hx hb dL_law_735 rfl (lv_at hl 3 rfl) ?_
  refine lv_iconst (pc := 736) (v := 4) hx hb dL_law_736 (by decide) ?_
  refine lv_iadd (pc := 737) hx hb dL_law_737 ?_
  refine va_sld (pc := 738) hx hb hX hbl hbA hS h4 dL_law_738 ?_
  refine lmWi (pc := 739) (As := [.int (xs (i + 1).toNatClampNeg), .int (xs (i + 2).toNatClampNeg), .int (xs (i + 3).toNatClampNeg), .int (xs (i + 4).toNatClampNeg)]) (rest := [.int ox.1]) (M' := om.2) CF (mtX4_reading l D cI cZ cQ oM aM M (xs (i + 1).toNatClampNeg) (xs (i + 2).toNatClampNeg) (xs (i + 3).toNatClampNeg) (xs (i + 4).toNatClampNeg) H.size om hfm) (cwV 4 hts gL_law_X4_reading rfl rfl rfl ⟨rfl, hdX4_reading⟩ ⟨Nat.le_of_ble_eq_true rfl, Nat.le_of_ble_eq_true rfl⟩) hK hP hD hS hA rfl hl.1 rfl (Nat.le_of_ble_eq_true rfl) dL_law_739 ⟨Nat.le_of_ble_eq_true rfl, Nat.le_of_ble_eq_true rfl⟩ (fun H locs hP hD hS => ?_)
  refine lv_icmp_eq (pc := 742) (tgt := 1237) hx hb dL_law_742 (by decide) (fun _ => ?_) (fun c9 => absurd hre c9)
  exact K _ _ _ _ _ _ _ _ _ hRel2 hP hD hS hl
set_option maxHeartbeats 4000000 in
set_option maxRecDepth 100000 in
theorem lc_15 {p : Program} {l : Launch} {e : Env} {s : State} {m : MethodId} {below : List Frame} {meth : Method} {c : Code} {b len : Nat} {xs : Nat → Int32} {D : va_G} {cI cZ cQ : ClassId} (CF : CallFix p m c code 4 s #[Value.ref b] wsL_law RL) (hr : meth.sig.returnType = ret) (hlocks : meth.locks = false) (hK : EK D cI cZ cQ s) (hX : va_X b len xs s s.heap) (hbl : b < s.heap.size) {o : Nat} {a : Nat → Nat} {oM : Nat} {aM : Nat → Nat} {X : Bk} {Rw : Nat → Bk} {L T N M : Bk} {H : Heap} {locs : List Loc} {ls : Array Slot} {i : Int32} (h1 : vp_in (i + 1) len) (h2 : vp_in (i + 2) len) (h3 : vp_in (i + 3) len) (h4 : vp_in (i + 4) len) (h5 : vp_in (i + 5) len) (hRel : Rel X Rw L N M) (hP : va_P D vwCl (wFM cI cZ cQ o a oM aM X Rw L T N M) H) (hD : va_D (fun q : Nat => s.heap.size ≤ q) (wFM cI cZ cQ o a oM aM X Rw L T N M)) (hS : va_S (fun q : Nat => s.heap.size ≤ q) s.heap H locs) (hl : lv_has ls 4 [(0, .ref b), (1, .ref o), (2, .ref oM), (3, .int i)]) (K : ∀ (X : Bk) (Rw : Nat → Bk) (L T N M : Bk) (H : Heap) (locs : List Loc) (ls : Array Slot), Rel X Rw L N M → va_P D vwCl (wFM cI cZ cQ o a oM aM X Rw L T N M) H → va_D (fun q : Nat => s.heap.size ≤ q) (wFM cI cZ cQ o a oM aM X Rw L T N M) → va_S (fun q : Nat => s.heap.size ≤ q) s.heap H locs → lv_has ls 4 [(0, .ref b), (1, .ref o), (2, .ref oM), (3, .int i)] → W p l e room_1 s m #[Value.ref b] below meth c H locs 43 748 (lw_Z below #[Value.ref b] s) (F0 m 1237 ls [])) : W p l e room_1 s m #[Value.ref b] below meth c H locs 43 748 (lw_Z below #[Value.ref b] s) (F0 m 747 ls []) := by
  obtain ⟨hx, hb, hml, hown, hts⟩ := id CF
  have hA : ∀ q : Nat, s.heap.size ≤ q → (fun q : Nat => s.heap.size ≤ q) q := fun _ h => h
  have hbA : ¬ (fun q : Nat => s.heap.size ≤ q) b := Nat.not_le.mpr hbl
  obtain ⟨k, ox, om, hk, hfx, hfm, hre, hRel2⟩ := sim_back T hRel (xs (i + 1).toNatClampNeg)
  refine lv_aload_n (pc := 747) hx hb dL_law_747 rfl (lv_at hl 1 rfl) ?_
  refine lv_aload_n (pc := 748) hx hb dL_law_748 rfl (lv_at hl 0 rfl) ?_
  refine lv_iload_n (pc := 749) hx hb dL_law_749 rfl (lv_at hl 3 rfl) ?_
  refine lv_iconst (pc := 750) (v := 1) hx hb dL_law_750 (by decide) ?_
  refine lv_iadd (pc := 751) hx hb dL_law_751 ?_
  refine va_sld (pc := 752) hx hb hX hbl hbA hS h1 dL_law_752 ?_
  refine lxWi (pc := 753) (As := [.int (xs (i + 1).toNatClampNeg)]) (rest := []) (X' := X) (R' := Rw k) (L' := L) (T' := T) (N' := ox.2) hk CF (mtX3_back l D cI cZ cQ o (a 0) (fun i => a (10 + i)) k (a (20 + k)) (a 30) (fun j => a (40 + j)) (a 50) (fun j => a (60 + j)) (a 70) (fun j => a (80 + j)) X (Rw k) L T N (xs (i + 1).toNatClampNeg) H.size ox hfx) (cwV 1 hts gL_law_X3_back rfl rfl rfl ⟨rfl, hdX3_back⟩ ⟨Nat.le_of_ble_eq_true rfl, Nat.le_of_ble_eq_true rfl⟩) hK hP hD hS hA rfl hl.1 rfl (Nat.le_of_ble_eq_true rfl) dL_law_753 ⟨Nat.le_of_ble_eq_true rfl, Nat.le_of_ble_eq_true rfl⟩ (fun H locs hP hD hS => ?_)
  rw [up_id] at hP hD
  refine lv_aload_n (pc := 756) hx hb dL_law_756 rfl (lv_at hl 2 rfl) ?_
  refine lv_aload_n (pc := 757) hx hb dL_law_757 rfl (lv_at hl 0 rfl) ?_
  refine lv_iload_n (pc := 758) hx hb dL_law_758 rfl (lv_at hl 3 rfl) ?_
  refine lv_iconst (pc := 759) (v := 1) hx hb dL_law_759 (by decide) ?_
  refine lv_iadd (pc := 760) hx hb dL_law_760 ?_
  refine va_sld (pc := 761) hx hb hX hbl hbA hS h1 dL_law_761 ?_
  refine lmWi (pc := 762) (As := [.int (xs (i + 1).toNatClampNeg)]) (rest := [.int ox.1]) (M' := om.2) CF (mtX4_back l D cI cZ cQ oM aM M (xs (i + 1).toNatClampNeg) H.size om hfm) (cwV 1 hts gL_law_X4_back rfl rfl rfl ⟨rfl, hdX4_back⟩ ⟨Nat.le_of_ble_eq_true rfl, Nat.le_of_ble_eq_true rfl⟩) hK hP hD hS hA rfl hl.1 rfl (Nat.le_of_ble_eq_true rfl) dL_law_762 ⟨Nat.le_of_ble_eq_true rfl, Nat.le_of_ble_eq_true rfl⟩ (fun H locs hP hD hS => ?_)
  refine lv_icmp_eq (pc := 765) (tgt := 1237) hx hb dL_law_765 (by decide) (fun _ => ?_) (fun c9 => absurd hre c9)
  exact K _ _ _ _ _ _ _ _ _ hRel2 hP hD hS hl
