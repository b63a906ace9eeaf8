/-! constructors: their contracts make cells -/
abbrev Z0 : Bk := fun _ _ => 0
abbrev InQ (D : va_G) (w0 : va_W) (w1 : (Nat → Nat) → va_W) (sz : Nat) : Array Value → State → Outcome → State → Prop := va_Qv (S := Nat → Nat) (fun _ => True) (fun a t => va_P D vwCl (w1 a) t.heap ∧ va_D (va_A w0 sz) (w1 a)) (va_A w0 sz)
theorem cA_int {D : va_G} {cI cZ cQ cA : ClassId} {s : State} (h : va_K D vwCl (tyL cI cZ cQ ++ [(cA, .int)]) s) : cA = cI := by
  have h0 : s.vm.findClass ("[" ++ FieldType.int.toString) = some cI := (h.2 0 _ rfl).2
  have h3 : s.vm.findClass ("[" ++ FieldType.int.toString) = some cA := (h.2 3 _ rfl).2
  exact Option.some.inj (h3.symm.trans h0)
theorem cA_bool {D : va_G} {cI cZ cQ cA : ClassId} {s : State} (h : va_K D vwCl (tyL cI cZ cQ ++ [(cA, .boolean)]) s) : cA = cZ := by
  have h0 : s.vm.findClass ("[" ++ FieldType.boolean.toString) = some cZ := (h.2 1 _ rfl).2
  have h3 : s.vm.findClass ("[" ++ FieldType.boolean.toString) = some cA := (h.2 3 _ rfl).2
  exact Option.some.inj (h3.symm.trans h0)
theorem cA_row {D : va_G} {cI cZ cQ cA : ClassId} {s : State} (h : va_K D vwCl (tyL cI cZ cQ ++ [(cA, .object RX2)]) s) : cA = cQ := by
  obtain ⟨_, _, _, _, _, h0⟩ := (h.2 2 _ rfl).2
  obtain ⟨_, _, _, _, _, h3⟩ := (h.2 3 _ rfl).2
  exact Option.some.inj (h3.symm.trans h0)
section INI
variable {l : Launch} {y : MethodName} {ws ws' : List Cond} {rm : Room} {cc : ByteArray} {maxL sz mc ms : Nat} {D : va_G} {cI cZ cQ : ClassId} {av : List Value} {w0 : va_W} {w1 : (Nat → Nat) → va_W}
theorem metI (hy : plainName y.cls = true) (hyn : y.name = "<init>") (hw : ws = Cond.code y cc maxL none :: ws') (hlen : (lg_sl av).length ≤ maxL)
    (body : ∀ p e s m args below meth c Q A, CallFix p m c cc maxL s args ws y.cls → meth.name = "<init>" → EK D cI cZ cQ s → va_P D vwCl w0 s.heap → va_D A w0 → (∀ q : Nat, s.heap.size ≤ q → A q) → (∀ pc ls H locs a, decode cc pc = .ok (.return_, 1) → va_P D vwCl (w1 a) H → va_D A (w1 a) → va_S A s.heap H locs → W p l e rm s m args below meth c H locs mc ms Q (F0 m pc ls [])) → ∀ ls, lv_has ls maxL (lv_args 0 av) → W p l e rm s m args below meth c s.heap [] 0 0 Q (F0 m 0 ls [])) :
    Met l y ws rm (WrP D cI cZ cQ av w0 sz) (InQ D w0 w1 sz) mc ms (va_A w0 sz) := by
  refine Met.ofW (cc := cc) (maxL := maxL) (ret := none) hy hw ?_
  intro p e s m args below meth c s₁ B hml hv
  obtain ⟨rfl, hsz, hP, hK, hD0⟩ := hv
  subst hsz
  have hl := lv_entry av (n := maxL) hlen
  have hin : meth.name = "<init>" := (name_of_methodNamed B.named B.method).1.trans hyn
  rw [lg_entry_eq]
  refine body p e s m av.toArray below meth c _ (va_A w0 s.heap.size) ⟨B.exec, B.bytes, hml, findClass_of_methodNamed B.named, atoms_spec (ws := ws) B.pre⟩ hin hK hP (hD0.self (sz := s.heap.size)) (fun q h => Or.inr h) ?_ _ hl
  intro pc ls H locs a hd hP1 hD1 hS
  exact W.vret B.exec B.bytes B.returns (fun t ht _ => ⟨⟨a, rfl, trivial, by show va_P D vwCl (w1 a) t.heap; rw [ht]; exact hP1, hD1⟩, hS.F ht⟩) hS.2.2 hd
end INI
section INC
variable {p : Program} {l : Launch} {e : Env} {R : Room} {s : State} {m : MethodId} {args : Array Value} {below : List Frame} {meth : Method} {c : Code} {H : Heap} {locs : List Loc} {Q : State → Prop} {cells slots : Nat}
variable {y : MethodName} {bytes cc : ByteArray} {maxL nL mc ms index : Nat} {ws : List Cond} {rm : Room} {Ts : List Cond} {own : String} {b : Addr} {rest : List Value} {pc : Nat} {ls : Array Slot}
variable {D : va_G} {cI cZ cQ : ClassId} {wc wr wB : va_W} {w1 : (Nat → Nat) → va_W} {A : Nat → Prop} {H0 : Heap}
theorem callI0 (CF : CallFix p m c cc nL s args Ts own) (hM : Met l y ws rm (WrP D cI cZ cQ [.ref b] wc H.size) (InQ D wc w1 H.size) mc ms (va_A wc H.size)) (cw : CallB R s args own index y bytes maxL none ws rm mc ms 0 ∧ y.name = "<init>" ∧ (Cond.instanceMethod y).before args s = true) (hK : EK D cI cZ cQ s) (hP : va_P D vwCl wB H) (hD : va_D A wB) (hS : va_S A H0 H locs) (hA : ∀ q : Nat, H0.size ≤ q → A q) (isC isR : List Nat) (hC : isC.map (fun i => wB[i]?) = wc.map some) (hnC : va_nd isC = true) (hR : isR.map (fun i => wB[i]?) = wr.map some) (hnR : va_nd isR = true) (hdis : ∀ i ∈ isR, i ∉ isC) (hsz : ls.size = nL) (hW : (rest.map fun v => v.category).sum ≤ 8) (hdg : decode cc pc = .ok (.invokespecial index, 3)) (hf : cells + mc ≤ R.cells ∧ slots + ms ≤ R.slots)
    (kk : ∀ (a : Nat → Nat) (H1 : Heap) (locs1 : List Loc), va_P D vwCl (wr ++ w1 a) H1 → va_D A (wr ++ w1 a) → va_S A H0 H1 locs1 → W p l e R s m args below meth c H1 locs1 (cells + mc) (slots + ms) Q (F0 m (pc + 3) ls rest)) : W p l e R s m args below meth c H locs cells slots Q (F0 m pc ls (.ref b :: rest)) := by
  have hF := va_free (wc := wc) hD hS hA isC hC
  refine va_callv (va_runI (As := []) (rest := rest) CF hM cw (wrPreS hK (va_P_sub' hP isC hC) (hD.sub isC hnC hC)) rfl rfl hsz rfl (lv_room hW) hdg hf) hS (fun q _ h => hF q h) hF (fun a t H1 locs1 ht hvm hw hB hz1 hk1 hS1 => ?_)
  obtain ⟨hP1, hD1⟩ := hB
  rw [ht] at hP1
  obtain ⟨hP', hD'⟩ := va_join (wr := wr) (w1 := w1 a) hP hD isC isR hC hR hnR hdis hk1 hF hP1 hD1
  exact kk a H1 locs1 hP' hD' hS1
end INC
theorem rows_congr {D : va_G} {cl : List vw_C} {cQ : ClassId} {ra n : Nat} {f g : Nat → Option Nat} {H : Heap} (h : ∀ j, j < n → f j = g j) (hf : va_at D cl (ra, .inl (cQ, n, .inr (.inr (.inr (.inr f))))) H) : va_at D cl (ra, .inl (cQ, n, .inr (.inr (.inr (.inr g))))) H := by
  have e : vp_cell cQ (n, .inr (.inr (.inr (.inr f)))) = vp_cell cQ (n, .inr (.inr (.inr (.inr g)))) := by
    rw [vp_cell_q, vp_cell_q]
    unfold arrV
    rw [show (fun j : Fin n => va_rf (f j.val)) = (fun j : Fin n => va_rf (g j.val)) from funext fun j => by rw [h j.val j.isLt]]
  show H[ra]? = some (vp_cell cQ (n, .inr (.inr (.inr (.inr g)))))
  rw [← e]
  exact hf
theorem va_P_at1 {D : va_G} {cl : List vw_C} {c0 c1 c1' : Nat × va_E} {r : va_W} {H : Heap} (h : va_P D cl (c0 :: c1 :: r) H) (h1 : va_at D cl c1' H) : va_P D cl (c0 :: c1' :: r) H := by
  intro k q hk
  match k, hk with
  | 0, hk => exact h 0 q hk
  | 1, hk => cases hk; exact h1
  | k + 2, hk => exact h (k + 2) q hk
-- the whole system: a 0 the array of rows, a (10 + i) row i, a (20 + i) its cells, a 30 the land, a (40 + k) its arrays, a 50 and a (60 + k) the trial, a 70 and a (80 + k) the notebook
abbrev wF (cI cZ cQ : ClassId) (o : Nat) (a : Nat → Nat) (X : Bk) (Rw : Nat → Bk) (L T N : Bk) : va_W := [(o, .inr (3, [.ref (a 0), .ref (a 30), .ref (a 50), .ref (a 70), .int (X 4 0), .int (X 5 0), .int (X 6 0), .int (X 7 0)])), (a 0, .inl (cQ, 4, .inr (.inr (.inr (.inr (fun i => some (a (10 + i)))))))), (a 10, .inr (2, [.ref (a 20), .int (Rw 0 1 0), .int (Rw 0 2 0), .int (Rw 0 3 0)])), (a 20, .inl (cI, 60, .inl (Rw 0 0))), (a 11, .inr (2, [.ref (a 21), .int (Rw 1 1 0), .int (Rw 1 2 0), .int (Rw 1 3 0)])), (a 21, .inl (cI, 60, .inl (Rw 1 0))), (a 12, .inr (2, [.ref (a 22), .int (Rw 2 1 0), .int (Rw 2 2 0), .int (Rw 2 3 0)])), (a 22, .inl (cI, 60, .inl (Rw 2 0))), (a 13, .inr (2, [.ref (a 23), .int (Rw 3 1 0), .int (Rw 3 2 0), .int (Rw 3 3 0)])), (a 23, .inl (cI, 60, .inl (Rw 3 0))), (a 30, .inr (0, [.int (L 0 0), .int (L 1 0), .int (L 2 0), .ref (a 43), .ref (a 44), .ref (a 45), .ref (a 46), .ref (a 47)])), (a 43, .inl (cI, 10, .inl (L 3))), (a 44, .inl (cI, 5, .inl (L 4))), (a 45, .inl (cI, 5, .inl (L 5))), (a 46, .inl (cI, 5, .inl (L 6))), (a 47, .inl (cI, 5, .inl (L 7))), (a 50, .inr (0, [.int (T 0 0), .int (T 1 0), .int (T 2 0), .ref (a 63), .ref (a 64), .ref (a 65), .ref (a 66), .ref (a 67)])), (a 63, .inl (cI, 10, .inl (T 3))), (a 64, .inl (cI, 5, .inl (T 4))), (a 65, .inl (cI, 5, .inl (T 5))), (a 66, .inl (cI, 5, .inl (T 6))), (a 67, .inl (cI, 5, .inl (T 7))), (a 70, .inr (1, [.ref (a 80), .ref (a 81), .ref (a 82), .int (N 3 0)])), (a 80, .inl (cI, 8, .inl (N 0))), (a 81, .inl (cI, 8, .inl (N 1))), (a 82, .inl (cZ, 8, .inl (N 2)))]
