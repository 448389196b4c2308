/-! ===== constructors: a block that grows ===== -/
/-- cells 0 to n - 1 of the block stand, but cell 0, the object under work (its fields: fs), and the further cells under work hs -/
def gB (D : va_G) (E : bE) (L : List bC) (a : Nat) (v : bM) (s : State) (n ci : Nat) (fs : List Value) (hs : List (Nat × va_E)) (H : Heap) (locs : List Loc) : Prop :=
  H.size = a + n ∧ (∀ (k : Nat) (d : bC), L[k]? = some d → k < n → k ≠ 0 → (∀ x ∈ hs, x.1 ≠ k) → bAt D E a v k d H) ∧ va_at D vwCl (a, .inr (ci, fs)) H ∧ (∀ x ∈ hs, x.1 ≠ 0 ∧ va_at D vwCl (a + x.1, x.2) H) ∧ va_S (fun q => a ≤ q) s.heap H locs ∧ bWf L ∧ a + L.length ≤ E.2 ∧ s.heap.size = a + 1 ∧ bTx s E a s.heap
theorem gB.grow {D : va_G} {E : bE} {L : List bC} {a : Nat} {v : bM} {s : State} {n ci : Nat} {fs : List Value} {hs : List (Nat × va_E)} {H : Heap} {locs : List Loc} (hB : gB D E L a v s n ci fs hs H locs) {H1 : Heap} {n1 : Nat} {h9 : List (Nat × va_E)} (h1 : H1.size = a + n1) (hn : n ≤ n1) (ho : ∀ q : Nat, q < H.size → H1[q]? = H[q]?)
    (hnew : ∀ (k : Nat) (d : bC), L[k]? = some d → n ≤ k → k < n1 → (∀ x ∈ h9, x.1 ≠ k) → bAt D E a v k d H1) (hh : ∀ x ∈ h9, x.1 ≠ 0 ∧ va_at D vwCl (a + x.1, x.2) H1) : gB D E L a v s n1 ci fs (hs ++ h9) H1 locs := by
  obtain ⟨b1, b2, b3, b4, b5, b6⟩ := hB
  refine ⟨h1, fun k d hd hk h0 hx => ?_, va_at.kept (q := (a, .inr (ci, fs))) b3 (ho _ (va_at.lt (q := (a, .inr (ci, fs))) b3)), fun x hx => ?_, ⟨Nat.le_trans b5.1 (by omega), fun q q1 q2 => (ho q (Nat.lt_of_lt_of_le q1 b5.1)).trans (b5.2.1 q q1 q2), b5.2.2⟩, b6⟩
  · by_cases hkn : k < n
    · exact bAt_kept (b2 k d hd hkn h0 (fun x h => hx x (List.mem_append_left _ h))) (fun q => ho _ q) (fun q hq _ _ => ho q hq)
    · exact hnew k d hd (by omega) hk (fun x h => hx x (List.mem_append_right _ h))
  · rcases List.mem_append.mp hx with h | h
    · have hx2 := b4 x h
      exact ⟨hx2.1, va_at.kept (q := (a + x.1, x.2)) hx2.2 (ho _ (va_at.lt (q := (a + x.1, x.2)) hx2.2))⟩
    · exact hh x h
theorem gB.grow0 {D : va_G} {E : bE} {L : List bC} {a : Nat} {v : bM} {s : State} {n ci : Nat} {fs : List Value} {hs : List (Nat × va_E)} {H : Heap} {locs : List Loc} (hB : gB D E L a v s n ci fs hs H locs) {H1 : Heap} {n1 : Nat} (h1 : H1.size = a + n1) (hn : n ≤ n1) (ho : ∀ q : Nat, q < H.size → H1[q]? = H[q]?)
    (hnew : ∀ (k : Nat) (d : bC), L[k]? = some d → n ≤ k → k < n1 → bAt D E a v k d H1) : gB D E L a v s n1 ci fs hs H1 locs := by
  have h := hB.grow (h9 := []) h1 hn ho (fun k d q1 q2 q3 _ => hnew k d q1 q2 q3) (fun x hx => by cases hx)
  rw [List.append_nil] at h
  exact h
theorem gB.put0 {D : va_G} {E : bE} {L : List bC} {a : Nat} {v : bM} {s : State} {n ci : Nat} {fs f9 : List Value} {hs : List (Nat × va_E)} {H : Heap} {locs : List Loc} (hB : gB D E L a v s n ci fs hs H locs) {H1 : Heap} {l9 : List Loc} (hz : H1.size = H.size) (ho : ∀ q : Nat, q ≠ a → H1[q]? = H[q]?) (h0 : va_at D vwCl (a, .inr (ci, f9)) H1) (hS : va_S (fun q => a ≤ q) s.heap H1 l9) : gB D E L a v s n ci f9 hs H1 l9 := by
  obtain ⟨b1, b2, b3, b4, b5, b6, b7, b8⟩ := hB
  refine ⟨hz.trans b1, fun k d hd hk hk0 hx => ?_, h0, fun x hx => ⟨(b4 x hx).1, va_at.kept (q := (a + x.1, x.2)) (b4 x hx).2 (ho _ ?_)⟩, hS, b6, b7, b8⟩
  · have hl := (List.getElem?_eq_some_iff.mp hd).1
    refine bAt_kept (b2 k d hd hk hk0 hx) (fun _ => ho _ (by omega)) (fun q hq hor _ => ho q ?_)
    rcases hor with r9 | r9 <;> omega
  · have := (b4 x hx).1
    show a + x.1 ≠ a
    omega
/-- a further cell changes, while there is no text among the cells -/
theorem gB.putH {D : va_G} {E : bE} {L : List bC} {a : Nat} {v : bM} {s : State} {n ci : Nat} {fs : List Value} {j : Nat} {e e9 : va_E} {H : Heap} {locs : List Loc} (hB : gB D E L a v s n ci fs [(j, e)] H locs) (hT : (L.take n).all (fun d => match d with | .inl _ => true | .inr x => decide (x.1 < 9)) = true) {H1 : Heap} {l9 : List Loc} (hz : H1.size = H.size) (ho : ∀ q : Nat, q ≠ a + j → H1[q]? = H[q]?) (h0 : va_at D vwCl (a + j, e9) H1) (hS : va_S (fun q => a ≤ q) s.heap H1 l9) : gB D E L a v s n ci fs [(j, e9)] H1 l9 := by
  obtain ⟨b1, b2, b3, b4, b5, b6, b7, b8⟩ := hB
  have hj := (b4 (j, e) (List.mem_singleton.mpr rfl)).1
  refine ⟨hz.trans b1, fun k d hd hk hk0 hx => ?_, va_at.kept (q := (a, .inr (ci, fs))) b3 (ho _ (by show a ≠ a + j; have : j ≠ 0 := hj; omega)), fun x hx => ?_, hS, b6, b7, b8⟩
  · have hkj : j ≠ k := hx (j, e9) (List.mem_singleton.mpr rfl)
    refine bAt_kept (b2 k d hd hk hk0 (fun x hx => by rw [List.mem_singleton.mp hx]; exact hkj)) (fun _ => ho _ (by omega)) (fun q hq hor hz9 => ?_)
    obtain ⟨x, rfl, hx9⟩ := hz9
    have h9 := List.all_eq_true.mp hT (.inr x) (List.mem_of_getElem? (i := k) (by rw [List.getElem?_take, if_pos hk]; exact hd))
    exact absurd (of_decide_eq_true h9) hx9
  · rw [List.mem_singleton.mp hx]
    exact ⟨hj, h0⟩
/-- a further cell is what it is to be -/
theorem gB.close {D : va_G} {E : bE} {L : List bC} {a : Nat} {v : bM} {s : State} {n ci : Nat} {fs : List Value} {j : Nat} {e : va_E} {H : Heap} {locs : List Loc} (hB : gB D E L a v s n ci fs [(j, e)] H locs) {d : bC} (hd : L[j]? = some d) (h : va_at D vwCl (a + j, e) H → bAt D E a v j d H) : gB D E L a v s n ci fs [] H locs := by
  obtain ⟨b1, b2, b3, b4, b5⟩ := hB
  refine ⟨b1, fun k d9 hd9 hk hk0 _ => ?_, b3, fun x hx => (by cases hx), b5⟩
  by_cases hkj : k = j
  · subst hkj
    rw [hd] at hd9
    cases hd9
    exact h (b4 (k, e) (List.mem_singleton.mpr rfl)).2
  · exact b2 k d9 hd9 hk hk0 (fun x hx => by rw [List.mem_singleton.mp hx]; exact fun z => hkj z.symm)
/-- all cells stand: the block -/
theorem gB.blk {D : va_G} {E : bE} {L : List bC} {a : Nat} {v : bM} {s : State} {ci : Nat} {fs : List Value} {H : Heap} {locs : List Loc} (hB : gB D E L a v s L.length ci fs [] H locs) {o : List bF} (h0 : L[0]? = some (.inl (ci, o))) (hfs : o.map (bV a v) = fs) : Blk D E L a v H := by
  intro k d hd
  by_cases hk : k = 0
  · subst hk
    rw [h0] at hd
    cases hd
    show va_at D vwCl (a + 0, .inr (ci, o.map (bV a v))) H
    rw [hfs]
    exact hB.2.2.1
  · exact hB.2.1 k d hd (List.getElem?_eq_some_iff.mp hd).1 hk (fun x hx => by cases hx)
theorem bOI_over {args : Array Value} {U : State} (h : bOI U) : (Cond.arrayOver (.array .int)).before args U = true := by
  obtain ⟨comp, c, k, h1, h2, h3, h4, h5⟩ := h
  have f1 : U.vm.findClass (FieldType.array .int).toString = some comp := h1
  have f2 : U.vm.findClass ("[" ++ (FieldType.array .int).toString) = some c := h5
  unfold Cond.before Cond.holds
  simp only [Cond.value]
  rw [f1, Option.bind_some]
  refine (congrArg (fun o : Option Nat => (o.bind (fun c => (U.vm.classes[c]?).map fun (k : Class) => match k.kind with | .array _ ty => decide (ty = FieldType.array .int) && decide (U.vm.findClass ("[" ++ (FieldType.array .int).toString) = some c) | _ => false) == some true)) h2).trans ?_
  simp [h3, h4, f2]
theorem g_outer (c : ClassId) (N h0 : Nat) : ∀ i : Nat, Jvm.Free.Multi.outerC c N h0 i = arrV c N (fun j => va_rf (if j < i then some (h0 + 1 + j) else none))
  | 0 => by
    show ({ cls := c, slots := Array.replicate N .null, vm := .none } : Cell) = _
    rw [arrV_new]
    refine congrArg (arrV c N) (funext fun j => ?_)
    simp [va_rf]
  | i + 1 => by
    show (Jvm.Free.Multi.outerC c N h0 i).setSlot i (.ref (h0 + 1 + i)) = _
    rw [g_outer c N h0 i, arrV_store]
    refine congrArg (arrV c N) (funext fun j => ?_)
    by_cases e : j = i
    · subst e
      simp [updV, va_rf]
    · by_cases h : j < i
      · simp [updV, e, h, Nat.lt_succ_of_lt h]
      · simp [updV, e, h, show ¬ j < i + 1 by omega]
def nPre (D : va_G) (E : bE) (L : List bC) (a ci : Nat) (f0 : List Value) : State → Prop := fun U => U.heap.size = a + 1 ∧ va_at D vwCl (a, .inr (ci, f0)) U.heap ∧ bK D E U ∧ a + L.length ≤ E.2 ∧ bTx U E a U.heap
def nPost (D : va_G) (E : bE) (L : List bC) (a : Nat) (v : bM) : Array Value → State → Outcome → State → Prop := fun _ st o t => o = .returned none ∧ Blk D E L a v t.heap ∧ t.heap.size = a + L.length ∧ va_F (fun q => a ≤ q) st t
/-- constructor y, with the arguments Av, makes of a new object the block L with numbers that Z tells -/
def nMetA (l : Launch) (y : MethodName) (bytes : ByteArray) (maxL d mc ms : Nat) (L : List bC) (ci : Nat) (f0 : List Value) (Av : List Value) (Z : bM → Prop) : Prop :=
  ∀ (D : va_G) (E : bE) (a : Nat) (v : bM), Z v → Met l y (.code y bytes maxL none :: wAll) (rmOf d mc ms) (va_Pc (.ref a :: Av) (nPre D E L a ci f0)) (nPost D E L a v) mc ms (fun q => a ≤ q)
abbrev nMet (l : Launch) (y : MethodName) (bytes : ByteArray) (maxL d mc ms : Nat) (L : List bC) (ci : Nat) (f0 : List Value) (Z : bM → Prop) : Prop := nMetA l y bytes maxL d mc ms L ci f0 [] Z
def nQ (below : List Frame) (D : va_G) (E : bE) (L : List bC) (a : Nat) (v : bM) (args : Array Value) (s : State) (mc ms : Nat) : State → Prop := MQ below (nPost D E L a v) args s mc ms (fun q => a ≤ q)
theorem nBlind (D : va_G) (E : bE) (L : List bC) (a ci : Nat) (f0 : List Value) (Av : List Value) : FrameBlind (va_Pc (.ref a :: Av) (nPre D E L a ci f0)) := fun a0 U g mk q => ⟨q.1, q.2.1, q.2.2.1, bK.same (u := U) (U := U.calling g mk a0) rfl q.2.2.2.1, q.2.2.2.2.1, bTx.moved (u := U) (U := U.calling g mk a0) (Vm.Alike.refl U.vm) q.2.2.2.2.2⟩
theorem n_startA {l : Launch} {y : MethodName} {cc : ByteArray} {maxL d mc ms : Nat} {L : List bC} {ci : Nat} {f0 Av : List Value} {Z : bM → Prop} (hy : plainFor y = true) (hy1 : y.name = "<init>") (hwf : bWf L) (hA : 1 + (lg_sl Av).length ≤ maxL)
    (body : ∀ (p : Program) (e : Env) (s : State) (m : MethodId) (args : Array Value) (below : List Frame) (meth : Method) (c : Code) (D : va_G) (E : bE) (a : Nat) (v : bM) (ls : Array Slot) (H : Heap) (locs : List Loc), Z v → bCx p s m args meth c y.cls cc maxL D E → meth.sig.returnType = none → meth.name = "<init>" → lv_has ls maxL (lv_args 0 (.ref a :: Av)) → gB D E L a v s 1 ci f0 [] H locs →
      W p l e (rmOf d mc ms) s m args below meth c H locs 0 0 (nQ below D E L a v args s mc ms) (F0 m 0 ls [])) : nMetA l y cc maxL d mc ms L ci f0 Av Z := by
  intro D E a v hZ
  refine va_MetF (cc := cc) (maxL := maxL) (ret := none) hy rfl ?_
  intro p e s m args below meth c s₁ B hml hv
  obtain ⟨rfl, hsz, h0, hK, h4, h6⟩ := hv
  have hts := atoms_spec (ws := .code y cc maxL none :: wAll) B.pre
  have hl := lv_entry (Value.ref a :: Av) (n := maxL) (show (lg_sl Av).length + 1 ≤ maxL by omega)
  rw [lg_entry_eq]
  generalize (lg_sl (Value.ref a :: Av) ++ List.replicate (maxL - (lg_sl (Value.ref a :: Av)).length) Slot.unset).toArray = ls at hl ⊢
  refine body p e s m _ below meth c D E a v ls _ _ hZ ⟨B.exec, B.bytes, hml, findClass_of_methodNamed B.named, fun w hw => hts w (List.mem_cons_of_mem _ hw), hK, B.notSynchronized⟩ B.returns ((name_of_methodNamed B.named B.method).1.trans hy1) hl ⟨hsz, fun k d hd hk hk0 _ => absurd hk (by omega), h0, fun x hx => (by cases hx), va_S.rf, hwf, h4, hsz, h6⟩
theorem n_start {l : Launch} {y : MethodName} {cc : ByteArray} {maxL d mc ms : Nat} {L : List bC} {ci : Nat} {f0 : List Value} {Z : bM → Prop} (hy : plainFor y = true) (hy1 : y.name = "<init>") (hwf : bWf L) (hA : 1 ≤ maxL)
    (body : ∀ (p : Program) (e : Env) (s : State) (m : MethodId) (args : Array Value) (below : List Frame) (meth : Method) (c : Code) (D : va_G) (E : bE) (a : Nat) (v : bM) (ls : Array Slot) (H : Heap) (locs : List Loc), Z v → bCx p s m args meth c y.cls cc maxL D E → meth.sig.returnType = none → meth.name = "<init>" → lv_has ls maxL [(0, .ref a)] → gB D E L a v s 1 ci f0 [] H locs →
      W p l e (rmOf d mc ms) s m args below meth c H locs 0 0 (nQ below D E L a v args s mc ms) (F0 m 0 ls [])) : nMet l y cc maxL d mc ms L ci f0 Z := n_startA hy hy1 hwf (by show 1 + 0 ≤ maxL; omega) body
section GROWS
variable {p : Program} {l : Launch} {e : Env} {R : Room} {s : State} {m : MethodId} {args : Array Value} {below : List Frame} {meth : Method} {c : Code} {H : Heap} {locs : List Loc} {cells slots : Nat} {Q : State → Prop}
variable {cc : ByteArray} {pc : Nat} {ls : Array Slot} {rest : List Value} {D : va_G} {E : bE} {own : String} {nL : Nat} {L : List bC} {a : Nat} {v : bM} {n ci : Nat} {fs : List Value} {hs : List (Nat × va_E)} {mc ms : Nat}
theorem g_obj (X : bCx p s m args meth c own cc nL D E) {idx : Nat} (hw : Cond.methodLink own idx Lib.objectInit ∈ wAll) (hsize : ls.size = nL) {b : Nat} (hdg : decode cc pc = .ok (.invokespecial idx, 3)) (hR : 1 ≤ R.frames ∧ (rest.map fun v => v.category).sum + 12 ≤ R.locals)
    (kk : W p l e R s m args below meth c H locs cells slots Q (F0 m (pc + 3) ls rest)) : W p l e R s m args below meth c H locs cells slots Q (F0 m pc ls (.ref b :: rest)) :=
  W.objInit (g := F0 m pc ls (.ref b :: rest)) X.1 X.2.1 X.2.2.2.1 (X.2.2.2.2.1 _ hw) (X.2.2.2.2.1 _ wm_38) (X.2.2.2.2.1 _ wm_39) rfl (hsize.trans X.2.2.1.symm) rfl hdg hR.1 (by show 2 * 0 + _ + 12 ≤ _; rw [Nat.mul_zero, Nat.zero_add]; exact hR.2) kk
theorem g_newI (X : bCx p s m args meth c own cc nL D E) (hB : gB D E L a v s n ci fs hs H locs) {atype : ArrayType} {kd N off st : Nat} {m1 : Int32} (hd : L[n]? = some (.inr (kd, N, off, st))) (hk : kd < 2) (hcl : Cond.arrayClass (newarray.typeOf atype) ∈ wAll) (hnm : bAnm[kd]? = some ("[" ++ (newarray.typeOf atype).toString)) (hdv : defaultValue (newarray.typeOf atype) = .int 0) (hz : ∀ j, j < N → v (off + j) = 0) (hn : ¬ m1 < 0) (hN : m1.toNatClampNeg = N) (hb9 : N * componentBytes (newarray.typeOf atype) ≤ 536870912) (hf : cells + 1 ≤ R.cells ∧ slots + N ≤ R.slots) (hdg : decode cc pc = .ok (.newarray atype, 2))
    (kk : ∀ H1 : Heap, gB D E L a v s (n + 1) ci fs hs H1 locs → W p l e R s m args below meth c H1 locs (cells + 1) (slots + N) Q (F0 m (pc + 2) ls (.ref (a + n) :: rest))) : W p l e R s m args below meth c H locs cells slots Q (F0 m pc ls (.int m1 :: rest)) := by
  have hsz : H.size = a + n := hB.1
  refine va_newaK X.1 X.2.1 (X.2.2.2.2.1 _ hcl) rfl hdg rfl hn hN hb9 hf.1 hf.2 hsz (fun H1 cA e1 z1 o1 _ hNm => ?_)
  have hcA : cA = E.1.1 kd := Option.some.inj (hNm.symm.trans (X.2.2.2.2.2.1.2.2.2.2.2.2.2 kd _ hnm))
  rw [hcA] at e1
  refine kk H1 (hB.grow0 (n1 := n + 1) (by omega) (by omega) (fun q hq => o1 q (by omega)) (fun k d hd1 h1 h2 => ?_))
  have hkn : k = n := by omega
  subst hkn
  rw [hd] at hd1
  cases hd1
  refine bArr0 hk ?_
  rw [e1, hdv, vp_cell_i]
  exact congrArg some (arrV_ext (fun j hj => by rw [hz j hj]))
theorem g_newM (X : bCx p s m args meth c own cc nL D E) (hB : gB D E L a v s n ci fs hs H locs) {N M : Nat} (hd : L[n]? = some (.inr (2, N, n + 1, 1))) (offs : Nat → Nat) (hr : ∀ i, i < N → ∃ st : Nat, L[n + 1 + i]? = some (.inr (0, M, offs i, st)) ∧ ∀ j, j < M → v (offs i + j) = 0) {x y : Int32} (hx : ¬ x < 0) (hy : ¬ y < 0) (hN : x.toNatClampNeg = N) (hM : y.toNatClampNeg = M) (hN4 : N * 4 ≤ 536870912) (hM4 : M * componentBytes .int ≤ 536870912) (hM3 : M ≤ 536870912) {index : Nat} (hcl : Cond.classLink own index "[[I" ∈ wAll) (hf : cells + (1 + N) ≤ R.cells ∧ slots + (N + N * M) ≤ R.slots) (hdg : decode cc pc = .ok (.multianewarray index 2, 4))
    (kk : ∀ H1 : Heap, gB D E L a v s (n + 1 + N) ci fs hs H1 locs → W p l e R s m args below meth c H1 locs (cells + 1 + N) (slots + N + N * M) Q (F0 m (pc + 4) ls (.ref (a + n) :: rest))) : W p l e R s m args below meth c H locs cells slots Q (F0 m pc ls (.int y :: .int x :: rest)) := by
  subst hN
  subst hM
  have hb := X.2.1
  have hsz : H.size = a + n := hB.1
  have hbar := X.2.2.2.2.2.1.2.2.2.2.2.2.2
  intro T hT Xs
  have hcl2 : (Cond.classLink own index ("[" ++ (FieldType.array .int).toString)).before args s = true := X.2.2.2.2.1 _ hcl
  obtain ⟨vm₁, cA, comp, -, fA, fC, -, -, X', step⟩ := Xs.multianewarray2F X.1 X.2.2.2.1 hcl2 (bOI_over X.2.2.2.2.2.1.2.2.2.2.2.2.1) (X.2.2.2.2.1 _ wm_89) (g := F0 m pc ls (.int y :: .int x :: rest)) rfl (by rw [hb]; exact hdg) rfl hx hy hN4 hM4 hM3 rfl rfl hf.1 hf.2
  have hcC : comp = E.1.1 0 := Option.some.inj (fC.symm.trans (hbar 0 "[I" rfl))
  have hcA : cA = E.1.1 2 := Option.some.inj (fA.symm.trans (hbar 2 "[[I" rfl))
  generalize hF : Jvm.Free.Multi.fill (T.setVm vm₁) cA comp x.toNatClampNeg y.toNatClampNeg (defaultValue .int) x.toNatClampNeg = F at X' step
  have hTh : (T.setVm vm₁).heap = H := hT
  obtain ⟨f1, f2, -, -⟩ := Jvm.Free.Multi.fill_facts (T.setVm vm₁) cA comp x.toNatClampNeg y.toNatClampNeg (defaultValue .int) x.toNatClampNeg
  rw [hF, hTh] at f1 f2
  have hold : ∀ q : Nat, q < H.size → F.heap[q]? = H[q]? := fun q hq => by
    have := Jvm.Free.Multi.fill_old (T.setVm vm₁) cA comp x.toNatClampNeg y.toNatClampNeg (defaultValue .int) (a := q) (by rw [hTh]; exact hq) x.toNatClampNeg
    rw [hF, hTh] at this
    exact this
  have hrow : ∀ j : Nat, j < x.toNatClampNeg → F.heap[H.size + 1 + j]? = some (Jvm.Free.Multi.innerC comp y.toNatClampNeg (defaultValue .int)) := fun j hj => by
    have := Jvm.Free.Multi.fill_inner (T.setVm vm₁) cA comp x.toNatClampNeg y.toNatClampNeg (defaultValue .int) x.toNatClampNeg j hj
    rw [hF, hTh] at this
    exact this
  rw [hsz] at f1 f2 hrow
  have hB1 : gB D E L a v s (n + 1 + x.toNatClampNeg) ci fs hs F.heap locs := by
    refine hB.grow0 (n1 := n + 1 + x.toNatClampNeg) (by omega) (by omega) hold (fun k d hd1 h1 h2 => ?_)
    by_cases hkn : k = n
    · subst hkn
      rw [hd] at hd1
      cases hd1
      unfold bAt
      dsimp only
      rw [if_pos (show 2 < 8 by decide)]
      show F.heap[a + k]? = some (vp_cell (E.1.1 2) (bX a v (2, x.toNatClampNeg, k + 1, 1)))
      rw [f2, hcA]
      unfold bX
      rw [if_neg (show ¬ (2 : Nat) < 2 by decide), vp_cell_q, g_outer]
      refine congrArg some (arrV_ext (fun j hj => ?_))
      rw [if_pos hj]
      show va_rf (some (a + k + 1 + j)) = va_rf (some (a + (k + 1 + 1 * j)))
      rw [show a + k + 1 + j = a + (k + 1 + 1 * j) by omega]
    · obtain ⟨i, rfl⟩ : ∃ i, k = n + 1 + i := ⟨k - (n + 1), by omega⟩
      obtain ⟨st, q1, q2⟩ := hr i (by omega)
      rw [q1] at hd1
      cases hd1
      refine bArr0 (by decide) ?_
      have hrw := hrow i (by omega)
      rw [show a + n + 1 + i = a + (n + 1 + i) by omega] at hrw
      rw [hrw, hcC, vp_cell_i]
      refine congrArg some ?_
      show ({ cls := E.1.1 0, slots := Array.replicate y.toNatClampNeg (.int 0), vm := .none } : Cell) = _
      rw [arrV_new]
      exact arrV_ext (fun j hj => by rw [q2 j hj])
  obtain ⟨t2, a1, b1⟩ := kk F.heap hB1 F rfl X'
  rw [hT, hsz] at step
  exact ⟨t2, step t2 a1, b1⟩
/-- a field of the object under work, final or not -/
theorem g_put (X : bCx p s m args meth c own cc nL D E) (hin2 : meth.name = "<init>") (hB : gB D E L a v s n ci fs hs H locs) {N : Nat} {C : String} {T : u_T} {ty : Nat → FieldType} (hk : bKl ci C T N ty) (j : Nat) (hj : j < N) (hdecl : (T j).2.2.2 = false ∨ (T j).1 = own) {y : Value} (hn : narrow (ty j) y = y) (hfit : fits (ty j) y = true) (hl : j < fs.length) {index : Nat} (hw : Cond.fieldLink own index (T j).1 (T j).2.1 (T j).2.2.1 ∈ wAll) (hdg : decode cc pc = .ok (.putfield index, 3))
    (kk : ∀ (H1 : Heap) (locs1 : List Loc), gB D E L a v s n ci (fs.set j y) hs H1 locs1 → W p l e R s m args below meth c H1 locs1 cells slots Q (F0 m (pc + 3) ls rest)) : W p l e R s m args below meth c H locs cells slots Q (F0 m pc ls (y :: .ref a :: rest)) := by
  obtain ⟨hx, hb, -, hown, hts, hK, -⟩ := X
  obtain ⟨hcl, hin, hty, hnm⟩ := hk
  have hap2 := va_apart (own := own) hts hin ty hty hnm hK.1 hcl
  obtain ⟨r, h1, cell, q1, q2, q3, q4⟩ := hB.2.2.1
  have hr : r = (C, T, N) := Option.some.inj (h1.symm.trans hcl)
  subst hr
  obtain ⟨hSl, hfc, kC, hkC, hkind⟩ := hK.1.1 ci _ hcl
  obtain ⟨cf, kf, fi, fd, hi, hsl⟩ := hSl j hj
  have hlay := hts _ (hin _ (u_in_lay hj))
  have hst := (u_facts hfc hkC (u_lays hts hin hj) hi).1
  have hgo : ∀ H' : Heap, H'[a]? = some (cell.setSlot fd.slot y) → H'.size = H.size → (∀ q, q ≠ a → H'[q]? = H[q]?) → W p l e R s m args below meth c H' (locs ++ [⟨a, fd.slot⟩]) cells slots Q (F0 m (pc + 3) ls rest) := fun H' e1 e2 e3 => by
    rw [hsl] at e1 ⊢
    refine kk H' _ (hB.put0 e2 e3 ?_ (hB.2.2.2.2.1.put e2 e3 (Nat.le_refl a)))
    exact ⟨_, hcl, t_OB.to (V := updV (vp_V fs) j y) ⟨_, e1, q2, q3, t_set q4 hap2 hj y⟩ (fun i _ => vp_updV_set hl y i)⟩
  unfold u_lay at hlay
  by_cases hfin : (T j).2.2.2 = true
  · rw [if_pos hfin] at hlay
    have hcf : m.cls = cf := by
      obtain ⟨_, _, c', _, _, _, -, -, hf', -, -, -, hown2, -⟩ := Cond.laysFinal_spec hlay
      have e1 : c' = cf := by have := hi.symm.trans hf'; simp at this; exact this.1.symm
      rw [hdecl.resolve_left (by rw [hfin]; decide)] at hown2
      rw [← e1]
      exact Option.some.inj (hown.symm.trans hown2)
    have h6 := u_fits hfc hkC hkind (Or.inr hlay) hi (hty j hj) hn hfit
    exact W.putFinK hx hb hown (hts _ hw) hi hst hcf hin2 (by rw [q2]; exact h6) q1 q3 (by rw [hsl]; exact k2_hasslot (q4 j hj)) rfl rfl hdg hgo
  · rw [if_neg hfin] at hlay
    have h6 := u_store hfc hkC hkind hlay hi (hty j hj) hn hfit
    exact W.putK hx hb (f := fd) ⟨hown, hts _ hw, ⟨_, _, _, hi⟩, hst⟩ (by rw [q2]; exact h6) q1 q3 (by rw [hsl]; exact k2_hasslot (q4 j hj)) rfl rfl hdg hgo
theorem g_vret (X : bCx p s m args meth c own cc nL D E) (hr : meth.sig.returnType = none) (hB : gB D E L a v s n ci fs [] H locs) (hn : n = L.length) {o : List bF} (h0 : L[0]? = some (.inl (ci, o))) (hfs : o.map (bV a v) = fs) (hc : cells ≤ mc) (hs : slots ≤ ms) (hdg : decode cc pc = .ok (.return_, 1)) : W p l e R s m args below meth c H locs cells slots (nQ below D E L a v args s mc ms) (F0 m pc ls []) := by
  have hlocks := X.2.2.2.2.2.2
  subst hn
  unfold nQ
  refine W.widen hc hs ?_
  exact W.vret X.1 X.2.1 hr (fun t ht _ => ⟨rfl, by rw [ht]; exact hB.blk h0 hfs, by rw [ht]; exact hB.1, hB.2.2.2.2.1.F ht⟩) hB.2.2.2.2.1.2.2 hdg
/-- what of a constructor a call wants to know -/
def nYv (y : MethodName) (C : String) (bytes : ByteArray) (maxL N : Nat) : Prop := (y.cls = C ∧ y.name = "<init>" ∧ y.cls ≠ "java/lang/invoke/MethodHandle" ∧ y.cls ≠ "java/lang/invoke/VarHandle" ∧ (parseMethodDescriptor y.desc).map (fun d => d.parameters.length) = some 0) ∧ Cond.instanceMethod y ∈ wAll ∧ Cond.instantiable C N ∈ wAll ∧ Cond.initialized C ∈ wAll ∧ Cond.code y bytes maxL none ∈ wAll
/-- new, dup, and the constructor -/
theorem g_newT (X : bCx p s m args meth c own cc nL D E) (hB : gB D E L a v s n ci fs hs H locs) {y : MethodName} {bytes : ByteArray} {maxL d N ciy ix is : Nat} {w9 : bM} {Ly : List bC} {f0 : List Value} {Z : bM → Prop} {C host : String} {T : u_T} {ty : Nat → FieldType}
    (hM : nMet l y bytes maxL d mc ms Ly ciy f0 Z) (hY : nYv y C bytes maxL N) (hk : bKl ciy C T N ty) (hf0 : ∀ j, j < N → defaultValue (ty j) = vp_V f0 j) (hlen : n + Ly.length ≤ L.length) (htr : ∀ H1 : Heap, Blk D E Ly (a + n) w9 H1 → ∀ (k : Nat) (d9 : bC), L[k]? = some d9 → n ≤ k → k < n + Ly.length → bAt D E a v k d9 H1) (hZ : Z w9) (hcl : Cond.classLink own ix C ∈ wAll) (hw : Cond.methodLinkNest own is y host ∈ bNest ∨ Cond.methodLink own is y ∈ wAll) (hR : d + 1 ≤ R.frames ∧ 8 + (maxL + 11) + 40 * d ≤ R.locals) (hsize : ls.size = nL) (hW : (rest.map fun v => v.category).sum ≤ 7)
    (hf : cells + 1 + mc ≤ R.cells ∧ slots + N + ms ≤ R.slots) (d0 : decode cc pc = .ok (.new ix, 3)) (d3 : decode cc (pc + 3) = .ok (.dup, 1)) (d4 : decode cc (pc + 4) = .ok (.invokespecial is, 3))
    (kk : ∀ (H1 : Heap) (locs1 : List Loc), gB D E L a v s (n + Ly.length) ci fs hs H1 locs1 → W p l e R s m args below meth c H1 locs1 (cells + 1 + mc) (slots + N + ms) Q (F0 m (pc + 7) ls (.ref (a + n) :: rest))) : W p l e R s m args below meth c H locs cells slots Q (F0 m pc ls rest) := by
  obtain ⟨⟨hC, hy1, hd⟩, hwi, hwn, hwini, hwc⟩ := hY
  subst hC
  have hsz : H.size = a + n := hB.1
  have hKn := X.2.2.2.2.2.1.1.1 ciy _ hk.1
  obtain ⟨b1, b2, b3, b4, b5, b6, b7, b8, b9⟩ := id hB
  refine W.newcK X.1 X.2.1 X.2.2.2.1 (X.2.2.2.2.1 _ hcl) (X.2.2.2.2.1 _ hwn) (X.2.2.2.2.1 _ hwini) (g := F0 m pc ls rest) rfl d0 (by omega) (by omega) hKn.2.1 hsz fun H1 kC hkC e1 z1 o1 => ?_
  refine lv_dup X.1 X.2.1 d3 rfl ?_
  have hat : va_at D vwCl (a + n, .inr (ciy, f0)) H1 := ⟨_, hk.1, (u_born ty X.2.2.2.2.1 hk.2.1 hKn hkC e1 hk.2.2.1).to hf0⟩
  have hTx : bTx s E (a + n) H1 := (b9.kept (fun q q1 q2 => (o1 q (by omega)).trans (b5.2.1 q q1 q2))).le (by omega)
  have hpre : PreS s H1 (va_Pc [.ref (a + n)] (nPre D E Ly (a + n) ciy f0)) (.ref (a + n) :: []) := ⟨nBlind D E Ly (a + n) ciy f0 [], fun U hU hWa => ⟨rfl, by rw [hU]; exact z1, by rw [hU]; exact hat, X.2.2.2.2.2.1.moved hWa, by omega, by rw [hU]; exact bTx.moved hWa.alike hTx⟩⟩
  have hW9 : ((Value.ref (a + n) :: rest).map fun v => v.category).sum ≤ 8 := by
    rw [List.map_cons, List.sum_cons]
    show 1 + _ ≤ 8
    omega
  have hrun : va_Run p l e R s m args below meth c H1 locs (cells + 1) (slots + N) mc ms (F0 m (pc + 4) ls (.ref (a + n) :: .ref (a + n) :: rest)) (.ref (a + n) :: rest) (nPost D E Ly (a + n) w9 (Value.ref (a + n) :: []).toArray) (fun q => a + n ≤ q) := by
    rcases hw with hw | hw
    · exact va_runIN (As := []) (Ts := wAll) ⟨X.1, X.2.1, X.2.2.1, X.2.2.2.1, X.2.2.2.2.1⟩ (hM D E (a + n) w9 hZ) ⟨va_cnB 0 X.2.2.2.2.1 (wGoodC hwc) rfl rfl rfl (X.2.2.2.2.2.1.2.1 _ hw) (X.2.2.2.2.1 _ hwini) hd hR, hy1, X.2.2.2.2.1 _ hwi⟩ hpre rfl rfl hsize rfl (lv_room hW9) d4 hf
    · exact va_runI (As := []) (Ts := wAll) ⟨X.1, X.2.1, X.2.2.1, X.2.2.2.1, X.2.2.2.2.1⟩ (hM D E (a + n) w9 hZ) (cwI 0 X.2.2.2.2.1 (wGoodC hwc) rfl rfl rfl (X.2.2.2.2.1 _ hwini) (X.2.2.2.2.1 _ hw) (X.2.2.2.2.1 _ hwi) hy1 hd hR) hpre rfl rfl hsize rfl (lv_room hW9) d4 hf
  intro T hT Xs
  obtain ⟨w, st₀, t, T', L9, h0, X', hL, e3, e4, ⟨hv, hblk, hts, hz, hkp⟩, st⟩ := hrun T hT Xs
  cases hv
  rw [h0] at hz hkp
  have hS1 : va_S (fun q => a ≤ q) s.heap t.heap (locs ++ L9) := ⟨by omega, fun q h1 h2 => by rw [hkp q (by omega) (by omega), o1 q (by omega)]; exact b5.2.1 q h1 h2, fun q hq => by
    rcases List.mem_append.mp hq with h | h
    · exact b5.2.2 q h
    · have := hL q h
      show a ≤ q.base
      omega⟩
  have hB1 : gB D E L a v s (n + Ly.length) ci fs hs t.heap locs := hB.grow0 (n1 := n + Ly.length) (by omega) (by omega) (fun q hq => by rw [hkp q (by omega) (by omega), o1 q (by omega)]) (htr _ hblk)
  obtain ⟨t2, a1, r1⟩ := kk T'.heap (locs ++ L9) (by rw [e3]; exact ⟨hB1.1, hB1.2.1, hB1.2.2.1, hB1.2.2.2.1, hS1, hB1.2.2.2.2.2⟩) T' rfl X'
  exact ⟨t2, st _ a1, r1⟩
/-- new, dup, and the constructor, where the new block is a part of the block -/
theorem g_new (X : bCx p s m args meth c own cc nL D E) (hB : gB D E L a v s n ci fs hs H locs) {y : MethodName} {bytes : ByteArray} {maxL d N ciy o mm ix is : Nat} {Ly : List bC} {f0 : List Value} {Z : bM → Prop} {C host : String} {T : u_T} {ty : Nat → FieldType}
    (hM : nMet l y bytes maxL d mc ms Ly ciy f0 Z) (hY : nYv y C bytes maxL N) (hk : bKl ciy C T N ty) (hf0 : ∀ j, j < N → defaultValue (ty j) = vp_V f0 j) (hs9 : bSub L n o mm Ly) (hZ : Z (vw v o)) (hcl : Cond.classLink own ix C ∈ wAll) (hw : Cond.methodLinkNest own is y host ∈ bNest ∨ Cond.methodLink own is y ∈ wAll) (hR : d + 1 ≤ R.frames ∧ 8 + (maxL + 11) + 40 * d ≤ R.locals) (hsize : ls.size = nL) (hW : (rest.map fun v => v.category).sum ≤ 7)
    (hf : cells + 1 + mc ≤ R.cells ∧ slots + N + ms ≤ R.slots) (d0 : decode cc pc = .ok (.new ix, 3)) (d3 : decode cc (pc + 3) = .ok (.dup, 1)) (d4 : decode cc (pc + 4) = .ok (.invokespecial is, 3))
    (kk : ∀ (H1 : Heap) (locs1 : List Loc), gB D E L a v s (n + Ly.length) ci fs hs H1 locs1 → W p l e R s m args below meth c H1 locs1 (cells + 1 + mc) (slots + N + ms) Q (F0 m (pc + 7) ls (.ref (a + n) :: rest))) : W p l e R s m args below meth c H locs cells slots Q (F0 m pc ls rest) := by
  refine g_newT X hB hM hY hk hf0 hs9.2.2.2.2.1 (fun H1 hblk k d9 hd9 h1 h2 => ?_) hZ hcl hw hR hsize hW hf d0 d3 d4 kk
  obtain ⟨j, rfl⟩ : ∃ j, k = n + j := ⟨k - n, by omega⟩
  obtain ⟨d8, hd8⟩ : ∃ d8, Ly[j]? = some d8 := ⟨_, List.getElem?_eq_getElem (show j < Ly.length by omega)⟩
  have := hs9.at hd8
  rw [hd9] at this
  cases this
  exact (bAt_sh (List.all_eq_true.mp hs9.2.1 d8 (List.mem_of_getElem? hd8))).mpr (hblk j d8 hd8)
end GROWS
