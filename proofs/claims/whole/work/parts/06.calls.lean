/-! ===== contracts over a flat block, and calls ===== -/
def rmOf (d mc ms : Nat) : Room := { frames := d, cells := mc, slots := ms, locals := 40 * d }
/-- what a method wants of its start, but its arguments -/
def bPre (D : va_G) (E : bE) (L : List bC) (a : Nat) (v : bM) (sz : Nat) : State → Prop := fun U => U.heap.size = sz ∧ Blk D E L a v U.heap ∧ bK D E U ∧ a + L.length ≤ E.2 ∧ E.2 ≤ sz ∧ bTx U E a U.heap
def bPost (D : va_G) (E : bE) (L : List bC) (a : Nat) (v : bM) (sz : Nat) (res : Option Value) : Array Value → State → Outcome → State → Prop := fun _ st o t => o = .returned res ∧ Blk D E L a v t.heap ∧ va_F (bA a L.length sz) st t
/-- method y, on its block L with the numbers v, answers res and leaves the numbers v' -/
def bMet (l : Launch) (y : MethodName) (bytes : ByteArray) (maxL : Nat) (ret : Option FieldType) (d mc ms : Nat) (L : List bC) (args : bE → Nat → List Value) (v v' : bM) (res : bE → Option Value) : Prop :=
  ∀ (D : va_G) (E : bE) (a sz : Nat), Met l y (.code y bytes maxL ret :: wAll) (rmOf d mc ms) (va_Pc (args E a) (bPre D E L a v sz)) (bPost D E L a v' sz (res E)) mc ms (bA a L.length sz)
def bQ (below : List Frame) (D : va_G) (E : bE) (L : List bC) (a : Nat) (v : bM) (res : Option Value) (args : Array Value) (s : State) (mc ms : Nat) : State → Prop := MQ below (bPost D E L a v s.heap.size res) args s mc ms (bA a L.length s.heap.size)
theorem nest_form : ∀ w ∈ bNest, ∃ (a : String) (i : Nat) (x : MethodName) (h : String), w = .methodLinkNest a i x h := by
  intro w hw
  simp only [bNest, List.mem_cons, List.not_mem_nil, or_false] at hw
  rcases hw with h | h | h | h | h | h | h | h | h | h | h | h | h | h <;> exact ⟨_, _, _, _, h⟩
theorem bK.moved {D : va_G} {E : bE} {s U : State} (hW : s.WarmedH U.vm) (h : bK D E s) : bK D E U := by
  refine ⟨va_K.moved hW.alike h.1, fun w hw => ?_, fun i q hq => vk_R.warm hW (h.2.2.1 i q hq), h.2.2.2.moved hW⟩
  obtain ⟨a, i, x, q, rfl⟩ := nest_form w hw
  exact va_Nw.warmM hW (h.2.1 _ hw)
theorem bK.same {D : va_G} {E : bE} {u U : State} (hv : u.vm = U.vm) (h : bK D E u) : bK D E U := by
  refine ⟨va_K.moved (by rw [hv]; exact Vm.Alike.refl _) h.1, fun w hw => ?_, fun i q hq => vk_R.same hv.symm (h.2.2.1 i q hq), h.2.2.2.moved (by rw [← hv]; exact State.WarmedH.refl u)⟩
  obtain ⟨a, i, x, q, rfl⟩ := nest_form w hw
  exact va_Nw.same rfl hv (h.2.1 _ hw)
theorem bTx.moved {u U : State} {E : bE} {a : Nat} {H : Heap} (hv : u.vm.Alike U.vm) (h : bTx u E a H) : bTx U E a H := by
  obtain ⟨⟨g1, g2, g3, g4, g5, g6, g7, g8⟩, h⟩ := h
  refine ⟨⟨g1.moved hv, g2.moved hv, g3.moved hv, g4.moved hv, g5.moved hv, g6.moved hv, g7.moved hv, g8.moved hv⟩, fun i t ht => ?_⟩
  obtain ⟨h1, h2, h3, h4⟩ := h i t ht
  exact ⟨h1.moved hv, h2.moved hv, h3.moved hv, h4.moved hv⟩
theorem bBlind (D : va_G) (E : bE) (L : List bC) (a : Nat) (v : bM) (sz : Nat) (As : List Value) : FrameBlind (va_Pc As (bPre D E L a v sz)) := fun a0 U g mk q => ⟨q.1, q.2.1, q.2.2.1, bK.same (u := U) (U := U.calling g mk a0) rfl q.2.2.2.1, q.2.2.2.2.1, q.2.2.2.2.2.1, bTx.moved (u := U) (U := U.calling g mk a0) (Vm.Alike.refl U.vm) q.2.2.2.2.2.2⟩
/-- a method's body: its locals, its world; the goal is W from its first instruction -/
theorem bk_start {l : Launch} {y : MethodName} {cc : ByteArray} {maxL : Nat} {ret : Option FieldType} {d mc ms : Nat} {L : List bC} {As : bE → Nat → List Value} {v v' : bM} {res : bE → Option Value} (hy : plainFor y = true) (hwf : bWf L) (hA : ∀ E a, (lg_sl (As E a)).length ≤ maxL)
    (body : ∀ (p : Program) (e : Env) (s : State) (m : MethodId) (args : Array Value) (below : List Frame) (meth : Method) (c : Code) (D : va_G) (E : bE) (a : Nat) (ls : Array Slot) (H : Heap) (locs : List Loc), bCx p s m args meth c y.cls cc maxL D E → meth.sig.returnType = ret → lv_has ls maxL (lv_args 0 (As E a)) → bB D E L a v s H locs →
      W p l e (rmOf d mc ms) s m args below meth c H locs 0 0 (bQ below D E L a v' (res E) args s mc ms) (F0 m 0 ls [])) : bMet l y cc maxL ret d mc ms L As v v' res := by
  intro D E a sz
  refine va_MetF (cc := cc) (maxL := maxL) (ret := ret) hy rfl ?_
  intro p e s m args below meth c s₁ B hml hv
  obtain ⟨rfl, hsz, hB, hK, h4, h5, h6⟩ := hv
  subst hsz
  have hts := atoms_spec (ws := .code y cc maxL ret :: wAll) B.pre
  have hl := lv_entry (As E a) (n := maxL) (hA E a)
  rw [lg_entry_eq]
  generalize (lg_sl (As E a) ++ List.replicate (maxL - (lg_sl (As E a)).length) Slot.unset).toArray = ls at hl ⊢
  exact body p e s m _ below meth c D E a ls _ _ ⟨B.exec, B.bytes, hml, findClass_of_methodNamed B.named, fun w hw => hts w (List.mem_cons_of_mem _ hw), hK, B.notSynchronized⟩ B.returns hl ⟨hB, va_S.rf, hwf, h4, h5, h6⟩
section ENDS
variable {p : Program} {l : Launch} {e : Env} {R : Room} {s : State} {m : MethodId} {args : Array Value} {below : List Frame} {meth : Method} {c : Code} {H : Heap} {locs : List Loc} {cells slots : Nat} {Q : State → Prop}
variable {cc : ByteArray} {pc : Nat} {ls : Array Slot} {rest : List Value} {D : va_G} {E : bE} {own : String} {nL : Nat} {L : List bC} {a : Nat} {v : bM} {mc ms : Nat}
theorem bk_iret (X : bCx p s m args meth c own cc nL D E) {ret : Option FieldType} (hr : meth.sig.returnType = ret) (hret : ret = some .int) {x : Int32} (hB : bB D E L a v s H locs) (hc : cells ≤ mc) (hs : slots ≤ ms) (hdg : decode cc pc = .ok (.ireturn, 1)) : W p l e R s m args below meth c H locs cells slots (bQ below D E L a v (some (.int x)) args s mc ms) (F0 m pc ls [.int x]) := by
  have hlocks := X.2.2.2.2.2.2
  unfold bQ
  refine W.widen hc hs ?_
  exact W.iret X.1 X.2.1 (hr.trans hret) (fun t ht _ => ⟨rfl, by rw [ht]; exact hB.1, hB.2.1.F ht⟩) hB.2.1.2.2 hdg
theorem bk_zret (X : bCx p s m args meth c own cc nL D E) {ret : Option FieldType} (hr : meth.sig.returnType = ret) (hret : ret = some .boolean) {x : Int32} (hn : narrow .boolean (.int x) = .int x) (hB : bB D E L a v s H locs) (hc : cells ≤ mc) (hs : slots ≤ ms) (hdg : decode cc pc = .ok (.ireturn, 1)) : W p l e R s m args below meth c H locs cells slots (bQ below D E L a v (some (.int x)) args s mc ms) (F0 m pc ls [.int x]) := by
  have hlocks := X.2.2.2.2.2.2
  unfold bQ
  refine W.widen hc hs ?_
  exact W.zret X.1 X.2.1 (hr.trans hret) hn (fun t ht _ => ⟨rfl, by rw [ht]; exact hB.1, hB.2.1.F ht⟩) hB.2.1.2.2 hdg
theorem bk_vret (X : bCx p s m args meth c own cc nL D E) {ret : Option FieldType} (hr : meth.sig.returnType = ret) (hret : ret = none) (hB : bB D E L a v s H locs) (hc : cells ≤ mc) (hs : slots ≤ ms) (hdg : decode cc pc = .ok (.return_, 1)) : W p l e R s m args below meth c H locs cells slots (bQ below D E L a v none args s mc ms) (F0 m pc ls []) := by
  have hlocks := X.2.2.2.2.2.2
  unfold bQ
  refine W.widen hc hs ?_
  exact W.vret X.1 X.2.1 (hr.trans hret) (fun t ht _ => ⟨rfl, by rw [ht]; exact hB.1, hB.2.1.F ht⟩) hB.2.1.2.2 hdg
theorem bk_iW (X : bCx p s m args meth c own cc nL D E) {ret : Option FieldType} (hr : meth.sig.returnType = ret) (hret : ret = some .int) {x r0 : Int32} {w0 : bM} (hf : (some (x, v) : Option (Int32 × bM)) = some (r0, w0)) (hB : bB D E L a v s H locs) (hc : cells ≤ mc) (hs : slots ≤ ms) (hdg : decode cc pc = .ok (.ireturn, 1)) : W p l e R s m args below meth c H locs cells slots (bQ below D E L a w0 (some (.int r0)) args s mc ms) (F0 m pc ls [.int x]) := by
  cases hf
  exact bk_iret X hr hret hB hc hs hdg
theorem bk_iR (X : bCx p s m args meth c own cc nL D E) {ret : Option FieldType} (hr : meth.sig.returnType = ret) (hret : ret = some .int) {x r0 : Int32} (hf : (some x : Option Int32) = some r0) (hB : bB D E L a v s H locs) (hc : cells ≤ mc) (hs : slots ≤ ms) (hdg : decode cc pc = .ok (.ireturn, 1)) : W p l e R s m args below meth c H locs cells slots (bQ below D E L a v (some (.int r0)) args s mc ms) (F0 m pc ls [.int x]) := by
  cases hf
  exact bk_iret X hr hret hB hc hs hdg
theorem nar_z {x : Int32} (h : vp_in x 2) : narrow .boolean (.int x) = .int x := by
  obtain ⟨j, h1, rfl⟩ := vp_in_of h (by decide)
  match j, h1 with
  | 0, _ => rfl
  | 1, _ => rfl
  | j + 2, h => omega
theorem bk_zW (X : bCx p s m args meth c own cc nL D E) {ret : Option FieldType} (hr : meth.sig.returnType = ret) (hret : ret = some .boolean) {x r0 : Int32} {w0 : bM} (hn : narrow .boolean (.int x) = .int x) (hf : (some (x, v) : Option (Int32 × bM)) = some (r0, w0)) (hB : bB D E L a v s H locs) (hc : cells ≤ mc) (hs : slots ≤ ms) (hdg : decode cc pc = .ok (.ireturn, 1)) : W p l e R s m args below meth c H locs cells slots (bQ below D E L a w0 (some (.int r0)) args s mc ms) (F0 m pc ls [.int x]) := by
  cases hf
  exact bk_zret X hr hret hn hB hc hs hdg
theorem bk_zR (X : bCx p s m args meth c own cc nL D E) {ret : Option FieldType} (hr : meth.sig.returnType = ret) (hret : ret = some .boolean) {x r0 : Int32} (hn : narrow .boolean (.int x) = .int x) (hf : (some x : Option Int32) = some r0) (hB : bB D E L a v s H locs) (hc : cells ≤ mc) (hs : slots ≤ ms) (hdg : decode cc pc = .ok (.ireturn, 1)) : W p l e R s m args below meth c H locs cells slots (bQ below D E L a v (some (.int r0)) args s mc ms) (F0 m pc ls [.int x]) := by
  cases hf
  exact bk_zret X hr hret hn hB hc hs hdg
theorem bk_vW (X : bCx p s m args meth c own cc nL D E) {ret : Option FieldType} (hr : meth.sig.returnType = ret) (hret : ret = none) {w0 : bM} (hf : (some v : Option bM) = some w0) (hB : bB D E L a v s H locs) (hc : cells ≤ mc) (hs : slots ≤ ms) (hdg : decode cc pc = .ok (.return_, 1)) : W p l e R s m args below meth c H locs cells slots (bQ below D E L a w0 none args s mc ms) (F0 m pc ls []) := by
  cases hf
  exact bk_vret X hr hret hB hc hs hdg
/-- what of a method a call wants to know: its class, its number of arguments, its words -/
def bYv (y : MethodName) (C : String) (bytes : ByteArray) (maxL : Nat) (ret : Option FieldType) (n : Nat) : Prop := (y.cls = C ∧ y.cls ≠ "java/lang/invoke/MethodHandle" ∧ y.cls ≠ "java/lang/invoke/VarHandle" ∧ (parseMethodDescriptor y.desc).map (fun d => d.parameters.length) = some n) ∧ Cond.instanceMethod y ∈ wAll ∧ Cond.selects C y y ∈ wAll ∧ Cond.initialized C ∈ wAll ∧ Cond.code y bytes maxL ret ∈ wAll
def bYs (y : MethodName) (C : String) (bytes : ByteArray) (maxL : Nat) (ret : Option FieldType) (n : Nat) : Prop := (y.cls = C ∧ y.cls ≠ "java/lang/invoke/MethodHandle" ∧ y.cls ≠ "java/lang/invoke/VarHandle" ∧ (parseMethodDescriptor y.desc).map (fun d => d.parameters.length) = some n) ∧ Cond.static y ∈ wAll ∧ Cond.initialized C ∈ wAll ∧ Cond.code y bytes maxL ret ∈ wAll
theorem wAll_good {w : Cond} (h : w ∈ wAll) : (w.onTables && w.keeps) = true ∨ ∃ ty, w = .arrayClass ty := by
  unfold wAll at h
  exact good_of_word (List.mem_filter.mp h).2
theorem wGood {ws : List Cond} (h : ∀ w ∈ ws, w ∈ wAll) : GoodIn wAll ws := fun w hw => ⟨h w hw, wAll_good (h w hw)⟩
theorem wGoodC {y : MethodName} {bytes : ByteArray} {maxL : Nat} {ret : Option FieldType} (h : Cond.code y bytes maxL ret ∈ wAll) : GoodIn wAll (.code y bytes maxL ret :: wAll) := wGood (fun w hw => (List.mem_cons.mp hw).elim (fun q => q ▸ h) id)
abbrev bRun (p : Program) (l : Launch) (e : Env) (R : Room) (s : State) (m : MethodId) (args : Array Value) (below : List Frame) (meth : Method) (c : Code) (H : Heap) (locs : List Loc) (cells slots mc ms : Nat) (g : JFrame) (rest : List Value) (D : va_G) (E : bE) (L : List bC) (a : Nat) (v : bM) (res : Option Value) : Prop :=
  va_Run p l e R s m args below meth c H locs cells slots mc ms g rest (fun st o t => o = .returned res ∧ Blk D E L a v t.heap ∧ va_F (bA a L.length H.size) st t) (bA a L.length H.size)
theorem bk_runVr (X : bCx p s m args meth c own cc nL D E) {y : MethodName} {bytes : ByteArray} {maxL d n index : Nat} {ret : Option FieldType} {Ly : List bC} {As : bE → Nat → List Value} {w w' : bM} {res : bE → Option Value} {C : String} {b b0 : Nat} {Av : List Value}
    (hM : bMet l y bytes maxL ret d mc ms Ly As w w' res) (hY : bYv y C bytes maxL ret n) (hw : Cond.methodLink own index y ∈ wAll) (hR : d + 1 ≤ R.frames ∧ 8 + (maxL + 11) + 40 * d ≤ R.locals) (hAs : As E b = .ref b0 :: Av) (hn : Av.length = n) (hsize : ls.size = nL)
    (hrc : ∃ cell : Cell, H[b0]? = some cell ∧ cell.vm.isStatics = false ∧ s.vm.findClass C = some cell.cls)
    (hB : Blk D E Ly b w H) (h4 : b + Ly.length ≤ E.2) (h5 : E.2 ≤ H.size ∧ bTx s E b H) (hW : (rest.map fun v => v.category).sum ≤ 8) (hf : cells + mc ≤ R.cells ∧ slots + ms ≤ R.slots) (hdg : decode cc pc = .ok (.invokevirtual index, 3)) : bRun p l e R s m args below meth c H locs cells slots mc ms (F0 m pc ls (Av.reverse ++ .ref b0 :: rest)) rest D E Ly b w' (res E) := by
  obtain ⟨hd, hwi, hws, hwn, hwc⟩ := hY
  have hC := hd.1
  refine va_runV (C := C) (As := Av) (rest := rest) (b := b0) (Ts := wAll) ⟨X.1, X.2.1, X.2.2.1, X.2.2.2.1, X.2.2.2.2.1⟩ (hM D E b H.size) (cwV n X.2.2.2.2.1 ?_ rfl rfl rfl hd hR) ⟨bBlind D E Ly b w H.size (As E b), hrc, fun U hU hWa => ⟨by rw [hAs], by rw [hU], by rw [hU]; exact hB, X.2.2.2.2.2.1.moved hWa, h4, h5.1, by rw [hU]; exact bTx.moved hWa.alike h5.2⟩⟩ rfl hn hsize rfl (lv_room hW) hdg hf
  refine wGood (fun w hw2 => ?_)
  rcases List.mem_append.mp hw2 with h | h
  · simp only [List.mem_cons, List.not_mem_nil, or_false] at h
    rcases h with rfl | rfl | rfl | rfl
    · exact hw
    · exact hwi
    · exact hws
    · exact hwn
  · exact ((wGoodC hwc) w h).1
theorem bk_runV (X : bCx p s m args meth c own cc nL D E) {y : MethodName} {bytes : ByteArray} {maxL d n index ci : Nat} {ret : Option FieldType} {Ly : List bC} {As : bE → Nat → List Value} {w w' : bM} {res : bE → Option Value} {C : String} {fs : List Value} {b b0 : Nat} {Av : List Value}
    (hM : bMet l y bytes maxL ret d mc ms Ly As w w' res) (hY : bYv y C bytes maxL ret n) (hw : Cond.methodLink own index y ∈ wAll) (hR : d + 1 ≤ R.frames ∧ 8 + (maxL + 11) + 40 * d ≤ R.locals) (hAs : As E b = .ref b0 :: Av) (hn : Av.length = n) (hsize : ls.size = nL)
    {T : u_T} {N : Nat} (hcl : vwCl[ci]? = some (C, T, N)) (hrc : va_at D vwCl (b0, .inr (ci, fs)) H)
    (hB : Blk D E Ly b w H) (h4 : b + Ly.length ≤ E.2) (h5 : E.2 ≤ H.size ∧ bTx s E b H) (hW : (rest.map fun v => v.category).sum ≤ 8) (hf : cells + mc ≤ R.cells ∧ slots + ms ≤ R.slots) (hdg : decode cc pc = .ok (.invokevirtual index, 3)) : bRun p l e R s m args below meth c H locs cells slots mc ms (F0 m pc ls (Av.reverse ++ .ref b0 :: rest)) rest D E Ly b w' (res E) :=
  bk_runVr X hM hY hw hR hAs hn hsize (va_recv (ws := [(b0, .inr (ci, fs))]) (q0 := 0) (X.2.2.2.2.2.1.1) (va_P.one hrc) hcl rfl) hB h4 h5 hW hf hdg
theorem bk_runS (X : bCx p s m args meth c own cc nL D E) {y : MethodName} {bytes : ByteArray} {maxL d n index : Nat} {ret : Option FieldType} {Ly : List bC} {As : bE → Nat → List Value} {w w' : bM} {res : bE → Option Value} {b : Nat} {Av : List Value} {C : String}
    (hM : bMet l y bytes maxL ret d mc ms Ly As w w' res) (hY : bYs y C bytes maxL ret n) (hw : Cond.methodLink own index y ∈ wAll) (hR : d + 1 ≤ R.frames ∧ 8 + (maxL + 11) + 40 * d ≤ R.locals) (hAs : As E b = Av) (hn : Av.length = n) (hsize : ls.size = nL)
    (hB : Blk D E Ly b w H) (h4 : b + Ly.length ≤ E.2) (h5 : E.2 ≤ H.size ∧ bTx s E b H) (hW : (rest.map fun v => v.category).sum ≤ 8) (hf : cells + mc ≤ R.cells ∧ slots + ms ≤ R.slots) (hdg : decode cc pc = .ok (.invokestatic index, 3)) : bRun p l e R s m args below meth c H locs cells slots mc ms (F0 m pc ls (Av.reverse ++ rest)) rest D E Ly b w' (res E) := by
  obtain ⟨⟨hC, hd⟩, hwi, hwn, hwc⟩ := hY
  subst hC
  exact va_runS (As := Av) (rest := rest) (Ts := wAll) ⟨X.1, X.2.1, X.2.2.1, X.2.2.2.1, X.2.2.2.2.1⟩ (hM D E b H.size) ⟨callB_of n X.2.2.2.2.1 (wGoodC hwc) rfl rfl rfl (X.2.2.2.2.1 _ hwn) (X.2.2.2.2.1 _ hw) hd hR, X.2.2.2.2.1 _ hwi⟩ ⟨bBlind D E Ly b w H.size (As E b), fun U hU hWa => ⟨by rw [hAs], by rw [hU], by rw [hU]; exact hB, X.2.2.2.2.2.1.moved hWa, h4, h5.1, by rw [hU]; exact bTx.moved hWa.alike h5.2⟩⟩ rfl hn hsize rfl (lv_room hW) hdg hf
theorem bk_runSN (X : bCx p s m args meth c own cc nL D E) {y : MethodName} {bytes : ByteArray} {maxL d n index : Nat} {ret : Option FieldType} {Ly : List bC} {As : bE → Nat → List Value} {w w' : bM} {res : bE → Option Value} {b : Nat} {Av : List Value} {C host : String}
    (hM : bMet l y bytes maxL ret d mc ms Ly As w w' res) (hY : bYs y C bytes maxL ret n) (hw : Cond.methodLinkNest own index y host ∈ bNest) (hR : d + 1 ≤ R.frames ∧ 8 + (maxL + 11) + 40 * d ≤ R.locals) (hAs : As E b = Av) (hn : Av.length = n) (hsize : ls.size = nL)
    (hB : Blk D E Ly b w H) (h4 : b + Ly.length ≤ E.2) (h5 : E.2 ≤ H.size ∧ bTx s E b H) (hW : (rest.map fun v => v.category).sum ≤ 8) (hf : cells + mc ≤ R.cells ∧ slots + ms ≤ R.slots) (hdg : decode cc pc = .ok (.invokestatic index, 3)) : bRun p l e R s m args below meth c H locs cells slots mc ms (F0 m pc ls (Av.reverse ++ rest)) rest D E Ly b w' (res E) := by
  obtain ⟨⟨hC, hd⟩, hwi, hwn, hwc⟩ := hY
  subst hC
  exact va_runSN (As := Av) (rest := rest) (Ts := wAll) ⟨X.1, X.2.1, X.2.2.1, X.2.2.2.1, X.2.2.2.2.1⟩ (hM D E b H.size) ⟨va_cnB n X.2.2.2.2.1 (wGoodC hwc) rfl rfl rfl (X.2.2.2.2.2.1.2.1 _ hw) (X.2.2.2.2.1 _ hwn) hd hR, X.2.2.2.2.1 _ hwi, trivial⟩ ⟨bBlind D E Ly b w H.size (As E b), fun U hU hWa => ⟨by rw [hAs], by rw [hU], by rw [hU]; exact hB, X.2.2.2.2.2.1.moved hWa, h4, h5.1, by rw [hU]; exact bTx.moved hWa.alike h5.2⟩⟩ rfl hn hsize rfl (lv_room hW) hdg hf
/-- behind a call: what the callee's block holds, and that all else stays -/
theorem bk_go {Ly : List bC} {w' : bM} {b : Nat} {st0 : List Value} {res : Option Value} {A : Nat → Prop} (hr : bRun p l e R s m args below meth c H locs cells slots mc ms (F0 m pc ls st0) rest D E Ly b w' res) (hS : va_S A s.heap H locs) (hA : ∀ q, bA b Ly.length H.size q → A q)
    (kk : ∀ (H1 : Heap) (locs1 : List Loc), Blk D E Ly b w' H1 → H.size ≤ H1.size → (∀ q : Nat, q < H.size → ¬ bA b Ly.length H.size q → H1[q]? = H[q]?) → va_S A s.heap H1 locs1 → W p l e R s m args below meth c H1 locs1 (cells + mc) (slots + ms) Q (F0 m (pc + 3) ls (res.toList ++ rest))) : W p l e R s m args below meth c H locs cells slots Q (F0 m pc ls st0) := by
  intro T hT X
  obtain ⟨v, st₀, t, T', L, h0, X', hL, e1, e2, ⟨hv, hb, hz, hk⟩, st⟩ := hr T hT X
  cases hv
  rw [h0] at hz hk
  obtain ⟨t2, a1, b1⟩ := kk T'.heap (locs ++ L) (by rw [e1]; exact hb) (by rw [e1]; exact hz) (fun q h1 h2 => by rw [e1]; exact hk q h1 h2)
    ⟨Nat.le_trans hS.1 (by rw [e1]; exact hz), fun q h1 h2 => by rw [e1, hk q (Nat.lt_of_lt_of_le h1 hS.1) (fun z => h2 (hA q z))]; exact hS.2.1 q h1 h2, fun q hq => by
      rcases List.mem_append.mp hq with h | h
      · exact hS.2.2 q h
      · exact hA _ (hL q h)⟩ T' rfl X'
  exact ⟨t2, st _ a1, b1⟩
end ENDS
/-- a part of a block is a block of its own: its cells from k on, its numbers from o on -/
def bShF (k o : Nat) (f : bF) : bF := if f.1 = 1 then (1, k + f.2) else (f.1, o + f.2)
def bSh (k o : Nat) (d : bC) : bC := match d with
  | .inl x => .inl (x.1, x.2.map (bShF k o))
  | .inr q => if q.1 < 2 then .inr (q.1, q.2.1, o + q.2.2.1, q.2.2.2) else .inr (q.1, q.2.1, k + q.2.2.1, q.2.2.2)
/-- a part that may be moved: no states' indices, no texts; its numbers below mm -/
def bMv (mm : Nat) (d : bC) : Bool := (match d with
  | .inl x => x.2.all (fun f => decide (f.1 < 2))
  | .inr q => decide (q.1 < 8)) && decide ((bHull d).1 + (bHull d).2 ≤ mm)
/-- none of the numbers o, .., o + mm - 1 is the cell's -/
def bOff (o mm : Nat) (d : bC) : Bool := decide ((bHull d).2 = 0) || decide ((bHull d).1 + (bHull d).2 ≤ o) || decide (o + mm ≤ (bHull d).1)
def bSub (L : List bC) (k o mm : Nat) (Ly : List bC) : Prop := (L.drop k).take Ly.length = Ly.map (bSh k o) ∧ Ly.all (bMv mm) = true ∧ (L.take k).all (bOff o mm) = true ∧ (L.drop (k + Ly.length)).all (bOff o mm) = true ∧ k + Ly.length ≤ L.length ∧ bWf Ly
def vw (v : bM) (o : Nat) : bM := fun j => v (o + j)
def spl (v : bM) (o mm : Nat) (w : bM) : bM := fun j => if o ≤ j ∧ j < o + mm then w (j - o) else v j
theorem bSub.at {L Ly : List bC} {k o mm : Nat} (h : bSub L k o mm Ly) {j : Nat} {d : bC} (hj : Ly[j]? = some d) : L[k + j]? = some (bSh k o d) := by
  have hl := (List.getElem?_eq_some_iff.mp hj).1
  have h1 : ((L.drop k).take Ly.length)[j]? = (Ly.map (bSh k o))[j]? := by rw [h.1]
  rw [List.getElem?_take, if_pos hl, List.getElem?_drop, List.getElem?_map, hj] at h1
  exact h1
theorem bV_sh {a k o : Nat} {v : bM} {f : bF} (h : f.1 < 2) : bV a v (bShF k o f) = bV (a + k) (vw v o) f := by
  unfold bV bShF vw
  by_cases h1 : f.1 = 1
  · rw [if_pos h1]
    rw [if_neg (show ¬ (1 : Nat) = 0 by decide), if_pos (rfl : (1 : Nat) = 1), if_neg (by omega), if_pos h1]
    rw [show a + (k + f.2) = a + k + f.2 by omega]
  · rw [if_neg h1]
    rw [if_pos (show f.1 = 0 by omega), if_pos (show f.1 = 0 by omega)]
theorem bAt_sh {D : va_G} {E : bE} {a k o mm : Nat} {v : bM} {j : Nat} {d : bC} {H : Heap} (hm : bMv mm d = true) : bAt D E a v (k + j) (bSh k o d) H ↔ bAt D E (a + k) (vw v o) j d H := by
  unfold bMv at hm
  rw [Bool.and_eq_true] at hm
  cases d with
  | inl x =>
    show va_at D vwCl (a + (k + j), .inr (x.1, (x.2.map (bShF k o)).map (bV a v))) H ↔ va_at D vwCl (a + k + j, .inr (x.1, x.2.map (bV (a + k) (vw v o)))) H
    rw [List.map_map, show a + (k + j) = a + k + j by omega]
    rw [List.map_congr_left (f := bV a v ∘ bShF k o) (g := bV (a + k) (vw v o)) (fun f hf => bV_sh (of_decide_eq_true (List.all_eq_true.mp hm.1 f hf)))]
  | inr q =>
    have h8 : q.1 < 8 := of_decide_eq_true hm.1
    unfold bSh
    dsimp only
    by_cases h2 : q.1 < 2
    · rw [if_pos h2]
      unfold bAt
      dsimp only
      rw [if_pos h8, if_pos h8]
      have e : bX a v (q.1, q.2.1, o + q.2.2.1, q.2.2.2) = bX (a + k) (vw v o) q := by
        unfold bX vw
        dsimp only
        rw [if_pos h2, if_pos h2]
        have : (fun j => v (o + q.2.2.1 + j)) = fun j => v (o + (q.2.2.1 + j)) := funext fun j => by rw [Nat.add_assoc]
        rw [this]
      rw [e, show a + (k + j) = a + k + j by omega]
    · rw [if_neg h2]
      unfold bAt
      dsimp only
      rw [if_pos h8, if_pos h8]
      have e : bX a v (q.1, q.2.1, k + q.2.2.1, q.2.2.2) = bX (a + k) (vw v o) q := by
        unfold bX
        dsimp only
        rw [if_neg h2, if_neg h2]
        have : (fun i => some (a + (k + q.2.2.1 + q.2.2.2 * i))) = fun i => some (a + k + (q.2.2.1 + q.2.2.2 * i)) := funext fun i => by rw [show a + (k + q.2.2.1 + q.2.2.2 * i) = a + k + (q.2.2.1 + q.2.2.2 * i) by omega]
        rw [this]
      rw [e, show a + (k + j) = a + k + j by omega]
theorem Blk.sub {D : va_G} {E : bE} {L Ly : List bC} {a k o mm : Nat} {v : bM} {H : Heap} (hs : bSub L k o mm Ly) (hB : Blk D E L a v H) : Blk D E Ly (a + k) (vw v o) H := fun j d hj => (bAt_sh (List.all_eq_true.mp hs.2.1 d (List.mem_of_getElem? hj))).mp (hB (k + j) _ (hs.at hj))
theorem bIn_lt {mm : Nat} {d : bC} {x : Nat} (hm : bMv mm d = true) (h : bIn d x) : x < mm := by
  unfold bMv at hm
  rw [Bool.and_eq_true] at hm
  have := of_decide_eq_true hm.2
  have := h.2
  omega
/-- the part has changed, the rest hasn't -/
theorem Blk.put {D : va_G} {E : bE} {L Ly : List bC} {a k o mm : Nat} {v w : bM} {H H1 : Heap} (hwf : bWf L) (hs : bSub L k o mm Ly) (hlim : a + L.length ≤ E.2) (hB : Blk D E L a v H) (h1 : Blk D E Ly (a + k) w H1) (hk : ∀ q : Nat, q < H.size → ¬ bA (a + k) Ly.length H.size q → H1[q]? = H[q]?) : Blk D E L a (spl v o mm w) H1 := by
  intro i e he
  have hlen := hs.2.2.2.2.1
  by_cases hin : k ≤ i ∧ i < k + Ly.length
  · obtain ⟨j, rfl⟩ : ∃ j, i = k + j := ⟨i - k, by omega⟩
    obtain ⟨d, hd⟩ : ∃ d, Ly[j]? = some d := ⟨_, List.getElem?_eq_getElem (show j < Ly.length by omega)⟩
    have := hs.at hd
    rw [he] at this
    cases this
    have hm := List.all_eq_true.mp hs.2.1 d (List.mem_of_getElem? hd)
    refine (bAt_sh hm).mpr (bAt_congr hs.2.2.2.2.2 hd (fun x hx => ?_) (h1 j d hd))
    have hx2 := bIn_lt hm hx
    unfold vw spl
    rw [if_pos ⟨by omega, by omega⟩, Nat.add_sub_cancel_left]
  · have hoff : bOff o mm e = true := by
      by_cases hi : i < k
      · exact List.all_eq_true.mp hs.2.2.1 e (List.mem_of_getElem? (i := i) (by rw [List.getElem?_take, if_pos hi]; exact he))
      · exact List.all_eq_true.mp hs.2.2.2.1 e (List.mem_of_getElem? (i := i - (k + Ly.length)) (by rw [List.getElem?_drop, show k + Ly.length + (i - (k + Ly.length)) = i by omega]; exact he))
    have hb2 : bAt D E a (spl v o mm w) i e H := by
      refine bAt_congr hwf he (fun x hx => ?_) (hB i e he)
      unfold spl
      rw [if_neg]
      intro hx2
      have h3 := hx.1
      have h4 := hx.2
      unfold bOff at hoff
      rw [Bool.or_eq_true, Bool.or_eq_true, decide_eq_true_eq, decide_eq_true_eq, decide_eq_true_eq] at hoff
      omega
    have hil := (List.getElem?_eq_some_iff.mp he).1
    refine bAt_kept hb2 ?_ (fun q hq hor hz => hk q hq (fun z => ?_))
    · intro hlt
      exact hk _ hlt (fun z => by rcases z with z | z <;> omega)
    · obtain ⟨x, rfl, hx9⟩ := hz
      rcases z with z | z
      · rcases hor with r | r
        · obtain ⟨y, y1, y2⟩ := bHl_at L i x hwf.2.2 he hx9
          have e1 : ∃ j, i + 1 = k + j ∧ j < Ly.length := ⟨i + 1 - k, by omega, by omega⟩
          obtain ⟨j, e1, e2⟩ := e1
          obtain ⟨d, hd⟩ : ∃ d, Ly[j]? = some d := ⟨_, List.getElem?_eq_getElem e2⟩
          have h7 := hs.at hd
          rw [← e1, y1] at h7
          have hm := List.all_eq_true.mp hs.2.1 d (List.mem_of_getElem? hd)
          unfold bMv at hm
          rw [Bool.and_eq_true] at hm
          cases d with
          | inl u => cases h7
          | inr u =>
            have hu : u.1 < 8 := of_decide_eq_true hm.1
            have h7 := Option.some.inj h7
            unfold bSh at h7
            dsimp only at h7
            split at h7
            · have := congrArg (fun t : bC => match t with | .inr z => z.1 | .inl _ => 0) h7
              dsimp only at this
              omega
            · have := congrArg (fun t : bC => match t with | .inr z => z.1 | .inl _ => 0) h7
              dsimp only at this
              omega
        · omega
      · omega
section SUBCALL
variable {p : Program} {l : Launch} {e : Env} {R : Room} {s : State} {m : MethodId} {args : Array Value} {below : List Frame} {meth : Method} {c : Code} {H : Heap} {locs : List Loc} {cells slots : Nat} {Q : State → Prop}
variable {pc : Nat} {ls : Array Slot} {rest : List Value} {D : va_G} {E : bE} {L : List bC} {a : Nat} {v : bM} {mc ms : Nat}
theorem bTx.le {U : State} {E : bE} {a b : Nat} {H : Heap} (h : bTx U E a H) (hab : a ≤ b) : bTx U E b H := by
  have hn : ∀ q : Nat, b ≤ q → a ≤ q := fun q hq => Nat.le_trans hab hq
  obtain ⟨⟨g1, g2, g3, g4, g5, g6, g7, g8⟩, h⟩ := h
  refine ⟨⟨g1.narrow hn, g2.narrow hn, g3.narrow hn, g4.narrow hn, g5.narrow hn, g6.narrow hn, g7.narrow hn, g8.narrow hn⟩, fun i t ht => ?_⟩
  obtain ⟨h1, h2, h3, h4⟩ := h i t ht
  exact ⟨h1.narrow hn, h2.narrow hn, h3.narrow hn, h4.narrow hn⟩
theorem bTx.kept {U : State} {E : bE} {a : Nat} {H H1 : Heap} (h : bTx U E a H) (hk : ∀ q : Nat, q < H.size → ¬ a ≤ q → H1[q]? = H[q]?) : bTx U E a H1 := by
  obtain ⟨⟨g1, g2, g3, g4, g5, g6, g7, g8⟩, h⟩ := h
  refine ⟨⟨g1.kept hk, g2.kept hk, g3.kept hk, g4.kept hk, g5.kept hk, g6.kept hk, g7.kept hk, g8.kept hk⟩, fun i t ht => ?_⟩
  obtain ⟨h1, h2, h3, h4⟩ := h i t ht
  exact ⟨h1.kept hk, h2.kept hk, h3.kept hk, h4.kept hk⟩
theorem bB.tx {D : va_G} {E : bE} {L : List bC} {a : Nat} {v : bM} {s : State} {H : Heap} {locs : List Loc} (hB : bB D E L a v s H locs) : bTx s E a H := by
  obtain ⟨h1, h2, h3, h4, h5, h6⟩ := hB
  refine h6.kept (fun q hz hq => h2.2.1 q hz ?_)
  intro z
  rcases z with z | z <;> omega
theorem bB.lim {D : va_G} {E : bE} {L : List bC} {a : Nat} {v : bM} {s : State} {H : Heap} {locs : List Loc} (hB : bB D E L a v s H locs) : E.2 ≤ H.size := Nat.le_trans hB.2.2.2.2.1 hB.2.1.1
theorem bB.subA {D : va_G} {E : bE} {L : List bC} {a : Nat} {v : bM} {s : State} {H : Heap} {locs : List Loc} (hB : bB D E L a v s H locs) {k n : Nat} (hk : k + n ≤ L.length) : ∀ q, bA (a + k) n H.size q → bA a L.length s.heap.size q := by
  intro q h
  have := hB.2.1.1
  rcases h with h | h
  · exact Or.inl ⟨by omega, by omega⟩
  · exact Or.inr (by omega)
/-- a call on a part of the block that may change it -/
theorem bk_sub {Ly : List bC} {w' : bM} {k o mm : Nat} {st0 : List Value} {res : Option Value} (hs : bSub L k o mm Ly) (hB : bB D E L a v s H locs)
    (hr : Blk D E Ly (a + k) (vw v o) H → a + k + Ly.length ≤ E.2 → E.2 ≤ H.size ∧ bTx s E (a + k) H → bRun p l e R s m args below meth c H locs cells slots mc ms (F0 m pc ls st0) rest D E Ly (a + k) w' res)
    (kk : ∀ (H1 : Heap) (locs1 : List Loc), bB D E L a (spl v o mm w') s H1 locs1 → W p l e R s m args below meth c H1 locs1 (cells + mc) (slots + ms) Q (F0 m (pc + 3) ls (res.toList ++ rest))) : W p l e R s m args below meth c H locs cells slots Q (F0 m pc ls st0) := by
  obtain ⟨h1, h2, h3, h4, h5⟩ := id hB
  have hlen := hs.2.2.2.2.1
  exact bk_go (hr (h1.sub hs) (by omega) ⟨hB.lim, hB.tx.le (by omega)⟩) h2 (hB.subA hlen) (fun H1 locs1 g1 _ g3 g4 => kk H1 locs1 ⟨h1.put h3 hs h4 g1 g3, g4, h3, h4, h5⟩)
theorem spl_self {v : bM} {o mm : Nat} : spl v o mm (vw v o) = v := by
  funext j
  unfold spl vw
  split
  · rw [show o + (j - o) = j by omega]
  · rfl
/-- a call on a part of the block that only reads it -/
theorem bk_subR {Ly : List bC} {k o mm : Nat} {st0 : List Value} {res : Option Value} (hs : bSub L k o mm Ly) (hB : bB D E L a v s H locs)
    (hr : Blk D E Ly (a + k) (vw v o) H → a + k + Ly.length ≤ E.2 → E.2 ≤ H.size ∧ bTx s E (a + k) H → bRun p l e R s m args below meth c H locs cells slots mc ms (F0 m pc ls st0) rest D E Ly (a + k) (vw v o) res)
    (kk : ∀ (H1 : Heap) (locs1 : List Loc), bB D E L a v s H1 locs1 → W p l e R s m args below meth c H1 locs1 (cells + mc) (slots + ms) Q (F0 m (pc + 3) ls (res.toList ++ rest))) : W p l e R s m args below meth c H locs cells slots Q (F0 m pc ls st0) :=
  bk_sub (mm := mm) hs hB hr (fun H1 locs1 g => kk H1 locs1 (by rw [spl_self] at g; exact g))
/-- a call on the block itself -/
theorem bk_all {w' : bM} {st0 : List Value} {res : Option Value} (hB : bB D E L a v s H locs)
    (hr : Blk D E L a v H → a + L.length ≤ E.2 → E.2 ≤ H.size ∧ bTx s E a H → bRun p l e R s m args below meth c H locs cells slots mc ms (F0 m pc ls st0) rest D E L a w' res)
    (kk : ∀ (H1 : Heap) (locs1 : List Loc), bB D E L a w' s H1 locs1 → W p l e R s m args below meth c H1 locs1 (cells + mc) (slots + ms) Q (F0 m (pc + 3) ls (res.toList ++ rest))) : W p l e R s m args below meth c H locs cells slots Q (F0 m pc ls st0) := by
  obtain ⟨h1, h2, h3, h4, h5⟩ := id hB
  exact bk_go (hr h1 h4 ⟨hB.lim, hB.tx⟩) h2 (hB.subA (k := 0) (by omega)) (fun H1 locs1 g1 _ g3 g4 => kk H1 locs1 ⟨g1, g4, h3, h4, h5⟩)
theorem bWf_nil : bWf [] := ⟨rfl, rfl, rfl⟩
/-- a call of a method without a block -/
theorem bk_non {st0 : List Value} {res : Option Value} {v0 w0 : bM} (hB : bB D E L a v s H locs)
    (hr : Blk D E [] E.2 v0 H → E.2 + ([] : List bC).length ≤ E.2 → E.2 ≤ H.size ∧ bTx s E E.2 H → bRun p l e R s m args below meth c H locs cells slots mc ms (F0 m pc ls st0) rest D E [] E.2 w0 res)
    (kk : ∀ (H1 : Heap) (locs1 : List Loc), bB D E L a v s H1 locs1 → W p l e R s m args below meth c H1 locs1 (cells + mc) (slots + ms) Q (F0 m (pc + 3) ls (res.toList ++ rest))) : W p l e R s m args below meth c H locs cells slots Q (F0 m pc ls st0) := by
  obtain ⟨h1, h2, h3, h4, h5⟩ := id hB
  have hz := h2.1
  refine bk_go (hr (fun k d h => by simp at h) (by simp) ⟨hB.lim, hB.tx.le (by omega)⟩) h2 ?_ (fun H1 locs1 _ g2 g3 g4 => kk H1 locs1 ⟨?_, g4, h3, h4, h5⟩)
  · intro q h
    rcases h with h | h
    · simp at h; omega
    · exact Or.inr (by omega)
  · have g5 : ∀ q : Nat, q < H.size → H1[q]? = H[q]? := fun q hq => g3 q hq (fun z => by
      rcases z with z | z
      · simp at z; omega
      · omega)
    exact fun i d hd => bAt_kept (h1 i d hd) (g5 _) (fun q hq _ _ => g5 q hq)
end SUBCALL
