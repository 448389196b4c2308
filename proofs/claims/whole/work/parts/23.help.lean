/-! ===== the law's helpers: a call on the bakery, its answer in the array out, its throws caught ===== -/
def lO (E : bE) (f : Nat → Int64) : va_E := .inl (E.1.1 5, 1, .inr (.inl f))
def fA (E : bE) (a o : Nat) : Nat → Prop := fun q => bA a 866 E.2 q ∨ q = o
def lB (D : va_G) (E : bE) (a o : Nat) (v : bM) (f : Nat → Int64) (s : State) (H : Heap) (locs : List Loc) : Prop := Blk D E LX a v H ∧ va_at D vwCl (o, lO E f) H ∧ va_S (fA E a o) s.heap H locs ∧ a + 866 ≤ o ∧ o < E.2 ∧ E.2 ≤ s.heap.size ∧ bTx s E a s.heap
def hPre (D : va_G) (E : bE) (a o : Nat) (v : bM) (f : Nat → Int64) (sz : Nat) : State → Prop := fun U => U.heap.size = sz ∧ Blk D E LX a v U.heap ∧ va_at D vwCl (o, lO E f) U.heap ∧ bK D E U ∧ a + 866 ≤ o ∧ o < E.2 ∧ E.2 ≤ sz ∧ bTx U E a U.heap
def hPost (D : va_G) (E : bE) (a o : Nat) (r : Int32) (w : bM) (y : Option Int64) : Array Value → State → Outcome → State → Prop := fun _ st oc t => oc = .returned (some (.int r)) ∧ Blk D E LX a w t.heap ∧ (∃ f : Nat → Int64, va_at D vwCl (o, lO E f) t.heap ∧ ∀ x, y = some x → f 0 = x) ∧ va_F (fA E a o) st t
def hMet (l : Launch) (y : MethodName) (bytes : ByteArray) (maxL : Nat) (hh : List (Nat × Nat × Nat × Nat)) (d mc ms : Nat) (Av : List Value) (v : bM) (r : Int32) (w : bM) (y9 : Option Int64) : Prop :=
  ∀ (D : va_G) (E : bE) (a o sz : Nat) (f : Nat → Int64), Met l y (.codeWith y bytes maxL (some .int) hh :: wAll) (rmOf d mc ms) (va_Pc (.ref a :: (Av ++ [.ref o])) (hPre D E a o v f sz)) (hPost D E a o r w y9) mc ms (fA E a o)
def hQ (below : List Frame) (D : va_G) (E : bE) (a o : Nat) (r : Int32) (w : bM) (y9 : Option Int64) (args : Array Value) (s : State) (mc ms : Nat) : State → Prop := MQ below (hPost D E a o r w y9) args s mc ms (fA E a o)
theorem hBlind (D : va_G) (E : bE) (a o : Nat) (v : bM) (f : Nat → Int64) (sz : Nat) (As : List Value) : FrameBlind (va_Pc As (hPre D E a o v f sz)) := fun a0 U g mk q => ⟨q.1, q.2.1, q.2.2.1, q.2.2.2.1, bK.same (u := U) (U := U.calling g mk a0) rfl q.2.2.2.2.1, q.2.2.2.2.2.1, q.2.2.2.2.2.2.1, q.2.2.2.2.2.2.2.1, bTx.moved (u := U) (U := U.calling g mk a0) (Vm.Alike.refl U.vm) q.2.2.2.2.2.2.2.2⟩
theorem h_start {l : Launch} {y : MethodName} {cc : ByteArray} {maxL : Nat} {hh : List (Nat × Nat × Nat × Nat)} {d mc ms : Nat} {Av : List Value} {v w : bM} {r : Int32} {y9 : Option Int64} (hy : plainName y.cls = true) (hA : ∀ a o : Nat, (lg_sl (.ref a :: (Av ++ [.ref o]))).length ≤ maxL)
    (body : ∀ (p : Program) (e : Env) (s : State) (m : MethodId) (args : Array Value) (below : List Frame) (meth : Method) (c : Code) (D : va_G) (E : bE) (a o : Nat) (f : Nat → Int64) (ls : Array Slot) (H : Heap) (locs : List Loc), bCx p s m args meth c y.cls cc maxL D E → meth.sig.returnType = some .int → c.exceptionTable.toList = tableOf hh → lv_has ls maxL (lv_args 0 (.ref a :: (Av ++ [.ref o]))) → lB D E a o v f s H locs →
      W p l e (rmOf d mc ms) s m args below meth c H locs 0 0 (hQ below D E a o r w y9 args s mc ms) (F0 m 0 ls [])) : hMet l y cc maxL hh d mc ms Av v r w y9 := by
  intro D E a o sz f
  refine va_MetW (cc := cc) (maxL := maxL) (ret := some .int) (hh := hh) hy rfl ?_
  intro p e s m args below meth c s₁ B hml hv
  obtain ⟨rfl, hsz, hB, hO, hK, h4, h5, h6, h7⟩ := hv
  subst hsz
  have hts := atoms_spec (ws := .codeWith y cc maxL (some .int) hh :: wAll) B.pre
  have hl := lv_entry (.ref a :: (Av ++ [.ref o])) (n := maxL) (hA a o)
  rw [lg_entry_eq]
  generalize (lg_sl (.ref a :: (Av ++ [.ref o])) ++ List.replicate (maxL - (lg_sl (.ref a :: (Av ++ [.ref o]))).length) Slot.unset).toArray = ls at hl ⊢
  exact body p e s m _ below meth c D E a o f ls _ _ ⟨B.exec, B.bytes, hml, findClass_of_methodNamed B.named, fun w hw => hts w (List.mem_cons_of_mem _ hw), hK, B.notSynchronized⟩ B.returns (vx_table (x := y) B (hts _ List.mem_cons_self)) hl ⟨hB, hO, va_S.rf, h4, h5, h6, h7⟩
section HELP
variable {p : Program} {l : Launch} {e : Env} {R : Room} {s : State} {m : MethodId} {args : Array Value} {below : List Frame} {meth : Method} {c : Code} {H : Heap} {locs : List Loc} {cells slots : Nat} {Q : State → Prop}
variable {cc : ByteArray} {pc : Nat} {ls : Array Slot} {rest : List Value} {D : va_G} {E : bE} {own : String} {nL : Nat} {a o : Nat} {v : bM} {f : Nat → Int64} {mc ms : Nat}
theorem lB.lim (hB : lB D E a o v f s H locs) : E.2 ≤ H.size := Nat.le_trans hB.2.2.2.2.2.1 hB.2.2.1.1
theorem lB.tx (hB : lB D E a o v f s H locs) : E.2 ≤ H.size ∧ bTx s E a H := by
  obtain ⟨b1, b2, b3, b4, b5, b6, b7⟩ := id hB
  refine ⟨hB.lim, b7.kept (fun q q1 q2 => b3.2.1 q q1 (fun z => ?_))⟩
  rcases z with (z | z) | z <;> omega
theorem lB.len (hB : lB D E a o v f s H locs) : a + LX.length ≤ E.2 := by
  have h1 := hB.2.2.2.1
  have h2 := hB.2.2.2.2.1
  rw [lenqX]
  omega
theorem lB.sub (hB : lB D E a o v f s H locs) : ∀ q, bA a LX.length H.size q → fA E a o q := by
  intro q h
  have := hB.lim
  rw [lenqX] at h
  rcases h with h | h
  · exact Or.inl (Or.inl h)
  · exact Or.inl (Or.inr (by omega))
theorem lB.out (hB : lB D E a o v f s H locs) {H1 : Heap} (hk : ∀ q : Nat, q < H.size → ¬ bA a LX.length H.size q → H1[q]? = H[q]?) : va_at D vwCl (o, lO E f) H1 := by
  have h1 := hB.2.2.2.1
  have h2 := hB.2.2.2.2.1
  have h3 := hB.lim
  refine va_at.kept (q := (o, lO E f)) hB.2.1 (hk o (by omega) (fun z => ?_))
  rw [lenqX] at z
  rcases z with z | z <;> omega
theorem l_go {w9 : bM} {st0 : List Value} {res : Option Value} (hB : lB D E a o v f s H locs) (hr : bRun p l e R s m args below meth c H locs cells slots mc ms (F0 m pc ls st0) rest D E LX a w9 res)
    (kk : ∀ (H1 : Heap) (locs1 : List Loc), lB D E a o w9 f s H1 locs1 → W p l e R s m args below meth c H1 locs1 (cells + mc) (slots + ms) Q (F0 m (pc + 3) ls (res.toList ++ rest))) : W p l e R s m args below meth c H locs cells slots Q (F0 m pc ls st0) :=
  bk_go hr hB.2.2.1 hB.sub (fun H1 locs1 g1 _ g3 g4 => kk H1 locs1 ⟨g1, hB.out g3, g4, hB.2.2.2⟩)
/-- a throw that the row x of the table catches -/
theorem l_catch (X : bCx p s m args meth c own cc nL D E) (hB : lB D E a o v f s H locs) {k : Nat} {st0 : List Value} (hr : bRunX p l e R s m args below meth c H locs cells slots 1 6 (F0 m pc ls st0) rest D E LX a v k) (pre : List ExceptionTableEntry) (x : ExceptionTableEntry) (suf : List ExceptionTableEntry) (hsplit : c.exceptionTable.toList = pre ++ x :: suf)
    (hpass : ∀ z ∈ pre, z.catchType ≠ 0 ∧ ∃ nm : String, Cond.classLink own z.catchType nm ∈ wAll ∧ (xN k, nm) ∈ bNc) (hx : covers x pc = true) (h0 : x.catchType ≠ 0) (hlink : Cond.classLink own x.catchType (xN k) ∈ wAll) (hcast : Cond.castable (xN k) (xN k) ∈ bFace)
    (kk : ∀ (H1 : Heap) (locs1 : List Loc) (q : Nat), lB D E a o v f s H1 locs1 → W p l e R s m args below meth c H1 locs1 (cells + 1) (slots + 6) Q (F0 m x.handlerPc ls [.ref q])) : W p l e R s m args below meth c H locs cells slots Q (F0 m pc ls st0) := by
  intro T hT Xs
  rcases hr T hT Xs with ⟨v0, st₀, t, T', L0, h0, X', hL, e1, e2, hF, st⟩ | ⟨q, st₀, t, T', L0, C, ce, h9, X', hL, e1, e2, ⟨hC, hb, hF⟩, hce, hcv, hcl, st⟩
  · exact hF.elim
  · subst hC
    obtain ⟨k1, k2, k3⟩ := vx_keep h9 e1 hB.2.2.1 (fun q _ h => hB.sub q h) hB.sub hL hF
    have hbb : lB D E a o v f s T'.heap (locs ++ L0) := ⟨by rw [e1]; exact hb, hB.out k2, k3, hB.2.2.2⟩
    obtain ⟨t2, a1, b1⟩ := vx_catch (Q := Q) (pc := pc) (ls := ls) (rest := rest) X.2.2.2.1 pre x suf hsplit (fun z hz => Or.inr ⟨(hpass z hz).1, (hpass z hz).2.choose, X.2.2.2.2.1 _ (hpass z hz).2.choose_spec.1, X.2.2.2.2.2.1.2.2.2.2.1 _ (hpass z hz).2.choose_spec.2⟩) hx h0 (X.2.2.2.2.1 _ hlink) (X.face _ hcast) (by rw [e1]; exact hce) hcv hcl (kk T'.heap (locs ++ L0) q hbb) T' rfl X'
    exact ⟨t2, st.trans a1, b1⟩
theorem l_last (X : bCx p s m args meth c own cc nL D E) (hB : lB D E a o v f s H locs) {x : Int64} (hdg : decode cc pc = .ok (.lastore, 1))
    (kk : ∀ (H1 : Heap) (locs1 : List Loc), lB D E a o v (vp_updL f 0 x) s H1 locs1 → W p l e R s m args below meth c H1 locs1 cells slots Q (F0 m (pc + 1) ls rest)) : W p l e R s m args below meth c H locs cells slots Q (F0 m pc ls (.long x :: .int 0 :: .ref o :: rest)) := by
  obtain ⟨b1, b2, b3, b4, b5, b6, b7⟩ := id hB
  have hK := X.2.2.2.2.2.1.1
  refine W.last X.1 X.2.1 b2 ((hK.2 5 (E.1.1 5, .long) rfl).1 1 (fun j => .long (f j))) (fun q => by cases q) (by show ¬ ((0 : Int32) < 0 ∨ (arrV _ _ _).slots.size ≤ _); rw [arrV_size]; exact (show ¬ ((0 : Int32) < 0 ∨ 1 ≤ (0 : Int32).toNatClampNeg) by decide)) rfl rfl hdg fun H1 e9 z oq => ?_
  have oq : ∀ q : Nat, q ≠ o → H1[q]? = H[q]? := oq
  refine kk H1 _ ⟨fun k d hd => ?_, ?_, b3.put z oq (Or.inr rfl), b4, b5, b6, b7⟩
  · have hk : k < 866 := by rw [← lenqX]; exact (List.getElem?_eq_some_iff.mp hd).1
    refine bAt_kept (b1 k d hd) (fun _ => oq _ (by omega)) (fun q hq hor hz => oq q ?_)
    rcases hor with g | g
    · obtain ⟨y, rfl, hy⟩ := hz
      obtain ⟨y1, g1, -⟩ := bHl_at LX k y wfX.2.2 hd hy
      have := (List.getElem?_eq_some_iff.mp g1).1
      rw [lenqX] at this
      omega
    · omega
  · show H1[o]? = some (vp_cell _ _)
    rw [e9, vp_cell_l, vp_cell_l, arrV_store]
    congr 2
    funext q
    by_cases hq : q = 0
    · subst hq
      simp [updV, vp_updL]
    · simp [updV, vp_updL, hq]
theorem l_iret (X : bCx p s m args meth c own cc nL D E) (hr : meth.sig.returnType = some .int) {r : Int32} {y9 : Option Int64} (hB : lB D E a o v f s H locs) (hy : ∀ x, y9 = some x → f 0 = x) (hc : cells ≤ mc) (hs : slots ≤ ms) (hdg : decode cc pc = .ok (.ireturn, 1)) : W p l e R s m args below meth c H locs cells slots (hQ below D E a o r v y9 args s mc ms) (F0 m pc ls [.int r]) := by
  have hlocks := X.2.2.2.2.2.2
  unfold hQ
  refine W.widen hc hs ?_
  exact W.iret X.1 X.2.1 hr (fun t ht _ => ⟨rfl, by rw [ht]; exact hB.1, ⟨f, by rw [ht]; exact hB.2.1, hy⟩, hB.2.2.1.F ht⟩) hB.2.2.1.2.2 hdg
end HELP
