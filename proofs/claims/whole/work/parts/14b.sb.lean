/-! ===== the JDK's StringBuilder, opened: its object at q, its bytes ===== -/
/-- where the bytes lie, how many fit, the bytes, maybeLatin1, the count -/
abbrev sG : Type := Nat × Nat × (Nat → Int32) × Int32 × Nat
def sF (σ : sG) : List Value := [.ref σ.1, .int 0, .int σ.2.2.2.1, .int (nI σ.2.2.2.2)]
def sW (E : bE) (q : Nat) (σ : sG) : va_W := [(q, .inr (1, sF σ)), (σ.1, .inl (E.1.1 4, σ.2.1, .inl σ.2.2.1))]
def sPre (D : va_G) (E : bE) (a q : Nat) (σ : sG) (sz : Nat) : State → Prop := fun U => U.heap.size = sz ∧ va_P D vwCl (sW E q σ) U.heap ∧ va_D (fun x => a ≤ x) (sW E q σ) ∧ bK D E U ∧ bTx U E a U.heap ∧ a ≤ E.2 ∧ E.2 ≤ sz
abbrev sO : Type := va_G → bE → Nat → (Nat → Prop) → Option Value → Heap → Prop
def sPost (D : va_G) (E : bE) (q : Nat) (A : Nat → Prop) (Po : sO) : Array Value → State → Outcome → State → Prop := fun _ st o t => (∃ r, o = .returned r ∧ Po D E q A r t.heap) ∧ va_F A st t
def sMet (l : Launch) (y : MethodName) (bytes : ByteArray) (maxL : Nat) (ret : Option FieldType) (d mc ms : Nat) (As : bE → Nat → List Value) (σ : sG) (Po : sO) : Prop :=
  ∀ (D : va_G) (E : bE) (a q sz : Nat), Met l y (.code y bytes maxL ret :: wAll) (rmOf d mc ms) (va_Pc (As E q) (sPre D E a q σ sz)) (sPost D E q (va_A (sW E q σ) sz) Po) mc ms (va_A (sW E q σ) sz)
def sQ (below : List Frame) (D : va_G) (E : bE) (q : Nat) (A : Nat → Prop) (Po : sO) (args : Array Value) (s : State) (mc ms : Nat) : State → Prop := MQ below (sPost D E q A Po) args s mc ms A
def sB (D : va_G) (E : bE) (a q : Nat) (A : Nat → Prop) (σ : sG) (s : State) (H : Heap) (locs : List Loc) : Prop := va_P D vwCl (sW E q σ) H ∧ va_D A (sW E q σ) ∧ va_S A s.heap H locs ∧ (∀ x, A x → a ≤ x) ∧ (∀ x : Nat, s.heap.size ≤ x → A x) ∧ bTx s E a s.heap ∧ a ≤ E.2 ∧ E.2 ≤ s.heap.size
def sPo (R : sG → Prop) (res : bE → Nat → Option Value) : sO := fun D E q A r H => ∃ σ' : sG, R σ' ∧ r = res E q ∧ va_P D vwCl (sW E q σ') H ∧ va_D A (sW E q σ')
theorem sBlind (D : va_G) (E : bE) (a q : Nat) (σ : sG) (sz : Nat) (As : List Value) : FrameBlind (va_Pc As (sPre D E a q σ sz)) := fun a0 U g mk h => ⟨h.1, h.2.1, h.2.2.1, h.2.2.2.1, bK.same (u := U) (U := U.calling g mk a0) rfl h.2.2.2.2.1, bTx.moved (u := U) (U := U.calling g mk a0) (Vm.Alike.refl U.vm) h.2.2.2.2.2.1, h.2.2.2.2.2.2⟩
theorem nI_sub {a b : Nat} (h : b ≤ a) : nI a - nI b = nI (a - b) := by
  have := nI_add (a - b) b
  rw [Nat.sub_add_cancel h] at this
  rw [← this]
  exact Int32.add_sub_cancel _ _
theorem sk_start {l : Launch} {y : MethodName} {cc : ByteArray} {maxL : Nat} {ret : Option FieldType} {d mc ms : Nat} {As : bE → Nat → List Value} {σ : sG} {Po : sO} (hy : plainFor y = true) (hA : ∀ E q, (lg_sl (As E q)).length ≤ maxL)
    (body : ∀ (p : Program) (e : Env) (s : State) (m : MethodId) (args : Array Value) (below : List Frame) (meth : Method) (c : Code) (D : va_G) (E : bE) (a q : Nat) (ls : Array Slot) (H : Heap) (locs : List Loc), bCx p s m args meth c y.cls cc maxL D E → meth.sig.returnType = ret → lv_has ls maxL (lv_args 0 (As E q)) → sB D E a q (va_A (sW E q σ) s.heap.size) σ s H locs →
      W p l e (rmOf d mc ms) s m args below meth c H locs 0 0 (sQ below D E q (va_A (sW E q σ) s.heap.size) Po args s mc ms) (F0 m 0 ls [])) : sMet l y cc maxL ret d mc ms As σ Po := by
  intro D E a q sz
  refine va_MetF (cc := cc) (maxL := maxL) (ret := ret) hy rfl ?_
  intro p e s m args below meth c s₁ B hml hv
  obtain ⟨rfl, hsz, hP, hD, hK, hT, h5, h6⟩ := hv
  subst hsz
  have hts := atoms_spec (ws := .code y cc maxL ret :: wAll) B.pre
  have hl := lv_entry (As E q) (n := maxL) (hA E q)
  rw [lg_entry_eq]
  generalize (lg_sl (As E q) ++ List.replicate (maxL - (lg_sl (As E q)).length) Slot.unset).toArray = ls at hl ⊢
  refine body p e s m _ below meth c D E a q ls _ _ ⟨B.exec, B.bytes, hml, findClass_of_methodNamed B.named, fun w hw => hts w (List.mem_cons_of_mem _ hw), hK, B.notSynchronized⟩ B.returns hl ⟨hP, ⟨hD.1, fun k x hx => va_A.in hx⟩, va_S.rf, ?_, fun x hx => Or.inr hx, hT, h5, h6⟩
  intro x hx
  rcases hx with ⟨k, e, hk⟩ | hx
  · exact hD.2 k _ hk
  · omega
section SBR
variable {p : Program} {l : Launch} {e : Env} {R : Room} {s : State} {m : MethodId} {args : Array Value} {below : List Frame} {meth : Method} {c : Code} {H : Heap} {locs : List Loc} {cells slots : Nat} {Q : State → Prop}
variable {cc : ByteArray} {pc : Nat} {ls : Array Slot} {rest : List Value} {D : va_G} {E : bE} {own : String} {nL : Nat} {a q : Nat} {A : Nat → Prop} {σ : sG} {mc ms : Nat}
theorem sB.tx (hB : sB D E a q A σ s H locs) : bTx s E a H := hB.2.2.2.2.2.1.kept (fun x hx hz => hB.2.2.1.2.1 x hx (fun z => hz (hB.2.2.2.1 x z)))
theorem sB.sub (hB : sB D E a q A σ s H locs) : ∀ x, va_A (sW E q σ) H.size x → A x := by
  intro x hx
  rcases hx with ⟨k, e, hk⟩ | hx
  · exact hB.2.1.2 k _ hk
  · exact hB.2.2.2.2.1 x (Nat.le_trans hB.2.2.1.1 hx)
theorem sk_get (X : bCx p s m args meth c own cc nL D E) (hB : sB D E a q A σ s H locs) (k : Nat) (hk : k < 4) {index : Nat} (hw : Cond.fieldLink own index (TJ4 k).1 (TJ4 k).2.1 (TJ4 k).2.2.1 ∈ wAll) {v : Value} (hv : (sF σ)[k]? = some v) (hdg : decode cc pc = .ok (.getfield index, 3))
    (kk : W p l e R s m args below meth c H locs cells slots Q (F0 m (pc + 3) ls (v :: rest))) : W p l e R s m args below meth c H locs cells slots Q (F0 m pc ls (.ref q :: rest)) :=
  va_get X.1 X.2.1 (Ts := wAll) X.2.2.2.2.1 kl_J4.2.1 X.2.2.2.1 X.2.2.2.2.2.1.1 hB.1 0 rfl kl_J4.1 k hk (X.2.2.2.2.1 _ hw) (fun _ h => h) hv hdg kk
theorem sk_putN (X : bCx p s m args meth c own cc nL D E) (hB : sB D E a q A σ s H locs) {index : Nat} (hw : Cond.fieldLink own index (TJ4 3).1 (TJ4 3).2.1 (TJ4 3).2.2.1 ∈ wAll) {n' : Nat} (hdg : decode cc pc = .ok (.putfield index, 3))
    (kk : ∀ (H1 : Heap) (locs1 : List Loc), sB D E a q A (σ.1, σ.2.1, σ.2.2.1, σ.2.2.2.1, n') s H1 locs1 → W p l e R s m args below meth c H1 locs1 cells slots Q (F0 m (pc + 3) ls rest)) : W p l e R s m args below meth c H locs cells slots Q (F0 m pc ls (.int (nI n') :: .ref q :: rest)) :=
  va_put X.1 X.2.1 (Ts := wAll) X.2.2.2.2.1 kl_J4.2.1 tyJ4 kl_J4.2.2.1 kl_J4.2.2.2 X.2.2.2.1 X.2.2.2.2.2.1.1 hB.1 hB.2.1 hB.2.2.1 0 rfl kl_J4.1 3 (by decide) (X.2.2.2.2.1 _ hw) (fun _ h => h) rfl (ty := .int) (by decide) rfl rfl (show 3 < 4 by decide) hdg (fun H1 locs1 g1 g2 g3 => kk H1 locs1 ⟨g1, g2, g3, hB.2.2.2⟩)
theorem sk_putM (X : bCx p s m args meth c own cc nL D E) (hB : sB D E a q A σ s H locs) {index : Nat} (hw : Cond.fieldLink own index (TJ4 2).1 (TJ4 2).2.1 (TJ4 2).2.2.1 ∈ wAll) (hdg : decode cc pc = .ok (.putfield index, 3))
    (kk : ∀ (H1 : Heap) (locs1 : List Loc), sB D E a q A (σ.1, σ.2.1, σ.2.2.1, 1, σ.2.2.2.2) s H1 locs1 → W p l e R s m args below meth c H1 locs1 cells slots Q (F0 m (pc + 3) ls rest)) : W p l e R s m args below meth c H locs cells slots Q (F0 m pc ls (.int 1 :: .ref q :: rest)) :=
  va_put X.1 X.2.1 (Ts := wAll) X.2.2.2.2.1 kl_J4.2.1 tyJ4 kl_J4.2.2.1 kl_J4.2.2.2 X.2.2.2.1 X.2.2.2.2.2.1.1 hB.1 hB.2.1 hB.2.2.1 0 rfl kl_J4.1 2 (by decide) (X.2.2.2.2.1 _ hw) (fun _ h => h) rfl (ty := .boolean) (by decide) rfl rfl (show 2 < 4 by decide) hdg (fun H1 locs1 g1 g2 g3 => kk H1 locs1 ⟨g1, g2, g3, hB.2.2.2⟩)
theorem sk_alen (X : bCx p s m args meth c own cc nL D E) (hB : sB D E a q A σ s H locs) (hdg : decode cc pc = .ok (.arraylength, 1))
    (kk : W p l e R s m args below meth c H locs cells slots Q (F0 m (pc + 1) ls (.int (nI σ.2.1) :: rest))) : W p l e R s m args below meth c H locs cells slots Q (F0 m pc ls (.ref σ.1 :: rest)) :=
  va_alen X.1 X.2.1 X.2.2.2.2.2.1.1 hB.1 1 4 rfl (ty := .byte) rfl rfl hdg kk
theorem sk_bld (X : bCx p s m args meth c own cc nL D E) (hB : sB D E a q A σ s H locs) {i : Int32} (hin : vp_in i σ.2.1) (hdg : decode cc pc = .ok (.baload, 1))
    (kk : W p l e R s m args below meth c H locs cells slots Q (F0 m (pc + 1) ls (.int (σ.2.2.1 i.toNatClampNeg) :: rest))) : W p l e R s m args below meth c H locs cells slots Q (F0 m pc ls (.int i :: .ref σ.1 :: rest)) :=
  va_bald X.1 X.2.1 X.2.2.2.2.2.1.1 hB.1 1 4 rfl rfl hin hdg kk
theorem sk_bst (X : bCx p s m args meth c own cc nL D E) (hB : sB D E a q A σ s H locs) {i x : Int32} (hin : vp_in i σ.2.1) (hdg : decode cc pc = .ok (.bastore, 1))
    (kk : ∀ (H1 : Heap) (locs1 : List Loc), sB D E a q A (σ.1, σ.2.1, upd σ.2.2.1 i.toNatClampNeg (vp_nar .byte x), σ.2.2.2.1, σ.2.2.2.2) s H1 locs1 → W p l e R s m args below meth c H1 locs1 cells slots Q (F0 m (pc + 1) ls rest)) : W p l e R s m args below meth c H locs cells slots Q (F0 m pc ls (.int x :: .int i :: .ref σ.1 :: rest)) :=
  va_bast X.1 X.2.1 X.2.2.2.2.2.1.1 hB.1 hB.2.1 hB.2.2.1 1 4 rfl rfl hin hdg (fun H1 locs1 g1 g2 g3 => kk H1 locs1 ⟨g1, g2, g3, hB.2.2.2⟩)
theorem sk_compact (X : bCx p s m args meth c own cc nL D E) (hB : sB D E a q A σ s H locs) {index : Nat} (hw : Cond.fieldLink own index "java/lang/String" "COMPACT_STRINGS" "Z" ∈ wAll) (hdg : decode cc pc = .ok (.getstatic index, 3))
    (kk : W p l e R s m args below meth c H locs cells slots Q (F0 m (pc + 3) ls (.int 1 :: rest))) : W p l e R s m args below meth c H locs cells slots Q (F0 m pc ls rest) :=
  va_gets X.1 X.2.1 (va_Z.narrow hB.2.2.2.2.2.1.1.1 hB.2.2.2.1) hB.2.2.1 X.2.2.2.1 (X.2.2.2.2.1 _ hw) (fun _ h => h) hdg kk
/-- ends -/
theorem sk_nret (X : bCx p s m args meth c own cc nL D E) {Po : sO} {ret : Option FieldType} (hr : meth.sig.returnType = ret) {ty : FieldType} (hret : ret = some ty) {x : Int32} (hn : narrow ty (.int x) = .int x) (hB : sB D E a q A σ s H locs) (hPo : Po D E q A (some (.int x)) H) (hc : cells ≤ mc) (hs : slots ≤ ms) (hdg : decode cc pc = .ok (.ireturn, 1)) : W p l e R s m args below meth c H locs cells slots (sQ below D E q A Po args s mc ms) (F0 m pc ls [.int x]) := by
  have hlocks := X.2.2.2.2.2.2
  unfold sQ
  refine W.widen hc hs ?_
  exact W.zret X.1 X.2.1 (hr.trans hret) hn (fun t ht _ => ⟨⟨_, rfl, by rw [ht]; exact hPo⟩, hB.2.2.1.F ht⟩) hB.2.2.1.2.2 hdg
theorem sk_iret (X : bCx p s m args meth c own cc nL D E) {Po : sO} {ret : Option FieldType} (hr : meth.sig.returnType = ret) (hret : ret = some .int) {x : Int32} (hB : sB D E a q A σ s H locs) (hPo : Po D E q A (some (.int x)) H) (hc : cells ≤ mc) (hs : slots ≤ ms) (hdg : decode cc pc = .ok (.ireturn, 1)) : W p l e R s m args below meth c H locs cells slots (sQ below D E q A Po args s mc ms) (F0 m pc ls [.int x]) := by
  have hlocks := X.2.2.2.2.2.2
  unfold sQ
  refine W.widen hc hs ?_
  exact W.iret X.1 X.2.1 (hr.trans hret) (fun t ht _ => ⟨⟨_, rfl, by rw [ht]; exact hPo⟩, hB.2.2.1.F ht⟩) hB.2.2.1.2.2 hdg
theorem sk_aret (X : bCx p s m args meth c own cc nL D E) {Po : sO} {ret : Option FieldType} (hr : meth.sig.returnType = ret) {ty : FieldType} (hret : ret = some ty) (hty : (∃ C, ty = .object C) ∨ ∃ z, ty = .array z) {x : Nat} (hB : sB D E a q A σ s H locs) (hPo : Po D E q A (some (.ref x)) H) (hc : cells ≤ mc) (hs : slots ≤ ms) (hdg : decode cc pc = .ok (.areturn, 1)) : W p l e R s m args below meth c H locs cells slots (sQ below D E q A Po args s mc ms) (F0 m pc ls [.ref x]) := by
  have hlocks := X.2.2.2.2.2.2
  unfold sQ
  refine W.widen hc hs ?_
  exact W.aret X.1 X.2.1 (hr.trans hret) hty (Or.inr ⟨_, rfl⟩) (fun t ht _ => ⟨⟨_, rfl, by rw [ht]; exact hPo⟩, hB.2.2.1.F ht⟩) hB.2.2.1.2.2 hdg
theorem sk_vret (X : bCx p s m args meth c own cc nL D E) {Po : sO} {ret : Option FieldType} (hr : meth.sig.returnType = ret) (hret : ret = none) (hB : sB D E a q A σ s H locs) (hPo : Po D E q A none H) (hc : cells ≤ mc) (hs : slots ≤ ms) (hdg : decode cc pc = .ok (.return_, 1)) : W p l e R s m args below meth c H locs cells slots (sQ below D E q A Po args s mc ms) (F0 m pc ls []) := by
  have hlocks := X.2.2.2.2.2.2
  unfold sQ
  refine W.widen hc hs ?_
  exact W.vret X.1 X.2.1 (hr.trans hret) (fun t ht _ => ⟨⟨_, rfl, by rw [ht]; exact hPo⟩, hB.2.2.1.F ht⟩) hB.2.2.1.2.2 hdg
theorem sB.po (hB : sB D E a q A σ s H locs) {R : sG → Prop} {res : bE → Nat → Option Value} (h : R σ) : sPo R res D E q A (res E q) H := ⟨σ, h, rfl, hB.1, hB.2.1⟩
/-- a call of a static method that knows no cells -/
theorem sk_non {st0 : List Value} {res : Option Value} {v0 w0 : bM} (hB : sB D E a q A σ s H locs)
    (hr : Blk D E [] E.2 v0 H → E.2 + ([] : List bC).length ≤ E.2 → E.2 ≤ H.size ∧ bTx s E E.2 H → bRun p l e R s m args below meth c H locs cells slots mc ms (F0 m pc ls st0) rest D E [] E.2 w0 res)
    (kk : ∀ (H1 : Heap) (locs1 : List Loc), sB D E a q A σ s H1 locs1 → W p l e R s m args below meth c H1 locs1 (cells + mc) (slots + ms) Q (F0 m (pc + 3) ls (res.toList ++ rest))) : W p l e R s m args below meth c H locs cells slots Q (F0 m pc ls st0) := by
  obtain ⟨h1, h2, h3, h4, h5, h6, h7, h8⟩ := id hB
  refine bk_go (hr (fun k d h => by simp at h) (by simp) ⟨Nat.le_trans h8 h3.1, hB.tx.le h7⟩) h3 ?_ (fun H1 locs1 _ g2 g3 g4 => kk H1 locs1 ⟨?_, h2, g4, h4, h5, h6, h7, h8⟩)
  · intro x h
    rcases h with h | h
    · simp at h; omega
    · exact h5 x (Nat.le_trans h3.1 h)
  · have g5 : ∀ x : Nat, x < H.size → H1[x]? = H[x]? := fun x hx => g3 x hx (fun z => by
      rcases z with z | z
      · simp at z; omega
      · omega)
    exact fun k x hx => va_at.kept (h1 k x hx) (g5 _ (va_at.lt (h1 k x hx)))
/-- behind a call on the StringBuilder -/
theorem sk_go {Po : sO} {st0 : List Value} {a' : Array Value} (hB : sB D E a q A σ s H locs) (hr : va_Run p l e R s m args below meth c H locs cells slots mc ms (F0 m pc ls st0) rest (sPost D E q (va_A (sW E q σ) H.size) Po a') (va_A (sW E q σ) H.size))
    (kk : ∀ (r : Option Value) (H1 : Heap) (locs1 : List Loc), Po D E q (va_A (sW E q σ) H.size) r H1 → H.size ≤ H1.size → va_S A s.heap H1 locs1 → W p l e R s m args below meth c H1 locs1 (cells + mc) (slots + ms) Q (F0 m (pc + 3) ls (r.toList ++ rest))) : W p l e R s m args below meth c H locs cells slots Q (F0 m pc ls st0) := by
  have hS := hB.2.2.1
  intro T hT X
  obtain ⟨v, st₀, t, T', L, h0, X', hL, e1, e2, ⟨⟨r, hv, hb⟩, hz, hk⟩, st⟩ := hr T hT X
  cases hv
  rw [h0] at hz hk
  obtain ⟨t2, a1, b1⟩ := kk v T'.heap (locs ++ L) (by rw [e1]; exact hb) (by rw [e1]; exact hz)
    ⟨Nat.le_trans hS.1 (by rw [e1]; exact hz), fun x h1 h2 => by rw [e1, hk x (Nat.lt_of_lt_of_le h1 hS.1) (fun z => h2 (hB.sub x z))]; exact hS.2.1 x h1 h2, fun x hx => by
      rcases List.mem_append.mp hx with h | h
      · exact hS.2.2 x h
      · exact hB.sub _ (hL x h)⟩ T' rfl X'
  exact ⟨t2, st _ a1, b1⟩
theorem sk_goP {Rr : sG → Prop} {res : bE → Nat → Option Value} {st0 : List Value} {a' : Array Value} (hB : sB D E a q A σ s H locs) (hr : va_Run p l e R s m args below meth c H locs cells slots mc ms (F0 m pc ls st0) rest (sPost D E q (va_A (sW E q σ) H.size) (sPo Rr res) a') (va_A (sW E q σ) H.size))
    (kk : ∀ (σ' : sG) (H1 : Heap) (locs1 : List Loc), Rr σ' → sB D E a q A σ' s H1 locs1 → W p l e R s m args below meth c H1 locs1 (cells + mc) (slots + ms) Q (F0 m (pc + 3) ls ((res E q).toList ++ rest))) : W p l e R s m args below meth c H locs cells slots Q (F0 m pc ls st0) :=
  sk_go hB hr (fun r H1 locs1 g1 _ g3 => by
    obtain ⟨σ', h1, rfl, h3, h4⟩ := g1
    exact kk σ' H1 locs1 h1 ⟨h3, ⟨h4.1, fun k x hx => hB.sub _ (h4.2 k x hx)⟩, g3, hB.2.2.2⟩)
theorem sB.pre (hB : sB D E a q A σ s H locs) (X : bCx p s m args meth c own cc nL D E) {U : State} (hU : U.heap = H) (hW : s.WarmedH U.vm) : sPre D E a q σ H.size U := ⟨by rw [hU], by rw [hU]; exact hB.1, ⟨hB.2.1.1, fun k x hx => hB.2.2.2.1 _ (hB.2.1.2 k x hx)⟩, X.2.2.2.2.2.1.moved hW, by rw [hU]; exact bTx.moved hW.alike hB.tx, hB.2.2.2.2.2.2.1, Nat.le_trans hB.2.2.2.2.2.2.2 hB.2.2.1.1⟩
theorem sel_priv {C : String} {n : Nat} {y : MethodName} (hy : y.cls ≠ "java/lang/invoke/MethodHandle" ∧ y.cls ≠ "java/lang/invoke/VarHandle") (hins : (Cond.instantiable C n).before args s = true) (hpriv : (Cond.privateMethod y).before args s = true) (hinst : (Cond.instanceMethod y).before args s = true) (hsame : (Cond.sameMethod y.cls y.cls y.name y.desc).before args s = true) : (Cond.selects C y y).before args s = true := by
  obtain ⟨c, k, hc, hk, -, -, -, -⟩ := Cond.instantiable_spec hins
  obtain ⟨mk, methM, hnamed, hmethM, -, -⟩ := Cond.instanceMethod_spec hinst
  have hfound : s.methodFound? y.cls y.name y.desc = some mk := State.methodFound?_of_named hnamed hy
  obtain ⟨cn, ck, r1, hcn, hck, hni, hf, hn1⟩ := Cond.sameMethod_found hsame
  have hcls : mk.cls = cn := Option.some.inj ((findClass_of_methodNamed hnamed).symm.trans hcn)
  have hsel : selectMethod {} s.vm c mk = .method mk := selectMethod_private hmethM (Cond.privateMethod_at hpriv mk methM hnamed hmethM)
  simp only [Cond.before, Cond.holds, Cond.value, hc, hfound, hnamed, hsel, hcls, hck]
  simp; exact hni
theorem sk_recv (X : bCx p s m args meth c own cc nL D E) (hB : sB D E a q A σ s H locs) : ∃ cell : Cell, H[q]? = some cell ∧ cell.vm.isStatics = false ∧ s.vm.findClass RJ4 = some cell.cls := va_recv (ws := sW E q σ) (q0 := 0) X.2.2.2.2.2.1.1 hB.1 kl_J4.1 rfl
/-- a call of a method of the superclass on the StringBuilder, by invokevirtual -/
theorem sk_runU {y : MethodName} {bytes : ByteArray} {maxL d n index : Nat} {ret : Option FieldType} {As : bE → Nat → List Value} {Po : sO} {Av : List Value} (X : bCx p s m args meth c own cc nL D E) (hB : sB D E a q A σ s H locs)
    (hM : sMet l y bytes maxL ret d mc ms As σ Po) (hy : y.cls = RJ5 ∧ (parseMethodDescriptor y.desc).map (fun d => d.parameters.length) = some n) (hwl : Cond.methodLink own index y ∈ wAll) (hws : Cond.sameMethod RJ5 RJ5 y.name y.desc ∈ wAll) (hsel : (Cond.selects RJ4 y y).before args s = true) (hwi : Cond.instanceMethod y ∈ wAll) (hwc : Cond.code y bytes maxL ret ∈ wAll)
    (hR : d + 1 ≤ R.frames ∧ 8 + (maxL + 11) + 40 * d ≤ R.locals) (hAs : As E q = .ref q :: Av) (hn : Av.length = n) (hsize : ls.size = nL) (hW : (rest.map fun v => v.category).sum ≤ 8) (hf : cells + mc ≤ R.cells ∧ slots + ms ≤ R.slots) (hdg : decode cc pc = .ok (.invokevirtual index, 3)) : va_Run p l e R s m args below meth c H locs cells slots mc ms (F0 m pc ls (Av.reverse ++ .ref q :: rest)) rest (sPost D E q (va_A (sW E q σ) H.size) Po (Value.ref q :: Av).toArray) (va_A (sW E q σ) H.size) := by
  obtain ⟨hy1, hy2⟩ := hy
  have hy3 : y = ⟨RJ5, y.name, y.desc⟩ := by rw [← hy1]
  refine va_runU (C := RJ4) (owner := RJ5) (x := y) (As := Av) (rest := rest) (Ts := wAll) ⟨X.1, X.2.1, X.2.2.1, X.2.2.2.1, X.2.2.2.2.1⟩ (hM D E a q H.size)
    ⟨⟨rfl, rfl, hR.1, hR.2, pay_in X.2.2.2.2.1 (wGoodC hwc), List.mem_cons_self⟩, X.2.2.2.2.1 _ hwc, by rw [hy1]; exact X.2.2.2.2.1 _ wm_10, ⟨by decide, by decide⟩, fun sig h => ?_, X.2.2.2.2.1 _ hwl, by rw [hy1]; exact X.2.2.2.2.1 _ hws, by rw [← hy3]; exact va_Decl.of (X.2.2.2.2.1 _ hwi) (X.2.2.2.2.1 _ hwc), hsel, X.2.2.2.2.1 _ hwi⟩
    ⟨sBlind D E a q σ H.size (As E q), sk_recv X hB, fun U hU hWa => ⟨by rw [hAs], hB.pre X hU hWa⟩⟩ rfl hn hsize rfl (lv_room hW) hdg hf
  rw [h] at hy2
  exact (Option.some.inj hy2).symm
/-- .. by super.m(..) -/
theorem sk_runSU {y : MethodName} {bytes : ByteArray} {maxL d n index : Nat} {ret : Option FieldType} {As : bE → Nat → List Value} {Po : sO} {Av : List Value} (X : bCx p s m args meth c RJ4 cc nL D E) (hB : sB D E a q A σ s H locs)
    (hM : sMet l y bytes maxL ret d mc ms As σ Po) (hy : y.cls = RJ5 ∧ y.name ≠ "<init>" ∧ (parseMethodDescriptor y.desc).map (fun d => d.parameters.length) = some n) (hwl : Cond.methodLink RJ4 index y ∈ wAll) (hws : Cond.sameMethod RJ5 RJ5 y.name y.desc ∈ wAll) (hwi : Cond.instanceMethod y ∈ wAll) (hwc : Cond.code y bytes maxL ret ∈ wAll)
    (hR : d + 1 ≤ R.frames ∧ 8 + (maxL + 11) + 40 * d ≤ R.locals) (hAs : As E q = .ref q :: Av) (hn : Av.length = n) (hsize : ls.size = nL) (hW : (rest.map fun v => v.category).sum ≤ 8) (hf : cells + mc ≤ R.cells ∧ slots + ms ≤ R.slots) (hdg : decode cc pc = .ok (.invokespecial index, 3)) : va_Run p l e R s m args below meth c H locs cells slots mc ms (F0 m pc ls (Av.reverse ++ .ref q :: rest)) rest (sPost D E q (va_A (sW E q σ) H.size) Po (Value.ref q :: Av).toArray) (va_A (sW E q σ) H.size) := by
  obtain ⟨hy1, hy0, hy2⟩ := hy
  refine va_runSU (C := RJ4) (As := Av) (rest := rest) (Ts := wAll) ((X.2.2.2.2.2.1.1.1 1 _ kl_J4.1).2) ⟨X.1, X.2.1, X.2.2.1, X.2.2.2.1, X.2.2.2.2.1⟩ (hM D E a q H.size)
    ⟨⟨rfl, rfl, hR.1, hR.2, pay_in X.2.2.2.2.1 (wGoodC hwc), List.mem_cons_self⟩, X.2.2.2.2.1 _ hwl, by rw [hy1]; exact X.2.2.2.2.1 _ hws, by rw [hy1]; exact X.2.2.2.2.1 _ wm_382, X.2.2.2.2.1 _ hwi, by rw [hy1]; exact X.2.2.2.2.1 _ wm_10, X.2.2.2.2.1 _ hwc, hy0, fun sig h => ?_⟩
    ⟨sBlind D E a q σ H.size (As E q), sk_recv X hB, fun U hU hWa => ⟨by rw [hAs], hB.pre X hU hWa⟩⟩ rfl hn hsize rfl (lv_room hW) hdg hf
  rw [h] at hy2
  exact (Option.some.inj hy2).symm
end SBR
theorem dJ5_isLatin1_aae02_0 : decode cJ5_isLatin1_aae02 0 = .ok (.getstatic 18, 3) := by decide +kernel
theorem dJ5_isLatin1_aae02_3 : decode cJ5_isLatin1_aae02 3 = .ok (.ifCond .eq 14, 3) := by decide +kernel
theorem dJ5_isLatin1_aae02_6 : decode cJ5_isLatin1_aae02 6 = .ok (.aload_n 0, 1) := by decide +kernel
theorem dJ5_isLatin1_aae02_7 : decode cJ5_isLatin1_aae02 7 = .ok (.getfield 22, 3) := by decide +kernel
theorem dJ5_isLatin1_aae02_10 : decode cJ5_isLatin1_aae02 10 = .ok (.ifCond .ne 7, 3) := by decide +kernel
theorem dJ5_isLatin1_aae02_13 : decode cJ5_isLatin1_aae02 13 = .ok (.iconst 1, 1) := by decide +kernel
theorem dJ5_isLatin1_aae02_14 : decode cJ5_isLatin1_aae02 14 = .ok (.goto 4, 3) := by decide +kernel
theorem dJ5_isLatin1_aae02_17 : decode cJ5_isLatin1_aae02 17 = .ok (.iconst 0, 1) := by decide +kernel
theorem dJ5_isLatin1_aae02_18 : decode cJ5_isLatin1_aae02 18 = .ok (.ireturn, 1) := by decide +kernel
set_option maxRecDepth 100000 in
theorem mJ5_isLatin1_aae02 {l : Launch} {σ : sG} : sMet l yJ5_isLatin1_aae02 cJ5_isLatin1_aae02 1 (some .boolean) 0 0 0 (fun _ q => [.ref q]) σ (sPo (fun σ' => σ' = σ) (fun _ _ => some (.int 1))) := by
  refine sk_start (by decide +kernel) (fun _ _ => Nat.le_of_ble_eq_true rfl) ?_
  intro p e s m args below meth c D E a q ls H locs X hr hl hB
  have hx := X.1
  have hb := X.2.1
  have hl : lv_has ls 1 [(0, .ref q)] := hl
  refine sk_compact X hB wm_360 dJ5_isLatin1_aae02_0 ?_
  refine lv_if_eq (tgt := 17) hx hb dJ5_isLatin1_aae02_3 (by decide) (fun h => absurd h (by decide)) (fun _ => ?_)
  refine lv_aload_n hx hb dJ5_isLatin1_aae02_6 rfl (lv_at hl 0 rfl) ?_
  refine sk_get X hB 1 (by decide) wm_370 rfl dJ5_isLatin1_aae02_7 ?_
  refine lv_if_ne (tgt := 17) hx hb dJ5_isLatin1_aae02_10 (by decide) (fun h => absurd rfl h) (fun _ => ?_)
  refine lv_iconst (v := 1) hx hb dJ5_isLatin1_aae02_13 (by decide) ?_
  refine lv_goto (tgt := 18) hx hb dJ5_isLatin1_aae02_14 (by decide) ?_
  exact sk_nret X hr rfl rfl hB (hB.po (res := fun _ _ => some (.int 1)) rfl) (Nat.le_of_ble_eq_true rfl) (Nat.le_of_ble_eq_true rfl) dJ5_isLatin1_aae02_18
theorem dJ8_newLength_cabcc_0 : decode cJ8_newLength_cabcc 0 = .ok (.iload_n 0, 1) := by decide +kernel
theorem dJ8_newLength_cabcc_1 : decode cJ8_newLength_cabcc 1 = .ok (.iload_n 1, 1) := by decide +kernel
theorem dJ8_newLength_cabcc_2 : decode cJ8_newLength_cabcc 2 = .ok (.iload_n 2, 1) := by decide +kernel
theorem dJ8_newLength_cabcc_3 : decode cJ8_newLength_cabcc 3 = .ok (.invokestatic 194, 3) := by decide +kernel
theorem dJ8_newLength_cabcc_6 : decode cJ8_newLength_cabcc 6 = .ok (.iadd, 1) := by decide +kernel
theorem dJ8_newLength_cabcc_7 : decode cJ8_newLength_cabcc 7 = .ok (.istore_n 3, 1) := by decide +kernel
theorem dJ8_newLength_cabcc_8 : decode cJ8_newLength_cabcc 8 = .ok (.iconst 0, 1) := by decide +kernel
theorem dJ8_newLength_cabcc_9 : decode cJ8_newLength_cabcc 9 = .ok (.iload_n 3, 1) := by decide +kernel
theorem dJ8_newLength_cabcc_10 : decode cJ8_newLength_cabcc 10 = .ok (.if_icmp .ge 11, 3) := by decide +kernel
theorem dJ8_newLength_cabcc_13 : decode cJ8_newLength_cabcc 13 = .ok (.iload_n 3, 1) := by decide +kernel
theorem dJ8_newLength_cabcc_14 : decode cJ8_newLength_cabcc 14 = .ok (.ldc 200, 2) := by decide +kernel
theorem dJ8_newLength_cabcc_16 : decode cJ8_newLength_cabcc 16 = .ok (.if_icmp .gt 5, 3) := by decide +kernel
theorem dJ8_newLength_cabcc_19 : decode cJ8_newLength_cabcc 19 = .ok (.iload_n 3, 1) := by decide +kernel
theorem dJ8_newLength_cabcc_20 : decode cJ8_newLength_cabcc 20 = .ok (.ireturn, 1) := by decide +kernel
theorem dJ8_newLength_cabcc_21 : decode cJ8_newLength_cabcc 21 = .ok (.iload_n 0, 1) := by decide +kernel
theorem dJ8_newLength_cabcc_22 : decode cJ8_newLength_cabcc 22 = .ok (.iload_n 1, 1) := by decide +kernel
theorem dJ8_newLength_cabcc_23 : decode cJ8_newLength_cabcc 23 = .ok (.invokestatic 201, 3) := by decide +kernel
theorem dJ8_newLength_cabcc_26 : decode cJ8_newLength_cabcc 26 = .ok (.ireturn, 1) := by decide +kernel
set_option maxRecDepth 100000 in
theorem mJ8_newLength_cabcc {l : Launch} {o g f r : Int32} {v : bM} (hr0 : r = o + (if g < f then f else g)) (h1 : 0 < r) (h2 : r ≤ 2147483639) : bMet l yJ8_newLength_cabcc cJ8_newLength_cabcc 4 (some .int) 1 0 0 [] (fun _ _ => [.int o, .int g, .int f]) v v (fun _ => some (.int r)) := by
  refine bk_start (by decide +kernel) bWf_nil (fun _ _ => Nat.le_of_ble_eq_true rfl) ?_
  intro p e s m args below meth c D E a ls H locs X hr hl hB
  have hx := X.1
  have hb := X.2.1
  have hown := X.2.2.2.1
  have hts := X.2.2.2.2.1
  have hl : lv_has ls 4 [(0, .int o), (1, .int g), (2, .int f)] := hl
  refine lv_iload_n hx hb dJ8_newLength_cabcc_0 rfl (lv_at hl 0 rfl) ?_
  refine lv_iload_n hx hb dJ8_newLength_cabcc_1 rfl (lv_at hl 1 rfl) ?_
  refine lv_iload_n hx hb dJ8_newLength_cabcc_2 rfl (lv_at hl 2 rfl) ?_
  refine bk_max X hl.1 wm_1403 ⟨Nat.le_of_ble_eq_true rfl, Nat.le_of_ble_eq_true rfl⟩ ⟨Nat.le_of_ble_eq_true rfl, Nat.le_of_ble_eq_true rfl⟩ dJ8_newLength_cabcc_3 ?_
  refine lv_iadd hx hb dJ8_newLength_cabcc_6 ?_
  rw [← hr0]
  refine lv_istore_n (lv' := [(3, .int r), (0, .int o), (1, .int g), (2, .int f)]) hx hb dJ8_newLength_cabcc_7 rfl hl (by decide) rfl (fun ls hl => ?_)
  refine lv_iconst (v := 0) hx hb dJ8_newLength_cabcc_8 (by decide) ?_
  refine lv_iload_n hx hb dJ8_newLength_cabcc_9 rfl (lv_at hl 0 rfl) ?_
  refine lv_icmp_ge (tgt := 21) hx hb dJ8_newLength_cabcc_10 (by decide) (fun h => absurd h1 (Int32.not_lt.mpr h)) (fun _ => ?_)
  refine lv_iload_n hx hb dJ8_newLength_cabcc_13 rfl (lv_at hl 0 rfl) ?_
  refine lv_ldc hx hb hown (hts _ wm_1404) dJ8_newLength_cabcc_14 ?_
  refine lv_icmp_gt (tgt := 21) hx hb dJ8_newLength_cabcc_16 (by decide) (fun h => absurd h2 (Int32.not_le.mpr h)) (fun _ => ?_)
  refine lv_iload_n hx hb dJ8_newLength_cabcc_19 rfl (lv_at hl 0 rfl) ?_
  exact bk_iret X hr rfl hB (Nat.le_of_ble_eq_true rfl) (Nat.le_of_ble_eq_true rfl) dJ8_newLength_cabcc_20
theorem ys_J8_newLength_cabcc : bYs yJ8_newLength_cabcc RJ8 cJ8_newLength_cabcc 4 (some .int) 3 := ⟨⟨rfl, by decide, by decide, rfl⟩, wm_1401, wm_27, wm_1402⟩
