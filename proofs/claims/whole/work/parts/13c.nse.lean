/-! ===== throw new NoSuchElementException(text): composed of the library's parts (passes, Throwable's own constructor), as its law for constructors with index 7 is ===== -/
abbrev nse_b : ByteArray := ⟨#[0x2a, 0x2b, 0xb7, 0x00, 0x0d, 0xb1]⟩
theorem nse_0 : decode nse_b 0 = .ok (.aload_n 0, 1) := by decide +kernel
theorem nse_1 : decode nse_b 1 = .ok (.aload_n 1, 1) := by decide +kernel
theorem nse_2 : decode nse_b 2 = .ok (.invokespecial 13, 3) := by decide +kernel
theorem nse_5 : decode nse_b 5 = .ok (.return_, 1) := by decide +kernel
abbrev nse_N : String := "java/util/NoSuchElementException"
abbrev nse_R : String := "java/lang/RuntimeException"
theorem thr_p3 {s : State} {args : Array Value} (hts : ∀ w ∈ wAll, w.before args s = true) (hF : ∀ w ∈ bFace, w.before args s = true) : ∀ w ∈ Bundle.passSAtoms nse_N nse_R 13 nse_b, vx_no w = true → w.before args s = true := List.forall_mem_cons.mpr ⟨fun _ => hts _ wm_1354, List.forall_mem_cons.mpr ⟨fun _ => hts _ wm_1355, List.forall_mem_cons.mpr ⟨fun _ => hts _ wm_1356, List.forall_mem_cons.mpr ⟨fun _ => hts _ wm_976, List.forall_mem_cons.mpr ⟨fun _ => hF _ (List.mem_of_getElem? (i := 4) rfl), fun _ h => absurd h List.not_mem_nil⟩⟩⟩⟩⟩
def nse_A (own : String) (ic : Nat) : List Cond := Bundle.throwableAtoms ++ (Bundle.throwableSAtoms ++ (Bundle.passSAtoms nse_N nse_R 13 nse_b ++ (Bundle.chainSAtoms nse_R ["java/lang/Exception"] ++ thr_own own ic nse_N)))
theorem nse_own {own : String} {ic : Nat} {w : Cond} (h : w ∈ thr_own own ic nse_N) : w ∈ nse_A own ic := List.mem_append_right _ (List.mem_append_right _ (List.mem_append_right _ (List.mem_append_right _ h)))
section NSE
set_option maxHeartbeats 2000000 in
theorem nse_ctor {p : Program} {l : Launch} {e : Env} {R : Room} {s : State} {m₀ : MethodId} {args : Array Value} {below : List Frame} {meth : Method} {c : Code} {W : State} {locs : List Loc} {cells slots : Nat}
    (X : Stand p l e R s m₀ args below meth c W locs cells slots) (hexec : p.tables.exec = Jvm.exec) (htr : e.platform.stackTraces = false) {own : String} {ic : Nat}
    (hown : s.vm.findClass own = some m₀.cls) (h : ∀ w ∈ nse_A own ic, w.before args s = true) (hlocs : locs = [])
    {a : Addr} {cX : ClassId} {kX : Class} (hfoundX : s.vm.findClass nse_N = some cX) (hkX : s.vm.classes[cX]? = some kX) (hcell : W.heap[a]? = some (freshCell cX kX)) (hnew : s.heap.size ≤ a)
    {msg : Value} (hmsg : msg.isRef = true) {g : JFrame} (hg : g.method = m₀) (hsize : g.locals.size = c.maxLocals) (hlocked : g.locked = none) (hentered : g.entered = []) {rest : List Value} (hstack : g.stack = msg :: .ref a :: .ref a :: rest)
    (hd6 : decode c.code g.pc = .ok (.invokespecial ic, 3)) (hd9 : decode c.code (g.pc + 3) = .ok (.athrow, 1)) (hout : ∀ x ∈ c.exceptionTable.toList, covers x (g.pc + 3) = false)
    (hRframes : 5 < R.frames) (hRlocals : 2 * g.monitorRoom + ((Value.ref a :: rest).map fun v => v.category).sum + 81 ≤ R.locals) (hlocks : meth.locks = false) :
    ∃ U : State, Steps p.tables e below (W.setTop g) U ∧ U.status = .running ∧ Ended U below (.threw a) ∧ s.WarmedH U.vm ∧ s.sameButNew ({ U with vm := s.vm } : State) [] cells slots ∧
      ∃ ce, U.heap[a]? = some ce ∧ ce.vm = .none ∧ s.vm.findClass nse_N = some ce.cls := by
  subst hlocs
  have hown_in : ∀ w ∈ thr_own own ic nse_N, w.before args s = true := fun w hw => h w (nse_own hw)
  have a' : ∀ x, x ∈ thr_own own ic nse_N → x.holds args s none s [] = true := fun x hx => hown_in x hx
  have hpl : e.platform.magicAccessors = ({} : Platform).magicAccessors := by rw [X.admits.platform]
  obtain ⟨T, Z0, L, -, Y⟩ := ThrowableC.of_atoms (args := args) (s := s) (by rw [X.admits.platform]) (by rw [X.admits.platform]) hpl (fun x hx => h x (List.mem_append_left _ hx))
  obtain ⟨Z, M, LZ, LM, hnZ⟩ := Init0T.ofS_atoms (args := args) hpl L Y (fun x hx => h x (List.mem_append_right _ (List.mem_append_left _ hx)))
  obtain ⟨P1, L1, hP1m, hP1s⟩ := PassC.ofS_atoms (args := args) (s := s) hpl (X := nse_N) (Y := nse_R) (by decide) (by decide) nse_0 nse_1 nse_2 nse_5 (fun x hx => h x (List.mem_append_right _ (List.mem_append_right _ (List.mem_append_left _ hx))))
  obtain ⟨P2, Ps, hlen, L2, hL, hP2m, hlink2, hlink⟩ := Bundle.chainS (args := args) hpl hnZ ["java/lang/Exception"] nse_R (by decide) (by decide) (fun x hx => h x (List.mem_append_right _ (List.mem_append_right _ (List.mem_append_right _ (List.mem_append_left _ hx)))))
  have hlink1 : P1.sup = P2.m := Option.some.inj (hP1s.symm.trans hP2m)
  have hfound : s.vm.findClass nse_N = some P1.m.cls := findClass_of_methodNamed hP1m
  cases Option.some.inj (hfoundX.symm.trans hfound)
  obtain ⟨c1, kX', hc1, hk, hord, -, -, hn6⟩ := Cond.instantiable_spec (a' (.instantiable nse_N 6) (by simp [thr_own]))
  cases Option.some.inj (hc1.symm.trans hfound)
  cases Option.some.inj (hkX.symm.trans hk)
  have hsel0 : selectMethod e.platform s.vm P1.m.cls T.fill0 = .method T.fill0 := by
    obtain ⟨c2, r2, m2, q1, q2, q3, q4, -⟩ := Cond.selects_spec (a' (.selects nse_N Bundle.tFill0 Bundle.tFill0) (by simp [thr_own]))
    cases Option.some.inj (q1.symm.trans hfound)
    cases Option.some.inj (q2.symm.trans (State.methodFound?_of_named Y.fill0 (by decide)))
    cases Option.some.inj (q3.symm.trans Y.fill0)
    rw [Launch.admits_selectMethod X.admits]; exact q4
  have hselF : selectMethod e.platform s.vm P1.m.cls T.fill = .method T.fill := by
    obtain ⟨c2, r2, m2, q1, q2, q3, q4, -⟩ := Cond.selects_spec (a' (.selects nse_N Bundle.tFill Bundle.tFill) (by simp [thr_own]))
    cases Option.some.inj (q1.symm.trans hfound)
    cases Option.some.inj (q2.symm.trans (State.methodFound?_of_named Y.fill (by decide)))
    cases Option.some.inj (q3.symm.trans Y.fill)
    rw [Launch.admits_selectMethod X.admits]; exact q4
  obtain ⟨cellS0, hcS0, hiss⟩ := Y.statics
  obtain ⟨u0, hu0⟩ := Cond.staticRefV Y.unassigned L.unassignedStatic L.statics hcS0 hiss (a' (.isRef (.static Bundle.tN "UNASSIGNED_STACK" Bundle.steD)) (by simp [thr_own]))
  obtain ⟨sen, hsen⟩ := Cond.staticRefV Y.sentinel L.sentinelStatic L.statics hcS0 hiss (a' (.isRef (.static Bundle.tN "SUPPRESSED_SENTINEL" Bundle.listD)) (by simp [thr_own]))
  obtain ⟨ci198, i198, fB, hk198, hg198, ha198, hsB, -, hnB, htB, hffB⟩ := Cond.ownField (t := .object "java/lang/Object") Y.found L.cls (by decide +kernel) (a' (.fieldLink Bundle.tN 198 Bundle.tN "backtrace" "Ljava/lang/Object;") (by simp [thr_own])) (a' (.lays Bundle.tN Bundle.tN "backtrace" "Ljava/lang/Object;") (by simp [thr_own])) e.platform hpl
  obtain ⟨cellS, hcS', heS, -, hkeep⟩ := X.same.2.2.2.2.2 T.aS cellS0 hcS0
  have hcellS : W.heap[T.aS]? = some cellS := hcS'
  have hknownS : cellS.vm ≠ .unknown := by
    rw [heS]; intro hu
    rw [show cellS0.vm = .unknown from hu] at hiss
    cases hiss
  have hneS : T.aS ≠ a := Nat.ne_of_lt (Nat.lt_of_lt_of_le (Array.getElem?_eq_some_iff.mp hcS0).1 hnew)
  obtain ⟨iM, hffM⟩ := Y.msg
  obtain ⟨tyC, dC, hdC, hdnC⟩ := Cond.laysAt hfound hk Y.cause (a' (.lays nse_N Bundle.tN "cause" "Ljava/lang/Throwable;") (by simp [thr_own]))
  obtain ⟨tyS, dS, hdS, hdnS⟩ := Cond.laysAt hfound hk Y.stack (a' (.lays nse_N Bundle.tN "stackTrace" Bundle.steD) (by simp [thr_own]))
  obtain ⟨tyP, dP, hdP, hdnP⟩ := Cond.laysAt hfound hk Y.supp (a' (.lays nse_N Bundle.tN "suppressedExceptions" Bundle.listD) (by simp [thr_own]))
  obtain ⟨tyM, dM, hdM, hdnM⟩ := Cond.laysAt hfound hk hffM (a' (.lays nse_N Bundle.tN "detailMessage" "Ljava/lang/String;") (by simp [thr_own]))
  obtain ⟨tyB, dB, hdB, hdnB⟩ := Cond.laysAt hfound hk hffB (a' (.lays nse_N Bundle.tN "backtrace" "Ljava/lang/Object;") (by simp [thr_own]))
  have bC := Cond.laysApart hdB hdC hdnB hdnC (by rw [hnB, Y.causeName]; decide)
  have bS := Cond.laysApart hdB hdS hdnB hdnS (by rw [hnB, Y.stackName]; decide)
  have bP := Cond.laysApart hdB hdP hdnB hdnP (by rw [hnB, Y.suppName]; decide)
  have hskip : SkipFacts T e.platform s (fun u => u) u0 ((preparedCellV T.toThrowableT (freshCell P1.m.cls kX) a u0 sen).withEntry W.cur) :=
    ⟨{ ci198 := ci198, i198 := i198, fBack := fB }, ⟨hk198, hg198, ha198, hsB⟩, by
      have := fresh_default (c := P1.m.cls) tyB
      rw [htB] at this
      simpa [preparedCellV, Cell.setSlot, Cell.withEntry, Array.getElem?_setIfInBounds, bC, bS, bP, bC.symm, bS.symm, bP.symm, defaultValue] using this, fun _ _ => rfl⟩
  obtain ⟨tm, methC, cdC, kC, vm₁, hnC, -, -, -, -, -, -, -, hW₁, st1⟩ := Steps.initColdS (tb := p.tables) (e := e) (below := below) (s := s) (U := W) X.here hexec X.warmed hpl hown (t := Bundle.initS nse_N) rfl rfl (by decide)
    (a' (.methodLink own ic (Bundle.initS nse_N)) (by simp [thr_own])) (h (.instanceMethod (Bundle.initS nse_N)) (by simp [nse_A, Bundle.passSAtoms])) (bytes := nse_b) (maxL := 2) (h (.code (Bundle.initS nse_N) nse_b 2 none) (by simp [nse_A, Bundle.passSAtoms]))
    (f := g) hg (a := a) (msg := msg) (rest := .ref a :: rest) hstack hd6
  cases Option.some.inj (hnC.symm.trans hP1m)
  have X₁ := X.noted hW₁
  have hlen2 : (P1 :: P2 :: Ps).length = 3 := by simp only [List.length_cons, hlen]; rfl
  obtain ⟨vm₂, X₂, st2⟩ := X₁.ctorMessageOffV hexec (g := { g with stack := .ref a :: rest }) hg hsize T L Z LZ M LM (P1 :: P2 :: Ps)
    (fun P hP => by
      rcases List.mem_cons.mp hP with rfl | hP
      · exact L1
      · rcases List.mem_cons.mp hP with rfl | hP
        · exact L2
        · exact hL P hP) ⟨hlink1, hlink2, hlink⟩ (u0 := u0) (sen := sen) (self := a) hmsg (cell := freshCell P1.m.cls kX) (cellS := cellS)
    hcell (fun _ => by simp) (by simp) rfl rfl hsel0 hselF hcellS hneS hknownS (by rw [hkeep _ (by simp)]; exact hu0) (by rw [hkeep _ (by simp)]; exact hsen)
    (Takes.of_laid hk hord tyC (by rw [Y.causeType]; rfl)) (Takes.of_laid hk hord tyS (by rw [Y.stackType]; exact fits_refV_array _ u0)) (Takes.of_laid hk hord tyP (by rw [Y.suppType]; exact fits_refV_object _ sen))
    (Takes.of_laid hk hord tyM (by rw [Y.msgType]; exact fits_refV_object _ ⟨msg, hmsg⟩)) Y.objLocals hskip htr [] hd6
    (by rw [hlen2]; exact hRframes) (by rw [hlen2]; exact hRlocals)
  obtain ⟨hwalk, hrun, hended, hWU, hsame⟩ := X₂.athrowLeaves hexec (g := { g with stack := .ref a :: rest, pc := g.pc + 3 }) hg hlocked hentered hout (a := a) (rest := rest) rfl hd9
  have hlt : a < ((W.setVm vm₁).setVm vm₂).heap.size := (Array.getElem?_eq_some_iff.mp hcell).1
  have hU := heapAt_setCell_self (s := (W.setVm vm₁).setVm vm₂) (plainBareV T.toThrowableT (freshCell P1.m.cls kX) a u0 sen msg) hlt
  refine ⟨_, st1 _ (fun acts => ?_), hrun, hended, hWU, hsame.weaken (fun y hy hlt' => ?_) (Nat.le_refl _) (Nat.le_refl _), _, hU, rfl, hfound⟩
  · rw [doInvoke_state]
    exact st2 _ hwalk
  · rcases List.mem_append.mp hy with h1 | h1
    · exact h1
    · exfalso
      have hb : y.base = a := by
        simp only [List.mem_cons, List.not_mem_nil, or_false] at h1
        rcases h1 with rfl | rfl | rfl | rfl | rfl <;> rfl
      rw [hb] at hlt'
      exact Nat.not_lt.mpr hnew hlt'
theorem nse_good : ∀ w ∈ Cond.classLink RX8 332 nse_N :: Cond.initialized nse_N :: (nse_A RX8 336).filter vx_no, vx_ot w = true := List.all_eq_true.mp (by decide +kernel)
theorem nse_hat {s : State} {args : Array Value} (hts : ∀ w ∈ wAll, w.before args s = true) (hF : ∀ w ∈ bFace, w.before args s = true) : ∀ w ∈ (nse_A RX8 336).filter vx_no, w.before args s = true := by
  intro w hw
  obtain ⟨h1, h2⟩ := List.mem_filter.mp hw
  unfold nse_A at h1
  rcases List.mem_append.mp h1 with h1 | h1
  · exact thr_t hts w h1 h2
  rcases List.mem_append.mp h1 with h1 | h1
  · exact thr_s hts w h1 h2
  rcases List.mem_append.mp h1 with h1 | h1
  · exact thr_p3 hts hF w h1 h2
  rcases List.mem_append.mp h1 with h1 | h1
  · rcases List.mem_append.mp (show w ∈ Bundle.passSAtoms "java/lang/RuntimeException" "java/lang/Exception" 7 Bundle.six ++ Bundle.passSAtoms "java/lang/Exception" "java/lang/Throwable" 7 Bundle.six from h1) with h1 | h1
    · exact thr_q0 hts hF w h1 h2
    · exact thr_q1 hts hF w h1 h2
  · exact thr_o3 hts hF w h1 h2
variable {p : Program} {l : Launch} {e : Env} {R : Room} {s : State} {m : MethodId} {args : Array Value} {below : List Frame} {meth : Method} {c : Code} {H : Heap} {locs : List Loc} {cells slots : Nat}
variable {cc : ByteArray} {pc : Nat} {ls : Array Slot} {D : va_G} {E : bE} {nL : Nat} {L : List bC} {a : Nat} {v : bM} {mc ms : Nat}
theorem bk_thr3 (X : bCx p s m args meth c RX8 cc nL D E) (hxt : ∀ x ∈ c.exceptionTable.toList, False) (hlt : l.stackTraces = false) (hz : ls.size = nL) (hB : bB D E L a v s H locs) {r0 : Nat} (hf : (some 3 : Option Nat) = some r0) (hk : Cond.classLink RX8 332 "java/util/NoSuchElementException" ∈ wAll) (ti : Nat) {is : Nat} {text : String} (hti : sWd[ti]? = some (RX8, is, text))
    (d0 : decode cc pc = .ok (.new 332, 3)) (d3 : decode cc (pc + 3) = .ok (.dup, 1)) (d4 : decode cc (pc + 4) = .ok (.ldc_w is, 3)) (d7 : decode cc (pc + 7) = .ok (.invokespecial 336, 3)) (d10 : decode cc (pc + 10) = .ok (.athrow, 1))
    (hR : 6 ≤ R.frames ∧ 82 ≤ R.locals ∧ cells + 1 ≤ R.cells ∧ slots + 6 ≤ R.slots) (hc : cells + 1 ≤ mc) (hs : slots + 6 ≤ ms) : W p l e R s m args below meth c H locs cells slots (bQX below D E L a v r0 args s mc ms) (F0 m pc ls []) := by
  cases hf
  obtain ⟨hBk, hS0, hwf, hlim, hEs, hTx⟩ := id hB
  have hS : va_S (fun q => a ≤ q) s.heap H locs := ⟨hS0.1, fun q h1 h2 => hS0.2.1 q h1 (fun z => h2 (bA_ge hB q z)), fun q hq => bA_ge hB _ (hS0.2.2 q hq)⟩
  have hk' := X.2.2.2.2.1 _ hk
  have hini := X.2.2.2.2.1 _ wm_25
  have hat := nse_hat X.2.2.2.2.1 X.face
  have hgood := nse_good
  have hstr : vk_R RX8 is text (E.1.2 ti) s := X.2.2.2.2.2.1.2.2.1 ti _ hti
  intro T hT Xs
  have htr : e.platform.stackTraces = false := (show e.platform.stackTraces = l.stackTraces by rw [Xs.admits.platform]).trans hlt
  have Y := vx_rebase Xs (R' := { frames := R.frames, locals := R.locals, cells := 1, slots := 6 }) (Nat.le_refl _) (Nat.le_refl _) hR.2.2.1 hR.2.2.2
  obtain ⟨s', hA⟩ : ∃ z, z = (T.setVm s.vm).setFrames (.invoking m args :: below) := ⟨_, rfl⟩
  rw [← hA] at Y
  have hvm : s'.vm = s.vm := by rw [hA]; rfl
  have hhp : s'.heap = H := by rw [hA]; exact hT
  have hW0 : s.WarmedH s'.vm := by rw [hvm]; exact State.WarmedH.refl s
  have hat' : ∀ w ∈ (nse_A RX8 336).filter vx_no, w.before args s' = true := fun w hw => vx_ot_at hW0 hvm.symm (hgood w (List.mem_cons_of_mem _ (List.mem_cons_of_mem _ hw))) (hat w hw)
  have hk9 : (Cond.classLink RX8 332 nse_N).before args s' = true := vx_ot_at hW0 hvm.symm (hgood _ List.mem_cons_self) hk'
  have hini' : (Cond.initialized nse_N).before args s' = true := vx_ot_at hW0 hvm.symm (hgood _ (List.mem_cons_of_mem _ List.mem_cons_self)) hini
  have hU' : vx_Zq Bundle.tN "UNASSIGNED_STACK" Bundle.steD (fun q => a ≤ q) s' s'.heap := by rw [hhp]; exact vx_Zq.moved hW0.alike (hTx.1.2.2.1.kept hS.2.1)
  have hN' : vx_Zq Bundle.tN "SUPPRESSED_SENTINEL" Bundle.listD (fun q => a ≤ q) s' s'.heap := by rw [hhp]; exact vx_Zq.moved hW0.alike (hTx.1.2.2.2.1.kept hS.2.1)
  have h : ∀ w ∈ nse_A RX8 336, w.before args s' = true := vx_own hat' (vx_isRefq hU'.1) (vx_isRefq hN'.1) hU'.2.word hN'.2.word
  have hown' : s'.vm.findClass RX8 = some m.cls := by rw [hvm]; exact X.2.2.2.1
  have hins : (Cond.instantiable nse_N 6).before args s' = true := h _ (nse_own (by simp [thr_own]))
  obtain ⟨vm₁, cX, kX, hfX, hkX, -, -, X₁, st1⟩ := Y.newCold X.1 (own := RX8) (C := nse_N) (index := 332) (n := 6) hown' hk9 hins hini'
    (g := F0 m pc ls []) rfl (by rw [X.2.1]; exact d0) (Nat.le_refl _) (Nat.le_refl _)
  generalize hT1 : (T.setVm vm₁).pushCell { cls := cX, slots := kX.instanceTypes.map defaultValue, vm := .none } = T1 at X₁ st1
  have hcellA : T1.heap[T.heap.size]? = some (freshCell cX kX) := by rw [← hT1]; exact State.heap_pushCell_size _ _
  have d3' : decode c.code (pc + 3) = .ok (.dup, 1) := by rw [X.2.1]; exact d3
  have d4' : decode c.code (pc + 4) = .ok (.ldc_w is, 3) := by rw [X.2.1]; exact d4
  have hstr' : vk_R RX8 is text (E.1.2 ti) s' := vk_R.warm hW0 hstr
  obtain ⟨U, hsteps, hrun, hend, hW, hsame, ce, hce, hvn, hcls⟩ := nse_ctor X₁ X.1 htr (own := RX8) (ic := 336) hown' h rfl hfX hkX hcellA (by rw [hhp, hT]; exact Nat.le_refl _) (msg := .ref (E.1.2 ti)) rfl
    (g := { method := m, pc := pc + 7, locals := ls, stack := .ref (E.1.2 ti) :: .ref T.heap.size :: .ref T.heap.size :: [], locked := none }) rfl (hz.trans X.2.2.1.symm) rfl rfl (rest := []) rfl
    (by rw [X.2.1]; exact d7) (by rw [X.2.1]; exact d10) (fun x hx => (hxt x hx).elim) hR.1 hR.2.1 X.2.2.2.2.2.2
  obtain ⟨f1, f2⟩ := vx_frame hsame
  rw [hhp] at f1 f2
  have hWs : s.WarmedH U.vm := State.WarmedH.trans hW0 hW
  have hcl : s.vm.findClass nse_N = some ce.cls := by rw [← hvm]; exact hcls
  have hall : s.sameButNew ({ U with vm := s.vm } : State) locs mc ms := by
    subst hA
    obtain ⟨e1, e2⟩ := hsame
    rw [State.setFrames_setFrames] at e1
    have h2 : (T.setVm s.vm).sameButNew ({ U with vm := s.vm } : State) [] (0 + 1) (0 + 6) := ⟨e1, e2⟩
    have h3 := Xs.same.trans h2
    rw [List.append_nil] at h3
    exact h3.mono hc hs
  have f3 : ∀ q : Nat, q < H.size → U.heap[q]? = H[q]? := fun q hq => f2 q hq (fun z hz => nomatch hz)
  refine ⟨U, ?_, .threw T.heap.size, hrun, hend, Or.inr ⟨T.heap.size, rfl, nse_N, ce, locs, ⟨rfl, ?_, ?_⟩, hce, hvn, hcl, hWs, hall, hS0.2.2⟩⟩
  · refine st1 _ ?_
    show Steps p.tables e below (T1.setTop { method := m, pc := pc + 3, locals := ls, stack := .ref T.heap.size :: [], locked := none }) _
    have hcat : (Value.ref T.heap.size).category = 1 := rfl
    jvm_step X₁.here [X₁.here.top, X.1, d3', Value.category]
    exact X₁.ldcStringW X.1 (own := RX8) (text := text) (index := is) (a := E.1.2 ti) hown' hstr'.1 hstr'.2
      (g := { method := m, pc := pc + 4, locals := ls, stack := .ref T.heap.size :: .ref T.heap.size :: [], locked := none }) rfl d4' _ hsteps
  · exact fun i d hd => bAt_kept (hBk i d hd) (fun hq => f3 _ hq) (fun q hq _ _ => f3 q hq)
  · exact ⟨Nat.le_trans hS0.1 f1, fun q h3 h4 => (f3 q (Nat.lt_of_lt_of_le h3 hS0.1)).trans (hS0.2.1 q h3 h4)⟩
end NSE
