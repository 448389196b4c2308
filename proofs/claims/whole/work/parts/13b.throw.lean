/-! ===== methods that throw: contracts ===== -/
def xN (k : Nat) : String := if k = 0 then "java/lang/IndexOutOfBoundsException" else if k = 1 then "java/lang/IllegalArgumentException" else if k = 2 then "java/lang/IllegalStateException" else "java/util/NoSuchElementException"
def bXC (D : va_G) (E : bE) (L : List bC) (a : Nat) (v : bM) (sz k : Nat) : String → State → State → Prop := fun C st t => C = xN k ∧ Blk D E L a v t.heap ∧ va_F (bA a L.length sz) st t
def bNo : Array Value → State → Outcome → State → Prop := fun _ _ _ _ => False
/-- method y, on its block L with the numbers v, throws an exception of class k and leaves the block as it was -/
def bMetX (l : Launch) (y : MethodName) (bytes : ByteArray) (maxL : Nat) (ret : Option FieldType) (d mc ms : Nat) (L : List bC) (args : bE → Nat → List Value) (v : bM) (k : Nat) : Prop :=
  ∀ (D : va_G) (E : bE) (a sz : Nat), vx_Met l y (.code y bytes maxL ret :: wAll) (rmOf d mc ms) (va_Pc (args E a) (bPre D E L a v sz)) bNo (bXC D E L a v sz k) mc ms (bA a L.length sz)
def bQX (below : List Frame) (D : va_G) (E : bE) (L : List bC) (a : Nat) (v : bM) (k : Nat) (args : Array Value) (s : State) (mc ms : Nat) : State → Prop := vx_MQ below bNo (bXC D E L a v s.heap.size k) args s mc ms (bA a L.length s.heap.size)
theorem bk_startX {l : Launch} {y : MethodName} {cc : ByteArray} {maxL : Nat} {ret : Option FieldType} {d mc ms : Nat} {L : List bC} {As : bE → Nat → List Value} {v : bM} {k : Nat} (hy : plainName y.cls = true) (hwf : bWf L) (hA : ∀ E a, (lg_sl (As E a)).length ≤ maxL)
    (body : ∀ (p : Program) (e : Env) (s : State) (m : MethodId) (args : Array Value) (below : List Frame) (meth : Method) (c : Code) (D : va_G) (E : bE) (a : Nat) (ls : Array Slot) (H : Heap) (locs : List Loc), bCx p s m args meth c y.cls cc maxL D E → meth.sig.returnType = ret → (∀ x ∈ c.exceptionTable.toList, False) → lv_has ls maxL (lv_args 0 (As E a)) → bB D E L a v s H locs →
      W p l e (rmOf d mc ms) s m args below meth c H locs 0 0 (bQX below D E L a v k args s mc ms) (F0 m 0 ls [])) : bMetX l y cc maxL ret d mc ms L As v k := by
  intro D E a sz
  refine vx_ofW (cc := cc) (maxL := maxL) (ret := ret) hy rfl ?_
  intro p e s m args below meth c s₁ B hml hxt hv
  obtain ⟨rfl, hsz, hB, hK, h4, h5, h6⟩ := hv
  subst hsz
  have hts := atoms_spec (ws := .code y cc maxL ret :: wAll) B.pre
  have hl := lv_entry (As E a) (n := maxL) (hA E a)
  rw [lg_entry_eq]
  generalize (lg_sl (As E a) ++ List.replicate (maxL - (lg_sl (As E a)).length) Slot.unset).toArray = ls at hl ⊢
  exact body p e s m _ below meth c D E a ls _ _ ⟨B.exec, B.bytes, hml, findClass_of_methodNamed B.named, fun w hw => hts w (List.mem_cons_of_mem _ hw), hK, B.notSynchronized⟩ B.returns hxt hl ⟨hB, va_S.rf, hwf, h4, h5, h6⟩
def xr (x : Option Nat) (k : Option Nat) : Option Nat := match x with
  | some y => some y
  | none => k
theorem xr_cases {x k : Option Nat} {r : Nat} {P : Prop} (h : xr x k = some r) (h1 : x = some r → P) (h2 : k = some r → P) : P := by
  cases x with
  | none => exact h2 h
  | some y => exact h1 h
def thr_up : List String := ["java/lang/RuntimeException", "java/lang/Exception"]
def thr_own (own : String) (ic : Nat) (X : String) : List Cond :=
  [.methodLink own ic (Bundle.initS X), .instantiable X 6, .castable X X, .selects X Bundle.tFill0 Bundle.tFill0, .selects X Bundle.tFill Bundle.tFill,
   .lays X Bundle.tN "cause" "Ljava/lang/Throwable;", .lays X Bundle.tN "stackTrace" Bundle.steD, .lays X Bundle.tN "suppressedExceptions" Bundle.listD, .lays X Bundle.tN "detailMessage" "Ljava/lang/String;",
   .isRef (.static Bundle.tN "UNASSIGNED_STACK" Bundle.steD), .isRef (.static Bundle.tN "SUPPRESSED_SENTINEL" Bundle.listD),
   .fieldLink Bundle.tN 198 Bundle.tN "backtrace" "Ljava/lang/Object;", .lays Bundle.tN Bundle.tN "backtrace" "Ljava/lang/Object;", .lays X Bundle.tN "backtrace" "Ljava/lang/Object;"]
section THR
variable {s : State} {args : Array Value}
theorem thr_t (hts : ∀ w ∈ wAll, w.before args s = true) : ∀ w ∈ Bundle.throwableAtoms, vx_no w = true → w.before args s = true := List.forall_mem_cons.mpr ⟨fun _ => hts _ wm_19, List.forall_mem_cons.mpr ⟨fun _ => hts _ wm_949, List.forall_mem_cons.mpr ⟨fun _ => hts _ wm_958, List.forall_mem_cons.mpr ⟨fun _ => hts _ wm_965, List.forall_mem_cons.mpr ⟨fun _ => hts _ wm_968, List.forall_mem_cons.mpr ⟨fun _ => hts _ wm_970, List.forall_mem_cons.mpr ⟨fun _ => hts _ wm_950, List.forall_mem_cons.mpr ⟨fun _ => hts _ wm_951, List.forall_mem_cons.mpr ⟨fun _ => hts _ wm_38, List.forall_mem_cons.mpr ⟨fun _ => hts _ wm_39, List.forall_mem_cons.mpr ⟨fun _ => hts _ wm_952, List.forall_mem_cons.mpr ⟨fun _ => hts _ wm_957, List.forall_mem_cons.mpr ⟨fun _ => hts _ wm_966, List.forall_mem_cons.mpr ⟨fun _ => hts _ wm_986, List.forall_mem_cons.mpr ⟨fun _ => hts _ wm_939, List.forall_mem_cons.mpr ⟨fun _ => hts _ wm_987, List.forall_mem_cons.mpr ⟨fun _ => hts _ wm_941, List.forall_mem_cons.mpr ⟨fun _ => hts _ wm_988, List.forall_mem_cons.mpr ⟨fun _ => hts _ wm_943, List.forall_mem_cons.mpr ⟨fun _ => hts _ wm_953, List.forall_mem_cons.mpr ⟨fun h => absurd h (by decide), List.forall_mem_cons.mpr ⟨fun _ => hts _ wm_955, List.forall_mem_cons.mpr ⟨fun h => absurd h (by decide), List.forall_mem_cons.mpr ⟨fun _ => hts _ wm_945, fun _ h => absurd h List.not_mem_nil⟩⟩⟩⟩⟩⟩⟩⟩⟩⟩⟩⟩⟩⟩⟩⟩⟩⟩⟩⟩⟩⟩⟩⟩
theorem thr_s (hts : ∀ w ∈ wAll, w.before args s = true) : ∀ w ∈ Bundle.throwableSAtoms, vx_no w = true → w.before args s = true := List.forall_mem_cons.mpr ⟨fun _ => hts _ wm_982, List.forall_mem_cons.mpr ⟨fun _ => hts _ wm_983, List.forall_mem_cons.mpr ⟨fun _ => hts _ wm_985, List.forall_mem_cons.mpr ⟨fun _ => hts _ wm_945, fun _ h => absurd h List.not_mem_nil⟩⟩⟩⟩
theorem thr_p0 (hts : ∀ w ∈ wAll, w.before args s = true) (hF : ∀ w ∈ bFace, w.before args s = true) : ∀ w ∈ Bundle.passSAtoms "java/lang/IndexOutOfBoundsException" "java/lang/RuntimeException" 7 Bundle.six, vx_no w = true → w.before args s = true := List.forall_mem_cons.mpr ⟨fun _ => hts _ wm_973, List.forall_mem_cons.mpr ⟨fun _ => hts _ wm_974, List.forall_mem_cons.mpr ⟨fun _ => hts _ wm_975, List.forall_mem_cons.mpr ⟨fun _ => hts _ wm_976, List.forall_mem_cons.mpr ⟨fun _ => hF _ (List.mem_of_getElem? (i := 4) rfl), fun _ h => absurd h List.not_mem_nil⟩⟩⟩⟩⟩
theorem thr_p1 (hts : ∀ w ∈ wAll, w.before args s = true) (hF : ∀ w ∈ bFace, w.before args s = true) : ∀ w ∈ Bundle.passSAtoms "java/lang/IllegalArgumentException" "java/lang/RuntimeException" 7 Bundle.six, vx_no w = true → w.before args s = true := List.forall_mem_cons.mpr ⟨fun _ => hts _ wm_1098, List.forall_mem_cons.mpr ⟨fun _ => hts _ wm_1099, List.forall_mem_cons.mpr ⟨fun _ => hts _ wm_1100, List.forall_mem_cons.mpr ⟨fun _ => hts _ wm_976, List.forall_mem_cons.mpr ⟨fun _ => hF _ (List.mem_of_getElem? (i := 4) rfl), fun _ h => absurd h List.not_mem_nil⟩⟩⟩⟩⟩
theorem thr_p2 (hts : ∀ w ∈ wAll, w.before args s = true) (hF : ∀ w ∈ bFace, w.before args s = true) : ∀ w ∈ Bundle.passSAtoms "java/lang/IllegalStateException" "java/lang/RuntimeException" 7 Bundle.six, vx_no w = true → w.before args s = true := List.forall_mem_cons.mpr ⟨fun _ => hts _ wm_1226, List.forall_mem_cons.mpr ⟨fun _ => hts _ wm_1227, List.forall_mem_cons.mpr ⟨fun _ => hts _ wm_1228, List.forall_mem_cons.mpr ⟨fun _ => hts _ wm_976, List.forall_mem_cons.mpr ⟨fun _ => hF _ (List.mem_of_getElem? (i := 4) rfl), fun _ h => absurd h List.not_mem_nil⟩⟩⟩⟩⟩
theorem thr_q0 (hts : ∀ w ∈ wAll, w.before args s = true) (hF : ∀ w ∈ bFace, w.before args s = true) : ∀ w ∈ Bundle.passSAtoms "java/lang/RuntimeException" "java/lang/Exception" 7 Bundle.six, vx_no w = true → w.before args s = true := List.forall_mem_cons.mpr ⟨fun _ => hts _ wm_976, List.forall_mem_cons.mpr ⟨fun _ => hts _ wm_977, List.forall_mem_cons.mpr ⟨fun _ => hts _ wm_978, List.forall_mem_cons.mpr ⟨fun _ => hts _ wm_979, List.forall_mem_cons.mpr ⟨fun _ => hF _ (List.mem_of_getElem? (i := 5) rfl), fun _ h => absurd h List.not_mem_nil⟩⟩⟩⟩⟩
theorem thr_q1 (hts : ∀ w ∈ wAll, w.before args s = true) (hF : ∀ w ∈ bFace, w.before args s = true) : ∀ w ∈ Bundle.passSAtoms "java/lang/Exception" "java/lang/Throwable" 7 Bundle.six, vx_no w = true → w.before args s = true := List.forall_mem_cons.mpr ⟨fun _ => hts _ wm_979, List.forall_mem_cons.mpr ⟨fun _ => hts _ wm_980, List.forall_mem_cons.mpr ⟨fun _ => hts _ wm_981, List.forall_mem_cons.mpr ⟨fun _ => hts _ wm_982, List.forall_mem_cons.mpr ⟨fun _ => hF _ (List.mem_of_getElem? (i := 6) rfl), fun _ h => absurd h List.not_mem_nil⟩⟩⟩⟩⟩
theorem thr_o0 (hts : ∀ w ∈ wAll, w.before args s = true) (hF : ∀ w ∈ bFace, w.before args s = true) : ∀ w ∈ thr_own RX8 351 "java/lang/IndexOutOfBoundsException", vx_no w = true → w.before args s = true := List.forall_mem_cons.mpr ⟨fun _ => hts _ wm_972, List.forall_mem_cons.mpr ⟨fun _ => hts _ wm_928, List.forall_mem_cons.mpr ⟨fun _ => hF _ (List.mem_of_getElem? (i := 0) rfl), List.forall_mem_cons.mpr ⟨fun _ => hts _ wm_936, List.forall_mem_cons.mpr ⟨fun _ => hts _ wm_937, List.forall_mem_cons.mpr ⟨fun _ => hts _ wm_938, List.forall_mem_cons.mpr ⟨fun _ => hts _ wm_940, List.forall_mem_cons.mpr ⟨fun _ => hts _ wm_942, List.forall_mem_cons.mpr ⟨fun _ => hts _ wm_944, List.forall_mem_cons.mpr ⟨fun h => absurd h (by decide), List.forall_mem_cons.mpr ⟨fun h => absurd h (by decide), List.forall_mem_cons.mpr ⟨fun _ => hts _ wm_948, List.forall_mem_cons.mpr ⟨fun _ => hts _ wm_947, List.forall_mem_cons.mpr ⟨fun _ => hts _ wm_946, fun _ h => absurd h List.not_mem_nil⟩⟩⟩⟩⟩⟩⟩⟩⟩⟩⟩⟩⟩⟩
theorem thr_o1 (hts : ∀ w ∈ wAll, w.before args s = true) (hF : ∀ w ∈ bFace, w.before args s = true) : ∀ w ∈ thr_own RX8 356 "java/lang/IllegalArgumentException", vx_no w = true → w.before args s = true := List.forall_mem_cons.mpr ⟨fun _ => hts _ wm_1097, List.forall_mem_cons.mpr ⟨fun _ => hts _ wm_1088, List.forall_mem_cons.mpr ⟨fun _ => hF _ (List.mem_of_getElem? (i := 1) rfl), List.forall_mem_cons.mpr ⟨fun _ => hts _ wm_1090, List.forall_mem_cons.mpr ⟨fun _ => hts _ wm_961, List.forall_mem_cons.mpr ⟨fun _ => hts _ wm_1091, List.forall_mem_cons.mpr ⟨fun _ => hts _ wm_1092, List.forall_mem_cons.mpr ⟨fun _ => hts _ wm_1093, List.forall_mem_cons.mpr ⟨fun _ => hts _ wm_1094, List.forall_mem_cons.mpr ⟨fun h => absurd h (by decide), List.forall_mem_cons.mpr ⟨fun h => absurd h (by decide), List.forall_mem_cons.mpr ⟨fun _ => hts _ wm_948, List.forall_mem_cons.mpr ⟨fun _ => hts _ wm_947, List.forall_mem_cons.mpr ⟨fun _ => hts _ wm_1095, fun _ h => absurd h List.not_mem_nil⟩⟩⟩⟩⟩⟩⟩⟩⟩⟩⟩⟩⟩⟩
theorem thr_o2 (hts : ∀ w ∈ wAll, w.before args s = true) (hF : ∀ w ∈ bFace, w.before args s = true) : ∀ w ∈ thr_own RX8 361 "java/lang/IllegalStateException", vx_no w = true → w.before args s = true := List.forall_mem_cons.mpr ⟨fun _ => hts _ wm_1225, List.forall_mem_cons.mpr ⟨fun _ => hts _ wm_1216, List.forall_mem_cons.mpr ⟨fun _ => hF _ (List.mem_of_getElem? (i := 2) rfl), List.forall_mem_cons.mpr ⟨fun _ => hts _ wm_1218, List.forall_mem_cons.mpr ⟨fun _ => hts _ wm_962, List.forall_mem_cons.mpr ⟨fun _ => hts _ wm_1219, List.forall_mem_cons.mpr ⟨fun _ => hts _ wm_1220, List.forall_mem_cons.mpr ⟨fun _ => hts _ wm_1221, List.forall_mem_cons.mpr ⟨fun _ => hts _ wm_1222, List.forall_mem_cons.mpr ⟨fun h => absurd h (by decide), List.forall_mem_cons.mpr ⟨fun h => absurd h (by decide), List.forall_mem_cons.mpr ⟨fun _ => hts _ wm_948, List.forall_mem_cons.mpr ⟨fun _ => hts _ wm_947, List.forall_mem_cons.mpr ⟨fun _ => hts _ wm_1223, fun _ h => absurd h List.not_mem_nil⟩⟩⟩⟩⟩⟩⟩⟩⟩⟩⟩⟩⟩⟩
theorem thr_o3 (hts : ∀ w ∈ wAll, w.before args s = true) (hF : ∀ w ∈ bFace, w.before args s = true) : ∀ w ∈ thr_own RX8 336 "java/util/NoSuchElementException", vx_no w = true → w.before args s = true := List.forall_mem_cons.mpr ⟨fun _ => hts _ wm_1353, List.forall_mem_cons.mpr ⟨fun _ => hts _ wm_1344, List.forall_mem_cons.mpr ⟨fun _ => hF _ (List.mem_of_getElem? (i := 3) rfl), List.forall_mem_cons.mpr ⟨fun _ => hts _ wm_1346, List.forall_mem_cons.mpr ⟨fun _ => hts _ wm_964, List.forall_mem_cons.mpr ⟨fun _ => hts _ wm_1347, List.forall_mem_cons.mpr ⟨fun _ => hts _ wm_1348, List.forall_mem_cons.mpr ⟨fun _ => hts _ wm_1349, List.forall_mem_cons.mpr ⟨fun _ => hts _ wm_1350, List.forall_mem_cons.mpr ⟨fun h => absurd h (by decide), List.forall_mem_cons.mpr ⟨fun h => absurd h (by decide), List.forall_mem_cons.mpr ⟨fun _ => hts _ wm_948, List.forall_mem_cons.mpr ⟨fun _ => hts _ wm_947, List.forall_mem_cons.mpr ⟨fun _ => hts _ wm_1351, fun _ h => absurd h List.not_mem_nil⟩⟩⟩⟩⟩⟩⟩⟩⟩⟩⟩⟩⟩⟩
theorem thr_a0 (hts : ∀ w ∈ wAll, w.before args s = true) (hF : ∀ w ∈ bFace, w.before args s = true) : ∀ w ∈ vx_atS RX8 351 "java/lang/IndexOutOfBoundsException" thr_up, w.before args s = true := by
  intro w hw
  obtain ⟨h1, h2⟩ := List.mem_filter.mp hw
  unfold Bundle.ownAtoms at h1
  rcases List.mem_append.mp h1 with h1 | h1
  · rcases List.mem_append.mp h1 with h1 | h1
    · rcases List.mem_append.mp h1 with h1 | h1
      · exact thr_t hts w h1 h2
      · exact thr_s hts w h1 h2
    · rcases List.mem_append.mp (show w ∈ Bundle.passSAtoms "java/lang/IndexOutOfBoundsException" "java/lang/RuntimeException" 7 Bundle.six ++ (Bundle.passSAtoms "java/lang/RuntimeException" "java/lang/Exception" 7 Bundle.six ++ Bundle.passSAtoms "java/lang/Exception" "java/lang/Throwable" 7 Bundle.six) from h1) with h1 | h1
      · exact thr_p0 hts hF w h1 h2
      · rcases List.mem_append.mp h1 with h1 | h1
        · exact thr_q0 hts hF w h1 h2
        · exact thr_q1 hts hF w h1 h2
  · exact thr_o0 hts hF w h1 h2
theorem thr_g0 : ∀ w ∈ Cond.classLink RX8 347 "java/lang/IndexOutOfBoundsException" :: Cond.initialized "java/lang/IndexOutOfBoundsException" :: vx_atS RX8 351 "java/lang/IndexOutOfBoundsException" thr_up, vx_ot w = true := List.all_eq_true.mp (by decide +kernel)
theorem thr_a1 (hts : ∀ w ∈ wAll, w.before args s = true) (hF : ∀ w ∈ bFace, w.before args s = true) : ∀ w ∈ vx_atS RX8 356 "java/lang/IllegalArgumentException" thr_up, w.before args s = true := by
  intro w hw
  obtain ⟨h1, h2⟩ := List.mem_filter.mp hw
  unfold Bundle.ownAtoms at h1
  rcases List.mem_append.mp h1 with h1 | h1
  · rcases List.mem_append.mp h1 with h1 | h1
    · rcases List.mem_append.mp h1 with h1 | h1
      · exact thr_t hts w h1 h2
      · exact thr_s hts w h1 h2
    · rcases List.mem_append.mp (show w ∈ Bundle.passSAtoms "java/lang/IllegalArgumentException" "java/lang/RuntimeException" 7 Bundle.six ++ (Bundle.passSAtoms "java/lang/RuntimeException" "java/lang/Exception" 7 Bundle.six ++ Bundle.passSAtoms "java/lang/Exception" "java/lang/Throwable" 7 Bundle.six) from h1) with h1 | h1
      · exact thr_p1 hts hF w h1 h2
      · rcases List.mem_append.mp h1 with h1 | h1
        · exact thr_q0 hts hF w h1 h2
        · exact thr_q1 hts hF w h1 h2
  · exact thr_o1 hts hF w h1 h2
theorem thr_g1 : ∀ w ∈ Cond.classLink RX8 352 "java/lang/IllegalArgumentException" :: Cond.initialized "java/lang/IllegalArgumentException" :: vx_atS RX8 356 "java/lang/IllegalArgumentException" thr_up, vx_ot w = true := List.all_eq_true.mp (by decide +kernel)
theorem thr_a2 (hts : ∀ w ∈ wAll, w.before args s = true) (hF : ∀ w ∈ bFace, w.before args s = true) : ∀ w ∈ vx_atS RX8 361 "java/lang/IllegalStateException" thr_up, w.before args s = true := by
  intro w hw
  obtain ⟨h1, h2⟩ := List.mem_filter.mp hw
  unfold Bundle.ownAtoms at h1
  rcases List.mem_append.mp h1 with h1 | h1
  · rcases List.mem_append.mp h1 with h1 | h1
    · rcases List.mem_append.mp h1 with h1 | h1
      · exact thr_t hts w h1 h2
      · exact thr_s hts w h1 h2
    · rcases List.mem_append.mp (show w ∈ Bundle.passSAtoms "java/lang/IllegalStateException" "java/lang/RuntimeException" 7 Bundle.six ++ (Bundle.passSAtoms "java/lang/RuntimeException" "java/lang/Exception" 7 Bundle.six ++ Bundle.passSAtoms "java/lang/Exception" "java/lang/Throwable" 7 Bundle.six) from h1) with h1 | h1
      · exact thr_p2 hts hF w h1 h2
      · rcases List.mem_append.mp h1 with h1 | h1
        · exact thr_q0 hts hF w h1 h2
        · exact thr_q1 hts hF w h1 h2
  · exact thr_o2 hts hF w h1 h2
theorem thr_g2 : ∀ w ∈ Cond.classLink RX8 357 "java/lang/IllegalStateException" :: Cond.initialized "java/lang/IllegalStateException" :: vx_atS RX8 361 "java/lang/IllegalStateException" thr_up, vx_ot w = true := List.all_eq_true.mp (by decide +kernel)
end THR
section THRB
variable {p : Program} {l : Launch} {e : Env} {R : Room} {s : State} {m : MethodId} {args : Array Value} {below : List Frame} {meth : Method} {c : Code} {H : Heap} {locs : List Loc} {cells slots : Nat} {Q : State → Prop}
variable {cc : ByteArray} {pc : Nat} {ls : Array Slot} {rest : List Value} {D : va_G} {E : bE} {own : String} {nL : Nat} {L : List bC} {a : Nat} {v : bM} {mc ms : Nat}
theorem bCx.face (X : bCx p s m args meth c own cc nL D E) : ∀ w ∈ bFace, w.before args s = true := fun w hw => va_tabs (bFace_ok w hw).1 rfl (X.2.2.2.2.2.1.2.2.2.1 w hw)
theorem bk_thr (k : Nat) {ik is ic : Nat} {text cls : String} (hcls : xN k = cls) (X : bCx p s m args meth c RX8 cc nL D E) (hxt : ∀ x ∈ c.exceptionTable.toList, False) (hlt : l.stackTraces = false) (hz : ls.size = nL) (hB : bB D E L a v s H locs) (hk : Cond.classLink RX8 ik cls ∈ wAll) (hini : (Cond.initialized cls).before args s = true)
    (hat : (∀ w ∈ wAll, w.before args s = true) → (∀ w ∈ bFace, w.before args s = true) → ∀ w ∈ vx_atS RX8 ic cls thr_up, w.before args s = true)
    (hgood : ∀ w ∈ Cond.classLink RX8 ik cls :: Cond.initialized cls :: vx_atS RX8 ic cls thr_up, vx_ot w = true) (hfit : Bundle.fit cls = true)
    (ti : Nat) (hti : sWd[ti]? = some (RX8, is, text))
    (d0 : decode cc pc = .ok (.new ik, 3)) (d3 : decode cc (pc + 3) = .ok (.dup, 1)) (d4 : decode cc (pc + 4) = .ok (.ldc_w is, 3)) (d7 : decode cc (pc + 7) = .ok (.invokespecial ic, 3)) (d10 : decode cc (pc + 10) = .ok (.athrow, 1))
    (hR : 6 ≤ R.frames ∧ 82 ≤ R.locals ∧ cells + 1 ≤ R.cells ∧ slots + 6 ≤ R.slots) (hc : cells + 1 ≤ mc) (hs : slots + 6 ≤ ms) : W p l e R s m args below meth c H locs cells slots (bQX below D E L a v k args s mc ms) (F0 m pc ls []) := by
  obtain ⟨hBk, hS, hwf, hlim, hEs, hT⟩ := id hB
  unfold bQX
  refine vx_throwSW (names := thr_up) (A := fun q => a ≤ q) X.1 X.2.1 hlt X.2.2.2.1 hfit (by decide) (X.2.2.2.2.1 _ hk) hini (X.2.2.2.2.2.1.2.2.1 ti _ hti) (hat X.2.2.2.2.1 X.face) hgood hT.1.2.2.1 hT.1.2.2.2.1 ?_ (hz.trans X.2.2.1.symm) d0 d3 d4 d7 d10 (fun x hx => (hxt x hx).elim) ?_ ?_ hR.2.2.1 hR.2.2.2 X.2.2.2.2.2.2 ?_ ?_ hc hs
  · exact ⟨hS.1, fun q h1 h2 => hS.2.1 q h1 (fun z => h2 (bA_ge hB q z)), fun q hq => bA_ge hB _ (hS.2.2 q hq)⟩
  · show 2 + 3 < R.frames
    omega
  · show 0 + (13 * (2 + 1) + 43) ≤ R.locals
    omega
  · intro t _ h1 h2
    refine ⟨hcls.symm, ?_, ?_⟩
    · exact fun i d hd => bAt_kept (hBk i d hd) (fun hq => h2 _ hq) (fun q hq _ _ => h2 q hq)
    · exact ⟨Nat.le_trans hS.1 h1, fun q h3 h4 => (h2 q (Nat.lt_of_lt_of_le h3 hS.1)).trans (hS.2.1 q h3 h4)⟩
  · exact hS.2.2
abbrev bRunX (p : Program) (l : Launch) (e : Env) (R : Room) (s : State) (m : MethodId) (args : Array Value) (below : List Frame) (meth : Method) (c : Code) (H : Heap) (locs : List Loc) (cells slots mc ms : Nat) (g : JFrame) (rest : List Value) (D : va_G) (E : bE) (L : List bC) (a : Nat) (v : bM) (k : Nat) : Prop :=
  vx_Run p l e R s m args below meth c H locs cells slots mc ms g rest (fun _ _ _ => False) (bXC D E L a v H.size k) (bA a L.length H.size)
theorem bk_runVX {y : MethodName} {bytes : ByteArray} {maxL d n index ci : Nat} {ret : Option FieldType} {Ly : List bC} {As : bE → Nat → List Value} {w : bM} {k : Nat} {C : String} {fs : List Value} {b b0 : Nat} {Av : List Value} (X : bCx p s m args meth c own cc nL D E)
    (hM : bMetX l y bytes maxL ret d mc ms Ly As w k) (hY : bYv y C bytes maxL ret n) (hw : Cond.methodLink own index y ∈ wAll) (hR : d + 1 ≤ R.frames ∧ 8 + (maxL + 11) + 40 * d ≤ R.locals) (hAs : As E b = .ref b0 :: Av) (hn : Av.length = n) (hsize : ls.size = nL)
    {T : u_T} {N : Nat} (hcl : vwCl[ci]? = some (C, T, N)) (hrc : va_at D vwCl (b0, .inr (ci, fs)) H)
    (hB : Blk D E Ly b w H) (h4 : b + Ly.length ≤ E.2) (h5 : E.2 ≤ H.size ∧ bTx s E b H) (hW : (rest.map fun v => v.category).sum ≤ 8) (hf : cells + mc ≤ R.cells ∧ slots + ms ≤ R.slots) (hdg : decode cc pc = .ok (.invokevirtual index, 3)) : bRunX p l e R s m args below meth c H locs cells slots mc ms (F0 m pc ls (Av.reverse ++ .ref b0 :: rest)) rest D E Ly b w k := by
  obtain ⟨hd, hwi, hws, hwn, hwc⟩ := hY
  have hC := hd.1
  have hrc := va_recv (ws := [(b0, .inr (ci, fs))]) (q0 := 0) (X.2.2.2.2.2.1.1) (va_P.one hrc) hcl rfl
  refine vx_runV (C := C) (As := Av) (rest := rest) (b := b0) (Ts := wAll) (Qc := bNo) ⟨X.1, X.2.1, X.2.2.1, X.2.2.2.1, X.2.2.2.2.1⟩ (hM D E b H.size) (cwV n X.2.2.2.2.1 ?_ rfl rfl rfl hd hR) ⟨bBlind D E Ly b w H.size (As E b), hrc, fun U hU hWa => ⟨by rw [hAs], by rw [hU], by rw [hU]; exact hB, X.2.2.2.2.2.1.moved hWa, h4, h5.1, by rw [hU]; exact bTx.moved hWa.alike h5.2⟩⟩ rfl hn hsize rfl (lv_room hW) hdg hf
  refine wGood (fun w hw2 => ?_)
  rcases List.mem_append.mp hw2 with h | h
  · simp only [List.mem_cons, List.not_mem_nil, or_false] at h
    rcases h with rfl | rfl | rfl | rfl
    · exact hw
    · exact hwi
    · exact hws
    · exact hwn
  · exact ((wGoodC hwc) w h).1
theorem bk_runSX {y : MethodName} {bytes : ByteArray} {maxL d n index : Nat} {ret : Option FieldType} {Ly : List bC} {As : bE → Nat → List Value} {w : bM} {k : Nat} {b : Nat} {Av : List Value} {C : String} (X : bCx p s m args meth c own cc nL D E)
    (hM : bMetX l y bytes maxL ret d mc ms Ly As w k) (hY : bYs y C bytes maxL ret n) (hw : Cond.methodLink own index y ∈ wAll) (hR : d + 1 ≤ R.frames ∧ 8 + (maxL + 11) + 40 * d ≤ R.locals) (hAs : As E b = Av) (hn : Av.length = n) (hsize : ls.size = nL)
    (hB : Blk D E Ly b w H) (h4 : b + Ly.length ≤ E.2) (h5 : E.2 ≤ H.size ∧ bTx s E b H) (hW : (rest.map fun v => v.category).sum ≤ 8) (hf : cells + mc ≤ R.cells ∧ slots + ms ≤ R.slots) (hdg : decode cc pc = .ok (.invokestatic index, 3)) : bRunX p l e R s m args below meth c H locs cells slots mc ms (F0 m pc ls (Av.reverse ++ rest)) rest D E Ly b w k := by
  obtain ⟨⟨hC, hd⟩, hwi, hwn, hwc⟩ := hY
  subst hC
  exact vx_runS (As := Av) (rest := rest) (Ts := wAll) (Qc := bNo) ⟨X.1, X.2.1, X.2.2.1, X.2.2.2.1, X.2.2.2.2.1⟩ (hM D E b H.size) ⟨callB_of n X.2.2.2.2.1 (wGoodC hwc) rfl rfl rfl (X.2.2.2.2.1 _ hwn) (X.2.2.2.2.1 _ hw) hd hR, X.2.2.2.2.1 _ hwi⟩ ⟨bBlind D E Ly b w H.size (As E b), fun U hU hWa => ⟨by rw [hAs], by rw [hU], by rw [hU]; exact hB, X.2.2.2.2.2.1.moved hWa, h4, h5.1, by rw [hU]; exact bTx.moved hWa.alike h5.2⟩⟩ rfl hn hsize rfl (lv_room hW) hdg hf
/-- not caught here: the callee's throw goes on -/
theorem bk_outX {Ly : List bC} {w : bM} {b k : Nat} {st0 : List Value} (hxt : ∀ x ∈ c.exceptionTable.toList, False) (X : bCx p s m args meth c own cc nL D E) (hB : bB D E L a v s H locs) (hA : ∀ q, bA b Ly.length H.size q → bA a L.length s.heap.size q)
    (hblk : ∀ H1 : Heap, Blk D E Ly b w H1 → H.size ≤ H1.size → (∀ q : Nat, q < H.size → ¬ bA b Ly.length H.size q → H1[q]? = H[q]?) → Blk D E L a v H1)
    (hr : bRunX p l e R s m args below meth c H locs cells slots mc ms (F0 m pc ls st0) rest D E Ly b w k) {mc0 ms0 : Nat} (hc : cells + mc ≤ mc0) (hs : slots + ms ≤ ms0) : W p l e R s m args below meth c H locs cells slots (bQX below D E L a v k args s mc0 ms0) (F0 m pc ls st0) := by
  have hS := hB.2.1
  intro T hT Xs
  rcases hr T hT Xs with ⟨v0, st₀, t, T', L0, h0, X', hL, e1, e2, hF, st⟩ | ⟨q, st₀, t, T', L0, C, ce, h0, X', hL, e1, e2, ⟨hC, hb, hF⟩, hce, hcv, hcl, st⟩
  · exact hF.elim
  · obtain ⟨k1, k2, k3⟩ := vx_keep h0 e1 hS (fun q _ h => hA q h) hA hL hF
    have hbb : Blk D E L a v T'.heap := hblk T'.heap (by rw [e1]; exact hb) k1 k2
    obtain ⟨t2, a1, b1⟩ := vx_out (Qc := bNo) (XC := bXC D E L a v s.heap.size k) (free := bA a L.length s.heap.size) (below := below) (mc := mc0) (ms := ms0) (pc := pc) (ls := ls) (rest := rest) (E := C) (ce := ce) (q := q) (H := T'.heap) (locs := locs ++ L0) (fun x hx => (hxt x hx).elim) X.2.2.2.2.2.2 (by rw [e1]; exact hce) hcv hcl (fun t ht _ => ⟨hC, by rw [ht]; exact hbb, k3.F ht⟩) k3.2.2 hc hs T' rfl X'
    exact ⟨t2, st.trans a1, b1⟩
theorem bk_allX {k : Nat} {st0 : List Value} (hxt : ∀ x ∈ c.exceptionTable.toList, False) (X : bCx p s m args meth c own cc nL D E) (hB : bB D E L a v s H locs)
    (hr : Blk D E L a v H → a + L.length ≤ E.2 → E.2 ≤ H.size ∧ bTx s E a H → bRunX p l e R s m args below meth c H locs cells slots 1 6 (F0 m pc ls st0) rest D E L a v k) {mc0 ms0 : Nat} (hc : cells + 1 ≤ mc0 := by exact Nat.le_of_ble_eq_true rfl) (hs : slots + 6 ≤ ms0 := by exact Nat.le_of_ble_eq_true rfl) : W p l e R s m args below meth c H locs cells slots (bQX below D E L a v k args s mc0 ms0) (F0 m pc ls st0) := by
  obtain ⟨h1, h2, h3, h4, h5⟩ := id hB
  exact bk_outX hxt X hB (hB.subA (k := 0) (by omega)) (fun H1 g _ _ => g) (hr h1 h4 ⟨hB.lim, hB.tx⟩) hc hs
theorem bk_nonX {v0 : bM} {k : Nat} {st0 : List Value} (hxt : ∀ x ∈ c.exceptionTable.toList, False) (X : bCx p s m args meth c own cc nL D E) (hB : bB D E L a v s H locs)
    (hr : Blk D E [] E.2 v0 H → E.2 + ([] : List bC).length ≤ E.2 → E.2 ≤ H.size ∧ bTx s E E.2 H → bRunX p l e R s m args below meth c H locs cells slots 1 6 (F0 m pc ls st0) rest D E [] E.2 v0 k) {mc0 ms0 : Nat} (hc : cells + 1 ≤ mc0 := by exact Nat.le_of_ble_eq_true rfl) (hs : slots + 6 ≤ ms0 := by exact Nat.le_of_ble_eq_true rfl) : W p l e R s m args below meth c H locs cells slots (bQX below D E L a v k args s mc0 ms0) (F0 m pc ls st0) := by
  obtain ⟨h1, h2, h3, h4, h5⟩ := id hB
  have hz := h2.1
  refine bk_outX hxt X hB ?_ ?_ (hr (fun k d h => by simp at h) (by simp) ⟨hB.lim, hB.tx.le (by omega)⟩) hc hs
  · intro q h
    rcases h with h | h
    · simp at h; omega
    · exact Or.inr (by omega)
  · intro H1 _ _ g3
    have g5 : ∀ q : Nat, q < H.size → H1[q]? = H[q]? := fun q hq => g3 q hq (fun z => by
      rcases z with z | z
      · simp at z; omega
      · omega)
    exact fun i d hd => bAt_kept (h1 i d hd) (g5 _) (fun q hq _ _ => g5 q hq)
theorem bk_thr0 (X : bCx p s m args meth c RX8 cc nL D E) (hxt : ∀ x ∈ c.exceptionTable.toList, False) (hlt : l.stackTraces = false) (hz : ls.size = nL) (hB : bB D E L a v s H locs) {r0 : Nat} (hf : (some 0 : Option Nat) = some r0) (hk : Cond.classLink RX8 347 "java/lang/IndexOutOfBoundsException" ∈ wAll) (ti : Nat) {is : Nat} {text : String} (hti : sWd[ti]? = some (RX8, is, text))
    (d0 : decode cc pc = .ok (.new 347, 3)) (d3 : decode cc (pc + 3) = .ok (.dup, 1)) (d4 : decode cc (pc + 4) = .ok (.ldc_w is, 3)) (d7 : decode cc (pc + 7) = .ok (.invokespecial 351, 3)) (d10 : decode cc (pc + 10) = .ok (.athrow, 1))
    (hR : 6 ≤ R.frames ∧ 82 ≤ R.locals ∧ cells + 1 ≤ R.cells ∧ slots + 6 ≤ R.slots) (hc : cells + 1 ≤ mc) (hs : slots + 6 ≤ ms) : W p l e R s m args below meth c H locs cells slots (bQX below D E L a v r0 args s mc ms) (F0 m pc ls []) := by
  cases hf
  exact bk_thr 0 rfl X hxt hlt hz hB hk (X.2.2.2.2.1 _ wm_22) (fun hts hF => thr_a0 hts hF) thr_g0 (by decide) ti hti d0 d3 d4 d7 d10 hR hc hs
theorem bk_thr1 (X : bCx p s m args meth c RX8 cc nL D E) (hxt : ∀ x ∈ c.exceptionTable.toList, False) (hlt : l.stackTraces = false) (hz : ls.size = nL) (hB : bB D E L a v s H locs) {r0 : Nat} (hf : (some 1 : Option Nat) = some r0) (hk : Cond.classLink RX8 352 "java/lang/IllegalArgumentException" ∈ wAll) (ti : Nat) {is : Nat} {text : String} (hti : sWd[ti]? = some (RX8, is, text))
    (d0 : decode cc pc = .ok (.new 352, 3)) (d3 : decode cc (pc + 3) = .ok (.dup, 1)) (d4 : decode cc (pc + 4) = .ok (.ldc_w is, 3)) (d7 : decode cc (pc + 7) = .ok (.invokespecial 356, 3)) (d10 : decode cc (pc + 10) = .ok (.athrow, 1))
    (hR : 6 ≤ R.frames ∧ 82 ≤ R.locals ∧ cells + 1 ≤ R.cells ∧ slots + 6 ≤ R.slots) (hc : cells + 1 ≤ mc) (hs : slots + 6 ≤ ms) : W p l e R s m args below meth c H locs cells slots (bQX below D E L a v r0 args s mc ms) (F0 m pc ls []) := by
  cases hf
  exact bk_thr 1 rfl X hxt hlt hz hB hk (X.2.2.2.2.1 _ wm_23) (fun hts hF => thr_a1 hts hF) thr_g1 (by decide) ti hti d0 d3 d4 d7 d10 hR hc hs
theorem bk_thr2 (X : bCx p s m args meth c RX8 cc nL D E) (hxt : ∀ x ∈ c.exceptionTable.toList, False) (hlt : l.stackTraces = false) (hz : ls.size = nL) (hB : bB D E L a v s H locs) {r0 : Nat} (hf : (some 2 : Option Nat) = some r0) (hk : Cond.classLink RX8 357 "java/lang/IllegalStateException" ∈ wAll) (ti : Nat) {is : Nat} {text : String} (hti : sWd[ti]? = some (RX8, is, text))
    (d0 : decode cc pc = .ok (.new 357, 3)) (d3 : decode cc (pc + 3) = .ok (.dup, 1)) (d4 : decode cc (pc + 4) = .ok (.ldc_w is, 3)) (d7 : decode cc (pc + 7) = .ok (.invokespecial 361, 3)) (d10 : decode cc (pc + 10) = .ok (.athrow, 1))
    (hR : 6 ≤ R.frames ∧ 82 ≤ R.locals ∧ cells + 1 ≤ R.cells ∧ slots + 6 ≤ R.slots) (hc : cells + 1 ≤ mc) (hs : slots + 6 ≤ ms) : W p l e R s m args below meth c H locs cells slots (bQX below D E L a v r0 args s mc ms) (F0 m pc ls []) := by
  cases hf
  exact bk_thr 2 rfl X hxt hlt hz hB hk (X.2.2.2.2.1 _ wm_24) (fun hts hF => thr_a2 hts hF) thr_g2 (by decide) ti hti d0 d3 d4 d7 d10 hR hc hs
end THRB
