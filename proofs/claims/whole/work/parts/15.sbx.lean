/-! ===== the whole bakery, its text's bytes free to move: methods that write the text ===== -/
def bBz (D : va_G) (E : bE) (L : List bC) (a : Nat) (v : bM) (s : State) (H : Heap) (locs : List Loc) : Prop := Blk D E L a v H ∧ va_S (bA a L.length E.2) s.heap H locs ∧ bWf L ∧ a + L.length ≤ E.2 ∧ E.2 ≤ s.heap.size ∧ bTx s E a s.heap
def bPostz (D : va_G) (E : bE) (L : List bC) (a : Nat) (v : bM) (res : Option Value) : Array Value → State → Outcome → State → Prop := fun _ st o t => o = .returned res ∧ Blk D E L a v t.heap ∧ va_F (bA a L.length E.2) st t
def bMetz (l : Launch) (y : MethodName) (bytes : ByteArray) (maxL : Nat) (ret : Option FieldType) (d mc ms : Nat) (L : List bC) (args : bE → Nat → List Value) (v v' : bM) (res : bE → Option Value) : Prop :=
  ∀ (D : va_G) (E : bE) (a sz : Nat), Met l y (.code y bytes maxL ret :: wAll) (rmOf d mc ms) (va_Pc (args E a) (bPre D E L a v sz)) (bPostz D E L a v' (res E)) mc ms (bA a L.length E.2)
def bQz (below : List Frame) (D : va_G) (E : bE) (L : List bC) (a : Nat) (v : bM) (res : Option Value) (args : Array Value) (s : State) (mc ms : Nat) : State → Prop := MQ below (bPostz D E L a v res) args s mc ms (bA a L.length E.2)
theorem bz_start {l : Launch} {y : MethodName} {cc : ByteArray} {maxL : Nat} {ret : Option FieldType} {d mc ms : Nat} {L : List bC} {As : bE → Nat → List Value} {v v' : bM} {res : bE → Option Value} (hy : plainFor y = true) (hwf : bWf L) (hA : ∀ E a, (lg_sl (As E a)).length ≤ maxL)
    (body : ∀ (p : Program) (e : Env) (s : State) (m : MethodId) (args : Array Value) (below : List Frame) (meth : Method) (c : Code) (D : va_G) (E : bE) (a : Nat) (ls : Array Slot) (H : Heap) (locs : List Loc), bCx p s m args meth c y.cls cc maxL D E → meth.sig.returnType = ret → lv_has ls maxL (lv_args 0 (As E a)) → bBz D E L a v s H locs →
      W p l e (rmOf d mc ms) s m args below meth c H locs 0 0 (bQz below D E L a v' (res E) args s mc ms) (F0 m 0 ls [])) : bMetz l y cc maxL ret d mc ms L As v v' res := by
  intro D E a sz
  refine va_MetF (cc := cc) (maxL := maxL) (ret := ret) hy rfl ?_
  intro p e s m args below meth c s₁ B hml hv
  obtain ⟨rfl, hsz, hB, hK, h4, h5, h6⟩ := hv
  subst hsz
  have hts := atoms_spec (ws := .code y cc maxL ret :: wAll) B.pre
  have hl := lv_entry (As E a) (n := maxL) (hA E a)
  rw [lg_entry_eq]
  generalize (lg_sl (As E a) ++ List.replicate (maxL - (lg_sl (As E a)).length) Slot.unset).toArray = ls at hl ⊢
  exact body p e s m _ below meth c D E a ls _ _ ⟨B.exec, B.bytes, hml, findClass_of_methodNamed B.named, fun w hw => hts w (List.mem_cons_of_mem _ hw), hK, B.notSynchronized⟩ B.returns hl ⟨hB, va_S.rf, hwf, h4, h5, h6⟩
theorem va_D2 {A : Nat → Prop} {x y : Nat × va_E} (hx : A x.1) (hy : A y.1) (hne : x.1 ≠ y.1) : va_D A [x, y] := by
  refine ⟨fun i j u w hi hj he => ?_, fun k u hk => ?_⟩
  · match i, j, hi, hj with
    | 0, 0, _, _ => rfl
    | 1, 1, _, _ => rfl
    | 0, 1, hi, hj => cases hi; cases hj; exact absurd he hne
    | 1, 0, hi, hj => cases hi; cases hj; exact absurd he.symm hne
    | i + 2, _, hi, _ => simp at hi
    | _, j + 2, _, hj => simp at hj
  · match k, hk with
    | 0, hk => cases hk; exact hx
    | 1, hk => cases hk; exact hy
    | k + 2, hk => simp at hk
/-- the numbers from o on tell the text -/
def sV (v : bM) (o : Nat) (σ : sG) : Prop := (σ.2.2.2.1 = 0 ∨ σ.2.2.2.1 = 1) ∧ v o = nI σ.2.2.2.2 ∧ σ.2.2.2.2 ≤ σ.2.1 ∧ σ.2.1 ≤ 1000 ∧ σ.2.2.2.2 ≤ 80 ∧ sb_Fit σ.2.2.1 ∧ ∀ i, i < σ.2.2.2.2 → ∃ ch : Nat, ch < 128 ∧ v (o + 1 + i) = nI ch ∧ σ.2.2.1 i = sb_b ch
theorem lc_X_864 : LX[864]? = some (.inr (9, 0, 9902, 0)) := by decide +kernel
theorem lc_X_865 : LX[865]? = some (.inr (8, 0, 0, 0)) := by decide +kernel
theorem LX_sb {k : Nat} {x : Nat × Nat × Nat × Nat} (h : LX[k]? = some (.inr x)) (hne : k ≠ 864) : x.1 < 9 := by
  have hall : (List.range 866).all (fun k => k == 864 || (match LX[k]? with | some (.inr x) => decide (x.1 < 9) | _ => true)) = true := by decide +kernel
  have hk : k < 866 := by
    have := (List.getElem?_eq_some_iff.mp h).1
    rw [lenX] at this
    exact this
  have h1 := List.all_eq_true.mp hall k (List.mem_range.mpr hk)
  rw [h, Bool.or_eq_true] at h1
  rcases h1 with h1 | h1
  · exact absurd (by simpa using h1) hne
  · exact of_decide_eq_true h1
theorem yv_J4_length_8abf5 : bYv yJ4_length_8abf5 RJ4 cJ4_length_8abf5 1 (some .int) 0 := ⟨⟨rfl, by decide, by decide, rfl⟩, wm_896, wm_897, wm_11, wm_898⟩
theorem yv_J4_setLength_d00df : bYv yJ4_setLength_d00df RJ4 cJ4_setLength_d00df 2 none 1 := ⟨⟨rfl, by decide, by decide, rfl⟩, wm_1367, wm_1368, wm_11, wm_1369⟩
theorem yv_J4_append_cf468 : bYv yJ4_append_cf468 RJ4 cJ4_append_cf468 2 (some (.object "java/lang/StringBuilder")) 1 := ⟨⟨rfl, by decide, by decide, rfl⟩, wm_1611, wm_1612, wm_11, wm_1613⟩
theorem yv_J4_append_bf812 : bYv yJ4_append_bf812 RJ4 cJ4_append_bf812 2 (some (.object "java/lang/StringBuilder")) 1 := ⟨⟨rfl, by decide, by decide, rfl⟩, wm_1477, wm_1478, wm_11, wm_1479⟩
theorem yv_J4_charAt_5068e : bYv yJ4_charAt_5068e RJ4 cJ4_charAt_5068e 2 (some .char) 1 := ⟨⟨rfl, by decide, by decide, rfl⟩, wm_903, wm_904, wm_11, wm_905⟩
section BZ
variable {p : Program} {l : Launch} {e : Env} {R : Room} {s : State} {m : MethodId} {args : Array Value} {below : List Frame} {meth : Method} {c : Code} {H : Heap} {locs : List Loc} {cells slots : Nat} {Q : State → Prop}
variable {cc : ByteArray} {pc : Nat} {ls : Array Slot} {rest : List Value} {D : va_G} {E : bE} {own : String} {nL : Nat} {L : List bC} {a : Nat} {v : bM} {mc ms : Nat}
theorem bBz.lim (hB : bBz D E L a v s H locs) : E.2 ≤ H.size := Nat.le_trans hB.2.2.2.2.1 hB.2.1.1
theorem bBz.ge (hB : bBz D E L a v s H locs) : ∀ x, bA a L.length E.2 x → a ≤ x := by
  obtain ⟨-, -, -, h4, -⟩ := hB
  intro x h
  rcases h with h | h <;> omega
theorem bBz.tx (hB : bBz D E L a v s H locs) : bTx s E a H := hB.2.2.2.2.2.kept (fun x hx hz => hB.2.1.2.1 x hx (fun z => hz (hB.ge x z)))
theorem bz_open (hB : bBz D E LX a v s H locs) : ∃ σ : sG, sB D E a (a + 864) (bA a LX.length E.2) σ s H locs ∧ sV v 9902 σ ∧ (σ.1 = a + 864 + 1 ∨ E.2 ≤ σ.1) := by
  have hsb : bSB D E (a + 864) v 9902 H := hB.1 864 _ lc_X_864
  obtain ⟨va, cap, arr, ml, n, h1, h2, h3, h4, h5, h6, h7, h8, h9, h10⟩ := hsb
  have hl := hB.2.2.2.1
  have hge := hB.ge
  obtain ⟨-, h12, -, h14, h15, h16⟩ := hB
  have hlen := lenX
  refine ⟨(va, cap, arr, ml, n), ⟨(va_P.one h1).app (va_P.one h3), va_D2 (Or.inl ⟨by omega, by show a + 864 < _; omega⟩) ?_ ?_, h12, hge, fun x hx => Or.inr (by omega), h16, by omega, h15⟩, ⟨h2, h5, h6, h7, h8, h9, h10⟩, h4⟩
  · rcases h4 with h4 | h4
    · exact Or.inl ⟨by show a ≤ va; omega, by show va < _; omega⟩
    · exact Or.inr h4
  · show a + 864 ≠ va
    omega
theorem bz_close (hB : bBz D E LX a v s H locs) {σ σ' : sG} {H1 : Heap} {locs1 : List Loc} {v' : bM} (h0 : σ.1 = a + 864 + 1 ∨ E.2 ≤ σ.1) (hB1 : sB D E a (a + 864) (bA a LX.length E.2) σ' s H1 locs1) (hin : va_D (va_A (sW E (a + 864) σ) H.size) (sW E (a + 864) σ')) (hk : ∀ x : Nat, x < H.size → ¬ va_A (sW E (a + 864) σ) H.size x → H1[x]? = H[x]?) (hV : sV v' 9902 σ') (hv : ∀ x, ¬ (9902 ≤ x ∧ x < 9983) → v' x = v x) : bBz D E LX a v' s H1 locs1 := by
  have hlen := lenX
  have hlim := hB.2.2.2.1
  have hsz := hB.lim
  have h1 : σ'.1 = a + 864 + 1 ∨ E.2 ≤ σ'.1 := by
    rcases hin.2 1 (σ'.1, _) rfl with ⟨k, e9, hk9⟩ | hk9
    · match k, hk9 with
      | 0, hk9 =>
        have h7 : a + 864 = σ'.1 := congrArg (fun z : Nat × va_E => z.1) (Option.some.inj hk9)
        exact absurd (hin.1 0 1 _ _ rfl rfl h7) (by decide)
      | 1, hk9 =>
        have h7 : σ.1 = σ'.1 := congrArg (fun z : Nat × va_E => z.1) (Option.some.inj hk9)
        rw [← h7]; exact h0
      | k + 2, hk9 => simp [sW] at hk9
    · exact Or.inr (by have h8 : H.size ≤ σ'.1 := hk9; omega)
  refine ⟨?_, hB1.2.2.1, hB.2.2⟩
  intro k d hd
  by_cases h8 : k = 864
  · subst h8
    rw [lc_X_864] at hd
    cases hd
    obtain ⟨va, cap, arr, ml, n⟩ := σ'
    obtain ⟨g1, g2, g3, g4, g5, g6, g7⟩ := hV
    exact ⟨va, cap, arr, ml, n, hB1.1 0 _ rfl, g1, hB1.1 1 _ rfl, h1, g2, g3, g4, g5, g6, g7⟩
  by_cases h9 : k = 865
  · subst h9
    rw [lc_X_865] at hd
    cases hd
    trivial
  · have hkl : k < LX.length := (List.getElem?_eq_some_iff.mp hd).1
    refine bAt_kept (bAt_congr hB.2.2.1 hd (fun x hx => (hv x (fun z => ?_)).symm) (hB.1 k d hd)) (fun hlt => hk _ hlt (fun z => ?_)) (fun q hq hor hz => ?_)
    · refine hB.2.2.1.apart hd lc_X_864 h8 hx ?_
      have e1 : bHull (.inr (9, 0, 9902, 0)) = (9902, 81) := rfl
      unfold bIn
      rw [e1]
      exact ⟨z.1, z.2⟩
    · rcases z with ⟨i, e9, hi⟩ | z
      · match i, hi with
        | 0, hi =>
          have h7 : a + 864 = a + k := congrArg (fun z : Nat × va_E => z.1) (Option.some.inj hi)
          omega
        | 1, hi =>
          have h7 : σ.1 = a + k := congrArg (fun z : Nat × va_E => z.1) (Option.some.inj hi)
          omega
        | i + 2, hi => simp [sW] at hi
      · omega
    · obtain ⟨x, rfl, hx9⟩ := hz
      exact absurd (LX_sb hd h8) hx9
theorem sk_runV {q : Nat} {A : Nat → Prop} {σ : sG} {y : MethodName} {bytes : ByteArray} {maxL d n index : Nat} {ret : Option FieldType} {As : bE → Nat → List Value} {Po : sO} {Av : List Value} (X : bCx p s m args meth c own cc nL D E) (hB : sB D E a q A σ s H locs)
    (hM : sMet l y bytes maxL ret d mc ms As σ Po) (hY : bYv y RJ4 bytes maxL ret n) (hw : Cond.methodLink own index y ∈ wAll)
    (hR : d + 1 ≤ R.frames ∧ 8 + (maxL + 11) + 40 * d ≤ R.locals) (hAs : As E q = .ref q :: Av) (hn : Av.length = n) (hsize : ls.size = nL) (hW : (rest.map fun v => v.category).sum ≤ 8) (hf : cells + mc ≤ R.cells ∧ slots + ms ≤ R.slots) (hdg : decode cc pc = .ok (.invokevirtual index, 3)) : va_Run p l e R s m args below meth c H locs cells slots mc ms (F0 m pc ls (Av.reverse ++ .ref q :: rest)) rest (sPost D E q (va_A (sW E q σ) H.size) Po (Value.ref q :: Av).toArray) (va_A (sW E q σ) H.size) := by
  obtain ⟨hd, hwi, hws, hwn, hwc⟩ := hY
  refine va_runV (C := RJ4) (As := Av) (rest := rest) (b := q) (Ts := wAll) ⟨X.1, X.2.1, X.2.2.1, X.2.2.2.1, X.2.2.2.2.1⟩ (hM D E a q H.size) (cwV n X.2.2.2.2.1 ?_ rfl rfl rfl hd hR) ⟨sBlind D E a q σ H.size (As E q), sk_recv X hB, fun U hU hWa => ⟨by rw [hAs], hB.pre X hU hWa⟩⟩ rfl hn hsize rfl (lv_room hW) hdg hf
  refine wGood (fun w hw2 => ?_)
  rcases List.mem_append.mp hw2 with h | h
  · simp only [List.mem_cons, List.not_mem_nil, or_false] at h
    rcases h with rfl | rfl | rfl | rfl
    · exact hw
    · exact hwi
    · exact hws
    · exact hwn
  · exact ((wGoodC hwc) w h).1
theorem bz_sb {y : MethodName} {bytes : ByteArray} {maxL d n index : Nat} {ret : Option FieldType} {As : bE → Nat → List Value} {Rr : sG → sG → Prop} {res : bE → Nat → Option Value} {Av : List Value} {v' : bM} (X : bCx p s m args meth c own cc nL D E) (hB : bBz D E LX a v s H locs)
    (hM : ∀ σ, sV v 9902 σ → sMet l y bytes maxL ret d mc ms As σ (sPo (Rr σ) res)) (hY : bYv y RJ4 bytes maxL ret n) (hw : Cond.methodLink own index y ∈ wAll)
    (hR : d + 1 ≤ R.frames ∧ 8 + (maxL + 11) + 40 * d ≤ R.locals) (hAs : As E (a + 864) = .ref (a + 864) :: Av) (hn : Av.length = n) (hsize : ls.size = nL) (hW : (rest.map fun v => v.category).sum ≤ 8) (hf : cells + mc ≤ R.cells ∧ slots + ms ≤ R.slots) (hdg : decode cc pc = .ok (.invokevirtual index, 3))
    (hV : ∀ σ σ', sV v 9902 σ → Rr σ σ' → sV v' 9902 σ') (hv : ∀ x, ¬ (9902 ≤ x ∧ x < 9983) → v' x = v x)
    (kk : ∀ (H1 : Heap) (locs1 : List Loc), bBz D E LX a v' s H1 locs1 → W p l e R s m args below meth c H1 locs1 (cells + mc) (slots + ms) Q (F0 m (pc + 3) ls ((res E (a + 864)).toList ++ rest))) : W p l e R s m args below meth c H locs cells slots Q (F0 m pc ls (Av.reverse ++ .ref (a + 864) :: rest)) := by
  obtain ⟨σ, hS, hVv, h0⟩ := bz_open hB
  have hr := sk_runV (below := below) (e := e) X hS (hM σ hVv) hY hw hR hAs hn hsize hW hf hdg
  have hS0 := hS.2.2.1
  intro T hT Xs
  obtain ⟨v9, st₀, t, T', L9, h9, X', hL, e1, e2, ⟨⟨r9, hv9, σ', hR9, hr9, hP9, hD9⟩, hz, hk⟩, st⟩ := hr T hT Xs
  cases hv9
  subst hr9
  rw [h9] at hz hk
  have hS1 : va_S (bA a LX.length E.2) s.heap T'.heap (locs ++ L9) := ⟨Nat.le_trans hS0.1 (by rw [e1]; exact hz), fun x h1 h2 => by rw [e1, hk x (Nat.lt_of_lt_of_le h1 hS0.1) (fun z => h2 (hS.sub x z))]; exact hS0.2.1 x h1 h2, fun x hx => by
      rcases List.mem_append.mp hx with h | h
      · exact hS0.2.2 x h
      · exact hS.sub _ (hL x h)⟩
  obtain ⟨t2, a1, b1⟩ := kk T'.heap (locs ++ L9) (bz_close hB h0 ⟨by rw [e1]; exact hP9, ⟨hD9.1, fun k x hx => hS.sub _ (hD9.2 k x hx)⟩, hS1, hS.2.2.2⟩ hD9 (fun x h1 h2 => by rw [e1]; exact hk x h1 h2) (hV σ σ' hVv hR9) hv) T' rfl X'
  exact ⟨t2, st _ a1, b1⟩
/-- a sign behind the text -/
def sbC (v : bM) (x : Int32) : bM := upd (upd v (9903 + (v 9902).toNatClampNeg) x) 9902 (v 9902 + 1)
/-- letters behind the text -/
def sbI (v : bM) (t : List Nat) : bM := fun j => if j = 9902 then v 9902 + nI t.length else if 9903 + (v 9902).toNatClampNeg ≤ j ∧ j < 9903 + (v 9902).toNatClampNeg + t.length then nI (t.getD (j - (9903 + (v 9902).toNatClampNeg)) 0) else v j
theorem sV_app {v v' : bM} {σ σ' : sG} {t : List Nat} (h : sV v 9902 σ) (ha : sApp t σ σ') (ht : ∀ x ∈ t, x < 128) (hn : σ.2.2.2.2 + t.length ≤ 80) (h1 : v' 9902 = nI (σ.2.2.2.2 + t.length)) (h2 : ∀ i, i < σ.2.2.2.2 → v' (9903 + i) = v (9903 + i)) (h3 : ∀ i, i < t.length → v' (9903 + (σ.2.2.2.2 + i)) = nI (t.getD i 0)) : sV v' 9902 σ' := by
  obtain ⟨g1, g2, g3, g4, g5, g6, g7⟩ := h
  obtain ⟨k1, k2, k3, k4, k5, k6⟩ := ha
  have e1 : σ'.2.2.2.2 = σ.2.2.2.2 + t.length := by rw [k1]
  have e2 : σ'.2.2.2.1 = σ.2.2.2.1 := by rw [k1]
  refine ⟨by rw [e2]; exact g1, by rw [e1]; exact h1, by rw [e1]; exact k3, k2, by rw [e1]; exact hn, k4, fun i hi => ?_⟩
  rw [e1] at hi
  by_cases hlo : i < σ.2.2.2.2
  · obtain ⟨ch, c1, c2, c3⟩ := g7 i hlo
    exact ⟨ch, c1, (h2 i hlo).trans c2, (k5 i hlo).trans c3⟩
  · have hj : i - σ.2.2.2.2 < t.length := by omega
    have h5 : σ.2.2.2.2 + (i - σ.2.2.2.2) = i := by omega
    refine ⟨t.getD (i - σ.2.2.2.2) 0, ?_, ?_, ?_⟩
    · rw [List.getD_eq_getElem?_getD, List.getElem?_eq_getElem hj]
      exact ht _ (List.getElem_mem hj)
    · have := h3 _ hj
      rw [h5] at this
      exact this
    · have := k6 _ hj
      rw [h5] at this
      exact this
theorem bz_len (X : bCx p s m args meth c RX8 cc nL D E) (hB : bBz D E LX a v s H locs) {index : Nat} (hw : Cond.methodLink RX8 index yJ4_length_8abf5 ∈ wAll) (hR : 2 ≤ R.frames ∧ 60 ≤ R.locals) (hsize : ls.size = nL) (hW : (rest.map fun v => v.category).sum ≤ 8) (hf : cells ≤ R.cells ∧ slots ≤ R.slots) (hdg : decode cc pc = .ok (.invokevirtual index, 3))
    (kk : ∀ (H1 : Heap) (locs1 : List Loc), bBz D E LX a v s H1 locs1 → W p l e R s m args below meth c H1 locs1 cells slots Q (F0 m (pc + 3) ls (.int (v 9902) :: rest))) : W p l e R s m args below meth c H locs cells slots Q (F0 m pc ls (.ref (a + 864) :: rest)) :=
  bz_sb (mc := 0) (ms := 0) (Av := []) (As := fun _ q => [.ref q]) (Rr := fun σ σ' => σ' = σ) (res := fun _ _ => some (.int (v 9902))) X hB (fun σ h => by rw [h.2.1]; exact mJ4_length_8abf5) yv_J4_length_8abf5 hw hR rfl rfl hsize hW hf hdg (fun σ σ' h1 h2 => by rw [h2]; exact h1) (fun _ _ => rfl) kk
theorem bz_set0 (X : bCx p s m args meth c RX8 cc nL D E) (hB : bBz D E LX a v s H locs) {index : Nat} (hw : Cond.methodLink RX8 index yJ4_setLength_d00df ∈ wAll) (hR : 6 ≤ R.frames ∧ 221 ≤ R.locals) (hsize : ls.size = nL) (hW : (rest.map fun v => v.category).sum ≤ 8) (hf : cells + 1 ≤ R.cells ∧ slots + 201 ≤ R.slots) (hdg : decode cc pc = .ok (.invokevirtual index, 3))
    (kk : ∀ (H1 : Heap) (locs1 : List Loc), bBz D E LX a (upd v 9902 0) s H1 locs1 → W p l e R s m args below meth c H1 locs1 (cells + 1) (slots + 201) Q (F0 m (pc + 3) ls rest)) : W p l e R s m args below meth c H locs cells slots Q (F0 m pc ls (.int 0 :: .ref (a + 864) :: rest)) := by
  refine bz_sb (Av := [.int (nI 0)]) (As := fun _ q => [.ref q, .int (nI 0)]) (Rr := fun σ σ' => σ'.2.2.2.2 = 0 ∧ (σ'.2.2.2.1 = σ.2.2.2.1 ∨ σ'.2.2.2.1 = 1) ∧ σ'.2.1 ≤ 1000 ∧ sb_Fit σ'.2.2.1) (res := fun _ _ => none) X hB (fun σ h => mJ4_setLength_d00df h.2.2.2.1 h.2.2.2.2.2.1 (Nat.le_trans h.2.2.2.2.1 (by decide))) yv_J4_setLength_d00df hw hR rfl rfl hsize hW hf hdg (fun σ σ' h1 h2 => ?_) (fun x hx => ?_) kk
  · obtain ⟨k1, k2, k3, k4⟩ := h2
    refine ⟨?_, ?_, by omega, k3, by omega, k4, fun i hi => absurd hi (by omega)⟩
    · rcases k2 with k2 | k2
      · rw [k2]; exact h1.1
      · exact Or.inr k2
    · rw [k1]; rfl
  · exact upd_ne (by omega)
theorem bz_appC (X : bCx p s m args meth c RX8 cc nL D E) (hB : bBz D E LX a v s H locs) {x : Int32} (h80 : vp_in (v 9902) 79) (h128 : vp_in x 128) {index : Nat} (hw : Cond.methodLink RX8 index yJ4_append_cf468 ∈ wAll) (hR : 6 ≤ R.frames ∧ 221 ≤ R.locals) (hsize : ls.size = nL) (hW : (rest.map fun v => v.category).sum ≤ 8) (hf : cells + 1 ≤ R.cells ∧ slots + 201 ≤ R.slots) (hdg : decode cc pc = .ok (.invokevirtual index, 3))
    (kk : ∀ (H1 : Heap) (locs1 : List Loc), bBz D E LX a (sbC v x) s H1 locs1 → W p l e R s m args below meth c H1 locs1 (cells + 1) (slots + 201) Q (F0 m (pc + 3) ls (.ref (a + 864) :: rest))) : W p l e R s m args below meth c H locs cells slots Q (F0 m pc ls (.int x :: .ref (a + 864) :: rest)) := by
  obtain ⟨ch, hch, rfl⟩ := vp_in_of h128 (by decide)
  have hn : ∀ σ, sV v 9902 σ → σ.2.2.2.2 < 79 ∧ (v 9902).toNatClampNeg = σ.2.2.2.2 := fun σ h => by
    have h1 := vp_lt h80
    rw [h.2.1, nI_clamp (by have := h.2.2.2.2.1; omega)] at h1
    exact ⟨h1, by rw [h.2.1, nI_clamp (by omega)]⟩
  refine bz_sb (Av := [.int (nI ch)]) (As := fun _ q => [.ref q, .int (nI ch)]) (Rr := sApp [ch]) (res := fun _ q => some (.ref q)) X hB (fun σ h => mJ4_append_cf468 (by have := hn σ h; omega) h.2.2.2.1 h.2.2.1 h.2.2.2.2.2.1 hch) yv_J4_append_cf468 hw hR rfl rfl hsize hW hf hdg (fun σ σ' h1 h2 => ?_) (fun j hj => ?_) kk
  · obtain ⟨k1, k2⟩ := hn σ h1
    refine sV_app h1 h2 (fun z hz => by rw [List.mem_singleton.mp hz]; exact hch) (by simp only [List.length_cons, List.length_nil]; omega) ?_ (fun i hi => ?_) (fun i hi => ?_)
    · refine (upd_at rfl).trans ?_
      rw [h1.2.1, nI_1]; rfl
    · refine (upd_ne (by omega)).trans (upd_ne (by rw [k2]; omega))
    · have hi0 : i = 0 := by simp only [List.length_cons, List.length_nil] at hi; omega
      subst hi0
      refine (upd_ne (by omega)).trans ((upd_at (by rw [k2]; omega)).trans ?_)
      rfl
  · obtain ⟨σ, -, h1, -⟩ := bz_open hB
    obtain ⟨k1, k2⟩ := hn σ h1
    exact (upd_ne (by omega)).trans (upd_ne (by rw [k2]; omega))
theorem sNum_128 {x : Int32} {t : List Nat} (h : sNum x t) : ∀ z ∈ t, z < 128 := by
  have hd : ∀ w z, z ∈ sDig w → z < 128 := by
    intro w z hz
    obtain ⟨i, -, rfl⟩ := List.mem_map.mp hz
    unfold sb_dec
    omega
  rcases h with ⟨w, _, _, rfl⟩ | ⟨w, _, _, _, rfl⟩
  · exact hd w
  · intro z hz
    rcases List.mem_cons.mp hz with rfl | hz
    · decide
    · exact hd w z hz
theorem bz_appI (X : bCx p s m args meth c RX8 cc nL D E) (hB : bBz D E LX a v s H locs) {x : Int32} {t : List Nat} (h60 : vp_in (v 9902) 60) (hx9 : sNum x t) {index : Nat} (hw : Cond.methodLink RX8 index yJ4_append_bf812 ∈ wAll) (hR : 6 ≤ R.frames ∧ 221 ≤ R.locals) (hsize : ls.size = nL) (hW : (rest.map fun v => v.category).sum ≤ 8) (hf : cells + 1 ≤ R.cells ∧ slots + 201 ≤ R.slots) (hdg : decode cc pc = .ok (.invokevirtual index, 3))
    (kk : ∀ (H1 : Heap) (locs1 : List Loc), bBz D E LX a (sbI v t) s H1 locs1 → W p l e R s m args below meth c H1 locs1 (cells + 1) (slots + 201) Q (F0 m (pc + 3) ls (.ref (a + 864) :: rest))) : W p l e R s m args below meth c H locs cells slots Q (F0 m pc ls (.int x :: .ref (a + 864) :: rest)) := by
  have hlen := sNum_len hx9
  have hn : ∀ σ, sV v 9902 σ → σ.2.2.2.2 < 60 ∧ (v 9902).toNatClampNeg = σ.2.2.2.2 := fun σ h => by
    have h1 := vp_lt h60
    rw [h.2.1, nI_clamp (by have := h.2.2.2.2.1; omega)] at h1
    exact ⟨h1, by rw [h.2.1, nI_clamp (by omega)]⟩
  refine bz_sb (Av := [.int x]) (As := fun _ q => [.ref q, .int x]) (Rr := sApp t) (res := fun _ q => some (.ref q)) X hB (fun σ h => mJ4_append_bf812 hx9 (by have := hn σ h; omega) h.2.2.2.1 h.2.2.1 h.2.2.2.2.2.1) yv_J4_append_bf812 hw hR rfl rfl hsize hW hf hdg (fun σ σ' h1 h2 => ?_) (fun j hj => ?_) kk
  · obtain ⟨k1, k2⟩ := hn σ h1
    refine sV_app h1 h2 (sNum_128 hx9) (by omega) ?_ (fun i hi => ?_) (fun i hi => ?_)
    · show (if (9902 : Nat) = 9902 then _ else _) = _
      rw [if_pos rfl, h1.2.1, nI_add]
    · show (if 9903 + i = 9902 then _ else if _ ∧ _ then _ else _) = _
      rw [if_neg (by omega), if_neg (by rw [k2]; omega)]
    · show (if 9903 + (σ.2.2.2.2 + i) = 9902 then _ else if _ ∧ _ then _ else _) = _
      rw [if_neg (by omega), if_pos (by rw [k2]; omega), k2, show 9903 + (σ.2.2.2.2 + i) - (9903 + σ.2.2.2.2) = i by omega]
  · obtain ⟨σ, -, h1, -⟩ := bz_open hB
    obtain ⟨k1, k2⟩ := hn σ h1
    show (if j = 9902 then _ else if _ ∧ _ then _ else _) = _
    rw [if_neg (by omega), if_neg (by rw [k2]; omega)]
theorem bz_charAt (X : bCx p s m args meth c RX8 cc nL D E) (hB : bBz D E LX a v s H locs) {i : Int32} (hi : ¬ i < 0) (hi2 : i < v 9902) {index : Nat} (hw : Cond.methodLink RX8 index yJ4_charAt_5068e ∈ wAll) (hR : 4 ≤ R.frames ∧ 141 ≤ R.locals) (hsize : ls.size = nL) (hW : (rest.map fun v => v.category).sum ≤ 8) (hf : cells ≤ R.cells ∧ slots ≤ R.slots) (hdg : decode cc pc = .ok (.invokevirtual index, 3))
    (kk : ∀ (H1 : Heap) (locs1 : List Loc), bBz D E LX a v s H1 locs1 → W p l e R s m args below meth c H1 locs1 cells slots Q (F0 m (pc + 3) ls (.int (v (9903 + i.toNatClampNeg)) :: rest))) : W p l e R s m args below meth c H locs cells slots Q (F0 m pc ls (.int i :: .ref (a + 864) :: rest)) := by
  obtain ⟨k, hk, rfl⟩ := nI_of hi
  refine bz_sb (mc := 0) (ms := 0) (Av := [.int (nI k)]) (As := fun _ q => [.ref q, .int (nI k)]) (Rr := fun σ σ' => σ' = σ) (res := fun _ _ => some (.int (v (9903 + (nI k).toNatClampNeg)))) X hB (fun σ h => ?_) yv_J4_charAt_5068e hw hR rfl rfl hsize hW hf hdg (fun σ σ' h1 h2 => by rw [h2]; exact h1) (fun _ _ => rfl) kk
  have hkn : k < σ.2.2.2.2 := by
    rw [h.2.1] at hi2
    exact (nI_ltI hk (by have := h.2.2.2.2.1; omega)).mp hi2
  obtain ⟨ch, c1, c2, c3⟩ := h.2.2.2.2.2.2 k hkn
  rw [nI_clamp hk, show v (9903 + k) = nI ch from c2]
  exact mJ4_charAt_5068e h.2.2.2.1 h.2.2.1 hkn c1 c3
end BZ
