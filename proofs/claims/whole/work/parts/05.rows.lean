/-! ===== rows over a flat block ===== -/
def tysE (E : bE) : List (ClassId × FieldType) := [(E.1.1 0, .int), (E.1.1 1, .boolean), (E.1.1 2, .array .int), (E.1.1 3, .object RX6), (E.1.1 4, .byte), (E.1.1 5, .long)]
/-- the class of the arrays of int rows stands in the tables -/
def bOI (U : State) : Prop := ∃ comp c k, U.vm.findClass "[I" = some comp ∧ (U.vm.classes.findIdx? fun (x : Class) => match x.kind with | .array component _ => component == comp | _ => false) = some c ∧ U.vm.classes[c]? = some k ∧ k.kind = .array comp (.array .int) ∧ U.vm.findClass "[[I" = some c
theorem bOI.moved {u U : State} (hvm : u.vm.Alike U.vm) (h : bOI u) : bOI U := by
  obtain ⟨comp, c, k, h1, h2, h3, h4, h5⟩ := h
  obtain ⟨k', hk', he⟩ := hvm.2.2 _ _ h3
  refine ⟨comp, c, k', by rw [hvm.findClass]; exact h1, ?_, hk', by rw [he]; exact h4, by rw [hvm.findClass]; exact h5⟩
  have e1 := va_idx_bare U.vm comp
  have e2 := va_idx_bare u.vm comp
  first | rw [hvm.bare_eq] at e1 | rw [← hvm.bare_eq] at e1
  exact e1.symm.trans (e2.trans h2)
/-- the names of the array classes -/
def bAnm : List String := ["[I", "[Z", "[[I", "[LPennyBakery$State;", "[B", "[J"]
def bAr (E : bE) (U : State) : Prop := ∀ (k : Nat) (nm : String), bAnm[k]? = some nm → U.vm.findClass nm = some (E.1.1 k)
theorem bAr.moved {E : bE} {u U : State} (hvm : u.vm.Alike U.vm) (h : bAr E u) : bAr E U := fun k nm hk => by rw [hvm.findClass]; exact h k nm hk
/-- words of the tables on castings and on what a class declares: what holds, and what doesn't -/
def bFc (E : bE) (U : State) : Prop := (∀ w ∈ bFace, w.before #[] U = true) ∧ (∀ q ∈ bNc, va_Nc q.1 q.2 U) ∧ va_AO RX6 U ∧ bOI U ∧ bAr E U
def bK (D : va_G) (E : bE) (U : State) : Prop := va_K D vwCl (tysE E) U ∧ (∀ w ∈ bNest, va_Nw w U) ∧ (∀ (i : Nat) (q : String × Nat × String), sWd[i]? = some q → vk_R q.1 q.2.1 q.2.2 (E.1.2 i) U) ∧ bFc E U
theorem face_at {args a' : Array Value} {s U : State} {w : Cond} (hW : s.WarmedH U.vm) (h1 : w.onTables = true) (h2 : w.keepsFace = true) (h : w.before args s = true) : w.before a' U = true := by
  have h3 : w.before args (s.setVm U.vm) = true := Cond.before_shiftedFace (State.Shifted.of_warmed hW) _ h2 h
  exact va_tabs h1 (show (s.setVm U.vm).vm = U.vm from rfl) h3
theorem bFace_ok : ∀ w ∈ bFace, w.onTables = true ∧ w.keepsFace = true := by
  intro w hw
  have h : bFace.all (fun w => w.onTables && w.keepsFace) = true := by decide +kernel
  have h1 := List.all_eq_true.mp h w hw
  rw [Bool.and_eq_true] at h1
  exact h1
theorem bFc.moved {E : bE} {s U : State} (hW : s.WarmedH U.vm) (h : bFc E s) : bFc E U := ⟨fun w hw => face_at hW (bFace_ok w hw).1 (bFace_ok w hw).2 (h.1 w hw), fun q hq => va_Nc.moved hW.alike (h.2.1 q hq), va_AO.moved hW.alike h.2.2.1, bOI.moved hW.alike h.2.2.2.1, bAr.moved hW.alike h.2.2.2.2⟩
/-- the JDK's statics that are read -/
def bSt (U : State) (E : bE) (a : Nat) (H : Heap) : Prop := va_Z "java/lang/String" "COMPACT_STRINGS" "Z" (.int 1) (fun q => a ≤ q) U H ∧ va_Zq "jdk/internal/util/Preconditions" "SIOOBE_FORMATTER" "Ljava/util/function/BiFunction;" (fun q => a ≤ q) U H ∧ vx_Zq Bundle.tN "UNASSIGNED_STACK" Bundle.steD (fun q => a ≤ q) U H ∧ vx_Zq Bundle.tN "SUPPRESSED_SENTINEL" Bundle.listD (fun q => a ≤ q) U H ∧ (va_Z "java/lang/Integer" "DigitOnes" "[B" (.ref (E.1.2 200)) (fun q => a ≤ q) U H ∧ va_Z "java/lang/Integer" "DigitTens" "[B" (.ref (E.1.2 201)) (fun q => a ≤ q) U H ∧ va_T .byte (E.1.2 200) 100 (fun j => .int (nI (48 + j % 10))) (fun q => a ≤ q) U H ∧ va_T .byte (E.1.2 201) 100 (fun j => .int (nI (48 + j / 10))) (fun q => a ≤ q) U H)
/-- the texts: their objects and their bytes lie below a, and hold what they hold -/
def bTx (U : State) (E : bE) (a : Nat) (H : Heap) : Prop := bSt U E a H ∧ ∀ (i : Nat) (t : List Nat), sTx[i]? = some t → va_O "java/lang/String" (E.1.2 i) (fun q => a ≤ q) U H ∧ va_OF "java/lang/String" "coder" "B" (.int 0) (E.1.2 i) (fun q => a ≤ q) U H ∧ va_OF "java/lang/String" "value" "[B" (.ref (E.1.2 (100 + i))) (E.1.2 i) (fun q => a ≤ q) U H ∧ va_T .byte (E.1.2 (100 + i)) t.length (fun j => .int (nI (t.getD j 0))) (fun q => a ≤ q) U H
def bKl (ci : Nat) (C : String) (T : u_T) (N : Nat) (ty : Nat → FieldType) : Prop := vwCl[ci]? = some (C, T, N) ∧ (∀ w ∈ u_ws C T N, w ∈ wAll) ∧ (∀ k, k < N → parseFieldDescriptor (T k).2.2.1 = some (ty k)) ∧ (∀ a, a < N → ∀ b, b < N → a ≠ b → (T a).2.1 ≠ (T b).2.1)
def bCx (p : Program) (s : State) (m : MethodId) (args : Array Value) (meth : Method) (c : Code) (own : String) (cc : ByteArray) (nL : Nat) (D : va_G) (E : bE) : Prop := p.tables.exec = Jvm.exec ∧ c.code = cc ∧ c.maxLocals = nL ∧ s.vm.findClass own = some m.cls ∧ (∀ w ∈ wAll, w.before args s = true) ∧ bK D E s ∧ meth.locks = false
theorem va_P.one {D : va_G} {cl : List vw_C} {q : Nat × va_E} {H : Heap} (h : va_at D cl q H) : va_P D cl [q] H := by
  intro k x hx
  cases k with
  | zero => simp only [List.getElem?_cons_zero, Option.some.injEq] at hx; subst hx; exact h
  | succ k => simp at hx
theorem Blk.obj {D : va_G} {E : bE} {L : List bC} {a : Nat} {v : bM} {H : Heap} (hB : Blk D E L a v H) {k ci : Nat} {fs : List bF} (hd : L[k]? = some (.inl (ci, fs))) : va_at D vwCl (a + k, .inr (ci, fs.map (bV a v))) H := hB k _ hd
theorem Blk.arr {D : va_G} {E : bE} {L : List bC} {a : Nat} {v : bM} {H : Heap} (hB : Blk D E L a v H) {k kd n off st : Nat} (hd : L[k]? = some (.inr (kd, n, off, st))) (hk : kd < 8) : va_at D vwCl (a + k, .inl (E.1.1 kd, bX a v (kd, n, off, st))) H := by
  have h := hB k _ hd
  unfold bAt at h
  dsimp only at h
  rw [if_pos hk] at h
  exact h
/-- one number changes, in one cell -/
theorem Blk.upd1 {D : va_G} {E : bE} {L : List bC} {a : Nat} {v : bM} {H H1 : Heap} (hw : bWf L) (hB : Blk D E L a v H) (hlim : a + L.length ≤ E.2) {k : Nat} {d : bC} (hd : L[k]? = some d) (hk9 : ∀ x, d = .inr x → x.1 < 8) {o : Nat} (ho : bIn d o) {x : Int32} (h1 : bAt D E a (upd v o x) k d H1) (h2 : ∀ q : Nat, q ≠ a + k → H1[q]? = H[q]?) : Blk D E L a (upd v o x) H1 := by
  intro i e he
  by_cases hik : i = k
  · subst hik
    rw [hd] at he
    cases he
    exact h1
  · have hb := hB i e he
    have hb2 : bAt D E a (upd v o x) i e H := by
      refine bAt_congr hw he (fun y hy => ?_) hb
      have : y ≠ o := fun z => hw.apart hd he (Ne.symm hik) (z ▸ ho) (z ▸ hy)
      simp [upd, this]
    refine bAt_kept hb2 (fun _ => h2 _ (by omega)) (fun q hq hor hz => h2 q ?_)
    obtain ⟨z, hz1, hz2⟩ := hz
    have hkl := (List.getElem?_eq_some_iff.mp hd).1
    rcases hor with r | r
    · rw [r]
      intro w
      subst hz1
      obtain ⟨y, y1, y2⟩ := bHl_at L i z hw.2.2 he hz2
      have e1 : i + 1 = k := by omega
      rw [e1, hd] at y1
      cases y1
      have := hk9 _ rfl
      omega
    · omega
theorem bAp (fs : List bF) (o : Nat) (h : (fs.filter (fun g => decide (g.1 ≠ 1) && decide (g.2 = o))).length = 1) (i j : Nat) (f g : bF) (hi : fs[i]? = some f) (hj : fs[j]? = some g) (f1 : f.1 ≠ 1) (f2 : f.2 = o) (g1 : g.1 ≠ 1) (g2 : g.2 = o) : i = j := by
  induction fs generalizing i j with
  | nil => simp at hi
  | cons x r ih =>
    have hx : ∀ (k : Nat) (y : bF), r[k]? = some y → y.1 ≠ 1 → y.2 = o → 0 < (r.filter (fun g => decide (g.1 ≠ 1) && decide (g.2 = o))).length := by
      intro k y hk y1 y2
      exact List.length_pos_of_mem (List.mem_filter.mpr ⟨List.mem_of_getElem? hk, by simp [y1, y2]⟩)
    rw [List.filter_cons] at h
    by_cases hp : (decide (x.1 ≠ 1) && decide (x.2 = o)) = true
    · rw [if_pos hp, List.length_cons] at h
      cases i with
      | zero =>
        cases j with
        | zero => rfl
        | succ j =>
          rw [List.getElem?_cons_succ] at hj
          have := hx j g hj g1 g2
          omega
      | succ i =>
        rw [List.getElem?_cons_succ] at hi
        have := hx i f hi f1 f2
        omega
    · rw [if_neg hp] at h
      cases i with
      | zero =>
        simp only [List.getElem?_cons_zero, Option.some.injEq] at hi
        subst hi
        exact absurd (by simp [f1, f2]) hp
      | succ i =>
        cases j with
        | zero =>
          simp only [List.getElem?_cons_zero, Option.some.injEq] at hj
          subst hj
          exact absurd (by simp [g1, g2]) hp
        | succ j =>
          rw [List.getElem?_cons_succ] at hi hj
          rw [ih h i j hi hj]
theorem bSet (cI : ClassId) (n off k : Nat) (x : Int32) (v : bM) : (arrV cI n (fun j => .int (v (off + j)))).setSlot k (.int x) = vp_cell cI (n, .inl (fun j => upd v (off + k) x (off + j))) := by
  rw [vp_cell_i, arrV_store]
  refine arrV_ext (fun j _ => ?_)
  by_cases h : j = k
  · subst h
    simp [updV, upd]
  · have h2 : ¬ off + j = off + k := by omega
    simp [updV, upd, h, h2]
theorem bArr0 {D : va_G} {E : bE} {a : Nat} {v : bM} {k kd n off st : Nat} {H : Heap} (hk : kd < 2) (h : H[a + k]? = some (vp_cell (E.1.1 kd) (n, .inl (fun j => v (off + j))))) : bAt D E a v k (.inr (kd, n, off, st)) H := by
  unfold bAt
  dsimp only
  rw [if_pos (show kd < 8 by omega)]
  show H[a + k]? = some (vp_cell (E.1.1 kd) (bX a v (kd, n, off, st)))
  unfold bX
  rw [if_pos hk]
  exact h
section ROWB
variable {p : Program} {l : Launch} {e : Env} {R : Room} {s : State} {m : MethodId} {args : Array Value} {below : List Frame} {meth : Method} {c : Code} {H : Heap} {locs : List Loc} {cells slots : Nat} {Q : State → Prop}
variable {cc : ByteArray} {pc : Nat} {ls : Array Slot} {rest : List Value} {D : va_G} {E : bE} {A : Nat → Prop} {H0 : Heap} {own : String} {nL : Nat} {L : List bC} {a : Nat} {v : bM}
theorem bk_get (X : bCx p s m args meth c own cc nL D E) {ci N : Nat} {C : String} {T : u_T} {ty : Nat → FieldType} (hk : bKl ci C T N ty) (hB : Blk D E L a v H) (k : Nat) {fs : List bF} (hd : L[k]? = some (.inl (ci, fs))) (j : Nat) (hj : j < N) {f : bF} (hf : fs[j]? = some f) {index : Nat} (hw : Cond.fieldLink own index (T j).1 (T j).2.1 (T j).2.2.1 ∈ wAll) (hdg : decode cc pc = .ok (.getfield index, 3))
    (kk : W p l e R s m args below meth c H locs cells slots Q (F0 m (pc + 3) ls (bV a v f :: rest))) : W p l e R s m args below meth c H locs cells slots Q (F0 m pc ls (.ref (a + k) :: rest)) :=
  va_get X.1 X.2.1 (Ts := wAll) X.2.2.2.2.1 hk.2.1 X.2.2.2.1 X.2.2.2.2.2.1.1 (va_P.one (hB.obj hd)) 0 rfl hk.1 j hj (X.2.2.2.2.1 _ hw) (fun _ h => h) (by rw [List.getElem?_map, hf]; rfl) hdg kk
set_option maxRecDepth 100000 in
theorem bk_put (X : bCx p s m args meth c own cc nL D E) {ci N : Nat} {C : String} {T : u_T} {ty : Nat → FieldType} (hk : bKl ci C T N ty) (hwf : bWf L) (hlim : a + L.length ≤ E.2) (hB : Blk D E L a v H) (hS : va_S A H0 H locs) (k : Nat) (hA : A (a + k)) {fs : List bF} (hd : L[k]? = some (.inl (ci, fs))) (j : Nat) (hj : j < N) {f : bF} (hf : fs[j]? = some f) (hf1 : f.1 ≠ 1) (x : Int32) {y : Value} (hy : bV a (upd v f.2 x) f = y) (hn : narrow (ty j) y = y) (hfit : fits (ty j) y = true) (hfin : (T j).2.2.2 = false) (hap : ∀ i g, fs[i]? = some g → i ≠ j → g.1 ≠ 1 → g.2 ≠ f.2) {index : Nat} (hw : Cond.fieldLink own index (T j).1 (T j).2.1 (T j).2.2.1 ∈ wAll) (hdg : decode cc pc = .ok (.putfield index, 3))
    (kk : ∀ (H1 : Heap) (locs1 : List Loc), Blk D E L a (upd v f.2 x) H1 → va_S A H0 H1 locs1 → W p l e R s m args below meth c H1 locs1 cells slots Q (F0 m (pc + 3) ls rest)) : W p l e R s m args below meth c H locs cells slots Q (F0 m pc ls (y :: .ref (a + k) :: rest)) := by
  obtain ⟨hx, hb, -, hown, hts, hK, -⟩ := X
  obtain ⟨hcl, hin, hty, hnm⟩ := hk
  have hap2 := va_apart (own := own) hts hin ty hty hnm hK.1 hcl
  obtain ⟨r, h1, cell, q1, q2, q3, q4⟩ := hB.obj hd
  have hr : r = (C, T, N) := Option.some.inj (h1.symm.trans hcl)
  subst hr
  obtain ⟨hSl, hfc, kC, hkC, hkind⟩ := hK.1.1 ci _ hcl
  obtain ⟨cf, kf, fi, fd, hi, hsl⟩ := hSl j hj
  have hlay := hts _ (hin _ (u_in_lay hj))
  unfold u_lay at hlay
  rw [if_neg (by rw [hfin]; decide)] at hlay
  have hst := (u_facts hfc hkC (u_lays hts hin hj) hi).1
  have h6 := u_store hfc hkC hkind hlay hi (hty j hj) hn hfit
  refine W.putK hx hb (f := fd) ⟨hown, hts _ hw, ⟨_, _, _, hi⟩, hst⟩ (by rw [q2]; exact h6) q1 q3 (by rw [hsl]; exact k2_hasslot (q4 j hj)) rfl rfl hdg fun H' e1 e2 e3 => ?_
  rw [hsl] at e1 ⊢
  have hl : j < fs.length := (List.getElem?_eq_some_iff.mp hf).1
  refine kk H' _ (Blk.upd1 hwf hB hlim hd (fun _ h => by cases h) (hwf.fld hd (List.mem_of_getElem? hf) hf1) ?_ e3) (hS.put e2 e3 hA)
  show va_at D vwCl (a + k, .inr (ci, fs.map (bV a (upd v f.2 x)))) H'
  refine ⟨_, hcl, t_OB.to (V := updV (vp_V (fs.map (bV a v))) j y) ⟨_, e1, q2, q3, t_set q4 hap2 hj y⟩ (fun i _ => ?_)⟩
  by_cases hij : i = j
  · subst hij
    simp [updV, vp_V, hf, hy]
  · have e : ∀ w : bM, vp_V (fs.map (bV a w)) i = (fs[i]?.map (bV a w)).getD .null := fun w => by
      simp only [vp_V, List.getD_eq_getElem?_getD, List.getElem?_map]
    simp only [updV, if_neg hij]
    rw [e, e]
    cases hg : fs[i]? with
    | none => simp only [Option.map_none]
    | some g =>
      simp only [Option.map_some, Option.getD_some]
      exact bV_congr (fun h => by
        unfold upd
        rw [if_neg (hap i g hg hij h)])
end ROWB
def bA (a n sz : Nat) : Nat → Prop := fun q => (a ≤ q ∧ q < a + n) ∨ sz ≤ q
/-- the world of a method: its block, what has changed since H0, the room for a text's bytes -/
def bB (D : va_G) (E : bE) (L : List bC) (a : Nat) (v : bM) (s : State) (H : Heap) (locs : List Loc) : Prop := Blk D E L a v H ∧ va_S (bA a L.length s.heap.size) s.heap H locs ∧ bWf L ∧ a + L.length ≤ E.2 ∧ E.2 ≤ s.heap.size ∧ bTx s E a s.heap
theorem bB.hA {D : va_G} {E : bE} {L : List bC} {a : Nat} {v : bM} {s : State} {H : Heap} {locs : List Loc} (_ : bB D E L a v s H locs) {k : Nat} {d : bC} (hd : L[k]? = some d) : bA a L.length s.heap.size (a + k) := by
  have := (List.getElem?_eq_some_iff.mp hd).1
  exact Or.inl ⟨by omega, by omega⟩
section ROWC
variable {p : Program} {l : Launch} {e : Env} {R : Room} {s : State} {m : MethodId} {args : Array Value} {below : List Frame} {meth : Method} {c : Code} {H : Heap} {locs : List Loc} {cells slots : Nat} {Q : State → Prop}
variable {cc : ByteArray} {pc : Nat} {ls : Array Slot} {rest : List Value} {D : va_G} {E : bE} {own : String} {nL : Nat} {L : List bC} {a : Nat} {v : bM}
theorem bk_getI (X : bCx p s m args meth c own cc nL D E) (hB : bB D E L a v s H locs) {ci N : Nat} {C : String} {T : u_T} {ty : Nat → FieldType} (hk : bKl ci C T N ty) (k : Nat) {fs : List bF} (hd : L[k]? = some (.inl (ci, fs))) (j : Nat) (hj : j < N) {o : Nat} (hf : fs[j]? = some (0, o)) {index : Nat} (hw : Cond.fieldLink own index (T j).1 (T j).2.1 (T j).2.2.1 ∈ wAll) (hdg : decode cc pc = .ok (.getfield index, 3))
    (kk : W p l e R s m args below meth c H locs cells slots Q (F0 m (pc + 3) ls (.int (v o) :: rest))) : W p l e R s m args below meth c H locs cells slots Q (F0 m pc ls (.ref (a + k) :: rest)) := bk_get X hk hB.1 k hd j hj hf hw hdg kk
theorem bk_getR (X : bCx p s m args meth c own cc nL D E) (hB : bB D E L a v s H locs) {ci N : Nat} {C : String} {T : u_T} {ty : Nat → FieldType} (hk : bKl ci C T N ty) (k : Nat) {fs : List bF} (hd : L[k]? = some (.inl (ci, fs))) (j : Nat) (hj : j < N) {o : Nat} (hf : fs[j]? = some (1, o)) {index : Nat} (hw : Cond.fieldLink own index (T j).1 (T j).2.1 (T j).2.2.1 ∈ wAll) (hdg : decode cc pc = .ok (.getfield index, 3))
    (kk : W p l e R s m args below meth c H locs cells slots Q (F0 m (pc + 3) ls (.ref (a + o) :: rest))) : W p l e R s m args below meth c H locs cells slots Q (F0 m pc ls (.ref (a + k) :: rest)) := bk_get X hk hB.1 k hd j hj hf hw hdg kk
theorem bk_getS (X : bCx p s m args meth c own cc nL D E) (hB : bB D E L a v s H locs) {ci N : Nat} {C : String} {T : u_T} {ty : Nat → FieldType} (hk : bKl ci C T N ty) (k : Nat) {fs : List bF} (hd : L[k]? = some (.inl (ci, fs))) (j : Nat) (hj : j < N) {o : Nat} (hf : fs[j]? = some (2, o)) (hn : vp_in (v o) 12) {index : Nat} (hw : Cond.fieldLink own index (T j).1 (T j).2.1 (T j).2.2.1 ∈ wAll) (hdg : decode cc pc = .ok (.getfield index, 3))
    (kk : W p l e R s m args below meth c H locs cells slots Q (F0 m (pc + 3) ls (.ref (a + stC (v o).toNatClampNeg) :: rest))) : W p l e R s m args below meth c H locs cells slots Q (F0 m pc ls (.ref (a + k) :: rest)) := by
  refine bk_get X hk hB.1 k hd j hj hf hw hdg ?_
  have h : bV a v (2, o) = .ref (a + stC (v o).toNatClampNeg) := by
    unfold bV
    rw [if_neg (show ¬ (2 : Nat) = 0 by decide), if_neg (show ¬ (2 : Nat) = 1 by decide), if_neg (fun z => hn (Or.inl z))]
  rw [h]
  exact kk
theorem bk_putI (X : bCx p s m args meth c own cc nL D E) (hB : bB D E L a v s H locs) {ci N : Nat} {C : String} {T : u_T} {ty : Nat → FieldType} (hk : bKl ci C T N ty) (k : Nat) {fs : List bF} (hd : L[k]? = some (.inl (ci, fs))) (j : Nat) (hj : j < N) {o : Nat} (hf : fs[j]? = some (0, o)) {x : Int32} (hty : ty j = .int) (hfin : (T j).2.2.2 = false) {index : Nat} (hw : Cond.fieldLink own index (T j).1 (T j).2.1 (T j).2.2.1 ∈ wAll) (hdg : decode cc pc = .ok (.putfield index, 3)) (hap : (fs.filter (fun g => decide (g.1 ≠ 1) && decide (g.2 = o))).length = 1)
    (kk : ∀ (H1 : Heap) (locs1 : List Loc), bB D E L a (upd v o x) s H1 locs1 → W p l e R s m args below meth c H1 locs1 cells slots Q (F0 m (pc + 3) ls rest)) : W p l e R s m args below meth c H locs cells slots Q (F0 m pc ls (.int x :: .ref (a + k) :: rest)) := by
  obtain ⟨h1, h2, h3, h4, h5⟩ := id hB
  refine bk_put X hk h3 h4 h1 h2 k (hB.hA hd) hd j hj hf (show ¬ (0 : Nat) = 1 by decide) x (y := .int x) (by unfold bV; rw [if_pos rfl]; simp [upd]) (by rw [hty]; exact vp_nar_int x) (by rw [hty]; rfl) hfin ?_ hw hdg (fun H1 locs1 g1 g2 => kk H1 locs1 ⟨g1, g2, h3, h4, h5⟩)
  intro i g hg hij hg1 hgo
  exact hij (bAp fs o hap i j g (0, o) hg hf hg1 hgo (show ¬ (0 : Nat) = 1 by decide) rfl)
theorem bk_putS (X : bCx p s m args meth c own cc nL D E) (hB : bB D E L a v s H locs) {ci N : Nat} {C : String} {T : u_T} {ty : Nat → FieldType} (hk : bKl ci C T N ty) (k : Nat) {fs : List bF} (hd : L[k]? = some (.inl (ci, fs))) (j : Nat) (hj : j < N) {o : Nat} (hf : fs[j]? = some (2, o)) {i : Nat} (hi : i < 12) (hty : ty j = .object RX6) (hfin : (T j).2.2.2 = false) {index : Nat} (hw : Cond.fieldLink own index (T j).1 (T j).2.1 (T j).2.2.1 ∈ wAll) (hdg : decode cc pc = .ok (.putfield index, 3)) (hap : (fs.filter (fun g => decide (g.1 ≠ 1) && decide (g.2 = o))).length = 1)
    (kk : ∀ (H1 : Heap) (locs1 : List Loc), bB D E L a (upd v o (nI i)) s H1 locs1 → W p l e R s m args below meth c H1 locs1 cells slots Q (F0 m (pc + 3) ls rest)) : W p l e R s m args below meth c H locs cells slots Q (F0 m pc ls (.ref (a + stC i) :: .ref (a + k) :: rest)) := by
  obtain ⟨h1, h2, h3, h4, h5⟩ := id hB
  refine bk_put X hk h3 h4 h1 h2 k (hB.hA hd) hd j hj hf (show ¬ (2 : Nat) = 1 by decide) (nI i) (y := .ref (a + stC i)) ?_ (by rw [hty]; rfl) (by rw [hty]; rfl) hfin ?_ hw hdg (fun H1 locs1 g1 g2 => kk H1 locs1 ⟨g1, g2, h3, h4, h5⟩)
  · have e : upd v (2, o).2 (nI i) (2, o).2 = nI i := by unfold upd; rw [if_pos rfl]
    unfold bV
    rw [if_neg (show ¬ (2 : Nat) = 0 by decide), if_neg (show ¬ (2 : Nat) = 1 by decide), e, if_neg (nI_pos (by omega)), nI_clamp (by omega)]
  · intro i g hg hij hg1 hgo
    exact hij (bAp fs o hap i j g (2, o) hg hf hg1 hgo (show ¬ (2 : Nat) = 1 by decide) rfl)
theorem bk_ald (X : bCx p s m args meth c own cc nL D E) (hB : bB D E L a v s H locs) (k : Nat) {n off st : Nat} (hd : L[k]? = some (.inr (0, n, off, st))) {i : Int32} (hin : vp_in i n) (hdg : decode cc pc = .ok (.iaload, 1))
    (kk : W p l e R s m args below meth c H locs cells slots Q (F0 m (pc + 1) ls (.int (v (off + i.toNatClampNeg)) :: rest))) : W p l e R s m args below meth c H locs cells slots Q (F0 m pc ls (.int i :: .ref (a + k) :: rest)) :=
  va_iald X.1 X.2.1 X.2.2.2.2.2.1.1 (va_P.one (hB.1.arr hd (by decide))) 0 0 rfl rfl hin hdg kk
theorem bk_zld (X : bCx p s m args meth c own cc nL D E) (hB : bB D E L a v s H locs) (k : Nat) {n off st : Nat} (hd : L[k]? = some (.inr (1, n, off, st))) {i : Int32} (hin : vp_in i n) (hdg : decode cc pc = .ok (.baload, 1))
    (kk : W p l e R s m args below meth c H locs cells slots Q (F0 m (pc + 1) ls (.int (v (off + i.toNatClampNeg)) :: rest))) : W p l e R s m args below meth c H locs cells slots Q (F0 m pc ls (.int i :: .ref (a + k) :: rest)) :=
  va_zald X.1 X.2.1 X.2.2.2.2.2.1.1 (va_P.one (hB.1.arr hd (by decide))) 0 1 rfl rfl hin hdg kk
theorem bk_rld (X : bCx p s m args meth c own cc nL D E) (hB : bB D E L a v s H locs) (k : Nat) {n off st : Nat} (hd : L[k]? = some (.inr (2, n, off, st))) {i : Int32} (hin : vp_in i n) (hdg : decode cc pc = .ok (.aaload, 1))
    (kk : W p l e R s m args below meth c H locs cells slots Q (F0 m (pc + 1) ls (.ref (a + (off + st * i.toNatClampNeg)) :: rest))) : W p l e R s m args below meth c H locs cells slots Q (F0 m pc ls (.int i :: .ref (a + k) :: rest)) := by
  have hlt : i.toNatClampNeg < n := Nat.not_le.mp fun q => hin (Or.inr q)
  exact W.aald (v := va_rf (some (a + (off + st * i.toNatClampNeg)))) (ty := .array .int) X.1 X.2.1 (hB.1.arr hd (by decide)) ((X.2.2.2.2.2.1.1.2 2 (E.1.1 2, .array .int) rfl).1 n (fun j => va_rf (some (a + (off + st * j))))) rfl (fun q => by cases q) (by show ¬ (i < 0 ∨ (arrV _ _ _).slots.size ≤ _); rw [arrV_size]; exact hin) (arrV_read (E.1.1 2) (fun j => va_rf (some (a + (off + st * j)))) hlt) rfl rfl hdg kk
theorem bk_sld (X : bCx p s m args meth c own cc nL D E) (hB : bB D E L a v s H locs) (k : Nat) {n off st : Nat} (hd : L[k]? = some (.inr (3, n, off, st))) {i : Int32} (hin : vp_in i n) (hdg : decode cc pc = .ok (.aaload, 1))
    (kk : W p l e R s m args below meth c H locs cells slots Q (F0 m (pc + 1) ls (.ref (a + (off + st * i.toNatClampNeg)) :: rest))) : W p l e R s m args below meth c H locs cells slots Q (F0 m pc ls (.int i :: .ref (a + k) :: rest)) := by
  have hlt : i.toNatClampNeg < n := Nat.not_le.mp fun q => hin (Or.inr q)
  exact W.aald (v := va_rf (some (a + (off + st * i.toNatClampNeg)))) (ty := .object RX6) X.1 X.2.1 (hB.1.arr hd (by decide)) ((X.2.2.2.2.2.1.1.2 3 (E.1.1 3, .object RX6) rfl).1 n (fun j => va_rf (some (a + (off + st * j))))) rfl (fun q => by cases q) (by show ¬ (i < 0 ∨ (arrV _ _ _).slots.size ≤ _); rw [arrV_size]; exact hin) (arrV_read (E.1.1 3) (fun j => va_rf (some (a + (off + st * j)))) hlt) rfl rfl hdg kk
theorem bk_alen (X : bCx p s m args meth c own cc nL D E) (hB : bB D E L a v s H locs) (k : Nat) {n off st : Nat} (hd : L[k]? = some (.inr (0, n, off, st))) (hdg : decode cc pc = .ok (.arraylength, 1))
    (kk : W p l e R s m args below meth c H locs cells slots Q (F0 m (pc + 1) ls (.int (nI n) :: rest))) : W p l e R s m args below meth c H locs cells slots Q (F0 m pc ls (.ref (a + k) :: rest)) :=
  va_alen X.1 X.2.1 X.2.2.2.2.2.1.1 (va_P.one (hB.1.arr hd (by decide))) 0 0 rfl (ty := .int) rfl rfl hdg kk
theorem bk_ast (X : bCx p s m args meth c own cc nL D E) (hB : bB D E L a v s H locs) (k : Nat) {n off st : Nat} (hd : L[k]? = some (.inr (0, n, off, st))) {i x : Int32} (hin : vp_in i n) (hdg : decode cc pc = .ok (.iastore, 1))
    (kk : ∀ (H1 : Heap) (locs1 : List Loc), bB D E L a (upd v (off + i.toNatClampNeg) x) s H1 locs1 → W p l e R s m args below meth c H1 locs1 cells slots Q (F0 m (pc + 1) ls rest)) : W p l e R s m args below meth c H locs cells slots Q (F0 m pc ls (.int x :: .int i :: .ref (a + k) :: rest)) := by
  obtain ⟨h1, h2, h3, h4, h5⟩ := id hB
  have hlt : i.toNatClampNeg < n := Nat.not_le.mp fun q => hin (Or.inr q)
  refine W.iast X.1 X.2.1 (h1.arr hd (by decide)) ((X.2.2.2.2.2.1.1.2 0 (E.1.1 0, .int) rfl).1 n (fun j => .int (v (off + j)))) (fun q => by cases q) (by show ¬ (i < 0 ∨ (arrV _ _ _).slots.size ≤ _); rw [arrV_size]; exact hin) rfl rfl hdg fun H1 e1 z oq => ?_
  refine kk H1 _ ⟨Blk.upd1 h3 h1 h4 hd (fun y hy => by cases hy; exact (by decide : (0 : Nat) < 8)) ?_ (bArr0 (by decide) ?_) oq, h2.put z oq (hB.hA hd), h3, h4, h5⟩
  · refine ⟨?_, ?_⟩ <;> simp only [bHull] <;> rw [if_pos (by decide)] <;> dsimp only <;> omega
  · rw [e1]
    exact congrArg some (bSet (E.1.1 0) n off i.toNatClampNeg x v)
theorem bk_zst (X : bCx p s m args meth c own cc nL D E) (hB : bB D E L a v s H locs) (k : Nat) {n off st : Nat} (hd : L[k]? = some (.inr (1, n, off, st))) {i x : Int32} (hin : vp_in i n) (hx : narrow .boolean (.int x) = .int x) (hdg : decode cc pc = .ok (.bastore, 1))
    (kk : ∀ (H1 : Heap) (locs1 : List Loc), bB D E L a (upd v (off + i.toNatClampNeg) x) s H1 locs1 → W p l e R s m args below meth c H1 locs1 cells slots Q (F0 m (pc + 1) ls rest)) : W p l e R s m args below meth c H locs cells slots Q (F0 m pc ls (.int x :: .int i :: .ref (a + k) :: rest)) := by
  obtain ⟨h1, h2, h3, h4, h5⟩ := id hB
  have hlt : i.toNatClampNeg < n := Nat.not_le.mp fun q => hin (Or.inr q)
  refine W.zast X.1 X.2.1 (h1.arr hd (by decide)) ((X.2.2.2.2.2.1.1.2 1 (E.1.1 1, .boolean) rfl).1 n (fun j => .int (v (off + j)))) (fun q => by cases q) (by show ¬ (i < 0 ∨ (arrV _ _ _).slots.size ≤ _); rw [arrV_size]; exact hin) rfl rfl hdg fun H1 e1 z oq => ?_
  refine kk H1 _ ⟨Blk.upd1 h3 h1 h4 hd (fun y hy => by cases hy; exact (by decide : (1 : Nat) < 8)) ?_ (bArr0 (by decide) ?_) oq, h2.put z oq (hB.hA hd), h3, h4, h5⟩
  · refine ⟨?_, ?_⟩ <;> simp only [bHull] <;> rw [if_pos (by decide)] <;> dsimp only <;> omega
  · rw [e1, hx]
    exact congrArg some (bSet (E.1.1 1) n off i.toNatClampNeg x v)
end ROWC
