/-! ===== methods that copy from a second block, which they only read ===== -/
def bApart (n a b : Nat) : Prop := a + n ≤ b ∨ b + n ≤ a
def bMet2 (l : Launch) (y : MethodName) (bytes : ByteArray) (maxL : Nat) (ret : Option FieldType) (d : Nat) (L : List bC) (args : bE → Nat → Nat → List Value) (v u v' : bM) (res : bE → Option Value) : Prop :=
  ∀ (D : va_G) (E : bE) (a b sz : Nat), Met l y (.code y bytes maxL ret :: wAll) (rmOf d 0 0) (va_Pc (args E a b) (fun U => bPre D E L a v sz U ∧ Blk D E L b u U.heap ∧ bApart L.length a b)) (bPost D E L a v' sz (res E)) 0 0 (bA a L.length sz)
theorem bBlind2 (D : va_G) (E : bE) (L : List bC) (a b : Nat) (v u : bM) (sz : Nat) (As : List Value) : FrameBlind (va_Pc As (fun U => bPre D E L a v sz U ∧ Blk D E L b u U.heap ∧ bApart L.length a b)) := fun a0 U g mk q => ⟨q.1, (bBlind D E L a v sz As a0 U g mk ⟨q.1, q.2.1⟩).2, q.2.2⟩
/-- no text builder among the cells -/
def bPlain (L : List bC) : Prop := L.all (fun d => match d with | .inl _ => true | .inr q => decide (q.1 < 9)) = true
theorem srcK {D : va_G} {E : bE} {L : List bC} {a b : Nat} {v u : bM} {s : State} {H : Heap} {locs : List Loc} (hp : bPlain L) (hB : bB D E L a v s H locs) (hu : Blk D E L b u s.heap) (hab : bApart L.length a b) : Blk D E L b u H := by
  intro k d hk
  have hl := (List.getElem?_eq_some_iff.mp hk).1
  refine bAt_kept (hu k d hk) (fun hz => hB.2.1.2.1 _ hz ?_) (fun q hq hor hx => ?_)
  · have h5 := hB.2.2.2.2.1
    have h4 := hB.2.2.2.1
    intro z
    rcases hab with r | r <;> rcases z with z | z <;> omega
  · obtain ⟨x, rfl, hx9⟩ := hx
    exact absurd (of_decide_eq_true (List.all_eq_true.mp hp _ (List.mem_of_getElem? hk))) hx9
theorem bk_start2 {l : Launch} {y : MethodName} {cc : ByteArray} {maxL : Nat} {ret : Option FieldType} {d : Nat} {L : List bC} {As : bE → Nat → Nat → List Value} {v u v' : bM} {res : bE → Option Value} (hy : plainFor y = true) (hwf : bWf L) (hA : ∀ E a b, (lg_sl (As E a b)).length ≤ maxL)
    (body : ∀ (p : Program) (e : Env) (s : State) (m : MethodId) (args : Array Value) (below : List Frame) (meth : Method) (c : Code) (D : va_G) (E : bE) (a b : Nat) (ls : Array Slot) (H : Heap) (locs : List Loc), bCx p s m args meth c y.cls cc maxL D E → meth.sig.returnType = ret → lv_has ls maxL (lv_args 0 (As E a b)) → bB D E L a v s H locs → Blk D E L b u s.heap → bApart L.length a b →
      W p l e (rmOf d 0 0) s m args below meth c H locs 0 0 (bQ below D E L a v' (res E) args s 0 0) (F0 m 0 ls [])) : bMet2 l y cc maxL ret d L As v u v' res := by
  intro D E a b sz
  refine va_MetF (cc := cc) (maxL := maxL) (ret := ret) hy rfl ?_
  intro p e s m args below meth c s₁ B hml hv
  obtain ⟨rfl, ⟨hsz, hB, hK, h4, h5, h6⟩, hu, hab⟩ := hv
  subst hsz
  have hts := atoms_spec (ws := .code y cc maxL ret :: wAll) B.pre
  have hl := lv_entry (As E a b) (n := maxL) (hA E a b)
  rw [lg_entry_eq]
  generalize (lg_sl (As E a b) ++ List.replicate (maxL - (lg_sl (As E a b)).length) Slot.unset).toArray = ls at hl ⊢
  exact body p e s m _ below meth c D E a b ls _ _ ⟨B.exec, B.bytes, hml, findClass_of_methodNamed B.named, fun w hw => hts w (List.mem_cons_of_mem _ hw), hK, B.notSynchronized⟩ B.returns hl ⟨hB, va_S.rf, hwf, h4, h5, h6⟩ hu hab
section TWO
variable {p : Program} {l : Launch} {e : Env} {R : Room} {s : State} {m : MethodId} {args : Array Value} {below : List Frame} {meth : Method} {c : Code} {H : Heap} {locs : List Loc} {cells slots : Nat} {Q : State → Prop}
variable {cc : ByteArray} {pc : Nat} {ls : Array Slot} {rest : List Value} {D : va_G} {E : bE} {own : String} {nL : Nat} {L : List bC} {a b : Nat} {v u : bM}
theorem bk_getI0 (X : bCx p s m args meth c own cc nL D E) (hu : Blk D E L b u H) {ci N : Nat} {C : String} {T : u_T} {ty : Nat → FieldType} (hk : bKl ci C T N ty) (k : Nat) {fs : List bF} (hd : L[k]? = some (.inl (ci, fs))) (j : Nat) (hj : j < N) {o : Nat} (hf : fs[j]? = some (0, o)) {index : Nat} (hw : Cond.fieldLink own index (T j).1 (T j).2.1 (T j).2.2.1 ∈ wAll) (hdg : decode cc pc = .ok (.getfield index, 3))
    (kk : W p l e R s m args below meth c H locs cells slots Q (F0 m (pc + 3) ls (.int (u o) :: rest))) : W p l e R s m args below meth c H locs cells slots Q (F0 m pc ls (.ref (b + k) :: rest)) := bk_get X hk hu k hd j hj hf hw hdg kk
theorem bk_getR0 (X : bCx p s m args meth c own cc nL D E) (hu : Blk D E L b u H) {ci N : Nat} {C : String} {T : u_T} {ty : Nat → FieldType} (hk : bKl ci C T N ty) (k : Nat) {fs : List bF} (hd : L[k]? = some (.inl (ci, fs))) (j : Nat) (hj : j < N) {o : Nat} (hf : fs[j]? = some (1, o)) {index : Nat} (hw : Cond.fieldLink own index (T j).1 (T j).2.1 (T j).2.2.1 ∈ wAll) (hdg : decode cc pc = .ok (.getfield index, 3))
    (kk : W p l e R s m args below meth c H locs cells slots Q (F0 m (pc + 3) ls (.ref (b + o) :: rest))) : W p l e R s m args below meth c H locs cells slots Q (F0 m pc ls (.ref (b + k) :: rest)) := bk_get X hk hu k hd j hj hf hw hdg kk
theorem bk_rld0 (X : bCx p s m args meth c own cc nL D E) (hu : Blk D E L b u H) (k : Nat) {n off st : Nat} (hd : L[k]? = some (.inr (2, n, off, st))) {i : Int32} (hin : vp_in i n) (hdg : decode cc pc = .ok (.aaload, 1))
    (kk : W p l e R s m args below meth c H locs cells slots Q (F0 m (pc + 1) ls (.ref (b + (off + st * i.toNatClampNeg)) :: rest))) : W p l e R s m args below meth c H locs cells slots Q (F0 m pc ls (.int i :: .ref (b + k) :: rest)) :=
  W.aald (v := va_rf (some (b + (off + st * i.toNatClampNeg)))) (ty := .array .int) X.1 X.2.1 (hu.arr hd (by decide)) ((X.2.2.2.2.2.1.1.2 2 (E.1.1 2, .array .int) rfl).1 n (fun j => va_rf (some (b + (off + st * j))))) rfl (fun q => by cases q) (by show ¬ (i < 0 ∨ (arrV _ _ _).slots.size ≤ _); rw [arrV_size]; exact hin) (arrV_read (E.1.1 2) (fun j => va_rf (some (b + (off + st * j)))) (vp_lt hin)) rfl rfl hdg kk
theorem bk_runV2 (X : bCx p s m args meth c own cc nL D E) {y : MethodName} {bytes : ByteArray} {maxL d n index : Nat} {ret : Option FieldType} {Ly : List bC} {As : bE → Nat → Nat → List Value} {w uu w' : bM} {res : bE → Option Value} {C : String} {fs : List Value} {b1 b2 b0 ci : Nat} {Av : List Value}
    (hM : bMet2 l y bytes maxL ret d Ly As w uu w' res) (hY : bYv y C bytes maxL ret n) (hw : Cond.methodLink own index y ∈ wAll) (hR : d + 1 ≤ R.frames ∧ 8 + (maxL + 11) + 40 * d ≤ R.locals) (hAs : As E b1 b2 = .ref b0 :: Av) (hn : Av.length = n) (hsize : ls.size = nL)
    {T : u_T} {N : Nat} (hcl : vwCl[ci]? = some (C, T, N)) (hrc : va_at D vwCl (b0, .inr (ci, fs)) H) (hsrc : Blk D E Ly b2 uu H) (hap : bApart Ly.length b1 b2)
    (hB : Blk D E Ly b1 w H) (h4 : b1 + Ly.length ≤ E.2) (h5 : E.2 ≤ H.size ∧ bTx s E b1 H) (hW : (rest.map fun v => v.category).sum ≤ 8) (hf : cells ≤ R.cells ∧ slots ≤ R.slots) (hdg : decode cc pc = .ok (.invokevirtual index, 3)) : bRun p l e R s m args below meth c H locs cells slots 0 0 (F0 m pc ls (Av.reverse ++ .ref b0 :: rest)) rest D E Ly b1 w' (res E) := by
  obtain ⟨hd, hwi, hws, hwn, hwc⟩ := hY
  have hC := hd.1
  refine va_runV (C := C) (As := Av) (rest := rest) (b := b0) (Ts := wAll) ⟨X.1, X.2.1, X.2.2.1, X.2.2.2.1, X.2.2.2.2.1⟩ (hM D E b1 b2 H.size) (cwV n X.2.2.2.2.1 ?_ rfl rfl rfl hd hR) ⟨bBlind2 D E Ly b1 b2 w uu H.size (As E b1 b2), va_recv (ws := [(b0, .inr (ci, fs))]) (q0 := 0) (X.2.2.2.2.2.1.1) (va_P.one hrc) hcl rfl, fun U hU hWa => ⟨by rw [hAs], ⟨by rw [hU], by rw [hU]; exact hB, X.2.2.2.2.2.1.moved hWa, h4, h5.1, by rw [hU]; exact bTx.moved hWa.alike h5.2⟩, by rw [hU]; exact hsrc, hap⟩⟩ rfl hn hsize rfl (lv_room hW) hdg hf
  refine wGood (fun w hw2 => ?_)
  rcases List.mem_append.mp hw2 with h | h
  · simp only [List.mem_cons, List.not_mem_nil, or_false] at h
    rcases h with rfl | rfl | rfl | rfl
    · exact hw
    · exact hwi
    · exact hws
    · exact hwn
  · exact ((wGoodC hwc) w h).1
theorem bk_runSN2 (X : bCx p s m args meth c own cc nL D E) {y : MethodName} {bytes : ByteArray} {maxL d n index : Nat} {ret : Option FieldType} {Ly : List bC} {As : bE → Nat → Nat → List Value} {w uu w' : bM} {res : bE → Option Value} {b1 b2 : Nat} {Av : List Value} {C host : String}
    (hM : bMet2 l y bytes maxL ret d Ly As w uu w' res) (hY : bYs y C bytes maxL ret n) (hw : Cond.methodLinkNest own index y host ∈ bNest) (hR : d + 1 ≤ R.frames ∧ 8 + (maxL + 11) + 40 * d ≤ R.locals) (hAs : As E b1 b2 = Av) (hn : Av.length = n) (hsize : ls.size = nL) (hsrc : Blk D E Ly b2 uu H) (hap : bApart Ly.length b1 b2)
    (hB : Blk D E Ly b1 w H) (h4 : b1 + Ly.length ≤ E.2) (h5 : E.2 ≤ H.size ∧ bTx s E b1 H) (hW : (rest.map fun v => v.category).sum ≤ 8) (hf : cells ≤ R.cells ∧ slots ≤ R.slots) (hdg : decode cc pc = .ok (.invokestatic index, 3)) : bRun p l e R s m args below meth c H locs cells slots 0 0 (F0 m pc ls (Av.reverse ++ rest)) rest D E Ly b1 w' (res E) := by
  obtain ⟨⟨hC, hd⟩, hwi, hwn, hwc⟩ := hY
  subst hC
  exact va_runSN (As := Av) (rest := rest) (Ts := wAll) ⟨X.1, X.2.1, X.2.2.1, X.2.2.2.1, X.2.2.2.2.1⟩ (hM D E b1 b2 H.size) ⟨va_cnB n X.2.2.2.2.1 (wGoodC hwc) rfl rfl rfl (X.2.2.2.2.2.1.2.1 _ hw) (X.2.2.2.2.1 _ hwn) hd hR, X.2.2.2.2.1 _ hwi, trivial⟩ ⟨bBlind2 D E Ly b1 b2 w uu H.size (As E b1 b2), fun U hU hWa => ⟨by rw [hAs], ⟨by rw [hU], by rw [hU]; exact hB, X.2.2.2.2.2.1.moved hWa, h4, h5.1, by rw [hU]; exact bTx.moved hWa.alike h5.2⟩, by rw [hU]; exact hsrc, hap⟩⟩ rfl hn hsize rfl (lv_room hW) hdg hf
theorem bk_copy (X : bCx p s m args meth c own cc nL D E) {n : Nat} {v u : bM} {a b : Nat} (hB : bB D E (LA n) a v s H locs) (hu : Blk D E (LA n) b u H) (hn : n < 2 ^ 31) (hz : ls.size = nL) {index : Nat} (hw : Cond.methodLink own index arraycopyName ∈ wAll) (hR : 1 ≤ R.frames ∧ (rest.map fun v => v.category).sum + (nativeFrameWords "java/lang/System" "arraycopy" 5 + 11) ≤ R.locals) (hdg : decode cc pc = .ok (.invokestatic index, 3))
    (kk : ∀ (H1 : Heap) (locs1 : List Loc), bB D E (LA n) a u s H1 locs1 → W p l e R s m args below meth c H1 locs1 cells slots Q (F0 m (pc + 3) ls rest)) : W p l e R s m args below meth c H locs cells slots Q (F0 m pc ls (.int (nI n) :: .int 0 :: .ref a :: .int 0 :: .ref b :: rest)) := by
  intro T hT Xs
  obtain ⟨g1, g2, g3, g4, g5⟩ := hB
  have hc0 : H[b]? = some (vp_cell (E.1.1 0) (n, .inl (fun j => u (0 + j)))) := hu.arr (k := 0) rfl (by decide)
  have hc1 : H[a]? = some (vp_cell (E.1.1 0) (n, .inl (fun j => v (0 + j)))) := g1.arr (k := 0) rfl (by decide)
  have hK := X.2.2.2.2.2.1.1
  obtain ⟨-, k0, hk0, cm0, hkk0⟩ := (hK.2 0 (E.1.1 0, .int) rfl).1 n (fun j => .int (u (0 + j)))
  obtain ⟨-, k1, hk1, cm1, hkk1⟩ := (hK.2 0 (E.1.1 0, .int) rfl).1 n (fun j => .int (v (0 + j)))
  have c0 : (0 : Int32).toNatClampNeg = 0 := rfl
  have cn : (nI n).toNatClampNeg = n := nI_clamp hn
  have tn : (nI n).toInt = (n : Int) := nI_toInt hn
  have hts := X.2.2.2.2.1
  obtain ⟨vm', X', step⟩ := Xs.arraycopy X.1 X.2.2.2.1 (hts _ hw) (hts _ wm_717) (hts _ wm_716) (hts _ wm_18) (src := b) (dst := a) (cs := vp_cell (E.1.1 0) (n, .inl (fun j => u (0 + j)))) (cd := vp_cell (E.1.1 0) (n, .inl (fun j => v (0 + j)))) (srcPos := 0) (destPos := 0) (n := nI n) (by rw [hT]; exact hc0) (by rw [hT]; exact hc1)
    (fun _ h => by cases h) (fun _ h => by cases h) (fun h => by cases h) (fun h => by cases h) hk0 hk1 hkk0 hkk1 (by simp [refKind]) (by decide) (by decide) (nI_pos hn)
    (by rw [tn]; show ¬ _ > ((arrV _ n (fun j => .int (u (0 + j)))).slots.size : Int); rw [arrV_size]; simp)
    (by rw [tn]; show ¬ _ > ((arrV _ n (fun j => .int (v (0 + j)))).slots.size : Int); rw [arrV_size]; simp)
    (fun vm₁ _ i hi => by
      rw [cn] at hi
      have e : (vp_cell (E.1.1 0) (n, .inl (fun j => u (0 + j)))).slots.getD ((0 : Int32).toNatClampNeg + i) .null = .int (u (0 + i)) := by
        show (arrV _ n (fun j => .int (u (0 + j)))).slots.getD _ _ = _
        rw [c0, Array.getD_eq_getD_getElem?, arrV_read _ _ (show 0 + i < n by omega)]
        show Value.int (u (0 + (0 + i))) = _
        rw [Nat.zero_add (0 + i)]
      refine ⟨?_, ?_⟩
      · rw [e]
        rfl
      · rw [e]
        exact trivial)
    (g := F0 m pc ls (.int (nI n) :: .int 0 :: .ref a :: .int 0 :: .ref b :: rest)) rfl (X.2.2.1.trans hz.symm).symm (rest := rest) rfl (by rw [X.2.1]; exact hdg) hR.1 (by show 2 * 0 + _ + _ ≤ _; have := hR.2; omega)
  have e1 : copied (vp_cell (E.1.1 0) (n, .inl (fun j => u (0 + j)))) (vp_cell (E.1.1 0) (n, .inl (fun j => v (0 + j)))) 0 0 (nI n) = vp_cell (E.1.1 0) (n, .inl (fun j => u (0 + j))) := by
    have h := va_copied (fun z => Value.int z) (E.1.1 0) (E.1.1 0) (n0 := n) (n1 := n) (sp := 0) (dp := 0) (n := n) (fun j => u (0 + j)) (fun j => v (0 + j)) (by omega)
    have h2 : copied (vp_cell (E.1.1 0) (n, .inl (fun j => u (0 + j)))) (vp_cell (E.1.1 0) (n, .inl (fun j => v (0 + j)))) 0 0 (nI n) = (arrV (E.1.1 0) n (fun j => .int (v (0 + j)))).storeRun 0 ((arrV (E.1.1 0) n (fun j => .int (u (0 + j)))).stretch 0 n) := by
      unfold copied
      rw [c0, cn]
      rfl
    rw [h2, h]
    rw [vp_cell_i]
    refine arrV_ext (fun j hj => ?_)
    unfold va_cpy
    rw [if_pos ⟨by omega, by omega⟩]
    rw [show 0 + (j - 0) = j by omega]
  rw [e1] at X' step
  have hl : a < H.size := (Array.getElem?_eq_some_iff.mp hc1).1
  have hheap : ((T.setVm vm').setCell a (vp_cell (E.1.1 0) (n, .inl (fun j => u (0 + j))))).heap = H.setIfInBounds a (vp_cell (E.1.1 0) (n, .inl (fun j => u (0 + j)))) := by rw [← hT]; rfl
  have oq : ∀ q : Nat, q ≠ a → (H.setIfInBounds a (vp_cell (E.1.1 0) (n, .inl (fun j => u (0 + j)))))[q]? = H[q]? := fun q hq => by simp [Array.getElem?_setIfInBounds, Ne.symm hq]
  have ha1 : (H.setIfInBounds a (vp_cell (E.1.1 0) (n, .inl (fun j => u (0 + j)))))[a]? = some (vp_cell (E.1.1 0) (n, .inl (fun j => u (0 + j)))) := by simp [Array.getElem?_setIfInBounds, hl]
  have hsz : (H.setIfInBounds a (vp_cell (E.1.1 0) (n, .inl (fun j => u (0 + j))))).size = H.size := by simp
  have hb1 : Blk D E (LA n) a u (H.setIfInBounds a (vp_cell (E.1.1 0) (n, .inl (fun j => u (0 + j))))) := by
    intro k d hk
    cases k with
    | zero =>
      have hd : d = .inr (0, n, 0, 0) := (Option.some.inj hk).symm
      subst hd
      exact bArr0 (by decide) ha1
    | succ k => simp [LA] at hk
  have hA : bA a (LA n).length s.heap.size a := Or.inl ⟨Nat.le_refl _, by simp [LA]⟩
  obtain ⟨t, a1, b1⟩ := kk _ _ ⟨hb1, ⟨by rw [hsz]; exact g2.1, fun q q1 q2 => by
      rw [oq q (fun e => q2 (by rw [e]; exact hA))]
      exact g2.2.1 q q1 q2, fun q hq => by
      rcases List.mem_append.mp hq with h | h
      · exact g2.2.2 q h
      · obtain ⟨z, -, hz⟩ := List.mem_map.mp h
        rw [← hz]
        exact hA⟩, g3, g4, g5⟩ _ hheap X'
  exact ⟨t, step t a1, b1⟩
theorem Blk.subArr (hw : bWf L) {k n off : Nat} (hn : 0 < n) (hd : L[k]? = some (.inr (0, n, off, 0))) (hB : Blk D E L a v H) : Blk D E (LA n) (a + k) (vw v off) H := hB.sub (bSub_arr hw hn hd)
end TWO
def cne {β : Type} (i j : Nat) (k : Option β) : Option β := if i = j then none else k
theorem cne_some {β : Type} {i j : Nat} {k : Option β} {r : β} (h : cne i j k = some r) : i ≠ j ∧ k = some r := by
  unfold cne at h
  split at h
  · cases h
  · rename_i q
    exact ⟨q, h⟩
theorem apA {L : List bC} {a b k1 k2 n : Nat} {d1 d2 : bC} (h : bApart L.length a b) (h1 : L[k1]? = some d1) (h2 : L[k2]? = some d2) : bApart (LA n).length (a + k1) (b + k2) := by
  have := (List.getElem?_eq_some_iff.mp h1).1
  have := (List.getElem?_eq_some_iff.mp h2).1
  unfold bApart at h ⊢
  show a + k1 + 1 ≤ b + k2 ∨ b + k2 + 1 ≤ a + k1
  omega
theorem apS {L Ly : List bC} {a b k o mm : Nat} (h : bApart L.length a b) (hs : bSub L k o mm Ly) : bApart Ly.length (a + k) (b + k) := by
  have := hs.2.2.2.2.1
  unfold bApart at h ⊢
  omega
theorem apX {i j : Nat} (a : Nat) (hi : i < 12) (hj : j < 12) (h : i ≠ j) : bApart LSt.length (a + stC i) (a + stC j) := by
  rw [lenSt]
  unfold bApart stC
  split <;> split <;> (try split) <;> (try split) <;> omega
theorem plFl : bPlain LFl := by unfold bPlain; decide +kernel
theorem plBr : bPlain LBr := by unfold bPlain; decide +kernel
theorem plOv : bPlain LOv := by unfold bPlain; decide +kernel
theorem plBa : bPlain LBa := by unfold bPlain; decide +kernel
theorem plSt : bPlain LSt := by unfold bPlain; decide +kernel
theorem dX8_copyRow_0 : decode cX8_copyRow 0 = .ok (.aload_n 0, 1) := by decide +kernel
theorem dX8_copyRow_1 : decode cX8_copyRow 1 = .ok (.iconst 0, 1) := by decide +kernel
theorem dX8_copyRow_2 : decode cX8_copyRow 2 = .ok (.aload_n 1, 1) := by decide +kernel
theorem dX8_copyRow_3 : decode cX8_copyRow 3 = .ok (.iconst 0, 1) := by decide +kernel
theorem dX8_copyRow_4 : decode cX8_copyRow 4 = .ok (.aload_n 0, 1) := by decide +kernel
theorem dX8_copyRow_5 : decode cX8_copyRow 5 = .ok (.arraylength, 1) := by decide +kernel
theorem dX8_copyRow_6 : decode cX8_copyRow 6 = .ok (.aload_n 1, 1) := by decide +kernel
theorem dX8_copyRow_7 : decode cX8_copyRow 7 = .ok (.arraylength, 1) := by decide +kernel
theorem dX8_copyRow_8 : decode cX8_copyRow 8 = .ok (.invokestatic 370, 3) := by decide +kernel
theorem dX8_copyRow_11 : decode cX8_copyRow 11 = .ok (.invokestatic 375, 3) := by decide +kernel
theorem dX8_copyRow_14 : decode cX8_copyRow 14 = .ok (.return_, 1) := by decide +kernel
set_option maxRecDepth 100000 in
set_option maxHeartbeats 4000000 in
theorem mX8_copyRow {l : Launch} {n : Nat} {v u : bM} (hn : n < 2 ^ 31) : bMet2 l yX8_copyRow cX8_copyRow 2 none 1 (LA n) (fun _ a b => [.ref b, .ref a]) v u u (fun _ => none) := by
  refine bk_start2 (by decide +kernel) (wfA n) (fun _ _ _ => Nat.le_of_ble_eq_true rfl) ?_
  intro p e s m args below meth c D E a b ls H locs X hr hl hB hu hab
  have hx := X.1
  have hb := X.2.1
  have hl : lv_has ls 2 [(0, .ref b), (1, .ref a)] := hl
  have hu := srcK (show bPlain (LA n) from rfl) hB hu hab
  have hne : a ≠ b := by rcases hab with h | h <;> simp [LA] at h <;> omega
  refine lv_aload_n hx hb dX8_copyRow_0 rfl (lv_at hl 0 rfl) ?_
  refine lv_iconst (v := 0) hx hb dX8_copyRow_1 (by decide) ?_
  refine lv_aload_n hx hb dX8_copyRow_2 rfl (lv_at hl 1 rfl) ?_
  refine lv_iconst (v := 0) hx hb dX8_copyRow_3 (by decide) ?_
  refine lv_aload_n hx hb dX8_copyRow_4 rfl (lv_at hl 0 rfl) ?_
  refine va_alen hx hb X.2.2.2.2.2.1.1 (va_P.one (hu.arr (k := 0) rfl (by decide))) 0 0 rfl (ty := .int) rfl rfl dX8_copyRow_5 ?_
  refine lv_aload_n hx hb dX8_copyRow_6 rfl (lv_at hl 1 rfl) ?_
  refine bk_alen X hB 0 rfl dX8_copyRow_7 ?_
  refine bk_min X hl.1 wm_714 ⟨Nat.le_of_ble_eq_true rfl, Nat.le_of_ble_eq_true rfl⟩ ⟨Nat.le_of_ble_eq_true rfl, Nat.le_of_ble_eq_true rfl⟩ dX8_copyRow_8 ?_
  have e1 : (if nI n < Int32.ofNat (bX b u (0, n, 0, 0)).1 then nI n else Int32.ofNat (bX b u (0, n, 0, 0)).1) = nI n := by
    rw [show Int32.ofNat (bX b u (0, n, 0, 0)).1 = nI n from rfl]
    split <;> rfl
  rw [e1]
  refine bk_copy X hB hu hn hl.1 wm_715 ⟨Nat.le_of_ble_eq_true rfl, Nat.le_of_ble_eq_true (by decide +kernel)⟩ dX8_copyRow_11 (fun H locs hB => ?_)
  exact bk_vW X hr rfl rfl hB (Nat.le_of_ble_eq_true rfl) (Nat.le_of_ble_eq_true rfl) dX8_copyRow_14
theorem ys_X8_copyRow : bYs yX8_copyRow RX8 cX8_copyRow 2 none 2 := ⟨⟨rfl, by decide, by decide, rfl⟩, wm_712, wm_1, wm_713⟩
