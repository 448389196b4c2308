/-! ===== the law's world: the bakery at a, its reference at a + 866, the array out at a + 876, the script at b ===== -/
def uB (D : va_G) (E : bE) (a : Nat) (v u : bM) (f : Nat → Int64) (b L : Nat) (xs : Nat → Int32) (s : State) (H : Heap) (locs : List Loc) : Prop :=
  Blk D E LX a v H ∧ Blk D E LMo (a + 866) u H ∧ va_at D vwCl (a + 876, lO E f) H ∧ va_S (fun q => a ≤ q) s.heap H locs ∧ a + 877 ≤ E.2 ∧ E.2 ≤ H.size ∧ bTx s E a s.heap ∧ va_X b L xs s s.heap ∧ b < s.heap.size ∧ s.heap.size = a
theorem LMo_no {k : Nat} {x : Nat × Nat × Nat × Nat} (h : LMo[k]? = some (.inr x)) : x.1 < 9 := by
  have h9 : LMo.all (fun d => match d with | .inl _ => true | .inr x => decide (x.1 < 9)) = true := by decide +kernel
  exact of_decide_eq_true (List.all_eq_true.mp h9 (.inr x) (List.mem_of_getElem? h))
section LAWR
variable {p : Program} {l : Launch} {e : Env} {R : Room} {s : State} {m : MethodId} {args : Array Value} {below : List Frame} {meth : Method} {c : Code} {H : Heap} {locs : List Loc} {cells slots : Nat} {Q : State → Prop}
variable {cc : ByteArray} {pc : Nat} {ls : Array Slot} {rest : List Value} {D : va_G} {E : bE} {own : String} {nL : Nat} {a : Nat} {v u : bM} {f : Nat → Int64} {b L : Nat} {xs : Nat → Int32} {mc ms : Nat}
theorem uB.tx (hB : uB D E a v u f b L xs s H locs) : bTx s E a H := hB.2.2.2.2.2.2.1.kept (fun q q1 q2 => hB.2.2.2.1.2.1 q q1 q2)
theorem uB.lenX (hB : uB D E a v u f b L xs s H locs) : a + LX.length ≤ E.2 := by
  have := hB.2.2.2.2.1
  rw [lenqX]
  omega
theorem uB.lenM (hB : uB D E a v u f b L xs s H locs) : a + 866 + LMo.length ≤ E.2 := by
  have := hB.2.2.2.2.1
  rw [lenMo]
  omega
theorem uB.hX (hB : uB D E a v u f b L xs s H locs) : E.2 ≤ H.size ∧ bTx s E a H := ⟨hB.2.2.2.2.2.1, hB.tx⟩
theorem uB.hM (hB : uB D E a v u f b L xs s H locs) : E.2 ≤ H.size ∧ bTx s E (a + 866) H := ⟨hB.2.2.2.2.2.1, hB.tx.le (by omega)⟩
/-- the bakery has changed, within its cells and behind E.2 -/
theorem uB.setX (hB : uB D E a v u f b L xs s H locs) {w : bM} {f9 : Nat → Int64} {H1 : Heap} {l9 : List Loc} (h1 : Blk D E LX a w H1) (h2 : H.size ≤ H1.size) (hk : ∀ q : Nat, q < H.size → ¬ fA E a (a + 876) q → H1[q]? = H[q]?) (ho : va_at D vwCl (a + 876, lO E f9) H1) (hS : va_S (fun q => a ≤ q) s.heap H1 l9) : uB D E a w u f9 b L xs s H1 l9 := by
  obtain ⟨b1, b2, b3, b4, b5, b6, b7⟩ := hB
  refine ⟨h1, fun k d hd => ?_, ho, hS, b5, Nat.le_trans b6 h2, b7⟩
  have hkl : k < 10 := by rw [← lenMo]; exact (List.getElem?_eq_some_iff.mp hd).1
  refine bAt_kept (b2 k d hd) (fun _ => hk _ (by omega) (fun z => ?_)) (fun q hq hor hz => ?_)
  · rcases z with (z | z) | z <;> omega
  · obtain ⟨x, rfl, hx9⟩ := hz
    exact absurd (LMo_no hd) hx9
theorem u_goX {w9 : bM} {st0 : List Value} {res : Option Value} (hB : uB D E a v u f b L xs s H locs) (hr : bRun p l e R s m args below meth c H locs cells slots mc ms (F0 m pc ls st0) rest D E LX a w9 res)
    (kk : ∀ (H1 : Heap) (locs1 : List Loc), uB D E a w9 u f b L xs s H1 locs1 → W p l e R s m args below meth c H1 locs1 (cells + mc) (slots + ms) Q (F0 m (pc + 3) ls (res.toList ++ rest))) : W p l e R s m args below meth c H locs cells slots Q (F0 m pc ls st0) := by
  have b5 := hB.2.2.2.2.1
  have b6 := hB.2.2.2.2.2.1
  have hz := hB.2.2.2.1.1
  refine bk_go hr hB.2.2.2.1 (fun q h => ?_) (fun H1 locs1 g1 g2 g3 g4 => kk H1 locs1 (hB.setX g1 g2 (fun q q1 q2 => g3 q q1 (fun z => q2 ?_)) (va_at.kept (q := (a + 876, lO E f)) hB.2.2.1 (g3 (a + 876) (by omega) (fun z => ?_))) g4))
  · rw [lenqX] at h
    have := hB.2.2.2.2.2.2.2.2.2
    rcases h with h | h
    · exact h.1
    · show a ≤ q
      omega
  · rw [lenqX] at z
    rcases z with z | z
    · exact Or.inl (Or.inl z)
    · exact Or.inl (Or.inr (by omega))
  · rw [lenqX] at z
    rcases z with z | z <;> omega
theorem u_goM {w9 : bM} {st0 : List Value} {res : Option Value} (hB : uB D E a v u f b L xs s H locs) (hr : bRun p l e R s m args below meth c H locs cells slots mc ms (F0 m pc ls st0) rest D E LMo (a + 866) w9 res)
    (kk : ∀ (H1 : Heap) (locs1 : List Loc), uB D E a v w9 f b L xs s H1 locs1 → W p l e R s m args below meth c H1 locs1 (cells + mc) (slots + ms) Q (F0 m (pc + 3) ls (res.toList ++ rest))) : W p l e R s m args below meth c H locs cells slots Q (F0 m pc ls st0) := by
  obtain ⟨b1, b2, b3, b4, b5, b6, b7, b8, b9, b10⟩ := id hB
  have hz := b4.1
  refine bk_go hr b4 (fun q h => ?_) (fun H1 locs1 g1 g2 g3 g4 => kk H1 locs1 ⟨fun k d hd => ?_, g1, va_at.kept (q := (a + 876, lO E f)) b3 (g3 (a + 876) (by omega) (fun z => ?_)), g4, b5, Nat.le_trans b6 g2, b7, b8, b9, b10⟩)
  · rw [lenMo] at h
    show a ≤ q
    rcases h with h | h <;> omega
  · have hk : k < 866 := by rw [← lenqX]; exact (List.getElem?_eq_some_iff.mp hd).1
    refine bAt_kept (b1 k d hd) (fun _ => g3 _ (by omega) (fun z => ?_)) (fun q hq hor hz9 => g3 q hq (fun z => ?_))
    · rw [lenMo] at z
      rcases z with z | z <;> omega
    · rw [lenMo] at z
      rcases hor with g | g
      · obtain ⟨y, rfl, hy⟩ := hz9
        obtain ⟨y1, q1, -⟩ := bHl_at LX k y wfX.2.2 hd hy
        have := (List.getElem?_eq_some_iff.mp q1).1
        rw [lenqX] at this
        rcases z with z | z <;> omega
      · rcases z with z | z <;> omega
  · rw [lenMo] at z
    rcases z with z | z <;> omega
/-- a helper's call -/
theorem u_goH (X : bCx p s m args meth c RL cc nL D E) (hB : uB D E a v u f b L xs s H locs) {y : MethodName} {bytes : ByteArray} {maxL d n index : Nat} {hh : List (Nat × Nat × Nat × Nat)} {Av : List Value} {w : bM} {r : Int32} {y9 : Option Int64} (hM : hMet l y bytes maxL hh d mc ms Av v r w y9)
    (hY : y.cls = RL ∧ y.cls ≠ "java/lang/invoke/MethodHandle" ∧ y.cls ≠ "java/lang/invoke/VarHandle" ∧ (parseMethodDescriptor y.desc).map (fun d => d.parameters.length) = some n) (w1 : Cond.methodLink RL index y ∈ wAll) (w2 : Cond.static y ∈ wAll) (w3 : Cond.initialized RL ∈ wAll) (w4 : Cond.codeWith y bytes maxL (some .int) hh ∈ wAll) (hR : d + 1 ≤ R.frames ∧ 8 + (maxL + 11) + 40 * d ≤ R.locals) (hn : (Value.ref a :: (Av ++ [.ref (a + 876)])).length = n) (hsize : ls.size = nL) (hW : (rest.map fun v => v.category).sum ≤ 8) (hf : cells + mc ≤ R.cells ∧ slots + ms ≤ R.slots) (hdg : decode cc pc = .ok (.invokestatic index, 3))
    (kk : ∀ (H1 : Heap) (locs1 : List Loc) (f9 : Nat → Int64), (∀ x, y9 = some x → f9 0 = x) → uB D E a w u f9 b L xs s H1 locs1 → W p l e R s m args below meth c H1 locs1 (cells + mc) (slots + ms) Q (F0 m (pc + 3) ls (.int r :: rest))) : W p l e R s m args below meth c H locs cells slots Q (F0 m pc ls ((Value.ref a :: (Av ++ [.ref (a + 876)])).reverse ++ rest)) := by
  obtain ⟨b1, b2, b3, b4, b5, b6, b7, b8, b9, b10⟩ := id hB
  obtain ⟨hC, hd⟩ := hY
  have hz := b4.1
  have hG : GoodIn wAll (va_wsS RL index y (Cond.codeWith y bytes maxL (some .int) hh :: wAll)) := wGood (fun w hw => by
    rcases List.mem_append.mp hw with h | h
    · simp only [List.mem_cons, List.not_mem_nil, or_false] at h
      rcases h with rfl | rfl | rfl
      · exact w1
      · exact w2
      · rw [hC]; exact w3
    · exact (List.mem_cons.mp h).elim (fun q => q ▸ w4) id)
  have hrun := vx_runSW (l := l) (e := e) (below := below) (R := R) (As := .ref a :: (Av ++ [.ref (a + 876)])) (rest := rest) (g := F0 m pc ls ((Value.ref a :: (Av ++ [.ref (a + 876)])).reverse ++ rest)) (H := H) (locs := locs) (cells := cells) (slots := slots) (Ts := wAll) (meth := meth) ⟨X.1, X.2.1, X.2.2.1, X.2.2.2.1, X.2.2.2.2.1⟩ (hM D E a (a + 876) H.size f) (vx_cwSW n X.2.2.2.2.1 hG rfl rfl rfl hd hR)
    ⟨hBlind D E a (a + 876) v f H.size _, fun U hU hWa => ⟨rfl, by rw [hU], by rw [hU]; exact b1, by rw [hU]; exact b3, X.2.2.2.2.2.1.moved hWa, by omega, by omega, b6, by rw [hU]; exact bTx.moved hWa.alike hB.tx⟩⟩ rfl hn hsize rfl (lv_room hW) hdg hf
  intro T hT Xs
  obtain ⟨w0, st₀, t, T', L9, h0, X', hL, e1, e2, ⟨hv, hblk, ⟨f9, ho, hy⟩, hzz, hkp⟩, st⟩ := hrun T hT Xs
  cases hv
  rw [h0] at hzz hkp
  have hge : ∀ q, fA E a (a + 876) q → a ≤ q := fun q h => by
    rcases h with (h | h) | h <;> omega
  have hS1 : va_S (fun q => a ≤ q) s.heap T'.heap (locs ++ L9) := ⟨by rw [e1]; omega, fun q h1 h2 => by rw [e1, hkp q (by omega) (fun z => h2 (hge q z))]; exact b4.2.1 q h1 h2, fun q hq => by
    rcases List.mem_append.mp hq with h | h
    · exact b4.2.2 q h
    · exact hge _ (hL q h)⟩
  obtain ⟨t2, a1, r1⟩ := kk T'.heap (locs ++ L9) f9 hy (hB.setX (by rw [e1]; exact hblk) (by rw [e1]; exact hzz) (fun q q1 q2 => by rw [e1]; exact hkp q q1 q2) (by rw [e1]; exact ho) hS1) T' rfl X'
  exact ⟨t2, st _ a1, r1⟩
/-- a number of the script: aload_0, iload 4, iconst_j, iadd, iaload -/
theorem u_scr (X : bCx p s m args meth c own cc nL D E) (hB : uB D E a v u f b L xs s H locs) {i : Nat} (j : Nat) (hL : L ≤ 3072) (hj : i + j < L) (hl0 : ls[0]? = some (.val (.ref b))) (hl4 : ls[4]? = some (.val (.int (nI i)))) {n : Int} (hn : Int32.ofInt n = nI j) (d0 : decode cc pc = .ok (.aload_n 0, 1)) (d1 : decode cc (pc + 1) = .ok (.iload 4, 2)) (d3 : decode cc (pc + 3) = .ok (.iconst n, 1)) (d4 : decode cc (pc + 4) = .ok (.iadd, 1)) (d5 : decode cc (pc + 5) = .ok (.iaload, 1))
    (kk : W p l e R s m args below meth c H locs cells slots Q (F0 m (pc + 6) ls (.int (xs (i + j)) :: rest))) : W p l e R s m args below meth c H locs cells slots Q (F0 m pc ls rest) := by
  obtain ⟨b1, b2, b3, b4, b5, b6, b7, b8, b9, b10⟩ := id hB
  refine lv_aload_n X.1 X.2.1 d0 rfl hl0 ?_
  refine lv_iload X.1 X.2.1 d1 hl4 ?_
  refine lv_iconst (v := nI j) X.1 X.2.1 d3 hn ?_
  refine lv_iadd X.1 X.2.1 d4 ?_
  have e1 : nI i + nI j = nI (i + j) := nI_add i j
  have e2 : (nI (i + j)).toNatClampNeg = i + j := nI_clamp (by omega)
  rw [e1]
  refine va_sld X.1 X.2.1 b8 b9 (by show ¬ a ≤ b; omega) b4 (show ¬ (nI (i + j) < 0 ∨ L ≤ (nI (i + j)).toNatClampNeg) from fun z => ?_) d5 ?_
  · rcases z with z | z
    · exact nI_pos (by omega) z
    · omega
  · rw [e2]
    exact kk
theorem u_out (X : bCx p s m args meth c own cc nL D E) (hB : uB D E a v u f b L xs s H locs) (hdg : decode cc pc = .ok (.laload, 1))
    (kk : W p l e R s m args below meth c H locs cells slots Q (F0 m (pc + 1) ls (.long (f 0) :: rest))) : W p l e R s m args below meth c H locs cells slots Q (F0 m pc ls (.int 0 :: .ref (a + 876) :: rest)) :=
  va_lald (i := 0) X.1 X.2.1 X.2.2.2.2.2.1.1 (va_P.one hB.2.2.1) 0 5 rfl rfl (show ¬ ((0 : Int32) < 0 ∨ 1 ≤ (0 : Int32).toNatClampNeg) by decide) hdg kk
end LAWR
