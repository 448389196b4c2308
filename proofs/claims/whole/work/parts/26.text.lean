/-! ===== calls of the methods that write the text, in the helpers' world and in the law's ===== -/
section ZRUN
variable {p : Program} {l : Launch} {e : Env} {R : Room} {s : State} {m : MethodId} {args : Array Value} {below : List Frame} {meth : Method} {c : Code} {H : Heap} {locs : List Loc} {cells slots : Nat} {Q : State → Prop}
variable {cc : ByteArray} {pc : Nat} {ls : Array Slot} {rest : List Value} {D : va_G} {E : bE} {own : String} {nL : Nat} {a o : Nat} {v u : bM} {f : Nat → Int64} {b L : Nat} {xs : Nat → Int32} {mc ms : Nat}
theorem z_run {y : MethodName} {bytes : ByteArray} {maxL d n index ci : Nat} {ret : Option FieldType} {As : bE → Nat → List Value} {w9 : bM} {res : bE → Option Value} {C : String} {fs : List Value} {b0 : Nat} {Av : List Value} (X : bCx p s m args meth c own cc nL D E)
    (hM : bMetz l y bytes maxL ret d mc ms LX As v w9 res) (hY : bYv y C bytes maxL ret n) (hw : Cond.methodLink own index y ∈ wAll) (hR : d + 1 ≤ R.frames ∧ 8 + (maxL + 11) + 40 * d ≤ R.locals) (hAs : As E a = .ref b0 :: Av) (hn : Av.length = n) (hsize : ls.size = nL)
    {T : u_T} {N : Nat} (hcl : vwCl[ci]? = some (C, T, N)) (hrc : va_at D vwCl (b0, .inr (ci, fs)) H) (h1 : Blk D E LX a v H) (h4 : a + LX.length ≤ E.2) (h5 : E.2 ≤ H.size ∧ bTx s E a H)
    (hW : (rest.map fun v => v.category).sum ≤ 8) (hf : cells + mc ≤ R.cells ∧ slots + ms ≤ R.slots) (hdg : decode cc pc = .ok (.invokevirtual index, 3)) : va_Run p l e R s m args below meth c H locs cells slots mc ms (F0 m pc ls (Av.reverse ++ .ref b0 :: rest)) rest (bPostz D E LX a w9 (res E) (Value.ref b0 :: Av).toArray) (bA a LX.length E.2) := by
  obtain ⟨hd, hwi, hws, hwn, hwc⟩ := hY
  refine va_runV (C := C) (As := Av) (rest := rest) (b := b0) (Ts := wAll) ⟨X.1, X.2.1, X.2.2.1, X.2.2.2.1, X.2.2.2.2.1⟩ (hM D E a H.size) (cwV n X.2.2.2.2.1 ?_ rfl rfl rfl hd hR) ⟨bBlind D E LX a v H.size (As E a), va_recv (ws := [(b0, .inr (ci, fs))]) (q0 := 0) (X.2.2.2.2.2.1.1) (va_P.one hrc) hcl rfl, fun U hU hWa => ⟨by rw [hAs], by rw [hU], by rw [hU]; exact h1, X.2.2.2.2.2.1.moved hWa, h4, h5.1, by rw [hU]; exact bTx.moved hWa.alike h5.2⟩⟩ rfl hn hsize rfl (lv_room hW) hdg hf
  refine wGood (fun w hw2 => ?_)
  rcases List.mem_append.mp hw2 with h | h
  · simp only [List.mem_cons, List.not_mem_nil, or_false] at h
    rcases h with rfl | rfl | rfl | rfl
    · exact hw
    · exact hwi
    · exact hws
    · exact hwn
  · exact ((wGoodC hwc) w h).1
theorem l_goz {st0 : List Value} {w9 : bM} {res : Option Value} {ar : Array Value} (hB : lB D E a o v f s H locs) (hr : va_Run p l e R s m args below meth c H locs cells slots mc ms (F0 m pc ls st0) rest (bPostz D E LX a w9 res ar) (bA a LX.length E.2))
    (kk : ∀ (H1 : Heap) (locs1 : List Loc), lB D E a o w9 f s H1 locs1 → W p l e R s m args below meth c H1 locs1 (cells + mc) (slots + ms) Q (F0 m (pc + 3) ls (res.toList ++ rest))) : W p l e R s m args below meth c H locs cells slots Q (F0 m pc ls st0) := by
  obtain ⟨b1, b2, hS, b4, b5, b6, b7⟩ := id hB
  have hlim := hB.lim
  have hsub : ∀ q, bA a LX.length E.2 q → fA E a o q := fun q h => by rw [lenqX] at h; exact Or.inl h
  intro T hT Xs
  obtain ⟨v9, st₀, t, T', L9, h0, X', hL, e1, e2, ⟨hv9, hb, hz, hk⟩, st⟩ := hr T hT Xs
  cases hv9
  rw [h0] at hz hk
  have hO : va_at D vwCl (o, lO E f) T'.heap := va_at.kept (q := (o, lO E f)) b2 (by
    rw [e1]
    refine hk o (by omega) (fun z => ?_)
    rw [lenqX] at z
    rcases z with z | z <;> omega)
  obtain ⟨t2, a1, r1⟩ := kk T'.heap (locs ++ L9) ⟨by rw [e1]; exact hb, hO, ⟨Nat.le_trans hS.1 (by rw [e1]; exact hz), fun q g1 g2 => by rw [e1, hk q (Nat.lt_of_lt_of_le g1 hS.1) (fun z => g2 (hsub q z))]; exact hS.2.1 q g1 g2, fun q hq => by
      rcases List.mem_append.mp hq with h | h
      · exact hS.2.2 q h
      · exact hsub _ (hL q h)⟩, b4, b5, b6, b7⟩ T' rfl X'
  exact ⟨t2, st _ a1, r1⟩
theorem u_goz {st0 : List Value} {w9 : bM} {res : Option Value} {ar : Array Value} (hB : uB D E a v u f b L xs s H locs) (hr : va_Run p l e R s m args below meth c H locs cells slots mc ms (F0 m pc ls st0) rest (bPostz D E LX a w9 res ar) (bA a LX.length E.2))
    (kk : ∀ (H1 : Heap) (locs1 : List Loc), uB D E a w9 u f b L xs s H1 locs1 → W p l e R s m args below meth c H1 locs1 (cells + mc) (slots + ms) Q (F0 m (pc + 3) ls (res.toList ++ rest))) : W p l e R s m args below meth c H locs cells slots Q (F0 m pc ls st0) := by
  obtain ⟨b1, b2, b3, b4, b5, b6, b7, b8, b9, b10⟩ := id hB
  have hge : ∀ q, bA a LX.length E.2 q → a ≤ q := fun q h => by
    rw [lenqX] at h
    rcases h with h | h <;> omega
  have hsub : ∀ q, bA a LX.length E.2 q → fA E a (a + 876) q := fun q h => by rw [lenqX] at h; exact Or.inl h
  intro T hT Xs
  obtain ⟨v9, st₀, t, T', L9, h0, X', hL, e1, e2, ⟨hv9, hb, hz, hk⟩, st⟩ := hr T hT Xs
  cases hv9
  rw [h0] at hz hk
  have hz4 := b4.1
  have hO : va_at D vwCl (a + 876, lO E f) T'.heap := va_at.kept (q := (a + 876, lO E f)) b3 (by
    rw [e1]
    refine hk (a + 876) (by omega) (fun z => ?_)
    rw [lenqX] at z
    rcases z with z | z <;> omega)
  have hS1 : va_S (fun q => a ≤ q) s.heap T'.heap (locs ++ L9) := ⟨by rw [e1]; omega, fun q h1 h2 => by rw [e1, hk q (by omega) (fun z => h2 (hge q z))]; exact b4.2.1 q h1 h2, fun q hq => by
    rcases List.mem_append.mp hq with h | h
    · exact b4.2.2 q h
    · exact hge _ (hL q h)⟩
  obtain ⟨t2, a1, r1⟩ := kk T'.heap (locs ++ L9) (hB.setX (by rw [e1]; exact hb) (by rw [e1]; exact hz) (fun q q1 q2 => by rw [e1]; exact hk q q1 (fun z => q2 (hsub q z))) hO hS1) T' rfl X'
  exact ⟨t2, st _ a1, r1⟩
end ZRUN
