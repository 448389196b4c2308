/-! ===== behind the making of the cells ===== -/
theorem Blk.reE {D : va_G} {E E9 : bE} {L : List bC} {a : Nat} {v : bM} {H : Heap} (h1 : E.1 = E9.1) (hB : Blk D E L a v H) (hx : H.size ≤ E.2) : Blk D E9 L a v H := by
  obtain ⟨e1, e2⟩ := E
  obtain ⟨e3, e4⟩ := E9
  cases h1
  intro k d hd
  have h := hB k d hd
  cases d with
  | inl o => exact h
  | inr q =>
    unfold bAt at h ⊢
    dsimp only at h ⊢
    split at h
    · rename_i h8
      rw [if_pos h8]
      exact h
    · rename_i h8
      rw [if_neg h8]
      split at h
      · rename_i h9
        rw [if_pos h9]
        trivial
      · rename_i h9
        rw [if_neg h9]
        obtain ⟨va, cap, arr, ml, n, g1, g2, g3, g4, g5⟩ := h
        have hlt : va < H.size := va_at.lt (q := (va, _)) g3
        exact ⟨va, cap, arr, ml, n, g1, g2, g3, Or.inl (g4.resolve_right (fun z => by have z : e2 ≤ va := z; have hx : H.size ≤ e2 := hx; omega)), g5⟩
section GTAIL
variable {p : Program} {l : Launch} {e : Env} {R : Room} {s : State} {m : MethodId} {args : Array Value} {below : List Frame} {meth : Method} {c : Code} {H : Heap} {locs : List Loc} {cells slots : Nat}
variable {cc : ByteArray} {pc : Nat} {ls : Array Slot} {D : va_G} {E : bE} {own : String} {nL : Nat} {L : List bC} {a : Nat} {v : bM} {n ci : Nat} {fs : List Value} {mc ms : Nat}
theorem g_tail (X : bCx p s m args meth c own cc nL D E) (hB : gB D E L a v s n ci fs [] H locs) (hn : n = L.length) {o : List bF} (h0 : L[0]? = some (.inl (ci, o))) (hfs : o.map (bV a v) = fs) {w0 : bM} {d : Nat} (hR : d ≤ R.frames ∧ 40 * d ≤ R.locals ∧ cells ≤ R.cells ∧ slots ≤ R.slots) (hc : cells ≤ mc) (hs : slots ≤ ms)
    (ht : ∀ s9 : State, bCx p s9 m args meth c own cc nL D (E.1, a + L.length) → bB D (E.1, a + L.length) L a v s9 H [] → W p l e (rmOf d 0 0) s9 m args below meth c H [] 0 0 (bQ below D (E.1, a + L.length) L a w0 none args s9 0 0) (F0 m pc ls [])) : W p l e R s m args below meth c H locs cells slots (nQ below D E L a w0 args s mc ms) (F0 m pc ls []) := by
  subst hn
  intro T hT Xs
  have Y := vx_rebase Xs (R' := rmOf d 0 0) hR.1 hR.2.1 (by show cells + 0 ≤ _; omega) (by show slots + 0 ≤ _; omega)
  obtain ⟨s9, hA⟩ : ∃ z, z = (T.setVm s.vm).setFrames (.invoking m args :: below) := ⟨_, rfl⟩
  rw [← hA] at Y
  have hvm : s9.vm = s.vm := by rw [hA]; rfl
  have hhp : s9.heap = H := by rw [hA]; exact hT
  have hW0 : s.WarmedH s9.vm := by rw [hvm]; exact State.WarmedH.refl s
  obtain ⟨b1, b2, b3, b4, b5, b6, b7, b8, b9⟩ := id hB
  have hBk : Blk D E L a v H := hB.blk h0 hfs
  have hX9 : bCx p s9 m args meth c own cc nL D (E.1, a + L.length) := ⟨X.1, X.2.1, X.2.2.1, by rw [hvm]; exact X.2.2.2.1, fun w hw => pay_in X.2.2.2.2.1 (wGood (fun w h => h)) w hw args s9 hW0, bK.moved hW0 X.2.2.2.2.2.1, X.2.2.2.2.2.2⟩
  have hTx : bTx s E a H := b9.kept (fun q q1 q2 => b5.2.1 q q1 q2)
  have hB9 : bB D (E.1, a + L.length) L a v s9 H [] := ⟨Blk.reE (E := E) (E9 := (E.1, a + L.length)) rfl hBk (by omega), by rw [hhp]; exact va_S.rf, b6, Nat.le_refl _, by rw [hhp, b1]; exact Nat.le_refl _, by rw [hhp]; exact bTx.moved hW0.alike hTx⟩
  obtain ⟨t, st, o9, r1, r2, ⟨r3, r4, r5⟩, L9, ⟨r6, r7, r8⟩, r9⟩ := ht s9 hX9 hB9 T hT Y
  have hs1 : s9.heap.size ≤ t.heap.size := r8.2.1
  have hs2 : t.heap.size ≤ s9.heap.size + 0 := r8.2.2.1
  rw [hhp, b1] at hs1 hs2
  have hs3 : s.heap.size ≤ H.size := b5.1
  have hfr : ∀ q : Nat, q < s.heap.size → ¬ a ≤ q → t.heap[q]? = s.heap[q]? := fun q q1 q2 => by
    have h1 := r5.2 q (by rw [hhp]; omega) (fun z => by
      rcases z with z | z
      · omega
      · rw [hhp] at z
        omega)
    rw [h1, hhp]
    exact b5.2.1 q q1 q2
  refine ⟨t, st, o9, r1, r2, ⟨r3, Blk.reE (E := (E.1, a + L.length)) (E9 := E) rfl r4 (by show t.heap.size ≤ a + L.length; omega), by omega, ⟨by omega, hfr⟩⟩, locs ++ L9, ⟨⟨_, r3⟩, State.WarmedH.trans hW0 r7, ?_⟩, fun q hq => ?_⟩
  · subst hA
    have h2 : (T.setVm s.vm).sameButNew ({ t with vm := s.vm } : State) L9 0 0 := State.sameButNew.of_setFrames r8
    exact (Xs.same.trans h2).mono (by omega) (by omega)
  · rcases List.mem_append.mp hq with h | h
    · exact b5.2.2 q h
    · rcases r9 q h with z | z
      · exact z.1
      · rw [hhp] at z
        show a ≤ q.base
        omega
end GTAIL
