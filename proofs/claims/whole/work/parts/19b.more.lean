/-! ===== constructors: further cells under work ===== -/
section GROWT
variable {p : Program} {l : Launch} {e : Env} {R : Room} {s : State} {m : MethodId} {args : Array Value} {below : List Frame} {meth : Method} {c : Code} {H : Heap} {locs : List Loc} {cells slots : Nat} {Q : State → Prop}
variable {cc : ByteArray} {pc : Nat} {ls : Array Slot} {rest : List Value} {D : va_G} {E : bE} {own : String} {nL : Nat} {L : List bC} {a : Nat} {v : bM} {n ci : Nat} {fs : List Value} {hs : List (Nat × va_E)} {mc ms : Nat}
theorem g_get0 (X : bCx p s m args meth c own cc nL D E) (hB : gB D E L a v s n ci fs hs H locs) {N : Nat} {C : String} {T : u_T} {ty : Nat → FieldType} (hk : bKl ci C T N ty) (j : Nat) (hj : j < N) {y : Value} (hy : fs[j]? = some y) {index : Nat} (hw : Cond.fieldLink own index (T j).1 (T j).2.1 (T j).2.2.1 ∈ wAll) (hdg : decode cc pc = .ok (.getfield index, 3))
    (kk : W p l e R s m args below meth c H locs cells slots Q (F0 m (pc + 3) ls (y :: rest))) : W p l e R s m args below meth c H locs cells slots Q (F0 m pc ls (.ref a :: rest)) :=
  va_get X.1 X.2.1 (Ts := wAll) X.2.2.2.2.1 hk.2.1 X.2.2.2.1 X.2.2.2.2.2.1.1 (va_P.one hB.2.2.1) 0 rfl hk.1 j hj (X.2.2.2.2.1 _ hw) (fun _ h => h) hy hdg kk
theorem g_newB (X : bCx p s m args meth c own cc nL D E) (hB : gB D E L a v s n ci fs [] H locs) (hn0 : n ≠ 0) {m1 : Int32} {N : Nat} (hn : ¬ m1 < 0) (hN : m1.toNatClampNeg = N) (hb9 : N * componentBytes .byte ≤ 536870912) (hf : cells + 1 ≤ R.cells ∧ slots + N ≤ R.slots) (hdg : decode cc pc = .ok (.newarray .byte, 2))
    (kk : ∀ H1 : Heap, gB D E L a v s (n + 1) ci fs [(n, .inl (E.1.1 4, N, .inl (fun _ => 0)))] H1 locs → W p l e R s m args below meth c H1 locs (cells + 1) (slots + N) Q (F0 m (pc + 2) ls (.ref (a + n) :: rest))) : W p l e R s m args below meth c H locs cells slots Q (F0 m pc ls (.int m1 :: rest)) := by
  have hsz : H.size = a + n := hB.1
  refine va_newaK X.1 X.2.1 (atype := .byte) (X.2.2.2.2.1 _ wm_383) rfl hdg rfl hn hN hb9 hf.1 hf.2 hsz (fun H1 cA e1 z1 o1 _ hNm => ?_)
  have hcA : cA = E.1.1 4 := Option.some.inj (hNm.symm.trans (X.2.2.2.2.2.1.2.2.2.2.2.2.2 4 "[B" rfl))
  rw [hcA] at e1
  refine kk H1 (hB.grow (h9 := [(n, .inl (E.1.1 4, N, .inl (fun _ => 0)))]) (n1 := n + 1) (by omega) (by omega) (fun q hq => o1 q (by omega)) (fun k d hd1 h1 h2 h3 => ?_) (fun x hx => ?_))
  · exact absurd (h3 _ (List.mem_singleton.mpr rfl)) (by show ¬ n ≠ k; omega)
  · rw [List.mem_singleton.mp hx]
    refine ⟨hn0, ?_⟩
    show H1[a + n]? = some (vp_cell (E.1.1 4) (N, .inl (fun _ => 0)))
    rw [e1, vp_cell_i]
    rfl
theorem g_newq (X : bCx p s m args meth c own cc nL D E) (hB : gB D E L a v s n ci fs [] H locs) (hn0 : n ≠ 0) {m1 : Int32} {N : Nat} (hn : ¬ m1 < 0) (hN : m1.toNatClampNeg = N) (hb9 : N * 4 ≤ 536870912) {index : Nat} (hcl : Cond.classLink own index RX6 ∈ wAll) (hf : cells + 1 ≤ R.cells ∧ slots + N ≤ R.slots) (hdg : decode cc pc = .ok (.anewarray index, 3))
    (kk : ∀ H1 : Heap, gB D E L a v s (n + 1) ci fs [(n, .inl (E.1.1 3, N, .inr (.inr (.inr (.inr (fun _ => none))))))] H1 locs → W p l e R s m args below meth c H1 locs (cells + 1) (slots + N) Q (F0 m (pc + 3) ls (.ref (a + n) :: rest))) : W p l e R s m args below meth c H locs cells slots Q (F0 m pc ls (.int m1 :: rest)) := by
  subst hN
  have hsz : H.size = a + n := hB.1
  refine W.anew X.1 X.2.1 X.2.2.2.1 (X.2.2.2.2.1 _ hcl) (va_AO.use X.2.2.2.2.2.1.2.2.2.2.2.1) rfl hdg rfl hn hb9 hf.1 hf.2 fun cA kA comp f1 f2 f3 f4 => ?_
  have hcA : cA = E.1.1 3 := Option.some.inj (f1.symm.trans (X.2.2.2.2.2.1.2.2.2.2.2.2.2 3 "[LPennyBakery$State;" rfl))
  generalize hH1 : H.push ({ cls := cA, slots := Array.replicate m1.toNatClampNeg .null, vm := .none } : Cell) = H1
  have z1 : H1.size = H.size + 1 := by rw [← hH1, Array.size_push]
  have e1 : H1[H.size]? = some (arrV cA m1.toNatClampNeg (fun _ => .null)) := by rw [← hH1, Array.getElem?_push_size, ← arrV_new]
  have o1 : ∀ q : Nat, q < H.size → H1[q]? = H[q]? := fun q hq => by rw [← hH1, Array.getElem?_push, if_neg (Nat.ne_of_lt hq)]
  have hB1 : gB D E L a v s (n + 1) ci fs [(n, .inl (E.1.1 3, m1.toNatClampNeg, .inr (.inr (.inr (.inr (fun _ => none))))))] H1 locs := by
    refine hB.grow (h9 := [(n, .inl (E.1.1 3, m1.toNatClampNeg, .inr (.inr (.inr (.inr (fun _ => none))))))]) (n1 := n + 1) (by omega) (by omega) o1 (fun k d hd1 h1 h2 h3 => ?_) (fun x hx => ?_)
    · exact absurd (h3 _ (List.mem_singleton.mpr rfl)) (by show ¬ n ≠ k; omega)
    · rw [List.mem_singleton.mp hx]
      refine ⟨hn0, ?_⟩
      show H1[a + n]? = some (vp_cell (E.1.1 3) (m1.toNatClampNeg, .inr (.inr (.inr (.inr (fun _ => none))))))
      rw [vp_cell_q, ← hsz, e1, hcA]
      rfl
  have hk := kk H1 hB1
  rw [← hsz] at hk
  exact hk
theorem g_aast (X : bCx p s m args meth c own cc nL D E) {j N : Nat} {f : Nat → Option Nat} (hB : gB D E L a v s n ci fs [(j, .inl (E.1.1 3, N, .inr (.inr (.inr (.inr f)))))] H locs) (hT : (L.take n).all (fun d => match d with | .inl _ => true | .inr x => decide (x.1 < 9)) = true) {k : Nat} {o : List bF} (hk : L[k]? = some (.inl (10, o))) (hkn : k < n) (hk0 : k ≠ 0) (hkj : j ≠ k) {i : Int32} {i9 : Nat} (hi : i.toNatClampNeg = i9) (hin : vp_in i N) (hdg : decode cc pc = .ok (.aastore, 1))
    (kk : ∀ (H1 : Heap) (locs1 : List Loc), gB D E L a v s n ci fs [(j, .inl (E.1.1 3, N, .inr (.inr (.inr (.inr (va_up f i9 (some (a + k))))))))] H1 locs1 → W p l e R s m args below meth c H1 locs1 cells slots Q (F0 m (pc + 1) ls rest)) : W p l e R s m args below meth c H locs cells slots Q (F0 m pc ls (.ref (a + k) :: .int i :: .ref (a + j) :: rest)) := by
  subst hi
  have hK := X.2.2.2.2.2.1.1
  have hlt : i.toNatClampNeg < N := Nat.not_le.mp fun q => hin (Or.inr q)
  have h0 : ¬ i < 0 := fun q => hin (Or.inl q)
  have ha : va_at D vwCl (a + j, .inl (E.1.1 3, N, .inr (.inr (.inr (.inr f))))) H := (hB.2.2.2.1 _ (List.mem_singleton.mpr rfl)).2
  have hv : va_at D vwCl (a + k, .inr (10, o.map (bV a v))) H := hB.2.1 k _ hk hkn hk0 (fun x hx => by rw [List.mem_singleton.mp hx]; exact hkj)
  obtain ⟨r', hr', cellV, g1, g2, g3, -⟩ := hv
  have hcls := (hK.1 10 _ kl_X6.1).2
  obtain ⟨kA, comp, k1, k2, k3, -⟩ := (hK.2 3 (E.1.1 3, .object RX6) rfl).2
  have hcomp : comp = D.1 10 := Option.some.inj (k3.symm.trans hcls.1)
  subst hcomp
  obtain ⟨kC, hkC, -⟩ := hcls.2
  refine W.aast X.1 X.2.1 ha (fun q h => by cases h) (fun h => by cases h) k1 k2 rfl hkC ⟨h0, by show _ < (arrV _ _ _).slots.size; rw [arrV_size]; exact hlt⟩ g1 (fun q h => by rw [g3] at h; cases h) (by rw [g2]; exact hkC) (by rw [g2]; exact va_assign hcls) rfl rfl hdg fun H1 e z oq => ?_
  refine kk H1 _ (hB.putH hT z oq ?_ (hB.2.2.2.2.1.put z oq (by show a ≤ a + j; omega)))
  show H1[a + j]? = some (vp_cell _ _)
  rw [e, vp_cell_q, vp_cell_q, arrV_store]
  congr 2
  funext q
  by_cases hq : q = i.toNatClampNeg
  · subst hq
    simp [updV, va_up, va_rf]
  · simp [updV, va_up, hq]
theorem g_compact (X : bCx p s m args meth c own cc nL D E) (hB : gB D E L a v s n ci fs hs H locs) {index : Nat} (hw : Cond.fieldLink own index "java/lang/String" "COMPACT_STRINGS" "Z" ∈ wAll) (hdg : decode cc pc = .ok (.getstatic index, 3))
    (kk : W p l e R s m args below meth c H locs cells slots Q (F0 m (pc + 3) ls (.int 1 :: rest))) : W p l e R s m args below meth c H locs cells slots Q (F0 m pc ls rest) :=
  va_gets X.1 X.2.1 hB.2.2.2.2.2.2.2.2.1.1 hB.2.2.2.2.1 X.2.2.2.1 (X.2.2.2.2.1 _ hw) (fun _ h => h) hdg kk
end GROWT
/-! ===== a new StringBuilder ===== -/
def LSb : List bC := [.inr (9, 0, 0, 0), .inr (8, 0, 0, 0)]
theorem lenSb : LSb.length = 2 := rfl
theorem wfSb : bWf LSb := by unfold bWf; decide +kernel
theorem sb_end {D : va_G} {E : bE} {a : Nat} {v : bM} {s : State} {H : Heap} {locs : List Loc} (hB : gB D E LSb a v s 2 1 [.ref (a + 1), .int 0, .int 0, .int 0] [(1, .inl (E.1.1 4, 16, .inl (fun _ => 0)))] H locs) (hv : v 0 = 0) : Blk D E LSb a v H := by
  intro k d hd
  match k, hd with
  | 0, hd =>
    cases hd
    unfold bAt
    dsimp only
    rw [if_neg (by decide), if_neg (by decide)]
    exact ⟨a + 1, 16, fun _ => 0, 0, 0, hB.2.2.1, Or.inl rfl, (hB.2.2.2.1 _ (List.mem_singleton.mpr rfl)).2, Or.inl rfl, hv, by decide, by decide, by decide, sb_fit0, fun i hi => absurd hi (by omega)⟩
  | 1, hd =>
    cases hd
    unfold bAt
    dsimp only
    rw [if_neg (by decide), if_pos rfl]
    trivial
  | k + 2, hd => cases hd
