/-! ===== flat blocks: a run of cells a, a+1, .. that holds the numbers of a flat memory ===== -/
abbrev bM : Type := Nat → Int32
abbrev bF : Type := Nat × Nat
abbrev bC : Type := (Nat × List bF) ⊕ (Nat × Nat × Nat × Nat)
/-- the array classes, where the texts lie (the i-th: its object at i, its bytes at 100 + i), a bound: behind it a text's bytes may lie -/
abbrev bE : Type := ((Nat → ClassId) × (Nat → Nat)) × Nat
/-- the cell of the i-th state, counted from the bakery's own cell -/
def stC (i : Nat) : Nat := if i < 2 then 1 + 71 * i else if i < 10 then 145 + 71 * (i - 2) else 714 + 71 * (i - 10)
/-- a field: (0, o) the number at o; (1, k) the cell at k; (2, o) the state whose index is at o, or null -/
def bV (a : Nat) (v : bM) (f : bF) : Value := if f.1 = 0 then .int (v f.2) else if f.1 = 1 then .ref (a + f.2) else if v f.2 < 0 then .null else .ref (a + stC (v f.2).toNatClampNeg)
def bX (a : Nat) (v : bM) (q : Nat × Nat × Nat × Nat) : vp_A := if q.1 < 2 then (q.2.1, .inl (fun j => v (q.2.2.1 + j))) else (q.2.1, .inr (.inr (.inr (.inr (fun i => some (a + (q.2.2.1 + q.2.2.2 * i)))))))
/-- a StringBuilder at q that holds the text of v o bytes from o + 1 on -/
def bSB (D : va_G) (E : bE) (q : Nat) (v : bM) (o : Nat) (H : Heap) : Prop := ∃ (va cap : Nat) (arr : Nat → Int32) (ml : Int32) (n : Nat), va_at D vwCl (q, .inr (1, [.ref va, .int 0, .int ml, .int (nI n)])) H ∧ (ml = 0 ∨ ml = 1) ∧ va_at D vwCl (va, .inl (E.1.1 4, cap, .inl arr)) H ∧ (va = q + 1 ∨ E.2 ≤ va) ∧ v o = nI n ∧ n ≤ cap ∧ cap ≤ 1000 ∧ n ≤ 80 ∧ sb_Fit arr ∧ ∀ i, i < n → ∃ c : Nat, c < 128 ∧ v (o + 1 + i) = nI c ∧ arr i = sb_b c
def bAt (D : va_G) (E : bE) (a : Nat) (v : bM) (k : Nat) (d : bC) (H : Heap) : Prop := match d with
  | .inl o => va_at D vwCl (a + k, .inr (o.1, o.2.map (bV a v))) H
  | .inr q => if q.1 < 8 then va_at D vwCl (a + k, .inl (E.1.1 q.1, bX a v q)) H else if q.1 = 8 then True else bSB D E (a + k) v q.2.2.1 H
def Blk (D : va_G) (E : bE) (L : List bC) (a : Nat) (v : bM) (H : Heap) : Prop := ∀ (k : Nat) (d : bC), L[k]? = some d → bAt D E a v k d H
def bOs (fs : List bF) : List Nat := fs.filterMap (fun f => if f.1 = 1 then none else some f.2)
/-- the numbers that a cell holds: from where, how many -/
def bHull (d : bC) : Nat × Nat := match d with
  | .inl o => ((bOs o.2).headD 0, (bOs o.2).length)
  | .inr q => if q.1 < 2 then (q.2.2.1, q.2.1) else if q.1 < 9 then (0, 0) else (q.2.2.1, 81)
def bSrt : Nat → List (Nat × Nat) → Bool
  | _, [] => true
  | lo, r :: rs => if r.2 = 0 then bSrt lo rs else decide (lo ≤ r.1) && bSrt (r.1 + r.2) rs
def bOkC (d : bC) : Bool := match d with
  | .inl o => decide (bOs o.2 = List.range' (bHull d).1 (bHull d).2)
  | .inr _ => true
/-- behind a text's cell a cell of which nothing is said -/
def bHl : List bC → Bool
  | [] => true
  | .inl _ :: r => bHl r
  | .inr q :: r => (decide (q.1 < 9) || (match r with | .inr z :: _ => decide (z.1 = 8) | _ => false)) && bHl r
/-- the cells' numbers lie one behind another -/
def bWf (L : List bC) : Prop := bSrt 0 (L.map bHull) = true ∧ L.all bOkC = true ∧ bHl L = true
theorem bHl_at : ∀ (L : List bC) (i : Nat) (q : Nat × Nat × Nat × Nat), bHl L = true → L[i]? = some (.inr q) → ¬ q.1 < 9 → ∃ z : Nat × Nat × Nat × Nat, L[i + 1]? = some (.inr z) ∧ z.1 = 8
  | [], i, q, _, h, _ => by simp at h
  | .inl x :: r, i, q, hh, h, hq => by
    cases i with
    | zero => simp at h
    | succ i =>
      rw [List.getElem?_cons_succ] at h
      obtain ⟨z, h1, h2⟩ := bHl_at r i q hh h hq
      exact ⟨z, by rw [List.getElem?_cons_succ]; exact h1, h2⟩
  | .inr x :: r, i, q, hh, h, hq => by
    unfold bHl at hh
    rw [Bool.and_eq_true, Bool.or_eq_true] at hh
    cases i with
    | zero =>
      simp only [List.getElem?_cons_zero, Option.some.injEq, Sum.inr.injEq] at h
      subst h
      rcases hh.1 with g | g
      · exact absurd (of_decide_eq_true g) hq
      · cases r with
        | nil => cases g
        | cons y r =>
          cases y with
          | inl _ => cases g
          | inr z => exact ⟨z, rfl, of_decide_eq_true g⟩
    | succ i =>
      rw [List.getElem?_cons_succ] at h
      obtain ⟨z, h1, h2⟩ := bHl_at r i q hh.2 h hq
      exact ⟨z, by rw [List.getElem?_cons_succ]; exact h1, h2⟩
theorem bSrt_lo : ∀ (rs : List (Nat × Nat)) (lo k : Nat) (r : Nat × Nat), bSrt lo rs = true → rs[k]? = some r → r.2 ≠ 0 → lo ≤ r.1
  | [], _, k, r, _, h, _ => by simp at h
  | q :: rs, lo, k, r, hs, h, hr => by
    unfold bSrt at hs
    cases k with
    | zero =>
      simp only [List.getElem?_cons_zero, Option.some.injEq] at h
      subst h
      rw [if_neg hr] at hs
      simp only [Bool.and_eq_true, decide_eq_true_eq] at hs
      exact hs.1
    | succ k =>
      rw [List.getElem?_cons_succ] at h
      split at hs
      · exact bSrt_lo rs lo k r hs h hr
      · simp only [Bool.and_eq_true, decide_eq_true_eq] at hs
        have := bSrt_lo rs _ k r hs.2 h hr
        omega
theorem bSrt_lt : ∀ (rs : List (Nat × Nat)) (lo i j : Nat) (r q : Nat × Nat), bSrt lo rs = true → i < j → rs[i]? = some r → rs[j]? = some q → r.2 ≠ 0 → q.2 ≠ 0 → r.1 + r.2 ≤ q.1
  | [], _, i, j, r, q, _, _, h, _, _, _ => by simp at h
  | p :: rs, lo, i, j, r, q, hs, hij, h1, h2, hr, hq => by
    unfold bSrt at hs
    cases j with
    | zero => omega
    | succ j =>
      rw [List.getElem?_cons_succ] at h2
      cases i with
      | zero =>
        simp only [List.getElem?_cons_zero, Option.some.injEq] at h1
        subst h1
        rw [if_neg hr] at hs
        simp only [Bool.and_eq_true, decide_eq_true_eq] at hs
        exact bSrt_lo rs _ j q hs.2 h2 hq
      | succ i =>
        rw [List.getElem?_cons_succ] at h1
        split at hs
        · exact bSrt_lt rs lo i j r q hs (by omega) h1 h2 hr hq
        · simp only [Bool.and_eq_true, decide_eq_true_eq] at hs
          exact bSrt_lt rs _ i j r q hs.2 (by omega) h1 h2 hr hq
/-- x is one of the numbers of the cell -/
def bIn (d : bC) (x : Nat) : Prop := (bHull d).1 ≤ x ∧ x < (bHull d).1 + (bHull d).2
theorem bWf.apart {L : List bC} (hw : bWf L) {i j : Nat} {d e : bC} {x : Nat} (hi : L[i]? = some d) (hj : L[j]? = some e) (h : i ≠ j) (hd : bIn d x) : ¬ bIn e x := by
  intro he
  obtain ⟨d1, d2⟩ := hd
  obtain ⟨e1, e2⟩ := he
  have hi' : (L.map bHull)[i]? = some (bHull d) := by rw [List.getElem?_map, hi]; rfl
  have hj' : (L.map bHull)[j]? = some (bHull e) := by rw [List.getElem?_map, hj]; rfl
  rcases Nat.lt_or_gt_of_ne h with q | q
  · have := bSrt_lt _ 0 i j _ _ hw.1 q hi' hj' (by omega) (by omega)
    omega
  · have := bSrt_lt _ 0 j i _ _ hw.1 q hj' hi' (by omega) (by omega)
    omega
theorem bWf.fld {L : List bC} (hw : bWf L) {k : Nat} {o : Nat × List bF} (hk : L[k]? = some (.inl o)) {f : bF} (hf : f ∈ o.2) (h1 : f.1 ≠ 1) : bIn (.inl o) f.2 := by
  have hok : bOkC (.inl o) = true := List.all_eq_true.mp hw.2.1 _ (List.mem_of_getElem? hk)
  have he : bOs o.2 = List.range' (bHull (.inl o)).1 (bHull (.inl o)).2 := of_decide_eq_true hok
  have hm : f.2 ∈ bOs o.2 := List.mem_filterMap.mpr ⟨f, hf, by rw [if_neg h1]⟩
  rw [he] at hm
  have h2 := List.mem_range'_1.mp hm
  exact h2
theorem arrV_ext {c : ClassId} {n : Nat} {f g : Nat → Value} (h : ∀ j, j < n → f j = g j) : arrV c n f = arrV c n g := by
  unfold arrV
  congr 1
  apply Array.ext
  · simp
  · intro j h1 h2
    simp only [Array.getElem_ofFn]
    exact h j (by simpa using h1)
theorem bV_congr {a : Nat} {v w : bM} {f : bF} (h : f.1 ≠ 1 → v f.2 = w f.2) : bV a v f = bV a w f := by
  unfold bV
  split
  · rename_i h0; rw [h (by omega)]
  · split
    · rfl
    · rename_i h1; rw [h h1]
theorem bX_cell {c : ClassId} {a : Nat} {v w : bM} {q : Nat × Nat × Nat × Nat} (h : q.1 < 2 → ∀ j, j < q.2.1 → v (q.2.2.1 + j) = w (q.2.2.1 + j)) : vp_cell c (bX a v q) = vp_cell c (bX a w q) := by
  unfold bX
  split
  · rename_i h0
    rw [vp_cell_i, vp_cell_i]
    exact arrV_ext (fun j hj => by rw [h h0 j hj])
  · rfl
theorem bSB_congr {D : va_G} {E : bE} {q : Nat} {v w : bM} {o : Nat} {H : Heap} (h : ∀ x, o ≤ x → x < o + 81 → v x = w x) (hB : bSB D E q v o H) : bSB D E q w o H := by
  obtain ⟨va, cap, arr, ml, n, h1, h2, h3, h4, h5, h6, h7, h8, h9, h10⟩ := hB
  refine ⟨va, cap, arr, ml, n, h1, h2, h3, h4, ?_, h6, h7, h8, h9, fun i hi => ?_⟩
  · rw [← h o (Nat.le_refl _) (by omega)]; exact h5
  · obtain ⟨c, c1, c2, c3⟩ := h10 i hi
    exact ⟨c, c1, by rw [← h (o + 1 + i) (by omega) (by omega)]; exact c2, c3⟩
theorem bAt_congr {D : va_G} {E : bE} {L : List bC} {a : Nat} {v w : bM} {k : Nat} {d : bC} {H : Heap} (hw : bWf L) (hk : L[k]? = some d) (h : ∀ x, bIn d x → v x = w x) (hB : bAt D E a v k d H) : bAt D E a w k d H := by
  cases d with
  | inl o =>
    show va_at D vwCl (a + k, .inr (o.1, o.2.map (bV a w))) H
    rw [← List.map_congr_left (f := bV a v) (fun f hf => bV_congr (fun h1 => h _ (hw.fld hk hf h1)))]
    exact hB
  | inr q =>
    unfold bAt at hB ⊢
    dsimp only at hB ⊢
    split at hB
    · rename_i h8
      rw [if_pos h8]
      show H[a + k]? = some (vp_cell _ _)
      rw [← bX_cell (v := v) (fun h2 j hj => h _ ?_)]
      · exact hB
      · refine ⟨?_, ?_⟩ <;> simp only [bHull, if_pos h2] <;> omega
    · rename_i h8
      rw [if_neg h8]
      split at hB
      · rename_i h9
        rw [if_pos h9]
        trivial
      · rename_i h9
        rw [if_neg h9]
        refine bSB_congr (fun x h1 h2 => h x ?_) hB
        refine ⟨?_, ?_⟩ <;> simp only [bHull, if_neg (show ¬ q.1 < 2 by omega), if_neg (show ¬ q.1 < 9 by omega)] <;> omega
theorem bAt_kept {D : va_G} {E : bE} {a : Nat} {v : bM} {k : Nat} {d : bC} {H H1 : Heap} (hB : bAt D E a v k d H) (h1 : a + k < H.size → H1[a + k]? = H[a + k]?) (h2 : ∀ q : Nat, q < H.size → q = a + k + 1 ∨ E.2 ≤ q → (∃ x, d = .inr x ∧ ¬ x.1 < 9) → H1[q]? = H[q]?) : bAt D E a v k d H1 := by
  cases d with
  | inl o => exact va_at.kept (q := (a + k, .inr (o.1, o.2.map (bV a v)))) hB (h1 (va_at.lt (q := (a + k, .inr (o.1, o.2.map (bV a v)))) hB))
  | inr q =>
    unfold bAt at hB ⊢
    dsimp only at hB ⊢
    split at hB
    · rename_i h8
      rw [if_pos h8]
      exact va_at.kept (q := (a + k, .inl (E.1.1 q.1, bX a v q))) hB (h1 (va_at.lt (q := (a + k, .inl (E.1.1 q.1, bX a v q))) hB))
    · rename_i h8
      rw [if_neg h8]
      split at hB
      · rename_i h9
        rw [if_pos h9]
        trivial
      · rename_i h9
        rw [if_neg h9]
        obtain ⟨va, cap, arr, ml, n, b1, b2, b3, b4, b5⟩ := hB
        exact ⟨va, cap, arr, ml, n, va_at.kept (q := (a + k, _)) b1 (h1 (va_at.lt (q := (a + k, _)) b1)), b2, va_at.kept (q := (va, _)) b3 (h2 va (va_at.lt (q := (va, _)) b3) b4 ⟨q, rfl, by omega⟩), b4, b5⟩
