/-! ===== the words that the methods' functions are written in ===== -/
def nm {α β : Type} (x : α) (k : α → β) : β := k x
theorem nm_use {α β : Type} {x y : α} {k : α → β} {r : β} (h : nm x k = r) (e : y = x) : k y = r := by subst e; exact h
def ck {β : Type} (i : Int32) (n : Nat) (k : Option β) : Option β := if i < 0 ∨ n ≤ i.toNatClampNeg then none else k
theorem ck_some {β : Type} {i : Int32} {n : Nat} {k : Option β} {r : β} (h : ck i n k = some r) : vp_in i n ∧ k = some r := by
  unfold ck at h
  split at h
  · cases h
  · rename_i q
    exact ⟨q, h⟩
def cz {β : Type} (y : Int32) (k : Option β) : Option β := if y = 0 then none else k
theorem cz_some {β : Type} {y : Int32} {k : Option β} {r : β} (h : cz y k = some r) : ¬ y = 0 ∧ k = some r := by
  unfold cz at h
  split at h
  · cases h
  · rename_i q
    exact ⟨q, h⟩
def bnd {β : Type} (x : Option (Int32 × bM)) (k : Int32 → bM → Option β) : Option β := match x with
  | none => none
  | some y => k y.1 y.2
def bnr {α β : Type} (x : Option α) (k : α → Option β) : Option β := match x with
  | none => none
  | some y => k y
def bnw {β : Type} (x : Option bM) (k : bM → Option β) : Option β := match x with
  | none => none
  | some y => k y
theorem bnd_some {β : Type} {x : Option (Int32 × bM)} {k : Int32 → bM → Option β} {r : β} (h : bnd x k = some r) : ∃ (y : Int32) (w : bM), x = some (y, w) ∧ k y w = some r := by
  cases x with
  | none => cases h
  | some y => exact ⟨y.1, y.2, rfl, h⟩
theorem bnr_some {α β : Type} {x : Option α} {k : α → Option β} {r : β} (h : bnr x k = some r) : ∃ (y : α), x = some y ∧ k y = some r := by
  cases x with
  | none => cases h
  | some y => exact ⟨y, rfl, h⟩
theorem bnw_some {β : Type} {x : Option bM} {k : bM → Option β} {r : β} (h : bnw x k = some r) : ∃ (y : bM), x = some y ∧ k y = some r := by
  cases x with
  | none => cases h
  | some y => exact ⟨y, rfl, h⟩
def lp {α : Type} (b : α → α) (z : α) : Nat → α
  | 0 => z
  | n + 1 => b (lp b z n)
def lpN : Nat := 100000
theorem vp_lt {i : Int32} {n : Nat} (h : vp_in i n) : i.toNatClampNeg < n := Nat.not_le.mp fun q => h (Or.inr q)
def ckn {β : Type} (i n : Nat) (k : Option β) : Option β := if i < n then k else none
theorem ckn_some {β : Type} {i n : Nat} {k : Option β} {r : β} (h : ckn i n k = some r) : i < n ∧ k = some r := by
  unfold ckn at h
  split at h
  · rename_i q
    exact ⟨q, h⟩
  · cases h
theorem vp_c (i : Int32) (n : Nat) (h : (decide (i < 0) || decide (n ≤ i.toNatClampNeg)) = false) : vp_in i n := by
  rw [Bool.or_eq_false_iff, decide_eq_false_iff_not, decide_eq_false_iff_not] at h
  exact fun q => q.elim h.1 h.2
theorem sw_out (x : Int32) {lo hi : Int} (hlo : -2147483648 ≤ lo) (cs : List Int32) (hcs : (List.range (hi + 1 - lo).toNat).all (fun i => decide (Int32.ofInt (lo + i) ∈ cs)) = true) (h : ∀ c ∈ cs, ¬ x = c) : x.toInt < lo ∨ hi < x.toInt := by
  by_cases h1 : x.toInt < lo
  · exact Or.inl h1
  · by_cases h2 : hi < x.toInt
    · exact Or.inr h2
    · exfalso
      have hm := List.all_eq_true.mp hcs (x.toInt - lo).toNat (List.mem_range.mpr (by omega))
      have hm := of_decide_eq_true hm
      rw [show lo + ((x.toInt - lo).toNat : Int) = x.toInt by omega] at hm
      refine h _ hm ?_
      exact (Int32.ofInt_toInt x).symm
theorem mvA (n : Nat) : (LA n).all (bMv n) = true := by
  show (bMv n (.inr (0, n, 0, 0)) && true) = true
  have e : bHull (.inr (0, n, 0, 0)) = (0, n) := rfl
  unfold bMv
  rw [e]
  simp
theorem bSub_arr {L : List bC} (hw : bWf L) {k n off : Nat} (hn : 0 < n) (hd : L[k]? = some (.inr (0, n, off, 0))) : bSub L k off n (LA n) := by
  have hl := (List.getElem?_eq_some_iff.mp hd).1
  have key : ∀ (i : Nat) (d : bC), L[i]? = some d → i ≠ k → bOff off n d = true := by
    intro i d hi hne
    unfold bOff
    rw [Bool.or_eq_true, Bool.or_eq_true, decide_eq_true_eq, decide_eq_true_eq, decide_eq_true_eq]
    by_cases h0 : (bHull d).2 = 0
    · exact Or.inl (Or.inl h0)
    · have h5 : ∀ x, bIn d x → ¬ bIn (.inr (0, n, off, 0)) x := fun x hx => hw.apart hi hd hne hx
      have e1 : bHull (.inr (0, n, off, 0)) = (off, n) := rfl
      have h6 := h5 (bHull d).1 ⟨Nat.le_refl _, by omega⟩
      have h7 := h5 off
      unfold bIn at h6 h7
      rw [e1] at h6 h7
      dsimp only at h6 h7
      by_cases h8 : (bHull d).1 < off
      · refine Or.inl (Or.inr ?_)
        rcases Nat.lt_or_ge off ((bHull d).1 + (bHull d).2) with h9 | h9
        · exact absurd ⟨Nat.le_refl _, by omega⟩ (h7 ⟨by omega, h9⟩)
        · exact h9
      · exact Or.inr (by omega)
  refine ⟨?_, mvA n, ?_, ?_, by show k + 1 ≤ _; omega, wfA n⟩
  · show (L.drop k).take 1 = [_]
    rw [List.drop_eq_getElem_cons hl]
    rw [List.getElem?_eq_getElem hl] at hd
    rw [Option.some.inj hd]
    rfl
  · refine List.all_eq_true.mpr fun d hd2 => ?_
    obtain ⟨i, hi⟩ := List.getElem?_of_mem hd2
    rw [List.getElem?_take] at hi
    split at hi
    · exact key i d hi (by omega)
    · cases hi
  · refine List.all_eq_true.mpr fun d hd2 => ?_
    obtain ⟨i, hi⟩ := List.getElem?_of_mem hd2
    rw [List.getElem?_drop] at hi
    exact key _ d hi (by show k + 1 + i ≠ k; omega)
theorem stC_2 : ∀ j, j < 8 → 145 + 71 * j = stC (2 + j) := by
  intro j hj
  unfold stC
  rw [if_neg (by omega), if_pos (by omega)]
  omega
theorem stC_10 : ∀ j, j < 2 → 714 + 71 * j = stC (10 + j) := by
  intro j hj
  unfold stC
  rw [if_neg (by omega), if_neg (by omega)]
  omega
theorem bApSh {fs : List bF} {k o0 o : Nat} (h : (fs.filter (fun g => decide (g.1 ≠ 1) && decide (g.2 = o))).length = 1) : ((fs.map (bShF k o0)).filter (fun g => decide (g.1 ≠ 1) && decide (g.2 = o0 + o))).length = 1 := by
  rw [List.filter_map, List.length_map]
  have e : (fs.filter ((fun g : bF => decide (g.1 ≠ 1) && decide (g.2 = o0 + o)) ∘ bShF k o0)) = fs.filter (fun g => decide (g.1 ≠ 1) && decide (g.2 = o)) := by
    refine List.filter_congr (fun g _ => ?_)
    simp only [Function.comp, bShF]
    by_cases h1 : g.1 = 1
    · simp [h1]
    · simp [h1]
  rw [e]
  exact h
theorem lrX {L Ly : List bC} {k o mm r j : Nat} {d : bC} (hs : bSub L k o mm Ly) (h : Ly[r + 1 * j]? = some d) : L[k + r + 1 * j]? = some (bSh k o d) := by
  rw [Nat.add_assoc]
  exact hs.at h
section MATH
variable {p : Program} {l : Launch} {e : Env} {R : Room} {s : State} {m : MethodId} {args : Array Value} {below : List Frame} {meth : Method} {c : Code} {H : Heap} {locs : List Loc} {cells slots : Nat} {Q : State → Prop}
variable {cc : ByteArray} {pc : Nat} {ls : Array Slot} {rest : List Value} {D : va_G} {E : bE} {own : String} {nL : Nat}
theorem bk_sldX {L : List bC} {a : Nat} {v : bM} (X : bCx p s m args meth c own cc nL D E) (hB : bB D E L a v s H locs) (k : Nat) {n off st : Nat} (hd : L[k]? = some (.inr (3, n, off, st))) (base : Nat) (hst : ∀ j, j < n → off + st * j = stC (base + j)) {i : Int32} (hin : vp_in i n) (hdg : decode cc pc = .ok (.aaload, 1))
    (kk : W p l e R s m args below meth c H locs cells slots Q (F0 m (pc + 1) ls (.ref (a + stC (base + i.toNatClampNeg)) :: rest))) : W p l e R s m args below meth c H locs cells slots Q (F0 m pc ls (.int i :: .ref (a + k) :: rest)) := by
  refine bk_sld X hB k hd hin hdg ?_
  rw [hst _ (vp_lt hin)]
  exact kk
theorem bk_min (X : bCx p s m args meth c own cc nL D E) (hz : ls.size = nL) {index : Nat} (hw : Cond.methodLink own index Lib.Math.min.name ∈ wAll) (hR : 1 ≤ R.frames ∧ (rest.map fun v => v.category).sum + 13 ≤ R.locals) (hf : cells ≤ R.cells ∧ slots ≤ R.slots) {x y : Int32} (hdg : decode cc pc = .ok (.invokestatic index, 3))
    (kk : W p l e R s m args below meth c H locs cells slots Q (F0 m (pc + 3) ls (.int (if y < x then y else x) :: rest))) : W p l e R s m args below meth c H locs cells slots Q (F0 m pc ls (.int y :: .int x :: rest)) :=
  va_mmin X.1 X.2.1 (X.2.2.1.trans hz.symm) X.2.2.2.1 (X.2.2.2.2.1 _ hw) (X.2.2.2.2.1 _ wm_490) (X.2.2.2.2.1 _ wm_16) (X.2.2.2.2.1 _ wm_491) hR.1 hR.2 hf.1 hf.2 hdg kk
theorem bk_max (X : bCx p s m args meth c own cc nL D E) (hz : ls.size = nL) {index : Nat} (hw : Cond.methodLink own index Lib.Math.max.name ∈ wAll) (hR : 1 ≤ R.frames ∧ (rest.map fun v => v.category).sum + 13 ≤ R.locals) (hf : cells ≤ R.cells ∧ slots ≤ R.slots) {x y : Int32} (hdg : decode cc pc = .ok (.invokestatic index, 3))
    (kk : W p l e R s m args below meth c H locs cells slots Q (F0 m (pc + 3) ls (.int (if x < y then y else x) :: rest))) : W p l e R s m args below meth c H locs cells slots Q (F0 m pc ls (.int y :: .int x :: rest)) :=
  va_mmax X.1 X.2.1 (X.2.2.1.trans hz.symm) X.2.2.2.1 (X.2.2.2.2.1 _ hw) (X.2.2.2.2.1 _ wm_629) (X.2.2.2.2.1 _ wm_16) (X.2.2.2.2.1 _ wm_630) hR.1 hR.2 hf.1 hf.2 hdg kk
theorem bk_abs (X : bCx p s m args meth c own cc nL D E) (hz : ls.size = nL) {index : Nat} (hw : Cond.methodLink own index Lib.Math.abs.name ∈ wAll) (hR : 1 ≤ R.frames ∧ (rest.map fun v => v.category).sum + 13 ≤ R.locals) (hf : cells ≤ R.cells ∧ slots ≤ R.slots) {x : Int32} (hdg : decode cc pc = .ok (.invokestatic index, 3))
    (kk : W p l e R s m args below meth c H locs cells slots Q (F0 m (pc + 3) ls (.int (if 0 ≤ x then x else 0 - x) :: rest))) : W p l e R s m args below meth c H locs cells slots Q (F0 m pc ls (.int x :: rest)) :=
  va_mabs X.1 X.2.1 (X.2.2.1.trans hz.symm) X.2.2.2.1 (X.2.2.2.2.1 _ hw) (X.2.2.2.2.1 _ wm_865) (X.2.2.2.2.1 _ wm_16) (X.2.2.2.2.1 _ wm_866) hR.1 hR.2 hf.1 hf.2 hdg kk
end MATH
