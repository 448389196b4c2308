/-! ===== layer 2: the order of the kinds ===== -/
def qpl (g : Nat → Int32) (k : Nat) : Int32 := qS (fun o => if g k < g o ∨ g o = g k ∧ o < k then 1 else 0) 5
def qfi (P : Nat → Int32) (p : Int32) : Nat → Nat → Int32
  | 0, _ => -1
  | m + 1, i => if P i = p then nI i else qfi P p m (i + 1)
theorem q_gb_sub {x y : Int32} (hx : q_gb x) (hy : q_gb y) : (x - y).toInt = x.toInt - y.toInt := by
  unfold q_gb at hx hy
  rw [Int32.toInt_sub]
  exact Int.bmod_eq_of_le (by omega) (by omega)
theorem q_gb_pos {x y : Int32} (hx : q_gb x) (hy : q_gb y) : 0 < x - y ↔ y < x := by
  rw [Int32.lt_iff_toInt_lt, Int32.lt_iff_toInt_lt, q_gb_sub hx hy, show (0 : Int32).toInt = 0 from by decide]
  omega
theorem q_sub0 {x y : Int32} : x - y = 0 ↔ x = y := by
  constructor
  · intro h
    have : x = (x - y) + y := by grind
    rw [this, h, Int32.zero_add]
  · intro h
    rw [h, Int32.sub_self]
section
variable {T nf nb nt no : Nat} {Ls : Nat → List (Nat × Nat)} {r c u : bM}
theorem c_placeOfKind (h : q_S T nf nb nt no Ls r c) {t k : Nat} (ht : t < nt) (hk : k < 5) : fX0_placeOfKind (nI t) (nI k) (vw c 277) = some (qpl (fun o => r (238 + 11 * t + o)) k) := by
  have h1 := h.hnt
  have e : ∀ o, o < 5 → vw c 277 (193 + 5 * t + o) = r (238 + 11 * t + o) := fun o ho => (q_at (by omega)).trans (h.ctg t o ht ho)
  unfold fX0_placeOfKind
  rw [q_ck (by omega) (by decide), q_l0]
  rw [q_sum some (fun o => if r (238 + 11 * t + k) < r (238 + 11 * t + o) ∨ r (238 + 11 * t + o) = r (238 + 11 * t + k) ∧ o < k then 1 else 0) 5 (by decide) (fun K y => by
    unfold fX0_placeOfKind_L13
    rw [q_l4, if_pos (nI_lt (by decide) (by decide))]) (fun K y i hi => by
    unfold fX0_placeOfKind_L13 fX0_placeOfKind_J45 fX0_placeOfKind_J48
    rw [q_l4, if_neg (nI_nlt (show i ≤ 4 by omega) (by decide)), q_ck hi (by decide), q_ck hk (by decide), q_ck hi (by decide), q_ck hk (by decide), nI_clamp (show t < 2 ^ 31 by omega), nI_clamp (show i < 2 ^ 31 by omega), nI_clamp (show k < 2 ^ 31 by omega), e i hi, e k hk, q_nm, q_nm, q_nm, q_add1]
    by_cases h2 : r (238 + 11 * t + k) < r (238 + 11 * t + i)
    · rw [if_pos h2, if_pos (Or.inl h2)]
    · rw [if_neg h2]
      by_cases h3 : r (238 + 11 * t + i) = r (238 + 11 * t + k)
      · rw [if_pos h3]
        by_cases h4 : i < k
        · rw [if_neg (nI_ge h4 (by omega)), if_pos (Or.inr ⟨h3, h4⟩)]
        · rw [if_pos (nI_le (by omega) (by omega)), if_neg (fun q => q.elim h2 (fun q => h4 q.2)), Int32.add_zero]
      · rw [if_neg h3, if_neg (fun q => q.elim h2 (fun q => h3 q.1)), Int32.add_zero])]
  rw [← q_l0, Int32.zero_add]
  rfl
theorem c_kindInPlace (h : q_S T nf nb nt no Ls r c) {t : Nat} (ht : t < nt) (p : Int32) : fX0_kindInPlace (nI t) p (vw c 277) = some (qfi (qpl (fun o => r (238 + 11 * t + o))) p 5 0) := by
  have key := q_for (F := fX0_kindInPlace_L2 (nI t) p (vw c 277)) (z := fun _ => none) (n := 5) (Sp := fun i K => K (nI i) = some (qfi (qpl (fun o => r (238 + 11 * t + o))) p (5 - i) i)) (fun K => by
    unfold fX0_kindInPlace_L2
    rw [q_l4, if_pos (nI_lt (by decide) (by decide))]
    rfl) (fun i K hi hK => by
    have e3 : qfi (qpl (fun o => r (238 + 11 * t + o))) p (5 - i) i = if qpl (fun o => r (238 + 11 * t + o)) i = p then nI i else qfi (qpl (fun o => r (238 + 11 * t + o))) p (5 - (i + 1)) (i + 1) := by
      rw [show 5 - i = (5 - (i + 1)) + 1 by omega]
      rfl
    unfold fX0_kindInPlace_L2
    rw [q_l4, if_neg (nI_nlt (show i ≤ 4 by omega) (by decide)), c_placeOfKind h ht hi, q_bnr, e3, q_nm, q_add1, hK]
    split <;> rfl) lpN 0 (by decide) (q_lpN _ (by decide))
  unfold fX0_kindInPlace
  exact key
theorem r_kindsBefore (h : q_S T nf nb nt no Ls (vw u 710) c) {t k : Nat} (ht : t < nt) (hk : k < 5) : fX9_kindsBefore (nI t) (nI k) u = some (qpl (fun o => vw u 710 (238 + 11 * t + o)) k) := by
  have h1 := h.hnt
  unfold fX9_kindsBefore
  rw [q_l0]
  rw [q_sum some (fun o => if vw u 710 (238 + 11 * t + k) < vw u 710 (238 + 11 * t + o) ∨ vw u 710 (238 + 11 * t + o) = vw u 710 (238 + 11 * t + k) ∧ o < k then 1 else 0) 5 (by decide) (fun K y => by
    unfold fX9_kindsBefore_L5
    rw [q_l5, if_pos (Int32.le_refl _)]) (fun K y i hi => by
    have f0 : fX9_flag 0 = some 0 := rfl
    have f1 : fX9_flag 1 = some 1 := rfl
    have g1 := h.rgp t i ht hi
    have g2 := h.rgp t k ht hk
    unfold fX9_kindsBefore_L5 fX9_kindsBefore_J50 fX9_kindsBefore_J54 fX9_kindsBefore_J55
    rw [q_l5, if_neg (nI_ge hi (by omega)), r_batchG (by omega) hi, q_bnr, r_batchG (by omega) hk, q_bnr, q_nm, f0, f1, q_bnr, q_bnr, q_nm, q_nm, q_nm, q_nm, q_add1]
    generalize vw u 710 (238 + 11 * t + i) = a at *
    generalize vw u 710 (238 + 11 * t + k) = b at *
    by_cases h2 : b < a
    · rw [if_pos ((q_gb_pos g1 g2).mpr h2), if_pos (Or.inl h2)]
    · rw [if_neg (fun q => h2 ((q_gb_pos g1 g2).mp q))]
      by_cases h3 : a = b
      · rw [if_pos (q_sub0.mpr h3)]
        by_cases h4 : i < k
        · rw [if_neg (nI_ge h4 (by omega)), if_pos (Or.inr ⟨h3, h4⟩)]
        · rw [if_pos (nI_le (by omega) (by omega)), if_neg (fun q => q.elim h2 (fun q => h4 q.2))]
      · rw [if_neg (fun q => h3 (q_sub0.mp q)), if_neg (fun q => q.elim h2 (fun q => h3 q.1))])]
  rw [← q_l0, Int32.zero_add]
  rfl
theorem r_kindAt (h : q_S T nf nb nt no Ls (vw u 710) c) {t : Nat} (ht : t < nt) (p : Int32) : lp (fX9_kindAt_L12 (nI t) p) (fun _ _ => none) lpN 0 u = some (qfi (qpl (fun o => vw u 710 (238 + 11 * t + o))) p 5 0, u) := by
  exact q_for (F := fX9_kindAt_L12 (nI t) p) (z := fun _ _ => none) (n := 5) (Sp := fun i K => K (nI i) u = some (qfi (qpl (fun o => vw u 710 (238 + 11 * t + o))) p (5 - i) i, u)) (fun K => by
    unfold fX9_kindAt_L12
    rw [q_l5, if_pos (Int32.le_refl _)]
    rfl) (fun i K hi hK => by
    have e3 : qfi (qpl (fun o => vw u 710 (238 + 11 * t + o))) p (5 - i) i = if qpl (fun o => vw u 710 (238 + 11 * t + o)) i = p then nI i else qfi (qpl (fun o => vw u 710 (238 + 11 * t + o))) p (5 - (i + 1)) (i + 1) := by
      rw [show 5 - i = (5 - (i + 1)) + 1 by omega]
      rfl
    unfold fX9_kindAt_L12
    rw [q_l5, if_neg (nI_ge hi (by decide)), r_kindsBefore h ht hi, q_bnr, e3, q_nm, q_add1, hK]
    split <;> rfl) lpN 0 (by decide) (q_lpN _ (by decide))
end
