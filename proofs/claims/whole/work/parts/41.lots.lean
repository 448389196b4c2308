/-! ===== layer 2: the lots of a flour: (units, paid) ===== -/
def qU (L : List (Nat × Nat)) : Int32 := qM (fun x => nI x.1) L
def qV (L : List (Nat × Nat)) : Int32 := qM (fun x => nI x.1 * nI x.2) L
/-- paid for the next w units -/
def qW : Nat → List (Nat × Nat) → Nat
  | _, [] => 0
  | w, x :: t => (if x.1 < w then x.1 else w) * x.2 + qW (w - (if x.1 < w then x.1 else w)) t
/-- the lots after w units are gone -/
def qD : Nat → List (Nat × Nat) → List (Nat × Nat)
  | _, [] => []
  | w, x :: t => if x.1 ≤ w then qD (w - x.1) t else (x.1 - w, x.2) :: t
def qUn : List (Nat × Nat) → Nat
  | [] => 0
  | x :: t => x.1 + qUn t
def q_lo (L : List (Nat × Nat)) : Prop := L.length ≤ 12 ∧ ∀ x, x ∈ L → 1 ≤ x.1 ∧ x.1 ≤ 99 ∧ 1 ≤ x.2 ∧ x.2 ≤ 99
theorem qU_n (L : List (Nat × Nat)) : qU L = nI (qUn L) := by
  induction L with
  | nil => rfl
  | cons x t ih =>
    show nI x.1 + qU t = nI (x.1 + qUn t)
    rw [ih, nI_add]
theorem qUn_le {L : List (Nat × Nat)} (h : ∀ x, x ∈ L → x.1 ≤ 99) : qUn L ≤ 99 * L.length := by
  induction L with
  | nil => exact Nat.le_refl _
  | cons x t ih =>
    show x.1 + qUn t ≤ 99 * (t.length + 1)
    have := ih (fun y hy => h y (List.mem_cons_of_mem _ hy))
    have := h x List.mem_cons_self
    omega
theorem qW_le {L : List (Nat × Nat)} (h : ∀ x, x ∈ L → x.2 ≤ 99) : ∀ w, qW w L ≤ 99 * w := by
  induction L with
  | nil => intro w; exact Nat.zero_le _
  | cons x t ih =>
    intro w
    show (if x.1 < w then x.1 else w) * x.2 + qW (w - (if x.1 < w then x.1 else w)) t ≤ 99 * w
    have h1 := h x List.mem_cons_self
    have hm : (if x.1 < w then x.1 else w) ≤ w := by split <;> omega
    generalize (if x.1 < w then x.1 else w) = m at hm ⊢
    have h2 := ih (fun y hy => h y (List.mem_cons_of_mem _ hy)) (w - m)
    have h3 : m * x.2 ≤ m * 99 := Nat.mul_le_mul_left m h1
    omega
theorem qW_0 (L : List (Nat × Nat)) : qW 0 L = 0 := by
  have h := fun (t : List (Nat × Nat)) => t
  induction L with
  | nil => rfl
  | cons x t ih =>
    show (if x.1 < 0 then x.1 else 0) * x.2 + qW (0 - (if x.1 < 0 then x.1 else 0)) t = 0
    rw [if_neg (Nat.not_lt_zero _), Nat.zero_mul, Nat.zero_add]
    exact ih
theorem qD_0 {L : List (Nat × Nat)} (h : ∀ x, x ∈ L → 1 ≤ x.1) : qD 0 L = L := by
  cases L with
  | nil => rfl
  | cons x t =>
    show (if x.1 ≤ 0 then qD (0 - x.1) t else (x.1 - 0, x.2) :: t) = x :: t
    rw [if_neg (by have := h x List.mem_cons_self; omega)]
    rfl
theorem qD_mem {L : List (Nat × Nat)} : ∀ {w : Nat} {y : Nat × Nat}, y ∈ qD w L → ∃ x ∈ L, y.1 ≤ x.1 ∧ y.2 = x.2 ∧ (1 ≤ x.1 → 1 ≤ y.1) := by
  induction L with
  | nil => intro w y h; cases h
  | cons x t ih =>
    intro w y h
    unfold qD at h
    by_cases hx : x.1 ≤ w
    · rw [if_pos hx] at h
      obtain ⟨z, hz, h2⟩ := ih h
      exact ⟨z, List.mem_cons_of_mem _ hz, h2⟩
    · rw [if_neg hx] at h
      rcases List.mem_cons.mp h with e | e
      · exact ⟨x, List.mem_cons_self, by rw [e]; exact Nat.sub_le _ _, by rw [e], by intro _; rw [e]; show 1 ≤ x.1 - w; omega⟩
      · exact ⟨y, List.mem_cons_of_mem _ e, Nat.le_refl _, rfl, id⟩
theorem qD_len (L : List (Nat × Nat)) : ∀ w : Nat, (qD w L).length ≤ L.length := by
  induction L with
  | nil => intro w; exact Nat.le_refl _
  | cons x t ih =>
    intro w
    show (if x.1 ≤ w then qD (w - x.1) t else (x.1 - w, x.2) :: t).length ≤ t.length + 1
    by_cases hx : x.1 ≤ w
    · rw [if_pos hx]
      have := ih (w - x.1)
      omega
    · rw [if_neg hx]
      exact Nat.le_refl _
theorem q_loD {L : List (Nat × Nat)} (h : q_lo L) (w : Nat) : q_lo (qD w L) := by
  refine ⟨Nat.le_trans (qD_len L w) h.1, fun y hy => ?_⟩
  obtain ⟨x, hx, h1, h2, h3⟩ := qD_mem hy
  obtain ⟨g1, g2, g3, g4⟩ := h.2 x hx
  exact ⟨h3 g1, by omega, by omega, by omega⟩
theorem qD_D {L : List (Nat × Nat)} (h : ∀ x, x ∈ L → 1 ≤ x.1) : ∀ w, qD 1 (qD w L) = qD (w + 1) L := by
  induction L with
  | nil => intro w; rfl
  | cons x t ih =>
    intro w
    have ht : ∀ y, y ∈ t → 1 ≤ y.1 := fun y hy => h y (List.mem_cons_of_mem _ hy)
    have e1 : qD w (x :: t) = if x.1 ≤ w then qD (w - x.1) t else (x.1 - w, x.2) :: t := rfl
    have e2 : qD (w + 1) (x :: t) = if x.1 ≤ w + 1 then qD (w + 1 - x.1) t else (x.1 - (w + 1), x.2) :: t := rfl
    by_cases hx : x.1 ≤ w
    · rw [e1, e2, if_pos hx, if_pos (by omega), ih ht, show w - x.1 + 1 = w + 1 - x.1 by omega]
    · rw [e1, e2, if_neg hx]
      show (if x.1 - w ≤ 1 then qD (1 - (x.1 - w)) t else (x.1 - w - 1, x.2) :: t) = _
      by_cases h2 : x.1 ≤ w + 1
      · rw [if_pos (by omega), if_pos h2, show 1 - (x.1 - w) = 0 by omega, show w + 1 - x.1 = 0 by omega]
      · rw [if_neg (by omega), if_neg h2, show x.1 - w - 1 = x.1 - (w + 1) by omega]
/-- one more unit: the price of the first lot that is left -/
theorem qW_D {L : List (Nat × Nat)} (h : ∀ x, x ∈ L → 1 ≤ x.1) : ∀ w, w < qUn L → ∃ y t, qD w L = y :: t ∧ qW (w + 1) L = qW w L + y.2 := by
  induction L with
  | nil => intro w hw; exact absurd hw (Nat.not_lt_zero _)
  | cons x t ih =>
    intro w hw
    have hw : w < x.1 + qUn t := hw
    have ht : ∀ y, y ∈ t → 1 ≤ y.1 := fun y hy => h y (List.mem_cons_of_mem _ hy)
    have hx1 := h x List.mem_cons_self
    have e1 : qD w (x :: t) = if x.1 ≤ w then qD (w - x.1) t else (x.1 - w, x.2) :: t := rfl
    have e3 : ∀ w, qW w (x :: t) = (if x.1 < w then x.1 else w) * x.2 + qW (w - (if x.1 < w then x.1 else w)) t := fun _ => rfl
    by_cases hx : x.1 ≤ w
    · obtain ⟨y, t9, g1, g2⟩ := ih ht (w - x.1) (by omega)
      refine ⟨y, t9, by rw [e1, if_pos hx, g1], ?_⟩
      rw [e3, e3, if_pos (show x.1 < w + 1 by omega)]
      by_cases h9 : x.1 < w
      · rw [if_pos h9, show w + 1 - x.1 = w - x.1 + 1 by omega, g2]
        omega
      · have e9 : x.1 = w := by omega
        rw [if_neg h9, show w + 1 - x.1 = w - x.1 + 1 by omega, g2, show w - w = w - x.1 by omega, ← e9]
        omega
    · refine ⟨(x.1 - w, x.2), t, by rw [e1, if_neg hx], ?_⟩
      rw [e3, e3, if_neg (show ¬ x.1 < w + 1 by omega), if_neg (show ¬ x.1 < w by omega), Nat.sub_self, Nat.sub_self, qW_0, Nat.add_mul, Nat.one_mul]
      rfl
/-! the lots in the class' block of flours (169 numbers) and in the reference's row -/
def q_2 (c : bM) (f : Nat) (L : List (Nat × Nat)) : Prop := c (7 + f) = nI L.length ∧ ∀ (l : Nat) (x : Nat × Nat), L[l]? = some x → c (13 + 12 * f + l) = nI x.1 ∧ c (85 + 12 * f + l) = nI x.2
def q_9 (r : bM) (f : Nat) (L : List (Nat × Nat)) : Prop := r (41 + 28 * f) = nI L.length ∧ ∀ (l : Nat) (x : Nat × Nat), L[l]? = some x → r (44 + 28 * f + 2 * l) = nI x.1 ∧ r (45 + 28 * f + 2 * l) = nI x.2
theorem q_ix {α : Type} {L : List α} {l : Nat} {x : α} (h : L[l]? = some x) : l < L.length := (List.getElem?_eq_some_iff.mp h).1
theorem c_sumOfL {N : Nat} {c : bM} {L : List (Nat × Nat)} (hN : N < 100000) (hL : L.length ≤ N) (h : ∀ (l : Nat) (x : Nat × Nat), L[l]? = some x → c l = nI x.1) : fX8_sumOf N (nI L.length) c = some (qU L) := by
  unfold fX8_sumOf
  rw [q_l0]
  rw [q_sumL some (fun x : Nat × Nat => nI x.1) L (by omega) (fun K y => by unfold fX8_sumOf_L4; rw [if_pos (Int32.le_refl _)]) (fun K y i x hx => by
    have hi := q_ix hx
    unfold fX8_sumOf_L4
    rw [if_neg (nI_ge hi (by omega)), q_ck (by omega) (by omega), nI_clamp (by omega), Nat.zero_add, h i x hx, q_nm, q_nm, q_add1])]
  rw [← q_l0, Int32.zero_add]
  rfl
theorem c_stock {c : bM} {f : Nat} {L : List (Nat × Nat)} (hf : f < 6) (hL : L.length ≤ 12) (h : q_2 c f L) : fX2_stock (nI f) c = some (qU L) := by
  unfold fX2_stock
  rw [q_ck hf (by decide), q_ck hf (by decide), nI_clamp (by omega), h.1, c_sumOfL (c := vw c (13 + 12 * f)) (by decide) hL (fun l x hx => (h.2 l x hx).1)]
  rfl
theorem c_sumOf {N n : Nat} {c : bM} (hN : N < 100000) (hL : n ≤ N) : fX8_sumOf N (nI n) c = some (qS (fun i => c i) n) := by
  unfold fX8_sumOf
  rw [q_l0]
  rw [q_sum some (fun i => c i) n (by omega) (fun K y => by unfold fX8_sumOf_L4; rw [if_pos (Int32.le_refl _)]) (fun K y i hi => by
    unfold fX8_sumOf_L4
    rw [if_neg (nI_ge hi (by omega)), q_ck (by omega) (by omega), nI_clamp (by omega), Nat.zero_add, q_nm, q_nm, q_add1])]
  rw [← q_l0, Int32.zero_add]
theorem c_paid {c : bM} {f w : Nat} {L : List (Nat × Nat)} (hf : f < 6) (hw : w < 2 ^ 30) (hL : q_lo L) (h : q_2 c f L) : fX2_paidForNext (nI f) (nI w) c = some (nI (qW w L)) := by
  have hl := hL.1
  have key := q_for (F := fX2_paidForNext_L8 (nI f) c) (z := fun _ _ _ => none) (n := L.length) (Sp := fun i K => ∀ (y w : Nat), w < 2 ^ 30 → K (nI y) (nI w) (nI i) = some (nI (y + qW w (L.drop i)))) (fun K y w hw => by
    unfold fX2_paidForNext_L8
    rw [q_ck hf (by decide), nI_clamp (by omega), h.1, if_pos (Int32.le_refl _), List.drop_length]
    rfl) (fun i K hi hK y w hw => by
    unfold fX2_paidForNext_L8
    rw [q_ck hf (by decide), nI_clamp (show f < 2 ^ 31 by omega), h.1, if_neg (nI_ge hi (by omega))]
    by_cases h0 : w = 0
    · rw [h0, if_pos (by decide), qW_0]
      rfl
    · have hx := List.getElem?_eq_getElem hi
      have h2 := h.2 i _ hx
      have hm := hL.2 _ (List.getElem_mem hi)
      rw [if_neg (nI_nle (by omega) (by omega)), q_ck hf (by decide), q_ck (show i < 12 by omega) (by decide), nI_clamp (show i < 2 ^ 31 by omega), h2.1, h2.2, List.drop_eq_getElem_cons hi]
      generalize L[i] = x at *
      have e : (if nI x.1 < nI w then nI x.1 else nI w) = nI (if x.1 < w then x.1 else w) := by
        by_cases h9 : x.1 < w
        · rw [if_pos h9, if_pos (nI_lt h9 (by omega))]
        · rw [if_neg h9, if_neg (nI_nlt (by omega) (by omega))]
      have hmw : (if x.1 < w then x.1 else w) ≤ w := by split <;> omega
      rw [q_nm, e, q_ck hf (by decide), q_ck (show i < 12 by omega) (by decide), q_nm, q_nm, q_nm, pk_mul, nI_add, pk_sub hmw, q_add1, hK _ _ (by omega), Nat.add_assoc]
      rfl) lpN 0 (Nat.zero_le _) (q_lpN _ (by omega)) 0 w hw
  unfold fX2_paidForNext
  rw [q_l0, key, Nat.zero_add, List.drop_zero]
