/-! ===== layer 2: ovens and their minutes ===== -/
/-- the place of the least of g, the first of them -/
def qff (g : Nat → Int32) : Nat → Nat → Nat → Nat
  | 0, _, y => y
  | m + 1, i, y => qff g m (i + 1) (if g y ≤ g i then y else i)
theorem qff_lt (g : Nat → Int32) (n : Nat) : ∀ (m i y : Nat), i + m ≤ n → y < n → qff g m i y < n := by
  intro m
  induction m with
  | zero => intro i y _ hy; exact hy
  | succ m ih =>
    intro i y hi hy
    exact ih (i + 1) _ (by omega) (by split <;> omega)
def qov (no : Nat) (r : bM) : Nat := qff (fun o => r (37 + o)) (no - 1) 1 0
def qst (no : Nat) (r : bM) (x : Int32) : Int32 := if r (37 + qov no r) < x then x else r (37 + qov no r)
/-- the price of m minutes from minute s -/
def qpm (r : bM) (s m : Nat) : Int32 := qS (fun i => r (13 + (s + i) / 60 % 24)) m
theorem q_xor (a b : Nat) : nI a ^^^ nI b = nI (a ^^^ b) := by
  apply Int32.toBitVec_inj.mp
  rw [Int32.toBitVec_xor]
  show BitVec.ofNat 32 a ^^^ BitVec.ofNat 32 b = BitVec.ofNat 32 (a ^^^ b)
  exact BitVec.ofNat_xor.symm
theorem c_floorMod {a : Nat} (ha : a < 2 ^ 31) : fJ9_floorMod_7cf53 (nI a) 24 = some (nI (a % 24)) := by
  unfold fJ9_floorMod_7cf53 cz
  rw [if_neg (by decide), q_nm, q_l24, pk_rem ha (by decide) (by decide), q_xor, if_pos (nI_pos' (Nat.xor_lt_two_pow ha (by decide)))]
def q_O (no : Nat) (r c : bM) : Prop := (1 ≤ no ∧ no ≤ 3) ∧ c 248 = nI no ∧ (∀ o, o < no → c (250 + o) = r (37 + o)) ∧ (∀ j, j < 24 → c (253 + j) = r (13 + j))
def q_P (no : Nat) (r : bM) : Prop := (1 ≤ no ∧ no ≤ 3) ∧ r 3 = nI no
section
variable {T nf nb nt no : Nat} {Ls : Nat → List (Nat × Nat)} {r c u : bM}
theorem q_S.O (h : q_S T nf nb nt no Ls r c) : q_O no r c := ⟨h.hno, h.cno, h.cfr, h.crt⟩
theorem q_S.P (h : q_S T nf nb nt no Ls r c) : q_P no r := ⟨h.hno, h.rno⟩
theorem qov_lt {r : bM} (h1 : 1 ≤ no ∧ no ≤ 3) : qov no r < no := by
  exact qff_lt _ no _ _ _ (by omega) (by omega)
theorem c_firstFree (h : q_O no r c) : fX5_firstFree (vw c 248) = some (nI (qov no r)) := by
  have h1 := h.1
  have en : vw c 248 0 = nI no := h.2.1
  have key := q_for (F := fX5_firstFree_L4 (vw c 248)) (z := fun _ _ => none) (n := no) (Sp := fun i K => ∀ y : Nat, y < no → K (nI y) (nI i) = some (nI (qff (fun o => r (37 + o)) (no - i) i y))) (fun K y hy => by
    unfold fX5_firstFree_L4
    rw [en, if_pos (Int32.le_refl _), Nat.sub_self]
    rfl) (fun i K hi hK y hy => by
    have e1 : vw c 248 (2 + y) = r (37 + y) := (q_at (by omega)).trans (h.2.2.1 y hy)
    have e2 : vw c 248 (2 + i) = r (37 + i) := (q_at (by omega)).trans (h.2.2.1 i hi)
    have e3 : qff (fun o => r (37 + o)) (no - i) i y = qff (fun o => r (37 + o)) (no - (i + 1)) (i + 1) (if r (37 + y) ≤ r (37 + i) then y else i) := by
      rw [show no - i = (no - (i + 1)) + 1 by omega]
      rfl
    unfold fX5_firstFree_L4
    rw [en, if_neg (nI_ge hi (by omega)), q_ck (by omega) (by decide), q_ck (by omega) (by decide), nI_clamp (by omega), nI_clamp (by omega), e1, e2, e3]
    unfold fX5_firstFree_J29
    rw [q_nm, q_nm, q_add1]
    by_cases e : r (37 + y) ≤ r (37 + i)
    · rw [if_pos e, if_pos e]
      exact hK y hy
    · rw [if_neg e, if_neg e]
      exact hK i hi) lpN 1 (by omega) (by have := q_lpN no (by omega); omega) 0 (by omega)
  unfold fX5_firstFree
  exact key
theorem r_firstOven (h : q_P no (vw u 710)) : fX9_firstOven u = some (nI (qov no (vw u 710))) := by
  have h1 := h.1
  have en : u (710 + (3 : Int32).toNatClampNeg) = nI no := h.2
  have key := q_for (F := fX9_firstOven_L4 u) (z := fun _ _ => none) (n := no) (Sp := fun i K => ∀ y : Nat, y < no → K (nI y) (nI i) = some (nI (qff (fun o => vw u 710 (37 + o)) (no - i) i y))) (fun K y hy => by
    unfold fX9_firstOven_L4
    rw [en, if_pos (Int32.le_refl _), Nat.sub_self]
    rfl) (fun i K hi hK y hy => by
    have e1 : u (710 + (37 + y)) = vw u 710 (37 + y) := rfl
    have e2 : u (710 + (37 + i)) = vw u 710 (37 + i) := rfl
    have e3 : qff (fun o => vw u 710 (37 + o)) (no - i) i y = qff (fun o => vw u 710 (37 + o)) (no - (i + 1)) (i + 1) (if vw u 710 (37 + y) ≤ vw u 710 (37 + i) then y else i) := by
      rw [show no - i = (no - (i + 1)) + 1 by omega]
      rfl
    unfold fX9_firstOven_L4
    rw [en, if_neg (nI_ge hi (by omega)), q_l37, nI_add, nI_add, q_ck (by omega) (by decide), q_ck (by omega) (by decide), nI_clamp (by omega), nI_clamp (by omega), e1, e2, e3]
    unfold fX9_firstOven_J40
    rw [q_nm, q_nm, q_add1]
    by_cases e : vw u 710 (37 + y) ≤ vw u 710 (37 + i)
    · rw [if_pos e, if_pos e]
      exact hK y hy
    · rw [if_neg e, if_neg e]
      exact hK i hi) lpN 1 (by omega) (by have := q_lpN no (by omega); omega) 0 (by omega)
  unfold fX9_firstOven
  exact key
theorem c_startFrom (h : q_O no r c) (x : Int32) : fX5_startFrom x (vw c 248) = some (qst no r x) := by
  have h1 := h.1
  have h2 := qov_lt (r := r) h1
  have e1 : vw c 248 (2 + qov no r) = r (37 + qov no r) := (q_at (by omega)).trans (h.2.2.1 _ h2)
  unfold fX5_startFrom
  rw [c_firstFree h, q_bnr, q_ck (by omega) (by decide), nI_clamp (by omega), e1]
  rfl
theorem c_priceOf (h : q_O no r c) {s m : Nat} (hs : s + m < 2 ^ 31) (hm : m < 100000) : fX5_priceOfMinutes (nI s) (nI m) (vw c 248) = some (qpm r s m) := by
  unfold fX5_priceOfMinutes
  rw [q_l0]
  rw [q_sum some (fun i => r (13 + (s + i) / 60 % 24)) m hm (fun K y => by
    unfold fX5_priceOfMinutes_L5
    rw [if_pos (Int32.le_refl _)]) (fun K y i hi => by
    have e1 : vw c 248 (5 + (s + i) / 60 % 24) = r (13 + (s + i) / 60 % 24) := (q_at (by omega)).trans (h.2.2.2 _ (Nat.mod_lt _ (by decide)))
    unfold fX5_priceOfMinutes_L5
    rw [if_neg (nI_ge hi (by omega)), nI_add, q_l60, pk_div (by omega) (by decide) (by decide), c_floorMod (by omega), q_bnr, q_ck (Nat.mod_lt _ (by decide)) (by decide), nI_clamp (by omega), e1, q_nm, q_nm, q_add1])]
  rw [← q_l0, Int32.zero_add]
  rfl
theorem r_rate {j : Nat} (hj : j < 2 ^ 31) : fX9_rate (nI j) u = some (vw u 710 (13 + j / 60 % 24)) := by
  unfold fX9_rate
  rw [q_l60, pk_div hj (by decide) (by decide), q_l24, pk_rem (by omega) (by decide) (by decide), q_l13, nI_add, q_ck (by omega) (by decide), nI_clamp (by omega)]
  rfl
theorem r_costOf {s m : Nat} (hs : s + m < 2 ^ 31) (hm : m < 100000) : fX9_costOfMinutes (nI s) (nI m) u = some (qpm (vw u 710) s m) := by
  have key := q_for (F := fX9_costOfMinutes_L5 (nI s) (nI m) u) (z := fun _ _ => none) (n := m) (Sp := fun i K => ∀ y, K y (nI (s + i)) = some (y + (qpm (vw u 710) s m - qpm (vw u 710) s i))) (fun K y => by
    unfold fX9_costOfMinutes_L5
    rw [nI_add, if_pos (Int32.le_refl _), Int32.sub_self, Int32.add_zero]) (fun i K hi hK y => by
    unfold fX9_costOfMinutes_L5
    rw [nI_add, if_neg (nI_ge (by omega) (by omega)), r_rate (by omega), q_bnr, q_nm, q_nm, q_add1, Nat.add_assoc, hK]
    show some ((y + vw u 710 (13 + (s + i) / 60 % 24)) + (qpm (vw u 710) s m - (qpm (vw u 710) s i + vw u 710 (13 + (s + i) / 60 % 24)))) = _
    congr 1
    grind) lpN 0 (Nat.zero_le _) (q_lpN _ hm) (nI 0)
  unfold fX9_costOfMinutes
  rw [q_l0]
  refine Eq.trans key ?_
  show some (nI 0 + (qpm (vw u 710) s m - 0)) = _
  rw [← q_l0, Int32.sub_zero, Int32.zero_add]
/-! the worst batch, the worst kind -/
def qdr (g : Nat → Int32) : Nat → Nat → Int32 → Int32
  | 0, _, y => y
  | m + 1, i, y => qdr g m (i + 1) (if y = -1 then nI i else if g i ≤ g (qn y) then y else nI i)
theorem nI_m1 {j : Nat} (h : j < 2 ^ 31) : ¬ nI j = -1 := fun q => by
  have e := nI_toInt h
  rw [q] at e
  have : (-1 : Int32).toInt = -1 := by decide
  omega
theorem c_dearest (h : q_S T nf nb nt no Ls r c) : fX0_dearest (vw c 277) = some (qdr (qls nf r) nt 0 (-1)) := by
  have h1 := h.hnt
  have en : vw c 277 0 = nI nt := h.cnt
  have key := q_for (F := fX0_dearest_L4 (vw c 277)) (z := fun _ _ => none) (n := nt) (Sp := fun i K => ∀ y : Int32, (y = -1 ∨ ∃ j, j < nt ∧ y = nI j) → K y (nI i) = some (qdr (qls nf r) (nt - i) i y)) (fun K y hy => by
    unfold fX0_dearest_L4
    rw [en, if_pos (Int32.le_refl _), Nat.sub_self]
    rfl) (fun i K hi hK y hy => by
    have e3 : qdr (qls nf r) (nt - i) i y = qdr (qls nf r) (nt - (i + 1)) (i + 1) (if y = -1 then nI i else if qls nf r i ≤ qls nf r (qn y) then y else nI i) := by
      rw [show nt - i = (nt - (i + 1)) + 1 by omega]
      rfl
    unfold fX0_dearest_L4 fX0_dearest_J32 fX0_dearest_J34
    rw [en, if_neg (nI_ge hi (by omega)), e3, q_nm, q_nm, q_add1]
    rcases hy with hy | ⟨j, hj, hy⟩
    · rw [if_pos hy, if_pos hy]
      exact hK _ (Or.inr ⟨i, hi, rfl⟩)
    · have e1 : vw c 277 (169 + i) = qls nf r i := (q_at (by omega)).trans (h.ctl i hi)
      have e2 : vw c 277 (169 + j) = qls nf r j := (q_at (by omega)).trans (h.ctl j hj)
      rw [hy, if_neg (nI_m1 (by omega)), if_neg (nI_m1 (by omega)), q_ck (by omega) (by decide), q_ck (by omega) (by decide), nI_clamp (by omega), nI_clamp (by omega), e1, e2, qn_nI (by omega)]
      by_cases e : qls nf r i ≤ qls nf r j
      · rw [if_pos e, if_pos e]
        exact hK _ (Or.inr ⟨j, hj, rfl⟩)
      · rw [if_neg e, if_neg e]
        exact hK _ (Or.inr ⟨i, hi, rfl⟩)) lpN 0 (Nat.zero_le _) (q_lpN _ (by omega)) (-1) (Or.inl rfl)
  unfold fX0_dearest
  exact key
theorem r_worstBatch (h : q_S T nf nb nt no Ls (vw u 710) c) : lp fX9_worstBatch_L9 (fun _ _ _ => none) lpN (-1) 0 u = some (qdr (qls nf (vw u 710)) nt 0 (-1), u) := by
  have h1 := h.hnt
  have en : u (710 + (7 : Int32).toNatClampNeg) = nI nt := h.rnt
  exact q_for (F := fX9_worstBatch_L9) (z := fun _ _ _ => none) (n := nt) (Sp := fun i K => ∀ y : Int32, (y = -1 ∨ ∃ j, j < nt ∧ y = nI j) → K y (nI i) u = some (qdr (qls nf (vw u 710)) (nt - i) i y, u)) (fun K y hy => by
    unfold fX9_worstBatch_L9
    rw [en, if_pos (Int32.le_refl _), Nat.sub_self]
    rfl) (fun i K hi hK y hy => by
    have e3 : qdr (qls nf (vw u 710)) (nt - i) i y = qdr (qls nf (vw u 710)) (nt - (i + 1)) (i + 1) (if y = -1 then nI i else if qls nf (vw u 710) i ≤ qls nf (vw u 710) (qn y) then y else nI i) := by
      rw [show nt - i = (nt - (i + 1)) + 1 by omega]
      rfl
    unfold fX9_worstBatch_L9 fX9_worstBatch_J38 fX9_worstBatch_J43
    rw [en, if_neg (nI_ge hi (by omega)), e3, q_nm, q_nm, q_add1]
    rcases hy with hy | ⟨j, hj, hy⟩
    · rw [if_pos hy, if_pos hy]
      exact hK _ (Or.inr ⟨i, hi, rfl⟩)
    · rw [hy, if_neg (nI_m1 (by omega)), if_neg (nI_m1 (by omega)), r_loss h hi, q_bnr, r_loss h hj, q_bnr, qn_nI (by omega)]
      by_cases e : qls nf (vw u 710) i ≤ qls nf (vw u 710) j
      · rw [if_pos e, if_pos e]
        exact hK _ (Or.inr ⟨j, hj, rfl⟩)
      · rw [if_neg e, if_neg e]
        exact hK _ (Or.inr ⟨i, hi, rfl⟩)) lpN 0 (Nat.zero_le _) (q_lpN _ (by omega)) (-1) (Or.inl rfl)
/-- the place of the greatest -/
def qgk (g : Nat → Int32) : Nat → Nat → Nat → Nat
  | 0, _, y => y
  | m + 1, i, y => qgk g m (i + 1) (if g i ≤ g y then y else i)
theorem c_dearestKind (h : q_S T nf nb nt no Ls r c) : fX6_dearestKind c = some (nI (qgk (qgs nt r) 5 1 0)) := by
  have key := q_for (F := fX6_dearestKind_L4 c) (z := fun _ _ => none) (n := 6) (Sp := fun i K => ∀ y : Nat, y < 6 → K (nI y) (nI i) = some (nI (qgk (qgs nt r) (6 - i) i y))) (fun K y hy => by
    unfold fX6_dearestKind_L4
    rw [q_l6, if_pos (Int32.le_refl _)]
    rfl) (fun i K hi hK y hy => by
    have e3 : qgk (qgs nt r) (6 - i) i y = qgk (qgs nt r) (6 - (i + 1)) (i + 1) (if qgs nt r i ≤ qgs nt r y then y else i) := by
      rw [show 6 - i = (6 - (i + 1)) + 1 by omega]
      rfl
    unfold fX6_dearestKind_L4 fX6_dearestKind_J25
    rw [q_l6, if_neg (nI_ge hi (by omega)), c_sumOfKind h hi, q_bnr, c_sumOfKind h hy, q_bnr, e3, q_nm, q_nm, q_add1]
    by_cases e : qgs nt r i ≤ qgs nt r y
    · rw [if_pos e, if_pos e]
      exact hK y hy
    · rw [if_neg e, if_neg e]
      exact hK i hi) lpN 1 (by decide) (by have := q_lpN 6 (by decide); omega) 0 (by decide)
  unfold fX6_dearestKind
  exact key
theorem r_worstKind (h : q_S T nf nb nt no Ls (vw u 710) c) : lp fX9_worstKind_L9 (fun _ _ _ => none) lpN 0 1 u = some (nI (qgk (qgs nt (vw u 710)) 5 1 0), u) := by
  exact q_for (F := fX9_worstKind_L9) (z := fun _ _ _ => none) (n := 6) (Sp := fun i K => ∀ y : Nat, y < 6 → K (nI y) (nI i) u = some (nI (qgk (qgs nt (vw u 710)) (6 - i) i y), u)) (fun K y hy => by
    unfold fX9_worstKind_L9
    rw [q_l5, if_pos (nI_lt (by decide) (by decide))]
    rfl) (fun i K hi hK y hy => by
    have e3 : qgk (qgs nt (vw u 710)) (6 - i) i y = qgk (qgs nt (vw u 710)) (6 - (i + 1)) (i + 1) (if qgs nt (vw u 710) i ≤ qgs nt (vw u 710) y then y else i) := by
      rw [show 6 - i = (6 - (i + 1)) + 1 by omega]
      rfl
    unfold fX9_worstKind_L9 fX9_worstKind_J32
    rw [q_l5, if_neg (nI_nlt (show i ≤ 5 by omega) (by decide)), r_sumOf h hi, q_bnr, r_sumOf h hy, q_bnr, e3, q_nm, q_nm, q_add1]
    by_cases e : qgs nt (vw u 710) i ≤ qgs nt (vw u 710) y
    · rw [if_pos e, if_pos e]
      exact hK y hy
    · rw [if_neg e, if_neg e]
      exact hK i hi) lpN 1 (by decide) (by have := q_lpN 6 (by decide); omega) 0 (by decide)
end
