/-! ===== layer 2: plans ===== -/
theorem q_0le {x : Int32} (h : 0 ≤ x) : x = nI (qn x) := by
  obtain ⟨k, hk, rfl⟩ := nI_of (q_nlt h)
  rw [qn_nI hk]
section
variable {T nf nb nt no : Nat} {Ls : Nat → List (Nat × Nat)} {r c u : bM}
/-- no obstacle -/
theorem qob_0 (h : q_S T nf nb nt no Ls r c) {b l : Nat} {y z : Int32} (hl : l ≤ 20) (h0 : qob nf nt Ls r b (nI l) y z = 0) : nt < 24 ∧ 1 ≤ r (209 + 4 * b) * nI l + z ∧ ∀ f, f < nf → quse r b f (nI l) y = nI (qn (quse r b f (nI l) y)) ∧ qn (quse r b f (nI l) y) ≤ qUn (Ls f) ∧ qUn (Ls f) ≤ 1188 := by
  have h3 := h.hnt
  unfold qob at h0
  by_cases e1 : nt = 24
  · rw [if_pos e1] at h0; exact absurd h0 (by decide)
  · rw [if_neg e1] at h0
    by_cases e2 : quse r b (qmf r b) (nI l) y < 0 ∨ r (209 + 4 * b) * nI l + z < 1
    · rw [if_pos e2] at h0; exact absurd h0 (by decide)
    · rw [if_neg e2] at h0
      by_cases e4 : ∀ f, f < nf → quse r b f (nI l) y ≤ qU (Ls f)
      · refine ⟨by omega, q_len (fun q => e2 (Or.inr q)), fun f hf => ?_⟩
        have hp : 0 ≤ quse r b f (nI l) y := by
          by_cases e : f = qmf r b
          · rw [e]; exact q_len (fun q => e2 (Or.inl q))
          · exact quse_pos hl e
        have h5 := e4 f hf
        obtain ⟨g1, g2⟩ := h.lo f hf
        have h6 := qUn_le (fun x hx => (g2 x hx).2.1)
        have e := q_0le hp
        have hq : qn (quse r b f (nI l) y) < 2 ^ 31 := by
          have := Int32.toNatClampNeg_lt (quse r b f (nI l) y)
          exact this
        refine ⟨e, ?_, by omega⟩
        rw [e, qU_n] at h5
        exact (nI_leI hq (by omega)).mp h5
      · rw [if_neg e4] at h0; exact absurd h0 (by decide)
theorem c_flourCost {b : Nat} {x y : Int32} (hn : nf ≤ 6) (w : Nat → Nat) (hw : ∀ f, f < nf → w f < 2 ^ 30) (en : c 6 = nI nf) (hl : ∀ f, f < nf → q_lo (Ls f) ∧ q_2 (vw c 6) f (Ls f)) (hu : ∀ f, f < nf → fX1_unitsFor (nI b) (nI f) x y (vw c 175) = some (nI (w f))) : fX6_flourCostOf (nI b) x y c = some (qS (fun f => nI (qW (w f) (Ls f))) nf) := by
  unfold fX6_flourCostOf
  rw [q_l0]
  rw [q_sum some (fun f => nI (qW (w f) (Ls f))) nf (by omega) (fun K w => by
    unfold fX6_flourCostOf_L6
    rw [en, if_pos (Int32.le_refl _)]) (fun K w9 i hi => by
    unfold fX6_flourCostOf_L6
    rw [en, if_neg (nI_ge hi (by omega)), hu i hi, q_bnr, c_paid (by omega) (hw i hi) (hl i hi).1 (hl i hi).2, q_bnr, q_nm, q_nm, q_add1])]
  rw [← q_l0, Int32.zero_add]
/-! the most loaves -/
theorem qob_plain (h : q_S T nf nb nt no Ls r c) {b l : Nat} (hb : b < nb) (hl : l ≤ 20) (hl1 : 1 ≤ l) : qob nf nt Ls r b (nI l) 0 0 = 0 ↔ nt ≠ 24 ∧ ∀ f, f < nf → qam r b f * l ≤ qUn (Ls f) := by
  have h1 := h.hnf
  have eq : ∀ f, quse r b f (nI l) 0 = nI (qam r b f * l) := fun f => by
    unfold quse
    rw [pk_mul, Int32.add_zero]
    split <;> rfl
  have hq : ∀ f, qam r b f * l ≤ 180 := fun f => by
    have h1 : qam r b f ≤ 9 := by have := qdg_lt (qn (r (210 + 4 * b))) f; unfold qam; omega
    exact Nat.mul_le_mul h1 hl
  obtain ⟨m, m1, m2, m3⟩ := h.rbm b hb
  have hm : 1 * 1 ≤ m * l := Nat.mul_le_mul m1 hl1
  have hm2 : m * l ≤ 9 * 20 := Nat.mul_le_mul m2 hl
  have e2 : ¬ (quse r b (qmf r b) (nI l) 0 < 0 ∨ r (209 + 4 * b) * nI l + 0 < 1) := by
    rw [eq, m3, pk_mul, Int32.add_zero]
    intro q
    rcases q with q | q
    · exact nI_pos (by have := hq (qmf r b); omega) q
    · rw [q_l1, nI_ltI (by omega) (by decide)] at q
      omega
  have hu : ∀ f, f < nf → (quse r b f (nI l) 0 ≤ qU (Ls f) ↔ qam r b f * l ≤ qUn (Ls f)) := fun f hf => by
    obtain ⟨g1, g2⟩ := h.lo f hf
    have h6 := qUn_le (fun x hx => (g2 x hx).2.1)
    have := hq f
    rw [eq, qU_n, nI_leI (by omega) (by omega)]
  unfold qob
  rw [if_neg e2]
  constructor
  · intro q
    by_cases e1 : nt = 24
    · rw [if_pos e1] at q; exact absurd q (by decide)
    · refine ⟨e1, ?_⟩
      rw [if_neg e1] at q
      by_cases e4 : ∀ f, f < nf → quse r b f (nI l) 0 ≤ qU (Ls f)
      · exact fun f hf => (hu f hf).mp (e4 f hf)
      · rw [if_neg e4] at q; exact absurd q (by decide)
  · intro q
    rw [if_neg q.1, if_pos (fun f hf => (hu f hf).mpr (q.2 f hf))]
theorem q_most (h : q_S T nf nb nt no Ls r c) {b : Nat} (hb : b < nb) : ∃ m, m ≤ 20 ∧ (∀ l, 1 ≤ l → l ≤ m → qob nf nt Ls r b (nI l) 0 0 = 0) ∧ (∀ l, m < l → l ≤ 20 → ¬ qob nf nt Ls r b (nI l) 0 0 = 0) := by
  have key : ∀ n, n ≤ 20 → ∃ m, m ≤ n ∧ (∀ l, 1 ≤ l → l ≤ m → qob nf nt Ls r b (nI l) 0 0 = 0) ∧ (∀ l, m < l → l ≤ n → ¬ qob nf nt Ls r b (nI l) 0 0 = 0) := by
    intro n
    induction n with
    | zero => intro _; exact ⟨0, Nat.le_refl _, fun l h1 h2 => by omega, fun l h1 h2 => by omega⟩
    | succ n ih =>
      intro hn
      obtain ⟨m, m1, m2, m3⟩ := ih (by omega)
      by_cases e : qob nf nt Ls r b (nI (n + 1)) 0 0 = 0
      · have e9 := (qob_plain h hb hn (by omega)).mp e
        refine ⟨n + 1, Nat.le_refl _, fun l h1 h2 => (qob_plain h hb (by omega) h1).mpr ⟨e9.1, fun f hf => ?_⟩, fun l h1 h2 => by omega⟩
        have h5 := e9.2 f hf
        have h6 : qam r b f * l ≤ qam r b f * (n + 1) := Nat.mul_le_mul_left _ h2
        omega
      · refine ⟨m, by omega, m2, fun l h1 h2 => ?_⟩
        rcases Nat.eq_or_lt_of_le h2 with e5 | e5
        · rw [e5]; exact e
        · exact m3 l h1 (by omega)
  exact key 20 (Nat.le_refl _)
def q_mo (nf nt : Nat) (Ls : Nat → List (Nat × Nat)) (r : bM) (b m : Nat) : Prop := m ≤ 20 ∧ (∀ l, 1 ≤ l → l ≤ m → qob nf nt Ls r b (nI l) 0 0 = 0) ∧ (∀ l, m < l → l ≤ 20 → ¬ qob nf nt Ls r b (nI l) 0 0 = 0)
theorem c_mostLoaves (h : q_S T nf nb nt no Ls r c) {b m : Nat} (hb : b < nb) (hm : q_mo nf nt Ls r b m) : fX6_mostLoaves (nI b) c = some (nI m) := by
  obtain ⟨m1, m2, m3⟩ := hm
  have key := q_for (F := fX6_mostLoaves_L4 (nI b) c) (z := fun _ _ => none) (n := 21) (Sp := fun i K => 1 ≤ i → K (nI (if i - 1 < m then i - 1 else m)) (nI i) = some (nI m)) (fun K _ => by
    unfold fX6_mostLoaves_L4
    rw [q_l20, if_pos (nI_lt (by decide) (by decide))]
    congr 2
    split <;> omega) (fun i K hi hK hi1 => by
    have hK := hK (by omega)
    rw [show i + 1 - 1 = i by omega] at hK
    unfold fX6_mostLoaves_L4 fX6_mostLoaves_J23
    rw [q_l20, if_neg (nI_nlt (show i ≤ 20 by omega) (by decide)), c_obstacle h hb (by omega), q_bnr, q_nm, q_nm, q_add1]
    by_cases e : i ≤ m
    · rw [if_pos (m2 i hi1 e)]
      by_cases e2 : i < m
      · rw [if_pos e2] at hK; exact hK
      · rw [if_neg e2] at hK; rw [show i = m by omega] at hK ⊢; exact hK
    · rw [if_neg (m3 i (by omega) (by omega))]
      rw [if_neg (by omega)] at hK
      rw [if_neg (by omega)]
      exact hK) lpN 1 (by decide) (by have := q_lpN 21 (by decide); omega) (Nat.le_refl _)
  unfold fX6_mostLoaves
  rw [Nat.sub_self] at key
  have e0 : (if 0 < m then 0 else m) = 0 := by split <;> omega
  rw [e0] at key
  exact key
theorem r_most (h : q_S T nf nb nt no Ls (vw u 710) c) {b m : Nat} (hb : b < nb) (hm : q_mo nf nt Ls (vw u 710) b m) : lp (fX9_possibleLoaves_L12 (nI b)) (fun _ _ => none) lpN 0 u = some (nI m, u) := by
  obtain ⟨m1, m2, m3⟩ := hm
  exact q_for (F := fX9_possibleLoaves_L12 (nI b)) (z := fun _ _ => none) (n := m) (Sp := fun i K => K (nI i) u = some (nI m, u)) (fun K => by
    unfold fX9_possibleLoaves_L12
    rw [q_l20]
    by_cases e : m = 20
    · rw [e, if_pos (Int32.le_refl _)]
    · rw [if_neg (nI_ge (by omega) (by decide)), q_add1, r_obstacle h hb, q_bnr, if_neg (m3 _ (by omega) (by omega))]) (fun i K hi hK => by
    unfold fX9_possibleLoaves_L12
    rw [q_l20, if_neg (nI_ge (by omega) (by decide)), q_add1, r_obstacle h hb, q_bnr, if_pos (m2 _ (by omega) (by omega)), q_nm]
    exact hK) lpN 0 (Nat.zero_le _) (q_lpN _ (by omega))
/-! the start, the price of a plain batch h hours later, the best wait -/
theorem q_S.stN (h : q_S T nf nb nt no Ls r c) (x : Nat) (hx : x < 2 ^ 31) : ∃ s, qst no r (nI x) = nI s ∧ (s ≤ T ∨ s = x) ∧ s < 2 ^ 31 := by
  have hT := h.hT
  obtain ⟨k, _, k2, k3⟩ := h.rfr _ (qov_lt h.hno)
  unfold qst
  rw [k3]
  by_cases e : k < x
  · rw [if_pos (nI_lt e hx)]
    exact ⟨x, rfl, Or.inr rfl, hx⟩
  · rw [if_neg (nI_nlt (by omega) (by omega))]
    exact ⟨k, rfl, Or.inl k2, by omega⟩
def qpw (no : Nat) (r : bM) (b l : Nat) (j : Nat) : Int32 := qpm r (qn (qst no r (nI (qn (r 4) + 60 * j)))) (qn (r (209 + 4 * b)) * l)
theorem c_plainOven (h : q_S T nf nb nt no Ls r c) {b l j : Nat} (hb : b < nb) (hl : l ≤ 20) (hj : j < 24) : fX6_plainOvenPrice (nI b) (nI l) (nI j) c = some (qpw no r b l j) := by
  have hT := h.hT
  have h2 := h.hnb
  obtain ⟨k1, _, k3⟩ := qb_n h.rck (by omega)
  obtain ⟨m1, _, m3⟩ := qb_n (h.rbm b hb) (by omega)
  have hm2 : qn (r (209 + 4 * b)) * l ≤ 9 * 20 := Nat.mul_le_mul m3 hl
  obtain ⟨s, s1, s2, s3⟩ := h.stN (qn (r 4) + 60 * j) (by omega)
  have e1 : c 0 + nI j * 60 = nI (qn (r 4) + 60 * j) := by
    rw [h.cck, q_l60, pk_mul, Nat.mul_comm]
    rw [k1, nI_add, qn_nI (by omega)]
  unfold fX6_plainOvenPrice qpw
  rw [e1, c_startFrom h.O, q_bnr, q_ck (by omega) (by decide), nI_clamp (by omega), h.cbm b hb, s1, qn_nI s3]
  have e2 : r (209 + 4 * b) * nI l = nI (qn (r (209 + 4 * b)) * l) := by
    rw [m1, pk_mul, qn_nI (by omega)]
  rw [e2, c_priceOf h.O (by omega) (by omega), q_bnr]
theorem c_cheapestWait (h : q_S T nf nb nt no Ls r c) {b l : Nat} (hb : b < nb) (hl : l ≤ 20) : fX6_cheapestWait (nI b) (nI l) c = some (nI (qff (qpw no r b l) 23 1 0)) := by
  have key := q_for (F := fX6_cheapestWait_L14 (nI b) (nI l) c) (z := fun _ _ _ => none) (n := 24) (Sp := fun i K => ∀ y : Nat, y < 24 → K (nI y) (qpw no r b l y) (nI i) = some (nI (qff (qpw no r b l) (24 - i) i y))) (fun K y hy => by
    unfold fX6_cheapestWait_L14
    rw [q_l24, if_pos (Int32.le_refl _)]
    rfl) (fun i K hi hK y hy => by
    have e3 : qff (qpw no r b l) (24 - i) i y = qff (qpw no r b l) (24 - (i + 1)) (i + 1) (if qpw no r b l y ≤ qpw no r b l i then y else i) := by
      rw [show 24 - i = (24 - (i + 1)) + 1 by omega]
      rfl
    unfold fX6_cheapestWait_L14 fX6_cheapestWait_J45
    rw [q_l24, if_neg (nI_ge hi (by decide)), c_plainOven h hb hl hi, q_bnr, e3, q_nm, q_nm, q_add1]
    by_cases e : qpw no r b l y ≤ qpw no r b l i
    · rw [if_pos e, if_pos e]
      exact hK y hy
    · rw [if_neg e, if_neg e]
      exact hK i hi) lpN 1 (by decide) (by have := q_lpN 24 (by decide); omega) 0 (by decide)
  unfold fX6_cheapestWait
  rw [q_l0, c_plainOven h hb hl (by decide), q_bnr]
  exact key
theorem r_bestWait (h : q_S T nf nb nt no Ls (vw u 710) c) {b l : Nat} (hb : b < nb) (hl : l ≤ 20) : lp (fX9_bestWait_L33 (nI b) (nI l) (vw u 710 (37 + qov no (vw u 710)))) (fun _ _ _ _ => none) lpN 0 0 0 u = some (nI (qff (qpw no (vw u 710) b l) 23 1 0), u) := by
  have hT := h.hT
  have h2 := h.hnb
  obtain ⟨k1, _, k3⟩ := qb_n h.rck (by omega)
  obtain ⟨m1, _, m3⟩ := qb_n (h.rbm b hb) (by omega)
  have hm2 : qn (vw u 710 (209 + 4 * b)) * l ≤ 9 * 20 := Nat.mul_le_mul m3 hl
  have ek : u (710 + (4 : Int32).toNatClampNeg) = vw u 710 4 := rfl
  have step : ∀ (K : Int32 → Int32 → Int32 → bM → Option (Int32 × bM)) (y p : Int32) (i : Nat), i < 24 → fX9_bestWait_L33 (nI b) (nI l) (vw u 710 (37 + qov no (vw u 710))) K y p (nI i) u = if nI i = 0 then K (nI i) (qpw no (vw u 710) b l i) (nI (i + 1)) u else if p ≤ qpw no (vw u 710) b l i then K y p (nI (i + 1)) u else K (nI i) (qpw no (vw u 710) b l i) (nI (i + 1)) u := by
    intro K y p i hi
    obtain ⟨s, s1, s2, s3⟩ := h.stN (qn (vw u 710 4) + 60 * i) (by omega)
    have e1 : vw u 710 4 + 60 * nI i = nI (qn (vw u 710 4) + 60 * i) := by
      rw [q_l60, pk_mul, k1, nI_add, qn_nI (by omega)]
    have e2 : vw u 710 (209 + 4 * b) * nI l = nI (qn (vw u 710 (209 + 4 * b)) * l) := by
      rw [m1, pk_mul, qn_nI (by omega)]
    have e3 : (if vw u 710 (37 + qov no (vw u 710)) < nI (qn (vw u 710 4) + 60 * i) then nI (qn (vw u 710 4) + 60 * i) else vw u 710 (37 + qov no (vw u 710))) = nI s := s1
    have e4 : qpw no (vw u 710) b l i = qpm (vw u 710) s (qn (vw u 710 (209 + 4 * b)) * l) := by
      unfold qpw
      rw [s1, qn_nI s3]
    unfold fX9_bestWait_L33 fX9_bestWait_J82 fX9_bestWait_J90
    rw [q_l24, if_neg (nI_ge hi (by decide)), ek, e1, e3, q_nm, r_bread1 (by omega), q_bnr, e2, r_costOf (by omega) (by omega), q_bnr, q_nm, q_nm, q_add1, e4]
  exact q_for (F := fX9_bestWait_L33 (nI b) (nI l) (vw u 710 (37 + qov no (vw u 710)))) (z := fun _ _ _ _ => none) (n := 24) (Sp := fun i K => ∀ (y : Nat) (p : Int32), y < 24 → (i ≠ 0 → p = qpw no (vw u 710) b l y) → K (nI y) p (nI i) u = some (nI (if i = 0 then qff (qpw no (vw u 710) b l) 23 1 0 else qff (qpw no (vw u 710) b l) (24 - i) i y), u)) (fun K y p hy hp => by
    unfold fX9_bestWait_L33
    rw [q_l24, if_pos (Int32.le_refl _)]
    rfl) (fun i K hi hK y p hy hp => by
    rw [step K _ _ i hi]
    by_cases e0 : i = 0
    · rw [if_pos (by rw [e0]; rfl), hK i _ hi (fun _ => rfl), if_neg (by omega), if_pos e0, e0]
    · rw [if_neg (nI_ne0 (by omega) (by omega)), hp e0, if_neg e0]
      have e3 : qff (qpw no (vw u 710) b l) (24 - i) i y = qff (qpw no (vw u 710) b l) (24 - (i + 1)) (i + 1) (if qpw no (vw u 710) b l y ≤ qpw no (vw u 710) b l i then y else i) := by
        rw [show 24 - i = (24 - (i + 1)) + 1 by omega]
        rfl
      rw [e3]
      by_cases e : qpw no (vw u 710) b l y ≤ qpw no (vw u 710) b l i
      · rw [if_pos e, if_pos e, hK y _ hy (fun _ => rfl), if_neg (by omega)]
      · rw [if_neg e, if_neg e, hK i _ hi (fun _ => rfl), if_neg (by omega)]) lpN 0 (by decide) (q_lpN _ (by decide)) 0 0 (by decide) (fun q => absurd rfl q)
end
