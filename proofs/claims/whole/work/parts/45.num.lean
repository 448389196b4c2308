/-! ===== layer 2: digits, standards ===== -/
theorem q_at {c : bM} {o y x : Nat} (e : o + y = x) : vw c o y = c x := by rw [← e]; rfl
theorem q_ra {u : bM} {y x : Nat} (e : y = x) : u (710 + y) = vw u 710 x := by rw [e]; rfl
theorem qmG_spec : ∀ (n k : Nat), 1 ≤ k → k < 10 ^ n → qmG n k < n ∧ qdg k (qmG n k) ≠ 0 ∧ ∀ i, i < qmG n k → qdg k i = 0 := by
  intro n
  induction n with
  | zero => intro k h1 h2; rw [Nat.pow_zero] at h2; omega
  | succ n ih =>
    intro k h1 h2
    have e : qmG (n + 1) k = if k % 10 = 0 then qmG n (k / 10) + 1 else 0 := rfl
    by_cases h : k % 10 = 0
    · rw [e, if_pos h]
      rw [Nat.pow_succ] at h2
      obtain ⟨g1, g2, g3⟩ := ih (k / 10) (by omega) (by omega)
      have hs : ∀ i, qdg k (i + 1) = qdg (k / 10) i := by
        intro i
        unfold qdg
        rw [Nat.pow_succ, Nat.mul_comm, Nat.div_div_eq_div_mul]
      refine ⟨by omega, by rw [hs]; exact g2, fun i hi => ?_⟩
      cases i with
      | zero =>
        unfold qdg
        rw [Nat.pow_zero, Nat.div_one]
        exact h
      | succ i =>
        rw [hs]
        exact g3 i (by omega)
    · rw [e, if_neg h]
      refine ⟨by omega, ?_, fun i hi => absurd hi (Nat.not_lt_zero _)⟩
      unfold qdg
      rw [Nat.pow_zero, Nat.div_one]
      exact h
theorem qdg_lt (k f : Nat) : qdg k f < 10 := Nat.mod_lt _ (by decide)
theorem qdg_hi {k n f : Nat} (h : k < 10 ^ n) (hf : n ≤ f) : qdg k f = 0 := by
  unfold qdg
  have h1 : 10 ^ n ≤ 10 ^ f := Nat.pow_le_pow_right (by decide) hf
  rw [Nat.div_eq_of_lt (by omega)]
theorem p10_le {n : Nat} (h : n ≤ 6) : 10 ^ n ≤ 1000000 := Nat.le_trans (Nat.pow_le_pow_right (by decide) h) (by decide)
theorem r_digit {k f : Nat} (hk : k < 2 ^ 31) (hf : f < 100) : fX9_digit (nI k) (nI f) = some (nI (qdg k f)) := by
  have key := q_for (F := fX9_digit_L4 (nI f)) (z := fun _ _ => none) (n := f) (Sp := fun i K => ∀ k : Nat, k < 2 ^ 31 → K (nI k) (nI i) = some (nI (qdg k (f - i)))) (fun K k hk => by
    unfold fX9_digit_L4
    rw [if_pos (Int32.le_refl _), q_l10, pk_rem hk (by decide) (by decide), Nat.sub_self]
    unfold qdg
    rw [Nat.pow_zero, Nat.div_one]) (fun i K hi hK k hk => by
    unfold fX9_digit_L4
    rw [if_neg (nI_ge hi (by omega)), q_l10, pk_div hk (by decide) (by decide), q_nm, q_nm, q_add1, hK _ (by omega), show f - i = (f - (i + 1)) + 1 by omega]
    unfold qdg
    rw [Nat.pow_succ, Nat.mul_comm, Nat.div_div_eq_div_mul]) lpN 0 (Nat.zero_le _) (q_lpN _ (by omega)) k hk
  unfold fX9_digit
  rw [q_l0, key, Nat.sub_zero]
theorem r_bread0 {u : bM} {b : Nat} (hb : b < 6) : fX9_bread (nI b) 0 u = some (vw u 710 (208 + 4 * b)) := (r_bread (k := 0) hb (by decide)).trans (congrArg some (q_ra (by omega)))
theorem r_bread1 {u : bM} {b : Nat} (hb : b < 6) : fX9_bread (nI b) 1 u = some (vw u 710 (209 + 4 * b)) := (r_bread (k := 1) hb (by decide)).trans (congrArg some (q_ra (by omega)))
theorem r_bread2 {u : bM} {b : Nat} (hb : b < 6) : fX9_bread (nI b) 2 u = some (vw u 710 (210 + 4 * b)) := (r_bread (k := 2) hb (by decide)).trans (congrArg some (q_ra (by omega)))
theorem r_bread3 {u : bM} {b : Nat} (hb : b < 6) : fX9_bread (nI b) 3 u = some (vw u 710 (211 + 4 * b)) := (r_bread (k := 3) hb (by decide)).trans (congrArg some (q_ra (by omega)))
theorem r_flour0 {u : bM} {f : Nat} (hf : f < 6) : fX9_flour (nI f) 0 u = some (vw u 710 (40 + 28 * f)) := (r_flour (k := 0) hf (by decide)).trans (congrArg some (q_ra (by omega)))
theorem r_flour1 {u : bM} {f : Nat} (hf : f < 6) : fX9_flour (nI f) 1 u = some (vw u 710 (41 + 28 * f)) := (r_flour (k := 1) hf (by decide)).trans (congrArg some (q_ra (by omega)))
theorem r_flour2 {u : bM} {f : Nat} (hf : f < 6) : fX9_flour (nI f) 2 u = some (vw u 710 (42 + 28 * f)) := (r_flour (k := 2) hf (by decide)).trans (congrArg some (q_ra (by omega)))
theorem r_flour3 {u : bM} {f : Nat} (hf : f < 6) : fX9_flour (nI f) 3 u = some (vw u 710 (43 + 28 * f)) := (r_flour (k := 3) hf (by decide)).trans (congrArg some (q_ra (by omega)))
theorem r_batch0 {u : bM} {t : Nat} (ht : t < 24) : fX9_batch (nI t) 0 u = some (vw u 710 (232 + 11 * t)) := (r_batch (k := 0) ht (by decide)).trans (congrArg some (q_ra (by omega)))
theorem r_batch1 {u : bM} {t : Nat} (ht : t < 24) : fX9_batch (nI t) 1 u = some (vw u 710 (233 + 11 * t)) := (r_batch (k := 1) ht (by decide)).trans (congrArg some (q_ra (by omega)))
theorem r_batch2 {u : bM} {t : Nat} (ht : t < 24) : fX9_batch (nI t) 2 u = some (vw u 710 (234 + 11 * t)) := (r_batch (k := 2) ht (by decide)).trans (congrArg some (q_ra (by omega)))
theorem r_batch3 {u : bM} {t : Nat} (ht : t < 24) : fX9_batch (nI t) 3 u = some (vw u 710 (235 + 11 * t)) := (r_batch (k := 3) ht (by decide)).trans (congrArg some (q_ra (by omega)))
theorem r_batch4 {u : bM} {t : Nat} (ht : t < 24) : fX9_batch (nI t) 4 u = some (vw u 710 (236 + 11 * t)) := (r_batch (k := 4) ht (by decide)).trans (congrArg some (q_ra (by omega)))
theorem r_batch5 {u : bM} {t : Nat} (ht : t < 24) : fX9_batch (nI t) 5 u = some (vw u 710 (237 + 11 * t)) := (r_batch (k := 5) ht (by decide)).trans (congrArg some (q_ra (by omega)))
theorem r_batchG {u : bM} {t k : Nat} (ht : t < 24) (hk : k < 5) : fX9_batch (nI t) (6 + nI k) u = some (vw u 710 (238 + 11 * t + k)) := by
  rw [q_l6, nI_add, r_batch ht (by omega)]
  exact congrArg some (q_ra (by omega))
/-- the part of a row that standards are made of -/
def q_R (nf nb : Nat) (r : bM) : Prop := nf ≤ 6 ∧ nb ≤ 6 ∧ r 5 = nI nf ∧ ∀ b, b < nb → qb 1 (10 ^ nf - 1) (r (210 + 4 * b))
theorem q_R.keep {nf nb : Nat} {r r9 : bM} (h : q_R nf nb r) (h5 : r9 5 = r 5) (hb : ∀ b, b < nb → r9 (210 + 4 * b) = r (210 + 4 * b)) : q_R nf nb r9 := ⟨h.1, h.2.1, by rw [h5]; exact h.2.2.1, fun b q => by rw [hb b q]; exact h.2.2.2 b q⟩
section
variable {T nf nb nt no : Nat} {Ls : Nat → List (Nat × Nat)} {r c u : bM}
theorem q_S.R (h : q_S T nf nb nt no Ls r c) : q_R nf nb r := ⟨h.hnf, h.hnb, h.rnf, h.rrc⟩
theorem q_R.rcn (h : q_R nf nb r) {b : Nat} (hb : b < nb) : r (210 + 4 * b) = nI (qn (r (210 + 4 * b))) ∧ 1 ≤ qn (r (210 + 4 * b)) ∧ qn (r (210 + 4 * b)) < 10 ^ nf := by
  have h1 := p10_le h.1
  obtain ⟨g1, g2, g3⟩ := qb_n (h.2.2.2 b hb) (by omega)
  exact ⟨g1, g2, by omega⟩
theorem q_R.mf (h : q_R nf nb r) {b : Nat} (hb : b < nb) : qmf r b < nf ∧ qam r b (qmf r b) ≠ 0 ∧ ∀ i, i < qmf r b → qam r b i = 0 := by
  obtain ⟨g1, g2, g3⟩ := h.rcn hb
  have h1 := h.1
  obtain ⟨m1, m2, m3⟩ := qmG_spec 6 (qn (r (210 + 4 * b))) g2 (Nat.lt_of_lt_of_le g3 (Nat.pow_le_pow_right (by decide) h1))
  refine ⟨?_, m2, m3⟩
  rcases Nat.lt_or_ge (qmf r b) nf with e | e
  · exact e
  · exact absurd (qdg_hi g3 e) m2
theorem r_amount (h : q_R nf nb (vw u 710)) {b f : Nat} (hb : b < nb) (hf : f < 100) : fX9_amount (nI b) (nI f) u = some (nI (qam (vw u 710) b f)) := by
  have h1 := h.2.1
  obtain ⟨g1, g2, g3⟩ := h.rcn hb
  have g4 := p10_le h.1
  unfold fX9_amount
  rw [r_bread2 (by omega), q_bnr, g1, r_digit (by omega) hf]
  rfl
theorem r_main (h : q_R nf nb (vw u 710)) {b : Nat} (hb : b < nb) : fX9_mainFlour (nI b) u = some (nI (qmf (vw u 710) b)) := by
  obtain ⟨m1, m2, m3⟩ := h.mf hb
  have h1 := h.1
  have key := q_for (F := fX9_mainFlour_L2 (nI b) u) (z := fun _ => none) (n := qmf (vw u 710) b) (Sp := fun i K => K (nI i) = some (nI (qmf (vw u 710) b))) (fun K => by
    unfold fX9_mainFlour_L2
    rw [r_amount h hb (by omega), q_bnr, if_neg (nI_ne0 (by omega) (by have := qdg_lt (qn (vw u 710 (210 + 4 * b))) (qmf (vw u 710) b); unfold qam; omega))]) (fun i K hi hK => by
    unfold fX9_mainFlour_L2
    rw [r_amount h hb (by omega), q_bnr, m3 i hi, if_pos nI_0, q_nm, q_add1]
    exact hK) lpN 0 (Nat.zero_le _) (q_lpN _ (by omega))
  unfold fX9_mainFlour
  exact key
theorem r_standard (h : q_R nf nb (vw u 710)) {b : Nat} (hb : b < nb) : fX9_standard (nI b) u = some (qstd nf (vw u 710) b) := by
  have h1 := h.2.1
  have h2 := h.1
  have en : u (710 + (5 : Int32).toNatClampNeg) = nI nf := h.2.2.1
  unfold fX9_standard
  rw [r_bread1 (by omega), q_bnr, q_nm, q_l0]
  rw [q_sum some (fun f => nI (qam (vw u 710) b f) * vw u 710 (40 + 28 * f)) nf (by omega) (fun K y => by
    unfold fX9_standard_L16
    rw [en, if_pos (Int32.le_refl _)]) (fun K y i hi => by
    unfold fX9_standard_L16
    rw [en, if_neg (nI_ge hi (by omega)), r_amount h hb (by omega), q_bnr, r_flour0 (by omega), q_bnr, q_nm, q_nm, q_add1])]
  rfl
/-- the units that a batch uses -/
def quse (r : bM) (b f : Nat) (x y : Int32) : Int32 := if f = qmf r b then nI (qam r b f) * x + y else nI (qam r b f) * x
theorem r_used (h : q_R nf nb (vw u 710)) {b f : Nat} {x y : Int32} (hb : b < nb) (hf : f < 100) : fX9_used (nI b) x y (nI f) u = some (quse (vw u 710) b f x y) := by
  have hm := (h.mf hb).1
  have h1 := h.1
  unfold fX9_used quse
  rw [r_amount h hb hf, q_bnr, r_main h hb, q_bnr]
  by_cases e : f = qmf (vw u 710) b
  · rw [if_pos e, if_pos (by rw [← e])]
  · rw [if_neg e, if_neg (fun q => e ((nI_eq (by omega) (by omega)).mp q)), Int32.add_zero]
theorem c_unitsFor (h : q_R nf nb r) {b f : Nat} {x y : Int32} (hb : b < nb) (hf : f < 6) (g1 : c (212 + 6 * b + f) = nI (qam r b f)) (g2 : c (194 + b) = nI (qmf r b)) : fX1_unitsFor (nI b) (nI f) x y (vw c 175) = some (quse r b f x y) := by
  have hm := (h.mf hb).1
  have h1 := h.1
  have h2 := h.2.1
  have e1 : vw c 175 (37 + 6 * b + f) = nI (qam r b f) := (q_at (by omega)).trans g1
  have e2 : vw c 175 (19 + b) = nI (qmf r b) := (q_at (by omega)).trans g2
  unfold fX1_unitsFor quse
  rw [q_ck (by omega) (by decide), q_ck hf (by decide), nI_clamp (by omega), nI_clamp (by omega), e1, e2, q_nm, q_ck (by omega) (by decide)]
  by_cases e : f = qmf r b
  · rw [if_pos e, if_pos (by rw [← e])]
  · rw [if_neg e, if_neg (fun q => e ((nI_eq (by omega) (by omega)).mp q))]
end
