/-! ===== layer 2: questions on a state ===== -/
section
variable {T nf nb nt no : Nat} {Ls : Nat → List (Nat × Nat)} {r c u : bM}
theorem c_value (h : q_S T nf nb nt no Ls r c) : fX2_value (vw c 6) = some (qS (fun f => qV (Ls f)) nf) := by
  have h1 := h.hnf
  have en : vw c 6 0 = nI nf := h.cnf
  unfold fX2_value
  rw [q_l0]
  rw [q_sum some (fun f => qV (Ls f)) nf (by omega) (fun K y => by
    unfold fX2_value_L4
    rw [en, if_pos (Int32.le_refl _)]) (fun K y i hi => by
    have hl := (h.lo i hi).1
    have hq := h.clt i hi
    unfold fX2_value_L4
    rw [en, if_neg (nI_ge hi (by omega)), q_l0]
    have key := q_sumL (F := fX2_value_L14 (vw c 6) (nI i) K) (z := fun _ _ => none) (fun y9 => K y9 (nI (i + 1))) (fun x => nI x.1 * nI x.2) (Ls i) (by omega) (fun K9 y9 => by
      unfold fX2_value_L14
      rw [q_ck (show i < 6 by omega) (by decide), nI_clamp (by omega), hq.1, if_pos (Int32.le_refl _), q_nm, q_add1]) (fun K9 y9 l x hx => by
      have hi9 := q_ix hx
      obtain ⟨g1, g2⟩ := hq.2 l x hx
      unfold fX2_value_L14
      rw [q_ck (show i < 6 by omega) (by decide), nI_clamp (show i < 2 ^ 31 by omega), hq.1, if_neg (nI_ge hi9 (by omega)), q_ck (show i < 6 by omega) (by decide), q_ck (show l < 12 by omega) (by decide), q_ck (show i < 6 by omega) (by decide), q_ck (show l < 12 by omega) (by decide), nI_clamp (show l < 2 ^ 31 by omega), g1, g2, q_nm, q_nm, q_add1]) y
    exact key)]
  rw [← q_l0, Int32.zero_add]
theorem r_worth (h : q_S T nf nb nt no Ls (vw u 710) c) : fX9_worthOfFlour u = some (qS (fun f => qV (Ls f)) nf) := by
  have h1 := h.hnf
  have en : u (710 + (5 : Int32).toNatClampNeg) = nI nf := h.rnf
  unfold fX9_worthOfFlour
  rw [q_l0]
  rw [q_sum some (fun f => qV (Ls f)) nf (by omega) (fun K y => by
    unfold fX9_worthOfFlour_L4
    rw [en, if_pos (Int32.le_refl _)]) (fun K y i hi => by
    have hl := (h.lo i hi).1
    have hq := h.rlt i hi
    unfold fX9_worthOfFlour_L4
    rw [en, if_neg (nI_ge hi (by omega)), q_l0]
    have key := q_sumL (F := fX9_worthOfFlour_L16 u (nI i) K) (z := fun _ _ => none) (fun y9 => K y9 (nI (i + 1))) (fun x => nI x.1 * nI x.2) (Ls i) (by omega) (fun K9 y9 => by
      unfold fX9_worthOfFlour_L16
      rw [r_lots (by omega) hq, q_bnr, if_pos (Int32.le_refl _), q_nm, q_add1]) (fun K9 y9 l x hx => by
      have hi9 := q_ix hx
      obtain ⟨g1, g2⟩ := hq.2 l x hx
      have e1 : u (710 + (44 + 28 * i + 2 * l + 0)) = nI x.1 := g1
      have e2 : u (710 + (44 + 28 * i + 2 * l + 1)) = nI x.2 := (q_ra (by omega)).trans g2
      unfold fX9_worthOfFlour_L16
      rw [r_lots (by omega) hq, q_bnr, if_neg (nI_ge hi9 (by omega)), q_l0, r_lot (by omega) (by omega) (by decide), q_bnr, q_l1, r_lot (by omega) (by omega) (by decide), q_bnr, e1, e2, q_nm, q_nm, ← q_l1, q_add1]) y
    exact key)]
  rw [← q_l0, Int32.zero_add]
theorem c_bvalue (h : q_S T nf nb nt no Ls r c) : fX1_value (vw c 175) = some (qS (fun b => r (211 + 4 * b) * qstd nf r b) nb) := by
  have h1 := h.hnb
  have en : vw c 175 0 = nI nb := h.cnb
  unfold fX1_value
  rw [q_l0]
  rw [q_sum some (fun b => r (211 + 4 * b) * qstd nf r b) nb (by omega) (fun K y => by
    unfold fX1_value_L4
    rw [en, if_pos (Int32.le_refl _)]) (fun K y i hi => by
    have e1 : vw c 175 (25 + i) = r (211 + 4 * i) := (q_at (by omega)).trans (h.clo i hi)
    have e2 : vw c 175 (13 + i) = qstd nf r i := (q_at (by omega)).trans (h.cst i hi)
    unfold fX1_value_L4
    rw [en, if_neg (nI_ge hi (by omega)), q_ck (by omega) (by decide), q_ck (by omega) (by decide), nI_clamp (by omega), e1, e2, q_nm, q_nm, q_add1])]
  rw [← q_l0, Int32.zero_add]
theorem r_bvalue (h : q_S T nf nb nt no Ls (vw u 710) c) : fX9_worthOfLoaves u = some (qS (fun b => vw u 710 (211 + 4 * b) * qstd nf (vw u 710) b) nb) := by
  have h1 := h.hnb
  have en : u (710 + (6 : Int32).toNatClampNeg) = nI nb := h.rnb
  unfold fX9_worthOfLoaves
  rw [q_l0]
  rw [q_sum some (fun b => vw u 710 (211 + 4 * b) * qstd nf (vw u 710) b) nb (by omega) (fun K y => by
    unfold fX9_worthOfLoaves_L4
    rw [en, if_pos (Int32.le_refl _)]) (fun K y i hi => by
    unfold fX9_worthOfLoaves_L4
    rw [en, if_neg (nI_ge hi (by omega)), r_bread3 (by omega), q_bnr, r_standard h.R hi, q_bnr, q_nm, q_nm, q_add1])]
  rw [← q_l0, Int32.zero_add]
theorem c_profit (h : q_S T nf nb nt no Ls r c) : fX1_standardProfit (vw c 175) = some (r 12) := by
  have h1 := h.hnb
  have en : vw c 175 0 = nI nb := h.cnb
  unfold fX1_standardProfit
  rw [q_l0]
  rw [q_sum some (fun b => c (206 + b) * (c (176 + b) - c (188 + b))) nb (by omega) (fun K y => by
    unfold fX1_standardProfit_L4
    rw [en, if_pos (Int32.le_refl _)]) (fun K y i hi => by
    have e1 : vw c 175 (31 + i) = c (206 + i) := q_at (by omega)
    have e2 : vw c 175 (1 + i) = c (176 + i) := q_at (by omega)
    have e3 : vw c 175 (13 + i) = c (188 + i) := q_at (by omega)
    unfold fX1_standardProfit_L4
    rw [en, if_neg (nI_ge hi (by omega)), q_ck (by omega) (by decide), q_ck (by omega) (by decide), q_ck (by omega) (by decide), nI_clamp (by omega), e1, e2, e3, q_nm, q_nm, q_add1])]
  rw [← q_l0, Int32.zero_add, h.csd]
/-- the sum of the gaps of a kind -/
def qgs (nt : Nat) (r : bM) (k : Nat) : Int32 := if k = 5 then r 11 else qS (fun t => r (238 + 11 * t + k)) nt
theorem c_sumOfGaps (h : q_S T nf nb nt no Ls r c) {k : Nat} (hk : k < 5) : fX0_sumOfGaps (nI k) (vw c 277) = some (qS (fun t => r (238 + 11 * t + k)) nt) := by
  have h1 := h.hnt
  have en : vw c 277 0 = nI nt := h.cnt
  unfold fX0_sumOfGaps
  rw [q_l0]
  rw [q_sum some (fun t => r (238 + 11 * t + k)) nt (by omega) (fun K y => by
    unfold fX0_sumOfGaps_L4
    rw [en, if_pos (Int32.le_refl _)]) (fun K y i hi => by
    have e1 : vw c 277 (193 + 5 * i + k) = r (238 + 11 * i + k) := (q_at (by omega)).trans (h.ctg i k hi hk)
    unfold fX0_sumOfGaps_L4
    rw [en, if_neg (nI_ge hi (by omega)), q_ck (by omega) (by decide), q_ck hk (by decide), nI_clamp (show i < 2 ^ 31 by omega), nI_clamp (show k < 2 ^ 31 by omega), e1, q_nm, q_nm, q_add1])]
  rw [← q_l0, Int32.zero_add]
theorem c_sumOfKind (h : q_S T nf nb nt no Ls r c) {k : Nat} (hk : k < 6) : fX6_sumOfKind (nI k) c = some (qgs nt r k) := by
  unfold fX6_sumOfKind qgs
  by_cases e : k = 5
  · rw [if_pos e, if_pos (by rw [e]; rfl), h.csg]
  · rw [if_neg e, if_neg (show ¬ nI k = 5 from fun q => e ((nI_eq (b := 5) (by omega) (by decide)).mp q)), c_sumOfGaps h (by omega)]
    rfl
theorem r_sumOf (h : q_S T nf nb nt no Ls (vw u 710) c) {k : Nat} (hk : k < 6) : fX9_sumOf (nI k) u = some (qgs nt (vw u 710) k) := by
  have h1 := h.hnt
  have en : u (710 + (7 : Int32).toNatClampNeg) = nI nt := h.rnt
  unfold fX9_sumOf qgs
  by_cases e : k = 5
  · rw [if_pos e, if_pos (by rw [e]; rfl)]
    rfl
  · rw [if_neg e, if_neg (show ¬ nI k = 5 from fun q => e ((nI_eq (b := 5) (by omega) (by decide)).mp q)), q_l0]
    rw [q_sum some (fun t => vw u 710 (238 + 11 * t + k)) nt (by omega) (fun K y => by
      unfold fX9_sumOf_L17
      rw [en, if_pos (Int32.le_refl _)]) (fun K y i hi => by
      unfold fX9_sumOf_L17
      rw [en, if_neg (nI_ge hi (by omega)), r_batchG (by omega) (by omega), q_bnr, q_nm, q_nm, q_add1])]
    rw [← q_l0, Int32.zero_add]
theorem c_allGaps (h : q_S T nf nb nt no Ls r c) : fX6_sumOfAllGaps c = some (qS (qgs nt r) 6) := by
  unfold fX6_sumOfAllGaps
  rw [q_l0]
  rw [q_sum some (qgs nt r) 6 (by omega) (fun K y => by
    unfold fX6_sumOfAllGaps_L4
    rw [q_l6, if_pos (Int32.le_refl _)]) (fun K y i hi => by
    unfold fX6_sumOfAllGaps_L4
    rw [q_l6, if_neg (nI_ge hi (by omega)), c_sumOfKind h hi, q_bnr, q_nm, q_nm, q_add1])]
  rw [← q_l0, Int32.zero_add]
theorem r_allGaps (h : q_S T nf nb nt no Ls (vw u 710) c) : fX9_allGaps u = some (qS (qgs nt (vw u 710)) 6) := by
  unfold fX9_allGaps
  rw [q_l0]
  rw [q_sum some (qgs nt (vw u 710)) 6 (by omega) (fun K y => by
    unfold fX9_allGaps_L4
    rw [q_l5, if_pos (nI_lt (by decide) (by decide))]) (fun K y i hi => by
    unfold fX9_allGaps_L4
    rw [q_l5, if_neg (nI_nlt (show i ≤ 5 by omega) (by decide)), r_sumOf h hi, q_bnr, q_nm, q_nm, q_add1])]
  rw [← q_l0, Int32.zero_add]
theorem r_loss (h : q_S T nf nb nt no Ls (vw u 710) c) {t : Nat} (ht : t < nt) : fX9_loss (nI t) u = some (qls nf (vw u 710) t) := by
  have h1 := h.hnt
  have h2 := h.hnb
  obtain ⟨b, hb, e⟩ := h.rtb t ht
  unfold fX9_loss fX9_good qls
  rw [r_batch5 (by omega), q_bnr, r_batch1 (by omega), q_bnr, r_batch2 (by omega), q_bnr, q_bnr, r_batch0 (by omega), q_bnr, e, r_standard h.R hb, q_bnr, qn_nI (by omega)]
theorem r_gapsOf (h : q_S T nf nb nt no Ls (vw u 710) c) {t : Nat} (ht : t < nt) : fX9_gapsOf (nI t) u = some (qS (fun k => vw u 710 (238 + 11 * t + k)) 5) := by
  have h1 := h.hnt
  unfold fX9_gapsOf
  rw [q_l0]
  rw [q_sum some (fun k => vw u 710 (238 + 11 * t + k)) 5 (by omega) (fun K y => by
    unfold fX9_gapsOf_L4
    rw [q_l5, if_pos (Int32.le_refl _)]) (fun K y i hi => by
    unfold fX9_gapsOf_L4
    rw [q_l5, if_neg (nI_ge hi (by omega)), r_batchG (by omega) hi, q_bnr, q_nm, q_nm, q_add1])]
  rw [← q_l0, Int32.zero_add]
/-- batches whose gaps aren't their loss -/
def qune (nf nt : Nat) (r : bM) : Int32 := qS (fun t => if qls nf r t = qS (fun k => r (238 + 11 * t + k)) 5 then 0 else 1) nt
theorem c_unexplained (h : q_S T nf nb nt no Ls r c) : fX0_unexplained (vw c 277) = some (qune nf nt r) := by
  have h1 := h.hnt
  have en : vw c 277 0 = nI nt := h.cnt
  unfold fX0_unexplained
  rw [q_l0]
  rw [q_sum some (fun t => if qls nf r t = qS (fun k => r (238 + 11 * t + k)) 5 then 0 else 1) nt (by omega) (fun K y => by
    unfold fX0_unexplained_L4
    rw [en, if_pos (Int32.le_refl _)]) (fun K y i hi => by
    have e1 : vw c 277 (169 + i) = qls nf r i := (q_at (by omega)).trans (h.ctl i hi)
    have e2 : qS (fun k => vw (vw c 277) (193 + 5 * i) k) 5 = qS (fun k => r (238 + 11 * i + k)) 5 := qS_congr (fun k hk => by
      show c (277 + (193 + 5 * i + k)) = _
      rw [show 277 + (193 + 5 * i + k) = 470 + 5 * i + k by omega]
      exact h.ctg i k hi hk)
    unfold fX0_unexplained_L4
    rw [en, if_neg (nI_ge hi (by omega)), q_ck (by omega) (by decide), q_ck (by omega) (by decide), nI_clamp (show i < 2 ^ 31 by omega), e1, q_l5, c_sumOf (by decide) (by decide), q_bnr, e2]
    by_cases e : qls nf r i = qS (fun k => r (238 + 11 * i + k)) 5
    · rw [if_pos e, if_pos e]
      unfold fX0_unexplained_J34
      rw [q_nm, q_add1, Int32.add_zero]
    · rw [if_neg e, if_neg e, q_nm]
      unfold fX0_unexplained_J34
      rw [q_nm, q_add1])]
  rw [← q_l0, Int32.zero_add]
  rfl
theorem c_imbalance (h : q_S T nf nb nt no Ls r c) : fX6_imbalance c = some (if 0 ≤ (r 0 + qS (fun f => qV (Ls f)) nf + qS (fun b => r (211 + 4 * b) * qstd nf r b) nb) - (r 1 + r 12 - qS (qgs nt r) 6) then (r 0 + qS (fun f => qV (Ls f)) nf + qS (fun b => r (211 + 4 * b) * qstd nf r b) nb) - (r 1 + r 12 - qS (qgs nt r) 6) else 0 - ((r 0 + qS (fun f => qV (Ls f)) nf + qS (fun b => r (211 + 4 * b) * qstd nf r b) nb) - (r 1 + r 12 - qS (qgs nt r) 6))) := by
  unfold fX6_imbalance
  rw [c_value h, q_bnr, c_bvalue h, q_bnr, q_nm, c_profit h, q_bnr, c_allGaps h, q_bnr, q_nm, q_nm, h.cca, h.cfc]
theorem c_sumLoss (h : q_S T nf nb nt no Ls r c) : fX0_sumOfLosses (vw c 277) = some (qS (qls nf r) nt) := by
  have h1 := h.hnt
  have en : vw c 277 0 = nI nt := h.cnt
  unfold fX0_sumOfLosses
  rw [en, c_sumOf (by decide) h1, q_bnr]
  exact congrArg some (qS_congr (fun t ht => by
    show c (277 + (169 + t)) = _
    rw [show 277 + (169 + t) = 446 + t by omega]
    exact h.ctl t ht))
theorem c_sumOven (h : q_S T nf nb nt no Ls r c) : fX0_sumOfOvenCosts (vw c 277) = some (r 10) := by
  have h1 := h.hnt
  have en : vw c 277 0 = nI nt := h.cnt
  unfold fX0_sumOfOvenCosts
  rw [en, c_sumOf (by decide) h1, q_bnr, ← h.coc]
  exact congrArg some (qS_congr (fun t ht => by
    show c (277 + (145 + t)) = _
    rw [show 277 + (145 + t) = 422 + t by omega]))
theorem c_sumPlanned (h : q_S T nf nb nt no Ls r c) : fX0_sumOfPlanned (vw c 277) = some (qS (fun t => r (233 + 11 * t)) nt) := by
  have h1 := h.hnt
  have en : vw c 277 0 = nI nt := h.cnt
  unfold fX0_sumOfPlanned
  rw [en, c_sumOf (by decide) h1, q_bnr]
  exact congrArg some (qS_congr (fun t ht => by
    show c (277 + (25 + t)) = _
    rw [show 277 + (25 + t) = 302 + t by omega]
    exact h.ctp t ht))
theorem c_sumBurnt (h : q_S T nf nb nt no Ls r c) : fX0_sumOfBurnt (vw c 277) = some (qS (fun t => r (234 + 11 * t)) nt) := by
  have h1 := h.hnt
  have en : vw c 277 0 = nI nt := h.cnt
  unfold fX0_sumOfBurnt
  rw [en, c_sumOf (by decide) h1, q_bnr]
  exact congrArg some (qS_congr (fun t ht => by
    show c (277 + (49 + t)) = _
    rw [show 277 + (49 + t) = 326 + t by omega]
    exact h.ctu t ht))
end
