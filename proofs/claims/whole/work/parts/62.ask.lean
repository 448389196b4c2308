/-! ===== layer 2: the questions of the face ===== -/
section
variable {T nf nb nt no cur : Nat} {Ls : Nat → List (Nat × Nat)} {u v : bM}
theorem q_S.z (h : q_S T nf nb nt no Ls (vw u 710) (vw v (stO cur))) (x : Int32) : q_S T nf nb nt no Ls (vw (upd u 3 x) 710) (vw v (stO cur)) := by
  rw [q_u3 u x 710 (by decide)]
  exact h
theorem k_5 (P : Nat → Int32) (hcur : cur < 12) (cv : v 0 = nI cur) (h : q_S T nf nb nt no Ls (vw u 710) (vw v (stO cur))) : ∃ x, bS_5 P v u v (upd u 3 x) := by
  refine ⟨0, vw u 710 4, ⟨?_, rfl⟩, rfl⟩
  unfold fX8_clock
  rw [cv, q_ck hcur (by decide), nI_clamp (show cur < 2 ^ 31 by omega), q_nm]
  exact congrArg some (h.cck)
theorem k_6 (P : Nat → Int32) (hcur : cur < 12) (cv : v 0 = nI cur) (h : q_S T nf nb nt no Ls (vw u 710) (vw v (stO cur))) : ∃ x, bS_6 P v u v (upd u 3 x) := by
  refine ⟨0, vw u 710 0, ⟨?_, rfl⟩, rfl⟩
  unfold fX8_cash
  rw [cv, q_ck hcur (by decide), nI_clamp (show cur < 2 ^ 31 by omega), q_nm]
  exact congrArg some (h.cca)
theorem k_8 (P : Nat → Int32) (hcur : cur < 12) (cv : v 0 = nI cur) (h : q_S T nf nb nt no Ls (vw u 710) (vw v (stO cur))) : ∃ x, bS_8 P v u v (upd u 3 x) := by
  refine ⟨0, vw u 710 5, ⟨?_, rfl⟩, rfl⟩
  unfold fX8_flourCount
  rw [cv, q_ck hcur (by decide), nI_clamp (show cur < 2 ^ 31 by omega), q_nm]
  exact congrArg some (h.cnf.trans h.rnf.symm)
theorem k_14 (P : Nat → Int32) (hcur : cur < 12) (cv : v 0 = nI cur) (h : q_S T nf nb nt no Ls (vw u 710) (vw v (stO cur))) : ∃ x, bS_14 P v u v (upd u 3 x) := by
  refine ⟨0, vw u 710 6, ⟨?_, rfl⟩, rfl⟩
  unfold fX8_breadCount
  rw [cv, q_ck hcur (by decide), nI_clamp (show cur < 2 ^ 31 by omega), q_nm]
  exact congrArg some (h.cnb.trans h.rnb.symm)
theorem k_20 (P : Nat → Int32) (hcur : cur < 12) (cv : v 0 = nI cur) (h : q_S T nf nb nt no Ls (vw u 710) (vw v (stO cur))) : ∃ x, bS_20 P v u v (upd u 3 x) := by
  refine ⟨0, vw u 710 3, ⟨?_, rfl⟩, rfl⟩
  unfold fX8_ovenCount
  rw [cv, q_ck hcur (by decide), nI_clamp (show cur < 2 ^ 31 by omega), q_nm]
  exact congrArg some (h.cno.trans h.rno.symm)
theorem k_24 (P : Nat → Int32) (hcur : cur < 12) (cv : v 0 = nI cur) (h : q_S T nf nb nt no Ls (vw u 710) (vw v (stO cur))) : ∃ x, bS_24 P v u v (upd u 3 x) := by
  refine ⟨0, vw u 710 2, ⟨?_, rfl⟩, rfl⟩
  unfold fX8_standardRate
  rw [cv, q_ck hcur (by decide), nI_clamp (show cur < 2 ^ 31 by omega), q_nm]
  exact congrArg some (h.cbs)
theorem k_25 (P : Nat → Int32) (hcur : cur < 12) (cv : v 0 = nI cur) (h : q_S T nf nb nt no Ls (vw u 710) (vw v (stO cur))) : ∃ x, bS_25 P v u v (upd u 3 x) := by
  refine ⟨0, vw u 710 7, ⟨?_, rfl⟩, rfl⟩
  unfold fX8_batchCount
  rw [cv, q_ck hcur (by decide), nI_clamp (show cur < 2 ^ 31 by omega), q_nm]
  exact congrArg some (h.cnt.trans h.rnt.symm)
theorem k_44 (P : Nat → Int32) (hcur : cur < 12) (cv : v 0 = nI cur) (h : q_S T nf nb nt no Ls (vw u 710) (vw v (stO cur))) : ∃ x, bS_44 P v u v (upd u 3 x) := by
  refine ⟨0, vw u 710 8, ⟨?_, rfl⟩, rfl⟩
  unfold fX8_income
  rw [cv, q_ck hcur (by decide), nI_clamp (show cur < 2 ^ 31 by omega), q_nm]
  exact congrArg some (h.cea)
theorem k_45 (P : Nat → Int32) (hcur : cur < 12) (cv : v 0 = nI cur) (h : q_S T nf nb nt no Ls (vw u 710) (vw v (stO cur))) : ∃ x, bS_45 P v u v (upd u 3 x) := by
  refine ⟨0, vw u 710 9, ⟨?_, rfl⟩, rfl⟩
  unfold fX8_spentOnFlour
  rw [cv, q_ck hcur (by decide), nI_clamp (show cur < 2 ^ 31 by omega), q_nm]
  exact congrArg some (h.cpf)
theorem k_22 (P : Nat → Int32) (hcur : cur < 12) (cv : v 0 = nI cur) (h : q_S T nf nb nt no Ls (vw u 710) (vw v (stO cur))) : ∃ x, bS_22 P v u v (upd u 3 x) := by
  refine ⟨0, nI (qov no (vw u 710)), ⟨?_, rfl⟩, ?_⟩
  · unfold fX8_nextOven
    rw [cv, q_ck hcur (by decide), nI_clamp (show cur < 2 ^ 31 by omega), q_nm, q_vv, c_firstFree h.O, q_bnr]
  · unfold fX9_nextOven
    rw [r_firstOven h.P, q_bnr]
    rfl
theorem k_37 (P : Nat → Int32) (hcur : cur < 12) (cv : v 0 = nI cur) (h : q_S T nf nb nt no Ls (vw u 710) (vw v (stO cur))) : ∃ x, bS_37 P v u v (upd u 3 x) := by
  refine ⟨0, qS (qgs nt (vw u 710)) 6, ⟨?_, rfl⟩, ?_⟩
  · unfold fX8_totalLoss
    rw [cv, q_ck hcur (by decide), nI_clamp (show cur < 2 ^ 31 by omega), q_nm, c_allGaps h, q_bnr]
  · unfold fX9_totalLoss
    rw [r_allGaps h, q_bnr]
    rfl
theorem k_47 (P : Nat → Int32) (hcur : cur < 12) (cv : v 0 = nI cur) (h : q_S T nf nb nt no Ls (vw u 710) (vw v (stO cur))) : ∃ x, bS_47 P v u v (upd u 3 x) := by
  refine ⟨0, qS (fun f => qV (Ls f)) nf, ⟨?_, rfl⟩, ?_⟩
  · unfold fX8_flourValue
    rw [cv, q_ck hcur (by decide), nI_clamp (show cur < 2 ^ 31 by omega), q_nm, q_vv, c_value h, q_bnr]
  · unfold fX9_flourValue
    rw [r_worth h, q_bnr]
    rfl
theorem k_48 (P : Nat → Int32) (hcur : cur < 12) (cv : v 0 = nI cur) (h : q_S T nf nb nt no Ls (vw u 710) (vw v (stO cur))) : ∃ x, bS_48 P v u v (upd u 3 x) := by
  refine ⟨0, qS (fun b => vw u 710 (211 + 4 * b) * qstd nf (vw u 710) b) nb, ⟨?_, rfl⟩, ?_⟩
  · unfold fX8_loafValue
    rw [cv, q_ck hcur (by decide), nI_clamp (show cur < 2 ^ 31 by omega), q_nm, q_vv, c_bvalue h, q_bnr]
  · unfold fX9_loafValue
    rw [r_bvalue h, q_bnr]
    rfl
theorem k_38 (P : Nat → Int32) (hcur : cur < 12) (cv : v 0 = nI cur) (h : q_S T nf nb nt no Ls (vw u 710) (vw v (stO cur))) : ∃ x, bS_38 P v u v (upd u 3 x) := by
  refine ⟨0, qdr (qls nf (vw u 710)) nt 0 (-1), ⟨?_, rfl⟩, ?_⟩
  · unfold fX8_worstBatch
    rw [cv, q_ck hcur (by decide), nI_clamp (show cur < 2 ^ 31 by omega), q_nm, q_vv, c_dearest h, q_bnr]
  · have e := r_worstBatch (h.z 0)
    rw [q_u3 u 0 710 (by decide)] at e
    unfold fX9_worstBatch
    rw [q_nm]
    exact e
theorem k_39 (P : Nat → Int32) (hcur : cur < 12) (cv : v 0 = nI cur) (h : q_S T nf nb nt no Ls (vw u 710) (vw v (stO cur))) : ∃ x, bS_39 P v u v (upd u 3 x) := by
  refine ⟨0, nI (qgk (qgs nt (vw u 710)) 5 1 0), ⟨?_, rfl⟩, ?_⟩
  · unfold fX8_worstKind
    rw [cv, q_ck hcur (by decide), nI_clamp (show cur < 2 ^ 31 by omega), q_nm, c_dearestKind h, q_bnr]
  · have e := r_worstKind (h.z 0)
    rw [q_u3 u 0 710 (by decide)] at e
    unfold fX9_worstKind
    rw [q_nm]
    exact e
theorem k_46 (P : Nat → Int32) (hcur : cur < 12) (cv : v 0 = nI cur) (h : q_S T nf nb nt no Ls (vw u 710) (vw v (stO cur))) : ∃ x, bS_46 P v u v (upd u 3 x) := by
  refine ⟨0, vw u 710 10, ⟨?_, rfl⟩, rfl⟩
  unfold fX8_spentOnOvens
  rw [cv, q_ck hcur (by decide), nI_clamp (show cur < 2 ^ 31 by omega), q_nm, q_vv, c_sumOven h, q_bnr]
theorem k_9 (P : Nat → Int32) (hcur : cur < 12) (cv : v 0 = nI cur) (h : q_S T nf nb nt no Ls (vw u 710) (vw v (stO cur))) : ∃ x, bS_9 P v u v (upd u 3 x) := by
  have h1 := h.hnf
  have h2 := h.hnb
  have h3 := h.hnt
  have n0 : ∀ p : Int32, (p < 0 ∨ nI nf ≤ p) → xX8_flourPrice p v = some 0 ∧ fX9_flourPrice p u = some (0, upd u 3 1) := by
    intro p hp
    obtain ⟨g1, g2, g3⟩ := n_flour hcur cv h hp
    constructor
    · unfold xX8_flourPrice
      rw [g2, q_xs]
    · unfold fX9_flourPrice
      rw [g3, q_bnd, if_pos rfl]
  unfold bS_9
  rcases pk_ix (P 1) (n := nf) (by omega) with e | e | ⟨j, hj, e⟩
  · exact ⟨1, Or.inr ⟨0, (n0 _ (Or.inl e)).1, rfl, (n0 _ (Or.inl e)).2, pk_us⟩⟩
  · exact ⟨1, Or.inr ⟨0, (n0 _ (Or.inr e)).1, rfl, (n0 _ (Or.inr e)).2, pk_us⟩⟩
  · rw [e]
    obtain ⟨g1, g2, g3⟩ := y_flour hcur cv h hj
    have h9 := h.z 0
    refine ⟨0, Or.inl ⟨vw u 710 (40 + 28 * j), ⟨?_, rfl⟩, ?_, pk_us⟩⟩
    · unfold fX8_flourPrice
      rw [g1, q_bnr, cv, q_ck hcur (by decide), nI_clamp (show cur < 2 ^ 31 by omega), q_nm]
      rw [q_ck (by omega) (by decide), nI_clamp (show j < 2 ^ 31 by omega), q_v2 v]
      exact congrArg some (h.cfp j hj)
    · unfold fX9_flourPrice
      rw [g3, q_bnd, if_neg (by decide), r_flour0 (by omega), q_bnr, q_u3 u 0 710 (by decide)]
theorem k_35 (P : Nat → Int32) (hcur : cur < 12) (cv : v 0 = nI cur) (h : q_S T nf nb nt no Ls (vw u 710) (vw v (stO cur))) : ∃ x, bS_35 P v u v (upd u 3 x) := by
  have h1 := h.hnf
  have h2 := h.hnb
  have h3 := h.hnt
  have n0 : ∀ p : Int32, (p < 0 ∨ nI nf ≤ p) → xX8_priceGap p v = some 0 ∧ fX9_priceGap p u = some (0, upd u 3 1) := by
    intro p hp
    obtain ⟨g1, g2, g3⟩ := n_flour hcur cv h hp
    constructor
    · unfold xX8_priceGap
      rw [g2, q_xs]
    · unfold fX9_priceGap
      rw [g3, q_bnd, if_pos rfl]
  unfold bS_35
  rcases pk_ix (P 1) (n := nf) (by omega) with e | e | ⟨j, hj, e⟩
  · exact ⟨1, Or.inr ⟨0, (n0 _ (Or.inl e)).1, rfl, (n0 _ (Or.inl e)).2, pk_us⟩⟩
  · exact ⟨1, Or.inr ⟨0, (n0 _ (Or.inr e)).1, rfl, (n0 _ (Or.inr e)).2, pk_us⟩⟩
  · rw [e]
    obtain ⟨g1, g2, g3⟩ := y_flour hcur cv h hj
    have h9 := h.z 0
    refine ⟨0, Or.inl ⟨vw u 710 (42 + 28 * j), ⟨?_, rfl⟩, ?_, pk_us⟩⟩
    · unfold fX8_priceGap
      rw [g1, q_bnr, cv, q_ck hcur (by decide), nI_clamp (show cur < 2 ^ 31 by omega), q_nm]
      rw [q_ck (by omega) (by decide), nI_clamp (show j < 2 ^ 31 by omega), q_v2 v]
      exact congrArg some (h.cpg j hj)
    · unfold fX9_priceGap
      rw [g3, q_bnd, if_neg (by decide), r_flour2 (by omega), q_bnr, q_u3 u 0 710 (by decide)]
theorem k_36 (P : Nat → Int32) (hcur : cur < 12) (cv : v 0 = nI cur) (h : q_S T nf nb nt no Ls (vw u 710) (vw v (stO cur))) : ∃ x, bS_36 P v u v (upd u 3 x) := by
  have h1 := h.hnf
  have h2 := h.hnb
  have h3 := h.hnt
  have n0 : ∀ p : Int32, (p < 0 ∨ nI nf ≤ p) → xX8_useGap p v = some 0 ∧ fX9_useGap p u = some (0, upd u 3 1) := by
    intro p hp
    obtain ⟨g1, g2, g3⟩ := n_flour hcur cv h hp
    constructor
    · unfold xX8_useGap
      rw [g2, q_xs]
    · unfold fX9_useGap
      rw [g3, q_bnd, if_pos rfl]
  unfold bS_36
  rcases pk_ix (P 1) (n := nf) (by omega) with e | e | ⟨j, hj, e⟩
  · exact ⟨1, Or.inr ⟨0, (n0 _ (Or.inl e)).1, rfl, (n0 _ (Or.inl e)).2, pk_us⟩⟩
  · exact ⟨1, Or.inr ⟨0, (n0 _ (Or.inr e)).1, rfl, (n0 _ (Or.inr e)).2, pk_us⟩⟩
  · rw [e]
    obtain ⟨g1, g2, g3⟩ := y_flour hcur cv h hj
    have h9 := h.z 0
    refine ⟨0, Or.inl ⟨vw u 710 (43 + 28 * j), ⟨?_, rfl⟩, ?_, pk_us⟩⟩
    · unfold fX8_useGap
      rw [g1, q_bnr, cv, q_ck hcur (by decide), nI_clamp (show cur < 2 ^ 31 by omega), q_nm]
      rw [q_ck (by omega) (by decide), nI_clamp (show j < 2 ^ 31 by omega), q_v2 v]
      exact congrArg some (h.cug j hj)
    · unfold fX9_useGap
      rw [g3, q_bnd, if_neg (by decide), r_flour3 (by omega), q_bnr, q_u3 u 0 710 (by decide)]
theorem k_15 (P : Nat → Int32) (hcur : cur < 12) (cv : v 0 = nI cur) (h : q_S T nf nb nt no Ls (vw u 710) (vw v (stO cur))) : ∃ x, bS_15 P v u v (upd u 3 x) := by
  have h1 := h.hnf
  have h2 := h.hnb
  have h3 := h.hnt
  have n0 : ∀ p : Int32, (p < 0 ∨ nI nb ≤ p) → xX8_listPrice p v = some 0 ∧ fX9_listPrice p u = some (0, upd u 3 1) := by
    intro p hp
    obtain ⟨g1, g2, g3⟩ := n_bread hcur cv h hp
    constructor
    · unfold xX8_listPrice
      rw [g2, q_xs]
    · unfold fX9_listPrice
      rw [g3, q_bnd, if_pos rfl]
  unfold bS_15
  rcases pk_ix (P 1) (n := nb) (by omega) with e | e | ⟨j, hj, e⟩
  · exact ⟨1, Or.inr ⟨0, (n0 _ (Or.inl e)).1, rfl, (n0 _ (Or.inl e)).2, pk_us⟩⟩
  · exact ⟨1, Or.inr ⟨0, (n0 _ (Or.inr e)).1, rfl, (n0 _ (Or.inr e)).2, pk_us⟩⟩
  · rw [e]
    obtain ⟨g1, g2, g3⟩ := y_bread hcur cv h hj
    have h9 := h.z 0
    refine ⟨0, Or.inl ⟨vw u 710 (208 + 4 * j), ⟨?_, rfl⟩, ?_, pk_us⟩⟩
    · unfold fX8_listPrice
      rw [g1, q_bnr, cv, q_ck hcur (by decide), nI_clamp (show cur < 2 ^ 31 by omega), q_nm]
      rw [q_ck (by omega) (by decide), nI_clamp (show j < 2 ^ 31 by omega), q_v2 v]
      exact congrArg some (h.cbl j hj)
    · unfold fX9_listPrice
      rw [g3, q_bnd, if_neg (by decide), r_bread0 (by omega), q_bnr, q_u3 u 0 710 (by decide)]
theorem k_16 (P : Nat → Int32) (hcur : cur < 12) (cv : v 0 = nI cur) (h : q_S T nf nb nt no Ls (vw u 710) (vw v (stO cur))) : ∃ x, bS_16 P v u v (upd u 3 x) := by
  have h1 := h.hnf
  have h2 := h.hnb
  have h3 := h.hnt
  have n0 : ∀ p : Int32, (p < 0 ∨ nI nb ≤ p) → xX8_minutesOf p v = some 0 ∧ fX9_minutesOf p u = some (0, upd u 3 1) := by
    intro p hp
    obtain ⟨g1, g2, g3⟩ := n_bread hcur cv h hp
    constructor
    · unfold xX8_minutesOf
      rw [g2, q_xs]
    · unfold fX9_minutesOf
      rw [g3, q_bnd, if_pos rfl]
  unfold bS_16
  rcases pk_ix (P 1) (n := nb) (by omega) with e | e | ⟨j, hj, e⟩
  · exact ⟨1, Or.inr ⟨0, (n0 _ (Or.inl e)).1, rfl, (n0 _ (Or.inl e)).2, pk_us⟩⟩
  · exact ⟨1, Or.inr ⟨0, (n0 _ (Or.inr e)).1, rfl, (n0 _ (Or.inr e)).2, pk_us⟩⟩
  · rw [e]
    obtain ⟨g1, g2, g3⟩ := y_bread hcur cv h hj
    have h9 := h.z 0
    refine ⟨0, Or.inl ⟨vw u 710 (209 + 4 * j), ⟨?_, rfl⟩, ?_, pk_us⟩⟩
    · unfold fX8_minutesOf
      rw [g1, q_bnr, cv, q_ck hcur (by decide), nI_clamp (show cur < 2 ^ 31 by omega), q_nm]
      rw [q_ck (by omega) (by decide), nI_clamp (show j < 2 ^ 31 by omega), q_v2 v]
      exact congrArg some (h.cbm j hj)
    · unfold fX9_minutesOf
      rw [g3, q_bnd, if_neg (by decide), r_bread1 (by omega), q_bnr, q_u3 u 0 710 (by decide)]
theorem k_19 (P : Nat → Int32) (hcur : cur < 12) (cv : v 0 = nI cur) (h : q_S T nf nb nt no Ls (vw u 710) (vw v (stO cur))) : ∃ x, bS_19 P v u v (upd u 3 x) := by
  have h1 := h.hnf
  have h2 := h.hnb
  have h3 := h.hnt
  have n0 : ∀ p : Int32, (p < 0 ∨ nI nb ≤ p) → xX8_loavesOf p v = some 0 ∧ fX9_loavesOf p u = some (0, upd u 3 1) := by
    intro p hp
    obtain ⟨g1, g2, g3⟩ := n_bread hcur cv h hp
    constructor
    · unfold xX8_loavesOf
      rw [g2, q_xs]
    · unfold fX9_loavesOf
      rw [g3, q_bnd, if_pos rfl]
  unfold bS_19
  rcases pk_ix (P 1) (n := nb) (by omega) with e | e | ⟨j, hj, e⟩
  · exact ⟨1, Or.inr ⟨0, (n0 _ (Or.inl e)).1, rfl, (n0 _ (Or.inl e)).2, pk_us⟩⟩
  · exact ⟨1, Or.inr ⟨0, (n0 _ (Or.inr e)).1, rfl, (n0 _ (Or.inr e)).2, pk_us⟩⟩
  · rw [e]
    obtain ⟨g1, g2, g3⟩ := y_bread hcur cv h hj
    have h9 := h.z 0
    refine ⟨0, Or.inl ⟨vw u 710 (211 + 4 * j), ⟨?_, rfl⟩, ?_, pk_us⟩⟩
    · unfold fX8_loavesOf
      rw [g1, q_bnr, cv, q_ck hcur (by decide), nI_clamp (show cur < 2 ^ 31 by omega), q_nm]
      rw [q_ck (by omega) (by decide), nI_clamp (show j < 2 ^ 31 by omega), q_v2 v]
      exact congrArg some (h.clo j hj)
    · unfold fX9_loavesOf
      rw [g3, q_bnd, if_neg (by decide), r_bread3 (by omega), q_bnr, q_u3 u 0 710 (by decide)]
theorem k_26 (P : Nat → Int32) (hcur : cur < 12) (cv : v 0 = nI cur) (h : q_S T nf nb nt no Ls (vw u 710) (vw v (stO cur))) : ∃ x, bS_26 P v u v (upd u 3 x) := by
  have h1 := h.hnf
  have h2 := h.hnb
  have h3 := h.hnt
  have n0 : ∀ p : Int32, (p < 0 ∨ nI nt ≤ p) → xX8_batchBread p v = some 0 ∧ fX9_batchBread p u = some (0, upd u 3 1) := by
    intro p hp
    obtain ⟨g1, g2, g3⟩ := n_batch hcur cv h hp
    constructor
    · unfold xX8_batchBread
      rw [g2, q_xs]
    · unfold fX9_batchBread
      rw [g3, q_bnd, if_pos rfl]
  unfold bS_26
  rcases pk_ix (P 1) (n := nt) (by omega) with e | e | ⟨j, hj, e⟩
  · exact ⟨1, Or.inr ⟨0, (n0 _ (Or.inl e)).1, rfl, (n0 _ (Or.inl e)).2, pk_us⟩⟩
  · exact ⟨1, Or.inr ⟨0, (n0 _ (Or.inr e)).1, rfl, (n0 _ (Or.inr e)).2, pk_us⟩⟩
  · rw [e]
    obtain ⟨g1, g2, g3⟩ := y_batch hcur cv h hj
    have h9 := h.z 0
    refine ⟨0, Or.inl ⟨vw u 710 (232 + 11 * j), ⟨?_, rfl⟩, ?_, pk_us⟩⟩
    · unfold fX8_batchBread
      rw [g1, q_bnr, cv, q_ck hcur (by decide), nI_clamp (show cur < 2 ^ 31 by omega), q_nm]
      rw [q_ck (by omega) (by decide), nI_clamp (show j < 2 ^ 31 by omega), q_v2 v]
      exact congrArg some (h.ctb j hj)
    · unfold fX9_batchBread
      rw [g3, q_bnd, if_neg (by decide), r_batch0 (by omega), q_bnr, q_u3 u 0 710 (by decide)]
theorem k_28 (P : Nat → Int32) (hcur : cur < 12) (cv : v 0 = nI cur) (h : q_S T nf nb nt no Ls (vw u 710) (vw v (stO cur))) : ∃ x, bS_28 P v u v (upd u 3 x) := by
  have h1 := h.hnf
  have h2 := h.hnb
  have h3 := h.hnt
  have n0 : ∀ p : Int32, (p < 0 ∨ nI nt ≤ p) → xX8_startOf p v = some 0 ∧ fX9_startOf p u = some (0, upd u 3 1) := by
    intro p hp
    obtain ⟨g1, g2, g3⟩ := n_batch hcur cv h hp
    constructor
    · unfold xX8_startOf
      rw [g2, q_xs]
    · unfold fX9_startOf
      rw [g3, q_bnd, if_pos rfl]
  unfold bS_28
  rcases pk_ix (P 1) (n := nt) (by omega) with e | e | ⟨j, hj, e⟩
  · exact ⟨1, Or.inr ⟨0, (n0 _ (Or.inl e)).1, rfl, (n0 _ (Or.inl e)).2, pk_us⟩⟩
  · exact ⟨1, Or.inr ⟨0, (n0 _ (Or.inr e)).1, rfl, (n0 _ (Or.inr e)).2, pk_us⟩⟩
  · rw [e]
    obtain ⟨g1, g2, g3⟩ := y_batch hcur cv h hj
    have h9 := h.z 0
    refine ⟨0, Or.inl ⟨vw u 710 (235 + 11 * j), ⟨?_, rfl⟩, ?_, pk_us⟩⟩
    · unfold fX8_startOf
      rw [g1, q_bnr, cv, q_ck hcur (by decide), nI_clamp (show cur < 2 ^ 31 by omega), q_nm]
      rw [q_ck (by omega) (by decide), nI_clamp (show j < 2 ^ 31 by omega), q_v2 v]
      exact congrArg some (h.cts j hj)
    · unfold fX9_startOf
      rw [g3, q_bnd, if_neg (by decide), r_batch3 (by omega), q_bnr, q_u3 u 0 710 (by decide)]
theorem k_29 (P : Nat → Int32) (hcur : cur < 12) (cv : v 0 = nI cur) (h : q_S T nf nb nt no Ls (vw u 710) (vw v (stO cur))) : ∃ x, bS_29 P v u v (upd u 3 x) := by
  have h1 := h.hnf
  have h2 := h.hnb
  have h3 := h.hnt
  have n0 : ∀ p : Int32, (p < 0 ∨ nI nt ≤ p) → xX8_ovenMinutes p v = some 0 ∧ fX9_ovenMinutes p u = some (0, upd u 3 1) := by
    intro p hp
    obtain ⟨g1, g2, g3⟩ := n_batch hcur cv h hp
    constructor
    · unfold xX8_ovenMinutes
      rw [g2, q_xs]
    · unfold fX9_ovenMinutes
      rw [g3, q_bnd, if_pos rfl]
  unfold bS_29
  rcases pk_ix (P 1) (n := nt) (by omega) with e | e | ⟨j, hj, e⟩
  · exact ⟨1, Or.inr ⟨0, (n0 _ (Or.inl e)).1, rfl, (n0 _ (Or.inl e)).2, pk_us⟩⟩
  · exact ⟨1, Or.inr ⟨0, (n0 _ (Or.inr e)).1, rfl, (n0 _ (Or.inr e)).2, pk_us⟩⟩
  · rw [e]
    obtain ⟨g1, g2, g3⟩ := y_batch hcur cv h hj
    have h9 := h.z 0
    refine ⟨0, Or.inl ⟨vw u 710 (236 + 11 * j), ⟨?_, rfl⟩, ?_, pk_us⟩⟩
    · unfold fX8_ovenMinutes
      rw [g1, q_bnr, cv, q_ck hcur (by decide), nI_clamp (show cur < 2 ^ 31 by omega), q_nm]
      rw [q_ck (by omega) (by decide), nI_clamp (show j < 2 ^ 31 by omega), q_v2 v]
      exact congrArg some (h.ctm j hj)
    · unfold fX9_ovenMinutes
      rw [g3, q_bnd, if_neg (by decide), r_batch4 (by omega), q_bnr, q_u3 u 0 710 (by decide)]
theorem k_10 (P : Nat → Int32) (hcur : cur < 12) (cv : v 0 = nI cur) (h : q_S T nf nb nt no Ls (vw u 710) (vw v (stO cur))) : ∃ x, bS_10 P v u v (upd u 3 x) := by
  have h1 := h.hnf
  have h2 := h.hnb
  have h3 := h.hnt
  have n0 : ∀ p : Int32, (p < 0 ∨ nI nf ≤ p) → xX8_unitsOf p v = some 0 ∧ fX9_unitsOf p u = some (0, upd u 3 1) := by
    intro p hp
    obtain ⟨g1, g2, g3⟩ := n_flour hcur cv h hp
    constructor
    · unfold xX8_unitsOf
      rw [g2, q_xs]
    · unfold fX9_unitsOf
      rw [g3, q_bnd, if_pos rfl]
  unfold bS_10
  rcases pk_ix (P 1) (n := nf) (by omega) with e | e | ⟨j, hj, e⟩
  · exact ⟨1, Or.inr ⟨0, (n0 _ (Or.inl e)).1, rfl, (n0 _ (Or.inl e)).2, pk_us⟩⟩
  · exact ⟨1, Or.inr ⟨0, (n0 _ (Or.inr e)).1, rfl, (n0 _ (Or.inr e)).2, pk_us⟩⟩
  · rw [e]
    obtain ⟨g1, g2, g3⟩ := y_flour hcur cv h hj
    have h9 := h.z 0
    refine ⟨0, Or.inl ⟨qU (Ls j), ⟨?_, rfl⟩, ?_, pk_us⟩⟩
    · unfold fX8_unitsOf
      rw [g1, q_bnr, cv, q_ck hcur (by decide), nI_clamp (show cur < 2 ^ 31 by omega), q_nm]
      rw [q_vv, c_stock (by omega) (h.lo j hj).1 (h.clt j hj), q_bnr]
    · unfold fX9_unitsOf
      rw [g3, q_bnd, if_neg (by decide), r_units (by omega) (h.lo j hj).1 (h9.rlt j hj), q_bnr]
theorem k_11 (P : Nat → Int32) (hcur : cur < 12) (cv : v 0 = nI cur) (h : q_S T nf nb nt no Ls (vw u 710) (vw v (stO cur))) : ∃ x, bS_11 P v u v (upd u 3 x) := by
  have h1 := h.hnf
  have h2 := h.hnb
  have h3 := h.hnt
  have n0 : ∀ p : Int32, (p < 0 ∨ nI nf ≤ p) → xX8_lotsOf p v = some 0 ∧ fX9_lotsOf p u = some (0, upd u 3 1) := by
    intro p hp
    obtain ⟨g1, g2, g3⟩ := n_flour hcur cv h hp
    constructor
    · unfold xX8_lotsOf
      rw [g2, q_xs]
    · unfold fX9_lotsOf
      rw [g3, q_bnd, if_pos rfl]
  unfold bS_11
  rcases pk_ix (P 1) (n := nf) (by omega) with e | e | ⟨j, hj, e⟩
  · exact ⟨1, Or.inr ⟨0, (n0 _ (Or.inl e)).1, rfl, (n0 _ (Or.inl e)).2, pk_us⟩⟩
  · exact ⟨1, Or.inr ⟨0, (n0 _ (Or.inr e)).1, rfl, (n0 _ (Or.inr e)).2, pk_us⟩⟩
  · rw [e]
    obtain ⟨g1, g2, g3⟩ := y_flour hcur cv h hj
    have h9 := h.z 0
    refine ⟨0, Or.inl ⟨nI (Ls j).length, ⟨?_, rfl⟩, ?_, pk_us⟩⟩
    · unfold fX8_lotsOf
      rw [g1, q_bnr, cv, q_ck hcur (by decide), nI_clamp (show cur < 2 ^ 31 by omega), q_nm]
      rw [q_ck (by omega) (by decide), nI_clamp (show j < 2 ^ 31 by omega), q_v2 v]
      exact congrArg some ((q_at (o := 6) (by omega)).symm.trans (h.clt j hj).1)
    · unfold fX9_lotsOf
      rw [g3, q_bnd, if_neg (by decide), r_lots (by omega) (h9.rlt j hj), q_bnr]
theorem k_18 (P : Nat → Int32) (hcur : cur < 12) (cv : v 0 = nI cur) (h : q_S T nf nb nt no Ls (vw u 710) (vw v (stO cur))) : ∃ x, bS_18 P v u v (upd u 3 x) := by
  have h1 := h.hnf
  have h2 := h.hnb
  have h3 := h.hnt
  have n0 : ∀ p : Int32, (p < 0 ∨ nI nb ≤ p) → xX8_standardCost p v = some 0 ∧ fX9_standardCost p u = some (0, upd u 3 1) := by
    intro p hp
    obtain ⟨g1, g2, g3⟩ := n_bread hcur cv h hp
    constructor
    · unfold xX8_standardCost
      rw [g2, q_xs]
    · unfold fX9_standardCost
      rw [g3, q_bnd, if_pos rfl]
  unfold bS_18
  rcases pk_ix (P 1) (n := nb) (by omega) with e | e | ⟨j, hj, e⟩
  · exact ⟨1, Or.inr ⟨0, (n0 _ (Or.inl e)).1, rfl, (n0 _ (Or.inl e)).2, pk_us⟩⟩
  · exact ⟨1, Or.inr ⟨0, (n0 _ (Or.inr e)).1, rfl, (n0 _ (Or.inr e)).2, pk_us⟩⟩
  · rw [e]
    obtain ⟨g1, g2, g3⟩ := y_bread hcur cv h hj
    have h9 := h.z 0
    refine ⟨0, Or.inl ⟨qstd nf (vw u 710) j, ⟨?_, rfl⟩, ?_, pk_us⟩⟩
    · unfold fX8_standardCost
      rw [g1, q_bnr, cv, q_ck hcur (by decide), nI_clamp (show cur < 2 ^ 31 by omega), q_nm]
      rw [q_ck (by omega) (by decide), nI_clamp (show j < 2 ^ 31 by omega), q_v2 v]
      exact congrArg some (h.cst j hj)
    · unfold fX9_standardCost
      rw [g3, q_bnd, if_neg (by decide), r_standard h9.R hj, q_bnr, q_u3 u 0 710 (by decide)]
theorem k_27 (P : Nat → Int32) (hcur : cur < 12) (cv : v 0 = nI cur) (h : q_S T nf nb nt no Ls (vw u 710) (vw v (stO cur))) : ∃ x, bS_27 P v u v (upd u 3 x) := by
  have h1 := h.hnf
  have h2 := h.hnb
  have h3 := h.hnt
  have n0 : ∀ p : Int32, (p < 0 ∨ nI nt ≤ p) → xX8_goodLoaves p v = some 0 ∧ fX9_goodLoaves p u = some (0, upd u 3 1) := by
    intro p hp
    obtain ⟨g1, g2, g3⟩ := n_batch hcur cv h hp
    constructor
    · unfold xX8_goodLoaves
      rw [g2, q_xs]
    · unfold fX9_goodLoaves
      rw [g3, q_bnd, if_pos rfl]
  unfold bS_27
  rcases pk_ix (P 1) (n := nt) (by omega) with e | e | ⟨j, hj, e⟩
  · exact ⟨1, Or.inr ⟨0, (n0 _ (Or.inl e)).1, rfl, (n0 _ (Or.inl e)).2, pk_us⟩⟩
  · exact ⟨1, Or.inr ⟨0, (n0 _ (Or.inr e)).1, rfl, (n0 _ (Or.inr e)).2, pk_us⟩⟩
  · rw [e]
    obtain ⟨g1, g2, g3⟩ := y_batch hcur cv h hj
    have h9 := h.z 0
    refine ⟨0, Or.inl ⟨vw u 710 (233 + 11 * j) - vw u 710 (234 + 11 * j), ⟨?_, rfl⟩, ?_, pk_us⟩⟩
    · unfold fX8_goodLoaves
      rw [g1, q_bnr, cv, q_ck hcur (by decide), nI_clamp (show cur < 2 ^ 31 by omega), q_nm]
      rw [q_ck (by omega) (by decide), nI_clamp (show j < 2 ^ 31 by omega), q_ck hcur (by decide), q_nm, q_ck (by omega) (by decide), q_v2 v, q_v2 v, h.ctp j hj, h.ctu j hj]
    · unfold fX9_goodLoaves
      rw [g3, q_bnd, if_neg (by decide), show fX9_good (nI j) (upd u 3 0) = some (vw u 710 (233 + 11 * j) - vw u 710 (234 + 11 * j)) from (by unfold fX9_good; rw [r_batch1 (by omega), q_bnr, r_batch2 (by omega), q_bnr, q_u3 u 0 710 (by decide)]), q_bnr]
theorem k_30 (P : Nat → Int32) (hcur : cur < 12) (cv : v 0 = nI cur) (h : q_S T nf nb nt no Ls (vw u 710) (vw v (stO cur))) : ∃ x, bS_30 P v u v (upd u 3 x) := by
  have h1 := h.hnf
  have h2 := h.hnb
  have h3 := h.hnt
  have n0 : ∀ p : Int32, (p < 0 ∨ nI nt ≤ p) → xX8_costOf p v = some 0 ∧ fX9_costOf p u = some (0, upd u 3 1) := by
    intro p hp
    obtain ⟨g1, g2, g3⟩ := n_batch hcur cv h hp
    constructor
    · unfold xX8_costOf
      rw [g2, q_xs]
    · unfold fX9_costOf
      rw [g3, q_bnd, if_pos rfl]
  unfold bS_30
  rcases pk_ix (P 1) (n := nt) (by omega) with e | e | ⟨j, hj, e⟩
  · exact ⟨1, Or.inr ⟨0, (n0 _ (Or.inl e)).1, rfl, (n0 _ (Or.inl e)).2, pk_us⟩⟩
  · exact ⟨1, Or.inr ⟨0, (n0 _ (Or.inr e)).1, rfl, (n0 _ (Or.inr e)).2, pk_us⟩⟩
  · rw [e]
    obtain ⟨g1, g2, g3⟩ := y_batch hcur cv h hj
    have h9 := h.z 0
    refine ⟨0, Or.inl ⟨vw u 710 (237 + 11 * j), ⟨?_, rfl⟩, ?_, pk_us⟩⟩
    · unfold fX8_costOf
      rw [g1, q_bnr, cv, q_ck hcur (by decide), nI_clamp (show cur < 2 ^ 31 by omega), q_nm]
      rw [q_ck (by omega) (by decide), nI_clamp (show j < 2 ^ 31 by omega), q_ck hcur (by decide), q_nm, q_ck (by omega) (by decide), q_v2 v, q_v2 v, h.ctc j hj]
    · unfold fX9_costOf
      rw [g3, q_bnd, if_neg (by decide), r_batch5 (by omega), q_bnr, q_u3 u 0 710 (by decide)]
theorem k_31 (P : Nat → Int32) (hcur : cur < 12) (cv : v 0 = nI cur) (h : q_S T nf nb nt no Ls (vw u 710) (vw v (stO cur))) : ∃ x, bS_31 P v u v (upd u 3 x) := by
  have h1 := h.hnf
  have h2 := h.hnb
  have h3 := h.hnt
  have n0 : ∀ p : Int32, (p < 0 ∨ nI nt ≤ p) → xX8_lossOf p v = some 0 ∧ fX9_lossOf p u = some (0, upd u 3 1) := by
    intro p hp
    obtain ⟨g1, g2, g3⟩ := n_batch hcur cv h hp
    constructor
    · unfold xX8_lossOf
      rw [g2, q_xs]
    · unfold fX9_lossOf
      rw [g3, q_bnd, if_pos rfl]
  unfold bS_31
  rcases pk_ix (P 1) (n := nt) (by omega) with e | e | ⟨j, hj, e⟩
  · exact ⟨1, Or.inr ⟨0, (n0 _ (Or.inl e)).1, rfl, (n0 _ (Or.inl e)).2, pk_us⟩⟩
  · exact ⟨1, Or.inr ⟨0, (n0 _ (Or.inr e)).1, rfl, (n0 _ (Or.inr e)).2, pk_us⟩⟩
  · rw [e]
    obtain ⟨g1, g2, g3⟩ := y_batch hcur cv h hj
    have h9 := h.z 0
    refine ⟨0, Or.inl ⟨qls nf (vw u 710) j, ⟨?_, rfl⟩, ?_, pk_us⟩⟩
    · unfold fX8_lossOf
      rw [g1, q_bnr, cv, q_ck hcur (by decide), nI_clamp (show cur < 2 ^ 31 by omega), q_nm]
      rw [q_ck (by omega) (by decide), nI_clamp (show j < 2 ^ 31 by omega), q_v2 v]
      exact congrArg some (h.ctl j hj)
    · unfold fX9_lossOf
      rw [g3, q_bnd, if_neg (by decide), r_loss h9 hj, q_bnr, q_u3 u 0 710 (by decide)]
end
