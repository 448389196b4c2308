/-! ===== layer 2: more questions ===== -/
theorem q_in9 {x : Int32} (h : q_in x (-9) 9) : q_bd 9 x := by
  obtain ⟨h1, h2⟩ := h
  rw [Int32.lt_iff_toInt_lt, show (-9 : Int32).toInt = -9 from by decide] at h1
  rw [Int32.le_iff_toInt_le, show (9 : Int32).toInt = 9 from by decide] at h2
  unfold q_bd
  omega
theorem q_plan {x y z : Int32} (h1 : q_in x 1 20) (h2 : q_in y (-9) 9) (h3 : q_in z (-9) 9) : fX8_requirePlan x y z = some () ∧ xX8_requirePlan x y z = none := by
  unfold fX8_requirePlan xX8_requirePlan
  rw [(q_rg h1).1, (q_rg h2).1, (q_rg h3).1, (q_rg h1).2.1, (q_rg h2).2.1, (q_rg h3).2.1]
  exact ⟨rfl, rfl⟩
theorem q_plann {x y z : Int32} (h : ¬ (q_in x 1 20 ∧ q_in y (-9) 9 ∧ q_in z (-9) 9)) : fX8_requirePlan x y z = none ∧ xX8_requirePlan x y z = some 1 := by
  unfold fX8_requirePlan xX8_requirePlan
  by_cases h1 : q_in x 1 20
  · rw [(q_rg h1).1, (q_rg h1).2.1]
    by_cases h2 : q_in y (-9) 9
    · rw [(q_rg h2).1, (q_rg h2).2.1]
      have h3 : ¬ q_in z (-9) 9 := fun q => h ⟨h1, h2, q⟩
      rw [(q_rgn h3).1, (q_rgn h3).2.1]
      exact ⟨rfl, rfl⟩
    · rw [(q_rgn h2).1, (q_rgn h2).2.1]
      exact ⟨rfl, rfl⟩
  · rw [(q_rgn h1).1, (q_rgn h1).2.1]
    exact ⟨rfl, rfl⟩
theorem q_in00 : q_in 0 (-9) 9 := ⟨by decide, by decide⟩
def qim (nf nb nt : Nat) (Ls : Nat → List (Nat × Nat)) (r : bM) : Int32 := if 0 ≤ (r 0 + qS (fun f => qV (Ls f)) nf + qS (fun b => r (211 + 4 * b) * qstd nf r b) nb) - (r 1 + r 12 - qS (qgs nt r) 6) then (r 0 + qS (fun f => qV (Ls f)) nf + qS (fun b => r (211 + 4 * b) * qstd nf r b) nb) - (r 1 + r 12 - qS (qgs nt r) 6) else 0 - ((r 0 + qS (fun f => qV (Ls f)) nf + qS (fun b => r (211 + 4 * b) * qstd nf r b) nb) - (r 1 + r 12 - qS (qgs nt r) 6))
theorem r_isExtra {x : Int32} (h : q_in x (-9) 9) : fX9_isExtra x = some 1 := by
  unfold fX9_isExtra
  rw [(q_rg h).2.2, q_bnr, q_l1, q_ck (by decide) (by decide)]
theorem r_isExtran {x : Int32} (h : ¬ q_in x (-9) 9) : fX9_isExtra x = some 0 := by
  unfold fX9_isExtra
  rw [(q_rgn h).2.2, q_bnr, q_l0, q_ck (by decide) (by decide)]
section
variable {T nf nb nt no cur : Nat} {Ls : Nat → List (Nat × Nat)} {u v : bM}
theorem y_lot (hcur : cur < 12) (cv : v 0 = nI cur) (h : q_S T nf nb nt no Ls (vw u 710) (vw v (stO cur))) {j i k : Nat} (hj : j < nf) (hi : i < (Ls j).length) (hk : k < 2) : fX8_requireLot (nI j) (nI i) v = some () ∧ fX9_askedLot (nI j) (nI i) (nI k) u = some (u (710 + (44 + 28 * j + 2 * i + k)), upd u 3 0) := by
  have h1 := h.hnf
  have h2 := (h.lo j hj).1
  obtain ⟨g1, g2, g3⟩ := y_flour hcur cv h hj
  obtain ⟨e1, e2, e3⟩ := q_ixy hi (by omega)
  have e4 : v (stO cur + 13 + j) = nI (Ls j).length := (q_v2 v _ _ _).trans ((q_at (o := 6) (by omega)).symm.trans (h.clt j hj).1)
  constructor
  · unfold fX8_requireLot
    rw [g1, q_bnr, cv, q_ck hcur (by decide), nI_clamp (show cur < 2 ^ 31 by omega), q_nm, q_ck (by omega) (by decide), nI_clamp (by omega), e4, e1, q_bnr]
  · unfold fX9_askedLot
    rw [g3, q_bnd, if_neg (by decide), r_lots (by omega) ((h.z 0).rlt j hj), q_bnr, e3, q_bnr, r_fails1, q_bnd, if_pos rfl, r_lot (by omega) (by omega) hk, q_bnr, q_un (by omega)]
theorem n_lot (hcur : cur < 12) (cv : v 0 = nI cur) (h : q_S T nf nb nt no Ls (vw u 710) (vw v (stO cur))) {j : Nat} {p k : Int32} (hj : j < nf) (hp : p < 0 ∨ nI (Ls j).length ≤ p) : xX8_requireLot (nI j) p v = some 0 ∧ fX9_askedLot (nI j) p k u = some (0, upd u 3 1) := by
  have h1 := h.hnf
  have h2 := (h.lo j hj).1
  obtain ⟨g1, g2, g3⟩ := y_flour hcur cv h hj
  obtain ⟨e1, e2, e3⟩ := q_ixn hp (by omega)
  have e4 : v (stO cur + 13 + j) = nI (Ls j).length := (q_v2 v _ _ _).trans ((q_at (o := 6) (by omega)).symm.trans (h.clt j hj).1)
  constructor
  · unfold xX8_requireLot
    rw [g2, q_xn, g1, q_bnr, cv, q_ck hcur (by decide), nI_clamp (show cur < 2 ^ 31 by omega), q_nm, q_ck (by omega) (by decide), nI_clamp (by omega), e4, e2, q_xs]
  · unfold fX9_askedLot
    rw [g3, q_bnd, if_neg (by decide), r_lots (by omega) ((h.z 0).rlt j hj), q_bnr, e3, q_bnr, r_fails0, q_bnd, if_neg (by decide), q_33]
theorem m_lot (hcur : cur < 12) (cv : v 0 = nI cur) (h : q_S T nf nb nt no Ls (vw u 710) (vw v (stO cur))) {p p2 k : Int32} (hp : p < 0 ∨ nI nf ≤ p) : xX8_requireLot p p2 v = some 0 ∧ fX9_askedLot p p2 k u = some (0, upd u 3 1) := by
  obtain ⟨g1, g2, g3⟩ := n_flour hcur cv h hp
  constructor
  · unfold xX8_requireLot
    rw [g2, q_xs]
  · unfold fX9_askedLot
    rw [g3, q_bnd, if_pos rfl]
theorem k_12 (P : Nat → Int32) (hcur : cur < 12) (cv : v 0 = nI cur) (h : q_S T nf nb nt no Ls (vw u 710) (vw v (stO cur))) : ∃ x, bS_12 P v u v (upd u 3 x) := by
  have h1 := h.hnf
  have bad : ∀ p p2 : Int32, xX8_requireLot p p2 v = some 0 ∧ fX9_askedLot p p2 0 u = some (0, upd u 3 1) → xX8_lotUnits p p2 v = some 0 ∧ fX9_lotUnits p p2 u = some (0, upd u 3 1) := by
    intro p p2 hp
    unfold xX8_lotUnits fX9_lotUnits
    rw [hp.1, hp.2]
    exact ⟨rfl, rfl⟩
  unfold bS_12
  rcases pk_ix (P 1) (n := nf) (by omega) with e | e | ⟨j, hj, e⟩
  · exact ⟨1, Or.inr ⟨0, (bad _ _ (m_lot hcur cv h (Or.inl e))).1, rfl, (bad _ _ (m_lot hcur cv h (Or.inl e))).2, pk_us⟩⟩
  · exact ⟨1, Or.inr ⟨0, (bad _ _ (m_lot hcur cv h (Or.inr e))).1, rfl, (bad _ _ (m_lot hcur cv h (Or.inr e))).2, pk_us⟩⟩
  · rw [e]
    have h2 := (h.lo j hj).1
    rcases pk_ix (P 2) (n := (Ls j).length) (by omega) with e2 | e2 | ⟨i, hi, e2⟩
    · exact ⟨1, Or.inr ⟨0, (bad _ _ (n_lot hcur cv h hj (Or.inl e2))).1, rfl, (bad _ _ (n_lot hcur cv h hj (Or.inl e2))).2, pk_us⟩⟩
    · exact ⟨1, Or.inr ⟨0, (bad _ _ (n_lot hcur cv h hj (Or.inr e2))).1, rfl, (bad _ _ (n_lot hcur cv h hj (Or.inr e2))).2, pk_us⟩⟩
    · rw [e2]
      obtain ⟨g1, g2⟩ := y_lot hcur cv h hj hi (k := 0) (by decide)
      have hx := List.getElem?_eq_getElem hi
      have c1 := ((h.clt j hj).2 i _ hx).1
      have c2 := ((h.rlt j hj).2 i _ hx).1
      have e5 : v (stO cur + (19 + 12 * j) + i) = nI (Ls j)[i].1 := (q_v2 v _ _ _).trans ((q_at (o := 6) (by omega)).symm.trans c1)
      refine ⟨0, Or.inl ⟨nI (Ls j)[i].1, ⟨?_, rfl⟩, ?_, pk_us⟩⟩
      · unfold fX8_lotUnits
        rw [g1, q_bnr, cv, q_ck hcur (by decide), nI_clamp (show cur < 2 ^ 31 by omega), q_nm, q_ck (by omega) (by decide), q_ck (by omega) (by decide), nI_clamp (show j < 2 ^ 31 by omega), nI_clamp (show i < 2 ^ 31 by omega), e5]
      · unfold fX9_lotUnits
        rw [q_l0, g2, q_bnd]
        exact congrArg (fun x => some (x, upd u 3 0)) c2
theorem k_13 (P : Nat → Int32) (hcur : cur < 12) (cv : v 0 = nI cur) (h : q_S T nf nb nt no Ls (vw u 710) (vw v (stO cur))) : ∃ x, bS_13 P v u v (upd u 3 x) := by
  have h1 := h.hnf
  have bad : ∀ p p2 : Int32, xX8_requireLot p p2 v = some 0 ∧ fX9_askedLot p p2 1 u = some (0, upd u 3 1) → xX8_lotPrice p p2 v = some 0 ∧ fX9_lotPrice p p2 u = some (0, upd u 3 1) := by
    intro p p2 hp
    unfold xX8_lotPrice fX9_lotPrice
    rw [hp.1, hp.2]
    exact ⟨rfl, rfl⟩
  unfold bS_13
  rcases pk_ix (P 1) (n := nf) (by omega) with e | e | ⟨j, hj, e⟩
  · exact ⟨1, Or.inr ⟨0, (bad _ _ (m_lot hcur cv h (Or.inl e))).1, rfl, (bad _ _ (m_lot hcur cv h (Or.inl e))).2, pk_us⟩⟩
  · exact ⟨1, Or.inr ⟨0, (bad _ _ (m_lot hcur cv h (Or.inr e))).1, rfl, (bad _ _ (m_lot hcur cv h (Or.inr e))).2, pk_us⟩⟩
  · rw [e]
    have h2 := (h.lo j hj).1
    rcases pk_ix (P 2) (n := (Ls j).length) (by omega) with e2 | e2 | ⟨i, hi, e2⟩
    · exact ⟨1, Or.inr ⟨0, (bad _ _ (n_lot hcur cv h hj (Or.inl e2))).1, rfl, (bad _ _ (n_lot hcur cv h hj (Or.inl e2))).2, pk_us⟩⟩
    · exact ⟨1, Or.inr ⟨0, (bad _ _ (n_lot hcur cv h hj (Or.inr e2))).1, rfl, (bad _ _ (n_lot hcur cv h hj (Or.inr e2))).2, pk_us⟩⟩
    · rw [e2]
      obtain ⟨g1, g2⟩ := y_lot hcur cv h hj hi (k := 1) (by decide)
      have hx := List.getElem?_eq_getElem hi
      have c1 := ((h.clt j hj).2 i _ hx).2
      have c2 := ((h.rlt j hj).2 i _ hx).2
      have e5 : v (stO cur + (91 + 12 * j) + i) = nI (Ls j)[i].2 := (q_v2 v _ _ _).trans ((q_at (o := 6) (by omega)).symm.trans c1)
      refine ⟨0, Or.inl ⟨nI (Ls j)[i].2, ⟨?_, rfl⟩, ?_, pk_us⟩⟩
      · unfold fX8_lotPrice
        rw [g1, q_bnr, cv, q_ck hcur (by decide), nI_clamp (show cur < 2 ^ 31 by omega), q_nm, q_ck (by omega) (by decide), q_ck (by omega) (by decide), nI_clamp (show j < 2 ^ 31 by omega), nI_clamp (show i < 2 ^ 31 by omega), e5]
      · unfold fX9_lotPrice
        rw [q_l1, g2, q_bnd]
        exact congrArg (fun x => some (x, upd u 3 0)) ((congrArg u (by omega)).trans c2)
theorem k_17 (P : Nat → Int32) (hcur : cur < 12) (cv : v 0 = nI cur) (h : q_S T nf nb nt no Ls (vw u 710) (vw v (stO cur))) : ∃ x, bS_17 P v u v (upd u 3 x) := by
  have h1 := h.hnf
  have h2 := h.hnb
  have n0 : ∀ p p2 : Int32, (p < 0 ∨ nI nb ≤ p) → xX8_amountOf p p2 v = some 0 ∧ fX9_amountOf p p2 u = some (0, upd u 3 1) := by
    intro p p2 hp
    obtain ⟨g1, g2, g3⟩ := n_bread hcur cv h hp
    unfold xX8_amountOf fX9_amountOf
    rw [g2, g3]
    exact ⟨rfl, rfl⟩
  have n1 : ∀ (j : Nat) (p : Int32), j < nb → (p < 0 ∨ nI nf ≤ p) → xX8_amountOf (nI j) p v = some 0 ∧ fX9_amountOf (nI j) p u = some (0, upd u 3 1) := by
    intro j p hj hp
    obtain ⟨g1, g2, g3⟩ := y_bread hcur cv h hj
    obtain ⟨f1, f2, f3⟩ := n_flour hcur cv (h.z 0) hp
    rw [q_33] at f3
    unfold xX8_amountOf fX9_amountOf
    rw [g2, g1, g3, q_xn, q_bnr, f2, q_bnd, if_neg (by decide), f3]
    exact ⟨rfl, rfl⟩
  unfold bS_17
  rcases pk_ix (P 1) (n := nb) (by omega) with e | e | ⟨j, hj, e⟩
  · exact ⟨1, Or.inr ⟨0, (n0 _ _ (Or.inl e)).1, rfl, (n0 _ _ (Or.inl e)).2, pk_us⟩⟩
  · exact ⟨1, Or.inr ⟨0, (n0 _ _ (Or.inr e)).1, rfl, (n0 _ _ (Or.inr e)).2, pk_us⟩⟩
  · rw [e]
    rcases pk_ix (P 2) (n := nf) (by omega) with e2 | e2 | ⟨i, hi, e2⟩
    · exact ⟨1, Or.inr ⟨0, (n1 j _ hj (Or.inl e2)).1, rfl, (n1 j _ hj (Or.inl e2)).2, pk_us⟩⟩
    · exact ⟨1, Or.inr ⟨0, (n1 j _ hj (Or.inr e2)).1, rfl, (n1 j _ hj (Or.inr e2)).2, pk_us⟩⟩
    · rw [e2]
      obtain ⟨g1, g2, g3⟩ := y_bread hcur cv h hj
      obtain ⟨f1, f2, f3⟩ := y_flour hcur cv (h.z 0) hi
      rw [q_33] at f3
      refine ⟨0, Or.inl ⟨nI (qam (vw u 710) j i), ⟨?_, rfl⟩, ?_, pk_us⟩⟩
      · unfold fX8_amountOf
        rw [g1, q_bnr, f1, q_bnr, cv, q_ck hcur (by decide), nI_clamp (show cur < 2 ^ 31 by omega), q_nm, q_ck (by omega) (by decide), q_ck (by omega) (by decide), nI_clamp (show j < 2 ^ 31 by omega), nI_clamp (show i < 2 ^ 31 by omega), q_v2 v]
        exact congrArg some (h.cam j i hj (by omega))
      · unfold fX9_amountOf
        rw [g3, q_bnd, if_neg (by decide), f3, q_bnd, if_neg (by decide), r_amount (h.z 0).R hj (by omega), q_bnr, q_u3 u 0 710 (by decide)]
theorem k_21 (P : Nat → Int32) (hcur : cur < 12) (cv : v 0 = nI cur) (h : q_S T nf nb nt no Ls (vw u 710) (vw v (stO cur))) : ∃ x, bS_21 P v u v (upd u 3 x) := by
  have h1 := h.hno
  have e1 : v (stO cur + 248) = nI no := h.cno
  have e2 : upd u 3 0 (710 + (3 : Int32).toNatClampNeg) = nI no := (q_un (by decide)).trans h.rno
  have n0 : ∀ p : Int32, (p < 0 ∨ nI no ≤ p) → xX8_freeAt p v = some 0 ∧ fX9_freeAt p u = some (0, upd u 3 1) := by
    intro p hp
    obtain ⟨g1, g2, g3⟩ := q_ixn hp (show no < 2 ^ 31 by omega)
    constructor
    · unfold xX8_freeAt
      rw [cv, q_ck hcur (by decide), nI_clamp (show cur < 2 ^ 31 by omega), q_nm, e1, g2, q_xs]
    · unfold fX9_freeAt
      rw [q_nm, e2, g3, q_bnr, r_fails0, q_bnd, if_neg (by decide), q_33]
  unfold bS_21
  rcases pk_ix (P 1) (n := no) (by omega) with e | e | ⟨j, hj, e⟩
  · exact ⟨1, Or.inr ⟨0, (n0 _ (Or.inl e)).1, rfl, (n0 _ (Or.inl e)).2, pk_us⟩⟩
  · exact ⟨1, Or.inr ⟨0, (n0 _ (Or.inr e)).1, rfl, (n0 _ (Or.inr e)).2, pk_us⟩⟩
  · rw [e]
    obtain ⟨g1, g2, g3⟩ := q_ixy hj (show no < 2 ^ 31 by omega)
    refine ⟨0, Or.inl ⟨vw u 710 (37 + j), ⟨?_, rfl⟩, ?_, pk_us⟩⟩
    · unfold fX8_freeAt
      rw [cv, q_ck hcur (by decide), nI_clamp (show cur < 2 ^ 31 by omega), q_nm, e1, g1, q_bnr, q_ck hcur (by decide), q_nm, q_ck (by omega) (by decide), nI_clamp (show j < 2 ^ 31 by omega), q_v2 v]
      exact congrArg some (h.cfr j hj)
    · unfold fX9_freeAt
      rw [q_nm, e2, g3, q_bnr, r_fails1, q_bnd, if_pos rfl, q_l37, nI_add, q_ck (by omega) (by decide), nI_clamp (by omega), q_un (by omega)]
      rfl
theorem k_23 (P : Nat → Int32) (hcur : cur < 12) (cv : v 0 = nI cur) (h : q_S T nf nb nt no Ls (vw u 710) (vw v (stO cur))) : ∃ x, bS_23 P v u v (upd u 3 x) := by
  unfold bS_23
  by_cases hp : q_in (P 1) 0 23
  · obtain ⟨g1, g2, g3⟩ := q_rg hp
    obtain ⟨j, e, _, hj⟩ := q_in_n (lo := 0) (hi := 23) hp (by decide) (by decide)
    refine ⟨0, Or.inl ⟨vw u 710 (13 + j), ⟨?_, rfl⟩, ?_, pk_us⟩⟩
    · unfold fX8_rateAt
      rw [g1, q_bnr, cv, q_ck hcur (by decide), nI_clamp (show cur < 2 ^ 31 by omega), q_nm, e, q_ck (by omega) (by decide), nI_clamp (show j < 2 ^ 31 by omega), q_v2 v]
      exact congrArg some (h.crt j (by omega))
    · unfold fX9_rateAt
      rw [q_nm, g3, q_bnr, r_fails1, q_bnd, if_pos rfl, e, q_l13, nI_add, q_ck (by omega) (by decide), nI_clamp (by omega), q_un (by omega)]
      rfl
  · obtain ⟨g1, g2, g3⟩ := q_rgn hp
    refine ⟨1, Or.inr ⟨0, ?_, rfl, ?_, pk_us⟩⟩
    · unfold xX8_rateAt
      rw [g2, q_xs]
    · unfold fX9_rateAt
      rw [q_nm, g3, q_bnr, r_fails0, q_bnd, if_neg (by decide), q_33]
theorem k_34 (P : Nat → Int32) (hcur : cur < 12) (cv : v 0 = nI cur) (h : q_S T nf nb nt no Ls (vw u 710) (vw v (stO cur))) : ∃ x, bS_34 P v u v (upd u 3 x) := by
  unfold bS_34
  by_cases hp : q_in (P 1) 0 5
  · obtain ⟨g1, g2, g3⟩ := q_rg hp
    obtain ⟨j, e, _, hj⟩ := q_in_n (lo := 0) (hi := 5) hp (by decide) (by decide)
    refine ⟨0, Or.inl ⟨qgs nt (vw u 710) j, ⟨?_, rfl⟩, ?_, pk_us⟩⟩
    · unfold fX8_gapSum
      rw [g1, q_bnr, cv, q_ck hcur (by decide), nI_clamp (show cur < 2 ^ 31 by omega), q_nm, e, c_sumOfKind h (by omega), q_bnr]
    · unfold fX9_gapSum
      rw [q_nm, g3, q_bnr, r_fails1, q_bnd, if_pos rfl, e, r_sumOf (h.z 0) (by omega), q_bnr, q_u3 u 0 710 (by decide)]
  · obtain ⟨g1, g2, g3⟩ := q_rgn hp
    refine ⟨1, Or.inr ⟨0, ?_, rfl, ?_, pk_us⟩⟩
    · unfold xX8_gapSum
      rw [g2, q_xs]
    · unfold fX9_gapSum
      rw [q_nm, g3, q_bnr, r_fails0, q_bnd, if_neg (by decide), q_33]
theorem k_32 (P : Nat → Int32) (hcur : cur < 12) (cv : v 0 = nI cur) (h : q_S T nf nb nt no Ls (vw u 710) (vw v (stO cur))) : ∃ x, bS_32 P v u v (upd u 3 x) := by
  have h3 := h.hnt
  have n0 : ∀ p p2 : Int32, (p < 0 ∨ nI nt ≤ p) → xX8_gapOf p p2 v = some 0 ∧ fX9_gapOf p p2 u = some (0, upd u 3 1) := by
    intro p p2 hp
    obtain ⟨g1, g2, g3⟩ := n_batch hcur cv h hp
    unfold xX8_gapOf fX9_gapOf
    rw [g2, g3]
    exact ⟨rfl, rfl⟩
  unfold bS_32
  rcases pk_ix (P 1) (n := nt) (by omega) with e | e | ⟨j, hj, e⟩
  · exact ⟨1, Or.inr (Or.inl ⟨0, (n0 _ _ (Or.inl e)).1, rfl, (n0 _ _ (Or.inl e)).2, pk_us⟩)⟩
  · exact ⟨1, Or.inr (Or.inl ⟨0, (n0 _ _ (Or.inr e)).1, rfl, (n0 _ _ (Or.inr e)).2, pk_us⟩)⟩
  · rw [e]
    obtain ⟨b1, b2, b3⟩ := y_batch hcur cv h hj
    by_cases hp : q_in (P 2) 0 4
    · obtain ⟨g1, g2, g3⟩ := q_rg hp
      obtain ⟨k, e2, _, hk⟩ := q_in_n (lo := 0) (hi := 4) hp (by decide) (by decide)
      refine ⟨0, Or.inl ⟨vw u 710 (238 + 11 * j + k), ⟨?_, rfl⟩, ?_, pk_us⟩⟩
      · unfold fX8_gapOf
        rw [b1, q_bnr, g1, q_bnr, cv, q_ck hcur (by decide), nI_clamp (show cur < 2 ^ 31 by omega), q_nm, e2, q_ck (by omega) (by decide), q_ck (by omega) (by decide), nI_clamp (show j < 2 ^ 31 by omega), nI_clamp (show k < 2 ^ 31 by omega), q_v2 v]
        exact congrArg some (h.ctg j k hj (by omega))
      · unfold fX9_gapOf
        rw [b3, q_bnd, if_neg (by decide), g3, q_bnr, r_fails1, q_bnd, if_pos rfl, e2, r_batchG (by omega) (by omega), q_bnr, q_u3 u 0 710 (by decide)]
    · obtain ⟨g1, g2, g3⟩ := q_rgn hp
      refine ⟨2, Or.inr (Or.inr ⟨0, ?_, rfl, ?_, pk_us⟩)⟩
      · unfold xX8_gapOf
        rw [b2, q_xn, b1, q_bnr, g2, q_xs]
      · unfold fX9_gapOf
        rw [b3, q_bnd, if_neg (by decide), g3, q_bnr, r_fails0, q_bnd, if_neg (by decide), q_33]
theorem k_33 (P : Nat → Int32) (hcur : cur < 12) (cv : v 0 = nI cur) (h : q_S T nf nb nt no Ls (vw u 710) (vw v (stO cur))) : ∃ x, bS_33 P v u v (upd u 3 x) := by
  have h3 := h.hnt
  have n0 : ∀ p p2 : Int32, (p < 0 ∨ nI nt ≤ p) → xX8_kindAt p p2 v = some 0 ∧ fX9_kindAt p p2 u = some (0, upd u 3 1) := by
    intro p p2 hp
    obtain ⟨g1, g2, g3⟩ := n_batch hcur cv h hp
    unfold xX8_kindAt fX9_kindAt
    rw [g2, g3]
    exact ⟨rfl, rfl⟩
  unfold bS_33
  rcases pk_ix (P 1) (n := nt) (by omega) with e | e | ⟨j, hj, e⟩
  · exact ⟨1, Or.inr ⟨0, (n0 _ _ (Or.inl e)).1, rfl, (n0 _ _ (Or.inl e)).2, pk_us⟩⟩
  · exact ⟨1, Or.inr ⟨0, (n0 _ _ (Or.inr e)).1, rfl, (n0 _ _ (Or.inr e)).2, pk_us⟩⟩
  · rw [e]
    obtain ⟨b1, b2, b3⟩ := y_batch hcur cv h hj
    have er := r_kindAt (h.z 0) hj (P 2)
    rw [q_u3 u 0 710 (by decide)] at er
    refine ⟨0, Or.inl ⟨qfi (qpl (fun o => vw u 710 (238 + 11 * j + o))) (P 2) 5 0, ⟨?_, rfl⟩, ?_, pk_us⟩⟩
    · unfold fX8_kindAt
      rw [b1, q_bnr, cv, q_ck hcur (by decide), nI_clamp (show cur < 2 ^ 31 by omega), q_nm, q_vv, c_kindInPlace h hj, q_bnr]
    · unfold fX9_kindAt
      rw [b3, q_bnd, if_neg (by decide)]
      exact er
theorem k_40 (P : Nat → Int32) (hcur : cur < 12) (cv : v 0 = nI cur) (h : q_S T nf nb nt no Ls (vw u 710) (vw v (stO cur))) : ∃ x, bS_40 P v u v (upd u 3 x) := by
  have h2 := h.hnb
  have n0 : ∀ p p2 p3 p4 : Int32, (p < 0 ∨ nI nb ≤ p) → xX8_bakeObstacle p p2 p3 p4 v = some 0 ∧ fX9_bakeObstacle p p2 p3 p4 u = some (0, upd u 3 1) := by
    intro p p2 p3 p4 hp
    obtain ⟨g1, g2, g3⟩ := n_bread hcur cv h hp
    unfold xX8_bakeObstacle fX9_bakeObstacle
    rw [g2, g3]
    exact ⟨rfl, rfl⟩
  unfold bS_40
  rcases pk_ix (P 1) (n := nb) (by omega) with e | e | ⟨j, hj, e⟩
  · exact ⟨1, Or.inr (Or.inl ⟨0, (n0 _ _ _ _ (Or.inl e)).1, rfl, (n0 _ _ _ _ (Or.inl e)).2, pk_us⟩)⟩
  · exact ⟨1, Or.inr (Or.inl ⟨0, (n0 _ _ _ _ (Or.inr e)).1, rfl, (n0 _ _ _ _ (Or.inr e)).2, pk_us⟩)⟩
  · rw [e]
    obtain ⟨b1, b2, b3⟩ := y_bread hcur cv h hj
    have f0 : fX9_bakeObstacle_J39 (nI j) (P 2) (P 3) (P 4) 0 (upd u 3 0) = some (0, upd u 3 2) := by
      unfold fX9_bakeObstacle_J39
      rw [r_fails0, q_bnd, if_neg (by decide), q_33]
    by_cases hp : q_in (P 2) 1 20 ∧ q_in (P 3) (-9) 9 ∧ q_in (P 4) (-9) 9
    · obtain ⟨p1, p2⟩ := q_plan hp.1 hp.2.1 hp.2.2
      obtain ⟨l, e2, hl1, hl⟩ := q_in_n (lo := 1) (hi := 20) hp.1 (by decide) (by decide)
      refine ⟨0, Or.inl ⟨qob nf nt Ls (vw u 710) j (nI l) (P 3) (P 4), ⟨?_, rfl⟩, ?_, pk_us⟩⟩
      · unfold fX8_bakeObstacle
        rw [b1, q_bnr, p1, q_bnr, cv, q_ck hcur (by decide), nI_clamp (show cur < 2 ^ 31 by omega), q_nm, e2, c_obstacle h hj hl, q_bnr]
      · unfold fX9_bakeObstacle
        rw [b3, q_bnd, if_neg (by decide), (q_rg hp.1).2.2, q_bnr, if_neg (by decide), r_isExtra hp.2.1, q_bnr, if_neg (by decide), r_isExtra hp.2.2, q_bnr, if_neg (by decide)]
        unfold fX9_bakeObstacle_J39
        rw [r_fails1, q_bnd, if_pos rfl, e2, r_obstacle (h.z 0) hj, q_bnr, q_u3 u 0 710 (by decide)]
    · obtain ⟨p1, p2⟩ := q_plann hp
      refine ⟨2, Or.inr (Or.inr ⟨0, ?_, rfl, ?_, pk_us⟩)⟩
      · unfold xX8_bakeObstacle
        rw [b2, q_xn, b1, q_bnr, p2, q_xs]
      · unfold fX9_bakeObstacle fX9_bakeObstacle_J38
        rw [b3, q_bnd, if_neg (by decide)]
        by_cases h1 : q_in (P 2) 1 20
        · rw [(q_rg h1).2.2, q_bnr, if_neg (by decide)]
          by_cases h2 : q_in (P 3) (-9) 9
          · rw [r_isExtra h2, q_bnr, if_neg (by decide), r_isExtran (fun q => hp ⟨h1, h2, q⟩), q_bnr, if_pos rfl]
            exact f0
          · rw [r_isExtran h2, q_bnr, if_pos rfl]
            exact f0
        · rw [(q_rgn h1).2.2, q_bnr, if_pos rfl]
          exact f0
theorem k_42 (P : Nat → Int32) (hcur : cur < 12) (cv : v 0 = nI cur) (h : q_S T nf nb nt no Ls (vw u 710) (vw v (stO cur))) : ∃ x, bS_42 P v u v (upd u 3 x) := by
  have h2 := h.hnb
  have n0 : ∀ p : Int32, (p < 0 ∨ nI nb ≤ p) → xX8_possibleLoaves p v = some 0 ∧ fX9_possibleLoaves p u = some (0, upd u 3 1) := by
    intro p hp
    obtain ⟨g1, g2, g3⟩ := n_bread hcur cv h hp
    unfold xX8_possibleLoaves fX9_possibleLoaves
    rw [g2, g3]
    exact ⟨rfl, rfl⟩
  unfold bS_42
  rcases pk_ix (P 1) (n := nb) (by omega) with e | e | ⟨j, hj, e⟩
  · exact ⟨1, Or.inr ⟨0, (n0 _ (Or.inl e)).1, rfl, (n0 _ (Or.inl e)).2, pk_us⟩⟩
  · exact ⟨1, Or.inr ⟨0, (n0 _ (Or.inr e)).1, rfl, (n0 _ (Or.inr e)).2, pk_us⟩⟩
  · rw [e]
    obtain ⟨b1, b2, b3⟩ := y_bread hcur cv h hj
    obtain ⟨m, hm⟩ := q_most h hj
    have er := r_most (h.z 0) hj (m := m) (by rw [q_u3 u 0 710 (by decide)]; exact hm)
    refine ⟨0, Or.inl ⟨nI m, ⟨?_, rfl⟩, ?_, pk_us⟩⟩
    · unfold fX8_possibleLoaves
      rw [b1, q_bnr, cv, q_ck hcur (by decide), nI_clamp (show cur < 2 ^ 31 by omega), q_nm, c_mostLoaves h hj hm, q_bnr]
    · unfold fX9_possibleLoaves
      rw [b3, q_bnd, if_neg (by decide)]
      exact er
theorem y_plan (hcur : cur < 12) (cv : v 0 = nI cur) (h : q_S T nf nb nt no Ls (vw u 710) (vw v (stO cur))) {j : Nat} {x : Int32} (hj : j < nb) (hx : q_in x 1 20) : fX9_isPlan (nI j) x u = some (1, upd u 3 0) := by
  obtain ⟨b1, b2, b3⟩ := y_bread hcur cv h hj
  unfold fX9_isPlan
  rw [b3, q_bnd, if_neg (by decide), (q_rg hx).2.2, q_bnr, r_fails1, q_bnd, if_pos rfl]
theorem n_plan (hcur : cur < 12) (cv : v 0 = nI cur) (h : q_S T nf nb nt no Ls (vw u 710) (vw v (stO cur))) {j : Nat} {x : Int32} (hj : j < nb) (hx : ¬ q_in x 1 20) : fX9_isPlan (nI j) x u = some (0, upd u 3 2) := by
  obtain ⟨b1, b2, b3⟩ := y_bread hcur cv h hj
  unfold fX9_isPlan
  rw [b3, q_bnd, if_neg (by decide), (q_rgn hx).2.2, q_bnr, r_fails0, q_bnd, if_neg (by decide), q_33]
theorem m_plan (hcur : cur < 12) (cv : v 0 = nI cur) (h : q_S T nf nb nt no Ls (vw u 710) (vw v (stO cur))) {p x : Int32} (hp : p < 0 ∨ nI nb ≤ p) : fX9_isPlan p x u = some (0, upd u 3 1) := by
  obtain ⟨b1, b2, b3⟩ := n_bread hcur cv h hp
  unfold fX9_isPlan
  rw [b3, q_bnd, if_pos rfl]
theorem k_43 (P : Nat → Int32) (hcur : cur < 12) (cv : v 0 = nI cur) (h : q_S T nf nb nt no Ls (vw u 710) (vw v (stO cur))) : ∃ x, bS_43 P v u v (upd u 3 x) := by
  have h2 := h.hnb
  have h4 := h.hno
  have n0 : ∀ p p2 : Int32, (p < 0 ∨ nI nb ≤ p) → xX8_bestWait p p2 v = some 0 ∧ fX9_bestWait p p2 u = some (0, upd u 3 1) := by
    intro p p2 hp
    obtain ⟨g1, g2, g3⟩ := n_bread hcur cv h hp
    unfold xX8_bestWait fX9_bestWait
    rw [g2, m_plan hcur cv h hp]
    exact ⟨rfl, rfl⟩
  unfold bS_43
  rcases pk_ix (P 1) (n := nb) (by omega) with e | e | ⟨j, hj, e⟩
  · exact ⟨1, Or.inr (Or.inl ⟨0, (n0 _ _ (Or.inl e)).1, rfl, (n0 _ _ (Or.inl e)).2, pk_us⟩)⟩
  · exact ⟨1, Or.inr (Or.inl ⟨0, (n0 _ _ (Or.inr e)).1, rfl, (n0 _ _ (Or.inr e)).2, pk_us⟩)⟩
  · rw [e]
    obtain ⟨b1, b2, b3⟩ := y_bread hcur cv h hj
    by_cases hp : q_in (P 2) 1 20
    · obtain ⟨p1, p2⟩ := q_plan hp q_in00 q_in00
      obtain ⟨l, e2, hl1, hl⟩ := q_in_n (lo := 1) (hi := 20) hp (by decide) (by decide)
      have er := r_bestWait (h.z 0) hj hl
      have ho := qov_lt (r := vw u 710) h4
      refine ⟨0, Or.inl ⟨nI (qff (qpw no (vw u 710) j l) 23 1 0), ⟨?_, rfl⟩, ?_, pk_us⟩⟩
      · unfold fX8_bestWait
        rw [b1, q_bnr, p1, q_bnr, cv, q_ck hcur (by decide), nI_clamp (show cur < 2 ^ 31 by omega), q_nm, e2, c_cheapestWait h hj hl, q_bnr]
      · have e7 : upd u 3 0 (710 + (37 + qov no (vw u 710))) = vw (upd u 3 0) 710 (37 + qov no (vw (upd u 3 0) 710)) := by rw [q_u3 u 0 710 (by decide), q_un (by omega)]; rfl
        unfold fX9_bestWait
        rw [y_plan hcur cv h hj hp, q_bnd, if_neg (by decide), r_firstOven (h.z 0).P, q_bnr, q_u3 u 0 710 (by decide), q_l37, nI_add, q_ck (by omega) (by decide), nI_clamp (by omega), q_nm, e7, e2, er, q_u3 u 0 710 (by decide)]
    · obtain ⟨p1, p2⟩ := q_plann (x := P 2) (y := 0) (z := 0) (fun q => hp q.1)
      refine ⟨2, Or.inr (Or.inr ⟨0, ?_, rfl, ?_, pk_us⟩)⟩
      · unfold xX8_bestWait
        rw [b2, q_xn, b1, q_bnr, p2, q_xs]
      · unfold fX9_bestWait
        rw [n_plan hcur cv h hj hp, q_bnd, if_pos rfl]
theorem k_49 (P : Nat → Int32) (hcur : cur < 12) (cv : v 0 = nI cur) (h : q_S T nf nb nt no Ls (vw u 710) (vw v (stO cur))) : ∃ x, bS_49 P v u v (upd u 3 x) := by
  have h3 := h.hnt
  have h9 := h.z 0
  have en : upd u 3 0 (710 + (7 : Int32).toNatClampNeg) = nI nt := (q_un (by decide)).trans h.rnt
  have u0 : upd u 3 0 (710 + (0 : Int32).toNatClampNeg) = vw u 710 0 := q_un (by decide)
  have u1 : upd u 3 0 (710 + (1 : Int32).toNatClampNeg) = vw u 710 1 := q_un (by decide)
  have u12 : upd u 3 0 (710 + (12 : Int32).toNatClampNeg) = vw u 710 12 := q_un (by decide)
  have ew := r_worth h9
  have eb := r_bvalue h9
  have eg := r_allGaps h9
  rw [q_u3 u 0 710 (by decide)] at eb eg
  have el : ∀ i, i < nt → fX9_loss (nI i) (upd u 3 0) = some (qls nf (vw u 710) i) := fun i hi => by
    have e := r_loss h9 hi
    rw [q_u3 u 0 710 (by decide)] at e
    exact e
  have ep : ∀ i, i < nt → fX9_gapsOf (nI i) (upd u 3 0) = some (qS (fun k => vw u 710 (238 + 11 * i + k)) 5) := fun i hi => by
    have e := r_gapsOf h9 hi
    rw [q_u3 u 0 710 (by decide)] at e
    exact e
  have f0 : fX9_flag 0 = some 0 := rfl
  have f1 : fX9_flag 1 = some 1 := rfl
  refine ⟨0, qim nf nb nt Ls (vw u 710) + (qune nf nt (vw u 710) - 0), ⟨?_, rfl⟩, ?_⟩
  rotate_left
  · unfold fX9_consistencyError
    rw [q_nm, ew, q_bnr, eb, q_bnr, u0, q_nm, eg, q_bnr, u1, u12, q_nm, q_nm]
    have key := q_for (F := fX9_consistencyError_L52) (z := fun _ _ _ => none) (n := nt) (Sp := fun i K => ∀ y, K y (nI i) (upd u 3 0) = some (y + (qune nf nt (vw u 710) - qune nf i (vw u 710)), upd u 3 0)) (fun K y => by
      unfold fX9_consistencyError_L52
      rw [en, if_pos (Int32.le_refl _), Int32.sub_self, Int32.add_zero]) (fun i K hi hK y => by
      unfold fX9_consistencyError_L52 fX9_consistencyError_J85
      rw [en, if_neg (nI_ge hi (by omega)), el i hi, q_bnr, ep i hi, q_bnr, f0, f1, q_bnr, q_bnr, q_nm, q_nm, q_nm, q_nm, q_add1, hK, hK]
      have eq : qune nf (i + 1) (vw u 710) = qune nf i (vw u 710) + (if qls nf (vw u 710) i = qS (fun k => vw u 710 (238 + 11 * i + k)) 5 then 0 else 1) := rfl
      rw [eq]
      by_cases e : qls nf (vw u 710) i = qS (fun k => vw u 710 (238 + 11 * i + k)) 5
      · rw [if_pos e, if_pos e, Int32.add_zero, Int32.add_zero]
      · rw [if_neg e, if_neg e]
        congr 2
        grind) lpN 0 (Nat.zero_le _) (q_lpN _ (by omega))
    exact key (qim nf nb nt Ls (vw u 710))
  · unfold fX8_consistencyError
    rw [cv, q_ck hcur (by decide), nI_clamp (show cur < 2 ^ 31 by omega), q_nm, c_imbalance h, q_bnr, q_ck hcur (by decide), q_nm, q_vv, c_unexplained h, q_bnr]
    rw [Int32.sub_zero]
    rfl
end
