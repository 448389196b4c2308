/-! ===== layer 2: a loss foreseen; copies of a state ===== -/
section
variable {T nf nb nt no : Nat} {Ls : Nat → List (Nat × Nat)} {r c u : bM}
theorem c_plainLoss (h : q_S T nf nb nt no Ls r c) {b l : Nat} (hb : b < nb) (hl : l ≤ 20) (h0 : qob nf nt Ls r b (nI l) 0 0 = 0) : fX6_plainLoss (nI b) (nI l) c = some (qS (fun f => nI (qW (qn (quse r b f (nI l) 0)) (Ls f))) nf + qpm r (qn (qst no r (r 4))) (qn (r (209 + 4 * b) * nI l + 0)) - (nI l - nI 0) * qstd nf r b) := by
  have h1 := h.hnf
  have h2 := h.hnb
  have hT := h.hT
  obtain ⟨k1, _, k3⟩ := qb_n h.rck (by omega)
  obtain ⟨hnt, _, hw⟩ := qob_0 h hl h0
  obtain ⟨m1, _, m3⟩ := qb_n (h.rbm b hb) (by omega)
  have hm2 : qn (r (209 + 4 * b)) * l ≤ 9 * 20 := Nat.mul_le_mul m3 hl
  have e1 : qpw no r b l 0 = qpm r (qn (qst no r (r 4))) (qn (r (209 + 4 * b) * nI l + 0)) := by
    unfold qpw
    rw [Nat.mul_zero, Nat.add_zero, ← k1, Int32.add_zero]
    congr 1
    rw [m1, pk_mul, qn_nI (by omega), qn_nI (by omega)]
  unfold fX6_plainLoss
  rw [q_l0, c_plainOven h hb hl (by decide), q_bnr, ← q_l0, c_flourCost h1 (fun f => qn (quse r b f (nI l) 0)) (fun f hf => by have := hw f hf; omega) h.cnf (fun f hf => ⟨h.lo f hf, h.clt f hf⟩) (fun f hf => by rw [c_unitsFor h.R hb (by omega) (h.cam b f hb (by omega)) (h.cmf b hb)]; exact congrArg some (hw f hf).1), q_bnr, q_ck (by omega) (by decide), nI_clamp (by omega), h.cst b hb, e1, Int32.sub_zero]
end
theorem q_cpi {v u : bM} {o m x : Nat} (h : o ≤ x ∧ x < o + m) : spl v o m (vw u o) x = u x := by
  rw [q_spi (show o + (x - o) = x by omega) (by omega)]
  exact congrArg u (by omega)
theorem c_copy2 (v u : bM) : ∃ w, fX2_copyFrom v u = some w ∧ ∀ x, x < 169 → w x = u x := by
  have key := q_for (F := fX2_copyFrom_L54 u) (z := fun _ _ => none) (n := 6) (Sp := fun i K => ∀ v : bM, (∀ x, x < 169 → (x < 13 + 12 * i ∨ (85 ≤ x ∧ x < 85 + 12 * i) ∨ 157 ≤ x) → v x = u x) → ∃ w, K (nI i) v = some w ∧ ∀ x, x < 169 → w x = u x) (fun K v hv => by
    refine ⟨v, ?_, fun x hx => hv x hx (by omega)⟩
    unfold fX2_copyFrom_L54
    rw [q_l6, if_pos (Int32.le_refl _)]) (fun i K hi hK v hv => by
    obtain ⟨w, g1, g2⟩ := hK (spl (spl v (13 + 12 * i) 12 (vw u (13 + 12 * i))) (85 + 12 * i) 12 (vw u (85 + 12 * i))) (fun x hx hx2 => by
      by_cases e1 : 85 + 12 * i ≤ x ∧ x < 85 + 12 * i + 12
      · exact q_cpi e1
      · rw [q_spo e1]
        by_cases e2 : 13 + 12 * i ≤ x ∧ x < 13 + 12 * i + 12
        · exact q_cpi e2
        · rw [q_spo e2]
          exact hv x hx (by omega))
    refine ⟨w, ?_, g2⟩
    unfold fX2_copyFrom_L54
    rw [q_l6, if_neg (nI_ge hi (by decide)), q_ck hi (by decide), q_ck hi (by decide), nI_clamp (by omega), q_nm, q_ck hi (by decide), q_ck hi (by decide), q_nm, q_nm, q_add1]
    exact g1) lpN 0 (Nat.zero_le _) (q_lpN _ (by decide)) (spl (spl (spl (spl (upd v 0 (u 0)) 1 6 (vw u 1)) 7 6 (vw u 7)) 157 6 (vw u 157)) 163 6 (vw u 163)) (fun x hx hx2 => by
    by_cases e1 : 163 ≤ x ∧ x < 163 + 6
    · exact q_cpi e1
    · rw [q_spo e1]
      by_cases e2 : 157 ≤ x ∧ x < 157 + 6
      · exact q_cpi e2
      · rw [q_spo e2]
        by_cases e3 : 7 ≤ x ∧ x < 7 + 6
        · exact q_cpi e3
        · rw [q_spo e3]
          by_cases e4 : 1 ≤ x ∧ x < 1 + 6
          · exact q_cpi e4
          · rw [q_spo e4, show x = 0 by omega, pk_us])
  obtain ⟨w, g1, g2⟩ := key
  refine ⟨w, ?_, g2⟩
  unfold fX2_copyFrom
  rw [q_nm, q_nm, q_nm, q_nm, q_nm, q_nm]
  exact g1
theorem c_copy1 (v u : bM) : ∃ w, fX1_copyFrom v u = some w ∧ ∀ x, x < 73 → w x = u x := by
  have key := q_for (F := fX1_copyFrom_L76 u) (z := fun _ _ => none) (n := 6) (Sp := fun i K => ∀ v : bM, (∀ x, x < 37 + 6 * i → v x = u x) → ∃ w, K (nI i) v = some w ∧ ∀ x, x < 73 → w x = u x) (fun K v hv => by
    refine ⟨v, ?_, fun x hx => hv x (by omega)⟩
    unfold fX1_copyFrom_L76
    rw [q_l6, if_pos (Int32.le_refl _)]) (fun i K hi hK v hv => by
    obtain ⟨w, g1, g2⟩ := hK (spl v (37 + 6 * i) 6 (vw u (37 + 6 * i))) (fun x hx => by
      by_cases e1 : 37 + 6 * i ≤ x ∧ x < 37 + 6 * i + 6
      · exact q_cpi e1
      · rw [q_spo e1]
        exact hv x (by omega))
    refine ⟨w, ?_, g2⟩
    unfold fX1_copyFrom_L76
    rw [q_l6, if_neg (nI_ge hi (by decide)), q_ck hi (by decide), q_ck hi (by decide), nI_clamp (by omega), q_nm, q_nm, q_add1]
    exact g1) lpN 0 (Nat.zero_le _) (q_lpN _ (by decide)) (spl (spl (spl (spl (spl (spl (upd v 0 (u 0)) 1 6 (vw u 1)) 7 6 (vw u 7)) 13 6 (vw u 13)) 19 6 (vw u 19)) 25 6 (vw u 25)) 31 6 (vw u 31)) (fun x hx => by
    by_cases e1 : 31 ≤ x ∧ x < 31 + 6
    · exact q_cpi e1
    · rw [q_spo e1]
      by_cases e2 : 25 ≤ x ∧ x < 25 + 6
      · exact q_cpi e2
      · rw [q_spo e2]
        by_cases e3 : 19 ≤ x ∧ x < 19 + 6
        · exact q_cpi e3
        · rw [q_spo e3]
          by_cases e4 : 13 ≤ x ∧ x < 13 + 6
          · exact q_cpi e4
          · rw [q_spo e4]
            by_cases e5 : 7 ≤ x ∧ x < 7 + 6
            · exact q_cpi e5
            · rw [q_spo e5]
              by_cases e6 : 1 ≤ x ∧ x < 1 + 6
              · exact q_cpi e6
              · rw [q_spo e6, show x = 0 by omega, pk_us])
  obtain ⟨w, g1, g2⟩ := key
  refine ⟨w, ?_, g2⟩
  unfold fX1_copyFrom
  rw [q_nm, q_nm, q_nm, q_nm, q_nm, q_nm, q_nm, q_nm]
  exact g1
theorem c_copy5 (v u : bM) : ∃ w, fX5_copyFrom v u = some w ∧ ∀ x, x < 29 → w x = u x := by
  refine ⟨spl (spl (upd (upd v 0 (u 0)) 1 (u 1)) 2 3 (vw u 2)) 5 24 (vw u 5), rfl, fun x hx => ?_⟩
  by_cases e1 : 5 ≤ x ∧ x < 5 + 24
  · exact q_cpi e1
  · rw [q_spo e1]
    by_cases e2 : 2 ≤ x ∧ x < 2 + 3
    · exact q_cpi e2
    · rw [q_spo e2]
      by_cases e3 : x = 1
      · rw [e3, pk_us]
      · rw [q_un e3, show x = 0 by omega, pk_us]
theorem c_copy0 (v u : bM) : ∃ w, fX0_copyFrom v u = some w ∧ ∀ x, x < 313 → w x = u x := by
  have key := q_for (F := fX0_copyFrom_L98 u) (z := fun _ _ => none) (n := 24) (Sp := fun i K => ∀ v : bM, (∀ x, x < 193 + 5 * i → v x = u x) → ∃ w, K (nI i) v = some w ∧ ∀ x, x < 313 → w x = u x) (fun K v hv => by
    refine ⟨v, ?_, fun x hx => hv x (by omega)⟩
    unfold fX0_copyFrom_L98
    rw [q_l24, if_pos (Int32.le_refl _)]) (fun i K hi hK v hv => by
    obtain ⟨w, g1, g2⟩ := hK (spl v (193 + 5 * i) 5 (vw u (193 + 5 * i))) (fun x hx => by
      by_cases e1 : 193 + 5 * i ≤ x ∧ x < 193 + 5 * i + 5
      · exact q_cpi e1
      · rw [q_spo e1]
        exact hv x (by omega))
    refine ⟨w, ?_, g2⟩
    unfold fX0_copyFrom_L98
    rw [q_l24, if_neg (nI_ge hi (by decide)), q_ck hi (by decide), q_ck hi (by decide), nI_clamp (by omega), q_nm, q_nm, q_add1]
    exact g1) lpN 0 (Nat.zero_le _) (q_lpN _ (by decide)) (spl (spl (spl (spl (spl (spl (spl (spl (upd v 0 (u 0)) 1 24 (vw u 1)) 25 24 (vw u 25)) 49 24 (vw u 49)) 73 24 (vw u 73)) 97 24 (vw u 97)) 121 24 (vw u 121)) 145 24 (vw u 145)) 169 24 (vw u 169)) (fun x hx => by
    have st : ∀ (a : bM) (o : Nat), (∀ x, x < o → a x = u x) → ∀ x, x < o + 24 → spl a o 24 (vw u o) x = u x := fun a o ha x hx => by
      by_cases e : o ≤ x ∧ x < o + 24
      · exact q_cpi e
      · rw [q_spo e]
        exact ha x (by omega)
    refine st _ 169 (st _ 145 (st _ 121 (st _ 97 (st _ 73 (st _ 49 (st _ 25 (st _ 1 (fun x hx => ?_)))))))) x (by omega)
    rw [show x = 0 by omega, pk_us])
  obtain ⟨w, g1, g2⟩ := key
  refine ⟨w, ?_, g2⟩
  unfold fX0_copyFrom
  rw [q_nm, q_nm, q_nm, q_nm, q_nm, q_nm, q_nm, q_nm, q_nm, q_nm]
  exact g1
theorem c_copy6 (v u : bM) : ∃ w, fX6_copyFrom v u = some w ∧ ∀ x, x < 590 → w x = u x := by
  have hV : ∃ a, a = upd (upd (upd (upd (upd (upd v 0 (u 0)) 1 (u 1)) 2 (u 2)) 3 (u 3)) 4 (u 4)) 5 (u 5) := ⟨_, rfl⟩
  obtain ⟨a, ha⟩ := hV
  have ha6 : ∀ x, x < 6 → a x = u x := fun x hx => by
    rw [ha]
    match x, hx with
    | 0, _ => simp (disch := omega) only [pk_un, pk_us]
    | 1, _ => simp (disch := omega) only [pk_un, pk_us]
    | 2, _ => simp (disch := omega) only [pk_un, pk_us]
    | 3, _ => simp (disch := omega) only [pk_un, pk_us]
    | 4, _ => simp (disch := omega) only [pk_un, pk_us]
    | 5, _ => exact pk_us
    | n + 6, hx => exact absurd hx (by omega)
  obtain ⟨w2, a1, a2⟩ := c_copy2 (vw a 6) (vw u 6)
  obtain ⟨w1, b1, b2⟩ := c_copy1 (vw (spl a 6 169 w2) 175) (vw u 175)
  obtain ⟨w5, c1, c2⟩ := c_copy5 (vw (spl (spl a 6 169 w2) 175 73 w1) 248) (vw u 248)
  obtain ⟨w0, d1, d2⟩ := c_copy0 (vw (spl (spl (spl a 6 169 w2) 175 73 w1) 248 29 w5) 277) (vw u 277)
  refine ⟨spl (spl (spl (spl a 6 169 w2) 175 73 w1) 248 29 w5) 277 313 w0, ?_, fun x hx => ?_⟩
  · unfold fX6_copyFrom
    rw [q_nm, q_nm, q_nm, q_nm, q_nm, q_nm, q_nm, q_nm, q_nm, q_nm, q_nm, q_nm, ← ha, a1, q_bnw, q_nm, b1, q_bnw, q_nm, c1, q_bnw, q_nm, d1, q_bnw, q_nm]
  · by_cases e1 : 277 ≤ x ∧ x < 277 + 313
    · rw [q_spi (show 277 + (x - 277) = x by omega) (by omega), d2 _ (by omega)]
      exact congrArg u (by omega)
    · rw [q_spo e1]
      by_cases e2 : 248 ≤ x ∧ x < 248 + 29
      · rw [q_spi (show 248 + (x - 248) = x by omega) (by omega), c2 _ (by omega)]
        exact congrArg u (by omega)
      · rw [q_spo e2]
        by_cases e3 : 175 ≤ x ∧ x < 175 + 73
        · rw [q_spi (show 175 + (x - 175) = x by omega) (by omega), b2 _ (by omega)]
          exact congrArg u (by omega)
        · rw [q_spo e3]
          by_cases e4 : 6 ≤ x ∧ x < 6 + 169
          · rw [q_spi (show 6 + (x - 6) = x by omega) (by omega), a2 _ (by omega)]
            exact congrArg u (by omega)
          · rw [q_spo e4]
            exact ha6 x (by omega)
