/-! ===== layer 2: the reference takes one unit ===== -/
theorem r_takeUnit {u : bM} {f : Nat} {x : Nat × Nat} {t : List (Nat × Nat)} (hf : f < 6) (hL : q_lo (x :: t)) (h : q_9 (vw u 710) f (x :: t)) : ∃ e, fX9_takeUnit (nI f) u = some (nI x.2, e) ∧ q_9 (vw e 710) f (qD 1 (x :: t)) ∧ ∀ y, y ≠ 710 + (41 + 28 * f) → ¬ (754 + 28 * f ≤ y ∧ y < 778 + 28 * f) → e y = u y := by
  have hl : t.length + 1 ≤ 12 := hL.1
  have hx := hL.2 x List.mem_cons_self
  have h0 := h.2 0 x rfl
  have eu : u (710 + (44 + 28 * f)) = nI x.1 := h0.1
  have ep : u (710 + (44 + 28 * f + 2 * 0 + 1)) = nI x.2 := by
    rw [show 44 + 28 * f + 2 * 0 + 1 = 45 + 28 * f + 2 * 0 by omega]
    exact h0.2
  have ex3 : ((40 : Int32) + 28 * nI f) + 4 = nI (44 + 28 * f) := by
    rw [q_l40, q_l28, q_l4, pk_mul, nI_add, nI_add, show 40 + 28 * f + 4 = 44 + 28 * f by omega]
  have e1 : nI x.1 - 1 = nI (x.1 - 1) := by rw [q_l1, pk_sub hx.1]
  have eD : qD 1 (x :: t) = if x.1 ≤ 1 then qD (1 - x.1) t else (x.1 - 1, x.2) :: t := rfl
  have start : fX9_takeUnit (nI f) u = (if upd u (710 + (44 + 28 * f)) (nI (x.1 - 1)) (710 + (44 + 28 * f)) = 0 then (bnr (fX9_flour (nI f) 1 (upd u (710 + (44 + 28 * f)) (nI (x.1 - 1)))) fun r11 => lp (fX9_takeUnit_L48 (nI f) (nI x.2) (nI (44 + 28 * f)) r11) (fun _ _ => none) lpN 0 (upd u (710 + (44 + 28 * f)) (nI (x.1 - 1)))) else (some (nI x.2, upd u (710 + (44 + 28 * f)) (nI (x.1 - 1))))) := by
    unfold fX9_takeUnit
    rw [q_l0, q_l1, r_lot hf (by decide) (by decide), q_bnr, ep, q_nm, ← q_l0, ← q_l1, ex3, q_ck (by omega) (by decide), nI_clamp (by omega), q_nm, eu, e1, q_ck (by omega) (by decide), q_nm, q_ck (by omega) (by decide)]
  by_cases hx1 : x.1 ≤ 1
  · have hx2 : x.1 - 1 = 0 := by omega
    have hD : qD (1 - x.1) t = t := by
      rw [show 1 - x.1 = 0 by omega]
      exact qD_0 (fun y hy => (hL.2 y (List.mem_cons_of_mem _ hy)).1)
    rw [eD, if_pos hx1, hD, start]
    rw [hx2] at *
    clear start
    rw [q_uat rfl, if_pos (show nI 0 = 0 from rfl)]
    have hq : q_9 (vw (upd u (710 + (44 + 28 * f)) (nI 0)) 710) f ((0, x.2) :: t) := by
      refine ⟨?_, fun l y hy => ?_⟩
      · rw [q_vw, q_un (by omega)]
        exact h.1
      · rw [q_vw, q_vw]
        cases l with
        | zero =>
          have hy : (0, x.2) = y := Option.some.inj hy
          rw [q_uat (by omega), q_un (by omega), ← hy]
          exact ⟨rfl, h0.2⟩
        | succ l =>
          rw [q_un (by omega), q_un (by omega)]
          exact h.2 (l + 1) y hy
    rw [r_lots hf hq, q_bnr]
    generalize hv : upd u (710 + (44 + 28 * f)) (nI 0) = v at hq
    have hvu : ∀ y, y ≠ 710 + (44 + 28 * f) → v y = u y := fun y hy => by rw [← hv, q_un hy]
    have key := q_for (F := fX9_takeUnit_L48 (nI f) (nI x.2) (nI (44 + 28 * f)) (nI (t.length + 1))) (z := fun _ _ => none) (n := 2 * t.length) (Sp := fun i K => ∀ (d : bM), (∀ j, j < i → d (710 + (44 + 28 * f) + j) = u (710 + (44 + 28 * f) + (j + 2))) → (∀ j, i ≤ j → 0 < j → d (710 + (44 + 28 * f) + j) = u (710 + (44 + 28 * f) + j)) → d (710 + (41 + 28 * f)) = nI (t.length + 1) → (∀ y, y ≠ 710 + (41 + 28 * f) → ¬ (754 + 28 * f ≤ y ∧ y < 778 + 28 * f) → d y = u y) → ∃ e, K (nI i) d = some (nI x.2, e) ∧ (∀ j, j < 2 * t.length → e (710 + (44 + 28 * f) + j) = u (710 + (44 + 28 * f) + (j + 2))) ∧ e (710 + (41 + 28 * f)) = nI t.length ∧ (∀ y, y ≠ 710 + (41 + 28 * f) → ¬ (754 + 28 * f ≤ y ∧ y < 778 + 28 * f) → e y = u y)) (fun K d d1 d2 d3 d4 => by
      refine ⟨upd (upd (upd d (710 + (44 + 28 * f + 2 * t.length)) 0) (710 + (45 + 28 * f + 2 * t.length)) 0) (710 + (41 + 28 * f)) (nI t.length), ?_, ?_, ?_, ?_⟩
      · have a1 : (2 : Int32) * nI (t.length + 1) - 2 = nI (2 * t.length) := by
          rw [q_l2, pk_mul, pk_sub (by omega), show 2 * (t.length + 1) - 2 = 2 * t.length by omega]
        have a2 : (nI (44 + 28 * f) + 2 * nI (t.length + 1)) - 2 = nI (44 + 28 * f + 2 * t.length) := by
          rw [q_l2, pk_mul, nI_add, pk_sub (by omega), show 44 + 28 * f + 2 * (t.length + 1) - 2 = 44 + 28 * f + 2 * t.length by omega]
        have a3 : (nI (44 + 28 * f) + 2 * nI (t.length + 1)) - 1 = nI (45 + 28 * f + 2 * t.length) := by
          rw [q_l2, q_l1, pk_mul, nI_add, pk_sub (by omega), show 44 + 28 * f + 2 * (t.length + 1) - 1 = 45 + 28 * f + 2 * t.length by omega]
        have a4 : ∀ d : bM, d (710 + (41 + 28 * f)) = nI (t.length + 1) → fX9_addToFlour (nI f) 1 (-1) d = some (upd d (710 + (41 + 28 * f)) (nI t.length)) := by
          intro d hd
          rw [q_l1, r_addToFlour hf (by decide), ← q_l1, show 40 + 28 * f + 1 = 41 + 28 * f by omega, hd, pk_m1]
        unfold fX9_takeUnit_L48
        rw [a1, a2, a3, if_pos (Int32.le_refl _), q_ck (by omega) (by decide), nI_clamp (by omega), q_nm, q_ck (by omega) (by decide), nI_clamp (by omega), q_nm, a4 _ (by rw [q_un (by omega), q_un (by omega)]; exact d3)]
        rfl
      · intro j hj
        rw [q_un (by omega), q_un (by omega), q_un (by omega)]
        exact d1 j hj
      · rw [q_uat rfl]
      · intro y h1 h2
        rw [q_un h1, q_un (by omega), q_un (by omega)]
        exact d4 y h1 h2) (fun i K hi hK d d1 d2 d3 d4 => by
      obtain ⟨e, g1, g2, g3, g4⟩ := hK (upd d (710 + (44 + 28 * f + i)) (u (710 + (44 + 28 * f) + (i + 2)))) (fun j hj => by
        by_cases hji : j = i
        · rw [q_uat (by omega), hji]
        · rw [q_un (by omega)]
          exact d1 j (by omega)) (fun j hj hj0 => by
        rw [q_un (by omega)]
        exact d2 j (by omega) hj0) (by rw [q_un (by omega)]; exact d3) (fun y h1 h2 => by
        rw [q_un (by omega)]
        exact d4 y h1 h2)
      refine ⟨e, ?_, g2, g3, g4⟩
      have a1 : (2 : Int32) * nI (t.length + 1) - 2 = nI (2 * t.length) := by
        rw [q_l2, pk_mul, pk_sub (by omega), show 2 * (t.length + 1) - 2 = 2 * t.length by omega]
      have a2 : (nI (44 + 28 * f) + nI i) + 2 = nI (44 + 28 * f + i + 2) := by
        rw [q_l2, nI_add, nI_add]
      have a3 := d2 (i + 2) (by omega) (by omega)
      unfold fX9_takeUnit_L48
      rw [a1, a2, if_neg (nI_ge hi (by omega)), nI_add, q_ck (by omega) (by decide), nI_clamp (show 44 + 28 * f + i + 2 < 2 ^ 31 by omega), q_nm, show 710 + (44 + 28 * f + i + 2) = 710 + (44 + 28 * f) + (i + 2) by omega, a3, q_ck (by omega) (by decide), nI_clamp (by omega), q_nm, q_nm, q_add1]
      exact g1) lpN 0 (Nat.zero_le _) (q_lpN _ (by omega)) v (fun j hj => absurd hj (Nat.not_lt_zero _)) (fun j _ hj => hvu _ (by omega)) (by rw [hvu _ (by omega)]; exact h.1) (fun y h1 h2 => hvu y (by omega))
    obtain ⟨e, g1, g2, g3, g4⟩ := key
    refine ⟨e, g1, ⟨g3, fun l y hy => ?_⟩, g4⟩
    have hi := q_ix hy
    have h9 := h.2 (l + 1) y hy
    rw [q_vw, q_vw] at h9 ⊢
    rw [show 710 + (44 + 28 * f + 2 * l) = 710 + (44 + 28 * f) + 2 * l by omega, show 710 + (45 + 28 * f + 2 * l) = 710 + (44 + 28 * f) + (2 * l + 1) by omega, g2 _ (by omega), g2 _ (by omega), show 710 + (44 + 28 * f) + (2 * l + 2) = 710 + (44 + 28 * f + 2 * (l + 1)) by omega, show 710 + (44 + 28 * f) + (2 * l + 1 + 2) = 710 + (45 + 28 * f + 2 * (l + 1)) by omega]
    exact h9
  · rw [eD, if_neg hx1]
    refine ⟨upd u (710 + (44 + 28 * f)) (nI (x.1 - 1)), ?_, ⟨?_, fun l y hy => ?_⟩, fun y h1 h2 => q_un (by omega)⟩
    · rw [start, q_uat rfl, if_neg (nI_ne0 (by omega) (by omega))]
    · rw [q_vw, q_un (by omega)]
      exact h.1
    · rw [q_vw, q_vw]
      cases l with
      | zero =>
        have hy : (x.1 - 1, x.2) = y := Option.some.inj hy
        rw [q_uat (by omega), q_un (by omega), ← hy]
        exact ⟨rfl, h0.2⟩
      | succ l =>
        rw [q_un (by omega), q_un (by omega)]
        exact h.2 (l + 1) y hy
