/-! ===== layer 2: units are taken ===== -/
theorem q_un {f : Nat → Int32} {i j : Nat} {x : Int32} (h : j ≠ i) : upd f i x j = f j := pk_un h
theorem q_uat {f : Nat → Int32} {i j : Nat} {x : Int32} (h : j = i) : upd f i x j = x := by rw [h]; exact pk_us
theorem c_take {c : bM} {f w : Nat} {L : List (Nat × Nat)} (hf : f < 6) (hw : w < 2 ^ 30) (hL : q_lo L) (h : q_2 c f L) : ∃ d, fX2_take (nI f) (nI w) c = some d ∧ q_2 d f (qD w L) ∧ ∀ x, x ≠ 7 + f → ¬ (13 + 12 * f ≤ x ∧ x < 25 + 12 * f) → ¬ (85 + 12 * f ≤ x ∧ x < 97 + 12 * f) → d x = c x := by
  have hl := hL.1
  have key := q_for (F := fX2_take_L8 (nI f)) (z := fun _ _ _ _ => none) (n := L.length) (Sp := fun i K => ∀ (w k : Nat) (d : bM) (M : List (Nat × Nat)), w < 2 ^ 30 → M.length = k → k ≤ i → d (7 + f) = nI L.length → (∀ (l : Nat) (x : Nat × Nat), M[l]? = some x → d (13 + 12 * f + l) = nI x.1 ∧ d (85 + 12 * f + l) = nI x.2) → (∀ (l : Nat) (x : Nat × Nat), i ≤ l → L[l]? = some x → d (13 + 12 * f + l) = nI x.1 ∧ d (85 + 12 * f + l) = nI x.2) → (∀ x, x ≠ 7 + f → ¬ (13 + 12 * f ≤ x ∧ x < 25 + 12 * f) → ¬ (85 + 12 * f ≤ x ∧ x < 97 + 12 * f) → d x = c x) → ∃ e, K (nI w) (nI k) (nI i) d = some e ∧ q_2 e f (M ++ qD w (L.drop i)) ∧ ∀ x, x ≠ 7 + f → ¬ (13 + 12 * f ≤ x ∧ x < 25 + 12 * f) → ¬ (85 + 12 * f ≤ x ∧ x < 97 + 12 * f) → e x = c x) (fun K w k d M hw hk hki hd hM hR hO => by
    refine ⟨upd d (7 + f) (nI k), ?_, ?_, ?_⟩
    · unfold fX2_take_L8
      rw [q_ck hf (by decide), nI_clamp (by omega), hd, if_pos (Int32.le_refl _), q_ck hf (by decide)]
      rfl
    · rw [List.drop_length]
      show q_2 _ f (M ++ [])
      rw [List.append_nil]
      refine ⟨by rw [q_uat rfl, hk], fun l x hx => ?_⟩
      have hi := q_ix hx
      rw [q_un (by omega), q_un (by omega)]
      exact hM l x hx
    · intro x h1 h2 h3
      rw [q_un h1]
      exact hO x h1 h2 h3) (fun i K hi hK w k d M hw hk hki hd hM hR hO => by
    have hx := List.getElem?_eq_getElem hi
    have h2 := hR i _ (Nat.le_refl _) hx
    have hm := hL.2 _ (List.getElem_mem hi)
    rw [List.drop_eq_getElem_cons hi]
    generalize L[i] = x at *
    have e1 : qD w (x :: L.drop (i + 1)) = if x.1 ≤ w then qD (w - x.1) (L.drop (i + 1)) else (x.1 - w, x.2) :: L.drop (i + 1) := rfl
    by_cases hxw : x.1 ≤ w
    · rw [e1, if_pos hxw]
      obtain ⟨e, g1, g2, g3⟩ := hK (w - x.1) k d M (by omega) hk (by omega) hd hM (fun l y hly hy => hR l y (by omega) hy) hO
      refine ⟨e, ?_, g2, g3⟩
      unfold fX2_take_L8
      have e2 : (if nI x.1 < nI w then nI x.1 else nI w) = nI x.1 := by
        by_cases h9 : x.1 < w
        · rw [if_pos (nI_lt h9 (by omega))]
        · rw [if_neg (nI_nlt (by omega) (by omega)), show w = x.1 by omega]
      rw [q_ck hf (by decide), nI_clamp (show f < 2 ^ 31 by omega), hd, if_neg (nI_ge hi (by omega)), q_ck hf (by decide), q_ck (show i < 12 by omega) (by decide), nI_clamp (show i < 2 ^ 31 by omega), h2.1, q_nm, e2, q_ck hf (by decide), q_ck (show i < 12 by omega) (by decide), q_nm, q_nm, Int32.sub_self, if_pos (Int32.le_refl _), pk_sub hxw]
      unfold fX2_take_J90
      rw [q_nm, q_add1]
      exact g1
    · rw [e1, if_neg hxw]
      have hkl : k < 12 := by omega
      have hM9 : ∀ (l : Nat) (y : Nat × Nat), (M ++ [(x.1 - w, x.2)])[l]? = some y → upd (upd d (13 + 12 * f + k) (nI (x.1 - w))) (85 + 12 * f + k) (nI x.2) (13 + 12 * f + l) = nI y.1 ∧ upd (upd d (13 + 12 * f + k) (nI (x.1 - w))) (85 + 12 * f + k) (nI x.2) (85 + 12 * f + l) = nI y.2 := by
        intro l y hy
        have hl9 := q_ix hy
        rw [List.length_append] at hl9
        have hl9 : l < M.length + 1 := hl9
        by_cases hlk : l = k
        · rw [hlk, ← hk, List.getElem?_append_right (Nat.le_refl _), Nat.sub_self] at hy
          have hy : (x.1 - w, x.2) = y := Option.some.inj hy
          rw [hlk, q_un (by omega), q_uat rfl, q_uat rfl, ← hy]
          exact ⟨rfl, rfl⟩
        · rw [List.getElem?_append_left (by omega)] at hy
          rw [q_un (by omega), q_un (by omega), q_un (by omega), q_un (by omega)]
          exact hM l y hy
      obtain ⟨e, g1, g2, g3⟩ := hK 0 (k + 1) (upd (upd d (13 + 12 * f + k) (nI (x.1 - w))) (85 + 12 * f + k) (nI x.2)) (M ++ [(x.1 - w, x.2)]) (by omega) (by rw [List.length_append, hk]; rfl) (by omega) (by rw [q_un (by omega), q_un (by omega)]; exact hd) hM9 (fun l y hly hy => by
        have hl9 := q_ix hy
        rw [q_un (by omega), q_un (by omega), q_un (by omega), q_un (by omega)]
        exact hR l y (by omega) hy) (fun y h1 h2 h3 => by
        rw [q_un (by omega), q_un (by omega)]
        exact hO y h1 h2 h3)
      have hD : qD 0 (L.drop (i + 1)) = L.drop (i + 1) := qD_0 (fun y hy => (hL.2 y (List.mem_of_mem_drop hy)).1)
      rw [hD, List.append_assoc] at g2
      refine ⟨e, ?_, g2, g3⟩
      unfold fX2_take_L8
      have e2 : (if nI x.1 < nI w then nI x.1 else nI w) = nI w := if_neg (nI_nlt (by omega) (by omega))
      have e3 : nI w - nI w = nI 0 := Int32.sub_self _
      rw [q_ck hf (by decide), nI_clamp (show f < 2 ^ 31 by omega), hd, if_neg (nI_ge hi (by omega)), q_ck hf (by decide), q_ck (show i < 12 by omega) (by decide), nI_clamp (show i < 2 ^ 31 by omega), h2.1, q_nm, e2, q_ck hf (by decide), q_ck (show i < 12 by omega) (by decide), q_nm, q_nm, e3, pk_sub (show w ≤ x.1 by omega), if_neg (nI_nle (by omega) (by omega)), q_ck hf (by decide), q_ck hkl (by decide), nI_clamp (show k < 2 ^ 31 by omega), q_nm, q_ck hf (by decide), q_ck hf (by decide), q_ck (show i < 12 by omega) (by decide), q_nm, q_un (show 85 + 12 * f + i ≠ 13 + 12 * f + k by omega), h2.2, q_ck hkl (by decide), q_nm, q_nm]
      unfold fX2_take_J90
      rw [q_nm, q_add1, q_add1]
      exact g1) lpN 0 (Nat.zero_le _) (q_lpN _ (by omega)) w 0 c [] hw rfl (Nat.le_refl _) h.1 (fun l x hx => by cases hx) (fun l x _ hx => h.2 l x hx) (fun _ _ _ _ => rfl)
  obtain ⟨e, g1, g2, g3⟩ := key
  refine ⟨e, ?_, g2, g3⟩
  unfold fX2_take
  exact g1
/-! the reference -/
theorem r_flour {u : bM} {f k : Nat} (hf : f < 6) (hk : k < 28) : fX9_flour (nI f) (nI k) u = some (u (710 + (40 + 28 * f + k))) := by
  have e : ((40 : Int32) + 28 * nI f) + nI k = nI (40 + 28 * f + k) := by rw [q_l40, q_l28, pk_mul, nI_add, nI_add]
  unfold fX9_flour
  rw [e, q_ck (by omega) (by decide), nI_clamp (by omega)]
theorem r_lot {u : bM} {f l k : Nat} (hf : f < 6) (hl : l < 12) (hk : k < 2) : fX9_lot (nI f) (nI l) (nI k) u = some (u (710 + (44 + 28 * f + 2 * l + k))) := by
  have e : (((40 : Int32) + 28 * nI f) + 4) + 2 * nI l + nI k = nI (44 + 28 * f + 2 * l + k) := by
    rw [q_l40, q_l28, q_l4, q_l2, pk_mul, pk_mul, nI_add, nI_add, nI_add, nI_add, show 40 + 28 * f + 4 + 2 * l + k = 44 + 28 * f + 2 * l + k by omega]
  unfold fX9_lot
  rw [e, q_ck (by omega) (by decide), nI_clamp (by omega)]
theorem r_bread {u : bM} {b k : Nat} (hb : b < 6) (hk : k < 4) : fX9_bread (nI b) (nI k) u = some (u (710 + (208 + 4 * b + k))) := by
  have e : ((208 : Int32) + 4 * nI b) + nI k = nI (208 + 4 * b + k) := by rw [q_l208, q_l4, pk_mul, nI_add, nI_add]
  unfold fX9_bread
  rw [e, q_ck (by omega) (by decide), nI_clamp (by omega)]
theorem r_batch {u : bM} {t k : Nat} (ht : t < 24) (hk : k < 11) : fX9_batch (nI t) (nI k) u = some (u (710 + (232 + 11 * t + k))) := by
  have e : ((232 : Int32) + 11 * nI t) + nI k = nI (232 + 11 * t + k) := by rw [q_l232, q_l11, pk_mul, nI_add, nI_add]
  unfold fX9_batch
  rw [e, q_ck (by omega) (by decide), nI_clamp (by omega)]
theorem r_putBatch {u : bM} {t k : Nat} {x : Int32} (ht : t < 24) (hk : k < 11) : fX9_putBatch (nI t) (nI k) x u = some (upd u (710 + (232 + 11 * t + k)) x) := by
  have e : ((232 : Int32) + 11 * nI t) + nI k = nI (232 + 11 * t + k) := by rw [q_l232, q_l11, pk_mul, nI_add, nI_add]
  unfold fX9_putBatch
  rw [e, q_ck (by omega) (by decide), nI_clamp (by omega)]
  rfl
theorem r_addToFlour {u : bM} {f k : Nat} {x : Int32} (hf : f < 6) (hk : k < 28) : fX9_addToFlour (nI f) (nI k) x u = some (upd u (710 + (40 + 28 * f + k)) (u (710 + (40 + 28 * f + k)) + x)) := by
  have e : ((40 : Int32) + 28 * nI f) + nI k = nI (40 + 28 * f + k) := by rw [q_l40, q_l28, pk_mul, nI_add, nI_add]
  unfold fX9_addToFlour
  rw [e, q_nm, q_ck (by omega) (by decide), nI_clamp (by omega), q_nm, q_ck (by omega) (by decide)]
  rfl
theorem r_lots {u : bM} {f : Nat} {L : List (Nat × Nat)} (hf : f < 6) (h : q_9 (vw u 710) f L) : fX9_flour (nI f) 1 u = some (nI L.length) := by
  rw [q_l1, r_flour hf (by decide)]
  have e : u (710 + (40 + 28 * f + 1)) = nI L.length := by
    rw [show 40 + 28 * f + 1 = 41 + 28 * f by omega]
    exact h.1
  rw [e]
theorem r_units {u : bM} {f : Nat} {L : List (Nat × Nat)} (hf : f < 6) (hL : L.length ≤ 12) (h : q_9 (vw u 710) f L) : fX9_units (nI f) u = some (qU L) := by
  unfold fX9_units
  rw [q_l0]
  rw [q_sumL some (fun x : Nat × Nat => nI x.1) L (by omega) (fun K y => by
    unfold fX9_units_L4
    rw [r_lots hf h, q_bnr, if_pos (Int32.le_refl _)]) (fun K y i x hx => by
    have hi := q_ix hx
    have e : u (710 + (44 + 28 * f + 2 * i + 0)) = nI x.1 := (h.2 i x hx).1
    unfold fX9_units_L4
    rw [r_lots hf h, q_bnr, if_neg (nI_ge hi (by omega)), q_l0, r_lot hf (by omega) (by decide), q_bnr, e, q_nm, q_nm, q_add1])]
  rw [← q_l0, Int32.zero_add]
  rfl
