/-! ===== layer 2: the output ===== -/
def q_oz (z u : bM) (t : List Nat) : Prop := t.length ≤ 80 ∧ z 9 = nI t.length ∧ (∀ i, i < t.length → z (7165 + i) = nI (t.getD i 0)) ∧ ∀ x, x ≠ 9 → ¬ (7165 ≤ x ∧ x < 7245) → z x = u x
def q_oc (w v : bM) (t : List Nat) : Prop := w 9902 = nI t.length ∧ (∀ i, i < t.length → w (9903 + i) = nI (t.getD i 0)) ∧ ∀ x, x < 9902 → w x = v x
theorem q_getL {t s : List Nat} {i : Nat} (h : i < t.length) : (t ++ s).getD i 0 = t.getD i 0 := by
  rw [List.getD_eq_getElem?_getD, List.getD_eq_getElem?_getD, List.getElem?_append_left h]
theorem q_getR {t s : List Nat} {i : Nat} (h : t.length ≤ i) : (t ++ s).getD i 0 = s.getD (i - t.length) 0 := by
  rw [List.getD_eq_getElem?_getD, List.getD_eq_getElem?_getD, List.getElem?_append_right h]
theorem r_write {z u : bM} {t : List Nat} {ch : Nat} (h : q_oz z u t) (hl : t.length < 80) : ∃ e, fX9_write (nI ch) z = some e ∧ q_oz e u (t ++ [ch]) := by
  obtain ⟨h0, h1, h2, h3⟩ := h
  refine ⟨upd (upd z (7165 + t.length) (nI ch)) 9 (nI (t.length + 1)), ?_, by rw [List.length_append]; exact hl, by rw [pk_us, List.length_append]; rfl, fun i hi => ?_, fun x g1 g2 => ?_⟩
  · unfold fX9_write
    rw [h1, q_ck hl (by decide), nI_clamp (by omega), q_nm, q_un (by omega), h1, q_add1, q_nm, q_nm]
  · rw [List.length_append] at hi
    have hi : i < t.length + 1 := hi
    rw [q_un (by omega)]
    by_cases e : i = t.length
    · rw [e, pk_us, q_getR (Nat.le_refl _), Nat.sub_self]
      rfl
    · rw [q_un (by omega), q_getL (by omega)]
      exact h2 i (by omega)
  · rw [q_un g1, q_un (by omega)]
    exact h3 x g1 g2
theorem q_dg {w : Nat} (hw : w ≤ 1000000) : 1 ≤ sb_dg w ∧ sb_dg w ≤ 7 ∧ w / 10 ^ (sb_dg w - 1) < 10 ∧ ∀ i, i < sb_dg w - 1 → ¬ w / 10 ^ i < 10 := by
  have h1 := (sb_dg_in w).1
  have h2 : sb_dg w ≤ 7 := by unfold sb_dg; (repeat' split) <;> omega
  refine ⟨h1, h2, ?_, fun i hi => ?_⟩
  · unfold sb_dg
    (repeat' split) <;> simp only [Nat.reduceSub, Nat.reducePow] <;> omega
  · have hi7 : i < 6 := by omega
    have : 10 ^ (i + 1) ≤ w := by
      unfold sb_dg at hi
      match i, hi7 with
      | 0, _ => revert hi; (repeat' split) <;> simp only [Nat.reduceSub, Nat.reduceAdd, Nat.reducePow] <;> omega
      | 1, _ => revert hi; (repeat' split) <;> simp only [Nat.reduceSub, Nat.reduceAdd, Nat.reducePow] <;> omega
      | 2, _ => revert hi; (repeat' split) <;> simp only [Nat.reduceSub, Nat.reduceAdd, Nat.reducePow] <;> omega
      | 3, _ => revert hi; (repeat' split) <;> simp only [Nat.reduceSub, Nat.reduceAdd, Nat.reducePow] <;> omega
      | 4, _ => revert hi; (repeat' split) <;> simp only [Nat.reduceSub, Nat.reduceAdd, Nat.reducePow] <;> omega
      | 5, _ => revert hi; (repeat' split) <;> simp only [Nat.reduceSub, Nat.reduceAdd, Nat.reducePow] <;> omega
      | n + 6, h => exact absurd h (by omega)
    rw [Nat.pow_succ] at this
    have h3 : 10 ≤ w / 10 ^ i := (Nat.le_div_iff_mul_le (Nat.pow_pos (by decide))).mpr (by omega)
    omega
theorem q_takeD {w i : Nat} (hi : i < sb_dg w) : (sDig w).take (i + 1) = (sDig w).take i ++ [48 + w / 10 ^ (sb_dg w - 1 - i) % 10] := by
  have hl : i < (sDig w).length := by rw [sDig_len]; exact hi
  rw [← List.take_append_getElem hl]
  congr 2
  have g := sDig_at hi
  rw [List.getD_eq_getElem?_getD, List.getElem?_eq_getElem hl] at g
  exact g
theorem p10_7 {i : Nat} (h : i ≤ 7) : 10 ^ i ≤ 10000000 := Nat.le_trans (Nat.pow_le_pow_right (by decide) h) (by decide)
theorem r_digits {z u : bM} {t : List Nat} {w : Nat} (h : q_oz z u t) (hw : w ≤ 1000000) (hl : t.length + 7 ≤ 80) : ∃ e, fX9_writeNumber_J15 (nI w) z = some e ∧ q_oz e u (t ++ sDig w) := by
  obtain ⟨d1, d2, d3, d4⟩ := q_dg hw
  -- the digits
  have k2 : ∃ e, lp (fX9_writeNumber_L33 (nI w)) (fun _ _ => none) lpN (nI (10 ^ (sb_dg w - 1))) z = some e ∧ q_oz e u (t ++ sDig w) := by
    have key := q_for (F := fX9_writeNumber_L33 (nI w)) (z := fun _ _ => none) (n := sb_dg w) (Sp := fun i K => ∀ f, q_oz f u (t ++ (sDig w).take i) → ∃ e, K (nI (if i < sb_dg w then 10 ^ (sb_dg w - 1 - i) else 0)) f = some e ∧ q_oz e u (t ++ sDig w)) (fun K f hf => by
      refine ⟨f, ?_, ?_⟩
      · unfold fX9_writeNumber_L33
        rw [if_neg (Nat.lt_irrefl _), if_pos (by decide)]
      · rw [List.take_of_length_le (by rw [sDig_len]; exact Nat.le_refl _)] at hf
        exact hf) (fun i K hi hK f hf => by
      have hp : 10 ^ (sb_dg w - 1 - i) ≤ 10000000 := p10_7 (by omega)
      have hp0 : 0 < 10 ^ (sb_dg w - 1 - i) := Nat.pow_pos (by decide)
      have hlen : (t ++ (sDig w).take i).length < 80 := by
        rw [List.length_append, List.length_take]
        omega
      obtain ⟨e, w1, w2⟩ := r_write (ch := 48 + w / 10 ^ (sb_dg w - 1 - i) % 10) hf hlen
      rw [List.append_assoc, ← q_takeD hi] at w2
      obtain ⟨e9, g1, g2⟩ := hK e w2
      refine ⟨e9, ?_, g2⟩
      have hq : w / 10 ^ (sb_dg w - 1 - i) ≤ w := Nat.div_le_self _ _
      have en : nI (10 ^ (sb_dg w - 1 - i)) / 10 = nI (if i + 1 < sb_dg w then 10 ^ (sb_dg w - 1 - (i + 1)) else 0) := by
        rw [q_l10, pk_div (by omega) (by decide) (by decide)]
        by_cases e : i + 1 < sb_dg w
        · rw [if_pos e, show sb_dg w - 1 - i = (sb_dg w - 1 - (i + 1)) + 1 by omega, Nat.pow_succ, Nat.mul_div_cancel _ (by decide)]
        · rw [if_neg e, show sb_dg w - 1 - i = 0 by omega]
      unfold fX9_writeNumber_L33 cz
      rw [if_pos hi, if_neg (nI_nle hp0 (by omega)), if_neg (nI_ne0 hp0 (by omega)), pk_div (by omega) hp0 (by omega), q_l10, pk_rem (by omega) (by decide) (by decide), show (48 : Int32) = nI 48 from rfl, nI_add, w1, q_bnw, ← q_l10, en, q_nm]
      exact g1) lpN 0 (Nat.zero_le _) (q_lpN _ (by omega)) z (by rw [List.take_zero, List.append_nil]; exact h)
    rw [if_pos (by omega), Nat.sub_zero] at key
    exact key
  obtain ⟨e, e1, e2⟩ := k2
  refine ⟨e, ?_, e2⟩
  have key := q_for (F := fX9_writeNumber_L17 (nI w)) (z := fun _ _ => none) (n := sb_dg w - 1) (Sp := fun i K => K (nI (10 ^ i)) z = some e) (fun K => by
    have hp : 10 ^ (sb_dg w - 1) ≤ 10000000 := p10_7 (by omega)
    have hp0 : 0 < 10 ^ (sb_dg w - 1) := Nat.pow_pos (by decide)
    unfold fX9_writeNumber_L17 cz
    rw [if_neg (nI_ne0 hp0 (by omega)), pk_div (by omega) hp0 (by omega), if_pos (by rw [q_l10]; exact nI_lt d3 (by decide))]
    exact e1) (fun i K hi hK => by
    have hp : 10 ^ i ≤ 10000000 := p10_7 (by omega)
    have hp0 : 0 < 10 ^ i := Nat.pow_pos (by decide)
    have hq : w / 10 ^ i ≤ w := Nat.div_le_self _ _
    unfold fX9_writeNumber_L17 cz
    rw [if_neg (nI_ne0 hp0 (by omega)), pk_div (by omega) hp0 (by omega), if_neg (by rw [q_l10]; exact nI_nlt (Nat.not_lt.mp (d4 i hi)) (by omega)), q_l10, pk_mul, ← Nat.pow_succ, q_nm]
    exact hK) lpN 0 (Nat.zero_le _) (q_lpN _ (by omega))
  unfold fX9_writeNumber_J15
  exact key
theorem r_number {z u : bM} {t : List Nat} {x : Int32} (h : q_oz z u t) (hx : q_gb x) (hl : t.length + 8 ≤ 80) : ∃ e s, fX9_writeNumber x z = some e ∧ q_oz e u (t ++ s) ∧ sLet x = some s ∧ s.length ≤ 8 := by
  unfold q_gb at hx
  by_cases h0 : 0 ≤ x
  · have hx0 := q_0le h0
    have hn : ¬ x < 0 := q_nlt h0
    have hq : qn x < 2 ^ 31 := Int32.toNatClampNeg_lt x
    have hb : qn x ≤ 1000000 := by
      have g := nI_toInt hq
      rw [← hx0] at g
      omega
    obtain ⟨d1, d2, _, _⟩ := q_dg hb
    obtain ⟨e, e1, e2⟩ := r_digits h hb (by omega)
    refine ⟨e, sDig (qn x), ?_, e2, ?_, by rw [sDig_len]; omega⟩
    · unfold fX9_writeNumber
      rw [if_pos h0, hx0]
      exact e1
    · unfold sLet
      rw [if_neg hn]
      rfl
  · have hn : x < 0 := q_ltn h0
    have e9 : (-x).toInt = - x.toInt := by
      rw [Int32.toInt_neg]
      exact Int.bmod_eq_of_le (by omega) (by omega)
    have hp : 0 ≤ -x := by
      rw [Int32.lt_iff_toInt_lt, show (0 : Int32).toInt = 0 from by decide] at hn
      rw [Int32.le_iff_toInt_le, show (0 : Int32).toInt = 0 from by decide]
      omega
    have hx0 := q_0le hp
    have hq : qn (-x) < 2 ^ 31 := Int32.toNatClampNeg_lt _
    have hb : qn (-x) ≤ 1000000 := by
      have g := nI_toInt hq
      rw [← hx0] at g
      omega
    obtain ⟨d1, d2, _, _⟩ := q_dg hb
    obtain ⟨f, f1, f2⟩ := r_write (ch := 45) h (by omega)
    obtain ⟨e, e1, e2⟩ := r_digits f2 hb (by rw [List.length_append]; show t.length + 1 + 7 ≤ 80; omega)
    rw [List.append_assoc] at e2
    refine ⟨e, 45 :: sDig (qn (-x)), ?_, e2, ?_, by rw [List.length_cons, sDig_len]; omega⟩
    · have f1 : fX9_write 45 z = some f := f1
      rw [← hx0] at e1
      unfold fX9_writeNumber
      rw [if_neg h0, f1, q_bnw, q_nm]
      exact e1
    · unfold sLet
      rw [if_pos hn, if_neg (q_nlt hp)]
      rfl
/-! the class -/
theorem c_put {w v : bM} {t : List Nat} {ch : Nat} (h : q_oc w v t) (hl : t.length < 80) : q_oc (sbC w (nI ch)) v (t ++ [ch]) := by
  obtain ⟨h1, h2, h3⟩ := h
  have e : sbC w (nI ch) = upd (upd w (9903 + t.length) (nI ch)) 9902 (nI (t.length + 1)) := by
    unfold sbC
    rw [h1, nI_clamp (by omega), q_add1]
  rw [e]
  refine ⟨by rw [pk_us, List.length_append]; rfl, fun i hi => ?_, fun x hx => ?_⟩
  · rw [List.length_append] at hi
    have hi : i < t.length + 1 := hi
    rw [q_un (by omega)]
    by_cases e : i = t.length
    · rw [e, pk_us, q_getR (Nat.le_refl _), Nat.sub_self]
      rfl
    · rw [q_un (by omega), q_getL (by omega)]
      exact h2 i (by omega)
  · rw [q_un (by omega), q_un (by omega)]
    exact h3 x hx
theorem c_puts {w v : bM} {t s : List Nat} (h : q_oc w v t) (hl : t.length ≤ 80) : q_oc (sbI w s) v (t ++ s) := by
  obtain ⟨h1, h2, h3⟩ := h
  have hc : (w 9902).toNatClampNeg = t.length := by rw [h1, nI_clamp (by omega)]
  refine ⟨?_, fun i hi => ?_, fun x hx => ?_⟩
  · show (if 9902 = 9902 then w 9902 + nI s.length else _) = _
    rw [if_pos rfl, h1, nI_add, List.length_append]
  · rw [List.length_append] at hi
    show (if 9903 + i = 9902 then w 9902 + nI s.length else if 9903 + (w 9902).toNatClampNeg ≤ 9903 + i ∧ 9903 + i < 9903 + (w 9902).toNatClampNeg + s.length then nI (s.getD (9903 + i - (9903 + (w 9902).toNatClampNeg)) 0) else w (9903 + i)) = _
    rw [if_neg (by omega), hc]
    by_cases e : i < t.length
    · rw [if_neg (by omega), q_getL e]
      exact h2 i e
    · rw [if_pos (by omega), q_getR (by omega), show 9903 + i - (9903 + t.length) = i - t.length by omega]
  · show (if x = 9902 then w 9902 + nI s.length else if 9903 + (w 9902).toNatClampNeg ≤ x ∧ x < 9903 + (w 9902).toNatClampNeg + s.length then nI (s.getD (x - (9903 + (w 9902).toNatClampNeg)) 0) else w x) = _
    rw [if_neg (by omega), if_neg (by omega)]
    exact h3 x hx
def qsg (k : Nat) : Nat := if k = 0 then 112 else if k = 1 then 117 else if k = 2 then 114 else if k = 3 then 116 else 98
theorem qsg_s : ∀ k, k < 5 → fX9_signOf (nI k) = some (nI (qsg k)) ∧ sAt 25 (nI k) = nI (qsg k) ∧ qsg k < 128 := by decide +kernel
/-- one gap on both sides -/
theorem w_gap {w v z u : bM} {t : List Nat} {k : Nat} {x : Int32} (h1 : q_oc w v t) (h2 : q_oz z u t) (hk : k < 5) (hx : q_gb x) (hl : t.length ≤ 10 * k) : ∃ w9 z9 s, fX8_writeGap (nI k) x w = some w9 ∧ (if z 9 ≤ 0 then (bnr (fX9_signOf (nI k)) fun r16 => bnw (fX9_write r16 z) fun w18 => fX9_writeNumber x w18) else (bnw (fX9_write 32 z) fun w23 => bnr (fX9_signOf (nI k)) fun r16 => bnw (fX9_write r16 w23) fun w18 => fX9_writeNumber x w18)) = some z9 ∧ q_oc w9 v s ∧ q_oz z9 u s ∧ s.length ≤ 10 * (k + 1) := by
  obtain ⟨s1, s2, s3⟩ := qsg_s k hk
  have go : ∀ {w z : bM} {t : List Nat}, q_oc w v t → q_oz z u t → t.length ≤ 10 * k + 1 → ∃ w9 z9 s, fX8_writeGap_J20 (nI k) x w = some w9 ∧ (bnr (fX9_signOf (nI k)) fun r16 => bnw (fX9_write r16 z) fun w18 => fX9_writeNumber x w18) = some z9 ∧ q_oc w9 v s ∧ q_oz z9 u s ∧ s.length ≤ t.length + 9 := by
    intro w z t h1 h2 hl
    have c1 := c_put (ch := qsg k) h1 (by omega)
    obtain ⟨f, f1, f2⟩ := r_write (ch := qsg k) h2 (by omega)
    have hlen : (t ++ [qsg k]).length = t.length + 1 := by rw [List.length_append]; rfl
    obtain ⟨e, s, e1, e2, e3, e4⟩ := r_number f2 hx (by omega)
    refine ⟨sbI (sbC w (nI (qsg k))) s, e, t ++ [qsg k] ++ s, ?_, ?_, c_puts c1 (by omega), e2, by rw [List.length_append]; omega⟩
    · unfold fX8_writeGap_J20
      rw [q_ck hk (by decide), h1.1, q_ck (by omega) (by decide), s2, q_ck s3 (by decide), q_nm, c1.1, q_ck (by omega) (by decide), e3, q_bnr]
    · rw [s1, q_bnr, f1, q_bnw]
      exact e1
  by_cases h0 : t.length = 0
  · obtain ⟨w9, z9, s, g1, g2, g3, g4, g5⟩ := go h1 h2 (by omega)
    refine ⟨w9, z9, s, ?_, ?_, g3, g4, by omega⟩
    · unfold fX8_writeGap
      rw [h1.1, h0, if_pos (by decide)]
      exact g1
    · rw [h2.2.1, h0, if_pos (by decide)]
      exact g2
  · have c1 := c_put (ch := 32) h1 (by omega)
    obtain ⟨f, f1, f2⟩ := r_write (ch := 32) h2 (by omega)
    have hlen : (t ++ [32]).length = t.length + 1 := by rw [List.length_append]; rfl
    obtain ⟨w9, z9, s, g1, g2, g3, g4, g5⟩ := go c1 f2 (by omega)
    refine ⟨w9, z9, s, ?_, ?_, g3, g4, by omega⟩
    · unfold fX8_writeGap
      rw [h1.1, if_neg (nI_nle (by omega) (by omega)), q_ck (by omega) (by decide)]
      exact g1
    · have f1 : fX9_write 32 z = some f := f1
      rw [h2.2.1, if_neg (nI_nle (by omega) (by omega)), f1, q_bnw]
      exact g2
section
variable {T cur dr hn nx : Nat} {v u : bM}
theorem K_62 (P : Nat → Int32) (h : q_I T cur dr hn nx v u) (hT : T + 999 ≤ 100000000) : ∃ w z, bS_62 P v u w z ∧ q_J (T + 999) w z := by
  obtain ⟨nf, nb, nt, no, Ls, hS⟩ := h.2.2.2.1
  have hc := h.1.1
  have cv := h.2.1.1
  have hnt := hS.hnt
  have b := stO_b (i := cur) (by omega)
  unfold bS_62
  have n0 : ∀ p : Int32, (p < 0 ∨ nI nt ≤ p) → xX8_writeBatch p v = some 0 ∧ fX9_writeBatch p u = some (0, upd u 3 1) := by
    intro p hp
    obtain ⟨g1, g2, g3⟩ := n_batch (by omega) cv hS hp
    unfold xX8_writeBatch fX9_writeBatch
    rw [g2, g3]
    exact ⟨rfl, rfl⟩
  rcases pk_ix (P 1) (n := nt) (by omega) with e | e | ⟨j, hj, e⟩
  · exact ⟨v, upd u 3 1, Or.inr ⟨0, (n0 _ (Or.inl e)).1, rfl, (n0 _ (Or.inl e)).2, pk_us⟩, (h.u3 1).J (by omega) hT⟩
  · exact ⟨v, upd u 3 1, Or.inr ⟨0, (n0 _ (Or.inr e)).1, rfl, (n0 _ (Or.inr e)).2, pk_us⟩, (h.u3 1).J (by omega) hT⟩
  · rw [e]
    obtain ⟨b1, b2, b3⟩ := y_batch (by omega) cv hS hj
    -- both loops side by side
    have both : ∀ (m i : Nat) (w z : bM) (t : List Nat), i + m = 5 → q_oc w v t → q_oz z (upd u 3 0) t → t.length ≤ 10 * i → ∃ w9 z9 s, fX8_writeBatch_L (nI j) (m + 1) (nI i) w = some (w9 9902, w9) ∧ (∀ N, m < N → lp (fX9_writeBatch_L17 (nI j)) (fun _ _ => none) N (nI i) z = some (z9 9, z9)) ∧ q_oc w9 v s ∧ q_oz z9 (upd u 3 0) s := by
      intro m
      induction m with
      | zero =>
        intro i w z t hi h1 h2 hl
        refine ⟨w, z, t, ?_, fun N hN => ?_, h1, h2⟩
        · show (if 4 < nI i then some (w 9902, w) else _) = _
          rw [q_l4, if_pos (nI_lt (by omega) (by omega))]
        · obtain ⟨N, rfl⟩ : ∃ k, N = k + 1 := ⟨N - 1, by omega⟩
          show fX9_writeBatch_L17 (nI j) _ (nI i) z = _
          unfold fX9_writeBatch_L17
          rw [q_l5, if_pos (nI_le (by omega) (by omega))]
      | succ m ih =>
        intro i w z t hi h1 h2 hl
        have hi5 : i < 5 := by omega
        have hz : vw z 710 (238 + 11 * j + i) = vw u 710 (238 + 11 * j + i) := (h2.2.2.2 _ (by omega) (by omega)).trans (q_un (by omega))
        have hgb := hS.rgp j i hj hi5
        have er : fX9_batch (nI j) (6 + nI i) z = some (vw u 710 (238 + 11 * j + i)) := by rw [r_batchG (by omega) hi5, hz]
        have ew0 : w 0 = nI cur := (h1.2.2 0 (by decide)).trans cv
        have ewg : w (stO cur + (470 + 5 * j) + i) = vw u 710 (238 + 11 * j + i) := (h1.2.2 _ (by omega)).trans ((q_v2 v _ _ _).trans (hS.ctg j i hj hi5))
        generalize hx : vw u 710 (238 + 11 * j + i) = x at *
        have el : fX8_writeBatch_L (nI j) (m + 1 + 1) (nI i) w = bnw (if x = 0 then some w else fX8_writeGap (nI i) x w) fun v2 => fX8_writeBatch_L (nI j) (m + 1) (nI (i + 1)) v2 := by
          show (if 4 < nI i then some (w 9902, w) else _) = _
          rw [q_l4, if_neg (nI_nlt (by omega) (by decide)), ew0, q_ck (by omega) (by decide), nI_clamp (show cur < 2 ^ 31 by omega), q_nm, q_ck (by omega) (by decide), q_ck hi5 (by decide), nI_clamp (show j < 2 ^ 31 by omega), nI_clamp (show i < 2 ^ 31 by omega), ewg, q_nm, q_add1]
        by_cases h0 : x = 0
        · obtain ⟨w9, z9, s, g1, g2, g3, g4⟩ := ih (i + 1) w z t (by omega) h1 h2 (by omega)
          refine ⟨w9, z9, s, ?_, fun N hN => ?_, g3, g4⟩
          · rw [el, if_pos h0, q_bnw]
            exact g1
          · obtain ⟨N, rfl⟩ : ∃ k, N = k + 1 := ⟨N - 1, by omega⟩
            show fX9_writeBatch_L17 (nI j) _ (nI i) z = _
            unfold fX9_writeBatch_L17 fX9_writeBatch_J62
            rw [q_l5, if_neg (nI_ge hi5 (by decide)), er, q_bnr, if_pos h0, q_nm, q_add1]
            exact g2 N (by omega)
        · obtain ⟨w1, z1, s1, k1, k2, k3, k4, k5⟩ := w_gap h1 h2 hi5 hgb hl
          obtain ⟨w9, z9, s, g1, g2, g3, g4⟩ := ih (i + 1) w1 z1 s1 (by omega) k3 k4 k5
          refine ⟨w9, z9, s, ?_, fun N hN => ?_, g3, g4⟩
          · rw [el, if_neg h0, k1, q_bnw]
            exact g1
          · obtain ⟨N, rfl⟩ : ∃ k, N = k + 1 := ⟨N - 1, by omega⟩
            show fX9_writeBatch_L17 (nI j) _ (nI i) z = _
            have g2 := g2 N (by omega)
            unfold fX9_writeBatch_L17 fX9_writeBatch_J49 fX9_writeBatch_J62
            rw [q_l5, if_neg (nI_ge hi5 (by decide)), er, q_bnr, if_neg h0]
            obtain ⟨sg, _, _⟩ := qsg_s i hi5
            rw [sg, q_bnr] at k2
            by_cases hz0 : z 9 ≤ 0
            · rw [if_pos hz0] at k2 ⊢
              rw [sg, q_bnr]
              cases hf : fX9_write (nI (qsg i)) z with
              | none => rw [hf] at k2; cases k2
              | some f =>
                rw [hf, q_bnw] at k2
                rw [q_bnw, k2, q_bnw, q_nm, q_add1]
                exact g2
            · rw [if_neg hz0] at k2 ⊢
              cases hf0 : fX9_write 32 z with
              | none => rw [hf0] at k2; cases k2
              | some f0 =>
                rw [hf0, q_bnw] at k2
                rw [q_bnw, sg, q_bnr]
                rw [q_bnr] at k2
                cases hf : fX9_write (nI (qsg i)) f0 with
                | none => rw [hf] at k2; cases k2
                | some f =>
                  rw [hf, q_bnw] at k2
                  rw [q_bnw, k2, q_bnw, q_nm, q_add1]
                  exact g2
    obtain ⟨w, z, s, g1, g2, g3, g4⟩ := both 5 0 (upd v 9902 0) (upd (upd u 3 0) 9 0) [] rfl ⟨pk_us, fun i hi => absurd hi (Nat.not_lt_zero _), fun x hx => q_un (by omega)⟩ ⟨Nat.zero_le _, pk_us, fun i hi => absurd hi (Nat.not_lt_zero _), fun x g1 g2 => q_un g1⟩ (Nat.zero_le _)
    have hz : ∀ x, x ≠ 3 → x ≠ 9 → ¬ (7165 ≤ x ∧ x < 7245) → z x = u x := fun x a1 a2 a3 => by rw [g4.2.2.2 x a2 a3, q_un a1]
    have hw := g3.2.2
    refine ⟨w, z, Or.inl ⟨z 9, ?_, ?_, ?_⟩, cur, dr, hn, nx, ?_⟩
    · unfold fX8_writeBatch
      rw [b1, q_bnr, g4.2.1, ← g3.1]
      exact g1
    · unfold fX9_writeBatch
      rw [b3, q_bnd, if_neg (by decide), q_nm]
      exact g2 lpN (q_lpN _ (by decide))
    · rw [g4.2.2.2 3 (by decide) (by decide), pk_us]
    · obtain ⟨i1, ⟨i2, i2b⟩, ⟨h3, h4, h5⟩, h6, h7, h8, ⟨L, t1, t2, t3, t4⟩, ⟨e1, e2⟩, _⟩ := id h
      have hblk : ∀ i, i < 12 → ∀ x, x < 590 → vw w (stO i) x = vw v (stO i) x := fun i hi x hx => by
        have b1 := stO_b hi
        exact hw _ (by omega)
      refine q_I.mono (T := T) ⟨i1, ⟨(hw 0 (by decide)).trans i2, (hw 1 (by decide)).trans i2b⟩, ⟨(hw _ (by decide)).trans h3, (hw _ (by decide)).trans h4, (hz 4 (by decide) (by decide) (by decide)).trans h5⟩, h6.same (fun x hx => hz _ (by omega) (by omega) (by omega)) (hblk _ (by omega)), fun k hk => (h7 k hk).same (fun x hx => hz _ (by omega) (by omega) (by omega)) (hblk _ (by omega)), fun s9 hs9 => ?_, ⟨L, t1, (hw _ (by decide)).trans t2, (hz 0 (by decide) (by decide) (by decide)).trans t3, fun i hi => by rw [hz (10 + i) (by omega) (by omega) (by omega), hw _ (by omega)]; exact t4 i hi⟩, ⟨by rw [hz 1 (by decide) (by decide) (by decide), hw _ (by decide)]; exact e1, by rw [hz 2 (by decide) (by decide) (by decide), hw _ (by decide)]; exact e2⟩, ⟨s.length, g4.1, g3.1, g4.2.1, fun i hi => by rw [g3.2.1 i hi, g4.2.2.1 i hi]⟩⟩ (by omega) hT
      rw [hz (7158 + s9) (by omega) (by omega) (by omega), hw (7084 + s9) (by omega)]
      rcases h8 s9 hs9 with g | ⟨a1, a2, a3⟩
      · exact Or.inl g
      · exact Or.inr ⟨a1, a2, a3.same (fun x hx => hz _ (by omega) (by omega) (by omega)) (hblk _ (by omega))⟩
end
