/-! ===== layer 2: the changes of the face ===== -/
def q_J (T : Nat) (v u : bM) : Prop := ∃ cur dr hn nx, q_I T cur dr hn nx v u
theorem q_I.mono {T T9 cur dr hn nx : Nat} {v u : bM} (h : q_I T cur dr hn nx v u) (hT : T ≤ T9) (hT9 : T9 ≤ 100000000) : q_I T9 cur dr hn nx v u := by
  obtain ⟨h1, h2, h3, h6, h7, h8, h9⟩ := h
  refine ⟨h1, h2, h3, h6.mono hT hT9, fun k hk => (h7 k hk).mono hT hT9, fun s hs => ?_, h9⟩
  rcases h8 s hs with g | ⟨g1, g2, g3⟩
  · exact Or.inl g
  · exact Or.inr ⟨g1, g2, g3.mono hT hT9⟩
theorem q_I.u3 {T cur dr hn nx : Nat} {v u : bM} (h : q_I T cur dr hn nx v u) (x : Int32) : q_I T cur dr hn nx v (upd u 3 x) := h.z (fun y hy => q_un (fun q => hy (Or.inl q)))
theorem q_I.J {T T9 cur dr hn nx : Nat} {v u : bM} (h : q_I T cur dr hn nx v u) (hT : T ≤ T9) (hT9 : T9 ≤ 100000000) : q_J T9 v u := ⟨_, _, _, _, h.mono hT hT9⟩
theorem s_1 : fX8_requireState 1 = some () := rfl
theorem s_0 : fX8_requireState 0 = none := rfl
theorem sx_1 : xX8_requireState 1 = none := rfl
theorem sx_0 : xX8_requireState 0 = some 2 := rfl
/-- the state is remembered; then a change of it -/
theorem t_begin {T cur dr hn nx : Nat} {v u : bM} (h : q_I T cur dr hn nx v u) {nf nb nt no : Nat} {Ls : Nat → List (Nat × Nat)} (hS : q_S T nf nb nt no Ls (vw u 710) (vw v (stO cur))) : ∃ w z hn9 nx9, fX3_remember cur v = some w ∧ fX9_record (upd u 3 0) = some z ∧ q_I T cur dr hn9 nx9 w z ∧ q_S T nf nb nt no Ls (vw z 710) (vw w (stO cur)) ∧ w 0 = nI cur ∧ z 3 = 0 ∧ ∀ x, x < 496 → vw z 710 x = vw u 710 x := by
  obtain ⟨w, z, hn9, nx9, w0, z0, hI, h1, h2, h3, h4⟩ := t_record (h.u3 0)
  refine ⟨w, z, hn9, nx9, w0, z0, hI, hS.same (fun x hx => ?_) h1, h3, h4.trans pk_us, fun x hx => (h2 x hx).trans (q_un (by omega))⟩
  rw [h2 x hx]
  exact q_un (by omega)
section
variable {T cur dr hn nx : Nat} {v u : bM}
theorem K_58 (P : Nat → Int32) (h : q_I T cur dr hn nx v u) (hT : T + 999 ≤ 100000000) : ∃ w z, bS_58 P v u w z ∧ q_J (T + 999) w z := by
  obtain ⟨nf, nb, nt, no, Ls, hS⟩ := h.2.2.2.1
  have hc := h.1.1
  have cv := h.2.1.1
  unfold bS_58
  by_cases hp : q_in (P 1) 1 999
  · obtain ⟨g1, g2, g3⟩ := q_rg hp
    obtain ⟨m, e, hm1, hm⟩ := q_in_n (lo := 1) (hi := 999) hp (by decide) (by decide)
    obtain ⟨w, z, hn9, nx9, w0, z0, hI, hS2, cw, z3, zr⟩ := t_begin h hS
    obtain ⟨a1, a2, a3⟩ := t_wait hS2 hm hT
    have b := stO_b (i := cur) (by omega)
    have e0 : w (stO cur + 0) = vw w (stO cur) 0 := rfl
    have hX : vw (upd w (stO cur + 0) (vw w (stO cur) 0 + nI m)) (stO cur) = upd (vw w (stO cur)) 0 (vw w (stO cur) 0 + nI m) := by
      funext x
      by_cases ex : x = 0
      · rw [ex, pk_us]
        exact pk_us
      · rw [q_un ex]
        exact q_un (by omega)
    refine ⟨upd w (stO cur + 0) (vw w (stO cur) 0 + nI m), upd z 714 (z 714 + nI m), Or.inl ⟨vw w (stO cur) 0 + nI m, ?_, ?_, ?_⟩, ?_⟩
    · unfold fX8_waitMinutes
      rw [g1, q_bnr, cv, q_ck (by omega) (by decide), nI_clamp (by omega), q_nm, w0, q_bnw, cw, q_ck (by omega) (by decide), nI_clamp (by omega), q_nm, e0, e, q_nm, q_nm, q_un (show 0 ≠ stO cur + 0 by omega), cw, q_ck (by omega) (by decide), nI_clamp (by omega), q_nm, pk_us]
    · unfold fX9_waitMinutes
      rw [q_nm, g3, q_bnr, r_fails1, q_bnd, if_pos rfl, z0, q_bnw, e, a1, q_bnd, a2]
    · rw [q_un (by decide)]
      exact z3
    · exact ⟨_, _, _, _, hI.chg (d := upd (vw w (stO cur)) 0 (vw w (stO cur) 0 + nI m)) ⟨_, _, _, _, _, a3⟩ (by omega) hT (fun x hx => q_un (by omega)) (fun x _ => congrFun hX x) (fun x hx => q_un (by omega))⟩
  · obtain ⟨g1, g2, g3⟩ := q_rgn hp
    refine ⟨v, upd u 3 1, Or.inr ⟨0, ?_, rfl, ?_, pk_us⟩, (h.u3 1).J (by omega) hT⟩
    · unfold xX8_waitMinutes
      rw [g2, q_xs]
    · unfold fX9_waitMinutes
      rw [q_nm, g3, q_bnr, r_fails0, q_bnd, if_neg (by decide), q_33]
theorem K_55 (P : Nat → Int32) (h : q_I T cur dr hn nx v u) (hT : T + 999 ≤ 100000000) : ∃ w z, bS_55 P v u w z ∧ q_J (T + 999) w z := by
  obtain ⟨nf, nb, nt, no, Ls, hS⟩ := h.2.2.2.1
  have hc := h.1.1
  have cv := h.2.1.1
  have f0 : fX9_setRate_J31 (P 1) (P 2) 0 (upd u 3 0) = some (0, upd u 3 1) := by
    unfold fX9_setRate_J31
    rw [r_fails0, q_bnd, if_neg (by decide), q_33]
  unfold bS_55
  by_cases hp : q_in (P 1) 0 23
  · obtain ⟨g1, g2, g3⟩ := q_rg hp
    by_cases hp2 : q_in (P 2) 0 20
    · obtain ⟨l1, l2, l3⟩ := q_rg hp2
      obtain ⟨j, e, _, hj⟩ := q_in_n (lo := 0) (hi := 23) hp (by decide) (by decide)
      obtain ⟨k, e2, _, hk⟩ := q_in_n (lo := 0) (hi := 20) hp2 (by decide) (by decide)
      obtain ⟨w, z, hn9, nx9, w0, z0, hI, hS2, cw, z3, zr⟩ := t_begin h hS
      obtain ⟨y, a1, a2, a3⟩ := t_rate hS2 (show j < 24 by omega) hk
      have b := stO_b (i := cur) (by omega)
      have e1 : w (stO cur + 253 + j) = vw z 710 (13 + j) := (q_v2 w _ _ _).trans (hS2.crt j (by omega))
      have hX : vw (upd w (stO cur + 253 + j) (nI k)) (stO cur) = upd (vw w (stO cur)) (253 + j) (nI k) := by
        funext x
        by_cases ex : x = 253 + j
        · rw [ex, pk_us]
          exact q_uat (by omega)
        · rw [q_un ex]
          exact q_un (by omega)
      refine ⟨upd w (stO cur + 253 + j) (nI k), y, Or.inl ⟨vw z 710 (13 + j), ?_, ?_, ?_⟩, ?_⟩
      · unfold fX8_setRate
        rw [g1, q_bnr, l1, q_bnr, cv, q_ck (by omega) (by decide), nI_clamp (by omega), q_nm, w0, q_bnw, cw, q_ck (by omega) (by decide), nI_clamp (show cur < 2 ^ 31 by omega), q_nm, e, q_ck (by omega) (by decide), nI_clamp (show j < 2 ^ 31 by omega), e1, q_nm, q_ck (by omega) (by decide), q_nm, q_ck (by omega) (by decide), e2, q_nm]
      · unfold fX9_setRate fX9_setRate_J31
        rw [q_nm, g3, q_bnr, if_neg (by decide), l3, q_bnr, if_neg (by decide), r_fails1, q_bnd, if_pos rfl, z0, q_bnw, e, e2, a1, q_bnd]
      · rw [a3 3 (by decide)]
        exact z3
      · exact ⟨_, _, _, _, hI.chg (d := upd (vw w (stO cur)) (253 + j) (nI k)) (T9 := T + 999) ⟨_, _, _, _, _, a2.mono (by omega) hT⟩ (by omega) hT a3 (fun x _ => congrFun hX x) (fun x hx => q_un (by omega))⟩
    · obtain ⟨l1, l2, l3⟩ := q_rgn hp2
      refine ⟨v, upd u 3 1, Or.inr ⟨0, ?_, rfl, ?_, pk_us⟩, (h.u3 1).J (by omega) hT⟩
      · unfold xX8_setRate
        rw [g2, q_xn, g1, q_bnr, l2, q_xs]
      · unfold fX9_setRate fX9_setRate_J30
        rw [q_nm, g3, q_bnr, if_neg (by decide), l3, q_bnr, if_pos rfl]
        exact f0
  · obtain ⟨g1, g2, g3⟩ := q_rgn hp
    refine ⟨v, upd u 3 1, Or.inr ⟨0, ?_, rfl, ?_, pk_us⟩, (h.u3 1).J (by omega) hT⟩
    · unfold xX8_setRate
      rw [g2, q_xs]
    · unfold fX9_setRate fX9_setRate_J30
      rw [q_nm, g3, q_bnr, if_pos rfl]
      exact f0
theorem K_52 (P : Nat → Int32) (h : q_I T cur dr hn nx v u) (hT : T + 999 ≤ 100000000) : ∃ w z, bS_52 P v u w z ∧ q_J (T + 999) w z := by
  obtain ⟨nf, nb, nt, no, Ls, hS⟩ := h.2.2.2.1
  have hc := h.1.1
  have cv := h.2.1.1
  have hnf := hS.hnf
  have e1 : v (stO cur + 6) = nI nf := hS.cnf
  have e2 : upd u 3 0 (710 + (5 : Int32).toNatClampNeg) = nI nf := (q_un (by decide)).trans hS.rnf
  unfold bS_52
  by_cases hp : q_in (P 1) 1 99
  · obtain ⟨g1, g2, g3⟩ := q_rg hp
    by_cases hn6 : nf < 6
    · obtain ⟨m, e, hm1, hm⟩ := q_in_n (lo := 1) (hi := 99) hp (by decide) (by decide)
      obtain ⟨w, z, hn9, nx9, w0, z0, hI, hS2, cw, z3, zr⟩ := t_begin h hS
      obtain ⟨d, y, a1, a2, a3, a4⟩ := t_flour hS2 hn6 ⟨hm1, hm⟩
      have b := stO_b (i := cur) (by omega)
      have hn6' : ¬ (6 : Int32) ≤ nI nf := by rw [q_l6]; exact nI_ge hn6 (by decide)
      refine ⟨spl w (stO cur + 6) 169 d, y, Or.inl ⟨nI nf, ?_, ?_, ?_⟩, ?_⟩
      · unfold fX8_addFlour fX8_addFlour_J27
        rw [g1, q_bnr, cv, q_ck (by omega) (by decide), nI_clamp (by omega), q_nm, e1, if_neg hn6', s_1, q_bnr, q_ck (by omega) (by decide), q_nm, w0, q_bnw, cw, q_ck (by omega) (by decide), nI_clamp (show cur < 2 ^ 31 by omega), q_nm, q_vv, e, a1, q_bnd, q_nm]
      · unfold fX9_addFlour fX9_addFlour_J37
        rw [q_nm, g3, q_bnr, r_fails1, q_bnd, if_pos rfl, e2, if_neg hn6', r_fails1, q_bnd, if_pos rfl, z0, q_bnw, e, a2, q_bnd]
      · rw [a4 3 (by decide)]
        exact z3
      · exact ⟨_, _, _, _, hI.chg (d := spl (vw w (stO cur)) 6 169 d) (T9 := T + 999) ⟨_, _, _, _, _, a3.mono (by omega) hT⟩ (by omega) hT a4 (fun x _ => congrFun (q_vspl w d (stO cur) 6 169) x) (fun x hx => q_spo (by omega))⟩
    · have hn6' : (6 : Int32) ≤ nI nf := by rw [q_l6]; exact nI_le (by omega) (by omega)
      refine ⟨v, upd u 3 2, Or.inr (Or.inr ⟨0, ?_, rfl, ?_, pk_us⟩), (h.u3 2).J (by omega) hT⟩
      · unfold xX8_addFlour xX8_addFlour_J27
        rw [g2, q_xn, g1, q_bnr, cv, q_ck (by omega) (by decide), nI_clamp (by omega), q_nm, e1, if_pos hn6', sx_0, q_xs]
      · unfold fX9_addFlour fX9_addFlour_J37
        rw [q_nm, g3, q_bnr, r_fails1, q_bnd, if_pos rfl, e2, if_pos hn6', r_fails0, q_bnd, if_neg (by decide), q_33]
  · obtain ⟨g1, g2, g3⟩ := q_rgn hp
    refine ⟨v, upd u 3 1, Or.inr (Or.inl ⟨0, ?_, rfl, ?_, pk_us⟩), (h.u3 1).J (by omega) hT⟩
    · unfold xX8_addFlour
      rw [g2, q_xs]
    · unfold fX9_addFlour
      rw [q_nm, g3, q_bnr, r_fails0, q_bnd, if_neg (by decide), q_33]
end
/-! recipes -/
theorem c_highest {T nf nb nt no : Nat} {Ls : Nat → List (Nat × Nat)} {r c : bM} (h : q_S T nf nb nt no Ls r c) : fX2_highestRecipe (vw c 6) = some (nI (10 ^ nf - 1)) := by
  have h1 := h.hnf
  have en : vw c 6 0 = nI nf := h.cnf
  have key := q_for (F := fX2_highestRecipe_L4 (vw c 6)) (z := fun _ _ => none) (n := nf) (Sp := fun i K => K (nI (10 ^ i)) (nI i) = some (nI (10 ^ nf - 1))) (fun K => by
    unfold fX2_highestRecipe_L4
    rw [en, if_pos (Int32.le_refl _), q_l1, pk_sub (Nat.one_le_pow _ _ (by decide))]) (fun i K hi hK => by
    unfold fX2_highestRecipe_L4
    rw [en, if_neg (nI_ge hi (by omega)), q_l10, pk_mul, q_nm, q_nm, q_add1, ← Nat.pow_succ]
    exact hK) lpN 0 (Nat.zero_le _) (q_lpN _ (by omega))
  unfold fX2_highestRecipe
  exact key
theorem q_digs {n k : Nat} (hk : k < 1000000) (h : ∀ f, n ≤ f → f < 6 → qdg k f = 0) : ∀ j, n + j = 6 → k / 10 ^ n = 0 := by
  intro j
  induction j generalizing n with
  | zero =>
    intro e
    rw [show n = 6 by omega]
    exact Nat.div_eq_of_lt (by omega)
  | succ j ih =>
    intro e
    have g := ih (n := n + 1) (fun f hf1 hf2 => h f (by omega) hf2) (by omega)
    have d := h n (Nat.le_refl _) (by omega)
    unfold qdg at d
    rw [← q_div10] at g
    omega
theorem r_isRecipe {T nf nb nt no : Nat} {Ls : Nat → List (Nat × Nat)} {u c : bM} (h : q_S T nf nb nt no Ls (vw u 710) c) (p : Int32) : fX9_isRecipe p u = some (if p < 1 ∨ nI (10 ^ nf - 1) < p then 0 else 1) := by
  have h1 := h.hnf
  have hp := p10_le h1
  have hp0 : 1 ≤ 10 ^ nf := Nat.one_le_pow _ _ (by decide)
  have en : u (710 + (5 : Int32).toNatClampNeg) = nI nf := h.rnf
  unfold fX9_isRecipe
  by_cases hr : q_in p 1 999999
  · obtain ⟨k, e, k1, k2⟩ := q_in_n (lo := 1) (hi := 999999) hr (by decide) (by decide)
    have key := q_for (F := fX9_isRecipe_L21 (nI k)) (z := fun _ _ => none) (n := 6) (Sp := fun i K => ∀ y : Int32, (y = 1 → (∀ f, i ≤ f → f < 6 → qdg k f = 0) → K y (nI i) = some 1) ∧ ((y = 0 ∨ (y = 1 ∧ ∃ f, i ≤ f ∧ f < 6 ∧ ¬ qdg k f = 0)) → K y (nI i) = some 0)) (fun K y => by
      unfold fX9_isRecipe_L21
      rw [q_l6, if_pos (Int32.le_refl _)]
      refine ⟨fun ey _ => by rw [ey, q_l1, q_ck (by decide) (by decide)], fun q => ?_⟩
      rcases q with q | ⟨_, f, g1, g2, _⟩
      · rw [q, q_l0, q_ck (by decide) (by decide)]
      · omega) (fun i K hi hK y => by
      have hdg := qdg_lt k i
      unfold fX9_isRecipe_L21 fX9_isRecipe_J43 fX9_isRecipe_J44
      rw [q_l6, if_neg (nI_ge hi (by decide)), r_digit (by omega) (by omega), q_bnr, q_nm, q_nm, q_add1]
      refine ⟨fun ey g => ?_, fun q => ?_⟩
      · rw [ey, if_neg (by decide), g i (Nat.le_refl _) hi, if_pos nI_0]
        exact (hK 1).1 rfl (fun f g1 g2 => g f (by omega) g2)
      · rcases q with q | ⟨q, f, g1, g2, g3⟩
        · rw [if_pos q]
          exact (hK 0).2 (Or.inl rfl)
        · rw [q, if_neg (by decide)]
          by_cases e0 : qdg k i = 0
          · rw [e0, if_pos nI_0]
            refine (hK 1).2 (Or.inr ⟨rfl, f, ?_, g2, g3⟩)
            rcases Nat.eq_or_lt_of_le g1 with e | e
            · rw [e] at e0; exact absurd e0 g3
            · exact e
          · rw [if_neg (nI_ne0 (by omega) (by omega))]
            exact (hK 0).2 (Or.inl rfl)) lpN nf h1 (by have := q_lpN 6 (by decide); omega) 1
    rw [(q_rg hr).2.2, q_bnr, if_neg (by decide), en, q_nm, e]
    by_cases hk : k < 10 ^ nf
    · rw [if_neg (fun q => q.elim (fun q => by rw [q_l1, nI_ltI (by omega) (by decide)] at q; omega) (fun q => by rw [nI_ltI (by omega) (by omega)] at q; omega))]
      exact key.1 rfl (fun f hf _ => qdg_hi hk hf)
    · rw [if_pos (Or.inr (nI_lt (by omega) (by omega)))]
      refine key.2 (Or.inr ⟨rfl, ?_⟩)
      refine Classical.byContradiction (fun q => hk ?_)
      have g := q_digs (n := nf) (k := k) (by omega) (fun f hf1 hf2 => Classical.byContradiction (fun g => q ⟨f, hf1, hf2, g⟩)) (6 - nf) (by omega)
      have := Nat.div_add_mod k (10 ^ nf)
      have := Nat.mod_lt k (show 0 < 10 ^ nf by omega)
      rw [g, Nat.mul_zero] at *
      omega
  · rw [(q_rgn hr).2.2, q_bnr, if_pos rfl]
    by_cases h9 : p < 1
    · rw [if_pos (Or.inl h9)]
    · have h8 : ¬ p ≤ 999999 := fun q => hr ⟨h9, q⟩
      rw [if_pos (Or.inr ?_)]
      rw [Int32.le_iff_toInt_le, show (999999 : Int32).toInt = 999999 from by decide] at h8
      rw [Int32.lt_iff_toInt_lt, nI_toInt (by omega)]
      omega
