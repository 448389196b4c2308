/-! ===== layer 2: sell, bake, undo, save, restore ===== -/
section
variable {T cur dr hn nx : Nat} {v u : bM}
theorem K_57 (P : Nat → Int32) (h : q_I T cur dr hn nx v u) (hT : T + 999 ≤ 100000000) : ∃ w z, bS_57 P v u w z ∧ q_J (T + 999) w z := by
  obtain ⟨nf, nb, nt, no, Ls, hS⟩ := h.2.2.2.1
  have hc := h.1.1
  have cv := h.2.1.1
  have hnb := hS.hnb
  have n0 : ∀ p p2 p3 : Int32, (p < 0 ∨ nI nb ≤ p) → xX8_sell p p2 p3 v = some 0 ∧ fX9_sell p p2 p3 u = some (0, upd u 3 1) := by
    intro p p2 p3 hp
    obtain ⟨g1, g2, g3⟩ := n_bread (by omega) cv hS hp
    unfold xX8_sell fX9_sell
    rw [g2, g3]
    exact ⟨rfl, rfl⟩
  unfold bS_57
  rcases pk_ix (P 1) (n := nb) (by omega) with e | e | ⟨j, hj, e⟩
  · exact ⟨v, upd u 3 1, Or.inr (Or.inl ⟨0, (n0 _ _ _ (Or.inl e)).1, rfl, (n0 _ _ _ (Or.inl e)).2, pk_us⟩), (h.u3 1).J (by omega) hT⟩
  · exact ⟨v, upd u 3 1, Or.inr (Or.inl ⟨0, (n0 _ _ _ (Or.inr e)).1, rfl, (n0 _ _ _ (Or.inr e)).2, pk_us⟩), (h.u3 1).J (by omega) hT⟩
  · rw [e]
    obtain ⟨b1, b2, b3⟩ := y_bread (by omega) cv hS hj
    have f0 : fX9_sell_J35 (nI j) (P 2) (P 3) 0 (upd u 3 0) = some (0, upd u 3 2) := by
      unfold fX9_sell_J35
      rw [r_fails0, q_bnd, if_neg (by decide), q_33]
    by_cases hp2 : q_in (P 2) 1 99
    · obtain ⟨l1, l2, l3⟩ := q_rg hp2
      by_cases hp3 : q_in (P 3) 1 999
      · obtain ⟨m1, m2, m3⟩ := q_rg hp3
        have e4 : v (stO cur + 200 + j) = vw u 710 (211 + 4 * j) := (q_v2 v _ _ _).trans (hS.clo j hj)
        have e5 : fX9_bread (nI j) 3 (upd u 3 0) = some (vw u 710 (211 + 4 * j)) := by rw [r_bread3 (by omega), q_u3 u 0 710 (by decide)]
        by_cases h0 : vw u 710 (211 + 4 * j) < P 2
        · refine ⟨v, upd u 3 3, Or.inr (Or.inr (Or.inr ⟨0, ?_, rfl, ?_, pk_us⟩)), (h.u3 3).J (by omega) hT⟩
          · unfold xX8_sell xX8_sell_J41
            rw [b2, q_xn, b1, q_bnr, l2, q_xn, l1, q_bnr, m2, q_xn, m1, q_bnr, cv, q_ck (by omega) (by decide), nI_clamp (show cur < 2 ^ 31 by omega), q_nm, q_ck (by omega) (by decide), nI_clamp (show j < 2 ^ 31 by omega), e4, if_pos h0, sx_0, q_xs]
          · unfold fX9_sell fX9_sell_J35 fX9_sell_J58
            rw [b3, q_bnd, if_neg (by decide), l3, q_bnr, if_neg (by decide), m3, q_bnr, if_neg (by decide), r_fails1, q_bnd, if_pos rfl, e5, q_bnr, if_pos h0, r_fails0, q_bnd, if_neg (by decide), q_33]
        · obtain ⟨w, z, hn9, nx9, w0, z0, hI, hS2, cw, z3, zr⟩ := t_begin h hS
          obtain ⟨d, y, a1, a2, a3, a4, a5⟩ := t_sell (l := P 2) (p := P 3) hS2 hj (by rw [zr _ (by omega)]; exact q_len h0)
          have b := stO_b (i := cur) (by omega)
          have ed : spl w (stO cur) 590 d (stO cur + 1) = d 1 := q_spi rfl (by decide)
          have ed0 : spl w (stO cur) 590 d 0 = nI cur := (q_spo (by omega)).trans cw
          refine ⟨spl w (stO cur) 590 d, y, Or.inl ⟨y 710, ?_, ?_, ?_⟩, ?_⟩
          · unfold fX8_sell fX8_sell_J41
            rw [b1, q_bnr, l1, q_bnr, m1, q_bnr, cv, q_ck (by omega) (by decide), nI_clamp (show cur < 2 ^ 31 by omega), q_nm, q_ck (by omega) (by decide), nI_clamp (show j < 2 ^ 31 by omega), e4, if_neg h0, s_1, q_bnr, q_ck (by omega) (by decide), q_nm, w0, q_bnw, cw, q_ck (by omega) (by decide), nI_clamp (show cur < 2 ^ 31 by omega), q_nm, a1, q_bnd, q_nm, ed0, q_ck (by omega) (by decide), nI_clamp (show cur < 2 ^ 31 by omega), q_nm, ed, a3]
          · unfold fX9_sell fX9_sell_J35 fX9_sell_J58
            rw [b3, q_bnd, if_neg (by decide), l3, q_bnr, if_neg (by decide), m3, q_bnr, if_neg (by decide), r_fails1, q_bnd, if_pos rfl, e5, q_bnr, if_neg h0, r_fails1, q_bnd, if_pos rfl, z0, q_bnw, a2, q_bnd]
          · rw [a5 3 (by decide)]
            exact z3
          · exact ⟨_, _, _, _, hI.chg (d := d) (T9 := T + 999) ⟨_, _, _, _, _, a4.mono (by omega) hT⟩ (by omega) hT a5 (fun x hx => q_vspl0 hx) (fun x hx => q_spo (by omega))⟩
      · obtain ⟨m1, m2, m3⟩ := q_rgn hp3
        refine ⟨v, upd u 3 2, Or.inr (Or.inr (Or.inl ⟨0, ?_, rfl, ?_, pk_us⟩)), (h.u3 2).J (by omega) hT⟩
        · unfold xX8_sell
          rw [b2, q_xn, b1, q_bnr, l2, q_xn, l1, q_bnr, m2, q_xs]
        · unfold fX9_sell fX9_sell_J34
          rw [b3, q_bnd, if_neg (by decide), l3, q_bnr, if_neg (by decide), m3, q_bnr, if_pos rfl]
          exact f0
    · obtain ⟨l1, l2, l3⟩ := q_rgn hp2
      refine ⟨v, upd u 3 2, Or.inr (Or.inr (Or.inl ⟨0, ?_, rfl, ?_, pk_us⟩)), (h.u3 2).J (by omega) hT⟩
      · unfold xX8_sell
        rw [b2, q_xn, b1, q_bnr, l2, q_xs]
      · unfold fX9_sell fX9_sell_J34
        rw [b3, q_bnd, if_neg (by decide), l3, q_bnr, if_pos rfl]
        exact f0
theorem K_56 (P : Nat → Int32) (h : q_I T cur dr hn nx v u) (hT : T + 999 ≤ 100000000) : ∃ w z, bS_56 P v u w z ∧ q_J (T + 999) w z := by
  obtain ⟨nf, nb, nt, no, Ls, hS⟩ := h.2.2.2.1
  have hc := h.1.1
  have cv := h.2.1.1
  have hnb := hS.hnb
  have n0 : ∀ p p2 p3 p4 p5 : Int32, (p < 0 ∨ nI nb ≤ p) → xX8_bake p p2 p3 p4 p5 v = some 0 ∧ fX9_bake p p2 p3 p4 p5 u = some (0, upd u 3 1) := by
    intro p p2 p3 p4 p5 hp
    obtain ⟨g1, g2, g3⟩ := n_bread (by omega) cv hS hp
    unfold xX8_bake fX9_bake
    rw [g2, g3]
    exact ⟨rfl, rfl⟩
  unfold bS_56
  rcases pk_ix (P 1) (n := nb) (by omega) with e | e | ⟨j, hj, e⟩
  · exact ⟨v, upd u 3 1, Or.inr (Or.inl ⟨0, (n0 _ _ _ _ _ (Or.inl e)).1, rfl, (n0 _ _ _ _ _ (Or.inl e)).2, pk_us⟩), (h.u3 1).J (by omega) hT⟩
  · exact ⟨v, upd u 3 1, Or.inr (Or.inl ⟨0, (n0 _ _ _ _ _ (Or.inr e)).1, rfl, (n0 _ _ _ _ _ (Or.inr e)).2, pk_us⟩), (h.u3 1).J (by omega) hT⟩
  · rw [e]
    obtain ⟨b1, b2, b3⟩ := y_bread (by omega) cv hS hj
    have f0 : fX9_bake_J50 (nI j) (P 2) (P 3) (P 4) (P 5) 0 (upd u 3 0) = some (0, upd u 3 2) := by
      unfold fX9_bake_J50
      rw [r_fails0, q_bnd, if_neg (by decide), q_33]
    by_cases hp : q_in (P 2) 1 20 ∧ q_in (P 4) (-9) 9 ∧ q_in (P 5) (-9) 9
    · obtain ⟨p1, p2⟩ := q_plan hp.1 hp.2.1 hp.2.2
      obtain ⟨l, e2, hl1, hl⟩ := q_in_n (lo := 1) (hi := 20) hp.1 (by decide) (by decide)
      by_cases hp3 : q_in (P 3) 0 (P 2)
      · obtain ⟨m1, m2, m3⟩ := q_rg hp3
        obtain ⟨bn, e3, _, hbn⟩ := q_in_n (lo := 0) (hi := l) (by rw [← e2]; exact hp3) (by omega) (by decide)
        have ec : fX6_obstacle (nI j) (nI l) (P 4) (P 5) (vw v (stO cur)) = some (qob nf nt Ls (vw u 710) j (nI l) (P 4) (P 5)) := c_obstacle hS hj hl
        have er : fX9_obstacle (nI j) (nI l) (P 4) (P 5) (upd u 3 0) = some (qob nf nt Ls (vw u 710) j (nI l) (P 4) (P 5)) := by
          rw [r_obstacle (hS.z 0) hj, q_u3 u 0 710 (by decide)]
        by_cases h0 : qob nf nt Ls (vw u 710) j (nI l) (P 4) (P 5) = 0
        · obtain ⟨w, z, hn9, nx9, w0, z0, hI, hS2, cw, z3, zr⟩ := t_begin h hS
          have h02 : qob nf nt Ls (vw z 710) j (nI l) (P 4) (P 5) = 0 := by
            have g1 := c_obstacle (hS.same (r9 := vw z 710) zr (fun _ _ => rfl)) hj (y := P 4) (z := P 5) hl
            rw [ec, h0] at g1
            exact (Option.some.inj g1).symm
          obtain ⟨d, y, a1, a2, _, a3, a4, _⟩ := t_bake hS2 hj hl hbn (q_in9 hp.2.1) (q_in9 hp.2.2) h02 hT
          have b := stO_b (i := cur) (by omega)
          refine ⟨spl w (stO cur) 590 d, y, Or.inl ⟨nI nt, ?_, ?_, ?_⟩, ?_⟩
          · unfold fX8_bake fX8_bake_J40
            rw [b1, q_bnr, p1, q_bnr, m1, q_bnr, cv, q_ck (by omega) (by decide), nI_clamp (show cur < 2 ^ 31 by omega), q_nm, e2, ec, q_bnr, if_pos h0, s_1, q_bnr, q_ck (by omega) (by decide), q_nm, w0, q_bnw, cw, q_ck (by omega) (by decide), nI_clamp (show cur < 2 ^ 31 by omega), q_nm, e3, a1, q_bnd, q_nm]
          · unfold fX9_bake fX9_bake_J50 fX9_bake_J81
            rw [b3, q_bnd, if_neg (by decide), (q_rg hp.1).2.2, q_bnr, if_neg (by decide), m3, q_bnr, if_neg (by decide), r_isExtra hp.2.1, q_bnr, if_neg (by decide), r_isExtra hp.2.2, q_bnr, if_neg (by decide), r_fails1, q_bnd, if_pos rfl, e2, er, q_bnr, if_pos h0, r_fails1, q_bnd, if_pos rfl, z0, q_bnw, e3, a2, q_bnd]
          · rw [a4 3 (by decide)]
            exact z3
          · exact ⟨_, _, _, _, hI.chg (d := d) (T9 := T + 999) ⟨_, _, _, _, _, a3⟩ (by omega) hT a4 (fun x hx => q_vspl0 hx) (fun x hx => q_spo (by omega))⟩
        · refine ⟨v, upd u 3 3, Or.inr (Or.inr (Or.inr ⟨0, ?_, rfl, ?_, pk_us⟩)), (h.u3 3).J (by omega) hT⟩
          · unfold xX8_bake xX8_bake_J40
            rw [b2, q_xn, b1, q_bnr, p2, q_xn, p1, q_bnr, m2, q_xn, m1, q_bnr, cv, q_ck (by omega) (by decide), nI_clamp (show cur < 2 ^ 31 by omega), q_nm, e2, ec, q_bnr, if_neg h0, sx_0, q_xs]
          · unfold fX9_bake fX9_bake_J50 fX9_bake_J81
            rw [b3, q_bnd, if_neg (by decide), (q_rg hp.1).2.2, q_bnr, if_neg (by decide), m3, q_bnr, if_neg (by decide), r_isExtra hp.2.1, q_bnr, if_neg (by decide), r_isExtra hp.2.2, q_bnr, if_neg (by decide), r_fails1, q_bnd, if_pos rfl, e2, er, q_bnr, if_neg h0, r_fails0, q_bnd, if_neg (by decide), q_33]
      · obtain ⟨m1, m2, m3⟩ := q_rgn hp3
        refine ⟨v, upd u 3 2, Or.inr (Or.inr (Or.inl ⟨0, ?_, rfl, ?_, pk_us⟩)), (h.u3 2).J (by omega) hT⟩
        · unfold xX8_bake
          rw [b2, q_xn, b1, q_bnr, p2, q_xn, p1, q_bnr, m2, q_xs]
        · unfold fX9_bake fX9_bake_J49
          rw [b3, q_bnd, if_neg (by decide), (q_rg hp.1).2.2, q_bnr, if_neg (by decide), m3, q_bnr, if_pos rfl]
          exact f0
    · obtain ⟨p1, p2⟩ := q_plann hp
      refine ⟨v, upd u 3 2, Or.inr (Or.inr (Or.inl ⟨0, ?_, rfl, ?_, pk_us⟩)), (h.u3 2).J (by omega) hT⟩
      · unfold xX8_bake
        rw [b2, q_xn, b1, q_bnr, p2, q_xs]
      · unfold fX9_bake fX9_bake_J49
        rw [b3, q_bnd, if_neg (by decide)]
        by_cases h1 : q_in (P 2) 1 20
        · rw [(q_rg h1).2.2, q_bnr, if_neg (by decide)]
          by_cases h3 : q_in (P 3) 0 (P 2)
          · rw [(q_rg h3).2.2, q_bnr, if_neg (by decide)]
            by_cases h4 : q_in (P 4) (-9) 9
            · rw [r_isExtra h4, q_bnr, if_neg (by decide), r_isExtran (fun q => hp ⟨h1, h4, q⟩), q_bnr, if_pos rfl]
              exact f0
            · rw [r_isExtran h4, q_bnr, if_pos rfl]
              exact f0
          · rw [(q_rgn h3).2.2, q_bnr, if_pos rfl]
            exact f0
        · rw [(q_rgn h1).2.2, q_bnr, if_pos rfl]
          exact f0
theorem K_59 (P : Nat → Int32) (h : q_I T cur dr hn nx v u) (hT : T + 999 ≤ 100000000) : ∃ w z, bS_59 P v u w z ∧ q_J (T + 999) w z := by
  obtain ⟨⟨i1, i2, i3, i4, i5⟩, ⟨cv, cd⟩, ⟨h3, h4, h5⟩, h6, h7, h8, ⟨L, t1, t2, t3, t4⟩, ⟨e1, e2⟩, ⟨m, o1, o2, o3, o4⟩⟩ := id h
  have eu : upd u 3 0 4 = nI hn := (q_un (by decide)).trans h5
  unfold bS_59
  by_cases h0 : hn = 0
  · refine ⟨v, upd u 3 1, Or.inr ⟨0, ?_, rfl, ?_, pk_us⟩, (h.u3 1).J (by omega) hT⟩
    · unfold xX8_undo xX8_undo_J15
      rw [h3, h0, if_pos (by decide), sx_0, q_xs]
    · unfold fX9_undo fX9_undo_J18
      rw [q_nm, eu, h0, if_pos (by decide), r_fails0, q_bnd, if_neg (by decide), q_33]
  · obtain ⟨k, rfl⟩ : ∃ k, hn = k + 1 := ⟨hn - 1, by omega⟩
    have b := stO_b (i := cur) (by omega)
    have hnot : ¬ nI (k + 1) ≤ 0 := nI_nle (by omega) (by omega)
    have hnz : ¬ nI (k + 1) = 0 := nI_ne0 (by omega) (by omega)
    -- the class
    have hsl : 2 + (nx + 7) % 8 < 12 := by omega
    obtain ⟨d, d1, d2⟩ := c_copy6 (vw (upd (upd v 1183 (nI ((nx + 7) % 8))) 1182 (nI k)) (stO cur)) (vw (upd (upd v 1183 (nI ((nx + 7) % 8))) 1182 (nI k)) (stO (2 + (nx + 7) % 8)))
    have bs := stO_b hsl
    have hw0 : ∃ w, fX3_takeBack cur v = some w ∧ w = spl (upd (upd v 1183 (nI ((nx + 7) % 8))) 1182 (nI k)) (stO cur) 590 d := by
      refine ⟨_, ?_, rfl⟩
      have em : (nI nx + 8 - 1) - (nI nx + 8 - 1) / 8 * 8 = nI ((nx + 7) % 8) := by
        rw [q_l8, q_l1, nI_add, pk_sub (by omega), show nx + 8 - 1 = nx + 7 by omega, pk_rem (by omega) (by decide) (by decide)]
      unfold fX3_takeBack
      rw [q_ckn (by omega), h3, if_neg hnz, h4, em, q_nm, q_nm, q_un (by decide), h3, nI_pred, q_nm, q_nm, q_un (show 1183 ≠ 1182 by decide), pk_us, q_ck (Nat.mod_lt _ (by decide)) (by decide), nI_clamp (by omega), q_nm, q_cne (by omega), d1, q_bnw, q_nm]
    obtain ⟨w, w0, hw⟩ := hw0
    have hwv : ∀ x, x ≠ 1182 → x ≠ 1183 → ¬ (stO cur ≤ x ∧ x < stO cur + 590) → w x = v x := fun x g1 g2 g3 => by
      rw [hw, q_spo g3, q_un g1, q_un g2]
    have hwb : ∀ x, x < 590 → vw w (stO cur) x = vw v (stO (2 + (nx + 7) % 8)) x := fun x hx => by
      rw [hw, q_vspl0 hx, d2 x hx, q_vw, q_vw, q_un (by omega), q_un (by omega)]
    have hblk : ∀ i, i < 12 → i ≠ cur → ∀ x, x < 590 → vw w (stO i) x = vw v (stO i) x := fun i hi hne x hx => by
      have b1 := stO_b hi
      have := stO_ap hi (show cur < 12 by omega) hne
      exact hwv _ (by omega) (by omega) (by omega)
    -- the reference
    have key := q_for (F := fX9_undo_L39) (z := fun _ _ => none) (n := 496) (Sp := fun i K => ∀ f : bM, (∀ j, j < i → f (710 + j) = u (2198 + 496 * k + j)) → (∀ x, ¬ (710 ≤ x ∧ x < 1206) → f x = upd (upd u 3 0) 4 (nI k) x) → ∃ z, K (nI i) f = some (nI k, z) ∧ (∀ j, j < 496 → z (710 + j) = u (2198 + 496 * k + j)) ∧ ∀ x, ¬ (710 ≤ x ∧ x < 1206) → z x = upd (upd u 3 0) 4 (nI k) x) (fun K f f1 f2 => by
      refine ⟨f, ?_, f1, f2⟩
      unfold fX9_undo_L39
      rw [q_l496, if_pos (Int32.le_refl _), f2 4 (by omega), pk_us]) (fun i K hi hK f f1 f2 => by
      have eh : f (2198 + (496 * k + i)) = u (2198 + 496 * k + i) := by
        rw [f2 _ (by omega), q_un (by omega), q_un (by omega)]
        exact congrArg u (by omega)
      obtain ⟨z, g1, g2⟩ := hK (upd f (710 + i) (u (2198 + 496 * k + i))) (fun j hj => by
        by_cases e : j = i
        · rw [e, pk_us]
        · rw [q_un (by omega)]
          exact f1 j (by omega)) (fun x hx => by rw [q_un (by omega)]; exact f2 x hx)
      refine ⟨z, ?_, g2⟩
      have em : (496 : Int32) * nI k + nI i = nI (496 * k + i) := by rw [q_l496, pk_mul, nI_add]
      unfold fX9_undo_L39
      rw [f2 4 (by omega), pk_us, em, q_l496, if_neg (nI_ge hi (by decide)), q_ck (by omega) (by decide), nI_clamp (by omega), eh, q_nm, q_ck hi (by decide), nI_clamp (by omega), q_nm, q_nm, q_add1]
      exact g1) lpN 0 (Nat.zero_le _) (q_lpN _ (by decide)) (upd (upd u 3 0) 4 (nI k)) (fun j hj => absurd hj (Nat.not_lt_zero _)) (fun _ _ => rfl)
    obtain ⟨z, z0, z1, z2⟩ := key
    have hz : ∀ x, x ≠ 3 → x ≠ 4 → ¬ (710 ≤ x ∧ x < 1206) → z x = u x := fun x g1 g2 g3 => by rw [z2 x g3, q_un g2, q_un g1]
    refine ⟨w, z, Or.inl ⟨nI k, ?_, ?_, ?_⟩, cur, dr, k, (nx + 7) % 8, q_I.mono (T := T) ⟨⟨i1, i2, i3, by omega, Nat.mod_lt _ (by decide)⟩, ⟨by rw [hwv 0 (by omega) (by omega) (by omega)]; exact cv, by rw [hwv 1 (by omega) (by omega) (by omega)]; exact cd⟩, ⟨by rw [hw, q_spo (by omega), pk_us], by rw [hw, q_spo (by omega), q_un (by decide), pk_us], by rw [z2 4 (by omega), pk_us]⟩, ?_, ?_, ?_, ⟨L, t1, by rw [hwv _ (by omega) (by omega) (by omega)]; exact t2, by rw [hz 0 (by omega) (by omega) (by omega)]; exact t3, fun i hi => by rw [hz (10 + i) (by omega) (by omega) (by omega), hwv _ (by omega) (by omega) (by omega)]; exact t4 i hi⟩, ⟨by rw [hz 1 (by omega) (by omega) (by omega), hwv _ (by omega) (by omega) (by omega)]; exact e1, by rw [hz 2 (by omega) (by omega) (by omega), hwv _ (by omega) (by omega) (by omega)]; exact e2⟩, ⟨m, o1, by rw [hwv _ (by omega) (by omega) (by omega)]; exact o2, by rw [hz 9 (by omega) (by omega) (by omega)]; exact o3, fun i hi => by rw [hz (7165 + i) (by omega) (by omega) (by omega), hwv _ (by omega) (by omega) (by omega)]; exact o4 i hi⟩⟩ (by omega) hT⟩
    · have ew : w 1182 = nI k := by rw [hw, q_spo (by omega), pk_us]
      unfold fX8_undo fX8_undo_J15
      rw [h3, if_neg hnot, s_1, q_bnr, cv, q_ck (by omega) (by decide), nI_clamp (show cur < 2 ^ 31 by omega), q_nm, w0, q_bnw, ew]
    · unfold fX9_undo fX9_undo_J18
      rw [q_nm, eu, if_neg hnot, r_fails1, q_bnd, if_pos rfl, eu, nI_pred, q_nm, q_nm]
      exact z0
    · rw [z2 3 (by omega), q_un (by decide), pk_us]
    · have g := h7 k (by omega)
      rw [show 2 + (nx + 8 - (k + 1) + k) % 8 = 2 + (nx + 7) % 8 by omega] at g
      exact g.same (fun x hx => z1 x hx) hwb
    · intro i hi
      rw [show 2 + ((nx + 7) % 8 + 8 - k + i) % 8 = 2 + (nx + 8 - (k + 1) + i) % 8 by omega]
      exact (h7 i (by omega)).same (fun x hx => hz _ (by omega) (by omega) (by omega)) (hblk _ (by omega) (by omega))
    · intro s hs
      rw [hz (7158 + s) (by omega) (by omega) (by omega), hwv (7084 + s) (by omega) (by omega) (by omega)]
      rcases h8 s hs with g | ⟨g1, g2, g3⟩
      · exact Or.inl g
      · exact Or.inr ⟨g1, g2, g3.same (fun x hx => hz _ (by omega) (by omega) (by omega)) (hblk _ (by omega) (by omega))⟩
end
