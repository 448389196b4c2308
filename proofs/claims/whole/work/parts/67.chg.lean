/-! ===== layer 2: the changes of the face, continued ===== -/
section
variable {T cur dr hn nx : Nat} {v u : bM}
theorem K_53 (P : Nat → Int32) (h : q_I T cur dr hn nx v u) (hT : T + 999 ≤ 100000000) : ∃ w z, bS_53 P v u w z ∧ q_J (T + 999) w z := by
  obtain ⟨nf, nb, nt, no, Ls, hS⟩ := h.2.2.2.1
  have hc := h.1.1
  have cv := h.2.1.1
  have hnf := hS.hnf
  have hnb := hS.hnb
  have p10 := p10_le hnf
  have e1 : v (stO cur + 175) = nI nb := hS.cnb
  have e2 : upd u 3 0 (710 + (6 : Int32).toNatClampNeg) = nI nb := (q_un (by decide)).trans hS.rnb
  have f0 : fX9_addBread_J40 (P 1) (P 2) (P 3) 0 (upd u 3 0) = some (0, upd u 3 1) := by
    unfold fX9_addBread_J40
    rw [r_fails0, q_bnd, if_neg (by decide), q_33]
  have er := r_isRecipe (u := upd u 3 0) (by rw [q_u3 u 0 710 (by decide)]; exact hS) (P 3)
  have eh := c_highest hS
  unfold bS_53
  by_cases hp : q_in (P 1) 1 999
  · obtain ⟨g1, g2, g3⟩ := q_rg hp
    by_cases hp2 : q_in (P 2) 1 9
    · obtain ⟨l1, l2, l3⟩ := q_rg hp2
      by_cases hp3 : q_in (P 3) 1 (nI (10 ^ nf - 1))
      · obtain ⟨m1, m2, _⟩ := q_rg hp3
        rw [if_neg (fun q => q.elim hp3.1 (q_nlt hp3.2))] at er
        by_cases hn6 : nb < 6
        · obtain ⟨mi, e4, hm1, hm⟩ := q_in_n (lo := 1) (hi := 9) hp2 (by decide) (by decide)
          obtain ⟨k, e5, hk1, hk⟩ := q_in_n (lo := 1) (hi := 10 ^ nf - 1) hp3 (by omega) (by decide)
          obtain ⟨w, z, hn9, nx9, w0, z0, hI, hS2, cw, z3, zr⟩ := t_begin h hS
          obtain ⟨d, y, a1, a2, a3, a4⟩ := t_bread (pr := P 1) hS2 hn6 ⟨hm1, hm⟩ ⟨hk1, hk⟩
          have b := stO_b (i := cur) (by omega)
          have hn6' : ¬ (6 : Int32) ≤ nI nb := by rw [q_l6]; exact nI_ge hn6 (by decide)
          refine ⟨spl w (stO cur) 590 d, y, Or.inl ⟨nI nb, ?_, ?_, ?_⟩, ?_⟩
          · unfold fX8_addBread fX8_addBread_J50
            rw [g1, q_bnr, l1, q_bnr, cv, q_ck (by omega) (by decide), nI_clamp (show cur < 2 ^ 31 by omega), q_nm, q_vv, eh, q_bnr, m1, q_bnr, q_ck (by omega) (by decide), q_nm, e1, if_neg hn6', s_1, q_bnr, q_ck (by omega) (by decide), q_nm, w0, q_bnw, cw, q_ck (by omega) (by decide), nI_clamp (show cur < 2 ^ 31 by omega), q_nm, e4, e5, a1, q_bnd, q_nm]
          · unfold fX9_addBread fX9_addBread_J40 fX9_addBread_J65
            rw [q_nm, g3, q_bnr, if_neg (by decide), l3, q_bnr, if_neg (by decide), er, q_bnr, if_neg (by decide), r_fails1, q_bnd, if_pos rfl, e2, if_neg hn6', r_fails1, q_bnd, if_pos rfl, z0, q_bnw, e4, e5, a2, q_bnd]
          · rw [a4 3 (by decide)]
            exact z3
          · exact ⟨_, _, _, _, hI.chg (d := d) (T9 := T + 999) ⟨_, _, _, _, _, a3.mono (by omega) hT⟩ (by omega) hT a4 (fun x hx => q_vspl0 hx) (fun x hx => q_spo (by omega))⟩
        · have hn6' : (6 : Int32) ≤ nI nb := by rw [q_l6]; exact nI_le (by omega) (by omega)
          refine ⟨v, upd u 3 2, Or.inr (Or.inr ⟨0, ?_, rfl, ?_, pk_us⟩), (h.u3 2).J (by omega) hT⟩
          · unfold xX8_addBread xX8_addBread_J50
            rw [g2, q_xn, g1, q_bnr, l2, q_xn, l1, q_bnr, cv, q_ck (by omega) (by decide), nI_clamp (show cur < 2 ^ 31 by omega), q_nm, q_vv, eh, q_bnr, m2, q_xn, m1, q_bnr, q_ck (by omega) (by decide), q_nm, e1, if_pos hn6', sx_0, q_xs]
          · unfold fX9_addBread fX9_addBread_J40 fX9_addBread_J65
            rw [q_nm, g3, q_bnr, if_neg (by decide), l3, q_bnr, if_neg (by decide), er, q_bnr, if_neg (by decide), r_fails1, q_bnd, if_pos rfl, e2, if_pos hn6', r_fails0, q_bnd, if_neg (by decide), q_33]
      · obtain ⟨m1, m2, _⟩ := q_rgn hp3
        have hbad : P 3 < 1 ∨ nI (10 ^ nf - 1) < P 3 := by
          by_cases q : P 3 < 1
          · exact Or.inl q
          · exact Or.inr (q_ltn (fun q2 => hp3 ⟨q, q2⟩))
        rw [if_pos hbad] at er
        refine ⟨v, upd u 3 1, Or.inr (Or.inl ⟨0, ?_, rfl, ?_, pk_us⟩), (h.u3 1).J (by omega) hT⟩
        · unfold xX8_addBread
          rw [g2, q_xn, g1, q_bnr, l2, q_xn, l1, q_bnr, cv, q_ck (by omega) (by decide), nI_clamp (show cur < 2 ^ 31 by omega), q_nm, q_vv, eh, q_bnr, m2, q_xs]
        · unfold fX9_addBread fX9_addBread_J39
          rw [q_nm, g3, q_bnr, if_neg (by decide), l3, q_bnr, if_neg (by decide), er, q_bnr, if_pos rfl]
          exact f0
    · obtain ⟨l1, l2, l3⟩ := q_rgn hp2
      refine ⟨v, upd u 3 1, Or.inr (Or.inl ⟨0, ?_, rfl, ?_, pk_us⟩), (h.u3 1).J (by omega) hT⟩
      · unfold xX8_addBread
        rw [g2, q_xn, g1, q_bnr, l2, q_xs]
      · unfold fX9_addBread fX9_addBread_J39
        rw [q_nm, g3, q_bnr, if_neg (by decide), l3, q_bnr, if_pos rfl]
        exact f0
  · obtain ⟨g1, g2, g3⟩ := q_rgn hp
    refine ⟨v, upd u 3 1, Or.inr (Or.inl ⟨0, ?_, rfl, ?_, pk_us⟩), (h.u3 1).J (by omega) hT⟩
    · unfold xX8_addBread
      rw [g2, q_xs]
    · unfold fX9_addBread fX9_addBread_J39
      rw [q_nm, g3, q_bnr, if_pos rfl]
      exact f0
theorem K_54 (P : Nat → Int32) (h : q_I T cur dr hn nx v u) (hT : T + 999 ≤ 100000000) : ∃ w z, bS_54 P v u w z ∧ q_J (T + 999) w z := by
  obtain ⟨nf, nb, nt, no, Ls, hS⟩ := h.2.2.2.1
  have hc := h.1.1
  have cv := h.2.1.1
  have hnf := hS.hnf
  have n0 : ∀ p p2 p3 : Int32, (p < 0 ∨ nI nf ≤ p) → xX8_buy p p2 p3 v = some 0 ∧ fX9_buy p p2 p3 u = some (0, upd u 3 1) := by
    intro p p2 p3 hp
    obtain ⟨g1, g2, g3⟩ := n_flour (by omega) cv hS hp
    unfold xX8_buy fX9_buy
    rw [g2, g3]
    exact ⟨rfl, rfl⟩
  unfold bS_54
  rcases pk_ix (P 1) (n := nf) (by omega) with e | e | ⟨j, hj, e⟩
  · exact ⟨v, upd u 3 1, Or.inr (Or.inl ⟨0, (n0 _ _ _ (Or.inl e)).1, rfl, (n0 _ _ _ (Or.inl e)).2, pk_us⟩), (h.u3 1).J (by omega) hT⟩
  · exact ⟨v, upd u 3 1, Or.inr (Or.inl ⟨0, (n0 _ _ _ (Or.inr e)).1, rfl, (n0 _ _ _ (Or.inr e)).2, pk_us⟩), (h.u3 1).J (by omega) hT⟩
  · rw [e]
    obtain ⟨b1, b2, b3⟩ := y_flour (by omega) cv hS hj
    have f0 : fX9_buy_J34 (nI j) (P 2) (P 3) 0 (upd u 3 0) = some (0, upd u 3 2) := by
      unfold fX9_buy_J34
      rw [r_fails0, q_bnd, if_neg (by decide), q_33]
    by_cases hp2 : q_in (P 2) 1 99
    · obtain ⟨l1, l2, l3⟩ := q_rg hp2
      by_cases hp3 : q_in (P 3) 1 99
      · obtain ⟨m1, m2, m3⟩ := q_rg hp3
        obtain ⟨x, e4, hx1, hx⟩ := q_in_n (lo := 1) (hi := 99) hp2 (by decide) (by decide)
        obtain ⟨k, e5, hk1, hk⟩ := q_in_n (lo := 1) (hi := 99) hp3 (by decide) (by decide)
        have ec : fX6_canBuyLot (nI j) (nI x) (nI k) (vw v (stO cur)) = some (qcb Ls (vw u 710) j (nI x) (nI k)) := c_canBuy hS hj
        have er : fX9_canBuy (nI j) (nI x) (nI k) (upd u 3 0) = some (qcb Ls (vw u 710) j (nI x) (nI k)) := by
          rw [r_canBuy (hS.z 0) hj, q_u3 u 0 710 (by decide)]
        by_cases h0 : qcb Ls (vw u 710) j (nI x) (nI k) = 0
        · refine ⟨v, upd u 3 3, Or.inr (Or.inr (Or.inr ⟨0, ?_, rfl, ?_, pk_us⟩)), (h.u3 3).J (by omega) hT⟩
          · unfold xX8_buy
            rw [b2, q_xn, b1, q_bnr, l2, q_xn, l1, q_bnr, m2, q_xn, m1, q_bnr, cv, q_ck (by omega) (by decide), nI_clamp (show cur < 2 ^ 31 by omega), q_nm, e4, e5, ec, q_bnr, h0, sx_0, q_xs]
          · unfold fX9_buy fX9_buy_J34
            rw [b3, q_bnd, if_neg (by decide), l3, q_bnr, if_neg (by decide), m3, q_bnr, if_neg (by decide), r_fails1, q_bnd, if_pos rfl, e4, e5, er, q_bnr, h0, r_fails0, q_bnd, if_neg (by decide), q_33]
        · obtain ⟨_, _, h1⟩ := qcb_1 h0
          obtain ⟨w, z, hn9, nx9, w0, z0, hI, hS2, cw, z3, zr⟩ := t_begin h hS
          have hrow : qcb Ls (vw z 710) j (nI x) (nI k) = 1 := by
            have e9 : vw z 710 0 = vw u 710 0 := zr 0 (by decide)
            unfold qcb at h1 ⊢
            rw [e9]
            exact h1
          obtain ⟨d, y, a1, a2, a3, a4, a5⟩ := t_buy hS2 hj ⟨hx1, hx⟩ ⟨hk1, hk⟩ (by rw [hrow]; decide)
          have b := stO_b (i := cur) (by omega)
          have ed : spl w (stO cur) 590 d (stO cur + 1) = d 1 := q_spi rfl (by decide)
          have ed0 : spl w (stO cur) 590 d 0 = nI cur := (q_spo (by omega)).trans cw
          refine ⟨spl w (stO cur) 590 d, y, Or.inl ⟨y 710, ?_, ?_, ?_⟩, ?_⟩
          · unfold fX8_buy
            rw [b1, q_bnr, l1, q_bnr, m1, q_bnr, cv, q_ck (by omega) (by decide), nI_clamp (show cur < 2 ^ 31 by omega), q_nm, e4, e5, ec, q_bnr, h1, s_1, q_bnr, q_ck (by omega) (by decide), q_nm, w0, q_bnw, cw, q_ck (by omega) (by decide), nI_clamp (show cur < 2 ^ 31 by omega), q_nm, a1, q_bnd, q_nm, ed0, q_ck (by omega) (by decide), nI_clamp (show cur < 2 ^ 31 by omega), q_nm, ed, a3]
          · unfold fX9_buy fX9_buy_J34
            rw [b3, q_bnd, if_neg (by decide), l3, q_bnr, if_neg (by decide), m3, q_bnr, if_neg (by decide), r_fails1, q_bnd, if_pos rfl, e4, e5, er, q_bnr, h1, r_fails1, q_bnd, if_pos rfl, z0, q_bnw, a2, q_bnd]
          · rw [a5 3 (by decide)]
            exact z3
          · exact ⟨_, _, _, _, hI.chg (d := d) (T9 := T + 999) ⟨_, _, _, _, _, a4.mono (by omega) hT⟩ (by omega) hT a5 (fun x hx => q_vspl0 hx) (fun x hx => q_spo (by omega))⟩
      · obtain ⟨m1, m2, m3⟩ := q_rgn hp3
        refine ⟨v, upd u 3 2, Or.inr (Or.inr (Or.inl ⟨0, ?_, rfl, ?_, pk_us⟩)), (h.u3 2).J (by omega) hT⟩
        · unfold xX8_buy
          rw [b2, q_xn, b1, q_bnr, l2, q_xn, l1, q_bnr, m2, q_xs]
        · unfold fX9_buy fX9_buy_J33
          rw [b3, q_bnd, if_neg (by decide), l3, q_bnr, if_neg (by decide), m3, q_bnr, if_pos rfl]
          exact f0
    · obtain ⟨l1, l2, l3⟩ := q_rgn hp2
      refine ⟨v, upd u 3 2, Or.inr (Or.inr (Or.inl ⟨0, ?_, rfl, ?_, pk_us⟩)), (h.u3 2).J (by omega) hT⟩
      · unfold xX8_buy
        rw [b2, q_xn, b1, q_bnr, l2, q_xs]
      · unfold fX9_buy fX9_buy_J33
        rw [b3, q_bnd, if_neg (by decide), l3, q_bnr, if_pos rfl]
        exact f0
end
