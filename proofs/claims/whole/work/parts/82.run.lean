/-! ===== layer 2: scripts ===== -/
theorem r_toAside (r : Int32) (y : bM) : ∃ e, lp (fX9_runScript_L35 r) (fun _ _ => none) lpN 0 y = (bnw (fX9_pushAside e) fun w => some (r, w)) ∧ (∀ j, j < 496 → e (1206 + j) = y (1702 + j)) ∧ ∀ x, ¬ (1206 ≤ x ∧ x < 1702) → e x = y x := by
  exact q_for (F := fX9_runScript_L35 r) (z := fun _ _ => none) (n := 496) (Sp := fun i K => ∀ d : bM, (∀ j, j < i → d (1206 + j) = y (1702 + j)) → (∀ x, ¬ (1206 ≤ x ∧ x < 1702) → d x = y x) → ∃ e, K (nI i) d = (bnw (fX9_pushAside e) fun w => some (r, w)) ∧ (∀ j, j < 496 → e (1206 + j) = y (1702 + j)) ∧ ∀ x, ¬ (1206 ≤ x ∧ x < 1702) → e x = y x) (fun K d h1 h2 => by
    refine ⟨d, ?_, h1, h2⟩
    unfold fX9_runScript_L35
    rw [q_l496, if_pos (Int32.le_refl _)]) (fun i K hi hK d h1 h2 => by
    obtain ⟨e, g1, g2⟩ := hK (upd d (1206 + i) (d (1702 + i))) (fun j hj => by
      by_cases e : j = i
      · rw [e, pk_us]
        exact h2 _ (by omega)
      · rw [q_un (by omega)]
        exact h1 j (by omega)) (fun x hx => by rw [q_un (by omega)]; exact h2 x hx)
    refine ⟨e, ?_, g2⟩
    unfold fX9_runScript_L35
    rw [q_l496, if_neg (nI_ge hi (by decide)), q_ck hi (by decide), nI_clamp (by omega), q_nm, q_ck hi (by decide), q_nm, q_nm, q_add1]
    exact g1) lpN 0 (Nat.zero_le _) (q_lpN _ (by decide)) y (fun j hj => absurd hj (Nat.not_lt_zero _)) (fun _ _ => rfl)
theorem c_takeDraft {v : bM} {a b : Nat} (ha : a < 12) (hb : b < 12) (e0 : v 0 = nI a) (e1 : v 1 = nI b) : fX8_takeDraft v = some (upd (upd v 0 (nI b)) 1 (nI a)) := by
  unfold fX8_takeDraft
  rw [e0, q_ck ha (by decide), nI_clamp (by omega), q_nm, e1, q_ck hb (by decide), nI_clamp (by omega), q_nm, q_nm, q_nm]
theorem K_2 {T cur dr hn nx : Nat} {v u : bM} (P : Nat → Int32) (h : q_I T cur dr hn nx v u) (hT : T + 50000 ≤ 100000000) : ∃ w z, bS_2 P v u w z ∧ q_J (T + 50000) w z := by
  obtain ⟨⟨i1, i2, i3, i4, i5⟩, ⟨cv, cd⟩, ⟨h3, h4, h5⟩, h6, h7, h8, ⟨L, t1, t2, t3, t4⟩, ⟨e1, e2⟩, ⟨m, o1, o2, o3, o4⟩⟩ := id h
  have b := stO_b (i := cur) (by omega)
  have bd := stO_b (i := dr) (by omega)
  have ap := stO_ap (i := cur) (j := dr) (by omega) (by omega) i3
  obtain ⟨d, d1, d2⟩ := c_copy6 (vw v (stO dr)) (vw v (stO cur))
  obtain ⟨v8, hv8⟩ : ∃ w, w = spl v (stO dr) 590 d := ⟨_, rfl⟩
  have v8o : ∀ x, ¬ (stO dr ≤ x ∧ x < stO dr + 590) → v8 x = v x := fun x hx => by rw [hv8, q_spo hx]
  have v8i : ∀ x, x < 590 → vw v8 (stO dr) x = vw v (stO cur) x := fun x hx => by rw [hv8, q_vw, q_spi rfl hx]; exact d2 x hx
  obtain ⟨z3, z31, z32, z33⟩ := r_startTrial (upd u 3 0)
  have z3o : ∀ x, x ≠ 3 → ¬ (1702 ≤ x ∧ x < 2198) → z3 x = u x := fun x a1 a2 => by rw [z33 x a2, q_un a1]
  have z3t : ∀ j, j < 496 → z3 (1702 + j) = u (710 + j) := fun j hj => by rw [z32 j hj, q_un (by omega)]
  obtain ⟨n, v7, z5, p0, p1, p2, p3, p4, p5, p6, p7, p8, p9⟩ := p_begin (v := v8) (u := z3) (tg := dr) (by omega) t1 (by rw [v8o _ (by omega)]; exact t2) (by rw [z3o 0 (by omega) (by omega)]; exact t3) (fun i hi => by rw [v8o _ (by omega), z3o _ (by omega) (by omega)]; exact t4 i hi)
  have go := p_all (tg := dr) (by omega) n 0 0 T lpN lpN v7 z5 (by omega) (by decide) (by omega) p3 p4 (h6.same (fun x hx => by rw [q_vw, q_vw, p9 _ (by omega), z3o _ (by omega) (by omega)]) (fun x hx => by rw [← v8i x hx, q_vw, q_vw, p8 _ (by omega)])) p5 p6 p7 (q_lpN _ (by omega)) (q_lpN _ (by omega))
  rw [show 41 - 0 = 41 from rfl] at go
  have cR : ∀ {β : Type} (K : Int32 → bM → Option β), (ck (v8 1) 12 <| nm (v8 1).toNatClampNeg fun i10 => bnd (fX4_read i10 0 v8) K) = bnd (lp fX4_read_L47 (fun _ _ _ => none) lpN 1 (nI 0) v7) K := fun K => by
    rw [v8o 1 (by omega), cd, q_ck (show dr < 12 by omega) (by decide), nI_clamp (by omega), q_nm, p1, if_pos rfl, c_J38]
  unfold bS_2
  rcases go with ⟨cn, w12, y7, b1, b2, b3, b4, b5, b6, b7, b8, b9⟩ | ⟨w12, y7, b1, b2, b5, b6, b8, b9⟩
  · have wo : ∀ x, (x < 7086 ∨ 9902 ≤ x) → ¬ (stO dr ≤ x ∧ x < stO dr + 590) → w12 x = v x := fun x a1 a2 => by rw [b5 x (by omega) a2, p8 x (by omega), v8o x a2]
    have yo : ∀ x, (x = 4 ∨ (9 ≤ x ∧ x < 7160) ∨ 7165 ≤ x) → ¬ (710 ≤ x ∧ x < 1206) → ¬ (1702 ≤ x ∧ x < 2198) → y7 x = u x := fun x a1 a2 a3 => by rw [b6 x (by omega) a2, p9 x (by omega), z3o x (by omega) a3]
    have yt : ∀ j, j < 496 → y7 (1702 + j) = u (710 + j) := fun j hj => by rw [b6 _ (by omega) (by omega), p9 _ (by omega), z3t j hj]
    obtain ⟨w16, hw16⟩ : ∃ w, w = upd w12 7093 0 := ⟨_, rfl⟩
    have w16o : ∀ x, x ≠ 7093 → w16 x = w12 x := fun x hx => by rw [hw16, q_un hx]
    obtain ⟨w21, r0, r1, r2, r3, r4⟩ := c_remember (v := w16) (cur := cur) (hn := hn) (nx := nx) i1 i4 i5 (by rw [w16o _ (by omega), wo _ (by omega) (by omega)]; exact h3) (by rw [w16o _ (by omega), wo _ (by omega) (by omega)]; exact h4)
    have bn := stO_b (i := 2 + nx) (by omega)
    obtain ⟨w23, hw23⟩ : ∃ w, w = upd (upd w21 0 (nI dr)) 1 (nI cur) := ⟨_, rfl⟩
    have w23o : ∀ x, 2 ≤ x → w23 x = w21 x := fun x hx => by rw [hw23, q_un (by omega), q_un (by omega)]
    have w210 : w21 0 = nI cur := by rw [r4 0 (by omega) (by omega) (by omega), w16o 0 (by omega), wo 0 (by omega) (by omega)]; exact cv
    have w211 : w21 1 = nI dr := by rw [r4 1 (by omega) (by omega) (by omega), w16o 1 (by omega), wo 1 (by omega) (by omega)]; exact cd
    have w2v : ∀ x, 2 ≤ x → (x < 7086 ∨ 9902 ≤ x) → x ≠ 1182 → x ≠ 1183 → ¬ (stO dr ≤ x ∧ x < stO dr + 590) → ¬ (stO (2 + nx) ≤ x ∧ x < stO (2 + nx) + 590) → w23 x = v x := fun x a0 a1 a2 a3 a4 a5 => by rw [w23o x a0, r4 x a2 a3 a5, w16o x (by omega), wo x a1 a4]
    obtain ⟨e, q1, q2, q3⟩ := r_toAside (nI cn) (upd y7 0 0)
    have e4 : e 4 = nI hn := by rw [q3 4 (by omega), q_un (by omega), yo 4 (by omega) (by omega) (by omega)]; exact h5
    obtain ⟨z, g0, g1, g2, g3, g4⟩ := r_push i4 e4
    have zo : ∀ x, x ≠ 0 → x ≠ 4 → ¬ (1206 ≤ x ∧ x < 1702) → ¬ (2198 ≤ x ∧ x < 6166) → z x = y7 x := fun x a0 a1 a2 a3 => by rw [g4 x a1 a3, q3 x a2, q_un a0]
    have apn : ∀ i, i < 12 → i ≠ 2 + nx → stO i + 590 ≤ stO (2 + nx) ∨ stO (2 + nx) + 590 ≤ stO i := fun i hi hne => stO_ap hi (by omega) hne
    have apd : ∀ i, i < 12 → i ≠ dr → stO i + 590 ≤ stO dr ∨ stO dr + 590 ≤ stO i := fun i hi hne => stO_ap hi (by omega) hne
    have hblk : ∀ i, 2 ≤ i → i < 12 → i ≠ 2 + nx → ∀ x, x < 590 → vw w23 (stO i) x = vw v (stO i) x := fun i hi1 hi hne x hx => by
      have b1 := stO_b hi
      have := apn i hi hne
      have := apd i hi (by omega)
      exact w2v _ (by omega) (by omega) (by omega) (by omega) (by omega) (by omega)
    refine ⟨w23, z, ⟨nI cn, ?_, ?_⟩, dr, cur, (if 8 < hn + 1 then 8 else hn + 1), (nx + 1) % 8, q_I.mono (T := T + 999 * 41) ⟨⟨i2, i1, Ne.symm i3, by split <;> omega, Nat.mod_lt _ (by decide)⟩, ⟨by rw [hw23, q_un (by omega), pk_us], by rw [hw23, pk_us]⟩, ⟨by rw [w23o _ (by omega)]; exact r3, by rw [w23o _ (by omega)]; exact r2, g1⟩, ?_, ?_, fun s hs => ?_, ⟨0, by decide, ?_, ?_, fun i hi => absurd hi (Nat.not_lt_zero _)⟩, ⟨?_, ?_⟩, ⟨m, o1, ?_, ?_, fun i hi => ?_⟩⟩ (by omega) (by omega)⟩
    · have hd := apn dr (by omega) (by omega)
      have e88 : w23 7088 = nI cn := by rw [w23o _ (by omega), r4 _ (by omega) (by omega) (by omega), w16o _ (by omega)]; exact b7
      unfold fX8_runScript
      rw [cd, q_ck (show dr < 12 by omega) (by decide), nI_clamp (by omega), q_nm, cv, q_ck (show cur < 12 by omega) (by decide), nI_clamp (by omega), q_nm, q_cne (Ne.symm i3), d1, q_bnw, q_nm, ← hv8, cR, b1, q_bnd, c_clr, ← hw16, if_neg (by decide), w16o 0 (by omega), wo 0 (by omega) (by omega), cv, q_ck (show cur < 12 by omega) (by decide), nI_clamp (by omega), q_nm, r0, q_bnw, c_takeDraft (by omega) (by omega) w210 w211, q_bnw, ← hw23, e88]
    · unfold fX9_runScript
      rw [q_nm, z31, q_bnw, p2, q_bnw, r_ctx, b2, q_bnd, q_nm, if_pos (nI_pos' (by omega)), q1, g0, q_bnw]
    · refine b4.same (fun x hx => ?_) (fun x hx => ?_)
      · rw [q_vw, q_vw, zo _ (by omega) (by omega) (by omega) (by omega)]
      · have hd := apn dr (by omega) (by omega)
        rw [q_vw, q_vw, w23o _ (by omega), r4 _ (by omega) (by omega) (by omega), w16o _ (by omega)]
    · refine q_Hi.push (T := T + 999 * 41) (u := e) (v := v) (R := vw u 710) (C := vw v (stO cur)) i4 i5 (fun k hk => ((h7 k hk).mono (by omega) (by omega)).same (fun x hx => ?_) (fun _ _ => rfl)) (h6.mono (by omega) (by omega)) (fun x hx => ?_) (fun i a1 a2 a3 => hblk i a1 (by omega) a3) g2 (fun x hx => ?_)
      · rw [q_vw, q_vw, q3 _ (by omega), q_un (by omega), yo _ (by omega) (by omega) (by omega)]
      · have r1x := r1 x hx
        rw [q_vw, q_vw] at r1x
        rw [q_vw, q_vw, w23o _ (by omega), r1x, w16o _ (by omega), wo _ (by omega) (by omega)]
      · rw [g3 x hx, q2 x hx, q_un (by omega), yt x hx, q_vw]
    · have bs := stO_b (i := 10 + s) (by omega)
      rw [zo (7158 + s) (by omega) (by omega) (by omega) (by omega), yo (7158 + s) (by omega) (by omega) (by omega), w2v (7084 + s) (by omega) (by omega) (by omega) (by omega) (by omega) (by omega)]
      rcases h8 s hs with g | ⟨k1, k2, k3⟩
      · exact Or.inl g
      · exact Or.inr ⟨k1, k2, (k3.mono (by omega) (by omega)).same (fun x hx => by rw [q_vw, q_vw, zo _ (by omega) (by omega) (by omega) (by omega), yo _ (by omega) (by omega) (by omega)]) (hblk _ (by omega) (by omega) (by omega))⟩
    · rw [w23o _ (by omega), r4 _ (by omega) (by omega) (by omega), hw16, pk_us]; rfl
    · rw [g4 0 (by omega) (by omega), q3 0 (by omega), pk_us]; rfl
    · rw [w23o _ (by omega), r4 _ (by omega) (by omega) (by omega), w16o _ (by omega), zo 1 (by omega) (by omega) (by omega) (by omega)]; exact b8
    · rw [w23o _ (by omega), r4 _ (by omega) (by omega) (by omega), w16o _ (by omega), zo 2 (by omega) (by omega) (by omega) (by omega)]; exact b9
    · rw [w2v _ (by omega) (by omega) (by omega) (by omega) (by omega) (by omega)]; exact o2
    · rw [zo 9 (by omega) (by omega) (by omega) (by omega), yo 9 (by omega) (by omega) (by omega)]; exact o3
    · rw [w2v _ (by omega) (by omega) (by omega) (by omega) (by omega) (by omega), zo (7165 + i) (by omega) (by omega) (by omega) (by omega), yo (7165 + i) (by omega) (by omega) (by omega)]; exact o4 i hi
  · have wo : ∀ x, (x < 7086 ∨ 9902 ≤ x) → ¬ (stO dr ≤ x ∧ x < stO dr + 590) → w12 x = v x := fun x a1 a2 => by rw [b5 x (by omega) a2, p8 x (by omega), v8o x a2]
    have yo : ∀ x, (x = 4 ∨ (9 ≤ x ∧ x < 7160) ∨ 7165 ≤ x) → ¬ (710 ≤ x ∧ x < 1206) → ¬ (1702 ≤ x ∧ x < 2198) → y7 x = u x := fun x a1 a2 a3 => by rw [b6 x (by omega) a2, p9 x (by omega), z3o x (by omega) a3]
    have yt : ∀ j, j < 496 → y7 (1702 + j) = u (710 + j) := fun j hj => by rw [b6 _ (by omega) (by omega), p9 _ (by omega), z3t j hj]
    obtain ⟨z, g0, g1, g2⟩ := r_putBack (-1) (upd y7 0 0)
    refine ⟨upd w12 7093 0, z, ⟨-1, ?_, ?_⟩, cur, dr, hn, nx, q_I.mono (T := T) (h.failed (fun x a1 a2 => by rw [q_un (by omega)]; exact wo x a1 a2) pk_us (fun x a1 a2 => ?_) (by rw [g2 0 (by omega), pk_us]) (by rw [q_un (by omega), g2 1 (by omega), q_un (by omega)]; exact b8) (by rw [q_un (by omega), g2 2 (by omega), q_un (by omega)]; exact b9)) (by omega) (by omega)⟩
    · unfold fX8_runScript
      rw [cd, q_ck (show dr < 12 by omega) (by decide), nI_clamp (by omega), q_nm, cv, q_ck (show cur < 12 by omega) (by decide), nI_clamp (by omega), q_nm, q_cne (Ne.symm i3), d1, q_bnw, q_nm, ← hv8, cR, b1, q_bnd, c_clr, if_pos rfl]
    · unfold fX9_runScript
      rw [q_nm, z31, q_bnw, p2, q_bnw, r_ctx, b2, q_bnd, q_nm, if_neg (by decide), g0, q_bnd]
    · by_cases hx : 710 ≤ x ∧ x < 1206
      · rw [show x = 710 + (x - 710) by omega, g1 _ (by omega), q_un (by omega), yt _ (by omega)]
      · rw [g2 x hx, q_un (by omega), yo x a1 hx (by omega)]
