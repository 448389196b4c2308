/-! ===== layer 2: setups from their begin to their end ===== -/
def q_ls (e : bM) : Option (Int32 × bM) := bnw (fX9_startText e) fun w8 => bnd (fX9_setupText w8) fun r11 w10 => nm (upd w10 0 0) fun v12 => (if r11 = 0 then (bnd (fX9_putBack (-1) v12) fun r16 w15 => some (r16, w15)) else (nm (upd v12 4 0) fun v17 =>  nm (upd v17 (7158 + (0 : Int32).toNatClampNeg) 0) fun v18 =>  nm (upd v18 (7158 + (1 : Int32).toNatClampNeg) 0) fun v19 => some (v19 (710 + (7 : Int32).toNatClampNeg), v19)))
theorem r_zero (y : bM) : ∃ e, lp fX9_loadSetup_L11 (fun _ _ => none) lpN 0 y = q_ls e ∧ (∀ j, j < 496 → e (710 + j) = 0) ∧ ∀ x, ¬ (710 ≤ x ∧ x < 1206) → e x = y x := by
  exact q_for (F := fX9_loadSetup_L11) (z := fun _ _ => none) (n := 496) (Sp := fun i K => ∀ d : bM, (∀ j, j < i → d (710 + j) = 0) → (∀ x, ¬ (710 ≤ x ∧ x < 1206) → d x = y x) → ∃ e, K (nI i) d = q_ls e ∧ (∀ j, j < 496 → e (710 + j) = 0) ∧ ∀ x, ¬ (710 ≤ x ∧ x < 1206) → e x = y x) (fun K d h1 h2 => by
    refine ⟨d, ?_, h1, h2⟩
    unfold fX9_loadSetup_L11 q_ls
    rw [q_l496, if_pos (Int32.le_refl _)]) (fun i K hi hK d h1 h2 => by
    obtain ⟨e, g1, g2⟩ := hK (upd d (710 + i) 0) (fun j hj => by
      by_cases e : j = i
      · rw [e, pk_us]
      · rw [q_un (by omega)]
        exact h1 j (by omega)) (fun x hx => by rw [q_un (by omega)]; exact h2 x hx)
    refine ⟨e, ?_, g2⟩
    unfold fX9_loadSetup_L11
    rw [q_l496, if_neg (nI_ge hi (by decide)), q_ck hi (by decide), nI_clamp (by omega), q_nm, q_nm, q_add1]
    exact g1) lpN 0 (Nat.zero_le _) (q_lpN _ (by decide)) y (fun j hj => absurd hj (Nat.not_lt_zero _)) (fun _ _ => rfl)
theorem c_unsave {tg : Nat} (ht : tg < 12) {y : bM} (y0 : y 0 = nI tg) : ∃ w, lp fX8_loadSetup_L42 (fun _ _ => none) lpN 0 y = some (y (stO tg + 277), w) ∧ (∀ s, s < 2 → w (7084 + s) = 0) ∧ ∀ x, ¬ (7084 ≤ x ∧ x < 7086) → w x = y x := by
  have b := stO_b ht
  exact q_for (F := fX8_loadSetup_L42) (z := fun _ _ => none) (n := 2) (Sp := fun i K => ∀ d : bM, (∀ s, s < i → d (7084 + s) = 0) → (∀ x, ¬ (7084 ≤ x ∧ x < 7086) → d x = y x) → ∃ w, K (nI i) d = some (y (stO tg + 277), w) ∧ (∀ s, s < 2 → w (7084 + s) = 0) ∧ ∀ x, ¬ (7084 ≤ x ∧ x < 7086) → w x = y x) (fun K d h1 h2 => by
    refine ⟨d, ?_, h1, h2⟩
    unfold fX8_loadSetup_L42
    rw [q_l2, if_pos (Int32.le_refl _), h2 0 (by omega), y0, q_ck ht (by decide), nI_clamp (by omega), q_nm, h2 _ (by omega)]) (fun i K hi hK d h1 h2 => by
    obtain ⟨e, g1, g2⟩ := hK (upd d (7084 + i) 0) (fun j hj => by
      by_cases e : j = i
      · rw [e, pk_us]
      · rw [q_un (by omega)]
        exact h1 j (by omega)) (fun x hx => by rw [q_un (by omega)]; exact h2 x hx)
    refine ⟨e, ?_, g2⟩
    unfold fX8_loadSetup_L42
    rw [q_l2, if_neg (nI_ge hi (by decide)), q_ck hi (by decide), nI_clamp (by omega), q_nm, q_nm, q_add1]
    exact g1) lpN 0 (Nat.zero_le _) (q_lpN _ (by decide)) y (fun j hj => absurd hj (Nat.not_lt_zero _)) (fun _ _ => rfl)
theorem r_ends (w y : bM) (r : Int32) (hr : ¬ r = 0) : (nm (upd w 0 0) fun v12 => (if r = 0 then (bnd (fX9_putBack (-1) v12) fun r16 w15 => some (r16, w15)) else (nm (upd v12 4 0) fun v17 =>  nm (upd v17 (7158 + (0 : Int32).toNatClampNeg) 0) fun v18 =>  nm (upd v18 (7158 + (1 : Int32).toNatClampNeg) 0) fun v19 => some (v19 (710 + (7 : Int32).toNatClampNeg), v19)))) = some (w 717, upd (upd (upd (upd w 0 0) 4 0) 7158 0) 7159 0) := by
  rw [q_nm, if_neg hr, q_nm, q_nm, q_nm, show (7158 + (0 : Int32).toNatClampNeg) = 7158 from rfl, show (7158 + (1 : Int32).toNatClampNeg) = 7159 from rfl, show (710 + (7 : Int32).toNatClampNeg) = 717 from rfl]
  simp (disch := decide) only [pk_un]
theorem K_1 {T cur dr hn nx : Nat} {v u : bM} (P : Nat → Int32) (h : q_I T cur dr hn nx v u) (hT : T + 50000 ≤ 100000000) : ∃ w z, bS_1 P v u w z ∧ q_J (T + 50000) w z := by
  obtain ⟨⟨i1, i2, i3, i4, i5⟩, ⟨cv, cd⟩, ⟨h3, h4, h5⟩, h6, h7, h8, ⟨L, t1, t2, t3, t4⟩, ⟨e1, e2⟩, ⟨m, o1, o2, o3, o4⟩⟩ := id h
  have b := stO_b (i := cur) (by omega)
  have bd := stO_b (i := dr) (by omega)
  have ap := stO_ap (i := cur) (j := dr) (by omega) (by omega) i3
  obtain ⟨z3, z31, z32, z33⟩ := r_startTrial (upd u 3 0)
  have z3o : ∀ x, x ≠ 3 → ¬ (1702 ≤ x ∧ x < 2198) → z3 x = u x := fun x a1 a2 => by rw [z33 x a2, q_un a1]
  have z3t : ∀ j, j < 496 → z3 (1702 + j) = u (710 + j) := fun j hj => by rw [z32 j hj, q_un (by omega)]
  obtain ⟨z4, z40, z41, z42⟩ := r_zero z3
  have z4o : ∀ x, x ≠ 3 → ¬ (710 ≤ x ∧ x < 1206) → ¬ (1702 ≤ x ∧ x < 2198) → z4 x = u x := fun x a1 a2 a3 => by rw [z42 x a2, z3o x a1 a3]
  obtain ⟨n, v7, z5, p0, p1, p2, p3, p4, p5, p6, p7, p8, p9⟩ := p_begin (v := v) (u := z4) (tg := dr) (by omega) t1 t2 (by rw [z4o 0 (by omega) (by omega) (by omega)]; exact t3) (fun i hi => by rw [z4o _ (by omega) (by omega) (by omega)]; exact t4 i hi)
  have go := p_setup (tg := dr) (by omega) (T := 0) (by omega) p3 p4 p5 p6 p7 (fun x hx => by rw [p9 _ (by omega)]; exact z41 x hx)
  have cR : ∀ {β : Type} (K : Int32 → bM → Option β), (ck (v 1) 12 <| nm (v 1).toNatClampNeg fun i10 => bnd (fX4_read i10 1 v) K) = bnd (bnd (fX4_readHead v7) fun r29 w28 => (if r29 = 0 then (fX4_read_J43 0 w28) else (fX4_read_J38 w28))) K := fun K => by
    rw [cd, q_ck (show dr < 12 by omega) (by decide), nI_clamp (by omega), q_nm, p1, if_neg (by decide)]
  have rR : fX9_loadSetup u = bnd (fX9_setupText z5) fun r11 w10 => nm (upd w10 0 0) fun v12 => (if r11 = 0 then (bnd (fX9_putBack (-1) v12) fun r16 w15 => some (r16, w15)) else (nm (upd v12 4 0) fun v17 =>  nm (upd v17 (7158 + (0 : Int32).toNatClampNeg) 0) fun v18 =>  nm (upd v18 (7158 + (1 : Int32).toNatClampNeg) 0) fun v19 => some (v19 (710 + (7 : Int32).toNatClampNeg), v19))) := by
    unfold fX9_loadSetup
    rw [q_nm, z31, q_bnw, z40]
    unfold q_ls
    rw [p2, q_bnw]
  unfold bS_1
  rw [rR]
  rcases go with ⟨w12, y7, b1, b2, b4, b5, b6, b8, b9⟩ | ⟨w12, y7, b1, b2, b5, b6, b8, b9⟩
  · have wo : ∀ x, (x < 7086 ∨ 9902 ≤ x) → ¬ (stO dr ≤ x ∧ x < stO dr + 590) → w12 x = v x := fun x a1 a2 => by rw [b5 x (by omega) a2, p8 x (by omega)]
    have yo : ∀ x, (x = 4 ∨ (9 ≤ x ∧ x < 7160) ∨ 7165 ≤ x) → ¬ (710 ≤ x ∧ x < 1206) → ¬ (1702 ≤ x ∧ x < 2198) → y7 x = u x := fun x a1 a2 a3 => by rw [b6 x (by omega) a2, p9 x (by omega), z4o x (by omega) a2 a3]
    obtain ⟨w13, hw13⟩ : ∃ w, w = upd (upd (upd (upd w12 7093 0) 0 (nI dr)) 1 (nI cur)) 1182 0 := ⟨_, rfl⟩
    have w13o : ∀ x, x ≠ 0 → x ≠ 1 → x ≠ 1182 → x ≠ 7093 → w13 x = w12 x := fun x a0 a1 a2 a3 => by rw [hw13, q_un a2, q_un a1, q_un a0, q_un a3]
    obtain ⟨w, g1, g2, g3⟩ := c_unsave (tg := dr) (by omega) (y := w13) (by rw [hw13, q_un (by decide), q_un (by decide), pk_us])
    have e277 : w13 (stO dr + 277) = y7 717 := by
      obtain ⟨nf, nb, nt, no, Ls, hS⟩ := b4
      have q1 := hS.cnt
      have q2 := hS.rnt
      rw [q_vw] at q1 q2
      rw [w13o _ (by omega) (by omega) (by omega) (by omega), q1, ← q2]
    obtain ⟨z, hz⟩ : ∃ z, z = upd (upd (upd (upd y7 0 0) 4 0) 7158 0) 7159 0 := ⟨_, rfl⟩
    have zo : ∀ x, x ≠ 0 → x ≠ 4 → x ≠ 7158 → x ≠ 7159 → z x = y7 x := fun x a0 a1 a2 a3 => by rw [hz, q_un a3, q_un a2, q_un a1, q_un a0]
    refine ⟨w, z, ⟨y7 717, ?_, ?_⟩, dr, cur, 0, nx, q_I.mono (T := 0 + 999 * 41) ⟨⟨i2, i1, Ne.symm i3, by omega, i5⟩, ⟨?_, ?_⟩, ⟨?_, ?_, ?_⟩, ?_, fun k hk => absurd hk (Nat.not_lt_zero _), fun s hs => Or.inl ⟨g2 s hs, ?_⟩, ⟨0, by decide, ?_, ?_, fun i hi => absurd hi (Nat.not_lt_zero _)⟩, ⟨?_, ?_⟩, ⟨m, o1, ?_, ?_, fun i hi => ?_⟩⟩ (by omega) (by omega)⟩
    · unfold fX8_loadSetup
      rw [cR, b1, q_bnd, c_clr, if_neg (by decide), c_takeDraft (a := cur) (b := dr) (by omega) (by omega) (by rw [q_un (by omega), wo 0 (by omega) (by omega)]; exact cv) (by rw [q_un (by omega), wo 1 (by omega) (by omega)]; exact cd), q_bnw, show fX3_forget (upd (upd (upd w12 7093 0) 0 (nI dr)) 1 (nI cur)) = some w13 from by rw [hw13]; rfl, q_bnw, g1, e277]
    · rw [b2, q_bnd, r_ends _ y7 1 (by decide), hz]
    · rw [g3 0 (by omega), hw13, q_un (by decide), q_un (by decide), pk_us]
    · rw [g3 1 (by omega), hw13, q_un (by decide), pk_us]
    · rw [g3 _ (by omega), hw13, pk_us]; rfl
    · rw [g3 _ (by omega), w13o _ (by omega) (by omega) (by omega) (by omega), wo _ (by omega) (by omega)]; exact h4
    · rw [hz, q_un (by decide), q_un (by decide), pk_us]; rfl
    · refine b4.same (fun x hx => ?_) (fun x hx => ?_)
      · rw [q_vw, q_vw, zo _ (by omega) (by omega) (by omega) (by omega)]
      · rw [q_vw, q_vw, g3 _ (by omega), w13o _ (by omega) (by omega) (by omega) (by omega)]
    · have : s = 0 ∨ s = 1 := by omega
      rcases this with e | e
      · rw [e, hz, q_un (by decide), pk_us]
      · rw [e, hz, pk_us]
    · rw [g3 _ (by omega), hw13, q_un (by decide), q_un (by decide), q_un (by decide), pk_us]; rfl
    · rw [hz, q_un (by decide), q_un (by decide), q_un (by decide), pk_us]; rfl
    · rw [g3 _ (by omega), w13o _ (by omega) (by omega) (by omega) (by omega), zo _ (by omega) (by omega) (by omega) (by omega)]; exact b8
    · rw [g3 _ (by omega), w13o _ (by omega) (by omega) (by omega) (by omega), zo _ (by omega) (by omega) (by omega) (by omega)]; exact b9
    · rw [g3 _ (by omega), w13o _ (by omega) (by omega) (by omega) (by omega), wo _ (by omega) (by omega)]; exact o2
    · rw [zo _ (by omega) (by omega) (by omega) (by omega), yo _ (by omega) (by omega) (by omega)]; exact o3
    · rw [g3 _ (by omega), w13o _ (by omega) (by omega) (by omega) (by omega), wo _ (by omega) (by omega), zo _ (by omega) (by omega) (by omega) (by omega), yo _ (by omega) (by omega) (by omega)]; exact o4 i hi
  · have wo : ∀ x, (x < 7086 ∨ 9902 ≤ x) → ¬ (stO dr ≤ x ∧ x < stO dr + 590) → w12 x = v x := fun x a1 a2 => by rw [b5 x (by omega) a2, p8 x (by omega)]
    have yo : ∀ x, (x = 4 ∨ (9 ≤ x ∧ x < 7160) ∨ 7165 ≤ x) → ¬ (710 ≤ x ∧ x < 1206) → ¬ (1702 ≤ x ∧ x < 2198) → y7 x = u x := fun x a1 a2 a3 => by rw [b6 x (by omega) a2, p9 x (by omega), z4o x (by omega) a2 a3]
    have yt : ∀ j, j < 496 → y7 (1702 + j) = u (710 + j) := fun j hj => by rw [b6 _ (by omega) (by omega), p9 _ (by omega), z42 _ (by omega), z3t j hj]
    obtain ⟨z, g0, g1, g2⟩ := r_putBack (-1) (upd y7 0 0)
    refine ⟨upd w12 7093 0, z, ⟨-1, ?_, ?_⟩, cur, dr, hn, nx, q_I.mono (T := T) (h.failed (fun x a1 a2 => by rw [q_un (by omega)]; exact wo x a1 a2) pk_us (fun x a1 a2 => ?_) (by rw [g2 0 (by omega), pk_us]) (by rw [q_un (by omega), g2 1 (by omega), q_un (by omega)]; exact b8) (by rw [q_un (by omega), g2 2 (by omega), q_un (by omega)]; exact b9)) (by omega) (by omega)⟩
    · unfold fX8_loadSetup
      rw [cR, b1, q_bnd, c_clr, if_pos rfl]
    · rw [b2, q_bnd, q_nm, if_pos rfl, g0, q_bnd]
    · by_cases hx : 710 ≤ x ∧ x < 1206
      · rw [show x = 710 + (x - 710) by omega, g1 _ (by omega), q_un (by omega), yt _ (by omega)]
      · rw [g2 x hx, q_un (by omega), yo x a1 hx (by omega)]
