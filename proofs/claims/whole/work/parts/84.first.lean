/-! ===== layer 2: the first setup ===== -/
def q_u0 : bM := fun x => if x = 0 then 180 else if x < 10 then 0 else if x < 190 then nI ((sTx.getD 26 []).getD (x - 10) 0) else 0
set_option maxRecDepth 100000 in
theorem q_tst : (bnw (fX9_startText q_u0) fun z => fX9_setupText z).map (fun z => z.1) = some 1 := by decide +kernel
theorem q_s26 : sTx.getD 26 [] = sTx.getD 0 [] := by decide +kernel
theorem q_s180 : (sTx.getD 0 []).length = 180 := by decide +kernel
theorem q_sl (j : Nat) (hj : sTx.getD j [] = sTx.getD 0 []) : sLen j = nI 180 := by
  unfold sLen
  rw [hj, q_s180]
theorem q_sa {j i : Nat} (hj : sTx.getD j [] = sTx.getD 0 []) (hi : i < 180) : sAt j (nI i) = nI ((sTx.getD 0 []).getD i 0) := by
  unfold sAt
  rw [hj, nI_clamp (by omega)]
theorem c_init (v : bM) (e0 : v 0 = nI 0) (e7 : v 7093 = nI 0) : ∃ y, fX8_init v = (bnd (fX4_read 0 1 y) fun r8 w7 => bnw (fX7_clear (vw w7 7093)) fun w10 => nm (spl w7 7093 2806 w10) fun v11 => some v11).map (fun z => z) ∧ y 7093 = nI 180 ∧ (∀ i, i < 180 → y (7096 + i) = nI ((sTx.getD 0 []).getD i 0)) ∧ ∀ x, x ≠ 7093 → ¬ (7096 ≤ x ∧ x < 7276) → y x = v x := by
  have key := q_for (F := fX8_init_L102) (z := fun _ _ => none) (n := 180) (Sp := fun i K => ∀ d : bM, d 7093 = nI i → (∀ j, j < i → d (7096 + j) = nI ((sTx.getD 0 []).getD j 0)) → (∀ x, x ≠ 7093 → ¬ (7096 ≤ x ∧ x < 7276) → d x = v x) → ∃ y, K (nI i) d = (bnd (fX4_read 0 1 y) fun r8 w7 => bnw (fX7_clear (vw w7 7093)) fun w10 => nm (spl w7 7093 2806 w10) fun v11 => some v11).map (fun z => z) ∧ y 7093 = nI 180 ∧ (∀ i, i < 180 → y (7096 + i) = nI ((sTx.getD 0 []).getD i 0)) ∧ ∀ x, x ≠ 7093 → ¬ (7096 ≤ x ∧ x < 7276) → y x = v x) (fun K d h0 h1 h2 => by
    refine ⟨d, ?_, h0, h1, h2⟩
    unfold fX8_init_L102
    rw [q_sl 0 rfl, if_pos (Int32.le_refl _), h2 0 (by decide) (by decide), e0, q_ck (by decide) (by decide), nI_clamp (by decide), q_nm]
    cases (bnd (fX4_read 0 1 d) fun r8 w7 => bnw (fX7_clear (vw w7 7093)) fun w10 => nm (spl w7 7093 2806 w10) fun v11 => some v11) <;> rfl) (fun i K hi hK d h0 h1 h2 => by
    obtain ⟨y, g1, g2⟩ := hK (upd (upd d (7096 + i) (nI ((sTx.getD 0 []).getD i 0))) 7093 (nI (i + 1))) pk_us (fun j hj => by
      by_cases e : j = i
      · rw [e, q_un (by omega), pk_us]
      · rw [q_un (by omega), q_un (by omega)]
        exact h1 j (by omega)) (fun x a1 a2 => by rw [q_un a1, q_un (by omega)]; exact h2 x a1 a2)
    refine ⟨y, ?_, g2⟩
    unfold fX8_init_L102
    rw [q_sl 0 rfl, if_neg (nI_ge hi (by decide)), q_ck (by rw [q_s180]; exact hi) (by rw [q_s180]; decide), q_sa rfl hi, c_app h0 (by omega), q_nm, q_add1]
    exact g1) lpN 0 (Nat.zero_le _) (q_lpN _ (by decide)) v e7 (fun j hj => absurd hj (Nat.not_lt_zero _)) (fun _ _ _ => rfl)
  unfold fX8_init
  exact key
theorem r_init (u : bM) : ∃ y, fX9_init u = (bnd (fX9_loadSetup y) fun r8 w7 => some w7) ∧ y 0 = nI 180 ∧ (∀ i, i < 180 → y (10 + i) = nI ((sTx.getD 0 []).getD i 0)) ∧ ∀ x, x ≠ 0 → ¬ (10 ≤ x ∧ x < 190) → y x = u x := by
  have key := q_for (F := fX9_init_L90) (z := fun _ _ => none) (n := 180) (Sp := fun i K => ∀ d : bM, (∀ j, j < i → d (10 + j) = nI ((sTx.getD 0 []).getD j 0)) → (∀ x, x ≠ 0 → ¬ (10 ≤ x ∧ x < 190) → d x = u x) → ∃ y, K (nI i) d = (bnd (fX9_loadSetup y) fun r8 w7 => some w7) ∧ y 0 = nI 180 ∧ (∀ i, i < 180 → y (10 + i) = nI ((sTx.getD 0 []).getD i 0)) ∧ ∀ x, x ≠ 0 → ¬ (10 ≤ x ∧ x < 190) → y x = u x) (fun K d h1 h2 => by
    refine ⟨upd d 0 (nI 180), ?_, pk_us, fun i hi => by rw [q_un (by omega)]; exact h1 i hi, fun x a1 a2 => by rw [q_un a1]; exact h2 x a1 a2⟩
    unfold fX9_init_L90
    rw [q_sl 26 q_s26, if_pos (Int32.le_refl _), q_nm, q_nm]) (fun i K hi hK d h1 h2 => by
    obtain ⟨y, g1, g2⟩ := hK (upd d (10 + i) (nI ((sTx.getD 0 []).getD i 0))) (fun j hj => by
      by_cases e : j = i
      · rw [e, pk_us]
      · rw [q_un (by omega)]
        exact h1 j (by omega)) (fun x a1 a2 => by rw [q_un (by omega)]; exact h2 x a1 a2)
    refine ⟨y, ?_, g2⟩
    unfold fX9_init_L90
    rw [q_sl 26 q_s26, if_neg (nI_ge hi (by decide)), q_ck (by rw [q_s26, q_s180]; exact hi) (by rw [q_s26, q_s180]; decide), q_sa q_s26 hi, q_nm, q_ck (show i < 700 by omega) (by decide), nI_clamp (by omega), q_nm, q_nm, q_add1]
    exact g1) lpN 0 (Nat.zero_le _) (q_lpN _ (by decide)) u (fun j hj => absurd hj (Nat.not_lt_zero _)) (fun _ _ _ => rfl)
  unfold fX9_init
  exact key
theorem q_init {v0 u0 : bM} (h8 : v0 0 = 0 ∧ v0 1 = 1 ∧ v0 7087 = -1 ∧ v0 7089 = -1 ∧ ∀ x, x < 9983 → x ≠ 1 → x ≠ 7087 → x ≠ 7089 → v0 x = 0) (h9 : u0 2 = -1 ∧ ∀ x, x < 7245 → x ≠ 2 → u0 x = 0) : ∃ w0 z0, fX8_init v0 = some w0 ∧ fX9_init u0 = some z0 ∧ q_J 50000 w0 z0 := by
  obtain ⟨a0, a1, a2, a3, a4⟩ := h8
  obtain ⟨b0, b1⟩ := h9
  obtain ⟨v, c0, c1, c2, c3⟩ := c_init v0 a0 (a4 7093 (by decide) (by decide) (by decide) (by decide))
  obtain ⟨u, r0, r1, r2, r3⟩ := r_init u0
  have vz : ∀ x, x < 9983 → x ≠ 1 → x ≠ 7087 → x ≠ 7089 → x ≠ 7093 → ¬ (7096 ≤ x ∧ x < 7276) → v x = 0 := fun x g1 g2 g3 g4 g5 g6 => (c3 x g5 g6).trans (a4 x g1 g2 g3 g4)
  have uz : ∀ x, x < 7245 → x ≠ 2 → x ≠ 0 → ¬ (10 ≤ x ∧ x < 190) → u x = 0 := fun x g1 g2 g3 g4 => (r3 x g3 g4).trans (b1 x g1 g2)
  have bd := stO_b (i := 0) (by decide)
  obtain ⟨z3, z31, z32, z33⟩ := r_startTrial (upd u 3 0)
  have z3o : ∀ x, x ≠ 3 → ¬ (1702 ≤ x ∧ x < 2198) → z3 x = u x := fun x a1 a2 => by rw [z33 x a2, q_un a1]
  obtain ⟨z4, z40, z41, z42⟩ := r_zero z3
  have z4o : ∀ x, x ≠ 3 → ¬ (710 ≤ x ∧ x < 1206) → ¬ (1702 ≤ x ∧ x < 2198) → z4 x = u x := fun x a1 a2 a3 => by rw [z42 x a2, z3o x a1 a3]
  obtain ⟨n, v7, z5, p0, p1, p2, p3, p4, p5, p6, p7, p8, p9⟩ := p_begin (v := v) (u := z4) (tg := 0) (by decide) (show 180 ≤ 700 by decide) c1 (by rw [z4o 0 (by omega) (by omega) (by omega)]; exact r1) (fun i hi => by rw [z4o _ (by omega) (by omega) (by omega), r2 i hi]; exact c2 i hi)
  have go := p_setup (tg := 0) (by decide) (T := 0) (by omega) p3 p4 p5 p6 p7 (fun x hx => by rw [p9 _ (by omega)]; exact z41 x hx)
  -- beside the same text with nothing behind it
  have suc : ∃ w, fX4_read 0 1 v = some (1, w) := by
    obtain ⟨n, v7, z5, p0, p1, p2, p3, p4, p5, p6, p7, p8, p9⟩ := p_begin (v := v) (u := q_u0) (tg := 0) (by decide) (show 180 ≤ 700 by decide) c1 rfl (fun i hi => by
      rw [c2 i hi]
      unfold q_u0
      rw [if_neg (by omega), if_neg (by omega), if_pos (by omega), q_s26, show 10 + i - 10 = i by omega])
    have go := p_setup (tg := 0) (by decide) (T := 0) (by omega) p3 p4 p5 p6 p7 (fun x hx => by
      rw [p9 _ (by omega)]
      unfold q_u0
      rw [if_neg (by omega), if_neg (by omega), if_neg (by omega)])
    rcases go with ⟨w12, y7, b1, _⟩ | ⟨w12, y7, _, b2, _⟩
    · exact ⟨w12, by rw [p1, if_neg (by decide), b1]⟩
    · have t := q_tst
      rw [p2, q_bnw, b2] at t
      exact absurd (Option.some.inj t : (0 : Int32) = 1) (by decide)
  obtain ⟨ws, hs⟩ := suc
  have rR : fX9_loadSetup u = bnd (fX9_setupText z5) fun r11 w10 => nm (upd w10 0 0) fun v12 => (if r11 = 0 then (bnd (fX9_putBack (-1) v12) fun r16 w15 => some (r16, w15)) else (nm (upd v12 4 0) fun v17 =>  nm (upd v17 (7158 + (0 : Int32).toNatClampNeg) 0) fun v18 =>  nm (upd v18 (7158 + (1 : Int32).toNatClampNeg) 0) fun v19 => some (v19 (710 + (7 : Int32).toNatClampNeg), v19))) := by
    unfold fX9_loadSetup
    rw [q_nm, z31, q_bnw, z40]
    unfold q_ls
    rw [p2, q_bnw]
  rcases go with ⟨w12, y7, b1, b2, b4, b5, b6, b8, b9⟩ | ⟨w12, y7, b1, b2, b5, b6, b8, b9⟩
  · have wo : ∀ x, (x < 7086 ∨ 9902 ≤ x) → ¬ (stO 0 ≤ x ∧ x < stO 0 + 590) → w12 x = v x := fun x a1 a2 => by rw [b5 x (by omega) a2, p8 x (by omega)]
    have yo : ∀ x, (x = 4 ∨ (9 ≤ x ∧ x < 7160) ∨ 7165 ≤ x) → ¬ (710 ≤ x ∧ x < 1206) → ¬ (1702 ≤ x ∧ x < 2198) → y7 x = u x := fun x a1 a2 a3 => by rw [b6 x (by omega) a2, p9 x (by omega), z4o x (by omega) a2 a3]
    obtain ⟨z, hz⟩ : ∃ z, z = upd (upd (upd (upd y7 0 0) 4 0) 7158 0) 7159 0 := ⟨_, rfl⟩
    have zo : ∀ x, x ≠ 0 → x ≠ 4 → x ≠ 7158 → x ≠ 7159 → z x = y7 x := fun x a0 a1 a2 a3 => by rw [hz, q_un a3, q_un a2, q_un a1, q_un a0]
    refine ⟨upd w12 7093 0, z, ?_, ?_, 0, 1, 0, 0, q_I.mono (T := 0 + 999 * 41) ⟨⟨by decide, by decide, by decide, by decide, by decide⟩, ⟨?_, ?_⟩, ⟨?_, ?_, ?_⟩, ?_, fun k hk => absurd hk (Nat.not_lt_zero _), fun s hs => Or.inl ⟨?_, ?_⟩, ⟨0, by decide, pk_us, ?_, fun i hi => absurd hi (Nat.not_lt_zero _)⟩, ⟨?_, ?_⟩, ⟨0, by decide, ?_, ?_, fun i hi => absurd hi (Nat.not_lt_zero _)⟩⟩ (by decide) (by decide)⟩
    · rw [c0, p1, if_neg (by decide), b1, q_bnd, c_clr]
      rfl
    · rw [r0, rR, b2, q_bnd, r_ends _ y7 1 (by decide), q_bnd, hz]
    · rw [q_un (by omega), wo 0 (by omega) (by omega), vz 0 (by omega) (by omega) (by omega) (by omega) (by omega) (by omega)]; rfl
    · rw [q_un (by omega), wo 1 (by omega) (by omega), c3 1 (by omega) (by omega)]; exact a1
    · rw [q_un (by omega), wo 1182 (by omega) (by omega), vz 1182 (by omega) (by omega) (by omega) (by omega) (by omega) (by omega)]; rfl
    · rw [q_un (by omega), wo 1183 (by omega) (by omega), vz 1183 (by omega) (by omega) (by omega) (by omega) (by omega) (by omega)]; rfl
    · rw [hz, q_un (by decide), q_un (by decide), pk_us]; rfl
    · refine b4.same (fun x hx => ?_) (fun x hx => ?_)
      · rw [q_vw, q_vw, zo _ (by omega) (by omega) (by omega) (by omega)]
      · rw [q_vw, q_vw, q_un (by omega)]
    · rw [q_un (by omega), wo _ (by omega) (by omega), vz _ (by omega) (by omega) (by omega) (by omega) (by omega) (by omega)]
    · have : s = 0 ∨ s = 1 := by omega
      rcases this with e | e
      · rw [e, hz, q_un (by decide), pk_us]
      · rw [e, hz, pk_us]
    · rw [hz, q_un (by decide), q_un (by decide), q_un (by decide), pk_us]; rfl
    · rw [q_un (by decide), zo _ (by omega) (by omega) (by omega) (by omega)]; exact b8
    · rw [q_un (by decide), zo _ (by omega) (by omega) (by omega) (by omega)]; exact b9
    · rw [q_un (by omega), wo _ (by omega) (by omega), vz _ (by omega) (by omega) (by omega) (by omega) (by omega) (by omega)]; rfl
    · rw [zo _ (by omega) (by omega) (by omega) (by omega), yo _ (by omega) (by omega) (by omega), uz _ (by omega) (by omega) (by omega) (by omega)]; rfl
  · rw [p1, if_neg (by decide), b1] at hs
    exact absurd (Prod.mk.inj (Option.some.inj hs)).1 (by decide)
