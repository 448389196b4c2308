/-! ===== layer 2: breads ===== -/
section
variable {T nf nb nt no : Nat} {Ls : Nat → List (Nat × Nat)} {r c u : bM}
theorem qmG_lt6 {k : Nat} (h1 : 1 ≤ k) (h2 : k < 1000000) : qmG 6 k < 6 := (qmG_spec 6 k h1 h2).1
theorem qdg_div (k i : Nat) : k / 10 ^ i % 10 = qdg k i := rfl
theorem q_div10 (k i : Nat) : k / 10 ^ i / 10 = k / 10 ^ (i + 1) := by rw [Nat.div_div_eq_div_mul, Nat.pow_succ]
/-- the class' block of breads (73 numbers) -/
theorem c_create {v : bM} {pr : Int32} {mi k : Nat} (hn : nb < 6) (en : v 0 = nI nb) (h1 : 1 ≤ k) (h2 : k < 1000000) : ∃ w, fX1_create pr (nI mi) (nI k) v = some (nI nb, w) ∧ w (1 + nb) = pr ∧ w (7 + nb) = nI mi ∧ w (25 + nb) = 0 ∧ w (31 + nb) = 0 ∧ w (19 + nb) = nI (qmG 6 k) ∧ (∀ f, f < 6 → w (37 + 6 * nb + f) = nI (qdg k f)) ∧ w 0 = nI (nb + 1) ∧ ∀ x, x ≠ 0 ∧ x ≠ 1 + nb ∧ x ≠ 7 + nb ∧ x ≠ 25 + nb ∧ x ≠ 31 + nb ∧ x ≠ 19 + nb ∧ ¬ (37 + 6 * nb ≤ x ∧ x < 43 + 6 * nb) → w x = v x := by
  obtain ⟨m1, m2, m3⟩ := qmG_spec 6 k h1 h2
  have key := q_for (F := fX1_create_L52 (nI nb)) (z := fun _ _ _ => none) (n := 6) (Sp := fun i K => ∀ d : bM, d 0 = nI nb → d (19 + nb) = (if qmG 6 k < i then nI (qmG 6 k) else -1) → (∀ f, f < i → d (37 + 6 * nb + f) = nI (qdg k f)) → ∃ w, K (nI (k / 10 ^ i)) (nI i) d = some (nI nb, w) ∧ w 0 = nI (nb + 1) ∧ w (19 + nb) = nI (qmG 6 k) ∧ (∀ f, f < 6 → w (37 + 6 * nb + f) = nI (qdg k f)) ∧ ∀ x, x ≠ 0 ∧ x ≠ 19 + nb ∧ ¬ (37 + 6 * nb ≤ x ∧ x < 43 + 6 * nb) → w x = d x) (fun K d d0 d1 d2 => by
    refine ⟨upd d 0 (nI (nb + 1)), ?_, pk_us, ?_, fun f hf => ?_, fun x hx => q_un hx.1⟩
    · unfold fX1_create_L52
      rw [q_l6, if_pos (Int32.le_refl _), d0, q_nm, q_nm, q_add1]
    · rw [q_un (by omega), d1, if_pos m1]
    · rw [q_un (by omega)]
      exact d2 f hf) (fun i K hi hK d d0 d1 d2 => by
    have hki : k / 10 ^ i < 1000000 := Nat.lt_of_le_of_lt (Nat.div_le_self _ _) h2
    have hdg : qdg k i < 10 := qdg_lt k i
    by_cases e : i = qmG 6 k
    · obtain ⟨w, g1, g2, g3, g4, g5⟩ := hK (upd (upd d (37 + 6 * nb + i) (nI (qdg k i))) (19 + nb) (nI i)) (by rw [q_un (by omega), q_un (by omega)]; exact d0) (by rw [pk_us, if_pos (by omega), ← e]) (fun f hf => by
        rw [q_un (by omega)]
        by_cases e2 : f = i
        · rw [e2, pk_us]
        · rw [q_un (by omega)]
          exact d2 f (by omega))
      refine ⟨w, ?_, g2, g3, g4, fun x hx => by rw [g5 x hx, q_un (by omega), q_un (by omega)]⟩
      have hpos : 0 < qdg k i := by rw [e]; omega
      unfold fX1_create_L52 fX1_create_J114
      rw [q_l6, if_neg (nI_ge hi (by decide)), q_ck hn (by decide), q_l10, pk_rem (by omega) (by decide) (by decide), pk_div (by omega) (by decide) (by decide), q_nm, q_ck hi (by decide), nI_clamp (show nb < 2 ^ 31 by omega), nI_clamp (show i < 2 ^ 31 by omega), q_nm, q_nm, q_ck hn (by decide), q_un (show 19 + nb ≠ 37 + 6 * nb + i by omega), d1, if_neg (show ¬ qmG 6 k < i by omega), if_pos (show (-1 : Int32) = -1 from rfl), q_ck hn (by decide), q_ck hi (by decide), qdg_div, pk_us, if_neg (nI_nle hpos (by omega)), q_ck hn (by decide), q_nm, q_nm, q_add1, q_div10]
      exact g1
    · obtain ⟨w, g1, g2, g3, g4, g5⟩ := hK (upd d (37 + 6 * nb + i) (nI (qdg k i))) (by rw [q_un (by omega)]; exact d0) (by
        rw [q_un (by omega), d1]
        by_cases e2 : qmG 6 k < i
        · rw [if_pos e2, if_pos (by omega)]
        · rw [if_neg e2, if_neg (by omega)]) (fun f hf => by
        by_cases e2 : f = i
        · rw [e2, pk_us]
        · rw [q_un (by omega)]
          exact d2 f (by omega))
      refine ⟨w, ?_, g2, g3, g4, fun x hx => by rw [g5 x hx, q_un (by omega)]⟩
      unfold fX1_create_L52 fX1_create_J114
      rw [q_l6, if_neg (nI_ge hi (by decide)), q_ck hn (by decide), q_l10, pk_rem (by omega) (by decide) (by decide), pk_div (by omega) (by decide) (by decide), q_nm, q_ck hi (by decide), nI_clamp (show nb < 2 ^ 31 by omega), nI_clamp (show i < 2 ^ 31 by omega), q_nm, q_nm, q_ck hn (by decide), q_un (show 19 + nb ≠ 37 + 6 * nb + i by omega), d1, qdg_div, q_div10, q_nm, q_add1]
      by_cases e2 : qmG 6 k < i
      · rw [if_pos e2, if_neg (nI_m1 (by omega))]
        exact g1
      · rw [if_neg e2, if_pos rfl, q_ck hn (by decide), q_ck hi (by decide), pk_us, m3 i (by omega), if_pos (by decide)]
        rw [m3 i (by omega)] at g1
        exact g1) lpN 0 (Nat.zero_le _) (q_lpN _ (by decide)) (upd (upd (upd (upd (upd v (1 + nb) pr) (7 + nb) (nI mi)) (25 + nb) 0) (31 + nb) 0) (19 + nb) (-1)) (by simp (disch := omega) only [pk_un]; exact en) (by rw [pk_us, if_neg (Nat.not_lt_zero _)]) (fun f hf => absurd hf (Nat.not_lt_zero _))
  obtain ⟨w, g1, g2, g3, g4, g5⟩ := key
  refine ⟨w, ?_, ?_, ?_, ?_, ?_, g3, g4, g2, fun x hx => ?_⟩
  · unfold fX1_create
    rw [Nat.pow_zero, Nat.div_one] at g1
    rw [en, q_nm, q_ck hn (by decide), nI_clamp (by omega), q_nm, q_ck hn (by decide), q_nm, q_ck hn (by decide), q_nm, q_ck hn (by decide), q_nm, q_ck hn (by decide), q_nm]
    exact g1
  · rw [g5 _ (by omega)]
    simp (disch := omega) only [pk_un, pk_us]
  · rw [g5 _ (by omega)]
    simp (disch := omega) only [pk_un, pk_us]
  · rw [g5 _ (by omega)]
    simp (disch := omega) only [pk_un, pk_us]
  · rw [g5 _ (by omega)]
    simp (disch := omega) only [pk_un, pk_us]
  · rw [g5 _ (by omega)]
    simp (disch := omega) only [pk_un]
theorem t_bread (h : q_S T nf nb nt no Ls (vw u 710) c) {pr : Int32} {mi k : Nat} (hn : nb < 6) (hmi : 1 ≤ mi ∧ mi ≤ 9) (hk : 1 ≤ k ∧ k ≤ 10 ^ nf - 1) : ∃ d z, fX6_createBread pr (nI mi) (nI k) c = some (nI nb, d) ∧ fX9_doBread pr (nI mi) (nI k) u = some (nI nb, z) ∧ q_S T nf (nb + 1) nt no Ls (vw z 710) d ∧ ∀ x, ¬ (710 ≤ x ∧ x < 1206) → z x = u x := by
  have h1 := h.hnf
  have h2 := h.hnb
  have h3 := h.hnt
  have h4 := h.hno
  have hp := p10_le h1
  have hp0 : 1 ≤ 10 ^ nf := Nat.one_le_pow _ _ (by decide)
  have hz : ∃ z, fX9_doBread pr (nI mi) (nI k) u = some (nI nb, z) ∧ z (710 + (208 + 4 * nb)) = pr ∧ z (710 + (209 + 4 * nb)) = nI mi ∧ z (710 + (210 + 4 * nb)) = nI k ∧ z (710 + (211 + 4 * nb)) = 0 ∧ z 716 = nI (nb + 1) ∧ ∀ x, x ≠ 716 ∧ ¬ (918 + 4 * nb ≤ x ∧ x < 922 + 4 * nb) → z x = u x := by
    refine ⟨upd (upd (upd (upd (upd u (710 + (208 + 4 * nb)) pr) (710 + (209 + 4 * nb)) (nI mi)) (710 + (210 + 4 * nb)) (nI k)) (710 + (211 + 4 * nb)) 0) 716 (nI (nb + 1)), ?_, ?_, ?_, ?_, ?_, ?_, ?_⟩
    · have e6 : u 716 = nI nb := h.rnb
      unfold fX9_doBread
      rw [show (710 + (6 : Int32).toNatClampNeg) = 716 from rfl, e6, q_nm]
      rw [show (208 : Int32) + 4 * nI nb + 0 = nI (208 + 4 * nb) by rw [q_l208, q_l4, pk_mul, nI_add, Int32.add_zero], show (208 : Int32) + 4 * nI nb + 1 = nI (209 + 4 * nb) by rw [q_l208, q_l4, q_l1, pk_mul, nI_add, nI_add, show 208 + 4 * nb + 1 = 209 + 4 * nb by omega], show (208 : Int32) + 4 * nI nb + 2 = nI (210 + 4 * nb) by rw [q_l208, q_l4, q_l2, pk_mul, nI_add, nI_add, show 208 + 4 * nb + 2 = 210 + 4 * nb by omega], show (208 : Int32) + 4 * nI nb + 3 = nI (211 + 4 * nb) by rw [q_l208, q_l4, q_l3, pk_mul, nI_add, nI_add, show 208 + 4 * nb + 3 = 211 + 4 * nb by omega]]
      rw [q_ck (by omega) (by decide), nI_clamp (by omega), q_nm, q_ck (by omega) (by decide), nI_clamp (by omega), q_nm, q_ck (by omega) (by decide), nI_clamp (by omega), q_nm, q_ck (by omega) (by decide), nI_clamp (by omega), q_nm, q_nm, q_nm]
      simp (disch := omega) only [pk_un, pk_us, e6, q_add1, nI_pred]
    all_goals intros
    all_goals simp (disch := omega) only [pk_un, pk_us]
  have hd : ∃ d, fX6_createBread pr (nI mi) (nI k) c = some (nI nb, d) ∧ d (176 + nb) = pr ∧ d (182 + nb) = nI mi ∧ d (200 + nb) = 0 ∧ d (206 + nb) = 0 ∧ d (194 + nb) = nI (qmG 6 k) ∧ (∀ f, f < 6 → d (212 + 6 * nb + f) = nI (qdg k f)) ∧ d 175 = nI (nb + 1) ∧ d (188 + nb) = nI mi * vw u 710 2 + qS (fun f => nI (qdg k f) * vw u 710 (40 + 28 * f)) nf ∧ ∀ x, x ≠ 175 ∧ x ≠ 176 + nb ∧ x ≠ 182 + nb ∧ x ≠ 200 + nb ∧ x ≠ 206 + nb ∧ x ≠ 194 + nb ∧ x ≠ 188 + nb ∧ ¬ (212 + 6 * nb ≤ x ∧ x < 218 + 6 * nb) → d x = c x := by
    obtain ⟨w, g0, g1, g2, g3, g4, g5, g6, g7, g8⟩ := c_create (v := vw c 175) (pr := pr) (mi := mi) hn h.cnb hk.1 (by omega)
    have s : ∀ y, y < 73 → spl c 175 73 w (175 + y) = w y := fun y hy => q_spi rfl hy
    have s2 : ∀ x, x < 175 ∨ 248 ≤ x → spl c 175 73 w x = c x := fun x hx => q_spo (by omega)
    have s3 : ∀ y x, 175 + y = x → y < 73 → spl c 175 73 w x = w y := fun y x e hy => q_spi e hy
    have hlp : lp (fX6_createBread_L40 (nI nb)) (fun _ _ _ => none) lpN (nI mi * vw u 710 2) (nI 0) (spl c 175 73 w) = some (nI nb, upd (spl c 175 73 w) (188 + nb) (nI mi * vw u 710 2 + qS (fun f => nI (qdg k f) * vw u 710 (40 + 28 * f)) nf)) := by
      have key := q_for (F := fX6_createBread_L40 (nI nb)) (z := fun _ _ _ => none) (n := nf) (Sp := fun i K => ∀ y, K y (nI i) (spl c 175 73 w) = some (nI nb, upd (spl c 175 73 w) (188 + nb) (y + (qS (fun f => nI (qdg k f) * vw u 710 (40 + 28 * f)) nf - qS (fun f => nI (qdg k f) * vw u 710 (40 + 28 * f)) i)))) (fun K y => by
        unfold fX6_createBread_L40
        rw [s2 6 (by omega), h.cnf, if_pos (Int32.le_refl _), q_ck hn (by decide), nI_clamp (by omega), q_nm, Int32.sub_self, Int32.add_zero]) (fun i K hi hK y => by
        have e1 : spl c 175 73 w (212 + 6 * nb + i) = nI (qdg k i) := (s3 (37 + 6 * nb + i) _ (by omega) (by omega)).trans (g6 i (by omega))
        have e2 : spl c 175 73 w (7 + i) = vw u 710 (40 + 28 * i) := (s2 _ (by omega)).trans (h.cfp i hi)
        unfold fX6_createBread_L40
        rw [s2 6 (by omega), h.cnf, if_neg (nI_ge hi (by omega)), q_ck hn (by decide), q_ck (show i < 6 by omega) (by decide), q_ck (show i < 6 by omega) (by decide), nI_clamp (show nb < 2 ^ 31 by omega), nI_clamp (show i < 2 ^ 31 by omega), e1, e2, q_nm, q_nm, q_add1, hK]
        congr 3
        show (y + nI (qdg k i) * vw u 710 (40 + 28 * i)) + (_ - (qS (fun f => nI (qdg k f) * vw u 710 (40 + 28 * f)) i + nI (qdg k i) * vw u 710 (40 + 28 * i))) = _
        grind) lpN 0 (Nat.zero_le _) (q_lpN _ (by omega)) (nI mi * vw u 710 2)
      refine key.trans ?_
      show some (nI nb, upd _ _ (_ + (_ - 0))) = _
      rw [Int32.sub_zero]
    refine ⟨upd (spl c 175 73 w) (188 + nb) (nI mi * vw u 710 2 + qS (fun f => nI (qdg k f) * vw u 710 (40 + 28 * f)) nf), ?_, ?_, ?_, ?_, ?_, ?_, ?_, ?_, pk_us, ?_⟩
    · unfold fX6_createBread
      rw [h.cnb, if_pos (by rw [q_l6]; exact nI_lt hn (by decide)), g0, q_bnd, q_nm, s2 249 (by omega), h.cbs, q_nm, q_l0]
      exact hlp
    · rw [q_un (by omega), s3 (1 + nb) _ (by omega) (by omega), g1]
    · rw [q_un (by omega), s3 (7 + nb) _ (by omega) (by omega), g2]
    · rw [q_un (by omega), s3 (25 + nb) _ (by omega) (by omega), g3]
    · rw [q_un (by omega), s3 (31 + nb) _ (by omega) (by omega), g4]
    · rw [q_un (by omega), s3 (19 + nb) _ (by omega) (by omega), g5]
    · intro f hf
      rw [q_un (by omega), s3 (37 + 6 * nb + f) _ (by omega) (by omega), g6 f hf]
    · rw [q_un (by omega), s3 0 _ (by omega) (by omega), g7]
    · intro x hx
      rw [q_un (by omega)]
      by_cases e : 175 ≤ x ∧ x < 248
      · rw [s3 (x - 175) x (by omega) (by omega)]
        by_cases e2 : x = 188 + nb
        · omega
        · rw [g8 _ (by omega)]
          exact q_at (by omega)
      · exact s2 x (by omega)
  obtain ⟨d, d0, d1, d2, d3, d4, d5, d6, d7, d8, hc⟩ := hd
  obtain ⟨z, z0, z1, z2, z3, z4, z5, hz⟩ := hz
  refine ⟨d, z, d0, z0, ?_, fun x hx => hz x (by omega)⟩
  have hr : ∀ x, x ≠ 6 ∧ ¬ (208 + 4 * nb ≤ x ∧ x < 212 + 4 * nb) → vw z 710 x = vw u 710 x := fun x hx => hz _ (by omega)
  have z1 : vw z 710 (208 + 4 * nb) = pr := z1
  have z2 : vw z 710 (209 + 4 * nb) = nI mi := z2
  have z3 : vw z 710 (210 + 4 * nb) = nI k := z3
  have z4 : vw z 710 (211 + 4 * nb) = 0 := z4
  have hq : qn (vw z 710 (210 + 4 * nb)) = k := by rw [z3]; exact qn_nI (by omega)
  have an : ∀ f, qam (vw z 710) nb f = qdg k f := fun f => by unfold qam; rw [hq]
  have mn : qmf (vw z 710) nb = qmG 6 k := by unfold qmf; rw [hq]
  have sn : qstd nf (vw z 710) nb = nI mi * vw u 710 2 + qS (fun f => nI (qdg k f) * vw u 710 (40 + 28 * f)) nf := by
    unfold qstd
    rw [z2, hr 2 (by omega), qS_congr (fun f hf => by rw [an f, hr (40 + 28 * f) (by omega)])]
  have ha : ∀ b f, b < nb → qam (vw z 710) b f = qam (vw u 710) b f := fun b f hb => qam_keep (hr _ (by omega))
  have hm : ∀ b, b < nb → qmf (vw z 710) b = qmf (vw u 710) b := fun b hb => qmf_keep (hr _ (by omega))
  have hs : ∀ b, b < nb → qstd nf (vw z 710) b = qstd nf (vw u 710) b := fun b hb => qstd_keep (hr _ (by omega)) (hr _ (by omega)) (hr _ (by omega)) (fun f hf => hr _ (by omega))
  have hl9 : ∀ t, t < nt → qls nf (vw z 710) t = qls nf (vw u 710) t := fun t ht => by
    obtain ⟨b, hb, e⟩ := h.rtb t ht
    exact qls_keep (by omega) e (hr _ (by omega)) (hr _ (by omega)) (hr _ (by omega)) (hr _ (by omega)) (hs b hb)
  refine ⟨?_, ?_, ?_, ?_, ?_, ?_, ?_, ?_, ?_, ?_, ?_, ?_, ?_, ?_, ?_, ?_, ?_, ?_, ?_, ?_, ?_, ?_, ?_, ?_, ?_, ?_, ?_, ?_, ?_, ?_, ?_, ?_, ?_, ?_, ?_, ?_, ?_, ?_, ?_, ?_, ?_, ?_, ?_, ?_, ?_, ?_, ?_, ?_, ?_, ?_, ?_, ?_, ?_⟩
  · exact h.hT
  · exact h.hnf
  · exact hn
  · exact h.hnt
  · exact h.hno
  · exact (hr 5 (by omega)).trans h.rnf
  · exact z5
  · exact (hr 7 (by omega)).trans h.rnt
  · exact (hr 3 (by omega)).trans h.rno
  · rw [hr 4 (by omega)]
    exact h.rck
  · rw [hr 2 (by omega)]
    exact h.rbs
  · exact fun j hj => by rw [hr (13 + j) (by omega)]; exact h.rrt j hj
  · exact fun o ho => by rw [hr (37 + o) (by omega)]; exact h.rfr o ho
  · exact fun f hf => by rw [hr (40 + 28 * f) (by omega)]; exact h.rfp f hf
  · exact fun f hf => (h.rlt f hf).keep (hr _ (by omega)) (fun l hl => by have := (h.lo f hf).1; exact ⟨hr _ (by omega), hr _ (by omega)⟩)
  · exact h.lo
  · intro b hb
    by_cases e : b = nb
    · rw [e, z2]
      exact qb_mk hmi.1 hmi.2
    · rw [hr _ (by omega)]
      exact h.rbm b (by omega)
  · intro b hb
    by_cases e : b = nb
    · rw [e, z3]
      exact qb_mk hk.1 hk.2
    · rw [hr _ (by omega)]
      exact h.rrc b (by omega)
  · intro t ht
    rw [hr _ (by omega)]
    obtain ⟨b, g1, g2⟩ := h.rtb t ht
    exact ⟨b, by omega, g2⟩
  · exact fun t k ht hk => by rw [hr (238 + 11 * t + k) (by omega)]; exact h.rgp t k ht hk
  · exact (hc 0 (by omega)).trans (h.cck.trans (hr 4 (by omega)).symm)
  · exact (hc 1 (by omega)).trans (h.cca.trans (hr 0 (by omega)).symm)
  · exact (hc 2 (by omega)).trans (h.cfc.trans (hr 1 (by omega)).symm)
  · exact (hc 3 (by omega)).trans (h.cea.trans (hr 8 (by omega)).symm)
  · exact (hc 4 (by omega)).trans (h.cpf.trans (hr 9 (by omega)).symm)
  · exact (hc 5 (by omega)).trans (h.csg.trans (hr 11 (by omega)).symm)
  · exact (hc 6 (by omega)).trans h.cnf
  · exact d7
  · exact (hc 277 (by omega)).trans h.cnt
  · exact (hc 248 (by omega)).trans h.cno
  · exact (hc 249 (by omega)).trans (h.cbs.trans (hr 2 (by omega)).symm)
  · exact fun f hf => (hc (7 + f) (by omega)).trans ((h.cfp f hf).trans (hr (40 + 28 * f) (by omega)).symm)
  · exact fun f hf => (h.clt f hf).keep (hc _ (by omega)) (fun l hl => by have := (h.lo f hf).1; exact ⟨hc _ (by omega), hc _ (by omega)⟩)
  · exact fun f hf => (hc (163 + f) (by omega)).trans ((h.cpg f hf).trans (hr (42 + 28 * f) (by omega)).symm)
  · exact fun f hf => (hc (169 + f) (by omega)).trans ((h.cug f hf).trans (hr (43 + 28 * f) (by omega)).symm)
  · intro b hb
    by_cases e : b = nb
    · rw [e, d1, z1]
    · rw [hc _ (by omega), hr _ (by omega)]
      exact h.cbl b (by omega)
  · intro b hb
    by_cases e : b = nb
    · rw [e, d2, z2]
    · rw [hc _ (by omega), hr _ (by omega)]
      exact h.cbm b (by omega)
  · intro b hb
    by_cases e : b = nb
    · rw [e, d8, sn]
    · rw [hc _ (by omega), hs b (by omega)]
      exact h.cst b (by omega)
  · intro b hb
    by_cases e : b = nb
    · rw [e, d5, mn]
    · rw [hc _ (by omega), hm b (by omega)]
      exact h.cmf b (by omega)
  · intro b hb
    by_cases e : b = nb
    · rw [e, d3, z4]
    · rw [hc _ (by omega), hr _ (by omega)]
      exact h.clo b (by omega)
  · intro b f hb hf
    by_cases e : b = nb
    · rw [e, d6 f hf, an]
    · rw [hc _ (by omega), ha b f (by omega)]
      exact h.cam b f (by omega) hf
  · show qS _ nb + d (206 + nb) * _ = _
    rw [d4, Int32.zero_mul, Int32.add_zero, qS_congr (fun b hb => by rw [hc (206 + b) (by omega), hc (176 + b) (by omega), hc (188 + b) (by omega)]), hr 12 (by omega)]
    exact h.csd
  · exact fun o ho => (hc (250 + o) (by omega)).trans ((h.cfr o ho).trans (hr (37 + o) (by omega)).symm)
  · exact fun j hj => (hc (253 + j) (by omega)).trans ((h.crt j hj).trans (hr (13 + j) (by omega)).symm)
  · exact fun t ht => (hc (278 + t) (by omega)).trans ((h.ctb t ht).trans (hr (232 + 11 * t) (by omega)).symm)
  · exact fun t ht => (hc (302 + t) (by omega)).trans ((h.ctp t ht).trans (hr (233 + 11 * t) (by omega)).symm)
  · exact fun t ht => (hc (326 + t) (by omega)).trans ((h.ctu t ht).trans (hr (234 + 11 * t) (by omega)).symm)
  · exact fun t ht => (hc (350 + t) (by omega)).trans ((h.cts t ht).trans (hr (235 + 11 * t) (by omega)).symm)
  · exact fun t ht => (hc (374 + t) (by omega)).trans ((h.ctm t ht).trans (hr (236 + 11 * t) (by omega)).symm)
  · exact fun t ht => by rw [hc (398 + t) (by omega), hc (422 + t) (by omega), hr (237 + 11 * t) (by omega)]; exact h.ctc t ht
  · exact fun t ht => (hc (446 + t) (by omega)).trans ((h.ctl t ht).trans (hl9 t ht).symm)
  · exact fun t k ht hk => (hc (470 + 5 * t + k) (by omega)).trans ((h.ctg t k ht hk).trans (hr (238 + 11 * t + k) (by omega)).symm)
  · exact (qS_congr (fun t ht => by rw [hc (422 + t) (by omega)])).trans (h.coc.trans (hr 10 (by omega)).symm)
end
