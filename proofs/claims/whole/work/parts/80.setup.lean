/-! ===== layer 2: the head of a setup ===== -/
theorem c_open5 (p1 p2 : Int32) (v : bM) : ∃ d, fX5_open p1 p2 v = some d ∧ d 0 = p1 ∧ d 1 = p2 ∧ (∀ o, o < 3 → d (2 + o) = 0) ∧ ∀ j, j < 24 → d (5 + j) = p2 := by
  have k2 : ∀ g : bM, ∃ d, lp (fX5_open_L32 p2) (fun _ _ => none) lpN 0 g = some d ∧ (∀ x, x < 5 → d x = g x) ∧ ∀ j, j < 24 → d (5 + j) = p2 := by
    intro g
    exact q_for (F := fX5_open_L32 p2) (z := fun _ _ => none) (n := 24) (Sp := fun i K => ∀ f : bM, (∀ x, x < 5 → f x = g x) → (∀ j, j < i → f (5 + j) = p2) → ∃ d, K (nI i) f = some d ∧ (∀ x, x < 5 → d x = g x) ∧ ∀ j, j < 24 → d (5 + j) = p2) (fun K f f1 f2 => by
      refine ⟨f, ?_, f1, f2⟩
      unfold fX5_open_L32
      rw [q_l24, if_pos (Int32.le_refl _)]) (fun i K hi hK f f1 f2 => by
      obtain ⟨d, d1, d2⟩ := hK (upd f (5 + i) p2) (fun x hx => by rw [q_un (by omega)]; exact f1 x hx) (fun j hj => by
        by_cases e : j = i
        · rw [e, pk_us]
        · rw [q_un (by omega)]
          exact f2 j (by omega))
      refine ⟨d, ?_, d2⟩
      unfold fX5_open_L32
      rw [q_l24, if_neg (nI_ge hi (by decide)), q_ck hi (by decide), nI_clamp (by omega), q_nm, q_nm, q_add1]
      exact d1) lpN 0 (by decide) (q_lpN _ (by decide)) g (fun _ _ => rfl) (fun j hj => absurd hj (Nat.not_lt_zero _))
  have k1 := q_for (F := fX5_open_L12 p2) (z := fun _ _ => none) (n := 3) (Sp := fun i K => ∀ f : bM, f 0 = p1 → f 1 = p2 → (∀ o, o < i → f (2 + o) = 0) → ∃ d, K (nI i) f = some d ∧ d 0 = p1 ∧ d 1 = p2 ∧ (∀ o, o < 3 → d (2 + o) = 0) ∧ ∀ j, j < 24 → d (5 + j) = p2) (fun K f f0 f1 f2 => by
    obtain ⟨d, d1, d2, d3⟩ := k2 f
    refine ⟨d, ?_, (d2 0 (by decide)).trans f0, (d2 1 (by decide)).trans f1, fun o ho => (d2 _ (by omega)).trans (f2 o ho), d3⟩
    unfold fX5_open_L12
    rw [q_l3, if_pos (Int32.le_refl _)]
    exact d1) (fun i K hi hK f f0 f1 f2 => by
    obtain ⟨d, d1, d2⟩ := hK (upd f (2 + i) 0) (by rw [q_un (by omega)]; exact f0) (by rw [q_un (by omega)]; exact f1) (fun o ho => by
      by_cases e : o = i
      · rw [e, pk_us]
      · rw [q_un (by omega)]
        exact f2 o (by omega))
    refine ⟨d, ?_, d2⟩
    unfold fX5_open_L12
    rw [q_l3, if_neg (nI_ge hi (by decide)), q_ck hi (by decide), nI_clamp (by omega), q_nm, q_nm, q_add1]
    exact d1) lpN 0 (by decide) (q_lpN _ (by decide)) (upd (upd v 0 p1) 1 p2) (by rw [q_un (by decide), pk_us]) pk_us (fun o ho => absurd ho (Nat.not_lt_zero _))
  obtain ⟨d, d1, d2⟩ := k1
  refine ⟨d, ?_, d2⟩
  unfold fX5_open
  rw [q_nm, q_nm]
  exact d1
/-- a bakery that is just opened -/
theorem t_open {T : Nat} {p1 p2 p3 : Int32} {c r : bM} (hT : T ≤ 100000000) (h2 : qb 0 20 p2) (h3 : qb 1 3 p3) (r0 : r 0 = p1) (r1 : r 1 = p1) (r2 : r 2 = p2) (r3 : r 3 = p3) (rz : ∀ x, 4 ≤ x → x < 13 → r x = 0) (rr : ∀ j, j < 24 → r (13 + j) = p2) (rf : ∀ o, o < 3 → r (37 + o) = 0) : ∃ d, fX6_open p1 p2 p3 c = some d ∧ q_St T r d := by
  have hV : ∃ a, a = upd (upd (upd (upd (upd (upd (upd (upd (upd c 0 0) 1 p1) 2 p1) 3 0) 4 0) 5 0) 6 0) 175 0) 277 0 := ⟨_, rfl⟩
  obtain ⟨a, ha⟩ := hV
  obtain ⟨w, w1, w2, w3, w4, w5⟩ := c_open5 p3 p2 (vw a 248)
  obtain ⟨no, n1, n2, n3⟩ := h3
  have s1 : ∀ x, x < 248 ∨ 277 ≤ x → spl a 248 29 w x = a x := fun x hx => q_spo (by omega)
  refine ⟨spl a 248 29 w, ?_, 0, 0, 0, no, fun _ => [], ?_⟩
  · unfold fX6_open
    rw [q_nm, q_nm, q_nm, q_nm, q_nm, q_nm, q_nm, q_nm, q_nm, ← ha, w1, q_bnw, q_nm]
  · refine ⟨hT, by decide, by decide, by decide, ⟨n1, n2⟩, rz 5 (by decide) (by decide), rz 6 (by decide) (by decide), rz 7 (by decide) (by decide), r3.trans n3, ?_, ?_, ?_, ?_, ?_, ?_, ?_, ?_, ?_, ?_, ?_, ?_, ?_, ?_, ?_, ?_, ?_, ?_, ?_, ?_, ?_, ?_, ?_, ?_, ?_, ?_, ?_, ?_, ?_, ?_, ?_, ?_, ?_, ?_, ?_, ?_, ?_, ?_, ?_, ?_, ?_, ?_, ?_, ?_⟩
    · rw [rz 4 (by decide) (by decide)]; exact ⟨0, Nat.le_refl _, Nat.zero_le _, rfl⟩
    · rw [r2]; exact h2
    · exact fun j hj => by rw [rr j hj]; exact h2
    · exact fun o ho => by rw [rf o (by omega)]; exact ⟨0, Nat.le_refl _, Nat.zero_le _, rfl⟩
    · exact fun f hf => absurd hf (Nat.not_lt_zero _)
    · exact fun f hf => absurd hf (Nat.not_lt_zero _)
    · exact fun f hf => absurd hf (Nat.not_lt_zero _)
    · exact fun f hf => absurd hf (Nat.not_lt_zero _)
    · exact fun f hf => absurd hf (Nat.not_lt_zero _)
    · exact fun f hf => absurd hf (Nat.not_lt_zero _)
    · exact fun t k hf _ => absurd hf (Nat.not_lt_zero _)
    · rw [s1 0 (by decide), ha, rz 4 (by decide) (by decide)]; simp (disch := decide) only [pk_un, pk_us]
    · rw [s1 1 (by decide), ha, r0]; simp (disch := decide) only [pk_un, pk_us]
    · rw [s1 2 (by decide), ha, r1]; simp (disch := decide) only [pk_un, pk_us]
    · rw [s1 3 (by decide), ha, rz 8 (by decide) (by decide)]; simp (disch := decide) only [pk_un, pk_us]
    · rw [s1 4 (by decide), ha, rz 9 (by decide) (by decide)]; simp (disch := decide) only [pk_un, pk_us]
    · rw [s1 5 (by decide), ha, rz 11 (by decide) (by decide)]; simp (disch := decide) only [pk_un, pk_us]
    · rw [s1 6 (by decide), ha]; simp (disch := decide) only [pk_un, pk_us]; rfl
    · rw [s1 175 (by decide), ha]; simp (disch := decide) only [pk_un, pk_us]; rfl
    · rw [s1 277 (by decide), ha]; simp (disch := decide) only [pk_us]; rfl
    · exact (q_spi (o := 248) (y := 0) rfl (by decide)).trans (w2.trans n3)
    · exact (q_spi (o := 248) (y := 1) rfl (by decide)).trans (w3.trans r2.symm)
    · exact fun f hf => absurd hf (Nat.not_lt_zero _)
    · exact fun f hf => absurd hf (Nat.not_lt_zero _)
    · exact fun f hf => absurd hf (Nat.not_lt_zero _)
    · exact fun f hf => absurd hf (Nat.not_lt_zero _)
    · exact fun f hf => absurd hf (Nat.not_lt_zero _)
    · exact fun f hf => absurd hf (Nat.not_lt_zero _)
    · exact fun f hf => absurd hf (Nat.not_lt_zero _)
    · exact fun f hf => absurd hf (Nat.not_lt_zero _)
    · exact fun f hf => absurd hf (Nat.not_lt_zero _)
    · exact fun f k hf _ => absurd hf (Nat.not_lt_zero _)
    · exact (rz 12 (by decide) (by decide)).symm
    · exact fun o ho => (q_spi (o := 248) (y := 2 + o) (by omega) (by omega)).trans ((w4 o (by omega)).trans (rf o (by omega)).symm)
    · exact fun j hj => (q_spi (o := 248) (y := 5 + j) (by omega) (by omega)).trans ((w5 j hj).trans (rr j hj).symm)
    · exact fun f hf => absurd hf (Nat.not_lt_zero _)
    · exact fun f hf => absurd hf (Nat.not_lt_zero _)
    · exact fun f hf => absurd hf (Nat.not_lt_zero _)
    · exact fun f hf => absurd hf (Nat.not_lt_zero _)
    · exact fun f hf => absurd hf (Nat.not_lt_zero _)
    · exact fun f hf => absurd hf (Nat.not_lt_zero _)
    · exact fun f hf => absurd hf (Nat.not_lt_zero _)
    · exact fun t k hf _ => absurd hf (Nat.not_lt_zero _)
    · exact (rz 10 (by decide) (by decide)).symm
theorem q_A.go {B : Nat → Int32} {L n k : Nat} {v u : bM} {Q : bM → bM → Prop} {rc rr : Option (Int32 × bM)} {fc fr : bM → Option (Int32 × bM)} {R : Option (Int32 × bM) → Option (Int32 × bM) → Prop} (h : q_A B L n k v u Q rc rr) (hf : ∀ w z, q_F v u w z → R (some (0, w)) (some (0, z))) (g : ∀ k9 w z, k ≤ k9 → q_L B L n k9 w z → q_sv v w → q_su u z → Q w z → R (fc w) (fr z)) : R (bnd rc fun r w => if r = 0 then some (0, w) else fc w) (bnd rr fun r z => if r = 0 then some (0, z) else fr z) := by
  rcases h with ⟨k9, w, z, h1, h2, h3, h4, h5, h6, h7⟩ | ⟨w, z, h1, h2, h3⟩
  · rw [h1, h2, q_bnd, q_bnd, if_neg (by decide), if_neg (by decide)]
    exact g k9 w z h3 h4 h5 h6 h7
  · rw [h1, h2, q_bnd, q_bnd, if_pos rfl, if_pos rfl]
    exact hf w z h3
/-- what a setup comes to -/
def q_Su (T tg : Nat) (v u : bM) (rc rr : Option (Int32 × bM)) : Prop := (∃ w z, rc = some (1, w) ∧ rr = some (1, z) ∧ q_St T (vw z 710) (vw w (stO tg)) ∧ q_gv tg v w ∧ q_gu u z ∧ w 7086 = z 1 ∧ w 7087 = z 2) ∨ (∃ w z, rc = some (0, w) ∧ rr = some (0, z) ∧ q_G tg v u w z)
theorem c_J43 (w : bM) : fX4_read_J43 0 w = some (0, w) := by
  unfold fX4_read_J43
  exact q_for (F := fX4_read_L47) (z := fun _ _ _ => none) (n := 0) (Sp := fun i K => K 0 (nI i) w = some (0, w)) (fun K => by
    rw [fX4_read_L47.eq_1, if_pos rfl, q_l0, q_ck (by decide) (by decide)]
    split <;> rfl) (fun i K hi hK => absurd hi (Nat.not_lt_zero _)) lpN 0 (Nat.zero_le _) (q_lpN _ (by decide))
theorem c_J38 (w : bM) : fX4_read_J38 w = lp fX4_read_L47 (fun _ _ _ => none) lpN 1 (nI 0) w := by
  unfold fX4_read_J38 fX4_read_J43
  exact congrArg (fun i => lp fX4_read_L47 (fun _ _ _ => none) lpN 1 i w) q_l0
theorem r_ctx (f : bM) : fX9_commandsText f = lp fX9_commandsText_L2 (fun _ _ => none) lpN (nI 0) f := by
  unfold fX9_commandsText
  exact congrArg (fun i => lp fX9_commandsText_L2 (fun _ _ => none) lpN i f) q_l0
theorem r_opn (K : bM → Option (Int32 × bM)) (w18 : bM) : (nm (w18 (7160 + (0 : Int32).toNatClampNeg)) fun x21 => nm (upd w18 (710 + (0 : Int32).toNatClampNeg) x21) fun v22 => nm (v22 (7160 + (0 : Int32).toNatClampNeg)) fun x23 => nm (upd v22 (710 + (1 : Int32).toNatClampNeg) x23) fun v24 => nm (v24 (7160 + (1 : Int32).toNatClampNeg)) fun x25 => nm (upd v24 (710 + (2 : Int32).toNatClampNeg) x25) fun v26 => nm (v26 (7160 + (2 : Int32).toNatClampNeg)) fun x27 => nm (upd v26 (710 + (3 : Int32).toNatClampNeg) x27) fun v28 => K v28) = K (upd (upd (upd (upd w18 710 (w18 7160)) 711 (w18 7160)) 712 (w18 7161)) 713 (w18 7162)) := by
  rw [t_0, t_1, t_2, show (710 + (0 : Int32).toNatClampNeg) = 710 from rfl, show (710 + (1 : Int32).toNatClampNeg) = 711 from rfl, show (710 + (2 : Int32).toNatClampNeg) = 712 from rfl, show (710 + (3 : Int32).toNatClampNeg) = 713 from rfl]
  simp (disch := decide) only [q_nm, pk_un]
theorem r_opl (f : bM) : lp fX9_setupText_L100 (fun _ _ => none) lpN 0 f = lp fX9_setupText_L100 (fun _ _ => none) lpN (nI 0) f := congrArg (fun i => lp fX9_setupText_L100 (fun _ _ => none) lpN i f) q_l0
theorem p_setup {tg : Nat} (ht : tg < 12) {B : Nat → Int32} {L n T : Nat} {v u : bM} (hT : T + 999 * 41 ≤ 100000000) (h : q_L B L n 0 v u) (ct : v 7089 = nI tg) (e88 : v 7088 = 0) (e1 : v 7086 = u 1) (e2 : v 7087 = u 2) (hz : ∀ x, x < 496 → u (710 + x) = 0) : q_Su (T + 999 * 41) tg v u (bnd (fX4_readHead v) fun r29 w28 => (if r29 = 0 then (fX4_read_J43 0 w28) else (fX4_read_J38 w28))) (fX9_setupText u) := by
  have ek := p_kind h
  have b := stO_b ht
  have h17 := (q_kt B L n 0).2.2.2.1
  have w27 : fX9_isWord 27 u = some (if q_kd B L n 0 = 5 then 1 else 0) := p_isWord h (j := 1) (by decide)
  by_cases h5 : q_kd B L n 0 = 5
  · have hk : 0 < n := q_kd_lt (B := B) (L := L) (by omega)
    obtain ⟨z, z1, z2, z3⟩ := p_next h hk
    have sv0 : q_sv v (upd v 7095 (nI (0 + 1))) := fun x hx => q_un (by omega)
    have su0 : q_su u z := fun x hx => z3 x (by omega)
    have cl : fX4_readHead v = (bnd (fX4_readNumber 0 0 99999 (upd v 7095 (nI (0 + 1)))) fun r9 w8 => (if r9 = 0 then (some (0, w8)) else (bnd (fX4_readNumber 1 0 20 w8) fun r13 w12 => (if r13 = 0 then (some (0, w12)) else (bnd (fX4_readNumber 2 1 3 w12) fun r17 w16 => (if r17 = 0 then (some (0, w16)) else (bnr (fX7_kind (vw w16 7093)) fun r20 => (if r20 = 1 then (ck (w16 7089) 12 <| nm (w16 7089).toNatClampNeg fun i23 => bnw (fX6_open (w16 (9899 + (0 : Int32).toNatClampNeg)) (w16 (9899 + (1 : Int32).toNatClampNeg)) (w16 (9899 + (2 : Int32).toNatClampNeg)) (vw w16 (stO i23))) fun w25 => nm (spl w16 (stO i23) 590 w25) fun v26 => bnw (fX7_advance (vw v26 7093)) fun w28 => nm (spl v26 7093 2806 w28) fun v29 => some (1, v29)) else (bnd (fX4_fail 1 w16) fun r32 w31 => ck r32 2 <| some (r32, w31)))))))))) := by
      unfold fX4_readHead
      rw [ek, h5, q_bnr, if_pos (show nI 5 = 5 from rfl), c_adv h hk]
    have rl : fX9_setupText u = (bnd (fX9_into 0 0 99999 z) fun r7 w6 => (if r7 = 0 then (some (0, w6)) else (bnd (fX9_into 1 0 20 w6) fun r11 w10 => (if r11 = 0 then (some (0, w10)) else (bnd (fX9_into 2 1 3 w10) fun r15 w14 => (if r15 = 0 then (some (0, w14)) else (bnd (fX9_semicolon w14) fun r19 w18 => (if r19 = 0 then (some (0, w18)) else (nm (w18 (7160 + (0 : Int32).toNatClampNeg)) fun x21 => nm (upd w18 (710 + (0 : Int32).toNatClampNeg) x21) fun v22 => nm (v22 (7160 + (0 : Int32).toNatClampNeg)) fun x23 => nm (upd v22 (710 + (1 : Int32).toNatClampNeg) x23) fun v24 => nm (v24 (7160 + (1 : Int32).toNatClampNeg)) fun x25 => nm (upd v24 (710 + (2 : Int32).toNatClampNeg) x25) fun v26 => nm (v26 (7160 + (2 : Int32).toNatClampNeg)) fun x27 => nm (upd v26 (710 + (3 : Int32).toNatClampNeg) x27) fun v28 => lp (fX9_setupText_L100) (fun _ _ => none) lpN 0 v28))))))))) := by
      unfold fX9_setupText fX9_expects
      rw [q_ckn (by decide), w27, if_pos h5, q_bnr, if_neg (by decide), z1, q_bnw, q_bnd, if_neg (by decide)]
    rw [cl, rl]
    -- the outcome, with the numbers read first
    refine q_A.go (R := fun a c => q_Su (T + 999 * 41) tg v u (bnd a fun r29 w28 => (if r29 = 0 then (fX4_read_J43 0 w28) else (fX4_read_J38 w28))) c) (p_n z2 0 0 (by decide) (by decide) 0 99999 (by decide)) (fun w z hF => Or.inr ⟨w, z, by rw [q_bnd, if_pos rfl, c_J43], rfl, (hF.pre sv0.fv su0.fu).G⟩) (fun k1 w1 y1 _ g1 hv1 hu1 q1 => ?_)
    refine q_A.go (R := fun a c => q_Su (T + 999 * 41) tg v u (bnd a fun r29 w28 => (if r29 = 0 then (fX4_read_J43 0 w28) else (fX4_read_J38 w28))) c) (p_n g1 1 1 (by decide) (by decide) 0 20 (by decide)) (fun w z hF => Or.inr ⟨w, z, by rw [q_bnd, if_pos rfl, c_J43], rfl, (hF.pre (sv0.trans hv1).fv (su0.trans hu1).fu).G⟩) (fun k2 w2 y2 _ g2 hv2 hu2 q2 => ?_)
    refine q_A.go (R := fun a c => q_Su (T + 999 * 41) tg v u (bnd a fun r29 w28 => (if r29 = 0 then (fX4_read_J43 0 w28) else (fX4_read_J38 w28))) c) (p_n g2 2 2 (by decide) (by decide) 1 3 (by decide)) (fun w z hF => Or.inr ⟨w, z, by rw [q_bnd, if_pos rfl, c_J43], rfl, (hF.pre ((sv0.trans hv1).trans hv2).fv ((su0.trans hu1).trans hu2).fu).G⟩) (fun k3 w3 y3 _ g3 hv3 hu3 q3 => ?_)
    have sv := ((sv0.trans hv1).trans hv2).trans hv3
    have su := ((su0.trans hu1).trans hu2).trans hu3
    have a0 : q_eq 0 0 99999 w3 y3 := q_nu.keep (i := 0) (q_nu.keep (i := 0) ⟨q1.1, q1.2.1⟩ q2 (by decide) (by decide) (by decide) (by decide)) q3 (by decide) (by decide) (by decide) (by decide)
    have a1 : q_eq 1 0 20 w3 y3 := q_nu.keep (i := 1) ⟨q2.1, q2.2.1⟩ q3 (by decide) (by decide) (by decide) (by decide)
    have a2 : q_eq 2 1 3 w3 y3 := ⟨q3.1, q3.2.1⟩
    have ek3 := p_kind g3
    have et3 := p_tok g3
    obtain ⟨s1, s2, s3, s4, s5, s6⟩ := q_kt B L n k3
    by_cases hs : q_kd B L n k3 = 1
    · have hk3 := q_kd1_lt hs
      have ct3 : w3 7089 = nI tg := (sv 7089 (by omega)).trans ct
      obtain ⟨m2, em2, _, hm2⟩ := q_in_n (lo := 0) (hi := 20) a1.2 (by decide) (by decide)
      obtain ⟨m3, em3, hm31, hm3⟩ := q_in_n (lo := 1) (hi := 3) a2.2 (by decide) (by decide)
      have v0 : w3 9899 = y3 7160 := a0.1
      have v1 : w3 9900 = y3 7161 := a1.1
      have v2 : w3 9901 = y3 7162 := a2.1
      obtain ⟨y4, y41, y42, y43⟩ := p_next g3 hk3
      have yt : ∀ x, 7160 ≤ x → y4 x = y3 x := fun x hx => y43 x (by omega)
      have yz : ∀ x, x < 496 → y4 (710 + x) = 0 := fun x hx => by rw [y43 _ (by omega), su _ (by omega)]; exact hz x hx
      -- the reference's row
      have row := q_for (F := fX9_setupText_L100) (z := fun _ _ => none) (n := 24) (Sp := fun i K => ∀ f : bM, (∀ j, j < i → f (723 + j) = y4 7161) → (∀ x, ¬ (723 ≤ x ∧ x < 747) → f x = upd (upd (upd (upd y4 710 (y4 7160)) 711 (y4 7160)) 712 (y4 7161)) 713 (y4 7162) x) → (∀ x, 723 ≤ x → x < 747 → f x = 0 ∨ f x = y4 7161) → ∃ f9, K (nI i) f = (bnd (fX9_commandsText f9) fun r34 w33 => (if r34 < 0 then (some (0, w33)) else (some (1, w33)))) ∧ (∀ j, j < 24 → f9 (723 + j) = y4 7161) ∧ ∀ x, ¬ (723 ≤ x ∧ x < 747) → f9 x = upd (upd (upd (upd y4 710 (y4 7160)) 711 (y4 7160)) 712 (y4 7161)) 713 (y4 7162) x) (fun K f f1 f2 _ => by
        refine ⟨f, ?_, f1, f2⟩
        unfold fX9_setupText_L100
        rw [q_l24, if_pos (Int32.le_refl _)]) (fun i K hi hK f f1 f2 f3 => by
        obtain ⟨f9, d1, d2⟩ := hK (upd f (723 + i) (y4 7161)) (fun j hj => by
          by_cases e : j = i
          · rw [e, pk_us]
          · rw [q_un (by omega)]
            exact f1 j (by omega)) (fun x hx => by rw [q_un (by omega)]; exact f2 x hx) (fun x a b => by
          by_cases e : x = 723 + i
          · rw [e, pk_us]; exact Or.inr rfl
          · rw [q_un e]; exact f3 x a b)
        refine ⟨f9, ?_, d2⟩
        have e71 : f 7161 = y4 7161 := by rw [f2 _ (by omega)]; simp (disch := decide) only [pk_un]
        have e13 : (13 : Int32) + nI i = nI (13 + i) := by rw [q_l13, nI_add]
        unfold fX9_setupText_L100
        rw [q_l24, if_neg (nI_ge hi (by decide)), t_1, e71, q_nm, e13, q_ck (by omega) (by decide), nI_clamp (by omega), q_nm, q_nm, q_add1, show 710 + (13 + i) = 723 + i by omega]
        exact d1) lpN 0 (by decide) (q_lpN _ (by decide)) (upd (upd (upd (upd y4 710 (y4 7160)) 711 (y4 7160)) 712 (y4 7161)) 713 (y4 7162)) (fun j hj => absurd hj (Nat.not_lt_zero _)) (fun _ _ => rfl) (fun x a b => by
        refine Or.inl ?_
        rw [q_un (by omega), q_un (by omega), q_un (by omega), q_un (by omega), show x = 710 + (x - 710) by omega]
        exact yz _ (by omega))
      obtain ⟨f9, r1, r2, r3⟩ := row
      have f9r : ∀ x, x < 496 → ¬ (13 ≤ x ∧ x < 37) → 4 ≤ x → vw f9 710 x = 0 := fun x h1 h2 h3 => by
        rw [q_vw, r3 _ (by omega), q_un (by omega), q_un (by omega), q_un (by omega), q_un (by omega)]
        exact yz x h1
      obtain ⟨d, d1, d2⟩ := t_open (T := T) (p1 := y3 7160) (p2 := y3 7161) (p3 := y3 7162) (c := vw w3 (stO tg)) (r := vw f9 710) (by omega) (by rw [show y3 7161 = nI m2 from em2]; exact qb_mk (Nat.zero_le _) hm2) (by rw [show y3 7162 = nI m3 from em3]; exact qb_mk hm31 hm3) (by rw [q_vw, r3 _ (by omega), q_un (by decide), q_un (by decide), q_un (by decide), pk_us]; exact yt _ (by omega)) (by rw [q_vw, r3 _ (by omega), q_un (by decide), q_un (by decide), pk_us]; exact yt _ (by omega)) (by rw [q_vw, r3 _ (by omega), q_un (by decide), pk_us]; exact yt _ (by omega)) (by rw [q_vw, r3 _ (by omega), pk_us]; exact yt _ (by omega)) (fun x a b => f9r x (by omega) (by omega) a) (fun j hj => (congrArg f9 (by omega)).trans ((r2 j hj).trans (yt _ (by omega)))) (fun o ho => f9r _ (by omega) (by omega) (by omega))
      -- both go on
      have hL4 : q_L B L n k3 (spl w3 (stO tg) 590 d) y3 := g3.ex ht (fun x hx => q_spo hx) (fun _ _ => rfl)
      have hw5 : ∃ w5, w5 = upd (spl w3 (stO tg) 590 d) 7095 (nI (k3 + 1)) := ⟨_, rfl⟩
      obtain ⟨w5, hw5⟩ := hw5
      have hL5 : q_L B L n (k3 + 1) w5 f9 := by
        refine y42.re (fun x hx => ?_) (fun x hx => ?_) y42.2.2.2.2.1 (by rw [hw5, pk_us]) ?_
        · rw [hw5, q_un (by omega), q_un (by omega), q_spo (by omega)]
        · rw [r3 x (by omega), q_un (by omega), q_un (by omega), q_un (by omega), q_un (by omega)]
        · obtain ⟨_, _, _, _, _, _, ⟨l1, l2, l3⟩⟩ := y42
          have ff : ∀ x, 5 ≤ x → x ≤ 8 → f9 x = y4 x := fun x a b => by rw [r3 x (by omega), q_un (by omega), q_un (by omega), q_un (by omega), q_un (by omega)]
          exact ⟨(ff 7 (by decide) (by decide)).trans l1, fun q => ⟨(ff 6 (by decide) (by decide)).trans (l2 q).1, (ff 5 (by decide) (by decide)).trans (l2 q).2⟩, fun q => ⟨(ff 6 (by decide) (by decide)).trans (l3 q).1, (ff 5 (by decide) (by decide)).trans (l3 q).2.1, fun q2 => (ff 8 (by decide) (by decide)).trans ((l3 q).2.2 q2)⟩⟩
      have gv5 : q_gv tg v w5 := sv.fv.gv.trans (fun x hx1 hx2 => by rw [hw5, q_un (by omega), q_spo hx2])
      have gu5 : q_gu u f9 := su.fu.gu.trans (fun x hx1 hx2 => by rw [r3 x (by omega), q_un (by omega), q_un (by omega), q_un (by omega), q_un (by omega)]; exact y43 x (by omega))
      have hn7 : n ≤ 700 := by have := h.1; have := h.2.2.2.1.1; omega
      have w5e : ∀ x, (x < 7086 ∧ ¬ (stO tg ≤ x ∧ x < stO tg + 590)) ∨ (7086 ≤ x ∧ x < 7090) → w5 x = v x := fun x hx => by rw [hw5, q_un (by omega), q_spo (by omega)]; exact sv x (by omega)
      have f9e : ∀ x, x < 5 → f9 x = u x := fun x hx => by rw [r3 x (by omega), q_un (by omega), q_un (by omega), q_un (by omega), q_un (by omega), y43 x (by omega)]; exact su x (by omega)
      have go := p_all ht n (k3 + 1) 0 T lpN lpN w5 f9 (by omega) (by decide) (by omega) hL5 ((w5e 7089 (by omega)).trans ct) (d2.same (fun _ _ => rfl) (fun x hx => by rw [hw5, q_vw, q_un (by omega)]; exact q_spi rfl hx)) ((w5e 7088 (by omega)).trans e88) ((w5e 7086 (by omega)).trans (e1.trans (f9e 1 (by decide)).symm)) ((w5e 7087 (by omega)).trans (e2.trans (f9e 2 (by decide)).symm)) (by have := q_lpN (n + 1) (by omega); omega) (q_lpN _ (by omega))
      have cE : (bnd (bnr (fX7_kind (vw w3 7093)) fun r20 => (if r20 = 1 then (ck (w3 7089) 12 <| nm (w3 7089).toNatClampNeg fun i23 => bnw (fX6_open (w3 (9899 + (0 : Int32).toNatClampNeg)) (w3 (9899 + (1 : Int32).toNatClampNeg)) (w3 (9899 + (2 : Int32).toNatClampNeg)) (vw w3 (stO i23))) fun w25 => nm (spl w3 (stO i23) 590 w25) fun v26 => bnw (fX7_advance (vw v26 7093)) fun w28 => nm (spl v26 7093 2806 w28) fun v29 => some ((1 : Int32), v29)) else (bnd (fX4_fail 1 w3) fun r32 w31 => ck r32 2 <| some (r32, w31)))) fun r29 w28 => (if r29 = 0 then (fX4_read_J43 0 w28) else (fX4_read_J38 w28))) = lp fX4_read_L47 (fun _ _ _ => none) lpN 1 (nI 0) w5 := by
        rw [ek3, hs, q_bnr, if_pos (show nI 1 = 1 from rfl), ct3, q_ck ht (by decide), nI_clamp (by omega), q_nm, g_0, g_1, g_2, v0, v1, v2, d1, q_bnw, q_nm, c_adv hL4 hk3, ← hw5, q_bnd, if_neg (by decide), c_J38]
      have rE : (bnd (fX9_semicolon y3) fun r19 w18 => (if r19 = 0 then (some ((0 : Int32), w18)) else (nm (w18 (7160 + (0 : Int32).toNatClampNeg)) fun x21 => nm (upd w18 (710 + (0 : Int32).toNatClampNeg) x21) fun v22 => nm (v22 (7160 + (0 : Int32).toNatClampNeg)) fun x23 => nm (upd v22 (710 + (1 : Int32).toNatClampNeg) x23) fun v24 => nm (v24 (7160 + (1 : Int32).toNatClampNeg)) fun x25 => nm (upd v24 (710 + (2 : Int32).toNatClampNeg) x25) fun v26 => nm (v26 (7160 + (2 : Int32).toNatClampNeg)) fun x27 => nm (upd v26 (710 + (3 : Int32).toNatClampNeg) x27) fun v28 => lp (fX9_setupText_L100) (fun _ _ => none) lpN 0 v28))) = (bnd (fX9_commandsText f9) fun r34 w33 => (if r34 < 0 then (some (0, w33)) else (some (1, w33)))) := by
        unfold fX9_semicolon fX9_isEnd fX9_isEnd_J16
        rw [et3, s1.mp hs, if_pos (show nI 2 = 2 from rfl), q_bnd, if_neg (by decide), y41, q_bnw, q_bnd, if_neg (by decide), r_opn (fun f => lp (fX9_setupText_L100) (fun _ _ => none) lpN 0 f), r_opl]
        exact r1
      rw [cE, rE]
      rw [show 41 - 0 = 41 from rfl] at go
      rw [r_ctx]
      rcases go with ⟨cn, w9, z9, b1, b2, b3, b4, b5, b6, b7, b8, b9⟩ | ⟨w9, z9, b1, b2, b3⟩
      · refine Or.inl ⟨w9, z9, b1, ?_, b4, gv5.trans b5, gu5.trans b6, b8, b9⟩
        rw [b2, q_bnd, if_neg (nI_pos (by omega))]
      · refine Or.inr ⟨w9, z9, b1, ?_, b3.pre gv5 gu5⟩
        rw [b2, q_bnd, if_pos (by decide)]
    · obtain ⟨w7, z7, f1, f2, hF⟩ := p_fail g3 1
      have nk1 : ¬ nI (q_kd B L n k3) = 1 := fun q => hs ((nI_eq (b := 1) (by omega) (by decide)).mp q)
      have n2 : ¬ y3 6 = 2 := fun q => by
        rw [et3] at q
        exact hs (s1.mpr ((nI_eq (b := 2) (by omega) (by decide)).mp q))
      refine Or.inr ⟨w7, z7, ?_, ?_, (hF.pre sv.fv su.fu).G⟩
      · rw [ek3, q_bnr, if_neg nk1, f1, q_bnd, show (ck 0 2 <| some ((0 : Int32), w7)) = some (0, w7) from rfl, q_bnd, if_pos rfl, c_J43]
      · unfold fX9_semicolon fX9_isEnd
        rw [if_neg n2, f2, q_bnd, if_pos rfl, q_bnd, if_pos rfl, q_bnd, if_pos rfl]
  · obtain ⟨w, z, w1, z1, hF⟩ := p_fail h 1
    refine Or.inr ⟨w, z, ?_, ?_, hF.G⟩
    · unfold fX4_readHead
      rw [ek, q_bnr, if_neg (show ¬ nI (q_kd B L n 0) = 5 from fun q => h5 ((nI_eq (b := 5) (by omega) (by decide)).mp q)), w1, q_bnd, show (ck 0 2 <| some ((0 : Int32), w)) = some (0, w) from rfl, q_bnd, if_pos rfl, c_J43]
    · unfold fX9_setupText fX9_expects
      rw [q_ckn (by decide), w27, if_neg h5, q_bnr, if_pos rfl, z1, q_bnd, show (ck 0 2 <| some ((0 : Int32), z)) = some (0, z) from rfl, q_bnd, if_pos rfl]
