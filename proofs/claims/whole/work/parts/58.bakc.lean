/-! ===== layer 2: the class bakes ===== -/
section
variable {T nf nb nt no : Nat} {Ls : Nat → List (Nat × Nat)} {r c u : bM}
theorem c_useOne {t b l f k : Nat} {L : List (Nat × Nat)} {d : bM} {pf am : Int32} (ht : t < 24) (hb : b < 6) (hf : f < 6) (hk : k < 2 ^ 30) (hL : q_lo L) (hq : q_2 (vw d 6) f L) (e1 : d (278 + t) = nI b) (e2 : d (212 + 6 * b + f) = am) (e3 : d (7 + f) = pf) :
    ∃ e, fX6_useFlour (nI t) (nI f) (nI l) (nI k) d = some e ∧ q_2 (vw e 6) f (qD k L) ∧ e (163 + f) = d (163 + f) + (nI (qW k L) - nI k * pf) ∧ e (169 + f) = d (169 + f) + (nI k - am * nI l) * pf ∧ e (470 + 5 * t) = d (470 + 5 * t) + (nI (qW k L) - nI k * pf) ∧ e (471 + 5 * t) = d (471 + 5 * t) + (nI k - am * nI l) * pf ∧ ∀ x, x ≠ 163 + f ∧ x ≠ 169 + f ∧ x ≠ 470 + 5 * t ∧ x ≠ 471 + 5 * t ∧ x ≠ 13 + f ∧ ¬ (19 + 12 * f ≤ x ∧ x < 31 + 12 * f) ∧ ¬ (91 + 12 * f ≤ x ∧ x < 103 + 12 * f) → e x = d x := by
  generalize hA : nI (qW k L) - nI k * pf = A
  generalize hB : (nI k - am * nI l) * pf = B
  have hl := hL.1
  have hV : ∃ v, v = upd (upd (upd (upd d (470 + 5 * t) (d (470 + 5 * t) + A)) (471 + 5 * t) (d (471 + 5 * t) + B)) (163 + f) (d (163 + f) + A)) (169 + f) (d (169 + f) + B) := ⟨_, rfl⟩
  obtain ⟨v, hv⟩ := hV
  have hvd : ∀ x, x ≠ 163 + f ∧ x ≠ 169 + f ∧ x ≠ 470 + 5 * t ∧ x ≠ 471 + 5 * t → v x = d x := fun x hx => by rw [hv]; simp (disch := omega) only [pk_un]
  have hq2 : q_2 (vw v 6) f L := hq.keep (hvd _ (by omega)) (fun j hj => ⟨hvd _ (by omega), hvd _ (by omega)⟩)
  obtain ⟨w, w0, w1, w2⟩ := c_take hf hk hL hq2
  have hsp : ∀ x, 6 ≤ x ∧ x < 175 → spl v 6 169 w x = w (x - 6) := fun x hx => q_spi (by omega) (by omega)
  have hso : ∀ x, ¬ (6 ≤ x ∧ x < 175) → spl v 6 169 w x = v x := fun x hx => q_spo (by omega)
  have hsv : ∀ x, x ≠ 13 + f ∧ ¬ (19 + 12 * f ≤ x ∧ x < 31 + 12 * f) ∧ ¬ (91 + 12 * f ≤ x ∧ x < 103 + 12 * f) → spl v 6 169 w x = v x := fun x hx => by
    by_cases e : 6 ≤ x ∧ x < 175
    · rw [hsp x e, w2 (x - 6) (by omega) (by omega) (by omega)]
      exact q_at (by omega)
    · exact hso x e
  refine ⟨spl v 6 169 w, ?_, ?_, ?_, ?_, ?_, ?_, fun x hx => ?_⟩
  · unfold fX6_useFlour
    rw [show (470 + 5 * (nI t).toNatClampNeg + (0 : Int32).toNatClampNeg) = 470 + 5 * t by rw [nI_clamp (by omega)]; rfl, show (470 + 5 * (nI t).toNatClampNeg + (1 : Int32).toNatClampNeg) = 471 + 5 * t by rw [nI_clamp (by omega)]; show 470 + 5 * t + 1 = _; omega]
    have e4 : vw d 6 (7 + f) = vw d 6 (7 + f) := rfl
    rw [q_ck ht (by decide), nI_clamp (show t < 2 ^ 31 by omega), e1, q_ck hb (by decide), q_ck hf (by decide), nI_clamp (show b < 2 ^ 31 by omega), nI_clamp (show f < 2 ^ 31 by omega), e2, q_nm, c_paid hf hk hL hq, q_bnr, q_ck hf (by decide), e3, hA, q_nm, q_ck hf (by decide), hB, q_nm, q_ck ht (by decide), q_nm, q_nm, q_ck ht (by decide), q_nm, q_nm, q_ck hf (by decide), q_nm, q_ck hf (by decide), q_nm, q_ck hf (by decide), q_nm, q_ck hf (by decide), q_nm]
    have ev : upd (upd (upd (upd d (470 + 5 * t) (d (470 + 5 * t) + A)) (471 + 5 * t) (upd d (470 + 5 * t) (d (470 + 5 * t) + A) (471 + 5 * t) + B)) (163 + f) (upd (upd d (470 + 5 * t) (d (470 + 5 * t) + A)) (471 + 5 * t) (upd d (470 + 5 * t) (d (470 + 5 * t) + A) (471 + 5 * t) + B) (163 + f) + A)) (169 + f) (upd (upd (upd d (470 + 5 * t) (d (470 + 5 * t) + A)) (471 + 5 * t) (upd d (470 + 5 * t) (d (470 + 5 * t) + A) (471 + 5 * t) + B)) (163 + f) (upd (upd d (470 + 5 * t) (d (470 + 5 * t) + A)) (471 + 5 * t) (upd d (470 + 5 * t) (d (470 + 5 * t) + A) (471 + 5 * t) + B) (163 + f) + A) (169 + f) + B) = v := by
      rw [hv]
      simp (disch := omega) only [pk_un]
    rw [ev, w0, q_bnw, q_nm]
  · have e : vw (spl v 6 169 w) 6 = spl (vw v 6) 0 169 w := q_vspl v w 6 0 169
    have e7 : ∀ y, y < 169 → vw (spl v 6 169 w) 6 y = w y := fun y hy => q_vspl0 hy
    refine ⟨(e7 _ (by omega)).trans w1.1, fun j x hx => ?_⟩
    have hj := q_ix hx
    have := qD_len L k
    rw [e7 _ (by omega), e7 _ (by omega)]
    exact w1.2 j x hx
  · rw [hsv _ (by omega), hv]
    simp (disch := omega) only [pk_un, pk_us]
  · rw [hsv _ (by omega), hv, pk_us]
  · rw [hsv _ (by omega), hv]
    simp (disch := omega) only [pk_un, pk_us]
  · rw [hsv _ (by omega), hv]
    simp (disch := omega) only [pk_un, pk_us]
  · rw [hsv x (by omega)]
    exact hvd x (by omega)
/-- all flours of a batch, and the three other gaps -/
theorem c_useFlours {t b l M : Nat} {bu y za : Int32} {w : Nat → Nat} {d0 : bM} (ht : t < 24) (hb : b < nb) (R : q_R nf nb r) (en : d0 6 = nI nf) (ebt : d0 (278 + t) = nI b) (eam : ∀ f, f < 6 → d0 (212 + 6 * b + f) = nI (qam r b f)) (emf : d0 (194 + b) = nI (qmf r b)) (efp : ∀ f, f < nf → d0 (7 + f) = r (40 + 28 * f)) (est : d0 (188 + b) = qstd nf r b) (ebs : d0 249 = r 2) (hw : ∀ f, f < nf → w f < 2 ^ 30 ∧ quse r b f (nI l) y = nI (w f) ∧ q_lo (Ls f) ∧ q_2 (vw d0 6) f (Ls f)) (z0 : d0 (470 + 5 * t) = 0) (z1 : d0 (471 + 5 * t) = 0) :
    ∃ e, lp (fX6_bakeBatch_L200 (nI b) (nI l) bu y za (nI t) (nI M)) (fun _ _ => none) lpN 0 d0 = some (nI t, e) ∧ (∀ f, f < nf → q_2 (vw e 6) f (qD (w f) (Ls f)) ∧ e (163 + f) = d0 (163 + f) + qg0 r w Ls f ∧ e (169 + f) = d0 (169 + f) + qg1 r w b l f) ∧ e (470 + 5 * t) = qS (qg0 r w Ls) nf ∧ e (471 + 5 * t) = qS (qg1 r w b l) nf ∧ e (472 + 5 * t) = d0 (422 + t) - nI M * r 2 ∧ e (473 + 5 * t) = za * r 2 ∧ e (474 + 5 * t) = bu * qstd nf r b ∧ ∀ x, ¬ (470 + 5 * t ≤ x ∧ x < 475 + 5 * t) ∧ ¬ (13 ≤ x ∧ x < 175) → e x = d0 x := by
  have h1 := R.1
  have h2 := R.2.1
  have key := q_for (F := fX6_bakeBatch_L200 (nI b) (nI l) bu y za (nI t) (nI M)) (z := fun _ _ => none) (n := nf) (Sp := fun i K => ∀ d : bM, (∀ f, f < i → q_2 (vw d 6) f (qD (w f) (Ls f)) ∧ d (163 + f) = d0 (163 + f) + qg0 r w Ls f ∧ d (169 + f) = d0 (169 + f) + qg1 r w b l f) → (∀ f, i ≤ f → f < nf → q_2 (vw d 6) f (Ls f) ∧ d (163 + f) = d0 (163 + f) ∧ d (169 + f) = d0 (169 + f)) → d (470 + 5 * t) = qS (qg0 r w Ls) i → d (471 + 5 * t) = qS (qg1 r w b l) i → (∀ x, x ≠ 470 + 5 * t ∧ x ≠ 471 + 5 * t ∧ ¬ (13 ≤ x ∧ x < 175) → d x = d0 x) → ∃ e, K (nI i) d = some (nI t, e) ∧ (∀ f, f < nf → q_2 (vw e 6) f (qD (w f) (Ls f)) ∧ e (163 + f) = d0 (163 + f) + qg0 r w Ls f ∧ e (169 + f) = d0 (169 + f) + qg1 r w b l f) ∧ e (470 + 5 * t) = qS (qg0 r w Ls) nf ∧ e (471 + 5 * t) = qS (qg1 r w b l) nf ∧ e (472 + 5 * t) = d0 (422 + t) - nI M * r 2 ∧ e (473 + 5 * t) = za * r 2 ∧ e (474 + 5 * t) = bu * qstd nf r b ∧ ∀ x, ¬ (470 + 5 * t ≤ x ∧ x < 475 + 5 * t) ∧ ¬ (13 ≤ x ∧ x < 175) → e x = d0 x) (fun K d g1 _ g2 g3 g4 => by
    have hsame : ∀ x, ¬ (472 + 5 * t ≤ x ∧ x < 475 + 5 * t) → upd (upd (upd d (472 + 5 * t) (d0 (422 + t) - nI M * r 2)) (473 + 5 * t) (za * r 2)) (474 + 5 * t) (bu * qstd nf r b) x = d x := fun x hx => by rw [q_un (by omega), q_un (by omega), q_un (by omega)]
    refine ⟨upd (upd (upd d (472 + 5 * t) (d0 (422 + t) - nI M * r 2)) (473 + 5 * t) (za * r 2)) (474 + 5 * t) (bu * qstd nf r b), ?_, ?_, ?_, ?_, ?_, ?_, pk_us, ?_⟩
    · unfold fX6_bakeBatch_L200
      rw [show (470 + 5 * (nI t).toNatClampNeg + (2 : Int32).toNatClampNeg) = 472 + 5 * t by rw [nI_clamp (by omega)]; show 470 + 5 * t + 2 = _; omega, show (470 + 5 * (nI t).toNatClampNeg + (3 : Int32).toNatClampNeg) = 473 + 5 * t by rw [nI_clamp (by omega)]; show 470 + 5 * t + 3 = _; omega, show (470 + 5 * (nI t).toNatClampNeg + (4 : Int32).toNatClampNeg) = 474 + 5 * t by rw [nI_clamp (by omega)]; show 470 + 5 * t + 4 = _; omega]
      rw [g4 6 (by omega), en, if_pos (Int32.le_refl _), q_ck ht (by decide), nI_clamp (show t < 2 ^ 31 by omega), g4 (422 + t) (by omega), g4 249 (by omega), ebs, q_nm, q_nm, q_un (by omega), g4 249 (by omega), ebs, q_nm, q_nm, q_ck (by omega) (by decide), nI_clamp (show b < 2 ^ 31 by omega), q_un (by omega), q_un (by omega), g4 (188 + b) (by omega), est, q_nm, q_nm]
    · intro f hf
      obtain ⟨m1, m2, m3⟩ := g1 f hf
      have := Nat.le_trans (qD_len (Ls f) (w f)) (hw f hf).2.2.1.1
      refine ⟨m1.keep (hsame _ (by omega)) (fun j hj => ⟨hsame _ (by omega), hsame _ (by omega)⟩), ?_, ?_⟩
      · rw [hsame _ (by omega)]; exact m2
      · rw [hsame _ (by omega)]; exact m3
    · rw [hsame _ (by omega)]; exact g2
    · rw [hsame _ (by omega)]; exact g3
    · rw [q_un (by omega), q_un (by omega), pk_us]
    · rw [q_un (by omega), pk_us]
    · intro x hx
      rw [hsame x (by omega)]
      exact g4 x (by omega)) (fun i K hi hK d g1 g1b g2 g3 g4 => by
    obtain ⟨w1, w2, w3, w4⟩ := hw i hi
    obtain ⟨n1, n2, n3⟩ := g1b i (Nat.le_refl _) hi
    have l12 := w3.1
    have eu : fX1_unitsFor (nI b) (nI i) (nI l) y (vw d 175) = some (nI (w i)) := by
      rw [c_unitsFor R hb (by omega) ((g4 _ (by omega)).trans (eam i (by omega))) ((g4 _ (by omega)).trans emf), w2]
    obtain ⟨e, s0, s1, s2, s3, s4, s5, s6⟩ := c_useOne (d := d) (l := l) (k := w i) ht (show b < 6 by omega) (show i < 6 by omega) w1 w3 n1 ((g4 _ (by omega)).trans ebt) ((g4 _ (by omega)).trans (eam i (by omega))) ((g4 _ (by omega)).trans (efp i hi))
    have e0 : nI (qW (w i) (Ls i)) - nI (w i) * r (40 + 28 * i) = qg0 r w Ls i := rfl
    have e1 : (nI (w i) - nI (qam r b i) * nI l) * r (40 + 28 * i) = qg1 r w b l i := rfl
    rw [e0] at s2 s4
    rw [e1] at s3 s5
    obtain ⟨e9, q0, q1⟩ := hK e (fun f hf => by
      by_cases ef : f = i
      · rw [ef]
        exact ⟨s1, by rw [s2, n2], by rw [s3, n3]⟩
      · obtain ⟨m1, m2, m3⟩ := g1 f (by omega)
        have := Nat.le_trans (qD_len (Ls f) (w f)) (hw f (by omega)).2.2.1.1
        refine ⟨m1.keep (s6 _ (by omega)) (fun j hj => ⟨s6 _ (by omega), s6 _ (by omega)⟩), ?_, ?_⟩
        · rw [s6 _ (by omega)]; exact m2
        · rw [s6 _ (by omega)]; exact m3) (fun f hf1 hf2 => by
      obtain ⟨m1, m2, m3⟩ := g1b f (by omega) hf2
      have := (hw f hf2).2.2.1.1
      refine ⟨m1.keep (s6 _ (by omega)) (fun j hj => ⟨s6 _ (by omega), s6 _ (by omega)⟩), ?_, ?_⟩
      · rw [s6 _ (by omega)]; exact m2
      · rw [s6 _ (by omega)]; exact m3) (by rw [s4, g2]; rfl) (by rw [s5, g3]; rfl) (fun x hx => by
      rw [s6 x (by omega)]
      exact g4 x hx)
    refine ⟨e9, ?_, q1⟩
    unfold fX6_bakeBatch_L200
    rw [g4 6 (by omega), en, if_neg (nI_ge hi (by omega)), eu, q_bnr, s0, q_bnw, q_nm, q_add1]
    exact q0) lpN 0 (Nat.zero_le _) (q_lpN _ (by omega)) d0 (fun f hf => absurd hf (Nat.not_lt_zero _)) (fun f _ hf => ⟨(hw f hf).2.2.2, rfl, rfl⟩) z0 z1 (fun _ _ => rfl)
  exact key
theorem c_bake (h : q_S T nf nb nt no Ls r c) {b l s M : Nat} {bu y za : Int32} {w : Nat → Nat} (hb : b < nb) (hl : l ≤ 20) (h0 : qob nf nt Ls r b (nI l) y za = 0) (hw : ∀ f, f < nf → w f < 2 ^ 30 ∧ quse r b f (nI l) y = nI (w f)) (hs : qst no r (r 4) = nI s) (hs2 : s < 2 ^ 30) (hM : r (209 + 4 * b) * nI l + za = nI M) (hM2 : M < 10000) :
    ∃ d, fX6_bakeBatch (nI b) (nI l) bu y za c = some (nI nt, d) ∧ (d (250 + qov no r) = nI (s + M) ∧ d 1 = c 1 - qpm r s M ∧ d (422 + nt) = qpm r s M ∧ d (278 + nt) = nI b ∧ d (302 + nt) = nI l ∧ d (326 + nt) = bu ∧ d (350 + nt) = nI s ∧ d (374 + nt) = nI M ∧ d (398 + nt) = qS (fun f => nI (qW (w f) (Ls f))) nf ∧ d (446 + nt) = qS (fun f => nI (qW (w f) (Ls f))) nf + qpm r s M - (nI l - bu) * qstd nf r b) ∧ (d (470 + 5 * nt) = qS (qg0 r w Ls) nf ∧ d (471 + 5 * nt) = qS (qg1 r w b l) nf ∧ d (472 + 5 * nt) = qpm r s M - nI M * r 2 ∧ d (473 + 5 * nt) = za * r 2 ∧ d (474 + 5 * nt) = bu * qstd nf r b ∧ d (200 + b) = c (200 + b) + (nI l - bu) ∧ d 277 = nI (nt + 1)) ∧ (∀ f, f < nf → q_2 (vw d 6) f (qD (w f) (Ls f)) ∧ d (163 + f) = c (163 + f) + qg0 r w Ls f ∧ d (169 + f) = c (169 + f) + qg1 r w b l f) ∧ (∀ x, x ≠ 250 + qov no r ∧ x ≠ 1 ∧ x ≠ 422 + nt ∧ x ≠ 278 + nt ∧ x ≠ 302 + nt ∧ x ≠ 326 + nt ∧ x ≠ 350 + nt ∧ x ≠ 374 + nt ∧ x ≠ 398 + nt ∧ x ≠ 446 + nt ∧ ¬ (470 + 5 * nt ≤ x ∧ x < 475 + 5 * nt) ∧ x ≠ 200 + b ∧ x ≠ 277 ∧ ¬ (13 ≤ x ∧ x < 175) → d x = c x) := by
  have h1 := h.hnf
  have h2 := h.hnb
  have h4 := h.hno
  have ho := qov_lt (r := r) h4
  have hnt : nt < 24 := (qob_0 h hl h0).1
  generalize hP : qS (fun f => nI (qW (w f) (Ls f))) nf = P
  generalize hC : qpm r s M = C
  -- the numbers ahead of the loop
  have hV : ∃ v, v = upd (upd (upd (upd c 277 (nI (nt + 1))) (278 + nt) (nI b)) (302 + nt) (nI l)) (326 + nt) bu := ⟨_, rfl⟩
  obtain ⟨v, hv⟩ := hV
  have hvc : ∀ x, x ≠ 277 ∧ x ≠ 278 + nt ∧ x ≠ 302 + nt ∧ x ≠ 326 + nt → v x = c x := fun x hx => by rw [hv]; simp (disch := omega) only [pk_un]
  have ef : fX6_flourCostOf (nI b) (nI l) y v = some P := by
    rw [← hP]
    exact c_flourCost (c := v) (Ls := Ls) h1 w (fun f hf => (hw f hf).1) ((hvc _ (by omega)).trans h.cnf) (fun f hf => ⟨h.lo f hf, (h.clt f hf).keep (hvc _ (by omega)) (fun j hj => by have := (h.lo f hf).1; exact ⟨hvc _ (by omega), hvc _ (by omega)⟩)⟩) (fun f hf => by
      rw [c_unitsFor h.R hb (by omega) ((hvc _ (by omega)).trans (h.cam b f hb (by omega))) ((hvc _ (by omega)).trans (h.cmf b hb)), (hw f hf).2])
  have hX : ∃ x, x = upd (upd (upd (upd (upd (upd v (398 + nt) P) (250 + qov no r) (nI (s + M))) 1 (c 1 - C)) (350 + nt) (nI s)) (374 + nt) (nI M)) (422 + nt) C := ⟨_, rfl⟩
  obtain ⟨x, hx⟩ := hX
  have ex : fX6_useOven (nI nt) (nI M) (upd v (398 + nt) P) = some x := by
    have O : q_O no r (upd v (398 + nt) P) := ⟨h4, by rw [q_un (by omega), hvc _ (by omega)]; exact h.cno, fun o ho => by rw [q_un (by omega), hvc _ (by omega)]; exact h.cfr o ho, fun j hj => by rw [q_un (by omega), hvc _ (by omega)]; exact h.crt j hj⟩
    have e0 : upd v (398 + nt) P 0 = r 4 := by rw [q_un (by omega), hvc _ (by omega)]; exact h.cck
    have e1 : v 1 = c 1 := hvc _ (by omega)
    unfold fX6_useOven
    rw [c_firstFree O, q_bnr, e0, c_startFrom O, q_bnr, hs, c_priceOf O (by omega) (by omega), q_bnr, hC, nI_add, q_nm, q_ck (by omega) (by decide), nI_clamp (show qov no r < 2 ^ 31 by omega), q_nm, q_nm, q_nm, q_ck hnt (by decide), nI_clamp (show nt < 2 ^ 31 by omega), q_nm, q_ck hnt (by decide), q_nm, q_ck hnt (by decide), q_nm, hx]
    simp (disch := omega) only [pk_un, e1]
  have hxv : ∀ y, y ≠ 398 + nt ∧ y ≠ 250 + qov no r ∧ y ≠ 1 ∧ y ≠ 350 + nt ∧ y ≠ 374 + nt ∧ y ≠ 422 + nt → x y = v y := fun y hy => by rw [hx]; simp (disch := omega) only [pk_un]
  have hD : ∃ d, d = upd (upd (upd (upd x (200 + b) (c (200 + b) + (nI l - bu))) (446 + nt) (P + C - (nI l - bu) * qstd nf r b)) (470 + 5 * nt) 0) (471 + 5 * nt) 0 := ⟨_, rfl⟩
  obtain ⟨d, hd⟩ := hD
  have hdx : ∀ y, y ≠ 200 + b ∧ y ≠ 446 + nt ∧ y ≠ 470 + 5 * nt ∧ y ≠ 471 + 5 * nt → d y = x y := fun y hy => by rw [hd]; simp (disch := omega) only [pk_un]
  have hdc : ∀ y, y ≠ 250 + qov no r ∧ y ≠ 1 ∧ y ≠ 422 + nt ∧ y ≠ 278 + nt ∧ y ≠ 302 + nt ∧ y ≠ 326 + nt ∧ y ≠ 350 + nt ∧ y ≠ 374 + nt ∧ y ≠ 398 + nt ∧ y ≠ 446 + nt ∧ y ≠ 470 + 5 * nt ∧ y ≠ 471 + 5 * nt ∧ y ≠ 200 + b ∧ y ≠ 277 → d y = c y := fun y hy => by rw [hdx y (by omega), hxv y (by omega), hvc y (by omega)]
  obtain ⟨e, k0, k1, k2, k3, k4, k5, k6, k7⟩ := c_useFlours (d0 := d) (l := l) (M := M) (bu := bu) (y := y) (za := za) (w := w) (Ls := Ls) hnt hb h.R ((hdc _ (by omega)).trans h.cnf) (by rw [hdx _ (by omega), hxv _ (by omega), hv]; simp (disch := omega) only [pk_un, pk_us]) (fun f hf => (hdc _ (by omega)).trans (h.cam b f hb hf)) ((hdc _ (by omega)).trans (h.cmf b hb)) (fun f hf => (hdc _ (by omega)).trans (h.cfp f hf)) ((hdc _ (by omega)).trans (h.cst b hb)) ((hdc _ (by omega)).trans h.cbs) (fun f hf => ⟨(hw f hf).1, (hw f hf).2, h.lo f hf, (h.clt f hf).keep (hdc _ (by omega)) (fun j hj => by have := (h.lo f hf).1; exact ⟨hdc _ (by omega), hdc _ (by omega)⟩)⟩) (by rw [hd, q_un (by omega), pk_us]) (by rw [hd, pk_us])
  have hC2 : d (422 + nt) = C := by rw [hdx _ (by omega), hx, pk_us]
  rw [hC2] at k4
  refine ⟨e, ?_, ⟨?_, ?_, ?_, ?_, ?_, ?_, ?_, ?_, ?_, ?_⟩, ⟨k2, k3, k4, k5, k6, ?_, ?_⟩, ?_, ?_⟩
  · have e182 : upd v (398 + nt) P (182 + b) = r (209 + 4 * b) := by rw [q_un (by omega), hvc _ (by omega)]; exact h.cbm b hb
    have x200 : x (200 + b) = c (200 + b) := by rw [hxv _ (by omega), hvc _ (by omega)]
    have x398 : x (398 + nt) = P := by rw [hx]; simp (disch := omega) only [pk_un, pk_us]
    have x422 : x (422 + nt) = C := by rw [hx, pk_us]
    have x188 : x (188 + b) = qstd nf r b := by rw [hxv _ (by omega), hvc _ (by omega)]; exact h.cst b hb
    unfold fX6_bakeBatch
    rw [c_obstacle h hb hl, q_bnr, h0, if_pos rfl, h.cnt, q_nm, q_add1, q_nm, q_nm, q_ck hnt (by decide), nI_clamp (show nt < 2 ^ 31 by omega), q_nm, q_ck hnt (by decide), q_nm, q_ck hnt (by decide), q_nm, ← hv, ef, q_bnr, q_ck hnt (by decide), q_nm, q_ck (show b < 6 by omega) (by decide), nI_clamp (show b < 2 ^ 31 by omega), e182, hM, q_nm, ex, q_bnw, q_nm, q_ck (show b < 6 by omega) (by decide), x200, q_nm, q_ck (show b < 6 by omega) (by decide), q_nm, q_ck hnt (by decide), q_ck hnt (by decide), q_ck (show b < 6 by omega) (by decide), q_un (show 398 + nt ≠ 200 + b by omega), q_un (show 422 + nt ≠ 200 + b by omega), q_un (show 188 + b ≠ 200 + b by omega), x398, x422, x188, q_nm, q_ck hnt (by decide), q_nm, q_ck hnt (by decide), show 470 + 5 * nt + (0 : Int32).toNatClampNeg = 470 + 5 * nt from rfl, show 470 + 5 * nt + (1 : Int32).toNatClampNeg = 471 + 5 * nt by (show 470 + 5 * nt + 1 = _; omega), q_nm, q_nm]
    rw [hd] at k0
    exact k0
  · rw [k7 _ (by omega), hdx _ (by omega), hx]; simp (disch := omega) only [pk_un, pk_us]
  · rw [k7 _ (by omega), hdx _ (by omega), hx]; simp (disch := omega) only [pk_un, pk_us]
  · rw [k7 _ (by omega)]; exact hC2
  · rw [k7 _ (by omega), hdx _ (by omega), hxv _ (by omega), hv]; simp (disch := omega) only [pk_un, pk_us]
  · rw [k7 _ (by omega), hdx _ (by omega), hxv _ (by omega), hv]; simp (disch := omega) only [pk_un, pk_us]
  · rw [k7 _ (by omega), hdx _ (by omega), hxv _ (by omega), hv, pk_us]
  · rw [k7 _ (by omega), hdx _ (by omega), hx]; simp (disch := omega) only [pk_un, pk_us]
  · rw [k7 _ (by omega), hdx _ (by omega), hx]; simp (disch := omega) only [pk_un, pk_us]
  · rw [k7 _ (by omega), hdx _ (by omega), hx]; simp (disch := omega) only [pk_un, pk_us]
  · rw [k7 _ (by omega), hd]; simp (disch := omega) only [pk_un, pk_us]
  · rw [k7 _ (by omega), hd]; simp (disch := omega) only [pk_un, pk_us]
  · rw [k7 _ (by omega), hdx _ (by omega), hxv _ (by omega), hv]; simp (disch := omega) only [pk_un, pk_us]
  · intro f hf
    obtain ⟨m1, m2, m3⟩ := k1 f hf
    exact ⟨m1, by rw [m2, hdc _ (by omega)], by rw [m3, hdc _ (by omega)]⟩
  · intro y hy
    rw [k7 y (by omega)]
    exact hdc y (by omega)
end
