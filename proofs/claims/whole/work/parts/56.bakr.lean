/-! ===== layer 2: the reference bakes ===== -/
def qg0 (r : bM) (w : Nat → Nat) (Ls : Nat → List (Nat × Nat)) (f : Nat) : Int32 := nI (qW (w f) (Ls f)) - nI (w f) * r (40 + 28 * f)
def qg1 (r : bM) (w : Nat → Nat) (b l : Nat) (f : Nat) : Int32 := (nI (w f) - nI (qam r b f) * nI l) * r (40 + 28 * f)
section
variable {T nf nb nt no : Nat} {Ls : Nat → List (Nat × Nat)} {r c u : bM}
/-- one flour of a batch -/
theorem r_useOne {t b l f k : Nat} {L : List (Nat × Nat)} {y9 : Int32} {d0 : bM} {k6 : Int32 → Int32 → bM → Option (Int32 × bM)} {z : Int32 → Int32 → Int32 → bM → Option (Int32 × bM)} (ht : t < 24) (hb : b < nb) (hf : f < nf) (R : q_R nf nb (vw d0 710)) (hL : q_lo L) (hk : k ≤ qUn L) (hq : q_9 (vw d0 710) f L) :
    ∃ e, lp (fX9_useFlour_L44 (nI t) (nI b) (nI l) (nI f) k6 (nI k) (vw d0 710 (40 + 28 * f))) z lpN y9 0 0 d0 = k6 (y9 + nI (qW k L)) (nI (f + 1)) e ∧ q_9 (vw e 710) f (qD k L) ∧ vw e 710 (42 + 28 * f) = vw d0 710 (42 + 28 * f) + (nI (qW k L) - nI k * vw d0 710 (40 + 28 * f)) ∧ vw e 710 (43 + 28 * f) = vw d0 710 (43 + 28 * f) + (nI k - nI (qam (vw d0 710) b f) * nI l) * vw d0 710 (40 + 28 * f) ∧ vw e 710 (238 + 11 * t) = vw d0 710 (238 + 11 * t) + (nI (qW k L) - nI k * vw d0 710 (40 + 28 * f)) ∧ vw e 710 (239 + 11 * t) = vw d0 710 (239 + 11 * t) + (nI k - nI (qam (vw d0 710) b f) * nI l) * vw d0 710 (40 + 28 * f) ∧ ∀ x, x ≠ 948 + 11 * t ∧ x ≠ 949 + 11 * t ∧ ¬ (751 + 28 * f ≤ x ∧ x < 778 + 28 * f) → e x = d0 x := by
  have h1 := R.1
  have h2 := R.2.1
  have hU : qUn L ≤ 1188 := by have := qUn_le (fun x hx => (hL.2 x hx).2.1); have := hL.1; omega
  have hp : ∀ x, x ∈ L → 1 ≤ x.1 := fun x hx => (hL.2 x hx).1
  have key := q_for (F := fX9_useFlour_L44 (nI t) (nI b) (nI l) (nI f) k6 (nI k) (vw d0 710 (40 + 28 * f))) (z := z) (n := k) (Sp := fun i K => ∀ d : bM, q_9 (vw d 710) f (qD i L) → (∀ x, ¬ (751 + 28 * f ≤ x ∧ x < 778 + 28 * f) ∨ x = 752 + 28 * f ∨ x = 753 + 28 * f → d x = d0 x) → ∃ e, K (y9 + nI (qW i L)) (nI (qW i L) - nI i * vw d0 710 (40 + 28 * f)) (nI i) d = k6 (y9 + nI (qW k L)) (nI (f + 1)) e ∧ q_9 (vw e 710) f (qD k L) ∧ vw e 710 (42 + 28 * f) = vw d0 710 (42 + 28 * f) + (nI (qW k L) - nI k * vw d0 710 (40 + 28 * f)) ∧ vw e 710 (43 + 28 * f) = vw d0 710 (43 + 28 * f) + (nI k - nI (qam (vw d0 710) b f) * nI l) * vw d0 710 (40 + 28 * f) ∧ vw e 710 (238 + 11 * t) = vw d0 710 (238 + 11 * t) + (nI (qW k L) - nI k * vw d0 710 (40 + 28 * f)) ∧ vw e 710 (239 + 11 * t) = vw d0 710 (239 + 11 * t) + (nI k - nI (qam (vw d0 710) b f) * nI l) * vw d0 710 (40 + 28 * f) ∧ ∀ x, x ≠ 948 + 11 * t ∧ x ≠ 949 + 11 * t ∧ ¬ (751 + 28 * f ≤ x ∧ x < 778 + 28 * f) → e x = d0 x) (fun K d hd hO => by
    have ha : ∀ x, x ≠ 41 + 28 * f → ¬ (44 + 28 * f ≤ x ∧ x < 68 + 28 * f) → vw d 710 x = vw d0 710 x := fun x g1 g2 => hO _ (by omega)
    have ea : fX9_amount (nI b) (nI f) d = some (nI (qam (vw d0 710) b f)) := by
      rw [r_amount (R.keep (ha _ (by omega) (by omega)) (fun b hb => ha _ (by omega) (by omega))) hb (by omega), qam_keep (ha _ (by omega) (by omega))]
    have g2 : ∀ (v : bM) (x : Int32), fX9_addToFlour (nI f) 2 x v = some (upd v (752 + 28 * f) (v (752 + 28 * f) + x)) := fun v x => by
      have g := r_addToFlour (u := v) (x := x) (show f < 6 by omega) (show 2 < 28 by decide)
      rw [show 710 + (40 + 28 * f + 2) = 752 + 28 * f by omega] at g
      exact g
    have g3 : ∀ (v : bM) (x : Int32), fX9_addToFlour (nI f) 3 x v = some (upd v (753 + 28 * f) (v (753 + 28 * f) + x)) := fun v x => by
      have g := r_addToFlour (u := v) (x := x) (show f < 6 by omega) (show 3 < 28 by decide)
      rw [show 710 + (40 + 28 * f + 3) = 753 + 28 * f by omega] at g
      exact g
    have g4 : ∀ v : bM, fX9_batch (nI t) 6 v = some (v (948 + 11 * t)) := fun v => by
      have g := r_batch (u := v) ht (show 6 < 11 by decide)
      rw [show 710 + (232 + 11 * t + 6) = 948 + 11 * t by omega] at g
      exact g
    have g5 : ∀ v : bM, fX9_batch (nI t) 7 v = some (v (949 + 11 * t)) := fun v => by
      have g := r_batch (u := v) ht (show 7 < 11 by decide)
      rw [show 710 + (232 + 11 * t + 7) = 949 + 11 * t by omega] at g
      exact g
    have g6 : ∀ (v : bM) (x : Int32), fX9_putBatch (nI t) 6 x v = some (upd v (948 + 11 * t) x) := fun v x => by
      have g := r_putBatch (u := v) (x := x) ht (show 6 < 11 by decide)
      rw [show 710 + (232 + 11 * t + 6) = 948 + 11 * t by omega] at g
      exact g
    have g7 : ∀ (v : bM) (x : Int32), fX9_putBatch (nI t) 7 x v = some (upd v (949 + 11 * t) x) := fun v x => by
      have g := r_putBatch (u := v) (x := x) ht (show 7 < 11 by decide)
      rw [show 710 + (232 + 11 * t + 7) = 949 + 11 * t by omega] at g
      exact g
    have v1 : d (752 + 28 * f) = vw d0 710 (42 + 28 * f) := (hO _ (by omega)).trans (congrArg d0 (by omega))
    have v2 : d (753 + 28 * f) = vw d0 710 (43 + 28 * f) := (hO _ (by omega)).trans (congrArg d0 (by omega))
    have v3 : d (948 + 11 * t) = vw d0 710 (238 + 11 * t) := (hO _ (by omega)).trans (congrArg d0 (by omega))
    have v4 : d (949 + 11 * t) = vw d0 710 (239 + 11 * t) := (hO _ (by omega)).trans (congrArg d0 (by omega))
    generalize hA : nI (qW k L) - nI k * vw d0 710 (40 + 28 * f) = A
    generalize hB : (nI k - nI (qam (vw d0 710) b f) * nI l) * vw d0 710 (40 + 28 * f) = B
    refine ⟨upd (upd (upd (upd d (752 + 28 * f) (vw d0 710 (42 + 28 * f) + A)) (753 + 28 * f) (vw d0 710 (43 + 28 * f) + B)) (948 + 11 * t) (vw d0 710 (238 + 11 * t) + A)) (949 + 11 * t) (vw d0 710 (239 + 11 * t) + B), ?_, ?_, ?_, ?_, ?_, ?_, ?_⟩
    · unfold fX9_useFlour_L44
      rw [if_pos (Int32.le_refl _), ea, q_bnr, hB, q_nm, g2, q_bnw, g3, q_bnw, g4, q_bnr, g6, q_bnw, g5, q_bnr, g7, q_bnw, q_nm, q_add1]
      simp (disch := omega) only [pk_un, v1, v2, v3, v4]
    · refine hd.keep ?_ (fun j hj => ?_)
      · simp (disch := omega) only [q_vw, pk_un]
      · have := Nat.le_trans (qD_len L k) hL.1
        constructor
        · simp (disch := omega) only [q_vw, pk_un]
        · simp (disch := omega) only [q_vw, pk_un]
    · rw [q_vw]
      simp (disch := omega) only [pk_un, q_uat]
    · rw [q_vw]
      simp (disch := omega) only [pk_un, q_uat]
    · rw [q_vw]
      simp (disch := omega) only [pk_un, q_uat]
    · rw [q_vw]
      simp (disch := omega) only [pk_un, q_uat]
    · intro x hx
      rw [q_un (by omega), q_un (by omega), q_un (by omega), q_un (by omega)]
      exact hO x (by omega)) (fun i K hi hK d hd hO => by
    obtain ⟨x, s, e1, e2⟩ := qW_D hp i (by omega)
    have hlo := q_loD hL i
    rw [e1] at hd hlo
    obtain ⟨e, t0, t1, t2⟩ := r_takeUnit (show f < 6 by omega) hlo hd
    rw [← e1, qD_D hp] at t1
    obtain ⟨e9, s0, s1⟩ := hK e t1 (fun y hy => by
      rw [t2 y (by omega) (by omega)]
      exact hO y hy)
    refine ⟨e9, ?_, s1⟩
    have a1 : y9 + nI (qW i L) + nI x.2 = y9 + nI (qW (i + 1) L) := by
      rw [e2, ← nI_add]
      grind
    have a2 : (nI (qW i L) - nI i * vw d0 710 (40 + 28 * f)) + (nI x.2 - vw d0 710 (40 + 28 * f)) = nI (qW (i + 1) L) - nI (i + 1) * vw d0 710 (40 + 28 * f) := by
      rw [e2, ← nI_add, ← nI_1]
      grind
    unfold fX9_useFlour_L44
    rw [if_neg (nI_ge hi (by omega)), t0, q_bnd, q_nm, q_nm, q_nm, q_add1, a1, a2]
    exact s0) lpN 0 (Nat.zero_le _) (q_lpN _ (by omega)) d0 (by rw [qD_0 hp]; exact hq) (fun _ _ => rfl)
  rw [qW_0, ← q_l0, Int32.add_zero, Int32.zero_mul, Int32.sub_self] at key
  exact key
/-- all flours of a batch -/
theorem r_useFlour {t b l : Nat} {y : Int32} {w : Nat → Nat} (ht : t < 24) (hb : b < nb) (R : q_R nf nb (vw u 710)) (hL : ∀ f, f < nf → q_lo (Ls f) ∧ q_9 (vw u 710) f (Ls f) ∧ w f ≤ qUn (Ls f) ∧ quse (vw u 710) b f (nI l) y = nI (w f)) (z0 : vw u 710 (238 + 11 * t) = 0) (z1 : vw u 710 (239 + 11 * t) = 0) :
    ∃ e, fX9_useFlour (nI t) (nI b) (nI l) y u = some (qS (fun f => nI (qW (w f) (Ls f))) nf, e) ∧ (∀ f, f < nf → q_9 (vw e 710) f (qD (w f) (Ls f)) ∧ vw e 710 (42 + 28 * f) = vw u 710 (42 + 28 * f) + qg0 (vw u 710) w Ls f ∧ vw e 710 (43 + 28 * f) = vw u 710 (43 + 28 * f) + qg1 (vw u 710) w b l f) ∧ vw e 710 (238 + 11 * t) = qS (qg0 (vw u 710) w Ls) nf ∧ vw e 710 (239 + 11 * t) = qS (qg1 (vw u 710) w b l) nf ∧ (∀ f, f < nf → vw e 710 (40 + 28 * f) = vw u 710 (40 + 28 * f)) ∧ ∀ x, x ≠ 948 + 11 * t ∧ x ≠ 949 + 11 * t ∧ ¬ (750 ≤ x ∧ x < 918) → e x = u x := by
  have h1 := R.1
  have h2 := R.2.1
  have key := q_for (F := fX9_useFlour_L6 (nI t) (nI b) (nI l) y) (z := fun _ _ _ => none) (n := nf) (Sp := fun i K => ∀ (d : bM) (y1 : Int32), (∀ f, f < i → q_9 (vw d 710) f (qD (w f) (Ls f)) ∧ vw d 710 (42 + 28 * f) = vw u 710 (42 + 28 * f) + qg0 (vw u 710) w Ls f ∧ vw d 710 (43 + 28 * f) = vw u 710 (43 + 28 * f) + qg1 (vw u 710) w b l f) → vw d 710 (238 + 11 * t) = qS (qg0 (vw u 710) w Ls) i → vw d 710 (239 + 11 * t) = qS (qg1 (vw u 710) w b l) i → (∀ f, f < nf → vw d 710 (40 + 28 * f) = vw u 710 (40 + 28 * f)) → (∀ x, x ≠ 948 + 11 * t ∧ x ≠ 949 + 11 * t ∧ ¬ (750 ≤ x ∧ x < 750 + 28 * i) → d x = u x) → ∃ e, K y1 (nI i) d = some (y1 + (qS (fun f => nI (qW (w f) (Ls f))) nf - qS (fun f => nI (qW (w f) (Ls f))) i), e) ∧ (∀ f, f < nf → q_9 (vw e 710) f (qD (w f) (Ls f)) ∧ vw e 710 (42 + 28 * f) = vw u 710 (42 + 28 * f) + qg0 (vw u 710) w Ls f ∧ vw e 710 (43 + 28 * f) = vw u 710 (43 + 28 * f) + qg1 (vw u 710) w b l f) ∧ vw e 710 (238 + 11 * t) = qS (qg0 (vw u 710) w Ls) nf ∧ vw e 710 (239 + 11 * t) = qS (qg1 (vw u 710) w b l) nf ∧ (∀ f, f < nf → vw e 710 (40 + 28 * f) = vw u 710 (40 + 28 * f)) ∧ ∀ x, x ≠ 948 + 11 * t ∧ x ≠ 949 + 11 * t ∧ ¬ (750 ≤ x ∧ x < 918) → e x = u x) (fun K d y1 g1 g2 g3 g4 g5 => by
    refine ⟨d, ?_, g1, g2, g3, g4, fun x hx => g5 x (by omega)⟩
    have en : d (710 + (5 : Int32).toNatClampNeg) = nI nf := (g5 715 (by omega)).trans R.2.2.1
    unfold fX9_useFlour_L6
    rw [en, if_pos (Int32.le_refl _), Int32.sub_self, Int32.add_zero]) (fun i K hi hK d y1 g1 g2 g3 g4 g5 => by
    obtain ⟨l1, l2, l3, l4⟩ := hL i hi
    have en : d (710 + (5 : Int32).toNatClampNeg) = nI nf := (g5 715 (by omega)).trans R.2.2.1
    have hd : ∀ x, x ≠ 238 + 11 * t ∧ x ≠ 239 + 11 * t ∧ ¬ (40 ≤ x ∧ x < 40 + 28 * i) → vw d 710 x = vw u 710 x := fun x hx => g5 _ (by omega)
    have Rd : q_R nf nb (vw d 710) := R.keep (hd _ (by omega)) (fun b hb => hd _ (by omega))
    have l12 := l1.1
    have eu : fX9_used (nI b) (nI l) y (nI i) d = some (nI (w i)) := by
      rw [r_used Rd hb (by omega), ← l4]
      unfold quse
      rw [qmf_keep (hd _ (by omega)), qam_keep (hd _ (by omega))]
    obtain ⟨e, s0, s1, s2, s3, s4, s5, s6⟩ := r_useOne (k6 := K) (y9 := y1) (l := l) (z := fun _ _ _ _ => none) ht hb hi Rd l1 l3 (l2.keep (hd _ (by omega)) (fun j hj => ⟨hd _ (by omega), hd _ (by omega)⟩))
    have e0 : nI (qW (w i) (Ls i)) - nI (w i) * vw d 710 (40 + 28 * i) = qg0 (vw u 710) w Ls i := by rw [g4 i hi]; rfl
    have e1 : (nI (w i) - nI (qam (vw d 710) b i) * nI l) * vw d 710 (40 + 28 * i) = qg1 (vw u 710) w b l i := by rw [g4 i hi, qam_keep (hd _ (by omega))]; rfl
    rw [e0] at s2 s4
    rw [e1] at s3 s5
    have he : ∀ x, x ≠ 238 + 11 * t ∧ x ≠ 239 + 11 * t ∧ ¬ (41 + 28 * i ≤ x ∧ x < 68 + 28 * i) → vw e 710 x = vw d 710 x := fun x hx => s6 _ (by omega)
    obtain ⟨e9, q0, q1⟩ := hK e (y1 + nI (qW (w i) (Ls i))) (fun f hf => by
      by_cases ef : f = i
      · rw [ef]
        refine ⟨s1, ?_, ?_⟩
        · rw [s2, hd _ (by omega)]
        · rw [s3, hd _ (by omega)]
      · obtain ⟨m1, m2, m3⟩ := g1 f (by omega)
        have := Nat.le_trans (qD_len (Ls f) (w f)) (hL f (by omega)).1.1
        refine ⟨m1.keep (he _ (by omega)) (fun j hj => ⟨he _ (by omega), he _ (by omega)⟩), ?_, ?_⟩
        · rw [he _ (by omega)]; exact m2
        · rw [he _ (by omega)]; exact m3) (by rw [s4, g2]; rfl) (by rw [s5, g3]; rfl) (fun f hf => by
      rw [he _ (by omega)]
      exact g4 f hf) (fun x hx => by
      rw [s6 x (by omega)]
      exact g5 x (by omega))
    refine ⟨e9, ?_, q1⟩
    unfold fX9_useFlour_L6
    rw [en, if_neg (nI_ge hi (by omega)), eu, q_bnr, r_flour0 (by omega), q_bnr, s0, q0]
    congr 2
    show y1 + nI (qW (w i) (Ls i)) + (qS (fun f => nI (qW (w f) (Ls f))) nf - (qS (fun f => nI (qW (w f) (Ls f))) i + nI (qW (w i) (Ls i)))) = _
    grind) lpN 0 (Nat.zero_le _) (q_lpN _ (by omega)) u 0 (fun f hf => absurd hf (Nat.not_lt_zero _)) z0 z1 (fun _ _ => rfl) (fun _ _ => rfl)
  obtain ⟨e, q0, q1⟩ := key
  refine ⟨e, ?_, q1⟩
  unfold fX9_useFlour
  refine q0.trans ?_
  show some (0 + (_ - 0), e) = _
  rw [Int32.zero_add, Int32.sub_zero]
end
