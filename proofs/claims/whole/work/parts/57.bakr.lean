/-! ===== layer 2: the reference bakes, to its end ===== -/
section
variable {T nf nb nt no : Nat} {Ls : Nat → List (Nat × Nat)} {r c u : bM}
theorem q_max {x y : Int32} : (if x < y then y else x) = if y < x then x else y := by
  by_cases e : x < y
  · rw [if_pos e, if_neg (fun q => by rw [Int32.lt_iff_toInt_lt] at e q; omega)]
  · rw [if_neg e]
    by_cases e2 : y < x
    · rw [if_pos e2]
    · rw [if_neg e2]
      apply Int32.toInt_inj.mp
      rw [Int32.lt_iff_toInt_lt] at e e2
      omega
theorem r_bakeEnd {t b l s M : Nat} {bu y za P G0 G1 : Int32} {w : Nat → Nat} {e : bM} (ht : t < 24) (hb : b < nb) (hn : 1 ≤ no ∧ no ≤ 3) (R : q_R nf nb (vw e 710)) (eno : vw e 710 3 = nI no) (ent : vw e 710 7 = nI t) (hs : qst no (vw e 710) (vw e 710 4) = nI s) (hs2 : s < 2 ^ 30) (hM : vw e 710 (209 + 4 * b) * nI l + za = nI M) (hM2 : M < 10000) (hu : fX9_useFlour (nI t) (nI b) (nI l) y u = some (P, e)) (K : Int32 → bM → Option (Int32 × bM)) :
    ∃ z, fX9_doBake_L12 (nI b) (nI l) bu y za (nI t) K (nI 11) u = some (nI t, z) ∧ vw z 710 (37 + qov no (vw e 710)) = nI (s + M) ∧ vw z 710 0 = vw e 710 0 - qpm (vw e 710) s M ∧ vw z 710 10 = vw e 710 10 + qpm (vw e 710) s M ∧ vw z 710 (232 + 11 * t) = nI b ∧ vw z 710 (233 + 11 * t) = nI l ∧ vw z 710 (234 + 11 * t) = bu ∧ vw z 710 (235 + 11 * t) = nI s ∧ vw z 710 (236 + 11 * t) = nI M ∧ vw z 710 (237 + 11 * t) = P + qpm (vw e 710) s M ∧ vw z 710 (240 + 11 * t) = qpm (vw e 710) s M - nI M * vw e 710 2 ∧ vw z 710 (241 + 11 * t) = za * vw e 710 2 ∧ vw z 710 (242 + 11 * t) = bu * qstd nf (vw e 710) b ∧ vw z 710 (211 + 4 * b) = vw e 710 (211 + 4 * b) + (nI l - bu) ∧ vw z 710 7 = nI (t + 1) ∧ (∀ x, x ≠ 710 + (37 + qov no (vw e 710)) ∧ x ≠ 710 ∧ x ≠ 720 ∧ x ≠ 717 ∧ x ≠ 921 + 4 * b ∧ x ≠ 942 + 11 * t ∧ x ≠ 943 + 11 * t ∧ x ≠ 944 + 11 * t ∧ x ≠ 945 + 11 * t ∧ x ≠ 946 + 11 * t ∧ x ≠ 947 + 11 * t ∧ x ≠ 950 + 11 * t ∧ x ≠ 951 + 11 * t ∧ x ≠ 952 + 11 * t → z x = e x) := by
  have h1 := R.1
  have h2 := R.2.1
  have ho := qov_lt (r := vw e 710) hn
  have efo : fX9_firstOven e = some (nI (qov no (vw e 710))) := r_firstOven ⟨hn, eno⟩
  have ebr : fX9_bread (nI b) 1 e = some (vw e 710 (209 + 4 * b)) := r_bread1 (by omega)
  have ec : fX9_costOfMinutes (nI s) (nI M) e = some (qpm (vw e 710) s M) := r_costOf (by omega) (by omega)
  have est : ∀ v : bM, (∀ x, x ≠ 710 + (37 + qov no (vw e 710)) ∧ x ≠ 710 ∧ x ≠ 720 ∧ x ≠ 717 ∧ x ≠ 921 + 4 * b ∧ x ≠ 942 + 11 * t ∧ x ≠ 943 + 11 * t ∧ x ≠ 944 + 11 * t ∧ x ≠ 945 + 11 * t ∧ x ≠ 946 + 11 * t ∧ x ≠ 947 + 11 * t ∧ x ≠ 950 + 11 * t ∧ x ≠ 951 + 11 * t ∧ x ≠ 952 + 11 * t → v x = e x) → fX9_standard (nI b) v = some (qstd nf (vw e 710) b) := by
    intro v hv
    have hk : ∀ x, x ≠ 37 + qov no (vw e 710) ∧ x ≠ 0 ∧ x ≠ 10 ∧ x ≠ 7 ∧ x ≠ 211 + 4 * b ∧ x < 232 → vw v 710 x = vw e 710 x := fun x hx => hv _ (by omega)
    rw [r_standard (R.keep (hk _ (by omega)) (fun b hb => hk _ (by omega))) hb]
    exact congrArg some (qstd_keep (hk _ (by omega)) (hk _ (by omega)) (hk _ (by omega)) (fun f hf => hk _ (by omega)))
  generalize hC : qpm (vw e 710) s M = C at *
  generalize hS : qstd nf (vw e 710) b = S at *
  have hst : (if e 714 < e (710 + (37 + qov no (vw e 710))) then e (710 + (37 + qov no (vw e 710))) else e 714) = nI s := q_max.trans hs
  generalize hov : qov no (vw e 710) = o at *
  have pb : ∀ (v : bM) (k : Nat) (x : Int32), k < 11 → fX9_putBatch (nI t) (nI k) x v = some (upd v (710 + (232 + 11 * t + k)) x) := fun v k x hk => r_putBatch ht hk
  have p0 : ∀ (v : bM) (x : Int32), fX9_putBatch (nI t) 0 x v = some (upd v (942 + 11 * t) x) := fun v x => (pb v 0 x (by decide)).trans (congrArg (fun i => some (upd v i x)) (by omega))
  have p1 : ∀ (v : bM) (x : Int32), fX9_putBatch (nI t) 1 x v = some (upd v (943 + 11 * t) x) := fun v x => (pb v 1 x (by decide)).trans (congrArg (fun i => some (upd v i x)) (by omega))
  have p2 : ∀ (v : bM) (x : Int32), fX9_putBatch (nI t) 2 x v = some (upd v (944 + 11 * t) x) := fun v x => (pb v 2 x (by decide)).trans (congrArg (fun i => some (upd v i x)) (by omega))
  have p3 : ∀ (v : bM) (x : Int32), fX9_putBatch (nI t) 3 x v = some (upd v (945 + 11 * t) x) := fun v x => (pb v 3 x (by decide)).trans (congrArg (fun i => some (upd v i x)) (by omega))
  have p4 : ∀ (v : bM) (x : Int32), fX9_putBatch (nI t) 4 x v = some (upd v (946 + 11 * t) x) := fun v x => (pb v 4 x (by decide)).trans (congrArg (fun i => some (upd v i x)) (by omega))
  have p5 : ∀ (v : bM) (x : Int32), fX9_putBatch (nI t) 5 x v = some (upd v (947 + 11 * t) x) := fun v x => (pb v 5 x (by decide)).trans (congrArg (fun i => some (upd v i x)) (by omega))
  have p8 : ∀ (v : bM) (x : Int32), fX9_putBatch (nI t) 8 x v = some (upd v (950 + 11 * t) x) := fun v x => (pb v 8 x (by decide)).trans (congrArg (fun i => some (upd v i x)) (by omega))
  have p9 : ∀ (v : bM) (x : Int32), fX9_putBatch (nI t) 9 x v = some (upd v (951 + 11 * t) x) := fun v x => (pb v 9 x (by decide)).trans (congrArg (fun i => some (upd v i x)) (by omega))
  have p10 : ∀ (v : bM) (x : Int32), fX9_putBatch (nI t) 10 x v = some (upd v (952 + 11 * t) x) := fun v x => (pb v 10 x (by decide)).trans (congrArg (fun i => some (upd v i x)) (by omega))
  have e45 : ((208 : Int32) + 4 * nI b) + 3 = nI (211 + 4 * b) := by
    rw [q_l208, q_l4, q_l3, pk_mul, nI_add, nI_add, show 208 + 4 * b + 3 = 211 + 4 * b by omega]
  have e37 : (37 : Int32) + nI o = nI (37 + o) := by rw [q_l37, nI_add]
  have ent : e 717 = nI t := ent
  refine ⟨upd (upd (upd (upd (upd (upd (upd (upd (upd (upd (upd (upd (upd (upd e (710 + (37 + o)) (nI (s + M))) 710 (e 710 - C)) 720 (e 720 + C)) (942 + 11 * t) (nI b)) (943 + 11 * t) (nI l)) (944 + 11 * t) bu) (945 + 11 * t) (nI s)) (946 + 11 * t) (nI M)) (947 + 11 * t) (P + C)) (950 + 11 * t) (C - nI M * e 712)) (951 + 11 * t) (za * e 712)) (952 + 11 * t) (bu * S)) (710 + (211 + 4 * b)) (e (710 + (211 + 4 * b)) + (nI l - bu))) 717 (nI (t + 1)), ?_, ?_, ?_, ?_, ?_, ?_, ?_, ?_, ?_, ?_, ?_, ?_, ?_, ?_, ?_, ?_⟩
  · unfold fX9_doBake_L12
    rw [show (710 + (4 : Int32).toNatClampNeg) = 714 from rfl, show (710 + (0 : Int32).toNatClampNeg) = 710 from rfl, show (710 + (10 : Int32).toNatClampNeg) = 720 from rfl, show (710 + (2 : Int32).toNatClampNeg) = 712 from rfl, show (710 + (7 : Int32).toNatClampNeg) = 717 from rfl]
    rw [q_l11, if_pos (Int32.le_refl _), hu, q_bnd, efo, q_bnr, e37, q_ck (by omega) (by decide), nI_clamp (by omega), hst, q_nm, ebr, q_bnr, q_nm, hM, q_nm, ec, q_bnr, nI_add, q_nm, q_ck (by omega) (by decide), q_nm, q_nm, q_nm, q_nm, q_nm, p0, q_bnw, p1, q_bnw, p2, q_bnw, p3, q_bnw, p4, q_bnw, p5, q_bnw, p8, q_bnw, p9, q_bnw]
    rw [est _ (fun x hx => by simp (disch := omega) only [pk_un]), q_bnr, p10, q_bnw, e45, q_nm, q_ck (by omega) (by decide), nI_clamp (by omega), q_nm, q_ck (by omega) (by decide), q_nm, q_nm, q_nm]
    simp (disch := omega) only [pk_un, ent, q_add1]
  all_goals intros
  all_goals simp (disch := omega) only [q_vw, pk_un, pk_us, q_uat]
theorem r_bake (h : q_S T nf nb nt no Ls (vw u 710) c) {b l s M : Nat} {bu y za : Int32} {w : Nat → Nat} (hb : b < nb) (hnt : nt < 24) (hw : ∀ f, f < nf → w f ≤ qUn (Ls f) ∧ quse (vw u 710) b f (nI l) y = nI (w f)) (hs : qst no (vw u 710) (vw u 710 4) = nI s) (hs2 : s < 2 ^ 30) (hM : vw u 710 (209 + 4 * b) * nI l + za = nI M) (hM2 : M < 10000) :
    ∃ z, fX9_doBake (nI b) (nI l) bu y za u = some (nI nt, z) ∧ (vw z 710 (37 + qov no (vw u 710)) = nI (s + M) ∧ vw z 710 0 = vw u 710 0 - qpm (vw u 710) s M ∧ vw z 710 10 = vw u 710 10 + qpm (vw u 710) s M ∧ vw z 710 (232 + 11 * nt) = nI b ∧ vw z 710 (233 + 11 * nt) = nI l ∧ vw z 710 (234 + 11 * nt) = bu ∧ vw z 710 (235 + 11 * nt) = nI s ∧ vw z 710 (236 + 11 * nt) = nI M ∧ vw z 710 (237 + 11 * nt) = qS (fun f => nI (qW (w f) (Ls f))) nf + qpm (vw u 710) s M) ∧ (vw z 710 (238 + 11 * nt) = qS (qg0 (vw u 710) w Ls) nf ∧ vw z 710 (239 + 11 * nt) = qS (qg1 (vw u 710) w b l) nf ∧ vw z 710 (240 + 11 * nt) = qpm (vw u 710) s M - nI M * vw u 710 2 ∧ vw z 710 (241 + 11 * nt) = za * vw u 710 2 ∧ vw z 710 (242 + 11 * nt) = bu * qstd nf (vw u 710) b ∧ vw z 710 (211 + 4 * b) = vw u 710 (211 + 4 * b) + (nI l - bu) ∧ vw z 710 7 = nI (nt + 1)) ∧ (∀ f, f < nf → q_9 (vw z 710) f (qD (w f) (Ls f)) ∧ vw z 710 (42 + 28 * f) = vw u 710 (42 + 28 * f) + qg0 (vw u 710) w Ls f ∧ vw z 710 (43 + 28 * f) = vw u 710 (43 + 28 * f) + qg1 (vw u 710) w b l f ∧ vw z 710 (40 + 28 * f) = vw u 710 (40 + 28 * f)) ∧ (∀ x, x ≠ 37 + qov no (vw u 710) ∧ x ≠ 0 ∧ x ≠ 10 ∧ x ≠ 7 ∧ x ≠ 211 + 4 * b ∧ ¬ (232 + 11 * nt ≤ x ∧ x < 243 + 11 * nt) ∧ ¬ (40 ≤ x ∧ x < 208) → vw z 710 x = vw u 710 x) ∧ ∀ x, ¬ (710 ≤ x ∧ x < 1206) → z x = u x := by
  have h1 := h.hnf
  have h2 := h.hnb
  have h4 := h.hno
  have ho := qov_lt (r := vw u 710) h4
  have key := q_for (F := fX9_doBake_L12 (nI b) (nI l) bu y za (nI nt)) (z := fun _ _ => none) (n := 11) (Sp := fun i K => ∀ d : bM, (∀ j, j < i → d (942 + 11 * nt + j) = 0) → (∀ x, ¬ (942 + 11 * nt ≤ x ∧ x < 953 + 11 * nt) → d x = u x) → ∃ d0 K0, K (nI i) d = fX9_doBake_L12 (nI b) (nI l) bu y za (nI nt) K0 (nI 11) d0 ∧ (∀ j, j < 11 → d0 (942 + 11 * nt + j) = 0) ∧ (∀ x, ¬ (942 + 11 * nt ≤ x ∧ x < 953 + 11 * nt) → d0 x = u x)) (fun K d hd hO => ⟨d, K, rfl, hd, hO⟩) (fun i K hi hK d hd hO => by
    obtain ⟨d0, K0, g1, g2⟩ := hK (upd d (942 + 11 * nt + i) 0) (fun j hj => by
      by_cases e : j = i
      · rw [e, pk_us]
      · rw [q_un (by omega)]
        exact hd j (by omega)) (fun x hx => by rw [q_un (by omega)]; exact hO x hx)
    refine ⟨d0, K0, ?_, g2⟩
    rw [← g1]
    have e : fX9_putBatch (nI nt) (nI i) 0 d = some (upd d (942 + 11 * nt + i) 0) := (r_putBatch hnt hi).trans (congrArg (fun j => some (upd d j 0)) (by omega))
    show fX9_doBake_L12 (nI b) (nI l) bu y za (nI nt) K (nI i) d = _
    unfold fX9_doBake_L12
    rw [q_l11, if_neg (nI_ge hi (by decide)), e, q_bnw, q_nm, q_add1]) lpN 0 (Nat.zero_le _) (q_lpN _ (by decide)) u (fun j hj => absurd hj (Nat.not_lt_zero _)) (fun _ _ => rfl)
  obtain ⟨d0, K0, k1, k2, k3⟩ := key
  have hd0 : ∀ x, ¬ (232 + 11 * nt ≤ x ∧ x < 243 + 11 * nt) → vw d0 710 x = vw u 710 x := fun x hx => k3 _ (by omega)
  have R0 : q_R nf nb (vw d0 710) := h.R.keep (hd0 _ (by omega)) (fun b hb => hd0 _ (by omega))
  obtain ⟨e, u0, u1, u2, u3, u4, u5⟩ := r_useFlour (u := d0) (Ls := Ls) (w := w) (l := l) (y := y) hnt hb R0 (fun f hf => by
    have l1 := h.lo f hf
    have l2 := l1.1
    refine ⟨l1, (h.rlt f hf).keep (hd0 _ (by omega)) (fun j hj => ⟨hd0 _ (by omega), hd0 _ (by omega)⟩), (hw f hf).1, ?_⟩
    rw [← (hw f hf).2]
    unfold quse
    rw [qmf_keep (hd0 _ (by omega)), qam_keep (hd0 _ (by omega))]) ((congrArg d0 (by omega)).trans (k2 6 (by decide))) ((congrArg d0 (by omega)).trans (k2 7 (by decide)))
  have he : ∀ x, x ≠ 238 + 11 * nt ∧ x ≠ 239 + 11 * nt ∧ ¬ (40 ≤ x ∧ x < 208) → vw e 710 x = vw d0 710 x := fun x hx => u5 _ (by omega)
  have heu : ∀ x, ¬ (232 + 11 * nt ≤ x ∧ x < 243 + 11 * nt) ∧ ¬ (40 ≤ x ∧ x < 208) → vw e 710 x = vw u 710 x := fun x hx => (he x (by omega)).trans (hd0 x hx.1)
  have g0e : ∀ f, f < nf → qg0 (vw d0 710) w Ls f = qg0 (vw u 710) w Ls f := fun f hf => by unfold qg0; rw [hd0 _ (by omega)]
  have g1e : ∀ f, f < nf → qg1 (vw d0 710) w b l f = qg1 (vw u 710) w b l f := fun f hf => by unfold qg1; rw [hd0 _ (by omega), qam_keep (hd0 _ (by omega))]
  have Re : q_R nf nb (vw e 710) := h.R.keep (heu _ (by omega)) (fun b hb => heu _ (by omega))
  have eov : qov no (vw e 710) = qov no (vw u 710) := by
    have : ∀ m i y, i + m ≤ no → y < no → qff (fun o => vw e 710 (37 + o)) m i y = qff (fun o => vw u 710 (37 + o)) m i y := by
      intro m
      induction m with
      | zero => intro i y _ _; rfl
      | succ m ih =>
        intro i y hi hy
        show qff _ m (i + 1) (if vw e 710 (37 + y) ≤ vw e 710 (37 + i) then y else i) = qff _ m (i + 1) (if vw u 710 (37 + y) ≤ vw u 710 (37 + i) then y else i)
        rw [heu (37 + y) (by omega), heu (37 + i) (by omega)]
        exact ih _ _ (by omega) (by split <;> omega)
    exact this _ _ _ (by omega) (by omega)
  have eqpm : qpm (vw e 710) s M = qpm (vw u 710) s M := qS_congr (fun i _ => heu _ (by have := Nat.mod_lt ((s + i) / 60) (show 0 < 24 by decide); omega))
  have estd : qstd nf (vw e 710) b = qstd nf (vw u 710) b := qstd_keep (heu _ (by omega)) (heu _ (by omega)) (heu _ (by omega)) (fun f hf => (u4 f hf).trans (hd0 _ (by omega)))
  obtain ⟨z, z0, z1, z2, z3, z4, z5, z6, z7, z8, z9, z10, z11, z12, z13, z14, z15⟩ := r_bakeEnd (u := d0) (e := e) (bu := bu) (y := y) (w := w) (P := qS (fun f => nI (qW (w f) (Ls f))) nf) (G0 := 0) (G1 := 0) hnt hb h4 Re ((heu 3 (by omega)).trans h.rno) ((heu 7 (by omega)).trans h.rnt) (by unfold qst; rw [eov, heu (37 + qov no (vw u 710)) (by omega), heu 4 (by omega)]; exact hs) hs2 (by rw [heu (209 + 4 * b) (by omega)]; exact hM) hM2 u0 K0
  rw [eov] at z1 z15
  rw [eqpm] at z2 z3 z9 z10
  rw [estd] at z12
  rw [heu 0 (by omega)] at z2
  rw [heu 10 (by omega)] at z3
  rw [heu 2 (by omega)] at z10 z11
  rw [heu (211 + 4 * b) (by omega)] at z13
  have hze : ∀ x, x ≠ 37 + qov no (vw u 710) ∧ x ≠ 0 ∧ x ≠ 10 ∧ x ≠ 7 ∧ x ≠ 211 + 4 * b ∧ x ≠ 232 + 11 * nt ∧ x ≠ 233 + 11 * nt ∧ x ≠ 234 + 11 * nt ∧ x ≠ 235 + 11 * nt ∧ x ≠ 236 + 11 * nt ∧ x ≠ 237 + 11 * nt ∧ x ≠ 240 + 11 * nt ∧ x ≠ 241 + 11 * nt ∧ x ≠ 242 + 11 * nt → vw z 710 x = vw e 710 x := fun x hx => z15 _ (by omega)
  refine ⟨z, ?_, ⟨z1, z2, z3, z4, z5, z6, z7, z8, z9⟩, ⟨?_, ?_, z10, z11, z12, z13, z14⟩, ?_, ?_, ?_⟩
  · have en : u (710 + (7 : Int32).toNatClampNeg) = nI nt := h.rnt
    unfold fX9_doBake
    rw [en, q_nm]
    exact k1.trans z0
  · rw [hze _ (by omega), u2, qS_congr g0e]
  · rw [hze _ (by omega), u3, qS_congr g1e]
  · intro f hf
    obtain ⟨m1, m2, m3⟩ := u1 f hf
    have := Nat.le_trans (qD_len (Ls f) (w f)) (h.lo f hf).1
    refine ⟨m1.keep (hze _ (by omega)) (fun j hj => ⟨hze _ (by omega), hze _ (by omega)⟩), ?_, ?_, ?_⟩
    · rw [hze _ (by omega), m2, hd0 _ (by omega), g0e f hf]
    · rw [hze _ (by omega), m3, hd0 _ (by omega), g1e f hf]
    · rw [hze _ (by omega), u4 f hf, hd0 _ (by omega)]
  · intro x hx
    rw [hze x (by omega)]
    exact heu x (by omega)
  · intro x hx
    rw [z15 x (by omega), u5 x (by omega)]
    exact k3 x (by omega)
end
