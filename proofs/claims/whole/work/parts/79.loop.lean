/-! ===== layer 2: all commands of a text ===== -/
def q_gv (tg : Nat) (v w : bM) : Prop := ∀ x, (x < 7086 ∨ x = 7089 ∨ x = 7093 ∨ x = 7094 ∨ (7096 ≤ x ∧ x < 9899) ∨ 9902 ≤ x) → ¬ (stO tg ≤ x ∧ x < stO tg + 590) → w x = v x
def q_gu (u z : bM) : Prop := ∀ x, (x = 0 ∨ x = 3 ∨ x = 4 ∨ (9 ≤ x ∧ x < 7160) ∨ 7165 ≤ x) → ¬ (710 ≤ x ∧ x < 1206) → z x = u x
theorem q_gv.trans {tg : Nat} {a b c : bM} (h : q_gv tg a b) (g : q_gv tg b c) : q_gv tg a c := fun x h1 h2 => (g x h1 h2).trans (h x h1 h2)
theorem q_gu.trans {a b c : bM} (h : q_gu a b) (g : q_gu b c) : q_gu a c := fun x h1 h2 => (g x h1 h2).trans (h x h1 h2)
theorem q_fv.gv {tg : Nat} {a b : bM} (h : q_fv a b) : q_gv tg a b := fun x h1 _ => h x h1
theorem q_fu.gu {a b : bM} (h : q_fu a b) : q_gu a b := fun x h1 _ => h x h1
def q_G (tg : Nat) (v u w z : bM) : Prop := q_gv tg v w ∧ q_gu u z ∧ w 7086 = z 1 ∧ w 7087 = z 2
theorem q_F.G {tg : Nat} {v u w z : bM} (h : q_F v u w z) : q_G tg v u w z := ⟨h.1.gv, h.2.1.gu, h.2.2⟩
theorem q_G.pre {tg : Nat} {v9 u9 v u w z : bM} (h : q_G tg v u w z) (hv : q_gv tg v9 v) (hu : q_gu u9 u) : q_G tg v9 u9 w z := ⟨hv.trans h.1, hu.trans h.2.1, h.2.2⟩
section
variable {T nf nb nt no tg : Nat} {Ls : Nat → List (Nat × Nat)} {B : Nat → Int32} {L n k : Nat} {v u w z : bM}
theorem q_L.ex (h : q_L B L n k v u) (ht : tg < 12) (hv : ∀ x, ¬ (stO tg ≤ x ∧ x < stO tg + 590) → w x = v x) (hu : ∀ x, ¬ (710 ≤ x ∧ x < 1206) → z x = u x) : q_L B L n k w z := by
  have b := stO_b ht
  have g := h
  obtain ⟨h1, h2, h3, h4, h6, h7, ⟨l1, l2, l3⟩⟩ := h
  exact g.re (fun x hx => hv x (by omega)) (fun x hx => hu x (by omega)) h6 ((hv _ (by omega)).trans h7) ⟨(hu 7 (by omega)).trans l1, fun q => ⟨(hu 6 (by omega)).trans (l2 q).1, (hu 5 (by omega)).trans (l2 q).2⟩, fun q => ⟨(hu 6 (by omega)).trans (l3 q).1, (hu 5 (by omega)).trans (l3 q).2.1, fun q2 => (hu 8 (by omega)).trans ((l3 q).2.2 q2)⟩⟩
/-- what one command comes to -/
def q_Cm (B : Nat → Int32) (L n k T tg cn : Nat) (v u : bM) (rc : Option (Int32 × bM)) (rr : (Int32 → bM → Option (Int32 × bM)) → Option (Int32 × bM)) : Prop := (∃ k9 w z, rc = some (1, w) ∧ (∀ k2, rr k2 = k2 (nI (cn + 1)) z) ∧ k < k9 ∧ cn < 40 ∧ q_L B L n k9 w z ∧ q_St (T + 999) (vw z 710) (vw w (stO tg)) ∧ q_gv tg v w ∧ q_gu u z ∧ w 7088 = nI (cn + 1) ∧ w 7086 = z 1 ∧ w 7087 = z 2) ∨ (∃ w z, rc = some (0, w) ∧ (∀ k2, rr k2 = some (-1, z)) ∧ q_G tg v u w z)
theorem r_L2 (h : q_L B L n k v u) (hS : q_S T nf nb nt no Ls (vw u 710) (vw v (stO tg))) (hk : q_kd B L n k ≠ 0) {cn : Nat} (hcn : cn ≤ 40) (k2 : Int32 → bM → Option (Int32 × bM)) : fX9_commandsText_L2 k2 (nI cn) u = (if 6 ≤ q_kd B L n k ∧ q_kd B L n k ≤ 12 then (if (q_kd B L n k = 6 ∧ nf = 6) ∨ (q_kd B L n k = 7 ∧ nb = 6) ∨ cn = 40 then (bnd (fX9_wrong 4 u) fun r w => fX9_commandsText_J89 (nI cn) k2 r w) else (bnd (fX9_commandText (nI (q_kd B L n k - 6)) u) fun r w => fX9_commandsText_J89 (nI cn) k2 r w)) else (bnd (fX9_wrong 1 u) fun r w => fX9_commandsText_J89 (nI cn) k2 r w)) := by
  have et := p_tok h
  obtain ⟨t1, t2, t3, t4, t5, t6⟩ := q_kt B L n k
  have e5 : u (710 + (5 : Int32).toNatClampNeg) = nI nf := hS.rnf
  have e6 : u (710 + (6 : Int32).toNatClampNeg) = nI nb := hS.rnb
  have hnf := hS.hnf
  have hnb := hS.hnb
  have n4 : ¬ u 6 = 4 := fun q => by
    rw [et] at q
    exact hk (t3.mpr ((nI_eq (b := 4) (by omega) (by decide)).mp q))
  have i6 : (nI nf = 6) = (nf = 6) := propext (nI_eq (b := 6) (by omega) (by decide))
  have i7 : (nI nb = 6) = (nb = 6) := propext (nI_eq (b := 6) (by omega) (by decide))
  have i40 : (nI cn = 40) = (cn = 40) := propext (nI_eq (b := 40) (by omega) (by decide))
  unfold fX9_commandsText_L2 fX9_commandsText_J30 fX9_commandsText_J47 fX9_commandsText_J53 fX9_commandsText_J58
  rw [if_neg n4, p_cmd h, q_bnr, e5, e6]
  simp only [i6, i7, i40]
  generalize q_kd B L n k = K at *
  by_cases hK : 6 ≤ K ∧ K ≤ 12
  · rw [if_pos hK, if_pos hK]
    have i0 : (nI (K - 6) = 0) = (K = 6) := propext ⟨fun q => by have := (nI_eq (b := 0) (by omega) (by decide)).mp q; omega, fun q => by rw [q]; rfl⟩
    have i1 : (nI (K - 6) = 1) = (K = 7) := propext ⟨fun q => by have := (nI_eq (b := 1) (by omega) (by decide)).mp q; omega, fun q => by rw [q]; rfl⟩
    have im : ¬ nI (K - 6) = -1 := nI_m1 (by omega)
    simp only [i0, i1, if_neg im]
    by_cases h6 : K = 6
    · subst h6
      rw [if_pos rfl]
      by_cases hf : nf = 6
      · rw [if_pos hf, if_pos (Or.inl ⟨rfl, hf⟩)]
        rfl
      · rw [if_neg hf, if_neg (show ¬ (6 = 7) by decide)]
        by_cases hc : cn = 40
        · rw [if_pos hc, if_pos (Or.inr (Or.inr hc))]
          rfl
        · rw [if_neg hc, if_pos trivial, if_neg (by omega)]
    · rw [if_neg h6]
      by_cases h7 : K = 7
      · subst h7
        rw [if_pos rfl]
        by_cases hf : nb = 6
        · rw [if_pos hf, if_pos (Or.inr (Or.inl ⟨rfl, hf⟩))]
          rfl
        · rw [if_neg hf]
          by_cases hc : cn = 40
          · rw [if_pos hc, if_pos (Or.inr (Or.inr hc))]
            rfl
          · rw [if_neg hc, if_pos trivial, if_neg (by omega)]
      · rw [if_neg h7]
        by_cases hc : cn = 40
        · rw [if_pos hc, if_pos (Or.inr (Or.inr hc))]
          rfl
        · rw [if_neg hc, if_pos trivial, if_neg (by omega)]
  · rw [if_neg hK, if_neg hK, if_neg (by decide), if_neg (by decide), if_pos rfl, if_pos rfl]
    split <;> rfl
theorem c_limit (ht : tg < 12) (ct : v 7089 = nI tg) (hS : q_S T nf nb nt no Ls (vw u 710) (vw v (stO tg))) {cn c : Nat} (hc : c ≤ 17) (hcn : cn ≤ 40) (e : v 7088 = nI cn) : fX4_isBeyondLimit (nI c) v = some (if (c = 6 ∧ nf = 6) ∨ (c = 7 ∧ nb = 6) ∨ cn = 40 then 1 else 0) := by
  have hnf := hS.hnf
  have hnb := hS.hnb
  have e1 : v (stO tg + 6) = nI nf := hS.cnf
  have e2 : v (stO tg + 175) = nI nb := hS.cnb
  have i6 : (nI c = 6) = (c = 6) := propext (nI_eq (b := 6) (by omega) (by decide))
  have i7 : (nI c = 7) = (c = 7) := propext (nI_eq (b := 7) (by omega) (by decide))
  have i40 : ((40 : Int32) ≤ nI cn) = (40 ≤ cn) := propext (nI_leI (a := 40) (by decide) (by omega))
  have if6 : ((6 : Int32) ≤ nI nf) = (6 ≤ nf) := propext (nI_leI (a := 6) (by decide) (by omega))
  have ib6 : (nI nb < 6) = (nb < 6) := propext (nI_ltI (b := 6) (by omega) (by decide))
  unfold fX4_isBeyondLimit fX4_isBeyondLimit_J30 fX4_isBeyondLimit_J51
  rw [e, ct, q_ck ht (by decide), nI_clamp (by omega), q_nm, e1, q_ck ht (by decide), q_nm, e2]
  simp only [i6, i7, i40, if6, ib6]
  by_cases h40 : 40 ≤ cn
  · rw [if_pos h40, if_pos (by omega)]
  · rw [if_neg h40]
    by_cases h6 : c = 6
    · rw [if_pos h6]
      by_cases hf : 6 ≤ nf
      · rw [if_pos hf, if_pos (by omega)]
      · rw [if_neg hf, if_neg (by omega), if_neg (by omega)]
    · rw [if_neg h6]
      by_cases h7 : c = 7
      · rw [if_pos h7]
        by_cases hf : nb < 6
        · rw [if_pos hf, if_neg (by omega)]
        · rw [if_neg hf, if_pos (by omega)]
      · rw [if_neg h7, if_neg (by omega)]
theorem q_wJ {y1 : Int32} {k2 : Int32 → bM → Option (Int32 × bM)} {z : bM} : fX9_commandsText_J89 y1 k2 0 z = some (-1, z) := by
  unfold fX9_commandsText_J89
  rw [if_pos rfl]
theorem p_command (h : q_L B L n k v u) (ht : tg < 12) (ct : v 7089 = nI tg) (hS : q_S T nf nb nt no Ls (vw u 710) (vw v (stO tg))) (hT : T + 999 ≤ 100000000) {cn : Nat} (hcn : cn ≤ 40) (e88 : v 7088 = nI cn) (hE : v 7086 = u 1 ∧ v 7087 = u 2) (hk0 : q_kd B L n k ≠ 0) : q_Cm B L n k T tg cn v u (fX4_readCommand v) (fun k2 => fX9_commandsText_L2 k2 (nI cn) u) := by
  have ek := p_kind h
  have rl := fun k2 => r_L2 h hS hk0 hcn k2
  have h17 := (q_kt B L n k).2.2.2.1
  by_cases hK : 6 ≤ q_kd B L n k ∧ q_kd B L n k ≤ 12
  · have n6 : ¬ nI (q_kd B L n k) < 6 := nI_nlt (b := 6) (by omega) (by omega)
    have n12 : nI (q_kd B L n k) ≤ 12 := nI_le (b := 12) (by omega) (by decide)
    have cl := c_limit ht ct hS (c := q_kd B L n k) h17 hcn e88
    by_cases hf : (q_kd B L n k = 6 ∧ nf = 6) ∨ (q_kd B L n k = 7 ∧ nb = 6) ∨ cn = 40
    · rw [if_pos hf] at cl
      obtain ⟨w, z, w1, z1, hF⟩ := p_fail h 4
      refine Or.inr ⟨w, z, ?_, fun k2 => ?_, hF.G⟩
      · unfold fX4_readCommand
        rw [ek, q_bnr, if_neg n6, if_pos n12, cl, q_bnr, if_neg (by decide), w1, q_bnd, q_l0, q_ck (by decide) (by decide)]
      · show fX9_commandsText_L2 k2 (nI cn) u = _
        rw [rl, if_pos hK, if_pos hf, z1, q_bnd, q_wJ]
    · rw [if_neg hf] at cl
      have hk : k < n := q_kd_lt (B := B) (L := L) (by omega)
      obtain ⟨z, z1, z2, z3⟩ := p_next h hk
      have sv0 : q_sv v (upd v 7095 (nI (k + 1))) := fun x hx => q_un (by omega)
      have su0 : q_su u z := fun x hx => z3 x (by omega)
      have hS2 := hS.rd ht sv0.fv su0.fu
      have arg := p_args z2 ht ((sv0 7089 (by omega)).trans ct) hS2 hT hK (fun q => by have := hS.hnf; omega) (fun q => by have := hS.hnb; omega)
      have cc : fX4_readCommand v = q_CA (nI (q_kd B L n k)) (upd v 7095 (nI (k + 1))) := by
        unfold fX4_readCommand
        rw [ek, q_bnr, if_neg n6, if_pos n12, cl, q_bnr, if_pos rfl, c_adv h hk]
        rfl
      have rr : ∀ k2, fX9_commandsText_L2 k2 (nI cn) u = bnd (bnd (fX9_argumentsText (nI (q_kd B L n k - 6)) z) fun r5 w4 => (if r5 = 0 then (some (0, w4)) else (bnd (fX9_isEnd w4) fun r9 w8 => (if r9 = 0 then (some (0, w8)) else (bnr (fX9_isPossible (nI (q_kd B L n k - 6)) w8) fun r12 => (if r12 = 0 then (bnd (fX9_wrong 3 w8) fun r16 w15 => ck r16 2 <| some (r16, w15)) else (bnd (fX9_does (nI (q_kd B L n k - 6)) w8) fun r20 w19 => some (1, w19)))))))) fun r w => fX9_commandsText_J89 (nI cn) k2 r w := fun k2 => by
        rw [rl, if_pos hK, if_neg hf]
        unfold fX9_commandText
        rw [z1, q_bnw]
      rw [cc]
      generalize hc : q_kd B L n k = c at *
      rcases arg with ⟨k9, w9, z9, a1, a2, a3, a4, a5, a6, a7⟩ | ⟨k9, w9, z0, z9, a1, a2, a3, a4, a5, a6, a7⟩ | ⟨w9, z9, a1, a2, a3⟩
      · have svA := sv0.trans a5
        have suA := su0.trans a6
        have ek9 := p_kind a4
        have et9 := p_tok a4
        obtain ⟨s1, s2, s3, s4, s5, s6⟩ := q_kt B L n k9
        by_cases h1 : q_kd B L n k9 = 1
        · have hk9 := q_kd1_lt h1
          have eEnd : fX9_isEnd z9 = some (1, z9) := by
            unfold fX9_isEnd fX9_isEnd_J16
            rw [et9, s1.mp h1, if_pos (show nI 2 = 2 from rfl)]
          rcases a7 with ⟨d1, d2⟩ | ⟨w8, z8, r8, d1, d2, d3, d4, d5, d6⟩
          · obtain ⟨w7, z7, f1, f2, hF⟩ := p_fail a4 3
            refine Or.inr ⟨w7, z7, ?_, fun k2 => ?_, (hF.pre svA.fv suA.fu).G⟩
            · rw [a1]
              unfold fX4_readCommand_J76
              rw [ek9, h1, q_bnr, if_pos (show nI 1 = 1 from rfl), d1, q_bnd, if_pos rfl, f1, q_bnd, q_l0, q_ck (by decide) (by decide)]
            · show fX9_commandsText_L2 k2 (nI cn) u = _
              rw [rr, a2, q_bnd, if_neg (by decide), eEnd, q_bnd, if_neg (by decide), d2, q_bnr, if_pos rfl, f2, q_bnd, show (ck 0 2 <| some ((0 : Int32), z7)) = some (0, z7) from rfl, q_bnd, q_wJ]
          · have hL8 := a4.ex ht d5 d6
            obtain ⟨y, y1, y2, y3⟩ := p_next hL8 hk9
            have b := stO_b ht
            have e88w : upd w8 7095 (nI (k9 + 1)) 7088 = nI cn := by rw [q_un (by decide), d5 _ (by omega), svA _ (by omega)]; exact e88
            have gv8 : q_gv tg v w8 := svA.fv.gv.trans (fun x _ h2 => d5 x h2)
            have gu8 : q_gu u z8 := suA.fu.gu.trans (fun x _ h2 => d6 x h2)
            refine Or.inl ⟨k9 + 1, upd (upd w8 7095 (nI (k9 + 1))) 7088 (nI (cn + 1)), y, ?_, fun k2 => ?_, by omega, by omega, y2.fr (fun x hx => q_un (by omega)) (q_un (by decide)) (fun _ _ => rfl), d4.same (fun x hx => y3 _ (by omega)) (fun x hx => by rw [q_vw, q_un (by omega), q_un (by omega)]; rfl), gv8.trans (fun x hx _ => by rw [q_un (by omega), q_un (by omega)]), gu8.trans (fun x hx _ => y3 x (by omega)), pk_us, ?_, ?_⟩
            · rw [a1]
              unfold fX4_readCommand_J76
              rw [ek9, h1, q_bnr, if_pos (show nI 1 = 1 from rfl), d1, q_bnd, if_neg (by decide), c_adv hL8 hk9, e88w, q_add1, q_nm, q_nm]
            · show fX9_commandsText_L2 k2 (nI cn) u = _
              have eEnd8 : fX9_isEnd z8 = some (1, z8) := by
                unfold fX9_isEnd fX9_isEnd_J16
                rw [d6 6 (by omega), et9, s1.mp h1, if_pos (show nI 2 = 2 from rfl)]
              rw [rr, a2, q_bnd, if_neg (by decide), eEnd, q_bnd, if_neg (by decide), d2, q_bnr, if_neg (by decide), d3, q_bnd, q_bnd]
              unfold fX9_commandsText_J89 fX9_semicolon
              rw [if_neg (by decide), eEnd8, q_bnd, if_neg (by decide), y1, q_bnw, q_bnd, if_neg (by decide), q_add1, q_nm]
            · rw [q_un (by decide), q_un (by decide), d5 _ (by omega), svA _ (by omega), y3 _ (by omega), d6 _ (by omega), suA _ (by omega)]
              exact hE.1
            · rw [q_un (by decide), q_un (by decide), d5 _ (by omega), svA _ (by omega), y3 _ (by omega), d6 _ (by omega), suA _ (by omega)]
              exact hE.2
        · obtain ⟨w7, z7, f1, f2, hF⟩ := p_fail a4 1
          have nk1 : ¬ nI (q_kd B L n k9) = 1 := fun q => h1 ((nI_eq (b := 1) (by omega) (by decide)).mp q)
          refine Or.inr ⟨w7, z7, ?_, fun k2 => ?_, (hF.pre svA.fv suA.fu).G⟩
          · rw [a1]
            unfold fX4_readCommand_J76
            rw [ek9, q_bnr, if_neg nk1, f1, q_bnd, q_l0, q_ck (by decide) (by decide)]
          · have n2 : ¬ z9 6 = 2 := fun q => by
              rw [et9] at q
              exact h1 (s1.mpr ((nI_eq (b := 2) (by omega) (by decide)).mp q))
            have eEnd : fX9_isEnd z9 = some (0, z7) := by
              unfold fX9_isEnd
              rw [if_neg n2, f2, q_bnd, if_pos rfl]
            show fX9_commandsText_L2 k2 (nI cn) u = _
            rw [rr, a2, q_bnd, if_neg (by decide), eEnd, q_bnd, if_pos rfl, q_bnd, q_wJ]
      · have svA := sv0.trans a6
        have suA := su0.trans a7
        have ek9 := p_kind a2
        have h179 := (q_kt B L n k9).2.2.2.1
        obtain ⟨w7, z7, f1, f2, hF⟩ := p_fail a2 1
        have ez : z7 = z9 := by
          rw [a4] at f2
          exact (Prod.mk.inj (Option.some.inj f2)).2.symm
        rw [ez] at hF
        have nk1 : ¬ nI (q_kd B L n k9) = 1 := fun q => a3 ((nI_eq (b := 1) (by omega) (by decide)).mp q)
        refine Or.inr ⟨w7, z9, ?_, fun k2 => ?_, (hF.pre svA.fv suA.fu).G⟩
        · rw [a1]
          unfold fX4_readCommand_J76
          rw [ek9, q_bnr, if_neg nk1, f1, q_bnd, q_l0, q_ck (by decide) (by decide)]
        · show fX9_commandsText_L2 k2 (nI cn) u = _
          rw [rr, a5, q_bnd, if_pos rfl, q_bnd, q_wJ]
      · refine Or.inr ⟨w9, z9, a1, fun k2 => ?_, (a3.pre sv0.fv su0.fu).G⟩
        show fX9_commandsText_L2 k2 (nI cn) u = _
        rw [rr, a2, q_bnd, if_pos rfl, q_bnd, q_wJ]
  · obtain ⟨w, z, w1, z1, hF⟩ := p_fail h 1
    refine Or.inr ⟨w, z, ?_, fun k2 => ?_, hF.G⟩
    · have hJ : fX4_readCommand_J20 v = some (0, w) := by
        unfold fX4_readCommand_J20
        rw [w1, q_bnd, q_l0, q_ck (by decide) (by decide)]
      unfold fX4_readCommand
      rw [ek, q_bnr]
      by_cases h6 : q_kd B L n k < 6
      · rw [if_pos (show nI (q_kd B L n k) < 6 from nI_lt (b := 6) h6 (by decide))]
        exact hJ
      · rw [if_neg (show ¬ nI (q_kd B L n k) < 6 from nI_nlt (b := 6) (by omega) (by omega)), if_neg (show ¬ nI (q_kd B L n k) ≤ 12 from nI_ge (a := 12) (by omega) (by omega))]
        exact hJ
    · show fX9_commandsText_L2 k2 (nI cn) u = _
      rw [rl, if_neg hK, z1, q_bnd, q_wJ]
end
/-- what all commands come to -/
def q_All (T tg : Nat) (v u : bM) (rc rr : Option (Int32 × bM)) : Prop := (∃ cn w z, rc = some (1, w) ∧ rr = some (nI cn, z) ∧ cn ≤ 40 ∧ q_St T (vw z 710) (vw w (stO tg)) ∧ q_gv tg v w ∧ q_gu u z ∧ w 7088 = nI cn ∧ w 7086 = z 1 ∧ w 7087 = z 2) ∨ (∃ w z, rc = some (0, w) ∧ rr = some (-1, z) ∧ q_G tg v u w z)
theorem p_all {tg : Nat} (ht : tg < 12) {B : Nat → Int32} {L n : Nat} : ∀ (m k cn T N1 N2 : Nat) (v u : bM), n - k ≤ m → cn ≤ 40 → T + 999 * (41 - cn) ≤ 100000000 → q_L B L n k v u → v 7089 = nI tg → q_St T (vw u 710) (vw v (stO tg)) → v 7088 = nI cn → v 7086 = u 1 → v 7087 = u 2 → m + 1 < N1 → m < N2 → q_All (T + 999 * (41 - cn)) tg v u (lp fX4_read_L47 (fun _ _ _ => none) N1 1 (nI cn) v) (lp fX9_commandsText_L2 (fun _ _ => none) N2 (nI cn) u) := by
  intro m
  induction m with
  | zero =>
    intro k cn T N1 N2 v u hm hcn hT h ct hSt e88 e1 e2 hN1 hN2
    obtain ⟨N1, rfl⟩ : ∃ N, N1 = N + 1 := ⟨N1 - 1, by omega⟩
    obtain ⟨N2, rfl⟩ : ∃ N, N2 = N + 1 := ⟨N2 - 1, by omega⟩
    have hk0 : q_kd B L n k = 0 := by unfold q_kd; rw [if_neg (by omega)]
    have t3 := (q_kt B L n k).2.2.1.mp hk0
    refine Or.inl ⟨cn, v, u, ?_, ?_, hcn, hSt.mono (by omega) hT, fun _ _ _ => rfl, fun _ _ _ => rfl, e88, e1, e2⟩
    · show fX4_read_L47 _ 1 (nI cn) v = _
      rw [fX4_read_L47.eq_1, if_neg (show ¬ (40 : Int32) < nI cn from nI_nlt (a := 40) hcn (by decide)), if_neg (by decide), p_kind h, hk0, q_bnr, if_pos (show nI 0 = 0 from rfl), q_l1, q_ck (by decide) (by decide)]
    · show fX9_commandsText_L2 _ (nI cn) u = _
      rw [fX9_commandsText_L2.eq_1, p_tok h, t3, if_pos (show nI 4 = 4 from rfl)]
  | succ m ih =>
    intro k cn T N1 N2 v u hm hcn hT h ct hSt e88 e1 e2 hN1 hN2
    obtain ⟨N1, rfl⟩ : ∃ N, N1 = N + 1 := ⟨N1 - 1, by omega⟩
    obtain ⟨N2, rfl⟩ : ∃ N, N2 = N + 1 := ⟨N2 - 1, by omega⟩
    show q_All _ tg v u (fX4_read_L47 (lp fX4_read_L47 (fun _ _ _ => none) N1) 1 (nI cn) v) (fX9_commandsText_L2 (lp fX9_commandsText_L2 (fun _ _ => none) N2) (nI cn) u)
    by_cases hk0 : q_kd B L n k = 0
    · have t3 := (q_kt B L n k).2.2.1.mp hk0
      refine Or.inl ⟨cn, v, u, ?_, ?_, hcn, hSt.mono (by omega) hT, fun _ _ _ => rfl, fun _ _ _ => rfl, e88, e1, e2⟩
      · rw [fX4_read_L47.eq_1, if_neg (show ¬ (40 : Int32) < nI cn from nI_nlt (a := 40) hcn (by decide)), if_neg (by decide), p_kind h, hk0, q_bnr, if_pos (show nI 0 = 0 from rfl), q_l1, q_ck (by decide) (by decide)]
      · rw [fX9_commandsText_L2.eq_1, p_tok h, t3, if_pos (show nI 4 = 4 from rfl)]
    · obtain ⟨nf, nb, nt, no, Ls, hS⟩ := hSt
      have h17 := (q_kt B L n k).2.2.2.1
      have cm := p_command h ht ct hS (by omega) hcn e88 ⟨e1, e2⟩ hk0
      have cl : fX4_read_L47 (lp fX4_read_L47 (fun _ _ _ => none) N1) 1 (nI cn) v = bnd (fX4_readCommand v) fun r23 w22 => (lp fX4_read_L47 (fun _ _ _ => none) N1) r23 (nI (cn + 1)) w22 := by
        rw [fX4_read_L47.eq_1, if_neg (show ¬ (40 : Int32) < nI cn from nI_nlt (a := 40) hcn (by decide)), if_neg (by decide), p_kind h, q_bnr, if_neg (show ¬ nI (q_kd B L n k) = 0 from fun q => hk0 ((nI_eq (b := 0) (by omega) (by decide)).mp q))]
        simp only [q_nm, q_add1]
      rw [cl]
      rcases cm with ⟨k9, w, z, a1, a2, a3, a4, a5, a6, a7, a8, a9, a10, a11⟩ | ⟨w, z, a1, a2, a3⟩
      · have a2 := a2 (lp fX9_commandsText_L2 (fun _ _ => none) N2)
        rw [a1, q_bnd]
        rw [show fX9_commandsText_L2 (lp fX9_commandsText_L2 (fun _ _ => none) N2) (nI cn) u = _ from a2]
        have b := stO_b ht
        have hk9 := a5.2.2.2.2.1
        have go := ih k9 (cn + 1) (T + 999) N1 N2 w z (by omega) (by omega) (by omega) a5 ((a7 7089 (by omega) (by omega)).trans ct) a6 a9 a10 a11 (by omega) (by omega)
        rw [show T + 999 + 999 * (41 - (cn + 1)) = T + 999 * (41 - cn) by omega] at go
        rcases go with ⟨c9, w9, z9, b1, b2, b3, b4, b5, b6, b7⟩ | ⟨w9, z9, b1, b2, b3⟩
        · exact Or.inl ⟨c9, w9, z9, b1, b2, b3, b4, a7.trans b5, a8.trans b6, b7⟩
        · exact Or.inr ⟨w9, z9, b1, b2, b3.pre a7 a8⟩
      · have a2 := a2 (lp fX9_commandsText_L2 (fun _ _ => none) N2)
        rw [a1, q_bnd]
        rw [show fX9_commandsText_L2 (lp fX9_commandsText_L2 (fun _ _ => none) N2) (nI cn) u = _ from a2]
        obtain ⟨N1, rfl⟩ : ∃ N, N1 = N + 1 := ⟨N1 - 1, by omega⟩
        refine Or.inr ⟨w, z, ?_, rfl, a3⟩
        show fX4_read_L47 _ 0 (nI (cn + 1)) w = _
        rw [fX4_read_L47.eq_1, if_pos rfl, q_l0, q_ck (by decide) (by decide)]
        split <;> rfl
