/-! ===== layer 2: rates, waiting, flours ===== -/
section
variable {T nf nb nt no : Nat} {Ls : Nat → List (Nat × Nat)} {r c u : bM}
theorem q_S.mono {T9 : Nat} (h : q_S T nf nb nt no Ls r c) (hT : T ≤ T9) (hT9 : T9 ≤ 100000000) : q_S T9 nf nb nt no Ls r c := by
  have hr : ∀ x, x = x → r x = r x := fun _ _ => rfl
  have hc : ∀ x, x = x → c x = c x := fun _ _ => rfl
  have h1 := h.hnf
  have h2 := h.hnb
  have h3 := h.hnt
  have h4 := h.hno
  have ha : ∀ b f, b < nb → qam (r) b f = qam (r) b f := fun b f hb => qam_keep (hr _ (by omega))
  have hm : ∀ b, b < nb → qmf (r) b = qmf (r) b := fun b hb => qmf_keep (hr _ (by omega))
  have hs : ∀ b, b < nb → qstd nf (r) b = qstd nf (r) b := fun b hb => qstd_keep (hr _ (by omega)) (hr _ (by omega)) (hr _ (by omega)) (fun f hf => hr _ (by omega))
  have hl9 : ∀ t, t < nt → qls nf (r) t = qls nf (r) t := fun t ht => by
    obtain ⟨b, hb, e⟩ := h.rtb t ht
    exact qls_keep (by omega) e (hr _ (by omega)) (hr _ (by omega)) (hr _ (by omega)) (hr _ (by omega)) (hs b hb)
  refine ⟨?_, ?_, ?_, ?_, ?_, ?_, ?_, ?_, ?_, ?_, ?_, ?_, ?_, ?_, ?_, ?_, ?_, ?_, ?_, ?_, ?_, ?_, ?_, ?_, ?_, ?_, ?_, ?_, ?_, ?_, ?_, ?_, ?_, ?_, ?_, ?_, ?_, ?_, ?_, ?_, ?_, ?_, ?_, ?_, ?_, ?_, ?_, ?_, ?_, ?_, ?_, ?_, ?_⟩
  · exact hT9
  · exact h.hnf
  · exact h.hnb
  · exact h.hnt
  · exact h.hno
  · exact (hr 5 (by omega)).trans h.rnf
  · exact (hr 6 (by omega)).trans h.rnb
  · exact (hr 7 (by omega)).trans h.rnt
  · exact (hr 3 (by omega)).trans h.rno
  · exact qb_mono h.rck (Nat.le_refl _) hT
  · rw [hr 2 (by omega)]
    exact h.rbs
  · exact fun j hj => by rw [hr (13 + j) (by omega)]; exact h.rrt j hj
  · exact fun o ho => qb_mono (h.rfr o ho) (Nat.le_refl _) hT
  · exact fun f hf => by rw [hr (40 + 28 * f) (by omega)]; exact h.rfp f hf
  · exact fun f hf => (h.rlt f hf).keep (hr _ (by omega)) (fun l hl => by have := (h.lo f hf).1; exact ⟨hr _ (by omega), hr _ (by omega)⟩)
  · exact h.lo
  · exact fun b hb => by rw [hr (209 + 4 * b) (by omega)]; exact h.rbm b hb
  · exact fun b hb => by rw [hr (210 + 4 * b) (by omega)]; exact h.rrc b hb
  · exact fun t ht => by rw [hr (232 + 11 * t) (by omega)]; exact h.rtb t ht
  · exact fun t k ht hk => by rw [hr (238 + 11 * t + k) (by omega)]; exact h.rgp t k ht hk
  · exact (hc 0 (by omega)).trans (h.cck.trans (hr 4 (by omega)).symm)
  · exact (hc 1 (by omega)).trans (h.cca.trans (hr 0 (by omega)).symm)
  · exact (hc 2 (by omega)).trans (h.cfc.trans (hr 1 (by omega)).symm)
  · exact (hc 3 (by omega)).trans (h.cea.trans (hr 8 (by omega)).symm)
  · exact (hc 4 (by omega)).trans (h.cpf.trans (hr 9 (by omega)).symm)
  · exact (hc 5 (by omega)).trans (h.csg.trans (hr 11 (by omega)).symm)
  · exact (hc 6 (by omega)).trans h.cnf
  · exact (hc 175 (by omega)).trans h.cnb
  · exact (hc 277 (by omega)).trans h.cnt
  · exact (hc 248 (by omega)).trans h.cno
  · exact (hc 249 (by omega)).trans (h.cbs.trans (hr 2 (by omega)).symm)
  · exact fun f hf => (hc (7 + f) (by omega)).trans ((h.cfp f hf).trans (hr (40 + 28 * f) (by omega)).symm)
  · exact fun f hf => (h.clt f hf).keep (hc _ (by omega)) (fun l hl => by have := (h.lo f hf).1; exact ⟨hc _ (by omega), hc _ (by omega)⟩)
  · exact fun f hf => (hc (163 + f) (by omega)).trans ((h.cpg f hf).trans (hr (42 + 28 * f) (by omega)).symm)
  · exact fun f hf => (hc (169 + f) (by omega)).trans ((h.cug f hf).trans (hr (43 + 28 * f) (by omega)).symm)
  · exact fun b hb => (hc (176 + b) (by omega)).trans ((h.cbl b hb).trans (hr (208 + 4 * b) (by omega)).symm)
  · exact fun b hb => (hc (182 + b) (by omega)).trans ((h.cbm b hb).trans (hr (209 + 4 * b) (by omega)).symm)
  · exact fun b hb => (hc (188 + b) (by omega)).trans ((h.cst b hb).trans (hs b hb).symm)
  · exact fun b hb => (hc (194 + b) (by omega)).trans ((h.cmf b hb).trans (congrArg nI (hm b hb).symm))
  · exact fun b hb => (hc (200 + b) (by omega)).trans ((h.clo b hb).trans (hr (211 + 4 * b) (by omega)).symm)
  · exact fun b f hb hf => (hc (212 + 6 * b + f) (by omega)).trans ((h.cam b f hb hf).trans (congrArg nI (ha b f hb).symm))
  · exact (qS_congr (fun b hb => by rw [hc (206 + b) (by omega), hc (176 + b) (by omega), hc (188 + b) (by omega)])).trans (h.csd.trans (hr 12 (by omega)).symm)
  · exact fun o ho => (hc (250 + o) (by omega)).trans ((h.cfr o ho).trans (hr (37 + o) (by omega)).symm)
  · exact fun j hj => (hc (253 + j) (by omega)).trans ((h.crt j hj).trans (hr (13 + j) (by omega)).symm)
  · exact fun t ht => (hc (278 + t) (by omega)).trans ((h.ctb t ht).trans (hr (232 + 11 * t) (by omega)).symm)
  · exact fun t ht => (hc (302 + t) (by omega)).trans ((h.ctp t ht).trans (hr (233 + 11 * t) (by omega)).symm)
  · exact fun t ht => (hc (326 + t) (by omega)).trans ((h.ctu t ht).trans (hr (234 + 11 * t) (by omega)).symm)
  · exact fun t ht => (hc (350 + t) (by omega)).trans ((h.cts t ht).trans (hr (235 + 11 * t) (by omega)).symm)
  · exact fun t ht => (hc (374 + t) (by omega)).trans ((h.ctm t ht).trans (hr (236 + 11 * t) (by omega)).symm)
  · exact fun t ht => by rw [hc (398 + t) (by omega), hc (422 + t) (by omega), hr (237 + 11 * t) (by omega)]; exact h.ctc t ht
  · exact fun t ht => (hc (446 + t) (by omega)).trans ((h.ctl t ht).trans (hl9 t ht).symm)
  · exact fun t k ht hk => (hc (470 + 5 * t + k) (by omega)).trans ((h.ctg t k ht hk).trans (hr (238 + 11 * t + k) (by omega)).symm)
  · exact (qS_congr (fun t ht => by rw [hc (422 + t) (by omega)])).trans (h.coc.trans (hr 10 (by omega)).symm)
theorem q_S.same {r9 c9 : bM} (h : q_S T nf nb nt no Ls r c) (hr : ∀ x, x < 496 → r9 x = r x) (hc : ∀ x, x < 590 → c9 x = c x) : q_S T nf nb nt no Ls r9 c9 := by
  have h1 := h.hnf
  have h2 := h.hnb
  have h3 := h.hnt
  have h4 := h.hno
  have ha : ∀ b f, b < nb → qam r9 b f = qam (r) b f := fun b f hb => qam_keep (hr _ (by omega))
  have hm : ∀ b, b < nb → qmf r9 b = qmf (r) b := fun b hb => qmf_keep (hr _ (by omega))
  have hs : ∀ b, b < nb → qstd nf r9 b = qstd nf (r) b := fun b hb => qstd_keep (hr _ (by omega)) (hr _ (by omega)) (hr _ (by omega)) (fun f hf => hr _ (by omega))
  have hl9 : ∀ t, t < nt → qls nf r9 t = qls nf (r) t := fun t ht => by
    obtain ⟨b, hb, e⟩ := h.rtb t ht
    exact qls_keep (by omega) e (hr _ (by omega)) (hr _ (by omega)) (hr _ (by omega)) (hr _ (by omega)) (hs b hb)
  refine ⟨?_, ?_, ?_, ?_, ?_, ?_, ?_, ?_, ?_, ?_, ?_, ?_, ?_, ?_, ?_, ?_, ?_, ?_, ?_, ?_, ?_, ?_, ?_, ?_, ?_, ?_, ?_, ?_, ?_, ?_, ?_, ?_, ?_, ?_, ?_, ?_, ?_, ?_, ?_, ?_, ?_, ?_, ?_, ?_, ?_, ?_, ?_, ?_, ?_, ?_, ?_, ?_, ?_⟩
  · exact h.hT
  · exact h.hnf
  · exact h.hnb
  · exact h.hnt
  · exact h.hno
  · exact (hr 5 (by omega)).trans h.rnf
  · exact (hr 6 (by omega)).trans h.rnb
  · exact (hr 7 (by omega)).trans h.rnt
  · exact (hr 3 (by omega)).trans h.rno
  · rw [hr 4 (by omega)]
    exact h.rck
  · rw [hr 2 (by omega)]
    exact h.rbs
  · exact fun j hj => by rw [hr (13 + j) (by omega)]; exact h.rrt j hj
  · exact fun o ho => by rw [hr (37 + o) (by omega)]; exact h.rfr o ho
  · exact fun f hf => by rw [hr (40 + 28 * f) (by omega)]; exact h.rfp f hf
  · exact fun f hf => (h.rlt f hf).keep (hr _ (by omega)) (fun l hl => by have := (h.lo f hf).1; exact ⟨hr _ (by omega), hr _ (by omega)⟩)
  · exact h.lo
  · exact fun b hb => by rw [hr (209 + 4 * b) (by omega)]; exact h.rbm b hb
  · exact fun b hb => by rw [hr (210 + 4 * b) (by omega)]; exact h.rrc b hb
  · exact fun t ht => by rw [hr (232 + 11 * t) (by omega)]; exact h.rtb t ht
  · exact fun t k ht hk => by rw [hr (238 + 11 * t + k) (by omega)]; exact h.rgp t k ht hk
  · exact (hc 0 (by omega)).trans (h.cck.trans (hr 4 (by omega)).symm)
  · exact (hc 1 (by omega)).trans (h.cca.trans (hr 0 (by omega)).symm)
  · exact (hc 2 (by omega)).trans (h.cfc.trans (hr 1 (by omega)).symm)
  · exact (hc 3 (by omega)).trans (h.cea.trans (hr 8 (by omega)).symm)
  · exact (hc 4 (by omega)).trans (h.cpf.trans (hr 9 (by omega)).symm)
  · exact (hc 5 (by omega)).trans (h.csg.trans (hr 11 (by omega)).symm)
  · exact (hc 6 (by omega)).trans h.cnf
  · exact (hc 175 (by omega)).trans h.cnb
  · exact (hc 277 (by omega)).trans h.cnt
  · exact (hc 248 (by omega)).trans h.cno
  · exact (hc 249 (by omega)).trans (h.cbs.trans (hr 2 (by omega)).symm)
  · exact fun f hf => (hc (7 + f) (by omega)).trans ((h.cfp f hf).trans (hr (40 + 28 * f) (by omega)).symm)
  · exact fun f hf => (h.clt f hf).keep (hc _ (by omega)) (fun l hl => by have := (h.lo f hf).1; exact ⟨hc _ (by omega), hc _ (by omega)⟩)
  · exact fun f hf => (hc (163 + f) (by omega)).trans ((h.cpg f hf).trans (hr (42 + 28 * f) (by omega)).symm)
  · exact fun f hf => (hc (169 + f) (by omega)).trans ((h.cug f hf).trans (hr (43 + 28 * f) (by omega)).symm)
  · exact fun b hb => (hc (176 + b) (by omega)).trans ((h.cbl b hb).trans (hr (208 + 4 * b) (by omega)).symm)
  · exact fun b hb => (hc (182 + b) (by omega)).trans ((h.cbm b hb).trans (hr (209 + 4 * b) (by omega)).symm)
  · exact fun b hb => (hc (188 + b) (by omega)).trans ((h.cst b hb).trans (hs b hb).symm)
  · exact fun b hb => (hc (194 + b) (by omega)).trans ((h.cmf b hb).trans (congrArg nI (hm b hb).symm))
  · exact fun b hb => (hc (200 + b) (by omega)).trans ((h.clo b hb).trans (hr (211 + 4 * b) (by omega)).symm)
  · exact fun b f hb hf => (hc (212 + 6 * b + f) (by omega)).trans ((h.cam b f hb hf).trans (congrArg nI (ha b f hb).symm))
  · exact (qS_congr (fun b hb => by rw [hc (206 + b) (by omega), hc (176 + b) (by omega), hc (188 + b) (by omega)])).trans (h.csd.trans (hr 12 (by omega)).symm)
  · exact fun o ho => (hc (250 + o) (by omega)).trans ((h.cfr o ho).trans (hr (37 + o) (by omega)).symm)
  · exact fun j hj => (hc (253 + j) (by omega)).trans ((h.crt j hj).trans (hr (13 + j) (by omega)).symm)
  · exact fun t ht => (hc (278 + t) (by omega)).trans ((h.ctb t ht).trans (hr (232 + 11 * t) (by omega)).symm)
  · exact fun t ht => (hc (302 + t) (by omega)).trans ((h.ctp t ht).trans (hr (233 + 11 * t) (by omega)).symm)
  · exact fun t ht => (hc (326 + t) (by omega)).trans ((h.ctu t ht).trans (hr (234 + 11 * t) (by omega)).symm)
  · exact fun t ht => (hc (350 + t) (by omega)).trans ((h.cts t ht).trans (hr (235 + 11 * t) (by omega)).symm)
  · exact fun t ht => (hc (374 + t) (by omega)).trans ((h.ctm t ht).trans (hr (236 + 11 * t) (by omega)).symm)
  · exact fun t ht => by rw [hc (398 + t) (by omega), hc (422 + t) (by omega), hr (237 + 11 * t) (by omega)]; exact h.ctc t ht
  · exact fun t ht => (hc (446 + t) (by omega)).trans ((h.ctl t ht).trans (hl9 t ht).symm)
  · exact fun t k ht hk => (hc (470 + 5 * t + k) (by omega)).trans ((h.ctg t k ht hk).trans (hr (238 + 11 * t + k) (by omega)).symm)
  · exact (qS_congr (fun t ht => by rw [hc (422 + t) (by omega)])).trans (h.coc.trans (hr 10 (by omega)).symm)
theorem t_rate (h : q_S T nf nb nt no Ls (vw u 710) c) {j k : Nat} (hj : j < 24) (hk : k ≤ 20) : ∃ z, fX9_doRate (nI j) (nI k) u = some (vw u 710 (13 + j), z) ∧ q_S T nf nb nt no Ls (vw z 710) (upd c (253 + j) (nI k)) ∧ ∀ x, ¬ (710 ≤ x ∧ x < 1206) → z x = u x := by
  have h1 := h.hnf
  have h2 := h.hnb
  have h3 := h.hnt
  have h4 := h.hno
  refine ⟨upd u (710 + (13 + j)) (nI k), ?_, ?_, fun x hx => pk_un (by omega)⟩
  · unfold fX9_doRate
    rw [q_l13, nI_add, q_ck (by omega) (by decide), nI_clamp (by omega), q_nm, q_ck (by omega) (by decide), q_nm]
    rfl
  have hr : ∀ x, x ≠ 13 + j → vw (upd u (710 + (13 + j)) (nI k)) 710 x = vw u 710 x := fun x hx => pk_un (by omega)
  have hc : ∀ x, x ≠ 253 + j → upd c (253 + j) (nI k) x = c x := fun x hx => pk_un hx
  have ha : ∀ b f, b < nb → qam (vw (upd u (710 + (13 + j)) (nI k)) 710) b f = qam (vw u 710) b f := fun b f hb => qam_keep (hr _ (by omega))
  have hm : ∀ b, b < nb → qmf (vw (upd u (710 + (13 + j)) (nI k)) 710) b = qmf (vw u 710) b := fun b hb => qmf_keep (hr _ (by omega))
  have hs : ∀ b, b < nb → qstd nf (vw (upd u (710 + (13 + j)) (nI k)) 710) b = qstd nf (vw u 710) b := fun b hb => qstd_keep (hr _ (by omega)) (hr _ (by omega)) (hr _ (by omega)) (fun f hf => hr _ (by omega))
  have hl9 : ∀ t, t < nt → qls nf (vw (upd u (710 + (13 + j)) (nI k)) 710) t = qls nf (vw u 710) t := fun t ht => by
    obtain ⟨b, hb, e⟩ := h.rtb t ht
    exact qls_keep (by omega) e (hr _ (by omega)) (hr _ (by omega)) (hr _ (by omega)) (hr _ (by omega)) (hs b hb)
  refine ⟨?_, ?_, ?_, ?_, ?_, ?_, ?_, ?_, ?_, ?_, ?_, ?_, ?_, ?_, ?_, ?_, ?_, ?_, ?_, ?_, ?_, ?_, ?_, ?_, ?_, ?_, ?_, ?_, ?_, ?_, ?_, ?_, ?_, ?_, ?_, ?_, ?_, ?_, ?_, ?_, ?_, ?_, ?_, ?_, ?_, ?_, ?_, ?_, ?_, ?_, ?_, ?_, ?_⟩
  · exact h.hT
  · exact h.hnf
  · exact h.hnb
  · exact h.hnt
  · exact h.hno
  · exact (hr 5 (by omega)).trans h.rnf
  · exact (hr 6 (by omega)).trans h.rnb
  · exact (hr 7 (by omega)).trans h.rnt
  · exact (hr 3 (by omega)).trans h.rno
  · rw [hr 4 (by omega)]
    exact h.rck
  · rw [hr 2 (by omega)]
    exact h.rbs
  · intro i hi
    by_cases e : i = j
    · rw [e, q_vw, pk_us]
      exact qb_mk (Nat.zero_le _) hk
    · rw [hr _ (by omega)]
      exact h.rrt i hi
  · exact fun o ho => by rw [hr (37 + o) (by omega)]; exact h.rfr o ho
  · exact fun f hf => by rw [hr (40 + 28 * f) (by omega)]; exact h.rfp f hf
  · exact fun f hf => (h.rlt f hf).keep (hr _ (by omega)) (fun l hl => by have := (h.lo f hf).1; exact ⟨hr _ (by omega), hr _ (by omega)⟩)
  · exact h.lo
  · exact fun b hb => by rw [hr (209 + 4 * b) (by omega)]; exact h.rbm b hb
  · exact fun b hb => by rw [hr (210 + 4 * b) (by omega)]; exact h.rrc b hb
  · exact fun t ht => by rw [hr (232 + 11 * t) (by omega)]; exact h.rtb t ht
  · exact fun t k ht hk => by rw [hr (238 + 11 * t + k) (by omega)]; exact h.rgp t k ht hk
  · exact (hc 0 (by omega)).trans (h.cck.trans (hr 4 (by omega)).symm)
  · exact (hc 1 (by omega)).trans (h.cca.trans (hr 0 (by omega)).symm)
  · exact (hc 2 (by omega)).trans (h.cfc.trans (hr 1 (by omega)).symm)
  · exact (hc 3 (by omega)).trans (h.cea.trans (hr 8 (by omega)).symm)
  · exact (hc 4 (by omega)).trans (h.cpf.trans (hr 9 (by omega)).symm)
  · exact (hc 5 (by omega)).trans (h.csg.trans (hr 11 (by omega)).symm)
  · exact (hc 6 (by omega)).trans h.cnf
  · exact (hc 175 (by omega)).trans h.cnb
  · exact (hc 277 (by omega)).trans h.cnt
  · exact (hc 248 (by omega)).trans h.cno
  · exact (hc 249 (by omega)).trans (h.cbs.trans (hr 2 (by omega)).symm)
  · exact fun f hf => (hc (7 + f) (by omega)).trans ((h.cfp f hf).trans (hr (40 + 28 * f) (by omega)).symm)
  · exact fun f hf => (h.clt f hf).keep (hc _ (by omega)) (fun l hl => by have := (h.lo f hf).1; exact ⟨hc _ (by omega), hc _ (by omega)⟩)
  · exact fun f hf => (hc (163 + f) (by omega)).trans ((h.cpg f hf).trans (hr (42 + 28 * f) (by omega)).symm)
  · exact fun f hf => (hc (169 + f) (by omega)).trans ((h.cug f hf).trans (hr (43 + 28 * f) (by omega)).symm)
  · exact fun b hb => (hc (176 + b) (by omega)).trans ((h.cbl b hb).trans (hr (208 + 4 * b) (by omega)).symm)
  · exact fun b hb => (hc (182 + b) (by omega)).trans ((h.cbm b hb).trans (hr (209 + 4 * b) (by omega)).symm)
  · exact fun b hb => (hc (188 + b) (by omega)).trans ((h.cst b hb).trans (hs b hb).symm)
  · exact fun b hb => (hc (194 + b) (by omega)).trans ((h.cmf b hb).trans (congrArg nI (hm b hb).symm))
  · exact fun b hb => (hc (200 + b) (by omega)).trans ((h.clo b hb).trans (hr (211 + 4 * b) (by omega)).symm)
  · exact fun b f hb hf => (hc (212 + 6 * b + f) (by omega)).trans ((h.cam b f hb hf).trans (congrArg nI (ha b f hb).symm))
  · exact (qS_congr (fun b hb => by rw [hc (206 + b) (by omega), hc (176 + b) (by omega), hc (188 + b) (by omega)])).trans (h.csd.trans (hr 12 (by omega)).symm)
  · exact fun o ho => (hc (250 + o) (by omega)).trans ((h.cfr o ho).trans (hr (37 + o) (by omega)).symm)
  · intro i hi
    by_cases e : i = j
    · rw [e, q_vw, pk_us, pk_us]
    · rw [hr _ (by omega), hc _ (by omega)]
      exact h.crt i hi
  · exact fun t ht => (hc (278 + t) (by omega)).trans ((h.ctb t ht).trans (hr (232 + 11 * t) (by omega)).symm)
  · exact fun t ht => (hc (302 + t) (by omega)).trans ((h.ctp t ht).trans (hr (233 + 11 * t) (by omega)).symm)
  · exact fun t ht => (hc (326 + t) (by omega)).trans ((h.ctu t ht).trans (hr (234 + 11 * t) (by omega)).symm)
  · exact fun t ht => (hc (350 + t) (by omega)).trans ((h.cts t ht).trans (hr (235 + 11 * t) (by omega)).symm)
  · exact fun t ht => (hc (374 + t) (by omega)).trans ((h.ctm t ht).trans (hr (236 + 11 * t) (by omega)).symm)
  · exact fun t ht => by rw [hc (398 + t) (by omega), hc (422 + t) (by omega), hr (237 + 11 * t) (by omega)]; exact h.ctc t ht
  · exact fun t ht => (hc (446 + t) (by omega)).trans ((h.ctl t ht).trans (hl9 t ht).symm)
  · exact fun t k ht hk => (hc (470 + 5 * t + k) (by omega)).trans ((h.ctg t k ht hk).trans (hr (238 + 11 * t + k) (by omega)).symm)
  · exact (qS_congr (fun t ht => by rw [hc (422 + t) (by omega)])).trans (h.coc.trans (hr 10 (by omega)).symm)
theorem t_wait (h : q_S T nf nb nt no Ls (vw u 710) c) {m : Nat} (hm : m ≤ 999) (hT : T + 999 ≤ 100000000) : fX9_doWait (nI m) u = some (u 714 + nI m, upd u 714 (u 714 + nI m)) ∧ c 0 + nI m = u 714 + nI m ∧ q_S (T + 999) nf nb nt no Ls (vw (upd u 714 (u 714 + nI m)) 710) (upd c 0 (c 0 + nI m)) := by
  have h1 := h.hnf
  have h2 := h.hnb
  have h3 := h.hnt
  have h4 := h.hno
  have hck : c 0 + nI m = u 714 + nI m := congrArg (· + nI m) h.cck
  refine ⟨?_, hck, ?_⟩
  · unfold fX9_doWait
    rw [show (710 + (4 : Int32).toNatClampNeg) = 714 from rfl, q_nm, q_nm, pk_us]
  have hr : ∀ x, x ≠ 4 → vw (upd u 714 (u 714 + nI m)) 710 x = vw u 710 x := fun x hx => pk_un (by omega)
  have hc : ∀ x, x ≠ 0 → upd c 0 (c 0 + nI m) x = c x := fun x hx => pk_un hx
  have f4 : vw (upd u 714 (u 714 + nI m)) 710 4 = u 714 + nI m := pk_us
  have ha : ∀ b f, b < nb → qam (vw (upd u 714 (u 714 + nI m)) 710) b f = qam (vw u 710) b f := fun b f hb => qam_keep (hr _ (by omega))
  have hm : ∀ b, b < nb → qmf (vw (upd u 714 (u 714 + nI m)) 710) b = qmf (vw u 710) b := fun b hb => qmf_keep (hr _ (by omega))
  have hs : ∀ b, b < nb → qstd nf (vw (upd u 714 (u 714 + nI m)) 710) b = qstd nf (vw u 710) b := fun b hb => qstd_keep (hr _ (by omega)) (hr _ (by omega)) (hr _ (by omega)) (fun f hf => hr _ (by omega))
  have hl9 : ∀ t, t < nt → qls nf (vw (upd u 714 (u 714 + nI m)) 710) t = qls nf (vw u 710) t := fun t ht => by
    obtain ⟨b, hb, e⟩ := h.rtb t ht
    exact qls_keep (by omega) e (hr _ (by omega)) (hr _ (by omega)) (hr _ (by omega)) (hr _ (by omega)) (hs b hb)
  refine ⟨?_, ?_, ?_, ?_, ?_, ?_, ?_, ?_, ?_, ?_, ?_, ?_, ?_, ?_, ?_, ?_, ?_, ?_, ?_, ?_, ?_, ?_, ?_, ?_, ?_, ?_, ?_, ?_, ?_, ?_, ?_, ?_, ?_, ?_, ?_, ?_, ?_, ?_, ?_, ?_, ?_, ?_, ?_, ?_, ?_, ?_, ?_, ?_, ?_, ?_, ?_, ?_, ?_⟩
  · exact hT
  · exact h.hnf
  · exact h.hnb
  · exact h.hnt
  · exact h.hno
  · exact (hr 5 (by omega)).trans h.rnf
  · exact (hr 6 (by omega)).trans h.rnb
  · exact (hr 7 (by omega)).trans h.rnt
  · exact (hr 3 (by omega)).trans h.rno
  · rw [f4]
    obtain ⟨k, _, k2, k3⟩ := h.rck
    rw [show u 714 = nI k from k3, nI_add]
    exact qb_mk (Nat.zero_le _) (by omega)
  · rw [hr 2 (by omega)]
    exact h.rbs
  · exact fun j hj => by rw [hr (13 + j) (by omega)]; exact h.rrt j hj
  · exact fun o ho => by rw [hr _ (by omega)]; exact qb_mono (h.rfr o ho) (Nat.le_refl _) (by omega)
  · exact fun f hf => by rw [hr (40 + 28 * f) (by omega)]; exact h.rfp f hf
  · exact fun f hf => (h.rlt f hf).keep (hr _ (by omega)) (fun l hl => by have := (h.lo f hf).1; exact ⟨hr _ (by omega), hr _ (by omega)⟩)
  · exact h.lo
  · exact fun b hb => by rw [hr (209 + 4 * b) (by omega)]; exact h.rbm b hb
  · exact fun b hb => by rw [hr (210 + 4 * b) (by omega)]; exact h.rrc b hb
  · exact fun t ht => by rw [hr (232 + 11 * t) (by omega)]; exact h.rtb t ht
  · exact fun t k ht hk => by rw [hr (238 + 11 * t + k) (by omega)]; exact h.rgp t k ht hk
  · rw [f4, pk_us]
    exact hck
  · exact (hc 1 (by omega)).trans (h.cca.trans (hr 0 (by omega)).symm)
  · exact (hc 2 (by omega)).trans (h.cfc.trans (hr 1 (by omega)).symm)
  · exact (hc 3 (by omega)).trans (h.cea.trans (hr 8 (by omega)).symm)
  · exact (hc 4 (by omega)).trans (h.cpf.trans (hr 9 (by omega)).symm)
  · exact (hc 5 (by omega)).trans (h.csg.trans (hr 11 (by omega)).symm)
  · exact (hc 6 (by omega)).trans h.cnf
  · exact (hc 175 (by omega)).trans h.cnb
  · exact (hc 277 (by omega)).trans h.cnt
  · exact (hc 248 (by omega)).trans h.cno
  · exact (hc 249 (by omega)).trans (h.cbs.trans (hr 2 (by omega)).symm)
  · exact fun f hf => (hc (7 + f) (by omega)).trans ((h.cfp f hf).trans (hr (40 + 28 * f) (by omega)).symm)
  · exact fun f hf => (h.clt f hf).keep (hc _ (by omega)) (fun l hl => by have := (h.lo f hf).1; exact ⟨hc _ (by omega), hc _ (by omega)⟩)
  · exact fun f hf => (hc (163 + f) (by omega)).trans ((h.cpg f hf).trans (hr (42 + 28 * f) (by omega)).symm)
  · exact fun f hf => (hc (169 + f) (by omega)).trans ((h.cug f hf).trans (hr (43 + 28 * f) (by omega)).symm)
  · exact fun b hb => (hc (176 + b) (by omega)).trans ((h.cbl b hb).trans (hr (208 + 4 * b) (by omega)).symm)
  · exact fun b hb => (hc (182 + b) (by omega)).trans ((h.cbm b hb).trans (hr (209 + 4 * b) (by omega)).symm)
  · exact fun b hb => (hc (188 + b) (by omega)).trans ((h.cst b hb).trans (hs b hb).symm)
  · exact fun b hb => (hc (194 + b) (by omega)).trans ((h.cmf b hb).trans (congrArg nI (hm b hb).symm))
  · exact fun b hb => (hc (200 + b) (by omega)).trans ((h.clo b hb).trans (hr (211 + 4 * b) (by omega)).symm)
  · exact fun b f hb hf => (hc (212 + 6 * b + f) (by omega)).trans ((h.cam b f hb hf).trans (congrArg nI (ha b f hb).symm))
  · exact (qS_congr (fun b hb => by rw [hc (206 + b) (by omega), hc (176 + b) (by omega), hc (188 + b) (by omega)])).trans (h.csd.trans (hr 12 (by omega)).symm)
  · exact fun o ho => (hc (250 + o) (by omega)).trans ((h.cfr o ho).trans (hr (37 + o) (by omega)).symm)
  · exact fun j hj => (hc (253 + j) (by omega)).trans ((h.crt j hj).trans (hr (13 + j) (by omega)).symm)
  · exact fun t ht => (hc (278 + t) (by omega)).trans ((h.ctb t ht).trans (hr (232 + 11 * t) (by omega)).symm)
  · exact fun t ht => (hc (302 + t) (by omega)).trans ((h.ctp t ht).trans (hr (233 + 11 * t) (by omega)).symm)
  · exact fun t ht => (hc (326 + t) (by omega)).trans ((h.ctu t ht).trans (hr (234 + 11 * t) (by omega)).symm)
  · exact fun t ht => (hc (350 + t) (by omega)).trans ((h.cts t ht).trans (hr (235 + 11 * t) (by omega)).symm)
  · exact fun t ht => (hc (374 + t) (by omega)).trans ((h.ctm t ht).trans (hr (236 + 11 * t) (by omega)).symm)
  · exact fun t ht => by rw [hc (398 + t) (by omega), hc (422 + t) (by omega), hr (237 + 11 * t) (by omega)]; exact h.ctc t ht
  · exact fun t ht => (hc (446 + t) (by omega)).trans ((h.ctl t ht).trans (hl9 t ht).symm)
  · exact fun t k ht hk => (hc (470 + 5 * t + k) (by omega)).trans ((h.ctg t k ht hk).trans (hr (238 + 11 * t + k) (by omega)).symm)
  · exact (qS_congr (fun t ht => by rw [hc (422 + t) (by omega)])).trans (h.coc.trans (hr 10 (by omega)).symm)
theorem r_doFlour {p : Int32} (hn : nf < 6) (en : u 715 = nI nf) : ∃ z, fX9_doFlour p u = some (nI nf, z) ∧ z (710 + (40 + 28 * nf)) = p ∧ (∀ j, 0 < j → j < 28 → z (710 + (40 + 28 * nf + j)) = 0) ∧ z 715 = nI (nf + 1) ∧ ∀ x, x ≠ 715 ∧ ¬ (750 + 28 * nf ≤ x ∧ x < 778 + 28 * nf) → z x = u x := by
  have e5 : (710 + (5 : Int32).toNatClampNeg) = 715 := rfl
  have key := q_for (F := fX9_doFlour_L9 p (nI nf)) (z := fun _ _ => none) (n := 28) (Sp := fun i K => ∀ d : bM, (∀ j, j < i → d (710 + (40 + 28 * nf + j)) = 0) → (∀ x, ¬ (750 + 28 * nf ≤ x ∧ x < 778 + 28 * nf) → d x = u x) → ∃ z, K (nI i) d = some (nI nf, z) ∧ z (710 + (40 + 28 * nf)) = p ∧ (∀ j, 0 < j → j < 28 → z (710 + (40 + 28 * nf + j)) = 0) ∧ z 715 = nI (nf + 1) ∧ ∀ x, x ≠ 715 ∧ ¬ (750 + 28 * nf ≤ x ∧ x < 778 + 28 * nf) → z x = u x) (fun K d hd hO => by
    have h0 := hd 0 (by decide)
    refine ⟨upd (upd d (710 + (40 + 28 * nf)) p) 715 (nI (nf + 1)), ?_, ?_, ?_, ?_, ?_⟩
    · have g := r_addToFlour (u := d) (x := p) (k := 0) hn (by decide)
      rw [h0, Int32.zero_add] at g
      have g : fX9_addToFlour (nI nf) 0 p d = some (upd d (710 + (40 + 28 * nf)) p) := g
      unfold fX9_doFlour_L9
      rw [q_l28, if_pos (Int32.le_refl _), g, q_bnw, e5, q_nm, q_nm, q_un (by omega), hO 715 (by omega), en, q_add1]
    · rw [q_un (by omega), pk_us]
    · intro j h1 h2
      rw [q_un (by omega), q_un (by omega)]
      exact hd j h2
    · exact pk_us
    · intro x hx
      rw [q_un (by omega), q_un (by omega)]
      exact hO x hx.2) (fun i K hi hK d hd hO => by
    obtain ⟨z, g⟩ := hK (upd d (710 + (40 + 28 * nf + i)) 0) (fun j hj => by
      by_cases e : j = i
      · rw [e, pk_us]
      · rw [q_un (by omega)]
        exact hd j (by omega)) (fun x hx => by rw [q_un (by omega)]; exact hO x hx)
    refine ⟨z, ?_, g.2⟩
    have e1 : ((40 : Int32) + 28 * nI nf) + nI i = nI (40 + 28 * nf + i) := by rw [q_l40, q_l28, pk_mul, nI_add, nI_add]
    unfold fX9_doFlour_L9
    rw [e1, q_l28, if_neg (nI_ge hi (by decide)), q_ck (by omega) (by decide), nI_clamp (by omega), q_nm, q_nm, q_add1]
    exact g.1) lpN 0 (Nat.zero_le _) (q_lpN _ (by decide)) u (fun j hj => absurd hj (Nat.not_lt_zero _)) (fun _ _ => rfl)
  unfold fX9_doFlour
  rw [e5, en, q_nm]
  exact key
theorem t_flour (h : q_S T nf nb nt no Ls (vw u 710) c) {p : Nat} (hn : nf < 6) (hp : 1 ≤ p ∧ p ≤ 99) : ∃ w z, fX2_create (nI p) (vw c 6) = some (nI nf, w) ∧ fX9_doFlour (nI p) u = some (nI nf, z) ∧ q_S T (nf + 1) nb nt no (qLs Ls nf []) (vw z 710) (spl c 6 169 w) ∧ ∀ x, ¬ (710 ≤ x ∧ x < 1206) → z x = u x := by
  have h1 := h.hnf
  have h2 := h.hnb
  have h3 := h.hnt
  have h4 := h.hno
  obtain ⟨z, z0, z1, z2, z3, hz⟩ := r_doFlour (p := nI p) hn h.rnf
  have hd : ∃ w, fX2_create (nI p) (vw c 6) = some (nI nf, w) ∧ spl c 6 169 w = upd (upd (upd (upd (upd c (6 + (1 + nf)) (nI p)) (6 + (7 + nf)) 0) (6 + (157 + nf)) 0) (6 + (163 + nf)) 0) (6 + 0) (nI (nf + 1)) := by
    have e0 : vw c 6 0 = nI nf := h.cnf
    refine ⟨upd (upd (upd (upd (upd (vw c 6) (1 + nf) (nI p)) (7 + nf) 0) (157 + nf) 0) (163 + nf) 0) 0 (nI (nf + 1)), ?_, ?_⟩
    · unfold fX2_create
      rw [e0, if_pos (by rw [q_l6]; exact nI_lt hn (by decide)), q_nm, q_ck hn (by decide), nI_clamp (by omega), q_nm, q_ck hn (by decide), q_nm, q_ck hn (by decide), q_nm, q_ck hn (by decide), q_nm, q_nm, q_nm]
      simp (disch := omega) only [pk_un, e0, q_add1]
    · rw [q_splu (by omega), q_splu (by omega), q_splu (by omega), q_splu (by omega), q_splu (by omega), spl_self]
  obtain ⟨w, d0, ew⟩ := hd
  refine ⟨w, z, d0, z0, ?_, fun x hx => hz x (by omega)⟩
  have d1 : spl c 6 169 w (7 + nf) = nI p := by rw [ew]; simp (disch := omega) only [pk_un, q_uat]
  have d2 : spl c 6 169 w (13 + nf) = 0 := by rw [ew]; simp (disch := omega) only [pk_un, q_uat]
  have d3 : spl c 6 169 w (163 + nf) = 0 := by rw [ew]; simp (disch := omega) only [pk_un, q_uat]
  have d4 : spl c 6 169 w (169 + nf) = 0 := by rw [ew]; simp (disch := omega) only [pk_un, q_uat]
  have d5 : spl c 6 169 w 6 = nI (nf + 1) := by rw [ew]; simp (disch := omega) only [pk_un, q_uat]
  have hc : ∀ x, x ≠ 7 + nf ∧ x ≠ 13 + nf ∧ x ≠ 163 + nf ∧ x ≠ 169 + nf ∧ x ≠ 6 → spl c 6 169 w x = c x := fun x hx => by rw [ew]; simp (disch := omega) only [pk_un]
  generalize spl c 6 169 w = d at *
  have hr : ∀ x, x ≠ 5 ∧ ¬ (40 + 28 * nf ≤ x ∧ x < 68 + 28 * nf) → vw z 710 x = vw u 710 x := fun x hx => hz _ (by omega)
  have z4 : ∀ j, 0 < j → j < 28 → vw z 710 (40 + 28 * nf + j) = 0 := z2
  have ha : ∀ b f, b < nb → qam (vw z 710) b f = qam (vw u 710) b f := fun b f hb => qam_keep (hr _ (by omega))
  have hm : ∀ b, b < nb → qmf (vw z 710) b = qmf (vw u 710) b := fun b hb => qmf_keep (hr _ (by omega))
  have hs : ∀ b, b < nb → qstd (nf + 1) (vw z 710) b = qstd nf (vw u 710) b := fun b hb => by
    have e : qstd (nf + 1) (vw z 710) b = qstd nf (vw z 710) b + nI (qam (vw z 710) b nf) * vw z 710 (40 + 28 * nf) := by
      unfold qstd
      rw [Int32.add_assoc]
      rfl
    have e2 : qam (vw z 710) b nf = 0 := by
      rw [ha b nf hb]
      exact qdg_hi (h.R.rcn hb).2.2 (Nat.le_refl _)
    rw [e, e2, qstd_keep (hr _ (by omega)) (hr _ (by omega)) (hr _ (by omega)) (fun f hf => hr _ (by omega)), ← q_l0, Int32.zero_mul, Int32.add_zero]
  have hl9 : ∀ t, t < nt → qls (nf + 1) (vw z 710) t = qls nf (vw u 710) t := fun t ht => by
    obtain ⟨b, hb, e⟩ := h.rtb t ht
    unfold qls
    rw [hr (237 + 11 * t) (by omega), hr (233 + 11 * t) (by omega), hr (234 + 11 * t) (by omega), hr (232 + 11 * t) (by omega), e, qn_nI (by omega), hs b hb]
  refine ⟨?_, ?_, ?_, ?_, ?_, ?_, ?_, ?_, ?_, ?_, ?_, ?_, ?_, ?_, ?_, ?_, ?_, ?_, ?_, ?_, ?_, ?_, ?_, ?_, ?_, ?_, ?_, ?_, ?_, ?_, ?_, ?_, ?_, ?_, ?_, ?_, ?_, ?_, ?_, ?_, ?_, ?_, ?_, ?_, ?_, ?_, ?_, ?_, ?_, ?_, ?_, ?_, ?_⟩
  · exact h.hT
  · exact hn
  · exact h.hnb
  · exact h.hnt
  · exact h.hno
  · exact z3
  · exact (hr 6 (by omega)).trans h.rnb
  · exact (hr 7 (by omega)).trans h.rnt
  · exact (hr 3 (by omega)).trans h.rno
  · rw [hr 4 (by omega)]
    exact h.rck
  · rw [hr 2 (by omega)]
    exact h.rbs
  · exact fun j hj => by rw [hr (13 + j) (by omega)]; exact h.rrt j hj
  · exact fun o ho => by rw [hr (37 + o) (by omega)]; exact h.rfr o ho
  · intro f hf
    by_cases e : f = nf
    · rw [e]
      rw [show vw z 710 (40 + 28 * nf) = nI p from z1]
      exact qb_mk hp.1 hp.2
    · rw [hr _ (by omega)]
      exact h.rfp f (by omega)
  · intro f hf
    by_cases e : f = nf
    · rw [qLs_at e, e]
      exact ⟨(congrArg (vw z 710) (show 41 + 28 * nf = 40 + 28 * nf + 1 by omega)).trans (z4 1 (by decide) (by decide)), fun l x hx => by cases hx⟩
    · rw [qLs_ne e]
      have := (h.lo f (by omega)).1
      exact (h.rlt f (by omega)).keep (hr _ (by omega)) (fun l hl => ⟨hr _ (by omega), hr _ (by omega)⟩)
  · intro f hf
    by_cases e : f = nf
    · rw [qLs_at e]
      exact ⟨Nat.zero_le _, fun x hx => by cases hx⟩
    · rw [qLs_ne e]
      exact h.lo f (by omega)
  · exact fun b hb => by rw [hr (209 + 4 * b) (by omega)]; exact h.rbm b hb
  · intro b hb
    rw [hr _ (by omega)]
    refine qb_mono (h.rrc b hb) (Nat.le_refl _) ?_
    rw [Nat.pow_succ]
    omega
  · exact fun t ht => by rw [hr (232 + 11 * t) (by omega)]; exact h.rtb t ht
  · exact fun t k ht hk => by rw [hr (238 + 11 * t + k) (by omega)]; exact h.rgp t k ht hk
  · exact (hc 0 (by omega)).trans (h.cck.trans (hr 4 (by omega)).symm)
  · exact (hc 1 (by omega)).trans (h.cca.trans (hr 0 (by omega)).symm)
  · exact (hc 2 (by omega)).trans (h.cfc.trans (hr 1 (by omega)).symm)
  · exact (hc 3 (by omega)).trans (h.cea.trans (hr 8 (by omega)).symm)
  · exact (hc 4 (by omega)).trans (h.cpf.trans (hr 9 (by omega)).symm)
  · exact (hc 5 (by omega)).trans (h.csg.trans (hr 11 (by omega)).symm)
  · exact d5
  · exact (hc 175 (by omega)).trans h.cnb
  · exact (hc 277 (by omega)).trans h.cnt
  · exact (hc 248 (by omega)).trans h.cno
  · exact (hc 249 (by omega)).trans (h.cbs.trans (hr 2 (by omega)).symm)
  · intro f hf
    by_cases e : f = nf
    · rw [e, d1]
      exact z1.symm
    · rw [hc _ (by omega), hr _ (by omega)]
      exact h.cfp f (by omega)
  · intro f hf
    by_cases e : f = nf
    · rw [qLs_at e, e]
      exact ⟨(q_at (by omega)).trans d2, fun l x hx => by cases hx⟩
    · rw [qLs_ne e]
      have := (h.lo f (by omega)).1
      exact (h.clt f (by omega)).keep (hc _ (by omega)) (fun l hl => ⟨hc _ (by omega), hc _ (by omega)⟩)
  · intro f hf
    by_cases e : f = nf
    · rw [e, d3]
      exact ((congrArg (vw z 710) (show 42 + 28 * nf = 40 + 28 * nf + 2 by omega)).trans (z4 2 (by decide) (by decide))).symm
    · rw [hc _ (by omega), hr _ (by omega)]
      exact h.cpg f (by omega)
  · intro f hf
    by_cases e : f = nf
    · rw [e, d4]
      exact ((congrArg (vw z 710) (show 43 + 28 * nf = 40 + 28 * nf + 3 by omega)).trans (z4 3 (by decide) (by decide))).symm
    · rw [hc _ (by omega), hr _ (by omega)]
      exact h.cug f (by omega)
  · exact fun b hb => (hc (176 + b) (by omega)).trans ((h.cbl b hb).trans (hr (208 + 4 * b) (by omega)).symm)
  · exact fun b hb => (hc (182 + b) (by omega)).trans ((h.cbm b hb).trans (hr (209 + 4 * b) (by omega)).symm)
  · exact fun b hb => (hc (188 + b) (by omega)).trans ((h.cst b hb).trans (hs b hb).symm)
  · exact fun b hb => (hc (194 + b) (by omega)).trans ((h.cmf b hb).trans (congrArg nI (hm b hb).symm))
  · exact fun b hb => (hc (200 + b) (by omega)).trans ((h.clo b hb).trans (hr (211 + 4 * b) (by omega)).symm)
  · exact fun b f hb hf => (hc (212 + 6 * b + f) (by omega)).trans ((h.cam b f hb hf).trans (congrArg nI (ha b f hb).symm))
  · exact (qS_congr (fun b hb => by rw [hc (206 + b) (by omega), hc (176 + b) (by omega), hc (188 + b) (by omega)])).trans (h.csd.trans (hr 12 (by omega)).symm)
  · exact fun o ho => (hc (250 + o) (by omega)).trans ((h.cfr o ho).trans (hr (37 + o) (by omega)).symm)
  · exact fun j hj => (hc (253 + j) (by omega)).trans ((h.crt j hj).trans (hr (13 + j) (by omega)).symm)
  · exact fun t ht => (hc (278 + t) (by omega)).trans ((h.ctb t ht).trans (hr (232 + 11 * t) (by omega)).symm)
  · exact fun t ht => (hc (302 + t) (by omega)).trans ((h.ctp t ht).trans (hr (233 + 11 * t) (by omega)).symm)
  · exact fun t ht => (hc (326 + t) (by omega)).trans ((h.ctu t ht).trans (hr (234 + 11 * t) (by omega)).symm)
  · exact fun t ht => (hc (350 + t) (by omega)).trans ((h.cts t ht).trans (hr (235 + 11 * t) (by omega)).symm)
  · exact fun t ht => (hc (374 + t) (by omega)).trans ((h.ctm t ht).trans (hr (236 + 11 * t) (by omega)).symm)
  · exact fun t ht => by rw [hc (398 + t) (by omega), hc (422 + t) (by omega), hr (237 + 11 * t) (by omega)]; exact h.ctc t ht
  · exact fun t ht => (hc (446 + t) (by omega)).trans ((h.ctl t ht).trans (hl9 t ht).symm)
  · exact fun t k ht hk => (hc (470 + 5 * t + k) (by omega)).trans ((h.ctg t k ht hk).trans (hr (238 + 11 * t + k) (by omega)).symm)
  · exact (qS_congr (fun t ht => by rw [hc (422 + t) (by omega)])).trans (h.coc.trans (hr 10 (by omega)).symm)
end
