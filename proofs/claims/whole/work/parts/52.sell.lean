/-! ===== layer 2: changes that keep the relation ===== -/
section
variable {T nf nb nt no : Nat} {Ls : Nat → List (Nat × Nat)} {r c u : bM}
theorem t_sell (h : q_S T nf nb nt no Ls (vw u 710) c) {b : Nat} {l p : Int32} (hb : b < nb) (hl : l ≤ vw u 710 (211 + 4 * b)) : ∃ d z, fX6_sellLoaves (nI b) l p c = some (1, d) ∧ fX9_doSell (nI b) l p u = some (z 710, z) ∧ d 1 = z 710 ∧ q_S T nf nb nt no Ls (vw z 710) d ∧ ∀ x, ¬ (710 ≤ x ∧ x < 1206) → z x = u x := by
  have h1 := h.hnf
  have h2 := h.hnb
  have h3 := h.hnt
  have h4 := h.hno
  obtain ⟨d, d0, d1, d2, d3, d4, d5, hc⟩ := c_sell (c := c) (p := p) (show b < 6 by omega) (by rw [h.clo b hb]; exact hl)
  obtain ⟨z, z0, z1, z2, z3, z4, z5, hz⟩ := r_sell (l := l) (p := p) h.R hb
  have hr : ∀ x, x ≠ 211 + 4 * b ∧ x ≠ 0 ∧ x ≠ 8 ∧ x ≠ 11 ∧ x ≠ 12 → vw z 710 x = vw u 710 x := fun x hx => hz _ (by omega)
  have f0 : d 1 = vw z 710 0 := d3.trans ((congrArg (· + l * p) h.cca).trans z2.symm)
  refine ⟨d, z, d0, z0, f0, ?_, fun x hx => hz x (by omega)⟩
  have ha : ∀ b f, b < nb → qam (vw z 710) b f = qam (vw u 710) b f := fun b f hb => qam_keep (hr _ (by omega))
  have hm : ∀ b, b < nb → qmf (vw z 710) b = qmf (vw u 710) b := fun b hb => qmf_keep (hr _ (by omega))
  have hs : ∀ b, b < nb → qstd nf (vw z 710) b = qstd nf (vw u 710) b := fun b hb => qstd_keep (hr _ (by omega)) (hr _ (by omega)) (hr _ (by omega)) (fun f hf => hr _ (by omega))
  have hl9 : ∀ t, t < nt → qls nf (vw z 710) t = qls nf (vw u 710) t := fun t ht => by
    obtain ⟨b, hb, e⟩ := h.rtb t ht
    exact qls_keep (by omega) e (hr _ (by omega)) (hr _ (by omega)) (hr _ (by omega)) (hr _ (by omega)) (hs b hb)
  refine ⟨?_, ?_, ?_, ?_, ?_, ?_, ?_, ?_, ?_, ?_, ?_, ?_, ?_, ?_, ?_, ?_, ?_, ?_, ?_, ?_, ?_, ?_, ?_, ?_, ?_, ?_, ?_, ?_, ?_, ?_, ?_, ?_, ?_, ?_, ?_, ?_, ?_, ?_, ?_, ?_, ?_, ?_, ?_, ?_, ?_, ?_, ?_, ?_, ?_, ?_, ?_, ?_, ?_⟩
  · exact h.hT
  · exact h.hnf
  · exact h.hnb
  · exact h.hnt
  · exact h.hno
  · exact (hr 5 (by omega)).trans h.rnf
  · exact (hr 6 (by omega)).trans h.rnb
  · exact (hr 7 (by omega)).trans h.rnt
  · exact (hr 3 (by omega)).trans h.rno
  · rw [hr 4 (by omega)]
    exact h.rck
  · rw [hr 2 (by omega)]
    exact h.rbs
  · exact fun j hj => by rw [hr (13 + j) (by omega)]; exact h.rrt j hj
  · exact fun o ho => by rw [hr (37 + o) (by omega)]; exact h.rfr o ho
  · exact fun f hf => by rw [hr (40 + 28 * f) (by omega)]; exact h.rfp f hf
  · exact fun f hf => (h.rlt f hf).keep (hr _ (by omega)) (fun l hl => by have := (h.lo f hf).1; exact ⟨hr _ (by omega), hr _ (by omega)⟩)
  · exact h.lo
  · exact fun b hb => by rw [hr (209 + 4 * b) (by omega)]; exact h.rbm b hb
  · exact fun b hb => by rw [hr (210 + 4 * b) (by omega)]; exact h.rrc b hb
  · exact fun t ht => by rw [hr (232 + 11 * t) (by omega)]; exact h.rtb t ht
  · exact fun t k ht hk => by rw [hr (238 + 11 * t + k) (by omega)]; exact h.rgp t k ht hk
  · exact (hc 0 (by omega)).trans (h.cck.trans (hr 4 (by omega)).symm)
  · exact f0
  · exact (hc 2 (by omega)).trans (h.cfc.trans (hr 1 (by omega)).symm)
  · exact d4.trans ((congrArg (· + l * p) h.cea).trans z3.symm)
  · exact (hc 4 (by omega)).trans (h.cpf.trans (hr 9 (by omega)).symm)
  · rw [d5, h.csg, h.cbl b hb]
    exact z4.symm
  · exact (hc 6 (by omega)).trans h.cnf
  · exact (hc 175 (by omega)).trans h.cnb
  · exact (hc 277 (by omega)).trans h.cnt
  · exact (hc 248 (by omega)).trans h.cno
  · exact (hc 249 (by omega)).trans (h.cbs.trans (hr 2 (by omega)).symm)
  · exact fun f hf => (hc (7 + f) (by omega)).trans ((h.cfp f hf).trans (hr (40 + 28 * f) (by omega)).symm)
  · exact fun f hf => (h.clt f hf).keep (hc _ (by omega)) (fun l hl => by have := (h.lo f hf).1; exact ⟨hc _ (by omega), hc _ (by omega)⟩)
  · exact fun f hf => (hc (163 + f) (by omega)).trans ((h.cpg f hf).trans (hr (42 + 28 * f) (by omega)).symm)
  · exact fun f hf => (hc (169 + f) (by omega)).trans ((h.cug f hf).trans (hr (43 + 28 * f) (by omega)).symm)
  · exact fun b hb => (hc (176 + b) (by omega)).trans ((h.cbl b hb).trans (hr (208 + 4 * b) (by omega)).symm)
  · exact fun b hb => (hc (182 + b) (by omega)).trans ((h.cbm b hb).trans (hr (209 + 4 * b) (by omega)).symm)
  · exact fun b hb => (hc (188 + b) (by omega)).trans ((h.cst b hb).trans (hs b hb).symm)
  · exact fun b hb => (hc (194 + b) (by omega)).trans ((h.cmf b hb).trans (congrArg nI (hm b hb).symm))
  · intro b9 hb9
    by_cases e : b9 = b
    · rw [e, d1, h.clo b hb]
      exact z1.symm
    · exact (hc _ (by omega)).trans ((h.clo b9 hb9).trans (hr _ (by omega)).symm)
  · exact fun b f hb hf => (hc (212 + 6 * b + f) (by omega)).trans ((h.cam b f hb hf).trans (congrArg nI (ha b f hb).symm))
  · rw [qS_put (g := fun b => c (206 + b) * (c (176 + b) - c (188 + b))) hb (fun i hi hne => by rw [hc (206 + i) (by omega), hc (176 + i) (by omega), hc (188 + i) (by omega)]) (show _ = _ + l * (vw u 710 (208 + 4 * b) - qstd nf (vw u 710) b) by rw [d2, hc (176 + b) (by omega), hc (188 + b) (by omega), h.cbl b hb, h.cst b hb]; grind), h.csd]
    exact z5.symm
  · exact fun o ho => (hc (250 + o) (by omega)).trans ((h.cfr o ho).trans (hr (37 + o) (by omega)).symm)
  · exact fun j hj => (hc (253 + j) (by omega)).trans ((h.crt j hj).trans (hr (13 + j) (by omega)).symm)
  · exact fun t ht => (hc (278 + t) (by omega)).trans ((h.ctb t ht).trans (hr (232 + 11 * t) (by omega)).symm)
  · exact fun t ht => (hc (302 + t) (by omega)).trans ((h.ctp t ht).trans (hr (233 + 11 * t) (by omega)).symm)
  · exact fun t ht => (hc (326 + t) (by omega)).trans ((h.ctu t ht).trans (hr (234 + 11 * t) (by omega)).symm)
  · exact fun t ht => (hc (350 + t) (by omega)).trans ((h.cts t ht).trans (hr (235 + 11 * t) (by omega)).symm)
  · exact fun t ht => (hc (374 + t) (by omega)).trans ((h.ctm t ht).trans (hr (236 + 11 * t) (by omega)).symm)
  · exact fun t ht => by rw [hc (398 + t) (by omega), hc (422 + t) (by omega), hr (237 + 11 * t) (by omega)]; exact h.ctc t ht
  · exact fun t ht => (hc (446 + t) (by omega)).trans ((h.ctl t ht).trans (hl9 t ht).symm)
  · exact fun t k ht hk => (hc (470 + 5 * t + k) (by omega)).trans ((h.ctg t k ht hk).trans (hr (238 + 11 * t + k) (by omega)).symm)
  · exact (qS_congr (fun t ht => by rw [hc (422 + t) (by omega)])).trans (h.coc.trans (hr 10 (by omega)).symm)
end
