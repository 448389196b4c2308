/-! ===== layer 2: a lot is bought ===== -/
theorem q_splu {v w : bM} {o m j : Nat} {y : Int32} (hj : j < m) : spl v o m (upd w j y) = upd (spl v o m w) (o + j) y := by
  funext x
  by_cases h : x = o + j
  · rw [q_uat h, q_spi h.symm hj, q_uat rfl]
  · rw [q_un h]
    by_cases h2 : o ≤ x ∧ x < o + m
    · rw [q_spi (show o + (x - o) = x by omega) (by omega), q_spi (show o + (x - o) = x by omega) (by omega), q_un (by omega)]
    · rw [q_spo h2, q_spo h2]
theorem q_9.add {r r9 : bM} {f w k : Nat} {L : List (Nat × Nat)} (h : q_9 r f L) (h1 : r9 (41 + 28 * f) = nI (L.length + 1)) (h2 : ∀ l, l < L.length → r9 (44 + 28 * f + 2 * l) = r (44 + 28 * f + 2 * l) ∧ r9 (45 + 28 * f + 2 * l) = r (45 + 28 * f + 2 * l)) (h3 : r9 (44 + 28 * f + 2 * L.length) = nI w) (h4 : r9 (45 + 28 * f + 2 * L.length) = nI k) : q_9 r9 f (L ++ [(w, k)]) := by
  refine ⟨by rw [h1, List.length_append]; rfl, fun l x hx => ?_⟩
  have hl := q_ix hx
  rw [List.length_append] at hl
  have hl : l < L.length + 1 := hl
  by_cases e : l = L.length
  · rw [e, List.getElem?_append_right (Nat.le_refl _), Nat.sub_self] at hx
    have hx : (w, k) = x := Option.some.inj hx
    rw [e, h3, h4, ← hx]
    exact ⟨rfl, rfl⟩
  · rw [List.getElem?_append_left (by omega)] at hx
    obtain ⟨g1, g2⟩ := h2 l (by omega)
    rw [g1, g2]
    exact h.2 l x hx
theorem q_2.add {c c9 : bM} {f w k : Nat} {L : List (Nat × Nat)} (h : q_2 (vw c 6) f L) (h1 : c9 (13 + f) = nI (L.length + 1)) (h2 : ∀ l, l < L.length → c9 (19 + 12 * f + l) = c (19 + 12 * f + l) ∧ c9 (91 + 12 * f + l) = c (91 + 12 * f + l)) (h3 : c9 (19 + 12 * f + L.length) = nI w) (h4 : c9 (91 + 12 * f + L.length) = nI k) : q_2 (vw c9 6) f (L ++ [(w, k)]) := by
  have e1 : ∀ c : bM, vw c 6 (7 + f) = c (13 + f) := fun c => q_at (by omega)
  have e2 : ∀ (c : bM) l, vw c 6 (13 + 12 * f + l) = c (19 + 12 * f + l) := fun c l => q_at (by omega)
  have e3 : ∀ (c : bM) l, vw c 6 (85 + 12 * f + l) = c (91 + 12 * f + l) := fun c l => q_at (by omega)
  refine ⟨by rw [e1, h1, List.length_append]; rfl, fun l x hx => ?_⟩
  have hl := q_ix hx
  rw [List.length_append] at hl
  have hl : l < L.length + 1 := hl
  by_cases e : l = L.length
  · rw [e, List.getElem?_append_right (Nat.le_refl _), Nat.sub_self] at hx
    have hx : (w, k) = x := Option.some.inj hx
    rw [e, e2, e3, h3, h4, ← hx]
    exact ⟨rfl, rfl⟩
  · rw [List.getElem?_append_left (by omega)] at hx
    obtain ⟨g1, g2⟩ := h2 l (by omega)
    rw [e2, e3, g1, g2, ← e2 c, ← e3 c]
    exact h.2 l x hx
theorem q_lo.add {L : List (Nat × Nat)} {w k : Nat} (h : q_lo L) (hl : L.length < 12) (hw : 1 ≤ w ∧ w ≤ 99) (hk : 1 ≤ k ∧ k ≤ 99) : q_lo (L ++ [(w, k)]) := by
  refine ⟨by rw [List.length_append]; exact hl, fun x hx => ?_⟩
  rcases List.mem_append.mp hx with e | e
  · exact h.2 x e
  · have e : x = (w, k) := List.mem_singleton.mp e
    rw [e]
    exact ⟨hw.1, hw.2, hk.1, hk.2⟩
def qcb (Ls : Nat → List (Nat × Nat)) (r : bM) (f : Nat) (x p : Int32) : Int32 := if r 0 < x * p ∨ 12 ≤ (Ls f).length then 0 else 1
section
variable {T nf nb nt no : Nat} {Ls : Nat → List (Nat × Nat)} {r c u : bM}
theorem c_canBuy (h : q_S T nf nb nt no Ls r c) {f : Nat} {x p : Int32} (hf : f < nf) : fX6_canBuyLot (nI f) x p c = some (qcb Ls r f x p) := by
  have h1 := h.hnf
  have h2 := (h.lo f hf).1
  have e1 : c (13 + f) = nI (Ls f).length := (q_at (o := 6) (by omega)).symm.trans (h.clt f hf).1
  unfold fX6_canBuyLot qcb
  rw [h.cca, q_ck (by omega) (by decide), nI_clamp (by omega), e1, q_l12]
  by_cases e : r 0 < x * p
  · rw [if_pos e, if_pos (Or.inl e)]
  · rw [if_neg e]
    by_cases e2 : 12 ≤ (Ls f).length
    · rw [if_pos (nI_le e2 (by omega)), if_pos (Or.inr e2)]
    · rw [if_neg (nI_ge (by omega) (by decide)), if_neg (fun q => q.elim e e2)]
theorem r_canBuy (h : q_S T nf nb nt no Ls (vw u 710) c) {f : Nat} {x p : Int32} (hf : f < nf) : fX9_canBuy (nI f) x p u = some (qcb Ls (vw u 710) f x p) := by
  have h1 := h.hnf
  have h2 := (h.lo f hf).1
  have e0 : u (710 + (0 : Int32).toNatClampNeg) = vw u 710 0 := rfl
  unfold fX9_canBuy qcb
  rw [e0, r_lots (by omega) (h.rlt f hf), q_bnr, q_l12]
  by_cases e : vw u 710 0 < x * p
  · rw [if_pos e, if_pos (Or.inl e)]
  · rw [if_neg e]
    by_cases e2 : 12 ≤ (Ls f).length
    · rw [if_pos (nI_le e2 (by omega)), if_pos (Or.inr e2)]
    · rw [if_neg (nI_ge (by omega) (by decide)), if_neg (fun q => q.elim e e2)]
theorem qcb_1 {f : Nat} {x p : Int32} (h : ¬ qcb Ls r f x p = 0) : ¬ r 0 < x * p ∧ (Ls f).length < 12 ∧ qcb Ls r f x p = 1 := by
  unfold qcb at h ⊢
  by_cases e : r 0 < x * p ∨ 12 ≤ (Ls f).length
  · rw [if_pos e] at h; exact absurd rfl h
  · exact ⟨fun q => e (Or.inl q), by omega, if_neg e⟩
theorem t_noBuy (h : q_S T nf nb nt no Ls r c) {f : Nat} {x p : Int32} (hf : f < nf) (h0 : qcb Ls r f x p = 0) : fX6_buyLot (nI f) x p c = some (0, c) := by
  unfold fX6_buyLot
  rw [c_canBuy h hf, q_bnr, h0, if_pos rfl]
theorem t_buy (h : q_S T nf nb nt no Ls (vw u 710) c) {f w k : Nat} (hf : f < nf) (hw : 1 ≤ w ∧ w ≤ 99) (hk : 1 ≤ k ∧ k ≤ 99) (h0 : ¬ qcb Ls (vw u 710) f (nI w) (nI k) = 0) : ∃ d z, fX6_buyLot (nI f) (nI w) (nI k) c = some (1, d) ∧ fX9_doBuy (nI f) (nI w) (nI k) u = some (z 710, z) ∧ d 1 = z 710 ∧ q_S T nf nb nt no (qLs Ls f (Ls f ++ [(w, k)])) (vw z 710) d ∧ ∀ x, ¬ (710 ≤ x ∧ x < 1206) → z x = u x := by
  have h1 := h.hnf
  have h2 := h.hnb
  have h3 := h.hnt
  have h4 := h.hno
  obtain ⟨_, hl, hq1⟩ := qcb_1 h0
  have h9 := (h.lo f hf).1
  have e1 : vw c 6 (7 + f) = nI (Ls f).length := (h.clt f hf).1
  have er : vw u 710 (41 + 28 * f) = nI (Ls f).length := (h.rlt f hf).1
  generalize hn : (Ls f).length = n at *
  have hd : ∃ d, fX6_buyLot (nI f) (nI w) (nI k) c = some (1, d) ∧ d (19 + 12 * f + n) = nI w ∧ d (91 + 12 * f + n) = nI k ∧ d (13 + f) = nI (n + 1) ∧ d 1 = c 1 - nI w * nI k ∧ d 4 = c 4 + nI w * nI k ∧ ∀ x, x ≠ 19 + 12 * f + n ∧ x ≠ 91 + 12 * f + n ∧ x ≠ 13 + f ∧ x ≠ 1 ∧ x ≠ 4 → d x = c x := by
    refine ⟨upd (upd (upd (upd (upd c (6 + (13 + 12 * f + n)) (nI w)) (6 + (85 + 12 * f + n)) (nI k)) (6 + (7 + f)) (nI (n + 1))) 1 (c 1 - nI w * nI k)) 4 (c 4 + nI w * nI k), ?_, ?_, ?_, ?_, ?_, ?_, ?_⟩
    · unfold fX6_buyLot fX2_addLot
      rw [c_canBuy h hf, q_bnr, hq1, if_neg (by decide), q_ck (by omega) (by decide), nI_clamp (show f < 2 ^ 31 by omega), e1, q_nm, q_ck (by omega) (by decide), q_ck (by omega) (by decide), nI_clamp (show n < 2 ^ 31 by omega), q_nm, q_ck (by omega) (by decide), q_ck (by omega) (by decide), q_nm, q_ck (by omega) (by decide), q_nm, q_ck (by omega) (by decide), q_nm, q_bnw, q_nm, q_splu (by omega), q_splu (by omega), q_splu (by omega), spl_self, q_nm, q_nm, q_nm, q_nm]
      simp (disch := omega) only [pk_un, e1, q_add1]
    all_goals intros
    all_goals simp (disch := omega) only [pk_un, pk_us, q_uat]
  have hz : ∃ z, fX9_doBuy (nI f) (nI w) (nI k) u = some (z 710, z) ∧ z (710 + (44 + 28 * f + 2 * n)) = nI w ∧ z (710 + (45 + 28 * f + 2 * n)) = nI k ∧ z (710 + (41 + 28 * f)) = nI (n + 1) ∧ z 710 = u 710 - nI w * nI k ∧ z 719 = u 719 + nI w * nI k ∧ ∀ x, x ≠ 710 + (44 + 28 * f + 2 * n) ∧ x ≠ 710 + (45 + 28 * f + 2 * n) ∧ x ≠ 710 + (41 + 28 * f) ∧ x ≠ 710 ∧ x ≠ 719 → z x = u x := by
    refine ⟨upd (upd (upd (upd (upd u (710 + (44 + 28 * f + 2 * n)) (nI w)) (710 + (45 + 28 * f + 2 * n)) (nI k)) (710 + (41 + 28 * f)) (nI (n + 1))) 710 (u 710 - nI w * nI k)) 719 (u 719 + nI w * nI k), ?_, ?_, ?_, ?_, ?_, ?_, ?_⟩
    · have g1 : ((40 : Int32) + 28 * nI f) + 4 + 2 * nI n = nI (44 + 28 * f + 2 * n) := by
        rw [q_l40, q_l28, q_l4, q_l2, pk_mul, pk_mul, nI_add, nI_add, nI_add, show 40 + 28 * f + 4 + 2 * n = 44 + 28 * f + 2 * n by omega]
      have g2 : ∀ v : bM, v (710 + (41 + 28 * f)) = nI n → fX9_addToFlour (nI f) 1 1 v = some (upd v (710 + (41 + 28 * f)) (nI (n + 1))) := by
        intro v hv
        have g := r_addToFlour (u := v) (x := 1) (show f < 6 by omega) (show 1 < 28 by decide)
        rw [show 40 + 28 * f + 1 = 41 + 28 * f by omega, hv, q_add1] at g
        exact g
      have er : u (710 + (41 + 28 * f)) = nI n := er
      unfold fX9_doBuy
      rw [r_flour1 (by omega), q_bnr]
      rw [show vw u 710 (41 + 28 * f) = nI n from er, g1, q_nm, q_ck (by omega) (by decide), nI_clamp (show 44 + 28 * f + 2 * n < 2 ^ 31 by omega), q_nm, q_add1, q_ck (by omega) (by decide), nI_clamp (show 44 + 28 * f + 2 * n + 1 < 2 ^ 31 by omega), q_nm, g2 _ (by simp (disch := omega) only [pk_un]; exact er), q_bnw]
      rw [show (710 + (0 : Int32).toNatClampNeg) = 710 from rfl, show (710 + (9 : Int32).toNatClampNeg) = 719 from rfl, q_nm, q_nm, q_nm, q_nm, show 44 + 28 * f + 2 * n + 1 = 45 + 28 * f + 2 * n by omega]
      simp (disch := omega) only [pk_un, pk_us]
    all_goals intros
    all_goals simp (disch := omega) only [pk_un, pk_us]
  obtain ⟨d, d0, d1, d2, d3, d4, d5, hc⟩ := hd
  obtain ⟨z, z0, z1, z2, z3, z4, z5, hz⟩ := hz
  have hr : ∀ x, x ≠ 44 + 28 * f + 2 * n ∧ x ≠ 45 + 28 * f + 2 * n ∧ x ≠ 41 + 28 * f ∧ x ≠ 0 ∧ x ≠ 9 → vw z 710 x = vw u 710 x := fun x hx => hz _ (by omega)
  have f0 : d 1 = vw z 710 0 := d4.trans ((congrArg (· - nI w * nI k) h.cca).trans z4.symm)
  refine ⟨d, z, d0, z0, f0, ?_, fun x hx => hz x (by omega)⟩
  have ha : ∀ b f, b < nb → qam (vw z 710) b f = qam (vw u 710) b f := fun b f hb => qam_keep (hr _ (by omega))
  have hm : ∀ b, b < nb → qmf (vw z 710) b = qmf (vw u 710) b := fun b hb => qmf_keep (hr _ (by omega))
  have hs : ∀ b, b < nb → qstd nf (vw z 710) b = qstd nf (vw u 710) b := fun b hb => qstd_keep (hr _ (by omega)) (hr _ (by omega)) (hr _ (by omega)) (fun f hf => hr _ (by omega))
  have hl9 : ∀ t, t < nt → qls nf (vw z 710) t = qls nf (vw u 710) t := fun t ht => by
    obtain ⟨b, hb, e⟩ := h.rtb t ht
    exact qls_keep (by omega) e (hr _ (by omega)) (hr _ (by omega)) (hr _ (by omega)) (hr _ (by omega)) (hs b hb)
  refine ⟨?_, ?_, ?_, ?_, ?_, ?_, ?_, ?_, ?_, ?_, ?_, ?_, ?_, ?_, ?_, ?_, ?_, ?_, ?_, ?_, ?_, ?_, ?_, ?_, ?_, ?_, ?_, ?_, ?_, ?_, ?_, ?_, ?_, ?_, ?_, ?_, ?_, ?_, ?_, ?_, ?_, ?_, ?_, ?_, ?_, ?_, ?_, ?_, ?_, ?_, ?_, ?_, ?_⟩
  · exact h.hT
  · exact h.hnf
  · exact h.hnb
  · exact h.hnt
  · exact h.hno
  · exact (hr 5 (by omega)).trans h.rnf
  · exact (hr 6 (by omega)).trans h.rnb
  · exact (hr 7 (by omega)).trans h.rnt
  · exact (hr 3 (by omega)).trans h.rno
  · rw [hr 4 (by omega)]
    exact h.rck
  · rw [hr 2 (by omega)]
    exact h.rbs
  · exact fun j hj => by rw [hr (13 + j) (by omega)]; exact h.rrt j hj
  · exact fun o ho => by rw [hr (37 + o) (by omega)]; exact h.rfr o ho
  · exact fun f hf => by rw [hr (40 + 28 * f) (by omega)]; exact h.rfp f hf
  · intro g hg
    have hg9 := (h.lo g hg).1
    by_cases e : g = f
    · rw [qLs_at e, e]
      exact (h.rlt f hf).add (by rw [hn]; exact z3) (fun l hl9 => ⟨hr _ (by omega), hr _ (by omega)⟩) (by rw [hn]; exact z1) (by rw [hn]; exact z2)
    · rw [qLs_ne e]
      exact (h.rlt g hg).keep (hr _ (by omega)) (fun l hl => ⟨hr _ (by omega), hr _ (by omega)⟩)
  · intro g hg
    by_cases e : g = f
    · rw [qLs_at e]
      exact (h.lo f hf).add (by omega) hw hk
    · rw [qLs_ne e]
      exact h.lo g hg
  · exact fun b hb => by rw [hr (209 + 4 * b) (by omega)]; exact h.rbm b hb
  · exact fun b hb => by rw [hr (210 + 4 * b) (by omega)]; exact h.rrc b hb
  · exact fun t ht => by rw [hr (232 + 11 * t) (by omega)]; exact h.rtb t ht
  · exact fun t k ht hk => by rw [hr (238 + 11 * t + k) (by omega)]; exact h.rgp t k ht hk
  · exact (hc 0 (by omega)).trans (h.cck.trans (hr 4 (by omega)).symm)
  · exact f0
  · exact (hc 2 (by omega)).trans (h.cfc.trans (hr 1 (by omega)).symm)
  · exact (hc 3 (by omega)).trans (h.cea.trans (hr 8 (by omega)).symm)
  · exact d5.trans ((congrArg (· + nI w * nI k) h.cpf).trans z5.symm)
  · exact (hc 5 (by omega)).trans (h.csg.trans (hr 11 (by omega)).symm)
  · exact (hc 6 (by omega)).trans h.cnf
  · exact (hc 175 (by omega)).trans h.cnb
  · exact (hc 277 (by omega)).trans h.cnt
  · exact (hc 248 (by omega)).trans h.cno
  · exact (hc 249 (by omega)).trans (h.cbs.trans (hr 2 (by omega)).symm)
  · exact fun f hf => (hc (7 + f) (by omega)).trans ((h.cfp f hf).trans (hr (40 + 28 * f) (by omega)).symm)
  · intro g hg
    have hg9 := (h.lo g hg).1
    by_cases e : g = f
    · rw [qLs_at e, e]
      exact (h.clt f hf).add (by rw [hn]; exact d3) (fun l hl9 => ⟨hc _ (by omega), hc _ (by omega)⟩) (by rw [hn]; exact d1) (by rw [hn]; exact d2)
    · rw [qLs_ne e]
      exact (h.clt g hg).keep (hc _ (by omega)) (fun l hl => ⟨hc _ (by omega), hc _ (by omega)⟩)
  · exact fun f hf => (hc (163 + f) (by omega)).trans ((h.cpg f hf).trans (hr (42 + 28 * f) (by omega)).symm)
  · exact fun f hf => (hc (169 + f) (by omega)).trans ((h.cug f hf).trans (hr (43 + 28 * f) (by omega)).symm)
  · exact fun b hb => (hc (176 + b) (by omega)).trans ((h.cbl b hb).trans (hr (208 + 4 * b) (by omega)).symm)
  · exact fun b hb => (hc (182 + b) (by omega)).trans ((h.cbm b hb).trans (hr (209 + 4 * b) (by omega)).symm)
  · exact fun b hb => (hc (188 + b) (by omega)).trans ((h.cst b hb).trans (hs b hb).symm)
  · exact fun b hb => (hc (194 + b) (by omega)).trans ((h.cmf b hb).trans (congrArg nI (hm b hb).symm))
  · exact fun b hb => (hc (200 + b) (by omega)).trans ((h.clo b hb).trans (hr (211 + 4 * b) (by omega)).symm)
  · exact fun b f hb hf => (hc (212 + 6 * b + f) (by omega)).trans ((h.cam b f hb hf).trans (congrArg nI (ha b f hb).symm))
  · exact (qS_congr (fun b hb => by rw [hc (206 + b) (by omega), hc (176 + b) (by omega), hc (188 + b) (by omega)])).trans (h.csd.trans (hr 12 (by omega)).symm)
  · exact fun o ho => (hc (250 + o) (by omega)).trans ((h.cfr o ho).trans (hr (37 + o) (by omega)).symm)
  · exact fun j hj => (hc (253 + j) (by omega)).trans ((h.crt j hj).trans (hr (13 + j) (by omega)).symm)
  · exact fun t ht => (hc (278 + t) (by omega)).trans ((h.ctb t ht).trans (hr (232 + 11 * t) (by omega)).symm)
  · exact fun t ht => (hc (302 + t) (by omega)).trans ((h.ctp t ht).trans (hr (233 + 11 * t) (by omega)).symm)
  · exact fun t ht => (hc (326 + t) (by omega)).trans ((h.ctu t ht).trans (hr (234 + 11 * t) (by omega)).symm)
  · exact fun t ht => (hc (350 + t) (by omega)).trans ((h.cts t ht).trans (hr (235 + 11 * t) (by omega)).symm)
  · exact fun t ht => (hc (374 + t) (by omega)).trans ((h.ctm t ht).trans (hr (236 + 11 * t) (by omega)).symm)
  · exact fun t ht => by rw [hc (398 + t) (by omega), hc (422 + t) (by omega), hr (237 + 11 * t) (by omega)]; exact h.ctc t ht
  · exact fun t ht => (hc (446 + t) (by omega)).trans ((h.ctl t ht).trans (hl9 t ht).symm)
  · exact fun t k ht hk => (hc (470 + 5 * t + k) (by omega)).trans ((h.ctg t k ht hk).trans (hr (238 + 11 * t + k) (by omega)).symm)
  · exact (qS_congr (fun t ht => by rw [hc (422 + t) (by omega)])).trans (h.coc.trans (hr 10 (by omega)).symm)
end
