/-! ===== layer 2: a batch ===== -/
def q_bd (k : Nat) (x : Int32) : Prop := x.toInt.natAbs ≤ k
theorem q_bd_n {n k : Nat} (h : n ≤ k) (hn : n < 2 ^ 31) : q_bd k (nI n) := by
  unfold q_bd
  rw [nI_toInt hn]
  omega
theorem q_bd_mono {k k9 : Nat} {x : Int32} (h : q_bd k x) (hk : k ≤ k9) : q_bd k9 x := Nat.le_trans h hk
theorem q_bd_add {a b : Nat} {x y : Int32} (hx : q_bd a x) (hy : q_bd b y) (h : a + b < 2 ^ 31) : q_bd (a + b) (x + y) := by
  unfold q_bd at *
  rw [Int32.toInt_add, Int.bmod_eq_of_le (by omega) (by omega)]
  omega
theorem q_bd_sub {a b : Nat} {x y : Int32} (hx : q_bd a x) (hy : q_bd b y) (h : a + b < 2 ^ 31) : q_bd (a + b) (x - y) := by
  unfold q_bd at *
  rw [Int32.toInt_sub, Int.bmod_eq_of_le (by omega) (by omega)]
  omega
theorem q_bd_mul {a b : Nat} {x y : Int32} (hx : q_bd a x) (hy : q_bd b y) (h : a * b < 2 ^ 31) : q_bd (a * b) (x * y) := by
  unfold q_bd at *
  have h1 : (x.toInt * y.toInt).natAbs ≤ a * b := by
    rw [Int.natAbs_mul]
    exact Nat.mul_le_mul hx hy
  rw [Int32.toInt_mul, Int.bmod_eq_of_le (by omega) (by omega)]
  exact h1
theorem q_bd_S {g : Nat → Int32} {n k : Nat} (hg : ∀ i, i < n → q_bd k (g i)) (h : n * k < 2 ^ 31) : q_bd (n * k) (qS g n) := by
  induction n with
  | zero => show (0 : Int32).toInt.natAbs ≤ _; rw [show (0 : Int32).toInt = 0 from by decide]; exact Nat.zero_le _
  | succ n ih =>
    rw [Nat.succ_mul] at h ⊢
    exact q_bd_add (ih (fun i hi => hg i (by omega)) (by omega)) (hg n (by omega)) h
theorem q_bd_gb {k : Nat} {x : Int32} (h : q_bd k x) (hk : k ≤ 1000000) : q_gb x := by
  unfold q_bd at h
  unfold q_gb
  omega
theorem q_bd_b {lo hi : Nat} {x : Int32} (h : qb lo hi x) (hh : hi < 2 ^ 31) : q_bd hi x := by
  obtain ⟨k, _, k2, rfl⟩ := h
  exact q_bd_n k2 (by omega)
theorem q_minutes {m l : Nat} {za : Int32} (hm : m ≤ 9) (hl : l ≤ 20) (hz : q_bd 9 za) (h1 : 1 ≤ nI m * nI l + za) : nI m * nI l + za = nI (qn (nI m * nI l + za)) ∧ qn (nI m * nI l + za) ≤ 189 := by
  have h2 : m * l ≤ 9 * 20 := Nat.mul_le_mul hm hl
  have h3 : q_bd 189 (nI m * nI l + za) := by
    rw [pk_mul]
    exact q_bd_add (a := 180) (b := 9) (q_bd_n h2 (by omega)) hz (by decide)
  generalize nI m * nI l + za = x at *
  rw [Int32.le_iff_toInt_le, show (1 : Int32).toInt = 1 from by decide] at h1
  have e := q_0le (x := x) (by rw [Int32.le_iff_toInt_le, show (0 : Int32).toInt = 0 from by decide]; omega)
  refine ⟨e, ?_⟩
  have hq : qn x < 2 ^ 31 := Int32.toNatClampNeg_lt x
  have h4 := nI_toInt hq
  rw [← e] at h4
  unfold q_bd at h3
  omega
section
variable {T nf nb nt no : Nat} {Ls : Nat → List (Nat × Nat)} {r c u : bM}
theorem q_stdBd (h : q_S T nf nb nt no Ls r c) {b : Nat} (hb : b < nb) : q_bd 5526 (qstd nf r b) := by
  have h1 := h.hnf
  have g := q_bd_add (a := 9 * 20) (b := nf * (9 * 99)) (q_bd_mul (q_bd_b (h.rbm b hb) (by decide)) (q_bd_b h.rbs (by decide)) (by decide)) (q_bd_S (g := fun f => nI (qam r b f) * r (40 + 28 * f)) (fun f hf => q_bd_mul (q_bd_n (show qam r b f ≤ 9 by have := qdg_lt (qn (r (210 + 4 * b))) f; unfold qam; omega) (by have := qdg_lt (qn (r (210 + 4 * b))) f; unfold qam; omega)) (q_bd_b (h.rfp f hf) (by decide)) (by decide)) (by omega)) (by omega)
  exact q_bd_mono g (by omega)
theorem q_pmBd (h : q_S T nf nb nt no Ls r c) {s M : Nat} (hM : M ≤ 189) : q_bd 3780 (qpm r s M) := by
  have g := q_bd_S (g := fun i => r (13 + (s + i) / 60 % 24)) (n := M) (k := 20) (fun i _ => q_bd_b (h.rrt _ (Nat.mod_lt _ (by decide))) (by decide)) (by omega)
  exact q_bd_mono g (by omega)
theorem t_bake (h : q_S T nf nb nt no Ls (vw u 710) c) {b l bn : Nat} {y za : Int32} (hb : b < nb) (hl : l ≤ 20) (hbn : bn ≤ l) (hy : q_bd 9 y) (hza : q_bd 9 za) (h0 : qob nf nt Ls (vw u 710) b (nI l) y za = 0) (hT : T + 999 ≤ 100000000) : ∃ d z, fX6_bakeBatch (nI b) (nI l) (nI bn) y za c = some (nI nt, d) ∧ fX9_doBake (nI b) (nI l) (nI bn) y za u = some (nI nt, z) ∧ nt < 24 ∧ q_S (T + 999) nf nb (nt + 1) no (fun f => qD (qn (quse (vw u 710) b f (nI l) y)) (Ls f)) (vw z 710) d ∧ (∀ x, ¬ (710 ≤ x ∧ x < 1206) → z x = u x) ∧ qls nf (vw z 710) nt = qS (fun f => nI (qW (qn (quse (vw u 710) b f (nI l) y)) (Ls f))) nf + qpm (vw u 710) (qn (qst no (vw u 710) (vw u 710 4))) (qn (vw u 710 (209 + 4 * b) * nI l + za)) - (nI l - nI bn) * qstd nf (vw u 710) b := by
  have h1 := h.hnf
  have h2 := h.hnb
  have h3 := h.hnt
  have h4 := h.hno
  obtain ⟨hnt, hM1, hw⟩ := qob_0 h hl h0
  obtain ⟨m, m1, m2, m3⟩ := h.rbm b hb
  obtain ⟨hM, hM2⟩ := q_minutes m2 hl hza (by rw [← m3]; exact hM1)
  rw [← m3] at hM hM2
  have hT0 := h.hT
  obtain ⟨k1, _, k3⟩ := qb_n h.rck (by omega)
  obtain ⟨s, s1, s2, s3⟩ := h.stN (qn (vw u 710 4)) (by omega)
  rw [← k1] at s1
  have s4 : s ≤ T := by omega
  rw [s1, qn_nI s3]
  generalize hMM : qn (vw u 710 (209 + 4 * b) * nI l + za) = M at *
  have hwd : ∀ f, f < nf → qn (quse (vw u 710) b f (nI l) y) ≤ qUn (Ls f) ∧ quse (vw u 710) b f (nI l) y = nI (qn (quse (vw u 710) b f (nI l) y)) := fun f hf => ⟨(hw f hf).2.1, (hw f hf).1⟩
  have hwb : ∀ f, f < nf → qn (quse (vw u 710) b f (nI l) y) ≤ 189 := fun f hf => by
    have e := (hw f hf).1
    have hq : qn (quse (vw u 710) b f (nI l) y) < 2 ^ 31 := Int32.toNatClampNeg_lt _
    have ha9 : qam (vw u 710) b f ≤ 9 := by have := qdg_lt (qn (vw u 710 (210 + 4 * b))) f; unfold qam; omega
    have hal : qam (vw u 710) b f * l ≤ 9 * 20 := Nat.mul_le_mul ha9 hl
    have g : q_bd 189 (quse (vw u 710) b f (nI l) y) := by
      unfold quse
      rw [pk_mul]
      split
      · exact q_bd_add (a := 180) (b := 9) (q_bd_n hal (by omega)) hy (by decide)
      · exact q_bd_n (by omega) (by omega)
    unfold q_bd at g
    rw [e, nI_toInt hq] at g
    omega
  have hxy : ∀ f, f < nf → nI (qn (quse (vw u 710) b f (nI l) y)) - nI (qam (vw u 710) b f) * nI l = (if f = qmf (vw u 710) b then y else 0) := fun f hf => by
    rw [← (hw f hf).1]
    unfold quse
    by_cases e : f = qmf (vw u 710) b
    · rw [if_pos e, if_pos e]
      grind
    · rw [if_neg e, if_neg e, Int32.sub_self]
  generalize hwe : (fun f => qn (quse (vw u 710) b f (nI l) y)) = w at *
  have hwf : ∀ f, qn (quse (vw u 710) b f (nI l) y) = w f := fun f => congrFun hwe f
  simp only [hwf] at hwd hwb hxy ⊢
  obtain ⟨d, d0, ⟨d1, d2, d3, d4, d5, d6, d7, d8, d9, d10⟩, ⟨d11, d12, d13, d14, d15, d16, d17⟩, dF, hc⟩ := c_bake (bu := nI bn) (w := w) h hb hl h0 (fun f hf => ⟨by have := hwb f hf; omega, (hwd f hf).2⟩) s1 (by omega) hM (by omega)
  obtain ⟨z, z0, ⟨z1, z2, z3, z4, z5, z6, z7, z8, z9⟩, ⟨z11, z12, z13, z14, z15, z16, z17⟩, zF, hr, hO⟩ := r_bake (bu := nI bn) (w := w) h hb hnt hwd s1 (by omega) hM (by omega)
  have ho := qov_lt (r := vw u 710) h4
  have gb0 : ∀ f, f < nf → q_bd 37422 (qg0 (vw u 710) w Ls f) := fun f hf => by
    have hb1 := hwb f hf
    have hu := qW_le (fun x hx => ((h.lo f hf).2 x hx).2.2.2) (w f)
    exact q_bd_sub (a := 18711) (b := 189 * 99) (q_bd_n (by omega) (by omega)) (q_bd_mul (q_bd_n hb1 (by omega)) (q_bd_b (h.rfp f hf) (by decide)) (by decide)) (by decide)
  have G0 : q_gb (qS (qg0 (vw u 710) w Ls) nf) := q_bd_gb (q_bd_S gb0 (by omega)) (by omega)
  have gb1 : ∀ f, f < nf → q_bd 891 (qg1 (vw u 710) w b l f) := fun f hf => by
    unfold qg1
    rw [hxy f hf]
    refine q_bd_mul (a := 9) (b := 99) ?_ (q_bd_b (h.rfp f hf) (by decide)) (by decide)
    split
    · exact hy
    · exact q_bd_n (n := 0) (by decide) (by decide)
  have G1 : q_gb (qS (qg1 (vw u 710) w b l) nf) := q_bd_gb (q_bd_S gb1 (by omega)) (by omega)
  have G2 : q_gb (qpm (vw u 710) s M - nI M * vw u 710 2) := q_bd_gb (q_bd_sub (a := 3780) (b := 189 * 20) (q_pmBd h hM2) (q_bd_mul (q_bd_n hM2 (by omega)) (q_bd_b h.rbs (by decide)) (by decide)) (by decide)) (by decide)
  have G3 : q_gb (za * vw u 710 2) := q_bd_gb (q_bd_mul (a := 9) (b := 20) hza (q_bd_b h.rbs (by decide)) (by decide)) (by decide)
  have G4 : q_gb (nI bn * qstd nf (vw u 710) b) := q_bd_gb (q_bd_mul (a := 20) (b := 5526) (q_bd_n (by omega) (by omega)) (q_stdBd h hb) (by decide)) (by decide)
  have ha : ∀ b f, b < nb → qam (vw z 710) b f = qam (vw u 710) b f := fun b f hb => qam_keep (hr _ (by omega))
  have hm : ∀ b, b < nb → qmf (vw z 710) b = qmf (vw u 710) b := fun b hb => qmf_keep (hr _ (by omega))
  have hs : ∀ b, b < nb → qstd nf (vw z 710) b = qstd nf (vw u 710) b := fun b hb => qstd_keep (hr _ (by omega)) (hr _ (by omega)) (hr _ (by omega)) (fun f hf => (zF f hf).2.2.2)
  have hl9 : ∀ t, t < nt → qls nf (vw z 710) t = qls nf (vw u 710) t := fun t ht => by
    obtain ⟨b, hb, e⟩ := h.rtb t ht
    exact qls_keep (by omega) e (hr _ (by omega)) (hr _ (by omega)) (hr _ (by omega)) (hr _ (by omega)) (hs b hb)
  have hln : qls nf (vw z 710) nt = qS (fun f => nI (qW (w f) (Ls f))) nf + qpm (vw u 710) s M - (nI l - nI bn) * qstd nf (vw u 710) b := by
    unfold qls
    rw [z9, z5, z6, z4, qn_nI (by omega), hs b hb]
  refine ⟨d, z, d0, z0, hnt, ?_, hO, hln⟩
  refine ⟨?_, ?_, ?_, ?_, ?_, ?_, ?_, ?_, ?_, ?_, ?_, ?_, ?_, ?_, ?_, ?_, ?_, ?_, ?_, ?_, ?_, ?_, ?_, ?_, ?_, ?_, ?_, ?_, ?_, ?_, ?_, ?_, ?_, ?_, ?_, ?_, ?_, ?_, ?_, ?_, ?_, ?_, ?_, ?_, ?_, ?_, ?_, ?_, ?_, ?_, ?_, ?_, ?_⟩
  · exact hT
  · exact h.hnf
  · exact h.hnb
  · exact hnt
  · exact h.hno
  · exact (hr 5 (by omega)).trans h.rnf
  · exact (hr 6 (by omega)).trans h.rnb
  · exact z17
  · exact (hr 3 (by omega)).trans h.rno
  · rw [hr 4 (by omega)]
    exact qb_mono h.rck (Nat.le_refl _) (by omega)
  · rw [hr 2 (by omega)]
    exact h.rbs
  · exact fun j hj => by rw [hr (13 + j) (by omega)]; exact h.rrt j hj
  · intro o ho9
    by_cases e : o = qov no (vw u 710)
    · rw [e, z1]
      exact qb_mk (Nat.zero_le _) (by omega)
    · rw [hr _ (by omega)]
      exact qb_mono (h.rfr o ho9) (Nat.le_refl _) (by omega)
  · exact fun f hf => by rw [(zF f hf).2.2.2]; exact h.rfp f hf
  · exact fun f hf => (zF f hf).1
  · exact fun f hf => q_loD (h.lo f hf) _
  · exact fun b hb => by rw [hr (209 + 4 * b) (by omega)]; exact h.rbm b hb
  · exact fun b hb => by rw [hr (210 + 4 * b) (by omega)]; exact h.rrc b hb
  · intro t ht
    by_cases e : t = nt
    · rw [e]
      exact ⟨b, hb, z4⟩
    · rw [hr _ (by omega)]
      exact h.rtb t (by omega)
  · intro t k ht hk
    by_cases e : t = nt
    · rw [e]
      match k, hk with
      | 0, _ => show q_gb (vw z 710 (238 + 11 * nt)); rw [z11]; exact G0
      | 1, _ => rw [show 238 + 11 * nt + 1 = 239 + 11 * nt by omega, z12]; exact G1
      | 2, _ => rw [show 238 + 11 * nt + 2 = 240 + 11 * nt by omega, z13]; exact G2
      | 3, _ => rw [show 238 + 11 * nt + 3 = 241 + 11 * nt by omega, z14]; exact G3
      | 4, _ => rw [show 238 + 11 * nt + 4 = 242 + 11 * nt by omega, z15]; exact G4
      | n + 5, hk => exact absurd hk (by omega)
    · rw [hr _ (by omega)]
      exact h.rgp t k (by omega) hk
  · exact (hc 0 (by omega)).trans (h.cck.trans (hr 4 (by omega)).symm)
  · rw [d2, h.cca]
    exact z2.symm
  · exact (hc 2 (by omega)).trans (h.cfc.trans (hr 1 (by omega)).symm)
  · exact (hc 3 (by omega)).trans (h.cea.trans (hr 8 (by omega)).symm)
  · exact (hc 4 (by omega)).trans (h.cpf.trans (hr 9 (by omega)).symm)
  · exact (hc 5 (by omega)).trans (h.csg.trans (hr 11 (by omega)).symm)
  · exact (hc 6 (by omega)).trans h.cnf
  · exact (hc 175 (by omega)).trans h.cnb
  · exact d17
  · exact (hc 248 (by omega)).trans h.cno
  · exact (hc 249 (by omega)).trans (h.cbs.trans (hr 2 (by omega)).symm)
  · exact fun f hf => (hc _ (by omega)).trans ((h.cfp f hf).trans (zF f hf).2.2.2.symm)
  · exact fun f hf => (dF f hf).1
  · exact fun f hf => by rw [(dF f hf).2.1, h.cpg f hf]; exact (zF f hf).2.1.symm
  · exact fun f hf => by rw [(dF f hf).2.2, h.cug f hf]; exact (zF f hf).2.2.1.symm
  · exact fun b hb => (hc (176 + b) (by omega)).trans ((h.cbl b hb).trans (hr (208 + 4 * b) (by omega)).symm)
  · exact fun b hb => (hc (182 + b) (by omega)).trans ((h.cbm b hb).trans (hr (209 + 4 * b) (by omega)).symm)
  · exact fun b hb => (hc (188 + b) (by omega)).trans ((h.cst b hb).trans (hs b hb).symm)
  · exact fun b hb => (hc (194 + b) (by omega)).trans ((h.cmf b hb).trans (congrArg nI (hm b hb).symm))
  · intro b9 hb9
    by_cases e : b9 = b
    · rw [e, d16, h.clo b hb]
      exact z16.symm
    · exact (hc _ (by omega)).trans ((h.clo b9 hb9).trans (hr _ (by omega)).symm)
  · exact fun b f hb hf => (hc (212 + 6 * b + f) (by omega)).trans ((h.cam b f hb hf).trans (congrArg nI (ha b f hb).symm))
  · exact (qS_congr (fun b hb => by rw [hc (206 + b) (by omega), hc (176 + b) (by omega), hc (188 + b) (by omega)])).trans (h.csd.trans (hr 12 (by omega)).symm)
  · intro o ho9
    by_cases e : o = qov no (vw u 710)
    · rw [e, d1, z1]
    · exact (hc _ (by omega)).trans ((h.cfr o ho9).trans (hr _ (by omega)).symm)
  · exact fun j hj => (hc (253 + j) (by omega)).trans ((h.crt j hj).trans (hr (13 + j) (by omega)).symm)
  · intro t ht
    by_cases e : t = nt
    · rw [e]
      exact d4.trans z4.symm
    · exact (hc _ (by omega)).trans ((h.ctb t (by omega)).trans (hr _ (by omega)).symm)
  · intro t ht
    by_cases e : t = nt
    · rw [e]
      exact d5.trans z5.symm
    · exact (hc _ (by omega)).trans ((h.ctp t (by omega)).trans (hr _ (by omega)).symm)
  · intro t ht
    by_cases e : t = nt
    · rw [e]
      exact d6.trans z6.symm
    · exact (hc _ (by omega)).trans ((h.ctu t (by omega)).trans (hr _ (by omega)).symm)
  · intro t ht
    by_cases e : t = nt
    · rw [e]
      exact d7.trans z7.symm
    · exact (hc _ (by omega)).trans ((h.cts t (by omega)).trans (hr _ (by omega)).symm)
  · intro t ht
    by_cases e : t = nt
    · rw [e]
      exact d8.trans z8.symm
    · exact (hc _ (by omega)).trans ((h.ctm t (by omega)).trans (hr _ (by omega)).symm)
  · intro t ht
    by_cases e : t = nt
    · rw [e]
      rw [d9, d3, z9]
    · rw [hc (398 + t) (by omega), hc (422 + t) (by omega), hr (237 + 11 * t) (by omega)]
      exact h.ctc t (by omega)
  · intro t ht
    by_cases e : t = nt
    · rw [e]
      rw [d10, hln]
    · exact (hc _ (by omega)).trans ((h.ctl t (by omega)).trans (hl9 t (by omega)).symm)
  · intro t k ht hk
    by_cases e : t = nt
    · rw [e]
      match k, hk with
      | 0, _ => exact d11.trans z11.symm
      | 1, _ => rw [show 470 + 5 * nt + 1 = 471 + 5 * nt by omega, show 238 + 11 * nt + 1 = 239 + 11 * nt by omega, d12, z12]
      | 2, _ => rw [show 470 + 5 * nt + 2 = 472 + 5 * nt by omega, show 238 + 11 * nt + 2 = 240 + 11 * nt by omega, d13, z13]
      | 3, _ => rw [show 470 + 5 * nt + 3 = 473 + 5 * nt by omega, show 238 + 11 * nt + 3 = 241 + 11 * nt by omega, d14, z14]
      | 4, _ => rw [show 470 + 5 * nt + 4 = 474 + 5 * nt by omega, show 238 + 11 * nt + 4 = 242 + 11 * nt by omega, d15, z15]
      | n + 5, hk => exact absurd hk (by omega)
    · exact (hc _ (by omega)).trans ((h.ctg t k (by omega) hk).trans (hr _ (by omega)).symm)
  · show qS (fun t => d (422 + t)) nt + d (422 + nt) = vw z 710 10
    rw [d3, z3, qS_congr (fun t ht => hc (422 + t) (by omega))]
    exact congrArg (· + qpm (vw u 710) s M) h.coc
end
