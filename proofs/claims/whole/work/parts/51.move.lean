/-! ===== layer 2: what a change does to the numbers ===== -/
theorem q_9.keep {r r9 : bM} {f : Nat} {L : List (Nat × Nat)} (h : q_9 r f L) (h1 : r9 (41 + 28 * f) = r (41 + 28 * f)) (h2 : ∀ l, l < L.length → r9 (44 + 28 * f + 2 * l) = r (44 + 28 * f + 2 * l) ∧ r9 (45 + 28 * f + 2 * l) = r (45 + 28 * f + 2 * l)) : q_9 r9 f L := by
  refine ⟨h1.trans h.1, fun l x hx => ?_⟩
  obtain ⟨g1, g2⟩ := h2 l (q_ix hx)
  rw [g1, g2]
  exact h.2 l x hx
theorem q_2.keep {c c9 : bM} {f : Nat} {L : List (Nat × Nat)} (h : q_2 (vw c 6) f L) (h1 : c9 (13 + f) = c (13 + f)) (h2 : ∀ l, l < L.length → c9 (19 + 12 * f + l) = c (19 + 12 * f + l) ∧ c9 (91 + 12 * f + l) = c (91 + 12 * f + l)) : q_2 (vw c9 6) f L := by
  have e : ∀ c : bM, vw c 6 (7 + f) = c (13 + f) := fun c => q_at (by omega)
  have e2 : ∀ (c : bM) l, vw c 6 (13 + 12 * f + l) = c (19 + 12 * f + l) := fun c l => q_at (by omega)
  have e3 : ∀ (c : bM) l, vw c 6 (85 + 12 * f + l) = c (91 + 12 * f + l) := fun c l => q_at (by omega)
  refine ⟨by rw [e, h1, ← e c]; exact h.1, fun l x hx => ?_⟩
  obtain ⟨g1, g2⟩ := h2 l (q_ix hx)
  rw [e2, e3, g1, g2, ← e2 c, ← e3 c]
  exact h.2 l x hx
theorem qam_keep {r r9 : bM} {b f : Nat} (h : r9 (210 + 4 * b) = r (210 + 4 * b)) : qam r9 b f = qam r b f := by unfold qam; rw [h]
theorem qmf_keep {r r9 : bM} {b : Nat} (h : r9 (210 + 4 * b) = r (210 + 4 * b)) : qmf r9 b = qmf r b := by unfold qmf; rw [h]
theorem qstd_keep {nf b : Nat} {r r9 : bM} (h2 : r9 2 = r 2) (h3 : r9 (209 + 4 * b) = r (209 + 4 * b)) (h4 : r9 (210 + 4 * b) = r (210 + 4 * b)) (h5 : ∀ f, f < nf → r9 (40 + 28 * f) = r (40 + 28 * f)) : qstd nf r9 b = qstd nf r b := by
  unfold qstd
  rw [h2, h3, qS_congr (fun f hf => by rw [qam_keep h4, h5 f hf])]
theorem qls_keep {nf t b : Nat} {r r9 : bM} (hb : b < 6) (e : r (232 + 11 * t) = nI b) (h1 : r9 (232 + 11 * t) = r (232 + 11 * t)) (h2 : r9 (233 + 11 * t) = r (233 + 11 * t)) (h3 : r9 (234 + 11 * t) = r (234 + 11 * t)) (h4 : r9 (237 + 11 * t) = r (237 + 11 * t)) (hs : qstd nf r9 b = qstd nf r b) : qls nf r9 t = qls nf r t := by
  unfold qls
  rw [h1, h2, h3, h4, e, qn_nI (by omega), hs]
theorem qS_put {g g9 : Nat → Int32} {n b : Nat} {d : Int32} (hb : b < n) (h : ∀ i, i < n → i ≠ b → g9 i = g i) (e : g9 b = g b + d) : qS g9 n = qS g n + d := by
  induction n with
  | zero => omega
  | succ n ih =>
    show qS g9 n + g9 n = qS g n + g n + d
    by_cases hn : n = b
    · rw [qS_congr (fun i hi => h i (by omega) (by omega)), hn, e]
      grind
    · rw [ih (by omega) (fun i hi => h i (by omega)), h n (by omega) hn]
      grind
theorem q_vspl (v w : bM) (o k m : Nat) : vw (spl v (o + k) m w) o = spl (vw v o) k m w := by
  funext x
  unfold vw spl
  by_cases h : k ≤ x ∧ x < k + m
  · rw [if_pos h, if_pos (by omega), show o + x - (o + k) = x - k by omega]
  · rw [if_neg h, if_neg (by omega)]
theorem q_vspl0 {v w : bM} {o m x : Nat} (h : x < m) : vw (spl v o m w) o x = w x := by
  unfold vw spl
  rw [if_pos (by omega), show o + x - o = x by omega]
theorem q_spi {v w : bM} {o m x y : Nat} (h : o + y = x) (hy : y < m) : spl v o m w x = w y := by
  unfold spl
  rw [if_pos (by omega), show x - o = y by omega]
theorem q_spo {v w : bM} {o m x : Nat} (h : ¬ (o ≤ x ∧ x < o + m)) : spl v o m w x = v x := if_neg h
def qLs (Ls : Nat → List (Nat × Nat)) (f : Nat) (L : List (Nat × Nat)) : Nat → List (Nat × Nat) := fun g => if g = f then L else Ls g
theorem qLs_at {Ls : Nat → List (Nat × Nat)} {f g : Nat} {L : List (Nat × Nat)} (h : g = f) : qLs Ls f L g = L := if_pos h
theorem qLs_ne {Ls : Nat → List (Nat × Nat)} {f g : Nat} {L : List (Nat × Nat)} (h : ¬ g = f) : qLs Ls f L g = Ls g := if_neg h
/-! sell -/
section
variable {r c u : bM}
theorem c_sell {b : Nat} {l p : Int32} (hb : b < 6) (hl : l ≤ c (200 + b)) : ∃ d, fX6_sellLoaves (nI b) l p c = some (1, d) ∧ d (200 + b) = c (200 + b) - l ∧ d (206 + b) = c (206 + b) + l ∧ d 1 = c 1 + l * p ∧ d 3 = c 3 + l * p ∧ d 5 = c 5 + l * (c (176 + b) - p) ∧ ∀ x, x ≠ 200 + b ∧ x ≠ 206 + b ∧ x ≠ 1 ∧ x ≠ 3 ∧ x ≠ 5 → d x = c x := by
  refine ⟨upd (upd (upd (upd (upd c (200 + b) (c (200 + b) - l)) (206 + b) (c (206 + b) + l)) 1 (c 1 + l * p)) 3 (c 3 + l * p)) 5 (c 5 + l * (c (176 + b) - p)), ?_, ?_, ?_, ?_, ?_, ?_, ?_⟩
  · unfold fX6_sellLoaves
    rw [q_ck hb (by decide), nI_clamp (by omega), if_pos hl, q_ck hb (by decide), q_nm, q_ck hb (by decide), q_nm, q_ck hb (by decide), q_nm, q_ck hb (by decide), q_nm, q_nm, q_nm, q_nm, q_nm, q_ck hb (by decide), q_nm, q_nm]
    simp (disch := omega) only [pk_un]
  all_goals intros
  all_goals simp (disch := omega) only [pk_un, pk_us]
theorem r_sell {nf nb b : Nat} {l p : Int32} (R : q_R nf nb (vw u 710)) (hb : b < nb) : ∃ z, fX9_doSell (nI b) l p u = some (z 710, z) ∧ z (710 + (211 + 4 * b)) = u (710 + (211 + 4 * b)) - l ∧ z 710 = u 710 + l * p ∧ z 718 = u 718 + l * p ∧ z 721 = u 721 + l * (vw u 710 (208 + 4 * b) - p) ∧ z 722 = u 722 + l * (vw u 710 (208 + 4 * b) - qstd nf (vw u 710) b) ∧ ∀ x, x ≠ 710 + (211 + 4 * b) ∧ x ≠ 710 ∧ x ≠ 718 ∧ x ≠ 721 ∧ x ≠ 722 → z x = u x := by
  have h1 := R.2.1
  have h2 := R.1
  have e0 : ((208 : Int32) + 4 * nI b) + 3 = nI (211 + 4 * b) := by
    rw [q_l208, q_l4, q_l3, pk_mul, nI_add, nI_add, show 208 + 4 * b + 3 = 211 + 4 * b by omega]
  have eb : ∀ v : bM, (∀ x, x ≠ 710 + (211 + 4 * b) ∧ x ≠ 710 ∧ x ≠ 718 ∧ x ≠ 721 ∧ x ≠ 722 → v x = u x) → fX9_bread (nI b) 0 v = some (vw u 710 (208 + 4 * b)) := by
    intro v hv
    rw [r_bread0 (by omega)]
    exact congrArg some (hv _ (by omega))
  have es : ∀ v : bM, (∀ x, x ≠ 710 + (211 + 4 * b) ∧ x ≠ 710 ∧ x ≠ 718 ∧ x ≠ 721 ∧ x ≠ 722 → v x = u x) → fX9_standard (nI b) v = some (qstd nf (vw u 710) b) := by
    intro v hv
    have hk : ∀ x, x ≠ 211 + 4 * b ∧ x ≠ 0 ∧ x ≠ 8 ∧ x ≠ 11 ∧ x ≠ 12 → vw v 710 x = vw u 710 x := fun x hx => hv _ (by omega)
    rw [r_standard (R.keep (hk _ (by omega)) (fun b hb => hk _ (by omega))) hb]
    exact congrArg some (qstd_keep (hk _ (by omega)) (hk _ (by omega)) (hk _ (by omega)) (fun f hf => hk _ (by omega)))
  refine ⟨upd (upd (upd (upd (upd u (710 + (211 + 4 * b)) (u (710 + (211 + 4 * b)) - l)) 710 (u 710 + l * p)) 718 (u 718 + l * p)) 721 (u 721 + l * (vw u 710 (208 + 4 * b) - p))) 722 (u 722 + l * (vw u 710 (208 + 4 * b) - qstd nf (vw u 710) b)), ?_, ?_, ?_, ?_, ?_, ?_, ?_⟩
  · unfold fX9_doSell
    rw [e0, q_nm, q_ck (by omega) (by decide), nI_clamp (by omega), q_nm, q_ck (by omega) (by decide), q_nm]
    rw [show (710 + (0 : Int32).toNatClampNeg) = 710 from rfl, show (710 + (8 : Int32).toNatClampNeg) = 718 from rfl, show (710 + (11 : Int32).toNatClampNeg) = 721 from rfl, show (710 + (12 : Int32).toNatClampNeg) = 722 from rfl]
    rw [q_nm, q_nm, q_nm, q_nm, eb _ (fun x hx => by simp (disch := omega) only [pk_un]), q_bnr, q_nm, q_nm, eb _ (fun x hx => by simp (disch := omega) only [pk_un]), q_bnr, es _ (fun x hx => by simp (disch := omega) only [pk_un]), q_bnr, q_nm, q_nm]
    simp (disch := omega) only [pk_un, pk_us]
  all_goals intros
  all_goals simp (disch := omega) only [pk_un, pk_us]
end
