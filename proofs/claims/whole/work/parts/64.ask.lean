/-! ===== layer 2: the loss if baked; the quotients ===== -/
theorem r_startTrial (u : bM) : ∃ e, fX9_startTrial u = some e ∧ (∀ i, i < 496 → e (1702 + i) = u (710 + i)) ∧ ∀ x, ¬ (1702 ≤ x ∧ x < 2198) → e x = u x := by
  have key := q_for (F := fX9_startTrial_L2) (z := fun _ _ => none) (n := 496) (Sp := fun i K => ∀ d : bM, (∀ j, j < i → d (1702 + j) = u (710 + j)) → (∀ x, ¬ (1702 ≤ x ∧ x < 2198) → d x = u x) → ∃ e, K (nI i) d = some e ∧ (∀ i, i < 496 → e (1702 + i) = u (710 + i)) ∧ ∀ x, ¬ (1702 ≤ x ∧ x < 2198) → e x = u x) (fun K d h1 h2 => by
    refine ⟨d, ?_, h1, h2⟩
    unfold fX9_startTrial_L2
    rw [q_l496, if_pos (Int32.le_refl _)]) (fun i K hi hK d h1 h2 => by
    obtain ⟨e, g1, g2⟩ := hK (upd d (1702 + i) (d (710 + i))) (fun j hj => by
      by_cases e : j = i
      · rw [e, pk_us]
        exact h2 _ (by omega)
      · rw [q_un (by omega)]
        exact h1 j (by omega)) (fun x hx => by rw [q_un (by omega)]; exact h2 x hx)
    refine ⟨e, ?_, g2⟩
    unfold fX9_startTrial_L2
    rw [q_l496, if_neg (nI_ge hi (by decide)), q_ck hi (by decide), nI_clamp (by omega), q_nm, q_ck hi (by decide), q_nm, q_nm, q_add1]
    exact g1) lpN 0 (Nat.zero_le _) (q_lpN _ (by decide)) u (fun j hj => absurd hj (Nat.not_lt_zero _)) (fun _ _ => rfl)
  unfold fX9_startTrial
  exact key
theorem r_putBack (p : Int32) (u : bM) : ∃ e, fX9_putBack p u = some (p, e) ∧ (∀ i, i < 496 → e (710 + i) = u (1702 + i)) ∧ ∀ x, ¬ (710 ≤ x ∧ x < 1206) → e x = u x := by
  have key := q_for (F := fX9_putBack_L2 p) (z := fun _ _ => none) (n := 496) (Sp := fun i K => ∀ d : bM, (∀ j, j < i → d (710 + j) = u (1702 + j)) → (∀ x, ¬ (710 ≤ x ∧ x < 1206) → d x = u x) → ∃ e, K (nI i) d = some (p, e) ∧ (∀ i, i < 496 → e (710 + i) = u (1702 + i)) ∧ ∀ x, ¬ (710 ≤ x ∧ x < 1206) → e x = u x) (fun K d h1 h2 => by
    refine ⟨d, ?_, h1, h2⟩
    unfold fX9_putBack_L2
    rw [q_l496, if_pos (Int32.le_refl _)]) (fun i K hi hK d h1 h2 => by
    obtain ⟨e, g1, g2⟩ := hK (upd d (710 + i) (d (1702 + i))) (fun j hj => by
      by_cases e : j = i
      · rw [e, pk_us]
        exact h2 _ (by omega)
      · rw [q_un (by omega)]
        exact h1 j (by omega)) (fun x hx => by rw [q_un (by omega)]; exact h2 x hx)
    refine ⟨e, ?_, g2⟩
    unfold fX9_putBack_L2
    rw [q_l496, if_neg (nI_ge hi (by decide)), q_ck hi (by decide), nI_clamp (by omega), q_nm, q_ck hi (by decide), q_nm, q_nm, q_add1]
    exact g1) lpN 0 (Nat.zero_le _) (q_lpN _ (by decide)) u (fun j hj => absurd hj (Nat.not_lt_zero _)) (fun _ _ => rfl)
  unfold fX9_putBack
  exact key
def q_same (u z : bM) : Prop := ∀ x, x ≠ 3 → ¬ (1702 ≤ x ∧ x < 2198) → z x = u x
theorem q_same3 (u : bM) (x : Int32) : q_same u (upd u 3 x) := fun _ hy _ => q_un hy
section
variable {T nf nb nt no cur : Nat} {Ls : Nat → List (Nat × Nat)} {u v : bM}
theorem k_41 (P : Nat → Int32) (hcur : cur < 12) (cv : v 0 = nI cur) (h : q_S T nf nb nt no Ls (vw u 710) (vw v (stO cur))) (hT : T + 999 ≤ 100000000) : ∃ z, bS_41 P v u v z ∧ q_same u z := by
  have h2 := h.hnb
  have n0 : ∀ p p2 : Int32, (p < 0 ∨ nI nb ≤ p) → xX8_lossIfBaked p p2 v = some 0 ∧ fX9_lossIfBaked p p2 u = some (0, upd u 3 1) := by
    intro p p2 hp
    obtain ⟨g1, g2, g3⟩ := n_bread hcur cv h hp
    unfold xX8_lossIfBaked fX9_lossIfBaked
    rw [g2, m_plan hcur cv h hp]
    exact ⟨rfl, rfl⟩
  unfold bS_41
  rcases pk_ix (P 1) (n := nb) (by omega) with e | e | ⟨j, hj, e⟩
  · exact ⟨upd u 3 1, Or.inr (Or.inl ⟨0, (n0 _ _ (Or.inl e)).1, rfl, (n0 _ _ (Or.inl e)).2, pk_us⟩), q_same3 _ _⟩
  · exact ⟨upd u 3 1, Or.inr (Or.inl ⟨0, (n0 _ _ (Or.inr e)).1, rfl, (n0 _ _ (Or.inr e)).2, pk_us⟩), q_same3 _ _⟩
  · rw [e]
    obtain ⟨b1, b2, b3⟩ := y_bread hcur cv h hj
    by_cases hp : q_in (P 2) 1 20
    · obtain ⟨p1, p2⟩ := q_plan hp q_in00 q_in00
      obtain ⟨l, e2, hl1, hl⟩ := q_in_n (lo := 1) (hi := 20) hp (by decide) (by decide)
      have eo : fX9_obstacle (nI j) (nI l) 0 0 (upd u 3 0) = some (qob nf nt Ls (vw u 710) j (nI l) 0 0) := by
        rw [r_obstacle (h.z 0) hj, q_u3 u 0 710 (by decide)]
      have co : fX6_obstacle (nI j) (nI l) 0 0 (vw v (stO cur)) = some (qob nf nt Ls (vw u 710) j (nI l) 0 0) := c_obstacle h hj hl
      by_cases h0 : qob nf nt Ls (vw u 710) j (nI l) 0 0 = 0
      · have cl := c_plainLoss h hj hl h0
        obtain ⟨w, w0, w1, w2⟩ := r_startTrial (upd u 3 0)
        have hw : ∀ x, vw w 710 x = vw u 710 x ∨ ¬ x < 496 := fun x => by
          by_cases hx : x < 496
          · exact Or.inl ((w2 _ (by omega)).trans (q_un (by omega)))
          · exact Or.inr hx
        have hS : q_S T nf nb nt no Ls (vw w 710) (vw v (stO cur)) := h.same (fun x hx => (w2 _ (by omega)).trans (q_un (by omega))) (fun _ _ => rfl)
        have hrow : ∀ x, x < 496 → vw w 710 x = vw u 710 x := fun x hx => (w2 _ (by omega)).trans (q_un (by omega))
        have ew : vw w 710 = fun x => w (710 + x) := rfl
        have hq0 : qob nf nt Ls (vw w 710) j (nI l) 0 0 = 0 := by
          have g1 := r_obstacle hS hj (x := nI l) (y := 0) (z := 0)
          have g2 := c_obstacle hS hj (l := l) (y := 0) (z := 0) hl
          rw [co, h0] at g2
          exact (Option.some.inj g2).symm
        have cl2 := c_plainLoss hS hj hl hq0
        obtain ⟨d, z, _, d2, hnt, d3, d4, d5⟩ := t_bake hS (bn := 0) (y := 0) (za := 0) hj hl (Nat.zero_le _) (q_bd_n (n := 0) (by decide) (by decide)) (q_bd_n (n := 0) (by decide) (by decide)) hq0 hT
        have er := r_loss d3 (show nt < nt + 1 by omega)
        rw [d5] at er
        obtain ⟨y, y0, y1, y2⟩ := r_putBack (qS (fun f => nI (qW (qn (quse (vw w 710) j f (nI l) 0)) (Ls f))) nf + qpm (vw w 710) (qn (qst no (vw w 710) (vw w 710 4))) (qn (vw w 710 (209 + 4 * j) * nI l + 0)) - (nI l - nI 0) * qstd nf (vw w 710) j) z
        have hy : ∀ x, x ≠ 3 → ¬ (1702 ≤ x ∧ x < 2198) → y x = u x := fun x hx hx2 => by
          by_cases hr : 710 ≤ x ∧ x < 1206
          · rw [show x = 710 + (x - 710) by omega, y1 _ (by omega), d4 _ (by omega), w1 _ (by omega), q_un (by omega)]
          · rw [y2 x hr, d4 x hr, w2 x hx2, q_un hx]
        refine ⟨y, Or.inl ⟨qS (fun f => nI (qW (qn (quse (vw w 710) j f (nI l) 0)) (Ls f))) nf + qpm (vw w 710) (qn (qst no (vw w 710) (vw w 710 4))) (qn (vw w 710 (209 + 4 * j) * nI l + 0)) - (nI l - nI 0) * qstd nf (vw w 710) j, ⟨?_, rfl⟩, ?_, ?_⟩, hy⟩
        · unfold fX8_lossIfBaked fX8_lossIfBaked_J30
          rw [b1, q_bnr, p1, q_bnr, cv, q_ck hcur (by decide), nI_clamp (show cur < 2 ^ 31 by omega), q_nm, e2, co, q_bnr, if_pos h0, show fX8_requireState 1 = some () from rfl, q_bnr, q_ck hcur (by decide), q_nm, cl2, q_bnr]
        · unfold fX9_lossIfBaked fX9_lossIfBaked_J26
          rw [y_plan hcur cv h hj hp, q_bnd, if_neg (by decide), e2, eo, q_bnr, if_pos h0, r_fails1, q_bnd, if_pos rfl, w0, q_bnw, show fX9_doBake (nI j) (nI l) 0 0 0 w = some (nI nt, z) from d2, q_bnd, er, q_bnr, y0, q_bnd]
        · rw [y2 3 (by decide), d4 3 (by decide), w2 3 (by decide), pk_us]
      · refine ⟨upd u 3 3, Or.inr (Or.inr (Or.inr ⟨0, ?_, rfl, ?_, pk_us⟩)), q_same3 _ _⟩
        · unfold xX8_lossIfBaked xX8_lossIfBaked_J30
          rw [b2, q_xn, b1, q_bnr, p2, q_xn, p1, q_bnr, cv, q_ck hcur (by decide), nI_clamp (show cur < 2 ^ 31 by omega), q_nm, e2, co, q_bnr, if_neg h0]
          rfl
        · unfold fX9_lossIfBaked fX9_lossIfBaked_J26
          rw [y_plan hcur cv h hj hp, q_bnd, if_neg (by decide), e2, eo, q_bnr, if_neg h0, r_fails0, q_bnd, if_neg (by decide), q_33]
    · obtain ⟨p1, p2⟩ := q_plann (x := P 2) (y := 0) (z := 0) (fun q => hp q.1)
      refine ⟨upd u 3 2, Or.inr (Or.inr (Or.inl ⟨0, ?_, rfl, ?_, pk_us⟩)), q_same3 _ _⟩
      · unfold xX8_lossIfBaked
        rw [b2, q_xn, b1, q_bnr, p2, q_xs]
      · unfold fX9_lossIfBaked
        rw [n_plan hcur cv h hj hp, q_bnd, if_pos rfl]
theorem d_self {a : UInt64} (h : FP.Core.dIsNaN a = false) : Op.cmpValue (FP.dcmp a a) .l = 0 := by
  have e : FP.dcmp a a = some .eq := FP.Core.dcmp_self ((FP.Core.notNaN_iff a).mp h)
  rw [e]
  rfl
theorem d_n64 {a : UInt64} (h : FP.Core.dIsNaN a = false) : vf_n64 a := by
  have h2 : ¬ 9218868437227405312 < a.toNat % 2 ^ 63 := fun z => by rw [(FP.Core.isNaN_bits a).mpr z] at h; cases h
  unfold vf_n64
  rw [UInt64.le_iff_toNat_le, UInt64.toNat_and]
  show a.toNat &&& 9223372036854775807 ≤ 9218868437227405312
  rw [show (9223372036854775807 : Nat) = 2 ^ 63 - 1 by decide, Nat.and_two_pow_sub_one_eq_mod]
  omega
theorem k_50 (P : Nat → Int32) (hcur : cur < 12) (cv : v 0 = nI cur) (h : q_S T nf nb nt no Ls (vw u 710) (vw v (stO cur))) : ∃ x, bS_50 P v u v (upd u 3 x) := by
  have h3 := h.hnt
  have h9 := h.z 0
  have en : upd u 3 0 (710 + (7 : Int32).toNatClampNeg) = nI nt := (q_un (by decide)).trans h.rnt
  have e1 : v (stO cur + 277) = nI nt := h.cnt
  have el : ∀ i, i < nt → fX9_loss (nI i) (upd u 3 0) = some (qls nf (vw u 710) i) := fun i hi => by
    have e := r_loss h9 hi
    rw [q_u3 u 0 710 (by decide)] at e
    exact e
  have key := q_for (F := fX9_meanLoss_L9) (z := fun _ _ _ => none) (n := nt) (Sp := fun i K => ∀ y, K y (nI i) (upd u 3 0) = if nt = 0 then some (FP.dconst0, upd u 3 0) else some (FP.ddiv (FP.i2d (y + (qS (qls nf (vw u 710)) nt - qS (qls nf (vw u 710)) i))) (FP.i2d (nI nt)), upd u 3 0)) (fun K y => by
    unfold fX9_meanLoss_L9
    rw [en, if_pos (Int32.le_refl _), Int32.sub_self, Int32.add_zero]
    by_cases e : nt = 0
    · rw [if_pos e, if_pos (by rw [e]; rfl)]
    · rw [if_neg e, if_neg (nI_ne0 (by omega) (by omega)), q_nm]
      unfold cz
      rw [if_neg (nI_ne0 (by omega) (by omega))]) (fun i K hi hK y => by
    unfold fX9_meanLoss_L9
    rw [en, if_neg (nI_ge hi (by omega)), el i hi, q_bnr, q_nm, q_nm, q_add1, hK]
    by_cases e : nt = 0
    · omega
    · rw [if_neg e, if_neg e]
      have eq : (y + qls nf (vw u 710) i) + (qS (qls nf (vw u 710)) nt - qS (qls nf (vw u 710)) (i + 1)) = y + (qS (qls nf (vw u 710)) nt - qS (qls nf (vw u 710)) i) := by
        show (y + qls nf (vw u 710) i) + (qS (qls nf (vw u 710)) nt - (qS (qls nf (vw u 710)) i + qls nf (vw u 710) i)) = _
        grind
      rw [eq]) lpN 0 (Nat.zero_le _) (q_lpN _ (by omega)) 0
  have er : fX9_meanLoss u = if nt = 0 then some (FP.dconst0, upd u 3 0) else some (FP.ddiv (FP.i2d (qS (qls nf (vw u 710)) nt)) (FP.i2d (nI nt)), upd u 3 0) := by
    unfold fX9_meanLoss
    rw [q_nm]
    refine key.trans ?_
    show (if nt = 0 then _ else some (FP.ddiv (FP.i2d (0 + (qS (qls nf (vw u 710)) nt - 0))) _, _)) = _
    rw [Int32.sub_zero, Int32.zero_add]
  have ec : fX8_meanLoss v = if nt = 0 then some FP.dconst0 else some (FP.ddiv (FP.i2d (qS (qls nf (vw u 710)) nt)) (FP.i2d (nI nt))) := by
    unfold fX8_meanLoss
    rw [cv, q_ck hcur (by decide), nI_clamp (show cur < 2 ^ 31 by omega), q_nm, e1, q_nm]
    by_cases e : nt = 0
    · rw [if_pos e, if_pos (by rw [e]; rfl)]
    · rw [if_neg e, if_neg (nI_ne0 (by omega) (by omega)), q_ck hcur (by decide), q_nm, q_vv, c_sumLoss h, q_bnr]
      unfold cz
      rw [if_neg (nI_ne0 (by omega) (by omega))]
  unfold bS_50
  by_cases e : nt = 0
  · rw [if_pos e] at er ec
    exact ⟨0, FP.dconst0, ec, rfl, er, d_self (by decide +kernel)⟩
  · rw [if_neg e] at er ec
    have hn : ¬ nI nt = 0 := nI_ne0 (by omega) (by omega)
    exact ⟨0, _, ec, rfl, er, d_self (FP.Core.ddiv_out (FP.Core.DFin.notNaN (FP.Core.i2d_fin _)) (FP.Core.i2d_fin _) (fun hz => FP.Core.i2d_ne_zero hn ((FP.Core.zero_bits2 _).mp hz)))⟩
theorem k_51 (P : Nat → Int32) (hcur : cur < 12) (cv : v 0 = nI cur) (h : q_S T nf nb nt no Ls (vw u 710) (vw v (stO cur))) : ∃ x, bS_51 P v u v (upd u 3 x) := by
  have h3 := h.hnt
  have en : upd u 3 0 (710 + (7 : Int32).toNatClampNeg) = nI nt := (q_un (by decide)).trans h.rnt
  generalize hA : qS (fun t => vw u 710 (234 + 11 * t)) nt = A
  generalize hB : qS (fun t => vw u 710 (233 + 11 * t)) nt = B
  have key := q_for (F := fX9_burntShare_L11) (z := fun _ _ _ _ => none) (n := nt) (Sp := fun i K => ∀ y y3, y + (A - qS (fun t => vw u 710 (234 + 11 * t)) i) = A → y3 + (B - qS (fun t => vw u 710 (233 + 11 * t)) i) = B → K y y3 (nI i) (upd u 3 0) = if B = 0 then some (FP.fconst0, upd u 3 0) else some (FP.fdiv (FP.i2f A) (FP.i2f B), upd u 3 0)) (fun K y y3 h1 h2 => by
    rw [hA, Int32.sub_self, Int32.add_zero] at h1
    rw [hB, Int32.sub_self, Int32.add_zero] at h2
    unfold fX9_burntShare_L11
    rw [en, if_pos (Int32.le_refl _), h1, h2]
    by_cases e : B = 0
    · rw [if_pos e, if_pos e]
    · rw [if_neg e, if_neg e]
      unfold cz
      rw [if_neg e]) (fun i K hi hK y y3 h1 h2 => by
    unfold fX9_burntShare_L11
    rw [en, if_neg (nI_ge hi (by omega)), r_batch2 (by omega), q_bnr, q_nm, r_batch1 (by omega), q_bnr, q_nm, q_nm, q_add1, q_u3 u 0 710 (by decide)]
    refine hK _ _ ?_ ?_
    · show (y + vw u 710 (234 + 11 * i)) + (A - (qS (fun t => vw u 710 (234 + 11 * t)) i + vw u 710 (234 + 11 * i))) = A
      grind
    · show (y3 + vw u 710 (233 + 11 * i)) + (B - (qS (fun t => vw u 710 (233 + 11 * t)) i + vw u 710 (233 + 11 * i))) = B
      grind) lpN 0 (Nat.zero_le _) (q_lpN _ (by omega)) 0 0 (by show 0 + (A - 0) = A; rw [Int32.sub_zero, Int32.zero_add]) (by show 0 + (B - 0) = B; rw [Int32.sub_zero, Int32.zero_add])
  have er : fX9_burntShare u = if B = 0 then some (FP.fconst0, upd u 3 0) else some (FP.fdiv (FP.i2f A) (FP.i2f B), upd u 3 0) := by
    unfold fX9_burntShare
    rw [q_nm]
    exact key
  have ec : fX8_burntShare v = if B = 0 then some FP.fconst0 else some (FP.fdiv (FP.i2f A) (FP.i2f B)) := by
    unfold fX8_burntShare
    rw [cv, q_ck hcur (by decide), nI_clamp (show cur < 2 ^ 31 by omega), q_nm, q_vv, c_sumPlanned h, q_bnr, hB]
    by_cases e : B = 0
    · rw [if_pos e, if_pos e]
    · rw [if_neg e, if_neg e, q_ck hcur (by decide), q_nm, q_vv, c_sumBurnt h, q_bnr, hA]
      unfold cz
      rw [if_neg e]
  unfold bS_51
  by_cases e : B = 0
  · rw [if_pos e] at er ec
    have hn : FP.Core.dIsNaN (FP.f2d FP.fconst0) = false := by decide +kernel
    exact ⟨0, FP.fconst0, ec, rfl, er, d_n64 hn, d_self hn⟩
  · rw [if_neg e] at er ec
    have hf : FP.Core.fIsNaN (FP.Core.fdiv (FP.Core.i2f A) (FP.Core.i2f B)) = false := FP.Core.fdiv_out (FP.Core.FFin.notNaN (FP.Core.i2f_fin _)) (FP.Core.i2f_fin _) (fun hz => FP.Core.i2f_ne_zero e ((FP.Core.zero_bits232 _).mp hz))
    have hn : FP.Core.dIsNaN (FP.f2d (FP.fdiv (FP.i2f A) (FP.i2f B))) = false := by
      rw [FP.f2d_core (show FP.fIsNaN (FP.fdiv (FP.i2f A) (FP.i2f B)) = false from hf)]
      exact FP.Core.f2d_out hf
    exact ⟨0, _, ec, rfl, er, d_n64 hn, d_self hn⟩
end
