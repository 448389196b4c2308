/-! ===== layer 2: obstacles ===== -/
/-- what stands in a batch's way -/
def qob (nf nt : Nat) (Ls : Nat → List (Nat × Nat)) (r : bM) (b : Nat) (x y z : Int32) : Int32 := if nt = 24 then 1 else if quse r b (qmf r b) x y < 0 ∨ r (209 + 4 * b) * x + z < 1 then 2 else if ∀ f, f < nf → quse r b f x y ≤ qU (Ls f) then 0 else 3
theorem q_nle {x y : Int32} (h : x < y) : ¬ y ≤ x := fun q => by
  rw [Int32.lt_iff_toInt_lt] at h
  rw [Int32.le_iff_toInt_le] at q
  omega
theorem q_nlt {x y : Int32} (h : y ≤ x) : ¬ x < y := fun q => q_nle q h
theorem q_ltn {x y : Int32} (h : ¬ y ≤ x) : x < y := by
  rw [Int32.lt_iff_toInt_lt]
  rw [Int32.le_iff_toInt_le] at h
  omega
theorem q_len {x y : Int32} (h : ¬ x < y) : y ≤ x := by
  rw [Int32.lt_iff_toInt_lt] at h
  rw [Int32.le_iff_toInt_le]
  omega
section
variable {T nf nb nt no : Nat} {Ls : Nat → List (Nat × Nat)} {r c u : bM}
theorem quse_pos {b f l : Nat} {y : Int32} (hl : l ≤ 20) (hf : f ≠ qmf r b) : 0 ≤ quse r b f (nI l) y := by
  unfold quse
  rw [if_neg hf, pk_mul]
  have h1 : qam r b f ≤ 9 := by have := qdg_lt (qn (r (210 + 4 * b))) f; unfold qam; omega
  have h2 : qam r b f * l ≤ 9 * 20 := Nat.mul_le_mul h1 hl
  exact nI_pos' (by omega)
theorem c_obstacle (h : q_S T nf nb nt no Ls r c) {b l : Nat} {y z : Int32} (hb : b < nb) (hl : l ≤ 20) : fX6_obstacle (nI b) (nI l) y z c = some (qob nf nt Ls r b (nI l) y z) := by
  have h1 := h.hnf
  have h2 := h.hnb
  have h3 := h.hnt
  have hm := (h.R.mf hb).1
  have en : c 6 = nI nf := h.cnf
  have eu : ∀ f, f < 6 → fX1_unitsFor (nI b) (nI f) (nI l) y (vw c 175) = some (quse r b f (nI l) y) := fun f hf => c_unitsFor h.R hb hf (h.cam b f hb hf) (h.cmf b hb)
  have es : ∀ f, f < nf → fX2_stock (nI f) (vw c 6) = some (qU (Ls f)) := fun f hf => c_stock (by omega) (h.lo f hf).1 (h.clt f hf)
  unfold fX6_obstacle qob
  rw [h.cnt]
  by_cases e1 : nt = 24
  · rw [if_pos e1, if_neg (by rw [e1]; decide)]
  · rw [if_neg e1, if_pos (by rw [q_l24]; exact nI_lt (by omega) (by decide)), q_ck (by omega) (by decide), nI_clamp (by omega), h.cbm b hb]
    by_cases e2 : r (209 + 4 * b) * nI l + z < 1
    · rw [if_neg (q_nle e2), if_pos (Or.inr e2)]
    · rw [if_pos (q_len e2)]
      by_cases e3 : quse r b (qmf r b) (nI l) y < 0
      · rw [if_pos (Or.inl e3)]
        exact q_for (F := fX6_obstacle_L40 (nI b) (nI l) y c) (z := fun _ _ => none) (n := qmf r b) (Sp := fun i K => ∀ w : Int32, K w (nI i) = some 2) (fun K w => by
          unfold fX6_obstacle_L40
          rw [en, if_neg (nI_ge hm (by omega)), eu _ (by omega), q_bnr, if_neg (q_nle e3)]) (fun i K hi hK w => by
          unfold fX6_obstacle_L40 fX6_obstacle_J92 fX6_obstacle_J97
          rw [en, if_neg (nI_ge (by omega) (by omega)), eu _ (by omega), q_bnr, if_pos (quse_pos hl (by omega)), es i (by omega), q_bnr, q_nm, q_nm, q_add1, hK, hK]
          split
          · split <;> rfl
          · rfl) lpN 0 (Nat.zero_le _) (q_lpN _ (by omega)) 0
      · rw [if_neg (fun q => q.elim e3 e2)]
        have hp : ∀ f, 0 ≤ quse r b f (nI l) y := fun f => by
          by_cases e : f = qmf r b
          · rw [e]; exact q_len e3
          · exact quse_pos hl e
        have key := q_for (F := fX6_obstacle_L40 (nI b) (nI l) y c) (z := fun _ _ => none) (n := nf) (Sp := fun i K => ∀ w : Int32, (w = 0 → (∀ f, i ≤ f → f < nf → quse r b f (nI l) y ≤ qU (Ls f)) → K w (nI i) = some 0) ∧ ((w = 1 ∨ (w = 0 ∧ ∃ f, i ≤ f ∧ f < nf ∧ ¬ quse r b f (nI l) y ≤ qU (Ls f))) → K w (nI i) = some 3)) (fun K w => by
          unfold fX6_obstacle_L40
          rw [en, if_pos (Int32.le_refl _)]
          refine ⟨fun e _ => by rw [if_pos e], fun q => ?_⟩
          rcases q with q | ⟨_, f, g1, g2, _⟩
          · rw [q, if_neg (by decide)]
          · omega) (fun i K hi hK w => by
          unfold fX6_obstacle_L40 fX6_obstacle_J92 fX6_obstacle_J97
          rw [en, if_neg (nI_ge hi (by omega)), eu _ (by omega), q_bnr, if_pos (hp i), es i hi, q_bnr, q_nm, q_nm, q_add1]
          refine ⟨fun e g => ?_, fun q => ?_⟩
          · rw [if_pos e, if_pos (g i (Nat.le_refl _) hi)]
            exact (hK 0).1 rfl (fun f g1 g2 => g f (by omega) g2)
          · rcases q with q | ⟨q, f, g1, g2, g3⟩
            · rw [q, if_neg (by decide)]
              exact (hK 1).2 (Or.inl rfl)
            · rw [if_pos q]
              by_cases g : quse r b i (nI l) y ≤ qU (Ls i)
              · rw [if_pos g]
                refine (hK 0).2 (Or.inr ⟨rfl, f, ?_, g2, g3⟩)
                rcases Nat.eq_or_lt_of_le g1 with e | e
                · rw [e] at g; exact absurd g g3
                · exact e
              · rw [if_neg g]
                exact (hK 1).2 (Or.inl rfl)) lpN 0 (Nat.zero_le _) (q_lpN _ (by omega)) 0
        by_cases e4 : ∀ f, f < nf → quse r b f (nI l) y ≤ qU (Ls f)
        · rw [if_pos e4]
          exact key.1 rfl (fun f _ hf => e4 f hf)
        · rw [if_neg e4]
          refine key.2 (Or.inr ⟨rfl, ?_⟩)
          refine Classical.byContradiction (fun q => e4 (fun f hf => Classical.byContradiction (fun g => q ⟨f, Nat.zero_le _, hf, g⟩)))
theorem r_obstacle (h : q_S T nf nb nt no Ls (vw u 710) c) {b : Nat} {x y z : Int32} (hb : b < nb) : fX9_obstacle (nI b) x y z u = some (qob nf nt Ls (vw u 710) b x y z) := by
  have h1 := h.hnf
  have h2 := h.hnb
  have h3 := h.hnt
  have hm := (h.R.mf hb).1
  have en : u (710 + (5 : Int32).toNatClampNeg) = nI nf := h.rnf
  have et : u (710 + (7 : Int32).toNatClampNeg) = nI nt := h.rnt
  unfold fX9_obstacle qob
  rw [et]
  by_cases e1 : nt = 24
  · rw [if_pos e1, if_pos (by rw [e1]; rfl)]
  · rw [if_neg e1, if_neg (show ¬ nI nt = 24 from fun q => e1 ((nI_eq (b := 24) (by omega) (by decide)).mp q)), r_main h.R hb, q_bnr, r_used h.R hb (by omega), q_bnr]
    by_cases e3 : quse (vw u 710) b (qmf (vw u 710) b) x y < 0
    · rw [if_pos e3, if_pos (Or.inl e3)]
    · rw [if_neg e3, r_bread1 (by omega), q_bnr]
      by_cases e2 : vw u 710 (209 + 4 * b) * x + z < 1
      · rw [if_neg (q_nle e2), if_pos (Or.inr e2)]
      · rw [if_pos (q_len e2), if_neg (fun q => q.elim e3 e2)]
        have key := q_for (F := fX9_obstacle_L49 (nI b) x y u) (z := fun _ => none) (n := nf) (Sp := fun i K => ((∀ f, i ≤ f → f < nf → quse (vw u 710) b f x y ≤ qU (Ls f)) → K (nI i) = some 0) ∧ ((∃ f, i ≤ f ∧ f < nf ∧ ¬ quse (vw u 710) b f x y ≤ qU (Ls f)) → K (nI i) = some 3)) (fun K => by
          unfold fX9_obstacle_L49
          rw [en, if_pos (Int32.le_refl _)]
          refine ⟨fun _ => rfl, fun q => ?_⟩
          obtain ⟨f, g1, g2, _⟩ := q
          omega) (fun i K hi hK => by
          unfold fX9_obstacle_L49
          rw [en, if_neg (nI_ge hi (by omega)), r_used h.R hb (by omega), q_bnr, r_units (by omega) (h.lo i hi).1 (h.rlt i hi), q_bnr, q_nm, q_add1]
          refine ⟨fun g => ?_, fun q => ?_⟩
          · rw [if_pos (g i (Nat.le_refl _) hi)]
            exact hK.1 (fun f g1 g2 => g f (by omega) g2)
          · obtain ⟨f, g1, g2, g3⟩ := q
            by_cases g : quse (vw u 710) b i x y ≤ qU (Ls i)
            · rw [if_pos g]
              refine hK.2 ⟨f, ?_, g2, g3⟩
              rcases Nat.eq_or_lt_of_le g1 with e | e
              · rw [e] at g; exact absurd g g3
              · exact e
            · rw [if_neg g]) lpN 0 (Nat.zero_le _) (q_lpN _ (by omega))
        by_cases e4 : ∀ f, f < nf → quse (vw u 710) b f x y ≤ qU (Ls f)
        · rw [if_pos e4]
          exact key.1 (fun f _ hf => e4 f hf)
        · rw [if_neg e4]
          refine key.2 ?_
          refine Classical.byContradiction (fun q => e4 (fun f hf => Classical.byContradiction (fun g => q ⟨f, Nat.zero_le _, hf, g⟩)))
end
