/-! ===== layer 2: save, restore, and the small questions ===== -/
section
variable {T cur dr hn nx : Nat} {v u : bM}
theorem K_60 (P : Nat → Int32) (h : q_I T cur dr hn nx v u) (hT : T + 999 ≤ 100000000) : ∃ w z, bS_60 P v u w z ∧ q_J (T + 999) w z := by
  obtain ⟨⟨i1, i2, i3, i4, i5⟩, ⟨cv, cd⟩, ⟨h3, h4, h5⟩, h6, h7, h8, ⟨L, t1, t2, t3, t4⟩, ⟨e1, e2⟩, ⟨m, o1, o2, o3, o4⟩⟩ := id h
  unfold bS_60
  by_cases hp : q_in (P 1) 0 1
  · obtain ⟨g1, g2, g3⟩ := q_rg hp
    obtain ⟨s, es, _, hs⟩ := q_in_n (lo := 0) (hi := 1) hp (by decide) (by decide)
    have b := stO_b (i := cur) (by omega)
    have bs := stO_b (i := 10 + s) (by omega)
    obtain ⟨d, d1, d2⟩ := c_copy6 (vw v (stO (10 + s))) (vw v (stO cur))
    obtain ⟨w, hw⟩ : ∃ w, w = upd (spl v (stO (10 + s)) 590 d) (7084 + s) 1 := ⟨_, rfl⟩
    have hwv : ∀ x, x ≠ 7084 + s → ¬ (stO (10 + s) ≤ x ∧ x < stO (10 + s) + 590) → w x = v x := fun x a1 a2 => by rw [hw, q_un a1, q_spo a2]
    have hwb : ∀ x, x < 590 → vw w (stO (10 + s)) x = vw v (stO cur) x := fun x hx => by
      rw [hw, q_vw, q_un (by omega), q_spi rfl hx, d2 x hx]
    have hblk : ∀ i, i < 12 → i ≠ 10 + s → ∀ x, x < 590 → vw w (stO i) x = vw v (stO i) x := fun i hi hne x hx => by
      have b1 := stO_b hi
      have := stO_ap hi (show 10 + s < 12 by omega) hne
      exact hwv _ (by omega) (by omega)
    have ecash : v (stO cur + 1) = vw u 710 0 := by
      obtain ⟨nf, nb, nt, no, Ls, hS⟩ := h6
      exact hS.cca
    have key := q_for (F := fX9_save_L23 (nI s)) (z := fun _ _ => none) (n := 496) (Sp := fun i K => ∀ f : bM, (∀ j, j < i → f (6166 + 496 * s + j) = u (710 + j)) → (∀ x, ¬ (6166 + 496 * s ≤ x ∧ x < 6662 + 496 * s) → f x = upd u 3 0 x) → ∃ z, K (nI i) f = some (u 710, z) ∧ (∀ j, j < 496 → z (6166 + 496 * s + j) = u (710 + j)) ∧ z (7158 + s) = 1 ∧ ∀ x, x ≠ 7158 + s → ¬ (6166 + 496 * s ≤ x ∧ x < 6662 + 496 * s) → z x = upd u 3 0 x) (fun K f f1 f2 => by
      refine ⟨upd f (7158 + s) 1, ?_, fun j hj => ?_, pk_us, fun x a1 a2 => ?_⟩
      · unfold fX9_save_L23
        rw [q_l496, if_pos (Int32.le_refl _), q_ck (by omega) (by decide), nI_clamp (by omega), q_nm, show (710 + (0 : Int32).toNatClampNeg) = 710 from rfl, q_un (by omega), f2 _ (by omega), q_un (by omega)]
      · rw [q_un (by omega)]
        exact f1 j hj
      · rw [q_un a1]
        exact f2 x a2) (fun i K hi hK f f1 f2 => by
      have en : f (710 + i) = u (710 + i) := by rw [f2 _ (by omega), q_un (by omega)]
      obtain ⟨z, a1, a2⟩ := hK (upd f (6166 + 496 * s + i) (u (710 + i))) (fun j hj => by
        by_cases e : j = i
        · rw [e, pk_us]
        · rw [q_un (by omega)]
          exact f1 j (by omega)) (fun x hx => by rw [q_un (by omega)]; exact f2 x hx)
      refine ⟨z, ?_, a2⟩
      have em : (496 : Int32) * nI s + nI i = nI (496 * s + i) := by rw [q_l496, pk_mul, nI_add]
      unfold fX9_save_L23
      rw [em, q_l496, if_neg (nI_ge hi (by decide)), q_ck hi (by decide), nI_clamp (show i < 2 ^ 31 by omega), en, q_nm, q_ck (by omega) (by decide), nI_clamp (by omega), q_nm, q_nm, q_add1, ← Nat.add_assoc]
      exact a1) lpN 0 (Nat.zero_le _) (q_lpN _ (by decide)) (upd u 3 0) (fun j hj => absurd hj (Nat.not_lt_zero _)) (fun _ _ => rfl)
    obtain ⟨z, z0, z1, z2, z3⟩ := key
    have hz : ∀ x, x ≠ 3 → x ≠ 7158 + s → ¬ (6166 + 496 * s ≤ x ∧ x < 6662 + 496 * s) → z x = u x := fun x a0 a1 a2 => by rw [z3 x a1 a2, q_un a0]
    refine ⟨w, z, Or.inl ⟨u 710, ?_, ?_, ?_⟩, cur, dr, hn, nx, q_I.mono (T := T) ⟨⟨i1, i2, i3, i4, i5⟩, ⟨by rw [hwv 0 (by omega) (by omega)]; exact cv, by rw [hwv 1 (by omega) (by omega)]; exact cd⟩, ⟨by rw [hwv _ (by omega) (by omega)]; exact h3, by rw [hwv _ (by omega) (by omega)]; exact h4, by rw [hz 4 (by omega) (by omega) (by omega)]; exact h5⟩, ?_, ?_, ?_, ⟨L, t1, by rw [hwv _ (by omega) (by omega)]; exact t2, by rw [hz 0 (by omega) (by omega) (by omega)]; exact t3, fun i hi => by rw [hz (10 + i) (by omega) (by omega) (by omega), hwv _ (by omega) (by omega)]; exact t4 i hi⟩, ⟨by rw [hz 1 (by omega) (by omega) (by omega), hwv _ (by omega) (by omega)]; exact e1, by rw [hz 2 (by omega) (by omega) (by omega), hwv _ (by omega) (by omega)]; exact e2⟩, ⟨m, o1, by rw [hwv _ (by omega) (by omega)]; exact o2, by rw [hz 9 (by omega) (by omega) (by omega)]; exact o3, fun i hi => by rw [hz (7165 + i) (by omega) (by omega) (by omega), hwv _ (by omega) (by omega)]; exact o4 i hi⟩⟩ (by omega) hT⟩
    · have ew0 : upd (spl v (stO (10 + s)) 590 d) (7084 + s) 1 0 = nI cur := by rw [q_un (by omega), q_spo (by omega)]; exact cv
      have ew1 : upd (spl v (stO (10 + s)) 590 d) (7084 + s) 1 (stO cur + 1) = u 710 := by
        have := stO_ap (i := cur) (j := 10 + s) (by omega) (by omega) (by omega)
        rw [q_un (by omega), q_spo (by omega)]
        exact ecash
      unfold fX8_save
      rw [g1, q_bnr, es, q_ck (by omega) (by decide), nI_clamp (show s < 2 ^ 31 by omega), q_nm, cv, q_ck (by omega) (by decide), nI_clamp (show cur < 2 ^ 31 by omega), q_nm, q_cne (by omega), d1, q_bnw, q_nm, q_ck (by omega) (by decide), q_nm, ew0, q_ck (by omega) (by decide), nI_clamp (show cur < 2 ^ 31 by omega), q_nm, ew1, hw]
    · unfold fX9_save
      rw [q_nm, g3, q_bnr, r_fails1, q_bnd, if_pos rfl, es]
      exact z0
    · rw [z3 3 (by omega) (by omega), pk_us]
    · exact h6.same (fun x hx => hz _ (by omega) (by omega) (by omega)) (hblk _ (by omega) (by omega))
    · intro k hk
      exact (h7 k hk).same (fun x hx => hz _ (by omega) (by omega) (by omega)) (hblk _ (by omega) (by omega))
    · intro s9 hs9
      by_cases e : s9 = s
      · rw [e]
        refine Or.inr ⟨by rw [hw, pk_us], z2, h6.same (fun x hx => z1 x hx) hwb⟩
      · rw [hz (7158 + s9) (by omega) (by omega) (by omega), hwv (7084 + s9) (by omega) (by omega)]
        rcases h8 s9 hs9 with g | ⟨a1, a2, a3⟩
        · exact Or.inl g
        · exact Or.inr ⟨a1, a2, a3.same (fun x hx => hz _ (by omega) (by omega) (by omega)) (hblk _ (by omega) (by omega))⟩
  · obtain ⟨g1, g2, g3⟩ := q_rgn hp
    refine ⟨v, upd u 3 1, Or.inr ⟨0, ?_, rfl, ?_, pk_us⟩, (h.u3 1).J (by omega) hT⟩
    · unfold xX8_save
      rw [g2, q_xs]
    · unfold fX9_save
      rw [q_nm, g3, q_bnr, r_fails0, q_bnd, if_neg (by decide), q_33]
theorem K_61 (P : Nat → Int32) (h : q_I T cur dr hn nx v u) (hT : T + 999 ≤ 100000000) : ∃ w z, bS_61 P v u w z ∧ q_J (T + 999) w z := by
  obtain ⟨⟨i1, i2, i3, i4, i5⟩, ⟨cv, cd⟩, ⟨h3, h4, h5⟩, h6, h7, h8, ⟨L, t1, t2, t3, t4⟩, ⟨e1, e2⟩, ⟨m, o1, o2, o3, o4⟩⟩ := id h
  unfold bS_61
  by_cases hp : q_in (P 1) 0 1
  · obtain ⟨g1, g2, g3⟩ := q_rg hp
    obtain ⟨s, es, _, hs⟩ := q_in_n (lo := 0) (hi := 1) hp (by decide) (by decide)
    have b := stO_b (i := cur) (by omega)
    have bs := stO_b (i := 10 + s) (by omega)
    have ap := stO_ap (i := cur) (j := 10 + s) (by omega) (by omega) (by omega)
    have ez : upd u 3 0 (7158 + s) = u (7158 + s) := q_un (by omega)
    rcases h8 s (by omega) with ⟨s1, s2⟩ | ⟨s1, s2, hS⟩
    · refine ⟨v, upd u 3 2, Or.inr (Or.inr ⟨0, ?_, rfl, ?_, pk_us⟩), (h.u3 2).J (by omega) hT⟩
      · unfold xX8_restore
        rw [g2, q_xn, g1, q_bnr, es, q_ck (by omega) (by decide), nI_clamp (show s < 2 ^ 31 by omega), s1, if_pos rfl]
      · unfold fX9_restore
        rw [q_nm, g3, q_bnr, r_fails1, q_bnd, if_pos rfl, es, q_ck (by omega) (by decide), nI_clamp (show s < 2 ^ 31 by omega), ez, s2, r_fails0, q_bnd, if_neg (by decide), q_33]
    · obtain ⟨d, d1, d2⟩ := c_copy6 (vw v (stO cur)) (vw v (stO (10 + s)))
      obtain ⟨w, hw⟩ : ∃ w, w = upd (spl v (stO cur) 590 d) 1182 0 := ⟨_, rfl⟩
      have hwv : ∀ x, x ≠ 1182 → ¬ (stO cur ≤ x ∧ x < stO cur + 590) → w x = v x := fun x a1 a2 => by rw [hw, q_un a1, q_spo a2]
      have hwb : ∀ x, x < 590 → vw w (stO cur) x = vw v (stO (10 + s)) x := fun x hx => by
        rw [hw, q_vw, q_un (by omega), q_spi rfl hx, d2 x hx]
      have hblk : ∀ i, i < 12 → i ≠ cur → ∀ x, x < 590 → vw w (stO i) x = vw v (stO i) x := fun i hi hne x hx => by
        have b1 := stO_b hi
        have := stO_ap hi (show cur < 12 by omega) hne
        exact hwv _ (by omega) (by omega)
      have ecash : v (stO (10 + s) + 1) = u (6166 + 496 * s) := by
        obtain ⟨nf, nb, nt, no, Ls, hS⟩ := hS
        exact hS.cca
      have key := q_for (F := fX9_restore_L37 (nI s)) (z := fun _ _ => none) (n := 496) (Sp := fun i K => ∀ f : bM, (∀ j, j < i → f (710 + j) = u (6166 + 496 * s + j)) → (∀ x, ¬ (710 ≤ x ∧ x < 1206) → f x = upd u 3 0 x) → ∃ z, K (nI i) f = some (u (6166 + 496 * s), z) ∧ (∀ j, j < 496 → z (710 + j) = u (6166 + 496 * s + j)) ∧ z 4 = 0 ∧ ∀ x, x ≠ 4 → ¬ (710 ≤ x ∧ x < 1206) → z x = upd u 3 0 x) (fun K f f1 f2 => by
        refine ⟨upd f 4 0, ?_, fun j hj => ?_, pk_us, fun x a1 a2 => ?_⟩
        · unfold fX9_restore_L37
          rw [q_l496, if_pos (Int32.le_refl _), q_nm, show (710 + (0 : Int32).toNatClampNeg) = 710 from rfl, q_un (by omega), show f 710 = u (6166 + 496 * s) from f1 0 (by decide)]
        · rw [q_un (by omega)]
          exact f1 j hj
        · rw [q_un a1]
          exact f2 x a2) (fun i K hi hK f f1 f2 => by
        have en : f (6166 + (496 * s + i)) = u (6166 + 496 * s + i) := by rw [f2 _ (by omega), q_un (by omega)]; exact congrArg u (by omega)
        obtain ⟨z, a1, a2⟩ := hK (upd f (710 + i) (u (6166 + 496 * s + i))) (fun j hj => by
          by_cases e : j = i
          · rw [e, pk_us]
          · rw [q_un (by omega)]
            exact f1 j (by omega)) (fun x hx => by rw [q_un (by omega)]; exact f2 x hx)
        refine ⟨z, ?_, a2⟩
        have em : (496 : Int32) * nI s + nI i = nI (496 * s + i) := by rw [q_l496, pk_mul, nI_add]
        unfold fX9_restore_L37
        rw [em, q_l496, if_neg (nI_ge hi (by decide)), q_ck (by omega) (by decide), nI_clamp (show 496 * s + i < 2 ^ 31 by omega), en, q_nm, q_ck hi (by decide), nI_clamp (by omega), q_nm, q_nm, q_add1]
        exact a1) lpN 0 (Nat.zero_le _) (q_lpN _ (by decide)) (upd u 3 0) (fun j hj => absurd hj (Nat.not_lt_zero _)) (fun _ _ => rfl)
      obtain ⟨z, z0, z1, z2, z3⟩ := key
      have hz : ∀ x, x ≠ 3 → x ≠ 4 → ¬ (710 ≤ x ∧ x < 1206) → z x = u x := fun x a0 a1 a2 => by rw [z3 x a1 a2, q_un a0]
      refine ⟨w, z, Or.inl ⟨u (6166 + 496 * s), ?_, ?_, ?_⟩, cur, dr, 0, nx, q_I.mono (T := T) ⟨⟨i1, i2, i3, by omega, i5⟩, ⟨by rw [hwv 0 (by omega) (by omega)]; exact cv, by rw [hwv 1 (by omega) (by omega)]; exact cd⟩, ⟨by rw [hw, pk_us]; rfl, by rw [hwv _ (by omega) (by omega)]; exact h4, z2⟩, ?_, ?_, ?_, ⟨L, t1, by rw [hwv _ (by omega) (by omega)]; exact t2, by rw [hz 0 (by omega) (by omega) (by omega)]; exact t3, fun i hi => by rw [hz (10 + i) (by omega) (by omega) (by omega), hwv _ (by omega) (by omega)]; exact t4 i hi⟩, ⟨by rw [hz 1 (by omega) (by omega) (by omega), hwv _ (by omega) (by omega)]; exact e1, by rw [hz 2 (by omega) (by omega) (by omega), hwv _ (by omega) (by omega)]; exact e2⟩, ⟨m, o1, by rw [hwv _ (by omega) (by omega)]; exact o2, by rw [hz 9 (by omega) (by omega) (by omega)]; exact o3, fun i hi => by rw [hz (7165 + i) (by omega) (by omega) (by omega), hwv _ (by omega) (by omega)]; exact o4 i hi⟩⟩ (by omega) hT⟩
      · have ew0 : upd (spl v (stO cur) 590 d) 1182 0 0 = nI cur := by rw [q_un (by omega), q_spo (by omega)]; exact cv
        have ew1 : upd (spl v (stO cur) 590 d) 1182 0 (stO cur + 1) = u (6166 + 496 * s) := by
          rw [q_un (by omega), q_spi rfl (by decide), d2 1 (by decide)]
          exact ecash
        have ef : fX3_forget (spl v (stO cur) 590 d) = some (upd (spl v (stO cur) 590 d) 1182 0) := rfl
        have hne1 : ¬ v (7084 + s) = 0 := by rw [s1]; decide
        unfold fX8_restore
        rw [g1, q_bnr, es, q_ck (by omega) (by decide), nI_clamp (show s < 2 ^ 31 by omega), if_neg hne1, cv, q_ck (by omega) (by decide), nI_clamp (show cur < 2 ^ 31 by omega), q_nm, q_ck (by omega) (by decide), q_nm, q_cne (by omega), d1, q_bnw, q_nm, ef, q_bnw, ew0, q_ck (by omega) (by decide), nI_clamp (show cur < 2 ^ 31 by omega), q_nm, ew1, hw]
      · unfold fX9_restore
        rw [q_nm, g3, q_bnr, r_fails1, q_bnd, if_pos rfl, es, q_ck (by omega) (by decide), nI_clamp (show s < 2 ^ 31 by omega), ez, s2, r_fails1, q_bnd, if_pos rfl]
        exact z0
      · rw [z3 3 (by omega) (by omega), pk_us]
      · exact hS.same (fun x hx => z1 x hx) hwb
      · intro k hk
        exact absurd hk (Nat.not_lt_zero _)
      · intro s9 hs9
        rw [hz (7158 + s9) (by omega) (by omega) (by omega), hwv (7084 + s9) (by omega) (by omega)]
        rcases h8 s9 hs9 with g | ⟨a1, a2, a3⟩
        · exact Or.inl g
        · exact Or.inr ⟨a1, a2, a3.same (fun x hx => hz _ (by omega) (by omega) (by omega)) (hblk _ (by omega) (by omega))⟩
  · obtain ⟨g1, g2, g3⟩ := q_rgn hp
    refine ⟨v, upd u 3 1, Or.inr (Or.inl ⟨0, ?_, rfl, ?_, pk_us⟩), (h.u3 1).J (by omega) hT⟩
    · unfold xX8_restore
      rw [g2, q_xs]
    · unfold fX9_restore
      rw [q_nm, g3, q_bnr, r_fails0, q_bnd, if_neg (by decide), q_33]
theorem k_3 (P : Nat → Int32) (h : q_I T cur dr hn nx v u) : bS_3 P v u v (upd u 3 0) := ⟨u 1, ⟨congrArg some h.2.2.2.2.2.2.2.1.1, rfl⟩, rfl⟩
theorem k_4 (P : Nat → Int32) (h : q_I T cur dr hn nx v u) : bS_4 P v u v (upd u 3 0) := ⟨u 2, ⟨congrArg some h.2.2.2.2.2.2.2.1.2, rfl⟩, rfl⟩
theorem k_7 (P : Nat → Int32) (h : q_I T cur dr hn nx v u) : bS_7 P v u v (upd u 3 0) := ⟨u 4, ⟨congrArg some (h.2.2.1.1.trans h.2.2.1.2.2.symm), rfl⟩, rfl⟩
theorem k_63 (P : Nat → Int32) (h : q_I T cur dr hn nx v u) : bS_63 P v u v (upd u 3 0) := by
  obtain ⟨m, o1, o2, o3, o4⟩ := h.2.2.2.2.2.2.2.2
  have eu : upd u 3 0 9 = nI m := (q_un (by decide)).trans o3
  unfold bS_63
  rcases pk_ix (P 1) (n := m) (by omega) with e | e | ⟨j, hj, e⟩
  · obtain ⟨g1, g2, g3⟩ := q_ixn (Or.inl e) (show m < 2 ^ 31 by omega)
    refine ⟨-1, ⟨?_, rfl⟩, ?_⟩
    · unfold fX8_outputByte
      rw [if_pos e]
    · unfold fX9_outputByte
      rw [q_nm, eu, g3, q_bnr, if_pos rfl]
  · obtain ⟨g1, g2, g3⟩ := q_ixn (Or.inr e) (show m < 2 ^ 31 by omega)
    refine ⟨-1, ⟨?_, rfl⟩, ?_⟩
    · unfold fX8_outputByte
      rw [o2, if_neg (q_nlt e)]
      split <;> rfl
    · unfold fX9_outputByte
      rw [q_nm, eu, g3, q_bnr, if_pos rfl]
  · obtain ⟨g1, g2, g3⟩ := q_ixy hj (show m < 2 ^ 31 by omega)
    refine ⟨v (9903 + j), ⟨?_, rfl⟩, ?_⟩
    · unfold fX8_outputByte
      rw [o2, e, if_neg (nI_pos (by omega)), if_pos (nI_lt hj (by omega)), nI_clamp (by omega)]
    · unfold fX9_outputByte
      rw [q_nm, eu, e, g3, q_bnr, if_neg (by decide), q_ck (by omega) (by decide), nI_clamp (by omega), q_un (by omega), o4 j hj]
end
