/-! ===== layer 2: the invariant ===== -/
def q_St (T : Nat) (r c : bM) : Prop := ∃ (nf nb nt no : Nat) (Ls : Nat → List (Nat × Nat)), q_S T nf nb nt no Ls r c
def q_Hi (T hn nx : Nat) (v u : bM) : Prop := ∀ k, k < hn → q_St T (vw u (2198 + 496 * k)) (vw v (stO (2 + (nx + 8 - hn + k) % 8)))
def q_Sv (T : Nat) (v u : bM) : Prop := ∀ s, s < 2 → (v (7084 + s) = 0 ∧ u (7158 + s) = 0) ∨ (v (7084 + s) = 1 ∧ u (7158 + s) = 1 ∧ q_St T (vw u (6166 + 496 * s)) (vw v (stO (10 + s))))
def q_Tx (v u : bM) : Prop := ∃ L : Nat, L ≤ 700 ∧ v 7093 = nI L ∧ u 0 = nI L ∧ ∀ i, i < L → v (7096 + i) = u (10 + i)
def q_Er (v u : bM) : Prop := v 7086 = u 1 ∧ v 7087 = u 2
def q_Ou (v u : bM) : Prop := ∃ m : Nat, m ≤ 80 ∧ v 9902 = nI m ∧ u 9 = nI m ∧ ∀ i, i < m → v (9903 + i) = u (7165 + i)
def q_I (T cur dr hn nx : Nat) (v u : bM) : Prop := (cur < 2 ∧ dr < 2 ∧ cur ≠ dr ∧ hn ≤ 8 ∧ nx < 8) ∧ (v 0 = nI cur ∧ v 1 = nI dr) ∧ (v 1182 = nI hn ∧ v 1183 = nI nx ∧ u 4 = nI hn) ∧ q_St T (vw u 710) (vw v (stO cur)) ∧ q_Hi T hn nx v u ∧ q_Sv T v u ∧ q_Tx v u ∧ q_Er v u ∧ q_Ou v u
theorem stO_b {i : Nat} (h : i < 12) : 2 ≤ stO i ∧ stO i + 590 ≤ 7084 ∧ (stO i + 590 ≤ 1182 ∨ 1184 ≤ stO i) := by
  unfold stO
  split <;> omega
theorem stO_ap {i j : Nat} (h : i < 12) (hj : j < 12) (hne : i ≠ j) : stO i + 590 ≤ stO j ∨ stO j + 590 ≤ stO i := by
  unfold stO
  split <;> split <;> omega
theorem q_St.same {T : Nat} {r c r9 c9 : bM} (h : q_St T r c) (hr : ∀ x, x < 496 → r9 x = r x) (hc : ∀ x, x < 590 → c9 x = c x) : q_St T r9 c9 := by
  obtain ⟨nf, nb, nt, no, Ls, h⟩ := h
  exact ⟨nf, nb, nt, no, Ls, h.same hr hc⟩
theorem q_St.mono {T T9 : Nat} {r c : bM} (h : q_St T r c) (hT : T ≤ T9) (hT9 : T9 ≤ 100000000) : q_St T9 r c := by
  obtain ⟨nf, nb, nt, no, Ls, h⟩ := h
  exact ⟨nf, nb, nt, no, Ls, h.mono hT hT9⟩
/-- the reference's numbers that nothing rests on -/
def q_irr (x : Nat) : Prop := x = 3 ∨ (5 ≤ x ∧ x ≤ 8) ∨ (1206 ≤ x ∧ x < 2198) ∨ (7160 ≤ x ∧ x < 7165)
theorem q_I.z {T cur dr hn nx : Nat} {v u z : bM} (h : q_I T cur dr hn nx v u) (hz : ∀ x, ¬ q_irr x → z x = u x) : q_I T cur dr hn nx v z := by
  obtain ⟨h1, h2, ⟨h3, h4, h5⟩, h6, h7, h8, ⟨L, t1, t2, t3, t4⟩, ⟨e1, e2⟩, ⟨m, o1, o2, o3, o4⟩⟩ := h
  unfold q_irr at hz
  refine ⟨h1, h2, ⟨h3, h4, by rw [hz 4 (by omega)]; exact h5⟩, h6.same (fun x hx => hz _ (by omega)) (fun _ _ => rfl), fun k hk => (h7 k hk).same (fun x hx => hz _ (by omega)) (fun _ _ => rfl), fun s hs => ?_, ⟨L, t1, t2, by rw [hz 0 (by omega)]; exact t3, fun i hi => by rw [hz (10 + i) (by omega)]; exact t4 i hi⟩, ⟨by rw [hz 1 (by omega)]; exact e1, by rw [hz 2 (by omega)]; exact e2⟩, ⟨m, o1, o2, by rw [hz 9 (by omega)]; exact o3, fun i hi => by rw [hz (7165 + i) (by omega)]; exact o4 i hi⟩⟩
  rw [hz (7158 + s) (by omega)]
  rcases h8 s hs with g | ⟨g1, g2, g3⟩
  · exact Or.inl g
  · exact Or.inr ⟨g1, g2, g3.same (fun x hx => hz _ (by omega)) (fun _ _ => rfl)⟩
/-- the state that stands is changed -/
theorem q_I.chg {T T9 cur dr hn nx : Nat} {v u w z d : bM} (h : q_I T cur dr hn nx v u) (hd : q_St T9 (vw z 710) d) (hT : T ≤ T9) (hT9 : T9 ≤ 100000000) (hz : ∀ x, ¬ (710 ≤ x ∧ x < 1206) → z x = u x) (hb : ∀ x, x < 590 → vw w (stO cur) x = d x) (hw : ∀ x, ¬ (stO cur ≤ x ∧ x < stO cur + 590) → w x = v x) : q_I T9 cur dr hn nx w z := by
  obtain ⟨h1, h2, ⟨h3, h4, h5⟩, h6, h7, h8, ⟨L, t1, t2, t3, t4⟩, ⟨e1, e2⟩, ⟨m, o1, o2, o3, o4⟩⟩ := h
  have b := stO_b (i := cur) (by omega)
  have hblk : ∀ i, i < 12 → i ≠ cur → ∀ x, x < 590 → vw w (stO i) x = vw v (stO i) x := fun i hi hne x hx => by
    have := stO_ap hi (show cur < 12 by omega) hne
    exact hw _ (by omega)
  refine ⟨h1, ⟨by rw [hw 0 (by omega)]; exact h2.1, by rw [hw 1 (by omega)]; exact h2.2⟩, ⟨by rw [hw _ (by omega)]; exact h3, by rw [hw _ (by omega)]; exact h4, by rw [hz 4 (by omega)]; exact h5⟩, hd.same (fun _ _ => rfl) hb, fun k hk => ((h7 k hk).mono hT hT9).same (fun x hx => hz _ (by omega)) (hblk _ (by omega) (by omega)), fun s hs => ?_, ⟨L, t1, by rw [hw _ (by omega)]; exact t2, by rw [hz 0 (by omega)]; exact t3, fun i hi => by rw [hz (10 + i) (by omega), hw _ (by omega)]; exact t4 i hi⟩, ⟨by rw [hz 1 (by omega), hw _ (by omega)]; exact e1, by rw [hz 2 (by omega), hw _ (by omega)]; exact e2⟩, ⟨m, o1, by rw [hw _ (by omega)]; exact o2, by rw [hz 9 (by omega)]; exact o3, fun i hi => by rw [hz (7165 + i) (by omega), hw _ (by omega)]; exact o4 i hi⟩⟩
  rw [hz (7158 + s) (by omega), hw (7084 + s) (by omega)]
  rcases h8 s hs with g | ⟨g1, g2, g3⟩
  · exact Or.inl g
  · exact Or.inr ⟨g1, g2, (g3.mono hT hT9).same (fun x hx => hz _ (by omega)) (hblk _ (by omega) (by omega))⟩
theorem q_cne {β : Type} {i j : Nat} {k : Option β} (h : i ≠ j) : cne i j k = k := if_neg h
theorem q_ckn {β : Type} {i n : Nat} {k : Option β} (h : i < n) : ckn i n k = k := if_pos h
theorem c_remember {cur hn nx : Nat} {v : bM} (hc : cur < 2) (hh : hn ≤ 8) (hx : nx < 8) (e1 : v 1182 = nI hn) (e2 : v 1183 = nI nx) : ∃ w, fX3_remember cur v = some w ∧ (∀ x, x < 590 → vw w (stO (2 + nx)) x = vw v (stO cur) x) ∧ w 1183 = nI ((nx + 1) % 8) ∧ w 1182 = nI (if 8 < hn + 1 then 8 else hn + 1) ∧ ∀ x, x ≠ 1182 → x ≠ 1183 → ¬ (stO (2 + nx) ≤ x ∧ x < stO (2 + nx) + 590) → w x = v x := by
  have b := stO_b (i := 2 + nx) (by omega)
  obtain ⟨d, d1, d2⟩ := c_copy6 (vw v (stO (2 + nx))) (vw v (stO cur))
  have s1 : spl v (stO (2 + nx)) 590 d 1183 = nI nx := by rw [q_spo (by omega)]; exact e2
  have s2 : spl v (stO (2 + nx)) 590 d 1182 = nI hn := by rw [q_spo (by omega)]; exact e1
  refine ⟨upd (upd (spl v (stO (2 + nx)) 590 d) 1183 (nI ((nx + 1) % 8))) 1182 (nI (if 8 < hn + 1 then 8 else hn + 1)), ?_, fun x hx => ?_, ?_, pk_us, fun x h1 h2 h3 => ?_⟩
  · unfold fX3_remember
    have e8 : (if (8 : Int32) < nI (hn + 1) then 8 else nI (hn + 1)) = nI (if 8 < hn + 1 then 8 else hn + 1) := by
      by_cases e : 8 < hn + 1
      · rw [if_pos e, q_l8, if_pos (nI_lt e (by omega))]
      · rw [if_neg e, q_l8, if_neg (nI_nlt (by omega) (by omega))]
    have e9 : nI (nx + 1) - nI (nx + 1) / 8 * 8 = nI ((nx + 1) % 8) := by rw [q_l8, pk_rem (by omega) (by decide) (by decide)]
    rw [q_ckn (by omega), e2, q_ck hx (by decide), nI_clamp (by omega), q_nm, q_cne (by omega), d1, q_bnw, q_nm, s1, q_add1, e9, q_nm, q_nm, q_un (by decide), s2, q_add1, e8, q_nm, q_nm]
  · rw [q_vw, q_un (by omega), q_un (by omega), q_spi rfl (by omega)]
    exact d2 x hx
  · rw [q_un (by decide), pk_us]
  · rw [q_un h1, q_un h2, q_spo (by omega)]
/-- the reference's history: the oldest gives way, the state that stands is put behind -/
theorem r_record {hn : Nat} {u : bM} (hh : hn ≤ 8) (e4 : u 4 = nI hn) : ∃ z, fX9_record u = some z ∧ z 4 = nI (if 8 < hn + 1 then 8 else hn + 1) ∧ (∀ k x, k < (if hn = 8 then 7 else hn) → x < 496 → z (2198 + 496 * k + x) = u (2198 + 496 * (k + if hn = 8 then 1 else 0) + x)) ∧ (∀ x, x < 496 → z (2198 + 496 * (if hn = 8 then 7 else hn) + x) = u (710 + x)) ∧ ∀ x, x ≠ 4 → ¬ (1206 ≤ x ∧ x < 1702) → ¬ (2198 ≤ x ∧ x < 6166) → z x = u x := by
  -- aside := now
  have k1 := q_for (F := fX9_record_L2) (z := fun _ _ => none) (n := 496) (Sp := fun i K => ∀ d : bM, (∀ j, j < i → d (1206 + j) = u (710 + j)) → (∀ x, ¬ (1206 ≤ x ∧ x < 1702) → d x = u x) → ∃ e, K (nI i) d = fX9_pushAside e ∧ (∀ j, j < 496 → e (1206 + j) = u (710 + j)) ∧ ∀ x, ¬ (1206 ≤ x ∧ x < 1702) → e x = u x) (fun K d h1 h2 => by
    refine ⟨d, ?_, h1, h2⟩
    unfold fX9_record_L2
    rw [q_l496, if_pos (Int32.le_refl _)]
    cases fX9_pushAside d <;> rfl) (fun i K hi hK d h1 h2 => by
    obtain ⟨e, g1, g2⟩ := hK (upd d (1206 + i) (d (710 + i))) (fun j hj => by
      by_cases e : j = i
      · rw [e, pk_us]
        exact h2 _ (by omega)
      · rw [q_un (by omega)]
        exact h1 j (by omega)) (fun x hx => by rw [q_un (by omega)]; exact h2 x hx)
    refine ⟨e, ?_, g2⟩
    unfold fX9_record_L2
    rw [q_l496, if_neg (nI_ge hi (by decide)), q_ck hi (by decide), nI_clamp (by omega), q_nm, q_ck hi (by decide), q_nm, q_nm, q_add1]
    exact g1) lpN 0 (Nat.zero_le _) (q_lpN _ (by decide)) u (fun j hj => absurd hj (Nat.not_lt_zero _)) (fun _ _ => rfl)
  obtain ⟨e, a1, a2, a3⟩ := k1
  -- the last step: history[h9] := aside
  have last : ∀ (h9 : Nat) (d : bM), h9 < 8 → d 4 = nI h9 → ∃ z, fX9_pushAside_J50 d = some z ∧ z 4 = nI (h9 + 1) ∧ (∀ x, x < 496 → z (2198 + 496 * h9 + x) = d (1206 + x)) ∧ ∀ x, x ≠ 4 → ¬ (2198 + 496 * h9 ≤ x ∧ x < 2694 + 496 * h9) → z x = d x := by
    intro h9 d hh9 hd
    have k2 := q_for (F := fX9_pushAside_L52) (z := fun _ _ => none) (n := 496) (Sp := fun i K => ∀ f : bM, f 4 = nI h9 → (∀ j, j < i → f (2198 + 496 * h9 + j) = d (1206 + j)) → (∀ x, x ≠ 4 → ¬ (2198 + 496 * h9 ≤ x ∧ x < 2694 + 496 * h9) → f x = d x) → ∃ z, K (nI i) f = some z ∧ z 4 = nI (h9 + 1) ∧ (∀ x, x < 496 → z (2198 + 496 * h9 + x) = d (1206 + x)) ∧ ∀ x, x ≠ 4 → ¬ (2198 + 496 * h9 ≤ x ∧ x < 2694 + 496 * h9) → z x = d x) (fun K f f4 h1 h2 => by
      refine ⟨upd f 4 (nI (h9 + 1)), ?_, pk_us, fun x hx => ?_, fun x g1 g2 => ?_⟩
      · unfold fX9_pushAside_L52
        rw [q_l496, if_pos (Int32.le_refl _), f4, q_nm, q_nm, q_add1]
      · rw [q_un (by omega)]
        exact h1 x hx
      · rw [q_un g1]
        exact h2 x g1 g2) (fun i K hi hK f f4 h1 h2 => by
      obtain ⟨z, g1, g2⟩ := hK (upd f (2198 + 496 * h9 + i) (d (1206 + i))) (by rw [q_un (by omega)]; exact f4) (fun j hj => by
        by_cases e : j = i
        · rw [e, pk_us]
        · rw [q_un (by omega)]
          exact h1 j (by omega)) (fun x g1 g2 => by rw [q_un (by omega)]; exact h2 x g1 g2)
      refine ⟨z, ?_, g2⟩
      have e1 : (496 : Int32) * nI h9 + nI i = nI (496 * h9 + i) := by rw [q_l496, pk_mul, nI_add]
      unfold fX9_pushAside_L52
      rw [f4, e1, q_l496, if_neg (nI_ge hi (by decide)), q_ck hi (by decide), nI_clamp (show i < 2 ^ 31 by omega), h2 (1206 + i) (by omega) (by omega), q_nm, q_ck (by omega) (by decide), nI_clamp (by omega), q_nm, q_nm, q_add1, ← Nat.add_assoc]
      exact g1) lpN 0 (Nat.zero_le _) (q_lpN _ (by decide)) d hd (fun j hj => absurd hj (Nat.not_lt_zero _)) (fun _ _ _ => rfl)
    exact k2
  have er : fX9_record u = fX9_pushAside e := a1
  rw [er]
  by_cases h8 : hn = 8
  · -- shift
    have k3 := q_for (F := fX9_pushAside_L11) (z := fun _ _ => none) (n := 3472) (Sp := fun i K => ∀ f : bM, (∀ j, j < i → f (2198 + j) = e (2694 + j)) → (∀ j, i ≤ j → f (2198 + j) = e (2198 + j)) → (∀ x, x < 2198 → f x = e x) → ∃ d, K (nI i) f = fX9_pushAside_J50 d ∧ d 4 = nI 7 ∧ (∀ j, j < 3472 → d (2198 + j) = e (2694 + j)) ∧ ∀ x, x ≠ 4 → ¬ (2198 ≤ x ∧ x < 5670) → d x = e x) (fun K f h1 h2 h3 => by
      refine ⟨upd f 4 (nI 7), ?_, pk_us, fun j hj => ?_, fun x g1 g2 => ?_⟩
      · unfold fX9_pushAside_L11
        have f4 : f 4 = nI 8 := by rw [h3 4 (by decide), a3 4 (by omega), e4, h8]
        rw [show (3472 : Int32) = nI 3472 from rfl, if_pos (Int32.le_refl _), f4, nI_pred, q_nm, q_nm]
      · rw [q_un (by omega)]
        exact h1 j hj
      · rw [q_un g1]
        by_cases hx : x < 2198
        · exact h3 x hx
        · rw [show x = 2198 + (x - 2198) by omega]
          exact h2 _ (by omega)) (fun i K hi hK f h1 h2 h3 => by
      obtain ⟨d, g1, g2⟩ := hK (upd f (2198 + i) (e (2694 + i))) (fun j hj => by
        by_cases ej : j = i
        · rw [ej, pk_us]
        · rw [q_un (by omega)]
          exact h1 j (by omega)) (fun j hj => by rw [q_un (by omega)]; exact h2 j (by omega)) (fun x hx => by rw [q_un (by omega)]; exact h3 x hx)
      refine ⟨d, ?_, g2⟩
      have e1 : nI i + 496 = nI (i + 496) := by rw [q_l496, nI_add]
      have e2 : f (2198 + (i + 496)) = e (2694 + i) := (h2 _ (by omega)).trans (congrArg e (by omega))
      unfold fX9_pushAside_L11
      rw [e1, show (3472 : Int32) = nI 3472 from rfl, if_neg (nI_ge hi (by decide)), q_ck (by omega) (by decide), nI_clamp (by omega), e2, q_nm, q_ck (by omega) (by decide), nI_clamp (by omega), q_nm, q_nm, q_add1]
      exact g1) lpN 0 (Nat.zero_le _) (q_lpN _ (by decide)) e (fun j hj => absurd hj (Nat.not_lt_zero _)) (fun _ _ => rfl) (fun _ _ => rfl)
    obtain ⟨d, b1, b2, b3, b4⟩ := k3
    obtain ⟨z, z0, z1, z2, z3⟩ := last 7 d (by decide) b2
    refine ⟨z, ?_, ?_, fun k x hk hx => ?_, fun x hx => ?_, fun x g1 g2 g3 => ?_⟩
    · unfold fX9_pushAside
      rw [a3 4 (by omega), e4, h8, if_pos (show nI 8 = 8 from rfl)]
      exact b1.trans z0
    · rw [z1, h8]
      rfl
    · rw [if_pos h8] at hk ⊢
      rw [z3 _ (by omega) (by omega), show 2198 + 496 * k + x = 2198 + (496 * k + x) by omega, b3 _ (by omega), a3 _ (by omega)]
      exact congrArg u (by omega)
    · rw [if_pos h8, z2 x hx, b4 _ (by omega) (by omega)]
      exact a2 x hx
    · rw [z3 x g1 (by omega), b4 x g1 (by omega)]
      exact a3 x g2
  · obtain ⟨z, z0, z1, z2, z3⟩ := last hn e (by omega) (by rw [a3 4 (by omega)]; exact e4)
    refine ⟨z, ?_, ?_, fun k x hk hx => ?_, fun x hx => ?_, fun x g1 g2 g3 => ?_⟩
    · unfold fX9_pushAside
      rw [a3 4 (by omega), e4, if_neg (show ¬ nI hn = 8 from fun q => h8 ((nI_eq (b := 8) (by omega) (by decide)).mp q))]
      exact z0
    · rw [z1, if_neg (by omega)]
    · rw [if_neg h8] at hk ⊢
      rw [z3 _ (by omega) (by omega), a3 _ (by omega)]
      rfl
    · rw [if_neg h8, z2 x hx]
      exact a2 x hx
    · rw [z3 x g1 (by omega)]
      exact a3 x g2
theorem t_record {T cur dr hn nx : Nat} {v u : bM} (h : q_I T cur dr hn nx v u) : ∃ w z hn9 nx9, fX3_remember cur v = some w ∧ fX9_record u = some z ∧ q_I T cur dr hn9 nx9 w z ∧ (∀ x, x < 590 → vw w (stO cur) x = vw v (stO cur) x) ∧ (∀ x, x < 496 → vw z 710 x = vw u 710 x) ∧ w 0 = nI cur ∧ z 3 = u 3 := by
  obtain ⟨⟨i1, i2, i3, i4, i5⟩, h2, ⟨h3, h4, h5⟩, h6, h7, h8, ⟨L, t1, t2, t3, t4⟩, ⟨e1, e2⟩, ⟨m, o1, o2, o3, o4⟩⟩ := h
  obtain ⟨w, w0, w1, w2, w3, hw⟩ := c_remember i1 i4 i5 h3 h4
  obtain ⟨z, z0, z1, z2, z3, hz⟩ := r_record i4 h5
  have b := stO_b (i := 2 + nx) (by omega)
  have hblk : ∀ i, i < 12 → i ≠ 2 + nx → ∀ x, x < 590 → vw w (stO i) x = vw v (stO i) x := fun i hi hne x hx => by
    have b1 := stO_b hi
    have := stO_ap hi (show 2 + nx < 12 by omega) hne
    exact hw _ (by omega) (by omega) (by omega)
  have hnow : ∀ x, x < 496 → vw z 710 x = vw u 710 x := fun x hx => hz _ (by omega) (by omega) (by omega)
  refine ⟨w, z, (if 8 < hn + 1 then 8 else hn + 1), (nx + 1) % 8, w0, z0, ⟨⟨i1, i2, i3, by split <;> omega, Nat.mod_lt _ (by decide)⟩, ⟨by rw [hw 0 (by omega) (by omega) (by omega)]; exact h2.1, by rw [hw 1 (by omega) (by omega) (by omega)]; exact h2.2⟩, ⟨w3, w2, z1⟩, h6.same hnow (hblk _ (by omega) (by omega)), ?_, fun s hs => ?_, ⟨L, t1, by rw [hw _ (by omega) (by omega) (by omega)]; exact t2, by rw [hz 0 (by omega) (by omega) (by omega)]; exact t3, fun i hi => by rw [hz (10 + i) (by omega) (by omega) (by omega), hw _ (by omega) (by omega) (by omega)]; exact t4 i hi⟩, ⟨by rw [hz 1 (by omega) (by omega) (by omega), hw _ (by omega) (by omega) (by omega)]; exact e1, by rw [hz 2 (by omega) (by omega) (by omega), hw _ (by omega) (by omega) (by omega)]; exact e2⟩, ⟨m, o1, by rw [hw _ (by omega) (by omega) (by omega)]; exact o2, by rw [hz 9 (by omega) (by omega) (by omega)]; exact o3, fun i hi => by rw [hz (7165 + i) (by omega) (by omega) (by omega), hw _ (by omega) (by omega) (by omega)]; exact o4 i hi⟩⟩, hblk _ (by omega) (by omega), hnow, by rw [hw 0 (by omega) (by omega) (by omega)]; exact h2.1, hz 3 (by omega) (by omega) (by omega)⟩
  · intro k hk
    by_cases h8n : hn = 8
    · rw [if_pos (by omega)] at hk ⊢
      by_cases ek : k = 7
      · have es : 2 + ((nx + 1) % 8 + 8 - 8 + k) % 8 = 2 + nx := by omega
        rw [es]
        refine h6.same (fun x hx => ?_) w1
        have g := z3 x hx
        rw [if_pos h8n] at g
        rw [ek]
        exact g
      · have es : 2 + ((nx + 1) % 8 + 8 - 8 + k) % 8 = 2 + (nx + 8 - hn + (k + 1)) % 8 := by omega
        rw [es]
        refine (h7 (k + 1) (by omega)).same (fun x hx => ?_) (hblk _ (by omega) (by omega))
        have g := z2 k x (by rw [if_pos h8n]; omega) hx
        rw [if_pos h8n] at g
        exact g
    · rw [if_neg (by omega)] at hk ⊢
      by_cases ek : k = hn
      · have es : 2 + ((nx + 1) % 8 + 8 - (hn + 1) + k) % 8 = 2 + nx := by omega
        rw [es]
        refine h6.same (fun x hx => ?_) w1
        have g := z3 x hx
        rw [if_neg h8n] at g
        rw [ek]
        exact g
      · have es : 2 + ((nx + 1) % 8 + 8 - (hn + 1) + k) % 8 = 2 + (nx + 8 - hn + k) % 8 := by omega
        rw [es]
        refine (h7 k (by omega)).same (fun x hx => ?_) (hblk _ (by omega) (by omega))
        have g := z2 k x (by rw [if_neg h8n]; omega) hx
        rw [if_neg h8n] at g
        exact g
  · rw [hz (7158 + s) (by omega) (by omega) (by omega), hw (7084 + s) (by omega) (by omega) (by omega)]
    rcases h8 s hs with g | ⟨g1, g2, g3⟩
    · exact Or.inl g
    · exact Or.inr ⟨g1, g2, g3.same (fun x hx => hz _ (by omega) (by omega) (by omega)) (hblk _ (by omega) (by omega))⟩
