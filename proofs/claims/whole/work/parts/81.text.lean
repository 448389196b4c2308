/-! ===== layer 2: texts from their begin to their end ===== -/
theorem r_push {hn : Nat} {e : bM} (hh : hn ≤ 8) (e4 : e 4 = nI hn) : ∃ z, fX9_pushAside e = some z ∧ z 4 = nI (if 8 < hn + 1 then 8 else hn + 1) ∧ (∀ k x, k < (if hn = 8 then 7 else hn) → x < 496 → z (2198 + 496 * k + x) = e (2198 + 496 * (k + if hn = 8 then 1 else 0) + x)) ∧ (∀ x, x < 496 → z (2198 + 496 * (if hn = 8 then 7 else hn) + x) = e (1206 + x)) ∧ ∀ x, x ≠ 4 → ¬ (2198 ≤ x ∧ x < 6166) → z x = e x := by
  -- the last step: history[h9] := aside
  have last : ∀ (h9 : Nat) (d : bM), h9 < 8 → d 4 = nI h9 → ∃ z, fX9_pushAside_J50 d = some z ∧ z 4 = nI (h9 + 1) ∧ (∀ x, x < 496 → z (2198 + 496 * h9 + x) = d (1206 + x)) ∧ ∀ x, x ≠ 4 → ¬ (2198 + 496 * h9 ≤ x ∧ x < 2694 + 496 * h9) → z x = d x := by
    intro h9 d hh9 hd
    have k2 := q_for (F := fX9_pushAside_L52) (z := fun _ _ => none) (n := 496) (Sp := fun i K => ∀ f : bM, f 4 = nI h9 → (∀ j, j < i → f (2198 + 496 * h9 + j) = d (1206 + j)) → (∀ x, x ≠ 4 → ¬ (2198 + 496 * h9 ≤ x ∧ x < 2694 + 496 * h9) → f x = d x) → ∃ z, K (nI i) f = some z ∧ z 4 = nI (h9 + 1) ∧ (∀ x, x < 496 → z (2198 + 496 * h9 + x) = d (1206 + x)) ∧ ∀ x, x ≠ 4 → ¬ (2198 + 496 * h9 ≤ x ∧ x < 2694 + 496 * h9) → z x = d x) (fun K f f4 h1 h2 => by
      refine ⟨upd f 4 (nI (h9 + 1)), ?_, pk_us, fun x hx => ?_, fun x g1 g2 => ?_⟩
      · unfold fX9_pushAside_L52
        rw [q_l496, if_pos (Int32.le_refl _), f4, q_nm, q_nm, q_add1]
      · rw [q_un (by omega)]
        exact h1 x hx
      · rw [q_un g1]
        exact h2 x g1 g2) (fun i K hi hK f f4 h1 h2 => by
      obtain ⟨z, g1, g2⟩ := hK (upd f (2198 + 496 * h9 + i) (d (1206 + i))) (by rw [q_un (by omega)]; exact f4) (fun j hj => by
        by_cases e : j = i
        · rw [e, pk_us]
        · rw [q_un (by omega)]
          exact h1 j (by omega)) (fun x g1 g2 => by rw [q_un (by omega)]; exact h2 x g1 g2)
      refine ⟨z, ?_, g2⟩
      have e1 : (496 : Int32) * nI h9 + nI i = nI (496 * h9 + i) := by rw [q_l496, pk_mul, nI_add]
      unfold fX9_pushAside_L52
      rw [f4, e1, q_l496, if_neg (nI_ge hi (by decide)), q_ck hi (by decide), nI_clamp (show i < 2 ^ 31 by omega), h2 (1206 + i) (by omega) (by omega), q_nm, q_ck (by omega) (by decide), nI_clamp (by omega), q_nm, q_nm, q_add1, ← Nat.add_assoc]
      exact g1) lpN 0 (Nat.zero_le _) (q_lpN _ (by decide)) d hd (fun j hj => absurd hj (Nat.not_lt_zero _)) (fun _ _ _ => rfl)
    exact k2
  by_cases h8 : hn = 8
  · -- shift
    have k3 := q_for (F := fX9_pushAside_L11) (z := fun _ _ => none) (n := 3472) (Sp := fun i K => ∀ f : bM, (∀ j, j < i → f (2198 + j) = e (2694 + j)) → (∀ j, i ≤ j → f (2198 + j) = e (2198 + j)) → (∀ x, x < 2198 → f x = e x) → ∃ d, K (nI i) f = fX9_pushAside_J50 d ∧ d 4 = nI 7 ∧ (∀ j, j < 3472 → d (2198 + j) = e (2694 + j)) ∧ ∀ x, x ≠ 4 → ¬ (2198 ≤ x ∧ x < 5670) → d x = e x) (fun K f h1 h2 h3 => by
      refine ⟨upd f 4 (nI 7), ?_, pk_us, fun j hj => ?_, fun x g1 g2 => ?_⟩
      · unfold fX9_pushAside_L11
        have f4 : f 4 = nI 8 := by rw [h3 4 (by decide), e4, h8]
        rw [show (3472 : Int32) = nI 3472 from rfl, if_pos (Int32.le_refl _), f4, nI_pred, q_nm, q_nm]
      · rw [q_un (by omega)]
        exact h1 j hj
      · rw [q_un g1]
        by_cases hx : x < 2198
        · exact h3 x hx
        · rw [show x = 2198 + (x - 2198) by omega]
          exact h2 _ (by omega)) (fun i K hi hK f h1 h2 h3 => by
      obtain ⟨d, g1, g2⟩ := hK (upd f (2198 + i) (e (2694 + i))) (fun j hj => by
        by_cases ej : j = i
        · rw [ej, pk_us]
        · rw [q_un (by omega)]
          exact h1 j (by omega)) (fun j hj => by rw [q_un (by omega)]; exact h2 j (by omega)) (fun x hx => by rw [q_un (by omega)]; exact h3 x hx)
      refine ⟨d, ?_, g2⟩
      have e1 : nI i + 496 = nI (i + 496) := by rw [q_l496, nI_add]
      have e2 : f (2198 + (i + 496)) = e (2694 + i) := (h2 _ (by omega)).trans (congrArg e (by omega))
      unfold fX9_pushAside_L11
      rw [e1, show (3472 : Int32) = nI 3472 from rfl, if_neg (nI_ge hi (by decide)), q_ck (by omega) (by decide), nI_clamp (by omega), e2, q_nm, q_ck (by omega) (by decide), nI_clamp (by omega), q_nm, q_nm, q_add1]
      exact g1) lpN 0 (Nat.zero_le _) (q_lpN _ (by decide)) e (fun j hj => absurd hj (Nat.not_lt_zero _)) (fun _ _ => rfl) (fun _ _ => rfl)
    obtain ⟨d, b1, b2, b3, b4⟩ := k3
    obtain ⟨z, z0, z1, z2, z3⟩ := last 7 d (by decide) b2
    refine ⟨z, ?_, ?_, fun k x hk hx => ?_, fun x hx => ?_, fun x g1 g3 => ?_⟩
    · unfold fX9_pushAside
      rw [e4, h8, if_pos (show nI 8 = 8 from rfl)]
      exact b1.trans z0
    · rw [z1, h8]
      rfl
    · rw [if_pos h8] at hk ⊢
      rw [z3 _ (by omega) (by omega), show 2198 + 496 * k + x = 2198 + (496 * k + x) by omega, b3 _ (by omega)]
      exact congrArg e (by omega)
    · rw [if_pos h8, z2 x hx, b4 _ (by omega) (by omega)]
    · rw [z3 x g1 (by omega), b4 x g1 (by omega)]
  · obtain ⟨z, z0, z1, z2, z3⟩ := last hn e (by omega) e4
    refine ⟨z, ?_, ?_, fun k x hk hx => ?_, fun x hx => ?_, fun x g1 g3 => ?_⟩
    · unfold fX9_pushAside
      rw [e4, if_neg (show ¬ nI hn = 8 from fun q => h8 ((nI_eq (b := 8) (by omega) (by decide)).mp q))]
      exact z0
    · rw [z1, if_neg (by omega)]
    · rw [if_neg h8] at hk ⊢
      rw [z3 _ (by omega) (by omega)]
      rfl
    · rw [if_neg h8, z2 x hx]
    · rw [z3 x g1 (by omega)]
theorem q_Hi.push {T hn nx : Nat} {v u w z R C : bM} (i4 : hn ≤ 8) (i5 : nx < 8) (h7 : q_Hi T hn nx v u) (hR : q_St T R C) (w1 : ∀ x, x < 590 → vw w (stO (2 + nx)) x = C x) (hblk : ∀ i, 2 ≤ i → i < 10 → i ≠ 2 + nx → ∀ x, x < 590 → vw w (stO i) x = vw v (stO i) x) (z2 : ∀ k x, k < (if hn = 8 then 7 else hn) → x < 496 → z (2198 + 496 * k + x) = u (2198 + 496 * (k + if hn = 8 then 1 else 0) + x)) (z3 : ∀ x, x < 496 → z (2198 + 496 * (if hn = 8 then 7 else hn) + x) = R x) : q_Hi T (if 8 < hn + 1 then 8 else hn + 1) ((nx + 1) % 8) w z := by
  intro k hk
  by_cases h8n : hn = 8
  · rw [if_pos (by omega)] at hk ⊢
    by_cases ek : k = 7
    · have es : 2 + ((nx + 1) % 8 + 8 - 8 + k) % 8 = 2 + nx := by omega
      rw [es]
      refine hR.same (fun x hx => ?_) w1
      have g := z3 x hx
      rw [if_pos h8n] at g
      rw [ek]
      exact g
    · have es : 2 + ((nx + 1) % 8 + 8 - 8 + k) % 8 = 2 + (nx + 8 - hn + (k + 1)) % 8 := by omega
      rw [es]
      refine (h7 (k + 1) (by omega)).same (fun x hx => ?_) (hblk _ (by omega) (by omega) (by omega))
      have g := z2 k x (by rw [if_pos h8n]; omega) hx
      rw [if_pos h8n] at g
      exact g
  · rw [if_neg (by omega)] at hk ⊢
    by_cases ek : k = hn
    · have es : 2 + ((nx + 1) % 8 + 8 - (hn + 1) + k) % 8 = 2 + nx := by omega
      rw [es]
      refine hR.same (fun x hx => ?_) w1
      have g := z3 x hx
      rw [if_neg h8n] at g
      rw [ek]
      exact g
    · have es : 2 + ((nx + 1) % 8 + 8 - (hn + 1) + k) % 8 = 2 + (nx + 8 - hn + k) % 8 := by omega
      rw [es]
      refine (h7 k (by omega)).same (fun x hx => ?_) (hblk _ (by omega) (by omega) (by omega))
      have g := z2 k x (by rw [if_neg h8n]; omega) hx
      rw [if_neg h8n] at g
      exact g
theorem c_clr {β : Type} {f : bM → Option β} (v : bM) : (bnw (fX7_clear (vw v 7093)) fun w => nm (spl v 7093 2806 w) fun y => f y) = f (upd v 7093 0) := by
  have e : fX7_clear (vw v 7093) = some (upd (vw v 7093) 0 0) := by
    unfold fX7_clear
    rw [q_nm]
  rw [e, q_bnw, q_nm, q_splu (by omega), spl_self]
/-- the begin of every text -/
theorem p_begin {v u : bM} {tg L : Nat} (ht : tg < 12) (hL : L ≤ 700) (t2 : v 7093 = nI L) (t3 : u 0 = nI L) (t4 : ∀ i, i < L → v (7096 + i) = u (10 + i)) : ∃ (n : Nat) (v7 z : bM), n ≤ 700 ∧ (∀ p2 : Int32, fX4_read tg p2 v = (if p2 = 0 then (fX4_read_J38 v7) else (bnd (fX4_readHead v7) fun r29 w28 => (if r29 = 0 then (fX4_read_J43 0 w28) else (fX4_read_J38 w28))))) ∧ fX9_startText u = some z ∧ q_L (fun i => u (10 + i)) L n 0 v7 z ∧ v7 7089 = nI tg ∧ v7 7088 = 0 ∧ v7 7086 = z 1 ∧ v7 7087 = z 2 ∧ (∀ x, (x < 7086 ∨ 9899 ≤ x) → v7 x = v x) ∧ ∀ x, (x = 0 ∨ x = 3 ∨ x = 4 ∨ 8 < x) → z x = u x := by
  obtain ⟨v1, hv1⟩ : ∃ w, w = upd v 7089 (nI tg) := ⟨_, rfl⟩
  have v1o : ∀ x, x ≠ 7089 → v1 x = v x := fun x hx => by rw [hv1, q_un hx]
  obtain ⟨w3, n, s1, s2, s3, s4, s5⟩ := c_split (c := vw v1 7093) (L := L) (B := fun i => u (10 + i)) (by rw [q_vw, v1o _ (by decide)]; exact t2) hL (fun i hi => by rw [q_vw, v1o _ (by omega), show 7093 + (3 + i) = 7096 + i by omega]; exact t4 i hi)
  obtain ⟨v4, hv4⟩ : ∃ w, w = spl v1 7093 2806 w3 := ⟨_, rfl⟩
  have v4i : ∀ y, y < 2806 → v4 (7093 + y) = w3 y := fun y hy => by rw [hv4]; exact q_spi rfl hy
  have v4o : ∀ x, x ≠ 7089 → ¬ (7093 ≤ x ∧ x < 9899) → v4 x = v x := fun x h1 h2 => by rw [hv4, q_spo (by omega), v1o x h1]
  obtain ⟨v7, hv7⟩ : ∃ w, w = upd (upd (upd v4 7086 0) 7087 (-1)) 7088 0 := ⟨_, rfl⟩
  have v7o : ∀ x, x < 7086 ∨ 7088 < x → v7 x = v4 x := fun x hx => by rw [hv7, q_un (by omega), q_un (by omega), q_un (by omega)]
  obtain ⟨u3, hu3⟩ : ∃ w, w = upd (upd (upd u 1 0) 2 (-1)) 5 0 := ⟨_, rfl⟩
  have u3o : ∀ x, x ≠ 1 → x ≠ 2 → x ≠ 5 → u3 x = u x := fun x h1 h2 h3 => by rw [hu3, q_un h3, q_un h2, q_un h1]
  obtain ⟨z, z1, z2, z3⟩ := r_next (u := u3) (B := fun i => u (10 + i)) (L := L) (a := 0) (fun i hi => u3o _ (by omega) (by omega) (by omega)) (by rw [u3o 0 (by decide) (by decide) (by decide)]; exact t3) (by rw [hu3, pk_us]; rfl) (Nat.zero_le _) hL
  obtain ⟨g1, g2, g3, g4, g5, g6⟩ := s2
  refine ⟨n, v7, z, by omega, fun p2 => ?_, ?_, ⟨hL, ?_, fun i hi => ?_, ⟨g1, g2, ?_, ?_, ?_, fun j hj => ?_⟩, Nat.zero_le _, ?_, z2⟩, ?_, ?_, ?_, ?_, fun x hx => ?_, fun x hx => ?_⟩
  · unfold fX4_read
    rw [q_ckn ht, q_nm, ← hv1, s1, q_bnw, q_nm, ← hv4, q_nm, q_nm, q_nm, ← hv7]
  · unfold fX9_startText
    rw [q_nm, q_nm, q_nm, ← hu3, z1, q_bnw]
  · rw [z3 0 (by decide), u3o 0 (by decide) (by decide) (by decide)]; exact t3
  · rw [z3 _ (by omega), u3o _ (by omega) (by omega) (by omega)]
  · rw [q_vw, v7o _ (by omega), v4i _ (by omega)]; exact g3
  · rw [q_vw, v7o _ (by omega), v4i _ (by omega)]; exact g4
  · rw [q_vw, v7o _ (by omega), v4i _ (by omega)]; exact g5
  · obtain ⟨f1, f2, f3, f4⟩ := g6 j hj
    exact ⟨f1, by rw [q_vw, v7o _ (by omega), v4i _ (by omega)]; exact f2, by rw [q_vw, v7o _ (by omega), v4i _ (by omega)]; exact f3, fun q => by rw [q_vw, v7o _ (by omega), v4i _ (by omega)]; exact f4 q⟩
  · rw [v7o _ (by omega), v4i 2 (by omega)]; exact s4
  · rw [v7o _ (by omega), hv4, q_spo (by omega), hv1, pk_us]
  · rw [hv7, pk_us]
  · rw [hv7, q_un (by decide), q_un (by decide), pk_us, z3 1 (by decide), hu3, q_un (by decide), q_un (by decide), pk_us]
  · rw [hv7, q_un (by decide), pk_us, z3 2 (by decide), hu3, q_un (by decide), pk_us]
  · rw [v7o _ (by omega), v4o _ (by omega) (by omega)]
  · rw [z3 x (by omega), u3o _ (by omega) (by omega) (by omega)]
/-- a text that failed -/
theorem q_I.failed {T cur dr hn nx : Nat} {v u w z : bM} (h : q_I T cur dr hn nx v u) (hw : ∀ x, (x < 7086 ∨ 9902 ≤ x) → ¬ (stO dr ≤ x ∧ x < stO dr + 590) → w x = v x) (w3 : w 7093 = 0) (hz : ∀ x, (x = 4 ∨ (9 ≤ x ∧ x < 7160) ∨ 7165 ≤ x) → ¬ (1206 ≤ x ∧ x < 2198) → z x = u x) (z0 : z 0 = 0) (e1 : w 7086 = z 1) (e2 : w 7087 = z 2) : q_I T cur dr hn nx w z := by
  obtain ⟨⟨i1, i2, i3, i4, i5⟩, h2, ⟨h3, h4, h5⟩, h6, h7, h8, _, _, ⟨m, o1, o2, o3, o4⟩⟩ := h
  have b := stO_b (i := dr) (by omega)
  have hblk : ∀ i, i < 12 → i ≠ dr → ∀ x, x < 590 → vw w (stO i) x = vw v (stO i) x := fun i hi hne x hx => by
    have b1 := stO_b hi
    have := stO_ap hi (show dr < 12 by omega) hne
    exact hw _ (by omega) (by omega)
  refine ⟨⟨i1, i2, i3, i4, i5⟩, ⟨by rw [hw 0 (by omega) (by omega)]; exact h2.1, by rw [hw 1 (by omega) (by omega)]; exact h2.2⟩, ⟨by rw [hw _ (by omega) (by omega)]; exact h3, by rw [hw _ (by omega) (by omega)]; exact h4, by rw [hz 4 (by omega) (by omega)]; exact h5⟩, h6.same (fun x hx => hz _ (by omega) (by omega)) (hblk _ (by omega) (by omega)), fun k hk => (h7 k hk).same (fun x hx => hz _ (by omega) (by omega)) (hblk _ (by omega) (by omega)), fun s hs => ?_, ⟨0, by decide, w3, z0, fun i hi => absurd hi (Nat.not_lt_zero _)⟩, ⟨e1, e2⟩, ⟨m, o1, by rw [hw _ (by omega) (by omega)]; exact o2, by rw [hz 9 (by omega) (by omega)]; exact o3, fun i hi => by rw [hz (7165 + i) (by omega) (by omega), hw _ (by omega) (by omega)]; exact o4 i hi⟩⟩
  rw [hz (7158 + s) (by omega) (by omega), hw (7084 + s) (by omega) (by omega)]
  rcases h8 s hs with g | ⟨g1, g2, g3⟩
  · exact Or.inl g
  · exact Or.inr ⟨g1, g2, g3.same (fun x hx => hz _ (by omega) (by omega)) (hblk _ (by omega) (by omega))⟩
