/-! ===== layer 2: the numbers of each command ===== -/
def q_eq (i : Nat) (lo hi : Int32) (w z : bM) : Prop := w (9899 + i) = z (7160 + i) ∧ q_in (z (7160 + i)) lo hi
theorem q_pred9 : ∀ a, a < 7 → nI a - 1 ≤ 999999 := by decide +kernel
theorem q_in_ix {x : Int32} {m : Nat} (h : q_in x 0 (nI m - 1)) (hm : m ≤ 100) : ∃ j, x = nI j ∧ j < m := by
  cases m with
  | zero =>
    exfalso
    have h1 := h.1
    have h2 := h.2
    rw [Int32.lt_iff_toInt_lt, show (0 : Int32).toInt = 0 from by decide] at h1
    rw [Int32.le_iff_toInt_le, show (nI 0 - 1).toInt = -1 from by decide] at h2
    omega
  | succ m =>
    rw [nI_pred] at h
    obtain ⟨j, e, _, hj⟩ := q_in_n (lo := 0) (hi := m) h (by omega) (by decide)
    exact ⟨j, e, by omega⟩
section
variable {B : Nat → Int32} {L n k : Nat} {v u : bM}
theorem q_nu.keep {i p p9 : Nat} {lo hi l h9 : Int32} {w z w9 z9 : bM} (h : q_eq i l h9 w z) (g : q_nu p p9 lo hi w z w9 z9) (hi3 : i < 3) (hp : p < 3) (hip : i ≠ p) (hip9 : i ≠ p9) : q_eq i l h9 w9 z9 := by
  obtain ⟨_, _, g3, g4⟩ := g
  refine ⟨?_, ?_⟩
  · rw [g3 _ (by omega) (by omega), g4 _ (by omega) (by omega)]
    exact h.1
  · rw [g4 _ (by omega) (by omega)]
    exact h.2
theorem p_1 (h : q_L B L n k v u) (l0 h0 : Int32) (a0 : h0 ≤ 999999) : q_A B L n k v u (q_eq 0 l0 h0) (bnd (fX4_readNumber 0 l0 h0 v) fun r w => ck r 2 <| some (r, w)) (bnd (fX9_into 0 l0 h0 u) fun r w => ck r 2 <| some (r, w)) := ((p_n h 0 0 (by decide) (by decide) l0 h0 a0).imp (fun w z q => ⟨q.1, q.2.1⟩)).cc.cr
theorem p_2 (h : q_L B L n k v u) (l0 h0 l1 h1 : Int32) (a0 : h0 ≤ 999999) (a1 : h1 ≤ 999999) : q_A B L n k v u (fun w z => q_eq 0 l0 h0 w z ∧ q_eq 1 l1 h1 w z) (bnd (fX4_readNumber 0 l0 h0 v) fun r w => if r = 0 then some (0, w) else bnd (fX4_readNumber 1 l1 h1 w) fun r w => if r = 0 then some (0, w) else some (1, w)) (bnd (fX9_into 0 l0 h0 u) fun r w => if r = 0 then some (0, w) else bnd (fX9_into 1 l1 h1 w) fun r w => if r = 0 then some (0, w) else some (1, w)) :=
  (p_n h 0 0 (by decide) (by decide) l0 h0 a0).bind (fun k1 w1 z1 _ g1 _ _ q1 => ((p_n g1 1 1 (by decide) (by decide) l1 h1 a1).imp (fun w z q => ⟨q_nu.keep (i := 0) ⟨q1.1, q1.2.1⟩ q (by decide) (by decide) (by decide) (by decide), q.1, q.2.1⟩)).c1)
theorem p_3 (h : q_L B L n k v u) (l0 h0 l1 h1 l2 h2 : Int32) (a0 : h0 ≤ 999999) (a1 : h1 ≤ 999999) (a2 : h2 ≤ 999999) : q_A B L n k v u (fun w z => q_eq 0 l0 h0 w z ∧ q_eq 1 l1 h1 w z ∧ q_eq 2 l2 h2 w z) (bnd (fX4_readNumber 0 l0 h0 v) fun r w => if r = 0 then some (0, w) else bnd (fX4_readNumber 1 l1 h1 w) fun r w => if r = 0 then some (0, w) else bnd (fX4_readNumber 2 l2 h2 w) fun r w => if r = 0 then some (0, w) else some (1, w)) (bnd (fX9_into 0 l0 h0 u) fun r w => if r = 0 then some (0, w) else bnd (fX9_into 1 l1 h1 w) fun r w => if r = 0 then some (0, w) else bnd (fX9_into 2 l2 h2 w) fun r w => if r = 0 then some (0, w) else some (1, w)) :=
  (p_n h 0 0 (by decide) (by decide) l0 h0 a0).bind (fun k1 w1 z1 _ g1 _ _ q1 => (p_n g1 1 1 (by decide) (by decide) l1 h1 a1).bind (fun k2 w2 z2 _ g2 _ _ q2 => ((p_n g2 2 2 (by decide) (by decide) l2 h2 a2).imp (fun w z q => ⟨q_nu.keep (i := 0) (q_nu.keep (i := 0) ⟨q1.1, q1.2.1⟩ q2 (by decide) (by decide) (by decide) (by decide)) q (by decide) (by decide) (by decide) (by decide), q_nu.keep (i := 1) ⟨q2.1, q2.2.1⟩ q (by decide) (by decide) (by decide) (by decide), q.1, q.2.1⟩)).c1))
end
section
variable {T nf nb nt no tg : Nat} {Ls : Nat → List (Nat × Nat)} {B : Nat → Int32} {L n k : Nat} {v u w z : bM}
theorem q_S.rd (h : q_S T nf nb nt no Ls (vw u 710) (vw v (stO tg))) (ht : tg < 12) (hv : q_fv v w) (hu : q_fu u z) : q_S T nf nb nt no Ls (vw z 710) (vw w (stO tg)) := by
  have b := stO_b ht
  exact h.same (fun x hx => hu _ (by omega)) (fun x hx => hv _ (by omega))
theorem p_pre (ht : tg < 12) (ct : v 7089 = nI tg) (hS : q_S T nf nb nt no Ls (vw u 710) (vw v (stO tg))) (c : Int32) : fX4_readNumbers c v = (if c = 6 then (bnd (fX4_readNumber 0 1 99 v) fun r10 w9 => ck r10 2 <| some (r10, w9)) else (if c = 7 then (bnd (fX4_readNumber 0 1 999 v) fun r15 w14 => (if r15 = 0 then (some (0, w14)) else (bnd (fX4_readNumber 1 1 9 w14) fun r19 w18 => (if r19 = 0 then (some (0, w18)) else (ck (w18 7089) 12 <| nm (w18 7089).toNatClampNeg fun i22 => bnr (fX2_highestRecipe (vw w18 (stO i22 + 6))) fun r24 => bnd (fX4_readNumber 2 1 r24 w18) fun r27 w26 => (if r27 = 0 then (some (0, w26)) else (some (1, w26)))))))) else (if c = 8 then (bnd (fX4_readNumber 0 0 (nI nf - 1) v) fun r32 w31 => (if r32 = 0 then (some (0, w31)) else (bnd (fX4_readNumber 1 1 99 w31) fun r36 w35 => (if r36 = 0 then (some (0, w35)) else (bnd (fX4_readNumber 2 1 99 w35) fun r40 w39 => (if r40 = 0 then (some (0, w39)) else (some (1, w39)))))))) else (if c = 9 then (bnd (fX4_readNumber 0 0 23 v) fun r45 w44 => (if r45 = 0 then (some (0, w44)) else (bnd (fX4_readNumber 1 0 20 w44) fun r49 w48 => (if r49 = 0 then (some (0, w48)) else (some (1, w48)))))) else (if c = 10 then (bnd (fX4_readNumber 0 0 (nI nb - 1) v) fun r54 w53 => (if r54 = 0 then (some (0, w53)) else (bnd (fX4_readNumber 1 1 20 w53) fun r58 w57 => (if r58 = 0 then (some (0, w57)) else (some (1, w57)))))) else (if c = 11 then (bnd (fX4_readNumber 0 0 (nI nb - 1) v) fun r63 w62 => (if r63 = 0 then (some (0, w62)) else (bnd (fX4_readNumber 1 1 99 w62) fun r67 w66 => (if r67 = 0 then (some (0, w66)) else (bnd (fX4_readNumber 2 1 999 w66) fun r71 w70 => (if r71 = 0 then (some (0, w70)) else (some (1, w70)))))))) else (bnd (fX4_readNumber 0 1 999 v) fun r75 w74 => ck r75 2 <| some (r75, w74)))))))) := by
  have e1 : v (stO tg + 6) = nI nf := hS.cnf
  have e2 : v (stO tg + 175) = nI nb := hS.cnb
  unfold fX4_readNumbers
  rw [ct, q_ck ht (by decide), nI_clamp (by omega), q_nm, e1, q_nm, q_ck ht (by decide), q_nm, e2, q_nm]
theorem p_a6 (h : q_L B L n k v u) (ht : tg < 12) (ct : v 7089 = nI tg) (hS : q_S T nf nb nt no Ls (vw u 710) (vw v (stO tg))) : q_A B L n k v u (q_eq 0 1 99) (fX4_readNumbers 6 v) (fX9_argumentsText 0 u) := by
  rw [p_pre ht ct hS]
  unfold fX9_argumentsText
  rw [if_pos rfl, if_pos rfl]
  exact p_1 h 1 99 (by decide)
theorem p_a12 (h : q_L B L n k v u) (ht : tg < 12) (ct : v 7089 = nI tg) (hS : q_S T nf nb nt no Ls (vw u 710) (vw v (stO tg))) : q_A B L n k v u (q_eq 0 1 999) (fX4_readNumbers 12 v) (fX9_argumentsText 6 u) := by
  rw [p_pre ht ct hS]
  unfold fX9_argumentsText
  rw [if_neg (by decide), if_neg (by decide), if_neg (by decide), if_neg (by decide), if_neg (by decide), if_neg (by decide), if_neg (by decide), if_neg (by decide), if_neg (by decide), if_neg (by decide), if_neg (by decide), if_neg (by decide)]
  exact p_1 h 1 999 (by decide)
theorem p_a8 (h : q_L B L n k v u) (ht : tg < 12) (ct : v 7089 = nI tg) (hS : q_S T nf nb nt no Ls (vw u 710) (vw v (stO tg))) : q_A B L n k v u (fun w z => q_eq 0 0 (nI nf - 1) w z ∧ q_eq 1 1 99 w z ∧ q_eq 2 1 99 w z) (fX4_readNumbers 8 v) (fX9_argumentsText 2 u) := by
  have en : u (710 + (5 : Int32).toNatClampNeg) = nI nf := hS.rnf
  rw [p_pre ht ct hS]
  unfold fX9_argumentsText
  rw [en, if_neg (by decide), if_neg (by decide), if_pos rfl, if_neg (by decide), if_neg (by decide), if_pos rfl]
  exact p_3 h 0 (nI nf - 1) 1 99 1 99 (q_pred9 nf (by have := hS.hnf; omega)) (by decide) (by decide)
theorem p_a9 (h : q_L B L n k v u) (ht : tg < 12) (ct : v 7089 = nI tg) (hS : q_S T nf nb nt no Ls (vw u 710) (vw v (stO tg))) : q_A B L n k v u (fun w z => q_eq 0 0 23 w z ∧ q_eq 1 0 20 w z) (fX4_readNumbers 9 v) (fX9_argumentsText 3 u) := by
  rw [p_pre ht ct hS]
  unfold fX9_argumentsText
  rw [if_neg (by decide), if_neg (by decide), if_neg (by decide), if_pos rfl, if_neg (by decide), if_neg (by decide), if_neg (by decide), if_pos rfl]
  exact p_2 h 0 23 0 20 (by decide) (by decide)
theorem p_a11 (h : q_L B L n k v u) (ht : tg < 12) (ct : v 7089 = nI tg) (hS : q_S T nf nb nt no Ls (vw u 710) (vw v (stO tg))) : q_A B L n k v u (fun w z => q_eq 0 0 (nI nb - 1) w z ∧ q_eq 1 1 99 w z ∧ q_eq 2 1 999 w z) (fX4_readNumbers 11 v) (fX9_argumentsText 5 u) := by
  have en : u (710 + (6 : Int32).toNatClampNeg) = nI nb := hS.rnb
  have key := p_3 h 0 (nI nb - 1) 1 99 1 999 (q_pred9 nb (by have := hS.hnb; omega)) (by decide) (by decide)
  have eb : ∀ f : Int32 → bM → Option (Int32 × bM), (bnd (fX9_breadInto u) fun r w => f r w) = bnd (fX9_into 0 0 (nI nb - 1) u) fun r w => f r w := fun f => by
    unfold fX9_breadInto
    rw [en]
    have h1 := p_n h 0 0 (by decide) (by decide) 0 (nI nb - 1) (q_pred9 nb (by have := hS.hnb; omega))
    have h1 : q_A B L n k v u _ (fX4_readNumber 0 0 (nI nb - 1) v) (fX9_into 0 0 (nI nb - 1) u) := h1
    rcases h1 with ⟨_, w, z, _, h2, _⟩ | ⟨w, z, _, h2, _⟩
    · rw [h2]; rfl
    · rw [h2]; rfl
  rw [p_pre ht ct hS]
  unfold fX9_argumentsText
  rw [if_neg (by decide), if_neg (by decide), if_neg (by decide), if_neg (by decide), if_neg (by decide), if_pos rfl, if_neg (by decide), if_neg (by decide), if_neg (by decide), if_neg (by decide), if_neg (by decide), if_pos rfl, eb]
  exact key
theorem p_a7 (h : q_L B L n k v u) (ht : tg < 12) (ct : v 7089 = nI tg) (hS : q_S T nf nb nt no Ls (vw u 710) (vw v (stO tg))) : q_A B L n k v u (fun w z => q_eq 0 1 999 w z ∧ q_eq 1 1 9 w z ∧ q_eq 2 1 (nI (10 ^ nf - 1)) w z) (fX4_readNumbers 7 v) (fX9_argumentsText 1 u) := by
  rw [p_pre ht ct hS]
  unfold fX9_argumentsText
  rw [if_neg (by decide), if_pos rfl, if_neg (by decide), if_pos rfl]
  exact (p_n h 0 0 (by decide) (by decide) 1 999 (by decide)).bind (fun k1 w1 z1 _ g1 hv1 hu1 q1 => (p_n g1 1 1 (by decide) (by decide) 1 9 (by decide)).bind (fun k2 w2 z2 _ g2 hv2 hu2 q2 => by
    have hS2 := hS.rd ht (hv1.trans hv2).fv (hu1.trans hu2).fu
    have ct2 : w2 7089 = nI tg := ((hv1.trans hv2) 7089 (by omega)).trans ct
    have eh : fX2_highestRecipe (vw w2 (stO tg + 6)) = some (nI (10 ^ nf - 1)) := by rw [q_vv]; exact c_highest hS2
    rw [ct2, q_ck ht (by decide), nI_clamp (by omega), q_nm, eh, q_bnr]
    exact ((p_recipe g2 hS2).imp (fun w z q => ⟨q_nu.keep (i := 0) (q_nu.keep (i := 0) ⟨q1.1, q1.2.1⟩ q2 (by decide) (by decide) (by decide) (by decide)) q (by decide) (by decide) (by decide) (by decide), q_nu.keep (i := 1) ⟨q2.1, q2.2.1⟩ q (by decide) (by decide) (by decide) (by decide), q.1, q.2.1⟩)).c1))
/-! the extras of a batch -/
/-- class and reference agree on a batch's numbers -/
def q_ex (b l : Nat) (w z : bM) : Prop := w 9899 = nI b ∧ z 7160 = nI b ∧ w 9900 = nI l ∧ z 7161 = nI l ∧ (∃ bn, bn ≤ l ∧ w 7090 = nI bn ∧ z 7162 = nI bn) ∧ (w 7091 = z 7163 ∧ q_bd 9 (z 7163)) ∧ (w 7092 = z 7164 ∧ q_bd 9 (z 7164))
theorem q_bd_neg {x : Int32} (h : q_bd 9 x) : q_bd 9 (-x) := by
  unfold q_bd at *
  rw [Int32.toInt_neg, Int.bmod_eq_of_le (by omega) (by omega)]
  omega
theorem q_bd_in {x : Int32} (h : q_in x 0 9) : q_bd 9 x := by
  obtain ⟨j, e, _, hj⟩ := q_in_n (lo := 0) (hi := 9) h (by decide) (by decide)
  rw [e]
  exact q_bd_n hj (by omega)
/-- one extra: the word has been read -/
theorem x_one {b l : Nat} (hl : l ≤ 20) (h : q_L B L n k v u) (hx : q_ex b l v u) {e : Nat} (he : e < 5) : q_A B L n k v u (q_ex b l) (bnd (fX4_readNumber 2 0 (if e = 0 then nI l else 9) v) fun r w => bnw (fX4_takeExtra (nI (13 + e)) (w 9901) w) fun w => some (r, w)) (fX9_extraText_J117 (if e = 0 then 2 else if e ≤ 2 then 3 else 4) (if e = 2 ∨ e = 4 then 1 else 0) (if e = 0 then nI l else 9) u) := by
  obtain ⟨x1, x2, x3, x4, ⟨bn, x5, x6, x7⟩, ⟨x8, x9⟩, ⟨x10, x11⟩⟩ := hx
  have hhi : (if e = 0 then nI l else 9) ≤ 999999 := by
    by_cases e0 : e = 0
    · rw [if_pos e0]; exact nI_le (b := 999999) (by omega) (by decide)
    · rw [if_neg e0]; decide
  have hpl : ∃ q : Nat, q < 5 ∧ 2 ≤ q ∧ (if e = 0 then (2 : Int32) else if e ≤ 2 then 3 else 4) = nI q ∧ (q = if e = 0 then 2 else if e ≤ 2 then 3 else 4) := by
    by_cases e0 : e = 0
    · exact ⟨2, by decide, by decide, by rw [if_pos e0]; rfl, by rw [if_pos e0]⟩
    · by_cases e1 : e ≤ 2
      · exact ⟨3, by decide, by decide, by rw [if_neg e0, if_pos e1]; rfl, by rw [if_neg e0, if_pos e1]⟩
      · exact ⟨4, by decide, by decide, by rw [if_neg e0, if_neg e1]; rfl, by rw [if_neg e0, if_neg e1]⟩
  obtain ⟨q, hq5, hq2, eq, eqq⟩ := hpl
  rw [eq]
  have key : q_A B L n k v u (q_nu 2 q 0 (if e = 0 then nI l else 9) v u) (fX4_readNumber 2 0 (if e = 0 then nI l else 9) v) (fX9_into (nI q) 0 (if e = 0 then nI l else 9) u) := p_n h 2 q (by decide) hq5 0 _ hhi
  have tk : ∀ (x : Int32) (w : bM), fX4_takeExtra (nI (13 + e)) x w = some (upd w (7090 + (q - 2)) (if e = 2 ∨ e = 4 then -x else x)) := fun x w => by
    unfold fX4_takeExtra
    match e, he with
    | 0, _ => subst eqq; rfl
    | 1, _ => subst eqq; rfl
    | 2, _ => subst eqq; rfl
    | 3, _ => subst eqq; rfl
    | 4, _ => subst eqq; rfl
    | e + 5, he => exact absurd he (by omega)
  unfold fX9_extraText_J117 fX9_extraText_J150
  rcases key with ⟨k9, w, z, h1, h2, h3, h4, h5, h6, ⟨n1, n2, n3, n4⟩⟩ | ⟨w, z, h1, h2, h3⟩
  · rw [h1, h2, q_bnd, q_bnd, if_neg (by decide), tk, q_bnw]
    have n1 : w 9901 = z (7160 + q) := n1
    have ez : (if (if e = 2 ∨ e = 4 then (1 : Int32) else 0) = 0 then (ck (nI q) 5 <| ck (nI q) 5 <| nm (upd z (7160 + (nI q).toNatClampNeg) (z (7160 + (nI q).toNatClampNeg))) fun v25 => some (1, v25)) else (ck (nI q) 5 <| ck (nI q) 5 <| nm (upd z (7160 + (nI q).toNatClampNeg) (-(z (7160 + (nI q).toNatClampNeg)))) fun v25 => some (1, v25))) = some ((1 : Int32), upd z (7160 + q) (if e = 2 ∨ e = 4 then -(z (7160 + q)) else z (7160 + q))) := by
      rw [q_ck hq5 (by decide), q_ck hq5 (by decide), q_ck hq5 (by decide), q_ck hq5 (by decide), nI_clamp (by omega), q_nm, q_nm]
      by_cases e2 : e = 2 ∨ e = 4
      · rw [if_pos e2, if_pos e2, if_neg (by decide)]
      · rw [if_neg e2, if_neg e2, if_pos rfl]
    rw [ez, n1]
    generalize hX : (if e = 2 ∨ e = 4 then -(z (7160 + q)) else z (7160 + q)) = X
    refine Or.inl ⟨k9, upd w (7090 + (q - 2)) X, upd z (7160 + q) X, rfl, rfl, h3, h4.fr (fun y hy => q_un (by omega)) (q_un (by omega)) (fun y hy => q_un (by omega)), fun y hy => (q_un (by omega)).trans (h5 y hy), fun y hy => (q_un (by omega)).trans (h6 y hy), ?_⟩
    have kw : ∀ y, y ≠ 9901 → y ≠ 7095 → y ≠ 7090 + (q - 2) → upd w (7090 + (q - 2)) X y = v y := fun y a1 a2 a3 => by rw [q_un a3]; exact n3 y a1 a2
    have kz : ∀ y, y ≠ 7160 + q → (y < 5 ∨ 8 < y) → upd z (7160 + q) X y = u y := fun y a1 a2 => by rw [q_un a1]; exact n4 y a1 a2
    have hwX : upd w (7090 + (q - 2)) X (7090 + (q - 2)) = X := pk_us
    have hzX : upd z (7160 + q) X (7160 + q) = X := pk_us
    refine ⟨by rw [kw _ (by omega) (by omega) (by omega)]; exact x1, by rw [kz _ (by omega) (by omega)]; exact x2, by rw [kw _ (by omega) (by omega) (by omega)]; exact x3, by rw [kz _ (by omega) (by omega)]; exact x4, ?_, ?_, ?_⟩
    · by_cases e0 : e = 0
      · rw [if_pos e0] at eqq
        subst eqq
        rw [if_pos e0] at n2
        rw [if_neg (by omega)] at hX
        obtain ⟨bn, eb, _, hb⟩ := q_in_n (lo := 0) (hi := l) n2 (by omega) (by decide)
        exact ⟨bn, hb, hwX.trans (hX.symm.trans eb), hzX.trans (hX.symm.trans eb)⟩
      · rw [if_neg e0] at eqq
        refine ⟨bn, x5, ?_, ?_⟩
        · rw [kw _ (by omega) (by omega) (by split at eqq <;> omega)]
          exact x6
        · rw [kz _ (by split at eqq <;> omega) (by omega)]
          exact x7
    · by_cases e0 : q = 3
      · subst e0
        have hin : q_in (z (7160 + 3)) 0 9 := by
          have : ¬ e = 0 := fun h0 => by rw [if_pos h0] at eqq; omega
          rw [if_neg this] at n2
          exact n2
        refine ⟨hwX.trans hzX.symm, ?_⟩
        rw [show 7163 = 7160 + 3 from rfl, hzX, ← hX]
        split
        · exact q_bd_neg (q_bd_in hin)
        · exact q_bd_in hin
      · rw [kw _ (by omega) (by omega) (by omega), kz _ (by omega) (by omega)]
        exact ⟨x8, x9⟩
    · by_cases e0 : q = 4
      · subst e0
        have hin : q_in (z (7160 + 4)) 0 9 := by
          have : ¬ e = 0 := fun h0 => by rw [if_pos h0] at eqq; omega
          rw [if_neg this] at n2
          exact n2
        refine ⟨hwX.trans hzX.symm, ?_⟩
        rw [show 7164 = 7160 + 4 from rfl, hzX, ← hX]
        split
        · exact q_bd_neg (q_bd_in hin)
        · exact q_bd_in hin
      · rw [kw _ (by omega) (by omega) (by omega), kz _ (by omega) (by omega)]
        exact ⟨x10, x11⟩
  · rw [h1, h2, q_bnd, q_bnd, if_pos rfl, tk, q_bnw]
    refine Or.inr ⟨_, z, rfl, rfl, ?_⟩
    obtain ⟨f1, f2, f3, f4⟩ := h3
    exact ⟨fun y hy => (q_un (by omega)).trans (f1 y hy), f2, (q_un (by omega)).trans f3, (q_un (by omega)).trans f4⟩
end
