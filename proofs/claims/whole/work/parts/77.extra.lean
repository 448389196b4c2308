/-! ===== layer 2: all extras of a batch ===== -/
theorem q_bb {X : Option (Int32 × bM)} {T9 : bM → Option bM} {r0 : Int32} {w0 : bM} {β : Type} {f : Int32 → bM → Option β} (h : (bnd X fun r w => bnw (T9 w) fun w => some (r, w)) = some (r0, w0)) : (bnd X fun r w => bnw (T9 w) fun w => f r w) = f r0 w0 := by
  cases X with
  | none => cases h
  | some x =>
    obtain ⟨r, w⟩ := x
    rw [q_bnd] at h ⊢
    cases e : T9 w with
    | none => rw [e] at h; cases h
    | some y =>
      rw [e, q_bnw] at h
      rw [q_bnw]
      cases h
      rfl
section
variable {B : Nat → Int32} {L n k : Nat} {v u : bM}
theorem q_kd_lt (h : 4 ≤ q_kd B L n k) : k < n := by
  refine Classical.byContradiction fun q => ?_
  unfold q_kd at h
  rw [if_neg q] at h
  omega
theorem q_kd1_lt (h : q_kd B L n k = 1) : k < n := by
  refine Classical.byContradiction fun q => ?_
  unfold q_kd at h
  rw [if_neg q] at h
  omega
theorem r_extraY (h : q_L B L n k v u) {e : Nat} (he : e < 5) (hk : q_kd B L n k = 13 + e) : fX9_extraText u = (bnw (fX9_next u) fun w15 => fX9_extraText_J117 (if e = 0 then 2 else if e ≤ 2 then 3 else 4) (if e = 2 ∨ e = 4 then 1 else 0) (if e = 0 then w15 7161 else 9) w15) := by
  have e35 : fX9_isWord 35 u = some (if q_kd B L n k = 13 then 1 else 0) := p_isWord h (j := 9) (by decide)
  have e36 : fX9_isWord 36 u = some (if q_kd B L n k = 14 then 1 else 0) := p_isWord h (j := 10) (by decide)
  have e37 : fX9_isWord 37 u = some (if q_kd B L n k = 15 then 1 else 0) := p_isWord h (j := 11) (by decide)
  have e38 : fX9_isWord 38 u = some (if q_kd B L n k = 16 then 1 else 0) := p_isWord h (j := 12) (by decide)
  have e39 : fX9_isWord 39 u = some (if q_kd B L n k = 17 then 1 else 0) := p_isWord h (j := 13) (by decide)
  rw [hk] at e35 e36 e37 e38 e39
  unfold fX9_extraText fX9_extraText_J31 fX9_extraText_J53 fX9_extraText_J58 fX9_extraText_J77 fX9_extraText_J82
  rw [e35, e36, e37, e38, e39]
  simp only [q_bnr]
  match e, he with
  | 0, _ => rfl
  | 1, _ => rfl
  | 2, _ => rfl
  | 3, _ => rfl
  | 4, _ => rfl
  | e + 5, he => exact absurd he (by omega)
theorem r_extraN (h : q_L B L n k v u) (hk : ¬ (13 ≤ q_kd B L n k)) : fX9_extraText u = bnd (fX9_wrong 1 u) fun r w => ck r 2 <| some (r, w) := by
  have e35 : fX9_isWord 35 u = some (if q_kd B L n k = 13 then 1 else 0) := p_isWord h (j := 9) (by decide)
  have e36 : fX9_isWord 36 u = some (if q_kd B L n k = 14 then 1 else 0) := p_isWord h (j := 10) (by decide)
  have e37 : fX9_isWord 37 u = some (if q_kd B L n k = 15 then 1 else 0) := p_isWord h (j := 11) (by decide)
  have e38 : fX9_isWord 38 u = some (if q_kd B L n k = 16 then 1 else 0) := p_isWord h (j := 12) (by decide)
  have e39 : fX9_isWord 39 u = some (if q_kd B L n k = 17 then 1 else 0) := p_isWord h (j := 13) (by decide)
  rw [if_neg (by omega)] at e35 e36 e37 e38 e39
  unfold fX9_extraText fX9_extraText_J31 fX9_extraText_J53 fX9_extraText_J58 fX9_extraText_J77 fX9_extraText_J82
  rw [e35, e36, e37, e38, e39]
  simp only [q_bnr]
  rfl
/-- what the loops over the extras come to -/
def q_X (B : Nat → Int32) (L n k b l : Nat) (v u : bM) (rc rr : Option (Int32 × bM)) : Prop := (∃ k9 w z, rc = some (1, w) ∧ rr = some (1, z) ∧ k ≤ k9 ∧ q_L B L n k9 w z ∧ q_kd B L n k9 = 1 ∧ q_sv v w ∧ q_su u z ∧ q_ex b l w z) ∨ (∃ k9 w z0 z, rc = some (1, w) ∧ q_L B L n k9 w z0 ∧ q_kd B L n k9 ≠ 1 ∧ fX9_wrong 1 z0 = some (0, z) ∧ rr = some (0, z) ∧ q_sv v w ∧ q_su u z0) ∨ (∃ w z, rc = some (0, w) ∧ rr = some (0, z) ∧ q_F v u w z)
theorem x_loop {b l : Nat} (hl : l ≤ 20) : ∀ (m k y N1 N2 : Nat) (v u : bM), n - k ≤ m → y + (n - k) ≤ 700 → q_L B L n k v u → q_ex b l v u → m + 1 < N1 → m < N2 → q_X B L n k b l v u (lp (fX4_readExtras_L19 (nI l)) (fun _ _ _ => none) N1 1 (nI y) v) (lp fX9_bakeText_L41 (fun _ => none) N2 u) := by
  intro m
  induction m with
  | zero =>
    intro k y N1 N2 v u hm hy h hx hN1 hN2
    obtain ⟨N1, rfl⟩ : ∃ N, N1 = N + 1 := ⟨N1 - 1, by omega⟩
    obtain ⟨N2, rfl⟩ : ∃ N, N2 = N + 1 := ⟨N2 - 1, by omega⟩
    have hkn := h.2.2.2.2.1
    have hk0 : q_kd B L n k = 0 := by unfold q_kd; rw [if_neg (by omega)]
    obtain ⟨w, z, w1, z1, hF⟩ := p_fail h 1
    have et := p_tok h
    have t3 := (q_kt B L n k).2.2.1.mp hk0
    refine Or.inr (Or.inl ⟨k, v, u, z, ?_, h, by omega, z1, ?_, fun _ _ => rfl, fun _ _ => rfl⟩)
    · show fX4_readExtras_L19 (nI l) _ 1 (nI y) v = _
      rw [fX4_readExtras_L19.eq_1]
      by_cases h7 : 700 ≤ y
      · rw [if_pos (show (700 : Int32) ≤ nI y from nI_le (a := 700) h7 (by omega)), q_l1, q_ck (by decide) (by decide)]
      · rw [if_neg (show ¬ (700 : Int32) ≤ nI y from nI_ge (b := 700) (by omega) (by decide)), if_neg (by decide), p_kind h, hk0, q_bnr, show fX4_isExtra (nI 0) = some 0 from rfl, q_bnr, if_pos rfl, q_l1, q_ck (by decide) (by decide)]
    · show fX9_bakeText_L41 _ u = _
      rw [fX9_bakeText_L41.eq_1]
      rw [et, t3, if_neg (by decide), r_extraN h (by omega), z1, q_bnd, q_l0, q_ck (by decide) (by decide), q_bnd, if_pos rfl]
  | succ m ih =>
    intro k y N1 N2 v u hm hy h hx hN1 hN2
    obtain ⟨N1, rfl⟩ : ∃ N, N1 = N + 1 := ⟨N1 - 1, by omega⟩
    obtain ⟨N2, rfl⟩ : ∃ N, N2 = N + 1 := ⟨N2 - 1, by omega⟩
    have hkn := h.2.2.2.2.1
    have ek := p_kind h
    have et := p_tok h
    obtain ⟨t1, t2, t3, t4, t5, t6⟩ := q_kt B L n k
    show q_X B L n k b l v u (fX4_readExtras_L19 (nI l) (lp (fX4_readExtras_L19 (nI l)) (fun _ _ _ => none) N1) 1 (nI y) v) (fX9_bakeText_L41 (lp fX9_bakeText_L41 (fun _ => none) N2) u)
    by_cases hk13 : 13 ≤ q_kd B L n k
    · obtain ⟨e, he, hke⟩ : ∃ e, e < 5 ∧ q_kd B L n k = 13 + e := ⟨q_kd B L n k - 13, by omega, by omega⟩
      have hk : k < n := q_kd_lt (B := B) (L := L) (by omega)
      obtain ⟨z, z1, z2, z3⟩ := p_next h hk
      have hx2 : q_ex b l (upd v 7095 (nI (k + 1))) z := by
        obtain ⟨x1, x2, x3, x4, ⟨bn, x5, x6, x7⟩, ⟨x8, x9⟩, ⟨x10, x11⟩⟩ := hx
        refine ⟨by rw [q_un (by decide)]; exact x1, by rw [z3 _ (by omega)]; exact x2, by rw [q_un (by decide)]; exact x3, by rw [z3 _ (by omega)]; exact x4, ⟨bn, x5, by rw [q_un (by decide)]; exact x6, by rw [z3 _ (by omega)]; exact x7⟩, ⟨?_, ?_⟩, ⟨?_, ?_⟩⟩
        · rw [q_un (by decide), z3 _ (by omega)]; exact x8
        · rw [z3 _ (by omega)]; exact x9
        · rw [q_un (by decide), z3 _ (by omega)]; exact x10
        · rw [z3 _ (by omega)]; exact x11
      have one := x_one hl z2 hx2 he
      have ehi : fX4_highestExtra (nI (13 + e)) (nI l) = some (if e = 0 then nI l else 9) := by
        match e, he with
        | 0, _ => rfl
        | 1, _ => rfl
        | 2, _ => rfl
        | 3, _ => rfl
        | 4, _ => rfl
        | e + 5, he => exact absurd he (by omega)
      have eis : fX4_isExtra (nI (13 + e)) = some 1 := by
        match e, he with
        | 0, _ => rfl
        | 1, _ => rfl
        | 2, _ => rfl
        | 3, _ => rfl
        | 4, _ => rfl
        | e + 5, he => exact absurd he (by omega)
      have hz7161 : z 7161 = nI l := hx2.2.2.2.1
      have cl : fX4_readExtras_L19 (nI l) (lp (fX4_readExtras_L19 (nI l)) (fun _ _ _ => none) N1) 1 (nI y) v = (bnd (fX4_readNumber 2 0 (if e = 0 then nI l else 9) (upd v 7095 (nI (k + 1)))) fun r26 w25 => bnw (fX4_takeExtra (nI (13 + e)) (w25 9901) w25) fun w28 => (lp (fX4_readExtras_L19 (nI l)) (fun _ _ _ => none) N1) r26 (nI (y + 1)) w28) := by
        rw [fX4_readExtras_L19.eq_1]
        rw [if_neg (show ¬ (700 : Int32) ≤ nI y from nI_ge (b := 700) (by omega) (by decide)), if_neg (by decide), ek, hke, q_bnr, eis, q_bnr, if_neg (by decide), q_bnr, c_adv h hk, ehi, q_bnr]
        simp only [q_nm, q_add1]
        rfl
      have rl : fX9_bakeText_L41 (lp fX9_bakeText_L41 (fun _ => none) N2) u = (bnd (fX9_extraText_J117 (if e = 0 then 2 else if e ≤ 2 then 3 else 4) (if e = 2 ∨ e = 4 then 1 else 0) (if e = 0 then nI l else 9) z) fun r16 w15 => (if r16 = 0 then (some (0, w15)) else (lp fX9_bakeText_L41 (fun _ => none) N2 w15))) := by
        rw [fX9_bakeText_L41.eq_1]
        rw [et, if_neg (show ¬ nI (q_tt B L n k) = 2 from fun q => by have := (nI_eq (b := 2) (by omega) (by decide)).mp q; have := t1.mpr this; omega), r_extraY h he hke, z1, q_bnw, hz7161]
      rw [cl, rl]
      have sv0 : q_sv v (upd v 7095 (nI (k + 1))) := fun x hx => q_un (by omega)
      have su0 : q_su u z := fun x hx => z3 x (by omega)
      rcases one with ⟨k9, w9, z9, a1, a2, a3, a4, a5, a6, a7⟩ | ⟨w9, z9, a1, a2, a3⟩
      · rw [q_bb a1, a2, q_bnd, if_neg (by decide)]
        have sv1 := sv0.trans a5
        have su1 := su0.trans a6
        rcases ih k9 (y + 1) N1 N2 w9 z9 (by omega) (by omega) a4 a7 (by omega) (by omega) with ⟨k8, w8, z8, c1, c2, c3, c4, c5, c6, c7, c8⟩ | ⟨k8, w8, z0, z8, c1, c2, c3, c4, c5, c6, c7⟩ | ⟨w8, z8, c1, c2, c3⟩
        · exact Or.inl ⟨k8, w8, z8, c1, c2, by omega, c4, c5, sv1.trans c6, su1.trans c7, c8⟩
        · exact Or.inr (Or.inl ⟨k8, w8, z0, z8, c1, c2, c3, c4, c5, sv1.trans c6, su1.trans c7⟩)
        · exact Or.inr (Or.inr ⟨w8, z8, c1, c2, c3.pre sv1.fv su1.fu⟩)
      · rw [q_bb a1, a2, q_bnd, if_pos rfl]
        refine Or.inr (Or.inr ⟨w9, z9, ?_, rfl, a3.pre sv0.fv su0.fu⟩)
        obtain ⟨N1, rfl⟩ : ∃ N, N1 = N + 1 := ⟨N1 - 1, by omega⟩
        show fX4_readExtras_L19 (nI l) _ 0 (nI (y + 1)) w9 = _
        rw [fX4_readExtras_L19.eq_1]
        rw [if_pos rfl, q_l0, q_ck (by decide) (by decide)]
        split <;> rfl
    · have cl : fX4_readExtras_L19 (nI l) (lp (fX4_readExtras_L19 (nI l)) (fun _ _ _ => none) N1) 1 (nI y) v = some (1, v) := by
        have eis : fX4_isExtra (nI (q_kd B L n k)) = some 0 := by
          unfold fX4_isExtra
          rw [if_pos (show nI (q_kd B L n k) < 13 from nI_lt (b := 13) (by omega) (by decide))]
        rw [fX4_readExtras_L19.eq_1]
        by_cases h7 : 700 ≤ y
        · rw [if_pos (show (700 : Int32) ≤ nI y from nI_le (a := 700) h7 (by omega)), q_l1, q_ck (by decide) (by decide)]
        · rw [if_neg (show ¬ (700 : Int32) ≤ nI y from nI_ge (b := 700) (by omega) (by decide)), if_neg (by decide), ek, q_bnr, eis, q_bnr, if_pos rfl, q_l1, q_ck (by decide) (by decide)]
      rw [cl]
      by_cases h1 : q_kd B L n k = 1
      · refine Or.inl ⟨k, v, u, rfl, ?_, Nat.le_refl _, h, h1, fun _ _ => rfl, fun _ _ => rfl, hx⟩
        rw [fX9_bakeText_L41.eq_1]
        rw [et, t1.mp h1, if_pos (show nI 2 = 2 from rfl)]
      · obtain ⟨w, z, w1, z1, hF⟩ := p_fail h 1
        refine Or.inr (Or.inl ⟨k, v, u, z, rfl, h, h1, z1, ?_, fun _ _ => rfl, fun _ _ => rfl⟩)
        rw [fX9_bakeText_L41.eq_1]
        rw [et, if_neg (show ¬ nI (q_tt B L n k) = 2 from fun q => h1 (t1.mpr ((nI_eq (b := 2) (by omega) (by decide)).mp q))), r_extraN h hk13, z1, q_bnd, q_l0, q_ck (by decide) (by decide), q_bnd, if_pos rfl]
end
section
variable {T nf nb nt no tg : Nat} {Ls : Nat → List (Nat × Nat)} {B : Nat → Int32} {L n k : Nat} {v u w z : bM}
/-- bake: its two numbers and its extras -/
theorem p_a10 (h : q_L B L n k v u) (ht : tg < 12) (ct : v 7089 = nI tg) (hS : q_S T nf nb nt no Ls (vw u 710) (vw v (stO tg))) : (∃ b l, b < nb ∧ 1 ≤ l ∧ l ≤ 20 ∧ q_X B L n k b l v u (bnd (fX4_readNumbers 10 v) fun r w => if r = 0 then some (0, w) else fX4_readExtras (w 9900) w) (fX9_argumentsText 4 u)) ∨ (∃ w z, (bnd (fX4_readNumbers 10 v) fun r w => if r = 0 then some (0, w) else fX4_readExtras (w 9900) w) = some (0, w) ∧ fX9_argumentsText 4 u = some (0, z) ∧ q_F v u w z) := by
  have en : u (710 + (6 : Int32).toNatClampNeg) = nI nb := hS.rnb
  have hnb := hS.hnb
  have key := p_n h 0 0 (by decide) (by decide) 0 (nI nb - 1) (q_pred9 nb (by omega))
  have key : q_A B L n k v u (q_nu 0 0 0 (nI nb - 1) v u) (fX4_readNumber 0 0 (nI nb - 1) v) (fX9_into 0 0 (nI nb - 1) u) := key
  have ec : fX4_readNumbers 10 v = (bnd (fX4_readNumber 0 0 (nI nb - 1) v) fun r54 w53 => (if r54 = 0 then (some (0, w53)) else (bnd (fX4_readNumber 1 1 20 w53) fun r58 w57 => (if r58 = 0 then (some (0, w57)) else (some (1, w57)))))) := by
    rw [p_pre ht ct hS, if_neg (by decide), if_neg (by decide), if_neg (by decide), if_neg (by decide), if_pos rfl]
  have er : fX9_argumentsText 4 u = (bnd (fX9_bakeText u) fun r44 w43 => ck r44 2 <| some (r44, w43)) := by
    unfold fX9_argumentsText
    rw [if_neg (by decide), if_neg (by decide), if_neg (by decide), if_neg (by decide), if_pos rfl]
  rw [ec, er]
  unfold fX9_bakeText fX9_breadInto
  rw [en]
  rcases key with ⟨k1, w1, z1, a1, a2, a3, a4, a5, a6, a7⟩ | ⟨w1, z1, a1, a2, a3⟩
  · rw [a1, a2, q_bnd, q_bnd, if_neg (by decide), q_l1, q_ck (by decide) (by decide), q_bnd, ← q_l1, if_neg (by decide)]
    have key2 : q_A B L n k1 w1 z1 (q_nu 1 1 1 20 w1 z1) (fX4_readNumber 1 1 20 w1) (fX9_into 1 1 20 z1) := p_n a4 1 1 (by decide) (by decide) 1 20 (by decide)
    rcases key2 with ⟨k2, w2, z2, b1, b2, b3, b4, b5, b6, b7⟩ | ⟨w2, z2, b1, b2, b3⟩
    · rw [b1, b2, q_bnd, q_bnd, if_neg (by decide), q_bnd, if_neg (by decide), if_neg (by decide)]
      obtain ⟨b, eb, hb⟩ := q_in_ix a7.2.1 (by omega)
      obtain ⟨l, el, hl1, hl⟩ := q_in_n (lo := 1) (hi := 20) b7.2.1 (by decide) (by decide)
      have e0 := q_nu.keep (i := 0) (h9 := nI nb - 1) (l := 0) ⟨a7.1, a7.2.1⟩ b7 (by decide) (by decide) (by decide) (by decide)
      have ez0 : z2 7160 = nI b := by rw [b7.2.2.2 7160 (by decide) (by omega)]; exact eb
      have ew0 : w2 9899 = nI b := e0.1.trans ez0
      have ez1 : z2 7161 = nI l := el
      have ew1 : w2 9900 = nI l := b7.1.trans el
      refine Or.inl ⟨b, l, hb, hl1, hl, ?_⟩
      have hV : ∃ w3, w3 = upd (upd (upd w2 7090 0) 7091 0) 7092 0 := ⟨_, rfl⟩
      obtain ⟨w3, hw3⟩ := hV
      have hU : ∃ z3, z3 = upd (upd (upd z2 7162 0) 7163 0) 7164 0 := ⟨_, rfl⟩
      obtain ⟨z3, hz3⟩ := hU
      have hL3 : q_L B L n k2 w3 z3 := b4.fr (fun x hx => by rw [hw3, q_un (by omega), q_un (by omega), q_un (by omega)]) (by rw [hw3, q_un (by decide), q_un (by decide), q_un (by decide)]) (fun x hx => by rw [hz3, q_un (by omega), q_un (by omega), q_un (by omega)])
      have hx3 : q_ex b l w3 z3 := by
        refine ⟨?_, ?_, ?_, ?_, ⟨0, Nat.zero_le _, ?_, ?_⟩, ⟨?_, ?_⟩, ⟨?_, ?_⟩⟩
        · rw [hw3]; simp (disch := decide) only [pk_un]; exact ew0
        · rw [hz3]; simp (disch := decide) only [pk_un]; exact ez0
        · rw [hw3]; simp (disch := decide) only [pk_un]; exact ew1
        · rw [hz3]; simp (disch := decide) only [pk_un]; exact ez1
        · rw [hw3]; simp (disch := decide) only [pk_un, pk_us]; rfl
        · rw [hz3]; simp (disch := decide) only [pk_un, pk_us]; rfl
        · rw [hw3, hz3]; simp (disch := decide) only [pk_un, pk_us]
        · rw [hz3]; simp (disch := decide) only [pk_un, pk_us]; exact q_bd_n (n := 0) (by decide) (by decide)
        · rw [hw3, hz3]; simp (disch := decide) only [pk_un, pk_us]
        · rw [hz3]; simp (disch := decide) only [pk_us]; exact q_bd_n (n := 0) (by decide) (by decide)
      have sv : q_sv v w3 := (a5.trans b5).trans (fun x hx => by rw [hw3, q_un (by omega), q_un (by omega), q_un (by omega)])
      have su : q_su u z3 := (a6.trans b6).trans (fun x hx => by rw [hz3, q_un (by omega), q_un (by omega), q_un (by omega)])
      have hn7 : n ≤ 700 := by have := h.1; have := h.2.2.2.1.1; omega
      have lop := x_loop hl (n - k2) k2 0 lpN lpN w3 z3 (Nat.le_refl _) (by omega) hL3 hx3 (by have := q_lpN (n - k2 + 1) (by omega); omega) (q_lpN _ (by omega))
      have c9 : fX4_readExtras (w2 9900) w2 = lp (fX4_readExtras_L19 (nI l)) (fun _ _ _ => none) lpN 1 0 w3 := by
        unfold fX4_readExtras
        rw [q_nm, q_nm, q_nm, ← hw3, ew1]
      have r9 : (nm (upd z2 (7160 + (2 : Int32).toNatClampNeg) 0) fun v9 => nm (upd v9 (7160 + (3 : Int32).toNatClampNeg) 0) fun v10 => nm (upd v10 (7160 + (4 : Int32).toNatClampNeg) 0) fun v11 => lp (fX9_bakeText_L41) (fun _ => none) lpN v11) = lp (fX9_bakeText_L41) (fun _ => none) lpN z3 := by
        rw [q_nm, q_nm, q_nm, hz3]
        rfl
      rw [c9, r9]
      rcases lop with ⟨k8, w8, z8, c1, c2, c3, c4, c5, c6, c7, c8⟩ | ⟨k8, w8, z0, z8, c1, c2, c3, c4, c5, c6, c7⟩ | ⟨w8, z8, c1, c2, c3⟩
      · exact Or.inl ⟨k8, w8, z8, c1, by rw [c2]; rfl, by omega, c4, c5, sv.trans c6, su.trans c7, c8⟩
      · exact Or.inr (Or.inl ⟨k8, w8, z0, z8, c1, c2, c3, c4, by rw [c5]; rfl, sv.trans c6, su.trans c7⟩)
      · exact Or.inr (Or.inr ⟨w8, z8, c1, by rw [c2]; rfl, c3.pre sv.fv su.fu⟩)
    · refine Or.inr ⟨w2, z2, ?_, ?_, b3.pre a5.fv a6.fu⟩
      · rw [b1]; rfl
      · rw [b2]; rfl
  · refine Or.inr ⟨w1, z1, ?_, ?_, a3⟩
    · rw [a1]; rfl
    · rw [a2]; rfl
end
