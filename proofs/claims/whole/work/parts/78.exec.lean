/-! ===== layer 2: a command is executed ===== -/
def q_Ex (T tg : Nat) (v u : bM) (ec : Option (Int32 × bM)) (ip : Option Int32) (dz : Option (Int32 × bM)) : Prop := (ec = some (0, v) ∧ ip = some 0) ∨ (∃ (w z : bM) (r : Int32), ec = some (1, w) ∧ ip = some 1 ∧ dz = some (r, z) ∧ q_St (T + 999) (vw z 710) (vw w (stO tg)) ∧ (∀ x, ¬ (stO tg ≤ x ∧ x < stO tg + 590) → w x = v x) ∧ ∀ x, ¬ (710 ≤ x ∧ x < 1206) → z x = u x)
theorem g_0 : (9899 + (0 : Int32).toNatClampNeg) = 9899 := rfl
theorem g_1 : (9899 + (1 : Int32).toNatClampNeg) = 9900 := rfl
theorem g_2 : (9899 + (2 : Int32).toNatClampNeg) = 9901 := rfl
theorem t_0 : (7160 + (0 : Int32).toNatClampNeg) = 7160 := rfl
theorem t_1 : (7160 + (1 : Int32).toNatClampNeg) = 7161 := rfl
theorem t_2 : (7160 + (2 : Int32).toNatClampNeg) = 7162 := rfl
theorem t_3 : (7160 + (3 : Int32).toNatClampNeg) = 7163 := rfl
theorem t_4 : (7160 + (4 : Int32).toNatClampNeg) = 7164 := rfl
section
variable {T nf nb nt no tg : Nat} {Ls : Nat → List (Nat × Nat)} {B : Nat → Int32} {L n k : Nat} {v u w z : bM}
theorem ex_6 (ht : tg < 12) (ct : v 7089 = nI tg) (hS : q_S T nf nb nt no Ls (vw u 710) (vw v (stO tg))) (hT : T + 999 ≤ 100000000) (hn : nf < 6) (e0 : q_eq 0 1 99 v u) : q_Ex T tg v u (fX4_execute 6 v) (fX9_isPossible 0 u) (fX9_does 0 u) := by
  obtain ⟨a0, b0⟩ := e0
  obtain ⟨p, ep, hp1, hp⟩ := q_in_n (lo := 1) (hi := 99) b0 (by decide) (by decide)
  have ev : v 9899 = nI p := a0.trans ep
  have ez : u 7160 = nI p := ep
  obtain ⟨d, y, h1, h2, h3, h4⟩ := t_flour hS hn ⟨hp1, hp⟩
  refine Or.inr ⟨spl v (stO tg + 6) 169 d, y, nI nf, ?_, rfl, ?_, ⟨_, _, _, _, _, (h3.mono (by omega) hT).same (fun _ _ => rfl) (fun x _ => congrFun (q_vspl v d (stO tg) 6 169) x)⟩, fun x hx => q_spo (by omega), h4⟩
  · unfold fX4_execute
    rw [if_pos rfl, ct, q_ck ht (by decide), nI_clamp (by omega), q_nm, g_0, ev, q_vv, h1, q_bnd, q_nm]
  · unfold fX9_does
    rw [if_pos rfl, t_0, ez, h2, q_bnd]
theorem ex_7 (ht : tg < 12) (ct : v 7089 = nI tg) (hS : q_S T nf nb nt no Ls (vw u 710) (vw v (stO tg))) (hT : T + 999 ≤ 100000000) (hn : nb < 6) (e0 : q_eq 0 1 999 v u) (e1 : q_eq 1 1 9 v u) (e2 : q_eq 2 1 (nI (10 ^ nf - 1)) v u) : q_Ex T tg v u (fX4_execute 7 v) (fX9_isPossible 1 u) (fX9_does 1 u) := by
  have p10 := p10_le hS.hnf
  obtain ⟨a0, b0⟩ := e0
  obtain ⟨a1, b1⟩ := e1
  obtain ⟨a2, b2⟩ := e2
  obtain ⟨m, em, hm1, hm⟩ := q_in_n (lo := 1) (hi := 9) b1 (by decide) (by decide)
  obtain ⟨r, er, hr1, hr⟩ := q_in_n (lo := 1) (hi := 10 ^ nf - 1) b2 (by omega) (by decide)
  have ev1 : v 9900 = nI m := a1.trans em
  have ev2 : v 9901 = nI r := a2.trans er
  have ez1 : u 7161 = nI m := em
  have ez2 : u 7162 = nI r := er
  have ev0 : v 9899 = u 7160 := a0
  obtain ⟨d, y, h1, h2, h3, h4⟩ := t_bread (pr := u 7160) hS hn ⟨hm1, hm⟩ ⟨hr1, hr⟩
  refine Or.inr ⟨spl v (stO tg) 590 d, y, nI nb, ?_, rfl, ?_, ⟨_, _, _, _, _, (h3.mono (by omega) hT).same (fun _ _ => rfl) (fun x hx => q_vspl0 hx)⟩, fun x hx => q_spo (by omega), h4⟩
  · unfold fX4_execute
    rw [if_neg (by decide), if_pos rfl, ct, q_ck ht (by decide), nI_clamp (by omega), q_nm, g_0, g_1, g_2, ev0, ev1, ev2, h1, q_bnd, q_nm]
  · unfold fX9_does
    rw [if_neg (by decide), if_pos rfl, t_0, t_1, t_2, ez1, ez2, h2, q_bnd]
theorem ex_8 (ht : tg < 12) (ct : v 7089 = nI tg) (hS : q_S T nf nb nt no Ls (vw u 710) (vw v (stO tg))) (hT : T + 999 ≤ 100000000) (e0 : q_eq 0 0 (nI nf - 1) v u) (e1 : q_eq 1 1 99 v u) (e2 : q_eq 2 1 99 v u) : q_Ex T tg v u (fX4_execute 8 v) (fX9_isPossible 2 u) (fX9_does 2 u) := by
  obtain ⟨a0, b0⟩ := e0
  obtain ⟨a1, b1⟩ := e1
  obtain ⟨a2, b2⟩ := e2
  obtain ⟨f, ef, hf⟩ := q_in_ix b0 (by have := hS.hnf; omega)
  obtain ⟨m, em, hm1, hm⟩ := q_in_n (lo := 1) (hi := 99) b1 (by decide) (by decide)
  obtain ⟨r, er, hr1, hr⟩ := q_in_n (lo := 1) (hi := 99) b2 (by decide) (by decide)
  have ev0 : v 9899 = nI f := a0.trans ef
  have ev1 : v 9900 = nI m := a1.trans em
  have ev2 : v 9901 = nI r := a2.trans er
  have ez0 : u 7160 = nI f := ef
  have ez1 : u 7161 = nI m := em
  have ez2 : u 7162 = nI r := er
  have ecb := r_canBuy hS hf (x := nI m) (p := nI r)
  have eip : fX9_isPossible 2 u = some (qcb Ls (vw u 710) f (nI m) (nI r)) := by
    have hq : qcb Ls (vw u 710) f (nI m) (nI r) = 0 ∨ qcb Ls (vw u 710) f (nI m) (nI r) = 1 := by
      unfold qcb
      split
      · exact Or.inl rfl
      · exact Or.inr rfl
    unfold fX9_isPossible
    rw [if_pos rfl, t_0, t_1, t_2, ez0, ez1, ez2, ecb, q_bnr]
    rcases hq with q | q <;> rw [q] <;> rfl
  by_cases h0 : qcb Ls (vw u 710) f (nI m) (nI r) = 0
  · refine Or.inl ⟨?_, by rw [eip, h0]⟩
    unfold fX4_execute
    rw [if_neg (by decide), if_neg (by decide), if_pos rfl, ct, q_ck ht (by decide), nI_clamp (by omega), q_nm, g_0, g_1, g_2, ev0, ev1, ev2, t_noBuy hS hf h0, q_bnd, spl_self, q_nm]
    rfl
  · obtain ⟨_, _, h9⟩ := qcb_1 h0
    obtain ⟨d, y, h1, h2, _, h3, h4⟩ := t_buy hS hf ⟨hm1, hm⟩ ⟨hr1, hr⟩ h0
    refine Or.inr ⟨spl v (stO tg) 590 d, y, y 710, ?_, by rw [eip, h9], ?_, ⟨_, _, _, _, _, (h3.mono (by omega) hT).same (fun _ _ => rfl) (fun x hx => q_vspl0 hx)⟩, fun x hx => q_spo (by omega), h4⟩
    · unfold fX4_execute
      rw [if_neg (by decide), if_neg (by decide), if_pos rfl, ct, q_ck ht (by decide), nI_clamp (by omega), q_nm, g_0, g_1, g_2, ev0, ev1, ev2, h1, q_bnd, q_nm]
      rfl
    · unfold fX9_does
      rw [if_neg (by decide), if_neg (by decide), if_pos rfl, t_0, t_1, t_2, ez0, ez1, ez2, h2, q_bnd]
theorem ex_9 (ht : tg < 12) (ct : v 7089 = nI tg) (hS : q_S T nf nb nt no Ls (vw u 710) (vw v (stO tg))) (hT : T + 999 ≤ 100000000) (e0 : q_eq 0 0 23 v u) (e1 : q_eq 1 0 20 v u) : q_Ex T tg v u (fX4_execute 9 v) (fX9_isPossible 3 u) (fX9_does 3 u) := by
  obtain ⟨a0, b0⟩ := e0
  obtain ⟨a1, b1⟩ := e1
  obtain ⟨j, ej, _, hj⟩ := q_in_n (lo := 0) (hi := 23) b0 (by decide) (by decide)
  obtain ⟨r, er, _, hr⟩ := q_in_n (lo := 0) (hi := 20) b1 (by decide) (by decide)
  have ev0 : v 9899 = nI j := a0.trans ej
  have ev1 : v 9900 = nI r := a1.trans er
  have ez0 : u 7160 = nI j := ej
  have ez1 : u 7161 = nI r := er
  obtain ⟨y, h1, h2, h3⟩ := t_rate hS (show j < 24 by omega) hr
  have hX : vw (upd v (stO tg + 253 + j) (nI r)) (stO tg) = upd (vw v (stO tg)) (253 + j) (nI r) := by
    funext x
    by_cases ex : x = 253 + j
    · rw [ex, pk_us]
      exact q_uat (by omega)
    · rw [q_un ex]
      exact q_un (by omega)
  refine Or.inr ⟨upd v (stO tg + 253 + j) (nI r), y, vw u 710 (13 + j), ?_, rfl, ?_, ⟨_, _, _, _, _, (h2.mono (by omega) hT).same (fun _ _ => rfl) (fun x _ => congrFun hX x)⟩, fun x hx => q_un (by omega), h3⟩
  · unfold fX4_execute
    rw [if_neg (by decide), if_neg (by decide), if_neg (by decide), if_pos rfl, ct, q_ck ht (by decide), nI_clamp (show tg < 2 ^ 31 by omega), q_nm, g_0, g_1, ev1, q_nm, ev0, q_ck (by omega) (by decide), nI_clamp (show j < 2 ^ 31 by omega), q_nm]
  · unfold fX9_does
    rw [if_neg (by decide), if_neg (by decide), if_neg (by decide), if_pos rfl, t_0, t_1, ez0, ez1, h1, q_bnd]
theorem ex_11 (ht : tg < 12) (ct : v 7089 = nI tg) (hS : q_S T nf nb nt no Ls (vw u 710) (vw v (stO tg))) (hT : T + 999 ≤ 100000000) (e0 : q_eq 0 0 (nI nb - 1) v u) (e1 : q_eq 1 1 99 v u) (e2 : q_eq 2 1 999 v u) : q_Ex T tg v u (fX4_execute 11 v) (fX9_isPossible 5 u) (fX9_does 5 u) := by
  have hnb := hS.hnb
  obtain ⟨a0, b0⟩ := e0
  obtain ⟨a1, b1⟩ := e1
  obtain ⟨a2, b2⟩ := e2
  obtain ⟨b, eb, hb⟩ := q_in_ix b0 (by omega)
  have ev0 : v 9899 = nI b := a0.trans eb
  have ev1 : v 9900 = u 7161 := a1
  have ev2 : v 9901 = u 7162 := a2
  have ez0 : u 7160 = nI b := eb
  have eip : fX9_isPossible 5 u = some (if vw u 710 (211 + 4 * b) < u 7161 then 0 else 1) := by
    unfold fX9_isPossible
    rw [if_neg (by decide), if_neg (by decide), if_neg (by decide), if_pos rfl, t_0, t_1, ez0, r_bread3 (by omega), q_bnr]
    split <;> rfl
  by_cases h0 : vw u 710 (211 + 4 * b) < u 7161
  · refine Or.inl ⟨?_, by rw [eip, if_pos h0]⟩
    have e9 : fX6_sellLoaves (nI b) (u 7161) (u 7162) (vw v (stO tg)) = some (0, vw v (stO tg)) := by
      have hlo := hS.clo b hb
      unfold fX6_sellLoaves
      rw [q_ck (by omega) (by decide), nI_clamp (by omega), hlo, if_neg (q_nle h0)]
    unfold fX4_execute
    rw [if_neg (by decide), if_neg (by decide), if_neg (by decide), if_neg (by decide), if_neg (by decide), if_pos rfl, ct, q_ck ht (by decide), nI_clamp (by omega), q_nm, g_0, g_1, g_2, ev0, ev1, ev2, e9, q_bnd, spl_self, q_nm]
    rfl
  · obtain ⟨d, y, h1, h2, _, h3, h4⟩ := t_sell (l := u 7161) (p := u 7162) hS hb (q_len h0)
    refine Or.inr ⟨spl v (stO tg) 590 d, y, y 710, ?_, by rw [eip, if_neg h0], ?_, ⟨_, _, _, _, _, (h3.mono (by omega) hT).same (fun _ _ => rfl) (fun x hx => q_vspl0 hx)⟩, fun x hx => q_spo (by omega), h4⟩
    · unfold fX4_execute
      rw [if_neg (by decide), if_neg (by decide), if_neg (by decide), if_neg (by decide), if_neg (by decide), if_pos rfl, ct, q_ck ht (by decide), nI_clamp (by omega), q_nm, g_0, g_1, g_2, ev0, ev1, ev2, h1, q_bnd, q_nm]
      rfl
    · unfold fX9_does
      rw [if_neg (by decide), if_neg (by decide), if_neg (by decide), if_neg (by decide), if_neg (by decide), if_pos rfl, t_0, t_1, t_2, ez0, h2, q_bnd]
theorem ex_12 (ht : tg < 12) (ct : v 7089 = nI tg) (hS : q_S T nf nb nt no Ls (vw u 710) (vw v (stO tg))) (hT : T + 999 ≤ 100000000) (e0 : q_eq 0 1 999 v u) : q_Ex T tg v u (fX4_execute 12 v) (fX9_isPossible 6 u) (fX9_does 6 u) := by
  obtain ⟨a0, b0⟩ := e0
  obtain ⟨m, em, _, hm⟩ := q_in_n (lo := 1) (hi := 999) b0 (by decide) (by decide)
  have ev0 : v 9899 = nI m := a0.trans em
  have ez0 : u 7160 = nI m := em
  obtain ⟨h1, h2, h3⟩ := t_wait hS hm hT
  have e0 : v (stO tg + 0) = vw v (stO tg) 0 := rfl
  have hX : vw (upd v (stO tg + 0) (vw v (stO tg) 0 + nI m)) (stO tg) = upd (vw v (stO tg)) 0 (vw v (stO tg) 0 + nI m) := by
    funext x
    by_cases ex : x = 0
    · rw [ex, pk_us]
      exact pk_us
    · rw [q_un ex]
      exact q_un (by omega)
  refine Or.inr ⟨upd v (stO tg + 0) (vw v (stO tg) 0 + nI m), upd u 714 (u 714 + nI m), u 714 + nI m, ?_, rfl, ?_, ⟨_, _, _, _, _, h3.same (fun _ _ => rfl) (fun x _ => congrFun hX x)⟩, fun x hx => q_un (by omega), fun x hx => q_un (by omega)⟩
  · unfold fX4_execute
    rw [if_neg (by decide), if_neg (by decide), if_neg (by decide), if_neg (by decide), if_neg (by decide), if_neg (by decide), ct, q_ck ht (by decide), nI_clamp (show tg < 2 ^ 31 by omega), q_nm, g_0, ev0, e0, q_nm, q_nm]
  · unfold fX9_does
    rw [if_neg (by decide), if_neg (by decide), if_neg (by decide), if_neg (by decide), if_neg (by decide), if_neg (by decide), t_0, ez0, h1, q_bnd]
theorem ex_10 (ht : tg < 12) (ct : v 7089 = nI tg) (hS : q_S T nf nb nt no Ls (vw u 710) (vw v (stO tg))) (hT : T + 999 ≤ 100000000) {b l : Nat} (hb : b < nb) (hl : l ≤ 20) (hx : q_ex b l v u) : q_Ex T tg v u (fX4_execute 10 v) (fX9_isPossible 4 u) (fX9_does 4 u) := by
  obtain ⟨x1, x2, x3, x4, ⟨bn, x5, x6, x7⟩, ⟨x8, x9⟩, ⟨x10, x11⟩⟩ := hx
  have er := r_obstacle hS hb (x := nI l) (y := u 7163) (z := u 7164)
  have eip : fX9_isPossible 4 u = some (if qob nf nt Ls (vw u 710) b (nI l) (u 7163) (u 7164) = 0 then 1 else 0) := by
    unfold fX9_isPossible
    rw [if_neg (by decide), if_neg (by decide), if_pos rfl, t_0, t_1, t_3, t_4, x2, x4, er, q_bnr]
    split <;> rfl
  by_cases h0 : qob nf nt Ls (vw u 710) b (nI l) (u 7163) (u 7164) = 0
  · obtain ⟨d, y, h1, h2, hnt, h3, h4, _⟩ := t_bake hS hb hl x5 x9 x11 h0 hT
    refine Or.inr ⟨spl v (stO tg) 590 d, y, nI nt, ?_, by rw [eip, if_pos h0], ?_, ⟨_, _, _, _, _, h3.same (fun _ _ => rfl) (fun x hx => q_vspl0 hx)⟩, fun x hx => q_spo (by omega), h4⟩
    · unfold fX4_execute
      rw [if_neg (by decide), if_neg (by decide), if_neg (by decide), if_neg (by decide), if_pos rfl, ct, q_ck ht (by decide), nI_clamp (by omega), q_nm, g_0, g_1, x1, x3, x6, x8, x10, h1, q_bnd, q_nm, if_neg (nI_m1 (by omega))]
    · unfold fX9_does
      rw [if_neg (by decide), if_neg (by decide), if_neg (by decide), if_neg (by decide), if_pos rfl, t_0, t_1, t_2, t_3, t_4, x2, x4, x7, h2, q_bnd]
  · refine Or.inl ⟨?_, by rw [eip, if_neg h0]⟩
    have e9 : fX6_bakeBatch (nI b) (nI l) (nI bn) (u 7163) (u 7164) (vw v (stO tg)) = some (-1, vw v (stO tg)) := by
      unfold fX6_bakeBatch
      rw [c_obstacle hS hb hl, q_bnr, if_neg h0]
    unfold fX4_execute
    rw [if_neg (by decide), if_neg (by decide), if_neg (by decide), if_neg (by decide), if_pos rfl, ct, q_ck ht (by decide), nI_clamp (by omega), q_nm, g_0, g_1, x1, x3, x6, x8, x10, e9, q_bnd, spl_self, q_nm, if_pos rfl]
/-! all commands alike -/
def q_CA (c : Int32) (v : bM) : Option (Int32 × bM) := bnd (fX4_readNumbers c v) fun r18 w17 => (if r18 = 0 then (some (0, w17)) else ((if c = 10 then (bnd (fX4_readExtras (w17 9900) w17) fun r44 w43 => (if r44 = 0 then (some (0, w43)) else (fX4_readCommand_J76 c w43))) else (fX4_readCommand_J76 c w17))))
def q_Y (B : Nat → Int32) (L n k T tg c : Nat) (v u : bM) : Prop := (∃ k9 w z, q_CA (nI c) v = fX4_readCommand_J76 (nI c) w ∧ fX9_argumentsText (nI (c - 6)) u = some (1, z) ∧ k ≤ k9 ∧ q_L B L n k9 w z ∧ q_sv v w ∧ q_su u z ∧ q_Ex T tg w z (fX4_execute (nI c) w) (fX9_isPossible (nI (c - 6)) z) (fX9_does (nI (c - 6)) z)) ∨ (∃ k9 w z0 z, q_CA (nI c) v = fX4_readCommand_J76 (nI c) w ∧ q_L B L n k9 w z0 ∧ q_kd B L n k9 ≠ 1 ∧ fX9_wrong 1 z0 = some (0, z) ∧ fX9_argumentsText (nI (c - 6)) u = some (0, z) ∧ q_sv v w ∧ q_su u z0) ∨ (∃ w z, q_CA (nI c) v = some (0, w) ∧ fX9_argumentsText (nI (c - 6)) u = some (0, z) ∧ q_F v u w z)
theorem q_A.Y {Q : bM → bM → Prop} {c : Nat} (hc : c ≠ 10) (hc2 : c ≤ 17) (h : q_A B L n k v u Q (fX4_readNumbers (nI c) v) (fX9_argumentsText (nI (c - 6)) u)) (g : ∀ w z, q_sv v w → q_su u z → Q w z → q_Ex T tg w z (fX4_execute (nI c) w) (fX9_isPossible (nI (c - 6)) z) (fX9_does (nI (c - 6)) z)) : q_Y B L n k T tg c v u := by
  have hne : ¬ nI c = 10 := fun q => hc ((nI_eq (b := 10) (by omega) (by decide)).mp q)
  rcases h with ⟨k9, w, z, h1, h2, h3, h4, h5, h6, h7⟩ | ⟨w, z, h1, h2, h3⟩
  · refine Or.inl ⟨k9, w, z, ?_, h2, h3, h4, h5, h6, g w z h5 h6 h7⟩
    unfold q_CA
    rw [h1, q_bnd, if_neg (by decide), if_neg hne]
  · refine Or.inr (Or.inr ⟨w, z, ?_, h2, h3⟩)
    unfold q_CA
    rw [h1, q_bnd, if_pos rfl]
theorem p_args (h : q_L B L n k v u) (ht : tg < 12) (ct : v 7089 = nI tg) (hS : q_S T nf nb nt no Ls (vw u 710) (vw v (stO tg))) (hT : T + 999 ≤ 100000000) {c : Nat} (hc : 6 ≤ c ∧ c ≤ 12) (h6 : c = 6 → nf < 6) (h7 : c = 7 → nb < 6) : q_Y B L n k T tg c v u := by
  have go : ∀ {w z : bM}, q_sv v w → q_su u z → w 7089 = nI tg ∧ q_S T nf nb nt no Ls (vw z 710) (vw w (stO tg)) := fun hv hu => ⟨(hv 7089 (by omega)).trans ct, hS.rd ht hv.fv hu.fu⟩
  obtain ⟨c1, c2⟩ := hc
  match c, c1, c2 with
  | 6, _, _ => exact q_A.Y (by decide) (by decide) (p_a6 h ht ct hS) (fun w z hv hu q => ex_6 ht (go hv hu).1 (go hv hu).2 hT (h6 rfl) q)
  | 7, _, _ => exact q_A.Y (by decide) (by decide) (p_a7 h ht ct hS) (fun w z hv hu q => ex_7 ht (go hv hu).1 (go hv hu).2 hT (h7 rfl) q.1 q.2.1 q.2.2)
  | 8, _, _ => exact q_A.Y (by decide) (by decide) (p_a8 h ht ct hS) (fun w z hv hu q => ex_8 ht (go hv hu).1 (go hv hu).2 hT q.1 q.2.1 q.2.2)
  | 9, _, _ => exact q_A.Y (by decide) (by decide) (p_a9 h ht ct hS) (fun w z hv hu q => ex_9 ht (go hv hu).1 (go hv hu).2 hT q.1 q.2)
  | 10, _, _ =>
    have ec : q_CA (nI 10) v = (bnd (bnd (fX4_readNumbers 10 v) fun r w => if r = 0 then some (0, w) else fX4_readExtras (w 9900) w) fun r w => if r = 0 then some (0, w) else fX4_readCommand_J76 (nI 10) w) := by
      unfold q_CA
      show (bnd (fX4_readNumbers 10 v) _) = _
      cases fX4_readNumbers 10 v with
      | none => rfl
      | some x =>
        obtain ⟨r, w⟩ := x
        rw [q_bnd, q_bnd]
        by_cases h0 : r = 0
        · rw [if_pos h0, if_pos h0, q_bnd, if_pos rfl]
        · rw [if_neg h0, if_neg h0, if_pos (show nI 10 = 10 from rfl)]
    rcases p_a10 h ht ct hS with ⟨b, l, hb, hl1, hl, hX⟩ | ⟨w, z, a1, a2, a3⟩
    · rcases hX with ⟨k8, w8, z8, d1, d2, d3, d4, d5, d6, d7, d8⟩ | ⟨k8, w8, z0, z8, d1, d2, d3, d4, d5, d6, d7⟩ | ⟨w8, z8, d1, d2, d3⟩
      · exact Or.inl ⟨k8, w8, z8, by rw [ec, d1, q_bnd, if_neg (by decide)], d2, d3, d4, d6, d7, ex_10 ht (go d6 d7).1 (go d6 d7).2 hT hb hl d8⟩
      · exact Or.inr (Or.inl ⟨k8, w8, z0, z8, by rw [ec, d1, q_bnd, if_neg (by decide)], d2, d3, d4, d5, d6, d7⟩)
      · exact Or.inr (Or.inr ⟨w8, z8, by rw [ec, d1, q_bnd, if_pos rfl], d2, d3⟩)
    · exact Or.inr (Or.inr ⟨w, z, by rw [ec, a1, q_bnd, if_pos rfl], a2, a3⟩)
  | 11, _, _ => exact q_A.Y (by decide) (by decide) (p_a11 h ht ct hS) (fun w z hv hu q => ex_11 ht (go hv hu).1 (go hv hu).2 hT q.1 q.2.1 q.2.2)
  | 12, _, _ => exact q_A.Y (by decide) (by decide) (p_a12 h ht ct hS) (fun w z hv hu q => ex_12 ht (go hv hu).1 (go hv hu).2 hT q)
end
