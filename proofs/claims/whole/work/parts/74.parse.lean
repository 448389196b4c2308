/-! ===== layer 2: reading a text, side by side ===== -/
def q_B (u : bM) : Nat → Int32 := fun i => if i < 700 then u (10 + i) else 0
def q_L (B : Nat → Int32) (L n k : Nat) (v u : bM) : Prop := L ≤ 700 ∧ u 0 = nI L ∧ (∀ i, i < L → u (10 + i) = B i) ∧ q_sp9 B L n (vw v 7093) ∧ k ≤ n ∧ v 7095 = nI k ∧ q_lx B L (qps B L k) u
/-- what reading leaves as it was -/
def q_fv (v w : bM) : Prop := ∀ x, (x < 7086 ∨ x = 7089 ∨ x = 7093 ∨ x = 7094 ∨ (7096 ≤ x ∧ x < 9899) ∨ 9902 ≤ x) → w x = v x
def q_fu (u z : bM) : Prop := ∀ x, (x = 0 ∨ x = 3 ∨ x = 4 ∨ (9 ≤ x ∧ x < 7160) ∨ 7165 ≤ x) → z x = u x
theorem q_fv.trans {a b c : bM} (h : q_fv a b) (g : q_fv b c) : q_fv a c := fun x hx => (g x hx).trans (h x hx)
theorem q_fu.trans {a b c : bM} (h : q_fu a b) (g : q_fu b c) : q_fu a c := fun x hx => (g x hx).trans (h x hx)
theorem q_fv.rfl9 {a : bM} : q_fv a a := fun _ _ => rfl
theorem q_fu.rfl9 {a : bM} : q_fu a a := fun _ _ => rfl
/-- an error is told -/
def q_F (v u w z : bM) : Prop := q_fv v w ∧ q_fu u z ∧ w 7086 = z 1 ∧ w 7087 = z 2
def q_kd (B : Nat → Int32) (L n k : Nat) : Nat := if k < n then qkd B L (qps B L k) else 0
def q_tt (B : Nat → Int32) (L n k : Nat) : Nat := if k < n then qty B (qps B L k) else 4
theorem qps_lt {B : Nat → Int32} {L n k : Nat} {w : bM} (h : q_sp9 B L n w) (hk : k < n) : qps B L k < L := (h.2.2.2.2.2 k hk).1
theorem qkd_le {B : Nat → Int32} {L p : Nat} : qkd B L p ≤ 17 := by
  have h : ∀ (m j : Nat), qkw B p (qen B L p) m j < j + m ∨ qkw B p (qen B L p) m j = 0 := by
    intro m
    induction m with
    | zero => intro j; exact Or.inr rfl
    | succ m ih =>
      intro j
      show (if _ then j else _) < _ ∨ (if _ then j else _) = _
      split
      · exact Or.inl (by omega)
      · have := ih (j + 1)
        omega
  have g := h 13 1
  unfold qkd qwd
  split
  · split <;> omega
  · split
    · decide
    · split <;> decide
section
variable {B : Nat → Int32} {L n k : Nat} {v u : bM}
theorem q_L.re {k9 : Nat} {w z : bM} (h : q_L B L n k v u) (hv : ∀ x, x = 7094 ∨ (7796 ≤ x ∧ x < 9899) → w x = v x) (hu : ∀ x, x = 0 ∨ (10 ≤ x ∧ x < 710) → z x = u x) (hk : k9 ≤ n) (hc : w 7095 = nI k9) (hl : q_lx B L (qps B L k9) z) : q_L B L n k9 w z := by
  obtain ⟨h1, h2, h3, ⟨s1, s2, s3, s4, s5, s6⟩, _, _, _⟩ := h
  refine ⟨h1, (hu 0 (by omega)).trans h2, fun i hi => (hu _ (by omega)).trans (h3 i hi), ⟨s1, s2, ?_, ?_, ?_, fun j hj => ?_⟩, hk, hc, hl⟩
  · exact (hv _ (by omega)).trans s3
  · exact (hv _ (by omega)).trans s4
  · exact (hv _ (by omega)).trans s5
  · obtain ⟨g1, g2, g3, g4⟩ := s6 j hj
    exact ⟨g1, (hv _ (by omega)).trans g2, (hv _ (by omega)).trans g3, fun q => (hv _ (by omega)).trans (g4 q)⟩
theorem p_kind (h : q_L B L n k v u) : fX7_kind (vw v 7093) = some (nI (q_kd B L n k)) := by
  obtain ⟨h1, h2, h3, ⟨s1, s2, s3, s4, s5, s6⟩, h5, h6, _⟩ := h
  have e2 : vw v 7093 2 = nI k := h6
  unfold fX7_kind q_kd
  rw [e2, q_ck (by omega) (by decide), nI_clamp (by omega)]
  by_cases hk : k < n
  · rw [if_pos hk, (s6 k hk).2.1]
  · rw [if_neg hk, show k = n by omega, s4]
    rfl
theorem p_tok (h : q_L B L n k v u) : u 6 = nI (q_tt B L n k) := by
  obtain ⟨h1, h2, h3, ⟨s1, s2, s3, s4, s5, s6⟩, h5, h6, ⟨l1, l2, l3⟩⟩ := h
  unfold q_tt
  by_cases hk : k < n
  · rw [if_pos hk]
    exact (l3 (s6 k hk).1).1
  · rw [if_neg hk]
    exact (l2 (by rw [show k = n by omega]; exact s2)).1
theorem q_kt (B : Nat → Int32) (L n k : Nat) : (q_kd B L n k = 1 ↔ q_tt B L n k = 2) ∧ (q_kd B L n k = 2 ↔ q_tt B L n k = 1) ∧ (q_kd B L n k = 0 ↔ q_tt B L n k = 4) ∧ q_kd B L n k ≤ 17 ∧ q_tt B L n k ≤ 4 ∧ (q_tt B L n k = 0 ↔ 4 ≤ q_kd B L n k) := by
  have h17 := qkd_le (B := B) (L := L) (p := qps B L k)
  unfold q_kd q_tt
  by_cases hk : k < n
  · rw [if_pos hk, if_pos hk]
    refine ⟨?_, ?_, ?_, h17, ?_, ?_⟩ <;> (first | unfold qkd qty | unfold qty)
    · (repeat' split) <;> omega
    · (repeat' split) <;> omega
    · (repeat' split) <;> omega
    · (repeat' split) <;> omega
    · (repeat' split) <;> omega
  · rw [if_neg hk, if_neg hk]
    refine ⟨?_, ?_, ?_, ?_, ?_, ?_⟩ <;> omega
theorem c_adv {β : Type} {f : bM → Option β} (h : q_L B L n k v u) (hk : k < n) : (bnw (fX7_advance (vw v 7093)) fun w => nm (spl v 7093 2806 w) fun y => f y) = f (upd v 7095 (nI (k + 1))) := by
  obtain ⟨h1, h2, h3, ⟨s1, s2, s3, s4, s5, s6⟩, h5, h6, _⟩ := h
  have e2 : vw v 7093 2 = nI k := h6
  have e : fX7_advance (vw v 7093) = some (upd (vw v 7093) 2 (nI (k + 1))) := by
    unfold fX7_advance
    rw [s3, e2, if_neg (nI_ge hk (by omega)), q_nm, q_add1, q_nm]
  rw [e, q_bnw, q_nm, q_splu (by omega), spl_self]
theorem p_next (h : q_L B L n k v u) (hk : k < n) : ∃ z, fX9_next u = some z ∧ q_L B L n (k + 1) (upd v 7095 (nI (k + 1))) z ∧ ∀ x, x < 5 ∨ 8 < x → z x = u x := by
  have h0 := h
  obtain ⟨h1, h2, h3, ⟨s1, s2, s3, s4, s5, s6⟩, h5, h6, ⟨l1, l2, l3⟩⟩ := h
  have hp := (s6 k hk).1
  obtain ⟨_, e5, _⟩ := l3 hp
  obtain ⟨z, z1, z2, z3⟩ := r_next h3 h2 e5 (qen_b hp).2 h1
  exact ⟨z, z1, h0.re (fun x hx => q_un (by omega)) (fun x hx => z3 x (by omega)) hk pk_us z2, z3⟩
theorem q_L.fr {w z : bM} (h : q_L B L n k v u) (hv : q_fv v w) (h5 : w 7095 = v 7095) (hu : ∀ x, x = 0 ∨ (5 ≤ x ∧ x ≤ 8) ∨ (10 ≤ x ∧ x < 710) → z x = u x) : q_L B L n k w z := by
  have g := h
  obtain ⟨h1, h2, h3, h4, h6, h7, ⟨l1, l2, l3⟩⟩ := h
  refine g.re (fun x hx => hv x (by omega)) (fun x hx => hu x (by omega)) h6 (h5.trans h7) ⟨(hu 7 (by omega)).trans l1, fun q => ⟨(hu 6 (by omega)).trans (l2 q).1, (hu 5 (by omega)).trans (l2 q).2⟩, fun q => ⟨(hu 6 (by omega)).trans (l3 q).1, (hu 5 (by omega)).trans (l3 q).2.1, fun q2 => (hu 8 (by omega)).trans ((l3 q).2.2 q2)⟩⟩
theorem p_start (h : q_L B L n k v u) : v (8497 + k) = u 7 := by
  obtain ⟨h1, h2, h3, ⟨s1, s2, s3, s4, s5, s6⟩, h5, h6, ⟨l1, l2, l3⟩⟩ := h
  rw [l1]
  by_cases hk : k < n
  · exact (congrArg v (by omega)).trans (s6 k hk).2.2.1
  · have e : k = n := by omega
    rw [e, s2]
    exact (congrArg v (by omega)).trans s5
theorem p_fail (h : q_L B L n k v u) (c : Int32) : ∃ w z, fX4_fail c v = some (0, w) ∧ fX9_wrong c u = some (0, z) ∧ q_F v u w z := by
  have hs := p_start h
  obtain ⟨h1, h2, h3, ⟨s1, s2, s3, s4, s5, s6⟩, h5, h6, ⟨l1, l2, l3⟩⟩ := h
  refine ⟨upd (upd v 7086 c) 7087 (u 7), upd (upd u 1 c) 2 (u 7), ?_, ?_, fun x hx => by rw [q_un (by omega), q_un (by omega)], fun x hx => by rw [q_un (by omega), q_un (by omega)], by rw [q_un (by decide), pk_us, q_un (by decide), pk_us], by rw [pk_us, pk_us]⟩
  · have e2 : vw (upd v 7086 c) 7093 2 = nI k := (q_un (by decide)).trans h6
    have e3 : vw (upd v 7086 c) 7093 (1404 + k) = u 7 := by
      rw [q_vw, q_un (by omega), show 7093 + (1404 + k) = 8497 + k by omega]
      exact hs
    unfold fX4_fail fX7_start
    rw [q_nm, e2, q_ck (by omega) (by decide), nI_clamp (by omega), e3, q_bnr, q_nm]
  · unfold fX9_wrong
    rw [q_nm, q_un (by decide), q_nm, q_nm]
/-- the number of the token k, as class and reference have it -/
theorem p_numv (h : q_L B L n k v u) (h2 : q_kd B L n k = 2) : ∃ c r : Nat, k < n ∧ v (9198 + k) = nI c ∧ u 8 = nI r ∧ qNR c r := by
  obtain ⟨h1, h9, h3, ⟨s1, s2, s3, s4, s5, s6⟩, h5, h6, ⟨l1, l2, l3⟩⟩ := h
  unfold q_kd at h2
  by_cases hk : k < n
  · rw [if_pos hk] at h2
    obtain ⟨g1, g2, g3, g4⟩ := s6 k hk
    have hd : qdt (B (qps B L k)) = true := by
      unfold qkd at h2
      split at h2
      · split at h2 <;> omega
      · split at h2
        · assumption
        · split at h2 <;> omega
    have hnl : ¬ qlt (B (qps B L k)) = true := fun q => by rw [q_ld q] at hd; cases hd
    have hin := qru_in qdt B L (L - (qps B L k + 1)) (qps B L k + 1) (by omega)
    have een : qen B L (qps B L k) = qru qdt B L (qps B L k + 1) := by unfold qen; rw [if_neg hnl, if_pos hd]
    rw [← een] at hin
    have hb := qen_b (B := B) (L := L) g1
    refine ⟨_, _, hk, (congrArg v (by omega)).trans (g4 hd), ((l3 g1).2.2 hd), qNR_num hb.1 (fun i a1 a2 => ?_)⟩
    rcases Nat.eq_or_lt_of_le a1 with q | q
    · rw [← q]; exact hd
    · exact hin.1 i q a2
  · rw [if_neg hk] at h2
    omega
theorem qNR_in {c r : Nat} {lo hi : Int32} (h : qNR c r) (hh : hi ≤ 999999) : (q_in (nI c) lo hi ↔ q_in (nI r) lo hi) ∧ (q_in (nI c) lo hi → nI c = nI r) := by
  rcases h with ⟨e, _⟩ | ⟨e, h1, h2⟩
  · rw [e]
    exact ⟨Iff.rfl, fun _ => rfl⟩
  · have n1 : ∀ x : Nat, 1000000 ≤ x → x ≤ 99999999 → ¬ q_in (nI x) lo hi := fun x a1 a2 q => by
      have q2 := q.2
      rw [Int32.le_iff_toInt_le] at q2 hh
      rw [nI_toInt (by omega)] at q2
      rw [show (999999 : Int32).toInt = 999999 from by decide] at hh
      omega
    rw [e]
    exact ⟨⟨fun q => absurd q (n1 _ (by omega) (by omega)), fun q => absurd q (n1 _ h1 h2)⟩, fun q => absurd q (n1 _ (by omega) (by omega))⟩
/-- a number is read on both sides -/
def q_N (B : Nat → Int32) (L n k p p9 : Nat) (lo hi : Int32) (v u : bM) (rc rr : Option (Int32 × bM)) : Prop := (∃ (x : Int32) (w z : bM), rc = some (1, w) ∧ rr = some (1, z) ∧ k < n ∧ q_in x lo hi ∧ q_L B L n (k + 1) w z ∧ w (9899 + p) = x ∧ z (7160 + p9) = x ∧ (∀ y, y ≠ 9899 + p → y ≠ 7095 → w y = v y) ∧ ∀ y, y ≠ 7160 + p9 → (y < 5 ∨ 8 < y) → z y = u y) ∨ (∃ w z, rc = some (0, w) ∧ rr = some (0, z) ∧ q_F v u w z)
theorem p_number (h : q_L B L n k v u) {p p9 : Nat} (hp : p < 3) (hp9 : p9 < 5) {lo hi : Int32} (hh : hi ≤ 999999) : q_N B L n k p p9 lo hi v u (fX4_readNumber (nI p) lo hi v) (fX9_into (nI p9) lo hi u) := by
  obtain ⟨t1, t2, t3, t4, t5, t6⟩ := q_kt B L n k
  have ek := p_kind h
  have et := p_tok h
  by_cases h2 : q_kd B L n k = 2
  · obtain ⟨c, r, hk, ec, er, hN⟩ := p_numv h h2
    obtain ⟨n1, n2⟩ := qNR_in (lo := lo) (hi := hi) hN hh
    have en : fX7_number (vw v 7093) = some (nI c) := by
      have e2 : vw v 7093 2 = nI k := h.2.2.2.2.2.1
      have e3 : vw v 7093 (2105 + k) = nI c := (congrArg v (by omega)).trans ec
      have := h.2.2.2.1.1
      have := h.1
      unfold fX7_number
      rw [e2, q_ck (by omega) (by decide), nI_clamp (by omega), e3]
    have ht1 : u 6 = 1 := by rw [et, t2.mp h2]; rfl
    by_cases hin : q_in (nI c) lo hi
    · refine Or.inl ?_
      have hV : ∃ v9, v9 = upd v (9899 + p) (nI c) := ⟨_, rfl⟩
      obtain ⟨v9, hv9⟩ := hV
      have hU : ∃ u9, u9 = upd u (7160 + p9) (nI c) := ⟨_, rfl⟩
      obtain ⟨u9, hu9⟩ := hU
      have h9 : q_L B L n k v9 u9 := h.fr (fun x hx => by rw [hv9]; exact q_un (by omega)) (by rw [hv9]; exact q_un (by omega)) (fun x hx => by rw [hu9]; exact q_un (by omega))
      obtain ⟨z, z1, z2, z3⟩ := p_next h9 hk
      refine ⟨nI c, upd v9 7095 (nI (k + 1)), z, ?_, ?_, hk, hin, z2, ?_, ?_, fun y a1 a2 => ?_, fun y a1 a2 => ?_⟩
      · unfold fX4_readNumber
        rw [ek, h2, q_bnr, if_pos (show nI 2 = 2 from rfl), en, q_bnr, if_neg hin.1, q_bnr, if_pos hin.2, q_bnr, q_ck hp (by decide), nI_clamp (by omega), q_nm, ← hv9, c_adv h9 hk]
      · unfold fX9_into fX9_numberIn fX9_numberIn_J34
        rw [if_pos ht1, er, (q_rg (n1.mp hin)).2.2, q_bnr, if_neg (by decide), q_bnd, if_neg (by decide), er, ← n2 hin, q_nm, q_ck hp9 (by decide), nI_clamp (by omega), q_nm, ← hu9, z1, q_bnw]
      · rw [q_un (by omega), hv9, pk_us]
      · rw [z3 _ (by omega), hu9, pk_us]
      · rw [q_un a2, hv9, q_un a1]
      · rw [z3 y a2, hu9, q_un a1]
    · refine Or.inr ?_
      obtain ⟨w, z, w1, z1, hF⟩ := p_fail h 2
      refine ⟨w, z, ?_, ?_, hF⟩
      · have hJ : fX4_readNumber_J39 v = some (0, w) := by
          unfold fX4_readNumber_J39
          rw [w1, q_bnd, q_l0, q_ck (by decide) (by decide)]
        unfold fX4_readNumber
        rw [ek, h2, q_bnr, if_pos (show nI 2 = 2 from rfl), en, q_bnr]
        by_cases hlo : nI c < lo
        · rw [if_pos hlo]
          exact hJ
        · rw [if_neg hlo, q_bnr, if_neg (fun q => hin ⟨hlo, q⟩)]
          exact hJ
      · unfold fX9_into fX9_numberIn
        rw [if_pos ht1, er, (q_rgn (fun q => hin (n1.mpr q))).2.2, q_bnr, if_pos rfl, z1, q_bnd, if_pos rfl, q_bnd, if_pos rfl]
  · refine Or.inr ?_
    obtain ⟨w, z, w1, z1, hF⟩ := p_fail h 1
    refine ⟨w, z, ?_, ?_, hF⟩
    · unfold fX4_readNumber
      rw [ek, q_bnr, if_neg (show ¬ nI (q_kd B L n k) = 2 from fun q => h2 ((nI_eq (b := 2) (by omega) (by decide)).mp q)), w1, q_bnd, q_l0, q_ck (by decide) (by decide)]
    · have ht1 : ¬ u 6 = 1 := fun q => by
        rw [et] at q
        exact h2 (t2.mpr ((nI_eq (b := 1) (by omega) (by decide)).mp q))
      unfold fX9_into fX9_numberIn
      rw [if_neg ht1, z1, q_bnd, q_l0, q_ck (by decide) (by decide), q_bnd, if_pos (show nI 0 = nI 0 from rfl)]
end
/-! words -/
theorem sTx_26 : ∀ j, j < 14 → sTx.getD (26 + j) [] = sTx.getD j [] := by decide +kernel
theorem sTx_ne : ∀ i, i < 14 → ∀ j, j < 14 → (i = 0 ∨ j = 0 ∨ i = j ∨ sTx.getD i [] ≠ sTx.getD j []) := by decide +kernel
theorem q_gd {t : List Nat} {k : Nat} (h : k < t.length) : t.getD k 0 = t[k] := by
  rw [List.getD_eq_getElem?_getD, List.getElem?_eq_getElem h]
  rfl
theorem sTx_by : ∀ j, j < 40 → ∀ x ∈ sTx.getD j [], x < 256 := by decide +kernel
theorem qmt_26 {B : Nat → Int32} {p e j : Nat} (h : j < 14) : qmt B p e (26 + j) = qmt B p e j := by
  unfold qmt
  rw [sTx_26 j h]
theorem qmt_inj {B : Nat → Int32} {p e i j : Nat} (hi : 1 ≤ i ∧ i < 14) (hj : 1 ≤ j ∧ j < 14) (h1 : qmt B p e i = true) (h2 : qmt B p e j = true) : i = j := by
  have hne := sTx_ne i hi.2 j hj.2
  refine Classical.byContradiction fun q => (hne.elim (fun a => by omega) (fun a => a.elim (fun a => by omega) (fun a => a.elim (fun b => absurd b q) id)) : sTx.getD i [] ≠ sTx.getD j []) ?_
  obtain ⟨a1, a2⟩ := qmt_iff.mp h1
  obtain ⟨b1, b2⟩ := qmt_iff.mp h2
  refine List.ext_getElem (a1.trans b1.symm) (fun k k1 k2 => ?_)
  have g1 := a2 k k1
  have g2 := b2 k k2
  rw [g1] at g2
  rw [q_gd k1, q_gd k2] at g2
  have m1 := sTx_by i (by omega) _ (List.getElem_mem k1)
  have m2 := sTx_by j (by omega) _ (List.getElem_mem k2)
  exact (nI_eq (by omega) (by omega)).mp g2
theorem qkw_iff {B : Nat → Int32} {p e : Nat} : ∀ (m s j : Nat), 1 ≤ s → s + m = 14 → s ≤ j → j < 14 → (qkw B p e m s = j ↔ qmt B p e j = true) := by
  intro m
  induction m with
  | zero => intro s j h1 h2 h3 h4; omega
  | succ m ih =>
    intro s j h1 h2 h3 h4
    show (if qmt B p e s = true then s else qkw B p e m (s + 1)) = j ↔ _
    by_cases hs : qmt B p e s = true
    · rw [if_pos hs]
      constructor
      · intro q; rw [← q]; exact hs
      · intro q; exact qmt_inj ⟨h1, by omega⟩ ⟨by omega, h4⟩ hs q
    · rw [if_neg hs]
      by_cases e9 : s = j
      · rw [← e9]
        constructor
        · intro q
          exfalso
          -- a later word or none can't be s
          have : ∀ (m t : Nat), s < t → qkw B p e m t ≠ s := by
            intro m
            induction m with
            | zero => intro t ht; show 0 ≠ s; omega
            | succ m ih =>
              intro t ht
              show (if _ then t else _) ≠ s
              split
              · omega
              · exact ih (t + 1) (by omega)
          exact this m (s + 1) (by omega) q
        · intro q; exact absurd q hs
      · exact ih (s + 1) j (by omega) (by omega) (by omega) h4
theorem p_isWord {B : Nat → Int32} {L n k : Nat} {v u : bM} (h : q_L B L n k v u) {j : Nat} (hj : 1 ≤ j ∧ j < 14) : fX9_isWord (26 + j) u = some (if q_kd B L n k = 4 + j then 1 else 0) := by
  have et := p_tok h
  obtain ⟨t1, t2, t3, t4, t5, t6⟩ := q_kt B L n k
  obtain ⟨h1, h2, h3, ⟨s1, s2, s3, s4, s5, s6⟩, h5, h6, ⟨l1, l2, l3⟩⟩ := h
  unfold fX9_isWord
  rw [q_ckn (by omega)]
  by_cases h0 : q_tt B L n k = 0
  · rw [et, h0, if_pos nI_0]
    have hk : k < n := by
      refine Classical.byContradiction fun q => ?_
      unfold q_tt at h0
      rw [if_neg q] at h0
      omega
    obtain ⟨g1, g2, g3, g4⟩ := s6 k hk
    obtain ⟨_, e5, _⟩ := l3 g1
    have hb := qen_b (B := B) (L := L) g1
    have hlt : qlt (B (qps B L k)) = true := by
      unfold q_tt at h0
      rw [if_pos hk] at h0
      unfold qty at h0
      split at h0
      · assumption
      · split at h0
        · omega
        · split at h0 <;> omega
    have hkd : (q_kd B L n k = 4 + j) = (qmt B (qps B L k) (qen B L (qps B L k)) j = true) := by
      unfold q_kd
      rw [if_pos hk]
      unfold qkd qwd
      rw [if_pos hlt, ← qkw_iff 13 1 j (by decide) (by decide) hj.1 hj.2]
      apply propext
      split <;> omega
    simp only [hkd]
    rw [← qmt_26 hj.2]
    have hlen := sTx_len (26 + j) (by omega)
    rw [e5, l1, pk_sub (by omega)]
    have esl : sLen (26 + j) = nI (sTx.getD (26 + j) []).length := rfl
    rw [esl]
    generalize hp : qps B L k = p at *
    generalize he : qen B L p = e at *
    generalize ht : sTx.getD (26 + j) [] = t at *
    by_cases hl : e - p = t.length
    · rw [hl, if_pos rfl]
      have f0 : fX9_flag 0 = some 0 := rfl
      have f1 : fX9_flag 1 = some 1 := rfl
      have key := q_for (F := fX9_isWord_L29 (26 + j) u) (z := fun _ _ => none) (n := t.length) (Sp := fun i K => (∀ (c : Nat), c ≤ i → (c = i ∧ (∀ q, i ≤ q → q < t.length → B (p + q) = nI (t.getD q 0)) → K (nI c) (nI i) = some 1) ∧ ((c < i ∨ ∃ q, i ≤ q ∧ q < t.length ∧ ¬ B (p + q) = nI (t.getD q 0)) → K (nI c) (nI i) = some 0))) (fun K c hc => by
        unfold fX9_isWord_L29
        rw [esl, ht, if_pos (Int32.le_refl _)]
        refine ⟨fun ⟨a1, _⟩ => by rw [a1, if_pos rfl], fun a1 => ?_⟩
        rcases a1 with a1 | ⟨q, a1, a2, _⟩
        · rw [if_neg (show ¬ nI c = nI t.length from fun q => by rw [nI_eq (by omega) (by omega)] at q; omega)]
        · omega) (fun i K hi hK c hc => by
        have ea : sAt (26 + j) (nI i) = nI (t.getD i 0) := by
          unfold sAt
          rw [nI_clamp (by omega), ht]
        have eb : u (10 + (p + i)) = B (p + i) := h3 (p + i) (by omega)
        unfold fX9_isWord_L29 fX9_isWord_J62
        rw [esl, ht, if_neg (nI_ge hi (by omega)), l1, nI_add, q_ck (by omega) (by decide), nI_clamp (by omega), q_ck hi (by omega), ea, eb, f0, f1, q_bnr, q_bnr, q_nm, q_nm, q_nm, q_nm, q_add1, q_add1, Int32.add_zero]
        refine ⟨fun ⟨a1, a2⟩ => ?_, fun a1 => ?_⟩
        · rw [if_pos (a2 i (Nat.le_refl _) hi)]
          exact (hK (c + 1) (by omega)).1 ⟨by omega, fun q b1 b2 => a2 q (by omega) b2⟩
        · by_cases g : B (p + i) = nI (t.getD i 0)
          · rw [if_pos g]
            refine (hK (c + 1) (by omega)).2 ?_
            rcases a1 with a1 | ⟨q, b1, b2, b3⟩
            · exact Or.inl (by omega)
            · refine Or.inr ⟨q, ?_, b2, b3⟩
              rcases Nat.eq_or_lt_of_le b1 with e | e
              · rw [e] at g; exact absurd g b3
              · exact e
          · rw [if_neg g]
            exact (hK c (by omega)).2 (Or.inl (by omega))) lpN 0 (Nat.zero_le _) (q_lpN _ (by omega)) 0 (Nat.le_refl _)
      by_cases hm : qmt B p e (26 + j) = true
      · rw [if_pos hm]
        have g := (qmt_iff.mp hm).2
        rw [ht] at g
        exact key.1 ⟨rfl, fun q _ hq => g q hq⟩
      · rw [if_neg hm]
        refine key.2 (Or.inr (Classical.byContradiction fun q => hm (qmt_iff.mpr ⟨by rw [ht]; exact hl.symm, fun i hi => ?_⟩)))
        rw [ht] at hi ⊢
        exact Classical.byContradiction fun g => q ⟨i, Nat.zero_le _, hi, g⟩
    · rw [if_neg (show ¬ nI (e - p) = nI t.length from fun q => hl ((nI_eq (by omega) (by omega)).mp q)), if_neg (fun q => hl (by have := (qmt_iff.mp q).1; rw [ht] at this; exact this.symm))]
  · rw [et, if_neg (show ¬ nI (q_tt B L n k) = 0 from fun q => h0 ((nI_eq (b := 0) (by omega) (by decide)).mp q)), if_neg (fun q => h0 (t6.mpr (by omega)))]
