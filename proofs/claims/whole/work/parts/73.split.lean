/-! ===== layer 2: the class finds all tokens, the reference the next one ===== -/
def qps (B : Nat → Int32) (L : Nat) : Nat → Nat
  | 0 => qru qbl B L 0
  | j + 1 => qru qbl B L (qen B L (qps B L j))
theorem q_b1 : (if true = true then (1 : Int32) else 0) = 1 := rfl
theorem q_b0 : (if false = true then (1 : Int32) else 0) = 0 := rfl
def q_tf (B : Nat → Int32) (L : Nat) (w : bM) (j : Nat) : Prop := qps B L j < L ∧ w (703 + j) = nI (qkd B L (qps B L j)) ∧ w (1404 + j) = nI (qps B L j) ∧ (qdt (B (qps B L j)) = true → w (2105 + j) = nI (qcv B (qen B L (qps B L j) - qps B L j) (qps B L j) 0))
def q_sp9 (B : Nat → Int32) (L n : Nat) (w : bM) : Prop := n ≤ L ∧ qps B L n = L ∧ w 1 = nI n ∧ w (703 + n) = 0 ∧ w (1404 + n) = nI L ∧ ∀ j, j < n → q_tf B L w j
theorem q_ld {x : Int32} (h : qlt x = true) : qdt x = false := by
  unfold qlt at h
  unfold qdt
  rw [Bool.and_eq_true, Bool.not_eq_true', Bool.not_eq_true', decide_eq_false_iff_not, decide_eq_false_iff_not] at h
  have h2 : (57 : Int32) < x := by
    have h1 := h.1
    rw [Int32.lt_iff_toInt_lt, show (97 : Int32).toInt = 97 from by decide] at h1
    rw [Int32.lt_iff_toInt_lt, show (57 : Int32).toInt = 57 from by decide]
    omega
  rw [decide_eq_true h2]
  exact Bool.and_false _
section
variable {B : Nat → Int32} {L : Nat} {c : bM}
theorem c_readToken {t p : Nat} (e0 : c 0 = nI L) (e1 : c 1 = nI t) (ht : t ≤ 700) (hL : L ≤ 700) (hp : p < L) (hb : ∀ i, i < L → c (3 + i) = B i) : ∃ w, fX7_readToken (nI p) c = some (nI (qen B L p), w) ∧ w (703 + t) = nI (qkd B L p) ∧ (qdt (B p) = true → w (2105 + t) = nI (qcv B (qen B L p - p) p 0)) ∧ ∀ x, x ≠ 703 + t → x ≠ 2105 + t → w x = c x := by
  have hen := qen_b (B := B) (L := L) hp
  have start : fX7_readToken (nI p) c = (if qlt (B p) = true then (lp (fX7_readToken_L18 (nI p)) (fun _ _ => none) lpN (nI (p + 1)) c) else if qdt (B p) = true then (lp (fX7_readToken_L69 (nI p)) (fun _ _ => none) lpN (nI (p + 1)) c) else if B p = 59 then fX7_readToken_J142 c (nI (p + 1)) 1 c else fX7_readToken_J142 c (nI (p + 1)) 3 c) := by
    unfold fX7_readToken
    rw [q_ck (by omega) (by decide), nI_clamp (by omega), hb p hp, q_nm, q_add1, q_nm, c_isLetter, q_bnr]
    cases h : qlt (B p) with
    | true => rfl
    | false =>
      rw [q_b0, if_pos rfl, c_isDigit, q_bnr, if_neg (show ¬ (false = true) from fun q => by cases q)]
      cases h2 : qdt (B p) with
      | true => rfl
      | false => rfl
  rw [start]
  by_cases h1 : qlt (B p) = true
  · have een : qen B L p = qru qlt B L (p + 1) := by unfold qen; rw [if_pos h1]
    have hin := qru_in qlt B L (L - (p + 1)) (p + 1) (by omega)
    rw [if_pos h1]
    rw [← een] at hin
    generalize he : qen B L p = e at *
    have hk : qkd B L p = if qkw B p e 13 1 = 0 then 4 else 4 + qkw B p e 13 1 := by
      unfold qkd qwd
      rw [if_pos h1, he]
    refine ⟨upd c (703 + t) (nI (qkd B L p)), ?_, pk_us, fun q => ?_, fun x a1 _ => q_un a1⟩
    · exact q_for (F := fX7_readToken_L18 (nI p)) (z := fun _ _ => none) (n := e) (Sp := fun i K => p + 1 ≤ i → K (nI i) c = some (nI e, upd c (703 + t) (nI (qkd B L p)))) (fun K _ => by
        have fin : fX7_readToken_J44 (nI p) (nI e) c = some (nI e, upd c (703 + t) (nI (qkd B L p))) := by
          unfold fX7_readToken_J44
          rw [c_wordKind (B := B) (by omega) (by omega) (fun i _ h => hb i (by omega)), q_bnr, e1, q_ck (by omega) (by decide), nI_clamp (by omega), q_nm, hk]
        unfold fX7_readToken_L18
        rw [e0]
        by_cases h2 : e < L
        · rw [if_neg (nI_ge h2 (by omega)), q_ck (by omega) (by decide), nI_clamp (by omega), hb e h2, c_isLetter, q_bnr, hin.2 h2, q_b0, if_pos rfl]
          exact fin
        · rw [if_pos (nI_le (by omega) (by omega))]
          exact fin) (fun i K hi hK hpi => by
        unfold fX7_readToken_L18
        rw [e0, if_neg (nI_ge (by omega) (by omega)), q_ck (by omega) (by decide), nI_clamp (by omega), hb i (by omega), c_isLetter, q_bnr, hin.1 i hpi hi, q_b1, if_neg (by decide), q_nm, q_add1]
        exact hK (by omega)) lpN (p + 1) (by omega) (by have := q_lpN e (by omega); omega) (Nat.le_refl _)
    · rw [q_ld h1] at q
      cases q
  · rw [if_neg h1]
    by_cases h2 : qdt (B p) = true
    · have een : qen B L p = qru qdt B L (p + 1) := by unfold qen; rw [if_neg h1, if_pos h2]
      have hin := qru_in qdt B L (L - (p + 1)) (p + 1) (by omega)
      rw [if_pos h2]
      rw [← een] at hin
      generalize he : qen B L p = e at *
      have hk : qkd B L p = 2 := by
        unfold qkd
        rw [if_neg h1, if_pos h2]
      have hdig : ∀ i, p ≤ i → i < e → qdt (B i) = true := fun i a1 a2 => by
        rcases Nat.eq_or_lt_of_le a1 with q | q
        · rw [← q]; exact h2
        · exact hin.1 i q a2
      refine ⟨upd (upd c (703 + t) 2) (2105 + t) (nI (qcv B (e - p) p 0)), ?_, ?_, fun _ => pk_us, fun x a1 a2 => ?_⟩
      · exact q_for (F := fX7_readToken_L69 (nI p)) (z := fun _ _ => none) (n := e) (Sp := fun i K => p + 1 ≤ i → K (nI i) c = some (nI e, upd (upd c (703 + t) 2) (2105 + t) (nI (qcv B (e - p) p 0)))) (fun K _ => by
          have fin : fX7_readToken_J95 (nI p) (nI e) c = some (nI e, upd (upd c (703 + t) 2) (2105 + t) (nI (qcv B (e - p) p 0))) := by
            unfold fX7_readToken_J95
            rw [e1, q_ck (by omega) (by decide), nI_clamp (by omega), q_nm, c_numberOf (B := B) (by omega) (by omega) (fun i _ h => by rw [q_un (by omega)]; exact hb i (by omega)) hdig, q_bnr, q_un (by omega), e1, q_ck (by omega) (by decide), nI_clamp (by omega), q_nm]
          unfold fX7_readToken_L69
          rw [e0]
          by_cases h2 : e < L
          · rw [if_neg (nI_ge h2 (by omega)), q_ck (by omega) (by decide), nI_clamp (by omega), hb e h2, c_isDigit, q_bnr, hin.2 h2, q_b0, if_pos rfl]
            exact fin
          · rw [if_pos (nI_le (by omega) (by omega))]
            exact fin) (fun i K hi hK hpi => by
          unfold fX7_readToken_L69
          rw [e0, if_neg (nI_ge (by omega) (by omega)), q_ck (by omega) (by decide), nI_clamp (by omega), hb i (by omega), c_isDigit, q_bnr, hin.1 i hpi hi, q_b1, if_neg (by decide), q_nm, q_add1]
          exact hK (by omega)) lpN (p + 1) (by omega) (by have := q_lpN e (by omega); omega) (Nat.le_refl _)
      · rw [q_un (by omega), pk_us, hk]
        rfl
      · rw [q_un a2, q_un a1]
    · have een : qen B L p = p + 1 := by unfold qen; rw [if_neg h1, if_neg h2]
      rw [if_neg h2, een]
      have hk : nI (qkd B L p) = if B p = 59 then 1 else 3 := by
        unfold qkd
        rw [if_neg h1, if_neg h2]
        split <;> rfl
      have fin : ∀ x, fX7_readToken_J142 c (nI (p + 1)) x c = some (nI (p + 1), upd c (703 + t) x) := fun x => by
        unfold fX7_readToken_J142
        rw [e1, q_ck (by omega) (by decide), nI_clamp (by omega), q_nm]
      refine ⟨upd c (703 + t) (nI (qkd B L p)), ?_, pk_us, fun q => absurd q h2, fun x a1 _ => q_un a1⟩
      rw [fin, fin, hk]
      split <;> rfl
theorem c_split (e0 : c 0 = nI L) (hL : L ≤ 700) (hb : ∀ i, i < L → c (3 + i) = B i) : ∃ w n, fX7_split c = some w ∧ q_sp9 B L n w ∧ w 0 = nI L ∧ w 2 = 0 ∧ ∀ i, i < 700 → w (3 + i) = c (3 + i) := by
  have key := q_for (F := fX7_split_L14) (z := fun _ _ _ => none) (n := L) (Sp := fun p K => ∀ (t e : Nat) (d : bM), t ≤ p → e ≤ L → qru qbl B L (if p < e then e else p) = qps B L t → d 0 = nI L → d 1 = nI t → d 2 = 0 → (∀ i, i < 700 → d (3 + i) = c (3 + i)) → (∀ j, j < t → q_tf B L d j) → ∃ w n, K (nI e) (nI p) d = some w ∧ q_sp9 B L n w ∧ w 0 = nI L ∧ w 2 = 0 ∧ ∀ i, i < 700 → w (3 + i) = c (3 + i)) (fun K t e d ht he hq d0 d1 d2 d3 d4 => by
    rw [if_neg (by omega), qru_no (by omega)] at hq
    refine ⟨upd (upd d (703 + t) 0) (1404 + t) (nI L), t, ?_, ⟨ht, hq.symm, ?_, ?_, pk_us, fun j hj => ?_⟩, ?_, ?_, fun i hi => ?_⟩
    · unfold fX7_split_L14
      rw [d0, if_pos (Int32.le_refl _), d1, q_ck (by omega) (by decide), nI_clamp (by omega), q_nm, q_un (by omega), d0, q_nm, q_un (by omega), d1, q_ck (by omega) (by decide), nI_clamp (by omega), q_nm]
    · rw [q_un (by omega), q_un (by omega), d1]
    · rw [q_un (by omega), pk_us]
    · obtain ⟨g1, g2, g3, g4⟩ := d4 j hj
      refine ⟨g1, by rw [q_un (by omega), q_un (by omega)]; exact g2, by rw [q_un (by omega), q_un (by omega)]; exact g3, fun q => by rw [q_un (by omega), q_un (by omega)]; exact g4 q⟩
    · rw [q_un (by omega), q_un (by omega), d0]
    · rw [q_un (by omega), q_un (by omega), d2]
    · rw [q_un (by omega), q_un (by omega)]
      exact d3 i hi) (fun p K hp hK t e d ht he hq d0 d1 d2 d3 d4 => by
    by_cases h1 : p < e
    · rw [if_pos h1] at hq
      obtain ⟨w, n, g1, g2⟩ := hK t e d (by omega) he (by
        rw [← hq]
        congr 1
        split <;> omega) d0 d1 d2 d3 d4
      refine ⟨w, n, ?_, g2⟩
      unfold fX7_split_L14 fX7_split_J65
      rw [d0, if_neg (nI_ge hp (by omega)), if_pos (nI_lt h1 (by omega)), q_nm, q_add1]
      exact g1
    · rw [if_neg h1] at hq
      have hbp : d (3 + p) = B p := (d3 p (by omega)).trans (hb p hp)
      by_cases h2 : qbl (B p) = true
      · rw [qru_yes hp h2] at hq
        obtain ⟨w, n, g1, g2⟩ := hK t e d (by omega) he (by
          rw [← hq]
          congr 1
          split <;> omega) d0 d1 d2 d3 d4
        refine ⟨w, n, ?_, g2⟩
        unfold fX7_split_L14 fX7_split_J65
        rw [d0, if_neg (nI_ge hp (by omega)), if_neg (nI_nlt (by omega) (by omega)), q_ck (by omega) (by decide), nI_clamp (by omega), hbp, c_isBlank, q_bnr, h2, q_b1, if_neg (by decide), q_nm, q_add1]
        exact g1
      · rw [qru_no (fun q => h2 q.2)] at hq
        obtain ⟨r, r1, r2, r3, r4⟩ := c_readToken (B := B) (L := L) (c := upd d (1404 + t) (nI p)) (t := t) (p := p) (by rw [q_un (by omega)]; exact d0) (by rw [q_un (by omega)]; exact d1) (by omega) hL hp (fun i hi => by rw [q_un (by omega)]; exact (d3 i (by omega)).trans (hb i hi))
        have hen := qen_b (B := B) (L := L) hp
        have hr : ∀ x, x ≠ 703 + t → x ≠ 2105 + t → x ≠ 1404 + t → r x = d x := fun x a1 a2 a3 => (r4 x a1 a2).trans (q_un a3)
        obtain ⟨w, n, g1, g2⟩ := hK (t + 1) (qen B L p) (upd r 1 (nI (t + 1))) (by omega) hen.2 (by
          show _ = qru qbl B L (qen B L (qps B L t))
          rw [← hq]
          congr 1
          split <;> omega) (by rw [q_un (by omega), hr _ (by omega) (by omega) (by omega)]; exact d0) pk_us (by rw [q_un (by omega), hr _ (by omega) (by omega) (by omega)]; exact d2) (fun i hi => by rw [q_un (by omega), hr _ (by omega) (by omega) (by omega)]; exact d3 i hi) (fun j hj => by
          by_cases ej : j = t
          · rw [ej]
            refine ⟨by rw [← hq]; exact hp, ?_, ?_, fun q => ?_⟩
            · rw [q_un (by omega), r2, ← hq]
            · rw [q_un (by omega), r4 _ (by omega) (by omega), pk_us, ← hq]
            · rw [← hq] at q ⊢
              rw [q_un (by omega)]
              exact r3 q
          · obtain ⟨m1, m2, m3, m4⟩ := d4 j (by omega)
            refine ⟨m1, ?_, ?_, fun q => ?_⟩
            · rw [q_un (by omega), hr _ (by omega) (by omega) (by omega)]; exact m2
            · rw [q_un (by omega), hr _ (by omega) (by omega) (by omega)]; exact m3
            · rw [q_un (by omega), hr _ (by omega) (by omega) (by omega)]; exact m4 q)
        refine ⟨w, n, ?_, g2⟩
        have er1 : r 1 = nI t := (hr 1 (by omega) (by omega) (by omega)).trans d1
        unfold fX7_split_L14 fX7_split_J65
        rw [d0, if_neg (nI_ge hp (by omega)), if_neg (nI_nlt (by omega) (by omega)), q_ck (by omega) (by decide), nI_clamp (show p < 2 ^ 31 by omega), hbp, c_isBlank, q_bnr, if_neg h2, if_pos rfl, d1, q_ck (by omega) (by decide), nI_clamp (show t < 2 ^ 31 by omega), q_nm, r1, q_bnd, er1, q_add1, q_nm, q_nm, q_nm, q_add1]
        exact g1) lpN 0 (Nat.zero_le _) (q_lpN _ (by omega)) 0 0 (upd (upd c 1 0) 2 0) (Nat.le_refl _) (Nat.zero_le _) (by rw [if_neg (Nat.lt_irrefl _)]; rfl) (by rw [q_un (by decide), q_un (by decide)]; exact e0) (by rw [q_un (by decide), pk_us]; rfl) pk_us (fun i hi => by rw [q_un (by omega), q_un (by omega)]) (fun j hj => absurd hj (Nat.not_lt_zero _))
  obtain ⟨w, n, g1, g2⟩ := key
  refine ⟨w, n, ?_, g2⟩
  unfold fX7_split
  rw [q_nm, q_nm]
  exact g1
end
/-! the reference: the token at b -/
def q_lx (B : Nat → Int32) (L b : Nat) (z : bM) : Prop := z 7 = nI b ∧ (b = L → z 6 = 4 ∧ z 5 = nI L) ∧ (b < L → z 6 = nI (qty B b) ∧ z 5 = nI (qen B L b) ∧ (qdt (B b) = true → z 8 = nI (qrv B (qen B L b - (b + 1)) (b + 1) (qdv (B b)))))
theorem qrv_le {B : Nat → Int32} : ∀ (m p r : Nat), (∀ i, p ≤ i → i < p + m → qdt (B i) = true) → r ≤ 99999999 → qrv B m p r ≤ 99999999 := by
  intro m
  induction m with
  | zero => intro p r _ h; exact h
  | succ m ih =>
    intro p r hd h
    have := (qdt_v (hd p (Nat.le_refl _) (by omega))).2
    exact ih (p + 1) _ (fun i h1 h2 => hd i (by omega) (by omega)) (by split <;> omega)
theorem r_next {u : bM} {B : Nat → Int32} {L a : Nat} (hBi : ∀ i, i < L → u (10 + i) = B i) (e0 : u 0 = nI L) (e5 : u 5 = nI a) (ha : a ≤ L) (hL : L ≤ 700) : ∃ z, fX9_next u = some z ∧ q_lx B L (qru qbl B L a) z ∧ ∀ x, x < 5 ∨ 8 < x → z x = u x := by
  obtain ⟨b1, b2⟩ := qru_b qbl B L (L - a) a (by omega)
  obtain ⟨b3, b4⟩ := qru_in qbl B L (L - a) a (by omega)
  generalize hb : qru qbl B L a = b at *
  -- the token itself
  have tok : ∀ d : bM, d 5 = nI b → (∀ x, x ≠ 5 → d x = u x) → ∃ z, fX9_next_J52 d = some z ∧ q_lx B L b z ∧ ∀ x, x < 5 ∨ 8 < x → z x = u x := by
    intro d d5 dO
    have d0 : d 0 = nI L := (dO 0 (by decide)).trans e0
    have dB : ∀ i, i < L → d (10 + i) = B i := fun i hi => (dO _ (by omega)).trans (hBi i hi)
    by_cases hbL : b = L
    · refine ⟨upd (upd d 7 (nI b)) 6 4, ?_, ⟨by rw [q_un (by decide), pk_us], fun _ => ⟨pk_us, by rw [q_un (by decide), q_un (by decide), d5, hbL]⟩, fun q => by omega⟩, fun x hx => ?_⟩
      · unfold fX9_next_J52
        rw [d5, q_nm, q_nm, q_un (by decide), d5, q_un (by decide), d0, hbL, if_pos rfl, q_nm]
      · rw [q_un (by omega), q_un (by omega)]
        exact dO x (by omega)
    · have hbl : b < L := by omega
      have hen := qen_b (B := B) (L := L) hbl
      have hV : ∃ f, f = upd (upd d 7 (nI b)) 5 (nI (b + 1)) := ⟨_, rfl⟩
      obtain ⟨f, hf⟩ := hV
      have f5 : f 5 = nI (b + 1) := by rw [hf, pk_us]
      have f7 : f 7 = nI b := by rw [hf, q_un (by decide), pk_us]
      have fO : ∀ x, x ≠ 5 → x ≠ 7 → f x = u x := fun x a1 a2 => by rw [hf, q_un a1, q_un a2]; exact dO x a1
      have f0 : f 0 = nI L := (fO 0 (by decide) (by decide)).trans e0
      have fB : ∀ i, i < L → f (10 + i) = B i := fun i hi => (fO _ (by omega) (by omega)).trans (hBi i hi)
      have start : fX9_next_J52 d = (if qlt (B b) = true then lp fX9_next_L109 (fun _ => none) lpN (upd f 6 0) else if qdt (B b) = true then lp fX9_next_L168 (fun _ => none) lpN (upd (upd f 6 1) 8 (B b - 48)) else if B b = 59 then some (upd f 6 2) else some (upd f 6 3)) := by
        unfold fX9_next_J52 fX9_next_J257
        rw [d5, q_nm, q_nm, q_un (show 5 ≠ 7 by decide), d5, q_un (show 0 ≠ 7 by decide), d0, if_neg (show ¬ nI b = nI L from fun q => hbL ((nI_eq (by omega) (by omega)).mp q)), q_ck (by omega) (by decide), nI_clamp (by omega), q_un (show 10 + b ≠ 7 by omega), dB b hbl, q_nm, q_add1, q_nm, q_nm, ← hf, r_isSmall, q_bnr]
        cases h : qlt (B b) with
        | true => rfl
        | false =>
          rw [q_b0, if_pos rfl, r_isDigit, q_bnr, if_neg (show ¬ (false = true) from fun q => by cases q)]
          cases h2 : qdt (B b) with
          | true => rfl
          | false => rfl
      rw [start]
      by_cases h1 : qlt (B b) = true
      · rw [if_pos h1]
        have een : qen B L b = qru qlt B L (b + 1) := by unfold qen; rw [if_pos h1]
        have hin := qru_in qlt B L (L - (b + 1)) (b + 1) (by omega)
        rw [← een] at hin
        have hty : qty B b = 0 := by unfold qty; rw [if_pos h1]
        generalize he : qen B L b = e at *
        obtain ⟨z, z1, z2, z3⟩ := q_for (F := fX9_next_L109) (z := fun _ => none) (n := e) (Sp := fun i K => b + 1 ≤ i → ∀ g : bM, g 5 = nI i → (∀ x, x ≠ 5 → g x = upd f 6 0 x) → ∃ z, K g = some z ∧ z 5 = nI e ∧ ∀ x, x ≠ 5 → z x = upd f 6 0 x) (fun K _ g g5 gO => by
          refine ⟨g, ?_, g5, gO⟩
          have g0 : g 0 = nI L := by rw [gO 0 (by decide), q_un (by decide)]; exact f0
          unfold fX9_next_L109
          rw [g0, g5]
          by_cases h2 : e < L
          · rw [if_neg (nI_ge h2 (by omega)), q_ck (by omega) (by decide), nI_clamp (by omega), gO _ (by omega), q_un (by omega), fB _ (by omega), r_isSmall, q_bnr, hin.2 h2, q_b0, if_pos rfl]
          · rw [if_pos (nI_le (by omega) (by omega))]) (fun i K hi hK hbi g g5 gO => by
          obtain ⟨z, z1, z2⟩ := hK (by omega) (upd g 5 (nI (i + 1))) pk_us (fun x hx => by rw [q_un hx]; exact gO x hx)
          refine ⟨z, ?_, z2⟩
          have g0 : g 0 = nI L := by rw [gO 0 (by decide), q_un (by decide)]; exact f0
          unfold fX9_next_L109
          rw [g0, g5, if_neg (nI_ge (by omega) (by omega)), q_ck (by omega) (by decide), nI_clamp (by omega), gO _ (by omega), q_un (by omega), fB _ (by omega), r_isSmall, q_bnr, hin.1 i hbi hi, q_b1, if_neg (by decide), q_add1, q_nm, q_nm]
          exact z1) lpN (b + 1) (by omega) (by have := q_lpN e (by omega); omega) (Nat.le_refl _) (upd f 6 0) (by rw [q_un (by decide)]; exact f5) (fun _ _ => rfl)
        refine ⟨z, z1, ⟨by rw [z3 7 (by decide), q_un (by decide)]; exact f7, fun q => absurd q hbL, fun _ => ⟨by rw [z3 6 (by decide), pk_us, hty]; rfl, by rw [he]; exact z2, fun q => by rw [q_ld h1] at q; cases q⟩⟩, fun x hx => ?_⟩
        rw [z3 x (by omega), q_un (by omega)]
        exact fO x (by omega) (by omega)
      · rw [if_neg h1]
        by_cases h2 : qdt (B b) = true
        · rw [if_pos h2]
          have een : qen B L b = qru qdt B L (b + 1) := by unfold qen; rw [if_neg h1, if_pos h2]
          have hin := qru_in qdt B L (L - (b + 1)) (b + 1) (by omega)
          rw [← een] at hin
          have hty : qty B b = 1 := by unfold qty; rw [if_neg h1, if_pos h2]
          obtain ⟨v1, v2⟩ := qdt_v h2
          have ev : B b - 48 = nI (qdv (B b)) := by
            rw [v1, show (48 : Int32) = nI 48 from rfl, pk_sub (by omega), ← v1]
            exact congrArg nI (by omega)
          generalize he : qen B L b = e at *
          obtain ⟨z, z1, z2, z3, z4⟩ := q_for (F := fX9_next_L168) (z := fun _ => none) (n := e) (Sp := fun i K => b + 1 ≤ i → ∀ (g : bM) (r : Nat), r ≤ 99999999 → g 5 = nI i → g 8 = nI r → (∀ x, x ≠ 5 → x ≠ 8 → g x = upd f 6 1 x) → ∃ z, K g = some z ∧ z 5 = nI e ∧ z 8 = nI (qrv B (e - i) i r) ∧ ∀ x, x ≠ 5 → x ≠ 8 → z x = upd f 6 1 x) (fun K _ g r hr g5 g8 gO => by
            refine ⟨g, ?_, g5, by rw [Nat.sub_self]; exact g8, gO⟩
            have g0 : g 0 = nI L := by rw [gO 0 (by decide) (by decide), q_un (by decide)]; exact f0
            unfold fX9_next_L168
            rw [g0, g5]
            by_cases h2 : e < L
            · rw [if_neg (nI_ge h2 (by omega)), q_ck (by omega) (by decide), nI_clamp (by omega), gO _ (by omega) (by omega), q_un (by omega), fB _ (by omega), r_isDigit, q_bnr, hin.2 h2, q_b0, if_pos rfl]
            · rw [if_pos (nI_le (by omega) (by omega))]) (fun i K hi hK hbi g r hr g5 g8 gO => by
            have hdi := hin.1 i hbi hi
            obtain ⟨w1, w2⟩ := qdt_v hdi
            obtain ⟨z, z1, z2, z3, z4⟩ := hK (by omega) (upd (upd g 8 (nI (if r ≤ 9999999 then 10 * r + qdv (B i) else 99999999))) 5 (nI (i + 1))) (if r ≤ 9999999 then 10 * r + qdv (B i) else 99999999) (by split <;> omega) pk_us (by rw [q_un (by decide), pk_us]) (fun x a1 a2 => by rw [q_un a1, q_un a2]; exact gO x a1 a2)
            refine ⟨z, ?_, z2, by rw [z3, show e - i = (e - (i + 1)) + 1 by omega]; rfl, z4⟩
            have g0 : g 0 = nI L := by rw [gO 0 (by decide) (by decide), q_un (by decide)]; exact f0
            have gi : g (10 + i) = B i := by rw [gO _ (by omega) (by omega), q_un (by omega), fB _ (by omega)]
            unfold fX9_next_L168 fX9_next_J229
            rw [g0, g5, if_neg (nI_ge (by omega) (by omega)), q_ck (by omega) (by decide), nI_clamp (by omega), gi, r_isDigit, q_bnr, hdi, q_b1, if_neg (by decide), g8, q_ck (by omega) (by decide)]
            have en : (10 : Int32) * nI r + B i - 48 = nI (10 * r + qdv (B i)) := by
              rw [w1, q_l10, show (48 : Int32) = nI 48 from rfl, pk_mul, nI_add, pk_sub (by omega), ← w1]
              exact congrArg nI (by omega)
            rw [en, q_nm, q_nm, q_nm, q_nm, q_nm, q_nm, q_un (by decide), q_un (by decide), g5, q_add1]
            by_cases h3 : r ≤ 9999999
            · rw [if_pos (show nI r ≤ 9999999 from nI_le (b := 9999999) h3 (by decide))]
              rw [if_pos h3] at z1
              exact z1
            · rw [if_neg (show ¬ nI r ≤ 9999999 from nI_ge (a := 9999999) (by omega) (by omega))]
              rw [if_neg h3] at z1
              exact z1) lpN (b + 1) (by omega) (by have := q_lpN e (by omega); omega) (Nat.le_refl _) (upd (upd f 6 1) 8 (B b - 48)) (qdv (B b)) (by omega) (by rw [q_un (by decide), q_un (by decide)]; exact f5) (by rw [pk_us, ev]) (fun x a1 a2 => q_un a2)
          refine ⟨z, z1, ⟨by rw [z4 7 (by decide) (by decide), q_un (by decide)]; exact f7, fun q => absurd q hbL, fun _ => ⟨by rw [z4 6 (by decide) (by decide), pk_us, hty]; rfl, by rw [he]; exact z2, fun _ => by rw [he]; exact z3⟩⟩, fun x hx => ?_⟩
          rw [z4 x (by omega) (by omega), q_un (by omega)]
          exact fO x (by omega) (by omega)
        · rw [if_neg h2]
          have een : qen B L b = b + 1 := by unfold qen; rw [if_neg h1, if_neg h2]
          have hty : nI (qty B b) = if B b = 59 then 2 else 3 := by
            unfold qty
            rw [if_neg h1, if_neg h2]
            split <;> rfl
          refine ⟨upd f 6 (nI (qty B b)), ?_, ⟨by rw [q_un (by decide)]; exact f7, fun q => absurd q hbL, fun _ => ⟨pk_us, by rw [q_un (by decide), een]; exact f5, fun q => absurd q h2⟩⟩, fun x hx => ?_⟩
          · rw [hty]
            split <;> rfl
          · rw [q_un (by omega)]
            exact fO x (by omega) (by omega)
  -- the blanks
  obtain ⟨z, z1, z2⟩ := q_for (F := fX9_next_L0) (z := fun _ => none) (n := b) (Sp := fun i K => a ≤ i → ∀ d : bM, d 5 = nI i → (∀ x, x ≠ 5 → d x = u x) → ∃ z, K d = some z ∧ q_lx B L b z ∧ ∀ x, x < 5 ∨ 8 < x → z x = u x) (fun K _ d d5 dO => by
    obtain ⟨z, z1, z2⟩ := tok d d5 dO
    refine ⟨z, ?_, z2⟩
    have d0 : d 0 = nI L := (dO 0 (by decide)).trans e0
    unfold fX9_next_L0
    rw [d0, d5]
    by_cases h : b < L
    · have hn := b4 h
      unfold qbl at hn
      rw [Bool.or_eq_false_iff, decide_eq_false_iff_not, decide_eq_false_iff_not] at hn
      have dB : d (10 + b) = B b := (dO _ (by omega)).trans (hBi b h)
      rw [if_neg (nI_ge h (by omega)), q_ck (by omega) (by decide), nI_clamp (by omega), dB, if_neg hn.1, q_ck (by omega) (by decide), if_neg hn.2]
      exact z1
    · rw [if_pos (nI_le (by omega) (by omega))]
      exact z1) (fun i K hi hK hai d d5 dO => by
    obtain ⟨z, z1, z2⟩ := hK (by omega) (upd d 5 (nI (i + 1))) pk_us (fun x hx => by rw [q_un hx]; exact dO x hx)
    refine ⟨z, ?_, z2⟩
    have d0 : d 0 = nI L := (dO 0 (by decide)).trans e0
    have dB : d (10 + i) = B i := (dO _ (by omega)).trans (hBi i (by omega))
    have hn := b3 i hai hi
    unfold qbl at hn
    unfold fX9_next_L0 fX9_next_J39
    rw [d0, d5, if_neg (nI_ge (by omega) (by omega)), q_ck (by omega) (by decide), nI_clamp (by omega), dB, q_add1, q_nm, q_nm]
    rw [q_ck (by omega) (by decide)]
    by_cases h32 : B i = 32
    · rw [if_pos h32]
      exact z1
    · rw [if_neg h32]
      by_cases h10 : B i = 10
      · rw [if_pos h10]
        exact z1
      · rw [decide_eq_false h32, decide_eq_false h10] at hn
        cases hn) lpN a (by omega) (by have := q_lpN b (by omega); omega) (Nat.le_refl _) u e5 (fun _ _ => rfl)
  exact ⟨z, z1, z2⟩
