/-! ===== layer 2: the tokens of a text ===== -/
def qlt (x : Int32) : Bool := !decide (x < 97) && !decide (122 < x)
def qdt (x : Int32) : Bool := !decide (x < 48) && !decide (57 < x)
def qbl (x : Int32) : Bool := decide (x = 32) || decide (x = 10)
/-- the first place from p on where C doesn't hold, L at the latest -/
def qsk (C : Int32 → Bool) (B : Nat → Int32) (L : Nat) : Nat → Nat → Nat
  | 0, p => p
  | n + 1, p => if p < L ∧ C (B p) = true then qsk C B L n (p + 1) else p
def qru (C : Int32 → Bool) (B : Nat → Int32) (L p : Nat) : Nat := qsk C B L (L - p) p
theorem qru_yes {C : Int32 → Bool} {B : Nat → Int32} {L p : Nat} (h : p < L) (hc : C (B p) = true) : qru C B L p = qru C B L (p + 1) := by
  unfold qru
  rw [show L - p = (L - (p + 1)) + 1 by omega]
  show (if p < L ∧ C (B p) = true then _ else p) = _
  rw [if_pos ⟨h, hc⟩]
theorem qru_no {C : Int32 → Bool} {B : Nat → Int32} {L p : Nat} (h : ¬ (p < L ∧ C (B p) = true)) : qru C B L p = p := by
  unfold qru
  cases e : L - p with
  | zero => rfl
  | succ n =>
    show (if p < L ∧ C (B p) = true then _ else p) = _
    rw [if_neg h]
theorem qru_b (C : Int32 → Bool) (B : Nat → Int32) (L : Nat) : ∀ (m p : Nat), p + m = L → p ≤ qru C B L p ∧ qru C B L p ≤ L := by
  intro m
  induction m with
  | zero => intro p h; rw [qru_no (by omega)]; omega
  | succ m ih =>
    intro p h
    by_cases hc : p < L ∧ C (B p) = true
    · rw [qru_yes hc.1 hc.2]
      have := ih (p + 1) (by omega)
      omega
    · rw [qru_no hc]
      omega
theorem qru_in (C : Int32 → Bool) (B : Nat → Int32) (L : Nat) : ∀ (m p : Nat), p + m = L → (∀ i, p ≤ i → i < qru C B L p → C (B i) = true) ∧ (qru C B L p < L → C (B (qru C B L p)) = false) := by
  intro m
  induction m with
  | zero => intro p h; rw [qru_no (by omega)]; exact ⟨fun i h1 h2 => by omega, fun q => by omega⟩
  | succ m ih =>
    intro p h
    by_cases hc : p < L ∧ C (B p) = true
    · rw [qru_yes hc.1 hc.2]
      obtain ⟨g1, g2⟩ := ih (p + 1) (by omega)
      refine ⟨fun i h1 h2 => ?_, g2⟩
      rcases Nat.eq_or_lt_of_le h1 with e | e
      · rw [← e]; exact hc.2
      · exact g1 i e h2
    · rw [qru_no hc]
      refine ⟨fun i h1 h2 => by omega, fun q => ?_⟩
      cases h9 : C (B p) with
      | false => rfl
      | true => exact absurd ⟨q, h9⟩ hc
def qen (B : Nat → Int32) (L p : Nat) : Nat := if qlt (B p) = true then qru qlt B L (p + 1) else if qdt (B p) = true then qru qdt B L (p + 1) else p + 1
theorem qen_b {B : Nat → Int32} {L p : Nat} (h : p < L) : p + 1 ≤ qen B L p ∧ qen B L p ≤ L := by
  unfold qen
  have g1 := qru_b qlt B L (L - (p + 1)) (p + 1) (by omega)
  have g2 := qru_b qdt B L (L - (p + 1)) (p + 1) (by omega)
  split
  · exact g1
  · split
    · exact g2
    · omega
/-- the text j of the class stands at p .. e - 1 -/
def qmt (B : Nat → Int32) (p e j : Nat) : Bool := decide ((sTx.getD j []).length = e - p) && (List.range (sTx.getD j []).length).all (fun i => decide (B (p + i) = nI ((sTx.getD j []).getD i 0)))
theorem qmt_iff {B : Nat → Int32} {p e j : Nat} : qmt B p e j = true ↔ (sTx.getD j []).length = e - p ∧ ∀ i, i < (sTx.getD j []).length → B (p + i) = nI ((sTx.getD j []).getD i 0) := by
  unfold qmt
  rw [Bool.and_eq_true, decide_eq_true_eq, List.all_eq_true]
  constructor
  · intro h
    exact ⟨h.1, fun i hi => of_decide_eq_true (h.2 i (List.mem_range.mpr hi))⟩
  · intro h
    exact ⟨h.1, fun i hi => decide_eq_true (h.2 i (List.mem_range.mp hi))⟩
/-- the first of the words j, .., j + m - 1 that stands there; 0: none -/
def qkw (B : Nat → Int32) (p e : Nat) : Nat → Nat → Nat
  | 0, _ => 0
  | m + 1, j => if qmt B p e j = true then j else qkw B p e m (j + 1)
def qwd (B : Nat → Int32) (L p : Nat) : Nat := qkw B p (qen B L p) 13 1
def qkd (B : Nat → Int32) (L p : Nat) : Nat := if qlt (B p) = true then (if qwd B L p = 0 then 4 else 4 + qwd B L p) else if qdt (B p) = true then 2 else if B p = 59 then 1 else 3
def qty (B : Nat → Int32) (p : Nat) : Nat := if qlt (B p) = true then 0 else if qdt (B p) = true then 1 else if B p = 59 then 2 else 3
def qdv (x : Int32) : Nat := qn x - 48
/-- numbers, as the class counts (to 1000000) and as the reference counts -/
def qcv (B : Nat → Int32) : Nat → Nat → Nat → Nat
  | 0, _, c => c
  | m + 1, p, c => qcv B m (p + 1) (if 1000000 < 10 * c + qdv (B p) then 1000000 else 10 * c + qdv (B p))
def qrv (B : Nat → Int32) : Nat → Nat → Nat → Nat
  | 0, _, c => c
  | m + 1, p, c => qrv B m (p + 1) (if c ≤ 9999999 then 10 * c + qdv (B p) else 99999999)
def qNR (c r : Nat) : Prop := (c = r ∧ c < 1000000) ∨ (c = 1000000 ∧ 1000000 ≤ r ∧ r ≤ 99999999)
theorem qdt_v {x : Int32} (h : qdt x = true) : x = nI (qdv x + 48) ∧ qdv x ≤ 9 := by
  unfold qdt at h
  rw [Bool.and_eq_true, Bool.not_eq_true', Bool.not_eq_true', decide_eq_false_iff_not, decide_eq_false_iff_not] at h
  obtain ⟨h1, h2⟩ := h
  rw [Int32.lt_iff_toInt_lt, show (48 : Int32).toInt = 48 from by decide] at h1
  rw [Int32.lt_iff_toInt_lt, show (57 : Int32).toInt = 57 from by decide] at h2
  have e := q_0le (x := x) (by rw [Int32.le_iff_toInt_le, show (0 : Int32).toInt = 0 from by decide]; omega)
  have hq : qn x < 2 ^ 31 := Int32.toNatClampNeg_lt x
  have h4 := nI_toInt hq
  rw [← e] at h4
  unfold qdv
  rw [show qn x - 48 + 48 = qn x by omega]
  exact ⟨e, by omega⟩
theorem qNR_step {B : Nat → Int32} : ∀ (m p c r : Nat), (∀ i, p ≤ i → i < p + m → qdt (B i) = true) → qNR c r → qNR (qcv B m p c) (qrv B m p r) := by
  intro m
  induction m with
  | zero => intro p c r _ h; exact h
  | succ m ih =>
    intro p c r hd h
    have hd0 := (qdt_v (hd p (Nat.le_refl _) (by omega))).2
    refine ih (p + 1) _ _ (fun i h1 h2 => hd i (by omega) (by omega)) ?_
    rcases h with ⟨e, h1⟩ | ⟨e, h1, h2⟩
    · rw [← e, if_pos (show c ≤ 9999999 by omega)]
      by_cases h3 : 1000000 < 10 * c + qdv (B p)
      · rw [if_pos h3]
        exact Or.inr ⟨rfl, by omega, by omega⟩
      · rw [if_neg h3]
        by_cases h4 : 10 * c + qdv (B p) < 1000000
        · exact Or.inl ⟨rfl, h4⟩
        · exact Or.inr ⟨by omega, by omega, by omega⟩
    · rw [e, if_pos (show 1000000 < 10 * 1000000 + qdv (B p) by omega)]
      refine Or.inr ⟨rfl, ?_, ?_⟩
      · split <;> omega
      · split <;> omega
theorem qNR_num {B : Nat → Int32} {p e : Nat} (he : p < e) (hd : ∀ i, p ≤ i → i < e → qdt (B i) = true) : qNR (qcv B (e - p) p 0) (qrv B (e - (p + 1)) (p + 1) (qdv (B p))) := by
  have hd0 := (qdt_v (hd p (Nat.le_refl _) he)).2
  rw [show e - p = (e - (p + 1)) + 1 by omega]
  show qNR (qcv B (e - (p + 1)) (p + 1) (if 1000000 < 10 * 0 + qdv (B p) then 1000000 else 10 * 0 + qdv (B p))) _
  rw [if_neg (by omega)]
  exact qNR_step _ _ _ _ (fun i h1 h2 => hd i (by omega) (by omega)) (Or.inl ⟨by omega, by omega⟩)
/-! the class' tests of a byte -/
theorem c_isLetter (x : Int32) : fX7_isLetter x = some (if qlt x = true then 1 else 0) := by
  unfold fX7_isLetter qlt
  by_cases h1 : x < 97
  · rw [if_pos h1, decide_eq_true h1]; rfl
  · rw [if_neg h1, decide_eq_false h1]
    by_cases h2 : 122 < x
    · rw [if_pos h2, decide_eq_true h2]; rfl
    · rw [if_neg h2, decide_eq_false h2]; rfl
theorem c_isDigit (x : Int32) : fX7_isDigit x = some (if qdt x = true then 1 else 0) := by
  unfold fX7_isDigit qdt
  by_cases h1 : x < 48
  · rw [if_pos h1, decide_eq_true h1]; rfl
  · rw [if_neg h1, decide_eq_false h1]
    by_cases h2 : 57 < x
    · rw [if_pos h2, decide_eq_true h2]; rfl
    · rw [if_neg h2, decide_eq_false h2]; rfl
theorem c_isBlank (x : Int32) : fX7_isBlank x = some (if qbl x = true then 1 else 0) := by
  unfold fX7_isBlank fX7_isBlank_J12 qbl
  by_cases h1 : x = 32
  · rw [if_pos h1, decide_eq_true h1]; rfl
  · rw [if_neg h1, decide_eq_false h1]
    by_cases h2 : x = 10
    · rw [if_pos h2, decide_eq_true h2]; rfl
    · rw [if_neg h2, decide_eq_false h2]; rfl
theorem r_isSmall (x : Int32) : fX9_isSmall x = some (if qlt x = true then 1 else 0) := by
  unfold fX9_isSmall fX9_inRange qlt
  by_cases h1 : x < 97
  · rw [if_pos h1, decide_eq_true h1]; rfl
  · rw [if_neg h1, decide_eq_false h1]
    by_cases h2 : 122 < x
    · rw [if_pos h2, decide_eq_true h2]; rfl
    · rw [if_neg h2, decide_eq_false h2]; rfl
theorem r_isDigit (x : Int32) : fX9_isDigit x = some (if qdt x = true then 1 else 0) := by
  unfold fX9_isDigit fX9_inRange qdt
  by_cases h1 : x < 48
  · rw [if_pos h1, decide_eq_true h1]; rfl
  · rw [if_neg h1, decide_eq_false h1]
    by_cases h2 : 57 < x
    · rw [if_pos h2, decide_eq_true h2]; rfl
    · rw [if_neg h2, decide_eq_false h2]; rfl
theorem q_i0 {b : Bool} : (if b = true then (1 : Int32) else 0) = 0 ↔ b = false := by
  cases b
  · exact ⟨fun _ => rfl, fun _ => rfl⟩
  · exact ⟨fun h => absurd h (by decide), fun h => by cases h⟩
/-! the class' text block: length 0, tokens 1, current 2, bytes 3, kinds 703, starts 1404, numbers 2105 -/
section
variable {B : Nat → Int32} {L : Nat} {c : bM}
theorem c_numberOf {p e : Nat} (hp : p ≤ e) (he : e ≤ 700) (hb : ∀ i, p ≤ i → i < e → c (3 + i) = B i) (hd : ∀ i, p ≤ i → i < e → qdt (B i) = true) : fX7_numberOf (nI p) (nI e) c = some (nI (qcv B (e - p) p 0)) := by
  have key := q_for (F := fX7_numberOf_L5 (nI e) c) (z := fun _ _ => none) (n := e) (Sp := fun i K => p ≤ i → ∀ y : Nat, y ≤ 1000000 → K (nI y) (nI i) = some (nI (qcv B (e - i) i y))) (fun K _ y hy => by
    unfold fX7_numberOf_L5
    rw [if_pos (Int32.le_refl _), Nat.sub_self]
    rfl) (fun i K hi hK hpi y hy => by
    obtain ⟨d1, d2⟩ := qdt_v (hd i hpi hi)
    have ev : nI y * 10 + B i - 48 = nI (10 * y + qdv (B i)) := by
      rw [d1, q_l10, show (48 : Int32) = nI 48 from rfl, pk_mul, nI_add, pk_sub (by omega)]
      rw [← d1]
      exact congrArg nI (by omega)
    have e2 : (if (1000000 : Int32) < nI (10 * y + qdv (B i)) then 1000000 else nI (10 * y + qdv (B i))) = nI (if 1000000 < 10 * y + qdv (B i) then 1000000 else 10 * y + qdv (B i)) := by
      rw [show (1000000 : Int32) = nI 1000000 from rfl]
      by_cases h : 1000000 < 10 * y + qdv (B i)
      · rw [if_pos h, if_pos (nI_lt h (by omega))]
      · rw [if_neg h, if_neg (nI_nlt (by omega) (by decide))]
    unfold fX7_numberOf_L5
    rw [if_neg (nI_ge hi (by omega)), q_ck (by omega) (by decide), nI_clamp (by omega), hb i hpi hi, ev, e2, q_nm, q_nm, q_add1, hK (by omega) _ (by split <;> omega), show e - i = (e - (i + 1)) + 1 by omega]
    rfl) lpN p hp (by have := q_lpN e (by omega); omega) (Nat.le_refl _) 0 (Nat.zero_le _)
  unfold fX7_numberOf
  exact key
theorem sTx_len : ∀ j, j < 40 → (sTx.getD j []).length < 300 := by decide +kernel
theorem c_isWord {p e j : Nat} (hj : j < 40) (hp : p ≤ e) (he : e ≤ 700) (hb : ∀ i, p ≤ i → i < e → c (3 + i) = B i) : fX7_isWord j (nI p) (nI e) c = some (if qmt B p e j = true then 1 else 0) := by
  have hlen := sTx_len j hj
  unfold fX7_isWord
  rw [q_ckn hj, pk_sub hp]
  have esl : sLen j = nI (sTx.getD j []).length := rfl
  rw [esl]
  generalize ht : sTx.getD j [] = t at *
  by_cases h1 : t.length = e - p
  · rw [h1, if_pos rfl]
    have key := q_for (F := fX7_isWord_L20 j (nI p) c) (z := fun _ _ => none) (n := t.length) (Sp := fun i K => ((∀ k, i ≤ k → k < t.length → B (p + k) = nI (t.getD k 0)) → K 1 (nI i) = some 1) ∧ ((∃ k, i ≤ k ∧ k < t.length ∧ ¬ B (p + k) = nI (t.getD k 0)) → K 1 (nI i) = some 0) ∧ K 0 (nI i) = some 0) (fun K => by
      unfold fX7_isWord_L20
      rw [esl, ht]
      refine ⟨fun _ => ?_, fun ⟨k, g1, g2, _⟩ => by omega, ?_⟩
      · rw [if_neg (by decide), if_pos (Int32.le_refl _), q_l1, q_ck (by decide) (by decide)]
      · rw [if_pos rfl, q_l0, q_ck (by decide) (by decide)]) (fun i K hi hK => by
      have ea : sAt j (nI i) = nI (t.getD i 0) := by
        unfold sAt
        rw [nI_clamp (by omega), ht]
      have e3 : c (3 + (p + i)) = B (p + i) := hb (p + i) (by omega) (by omega)
      unfold fX7_isWord_L20 fX7_isWord_J57
      rw [esl, ht, if_neg (nI_ge hi (by omega)), nI_add, q_ck (by omega) (by decide), nI_clamp (by omega), q_ck hi (by omega), ea, e3, q_nm, q_nm, q_add1]
      refine ⟨fun g => ?_, fun ⟨k, g1, g2, g3⟩ => ?_, ?_⟩
      · rw [if_neg (by decide), if_pos (g i (Nat.le_refl _) hi)]
        exact hK.1 (fun k h1 h2 => g k (by omega) h2)
      · rw [if_neg (by decide)]
        by_cases g : B (p + i) = nI (t.getD i 0)
        · rw [if_pos g]
          refine hK.2.1 ⟨k, ?_, g2, g3⟩
          rcases Nat.eq_or_lt_of_le g1 with e | e
          · rw [e] at g; exact absurd g g3
          · exact e
        · rw [if_neg g]
          exact hK.2.2
      · rw [if_pos rfl, q_l0, q_ck (by decide) (by decide)]) lpN 0 (Nat.zero_le _) (q_lpN _ (by omega))
    unfold fX7_isWord_J15
    by_cases h2 : qmt B p e j = true
    · rw [if_pos h2]
      have h3 := (qmt_iff.mp h2).2
      rw [ht] at h3
      exact key.1 (fun k _ hk => h3 k hk)
    · rw [if_neg h2]
      refine key.2.1 (Classical.byContradiction fun q => h2 (qmt_iff.mpr ⟨by rw [ht]; exact h1, fun i hi => ?_⟩))
      rw [ht] at hi ⊢
      exact Classical.byContradiction fun g => q ⟨i, Nat.zero_le _, hi, g⟩
  · have h2 : ¬ qmt B p e j = true := fun q => h1 (by have := (qmt_iff.mp q).1; rw [ht] at this; exact this)
    rw [if_neg (show ¬ nI t.length = nI (e - p) from fun q => h1 ((nI_eq (by omega) (by omega)).mp q)), if_neg h2]
    unfold fX7_isWord_J15
    have key := q_for (F := fX7_isWord_L20 j (nI p) c) (z := fun _ _ => none) (n := 0) (Sp := fun i K => K 0 (nI i) = some 0) (fun K => by
      unfold fX7_isWord_L20
      rw [if_pos rfl, q_l0, q_ck (by decide) (by decide)]) (fun i K hi hK => absurd hi (Nat.not_lt_zero _)) lpN 0 (Nat.zero_le _) (q_lpN _ (by decide))
    exact key
theorem c_wordOf : ∀ j, j < 13 → fX7_wordOf (nI (5 + j)) = some (1 + j) := by decide +kernel
theorem c_wordKind {p e : Nat} (hp : p ≤ e) (he : e ≤ 700) (hb : ∀ i, p ≤ i → i < e → c (3 + i) = B i) : fX7_wordKind (nI p) (nI e) c = some (nI (if qkw B p e 13 1 = 0 then 4 else 4 + qkw B p e 13 1)) := by
  have key := q_for (F := fX7_wordKind_L2 (nI p) (nI e) c) (z := fun _ => none) (n := 13) (Sp := fun i K => K (nI (5 + i)) = some (nI (if qkw B p e (13 - i) (1 + i) = 0 then 4 else 4 + qkw B p e (13 - i) (1 + i)))) (fun K => by
    unfold fX7_wordKind_L2
    rw [show (17 : Int32) = nI 17 from rfl, if_pos (nI_lt (by decide) (by decide))]
    rfl) (fun i K hi hK => by
    have eq : qkw B p e (13 - i) (1 + i) = if qmt B p e (1 + i) = true then 1 + i else qkw B p e (13 - (i + 1)) (1 + (i + 1)) := by
      rw [show 13 - i = (13 - (i + 1)) + 1 by omega]
      rfl
    unfold fX7_wordKind_L2
    rw [show (17 : Int32) = nI 17 from rfl, if_neg (nI_nlt (by omega) (by decide)), c_wordOf i hi, q_bnr, c_isWord (by omega) hp he hb, q_bnr, eq, q_add1]
    by_cases h : qmt B p e (1 + i) = true
    · rw [if_pos h, if_pos h, if_neg (by decide), if_neg (by omega), show 4 + (1 + i) = 5 + i by omega]
    · rw [if_neg h, if_neg h, if_pos rfl, q_nm]
      exact hK) lpN 0 (by decide) (q_lpN _ (by decide))
  unfold fX7_wordKind
  exact key
end
