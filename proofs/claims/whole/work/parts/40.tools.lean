/-! ===== layer 2: tools ===== -/
theorem q_ck {β : Type} {i n : Nat} {k : Option β} (h : i < n) (hn : n < 2 ^ 31) : ck (nI i) n k = k := by
  unfold ck
  exact if_neg (nI_in h hn)
theorem q_nm {α β : Type} (x : α) (k : α → β) : nm x k = k x := rfl
theorem q_bnr {α β : Type} (x : α) (k : α → Option β) : bnr (some x) k = k x := rfl
theorem q_bnd {β : Type} (x : Int32) (w : bM) (k : Int32 → bM → Option β) : bnd (some (x, w)) k = k x w := rfl
theorem q_bnw {β : Type} (w : bM) (k : bM → Option β) : bnw (some w) k = k w := rfl
theorem q_vw (v : bM) (o x : Nat) : vw v o x = v (o + x) := rfl
theorem q_for {α : Type} {F : α → α} {z : α} {Sp : Nat → α → Prop} {n : Nat} (h0 : ∀ K, Sp n (F K)) (h1 : ∀ i K, i < n → Sp (i + 1) K → Sp i (F K)) : ∀ (N i : Nat), i ≤ n → n < N + i → Sp i (lp F z N) := by
  intro N
  induction N with
  | zero => intro i h1 h2; omega
  | succ N ih =>
    intro i hi hN
    show Sp i (F (lp F z N))
    rcases Nat.eq_or_lt_of_le hi with e | e
    · rw [e]; exact h0 _
    · exact h1 i _ e (ih (i + 1) e (by omega))
theorem q_use {α : Type} {F : α → α} {z : α} {Sp : Nat → α → Prop} (h : ∀ m K, (∀ k, k < m → Sp k K) → Sp m (F K)) : ∀ (N m : Nat), m < N → Sp m (lp F z N) := by
  intro N
  induction N with
  | zero => intro m h1; omega
  | succ N ih =>
    intro m hm
    exact h m _ (fun k hk => ih k (by omega))
/-- the sum of g 0, .., g (n - 1) -/
def qS (g : Nat → Int32) : Nat → Int32
  | 0 => 0
  | n + 1 => qS g n + g n
theorem qS_congr {g g9 : Nat → Int32} {n : Nat} (h : ∀ i, i < n → g i = g9 i) : qS g n = qS g9 n := by
  induction n with
  | zero => rfl
  | succ n ih =>
    show qS g n + g n = qS g9 n + g9 n
    rw [ih (fun i hi => h i (by omega)), h n (by omega)]
/-- the sum of g over a list -/
def qM {α : Type} (g : α → Int32) : List α → Int32
  | [] => 0
  | x :: t => g x + qM g t
theorem q_lpN (n : Nat) (h : n < 100000) : n < lpN := h
theorem q_sum {γ : Type} {F : (Int32 → Int32 → γ) → Int32 → Int32 → γ} {z : Int32 → Int32 → γ} (R : Int32 → γ) (g : Nat → Int32) (n : Nat) (hn : n < 100000) (h0 : ∀ K y, F K y (nI n) = R y) (h1 : ∀ K y i, i < n → F K y (nI i) = K (y + g i) (nI (i + 1))) (y : Int32) : lp F z lpN y (nI 0) = R (y + qS g n) := by
  have key := q_for (F := F) (z := z) (n := n) (Sp := fun i K => ∀ y, K y (nI i) = R (y + (qS g n - qS g i))) (fun K y => by rw [h0, Int32.sub_self, Int32.add_zero]) (fun i K hi hK y => by
    show F K y (nI i) = _
    rw [h1 K y i hi, hK]
    show R ((y + g i) + (qS g n - (qS g i + g i))) = _
    congr 1
    grind) lpN 0 (Nat.zero_le _) (by exact q_lpN n hn) y
  rw [key]
  show R (y + (qS g n - 0)) = _
  rw [Int32.sub_zero]
theorem q_sumL {α γ : Type} {F : (Int32 → Int32 → γ) → Int32 → Int32 → γ} {z : Int32 → Int32 → γ} (R : Int32 → γ) (g : α → Int32) (L : List α) (hn : L.length < 100000) (h0 : ∀ K y, F K y (nI L.length) = R y) (h1 : ∀ K y i x, L[i]? = some x → F K y (nI i) = K (y + g x) (nI (i + 1))) (y : Int32) : lp F z lpN y (nI 0) = R (y + qM g L) := by
  have key := q_for (F := F) (z := z) (n := L.length) (Sp := fun i K => ∀ y, K y (nI i) = R (y + qM g (L.drop i))) (fun K y => by rw [h0, List.drop_length]; show _ = R (y + 0); rw [Int32.add_zero]) (fun i K hi hK y => by
    show F K y (nI i) = _
    rw [h1 K y i _ (List.getElem?_eq_getElem hi), hK, List.drop_eq_getElem_cons hi]
    show _ = R (y + (g _ + qM g _))
    rw [Int32.add_assoc]) lpN 0 (Nat.zero_le _) (by exact q_lpN _ hn) y
  rw [key, List.drop_zero]
theorem q_l0 : (0 : Int32) = nI 0 := rfl
theorem q_l1 : (1 : Int32) = nI 1 := rfl
theorem q_l2 : (2 : Int32) = nI 2 := rfl
theorem q_l3 : (3 : Int32) = nI 3 := rfl
theorem q_l4 : (4 : Int32) = nI 4 := rfl
theorem q_l5 : (5 : Int32) = nI 5 := rfl
theorem q_l6 : (6 : Int32) = nI 6 := rfl
theorem q_l7 : (7 : Int32) = nI 7 := rfl
theorem q_l8 : (8 : Int32) = nI 8 := rfl
theorem q_l9 : (9 : Int32) = nI 9 := rfl
theorem q_l10 : (10 : Int32) = nI 10 := rfl
theorem q_l11 : (11 : Int32) = nI 11 := rfl
theorem q_l12 : (12 : Int32) = nI 12 := rfl
theorem q_l13 : (13 : Int32) = nI 13 := rfl
theorem q_l20 : (20 : Int32) = nI 20 := rfl
theorem q_l23 : (23 : Int32) = nI 23 := rfl
theorem q_l24 : (24 : Int32) = nI 24 := rfl
theorem q_l28 : (28 : Int32) = nI 28 := rfl
theorem q_l37 : (37 : Int32) = nI 37 := rfl
theorem q_l40 : (40 : Int32) = nI 40 := rfl
theorem q_l60 : (60 : Int32) = nI 60 := rfl
theorem q_l208 : (208 : Int32) = nI 208 := rfl
theorem q_l232 : (232 : Int32) = nI 232 := rfl
theorem q_l496 : (496 : Int32) = nI 496 := rfl
/-- x is a number from lo to hi -/
def qb (lo hi : Nat) (x : Int32) : Prop := ∃ k : Nat, lo ≤ k ∧ k ≤ hi ∧ x = nI k
def qn (x : Int32) : Nat := x.toNatClampNeg
theorem qn_nI {k : Nat} (h : k < 2 ^ 31) : qn (nI k) = k := nI_clamp h
theorem qb_n {lo hi : Nat} {x : Int32} (h : qb lo hi x) (hh : hi < 2 ^ 31) : x = nI (qn x) ∧ lo ≤ qn x ∧ qn x ≤ hi := by
  obtain ⟨k, h1, h2, rfl⟩ := h
  rw [qn_nI (by omega)]
  exact ⟨rfl, h1, h2⟩
theorem qb_mk {lo hi k : Nat} (h1 : lo ≤ k) (h2 : k ≤ hi) : qb lo hi (nI k) := ⟨k, h1, h2, rfl⟩
theorem qb_mono {lo hi lo9 hi9 : Nat} {x : Int32} (h : qb lo hi x) (h1 : lo9 ≤ lo) (h2 : hi ≤ hi9) : qb lo9 hi9 x := by
  obtain ⟨k, h3, h4, e⟩ := h
  exact ⟨k, by omega, by omega, e⟩
theorem q_add1 (i : Nat) : nI i + 1 = nI (i + 1) := nI_1 i
