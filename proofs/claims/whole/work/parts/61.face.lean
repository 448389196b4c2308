/-! ===== layer 2: the face: ranges, indices ===== -/
def q_in (p lo hi : Int32) : Prop := ¬ p < lo ∧ p ≤ hi
theorem q_rg {p lo hi : Int32} (h : q_in p lo hi) : fX8_requireRange p lo hi = some () ∧ xX8_requireRange p lo hi = none ∧ fX9_inRange p lo hi = some 1 := by
  unfold fX8_requireRange xX8_requireRange fX9_inRange
  rw [if_neg h.1, if_neg h.1, if_neg h.1, if_pos h.2, if_pos h.2, if_neg (q_nlt h.2)]
  exact ⟨rfl, rfl, rfl⟩
theorem q_rgn {p lo hi : Int32} (h : ¬ q_in p lo hi) : fX8_requireRange p lo hi = none ∧ xX8_requireRange p lo hi = some 1 ∧ fX9_inRange p lo hi = some 0 := by
  unfold fX8_requireRange xX8_requireRange fX9_inRange
  by_cases h1 : p < lo
  · rw [if_pos h1, if_pos h1, if_pos h1]
    exact ⟨rfl, rfl, rfl⟩
  · have h2 : ¬ p ≤ hi := fun q => h ⟨h1, q⟩
    rw [if_neg h1, if_neg h1, if_neg h1, if_neg h2, if_neg h2, if_pos (q_ltn h2)]
    exact ⟨rfl, rfl, rfl⟩
theorem q_in_n {p : Int32} {lo hi : Nat} (h : q_in p (nI lo) (nI hi)) (hh : hi < 2 ^ 31) (hl : lo < 2 ^ 31) : ∃ k, p = nI k ∧ lo ≤ k ∧ k ≤ hi := by
  have h0 : ¬ p < 0 := fun q => h.1 (by
    have := nI_toInt hl
    rw [Int32.lt_iff_toInt_lt] at q ⊢
    rw [show (0 : Int32).toInt = 0 from by decide] at q
    omega)
  obtain ⟨k, hk, rfl⟩ := nI_of h0
  exact ⟨k, rfl, Nat.not_lt.mp (fun q => h.1 (nI_lt q hl)), (nI_leI hk hh).mp h.2⟩
theorem q_ixy {j k : Nat} (h : j < k) (hk : k < 2 ^ 31) : fX8_requireIndex (nI j) (nI k) = some () ∧ xX8_requireIndex (nI j) (nI k) = none ∧ fX9_inRange (nI j) 0 (nI k - 1) = some 1 := by
  unfold fX8_requireIndex xX8_requireIndex fX9_inRange
  rw [if_neg (nI_pos (by omega)), if_neg (nI_pos (by omega)), if_neg (nI_pos (by omega)), if_pos (nI_lt h hk), if_pos (nI_lt h hk), q_l1, pk_sub (by omega), if_neg (nI_nlt (by omega) (by omega))]
  exact ⟨rfl, rfl, rfl⟩
theorem q_ixn {p : Int32} {k : Nat} (h : p < 0 ∨ nI k ≤ p) (hk : k < 2 ^ 31) : fX8_requireIndex p (nI k) = none ∧ xX8_requireIndex p (nI k) = some 0 ∧ fX9_inRange p 0 (nI k - 1) = some 0 := by
  unfold fX8_requireIndex xX8_requireIndex fX9_inRange
  by_cases h1 : p < 0
  · rw [if_pos h1, if_pos h1, if_pos h1]
    exact ⟨rfl, rfl, rfl⟩
  · have h2 : nI k ≤ p := h.elim (fun q => absurd q h1) id
    have h3 : nI k - 1 < p := by
      cases k with
      | zero =>
        rw [Int32.lt_iff_toInt_lt] at h1 ⊢
        rw [show (0 : Int32).toInt = 0 from by decide] at h1
        rw [show (nI 0 - 1).toInt = -1 from by decide]
        omega
      | succ k =>
        rw [nI_pred]
        obtain ⟨j, hj, rfl⟩ := nI_of h1
        exact nI_lt ((nI_leI hk hj).mp h2) hj
    rw [if_neg h1, if_neg h1, if_neg h1, if_neg (q_nlt h2), if_neg (q_nlt h2), if_pos h3]
    exact ⟨rfl, rfl, rfl⟩
theorem q_xs (y : Nat) (k : Option Nat) : xr (some y) k = some y := rfl
theorem q_xn (k : Option Nat) : xr none k = k := rfl
theorem q_bnn {α β : Type} (k : α → Option β) : bnr none k = none := rfl
theorem r_fails1 (k : Int32) (v : bM) : fX9_fails 1 k v = some (0, v) := rfl
theorem r_fails0 (k : Int32) (v : bM) : fX9_fails 0 k v = some (1, upd v 3 k) := rfl
theorem q_u3 (u : bM) (x : Int32) (o : Nat) (ho : 3 < o) : vw (upd u 3 x) o = vw u o := funext fun y => q_un (by omega)
theorem q_33 (u : bM) (x y : Int32) : upd (upd u 3 x) 3 y = upd u 3 y := by
  funext j
  by_cases h : j = 3
  · rw [h, pk_us, pk_us]
  · rw [q_un h, q_un h, q_un h]
theorem q_vv (v : bM) (o k : Nat) : vw v (o + k) = vw (vw v o) k := funext fun x => congrArg v (Nat.add_assoc o k x)
theorem q_v2 (v : bM) (o k j : Nat) : v (o + k + j) = vw v o (k + j) := congrArg v (Nat.add_assoc o k j)
section
variable {T nf nb nt no cur : Nat} {Ls : Nat → List (Nat × Nat)} {u v : bM}
theorem y_flour (hcur : cur < 12) (cv : v 0 = nI cur) (h : q_S T nf nb nt no Ls (vw u 710) (vw v (stO cur))) {j : Nat} (hj : j < nf) : fX8_requireFlour (nI j) v = some () ∧ xX8_requireFlour (nI j) v = none ∧ fX9_isFlour (nI j) u = some (1, upd u 3 0) := by
  have h1 := h.hnf
  obtain ⟨g1, g2, g3⟩ := q_ixy hj (by omega)
  have e1 : v (stO cur + 6) = nI nf := h.cnf
  have e2 : upd u 3 0 (710 + (5 : Int32).toNatClampNeg) = nI nf := (q_un (by decide)).trans h.rnf
  refine ⟨?_, ?_, ?_⟩
  · unfold fX8_requireFlour
    rw [cv, q_ck hcur (by decide), nI_clamp (by omega), q_nm, e1, g1, q_bnr]
  · unfold xX8_requireFlour
    rw [cv, q_ck hcur (by decide), nI_clamp (by omega), q_nm, e1, g2, g1, q_xn, q_bnr]
  · unfold fX9_isFlour
    rw [q_nm, e2, g3, q_bnr, r_fails1, q_bnd, if_pos rfl]
theorem n_flour (hcur : cur < 12) (cv : v 0 = nI cur) (h : q_S T nf nb nt no Ls (vw u 710) (vw v (stO cur))) {p : Int32} (hp : p < 0 ∨ nI nf ≤ p) : fX8_requireFlour p v = none ∧ xX8_requireFlour p v = some 0 ∧ fX9_isFlour p u = some (0, upd u 3 1) := by
  have h1 := h.hnf
  obtain ⟨g1, g2, g3⟩ := q_ixn hp (by omega)
  have e1 : v (stO cur + 6) = nI nf := h.cnf
  have e2 : upd u 3 0 (710 + (5 : Int32).toNatClampNeg) = nI nf := (q_un (by decide)).trans h.rnf
  refine ⟨?_, ?_, ?_⟩
  · unfold fX8_requireFlour
    rw [cv, q_ck hcur (by decide), nI_clamp (by omega), q_nm, e1, g1, q_bnn]
  · unfold xX8_requireFlour
    rw [cv, q_ck hcur (by decide), nI_clamp (by omega), q_nm, e1, g2, q_xs]
  · unfold fX9_isFlour
    rw [q_nm, e2, g3, q_bnr, r_fails0, q_bnd, if_neg (by decide), q_33]
theorem y_bread (hcur : cur < 12) (cv : v 0 = nI cur) (h : q_S T nf nb nt no Ls (vw u 710) (vw v (stO cur))) {j : Nat} (hj : j < nb) : fX8_requireBread (nI j) v = some () ∧ xX8_requireBread (nI j) v = none ∧ fX9_isBread (nI j) u = some (1, upd u 3 0) := by
  have h1 := h.hnb
  obtain ⟨g1, g2, g3⟩ := q_ixy hj (by omega)
  have e1 : v (stO cur + 175) = nI nb := h.cnb
  have e2 : upd u 3 0 (710 + (6 : Int32).toNatClampNeg) = nI nb := (q_un (by decide)).trans h.rnb
  refine ⟨?_, ?_, ?_⟩
  · unfold fX8_requireBread
    rw [cv, q_ck hcur (by decide), nI_clamp (by omega), q_nm, e1, g1, q_bnr]
  · unfold xX8_requireBread
    rw [cv, q_ck hcur (by decide), nI_clamp (by omega), q_nm, e1, g2, g1, q_xn, q_bnr]
  · unfold fX9_isBread
    rw [q_nm, e2, g3, q_bnr, r_fails1, q_bnd, if_pos rfl]
theorem n_bread (hcur : cur < 12) (cv : v 0 = nI cur) (h : q_S T nf nb nt no Ls (vw u 710) (vw v (stO cur))) {p : Int32} (hp : p < 0 ∨ nI nb ≤ p) : fX8_requireBread p v = none ∧ xX8_requireBread p v = some 0 ∧ fX9_isBread p u = some (0, upd u 3 1) := by
  have h1 := h.hnb
  obtain ⟨g1, g2, g3⟩ := q_ixn hp (by omega)
  have e1 : v (stO cur + 175) = nI nb := h.cnb
  have e2 : upd u 3 0 (710 + (6 : Int32).toNatClampNeg) = nI nb := (q_un (by decide)).trans h.rnb
  refine ⟨?_, ?_, ?_⟩
  · unfold fX8_requireBread
    rw [cv, q_ck hcur (by decide), nI_clamp (by omega), q_nm, e1, g1, q_bnn]
  · unfold xX8_requireBread
    rw [cv, q_ck hcur (by decide), nI_clamp (by omega), q_nm, e1, g2, q_xs]
  · unfold fX9_isBread
    rw [q_nm, e2, g3, q_bnr, r_fails0, q_bnd, if_neg (by decide), q_33]
theorem y_batch (hcur : cur < 12) (cv : v 0 = nI cur) (h : q_S T nf nb nt no Ls (vw u 710) (vw v (stO cur))) {j : Nat} (hj : j < nt) : fX8_requireBatch (nI j) v = some () ∧ xX8_requireBatch (nI j) v = none ∧ fX9_isBatch (nI j) u = some (1, upd u 3 0) := by
  have h1 := h.hnt
  obtain ⟨g1, g2, g3⟩ := q_ixy hj (by omega)
  have e1 : v (stO cur + 277) = nI nt := h.cnt
  have e2 : upd u 3 0 (710 + (7 : Int32).toNatClampNeg) = nI nt := (q_un (by decide)).trans h.rnt
  refine ⟨?_, ?_, ?_⟩
  · unfold fX8_requireBatch
    rw [cv, q_ck hcur (by decide), nI_clamp (by omega), q_nm, e1, g1, q_bnr]
  · unfold xX8_requireBatch
    rw [cv, q_ck hcur (by decide), nI_clamp (by omega), q_nm, e1, g2, g1, q_xn, q_bnr]
  · unfold fX9_isBatch
    rw [q_nm, e2, g3, q_bnr, r_fails1, q_bnd, if_pos rfl]
theorem n_batch (hcur : cur < 12) (cv : v 0 = nI cur) (h : q_S T nf nb nt no Ls (vw u 710) (vw v (stO cur))) {p : Int32} (hp : p < 0 ∨ nI nt ≤ p) : fX8_requireBatch p v = none ∧ xX8_requireBatch p v = some 0 ∧ fX9_isBatch p u = some (0, upd u 3 1) := by
  have h1 := h.hnt
  obtain ⟨g1, g2, g3⟩ := q_ixn hp (by omega)
  have e1 : v (stO cur + 277) = nI nt := h.cnt
  have e2 : upd u 3 0 (710 + (7 : Int32).toNatClampNeg) = nI nt := (q_un (by decide)).trans h.rnt
  refine ⟨?_, ?_, ?_⟩
  · unfold fX8_requireBatch
    rw [cv, q_ck hcur (by decide), nI_clamp (by omega), q_nm, e1, g1, q_bnn]
  · unfold xX8_requireBatch
    rw [cv, q_ck hcur (by decide), nI_clamp (by omega), q_nm, e1, g2, q_xs]
  · unfold fX9_isBatch
    rw [q_nm, e2, g3, q_bnr, r_fails0, q_bnd, if_neg (by decide), q_33]
end
