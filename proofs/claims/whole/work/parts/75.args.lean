/-! ===== layer 2: the numbers of a command ===== -/
/-- what reading without an error leaves as it was -/
def q_sv (v w : bM) : Prop := ∀ x, (x < 7090 ∨ x = 7093 ∨ x = 7094 ∨ (7096 ≤ x ∧ x < 9899) ∨ 9902 ≤ x) → w x = v x
def q_su (u z : bM) : Prop := ∀ x, (x < 5 ∨ (9 ≤ x ∧ x < 7160) ∨ 7165 ≤ x) → z x = u x
theorem q_sv.trans {a b c : bM} (h : q_sv a b) (g : q_sv b c) : q_sv a c := fun x hx => (g x hx).trans (h x hx)
theorem q_su.trans {a b c : bM} (h : q_su a b) (g : q_su b c) : q_su a c := fun x hx => (g x hx).trans (h x hx)
theorem q_sv.fv {a b : bM} (h : q_sv a b) : q_fv a b := fun x hx => h x (by omega)
theorem q_su.fu {a b : bM} (h : q_su a b) : q_fu a b := fun x hx => h x (by omega)
def q_A (B : Nat → Int32) (L n k : Nat) (v u : bM) (Q : bM → bM → Prop) (rc rr : Option (Int32 × bM)) : Prop := (∃ (k9 : Nat) (w z : bM), rc = some (1, w) ∧ rr = some (1, z) ∧ k ≤ k9 ∧ q_L B L n k9 w z ∧ q_sv v w ∧ q_su u z ∧ Q w z) ∨ (∃ w z, rc = some (0, w) ∧ rr = some (0, z) ∧ q_F v u w z)
section
variable {B : Nat → Int32} {L n k : Nat} {v u : bM}
theorem q_F.pre {v9 u9 w z : bM} (h : q_F v u w z) (hv : q_fv v9 v) (hu : q_fu u9 u) : q_F v9 u9 w z := ⟨hv.trans h.1, hu.trans h.2.1, h.2.2⟩
theorem q_A.bind {Q Q9 : bM → bM → Prop} {rc rr : Option (Int32 × bM)} {fc fr : bM → Option (Int32 × bM)} (h : q_A B L n k v u Q rc rr) (g : ∀ k9 w z, k ≤ k9 → q_L B L n k9 w z → q_sv v w → q_su u z → Q w z → q_A B L n k9 w z Q9 (fc w) (fr z)) : q_A B L n k v u Q9 (bnd rc fun r w => if r = 0 then some (0, w) else fc w) (bnd rr fun r z => if r = 0 then some (0, z) else fr z) := by
  rcases h with ⟨k9, w, z, h1, h2, h3, h4, h5, h6, h7⟩ | ⟨w, z, h1, h2, h3⟩
  · rw [h1, h2, q_bnd, q_bnd, if_neg (by decide), if_neg (by decide)]
    rcases g k9 w z h3 h4 h5 h6 h7 with ⟨k8, w8, z8, a1, a2, a3, a4, a5, a6, a7⟩ | ⟨w8, z8, a1, a2, a3⟩
    · exact Or.inl ⟨k8, w8, z8, a1, a2, by omega, a4, h5.trans a5, h6.trans a6, a7⟩
    · exact Or.inr ⟨w8, z8, a1, a2, a3.pre h5.fv h6.fu⟩
  · rw [h1, h2, q_bnd, q_bnd, if_pos rfl, if_pos rfl]
    exact Or.inr ⟨w, z, rfl, rfl, h3⟩
theorem q_A.imp {Q Q9 : bM → bM → Prop} {rc rr : Option (Int32 × bM)} (h : q_A B L n k v u Q rc rr) (g : ∀ w z, Q w z → Q9 w z) : q_A B L n k v u Q9 rc rr := by
  rcases h with ⟨k9, w, z, h1, h2, h3, h4, h5, h6, h7⟩ | h
  · exact Or.inl ⟨k9, w, z, h1, h2, h3, h4, h5, h6, g w z h7⟩
  · exact Or.inr h
theorem q_A.cc {Q : bM → bM → Prop} {rc rr : Option (Int32 × bM)} (h : q_A B L n k v u Q rc rr) : q_A B L n k v u Q (bnd rc fun r w => ck r 2 <| some (r, w)) rr := by
  rcases h with ⟨k9, w, z, h1, h2, h3⟩ | ⟨w, z, h1, h2, h3⟩
  · exact Or.inl ⟨k9, w, z, by rw [h1]; rfl, h2, h3⟩
  · exact Or.inr ⟨w, z, by rw [h1]; rfl, h2, h3⟩
theorem q_A.cr {Q : bM → bM → Prop} {rc rr : Option (Int32 × bM)} (h : q_A B L n k v u Q rc rr) : q_A B L n k v u Q rc (bnd rr fun r w => ck r 2 <| some (r, w)) := by
  rcases h with ⟨k9, w, z, h1, h2, h3⟩ | ⟨w, z, h1, h2, h3⟩
  · exact Or.inl ⟨k9, w, z, h1, by rw [h2]; rfl, h3⟩
  · exact Or.inr ⟨w, z, h1, by rw [h2]; rfl, h3⟩
theorem q_A.c1 {Q : bM → bM → Prop} {rc rr : Option (Int32 × bM)} (h : q_A B L n k v u Q rc rr) : q_A B L n k v u Q (bnd rc fun r w => if r = 0 then some (0, w) else some (1, w)) (bnd rr fun r w => if r = 0 then some (0, w) else some (1, w)) := by
  rcases h with ⟨k9, w, z, h1, h2, h3⟩ | ⟨w, z, h1, h2, h3⟩
  · exact Or.inl ⟨k9, w, z, by rw [h1]; rfl, by rw [h2]; rfl, h3⟩
  · exact Or.inr ⟨w, z, by rw [h1]; rfl, by rw [h2]; rfl, h3⟩
/-- the number p of the class is the number p9 of the reference, in its range; the others are as they were -/
def q_nu (p p9 : Nat) (lo hi : Int32) (v u w z : bM) : Prop := w (9899 + p) = z (7160 + p9) ∧ q_in (z (7160 + p9)) lo hi ∧ (∀ y, y ≠ 9899 + p → y ≠ 7095 → w y = v y) ∧ (∀ y, y ≠ 7160 + p9 → (y < 5 ∨ 8 < y) → z y = u y)
theorem q_N.A {p p9 : Nat} {lo hi : Int32} {rc rr : Option (Int32 × bM)} (hp : p < 3) (hp9 : p9 < 5) (h : q_N B L n k p p9 lo hi v u rc rr) : q_A B L n k v u (q_nu p p9 lo hi v u) rc rr := by
  rcases h with ⟨x, w, z, h1, h2, h3, h4, h5, h6, h7, h8, h9⟩ | h
  · exact Or.inl ⟨k + 1, w, z, h1, h2, by omega, h5, fun y hy => h8 y (by omega) (by omega), fun y hy => h9 y (by omega) (by omega), h6.trans h7.symm, by rw [h7]; exact h4, h8, h9⟩
  · exact Or.inr h
theorem p_n (h : q_L B L n k v u) (p p9 : Nat) (hp : p < 3) (hp9 : p9 < 5) (lo hi : Int32) (hh : hi ≤ 999999) : q_A B L n k v u (q_nu p p9 lo hi v u) (fX4_readNumber (nI p) lo hi v) (fX9_into (nI p9) lo hi u) := (p_number h hp hp9 hh).A hp hp9
theorem p_recipe {T nf nb nt no : Nat} {Ls : Nat → List (Nat × Nat)} {c : bM} (h : q_L B L n k v u) (hS : q_S T nf nb nt no Ls (vw u 710) c) : q_A B L n k v u (q_nu 2 2 1 (nI (10 ^ nf - 1)) v u) (fX4_readNumber 2 1 (nI (10 ^ nf - 1)) v) (fX9_recipeInto 2 u) := by
  have p10 := p10_le hS.hnf
  have hh : nI (10 ^ nf - 1) ≤ 999999 := nI_le (b := 999999) (by omega) (by decide)
  have key := p_number h (show 2 < 3 by decide) (show 2 < 5 by decide) (lo := 1) (hi := nI (10 ^ nf - 1)) hh
  have er := r_isRecipe hS (u 8)
  obtain ⟨t1, t2, t3, t4, t5, t6⟩ := q_kt B L n k
  have et := p_tok h
  -- the reference's two ways are one
  have e : fX9_recipeInto 2 u = fX9_into (nI 2) 1 (nI (10 ^ nf - 1)) u := by
    unfold fX9_recipeInto fX9_into fX9_numberIn fX9_numberIn_J34
    by_cases h2 : u 6 = 1
    · rw [if_pos h2, if_pos h2, er, q_bnr]
      by_cases hin : q_in (u 8) 1 (nI (10 ^ nf - 1))
      · rw [if_neg (show ¬ (u 8 < 1 ∨ nI (10 ^ nf - 1) < u 8) from fun q => q.elim hin.1 (q_nlt hin.2)), if_neg (show ¬ (1 : Int32) = 0 by decide), (q_rg hin).2.2, q_bnr, if_neg (show ¬ (1 : Int32) = 0 by decide), q_bnd, if_neg (show ¬ (1 : Int32) = 0 by decide)]
        rfl
      · have hbad : u 8 < 1 ∨ nI (10 ^ nf - 1) < u 8 := by
          by_cases q : u 8 < 1
          · exact Or.inl q
          · exact Or.inr (q_ltn (fun q2 => hin ⟨q, q2⟩))
        rw [if_pos hbad, (q_rgn hin).2.2, q_bnr, if_pos rfl, if_pos rfl]
        rfl
    · rw [if_neg h2, if_neg h2]
      rfl
  rw [e]
  exact key.A (by decide) (by decide)
/-! the words of the commands -/
theorem p_cmd (h : q_L B L n k v u) : fX9_commandHere u = some (if 6 ≤ q_kd B L n k ∧ q_kd B L n k ≤ 12 then nI (q_kd B L n k - 6) else -1) := by
  have w2 := p_isWord h (j := 2) (by decide)
  have w3 := p_isWord h (j := 3) (by decide)
  have w4 := p_isWord h (j := 4) (by decide)
  have w5 := p_isWord h (j := 5) (by decide)
  have w6 := p_isWord h (j := 6) (by decide)
  have w7 := p_isWord h (j := 7) (by decide)
  have w8 := p_isWord h (j := 8) (by decide)
  generalize q_kd B L n k = K at *
  unfold fX9_commandHere fX9_commandHere_J40 fX9_commandHere_J95
  have e28 : fX9_isWord 28 u = some (if K = 6 then 1 else 0) := w2
  have e29 : fX9_isWord 29 u = some (if K = 7 then 1 else 0) := w3
  have e30 : fX9_isWord 30 u = some (if K = 8 then 1 else 0) := w4
  have e31 : fX9_isWord 31 u = some (if K = 9 then 1 else 0) := w5
  have e32 : fX9_isWord 32 u = some (if K = 10 then 1 else 0) := w6
  have e33 : fX9_isWord 33 u = some (if K = 11 then 1 else 0) := w7
  have e34 : fX9_isWord 34 u = some (if K = 12 then 1 else 0) := w8
  rw [e28, e29, e30, e31, e32, e33, e34]
  simp only [q_bnr]
  by_cases h6 : K = 6
  · subst h6; rfl
  · by_cases h7 : K = 7
    · subst h7; rfl
    · by_cases h8 : K = 8
      · subst h8; rfl
      · by_cases h9 : K = 9
        · subst h9; rfl
        · by_cases h10 : K = 10
          · subst h10; rfl
          · by_cases h11 : K = 11
            · subst h11; rfl
            · by_cases h12 : K = 12
              · subst h12; rfl
              · rw [if_neg h6, if_neg h7, if_neg h8, if_neg h9, if_neg h10, if_neg h11, if_neg h12, if_neg (show ¬ (6 ≤ K ∧ K ≤ 12) by omega)]
                rfl
end
