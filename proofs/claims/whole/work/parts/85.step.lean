/-! ===== layer 2: every call keeps the invariant ===== -/
theorem q_J.mono {T T9 : Nat} {v u : bM} (h : q_J T v u) (hT : T ≤ T9) (hT9 : T9 ≤ 100000000) : q_J T9 v u := by
  obtain ⟨cur, dr, hn, nx, h⟩ := h
  exact ⟨cur, dr, hn, nx, h.mono hT hT9⟩
theorem q_q {B : bM → bM → Prop} {T cur dr hn nx : Nat} {v u : bM} (h : q_I T cur dr hn nx v u) (hT : T + 50000 ≤ 100000000) (hB : ∃ x, B v (upd u 3 x)) : ∃ w z, B w z ∧ q_J (T + 50000) w z := by
  obtain ⟨x, hx⟩ := hB
  exact ⟨v, upd u 3 x, hx, (h.u3 x).J (by omega) hT⟩
theorem q_k {B : bM → bM → Prop} {T : Nat} (hT : T + 50000 ≤ 100000000) (hB : ∃ w z, B w z ∧ q_J (T + 999) w z) : ∃ w z, B w z ∧ q_J (T + 50000) w z := by
  obtain ⟨w, z, g1, g2⟩ := hB
  exact ⟨w, z, g1, g2.mono (by omega) hT⟩
theorem q_step {T : Nat} {v u : bM} (h : q_J T v u) (hT : T + 50000 ≤ 100000000) (K : Nat) (P : Nat → Int32) (hK : K < 64) : ∃ w z, bStep K P v u w z ∧ q_J (T + 50000) w z := by
  obtain ⟨cur, dr, hn, nx, hI⟩ := h
  have hI9 := hI
  obtain ⟨⟨i1, _, _, _, _⟩, ⟨cv, _⟩, _, ⟨nf, nb, nt, no, Ls, hS⟩, _⟩ := hI9
  have hc : cur < 12 := by omega
  match K, hK with
  | 0, _ => exact q_k (B := bStep 0 P v u) hT (K_0 P hI (by omega))
  | 1, _ => exact K_1 P hI hT
  | 2, _ => exact K_2 P hI hT
  | 3, _ => exact q_q (B := bStep 3 P v u) hI hT ⟨0, k_3 P hI⟩
  | 4, _ => exact q_q (B := bStep 4 P v u) hI hT ⟨0, k_4 P hI⟩
  | 5, _ => exact q_q (B := bStep 5 P v u) hI hT (k_5 P hc cv hS)
  | 6, _ => exact q_q (B := bStep 6 P v u) hI hT (k_6 P hc cv hS)
  | 7, _ => exact q_q (B := bStep 7 P v u) hI hT ⟨0, k_7 P hI⟩
  | 8, _ => exact q_q (B := bStep 8 P v u) hI hT (k_8 P hc cv hS)
  | 9, _ => exact q_q (B := bStep 9 P v u) hI hT (k_9 P hc cv hS)
  | 10, _ => exact q_q (B := bStep 10 P v u) hI hT (k_10 P hc cv hS)
  | 11, _ => exact q_q (B := bStep 11 P v u) hI hT (k_11 P hc cv hS)
  | 12, _ => exact q_q (B := bStep 12 P v u) hI hT (k_12 P hc cv hS)
  | 13, _ => exact q_q (B := bStep 13 P v u) hI hT (k_13 P hc cv hS)
  | 14, _ => exact q_q (B := bStep 14 P v u) hI hT (k_14 P hc cv hS)
  | 15, _ => exact q_q (B := bStep 15 P v u) hI hT (k_15 P hc cv hS)
  | 16, _ => exact q_q (B := bStep 16 P v u) hI hT (k_16 P hc cv hS)
  | 17, _ => exact q_q (B := bStep 17 P v u) hI hT (k_17 P hc cv hS)
  | 18, _ => exact q_q (B := bStep 18 P v u) hI hT (k_18 P hc cv hS)
  | 19, _ => exact q_q (B := bStep 19 P v u) hI hT (k_19 P hc cv hS)
  | 20, _ => exact q_q (B := bStep 20 P v u) hI hT (k_20 P hc cv hS)
  | 21, _ => exact q_q (B := bStep 21 P v u) hI hT (k_21 P hc cv hS)
  | 22, _ => exact q_q (B := bStep 22 P v u) hI hT (k_22 P hc cv hS)
  | 23, _ => exact q_q (B := bStep 23 P v u) hI hT (k_23 P hc cv hS)
  | 24, _ => exact q_q (B := bStep 24 P v u) hI hT (k_24 P hc cv hS)
  | 25, _ => exact q_q (B := bStep 25 P v u) hI hT (k_25 P hc cv hS)
  | 26, _ => exact q_q (B := bStep 26 P v u) hI hT (k_26 P hc cv hS)
  | 27, _ => exact q_q (B := bStep 27 P v u) hI hT (k_27 P hc cv hS)
  | 28, _ => exact q_q (B := bStep 28 P v u) hI hT (k_28 P hc cv hS)
  | 29, _ => exact q_q (B := bStep 29 P v u) hI hT (k_29 P hc cv hS)
  | 30, _ => exact q_q (B := bStep 30 P v u) hI hT (k_30 P hc cv hS)
  | 31, _ => exact q_q (B := bStep 31 P v u) hI hT (k_31 P hc cv hS)
  | 32, _ => exact q_q (B := bStep 32 P v u) hI hT (k_32 P hc cv hS)
  | 33, _ => exact q_q (B := bStep 33 P v u) hI hT (k_33 P hc cv hS)
  | 34, _ => exact q_q (B := bStep 34 P v u) hI hT (k_34 P hc cv hS)
  | 35, _ => exact q_q (B := bStep 35 P v u) hI hT (k_35 P hc cv hS)
  | 36, _ => exact q_q (B := bStep 36 P v u) hI hT (k_36 P hc cv hS)
  | 37, _ => exact q_q (B := bStep 37 P v u) hI hT (k_37 P hc cv hS)
  | 38, _ => exact q_q (B := bStep 38 P v u) hI hT (k_38 P hc cv hS)
  | 39, _ => exact q_q (B := bStep 39 P v u) hI hT (k_39 P hc cv hS)
  | 40, _ => exact q_q (B := bStep 40 P v u) hI hT (k_40 P hc cv hS)
  | 41, _ =>
    obtain ⟨z, g1, g2⟩ := k_41 P hc cv hS (by omega)
    exact ⟨v, z, g1, (hI.z (fun x hx => g2 x (fun q => hx (Or.inl q)) (fun q => hx (Or.inr (Or.inr (Or.inl ⟨by omega, by omega⟩)))))).J (by omega) hT⟩
  | 42, _ => exact q_q (B := bStep 42 P v u) hI hT (k_42 P hc cv hS)
  | 43, _ => exact q_q (B := bStep 43 P v u) hI hT (k_43 P hc cv hS)
  | 44, _ => exact q_q (B := bStep 44 P v u) hI hT (k_44 P hc cv hS)
  | 45, _ => exact q_q (B := bStep 45 P v u) hI hT (k_45 P hc cv hS)
  | 46, _ => exact q_q (B := bStep 46 P v u) hI hT (k_46 P hc cv hS)
  | 47, _ => exact q_q (B := bStep 47 P v u) hI hT (k_47 P hc cv hS)
  | 48, _ => exact q_q (B := bStep 48 P v u) hI hT (k_48 P hc cv hS)
  | 49, _ => exact q_q (B := bStep 49 P v u) hI hT (k_49 P hc cv hS)
  | 50, _ => exact q_q (B := bStep 50 P v u) hI hT (k_50 P hc cv hS)
  | 51, _ => exact q_q (B := bStep 51 P v u) hI hT (k_51 P hc cv hS)
  | 52, _ => exact q_k (B := bStep 52 P v u) hT (K_52 P hI (by omega))
  | 53, _ => exact q_k (B := bStep 53 P v u) hT (K_53 P hI (by omega))
  | 54, _ => exact q_k (B := bStep 54 P v u) hT (K_54 P hI (by omega))
  | 55, _ => exact q_k (B := bStep 55 P v u) hT (K_55 P hI (by omega))
  | 56, _ => exact q_k (B := bStep 56 P v u) hT (K_56 P hI (by omega))
  | 57, _ => exact q_k (B := bStep 57 P v u) hT (K_57 P hI (by omega))
  | 58, _ => exact q_k (B := bStep 58 P v u) hT (K_58 P hI (by omega))
  | 59, _ => exact q_k (B := bStep 59 P v u) hT (K_59 P hI (by omega))
  | 60, _ => exact q_k (B := bStep 60 P v u) hT (K_60 P hI (by omega))
  | 61, _ => exact q_k (B := bStep 61 P v u) hT (K_61 P hI (by omega))
  | 62, _ => exact q_k (B := bStep 62 P v u) hT (K_62 P hI (by omega))
  | 63, _ => exact q_q (B := bStep 63 P v u) hI hT ⟨0, k_63 P hI⟩
  | n + 64, hK => exact absurd hK (by omega)
