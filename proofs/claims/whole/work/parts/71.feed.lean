/-! ===== layer 2: feed ===== -/
def q1 (b : Nat) (l : List Nat) : List Nat := if b = 0 then l else b :: l
theorem q1_app (b : Nat) (l r : List Nat) : q1 b l ++ r = q1 b (l ++ r) := by
  unfold q1
  split <;> rfl
/-- the bytes of a word that aren't 0, from the m-th of the lowest down -/
def qrl (w : Int32) : Nat → List Nat
  | 0 => []
  | m + 1 => q1 (w.toBitVec.toNat / 2 ^ (8 * m) % 256) (qrl w m)
def qrs (W : Nat → Nat) : Nat → List Nat
  | 0 => []
  | n + 1 => q1 (W (19 - n)) (qrs W n)
theorem q_ub (w : Int32) : ∀ m, m < 4 → ((w.toUInt32 >>> ((nI (8 * m)).toUInt32 &&& Int32.toUInt32 31)).toInt32) &&& 255 = nI (w.toBitVec.toNat / 2 ^ (8 * m) % 256) := by
  intro m hm
  rw [pk_and _ 8 (m := 255) (by decide)]
  match m, hm with
  | 0, _ => rw [pk_ushr w (nI (8 * 0)) 0 (by decide)]
  | 1, _ => rw [pk_ushr w (nI (8 * 1)) 8 (by decide)]
  | 2, _ => rw [pk_ushr w (nI (8 * 2)) 16 (by decide)]
  | 3, _ => rw [pk_ushr w (nI (8 * 3)) 24 (by decide)]
  | n + 4, h => exact absurd h (by omega)
theorem q_nat (x : Int32) : (x.toInt = (x.toBitVec.toNat : Int) ∨ x.toInt = (x.toBitVec.toNat : Int) - 4294967296) ∧ x.toBitVec.toNat < 4294967296 := by
  have h1 : x.toInt = x.toBitVec.toInt := rfl
  have h2 := BitVec.toInt_eq_toNat_cond x.toBitVec
  have h3 : x.toBitVec.toNat < 2 ^ 32 := x.toBitVec.isLt
  refine ⟨?_, by omega⟩
  rw [h1, h2]
  split
  · exact Or.inl rfl
  · exact Or.inr (by omega)
theorem q_sb (w : Int32) : ∀ m, m < 4 → (w >>> (nI (8 * m) &&& 31)) &&& 255 = nI (w.toBitVec.toNat / 2 ^ (8 * m) % 256) := by
  intro m hm
  rw [pk_and _ 8 (m := 255) (by decide)]
  congr 1
  obtain ⟨h1, h2⟩ := q_nat w
  match m, hm with
  | 0, _ =>
    have e := pk_shr w (nI (8 * 0) &&& 31) 0 (by decide)
    obtain ⟨g1, g2⟩ := q_nat (w >>> (nI (8 * 0) &&& 31))
    rw [e, Int.shiftRight_eq_div_pow] at g1
    simp only [Nat.reduceMul, Nat.reducePow] at *
    omega
  | 1, _ =>
    have e := pk_shr w (nI (8 * 1) &&& 31) 8 (by decide)
    obtain ⟨g1, g2⟩ := q_nat (w >>> (nI (8 * 1) &&& 31))
    rw [e, Int.shiftRight_eq_div_pow] at g1
    simp only [Nat.reduceMul, Nat.reducePow] at *
    omega
  | 2, _ =>
    have e := pk_shr w (nI (8 * 2) &&& 31) 16 (by decide)
    obtain ⟨g1, g2⟩ := q_nat (w >>> (nI (8 * 2) &&& 31))
    rw [e, Int.shiftRight_eq_div_pow] at g1
    simp only [Nat.reduceMul, Nat.reducePow] at *
    omega
  | 3, _ =>
    have e := pk_shr w (nI (8 * 3) &&& 31) 24 (by decide)
    obtain ⟨g1, g2⟩ := q_nat (w >>> (nI (8 * 3) &&& 31))
    rw [e, Int.shiftRight_eq_div_pow] at g1
    simp only [Nat.reduceMul, Nat.reducePow] at *
    omega
  | n + 4, h => exact absurd h (by omega)
def q_sh (m : Nat) : Int32 := if m = 0 then -8 else nI (8 * (m - 1))
theorem q_sh1 : ∀ m, m < 4 → nI (8 * m) + (-8) = q_sh m := by decide +kernel
theorem c_bytesIn (w : Int32) : fX8_bytesIn w = some (nI (qrl w 4).length) := by
  have key := q_use (F := fX8_bytesIn_L5 w) (z := fun _ _ => none) (Sp := fun m K => m ≤ 4 → ∀ y, K (nI y) (q_sh m) = some (nI (y + (qrl w m).length))) (fun m K hK hm y => by
    cases m with
    | zero =>
      unfold fX8_bytesIn_L5
      rw [if_pos (by decide)]
      rfl
    | succ m =>
      have hs : q_sh (m + 1) = nI (8 * m) := rfl
      unfold fX8_bytesIn_L5 fX8_bytesIn_J22
      rw [hs, if_neg (nI_pos (by omega)), q_ub w m (by omega), q_sh1 m (by omega), q_nm, q_nm, q_nm, q_add1, hK m (by omega) (by omega), hK m (by omega) (by omega)]
      show _ = some (nI (y + (q1 (w.toBitVec.toNat / 2 ^ (8 * m) % 256) (qrl w m)).length))
      unfold q1
      by_cases e : w.toBitVec.toNat / 2 ^ (8 * m) % 256 = 0
      · rw [if_pos e, e, if_pos nI_0]
      · rw [if_neg e, if_neg (nI_ne0 (by omega) (by omega)), List.length_cons, show y + 1 + (qrl w m).length = y + ((qrl w m).length + 1) by omega]) lpN 4 (q_lpN _ (by decide)) (Nat.le_refl _) 0
  rw [Nat.zero_add] at key
  unfold fX8_bytesIn
  exact key
/-! texts that grow -/
def q_tc (w v : bM) (L : Nat) (s : List Nat) : Prop := w 7093 = nI (L + s.length) ∧ (∀ i, i < s.length → w (7096 + L + i) = nI (s.getD i 0)) ∧ ∀ x, x ≠ 7093 → ¬ (7096 + L ≤ x ∧ x < 7796) → w x = v x
def q_tz (z u : bM) (L : Nat) (s : List Nat) : Prop := z 0 = nI (L + s.length) ∧ (∀ i, i < s.length → z (10 + L + i) = nI (s.getD i 0)) ∧ ∀ x, x ≠ 0 → ¬ (10 + L ≤ x ∧ x < 710) → z x = u x
theorem c_app {v : bM} {n : Nat} {x : Int32} {β : Type} {k : bM → Option β} (hv : v 7093 = nI n) (hn : n < 700) : (bnw (fX7_append x (vw v 7093)) fun w => nm (spl v 7093 2806 w) fun y => k y) = k (upd (upd v (7096 + n) x) 7093 (nI (n + 1))) := by
  have e0 : vw v 7093 0 = nI n := hv
  have e : fX7_append x (vw v 7093) = some (upd (upd (vw v 7093) (3 + n) x) 0 (nI (n + 1))) := by
    unfold fX7_append
    rw [e0, if_neg (by rw [show (700 : Int32) = nI 700 from rfl]; exact nI_ge hn (by decide)), q_ck hn (by decide), nI_clamp (by omega), q_nm, q_un (by omega), e0, q_add1, q_nm, q_nm]
  rw [e, q_bnw, q_nm, q_splu (by omega), q_splu (by omega), spl_self]
  congr 2
  rw [show 7093 + (3 + n) = 7096 + n by omega]
theorem q_tc.add {w v : bM} {L ch : Nat} {s : List Nat} (h : q_tc w v L s) (hl : L + s.length < 700) : q_tc (upd (upd w (7096 + (L + s.length)) (nI ch)) 7093 (nI (L + s.length + 1))) v L (s ++ [ch]) := by
  obtain ⟨h1, h2, h3⟩ := h
  refine ⟨by rw [pk_us, List.length_append]; rfl, fun i hi => ?_, fun x a1 a2 => ?_⟩
  · rw [List.length_append] at hi
    have hi : i < s.length + 1 := hi
    rw [q_un (by omega)]
    by_cases e : i = s.length
    · rw [e, q_uat (by omega), q_getR (Nat.le_refl _), Nat.sub_self]
      rfl
    · rw [q_un (by omega), q_getL (by omega)]
      exact h2 i (by omega)
  · rw [q_un a1, q_un (by omega)]
    exact h3 x a1 a2
theorem q_tz.add {z u : bM} {L ch : Nat} {s : List Nat} (h : q_tz z u L s) (hl : L + s.length < 700) : q_tz (upd (upd z (10 + (L + s.length)) (nI ch)) 0 (nI (L + s.length + 1))) u L (s ++ [ch]) := by
  obtain ⟨h1, h2, h3⟩ := h
  refine ⟨by rw [pk_us, List.length_append]; rfl, fun i hi => ?_, fun x a1 a2 => ?_⟩
  · rw [List.length_append] at hi
    have hi : i < s.length + 1 := hi
    rw [q_un (by omega)]
    by_cases e : i = s.length
    · rw [e, q_uat (by omega), q_getR (Nat.le_refl _), Nat.sub_self]
      rfl
    · rw [q_un (by omega), q_getL (by omega)]
      exact h2 i (by omega)
  · rw [q_un a1, q_un (by omega)]
    exact h3 x a1 a2
theorem c_appendBytes {w v : bM} {L : Nat} {s : List Nat} (b : Int32) (h : q_tc w v L s) (hl : L + s.length + (qrl b 4).length ≤ 700) : ∃ e, fX8_appendBytes b w = some e ∧ q_tc e v L (s ++ qrl b 4) := by
  have key := q_use (F := fX8_appendBytes_L3 b) (z := fun _ _ => none) (Sp := fun m K => m ≤ 4 → ∀ (w : bM) (s : List Nat), q_tc w v L s → L + s.length + (qrl b m).length ≤ 700 → ∃ e, K (q_sh m) w = some e ∧ q_tc e v L (s ++ qrl b m)) (fun m K hK hm w s h hl => by
    cases m with
    | zero =>
      refine ⟨w, ?_, by rw [show qrl b 0 = [] from rfl, List.append_nil]; exact h⟩
      unfold fX8_appendBytes_L3
      rw [if_pos (by decide)]
    | succ m =>
      have hs : q_sh (m + 1) = nI (8 * m) := rfl
      have hq : qrl b (m + 1) = q1 (b.toBitVec.toNat / 2 ^ (8 * m) % 256) (qrl b m) := rfl
      by_cases e : b.toBitVec.toNat / 2 ^ (8 * m) % 256 = 0
      · rw [hq, e] at hl ⊢
        obtain ⟨f, f1, f2⟩ := hK m (by omega) (by omega) w s h hl
        refine ⟨f, ?_, f2⟩
        unfold fX8_appendBytes_L3 fX8_appendBytes_J30
        rw [hs, if_neg (nI_pos (by omega)), q_ub b m (by omega), q_sh1 m (by omega), q_nm, e, if_pos nI_0, q_nm]
        exact f1
      · have hq2 : q1 (b.toBitVec.toNat / 2 ^ (8 * m) % 256) (qrl b m) = (b.toBitVec.toNat / 2 ^ (8 * m) % 256) :: qrl b m := if_neg e
        rw [hq, hq2] at hl ⊢
        rw [List.length_cons] at hl
        have hll : (s ++ [b.toBitVec.toNat / 2 ^ (8 * m) % 256]).length = s.length + 1 := by rw [List.length_append]; rfl
        obtain ⟨f, f1, f2⟩ := hK m (by omega) (by omega) _ _ (h.add (ch := b.toBitVec.toNat / 2 ^ (8 * m) % 256) (by omega)) (by rw [hll]; omega)
        rw [List.append_assoc] at f2
        refine ⟨f, ?_, f2⟩
        unfold fX8_appendBytes_L3 fX8_appendBytes_J30
        rw [hs, if_neg (nI_pos (by omega)), q_ub b m (by omega), q_sh1 m (by omega), q_nm, if_neg (nI_ne0 (by omega) (by omega)), c_app h.1 (by omega), q_nm]
        exact f1) lpN 4 (q_lpN _ (by decide)) (Nat.le_refl _) w s h hl
  unfold fX8_appendBytes
  exact key
def q_W (a b c d e : Int32) (i : Nat) : Nat := (if i < 4 then a else if i < 8 then b else if i < 12 then c else if i < 16 then d else e).toBitVec.toNat / 2 ^ (8 * (3 - i % 4)) % 256
theorem r_byteOf (a b c d e : Int32) {i : Nat} (hi : i < 20) : fX9_byteOf a b c d e (nI i) = some (nI (q_W a b c d e i)) := by
  have em : (24 : Int32) - 8 * (nI i - nI i / 4 * 4) = nI (8 * (3 - i % 4)) := by
    rw [q_l4, pk_rem (by omega) (by decide) (by decide), q_l8, q_l24, pk_mul, pk_sub (by have := Nat.mod_lt i (show 0 < 4 by decide); omega)]
    exact congrArg nI (by have := Nat.mod_lt i (show 0 < 4 by decide); omega)
  have J : ∀ y : Int32, fX9_byteOf_J45 (nI i) y = some (nI (y.toBitVec.toNat / 2 ^ (8 * (3 - i % 4)) % 256)) := fun y => by
    unfold fX9_byteOf_J45
    rw [em, q_sb y _ (by omega)]
  unfold fX9_byteOf q_W
  rw [J, J, J, J, J]
  rw [q_l4, q_l8, q_l12, show (16 : Int32) = nI 16 from rfl]
  by_cases h1 : i < 4
  · rw [if_neg (nI_ge h1 (by decide)), if_pos h1]
  · rw [if_pos (nI_le (by omega) (by omega)), if_neg h1]
    by_cases h2 : i < 8
    · rw [if_neg (nI_ge h2 (by decide)), if_pos h2]
    · rw [if_pos (nI_le (by omega) (by omega)), if_neg h2]
      by_cases h3 : i < 12
      · rw [if_neg (nI_ge h3 (by decide)), if_pos h3]
      · rw [if_pos (nI_le (by omega) (by omega)), if_neg h3]
        by_cases h4 : i < 16
        · rw [if_neg (nI_ge h4 (by decide)), if_pos h4]
        · rw [if_pos (nI_le (by omega) (by omega)), if_neg h4]
theorem qrs_all (a b c d e : Int32) : qrs (q_W a b c d e) 20 = qrl a 4 ++ (qrl b 4 ++ (qrl c 4 ++ (qrl d 4 ++ qrl e 4))) := by
  simp only [qrl, qrs, q1_app, List.nil_append]
  rfl
section
variable {T cur dr hn nx : Nat} {v u : bM}
theorem K_0 (P : Nat → Int32) (h : q_I T cur dr hn nx v u) (hT : T + 999 ≤ 100000000) : ∃ w z, bS_0 P v u w z ∧ q_J (T + 999) w z := by
  obtain ⟨i1, ⟨cv, cd⟩, ⟨h3, h4, h5⟩, h6, h7, h8, ⟨L, t1, t2, t3, t4⟩, ⟨e1, e2⟩, ⟨m, o1, o2, o3, o4⟩⟩ := id h
  unfold bS_0
  generalize P 1 = a
  generalize P 2 = b
  generalize P 3 = c
  generalize P 4 = d
  generalize P 5 = e
  have hall := qrs_all a b c d e
  generalize hs : qrl a 4 ++ (qrl b 4 ++ (qrl c 4 ++ (qrl d 4 ++ qrl e 4))) = s at hall
  have hlen : s.length = (qrl a 4).length + (qrl b 4).length + (qrl c 4).length + (qrl d 4).length + (qrl e 4).length := by
    rw [← hs]
    simp only [List.length_append]
    omega
  have hq : ∀ w : Int32, (qrl w 4).length ≤ 4 := fun w => by
    have g : ∀ b l, (q1 b l).length ≤ l.length + 1 := fun b l => by
      unfold q1
      split
      · omega
      · exact Nat.le_refl _
    have g1 := g (w.toBitVec.toNat / 2 ^ (8 * 3) % 256) (qrl w 3)
    have g2 := g (w.toBitVec.toNat / 2 ^ (8 * 2) % 256) (qrl w 2)
    have g3 := g (w.toBitVec.toNat / 2 ^ (8 * 1) % 256) (qrl w 1)
    have g4 := g (w.toBitVec.toNat / 2 ^ (8 * 0) % 256) (qrl w 0)
    have e0 : (qrl w 0).length = 0 := rfl
    have e1 : (qrl w 1).length ≤ (qrl w 0).length + 1 := g4
    have e2 : (qrl w 2).length ≤ (qrl w 1).length + 1 := g3
    have e3 : (qrl w 3).length ≤ (qrl w 2).length + 1 := g2
    have e4 : (qrl w 4).length ≤ (qrl w 3).length + 1 := g1
    omega
  have ha := hq a
  have hb := hq b
  have hc := hq c
  have hd := hq d
  have he := hq e
  -- the reference counts
  have ez0 : upd u 3 0 0 = nI L := (q_un (by decide)).trans t3
  have count : fX9_feed a b c d e u = (if L + s.length ≤ 700 then lp (fX9_feed_L70 a b c d e) (fun _ _ => none) lpN 0 (upd u 3 0) else some (-1, upd u 3 0)) := by
    have key := q_use (F := fX9_feed_L11 a b c d e) (z := fun _ _ _ => none) (Sp := fun k K => k ≤ 20 → ∀ y, y + (qrs (q_W a b c d e) k).length = s.length → K (nI y) (nI (20 - k)) (upd u 3 0) = (if L + s.length ≤ 700 then lp (fX9_feed_L70 a b c d e) (fun _ _ => none) lpN 0 (upd u 3 0) else some (-1, upd u 3 0))) (fun k K hK hk y hy => by
      cases k with
      | zero =>
        have hy : y = s.length := hy
        unfold fX9_feed_L11
        rw [q_l20, if_pos (Int32.le_refl _), ez0, nI_add, hy, show (700 : Int32) = nI 700 from rfl]
        by_cases e9 : L + s.length ≤ 700
        · rw [if_pos e9, if_pos (nI_le e9 (by decide))]
        · rw [if_neg e9, if_neg (nI_ge (by omega) (by omega))]
      | succ k =>
        have hq2 : (qrs (q_W a b c d e) (k + 1)).length = (q1 (q_W a b c d e (20 - (k + 1))) (qrs (q_W a b c d e) k)).length := by
          show (q1 (q_W a b c d e (19 - k)) _).length = _
          rw [show 19 - k = 20 - (k + 1) by omega]
        rw [hq2] at hy
        have hW : q_W a b c d e (20 - (k + 1)) < 256 := Nat.mod_lt _ (by decide)
        have f0 : fX9_flag 0 = some 0 := rfl
        have f1 : fX9_flag 1 = some 1 := rfl
        unfold fX9_feed_L11 fX9_feed_J40
        rw [q_l20, if_neg (nI_ge (by omega) (by decide)), r_byteOf a b c d e (by omega), q_bnr, f0, f1, q_bnr, q_bnr, q_nm, q_nm, q_nm, q_nm, q_add1, q_add1, Int32.add_zero, show 20 - (k + 1) + 1 = 20 - k by omega]
        unfold q1 at hy
        by_cases e9 : q_W a b c d e (20 - (k + 1)) = 0
        · rw [if_pos e9] at hy
          rw [e9, if_pos nI_0]
          exact hK k (by omega) (by omega) y hy
        · rw [if_neg e9, List.length_cons] at hy
          rw [if_neg (nI_ne0 (by omega) (by omega))]
          exact hK k (by omega) (by omega) (y + 1) (by omega)) lpN 20 (q_lpN _ (by decide)) (Nat.le_refl _) 0 (by rw [hall, Nat.zero_add])
    unfold fX9_feed
    rw [q_nm]
    exact key
  have ecnt : nI (qrl a 4).length + nI (qrl b 4).length + nI (qrl c 4).length + nI (qrl d 4).length + nI (qrl e 4).length = nI s.length := by
    rw [nI_add, nI_add, nI_add, nI_add, hlen]
  by_cases h9 : L + s.length ≤ 700
  · rw [if_pos h9] at count
    -- the class appends
    have c0 : q_tc v v L [] := ⟨t2, fun i hi => absurd hi (Nat.not_lt_zero _), fun _ _ _ => rfl⟩
    have hle : ∀ l : List Nat, ([] ++ l).length = l.length := fun l => rfl
    obtain ⟨w1, x1, y1⟩ := c_appendBytes a c0 (by simp only [List.length_nil]; omega)
    obtain ⟨w2, x2, y2⟩ := c_appendBytes b y1 (by simp only [List.length_append, List.length_nil]; omega)
    obtain ⟨w3, x3, y3⟩ := c_appendBytes c y2 (by simp only [List.length_append, List.length_nil]; omega)
    obtain ⟨w4, x4, y4⟩ := c_appendBytes d y3 (by simp only [List.length_append, List.length_nil]; omega)
    obtain ⟨w5, x5, y5⟩ := c_appendBytes e y4 (by simp only [List.length_append, List.length_nil]; omega)
    have es : [] ++ qrl a 4 ++ qrl b 4 ++ qrl c 4 ++ qrl d 4 ++ qrl e 4 = s := by
      rw [← hs]
      simp only [List.append_assoc, List.nil_append]
    rw [es] at y5
    -- the reference appends
    have key := q_use (F := fX9_feed_L70 a b c d e) (z := fun _ _ => none) (Sp := fun k K => k ≤ 20 → ∀ (f : bM) (p : List Nat), q_tz f (upd u 3 0) L p → L + p.length + (qrs (q_W a b c d e) k).length ≤ 700 → ∃ z, K (nI (20 - k)) f = some (z 0, z) ∧ q_tz z (upd u 3 0) L (p ++ qrs (q_W a b c d e) k)) (fun k K hK hk f p hf hl => by
      cases k with
      | zero =>
        refine ⟨f, ?_, by rw [show qrs (q_W a b c d e) 0 = [] from rfl, List.append_nil]; exact hf⟩
        unfold fX9_feed_L70
        rw [q_l20, if_pos (Int32.le_refl _)]
      | succ k =>
        have hq2 : qrs (q_W a b c d e) (k + 1) = q1 (q_W a b c d e (20 - (k + 1))) (qrs (q_W a b c d e) k) := by
          show q1 (q_W a b c d e (19 - k)) _ = _
          rw [show 19 - k = 20 - (k + 1) by omega]
        rw [hq2] at hl ⊢
        have hW : q_W a b c d e (20 - (k + 1)) < 256 := Nat.mod_lt _ (by decide)
        by_cases e9 : q_W a b c d e (20 - (k + 1)) = 0
        · rw [e9] at hl ⊢
          obtain ⟨z, z1, z2⟩ := hK k (by omega) (by omega) f p hf hl
          refine ⟨z, ?_, z2⟩
          unfold fX9_feed_L70 fX9_feed_J117
          rw [q_l20, if_neg (nI_ge (by omega) (by decide)), r_byteOf a b c d e (by omega), q_bnr, e9, if_pos nI_0, q_nm, q_add1, show 20 - (k + 1) + 1 = 20 - k by omega]
          exact z1
        · have hq3 : q1 (q_W a b c d e (20 - (k + 1))) (qrs (q_W a b c d e) k) = q_W a b c d e (20 - (k + 1)) :: qrs (q_W a b c d e) k := if_neg e9
          rw [hq3] at hl ⊢
          rw [List.length_cons] at hl
          have hll : (p ++ [q_W a b c d e (20 - (k + 1))]).length = p.length + 1 := by rw [List.length_append]; rfl
          obtain ⟨z, z1, z2⟩ := hK k (by omega) (by omega) _ _ (hf.add (ch := q_W a b c d e (20 - (k + 1))) (by omega)) (by rw [hll]; omega)
          rw [List.append_assoc] at z2
          refine ⟨z, ?_, z2⟩
          unfold fX9_feed_L70 fX9_feed_J117
          rw [q_l20, if_neg (nI_ge (by omega) (by decide)), r_byteOf a b c d e (by omega), q_bnr, if_neg (nI_ne0 (by omega) (by omega)), hf.1, q_ck (by omega) (by decide), nI_clamp (by omega), q_nm, q_un (by omega), hf.1, q_add1, q_nm, q_nm, q_nm, q_add1, show 20 - (k + 1) + 1 = 20 - k by omega]
          exact z1) lpN 20 (q_lpN _ (by decide)) (Nat.le_refl _) (upd u 3 0) [] ⟨ez0, fun i hi => absurd hi (Nat.not_lt_zero _), fun _ _ _ => rfl⟩ (by rw [hall, List.length_nil, Nat.add_zero]; exact h9)
    obtain ⟨z, z0, zt⟩ := key
    rw [hall, List.nil_append] at zt
    have hz : ∀ x, x ≠ 3 → x ≠ 0 → ¬ (10 + L ≤ x ∧ x < 710) → z x = u x := fun x a1 a2 a3 => by rw [zt.2.2 x a2 a3, q_un a1]
    have hw : ∀ x, x ≠ 7093 → ¬ (7096 + L ≤ x ∧ x < 7796) → w5 x = v x := y5.2.2
    refine ⟨w5, z, ⟨z 0, ?_, ?_⟩, cur, dr, hn, nx, ?_⟩
    · unfold fX8_feed
      rw [c_bytesIn, q_bnr, c_bytesIn, q_bnr, c_bytesIn, q_bnr, c_bytesIn, q_bnr, c_bytesIn, q_bnr, ecnt, q_nm, t2, nI_add, if_pos (by rw [show (700 : Int32) = nI 700 from rfl]; exact nI_le h9 (by decide)), x1, q_bnw, x2, q_bnw, x3, q_bnw, x4, q_bnw, x5, q_bnw, y5.1, ← zt.1]
    · rw [count]
      exact z0
    · have hblk : ∀ i, i < 12 → ∀ x, x < 590 → vw w5 (stO i) x = vw v (stO i) x := fun i hi x hx => by
        have b1 := stO_b hi
        exact hw _ (by omega) (by omega)
      refine q_I.mono (T := T) ⟨i1, ⟨(hw 0 (by decide) (by omega)).trans cv, (hw 1 (by decide) (by omega)).trans cd⟩, ⟨(hw _ (by decide) (by omega)).trans h3, (hw _ (by decide) (by omega)).trans h4, (hz 4 (by decide) (by decide) (by omega)).trans h5⟩, h6.same (fun x hx => hz _ (by omega) (by omega) (by omega)) (hblk _ (by omega)), fun k hk => (h7 k hk).same (fun x hx => hz _ (by omega) (by omega) (by omega)) (hblk _ (by omega)), fun s9 hs9 => ?_, ⟨L + s.length, h9, y5.1, zt.1, fun i hi => ?_⟩, ⟨by rw [hz 1 (by decide) (by decide) (by omega), hw _ (by decide) (by omega)]; exact e1, by rw [hz 2 (by decide) (by decide) (by omega), hw _ (by decide) (by omega)]; exact e2⟩, ⟨m, o1, (hw _ (by decide) (by omega)).trans o2, (hz 9 (by decide) (by decide) (by omega)).trans o3, fun i hi => by rw [hz (7165 + i) (by omega) (by omega) (by omega), hw _ (by omega) (by omega)]; exact o4 i hi⟩⟩ (by omega) hT
      · rw [hz (7158 + s9) (by omega) (by omega) (by omega), hw (7084 + s9) (by omega) (by omega)]
        rcases h8 s9 hs9 with g | ⟨a1, a2, a3⟩
        · exact Or.inl g
        · exact Or.inr ⟨a1, a2, a3.same (fun x hx => hz _ (by omega) (by omega) (by omega)) (hblk _ (by omega))⟩
      · by_cases hiL : i < L
        · rw [hw _ (by omega) (by omega), hz _ (by omega) (by omega) (by omega)]
          exact t4 i hiL
        · obtain ⟨j, rfl⟩ : ∃ j, i = L + j := ⟨i - L, by omega⟩
          rw [show 7096 + (L + j) = 7096 + L + j by omega, show 10 + (L + j) = 10 + L + j by omega, y5.2.1 j (by omega), zt.2.1 j (by omega)]
  · rw [if_neg h9] at count
    refine ⟨v, upd u 3 0, ⟨-1, ?_, count⟩, (h.u3 0).J (by omega) hT⟩
    unfold fX8_feed
    rw [c_bytesIn, q_bnr, c_bytesIn, q_bnr, c_bytesIn, q_bnr, c_bytesIn, q_bnr, c_bytesIn, q_bnr, ecnt, q_nm, t2, nI_add, if_neg (by rw [show (700 : Int32) = nI 700 from rfl]; exact nI_ge (by omega) (by omega))]
end
