/-! ===== the law's switch and its loop ===== -/
theorem and63 (x : Int32) : ∃ K : Nat, K < 64 ∧ x &&& 63 = nI K := by
  refine ⟨x.toBitVec.toNat % 64, Nat.mod_lt _ (by decide), ?_⟩
  apply Int32.toBitVec_inj.mp
  apply BitVec.eq_of_toNat_eq
  show (x.toBitVec &&& 63#32).toNat = (BitVec.ofNat 32 (x.toBitVec.toNat % 64)).toNat
  rw [BitVec.toNat_and, BitVec.toNat_ofNat, BitVec.toNat_ofNat]
  have h : x.toBitVec.toNat % 64 < 64 := Nat.mod_lt _ (by decide)
  rw [Nat.mod_eq_of_lt (show x.toBitVec.toNat % 64 < 2 ^ 32 by omega)]
  show x.toBitVec.toNat &&& 63 = _
  exact Nat.and_two_pow_sub_one_eq_mod _ 6
theorem law_sw {p : Program} {l : Launch} {e : Env} {s : State} {m : MethodId} {args : Array Value} {below : List Frame} {meth : Method} {c : Code} {H : Heap} {locs : List Loc} {cells slots : Nat} {Q : State → Prop} {ls : Array Slot} {D : va_G} {E : bE} {a : Nat} {v u w z : bM} {f : Nat → Int64} {b L : Nat} {xs : Nat → Int32} {i : Nat} {K : Nat} (hlt : l.stackTraces = false) (X : bCx p s m args meth c RL cL_law 9 D E) (hB : uB D E a v u f b L xs s H locs) (hl : lv_has ls 9 [(4, .int (nI i)), (3, .ref (a + 876)), (2, .ref (a + 866)), (1, .ref a), (0, .ref b)]) (hL : L ≤ 3072) (hi : i + 5 < L) (hK : K < 64) (hS : bStep K (fun j => xs (i + j)) v u w z) (hc : cells + 20 ≤ 601024 ∧ slots + 3830 ≤ 7293034) (kk : ∀ (ls : Array Slot) (H : Heap) (locs : List Loc) (f9 : Nat → Int64) (c9 s9 : Nat), c9 ≤ cells + 20 → s9 ≤ slots + 3830 → lv_has ls 9 [(4, .int (nI i)), (3, .ref (a + 876)), (2, .ref (a + 866)), (1, .ref a), (0, .ref b)] → uB D E a w z f9 b L xs s H locs → W p l e room_1 s m args below meth c H locs c9 s9 Q (F0 m 3148 ls [])) : W p l e room_1 s m args below meth c H locs cells slots Q (F0 m 40 ls [.int (nI K)]) := by
  have hx := X.1
  have hb := X.2.1
  match K, hK, hS with
  | 0, _, hS => exact lv_tableIn (off := 272) (tgt := 312) hx hb dL_law_40 (by decide) (by decide) (by decide) (by decide) (sL_0 hlt X hB hl hL hi hS hc kk)
  | 1, _, hS => exact lv_tableIn (off := 345) (tgt := 385) hx hb dL_law_40 (by decide) (by decide) (by decide) (by decide) (sL_1 hlt X hB hl hL hi hS hc kk)
  | 2, _, hS => exact lv_tableIn (off := 358) (tgt := 398) hx hb dL_law_40 (by decide) (by decide) (by decide) (by decide) (sL_2 hlt X hB hl hL hi hS hc kk)
  | 3, _, hS => exact lv_tableIn (off := 371) (tgt := 411) hx hb dL_law_40 (by decide) (by decide) (by decide) (by decide) (sL_3 hlt X hB hl hL hi hS hc kk)
  | 4, _, hS => exact lv_tableIn (off := 384) (tgt := 424) hx hb dL_law_40 (by decide) (by decide) (by decide) (by decide) (sL_4 hlt X hB hl hL hi hS hc kk)
  | 5, _, hS => exact lv_tableIn (off := 397) (tgt := 437) hx hb dL_law_40 (by decide) (by decide) (by decide) (by decide) (sL_5 hlt X hB hl hL hi hS hc kk)
  | 6, _, hS => exact lv_tableIn (off := 410) (tgt := 450) hx hb dL_law_40 (by decide) (by decide) (by decide) (by decide) (sL_6 hlt X hB hl hL hi hS hc kk)
  | 7, _, hS => exact lv_tableIn (off := 423) (tgt := 463) hx hb dL_law_40 (by decide) (by decide) (by decide) (by decide) (sL_7 hlt X hB hl hL hi hS hc kk)
  | 8, _, hS => exact lv_tableIn (off := 436) (tgt := 476) hx hb dL_law_40 (by decide) (by decide) (by decide) (by decide) (sL_8 hlt X hB hl hL hi hS hc kk)
  | 9, _, hS => exact lv_tableIn (off := 449) (tgt := 489) hx hb dL_law_40 (by decide) (by decide) (by decide) (by decide) (sL_9 hlt X hB hl hL hi hS hc kk)
  | 10, _, hS => exact lv_tableIn (off := 505) (tgt := 545) hx hb dL_law_40 (by decide) (by decide) (by decide) (by decide) (sL_10 hlt X hB hl hL hi hS hc kk)
  | 11, _, hS => exact lv_tableIn (off := 561) (tgt := 601) hx hb dL_law_40 (by decide) (by decide) (by decide) (by decide) (sL_11 hlt X hB hl hL hi hS hc kk)
  | 12, _, hS => exact lv_tableIn (off := 617) (tgt := 657) hx hb dL_law_40 (by decide) (by decide) (by decide) (by decide) (sL_12 hlt X hB hl hL hi hS hc kk)
  | 13, _, hS => exact lv_tableIn (off := 685) (tgt := 725) hx hb dL_law_40 (by decide) (by decide) (by decide) (by decide) (sL_13 hlt X hB hl hL hi hS hc kk)
  | 14, _, hS => exact lv_tableIn (off := 753) (tgt := 793) hx hb dL_law_40 (by decide) (by decide) (by decide) (by decide) (sL_14 hlt X hB hl hL hi hS hc kk)
  | 15, _, hS => exact lv_tableIn (off := 766) (tgt := 806) hx hb dL_law_40 (by decide) (by decide) (by decide) (by decide) (sL_15 hlt X hB hl hL hi hS hc kk)
  | 16, _, hS => exact lv_tableIn (off := 822) (tgt := 862) hx hb dL_law_40 (by decide) (by decide) (by decide) (by decide) (sL_16 hlt X hB hl hL hi hS hc kk)
  | 17, _, hS => exact lv_tableIn (off := 878) (tgt := 918) hx hb dL_law_40 (by decide) (by decide) (by decide) (by decide) (sL_17 hlt X hB hl hL hi hS hc kk)
  | 18, _, hS => exact lv_tableIn (off := 946) (tgt := 986) hx hb dL_law_40 (by decide) (by decide) (by decide) (by decide) (sL_18 hlt X hB hl hL hi hS hc kk)
  | 19, _, hS => exact lv_tableIn (off := 1002) (tgt := 1042) hx hb dL_law_40 (by decide) (by decide) (by decide) (by decide) (sL_19 hlt X hB hl hL hi hS hc kk)
  | 20, _, hS => exact lv_tableIn (off := 1058) (tgt := 1098) hx hb dL_law_40 (by decide) (by decide) (by decide) (by decide) (sL_20 hlt X hB hl hL hi hS hc kk)
  | 21, _, hS => exact lv_tableIn (off := 1071) (tgt := 1111) hx hb dL_law_40 (by decide) (by decide) (by decide) (by decide) (sL_21 hlt X hB hl hL hi hS hc kk)
  | 22, _, hS => exact lv_tableIn (off := 1127) (tgt := 1167) hx hb dL_law_40 (by decide) (by decide) (by decide) (by decide) (sL_22 hlt X hB hl hL hi hS hc kk)
  | 23, _, hS => exact lv_tableIn (off := 1140) (tgt := 1180) hx hb dL_law_40 (by decide) (by decide) (by decide) (by decide) (sL_23 hlt X hB hl hL hi hS hc kk)
  | 24, _, hS => exact lv_tableIn (off := 1196) (tgt := 1236) hx hb dL_law_40 (by decide) (by decide) (by decide) (by decide) (sL_24 hlt X hB hl hL hi hS hc kk)
  | 25, _, hS => exact lv_tableIn (off := 1209) (tgt := 1249) hx hb dL_law_40 (by decide) (by decide) (by decide) (by decide) (sL_25 hlt X hB hl hL hi hS hc kk)
  | 26, _, hS => exact lv_tableIn (off := 1222) (tgt := 1262) hx hb dL_law_40 (by decide) (by decide) (by decide) (by decide) (sL_26 hlt X hB hl hL hi hS hc kk)
  | 27, _, hS => exact lv_tableIn (off := 1278) (tgt := 1318) hx hb dL_law_40 (by decide) (by decide) (by decide) (by decide) (sL_27 hlt X hB hl hL hi hS hc kk)
  | 28, _, hS => exact lv_tableIn (off := 1334) (tgt := 1374) hx hb dL_law_40 (by decide) (by decide) (by decide) (by decide) (sL_28 hlt X hB hl hL hi hS hc kk)
  | 29, _, hS => exact lv_tableIn (off := 1390) (tgt := 1430) hx hb dL_law_40 (by decide) (by decide) (by decide) (by decide) (sL_29 hlt X hB hl hL hi hS hc kk)
  | 30, _, hS => exact lv_tableIn (off := 1446) (tgt := 1486) hx hb dL_law_40 (by decide) (by decide) (by decide) (by decide) (sL_30 hlt X hB hl hL hi hS hc kk)
  | 31, _, hS => exact lv_tableIn (off := 1502) (tgt := 1542) hx hb dL_law_40 (by decide) (by decide) (by decide) (by decide) (sL_31 hlt X hB hl hL hi hS hc kk)
  | 32, _, hS => exact lv_tableIn (off := 1558) (tgt := 1598) hx hb dL_law_40 (by decide) (by decide) (by decide) (by decide) (sL_32 hlt X hB hl hL hi hS hc kk)
  | 33, _, hS => exact lv_tableIn (off := 1626) (tgt := 1666) hx hb dL_law_40 (by decide) (by decide) (by decide) (by decide) (sL_33 hlt X hB hl hL hi hS hc kk)
  | 34, _, hS => exact lv_tableIn (off := 1694) (tgt := 1734) hx hb dL_law_40 (by decide) (by decide) (by decide) (by decide) (sL_34 hlt X hB hl hL hi hS hc kk)
  | 35, _, hS => exact lv_tableIn (off := 1750) (tgt := 1790) hx hb dL_law_40 (by decide) (by decide) (by decide) (by decide) (sL_35 hlt X hB hl hL hi hS hc kk)
  | 36, _, hS => exact lv_tableIn (off := 1806) (tgt := 1846) hx hb dL_law_40 (by decide) (by decide) (by decide) (by decide) (sL_36 hlt X hB hl hL hi hS hc kk)
  | 37, _, hS => exact lv_tableIn (off := 1862) (tgt := 1902) hx hb dL_law_40 (by decide) (by decide) (by decide) (by decide) (sL_37 hlt X hB hl hL hi hS hc kk)
  | 38, _, hS => exact lv_tableIn (off := 1875) (tgt := 1915) hx hb dL_law_40 (by decide) (by decide) (by decide) (by decide) (sL_38 hlt X hB hl hL hi hS hc kk)
  | 39, _, hS => exact lv_tableIn (off := 1888) (tgt := 1928) hx hb dL_law_40 (by decide) (by decide) (by decide) (by decide) (sL_39 hlt X hB hl hL hi hS hc kk)
  | 40, _, hS => exact lv_tableIn (off := 1901) (tgt := 1941) hx hb dL_law_40 (by decide) (by decide) (by decide) (by decide) (sL_40 hlt X hB hl hL hi hS hc kk)
  | 41, _, hS => exact lv_tableIn (off := 1993) (tgt := 2033) hx hb dL_law_40 (by decide) (by decide) (by decide) (by decide) (sL_41 hlt X hB hl hL hi hS hc kk)
  | 42, _, hS => exact lv_tableIn (off := 2061) (tgt := 2101) hx hb dL_law_40 (by decide) (by decide) (by decide) (by decide) (sL_42 hlt X hB hl hL hi hS hc kk)
  | 43, _, hS => exact lv_tableIn (off := 2117) (tgt := 2157) hx hb dL_law_40 (by decide) (by decide) (by decide) (by decide) (sL_43 hlt X hB hl hL hi hS hc kk)
  | 44, _, hS => exact lv_tableIn (off := 2185) (tgt := 2225) hx hb dL_law_40 (by decide) (by decide) (by decide) (by decide) (sL_44 hlt X hB hl hL hi hS hc kk)
  | 45, _, hS => exact lv_tableIn (off := 2198) (tgt := 2238) hx hb dL_law_40 (by decide) (by decide) (by decide) (by decide) (sL_45 hlt X hB hl hL hi hS hc kk)
  | 46, _, hS => exact lv_tableIn (off := 2211) (tgt := 2251) hx hb dL_law_40 (by decide) (by decide) (by decide) (by decide) (sL_46 hlt X hB hl hL hi hS hc kk)
  | 47, _, hS => exact lv_tableIn (off := 2224) (tgt := 2264) hx hb dL_law_40 (by decide) (by decide) (by decide) (by decide) (sL_47 hlt X hB hl hL hi hS hc kk)
  | 48, _, hS => exact lv_tableIn (off := 2237) (tgt := 2277) hx hb dL_law_40 (by decide) (by decide) (by decide) (by decide) (sL_48 hlt X hB hl hL hi hS hc kk)
  | 49, _, hS => exact lv_tableIn (off := 2250) (tgt := 2290) hx hb dL_law_40 (by decide) (by decide) (by decide) (by decide) (sL_49 hlt X hB hl hL hi hS hc kk)
  | 50, _, hS => exact lv_tableIn (off := 2263) (tgt := 2303) hx hb dL_law_40 (by decide) (by decide) (by decide) (by decide) (sL_50 hlt X hB hl hL hi hS hc kk)
  | 51, _, hS => exact lv_tableIn (off := 2304) (tgt := 2344) hx hb dL_law_40 (by decide) (by decide) (by decide) (by decide) (sL_51 hlt X hB hl hL hi hS hc kk)
  | 52, _, hS => exact lv_tableIn (off := 2347) (tgt := 2387) hx hb dL_law_40 (by decide) (by decide) (by decide) (by decide) (sL_52 hlt X hB hl hL hi hS hc kk)
  | 53, _, hS => exact lv_tableIn (off := 2403) (tgt := 2443) hx hb dL_law_40 (by decide) (by decide) (by decide) (by decide) (sL_53 hlt X hB hl hL hi hS hc kk)
  | 54, _, hS => exact lv_tableIn (off := 2483) (tgt := 2523) hx hb dL_law_40 (by decide) (by decide) (by decide) (by decide) (sL_54 hlt X hB hl hL hi hS hc kk)
  | 55, _, hS => exact lv_tableIn (off := 2563) (tgt := 2603) hx hb dL_law_40 (by decide) (by decide) (by decide) (by decide) (sL_55 hlt X hB hl hL hi hS hc kk)
  | 56, _, hS => exact lv_tableIn (off := 2631) (tgt := 2671) hx hb dL_law_40 (by decide) (by decide) (by decide) (by decide) (sL_56 hlt X hB hl hL hi hS hc kk)
  | 57, _, hS => exact lv_tableIn (off := 2735) (tgt := 2775) hx hb dL_law_40 (by decide) (by decide) (by decide) (by decide) (sL_57 hlt X hB hl hL hi hS hc kk)
  | 58, _, hS => exact lv_tableIn (off := 2815) (tgt := 2855) hx hb dL_law_40 (by decide) (by decide) (by decide) (by decide) (sL_58 hlt X hB hl hL hi hS hc kk)
  | 59, _, hS => exact lv_tableIn (off := 2871) (tgt := 2911) hx hb dL_law_40 (by decide) (by decide) (by decide) (by decide) (sL_59 hlt X hB hl hL hi hS hc kk)
  | 60, _, hS => exact lv_tableIn (off := 2915) (tgt := 2955) hx hb dL_law_40 (by decide) (by decide) (by decide) (by decide) (sL_60 hlt X hB hl hL hi hS hc kk)
  | 61, _, hS => exact lv_tableIn (off := 2971) (tgt := 3011) hx hb dL_law_40 (by decide) (by decide) (by decide) (by decide) (sL_61 hlt X hB hl hL hi hS hc kk)
  | 62, _, hS => exact lv_tableIn (off := 3027) (tgt := 3067) hx hb dL_law_40 (by decide) (by decide) (by decide) (by decide) (sL_62 hlt X hB hl hL hi hS hc kk)
  | 63, _, hS => exact lv_tableIn (off := 3083) (tgt := 3123) hx hb dL_law_40 (by decide) (by decide) (by decide) (by decide) (sL_63 hlt X hB hl hL hi hS hc kk)
  | n + 64, h, _ => exact absurd h (by omega)
theorem law_one {p : Program} {l : Launch} {e : Env} {s : State} {m : MethodId} {args : Array Value} {below : List Frame} {meth : Method} {c : Code} {H : Heap} {locs : List Loc} {cells slots : Nat} {Q : State → Prop} {ls : Array Slot} {D : va_G} {E : bE} {a : Nat} {v u w z : bM} {f : Nat → Int64} {b L : Nat} {xs : Nat → Int32} {i : Nat} (hlt : l.stackTraces = false) (X : bCx p s m args meth c RL cL_law 9 D E) (hB : uB D E a v u f b L xs s H locs) (hl : lv_has ls 9 [(4, .int (nI i)), (3, .ref (a + 876)), (2, .ref (a + 866)), (1, .ref a), (0, .ref b)]) (hL : L ≤ 3072) (hi : i + 5 < L) {K : Nat} (hK : K < 64) (he : xs i &&& 63 = nI K) (hS : bStep K (fun j => xs (i + j)) v u w z) (hc : cells + 20 ≤ 601024 ∧ slots + 3830 ≤ 7293034) (kk : ∀ (ls : Array Slot) (H : Heap) (locs : List Loc) (f9 : Nat → Int64) (c9 s9 : Nat), c9 ≤ cells + 20 → s9 ≤ slots + 3830 → lv_has ls 9 [(4, .int (nI i)), (3, .ref (a + 876)), (2, .ref (a + 866)), (1, .ref a), (0, .ref b)] → uB D E a w z f9 b L xs s H locs → W p l e room_1 s m args below meth c H locs c9 s9 Q (F0 m 3148 ls [])) : W p l e room_1 s m args below meth c H locs cells slots Q (F0 m 33 ls []) := by
  have hx := X.1
  have hb := X.2.1
  obtain ⟨b1, b2, b3, b4, b5, b6, b7, b8, b9, b10⟩ := id hB
  have e2 : (nI i).toNatClampNeg = i := nI_clamp (by omega)
  refine lv_aload_n hx hb dL_law_33 rfl (lv_at hl 4 rfl) ?_
  refine lv_iload hx hb dL_law_34 (lv_at hl 0 rfl) ?_
  refine va_sld hx hb b8 b9 (by show ¬ a ≤ b; omega) b4 (show ¬ (nI i < 0 ∨ L ≤ (nI i).toNatClampNeg) from fun q => ?_) dL_law_36 ?_
  · rcases q with q | q
    · exact nI_pos (by omega) q
    · omega
  · rw [e2]
    refine lv_bipush (v := 63) hx hb dL_law_37 (by decide) ?_
    refine lv_iand hx hb dL_law_39 ?_
    rw [he]
    exact law_sw hlt X hB hl hL hi hK hS hc kk
theorem neg6 : ∀ n : Nat, n < 6 → Int32.ofNat n - 6 < 0 := by decide
theorem law_loop {p : Program} {l : Launch} {e : Env} {s : State} {m : MethodId} {args : Array Value} {below : List Frame} {meth : Method} {c : Code} {Q : State → Prop} {D : va_G} {E : bE} {a : Nat} {b L : Nat} {xs : Nat → Int32} (Inv : Nat → bM → bM → Prop) (hlt : l.stackTraces = false) (X : bCx p s m args meth c RL cL_law 9 D E) (hL : L ≤ 3072)
    (hstep : ∀ (n : Nat) (v u : bM), n < 512 → Inv n v u → ∀ (K : Nat) (P : Nat → Int32), K < 64 → ∃ w z : bM, bStep K P v u w z ∧ Inv (n + 1) w z)
    (hQ : ∀ (H : Heap) (locs : List Loc) (cells slots : Nat) (ls : Array Slot), va_S (fun q => a ≤ q) s.heap H locs → cells ≤ 601024 → slots ≤ 7293034 → W p l e room_1 s m args below meth c H locs cells slots Q (F0 m 3155 ls [.int 1])) :
    ∀ (k n : Nat) (v u : bM) (f : Nat → Int64) (H : Heap) (locs : List Loc) (cells slots : Nat) (ls : Array Slot), n + k = 513 → Inv n v u → uB D E a v u f b L xs s H locs → lv_has ls 9 [(4, .int (nI (6 * n))), (3, .ref (a + 876)), (2, .ref (a + 866)), (1, .ref a), (0, .ref b)] → cells ≤ 2000 + 20 * n → slots ≤ 30000 + 3830 * n → W p l e room_1 s m args below meth c H locs cells slots Q (F0 m 23 ls []) := by
  have hx := X.1
  have hb := X.2.1
  intro k
  induction k with
  | zero =>
    intro n v u f H locs cells slots ls hn hI hB hl hc hs
    obtain ⟨b1, b2, b3, b4, b5, b6, b7, b8, b9, b10⟩ := id hB
    refine lv_iload hx hb dL_law_23 (lv_at hl 0 rfl) ?_
    refine lv_aload_n hx hb dL_law_25 rfl (lv_at hl 4 rfl) ?_
    refine va_slen hx hb b8 b9 (by show ¬ a ≤ b; omega) b4 dL_law_26 ?_
    refine lv_bipush (v := 6) hx hb dL_law_27 (by decide) ?_
    refine lv_isub hx hb dL_law_29 ?_
    refine lv_icmp_gt (tgt := 3154) hx hb dL_law_30 (by decide) (fun _ => ?_) (fun h => ?_)
    · refine lv_iconst (v := 1) hx hb dL_law_3154 (by decide) ?_
      exact hQ H locs cells slots ls b4 (by omega) (by omega)
    · have h6 : 6 ≤ L := by
        by_cases h6 : 6 ≤ L
        · exact h6
        · exact absurd (Int32.lt_of_lt_of_le (neg6 L (by omega)) (nI_pos' (show 6 * n < 2 ^ 31 by omega))) h
      have e6 : Int32.ofNat L - 6 = nI (L - 6) := nI_sub h6
      rw [e6] at h
      have hle : 6 * n ≤ L - 6 := (Int32.ofNat_le_ofNat (show 6 * n < 2 ^ 31 by omega) (show L - 6 < 2 ^ 31 by omega)).mp (Int32.not_lt.mp h)
      omega
  | succ k ih =>
    intro n v u f H locs cells slots ls hn hI hB hl hc hs
    obtain ⟨b1, b2, b3, b4, b5, b6, b7, b8, b9, b10⟩ := id hB
    refine lv_iload hx hb dL_law_23 (lv_at hl 0 rfl) ?_
    refine lv_aload_n hx hb dL_law_25 rfl (lv_at hl 4 rfl) ?_
    refine va_slen hx hb b8 b9 (by show ¬ a ≤ b; omega) b4 dL_law_26 ?_
    refine lv_bipush (v := 6) hx hb dL_law_27 (by decide) ?_
    refine lv_isub hx hb dL_law_29 ?_
    refine lv_icmp_gt (tgt := 3154) hx hb dL_law_30 (by decide) (fun _ => ?_) (fun h => ?_)
    · refine lv_iconst (v := 1) hx hb dL_law_3154 (by decide) ?_
      exact hQ H locs cells slots ls b4 (by omega) (by omega)
    · have h6 : 6 ≤ L := by
        by_cases h6 : 6 ≤ L
        · exact h6
        · exact absurd (Int32.lt_of_lt_of_le (neg6 L (by omega)) (nI_pos' (show 6 * n < 2 ^ 31 by omega))) h
      have e6 : Int32.ofNat L - 6 = nI (L - 6) := nI_sub h6
      rw [e6] at h
      have hle : 6 * n ≤ L - 6 := (Int32.ofNat_le_ofNat (show 6 * n < 2 ^ 31 by omega) (show L - 6 < 2 ^ 31 by omega)).mp (Int32.not_lt.mp h)
      obtain ⟨K, hK, he⟩ := and63 (xs (6 * n))
      obtain ⟨w, z, hS, hI2⟩ := hstep n v u (by omega) hI K (fun j => xs (6 * n + j)) hK
      refine law_one hlt X hB hl hL (by omega) hK he hS ⟨by omega, by omega⟩ (fun ls H locs f9 c9 s9 hc9 hs9 hl hB => ?_)
      refine lv_iinc (v := nI (6 * (n + 1))) (lv' := [(4, .int (nI (6 * (n + 1)))), (3, .ref (a + 876)), (2, .ref (a + 866)), (1, .ref a), (0, .ref b)]) hx hb dL_law_3148 hl (k := 0) rfl (by rw [show Int32.ofInt 6 = nI 6 by decide, nI_add]; rfl) (by decide) rfl (fun ls hl => ?_)
      refine lv_goto (tgt := 23) hx hb dL_law_3151 (by decide) ?_
      exact ih (n + 1) w z f9 H locs c9 s9 ls (by omega) hI2 hB hl (by rw [Nat.mul_add, Nat.mul_one, ← Nat.add_assoc]; exact Nat.le_trans hc9 (Nat.add_le_add_right hc 20)) (by rw [Nat.mul_add, Nat.mul_one, ← Nat.add_assoc]; exact Nat.le_trans hs9 (Nat.add_le_add_right hs 3830))
