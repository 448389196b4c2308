theorem dX8_sumOf_0 : decode cX8_sumOf 0 = .ok (.iconst 0, 1) := by decide +kernel
theorem dX8_sumOf_1 : decode cX8_sumOf 1 = .ok (.istore_n 2, 1) := by decide +kernel
theorem dX8_sumOf_2 : decode cX8_sumOf 2 = .ok (.iconst 0, 1) := by decide +kernel
theorem dX8_sumOf_3 : decode cX8_sumOf 3 = .ok (.istore_n 3, 1) := by decide +kernel
theorem dX8_sumOf_4 : decode cX8_sumOf 4 = .ok (.iload_n 3, 1) := by decide +kernel
theorem dX8_sumOf_5 : decode cX8_sumOf 5 = .ok (.iload_n 1, 1) := by decide +kernel
theorem dX8_sumOf_6 : decode cX8_sumOf 6 = .ok (.if_icmp .ge 15, 3) := by decide +kernel
theorem dX8_sumOf_9 : decode cX8_sumOf 9 = .ok (.iload_n 2, 1) := by decide +kernel
theorem dX8_sumOf_10 : decode cX8_sumOf 10 = .ok (.aload_n 0, 1) := by decide +kernel
theorem dX8_sumOf_11 : decode cX8_sumOf 11 = .ok (.iload_n 3, 1) := by decide +kernel
theorem dX8_sumOf_12 : decode cX8_sumOf 12 = .ok (.iaload, 1) := by decide +kernel
theorem dX8_sumOf_13 : decode cX8_sumOf 13 = .ok (.iadd, 1) := by decide +kernel
theorem dX8_sumOf_14 : decode cX8_sumOf 14 = .ok (.istore_n 2, 1) := by decide +kernel
theorem dX8_sumOf_15 : decode cX8_sumOf 15 = .ok (.iinc 3 1, 3) := by decide +kernel
theorem dX8_sumOf_18 : decode cX8_sumOf 18 = .ok (.goto (-14), 3) := by decide +kernel
theorem dX8_sumOf_21 : decode cX8_sumOf 21 = .ok (.iload_n 2, 1) := by decide +kernel
theorem dX8_sumOf_22 : decode cX8_sumOf 22 = .ok (.ireturn, 1) := by decide +kernel
def fX8_sumOf_L4 (p1 : Int32) (n : Nat) (v : bM) (k4 : Int32 → Int32 → Option Int32) (y1 : Int32) (y2 : Int32) : Option Int32 :=
  (if p1 ≤ y2 then (some (y1)) else (ck y2 n <| nm (y1 + (v (0 + y2.toNatClampNeg))) fun x5 => nm (y2 + 1) fun x6 => k4 x5 x6))
def fX8_sumOf (n : Nat) (p1 : Int32) (v : bM) : Option Int32 :=
  lp (fX8_sumOf_L4 p1 n v) (fun _ _ => none) lpN 0 0
set_option maxRecDepth 100000 in
set_option maxHeartbeats 4000000 in
theorem mX8_sumOf {l : Launch} {n : Nat} {p1 : Int32} {v : bM} {r0 : Int32} (hf : fX8_sumOf n p1 v = some r0) : bMet l yX8_sumOf cX8_sumOf 4 (some .int) 0 0 0 (LA n) (fun E a => [.ref a, .int p1]) v v (fun _ => some (.int r0)) := by
  refine bk_start (by decide +kernel) (wfA n) (fun _ _ => Nat.le_of_ble_eq_true rfl) ?_
  intro p e s m args below meth c D E a ls H locs X hr hl hB
  have hx := X.1
  have hb := X.2.1
  have hown := X.2.2.2.1
  have hts := X.2.2.2.2.1
  have hl : lv_has ls 4 [(0, .ref a), (1, .int p1)] := hl
  have hf := (fX8_sumOf.eq_1 n p1 v).symm.trans hf
  refine lv_iconst (v := 0) hx hb dX8_sumOf_0 (by decide) ?_
  refine lv_istore_n (lv' := [(2, .int 0), (0, .ref a), (1, .int p1)]) hx hb dX8_sumOf_1 rfl hl (by decide) rfl (fun ls hl => ?_)
  refine lv_iconst (v := 0) hx hb dX8_sumOf_2 (by decide) ?_
  refine lv_istore_n (lv' := [(3, .int 0), (2, .int 0), (0, .ref a), (1, .int p1)]) hx hb dX8_sumOf_3 rfl hl (by decide) rfl (fun ls hl => ?_)
  have hL4 : ∀ (n4 : Nat) (y1 y2 : Int32) (H : Heap) (locs : List Loc) (ls : Array Slot), lp (fX8_sumOf_L4 p1 n v) (fun _ _ => none) n4 y1 y2 = some r0 → bB D E (LA n) a v s H locs → lv_has ls 4 [(0, .ref a), (1, .int p1), (2, .int y1), (3, .int y2)] → W p l e (rmOf 0 0 0) s m args below meth c H locs 0 0 (bQ below D E (LA n) a v (some (.int r0)) args s 0 0) (F0 m 4 ls []) := by
    intro n4
    induction n4 with
    | zero => intro y1 y2 H locs ls hf; cases (show (none : Option Int32) = some r0 from hf)
    | succ n4 ih4 =>
      intro y1 y2 H locs ls hf hB hl
      have hf := (fX8_sumOf_L4.eq_1 p1 n v (lp (fX8_sumOf_L4 p1 n v) (fun _ _ => none) n4) y1 y2).symm.trans (show fX8_sumOf_L4 p1 n v (lp (fX8_sumOf_L4 p1 n v) (fun _ _ => none) n4) y1 y2 = some r0 from hf)
      refine lv_iload_n hx hb dX8_sumOf_4 rfl (lv_at hl 3 rfl) ?_
      refine lv_iload_n hx hb dX8_sumOf_5 rfl (lv_at hl 1 rfl) ?_
      refine lv_icmp_ge (tgt := 21) hx hb dX8_sumOf_6 (by decide) (fun c3 => ?_) (fun c3 => ?_)
      · have hf := (if_pos c3).symm.trans hf
        refine lv_iload_n hx hb dX8_sumOf_21 rfl (lv_at hl 2 rfl) ?_
        exact bk_iR X hr rfl hf hB (Nat.le_of_ble_eq_true rfl) (Nat.le_of_ble_eq_true rfl) dX8_sumOf_22
      · have hf := (if_neg c3).symm.trans hf
        refine lv_iload_n hx hb dX8_sumOf_9 rfl (lv_at hl 2 rfl) ?_
        refine lv_aload_n hx hb dX8_sumOf_10 rfl (lv_at hl 0 rfl) ?_
        refine lv_iload_n hx hb dX8_sumOf_11 rfl (lv_at hl 3 rfl) ?_
        obtain ⟨h4, hf⟩ := ck_some hf
        refine bk_ald X hB 0 rfl h4 dX8_sumOf_12 ?_
        refine lv_iadd hx hb dX8_sumOf_13 ?_
        refine lv_topi (fun x5 ex5 => ?_)
        have hf := nm_use hf ex5
        refine lv_istore_n (lv' := [(2, .int x5), (0, .ref a), (1, .int p1), (3, .int y2)]) hx hb dX8_sumOf_14 rfl hl (by decide) rfl (fun ls hl => ?_)
        obtain ⟨x6, ex6⟩ : ∃ y : Int32, y = y2 + 1 := ⟨_, rfl⟩
        have hf := nm_use hf ex6
        refine lv_iinc (v := x6) (lv' := [(3, .int x6), (2, .int x5), (0, .ref a), (1, .int p1)]) hx hb dX8_sumOf_15 hl (k := 3) rfl (by rw [ex6]; rfl) (by decide) rfl (fun ls hl => ?_)
        refine lv_goto (tgt := 4) hx hb dX8_sumOf_18 (by decide) ?_
        exact ih4 x5 x6 H locs ls hf hB (lv_sub hl [2, 3, 1, 0] rfl)
  exact hL4 lpN 0 0 H locs ls hf hB (lv_sub hl [2, 3, 1, 0] rfl)
theorem ys_X8_sumOf : bYs yX8_sumOf RX8 cX8_sumOf 4 (some .int) 2 := ⟨⟨rfl, by decide, by decide, rfl⟩, wm_604, wm_1, wm_605⟩

theorem dX8_bytesIn_0 : decode cX8_bytesIn 0 = .ok (.iconst 0, 1) := by decide +kernel
theorem dX8_bytesIn_1 : decode cX8_bytesIn 1 = .ok (.istore_n 1, 1) := by decide +kernel
theorem dX8_bytesIn_2 : decode cX8_bytesIn 2 = .ok (.bipush 24, 2) := by decide +kernel
theorem dX8_bytesIn_4 : decode cX8_bytesIn 4 = .ok (.istore_n 2, 1) := by decide +kernel
theorem dX8_bytesIn_5 : decode cX8_bytesIn 5 = .ok (.iload_n 2, 1) := by decide +kernel
theorem dX8_bytesIn_6 : decode cX8_bytesIn 6 = .ok (.ifCond .lt 22, 3) := by decide +kernel
theorem dX8_bytesIn_9 : decode cX8_bytesIn 9 = .ok (.iload_n 0, 1) := by decide +kernel
theorem dX8_bytesIn_10 : decode cX8_bytesIn 10 = .ok (.iload_n 2, 1) := by decide +kernel
theorem dX8_bytesIn_11 : decode cX8_bytesIn 11 = .ok (.iushr, 1) := by decide +kernel
theorem dX8_bytesIn_12 : decode cX8_bytesIn 12 = .ok (.sipush 255, 3) := by decide +kernel
theorem dX8_bytesIn_15 : decode cX8_bytesIn 15 = .ok (.iand, 1) := by decide +kernel
theorem dX8_bytesIn_16 : decode cX8_bytesIn 16 = .ok (.ifCond .eq 6, 3) := by decide +kernel
theorem dX8_bytesIn_19 : decode cX8_bytesIn 19 = .ok (.iinc 1 1, 3) := by decide +kernel
theorem dX8_bytesIn_22 : decode cX8_bytesIn 22 = .ok (.iinc 2 (-8), 3) := by decide +kernel
theorem dX8_bytesIn_25 : decode cX8_bytesIn 25 = .ok (.goto (-20), 3) := by decide +kernel
theorem dX8_bytesIn_28 : decode cX8_bytesIn 28 = .ok (.iload_n 1, 1) := by decide +kernel
theorem dX8_bytesIn_29 : decode cX8_bytesIn 29 = .ok (.ireturn, 1) := by decide +kernel
def fX8_bytesIn_J22 (y2 : Int32) (k5 : Int32 → Int32 → Option Int32) (y4 : Int32) : Option Int32 :=
  nm (y2 + (-8)) fun x5 => k5 y4 x5
def fX8_bytesIn_L5 (p0 : Int32) (k5 : Int32 → Int32 → Option Int32) (y1 : Int32) (y2 : Int32) : Option Int32 :=
  (if y2 < 0 then (some (y1)) else ((if (((p0.toUInt32 >>> ((y2 : Int32).toUInt32 &&& Int32.toUInt32 31)).toInt32) &&& 255) = 0 then (fX8_bytesIn_J22 y2 k5 y1) else (nm (y1 + 1) fun x7 => fX8_bytesIn_J22 y2 k5 x7))))
def fX8_bytesIn (p0 : Int32) : Option Int32 :=
  lp (fX8_bytesIn_L5 p0) (fun _ _ => none) lpN 0 24
set_option maxRecDepth 100000 in
set_option maxHeartbeats 4000000 in
theorem mX8_bytesIn {l : Launch} {p0 : Int32} {v : bM} {r0 : Int32} (hf : fX8_bytesIn p0 = some r0) : bMet l yX8_bytesIn cX8_bytesIn 3 (some .int) 0 0 0 [] (fun E a => [.int p0]) v v (fun _ => some (.int r0)) := by
  refine bk_start (by decide +kernel) bWf_nil (fun _ _ => Nat.le_of_ble_eq_true rfl) ?_
  intro p e s m args below meth c D E a ls H locs X hr hl hB
  have hx := X.1
  have hb := X.2.1
  have hown := X.2.2.2.1
  have hts := X.2.2.2.2.1
  have hl : lv_has ls 3 [(0, .int p0)] := hl
  have hf := (fX8_bytesIn.eq_1 p0).symm.trans hf
  refine lv_iconst (v := 0) hx hb dX8_bytesIn_0 (by decide) ?_
  refine lv_istore_n (lv' := [(1, .int 0), (0, .int p0)]) hx hb dX8_bytesIn_1 rfl hl (by decide) rfl (fun ls hl => ?_)
  refine lv_bipush (v := 24) hx hb dX8_bytesIn_2 (by decide) ?_
  refine lv_istore_n (lv' := [(2, .int 24), (1, .int 0), (0, .int p0)]) hx hb dX8_bytesIn_4 rfl hl (by decide) rfl (fun ls hl => ?_)
  have hL5 : ∀ (n5 : Nat) (y1 y2 : Int32) (H : Heap) (locs : List Loc) (ls : Array Slot), lp (fX8_bytesIn_L5 p0) (fun _ _ => none) n5 y1 y2 = some r0 → bB D E [] a v s H locs → lv_has ls 3 [(0, .int p0), (1, .int y1), (2, .int y2)] → W p l e (rmOf 0 0 0) s m args below meth c H locs 0 0 (bQ below D E [] a v (some (.int r0)) args s 0 0) (F0 m 5 ls []) := by
    intro n5
    induction n5 with
    | zero => intro y1 y2 H locs ls hf; cases (show (none : Option Int32) = some r0 from hf)
    | succ n5 ih5 =>
      intro y1 y2 H locs ls hf hB hl
      have hf := (fX8_bytesIn_L5.eq_1 p0 (lp (fX8_bytesIn_L5 p0) (fun _ _ => none) n5) y1 y2).symm.trans (show fX8_bytesIn_L5 p0 (lp (fX8_bytesIn_L5 p0) (fun _ _ => none) n5) y1 y2 = some r0 from hf)
      refine lv_iload_n hx hb dX8_bytesIn_5 rfl (lv_at hl 2 rfl) ?_
      refine lv_if_lt (tgt := 28) hx hb dX8_bytesIn_6 (by decide) (fun c3 => ?_) (fun c3 => ?_)
      · have hf := (if_pos c3).symm.trans hf
        refine lv_iload_n hx hb dX8_bytesIn_28 rfl (lv_at hl 1 rfl) ?_
        exact bk_iR X hr rfl hf hB (Nat.le_of_ble_eq_true rfl) (Nat.le_of_ble_eq_true rfl) dX8_bytesIn_29
      · have hf := (if_neg c3).symm.trans hf
        refine lv_iload_n hx hb dX8_bytesIn_9 rfl (lv_at hl 0 rfl) ?_
        refine lv_iload_n hx hb dX8_bytesIn_10 rfl (lv_at hl 2 rfl) ?_
        refine lv_iushr (v := (p0.toUInt32 >>> ((y2 : Int32).toUInt32 &&& Int32.toUInt32 31)).toInt32) hx hb dX8_bytesIn_11 rfl ?_
        refine lv_sipush (v := 255) hx hb dX8_bytesIn_12 (by decide) ?_
        refine lv_iand hx hb dX8_bytesIn_15 ?_
        have hJ22 : ∀ (y4 : Int32) (H : Heap) (locs : List Loc) (ls : Array Slot), fX8_bytesIn_J22 y2 (lp (fX8_bytesIn_L5 p0) (fun _ _ => none) n5) y4 = some r0 → bB D E [] a v s H locs → lv_has ls 3 [(0, .int p0), (1, .int y4), (2, .int y2)] → W p l e (rmOf 0 0 0) s m args below meth c H locs 0 0 (bQ below D E [] a v (some (.int r0)) args s 0 0) (F0 m 22 ls []) := by
          intro y4 H locs ls hf hB hl
          have hf := (fX8_bytesIn_J22.eq_1 y2 (lp (fX8_bytesIn_L5 p0) (fun _ _ => none) n5) y4).symm.trans hf
          obtain ⟨x5, ex5⟩ : ∃ y : Int32, y = y2 + (-8) := ⟨_, rfl⟩
          have hf := nm_use hf ex5
          refine lv_iinc (v := x5) (lv' := [(2, .int x5), (0, .int p0), (1, .int y4)]) hx hb dX8_bytesIn_22 hl (k := 2) rfl (by rw [ex5]; rfl) (by decide) rfl (fun ls hl => ?_)
          refine lv_goto (tgt := 5) hx hb dX8_bytesIn_25 (by decide) ?_
          exact ih5 y4 x5 H locs ls hf hB (lv_sub hl [1, 2, 0] rfl)
        refine lv_if_eq (tgt := 22) hx hb dX8_bytesIn_16 (by decide) (fun c6 => ?_) (fun c6 => ?_)
        · have hf := (if_pos c6).symm.trans hf
          exact hJ22 y1 H locs ls hf hB (lv_sub hl [0, 1, 2] rfl)
        · have hf := (if_neg c6).symm.trans hf
          obtain ⟨x7, ex7⟩ : ∃ y : Int32, y = y1 + 1 := ⟨_, rfl⟩
          have hf := nm_use hf ex7
          refine lv_iinc (v := x7) (lv' := [(1, .int x7), (0, .int p0), (2, .int y2)]) hx hb dX8_bytesIn_19 hl (k := 1) rfl (by rw [ex7]; rfl) (by decide) rfl (fun ls hl => ?_)
          exact hJ22 x7 H locs ls hf hB (lv_sub hl [1, 0, 2] rfl)
  exact hL5 lpN 0 24 H locs ls hf hB (lv_sub hl [2, 1, 0] rfl)
theorem ys_X8_bytesIn : bYs yX8_bytesIn RX8 cX8_bytesIn 3 (some .int) 1 := ⟨⟨rfl, by decide, by decide, rfl⟩, wm_681, wm_1, wm_682⟩

theorem dJ9_floorMod_7cf53_0 : decode cJ9_floorMod_7cf53 0 = .ok (.iload_n 0, 1) := by decide +kernel
theorem dJ9_floorMod_7cf53_1 : decode cJ9_floorMod_7cf53 1 = .ok (.iload_n 1, 1) := by decide +kernel
theorem dJ9_floorMod_7cf53_2 : decode cJ9_floorMod_7cf53 2 = .ok (.irem, 1) := by decide +kernel
theorem dJ9_floorMod_7cf53_3 : decode cJ9_floorMod_7cf53 3 = .ok (.istore_n 2, 1) := by decide +kernel
theorem dJ9_floorMod_7cf53_4 : decode cJ9_floorMod_7cf53 4 = .ok (.iload_n 0, 1) := by decide +kernel
theorem dJ9_floorMod_7cf53_5 : decode cJ9_floorMod_7cf53 5 = .ok (.iload_n 1, 1) := by decide +kernel
theorem dJ9_floorMod_7cf53_6 : decode cJ9_floorMod_7cf53 6 = .ok (.ixor, 1) := by decide +kernel
theorem dJ9_floorMod_7cf53_7 : decode cJ9_floorMod_7cf53 7 = .ok (.ifCond .ge 11, 3) := by decide +kernel
theorem dJ9_floorMod_7cf53_10 : decode cJ9_floorMod_7cf53 10 = .ok (.iload_n 2, 1) := by decide +kernel
theorem dJ9_floorMod_7cf53_11 : decode cJ9_floorMod_7cf53 11 = .ok (.ifCond .eq 7, 3) := by decide +kernel
theorem dJ9_floorMod_7cf53_14 : decode cJ9_floorMod_7cf53 14 = .ok (.iload_n 2, 1) := by decide +kernel
theorem dJ9_floorMod_7cf53_15 : decode cJ9_floorMod_7cf53 15 = .ok (.iload_n 1, 1) := by decide +kernel
theorem dJ9_floorMod_7cf53_16 : decode cJ9_floorMod_7cf53 16 = .ok (.iadd, 1) := by decide +kernel
theorem dJ9_floorMod_7cf53_17 : decode cJ9_floorMod_7cf53 17 = .ok (.ireturn, 1) := by decide +kernel
theorem dJ9_floorMod_7cf53_18 : decode cJ9_floorMod_7cf53 18 = .ok (.iload_n 2, 1) := by decide +kernel
theorem dJ9_floorMod_7cf53_19 : decode cJ9_floorMod_7cf53 19 = .ok (.ireturn, 1) := by decide +kernel
def fJ9_floorMod_7cf53 (p0 : Int32) (p1 : Int32) : Option Int32 :=
  cz p1 <| nm (p0 - p0 / p1 * p1) fun x2 => (if 0 ≤ (p0 ^^^ p1) then (some (x2)) else ((if x2 = 0 then (some (x2)) else (some (x2 + p1)))))
set_option maxRecDepth 100000 in
set_option maxHeartbeats 4000000 in
theorem mJ9_floorMod_7cf53 {l : Launch} {p0 : Int32} {p1 : Int32} {v : bM} {r0 : Int32} (hf : fJ9_floorMod_7cf53 p0 p1 = some r0) : bMet l yJ9_floorMod_7cf53 cJ9_floorMod_7cf53 3 (some .int) 0 0 0 [] (fun E a => [.int p0, .int p1]) v v (fun _ => some (.int r0)) := by
  refine bk_start (by decide +kernel) bWf_nil (fun _ _ => Nat.le_of_ble_eq_true rfl) ?_
  intro p e s m args below meth c D E a ls H locs X hr hl hB
  have hx := X.1
  have hb := X.2.1
  have hown := X.2.2.2.1
  have hts := X.2.2.2.2.1
  have hl : lv_has ls 3 [(0, .int p0), (1, .int p1)] := hl
  have hf := (fJ9_floorMod_7cf53.eq_1 p0 p1).symm.trans hf
  refine lv_iload_n hx hb dJ9_floorMod_7cf53_0 rfl (lv_at hl 0 rfl) ?_
  refine lv_iload_n hx hb dJ9_floorMod_7cf53_1 rfl (lv_at hl 1 rfl) ?_
  obtain ⟨h1, hf⟩ := cz_some hf
  refine lv_irem hx hb dJ9_floorMod_7cf53_2 h1 ?_
  refine lv_topi (fun x2 ex2 => ?_)
  have hf := nm_use hf ex2
  refine lv_istore_n (lv' := [(2, .int x2), (0, .int p0), (1, .int p1)]) hx hb dJ9_floorMod_7cf53_3 rfl hl (by decide) rfl (fun ls hl => ?_)
  refine lv_iload_n hx hb dJ9_floorMod_7cf53_4 rfl (lv_at hl 1 rfl) ?_
  refine lv_iload_n hx hb dJ9_floorMod_7cf53_5 rfl (lv_at hl 2 rfl) ?_
  refine lv_ixor hx hb dJ9_floorMod_7cf53_6 ?_
  refine lv_if_ge (tgt := 18) hx hb dJ9_floorMod_7cf53_7 (by decide) (fun c3 => ?_) (fun c3 => ?_)
  · have hf := (if_pos c3).symm.trans hf
    refine lv_iload_n hx hb dJ9_floorMod_7cf53_18 rfl (lv_at hl 0 rfl) ?_
    exact bk_iR X hr rfl hf hB (Nat.le_of_ble_eq_true rfl) (Nat.le_of_ble_eq_true rfl) dJ9_floorMod_7cf53_19
  · have hf := (if_neg c3).symm.trans hf
    refine lv_iload_n hx hb dJ9_floorMod_7cf53_10 rfl (lv_at hl 0 rfl) ?_
    refine lv_if_eq (tgt := 18) hx hb dJ9_floorMod_7cf53_11 (by decide) (fun c4 => ?_) (fun c4 => ?_)
    · have hf := (if_pos c4).symm.trans hf
      refine lv_iload_n hx hb dJ9_floorMod_7cf53_18 rfl (lv_at hl 0 rfl) ?_
      exact bk_iR X hr rfl hf hB (Nat.le_of_ble_eq_true rfl) (Nat.le_of_ble_eq_true rfl) dJ9_floorMod_7cf53_19
    · have hf := (if_neg c4).symm.trans hf
      refine lv_iload_n hx hb dJ9_floorMod_7cf53_14 rfl (lv_at hl 0 rfl) ?_
      refine lv_iload_n hx hb dJ9_floorMod_7cf53_15 rfl (lv_at hl 2 rfl) ?_
      refine lv_iadd hx hb dJ9_floorMod_7cf53_16 ?_
      exact bk_iR X hr rfl hf hB (Nat.le_of_ble_eq_true rfl) (Nat.le_of_ble_eq_true rfl) dJ9_floorMod_7cf53_17
theorem ys_J9_floorMod_7cf53 : bYs yJ9_floorMod_7cf53 RJ9 cJ9_floorMod_7cf53 3 (some .int) 2 := ⟨⟨rfl, by decide, by decide, rfl⟩, wm_636, wm_16, wm_637⟩

theorem dX2_copyFrom_0 : decode cX2_copyFrom 0 = .ok (.aload_n 0, 1) := by decide +kernel
theorem dX2_copyFrom_1 : decode cX2_copyFrom 1 = .ok (.aload_n 1, 1) := by decide +kernel
theorem dX2_copyFrom_2 : decode cX2_copyFrom 2 = .ok (.getfield 32, 3) := by decide +kernel
theorem dX2_copyFrom_5 : decode cX2_copyFrom 5 = .ok (.putfield 32, 3) := by decide +kernel
theorem dX2_copyFrom_8 : decode cX2_copyFrom 8 = .ok (.aload_n 1, 1) := by decide +kernel
theorem dX2_copyFrom_9 : decode cX2_copyFrom 9 = .ok (.getfield 9, 3) := by decide +kernel
theorem dX2_copyFrom_12 : decode cX2_copyFrom 12 = .ok (.aload_n 0, 1) := by decide +kernel
theorem dX2_copyFrom_13 : decode cX2_copyFrom 13 = .ok (.getfield 9, 3) := by decide +kernel
theorem dX2_copyFrom_16 : decode cX2_copyFrom 16 = .ok (.invokestatic 36, 3) := by decide +kernel
theorem dX2_copyFrom_19 : decode cX2_copyFrom 19 = .ok (.aload_n 1, 1) := by decide +kernel
theorem dX2_copyFrom_20 : decode cX2_copyFrom 20 = .ok (.getfield 15, 3) := by decide +kernel
theorem dX2_copyFrom_23 : decode cX2_copyFrom 23 = .ok (.aload_n 0, 1) := by decide +kernel
theorem dX2_copyFrom_24 : decode cX2_copyFrom 24 = .ok (.getfield 15, 3) := by decide +kernel
theorem dX2_copyFrom_27 : decode cX2_copyFrom 27 = .ok (.invokestatic 36, 3) := by decide +kernel
theorem dX2_copyFrom_30 : decode cX2_copyFrom 30 = .ok (.aload_n 1, 1) := by decide +kernel
theorem dX2_copyFrom_31 : decode cX2_copyFrom 31 = .ok (.getfield 26, 3) := by decide +kernel
theorem dX2_copyFrom_34 : decode cX2_copyFrom 34 = .ok (.aload_n 0, 1) := by decide +kernel
theorem dX2_copyFrom_35 : decode cX2_copyFrom 35 = .ok (.getfield 26, 3) := by decide +kernel
theorem dX2_copyFrom_38 : decode cX2_copyFrom 38 = .ok (.invokestatic 36, 3) := by decide +kernel
theorem dX2_copyFrom_41 : decode cX2_copyFrom 41 = .ok (.aload_n 1, 1) := by decide +kernel
theorem dX2_copyFrom_42 : decode cX2_copyFrom 42 = .ok (.getfield 29, 3) := by decide +kernel
theorem dX2_copyFrom_45 : decode cX2_copyFrom 45 = .ok (.aload_n 0, 1) := by decide +kernel
theorem dX2_copyFrom_46 : decode cX2_copyFrom 46 = .ok (.getfield 29, 3) := by decide +kernel
theorem dX2_copyFrom_49 : decode cX2_copyFrom 49 = .ok (.invokestatic 36, 3) := by decide +kernel
theorem dX2_copyFrom_52 : decode cX2_copyFrom 52 = .ok (.iconst 0, 1) := by decide +kernel
theorem dX2_copyFrom_53 : decode cX2_copyFrom 53 = .ok (.istore_n 2, 1) := by decide +kernel
theorem dX2_copyFrom_54 : decode cX2_copyFrom 54 = .ok (.iload_n 2, 1) := by decide +kernel
theorem dX2_copyFrom_55 : decode cX2_copyFrom 55 = .ok (.bipush 6, 2) := by decide +kernel
theorem dX2_copyFrom_57 : decode cX2_copyFrom 57 = .ok (.if_icmp .ge 39, 3) := by decide +kernel
theorem dX2_copyFrom_60 : decode cX2_copyFrom 60 = .ok (.aload_n 1, 1) := by decide +kernel
theorem dX2_copyFrom_61 : decode cX2_copyFrom 61 = .ok (.getfield 20, 3) := by decide +kernel
theorem dX2_copyFrom_64 : decode cX2_copyFrom 64 = .ok (.iload_n 2, 1) := by decide +kernel
theorem dX2_copyFrom_65 : decode cX2_copyFrom 65 = .ok (.aaload, 1) := by decide +kernel
theorem dX2_copyFrom_66 : decode cX2_copyFrom 66 = .ok (.aload_n 0, 1) := by decide +kernel
theorem dX2_copyFrom_67 : decode cX2_copyFrom 67 = .ok (.getfield 20, 3) := by decide +kernel
theorem dX2_copyFrom_70 : decode cX2_copyFrom 70 = .ok (.iload_n 2, 1) := by decide +kernel
theorem dX2_copyFrom_71 : decode cX2_copyFrom 71 = .ok (.aaload, 1) := by decide +kernel
theorem dX2_copyFrom_72 : decode cX2_copyFrom 72 = .ok (.invokestatic 36, 3) := by decide +kernel
theorem dX2_copyFrom_75 : decode cX2_copyFrom 75 = .ok (.aload_n 1, 1) := by decide +kernel
theorem dX2_copyFrom_76 : decode cX2_copyFrom 76 = .ok (.getfield 23, 3) := by decide +kernel
theorem dX2_copyFrom_79 : decode cX2_copyFrom 79 = .ok (.iload_n 2, 1) := by decide +kernel
theorem dX2_copyFrom_80 : decode cX2_copyFrom 80 = .ok (.aaload, 1) := by decide +kernel
theorem dX2_copyFrom_81 : decode cX2_copyFrom 81 = .ok (.aload_n 0, 1) := by decide +kernel
theorem dX2_copyFrom_82 : decode cX2_copyFrom 82 = .ok (.getfield 23, 3) := by decide +kernel
theorem dX2_copyFrom_85 : decode cX2_copyFrom 85 = .ok (.iload_n 2, 1) := by decide +kernel
theorem dX2_copyFrom_86 : decode cX2_copyFrom 86 = .ok (.aaload, 1) := by decide +kernel
theorem dX2_copyFrom_87 : decode cX2_copyFrom 87 = .ok (.invokestatic 36, 3) := by decide +kernel
theorem dX2_copyFrom_90 : decode cX2_copyFrom 90 = .ok (.iinc 2 1, 3) := by decide +kernel
theorem dX2_copyFrom_93 : decode cX2_copyFrom 93 = .ok (.goto (-39), 3) := by decide +kernel
theorem dX2_copyFrom_96 : decode cX2_copyFrom 96 = .ok (.return_, 1) := by decide +kernel
def fX2_copyFrom_L54 (u : bM) (k54 : Int32 → bM → Option bM) (y7 : Int32) (v8 : bM) : Option bM :=
  (if 6 ≤ y7 then (some v8) else (ck y7 6 <| ck y7 6 <| nm (spl v8 (13 + 12 * y7.toNatClampNeg) 12 (vw u (13 + 12 * y7.toNatClampNeg))) fun v12 => ck y7 6 <| ck y7 6 <| nm (spl v12 (85 + 12 * y7.toNatClampNeg) 12 (vw u (85 + 12 * y7.toNatClampNeg))) fun v15 => nm (y7 + 1) fun x16 => k54 x16 v15))
def fX2_copyFrom  (v u : bM) : Option bM :=
  nm (u 0) fun x1 => nm (upd v 0 x1) fun v2 => nm (spl v2 (1) 6 (vw u (1))) fun v3 => nm (spl v3 (7) 6 (vw u (7))) fun v4 => nm (spl v4 (157) 6 (vw u (157))) fun v5 => nm (spl v5 (163) 6 (vw u (163))) fun v6 => lp (fX2_copyFrom_L54 u) (fun _ _ => none) lpN 0 v6
set_option maxRecDepth 100000 in
set_option maxHeartbeats 4000000 in
theorem mX2_copyFrom {l : Launch}  {v u : bM} {w0 : bM} (hf : fX2_copyFrom  v u = some w0) : bMet2 l yX2_copyFrom cX2_copyFrom 3 none 2 LFl (fun E a b => [.ref a, .ref b]) v u w0 (fun _ => none) := by
  refine bk_start2 (by decide +kernel) wfFl (fun _ _ _ => Nat.le_of_ble_eq_true rfl) ?_
  intro p e s m args below meth c D E a b ls H locs X hr hl hB hu hab
  have hx := X.1
  have hb := X.2.1
  have hown := X.2.2.2.1
  have hts := X.2.2.2.2.1
  have hl : lv_has ls 3 [(0, .ref a), (1, .ref b)] := hl
  have hf := (fX2_copyFrom.eq_1  v u).symm.trans hf
  refine lv_aload_n hx hb dX2_copyFrom_0 rfl (lv_at hl 0 rfl) ?_
  refine lv_aload_n hx hb dX2_copyFrom_1 rfl (lv_at hl 1 rfl) ?_
  refine bk_getI0 X (srcK plFl hB hu hab) kl_X2 0 lc_Fl_0 0 (by decide) rfl wm_54 dX2_copyFrom_2 ?_
  refine lv_topi (fun x1 ex1 => ?_)
  have hf := nm_use hf ex1
  refine bk_putI X hB kl_X2 0 lc_Fl_0 0 (by decide) rfl rfl rfl wm_54 dX2_copyFrom_5 rfl (fun H locs hB => ?_)
  obtain ⟨v2, ev2⟩ : ∃ y : bM, y = upd v 0 x1 := ⟨_, rfl⟩
  have hf := nm_use hf ev2
  rw [← ev2] at hB
  refine lv_aload_n hx hb dX2_copyFrom_8 rfl (lv_at hl 1 rfl) ?_
  refine bk_getR0 X (srcK plFl hB hu hab) kl_X2 0 lc_Fl_0 1 (by decide) rfl wm_58 dX2_copyFrom_9 ?_
  refine lv_aload_n hx hb dX2_copyFrom_12 rfl (lv_at hl 0 rfl) ?_
  refine bk_getR X hB kl_X2 0 lc_Fl_0 1 (by decide) rfl wm_58 dX2_copyFrom_13 ?_
  refine bk_sub (bSub_arr hB.2.2.1 (by decide) lc_Fl_1) hB (fun h1 h2 h3 => bk_runSN2 X (Av := [.ref (b + 1), .ref (a + 1)]) (rest := []) (mX8_copyRow (n := 6) (by decide)) ys_X8_copyRow (List.mem_of_getElem? (i := 9) rfl) ⟨Nat.le_of_ble_eq_true rfl, Nat.le_of_ble_eq_true rfl⟩ rfl rfl hl.1 (Blk.subArr wfFl (by decide) lc_Fl_1 (srcK plFl hB hu hab)) (apA hab lc_Fl_1 lc_Fl_1) h1 h2 h3 (Nat.le_of_ble_eq_true rfl) ⟨Nat.le_of_ble_eq_true rfl, Nat.le_of_ble_eq_true rfl⟩ dX2_copyFrom_16) (fun H locs hB => ?_)
  refine W.eq (g2 := F0 m 19 ls []) rfl ?_
  obtain ⟨v3, ev3⟩ : ∃ y : bM, y = spl v2 (1) 6 (vw u (1)) := ⟨_, rfl⟩
  have hf := nm_use hf ev3
  rw [← ev3] at hB
  refine lv_aload_n hx hb dX2_copyFrom_19 rfl (lv_at hl 1 rfl) ?_
  refine bk_getR0 X (srcK plFl hB hu hab) kl_X2 0 lc_Fl_0 2 (by decide) rfl wm_61 dX2_copyFrom_20 ?_
  refine lv_aload_n hx hb dX2_copyFrom_23 rfl (lv_at hl 0 rfl) ?_
  refine bk_getR X hB kl_X2 0 lc_Fl_0 2 (by decide) rfl wm_61 dX2_copyFrom_24 ?_
  refine bk_sub (bSub_arr hB.2.2.1 (by decide) lc_Fl_2) hB (fun h1 h2 h3 => bk_runSN2 X (Av := [.ref (b + 2), .ref (a + 2)]) (rest := []) (mX8_copyRow (n := 6) (by decide)) ys_X8_copyRow (List.mem_of_getElem? (i := 9) rfl) ⟨Nat.le_of_ble_eq_true rfl, Nat.le_of_ble_eq_true rfl⟩ rfl rfl hl.1 (Blk.subArr wfFl (by decide) lc_Fl_2 (srcK plFl hB hu hab)) (apA hab lc_Fl_2 lc_Fl_2) h1 h2 h3 (Nat.le_of_ble_eq_true rfl) ⟨Nat.le_of_ble_eq_true rfl, Nat.le_of_ble_eq_true rfl⟩ dX2_copyFrom_27) (fun H locs hB => ?_)
  refine W.eq (g2 := F0 m 30 ls []) rfl ?_
  obtain ⟨v4, ev4⟩ : ∃ y : bM, y = spl v3 (7) 6 (vw u (7)) := ⟨_, rfl⟩
  have hf := nm_use hf ev4
  rw [← ev4] at hB
  refine lv_aload_n hx hb dX2_copyFrom_30 rfl (lv_at hl 1 rfl) ?_
  refine bk_getR0 X (srcK plFl hB hu hab) kl_X2 0 lc_Fl_0 5 (by decide) rfl wm_68 dX2_copyFrom_31 ?_
  refine lv_aload_n hx hb dX2_copyFrom_34 rfl (lv_at hl 0 rfl) ?_
  refine bk_getR X hB kl_X2 0 lc_Fl_0 5 (by decide) rfl wm_68 dX2_copyFrom_35 ?_
  refine bk_sub (bSub_arr hB.2.2.1 (by decide) lc_Fl_17) hB (fun h1 h2 h3 => bk_runSN2 X (Av := [.ref (b + 17), .ref (a + 17)]) (rest := []) (mX8_copyRow (n := 6) (by decide)) ys_X8_copyRow (List.mem_of_getElem? (i := 9) rfl) ⟨Nat.le_of_ble_eq_true rfl, Nat.le_of_ble_eq_true rfl⟩ rfl rfl hl.1 (Blk.subArr wfFl (by decide) lc_Fl_17 (srcK plFl hB hu hab)) (apA hab lc_Fl_17 lc_Fl_17) h1 h2 h3 (Nat.le_of_ble_eq_true rfl) ⟨Nat.le_of_ble_eq_true rfl, Nat.le_of_ble_eq_true rfl⟩ dX2_copyFrom_38) (fun H locs hB => ?_)
  refine W.eq (g2 := F0 m 41 ls []) rfl ?_
  obtain ⟨v5, ev5⟩ : ∃ y : bM, y = spl v4 (157) 6 (vw u (157)) := ⟨_, rfl⟩
  have hf := nm_use hf ev5
  rw [← ev5] at hB
  refine lv_aload_n hx hb dX2_copyFrom_41 rfl (lv_at hl 1 rfl) ?_
  refine bk_getR0 X (srcK plFl hB hu hab) kl_X2 0 lc_Fl_0 6 (by decide) rfl wm_71 dX2_copyFrom_42 ?_
  refine lv_aload_n hx hb dX2_copyFrom_45 rfl (lv_at hl 0 rfl) ?_
  refine bk_getR X hB kl_X2 0 lc_Fl_0 6 (by decide) rfl wm_71 dX2_copyFrom_46 ?_
  refine bk_sub (bSub_arr hB.2.2.1 (by decide) lc_Fl_18) hB (fun h1 h2 h3 => bk_runSN2 X (Av := [.ref (b + 18), .ref (a + 18)]) (rest := []) (mX8_copyRow (n := 6) (by decide)) ys_X8_copyRow (List.mem_of_getElem? (i := 9) rfl) ⟨Nat.le_of_ble_eq_true rfl, Nat.le_of_ble_eq_true rfl⟩ rfl rfl hl.1 (Blk.subArr wfFl (by decide) lc_Fl_18 (srcK plFl hB hu hab)) (apA hab lc_Fl_18 lc_Fl_18) h1 h2 h3 (Nat.le_of_ble_eq_true rfl) ⟨Nat.le_of_ble_eq_true rfl, Nat.le_of_ble_eq_true rfl⟩ dX2_copyFrom_49) (fun H locs hB => ?_)
  refine W.eq (g2 := F0 m 52 ls []) rfl ?_
  obtain ⟨v6, ev6⟩ : ∃ y : bM, y = spl v5 (163) 6 (vw u (163)) := ⟨_, rfl⟩
  have hf := nm_use hf ev6
  rw [← ev6] at hB
  refine lv_iconst (v := 0) hx hb dX2_copyFrom_52 (by decide) ?_
  refine lv_istore_n (lv' := [(2, .int 0), (0, .ref a), (1, .ref b)]) hx hb dX2_copyFrom_53 rfl hl (by decide) rfl (fun ls hl => ?_)
  have hL54 : ∀ (n54 : Nat) (y7 : Int32) (v8 : bM) (H : Heap) (locs : List Loc) (ls : Array Slot), lp (fX2_copyFrom_L54 u) (fun _ _ => none) n54 y7 v8 = some w0 → bB D E LFl a v8 s H locs → lv_has ls 3 [(0, .ref a), (1, .ref b), (2, .int y7)] → W p l e (rmOf 2 0 0) s m args below meth c H locs 0 0 (bQ below D E LFl a w0 none args s 0 0) (F0 m 54 ls []) := by
    intro n54
    induction n54 with
    | zero => intro y7 v8 H locs ls hf; cases (show (none : Option bM) = some w0 from hf)
    | succ n54 ih54 =>
      intro y7 v8 H locs ls hf hB hl
      have hf := (fX2_copyFrom_L54.eq_1 u (lp (fX2_copyFrom_L54 u) (fun _ _ => none) n54) y7 v8).symm.trans (show fX2_copyFrom_L54 u (lp (fX2_copyFrom_L54 u) (fun _ _ => none) n54) y7 v8 = some w0 from hf)
      refine lv_iload_n hx hb dX2_copyFrom_54 rfl (lv_at hl 2 rfl) ?_
      refine lv_bipush (v := 6) hx hb dX2_copyFrom_55 (by decide) ?_
      refine lv_icmp_ge (tgt := 96) hx hb dX2_copyFrom_57 (by decide) (fun c9 => ?_) (fun c9 => ?_)
      · have hf := (if_pos c9).symm.trans hf
        exact bk_vW X hr rfl hf hB (Nat.le_of_ble_eq_true rfl) (Nat.le_of_ble_eq_true rfl) dX2_copyFrom_96
      · have hf := (if_neg c9).symm.trans hf
        refine lv_aload_n hx hb dX2_copyFrom_60 rfl (lv_at hl 1 rfl) ?_
        refine bk_getR0 X (srcK plFl hB hu hab) kl_X2 0 lc_Fl_0 3 (by decide) rfl wm_64 dX2_copyFrom_61 ?_
        refine lv_iload_n hx hb dX2_copyFrom_64 rfl (lv_at hl 2 rfl) ?_
        obtain ⟨h10, hf⟩ := ck_some hf
        refine bk_rld0 X (srcK plFl hB hu hab) 3 lc_Fl_3 h10 dX2_copyFrom_65 ?_
        refine lv_aload_n hx hb dX2_copyFrom_66 rfl (lv_at hl 0 rfl) ?_
        refine bk_getR X hB kl_X2 0 lc_Fl_0 3 (by decide) rfl wm_64 dX2_copyFrom_67 ?_
        refine lv_iload_n hx hb dX2_copyFrom_70 rfl (lv_at hl 2 rfl) ?_
        obtain ⟨h11, hf⟩ := ck_some hf
        refine bk_rld X hB 3 lc_Fl_3 h11 dX2_copyFrom_71 ?_
        refine bk_sub (bSub_arr hB.2.2.1 (by decide) (lr_Fl_3 _ (vp_lt h11))) hB (fun h1 h2 h3 => bk_runSN2 X (Av := [.ref (b + (4 + 1 * y7.toNatClampNeg)), .ref (a + (4 + 1 * y7.toNatClampNeg))]) (rest := []) (mX8_copyRow (n := 12) (by decide)) ys_X8_copyRow (List.mem_of_getElem? (i := 9) rfl) ⟨Nat.le_of_ble_eq_true rfl, Nat.le_of_ble_eq_true rfl⟩ rfl rfl hl.1 (Blk.subArr wfFl (by decide) (lr_Fl_3 _ (vp_lt h10)) (srcK plFl hB hu hab)) (apA hab (lr_Fl_3 _ (vp_lt h11)) (lr_Fl_3 _ (vp_lt h10))) h1 h2 h3 (Nat.le_of_ble_eq_true rfl) ⟨Nat.le_of_ble_eq_true rfl, Nat.le_of_ble_eq_true rfl⟩ dX2_copyFrom_72) (fun H locs hB => ?_)
        refine W.eq (g2 := F0 m 75 ls []) rfl ?_
        obtain ⟨v12, ev12⟩ : ∃ y : bM, y = spl v8 (13 + 12 * y7.toNatClampNeg) 12 (vw u (13 + 12 * y7.toNatClampNeg)) := ⟨_, rfl⟩
        have hf := nm_use hf ev12
        rw [← ev12] at hB
        refine lv_aload_n hx hb dX2_copyFrom_75 rfl (lv_at hl 1 rfl) ?_
        refine bk_getR0 X (srcK plFl hB hu hab) kl_X2 0 lc_Fl_0 4 (by decide) rfl wm_66 dX2_copyFrom_76 ?_
        refine lv_iload_n hx hb dX2_copyFrom_79 rfl (lv_at hl 2 rfl) ?_
        obtain ⟨h13, hf⟩ := ck_some hf
        refine bk_rld0 X (srcK plFl hB hu hab) 10 lc_Fl_10 h13 dX2_copyFrom_80 ?_
        refine lv_aload_n hx hb dX2_copyFrom_81 rfl (lv_at hl 0 rfl) ?_
        refine bk_getR X hB kl_X2 0 lc_Fl_0 4 (by decide) rfl wm_66 dX2_copyFrom_82 ?_
        refine lv_iload_n hx hb dX2_copyFrom_85 rfl (lv_at hl 2 rfl) ?_
        obtain ⟨h14, hf⟩ := ck_some hf
        refine bk_rld X hB 10 lc_Fl_10 h14 dX2_copyFrom_86 ?_
        refine bk_sub (bSub_arr hB.2.2.1 (by decide) (lr_Fl_10 _ (vp_lt h14))) hB (fun h1 h2 h3 => bk_runSN2 X (Av := [.ref (b + (11 + 1 * y7.toNatClampNeg)), .ref (a + (11 + 1 * y7.toNatClampNeg))]) (rest := []) (mX8_copyRow (n := 12) (by decide)) ys_X8_copyRow (List.mem_of_getElem? (i := 9) rfl) ⟨Nat.le_of_ble_eq_true rfl, Nat.le_of_ble_eq_true rfl⟩ rfl rfl hl.1 (Blk.subArr wfFl (by decide) (lr_Fl_10 _ (vp_lt h13)) (srcK plFl hB hu hab)) (apA hab (lr_Fl_10 _ (vp_lt h14)) (lr_Fl_10 _ (vp_lt h13))) h1 h2 h3 (Nat.le_of_ble_eq_true rfl) ⟨Nat.le_of_ble_eq_true rfl, Nat.le_of_ble_eq_true rfl⟩ dX2_copyFrom_87) (fun H locs hB => ?_)
        refine W.eq (g2 := F0 m 90 ls []) rfl ?_
        obtain ⟨v15, ev15⟩ : ∃ y : bM, y = spl v12 (85 + 12 * y7.toNatClampNeg) 12 (vw u (85 + 12 * y7.toNatClampNeg)) := ⟨_, rfl⟩
        have hf := nm_use hf ev15
        rw [← ev15] at hB
        obtain ⟨x16, ex16⟩ : ∃ y : Int32, y = y7 + 1 := ⟨_, rfl⟩
        have hf := nm_use hf ex16
        refine lv_iinc (v := x16) (lv' := [(2, .int x16), (0, .ref a), (1, .ref b)]) hx hb dX2_copyFrom_90 hl (k := 2) rfl (by rw [ex16]; rfl) (by decide) rfl (fun ls hl => ?_)
        refine lv_goto (tgt := 54) hx hb dX2_copyFrom_93 (by decide) ?_
        exact ih54 x16 v15 H locs ls hf hB (lv_sub hl [1, 2, 0] rfl)
  exact hL54 lpN 0 v6 H locs ls hf hB (lv_sub hl [1, 2, 0] rfl)
theorem yv_X2_copyFrom : bYv yX2_copyFrom RX2 cX2_copyFrom 3 none 1 := ⟨⟨rfl, by decide, by decide, rfl⟩, wm_708, wm_709, wm_3, wm_710⟩

theorem dX2_create_0 : decode cX2_create 0 = .ok (.aload_n 0, 1) := by decide +kernel
theorem dX2_create_1 : decode cX2_create 1 = .ok (.getfield 32, 3) := by decide +kernel
theorem dX2_create_4 : decode cX2_create 4 = .ok (.bipush 6, 2) := by decide +kernel
theorem dX2_create_6 : decode cX2_create 6 = .ok (.if_icmp .lt 5, 3) := by decide +kernel
theorem dX2_create_9 : decode cX2_create 9 = .ok (.iconst (-1), 1) := by decide +kernel
theorem dX2_create_10 : decode cX2_create 10 = .ok (.ireturn, 1) := by decide +kernel
theorem dX2_create_11 : decode cX2_create 11 = .ok (.aload_n 0, 1) := by decide +kernel
theorem dX2_create_12 : decode cX2_create 12 = .ok (.getfield 32, 3) := by decide +kernel
theorem dX2_create_15 : decode cX2_create 15 = .ok (.istore_n 2, 1) := by decide +kernel
theorem dX2_create_16 : decode cX2_create 16 = .ok (.aload_n 0, 1) := by decide +kernel
theorem dX2_create_17 : decode cX2_create 17 = .ok (.getfield 9, 3) := by decide +kernel
theorem dX2_create_20 : decode cX2_create 20 = .ok (.iload_n 2, 1) := by decide +kernel
theorem dX2_create_21 : decode cX2_create 21 = .ok (.iload_n 1, 1) := by decide +kernel
theorem dX2_create_22 : decode cX2_create 22 = .ok (.iastore, 1) := by decide +kernel
theorem dX2_create_23 : decode cX2_create 23 = .ok (.aload_n 0, 1) := by decide +kernel
theorem dX2_create_24 : decode cX2_create 24 = .ok (.getfield 15, 3) := by decide +kernel
theorem dX2_create_27 : decode cX2_create 27 = .ok (.iload_n 2, 1) := by decide +kernel
theorem dX2_create_28 : decode cX2_create 28 = .ok (.iconst 0, 1) := by decide +kernel
theorem dX2_create_29 : decode cX2_create 29 = .ok (.iastore, 1) := by decide +kernel
theorem dX2_create_30 : decode cX2_create 30 = .ok (.aload_n 0, 1) := by decide +kernel
theorem dX2_create_31 : decode cX2_create 31 = .ok (.getfield 26, 3) := by decide +kernel
theorem dX2_create_34 : decode cX2_create 34 = .ok (.iload_n 2, 1) := by decide +kernel
theorem dX2_create_35 : decode cX2_create 35 = .ok (.iconst 0, 1) := by decide +kernel
theorem dX2_create_36 : decode cX2_create 36 = .ok (.iastore, 1) := by decide +kernel
theorem dX2_create_37 : decode cX2_create 37 = .ok (.aload_n 0, 1) := by decide +kernel
theorem dX2_create_38 : decode cX2_create 38 = .ok (.getfield 29, 3) := by decide +kernel
theorem dX2_create_41 : decode cX2_create 41 = .ok (.iload_n 2, 1) := by decide +kernel
theorem dX2_create_42 : decode cX2_create 42 = .ok (.iconst 0, 1) := by decide +kernel
theorem dX2_create_43 : decode cX2_create 43 = .ok (.iastore, 1) := by decide +kernel
theorem dX2_create_44 : decode cX2_create 44 = .ok (.aload_n 0, 1) := by decide +kernel
theorem dX2_create_45 : decode cX2_create 45 = .ok (.dup, 1) := by decide +kernel
theorem dX2_create_46 : decode cX2_create 46 = .ok (.getfield 32, 3) := by decide +kernel
theorem dX2_create_49 : decode cX2_create 49 = .ok (.iconst 1, 1) := by decide +kernel
theorem dX2_create_50 : decode cX2_create 50 = .ok (.iadd, 1) := by decide +kernel
theorem dX2_create_51 : decode cX2_create 51 = .ok (.putfield 32, 3) := by decide +kernel
theorem dX2_create_54 : decode cX2_create 54 = .ok (.iload_n 2, 1) := by decide +kernel
theorem dX2_create_55 : decode cX2_create 55 = .ok (.ireturn, 1) := by decide +kernel
def fX2_create (p1 : Int32) (v : bM) : Option (Int32 × bM) :=
  (if (v 0) < 6 then (nm (v 0) fun x2 => ck x2 6 <| nm (upd v (1 + x2.toNatClampNeg) p1) fun v4 => ck x2 6 <| nm (upd v4 (7 + x2.toNatClampNeg) 0) fun v6 => ck x2 6 <| nm (upd v6 (157 + x2.toNatClampNeg) 0) fun v8 => ck x2 6 <| nm (upd v8 (163 + x2.toNatClampNeg) 0) fun v10 => nm ((v10 0) + 1) fun x11 => nm (upd v10 0 x11) fun v12 => some (x2, v12)) else (some ((-1), v)))
set_option maxRecDepth 100000 in
set_option maxHeartbeats 4000000 in
theorem mX2_create {l : Launch} {p1 : Int32} {v : bM} {r0 : Int32} {w0 : bM} (hf : fX2_create p1 v = some (r0, w0)) : bMet l yX2_create cX2_create 3 (some .int) 0 0 0 LFl (fun E a => [.ref a, .int p1]) v w0 (fun _ => some (.int r0)) := by
  refine bk_start (by decide +kernel) wfFl (fun _ _ => Nat.le_of_ble_eq_true rfl) ?_
  intro p e s m args below meth c D E a ls H locs X hr hl hB
  have hx := X.1
  have hb := X.2.1
  have hown := X.2.2.2.1
  have hts := X.2.2.2.2.1
  have hl : lv_has ls 3 [(0, .ref a), (1, .int p1)] := hl
  have hf := (fX2_create.eq_1 p1 v).symm.trans hf
  refine lv_aload_n hx hb dX2_create_0 rfl (lv_at hl 0 rfl) ?_
  refine bk_getI X hB kl_X2 0 lc_Fl_0 0 (by decide) rfl wm_54 dX2_create_1 ?_
  refine lv_bipush (v := 6) hx hb dX2_create_4 (by decide) ?_
  refine lv_icmp_lt (tgt := 11) hx hb dX2_create_6 (by decide) (fun c1 => ?_) (fun c1 => ?_)
  · have hf := (if_pos c1).symm.trans hf
    refine lv_aload_n hx hb dX2_create_11 rfl (lv_at hl 0 rfl) ?_
    refine bk_getI X hB kl_X2 0 lc_Fl_0 0 (by decide) rfl wm_54 dX2_create_12 ?_
    refine lv_topi (fun x2 ex2 => ?_)
    have hf := nm_use hf ex2
    refine lv_istore_n (lv' := [(2, .int x2), (0, .ref a), (1, .int p1)]) hx hb dX2_create_15 rfl hl (by decide) rfl (fun ls hl => ?_)
    refine lv_aload_n hx hb dX2_create_16 rfl (lv_at hl 1 rfl) ?_
    refine bk_getR X hB kl_X2 0 lc_Fl_0 1 (by decide) rfl wm_58 dX2_create_17 ?_
    refine lv_iload_n hx hb dX2_create_20 rfl (lv_at hl 0 rfl) ?_
    refine lv_iload_n hx hb dX2_create_21 rfl (lv_at hl 2 rfl) ?_
    obtain ⟨h3, hf⟩ := ck_some hf
    refine bk_ast X hB 1 lc_Fl_1 h3 dX2_create_22 (fun H locs hB => ?_)
    obtain ⟨v4, ev4⟩ : ∃ y : bM, y = upd v (1 + x2.toNatClampNeg) p1 := ⟨_, rfl⟩
    have hf := nm_use hf ev4
    rw [← ev4] at hB
    refine lv_aload_n hx hb dX2_create_23 rfl (lv_at hl 1 rfl) ?_
    refine bk_getR X hB kl_X2 0 lc_Fl_0 2 (by decide) rfl wm_61 dX2_create_24 ?_
    refine lv_iload_n hx hb dX2_create_27 rfl (lv_at hl 0 rfl) ?_
    refine lv_iconst (v := 0) hx hb dX2_create_28 (by decide) ?_
    obtain ⟨h5, hf⟩ := ck_some hf
    refine bk_ast X hB 2 lc_Fl_2 h5 dX2_create_29 (fun H locs hB => ?_)
    obtain ⟨v6, ev6⟩ : ∃ y : bM, y = upd v4 (7 + x2.toNatClampNeg) 0 := ⟨_, rfl⟩
    have hf := nm_use hf ev6
    rw [← ev6] at hB
    refine lv_aload_n hx hb dX2_create_30 rfl (lv_at hl 1 rfl) ?_
    refine bk_getR X hB kl_X2 0 lc_Fl_0 5 (by decide) rfl wm_68 dX2_create_31 ?_
    refine lv_iload_n hx hb dX2_create_34 rfl (lv_at hl 0 rfl) ?_
    refine lv_iconst (v := 0) hx hb dX2_create_35 (by decide) ?_
    obtain ⟨h7, hf⟩ := ck_some hf
    refine bk_ast X hB 17 lc_Fl_17 h7 dX2_create_36 (fun H locs hB => ?_)
    obtain ⟨v8, ev8⟩ : ∃ y : bM, y = upd v6 (157 + x2.toNatClampNeg) 0 := ⟨_, rfl⟩
    have hf := nm_use hf ev8
    rw [← ev8] at hB
    refine lv_aload_n hx hb dX2_create_37 rfl (lv_at hl 1 rfl) ?_
    refine bk_getR X hB kl_X2 0 lc_Fl_0 6 (by decide) rfl wm_71 dX2_create_38 ?_
    refine lv_iload_n hx hb dX2_create_41 rfl (lv_at hl 0 rfl) ?_
    refine lv_iconst (v := 0) hx hb dX2_create_42 (by decide) ?_
    obtain ⟨h9, hf⟩ := ck_some hf
    refine bk_ast X hB 18 lc_Fl_18 h9 dX2_create_43 (fun H locs hB => ?_)
    obtain ⟨v10, ev10⟩ : ∃ y : bM, y = upd v8 (163 + x2.toNatClampNeg) 0 := ⟨_, rfl⟩
    have hf := nm_use hf ev10
    rw [← ev10] at hB
    refine lv_aload_n hx hb dX2_create_44 rfl (lv_at hl 1 rfl) ?_
    refine lv_dup hx hb dX2_create_45 rfl ?_
    refine bk_getI X hB kl_X2 0 lc_Fl_0 0 (by decide) rfl wm_54 dX2_create_46 ?_
    refine lv_iconst (v := 1) hx hb dX2_create_49 (by decide) ?_
    refine lv_iadd hx hb dX2_create_50 ?_
    refine lv_topi (fun x11 ex11 => ?_)
    have hf := nm_use hf ex11
    refine bk_putI X hB kl_X2 0 lc_Fl_0 0 (by decide) rfl rfl rfl wm_54 dX2_create_51 rfl (fun H locs hB => ?_)
    obtain ⟨v12, ev12⟩ : ∃ y : bM, y = upd v10 0 x11 := ⟨_, rfl⟩
    have hf := nm_use hf ev12
    rw [← ev12] at hB
    refine lv_iload_n hx hb dX2_create_54 rfl (lv_at hl 0 rfl) ?_
    exact bk_iW X hr rfl hf hB (Nat.le_of_ble_eq_true rfl) (Nat.le_of_ble_eq_true rfl) dX2_create_55
  · have hf := (if_neg c1).symm.trans hf
    refine lv_iconst (v := (-1)) hx hb dX2_create_9 (by decide) ?_
    exact bk_iW X hr rfl hf hB (Nat.le_of_ble_eq_true rfl) (Nat.le_of_ble_eq_true rfl) dX2_create_10
theorem yv_X2_create : bYv yX2_create RX2 cX2_create 3 (some .int) 1 := ⟨⟨rfl, by decide, by decide, rfl⟩, wm_564, wm_565, wm_3, wm_566⟩

theorem dX2_highestRecipe_0 : decode cX2_highestRecipe 0 = .ok (.iconst 1, 1) := by decide +kernel
theorem dX2_highestRecipe_1 : decode cX2_highestRecipe 1 = .ok (.istore_n 1, 1) := by decide +kernel
theorem dX2_highestRecipe_2 : decode cX2_highestRecipe 2 = .ok (.iconst 0, 1) := by decide +kernel
theorem dX2_highestRecipe_3 : decode cX2_highestRecipe 3 = .ok (.istore_n 2, 1) := by decide +kernel
theorem dX2_highestRecipe_4 : decode cX2_highestRecipe 4 = .ok (.iload_n 2, 1) := by decide +kernel
theorem dX2_highestRecipe_5 : decode cX2_highestRecipe 5 = .ok (.aload_n 0, 1) := by decide +kernel
theorem dX2_highestRecipe_6 : decode cX2_highestRecipe 6 = .ok (.getfield 32, 3) := by decide +kernel
theorem dX2_highestRecipe_9 : decode cX2_highestRecipe 9 = .ok (.if_icmp .ge 14, 3) := by decide +kernel
theorem dX2_highestRecipe_12 : decode cX2_highestRecipe 12 = .ok (.iload_n 1, 1) := by decide +kernel
theorem dX2_highestRecipe_13 : decode cX2_highestRecipe 13 = .ok (.bipush 10, 2) := by decide +kernel
theorem dX2_highestRecipe_15 : decode cX2_highestRecipe 15 = .ok (.imul, 1) := by decide +kernel
theorem dX2_highestRecipe_16 : decode cX2_highestRecipe 16 = .ok (.istore_n 1, 1) := by decide +kernel
theorem dX2_highestRecipe_17 : decode cX2_highestRecipe 17 = .ok (.iinc 2 1, 3) := by decide +kernel
theorem dX2_highestRecipe_20 : decode cX2_highestRecipe 20 = .ok (.goto (-16), 3) := by decide +kernel
theorem dX2_highestRecipe_23 : decode cX2_highestRecipe 23 = .ok (.iload_n 1, 1) := by decide +kernel
theorem dX2_highestRecipe_24 : decode cX2_highestRecipe 24 = .ok (.iconst 1, 1) := by decide +kernel
theorem dX2_highestRecipe_25 : decode cX2_highestRecipe 25 = .ok (.isub, 1) := by decide +kernel
theorem dX2_highestRecipe_26 : decode cX2_highestRecipe 26 = .ok (.ireturn, 1) := by decide +kernel
def fX2_highestRecipe_L4 (v : bM) (k4 : Int32 → Int32 → Option Int32) (y1 : Int32) (y2 : Int32) : Option Int32 :=
  (if (v 0) ≤ y2 then (some (y1 - 1)) else (nm (y1 * 10) fun x4 => nm (y2 + 1) fun x5 => k4 x4 x5))
def fX2_highestRecipe  (v : bM) : Option Int32 :=
  lp (fX2_highestRecipe_L4 v) (fun _ _ => none) lpN 1 0
set_option maxRecDepth 100000 in
set_option maxHeartbeats 4000000 in
theorem mX2_highestRecipe {l : Launch}  {v : bM} {r0 : Int32} (hf : fX2_highestRecipe  v = some r0) : bMet l yX2_highestRecipe cX2_highestRecipe 3 (some .int) 0 0 0 LFl (fun E a => [.ref a]) v v (fun _ => some (.int r0)) := by
  refine bk_start (by decide +kernel) wfFl (fun _ _ => Nat.le_of_ble_eq_true rfl) ?_
  intro p e s m args below meth c D E a ls H locs X hr hl hB
  have hx := X.1
  have hb := X.2.1
  have hown := X.2.2.2.1
  have hts := X.2.2.2.2.1
  have hl : lv_has ls 3 [(0, .ref a)] := hl
  have hf := (fX2_highestRecipe.eq_1  v).symm.trans hf
  refine lv_iconst (v := 1) hx hb dX2_highestRecipe_0 (by decide) ?_
  refine lv_istore_n (lv' := [(1, .int 1), (0, .ref a)]) hx hb dX2_highestRecipe_1 rfl hl (by decide) rfl (fun ls hl => ?_)
  refine lv_iconst (v := 0) hx hb dX2_highestRecipe_2 (by decide) ?_
  refine lv_istore_n (lv' := [(2, .int 0), (1, .int 1), (0, .ref a)]) hx hb dX2_highestRecipe_3 rfl hl (by decide) rfl (fun ls hl => ?_)
  have hL4 : ∀ (n4 : Nat) (y1 y2 : Int32) (H : Heap) (locs : List Loc) (ls : Array Slot), lp (fX2_highestRecipe_L4 v) (fun _ _ => none) n4 y1 y2 = some r0 → bB D E LFl a v s H locs → lv_has ls 3 [(0, .ref a), (1, .int y1), (2, .int y2)] → W p l e (rmOf 0 0 0) s m args below meth c H locs 0 0 (bQ below D E LFl a v (some (.int r0)) args s 0 0) (F0 m 4 ls []) := by
    intro n4
    induction n4 with
    | zero => intro y1 y2 H locs ls hf; cases (show (none : Option Int32) = some r0 from hf)
    | succ n4 ih4 =>
      intro y1 y2 H locs ls hf hB hl
      have hf := (fX2_highestRecipe_L4.eq_1 v (lp (fX2_highestRecipe_L4 v) (fun _ _ => none) n4) y1 y2).symm.trans (show fX2_highestRecipe_L4 v (lp (fX2_highestRecipe_L4 v) (fun _ _ => none) n4) y1 y2 = some r0 from hf)
      refine lv_iload_n hx hb dX2_highestRecipe_4 rfl (lv_at hl 2 rfl) ?_
      refine lv_aload_n hx hb dX2_highestRecipe_5 rfl (lv_at hl 0 rfl) ?_
      refine bk_getI X hB kl_X2 0 lc_Fl_0 0 (by decide) rfl wm_54 dX2_highestRecipe_6 ?_
      refine lv_icmp_ge (tgt := 23) hx hb dX2_highestRecipe_9 (by decide) (fun c3 => ?_) (fun c3 => ?_)
      · have hf := (if_pos c3).symm.trans hf
        refine lv_iload_n hx hb dX2_highestRecipe_23 rfl (lv_at hl 1 rfl) ?_
        refine lv_iconst (v := 1) hx hb dX2_highestRecipe_24 (by decide) ?_
        refine lv_isub hx hb dX2_highestRecipe_25 ?_
        exact bk_iR X hr rfl hf hB (Nat.le_of_ble_eq_true rfl) (Nat.le_of_ble_eq_true rfl) dX2_highestRecipe_26
      · have hf := (if_neg c3).symm.trans hf
        refine lv_iload_n hx hb dX2_highestRecipe_12 rfl (lv_at hl 1 rfl) ?_
        refine lv_bipush (v := 10) hx hb dX2_highestRecipe_13 (by decide) ?_
        refine lv_imul hx hb dX2_highestRecipe_15 ?_
        refine lv_topi (fun x4 ex4 => ?_)
        have hf := nm_use hf ex4
        refine lv_istore_n (lv' := [(1, .int x4), (0, .ref a), (2, .int y2)]) hx hb dX2_highestRecipe_16 rfl hl (by decide) rfl (fun ls hl => ?_)
        obtain ⟨x5, ex5⟩ : ∃ y : Int32, y = y2 + 1 := ⟨_, rfl⟩
        have hf := nm_use hf ex5
        refine lv_iinc (v := x5) (lv' := [(2, .int x5), (1, .int x4), (0, .ref a)]) hx hb dX2_highestRecipe_17 hl (k := 2) rfl (by rw [ex5]; rfl) (by decide) rfl (fun ls hl => ?_)
        refine lv_goto (tgt := 4) hx hb dX2_highestRecipe_20 (by decide) ?_
        exact ih4 x4 x5 H locs ls hf hB (lv_sub hl [2, 1, 0] rfl)
  exact hL4 lpN 1 0 H locs ls hf hB (lv_sub hl [2, 1, 0] rfl)
theorem yv_X2_highestRecipe : bYv yX2_highestRecipe RX2 cX2_highestRecipe 3 (some .int) 0 := ⟨⟨rfl, by decide, by decide, rfl⟩, wm_542, wm_543, wm_3, wm_544⟩

theorem dX2_stock_0 : decode cX2_stock 0 = .ok (.aload_n 0, 1) := by decide +kernel
theorem dX2_stock_1 : decode cX2_stock 1 = .ok (.getfield 20, 3) := by decide +kernel
theorem dX2_stock_4 : decode cX2_stock 4 = .ok (.iload_n 1, 1) := by decide +kernel
theorem dX2_stock_5 : decode cX2_stock 5 = .ok (.aaload, 1) := by decide +kernel
theorem dX2_stock_6 : decode cX2_stock 6 = .ok (.aload_n 0, 1) := by decide +kernel
theorem dX2_stock_7 : decode cX2_stock 7 = .ok (.getfield 15, 3) := by decide +kernel
theorem dX2_stock_10 : decode cX2_stock 10 = .ok (.iload_n 1, 1) := by decide +kernel
theorem dX2_stock_11 : decode cX2_stock 11 = .ok (.iaload, 1) := by decide +kernel
theorem dX2_stock_12 : decode cX2_stock 12 = .ok (.invokestatic 40, 3) := by decide +kernel
theorem dX2_stock_15 : decode cX2_stock 15 = .ok (.ireturn, 1) := by decide +kernel
def fX2_stock (p1 : Int32) (v : bM) : Option Int32 :=
  ck p1 6 <| ck p1 6 <| bnr (fX8_sumOf 12 (v (7 + p1.toNatClampNeg)) (vw v (13 + 12 * p1.toNatClampNeg))) fun r4 => some (r4)
set_option maxRecDepth 100000 in
set_option maxHeartbeats 4000000 in
theorem mX2_stock {l : Launch} {p1 : Int32} {v : bM} {r0 : Int32} (hf : fX2_stock p1 v = some r0) : bMet l yX2_stock cX2_stock 2 (some .int) 1 0 0 LFl (fun E a => [.ref a, .int p1]) v v (fun _ => some (.int r0)) := by
  refine bk_start (by decide +kernel) wfFl (fun _ _ => Nat.le_of_ble_eq_true rfl) ?_
  intro p e s m args below meth c D E a ls H locs X hr hl hB
  have hx := X.1
  have hb := X.2.1
  have hown := X.2.2.2.1
  have hts := X.2.2.2.2.1
  have hl : lv_has ls 2 [(0, .ref a), (1, .int p1)] := hl
  have hf := (fX2_stock.eq_1 p1 v).symm.trans hf
  refine lv_aload_n hx hb dX2_stock_0 rfl (lv_at hl 0 rfl) ?_
  refine bk_getR X hB kl_X2 0 lc_Fl_0 3 (by decide) rfl wm_64 dX2_stock_1 ?_
  refine lv_iload_n hx hb dX2_stock_4 rfl (lv_at hl 1 rfl) ?_
  obtain ⟨h1, hf⟩ := ck_some hf
  refine bk_rld X hB 3 lc_Fl_3 h1 dX2_stock_5 ?_
  refine lv_aload_n hx hb dX2_stock_6 rfl (lv_at hl 0 rfl) ?_
  refine bk_getR X hB kl_X2 0 lc_Fl_0 2 (by decide) rfl wm_61 dX2_stock_7 ?_
  refine lv_iload_n hx hb dX2_stock_10 rfl (lv_at hl 1 rfl) ?_
  obtain ⟨h2, hf⟩ := ck_some hf
  refine bk_ald X hB 2 lc_Fl_2 h2 dX2_stock_11 ?_
  obtain ⟨r4, hc3, hf⟩ := bnr_some hf
  refine bk_subR (bSub_arr hB.2.2.1 (by decide) (lr_Fl_3 _ (vp_lt h1))) hB (fun h1 h2 h3 => bk_runSN X (Av := [.ref (a + (4 + 1 * p1.toNatClampNeg)), .int (v (7 + p1.toNatClampNeg))]) (rest := []) (mX8_sumOf hc3) ys_X8_sumOf (List.mem_of_getElem? (i := 8) rfl) ⟨Nat.le_of_ble_eq_true rfl, Nat.le_of_ble_eq_true rfl⟩ rfl rfl hl.1 h1 h2 h3 (Nat.le_of_ble_eq_true rfl) ⟨Nat.le_of_ble_eq_true rfl, Nat.le_of_ble_eq_true rfl⟩ dX2_stock_12) (fun H locs hB => ?_)
  refine W.eq (g2 := F0 m 15 ls [.int r4]) rfl ?_
  exact bk_iR X hr rfl hf hB (Nat.le_of_ble_eq_true rfl) (Nat.le_of_ble_eq_true rfl) dX2_stock_15
theorem yv_X2_stock : bYv yX2_stock RX2 cX2_stock 2 (some .int) 1 := ⟨⟨rfl, by decide, by decide, rfl⟩, wm_600, wm_601, wm_3, wm_602⟩

theorem dX2_value_0 : decode cX2_value 0 = .ok (.iconst 0, 1) := by decide +kernel
theorem dX2_value_1 : decode cX2_value 1 = .ok (.istore_n 1, 1) := by decide +kernel
theorem dX2_value_2 : decode cX2_value 2 = .ok (.iconst 0, 1) := by decide +kernel
theorem dX2_value_3 : decode cX2_value 3 = .ok (.istore_n 2, 1) := by decide +kernel
theorem dX2_value_4 : decode cX2_value 4 = .ok (.iload_n 2, 1) := by decide +kernel
theorem dX2_value_5 : decode cX2_value 5 = .ok (.aload_n 0, 1) := by decide +kernel
theorem dX2_value_6 : decode cX2_value 6 = .ok (.getfield 32, 3) := by decide +kernel
theorem dX2_value_9 : decode cX2_value 9 = .ok (.if_icmp .ge 47, 3) := by decide +kernel
theorem dX2_value_12 : decode cX2_value 12 = .ok (.iconst 0, 1) := by decide +kernel
theorem dX2_value_13 : decode cX2_value 13 = .ok (.istore_n 3, 1) := by decide +kernel
theorem dX2_value_14 : decode cX2_value 14 = .ok (.iload_n 3, 1) := by decide +kernel
theorem dX2_value_15 : decode cX2_value 15 = .ok (.aload_n 0, 1) := by decide +kernel
theorem dX2_value_16 : decode cX2_value 16 = .ok (.getfield 15, 3) := by decide +kernel
theorem dX2_value_19 : decode cX2_value 19 = .ok (.iload_n 2, 1) := by decide +kernel
theorem dX2_value_20 : decode cX2_value 20 = .ok (.iaload, 1) := by decide +kernel
theorem dX2_value_21 : decode cX2_value 21 = .ok (.if_icmp .ge 29, 3) := by decide +kernel
theorem dX2_value_24 : decode cX2_value 24 = .ok (.iload_n 1, 1) := by decide +kernel
theorem dX2_value_25 : decode cX2_value 25 = .ok (.aload_n 0, 1) := by decide +kernel
theorem dX2_value_26 : decode cX2_value 26 = .ok (.getfield 20, 3) := by decide +kernel
theorem dX2_value_29 : decode cX2_value 29 = .ok (.iload_n 2, 1) := by decide +kernel
theorem dX2_value_30 : decode cX2_value 30 = .ok (.aaload, 1) := by decide +kernel
theorem dX2_value_31 : decode cX2_value 31 = .ok (.iload_n 3, 1) := by decide +kernel
theorem dX2_value_32 : decode cX2_value 32 = .ok (.iaload, 1) := by decide +kernel
theorem dX2_value_33 : decode cX2_value 33 = .ok (.aload_n 0, 1) := by decide +kernel
theorem dX2_value_34 : decode cX2_value 34 = .ok (.getfield 23, 3) := by decide +kernel
theorem dX2_value_37 : decode cX2_value 37 = .ok (.iload_n 2, 1) := by decide +kernel
theorem dX2_value_38 : decode cX2_value 38 = .ok (.aaload, 1) := by decide +kernel
theorem dX2_value_39 : decode cX2_value 39 = .ok (.iload_n 3, 1) := by decide +kernel
theorem dX2_value_40 : decode cX2_value 40 = .ok (.iaload, 1) := by decide +kernel
theorem dX2_value_41 : decode cX2_value 41 = .ok (.imul, 1) := by decide +kernel
theorem dX2_value_42 : decode cX2_value 42 = .ok (.iadd, 1) := by decide +kernel
theorem dX2_value_43 : decode cX2_value 43 = .ok (.istore_n 1, 1) := by decide +kernel
theorem dX2_value_44 : decode cX2_value 44 = .ok (.iinc 3 1, 3) := by decide +kernel
theorem dX2_value_47 : decode cX2_value 47 = .ok (.goto (-33), 3) := by decide +kernel
theorem dX2_value_50 : decode cX2_value 50 = .ok (.iinc 2 1, 3) := by decide +kernel
theorem dX2_value_53 : decode cX2_value 53 = .ok (.goto (-49), 3) := by decide +kernel
theorem dX2_value_56 : decode cX2_value 56 = .ok (.iload_n 1, 1) := by decide +kernel
theorem dX2_value_57 : decode cX2_value 57 = .ok (.ireturn, 1) := by decide +kernel
def fX2_value_L14 (v : bM) (y2 : Int32) (k4 : Int32 → Int32 → Option Int32) (k14 : Int32 → Int32 → Option Int32) (y4 : Int32) (y5 : Int32) : Option Int32 :=
  ck y2 6 <| (if (v (7 + y2.toNatClampNeg)) ≤ y5 then (nm (y2 + 1) fun x8 => k4 y4 x8) else (ck y2 6 <| ck y5 12 <| ck y2 6 <| ck y5 12 <| nm (y4 + ((v (13 + 12 * y2.toNatClampNeg + y5.toNatClampNeg)) * (v (85 + 12 * y2.toNatClampNeg + y5.toNatClampNeg)))) fun x13 => nm (y5 + 1) fun x14 => k14 x13 x14))
def fX2_value_L4 (v : bM) (k4 : Int32 → Int32 → Option Int32) (y1 : Int32) (y2 : Int32) : Option Int32 :=
  (if (v 0) ≤ y2 then (some (y1)) else (lp (fX2_value_L14 v y2 k4) (fun _ _ => none) lpN y1 0))
def fX2_value  (v : bM) : Option Int32 :=
  lp (fX2_value_L4 v) (fun _ _ => none) lpN 0 0
set_option maxRecDepth 100000 in
set_option maxHeartbeats 4000000 in
theorem mX2_value {l : Launch}  {v : bM} {r0 : Int32} (hf : fX2_value  v = some r0) : bMet l yX2_value cX2_value 4 (some .int) 0 0 0 LFl (fun E a => [.ref a]) v v (fun _ => some (.int r0)) := by
  refine bk_start (by decide +kernel) wfFl (fun _ _ => Nat.le_of_ble_eq_true rfl) ?_
  intro p e s m args below meth c D E a ls H locs X hr hl hB
  have hx := X.1
  have hb := X.2.1
  have hown := X.2.2.2.1
  have hts := X.2.2.2.2.1
  have hl : lv_has ls 4 [(0, .ref a)] := hl
  have hf := (fX2_value.eq_1  v).symm.trans hf
  refine lv_iconst (v := 0) hx hb dX2_value_0 (by decide) ?_
  refine lv_istore_n (lv' := [(1, .int 0), (0, .ref a)]) hx hb dX2_value_1 rfl hl (by decide) rfl (fun ls hl => ?_)
  refine lv_iconst (v := 0) hx hb dX2_value_2 (by decide) ?_
  refine lv_istore_n (lv' := [(2, .int 0), (1, .int 0), (0, .ref a)]) hx hb dX2_value_3 rfl hl (by decide) rfl (fun ls hl => ?_)
  have hL4 : ∀ (n4 : Nat) (y1 y2 : Int32) (H : Heap) (locs : List Loc) (ls : Array Slot), lp (fX2_value_L4 v) (fun _ _ => none) n4 y1 y2 = some r0 → bB D E LFl a v s H locs → lv_has ls 4 [(0, .ref a), (1, .int y1), (2, .int y2)] → W p l e (rmOf 0 0 0) s m args below meth c H locs 0 0 (bQ below D E LFl a v (some (.int r0)) args s 0 0) (F0 m 4 ls []) := by
    intro n4
    induction n4 with
    | zero => intro y1 y2 H locs ls hf; cases (show (none : Option Int32) = some r0 from hf)
    | succ n4 ih4 =>
      intro y1 y2 H locs ls hf hB hl
      have hf := (fX2_value_L4.eq_1 v (lp (fX2_value_L4 v) (fun _ _ => none) n4) y1 y2).symm.trans (show fX2_value_L4 v (lp (fX2_value_L4 v) (fun _ _ => none) n4) y1 y2 = some r0 from hf)
      refine lv_iload_n hx hb dX2_value_4 rfl (lv_at hl 2 rfl) ?_
      refine lv_aload_n hx hb dX2_value_5 rfl (lv_at hl 0 rfl) ?_
      refine bk_getI X hB kl_X2 0 lc_Fl_0 0 (by decide) rfl wm_54 dX2_value_6 ?_
      refine lv_icmp_ge (tgt := 56) hx hb dX2_value_9 (by decide) (fun c3 => ?_) (fun c3 => ?_)
      · have hf := (if_pos c3).symm.trans hf
        refine lv_iload_n hx hb dX2_value_56 rfl (lv_at hl 1 rfl) ?_
        exact bk_iR X hr rfl hf hB (Nat.le_of_ble_eq_true rfl) (Nat.le_of_ble_eq_true rfl) dX2_value_57
      · have hf := (if_neg c3).symm.trans hf
        refine lv_iconst (v := 0) hx hb dX2_value_12 (by decide) ?_
        refine lv_istore_n (lv' := [(3, .int 0), (0, .ref a), (1, .int y1), (2, .int y2)]) hx hb dX2_value_13 rfl hl (by decide) rfl (fun ls hl => ?_)
        have hL14 : ∀ (n14 : Nat) (y4 y5 : Int32) (H : Heap) (locs : List Loc) (ls : Array Slot), lp (fX2_value_L14 v y2 (lp (fX2_value_L4 v) (fun _ _ => none) n4)) (fun _ _ => none) n14 y4 y5 = some r0 → bB D E LFl a v s H locs → lv_has ls 4 [(0, .ref a), (1, .int y4), (2, .int y2), (3, .int y5)] → W p l e (rmOf 0 0 0) s m args below meth c H locs 0 0 (bQ below D E LFl a v (some (.int r0)) args s 0 0) (F0 m 14 ls []) := by
          intro n14
          induction n14 with
          | zero => intro y4 y5 H locs ls hf; cases (show (none : Option Int32) = some r0 from hf)
          | succ n14 ih14 =>
            intro y4 y5 H locs ls hf hB hl
            have hf := (fX2_value_L14.eq_1 v y2 (lp (fX2_value_L4 v) (fun _ _ => none) n4) (lp (fX2_value_L14 v y2 (lp (fX2_value_L4 v) (fun _ _ => none) n4)) (fun _ _ => none) n14) y4 y5).symm.trans (show fX2_value_L14 v y2 (lp (fX2_value_L4 v) (fun _ _ => none) n4) (lp (fX2_value_L14 v y2 (lp (fX2_value_L4 v) (fun _ _ => none) n4)) (fun _ _ => none) n14) y4 y5 = some r0 from hf)
            refine lv_iload_n hx hb dX2_value_14 rfl (lv_at hl 3 rfl) ?_
            refine lv_aload_n hx hb dX2_value_15 rfl (lv_at hl 0 rfl) ?_
            refine bk_getR X hB kl_X2 0 lc_Fl_0 2 (by decide) rfl wm_61 dX2_value_16 ?_
            refine lv_iload_n hx hb dX2_value_19 rfl (lv_at hl 2 rfl) ?_
            obtain ⟨h6, hf⟩ := ck_some hf
            refine bk_ald X hB 2 lc_Fl_2 h6 dX2_value_20 ?_
            refine lv_icmp_ge (tgt := 50) hx hb dX2_value_21 (by decide) (fun c7 => ?_) (fun c7 => ?_)
            · have hf := (if_pos c7).symm.trans hf
              obtain ⟨x8, ex8⟩ : ∃ y : Int32, y = y2 + 1 := ⟨_, rfl⟩
              have hf := nm_use hf ex8
              refine lv_iinc (v := x8) (lv' := [(2, .int x8), (0, .ref a), (1, .int y4), (3, .int y5)]) hx hb dX2_value_50 hl (k := 2) rfl (by rw [ex8]; rfl) (by decide) rfl (fun ls hl => ?_)
              refine lv_goto (tgt := 4) hx hb dX2_value_53 (by decide) ?_
              exact ih4 y4 x8 H locs ls hf hB (lv_sub hl [1, 2, 0] rfl)
            · have hf := (if_neg c7).symm.trans hf
              refine lv_iload_n hx hb dX2_value_24 rfl (lv_at hl 1 rfl) ?_
              refine lv_aload_n hx hb dX2_value_25 rfl (lv_at hl 0 rfl) ?_
              refine bk_getR X hB kl_X2 0 lc_Fl_0 3 (by decide) rfl wm_64 dX2_value_26 ?_
              refine lv_iload_n hx hb dX2_value_29 rfl (lv_at hl 2 rfl) ?_
              obtain ⟨h9, hf⟩ := ck_some hf
              refine bk_rld X hB 3 lc_Fl_3 h9 dX2_value_30 ?_
              refine lv_iload_n hx hb dX2_value_31 rfl (lv_at hl 3 rfl) ?_
              obtain ⟨h10, hf⟩ := ck_some hf
              refine bk_ald X hB (4 + 1 * y2.toNatClampNeg) (lr_Fl_3 _ (vp_lt h9)) h10 dX2_value_32 ?_
              refine lv_aload_n hx hb dX2_value_33 rfl (lv_at hl 0 rfl) ?_
              refine bk_getR X hB kl_X2 0 lc_Fl_0 4 (by decide) rfl wm_66 dX2_value_34 ?_
              refine lv_iload_n hx hb dX2_value_37 rfl (lv_at hl 2 rfl) ?_
              obtain ⟨h11, hf⟩ := ck_some hf
              refine bk_rld X hB 10 lc_Fl_10 h11 dX2_value_38 ?_
              refine lv_iload_n hx hb dX2_value_39 rfl (lv_at hl 3 rfl) ?_
              obtain ⟨h12, hf⟩ := ck_some hf
              refine bk_ald X hB (11 + 1 * y2.toNatClampNeg) (lr_Fl_10 _ (vp_lt h11)) h12 dX2_value_40 ?_
              refine lv_imul hx hb dX2_value_41 ?_
              refine lv_iadd hx hb dX2_value_42 ?_
              refine lv_topi (fun x13 ex13 => ?_)
              have hf := nm_use hf ex13
              refine lv_istore_n (lv' := [(1, .int x13), (0, .ref a), (2, .int y2), (3, .int y5)]) hx hb dX2_value_43 rfl hl (by decide) rfl (fun ls hl => ?_)
              obtain ⟨x14, ex14⟩ : ∃ y : Int32, y = y5 + 1 := ⟨_, rfl⟩
              have hf := nm_use hf ex14
              refine lv_iinc (v := x14) (lv' := [(3, .int x14), (1, .int x13), (0, .ref a), (2, .int y2)]) hx hb dX2_value_44 hl (k := 3) rfl (by rw [ex14]; rfl) (by decide) rfl (fun ls hl => ?_)
              refine lv_goto (tgt := 14) hx hb dX2_value_47 (by decide) ?_
              exact ih14 x13 x14 H locs ls hf hB (lv_sub hl [2, 1, 3, 0] rfl)
        exact hL14 lpN y1 0 H locs ls hf hB (lv_sub hl [1, 2, 3, 0] rfl)
  exact hL4 lpN 0 0 H locs ls hf hB (lv_sub hl [2, 1, 0] rfl)
theorem yv_X2_value : bYv yX2_value RX2 cX2_value 4 (some .int) 0 := ⟨⟨rfl, by decide, by decide, rfl⟩, wm_838, wm_839, wm_3, wm_840⟩

theorem dX2_addLot_0 : decode cX2_addLot 0 = .ok (.aload_n 0, 1) := by decide +kernel
theorem dX2_addLot_1 : decode cX2_addLot 1 = .ok (.getfield 15, 3) := by decide +kernel
theorem dX2_addLot_4 : decode cX2_addLot 4 = .ok (.iload_n 1, 1) := by decide +kernel
theorem dX2_addLot_5 : decode cX2_addLot 5 = .ok (.iaload, 1) := by decide +kernel
theorem dX2_addLot_6 : decode cX2_addLot 6 = .ok (.istore 4, 2) := by decide +kernel
theorem dX2_addLot_8 : decode cX2_addLot 8 = .ok (.aload_n 0, 1) := by decide +kernel
theorem dX2_addLot_9 : decode cX2_addLot 9 = .ok (.getfield 20, 3) := by decide +kernel
theorem dX2_addLot_12 : decode cX2_addLot 12 = .ok (.iload_n 1, 1) := by decide +kernel
theorem dX2_addLot_13 : decode cX2_addLot 13 = .ok (.aaload, 1) := by decide +kernel
theorem dX2_addLot_14 : decode cX2_addLot 14 = .ok (.iload 4, 2) := by decide +kernel
theorem dX2_addLot_16 : decode cX2_addLot 16 = .ok (.iload_n 2, 1) := by decide +kernel
theorem dX2_addLot_17 : decode cX2_addLot 17 = .ok (.iastore, 1) := by decide +kernel
theorem dX2_addLot_18 : decode cX2_addLot 18 = .ok (.aload_n 0, 1) := by decide +kernel
theorem dX2_addLot_19 : decode cX2_addLot 19 = .ok (.getfield 23, 3) := by decide +kernel
theorem dX2_addLot_22 : decode cX2_addLot 22 = .ok (.iload_n 1, 1) := by decide +kernel
theorem dX2_addLot_23 : decode cX2_addLot 23 = .ok (.aaload, 1) := by decide +kernel
theorem dX2_addLot_24 : decode cX2_addLot 24 = .ok (.iload 4, 2) := by decide +kernel
theorem dX2_addLot_26 : decode cX2_addLot 26 = .ok (.iload_n 3, 1) := by decide +kernel
theorem dX2_addLot_27 : decode cX2_addLot 27 = .ok (.iastore, 1) := by decide +kernel
theorem dX2_addLot_28 : decode cX2_addLot 28 = .ok (.aload_n 0, 1) := by decide +kernel
theorem dX2_addLot_29 : decode cX2_addLot 29 = .ok (.getfield 15, 3) := by decide +kernel
theorem dX2_addLot_32 : decode cX2_addLot 32 = .ok (.iload_n 1, 1) := by decide +kernel
theorem dX2_addLot_33 : decode cX2_addLot 33 = .ok (.dup2, 1) := by decide +kernel
theorem dX2_addLot_34 : decode cX2_addLot 34 = .ok (.iaload, 1) := by decide +kernel
theorem dX2_addLot_35 : decode cX2_addLot 35 = .ok (.iconst 1, 1) := by decide +kernel
theorem dX2_addLot_36 : decode cX2_addLot 36 = .ok (.iadd, 1) := by decide +kernel
theorem dX2_addLot_37 : decode cX2_addLot 37 = .ok (.iastore, 1) := by decide +kernel
theorem dX2_addLot_38 : decode cX2_addLot 38 = .ok (.return_, 1) := by decide +kernel
def fX2_addLot (p1 : Int32) (p2 : Int32) (p3 : Int32) (v : bM) : Option bM :=
  ck p1 6 <| nm (v (7 + p1.toNatClampNeg)) fun x2 => ck p1 6 <| ck x2 12 <| nm (upd v (13 + 12 * p1.toNatClampNeg + x2.toNatClampNeg) p2) fun v5 => ck p1 6 <| ck x2 12 <| nm (upd v5 (85 + 12 * p1.toNatClampNeg + x2.toNatClampNeg) p3) fun v8 => ck p1 6 <| nm ((v8 (7 + p1.toNatClampNeg)) + 1) fun x10 => ck p1 6 <| nm (upd v8 (7 + p1.toNatClampNeg) x10) fun v12 => some v12
set_option maxRecDepth 100000 in
set_option maxHeartbeats 4000000 in
theorem mX2_addLot {l : Launch} {p1 : Int32} {p2 : Int32} {p3 : Int32} {v : bM} {w0 : bM} (hf : fX2_addLot p1 p2 p3 v = some w0) : bMet l yX2_addLot cX2_addLot 5 none 0 0 0 LFl (fun E a => [.ref a, .int p1, .int p2, .int p3]) v w0 (fun _ => none) := by
  refine bk_start (by decide +kernel) wfFl (fun _ _ => Nat.le_of_ble_eq_true rfl) ?_
  intro p e s m args below meth c D E a ls H locs X hr hl hB
  have hx := X.1
  have hb := X.2.1
  have hown := X.2.2.2.1
  have hts := X.2.2.2.2.1
  have hl : lv_has ls 5 [(0, .ref a), (1, .int p1), (2, .int p2), (3, .int p3)] := hl
  have hf := (fX2_addLot.eq_1 p1 p2 p3 v).symm.trans hf
  refine lv_aload_n hx hb dX2_addLot_0 rfl (lv_at hl 0 rfl) ?_
  refine bk_getR X hB kl_X2 0 lc_Fl_0 2 (by decide) rfl wm_61 dX2_addLot_1 ?_
  refine lv_iload_n hx hb dX2_addLot_4 rfl (lv_at hl 1 rfl) ?_
  obtain ⟨h1, hf⟩ := ck_some hf
  refine bk_ald X hB 2 lc_Fl_2 h1 dX2_addLot_5 ?_
  refine lv_topi (fun x2 ex2 => ?_)
  have hf := nm_use hf ex2
  refine lv_istore (lv' := [(4, .int x2), (0, .ref a), (1, .int p1), (2, .int p2), (3, .int p3)]) hx hb dX2_addLot_6 hl (by decide) rfl (fun ls hl => ?_)
  refine lv_aload_n hx hb dX2_addLot_8 rfl (lv_at hl 1 rfl) ?_
  refine bk_getR X hB kl_X2 0 lc_Fl_0 3 (by decide) rfl wm_64 dX2_addLot_9 ?_
  refine lv_iload_n hx hb dX2_addLot_12 rfl (lv_at hl 2 rfl) ?_
  obtain ⟨h3, hf⟩ := ck_some hf
  refine bk_rld X hB 3 lc_Fl_3 h3 dX2_addLot_13 ?_
  refine lv_iload hx hb dX2_addLot_14 (lv_at hl 0 rfl) ?_
  refine lv_iload_n hx hb dX2_addLot_16 rfl (lv_at hl 3 rfl) ?_
  obtain ⟨h4, hf⟩ := ck_some hf
  refine bk_ast X hB (4 + 1 * p1.toNatClampNeg) (lr_Fl_3 _ (vp_lt h3)) h4 dX2_addLot_17 (fun H locs hB => ?_)
  obtain ⟨v5, ev5⟩ : ∃ y : bM, y = upd v (13 + 12 * p1.toNatClampNeg + x2.toNatClampNeg) p2 := ⟨_, rfl⟩
  have hf := nm_use hf ev5
  rw [← ev5] at hB
  refine lv_aload_n hx hb dX2_addLot_18 rfl (lv_at hl 1 rfl) ?_
  refine bk_getR X hB kl_X2 0 lc_Fl_0 4 (by decide) rfl wm_66 dX2_addLot_19 ?_
  refine lv_iload_n hx hb dX2_addLot_22 rfl (lv_at hl 2 rfl) ?_
  obtain ⟨h6, hf⟩ := ck_some hf
  refine bk_rld X hB 10 lc_Fl_10 h6 dX2_addLot_23 ?_
  refine lv_iload hx hb dX2_addLot_24 (lv_at hl 0 rfl) ?_
  refine lv_iload_n hx hb dX2_addLot_26 rfl (lv_at hl 4 rfl) ?_
  obtain ⟨h7, hf⟩ := ck_some hf
  refine bk_ast X hB (11 + 1 * p1.toNatClampNeg) (lr_Fl_10 _ (vp_lt h6)) h7 dX2_addLot_27 (fun H locs hB => ?_)
  obtain ⟨v8, ev8⟩ : ∃ y : bM, y = upd v5 (85 + 12 * p1.toNatClampNeg + x2.toNatClampNeg) p3 := ⟨_, rfl⟩
  have hf := nm_use hf ev8
  rw [← ev8] at hB
  refine lv_aload_n hx hb dX2_addLot_28 rfl (lv_at hl 1 rfl) ?_
  refine bk_getR X hB kl_X2 0 lc_Fl_0 2 (by decide) rfl wm_61 dX2_addLot_29 ?_
  refine lv_iload_n hx hb dX2_addLot_32 rfl (lv_at hl 2 rfl) ?_
  refine lv_dup2_11 hx hb dX2_addLot_33 rfl rfl ?_
  obtain ⟨h9, hf⟩ := ck_some hf
  refine bk_ald X hB 2 lc_Fl_2 h9 dX2_addLot_34 ?_
  refine lv_iconst (v := 1) hx hb dX2_addLot_35 (by decide) ?_
  refine lv_iadd hx hb dX2_addLot_36 ?_
  refine lv_topi (fun x10 ex10 => ?_)
  have hf := nm_use hf ex10
  obtain ⟨h11, hf⟩ := ck_some hf
  refine bk_ast X hB 2 lc_Fl_2 h11 dX2_addLot_37 (fun H locs hB => ?_)
  obtain ⟨v12, ev12⟩ : ∃ y : bM, y = upd v8 (7 + p1.toNatClampNeg) x10 := ⟨_, rfl⟩
  have hf := nm_use hf ev12
  rw [← ev12] at hB
  exact bk_vW X hr rfl hf hB (Nat.le_of_ble_eq_true rfl) (Nat.le_of_ble_eq_true rfl) dX2_addLot_38
theorem yv_X2_addLot : bYv yX2_addLot RX2 cX2_addLot 5 none 3 := ⟨⟨rfl, by decide, by decide, rfl⟩, wm_584, wm_585, wm_3, wm_586⟩

theorem dX2_paidForNext_0 : decode cX2_paidForNext 0 = .ok (.iconst 0, 1) := by decide +kernel
theorem dX2_paidForNext_1 : decode cX2_paidForNext 1 = .ok (.istore_n 3, 1) := by decide +kernel
theorem dX2_paidForNext_2 : decode cX2_paidForNext 2 = .ok (.iload_n 2, 1) := by decide +kernel
theorem dX2_paidForNext_3 : decode cX2_paidForNext 3 = .ok (.istore 4, 2) := by decide +kernel
theorem dX2_paidForNext_5 : decode cX2_paidForNext 5 = .ok (.iconst 0, 1) := by decide +kernel
theorem dX2_paidForNext_6 : decode cX2_paidForNext 6 = .ok (.istore 5, 2) := by decide +kernel
theorem dX2_paidForNext_8 : decode cX2_paidForNext 8 = .ok (.iload 5, 2) := by decide +kernel
theorem dX2_paidForNext_10 : decode cX2_paidForNext 10 = .ok (.aload_n 0, 1) := by decide +kernel
theorem dX2_paidForNext_11 : decode cX2_paidForNext 11 = .ok (.getfield 15, 3) := by decide +kernel
theorem dX2_paidForNext_14 : decode cX2_paidForNext 14 = .ok (.iload_n 1, 1) := by decide +kernel
theorem dX2_paidForNext_15 : decode cX2_paidForNext 15 = .ok (.iaload, 1) := by decide +kernel
theorem dX2_paidForNext_16 : decode cX2_paidForNext 16 = .ok (.if_icmp .ge 52, 3) := by decide +kernel
theorem dX2_paidForNext_19 : decode cX2_paidForNext 19 = .ok (.iload 4, 2) := by decide +kernel
theorem dX2_paidForNext_21 : decode cX2_paidForNext 21 = .ok (.ifCond .le 47, 3) := by decide +kernel
theorem dX2_paidForNext_24 : decode cX2_paidForNext 24 = .ok (.iload 4, 2) := by decide +kernel
theorem dX2_paidForNext_26 : decode cX2_paidForNext 26 = .ok (.aload_n 0, 1) := by decide +kernel
theorem dX2_paidForNext_27 : decode cX2_paidForNext 27 = .ok (.getfield 20, 3) := by decide +kernel
theorem dX2_paidForNext_30 : decode cX2_paidForNext 30 = .ok (.iload_n 1, 1) := by decide +kernel
theorem dX2_paidForNext_31 : decode cX2_paidForNext 31 = .ok (.aaload, 1) := by decide +kernel
theorem dX2_paidForNext_32 : decode cX2_paidForNext 32 = .ok (.iload 5, 2) := by decide +kernel
theorem dX2_paidForNext_34 : decode cX2_paidForNext 34 = .ok (.iaload, 1) := by decide +kernel
theorem dX2_paidForNext_35 : decode cX2_paidForNext 35 = .ok (.invokestatic 44, 3) := by decide +kernel
theorem dX2_paidForNext_38 : decode cX2_paidForNext 38 = .ok (.istore 6, 2) := by decide +kernel
theorem dX2_paidForNext_40 : decode cX2_paidForNext 40 = .ok (.iload_n 3, 1) := by decide +kernel
theorem dX2_paidForNext_41 : decode cX2_paidForNext 41 = .ok (.iload 6, 2) := by decide +kernel
theorem dX2_paidForNext_43 : decode cX2_paidForNext 43 = .ok (.aload_n 0, 1) := by decide +kernel
theorem dX2_paidForNext_44 : decode cX2_paidForNext 44 = .ok (.getfield 23, 3) := by decide +kernel
theorem dX2_paidForNext_47 : decode cX2_paidForNext 47 = .ok (.iload_n 1, 1) := by decide +kernel
theorem dX2_paidForNext_48 : decode cX2_paidForNext 48 = .ok (.aaload, 1) := by decide +kernel
theorem dX2_paidForNext_49 : decode cX2_paidForNext 49 = .ok (.iload 5, 2) := by decide +kernel
theorem dX2_paidForNext_51 : decode cX2_paidForNext 51 = .ok (.iaload, 1) := by decide +kernel
theorem dX2_paidForNext_52 : decode cX2_paidForNext 52 = .ok (.imul, 1) := by decide +kernel
theorem dX2_paidForNext_53 : decode cX2_paidForNext 53 = .ok (.iadd, 1) := by decide +kernel
theorem dX2_paidForNext_54 : decode cX2_paidForNext 54 = .ok (.istore_n 3, 1) := by decide +kernel
theorem dX2_paidForNext_55 : decode cX2_paidForNext 55 = .ok (.iload 4, 2) := by decide +kernel
theorem dX2_paidForNext_57 : decode cX2_paidForNext 57 = .ok (.iload 6, 2) := by decide +kernel
theorem dX2_paidForNext_59 : decode cX2_paidForNext 59 = .ok (.isub, 1) := by decide +kernel
theorem dX2_paidForNext_60 : decode cX2_paidForNext 60 = .ok (.istore 4, 2) := by decide +kernel
theorem dX2_paidForNext_62 : decode cX2_paidForNext 62 = .ok (.iinc 5 1, 3) := by decide +kernel
theorem dX2_paidForNext_65 : decode cX2_paidForNext 65 = .ok (.goto (-57), 3) := by decide +kernel
theorem dX2_paidForNext_68 : decode cX2_paidForNext 68 = .ok (.iload_n 3, 1) := by decide +kernel
theorem dX2_paidForNext_69 : decode cX2_paidForNext 69 = .ok (.ireturn, 1) := by decide +kernel
def fX2_paidForNext_L8 (p1 : Int32) (v : bM) (k8 : Int32 → Int32 → Int32 → Option Int32) (y1 : Int32) (y2 : Int32) (y3 : Int32) : Option Int32 :=
  ck p1 6 <| (if (v (7 + p1.toNatClampNeg)) ≤ y3 then (some (y1)) else ((if y2 ≤ 0 then (some (y1)) else (ck p1 6 <| ck y3 12 <| nm (if (v (13 + 12 * p1.toNatClampNeg + y3.toNatClampNeg)) < y2 then (v (13 + 12 * p1.toNatClampNeg + y3.toNatClampNeg)) else y2) fun x9 => ck p1 6 <| ck y3 12 <| nm (y1 + (x9 * (v (85 + 12 * p1.toNatClampNeg + y3.toNatClampNeg)))) fun x12 => nm (y2 - x9) fun x13 => nm (y3 + 1) fun x14 => k8 x12 x13 x14))))
def fX2_paidForNext (p1 : Int32) (p2 : Int32) (v : bM) : Option Int32 :=
  lp (fX2_paidForNext_L8 p1 v) (fun _ _ _ => none) lpN 0 p2 0
set_option maxRecDepth 100000 in
set_option maxHeartbeats 4000000 in
theorem mX2_paidForNext {l : Launch} {p1 : Int32} {p2 : Int32} {v : bM} {r0 : Int32} (hf : fX2_paidForNext p1 p2 v = some r0) : bMet l yX2_paidForNext cX2_paidForNext 7 (some .int) 1 0 0 LFl (fun E a => [.ref a, .int p1, .int p2]) v v (fun _ => some (.int r0)) := by
  refine bk_start (by decide +kernel) wfFl (fun _ _ => Nat.le_of_ble_eq_true rfl) ?_
  intro p e s m args below meth c D E a ls H locs X hr hl hB
  have hx := X.1
  have hb := X.2.1
  have hown := X.2.2.2.1
  have hts := X.2.2.2.2.1
  have hl : lv_has ls 7 [(0, .ref a), (1, .int p1), (2, .int p2)] := hl
  have hf := (fX2_paidForNext.eq_1 p1 p2 v).symm.trans hf
  refine lv_iconst (v := 0) hx hb dX2_paidForNext_0 (by decide) ?_
  refine lv_istore_n (lv' := [(3, .int 0), (0, .ref a), (1, .int p1), (2, .int p2)]) hx hb dX2_paidForNext_1 rfl hl (by decide) rfl (fun ls hl => ?_)
  refine lv_iload_n hx hb dX2_paidForNext_2 rfl (lv_at hl 3 rfl) ?_
  refine lv_istore (lv' := [(4, .int p2), (3, .int 0), (0, .ref a), (1, .int p1), (2, .int p2)]) hx hb dX2_paidForNext_3 hl (by decide) rfl (fun ls hl => ?_)
  refine lv_iconst (v := 0) hx hb dX2_paidForNext_5 (by decide) ?_
  refine lv_istore (lv' := [(5, .int 0), (4, .int p2), (3, .int 0), (0, .ref a), (1, .int p1), (2, .int p2)]) hx hb dX2_paidForNext_6 hl (by decide) rfl (fun ls hl => ?_)
  have hL8 : ∀ (n8 : Nat) (y1 y2 y3 : Int32) (H : Heap) (locs : List Loc) (ls : Array Slot), lp (fX2_paidForNext_L8 p1 v) (fun _ _ _ => none) n8 y1 y2 y3 = some r0 → bB D E LFl a v s H locs → lv_has ls 7 [(0, .ref a), (1, .int p1), (3, .int y1), (4, .int y2), (5, .int y3)] → W p l e (rmOf 1 0 0) s m args below meth c H locs 0 0 (bQ below D E LFl a v (some (.int r0)) args s 0 0) (F0 m 8 ls []) := by
    intro n8
    induction n8 with
    | zero => intro y1 y2 y3 H locs ls hf; cases (show (none : Option Int32) = some r0 from hf)
    | succ n8 ih8 =>
      intro y1 y2 y3 H locs ls hf hB hl
      have hf := (fX2_paidForNext_L8.eq_1 p1 v (lp (fX2_paidForNext_L8 p1 v) (fun _ _ _ => none) n8) y1 y2 y3).symm.trans (show fX2_paidForNext_L8 p1 v (lp (fX2_paidForNext_L8 p1 v) (fun _ _ _ => none) n8) y1 y2 y3 = some r0 from hf)
      refine lv_iload hx hb dX2_paidForNext_8 (lv_at hl 4 rfl) ?_
      refine lv_aload_n hx hb dX2_paidForNext_10 rfl (lv_at hl 0 rfl) ?_
      refine bk_getR X hB kl_X2 0 lc_Fl_0 2 (by decide) rfl wm_61 dX2_paidForNext_11 ?_
      refine lv_iload_n hx hb dX2_paidForNext_14 rfl (lv_at hl 1 rfl) ?_
      obtain ⟨h4, hf⟩ := ck_some hf
      refine bk_ald X hB 2 lc_Fl_2 h4 dX2_paidForNext_15 ?_
      refine lv_icmp_ge (tgt := 68) hx hb dX2_paidForNext_16 (by decide) (fun c5 => ?_) (fun c5 => ?_)
      · have hf := (if_pos c5).symm.trans hf
        refine lv_iload_n hx hb dX2_paidForNext_68 rfl (lv_at hl 2 rfl) ?_
        exact bk_iR X hr rfl hf hB (Nat.le_of_ble_eq_true rfl) (Nat.le_of_ble_eq_true rfl) dX2_paidForNext_69
      · have hf := (if_neg c5).symm.trans hf
        refine lv_iload hx hb dX2_paidForNext_19 (lv_at hl 3 rfl) ?_
        refine lv_if_le (tgt := 68) hx hb dX2_paidForNext_21 (by decide) (fun c6 => ?_) (fun c6 => ?_)
        · have hf := (if_pos c6).symm.trans hf
          refine lv_iload_n hx hb dX2_paidForNext_68 rfl (lv_at hl 2 rfl) ?_
          exact bk_iR X hr rfl hf hB (Nat.le_of_ble_eq_true rfl) (Nat.le_of_ble_eq_true rfl) dX2_paidForNext_69
        · have hf := (if_neg c6).symm.trans hf
          refine lv_iload hx hb dX2_paidForNext_24 (lv_at hl 3 rfl) ?_
          refine lv_aload_n hx hb dX2_paidForNext_26 rfl (lv_at hl 0 rfl) ?_
          refine bk_getR X hB kl_X2 0 lc_Fl_0 3 (by decide) rfl wm_64 dX2_paidForNext_27 ?_
          refine lv_iload_n hx hb dX2_paidForNext_30 rfl (lv_at hl 1 rfl) ?_
          obtain ⟨h7, hf⟩ := ck_some hf
          refine bk_rld X hB 3 lc_Fl_3 h7 dX2_paidForNext_31 ?_
          refine lv_iload hx hb dX2_paidForNext_32 (lv_at hl 4 rfl) ?_
          obtain ⟨h8, hf⟩ := ck_some hf
          refine bk_ald X hB (4 + 1 * p1.toNatClampNeg) (lr_Fl_3 _ (vp_lt h7)) h8 dX2_paidForNext_34 ?_
          refine bk_min X hl.1 wm_614 ⟨Nat.le_of_ble_eq_true rfl, Nat.le_of_ble_eq_true rfl⟩ ⟨Nat.le_of_ble_eq_true rfl, Nat.le_of_ble_eq_true rfl⟩ dX2_paidForNext_35 ?_
          refine lv_topi (fun x9 ex9 => ?_)
          have hf := nm_use hf ex9
          refine lv_istore (lv' := [(6, .int x9), (0, .ref a), (1, .int p1), (3, .int y1), (4, .int y2), (5, .int y3)]) hx hb dX2_paidForNext_38 hl (by decide) rfl (fun ls hl => ?_)
          refine lv_iload_n hx hb dX2_paidForNext_40 rfl (lv_at hl 3 rfl) ?_
          refine lv_iload hx hb dX2_paidForNext_41 (lv_at hl 0 rfl) ?_
          refine lv_aload_n hx hb dX2_paidForNext_43 rfl (lv_at hl 1 rfl) ?_
          refine bk_getR X hB kl_X2 0 lc_Fl_0 4 (by decide) rfl wm_66 dX2_paidForNext_44 ?_
          refine lv_iload_n hx hb dX2_paidForNext_47 rfl (lv_at hl 2 rfl) ?_
          obtain ⟨h10, hf⟩ := ck_some hf
          refine bk_rld X hB 10 lc_Fl_10 h10 dX2_paidForNext_48 ?_
          refine lv_iload hx hb dX2_paidForNext_49 (lv_at hl 5 rfl) ?_
          obtain ⟨h11, hf⟩ := ck_some hf
          refine bk_ald X hB (11 + 1 * p1.toNatClampNeg) (lr_Fl_10 _ (vp_lt h10)) h11 dX2_paidForNext_51 ?_
          refine lv_imul hx hb dX2_paidForNext_52 ?_
          refine lv_iadd hx hb dX2_paidForNext_53 ?_
          refine lv_topi (fun x12 ex12 => ?_)
          have hf := nm_use hf ex12
          refine lv_istore_n (lv' := [(3, .int x12), (6, .int x9), (0, .ref a), (1, .int p1), (4, .int y2), (5, .int y3)]) hx hb dX2_paidForNext_54 rfl hl (by decide) rfl (fun ls hl => ?_)
          refine lv_iload hx hb dX2_paidForNext_55 (lv_at hl 4 rfl) ?_
          refine lv_iload hx hb dX2_paidForNext_57 (lv_at hl 1 rfl) ?_
          refine lv_isub hx hb dX2_paidForNext_59 ?_
          refine lv_topi (fun x13 ex13 => ?_)
          have hf := nm_use hf ex13
          refine lv_istore (lv' := [(4, .int x13), (3, .int x12), (6, .int x9), (0, .ref a), (1, .int p1), (5, .int y3)]) hx hb dX2_paidForNext_60 hl (by decide) rfl (fun ls hl => ?_)
          obtain ⟨x14, ex14⟩ : ∃ y : Int32, y = y3 + 1 := ⟨_, rfl⟩
          have hf := nm_use hf ex14
          refine lv_iinc (v := x14) (lv' := [(5, .int x14), (4, .int x13), (3, .int x12), (6, .int x9), (0, .ref a), (1, .int p1)]) hx hb dX2_paidForNext_62 hl (k := 5) rfl (by rw [ex14]; rfl) (by decide) rfl (fun ls hl => ?_)
          refine lv_goto (tgt := 8) hx hb dX2_paidForNext_65 (by decide) ?_
          exact ih8 x12 x13 x14 H locs ls hf hB (lv_sub hl [4, 5, 2, 1, 0] rfl)
  exact hL8 lpN 0 p2 0 H locs ls hf hB (lv_sub hl [3, 4, 2, 1, 0] rfl)
theorem yv_X2_paidForNext : bYv yX2_paidForNext RX2 cX2_paidForNext 7 (some .int) 2 := ⟨⟨rfl, by decide, by decide, rfl⟩, wm_611, wm_612, wm_3, wm_613⟩

theorem dX2_take_0 : decode cX2_take 0 = .ok (.iload_n 2, 1) := by decide +kernel
theorem dX2_take_1 : decode cX2_take 1 = .ok (.istore_n 3, 1) := by decide +kernel
theorem dX2_take_2 : decode cX2_take 2 = .ok (.iconst 0, 1) := by decide +kernel
theorem dX2_take_3 : decode cX2_take 3 = .ok (.istore 4, 2) := by decide +kernel
theorem dX2_take_5 : decode cX2_take 5 = .ok (.iconst 0, 1) := by decide +kernel
theorem dX2_take_6 : decode cX2_take 6 = .ok (.istore 5, 2) := by decide +kernel
theorem dX2_take_8 : decode cX2_take 8 = .ok (.iload 5, 2) := by decide +kernel
theorem dX2_take_10 : decode cX2_take 10 = .ok (.aload_n 0, 1) := by decide +kernel
theorem dX2_take_11 : decode cX2_take 11 = .ok (.getfield 15, 3) := by decide +kernel
theorem dX2_take_14 : decode cX2_take 14 = .ok (.iload_n 1, 1) := by decide +kernel
theorem dX2_take_15 : decode cX2_take 15 = .ok (.iaload, 1) := by decide +kernel
theorem dX2_take_16 : decode cX2_take 16 = .ok (.if_icmp .ge 80, 3) := by decide +kernel
theorem dX2_take_19 : decode cX2_take 19 = .ok (.iload_n 3, 1) := by decide +kernel
theorem dX2_take_20 : decode cX2_take 20 = .ok (.aload_n 0, 1) := by decide +kernel
theorem dX2_take_21 : decode cX2_take 21 = .ok (.getfield 20, 3) := by decide +kernel
theorem dX2_take_24 : decode cX2_take 24 = .ok (.iload_n 1, 1) := by decide +kernel
theorem dX2_take_25 : decode cX2_take 25 = .ok (.aaload, 1) := by decide +kernel
theorem dX2_take_26 : decode cX2_take 26 = .ok (.iload 5, 2) := by decide +kernel
theorem dX2_take_28 : decode cX2_take 28 = .ok (.iaload, 1) := by decide +kernel
theorem dX2_take_29 : decode cX2_take 29 = .ok (.invokestatic 44, 3) := by decide +kernel
theorem dX2_take_32 : decode cX2_take 32 = .ok (.istore 6, 2) := by decide +kernel
theorem dX2_take_34 : decode cX2_take 34 = .ok (.aload_n 0, 1) := by decide +kernel
theorem dX2_take_35 : decode cX2_take 35 = .ok (.getfield 20, 3) := by decide +kernel
theorem dX2_take_38 : decode cX2_take 38 = .ok (.iload_n 1, 1) := by decide +kernel
theorem dX2_take_39 : decode cX2_take 39 = .ok (.aaload, 1) := by decide +kernel
theorem dX2_take_40 : decode cX2_take 40 = .ok (.iload 5, 2) := by decide +kernel
theorem dX2_take_42 : decode cX2_take 42 = .ok (.iaload, 1) := by decide +kernel
theorem dX2_take_43 : decode cX2_take 43 = .ok (.iload 6, 2) := by decide +kernel
theorem dX2_take_45 : decode cX2_take 45 = .ok (.isub, 1) := by decide +kernel
theorem dX2_take_46 : decode cX2_take 46 = .ok (.istore 7, 2) := by decide +kernel
theorem dX2_take_48 : decode cX2_take 48 = .ok (.iload_n 3, 1) := by decide +kernel
theorem dX2_take_49 : decode cX2_take 49 = .ok (.iload 6, 2) := by decide +kernel
theorem dX2_take_51 : decode cX2_take 51 = .ok (.isub, 1) := by decide +kernel
theorem dX2_take_52 : decode cX2_take 52 = .ok (.istore_n 3, 1) := by decide +kernel
theorem dX2_take_53 : decode cX2_take 53 = .ok (.iload 7, 2) := by decide +kernel
theorem dX2_take_55 : decode cX2_take 55 = .ok (.ifCond .le 35, 3) := by decide +kernel
theorem dX2_take_58 : decode cX2_take 58 = .ok (.aload_n 0, 1) := by decide +kernel
theorem dX2_take_59 : decode cX2_take 59 = .ok (.getfield 20, 3) := by decide +kernel
theorem dX2_take_62 : decode cX2_take 62 = .ok (.iload_n 1, 1) := by decide +kernel
theorem dX2_take_63 : decode cX2_take 63 = .ok (.aaload, 1) := by decide +kernel
theorem dX2_take_64 : decode cX2_take 64 = .ok (.iload 4, 2) := by decide +kernel
theorem dX2_take_66 : decode cX2_take 66 = .ok (.iload 7, 2) := by decide +kernel
theorem dX2_take_68 : decode cX2_take 68 = .ok (.iastore, 1) := by decide +kernel
theorem dX2_take_69 : decode cX2_take 69 = .ok (.aload_n 0, 1) := by decide +kernel
theorem dX2_take_70 : decode cX2_take 70 = .ok (.getfield 23, 3) := by decide +kernel
theorem dX2_take_73 : decode cX2_take 73 = .ok (.iload_n 1, 1) := by decide +kernel
theorem dX2_take_74 : decode cX2_take 74 = .ok (.aaload, 1) := by decide +kernel
theorem dX2_take_75 : decode cX2_take 75 = .ok (.iload 4, 2) := by decide +kernel
theorem dX2_take_77 : decode cX2_take 77 = .ok (.aload_n 0, 1) := by decide +kernel
theorem dX2_take_78 : decode cX2_take 78 = .ok (.getfield 23, 3) := by decide +kernel
theorem dX2_take_81 : decode cX2_take 81 = .ok (.iload_n 1, 1) := by decide +kernel
theorem dX2_take_82 : decode cX2_take 82 = .ok (.aaload, 1) := by decide +kernel
theorem dX2_take_83 : decode cX2_take 83 = .ok (.iload 5, 2) := by decide +kernel
theorem dX2_take_85 : decode cX2_take 85 = .ok (.iaload, 1) := by decide +kernel
theorem dX2_take_86 : decode cX2_take 86 = .ok (.iastore, 1) := by decide +kernel
theorem dX2_take_87 : decode cX2_take 87 = .ok (.iinc 4 1, 3) := by decide +kernel
theorem dX2_take_90 : decode cX2_take 90 = .ok (.iinc 5 1, 3) := by decide +kernel
theorem dX2_take_93 : decode cX2_take 93 = .ok (.goto (-85), 3) := by decide +kernel
theorem dX2_take_96 : decode cX2_take 96 = .ok (.aload_n 0, 1) := by decide +kernel
theorem dX2_take_97 : decode cX2_take 97 = .ok (.getfield 15, 3) := by decide +kernel
theorem dX2_take_100 : decode cX2_take 100 = .ok (.iload_n 1, 1) := by decide +kernel
theorem dX2_take_101 : decode cX2_take 101 = .ok (.iload 4, 2) := by decide +kernel
theorem dX2_take_103 : decode cX2_take 103 = .ok (.iastore, 1) := by decide +kernel
theorem dX2_take_104 : decode cX2_take 104 = .ok (.return_, 1) := by decide +kernel
def fX2_take_J90 (y3 : Int32) (k8 : Int32 → Int32 → Int32 → bM → Option bM) (x15 : Int32) (y16 : Int32) (v17 : bM) : Option bM :=
  nm (y3 + 1) fun x18 => k8 x15 y16 x18 v17
def fX2_take_L8 (p1 : Int32) (k8 : Int32 → Int32 → Int32 → bM → Option bM) (y1 : Int32) (y2 : Int32) (y3 : Int32) (v4 : bM) : Option bM :=
  ck p1 6 <| (if (v4 (7 + p1.toNatClampNeg)) ≤ y3 then (ck p1 6 <| nm (upd v4 (7 + p1.toNatClampNeg) y2) fun v8 => some v8) else (ck p1 6 <| ck y3 12 <| nm (if (v4 (13 + 12 * p1.toNatClampNeg + y3.toNatClampNeg)) < y1 then (v4 (13 + 12 * p1.toNatClampNeg + y3.toNatClampNeg)) else y1) fun x11 => ck p1 6 <| ck y3 12 <| nm ((v4 (13 + 12 * p1.toNatClampNeg + y3.toNatClampNeg)) - x11) fun x14 => nm (y1 - x11) fun x15 => (if x14 ≤ 0 then (fX2_take_J90 y3 k8 x15 y2 v4) else (ck p1 6 <| ck y2 12 <| nm (upd v4 (13 + 12 * p1.toNatClampNeg + y2.toNatClampNeg) x14) fun v22 => ck p1 6 <| ck p1 6 <| ck y3 12 <| nm (v22 (85 + 12 * p1.toNatClampNeg + y3.toNatClampNeg)) fun x26 => ck y2 12 <| nm (upd v22 (85 + 12 * p1.toNatClampNeg + y2.toNatClampNeg) x26) fun v28 => nm (y2 + 1) fun x29 => fX2_take_J90 y3 k8 x15 x29 v28))))
def fX2_take (p1 : Int32) (p2 : Int32) (v : bM) : Option bM :=
  lp (fX2_take_L8 p1) (fun _ _ _ _ => none) lpN p2 0 0 v
set_option maxRecDepth 100000 in
set_option maxHeartbeats 4000000 in
theorem mX2_take {l : Launch} {p1 : Int32} {p2 : Int32} {v : bM} {w0 : bM} (hf : fX2_take p1 p2 v = some w0) : bMet l yX2_take cX2_take 8 none 1 0 0 LFl (fun E a => [.ref a, .int p1, .int p2]) v w0 (fun _ => none) := by
  refine bk_start (by decide +kernel) wfFl (fun _ _ => Nat.le_of_ble_eq_true rfl) ?_
  intro p e s m args below meth c D E a ls H locs X hr hl hB
  have hx := X.1
  have hb := X.2.1
  have hown := X.2.2.2.1
  have hts := X.2.2.2.2.1
  have hl : lv_has ls 8 [(0, .ref a), (1, .int p1), (2, .int p2)] := hl
  have hf := (fX2_take.eq_1 p1 p2 v).symm.trans hf
  refine lv_iload_n hx hb dX2_take_0 rfl (lv_at hl 2 rfl) ?_
  refine lv_istore_n (lv' := [(3, .int p2), (0, .ref a), (1, .int p1), (2, .int p2)]) hx hb dX2_take_1 rfl hl (by decide) rfl (fun ls hl => ?_)
  refine lv_iconst (v := 0) hx hb dX2_take_2 (by decide) ?_
  refine lv_istore (lv' := [(4, .int 0), (3, .int p2), (0, .ref a), (1, .int p1), (2, .int p2)]) hx hb dX2_take_3 hl (by decide) rfl (fun ls hl => ?_)
  refine lv_iconst (v := 0) hx hb dX2_take_5 (by decide) ?_
  refine lv_istore (lv' := [(5, .int 0), (4, .int 0), (3, .int p2), (0, .ref a), (1, .int p1), (2, .int p2)]) hx hb dX2_take_6 hl (by decide) rfl (fun ls hl => ?_)
  have hL8 : ∀ (n8 : Nat) (y1 y2 y3 : Int32) (v4 : bM) (H : Heap) (locs : List Loc) (ls : Array Slot), lp (fX2_take_L8 p1) (fun _ _ _ _ => none) n8 y1 y2 y3 v4 = some w0 → bB D E LFl a v4 s H locs → lv_has ls 8 [(0, .ref a), (1, .int p1), (3, .int y1), (4, .int y2), (5, .int y3)] → W p l e (rmOf 1 0 0) s m args below meth c H locs 0 0 (bQ below D E LFl a w0 none args s 0 0) (F0 m 8 ls []) := by
    intro n8
    induction n8 with
    | zero => intro y1 y2 y3 v4 H locs ls hf; cases (show (none : Option bM) = some w0 from hf)
    | succ n8 ih8 =>
      intro y1 y2 y3 v4 H locs ls hf hB hl
      have hf := (fX2_take_L8.eq_1 p1 (lp (fX2_take_L8 p1) (fun _ _ _ _ => none) n8) y1 y2 y3 v4).symm.trans (show fX2_take_L8 p1 (lp (fX2_take_L8 p1) (fun _ _ _ _ => none) n8) y1 y2 y3 v4 = some w0 from hf)
      refine lv_iload hx hb dX2_take_8 (lv_at hl 4 rfl) ?_
      refine lv_aload_n hx hb dX2_take_10 rfl (lv_at hl 0 rfl) ?_
      refine bk_getR X hB kl_X2 0 lc_Fl_0 2 (by decide) rfl wm_61 dX2_take_11 ?_
      refine lv_iload_n hx hb dX2_take_14 rfl (lv_at hl 1 rfl) ?_
      obtain ⟨h5, hf⟩ := ck_some hf
      refine bk_ald X hB 2 lc_Fl_2 h5 dX2_take_15 ?_
      refine lv_icmp_ge (tgt := 96) hx hb dX2_take_16 (by decide) (fun c6 => ?_) (fun c6 => ?_)
      · have hf := (if_pos c6).symm.trans hf
        refine lv_aload_n hx hb dX2_take_96 rfl (lv_at hl 0 rfl) ?_
        refine bk_getR X hB kl_X2 0 lc_Fl_0 2 (by decide) rfl wm_61 dX2_take_97 ?_
        refine lv_iload_n hx hb dX2_take_100 rfl (lv_at hl 1 rfl) ?_
        refine lv_iload hx hb dX2_take_101 (lv_at hl 3 rfl) ?_
        obtain ⟨h7, hf⟩ := ck_some hf
        refine bk_ast X hB 2 lc_Fl_2 h7 dX2_take_103 (fun H locs hB => ?_)
        obtain ⟨v8, ev8⟩ : ∃ y : bM, y = upd v4 (7 + p1.toNatClampNeg) y2 := ⟨_, rfl⟩
        have hf := nm_use hf ev8
        rw [← ev8] at hB
        exact bk_vW X hr rfl hf hB (Nat.le_of_ble_eq_true rfl) (Nat.le_of_ble_eq_true rfl) dX2_take_104
      · have hf := (if_neg c6).symm.trans hf
        refine lv_iload_n hx hb dX2_take_19 rfl (lv_at hl 2 rfl) ?_
        refine lv_aload_n hx hb dX2_take_20 rfl (lv_at hl 0 rfl) ?_
        refine bk_getR X hB kl_X2 0 lc_Fl_0 3 (by decide) rfl wm_64 dX2_take_21 ?_
        refine lv_iload_n hx hb dX2_take_24 rfl (lv_at hl 1 rfl) ?_
        obtain ⟨h9, hf⟩ := ck_some hf
        refine bk_rld X hB 3 lc_Fl_3 h9 dX2_take_25 ?_
        refine lv_iload hx hb dX2_take_26 (lv_at hl 4 rfl) ?_
        obtain ⟨h10, hf⟩ := ck_some hf
        refine bk_ald X hB (4 + 1 * p1.toNatClampNeg) (lr_Fl_3 _ (vp_lt h9)) h10 dX2_take_28 ?_
        refine bk_min X hl.1 wm_614 ⟨Nat.le_of_ble_eq_true rfl, Nat.le_of_ble_eq_true rfl⟩ ⟨Nat.le_of_ble_eq_true rfl, Nat.le_of_ble_eq_true rfl⟩ dX2_take_29 ?_
        refine lv_topi (fun x11 ex11 => ?_)
        have hf := nm_use hf ex11
        refine lv_istore (lv' := [(6, .int x11), (0, .ref a), (1, .int p1), (3, .int y1), (4, .int y2), (5, .int y3)]) hx hb dX2_take_32 hl (by decide) rfl (fun ls hl => ?_)
        refine lv_aload_n hx hb dX2_take_34 rfl (lv_at hl 1 rfl) ?_
        refine bk_getR X hB kl_X2 0 lc_Fl_0 3 (by decide) rfl wm_64 dX2_take_35 ?_
        refine lv_iload_n hx hb dX2_take_38 rfl (lv_at hl 2 rfl) ?_
        obtain ⟨h12, hf⟩ := ck_some hf
        refine bk_rld X hB 3 lc_Fl_3 h12 dX2_take_39 ?_
        refine lv_iload hx hb dX2_take_40 (lv_at hl 5 rfl) ?_
        obtain ⟨h13, hf⟩ := ck_some hf
        refine bk_ald X hB (4 + 1 * p1.toNatClampNeg) (lr_Fl_3 _ (vp_lt h12)) h13 dX2_take_42 ?_
        refine lv_iload hx hb dX2_take_43 (lv_at hl 0 rfl) ?_
        refine lv_isub hx hb dX2_take_45 ?_
        refine lv_topi (fun x14 ex14 => ?_)
        have hf := nm_use hf ex14
        refine lv_istore (lv' := [(7, .int x14), (6, .int x11), (0, .ref a), (1, .int p1), (3, .int y1), (4, .int y2), (5, .int y3)]) hx hb dX2_take_46 hl (by decide) rfl (fun ls hl => ?_)
        refine lv_iload_n hx hb dX2_take_48 rfl (lv_at hl 4 rfl) ?_
        refine lv_iload hx hb dX2_take_49 (lv_at hl 1 rfl) ?_
        refine lv_isub hx hb dX2_take_51 ?_
        refine lv_topi (fun x15 ex15 => ?_)
        have hf := nm_use hf ex15
        refine lv_istore_n (lv' := [(3, .int x15), (7, .int x14), (6, .int x11), (0, .ref a), (1, .int p1), (4, .int y2), (5, .int y3)]) hx hb dX2_take_52 rfl hl (by decide) rfl (fun ls hl => ?_)
        refine lv_iload hx hb dX2_take_53 (lv_at hl 1 rfl) ?_
        have hJ90 : ∀ (y16 : Int32) (v17 : bM) (H : Heap) (locs : List Loc) (ls : Array Slot), fX2_take_J90 y3 (lp (fX2_take_L8 p1) (fun _ _ _ _ => none) n8) x15 y16 v17 = some w0 → bB D E LFl a v17 s H locs → lv_has ls 8 [(0, .ref a), (1, .int p1), (3, .int x15), (4, .int y16), (5, .int y3)] → W p l e (rmOf 1 0 0) s m args below meth c H locs 0 0 (bQ below D E LFl a w0 none args s 0 0) (F0 m 90 ls []) := by
          intro y16 v17 H locs ls hf hB hl
          have hf := (fX2_take_J90.eq_1 y3 (lp (fX2_take_L8 p1) (fun _ _ _ _ => none) n8) x15 y16 v17).symm.trans hf
          obtain ⟨x18, ex18⟩ : ∃ y : Int32, y = y3 + 1 := ⟨_, rfl⟩
          have hf := nm_use hf ex18
          refine lv_iinc (v := x18) (lv' := [(5, .int x18), (0, .ref a), (1, .int p1), (3, .int x15), (4, .int y16)]) hx hb dX2_take_90 hl (k := 4) rfl (by rw [ex18]; rfl) (by decide) rfl (fun ls hl => ?_)
          refine lv_goto (tgt := 8) hx hb dX2_take_93 (by decide) ?_
          exact ih8 x15 y16 x18 v17 H locs ls hf hB (lv_sub hl [1, 2, 3, 4, 0] rfl)
        refine lv_if_le (tgt := 90) hx hb dX2_take_55 (by decide) (fun c19 => ?_) (fun c19 => ?_)
        · have hf := (if_pos c19).symm.trans hf
          exact hJ90 y2 v4 H locs ls hf hB (lv_sub hl [3, 4, 0, 5, 6] rfl)
        · have hf := (if_neg c19).symm.trans hf
          refine lv_aload_n hx hb dX2_take_58 rfl (lv_at hl 3 rfl) ?_
          refine bk_getR X hB kl_X2 0 lc_Fl_0 3 (by decide) rfl wm_64 dX2_take_59 ?_
          refine lv_iload_n hx hb dX2_take_62 rfl (lv_at hl 4 rfl) ?_
          obtain ⟨h20, hf⟩ := ck_some hf
          refine bk_rld X hB 3 lc_Fl_3 h20 dX2_take_63 ?_
          refine lv_iload hx hb dX2_take_64 (lv_at hl 5 rfl) ?_
          refine lv_iload hx hb dX2_take_66 (lv_at hl 1 rfl) ?_
          obtain ⟨h21, hf⟩ := ck_some hf
          refine bk_ast X hB (4 + 1 * p1.toNatClampNeg) (lr_Fl_3 _ (vp_lt h20)) h21 dX2_take_68 (fun H locs hB => ?_)
          obtain ⟨v22, ev22⟩ : ∃ y : bM, y = upd v4 (13 + 12 * p1.toNatClampNeg + y2.toNatClampNeg) x14 := ⟨_, rfl⟩
          have hf := nm_use hf ev22
          rw [← ev22] at hB
          refine lv_aload_n hx hb dX2_take_69 rfl (lv_at hl 3 rfl) ?_
          refine bk_getR X hB kl_X2 0 lc_Fl_0 4 (by decide) rfl wm_66 dX2_take_70 ?_
          refine lv_iload_n hx hb dX2_take_73 rfl (lv_at hl 4 rfl) ?_
          obtain ⟨h23, hf⟩ := ck_some hf
          refine bk_rld X hB 10 lc_Fl_10 h23 dX2_take_74 ?_
          refine lv_iload hx hb dX2_take_75 (lv_at hl 5 rfl) ?_
          refine lv_aload_n hx hb dX2_take_77 rfl (lv_at hl 3 rfl) ?_
          refine bk_getR X hB kl_X2 0 lc_Fl_0 4 (by decide) rfl wm_66 dX2_take_78 ?_
          refine lv_iload_n hx hb dX2_take_81 rfl (lv_at hl 4 rfl) ?_
          obtain ⟨h24, hf⟩ := ck_some hf
          refine bk_rld X hB 10 lc_Fl_10 h24 dX2_take_82 ?_
          refine lv_iload hx hb dX2_take_83 (lv_at hl 6 rfl) ?_
          obtain ⟨h25, hf⟩ := ck_some hf
          refine bk_ald X hB (11 + 1 * p1.toNatClampNeg) (lr_Fl_10 _ (vp_lt h24)) h25 dX2_take_85 ?_
          refine lv_topi (fun x26 ex26 => ?_)
          have hf := nm_use hf ex26
          obtain ⟨h27, hf⟩ := ck_some hf
          refine bk_ast X hB (11 + 1 * p1.toNatClampNeg) (lr_Fl_10 _ (vp_lt h23)) h27 dX2_take_86 (fun H locs hB => ?_)
          obtain ⟨v28, ev28⟩ : ∃ y : bM, y = upd v22 (85 + 12 * p1.toNatClampNeg + y2.toNatClampNeg) x26 := ⟨_, rfl⟩
          have hf := nm_use hf ev28
          rw [← ev28] at hB
          obtain ⟨x29, ex29⟩ : ∃ y : Int32, y = y2 + 1 := ⟨_, rfl⟩
          have hf := nm_use hf ex29
          refine lv_iinc (v := x29) (lv' := [(4, .int x29), (3, .int x15), (7, .int x14), (6, .int x11), (0, .ref a), (1, .int p1), (5, .int y3)]) hx hb dX2_take_87 hl (k := 5) rfl (by rw [ex29]; rfl) (by decide) rfl (fun ls hl => ?_)
          exact hJ90 x29 v28 H locs ls hf hB (lv_sub hl [4, 5, 1, 0, 6] rfl)
  exact hL8 lpN p2 0 0 v H locs ls hf hB (lv_sub hl [3, 4, 2, 1, 0] rfl)
theorem yv_X2_take : bYv yX2_take RX2 cX2_take 8 none 2 := ⟨⟨rfl, by decide, by decide, rfl⟩, wm_643, wm_644, wm_3, wm_645⟩

theorem dX1_copyFrom_0 : decode cX1_copyFrom 0 = .ok (.aload_n 0, 1) := by decide +kernel
theorem dX1_copyFrom_1 : decode cX1_copyFrom 1 = .ok (.aload_n 1, 1) := by decide +kernel
theorem dX1_copyFrom_2 : decode cX1_copyFrom 2 = .ok (.getfield 35, 3) := by decide +kernel
theorem dX1_copyFrom_5 : decode cX1_copyFrom 5 = .ok (.putfield 35, 3) := by decide +kernel
theorem dX1_copyFrom_8 : decode cX1_copyFrom 8 = .ok (.aload_n 1, 1) := by decide +kernel
theorem dX1_copyFrom_9 : decode cX1_copyFrom 9 = .ok (.getfield 9, 3) := by decide +kernel
theorem dX1_copyFrom_12 : decode cX1_copyFrom 12 = .ok (.aload_n 0, 1) := by decide +kernel
theorem dX1_copyFrom_13 : decode cX1_copyFrom 13 = .ok (.getfield 9, 3) := by decide +kernel
theorem dX1_copyFrom_16 : decode cX1_copyFrom 16 = .ok (.invokestatic 39, 3) := by decide +kernel
theorem dX1_copyFrom_19 : decode cX1_copyFrom 19 = .ok (.aload_n 1, 1) := by decide +kernel
theorem dX1_copyFrom_20 : decode cX1_copyFrom 20 = .ok (.getfield 15, 3) := by decide +kernel
theorem dX1_copyFrom_23 : decode cX1_copyFrom 23 = .ok (.aload_n 0, 1) := by decide +kernel
theorem dX1_copyFrom_24 : decode cX1_copyFrom 24 = .ok (.getfield 15, 3) := by decide +kernel
theorem dX1_copyFrom_27 : decode cX1_copyFrom 27 = .ok (.invokestatic 39, 3) := by decide +kernel
theorem dX1_copyFrom_30 : decode cX1_copyFrom 30 = .ok (.aload_n 1, 1) := by decide +kernel
theorem dX1_copyFrom_31 : decode cX1_copyFrom 31 = .ok (.getfield 18, 3) := by decide +kernel
theorem dX1_copyFrom_34 : decode cX1_copyFrom 34 = .ok (.aload_n 0, 1) := by decide +kernel
theorem dX1_copyFrom_35 : decode cX1_copyFrom 35 = .ok (.getfield 18, 3) := by decide +kernel
theorem dX1_copyFrom_38 : decode cX1_copyFrom 38 = .ok (.invokestatic 39, 3) := by decide +kernel
theorem dX1_copyFrom_41 : decode cX1_copyFrom 41 = .ok (.aload_n 1, 1) := by decide +kernel
theorem dX1_copyFrom_42 : decode cX1_copyFrom 42 = .ok (.getfield 21, 3) := by decide +kernel
theorem dX1_copyFrom_45 : decode cX1_copyFrom 45 = .ok (.aload_n 0, 1) := by decide +kernel
theorem dX1_copyFrom_46 : decode cX1_copyFrom 46 = .ok (.getfield 21, 3) := by decide +kernel
theorem dX1_copyFrom_49 : decode cX1_copyFrom 49 = .ok (.invokestatic 39, 3) := by decide +kernel
theorem dX1_copyFrom_52 : decode cX1_copyFrom 52 = .ok (.aload_n 1, 1) := by decide +kernel
theorem dX1_copyFrom_53 : decode cX1_copyFrom 53 = .ok (.getfield 24, 3) := by decide +kernel
theorem dX1_copyFrom_56 : decode cX1_copyFrom 56 = .ok (.aload_n 0, 1) := by decide +kernel
theorem dX1_copyFrom_57 : decode cX1_copyFrom 57 = .ok (.getfield 24, 3) := by decide +kernel
theorem dX1_copyFrom_60 : decode cX1_copyFrom 60 = .ok (.invokestatic 39, 3) := by decide +kernel
theorem dX1_copyFrom_63 : decode cX1_copyFrom 63 = .ok (.aload_n 1, 1) := by decide +kernel
theorem dX1_copyFrom_64 : decode cX1_copyFrom 64 = .ok (.getfield 27, 3) := by decide +kernel
theorem dX1_copyFrom_67 : decode cX1_copyFrom 67 = .ok (.aload_n 0, 1) := by decide +kernel
theorem dX1_copyFrom_68 : decode cX1_copyFrom 68 = .ok (.getfield 27, 3) := by decide +kernel
theorem dX1_copyFrom_71 : decode cX1_copyFrom 71 = .ok (.invokestatic 39, 3) := by decide +kernel
theorem dX1_copyFrom_74 : decode cX1_copyFrom 74 = .ok (.iconst 0, 1) := by decide +kernel
theorem dX1_copyFrom_75 : decode cX1_copyFrom 75 = .ok (.istore_n 2, 1) := by decide +kernel
theorem dX1_copyFrom_76 : decode cX1_copyFrom 76 = .ok (.iload_n 2, 1) := by decide +kernel
theorem dX1_copyFrom_77 : decode cX1_copyFrom 77 = .ok (.bipush 6, 2) := by decide +kernel
theorem dX1_copyFrom_79 : decode cX1_copyFrom 79 = .ok (.if_icmp .ge 24, 3) := by decide +kernel
theorem dX1_copyFrom_82 : decode cX1_copyFrom 82 = .ok (.aload_n 1, 1) := by decide +kernel
theorem dX1_copyFrom_83 : decode cX1_copyFrom 83 = .ok (.getfield 32, 3) := by decide +kernel
theorem dX1_copyFrom_86 : decode cX1_copyFrom 86 = .ok (.iload_n 2, 1) := by decide +kernel
theorem dX1_copyFrom_87 : decode cX1_copyFrom 87 = .ok (.aaload, 1) := by decide +kernel
theorem dX1_copyFrom_88 : decode cX1_copyFrom 88 = .ok (.aload_n 0, 1) := by decide +kernel
theorem dX1_copyFrom_89 : decode cX1_copyFrom 89 = .ok (.getfield 32, 3) := by decide +kernel
theorem dX1_copyFrom_92 : decode cX1_copyFrom 92 = .ok (.iload_n 2, 1) := by decide +kernel
theorem dX1_copyFrom_93 : decode cX1_copyFrom 93 = .ok (.aaload, 1) := by decide +kernel
theorem dX1_copyFrom_94 : decode cX1_copyFrom 94 = .ok (.invokestatic 39, 3) := by decide +kernel
theorem dX1_copyFrom_97 : decode cX1_copyFrom 97 = .ok (.iinc 2 1, 3) := by decide +kernel
theorem dX1_copyFrom_100 : decode cX1_copyFrom 100 = .ok (.goto (-24), 3) := by decide +kernel
theorem dX1_copyFrom_103 : decode cX1_copyFrom 103 = .ok (.return_, 1) := by decide +kernel
def fX1_copyFrom_L76 (u : bM) (k76 : Int32 → bM → Option bM) (y9 : Int32) (v10 : bM) : Option bM :=
  (if 6 ≤ y9 then (some v10) else (ck y9 6 <| ck y9 6 <| nm (spl v10 (37 + 6 * y9.toNatClampNeg) 6 (vw u (37 + 6 * y9.toNatClampNeg))) fun v14 => nm (y9 + 1) fun x15 => k76 x15 v14))
def fX1_copyFrom  (v u : bM) : Option bM :=
  nm (u 0) fun x1 => nm (upd v 0 x1) fun v2 => nm (spl v2 (1) 6 (vw u (1))) fun v3 => nm (spl v3 (7) 6 (vw u (7))) fun v4 => nm (spl v4 (13) 6 (vw u (13))) fun v5 => nm (spl v5 (19) 6 (vw u (19))) fun v6 => nm (spl v6 (25) 6 (vw u (25))) fun v7 => nm (spl v7 (31) 6 (vw u (31))) fun v8 => lp (fX1_copyFrom_L76 u) (fun _ _ => none) lpN 0 v8
set_option maxRecDepth 100000 in
set_option maxHeartbeats 4000000 in
theorem mX1_copyFrom {l : Launch}  {v u : bM} {w0 : bM} (hf : fX1_copyFrom  v u = some w0) : bMet2 l yX1_copyFrom cX1_copyFrom 3 none 2 LBr (fun E a b => [.ref a, .ref b]) v u w0 (fun _ => none) := by
  refine bk_start2 (by decide +kernel) wfBr (fun _ _ _ => Nat.le_of_ble_eq_true rfl) ?_
  intro p e s m args below meth c D E a b ls H locs X hr hl hB hu hab
  have hx := X.1
  have hb := X.2.1
  have hown := X.2.2.2.1
  have hts := X.2.2.2.2.1
  have hl : lv_has ls 3 [(0, .ref a), (1, .ref b)] := hl
  have hf := (fX1_copyFrom.eq_1  v u).symm.trans hf
  refine lv_aload_n hx hb dX1_copyFrom_0 rfl (lv_at hl 0 rfl) ?_
  refine lv_aload_n hx hb dX1_copyFrom_1 rfl (lv_at hl 1 rfl) ?_
  refine bk_getI0 X (srcK plBr hB hu hab) kl_X1 0 lc_Br_0 0 (by decide) rfl wm_97 dX1_copyFrom_2 ?_
  refine lv_topi (fun x1 ex1 => ?_)
  have hf := nm_use hf ex1
  refine bk_putI X hB kl_X1 0 lc_Br_0 0 (by decide) rfl rfl rfl wm_97 dX1_copyFrom_5 rfl (fun H locs hB => ?_)
  obtain ⟨v2, ev2⟩ : ∃ y : bM, y = upd v 0 x1 := ⟨_, rfl⟩
  have hf := nm_use hf ev2
  rw [← ev2] at hB
  refine lv_aload_n hx hb dX1_copyFrom_8 rfl (lv_at hl 1 rfl) ?_
  refine bk_getR0 X (srcK plBr hB hu hab) kl_X1 0 lc_Br_0 1 (by decide) rfl wm_101 dX1_copyFrom_9 ?_
  refine lv_aload_n hx hb dX1_copyFrom_12 rfl (lv_at hl 0 rfl) ?_
  refine bk_getR X hB kl_X1 0 lc_Br_0 1 (by decide) rfl wm_101 dX1_copyFrom_13 ?_
  refine bk_sub (bSub_arr hB.2.2.1 (by decide) lc_Br_1) hB (fun h1 h2 h3 => bk_runSN2 X (Av := [.ref (b + 1), .ref (a + 1)]) (rest := []) (mX8_copyRow (n := 6) (by decide)) ys_X8_copyRow (List.mem_of_getElem? (i := 10) rfl) ⟨Nat.le_of_ble_eq_true rfl, Nat.le_of_ble_eq_true rfl⟩ rfl rfl hl.1 (Blk.subArr wfBr (by decide) lc_Br_1 (srcK plBr hB hu hab)) (apA hab lc_Br_1 lc_Br_1) h1 h2 h3 (Nat.le_of_ble_eq_true rfl) ⟨Nat.le_of_ble_eq_true rfl, Nat.le_of_ble_eq_true rfl⟩ dX1_copyFrom_16) (fun H locs hB => ?_)
  refine W.eq (g2 := F0 m 19 ls []) rfl ?_
  obtain ⟨v3, ev3⟩ : ∃ y : bM, y = spl v2 (1) 6 (vw u (1)) := ⟨_, rfl⟩
  have hf := nm_use hf ev3
  rw [← ev3] at hB
  refine lv_aload_n hx hb dX1_copyFrom_19 rfl (lv_at hl 1 rfl) ?_
  refine bk_getR0 X (srcK plBr hB hu hab) kl_X1 0 lc_Br_0 2 (by decide) rfl wm_104 dX1_copyFrom_20 ?_
  refine lv_aload_n hx hb dX1_copyFrom_23 rfl (lv_at hl 0 rfl) ?_
  refine bk_getR X hB kl_X1 0 lc_Br_0 2 (by decide) rfl wm_104 dX1_copyFrom_24 ?_
  refine bk_sub (bSub_arr hB.2.2.1 (by decide) lc_Br_2) hB (fun h1 h2 h3 => bk_runSN2 X (Av := [.ref (b + 2), .ref (a + 2)]) (rest := []) (mX8_copyRow (n := 6) (by decide)) ys_X8_copyRow (List.mem_of_getElem? (i := 10) rfl) ⟨Nat.le_of_ble_eq_true rfl, Nat.le_of_ble_eq_true rfl⟩ rfl rfl hl.1 (Blk.subArr wfBr (by decide) lc_Br_2 (srcK plBr hB hu hab)) (apA hab lc_Br_2 lc_Br_2) h1 h2 h3 (Nat.le_of_ble_eq_true rfl) ⟨Nat.le_of_ble_eq_true rfl, Nat.le_of_ble_eq_true rfl⟩ dX1_copyFrom_27) (fun H locs hB => ?_)
  refine W.eq (g2 := F0 m 30 ls []) rfl ?_
  obtain ⟨v4, ev4⟩ : ∃ y : bM, y = spl v3 (7) 6 (vw u (7)) := ⟨_, rfl⟩
  have hf := nm_use hf ev4
  rw [← ev4] at hB
  refine lv_aload_n hx hb dX1_copyFrom_30 rfl (lv_at hl 1 rfl) ?_
  refine bk_getR0 X (srcK plBr hB hu hab) kl_X1 0 lc_Br_0 3 (by decide) rfl wm_107 dX1_copyFrom_31 ?_
  refine lv_aload_n hx hb dX1_copyFrom_34 rfl (lv_at hl 0 rfl) ?_
  refine bk_getR X hB kl_X1 0 lc_Br_0 3 (by decide) rfl wm_107 dX1_copyFrom_35 ?_
  refine bk_sub (bSub_arr hB.2.2.1 (by decide) lc_Br_3) hB (fun h1 h2 h3 => bk_runSN2 X (Av := [.ref (b + 3), .ref (a + 3)]) (rest := []) (mX8_copyRow (n := 6) (by decide)) ys_X8_copyRow (List.mem_of_getElem? (i := 10) rfl) ⟨Nat.le_of_ble_eq_true rfl, Nat.le_of_ble_eq_true rfl⟩ rfl rfl hl.1 (Blk.subArr wfBr (by decide) lc_Br_3 (srcK plBr hB hu hab)) (apA hab lc_Br_3 lc_Br_3) h1 h2 h3 (Nat.le_of_ble_eq_true rfl) ⟨Nat.le_of_ble_eq_true rfl, Nat.le_of_ble_eq_true rfl⟩ dX1_copyFrom_38) (fun H locs hB => ?_)
  refine W.eq (g2 := F0 m 41 ls []) rfl ?_
  obtain ⟨v5, ev5⟩ : ∃ y : bM, y = spl v4 (13) 6 (vw u (13)) := ⟨_, rfl⟩
  have hf := nm_use hf ev5
  rw [← ev5] at hB
  refine lv_aload_n hx hb dX1_copyFrom_41 rfl (lv_at hl 1 rfl) ?_
  refine bk_getR0 X (srcK plBr hB hu hab) kl_X1 0 lc_Br_0 4 (by decide) rfl wm_110 dX1_copyFrom_42 ?_
  refine lv_aload_n hx hb dX1_copyFrom_45 rfl (lv_at hl 0 rfl) ?_
  refine bk_getR X hB kl_X1 0 lc_Br_0 4 (by decide) rfl wm_110 dX1_copyFrom_46 ?_
  refine bk_sub (bSub_arr hB.2.2.1 (by decide) lc_Br_4) hB (fun h1 h2 h3 => bk_runSN2 X (Av := [.ref (b + 4), .ref (a + 4)]) (rest := []) (mX8_copyRow (n := 6) (by decide)) ys_X8_copyRow (List.mem_of_getElem? (i := 10) rfl) ⟨Nat.le_of_ble_eq_true rfl, Nat.le_of_ble_eq_true rfl⟩ rfl rfl hl.1 (Blk.subArr wfBr (by decide) lc_Br_4 (srcK plBr hB hu hab)) (apA hab lc_Br_4 lc_Br_4) h1 h2 h3 (Nat.le_of_ble_eq_true rfl) ⟨Nat.le_of_ble_eq_true rfl, Nat.le_of_ble_eq_true rfl⟩ dX1_copyFrom_49) (fun H locs hB => ?_)
  refine W.eq (g2 := F0 m 52 ls []) rfl ?_
  obtain ⟨v6, ev6⟩ : ∃ y : bM, y = spl v5 (19) 6 (vw u (19)) := ⟨_, rfl⟩
  have hf := nm_use hf ev6
  rw [← ev6] at hB
  refine lv_aload_n hx hb dX1_copyFrom_52 rfl (lv_at hl 1 rfl) ?_
  refine bk_getR0 X (srcK plBr hB hu hab) kl_X1 0 lc_Br_0 5 (by decide) rfl wm_111 dX1_copyFrom_53 ?_
  refine lv_aload_n hx hb dX1_copyFrom_56 rfl (lv_at hl 0 rfl) ?_
  refine bk_getR X hB kl_X1 0 lc_Br_0 5 (by decide) rfl wm_111 dX1_copyFrom_57 ?_
  refine bk_sub (bSub_arr hB.2.2.1 (by decide) lc_Br_5) hB (fun h1 h2 h3 => bk_runSN2 X (Av := [.ref (b + 5), .ref (a + 5)]) (rest := []) (mX8_copyRow (n := 6) (by decide)) ys_X8_copyRow (List.mem_of_getElem? (i := 10) rfl) ⟨Nat.le_of_ble_eq_true rfl, Nat.le_of_ble_eq_true rfl⟩ rfl rfl hl.1 (Blk.subArr wfBr (by decide) lc_Br_5 (srcK plBr hB hu hab)) (apA hab lc_Br_5 lc_Br_5) h1 h2 h3 (Nat.le_of_ble_eq_true rfl) ⟨Nat.le_of_ble_eq_true rfl, Nat.le_of_ble_eq_true rfl⟩ dX1_copyFrom_60) (fun H locs hB => ?_)
  refine W.eq (g2 := F0 m 63 ls []) rfl ?_
  obtain ⟨v7, ev7⟩ : ∃ y : bM, y = spl v6 (25) 6 (vw u (25)) := ⟨_, rfl⟩
  have hf := nm_use hf ev7
  rw [← ev7] at hB
  refine lv_aload_n hx hb dX1_copyFrom_63 rfl (lv_at hl 1 rfl) ?_
  refine bk_getR0 X (srcK plBr hB hu hab) kl_X1 0 lc_Br_0 6 (by decide) rfl wm_114 dX1_copyFrom_64 ?_
  refine lv_aload_n hx hb dX1_copyFrom_67 rfl (lv_at hl 0 rfl) ?_
  refine bk_getR X hB kl_X1 0 lc_Br_0 6 (by decide) rfl wm_114 dX1_copyFrom_68 ?_
  refine bk_sub (bSub_arr hB.2.2.1 (by decide) lc_Br_6) hB (fun h1 h2 h3 => bk_runSN2 X (Av := [.ref (b + 6), .ref (a + 6)]) (rest := []) (mX8_copyRow (n := 6) (by decide)) ys_X8_copyRow (List.mem_of_getElem? (i := 10) rfl) ⟨Nat.le_of_ble_eq_true rfl, Nat.le_of_ble_eq_true rfl⟩ rfl rfl hl.1 (Blk.subArr wfBr (by decide) lc_Br_6 (srcK plBr hB hu hab)) (apA hab lc_Br_6 lc_Br_6) h1 h2 h3 (Nat.le_of_ble_eq_true rfl) ⟨Nat.le_of_ble_eq_true rfl, Nat.le_of_ble_eq_true rfl⟩ dX1_copyFrom_71) (fun H locs hB => ?_)
  refine W.eq (g2 := F0 m 74 ls []) rfl ?_
  obtain ⟨v8, ev8⟩ : ∃ y : bM, y = spl v7 (31) 6 (vw u (31)) := ⟨_, rfl⟩
  have hf := nm_use hf ev8
  rw [← ev8] at hB
  refine lv_iconst (v := 0) hx hb dX1_copyFrom_74 (by decide) ?_
  refine lv_istore_n (lv' := [(2, .int 0), (0, .ref a), (1, .ref b)]) hx hb dX1_copyFrom_75 rfl hl (by decide) rfl (fun ls hl => ?_)
  have hL76 : ∀ (n76 : Nat) (y9 : Int32) (v10 : bM) (H : Heap) (locs : List Loc) (ls : Array Slot), lp (fX1_copyFrom_L76 u) (fun _ _ => none) n76 y9 v10 = some w0 → bB D E LBr a v10 s H locs → lv_has ls 3 [(0, .ref a), (1, .ref b), (2, .int y9)] → W p l e (rmOf 2 0 0) s m args below meth c H locs 0 0 (bQ below D E LBr a w0 none args s 0 0) (F0 m 76 ls []) := by
    intro n76
    induction n76 with
    | zero => intro y9 v10 H locs ls hf; cases (show (none : Option bM) = some w0 from hf)
    | succ n76 ih76 =>
      intro y9 v10 H locs ls hf hB hl
      have hf := (fX1_copyFrom_L76.eq_1 u (lp (fX1_copyFrom_L76 u) (fun _ _ => none) n76) y9 v10).symm.trans (show fX1_copyFrom_L76 u (lp (fX1_copyFrom_L76 u) (fun _ _ => none) n76) y9 v10 = some w0 from hf)
      refine lv_iload_n hx hb dX1_copyFrom_76 rfl (lv_at hl 2 rfl) ?_
      refine lv_bipush (v := 6) hx hb dX1_copyFrom_77 (by decide) ?_
      refine lv_icmp_ge (tgt := 103) hx hb dX1_copyFrom_79 (by decide) (fun c11 => ?_) (fun c11 => ?_)
      · have hf := (if_pos c11).symm.trans hf
        exact bk_vW X hr rfl hf hB (Nat.le_of_ble_eq_true rfl) (Nat.le_of_ble_eq_true rfl) dX1_copyFrom_103
      · have hf := (if_neg c11).symm.trans hf
        refine lv_aload_n hx hb dX1_copyFrom_82 rfl (lv_at hl 1 rfl) ?_
        refine bk_getR0 X (srcK plBr hB hu hab) kl_X1 0 lc_Br_0 7 (by decide) rfl wm_116 dX1_copyFrom_83 ?_
        refine lv_iload_n hx hb dX1_copyFrom_86 rfl (lv_at hl 2 rfl) ?_
        obtain ⟨h12, hf⟩ := ck_some hf
        refine bk_rld0 X (srcK plBr hB hu hab) 7 lc_Br_7 h12 dX1_copyFrom_87 ?_
        refine lv_aload_n hx hb dX1_copyFrom_88 rfl (lv_at hl 0 rfl) ?_
        refine bk_getR X hB kl_X1 0 lc_Br_0 7 (by decide) rfl wm_116 dX1_copyFrom_89 ?_
        refine lv_iload_n hx hb dX1_copyFrom_92 rfl (lv_at hl 2 rfl) ?_
        obtain ⟨h13, hf⟩ := ck_some hf
        refine bk_rld X hB 7 lc_Br_7 h13 dX1_copyFrom_93 ?_
        refine bk_sub (bSub_arr hB.2.2.1 (by decide) (lr_Br_7 _ (vp_lt h13))) hB (fun h1 h2 h3 => bk_runSN2 X (Av := [.ref (b + (8 + 1 * y9.toNatClampNeg)), .ref (a + (8 + 1 * y9.toNatClampNeg))]) (rest := []) (mX8_copyRow (n := 6) (by decide)) ys_X8_copyRow (List.mem_of_getElem? (i := 10) rfl) ⟨Nat.le_of_ble_eq_true rfl, Nat.le_of_ble_eq_true rfl⟩ rfl rfl hl.1 (Blk.subArr wfBr (by decide) (lr_Br_7 _ (vp_lt h12)) (srcK plBr hB hu hab)) (apA hab (lr_Br_7 _ (vp_lt h13)) (lr_Br_7 _ (vp_lt h12))) h1 h2 h3 (Nat.le_of_ble_eq_true rfl) ⟨Nat.le_of_ble_eq_true rfl, Nat.le_of_ble_eq_true rfl⟩ dX1_copyFrom_94) (fun H locs hB => ?_)
        refine W.eq (g2 := F0 m 97 ls []) rfl ?_
        obtain ⟨v14, ev14⟩ : ∃ y : bM, y = spl v10 (37 + 6 * y9.toNatClampNeg) 6 (vw u (37 + 6 * y9.toNatClampNeg)) := ⟨_, rfl⟩
        have hf := nm_use hf ev14
        rw [← ev14] at hB
        obtain ⟨x15, ex15⟩ : ∃ y : Int32, y = y9 + 1 := ⟨_, rfl⟩
        have hf := nm_use hf ex15
        refine lv_iinc (v := x15) (lv' := [(2, .int x15), (0, .ref a), (1, .ref b)]) hx hb dX1_copyFrom_97 hl (k := 2) rfl (by rw [ex15]; rfl) (by decide) rfl (fun ls hl => ?_)
        refine lv_goto (tgt := 76) hx hb dX1_copyFrom_100 (by decide) ?_
        exact ih76 x15 v14 H locs ls hf hB (lv_sub hl [1, 2, 0] rfl)
  exact hL76 lpN 0 v8 H locs ls hf hB (lv_sub hl [1, 2, 0] rfl)
theorem yv_X1_copyFrom : bYv yX1_copyFrom RX1 cX1_copyFrom 3 none 1 := ⟨⟨rfl, by decide, by decide, rfl⟩, wm_719, wm_720, wm_4, wm_721⟩

theorem dX1_create_0 : decode cX1_create 0 = .ok (.aload_n 0, 1) := by decide +kernel
theorem dX1_create_1 : decode cX1_create 1 = .ok (.getfield 35, 3) := by decide +kernel
theorem dX1_create_4 : decode cX1_create 4 = .ok (.istore 4, 2) := by decide +kernel
theorem dX1_create_6 : decode cX1_create 6 = .ok (.aload_n 0, 1) := by decide +kernel
theorem dX1_create_7 : decode cX1_create 7 = .ok (.getfield 9, 3) := by decide +kernel
theorem dX1_create_10 : decode cX1_create 10 = .ok (.iload 4, 2) := by decide +kernel
theorem dX1_create_12 : decode cX1_create 12 = .ok (.iload_n 1, 1) := by decide +kernel
theorem dX1_create_13 : decode cX1_create 13 = .ok (.iastore, 1) := by decide +kernel
theorem dX1_create_14 : decode cX1_create 14 = .ok (.aload_n 0, 1) := by decide +kernel
theorem dX1_create_15 : decode cX1_create 15 = .ok (.getfield 15, 3) := by decide +kernel
theorem dX1_create_18 : decode cX1_create 18 = .ok (.iload 4, 2) := by decide +kernel
theorem dX1_create_20 : decode cX1_create 20 = .ok (.iload_n 2, 1) := by decide +kernel
theorem dX1_create_21 : decode cX1_create 21 = .ok (.iastore, 1) := by decide +kernel
theorem dX1_create_22 : decode cX1_create 22 = .ok (.aload_n 0, 1) := by decide +kernel
theorem dX1_create_23 : decode cX1_create 23 = .ok (.getfield 24, 3) := by decide +kernel
theorem dX1_create_26 : decode cX1_create 26 = .ok (.iload 4, 2) := by decide +kernel
theorem dX1_create_28 : decode cX1_create 28 = .ok (.iconst 0, 1) := by decide +kernel
theorem dX1_create_29 : decode cX1_create 29 = .ok (.iastore, 1) := by decide +kernel
theorem dX1_create_30 : decode cX1_create 30 = .ok (.aload_n 0, 1) := by decide +kernel
theorem dX1_create_31 : decode cX1_create 31 = .ok (.getfield 27, 3) := by decide +kernel
theorem dX1_create_34 : decode cX1_create 34 = .ok (.iload 4, 2) := by decide +kernel
theorem dX1_create_36 : decode cX1_create 36 = .ok (.iconst 0, 1) := by decide +kernel
theorem dX1_create_37 : decode cX1_create 37 = .ok (.iastore, 1) := by decide +kernel
theorem dX1_create_38 : decode cX1_create 38 = .ok (.aload_n 0, 1) := by decide +kernel
theorem dX1_create_39 : decode cX1_create 39 = .ok (.getfield 21, 3) := by decide +kernel
theorem dX1_create_42 : decode cX1_create 42 = .ok (.iload 4, 2) := by decide +kernel
theorem dX1_create_44 : decode cX1_create 44 = .ok (.iconst (-1), 1) := by decide +kernel
theorem dX1_create_45 : decode cX1_create 45 = .ok (.iastore, 1) := by decide +kernel
theorem dX1_create_46 : decode cX1_create 46 = .ok (.iload_n 3, 1) := by decide +kernel
theorem dX1_create_47 : decode cX1_create 47 = .ok (.istore 5, 2) := by decide +kernel
theorem dX1_create_49 : decode cX1_create 49 = .ok (.iconst 0, 1) := by decide +kernel
theorem dX1_create_50 : decode cX1_create 50 = .ok (.istore 6, 2) := by decide +kernel
theorem dX1_create_52 : decode cX1_create 52 = .ok (.iload 6, 2) := by decide +kernel
theorem dX1_create_54 : decode cX1_create 54 = .ok (.bipush 6, 2) := by decide +kernel
theorem dX1_create_56 : decode cX1_create 56 = .ok (.if_icmp .ge 64, 3) := by decide +kernel
theorem dX1_create_59 : decode cX1_create 59 = .ok (.aload_n 0, 1) := by decide +kernel
theorem dX1_create_60 : decode cX1_create 60 = .ok (.getfield 32, 3) := by decide +kernel
theorem dX1_create_63 : decode cX1_create 63 = .ok (.iload 4, 2) := by decide +kernel
theorem dX1_create_65 : decode cX1_create 65 = .ok (.aaload, 1) := by decide +kernel
theorem dX1_create_66 : decode cX1_create 66 = .ok (.iload 6, 2) := by decide +kernel
theorem dX1_create_68 : decode cX1_create 68 = .ok (.iload 5, 2) := by decide +kernel
theorem dX1_create_70 : decode cX1_create 70 = .ok (.bipush 10, 2) := by decide +kernel
theorem dX1_create_72 : decode cX1_create 72 = .ok (.irem, 1) := by decide +kernel
theorem dX1_create_73 : decode cX1_create 73 = .ok (.iastore, 1) := by decide +kernel
theorem dX1_create_74 : decode cX1_create 74 = .ok (.iload 5, 2) := by decide +kernel
theorem dX1_create_76 : decode cX1_create 76 = .ok (.bipush 10, 2) := by decide +kernel
theorem dX1_create_78 : decode cX1_create 78 = .ok (.idiv, 1) := by decide +kernel
theorem dX1_create_79 : decode cX1_create 79 = .ok (.istore 5, 2) := by decide +kernel
theorem dX1_create_81 : decode cX1_create 81 = .ok (.aload_n 0, 1) := by decide +kernel
theorem dX1_create_82 : decode cX1_create 82 = .ok (.getfield 21, 3) := by decide +kernel
theorem dX1_create_85 : decode cX1_create 85 = .ok (.iload 4, 2) := by decide +kernel
theorem dX1_create_87 : decode cX1_create 87 = .ok (.iaload, 1) := by decide +kernel
theorem dX1_create_88 : decode cX1_create 88 = .ok (.iconst (-1), 1) := by decide +kernel
theorem dX1_create_89 : decode cX1_create 89 = .ok (.if_icmp .ne 25, 3) := by decide +kernel
theorem dX1_create_92 : decode cX1_create 92 = .ok (.aload_n 0, 1) := by decide +kernel
theorem dX1_create_93 : decode cX1_create 93 = .ok (.getfield 32, 3) := by decide +kernel
theorem dX1_create_96 : decode cX1_create 96 = .ok (.iload 4, 2) := by decide +kernel
theorem dX1_create_98 : decode cX1_create 98 = .ok (.aaload, 1) := by decide +kernel
theorem dX1_create_99 : decode cX1_create 99 = .ok (.iload 6, 2) := by decide +kernel
theorem dX1_create_101 : decode cX1_create 101 = .ok (.iaload, 1) := by decide +kernel
theorem dX1_create_102 : decode cX1_create 102 = .ok (.ifCond .le 12, 3) := by decide +kernel
theorem dX1_create_105 : decode cX1_create 105 = .ok (.aload_n 0, 1) := by decide +kernel
theorem dX1_create_106 : decode cX1_create 106 = .ok (.getfield 21, 3) := by decide +kernel
theorem dX1_create_109 : decode cX1_create 109 = .ok (.iload 4, 2) := by decide +kernel
theorem dX1_create_111 : decode cX1_create 111 = .ok (.iload 6, 2) := by decide +kernel
theorem dX1_create_113 : decode cX1_create 113 = .ok (.iastore, 1) := by decide +kernel
theorem dX1_create_114 : decode cX1_create 114 = .ok (.iinc 6 1, 3) := by decide +kernel
theorem dX1_create_117 : decode cX1_create 117 = .ok (.goto (-65), 3) := by decide +kernel
theorem dX1_create_120 : decode cX1_create 120 = .ok (.aload_n 0, 1) := by decide +kernel
theorem dX1_create_121 : decode cX1_create 121 = .ok (.dup, 1) := by decide +kernel
theorem dX1_create_122 : decode cX1_create 122 = .ok (.getfield 35, 3) := by decide +kernel
theorem dX1_create_125 : decode cX1_create 125 = .ok (.iconst 1, 1) := by decide +kernel
theorem dX1_create_126 : decode cX1_create 126 = .ok (.iadd, 1) := by decide +kernel
theorem dX1_create_127 : decode cX1_create 127 = .ok (.putfield 35, 3) := by decide +kernel
theorem dX1_create_130 : decode cX1_create 130 = .ok (.iload 4, 2) := by decide +kernel
theorem dX1_create_132 : decode cX1_create 132 = .ok (.ireturn, 1) := by decide +kernel
def fX1_create_J114 (y13 : Int32) (k52 : Int32 → Int32 → bM → Option (Int32 × bM)) (x22 : Int32)  (v24 : bM) : Option (Int32 × bM) :=
  nm (y13 + 1) fun x25 => k52 x22 x25 v24
def fX1_create_L52 (x1 : Int32) (k52 : Int32 → Int32 → bM → Option (Int32 × bM)) (y12 : Int32) (y13 : Int32) (v14 : bM) : Option (Int32 × bM) :=
  (if 6 ≤ y13 then (nm ((v14 0) + 1) fun x16 => nm (upd v14 0 x16) fun v17 => some (x1, v17)) else (ck x1 6 <| nm (y12 - y12 / 10 * 10) fun x19 => ck y13 6 <| nm (upd v14 (37 + 6 * x1.toNatClampNeg + y13.toNatClampNeg) x19) fun v21 => nm (y12 / 10) fun x22 => ck x1 6 <| (if (v21 (19 + x1.toNatClampNeg)) = (-1) then (ck x1 6 <| ck y13 6 <| (if (v21 (37 + 6 * x1.toNatClampNeg + y13.toNatClampNeg)) ≤ 0 then (fX1_create_J114 y13 k52 x22 v21) else (ck x1 6 <| nm (upd v21 (19 + x1.toNatClampNeg) y13) fun v31 => fX1_create_J114 y13 k52 x22 v31))) else (fX1_create_J114 y13 k52 x22 v21))))
def fX1_create (p1 : Int32) (p2 : Int32) (p3 : Int32) (v : bM) : Option (Int32 × bM) :=
  nm (v 0) fun x1 => ck x1 6 <| nm (upd v (1 + x1.toNatClampNeg) p1) fun v3 => ck x1 6 <| nm (upd v3 (7 + x1.toNatClampNeg) p2) fun v5 => ck x1 6 <| nm (upd v5 (25 + x1.toNatClampNeg) 0) fun v7 => ck x1 6 <| nm (upd v7 (31 + x1.toNatClampNeg) 0) fun v9 => ck x1 6 <| nm (upd v9 (19 + x1.toNatClampNeg) (-1)) fun v11 => lp (fX1_create_L52 x1) (fun _ _ _ => none) lpN p3 0 v11
set_option maxRecDepth 100000 in
set_option maxHeartbeats 4000000 in
theorem mX1_create {l : Launch} {p1 : Int32} {p2 : Int32} {p3 : Int32} {v : bM} {r0 : Int32} {w0 : bM} (hf : fX1_create p1 p2 p3 v = some (r0, w0)) : bMet l yX1_create cX1_create 7 (some .int) 0 0 0 LBr (fun E a => [.ref a, .int p1, .int p2, .int p3]) v w0 (fun _ => some (.int r0)) := by
  refine bk_start (by decide +kernel) wfBr (fun _ _ => Nat.le_of_ble_eq_true rfl) ?_
  intro p e s m args below meth c D E a ls H locs X hr hl hB
  have hx := X.1
  have hb := X.2.1
  have hown := X.2.2.2.1
  have hts := X.2.2.2.2.1
  have hl : lv_has ls 7 [(0, .ref a), (1, .int p1), (2, .int p2), (3, .int p3)] := hl
  have hf := (fX1_create.eq_1 p1 p2 p3 v).symm.trans hf
  refine lv_aload_n hx hb dX1_create_0 rfl (lv_at hl 0 rfl) ?_
  refine bk_getI X hB kl_X1 0 lc_Br_0 0 (by decide) rfl wm_97 dX1_create_1 ?_
  refine lv_topi (fun x1 ex1 => ?_)
  have hf := nm_use hf ex1
  refine lv_istore (lv' := [(4, .int x1), (0, .ref a), (1, .int p1), (2, .int p2), (3, .int p3)]) hx hb dX1_create_4 hl (by decide) rfl (fun ls hl => ?_)
  refine lv_aload_n hx hb dX1_create_6 rfl (lv_at hl 1 rfl) ?_
  refine bk_getR X hB kl_X1 0 lc_Br_0 1 (by decide) rfl wm_101 dX1_create_7 ?_
  refine lv_iload hx hb dX1_create_10 (lv_at hl 0 rfl) ?_
  refine lv_iload_n hx hb dX1_create_12 rfl (lv_at hl 2 rfl) ?_
  obtain ⟨h2, hf⟩ := ck_some hf
  refine bk_ast X hB 1 lc_Br_1 h2 dX1_create_13 (fun H locs hB => ?_)
  obtain ⟨v3, ev3⟩ : ∃ y : bM, y = upd v (1 + x1.toNatClampNeg) p1 := ⟨_, rfl⟩
  have hf := nm_use hf ev3
  rw [← ev3] at hB
  refine lv_aload_n hx hb dX1_create_14 rfl (lv_at hl 1 rfl) ?_
  refine bk_getR X hB kl_X1 0 lc_Br_0 2 (by decide) rfl wm_104 dX1_create_15 ?_
  refine lv_iload hx hb dX1_create_18 (lv_at hl 0 rfl) ?_
  refine lv_iload_n hx hb dX1_create_20 rfl (lv_at hl 3 rfl) ?_
  obtain ⟨h4, hf⟩ := ck_some hf
  refine bk_ast X hB 2 lc_Br_2 h4 dX1_create_21 (fun H locs hB => ?_)
  obtain ⟨v5, ev5⟩ : ∃ y : bM, y = upd v3 (7 + x1.toNatClampNeg) p2 := ⟨_, rfl⟩
  have hf := nm_use hf ev5
  rw [← ev5] at hB
  refine lv_aload_n hx hb dX1_create_22 rfl (lv_at hl 1 rfl) ?_
  refine bk_getR X hB kl_X1 0 lc_Br_0 5 (by decide) rfl wm_111 dX1_create_23 ?_
  refine lv_iload hx hb dX1_create_26 (lv_at hl 0 rfl) ?_
  refine lv_iconst (v := 0) hx hb dX1_create_28 (by decide) ?_
  obtain ⟨h6, hf⟩ := ck_some hf
  refine bk_ast X hB 5 lc_Br_5 h6 dX1_create_29 (fun H locs hB => ?_)
  obtain ⟨v7, ev7⟩ : ∃ y : bM, y = upd v5 (25 + x1.toNatClampNeg) 0 := ⟨_, rfl⟩
  have hf := nm_use hf ev7
  rw [← ev7] at hB
  refine lv_aload_n hx hb dX1_create_30 rfl (lv_at hl 1 rfl) ?_
  refine bk_getR X hB kl_X1 0 lc_Br_0 6 (by decide) rfl wm_114 dX1_create_31 ?_
  refine lv_iload hx hb dX1_create_34 (lv_at hl 0 rfl) ?_
  refine lv_iconst (v := 0) hx hb dX1_create_36 (by decide) ?_
  obtain ⟨h8, hf⟩ := ck_some hf
  refine bk_ast X hB 6 lc_Br_6 h8 dX1_create_37 (fun H locs hB => ?_)
  obtain ⟨v9, ev9⟩ : ∃ y : bM, y = upd v7 (31 + x1.toNatClampNeg) 0 := ⟨_, rfl⟩
  have hf := nm_use hf ev9
  rw [← ev9] at hB
  refine lv_aload_n hx hb dX1_create_38 rfl (lv_at hl 1 rfl) ?_
  refine bk_getR X hB kl_X1 0 lc_Br_0 4 (by decide) rfl wm_110 dX1_create_39 ?_
  refine lv_iload hx hb dX1_create_42 (lv_at hl 0 rfl) ?_
  refine lv_iconst (v := (-1)) hx hb dX1_create_44 (by decide) ?_
  obtain ⟨h10, hf⟩ := ck_some hf
  refine bk_ast X hB 4 lc_Br_4 h10 dX1_create_45 (fun H locs hB => ?_)
  obtain ⟨v11, ev11⟩ : ∃ y : bM, y = upd v9 (19 + x1.toNatClampNeg) (-1) := ⟨_, rfl⟩
  have hf := nm_use hf ev11
  rw [← ev11] at hB
  refine lv_iload_n hx hb dX1_create_46 rfl (lv_at hl 4 rfl) ?_
  refine lv_istore (lv' := [(5, .int p3), (4, .int x1), (0, .ref a), (1, .int p1), (2, .int p2), (3, .int p3)]) hx hb dX1_create_47 hl (by decide) rfl (fun ls hl => ?_)
  refine lv_iconst (v := 0) hx hb dX1_create_49 (by decide) ?_
  refine lv_istore (lv' := [(6, .int 0), (5, .int p3), (4, .int x1), (0, .ref a), (1, .int p1), (2, .int p2), (3, .int p3)]) hx hb dX1_create_50 hl (by decide) rfl (fun ls hl => ?_)
  have hL52 : ∀ (n52 : Nat) (y12 y13 : Int32) (v14 : bM) (H : Heap) (locs : List Loc) (ls : Array Slot), lp (fX1_create_L52 x1) (fun _ _ _ => none) n52 y12 y13 v14 = some (r0, w0) → bB D E LBr a v14 s H locs → lv_has ls 7 [(0, .ref a), (4, .int x1), (5, .int y12), (6, .int y13)] → W p l e (rmOf 0 0 0) s m args below meth c H locs 0 0 (bQ below D E LBr a w0 (some (.int r0)) args s 0 0) (F0 m 52 ls []) := by
    intro n52
    induction n52 with
    | zero => intro y12 y13 v14 H locs ls hf; cases (show (none : Option (Int32 × bM)) = some (r0, w0) from hf)
    | succ n52 ih52 =>
      intro y12 y13 v14 H locs ls hf hB hl
      have hf := (fX1_create_L52.eq_1 x1 (lp (fX1_create_L52 x1) (fun _ _ _ => none) n52) y12 y13 v14).symm.trans (show fX1_create_L52 x1 (lp (fX1_create_L52 x1) (fun _ _ _ => none) n52) y12 y13 v14 = some (r0, w0) from hf)
      refine lv_iload hx hb dX1_create_52 (lv_at hl 3 rfl) ?_
      refine lv_bipush (v := 6) hx hb dX1_create_54 (by decide) ?_
      refine lv_icmp_ge (tgt := 120) hx hb dX1_create_56 (by decide) (fun c15 => ?_) (fun c15 => ?_)
      · have hf := (if_pos c15).symm.trans hf
        refine lv_aload_n hx hb dX1_create_120 rfl (lv_at hl 0 rfl) ?_
        refine lv_dup hx hb dX1_create_121 rfl ?_
        refine bk_getI X hB kl_X1 0 lc_Br_0 0 (by decide) rfl wm_97 dX1_create_122 ?_
        refine lv_iconst (v := 1) hx hb dX1_create_125 (by decide) ?_
        refine lv_iadd hx hb dX1_create_126 ?_
        refine lv_topi (fun x16 ex16 => ?_)
        have hf := nm_use hf ex16
        refine bk_putI X hB kl_X1 0 lc_Br_0 0 (by decide) rfl rfl rfl wm_97 dX1_create_127 rfl (fun H locs hB => ?_)
        obtain ⟨v17, ev17⟩ : ∃ y : bM, y = upd v14 0 x16 := ⟨_, rfl⟩
        have hf := nm_use hf ev17
        rw [← ev17] at hB
        refine lv_iload hx hb dX1_create_130 (lv_at hl 1 rfl) ?_
        exact bk_iW X hr rfl hf hB (Nat.le_of_ble_eq_true rfl) (Nat.le_of_ble_eq_true rfl) dX1_create_132
      · have hf := (if_neg c15).symm.trans hf
        refine lv_aload_n hx hb dX1_create_59 rfl (lv_at hl 0 rfl) ?_
        refine bk_getR X hB kl_X1 0 lc_Br_0 7 (by decide) rfl wm_116 dX1_create_60 ?_
        refine lv_iload hx hb dX1_create_63 (lv_at hl 1 rfl) ?_
        obtain ⟨h18, hf⟩ := ck_some hf
        refine bk_rld X hB 7 lc_Br_7 h18 dX1_create_65 ?_
        refine lv_iload hx hb dX1_create_66 (lv_at hl 3 rfl) ?_
        refine lv_iload hx hb dX1_create_68 (lv_at hl 2 rfl) ?_
        refine lv_bipush (v := 10) hx hb dX1_create_70 (by decide) ?_
        refine lv_irem hx hb dX1_create_72 (by decide) ?_
        refine lv_topi (fun x19 ex19 => ?_)
        have hf := nm_use hf ex19
        obtain ⟨h20, hf⟩ := ck_some hf
        refine bk_ast X hB (8 + 1 * x1.toNatClampNeg) (lr_Br_7 _ (vp_lt h18)) h20 dX1_create_73 (fun H locs hB => ?_)
        obtain ⟨v21, ev21⟩ : ∃ y : bM, y = upd v14 (37 + 6 * x1.toNatClampNeg + y13.toNatClampNeg) x19 := ⟨_, rfl⟩
        have hf := nm_use hf ev21
        rw [← ev21] at hB
        refine lv_iload hx hb dX1_create_74 (lv_at hl 2 rfl) ?_
        refine lv_bipush (v := 10) hx hb dX1_create_76 (by decide) ?_
        refine lv_idiv hx hb dX1_create_78 (by decide) ?_
        refine lv_topi (fun x22 ex22 => ?_)
        have hf := nm_use hf ex22
        refine lv_istore (lv' := [(5, .int x22), (0, .ref a), (4, .int x1), (6, .int y13)]) hx hb dX1_create_79 hl (by decide) rfl (fun ls hl => ?_)
        refine lv_aload_n hx hb dX1_create_81 rfl (lv_at hl 1 rfl) ?_
        refine bk_getR X hB kl_X1 0 lc_Br_0 4 (by decide) rfl wm_110 dX1_create_82 ?_
        refine lv_iload hx hb dX1_create_85 (lv_at hl 2 rfl) ?_
        obtain ⟨h23, hf⟩ := ck_some hf
        refine bk_ald X hB 4 lc_Br_4 h23 dX1_create_87 ?_
        refine lv_iconst (v := (-1)) hx hb dX1_create_88 (by decide) ?_
        have hJ114 : ∀ (v24 : bM) (H : Heap) (locs : List Loc) (ls : Array Slot), fX1_create_J114 y13 (lp (fX1_create_L52 x1) (fun _ _ _ => none) n52) x22 v24 = some (r0, w0) → bB D E LBr a v24 s H locs → lv_has ls 7 [(0, .ref a), (4, .int x1), (5, .int x22), (6, .int y13)] → W p l e (rmOf 0 0 0) s m args below meth c H locs 0 0 (bQ below D E LBr a w0 (some (.int r0)) args s 0 0) (F0 m 114 ls []) := by
          intro v24 H locs ls hf hB hl
          have hf := (fX1_create_J114.eq_1 y13 (lp (fX1_create_L52 x1) (fun _ _ _ => none) n52) x22 v24).symm.trans hf
          obtain ⟨x25, ex25⟩ : ∃ y : Int32, y = y13 + 1 := ⟨_, rfl⟩
          have hf := nm_use hf ex25
          refine lv_iinc (v := x25) (lv' := [(6, .int x25), (0, .ref a), (4, .int x1), (5, .int x22)]) hx hb dX1_create_114 hl (k := 3) rfl (by rw [ex25]; rfl) (by decide) rfl (fun ls hl => ?_)
          refine lv_goto (tgt := 52) hx hb dX1_create_117 (by decide) ?_
          exact ih52 x22 x25 v24 H locs ls hf hB (lv_sub hl [1, 2, 3, 0] rfl)
        refine lv_icmp_ne (tgt := 114) hx hb dX1_create_89 (by decide) (fun c26 => ?_) (fun c26 => ?_)
        · have hf := (if_neg c26).symm.trans hf
          exact hJ114 v21 H locs ls hf hB (lv_sub hl [1, 2, 0, 3] rfl)
        · have hf := (if_pos c26).symm.trans hf
          refine lv_aload_n hx hb dX1_create_92 rfl (lv_at hl 1 rfl) ?_
          refine bk_getR X hB kl_X1 0 lc_Br_0 7 (by decide) rfl wm_116 dX1_create_93 ?_
          refine lv_iload hx hb dX1_create_96 (lv_at hl 2 rfl) ?_
          obtain ⟨h27, hf⟩ := ck_some hf
          refine bk_rld X hB 7 lc_Br_7 h27 dX1_create_98 ?_
          refine lv_iload hx hb dX1_create_99 (lv_at hl 3 rfl) ?_
          obtain ⟨h28, hf⟩ := ck_some hf
          refine bk_ald X hB (8 + 1 * x1.toNatClampNeg) (lr_Br_7 _ (vp_lt h27)) h28 dX1_create_101 ?_
          refine lv_if_le (tgt := 114) hx hb dX1_create_102 (by decide) (fun c29 => ?_) (fun c29 => ?_)
          · have hf := (if_pos c29).symm.trans hf
            exact hJ114 v21 H locs ls hf hB (lv_sub hl [1, 2, 0, 3] rfl)
          · have hf := (if_neg c29).symm.trans hf
            refine lv_aload_n hx hb dX1_create_105 rfl (lv_at hl 1 rfl) ?_
            refine bk_getR X hB kl_X1 0 lc_Br_0 4 (by decide) rfl wm_110 dX1_create_106 ?_
            refine lv_iload hx hb dX1_create_109 (lv_at hl 2 rfl) ?_
            refine lv_iload hx hb dX1_create_111 (lv_at hl 3 rfl) ?_
            obtain ⟨h30, hf⟩ := ck_some hf
            refine bk_ast X hB 4 lc_Br_4 h30 dX1_create_113 (fun H locs hB => ?_)
            obtain ⟨v31, ev31⟩ : ∃ y : bM, y = upd v21 (19 + x1.toNatClampNeg) y13 := ⟨_, rfl⟩
            have hf := nm_use hf ev31
            rw [← ev31] at hB
            exact hJ114 v31 H locs ls hf hB (lv_sub hl [1, 2, 0, 3] rfl)
  exact hL52 lpN p3 0 v11 H locs ls hf hB (lv_sub hl [3, 2, 1, 0] rfl)
theorem yv_X1_create : bYv yX1_create RX1 cX1_create 7 (some .int) 3 := ⟨⟨rfl, by decide, by decide, rfl⟩, wm_572, wm_573, wm_4, wm_574⟩

theorem dX1_unitsFor_0 : decode cX1_unitsFor 0 = .ok (.aload_n 0, 1) := by decide +kernel
theorem dX1_unitsFor_1 : decode cX1_unitsFor 1 = .ok (.getfield 32, 3) := by decide +kernel
theorem dX1_unitsFor_4 : decode cX1_unitsFor 4 = .ok (.iload_n 1, 1) := by decide +kernel
theorem dX1_unitsFor_5 : decode cX1_unitsFor 5 = .ok (.aaload, 1) := by decide +kernel
theorem dX1_unitsFor_6 : decode cX1_unitsFor 6 = .ok (.iload_n 2, 1) := by decide +kernel
theorem dX1_unitsFor_7 : decode cX1_unitsFor 7 = .ok (.iaload, 1) := by decide +kernel
theorem dX1_unitsFor_8 : decode cX1_unitsFor 8 = .ok (.iload_n 3, 1) := by decide +kernel
theorem dX1_unitsFor_9 : decode cX1_unitsFor 9 = .ok (.imul, 1) := by decide +kernel
theorem dX1_unitsFor_10 : decode cX1_unitsFor 10 = .ok (.istore 5, 2) := by decide +kernel
theorem dX1_unitsFor_12 : decode cX1_unitsFor 12 = .ok (.iload_n 2, 1) := by decide +kernel
theorem dX1_unitsFor_13 : decode cX1_unitsFor 13 = .ok (.aload_n 0, 1) := by decide +kernel
theorem dX1_unitsFor_14 : decode cX1_unitsFor 14 = .ok (.getfield 21, 3) := by decide +kernel
theorem dX1_unitsFor_17 : decode cX1_unitsFor 17 = .ok (.iload_n 1, 1) := by decide +kernel
theorem dX1_unitsFor_18 : decode cX1_unitsFor 18 = .ok (.iaload, 1) := by decide +kernel
theorem dX1_unitsFor_19 : decode cX1_unitsFor 19 = .ok (.if_icmp .ne 11, 3) := by decide +kernel
theorem dX1_unitsFor_22 : decode cX1_unitsFor 22 = .ok (.iload 5, 2) := by decide +kernel
theorem dX1_unitsFor_24 : decode cX1_unitsFor 24 = .ok (.iload 4, 2) := by decide +kernel
theorem dX1_unitsFor_26 : decode cX1_unitsFor 26 = .ok (.iadd, 1) := by decide +kernel
theorem dX1_unitsFor_27 : decode cX1_unitsFor 27 = .ok (.goto 5, 3) := by decide +kernel
theorem dX1_unitsFor_30 : decode cX1_unitsFor 30 = .ok (.iload 5, 2) := by decide +kernel
theorem dX1_unitsFor_32 : decode cX1_unitsFor 32 = .ok (.ireturn, 1) := by decide +kernel
def fX1_unitsFor (p1 : Int32) (p2 : Int32) (p3 : Int32) (p4 : Int32) (v : bM) : Option Int32 :=
  ck p1 6 <| ck p2 6 <| nm ((v (37 + 6 * p1.toNatClampNeg + p2.toNatClampNeg)) * p3) fun x3 => ck p1 6 <| (if p2 = (v (19 + p1.toNatClampNeg)) then (some (x3 + p4)) else (some (x3)))
set_option maxRecDepth 100000 in
set_option maxHeartbeats 4000000 in
theorem mX1_unitsFor {l : Launch} {p1 : Int32} {p2 : Int32} {p3 : Int32} {p4 : Int32} {v : bM} {r0 : Int32} (hf : fX1_unitsFor p1 p2 p3 p4 v = some r0) : bMet l yX1_unitsFor cX1_unitsFor 6 (some .int) 0 0 0 LBr (fun E a => [.ref a, .int p1, .int p2, .int p3, .int p4]) v v (fun _ => some (.int r0)) := by
  refine bk_start (by decide +kernel) wfBr (fun _ _ => Nat.le_of_ble_eq_true rfl) ?_
  intro p e s m args below meth c D E a ls H locs X hr hl hB
  have hx := X.1
  have hb := X.2.1
  have hown := X.2.2.2.1
  have hts := X.2.2.2.2.1
  have hl : lv_has ls 6 [(0, .ref a), (1, .int p1), (2, .int p2), (3, .int p3), (4, .int p4)] := hl
  have hf := (fX1_unitsFor.eq_1 p1 p2 p3 p4 v).symm.trans hf
  refine lv_aload_n hx hb dX1_unitsFor_0 rfl (lv_at hl 0 rfl) ?_
  refine bk_getR X hB kl_X1 0 lc_Br_0 7 (by decide) rfl wm_116 dX1_unitsFor_1 ?_
  refine lv_iload_n hx hb dX1_unitsFor_4 rfl (lv_at hl 1 rfl) ?_
  obtain ⟨h1, hf⟩ := ck_some hf
  refine bk_rld X hB 7 lc_Br_7 h1 dX1_unitsFor_5 ?_
  refine lv_iload_n hx hb dX1_unitsFor_6 rfl (lv_at hl 2 rfl) ?_
  obtain ⟨h2, hf⟩ := ck_some hf
  refine bk_ald X hB (8 + 1 * p1.toNatClampNeg) (lr_Br_7 _ (vp_lt h1)) h2 dX1_unitsFor_7 ?_
  refine lv_iload_n hx hb dX1_unitsFor_8 rfl (lv_at hl 3 rfl) ?_
  refine lv_imul hx hb dX1_unitsFor_9 ?_
  refine lv_topi (fun x3 ex3 => ?_)
  have hf := nm_use hf ex3
  refine lv_istore (lv' := [(5, .int x3), (0, .ref a), (1, .int p1), (2, .int p2), (3, .int p3), (4, .int p4)]) hx hb dX1_unitsFor_10 hl (by decide) rfl (fun ls hl => ?_)
  refine lv_iload_n hx hb dX1_unitsFor_12 rfl (lv_at hl 3 rfl) ?_
  refine lv_aload_n hx hb dX1_unitsFor_13 rfl (lv_at hl 1 rfl) ?_
  refine bk_getR X hB kl_X1 0 lc_Br_0 4 (by decide) rfl wm_110 dX1_unitsFor_14 ?_
  refine lv_iload_n hx hb dX1_unitsFor_17 rfl (lv_at hl 2 rfl) ?_
  obtain ⟨h4, hf⟩ := ck_some hf
  refine bk_ald X hB 4 lc_Br_4 h4 dX1_unitsFor_18 ?_
  refine lv_icmp_ne (tgt := 30) hx hb dX1_unitsFor_19 (by decide) (fun c5 => ?_) (fun c5 => ?_)
  · have hf := (if_neg c5).symm.trans hf
    refine lv_iload hx hb dX1_unitsFor_30 (lv_at hl 0 rfl) ?_
    exact bk_iR X hr rfl hf hB (Nat.le_of_ble_eq_true rfl) (Nat.le_of_ble_eq_true rfl) dX1_unitsFor_32
  · have hf := (if_pos c5).symm.trans hf
    refine lv_iload hx hb dX1_unitsFor_22 (lv_at hl 0 rfl) ?_
    refine lv_iload hx hb dX1_unitsFor_24 (lv_at hl 5 rfl) ?_
    refine lv_iadd hx hb dX1_unitsFor_26 ?_
    refine lv_goto (tgt := 32) hx hb dX1_unitsFor_27 (by decide) ?_
    exact bk_iR X hr rfl hf hB (Nat.le_of_ble_eq_true rfl) (Nat.le_of_ble_eq_true rfl) dX1_unitsFor_32
theorem yv_X1_unitsFor : bYv yX1_unitsFor RX1 cX1_unitsFor 6 (some .int) 4 := ⟨⟨rfl, by decide, by decide, rfl⟩, wm_596, wm_597, wm_4, wm_598⟩

theorem dX1_value_0 : decode cX1_value 0 = .ok (.iconst 0, 1) := by decide +kernel
theorem dX1_value_1 : decode cX1_value 1 = .ok (.istore_n 1, 1) := by decide +kernel
theorem dX1_value_2 : decode cX1_value 2 = .ok (.iconst 0, 1) := by decide +kernel
theorem dX1_value_3 : decode cX1_value 3 = .ok (.istore_n 2, 1) := by decide +kernel
theorem dX1_value_4 : decode cX1_value 4 = .ok (.iload_n 2, 1) := by decide +kernel
theorem dX1_value_5 : decode cX1_value 5 = .ok (.aload_n 0, 1) := by decide +kernel
theorem dX1_value_6 : decode cX1_value 6 = .ok (.getfield 35, 3) := by decide +kernel
theorem dX1_value_9 : decode cX1_value 9 = .ok (.if_icmp .ge 25, 3) := by decide +kernel
theorem dX1_value_12 : decode cX1_value 12 = .ok (.iload_n 1, 1) := by decide +kernel
theorem dX1_value_13 : decode cX1_value 13 = .ok (.aload_n 0, 1) := by decide +kernel
theorem dX1_value_14 : decode cX1_value 14 = .ok (.getfield 24, 3) := by decide +kernel
theorem dX1_value_17 : decode cX1_value 17 = .ok (.iload_n 2, 1) := by decide +kernel
theorem dX1_value_18 : decode cX1_value 18 = .ok (.iaload, 1) := by decide +kernel
theorem dX1_value_19 : decode cX1_value 19 = .ok (.aload_n 0, 1) := by decide +kernel
theorem dX1_value_20 : decode cX1_value 20 = .ok (.getfield 18, 3) := by decide +kernel
theorem dX1_value_23 : decode cX1_value 23 = .ok (.iload_n 2, 1) := by decide +kernel
theorem dX1_value_24 : decode cX1_value 24 = .ok (.iaload, 1) := by decide +kernel
theorem dX1_value_25 : decode cX1_value 25 = .ok (.imul, 1) := by decide +kernel
theorem dX1_value_26 : decode cX1_value 26 = .ok (.iadd, 1) := by decide +kernel
theorem dX1_value_27 : decode cX1_value 27 = .ok (.istore_n 1, 1) := by decide +kernel
theorem dX1_value_28 : decode cX1_value 28 = .ok (.iinc 2 1, 3) := by decide +kernel
theorem dX1_value_31 : decode cX1_value 31 = .ok (.goto (-27), 3) := by decide +kernel
theorem dX1_value_34 : decode cX1_value 34 = .ok (.iload_n 1, 1) := by decide +kernel
theorem dX1_value_35 : decode cX1_value 35 = .ok (.ireturn, 1) := by decide +kernel
def fX1_value_L4 (v : bM) (k4 : Int32 → Int32 → Option Int32) (y1 : Int32) (y2 : Int32) : Option Int32 :=
  (if (v 0) ≤ y2 then (some (y1)) else (ck y2 6 <| ck y2 6 <| nm (y1 + ((v (25 + y2.toNatClampNeg)) * (v (13 + y2.toNatClampNeg)))) fun x6 => nm (y2 + 1) fun x7 => k4 x6 x7))
def fX1_value  (v : bM) : Option Int32 :=
  lp (fX1_value_L4 v) (fun _ _ => none) lpN 0 0
set_option maxRecDepth 100000 in
set_option maxHeartbeats 4000000 in
theorem mX1_value {l : Launch}  {v : bM} {r0 : Int32} (hf : fX1_value  v = some r0) : bMet l yX1_value cX1_value 3 (some .int) 0 0 0 LBr (fun E a => [.ref a]) v v (fun _ => some (.int r0)) := by
  refine bk_start (by decide +kernel) wfBr (fun _ _ => Nat.le_of_ble_eq_true rfl) ?_
  intro p e s m args below meth c D E a ls H locs X hr hl hB
  have hx := X.1
  have hb := X.2.1
  have hown := X.2.2.2.1
  have hts := X.2.2.2.2.1
  have hl : lv_has ls 3 [(0, .ref a)] := hl
  have hf := (fX1_value.eq_1  v).symm.trans hf
  refine lv_iconst (v := 0) hx hb dX1_value_0 (by decide) ?_
  refine lv_istore_n (lv' := [(1, .int 0), (0, .ref a)]) hx hb dX1_value_1 rfl hl (by decide) rfl (fun ls hl => ?_)
  refine lv_iconst (v := 0) hx hb dX1_value_2 (by decide) ?_
  refine lv_istore_n (lv' := [(2, .int 0), (1, .int 0), (0, .ref a)]) hx hb dX1_value_3 rfl hl (by decide) rfl (fun ls hl => ?_)
  have hL4 : ∀ (n4 : Nat) (y1 y2 : Int32) (H : Heap) (locs : List Loc) (ls : Array Slot), lp (fX1_value_L4 v) (fun _ _ => none) n4 y1 y2 = some r0 → bB D E LBr a v s H locs → lv_has ls 3 [(0, .ref a), (1, .int y1), (2, .int y2)] → W p l e (rmOf 0 0 0) s m args below meth c H locs 0 0 (bQ below D E LBr a v (some (.int r0)) args s 0 0) (F0 m 4 ls []) := by
    intro n4
    induction n4 with
    | zero => intro y1 y2 H locs ls hf; cases (show (none : Option Int32) = some r0 from hf)
    | succ n4 ih4 =>
      intro y1 y2 H locs ls hf hB hl
      have hf := (fX1_value_L4.eq_1 v (lp (fX1_value_L4 v) (fun _ _ => none) n4) y1 y2).symm.trans (show fX1_value_L4 v (lp (fX1_value_L4 v) (fun _ _ => none) n4) y1 y2 = some r0 from hf)
      refine lv_iload_n hx hb dX1_value_4 rfl (lv_at hl 2 rfl) ?_
      refine lv_aload_n hx hb dX1_value_5 rfl (lv_at hl 0 rfl) ?_
      refine bk_getI X hB kl_X1 0 lc_Br_0 0 (by decide) rfl wm_97 dX1_value_6 ?_
      refine lv_icmp_ge (tgt := 34) hx hb dX1_value_9 (by decide) (fun c3 => ?_) (fun c3 => ?_)
      · have hf := (if_pos c3).symm.trans hf
        refine lv_iload_n hx hb dX1_value_34 rfl (lv_at hl 1 rfl) ?_
        exact bk_iR X hr rfl hf hB (Nat.le_of_ble_eq_true rfl) (Nat.le_of_ble_eq_true rfl) dX1_value_35
      · have hf := (if_neg c3).symm.trans hf
        refine lv_iload_n hx hb dX1_value_12 rfl (lv_at hl 1 rfl) ?_
        refine lv_aload_n hx hb dX1_value_13 rfl (lv_at hl 0 rfl) ?_
        refine bk_getR X hB kl_X1 0 lc_Br_0 5 (by decide) rfl wm_111 dX1_value_14 ?_
        refine lv_iload_n hx hb dX1_value_17 rfl (lv_at hl 2 rfl) ?_
        obtain ⟨h4, hf⟩ := ck_some hf
        refine bk_ald X hB 5 lc_Br_5 h4 dX1_value_18 ?_
        refine lv_aload_n hx hb dX1_value_19 rfl (lv_at hl 0 rfl) ?_
        refine bk_getR X hB kl_X1 0 lc_Br_0 3 (by decide) rfl wm_107 dX1_value_20 ?_
        refine lv_iload_n hx hb dX1_value_23 rfl (lv_at hl 2 rfl) ?_
        obtain ⟨h5, hf⟩ := ck_some hf
        refine bk_ald X hB 3 lc_Br_3 h5 dX1_value_24 ?_
        refine lv_imul hx hb dX1_value_25 ?_
        refine lv_iadd hx hb dX1_value_26 ?_
        refine lv_topi (fun x6 ex6 => ?_)
        have hf := nm_use hf ex6
        refine lv_istore_n (lv' := [(1, .int x6), (0, .ref a), (2, .int y2)]) hx hb dX1_value_27 rfl hl (by decide) rfl (fun ls hl => ?_)
        obtain ⟨x7, ex7⟩ : ∃ y : Int32, y = y2 + 1 := ⟨_, rfl⟩
        have hf := nm_use hf ex7
        refine lv_iinc (v := x7) (lv' := [(2, .int x7), (1, .int x6), (0, .ref a)]) hx hb dX1_value_28 hl (k := 2) rfl (by rw [ex7]; rfl) (by decide) rfl (fun ls hl => ?_)
        refine lv_goto (tgt := 4) hx hb dX1_value_31 (by decide) ?_
        exact ih4 x6 x7 H locs ls hf hB (lv_sub hl [2, 1, 0] rfl)
  exact hL4 lpN 0 0 H locs ls hf hB (lv_sub hl [2, 1, 0] rfl)
theorem yv_X1_value : bYv yX1_value RX1 cX1_value 3 (some .int) 0 := ⟨⟨rfl, by decide, by decide, rfl⟩, wm_846, wm_847, wm_4, wm_848⟩

theorem dX1_standardProfit_0 : decode cX1_standardProfit 0 = .ok (.iconst 0, 1) := by decide +kernel
theorem dX1_standardProfit_1 : decode cX1_standardProfit 1 = .ok (.istore_n 1, 1) := by decide +kernel
theorem dX1_standardProfit_2 : decode cX1_standardProfit 2 = .ok (.iconst 0, 1) := by decide +kernel
theorem dX1_standardProfit_3 : decode cX1_standardProfit 3 = .ok (.istore_n 2, 1) := by decide +kernel
theorem dX1_standardProfit_4 : decode cX1_standardProfit 4 = .ok (.iload_n 2, 1) := by decide +kernel
theorem dX1_standardProfit_5 : decode cX1_standardProfit 5 = .ok (.aload_n 0, 1) := by decide +kernel
theorem dX1_standardProfit_6 : decode cX1_standardProfit 6 = .ok (.getfield 35, 3) := by decide +kernel
theorem dX1_standardProfit_9 : decode cX1_standardProfit 9 = .ok (.if_icmp .ge 32, 3) := by decide +kernel
theorem dX1_standardProfit_12 : decode cX1_standardProfit 12 = .ok (.iload_n 1, 1) := by decide +kernel
theorem dX1_standardProfit_13 : decode cX1_standardProfit 13 = .ok (.aload_n 0, 1) := by decide +kernel
theorem dX1_standardProfit_14 : decode cX1_standardProfit 14 = .ok (.getfield 27, 3) := by decide +kernel
theorem dX1_standardProfit_17 : decode cX1_standardProfit 17 = .ok (.iload_n 2, 1) := by decide +kernel
theorem dX1_standardProfit_18 : decode cX1_standardProfit 18 = .ok (.iaload, 1) := by decide +kernel
theorem dX1_standardProfit_19 : decode cX1_standardProfit 19 = .ok (.aload_n 0, 1) := by decide +kernel
theorem dX1_standardProfit_20 : decode cX1_standardProfit 20 = .ok (.getfield 9, 3) := by decide +kernel
theorem dX1_standardProfit_23 : decode cX1_standardProfit 23 = .ok (.iload_n 2, 1) := by decide +kernel
theorem dX1_standardProfit_24 : decode cX1_standardProfit 24 = .ok (.iaload, 1) := by decide +kernel
theorem dX1_standardProfit_25 : decode cX1_standardProfit 25 = .ok (.aload_n 0, 1) := by decide +kernel
theorem dX1_standardProfit_26 : decode cX1_standardProfit 26 = .ok (.getfield 18, 3) := by decide +kernel
theorem dX1_standardProfit_29 : decode cX1_standardProfit 29 = .ok (.iload_n 2, 1) := by decide +kernel
theorem dX1_standardProfit_30 : decode cX1_standardProfit 30 = .ok (.iaload, 1) := by decide +kernel
theorem dX1_standardProfit_31 : decode cX1_standardProfit 31 = .ok (.isub, 1) := by decide +kernel
theorem dX1_standardProfit_32 : decode cX1_standardProfit 32 = .ok (.imul, 1) := by decide +kernel
theorem dX1_standardProfit_33 : decode cX1_standardProfit 33 = .ok (.iadd, 1) := by decide +kernel
theorem dX1_standardProfit_34 : decode cX1_standardProfit 34 = .ok (.istore_n 1, 1) := by decide +kernel
theorem dX1_standardProfit_35 : decode cX1_standardProfit 35 = .ok (.iinc 2 1, 3) := by decide +kernel
theorem dX1_standardProfit_38 : decode cX1_standardProfit 38 = .ok (.goto (-34), 3) := by decide +kernel
theorem dX1_standardProfit_41 : decode cX1_standardProfit 41 = .ok (.iload_n 1, 1) := by decide +kernel
theorem dX1_standardProfit_42 : decode cX1_standardProfit 42 = .ok (.ireturn, 1) := by decide +kernel
def fX1_standardProfit_L4 (v : bM) (k4 : Int32 → Int32 → Option Int32) (y1 : Int32) (y2 : Int32) : Option Int32 :=
  (if (v 0) ≤ y2 then (some (y1)) else (ck y2 6 <| ck y2 6 <| ck y2 6 <| nm (y1 + ((v (31 + y2.toNatClampNeg)) * ((v (1 + y2.toNatClampNeg)) - (v (13 + y2.toNatClampNeg))))) fun x7 => nm (y2 + 1) fun x8 => k4 x7 x8))
def fX1_standardProfit  (v : bM) : Option Int32 :=
  lp (fX1_standardProfit_L4 v) (fun _ _ => none) lpN 0 0
set_option maxRecDepth 100000 in
set_option maxHeartbeats 4000000 in
theorem mX1_standardProfit {l : Launch}  {v : bM} {r0 : Int32} (hf : fX1_standardProfit  v = some r0) : bMet l yX1_standardProfit cX1_standardProfit 3 (some .int) 0 0 0 LBr (fun E a => [.ref a]) v v (fun _ => some (.int r0)) := by
  refine bk_start (by decide +kernel) wfBr (fun _ _ => Nat.le_of_ble_eq_true rfl) ?_
  intro p e s m args below meth c D E a ls H locs X hr hl hB
  have hx := X.1
  have hb := X.2.1
  have hown := X.2.2.2.1
  have hts := X.2.2.2.2.1
  have hl : lv_has ls 3 [(0, .ref a)] := hl
  have hf := (fX1_standardProfit.eq_1  v).symm.trans hf
  refine lv_iconst (v := 0) hx hb dX1_standardProfit_0 (by decide) ?_
  refine lv_istore_n (lv' := [(1, .int 0), (0, .ref a)]) hx hb dX1_standardProfit_1 rfl hl (by decide) rfl (fun ls hl => ?_)
  refine lv_iconst (v := 0) hx hb dX1_standardProfit_2 (by decide) ?_
  refine lv_istore_n (lv' := [(2, .int 0), (1, .int 0), (0, .ref a)]) hx hb dX1_standardProfit_3 rfl hl (by decide) rfl (fun ls hl => ?_)
  have hL4 : ∀ (n4 : Nat) (y1 y2 : Int32) (H : Heap) (locs : List Loc) (ls : Array Slot), lp (fX1_standardProfit_L4 v) (fun _ _ => none) n4 y1 y2 = some r0 → bB D E LBr a v s H locs → lv_has ls 3 [(0, .ref a), (1, .int y1), (2, .int y2)] → W p l e (rmOf 0 0 0) s m args below meth c H locs 0 0 (bQ below D E LBr a v (some (.int r0)) args s 0 0) (F0 m 4 ls []) := by
    intro n4
    induction n4 with
    | zero => intro y1 y2 H locs ls hf; cases (show (none : Option Int32) = some r0 from hf)
    | succ n4 ih4 =>
      intro y1 y2 H locs ls hf hB hl
      have hf := (fX1_standardProfit_L4.eq_1 v (lp (fX1_standardProfit_L4 v) (fun _ _ => none) n4) y1 y2).symm.trans (show fX1_standardProfit_L4 v (lp (fX1_standardProfit_L4 v) (fun _ _ => none) n4) y1 y2 = some r0 from hf)
      refine lv_iload_n hx hb dX1_standardProfit_4 rfl (lv_at hl 2 rfl) ?_
      refine lv_aload_n hx hb dX1_standardProfit_5 rfl (lv_at hl 0 rfl) ?_
      refine bk_getI X hB kl_X1 0 lc_Br_0 0 (by decide) rfl wm_97 dX1_standardProfit_6 ?_
      refine lv_icmp_ge (tgt := 41) hx hb dX1_standardProfit_9 (by decide) (fun c3 => ?_) (fun c3 => ?_)
      · have hf := (if_pos c3).symm.trans hf
        refine lv_iload_n hx hb dX1_standardProfit_41 rfl (lv_at hl 1 rfl) ?_
        exact bk_iR X hr rfl hf hB (Nat.le_of_ble_eq_true rfl) (Nat.le_of_ble_eq_true rfl) dX1_standardProfit_42
      · have hf := (if_neg c3).symm.trans hf
        refine lv_iload_n hx hb dX1_standardProfit_12 rfl (lv_at hl 1 rfl) ?_
        refine lv_aload_n hx hb dX1_standardProfit_13 rfl (lv_at hl 0 rfl) ?_
        refine bk_getR X hB kl_X1 0 lc_Br_0 6 (by decide) rfl wm_114 dX1_standardProfit_14 ?_
        refine lv_iload_n hx hb dX1_standardProfit_17 rfl (lv_at hl 2 rfl) ?_
        obtain ⟨h4, hf⟩ := ck_some hf
        refine bk_ald X hB 6 lc_Br_6 h4 dX1_standardProfit_18 ?_
        refine lv_aload_n hx hb dX1_standardProfit_19 rfl (lv_at hl 0 rfl) ?_
        refine bk_getR X hB kl_X1 0 lc_Br_0 1 (by decide) rfl wm_101 dX1_standardProfit_20 ?_
        refine lv_iload_n hx hb dX1_standardProfit_23 rfl (lv_at hl 2 rfl) ?_
        obtain ⟨h5, hf⟩ := ck_some hf
        refine bk_ald X hB 1 lc_Br_1 h5 dX1_standardProfit_24 ?_
        refine lv_aload_n hx hb dX1_standardProfit_25 rfl (lv_at hl 0 rfl) ?_
        refine bk_getR X hB kl_X1 0 lc_Br_0 3 (by decide) rfl wm_107 dX1_standardProfit_26 ?_
        refine lv_iload_n hx hb dX1_standardProfit_29 rfl (lv_at hl 2 rfl) ?_
        obtain ⟨h6, hf⟩ := ck_some hf
        refine bk_ald X hB 3 lc_Br_3 h6 dX1_standardProfit_30 ?_
        refine lv_isub hx hb dX1_standardProfit_31 ?_
        refine lv_imul hx hb dX1_standardProfit_32 ?_
        refine lv_iadd hx hb dX1_standardProfit_33 ?_
        refine lv_topi (fun x7 ex7 => ?_)
        have hf := nm_use hf ex7
        refine lv_istore_n (lv' := [(1, .int x7), (0, .ref a), (2, .int y2)]) hx hb dX1_standardProfit_34 rfl hl (by decide) rfl (fun ls hl => ?_)
        obtain ⟨x8, ex8⟩ : ∃ y : Int32, y = y2 + 1 := ⟨_, rfl⟩
        have hf := nm_use hf ex8
        refine lv_iinc (v := x8) (lv' := [(2, .int x8), (1, .int x7), (0, .ref a)]) hx hb dX1_standardProfit_35 hl (k := 2) rfl (by rw [ex8]; rfl) (by decide) rfl (fun ls hl => ?_)
        refine lv_goto (tgt := 4) hx hb dX1_standardProfit_38 (by decide) ?_
        exact ih4 x7 x8 H locs ls hf hB (lv_sub hl [2, 1, 0] rfl)
  exact hL4 lpN 0 0 H locs ls hf hB (lv_sub hl [2, 1, 0] rfl)
theorem yv_X1_standardProfit : bYv yX1_standardProfit RX1 cX1_standardProfit 3 (some .int) 0 := ⟨⟨rfl, by decide, by decide, rfl⟩, wm_860, wm_861, wm_4, wm_862⟩

theorem dX5_copyFrom_0 : decode cX5_copyFrom 0 = .ok (.aload_n 0, 1) := by decide +kernel
theorem dX5_copyFrom_1 : decode cX5_copyFrom 1 = .ok (.aload_n 1, 1) := by decide +kernel
theorem dX5_copyFrom_2 : decode cX5_copyFrom 2 = .ok (.getfield 18, 3) := by decide +kernel
theorem dX5_copyFrom_5 : decode cX5_copyFrom 5 = .ok (.putfield 18, 3) := by decide +kernel
theorem dX5_copyFrom_8 : decode cX5_copyFrom 8 = .ok (.aload_n 0, 1) := by decide +kernel
theorem dX5_copyFrom_9 : decode cX5_copyFrom 9 = .ok (.aload_n 1, 1) := by decide +kernel
theorem dX5_copyFrom_10 : decode cX5_copyFrom 10 = .ok (.getfield 22, 3) := by decide +kernel
theorem dX5_copyFrom_13 : decode cX5_copyFrom 13 = .ok (.putfield 22, 3) := by decide +kernel
theorem dX5_copyFrom_16 : decode cX5_copyFrom 16 = .ok (.aload_n 1, 1) := by decide +kernel
theorem dX5_copyFrom_17 : decode cX5_copyFrom 17 = .ok (.getfield 9, 3) := by decide +kernel
theorem dX5_copyFrom_20 : decode cX5_copyFrom 20 = .ok (.aload_n 0, 1) := by decide +kernel
theorem dX5_copyFrom_21 : decode cX5_copyFrom 21 = .ok (.getfield 9, 3) := by decide +kernel
theorem dX5_copyFrom_24 : decode cX5_copyFrom 24 = .ok (.invokestatic 25, 3) := by decide +kernel
theorem dX5_copyFrom_27 : decode cX5_copyFrom 27 = .ok (.aload_n 1, 1) := by decide +kernel
theorem dX5_copyFrom_28 : decode cX5_copyFrom 28 = .ok (.getfield 15, 3) := by decide +kernel
theorem dX5_copyFrom_31 : decode cX5_copyFrom 31 = .ok (.aload_n 0, 1) := by decide +kernel
theorem dX5_copyFrom_32 : decode cX5_copyFrom 32 = .ok (.getfield 15, 3) := by decide +kernel
theorem dX5_copyFrom_35 : decode cX5_copyFrom 35 = .ok (.invokestatic 25, 3) := by decide +kernel
theorem dX5_copyFrom_38 : decode cX5_copyFrom 38 = .ok (.return_, 1) := by decide +kernel
def fX5_copyFrom  (v u : bM) : Option bM :=
  nm (u 0) fun x1 => nm (upd v 0 x1) fun v2 => nm (u 1) fun x3 => nm (upd v2 1 x3) fun v4 => nm (spl v4 (2) 3 (vw u (2))) fun v5 => nm (spl v5 (5) 24 (vw u (5))) fun v6 => some v6
set_option maxRecDepth 100000 in
set_option maxHeartbeats 4000000 in
theorem mX5_copyFrom {l : Launch}  {v u : bM} {w0 : bM} (hf : fX5_copyFrom  v u = some w0) : bMet2 l yX5_copyFrom cX5_copyFrom 2 none 2 LOv (fun E a b => [.ref a, .ref b]) v u w0 (fun _ => none) := by
  refine bk_start2 (by decide +kernel) wfOv (fun _ _ _ => Nat.le_of_ble_eq_true rfl) ?_
  intro p e s m args below meth c D E a b ls H locs X hr hl hB hu hab
  have hx := X.1
  have hb := X.2.1
  have hown := X.2.2.2.1
  have hts := X.2.2.2.2.1
  have hl : lv_has ls 2 [(0, .ref a), (1, .ref b)] := hl
  have hf := (fX5_copyFrom.eq_1  v u).symm.trans hf
  refine lv_aload_n hx hb dX5_copyFrom_0 rfl (lv_at hl 0 rfl) ?_
  refine lv_aload_n hx hb dX5_copyFrom_1 rfl (lv_at hl 1 rfl) ?_
  refine bk_getI0 X (srcK plOv hB hu hab) kl_X5 0 lc_Ov_0 0 (by decide) rfl wm_142 dX5_copyFrom_2 ?_
  refine lv_topi (fun x1 ex1 => ?_)
  have hf := nm_use hf ex1
  refine bk_putI X hB kl_X5 0 lc_Ov_0 0 (by decide) rfl rfl rfl wm_142 dX5_copyFrom_5 rfl (fun H locs hB => ?_)
  obtain ⟨v2, ev2⟩ : ∃ y : bM, y = upd v 0 x1 := ⟨_, rfl⟩
  have hf := nm_use hf ev2
  rw [← ev2] at hB
  refine lv_aload_n hx hb dX5_copyFrom_8 rfl (lv_at hl 0 rfl) ?_
  refine lv_aload_n hx hb dX5_copyFrom_9 rfl (lv_at hl 1 rfl) ?_
  refine bk_getI0 X (srcK plOv hB hu hab) kl_X5 0 lc_Ov_0 1 (by decide) rfl wm_144 dX5_copyFrom_10 ?_
  refine lv_topi (fun x3 ex3 => ?_)
  have hf := nm_use hf ex3
  refine bk_putI X hB kl_X5 0 lc_Ov_0 1 (by decide) rfl rfl rfl wm_144 dX5_copyFrom_13 rfl (fun H locs hB => ?_)
  obtain ⟨v4, ev4⟩ : ∃ y : bM, y = upd v2 1 x3 := ⟨_, rfl⟩
  have hf := nm_use hf ev4
  rw [← ev4] at hB
  refine lv_aload_n hx hb dX5_copyFrom_16 rfl (lv_at hl 1 rfl) ?_
  refine bk_getR0 X (srcK plOv hB hu hab) kl_X5 0 lc_Ov_0 2 (by decide) rfl wm_147 dX5_copyFrom_17 ?_
  refine lv_aload_n hx hb dX5_copyFrom_20 rfl (lv_at hl 0 rfl) ?_
  refine bk_getR X hB kl_X5 0 lc_Ov_0 2 (by decide) rfl wm_147 dX5_copyFrom_21 ?_
  refine bk_sub (bSub_arr hB.2.2.1 (by decide) lc_Ov_1) hB (fun h1 h2 h3 => bk_runSN2 X (Av := [.ref (b + 1), .ref (a + 1)]) (rest := []) (mX8_copyRow (n := 3) (by decide)) ys_X8_copyRow (List.mem_of_getElem? (i := 11) rfl) ⟨Nat.le_of_ble_eq_true rfl, Nat.le_of_ble_eq_true rfl⟩ rfl rfl hl.1 (Blk.subArr wfOv (by decide) lc_Ov_1 (srcK plOv hB hu hab)) (apA hab lc_Ov_1 lc_Ov_1) h1 h2 h3 (Nat.le_of_ble_eq_true rfl) ⟨Nat.le_of_ble_eq_true rfl, Nat.le_of_ble_eq_true rfl⟩ dX5_copyFrom_24) (fun H locs hB => ?_)
  refine W.eq (g2 := F0 m 27 ls []) rfl ?_
  obtain ⟨v5, ev5⟩ : ∃ y : bM, y = spl v4 (2) 3 (vw u (2)) := ⟨_, rfl⟩
  have hf := nm_use hf ev5
  rw [← ev5] at hB
  refine lv_aload_n hx hb dX5_copyFrom_27 rfl (lv_at hl 1 rfl) ?_
  refine bk_getR0 X (srcK plOv hB hu hab) kl_X5 0 lc_Ov_0 3 (by decide) rfl wm_150 dX5_copyFrom_28 ?_
  refine lv_aload_n hx hb dX5_copyFrom_31 rfl (lv_at hl 0 rfl) ?_
  refine bk_getR X hB kl_X5 0 lc_Ov_0 3 (by decide) rfl wm_150 dX5_copyFrom_32 ?_
  refine bk_sub (bSub_arr hB.2.2.1 (by decide) lc_Ov_2) hB (fun h1 h2 h3 => bk_runSN2 X (Av := [.ref (b + 2), .ref (a + 2)]) (rest := []) (mX8_copyRow (n := 24) (by decide)) ys_X8_copyRow (List.mem_of_getElem? (i := 11) rfl) ⟨Nat.le_of_ble_eq_true rfl, Nat.le_of_ble_eq_true rfl⟩ rfl rfl hl.1 (Blk.subArr wfOv (by decide) lc_Ov_2 (srcK plOv hB hu hab)) (apA hab lc_Ov_2 lc_Ov_2) h1 h2 h3 (Nat.le_of_ble_eq_true rfl) ⟨Nat.le_of_ble_eq_true rfl, Nat.le_of_ble_eq_true rfl⟩ dX5_copyFrom_35) (fun H locs hB => ?_)
  refine W.eq (g2 := F0 m 38 ls []) rfl ?_
  obtain ⟨v6, ev6⟩ : ∃ y : bM, y = spl v5 (5) 24 (vw u (5)) := ⟨_, rfl⟩
  have hf := nm_use hf ev6
  rw [← ev6] at hB
  exact bk_vW X hr rfl hf hB (Nat.le_of_ble_eq_true rfl) (Nat.le_of_ble_eq_true rfl) dX5_copyFrom_38
theorem yv_X5_copyFrom : bYv yX5_copyFrom RX5 cX5_copyFrom 2 none 1 := ⟨⟨rfl, by decide, by decide, rfl⟩, wm_724, wm_725, wm_5, wm_726⟩

theorem dX5_open_0 : decode cX5_open 0 = .ok (.aload_n 0, 1) := by decide +kernel
theorem dX5_open_1 : decode cX5_open 1 = .ok (.iload_n 1, 1) := by decide +kernel
theorem dX5_open_2 : decode cX5_open 2 = .ok (.putfield 18, 3) := by decide +kernel
theorem dX5_open_5 : decode cX5_open 5 = .ok (.aload_n 0, 1) := by decide +kernel
theorem dX5_open_6 : decode cX5_open 6 = .ok (.iload_n 2, 1) := by decide +kernel
theorem dX5_open_7 : decode cX5_open 7 = .ok (.putfield 22, 3) := by decide +kernel
theorem dX5_open_10 : decode cX5_open 10 = .ok (.iconst 0, 1) := by decide +kernel
theorem dX5_open_11 : decode cX5_open 11 = .ok (.istore_n 3, 1) := by decide +kernel
theorem dX5_open_12 : decode cX5_open 12 = .ok (.iload_n 3, 1) := by decide +kernel
theorem dX5_open_13 : decode cX5_open 13 = .ok (.iconst 3, 1) := by decide +kernel
theorem dX5_open_14 : decode cX5_open 14 = .ok (.if_icmp .ge 16, 3) := by decide +kernel
theorem dX5_open_17 : decode cX5_open 17 = .ok (.aload_n 0, 1) := by decide +kernel
theorem dX5_open_18 : decode cX5_open 18 = .ok (.getfield 9, 3) := by decide +kernel
theorem dX5_open_21 : decode cX5_open 21 = .ok (.iload_n 3, 1) := by decide +kernel
theorem dX5_open_22 : decode cX5_open 22 = .ok (.iconst 0, 1) := by decide +kernel
theorem dX5_open_23 : decode cX5_open 23 = .ok (.iastore, 1) := by decide +kernel
theorem dX5_open_24 : decode cX5_open 24 = .ok (.iinc 3 1, 3) := by decide +kernel
theorem dX5_open_27 : decode cX5_open 27 = .ok (.goto (-15), 3) := by decide +kernel
theorem dX5_open_30 : decode cX5_open 30 = .ok (.iconst 0, 1) := by decide +kernel
theorem dX5_open_31 : decode cX5_open 31 = .ok (.istore_n 3, 1) := by decide +kernel
theorem dX5_open_32 : decode cX5_open 32 = .ok (.iload_n 3, 1) := by decide +kernel
theorem dX5_open_33 : decode cX5_open 33 = .ok (.bipush 24, 2) := by decide +kernel
theorem dX5_open_35 : decode cX5_open 35 = .ok (.if_icmp .ge 16, 3) := by decide +kernel
theorem dX5_open_38 : decode cX5_open 38 = .ok (.aload_n 0, 1) := by decide +kernel
theorem dX5_open_39 : decode cX5_open 39 = .ok (.getfield 15, 3) := by decide +kernel
theorem dX5_open_42 : decode cX5_open 42 = .ok (.iload_n 3, 1) := by decide +kernel
theorem dX5_open_43 : decode cX5_open 43 = .ok (.iload_n 2, 1) := by decide +kernel
theorem dX5_open_44 : decode cX5_open 44 = .ok (.iastore, 1) := by decide +kernel
theorem dX5_open_45 : decode cX5_open 45 = .ok (.iinc 3 1, 3) := by decide +kernel
theorem dX5_open_48 : decode cX5_open 48 = .ok (.goto (-16), 3) := by decide +kernel
theorem dX5_open_51 : decode cX5_open 51 = .ok (.return_, 1) := by decide +kernel
def fX5_open_L32 (p2 : Int32) (k32 : Int32 → bM → Option bM) (y6 : Int32) (v7 : bM) : Option bM :=
  (if 24 ≤ y6 then (some v7) else (ck y6 24 <| nm (upd v7 (5 + y6.toNatClampNeg) p2) fun v10 => nm (y6 + 1) fun x11 => k32 x11 v10))
def fX5_open_L12 (p2 : Int32) (k12 : Int32 → bM → Option bM) (y3 : Int32) (v4 : bM) : Option bM :=
  (if 3 ≤ y3 then (lp (fX5_open_L32 p2) (fun _ _ => none) lpN 0 v4) else (ck y3 3 <| nm (upd v4 (2 + y3.toNatClampNeg) 0) fun v13 => nm (y3 + 1) fun x14 => k12 x14 v13))
def fX5_open (p1 : Int32) (p2 : Int32) (v : bM) : Option bM :=
  nm (upd v 0 p1) fun v1 => nm (upd v1 1 p2) fun v2 => lp (fX5_open_L12 p2) (fun _ _ => none) lpN 0 v2
set_option maxRecDepth 100000 in
set_option maxHeartbeats 4000000 in
theorem mX5_open {l : Launch} {p1 : Int32} {p2 : Int32} {v : bM} {w0 : bM} (hf : fX5_open p1 p2 v = some w0) : bMet l yX5_open cX5_open 4 none 0 0 0 LOv (fun E a => [.ref a, .int p1, .int p2]) v w0 (fun _ => none) := by
  refine bk_start (by decide +kernel) wfOv (fun _ _ => Nat.le_of_ble_eq_true rfl) ?_
  intro p e s m args below meth c D E a ls H locs X hr hl hB
  have hx := X.1
  have hb := X.2.1
  have hown := X.2.2.2.1
  have hts := X.2.2.2.2.1
  have hl : lv_has ls 4 [(0, .ref a), (1, .int p1), (2, .int p2)] := hl
  have hf := (fX5_open.eq_1 p1 p2 v).symm.trans hf
  refine lv_aload_n hx hb dX5_open_0 rfl (lv_at hl 0 rfl) ?_
  refine lv_iload_n hx hb dX5_open_1 rfl (lv_at hl 1 rfl) ?_
  refine bk_putI X hB kl_X5 0 lc_Ov_0 0 (by decide) rfl rfl rfl wm_142 dX5_open_2 rfl (fun H locs hB => ?_)
  obtain ⟨v1, ev1⟩ : ∃ y : bM, y = upd v 0 p1 := ⟨_, rfl⟩
  have hf := nm_use hf ev1
  rw [← ev1] at hB
  refine lv_aload_n hx hb dX5_open_5 rfl (lv_at hl 0 rfl) ?_
  refine lv_iload_n hx hb dX5_open_6 rfl (lv_at hl 2 rfl) ?_
  refine bk_putI X hB kl_X5 0 lc_Ov_0 1 (by decide) rfl rfl rfl wm_144 dX5_open_7 rfl (fun H locs hB => ?_)
  obtain ⟨v2, ev2⟩ : ∃ y : bM, y = upd v1 1 p2 := ⟨_, rfl⟩
  have hf := nm_use hf ev2
  rw [← ev2] at hB
  refine lv_iconst (v := 0) hx hb dX5_open_10 (by decide) ?_
  refine lv_istore_n (lv' := [(3, .int 0), (0, .ref a), (1, .int p1), (2, .int p2)]) hx hb dX5_open_11 rfl hl (by decide) rfl (fun ls hl => ?_)
  have hL12 : ∀ (n12 : Nat) (y3 : Int32) (v4 : bM) (H : Heap) (locs : List Loc) (ls : Array Slot), lp (fX5_open_L12 p2) (fun _ _ => none) n12 y3 v4 = some w0 → bB D E LOv a v4 s H locs → lv_has ls 4 [(0, .ref a), (2, .int p2), (3, .int y3)] → W p l e (rmOf 0 0 0) s m args below meth c H locs 0 0 (bQ below D E LOv a w0 none args s 0 0) (F0 m 12 ls []) := by
    intro n12
    induction n12 with
    | zero => intro y3 v4 H locs ls hf; cases (show (none : Option bM) = some w0 from hf)
    | succ n12 ih12 =>
      intro y3 v4 H locs ls hf hB hl
      have hf := (fX5_open_L12.eq_1 p2 (lp (fX5_open_L12 p2) (fun _ _ => none) n12) y3 v4).symm.trans (show fX5_open_L12 p2 (lp (fX5_open_L12 p2) (fun _ _ => none) n12) y3 v4 = some w0 from hf)
      refine lv_iload_n hx hb dX5_open_12 rfl (lv_at hl 2 rfl) ?_
      refine lv_iconst (v := 3) hx hb dX5_open_13 (by decide) ?_
      refine lv_icmp_ge (tgt := 30) hx hb dX5_open_14 (by decide) (fun c5 => ?_) (fun c5 => ?_)
      · have hf := (if_pos c5).symm.trans hf
        refine lv_iconst (v := 0) hx hb dX5_open_30 (by decide) ?_
        refine lv_istore_n (lv' := [(3, .int 0), (0, .ref a), (2, .int p2)]) hx hb dX5_open_31 rfl hl (by decide) rfl (fun ls hl => ?_)
        have hL32 : ∀ (n32 : Nat) (y6 : Int32) (v7 : bM) (H : Heap) (locs : List Loc) (ls : Array Slot), lp (fX5_open_L32 p2) (fun _ _ => none) n32 y6 v7 = some w0 → bB D E LOv a v7 s H locs → lv_has ls 4 [(0, .ref a), (2, .int p2), (3, .int y6)] → W p l e (rmOf 0 0 0) s m args below meth c H locs 0 0 (bQ below D E LOv a w0 none args s 0 0) (F0 m 32 ls []) := by
          intro n32
          induction n32 with
          | zero => intro y6 v7 H locs ls hf; cases (show (none : Option bM) = some w0 from hf)
          | succ n32 ih32 =>
            intro y6 v7 H locs ls hf hB hl
            have hf := (fX5_open_L32.eq_1 p2 (lp (fX5_open_L32 p2) (fun _ _ => none) n32) y6 v7).symm.trans (show fX5_open_L32 p2 (lp (fX5_open_L32 p2) (fun _ _ => none) n32) y6 v7 = some w0 from hf)
            refine lv_iload_n hx hb dX5_open_32 rfl (lv_at hl 2 rfl) ?_
            refine lv_bipush (v := 24) hx hb dX5_open_33 (by decide) ?_
            refine lv_icmp_ge (tgt := 51) hx hb dX5_open_35 (by decide) (fun c8 => ?_) (fun c8 => ?_)
            · have hf := (if_pos c8).symm.trans hf
              exact bk_vW X hr rfl hf hB (Nat.le_of_ble_eq_true rfl) (Nat.le_of_ble_eq_true rfl) dX5_open_51
            · have hf := (if_neg c8).symm.trans hf
              refine lv_aload_n hx hb dX5_open_38 rfl (lv_at hl 0 rfl) ?_
              refine bk_getR X hB kl_X5 0 lc_Ov_0 3 (by decide) rfl wm_150 dX5_open_39 ?_
              refine lv_iload_n hx hb dX5_open_42 rfl (lv_at hl 2 rfl) ?_
              refine lv_iload_n hx hb dX5_open_43 rfl (lv_at hl 1 rfl) ?_
              obtain ⟨h9, hf⟩ := ck_some hf
              refine bk_ast X hB 2 lc_Ov_2 h9 dX5_open_44 (fun H locs hB => ?_)
              obtain ⟨v10, ev10⟩ : ∃ y : bM, y = upd v7 (5 + y6.toNatClampNeg) p2 := ⟨_, rfl⟩
              have hf := nm_use hf ev10
              rw [← ev10] at hB
              obtain ⟨x11, ex11⟩ : ∃ y : Int32, y = y6 + 1 := ⟨_, rfl⟩
              have hf := nm_use hf ex11
              refine lv_iinc (v := x11) (lv' := [(3, .int x11), (0, .ref a), (2, .int p2)]) hx hb dX5_open_45 hl (k := 2) rfl (by rw [ex11]; rfl) (by decide) rfl (fun ls hl => ?_)
              refine lv_goto (tgt := 32) hx hb dX5_open_48 (by decide) ?_
              exact ih32 x11 v10 H locs ls hf hB (lv_sub hl [1, 2, 0] rfl)
        exact hL32 lpN 0 v4 H locs ls hf hB (lv_sub hl [1, 2, 0] rfl)
      · have hf := (if_neg c5).symm.trans hf
        refine lv_aload_n hx hb dX5_open_17 rfl (lv_at hl 0 rfl) ?_
        refine bk_getR X hB kl_X5 0 lc_Ov_0 2 (by decide) rfl wm_147 dX5_open_18 ?_
        refine lv_iload_n hx hb dX5_open_21 rfl (lv_at hl 2 rfl) ?_
        refine lv_iconst (v := 0) hx hb dX5_open_22 (by decide) ?_
        obtain ⟨h12, hf⟩ := ck_some hf
        refine bk_ast X hB 1 lc_Ov_1 h12 dX5_open_23 (fun H locs hB => ?_)
        obtain ⟨v13, ev13⟩ : ∃ y : bM, y = upd v4 (2 + y3.toNatClampNeg) 0 := ⟨_, rfl⟩
        have hf := nm_use hf ev13
        rw [← ev13] at hB
        obtain ⟨x14, ex14⟩ : ∃ y : Int32, y = y3 + 1 := ⟨_, rfl⟩
        have hf := nm_use hf ex14
        refine lv_iinc (v := x14) (lv' := [(3, .int x14), (0, .ref a), (2, .int p2)]) hx hb dX5_open_24 hl (k := 2) rfl (by rw [ex14]; rfl) (by decide) rfl (fun ls hl => ?_)
        refine lv_goto (tgt := 12) hx hb dX5_open_27 (by decide) ?_
        exact ih12 x14 v13 H locs ls hf hB (lv_sub hl [1, 2, 0] rfl)
  exact hL12 lpN 0 v2 H locs ls hf hB (lv_sub hl [1, 3, 0] rfl)
theorem yv_X5_open : bYv yX5_open RX5 cX5_open 4 none 2 := ⟨⟨rfl, by decide, by decide, rfl⟩, wm_526, wm_527, wm_5, wm_528⟩

theorem dX5_firstFree_0 : decode cX5_firstFree 0 = .ok (.iconst 0, 1) := by decide +kernel
theorem dX5_firstFree_1 : decode cX5_firstFree 1 = .ok (.istore_n 1, 1) := by decide +kernel
theorem dX5_firstFree_2 : decode cX5_firstFree 2 = .ok (.iconst 1, 1) := by decide +kernel
theorem dX5_firstFree_3 : decode cX5_firstFree 3 = .ok (.istore_n 2, 1) := by decide +kernel
theorem dX5_firstFree_4 : decode cX5_firstFree 4 = .ok (.iload_n 2, 1) := by decide +kernel
theorem dX5_firstFree_5 : decode cX5_firstFree 5 = .ok (.aload_n 0, 1) := by decide +kernel
theorem dX5_firstFree_6 : decode cX5_firstFree 6 = .ok (.getfield 18, 3) := by decide +kernel
theorem dX5_firstFree_9 : decode cX5_firstFree 9 = .ok (.if_icmp .ge 26, 3) := by decide +kernel
theorem dX5_firstFree_12 : decode cX5_firstFree 12 = .ok (.aload_n 0, 1) := by decide +kernel
theorem dX5_firstFree_13 : decode cX5_firstFree 13 = .ok (.getfield 9, 3) := by decide +kernel
theorem dX5_firstFree_16 : decode cX5_firstFree 16 = .ok (.iload_n 2, 1) := by decide +kernel
theorem dX5_firstFree_17 : decode cX5_firstFree 17 = .ok (.iaload, 1) := by decide +kernel
theorem dX5_firstFree_18 : decode cX5_firstFree 18 = .ok (.aload_n 0, 1) := by decide +kernel
theorem dX5_firstFree_19 : decode cX5_firstFree 19 = .ok (.getfield 9, 3) := by decide +kernel
theorem dX5_firstFree_22 : decode cX5_firstFree 22 = .ok (.iload_n 1, 1) := by decide +kernel
theorem dX5_firstFree_23 : decode cX5_firstFree 23 = .ok (.iaload, 1) := by decide +kernel
theorem dX5_firstFree_24 : decode cX5_firstFree 24 = .ok (.if_icmp .ge 5, 3) := by decide +kernel
theorem dX5_firstFree_27 : decode cX5_firstFree 27 = .ok (.iload_n 2, 1) := by decide +kernel
theorem dX5_firstFree_28 : decode cX5_firstFree 28 = .ok (.istore_n 1, 1) := by decide +kernel
theorem dX5_firstFree_29 : decode cX5_firstFree 29 = .ok (.iinc 2 1, 3) := by decide +kernel
theorem dX5_firstFree_32 : decode cX5_firstFree 32 = .ok (.goto (-28), 3) := by decide +kernel
theorem dX5_firstFree_35 : decode cX5_firstFree 35 = .ok (.iload_n 1, 1) := by decide +kernel
theorem dX5_firstFree_36 : decode cX5_firstFree 36 = .ok (.ireturn, 1) := by decide +kernel
def fX5_firstFree_J29 (y2 : Int32) (k4 : Int32 → Int32 → Option Int32) (y6 : Int32) : Option Int32 :=
  nm (y2 + 1) fun x7 => k4 y6 x7
def fX5_firstFree_L4 (v : bM) (k4 : Int32 → Int32 → Option Int32) (y1 : Int32) (y2 : Int32) : Option Int32 :=
  (if (v 0) ≤ y2 then (some (y1)) else (ck y2 3 <| ck y1 3 <| (if (v (2 + y1.toNatClampNeg)) ≤ (v (2 + y2.toNatClampNeg)) then (fX5_firstFree_J29 y2 k4 y1) else (fX5_firstFree_J29 y2 k4 y2))))
def fX5_firstFree  (v : bM) : Option Int32 :=
  lp (fX5_firstFree_L4 v) (fun _ _ => none) lpN 0 1
set_option maxRecDepth 100000 in
set_option maxHeartbeats 4000000 in
theorem mX5_firstFree {l : Launch}  {v : bM} {r0 : Int32} (hf : fX5_firstFree  v = some r0) : bMet l yX5_firstFree cX5_firstFree 3 (some .int) 0 0 0 LOv (fun E a => [.ref a]) v v (fun _ => some (.int r0)) := by
  refine bk_start (by decide +kernel) wfOv (fun _ _ => Nat.le_of_ble_eq_true rfl) ?_
  intro p e s m args below meth c D E a ls H locs X hr hl hB
  have hx := X.1
  have hb := X.2.1
  have hown := X.2.2.2.1
  have hts := X.2.2.2.2.1
  have hl : lv_has ls 3 [(0, .ref a)] := hl
  have hf := (fX5_firstFree.eq_1  v).symm.trans hf
  refine lv_iconst (v := 0) hx hb dX5_firstFree_0 (by decide) ?_
  refine lv_istore_n (lv' := [(1, .int 0), (0, .ref a)]) hx hb dX5_firstFree_1 rfl hl (by decide) rfl (fun ls hl => ?_)
  refine lv_iconst (v := 1) hx hb dX5_firstFree_2 (by decide) ?_
  refine lv_istore_n (lv' := [(2, .int 1), (1, .int 0), (0, .ref a)]) hx hb dX5_firstFree_3 rfl hl (by decide) rfl (fun ls hl => ?_)
  have hL4 : ∀ (n4 : Nat) (y1 y2 : Int32) (H : Heap) (locs : List Loc) (ls : Array Slot), lp (fX5_firstFree_L4 v) (fun _ _ => none) n4 y1 y2 = some r0 → bB D E LOv a v s H locs → lv_has ls 3 [(0, .ref a), (1, .int y1), (2, .int y2)] → W p l e (rmOf 0 0 0) s m args below meth c H locs 0 0 (bQ below D E LOv a v (some (.int r0)) args s 0 0) (F0 m 4 ls []) := by
    intro n4
    induction n4 with
    | zero => intro y1 y2 H locs ls hf; cases (show (none : Option Int32) = some r0 from hf)
    | succ n4 ih4 =>
      intro y1 y2 H locs ls hf hB hl
      have hf := (fX5_firstFree_L4.eq_1 v (lp (fX5_firstFree_L4 v) (fun _ _ => none) n4) y1 y2).symm.trans (show fX5_firstFree_L4 v (lp (fX5_firstFree_L4 v) (fun _ _ => none) n4) y1 y2 = some r0 from hf)
      refine lv_iload_n hx hb dX5_firstFree_4 rfl (lv_at hl 2 rfl) ?_
      refine lv_aload_n hx hb dX5_firstFree_5 rfl (lv_at hl 0 rfl) ?_
      refine bk_getI X hB kl_X5 0 lc_Ov_0 0 (by decide) rfl wm_142 dX5_firstFree_6 ?_
      refine lv_icmp_ge (tgt := 35) hx hb dX5_firstFree_9 (by decide) (fun c3 => ?_) (fun c3 => ?_)
      · have hf := (if_pos c3).symm.trans hf
        refine lv_iload_n hx hb dX5_firstFree_35 rfl (lv_at hl 1 rfl) ?_
        exact bk_iR X hr rfl hf hB (Nat.le_of_ble_eq_true rfl) (Nat.le_of_ble_eq_true rfl) dX5_firstFree_36
      · have hf := (if_neg c3).symm.trans hf
        refine lv_aload_n hx hb dX5_firstFree_12 rfl (lv_at hl 0 rfl) ?_
        refine bk_getR X hB kl_X5 0 lc_Ov_0 2 (by decide) rfl wm_147 dX5_firstFree_13 ?_
        refine lv_iload_n hx hb dX5_firstFree_16 rfl (lv_at hl 2 rfl) ?_
        obtain ⟨h4, hf⟩ := ck_some hf
        refine bk_ald X hB 1 lc_Ov_1 h4 dX5_firstFree_17 ?_
        refine lv_aload_n hx hb dX5_firstFree_18 rfl (lv_at hl 0 rfl) ?_
        refine bk_getR X hB kl_X5 0 lc_Ov_0 2 (by decide) rfl wm_147 dX5_firstFree_19 ?_
        refine lv_iload_n hx hb dX5_firstFree_22 rfl (lv_at hl 1 rfl) ?_
        obtain ⟨h5, hf⟩ := ck_some hf
        refine bk_ald X hB 1 lc_Ov_1 h5 dX5_firstFree_23 ?_
        have hJ29 : ∀ (y6 : Int32) (H : Heap) (locs : List Loc) (ls : Array Slot), fX5_firstFree_J29 y2 (lp (fX5_firstFree_L4 v) (fun _ _ => none) n4) y6 = some r0 → bB D E LOv a v s H locs → lv_has ls 3 [(0, .ref a), (1, .int y6), (2, .int y2)] → W p l e (rmOf 0 0 0) s m args below meth c H locs 0 0 (bQ below D E LOv a v (some (.int r0)) args s 0 0) (F0 m 29 ls []) := by
          intro y6 H locs ls hf hB hl
          have hf := (fX5_firstFree_J29.eq_1 y2 (lp (fX5_firstFree_L4 v) (fun _ _ => none) n4) y6).symm.trans hf
          obtain ⟨x7, ex7⟩ : ∃ y : Int32, y = y2 + 1 := ⟨_, rfl⟩
          have hf := nm_use hf ex7
          refine lv_iinc (v := x7) (lv' := [(2, .int x7), (0, .ref a), (1, .int y6)]) hx hb dX5_firstFree_29 hl (k := 2) rfl (by rw [ex7]; rfl) (by decide) rfl (fun ls hl => ?_)
          refine lv_goto (tgt := 4) hx hb dX5_firstFree_32 (by decide) ?_
          exact ih4 y6 x7 H locs ls hf hB (lv_sub hl [1, 2, 0] rfl)
        refine lv_icmp_ge (tgt := 29) hx hb dX5_firstFree_24 (by decide) (fun c8 => ?_) (fun c8 => ?_)
        · have hf := (if_pos c8).symm.trans hf
          exact hJ29 y1 H locs ls hf hB (lv_sub hl [0, 1, 2] rfl)
        · have hf := (if_neg c8).symm.trans hf
          refine lv_iload_n hx hb dX5_firstFree_27 rfl (lv_at hl 2 rfl) ?_
          refine lv_istore_n (lv' := [(1, .int y2), (0, .ref a), (2, .int y2)]) hx hb dX5_firstFree_28 rfl hl (by decide) rfl (fun ls hl => ?_)
          exact hJ29 y2 H locs ls hf hB (lv_sub hl [1, 0, 2] rfl)
  exact hL4 lpN 0 1 H locs ls hf hB (lv_sub hl [2, 1, 0] rfl)
theorem yv_X5_firstFree : bYv yX5_firstFree RX5 cX5_firstFree 3 (some .int) 0 := ⟨⟨rfl, by decide, by decide, rfl⟩, wm_620, wm_621, wm_5, wm_622⟩

theorem dX5_startFrom_0 : decode cX5_startFrom 0 = .ok (.aload_n 0, 1) := by decide +kernel
theorem dX5_startFrom_1 : decode cX5_startFrom 1 = .ok (.getfield 9, 3) := by decide +kernel
theorem dX5_startFrom_4 : decode cX5_startFrom 4 = .ok (.aload_n 0, 1) := by decide +kernel
theorem dX5_startFrom_5 : decode cX5_startFrom 5 = .ok (.invokevirtual 29, 3) := by decide +kernel
theorem dX5_startFrom_8 : decode cX5_startFrom 8 = .ok (.iaload, 1) := by decide +kernel
theorem dX5_startFrom_9 : decode cX5_startFrom 9 = .ok (.iload_n 1, 1) := by decide +kernel
theorem dX5_startFrom_10 : decode cX5_startFrom 10 = .ok (.invokestatic 33, 3) := by decide +kernel
theorem dX5_startFrom_13 : decode cX5_startFrom 13 = .ok (.ireturn, 1) := by decide +kernel
def fX5_startFrom (p1 : Int32) (v : bM) : Option Int32 :=
  bnr (fX5_firstFree v) fun r2 => ck r2 3 <| nm (if (v (2 + r2.toNatClampNeg)) < p1 then p1 else (v (2 + r2.toNatClampNeg))) fun x4 => some (x4)
set_option maxRecDepth 100000 in
set_option maxHeartbeats 4000000 in
theorem mX5_startFrom {l : Launch} {p1 : Int32} {v : bM} {r0 : Int32} (hf : fX5_startFrom p1 v = some r0) : bMet l yX5_startFrom cX5_startFrom 2 (some .int) 1 0 0 LOv (fun E a => [.ref a, .int p1]) v v (fun _ => some (.int r0)) := by
  refine bk_start (by decide +kernel) wfOv (fun _ _ => Nat.le_of_ble_eq_true rfl) ?_
  intro p e s m args below meth c D E a ls H locs X hr hl hB
  have hx := X.1
  have hb := X.2.1
  have hown := X.2.2.2.1
  have hts := X.2.2.2.2.1
  have hl : lv_has ls 2 [(0, .ref a), (1, .int p1)] := hl
  have hf := (fX5_startFrom.eq_1 p1 v).symm.trans hf
  refine lv_aload_n hx hb dX5_startFrom_0 rfl (lv_at hl 0 rfl) ?_
  refine bk_getR X hB kl_X5 0 lc_Ov_0 2 (by decide) rfl wm_147 dX5_startFrom_1 ?_
  refine lv_aload_n hx hb dX5_startFrom_4 rfl (lv_at hl 0 rfl) ?_
  obtain ⟨r2, hc1, hf⟩ := bnr_some hf
  refine bk_all hB (fun h1 h2 h3 => bk_runV X (Av := []) (rest := [.ref (a + 1)]) (mX5_firstFree hc1) yv_X5_firstFree wm_627 ⟨Nat.le_of_ble_eq_true rfl, Nat.le_of_ble_eq_true rfl⟩ rfl rfl hl.1 kl_X5.1 (hB.1.obj lc_Ov_0) h1 h2 h3 (Nat.le_of_ble_eq_true rfl) ⟨Nat.le_of_ble_eq_true rfl, Nat.le_of_ble_eq_true rfl⟩ dX5_startFrom_5) (fun H locs hB => ?_)
  refine W.eq (g2 := F0 m 8 ls [.int r2, .ref (a + 1)]) rfl ?_
  obtain ⟨h3, hf⟩ := ck_some hf
  refine bk_ald X hB 1 lc_Ov_1 h3 dX5_startFrom_8 ?_
  refine lv_iload_n hx hb dX5_startFrom_9 rfl (lv_at hl 1 rfl) ?_
  refine bk_max X hl.1 wm_628 ⟨Nat.le_of_ble_eq_true rfl, Nat.le_of_ble_eq_true rfl⟩ ⟨Nat.le_of_ble_eq_true rfl, Nat.le_of_ble_eq_true rfl⟩ dX5_startFrom_10 ?_
  refine lv_topi (fun x4 ex4 => ?_)
  have hf := nm_use hf ex4
  exact bk_iR X hr rfl hf hB (Nat.le_of_ble_eq_true rfl) (Nat.le_of_ble_eq_true rfl) dX5_startFrom_13
theorem yv_X5_startFrom : bYv yX5_startFrom RX5 cX5_startFrom 2 (some .int) 1 := ⟨⟨rfl, by decide, by decide, rfl⟩, wm_624, wm_625, wm_5, wm_626⟩

theorem dX5_priceOfMinutes_0 : decode cX5_priceOfMinutes 0 = .ok (.iconst 0, 1) := by decide +kernel
theorem dX5_priceOfMinutes_1 : decode cX5_priceOfMinutes 1 = .ok (.istore_n 3, 1) := by decide +kernel
theorem dX5_priceOfMinutes_2 : decode cX5_priceOfMinutes 2 = .ok (.iconst 0, 1) := by decide +kernel
theorem dX5_priceOfMinutes_3 : decode cX5_priceOfMinutes 3 = .ok (.istore 4, 2) := by decide +kernel
theorem dX5_priceOfMinutes_5 : decode cX5_priceOfMinutes 5 = .ok (.iload 4, 2) := by decide +kernel
theorem dX5_priceOfMinutes_7 : decode cX5_priceOfMinutes 7 = .ok (.iload_n 2, 1) := by decide +kernel
theorem dX5_priceOfMinutes_8 : decode cX5_priceOfMinutes 8 = .ok (.if_icmp .ge 29, 3) := by decide +kernel
theorem dX5_priceOfMinutes_11 : decode cX5_priceOfMinutes 11 = .ok (.iload_n 3, 1) := by decide +kernel
theorem dX5_priceOfMinutes_12 : decode cX5_priceOfMinutes 12 = .ok (.aload_n 0, 1) := by decide +kernel
theorem dX5_priceOfMinutes_13 : decode cX5_priceOfMinutes 13 = .ok (.getfield 15, 3) := by decide +kernel
theorem dX5_priceOfMinutes_16 : decode cX5_priceOfMinutes 16 = .ok (.iload_n 1, 1) := by decide +kernel
theorem dX5_priceOfMinutes_17 : decode cX5_priceOfMinutes 17 = .ok (.iload 4, 2) := by decide +kernel
theorem dX5_priceOfMinutes_19 : decode cX5_priceOfMinutes 19 = .ok (.iadd, 1) := by decide +kernel
theorem dX5_priceOfMinutes_20 : decode cX5_priceOfMinutes 20 = .ok (.bipush 60, 2) := by decide +kernel
theorem dX5_priceOfMinutes_22 : decode cX5_priceOfMinutes 22 = .ok (.idiv, 1) := by decide +kernel
theorem dX5_priceOfMinutes_23 : decode cX5_priceOfMinutes 23 = .ok (.bipush 24, 2) := by decide +kernel
theorem dX5_priceOfMinutes_25 : decode cX5_priceOfMinutes 25 = .ok (.invokestatic 39, 3) := by decide +kernel
theorem dX5_priceOfMinutes_28 : decode cX5_priceOfMinutes 28 = .ok (.iaload, 1) := by decide +kernel
theorem dX5_priceOfMinutes_29 : decode cX5_priceOfMinutes 29 = .ok (.iadd, 1) := by decide +kernel
theorem dX5_priceOfMinutes_30 : decode cX5_priceOfMinutes 30 = .ok (.istore_n 3, 1) := by decide +kernel
theorem dX5_priceOfMinutes_31 : decode cX5_priceOfMinutes 31 = .ok (.iinc 4 1, 3) := by decide +kernel
theorem dX5_priceOfMinutes_34 : decode cX5_priceOfMinutes 34 = .ok (.goto (-29), 3) := by decide +kernel
theorem dX5_priceOfMinutes_37 : decode cX5_priceOfMinutes 37 = .ok (.iload_n 3, 1) := by decide +kernel
theorem dX5_priceOfMinutes_38 : decode cX5_priceOfMinutes 38 = .ok (.ireturn, 1) := by decide +kernel
def fX5_priceOfMinutes_L5 (p1 : Int32) (p2 : Int32) (v : bM) (k5 : Int32 → Int32 → Option Int32) (y1 : Int32) (y2 : Int32) : Option Int32 :=
  (if p2 ≤ y2 then (some (y1)) else (bnr (fJ9_floorMod_7cf53 ((p1 + y2) / 60) 24) fun r5 => ck r5 24 <| nm (y1 + (v (5 + r5.toNatClampNeg))) fun x7 => nm (y2 + 1) fun x8 => k5 x7 x8))
def fX5_priceOfMinutes (p1 : Int32) (p2 : Int32) (v : bM) : Option Int32 :=
  lp (fX5_priceOfMinutes_L5 p1 p2 v) (fun _ _ => none) lpN 0 0
set_option maxRecDepth 100000 in
set_option maxHeartbeats 4000000 in
theorem mX5_priceOfMinutes {l : Launch} {p1 : Int32} {p2 : Int32} {v : bM} {r0 : Int32} (hf : fX5_priceOfMinutes p1 p2 v = some r0) : bMet l yX5_priceOfMinutes cX5_priceOfMinutes 5 (some .int) 1 0 0 LOv (fun E a => [.ref a, .int p1, .int p2]) v v (fun _ => some (.int r0)) := by
  refine bk_start (by decide +kernel) wfOv (fun _ _ => Nat.le_of_ble_eq_true rfl) ?_
  intro p e s m args below meth c D E a ls H locs X hr hl hB
  have hx := X.1
  have hb := X.2.1
  have hown := X.2.2.2.1
  have hts := X.2.2.2.2.1
  have hl : lv_has ls 5 [(0, .ref a), (1, .int p1), (2, .int p2)] := hl
  have hf := (fX5_priceOfMinutes.eq_1 p1 p2 v).symm.trans hf
  refine lv_iconst (v := 0) hx hb dX5_priceOfMinutes_0 (by decide) ?_
  refine lv_istore_n (lv' := [(3, .int 0), (0, .ref a), (1, .int p1), (2, .int p2)]) hx hb dX5_priceOfMinutes_1 rfl hl (by decide) rfl (fun ls hl => ?_)
  refine lv_iconst (v := 0) hx hb dX5_priceOfMinutes_2 (by decide) ?_
  refine lv_istore (lv' := [(4, .int 0), (3, .int 0), (0, .ref a), (1, .int p1), (2, .int p2)]) hx hb dX5_priceOfMinutes_3 hl (by decide) rfl (fun ls hl => ?_)
  have hL5 : ∀ (n5 : Nat) (y1 y2 : Int32) (H : Heap) (locs : List Loc) (ls : Array Slot), lp (fX5_priceOfMinutes_L5 p1 p2 v) (fun _ _ => none) n5 y1 y2 = some r0 → bB D E LOv a v s H locs → lv_has ls 5 [(0, .ref a), (1, .int p1), (2, .int p2), (3, .int y1), (4, .int y2)] → W p l e (rmOf 1 0 0) s m args below meth c H locs 0 0 (bQ below D E LOv a v (some (.int r0)) args s 0 0) (F0 m 5 ls []) := by
    intro n5
    induction n5 with
    | zero => intro y1 y2 H locs ls hf; cases (show (none : Option Int32) = some r0 from hf)
    | succ n5 ih5 =>
      intro y1 y2 H locs ls hf hB hl
      have hf := (fX5_priceOfMinutes_L5.eq_1 p1 p2 v (lp (fX5_priceOfMinutes_L5 p1 p2 v) (fun _ _ => none) n5) y1 y2).symm.trans (show fX5_priceOfMinutes_L5 p1 p2 v (lp (fX5_priceOfMinutes_L5 p1 p2 v) (fun _ _ => none) n5) y1 y2 = some r0 from hf)
      refine lv_iload hx hb dX5_priceOfMinutes_5 (lv_at hl 4 rfl) ?_
      refine lv_iload_n hx hb dX5_priceOfMinutes_7 rfl (lv_at hl 2 rfl) ?_
      refine lv_icmp_ge (tgt := 37) hx hb dX5_priceOfMinutes_8 (by decide) (fun c3 => ?_) (fun c3 => ?_)
      · have hf := (if_pos c3).symm.trans hf
        refine lv_iload_n hx hb dX5_priceOfMinutes_37 rfl (lv_at hl 3 rfl) ?_
        exact bk_iR X hr rfl hf hB (Nat.le_of_ble_eq_true rfl) (Nat.le_of_ble_eq_true rfl) dX5_priceOfMinutes_38
      · have hf := (if_neg c3).symm.trans hf
        refine lv_iload_n hx hb dX5_priceOfMinutes_11 rfl (lv_at hl 3 rfl) ?_
        refine lv_aload_n hx hb dX5_priceOfMinutes_12 rfl (lv_at hl 0 rfl) ?_
        refine bk_getR X hB kl_X5 0 lc_Ov_0 3 (by decide) rfl wm_150 dX5_priceOfMinutes_13 ?_
        refine lv_iload_n hx hb dX5_priceOfMinutes_16 rfl (lv_at hl 1 rfl) ?_
        refine lv_iload hx hb dX5_priceOfMinutes_17 (lv_at hl 4 rfl) ?_
        refine lv_iadd hx hb dX5_priceOfMinutes_19 ?_
        refine lv_bipush (v := 60) hx hb dX5_priceOfMinutes_20 (by decide) ?_
        refine lv_idiv hx hb dX5_priceOfMinutes_22 (by decide) ?_
        refine lv_bipush (v := 24) hx hb dX5_priceOfMinutes_23 (by decide) ?_
        obtain ⟨r5, hc4, hf⟩ := bnr_some hf
        refine bk_non (v0 := v) (w0 := v) hB (fun h1 h2 h3 => bk_runS X (Av := [.int ((p1 + y2) / 60), .int 24]) (rest := [.ref (a + 2), .int y1]) (mJ9_floorMod_7cf53 hc4) ys_J9_floorMod_7cf53 wm_635 ⟨Nat.le_of_ble_eq_true rfl, Nat.le_of_ble_eq_true rfl⟩ rfl rfl hl.1 h1 h2 h3 (Nat.le_of_ble_eq_true rfl) ⟨Nat.le_of_ble_eq_true rfl, Nat.le_of_ble_eq_true rfl⟩ dX5_priceOfMinutes_25) (fun H locs hB => ?_)
        refine W.eq (g2 := F0 m 28 ls [.int r5, .ref (a + 2), .int y1]) rfl ?_
        obtain ⟨h6, hf⟩ := ck_some hf
        refine bk_ald X hB 2 lc_Ov_2 h6 dX5_priceOfMinutes_28 ?_
        refine lv_iadd hx hb dX5_priceOfMinutes_29 ?_
        refine lv_topi (fun x7 ex7 => ?_)
        have hf := nm_use hf ex7
        refine lv_istore_n (lv' := [(3, .int x7), (0, .ref a), (1, .int p1), (2, .int p2), (4, .int y2)]) hx hb dX5_priceOfMinutes_30 rfl hl (by decide) rfl (fun ls hl => ?_)
        obtain ⟨x8, ex8⟩ : ∃ y : Int32, y = y2 + 1 := ⟨_, rfl⟩
        have hf := nm_use hf ex8
        refine lv_iinc (v := x8) (lv' := [(4, .int x8), (3, .int x7), (0, .ref a), (1, .int p1), (2, .int p2)]) hx hb dX5_priceOfMinutes_31 hl (k := 4) rfl (by rw [ex8]; rfl) (by decide) rfl (fun ls hl => ?_)
        refine lv_goto (tgt := 5) hx hb dX5_priceOfMinutes_34 (by decide) ?_
        exact ih5 x7 x8 H locs ls hf hB (lv_sub hl [2, 3, 4, 1, 0] rfl)
  exact hL5 lpN 0 0 H locs ls hf hB (lv_sub hl [2, 3, 4, 1, 0] rfl)
theorem yv_X5_priceOfMinutes : bYv yX5_priceOfMinutes RX5 cX5_priceOfMinutes 5 (some .int) 2 := ⟨⟨rfl, by decide, by decide, rfl⟩, wm_632, wm_633, wm_5, wm_634⟩

theorem dX0_copyFrom_0 : decode cX0_copyFrom 0 = .ok (.aload_n 0, 1) := by decide +kernel
theorem dX0_copyFrom_1 : decode cX0_copyFrom 1 = .ok (.aload_n 1, 1) := by decide +kernel
theorem dX0_copyFrom_2 : decode cX0_copyFrom 2 = .ok (.getfield 41, 3) := by decide +kernel
theorem dX0_copyFrom_5 : decode cX0_copyFrom 5 = .ok (.putfield 41, 3) := by decide +kernel
theorem dX0_copyFrom_8 : decode cX0_copyFrom 8 = .ok (.aload_n 1, 1) := by decide +kernel
theorem dX0_copyFrom_9 : decode cX0_copyFrom 9 = .ok (.getfield 9, 3) := by decide +kernel
theorem dX0_copyFrom_12 : decode cX0_copyFrom 12 = .ok (.aload_n 0, 1) := by decide +kernel
theorem dX0_copyFrom_13 : decode cX0_copyFrom 13 = .ok (.getfield 9, 3) := by decide +kernel
theorem dX0_copyFrom_16 : decode cX0_copyFrom 16 = .ok (.invokestatic 45, 3) := by decide +kernel
theorem dX0_copyFrom_19 : decode cX0_copyFrom 19 = .ok (.aload_n 1, 1) := by decide +kernel
theorem dX0_copyFrom_20 : decode cX0_copyFrom 20 = .ok (.getfield 15, 3) := by decide +kernel
theorem dX0_copyFrom_23 : decode cX0_copyFrom 23 = .ok (.aload_n 0, 1) := by decide +kernel
theorem dX0_copyFrom_24 : decode cX0_copyFrom 24 = .ok (.getfield 15, 3) := by decide +kernel
theorem dX0_copyFrom_27 : decode cX0_copyFrom 27 = .ok (.invokestatic 45, 3) := by decide +kernel
theorem dX0_copyFrom_30 : decode cX0_copyFrom 30 = .ok (.aload_n 1, 1) := by decide +kernel
theorem dX0_copyFrom_31 : decode cX0_copyFrom 31 = .ok (.getfield 18, 3) := by decide +kernel
theorem dX0_copyFrom_34 : decode cX0_copyFrom 34 = .ok (.aload_n 0, 1) := by decide +kernel
theorem dX0_copyFrom_35 : decode cX0_copyFrom 35 = .ok (.getfield 18, 3) := by decide +kernel
theorem dX0_copyFrom_38 : decode cX0_copyFrom 38 = .ok (.invokestatic 45, 3) := by decide +kernel
theorem dX0_copyFrom_41 : decode cX0_copyFrom 41 = .ok (.aload_n 1, 1) := by decide +kernel
theorem dX0_copyFrom_42 : decode cX0_copyFrom 42 = .ok (.getfield 21, 3) := by decide +kernel
theorem dX0_copyFrom_45 : decode cX0_copyFrom 45 = .ok (.aload_n 0, 1) := by decide +kernel
theorem dX0_copyFrom_46 : decode cX0_copyFrom 46 = .ok (.getfield 21, 3) := by decide +kernel
theorem dX0_copyFrom_49 : decode cX0_copyFrom 49 = .ok (.invokestatic 45, 3) := by decide +kernel
theorem dX0_copyFrom_52 : decode cX0_copyFrom 52 = .ok (.aload_n 1, 1) := by decide +kernel
theorem dX0_copyFrom_53 : decode cX0_copyFrom 53 = .ok (.getfield 24, 3) := by decide +kernel
theorem dX0_copyFrom_56 : decode cX0_copyFrom 56 = .ok (.aload_n 0, 1) := by decide +kernel
theorem dX0_copyFrom_57 : decode cX0_copyFrom 57 = .ok (.getfield 24, 3) := by decide +kernel
theorem dX0_copyFrom_60 : decode cX0_copyFrom 60 = .ok (.invokestatic 45, 3) := by decide +kernel
theorem dX0_copyFrom_63 : decode cX0_copyFrom 63 = .ok (.aload_n 1, 1) := by decide +kernel
theorem dX0_copyFrom_64 : decode cX0_copyFrom 64 = .ok (.getfield 27, 3) := by decide +kernel
theorem dX0_copyFrom_67 : decode cX0_copyFrom 67 = .ok (.aload_n 0, 1) := by decide +kernel
theorem dX0_copyFrom_68 : decode cX0_copyFrom 68 = .ok (.getfield 27, 3) := by decide +kernel
theorem dX0_copyFrom_71 : decode cX0_copyFrom 71 = .ok (.invokestatic 45, 3) := by decide +kernel
theorem dX0_copyFrom_74 : decode cX0_copyFrom 74 = .ok (.aload_n 1, 1) := by decide +kernel
theorem dX0_copyFrom_75 : decode cX0_copyFrom 75 = .ok (.getfield 30, 3) := by decide +kernel
theorem dX0_copyFrom_78 : decode cX0_copyFrom 78 = .ok (.aload_n 0, 1) := by decide +kernel
theorem dX0_copyFrom_79 : decode cX0_copyFrom 79 = .ok (.getfield 30, 3) := by decide +kernel
theorem dX0_copyFrom_82 : decode cX0_copyFrom 82 = .ok (.invokestatic 45, 3) := by decide +kernel
theorem dX0_copyFrom_85 : decode cX0_copyFrom 85 = .ok (.aload_n 1, 1) := by decide +kernel
theorem dX0_copyFrom_86 : decode cX0_copyFrom 86 = .ok (.getfield 33, 3) := by decide +kernel
theorem dX0_copyFrom_89 : decode cX0_copyFrom 89 = .ok (.aload_n 0, 1) := by decide +kernel
theorem dX0_copyFrom_90 : decode cX0_copyFrom 90 = .ok (.getfield 33, 3) := by decide +kernel
theorem dX0_copyFrom_93 : decode cX0_copyFrom 93 = .ok (.invokestatic 45, 3) := by decide +kernel
theorem dX0_copyFrom_96 : decode cX0_copyFrom 96 = .ok (.iconst 0, 1) := by decide +kernel
theorem dX0_copyFrom_97 : decode cX0_copyFrom 97 = .ok (.istore_n 2, 1) := by decide +kernel
theorem dX0_copyFrom_98 : decode cX0_copyFrom 98 = .ok (.iload_n 2, 1) := by decide +kernel
theorem dX0_copyFrom_99 : decode cX0_copyFrom 99 = .ok (.bipush 24, 2) := by decide +kernel
theorem dX0_copyFrom_101 : decode cX0_copyFrom 101 = .ok (.if_icmp .ge 24, 3) := by decide +kernel
theorem dX0_copyFrom_104 : decode cX0_copyFrom 104 = .ok (.aload_n 1, 1) := by decide +kernel
theorem dX0_copyFrom_105 : decode cX0_copyFrom 105 = .ok (.getfield 38, 3) := by decide +kernel
theorem dX0_copyFrom_108 : decode cX0_copyFrom 108 = .ok (.iload_n 2, 1) := by decide +kernel
theorem dX0_copyFrom_109 : decode cX0_copyFrom 109 = .ok (.aaload, 1) := by decide +kernel
theorem dX0_copyFrom_110 : decode cX0_copyFrom 110 = .ok (.aload_n 0, 1) := by decide +kernel
theorem dX0_copyFrom_111 : decode cX0_copyFrom 111 = .ok (.getfield 38, 3) := by decide +kernel
theorem dX0_copyFrom_114 : decode cX0_copyFrom 114 = .ok (.iload_n 2, 1) := by decide +kernel
theorem dX0_copyFrom_115 : decode cX0_copyFrom 115 = .ok (.aaload, 1) := by decide +kernel
theorem dX0_copyFrom_116 : decode cX0_copyFrom 116 = .ok (.invokestatic 45, 3) := by decide +kernel
theorem dX0_copyFrom_119 : decode cX0_copyFrom 119 = .ok (.iinc 2 1, 3) := by decide +kernel
theorem dX0_copyFrom_122 : decode cX0_copyFrom 122 = .ok (.goto (-24), 3) := by decide +kernel
theorem dX0_copyFrom_125 : decode cX0_copyFrom 125 = .ok (.return_, 1) := by decide +kernel
def fX0_copyFrom_L98 (u : bM) (k98 : Int32 → bM → Option bM) (y11 : Int32) (v12 : bM) : Option bM :=
  (if 24 ≤ y11 then (some v12) else (ck y11 24 <| ck y11 24 <| nm (spl v12 (193 + 5 * y11.toNatClampNeg) 5 (vw u (193 + 5 * y11.toNatClampNeg))) fun v16 => nm (y11 + 1) fun x17 => k98 x17 v16))
def fX0_copyFrom  (v u : bM) : Option bM :=
  nm (u 0) fun x1 => nm (upd v 0 x1) fun v2 => nm (spl v2 (1) 24 (vw u (1))) fun v3 => nm (spl v3 (25) 24 (vw u (25))) fun v4 => nm (spl v4 (49) 24 (vw u (49))) fun v5 => nm (spl v5 (73) 24 (vw u (73))) fun v6 => nm (spl v6 (97) 24 (vw u (97))) fun v7 => nm (spl v7 (121) 24 (vw u (121))) fun v8 => nm (spl v8 (145) 24 (vw u (145))) fun v9 => nm (spl v9 (169) 24 (vw u (169))) fun v10 => lp (fX0_copyFrom_L98 u) (fun _ _ => none) lpN 0 v10
set_option maxRecDepth 100000 in
set_option maxHeartbeats 4000000 in
theorem mX0_copyFrom {l : Launch}  {v u : bM} {w0 : bM} (hf : fX0_copyFrom  v u = some w0) : bMet2 l yX0_copyFrom cX0_copyFrom 3 none 2 LBa (fun E a b => [.ref a, .ref b]) v u w0 (fun _ => none) := by
  refine bk_start2 (by decide +kernel) wfBa (fun _ _ _ => Nat.le_of_ble_eq_true rfl) ?_
  intro p e s m args below meth c D E a b ls H locs X hr hl hB hu hab
  have hx := X.1
  have hb := X.2.1
  have hown := X.2.2.2.1
  have hts := X.2.2.2.2.1
  have hl : lv_has ls 3 [(0, .ref a), (1, .ref b)] := hl
  have hf := (fX0_copyFrom.eq_1  v u).symm.trans hf
  refine lv_aload_n hx hb dX0_copyFrom_0 rfl (lv_at hl 0 rfl) ?_
  refine lv_aload_n hx hb dX0_copyFrom_1 rfl (lv_at hl 1 rfl) ?_
  refine bk_getI0 X (srcK plBa hB hu hab) kl_X0 0 lc_Ba_0 0 (by decide) rfl wm_169 dX0_copyFrom_2 ?_
  refine lv_topi (fun x1 ex1 => ?_)
  have hf := nm_use hf ex1
  refine bk_putI X hB kl_X0 0 lc_Ba_0 0 (by decide) rfl rfl rfl wm_169 dX0_copyFrom_5 rfl (fun H locs hB => ?_)
  obtain ⟨v2, ev2⟩ : ∃ y : bM, y = upd v 0 x1 := ⟨_, rfl⟩
  have hf := nm_use hf ev2
  rw [← ev2] at hB
  refine lv_aload_n hx hb dX0_copyFrom_8 rfl (lv_at hl 1 rfl) ?_
  refine bk_getR0 X (srcK plBa hB hu hab) kl_X0 0 lc_Ba_0 1 (by decide) rfl wm_172 dX0_copyFrom_9 ?_
  refine lv_aload_n hx hb dX0_copyFrom_12 rfl (lv_at hl 0 rfl) ?_
  refine bk_getR X hB kl_X0 0 lc_Ba_0 1 (by decide) rfl wm_172 dX0_copyFrom_13 ?_
  refine bk_sub (bSub_arr hB.2.2.1 (by decide) lc_Ba_1) hB (fun h1 h2 h3 => bk_runSN2 X (Av := [.ref (b + 1), .ref (a + 1)]) (rest := []) (mX8_copyRow (n := 24) (by decide)) ys_X8_copyRow (List.mem_of_getElem? (i := 12) rfl) ⟨Nat.le_of_ble_eq_true rfl, Nat.le_of_ble_eq_true rfl⟩ rfl rfl hl.1 (Blk.subArr wfBa (by decide) lc_Ba_1 (srcK plBa hB hu hab)) (apA hab lc_Ba_1 lc_Ba_1) h1 h2 h3 (Nat.le_of_ble_eq_true rfl) ⟨Nat.le_of_ble_eq_true rfl, Nat.le_of_ble_eq_true rfl⟩ dX0_copyFrom_16) (fun H locs hB => ?_)
  refine W.eq (g2 := F0 m 19 ls []) rfl ?_
  obtain ⟨v3, ev3⟩ : ∃ y : bM, y = spl v2 (1) 24 (vw u (1)) := ⟨_, rfl⟩
  have hf := nm_use hf ev3
  rw [← ev3] at hB
  refine lv_aload_n hx hb dX0_copyFrom_19 rfl (lv_at hl 1 rfl) ?_
  refine bk_getR0 X (srcK plBa hB hu hab) kl_X0 0 lc_Ba_0 2 (by decide) rfl wm_175 dX0_copyFrom_20 ?_
  refine lv_aload_n hx hb dX0_copyFrom_23 rfl (lv_at hl 0 rfl) ?_
  refine bk_getR X hB kl_X0 0 lc_Ba_0 2 (by decide) rfl wm_175 dX0_copyFrom_24 ?_
  refine bk_sub (bSub_arr hB.2.2.1 (by decide) lc_Ba_2) hB (fun h1 h2 h3 => bk_runSN2 X (Av := [.ref (b + 2), .ref (a + 2)]) (rest := []) (mX8_copyRow (n := 24) (by decide)) ys_X8_copyRow (List.mem_of_getElem? (i := 12) rfl) ⟨Nat.le_of_ble_eq_true rfl, Nat.le_of_ble_eq_true rfl⟩ rfl rfl hl.1 (Blk.subArr wfBa (by decide) lc_Ba_2 (srcK plBa hB hu hab)) (apA hab lc_Ba_2 lc_Ba_2) h1 h2 h3 (Nat.le_of_ble_eq_true rfl) ⟨Nat.le_of_ble_eq_true rfl, Nat.le_of_ble_eq_true rfl⟩ dX0_copyFrom_27) (fun H locs hB => ?_)
  refine W.eq (g2 := F0 m 30 ls []) rfl ?_
  obtain ⟨v4, ev4⟩ : ∃ y : bM, y = spl v3 (25) 24 (vw u (25)) := ⟨_, rfl⟩
  have hf := nm_use hf ev4
  rw [← ev4] at hB
  refine lv_aload_n hx hb dX0_copyFrom_30 rfl (lv_at hl 1 rfl) ?_
  refine bk_getR0 X (srcK plBa hB hu hab) kl_X0 0 lc_Ba_0 3 (by decide) rfl wm_178 dX0_copyFrom_31 ?_
  refine lv_aload_n hx hb dX0_copyFrom_34 rfl (lv_at hl 0 rfl) ?_
  refine bk_getR X hB kl_X0 0 lc_Ba_0 3 (by decide) rfl wm_178 dX0_copyFrom_35 ?_
  refine bk_sub (bSub_arr hB.2.2.1 (by decide) lc_Ba_3) hB (fun h1 h2 h3 => bk_runSN2 X (Av := [.ref (b + 3), .ref (a + 3)]) (rest := []) (mX8_copyRow (n := 24) (by decide)) ys_X8_copyRow (List.mem_of_getElem? (i := 12) rfl) ⟨Nat.le_of_ble_eq_true rfl, Nat.le_of_ble_eq_true rfl⟩ rfl rfl hl.1 (Blk.subArr wfBa (by decide) lc_Ba_3 (srcK plBa hB hu hab)) (apA hab lc_Ba_3 lc_Ba_3) h1 h2 h3 (Nat.le_of_ble_eq_true rfl) ⟨Nat.le_of_ble_eq_true rfl, Nat.le_of_ble_eq_true rfl⟩ dX0_copyFrom_38) (fun H locs hB => ?_)
  refine W.eq (g2 := F0 m 41 ls []) rfl ?_
  obtain ⟨v5, ev5⟩ : ∃ y : bM, y = spl v4 (49) 24 (vw u (49)) := ⟨_, rfl⟩
  have hf := nm_use hf ev5
  rw [← ev5] at hB
  refine lv_aload_n hx hb dX0_copyFrom_41 rfl (lv_at hl 1 rfl) ?_
  refine bk_getR0 X (srcK plBa hB hu hab) kl_X0 0 lc_Ba_0 4 (by decide) rfl wm_181 dX0_copyFrom_42 ?_
  refine lv_aload_n hx hb dX0_copyFrom_45 rfl (lv_at hl 0 rfl) ?_
  refine bk_getR X hB kl_X0 0 lc_Ba_0 4 (by decide) rfl wm_181 dX0_copyFrom_46 ?_
  refine bk_sub (bSub_arr hB.2.2.1 (by decide) lc_Ba_4) hB (fun h1 h2 h3 => bk_runSN2 X (Av := [.ref (b + 4), .ref (a + 4)]) (rest := []) (mX8_copyRow (n := 24) (by decide)) ys_X8_copyRow (List.mem_of_getElem? (i := 12) rfl) ⟨Nat.le_of_ble_eq_true rfl, Nat.le_of_ble_eq_true rfl⟩ rfl rfl hl.1 (Blk.subArr wfBa (by decide) lc_Ba_4 (srcK plBa hB hu hab)) (apA hab lc_Ba_4 lc_Ba_4) h1 h2 h3 (Nat.le_of_ble_eq_true rfl) ⟨Nat.le_of_ble_eq_true rfl, Nat.le_of_ble_eq_true rfl⟩ dX0_copyFrom_49) (fun H locs hB => ?_)
  refine W.eq (g2 := F0 m 52 ls []) rfl ?_
  obtain ⟨v6, ev6⟩ : ∃ y : bM, y = spl v5 (73) 24 (vw u (73)) := ⟨_, rfl⟩
  have hf := nm_use hf ev6
  rw [← ev6] at hB
  refine lv_aload_n hx hb dX0_copyFrom_52 rfl (lv_at hl 1 rfl) ?_
  refine bk_getR0 X (srcK plBa hB hu hab) kl_X0 0 lc_Ba_0 5 (by decide) rfl wm_184 dX0_copyFrom_53 ?_
  refine lv_aload_n hx hb dX0_copyFrom_56 rfl (lv_at hl 0 rfl) ?_
  refine bk_getR X hB kl_X0 0 lc_Ba_0 5 (by decide) rfl wm_184 dX0_copyFrom_57 ?_
  refine bk_sub (bSub_arr hB.2.2.1 (by decide) lc_Ba_5) hB (fun h1 h2 h3 => bk_runSN2 X (Av := [.ref (b + 5), .ref (a + 5)]) (rest := []) (mX8_copyRow (n := 24) (by decide)) ys_X8_copyRow (List.mem_of_getElem? (i := 12) rfl) ⟨Nat.le_of_ble_eq_true rfl, Nat.le_of_ble_eq_true rfl⟩ rfl rfl hl.1 (Blk.subArr wfBa (by decide) lc_Ba_5 (srcK plBa hB hu hab)) (apA hab lc_Ba_5 lc_Ba_5) h1 h2 h3 (Nat.le_of_ble_eq_true rfl) ⟨Nat.le_of_ble_eq_true rfl, Nat.le_of_ble_eq_true rfl⟩ dX0_copyFrom_60) (fun H locs hB => ?_)
  refine W.eq (g2 := F0 m 63 ls []) rfl ?_
  obtain ⟨v7, ev7⟩ : ∃ y : bM, y = spl v6 (97) 24 (vw u (97)) := ⟨_, rfl⟩
  have hf := nm_use hf ev7
  rw [← ev7] at hB
  refine lv_aload_n hx hb dX0_copyFrom_63 rfl (lv_at hl 1 rfl) ?_
  refine bk_getR0 X (srcK plBa hB hu hab) kl_X0 0 lc_Ba_0 6 (by decide) rfl wm_187 dX0_copyFrom_64 ?_
  refine lv_aload_n hx hb dX0_copyFrom_67 rfl (lv_at hl 0 rfl) ?_
  refine bk_getR X hB kl_X0 0 lc_Ba_0 6 (by decide) rfl wm_187 dX0_copyFrom_68 ?_
  refine bk_sub (bSub_arr hB.2.2.1 (by decide) lc_Ba_6) hB (fun h1 h2 h3 => bk_runSN2 X (Av := [.ref (b + 6), .ref (a + 6)]) (rest := []) (mX8_copyRow (n := 24) (by decide)) ys_X8_copyRow (List.mem_of_getElem? (i := 12) rfl) ⟨Nat.le_of_ble_eq_true rfl, Nat.le_of_ble_eq_true rfl⟩ rfl rfl hl.1 (Blk.subArr wfBa (by decide) lc_Ba_6 (srcK plBa hB hu hab)) (apA hab lc_Ba_6 lc_Ba_6) h1 h2 h3 (Nat.le_of_ble_eq_true rfl) ⟨Nat.le_of_ble_eq_true rfl, Nat.le_of_ble_eq_true rfl⟩ dX0_copyFrom_71) (fun H locs hB => ?_)
  refine W.eq (g2 := F0 m 74 ls []) rfl ?_
  obtain ⟨v8, ev8⟩ : ∃ y : bM, y = spl v7 (121) 24 (vw u (121)) := ⟨_, rfl⟩
  have hf := nm_use hf ev8
  rw [← ev8] at hB
  refine lv_aload_n hx hb dX0_copyFrom_74 rfl (lv_at hl 1 rfl) ?_
  refine bk_getR0 X (srcK plBa hB hu hab) kl_X0 0 lc_Ba_0 7 (by decide) rfl wm_190 dX0_copyFrom_75 ?_
  refine lv_aload_n hx hb dX0_copyFrom_78 rfl (lv_at hl 0 rfl) ?_
  refine bk_getR X hB kl_X0 0 lc_Ba_0 7 (by decide) rfl wm_190 dX0_copyFrom_79 ?_
  refine bk_sub (bSub_arr hB.2.2.1 (by decide) lc_Ba_7) hB (fun h1 h2 h3 => bk_runSN2 X (Av := [.ref (b + 7), .ref (a + 7)]) (rest := []) (mX8_copyRow (n := 24) (by decide)) ys_X8_copyRow (List.mem_of_getElem? (i := 12) rfl) ⟨Nat.le_of_ble_eq_true rfl, Nat.le_of_ble_eq_true rfl⟩ rfl rfl hl.1 (Blk.subArr wfBa (by decide) lc_Ba_7 (srcK plBa hB hu hab)) (apA hab lc_Ba_7 lc_Ba_7) h1 h2 h3 (Nat.le_of_ble_eq_true rfl) ⟨Nat.le_of_ble_eq_true rfl, Nat.le_of_ble_eq_true rfl⟩ dX0_copyFrom_82) (fun H locs hB => ?_)
  refine W.eq (g2 := F0 m 85 ls []) rfl ?_
  obtain ⟨v9, ev9⟩ : ∃ y : bM, y = spl v8 (145) 24 (vw u (145)) := ⟨_, rfl⟩
  have hf := nm_use hf ev9
  rw [← ev9] at hB
  refine lv_aload_n hx hb dX0_copyFrom_85 rfl (lv_at hl 1 rfl) ?_
  refine bk_getR0 X (srcK plBa hB hu hab) kl_X0 0 lc_Ba_0 8 (by decide) rfl wm_193 dX0_copyFrom_86 ?_
  refine lv_aload_n hx hb dX0_copyFrom_89 rfl (lv_at hl 0 rfl) ?_
  refine bk_getR X hB kl_X0 0 lc_Ba_0 8 (by decide) rfl wm_193 dX0_copyFrom_90 ?_
  refine bk_sub (bSub_arr hB.2.2.1 (by decide) lc_Ba_8) hB (fun h1 h2 h3 => bk_runSN2 X (Av := [.ref (b + 8), .ref (a + 8)]) (rest := []) (mX8_copyRow (n := 24) (by decide)) ys_X8_copyRow (List.mem_of_getElem? (i := 12) rfl) ⟨Nat.le_of_ble_eq_true rfl, Nat.le_of_ble_eq_true rfl⟩ rfl rfl hl.1 (Blk.subArr wfBa (by decide) lc_Ba_8 (srcK plBa hB hu hab)) (apA hab lc_Ba_8 lc_Ba_8) h1 h2 h3 (Nat.le_of_ble_eq_true rfl) ⟨Nat.le_of_ble_eq_true rfl, Nat.le_of_ble_eq_true rfl⟩ dX0_copyFrom_93) (fun H locs hB => ?_)
  refine W.eq (g2 := F0 m 96 ls []) rfl ?_
  obtain ⟨v10, ev10⟩ : ∃ y : bM, y = spl v9 (169) 24 (vw u (169)) := ⟨_, rfl⟩
  have hf := nm_use hf ev10
  rw [← ev10] at hB
  refine lv_iconst (v := 0) hx hb dX0_copyFrom_96 (by decide) ?_
  refine lv_istore_n (lv' := [(2, .int 0), (0, .ref a), (1, .ref b)]) hx hb dX0_copyFrom_97 rfl hl (by decide) rfl (fun ls hl => ?_)
  have hL98 : ∀ (n98 : Nat) (y11 : Int32) (v12 : bM) (H : Heap) (locs : List Loc) (ls : Array Slot), lp (fX0_copyFrom_L98 u) (fun _ _ => none) n98 y11 v12 = some w0 → bB D E LBa a v12 s H locs → lv_has ls 3 [(0, .ref a), (1, .ref b), (2, .int y11)] → W p l e (rmOf 2 0 0) s m args below meth c H locs 0 0 (bQ below D E LBa a w0 none args s 0 0) (F0 m 98 ls []) := by
    intro n98
    induction n98 with
    | zero => intro y11 v12 H locs ls hf; cases (show (none : Option bM) = some w0 from hf)
    | succ n98 ih98 =>
      intro y11 v12 H locs ls hf hB hl
      have hf := (fX0_copyFrom_L98.eq_1 u (lp (fX0_copyFrom_L98 u) (fun _ _ => none) n98) y11 v12).symm.trans (show fX0_copyFrom_L98 u (lp (fX0_copyFrom_L98 u) (fun _ _ => none) n98) y11 v12 = some w0 from hf)
      refine lv_iload_n hx hb dX0_copyFrom_98 rfl (lv_at hl 2 rfl) ?_
      refine lv_bipush (v := 24) hx hb dX0_copyFrom_99 (by decide) ?_
      refine lv_icmp_ge (tgt := 125) hx hb dX0_copyFrom_101 (by decide) (fun c13 => ?_) (fun c13 => ?_)
      · have hf := (if_pos c13).symm.trans hf
        exact bk_vW X hr rfl hf hB (Nat.le_of_ble_eq_true rfl) (Nat.le_of_ble_eq_true rfl) dX0_copyFrom_125
      · have hf := (if_neg c13).symm.trans hf
        refine lv_aload_n hx hb dX0_copyFrom_104 rfl (lv_at hl 1 rfl) ?_
        refine bk_getR0 X (srcK plBa hB hu hab) kl_X0 0 lc_Ba_0 9 (by decide) rfl wm_196 dX0_copyFrom_105 ?_
        refine lv_iload_n hx hb dX0_copyFrom_108 rfl (lv_at hl 2 rfl) ?_
        obtain ⟨h14, hf⟩ := ck_some hf
        refine bk_rld0 X (srcK plBa hB hu hab) 9 lc_Ba_9 h14 dX0_copyFrom_109 ?_
        refine lv_aload_n hx hb dX0_copyFrom_110 rfl (lv_at hl 0 rfl) ?_
        refine bk_getR X hB kl_X0 0 lc_Ba_0 9 (by decide) rfl wm_196 dX0_copyFrom_111 ?_
        refine lv_iload_n hx hb dX0_copyFrom_114 rfl (lv_at hl 2 rfl) ?_
        obtain ⟨h15, hf⟩ := ck_some hf
        refine bk_rld X hB 9 lc_Ba_9 h15 dX0_copyFrom_115 ?_
        refine bk_sub (bSub_arr hB.2.2.1 (by decide) (lr_Ba_9 _ (vp_lt h15))) hB (fun h1 h2 h3 => bk_runSN2 X (Av := [.ref (b + (10 + 1 * y11.toNatClampNeg)), .ref (a + (10 + 1 * y11.toNatClampNeg))]) (rest := []) (mX8_copyRow (n := 5) (by decide)) ys_X8_copyRow (List.mem_of_getElem? (i := 12) rfl) ⟨Nat.le_of_ble_eq_true rfl, Nat.le_of_ble_eq_true rfl⟩ rfl rfl hl.1 (Blk.subArr wfBa (by decide) (lr_Ba_9 _ (vp_lt h14)) (srcK plBa hB hu hab)) (apA hab (lr_Ba_9 _ (vp_lt h15)) (lr_Ba_9 _ (vp_lt h14))) h1 h2 h3 (Nat.le_of_ble_eq_true rfl) ⟨Nat.le_of_ble_eq_true rfl, Nat.le_of_ble_eq_true rfl⟩ dX0_copyFrom_116) (fun H locs hB => ?_)
        refine W.eq (g2 := F0 m 119 ls []) rfl ?_
        obtain ⟨v16, ev16⟩ : ∃ y : bM, y = spl v12 (193 + 5 * y11.toNatClampNeg) 5 (vw u (193 + 5 * y11.toNatClampNeg)) := ⟨_, rfl⟩
        have hf := nm_use hf ev16
        rw [← ev16] at hB
        obtain ⟨x17, ex17⟩ : ∃ y : Int32, y = y11 + 1 := ⟨_, rfl⟩
        have hf := nm_use hf ex17
        refine lv_iinc (v := x17) (lv' := [(2, .int x17), (0, .ref a), (1, .ref b)]) hx hb dX0_copyFrom_119 hl (k := 2) rfl (by rw [ex17]; rfl) (by decide) rfl (fun ls hl => ?_)
        refine lv_goto (tgt := 98) hx hb dX0_copyFrom_122 (by decide) ?_
        exact ih98 x17 v16 H locs ls hf hB (lv_sub hl [1, 2, 0] rfl)
  exact hL98 lpN 0 v10 H locs ls hf hB (lv_sub hl [1, 2, 0] rfl)
theorem yv_X0_copyFrom : bYv yX0_copyFrom RX0 cX0_copyFrom 3 none 1 := ⟨⟨rfl, by decide, by decide, rfl⟩, wm_729, wm_730, wm_6, wm_731⟩

theorem dX0_sumOfPlanned_0 : decode cX0_sumOfPlanned 0 = .ok (.aload_n 0, 1) := by decide +kernel
theorem dX0_sumOfPlanned_1 : decode cX0_sumOfPlanned 1 = .ok (.getfield 15, 3) := by decide +kernel
theorem dX0_sumOfPlanned_4 : decode cX0_sumOfPlanned 4 = .ok (.aload_n 0, 1) := by decide +kernel
theorem dX0_sumOfPlanned_5 : decode cX0_sumOfPlanned 5 = .ok (.getfield 41, 3) := by decide +kernel
theorem dX0_sumOfPlanned_8 : decode cX0_sumOfPlanned 8 = .ok (.invokestatic 49, 3) := by decide +kernel
theorem dX0_sumOfPlanned_11 : decode cX0_sumOfPlanned 11 = .ok (.ireturn, 1) := by decide +kernel
def fX0_sumOfPlanned  (v : bM) : Option Int32 :=
  bnr (fX8_sumOf 24 (v 0) (vw v (25))) fun r2 => some (r2)
set_option maxRecDepth 100000 in
set_option maxHeartbeats 4000000 in
theorem mX0_sumOfPlanned {l : Launch}  {v : bM} {r0 : Int32} (hf : fX0_sumOfPlanned  v = some r0) : bMet l yX0_sumOfPlanned cX0_sumOfPlanned 1 (some .int) 1 0 0 LBa (fun E a => [.ref a]) v v (fun _ => some (.int r0)) := by
  refine bk_start (by decide +kernel) wfBa (fun _ _ => Nat.le_of_ble_eq_true rfl) ?_
  intro p e s m args below meth c D E a ls H locs X hr hl hB
  have hx := X.1
  have hb := X.2.1
  have hown := X.2.2.2.1
  have hts := X.2.2.2.2.1
  have hl : lv_has ls 1 [(0, .ref a)] := hl
  have hf := (fX0_sumOfPlanned.eq_1  v).symm.trans hf
  refine lv_aload_n hx hb dX0_sumOfPlanned_0 rfl (lv_at hl 0 rfl) ?_
  refine bk_getR X hB kl_X0 0 lc_Ba_0 2 (by decide) rfl wm_175 dX0_sumOfPlanned_1 ?_
  refine lv_aload_n hx hb dX0_sumOfPlanned_4 rfl (lv_at hl 0 rfl) ?_
  refine bk_getI X hB kl_X0 0 lc_Ba_0 0 (by decide) rfl wm_169 dX0_sumOfPlanned_5 ?_
  obtain ⟨r2, hc1, hf⟩ := bnr_some hf
  refine bk_subR (bSub_arr hB.2.2.1 (by decide) lc_Ba_2) hB (fun h1 h2 h3 => bk_runSN X (Av := [.ref (a + 2), .int (v 0)]) (rest := []) (mX8_sumOf hc1) ys_X8_sumOf (List.mem_of_getElem? (i := 13) rfl) ⟨Nat.le_of_ble_eq_true rfl, Nat.le_of_ble_eq_true rfl⟩ rfl rfl hl.1 h1 h2 h3 (Nat.le_of_ble_eq_true rfl) ⟨Nat.le_of_ble_eq_true rfl, Nat.le_of_ble_eq_true rfl⟩ dX0_sumOfPlanned_8) (fun H locs hB => ?_)
  refine W.eq (g2 := F0 m 11 ls [.int r2]) rfl ?_
  exact bk_iR X hr rfl hf hB (Nat.le_of_ble_eq_true rfl) (Nat.le_of_ble_eq_true rfl) dX0_sumOfPlanned_11
theorem yv_X0_sumOfPlanned : bYv yX0_sumOfPlanned RX0 cX0_sumOfPlanned 1 (some .int) 0 := ⟨⟨rfl, by decide, by decide, rfl⟩, wm_884, wm_885, wm_6, wm_886⟩

theorem dX0_sumOfBurnt_0 : decode cX0_sumOfBurnt 0 = .ok (.aload_n 0, 1) := by decide +kernel
theorem dX0_sumOfBurnt_1 : decode cX0_sumOfBurnt 1 = .ok (.getfield 18, 3) := by decide +kernel
theorem dX0_sumOfBurnt_4 : decode cX0_sumOfBurnt 4 = .ok (.aload_n 0, 1) := by decide +kernel
theorem dX0_sumOfBurnt_5 : decode cX0_sumOfBurnt 5 = .ok (.getfield 41, 3) := by decide +kernel
theorem dX0_sumOfBurnt_8 : decode cX0_sumOfBurnt 8 = .ok (.invokestatic 49, 3) := by decide +kernel
theorem dX0_sumOfBurnt_11 : decode cX0_sumOfBurnt 11 = .ok (.ireturn, 1) := by decide +kernel
def fX0_sumOfBurnt  (v : bM) : Option Int32 :=
  bnr (fX8_sumOf 24 (v 0) (vw v (49))) fun r2 => some (r2)
set_option maxRecDepth 100000 in
set_option maxHeartbeats 4000000 in
theorem mX0_sumOfBurnt {l : Launch}  {v : bM} {r0 : Int32} (hf : fX0_sumOfBurnt  v = some r0) : bMet l yX0_sumOfBurnt cX0_sumOfBurnt 1 (some .int) 1 0 0 LBa (fun E a => [.ref a]) v v (fun _ => some (.int r0)) := by
  refine bk_start (by decide +kernel) wfBa (fun _ _ => Nat.le_of_ble_eq_true rfl) ?_
  intro p e s m args below meth c D E a ls H locs X hr hl hB
  have hx := X.1
  have hb := X.2.1
  have hown := X.2.2.2.1
  have hts := X.2.2.2.2.1
  have hl : lv_has ls 1 [(0, .ref a)] := hl
  have hf := (fX0_sumOfBurnt.eq_1  v).symm.trans hf
  refine lv_aload_n hx hb dX0_sumOfBurnt_0 rfl (lv_at hl 0 rfl) ?_
  refine bk_getR X hB kl_X0 0 lc_Ba_0 3 (by decide) rfl wm_178 dX0_sumOfBurnt_1 ?_
  refine lv_aload_n hx hb dX0_sumOfBurnt_4 rfl (lv_at hl 0 rfl) ?_
  refine bk_getI X hB kl_X0 0 lc_Ba_0 0 (by decide) rfl wm_169 dX0_sumOfBurnt_5 ?_
  obtain ⟨r2, hc1, hf⟩ := bnr_some hf
  refine bk_subR (bSub_arr hB.2.2.1 (by decide) lc_Ba_3) hB (fun h1 h2 h3 => bk_runSN X (Av := [.ref (a + 3), .int (v 0)]) (rest := []) (mX8_sumOf hc1) ys_X8_sumOf (List.mem_of_getElem? (i := 13) rfl) ⟨Nat.le_of_ble_eq_true rfl, Nat.le_of_ble_eq_true rfl⟩ rfl rfl hl.1 h1 h2 h3 (Nat.le_of_ble_eq_true rfl) ⟨Nat.le_of_ble_eq_true rfl, Nat.le_of_ble_eq_true rfl⟩ dX0_sumOfBurnt_8) (fun H locs hB => ?_)
  refine W.eq (g2 := F0 m 11 ls [.int r2]) rfl ?_
  exact bk_iR X hr rfl hf hB (Nat.le_of_ble_eq_true rfl) (Nat.le_of_ble_eq_true rfl) dX0_sumOfBurnt_11
theorem yv_X0_sumOfBurnt : bYv yX0_sumOfBurnt RX0 cX0_sumOfBurnt 1 (some .int) 0 := ⟨⟨rfl, by decide, by decide, rfl⟩, wm_888, wm_889, wm_6, wm_890⟩

theorem dX0_sumOfOvenCosts_0 : decode cX0_sumOfOvenCosts 0 = .ok (.aload_n 0, 1) := by decide +kernel
theorem dX0_sumOfOvenCosts_1 : decode cX0_sumOfOvenCosts 1 = .ok (.getfield 30, 3) := by decide +kernel
theorem dX0_sumOfOvenCosts_4 : decode cX0_sumOfOvenCosts 4 = .ok (.aload_n 0, 1) := by decide +kernel
theorem dX0_sumOfOvenCosts_5 : decode cX0_sumOfOvenCosts 5 = .ok (.getfield 41, 3) := by decide +kernel
theorem dX0_sumOfOvenCosts_8 : decode cX0_sumOfOvenCosts 8 = .ok (.invokestatic 49, 3) := by decide +kernel
theorem dX0_sumOfOvenCosts_11 : decode cX0_sumOfOvenCosts 11 = .ok (.ireturn, 1) := by decide +kernel
def fX0_sumOfOvenCosts  (v : bM) : Option Int32 :=
  bnr (fX8_sumOf 24 (v 0) (vw v (145))) fun r2 => some (r2)
set_option maxRecDepth 100000 in
set_option maxHeartbeats 4000000 in
theorem mX0_sumOfOvenCosts {l : Launch}  {v : bM} {r0 : Int32} (hf : fX0_sumOfOvenCosts  v = some r0) : bMet l yX0_sumOfOvenCosts cX0_sumOfOvenCosts 1 (some .int) 1 0 0 LBa (fun E a => [.ref a]) v v (fun _ => some (.int r0)) := by
  refine bk_start (by decide +kernel) wfBa (fun _ _ => Nat.le_of_ble_eq_true rfl) ?_
  intro p e s m args below meth c D E a ls H locs X hr hl hB
  have hx := X.1
  have hb := X.2.1
  have hown := X.2.2.2.1
  have hts := X.2.2.2.2.1
  have hl : lv_has ls 1 [(0, .ref a)] := hl
  have hf := (fX0_sumOfOvenCosts.eq_1  v).symm.trans hf
  refine lv_aload_n hx hb dX0_sumOfOvenCosts_0 rfl (lv_at hl 0 rfl) ?_
  refine bk_getR X hB kl_X0 0 lc_Ba_0 7 (by decide) rfl wm_190 dX0_sumOfOvenCosts_1 ?_
  refine lv_aload_n hx hb dX0_sumOfOvenCosts_4 rfl (lv_at hl 0 rfl) ?_
  refine bk_getI X hB kl_X0 0 lc_Ba_0 0 (by decide) rfl wm_169 dX0_sumOfOvenCosts_5 ?_
  obtain ⟨r2, hc1, hf⟩ := bnr_some hf
  refine bk_subR (bSub_arr hB.2.2.1 (by decide) lc_Ba_7) hB (fun h1 h2 h3 => bk_runSN X (Av := [.ref (a + 7), .int (v 0)]) (rest := []) (mX8_sumOf hc1) ys_X8_sumOf (List.mem_of_getElem? (i := 13) rfl) ⟨Nat.le_of_ble_eq_true rfl, Nat.le_of_ble_eq_true rfl⟩ rfl rfl hl.1 h1 h2 h3 (Nat.le_of_ble_eq_true rfl) ⟨Nat.le_of_ble_eq_true rfl, Nat.le_of_ble_eq_true rfl⟩ dX0_sumOfOvenCosts_8) (fun H locs hB => ?_)
  refine W.eq (g2 := F0 m 11 ls [.int r2]) rfl ?_
  exact bk_iR X hr rfl hf hB (Nat.le_of_ble_eq_true rfl) (Nat.le_of_ble_eq_true rfl) dX0_sumOfOvenCosts_11
theorem yv_X0_sumOfOvenCosts : bYv yX0_sumOfOvenCosts RX0 cX0_sumOfOvenCosts 1 (some .int) 0 := ⟨⟨rfl, by decide, by decide, rfl⟩, wm_829, wm_830, wm_6, wm_831⟩

theorem dX0_sumOfLosses_0 : decode cX0_sumOfLosses 0 = .ok (.aload_n 0, 1) := by decide +kernel
theorem dX0_sumOfLosses_1 : decode cX0_sumOfLosses 1 = .ok (.getfield 33, 3) := by decide +kernel
theorem dX0_sumOfLosses_4 : decode cX0_sumOfLosses 4 = .ok (.aload_n 0, 1) := by decide +kernel
theorem dX0_sumOfLosses_5 : decode cX0_sumOfLosses 5 = .ok (.getfield 41, 3) := by decide +kernel
theorem dX0_sumOfLosses_8 : decode cX0_sumOfLosses 8 = .ok (.invokestatic 49, 3) := by decide +kernel
theorem dX0_sumOfLosses_11 : decode cX0_sumOfLosses 11 = .ok (.ireturn, 1) := by decide +kernel
def fX0_sumOfLosses  (v : bM) : Option Int32 :=
  bnr (fX8_sumOf 24 (v 0) (vw v (169))) fun r2 => some (r2)
set_option maxRecDepth 100000 in
set_option maxHeartbeats 4000000 in
theorem mX0_sumOfLosses {l : Launch}  {v : bM} {r0 : Int32} (hf : fX0_sumOfLosses  v = some r0) : bMet l yX0_sumOfLosses cX0_sumOfLosses 1 (some .int) 1 0 0 LBa (fun E a => [.ref a]) v v (fun _ => some (.int r0)) := by
  refine bk_start (by decide +kernel) wfBa (fun _ _ => Nat.le_of_ble_eq_true rfl) ?_
  intro p e s m args below meth c D E a ls H locs X hr hl hB
  have hx := X.1
  have hb := X.2.1
  have hown := X.2.2.2.1
  have hts := X.2.2.2.2.1
  have hl : lv_has ls 1 [(0, .ref a)] := hl
  have hf := (fX0_sumOfLosses.eq_1  v).symm.trans hf
  refine lv_aload_n hx hb dX0_sumOfLosses_0 rfl (lv_at hl 0 rfl) ?_
  refine bk_getR X hB kl_X0 0 lc_Ba_0 8 (by decide) rfl wm_193 dX0_sumOfLosses_1 ?_
  refine lv_aload_n hx hb dX0_sumOfLosses_4 rfl (lv_at hl 0 rfl) ?_
  refine bk_getI X hB kl_X0 0 lc_Ba_0 0 (by decide) rfl wm_169 dX0_sumOfLosses_5 ?_
  obtain ⟨r2, hc1, hf⟩ := bnr_some hf
  refine bk_subR (bSub_arr hB.2.2.1 (by decide) lc_Ba_8) hB (fun h1 h2 h3 => bk_runSN X (Av := [.ref (a + 8), .int (v 0)]) (rest := []) (mX8_sumOf hc1) ys_X8_sumOf (List.mem_of_getElem? (i := 13) rfl) ⟨Nat.le_of_ble_eq_true rfl, Nat.le_of_ble_eq_true rfl⟩ rfl rfl hl.1 h1 h2 h3 (Nat.le_of_ble_eq_true rfl) ⟨Nat.le_of_ble_eq_true rfl, Nat.le_of_ble_eq_true rfl⟩ dX0_sumOfLosses_8) (fun H locs hB => ?_)
  refine W.eq (g2 := F0 m 11 ls [.int r2]) rfl ?_
  exact bk_iR X hr rfl hf hB (Nat.le_of_ble_eq_true rfl) (Nat.le_of_ble_eq_true rfl) dX0_sumOfLosses_11
theorem yv_X0_sumOfLosses : bYv yX0_sumOfLosses RX0 cX0_sumOfLosses 1 (some .int) 0 := ⟨⟨rfl, by decide, by decide, rfl⟩, wm_876, wm_877, wm_6, wm_878⟩

theorem dX0_sumOfGaps_0 : decode cX0_sumOfGaps 0 = .ok (.iconst 0, 1) := by decide +kernel
theorem dX0_sumOfGaps_1 : decode cX0_sumOfGaps 1 = .ok (.istore_n 2, 1) := by decide +kernel
theorem dX0_sumOfGaps_2 : decode cX0_sumOfGaps 2 = .ok (.iconst 0, 1) := by decide +kernel
theorem dX0_sumOfGaps_3 : decode cX0_sumOfGaps 3 = .ok (.istore_n 3, 1) := by decide +kernel
theorem dX0_sumOfGaps_4 : decode cX0_sumOfGaps 4 = .ok (.iload_n 3, 1) := by decide +kernel
theorem dX0_sumOfGaps_5 : decode cX0_sumOfGaps 5 = .ok (.aload_n 0, 1) := by decide +kernel
theorem dX0_sumOfGaps_6 : decode cX0_sumOfGaps 6 = .ok (.getfield 41, 3) := by decide +kernel
theorem dX0_sumOfGaps_9 : decode cX0_sumOfGaps 9 = .ok (.if_icmp .ge 20, 3) := by decide +kernel
theorem dX0_sumOfGaps_12 : decode cX0_sumOfGaps 12 = .ok (.iload_n 2, 1) := by decide +kernel
theorem dX0_sumOfGaps_13 : decode cX0_sumOfGaps 13 = .ok (.aload_n 0, 1) := by decide +kernel
theorem dX0_sumOfGaps_14 : decode cX0_sumOfGaps 14 = .ok (.getfield 38, 3) := by decide +kernel
theorem dX0_sumOfGaps_17 : decode cX0_sumOfGaps 17 = .ok (.iload_n 3, 1) := by decide +kernel
theorem dX0_sumOfGaps_18 : decode cX0_sumOfGaps 18 = .ok (.aaload, 1) := by decide +kernel
theorem dX0_sumOfGaps_19 : decode cX0_sumOfGaps 19 = .ok (.iload_n 1, 1) := by decide +kernel
theorem dX0_sumOfGaps_20 : decode cX0_sumOfGaps 20 = .ok (.iaload, 1) := by decide +kernel
theorem dX0_sumOfGaps_21 : decode cX0_sumOfGaps 21 = .ok (.iadd, 1) := by decide +kernel
theorem dX0_sumOfGaps_22 : decode cX0_sumOfGaps 22 = .ok (.istore_n 2, 1) := by decide +kernel
theorem dX0_sumOfGaps_23 : decode cX0_sumOfGaps 23 = .ok (.iinc 3 1, 3) := by decide +kernel
theorem dX0_sumOfGaps_26 : decode cX0_sumOfGaps 26 = .ok (.goto (-22), 3) := by decide +kernel
theorem dX0_sumOfGaps_29 : decode cX0_sumOfGaps 29 = .ok (.iload_n 2, 1) := by decide +kernel
theorem dX0_sumOfGaps_30 : decode cX0_sumOfGaps 30 = .ok (.ireturn, 1) := by decide +kernel
def fX0_sumOfGaps_L4 (p1 : Int32) (v : bM) (k4 : Int32 → Int32 → Option Int32) (y1 : Int32) (y2 : Int32) : Option Int32 :=
  (if (v 0) ≤ y2 then (some (y1)) else (ck y2 24 <| ck p1 5 <| nm (y1 + (v (193 + 5 * y2.toNatClampNeg + p1.toNatClampNeg))) fun x6 => nm (y2 + 1) fun x7 => k4 x6 x7))
def fX0_sumOfGaps (p1 : Int32) (v : bM) : Option Int32 :=
  lp (fX0_sumOfGaps_L4 p1 v) (fun _ _ => none) lpN 0 0
set_option maxRecDepth 100000 in
set_option maxHeartbeats 4000000 in
theorem mX0_sumOfGaps {l : Launch} {p1 : Int32} {v : bM} {r0 : Int32} (hf : fX0_sumOfGaps p1 v = some r0) : bMet l yX0_sumOfGaps cX0_sumOfGaps 4 (some .int) 0 0 0 LBa (fun E a => [.ref a, .int p1]) v v (fun _ => some (.int r0)) := by
  refine bk_start (by decide +kernel) wfBa (fun _ _ => Nat.le_of_ble_eq_true rfl) ?_
  intro p e s m args below meth c D E a ls H locs X hr hl hB
  have hx := X.1
  have hb := X.2.1
  have hown := X.2.2.2.1
  have hts := X.2.2.2.2.1
  have hl : lv_has ls 4 [(0, .ref a), (1, .int p1)] := hl
  have hf := (fX0_sumOfGaps.eq_1 p1 v).symm.trans hf
  refine lv_iconst (v := 0) hx hb dX0_sumOfGaps_0 (by decide) ?_
  refine lv_istore_n (lv' := [(2, .int 0), (0, .ref a), (1, .int p1)]) hx hb dX0_sumOfGaps_1 rfl hl (by decide) rfl (fun ls hl => ?_)
  refine lv_iconst (v := 0) hx hb dX0_sumOfGaps_2 (by decide) ?_
  refine lv_istore_n (lv' := [(3, .int 0), (2, .int 0), (0, .ref a), (1, .int p1)]) hx hb dX0_sumOfGaps_3 rfl hl (by decide) rfl (fun ls hl => ?_)
  have hL4 : ∀ (n4 : Nat) (y1 y2 : Int32) (H : Heap) (locs : List Loc) (ls : Array Slot), lp (fX0_sumOfGaps_L4 p1 v) (fun _ _ => none) n4 y1 y2 = some r0 → bB D E LBa a v s H locs → lv_has ls 4 [(0, .ref a), (1, .int p1), (2, .int y1), (3, .int y2)] → W p l e (rmOf 0 0 0) s m args below meth c H locs 0 0 (bQ below D E LBa a v (some (.int r0)) args s 0 0) (F0 m 4 ls []) := by
    intro n4
    induction n4 with
    | zero => intro y1 y2 H locs ls hf; cases (show (none : Option Int32) = some r0 from hf)
    | succ n4 ih4 =>
      intro y1 y2 H locs ls hf hB hl
      have hf := (fX0_sumOfGaps_L4.eq_1 p1 v (lp (fX0_sumOfGaps_L4 p1 v) (fun _ _ => none) n4) y1 y2).symm.trans (show fX0_sumOfGaps_L4 p1 v (lp (fX0_sumOfGaps_L4 p1 v) (fun _ _ => none) n4) y1 y2 = some r0 from hf)
      refine lv_iload_n hx hb dX0_sumOfGaps_4 rfl (lv_at hl 3 rfl) ?_
      refine lv_aload_n hx hb dX0_sumOfGaps_5 rfl (lv_at hl 0 rfl) ?_
      refine bk_getI X hB kl_X0 0 lc_Ba_0 0 (by decide) rfl wm_169 dX0_sumOfGaps_6 ?_
      refine lv_icmp_ge (tgt := 29) hx hb dX0_sumOfGaps_9 (by decide) (fun c3 => ?_) (fun c3 => ?_)
      · have hf := (if_pos c3).symm.trans hf
        refine lv_iload_n hx hb dX0_sumOfGaps_29 rfl (lv_at hl 2 rfl) ?_
        exact bk_iR X hr rfl hf hB (Nat.le_of_ble_eq_true rfl) (Nat.le_of_ble_eq_true rfl) dX0_sumOfGaps_30
      · have hf := (if_neg c3).symm.trans hf
        refine lv_iload_n hx hb dX0_sumOfGaps_12 rfl (lv_at hl 2 rfl) ?_
        refine lv_aload_n hx hb dX0_sumOfGaps_13 rfl (lv_at hl 0 rfl) ?_
        refine bk_getR X hB kl_X0 0 lc_Ba_0 9 (by decide) rfl wm_196 dX0_sumOfGaps_14 ?_
        refine lv_iload_n hx hb dX0_sumOfGaps_17 rfl (lv_at hl 3 rfl) ?_
        obtain ⟨h4, hf⟩ := ck_some hf
        refine bk_rld X hB 9 lc_Ba_9 h4 dX0_sumOfGaps_18 ?_
        refine lv_iload_n hx hb dX0_sumOfGaps_19 rfl (lv_at hl 1 rfl) ?_
        obtain ⟨h5, hf⟩ := ck_some hf
        refine bk_ald X hB (10 + 1 * y2.toNatClampNeg) (lr_Ba_9 _ (vp_lt h4)) h5 dX0_sumOfGaps_20 ?_
        refine lv_iadd hx hb dX0_sumOfGaps_21 ?_
        refine lv_topi (fun x6 ex6 => ?_)
        have hf := nm_use hf ex6
        refine lv_istore_n (lv' := [(2, .int x6), (0, .ref a), (1, .int p1), (3, .int y2)]) hx hb dX0_sumOfGaps_22 rfl hl (by decide) rfl (fun ls hl => ?_)
        obtain ⟨x7, ex7⟩ : ∃ y : Int32, y = y2 + 1 := ⟨_, rfl⟩
        have hf := nm_use hf ex7
        refine lv_iinc (v := x7) (lv' := [(3, .int x7), (2, .int x6), (0, .ref a), (1, .int p1)]) hx hb dX0_sumOfGaps_23 hl (k := 3) rfl (by rw [ex7]; rfl) (by decide) rfl (fun ls hl => ?_)
        refine lv_goto (tgt := 4) hx hb dX0_sumOfGaps_26 (by decide) ?_
        exact ih4 x6 x7 H locs ls hf hB (lv_sub hl [2, 3, 1, 0] rfl)
  exact hL4 lpN 0 0 H locs ls hf hB (lv_sub hl [2, 3, 1, 0] rfl)
theorem yv_X0_sumOfGaps : bYv yX0_sumOfGaps RX0 cX0_sumOfGaps 4 (some .int) 1 := ⟨⟨rfl, by decide, by decide, rfl⟩, wm_797, wm_798, wm_6, wm_799⟩

theorem dX0_dearest_0 : decode cX0_dearest 0 = .ok (.iconst (-1), 1) := by decide +kernel
theorem dX0_dearest_1 : decode cX0_dearest 1 = .ok (.istore_n 1, 1) := by decide +kernel
theorem dX0_dearest_2 : decode cX0_dearest 2 = .ok (.iconst 0, 1) := by decide +kernel
theorem dX0_dearest_3 : decode cX0_dearest 3 = .ok (.istore_n 2, 1) := by decide +kernel
theorem dX0_dearest_4 : decode cX0_dearest 4 = .ok (.iload_n 2, 1) := by decide +kernel
theorem dX0_dearest_5 : decode cX0_dearest 5 = .ok (.aload_n 0, 1) := by decide +kernel
theorem dX0_dearest_6 : decode cX0_dearest 6 = .ok (.getfield 41, 3) := by decide +kernel
theorem dX0_dearest_9 : decode cX0_dearest 9 = .ok (.if_icmp .ge 31, 3) := by decide +kernel
theorem dX0_dearest_12 : decode cX0_dearest 12 = .ok (.iload_n 1, 1) := by decide +kernel
theorem dX0_dearest_13 : decode cX0_dearest 13 = .ok (.iconst (-1), 1) := by decide +kernel
theorem dX0_dearest_14 : decode cX0_dearest 14 = .ok (.if_icmp .eq 18, 3) := by decide +kernel
theorem dX0_dearest_17 : decode cX0_dearest 17 = .ok (.aload_n 0, 1) := by decide +kernel
theorem dX0_dearest_18 : decode cX0_dearest 18 = .ok (.getfield 33, 3) := by decide +kernel
theorem dX0_dearest_21 : decode cX0_dearest 21 = .ok (.iload_n 2, 1) := by decide +kernel
theorem dX0_dearest_22 : decode cX0_dearest 22 = .ok (.iaload, 1) := by decide +kernel
theorem dX0_dearest_23 : decode cX0_dearest 23 = .ok (.aload_n 0, 1) := by decide +kernel
theorem dX0_dearest_24 : decode cX0_dearest 24 = .ok (.getfield 33, 3) := by decide +kernel
theorem dX0_dearest_27 : decode cX0_dearest 27 = .ok (.iload_n 1, 1) := by decide +kernel
theorem dX0_dearest_28 : decode cX0_dearest 28 = .ok (.iaload, 1) := by decide +kernel
theorem dX0_dearest_29 : decode cX0_dearest 29 = .ok (.if_icmp .le 5, 3) := by decide +kernel
theorem dX0_dearest_32 : decode cX0_dearest 32 = .ok (.iload_n 2, 1) := by decide +kernel
theorem dX0_dearest_33 : decode cX0_dearest 33 = .ok (.istore_n 1, 1) := by decide +kernel
theorem dX0_dearest_34 : decode cX0_dearest 34 = .ok (.iinc 2 1, 3) := by decide +kernel
theorem dX0_dearest_37 : decode cX0_dearest 37 = .ok (.goto (-33), 3) := by decide +kernel
theorem dX0_dearest_40 : decode cX0_dearest 40 = .ok (.iload_n 1, 1) := by decide +kernel
theorem dX0_dearest_41 : decode cX0_dearest 41 = .ok (.ireturn, 1) := by decide +kernel
def fX0_dearest_J34 (y2 : Int32) (k4 : Int32 → Int32 → Option Int32) (y4 : Int32) : Option Int32 :=
  nm (y2 + 1) fun x5 => k4 y4 x5
def fX0_dearest_J32 (y2 : Int32) (k4 : Int32 → Int32 → Option Int32)  : Option Int32 :=
  fX0_dearest_J34 y2 k4 y2
def fX0_dearest_L4 (v : bM) (k4 : Int32 → Int32 → Option Int32) (y1 : Int32) (y2 : Int32) : Option Int32 :=
  (if (v 0) ≤ y2 then (some (y1)) else ((if y1 = (-1) then (fX0_dearest_J32 y2 k4 ) else (ck y2 24 <| ck y1 24 <| (if (v (169 + y2.toNatClampNeg)) ≤ (v (169 + y1.toNatClampNeg)) then (fX0_dearest_J34 y2 k4 y1) else (fX0_dearest_J32 y2 k4 ))))))
def fX0_dearest  (v : bM) : Option Int32 :=
  lp (fX0_dearest_L4 v) (fun _ _ => none) lpN (-1) 0
set_option maxRecDepth 100000 in
set_option maxHeartbeats 4000000 in
theorem mX0_dearest {l : Launch}  {v : bM} {r0 : Int32} (hf : fX0_dearest  v = some r0) : bMet l yX0_dearest cX0_dearest 3 (some .int) 0 0 0 LBa (fun E a => [.ref a]) v v (fun _ => some (.int r0)) := by
  refine bk_start (by decide +kernel) wfBa (fun _ _ => Nat.le_of_ble_eq_true rfl) ?_
  intro p e s m args below meth c D E a ls H locs X hr hl hB
  have hx := X.1
  have hb := X.2.1
  have hown := X.2.2.2.1
  have hts := X.2.2.2.2.1
  have hl : lv_has ls 3 [(0, .ref a)] := hl
  have hf := (fX0_dearest.eq_1  v).symm.trans hf
  refine lv_iconst (v := (-1)) hx hb dX0_dearest_0 (by decide) ?_
  refine lv_istore_n (lv' := [(1, .int (-1)), (0, .ref a)]) hx hb dX0_dearest_1 rfl hl (by decide) rfl (fun ls hl => ?_)
  refine lv_iconst (v := 0) hx hb dX0_dearest_2 (by decide) ?_
  refine lv_istore_n (lv' := [(2, .int 0), (1, .int (-1)), (0, .ref a)]) hx hb dX0_dearest_3 rfl hl (by decide) rfl (fun ls hl => ?_)
  have hL4 : ∀ (n4 : Nat) (y1 y2 : Int32) (H : Heap) (locs : List Loc) (ls : Array Slot), lp (fX0_dearest_L4 v) (fun _ _ => none) n4 y1 y2 = some r0 → bB D E LBa a v s H locs → lv_has ls 3 [(0, .ref a), (1, .int y1), (2, .int y2)] → W p l e (rmOf 0 0 0) s m args below meth c H locs 0 0 (bQ below D E LBa a v (some (.int r0)) args s 0 0) (F0 m 4 ls []) := by
    intro n4
    induction n4 with
    | zero => intro y1 y2 H locs ls hf; cases (show (none : Option Int32) = some r0 from hf)
    | succ n4 ih4 =>
      intro y1 y2 H locs ls hf hB hl
      have hf := (fX0_dearest_L4.eq_1 v (lp (fX0_dearest_L4 v) (fun _ _ => none) n4) y1 y2).symm.trans (show fX0_dearest_L4 v (lp (fX0_dearest_L4 v) (fun _ _ => none) n4) y1 y2 = some r0 from hf)
      refine lv_iload_n hx hb dX0_dearest_4 rfl (lv_at hl 2 rfl) ?_
      refine lv_aload_n hx hb dX0_dearest_5 rfl (lv_at hl 0 rfl) ?_
      refine bk_getI X hB kl_X0 0 lc_Ba_0 0 (by decide) rfl wm_169 dX0_dearest_6 ?_
      refine lv_icmp_ge (tgt := 40) hx hb dX0_dearest_9 (by decide) (fun c3 => ?_) (fun c3 => ?_)
      · have hf := (if_pos c3).symm.trans hf
        refine lv_iload_n hx hb dX0_dearest_40 rfl (lv_at hl 1 rfl) ?_
        exact bk_iR X hr rfl hf hB (Nat.le_of_ble_eq_true rfl) (Nat.le_of_ble_eq_true rfl) dX0_dearest_41
      · have hf := (if_neg c3).symm.trans hf
        refine lv_iload_n hx hb dX0_dearest_12 rfl (lv_at hl 1 rfl) ?_
        refine lv_iconst (v := (-1)) hx hb dX0_dearest_13 (by decide) ?_
        have hJ34 : ∀ (y4 : Int32) (H : Heap) (locs : List Loc) (ls : Array Slot), fX0_dearest_J34 y2 (lp (fX0_dearest_L4 v) (fun _ _ => none) n4) y4 = some r0 → bB D E LBa a v s H locs → lv_has ls 3 [(0, .ref a), (1, .int y4), (2, .int y2)] → W p l e (rmOf 0 0 0) s m args below meth c H locs 0 0 (bQ below D E LBa a v (some (.int r0)) args s 0 0) (F0 m 34 ls []) := by
          intro y4 H locs ls hf hB hl
          have hf := (fX0_dearest_J34.eq_1 y2 (lp (fX0_dearest_L4 v) (fun _ _ => none) n4) y4).symm.trans hf
          obtain ⟨x5, ex5⟩ : ∃ y : Int32, y = y2 + 1 := ⟨_, rfl⟩
          have hf := nm_use hf ex5
          refine lv_iinc (v := x5) (lv' := [(2, .int x5), (0, .ref a), (1, .int y4)]) hx hb dX0_dearest_34 hl (k := 2) rfl (by rw [ex5]; rfl) (by decide) rfl (fun ls hl => ?_)
          refine lv_goto (tgt := 4) hx hb dX0_dearest_37 (by decide) ?_
          exact ih4 y4 x5 H locs ls hf hB (lv_sub hl [1, 2, 0] rfl)
        have hJ32 : ∀ (H : Heap) (locs : List Loc) (ls : Array Slot), fX0_dearest_J32 y2 (lp (fX0_dearest_L4 v) (fun _ _ => none) n4)  = some r0 → bB D E LBa a v s H locs → lv_has ls 3 [(0, .ref a), (2, .int y2)] → W p l e (rmOf 0 0 0) s m args below meth c H locs 0 0 (bQ below D E LBa a v (some (.int r0)) args s 0 0) (F0 m 32 ls []) := by
          intro  H locs ls hf hB hl
          have hf := (fX0_dearest_J32.eq_1 y2 (lp (fX0_dearest_L4 v) (fun _ _ => none) n4) ).symm.trans hf
          refine lv_iload_n hx hb dX0_dearest_32 rfl (lv_at hl 1 rfl) ?_
          refine lv_istore_n (lv' := [(1, .int y2), (0, .ref a), (2, .int y2)]) hx hb dX0_dearest_33 rfl hl (by decide) rfl (fun ls hl => ?_)
          exact hJ34 y2 H locs ls hf hB (lv_sub hl [1, 0, 2] rfl)
        refine lv_icmp_eq (tgt := 32) hx hb dX0_dearest_14 (by decide) (fun c6 => ?_) (fun c6 => ?_)
        · have hf := (if_pos c6).symm.trans hf
          exact hJ32  H locs ls hf hB (lv_sub hl [0, 2] rfl)
        · have hf := (if_neg c6).symm.trans hf
          refine lv_aload_n hx hb dX0_dearest_17 rfl (lv_at hl 0 rfl) ?_
          refine bk_getR X hB kl_X0 0 lc_Ba_0 8 (by decide) rfl wm_193 dX0_dearest_18 ?_
          refine lv_iload_n hx hb dX0_dearest_21 rfl (lv_at hl 2 rfl) ?_
          obtain ⟨h7, hf⟩ := ck_some hf
          refine bk_ald X hB 8 lc_Ba_8 h7 dX0_dearest_22 ?_
          refine lv_aload_n hx hb dX0_dearest_23 rfl (lv_at hl 0 rfl) ?_
          refine bk_getR X hB kl_X0 0 lc_Ba_0 8 (by decide) rfl wm_193 dX0_dearest_24 ?_
          refine lv_iload_n hx hb dX0_dearest_27 rfl (lv_at hl 1 rfl) ?_
          obtain ⟨h8, hf⟩ := ck_some hf
          refine bk_ald X hB 8 lc_Ba_8 h8 dX0_dearest_28 ?_
          refine lv_icmp_le (tgt := 34) hx hb dX0_dearest_29 (by decide) (fun c9 => ?_) (fun c9 => ?_)
          · have hf := (if_pos c9).symm.trans hf
            exact hJ34 y1 H locs ls hf hB (lv_sub hl [0, 1, 2] rfl)
          · have hf := (if_neg c9).symm.trans hf
            exact hJ32  H locs ls hf hB (lv_sub hl [0, 2] rfl)
  exact hL4 lpN (-1) 0 H locs ls hf hB (lv_sub hl [2, 1, 0] rfl)
theorem yv_X0_dearest : bYv yX0_dearest RX0 cX0_dearest 3 (some .int) 0 := ⟨⟨rfl, by decide, by decide, rfl⟩, wm_805, wm_806, wm_6, wm_807⟩

theorem dX0_placeOfKind_0 : decode cX0_placeOfKind 0 = .ok (.aload_n 0, 1) := by decide +kernel
theorem dX0_placeOfKind_1 : decode cX0_placeOfKind 1 = .ok (.getfield 38, 3) := by decide +kernel
theorem dX0_placeOfKind_4 : decode cX0_placeOfKind 4 = .ok (.iload_n 1, 1) := by decide +kernel
theorem dX0_placeOfKind_5 : decode cX0_placeOfKind 5 = .ok (.aaload, 1) := by decide +kernel
theorem dX0_placeOfKind_6 : decode cX0_placeOfKind 6 = .ok (.astore_n 3, 1) := by decide +kernel
theorem dX0_placeOfKind_7 : decode cX0_placeOfKind 7 = .ok (.iconst 0, 1) := by decide +kernel
theorem dX0_placeOfKind_8 : decode cX0_placeOfKind 8 = .ok (.istore 4, 2) := by decide +kernel
theorem dX0_placeOfKind_10 : decode cX0_placeOfKind 10 = .ok (.iconst 0, 1) := by decide +kernel
theorem dX0_placeOfKind_11 : decode cX0_placeOfKind 11 = .ok (.istore 5, 2) := by decide +kernel
theorem dX0_placeOfKind_13 : decode cX0_placeOfKind 13 = .ok (.iload 5, 2) := by decide +kernel
theorem dX0_placeOfKind_15 : decode cX0_placeOfKind 15 = .ok (.iconst 4, 1) := by decide +kernel
theorem dX0_placeOfKind_16 : decode cX0_placeOfKind 16 = .ok (.if_icmp .gt 38, 3) := by decide +kernel
theorem dX0_placeOfKind_19 : decode cX0_placeOfKind 19 = .ok (.aload_n 3, 1) := by decide +kernel
theorem dX0_placeOfKind_20 : decode cX0_placeOfKind 20 = .ok (.iload 5, 2) := by decide +kernel
theorem dX0_placeOfKind_22 : decode cX0_placeOfKind 22 = .ok (.iaload, 1) := by decide +kernel
theorem dX0_placeOfKind_23 : decode cX0_placeOfKind 23 = .ok (.aload_n 3, 1) := by decide +kernel
theorem dX0_placeOfKind_24 : decode cX0_placeOfKind 24 = .ok (.iload_n 2, 1) := by decide +kernel
theorem dX0_placeOfKind_25 : decode cX0_placeOfKind 25 = .ok (.iaload, 1) := by decide +kernel
theorem dX0_placeOfKind_26 : decode cX0_placeOfKind 26 = .ok (.if_icmp .gt 19, 3) := by decide +kernel
theorem dX0_placeOfKind_29 : decode cX0_placeOfKind 29 = .ok (.aload_n 3, 1) := by decide +kernel
theorem dX0_placeOfKind_30 : decode cX0_placeOfKind 30 = .ok (.iload 5, 2) := by decide +kernel
theorem dX0_placeOfKind_32 : decode cX0_placeOfKind 32 = .ok (.iaload, 1) := by decide +kernel
theorem dX0_placeOfKind_33 : decode cX0_placeOfKind 33 = .ok (.aload_n 3, 1) := by decide +kernel
theorem dX0_placeOfKind_34 : decode cX0_placeOfKind 34 = .ok (.iload_n 2, 1) := by decide +kernel
theorem dX0_placeOfKind_35 : decode cX0_placeOfKind 35 = .ok (.iaload, 1) := by decide +kernel
theorem dX0_placeOfKind_36 : decode cX0_placeOfKind 36 = .ok (.if_icmp .ne 12, 3) := by decide +kernel
theorem dX0_placeOfKind_39 : decode cX0_placeOfKind 39 = .ok (.iload 5, 2) := by decide +kernel
theorem dX0_placeOfKind_41 : decode cX0_placeOfKind 41 = .ok (.iload_n 2, 1) := by decide +kernel
theorem dX0_placeOfKind_42 : decode cX0_placeOfKind 42 = .ok (.if_icmp .ge 6, 3) := by decide +kernel
theorem dX0_placeOfKind_45 : decode cX0_placeOfKind 45 = .ok (.iinc 4 1, 3) := by decide +kernel
theorem dX0_placeOfKind_48 : decode cX0_placeOfKind 48 = .ok (.iinc 5 1, 3) := by decide +kernel
theorem dX0_placeOfKind_51 : decode cX0_placeOfKind 51 = .ok (.goto (-38), 3) := by decide +kernel
theorem dX0_placeOfKind_54 : decode cX0_placeOfKind 54 = .ok (.iload 4, 2) := by decide +kernel
theorem dX0_placeOfKind_56 : decode cX0_placeOfKind 56 = .ok (.ireturn, 1) := by decide +kernel
def fX0_placeOfKind_J48 (y3 : Int32) (k13 : Int32 → Int32 → Option Int32) (y7 : Int32) : Option Int32 :=
  nm (y3 + 1) fun x8 => k13 y7 x8
def fX0_placeOfKind_J45 (y2 : Int32) (y3 : Int32) (k13 : Int32 → Int32 → Option Int32)  : Option Int32 :=
  nm (y2 + 1) fun x9 => fX0_placeOfKind_J48 y3 k13 x9
def fX0_placeOfKind_L13 (p1 : Int32) (p2 : Int32) (v : bM) (k13 : Int32 → Int32 → Option Int32) (y2 : Int32) (y3 : Int32) : Option Int32 :=
  (if 4 < y3 then (some (y2)) else (ck y3 5 <| ck p2 5 <| (if (v (193 + 5 * p1.toNatClampNeg + p2.toNatClampNeg)) < (v (193 + 5 * p1.toNatClampNeg + y3.toNatClampNeg)) then (fX0_placeOfKind_J45 y2 y3 k13 ) else (ck y3 5 <| ck p2 5 <| (if (v (193 + 5 * p1.toNatClampNeg + y3.toNatClampNeg)) = (v (193 + 5 * p1.toNatClampNeg + p2.toNatClampNeg)) then ((if p2 ≤ y3 then (fX0_placeOfKind_J48 y3 k13 y2) else (fX0_placeOfKind_J45 y2 y3 k13 ))) else (fX0_placeOfKind_J48 y3 k13 y2))))))
def fX0_placeOfKind (p1 : Int32) (p2 : Int32) (v : bM) : Option Int32 :=
  ck p1 24 <| lp (fX0_placeOfKind_L13 p1 p2 v) (fun _ _ => none) lpN 0 0
set_option maxRecDepth 100000 in
set_option maxHeartbeats 4000000 in
theorem mX0_placeOfKind {l : Launch} {p1 : Int32} {p2 : Int32} {v : bM} {r0 : Int32} (hf : fX0_placeOfKind p1 p2 v = some r0) : bMet l yX0_placeOfKind cX0_placeOfKind 6 (some .int) 0 0 0 LBa (fun E a => [.ref a, .int p1, .int p2]) v v (fun _ => some (.int r0)) := by
  refine bk_start (by decide +kernel) wfBa (fun _ _ => Nat.le_of_ble_eq_true rfl) ?_
  intro p e s m args below meth c D E a ls H locs X hr hl hB
  have hx := X.1
  have hb := X.2.1
  have hown := X.2.2.2.1
  have hts := X.2.2.2.2.1
  have hl : lv_has ls 6 [(0, .ref a), (1, .int p1), (2, .int p2)] := hl
  have hf := (fX0_placeOfKind.eq_1 p1 p2 v).symm.trans hf
  refine lv_aload_n hx hb dX0_placeOfKind_0 rfl (lv_at hl 0 rfl) ?_
  refine bk_getR X hB kl_X0 0 lc_Ba_0 9 (by decide) rfl wm_196 dX0_placeOfKind_1 ?_
  refine lv_iload_n hx hb dX0_placeOfKind_4 rfl (lv_at hl 1 rfl) ?_
  obtain ⟨h1, hf⟩ := ck_some hf
  refine bk_rld X hB 9 lc_Ba_9 h1 dX0_placeOfKind_5 ?_
  refine lv_astore_n (lv' := [(3, .ref (a + (10 + 1 * p1.toNatClampNeg))), (0, .ref a), (1, .int p1), (2, .int p2)]) hx hb dX0_placeOfKind_6 rfl hl (by decide) rfl (fun ls hl => ?_)
  refine lv_iconst (v := 0) hx hb dX0_placeOfKind_7 (by decide) ?_
  refine lv_istore (lv' := [(4, .int 0), (3, .ref (a + (10 + 1 * p1.toNatClampNeg))), (0, .ref a), (1, .int p1), (2, .int p2)]) hx hb dX0_placeOfKind_8 hl (by decide) rfl (fun ls hl => ?_)
  refine lv_iconst (v := 0) hx hb dX0_placeOfKind_10 (by decide) ?_
  refine lv_istore (lv' := [(5, .int 0), (4, .int 0), (3, .ref (a + (10 + 1 * p1.toNatClampNeg))), (0, .ref a), (1, .int p1), (2, .int p2)]) hx hb dX0_placeOfKind_11 hl (by decide) rfl (fun ls hl => ?_)
  have hL13 : ∀ (n13 : Nat) (y2 y3 : Int32) (H : Heap) (locs : List Loc) (ls : Array Slot), lp (fX0_placeOfKind_L13 p1 p2 v) (fun _ _ => none) n13 y2 y3 = some r0 → bB D E LBa a v s H locs → lv_has ls 6 [(2, .int p2), (3, .ref (a + (10 + 1 * p1.toNatClampNeg))), (4, .int y2), (5, .int y3)] → W p l e (rmOf 0 0 0) s m args below meth c H locs 0 0 (bQ below D E LBa a v (some (.int r0)) args s 0 0) (F0 m 13 ls []) := by
    intro n13
    induction n13 with
    | zero => intro y2 y3 H locs ls hf; cases (show (none : Option Int32) = some r0 from hf)
    | succ n13 ih13 =>
      intro y2 y3 H locs ls hf hB hl
      have hf := (fX0_placeOfKind_L13.eq_1 p1 p2 v (lp (fX0_placeOfKind_L13 p1 p2 v) (fun _ _ => none) n13) y2 y3).symm.trans (show fX0_placeOfKind_L13 p1 p2 v (lp (fX0_placeOfKind_L13 p1 p2 v) (fun _ _ => none) n13) y2 y3 = some r0 from hf)
      refine lv_iload hx hb dX0_placeOfKind_13 (lv_at hl 3 rfl) ?_
      refine lv_iconst (v := 4) hx hb dX0_placeOfKind_15 (by decide) ?_
      refine lv_icmp_gt (tgt := 54) hx hb dX0_placeOfKind_16 (by decide) (fun c4 => ?_) (fun c4 => ?_)
      · have hf := (if_pos c4).symm.trans hf
        refine lv_iload hx hb dX0_placeOfKind_54 (lv_at hl 2 rfl) ?_
        exact bk_iR X hr rfl hf hB (Nat.le_of_ble_eq_true rfl) (Nat.le_of_ble_eq_true rfl) dX0_placeOfKind_56
      · have hf := (if_neg c4).symm.trans hf
        refine lv_aload_n hx hb dX0_placeOfKind_19 rfl (lv_at hl 1 rfl) ?_
        refine lv_iload hx hb dX0_placeOfKind_20 (lv_at hl 3 rfl) ?_
        obtain ⟨h5, hf⟩ := ck_some hf
        refine bk_ald X hB (10 + 1 * p1.toNatClampNeg) (lr_Ba_9 _ (vp_lt h1)) h5 dX0_placeOfKind_22 ?_
        refine lv_aload_n hx hb dX0_placeOfKind_23 rfl (lv_at hl 1 rfl) ?_
        refine lv_iload_n hx hb dX0_placeOfKind_24 rfl (lv_at hl 0 rfl) ?_
        obtain ⟨h6, hf⟩ := ck_some hf
        refine bk_ald X hB (10 + 1 * p1.toNatClampNeg) (lr_Ba_9 _ (vp_lt h1)) h6 dX0_placeOfKind_25 ?_
        have hJ48 : ∀ (y7 : Int32) (H : Heap) (locs : List Loc) (ls : Array Slot), fX0_placeOfKind_J48 y3 (lp (fX0_placeOfKind_L13 p1 p2 v) (fun _ _ => none) n13) y7 = some r0 → bB D E LBa a v s H locs → lv_has ls 6 [(2, .int p2), (3, .ref (a + (10 + 1 * p1.toNatClampNeg))), (4, .int y7), (5, .int y3)] → W p l e (rmOf 0 0 0) s m args below meth c H locs 0 0 (bQ below D E LBa a v (some (.int r0)) args s 0 0) (F0 m 48 ls []) := by
          intro y7 H locs ls hf hB hl
          have hf := (fX0_placeOfKind_J48.eq_1 y3 (lp (fX0_placeOfKind_L13 p1 p2 v) (fun _ _ => none) n13) y7).symm.trans hf
          obtain ⟨x8, ex8⟩ : ∃ y : Int32, y = y3 + 1 := ⟨_, rfl⟩
          have hf := nm_use hf ex8
          refine lv_iinc (v := x8) (lv' := [(5, .int x8), (2, .int p2), (3, .ref (a + (10 + 1 * p1.toNatClampNeg))), (4, .int y7)]) hx hb dX0_placeOfKind_48 hl (k := 3) rfl (by rw [ex8]; rfl) (by decide) rfl (fun ls hl => ?_)
          refine lv_goto (tgt := 13) hx hb dX0_placeOfKind_51 (by decide) ?_
          exact ih13 y7 x8 H locs ls hf hB (lv_sub hl [1, 2, 3, 0] rfl)
        have hJ45 : ∀ (H : Heap) (locs : List Loc) (ls : Array Slot), fX0_placeOfKind_J45 y2 y3 (lp (fX0_placeOfKind_L13 p1 p2 v) (fun _ _ => none) n13)  = some r0 → bB D E LBa a v s H locs → lv_has ls 6 [(2, .int p2), (3, .ref (a + (10 + 1 * p1.toNatClampNeg))), (4, .int y2), (5, .int y3)] → W p l e (rmOf 0 0 0) s m args below meth c H locs 0 0 (bQ below D E LBa a v (some (.int r0)) args s 0 0) (F0 m 45 ls []) := by
          intro  H locs ls hf hB hl
          have hf := (fX0_placeOfKind_J45.eq_1 y2 y3 (lp (fX0_placeOfKind_L13 p1 p2 v) (fun _ _ => none) n13) ).symm.trans hf
          obtain ⟨x9, ex9⟩ : ∃ y : Int32, y = y2 + 1 := ⟨_, rfl⟩
          have hf := nm_use hf ex9
          refine lv_iinc (v := x9) (lv' := [(4, .int x9), (2, .int p2), (3, .ref (a + (10 + 1 * p1.toNatClampNeg))), (5, .int y3)]) hx hb dX0_placeOfKind_45 hl (k := 2) rfl (by rw [ex9]; rfl) (by decide) rfl (fun ls hl => ?_)
          exact hJ48 x9 H locs ls hf hB (lv_sub hl [1, 2, 0, 3] rfl)
        refine lv_icmp_gt (tgt := 45) hx hb dX0_placeOfKind_26 (by decide) (fun c10 => ?_) (fun c10 => ?_)
        · have hf := (if_pos c10).symm.trans hf
          exact hJ45  H locs ls hf hB (lv_sub hl [0, 1, 2, 3] rfl)
        · have hf := (if_neg c10).symm.trans hf
          refine lv_aload_n hx hb dX0_placeOfKind_29 rfl (lv_at hl 1 rfl) ?_
          refine lv_iload hx hb dX0_placeOfKind_30 (lv_at hl 3 rfl) ?_
          obtain ⟨h11, hf⟩ := ck_some hf
          refine bk_ald X hB (10 + 1 * p1.toNatClampNeg) (lr_Ba_9 _ (vp_lt h1)) h11 dX0_placeOfKind_32 ?_
          refine lv_aload_n hx hb dX0_placeOfKind_33 rfl (lv_at hl 1 rfl) ?_
          refine lv_iload_n hx hb dX0_placeOfKind_34 rfl (lv_at hl 0 rfl) ?_
          obtain ⟨h12, hf⟩ := ck_some hf
          refine bk_ald X hB (10 + 1 * p1.toNatClampNeg) (lr_Ba_9 _ (vp_lt h1)) h12 dX0_placeOfKind_35 ?_
          refine lv_icmp_ne (tgt := 48) hx hb dX0_placeOfKind_36 (by decide) (fun c13 => ?_) (fun c13 => ?_)
          · have hf := (if_neg c13).symm.trans hf
            exact hJ48 y2 H locs ls hf hB (lv_sub hl [0, 1, 2, 3] rfl)
          · have hf := (if_pos c13).symm.trans hf
            refine lv_iload hx hb dX0_placeOfKind_39 (lv_at hl 3 rfl) ?_
            refine lv_iload_n hx hb dX0_placeOfKind_41 rfl (lv_at hl 0 rfl) ?_
            refine lv_icmp_ge (tgt := 48) hx hb dX0_placeOfKind_42 (by decide) (fun c14 => ?_) (fun c14 => ?_)
            · have hf := (if_pos c14).symm.trans hf
              exact hJ48 y2 H locs ls hf hB (lv_sub hl [0, 1, 2, 3] rfl)
            · have hf := (if_neg c14).symm.trans hf
              exact hJ45  H locs ls hf hB (lv_sub hl [0, 1, 2, 3] rfl)
  exact hL13 lpN 0 0 H locs ls hf hB (lv_sub hl [5, 2, 1, 0] rfl)
theorem yv_X0_placeOfKind : bYv yX0_placeOfKind RX0 cX0_placeOfKind 6 (some .int) 2 := ⟨⟨rfl, by decide, by decide, rfl⟩, wm_1169, wp_23, wm_6, wm_1170⟩

theorem dX0_kindInPlace_0 : decode cX0_kindInPlace 0 = .ok (.iconst 0, 1) := by decide +kernel
theorem dX0_kindInPlace_1 : decode cX0_kindInPlace 1 = .ok (.istore_n 3, 1) := by decide +kernel
theorem dX0_kindInPlace_2 : decode cX0_kindInPlace 2 = .ok (.iload_n 3, 1) := by decide +kernel
theorem dX0_kindInPlace_3 : decode cX0_kindInPlace 3 = .ok (.iconst 4, 1) := by decide +kernel
theorem dX0_kindInPlace_4 : decode cX0_kindInPlace 4 = .ok (.if_icmp .gt 21, 3) := by decide +kernel
theorem dX0_kindInPlace_7 : decode cX0_kindInPlace 7 = .ok (.aload_n 0, 1) := by decide +kernel
theorem dX0_kindInPlace_8 : decode cX0_kindInPlace 8 = .ok (.iload_n 1, 1) := by decide +kernel
theorem dX0_kindInPlace_9 : decode cX0_kindInPlace 9 = .ok (.iload_n 3, 1) := by decide +kernel
theorem dX0_kindInPlace_10 : decode cX0_kindInPlace 10 = .ok (.invokevirtual 53, 3) := by decide +kernel
theorem dX0_kindInPlace_13 : decode cX0_kindInPlace 13 = .ok (.iload_n 2, 1) := by decide +kernel
theorem dX0_kindInPlace_14 : decode cX0_kindInPlace 14 = .ok (.if_icmp .ne 5, 3) := by decide +kernel
theorem dX0_kindInPlace_17 : decode cX0_kindInPlace 17 = .ok (.iload_n 3, 1) := by decide +kernel
theorem dX0_kindInPlace_18 : decode cX0_kindInPlace 18 = .ok (.ireturn, 1) := by decide +kernel
theorem dX0_kindInPlace_19 : decode cX0_kindInPlace 19 = .ok (.iinc 3 1, 3) := by decide +kernel
theorem dX0_kindInPlace_22 : decode cX0_kindInPlace 22 = .ok (.goto (-20), 3) := by decide +kernel
theorem dX0_kindInPlace_25 : decode cX0_kindInPlace 25 = .ok (.iconst (-1), 1) := by decide +kernel
theorem dX0_kindInPlace_26 : decode cX0_kindInPlace 26 = .ok (.ireturn, 1) := by decide +kernel
def fX0_kindInPlace_L2 (p1 : Int32) (p2 : Int32) (v : bM) (k2 : Int32 → Option Int32) (y1 : Int32) : Option Int32 :=
  (if 4 < y1 then (some ((-1))) else (bnr (fX0_placeOfKind p1 y1 v) fun r4 => (if r4 = p2 then (some (y1)) else (nm (y1 + 1) fun x6 => k2 x6))))
def fX0_kindInPlace (p1 : Int32) (p2 : Int32) (v : bM) : Option Int32 :=
  lp (fX0_kindInPlace_L2 p1 p2 v) (fun _ => none) lpN 0
set_option maxRecDepth 100000 in
set_option maxHeartbeats 4000000 in
theorem mX0_kindInPlace {l : Launch} {p1 : Int32} {p2 : Int32} {v : bM} {r0 : Int32} (hf : fX0_kindInPlace p1 p2 v = some r0) : bMet l yX0_kindInPlace cX0_kindInPlace 4 (some .int) 1 0 0 LBa (fun E a => [.ref a, .int p1, .int p2]) v v (fun _ => some (.int r0)) := by
  refine bk_start (by decide +kernel) wfBa (fun _ _ => Nat.le_of_ble_eq_true rfl) ?_
  intro p e s m args below meth c D E a ls H locs X hr hl hB
  have hx := X.1
  have hb := X.2.1
  have hown := X.2.2.2.1
  have hts := X.2.2.2.2.1
  have hl : lv_has ls 4 [(0, .ref a), (1, .int p1), (2, .int p2)] := hl
  have hf := (fX0_kindInPlace.eq_1 p1 p2 v).symm.trans hf
  refine lv_iconst (v := 0) hx hb dX0_kindInPlace_0 (by decide) ?_
  refine lv_istore_n (lv' := [(3, .int 0), (0, .ref a), (1, .int p1), (2, .int p2)]) hx hb dX0_kindInPlace_1 rfl hl (by decide) rfl (fun ls hl => ?_)
  have hL2 : ∀ (n2 : Nat) (y1 : Int32) (H : Heap) (locs : List Loc) (ls : Array Slot), lp (fX0_kindInPlace_L2 p1 p2 v) (fun _ => none) n2 y1 = some r0 → bB D E LBa a v s H locs → lv_has ls 4 [(0, .ref a), (1, .int p1), (2, .int p2), (3, .int y1)] → W p l e (rmOf 1 0 0) s m args below meth c H locs 0 0 (bQ below D E LBa a v (some (.int r0)) args s 0 0) (F0 m 2 ls []) := by
    intro n2
    induction n2 with
    | zero => intro y1 H locs ls hf; cases (show (none : Option Int32) = some r0 from hf)
    | succ n2 ih2 =>
      intro y1 H locs ls hf hB hl
      have hf := (fX0_kindInPlace_L2.eq_1 p1 p2 v (lp (fX0_kindInPlace_L2 p1 p2 v) (fun _ => none) n2) y1).symm.trans (show fX0_kindInPlace_L2 p1 p2 v (lp (fX0_kindInPlace_L2 p1 p2 v) (fun _ => none) n2) y1 = some r0 from hf)
      refine lv_iload_n hx hb dX0_kindInPlace_2 rfl (lv_at hl 3 rfl) ?_
      refine lv_iconst (v := 4) hx hb dX0_kindInPlace_3 (by decide) ?_
      refine lv_icmp_gt (tgt := 25) hx hb dX0_kindInPlace_4 (by decide) (fun c2 => ?_) (fun c2 => ?_)
      · have hf := (if_pos c2).symm.trans hf
        refine lv_iconst (v := (-1)) hx hb dX0_kindInPlace_25 (by decide) ?_
        exact bk_iR X hr rfl hf hB (Nat.le_of_ble_eq_true rfl) (Nat.le_of_ble_eq_true rfl) dX0_kindInPlace_26
      · have hf := (if_neg c2).symm.trans hf
        refine lv_aload_n hx hb dX0_kindInPlace_7 rfl (lv_at hl 0 rfl) ?_
        refine lv_iload_n hx hb dX0_kindInPlace_8 rfl (lv_at hl 1 rfl) ?_
        refine lv_iload_n hx hb dX0_kindInPlace_9 rfl (lv_at hl 3 rfl) ?_
        obtain ⟨r4, hc3, hf⟩ := bnr_some hf
        refine bk_all hB (fun h1 h2 h3 => bk_runV X (Av := [.int p1, .int y1]) (rest := []) (mX0_placeOfKind hc3) yv_X0_placeOfKind wm_1167 ⟨Nat.le_of_ble_eq_true rfl, Nat.le_of_ble_eq_true rfl⟩ rfl rfl hl.1 kl_X0.1 (hB.1.obj lc_Ba_0) h1 h2 h3 (Nat.le_of_ble_eq_true rfl) ⟨Nat.le_of_ble_eq_true rfl, Nat.le_of_ble_eq_true rfl⟩ dX0_kindInPlace_10) (fun H locs hB => ?_)
        refine W.eq (g2 := F0 m 13 ls [.int r4]) rfl ?_
        refine lv_iload_n hx hb dX0_kindInPlace_13 rfl (lv_at hl 2 rfl) ?_
        refine lv_icmp_ne (tgt := 19) hx hb dX0_kindInPlace_14 (by decide) (fun c5 => ?_) (fun c5 => ?_)
        · have hf := (if_neg c5).symm.trans hf
          obtain ⟨x6, ex6⟩ : ∃ y : Int32, y = y1 + 1 := ⟨_, rfl⟩
          have hf := nm_use hf ex6
          refine lv_iinc (v := x6) (lv' := [(3, .int x6), (0, .ref a), (1, .int p1), (2, .int p2)]) hx hb dX0_kindInPlace_19 hl (k := 3) rfl (by rw [ex6]; rfl) (by decide) rfl (fun ls hl => ?_)
          refine lv_goto (tgt := 2) hx hb dX0_kindInPlace_22 (by decide) ?_
          exact ih2 x6 H locs ls hf hB (lv_sub hl [1, 2, 3, 0] rfl)
        · have hf := (if_pos c5).symm.trans hf
          refine lv_iload_n hx hb dX0_kindInPlace_17 rfl (lv_at hl 3 rfl) ?_
          exact bk_iR X hr rfl hf hB (Nat.le_of_ble_eq_true rfl) (Nat.le_of_ble_eq_true rfl) dX0_kindInPlace_18
  exact hL2 lpN 0 H locs ls hf hB (lv_sub hl [1, 2, 3, 0] rfl)
theorem yv_X0_kindInPlace : bYv yX0_kindInPlace RX0 cX0_kindInPlace 4 (some .int) 2 := ⟨⟨rfl, by decide, by decide, rfl⟩, wm_1164, wm_1165, wm_6, wm_1166⟩

theorem dX0_unexplained_0 : decode cX0_unexplained 0 = .ok (.iconst 0, 1) := by decide +kernel
theorem dX0_unexplained_1 : decode cX0_unexplained 1 = .ok (.istore_n 1, 1) := by decide +kernel
theorem dX0_unexplained_2 : decode cX0_unexplained 2 = .ok (.iconst 0, 1) := by decide +kernel
theorem dX0_unexplained_3 : decode cX0_unexplained 3 = .ok (.istore_n 2, 1) := by decide +kernel
theorem dX0_unexplained_4 : decode cX0_unexplained 4 = .ok (.iload_n 2, 1) := by decide +kernel
theorem dX0_unexplained_5 : decode cX0_unexplained 5 = .ok (.aload_n 0, 1) := by decide +kernel
theorem dX0_unexplained_6 : decode cX0_unexplained 6 = .ok (.getfield 41, 3) := by decide +kernel
theorem dX0_unexplained_9 : decode cX0_unexplained 9 = .ok (.if_icmp .ge 31, 3) := by decide +kernel
theorem dX0_unexplained_12 : decode cX0_unexplained 12 = .ok (.aload_n 0, 1) := by decide +kernel
theorem dX0_unexplained_13 : decode cX0_unexplained 13 = .ok (.getfield 33, 3) := by decide +kernel
theorem dX0_unexplained_16 : decode cX0_unexplained 16 = .ok (.iload_n 2, 1) := by decide +kernel
theorem dX0_unexplained_17 : decode cX0_unexplained 17 = .ok (.iaload, 1) := by decide +kernel
theorem dX0_unexplained_18 : decode cX0_unexplained 18 = .ok (.aload_n 0, 1) := by decide +kernel
theorem dX0_unexplained_19 : decode cX0_unexplained 19 = .ok (.getfield 38, 3) := by decide +kernel
theorem dX0_unexplained_22 : decode cX0_unexplained 22 = .ok (.iload_n 2, 1) := by decide +kernel
theorem dX0_unexplained_23 : decode cX0_unexplained 23 = .ok (.aaload, 1) := by decide +kernel
theorem dX0_unexplained_24 : decode cX0_unexplained 24 = .ok (.iconst 5, 1) := by decide +kernel
theorem dX0_unexplained_25 : decode cX0_unexplained 25 = .ok (.invokestatic 49, 3) := by decide +kernel
theorem dX0_unexplained_28 : decode cX0_unexplained 28 = .ok (.if_icmp .eq 6, 3) := by decide +kernel
theorem dX0_unexplained_31 : decode cX0_unexplained 31 = .ok (.iinc 1 1, 3) := by decide +kernel
theorem dX0_unexplained_34 : decode cX0_unexplained 34 = .ok (.iinc 2 1, 3) := by decide +kernel
theorem dX0_unexplained_37 : decode cX0_unexplained 37 = .ok (.goto (-33), 3) := by decide +kernel
theorem dX0_unexplained_40 : decode cX0_unexplained 40 = .ok (.iload_n 1, 1) := by decide +kernel
theorem dX0_unexplained_41 : decode cX0_unexplained 41 = .ok (.ireturn, 1) := by decide +kernel
def fX0_unexplained_J34 (y2 : Int32) (k4 : Int32 → Int32 → Option Int32) (y8 : Int32) : Option Int32 :=
  nm (y2 + 1) fun x9 => k4 y8 x9
def fX0_unexplained_L4 (v : bM) (k4 : Int32 → Int32 → Option Int32) (y1 : Int32) (y2 : Int32) : Option Int32 :=
  (if (v 0) ≤ y2 then (some (y1)) else (ck y2 24 <| ck y2 24 <| bnr (fX8_sumOf 5 5 (vw v (193 + 5 * y2.toNatClampNeg))) fun r7 => (if (v (169 + y2.toNatClampNeg)) = r7 then (fX0_unexplained_J34 y2 k4 y1) else (nm (y1 + 1) fun x11 => fX0_unexplained_J34 y2 k4 x11))))
def fX0_unexplained  (v : bM) : Option Int32 :=
  lp (fX0_unexplained_L4 v) (fun _ _ => none) lpN 0 0
set_option maxRecDepth 100000 in
set_option maxHeartbeats 4000000 in
theorem mX0_unexplained {l : Launch}  {v : bM} {r0 : Int32} (hf : fX0_unexplained  v = some r0) : bMet l yX0_unexplained cX0_unexplained 3 (some .int) 1 0 0 LBa (fun E a => [.ref a]) v v (fun _ => some (.int r0)) := by
  refine bk_start (by decide +kernel) wfBa (fun _ _ => Nat.le_of_ble_eq_true rfl) ?_
  intro p e s m args below meth c D E a ls H locs X hr hl hB
  have hx := X.1
  have hb := X.2.1
  have hown := X.2.2.2.1
  have hts := X.2.2.2.2.1
  have hl : lv_has ls 3 [(0, .ref a)] := hl
  have hf := (fX0_unexplained.eq_1  v).symm.trans hf
  refine lv_iconst (v := 0) hx hb dX0_unexplained_0 (by decide) ?_
  refine lv_istore_n (lv' := [(1, .int 0), (0, .ref a)]) hx hb dX0_unexplained_1 rfl hl (by decide) rfl (fun ls hl => ?_)
  refine lv_iconst (v := 0) hx hb dX0_unexplained_2 (by decide) ?_
  refine lv_istore_n (lv' := [(2, .int 0), (1, .int 0), (0, .ref a)]) hx hb dX0_unexplained_3 rfl hl (by decide) rfl (fun ls hl => ?_)
  have hL4 : ∀ (n4 : Nat) (y1 y2 : Int32) (H : Heap) (locs : List Loc) (ls : Array Slot), lp (fX0_unexplained_L4 v) (fun _ _ => none) n4 y1 y2 = some r0 → bB D E LBa a v s H locs → lv_has ls 3 [(0, .ref a), (1, .int y1), (2, .int y2)] → W p l e (rmOf 1 0 0) s m args below meth c H locs 0 0 (bQ below D E LBa a v (some (.int r0)) args s 0 0) (F0 m 4 ls []) := by
    intro n4
    induction n4 with
    | zero => intro y1 y2 H locs ls hf; cases (show (none : Option Int32) = some r0 from hf)
    | succ n4 ih4 =>
      intro y1 y2 H locs ls hf hB hl
      have hf := (fX0_unexplained_L4.eq_1 v (lp (fX0_unexplained_L4 v) (fun _ _ => none) n4) y1 y2).symm.trans (show fX0_unexplained_L4 v (lp (fX0_unexplained_L4 v) (fun _ _ => none) n4) y1 y2 = some r0 from hf)
      refine lv_iload_n hx hb dX0_unexplained_4 rfl (lv_at hl 2 rfl) ?_
      refine lv_aload_n hx hb dX0_unexplained_5 rfl (lv_at hl 0 rfl) ?_
      refine bk_getI X hB kl_X0 0 lc_Ba_0 0 (by decide) rfl wm_169 dX0_unexplained_6 ?_
      refine lv_icmp_ge (tgt := 40) hx hb dX0_unexplained_9 (by decide) (fun c3 => ?_) (fun c3 => ?_)
      · have hf := (if_pos c3).symm.trans hf
        refine lv_iload_n hx hb dX0_unexplained_40 rfl (lv_at hl 1 rfl) ?_
        exact bk_iR X hr rfl hf hB (Nat.le_of_ble_eq_true rfl) (Nat.le_of_ble_eq_true rfl) dX0_unexplained_41
      · have hf := (if_neg c3).symm.trans hf
        refine lv_aload_n hx hb dX0_unexplained_12 rfl (lv_at hl 0 rfl) ?_
        refine bk_getR X hB kl_X0 0 lc_Ba_0 8 (by decide) rfl wm_193 dX0_unexplained_13 ?_
        refine lv_iload_n hx hb dX0_unexplained_16 rfl (lv_at hl 2 rfl) ?_
        obtain ⟨h4, hf⟩ := ck_some hf
        refine bk_ald X hB 8 lc_Ba_8 h4 dX0_unexplained_17 ?_
        refine lv_aload_n hx hb dX0_unexplained_18 rfl (lv_at hl 0 rfl) ?_
        refine bk_getR X hB kl_X0 0 lc_Ba_0 9 (by decide) rfl wm_196 dX0_unexplained_19 ?_
        refine lv_iload_n hx hb dX0_unexplained_22 rfl (lv_at hl 2 rfl) ?_
        obtain ⟨h5, hf⟩ := ck_some hf
        refine bk_rld X hB 9 lc_Ba_9 h5 dX0_unexplained_23 ?_
        refine lv_iconst (v := 5) hx hb dX0_unexplained_24 (by decide) ?_
        obtain ⟨r7, hc6, hf⟩ := bnr_some hf
        refine bk_subR (bSub_arr hB.2.2.1 (by decide) (lr_Ba_9 _ (vp_lt h5))) hB (fun h1 h2 h3 => bk_runSN X (Av := [.ref (a + (10 + 1 * y2.toNatClampNeg)), .int 5]) (rest := [.int (v (169 + y2.toNatClampNeg))]) (mX8_sumOf hc6) ys_X8_sumOf (List.mem_of_getElem? (i := 13) rfl) ⟨Nat.le_of_ble_eq_true rfl, Nat.le_of_ble_eq_true rfl⟩ rfl rfl hl.1 h1 h2 h3 (Nat.le_of_ble_eq_true rfl) ⟨Nat.le_of_ble_eq_true rfl, Nat.le_of_ble_eq_true rfl⟩ dX0_unexplained_25) (fun H locs hB => ?_)
        refine W.eq (g2 := F0 m 28 ls [.int r7, .int (v (169 + y2.toNatClampNeg))]) rfl ?_
        have hJ34 : ∀ (y8 : Int32) (H : Heap) (locs : List Loc) (ls : Array Slot), fX0_unexplained_J34 y2 (lp (fX0_unexplained_L4 v) (fun _ _ => none) n4) y8 = some r0 → bB D E LBa a v s H locs → lv_has ls 3 [(0, .ref a), (1, .int y8), (2, .int y2)] → W p l e (rmOf 1 0 0) s m args below meth c H locs 0 0 (bQ below D E LBa a v (some (.int r0)) args s 0 0) (F0 m 34 ls []) := by
          intro y8 H locs ls hf hB hl
          have hf := (fX0_unexplained_J34.eq_1 y2 (lp (fX0_unexplained_L4 v) (fun _ _ => none) n4) y8).symm.trans hf
          obtain ⟨x9, ex9⟩ : ∃ y : Int32, y = y2 + 1 := ⟨_, rfl⟩
          have hf := nm_use hf ex9
          refine lv_iinc (v := x9) (lv' := [(2, .int x9), (0, .ref a), (1, .int y8)]) hx hb dX0_unexplained_34 hl (k := 2) rfl (by rw [ex9]; rfl) (by decide) rfl (fun ls hl => ?_)
          refine lv_goto (tgt := 4) hx hb dX0_unexplained_37 (by decide) ?_
          exact ih4 y8 x9 H locs ls hf hB (lv_sub hl [1, 2, 0] rfl)
        refine lv_icmp_eq (tgt := 34) hx hb dX0_unexplained_28 (by decide) (fun c10 => ?_) (fun c10 => ?_)
        · have hf := (if_pos c10).symm.trans hf
          exact hJ34 y1 H locs ls hf hB (lv_sub hl [0, 1, 2] rfl)
        · have hf := (if_neg c10).symm.trans hf
          obtain ⟨x11, ex11⟩ : ∃ y : Int32, y = y1 + 1 := ⟨_, rfl⟩
          have hf := nm_use hf ex11
          refine lv_iinc (v := x11) (lv' := [(1, .int x11), (0, .ref a), (2, .int y2)]) hx hb dX0_unexplained_31 hl (k := 1) rfl (by rw [ex11]; rfl) (by decide) rfl (fun ls hl => ?_)
          exact hJ34 x11 H locs ls hf hB (lv_sub hl [1, 0, 2] rfl)
  exact hL4 lpN 0 0 H locs ls hf hB (lv_sub hl [2, 1, 0] rfl)
theorem yv_X0_unexplained : bYv yX0_unexplained RX0 cX0_unexplained 3 (some .int) 0 := ⟨⟨rfl, by decide, by decide, rfl⟩, wm_868, wm_869, wm_6, wm_870⟩
