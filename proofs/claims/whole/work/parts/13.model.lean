theorem dX9_thrown_0 : decode cX9_thrown 0 = .ok (.aload_n 0, 1) := by decide +kernel
theorem dX9_thrown_1 : decode cX9_thrown 1 = .ok (.getfield 60, 3) := by decide +kernel
theorem dX9_thrown_4 : decode cX9_thrown 4 = .ok (.ireturn, 1) := by decide +kernel
def fX9_thrown  (v : bM) : Option Int32 :=
  some (v 3)
set_option maxRecDepth 100000 in
set_option maxHeartbeats 4000000 in
theorem mX9_thrown {l : Launch}  {v : bM} {r0 : Int32} (hf : fX9_thrown  v = some r0) : bMet l yX9_thrown cX9_thrown 1 (some .int) 0 0 0 LMo (fun E a => [.ref a]) v v (fun _ => some (.int r0)) := by
  refine bk_start (by decide +kernel) wfMo (fun _ _ => Nat.le_of_ble_eq_true rfl) ?_
  intro p e s m args below meth c D E a ls H locs X hr hl hB
  have hx := X.1
  have hb := X.2.1
  have hown := X.2.2.2.1
  have hts := X.2.2.2.2.1
  have hl : lv_has ls 1 [(0, .ref a)] := hl
  have hf := (fX9_thrown.eq_1  v).symm.trans hf
  refine lv_aload_n hx hb dX9_thrown_0 rfl (lv_at hl 0 rfl) ?_
  refine bk_getI X hB kl_X9 0 lc_Mo_0 4 (by decide) rfl wm_1867 dX9_thrown_1 ?_
  exact bk_iR X hr rfl hf hB (Nat.le_of_ble_eq_true rfl) (Nat.le_of_ble_eq_true rfl) dX9_thrown_4
theorem yv_X9_thrown : bYv yX9_thrown RX9 cX9_thrown 1 (some .int) 0 := ⟨⟨rfl, by decide, by decide, rfl⟩, wm_1922, wm_1923, wm_17, wm_1924⟩

theorem dX9_inRange_0 : decode cX9_inRange 0 = .ok (.iload_n 0, 1) := by decide +kernel
theorem dX9_inRange_1 : decode cX9_inRange 1 = .ok (.iload_n 1, 1) := by decide +kernel
theorem dX9_inRange_2 : decode cX9_inRange 2 = .ok (.if_icmp .lt 12, 3) := by decide +kernel
theorem dX9_inRange_5 : decode cX9_inRange 5 = .ok (.iload_n 0, 1) := by decide +kernel
theorem dX9_inRange_6 : decode cX9_inRange 6 = .ok (.iload_n 2, 1) := by decide +kernel
theorem dX9_inRange_7 : decode cX9_inRange 7 = .ok (.if_icmp .gt 7, 3) := by decide +kernel
theorem dX9_inRange_10 : decode cX9_inRange 10 = .ok (.iconst 1, 1) := by decide +kernel
theorem dX9_inRange_11 : decode cX9_inRange 11 = .ok (.goto 4, 3) := by decide +kernel
theorem dX9_inRange_14 : decode cX9_inRange 14 = .ok (.iconst 0, 1) := by decide +kernel
theorem dX9_inRange_15 : decode cX9_inRange 15 = .ok (.ireturn, 1) := by decide +kernel
def fX9_inRange (p0 : Int32) (p1 : Int32) (p2 : Int32) : Option Int32 :=
  (if p0 < p1 then (some (0)) else ((if p2 < p0 then (some (0)) else (some (1)))))
set_option maxRecDepth 100000 in
set_option maxHeartbeats 4000000 in
theorem mX9_inRange {l : Launch} {p0 : Int32} {p1 : Int32} {p2 : Int32} {v : bM} {r0 : Int32} (hf : fX9_inRange p0 p1 p2 = some r0) : bMet l yX9_inRange cX9_inRange 3 (some .boolean) 0 0 0 [] (fun E a => [.int p0, .int p1, .int p2]) v v (fun _ => some (.int r0)) := by
  refine bk_start (by decide +kernel) bWf_nil (fun _ _ => Nat.le_of_ble_eq_true rfl) ?_
  intro p e s m args below meth c D E a ls H locs X hr hl hB
  have hx := X.1
  have hb := X.2.1
  have hown := X.2.2.2.1
  have hts := X.2.2.2.2.1
  have hl : lv_has ls 3 [(0, .int p0), (1, .int p1), (2, .int p2)] := hl
  have hf := (fX9_inRange.eq_1 p0 p1 p2).symm.trans hf
  refine lv_iload_n hx hb dX9_inRange_0 rfl (lv_at hl 0 rfl) ?_
  refine lv_iload_n hx hb dX9_inRange_1 rfl (lv_at hl 1 rfl) ?_
  refine lv_icmp_lt (tgt := 14) hx hb dX9_inRange_2 (by decide) (fun c1 => ?_) (fun c1 => ?_)
  · have hf := (if_pos c1).symm.trans hf
    refine lv_iconst (v := 0) hx hb dX9_inRange_14 (by decide) ?_
    exact bk_zR X hr rfl rfl hf hB (Nat.le_of_ble_eq_true rfl) (Nat.le_of_ble_eq_true rfl) dX9_inRange_15
  · have hf := (if_neg c1).symm.trans hf
    refine lv_iload_n hx hb dX9_inRange_5 rfl (lv_at hl 0 rfl) ?_
    refine lv_iload_n hx hb dX9_inRange_6 rfl (lv_at hl 2 rfl) ?_
    refine lv_icmp_gt (tgt := 14) hx hb dX9_inRange_7 (by decide) (fun c2 => ?_) (fun c2 => ?_)
    · have hf := (if_pos c2).symm.trans hf
      refine lv_iconst (v := 0) hx hb dX9_inRange_14 (by decide) ?_
      exact bk_zR X hr rfl rfl hf hB (Nat.le_of_ble_eq_true rfl) (Nat.le_of_ble_eq_true rfl) dX9_inRange_15
    · have hf := (if_neg c2).symm.trans hf
      refine lv_iconst (v := 1) hx hb dX9_inRange_10 (by decide) ?_
      refine lv_goto (tgt := 15) hx hb dX9_inRange_11 (by decide) ?_
      exact bk_zR X hr rfl rfl hf hB (Nat.le_of_ble_eq_true rfl) (Nat.le_of_ble_eq_true rfl) dX9_inRange_15
theorem ys_X9_inRange : bYs yX9_inRange RX9 cX9_inRange 3 (some .boolean) 3 := ⟨⟨rfl, by decide, by decide, rfl⟩, wm_1654, wm_17, wm_1655⟩

theorem dX9_fails_0 : decode cX9_fails 0 = .ok (.iload_n 1, 1) := by decide +kernel
theorem dX9_fails_1 : decode cX9_fails 1 = .ok (.ifCond .ne 8, 3) := by decide +kernel
theorem dX9_fails_4 : decode cX9_fails 4 = .ok (.aload_n 0, 1) := by decide +kernel
theorem dX9_fails_5 : decode cX9_fails 5 = .ok (.iload_n 2, 1) := by decide +kernel
theorem dX9_fails_6 : decode cX9_fails 6 = .ok (.putfield 60, 3) := by decide +kernel
theorem dX9_fails_9 : decode cX9_fails 9 = .ok (.iload_n 1, 1) := by decide +kernel
theorem dX9_fails_10 : decode cX9_fails 10 = .ok (.ifCond .ne 7, 3) := by decide +kernel
theorem dX9_fails_13 : decode cX9_fails 13 = .ok (.iconst 1, 1) := by decide +kernel
theorem dX9_fails_14 : decode cX9_fails 14 = .ok (.goto 4, 3) := by decide +kernel
theorem dX9_fails_17 : decode cX9_fails 17 = .ok (.iconst 0, 1) := by decide +kernel
theorem dX9_fails_18 : decode cX9_fails 18 = .ok (.ireturn, 1) := by decide +kernel
def fX9_fails_J9 (p1 : Int32)  (v1 : bM) : Option (Int32 × bM) :=
  (if p1 = 0 then (some (1, v1)) else (some (0, v1)))
def fX9_fails (p1 : Int32) (p2 : Int32) (v : bM) : Option (Int32 × bM) :=
  (if p1 = 0 then (nm (upd v 3 p2) fun v4 => fX9_fails_J9 p1 v4) else (fX9_fails_J9 p1 v))
set_option maxRecDepth 100000 in
set_option maxHeartbeats 4000000 in
theorem mX9_fails {l : Launch} {p1 : Int32} {p2 : Int32} {v : bM} {r0 : Int32} {w0 : bM} (hf : fX9_fails p1 p2 v = some (r0, w0)) : bMet l yX9_fails cX9_fails 3 (some .boolean) 0 0 0 LMo (fun E a => [.ref a, .int p1, .int p2]) v w0 (fun _ => some (.int r0)) := by
  refine bk_start (by decide +kernel) wfMo (fun _ _ => Nat.le_of_ble_eq_true rfl) ?_
  intro p e s m args below meth c D E a ls H locs X hr hl hB
  have hx := X.1
  have hb := X.2.1
  have hown := X.2.2.2.1
  have hts := X.2.2.2.2.1
  have hl : lv_has ls 3 [(0, .ref a), (1, .int p1), (2, .int p2)] := hl
  have hf := (fX9_fails.eq_1 p1 p2 v).symm.trans hf
  refine lv_iload_n hx hb dX9_fails_0 rfl (lv_at hl 1 rfl) ?_
  have hJ9 : ∀ (v1 : bM) (H : Heap) (locs : List Loc) (ls : Array Slot), fX9_fails_J9 p1 v1 = some (r0, w0) → bB D E LMo a v1 s H locs → lv_has ls 3 [(1, .int p1)] → W p l e (rmOf 0 0 0) s m args below meth c H locs 0 0 (bQ below D E LMo a w0 (some (.int r0)) args s 0 0) (F0 m 9 ls []) := by
    intro v1 H locs ls hf hB hl
    have hf := (fX9_fails_J9.eq_1 p1 v1).symm.trans hf
    refine lv_iload_n hx hb dX9_fails_9 rfl (lv_at hl 0 rfl) ?_
    refine lv_if_ne (tgt := 17) hx hb dX9_fails_10 (by decide) (fun c2 => ?_) (fun c2 => ?_)
    · have hf := (if_neg c2).symm.trans hf
      refine lv_iconst (v := 0) hx hb dX9_fails_17 (by decide) ?_
      exact bk_zW X hr rfl rfl hf hB (Nat.le_of_ble_eq_true rfl) (Nat.le_of_ble_eq_true rfl) dX9_fails_18
    · have hf := (if_pos c2).symm.trans hf
      refine lv_iconst (v := 1) hx hb dX9_fails_13 (by decide) ?_
      refine lv_goto (tgt := 18) hx hb dX9_fails_14 (by decide) ?_
      exact bk_zW X hr rfl rfl hf hB (Nat.le_of_ble_eq_true rfl) (Nat.le_of_ble_eq_true rfl) dX9_fails_18
  refine lv_if_ne (tgt := 9) hx hb dX9_fails_1 (by decide) (fun c3 => ?_) (fun c3 => ?_)
  · have hf := (if_neg c3).symm.trans hf
    exact hJ9 v H locs ls hf hB (lv_sub hl [1] rfl)
  · have hf := (if_pos c3).symm.trans hf
    refine lv_aload_n hx hb dX9_fails_4 rfl (lv_at hl 0 rfl) ?_
    refine lv_iload_n hx hb dX9_fails_5 rfl (lv_at hl 2 rfl) ?_
    refine bk_putI X hB kl_X9 0 lc_Mo_0 4 (by decide) rfl rfl rfl wm_1867 dX9_fails_6 rfl (fun H locs hB => ?_)
    obtain ⟨v4, ev4⟩ : ∃ y : bM, y = upd v 3 p2 := ⟨_, rfl⟩
    have hf := nm_use hf ev4
    rw [← ev4] at hB
    exact hJ9 v4 H locs ls hf hB (lv_sub hl [1] rfl)
theorem yv_X9_fails : bYv yX9_fails RX9 cX9_fails 3 (some .boolean) 2 := ⟨⟨rfl, by decide, by decide, rfl⟩, wm_1979, wp_77, wm_17, wm_1980⟩

theorem dX9_flag_0 : decode cX9_flag 0 = .ok (.iload_n 0, 1) := by decide +kernel
theorem dX9_flag_1 : decode cX9_flag 1 = .ok (.ifCond .eq 7, 3) := by decide +kernel
theorem dX9_flag_4 : decode cX9_flag 4 = .ok (.iconst 1, 1) := by decide +kernel
theorem dX9_flag_5 : decode cX9_flag 5 = .ok (.goto 4, 3) := by decide +kernel
theorem dX9_flag_8 : decode cX9_flag 8 = .ok (.iconst 0, 1) := by decide +kernel
theorem dX9_flag_9 : decode cX9_flag 9 = .ok (.ireturn, 1) := by decide +kernel
def fX9_flag (p0 : Int32) : Option Int32 :=
  (if p0 = 0 then (some (0)) else (some (1)))
set_option maxRecDepth 100000 in
set_option maxHeartbeats 4000000 in
theorem mX9_flag {l : Launch} {p0 : Int32} {v : bM} {r0 : Int32} (hf : fX9_flag p0 = some r0) : bMet l yX9_flag cX9_flag 1 (some .int) 0 0 0 [] (fun E a => [.int p0]) v v (fun _ => some (.int r0)) := by
  refine bk_start (by decide +kernel) bWf_nil (fun _ _ => Nat.le_of_ble_eq_true rfl) ?_
  intro p e s m args below meth c D E a ls H locs X hr hl hB
  have hx := X.1
  have hb := X.2.1
  have hown := X.2.2.2.1
  have hts := X.2.2.2.2.1
  have hl : lv_has ls 1 [(0, .int p0)] := hl
  have hf := (fX9_flag.eq_1 p0).symm.trans hf
  refine lv_iload_n hx hb dX9_flag_0 rfl (lv_at hl 0 rfl) ?_
  refine lv_if_eq (tgt := 8) hx hb dX9_flag_1 (by decide) (fun c1 => ?_) (fun c1 => ?_)
  · have hf := (if_pos c1).symm.trans hf
    refine lv_iconst (v := 0) hx hb dX9_flag_8 (by decide) ?_
    exact bk_iR X hr rfl hf hB (Nat.le_of_ble_eq_true rfl) (Nat.le_of_ble_eq_true rfl) dX9_flag_9
  · have hf := (if_neg c1).symm.trans hf
    refine lv_iconst (v := 1) hx hb dX9_flag_4 (by decide) ?_
    refine lv_goto (tgt := 9) hx hb dX9_flag_5 (by decide) ?_
    exact bk_iR X hr rfl hf hB (Nat.le_of_ble_eq_true rfl) (Nat.le_of_ble_eq_true rfl) dX9_flag_9
theorem ys_X9_flag : bYs yX9_flag RX9 cX9_flag 1 (some .int) 1 := ⟨⟨rfl, by decide, by decide, rfl⟩, wm_1675, wm_17, wm_1676⟩

theorem dX9_flour_0 : decode cX9_flour 0 = .ok (.aload_n 0, 1) := by decide +kernel
theorem dX9_flour_1 : decode cX9_flour 1 = .ok (.getfield 17, 3) := by decide +kernel
theorem dX9_flour_4 : decode cX9_flour 4 = .ok (.bipush 40, 2) := by decide +kernel
theorem dX9_flour_6 : decode cX9_flour 6 = .ok (.bipush 28, 2) := by decide +kernel
theorem dX9_flour_8 : decode cX9_flour 8 = .ok (.iload_n 1, 1) := by decide +kernel
theorem dX9_flour_9 : decode cX9_flour 9 = .ok (.imul, 1) := by decide +kernel
theorem dX9_flour_10 : decode cX9_flour 10 = .ok (.iadd, 1) := by decide +kernel
theorem dX9_flour_11 : decode cX9_flour 11 = .ok (.iload_n 2, 1) := by decide +kernel
theorem dX9_flour_12 : decode cX9_flour 12 = .ok (.iadd, 1) := by decide +kernel
theorem dX9_flour_13 : decode cX9_flour 13 = .ok (.iaload, 1) := by decide +kernel
theorem dX9_flour_14 : decode cX9_flour 14 = .ok (.ireturn, 1) := by decide +kernel
def fX9_flour (p1 : Int32) (p2 : Int32) (v : bM) : Option Int32 :=
  ck ((40 + (28 * p1)) + p2) 496 <| some (v (710 + ((40 + (28 * p1)) + p2).toNatClampNeg))
set_option maxRecDepth 100000 in
set_option maxHeartbeats 4000000 in
theorem mX9_flour {l : Launch} {p1 : Int32} {p2 : Int32} {v : bM} {r0 : Int32} (hf : fX9_flour p1 p2 v = some r0) : bMet l yX9_flour cX9_flour 3 (some .int) 0 0 0 LMo (fun E a => [.ref a, .int p1, .int p2]) v v (fun _ => some (.int r0)) := by
  refine bk_start (by decide +kernel) wfMo (fun _ _ => Nat.le_of_ble_eq_true rfl) ?_
  intro p e s m args below meth c D E a ls H locs X hr hl hB
  have hx := X.1
  have hb := X.2.1
  have hown := X.2.2.2.1
  have hts := X.2.2.2.2.1
  have hl : lv_has ls 3 [(0, .ref a), (1, .int p1), (2, .int p2)] := hl
  have hf := (fX9_flour.eq_1 p1 p2 v).symm.trans hf
  refine lv_aload_n hx hb dX9_flour_0 rfl (lv_at hl 0 rfl) ?_
  refine bk_getR X hB kl_X9 0 lc_Mo_0 5 (by decide) rfl wm_1868 dX9_flour_1 ?_
  refine lv_bipush (v := 40) hx hb dX9_flour_4 (by decide) ?_
  refine lv_bipush (v := 28) hx hb dX9_flour_6 (by decide) ?_
  refine lv_iload_n hx hb dX9_flour_8 rfl (lv_at hl 1 rfl) ?_
  refine lv_imul hx hb dX9_flour_9 ?_
  refine lv_iadd hx hb dX9_flour_10 ?_
  refine lv_iload_n hx hb dX9_flour_11 rfl (lv_at hl 2 rfl) ?_
  refine lv_iadd hx hb dX9_flour_12 ?_
  obtain ⟨h1, hf⟩ := ck_some hf
  refine bk_ald X hB 2 lc_Mo_2 h1 dX9_flour_13 ?_
  exact bk_iR X hr rfl hf hB (Nat.le_of_ble_eq_true rfl) (Nat.le_of_ble_eq_true rfl) dX9_flour_14
theorem yv_X9_flour : bYv yX9_flour RX9 cX9_flour 3 (some .int) 2 := ⟨⟨rfl, by decide, by decide, rfl⟩, wm_1760, wp_48, wm_17, wm_1761⟩

theorem dX9_addToFlour_0 : decode cX9_addToFlour 0 = .ok (.aload_n 0, 1) := by decide +kernel
theorem dX9_addToFlour_1 : decode cX9_addToFlour 1 = .ok (.getfield 17, 3) := by decide +kernel
theorem dX9_addToFlour_4 : decode cX9_addToFlour 4 = .ok (.bipush 40, 2) := by decide +kernel
theorem dX9_addToFlour_6 : decode cX9_addToFlour 6 = .ok (.bipush 28, 2) := by decide +kernel
theorem dX9_addToFlour_8 : decode cX9_addToFlour 8 = .ok (.iload_n 1, 1) := by decide +kernel
theorem dX9_addToFlour_9 : decode cX9_addToFlour 9 = .ok (.imul, 1) := by decide +kernel
theorem dX9_addToFlour_10 : decode cX9_addToFlour 10 = .ok (.iadd, 1) := by decide +kernel
theorem dX9_addToFlour_11 : decode cX9_addToFlour 11 = .ok (.iload_n 2, 1) := by decide +kernel
theorem dX9_addToFlour_12 : decode cX9_addToFlour 12 = .ok (.iadd, 1) := by decide +kernel
theorem dX9_addToFlour_13 : decode cX9_addToFlour 13 = .ok (.dup2, 1) := by decide +kernel
theorem dX9_addToFlour_14 : decode cX9_addToFlour 14 = .ok (.iaload, 1) := by decide +kernel
theorem dX9_addToFlour_15 : decode cX9_addToFlour 15 = .ok (.iload_n 3, 1) := by decide +kernel
theorem dX9_addToFlour_16 : decode cX9_addToFlour 16 = .ok (.iadd, 1) := by decide +kernel
theorem dX9_addToFlour_17 : decode cX9_addToFlour 17 = .ok (.iastore, 1) := by decide +kernel
theorem dX9_addToFlour_18 : decode cX9_addToFlour 18 = .ok (.return_, 1) := by decide +kernel
def fX9_addToFlour (p1 : Int32) (p2 : Int32) (p3 : Int32) (v : bM) : Option bM :=
  nm ((40 + (28 * p1)) + p2) fun x1 => ck x1 496 <| nm ((v (710 + x1.toNatClampNeg)) + p3) fun x3 => ck x1 496 <| nm (upd v (710 + x1.toNatClampNeg) x3) fun v5 => some v5
set_option maxRecDepth 100000 in
set_option maxHeartbeats 4000000 in
theorem mX9_addToFlour {l : Launch} {p1 : Int32} {p2 : Int32} {p3 : Int32} {v : bM} {w0 : bM} (hf : fX9_addToFlour p1 p2 p3 v = some w0) : bMet l yX9_addToFlour cX9_addToFlour 4 none 0 0 0 LMo (fun E a => [.ref a, .int p1, .int p2, .int p3]) v w0 (fun _ => none) := by
  refine bk_start (by decide +kernel) wfMo (fun _ _ => Nat.le_of_ble_eq_true rfl) ?_
  intro p e s m args below meth c D E a ls H locs X hr hl hB
  have hx := X.1
  have hb := X.2.1
  have hown := X.2.2.2.1
  have hts := X.2.2.2.2.1
  have hl : lv_has ls 4 [(0, .ref a), (1, .int p1), (2, .int p2), (3, .int p3)] := hl
  have hf := (fX9_addToFlour.eq_1 p1 p2 p3 v).symm.trans hf
  refine lv_aload_n hx hb dX9_addToFlour_0 rfl (lv_at hl 0 rfl) ?_
  refine bk_getR X hB kl_X9 0 lc_Mo_0 5 (by decide) rfl wm_1868 dX9_addToFlour_1 ?_
  refine lv_bipush (v := 40) hx hb dX9_addToFlour_4 (by decide) ?_
  refine lv_bipush (v := 28) hx hb dX9_addToFlour_6 (by decide) ?_
  refine lv_iload_n hx hb dX9_addToFlour_8 rfl (lv_at hl 1 rfl) ?_
  refine lv_imul hx hb dX9_addToFlour_9 ?_
  refine lv_iadd hx hb dX9_addToFlour_10 ?_
  refine lv_iload_n hx hb dX9_addToFlour_11 rfl (lv_at hl 2 rfl) ?_
  refine lv_iadd hx hb dX9_addToFlour_12 ?_
  refine lv_topi (fun x1 ex1 => ?_)
  have hf := nm_use hf ex1
  refine lv_dup2_11 hx hb dX9_addToFlour_13 rfl rfl ?_
  obtain ⟨h2, hf⟩ := ck_some hf
  refine bk_ald X hB 2 lc_Mo_2 h2 dX9_addToFlour_14 ?_
  refine lv_iload_n hx hb dX9_addToFlour_15 rfl (lv_at hl 3 rfl) ?_
  refine lv_iadd hx hb dX9_addToFlour_16 ?_
  refine lv_topi (fun x3 ex3 => ?_)
  have hf := nm_use hf ex3
  obtain ⟨h4, hf⟩ := ck_some hf
  refine bk_ast X hB 2 lc_Mo_2 h4 dX9_addToFlour_17 (fun H locs hB => ?_)
  obtain ⟨v5, ev5⟩ : ∃ y : bM, y = upd v (710 + x1.toNatClampNeg) x3 := ⟨_, rfl⟩
  have hf := nm_use hf ev5
  rw [← ev5] at hB
  exact bk_vW X hr rfl hf hB (Nat.le_of_ble_eq_true rfl) (Nat.le_of_ble_eq_true rfl) dX9_addToFlour_18
theorem yv_X9_addToFlour : bYv yX9_addToFlour RX9 cX9_addToFlour 4 none 3 := ⟨⟨rfl, by decide, by decide, rfl⟩, wm_1800, wp_58, wm_17, wm_1801⟩

theorem dX9_lot_0 : decode cX9_lot 0 = .ok (.aload_n 0, 1) := by decide +kernel
theorem dX9_lot_1 : decode cX9_lot 1 = .ok (.getfield 17, 3) := by decide +kernel
theorem dX9_lot_4 : decode cX9_lot 4 = .ok (.bipush 40, 2) := by decide +kernel
theorem dX9_lot_6 : decode cX9_lot 6 = .ok (.bipush 28, 2) := by decide +kernel
theorem dX9_lot_8 : decode cX9_lot 8 = .ok (.iload_n 1, 1) := by decide +kernel
theorem dX9_lot_9 : decode cX9_lot 9 = .ok (.imul, 1) := by decide +kernel
theorem dX9_lot_10 : decode cX9_lot 10 = .ok (.iadd, 1) := by decide +kernel
theorem dX9_lot_11 : decode cX9_lot 11 = .ok (.iconst 4, 1) := by decide +kernel
theorem dX9_lot_12 : decode cX9_lot 12 = .ok (.iadd, 1) := by decide +kernel
theorem dX9_lot_13 : decode cX9_lot 13 = .ok (.iconst 2, 1) := by decide +kernel
theorem dX9_lot_14 : decode cX9_lot 14 = .ok (.iload_n 2, 1) := by decide +kernel
theorem dX9_lot_15 : decode cX9_lot 15 = .ok (.imul, 1) := by decide +kernel
theorem dX9_lot_16 : decode cX9_lot 16 = .ok (.iadd, 1) := by decide +kernel
theorem dX9_lot_17 : decode cX9_lot 17 = .ok (.iload_n 3, 1) := by decide +kernel
theorem dX9_lot_18 : decode cX9_lot 18 = .ok (.iadd, 1) := by decide +kernel
theorem dX9_lot_19 : decode cX9_lot 19 = .ok (.iaload, 1) := by decide +kernel
theorem dX9_lot_20 : decode cX9_lot 20 = .ok (.ireturn, 1) := by decide +kernel
def fX9_lot (p1 : Int32) (p2 : Int32) (p3 : Int32) (v : bM) : Option Int32 :=
  ck ((((40 + (28 * p1)) + 4) + (2 * p2)) + p3) 496 <| some (v (710 + ((((40 + (28 * p1)) + 4) + (2 * p2)) + p3).toNatClampNeg))
set_option maxRecDepth 100000 in
set_option maxHeartbeats 4000000 in
theorem mX9_lot {l : Launch} {p1 : Int32} {p2 : Int32} {p3 : Int32} {v : bM} {r0 : Int32} (hf : fX9_lot p1 p2 p3 v = some r0) : bMet l yX9_lot cX9_lot 4 (some .int) 0 0 0 LMo (fun E a => [.ref a, .int p1, .int p2, .int p3]) v v (fun _ => some (.int r0)) := by
  refine bk_start (by decide +kernel) wfMo (fun _ _ => Nat.le_of_ble_eq_true rfl) ?_
  intro p e s m args below meth c D E a ls H locs X hr hl hB
  have hx := X.1
  have hb := X.2.1
  have hown := X.2.2.2.1
  have hts := X.2.2.2.2.1
  have hl : lv_has ls 4 [(0, .ref a), (1, .int p1), (2, .int p2), (3, .int p3)] := hl
  have hf := (fX9_lot.eq_1 p1 p2 p3 v).symm.trans hf
  refine lv_aload_n hx hb dX9_lot_0 rfl (lv_at hl 0 rfl) ?_
  refine bk_getR X hB kl_X9 0 lc_Mo_0 5 (by decide) rfl wm_1868 dX9_lot_1 ?_
  refine lv_bipush (v := 40) hx hb dX9_lot_4 (by decide) ?_
  refine lv_bipush (v := 28) hx hb dX9_lot_6 (by decide) ?_
  refine lv_iload_n hx hb dX9_lot_8 rfl (lv_at hl 1 rfl) ?_
  refine lv_imul hx hb dX9_lot_9 ?_
  refine lv_iadd hx hb dX9_lot_10 ?_
  refine lv_iconst (v := 4) hx hb dX9_lot_11 (by decide) ?_
  refine lv_iadd hx hb dX9_lot_12 ?_
  refine lv_iconst (v := 2) hx hb dX9_lot_13 (by decide) ?_
  refine lv_iload_n hx hb dX9_lot_14 rfl (lv_at hl 2 rfl) ?_
  refine lv_imul hx hb dX9_lot_15 ?_
  refine lv_iadd hx hb dX9_lot_16 ?_
  refine lv_iload_n hx hb dX9_lot_17 rfl (lv_at hl 3 rfl) ?_
  refine lv_iadd hx hb dX9_lot_18 ?_
  obtain ⟨h1, hf⟩ := ck_some hf
  refine bk_ald X hB 2 lc_Mo_2 h1 dX9_lot_19 ?_
  exact bk_iR X hr rfl hf hB (Nat.le_of_ble_eq_true rfl) (Nat.le_of_ble_eq_true rfl) dX9_lot_20
theorem yv_X9_lot : bYv yX9_lot RX9 cX9_lot 4 (some .int) 3 := ⟨⟨rfl, by decide, by decide, rfl⟩, wm_1788, wp_55, wm_17, wm_1789⟩

theorem dX9_units_0 : decode cX9_units 0 = .ok (.iconst 0, 1) := by decide +kernel
theorem dX9_units_1 : decode cX9_units 1 = .ok (.istore_n 2, 1) := by decide +kernel
theorem dX9_units_2 : decode cX9_units 2 = .ok (.iconst 0, 1) := by decide +kernel
theorem dX9_units_3 : decode cX9_units 3 = .ok (.istore_n 3, 1) := by decide +kernel
theorem dX9_units_4 : decode cX9_units 4 = .ok (.iload_n 3, 1) := by decide +kernel
theorem dX9_units_5 : decode cX9_units 5 = .ok (.aload_n 0, 1) := by decide +kernel
theorem dX9_units_6 : decode cX9_units 6 = .ok (.iload_n 1, 1) := by decide +kernel
theorem dX9_units_7 : decode cX9_units 7 = .ok (.iconst 1, 1) := by decide +kernel
theorem dX9_units_8 : decode cX9_units 8 = .ok (.invokevirtual 63, 3) := by decide +kernel
theorem dX9_units_11 : decode cX9_units 11 = .ok (.if_icmp .ge 19, 3) := by decide +kernel
theorem dX9_units_14 : decode cX9_units 14 = .ok (.iload_n 2, 1) := by decide +kernel
theorem dX9_units_15 : decode cX9_units 15 = .ok (.aload_n 0, 1) := by decide +kernel
theorem dX9_units_16 : decode cX9_units 16 = .ok (.iload_n 1, 1) := by decide +kernel
theorem dX9_units_17 : decode cX9_units 17 = .ok (.iload_n 3, 1) := by decide +kernel
theorem dX9_units_18 : decode cX9_units 18 = .ok (.iconst 0, 1) := by decide +kernel
theorem dX9_units_19 : decode cX9_units 19 = .ok (.invokevirtual 67, 3) := by decide +kernel
theorem dX9_units_22 : decode cX9_units 22 = .ok (.iadd, 1) := by decide +kernel
theorem dX9_units_23 : decode cX9_units 23 = .ok (.istore_n 2, 1) := by decide +kernel
theorem dX9_units_24 : decode cX9_units 24 = .ok (.iinc 3 1, 3) := by decide +kernel
theorem dX9_units_27 : decode cX9_units 27 = .ok (.goto (-23), 3) := by decide +kernel
theorem dX9_units_30 : decode cX9_units 30 = .ok (.iload_n 2, 1) := by decide +kernel
theorem dX9_units_31 : decode cX9_units 31 = .ok (.ireturn, 1) := by decide +kernel
def fX9_units_L4 (p1 : Int32) (v : bM) (k4 : Int32 → Int32 → Option Int32) (y1 : Int32) (y2 : Int32) : Option Int32 :=
  bnr (fX9_flour p1 1 v) fun r4 => (if r4 ≤ y2 then (some (y1)) else (bnr (fX9_lot p1 y2 0 v) fun r7 => nm (y1 + r7) fun x8 => nm (y2 + 1) fun x9 => k4 x8 x9))
def fX9_units (p1 : Int32) (v : bM) : Option Int32 :=
  lp (fX9_units_L4 p1 v) (fun _ _ => none) lpN 0 0
set_option maxRecDepth 100000 in
set_option maxHeartbeats 4000000 in
theorem mX9_units {l : Launch} {p1 : Int32} {v : bM} {r0 : Int32} (hf : fX9_units p1 v = some r0) : bMet l yX9_units cX9_units 4 (some .int) 1 0 0 LMo (fun E a => [.ref a, .int p1]) v v (fun _ => some (.int r0)) := by
  refine bk_start (by decide +kernel) wfMo (fun _ _ => Nat.le_of_ble_eq_true rfl) ?_
  intro p e s m args below meth c D E a ls H locs X hr hl hB
  have hx := X.1
  have hb := X.2.1
  have hown := X.2.2.2.1
  have hts := X.2.2.2.2.1
  have hl : lv_has ls 4 [(0, .ref a), (1, .int p1)] := hl
  have hf := (fX9_units.eq_1 p1 v).symm.trans hf
  refine lv_iconst (v := 0) hx hb dX9_units_0 (by decide) ?_
  refine lv_istore_n (lv' := [(2, .int 0), (0, .ref a), (1, .int p1)]) hx hb dX9_units_1 rfl hl (by decide) rfl (fun ls hl => ?_)
  refine lv_iconst (v := 0) hx hb dX9_units_2 (by decide) ?_
  refine lv_istore_n (lv' := [(3, .int 0), (2, .int 0), (0, .ref a), (1, .int p1)]) hx hb dX9_units_3 rfl hl (by decide) rfl (fun ls hl => ?_)
  have hL4 : ∀ (n4 : Nat) (y1 y2 : Int32) (H : Heap) (locs : List Loc) (ls : Array Slot), lp (fX9_units_L4 p1 v) (fun _ _ => none) n4 y1 y2 = some r0 → bB D E LMo a v s H locs → lv_has ls 4 [(0, .ref a), (1, .int p1), (2, .int y1), (3, .int y2)] → W p l e (rmOf 1 0 0) s m args below meth c H locs 0 0 (bQ below D E LMo a v (some (.int r0)) args s 0 0) (F0 m 4 ls []) := by
    intro n4
    induction n4 with
    | zero => intro y1 y2 H locs ls hf; cases (show (none : Option Int32) = some r0 from hf)
    | succ n4 ih4 =>
      intro y1 y2 H locs ls hf hB hl
      have hf := (fX9_units_L4.eq_1 p1 v (lp (fX9_units_L4 p1 v) (fun _ _ => none) n4) y1 y2).symm.trans (show fX9_units_L4 p1 v (lp (fX9_units_L4 p1 v) (fun _ _ => none) n4) y1 y2 = some r0 from hf)
      refine lv_iload_n hx hb dX9_units_4 rfl (lv_at hl 3 rfl) ?_
      refine lv_aload_n hx hb dX9_units_5 rfl (lv_at hl 0 rfl) ?_
      refine lv_iload_n hx hb dX9_units_6 rfl (lv_at hl 1 rfl) ?_
      refine lv_iconst (v := 1) hx hb dX9_units_7 (by decide) ?_
      obtain ⟨r4, hc3, hf⟩ := bnr_some hf
      refine bk_all hB (fun h1 h2 h3 => bk_runV X (Av := [.int p1, .int 1]) (rest := [.int y2]) (mX9_flour hc3) yv_X9_flour wm_1758 ⟨Nat.le_of_ble_eq_true rfl, Nat.le_of_ble_eq_true rfl⟩ rfl rfl hl.1 kl_X9.1 (hB.1.obj lc_Mo_0) h1 h2 h3 (Nat.le_of_ble_eq_true rfl) ⟨Nat.le_of_ble_eq_true rfl, Nat.le_of_ble_eq_true rfl⟩ dX9_units_8) (fun H locs hB => ?_)
      refine W.eq (g2 := F0 m 11 ls [.int r4, .int y2]) rfl ?_
      refine lv_icmp_ge (tgt := 30) hx hb dX9_units_11 (by decide) (fun c5 => ?_) (fun c5 => ?_)
      · have hf := (if_pos c5).symm.trans hf
        refine lv_iload_n hx hb dX9_units_30 rfl (lv_at hl 2 rfl) ?_
        exact bk_iR X hr rfl hf hB (Nat.le_of_ble_eq_true rfl) (Nat.le_of_ble_eq_true rfl) dX9_units_31
      · have hf := (if_neg c5).symm.trans hf
        refine lv_iload_n hx hb dX9_units_14 rfl (lv_at hl 2 rfl) ?_
        refine lv_aload_n hx hb dX9_units_15 rfl (lv_at hl 0 rfl) ?_
        refine lv_iload_n hx hb dX9_units_16 rfl (lv_at hl 1 rfl) ?_
        refine lv_iload_n hx hb dX9_units_17 rfl (lv_at hl 3 rfl) ?_
        refine lv_iconst (v := 0) hx hb dX9_units_18 (by decide) ?_
        obtain ⟨r7, hc6, hf⟩ := bnr_some hf
        refine bk_all hB (fun h1 h2 h3 => bk_runV X (Av := [.int p1, .int y2, .int 0]) (rest := [.int y1]) (mX9_lot hc6) yv_X9_lot wm_1786 ⟨Nat.le_of_ble_eq_true rfl, Nat.le_of_ble_eq_true rfl⟩ rfl rfl hl.1 kl_X9.1 (hB.1.obj lc_Mo_0) h1 h2 h3 (Nat.le_of_ble_eq_true rfl) ⟨Nat.le_of_ble_eq_true rfl, Nat.le_of_ble_eq_true rfl⟩ dX9_units_19) (fun H locs hB => ?_)
        refine W.eq (g2 := F0 m 22 ls [.int r7, .int y1]) rfl ?_
        refine lv_iadd hx hb dX9_units_22 ?_
        refine lv_topi (fun x8 ex8 => ?_)
        have hf := nm_use hf ex8
        refine lv_istore_n (lv' := [(2, .int x8), (0, .ref a), (1, .int p1), (3, .int y2)]) hx hb dX9_units_23 rfl hl (by decide) rfl (fun ls hl => ?_)
        obtain ⟨x9, ex9⟩ : ∃ y : Int32, y = y2 + 1 := ⟨_, rfl⟩
        have hf := nm_use hf ex9
        refine lv_iinc (v := x9) (lv' := [(3, .int x9), (2, .int x8), (0, .ref a), (1, .int p1)]) hx hb dX9_units_24 hl (k := 3) rfl (by rw [ex9]; rfl) (by decide) rfl (fun ls hl => ?_)
        refine lv_goto (tgt := 4) hx hb dX9_units_27 (by decide) ?_
        exact ih4 x8 x9 H locs ls hf hB (lv_sub hl [2, 3, 1, 0] rfl)
  exact hL4 lpN 0 0 H locs ls hf hB (lv_sub hl [2, 3, 1, 0] rfl)
theorem yv_X9_units : bYv yX9_units RX9 cX9_units 4 (some .int) 1 := ⟨⟨rfl, by decide, by decide, rfl⟩, wm_1784, wp_54, wm_17, wm_1785⟩

theorem dX9_bread_0 : decode cX9_bread 0 = .ok (.aload_n 0, 1) := by decide +kernel
theorem dX9_bread_1 : decode cX9_bread 1 = .ok (.getfield 17, 3) := by decide +kernel
theorem dX9_bread_4 : decode cX9_bread 4 = .ok (.sipush 208, 3) := by decide +kernel
theorem dX9_bread_7 : decode cX9_bread 7 = .ok (.iconst 4, 1) := by decide +kernel
theorem dX9_bread_8 : decode cX9_bread 8 = .ok (.iload_n 1, 1) := by decide +kernel
theorem dX9_bread_9 : decode cX9_bread 9 = .ok (.imul, 1) := by decide +kernel
theorem dX9_bread_10 : decode cX9_bread 10 = .ok (.iadd, 1) := by decide +kernel
theorem dX9_bread_11 : decode cX9_bread 11 = .ok (.iload_n 2, 1) := by decide +kernel
theorem dX9_bread_12 : decode cX9_bread 12 = .ok (.iadd, 1) := by decide +kernel
theorem dX9_bread_13 : decode cX9_bread 13 = .ok (.iaload, 1) := by decide +kernel
theorem dX9_bread_14 : decode cX9_bread 14 = .ok (.ireturn, 1) := by decide +kernel
def fX9_bread (p1 : Int32) (p2 : Int32) (v : bM) : Option Int32 :=
  ck ((208 + (4 * p1)) + p2) 496 <| some (v (710 + ((208 + (4 * p1)) + p2).toNatClampNeg))
set_option maxRecDepth 100000 in
set_option maxHeartbeats 4000000 in
theorem mX9_bread {l : Launch} {p1 : Int32} {p2 : Int32} {v : bM} {r0 : Int32} (hf : fX9_bread p1 p2 v = some r0) : bMet l yX9_bread cX9_bread 3 (some .int) 0 0 0 LMo (fun E a => [.ref a, .int p1, .int p2]) v v (fun _ => some (.int r0)) := by
  refine bk_start (by decide +kernel) wfMo (fun _ _ => Nat.le_of_ble_eq_true rfl) ?_
  intro p e s m args below meth c D E a ls H locs X hr hl hB
  have hx := X.1
  have hb := X.2.1
  have hown := X.2.2.2.1
  have hts := X.2.2.2.2.1
  have hl : lv_has ls 3 [(0, .ref a), (1, .int p1), (2, .int p2)] := hl
  have hf := (fX9_bread.eq_1 p1 p2 v).symm.trans hf
  refine lv_aload_n hx hb dX9_bread_0 rfl (lv_at hl 0 rfl) ?_
  refine bk_getR X hB kl_X9 0 lc_Mo_0 5 (by decide) rfl wm_1868 dX9_bread_1 ?_
  refine lv_sipush (v := 208) hx hb dX9_bread_4 (by decide) ?_
  refine lv_iconst (v := 4) hx hb dX9_bread_7 (by decide) ?_
  refine lv_iload_n hx hb dX9_bread_8 rfl (lv_at hl 1 rfl) ?_
  refine lv_imul hx hb dX9_bread_9 ?_
  refine lv_iadd hx hb dX9_bread_10 ?_
  refine lv_iload_n hx hb dX9_bread_11 rfl (lv_at hl 2 rfl) ?_
  refine lv_iadd hx hb dX9_bread_12 ?_
  obtain ⟨h1, hf⟩ := ck_some hf
  refine bk_ald X hB 2 lc_Mo_2 h1 dX9_bread_13 ?_
  exact bk_iR X hr rfl hf hB (Nat.le_of_ble_eq_true rfl) (Nat.le_of_ble_eq_true rfl) dX9_bread_14
theorem yv_X9_bread : bYv yX9_bread RX9 cX9_bread 3 (some .int) 2 := ⟨⟨rfl, by decide, by decide, rfl⟩, wm_1776, wp_52, wm_17, wm_1777⟩

theorem dX9_batch_0 : decode cX9_batch 0 = .ok (.aload_n 0, 1) := by decide +kernel
theorem dX9_batch_1 : decode cX9_batch 1 = .ok (.getfield 17, 3) := by decide +kernel
theorem dX9_batch_4 : decode cX9_batch 4 = .ok (.sipush 232, 3) := by decide +kernel
theorem dX9_batch_7 : decode cX9_batch 7 = .ok (.bipush 11, 2) := by decide +kernel
theorem dX9_batch_9 : decode cX9_batch 9 = .ok (.iload_n 1, 1) := by decide +kernel
theorem dX9_batch_10 : decode cX9_batch 10 = .ok (.imul, 1) := by decide +kernel
theorem dX9_batch_11 : decode cX9_batch 11 = .ok (.iadd, 1) := by decide +kernel
theorem dX9_batch_12 : decode cX9_batch 12 = .ok (.iload_n 2, 1) := by decide +kernel
theorem dX9_batch_13 : decode cX9_batch 13 = .ok (.iadd, 1) := by decide +kernel
theorem dX9_batch_14 : decode cX9_batch 14 = .ok (.iaload, 1) := by decide +kernel
theorem dX9_batch_15 : decode cX9_batch 15 = .ok (.ireturn, 1) := by decide +kernel
def fX9_batch (p1 : Int32) (p2 : Int32) (v : bM) : Option Int32 :=
  ck ((232 + (11 * p1)) + p2) 496 <| some (v (710 + ((232 + (11 * p1)) + p2).toNatClampNeg))
set_option maxRecDepth 100000 in
set_option maxHeartbeats 4000000 in
theorem mX9_batch {l : Launch} {p1 : Int32} {p2 : Int32} {v : bM} {r0 : Int32} (hf : fX9_batch p1 p2 v = some r0) : bMet l yX9_batch cX9_batch 3 (some .int) 0 0 0 LMo (fun E a => [.ref a, .int p1, .int p2]) v v (fun _ => some (.int r0)) := by
  refine bk_start (by decide +kernel) wfMo (fun _ _ => Nat.le_of_ble_eq_true rfl) ?_
  intro p e s m args below meth c D E a ls H locs X hr hl hB
  have hx := X.1
  have hb := X.2.1
  have hown := X.2.2.2.1
  have hts := X.2.2.2.2.1
  have hl : lv_has ls 3 [(0, .ref a), (1, .int p1), (2, .int p2)] := hl
  have hf := (fX9_batch.eq_1 p1 p2 v).symm.trans hf
  refine lv_aload_n hx hb dX9_batch_0 rfl (lv_at hl 0 rfl) ?_
  refine bk_getR X hB kl_X9 0 lc_Mo_0 5 (by decide) rfl wm_1868 dX9_batch_1 ?_
  refine lv_sipush (v := 232) hx hb dX9_batch_4 (by decide) ?_
  refine lv_bipush (v := 11) hx hb dX9_batch_7 (by decide) ?_
  refine lv_iload_n hx hb dX9_batch_9 rfl (lv_at hl 1 rfl) ?_
  refine lv_imul hx hb dX9_batch_10 ?_
  refine lv_iadd hx hb dX9_batch_11 ?_
  refine lv_iload_n hx hb dX9_batch_12 rfl (lv_at hl 2 rfl) ?_
  refine lv_iadd hx hb dX9_batch_13 ?_
  obtain ⟨h1, hf⟩ := ck_some hf
  refine bk_ald X hB 2 lc_Mo_2 h1 dX9_batch_14 ?_
  exact bk_iR X hr rfl hf hB (Nat.le_of_ble_eq_true rfl) (Nat.le_of_ble_eq_true rfl) dX9_batch_15
theorem yv_X9_batch : bYv yX9_batch RX9 cX9_batch 3 (some .int) 2 := ⟨⟨rfl, by decide, by decide, rfl⟩, wm_1832, wp_66, wm_17, wm_1833⟩

theorem dX9_putBatch_0 : decode cX9_putBatch 0 = .ok (.aload_n 0, 1) := by decide +kernel
theorem dX9_putBatch_1 : decode cX9_putBatch 1 = .ok (.getfield 17, 3) := by decide +kernel
theorem dX9_putBatch_4 : decode cX9_putBatch 4 = .ok (.sipush 232, 3) := by decide +kernel
theorem dX9_putBatch_7 : decode cX9_putBatch 7 = .ok (.bipush 11, 2) := by decide +kernel
theorem dX9_putBatch_9 : decode cX9_putBatch 9 = .ok (.iload_n 1, 1) := by decide +kernel
theorem dX9_putBatch_10 : decode cX9_putBatch 10 = .ok (.imul, 1) := by decide +kernel
theorem dX9_putBatch_11 : decode cX9_putBatch 11 = .ok (.iadd, 1) := by decide +kernel
theorem dX9_putBatch_12 : decode cX9_putBatch 12 = .ok (.iload_n 2, 1) := by decide +kernel
theorem dX9_putBatch_13 : decode cX9_putBatch 13 = .ok (.iadd, 1) := by decide +kernel
theorem dX9_putBatch_14 : decode cX9_putBatch 14 = .ok (.iload_n 3, 1) := by decide +kernel
theorem dX9_putBatch_15 : decode cX9_putBatch 15 = .ok (.iastore, 1) := by decide +kernel
theorem dX9_putBatch_16 : decode cX9_putBatch 16 = .ok (.return_, 1) := by decide +kernel
def fX9_putBatch (p1 : Int32) (p2 : Int32) (p3 : Int32) (v : bM) : Option bM :=
  ck ((232 + (11 * p1)) + p2) 496 <| nm (upd v (710 + ((232 + (11 * p1)) + p2).toNatClampNeg) p3) fun v2 => some v2
set_option maxRecDepth 100000 in
set_option maxHeartbeats 4000000 in
theorem mX9_putBatch {l : Launch} {p1 : Int32} {p2 : Int32} {p3 : Int32} {v : bM} {w0 : bM} (hf : fX9_putBatch p1 p2 p3 v = some w0) : bMet l yX9_putBatch cX9_putBatch 4 none 0 0 0 LMo (fun E a => [.ref a, .int p1, .int p2, .int p3]) v w0 (fun _ => none) := by
  refine bk_start (by decide +kernel) wfMo (fun _ _ => Nat.le_of_ble_eq_true rfl) ?_
  intro p e s m args below meth c D E a ls H locs X hr hl hB
  have hx := X.1
  have hb := X.2.1
  have hown := X.2.2.2.1
  have hts := X.2.2.2.2.1
  have hl : lv_has ls 4 [(0, .ref a), (1, .int p1), (2, .int p2), (3, .int p3)] := hl
  have hf := (fX9_putBatch.eq_1 p1 p2 p3 v).symm.trans hf
  refine lv_aload_n hx hb dX9_putBatch_0 rfl (lv_at hl 0 rfl) ?_
  refine bk_getR X hB kl_X9 0 lc_Mo_0 5 (by decide) rfl wm_1868 dX9_putBatch_1 ?_
  refine lv_sipush (v := 232) hx hb dX9_putBatch_4 (by decide) ?_
  refine lv_bipush (v := 11) hx hb dX9_putBatch_7 (by decide) ?_
  refine lv_iload_n hx hb dX9_putBatch_9 rfl (lv_at hl 1 rfl) ?_
  refine lv_imul hx hb dX9_putBatch_10 ?_
  refine lv_iadd hx hb dX9_putBatch_11 ?_
  refine lv_iload_n hx hb dX9_putBatch_12 rfl (lv_at hl 2 rfl) ?_
  refine lv_iadd hx hb dX9_putBatch_13 ?_
  refine lv_iload_n hx hb dX9_putBatch_14 rfl (lv_at hl 3 rfl) ?_
  obtain ⟨h1, hf⟩ := ck_some hf
  refine bk_ast X hB 2 lc_Mo_2 h1 dX9_putBatch_15 (fun H locs hB => ?_)
  obtain ⟨v2, ev2⟩ : ∃ y : bM, y = upd v (710 + ((232 + (11 * p1)) + p2).toNatClampNeg) p3 := ⟨_, rfl⟩
  have hf := nm_use hf ev2
  rw [← ev2] at hB
  exact bk_vW X hr rfl hf hB (Nat.le_of_ble_eq_true rfl) (Nat.le_of_ble_eq_true rfl) dX9_putBatch_16
theorem yv_X9_putBatch : bYv yX9_putBatch RX9 cX9_putBatch 4 none 3 := ⟨⟨rfl, by decide, by decide, rfl⟩, wm_1820, wp_63, wm_17, wm_1821⟩

theorem dX9_digit_0 : decode cX9_digit 0 = .ok (.iload_n 0, 1) := by decide +kernel
theorem dX9_digit_1 : decode cX9_digit 1 = .ok (.istore_n 2, 1) := by decide +kernel
theorem dX9_digit_2 : decode cX9_digit 2 = .ok (.iconst 0, 1) := by decide +kernel
theorem dX9_digit_3 : decode cX9_digit 3 = .ok (.istore_n 3, 1) := by decide +kernel
theorem dX9_digit_4 : decode cX9_digit 4 = .ok (.iload_n 3, 1) := by decide +kernel
theorem dX9_digit_5 : decode cX9_digit 5 = .ok (.iload_n 1, 1) := by decide +kernel
theorem dX9_digit_6 : decode cX9_digit 6 = .ok (.if_icmp .ge 14, 3) := by decide +kernel
theorem dX9_digit_9 : decode cX9_digit 9 = .ok (.iload_n 2, 1) := by decide +kernel
theorem dX9_digit_10 : decode cX9_digit 10 = .ok (.bipush 10, 2) := by decide +kernel
theorem dX9_digit_12 : decode cX9_digit 12 = .ok (.idiv, 1) := by decide +kernel
theorem dX9_digit_13 : decode cX9_digit 13 = .ok (.istore_n 2, 1) := by decide +kernel
theorem dX9_digit_14 : decode cX9_digit 14 = .ok (.iinc 3 1, 3) := by decide +kernel
theorem dX9_digit_17 : decode cX9_digit 17 = .ok (.goto (-13), 3) := by decide +kernel
theorem dX9_digit_20 : decode cX9_digit 20 = .ok (.iload_n 2, 1) := by decide +kernel
theorem dX9_digit_21 : decode cX9_digit 21 = .ok (.bipush 10, 2) := by decide +kernel
theorem dX9_digit_23 : decode cX9_digit 23 = .ok (.irem, 1) := by decide +kernel
theorem dX9_digit_24 : decode cX9_digit 24 = .ok (.ireturn, 1) := by decide +kernel
def fX9_digit_L4 (p1 : Int32) (k4 : Int32 → Int32 → Option Int32) (y1 : Int32) (y2 : Int32) : Option Int32 :=
  (if p1 ≤ y2 then (some (y1 - y1 / 10 * 10)) else (nm (y1 / 10) fun x4 => nm (y2 + 1) fun x5 => k4 x4 x5))
def fX9_digit (p0 : Int32) (p1 : Int32) : Option Int32 :=
  lp (fX9_digit_L4 p1) (fun _ _ => none) lpN p0 0
set_option maxRecDepth 100000 in
set_option maxHeartbeats 4000000 in
theorem mX9_digit {l : Launch} {p0 : Int32} {p1 : Int32} {v : bM} {r0 : Int32} (hf : fX9_digit p0 p1 = some r0) : bMet l yX9_digit cX9_digit 4 (some .int) 0 0 0 [] (fun E a => [.int p0, .int p1]) v v (fun _ => some (.int r0)) := by
  refine bk_start (by decide +kernel) bWf_nil (fun _ _ => Nat.le_of_ble_eq_true rfl) ?_
  intro p e s m args below meth c D E a ls H locs X hr hl hB
  have hx := X.1
  have hb := X.2.1
  have hown := X.2.2.2.1
  have hts := X.2.2.2.2.1
  have hl : lv_has ls 4 [(0, .int p0), (1, .int p1)] := hl
  have hf := (fX9_digit.eq_1 p0 p1).symm.trans hf
  refine lv_iload_n hx hb dX9_digit_0 rfl (lv_at hl 0 rfl) ?_
  refine lv_istore_n (lv' := [(2, .int p0), (0, .int p0), (1, .int p1)]) hx hb dX9_digit_1 rfl hl (by decide) rfl (fun ls hl => ?_)
  refine lv_iconst (v := 0) hx hb dX9_digit_2 (by decide) ?_
  refine lv_istore_n (lv' := [(3, .int 0), (2, .int p0), (0, .int p0), (1, .int p1)]) hx hb dX9_digit_3 rfl hl (by decide) rfl (fun ls hl => ?_)
  have hL4 : ∀ (n4 : Nat) (y1 y2 : Int32) (H : Heap) (locs : List Loc) (ls : Array Slot), lp (fX9_digit_L4 p1) (fun _ _ => none) n4 y1 y2 = some r0 → bB D E [] a v s H locs → lv_has ls 4 [(1, .int p1), (2, .int y1), (3, .int y2)] → W p l e (rmOf 0 0 0) s m args below meth c H locs 0 0 (bQ below D E [] a v (some (.int r0)) args s 0 0) (F0 m 4 ls []) := by
    intro n4
    induction n4 with
    | zero => intro y1 y2 H locs ls hf; cases (show (none : Option Int32) = some r0 from hf)
    | succ n4 ih4 =>
      intro y1 y2 H locs ls hf hB hl
      have hf := (fX9_digit_L4.eq_1 p1 (lp (fX9_digit_L4 p1) (fun _ _ => none) n4) y1 y2).symm.trans (show fX9_digit_L4 p1 (lp (fX9_digit_L4 p1) (fun _ _ => none) n4) y1 y2 = some r0 from hf)
      refine lv_iload_n hx hb dX9_digit_4 rfl (lv_at hl 2 rfl) ?_
      refine lv_iload_n hx hb dX9_digit_5 rfl (lv_at hl 0 rfl) ?_
      refine lv_icmp_ge (tgt := 20) hx hb dX9_digit_6 (by decide) (fun c3 => ?_) (fun c3 => ?_)
      · have hf := (if_pos c3).symm.trans hf
        refine lv_iload_n hx hb dX9_digit_20 rfl (lv_at hl 1 rfl) ?_
        refine lv_bipush (v := 10) hx hb dX9_digit_21 (by decide) ?_
        refine lv_irem hx hb dX9_digit_23 (by decide) ?_
        exact bk_iR X hr rfl hf hB (Nat.le_of_ble_eq_true rfl) (Nat.le_of_ble_eq_true rfl) dX9_digit_24
      · have hf := (if_neg c3).symm.trans hf
        refine lv_iload_n hx hb dX9_digit_9 rfl (lv_at hl 1 rfl) ?_
        refine lv_bipush (v := 10) hx hb dX9_digit_10 (by decide) ?_
        refine lv_idiv hx hb dX9_digit_12 (by decide) ?_
        refine lv_topi (fun x4 ex4 => ?_)
        have hf := nm_use hf ex4
        refine lv_istore_n (lv' := [(2, .int x4), (1, .int p1), (3, .int y2)]) hx hb dX9_digit_13 rfl hl (by decide) rfl (fun ls hl => ?_)
        obtain ⟨x5, ex5⟩ : ∃ y : Int32, y = y2 + 1 := ⟨_, rfl⟩
        have hf := nm_use hf ex5
        refine lv_iinc (v := x5) (lv' := [(3, .int x5), (2, .int x4), (1, .int p1)]) hx hb dX9_digit_14 hl (k := 2) rfl (by rw [ex5]; rfl) (by decide) rfl (fun ls hl => ?_)
        refine lv_goto (tgt := 4) hx hb dX9_digit_17 (by decide) ?_
        exact ih4 x4 x5 H locs ls hf hB (lv_sub hl [2, 1, 0] rfl)
  exact hL4 lpN p0 0 H locs ls hf hB (lv_sub hl [3, 1, 0] rfl)
theorem ys_X9_digit : bYs yX9_digit RX9 cX9_digit 4 (some .int) 2 := ⟨⟨rfl, by decide, by decide, rfl⟩, wm_1731, wm_17, wm_1732⟩

theorem dX9_amount_0 : decode cX9_amount 0 = .ok (.aload_n 0, 1) := by decide +kernel
theorem dX9_amount_1 : decode cX9_amount 1 = .ok (.iload_n 1, 1) := by decide +kernel
theorem dX9_amount_2 : decode cX9_amount 2 = .ok (.iconst 2, 1) := by decide +kernel
theorem dX9_amount_3 : decode cX9_amount 3 = .ok (.invokevirtual 71, 3) := by decide +kernel
theorem dX9_amount_6 : decode cX9_amount 6 = .ok (.iload_n 2, 1) := by decide +kernel
theorem dX9_amount_7 : decode cX9_amount 7 = .ok (.invokestatic 74, 3) := by decide +kernel
theorem dX9_amount_10 : decode cX9_amount 10 = .ok (.ireturn, 1) := by decide +kernel
def fX9_amount (p1 : Int32) (p2 : Int32) (v : bM) : Option Int32 :=
  bnr (fX9_bread p1 2 v) fun r2 => bnr (fX9_digit r2 p2) fun r4 => some (r4)
set_option maxRecDepth 100000 in
set_option maxHeartbeats 4000000 in
theorem mX9_amount {l : Launch} {p1 : Int32} {p2 : Int32} {v : bM} {r0 : Int32} (hf : fX9_amount p1 p2 v = some r0) : bMet l yX9_amount cX9_amount 3 (some .int) 1 0 0 LMo (fun E a => [.ref a, .int p1, .int p2]) v v (fun _ => some (.int r0)) := by
  refine bk_start (by decide +kernel) wfMo (fun _ _ => Nat.le_of_ble_eq_true rfl) ?_
  intro p e s m args below meth c D E a ls H locs X hr hl hB
  have hx := X.1
  have hb := X.2.1
  have hown := X.2.2.2.1
  have hts := X.2.2.2.2.1
  have hl : lv_has ls 3 [(0, .ref a), (1, .int p1), (2, .int p2)] := hl
  have hf := (fX9_amount.eq_1 p1 p2 v).symm.trans hf
  refine lv_aload_n hx hb dX9_amount_0 rfl (lv_at hl 0 rfl) ?_
  refine lv_iload_n hx hb dX9_amount_1 rfl (lv_at hl 1 rfl) ?_
  refine lv_iconst (v := 2) hx hb dX9_amount_2 (by decide) ?_
  obtain ⟨r2, hc1, hf⟩ := bnr_some hf
  refine bk_all hB (fun h1 h2 h3 => bk_runV X (Av := [.int p1, .int 2]) (rest := []) (mX9_bread hc1) yv_X9_bread wm_1774 ⟨Nat.le_of_ble_eq_true rfl, Nat.le_of_ble_eq_true rfl⟩ rfl rfl hl.1 kl_X9.1 (hB.1.obj lc_Mo_0) h1 h2 h3 (Nat.le_of_ble_eq_true rfl) ⟨Nat.le_of_ble_eq_true rfl, Nat.le_of_ble_eq_true rfl⟩ dX9_amount_3) (fun H locs hB => ?_)
  refine W.eq (g2 := F0 m 6 ls [.int r2]) rfl ?_
  refine lv_iload_n hx hb dX9_amount_6 rfl (lv_at hl 2 rfl) ?_
  obtain ⟨r4, hc3, hf⟩ := bnr_some hf
  refine bk_non (v0 := v) (w0 := v) hB (fun h1 h2 h3 => bk_runS X (Av := [.int r2, .int p2]) (rest := []) (mX9_digit hc3) ys_X9_digit wm_1730 ⟨Nat.le_of_ble_eq_true rfl, Nat.le_of_ble_eq_true rfl⟩ rfl rfl hl.1 h1 h2 h3 (Nat.le_of_ble_eq_true rfl) ⟨Nat.le_of_ble_eq_true rfl, Nat.le_of_ble_eq_true rfl⟩ dX9_amount_7) (fun H locs hB => ?_)
  refine W.eq (g2 := F0 m 10 ls [.int r4]) rfl ?_
  exact bk_iR X hr rfl hf hB (Nat.le_of_ble_eq_true rfl) (Nat.le_of_ble_eq_true rfl) dX9_amount_10
theorem yv_X9_amount : bYv yX9_amount RX9 cX9_amount 3 (some .int) 2 := ⟨⟨rfl, by decide, by decide, rfl⟩, wm_1772, wp_51, wm_17, wm_1773⟩

theorem dX9_mainFlour_0 : decode cX9_mainFlour 0 = .ok (.iconst 0, 1) := by decide +kernel
theorem dX9_mainFlour_1 : decode cX9_mainFlour 1 = .ok (.istore_n 2, 1) := by decide +kernel
theorem dX9_mainFlour_2 : decode cX9_mainFlour 2 = .ok (.aload_n 0, 1) := by decide +kernel
theorem dX9_mainFlour_3 : decode cX9_mainFlour 3 = .ok (.iload_n 1, 1) := by decide +kernel
theorem dX9_mainFlour_4 : decode cX9_mainFlour 4 = .ok (.iload_n 2, 1) := by decide +kernel
theorem dX9_mainFlour_5 : decode cX9_mainFlour 5 = .ok (.invokevirtual 77, 3) := by decide +kernel
theorem dX9_mainFlour_8 : decode cX9_mainFlour 8 = .ok (.ifCond .ne 9, 3) := by decide +kernel
theorem dX9_mainFlour_11 : decode cX9_mainFlour 11 = .ok (.iinc 2 1, 3) := by decide +kernel
theorem dX9_mainFlour_14 : decode cX9_mainFlour 14 = .ok (.goto (-12), 3) := by decide +kernel
theorem dX9_mainFlour_17 : decode cX9_mainFlour 17 = .ok (.iload_n 2, 1) := by decide +kernel
theorem dX9_mainFlour_18 : decode cX9_mainFlour 18 = .ok (.ireturn, 1) := by decide +kernel
def fX9_mainFlour_L2 (p1 : Int32) (v : bM) (k2 : Int32 → Option Int32) (y1 : Int32) : Option Int32 :=
  bnr (fX9_amount p1 y1 v) fun r3 => (if r3 = 0 then (nm (y1 + 1) fun x5 => k2 x5) else (some (y1)))
def fX9_mainFlour (p1 : Int32) (v : bM) : Option Int32 :=
  lp (fX9_mainFlour_L2 p1 v) (fun _ => none) lpN 0
set_option maxRecDepth 100000 in
set_option maxHeartbeats 4000000 in
theorem mX9_mainFlour {l : Launch} {p1 : Int32} {v : bM} {r0 : Int32} (hf : fX9_mainFlour p1 v = some r0) : bMet l yX9_mainFlour cX9_mainFlour 3 (some .int) 2 0 0 LMo (fun E a => [.ref a, .int p1]) v v (fun _ => some (.int r0)) := by
  refine bk_start (by decide +kernel) wfMo (fun _ _ => Nat.le_of_ble_eq_true rfl) ?_
  intro p e s m args below meth c D E a ls H locs X hr hl hB
  have hx := X.1
  have hb := X.2.1
  have hown := X.2.2.2.1
  have hts := X.2.2.2.2.1
  have hl : lv_has ls 3 [(0, .ref a), (1, .int p1)] := hl
  have hf := (fX9_mainFlour.eq_1 p1 v).symm.trans hf
  refine lv_iconst (v := 0) hx hb dX9_mainFlour_0 (by decide) ?_
  refine lv_istore_n (lv' := [(2, .int 0), (0, .ref a), (1, .int p1)]) hx hb dX9_mainFlour_1 rfl hl (by decide) rfl (fun ls hl => ?_)
  have hL2 : ∀ (n2 : Nat) (y1 : Int32) (H : Heap) (locs : List Loc) (ls : Array Slot), lp (fX9_mainFlour_L2 p1 v) (fun _ => none) n2 y1 = some r0 → bB D E LMo a v s H locs → lv_has ls 3 [(0, .ref a), (1, .int p1), (2, .int y1)] → W p l e (rmOf 2 0 0) s m args below meth c H locs 0 0 (bQ below D E LMo a v (some (.int r0)) args s 0 0) (F0 m 2 ls []) := by
    intro n2
    induction n2 with
    | zero => intro y1 H locs ls hf; cases (show (none : Option Int32) = some r0 from hf)
    | succ n2 ih2 =>
      intro y1 H locs ls hf hB hl
      have hf := (fX9_mainFlour_L2.eq_1 p1 v (lp (fX9_mainFlour_L2 p1 v) (fun _ => none) n2) y1).symm.trans (show fX9_mainFlour_L2 p1 v (lp (fX9_mainFlour_L2 p1 v) (fun _ => none) n2) y1 = some r0 from hf)
      refine lv_aload_n hx hb dX9_mainFlour_2 rfl (lv_at hl 0 rfl) ?_
      refine lv_iload_n hx hb dX9_mainFlour_3 rfl (lv_at hl 1 rfl) ?_
      refine lv_iload_n hx hb dX9_mainFlour_4 rfl (lv_at hl 2 rfl) ?_
      obtain ⟨r3, hc2, hf⟩ := bnr_some hf
      refine bk_all hB (fun h1 h2 h3 => bk_runV X (Av := [.int p1, .int y1]) (rest := []) (mX9_amount hc2) yv_X9_amount wm_1770 ⟨Nat.le_of_ble_eq_true rfl, Nat.le_of_ble_eq_true rfl⟩ rfl rfl hl.1 kl_X9.1 (hB.1.obj lc_Mo_0) h1 h2 h3 (Nat.le_of_ble_eq_true rfl) ⟨Nat.le_of_ble_eq_true rfl, Nat.le_of_ble_eq_true rfl⟩ dX9_mainFlour_5) (fun H locs hB => ?_)
      refine W.eq (g2 := F0 m 8 ls [.int r3]) rfl ?_
      refine lv_if_ne (tgt := 17) hx hb dX9_mainFlour_8 (by decide) (fun c4 => ?_) (fun c4 => ?_)
      · have hf := (if_neg c4).symm.trans hf
        refine lv_iload_n hx hb dX9_mainFlour_17 rfl (lv_at hl 2 rfl) ?_
        exact bk_iR X hr rfl hf hB (Nat.le_of_ble_eq_true rfl) (Nat.le_of_ble_eq_true rfl) dX9_mainFlour_18
      · have hf := (if_pos c4).symm.trans hf
        obtain ⟨x5, ex5⟩ : ∃ y : Int32, y = y1 + 1 := ⟨_, rfl⟩
        have hf := nm_use hf ex5
        refine lv_iinc (v := x5) (lv' := [(2, .int x5), (0, .ref a), (1, .int p1)]) hx hb dX9_mainFlour_11 hl (k := 2) rfl (by rw [ex5]; rfl) (by decide) rfl (fun ls hl => ?_)
        refine lv_goto (tgt := 2) hx hb dX9_mainFlour_14 (by decide) ?_
        exact ih2 x5 H locs ls hf hB (lv_sub hl [1, 2, 0] rfl)
  exact hL2 lpN 0 H locs ls hf hB (lv_sub hl [1, 2, 0] rfl)
theorem yv_X9_mainFlour : bYv yX9_mainFlour RX9 cX9_mainFlour 3 (some .int) 1 := ⟨⟨rfl, by decide, by decide, rfl⟩, wm_1768, wp_50, wm_17, wm_1769⟩

theorem dX9_standard_0 : decode cX9_standard 0 = .ok (.aload_n 0, 1) := by decide +kernel
theorem dX9_standard_1 : decode cX9_standard 1 = .ok (.iload_n 1, 1) := by decide +kernel
theorem dX9_standard_2 : decode cX9_standard 2 = .ok (.iconst 1, 1) := by decide +kernel
theorem dX9_standard_3 : decode cX9_standard 3 = .ok (.invokevirtual 71, 3) := by decide +kernel
theorem dX9_standard_6 : decode cX9_standard 6 = .ok (.aload_n 0, 1) := by decide +kernel
theorem dX9_standard_7 : decode cX9_standard 7 = .ok (.getfield 17, 3) := by decide +kernel
theorem dX9_standard_10 : decode cX9_standard 10 = .ok (.iconst 2, 1) := by decide +kernel
theorem dX9_standard_11 : decode cX9_standard 11 = .ok (.iaload, 1) := by decide +kernel
theorem dX9_standard_12 : decode cX9_standard 12 = .ok (.imul, 1) := by decide +kernel
theorem dX9_standard_13 : decode cX9_standard 13 = .ok (.istore_n 2, 1) := by decide +kernel
theorem dX9_standard_14 : decode cX9_standard 14 = .ok (.iconst 0, 1) := by decide +kernel
theorem dX9_standard_15 : decode cX9_standard 15 = .ok (.istore_n 3, 1) := by decide +kernel
theorem dX9_standard_16 : decode cX9_standard 16 = .ok (.iload_n 3, 1) := by decide +kernel
theorem dX9_standard_17 : decode cX9_standard 17 = .ok (.aload_n 0, 1) := by decide +kernel
theorem dX9_standard_18 : decode cX9_standard 18 = .ok (.getfield 17, 3) := by decide +kernel
theorem dX9_standard_21 : decode cX9_standard 21 = .ok (.iconst 5, 1) := by decide +kernel
theorem dX9_standard_22 : decode cX9_standard 22 = .ok (.iaload, 1) := by decide +kernel
theorem dX9_standard_23 : decode cX9_standard 23 = .ok (.if_icmp .ge 25, 3) := by decide +kernel
theorem dX9_standard_26 : decode cX9_standard 26 = .ok (.iload_n 2, 1) := by decide +kernel
theorem dX9_standard_27 : decode cX9_standard 27 = .ok (.aload_n 0, 1) := by decide +kernel
theorem dX9_standard_28 : decode cX9_standard 28 = .ok (.iload_n 1, 1) := by decide +kernel
theorem dX9_standard_29 : decode cX9_standard 29 = .ok (.iload_n 3, 1) := by decide +kernel
theorem dX9_standard_30 : decode cX9_standard 30 = .ok (.invokevirtual 77, 3) := by decide +kernel
theorem dX9_standard_33 : decode cX9_standard 33 = .ok (.aload_n 0, 1) := by decide +kernel
theorem dX9_standard_34 : decode cX9_standard 34 = .ok (.iload_n 3, 1) := by decide +kernel
theorem dX9_standard_35 : decode cX9_standard 35 = .ok (.iconst 0, 1) := by decide +kernel
theorem dX9_standard_36 : decode cX9_standard 36 = .ok (.invokevirtual 63, 3) := by decide +kernel
theorem dX9_standard_39 : decode cX9_standard 39 = .ok (.imul, 1) := by decide +kernel
theorem dX9_standard_40 : decode cX9_standard 40 = .ok (.iadd, 1) := by decide +kernel
theorem dX9_standard_41 : decode cX9_standard 41 = .ok (.istore_n 2, 1) := by decide +kernel
theorem dX9_standard_42 : decode cX9_standard 42 = .ok (.iinc 3 1, 3) := by decide +kernel
theorem dX9_standard_45 : decode cX9_standard 45 = .ok (.goto (-29), 3) := by decide +kernel
theorem dX9_standard_48 : decode cX9_standard 48 = .ok (.iload_n 2, 1) := by decide +kernel
theorem dX9_standard_49 : decode cX9_standard 49 = .ok (.ireturn, 1) := by decide +kernel
def fX9_standard_L16 (p1 : Int32) (v : bM) (k16 : Int32 → Int32 → Option Int32) (y4 : Int32) (y5 : Int32) : Option Int32 :=
  (if (v (710 + (5 : Int32).toNatClampNeg)) ≤ y5 then (some (y4)) else (bnr (fX9_amount p1 y5 v) fun r8 => bnr (fX9_flour y5 0 v) fun r10 => nm (y4 + (r8 * r10)) fun x11 => nm (y5 + 1) fun x12 => k16 x11 x12))
def fX9_standard (p1 : Int32) (v : bM) : Option Int32 :=
  bnr (fX9_bread p1 1 v) fun r2 => nm (r2 * (v (710 + (2 : Int32).toNatClampNeg))) fun x3 => lp (fX9_standard_L16 p1 v) (fun _ _ => none) lpN x3 0
set_option maxRecDepth 100000 in
set_option maxHeartbeats 4000000 in
theorem mX9_standard {l : Launch} {p1 : Int32} {v : bM} {r0 : Int32} (hf : fX9_standard p1 v = some r0) : bMet l yX9_standard cX9_standard 4 (some .int) 2 0 0 LMo (fun E a => [.ref a, .int p1]) v v (fun _ => some (.int r0)) := by
  refine bk_start (by decide +kernel) wfMo (fun _ _ => Nat.le_of_ble_eq_true rfl) ?_
  intro p e s m args below meth c D E a ls H locs X hr hl hB
  have hx := X.1
  have hb := X.2.1
  have hown := X.2.2.2.1
  have hts := X.2.2.2.2.1
  have hl : lv_has ls 4 [(0, .ref a), (1, .int p1)] := hl
  have hf := (fX9_standard.eq_1 p1 v).symm.trans hf
  refine lv_aload_n hx hb dX9_standard_0 rfl (lv_at hl 0 rfl) ?_
  refine lv_iload_n hx hb dX9_standard_1 rfl (lv_at hl 1 rfl) ?_
  refine lv_iconst (v := 1) hx hb dX9_standard_2 (by decide) ?_
  obtain ⟨r2, hc1, hf⟩ := bnr_some hf
  refine bk_all hB (fun h1 h2 h3 => bk_runV X (Av := [.int p1, .int 1]) (rest := []) (mX9_bread hc1) yv_X9_bread wm_1774 ⟨Nat.le_of_ble_eq_true rfl, Nat.le_of_ble_eq_true rfl⟩ rfl rfl hl.1 kl_X9.1 (hB.1.obj lc_Mo_0) h1 h2 h3 (Nat.le_of_ble_eq_true rfl) ⟨Nat.le_of_ble_eq_true rfl, Nat.le_of_ble_eq_true rfl⟩ dX9_standard_3) (fun H locs hB => ?_)
  refine W.eq (g2 := F0 m 6 ls [.int r2]) rfl ?_
  refine lv_aload_n hx hb dX9_standard_6 rfl (lv_at hl 0 rfl) ?_
  refine bk_getR X hB kl_X9 0 lc_Mo_0 5 (by decide) rfl wm_1868 dX9_standard_7 ?_
  refine lv_iconst (v := 2) hx hb dX9_standard_10 (by decide) ?_
  refine bk_ald X hB 2 lc_Mo_2 (vp_c 2 496 rfl) dX9_standard_11 ?_
  refine lv_imul hx hb dX9_standard_12 ?_
  refine lv_topi (fun x3 ex3 => ?_)
  have hf := nm_use hf ex3
  refine lv_istore_n (lv' := [(2, .int x3), (0, .ref a), (1, .int p1)]) hx hb dX9_standard_13 rfl hl (by decide) rfl (fun ls hl => ?_)
  refine lv_iconst (v := 0) hx hb dX9_standard_14 (by decide) ?_
  refine lv_istore_n (lv' := [(3, .int 0), (2, .int x3), (0, .ref a), (1, .int p1)]) hx hb dX9_standard_15 rfl hl (by decide) rfl (fun ls hl => ?_)
  have hL16 : ∀ (n16 : Nat) (y4 y5 : Int32) (H : Heap) (locs : List Loc) (ls : Array Slot), lp (fX9_standard_L16 p1 v) (fun _ _ => none) n16 y4 y5 = some r0 → bB D E LMo a v s H locs → lv_has ls 4 [(0, .ref a), (1, .int p1), (2, .int y4), (3, .int y5)] → W p l e (rmOf 2 0 0) s m args below meth c H locs 0 0 (bQ below D E LMo a v (some (.int r0)) args s 0 0) (F0 m 16 ls []) := by
    intro n16
    induction n16 with
    | zero => intro y4 y5 H locs ls hf; cases (show (none : Option Int32) = some r0 from hf)
    | succ n16 ih16 =>
      intro y4 y5 H locs ls hf hB hl
      have hf := (fX9_standard_L16.eq_1 p1 v (lp (fX9_standard_L16 p1 v) (fun _ _ => none) n16) y4 y5).symm.trans (show fX9_standard_L16 p1 v (lp (fX9_standard_L16 p1 v) (fun _ _ => none) n16) y4 y5 = some r0 from hf)
      refine lv_iload_n hx hb dX9_standard_16 rfl (lv_at hl 3 rfl) ?_
      refine lv_aload_n hx hb dX9_standard_17 rfl (lv_at hl 0 rfl) ?_
      refine bk_getR X hB kl_X9 0 lc_Mo_0 5 (by decide) rfl wm_1868 dX9_standard_18 ?_
      refine lv_iconst (v := 5) hx hb dX9_standard_21 (by decide) ?_
      refine bk_ald X hB 2 lc_Mo_2 (vp_c 5 496 rfl) dX9_standard_22 ?_
      refine lv_icmp_ge (tgt := 48) hx hb dX9_standard_23 (by decide) (fun c6 => ?_) (fun c6 => ?_)
      · have hf := (if_pos c6).symm.trans hf
        refine lv_iload_n hx hb dX9_standard_48 rfl (lv_at hl 2 rfl) ?_
        exact bk_iR X hr rfl hf hB (Nat.le_of_ble_eq_true rfl) (Nat.le_of_ble_eq_true rfl) dX9_standard_49
      · have hf := (if_neg c6).symm.trans hf
        refine lv_iload_n hx hb dX9_standard_26 rfl (lv_at hl 2 rfl) ?_
        refine lv_aload_n hx hb dX9_standard_27 rfl (lv_at hl 0 rfl) ?_
        refine lv_iload_n hx hb dX9_standard_28 rfl (lv_at hl 1 rfl) ?_
        refine lv_iload_n hx hb dX9_standard_29 rfl (lv_at hl 3 rfl) ?_
        obtain ⟨r8, hc7, hf⟩ := bnr_some hf
        refine bk_all hB (fun h1 h2 h3 => bk_runV X (Av := [.int p1, .int y5]) (rest := [.int y4]) (mX9_amount hc7) yv_X9_amount wm_1770 ⟨Nat.le_of_ble_eq_true rfl, Nat.le_of_ble_eq_true rfl⟩ rfl rfl hl.1 kl_X9.1 (hB.1.obj lc_Mo_0) h1 h2 h3 (Nat.le_of_ble_eq_true rfl) ⟨Nat.le_of_ble_eq_true rfl, Nat.le_of_ble_eq_true rfl⟩ dX9_standard_30) (fun H locs hB => ?_)
        refine W.eq (g2 := F0 m 33 ls [.int r8, .int y4]) rfl ?_
        refine lv_aload_n hx hb dX9_standard_33 rfl (lv_at hl 0 rfl) ?_
        refine lv_iload_n hx hb dX9_standard_34 rfl (lv_at hl 3 rfl) ?_
        refine lv_iconst (v := 0) hx hb dX9_standard_35 (by decide) ?_
        obtain ⟨r10, hc9, hf⟩ := bnr_some hf
        refine bk_all hB (fun h1 h2 h3 => bk_runV X (Av := [.int y5, .int 0]) (rest := [.int r8, .int y4]) (mX9_flour hc9) yv_X9_flour wm_1758 ⟨Nat.le_of_ble_eq_true rfl, Nat.le_of_ble_eq_true rfl⟩ rfl rfl hl.1 kl_X9.1 (hB.1.obj lc_Mo_0) h1 h2 h3 (Nat.le_of_ble_eq_true rfl) ⟨Nat.le_of_ble_eq_true rfl, Nat.le_of_ble_eq_true rfl⟩ dX9_standard_36) (fun H locs hB => ?_)
        refine W.eq (g2 := F0 m 39 ls [.int r10, .int r8, .int y4]) rfl ?_
        refine lv_imul hx hb dX9_standard_39 ?_
        refine lv_iadd hx hb dX9_standard_40 ?_
        refine lv_topi (fun x11 ex11 => ?_)
        have hf := nm_use hf ex11
        refine lv_istore_n (lv' := [(2, .int x11), (0, .ref a), (1, .int p1), (3, .int y5)]) hx hb dX9_standard_41 rfl hl (by decide) rfl (fun ls hl => ?_)
        obtain ⟨x12, ex12⟩ : ∃ y : Int32, y = y5 + 1 := ⟨_, rfl⟩
        have hf := nm_use hf ex12
        refine lv_iinc (v := x12) (lv' := [(3, .int x12), (2, .int x11), (0, .ref a), (1, .int p1)]) hx hb dX9_standard_42 hl (k := 3) rfl (by rw [ex12]; rfl) (by decide) rfl (fun ls hl => ?_)
        refine lv_goto (tgt := 16) hx hb dX9_standard_45 (by decide) ?_
        exact ih16 x11 x12 H locs ls hf hB (lv_sub hl [2, 3, 1, 0] rfl)
  exact hL16 lpN x3 0 H locs ls hf hB (lv_sub hl [2, 3, 1, 0] rfl)
theorem yv_X9_standard : bYv yX9_standard RX9 cX9_standard 4 (some .int) 1 := ⟨⟨rfl, by decide, by decide, rfl⟩, wm_1849, wp_70, wm_17, wm_1850⟩

theorem dX9_used_0 : decode cX9_used 0 = .ok (.aload_n 0, 1) := by decide +kernel
theorem dX9_used_1 : decode cX9_used 1 = .ok (.iload_n 1, 1) := by decide +kernel
theorem dX9_used_2 : decode cX9_used 2 = .ok (.iload 4, 2) := by decide +kernel
theorem dX9_used_4 : decode cX9_used 4 = .ok (.invokevirtual 77, 3) := by decide +kernel
theorem dX9_used_7 : decode cX9_used 7 = .ok (.iload_n 2, 1) := by decide +kernel
theorem dX9_used_8 : decode cX9_used 8 = .ok (.imul, 1) := by decide +kernel
theorem dX9_used_9 : decode cX9_used 9 = .ok (.iload 4, 2) := by decide +kernel
theorem dX9_used_11 : decode cX9_used 11 = .ok (.aload_n 0, 1) := by decide +kernel
theorem dX9_used_12 : decode cX9_used 12 = .ok (.iload_n 1, 1) := by decide +kernel
theorem dX9_used_13 : decode cX9_used 13 = .ok (.invokevirtual 80, 3) := by decide +kernel
theorem dX9_used_16 : decode cX9_used 16 = .ok (.if_icmp .ne 7, 3) := by decide +kernel
theorem dX9_used_19 : decode cX9_used 19 = .ok (.iload_n 3, 1) := by decide +kernel
theorem dX9_used_20 : decode cX9_used 20 = .ok (.goto 4, 3) := by decide +kernel
theorem dX9_used_23 : decode cX9_used 23 = .ok (.iconst 0, 1) := by decide +kernel
theorem dX9_used_24 : decode cX9_used 24 = .ok (.iadd, 1) := by decide +kernel
theorem dX9_used_25 : decode cX9_used 25 = .ok (.ireturn, 1) := by decide +kernel
def fX9_used (p1 : Int32) (p2 : Int32) (p3 : Int32) (p4 : Int32) (v : bM) : Option Int32 :=
  bnr (fX9_amount p1 p4 v) fun r2 => bnr (fX9_mainFlour p1 v) fun r4 => (if p4 = r4 then (some ((r2 * p2) + p3)) else (some ((r2 * p2) + 0)))
set_option maxRecDepth 100000 in
set_option maxHeartbeats 4000000 in
theorem mX9_used {l : Launch} {p1 : Int32} {p2 : Int32} {p3 : Int32} {p4 : Int32} {v : bM} {r0 : Int32} (hf : fX9_used p1 p2 p3 p4 v = some r0) : bMet l yX9_used cX9_used 5 (some .int) 3 0 0 LMo (fun E a => [.ref a, .int p1, .int p2, .int p3, .int p4]) v v (fun _ => some (.int r0)) := by
  refine bk_start (by decide +kernel) wfMo (fun _ _ => Nat.le_of_ble_eq_true rfl) ?_
  intro p e s m args below meth c D E a ls H locs X hr hl hB
  have hx := X.1
  have hb := X.2.1
  have hown := X.2.2.2.1
  have hts := X.2.2.2.2.1
  have hl : lv_has ls 5 [(0, .ref a), (1, .int p1), (2, .int p2), (3, .int p3), (4, .int p4)] := hl
  have hf := (fX9_used.eq_1 p1 p2 p3 p4 v).symm.trans hf
  refine lv_aload_n hx hb dX9_used_0 rfl (lv_at hl 0 rfl) ?_
  refine lv_iload_n hx hb dX9_used_1 rfl (lv_at hl 1 rfl) ?_
  refine lv_iload hx hb dX9_used_2 (lv_at hl 4 rfl) ?_
  obtain ⟨r2, hc1, hf⟩ := bnr_some hf
  refine bk_all hB (fun h1 h2 h3 => bk_runV X (Av := [.int p1, .int p4]) (rest := []) (mX9_amount hc1) yv_X9_amount wm_1770 ⟨Nat.le_of_ble_eq_true rfl, Nat.le_of_ble_eq_true rfl⟩ rfl rfl hl.1 kl_X9.1 (hB.1.obj lc_Mo_0) h1 h2 h3 (Nat.le_of_ble_eq_true rfl) ⟨Nat.le_of_ble_eq_true rfl, Nat.le_of_ble_eq_true rfl⟩ dX9_used_4) (fun H locs hB => ?_)
  refine W.eq (g2 := F0 m 7 ls [.int r2]) rfl ?_
  refine lv_iload_n hx hb dX9_used_7 rfl (lv_at hl 2 rfl) ?_
  refine lv_imul hx hb dX9_used_8 ?_
  refine lv_iload hx hb dX9_used_9 (lv_at hl 4 rfl) ?_
  refine lv_aload_n hx hb dX9_used_11 rfl (lv_at hl 0 rfl) ?_
  refine lv_iload_n hx hb dX9_used_12 rfl (lv_at hl 1 rfl) ?_
  obtain ⟨r4, hc3, hf⟩ := bnr_some hf
  refine bk_all hB (fun h1 h2 h3 => bk_runV X (Av := [.int p1]) (rest := [.int p4, .int (r2 * p2)]) (mX9_mainFlour hc3) yv_X9_mainFlour wm_1766 ⟨Nat.le_of_ble_eq_true rfl, Nat.le_of_ble_eq_true rfl⟩ rfl rfl hl.1 kl_X9.1 (hB.1.obj lc_Mo_0) h1 h2 h3 (Nat.le_of_ble_eq_true rfl) ⟨Nat.le_of_ble_eq_true rfl, Nat.le_of_ble_eq_true rfl⟩ dX9_used_13) (fun H locs hB => ?_)
  refine W.eq (g2 := F0 m 16 ls [.int r4, .int p4, .int (r2 * p2)]) rfl ?_
  refine lv_icmp_ne (tgt := 23) hx hb dX9_used_16 (by decide) (fun c5 => ?_) (fun c5 => ?_)
  · have hf := (if_neg c5).symm.trans hf
    refine lv_iconst (v := 0) hx hb dX9_used_23 (by decide) ?_
    refine lv_iadd hx hb dX9_used_24 ?_
    exact bk_iR X hr rfl hf hB (Nat.le_of_ble_eq_true rfl) (Nat.le_of_ble_eq_true rfl) dX9_used_25
  · have hf := (if_pos c5).symm.trans hf
    refine lv_iload_n hx hb dX9_used_19 rfl (lv_at hl 3 rfl) ?_
    refine lv_goto (tgt := 24) hx hb dX9_used_20 (by decide) ?_
    refine lv_iadd hx hb dX9_used_24 ?_
    exact bk_iR X hr rfl hf hB (Nat.le_of_ble_eq_true rfl) (Nat.le_of_ble_eq_true rfl) dX9_used_25
theorem yv_X9_used : bYv yX9_used RX9 cX9_used 5 (some .int) 4 := ⟨⟨rfl, by decide, by decide, rfl⟩, wm_1780, wp_53, wm_17, wm_1781⟩

theorem dX9_obstacle_0 : decode cX9_obstacle 0 = .ok (.aload_n 0, 1) := by decide +kernel
theorem dX9_obstacle_1 : decode cX9_obstacle 1 = .ok (.getfield 17, 3) := by decide +kernel
theorem dX9_obstacle_4 : decode cX9_obstacle 4 = .ok (.bipush 7, 2) := by decide +kernel
theorem dX9_obstacle_6 : decode cX9_obstacle 6 = .ok (.iaload, 1) := by decide +kernel
theorem dX9_obstacle_7 : decode cX9_obstacle 7 = .ok (.bipush 24, 2) := by decide +kernel
theorem dX9_obstacle_9 : decode cX9_obstacle 9 = .ok (.if_icmp .ne 5, 3) := by decide +kernel
theorem dX9_obstacle_12 : decode cX9_obstacle 12 = .ok (.iconst 1, 1) := by decide +kernel
theorem dX9_obstacle_13 : decode cX9_obstacle 13 = .ok (.ireturn, 1) := by decide +kernel
theorem dX9_obstacle_14 : decode cX9_obstacle 14 = .ok (.aload_n 0, 1) := by decide +kernel
theorem dX9_obstacle_15 : decode cX9_obstacle 15 = .ok (.iload_n 1, 1) := by decide +kernel
theorem dX9_obstacle_16 : decode cX9_obstacle 16 = .ok (.iload_n 2, 1) := by decide +kernel
theorem dX9_obstacle_17 : decode cX9_obstacle 17 = .ok (.iload_n 3, 1) := by decide +kernel
theorem dX9_obstacle_18 : decode cX9_obstacle 18 = .ok (.aload_n 0, 1) := by decide +kernel
theorem dX9_obstacle_19 : decode cX9_obstacle 19 = .ok (.iload_n 1, 1) := by decide +kernel
theorem dX9_obstacle_20 : decode cX9_obstacle 20 = .ok (.invokevirtual 80, 3) := by decide +kernel
theorem dX9_obstacle_23 : decode cX9_obstacle 23 = .ok (.invokevirtual 84, 3) := by decide +kernel
theorem dX9_obstacle_26 : decode cX9_obstacle 26 = .ok (.ifCond .lt 18, 3) := by decide +kernel
theorem dX9_obstacle_29 : decode cX9_obstacle 29 = .ok (.aload_n 0, 1) := by decide +kernel
theorem dX9_obstacle_30 : decode cX9_obstacle 30 = .ok (.iload_n 1, 1) := by decide +kernel
theorem dX9_obstacle_31 : decode cX9_obstacle 31 = .ok (.iconst 1, 1) := by decide +kernel
theorem dX9_obstacle_32 : decode cX9_obstacle 32 = .ok (.invokevirtual 71, 3) := by decide +kernel
theorem dX9_obstacle_35 : decode cX9_obstacle 35 = .ok (.iload_n 2, 1) := by decide +kernel
theorem dX9_obstacle_36 : decode cX9_obstacle 36 = .ok (.imul, 1) := by decide +kernel
theorem dX9_obstacle_37 : decode cX9_obstacle 37 = .ok (.iload 4, 2) := by decide +kernel
theorem dX9_obstacle_39 : decode cX9_obstacle 39 = .ok (.iadd, 1) := by decide +kernel
theorem dX9_obstacle_40 : decode cX9_obstacle 40 = .ok (.iconst 1, 1) := by decide +kernel
theorem dX9_obstacle_41 : decode cX9_obstacle 41 = .ok (.if_icmp .ge 5, 3) := by decide +kernel
theorem dX9_obstacle_44 : decode cX9_obstacle 44 = .ok (.iconst 2, 1) := by decide +kernel
theorem dX9_obstacle_45 : decode cX9_obstacle 45 = .ok (.ireturn, 1) := by decide +kernel
theorem dX9_obstacle_46 : decode cX9_obstacle 46 = .ok (.iconst 0, 1) := by decide +kernel
theorem dX9_obstacle_47 : decode cX9_obstacle 47 = .ok (.istore 5, 2) := by decide +kernel
theorem dX9_obstacle_49 : decode cX9_obstacle 49 = .ok (.iload 5, 2) := by decide +kernel
theorem dX9_obstacle_51 : decode cX9_obstacle 51 = .ok (.aload_n 0, 1) := by decide +kernel
theorem dX9_obstacle_52 : decode cX9_obstacle 52 = .ok (.getfield 17, 3) := by decide +kernel
theorem dX9_obstacle_55 : decode cX9_obstacle 55 = .ok (.iconst 5, 1) := by decide +kernel
theorem dX9_obstacle_56 : decode cX9_obstacle 56 = .ok (.iaload, 1) := by decide +kernel
theorem dX9_obstacle_57 : decode cX9_obstacle 57 = .ok (.if_icmp .ge 29, 3) := by decide +kernel
theorem dX9_obstacle_60 : decode cX9_obstacle 60 = .ok (.aload_n 0, 1) := by decide +kernel
theorem dX9_obstacle_61 : decode cX9_obstacle 61 = .ok (.iload_n 1, 1) := by decide +kernel
theorem dX9_obstacle_62 : decode cX9_obstacle 62 = .ok (.iload_n 2, 1) := by decide +kernel
theorem dX9_obstacle_63 : decode cX9_obstacle 63 = .ok (.iload_n 3, 1) := by decide +kernel
theorem dX9_obstacle_64 : decode cX9_obstacle 64 = .ok (.iload 5, 2) := by decide +kernel
theorem dX9_obstacle_66 : decode cX9_obstacle 66 = .ok (.invokevirtual 84, 3) := by decide +kernel
theorem dX9_obstacle_69 : decode cX9_obstacle 69 = .ok (.aload_n 0, 1) := by decide +kernel
theorem dX9_obstacle_70 : decode cX9_obstacle 70 = .ok (.iload 5, 2) := by decide +kernel
theorem dX9_obstacle_72 : decode cX9_obstacle 72 = .ok (.invokevirtual 88, 3) := by decide +kernel
theorem dX9_obstacle_75 : decode cX9_obstacle 75 = .ok (.if_icmp .le 5, 3) := by decide +kernel
theorem dX9_obstacle_78 : decode cX9_obstacle 78 = .ok (.iconst 3, 1) := by decide +kernel
theorem dX9_obstacle_79 : decode cX9_obstacle 79 = .ok (.ireturn, 1) := by decide +kernel
theorem dX9_obstacle_80 : decode cX9_obstacle 80 = .ok (.iinc 5 1, 3) := by decide +kernel
theorem dX9_obstacle_83 : decode cX9_obstacle 83 = .ok (.goto (-34), 3) := by decide +kernel
theorem dX9_obstacle_86 : decode cX9_obstacle 86 = .ok (.iconst 0, 1) := by decide +kernel
theorem dX9_obstacle_87 : decode cX9_obstacle 87 = .ok (.ireturn, 1) := by decide +kernel
def fX9_obstacle_L49 (p1 : Int32) (p2 : Int32) (p3 : Int32) (v : bM) (k49 : Int32 → Option Int32) (y10 : Int32) : Option Int32 :=
  (if (v (710 + (5 : Int32).toNatClampNeg)) ≤ y10 then (some (0)) else (bnr (fX9_used p1 p2 p3 y10 v) fun r13 => bnr (fX9_units y10 v) fun r15 => (if r13 ≤ r15 then (nm (y10 + 1) fun x17 => k49 x17) else (some (3)))))
def fX9_obstacle (p1 : Int32) (p2 : Int32) (p3 : Int32) (p4 : Int32) (v : bM) : Option Int32 :=
  (if (v (710 + (7 : Int32).toNatClampNeg)) = 24 then (some (1)) else (bnr (fX9_mainFlour p1 v) fun r3 => bnr (fX9_used p1 p2 p3 r3 v) fun r5 => (if r5 < 0 then (some (2)) else (bnr (fX9_bread p1 1 v) fun r8 => (if 1 ≤ ((r8 * p2) + p4) then (lp (fX9_obstacle_L49 p1 p2 p3 v) (fun _ => none) lpN 0) else (some (2)))))))
set_option maxRecDepth 100000 in
set_option maxHeartbeats 4000000 in
theorem mX9_obstacle {l : Launch} {p1 : Int32} {p2 : Int32} {p3 : Int32} {p4 : Int32} {v : bM} {r0 : Int32} (hf : fX9_obstacle p1 p2 p3 p4 v = some r0) : bMet l yX9_obstacle cX9_obstacle 6 (some .int) 4 0 0 LMo (fun E a => [.ref a, .int p1, .int p2, .int p3, .int p4]) v v (fun _ => some (.int r0)) := by
  refine bk_start (by decide +kernel) wfMo (fun _ _ => Nat.le_of_ble_eq_true rfl) ?_
  intro p e s m args below meth c D E a ls H locs X hr hl hB
  have hx := X.1
  have hb := X.2.1
  have hown := X.2.2.2.1
  have hts := X.2.2.2.2.1
  have hl : lv_has ls 6 [(0, .ref a), (1, .int p1), (2, .int p2), (3, .int p3), (4, .int p4)] := hl
  have hf := (fX9_obstacle.eq_1 p1 p2 p3 p4 v).symm.trans hf
  refine lv_aload_n hx hb dX9_obstacle_0 rfl (lv_at hl 0 rfl) ?_
  refine bk_getR X hB kl_X9 0 lc_Mo_0 5 (by decide) rfl wm_1868 dX9_obstacle_1 ?_
  refine lv_bipush (v := 7) hx hb dX9_obstacle_4 (by decide) ?_
  refine bk_ald X hB 2 lc_Mo_2 (vp_c 7 496 rfl) dX9_obstacle_6 ?_
  refine lv_bipush (v := 24) hx hb dX9_obstacle_7 (by decide) ?_
  refine lv_icmp_ne (tgt := 14) hx hb dX9_obstacle_9 (by decide) (fun c1 => ?_) (fun c1 => ?_)
  · have hf := (if_neg c1).symm.trans hf
    refine lv_aload_n hx hb dX9_obstacle_14 rfl (lv_at hl 0 rfl) ?_
    refine lv_iload_n hx hb dX9_obstacle_15 rfl (lv_at hl 1 rfl) ?_
    refine lv_iload_n hx hb dX9_obstacle_16 rfl (lv_at hl 2 rfl) ?_
    refine lv_iload_n hx hb dX9_obstacle_17 rfl (lv_at hl 3 rfl) ?_
    refine lv_aload_n hx hb dX9_obstacle_18 rfl (lv_at hl 0 rfl) ?_
    refine lv_iload_n hx hb dX9_obstacle_19 rfl (lv_at hl 1 rfl) ?_
    obtain ⟨r3, hc2, hf⟩ := bnr_some hf
    refine bk_all hB (fun h1 h2 h3 => bk_runV X (Av := [.int p1]) (rest := [.int p3, .int p2, .int p1, .ref a]) (mX9_mainFlour hc2) yv_X9_mainFlour wm_1766 ⟨Nat.le_of_ble_eq_true rfl, Nat.le_of_ble_eq_true rfl⟩ rfl rfl hl.1 kl_X9.1 (hB.1.obj lc_Mo_0) h1 h2 h3 (Nat.le_of_ble_eq_true rfl) ⟨Nat.le_of_ble_eq_true rfl, Nat.le_of_ble_eq_true rfl⟩ dX9_obstacle_20) (fun H locs hB => ?_)
    refine W.eq (g2 := F0 m 23 ls [.int r3, .int p3, .int p2, .int p1, .ref a]) rfl ?_
    obtain ⟨r5, hc4, hf⟩ := bnr_some hf
    refine bk_all hB (fun h1 h2 h3 => bk_runV X (Av := [.int p1, .int p2, .int p3, .int r3]) (rest := []) (mX9_used hc4) yv_X9_used wm_1778 ⟨Nat.le_of_ble_eq_true rfl, Nat.le_of_ble_eq_true rfl⟩ rfl rfl hl.1 kl_X9.1 (hB.1.obj lc_Mo_0) h1 h2 h3 (Nat.le_of_ble_eq_true rfl) ⟨Nat.le_of_ble_eq_true rfl, Nat.le_of_ble_eq_true rfl⟩ dX9_obstacle_23) (fun H locs hB => ?_)
    refine W.eq (g2 := F0 m 26 ls [.int r5]) rfl ?_
    refine lv_if_lt (tgt := 44) hx hb dX9_obstacle_26 (by decide) (fun c6 => ?_) (fun c6 => ?_)
    · have hf := (if_pos c6).symm.trans hf
      refine lv_iconst (v := 2) hx hb dX9_obstacle_44 (by decide) ?_
      exact bk_iR X hr rfl hf hB (Nat.le_of_ble_eq_true rfl) (Nat.le_of_ble_eq_true rfl) dX9_obstacle_45
    · have hf := (if_neg c6).symm.trans hf
      refine lv_aload_n hx hb dX9_obstacle_29 rfl (lv_at hl 0 rfl) ?_
      refine lv_iload_n hx hb dX9_obstacle_30 rfl (lv_at hl 1 rfl) ?_
      refine lv_iconst (v := 1) hx hb dX9_obstacle_31 (by decide) ?_
      obtain ⟨r8, hc7, hf⟩ := bnr_some hf
      refine bk_all hB (fun h1 h2 h3 => bk_runV X (Av := [.int p1, .int 1]) (rest := []) (mX9_bread hc7) yv_X9_bread wm_1774 ⟨Nat.le_of_ble_eq_true rfl, Nat.le_of_ble_eq_true rfl⟩ rfl rfl hl.1 kl_X9.1 (hB.1.obj lc_Mo_0) h1 h2 h3 (Nat.le_of_ble_eq_true rfl) ⟨Nat.le_of_ble_eq_true rfl, Nat.le_of_ble_eq_true rfl⟩ dX9_obstacle_32) (fun H locs hB => ?_)
      refine W.eq (g2 := F0 m 35 ls [.int r8]) rfl ?_
      refine lv_iload_n hx hb dX9_obstacle_35 rfl (lv_at hl 2 rfl) ?_
      refine lv_imul hx hb dX9_obstacle_36 ?_
      refine lv_iload hx hb dX9_obstacle_37 (lv_at hl 4 rfl) ?_
      refine lv_iadd hx hb dX9_obstacle_39 ?_
      refine lv_iconst (v := 1) hx hb dX9_obstacle_40 (by decide) ?_
      refine lv_icmp_ge (tgt := 46) hx hb dX9_obstacle_41 (by decide) (fun c9 => ?_) (fun c9 => ?_)
      · have hf := (if_pos c9).symm.trans hf
        refine lv_iconst (v := 0) hx hb dX9_obstacle_46 (by decide) ?_
        refine lv_istore (lv' := [(5, .int 0), (0, .ref a), (1, .int p1), (2, .int p2), (3, .int p3), (4, .int p4)]) hx hb dX9_obstacle_47 hl (by decide) rfl (fun ls hl => ?_)
        have hL49 : ∀ (n49 : Nat) (y10 : Int32) (H : Heap) (locs : List Loc) (ls : Array Slot), lp (fX9_obstacle_L49 p1 p2 p3 v) (fun _ => none) n49 y10 = some r0 → bB D E LMo a v s H locs → lv_has ls 6 [(0, .ref a), (1, .int p1), (2, .int p2), (3, .int p3), (5, .int y10)] → W p l e (rmOf 4 0 0) s m args below meth c H locs 0 0 (bQ below D E LMo a v (some (.int r0)) args s 0 0) (F0 m 49 ls []) := by
          intro n49
          induction n49 with
          | zero => intro y10 H locs ls hf; cases (show (none : Option Int32) = some r0 from hf)
          | succ n49 ih49 =>
            intro y10 H locs ls hf hB hl
            have hf := (fX9_obstacle_L49.eq_1 p1 p2 p3 v (lp (fX9_obstacle_L49 p1 p2 p3 v) (fun _ => none) n49) y10).symm.trans (show fX9_obstacle_L49 p1 p2 p3 v (lp (fX9_obstacle_L49 p1 p2 p3 v) (fun _ => none) n49) y10 = some r0 from hf)
            refine lv_iload hx hb dX9_obstacle_49 (lv_at hl 4 rfl) ?_
            refine lv_aload_n hx hb dX9_obstacle_51 rfl (lv_at hl 0 rfl) ?_
            refine bk_getR X hB kl_X9 0 lc_Mo_0 5 (by decide) rfl wm_1868 dX9_obstacle_52 ?_
            refine lv_iconst (v := 5) hx hb dX9_obstacle_55 (by decide) ?_
            refine bk_ald X hB 2 lc_Mo_2 (vp_c 5 496 rfl) dX9_obstacle_56 ?_
            refine lv_icmp_ge (tgt := 86) hx hb dX9_obstacle_57 (by decide) (fun c11 => ?_) (fun c11 => ?_)
            · have hf := (if_pos c11).symm.trans hf
              refine lv_iconst (v := 0) hx hb dX9_obstacle_86 (by decide) ?_
              exact bk_iR X hr rfl hf hB (Nat.le_of_ble_eq_true rfl) (Nat.le_of_ble_eq_true rfl) dX9_obstacle_87
            · have hf := (if_neg c11).symm.trans hf
              refine lv_aload_n hx hb dX9_obstacle_60 rfl (lv_at hl 0 rfl) ?_
              refine lv_iload_n hx hb dX9_obstacle_61 rfl (lv_at hl 1 rfl) ?_
              refine lv_iload_n hx hb dX9_obstacle_62 rfl (lv_at hl 2 rfl) ?_
              refine lv_iload_n hx hb dX9_obstacle_63 rfl (lv_at hl 3 rfl) ?_
              refine lv_iload hx hb dX9_obstacle_64 (lv_at hl 4 rfl) ?_
              obtain ⟨r13, hc12, hf⟩ := bnr_some hf
              refine bk_all hB (fun h1 h2 h3 => bk_runV X (Av := [.int p1, .int p2, .int p3, .int y10]) (rest := []) (mX9_used hc12) yv_X9_used wm_1778 ⟨Nat.le_of_ble_eq_true rfl, Nat.le_of_ble_eq_true rfl⟩ rfl rfl hl.1 kl_X9.1 (hB.1.obj lc_Mo_0) h1 h2 h3 (Nat.le_of_ble_eq_true rfl) ⟨Nat.le_of_ble_eq_true rfl, Nat.le_of_ble_eq_true rfl⟩ dX9_obstacle_66) (fun H locs hB => ?_)
              refine W.eq (g2 := F0 m 69 ls [.int r13]) rfl ?_
              refine lv_aload_n hx hb dX9_obstacle_69 rfl (lv_at hl 0 rfl) ?_
              refine lv_iload hx hb dX9_obstacle_70 (lv_at hl 4 rfl) ?_
              obtain ⟨r15, hc14, hf⟩ := bnr_some hf
              refine bk_all hB (fun h1 h2 h3 => bk_runV X (Av := [.int y10]) (rest := [.int r13]) (mX9_units hc14) yv_X9_units wm_1782 ⟨Nat.le_of_ble_eq_true rfl, Nat.le_of_ble_eq_true rfl⟩ rfl rfl hl.1 kl_X9.1 (hB.1.obj lc_Mo_0) h1 h2 h3 (Nat.le_of_ble_eq_true rfl) ⟨Nat.le_of_ble_eq_true rfl, Nat.le_of_ble_eq_true rfl⟩ dX9_obstacle_72) (fun H locs hB => ?_)
              refine W.eq (g2 := F0 m 75 ls [.int r15, .int r13]) rfl ?_
              refine lv_icmp_le (tgt := 80) hx hb dX9_obstacle_75 (by decide) (fun c16 => ?_) (fun c16 => ?_)
              · have hf := (if_pos c16).symm.trans hf
                obtain ⟨x17, ex17⟩ : ∃ y : Int32, y = y10 + 1 := ⟨_, rfl⟩
                have hf := nm_use hf ex17
                refine lv_iinc (v := x17) (lv' := [(5, .int x17), (0, .ref a), (1, .int p1), (2, .int p2), (3, .int p3)]) hx hb dX9_obstacle_80 hl (k := 4) rfl (by rw [ex17]; rfl) (by decide) rfl (fun ls hl => ?_)
                refine lv_goto (tgt := 49) hx hb dX9_obstacle_83 (by decide) ?_
                exact ih49 x17 H locs ls hf hB (lv_sub hl [1, 2, 3, 4, 0] rfl)
              · have hf := (if_neg c16).symm.trans hf
                refine lv_iconst (v := 3) hx hb dX9_obstacle_78 (by decide) ?_
                exact bk_iR X hr rfl hf hB (Nat.le_of_ble_eq_true rfl) (Nat.le_of_ble_eq_true rfl) dX9_obstacle_79
        exact hL49 lpN 0 H locs ls hf hB (lv_sub hl [1, 2, 3, 4, 0] rfl)
      · have hf := (if_neg c9).symm.trans hf
        refine lv_iconst (v := 2) hx hb dX9_obstacle_44 (by decide) ?_
        exact bk_iR X hr rfl hf hB (Nat.le_of_ble_eq_true rfl) (Nat.le_of_ble_eq_true rfl) dX9_obstacle_45
  · have hf := (if_pos c1).symm.trans hf
    refine lv_iconst (v := 1) hx hb dX9_obstacle_12 (by decide) ?_
    exact bk_iR X hr rfl hf hB (Nat.le_of_ble_eq_true rfl) (Nat.le_of_ble_eq_true rfl) dX9_obstacle_13
theorem yv_X9_obstacle : bYv yX9_obstacle RX9 cX9_obstacle 6 (some .int) 4 := ⟨⟨rfl, by decide, by decide, rfl⟩, wm_1764, wp_49, wm_17, wm_1765⟩

theorem dX9_takeUnit_0 : decode cX9_takeUnit 0 = .ok (.aload_n 0, 1) := by decide +kernel
theorem dX9_takeUnit_1 : decode cX9_takeUnit 1 = .ok (.iload_n 1, 1) := by decide +kernel
theorem dX9_takeUnit_2 : decode cX9_takeUnit 2 = .ok (.iconst 0, 1) := by decide +kernel
theorem dX9_takeUnit_3 : decode cX9_takeUnit 3 = .ok (.iconst 1, 1) := by decide +kernel
theorem dX9_takeUnit_4 : decode cX9_takeUnit 4 = .ok (.invokevirtual 67, 3) := by decide +kernel
theorem dX9_takeUnit_7 : decode cX9_takeUnit 7 = .ok (.istore_n 2, 1) := by decide +kernel
theorem dX9_takeUnit_8 : decode cX9_takeUnit 8 = .ok (.bipush 40, 2) := by decide +kernel
theorem dX9_takeUnit_10 : decode cX9_takeUnit 10 = .ok (.bipush 28, 2) := by decide +kernel
theorem dX9_takeUnit_12 : decode cX9_takeUnit 12 = .ok (.iload_n 1, 1) := by decide +kernel
theorem dX9_takeUnit_13 : decode cX9_takeUnit 13 = .ok (.imul, 1) := by decide +kernel
theorem dX9_takeUnit_14 : decode cX9_takeUnit 14 = .ok (.iadd, 1) := by decide +kernel
theorem dX9_takeUnit_15 : decode cX9_takeUnit 15 = .ok (.iconst 4, 1) := by decide +kernel
theorem dX9_takeUnit_16 : decode cX9_takeUnit 16 = .ok (.iadd, 1) := by decide +kernel
theorem dX9_takeUnit_17 : decode cX9_takeUnit 17 = .ok (.istore_n 3, 1) := by decide +kernel
theorem dX9_takeUnit_18 : decode cX9_takeUnit 18 = .ok (.aload_n 0, 1) := by decide +kernel
theorem dX9_takeUnit_19 : decode cX9_takeUnit 19 = .ok (.getfield 17, 3) := by decide +kernel
theorem dX9_takeUnit_22 : decode cX9_takeUnit 22 = .ok (.iload_n 3, 1) := by decide +kernel
theorem dX9_takeUnit_23 : decode cX9_takeUnit 23 = .ok (.dup2, 1) := by decide +kernel
theorem dX9_takeUnit_24 : decode cX9_takeUnit 24 = .ok (.iaload, 1) := by decide +kernel
theorem dX9_takeUnit_25 : decode cX9_takeUnit 25 = .ok (.iconst 1, 1) := by decide +kernel
theorem dX9_takeUnit_26 : decode cX9_takeUnit 26 = .ok (.isub, 1) := by decide +kernel
theorem dX9_takeUnit_27 : decode cX9_takeUnit 27 = .ok (.iastore, 1) := by decide +kernel
theorem dX9_takeUnit_28 : decode cX9_takeUnit 28 = .ok (.aload_n 0, 1) := by decide +kernel
theorem dX9_takeUnit_29 : decode cX9_takeUnit 29 = .ok (.getfield 17, 3) := by decide +kernel
theorem dX9_takeUnit_32 : decode cX9_takeUnit 32 = .ok (.iload_n 3, 1) := by decide +kernel
theorem dX9_takeUnit_33 : decode cX9_takeUnit 33 = .ok (.iaload, 1) := by decide +kernel
theorem dX9_takeUnit_34 : decode cX9_takeUnit 34 = .ok (.ifCond .ne 86, 3) := by decide +kernel
theorem dX9_takeUnit_37 : decode cX9_takeUnit 37 = .ok (.aload_n 0, 1) := by decide +kernel
theorem dX9_takeUnit_38 : decode cX9_takeUnit 38 = .ok (.iload_n 1, 1) := by decide +kernel
theorem dX9_takeUnit_39 : decode cX9_takeUnit 39 = .ok (.iconst 1, 1) := by decide +kernel
theorem dX9_takeUnit_40 : decode cX9_takeUnit 40 = .ok (.invokevirtual 63, 3) := by decide +kernel
theorem dX9_takeUnit_43 : decode cX9_takeUnit 43 = .ok (.istore 4, 2) := by decide +kernel
theorem dX9_takeUnit_45 : decode cX9_takeUnit 45 = .ok (.iconst 0, 1) := by decide +kernel
theorem dX9_takeUnit_46 : decode cX9_takeUnit 46 = .ok (.istore 5, 2) := by decide +kernel
theorem dX9_takeUnit_48 : decode cX9_takeUnit 48 = .ok (.iload 5, 2) := by decide +kernel
theorem dX9_takeUnit_50 : decode cX9_takeUnit 50 = .ok (.iconst 2, 1) := by decide +kernel
theorem dX9_takeUnit_51 : decode cX9_takeUnit 51 = .ok (.iload 4, 2) := by decide +kernel
theorem dX9_takeUnit_53 : decode cX9_takeUnit 53 = .ok (.imul, 1) := by decide +kernel
theorem dX9_takeUnit_54 : decode cX9_takeUnit 54 = .ok (.iconst 2, 1) := by decide +kernel
theorem dX9_takeUnit_55 : decode cX9_takeUnit 55 = .ok (.isub, 1) := by decide +kernel
theorem dX9_takeUnit_56 : decode cX9_takeUnit 56 = .ok (.if_icmp .ge 29, 3) := by decide +kernel
theorem dX9_takeUnit_59 : decode cX9_takeUnit 59 = .ok (.aload_n 0, 1) := by decide +kernel
theorem dX9_takeUnit_60 : decode cX9_takeUnit 60 = .ok (.getfield 17, 3) := by decide +kernel
theorem dX9_takeUnit_63 : decode cX9_takeUnit 63 = .ok (.iload_n 3, 1) := by decide +kernel
theorem dX9_takeUnit_64 : decode cX9_takeUnit 64 = .ok (.iload 5, 2) := by decide +kernel
theorem dX9_takeUnit_66 : decode cX9_takeUnit 66 = .ok (.iadd, 1) := by decide +kernel
theorem dX9_takeUnit_67 : decode cX9_takeUnit 67 = .ok (.aload_n 0, 1) := by decide +kernel
theorem dX9_takeUnit_68 : decode cX9_takeUnit 68 = .ok (.getfield 17, 3) := by decide +kernel
theorem dX9_takeUnit_71 : decode cX9_takeUnit 71 = .ok (.iload_n 3, 1) := by decide +kernel
theorem dX9_takeUnit_72 : decode cX9_takeUnit 72 = .ok (.iload 5, 2) := by decide +kernel
theorem dX9_takeUnit_74 : decode cX9_takeUnit 74 = .ok (.iadd, 1) := by decide +kernel
theorem dX9_takeUnit_75 : decode cX9_takeUnit 75 = .ok (.iconst 2, 1) := by decide +kernel
theorem dX9_takeUnit_76 : decode cX9_takeUnit 76 = .ok (.iadd, 1) := by decide +kernel
theorem dX9_takeUnit_77 : decode cX9_takeUnit 77 = .ok (.iaload, 1) := by decide +kernel
theorem dX9_takeUnit_78 : decode cX9_takeUnit 78 = .ok (.iastore, 1) := by decide +kernel
theorem dX9_takeUnit_79 : decode cX9_takeUnit 79 = .ok (.iinc 5 1, 3) := by decide +kernel
theorem dX9_takeUnit_82 : decode cX9_takeUnit 82 = .ok (.goto (-34), 3) := by decide +kernel
theorem dX9_takeUnit_85 : decode cX9_takeUnit 85 = .ok (.aload_n 0, 1) := by decide +kernel
theorem dX9_takeUnit_86 : decode cX9_takeUnit 86 = .ok (.getfield 17, 3) := by decide +kernel
theorem dX9_takeUnit_89 : decode cX9_takeUnit 89 = .ok (.iload_n 3, 1) := by decide +kernel
theorem dX9_takeUnit_90 : decode cX9_takeUnit 90 = .ok (.iconst 2, 1) := by decide +kernel
theorem dX9_takeUnit_91 : decode cX9_takeUnit 91 = .ok (.iload 4, 2) := by decide +kernel
theorem dX9_takeUnit_93 : decode cX9_takeUnit 93 = .ok (.imul, 1) := by decide +kernel
theorem dX9_takeUnit_94 : decode cX9_takeUnit 94 = .ok (.iadd, 1) := by decide +kernel
theorem dX9_takeUnit_95 : decode cX9_takeUnit 95 = .ok (.iconst 2, 1) := by decide +kernel
theorem dX9_takeUnit_96 : decode cX9_takeUnit 96 = .ok (.isub, 1) := by decide +kernel
theorem dX9_takeUnit_97 : decode cX9_takeUnit 97 = .ok (.iconst 0, 1) := by decide +kernel
theorem dX9_takeUnit_98 : decode cX9_takeUnit 98 = .ok (.iastore, 1) := by decide +kernel
theorem dX9_takeUnit_99 : decode cX9_takeUnit 99 = .ok (.aload_n 0, 1) := by decide +kernel
theorem dX9_takeUnit_100 : decode cX9_takeUnit 100 = .ok (.getfield 17, 3) := by decide +kernel
theorem dX9_takeUnit_103 : decode cX9_takeUnit 103 = .ok (.iload_n 3, 1) := by decide +kernel
theorem dX9_takeUnit_104 : decode cX9_takeUnit 104 = .ok (.iconst 2, 1) := by decide +kernel
theorem dX9_takeUnit_105 : decode cX9_takeUnit 105 = .ok (.iload 4, 2) := by decide +kernel
theorem dX9_takeUnit_107 : decode cX9_takeUnit 107 = .ok (.imul, 1) := by decide +kernel
theorem dX9_takeUnit_108 : decode cX9_takeUnit 108 = .ok (.iadd, 1) := by decide +kernel
theorem dX9_takeUnit_109 : decode cX9_takeUnit 109 = .ok (.iconst 1, 1) := by decide +kernel
theorem dX9_takeUnit_110 : decode cX9_takeUnit 110 = .ok (.isub, 1) := by decide +kernel
theorem dX9_takeUnit_111 : decode cX9_takeUnit 111 = .ok (.iconst 0, 1) := by decide +kernel
theorem dX9_takeUnit_112 : decode cX9_takeUnit 112 = .ok (.iastore, 1) := by decide +kernel
theorem dX9_takeUnit_113 : decode cX9_takeUnit 113 = .ok (.aload_n 0, 1) := by decide +kernel
theorem dX9_takeUnit_114 : decode cX9_takeUnit 114 = .ok (.iload_n 1, 1) := by decide +kernel
theorem dX9_takeUnit_115 : decode cX9_takeUnit 115 = .ok (.iconst 1, 1) := by decide +kernel
theorem dX9_takeUnit_116 : decode cX9_takeUnit 116 = .ok (.iconst (-1), 1) := by decide +kernel
theorem dX9_takeUnit_117 : decode cX9_takeUnit 117 = .ok (.invokevirtual 91, 3) := by decide +kernel
theorem dX9_takeUnit_120 : decode cX9_takeUnit 120 = .ok (.iload_n 2, 1) := by decide +kernel
theorem dX9_takeUnit_121 : decode cX9_takeUnit 121 = .ok (.ireturn, 1) := by decide +kernel
def fX9_takeUnit_L48 (p1 : Int32) (r2 : Int32) (x3 : Int32) (r11 : Int32) (k48 : Int32 → bM → Option (Int32 × bM)) (y12 : Int32) (v13 : bM) : Option (Int32 × bM) :=
  (if ((2 * r11) - 2) ≤ y12 then (ck ((x3 + (2 * r11)) - 2) 496 <| nm (upd v13 (710 + ((x3 + (2 * r11)) - 2).toNatClampNeg) 0) fun v16 => ck ((x3 + (2 * r11)) - 1) 496 <| nm (upd v16 (710 + ((x3 + (2 * r11)) - 1).toNatClampNeg) 0) fun v18 => bnw (fX9_addToFlour p1 1 (-1) v18) fun w20 => some (r2, w20)) else (ck ((x3 + y12) + 2) 496 <| nm (v13 (710 + ((x3 + y12) + 2).toNatClampNeg)) fun x22 => ck (x3 + y12) 496 <| nm (upd v13 (710 + (x3 + y12).toNatClampNeg) x22) fun v24 => nm (y12 + 1) fun x25 => k48 x25 v24))
def fX9_takeUnit (p1 : Int32) (v : bM) : Option (Int32 × bM) :=
  bnr (fX9_lot p1 0 1 v) fun r2 => nm ((40 + (28 * p1)) + 4) fun x3 => ck x3 496 <| nm ((v (710 + x3.toNatClampNeg)) - 1) fun x5 => ck x3 496 <| nm (upd v (710 + x3.toNatClampNeg) x5) fun v7 => ck x3 496 <| (if (v7 (710 + x3.toNatClampNeg)) = 0 then (bnr (fX9_flour p1 1 v7) fun r11 => lp (fX9_takeUnit_L48 p1 r2 x3 r11) (fun _ _ => none) lpN 0 v7) else (some (r2, v7)))
set_option maxRecDepth 100000 in
set_option maxHeartbeats 4000000 in
theorem mX9_takeUnit {l : Launch} {p1 : Int32} {v : bM} {r0 : Int32} {w0 : bM} (hf : fX9_takeUnit p1 v = some (r0, w0)) : bMet l yX9_takeUnit cX9_takeUnit 6 (some .int) 1 0 0 LMo (fun E a => [.ref a, .int p1]) v w0 (fun _ => some (.int r0)) := by
  refine bk_start (by decide +kernel) wfMo (fun _ _ => Nat.le_of_ble_eq_true rfl) ?_
  intro p e s m args below meth c D E a ls H locs X hr hl hB
  have hx := X.1
  have hb := X.2.1
  have hown := X.2.2.2.1
  have hts := X.2.2.2.2.1
  have hl : lv_has ls 6 [(0, .ref a), (1, .int p1)] := hl
  have hf := (fX9_takeUnit.eq_1 p1 v).symm.trans hf
  refine lv_aload_n hx hb dX9_takeUnit_0 rfl (lv_at hl 0 rfl) ?_
  refine lv_iload_n hx hb dX9_takeUnit_1 rfl (lv_at hl 1 rfl) ?_
  refine lv_iconst (v := 0) hx hb dX9_takeUnit_2 (by decide) ?_
  refine lv_iconst (v := 1) hx hb dX9_takeUnit_3 (by decide) ?_
  obtain ⟨r2, hc1, hf⟩ := bnr_some hf
  refine bk_all hB (fun h1 h2 h3 => bk_runV X (Av := [.int p1, .int 0, .int 1]) (rest := []) (mX9_lot hc1) yv_X9_lot wm_1786 ⟨Nat.le_of_ble_eq_true rfl, Nat.le_of_ble_eq_true rfl⟩ rfl rfl hl.1 kl_X9.1 (hB.1.obj lc_Mo_0) h1 h2 h3 (Nat.le_of_ble_eq_true rfl) ⟨Nat.le_of_ble_eq_true rfl, Nat.le_of_ble_eq_true rfl⟩ dX9_takeUnit_4) (fun H locs hB => ?_)
  refine W.eq (g2 := F0 m 7 ls [.int r2]) rfl ?_
  refine lv_istore_n (lv' := [(2, .int r2), (0, .ref a), (1, .int p1)]) hx hb dX9_takeUnit_7 rfl hl (by decide) rfl (fun ls hl => ?_)
  refine lv_bipush (v := 40) hx hb dX9_takeUnit_8 (by decide) ?_
  refine lv_bipush (v := 28) hx hb dX9_takeUnit_10 (by decide) ?_
  refine lv_iload_n hx hb dX9_takeUnit_12 rfl (lv_at hl 2 rfl) ?_
  refine lv_imul hx hb dX9_takeUnit_13 ?_
  refine lv_iadd hx hb dX9_takeUnit_14 ?_
  refine lv_iconst (v := 4) hx hb dX9_takeUnit_15 (by decide) ?_
  refine lv_iadd hx hb dX9_takeUnit_16 ?_
  refine lv_topi (fun x3 ex3 => ?_)
  have hf := nm_use hf ex3
  refine lv_istore_n (lv' := [(3, .int x3), (2, .int r2), (0, .ref a), (1, .int p1)]) hx hb dX9_takeUnit_17 rfl hl (by decide) rfl (fun ls hl => ?_)
  refine lv_aload_n hx hb dX9_takeUnit_18 rfl (lv_at hl 2 rfl) ?_
  refine bk_getR X hB kl_X9 0 lc_Mo_0 5 (by decide) rfl wm_1868 dX9_takeUnit_19 ?_
  refine lv_iload_n hx hb dX9_takeUnit_22 rfl (lv_at hl 0 rfl) ?_
  refine lv_dup2_11 hx hb dX9_takeUnit_23 rfl rfl ?_
  obtain ⟨h4, hf⟩ := ck_some hf
  refine bk_ald X hB 2 lc_Mo_2 h4 dX9_takeUnit_24 ?_
  refine lv_iconst (v := 1) hx hb dX9_takeUnit_25 (by decide) ?_
  refine lv_isub hx hb dX9_takeUnit_26 ?_
  refine lv_topi (fun x5 ex5 => ?_)
  have hf := nm_use hf ex5
  obtain ⟨h6, hf⟩ := ck_some hf
  refine bk_ast X hB 2 lc_Mo_2 h6 dX9_takeUnit_27 (fun H locs hB => ?_)
  obtain ⟨v7, ev7⟩ : ∃ y : bM, y = upd v (710 + x3.toNatClampNeg) x5 := ⟨_, rfl⟩
  have hf := nm_use hf ev7
  rw [← ev7] at hB
  refine lv_aload_n hx hb dX9_takeUnit_28 rfl (lv_at hl 2 rfl) ?_
  refine bk_getR X hB kl_X9 0 lc_Mo_0 5 (by decide) rfl wm_1868 dX9_takeUnit_29 ?_
  refine lv_iload_n hx hb dX9_takeUnit_32 rfl (lv_at hl 0 rfl) ?_
  obtain ⟨h8, hf⟩ := ck_some hf
  refine bk_ald X hB 2 lc_Mo_2 h8 dX9_takeUnit_33 ?_
  refine lv_if_ne (tgt := 120) hx hb dX9_takeUnit_34 (by decide) (fun c9 => ?_) (fun c9 => ?_)
  · have hf := (if_neg c9).symm.trans hf
    refine lv_iload_n hx hb dX9_takeUnit_120 rfl (lv_at hl 1 rfl) ?_
    exact bk_iW X hr rfl hf hB (Nat.le_of_ble_eq_true rfl) (Nat.le_of_ble_eq_true rfl) dX9_takeUnit_121
  · have hf := (if_pos c9).symm.trans hf
    refine lv_aload_n hx hb dX9_takeUnit_37 rfl (lv_at hl 2 rfl) ?_
    refine lv_iload_n hx hb dX9_takeUnit_38 rfl (lv_at hl 3 rfl) ?_
    refine lv_iconst (v := 1) hx hb dX9_takeUnit_39 (by decide) ?_
    obtain ⟨r11, hc10, hf⟩ := bnr_some hf
    refine bk_all hB (fun h1 h2 h3 => bk_runV X (Av := [.int p1, .int 1]) (rest := []) (mX9_flour hc10) yv_X9_flour wm_1758 ⟨Nat.le_of_ble_eq_true rfl, Nat.le_of_ble_eq_true rfl⟩ rfl rfl hl.1 kl_X9.1 (hB.1.obj lc_Mo_0) h1 h2 h3 (Nat.le_of_ble_eq_true rfl) ⟨Nat.le_of_ble_eq_true rfl, Nat.le_of_ble_eq_true rfl⟩ dX9_takeUnit_40) (fun H locs hB => ?_)
    refine W.eq (g2 := F0 m 43 ls [.int r11]) rfl ?_
    refine lv_istore (lv' := [(4, .int r11), (3, .int x3), (2, .int r2), (0, .ref a), (1, .int p1)]) hx hb dX9_takeUnit_43 hl (by decide) rfl (fun ls hl => ?_)
    refine lv_iconst (v := 0) hx hb dX9_takeUnit_45 (by decide) ?_
    refine lv_istore (lv' := [(5, .int 0), (4, .int r11), (3, .int x3), (2, .int r2), (0, .ref a), (1, .int p1)]) hx hb dX9_takeUnit_46 hl (by decide) rfl (fun ls hl => ?_)
    have hL48 : ∀ (n48 : Nat) (y12 : Int32) (v13 : bM) (H : Heap) (locs : List Loc) (ls : Array Slot), lp (fX9_takeUnit_L48 p1 r2 x3 r11) (fun _ _ => none) n48 y12 v13 = some (r0, w0) → bB D E LMo a v13 s H locs → lv_has ls 6 [(0, .ref a), (1, .int p1), (2, .int r2), (3, .int x3), (4, .int r11), (5, .int y12)] → W p l e (rmOf 1 0 0) s m args below meth c H locs 0 0 (bQ below D E LMo a w0 (some (.int r0)) args s 0 0) (F0 m 48 ls []) := by
      intro n48
      induction n48 with
      | zero => intro y12 v13 H locs ls hf; cases (show (none : Option (Int32 × bM)) = some (r0, w0) from hf)
      | succ n48 ih48 =>
        intro y12 v13 H locs ls hf hB hl
        have hf := (fX9_takeUnit_L48.eq_1 p1 r2 x3 r11 (lp (fX9_takeUnit_L48 p1 r2 x3 r11) (fun _ _ => none) n48) y12 v13).symm.trans (show fX9_takeUnit_L48 p1 r2 x3 r11 (lp (fX9_takeUnit_L48 p1 r2 x3 r11) (fun _ _ => none) n48) y12 v13 = some (r0, w0) from hf)
        refine lv_iload hx hb dX9_takeUnit_48 (lv_at hl 5 rfl) ?_
        refine lv_iconst (v := 2) hx hb dX9_takeUnit_50 (by decide) ?_
        refine lv_iload hx hb dX9_takeUnit_51 (lv_at hl 4 rfl) ?_
        refine lv_imul hx hb dX9_takeUnit_53 ?_
        refine lv_iconst (v := 2) hx hb dX9_takeUnit_54 (by decide) ?_
        refine lv_isub hx hb dX9_takeUnit_55 ?_
        refine lv_icmp_ge (tgt := 85) hx hb dX9_takeUnit_56 (by decide) (fun c14 => ?_) (fun c14 => ?_)
        · have hf := (if_pos c14).symm.trans hf
          refine lv_aload_n hx hb dX9_takeUnit_85 rfl (lv_at hl 0 rfl) ?_
          refine bk_getR X hB kl_X9 0 lc_Mo_0 5 (by decide) rfl wm_1868 dX9_takeUnit_86 ?_
          refine lv_iload_n hx hb dX9_takeUnit_89 rfl (lv_at hl 3 rfl) ?_
          refine lv_iconst (v := 2) hx hb dX9_takeUnit_90 (by decide) ?_
          refine lv_iload hx hb dX9_takeUnit_91 (lv_at hl 4 rfl) ?_
          refine lv_imul hx hb dX9_takeUnit_93 ?_
          refine lv_iadd hx hb dX9_takeUnit_94 ?_
          refine lv_iconst (v := 2) hx hb dX9_takeUnit_95 (by decide) ?_
          refine lv_isub hx hb dX9_takeUnit_96 ?_
          refine lv_iconst (v := 0) hx hb dX9_takeUnit_97 (by decide) ?_
          obtain ⟨h15, hf⟩ := ck_some hf
          refine bk_ast X hB 2 lc_Mo_2 h15 dX9_takeUnit_98 (fun H locs hB => ?_)
          obtain ⟨v16, ev16⟩ : ∃ y : bM, y = upd v13 (710 + ((x3 + (2 * r11)) - 2).toNatClampNeg) 0 := ⟨_, rfl⟩
          have hf := nm_use hf ev16
          rw [← ev16] at hB
          refine lv_aload_n hx hb dX9_takeUnit_99 rfl (lv_at hl 0 rfl) ?_
          refine bk_getR X hB kl_X9 0 lc_Mo_0 5 (by decide) rfl wm_1868 dX9_takeUnit_100 ?_
          refine lv_iload_n hx hb dX9_takeUnit_103 rfl (lv_at hl 3 rfl) ?_
          refine lv_iconst (v := 2) hx hb dX9_takeUnit_104 (by decide) ?_
          refine lv_iload hx hb dX9_takeUnit_105 (lv_at hl 4 rfl) ?_
          refine lv_imul hx hb dX9_takeUnit_107 ?_
          refine lv_iadd hx hb dX9_takeUnit_108 ?_
          refine lv_iconst (v := 1) hx hb dX9_takeUnit_109 (by decide) ?_
          refine lv_isub hx hb dX9_takeUnit_110 ?_
          refine lv_iconst (v := 0) hx hb dX9_takeUnit_111 (by decide) ?_
          obtain ⟨h17, hf⟩ := ck_some hf
          refine bk_ast X hB 2 lc_Mo_2 h17 dX9_takeUnit_112 (fun H locs hB => ?_)
          obtain ⟨v18, ev18⟩ : ∃ y : bM, y = upd v16 (710 + ((x3 + (2 * r11)) - 1).toNatClampNeg) 0 := ⟨_, rfl⟩
          have hf := nm_use hf ev18
          rw [← ev18] at hB
          refine lv_aload_n hx hb dX9_takeUnit_113 rfl (lv_at hl 0 rfl) ?_
          refine lv_iload_n hx hb dX9_takeUnit_114 rfl (lv_at hl 1 rfl) ?_
          refine lv_iconst (v := 1) hx hb dX9_takeUnit_115 (by decide) ?_
          refine lv_iconst (v := (-1)) hx hb dX9_takeUnit_116 (by decide) ?_
          obtain ⟨w20, hc19, hf⟩ := bnw_some hf
          refine bk_all hB (fun h1 h2 h3 => bk_runV X (Av := [.int p1, .int 1, .int (-1)]) (rest := []) (mX9_addToFlour hc19) yv_X9_addToFlour wm_1798 ⟨Nat.le_of_ble_eq_true rfl, Nat.le_of_ble_eq_true rfl⟩ rfl rfl hl.1 kl_X9.1 (hB.1.obj lc_Mo_0) h1 h2 h3 (Nat.le_of_ble_eq_true rfl) ⟨Nat.le_of_ble_eq_true rfl, Nat.le_of_ble_eq_true rfl⟩ dX9_takeUnit_117) (fun H locs hB => ?_)
          refine W.eq (g2 := F0 m 120 ls []) rfl ?_
          refine lv_iload_n hx hb dX9_takeUnit_120 rfl (lv_at hl 2 rfl) ?_
          exact bk_iW X hr rfl hf hB (Nat.le_of_ble_eq_true rfl) (Nat.le_of_ble_eq_true rfl) dX9_takeUnit_121
        · have hf := (if_neg c14).symm.trans hf
          refine lv_aload_n hx hb dX9_takeUnit_59 rfl (lv_at hl 0 rfl) ?_
          refine bk_getR X hB kl_X9 0 lc_Mo_0 5 (by decide) rfl wm_1868 dX9_takeUnit_60 ?_
          refine lv_iload_n hx hb dX9_takeUnit_63 rfl (lv_at hl 3 rfl) ?_
          refine lv_iload hx hb dX9_takeUnit_64 (lv_at hl 5 rfl) ?_
          refine lv_iadd hx hb dX9_takeUnit_66 ?_
          refine lv_aload_n hx hb dX9_takeUnit_67 rfl (lv_at hl 0 rfl) ?_
          refine bk_getR X hB kl_X9 0 lc_Mo_0 5 (by decide) rfl wm_1868 dX9_takeUnit_68 ?_
          refine lv_iload_n hx hb dX9_takeUnit_71 rfl (lv_at hl 3 rfl) ?_
          refine lv_iload hx hb dX9_takeUnit_72 (lv_at hl 5 rfl) ?_
          refine lv_iadd hx hb dX9_takeUnit_74 ?_
          refine lv_iconst (v := 2) hx hb dX9_takeUnit_75 (by decide) ?_
          refine lv_iadd hx hb dX9_takeUnit_76 ?_
          obtain ⟨h21, hf⟩ := ck_some hf
          refine bk_ald X hB 2 lc_Mo_2 h21 dX9_takeUnit_77 ?_
          refine lv_topi (fun x22 ex22 => ?_)
          have hf := nm_use hf ex22
          obtain ⟨h23, hf⟩ := ck_some hf
          refine bk_ast X hB 2 lc_Mo_2 h23 dX9_takeUnit_78 (fun H locs hB => ?_)
          obtain ⟨v24, ev24⟩ : ∃ y : bM, y = upd v13 (710 + (x3 + y12).toNatClampNeg) x22 := ⟨_, rfl⟩
          have hf := nm_use hf ev24
          rw [← ev24] at hB
          obtain ⟨x25, ex25⟩ : ∃ y : Int32, y = y12 + 1 := ⟨_, rfl⟩
          have hf := nm_use hf ex25
          refine lv_iinc (v := x25) (lv' := [(5, .int x25), (0, .ref a), (1, .int p1), (2, .int r2), (3, .int x3), (4, .int r11)]) hx hb dX9_takeUnit_79 hl (k := 5) rfl (by rw [ex25]; rfl) (by decide) rfl (fun ls hl => ?_)
          refine lv_goto (tgt := 48) hx hb dX9_takeUnit_82 (by decide) ?_
          exact ih48 x25 v24 H locs ls hf hB (lv_sub hl [1, 2, 3, 4, 5, 0] rfl)
    exact hL48 lpN 0 v7 H locs ls hf hB (lv_sub hl [4, 5, 3, 2, 1, 0] rfl)
theorem yv_X9_takeUnit : bYv yX9_takeUnit RX9 cX9_takeUnit 6 (some .int) 1 := ⟨⟨rfl, by decide, by decide, rfl⟩, wm_1828, wp_65, wm_17, wm_1829⟩

theorem dX9_firstOven_0 : decode cX9_firstOven 0 = .ok (.iconst 0, 1) := by decide +kernel
theorem dX9_firstOven_1 : decode cX9_firstOven 1 = .ok (.istore_n 1, 1) := by decide +kernel
theorem dX9_firstOven_2 : decode cX9_firstOven 2 = .ok (.iconst 1, 1) := by decide +kernel
theorem dX9_firstOven_3 : decode cX9_firstOven 3 = .ok (.istore_n 2, 1) := by decide +kernel
theorem dX9_firstOven_4 : decode cX9_firstOven 4 = .ok (.iload_n 2, 1) := by decide +kernel
theorem dX9_firstOven_5 : decode cX9_firstOven 5 = .ok (.aload_n 0, 1) := by decide +kernel
theorem dX9_firstOven_6 : decode cX9_firstOven 6 = .ok (.getfield 17, 3) := by decide +kernel
theorem dX9_firstOven_9 : decode cX9_firstOven 9 = .ok (.iconst 3, 1) := by decide +kernel
theorem dX9_firstOven_10 : decode cX9_firstOven 10 = .ok (.iaload, 1) := by decide +kernel
theorem dX9_firstOven_11 : decode cX9_firstOven 11 = .ok (.if_icmp .ge 36, 3) := by decide +kernel
theorem dX9_firstOven_14 : decode cX9_firstOven 14 = .ok (.aload_n 0, 1) := by decide +kernel
theorem dX9_firstOven_15 : decode cX9_firstOven 15 = .ok (.getfield 17, 3) := by decide +kernel
theorem dX9_firstOven_18 : decode cX9_firstOven 18 = .ok (.bipush 37, 2) := by decide +kernel
theorem dX9_firstOven_20 : decode cX9_firstOven 20 = .ok (.iload_n 2, 1) := by decide +kernel
theorem dX9_firstOven_21 : decode cX9_firstOven 21 = .ok (.iadd, 1) := by decide +kernel
theorem dX9_firstOven_22 : decode cX9_firstOven 22 = .ok (.iaload, 1) := by decide +kernel
theorem dX9_firstOven_23 : decode cX9_firstOven 23 = .ok (.aload_n 0, 1) := by decide +kernel
theorem dX9_firstOven_24 : decode cX9_firstOven 24 = .ok (.getfield 17, 3) := by decide +kernel
theorem dX9_firstOven_27 : decode cX9_firstOven 27 = .ok (.bipush 37, 2) := by decide +kernel
theorem dX9_firstOven_29 : decode cX9_firstOven 29 = .ok (.iload_n 1, 1) := by decide +kernel
theorem dX9_firstOven_30 : decode cX9_firstOven 30 = .ok (.iadd, 1) := by decide +kernel
theorem dX9_firstOven_31 : decode cX9_firstOven 31 = .ok (.iaload, 1) := by decide +kernel
theorem dX9_firstOven_32 : decode cX9_firstOven 32 = .ok (.if_icmp .ge 7, 3) := by decide +kernel
theorem dX9_firstOven_35 : decode cX9_firstOven 35 = .ok (.iload_n 2, 1) := by decide +kernel
theorem dX9_firstOven_36 : decode cX9_firstOven 36 = .ok (.goto 4, 3) := by decide +kernel
theorem dX9_firstOven_39 : decode cX9_firstOven 39 = .ok (.iload_n 1, 1) := by decide +kernel
theorem dX9_firstOven_40 : decode cX9_firstOven 40 = .ok (.istore_n 1, 1) := by decide +kernel
theorem dX9_firstOven_41 : decode cX9_firstOven 41 = .ok (.iinc 2 1, 3) := by decide +kernel
theorem dX9_firstOven_44 : decode cX9_firstOven 44 = .ok (.goto (-40), 3) := by decide +kernel
theorem dX9_firstOven_47 : decode cX9_firstOven 47 = .ok (.iload_n 1, 1) := by decide +kernel
theorem dX9_firstOven_48 : decode cX9_firstOven 48 = .ok (.ireturn, 1) := by decide +kernel
def fX9_firstOven_J40 (y2 : Int32) (k4 : Int32 → Int32 → Option Int32) (y6 : Int32) : Option Int32 :=
  nm (y2 + 1) fun x7 => k4 y6 x7
def fX9_firstOven_L4 (v : bM) (k4 : Int32 → Int32 → Option Int32) (y1 : Int32) (y2 : Int32) : Option Int32 :=
  (if (v (710 + (3 : Int32).toNatClampNeg)) ≤ y2 then (some (y1)) else (ck (37 + y2) 496 <| ck (37 + y1) 496 <| (if (v (710 + (37 + y1).toNatClampNeg)) ≤ (v (710 + (37 + y2).toNatClampNeg)) then (fX9_firstOven_J40 y2 k4 y1) else (fX9_firstOven_J40 y2 k4 y2))))
def fX9_firstOven  (v : bM) : Option Int32 :=
  lp (fX9_firstOven_L4 v) (fun _ _ => none) lpN 0 1
set_option maxRecDepth 100000 in
set_option maxHeartbeats 4000000 in
theorem mX9_firstOven {l : Launch}  {v : bM} {r0 : Int32} (hf : fX9_firstOven  v = some r0) : bMet l yX9_firstOven cX9_firstOven 3 (some .int) 0 0 0 LMo (fun E a => [.ref a]) v v (fun _ => some (.int r0)) := by
  refine bk_start (by decide +kernel) wfMo (fun _ _ => Nat.le_of_ble_eq_true rfl) ?_
  intro p e s m args below meth c D E a ls H locs X hr hl hB
  have hx := X.1
  have hb := X.2.1
  have hown := X.2.2.2.1
  have hts := X.2.2.2.2.1
  have hl : lv_has ls 3 [(0, .ref a)] := hl
  have hf := (fX9_firstOven.eq_1  v).symm.trans hf
  refine lv_iconst (v := 0) hx hb dX9_firstOven_0 (by decide) ?_
  refine lv_istore_n (lv' := [(1, .int 0), (0, .ref a)]) hx hb dX9_firstOven_1 rfl hl (by decide) rfl (fun ls hl => ?_)
  refine lv_iconst (v := 1) hx hb dX9_firstOven_2 (by decide) ?_
  refine lv_istore_n (lv' := [(2, .int 1), (1, .int 0), (0, .ref a)]) hx hb dX9_firstOven_3 rfl hl (by decide) rfl (fun ls hl => ?_)
  have hL4 : ∀ (n4 : Nat) (y1 y2 : Int32) (H : Heap) (locs : List Loc) (ls : Array Slot), lp (fX9_firstOven_L4 v) (fun _ _ => none) n4 y1 y2 = some r0 → bB D E LMo a v s H locs → lv_has ls 3 [(0, .ref a), (1, .int y1), (2, .int y2)] → W p l e (rmOf 0 0 0) s m args below meth c H locs 0 0 (bQ below D E LMo a v (some (.int r0)) args s 0 0) (F0 m 4 ls []) := by
    intro n4
    induction n4 with
    | zero => intro y1 y2 H locs ls hf; cases (show (none : Option Int32) = some r0 from hf)
    | succ n4 ih4 =>
      intro y1 y2 H locs ls hf hB hl
      have hf := (fX9_firstOven_L4.eq_1 v (lp (fX9_firstOven_L4 v) (fun _ _ => none) n4) y1 y2).symm.trans (show fX9_firstOven_L4 v (lp (fX9_firstOven_L4 v) (fun _ _ => none) n4) y1 y2 = some r0 from hf)
      refine lv_iload_n hx hb dX9_firstOven_4 rfl (lv_at hl 2 rfl) ?_
      refine lv_aload_n hx hb dX9_firstOven_5 rfl (lv_at hl 0 rfl) ?_
      refine bk_getR X hB kl_X9 0 lc_Mo_0 5 (by decide) rfl wm_1868 dX9_firstOven_6 ?_
      refine lv_iconst (v := 3) hx hb dX9_firstOven_9 (by decide) ?_
      refine bk_ald X hB 2 lc_Mo_2 (vp_c 3 496 rfl) dX9_firstOven_10 ?_
      refine lv_icmp_ge (tgt := 47) hx hb dX9_firstOven_11 (by decide) (fun c3 => ?_) (fun c3 => ?_)
      · have hf := (if_pos c3).symm.trans hf
        refine lv_iload_n hx hb dX9_firstOven_47 rfl (lv_at hl 1 rfl) ?_
        exact bk_iR X hr rfl hf hB (Nat.le_of_ble_eq_true rfl) (Nat.le_of_ble_eq_true rfl) dX9_firstOven_48
      · have hf := (if_neg c3).symm.trans hf
        refine lv_aload_n hx hb dX9_firstOven_14 rfl (lv_at hl 0 rfl) ?_
        refine bk_getR X hB kl_X9 0 lc_Mo_0 5 (by decide) rfl wm_1868 dX9_firstOven_15 ?_
        refine lv_bipush (v := 37) hx hb dX9_firstOven_18 (by decide) ?_
        refine lv_iload_n hx hb dX9_firstOven_20 rfl (lv_at hl 2 rfl) ?_
        refine lv_iadd hx hb dX9_firstOven_21 ?_
        obtain ⟨h4, hf⟩ := ck_some hf
        refine bk_ald X hB 2 lc_Mo_2 h4 dX9_firstOven_22 ?_
        refine lv_aload_n hx hb dX9_firstOven_23 rfl (lv_at hl 0 rfl) ?_
        refine bk_getR X hB kl_X9 0 lc_Mo_0 5 (by decide) rfl wm_1868 dX9_firstOven_24 ?_
        refine lv_bipush (v := 37) hx hb dX9_firstOven_27 (by decide) ?_
        refine lv_iload_n hx hb dX9_firstOven_29 rfl (lv_at hl 1 rfl) ?_
        refine lv_iadd hx hb dX9_firstOven_30 ?_
        obtain ⟨h5, hf⟩ := ck_some hf
        refine bk_ald X hB 2 lc_Mo_2 h5 dX9_firstOven_31 ?_
        have hJ40 : ∀ (y6 : Int32) (H : Heap) (locs : List Loc) (ls : Array Slot), fX9_firstOven_J40 y2 (lp (fX9_firstOven_L4 v) (fun _ _ => none) n4) y6 = some r0 → bB D E LMo a v s H locs → lv_has ls 3 [(0, .ref a), (2, .int y2)] → W p l e (rmOf 0 0 0) s m args below meth c H locs 0 0 (bQ below D E LMo a v (some (.int r0)) args s 0 0) (F0 m 40 ls [.int y6]) := by
          intro y6 H locs ls hf hB hl
          have hf := (fX9_firstOven_J40.eq_1 y2 (lp (fX9_firstOven_L4 v) (fun _ _ => none) n4) y6).symm.trans hf
          refine lv_istore_n (lv' := [(1, .int y6), (0, .ref a), (2, .int y2)]) hx hb dX9_firstOven_40 rfl hl (by decide) rfl (fun ls hl => ?_)
          obtain ⟨x7, ex7⟩ : ∃ y : Int32, y = y2 + 1 := ⟨_, rfl⟩
          have hf := nm_use hf ex7
          refine lv_iinc (v := x7) (lv' := [(2, .int x7), (1, .int y6), (0, .ref a)]) hx hb dX9_firstOven_41 hl (k := 2) rfl (by rw [ex7]; rfl) (by decide) rfl (fun ls hl => ?_)
          refine lv_goto (tgt := 4) hx hb dX9_firstOven_44 (by decide) ?_
          exact ih4 y6 x7 H locs ls hf hB (lv_sub hl [2, 1, 0] rfl)
        refine lv_icmp_ge (tgt := 39) hx hb dX9_firstOven_32 (by decide) (fun c8 => ?_) (fun c8 => ?_)
        · have hf := (if_pos c8).symm.trans hf
          refine lv_iload_n hx hb dX9_firstOven_39 rfl (lv_at hl 1 rfl) ?_
          exact hJ40 y1 H locs ls hf hB (lv_sub hl [0, 2] rfl)
        · have hf := (if_neg c8).symm.trans hf
          refine lv_iload_n hx hb dX9_firstOven_35 rfl (lv_at hl 2 rfl) ?_
          refine lv_goto (tgt := 40) hx hb dX9_firstOven_36 (by decide) ?_
          exact hJ40 y2 H locs ls hf hB (lv_sub hl [0, 2] rfl)
  exact hL4 lpN 0 1 H locs ls hf hB (lv_sub hl [2, 1, 0] rfl)
theorem yv_X9_firstOven : bYv yX9_firstOven RX9 cX9_firstOven 3 (some .int) 0 := ⟨⟨rfl, by decide, by decide, rfl⟩, wm_1836, wp_67, wm_17, wm_1837⟩

theorem dX9_rate_0 : decode cX9_rate 0 = .ok (.aload_n 0, 1) := by decide +kernel
theorem dX9_rate_1 : decode cX9_rate 1 = .ok (.getfield 17, 3) := by decide +kernel
theorem dX9_rate_4 : decode cX9_rate 4 = .ok (.bipush 13, 2) := by decide +kernel
theorem dX9_rate_6 : decode cX9_rate 6 = .ok (.iload_n 1, 1) := by decide +kernel
theorem dX9_rate_7 : decode cX9_rate 7 = .ok (.bipush 60, 2) := by decide +kernel
theorem dX9_rate_9 : decode cX9_rate 9 = .ok (.idiv, 1) := by decide +kernel
theorem dX9_rate_10 : decode cX9_rate 10 = .ok (.bipush 24, 2) := by decide +kernel
theorem dX9_rate_12 : decode cX9_rate 12 = .ok (.irem, 1) := by decide +kernel
theorem dX9_rate_13 : decode cX9_rate 13 = .ok (.iadd, 1) := by decide +kernel
theorem dX9_rate_14 : decode cX9_rate 14 = .ok (.iaload, 1) := by decide +kernel
theorem dX9_rate_15 : decode cX9_rate 15 = .ok (.ireturn, 1) := by decide +kernel
def fX9_rate (p1 : Int32) (v : bM) : Option Int32 :=
  ck (13 + ((p1 / 60) - (p1 / 60) / 24 * 24)) 496 <| some (v (710 + (13 + ((p1 / 60) - (p1 / 60) / 24 * 24)).toNatClampNeg))
set_option maxRecDepth 100000 in
set_option maxHeartbeats 4000000 in
theorem mX9_rate {l : Launch} {p1 : Int32} {v : bM} {r0 : Int32} (hf : fX9_rate p1 v = some r0) : bMet l yX9_rate cX9_rate 2 (some .int) 0 0 0 LMo (fun E a => [.ref a, .int p1]) v v (fun _ => some (.int r0)) := by
  refine bk_start (by decide +kernel) wfMo (fun _ _ => Nat.le_of_ble_eq_true rfl) ?_
  intro p e s m args below meth c D E a ls H locs X hr hl hB
  have hx := X.1
  have hb := X.2.1
  have hown := X.2.2.2.1
  have hts := X.2.2.2.2.1
  have hl : lv_has ls 2 [(0, .ref a), (1, .int p1)] := hl
  have hf := (fX9_rate.eq_1 p1 v).symm.trans hf
  refine lv_aload_n hx hb dX9_rate_0 rfl (lv_at hl 0 rfl) ?_
  refine bk_getR X hB kl_X9 0 lc_Mo_0 5 (by decide) rfl wm_1868 dX9_rate_1 ?_
  refine lv_bipush (v := 13) hx hb dX9_rate_4 (by decide) ?_
  refine lv_iload_n hx hb dX9_rate_6 rfl (lv_at hl 1 rfl) ?_
  refine lv_bipush (v := 60) hx hb dX9_rate_7 (by decide) ?_
  refine lv_idiv hx hb dX9_rate_9 (by decide) ?_
  refine lv_bipush (v := 24) hx hb dX9_rate_10 (by decide) ?_
  refine lv_irem hx hb dX9_rate_12 (by decide) ?_
  refine lv_iadd hx hb dX9_rate_13 ?_
  obtain ⟨h1, hf⟩ := ck_some hf
  refine bk_ald X hB 2 lc_Mo_2 h1 dX9_rate_14 ?_
  exact bk_iR X hr rfl hf hB (Nat.le_of_ble_eq_true rfl) (Nat.le_of_ble_eq_true rfl) dX9_rate_15
theorem yv_X9_rate : bYv yX9_rate RX9 cX9_rate 2 (some .int) 1 := ⟨⟨rfl, by decide, by decide, rfl⟩, wm_1845, wp_69, wm_17, wm_1846⟩

theorem dX9_costOfMinutes_0 : decode cX9_costOfMinutes 0 = .ok (.iconst 0, 1) := by decide +kernel
theorem dX9_costOfMinutes_1 : decode cX9_costOfMinutes 1 = .ok (.istore_n 3, 1) := by decide +kernel
theorem dX9_costOfMinutes_2 : decode cX9_costOfMinutes 2 = .ok (.iload_n 1, 1) := by decide +kernel
theorem dX9_costOfMinutes_3 : decode cX9_costOfMinutes 3 = .ok (.istore 4, 2) := by decide +kernel
theorem dX9_costOfMinutes_5 : decode cX9_costOfMinutes 5 = .ok (.iload 4, 2) := by decide +kernel
theorem dX9_costOfMinutes_7 : decode cX9_costOfMinutes 7 = .ok (.iload_n 1, 1) := by decide +kernel
theorem dX9_costOfMinutes_8 : decode cX9_costOfMinutes 8 = .ok (.iload_n 2, 1) := by decide +kernel
theorem dX9_costOfMinutes_9 : decode cX9_costOfMinutes 9 = .ok (.iadd, 1) := by decide +kernel
theorem dX9_costOfMinutes_10 : decode cX9_costOfMinutes 10 = .ok (.if_icmp .ge 18, 3) := by decide +kernel
theorem dX9_costOfMinutes_13 : decode cX9_costOfMinutes 13 = .ok (.iload_n 3, 1) := by decide +kernel
theorem dX9_costOfMinutes_14 : decode cX9_costOfMinutes 14 = .ok (.aload_n 0, 1) := by decide +kernel
theorem dX9_costOfMinutes_15 : decode cX9_costOfMinutes 15 = .ok (.iload 4, 2) := by decide +kernel
theorem dX9_costOfMinutes_17 : decode cX9_costOfMinutes 17 = .ok (.invokevirtual 95, 3) := by decide +kernel
theorem dX9_costOfMinutes_20 : decode cX9_costOfMinutes 20 = .ok (.iadd, 1) := by decide +kernel
theorem dX9_costOfMinutes_21 : decode cX9_costOfMinutes 21 = .ok (.istore_n 3, 1) := by decide +kernel
theorem dX9_costOfMinutes_22 : decode cX9_costOfMinutes 22 = .ok (.iinc 4 1, 3) := by decide +kernel
theorem dX9_costOfMinutes_25 : decode cX9_costOfMinutes 25 = .ok (.goto (-20), 3) := by decide +kernel
theorem dX9_costOfMinutes_28 : decode cX9_costOfMinutes 28 = .ok (.iload_n 3, 1) := by decide +kernel
theorem dX9_costOfMinutes_29 : decode cX9_costOfMinutes 29 = .ok (.ireturn, 1) := by decide +kernel
def fX9_costOfMinutes_L5 (p1 : Int32) (p2 : Int32) (v : bM) (k5 : Int32 → Int32 → Option Int32) (y1 : Int32) (y2 : Int32) : Option Int32 :=
  (if (p1 + p2) ≤ y2 then (some (y1)) else (bnr (fX9_rate y2 v) fun r5 => nm (y1 + r5) fun x6 => nm (y2 + 1) fun x7 => k5 x6 x7))
def fX9_costOfMinutes (p1 : Int32) (p2 : Int32) (v : bM) : Option Int32 :=
  lp (fX9_costOfMinutes_L5 p1 p2 v) (fun _ _ => none) lpN 0 p1
set_option maxRecDepth 100000 in
set_option maxHeartbeats 4000000 in
theorem mX9_costOfMinutes {l : Launch} {p1 : Int32} {p2 : Int32} {v : bM} {r0 : Int32} (hf : fX9_costOfMinutes p1 p2 v = some r0) : bMet l yX9_costOfMinutes cX9_costOfMinutes 5 (some .int) 1 0 0 LMo (fun E a => [.ref a, .int p1, .int p2]) v v (fun _ => some (.int r0)) := by
  refine bk_start (by decide +kernel) wfMo (fun _ _ => Nat.le_of_ble_eq_true rfl) ?_
  intro p e s m args below meth c D E a ls H locs X hr hl hB
  have hx := X.1
  have hb := X.2.1
  have hown := X.2.2.2.1
  have hts := X.2.2.2.2.1
  have hl : lv_has ls 5 [(0, .ref a), (1, .int p1), (2, .int p2)] := hl
  have hf := (fX9_costOfMinutes.eq_1 p1 p2 v).symm.trans hf
  refine lv_iconst (v := 0) hx hb dX9_costOfMinutes_0 (by decide) ?_
  refine lv_istore_n (lv' := [(3, .int 0), (0, .ref a), (1, .int p1), (2, .int p2)]) hx hb dX9_costOfMinutes_1 rfl hl (by decide) rfl (fun ls hl => ?_)
  refine lv_iload_n hx hb dX9_costOfMinutes_2 rfl (lv_at hl 2 rfl) ?_
  refine lv_istore (lv' := [(4, .int p1), (3, .int 0), (0, .ref a), (1, .int p1), (2, .int p2)]) hx hb dX9_costOfMinutes_3 hl (by decide) rfl (fun ls hl => ?_)
  have hL5 : ∀ (n5 : Nat) (y1 y2 : Int32) (H : Heap) (locs : List Loc) (ls : Array Slot), lp (fX9_costOfMinutes_L5 p1 p2 v) (fun _ _ => none) n5 y1 y2 = some r0 → bB D E LMo a v s H locs → lv_has ls 5 [(0, .ref a), (1, .int p1), (2, .int p2), (3, .int y1), (4, .int y2)] → W p l e (rmOf 1 0 0) s m args below meth c H locs 0 0 (bQ below D E LMo a v (some (.int r0)) args s 0 0) (F0 m 5 ls []) := by
    intro n5
    induction n5 with
    | zero => intro y1 y2 H locs ls hf; cases (show (none : Option Int32) = some r0 from hf)
    | succ n5 ih5 =>
      intro y1 y2 H locs ls hf hB hl
      have hf := (fX9_costOfMinutes_L5.eq_1 p1 p2 v (lp (fX9_costOfMinutes_L5 p1 p2 v) (fun _ _ => none) n5) y1 y2).symm.trans (show fX9_costOfMinutes_L5 p1 p2 v (lp (fX9_costOfMinutes_L5 p1 p2 v) (fun _ _ => none) n5) y1 y2 = some r0 from hf)
      refine lv_iload hx hb dX9_costOfMinutes_5 (lv_at hl 4 rfl) ?_
      refine lv_iload_n hx hb dX9_costOfMinutes_7 rfl (lv_at hl 1 rfl) ?_
      refine lv_iload_n hx hb dX9_costOfMinutes_8 rfl (lv_at hl 2 rfl) ?_
      refine lv_iadd hx hb dX9_costOfMinutes_9 ?_
      refine lv_icmp_ge (tgt := 28) hx hb dX9_costOfMinutes_10 (by decide) (fun c3 => ?_) (fun c3 => ?_)
      · have hf := (if_pos c3).symm.trans hf
        refine lv_iload_n hx hb dX9_costOfMinutes_28 rfl (lv_at hl 3 rfl) ?_
        exact bk_iR X hr rfl hf hB (Nat.le_of_ble_eq_true rfl) (Nat.le_of_ble_eq_true rfl) dX9_costOfMinutes_29
      · have hf := (if_neg c3).symm.trans hf
        refine lv_iload_n hx hb dX9_costOfMinutes_13 rfl (lv_at hl 3 rfl) ?_
        refine lv_aload_n hx hb dX9_costOfMinutes_14 rfl (lv_at hl 0 rfl) ?_
        refine lv_iload hx hb dX9_costOfMinutes_15 (lv_at hl 4 rfl) ?_
        obtain ⟨r5, hc4, hf⟩ := bnr_some hf
        refine bk_all hB (fun h1 h2 h3 => bk_runV X (Av := [.int y2]) (rest := [.int y1]) (mX9_rate hc4) yv_X9_rate wm_1843 ⟨Nat.le_of_ble_eq_true rfl, Nat.le_of_ble_eq_true rfl⟩ rfl rfl hl.1 kl_X9.1 (hB.1.obj lc_Mo_0) h1 h2 h3 (Nat.le_of_ble_eq_true rfl) ⟨Nat.le_of_ble_eq_true rfl, Nat.le_of_ble_eq_true rfl⟩ dX9_costOfMinutes_17) (fun H locs hB => ?_)
        refine W.eq (g2 := F0 m 20 ls [.int r5, .int y1]) rfl ?_
        refine lv_iadd hx hb dX9_costOfMinutes_20 ?_
        refine lv_topi (fun x6 ex6 => ?_)
        have hf := nm_use hf ex6
        refine lv_istore_n (lv' := [(3, .int x6), (0, .ref a), (1, .int p1), (2, .int p2), (4, .int y2)]) hx hb dX9_costOfMinutes_21 rfl hl (by decide) rfl (fun ls hl => ?_)
        obtain ⟨x7, ex7⟩ : ∃ y : Int32, y = y2 + 1 := ⟨_, rfl⟩
        have hf := nm_use hf ex7
        refine lv_iinc (v := x7) (lv' := [(4, .int x7), (3, .int x6), (0, .ref a), (1, .int p1), (2, .int p2)]) hx hb dX9_costOfMinutes_22 hl (k := 4) rfl (by rw [ex7]; rfl) (by decide) rfl (fun ls hl => ?_)
        refine lv_goto (tgt := 5) hx hb dX9_costOfMinutes_25 (by decide) ?_
        exact ih5 x6 x7 H locs ls hf hB (lv_sub hl [2, 3, 4, 1, 0] rfl)
  exact hL5 lpN 0 p1 H locs ls hf hB (lv_sub hl [2, 3, 4, 1, 0] rfl)
theorem yv_X9_costOfMinutes : bYv yX9_costOfMinutes RX9 cX9_costOfMinutes 5 (some .int) 2 := ⟨⟨rfl, by decide, by decide, rfl⟩, wm_1841, wp_68, wm_17, wm_1842⟩

theorem dX9_useFlour_0 : decode cX9_useFlour 0 = .ok (.iconst 0, 1) := by decide +kernel
theorem dX9_useFlour_1 : decode cX9_useFlour 1 = .ok (.istore 5, 2) := by decide +kernel
theorem dX9_useFlour_3 : decode cX9_useFlour 3 = .ok (.iconst 0, 1) := by decide +kernel
theorem dX9_useFlour_4 : decode cX9_useFlour 4 = .ok (.istore 6, 2) := by decide +kernel
theorem dX9_useFlour_6 : decode cX9_useFlour 6 = .ok (.iload 6, 2) := by decide +kernel
theorem dX9_useFlour_8 : decode cX9_useFlour 8 = .ok (.aload_n 0, 1) := by decide +kernel
theorem dX9_useFlour_9 : decode cX9_useFlour 9 = .ok (.getfield 17, 3) := by decide +kernel
theorem dX9_useFlour_12 : decode cX9_useFlour 12 = .ok (.iconst 5, 1) := by decide +kernel
theorem dX9_useFlour_13 : decode cX9_useFlour 13 = .ok (.iaload, 1) := by decide +kernel
theorem dX9_useFlour_14 : decode cX9_useFlour 14 = .ok (.if_icmp .ge 143, 3) := by decide +kernel
theorem dX9_useFlour_17 : decode cX9_useFlour 17 = .ok (.aload_n 0, 1) := by decide +kernel
theorem dX9_useFlour_18 : decode cX9_useFlour 18 = .ok (.iload_n 2, 1) := by decide +kernel
theorem dX9_useFlour_19 : decode cX9_useFlour 19 = .ok (.iload_n 3, 1) := by decide +kernel
theorem dX9_useFlour_20 : decode cX9_useFlour 20 = .ok (.iload 4, 2) := by decide +kernel
theorem dX9_useFlour_22 : decode cX9_useFlour 22 = .ok (.iload 6, 2) := by decide +kernel
theorem dX9_useFlour_24 : decode cX9_useFlour 24 = .ok (.invokevirtual 84, 3) := by decide +kernel
theorem dX9_useFlour_27 : decode cX9_useFlour 27 = .ok (.istore 7, 2) := by decide +kernel
theorem dX9_useFlour_29 : decode cX9_useFlour 29 = .ok (.aload_n 0, 1) := by decide +kernel
theorem dX9_useFlour_30 : decode cX9_useFlour 30 = .ok (.iload 6, 2) := by decide +kernel
theorem dX9_useFlour_32 : decode cX9_useFlour 32 = .ok (.iconst 0, 1) := by decide +kernel
theorem dX9_useFlour_33 : decode cX9_useFlour 33 = .ok (.invokevirtual 63, 3) := by decide +kernel
theorem dX9_useFlour_36 : decode cX9_useFlour 36 = .ok (.istore 8, 2) := by decide +kernel
theorem dX9_useFlour_38 : decode cX9_useFlour 38 = .ok (.iconst 0, 1) := by decide +kernel
theorem dX9_useFlour_39 : decode cX9_useFlour 39 = .ok (.istore 9, 2) := by decide +kernel
theorem dX9_useFlour_41 : decode cX9_useFlour 41 = .ok (.iconst 0, 1) := by decide +kernel
theorem dX9_useFlour_42 : decode cX9_useFlour 42 = .ok (.istore 10, 2) := by decide +kernel
theorem dX9_useFlour_44 : decode cX9_useFlour 44 = .ok (.iload 10, 2) := by decide +kernel
theorem dX9_useFlour_46 : decode cX9_useFlour 46 = .ok (.iload 7, 2) := by decide +kernel
theorem dX9_useFlour_48 : decode cX9_useFlour 48 = .ok (.if_icmp .ge 34, 3) := by decide +kernel
theorem dX9_useFlour_51 : decode cX9_useFlour 51 = .ok (.aload_n 0, 1) := by decide +kernel
theorem dX9_useFlour_52 : decode cX9_useFlour 52 = .ok (.iload 6, 2) := by decide +kernel
theorem dX9_useFlour_54 : decode cX9_useFlour 54 = .ok (.invokevirtual 98, 3) := by decide +kernel
theorem dX9_useFlour_57 : decode cX9_useFlour 57 = .ok (.istore 11, 2) := by decide +kernel
theorem dX9_useFlour_59 : decode cX9_useFlour 59 = .ok (.iload 5, 2) := by decide +kernel
theorem dX9_useFlour_61 : decode cX9_useFlour 61 = .ok (.iload 11, 2) := by decide +kernel
theorem dX9_useFlour_63 : decode cX9_useFlour 63 = .ok (.iadd, 1) := by decide +kernel
theorem dX9_useFlour_64 : decode cX9_useFlour 64 = .ok (.istore 5, 2) := by decide +kernel
theorem dX9_useFlour_66 : decode cX9_useFlour 66 = .ok (.iload 9, 2) := by decide +kernel
theorem dX9_useFlour_68 : decode cX9_useFlour 68 = .ok (.iload 11, 2) := by decide +kernel
theorem dX9_useFlour_70 : decode cX9_useFlour 70 = .ok (.iload 8, 2) := by decide +kernel
theorem dX9_useFlour_72 : decode cX9_useFlour 72 = .ok (.isub, 1) := by decide +kernel
theorem dX9_useFlour_73 : decode cX9_useFlour 73 = .ok (.iadd, 1) := by decide +kernel
theorem dX9_useFlour_74 : decode cX9_useFlour 74 = .ok (.istore 9, 2) := by decide +kernel
theorem dX9_useFlour_76 : decode cX9_useFlour 76 = .ok (.iinc 10 1, 3) := by decide +kernel
theorem dX9_useFlour_79 : decode cX9_useFlour 79 = .ok (.goto (-35), 3) := by decide +kernel
theorem dX9_useFlour_82 : decode cX9_useFlour 82 = .ok (.iload 7, 2) := by decide +kernel
theorem dX9_useFlour_84 : decode cX9_useFlour 84 = .ok (.aload_n 0, 1) := by decide +kernel
theorem dX9_useFlour_85 : decode cX9_useFlour 85 = .ok (.iload_n 2, 1) := by decide +kernel
theorem dX9_useFlour_86 : decode cX9_useFlour 86 = .ok (.iload 6, 2) := by decide +kernel
theorem dX9_useFlour_88 : decode cX9_useFlour 88 = .ok (.invokevirtual 77, 3) := by decide +kernel
theorem dX9_useFlour_91 : decode cX9_useFlour 91 = .ok (.iload_n 3, 1) := by decide +kernel
theorem dX9_useFlour_92 : decode cX9_useFlour 92 = .ok (.imul, 1) := by decide +kernel
theorem dX9_useFlour_93 : decode cX9_useFlour 93 = .ok (.isub, 1) := by decide +kernel
theorem dX9_useFlour_94 : decode cX9_useFlour 94 = .ok (.iload 8, 2) := by decide +kernel
theorem dX9_useFlour_96 : decode cX9_useFlour 96 = .ok (.imul, 1) := by decide +kernel
theorem dX9_useFlour_97 : decode cX9_useFlour 97 = .ok (.istore 10, 2) := by decide +kernel
theorem dX9_useFlour_99 : decode cX9_useFlour 99 = .ok (.aload_n 0, 1) := by decide +kernel
theorem dX9_useFlour_100 : decode cX9_useFlour 100 = .ok (.iload 6, 2) := by decide +kernel
theorem dX9_useFlour_102 : decode cX9_useFlour 102 = .ok (.iconst 2, 1) := by decide +kernel
theorem dX9_useFlour_103 : decode cX9_useFlour 103 = .ok (.iload 9, 2) := by decide +kernel
theorem dX9_useFlour_105 : decode cX9_useFlour 105 = .ok (.invokevirtual 91, 3) := by decide +kernel
theorem dX9_useFlour_108 : decode cX9_useFlour 108 = .ok (.aload_n 0, 1) := by decide +kernel
theorem dX9_useFlour_109 : decode cX9_useFlour 109 = .ok (.iload 6, 2) := by decide +kernel
theorem dX9_useFlour_111 : decode cX9_useFlour 111 = .ok (.iconst 3, 1) := by decide +kernel
theorem dX9_useFlour_112 : decode cX9_useFlour 112 = .ok (.iload 10, 2) := by decide +kernel
theorem dX9_useFlour_114 : decode cX9_useFlour 114 = .ok (.invokevirtual 91, 3) := by decide +kernel
theorem dX9_useFlour_117 : decode cX9_useFlour 117 = .ok (.aload_n 0, 1) := by decide +kernel
theorem dX9_useFlour_118 : decode cX9_useFlour 118 = .ok (.iload_n 1, 1) := by decide +kernel
theorem dX9_useFlour_119 : decode cX9_useFlour 119 = .ok (.bipush 6, 2) := by decide +kernel
theorem dX9_useFlour_121 : decode cX9_useFlour 121 = .ok (.aload_n 0, 1) := by decide +kernel
theorem dX9_useFlour_122 : decode cX9_useFlour 122 = .ok (.iload_n 1, 1) := by decide +kernel
theorem dX9_useFlour_123 : decode cX9_useFlour 123 = .ok (.bipush 6, 2) := by decide +kernel
theorem dX9_useFlour_125 : decode cX9_useFlour 125 = .ok (.invokevirtual 101, 3) := by decide +kernel
theorem dX9_useFlour_128 : decode cX9_useFlour 128 = .ok (.iload 9, 2) := by decide +kernel
theorem dX9_useFlour_130 : decode cX9_useFlour 130 = .ok (.iadd, 1) := by decide +kernel
theorem dX9_useFlour_131 : decode cX9_useFlour 131 = .ok (.invokevirtual 104, 3) := by decide +kernel
theorem dX9_useFlour_134 : decode cX9_useFlour 134 = .ok (.aload_n 0, 1) := by decide +kernel
theorem dX9_useFlour_135 : decode cX9_useFlour 135 = .ok (.iload_n 1, 1) := by decide +kernel
theorem dX9_useFlour_136 : decode cX9_useFlour 136 = .ok (.bipush 7, 2) := by decide +kernel
theorem dX9_useFlour_138 : decode cX9_useFlour 138 = .ok (.aload_n 0, 1) := by decide +kernel
theorem dX9_useFlour_139 : decode cX9_useFlour 139 = .ok (.iload_n 1, 1) := by decide +kernel
theorem dX9_useFlour_140 : decode cX9_useFlour 140 = .ok (.bipush 7, 2) := by decide +kernel
theorem dX9_useFlour_142 : decode cX9_useFlour 142 = .ok (.invokevirtual 101, 3) := by decide +kernel
theorem dX9_useFlour_145 : decode cX9_useFlour 145 = .ok (.iload 10, 2) := by decide +kernel
theorem dX9_useFlour_147 : decode cX9_useFlour 147 = .ok (.iadd, 1) := by decide +kernel
theorem dX9_useFlour_148 : decode cX9_useFlour 148 = .ok (.invokevirtual 104, 3) := by decide +kernel
theorem dX9_useFlour_151 : decode cX9_useFlour 151 = .ok (.iinc 6 1, 3) := by decide +kernel
theorem dX9_useFlour_154 : decode cX9_useFlour 154 = .ok (.goto (-148), 3) := by decide +kernel
theorem dX9_useFlour_157 : decode cX9_useFlour 157 = .ok (.iload 5, 2) := by decide +kernel
theorem dX9_useFlour_159 : decode cX9_useFlour 159 = .ok (.ireturn, 1) := by decide +kernel
def fX9_useFlour_L44 (p1 : Int32) (p2 : Int32) (p3 : Int32) (y2 : Int32) (k6 : Int32 → Int32 → bM → Option (Int32 × bM)) (r6 : Int32) (r8 : Int32) (k44 : Int32 → Int32 → Int32 → bM → Option (Int32 × bM)) (y9 : Int32) (y10 : Int32) (y11 : Int32) (v12 : bM) : Option (Int32 × bM) :=
  (if r6 ≤ y11 then (bnr (fX9_amount p2 y2 v12) fun r15 => nm ((r6 - (r15 * p3)) * r8) fun x16 => bnw (fX9_addToFlour y2 2 y10 v12) fun w18 => bnw (fX9_addToFlour y2 3 x16 w18) fun w20 => bnr (fX9_batch p1 6 w20) fun r22 => bnw (fX9_putBatch p1 6 (r22 + y10) w20) fun w24 => bnr (fX9_batch p1 7 w24) fun r26 => bnw (fX9_putBatch p1 7 (r26 + x16) w24) fun w28 => nm (y2 + 1) fun x29 => k6 y9 x29 w28) else (bnd (fX9_takeUnit y2 v12) fun r32 w31 => nm (y9 + r32) fun x33 => nm (y10 + (r32 - r8)) fun x34 => nm (y11 + 1) fun x35 => k44 x33 x34 x35 w31))
def fX9_useFlour_L6 (p1 : Int32) (p2 : Int32) (p3 : Int32) (p4 : Int32) (k6 : Int32 → Int32 → bM → Option (Int32 × bM)) (y1 : Int32) (y2 : Int32) (v3 : bM) : Option (Int32 × bM) :=
  (if (v3 (710 + (5 : Int32).toNatClampNeg)) ≤ y2 then (some (y1, v3)) else (bnr (fX9_used p2 p3 p4 y2 v3) fun r6 => bnr (fX9_flour y2 0 v3) fun r8 => lp (fX9_useFlour_L44 p1 p2 p3 y2 k6 r6 r8) (fun _ _ _ _ => none) lpN y1 0 0 v3))
def fX9_useFlour (p1 : Int32) (p2 : Int32) (p3 : Int32) (p4 : Int32) (v : bM) : Option (Int32 × bM) :=
  lp (fX9_useFlour_L6 p1 p2 p3 p4) (fun _ _ _ => none) lpN 0 0 v
set_option maxRecDepth 100000 in
set_option maxHeartbeats 4000000 in
theorem mX9_useFlour {l : Launch} {p1 : Int32} {p2 : Int32} {p3 : Int32} {p4 : Int32} {v : bM} {r0 : Int32} {w0 : bM} (hf : fX9_useFlour p1 p2 p3 p4 v = some (r0, w0)) : bMet l yX9_useFlour cX9_useFlour 12 (some .int) 4 0 0 LMo (fun E a => [.ref a, .int p1, .int p2, .int p3, .int p4]) v w0 (fun _ => some (.int r0)) := by
  refine bk_start (by decide +kernel) wfMo (fun _ _ => Nat.le_of_ble_eq_true rfl) ?_
  intro p e s m args below meth c D E a ls H locs X hr hl hB
  have hx := X.1
  have hb := X.2.1
  have hown := X.2.2.2.1
  have hts := X.2.2.2.2.1
  have hl : lv_has ls 12 [(0, .ref a), (1, .int p1), (2, .int p2), (3, .int p3), (4, .int p4)] := hl
  have hf := (fX9_useFlour.eq_1 p1 p2 p3 p4 v).symm.trans hf
  refine lv_iconst (v := 0) hx hb dX9_useFlour_0 (by decide) ?_
  refine lv_istore (lv' := [(5, .int 0), (0, .ref a), (1, .int p1), (2, .int p2), (3, .int p3), (4, .int p4)]) hx hb dX9_useFlour_1 hl (by decide) rfl (fun ls hl => ?_)
  refine lv_iconst (v := 0) hx hb dX9_useFlour_3 (by decide) ?_
  refine lv_istore (lv' := [(6, .int 0), (5, .int 0), (0, .ref a), (1, .int p1), (2, .int p2), (3, .int p3), (4, .int p4)]) hx hb dX9_useFlour_4 hl (by decide) rfl (fun ls hl => ?_)
  have hL6 : ∀ (n6 : Nat) (y1 y2 : Int32) (v3 : bM) (H : Heap) (locs : List Loc) (ls : Array Slot), lp (fX9_useFlour_L6 p1 p2 p3 p4) (fun _ _ _ => none) n6 y1 y2 v3 = some (r0, w0) → bB D E LMo a v3 s H locs → lv_has ls 12 [(0, .ref a), (1, .int p1), (2, .int p2), (3, .int p3), (4, .int p4), (5, .int y1), (6, .int y2)] → W p l e (rmOf 4 0 0) s m args below meth c H locs 0 0 (bQ below D E LMo a w0 (some (.int r0)) args s 0 0) (F0 m 6 ls []) := by
    intro n6
    induction n6 with
    | zero => intro y1 y2 v3 H locs ls hf; cases (show (none : Option (Int32 × bM)) = some (r0, w0) from hf)
    | succ n6 ih6 =>
      intro y1 y2 v3 H locs ls hf hB hl
      have hf := (fX9_useFlour_L6.eq_1 p1 p2 p3 p4 (lp (fX9_useFlour_L6 p1 p2 p3 p4) (fun _ _ _ => none) n6) y1 y2 v3).symm.trans (show fX9_useFlour_L6 p1 p2 p3 p4 (lp (fX9_useFlour_L6 p1 p2 p3 p4) (fun _ _ _ => none) n6) y1 y2 v3 = some (r0, w0) from hf)
      refine lv_iload hx hb dX9_useFlour_6 (lv_at hl 6 rfl) ?_
      refine lv_aload_n hx hb dX9_useFlour_8 rfl (lv_at hl 0 rfl) ?_
      refine bk_getR X hB kl_X9 0 lc_Mo_0 5 (by decide) rfl wm_1868 dX9_useFlour_9 ?_
      refine lv_iconst (v := 5) hx hb dX9_useFlour_12 (by decide) ?_
      refine bk_ald X hB 2 lc_Mo_2 (vp_c 5 496 rfl) dX9_useFlour_13 ?_
      refine lv_icmp_ge (tgt := 157) hx hb dX9_useFlour_14 (by decide) (fun c4 => ?_) (fun c4 => ?_)
      · have hf := (if_pos c4).symm.trans hf
        refine lv_iload hx hb dX9_useFlour_157 (lv_at hl 5 rfl) ?_
        exact bk_iW X hr rfl hf hB (Nat.le_of_ble_eq_true rfl) (Nat.le_of_ble_eq_true rfl) dX9_useFlour_159
      · have hf := (if_neg c4).symm.trans hf
        refine lv_aload_n hx hb dX9_useFlour_17 rfl (lv_at hl 0 rfl) ?_
        refine lv_iload_n hx hb dX9_useFlour_18 rfl (lv_at hl 2 rfl) ?_
        refine lv_iload_n hx hb dX9_useFlour_19 rfl (lv_at hl 3 rfl) ?_
        refine lv_iload hx hb dX9_useFlour_20 (lv_at hl 4 rfl) ?_
        refine lv_iload hx hb dX9_useFlour_22 (lv_at hl 6 rfl) ?_
        obtain ⟨r6, hc5, hf⟩ := bnr_some hf
        refine bk_all hB (fun h1 h2 h3 => bk_runV X (Av := [.int p2, .int p3, .int p4, .int y2]) (rest := []) (mX9_used hc5) yv_X9_used wm_1778 ⟨Nat.le_of_ble_eq_true rfl, Nat.le_of_ble_eq_true rfl⟩ rfl rfl hl.1 kl_X9.1 (hB.1.obj lc_Mo_0) h1 h2 h3 (Nat.le_of_ble_eq_true rfl) ⟨Nat.le_of_ble_eq_true rfl, Nat.le_of_ble_eq_true rfl⟩ dX9_useFlour_24) (fun H locs hB => ?_)
        refine W.eq (g2 := F0 m 27 ls [.int r6]) rfl ?_
        refine lv_istore (lv' := [(7, .int r6), (0, .ref a), (1, .int p1), (2, .int p2), (3, .int p3), (4, .int p4), (5, .int y1), (6, .int y2)]) hx hb dX9_useFlour_27 hl (by decide) rfl (fun ls hl => ?_)
        refine lv_aload_n hx hb dX9_useFlour_29 rfl (lv_at hl 1 rfl) ?_
        refine lv_iload hx hb dX9_useFlour_30 (lv_at hl 7 rfl) ?_
        refine lv_iconst (v := 0) hx hb dX9_useFlour_32 (by decide) ?_
        obtain ⟨r8, hc7, hf⟩ := bnr_some hf
        refine bk_all hB (fun h1 h2 h3 => bk_runV X (Av := [.int y2, .int 0]) (rest := []) (mX9_flour hc7) yv_X9_flour wm_1758 ⟨Nat.le_of_ble_eq_true rfl, Nat.le_of_ble_eq_true rfl⟩ rfl rfl hl.1 kl_X9.1 (hB.1.obj lc_Mo_0) h1 h2 h3 (Nat.le_of_ble_eq_true rfl) ⟨Nat.le_of_ble_eq_true rfl, Nat.le_of_ble_eq_true rfl⟩ dX9_useFlour_33) (fun H locs hB => ?_)
        refine W.eq (g2 := F0 m 36 ls [.int r8]) rfl ?_
        refine lv_istore (lv' := [(8, .int r8), (7, .int r6), (0, .ref a), (1, .int p1), (2, .int p2), (3, .int p3), (4, .int p4), (5, .int y1), (6, .int y2)]) hx hb dX9_useFlour_36 hl (by decide) rfl (fun ls hl => ?_)
        refine lv_iconst (v := 0) hx hb dX9_useFlour_38 (by decide) ?_
        refine lv_istore (lv' := [(9, .int 0), (8, .int r8), (7, .int r6), (0, .ref a), (1, .int p1), (2, .int p2), (3, .int p3), (4, .int p4), (5, .int y1), (6, .int y2)]) hx hb dX9_useFlour_39 hl (by decide) rfl (fun ls hl => ?_)
        refine lv_iconst (v := 0) hx hb dX9_useFlour_41 (by decide) ?_
        refine lv_istore (lv' := [(10, .int 0), (9, .int 0), (8, .int r8), (7, .int r6), (0, .ref a), (1, .int p1), (2, .int p2), (3, .int p3), (4, .int p4), (5, .int y1), (6, .int y2)]) hx hb dX9_useFlour_42 hl (by decide) rfl (fun ls hl => ?_)
        have hL44 : ∀ (n44 : Nat) (y9 y10 y11 : Int32) (v12 : bM) (H : Heap) (locs : List Loc) (ls : Array Slot), lp (fX9_useFlour_L44 p1 p2 p3 y2 (lp (fX9_useFlour_L6 p1 p2 p3 p4) (fun _ _ _ => none) n6) r6 r8) (fun _ _ _ _ => none) n44 y9 y10 y11 v12 = some (r0, w0) → bB D E LMo a v12 s H locs → lv_has ls 12 [(0, .ref a), (1, .int p1), (2, .int p2), (3, .int p3), (4, .int p4), (5, .int y9), (6, .int y2), (7, .int r6), (8, .int r8), (9, .int y10), (10, .int y11)] → W p l e (rmOf 4 0 0) s m args below meth c H locs 0 0 (bQ below D E LMo a w0 (some (.int r0)) args s 0 0) (F0 m 44 ls []) := by
          intro n44
          induction n44 with
          | zero => intro y9 y10 y11 v12 H locs ls hf; cases (show (none : Option (Int32 × bM)) = some (r0, w0) from hf)
          | succ n44 ih44 =>
            intro y9 y10 y11 v12 H locs ls hf hB hl
            have hf := (fX9_useFlour_L44.eq_1 p1 p2 p3 y2 (lp (fX9_useFlour_L6 p1 p2 p3 p4) (fun _ _ _ => none) n6) r6 r8 (lp (fX9_useFlour_L44 p1 p2 p3 y2 (lp (fX9_useFlour_L6 p1 p2 p3 p4) (fun _ _ _ => none) n6) r6 r8) (fun _ _ _ _ => none) n44) y9 y10 y11 v12).symm.trans (show fX9_useFlour_L44 p1 p2 p3 y2 (lp (fX9_useFlour_L6 p1 p2 p3 p4) (fun _ _ _ => none) n6) r6 r8 (lp (fX9_useFlour_L44 p1 p2 p3 y2 (lp (fX9_useFlour_L6 p1 p2 p3 p4) (fun _ _ _ => none) n6) r6 r8) (fun _ _ _ _ => none) n44) y9 y10 y11 v12 = some (r0, w0) from hf)
            refine lv_iload hx hb dX9_useFlour_44 (lv_at hl 10 rfl) ?_
            refine lv_iload hx hb dX9_useFlour_46 (lv_at hl 7 rfl) ?_
            refine lv_icmp_ge (tgt := 82) hx hb dX9_useFlour_48 (by decide) (fun c13 => ?_) (fun c13 => ?_)
            · have hf := (if_pos c13).symm.trans hf
              refine lv_iload hx hb dX9_useFlour_82 (lv_at hl 7 rfl) ?_
              refine lv_aload_n hx hb dX9_useFlour_84 rfl (lv_at hl 0 rfl) ?_
              refine lv_iload_n hx hb dX9_useFlour_85 rfl (lv_at hl 2 rfl) ?_
              refine lv_iload hx hb dX9_useFlour_86 (lv_at hl 6 rfl) ?_
              obtain ⟨r15, hc14, hf⟩ := bnr_some hf
              refine bk_all hB (fun h1 h2 h3 => bk_runV X (Av := [.int p2, .int y2]) (rest := [.int r6]) (mX9_amount hc14) yv_X9_amount wm_1770 ⟨Nat.le_of_ble_eq_true rfl, Nat.le_of_ble_eq_true rfl⟩ rfl rfl hl.1 kl_X9.1 (hB.1.obj lc_Mo_0) h1 h2 h3 (Nat.le_of_ble_eq_true rfl) ⟨Nat.le_of_ble_eq_true rfl, Nat.le_of_ble_eq_true rfl⟩ dX9_useFlour_88) (fun H locs hB => ?_)
              refine W.eq (g2 := F0 m 91 ls [.int r15, .int r6]) rfl ?_
              refine lv_iload_n hx hb dX9_useFlour_91 rfl (lv_at hl 3 rfl) ?_
              refine lv_imul hx hb dX9_useFlour_92 ?_
              refine lv_isub hx hb dX9_useFlour_93 ?_
              refine lv_iload hx hb dX9_useFlour_94 (lv_at hl 8 rfl) ?_
              refine lv_imul hx hb dX9_useFlour_96 ?_
              refine lv_topi (fun x16 ex16 => ?_)
              have hf := nm_use hf ex16
              refine lv_istore (lv' := [(10, .int x16), (0, .ref a), (1, .int p1), (2, .int p2), (3, .int p3), (4, .int p4), (5, .int y9), (6, .int y2), (7, .int r6), (8, .int r8), (9, .int y10)]) hx hb dX9_useFlour_97 hl (by decide) rfl (fun ls hl => ?_)
              refine lv_aload_n hx hb dX9_useFlour_99 rfl (lv_at hl 1 rfl) ?_
              refine lv_iload hx hb dX9_useFlour_100 (lv_at hl 7 rfl) ?_
              refine lv_iconst (v := 2) hx hb dX9_useFlour_102 (by decide) ?_
              refine lv_iload hx hb dX9_useFlour_103 (lv_at hl 10 rfl) ?_
              obtain ⟨w18, hc17, hf⟩ := bnw_some hf
              refine bk_all hB (fun h1 h2 h3 => bk_runV X (Av := [.int y2, .int 2, .int y10]) (rest := []) (mX9_addToFlour hc17) yv_X9_addToFlour wm_1798 ⟨Nat.le_of_ble_eq_true rfl, Nat.le_of_ble_eq_true rfl⟩ rfl rfl hl.1 kl_X9.1 (hB.1.obj lc_Mo_0) h1 h2 h3 (Nat.le_of_ble_eq_true rfl) ⟨Nat.le_of_ble_eq_true rfl, Nat.le_of_ble_eq_true rfl⟩ dX9_useFlour_105) (fun H locs hB => ?_)
              refine W.eq (g2 := F0 m 108 ls []) rfl ?_
              refine lv_aload_n hx hb dX9_useFlour_108 rfl (lv_at hl 1 rfl) ?_
              refine lv_iload hx hb dX9_useFlour_109 (lv_at hl 7 rfl) ?_
              refine lv_iconst (v := 3) hx hb dX9_useFlour_111 (by decide) ?_
              refine lv_iload hx hb dX9_useFlour_112 (lv_at hl 0 rfl) ?_
              obtain ⟨w20, hc19, hf⟩ := bnw_some hf
              refine bk_all hB (fun h1 h2 h3 => bk_runV X (Av := [.int y2, .int 3, .int x16]) (rest := []) (mX9_addToFlour hc19) yv_X9_addToFlour wm_1798 ⟨Nat.le_of_ble_eq_true rfl, Nat.le_of_ble_eq_true rfl⟩ rfl rfl hl.1 kl_X9.1 (hB.1.obj lc_Mo_0) h1 h2 h3 (Nat.le_of_ble_eq_true rfl) ⟨Nat.le_of_ble_eq_true rfl, Nat.le_of_ble_eq_true rfl⟩ dX9_useFlour_114) (fun H locs hB => ?_)
              refine W.eq (g2 := F0 m 117 ls []) rfl ?_
              refine lv_aload_n hx hb dX9_useFlour_117 rfl (lv_at hl 1 rfl) ?_
              refine lv_iload_n hx hb dX9_useFlour_118 rfl (lv_at hl 2 rfl) ?_
              refine lv_bipush (v := 6) hx hb dX9_useFlour_119 (by decide) ?_
              refine lv_aload_n hx hb dX9_useFlour_121 rfl (lv_at hl 1 rfl) ?_
              refine lv_iload_n hx hb dX9_useFlour_122 rfl (lv_at hl 2 rfl) ?_
              refine lv_bipush (v := 6) hx hb dX9_useFlour_123 (by decide) ?_
              obtain ⟨r22, hc21, hf⟩ := bnr_some hf
              refine bk_all hB (fun h1 h2 h3 => bk_runV X (Av := [.int p1, .int 6]) (rest := [.int 6, .int p1, .ref a]) (mX9_batch hc21) yv_X9_batch wm_1830 ⟨Nat.le_of_ble_eq_true rfl, Nat.le_of_ble_eq_true rfl⟩ rfl rfl hl.1 kl_X9.1 (hB.1.obj lc_Mo_0) h1 h2 h3 (Nat.le_of_ble_eq_true rfl) ⟨Nat.le_of_ble_eq_true rfl, Nat.le_of_ble_eq_true rfl⟩ dX9_useFlour_125) (fun H locs hB => ?_)
              refine W.eq (g2 := F0 m 128 ls [.int r22, .int 6, .int p1, .ref a]) rfl ?_
              refine lv_iload hx hb dX9_useFlour_128 (lv_at hl 10 rfl) ?_
              refine lv_iadd hx hb dX9_useFlour_130 ?_
              obtain ⟨w24, hc23, hf⟩ := bnw_some hf
              refine bk_all hB (fun h1 h2 h3 => bk_runV X (Av := [.int p1, .int 6, .int (r22 + y10)]) (rest := []) (mX9_putBatch hc23) yv_X9_putBatch wm_1818 ⟨Nat.le_of_ble_eq_true rfl, Nat.le_of_ble_eq_true rfl⟩ rfl rfl hl.1 kl_X9.1 (hB.1.obj lc_Mo_0) h1 h2 h3 (Nat.le_of_ble_eq_true rfl) ⟨Nat.le_of_ble_eq_true rfl, Nat.le_of_ble_eq_true rfl⟩ dX9_useFlour_131) (fun H locs hB => ?_)
              refine W.eq (g2 := F0 m 134 ls []) rfl ?_
              refine lv_aload_n hx hb dX9_useFlour_134 rfl (lv_at hl 1 rfl) ?_
              refine lv_iload_n hx hb dX9_useFlour_135 rfl (lv_at hl 2 rfl) ?_
              refine lv_bipush (v := 7) hx hb dX9_useFlour_136 (by decide) ?_
              refine lv_aload_n hx hb dX9_useFlour_138 rfl (lv_at hl 1 rfl) ?_
              refine lv_iload_n hx hb dX9_useFlour_139 rfl (lv_at hl 2 rfl) ?_
              refine lv_bipush (v := 7) hx hb dX9_useFlour_140 (by decide) ?_
              obtain ⟨r26, hc25, hf⟩ := bnr_some hf
              refine bk_all hB (fun h1 h2 h3 => bk_runV X (Av := [.int p1, .int 7]) (rest := [.int 7, .int p1, .ref a]) (mX9_batch hc25) yv_X9_batch wm_1830 ⟨Nat.le_of_ble_eq_true rfl, Nat.le_of_ble_eq_true rfl⟩ rfl rfl hl.1 kl_X9.1 (hB.1.obj lc_Mo_0) h1 h2 h3 (Nat.le_of_ble_eq_true rfl) ⟨Nat.le_of_ble_eq_true rfl, Nat.le_of_ble_eq_true rfl⟩ dX9_useFlour_142) (fun H locs hB => ?_)
              refine W.eq (g2 := F0 m 145 ls [.int r26, .int 7, .int p1, .ref a]) rfl ?_
              refine lv_iload hx hb dX9_useFlour_145 (lv_at hl 0 rfl) ?_
              refine lv_iadd hx hb dX9_useFlour_147 ?_
              obtain ⟨w28, hc27, hf⟩ := bnw_some hf
              refine bk_all hB (fun h1 h2 h3 => bk_runV X (Av := [.int p1, .int 7, .int (r26 + x16)]) (rest := []) (mX9_putBatch hc27) yv_X9_putBatch wm_1818 ⟨Nat.le_of_ble_eq_true rfl, Nat.le_of_ble_eq_true rfl⟩ rfl rfl hl.1 kl_X9.1 (hB.1.obj lc_Mo_0) h1 h2 h3 (Nat.le_of_ble_eq_true rfl) ⟨Nat.le_of_ble_eq_true rfl, Nat.le_of_ble_eq_true rfl⟩ dX9_useFlour_148) (fun H locs hB => ?_)
              refine W.eq (g2 := F0 m 151 ls []) rfl ?_
              obtain ⟨x29, ex29⟩ : ∃ y : Int32, y = y2 + 1 := ⟨_, rfl⟩
              have hf := nm_use hf ex29
              refine lv_iinc (v := x29) (lv' := [(6, .int x29), (10, .int x16), (0, .ref a), (1, .int p1), (2, .int p2), (3, .int p3), (4, .int p4), (5, .int y9), (7, .int r6), (8, .int r8), (9, .int y10)]) hx hb dX9_useFlour_151 hl (k := 7) rfl (by rw [ex29]; rfl) (by decide) rfl (fun ls hl => ?_)
              refine lv_goto (tgt := 6) hx hb dX9_useFlour_154 (by decide) ?_
              exact ih6 y9 x29 w28 H locs ls hf hB (lv_sub hl [2, 3, 4, 5, 6, 7, 0] rfl)
            · have hf := (if_neg c13).symm.trans hf
              refine lv_aload_n hx hb dX9_useFlour_51 rfl (lv_at hl 0 rfl) ?_
              refine lv_iload hx hb dX9_useFlour_52 (lv_at hl 6 rfl) ?_
              obtain ⟨r32, w31, hc30, hf⟩ := bnd_some hf
              refine bk_all hB (fun h1 h2 h3 => bk_runV X (Av := [.int y2]) (rest := []) (mX9_takeUnit hc30) yv_X9_takeUnit wm_1826 ⟨Nat.le_of_ble_eq_true rfl, Nat.le_of_ble_eq_true rfl⟩ rfl rfl hl.1 kl_X9.1 (hB.1.obj lc_Mo_0) h1 h2 h3 (Nat.le_of_ble_eq_true rfl) ⟨Nat.le_of_ble_eq_true rfl, Nat.le_of_ble_eq_true rfl⟩ dX9_useFlour_54) (fun H locs hB => ?_)
              refine W.eq (g2 := F0 m 57 ls [.int r32]) rfl ?_
              refine lv_istore (lv' := [(11, .int r32), (0, .ref a), (1, .int p1), (2, .int p2), (3, .int p3), (4, .int p4), (5, .int y9), (6, .int y2), (7, .int r6), (8, .int r8), (9, .int y10), (10, .int y11)]) hx hb dX9_useFlour_57 hl (by decide) rfl (fun ls hl => ?_)
              refine lv_iload hx hb dX9_useFlour_59 (lv_at hl 6 rfl) ?_
              refine lv_iload hx hb dX9_useFlour_61 (lv_at hl 0 rfl) ?_
              refine lv_iadd hx hb dX9_useFlour_63 ?_
              refine lv_topi (fun x33 ex33 => ?_)
              have hf := nm_use hf ex33
              refine lv_istore (lv' := [(5, .int x33), (11, .int r32), (0, .ref a), (1, .int p1), (2, .int p2), (3, .int p3), (4, .int p4), (6, .int y2), (7, .int r6), (8, .int r8), (9, .int y10), (10, .int y11)]) hx hb dX9_useFlour_64 hl (by decide) rfl (fun ls hl => ?_)
              refine lv_iload hx hb dX9_useFlour_66 (lv_at hl 10 rfl) ?_
              refine lv_iload hx hb dX9_useFlour_68 (lv_at hl 1 rfl) ?_
              refine lv_iload hx hb dX9_useFlour_70 (lv_at hl 9 rfl) ?_
              refine lv_isub hx hb dX9_useFlour_72 ?_
              refine lv_iadd hx hb dX9_useFlour_73 ?_
              refine lv_topi (fun x34 ex34 => ?_)
              have hf := nm_use hf ex34
              refine lv_istore (lv' := [(9, .int x34), (5, .int x33), (11, .int r32), (0, .ref a), (1, .int p1), (2, .int p2), (3, .int p3), (4, .int p4), (6, .int y2), (7, .int r6), (8, .int r8), (10, .int y11)]) hx hb dX9_useFlour_74 hl (by decide) rfl (fun ls hl => ?_)
              obtain ⟨x35, ex35⟩ : ∃ y : Int32, y = y11 + 1 := ⟨_, rfl⟩
              have hf := nm_use hf ex35
              refine lv_iinc (v := x35) (lv' := [(10, .int x35), (9, .int x34), (5, .int x33), (11, .int r32), (0, .ref a), (1, .int p1), (2, .int p2), (3, .int p3), (4, .int p4), (6, .int y2), (7, .int r6), (8, .int r8)]) hx hb dX9_useFlour_76 hl (k := 11) rfl (by rw [ex35]; rfl) (by decide) rfl (fun ls hl => ?_)
              refine lv_goto (tgt := 44) hx hb dX9_useFlour_79 (by decide) ?_
              exact ih44 x33 x34 x35 w31 H locs ls hf hB (lv_sub hl [4, 5, 6, 7, 8, 2, 9, 10, 11, 1, 0] rfl)
        exact hL44 lpN y1 0 0 v3 H locs ls hf hB (lv_sub hl [4, 5, 6, 7, 8, 9, 10, 3, 2, 1, 0] rfl)
  exact hL6 lpN 0 0 v H locs ls hf hB (lv_sub hl [2, 3, 4, 5, 6, 1, 0] rfl)
theorem yv_X9_useFlour : bYv yX9_useFlour RX9 cX9_useFlour 12 (some .int) 4 := ⟨⟨rfl, by decide, by decide, rfl⟩, wm_1824, wp_64, wm_17, wm_1825⟩

theorem dX9_doBake_0 : decode cX9_doBake 0 = .ok (.aload_n 0, 1) := by decide +kernel
theorem dX9_doBake_1 : decode cX9_doBake 1 = .ok (.getfield 17, 3) := by decide +kernel
theorem dX9_doBake_4 : decode cX9_doBake 4 = .ok (.bipush 7, 2) := by decide +kernel
theorem dX9_doBake_6 : decode cX9_doBake 6 = .ok (.iaload, 1) := by decide +kernel
theorem dX9_doBake_7 : decode cX9_doBake 7 = .ok (.istore 6, 2) := by decide +kernel
theorem dX9_doBake_9 : decode cX9_doBake 9 = .ok (.iconst 0, 1) := by decide +kernel
theorem dX9_doBake_10 : decode cX9_doBake 10 = .ok (.istore 7, 2) := by decide +kernel
theorem dX9_doBake_12 : decode cX9_doBake 12 = .ok (.iload 7, 2) := by decide +kernel
theorem dX9_doBake_14 : decode cX9_doBake 14 = .ok (.bipush 11, 2) := by decide +kernel
theorem dX9_doBake_16 : decode cX9_doBake 16 = .ok (.if_icmp .ge 18, 3) := by decide +kernel
theorem dX9_doBake_19 : decode cX9_doBake 19 = .ok (.aload_n 0, 1) := by decide +kernel
theorem dX9_doBake_20 : decode cX9_doBake 20 = .ok (.iload 6, 2) := by decide +kernel
theorem dX9_doBake_22 : decode cX9_doBake 22 = .ok (.iload 7, 2) := by decide +kernel
theorem dX9_doBake_24 : decode cX9_doBake 24 = .ok (.iconst 0, 1) := by decide +kernel
theorem dX9_doBake_25 : decode cX9_doBake 25 = .ok (.invokevirtual 104, 3) := by decide +kernel
theorem dX9_doBake_28 : decode cX9_doBake 28 = .ok (.iinc 7 1, 3) := by decide +kernel
theorem dX9_doBake_31 : decode cX9_doBake 31 = .ok (.goto (-19), 3) := by decide +kernel
theorem dX9_doBake_34 : decode cX9_doBake 34 = .ok (.aload_n 0, 1) := by decide +kernel
theorem dX9_doBake_35 : decode cX9_doBake 35 = .ok (.iload 6, 2) := by decide +kernel
theorem dX9_doBake_37 : decode cX9_doBake 37 = .ok (.iload_n 1, 1) := by decide +kernel
theorem dX9_doBake_38 : decode cX9_doBake 38 = .ok (.iload_n 2, 1) := by decide +kernel
theorem dX9_doBake_39 : decode cX9_doBake 39 = .ok (.iload 4, 2) := by decide +kernel
theorem dX9_doBake_41 : decode cX9_doBake 41 = .ok (.invokevirtual 107, 3) := by decide +kernel
theorem dX9_doBake_44 : decode cX9_doBake 44 = .ok (.istore 7, 2) := by decide +kernel
theorem dX9_doBake_46 : decode cX9_doBake 46 = .ok (.aload_n 0, 1) := by decide +kernel
theorem dX9_doBake_47 : decode cX9_doBake 47 = .ok (.invokevirtual 110, 3) := by decide +kernel
theorem dX9_doBake_50 : decode cX9_doBake 50 = .ok (.istore 8, 2) := by decide +kernel
theorem dX9_doBake_52 : decode cX9_doBake 52 = .ok (.aload_n 0, 1) := by decide +kernel
theorem dX9_doBake_53 : decode cX9_doBake 53 = .ok (.getfield 17, 3) := by decide +kernel
theorem dX9_doBake_56 : decode cX9_doBake 56 = .ok (.iconst 4, 1) := by decide +kernel
theorem dX9_doBake_57 : decode cX9_doBake 57 = .ok (.iaload, 1) := by decide +kernel
theorem dX9_doBake_58 : decode cX9_doBake 58 = .ok (.aload_n 0, 1) := by decide +kernel
theorem dX9_doBake_59 : decode cX9_doBake 59 = .ok (.getfield 17, 3) := by decide +kernel
theorem dX9_doBake_62 : decode cX9_doBake 62 = .ok (.bipush 37, 2) := by decide +kernel
theorem dX9_doBake_64 : decode cX9_doBake 64 = .ok (.iload 8, 2) := by decide +kernel
theorem dX9_doBake_66 : decode cX9_doBake 66 = .ok (.iadd, 1) := by decide +kernel
theorem dX9_doBake_67 : decode cX9_doBake 67 = .ok (.iaload, 1) := by decide +kernel
theorem dX9_doBake_68 : decode cX9_doBake 68 = .ok (.invokestatic 113, 3) := by decide +kernel
theorem dX9_doBake_71 : decode cX9_doBake 71 = .ok (.istore 9, 2) := by decide +kernel
theorem dX9_doBake_73 : decode cX9_doBake 73 = .ok (.aload_n 0, 1) := by decide +kernel
theorem dX9_doBake_74 : decode cX9_doBake 74 = .ok (.iload_n 1, 1) := by decide +kernel
theorem dX9_doBake_75 : decode cX9_doBake 75 = .ok (.iconst 1, 1) := by decide +kernel
theorem dX9_doBake_76 : decode cX9_doBake 76 = .ok (.invokevirtual 71, 3) := by decide +kernel
theorem dX9_doBake_79 : decode cX9_doBake 79 = .ok (.iload_n 2, 1) := by decide +kernel
theorem dX9_doBake_80 : decode cX9_doBake 80 = .ok (.imul, 1) := by decide +kernel
theorem dX9_doBake_81 : decode cX9_doBake 81 = .ok (.istore 10, 2) := by decide +kernel
theorem dX9_doBake_83 : decode cX9_doBake 83 = .ok (.iload 10, 2) := by decide +kernel
theorem dX9_doBake_85 : decode cX9_doBake 85 = .ok (.iload 5, 2) := by decide +kernel
theorem dX9_doBake_87 : decode cX9_doBake 87 = .ok (.iadd, 1) := by decide +kernel
theorem dX9_doBake_88 : decode cX9_doBake 88 = .ok (.istore 11, 2) := by decide +kernel
theorem dX9_doBake_90 : decode cX9_doBake 90 = .ok (.aload_n 0, 1) := by decide +kernel
theorem dX9_doBake_91 : decode cX9_doBake 91 = .ok (.iload 9, 2) := by decide +kernel
theorem dX9_doBake_93 : decode cX9_doBake 93 = .ok (.iload 11, 2) := by decide +kernel
theorem dX9_doBake_95 : decode cX9_doBake 95 = .ok (.invokevirtual 118, 3) := by decide +kernel
theorem dX9_doBake_98 : decode cX9_doBake 98 = .ok (.istore 12, 2) := by decide +kernel
theorem dX9_doBake_100 : decode cX9_doBake 100 = .ok (.aload_n 0, 1) := by decide +kernel
theorem dX9_doBake_101 : decode cX9_doBake 101 = .ok (.getfield 17, 3) := by decide +kernel
theorem dX9_doBake_104 : decode cX9_doBake 104 = .ok (.bipush 37, 2) := by decide +kernel
theorem dX9_doBake_106 : decode cX9_doBake 106 = .ok (.iload 8, 2) := by decide +kernel
theorem dX9_doBake_108 : decode cX9_doBake 108 = .ok (.iadd, 1) := by decide +kernel
theorem dX9_doBake_109 : decode cX9_doBake 109 = .ok (.iload 9, 2) := by decide +kernel
theorem dX9_doBake_111 : decode cX9_doBake 111 = .ok (.iload 11, 2) := by decide +kernel
theorem dX9_doBake_113 : decode cX9_doBake 113 = .ok (.iadd, 1) := by decide +kernel
theorem dX9_doBake_114 : decode cX9_doBake 114 = .ok (.iastore, 1) := by decide +kernel
theorem dX9_doBake_115 : decode cX9_doBake 115 = .ok (.aload_n 0, 1) := by decide +kernel
theorem dX9_doBake_116 : decode cX9_doBake 116 = .ok (.getfield 17, 3) := by decide +kernel
theorem dX9_doBake_119 : decode cX9_doBake 119 = .ok (.iconst 0, 1) := by decide +kernel
theorem dX9_doBake_120 : decode cX9_doBake 120 = .ok (.dup2, 1) := by decide +kernel
theorem dX9_doBake_121 : decode cX9_doBake 121 = .ok (.iaload, 1) := by decide +kernel
theorem dX9_doBake_122 : decode cX9_doBake 122 = .ok (.iload 12, 2) := by decide +kernel
theorem dX9_doBake_124 : decode cX9_doBake 124 = .ok (.isub, 1) := by decide +kernel
theorem dX9_doBake_125 : decode cX9_doBake 125 = .ok (.iastore, 1) := by decide +kernel
theorem dX9_doBake_126 : decode cX9_doBake 126 = .ok (.aload_n 0, 1) := by decide +kernel
theorem dX9_doBake_127 : decode cX9_doBake 127 = .ok (.getfield 17, 3) := by decide +kernel
theorem dX9_doBake_130 : decode cX9_doBake 130 = .ok (.bipush 10, 2) := by decide +kernel
theorem dX9_doBake_132 : decode cX9_doBake 132 = .ok (.dup2, 1) := by decide +kernel
theorem dX9_doBake_133 : decode cX9_doBake 133 = .ok (.iaload, 1) := by decide +kernel
theorem dX9_doBake_134 : decode cX9_doBake 134 = .ok (.iload 12, 2) := by decide +kernel
theorem dX9_doBake_136 : decode cX9_doBake 136 = .ok (.iadd, 1) := by decide +kernel
theorem dX9_doBake_137 : decode cX9_doBake 137 = .ok (.iastore, 1) := by decide +kernel
theorem dX9_doBake_138 : decode cX9_doBake 138 = .ok (.aload_n 0, 1) := by decide +kernel
theorem dX9_doBake_139 : decode cX9_doBake 139 = .ok (.iload 6, 2) := by decide +kernel
theorem dX9_doBake_141 : decode cX9_doBake 141 = .ok (.iconst 0, 1) := by decide +kernel
theorem dX9_doBake_142 : decode cX9_doBake 142 = .ok (.iload_n 1, 1) := by decide +kernel
theorem dX9_doBake_143 : decode cX9_doBake 143 = .ok (.invokevirtual 104, 3) := by decide +kernel
theorem dX9_doBake_146 : decode cX9_doBake 146 = .ok (.aload_n 0, 1) := by decide +kernel
theorem dX9_doBake_147 : decode cX9_doBake 147 = .ok (.iload 6, 2) := by decide +kernel
theorem dX9_doBake_149 : decode cX9_doBake 149 = .ok (.iconst 1, 1) := by decide +kernel
theorem dX9_doBake_150 : decode cX9_doBake 150 = .ok (.iload_n 2, 1) := by decide +kernel
theorem dX9_doBake_151 : decode cX9_doBake 151 = .ok (.invokevirtual 104, 3) := by decide +kernel
theorem dX9_doBake_154 : decode cX9_doBake 154 = .ok (.aload_n 0, 1) := by decide +kernel
theorem dX9_doBake_155 : decode cX9_doBake 155 = .ok (.iload 6, 2) := by decide +kernel
theorem dX9_doBake_157 : decode cX9_doBake 157 = .ok (.iconst 2, 1) := by decide +kernel
theorem dX9_doBake_158 : decode cX9_doBake 158 = .ok (.iload_n 3, 1) := by decide +kernel
theorem dX9_doBake_159 : decode cX9_doBake 159 = .ok (.invokevirtual 104, 3) := by decide +kernel
theorem dX9_doBake_162 : decode cX9_doBake 162 = .ok (.aload_n 0, 1) := by decide +kernel
theorem dX9_doBake_163 : decode cX9_doBake 163 = .ok (.iload 6, 2) := by decide +kernel
theorem dX9_doBake_165 : decode cX9_doBake 165 = .ok (.iconst 3, 1) := by decide +kernel
theorem dX9_doBake_166 : decode cX9_doBake 166 = .ok (.iload 9, 2) := by decide +kernel
theorem dX9_doBake_168 : decode cX9_doBake 168 = .ok (.invokevirtual 104, 3) := by decide +kernel
theorem dX9_doBake_171 : decode cX9_doBake 171 = .ok (.aload_n 0, 1) := by decide +kernel
theorem dX9_doBake_172 : decode cX9_doBake 172 = .ok (.iload 6, 2) := by decide +kernel
theorem dX9_doBake_174 : decode cX9_doBake 174 = .ok (.iconst 4, 1) := by decide +kernel
theorem dX9_doBake_175 : decode cX9_doBake 175 = .ok (.iload 11, 2) := by decide +kernel
theorem dX9_doBake_177 : decode cX9_doBake 177 = .ok (.invokevirtual 104, 3) := by decide +kernel
theorem dX9_doBake_180 : decode cX9_doBake 180 = .ok (.aload_n 0, 1) := by decide +kernel
theorem dX9_doBake_181 : decode cX9_doBake 181 = .ok (.iload 6, 2) := by decide +kernel
theorem dX9_doBake_183 : decode cX9_doBake 183 = .ok (.iconst 5, 1) := by decide +kernel
theorem dX9_doBake_184 : decode cX9_doBake 184 = .ok (.iload 7, 2) := by decide +kernel
theorem dX9_doBake_186 : decode cX9_doBake 186 = .ok (.iload 12, 2) := by decide +kernel
theorem dX9_doBake_188 : decode cX9_doBake 188 = .ok (.iadd, 1) := by decide +kernel
theorem dX9_doBake_189 : decode cX9_doBake 189 = .ok (.invokevirtual 104, 3) := by decide +kernel
theorem dX9_doBake_192 : decode cX9_doBake 192 = .ok (.aload_n 0, 1) := by decide +kernel
theorem dX9_doBake_193 : decode cX9_doBake 193 = .ok (.iload 6, 2) := by decide +kernel
theorem dX9_doBake_195 : decode cX9_doBake 195 = .ok (.bipush 8, 2) := by decide +kernel
theorem dX9_doBake_197 : decode cX9_doBake 197 = .ok (.iload 12, 2) := by decide +kernel
theorem dX9_doBake_199 : decode cX9_doBake 199 = .ok (.iload 11, 2) := by decide +kernel
theorem dX9_doBake_201 : decode cX9_doBake 201 = .ok (.aload_n 0, 1) := by decide +kernel
theorem dX9_doBake_202 : decode cX9_doBake 202 = .ok (.getfield 17, 3) := by decide +kernel
theorem dX9_doBake_205 : decode cX9_doBake 205 = .ok (.iconst 2, 1) := by decide +kernel
theorem dX9_doBake_206 : decode cX9_doBake 206 = .ok (.iaload, 1) := by decide +kernel
theorem dX9_doBake_207 : decode cX9_doBake 207 = .ok (.imul, 1) := by decide +kernel
theorem dX9_doBake_208 : decode cX9_doBake 208 = .ok (.isub, 1) := by decide +kernel
theorem dX9_doBake_209 : decode cX9_doBake 209 = .ok (.invokevirtual 104, 3) := by decide +kernel
theorem dX9_doBake_212 : decode cX9_doBake 212 = .ok (.aload_n 0, 1) := by decide +kernel
theorem dX9_doBake_213 : decode cX9_doBake 213 = .ok (.iload 6, 2) := by decide +kernel
theorem dX9_doBake_215 : decode cX9_doBake 215 = .ok (.bipush 9, 2) := by decide +kernel
theorem dX9_doBake_217 : decode cX9_doBake 217 = .ok (.iload 5, 2) := by decide +kernel
theorem dX9_doBake_219 : decode cX9_doBake 219 = .ok (.aload_n 0, 1) := by decide +kernel
theorem dX9_doBake_220 : decode cX9_doBake 220 = .ok (.getfield 17, 3) := by decide +kernel
theorem dX9_doBake_223 : decode cX9_doBake 223 = .ok (.iconst 2, 1) := by decide +kernel
theorem dX9_doBake_224 : decode cX9_doBake 224 = .ok (.iaload, 1) := by decide +kernel
theorem dX9_doBake_225 : decode cX9_doBake 225 = .ok (.imul, 1) := by decide +kernel
theorem dX9_doBake_226 : decode cX9_doBake 226 = .ok (.invokevirtual 104, 3) := by decide +kernel
theorem dX9_doBake_229 : decode cX9_doBake 229 = .ok (.aload_n 0, 1) := by decide +kernel
theorem dX9_doBake_230 : decode cX9_doBake 230 = .ok (.iload 6, 2) := by decide +kernel
theorem dX9_doBake_232 : decode cX9_doBake 232 = .ok (.bipush 10, 2) := by decide +kernel
theorem dX9_doBake_234 : decode cX9_doBake 234 = .ok (.iload_n 3, 1) := by decide +kernel
theorem dX9_doBake_235 : decode cX9_doBake 235 = .ok (.aload_n 0, 1) := by decide +kernel
theorem dX9_doBake_236 : decode cX9_doBake 236 = .ok (.iload_n 1, 1) := by decide +kernel
theorem dX9_doBake_237 : decode cX9_doBake 237 = .ok (.invokevirtual 121, 3) := by decide +kernel
theorem dX9_doBake_240 : decode cX9_doBake 240 = .ok (.imul, 1) := by decide +kernel
theorem dX9_doBake_241 : decode cX9_doBake 241 = .ok (.invokevirtual 104, 3) := by decide +kernel
theorem dX9_doBake_244 : decode cX9_doBake 244 = .ok (.aload_n 0, 1) := by decide +kernel
theorem dX9_doBake_245 : decode cX9_doBake 245 = .ok (.getfield 17, 3) := by decide +kernel
theorem dX9_doBake_248 : decode cX9_doBake 248 = .ok (.sipush 208, 3) := by decide +kernel
theorem dX9_doBake_251 : decode cX9_doBake 251 = .ok (.iconst 4, 1) := by decide +kernel
theorem dX9_doBake_252 : decode cX9_doBake 252 = .ok (.iload_n 1, 1) := by decide +kernel
theorem dX9_doBake_253 : decode cX9_doBake 253 = .ok (.imul, 1) := by decide +kernel
theorem dX9_doBake_254 : decode cX9_doBake 254 = .ok (.iadd, 1) := by decide +kernel
theorem dX9_doBake_255 : decode cX9_doBake 255 = .ok (.iconst 3, 1) := by decide +kernel
theorem dX9_doBake_256 : decode cX9_doBake 256 = .ok (.iadd, 1) := by decide +kernel
theorem dX9_doBake_257 : decode cX9_doBake 257 = .ok (.dup2, 1) := by decide +kernel
theorem dX9_doBake_258 : decode cX9_doBake 258 = .ok (.iaload, 1) := by decide +kernel
theorem dX9_doBake_259 : decode cX9_doBake 259 = .ok (.iload_n 2, 1) := by decide +kernel
theorem dX9_doBake_260 : decode cX9_doBake 260 = .ok (.iload_n 3, 1) := by decide +kernel
theorem dX9_doBake_261 : decode cX9_doBake 261 = .ok (.isub, 1) := by decide +kernel
theorem dX9_doBake_262 : decode cX9_doBake 262 = .ok (.iadd, 1) := by decide +kernel
theorem dX9_doBake_263 : decode cX9_doBake 263 = .ok (.iastore, 1) := by decide +kernel
theorem dX9_doBake_264 : decode cX9_doBake 264 = .ok (.aload_n 0, 1) := by decide +kernel
theorem dX9_doBake_265 : decode cX9_doBake 265 = .ok (.getfield 17, 3) := by decide +kernel
theorem dX9_doBake_268 : decode cX9_doBake 268 = .ok (.bipush 7, 2) := by decide +kernel
theorem dX9_doBake_270 : decode cX9_doBake 270 = .ok (.dup2, 1) := by decide +kernel
theorem dX9_doBake_271 : decode cX9_doBake 271 = .ok (.iaload, 1) := by decide +kernel
theorem dX9_doBake_272 : decode cX9_doBake 272 = .ok (.iconst 1, 1) := by decide +kernel
theorem dX9_doBake_273 : decode cX9_doBake 273 = .ok (.iadd, 1) := by decide +kernel
theorem dX9_doBake_274 : decode cX9_doBake 274 = .ok (.iastore, 1) := by decide +kernel
theorem dX9_doBake_275 : decode cX9_doBake 275 = .ok (.iload 6, 2) := by decide +kernel
theorem dX9_doBake_277 : decode cX9_doBake 277 = .ok (.ireturn, 1) := by decide +kernel
def fX9_doBake_L12 (p1 : Int32) (p2 : Int32) (p3 : Int32) (p4 : Int32) (p5 : Int32) (x1 : Int32) (k12 : Int32 → bM → Option (Int32 × bM)) (y2 : Int32) (v3 : bM) : Option (Int32 × bM) :=
  (if 11 ≤ y2 then (bnd (fX9_useFlour x1 p1 p2 p4 v3) fun r7 w6 => bnr (fX9_firstOven w6) fun r9 => ck (37 + r9) 496 <| nm (if (w6 (710 + (4 : Int32).toNatClampNeg)) < (w6 (710 + (37 + r9).toNatClampNeg)) then (w6 (710 + (37 + r9).toNatClampNeg)) else (w6 (710 + (4 : Int32).toNatClampNeg))) fun x11 => bnr (fX9_bread p1 1 w6) fun r13 => nm (r13 * p2) fun x14 => nm (x14 + p5) fun x15 => bnr (fX9_costOfMinutes x11 x15 w6) fun r17 => nm (x11 + x15) fun x18 => ck (37 + r9) 496 <| nm (upd w6 (710 + (37 + r9).toNatClampNeg) x18) fun v20 => nm ((v20 (710 + (0 : Int32).toNatClampNeg)) - r17) fun x21 => nm (upd v20 (710 + (0 : Int32).toNatClampNeg) x21) fun v22 => nm ((v22 (710 + (10 : Int32).toNatClampNeg)) + r17) fun x23 => nm (upd v22 (710 + (10 : Int32).toNatClampNeg) x23) fun v24 => bnw (fX9_putBatch x1 0 p1 v24) fun w26 => bnw (fX9_putBatch x1 1 p2 w26) fun w28 => bnw (fX9_putBatch x1 2 p3 w28) fun w30 => bnw (fX9_putBatch x1 3 x11 w30) fun w32 => bnw (fX9_putBatch x1 4 x15 w32) fun w34 => bnw (fX9_putBatch x1 5 (r7 + r17) w34) fun w36 => bnw (fX9_putBatch x1 8 (r17 - (x15 * (w36 (710 + (2 : Int32).toNatClampNeg)))) w36) fun w38 => bnw (fX9_putBatch x1 9 (p5 * (w38 (710 + (2 : Int32).toNatClampNeg))) w38) fun w40 => bnr (fX9_standard p1 w40) fun r42 => bnw (fX9_putBatch x1 10 (p3 * r42) w40) fun w44 => nm ((208 + (4 * p1)) + 3) fun x45 => ck x45 496 <| nm ((w44 (710 + x45.toNatClampNeg)) + (p2 - p3)) fun x47 => ck x45 496 <| nm (upd w44 (710 + x45.toNatClampNeg) x47) fun v49 => nm ((v49 (710 + (7 : Int32).toNatClampNeg)) + 1) fun x50 => nm (upd v49 (710 + (7 : Int32).toNatClampNeg) x50) fun v51 => some (x1, v51)) else (bnw (fX9_putBatch x1 y2 0 v3) fun w53 => nm (y2 + 1) fun x54 => k12 x54 w53))
def fX9_doBake (p1 : Int32) (p2 : Int32) (p3 : Int32) (p4 : Int32) (p5 : Int32) (v : bM) : Option (Int32 × bM) :=
  nm (v (710 + (7 : Int32).toNatClampNeg)) fun x1 => lp (fX9_doBake_L12 p1 p2 p3 p4 p5 x1) (fun _ _ => none) lpN 0 v
set_option maxRecDepth 100000 in
set_option maxHeartbeats 4000000 in
theorem mX9_doBake {l : Launch} {p1 : Int32} {p2 : Int32} {p3 : Int32} {p4 : Int32} {p5 : Int32} {v : bM} {r0 : Int32} {w0 : bM} (hf : fX9_doBake p1 p2 p3 p4 p5 v = some (r0, w0)) : bMet l yX9_doBake cX9_doBake 13 (some .int) 5 0 0 LMo (fun E a => [.ref a, .int p1, .int p2, .int p3, .int p4, .int p5]) v w0 (fun _ => some (.int r0)) := by
  refine bk_start (by decide +kernel) wfMo (fun _ _ => Nat.le_of_ble_eq_true rfl) ?_
  intro p e s m args below meth c D E a ls H locs X hr hl hB
  have hx := X.1
  have hb := X.2.1
  have hown := X.2.2.2.1
  have hts := X.2.2.2.2.1
  have hl : lv_has ls 13 [(0, .ref a), (1, .int p1), (2, .int p2), (3, .int p3), (4, .int p4), (5, .int p5)] := hl
  have hf := (fX9_doBake.eq_1 p1 p2 p3 p4 p5 v).symm.trans hf
  refine lv_aload_n hx hb dX9_doBake_0 rfl (lv_at hl 0 rfl) ?_
  refine bk_getR X hB kl_X9 0 lc_Mo_0 5 (by decide) rfl wm_1868 dX9_doBake_1 ?_
  refine lv_bipush (v := 7) hx hb dX9_doBake_4 (by decide) ?_
  refine bk_ald X hB 2 lc_Mo_2 (vp_c 7 496 rfl) dX9_doBake_6 ?_
  refine lv_topi (fun x1 ex1 => ?_)
  have hf := nm_use hf ex1
  refine lv_istore (lv' := [(6, .int x1), (0, .ref a), (1, .int p1), (2, .int p2), (3, .int p3), (4, .int p4), (5, .int p5)]) hx hb dX9_doBake_7 hl (by decide) rfl (fun ls hl => ?_)
  refine lv_iconst (v := 0) hx hb dX9_doBake_9 (by decide) ?_
  refine lv_istore (lv' := [(7, .int 0), (6, .int x1), (0, .ref a), (1, .int p1), (2, .int p2), (3, .int p3), (4, .int p4), (5, .int p5)]) hx hb dX9_doBake_10 hl (by decide) rfl (fun ls hl => ?_)
  have hL12 : ∀ (n12 : Nat) (y2 : Int32) (v3 : bM) (H : Heap) (locs : List Loc) (ls : Array Slot), lp (fX9_doBake_L12 p1 p2 p3 p4 p5 x1) (fun _ _ => none) n12 y2 v3 = some (r0, w0) → bB D E LMo a v3 s H locs → lv_has ls 13 [(0, .ref a), (1, .int p1), (2, .int p2), (3, .int p3), (4, .int p4), (5, .int p5), (6, .int x1), (7, .int y2)] → W p l e (rmOf 5 0 0) s m args below meth c H locs 0 0 (bQ below D E LMo a w0 (some (.int r0)) args s 0 0) (F0 m 12 ls []) := by
    intro n12
    induction n12 with
    | zero => intro y2 v3 H locs ls hf; cases (show (none : Option (Int32 × bM)) = some (r0, w0) from hf)
    | succ n12 ih12 =>
      intro y2 v3 H locs ls hf hB hl
      have hf := (fX9_doBake_L12.eq_1 p1 p2 p3 p4 p5 x1 (lp (fX9_doBake_L12 p1 p2 p3 p4 p5 x1) (fun _ _ => none) n12) y2 v3).symm.trans (show fX9_doBake_L12 p1 p2 p3 p4 p5 x1 (lp (fX9_doBake_L12 p1 p2 p3 p4 p5 x1) (fun _ _ => none) n12) y2 v3 = some (r0, w0) from hf)
      refine lv_iload hx hb dX9_doBake_12 (lv_at hl 7 rfl) ?_
      refine lv_bipush (v := 11) hx hb dX9_doBake_14 (by decide) ?_
      refine lv_icmp_ge (tgt := 34) hx hb dX9_doBake_16 (by decide) (fun c4 => ?_) (fun c4 => ?_)
      · have hf := (if_pos c4).symm.trans hf
        refine lv_aload_n hx hb dX9_doBake_34 rfl (lv_at hl 0 rfl) ?_
        refine lv_iload hx hb dX9_doBake_35 (lv_at hl 6 rfl) ?_
        refine lv_iload_n hx hb dX9_doBake_37 rfl (lv_at hl 1 rfl) ?_
        refine lv_iload_n hx hb dX9_doBake_38 rfl (lv_at hl 2 rfl) ?_
        refine lv_iload hx hb dX9_doBake_39 (lv_at hl 4 rfl) ?_
        obtain ⟨r7, w6, hc5, hf⟩ := bnd_some hf
        refine bk_all hB (fun h1 h2 h3 => bk_runV X (Av := [.int x1, .int p1, .int p2, .int p4]) (rest := []) (mX9_useFlour hc5) yv_X9_useFlour wm_1822 ⟨Nat.le_of_ble_eq_true rfl, Nat.le_of_ble_eq_true rfl⟩ rfl rfl hl.1 kl_X9.1 (hB.1.obj lc_Mo_0) h1 h2 h3 (Nat.le_of_ble_eq_true rfl) ⟨Nat.le_of_ble_eq_true rfl, Nat.le_of_ble_eq_true rfl⟩ dX9_doBake_41) (fun H locs hB => ?_)
        refine W.eq (g2 := F0 m 44 ls [.int r7]) rfl ?_
        refine lv_istore (lv' := [(7, .int r7), (0, .ref a), (1, .int p1), (2, .int p2), (3, .int p3), (4, .int p4), (5, .int p5), (6, .int x1)]) hx hb dX9_doBake_44 hl (by decide) rfl (fun ls hl => ?_)
        refine lv_aload_n hx hb dX9_doBake_46 rfl (lv_at hl 1 rfl) ?_
        obtain ⟨r9, hc8, hf⟩ := bnr_some hf
        refine bk_all hB (fun h1 h2 h3 => bk_runV X (Av := []) (rest := []) (mX9_firstOven hc8) yv_X9_firstOven wm_1834 ⟨Nat.le_of_ble_eq_true rfl, Nat.le_of_ble_eq_true rfl⟩ rfl rfl hl.1 kl_X9.1 (hB.1.obj lc_Mo_0) h1 h2 h3 (Nat.le_of_ble_eq_true rfl) ⟨Nat.le_of_ble_eq_true rfl, Nat.le_of_ble_eq_true rfl⟩ dX9_doBake_47) (fun H locs hB => ?_)
        refine W.eq (g2 := F0 m 50 ls [.int r9]) rfl ?_
        refine lv_istore (lv' := [(8, .int r9), (7, .int r7), (0, .ref a), (1, .int p1), (2, .int p2), (3, .int p3), (4, .int p4), (5, .int p5), (6, .int x1)]) hx hb dX9_doBake_50 hl (by decide) rfl (fun ls hl => ?_)
        refine lv_aload_n hx hb dX9_doBake_52 rfl (lv_at hl 2 rfl) ?_
        refine bk_getR X hB kl_X9 0 lc_Mo_0 5 (by decide) rfl wm_1868 dX9_doBake_53 ?_
        refine lv_iconst (v := 4) hx hb dX9_doBake_56 (by decide) ?_
        refine bk_ald X hB 2 lc_Mo_2 (vp_c 4 496 rfl) dX9_doBake_57 ?_
        refine lv_aload_n hx hb dX9_doBake_58 rfl (lv_at hl 2 rfl) ?_
        refine bk_getR X hB kl_X9 0 lc_Mo_0 5 (by decide) rfl wm_1868 dX9_doBake_59 ?_
        refine lv_bipush (v := 37) hx hb dX9_doBake_62 (by decide) ?_
        refine lv_iload hx hb dX9_doBake_64 (lv_at hl 0 rfl) ?_
        refine lv_iadd hx hb dX9_doBake_66 ?_
        obtain ⟨h10, hf⟩ := ck_some hf
        refine bk_ald X hB 2 lc_Mo_2 h10 dX9_doBake_67 ?_
        refine bk_max X hl.1 wm_1838 ⟨Nat.le_of_ble_eq_true rfl, Nat.le_of_ble_eq_true rfl⟩ ⟨Nat.le_of_ble_eq_true rfl, Nat.le_of_ble_eq_true rfl⟩ dX9_doBake_68 ?_
        refine lv_topi (fun x11 ex11 => ?_)
        have hf := nm_use hf ex11
        refine lv_istore (lv' := [(9, .int x11), (8, .int r9), (7, .int r7), (0, .ref a), (1, .int p1), (2, .int p2), (3, .int p3), (4, .int p4), (5, .int p5), (6, .int x1)]) hx hb dX9_doBake_71 hl (by decide) rfl (fun ls hl => ?_)
        refine lv_aload_n hx hb dX9_doBake_73 rfl (lv_at hl 3 rfl) ?_
        refine lv_iload_n hx hb dX9_doBake_74 rfl (lv_at hl 4 rfl) ?_
        refine lv_iconst (v := 1) hx hb dX9_doBake_75 (by decide) ?_
        obtain ⟨r13, hc12, hf⟩ := bnr_some hf
        refine bk_all hB (fun h1 h2 h3 => bk_runV X (Av := [.int p1, .int 1]) (rest := []) (mX9_bread hc12) yv_X9_bread wm_1774 ⟨Nat.le_of_ble_eq_true rfl, Nat.le_of_ble_eq_true rfl⟩ rfl rfl hl.1 kl_X9.1 (hB.1.obj lc_Mo_0) h1 h2 h3 (Nat.le_of_ble_eq_true rfl) ⟨Nat.le_of_ble_eq_true rfl, Nat.le_of_ble_eq_true rfl⟩ dX9_doBake_76) (fun H locs hB => ?_)
        refine W.eq (g2 := F0 m 79 ls [.int r13]) rfl ?_
        refine lv_iload_n hx hb dX9_doBake_79 rfl (lv_at hl 5 rfl) ?_
        refine lv_imul hx hb dX9_doBake_80 ?_
        refine lv_topi (fun x14 ex14 => ?_)
        have hf := nm_use hf ex14
        refine lv_istore (lv' := [(10, .int x14), (9, .int x11), (8, .int r9), (7, .int r7), (0, .ref a), (1, .int p1), (2, .int p2), (3, .int p3), (4, .int p4), (5, .int p5), (6, .int x1)]) hx hb dX9_doBake_81 hl (by decide) rfl (fun ls hl => ?_)
        refine lv_iload hx hb dX9_doBake_83 (lv_at hl 0 rfl) ?_
        refine lv_iload hx hb dX9_doBake_85 (lv_at hl 9 rfl) ?_
        refine lv_iadd hx hb dX9_doBake_87 ?_
        refine lv_topi (fun x15 ex15 => ?_)
        have hf := nm_use hf ex15
        refine lv_istore (lv' := [(11, .int x15), (10, .int x14), (9, .int x11), (8, .int r9), (7, .int r7), (0, .ref a), (1, .int p1), (2, .int p2), (3, .int p3), (4, .int p4), (5, .int p5), (6, .int x1)]) hx hb dX9_doBake_88 hl (by decide) rfl (fun ls hl => ?_)
        refine lv_aload_n hx hb dX9_doBake_90 rfl (lv_at hl 5 rfl) ?_
        refine lv_iload hx hb dX9_doBake_91 (lv_at hl 2 rfl) ?_
        refine lv_iload hx hb dX9_doBake_93 (lv_at hl 0 rfl) ?_
        obtain ⟨r17, hc16, hf⟩ := bnr_some hf
        refine bk_all hB (fun h1 h2 h3 => bk_runV X (Av := [.int x11, .int x15]) (rest := []) (mX9_costOfMinutes hc16) yv_X9_costOfMinutes wm_1839 ⟨Nat.le_of_ble_eq_true rfl, Nat.le_of_ble_eq_true rfl⟩ rfl rfl hl.1 kl_X9.1 (hB.1.obj lc_Mo_0) h1 h2 h3 (Nat.le_of_ble_eq_true rfl) ⟨Nat.le_of_ble_eq_true rfl, Nat.le_of_ble_eq_true rfl⟩ dX9_doBake_95) (fun H locs hB => ?_)
        refine W.eq (g2 := F0 m 98 ls [.int r17]) rfl ?_
        refine lv_istore (lv' := [(12, .int r17), (11, .int x15), (10, .int x14), (9, .int x11), (8, .int r9), (7, .int r7), (0, .ref a), (1, .int p1), (2, .int p2), (3, .int p3), (4, .int p4), (5, .int p5), (6, .int x1)]) hx hb dX9_doBake_98 hl (by decide) rfl (fun ls hl => ?_)
        refine lv_aload_n hx hb dX9_doBake_100 rfl (lv_at hl 6 rfl) ?_
        refine bk_getR X hB kl_X9 0 lc_Mo_0 5 (by decide) rfl wm_1868 dX9_doBake_101 ?_
        refine lv_bipush (v := 37) hx hb dX9_doBake_104 (by decide) ?_
        refine lv_iload hx hb dX9_doBake_106 (lv_at hl 4 rfl) ?_
        refine lv_iadd hx hb dX9_doBake_108 ?_
        refine lv_iload hx hb dX9_doBake_109 (lv_at hl 3 rfl) ?_
        refine lv_iload hx hb dX9_doBake_111 (lv_at hl 1 rfl) ?_
        refine lv_iadd hx hb dX9_doBake_113 ?_
        refine lv_topi (fun x18 ex18 => ?_)
        have hf := nm_use hf ex18
        obtain ⟨h19, hf⟩ := ck_some hf
        refine bk_ast X hB 2 lc_Mo_2 h19 dX9_doBake_114 (fun H locs hB => ?_)
        obtain ⟨v20, ev20⟩ : ∃ y : bM, y = upd w6 (710 + (37 + r9).toNatClampNeg) x18 := ⟨_, rfl⟩
        have hf := nm_use hf ev20
        rw [← ev20] at hB
        refine lv_aload_n hx hb dX9_doBake_115 rfl (lv_at hl 6 rfl) ?_
        refine bk_getR X hB kl_X9 0 lc_Mo_0 5 (by decide) rfl wm_1868 dX9_doBake_116 ?_
        refine lv_iconst (v := 0) hx hb dX9_doBake_119 (by decide) ?_
        refine lv_dup2_11 hx hb dX9_doBake_120 rfl rfl ?_
        refine bk_ald X hB 2 lc_Mo_2 (vp_c 0 496 rfl) dX9_doBake_121 ?_
        refine lv_iload hx hb dX9_doBake_122 (lv_at hl 0 rfl) ?_
        refine lv_isub hx hb dX9_doBake_124 ?_
        refine lv_topi (fun x21 ex21 => ?_)
        have hf := nm_use hf ex21
        refine bk_ast X hB 2 lc_Mo_2 (vp_c 0 496 rfl) dX9_doBake_125 (fun H locs hB => ?_)
        obtain ⟨v22, ev22⟩ : ∃ y : bM, y = upd v20 (710 + (0 : Int32).toNatClampNeg) x21 := ⟨_, rfl⟩
        have hf := nm_use hf ev22
        rw [← ev22] at hB
        refine lv_aload_n hx hb dX9_doBake_126 rfl (lv_at hl 6 rfl) ?_
        refine bk_getR X hB kl_X9 0 lc_Mo_0 5 (by decide) rfl wm_1868 dX9_doBake_127 ?_
        refine lv_bipush (v := 10) hx hb dX9_doBake_130 (by decide) ?_
        refine lv_dup2_11 hx hb dX9_doBake_132 rfl rfl ?_
        refine bk_ald X hB 2 lc_Mo_2 (vp_c 10 496 rfl) dX9_doBake_133 ?_
        refine lv_iload hx hb dX9_doBake_134 (lv_at hl 0 rfl) ?_
        refine lv_iadd hx hb dX9_doBake_136 ?_
        refine lv_topi (fun x23 ex23 => ?_)
        have hf := nm_use hf ex23
        refine bk_ast X hB 2 lc_Mo_2 (vp_c 10 496 rfl) dX9_doBake_137 (fun H locs hB => ?_)
        obtain ⟨v24, ev24⟩ : ∃ y : bM, y = upd v22 (710 + (10 : Int32).toNatClampNeg) x23 := ⟨_, rfl⟩
        have hf := nm_use hf ev24
        rw [← ev24] at hB
        refine lv_aload_n hx hb dX9_doBake_138 rfl (lv_at hl 6 rfl) ?_
        refine lv_iload hx hb dX9_doBake_139 (lv_at hl 12 rfl) ?_
        refine lv_iconst (v := 0) hx hb dX9_doBake_141 (by decide) ?_
        refine lv_iload_n hx hb dX9_doBake_142 rfl (lv_at hl 7 rfl) ?_
        obtain ⟨w26, hc25, hf⟩ := bnw_some hf
        refine bk_all hB (fun h1 h2 h3 => bk_runV X (Av := [.int x1, .int 0, .int p1]) (rest := []) (mX9_putBatch hc25) yv_X9_putBatch wm_1818 ⟨Nat.le_of_ble_eq_true rfl, Nat.le_of_ble_eq_true rfl⟩ rfl rfl hl.1 kl_X9.1 (hB.1.obj lc_Mo_0) h1 h2 h3 (Nat.le_of_ble_eq_true rfl) ⟨Nat.le_of_ble_eq_true rfl, Nat.le_of_ble_eq_true rfl⟩ dX9_doBake_143) (fun H locs hB => ?_)
        refine W.eq (g2 := F0 m 146 ls []) rfl ?_
        refine lv_aload_n hx hb dX9_doBake_146 rfl (lv_at hl 6 rfl) ?_
        refine lv_iload hx hb dX9_doBake_147 (lv_at hl 12 rfl) ?_
        refine lv_iconst (v := 1) hx hb dX9_doBake_149 (by decide) ?_
        refine lv_iload_n hx hb dX9_doBake_150 rfl (lv_at hl 8 rfl) ?_
        obtain ⟨w28, hc27, hf⟩ := bnw_some hf
        refine bk_all hB (fun h1 h2 h3 => bk_runV X (Av := [.int x1, .int 1, .int p2]) (rest := []) (mX9_putBatch hc27) yv_X9_putBatch wm_1818 ⟨Nat.le_of_ble_eq_true rfl, Nat.le_of_ble_eq_true rfl⟩ rfl rfl hl.1 kl_X9.1 (hB.1.obj lc_Mo_0) h1 h2 h3 (Nat.le_of_ble_eq_true rfl) ⟨Nat.le_of_ble_eq_true rfl, Nat.le_of_ble_eq_true rfl⟩ dX9_doBake_151) (fun H locs hB => ?_)
        refine W.eq (g2 := F0 m 154 ls []) rfl ?_
        refine lv_aload_n hx hb dX9_doBake_154 rfl (lv_at hl 6 rfl) ?_
        refine lv_iload hx hb dX9_doBake_155 (lv_at hl 12 rfl) ?_
        refine lv_iconst (v := 2) hx hb dX9_doBake_157 (by decide) ?_
        refine lv_iload_n hx hb dX9_doBake_158 rfl (lv_at hl 9 rfl) ?_
        obtain ⟨w30, hc29, hf⟩ := bnw_some hf
        refine bk_all hB (fun h1 h2 h3 => bk_runV X (Av := [.int x1, .int 2, .int p3]) (rest := []) (mX9_putBatch hc29) yv_X9_putBatch wm_1818 ⟨Nat.le_of_ble_eq_true rfl, Nat.le_of_ble_eq_true rfl⟩ rfl rfl hl.1 kl_X9.1 (hB.1.obj lc_Mo_0) h1 h2 h3 (Nat.le_of_ble_eq_true rfl) ⟨Nat.le_of_ble_eq_true rfl, Nat.le_of_ble_eq_true rfl⟩ dX9_doBake_159) (fun H locs hB => ?_)
        refine W.eq (g2 := F0 m 162 ls []) rfl ?_
        refine lv_aload_n hx hb dX9_doBake_162 rfl (lv_at hl 6 rfl) ?_
        refine lv_iload hx hb dX9_doBake_163 (lv_at hl 12 rfl) ?_
        refine lv_iconst (v := 3) hx hb dX9_doBake_165 (by decide) ?_
        refine lv_iload hx hb dX9_doBake_166 (lv_at hl 3 rfl) ?_
        obtain ⟨w32, hc31, hf⟩ := bnw_some hf
        refine bk_all hB (fun h1 h2 h3 => bk_runV X (Av := [.int x1, .int 3, .int x11]) (rest := []) (mX9_putBatch hc31) yv_X9_putBatch wm_1818 ⟨Nat.le_of_ble_eq_true rfl, Nat.le_of_ble_eq_true rfl⟩ rfl rfl hl.1 kl_X9.1 (hB.1.obj lc_Mo_0) h1 h2 h3 (Nat.le_of_ble_eq_true rfl) ⟨Nat.le_of_ble_eq_true rfl, Nat.le_of_ble_eq_true rfl⟩ dX9_doBake_168) (fun H locs hB => ?_)
        refine W.eq (g2 := F0 m 171 ls []) rfl ?_
        refine lv_aload_n hx hb dX9_doBake_171 rfl (lv_at hl 6 rfl) ?_
        refine lv_iload hx hb dX9_doBake_172 (lv_at hl 12 rfl) ?_
        refine lv_iconst (v := 4) hx hb dX9_doBake_174 (by decide) ?_
        refine lv_iload hx hb dX9_doBake_175 (lv_at hl 1 rfl) ?_
        obtain ⟨w34, hc33, hf⟩ := bnw_some hf
        refine bk_all hB (fun h1 h2 h3 => bk_runV X (Av := [.int x1, .int 4, .int x15]) (rest := []) (mX9_putBatch hc33) yv_X9_putBatch wm_1818 ⟨Nat.le_of_ble_eq_true rfl, Nat.le_of_ble_eq_true rfl⟩ rfl rfl hl.1 kl_X9.1 (hB.1.obj lc_Mo_0) h1 h2 h3 (Nat.le_of_ble_eq_true rfl) ⟨Nat.le_of_ble_eq_true rfl, Nat.le_of_ble_eq_true rfl⟩ dX9_doBake_177) (fun H locs hB => ?_)
        refine W.eq (g2 := F0 m 180 ls []) rfl ?_
        refine lv_aload_n hx hb dX9_doBake_180 rfl (lv_at hl 6 rfl) ?_
        refine lv_iload hx hb dX9_doBake_181 (lv_at hl 12 rfl) ?_
        refine lv_iconst (v := 5) hx hb dX9_doBake_183 (by decide) ?_
        refine lv_iload hx hb dX9_doBake_184 (lv_at hl 5 rfl) ?_
        refine lv_iload hx hb dX9_doBake_186 (lv_at hl 0 rfl) ?_
        refine lv_iadd hx hb dX9_doBake_188 ?_
        obtain ⟨w36, hc35, hf⟩ := bnw_some hf
        refine bk_all hB (fun h1 h2 h3 => bk_runV X (Av := [.int x1, .int 5, .int (r7 + r17)]) (rest := []) (mX9_putBatch hc35) yv_X9_putBatch wm_1818 ⟨Nat.le_of_ble_eq_true rfl, Nat.le_of_ble_eq_true rfl⟩ rfl rfl hl.1 kl_X9.1 (hB.1.obj lc_Mo_0) h1 h2 h3 (Nat.le_of_ble_eq_true rfl) ⟨Nat.le_of_ble_eq_true rfl, Nat.le_of_ble_eq_true rfl⟩ dX9_doBake_189) (fun H locs hB => ?_)
        refine W.eq (g2 := F0 m 192 ls []) rfl ?_
        refine lv_aload_n hx hb dX9_doBake_192 rfl (lv_at hl 6 rfl) ?_
        refine lv_iload hx hb dX9_doBake_193 (lv_at hl 12 rfl) ?_
        refine lv_bipush (v := 8) hx hb dX9_doBake_195 (by decide) ?_
        refine lv_iload hx hb dX9_doBake_197 (lv_at hl 0 rfl) ?_
        refine lv_iload hx hb dX9_doBake_199 (lv_at hl 1 rfl) ?_
        refine lv_aload_n hx hb dX9_doBake_201 rfl (lv_at hl 6 rfl) ?_
        refine bk_getR X hB kl_X9 0 lc_Mo_0 5 (by decide) rfl wm_1868 dX9_doBake_202 ?_
        refine lv_iconst (v := 2) hx hb dX9_doBake_205 (by decide) ?_
        refine bk_ald X hB 2 lc_Mo_2 (vp_c 2 496 rfl) dX9_doBake_206 ?_
        refine lv_imul hx hb dX9_doBake_207 ?_
        refine lv_isub hx hb dX9_doBake_208 ?_
        obtain ⟨w38, hc37, hf⟩ := bnw_some hf
        refine bk_all hB (fun h1 h2 h3 => bk_runV X (Av := [.int x1, .int 8, .int (r17 - (x15 * (w36 (710 + (2 : Int32).toNatClampNeg))))]) (rest := []) (mX9_putBatch hc37) yv_X9_putBatch wm_1818 ⟨Nat.le_of_ble_eq_true rfl, Nat.le_of_ble_eq_true rfl⟩ rfl rfl hl.1 kl_X9.1 (hB.1.obj lc_Mo_0) h1 h2 h3 (Nat.le_of_ble_eq_true rfl) ⟨Nat.le_of_ble_eq_true rfl, Nat.le_of_ble_eq_true rfl⟩ dX9_doBake_209) (fun H locs hB => ?_)
        refine W.eq (g2 := F0 m 212 ls []) rfl ?_
        refine lv_aload_n hx hb dX9_doBake_212 rfl (lv_at hl 6 rfl) ?_
        refine lv_iload hx hb dX9_doBake_213 (lv_at hl 12 rfl) ?_
        refine lv_bipush (v := 9) hx hb dX9_doBake_215 (by decide) ?_
        refine lv_iload hx hb dX9_doBake_217 (lv_at hl 11 rfl) ?_
        refine lv_aload_n hx hb dX9_doBake_219 rfl (lv_at hl 6 rfl) ?_
        refine bk_getR X hB kl_X9 0 lc_Mo_0 5 (by decide) rfl wm_1868 dX9_doBake_220 ?_
        refine lv_iconst (v := 2) hx hb dX9_doBake_223 (by decide) ?_
        refine bk_ald X hB 2 lc_Mo_2 (vp_c 2 496 rfl) dX9_doBake_224 ?_
        refine lv_imul hx hb dX9_doBake_225 ?_
        obtain ⟨w40, hc39, hf⟩ := bnw_some hf
        refine bk_all hB (fun h1 h2 h3 => bk_runV X (Av := [.int x1, .int 9, .int (p5 * (w38 (710 + (2 : Int32).toNatClampNeg)))]) (rest := []) (mX9_putBatch hc39) yv_X9_putBatch wm_1818 ⟨Nat.le_of_ble_eq_true rfl, Nat.le_of_ble_eq_true rfl⟩ rfl rfl hl.1 kl_X9.1 (hB.1.obj lc_Mo_0) h1 h2 h3 (Nat.le_of_ble_eq_true rfl) ⟨Nat.le_of_ble_eq_true rfl, Nat.le_of_ble_eq_true rfl⟩ dX9_doBake_226) (fun H locs hB => ?_)
        refine W.eq (g2 := F0 m 229 ls []) rfl ?_
        refine lv_aload_n hx hb dX9_doBake_229 rfl (lv_at hl 6 rfl) ?_
        refine lv_iload hx hb dX9_doBake_230 (lv_at hl 12 rfl) ?_
        refine lv_bipush (v := 10) hx hb dX9_doBake_232 (by decide) ?_
        refine lv_iload_n hx hb dX9_doBake_234 rfl (lv_at hl 9 rfl) ?_
        refine lv_aload_n hx hb dX9_doBake_235 rfl (lv_at hl 6 rfl) ?_
        refine lv_iload_n hx hb dX9_doBake_236 rfl (lv_at hl 7 rfl) ?_
        obtain ⟨r42, hc41, hf⟩ := bnr_some hf
        refine bk_all hB (fun h1 h2 h3 => bk_runV X (Av := [.int p1]) (rest := [.int p3, .int 10, .int x1, .ref a]) (mX9_standard hc41) yv_X9_standard wm_1847 ⟨Nat.le_of_ble_eq_true rfl, Nat.le_of_ble_eq_true rfl⟩ rfl rfl hl.1 kl_X9.1 (hB.1.obj lc_Mo_0) h1 h2 h3 (Nat.le_of_ble_eq_true rfl) ⟨Nat.le_of_ble_eq_true rfl, Nat.le_of_ble_eq_true rfl⟩ dX9_doBake_237) (fun H locs hB => ?_)
        refine W.eq (g2 := F0 m 240 ls [.int r42, .int p3, .int 10, .int x1, .ref a]) rfl ?_
        refine lv_imul hx hb dX9_doBake_240 ?_
        obtain ⟨w44, hc43, hf⟩ := bnw_some hf
        refine bk_all hB (fun h1 h2 h3 => bk_runV X (Av := [.int x1, .int 10, .int (p3 * r42)]) (rest := []) (mX9_putBatch hc43) yv_X9_putBatch wm_1818 ⟨Nat.le_of_ble_eq_true rfl, Nat.le_of_ble_eq_true rfl⟩ rfl rfl hl.1 kl_X9.1 (hB.1.obj lc_Mo_0) h1 h2 h3 (Nat.le_of_ble_eq_true rfl) ⟨Nat.le_of_ble_eq_true rfl, Nat.le_of_ble_eq_true rfl⟩ dX9_doBake_241) (fun H locs hB => ?_)
        refine W.eq (g2 := F0 m 244 ls []) rfl ?_
        refine lv_aload_n hx hb dX9_doBake_244 rfl (lv_at hl 6 rfl) ?_
        refine bk_getR X hB kl_X9 0 lc_Mo_0 5 (by decide) rfl wm_1868 dX9_doBake_245 ?_
        refine lv_sipush (v := 208) hx hb dX9_doBake_248 (by decide) ?_
        refine lv_iconst (v := 4) hx hb dX9_doBake_251 (by decide) ?_
        refine lv_iload_n hx hb dX9_doBake_252 rfl (lv_at hl 7 rfl) ?_
        refine lv_imul hx hb dX9_doBake_253 ?_
        refine lv_iadd hx hb dX9_doBake_254 ?_
        refine lv_iconst (v := 3) hx hb dX9_doBake_255 (by decide) ?_
        refine lv_iadd hx hb dX9_doBake_256 ?_
        refine lv_topi (fun x45 ex45 => ?_)
        have hf := nm_use hf ex45
        refine lv_dup2_11 hx hb dX9_doBake_257 rfl rfl ?_
        obtain ⟨h46, hf⟩ := ck_some hf
        refine bk_ald X hB 2 lc_Mo_2 h46 dX9_doBake_258 ?_
        refine lv_iload_n hx hb dX9_doBake_259 rfl (lv_at hl 8 rfl) ?_
        refine lv_iload_n hx hb dX9_doBake_260 rfl (lv_at hl 9 rfl) ?_
        refine lv_isub hx hb dX9_doBake_261 ?_
        refine lv_iadd hx hb dX9_doBake_262 ?_
        refine lv_topi (fun x47 ex47 => ?_)
        have hf := nm_use hf ex47
        obtain ⟨h48, hf⟩ := ck_some hf
        refine bk_ast X hB 2 lc_Mo_2 h48 dX9_doBake_263 (fun H locs hB => ?_)
        obtain ⟨v49, ev49⟩ : ∃ y : bM, y = upd w44 (710 + x45.toNatClampNeg) x47 := ⟨_, rfl⟩
        have hf := nm_use hf ev49
        rw [← ev49] at hB
        refine lv_aload_n hx hb dX9_doBake_264 rfl (lv_at hl 6 rfl) ?_
        refine bk_getR X hB kl_X9 0 lc_Mo_0 5 (by decide) rfl wm_1868 dX9_doBake_265 ?_
        refine lv_bipush (v := 7) hx hb dX9_doBake_268 (by decide) ?_
        refine lv_dup2_11 hx hb dX9_doBake_270 rfl rfl ?_
        refine bk_ald X hB 2 lc_Mo_2 (vp_c 7 496 rfl) dX9_doBake_271 ?_
        refine lv_iconst (v := 1) hx hb dX9_doBake_272 (by decide) ?_
        refine lv_iadd hx hb dX9_doBake_273 ?_
        refine lv_topi (fun x50 ex50 => ?_)
        have hf := nm_use hf ex50
        refine bk_ast X hB 2 lc_Mo_2 (vp_c 7 496 rfl) dX9_doBake_274 (fun H locs hB => ?_)
        obtain ⟨v51, ev51⟩ : ∃ y : bM, y = upd v49 (710 + (7 : Int32).toNatClampNeg) x50 := ⟨_, rfl⟩
        have hf := nm_use hf ev51
        rw [← ev51] at hB
        refine lv_iload hx hb dX9_doBake_275 (lv_at hl 12 rfl) ?_
        exact bk_iW X hr rfl hf hB (Nat.le_of_ble_eq_true rfl) (Nat.le_of_ble_eq_true rfl) dX9_doBake_277
      · have hf := (if_neg c4).symm.trans hf
        refine lv_aload_n hx hb dX9_doBake_19 rfl (lv_at hl 0 rfl) ?_
        refine lv_iload hx hb dX9_doBake_20 (lv_at hl 6 rfl) ?_
        refine lv_iload hx hb dX9_doBake_22 (lv_at hl 7 rfl) ?_
        refine lv_iconst (v := 0) hx hb dX9_doBake_24 (by decide) ?_
        obtain ⟨w53, hc52, hf⟩ := bnw_some hf
        refine bk_all hB (fun h1 h2 h3 => bk_runV X (Av := [.int x1, .int y2, .int 0]) (rest := []) (mX9_putBatch hc52) yv_X9_putBatch wm_1818 ⟨Nat.le_of_ble_eq_true rfl, Nat.le_of_ble_eq_true rfl⟩ rfl rfl hl.1 kl_X9.1 (hB.1.obj lc_Mo_0) h1 h2 h3 (Nat.le_of_ble_eq_true rfl) ⟨Nat.le_of_ble_eq_true rfl, Nat.le_of_ble_eq_true rfl⟩ dX9_doBake_25) (fun H locs hB => ?_)
        refine W.eq (g2 := F0 m 28 ls []) rfl ?_
        obtain ⟨x54, ex54⟩ : ∃ y : Int32, y = y2 + 1 := ⟨_, rfl⟩
        have hf := nm_use hf ex54
        refine lv_iinc (v := x54) (lv' := [(7, .int x54), (0, .ref a), (1, .int p1), (2, .int p2), (3, .int p3), (4, .int p4), (5, .int p5), (6, .int x1)]) hx hb dX9_doBake_28 hl (k := 7) rfl (by rw [ex54]; rfl) (by decide) rfl (fun ls hl => ?_)
        refine lv_goto (tgt := 12) hx hb dX9_doBake_31 (by decide) ?_
        exact ih12 x54 w53 H locs ls hf hB (lv_sub hl [1, 2, 3, 4, 5, 6, 7, 0] rfl)
  exact hL12 lpN 0 v H locs ls hf hB (lv_sub hl [2, 3, 4, 5, 6, 7, 1, 0] rfl)
theorem yv_X9_doBake : bYv yX9_doBake RX9 cX9_doBake 13 (some .int) 5 := ⟨⟨rfl, by decide, by decide, rfl⟩, wm_1816, wp_62, wm_17, wm_1817⟩

theorem dX9_good_0 : decode cX9_good 0 = .ok (.aload_n 0, 1) := by decide +kernel
theorem dX9_good_1 : decode cX9_good 1 = .ok (.iload_n 1, 1) := by decide +kernel
theorem dX9_good_2 : decode cX9_good 2 = .ok (.iconst 1, 1) := by decide +kernel
theorem dX9_good_3 : decode cX9_good 3 = .ok (.invokevirtual 101, 3) := by decide +kernel
theorem dX9_good_6 : decode cX9_good 6 = .ok (.aload_n 0, 1) := by decide +kernel
theorem dX9_good_7 : decode cX9_good 7 = .ok (.iload_n 1, 1) := by decide +kernel
theorem dX9_good_8 : decode cX9_good 8 = .ok (.iconst 2, 1) := by decide +kernel
theorem dX9_good_9 : decode cX9_good 9 = .ok (.invokevirtual 101, 3) := by decide +kernel
theorem dX9_good_12 : decode cX9_good 12 = .ok (.isub, 1) := by decide +kernel
theorem dX9_good_13 : decode cX9_good 13 = .ok (.ireturn, 1) := by decide +kernel
def fX9_good (p1 : Int32) (v : bM) : Option Int32 :=
  bnr (fX9_batch p1 1 v) fun r2 => bnr (fX9_batch p1 2 v) fun r4 => some (r2 - r4)
set_option maxRecDepth 100000 in
set_option maxHeartbeats 4000000 in
theorem mX9_good {l : Launch} {p1 : Int32} {v : bM} {r0 : Int32} (hf : fX9_good p1 v = some r0) : bMet l yX9_good cX9_good 2 (some .int) 1 0 0 LMo (fun E a => [.ref a, .int p1]) v v (fun _ => some (.int r0)) := by
  refine bk_start (by decide +kernel) wfMo (fun _ _ => Nat.le_of_ble_eq_true rfl) ?_
  intro p e s m args below meth c D E a ls H locs X hr hl hB
  have hx := X.1
  have hb := X.2.1
  have hown := X.2.2.2.1
  have hts := X.2.2.2.2.1
  have hl : lv_has ls 2 [(0, .ref a), (1, .int p1)] := hl
  have hf := (fX9_good.eq_1 p1 v).symm.trans hf
  refine lv_aload_n hx hb dX9_good_0 rfl (lv_at hl 0 rfl) ?_
  refine lv_iload_n hx hb dX9_good_1 rfl (lv_at hl 1 rfl) ?_
  refine lv_iconst (v := 1) hx hb dX9_good_2 (by decide) ?_
  obtain ⟨r2, hc1, hf⟩ := bnr_some hf
  refine bk_all hB (fun h1 h2 h3 => bk_runV X (Av := [.int p1, .int 1]) (rest := []) (mX9_batch hc1) yv_X9_batch wm_1830 ⟨Nat.le_of_ble_eq_true rfl, Nat.le_of_ble_eq_true rfl⟩ rfl rfl hl.1 kl_X9.1 (hB.1.obj lc_Mo_0) h1 h2 h3 (Nat.le_of_ble_eq_true rfl) ⟨Nat.le_of_ble_eq_true rfl, Nat.le_of_ble_eq_true rfl⟩ dX9_good_3) (fun H locs hB => ?_)
  refine W.eq (g2 := F0 m 6 ls [.int r2]) rfl ?_
  refine lv_aload_n hx hb dX9_good_6 rfl (lv_at hl 0 rfl) ?_
  refine lv_iload_n hx hb dX9_good_7 rfl (lv_at hl 1 rfl) ?_
  refine lv_iconst (v := 2) hx hb dX9_good_8 (by decide) ?_
  obtain ⟨r4, hc3, hf⟩ := bnr_some hf
  refine bk_all hB (fun h1 h2 h3 => bk_runV X (Av := [.int p1, .int 2]) (rest := [.int r2]) (mX9_batch hc3) yv_X9_batch wm_1830 ⟨Nat.le_of_ble_eq_true rfl, Nat.le_of_ble_eq_true rfl⟩ rfl rfl hl.1 kl_X9.1 (hB.1.obj lc_Mo_0) h1 h2 h3 (Nat.le_of_ble_eq_true rfl) ⟨Nat.le_of_ble_eq_true rfl, Nat.le_of_ble_eq_true rfl⟩ dX9_good_9) (fun H locs hB => ?_)
  refine W.eq (g2 := F0 m 12 ls [.int r4, .int r2]) rfl ?_
  refine lv_isub hx hb dX9_good_12 ?_
  exact bk_iR X hr rfl hf hB (Nat.le_of_ble_eq_true rfl) (Nat.le_of_ble_eq_true rfl) dX9_good_13
theorem yv_X9_good : bYv yX9_good RX9 cX9_good 2 (some .int) 1 := ⟨⟨rfl, by decide, by decide, rfl⟩, wm_2067, wp_81, wm_17, wm_2068⟩

theorem dX9_loss_0 : decode cX9_loss 0 = .ok (.aload_n 0, 1) := by decide +kernel
theorem dX9_loss_1 : decode cX9_loss 1 = .ok (.iload_n 1, 1) := by decide +kernel
theorem dX9_loss_2 : decode cX9_loss 2 = .ok (.iconst 5, 1) := by decide +kernel
theorem dX9_loss_3 : decode cX9_loss 3 = .ok (.invokevirtual 101, 3) := by decide +kernel
theorem dX9_loss_6 : decode cX9_loss 6 = .ok (.aload_n 0, 1) := by decide +kernel
theorem dX9_loss_7 : decode cX9_loss 7 = .ok (.iload_n 1, 1) := by decide +kernel
theorem dX9_loss_8 : decode cX9_loss 8 = .ok (.invokevirtual 124, 3) := by decide +kernel
theorem dX9_loss_11 : decode cX9_loss 11 = .ok (.aload_n 0, 1) := by decide +kernel
theorem dX9_loss_12 : decode cX9_loss 12 = .ok (.aload_n 0, 1) := by decide +kernel
theorem dX9_loss_13 : decode cX9_loss 13 = .ok (.iload_n 1, 1) := by decide +kernel
theorem dX9_loss_14 : decode cX9_loss 14 = .ok (.iconst 0, 1) := by decide +kernel
theorem dX9_loss_15 : decode cX9_loss 15 = .ok (.invokevirtual 101, 3) := by decide +kernel
theorem dX9_loss_18 : decode cX9_loss 18 = .ok (.invokevirtual 121, 3) := by decide +kernel
theorem dX9_loss_21 : decode cX9_loss 21 = .ok (.imul, 1) := by decide +kernel
theorem dX9_loss_22 : decode cX9_loss 22 = .ok (.isub, 1) := by decide +kernel
theorem dX9_loss_23 : decode cX9_loss 23 = .ok (.ireturn, 1) := by decide +kernel
def fX9_loss (p1 : Int32) (v : bM) : Option Int32 :=
  bnr (fX9_batch p1 5 v) fun r2 => bnr (fX9_good p1 v) fun r4 => bnr (fX9_batch p1 0 v) fun r6 => bnr (fX9_standard r6 v) fun r8 => some (r2 - (r4 * r8))
set_option maxRecDepth 100000 in
set_option maxHeartbeats 4000000 in
theorem mX9_loss {l : Launch} {p1 : Int32} {v : bM} {r0 : Int32} (hf : fX9_loss p1 v = some r0) : bMet l yX9_loss cX9_loss 2 (some .int) 3 0 0 LMo (fun E a => [.ref a, .int p1]) v v (fun _ => some (.int r0)) := by
  refine bk_start (by decide +kernel) wfMo (fun _ _ => Nat.le_of_ble_eq_true rfl) ?_
  intro p e s m args below meth c D E a ls H locs X hr hl hB
  have hx := X.1
  have hb := X.2.1
  have hown := X.2.2.2.1
  have hts := X.2.2.2.2.1
  have hl : lv_has ls 2 [(0, .ref a), (1, .int p1)] := hl
  have hf := (fX9_loss.eq_1 p1 v).symm.trans hf
  refine lv_aload_n hx hb dX9_loss_0 rfl (lv_at hl 0 rfl) ?_
  refine lv_iload_n hx hb dX9_loss_1 rfl (lv_at hl 1 rfl) ?_
  refine lv_iconst (v := 5) hx hb dX9_loss_2 (by decide) ?_
  obtain ⟨r2, hc1, hf⟩ := bnr_some hf
  refine bk_all hB (fun h1 h2 h3 => bk_runV X (Av := [.int p1, .int 5]) (rest := []) (mX9_batch hc1) yv_X9_batch wm_1830 ⟨Nat.le_of_ble_eq_true rfl, Nat.le_of_ble_eq_true rfl⟩ rfl rfl hl.1 kl_X9.1 (hB.1.obj lc_Mo_0) h1 h2 h3 (Nat.le_of_ble_eq_true rfl) ⟨Nat.le_of_ble_eq_true rfl, Nat.le_of_ble_eq_true rfl⟩ dX9_loss_3) (fun H locs hB => ?_)
  refine W.eq (g2 := F0 m 6 ls [.int r2]) rfl ?_
  refine lv_aload_n hx hb dX9_loss_6 rfl (lv_at hl 0 rfl) ?_
  refine lv_iload_n hx hb dX9_loss_7 rfl (lv_at hl 1 rfl) ?_
  obtain ⟨r4, hc3, hf⟩ := bnr_some hf
  refine bk_all hB (fun h1 h2 h3 => bk_runV X (Av := [.int p1]) (rest := [.int r2]) (mX9_good hc3) yv_X9_good wm_2065 ⟨Nat.le_of_ble_eq_true rfl, Nat.le_of_ble_eq_true rfl⟩ rfl rfl hl.1 kl_X9.1 (hB.1.obj lc_Mo_0) h1 h2 h3 (Nat.le_of_ble_eq_true rfl) ⟨Nat.le_of_ble_eq_true rfl, Nat.le_of_ble_eq_true rfl⟩ dX9_loss_8) (fun H locs hB => ?_)
  refine W.eq (g2 := F0 m 11 ls [.int r4, .int r2]) rfl ?_
  refine lv_aload_n hx hb dX9_loss_11 rfl (lv_at hl 0 rfl) ?_
  refine lv_aload_n hx hb dX9_loss_12 rfl (lv_at hl 0 rfl) ?_
  refine lv_iload_n hx hb dX9_loss_13 rfl (lv_at hl 1 rfl) ?_
  refine lv_iconst (v := 0) hx hb dX9_loss_14 (by decide) ?_
  obtain ⟨r6, hc5, hf⟩ := bnr_some hf
  refine bk_all hB (fun h1 h2 h3 => bk_runV X (Av := [.int p1, .int 0]) (rest := [.ref a, .int r4, .int r2]) (mX9_batch hc5) yv_X9_batch wm_1830 ⟨Nat.le_of_ble_eq_true rfl, Nat.le_of_ble_eq_true rfl⟩ rfl rfl hl.1 kl_X9.1 (hB.1.obj lc_Mo_0) h1 h2 h3 (Nat.le_of_ble_eq_true rfl) ⟨Nat.le_of_ble_eq_true rfl, Nat.le_of_ble_eq_true rfl⟩ dX9_loss_15) (fun H locs hB => ?_)
  refine W.eq (g2 := F0 m 18 ls [.int r6, .ref a, .int r4, .int r2]) rfl ?_
  obtain ⟨r8, hc7, hf⟩ := bnr_some hf
  refine bk_all hB (fun h1 h2 h3 => bk_runV X (Av := [.int r6]) (rest := [.int r4, .int r2]) (mX9_standard hc7) yv_X9_standard wm_1847 ⟨Nat.le_of_ble_eq_true rfl, Nat.le_of_ble_eq_true rfl⟩ rfl rfl hl.1 kl_X9.1 (hB.1.obj lc_Mo_0) h1 h2 h3 (Nat.le_of_ble_eq_true rfl) ⟨Nat.le_of_ble_eq_true rfl, Nat.le_of_ble_eq_true rfl⟩ dX9_loss_18) (fun H locs hB => ?_)
  refine W.eq (g2 := F0 m 21 ls [.int r8, .int r4, .int r2]) rfl ?_
  refine lv_imul hx hb dX9_loss_21 ?_
  refine lv_isub hx hb dX9_loss_22 ?_
  exact bk_iR X hr rfl hf hB (Nat.le_of_ble_eq_true rfl) (Nat.le_of_ble_eq_true rfl) dX9_loss_23
theorem yv_X9_loss : bYv yX9_loss RX9 cX9_loss 2 (some .int) 1 := ⟨⟨rfl, by decide, by decide, rfl⟩, wm_2087, wp_82, wm_17, wm_2088⟩

theorem dX9_gapsOf_0 : decode cX9_gapsOf 0 = .ok (.iconst 0, 1) := by decide +kernel
theorem dX9_gapsOf_1 : decode cX9_gapsOf 1 = .ok (.istore_n 2, 1) := by decide +kernel
theorem dX9_gapsOf_2 : decode cX9_gapsOf 2 = .ok (.iconst 0, 1) := by decide +kernel
theorem dX9_gapsOf_3 : decode cX9_gapsOf 3 = .ok (.istore_n 3, 1) := by decide +kernel
theorem dX9_gapsOf_4 : decode cX9_gapsOf 4 = .ok (.iload_n 3, 1) := by decide +kernel
theorem dX9_gapsOf_5 : decode cX9_gapsOf 5 = .ok (.iconst 5, 1) := by decide +kernel
theorem dX9_gapsOf_6 : decode cX9_gapsOf 6 = .ok (.if_icmp .ge 21, 3) := by decide +kernel
theorem dX9_gapsOf_9 : decode cX9_gapsOf 9 = .ok (.iload_n 2, 1) := by decide +kernel
theorem dX9_gapsOf_10 : decode cX9_gapsOf 10 = .ok (.aload_n 0, 1) := by decide +kernel
theorem dX9_gapsOf_11 : decode cX9_gapsOf 11 = .ok (.iload_n 1, 1) := by decide +kernel
theorem dX9_gapsOf_12 : decode cX9_gapsOf 12 = .ok (.bipush 6, 2) := by decide +kernel
theorem dX9_gapsOf_14 : decode cX9_gapsOf 14 = .ok (.iload_n 3, 1) := by decide +kernel
theorem dX9_gapsOf_15 : decode cX9_gapsOf 15 = .ok (.iadd, 1) := by decide +kernel
theorem dX9_gapsOf_16 : decode cX9_gapsOf 16 = .ok (.invokevirtual 101, 3) := by decide +kernel
theorem dX9_gapsOf_19 : decode cX9_gapsOf 19 = .ok (.iadd, 1) := by decide +kernel
theorem dX9_gapsOf_20 : decode cX9_gapsOf 20 = .ok (.istore_n 2, 1) := by decide +kernel
theorem dX9_gapsOf_21 : decode cX9_gapsOf 21 = .ok (.iinc 3 1, 3) := by decide +kernel
theorem dX9_gapsOf_24 : decode cX9_gapsOf 24 = .ok (.goto (-20), 3) := by decide +kernel
theorem dX9_gapsOf_27 : decode cX9_gapsOf 27 = .ok (.iload_n 2, 1) := by decide +kernel
theorem dX9_gapsOf_28 : decode cX9_gapsOf 28 = .ok (.ireturn, 1) := by decide +kernel
def fX9_gapsOf_L4 (p1 : Int32) (v : bM) (k4 : Int32 → Int32 → Option Int32) (y1 : Int32) (y2 : Int32) : Option Int32 :=
  (if 5 ≤ y2 then (some (y1)) else (bnr (fX9_batch p1 (6 + y2) v) fun r5 => nm (y1 + r5) fun x6 => nm (y2 + 1) fun x7 => k4 x6 x7))
def fX9_gapsOf (p1 : Int32) (v : bM) : Option Int32 :=
  lp (fX9_gapsOf_L4 p1 v) (fun _ _ => none) lpN 0 0
set_option maxRecDepth 100000 in
set_option maxHeartbeats 4000000 in
theorem mX9_gapsOf {l : Launch} {p1 : Int32} {v : bM} {r0 : Int32} (hf : fX9_gapsOf p1 v = some r0) : bMet l yX9_gapsOf cX9_gapsOf 4 (some .int) 1 0 0 LMo (fun E a => [.ref a, .int p1]) v v (fun _ => some (.int r0)) := by
  refine bk_start (by decide +kernel) wfMo (fun _ _ => Nat.le_of_ble_eq_true rfl) ?_
  intro p e s m args below meth c D E a ls H locs X hr hl hB
  have hx := X.1
  have hb := X.2.1
  have hown := X.2.2.2.1
  have hts := X.2.2.2.2.1
  have hl : lv_has ls 4 [(0, .ref a), (1, .int p1)] := hl
  have hf := (fX9_gapsOf.eq_1 p1 v).symm.trans hf
  refine lv_iconst (v := 0) hx hb dX9_gapsOf_0 (by decide) ?_
  refine lv_istore_n (lv' := [(2, .int 0), (0, .ref a), (1, .int p1)]) hx hb dX9_gapsOf_1 rfl hl (by decide) rfl (fun ls hl => ?_)
  refine lv_iconst (v := 0) hx hb dX9_gapsOf_2 (by decide) ?_
  refine lv_istore_n (lv' := [(3, .int 0), (2, .int 0), (0, .ref a), (1, .int p1)]) hx hb dX9_gapsOf_3 rfl hl (by decide) rfl (fun ls hl => ?_)
  have hL4 : ∀ (n4 : Nat) (y1 y2 : Int32) (H : Heap) (locs : List Loc) (ls : Array Slot), lp (fX9_gapsOf_L4 p1 v) (fun _ _ => none) n4 y1 y2 = some r0 → bB D E LMo a v s H locs → lv_has ls 4 [(0, .ref a), (1, .int p1), (2, .int y1), (3, .int y2)] → W p l e (rmOf 1 0 0) s m args below meth c H locs 0 0 (bQ below D E LMo a v (some (.int r0)) args s 0 0) (F0 m 4 ls []) := by
    intro n4
    induction n4 with
    | zero => intro y1 y2 H locs ls hf; cases (show (none : Option Int32) = some r0 from hf)
    | succ n4 ih4 =>
      intro y1 y2 H locs ls hf hB hl
      have hf := (fX9_gapsOf_L4.eq_1 p1 v (lp (fX9_gapsOf_L4 p1 v) (fun _ _ => none) n4) y1 y2).symm.trans (show fX9_gapsOf_L4 p1 v (lp (fX9_gapsOf_L4 p1 v) (fun _ _ => none) n4) y1 y2 = some r0 from hf)
      refine lv_iload_n hx hb dX9_gapsOf_4 rfl (lv_at hl 3 rfl) ?_
      refine lv_iconst (v := 5) hx hb dX9_gapsOf_5 (by decide) ?_
      refine lv_icmp_ge (tgt := 27) hx hb dX9_gapsOf_6 (by decide) (fun c3 => ?_) (fun c3 => ?_)
      · have hf := (if_pos c3).symm.trans hf
        refine lv_iload_n hx hb dX9_gapsOf_27 rfl (lv_at hl 2 rfl) ?_
        exact bk_iR X hr rfl hf hB (Nat.le_of_ble_eq_true rfl) (Nat.le_of_ble_eq_true rfl) dX9_gapsOf_28
      · have hf := (if_neg c3).symm.trans hf
        refine lv_iload_n hx hb dX9_gapsOf_9 rfl (lv_at hl 2 rfl) ?_
        refine lv_aload_n hx hb dX9_gapsOf_10 rfl (lv_at hl 0 rfl) ?_
        refine lv_iload_n hx hb dX9_gapsOf_11 rfl (lv_at hl 1 rfl) ?_
        refine lv_bipush (v := 6) hx hb dX9_gapsOf_12 (by decide) ?_
        refine lv_iload_n hx hb dX9_gapsOf_14 rfl (lv_at hl 3 rfl) ?_
        refine lv_iadd hx hb dX9_gapsOf_15 ?_
        obtain ⟨r5, hc4, hf⟩ := bnr_some hf
        refine bk_all hB (fun h1 h2 h3 => bk_runV X (Av := [.int p1, .int (6 + y2)]) (rest := [.int y1]) (mX9_batch hc4) yv_X9_batch wm_1830 ⟨Nat.le_of_ble_eq_true rfl, Nat.le_of_ble_eq_true rfl⟩ rfl rfl hl.1 kl_X9.1 (hB.1.obj lc_Mo_0) h1 h2 h3 (Nat.le_of_ble_eq_true rfl) ⟨Nat.le_of_ble_eq_true rfl, Nat.le_of_ble_eq_true rfl⟩ dX9_gapsOf_16) (fun H locs hB => ?_)
        refine W.eq (g2 := F0 m 19 ls [.int r5, .int y1]) rfl ?_
        refine lv_iadd hx hb dX9_gapsOf_19 ?_
        refine lv_topi (fun x6 ex6 => ?_)
        have hf := nm_use hf ex6
        refine lv_istore_n (lv' := [(2, .int x6), (0, .ref a), (1, .int p1), (3, .int y2)]) hx hb dX9_gapsOf_20 rfl hl (by decide) rfl (fun ls hl => ?_)
        obtain ⟨x7, ex7⟩ : ∃ y : Int32, y = y2 + 1 := ⟨_, rfl⟩
        have hf := nm_use hf ex7
        refine lv_iinc (v := x7) (lv' := [(3, .int x7), (2, .int x6), (0, .ref a), (1, .int p1)]) hx hb dX9_gapsOf_21 hl (k := 3) rfl (by rw [ex7]; rfl) (by decide) rfl (fun ls hl => ?_)
        refine lv_goto (tgt := 4) hx hb dX9_gapsOf_24 (by decide) ?_
        exact ih4 x6 x7 H locs ls hf hB (lv_sub hl [2, 3, 1, 0] rfl)
  exact hL4 lpN 0 0 H locs ls hf hB (lv_sub hl [2, 3, 1, 0] rfl)
theorem yv_X9_gapsOf : bYv yX9_gapsOf RX9 cX9_gapsOf 4 (some .int) 1 := ⟨⟨rfl, by decide, by decide, rfl⟩, wm_2191, wp_89, wm_17, wm_2192⟩

theorem dX9_doFlour_0 : decode cX9_doFlour 0 = .ok (.aload_n 0, 1) := by decide +kernel
theorem dX9_doFlour_1 : decode cX9_doFlour 1 = .ok (.getfield 17, 3) := by decide +kernel
theorem dX9_doFlour_4 : decode cX9_doFlour 4 = .ok (.iconst 5, 1) := by decide +kernel
theorem dX9_doFlour_5 : decode cX9_doFlour 5 = .ok (.iaload, 1) := by decide +kernel
theorem dX9_doFlour_6 : decode cX9_doFlour 6 = .ok (.istore_n 2, 1) := by decide +kernel
theorem dX9_doFlour_7 : decode cX9_doFlour 7 = .ok (.iconst 0, 1) := by decide +kernel
theorem dX9_doFlour_8 : decode cX9_doFlour 8 = .ok (.istore_n 3, 1) := by decide +kernel
theorem dX9_doFlour_9 : decode cX9_doFlour 9 = .ok (.iload_n 3, 1) := by decide +kernel
theorem dX9_doFlour_10 : decode cX9_doFlour 10 = .ok (.bipush 28, 2) := by decide +kernel
theorem dX9_doFlour_12 : decode cX9_doFlour 12 = .ok (.if_icmp .ge 24, 3) := by decide +kernel
theorem dX9_doFlour_15 : decode cX9_doFlour 15 = .ok (.aload_n 0, 1) := by decide +kernel
theorem dX9_doFlour_16 : decode cX9_doFlour 16 = .ok (.getfield 17, 3) := by decide +kernel
theorem dX9_doFlour_19 : decode cX9_doFlour 19 = .ok (.bipush 40, 2) := by decide +kernel
theorem dX9_doFlour_21 : decode cX9_doFlour 21 = .ok (.bipush 28, 2) := by decide +kernel
theorem dX9_doFlour_23 : decode cX9_doFlour 23 = .ok (.iload_n 2, 1) := by decide +kernel
theorem dX9_doFlour_24 : decode cX9_doFlour 24 = .ok (.imul, 1) := by decide +kernel
theorem dX9_doFlour_25 : decode cX9_doFlour 25 = .ok (.iadd, 1) := by decide +kernel
theorem dX9_doFlour_26 : decode cX9_doFlour 26 = .ok (.iload_n 3, 1) := by decide +kernel
theorem dX9_doFlour_27 : decode cX9_doFlour 27 = .ok (.iadd, 1) := by decide +kernel
theorem dX9_doFlour_28 : decode cX9_doFlour 28 = .ok (.iconst 0, 1) := by decide +kernel
theorem dX9_doFlour_29 : decode cX9_doFlour 29 = .ok (.iastore, 1) := by decide +kernel
theorem dX9_doFlour_30 : decode cX9_doFlour 30 = .ok (.iinc 3 1, 3) := by decide +kernel
theorem dX9_doFlour_33 : decode cX9_doFlour 33 = .ok (.goto (-24), 3) := by decide +kernel
theorem dX9_doFlour_36 : decode cX9_doFlour 36 = .ok (.aload_n 0, 1) := by decide +kernel
theorem dX9_doFlour_37 : decode cX9_doFlour 37 = .ok (.iload_n 2, 1) := by decide +kernel
theorem dX9_doFlour_38 : decode cX9_doFlour 38 = .ok (.iconst 0, 1) := by decide +kernel
theorem dX9_doFlour_39 : decode cX9_doFlour 39 = .ok (.iload_n 1, 1) := by decide +kernel
theorem dX9_doFlour_40 : decode cX9_doFlour 40 = .ok (.invokevirtual 91, 3) := by decide +kernel
theorem dX9_doFlour_43 : decode cX9_doFlour 43 = .ok (.aload_n 0, 1) := by decide +kernel
theorem dX9_doFlour_44 : decode cX9_doFlour 44 = .ok (.getfield 17, 3) := by decide +kernel
theorem dX9_doFlour_47 : decode cX9_doFlour 47 = .ok (.iconst 5, 1) := by decide +kernel
theorem dX9_doFlour_48 : decode cX9_doFlour 48 = .ok (.dup2, 1) := by decide +kernel
theorem dX9_doFlour_49 : decode cX9_doFlour 49 = .ok (.iaload, 1) := by decide +kernel
theorem dX9_doFlour_50 : decode cX9_doFlour 50 = .ok (.iconst 1, 1) := by decide +kernel
theorem dX9_doFlour_51 : decode cX9_doFlour 51 = .ok (.iadd, 1) := by decide +kernel
theorem dX9_doFlour_52 : decode cX9_doFlour 52 = .ok (.iastore, 1) := by decide +kernel
theorem dX9_doFlour_53 : decode cX9_doFlour 53 = .ok (.iload_n 2, 1) := by decide +kernel
theorem dX9_doFlour_54 : decode cX9_doFlour 54 = .ok (.ireturn, 1) := by decide +kernel
def fX9_doFlour_L9 (p1 : Int32) (x1 : Int32) (k9 : Int32 → bM → Option (Int32 × bM)) (y2 : Int32) (v3 : bM) : Option (Int32 × bM) :=
  (if 28 ≤ y2 then (bnw (fX9_addToFlour x1 0 p1 v3) fun w6 => nm ((w6 (710 + (5 : Int32).toNatClampNeg)) + 1) fun x7 => nm (upd w6 (710 + (5 : Int32).toNatClampNeg) x7) fun v8 => some (x1, v8)) else (ck ((40 + (28 * x1)) + y2) 496 <| nm (upd v3 (710 + ((40 + (28 * x1)) + y2).toNatClampNeg) 0) fun v10 => nm (y2 + 1) fun x11 => k9 x11 v10))
def fX9_doFlour (p1 : Int32) (v : bM) : Option (Int32 × bM) :=
  nm (v (710 + (5 : Int32).toNatClampNeg)) fun x1 => lp (fX9_doFlour_L9 p1 x1) (fun _ _ => none) lpN 0 v
set_option maxRecDepth 100000 in
set_option maxHeartbeats 4000000 in
theorem mX9_doFlour {l : Launch} {p1 : Int32} {v : bM} {r0 : Int32} {w0 : bM} (hf : fX9_doFlour p1 v = some (r0, w0)) : bMet l yX9_doFlour cX9_doFlour 4 (some .int) 1 0 0 LMo (fun E a => [.ref a, .int p1]) v w0 (fun _ => some (.int r0)) := by
  refine bk_start (by decide +kernel) wfMo (fun _ _ => Nat.le_of_ble_eq_true rfl) ?_
  intro p e s m args below meth c D E a ls H locs X hr hl hB
  have hx := X.1
  have hb := X.2.1
  have hown := X.2.2.2.1
  have hts := X.2.2.2.2.1
  have hl : lv_has ls 4 [(0, .ref a), (1, .int p1)] := hl
  have hf := (fX9_doFlour.eq_1 p1 v).symm.trans hf
  refine lv_aload_n hx hb dX9_doFlour_0 rfl (lv_at hl 0 rfl) ?_
  refine bk_getR X hB kl_X9 0 lc_Mo_0 5 (by decide) rfl wm_1868 dX9_doFlour_1 ?_
  refine lv_iconst (v := 5) hx hb dX9_doFlour_4 (by decide) ?_
  refine bk_ald X hB 2 lc_Mo_2 (vp_c 5 496 rfl) dX9_doFlour_5 ?_
  refine lv_topi (fun x1 ex1 => ?_)
  have hf := nm_use hf ex1
  refine lv_istore_n (lv' := [(2, .int x1), (0, .ref a), (1, .int p1)]) hx hb dX9_doFlour_6 rfl hl (by decide) rfl (fun ls hl => ?_)
  refine lv_iconst (v := 0) hx hb dX9_doFlour_7 (by decide) ?_
  refine lv_istore_n (lv' := [(3, .int 0), (2, .int x1), (0, .ref a), (1, .int p1)]) hx hb dX9_doFlour_8 rfl hl (by decide) rfl (fun ls hl => ?_)
  have hL9 : ∀ (n9 : Nat) (y2 : Int32) (v3 : bM) (H : Heap) (locs : List Loc) (ls : Array Slot), lp (fX9_doFlour_L9 p1 x1) (fun _ _ => none) n9 y2 v3 = some (r0, w0) → bB D E LMo a v3 s H locs → lv_has ls 4 [(0, .ref a), (1, .int p1), (2, .int x1), (3, .int y2)] → W p l e (rmOf 1 0 0) s m args below meth c H locs 0 0 (bQ below D E LMo a w0 (some (.int r0)) args s 0 0) (F0 m 9 ls []) := by
    intro n9
    induction n9 with
    | zero => intro y2 v3 H locs ls hf; cases (show (none : Option (Int32 × bM)) = some (r0, w0) from hf)
    | succ n9 ih9 =>
      intro y2 v3 H locs ls hf hB hl
      have hf := (fX9_doFlour_L9.eq_1 p1 x1 (lp (fX9_doFlour_L9 p1 x1) (fun _ _ => none) n9) y2 v3).symm.trans (show fX9_doFlour_L9 p1 x1 (lp (fX9_doFlour_L9 p1 x1) (fun _ _ => none) n9) y2 v3 = some (r0, w0) from hf)
      refine lv_iload_n hx hb dX9_doFlour_9 rfl (lv_at hl 3 rfl) ?_
      refine lv_bipush (v := 28) hx hb dX9_doFlour_10 (by decide) ?_
      refine lv_icmp_ge (tgt := 36) hx hb dX9_doFlour_12 (by decide) (fun c4 => ?_) (fun c4 => ?_)
      · have hf := (if_pos c4).symm.trans hf
        refine lv_aload_n hx hb dX9_doFlour_36 rfl (lv_at hl 0 rfl) ?_
        refine lv_iload_n hx hb dX9_doFlour_37 rfl (lv_at hl 2 rfl) ?_
        refine lv_iconst (v := 0) hx hb dX9_doFlour_38 (by decide) ?_
        refine lv_iload_n hx hb dX9_doFlour_39 rfl (lv_at hl 1 rfl) ?_
        obtain ⟨w6, hc5, hf⟩ := bnw_some hf
        refine bk_all hB (fun h1 h2 h3 => bk_runV X (Av := [.int x1, .int 0, .int p1]) (rest := []) (mX9_addToFlour hc5) yv_X9_addToFlour wm_1798 ⟨Nat.le_of_ble_eq_true rfl, Nat.le_of_ble_eq_true rfl⟩ rfl rfl hl.1 kl_X9.1 (hB.1.obj lc_Mo_0) h1 h2 h3 (Nat.le_of_ble_eq_true rfl) ⟨Nat.le_of_ble_eq_true rfl, Nat.le_of_ble_eq_true rfl⟩ dX9_doFlour_40) (fun H locs hB => ?_)
        refine W.eq (g2 := F0 m 43 ls []) rfl ?_
        refine lv_aload_n hx hb dX9_doFlour_43 rfl (lv_at hl 0 rfl) ?_
        refine bk_getR X hB kl_X9 0 lc_Mo_0 5 (by decide) rfl wm_1868 dX9_doFlour_44 ?_
        refine lv_iconst (v := 5) hx hb dX9_doFlour_47 (by decide) ?_
        refine lv_dup2_11 hx hb dX9_doFlour_48 rfl rfl ?_
        refine bk_ald X hB 2 lc_Mo_2 (vp_c 5 496 rfl) dX9_doFlour_49 ?_
        refine lv_iconst (v := 1) hx hb dX9_doFlour_50 (by decide) ?_
        refine lv_iadd hx hb dX9_doFlour_51 ?_
        refine lv_topi (fun x7 ex7 => ?_)
        have hf := nm_use hf ex7
        refine bk_ast X hB 2 lc_Mo_2 (vp_c 5 496 rfl) dX9_doFlour_52 (fun H locs hB => ?_)
        obtain ⟨v8, ev8⟩ : ∃ y : bM, y = upd w6 (710 + (5 : Int32).toNatClampNeg) x7 := ⟨_, rfl⟩
        have hf := nm_use hf ev8
        rw [← ev8] at hB
        refine lv_iload_n hx hb dX9_doFlour_53 rfl (lv_at hl 2 rfl) ?_
        exact bk_iW X hr rfl hf hB (Nat.le_of_ble_eq_true rfl) (Nat.le_of_ble_eq_true rfl) dX9_doFlour_54
      · have hf := (if_neg c4).symm.trans hf
        refine lv_aload_n hx hb dX9_doFlour_15 rfl (lv_at hl 0 rfl) ?_
        refine bk_getR X hB kl_X9 0 lc_Mo_0 5 (by decide) rfl wm_1868 dX9_doFlour_16 ?_
        refine lv_bipush (v := 40) hx hb dX9_doFlour_19 (by decide) ?_
        refine lv_bipush (v := 28) hx hb dX9_doFlour_21 (by decide) ?_
        refine lv_iload_n hx hb dX9_doFlour_23 rfl (lv_at hl 2 rfl) ?_
        refine lv_imul hx hb dX9_doFlour_24 ?_
        refine lv_iadd hx hb dX9_doFlour_25 ?_
        refine lv_iload_n hx hb dX9_doFlour_26 rfl (lv_at hl 3 rfl) ?_
        refine lv_iadd hx hb dX9_doFlour_27 ?_
        refine lv_iconst (v := 0) hx hb dX9_doFlour_28 (by decide) ?_
        obtain ⟨h9, hf⟩ := ck_some hf
        refine bk_ast X hB 2 lc_Mo_2 h9 dX9_doFlour_29 (fun H locs hB => ?_)
        obtain ⟨v10, ev10⟩ : ∃ y : bM, y = upd v3 (710 + ((40 + (28 * x1)) + y2).toNatClampNeg) 0 := ⟨_, rfl⟩
        have hf := nm_use hf ev10
        rw [← ev10] at hB
        obtain ⟨x11, ex11⟩ : ∃ y : Int32, y = y2 + 1 := ⟨_, rfl⟩
        have hf := nm_use hf ex11
        refine lv_iinc (v := x11) (lv' := [(3, .int x11), (0, .ref a), (1, .int p1), (2, .int x1)]) hx hb dX9_doFlour_30 hl (k := 3) rfl (by rw [ex11]; rfl) (by decide) rfl (fun ls hl => ?_)
        refine lv_goto (tgt := 9) hx hb dX9_doFlour_33 (by decide) ?_
        exact ih9 x11 v10 H locs ls hf hB (lv_sub hl [1, 2, 3, 0] rfl)
  exact hL9 lpN 0 v H locs ls hf hB (lv_sub hl [2, 3, 1, 0] rfl)
theorem yv_X9_doFlour : bYv yX9_doFlour RX9 cX9_doFlour 4 (some .int) 1 := ⟨⟨rfl, by decide, by decide, rfl⟩, wm_1796, wp_57, wm_17, wm_1797⟩

theorem dX9_doBread_0 : decode cX9_doBread 0 = .ok (.sipush 208, 3) := by decide +kernel
theorem dX9_doBread_3 : decode cX9_doBread 3 = .ok (.iconst 4, 1) := by decide +kernel
theorem dX9_doBread_4 : decode cX9_doBread 4 = .ok (.aload_n 0, 1) := by decide +kernel
theorem dX9_doBread_5 : decode cX9_doBread 5 = .ok (.getfield 17, 3) := by decide +kernel
theorem dX9_doBread_8 : decode cX9_doBread 8 = .ok (.bipush 6, 2) := by decide +kernel
theorem dX9_doBread_10 : decode cX9_doBread 10 = .ok (.iaload, 1) := by decide +kernel
theorem dX9_doBread_11 : decode cX9_doBread 11 = .ok (.imul, 1) := by decide +kernel
theorem dX9_doBread_12 : decode cX9_doBread 12 = .ok (.iadd, 1) := by decide +kernel
theorem dX9_doBread_13 : decode cX9_doBread 13 = .ok (.istore 4, 2) := by decide +kernel
theorem dX9_doBread_15 : decode cX9_doBread 15 = .ok (.aload_n 0, 1) := by decide +kernel
theorem dX9_doBread_16 : decode cX9_doBread 16 = .ok (.getfield 17, 3) := by decide +kernel
theorem dX9_doBread_19 : decode cX9_doBread 19 = .ok (.iload 4, 2) := by decide +kernel
theorem dX9_doBread_21 : decode cX9_doBread 21 = .ok (.iconst 0, 1) := by decide +kernel
theorem dX9_doBread_22 : decode cX9_doBread 22 = .ok (.iadd, 1) := by decide +kernel
theorem dX9_doBread_23 : decode cX9_doBread 23 = .ok (.iload_n 1, 1) := by decide +kernel
theorem dX9_doBread_24 : decode cX9_doBread 24 = .ok (.iastore, 1) := by decide +kernel
theorem dX9_doBread_25 : decode cX9_doBread 25 = .ok (.aload_n 0, 1) := by decide +kernel
theorem dX9_doBread_26 : decode cX9_doBread 26 = .ok (.getfield 17, 3) := by decide +kernel
theorem dX9_doBread_29 : decode cX9_doBread 29 = .ok (.iload 4, 2) := by decide +kernel
theorem dX9_doBread_31 : decode cX9_doBread 31 = .ok (.iconst 1, 1) := by decide +kernel
theorem dX9_doBread_32 : decode cX9_doBread 32 = .ok (.iadd, 1) := by decide +kernel
theorem dX9_doBread_33 : decode cX9_doBread 33 = .ok (.iload_n 2, 1) := by decide +kernel
theorem dX9_doBread_34 : decode cX9_doBread 34 = .ok (.iastore, 1) := by decide +kernel
theorem dX9_doBread_35 : decode cX9_doBread 35 = .ok (.aload_n 0, 1) := by decide +kernel
theorem dX9_doBread_36 : decode cX9_doBread 36 = .ok (.getfield 17, 3) := by decide +kernel
theorem dX9_doBread_39 : decode cX9_doBread 39 = .ok (.iload 4, 2) := by decide +kernel
theorem dX9_doBread_41 : decode cX9_doBread 41 = .ok (.iconst 2, 1) := by decide +kernel
theorem dX9_doBread_42 : decode cX9_doBread 42 = .ok (.iadd, 1) := by decide +kernel
theorem dX9_doBread_43 : decode cX9_doBread 43 = .ok (.iload_n 3, 1) := by decide +kernel
theorem dX9_doBread_44 : decode cX9_doBread 44 = .ok (.iastore, 1) := by decide +kernel
theorem dX9_doBread_45 : decode cX9_doBread 45 = .ok (.aload_n 0, 1) := by decide +kernel
theorem dX9_doBread_46 : decode cX9_doBread 46 = .ok (.getfield 17, 3) := by decide +kernel
theorem dX9_doBread_49 : decode cX9_doBread 49 = .ok (.iload 4, 2) := by decide +kernel
theorem dX9_doBread_51 : decode cX9_doBread 51 = .ok (.iconst 3, 1) := by decide +kernel
theorem dX9_doBread_52 : decode cX9_doBread 52 = .ok (.iadd, 1) := by decide +kernel
theorem dX9_doBread_53 : decode cX9_doBread 53 = .ok (.iconst 0, 1) := by decide +kernel
theorem dX9_doBread_54 : decode cX9_doBread 54 = .ok (.iastore, 1) := by decide +kernel
theorem dX9_doBread_55 : decode cX9_doBread 55 = .ok (.aload_n 0, 1) := by decide +kernel
theorem dX9_doBread_56 : decode cX9_doBread 56 = .ok (.getfield 17, 3) := by decide +kernel
theorem dX9_doBread_59 : decode cX9_doBread 59 = .ok (.bipush 6, 2) := by decide +kernel
theorem dX9_doBread_61 : decode cX9_doBread 61 = .ok (.dup2, 1) := by decide +kernel
theorem dX9_doBread_62 : decode cX9_doBread 62 = .ok (.iaload, 1) := by decide +kernel
theorem dX9_doBread_63 : decode cX9_doBread 63 = .ok (.iconst 1, 1) := by decide +kernel
theorem dX9_doBread_64 : decode cX9_doBread 64 = .ok (.iadd, 1) := by decide +kernel
theorem dX9_doBread_65 : decode cX9_doBread 65 = .ok (.iastore, 1) := by decide +kernel
theorem dX9_doBread_66 : decode cX9_doBread 66 = .ok (.aload_n 0, 1) := by decide +kernel
theorem dX9_doBread_67 : decode cX9_doBread 67 = .ok (.getfield 17, 3) := by decide +kernel
theorem dX9_doBread_70 : decode cX9_doBread 70 = .ok (.bipush 6, 2) := by decide +kernel
theorem dX9_doBread_72 : decode cX9_doBread 72 = .ok (.iaload, 1) := by decide +kernel
theorem dX9_doBread_73 : decode cX9_doBread 73 = .ok (.iconst 1, 1) := by decide +kernel
theorem dX9_doBread_74 : decode cX9_doBread 74 = .ok (.isub, 1) := by decide +kernel
theorem dX9_doBread_75 : decode cX9_doBread 75 = .ok (.ireturn, 1) := by decide +kernel
def fX9_doBread (p1 : Int32) (p2 : Int32) (p3 : Int32) (v : bM) : Option (Int32 × bM) :=
  nm (208 + (4 * (v (710 + (6 : Int32).toNatClampNeg)))) fun x1 => ck (x1 + 0) 496 <| nm (upd v (710 + (x1 + 0).toNatClampNeg) p1) fun v3 => ck (x1 + 1) 496 <| nm (upd v3 (710 + (x1 + 1).toNatClampNeg) p2) fun v5 => ck (x1 + 2) 496 <| nm (upd v5 (710 + (x1 + 2).toNatClampNeg) p3) fun v7 => ck (x1 + 3) 496 <| nm (upd v7 (710 + (x1 + 3).toNatClampNeg) 0) fun v9 => nm ((v9 (710 + (6 : Int32).toNatClampNeg)) + 1) fun x10 => nm (upd v9 (710 + (6 : Int32).toNatClampNeg) x10) fun v11 => some ((v11 (710 + (6 : Int32).toNatClampNeg)) - 1, v11)
set_option maxRecDepth 100000 in
set_option maxHeartbeats 4000000 in
theorem mX9_doBread {l : Launch} {p1 : Int32} {p2 : Int32} {p3 : Int32} {v : bM} {r0 : Int32} {w0 : bM} (hf : fX9_doBread p1 p2 p3 v = some (r0, w0)) : bMet l yX9_doBread cX9_doBread 5 (some .int) 0 0 0 LMo (fun E a => [.ref a, .int p1, .int p2, .int p3]) v w0 (fun _ => some (.int r0)) := by
  refine bk_start (by decide +kernel) wfMo (fun _ _ => Nat.le_of_ble_eq_true rfl) ?_
  intro p e s m args below meth c D E a ls H locs X hr hl hB
  have hx := X.1
  have hb := X.2.1
  have hown := X.2.2.2.1
  have hts := X.2.2.2.2.1
  have hl : lv_has ls 5 [(0, .ref a), (1, .int p1), (2, .int p2), (3, .int p3)] := hl
  have hf := (fX9_doBread.eq_1 p1 p2 p3 v).symm.trans hf
  refine lv_sipush (v := 208) hx hb dX9_doBread_0 (by decide) ?_
  refine lv_iconst (v := 4) hx hb dX9_doBread_3 (by decide) ?_
  refine lv_aload_n hx hb dX9_doBread_4 rfl (lv_at hl 0 rfl) ?_
  refine bk_getR X hB kl_X9 0 lc_Mo_0 5 (by decide) rfl wm_1868 dX9_doBread_5 ?_
  refine lv_bipush (v := 6) hx hb dX9_doBread_8 (by decide) ?_
  refine bk_ald X hB 2 lc_Mo_2 (vp_c 6 496 rfl) dX9_doBread_10 ?_
  refine lv_imul hx hb dX9_doBread_11 ?_
  refine lv_iadd hx hb dX9_doBread_12 ?_
  refine lv_topi (fun x1 ex1 => ?_)
  have hf := nm_use hf ex1
  refine lv_istore (lv' := [(4, .int x1), (0, .ref a), (1, .int p1), (2, .int p2), (3, .int p3)]) hx hb dX9_doBread_13 hl (by decide) rfl (fun ls hl => ?_)
  refine lv_aload_n hx hb dX9_doBread_15 rfl (lv_at hl 1 rfl) ?_
  refine bk_getR X hB kl_X9 0 lc_Mo_0 5 (by decide) rfl wm_1868 dX9_doBread_16 ?_
  refine lv_iload hx hb dX9_doBread_19 (lv_at hl 0 rfl) ?_
  refine lv_iconst (v := 0) hx hb dX9_doBread_21 (by decide) ?_
  refine lv_iadd hx hb dX9_doBread_22 ?_
  refine lv_iload_n hx hb dX9_doBread_23 rfl (lv_at hl 2 rfl) ?_
  obtain ⟨h2, hf⟩ := ck_some hf
  refine bk_ast X hB 2 lc_Mo_2 h2 dX9_doBread_24 (fun H locs hB => ?_)
  obtain ⟨v3, ev3⟩ : ∃ y : bM, y = upd v (710 + (x1 + 0).toNatClampNeg) p1 := ⟨_, rfl⟩
  have hf := nm_use hf ev3
  rw [← ev3] at hB
  refine lv_aload_n hx hb dX9_doBread_25 rfl (lv_at hl 1 rfl) ?_
  refine bk_getR X hB kl_X9 0 lc_Mo_0 5 (by decide) rfl wm_1868 dX9_doBread_26 ?_
  refine lv_iload hx hb dX9_doBread_29 (lv_at hl 0 rfl) ?_
  refine lv_iconst (v := 1) hx hb dX9_doBread_31 (by decide) ?_
  refine lv_iadd hx hb dX9_doBread_32 ?_
  refine lv_iload_n hx hb dX9_doBread_33 rfl (lv_at hl 3 rfl) ?_
  obtain ⟨h4, hf⟩ := ck_some hf
  refine bk_ast X hB 2 lc_Mo_2 h4 dX9_doBread_34 (fun H locs hB => ?_)
  obtain ⟨v5, ev5⟩ : ∃ y : bM, y = upd v3 (710 + (x1 + 1).toNatClampNeg) p2 := ⟨_, rfl⟩
  have hf := nm_use hf ev5
  rw [← ev5] at hB
  refine lv_aload_n hx hb dX9_doBread_35 rfl (lv_at hl 1 rfl) ?_
  refine bk_getR X hB kl_X9 0 lc_Mo_0 5 (by decide) rfl wm_1868 dX9_doBread_36 ?_
  refine lv_iload hx hb dX9_doBread_39 (lv_at hl 0 rfl) ?_
  refine lv_iconst (v := 2) hx hb dX9_doBread_41 (by decide) ?_
  refine lv_iadd hx hb dX9_doBread_42 ?_
  refine lv_iload_n hx hb dX9_doBread_43 rfl (lv_at hl 4 rfl) ?_
  obtain ⟨h6, hf⟩ := ck_some hf
  refine bk_ast X hB 2 lc_Mo_2 h6 dX9_doBread_44 (fun H locs hB => ?_)
  obtain ⟨v7, ev7⟩ : ∃ y : bM, y = upd v5 (710 + (x1 + 2).toNatClampNeg) p3 := ⟨_, rfl⟩
  have hf := nm_use hf ev7
  rw [← ev7] at hB
  refine lv_aload_n hx hb dX9_doBread_45 rfl (lv_at hl 1 rfl) ?_
  refine bk_getR X hB kl_X9 0 lc_Mo_0 5 (by decide) rfl wm_1868 dX9_doBread_46 ?_
  refine lv_iload hx hb dX9_doBread_49 (lv_at hl 0 rfl) ?_
  refine lv_iconst (v := 3) hx hb dX9_doBread_51 (by decide) ?_
  refine lv_iadd hx hb dX9_doBread_52 ?_
  refine lv_iconst (v := 0) hx hb dX9_doBread_53 (by decide) ?_
  obtain ⟨h8, hf⟩ := ck_some hf
  refine bk_ast X hB 2 lc_Mo_2 h8 dX9_doBread_54 (fun H locs hB => ?_)
  obtain ⟨v9, ev9⟩ : ∃ y : bM, y = upd v7 (710 + (x1 + 3).toNatClampNeg) 0 := ⟨_, rfl⟩
  have hf := nm_use hf ev9
  rw [← ev9] at hB
  refine lv_aload_n hx hb dX9_doBread_55 rfl (lv_at hl 1 rfl) ?_
  refine bk_getR X hB kl_X9 0 lc_Mo_0 5 (by decide) rfl wm_1868 dX9_doBread_56 ?_
  refine lv_bipush (v := 6) hx hb dX9_doBread_59 (by decide) ?_
  refine lv_dup2_11 hx hb dX9_doBread_61 rfl rfl ?_
  refine bk_ald X hB 2 lc_Mo_2 (vp_c 6 496 rfl) dX9_doBread_62 ?_
  refine lv_iconst (v := 1) hx hb dX9_doBread_63 (by decide) ?_
  refine lv_iadd hx hb dX9_doBread_64 ?_
  refine lv_topi (fun x10 ex10 => ?_)
  have hf := nm_use hf ex10
  refine bk_ast X hB 2 lc_Mo_2 (vp_c 6 496 rfl) dX9_doBread_65 (fun H locs hB => ?_)
  obtain ⟨v11, ev11⟩ : ∃ y : bM, y = upd v9 (710 + (6 : Int32).toNatClampNeg) x10 := ⟨_, rfl⟩
  have hf := nm_use hf ev11
  rw [← ev11] at hB
  refine lv_aload_n hx hb dX9_doBread_66 rfl (lv_at hl 1 rfl) ?_
  refine bk_getR X hB kl_X9 0 lc_Mo_0 5 (by decide) rfl wm_1868 dX9_doBread_67 ?_
  refine lv_bipush (v := 6) hx hb dX9_doBread_70 (by decide) ?_
  refine bk_ald X hB 2 lc_Mo_2 (vp_c 6 496 rfl) dX9_doBread_72 ?_
  refine lv_iconst (v := 1) hx hb dX9_doBread_73 (by decide) ?_
  refine lv_isub hx hb dX9_doBread_74 ?_
  exact bk_iW X hr rfl hf hB (Nat.le_of_ble_eq_true rfl) (Nat.le_of_ble_eq_true rfl) dX9_doBread_75
theorem yv_X9_doBread : bYv yX9_doBread RX9 cX9_doBread 5 (some .int) 3 := ⟨⟨rfl, by decide, by decide, rfl⟩, wm_1804, wp_59, wm_17, wm_1805⟩

theorem dX9_canBuy_0 : decode cX9_canBuy 0 = .ok (.aload_n 0, 1) := by decide +kernel
theorem dX9_canBuy_1 : decode cX9_canBuy 1 = .ok (.getfield 17, 3) := by decide +kernel
theorem dX9_canBuy_4 : decode cX9_canBuy 4 = .ok (.iconst 0, 1) := by decide +kernel
theorem dX9_canBuy_5 : decode cX9_canBuy 5 = .ok (.iaload, 1) := by decide +kernel
theorem dX9_canBuy_6 : decode cX9_canBuy 6 = .ok (.iload_n 2, 1) := by decide +kernel
theorem dX9_canBuy_7 : decode cX9_canBuy 7 = .ok (.iload_n 3, 1) := by decide +kernel
theorem dX9_canBuy_8 : decode cX9_canBuy 8 = .ok (.imul, 1) := by decide +kernel
theorem dX9_canBuy_9 : decode cX9_canBuy 9 = .ok (.if_icmp .lt 18, 3) := by decide +kernel
theorem dX9_canBuy_12 : decode cX9_canBuy 12 = .ok (.aload_n 0, 1) := by decide +kernel
theorem dX9_canBuy_13 : decode cX9_canBuy 13 = .ok (.iload_n 1, 1) := by decide +kernel
theorem dX9_canBuy_14 : decode cX9_canBuy 14 = .ok (.iconst 1, 1) := by decide +kernel
theorem dX9_canBuy_15 : decode cX9_canBuy 15 = .ok (.invokevirtual 63, 3) := by decide +kernel
theorem dX9_canBuy_18 : decode cX9_canBuy 18 = .ok (.bipush 12, 2) := by decide +kernel
theorem dX9_canBuy_20 : decode cX9_canBuy 20 = .ok (.if_icmp .ge 7, 3) := by decide +kernel
theorem dX9_canBuy_23 : decode cX9_canBuy 23 = .ok (.iconst 1, 1) := by decide +kernel
theorem dX9_canBuy_24 : decode cX9_canBuy 24 = .ok (.goto 4, 3) := by decide +kernel
theorem dX9_canBuy_27 : decode cX9_canBuy 27 = .ok (.iconst 0, 1) := by decide +kernel
theorem dX9_canBuy_28 : decode cX9_canBuy 28 = .ok (.ireturn, 1) := by decide +kernel
def fX9_canBuy (p1 : Int32) (p2 : Int32) (p3 : Int32) (v : bM) : Option Int32 :=
  (if (v (710 + (0 : Int32).toNatClampNeg)) < (p2 * p3) then (some (0)) else (bnr (fX9_flour p1 1 v) fun r3 => (if 12 ≤ r3 then (some (0)) else (some (1)))))
set_option maxRecDepth 100000 in
set_option maxHeartbeats 4000000 in
theorem mX9_canBuy {l : Launch} {p1 : Int32} {p2 : Int32} {p3 : Int32} {v : bM} {r0 : Int32} (hf : fX9_canBuy p1 p2 p3 v = some r0) : bMet l yX9_canBuy cX9_canBuy 4 (some .boolean) 1 0 0 LMo (fun E a => [.ref a, .int p1, .int p2, .int p3]) v v (fun _ => some (.int r0)) := by
  refine bk_start (by decide +kernel) wfMo (fun _ _ => Nat.le_of_ble_eq_true rfl) ?_
  intro p e s m args below meth c D E a ls H locs X hr hl hB
  have hx := X.1
  have hb := X.2.1
  have hown := X.2.2.2.1
  have hts := X.2.2.2.2.1
  have hl : lv_has ls 4 [(0, .ref a), (1, .int p1), (2, .int p2), (3, .int p3)] := hl
  have hf := (fX9_canBuy.eq_1 p1 p2 p3 v).symm.trans hf
  refine lv_aload_n hx hb dX9_canBuy_0 rfl (lv_at hl 0 rfl) ?_
  refine bk_getR X hB kl_X9 0 lc_Mo_0 5 (by decide) rfl wm_1868 dX9_canBuy_1 ?_
  refine lv_iconst (v := 0) hx hb dX9_canBuy_4 (by decide) ?_
  refine bk_ald X hB 2 lc_Mo_2 (vp_c 0 496 rfl) dX9_canBuy_5 ?_
  refine lv_iload_n hx hb dX9_canBuy_6 rfl (lv_at hl 2 rfl) ?_
  refine lv_iload_n hx hb dX9_canBuy_7 rfl (lv_at hl 3 rfl) ?_
  refine lv_imul hx hb dX9_canBuy_8 ?_
  refine lv_icmp_lt (tgt := 27) hx hb dX9_canBuy_9 (by decide) (fun c1 => ?_) (fun c1 => ?_)
  · have hf := (if_pos c1).symm.trans hf
    refine lv_iconst (v := 0) hx hb dX9_canBuy_27 (by decide) ?_
    exact bk_zR X hr rfl rfl hf hB (Nat.le_of_ble_eq_true rfl) (Nat.le_of_ble_eq_true rfl) dX9_canBuy_28
  · have hf := (if_neg c1).symm.trans hf
    refine lv_aload_n hx hb dX9_canBuy_12 rfl (lv_at hl 0 rfl) ?_
    refine lv_iload_n hx hb dX9_canBuy_13 rfl (lv_at hl 1 rfl) ?_
    refine lv_iconst (v := 1) hx hb dX9_canBuy_14 (by decide) ?_
    obtain ⟨r3, hc2, hf⟩ := bnr_some hf
    refine bk_all hB (fun h1 h2 h3 => bk_runV X (Av := [.int p1, .int 1]) (rest := []) (mX9_flour hc2) yv_X9_flour wm_1758 ⟨Nat.le_of_ble_eq_true rfl, Nat.le_of_ble_eq_true rfl⟩ rfl rfl hl.1 kl_X9.1 (hB.1.obj lc_Mo_0) h1 h2 h3 (Nat.le_of_ble_eq_true rfl) ⟨Nat.le_of_ble_eq_true rfl, Nat.le_of_ble_eq_true rfl⟩ dX9_canBuy_15) (fun H locs hB => ?_)
    refine W.eq (g2 := F0 m 18 ls [.int r3]) rfl ?_
    refine lv_bipush (v := 12) hx hb dX9_canBuy_18 (by decide) ?_
    refine lv_icmp_ge (tgt := 27) hx hb dX9_canBuy_20 (by decide) (fun c4 => ?_) (fun c4 => ?_)
    · have hf := (if_pos c4).symm.trans hf
      refine lv_iconst (v := 0) hx hb dX9_canBuy_27 (by decide) ?_
      exact bk_zR X hr rfl rfl hf hB (Nat.le_of_ble_eq_true rfl) (Nat.le_of_ble_eq_true rfl) dX9_canBuy_28
    · have hf := (if_neg c4).symm.trans hf
      refine lv_iconst (v := 1) hx hb dX9_canBuy_23 (by decide) ?_
      refine lv_goto (tgt := 28) hx hb dX9_canBuy_24 (by decide) ?_
      exact bk_zR X hr rfl rfl hf hB (Nat.le_of_ble_eq_true rfl) (Nat.le_of_ble_eq_true rfl) dX9_canBuy_28
theorem yv_X9_canBuy : bYv yX9_canBuy RX9 cX9_canBuy 4 (some .boolean) 3 := ⟨⟨rfl, by decide, by decide, rfl⟩, wm_1756, wp_47, wm_17, wm_1757⟩

theorem dX9_doBuy_0 : decode cX9_doBuy 0 = .ok (.bipush 40, 2) := by decide +kernel
theorem dX9_doBuy_2 : decode cX9_doBuy 2 = .ok (.bipush 28, 2) := by decide +kernel
theorem dX9_doBuy_4 : decode cX9_doBuy 4 = .ok (.iload_n 1, 1) := by decide +kernel
theorem dX9_doBuy_5 : decode cX9_doBuy 5 = .ok (.imul, 1) := by decide +kernel
theorem dX9_doBuy_6 : decode cX9_doBuy 6 = .ok (.iadd, 1) := by decide +kernel
theorem dX9_doBuy_7 : decode cX9_doBuy 7 = .ok (.iconst 4, 1) := by decide +kernel
theorem dX9_doBuy_8 : decode cX9_doBuy 8 = .ok (.iadd, 1) := by decide +kernel
theorem dX9_doBuy_9 : decode cX9_doBuy 9 = .ok (.iconst 2, 1) := by decide +kernel
theorem dX9_doBuy_10 : decode cX9_doBuy 10 = .ok (.aload_n 0, 1) := by decide +kernel
theorem dX9_doBuy_11 : decode cX9_doBuy 11 = .ok (.iload_n 1, 1) := by decide +kernel
theorem dX9_doBuy_12 : decode cX9_doBuy 12 = .ok (.iconst 1, 1) := by decide +kernel
theorem dX9_doBuy_13 : decode cX9_doBuy 13 = .ok (.invokevirtual 63, 3) := by decide +kernel
theorem dX9_doBuy_16 : decode cX9_doBuy 16 = .ok (.imul, 1) := by decide +kernel
theorem dX9_doBuy_17 : decode cX9_doBuy 17 = .ok (.iadd, 1) := by decide +kernel
theorem dX9_doBuy_18 : decode cX9_doBuy 18 = .ok (.istore 4, 2) := by decide +kernel
theorem dX9_doBuy_20 : decode cX9_doBuy 20 = .ok (.aload_n 0, 1) := by decide +kernel
theorem dX9_doBuy_21 : decode cX9_doBuy 21 = .ok (.getfield 17, 3) := by decide +kernel
theorem dX9_doBuy_24 : decode cX9_doBuy 24 = .ok (.iload 4, 2) := by decide +kernel
theorem dX9_doBuy_26 : decode cX9_doBuy 26 = .ok (.iload_n 2, 1) := by decide +kernel
theorem dX9_doBuy_27 : decode cX9_doBuy 27 = .ok (.iastore, 1) := by decide +kernel
theorem dX9_doBuy_28 : decode cX9_doBuy 28 = .ok (.aload_n 0, 1) := by decide +kernel
theorem dX9_doBuy_29 : decode cX9_doBuy 29 = .ok (.getfield 17, 3) := by decide +kernel
theorem dX9_doBuy_32 : decode cX9_doBuy 32 = .ok (.iload 4, 2) := by decide +kernel
theorem dX9_doBuy_34 : decode cX9_doBuy 34 = .ok (.iconst 1, 1) := by decide +kernel
theorem dX9_doBuy_35 : decode cX9_doBuy 35 = .ok (.iadd, 1) := by decide +kernel
theorem dX9_doBuy_36 : decode cX9_doBuy 36 = .ok (.iload_n 3, 1) := by decide +kernel
theorem dX9_doBuy_37 : decode cX9_doBuy 37 = .ok (.iastore, 1) := by decide +kernel
theorem dX9_doBuy_38 : decode cX9_doBuy 38 = .ok (.aload_n 0, 1) := by decide +kernel
theorem dX9_doBuy_39 : decode cX9_doBuy 39 = .ok (.iload_n 1, 1) := by decide +kernel
theorem dX9_doBuy_40 : decode cX9_doBuy 40 = .ok (.iconst 1, 1) := by decide +kernel
theorem dX9_doBuy_41 : decode cX9_doBuy 41 = .ok (.iconst 1, 1) := by decide +kernel
theorem dX9_doBuy_42 : decode cX9_doBuy 42 = .ok (.invokevirtual 91, 3) := by decide +kernel
theorem dX9_doBuy_45 : decode cX9_doBuy 45 = .ok (.aload_n 0, 1) := by decide +kernel
theorem dX9_doBuy_46 : decode cX9_doBuy 46 = .ok (.getfield 17, 3) := by decide +kernel
theorem dX9_doBuy_49 : decode cX9_doBuy 49 = .ok (.iconst 0, 1) := by decide +kernel
theorem dX9_doBuy_50 : decode cX9_doBuy 50 = .ok (.dup2, 1) := by decide +kernel
theorem dX9_doBuy_51 : decode cX9_doBuy 51 = .ok (.iaload, 1) := by decide +kernel
theorem dX9_doBuy_52 : decode cX9_doBuy 52 = .ok (.iload_n 2, 1) := by decide +kernel
theorem dX9_doBuy_53 : decode cX9_doBuy 53 = .ok (.iload_n 3, 1) := by decide +kernel
theorem dX9_doBuy_54 : decode cX9_doBuy 54 = .ok (.imul, 1) := by decide +kernel
theorem dX9_doBuy_55 : decode cX9_doBuy 55 = .ok (.isub, 1) := by decide +kernel
theorem dX9_doBuy_56 : decode cX9_doBuy 56 = .ok (.iastore, 1) := by decide +kernel
theorem dX9_doBuy_57 : decode cX9_doBuy 57 = .ok (.aload_n 0, 1) := by decide +kernel
theorem dX9_doBuy_58 : decode cX9_doBuy 58 = .ok (.getfield 17, 3) := by decide +kernel
theorem dX9_doBuy_61 : decode cX9_doBuy 61 = .ok (.bipush 9, 2) := by decide +kernel
theorem dX9_doBuy_63 : decode cX9_doBuy 63 = .ok (.dup2, 1) := by decide +kernel
theorem dX9_doBuy_64 : decode cX9_doBuy 64 = .ok (.iaload, 1) := by decide +kernel
theorem dX9_doBuy_65 : decode cX9_doBuy 65 = .ok (.iload_n 2, 1) := by decide +kernel
theorem dX9_doBuy_66 : decode cX9_doBuy 66 = .ok (.iload_n 3, 1) := by decide +kernel
theorem dX9_doBuy_67 : decode cX9_doBuy 67 = .ok (.imul, 1) := by decide +kernel
theorem dX9_doBuy_68 : decode cX9_doBuy 68 = .ok (.iadd, 1) := by decide +kernel
theorem dX9_doBuy_69 : decode cX9_doBuy 69 = .ok (.iastore, 1) := by decide +kernel
theorem dX9_doBuy_70 : decode cX9_doBuy 70 = .ok (.aload_n 0, 1) := by decide +kernel
theorem dX9_doBuy_71 : decode cX9_doBuy 71 = .ok (.getfield 17, 3) := by decide +kernel
theorem dX9_doBuy_74 : decode cX9_doBuy 74 = .ok (.iconst 0, 1) := by decide +kernel
theorem dX9_doBuy_75 : decode cX9_doBuy 75 = .ok (.iaload, 1) := by decide +kernel
theorem dX9_doBuy_76 : decode cX9_doBuy 76 = .ok (.ireturn, 1) := by decide +kernel
def fX9_doBuy (p1 : Int32) (p2 : Int32) (p3 : Int32) (v : bM) : Option (Int32 × bM) :=
  bnr (fX9_flour p1 1 v) fun r2 => nm (((40 + (28 * p1)) + 4) + (2 * r2)) fun x3 => ck x3 496 <| nm (upd v (710 + x3.toNatClampNeg) p2) fun v5 => ck (x3 + 1) 496 <| nm (upd v5 (710 + (x3 + 1).toNatClampNeg) p3) fun v7 => bnw (fX9_addToFlour p1 1 1 v7) fun w9 => nm ((w9 (710 + (0 : Int32).toNatClampNeg)) - (p2 * p3)) fun x10 => nm (upd w9 (710 + (0 : Int32).toNatClampNeg) x10) fun v11 => nm ((v11 (710 + (9 : Int32).toNatClampNeg)) + (p2 * p3)) fun x12 => nm (upd v11 (710 + (9 : Int32).toNatClampNeg) x12) fun v13 => some (v13 (710 + (0 : Int32).toNatClampNeg), v13)
set_option maxRecDepth 100000 in
set_option maxHeartbeats 4000000 in
theorem mX9_doBuy {l : Launch} {p1 : Int32} {p2 : Int32} {p3 : Int32} {v : bM} {r0 : Int32} {w0 : bM} (hf : fX9_doBuy p1 p2 p3 v = some (r0, w0)) : bMet l yX9_doBuy cX9_doBuy 5 (some .int) 1 0 0 LMo (fun E a => [.ref a, .int p1, .int p2, .int p3]) v w0 (fun _ => some (.int r0)) := by
  refine bk_start (by decide +kernel) wfMo (fun _ _ => Nat.le_of_ble_eq_true rfl) ?_
  intro p e s m args below meth c D E a ls H locs X hr hl hB
  have hx := X.1
  have hb := X.2.1
  have hown := X.2.2.2.1
  have hts := X.2.2.2.2.1
  have hl : lv_has ls 5 [(0, .ref a), (1, .int p1), (2, .int p2), (3, .int p3)] := hl
  have hf := (fX9_doBuy.eq_1 p1 p2 p3 v).symm.trans hf
  refine lv_bipush (v := 40) hx hb dX9_doBuy_0 (by decide) ?_
  refine lv_bipush (v := 28) hx hb dX9_doBuy_2 (by decide) ?_
  refine lv_iload_n hx hb dX9_doBuy_4 rfl (lv_at hl 1 rfl) ?_
  refine lv_imul hx hb dX9_doBuy_5 ?_
  refine lv_iadd hx hb dX9_doBuy_6 ?_
  refine lv_iconst (v := 4) hx hb dX9_doBuy_7 (by decide) ?_
  refine lv_iadd hx hb dX9_doBuy_8 ?_
  refine lv_iconst (v := 2) hx hb dX9_doBuy_9 (by decide) ?_
  refine lv_aload_n hx hb dX9_doBuy_10 rfl (lv_at hl 0 rfl) ?_
  refine lv_iload_n hx hb dX9_doBuy_11 rfl (lv_at hl 1 rfl) ?_
  refine lv_iconst (v := 1) hx hb dX9_doBuy_12 (by decide) ?_
  obtain ⟨r2, hc1, hf⟩ := bnr_some hf
  refine bk_all hB (fun h1 h2 h3 => bk_runV X (Av := [.int p1, .int 1]) (rest := [.int 2, .int ((40 + (28 * p1)) + 4)]) (mX9_flour hc1) yv_X9_flour wm_1758 ⟨Nat.le_of_ble_eq_true rfl, Nat.le_of_ble_eq_true rfl⟩ rfl rfl hl.1 kl_X9.1 (hB.1.obj lc_Mo_0) h1 h2 h3 (Nat.le_of_ble_eq_true rfl) ⟨Nat.le_of_ble_eq_true rfl, Nat.le_of_ble_eq_true rfl⟩ dX9_doBuy_13) (fun H locs hB => ?_)
  refine W.eq (g2 := F0 m 16 ls [.int r2, .int 2, .int ((40 + (28 * p1)) + 4)]) rfl ?_
  refine lv_imul hx hb dX9_doBuy_16 ?_
  refine lv_iadd hx hb dX9_doBuy_17 ?_
  refine lv_topi (fun x3 ex3 => ?_)
  have hf := nm_use hf ex3
  refine lv_istore (lv' := [(4, .int x3), (0, .ref a), (1, .int p1), (2, .int p2), (3, .int p3)]) hx hb dX9_doBuy_18 hl (by decide) rfl (fun ls hl => ?_)
  refine lv_aload_n hx hb dX9_doBuy_20 rfl (lv_at hl 1 rfl) ?_
  refine bk_getR X hB kl_X9 0 lc_Mo_0 5 (by decide) rfl wm_1868 dX9_doBuy_21 ?_
  refine lv_iload hx hb dX9_doBuy_24 (lv_at hl 0 rfl) ?_
  refine lv_iload_n hx hb dX9_doBuy_26 rfl (lv_at hl 3 rfl) ?_
  obtain ⟨h4, hf⟩ := ck_some hf
  refine bk_ast X hB 2 lc_Mo_2 h4 dX9_doBuy_27 (fun H locs hB => ?_)
  obtain ⟨v5, ev5⟩ : ∃ y : bM, y = upd v (710 + x3.toNatClampNeg) p2 := ⟨_, rfl⟩
  have hf := nm_use hf ev5
  rw [← ev5] at hB
  refine lv_aload_n hx hb dX9_doBuy_28 rfl (lv_at hl 1 rfl) ?_
  refine bk_getR X hB kl_X9 0 lc_Mo_0 5 (by decide) rfl wm_1868 dX9_doBuy_29 ?_
  refine lv_iload hx hb dX9_doBuy_32 (lv_at hl 0 rfl) ?_
  refine lv_iconst (v := 1) hx hb dX9_doBuy_34 (by decide) ?_
  refine lv_iadd hx hb dX9_doBuy_35 ?_
  refine lv_iload_n hx hb dX9_doBuy_36 rfl (lv_at hl 4 rfl) ?_
  obtain ⟨h6, hf⟩ := ck_some hf
  refine bk_ast X hB 2 lc_Mo_2 h6 dX9_doBuy_37 (fun H locs hB => ?_)
  obtain ⟨v7, ev7⟩ : ∃ y : bM, y = upd v5 (710 + (x3 + 1).toNatClampNeg) p3 := ⟨_, rfl⟩
  have hf := nm_use hf ev7
  rw [← ev7] at hB
  refine lv_aload_n hx hb dX9_doBuy_38 rfl (lv_at hl 1 rfl) ?_
  refine lv_iload_n hx hb dX9_doBuy_39 rfl (lv_at hl 2 rfl) ?_
  refine lv_iconst (v := 1) hx hb dX9_doBuy_40 (by decide) ?_
  refine lv_iconst (v := 1) hx hb dX9_doBuy_41 (by decide) ?_
  obtain ⟨w9, hc8, hf⟩ := bnw_some hf
  refine bk_all hB (fun h1 h2 h3 => bk_runV X (Av := [.int p1, .int 1, .int 1]) (rest := []) (mX9_addToFlour hc8) yv_X9_addToFlour wm_1798 ⟨Nat.le_of_ble_eq_true rfl, Nat.le_of_ble_eq_true rfl⟩ rfl rfl hl.1 kl_X9.1 (hB.1.obj lc_Mo_0) h1 h2 h3 (Nat.le_of_ble_eq_true rfl) ⟨Nat.le_of_ble_eq_true rfl, Nat.le_of_ble_eq_true rfl⟩ dX9_doBuy_42) (fun H locs hB => ?_)
  refine W.eq (g2 := F0 m 45 ls []) rfl ?_
  refine lv_aload_n hx hb dX9_doBuy_45 rfl (lv_at hl 1 rfl) ?_
  refine bk_getR X hB kl_X9 0 lc_Mo_0 5 (by decide) rfl wm_1868 dX9_doBuy_46 ?_
  refine lv_iconst (v := 0) hx hb dX9_doBuy_49 (by decide) ?_
  refine lv_dup2_11 hx hb dX9_doBuy_50 rfl rfl ?_
  refine bk_ald X hB 2 lc_Mo_2 (vp_c 0 496 rfl) dX9_doBuy_51 ?_
  refine lv_iload_n hx hb dX9_doBuy_52 rfl (lv_at hl 3 rfl) ?_
  refine lv_iload_n hx hb dX9_doBuy_53 rfl (lv_at hl 4 rfl) ?_
  refine lv_imul hx hb dX9_doBuy_54 ?_
  refine lv_isub hx hb dX9_doBuy_55 ?_
  refine lv_topi (fun x10 ex10 => ?_)
  have hf := nm_use hf ex10
  refine bk_ast X hB 2 lc_Mo_2 (vp_c 0 496 rfl) dX9_doBuy_56 (fun H locs hB => ?_)
  obtain ⟨v11, ev11⟩ : ∃ y : bM, y = upd w9 (710 + (0 : Int32).toNatClampNeg) x10 := ⟨_, rfl⟩
  have hf := nm_use hf ev11
  rw [← ev11] at hB
  refine lv_aload_n hx hb dX9_doBuy_57 rfl (lv_at hl 1 rfl) ?_
  refine bk_getR X hB kl_X9 0 lc_Mo_0 5 (by decide) rfl wm_1868 dX9_doBuy_58 ?_
  refine lv_bipush (v := 9) hx hb dX9_doBuy_61 (by decide) ?_
  refine lv_dup2_11 hx hb dX9_doBuy_63 rfl rfl ?_
  refine bk_ald X hB 2 lc_Mo_2 (vp_c 9 496 rfl) dX9_doBuy_64 ?_
  refine lv_iload_n hx hb dX9_doBuy_65 rfl (lv_at hl 3 rfl) ?_
  refine lv_iload_n hx hb dX9_doBuy_66 rfl (lv_at hl 4 rfl) ?_
  refine lv_imul hx hb dX9_doBuy_67 ?_
  refine lv_iadd hx hb dX9_doBuy_68 ?_
  refine lv_topi (fun x12 ex12 => ?_)
  have hf := nm_use hf ex12
  refine bk_ast X hB 2 lc_Mo_2 (vp_c 9 496 rfl) dX9_doBuy_69 (fun H locs hB => ?_)
  obtain ⟨v13, ev13⟩ : ∃ y : bM, y = upd v11 (710 + (9 : Int32).toNatClampNeg) x12 := ⟨_, rfl⟩
  have hf := nm_use hf ev13
  rw [← ev13] at hB
  refine lv_aload_n hx hb dX9_doBuy_70 rfl (lv_at hl 1 rfl) ?_
  refine bk_getR X hB kl_X9 0 lc_Mo_0 5 (by decide) rfl wm_1868 dX9_doBuy_71 ?_
  refine lv_iconst (v := 0) hx hb dX9_doBuy_74 (by decide) ?_
  refine bk_ald X hB 2 lc_Mo_2 (vp_c 0 496 rfl) dX9_doBuy_75 ?_
  exact bk_iW X hr rfl hf hB (Nat.le_of_ble_eq_true rfl) (Nat.le_of_ble_eq_true rfl) dX9_doBuy_76
theorem yv_X9_doBuy : bYv yX9_doBuy RX9 cX9_doBuy 5 (some .int) 3 := ⟨⟨rfl, by decide, by decide, rfl⟩, wm_1808, wp_60, wm_17, wm_1809⟩

theorem dX9_doSell_0 : decode cX9_doSell 0 = .ok (.aload_n 0, 1) := by decide +kernel
theorem dX9_doSell_1 : decode cX9_doSell 1 = .ok (.getfield 17, 3) := by decide +kernel
theorem dX9_doSell_4 : decode cX9_doSell 4 = .ok (.sipush 208, 3) := by decide +kernel
theorem dX9_doSell_7 : decode cX9_doSell 7 = .ok (.iconst 4, 1) := by decide +kernel
theorem dX9_doSell_8 : decode cX9_doSell 8 = .ok (.iload_n 1, 1) := by decide +kernel
theorem dX9_doSell_9 : decode cX9_doSell 9 = .ok (.imul, 1) := by decide +kernel
theorem dX9_doSell_10 : decode cX9_doSell 10 = .ok (.iadd, 1) := by decide +kernel
theorem dX9_doSell_11 : decode cX9_doSell 11 = .ok (.iconst 3, 1) := by decide +kernel
theorem dX9_doSell_12 : decode cX9_doSell 12 = .ok (.iadd, 1) := by decide +kernel
theorem dX9_doSell_13 : decode cX9_doSell 13 = .ok (.dup2, 1) := by decide +kernel
theorem dX9_doSell_14 : decode cX9_doSell 14 = .ok (.iaload, 1) := by decide +kernel
theorem dX9_doSell_15 : decode cX9_doSell 15 = .ok (.iload_n 2, 1) := by decide +kernel
theorem dX9_doSell_16 : decode cX9_doSell 16 = .ok (.isub, 1) := by decide +kernel
theorem dX9_doSell_17 : decode cX9_doSell 17 = .ok (.iastore, 1) := by decide +kernel
theorem dX9_doSell_18 : decode cX9_doSell 18 = .ok (.aload_n 0, 1) := by decide +kernel
theorem dX9_doSell_19 : decode cX9_doSell 19 = .ok (.getfield 17, 3) := by decide +kernel
theorem dX9_doSell_22 : decode cX9_doSell 22 = .ok (.iconst 0, 1) := by decide +kernel
theorem dX9_doSell_23 : decode cX9_doSell 23 = .ok (.dup2, 1) := by decide +kernel
theorem dX9_doSell_24 : decode cX9_doSell 24 = .ok (.iaload, 1) := by decide +kernel
theorem dX9_doSell_25 : decode cX9_doSell 25 = .ok (.iload_n 2, 1) := by decide +kernel
theorem dX9_doSell_26 : decode cX9_doSell 26 = .ok (.iload_n 3, 1) := by decide +kernel
theorem dX9_doSell_27 : decode cX9_doSell 27 = .ok (.imul, 1) := by decide +kernel
theorem dX9_doSell_28 : decode cX9_doSell 28 = .ok (.iadd, 1) := by decide +kernel
theorem dX9_doSell_29 : decode cX9_doSell 29 = .ok (.iastore, 1) := by decide +kernel
theorem dX9_doSell_30 : decode cX9_doSell 30 = .ok (.aload_n 0, 1) := by decide +kernel
theorem dX9_doSell_31 : decode cX9_doSell 31 = .ok (.getfield 17, 3) := by decide +kernel
theorem dX9_doSell_34 : decode cX9_doSell 34 = .ok (.bipush 8, 2) := by decide +kernel
theorem dX9_doSell_36 : decode cX9_doSell 36 = .ok (.dup2, 1) := by decide +kernel
theorem dX9_doSell_37 : decode cX9_doSell 37 = .ok (.iaload, 1) := by decide +kernel
theorem dX9_doSell_38 : decode cX9_doSell 38 = .ok (.iload_n 2, 1) := by decide +kernel
theorem dX9_doSell_39 : decode cX9_doSell 39 = .ok (.iload_n 3, 1) := by decide +kernel
theorem dX9_doSell_40 : decode cX9_doSell 40 = .ok (.imul, 1) := by decide +kernel
theorem dX9_doSell_41 : decode cX9_doSell 41 = .ok (.iadd, 1) := by decide +kernel
theorem dX9_doSell_42 : decode cX9_doSell 42 = .ok (.iastore, 1) := by decide +kernel
theorem dX9_doSell_43 : decode cX9_doSell 43 = .ok (.aload_n 0, 1) := by decide +kernel
theorem dX9_doSell_44 : decode cX9_doSell 44 = .ok (.getfield 17, 3) := by decide +kernel
theorem dX9_doSell_47 : decode cX9_doSell 47 = .ok (.bipush 11, 2) := by decide +kernel
theorem dX9_doSell_49 : decode cX9_doSell 49 = .ok (.dup2, 1) := by decide +kernel
theorem dX9_doSell_50 : decode cX9_doSell 50 = .ok (.iaload, 1) := by decide +kernel
theorem dX9_doSell_51 : decode cX9_doSell 51 = .ok (.iload_n 2, 1) := by decide +kernel
theorem dX9_doSell_52 : decode cX9_doSell 52 = .ok (.aload_n 0, 1) := by decide +kernel
theorem dX9_doSell_53 : decode cX9_doSell 53 = .ok (.iload_n 1, 1) := by decide +kernel
theorem dX9_doSell_54 : decode cX9_doSell 54 = .ok (.iconst 0, 1) := by decide +kernel
theorem dX9_doSell_55 : decode cX9_doSell 55 = .ok (.invokevirtual 71, 3) := by decide +kernel
theorem dX9_doSell_58 : decode cX9_doSell 58 = .ok (.iload_n 3, 1) := by decide +kernel
theorem dX9_doSell_59 : decode cX9_doSell 59 = .ok (.isub, 1) := by decide +kernel
theorem dX9_doSell_60 : decode cX9_doSell 60 = .ok (.imul, 1) := by decide +kernel
theorem dX9_doSell_61 : decode cX9_doSell 61 = .ok (.iadd, 1) := by decide +kernel
theorem dX9_doSell_62 : decode cX9_doSell 62 = .ok (.iastore, 1) := by decide +kernel
theorem dX9_doSell_63 : decode cX9_doSell 63 = .ok (.aload_n 0, 1) := by decide +kernel
theorem dX9_doSell_64 : decode cX9_doSell 64 = .ok (.getfield 17, 3) := by decide +kernel
theorem dX9_doSell_67 : decode cX9_doSell 67 = .ok (.bipush 12, 2) := by decide +kernel
theorem dX9_doSell_69 : decode cX9_doSell 69 = .ok (.dup2, 1) := by decide +kernel
theorem dX9_doSell_70 : decode cX9_doSell 70 = .ok (.iaload, 1) := by decide +kernel
theorem dX9_doSell_71 : decode cX9_doSell 71 = .ok (.iload_n 2, 1) := by decide +kernel
theorem dX9_doSell_72 : decode cX9_doSell 72 = .ok (.aload_n 0, 1) := by decide +kernel
theorem dX9_doSell_73 : decode cX9_doSell 73 = .ok (.iload_n 1, 1) := by decide +kernel
theorem dX9_doSell_74 : decode cX9_doSell 74 = .ok (.iconst 0, 1) := by decide +kernel
theorem dX9_doSell_75 : decode cX9_doSell 75 = .ok (.invokevirtual 71, 3) := by decide +kernel
theorem dX9_doSell_78 : decode cX9_doSell 78 = .ok (.aload_n 0, 1) := by decide +kernel
theorem dX9_doSell_79 : decode cX9_doSell 79 = .ok (.iload_n 1, 1) := by decide +kernel
theorem dX9_doSell_80 : decode cX9_doSell 80 = .ok (.invokevirtual 121, 3) := by decide +kernel
theorem dX9_doSell_83 : decode cX9_doSell 83 = .ok (.isub, 1) := by decide +kernel
theorem dX9_doSell_84 : decode cX9_doSell 84 = .ok (.imul, 1) := by decide +kernel
theorem dX9_doSell_85 : decode cX9_doSell 85 = .ok (.iadd, 1) := by decide +kernel
theorem dX9_doSell_86 : decode cX9_doSell 86 = .ok (.iastore, 1) := by decide +kernel
theorem dX9_doSell_87 : decode cX9_doSell 87 = .ok (.aload_n 0, 1) := by decide +kernel
theorem dX9_doSell_88 : decode cX9_doSell 88 = .ok (.getfield 17, 3) := by decide +kernel
theorem dX9_doSell_91 : decode cX9_doSell 91 = .ok (.iconst 0, 1) := by decide +kernel
theorem dX9_doSell_92 : decode cX9_doSell 92 = .ok (.iaload, 1) := by decide +kernel
theorem dX9_doSell_93 : decode cX9_doSell 93 = .ok (.ireturn, 1) := by decide +kernel
def fX9_doSell (p1 : Int32) (p2 : Int32) (p3 : Int32) (v : bM) : Option (Int32 × bM) :=
  nm ((208 + (4 * p1)) + 3) fun x1 => ck x1 496 <| nm ((v (710 + x1.toNatClampNeg)) - p2) fun x3 => ck x1 496 <| nm (upd v (710 + x1.toNatClampNeg) x3) fun v5 => nm ((v5 (710 + (0 : Int32).toNatClampNeg)) + (p2 * p3)) fun x6 => nm (upd v5 (710 + (0 : Int32).toNatClampNeg) x6) fun v7 => nm ((v7 (710 + (8 : Int32).toNatClampNeg)) + (p2 * p3)) fun x8 => nm (upd v7 (710 + (8 : Int32).toNatClampNeg) x8) fun v9 => bnr (fX9_bread p1 0 v9) fun r11 => nm ((v9 (710 + (11 : Int32).toNatClampNeg)) + (p2 * (r11 - p3))) fun x12 => nm (upd v9 (710 + (11 : Int32).toNatClampNeg) x12) fun v13 => bnr (fX9_bread p1 0 v13) fun r15 => bnr (fX9_standard p1 v13) fun r17 => nm ((v13 (710 + (12 : Int32).toNatClampNeg)) + (p2 * (r15 - r17))) fun x18 => nm (upd v13 (710 + (12 : Int32).toNatClampNeg) x18) fun v19 => some (v19 (710 + (0 : Int32).toNatClampNeg), v19)
set_option maxRecDepth 100000 in
set_option maxHeartbeats 4000000 in
theorem mX9_doSell {l : Launch} {p1 : Int32} {p2 : Int32} {p3 : Int32} {v : bM} {r0 : Int32} {w0 : bM} (hf : fX9_doSell p1 p2 p3 v = some (r0, w0)) : bMet l yX9_doSell cX9_doSell 4 (some .int) 3 0 0 LMo (fun E a => [.ref a, .int p1, .int p2, .int p3]) v w0 (fun _ => some (.int r0)) := by
  refine bk_start (by decide +kernel) wfMo (fun _ _ => Nat.le_of_ble_eq_true rfl) ?_
  intro p e s m args below meth c D E a ls H locs X hr hl hB
  have hx := X.1
  have hb := X.2.1
  have hown := X.2.2.2.1
  have hts := X.2.2.2.2.1
  have hl : lv_has ls 4 [(0, .ref a), (1, .int p1), (2, .int p2), (3, .int p3)] := hl
  have hf := (fX9_doSell.eq_1 p1 p2 p3 v).symm.trans hf
  refine lv_aload_n hx hb dX9_doSell_0 rfl (lv_at hl 0 rfl) ?_
  refine bk_getR X hB kl_X9 0 lc_Mo_0 5 (by decide) rfl wm_1868 dX9_doSell_1 ?_
  refine lv_sipush (v := 208) hx hb dX9_doSell_4 (by decide) ?_
  refine lv_iconst (v := 4) hx hb dX9_doSell_7 (by decide) ?_
  refine lv_iload_n hx hb dX9_doSell_8 rfl (lv_at hl 1 rfl) ?_
  refine lv_imul hx hb dX9_doSell_9 ?_
  refine lv_iadd hx hb dX9_doSell_10 ?_
  refine lv_iconst (v := 3) hx hb dX9_doSell_11 (by decide) ?_
  refine lv_iadd hx hb dX9_doSell_12 ?_
  refine lv_topi (fun x1 ex1 => ?_)
  have hf := nm_use hf ex1
  refine lv_dup2_11 hx hb dX9_doSell_13 rfl rfl ?_
  obtain ⟨h2, hf⟩ := ck_some hf
  refine bk_ald X hB 2 lc_Mo_2 h2 dX9_doSell_14 ?_
  refine lv_iload_n hx hb dX9_doSell_15 rfl (lv_at hl 2 rfl) ?_
  refine lv_isub hx hb dX9_doSell_16 ?_
  refine lv_topi (fun x3 ex3 => ?_)
  have hf := nm_use hf ex3
  obtain ⟨h4, hf⟩ := ck_some hf
  refine bk_ast X hB 2 lc_Mo_2 h4 dX9_doSell_17 (fun H locs hB => ?_)
  obtain ⟨v5, ev5⟩ : ∃ y : bM, y = upd v (710 + x1.toNatClampNeg) x3 := ⟨_, rfl⟩
  have hf := nm_use hf ev5
  rw [← ev5] at hB
  refine lv_aload_n hx hb dX9_doSell_18 rfl (lv_at hl 0 rfl) ?_
  refine bk_getR X hB kl_X9 0 lc_Mo_0 5 (by decide) rfl wm_1868 dX9_doSell_19 ?_
  refine lv_iconst (v := 0) hx hb dX9_doSell_22 (by decide) ?_
  refine lv_dup2_11 hx hb dX9_doSell_23 rfl rfl ?_
  refine bk_ald X hB 2 lc_Mo_2 (vp_c 0 496 rfl) dX9_doSell_24 ?_
  refine lv_iload_n hx hb dX9_doSell_25 rfl (lv_at hl 2 rfl) ?_
  refine lv_iload_n hx hb dX9_doSell_26 rfl (lv_at hl 3 rfl) ?_
  refine lv_imul hx hb dX9_doSell_27 ?_
  refine lv_iadd hx hb dX9_doSell_28 ?_
  refine lv_topi (fun x6 ex6 => ?_)
  have hf := nm_use hf ex6
  refine bk_ast X hB 2 lc_Mo_2 (vp_c 0 496 rfl) dX9_doSell_29 (fun H locs hB => ?_)
  obtain ⟨v7, ev7⟩ : ∃ y : bM, y = upd v5 (710 + (0 : Int32).toNatClampNeg) x6 := ⟨_, rfl⟩
  have hf := nm_use hf ev7
  rw [← ev7] at hB
  refine lv_aload_n hx hb dX9_doSell_30 rfl (lv_at hl 0 rfl) ?_
  refine bk_getR X hB kl_X9 0 lc_Mo_0 5 (by decide) rfl wm_1868 dX9_doSell_31 ?_
  refine lv_bipush (v := 8) hx hb dX9_doSell_34 (by decide) ?_
  refine lv_dup2_11 hx hb dX9_doSell_36 rfl rfl ?_
  refine bk_ald X hB 2 lc_Mo_2 (vp_c 8 496 rfl) dX9_doSell_37 ?_
  refine lv_iload_n hx hb dX9_doSell_38 rfl (lv_at hl 2 rfl) ?_
  refine lv_iload_n hx hb dX9_doSell_39 rfl (lv_at hl 3 rfl) ?_
  refine lv_imul hx hb dX9_doSell_40 ?_
  refine lv_iadd hx hb dX9_doSell_41 ?_
  refine lv_topi (fun x8 ex8 => ?_)
  have hf := nm_use hf ex8
  refine bk_ast X hB 2 lc_Mo_2 (vp_c 8 496 rfl) dX9_doSell_42 (fun H locs hB => ?_)
  obtain ⟨v9, ev9⟩ : ∃ y : bM, y = upd v7 (710 + (8 : Int32).toNatClampNeg) x8 := ⟨_, rfl⟩
  have hf := nm_use hf ev9
  rw [← ev9] at hB
  refine lv_aload_n hx hb dX9_doSell_43 rfl (lv_at hl 0 rfl) ?_
  refine bk_getR X hB kl_X9 0 lc_Mo_0 5 (by decide) rfl wm_1868 dX9_doSell_44 ?_
  refine lv_bipush (v := 11) hx hb dX9_doSell_47 (by decide) ?_
  refine lv_dup2_11 hx hb dX9_doSell_49 rfl rfl ?_
  refine bk_ald X hB 2 lc_Mo_2 (vp_c 11 496 rfl) dX9_doSell_50 ?_
  refine lv_iload_n hx hb dX9_doSell_51 rfl (lv_at hl 2 rfl) ?_
  refine lv_aload_n hx hb dX9_doSell_52 rfl (lv_at hl 0 rfl) ?_
  refine lv_iload_n hx hb dX9_doSell_53 rfl (lv_at hl 1 rfl) ?_
  refine lv_iconst (v := 0) hx hb dX9_doSell_54 (by decide) ?_
  obtain ⟨r11, hc10, hf⟩ := bnr_some hf
  refine bk_all hB (fun h1 h2 h3 => bk_runV X (Av := [.int p1, .int 0]) (rest := [.int p2, .int (v9 (710 + (11 : Int32).toNatClampNeg)), .int 11, .ref (a + 2)]) (mX9_bread hc10) yv_X9_bread wm_1774 ⟨Nat.le_of_ble_eq_true rfl, Nat.le_of_ble_eq_true rfl⟩ rfl rfl hl.1 kl_X9.1 (hB.1.obj lc_Mo_0) h1 h2 h3 (Nat.le_of_ble_eq_true rfl) ⟨Nat.le_of_ble_eq_true rfl, Nat.le_of_ble_eq_true rfl⟩ dX9_doSell_55) (fun H locs hB => ?_)
  refine W.eq (g2 := F0 m 58 ls [.int r11, .int p2, .int (v9 (710 + (11 : Int32).toNatClampNeg)), .int 11, .ref (a + 2)]) rfl ?_
  refine lv_iload_n hx hb dX9_doSell_58 rfl (lv_at hl 3 rfl) ?_
  refine lv_isub hx hb dX9_doSell_59 ?_
  refine lv_imul hx hb dX9_doSell_60 ?_
  refine lv_iadd hx hb dX9_doSell_61 ?_
  refine lv_topi (fun x12 ex12 => ?_)
  have hf := nm_use hf ex12
  refine bk_ast X hB 2 lc_Mo_2 (vp_c 11 496 rfl) dX9_doSell_62 (fun H locs hB => ?_)
  obtain ⟨v13, ev13⟩ : ∃ y : bM, y = upd v9 (710 + (11 : Int32).toNatClampNeg) x12 := ⟨_, rfl⟩
  have hf := nm_use hf ev13
  rw [← ev13] at hB
  refine lv_aload_n hx hb dX9_doSell_63 rfl (lv_at hl 0 rfl) ?_
  refine bk_getR X hB kl_X9 0 lc_Mo_0 5 (by decide) rfl wm_1868 dX9_doSell_64 ?_
  refine lv_bipush (v := 12) hx hb dX9_doSell_67 (by decide) ?_
  refine lv_dup2_11 hx hb dX9_doSell_69 rfl rfl ?_
  refine bk_ald X hB 2 lc_Mo_2 (vp_c 12 496 rfl) dX9_doSell_70 ?_
  refine lv_iload_n hx hb dX9_doSell_71 rfl (lv_at hl 2 rfl) ?_
  refine lv_aload_n hx hb dX9_doSell_72 rfl (lv_at hl 0 rfl) ?_
  refine lv_iload_n hx hb dX9_doSell_73 rfl (lv_at hl 1 rfl) ?_
  refine lv_iconst (v := 0) hx hb dX9_doSell_74 (by decide) ?_
  obtain ⟨r15, hc14, hf⟩ := bnr_some hf
  refine bk_all hB (fun h1 h2 h3 => bk_runV X (Av := [.int p1, .int 0]) (rest := [.int p2, .int (v13 (710 + (12 : Int32).toNatClampNeg)), .int 12, .ref (a + 2)]) (mX9_bread hc14) yv_X9_bread wm_1774 ⟨Nat.le_of_ble_eq_true rfl, Nat.le_of_ble_eq_true rfl⟩ rfl rfl hl.1 kl_X9.1 (hB.1.obj lc_Mo_0) h1 h2 h3 (Nat.le_of_ble_eq_true rfl) ⟨Nat.le_of_ble_eq_true rfl, Nat.le_of_ble_eq_true rfl⟩ dX9_doSell_75) (fun H locs hB => ?_)
  refine W.eq (g2 := F0 m 78 ls [.int r15, .int p2, .int (v13 (710 + (12 : Int32).toNatClampNeg)), .int 12, .ref (a + 2)]) rfl ?_
  refine lv_aload_n hx hb dX9_doSell_78 rfl (lv_at hl 0 rfl) ?_
  refine lv_iload_n hx hb dX9_doSell_79 rfl (lv_at hl 1 rfl) ?_
  obtain ⟨r17, hc16, hf⟩ := bnr_some hf
  refine bk_all hB (fun h1 h2 h3 => bk_runV X (Av := [.int p1]) (rest := [.int r15, .int p2, .int (v13 (710 + (12 : Int32).toNatClampNeg)), .int 12, .ref (a + 2)]) (mX9_standard hc16) yv_X9_standard wm_1847 ⟨Nat.le_of_ble_eq_true rfl, Nat.le_of_ble_eq_true rfl⟩ rfl rfl hl.1 kl_X9.1 (hB.1.obj lc_Mo_0) h1 h2 h3 (Nat.le_of_ble_eq_true rfl) ⟨Nat.le_of_ble_eq_true rfl, Nat.le_of_ble_eq_true rfl⟩ dX9_doSell_80) (fun H locs hB => ?_)
  refine W.eq (g2 := F0 m 83 ls [.int r17, .int r15, .int p2, .int (v13 (710 + (12 : Int32).toNatClampNeg)), .int 12, .ref (a + 2)]) rfl ?_
  refine lv_isub hx hb dX9_doSell_83 ?_
  refine lv_imul hx hb dX9_doSell_84 ?_
  refine lv_iadd hx hb dX9_doSell_85 ?_
  refine lv_topi (fun x18 ex18 => ?_)
  have hf := nm_use hf ex18
  refine bk_ast X hB 2 lc_Mo_2 (vp_c 12 496 rfl) dX9_doSell_86 (fun H locs hB => ?_)
  obtain ⟨v19, ev19⟩ : ∃ y : bM, y = upd v13 (710 + (12 : Int32).toNatClampNeg) x18 := ⟨_, rfl⟩
  have hf := nm_use hf ev19
  rw [← ev19] at hB
  refine lv_aload_n hx hb dX9_doSell_87 rfl (lv_at hl 0 rfl) ?_
  refine bk_getR X hB kl_X9 0 lc_Mo_0 5 (by decide) rfl wm_1868 dX9_doSell_88 ?_
  refine lv_iconst (v := 0) hx hb dX9_doSell_91 (by decide) ?_
  refine bk_ald X hB 2 lc_Mo_2 (vp_c 0 496 rfl) dX9_doSell_92 ?_
  exact bk_iW X hr rfl hf hB (Nat.le_of_ble_eq_true rfl) (Nat.le_of_ble_eq_true rfl) dX9_doSell_93
theorem yv_X9_doSell : bYv yX9_doSell RX9 cX9_doSell 4 (some .int) 3 := ⟨⟨rfl, by decide, by decide, rfl⟩, wm_1853, wp_71, wm_17, wm_1854⟩

theorem dX9_doRate_0 : decode cX9_doRate 0 = .ok (.aload_n 0, 1) := by decide +kernel
theorem dX9_doRate_1 : decode cX9_doRate 1 = .ok (.getfield 17, 3) := by decide +kernel
theorem dX9_doRate_4 : decode cX9_doRate 4 = .ok (.bipush 13, 2) := by decide +kernel
theorem dX9_doRate_6 : decode cX9_doRate 6 = .ok (.iload_n 1, 1) := by decide +kernel
theorem dX9_doRate_7 : decode cX9_doRate 7 = .ok (.iadd, 1) := by decide +kernel
theorem dX9_doRate_8 : decode cX9_doRate 8 = .ok (.iaload, 1) := by decide +kernel
theorem dX9_doRate_9 : decode cX9_doRate 9 = .ok (.istore_n 3, 1) := by decide +kernel
theorem dX9_doRate_10 : decode cX9_doRate 10 = .ok (.aload_n 0, 1) := by decide +kernel
theorem dX9_doRate_11 : decode cX9_doRate 11 = .ok (.getfield 17, 3) := by decide +kernel
theorem dX9_doRate_14 : decode cX9_doRate 14 = .ok (.bipush 13, 2) := by decide +kernel
theorem dX9_doRate_16 : decode cX9_doRate 16 = .ok (.iload_n 1, 1) := by decide +kernel
theorem dX9_doRate_17 : decode cX9_doRate 17 = .ok (.iadd, 1) := by decide +kernel
theorem dX9_doRate_18 : decode cX9_doRate 18 = .ok (.iload_n 2, 1) := by decide +kernel
theorem dX9_doRate_19 : decode cX9_doRate 19 = .ok (.iastore, 1) := by decide +kernel
theorem dX9_doRate_20 : decode cX9_doRate 20 = .ok (.iload_n 3, 1) := by decide +kernel
theorem dX9_doRate_21 : decode cX9_doRate 21 = .ok (.ireturn, 1) := by decide +kernel
def fX9_doRate (p1 : Int32) (p2 : Int32) (v : bM) : Option (Int32 × bM) :=
  ck (13 + p1) 496 <| nm (v (710 + (13 + p1).toNatClampNeg)) fun x2 => ck (13 + p1) 496 <| nm (upd v (710 + (13 + p1).toNatClampNeg) p2) fun v4 => some (x2, v4)
set_option maxRecDepth 100000 in
set_option maxHeartbeats 4000000 in
theorem mX9_doRate {l : Launch} {p1 : Int32} {p2 : Int32} {v : bM} {r0 : Int32} {w0 : bM} (hf : fX9_doRate p1 p2 v = some (r0, w0)) : bMet l yX9_doRate cX9_doRate 4 (some .int) 0 0 0 LMo (fun E a => [.ref a, .int p1, .int p2]) v w0 (fun _ => some (.int r0)) := by
  refine bk_start (by decide +kernel) wfMo (fun _ _ => Nat.le_of_ble_eq_true rfl) ?_
  intro p e s m args below meth c D E a ls H locs X hr hl hB
  have hx := X.1
  have hb := X.2.1
  have hown := X.2.2.2.1
  have hts := X.2.2.2.2.1
  have hl : lv_has ls 4 [(0, .ref a), (1, .int p1), (2, .int p2)] := hl
  have hf := (fX9_doRate.eq_1 p1 p2 v).symm.trans hf
  refine lv_aload_n hx hb dX9_doRate_0 rfl (lv_at hl 0 rfl) ?_
  refine bk_getR X hB kl_X9 0 lc_Mo_0 5 (by decide) rfl wm_1868 dX9_doRate_1 ?_
  refine lv_bipush (v := 13) hx hb dX9_doRate_4 (by decide) ?_
  refine lv_iload_n hx hb dX9_doRate_6 rfl (lv_at hl 1 rfl) ?_
  refine lv_iadd hx hb dX9_doRate_7 ?_
  obtain ⟨h1, hf⟩ := ck_some hf
  refine bk_ald X hB 2 lc_Mo_2 h1 dX9_doRate_8 ?_
  refine lv_topi (fun x2 ex2 => ?_)
  have hf := nm_use hf ex2
  refine lv_istore_n (lv' := [(3, .int x2), (0, .ref a), (1, .int p1), (2, .int p2)]) hx hb dX9_doRate_9 rfl hl (by decide) rfl (fun ls hl => ?_)
  refine lv_aload_n hx hb dX9_doRate_10 rfl (lv_at hl 1 rfl) ?_
  refine bk_getR X hB kl_X9 0 lc_Mo_0 5 (by decide) rfl wm_1868 dX9_doRate_11 ?_
  refine lv_bipush (v := 13) hx hb dX9_doRate_14 (by decide) ?_
  refine lv_iload_n hx hb dX9_doRate_16 rfl (lv_at hl 2 rfl) ?_
  refine lv_iadd hx hb dX9_doRate_17 ?_
  refine lv_iload_n hx hb dX9_doRate_18 rfl (lv_at hl 3 rfl) ?_
  obtain ⟨h3, hf⟩ := ck_some hf
  refine bk_ast X hB 2 lc_Mo_2 h3 dX9_doRate_19 (fun H locs hB => ?_)
  obtain ⟨v4, ev4⟩ : ∃ y : bM, y = upd v (710 + (13 + p1).toNatClampNeg) p2 := ⟨_, rfl⟩
  have hf := nm_use hf ev4
  rw [← ev4] at hB
  refine lv_iload_n hx hb dX9_doRate_20 rfl (lv_at hl 0 rfl) ?_
  exact bk_iW X hr rfl hf hB (Nat.le_of_ble_eq_true rfl) (Nat.le_of_ble_eq_true rfl) dX9_doRate_21
theorem yv_X9_doRate : bYv yX9_doRate RX9 cX9_doRate 4 (some .int) 2 := ⟨⟨rfl, by decide, by decide, rfl⟩, wm_1812, wp_61, wm_17, wm_1813⟩

theorem dX9_doWait_0 : decode cX9_doWait 0 = .ok (.aload_n 0, 1) := by decide +kernel
theorem dX9_doWait_1 : decode cX9_doWait 1 = .ok (.getfield 17, 3) := by decide +kernel
theorem dX9_doWait_4 : decode cX9_doWait 4 = .ok (.iconst 4, 1) := by decide +kernel
theorem dX9_doWait_5 : decode cX9_doWait 5 = .ok (.dup2, 1) := by decide +kernel
theorem dX9_doWait_6 : decode cX9_doWait 6 = .ok (.iaload, 1) := by decide +kernel
theorem dX9_doWait_7 : decode cX9_doWait 7 = .ok (.iload_n 1, 1) := by decide +kernel
theorem dX9_doWait_8 : decode cX9_doWait 8 = .ok (.iadd, 1) := by decide +kernel
theorem dX9_doWait_9 : decode cX9_doWait 9 = .ok (.iastore, 1) := by decide +kernel
theorem dX9_doWait_10 : decode cX9_doWait 10 = .ok (.aload_n 0, 1) := by decide +kernel
theorem dX9_doWait_11 : decode cX9_doWait 11 = .ok (.getfield 17, 3) := by decide +kernel
theorem dX9_doWait_14 : decode cX9_doWait 14 = .ok (.iconst 4, 1) := by decide +kernel
theorem dX9_doWait_15 : decode cX9_doWait 15 = .ok (.iaload, 1) := by decide +kernel
theorem dX9_doWait_16 : decode cX9_doWait 16 = .ok (.ireturn, 1) := by decide +kernel
def fX9_doWait (p1 : Int32) (v : bM) : Option (Int32 × bM) :=
  nm ((v (710 + (4 : Int32).toNatClampNeg)) + p1) fun x1 => nm (upd v (710 + (4 : Int32).toNatClampNeg) x1) fun v2 => some (v2 (710 + (4 : Int32).toNatClampNeg), v2)
set_option maxRecDepth 100000 in
set_option maxHeartbeats 4000000 in
theorem mX9_doWait {l : Launch} {p1 : Int32} {v : bM} {r0 : Int32} {w0 : bM} (hf : fX9_doWait p1 v = some (r0, w0)) : bMet l yX9_doWait cX9_doWait 2 (some .int) 0 0 0 LMo (fun E a => [.ref a, .int p1]) v w0 (fun _ => some (.int r0)) := by
  refine bk_start (by decide +kernel) wfMo (fun _ _ => Nat.le_of_ble_eq_true rfl) ?_
  intro p e s m args below meth c D E a ls H locs X hr hl hB
  have hx := X.1
  have hb := X.2.1
  have hown := X.2.2.2.1
  have hts := X.2.2.2.2.1
  have hl : lv_has ls 2 [(0, .ref a), (1, .int p1)] := hl
  have hf := (fX9_doWait.eq_1 p1 v).symm.trans hf
  refine lv_aload_n hx hb dX9_doWait_0 rfl (lv_at hl 0 rfl) ?_
  refine bk_getR X hB kl_X9 0 lc_Mo_0 5 (by decide) rfl wm_1868 dX9_doWait_1 ?_
  refine lv_iconst (v := 4) hx hb dX9_doWait_4 (by decide) ?_
  refine lv_dup2_11 hx hb dX9_doWait_5 rfl rfl ?_
  refine bk_ald X hB 2 lc_Mo_2 (vp_c 4 496 rfl) dX9_doWait_6 ?_
  refine lv_iload_n hx hb dX9_doWait_7 rfl (lv_at hl 1 rfl) ?_
  refine lv_iadd hx hb dX9_doWait_8 ?_
  refine lv_topi (fun x1 ex1 => ?_)
  have hf := nm_use hf ex1
  refine bk_ast X hB 2 lc_Mo_2 (vp_c 4 496 rfl) dX9_doWait_9 (fun H locs hB => ?_)
  obtain ⟨v2, ev2⟩ : ∃ y : bM, y = upd v (710 + (4 : Int32).toNatClampNeg) x1 := ⟨_, rfl⟩
  have hf := nm_use hf ev2
  rw [← ev2] at hB
  refine lv_aload_n hx hb dX9_doWait_10 rfl (lv_at hl 0 rfl) ?_
  refine bk_getR X hB kl_X9 0 lc_Mo_0 5 (by decide) rfl wm_1868 dX9_doWait_11 ?_
  refine lv_iconst (v := 4) hx hb dX9_doWait_14 (by decide) ?_
  refine bk_ald X hB 2 lc_Mo_2 (vp_c 4 496 rfl) dX9_doWait_15 ?_
  exact bk_iW X hr rfl hf hB (Nat.le_of_ble_eq_true rfl) (Nat.le_of_ble_eq_true rfl) dX9_doWait_16
theorem yv_X9_doWait : bYv yX9_doWait RX9 cX9_doWait 2 (some .int) 1 := ⟨⟨rfl, by decide, by decide, rfl⟩, wm_1857, wp_72, wm_17, wm_1858⟩

theorem dX9_byteOf_0 : decode cX9_byteOf 0 = .ok (.iload 5, 2) := by decide +kernel
theorem dX9_byteOf_2 : decode cX9_byteOf 2 = .ok (.iconst 4, 1) := by decide +kernel
theorem dX9_byteOf_3 : decode cX9_byteOf 3 = .ok (.if_icmp .ge 7, 3) := by decide +kernel
theorem dX9_byteOf_6 : decode cX9_byteOf 6 = .ok (.iload_n 0, 1) := by decide +kernel
theorem dX9_byteOf_7 : decode cX9_byteOf 7 = .ok (.goto 38, 3) := by decide +kernel
theorem dX9_byteOf_10 : decode cX9_byteOf 10 = .ok (.iload 5, 2) := by decide +kernel
theorem dX9_byteOf_12 : decode cX9_byteOf 12 = .ok (.bipush 8, 2) := by decide +kernel
theorem dX9_byteOf_14 : decode cX9_byteOf 14 = .ok (.if_icmp .ge 7, 3) := by decide +kernel
theorem dX9_byteOf_17 : decode cX9_byteOf 17 = .ok (.iload_n 1, 1) := by decide +kernel
theorem dX9_byteOf_18 : decode cX9_byteOf 18 = .ok (.goto 27, 3) := by decide +kernel
theorem dX9_byteOf_21 : decode cX9_byteOf 21 = .ok (.iload 5, 2) := by decide +kernel
theorem dX9_byteOf_23 : decode cX9_byteOf 23 = .ok (.bipush 12, 2) := by decide +kernel
theorem dX9_byteOf_25 : decode cX9_byteOf 25 = .ok (.if_icmp .ge 7, 3) := by decide +kernel
theorem dX9_byteOf_28 : decode cX9_byteOf 28 = .ok (.iload_n 2, 1) := by decide +kernel
theorem dX9_byteOf_29 : decode cX9_byteOf 29 = .ok (.goto 16, 3) := by decide +kernel
theorem dX9_byteOf_32 : decode cX9_byteOf 32 = .ok (.iload 5, 2) := by decide +kernel
theorem dX9_byteOf_34 : decode cX9_byteOf 34 = .ok (.bipush 16, 2) := by decide +kernel
theorem dX9_byteOf_36 : decode cX9_byteOf 36 = .ok (.if_icmp .ge 7, 3) := by decide +kernel
theorem dX9_byteOf_39 : decode cX9_byteOf 39 = .ok (.iload_n 3, 1) := by decide +kernel
theorem dX9_byteOf_40 : decode cX9_byteOf 40 = .ok (.goto 5, 3) := by decide +kernel
theorem dX9_byteOf_43 : decode cX9_byteOf 43 = .ok (.iload 4, 2) := by decide +kernel
theorem dX9_byteOf_45 : decode cX9_byteOf 45 = .ok (.istore 6, 2) := by decide +kernel
theorem dX9_byteOf_47 : decode cX9_byteOf 47 = .ok (.iload 6, 2) := by decide +kernel
theorem dX9_byteOf_49 : decode cX9_byteOf 49 = .ok (.bipush 24, 2) := by decide +kernel
theorem dX9_byteOf_51 : decode cX9_byteOf 51 = .ok (.bipush 8, 2) := by decide +kernel
theorem dX9_byteOf_53 : decode cX9_byteOf 53 = .ok (.iload 5, 2) := by decide +kernel
theorem dX9_byteOf_55 : decode cX9_byteOf 55 = .ok (.iconst 4, 1) := by decide +kernel
theorem dX9_byteOf_56 : decode cX9_byteOf 56 = .ok (.irem, 1) := by decide +kernel
theorem dX9_byteOf_57 : decode cX9_byteOf 57 = .ok (.imul, 1) := by decide +kernel
theorem dX9_byteOf_58 : decode cX9_byteOf 58 = .ok (.isub, 1) := by decide +kernel
theorem dX9_byteOf_59 : decode cX9_byteOf 59 = .ok (.ishr, 1) := by decide +kernel
theorem dX9_byteOf_60 : decode cX9_byteOf 60 = .ok (.sipush 255, 3) := by decide +kernel
theorem dX9_byteOf_63 : decode cX9_byteOf 63 = .ok (.iand, 1) := by decide +kernel
theorem dX9_byteOf_64 : decode cX9_byteOf 64 = .ok (.ireturn, 1) := by decide +kernel
def fX9_byteOf_J45 (p5 : Int32) (y1 : Int32) : Option Int32 :=
  some ((y1 >>> ((24 - (8 * (p5 - p5 / 4 * 4))) &&& 31)) &&& 255)
def fX9_byteOf (p0 : Int32) (p1 : Int32) (p2 : Int32) (p3 : Int32) (p4 : Int32) (p5 : Int32) : Option Int32 :=
  (if 4 ≤ p5 then ((if 8 ≤ p5 then ((if 12 ≤ p5 then ((if 16 ≤ p5 then (fX9_byteOf_J45 p5 p4) else (fX9_byteOf_J45 p5 p3))) else (fX9_byteOf_J45 p5 p2))) else (fX9_byteOf_J45 p5 p1))) else (fX9_byteOf_J45 p5 p0))
set_option maxRecDepth 100000 in
set_option maxHeartbeats 4000000 in
theorem mX9_byteOf {l : Launch} {p0 : Int32} {p1 : Int32} {p2 : Int32} {p3 : Int32} {p4 : Int32} {p5 : Int32} {v : bM} {r0 : Int32} (hf : fX9_byteOf p0 p1 p2 p3 p4 p5 = some r0) : bMet l yX9_byteOf cX9_byteOf 7 (some .int) 0 0 0 [] (fun E a => [.int p0, .int p1, .int p2, .int p3, .int p4, .int p5]) v v (fun _ => some (.int r0)) := by
  refine bk_start (by decide +kernel) bWf_nil (fun _ _ => Nat.le_of_ble_eq_true rfl) ?_
  intro p e s m args below meth c D E a ls H locs X hr hl hB
  have hx := X.1
  have hb := X.2.1
  have hown := X.2.2.2.1
  have hts := X.2.2.2.2.1
  have hl : lv_has ls 7 [(0, .int p0), (1, .int p1), (2, .int p2), (3, .int p3), (4, .int p4), (5, .int p5)] := hl
  have hf := (fX9_byteOf.eq_1 p0 p1 p2 p3 p4 p5).symm.trans hf
  refine lv_iload hx hb dX9_byteOf_0 (lv_at hl 5 rfl) ?_
  refine lv_iconst (v := 4) hx hb dX9_byteOf_2 (by decide) ?_
  have hJ45 : ∀ (y1 : Int32) (H : Heap) (locs : List Loc) (ls : Array Slot), fX9_byteOf_J45 p5 y1 = some r0 → bB D E [] a v s H locs → lv_has ls 7 [(5, .int p5)] → W p l e (rmOf 0 0 0) s m args below meth c H locs 0 0 (bQ below D E [] a v (some (.int r0)) args s 0 0) (F0 m 45 ls [.int y1]) := by
    intro y1 H locs ls hf hB hl
    have hf := (fX9_byteOf_J45.eq_1 p5 y1).symm.trans hf
    refine lv_istore (lv' := [(6, .int y1), (5, .int p5)]) hx hb dX9_byteOf_45 hl (by decide) rfl (fun ls hl => ?_)
    refine lv_iload hx hb dX9_byteOf_47 (lv_at hl 0 rfl) ?_
    refine lv_bipush (v := 24) hx hb dX9_byteOf_49 (by decide) ?_
    refine lv_bipush (v := 8) hx hb dX9_byteOf_51 (by decide) ?_
    refine lv_iload hx hb dX9_byteOf_53 (lv_at hl 1 rfl) ?_
    refine lv_iconst (v := 4) hx hb dX9_byteOf_55 (by decide) ?_
    refine lv_irem hx hb dX9_byteOf_56 (by decide) ?_
    refine lv_imul hx hb dX9_byteOf_57 ?_
    refine lv_isub hx hb dX9_byteOf_58 ?_
    refine lv_ishr hx hb dX9_byteOf_59 ?_
    refine lv_sipush (v := 255) hx hb dX9_byteOf_60 (by decide) ?_
    refine lv_iand hx hb dX9_byteOf_63 ?_
    exact bk_iR X hr rfl hf hB (Nat.le_of_ble_eq_true rfl) (Nat.le_of_ble_eq_true rfl) dX9_byteOf_64
  refine lv_icmp_ge (tgt := 10) hx hb dX9_byteOf_3 (by decide) (fun c2 => ?_) (fun c2 => ?_)
  · have hf := (if_pos c2).symm.trans hf
    refine lv_iload hx hb dX9_byteOf_10 (lv_at hl 5 rfl) ?_
    refine lv_bipush (v := 8) hx hb dX9_byteOf_12 (by decide) ?_
    refine lv_icmp_ge (tgt := 21) hx hb dX9_byteOf_14 (by decide) (fun c3 => ?_) (fun c3 => ?_)
    · have hf := (if_pos c3).symm.trans hf
      refine lv_iload hx hb dX9_byteOf_21 (lv_at hl 5 rfl) ?_
      refine lv_bipush (v := 12) hx hb dX9_byteOf_23 (by decide) ?_
      refine lv_icmp_ge (tgt := 32) hx hb dX9_byteOf_25 (by decide) (fun c4 => ?_) (fun c4 => ?_)
      · have hf := (if_pos c4).symm.trans hf
        refine lv_iload hx hb dX9_byteOf_32 (lv_at hl 5 rfl) ?_
        refine lv_bipush (v := 16) hx hb dX9_byteOf_34 (by decide) ?_
        refine lv_icmp_ge (tgt := 43) hx hb dX9_byteOf_36 (by decide) (fun c5 => ?_) (fun c5 => ?_)
        · have hf := (if_pos c5).symm.trans hf
          refine lv_iload hx hb dX9_byteOf_43 (lv_at hl 4 rfl) ?_
          exact hJ45 p4 H locs ls hf hB (lv_sub hl [5] rfl)
        · have hf := (if_neg c5).symm.trans hf
          refine lv_iload_n hx hb dX9_byteOf_39 rfl (lv_at hl 3 rfl) ?_
          refine lv_goto (tgt := 45) hx hb dX9_byteOf_40 (by decide) ?_
          exact hJ45 p3 H locs ls hf hB (lv_sub hl [5] rfl)
      · have hf := (if_neg c4).symm.trans hf
        refine lv_iload_n hx hb dX9_byteOf_28 rfl (lv_at hl 2 rfl) ?_
        refine lv_goto (tgt := 45) hx hb dX9_byteOf_29 (by decide) ?_
        exact hJ45 p2 H locs ls hf hB (lv_sub hl [5] rfl)
    · have hf := (if_neg c3).symm.trans hf
      refine lv_iload_n hx hb dX9_byteOf_17 rfl (lv_at hl 1 rfl) ?_
      refine lv_goto (tgt := 45) hx hb dX9_byteOf_18 (by decide) ?_
      exact hJ45 p1 H locs ls hf hB (lv_sub hl [5] rfl)
  · have hf := (if_neg c2).symm.trans hf
    refine lv_iload_n hx hb dX9_byteOf_6 rfl (lv_at hl 0 rfl) ?_
    refine lv_goto (tgt := 45) hx hb dX9_byteOf_7 (by decide) ?_
    exact hJ45 p0 H locs ls hf hB (lv_sub hl [5] rfl)
theorem ys_X9_byteOf : bYs yX9_byteOf RX9 cX9_byteOf 7 (some .int) 6 := ⟨⟨rfl, by decide, by decide, rfl⟩, wm_1930, wm_17, wm_1931⟩

theorem dX9_feed_0 : decode cX9_feed 0 = .ok (.aload_n 0, 1) := by decide +kernel
theorem dX9_feed_1 : decode cX9_feed 1 = .ok (.iconst 0, 1) := by decide +kernel
theorem dX9_feed_2 : decode cX9_feed 2 = .ok (.putfield 60, 3) := by decide +kernel
theorem dX9_feed_5 : decode cX9_feed 5 = .ok (.iconst 0, 1) := by decide +kernel
theorem dX9_feed_6 : decode cX9_feed 6 = .ok (.istore 6, 2) := by decide +kernel
theorem dX9_feed_8 : decode cX9_feed 8 = .ok (.iconst 0, 1) := by decide +kernel
theorem dX9_feed_9 : decode cX9_feed 9 = .ok (.istore 7, 2) := by decide +kernel
theorem dX9_feed_11 : decode cX9_feed 11 = .ok (.iload 7, 2) := by decide +kernel
theorem dX9_feed_13 : decode cX9_feed 13 = .ok (.bipush 20, 2) := by decide +kernel
theorem dX9_feed_15 : decode cX9_feed 15 = .ok (.if_icmp .ge 37, 3) := by decide +kernel
theorem dX9_feed_18 : decode cX9_feed 18 = .ok (.iload 6, 2) := by decide +kernel
theorem dX9_feed_20 : decode cX9_feed 20 = .ok (.iload_n 1, 1) := by decide +kernel
theorem dX9_feed_21 : decode cX9_feed 21 = .ok (.iload_n 2, 1) := by decide +kernel
theorem dX9_feed_22 : decode cX9_feed 22 = .ok (.iload_n 3, 1) := by decide +kernel
theorem dX9_feed_23 : decode cX9_feed 23 = .ok (.iload 4, 2) := by decide +kernel
theorem dX9_feed_25 : decode cX9_feed 25 = .ok (.iload 5, 2) := by decide +kernel
theorem dX9_feed_27 : decode cX9_feed 27 = .ok (.iload 7, 2) := by decide +kernel
theorem dX9_feed_29 : decode cX9_feed 29 = .ok (.invokestatic 127, 3) := by decide +kernel
theorem dX9_feed_32 : decode cX9_feed 32 = .ok (.ifCond .eq 7, 3) := by decide +kernel
theorem dX9_feed_35 : decode cX9_feed 35 = .ok (.iconst 1, 1) := by decide +kernel
theorem dX9_feed_36 : decode cX9_feed 36 = .ok (.goto 4, 3) := by decide +kernel
theorem dX9_feed_39 : decode cX9_feed 39 = .ok (.iconst 0, 1) := by decide +kernel
theorem dX9_feed_40 : decode cX9_feed 40 = .ok (.invokestatic 131, 3) := by decide +kernel
theorem dX9_feed_43 : decode cX9_feed 43 = .ok (.iadd, 1) := by decide +kernel
theorem dX9_feed_44 : decode cX9_feed 44 = .ok (.istore 6, 2) := by decide +kernel
theorem dX9_feed_46 : decode cX9_feed 46 = .ok (.iinc 7 1, 3) := by decide +kernel
theorem dX9_feed_49 : decode cX9_feed 49 = .ok (.goto (-38), 3) := by decide +kernel
theorem dX9_feed_52 : decode cX9_feed 52 = .ok (.aload_n 0, 1) := by decide +kernel
theorem dX9_feed_53 : decode cX9_feed 53 = .ok (.getfield 54, 3) := by decide +kernel
theorem dX9_feed_56 : decode cX9_feed 56 = .ok (.iload 6, 2) := by decide +kernel
theorem dX9_feed_58 : decode cX9_feed 58 = .ok (.iadd, 1) := by decide +kernel
theorem dX9_feed_59 : decode cX9_feed 59 = .ok (.sipush 700, 3) := by decide +kernel
theorem dX9_feed_62 : decode cX9_feed 62 = .ok (.if_icmp .le 5, 3) := by decide +kernel
theorem dX9_feed_65 : decode cX9_feed 65 = .ok (.iconst (-1), 1) := by decide +kernel
theorem dX9_feed_66 : decode cX9_feed 66 = .ok (.ireturn, 1) := by decide +kernel
theorem dX9_feed_67 : decode cX9_feed 67 = .ok (.iconst 0, 1) := by decide +kernel
theorem dX9_feed_68 : decode cX9_feed 68 = .ok (.istore 7, 2) := by decide +kernel
theorem dX9_feed_70 : decode cX9_feed 70 = .ok (.iload 7, 2) := by decide +kernel
theorem dX9_feed_72 : decode cX9_feed 72 = .ok (.bipush 20, 2) := by decide +kernel
theorem dX9_feed_74 : decode cX9_feed 74 = .ok (.if_icmp .ge 49, 3) := by decide +kernel
theorem dX9_feed_77 : decode cX9_feed 77 = .ok (.iload_n 1, 1) := by decide +kernel
theorem dX9_feed_78 : decode cX9_feed 78 = .ok (.iload_n 2, 1) := by decide +kernel
theorem dX9_feed_79 : decode cX9_feed 79 = .ok (.iload_n 3, 1) := by decide +kernel
theorem dX9_feed_80 : decode cX9_feed 80 = .ok (.iload 4, 2) := by decide +kernel
theorem dX9_feed_82 : decode cX9_feed 82 = .ok (.iload 5, 2) := by decide +kernel
theorem dX9_feed_84 : decode cX9_feed 84 = .ok (.iload 7, 2) := by decide +kernel
theorem dX9_feed_86 : decode cX9_feed 86 = .ok (.invokestatic 127, 3) := by decide +kernel
theorem dX9_feed_89 : decode cX9_feed 89 = .ok (.istore 8, 2) := by decide +kernel
theorem dX9_feed_91 : decode cX9_feed 91 = .ok (.iload 8, 2) := by decide +kernel
theorem dX9_feed_93 : decode cX9_feed 93 = .ok (.ifCond .eq 24, 3) := by decide +kernel
theorem dX9_feed_96 : decode cX9_feed 96 = .ok (.aload_n 0, 1) := by decide +kernel
theorem dX9_feed_97 : decode cX9_feed 97 = .ok (.getfield 7, 3) := by decide +kernel
theorem dX9_feed_100 : decode cX9_feed 100 = .ok (.aload_n 0, 1) := by decide +kernel
theorem dX9_feed_101 : decode cX9_feed 101 = .ok (.getfield 54, 3) := by decide +kernel
theorem dX9_feed_104 : decode cX9_feed 104 = .ok (.iload 8, 2) := by decide +kernel
theorem dX9_feed_106 : decode cX9_feed 106 = .ok (.iastore, 1) := by decide +kernel
theorem dX9_feed_107 : decode cX9_feed 107 = .ok (.aload_n 0, 1) := by decide +kernel
theorem dX9_feed_108 : decode cX9_feed 108 = .ok (.dup, 1) := by decide +kernel
theorem dX9_feed_109 : decode cX9_feed 109 = .ok (.getfield 54, 3) := by decide +kernel
theorem dX9_feed_112 : decode cX9_feed 112 = .ok (.iconst 1, 1) := by decide +kernel
theorem dX9_feed_113 : decode cX9_feed 113 = .ok (.iadd, 1) := by decide +kernel
theorem dX9_feed_114 : decode cX9_feed 114 = .ok (.putfield 54, 3) := by decide +kernel
theorem dX9_feed_117 : decode cX9_feed 117 = .ok (.iinc 7 1, 3) := by decide +kernel
theorem dX9_feed_120 : decode cX9_feed 120 = .ok (.goto (-50), 3) := by decide +kernel
theorem dX9_feed_123 : decode cX9_feed 123 = .ok (.aload_n 0, 1) := by decide +kernel
theorem dX9_feed_124 : decode cX9_feed 124 = .ok (.getfield 54, 3) := by decide +kernel
theorem dX9_feed_127 : decode cX9_feed 127 = .ok (.ireturn, 1) := by decide +kernel
def fX9_feed_J117 (y7 : Int32) (k70 : Int32 → bM → Option (Int32 × bM))  (v12 : bM) : Option (Int32 × bM) :=
  nm (y7 + 1) fun x13 => k70 x13 v12
def fX9_feed_L70 (p1 : Int32) (p2 : Int32) (p3 : Int32) (p4 : Int32) (p5 : Int32) (k70 : Int32 → bM → Option (Int32 × bM)) (y7 : Int32) (v8 : bM) : Option (Int32 × bM) :=
  (if 20 ≤ y7 then (some (v8 0, v8)) else (bnr (fX9_byteOf p1 p2 p3 p4 p5 y7) fun r11 => (if r11 = 0 then (fX9_feed_J117 y7 k70 v8) else (ck (v8 0) 700 <| nm (upd v8 (10 + (v8 0).toNatClampNeg) r11) fun v16 => nm ((v16 0) + 1) fun x17 => nm (upd v16 0 x17) fun v18 => fX9_feed_J117 y7 k70 v18))))
def fX9_feed_J40 (y2 : Int32) (y3 : Int32) (k11 : Int32 → Int32 → bM → Option (Int32 × bM)) (y21 : Int32) (v22 : bM) : Option (Int32 × bM) :=
  bnr (fX9_flag y21) fun r24 => nm (y2 + r24) fun x25 => nm (y3 + 1) fun x26 => k11 x25 x26 v22
def fX9_feed_L11 (p1 : Int32) (p2 : Int32) (p3 : Int32) (p4 : Int32) (p5 : Int32) (k11 : Int32 → Int32 → bM → Option (Int32 × bM)) (y2 : Int32) (y3 : Int32) (v4 : bM) : Option (Int32 × bM) :=
  (if 20 ≤ y3 then ((if ((v4 0) + y2) ≤ 700 then (lp (fX9_feed_L70 p1 p2 p3 p4 p5) (fun _ _ => none) lpN 0 v4) else (some ((-1), v4)))) else (bnr (fX9_byteOf p1 p2 p3 p4 p5 y3) fun r20 => (if r20 = 0 then (fX9_feed_J40 y2 y3 k11 0 v4) else (fX9_feed_J40 y2 y3 k11 1 v4))))
def fX9_feed (p1 : Int32) (p2 : Int32) (p3 : Int32) (p4 : Int32) (p5 : Int32) (v : bM) : Option (Int32 × bM) :=
  nm (upd v 3 0) fun v1 => lp (fX9_feed_L11 p1 p2 p3 p4 p5) (fun _ _ _ => none) lpN 0 0 v1
set_option maxRecDepth 100000 in
set_option maxHeartbeats 4000000 in
theorem mX9_feed {l : Launch} {p1 : Int32} {p2 : Int32} {p3 : Int32} {p4 : Int32} {p5 : Int32} {v : bM} {r0 : Int32} {w0 : bM} (hf : fX9_feed p1 p2 p3 p4 p5 v = some (r0, w0)) : bMet l yX9_feed cX9_feed 9 (some .int) 1 0 0 LMo (fun E a => [.ref a, .int p1, .int p2, .int p3, .int p4, .int p5]) v w0 (fun _ => some (.int r0)) := by
  refine bk_start (by decide +kernel) wfMo (fun _ _ => Nat.le_of_ble_eq_true rfl) ?_
  intro p e s m args below meth c D E a ls H locs X hr hl hB
  have hx := X.1
  have hb := X.2.1
  have hown := X.2.2.2.1
  have hts := X.2.2.2.2.1
  have hl : lv_has ls 9 [(0, .ref a), (1, .int p1), (2, .int p2), (3, .int p3), (4, .int p4), (5, .int p5)] := hl
  have hf := (fX9_feed.eq_1 p1 p2 p3 p4 p5 v).symm.trans hf
  refine lv_aload_n hx hb dX9_feed_0 rfl (lv_at hl 0 rfl) ?_
  refine lv_iconst (v := 0) hx hb dX9_feed_1 (by decide) ?_
  refine bk_putI X hB kl_X9 0 lc_Mo_0 4 (by decide) rfl rfl rfl wm_1867 dX9_feed_2 rfl (fun H locs hB => ?_)
  obtain ⟨v1, ev1⟩ : ∃ y : bM, y = upd v 3 0 := ⟨_, rfl⟩
  have hf := nm_use hf ev1
  rw [← ev1] at hB
  refine lv_iconst (v := 0) hx hb dX9_feed_5 (by decide) ?_
  refine lv_istore (lv' := [(6, .int 0), (0, .ref a), (1, .int p1), (2, .int p2), (3, .int p3), (4, .int p4), (5, .int p5)]) hx hb dX9_feed_6 hl (by decide) rfl (fun ls hl => ?_)
  refine lv_iconst (v := 0) hx hb dX9_feed_8 (by decide) ?_
  refine lv_istore (lv' := [(7, .int 0), (6, .int 0), (0, .ref a), (1, .int p1), (2, .int p2), (3, .int p3), (4, .int p4), (5, .int p5)]) hx hb dX9_feed_9 hl (by decide) rfl (fun ls hl => ?_)
  have hL11 : ∀ (n11 : Nat) (y2 y3 : Int32) (v4 : bM) (H : Heap) (locs : List Loc) (ls : Array Slot), lp (fX9_feed_L11 p1 p2 p3 p4 p5) (fun _ _ _ => none) n11 y2 y3 v4 = some (r0, w0) → bB D E LMo a v4 s H locs → lv_has ls 9 [(0, .ref a), (1, .int p1), (2, .int p2), (3, .int p3), (4, .int p4), (5, .int p5), (6, .int y2), (7, .int y3)] → W p l e (rmOf 1 0 0) s m args below meth c H locs 0 0 (bQ below D E LMo a w0 (some (.int r0)) args s 0 0) (F0 m 11 ls []) := by
    intro n11
    induction n11 with
    | zero => intro y2 y3 v4 H locs ls hf; cases (show (none : Option (Int32 × bM)) = some (r0, w0) from hf)
    | succ n11 ih11 =>
      intro y2 y3 v4 H locs ls hf hB hl
      have hf := (fX9_feed_L11.eq_1 p1 p2 p3 p4 p5 (lp (fX9_feed_L11 p1 p2 p3 p4 p5) (fun _ _ _ => none) n11) y2 y3 v4).symm.trans (show fX9_feed_L11 p1 p2 p3 p4 p5 (lp (fX9_feed_L11 p1 p2 p3 p4 p5) (fun _ _ _ => none) n11) y2 y3 v4 = some (r0, w0) from hf)
      refine lv_iload hx hb dX9_feed_11 (lv_at hl 7 rfl) ?_
      refine lv_bipush (v := 20) hx hb dX9_feed_13 (by decide) ?_
      refine lv_icmp_ge (tgt := 52) hx hb dX9_feed_15 (by decide) (fun c5 => ?_) (fun c5 => ?_)
      · have hf := (if_pos c5).symm.trans hf
        refine lv_aload_n hx hb dX9_feed_52 rfl (lv_at hl 0 rfl) ?_
        refine bk_getI X hB kl_X9 0 lc_Mo_0 1 (by decide) rfl wm_1864 dX9_feed_53 ?_
        refine lv_iload hx hb dX9_feed_56 (lv_at hl 6 rfl) ?_
        refine lv_iadd hx hb dX9_feed_58 ?_
        refine lv_sipush (v := 700) hx hb dX9_feed_59 (by decide) ?_
        refine lv_icmp_le (tgt := 67) hx hb dX9_feed_62 (by decide) (fun c6 => ?_) (fun c6 => ?_)
        · have hf := (if_pos c6).symm.trans hf
          refine lv_iconst (v := 0) hx hb dX9_feed_67 (by decide) ?_
          refine lv_istore (lv' := [(7, .int 0), (0, .ref a), (1, .int p1), (2, .int p2), (3, .int p3), (4, .int p4), (5, .int p5), (6, .int y2)]) hx hb dX9_feed_68 hl (by decide) rfl (fun ls hl => ?_)
          have hL70 : ∀ (n70 : Nat) (y7 : Int32) (v8 : bM) (H : Heap) (locs : List Loc) (ls : Array Slot), lp (fX9_feed_L70 p1 p2 p3 p4 p5) (fun _ _ => none) n70 y7 v8 = some (r0, w0) → bB D E LMo a v8 s H locs → lv_has ls 9 [(0, .ref a), (1, .int p1), (2, .int p2), (3, .int p3), (4, .int p4), (5, .int p5), (7, .int y7)] → W p l e (rmOf 1 0 0) s m args below meth c H locs 0 0 (bQ below D E LMo a w0 (some (.int r0)) args s 0 0) (F0 m 70 ls []) := by
            intro n70
            induction n70 with
            | zero => intro y7 v8 H locs ls hf; cases (show (none : Option (Int32 × bM)) = some (r0, w0) from hf)
            | succ n70 ih70 =>
              intro y7 v8 H locs ls hf hB hl
              have hf := (fX9_feed_L70.eq_1 p1 p2 p3 p4 p5 (lp (fX9_feed_L70 p1 p2 p3 p4 p5) (fun _ _ => none) n70) y7 v8).symm.trans (show fX9_feed_L70 p1 p2 p3 p4 p5 (lp (fX9_feed_L70 p1 p2 p3 p4 p5) (fun _ _ => none) n70) y7 v8 = some (r0, w0) from hf)
              refine lv_iload hx hb dX9_feed_70 (lv_at hl 6 rfl) ?_
              refine lv_bipush (v := 20) hx hb dX9_feed_72 (by decide) ?_
              refine lv_icmp_ge (tgt := 123) hx hb dX9_feed_74 (by decide) (fun c9 => ?_) (fun c9 => ?_)
              · have hf := (if_pos c9).symm.trans hf
                refine lv_aload_n hx hb dX9_feed_123 rfl (lv_at hl 0 rfl) ?_
                refine bk_getI X hB kl_X9 0 lc_Mo_0 1 (by decide) rfl wm_1864 dX9_feed_124 ?_
                exact bk_iW X hr rfl hf hB (Nat.le_of_ble_eq_true rfl) (Nat.le_of_ble_eq_true rfl) dX9_feed_127
              · have hf := (if_neg c9).symm.trans hf
                refine lv_iload_n hx hb dX9_feed_77 rfl (lv_at hl 1 rfl) ?_
                refine lv_iload_n hx hb dX9_feed_78 rfl (lv_at hl 2 rfl) ?_
                refine lv_iload_n hx hb dX9_feed_79 rfl (lv_at hl 3 rfl) ?_
                refine lv_iload hx hb dX9_feed_80 (lv_at hl 4 rfl) ?_
                refine lv_iload hx hb dX9_feed_82 (lv_at hl 5 rfl) ?_
                refine lv_iload hx hb dX9_feed_84 (lv_at hl 6 rfl) ?_
                obtain ⟨r11, hc10, hf⟩ := bnr_some hf
                refine bk_non (v0 := v8) (w0 := v8) hB (fun h1 h2 h3 => bk_runS X (Av := [.int p1, .int p2, .int p3, .int p4, .int p5, .int y7]) (rest := []) (mX9_byteOf hc10) ys_X9_byteOf wm_1929 ⟨Nat.le_of_ble_eq_true rfl, Nat.le_of_ble_eq_true rfl⟩ rfl rfl hl.1 h1 h2 h3 (Nat.le_of_ble_eq_true rfl) ⟨Nat.le_of_ble_eq_true rfl, Nat.le_of_ble_eq_true rfl⟩ dX9_feed_86) (fun H locs hB => ?_)
                refine W.eq (g2 := F0 m 89 ls [.int r11]) rfl ?_
                refine lv_istore (lv' := [(8, .int r11), (0, .ref a), (1, .int p1), (2, .int p2), (3, .int p3), (4, .int p4), (5, .int p5), (7, .int y7)]) hx hb dX9_feed_89 hl (by decide) rfl (fun ls hl => ?_)
                refine lv_iload hx hb dX9_feed_91 (lv_at hl 0 rfl) ?_
                have hJ117 : ∀ (v12 : bM) (H : Heap) (locs : List Loc) (ls : Array Slot), fX9_feed_J117 y7 (lp (fX9_feed_L70 p1 p2 p3 p4 p5) (fun _ _ => none) n70) v12 = some (r0, w0) → bB D E LMo a v12 s H locs → lv_has ls 9 [(0, .ref a), (1, .int p1), (2, .int p2), (3, .int p3), (4, .int p4), (5, .int p5), (7, .int y7)] → W p l e (rmOf 1 0 0) s m args below meth c H locs 0 0 (bQ below D E LMo a w0 (some (.int r0)) args s 0 0) (F0 m 117 ls []) := by
                  intro v12 H locs ls hf hB hl
                  have hf := (fX9_feed_J117.eq_1 y7 (lp (fX9_feed_L70 p1 p2 p3 p4 p5) (fun _ _ => none) n70) v12).symm.trans hf
                  obtain ⟨x13, ex13⟩ : ∃ y : Int32, y = y7 + 1 := ⟨_, rfl⟩
                  have hf := nm_use hf ex13
                  refine lv_iinc (v := x13) (lv' := [(7, .int x13), (0, .ref a), (1, .int p1), (2, .int p2), (3, .int p3), (4, .int p4), (5, .int p5)]) hx hb dX9_feed_117 hl (k := 6) rfl (by rw [ex13]; rfl) (by decide) rfl (fun ls hl => ?_)
                  refine lv_goto (tgt := 70) hx hb dX9_feed_120 (by decide) ?_
                  exact ih70 x13 v12 H locs ls hf hB (lv_sub hl [1, 2, 3, 4, 5, 6, 0] rfl)
                refine lv_if_eq (tgt := 117) hx hb dX9_feed_93 (by decide) (fun c14 => ?_) (fun c14 => ?_)
                · have hf := (if_pos c14).symm.trans hf
                  exact hJ117 v8 H locs ls hf hB (lv_sub hl [1, 2, 3, 4, 5, 6, 7] rfl)
                · have hf := (if_neg c14).symm.trans hf
                  refine lv_aload_n hx hb dX9_feed_96 rfl (lv_at hl 1 rfl) ?_
                  refine bk_getR X hB kl_X9 0 lc_Mo_0 0 (by decide) rfl wm_1863 dX9_feed_97 ?_
                  refine lv_aload_n hx hb dX9_feed_100 rfl (lv_at hl 1 rfl) ?_
                  refine bk_getI X hB kl_X9 0 lc_Mo_0 1 (by decide) rfl wm_1864 dX9_feed_101 ?_
                  refine lv_iload hx hb dX9_feed_104 (lv_at hl 0 rfl) ?_
                  obtain ⟨h15, hf⟩ := ck_some hf
                  refine bk_ast X hB 1 lc_Mo_1 h15 dX9_feed_106 (fun H locs hB => ?_)
                  obtain ⟨v16, ev16⟩ : ∃ y : bM, y = upd v8 (10 + (v8 0).toNatClampNeg) r11 := ⟨_, rfl⟩
                  have hf := nm_use hf ev16
                  rw [← ev16] at hB
                  refine lv_aload_n hx hb dX9_feed_107 rfl (lv_at hl 1 rfl) ?_
                  refine lv_dup hx hb dX9_feed_108 rfl ?_
                  refine bk_getI X hB kl_X9 0 lc_Mo_0 1 (by decide) rfl wm_1864 dX9_feed_109 ?_
                  refine lv_iconst (v := 1) hx hb dX9_feed_112 (by decide) ?_
                  refine lv_iadd hx hb dX9_feed_113 ?_
                  refine lv_topi (fun x17 ex17 => ?_)
                  have hf := nm_use hf ex17
                  refine bk_putI X hB kl_X9 0 lc_Mo_0 1 (by decide) rfl rfl rfl wm_1864 dX9_feed_114 rfl (fun H locs hB => ?_)
                  obtain ⟨v18, ev18⟩ : ∃ y : bM, y = upd v16 0 x17 := ⟨_, rfl⟩
                  have hf := nm_use hf ev18
                  rw [← ev18] at hB
                  exact hJ117 v18 H locs ls hf hB (lv_sub hl [1, 2, 3, 4, 5, 6, 7] rfl)
          exact hL70 lpN 0 v4 H locs ls hf hB (lv_sub hl [1, 2, 3, 4, 5, 6, 0] rfl)
        · have hf := (if_neg c6).symm.trans hf
          refine lv_iconst (v := (-1)) hx hb dX9_feed_65 (by decide) ?_
          exact bk_iW X hr rfl hf hB (Nat.le_of_ble_eq_true rfl) (Nat.le_of_ble_eq_true rfl) dX9_feed_66
      · have hf := (if_neg c5).symm.trans hf
        refine lv_iload hx hb dX9_feed_18 (lv_at hl 6 rfl) ?_
        refine lv_iload_n hx hb dX9_feed_20 rfl (lv_at hl 1 rfl) ?_
        refine lv_iload_n hx hb dX9_feed_21 rfl (lv_at hl 2 rfl) ?_
        refine lv_iload_n hx hb dX9_feed_22 rfl (lv_at hl 3 rfl) ?_
        refine lv_iload hx hb dX9_feed_23 (lv_at hl 4 rfl) ?_
        refine lv_iload hx hb dX9_feed_25 (lv_at hl 5 rfl) ?_
        refine lv_iload hx hb dX9_feed_27 (lv_at hl 7 rfl) ?_
        obtain ⟨r20, hc19, hf⟩ := bnr_some hf
        refine bk_non (v0 := v4) (w0 := v4) hB (fun h1 h2 h3 => bk_runS X (Av := [.int p1, .int p2, .int p3, .int p4, .int p5, .int y3]) (rest := [.int y2]) (mX9_byteOf hc19) ys_X9_byteOf wm_1929 ⟨Nat.le_of_ble_eq_true rfl, Nat.le_of_ble_eq_true rfl⟩ rfl rfl hl.1 h1 h2 h3 (Nat.le_of_ble_eq_true rfl) ⟨Nat.le_of_ble_eq_true rfl, Nat.le_of_ble_eq_true rfl⟩ dX9_feed_29) (fun H locs hB => ?_)
        refine W.eq (g2 := F0 m 32 ls [.int r20, .int y2]) rfl ?_
        have hJ40 : ∀ (y21 : Int32) (v22 : bM) (H : Heap) (locs : List Loc) (ls : Array Slot), fX9_feed_J40 y2 y3 (lp (fX9_feed_L11 p1 p2 p3 p4 p5) (fun _ _ _ => none) n11) y21 v22 = some (r0, w0) → bB D E LMo a v22 s H locs → lv_has ls 9 [(0, .ref a), (1, .int p1), (2, .int p2), (3, .int p3), (4, .int p4), (5, .int p5), (7, .int y3)] → W p l e (rmOf 1 0 0) s m args below meth c H locs 0 0 (bQ below D E LMo a w0 (some (.int r0)) args s 0 0) (F0 m 40 ls [.int y21, .int y2]) := by
          intro y21 v22 H locs ls hf hB hl
          have hf := (fX9_feed_J40.eq_1 y2 y3 (lp (fX9_feed_L11 p1 p2 p3 p4 p5) (fun _ _ _ => none) n11) y21 v22).symm.trans hf
          obtain ⟨r24, hc23, hf⟩ := bnr_some hf
          refine bk_non (v0 := v22) (w0 := v22) hB (fun h1 h2 h3 => bk_runS X (Av := [.int y21]) (rest := [.int y2]) (mX9_flag hc23) ys_X9_flag wm_1674 ⟨Nat.le_of_ble_eq_true rfl, Nat.le_of_ble_eq_true rfl⟩ rfl rfl hl.1 h1 h2 h3 (Nat.le_of_ble_eq_true rfl) ⟨Nat.le_of_ble_eq_true rfl, Nat.le_of_ble_eq_true rfl⟩ dX9_feed_40) (fun H locs hB => ?_)
          refine W.eq (g2 := F0 m 43 ls [.int r24, .int y2]) rfl ?_
          refine lv_iadd hx hb dX9_feed_43 ?_
          refine lv_topi (fun x25 ex25 => ?_)
          have hf := nm_use hf ex25
          refine lv_istore (lv' := [(6, .int x25), (0, .ref a), (1, .int p1), (2, .int p2), (3, .int p3), (4, .int p4), (5, .int p5), (7, .int y3)]) hx hb dX9_feed_44 hl (by decide) rfl (fun ls hl => ?_)
          obtain ⟨x26, ex26⟩ : ∃ y : Int32, y = y3 + 1 := ⟨_, rfl⟩
          have hf := nm_use hf ex26
          refine lv_iinc (v := x26) (lv' := [(7, .int x26), (6, .int x25), (0, .ref a), (1, .int p1), (2, .int p2), (3, .int p3), (4, .int p4), (5, .int p5)]) hx hb dX9_feed_46 hl (k := 7) rfl (by rw [ex26]; rfl) (by decide) rfl (fun ls hl => ?_)
          refine lv_goto (tgt := 11) hx hb dX9_feed_49 (by decide) ?_
          exact ih11 x25 x26 v22 H locs ls hf hB (lv_sub hl [2, 3, 4, 5, 6, 7, 1, 0] rfl)
        refine lv_if_eq (tgt := 39) hx hb dX9_feed_32 (by decide) (fun c27 => ?_) (fun c27 => ?_)
        · have hf := (if_pos c27).symm.trans hf
          refine lv_iconst (v := 0) hx hb dX9_feed_39 (by decide) ?_
          exact hJ40 0 v4 H locs ls hf hB (lv_sub hl [0, 1, 2, 3, 4, 5, 7] rfl)
        · have hf := (if_neg c27).symm.trans hf
          refine lv_iconst (v := 1) hx hb dX9_feed_35 (by decide) ?_
          refine lv_goto (tgt := 40) hx hb dX9_feed_36 (by decide) ?_
          exact hJ40 1 v4 H locs ls hf hB (lv_sub hl [0, 1, 2, 3, 4, 5, 7] rfl)
  exact hL11 lpN 0 0 v1 H locs ls hf hB (lv_sub hl [2, 3, 4, 5, 6, 7, 1, 0] rfl)
theorem yv_X9_feed : bYv yX9_feed RX9 cX9_feed 9 (some .int) 5 := ⟨⟨rfl, by decide, by decide, rfl⟩, wm_1926, wm_1927, wm_17, wm_1928⟩

theorem dX9_isSmall_0 : decode cX9_isSmall 0 = .ok (.iload_n 0, 1) := by decide +kernel
theorem dX9_isSmall_1 : decode cX9_isSmall 1 = .ok (.bipush 97, 2) := by decide +kernel
theorem dX9_isSmall_3 : decode cX9_isSmall 3 = .ok (.bipush 122, 2) := by decide +kernel
theorem dX9_isSmall_5 : decode cX9_isSmall 5 = .ok (.invokestatic 135, 3) := by decide +kernel
theorem dX9_isSmall_8 : decode cX9_isSmall 8 = .ok (.ireturn, 1) := by decide +kernel
def fX9_isSmall (p0 : Int32) : Option Int32 :=
  bnr (fX9_inRange p0 97 122) fun r2 => ck r2 2 <| some (r2)
set_option maxRecDepth 100000 in
set_option maxHeartbeats 4000000 in
theorem mX9_isSmall {l : Launch} {p0 : Int32} {v : bM} {r0 : Int32} (hf : fX9_isSmall p0 = some r0) : bMet l yX9_isSmall cX9_isSmall 1 (some .boolean) 1 0 0 [] (fun E a => [.int p0]) v v (fun _ => some (.int r0)) := by
  refine bk_start (by decide +kernel) bWf_nil (fun _ _ => Nat.le_of_ble_eq_true rfl) ?_
  intro p e s m args below meth c D E a ls H locs X hr hl hB
  have hx := X.1
  have hb := X.2.1
  have hown := X.2.2.2.1
  have hts := X.2.2.2.2.1
  have hl : lv_has ls 1 [(0, .int p0)] := hl
  have hf := (fX9_isSmall.eq_1 p0).symm.trans hf
  refine lv_iload_n hx hb dX9_isSmall_0 rfl (lv_at hl 0 rfl) ?_
  refine lv_bipush (v := 97) hx hb dX9_isSmall_1 (by decide) ?_
  refine lv_bipush (v := 122) hx hb dX9_isSmall_3 (by decide) ?_
  obtain ⟨r2, hc1, hf⟩ := bnr_some hf
  refine bk_non (v0 := v) (w0 := v) hB (fun h1 h2 h3 => bk_runS X (Av := [.int p0, .int 97, .int 122]) (rest := []) (mX9_inRange hc1) ys_X9_inRange wm_1653 ⟨Nat.le_of_ble_eq_true rfl, Nat.le_of_ble_eq_true rfl⟩ rfl rfl hl.1 h1 h2 h3 (Nat.le_of_ble_eq_true rfl) ⟨Nat.le_of_ble_eq_true rfl, Nat.le_of_ble_eq_true rfl⟩ dX9_isSmall_5) (fun H locs hB => ?_)
  refine W.eq (g2 := F0 m 8 ls [.int r2]) rfl ?_
  obtain ⟨h3, hf⟩ := ck_some hf
  exact bk_zR X hr rfl (nar_z h3) hf hB (Nat.le_of_ble_eq_true rfl) (Nat.le_of_ble_eq_true rfl) dX9_isSmall_8
theorem ys_X9_isSmall : bYs yX9_isSmall RX9 cX9_isSmall 1 (some .boolean) 1 := ⟨⟨rfl, by decide, by decide, rfl⟩, wm_1651, wm_17, wm_1652⟩

theorem dX9_isDigit_0 : decode cX9_isDigit 0 = .ok (.iload_n 0, 1) := by decide +kernel
theorem dX9_isDigit_1 : decode cX9_isDigit 1 = .ok (.bipush 48, 2) := by decide +kernel
theorem dX9_isDigit_3 : decode cX9_isDigit 3 = .ok (.bipush 57, 2) := by decide +kernel
theorem dX9_isDigit_5 : decode cX9_isDigit 5 = .ok (.invokestatic 135, 3) := by decide +kernel
theorem dX9_isDigit_8 : decode cX9_isDigit 8 = .ok (.ireturn, 1) := by decide +kernel
def fX9_isDigit (p0 : Int32) : Option Int32 :=
  bnr (fX9_inRange p0 48 57) fun r2 => ck r2 2 <| some (r2)
set_option maxRecDepth 100000 in
set_option maxHeartbeats 4000000 in
theorem mX9_isDigit {l : Launch} {p0 : Int32} {v : bM} {r0 : Int32} (hf : fX9_isDigit p0 = some r0) : bMet l yX9_isDigit cX9_isDigit 1 (some .boolean) 1 0 0 [] (fun E a => [.int p0]) v v (fun _ => some (.int r0)) := by
  refine bk_start (by decide +kernel) bWf_nil (fun _ _ => Nat.le_of_ble_eq_true rfl) ?_
  intro p e s m args below meth c D E a ls H locs X hr hl hB
  have hx := X.1
  have hb := X.2.1
  have hown := X.2.2.2.1
  have hts := X.2.2.2.2.1
  have hl : lv_has ls 1 [(0, .int p0)] := hl
  have hf := (fX9_isDigit.eq_1 p0).symm.trans hf
  refine lv_iload_n hx hb dX9_isDigit_0 rfl (lv_at hl 0 rfl) ?_
  refine lv_bipush (v := 48) hx hb dX9_isDigit_1 (by decide) ?_
  refine lv_bipush (v := 57) hx hb dX9_isDigit_3 (by decide) ?_
  obtain ⟨r2, hc1, hf⟩ := bnr_some hf
  refine bk_non (v0 := v) (w0 := v) hB (fun h1 h2 h3 => bk_runS X (Av := [.int p0, .int 48, .int 57]) (rest := []) (mX9_inRange hc1) ys_X9_inRange wm_1653 ⟨Nat.le_of_ble_eq_true rfl, Nat.le_of_ble_eq_true rfl⟩ rfl rfl hl.1 h1 h2 h3 (Nat.le_of_ble_eq_true rfl) ⟨Nat.le_of_ble_eq_true rfl, Nat.le_of_ble_eq_true rfl⟩ dX9_isDigit_5) (fun H locs hB => ?_)
  refine W.eq (g2 := F0 m 8 ls [.int r2]) rfl ?_
  obtain ⟨h3, hf⟩ := ck_some hf
  exact bk_zR X hr rfl (nar_z h3) hf hB (Nat.le_of_ble_eq_true rfl) (Nat.le_of_ble_eq_true rfl) dX9_isDigit_8
theorem ys_X9_isDigit : bYs yX9_isDigit RX9 cX9_isDigit 1 (some .boolean) 1 := ⟨⟨rfl, by decide, by decide, rfl⟩, wm_1657, wm_17, wm_1658⟩

theorem dX9_next_0 : decode cX9_next 0 = .ok (.aload_n 0, 1) := by decide +kernel
theorem dX9_next_1 : decode cX9_next 1 = .ok (.getfield 139, 3) := by decide +kernel
theorem dX9_next_4 : decode cX9_next 4 = .ok (.aload_n 0, 1) := by decide +kernel
theorem dX9_next_5 : decode cX9_next 5 = .ok (.getfield 54, 3) := by decide +kernel
theorem dX9_next_8 : decode cX9_next 8 = .ok (.if_icmp .ge 44, 3) := by decide +kernel
theorem dX9_next_11 : decode cX9_next 11 = .ok (.aload_n 0, 1) := by decide +kernel
theorem dX9_next_12 : decode cX9_next 12 = .ok (.getfield 7, 3) := by decide +kernel
theorem dX9_next_15 : decode cX9_next 15 = .ok (.aload_n 0, 1) := by decide +kernel
theorem dX9_next_16 : decode cX9_next 16 = .ok (.getfield 139, 3) := by decide +kernel
theorem dX9_next_19 : decode cX9_next 19 = .ok (.iaload, 1) := by decide +kernel
theorem dX9_next_20 : decode cX9_next 20 = .ok (.bipush 32, 2) := by decide +kernel
theorem dX9_next_22 : decode cX9_next 22 = .ok (.if_icmp .eq 17, 3) := by decide +kernel
theorem dX9_next_25 : decode cX9_next 25 = .ok (.aload_n 0, 1) := by decide +kernel
theorem dX9_next_26 : decode cX9_next 26 = .ok (.getfield 7, 3) := by decide +kernel
theorem dX9_next_29 : decode cX9_next 29 = .ok (.aload_n 0, 1) := by decide +kernel
theorem dX9_next_30 : decode cX9_next 30 = .ok (.getfield 139, 3) := by decide +kernel
theorem dX9_next_33 : decode cX9_next 33 = .ok (.iaload, 1) := by decide +kernel
theorem dX9_next_34 : decode cX9_next 34 = .ok (.bipush 10, 2) := by decide +kernel
theorem dX9_next_36 : decode cX9_next 36 = .ok (.if_icmp .ne 16, 3) := by decide +kernel
theorem dX9_next_39 : decode cX9_next 39 = .ok (.aload_n 0, 1) := by decide +kernel
theorem dX9_next_40 : decode cX9_next 40 = .ok (.dup, 1) := by decide +kernel
theorem dX9_next_41 : decode cX9_next 41 = .ok (.getfield 139, 3) := by decide +kernel
theorem dX9_next_44 : decode cX9_next 44 = .ok (.iconst 1, 1) := by decide +kernel
theorem dX9_next_45 : decode cX9_next 45 = .ok (.iadd, 1) := by decide +kernel
theorem dX9_next_46 : decode cX9_next 46 = .ok (.putfield 139, 3) := by decide +kernel
theorem dX9_next_49 : decode cX9_next 49 = .ok (.goto (-49), 3) := by decide +kernel
theorem dX9_next_52 : decode cX9_next 52 = .ok (.aload_n 0, 1) := by decide +kernel
theorem dX9_next_53 : decode cX9_next 53 = .ok (.aload_n 0, 1) := by decide +kernel
theorem dX9_next_54 : decode cX9_next 54 = .ok (.getfield 139, 3) := by decide +kernel
theorem dX9_next_57 : decode cX9_next 57 = .ok (.putfield 142, 3) := by decide +kernel
theorem dX9_next_60 : decode cX9_next 60 = .ok (.aload_n 0, 1) := by decide +kernel
theorem dX9_next_61 : decode cX9_next 61 = .ok (.getfield 139, 3) := by decide +kernel
theorem dX9_next_64 : decode cX9_next 64 = .ok (.aload_n 0, 1) := by decide +kernel
theorem dX9_next_65 : decode cX9_next 65 = .ok (.getfield 54, 3) := by decide +kernel
theorem dX9_next_68 : decode cX9_next 68 = .ok (.if_icmp .ne 9, 3) := by decide +kernel
theorem dX9_next_71 : decode cX9_next 71 = .ok (.aload_n 0, 1) := by decide +kernel
theorem dX9_next_72 : decode cX9_next 72 = .ok (.iconst 4, 1) := by decide +kernel
theorem dX9_next_73 : decode cX9_next 73 = .ok (.putfield 145, 3) := by decide +kernel
theorem dX9_next_76 : decode cX9_next 76 = .ok (.return_, 1) := by decide +kernel
theorem dX9_next_77 : decode cX9_next 77 = .ok (.aload_n 0, 1) := by decide +kernel
theorem dX9_next_78 : decode cX9_next 78 = .ok (.getfield 7, 3) := by decide +kernel
theorem dX9_next_81 : decode cX9_next 81 = .ok (.aload_n 0, 1) := by decide +kernel
theorem dX9_next_82 : decode cX9_next 82 = .ok (.getfield 139, 3) := by decide +kernel
theorem dX9_next_85 : decode cX9_next 85 = .ok (.iaload, 1) := by decide +kernel
theorem dX9_next_86 : decode cX9_next 86 = .ok (.istore_n 1, 1) := by decide +kernel
theorem dX9_next_87 : decode cX9_next 87 = .ok (.aload_n 0, 1) := by decide +kernel
theorem dX9_next_88 : decode cX9_next 88 = .ok (.dup, 1) := by decide +kernel
theorem dX9_next_89 : decode cX9_next 89 = .ok (.getfield 139, 3) := by decide +kernel
theorem dX9_next_92 : decode cX9_next 92 = .ok (.iconst 1, 1) := by decide +kernel
theorem dX9_next_93 : decode cX9_next 93 = .ok (.iadd, 1) := by decide +kernel
theorem dX9_next_94 : decode cX9_next 94 = .ok (.putfield 139, 3) := by decide +kernel
theorem dX9_next_97 : decode cX9_next 97 = .ok (.iload_n 1, 1) := by decide +kernel
theorem dX9_next_98 : decode cX9_next 98 = .ok (.invokestatic 148, 3) := by decide +kernel
theorem dX9_next_101 : decode cX9_next 101 = .ok (.ifCond .eq 47, 3) := by decide +kernel
theorem dX9_next_104 : decode cX9_next 104 = .ok (.aload_n 0, 1) := by decide +kernel
theorem dX9_next_105 : decode cX9_next 105 = .ok (.iconst 0, 1) := by decide +kernel
theorem dX9_next_106 : decode cX9_next 106 = .ok (.putfield 145, 3) := by decide +kernel
theorem dX9_next_109 : decode cX9_next 109 = .ok (.aload_n 0, 1) := by decide +kernel
theorem dX9_next_110 : decode cX9_next 110 = .ok (.getfield 139, 3) := by decide +kernel
theorem dX9_next_113 : decode cX9_next 113 = .ok (.aload_n 0, 1) := by decide +kernel
theorem dX9_next_114 : decode cX9_next 114 = .ok (.getfield 54, 3) := by decide +kernel
theorem dX9_next_117 : decode cX9_next 117 = .ok (.if_icmp .ge 143, 3) := by decide +kernel
theorem dX9_next_120 : decode cX9_next 120 = .ok (.aload_n 0, 1) := by decide +kernel
theorem dX9_next_121 : decode cX9_next 121 = .ok (.getfield 7, 3) := by decide +kernel
theorem dX9_next_124 : decode cX9_next 124 = .ok (.aload_n 0, 1) := by decide +kernel
theorem dX9_next_125 : decode cX9_next 125 = .ok (.getfield 139, 3) := by decide +kernel
theorem dX9_next_128 : decode cX9_next 128 = .ok (.iaload, 1) := by decide +kernel
theorem dX9_next_129 : decode cX9_next 129 = .ok (.invokestatic 148, 3) := by decide +kernel
theorem dX9_next_132 : decode cX9_next 132 = .ok (.ifCond .eq 128, 3) := by decide +kernel
theorem dX9_next_135 : decode cX9_next 135 = .ok (.aload_n 0, 1) := by decide +kernel
theorem dX9_next_136 : decode cX9_next 136 = .ok (.dup, 1) := by decide +kernel
theorem dX9_next_137 : decode cX9_next 137 = .ok (.getfield 139, 3) := by decide +kernel
theorem dX9_next_140 : decode cX9_next 140 = .ok (.iconst 1, 1) := by decide +kernel
theorem dX9_next_141 : decode cX9_next 141 = .ok (.iadd, 1) := by decide +kernel
theorem dX9_next_142 : decode cX9_next 142 = .ok (.putfield 139, 3) := by decide +kernel
theorem dX9_next_145 : decode cX9_next 145 = .ok (.goto (-36), 3) := by decide +kernel
theorem dX9_next_148 : decode cX9_next 148 = .ok (.iload_n 1, 1) := by decide +kernel
theorem dX9_next_149 : decode cX9_next 149 = .ok (.invokestatic 152, 3) := by decide +kernel
theorem dX9_next_152 : decode cX9_next 152 = .ok (.ifCond .eq 93, 3) := by decide +kernel
theorem dX9_next_155 : decode cX9_next 155 = .ok (.aload_n 0, 1) := by decide +kernel
theorem dX9_next_156 : decode cX9_next 156 = .ok (.iconst 1, 1) := by decide +kernel
theorem dX9_next_157 : decode cX9_next 157 = .ok (.putfield 145, 3) := by decide +kernel
theorem dX9_next_160 : decode cX9_next 160 = .ok (.aload_n 0, 1) := by decide +kernel
theorem dX9_next_161 : decode cX9_next 161 = .ok (.iload_n 1, 1) := by decide +kernel
theorem dX9_next_162 : decode cX9_next 162 = .ok (.bipush 48, 2) := by decide +kernel
theorem dX9_next_164 : decode cX9_next 164 = .ok (.isub, 1) := by decide +kernel
theorem dX9_next_165 : decode cX9_next 165 = .ok (.putfield 155, 3) := by decide +kernel
theorem dX9_next_168 : decode cX9_next 168 = .ok (.aload_n 0, 1) := by decide +kernel
theorem dX9_next_169 : decode cX9_next 169 = .ok (.getfield 139, 3) := by decide +kernel
theorem dX9_next_172 : decode cX9_next 172 = .ok (.aload_n 0, 1) := by decide +kernel
theorem dX9_next_173 : decode cX9_next 173 = .ok (.getfield 54, 3) := by decide +kernel
theorem dX9_next_176 : decode cX9_next 176 = .ok (.if_icmp .ge 84, 3) := by decide +kernel
theorem dX9_next_179 : decode cX9_next 179 = .ok (.aload_n 0, 1) := by decide +kernel
theorem dX9_next_180 : decode cX9_next 180 = .ok (.getfield 7, 3) := by decide +kernel
theorem dX9_next_183 : decode cX9_next 183 = .ok (.aload_n 0, 1) := by decide +kernel
theorem dX9_next_184 : decode cX9_next 184 = .ok (.getfield 139, 3) := by decide +kernel
theorem dX9_next_187 : decode cX9_next 187 = .ok (.iaload, 1) := by decide +kernel
theorem dX9_next_188 : decode cX9_next 188 = .ok (.invokestatic 152, 3) := by decide +kernel
theorem dX9_next_191 : decode cX9_next 191 = .ok (.ifCond .eq 69, 3) := by decide +kernel
theorem dX9_next_194 : decode cX9_next 194 = .ok (.aload_n 0, 1) := by decide +kernel
theorem dX9_next_195 : decode cX9_next 195 = .ok (.aload_n 0, 1) := by decide +kernel
theorem dX9_next_196 : decode cX9_next 196 = .ok (.getfield 155, 3) := by decide +kernel
theorem dX9_next_199 : decode cX9_next 199 = .ok (.ldc 158, 2) := by decide +kernel
theorem dX9_next_201 : decode cX9_next 201 = .ok (.if_icmp .le 8, 3) := by decide +kernel
theorem dX9_next_204 : decode cX9_next 204 = .ok (.ldc 159, 2) := by decide +kernel
theorem dX9_next_206 : decode cX9_next 206 = .ok (.goto 23, 3) := by decide +kernel
theorem dX9_next_209 : decode cX9_next 209 = .ok (.bipush 10, 2) := by decide +kernel
theorem dX9_next_211 : decode cX9_next 211 = .ok (.aload_n 0, 1) := by decide +kernel
theorem dX9_next_212 : decode cX9_next 212 = .ok (.getfield 155, 3) := by decide +kernel
theorem dX9_next_215 : decode cX9_next 215 = .ok (.imul, 1) := by decide +kernel
theorem dX9_next_216 : decode cX9_next 216 = .ok (.aload_n 0, 1) := by decide +kernel
theorem dX9_next_217 : decode cX9_next 217 = .ok (.getfield 7, 3) := by decide +kernel
theorem dX9_next_220 : decode cX9_next 220 = .ok (.aload_n 0, 1) := by decide +kernel
theorem dX9_next_221 : decode cX9_next 221 = .ok (.getfield 139, 3) := by decide +kernel
theorem dX9_next_224 : decode cX9_next 224 = .ok (.iaload, 1) := by decide +kernel
theorem dX9_next_225 : decode cX9_next 225 = .ok (.iadd, 1) := by decide +kernel
theorem dX9_next_226 : decode cX9_next 226 = .ok (.bipush 48, 2) := by decide +kernel
theorem dX9_next_228 : decode cX9_next 228 = .ok (.isub, 1) := by decide +kernel
theorem dX9_next_229 : decode cX9_next 229 = .ok (.putfield 155, 3) := by decide +kernel
theorem dX9_next_232 : decode cX9_next 232 = .ok (.aload_n 0, 1) := by decide +kernel
theorem dX9_next_233 : decode cX9_next 233 = .ok (.dup, 1) := by decide +kernel
theorem dX9_next_234 : decode cX9_next 234 = .ok (.getfield 139, 3) := by decide +kernel
theorem dX9_next_237 : decode cX9_next 237 = .ok (.iconst 1, 1) := by decide +kernel
theorem dX9_next_238 : decode cX9_next 238 = .ok (.iadd, 1) := by decide +kernel
theorem dX9_next_239 : decode cX9_next 239 = .ok (.putfield 139, 3) := by decide +kernel
theorem dX9_next_242 : decode cX9_next 242 = .ok (.goto (-74), 3) := by decide +kernel
theorem dX9_next_245 : decode cX9_next 245 = .ok (.aload_n 0, 1) := by decide +kernel
theorem dX9_next_246 : decode cX9_next 246 = .ok (.iload_n 1, 1) := by decide +kernel
theorem dX9_next_247 : decode cX9_next 247 = .ok (.bipush 59, 2) := by decide +kernel
theorem dX9_next_249 : decode cX9_next 249 = .ok (.if_icmp .ne 7, 3) := by decide +kernel
theorem dX9_next_252 : decode cX9_next 252 = .ok (.iconst 2, 1) := by decide +kernel
theorem dX9_next_253 : decode cX9_next 253 = .ok (.goto 4, 3) := by decide +kernel
theorem dX9_next_256 : decode cX9_next 256 = .ok (.iconst 3, 1) := by decide +kernel
theorem dX9_next_257 : decode cX9_next 257 = .ok (.putfield 145, 3) := by decide +kernel
theorem dX9_next_260 : decode cX9_next 260 = .ok (.return_, 1) := by decide +kernel
def fX9_next_J257  (y17 : Int32) (v18 : bM) : Option bM :=
  nm (upd v18 6 y17) fun v19 => some v19
def fX9_next_J229 (k168 : bM → Option bM) (y30 : Int32) (v31 : bM) : Option bM :=
  nm (upd v31 8 y30) fun v32 => nm ((v32 5) + 1) fun x33 => nm (upd v32 5 x33) fun v34 => k168 v34
def fX9_next_L168  (k168 : bM → Option bM)  (v24 : bM) : Option bM :=
  (if (v24 0) ≤ (v24 5) then (some v24) else (ck (v24 5) 700 <| bnr (fX9_isDigit (v24 (10 + (v24 5).toNatClampNeg))) fun r28 => (if r28 = 0 then (some v24) else ((if (v24 8) ≤ 9999999 then (ck (v24 5) 700 <| fX9_next_J229 k168 (((10 * (v24 8)) + (v24 (10 + (v24 5).toNatClampNeg))) - 48) v24) else (fX9_next_J229 k168 99999999 v24))))))
def fX9_next_L109  (k109 : bM → Option bM)  (v38 : bM) : Option bM :=
  (if (v38 0) ≤ (v38 5) then (some v38) else (ck (v38 5) 700 <| bnr (fX9_isSmall (v38 (10 + (v38 5).toNatClampNeg))) fun r42 => (if r42 = 0 then (some v38) else (nm ((v38 5) + 1) fun x44 => nm (upd v38 5 x44) fun v45 => k109 v45))))
def fX9_next_J52   (v2 : bM) : Option bM :=
  nm (v2 5) fun x3 => nm (upd v2 7 x3) fun v4 => (if (v4 5) = (v4 0) then (nm (upd v4 6 4) fun v6 => some v6) else (ck (v4 5) 700 <| nm (v4 (10 + (v4 5).toNatClampNeg)) fun x8 => nm ((v4 5) + 1) fun x9 => nm (upd v4 5 x9) fun v10 => bnr (fX9_isSmall x8) fun r12 => (if r12 = 0 then (bnr (fX9_isDigit x8) fun r15 => (if r15 = 0 then ((if x8 = 59 then (fX9_next_J257 2 v10) else (fX9_next_J257 3 v10))) else (nm (upd v10 6 1) fun v21 => nm (x8 - 48) fun x22 => nm (upd v21 8 x22) fun v23 => lp (fX9_next_L168) (fun _ => none) lpN v23))) else (nm (upd v10 6 0) fun v37 => lp (fX9_next_L109) (fun _ => none) lpN v37))))
def fX9_next_J39 (k0 : bM → Option bM)  (v48 : bM) : Option bM :=
  nm ((v48 5) + 1) fun x49 => nm (upd v48 5 x49) fun v50 => k0 v50
def fX9_next_L0  (k0 : bM → Option bM)  (v1 : bM) : Option bM :=
  (if (v1 0) ≤ (v1 5) then (fX9_next_J52 v1) else (ck (v1 5) 700 <| (if (v1 (10 + (v1 5).toNatClampNeg)) = 32 then (fX9_next_J39 k0 v1) else (ck (v1 5) 700 <| (if (v1 (10 + (v1 5).toNatClampNeg)) = 10 then (fX9_next_J39 k0 v1) else (fX9_next_J52 v1))))))
def fX9_next  (v : bM) : Option bM :=
  lp (fX9_next_L0) (fun _ => none) lpN v
set_option maxRecDepth 100000 in
set_option maxHeartbeats 4000000 in
theorem mX9_next {l : Launch}  {v : bM} {w0 : bM} (hf : fX9_next  v = some w0) : bMet l yX9_next cX9_next 2 none 2 0 0 LMo (fun E a => [.ref a]) v w0 (fun _ => none) := by
  refine bk_start (by decide +kernel) wfMo (fun _ _ => Nat.le_of_ble_eq_true rfl) ?_
  intro p e s m args below meth c D E a ls H locs X hr hl hB
  have hx := X.1
  have hb := X.2.1
  have hown := X.2.2.2.1
  have hts := X.2.2.2.2.1
  have hl : lv_has ls 2 [(0, .ref a)] := hl
  have hf := (fX9_next.eq_1  v).symm.trans hf
  have hL0 : ∀ (n0 : Nat) (v1 : bM) (H : Heap) (locs : List Loc) (ls : Array Slot), lp (fX9_next_L0) (fun _ => none) n0 v1 = some w0 → bB D E LMo a v1 s H locs → lv_has ls 2 [(0, .ref a)] → W p l e (rmOf 2 0 0) s m args below meth c H locs 0 0 (bQ below D E LMo a w0 none args s 0 0) (F0 m 0 ls []) := by
    intro n0
    induction n0 with
    | zero => intro v1 H locs ls hf; cases (show (none : Option bM) = some w0 from hf)
    | succ n0 ih0 =>
      intro v1 H locs ls hf hB hl
      have hf := (fX9_next_L0.eq_1  (lp (fX9_next_L0) (fun _ => none) n0) v1).symm.trans (show fX9_next_L0 (lp (fX9_next_L0) (fun _ => none) n0) v1 = some w0 from hf)
      refine lv_aload_n hx hb dX9_next_0 rfl (lv_at hl 0 rfl) ?_
      refine bk_getI X hB kl_X9 0 lc_Mo_0 14 (by decide) rfl wm_1877 dX9_next_1 ?_
      refine lv_aload_n hx hb dX9_next_4 rfl (lv_at hl 0 rfl) ?_
      refine bk_getI X hB kl_X9 0 lc_Mo_0 1 (by decide) rfl wm_1864 dX9_next_5 ?_
      have hJ52 : ∀ (v2 : bM) (H : Heap) (locs : List Loc) (ls : Array Slot), fX9_next_J52 v2 = some w0 → bB D E LMo a v2 s H locs → lv_has ls 2 [(0, .ref a)] → W p l e (rmOf 2 0 0) s m args below meth c H locs 0 0 (bQ below D E LMo a w0 none args s 0 0) (F0 m 52 ls []) := by
        intro v2 H locs ls hf hB hl
        have hf := (fX9_next_J52.eq_1  v2).symm.trans hf
        refine lv_aload_n hx hb dX9_next_52 rfl (lv_at hl 0 rfl) ?_
        refine lv_aload_n hx hb dX9_next_53 rfl (lv_at hl 0 rfl) ?_
        refine bk_getI X hB kl_X9 0 lc_Mo_0 14 (by decide) rfl wm_1877 dX9_next_54 ?_
        refine lv_topi (fun x3 ex3 => ?_)
        have hf := nm_use hf ex3
        refine bk_putI X hB kl_X9 0 lc_Mo_0 16 (by decide) rfl rfl rfl wm_1879 dX9_next_57 rfl (fun H locs hB => ?_)
        obtain ⟨v4, ev4⟩ : ∃ y : bM, y = upd v2 7 x3 := ⟨_, rfl⟩
        have hf := nm_use hf ev4
        rw [← ev4] at hB
        refine lv_aload_n hx hb dX9_next_60 rfl (lv_at hl 0 rfl) ?_
        refine bk_getI X hB kl_X9 0 lc_Mo_0 14 (by decide) rfl wm_1877 dX9_next_61 ?_
        refine lv_aload_n hx hb dX9_next_64 rfl (lv_at hl 0 rfl) ?_
        refine bk_getI X hB kl_X9 0 lc_Mo_0 1 (by decide) rfl wm_1864 dX9_next_65 ?_
        refine lv_icmp_ne (tgt := 77) hx hb dX9_next_68 (by decide) (fun c5 => ?_) (fun c5 => ?_)
        · have hf := (if_neg c5).symm.trans hf
          refine lv_aload_n hx hb dX9_next_77 rfl (lv_at hl 0 rfl) ?_
          refine bk_getR X hB kl_X9 0 lc_Mo_0 0 (by decide) rfl wm_1863 dX9_next_78 ?_
          refine lv_aload_n hx hb dX9_next_81 rfl (lv_at hl 0 rfl) ?_
          refine bk_getI X hB kl_X9 0 lc_Mo_0 14 (by decide) rfl wm_1877 dX9_next_82 ?_
          obtain ⟨h7, hf⟩ := ck_some hf
          refine bk_ald X hB 1 lc_Mo_1 h7 dX9_next_85 ?_
          refine lv_topi (fun x8 ex8 => ?_)
          have hf := nm_use hf ex8
          refine lv_istore_n (lv' := [(1, .int x8), (0, .ref a)]) hx hb dX9_next_86 rfl hl (by decide) rfl (fun ls hl => ?_)
          refine lv_aload_n hx hb dX9_next_87 rfl (lv_at hl 1 rfl) ?_
          refine lv_dup hx hb dX9_next_88 rfl ?_
          refine bk_getI X hB kl_X9 0 lc_Mo_0 14 (by decide) rfl wm_1877 dX9_next_89 ?_
          refine lv_iconst (v := 1) hx hb dX9_next_92 (by decide) ?_
          refine lv_iadd hx hb dX9_next_93 ?_
          refine lv_topi (fun x9 ex9 => ?_)
          have hf := nm_use hf ex9
          refine bk_putI X hB kl_X9 0 lc_Mo_0 14 (by decide) rfl rfl rfl wm_1877 dX9_next_94 rfl (fun H locs hB => ?_)
          obtain ⟨v10, ev10⟩ : ∃ y : bM, y = upd v4 5 x9 := ⟨_, rfl⟩
          have hf := nm_use hf ev10
          rw [← ev10] at hB
          refine lv_iload_n hx hb dX9_next_97 rfl (lv_at hl 0 rfl) ?_
          obtain ⟨r12, hc11, hf⟩ := bnr_some hf
          refine bk_non (v0 := v10) (w0 := v10) hB (fun h1 h2 h3 => bk_runS X (Av := [.int x8]) (rest := []) (mX9_isSmall hc11) ys_X9_isSmall wm_1650 ⟨Nat.le_of_ble_eq_true rfl, Nat.le_of_ble_eq_true rfl⟩ rfl rfl hl.1 h1 h2 h3 (Nat.le_of_ble_eq_true rfl) ⟨Nat.le_of_ble_eq_true rfl, Nat.le_of_ble_eq_true rfl⟩ dX9_next_98) (fun H locs hB => ?_)
          refine W.eq (g2 := F0 m 101 ls [.int r12]) rfl ?_
          refine lv_if_eq (tgt := 148) hx hb dX9_next_101 (by decide) (fun c13 => ?_) (fun c13 => ?_)
          · have hf := (if_pos c13).symm.trans hf
            refine lv_iload_n hx hb dX9_next_148 rfl (lv_at hl 0 rfl) ?_
            obtain ⟨r15, hc14, hf⟩ := bnr_some hf
            refine bk_non (v0 := v10) (w0 := v10) hB (fun h1 h2 h3 => bk_runS X (Av := [.int x8]) (rest := []) (mX9_isDigit hc14) ys_X9_isDigit wm_1656 ⟨Nat.le_of_ble_eq_true rfl, Nat.le_of_ble_eq_true rfl⟩ rfl rfl hl.1 h1 h2 h3 (Nat.le_of_ble_eq_true rfl) ⟨Nat.le_of_ble_eq_true rfl, Nat.le_of_ble_eq_true rfl⟩ dX9_next_149) (fun H locs hB => ?_)
            refine W.eq (g2 := F0 m 152 ls [.int r15]) rfl ?_
            refine lv_if_eq (tgt := 245) hx hb dX9_next_152 (by decide) (fun c16 => ?_) (fun c16 => ?_)
            · have hf := (if_pos c16).symm.trans hf
              refine lv_aload_n hx hb dX9_next_245 rfl (lv_at hl 1 rfl) ?_
              refine lv_iload_n hx hb dX9_next_246 rfl (lv_at hl 0 rfl) ?_
              refine lv_bipush (v := 59) hx hb dX9_next_247 (by decide) ?_
              have hJ257 : ∀ (y17 : Int32) (v18 : bM) (H : Heap) (locs : List Loc) (ls : Array Slot), fX9_next_J257 y17 v18 = some w0 → bB D E LMo a v18 s H locs → lv_has ls 2 [] → W p l e (rmOf 2 0 0) s m args below meth c H locs 0 0 (bQ below D E LMo a w0 none args s 0 0) (F0 m 257 ls [.int y17, .ref a]) := by
                intro y17 v18 H locs ls hf hB hl
                have hf := (fX9_next_J257.eq_1  y17 v18).symm.trans hf
                refine bk_putI X hB kl_X9 0 lc_Mo_0 15 (by decide) rfl rfl rfl wm_1878 dX9_next_257 rfl (fun H locs hB => ?_)
                obtain ⟨v19, ev19⟩ : ∃ y : bM, y = upd v18 6 y17 := ⟨_, rfl⟩
                have hf := nm_use hf ev19
                rw [← ev19] at hB
                exact bk_vW X hr rfl hf hB (Nat.le_of_ble_eq_true rfl) (Nat.le_of_ble_eq_true rfl) dX9_next_260
              refine lv_icmp_ne (tgt := 256) hx hb dX9_next_249 (by decide) (fun c20 => ?_) (fun c20 => ?_)
              · have hf := (if_neg c20).symm.trans hf
                refine lv_iconst (v := 3) hx hb dX9_next_256 (by decide) ?_
                exact hJ257 3 v10 H locs ls hf hB (lv_sub hl [] rfl)
              · have hf := (if_pos c20).symm.trans hf
                refine lv_iconst (v := 2) hx hb dX9_next_252 (by decide) ?_
                refine lv_goto (tgt := 257) hx hb dX9_next_253 (by decide) ?_
                exact hJ257 2 v10 H locs ls hf hB (lv_sub hl [] rfl)
            · have hf := (if_neg c16).symm.trans hf
              refine lv_aload_n hx hb dX9_next_155 rfl (lv_at hl 1 rfl) ?_
              refine lv_iconst (v := 1) hx hb dX9_next_156 (by decide) ?_
              refine bk_putI X hB kl_X9 0 lc_Mo_0 15 (by decide) rfl rfl rfl wm_1878 dX9_next_157 rfl (fun H locs hB => ?_)
              obtain ⟨v21, ev21⟩ : ∃ y : bM, y = upd v10 6 1 := ⟨_, rfl⟩
              have hf := nm_use hf ev21
              rw [← ev21] at hB
              refine lv_aload_n hx hb dX9_next_160 rfl (lv_at hl 1 rfl) ?_
              refine lv_iload_n hx hb dX9_next_161 rfl (lv_at hl 0 rfl) ?_
              refine lv_bipush (v := 48) hx hb dX9_next_162 (by decide) ?_
              refine lv_isub hx hb dX9_next_164 ?_
              refine lv_topi (fun x22 ex22 => ?_)
              have hf := nm_use hf ex22
              refine bk_putI X hB kl_X9 0 lc_Mo_0 17 (by decide) rfl rfl rfl wm_1880 dX9_next_165 rfl (fun H locs hB => ?_)
              obtain ⟨v23, ev23⟩ : ∃ y : bM, y = upd v21 8 x22 := ⟨_, rfl⟩
              have hf := nm_use hf ev23
              rw [← ev23] at hB
              have hL168 : ∀ (n168 : Nat) (v24 : bM) (H : Heap) (locs : List Loc) (ls : Array Slot), lp (fX9_next_L168) (fun _ => none) n168 v24 = some w0 → bB D E LMo a v24 s H locs → lv_has ls 2 [(0, .ref a)] → W p l e (rmOf 2 0 0) s m args below meth c H locs 0 0 (bQ below D E LMo a w0 none args s 0 0) (F0 m 168 ls []) := by
                intro n168
                induction n168 with
                | zero => intro v24 H locs ls hf; cases (show (none : Option bM) = some w0 from hf)
                | succ n168 ih168 =>
                  intro v24 H locs ls hf hB hl
                  have hf := (fX9_next_L168.eq_1  (lp (fX9_next_L168) (fun _ => none) n168) v24).symm.trans (show fX9_next_L168 (lp (fX9_next_L168) (fun _ => none) n168) v24 = some w0 from hf)
                  refine lv_aload_n hx hb dX9_next_168 rfl (lv_at hl 0 rfl) ?_
                  refine bk_getI X hB kl_X9 0 lc_Mo_0 14 (by decide) rfl wm_1877 dX9_next_169 ?_
                  refine lv_aload_n hx hb dX9_next_172 rfl (lv_at hl 0 rfl) ?_
                  refine bk_getI X hB kl_X9 0 lc_Mo_0 1 (by decide) rfl wm_1864 dX9_next_173 ?_
                  refine lv_icmp_ge (tgt := 260) hx hb dX9_next_176 (by decide) (fun c25 => ?_) (fun c25 => ?_)
                  · have hf := (if_pos c25).symm.trans hf
                    exact bk_vW X hr rfl hf hB (Nat.le_of_ble_eq_true rfl) (Nat.le_of_ble_eq_true rfl) dX9_next_260
                  · have hf := (if_neg c25).symm.trans hf
                    refine lv_aload_n hx hb dX9_next_179 rfl (lv_at hl 0 rfl) ?_
                    refine bk_getR X hB kl_X9 0 lc_Mo_0 0 (by decide) rfl wm_1863 dX9_next_180 ?_
                    refine lv_aload_n hx hb dX9_next_183 rfl (lv_at hl 0 rfl) ?_
                    refine bk_getI X hB kl_X9 0 lc_Mo_0 14 (by decide) rfl wm_1877 dX9_next_184 ?_
                    obtain ⟨h26, hf⟩ := ck_some hf
                    refine bk_ald X hB 1 lc_Mo_1 h26 dX9_next_187 ?_
                    obtain ⟨r28, hc27, hf⟩ := bnr_some hf
                    refine bk_non (v0 := v24) (w0 := v24) hB (fun h1 h2 h3 => bk_runS X (Av := [.int (v24 (10 + (v24 5).toNatClampNeg))]) (rest := []) (mX9_isDigit hc27) ys_X9_isDigit wm_1656 ⟨Nat.le_of_ble_eq_true rfl, Nat.le_of_ble_eq_true rfl⟩ rfl rfl hl.1 h1 h2 h3 (Nat.le_of_ble_eq_true rfl) ⟨Nat.le_of_ble_eq_true rfl, Nat.le_of_ble_eq_true rfl⟩ dX9_next_188) (fun H locs hB => ?_)
                    refine W.eq (g2 := F0 m 191 ls [.int r28]) rfl ?_
                    refine lv_if_eq (tgt := 260) hx hb dX9_next_191 (by decide) (fun c29 => ?_) (fun c29 => ?_)
                    · have hf := (if_pos c29).symm.trans hf
                      exact bk_vW X hr rfl hf hB (Nat.le_of_ble_eq_true rfl) (Nat.le_of_ble_eq_true rfl) dX9_next_260
                    · have hf := (if_neg c29).symm.trans hf
                      refine lv_aload_n hx hb dX9_next_194 rfl (lv_at hl 0 rfl) ?_
                      refine lv_aload_n hx hb dX9_next_195 rfl (lv_at hl 0 rfl) ?_
                      refine bk_getI X hB kl_X9 0 lc_Mo_0 17 (by decide) rfl wm_1880 dX9_next_196 ?_
                      refine lv_ldc hx hb hown (hts _ wm_1659) dX9_next_199 ?_
                      have hJ229 : ∀ (y30 : Int32) (v31 : bM) (H : Heap) (locs : List Loc) (ls : Array Slot), fX9_next_J229 (lp (fX9_next_L168) (fun _ => none) n168) y30 v31 = some w0 → bB D E LMo a v31 s H locs → lv_has ls 2 [(0, .ref a)] → W p l e (rmOf 2 0 0) s m args below meth c H locs 0 0 (bQ below D E LMo a w0 none args s 0 0) (F0 m 229 ls [.int y30, .ref a]) := by
                        intro y30 v31 H locs ls hf hB hl
                        have hf := (fX9_next_J229.eq_1 (lp (fX9_next_L168) (fun _ => none) n168) y30 v31).symm.trans hf
                        refine bk_putI X hB kl_X9 0 lc_Mo_0 17 (by decide) rfl rfl rfl wm_1880 dX9_next_229 rfl (fun H locs hB => ?_)
                        obtain ⟨v32, ev32⟩ : ∃ y : bM, y = upd v31 8 y30 := ⟨_, rfl⟩
                        have hf := nm_use hf ev32
                        rw [← ev32] at hB
                        refine lv_aload_n hx hb dX9_next_232 rfl (lv_at hl 0 rfl) ?_
                        refine lv_dup hx hb dX9_next_233 rfl ?_
                        refine bk_getI X hB kl_X9 0 lc_Mo_0 14 (by decide) rfl wm_1877 dX9_next_234 ?_
                        refine lv_iconst (v := 1) hx hb dX9_next_237 (by decide) ?_
                        refine lv_iadd hx hb dX9_next_238 ?_
                        refine lv_topi (fun x33 ex33 => ?_)
                        have hf := nm_use hf ex33
                        refine bk_putI X hB kl_X9 0 lc_Mo_0 14 (by decide) rfl rfl rfl wm_1877 dX9_next_239 rfl (fun H locs hB => ?_)
                        obtain ⟨v34, ev34⟩ : ∃ y : bM, y = upd v32 5 x33 := ⟨_, rfl⟩
                        have hf := nm_use hf ev34
                        rw [← ev34] at hB
                        refine lv_goto (tgt := 168) hx hb dX9_next_242 (by decide) ?_
                        exact ih168 v34 H locs ls hf hB (lv_sub hl [0] rfl)
                      refine lv_icmp_le (tgt := 209) hx hb dX9_next_201 (by decide) (fun c35 => ?_) (fun c35 => ?_)
                      · have hf := (if_pos c35).symm.trans hf
                        refine lv_bipush (v := 10) hx hb dX9_next_209 (by decide) ?_
                        refine lv_aload_n hx hb dX9_next_211 rfl (lv_at hl 0 rfl) ?_
                        refine bk_getI X hB kl_X9 0 lc_Mo_0 17 (by decide) rfl wm_1880 dX9_next_212 ?_
                        refine lv_imul hx hb dX9_next_215 ?_
                        refine lv_aload_n hx hb dX9_next_216 rfl (lv_at hl 0 rfl) ?_
                        refine bk_getR X hB kl_X9 0 lc_Mo_0 0 (by decide) rfl wm_1863 dX9_next_217 ?_
                        refine lv_aload_n hx hb dX9_next_220 rfl (lv_at hl 0 rfl) ?_
                        refine bk_getI X hB kl_X9 0 lc_Mo_0 14 (by decide) rfl wm_1877 dX9_next_221 ?_
                        obtain ⟨h36, hf⟩ := ck_some hf
                        refine bk_ald X hB 1 lc_Mo_1 h36 dX9_next_224 ?_
                        refine lv_iadd hx hb dX9_next_225 ?_
                        refine lv_bipush (v := 48) hx hb dX9_next_226 (by decide) ?_
                        refine lv_isub hx hb dX9_next_228 ?_
                        exact hJ229 (((10 * (v24 8)) + (v24 (10 + (v24 5).toNatClampNeg))) - 48) v24 H locs ls hf hB (lv_sub hl [0] rfl)
                      · have hf := (if_neg c35).symm.trans hf
                        refine lv_ldc hx hb hown (hts _ wm_1660) dX9_next_204 ?_
                        refine lv_goto (tgt := 229) hx hb dX9_next_206 (by decide) ?_
                        exact hJ229 99999999 v24 H locs ls hf hB (lv_sub hl [0] rfl)
              exact hL168 lpN v23 H locs ls hf hB (lv_sub hl [1] rfl)
          · have hf := (if_neg c13).symm.trans hf
            refine lv_aload_n hx hb dX9_next_104 rfl (lv_at hl 1 rfl) ?_
            refine lv_iconst (v := 0) hx hb dX9_next_105 (by decide) ?_
            refine bk_putI X hB kl_X9 0 lc_Mo_0 15 (by decide) rfl rfl rfl wm_1878 dX9_next_106 rfl (fun H locs hB => ?_)
            obtain ⟨v37, ev37⟩ : ∃ y : bM, y = upd v10 6 0 := ⟨_, rfl⟩
            have hf := nm_use hf ev37
            rw [← ev37] at hB
            have hL109 : ∀ (n109 : Nat) (v38 : bM) (H : Heap) (locs : List Loc) (ls : Array Slot), lp (fX9_next_L109) (fun _ => none) n109 v38 = some w0 → bB D E LMo a v38 s H locs → lv_has ls 2 [(0, .ref a)] → W p l e (rmOf 2 0 0) s m args below meth c H locs 0 0 (bQ below D E LMo a w0 none args s 0 0) (F0 m 109 ls []) := by
              intro n109
              induction n109 with
              | zero => intro v38 H locs ls hf; cases (show (none : Option bM) = some w0 from hf)
              | succ n109 ih109 =>
                intro v38 H locs ls hf hB hl
                have hf := (fX9_next_L109.eq_1  (lp (fX9_next_L109) (fun _ => none) n109) v38).symm.trans (show fX9_next_L109 (lp (fX9_next_L109) (fun _ => none) n109) v38 = some w0 from hf)
                refine lv_aload_n hx hb dX9_next_109 rfl (lv_at hl 0 rfl) ?_
                refine bk_getI X hB kl_X9 0 lc_Mo_0 14 (by decide) rfl wm_1877 dX9_next_110 ?_
                refine lv_aload_n hx hb dX9_next_113 rfl (lv_at hl 0 rfl) ?_
                refine bk_getI X hB kl_X9 0 lc_Mo_0 1 (by decide) rfl wm_1864 dX9_next_114 ?_
                refine lv_icmp_ge (tgt := 260) hx hb dX9_next_117 (by decide) (fun c39 => ?_) (fun c39 => ?_)
                · have hf := (if_pos c39).symm.trans hf
                  exact bk_vW X hr rfl hf hB (Nat.le_of_ble_eq_true rfl) (Nat.le_of_ble_eq_true rfl) dX9_next_260
                · have hf := (if_neg c39).symm.trans hf
                  refine lv_aload_n hx hb dX9_next_120 rfl (lv_at hl 0 rfl) ?_
                  refine bk_getR X hB kl_X9 0 lc_Mo_0 0 (by decide) rfl wm_1863 dX9_next_121 ?_
                  refine lv_aload_n hx hb dX9_next_124 rfl (lv_at hl 0 rfl) ?_
                  refine bk_getI X hB kl_X9 0 lc_Mo_0 14 (by decide) rfl wm_1877 dX9_next_125 ?_
                  obtain ⟨h40, hf⟩ := ck_some hf
                  refine bk_ald X hB 1 lc_Mo_1 h40 dX9_next_128 ?_
                  obtain ⟨r42, hc41, hf⟩ := bnr_some hf
                  refine bk_non (v0 := v38) (w0 := v38) hB (fun h1 h2 h3 => bk_runS X (Av := [.int (v38 (10 + (v38 5).toNatClampNeg))]) (rest := []) (mX9_isSmall hc41) ys_X9_isSmall wm_1650 ⟨Nat.le_of_ble_eq_true rfl, Nat.le_of_ble_eq_true rfl⟩ rfl rfl hl.1 h1 h2 h3 (Nat.le_of_ble_eq_true rfl) ⟨Nat.le_of_ble_eq_true rfl, Nat.le_of_ble_eq_true rfl⟩ dX9_next_129) (fun H locs hB => ?_)
                  refine W.eq (g2 := F0 m 132 ls [.int r42]) rfl ?_
                  refine lv_if_eq (tgt := 260) hx hb dX9_next_132 (by decide) (fun c43 => ?_) (fun c43 => ?_)
                  · have hf := (if_pos c43).symm.trans hf
                    exact bk_vW X hr rfl hf hB (Nat.le_of_ble_eq_true rfl) (Nat.le_of_ble_eq_true rfl) dX9_next_260
                  · have hf := (if_neg c43).symm.trans hf
                    refine lv_aload_n hx hb dX9_next_135 rfl (lv_at hl 0 rfl) ?_
                    refine lv_dup hx hb dX9_next_136 rfl ?_
                    refine bk_getI X hB kl_X9 0 lc_Mo_0 14 (by decide) rfl wm_1877 dX9_next_137 ?_
                    refine lv_iconst (v := 1) hx hb dX9_next_140 (by decide) ?_
                    refine lv_iadd hx hb dX9_next_141 ?_
                    refine lv_topi (fun x44 ex44 => ?_)
                    have hf := nm_use hf ex44
                    refine bk_putI X hB kl_X9 0 lc_Mo_0 14 (by decide) rfl rfl rfl wm_1877 dX9_next_142 rfl (fun H locs hB => ?_)
                    obtain ⟨v45, ev45⟩ : ∃ y : bM, y = upd v38 5 x44 := ⟨_, rfl⟩
                    have hf := nm_use hf ev45
                    rw [← ev45] at hB
                    refine lv_goto (tgt := 109) hx hb dX9_next_145 (by decide) ?_
                    exact ih109 v45 H locs ls hf hB (lv_sub hl [0] rfl)
            exact hL109 lpN v37 H locs ls hf hB (lv_sub hl [1] rfl)
        · have hf := (if_pos c5).symm.trans hf
          refine lv_aload_n hx hb dX9_next_71 rfl (lv_at hl 0 rfl) ?_
          refine lv_iconst (v := 4) hx hb dX9_next_72 (by decide) ?_
          refine bk_putI X hB kl_X9 0 lc_Mo_0 15 (by decide) rfl rfl rfl wm_1878 dX9_next_73 rfl (fun H locs hB => ?_)
          obtain ⟨v6, ev6⟩ : ∃ y : bM, y = upd v4 6 4 := ⟨_, rfl⟩
          have hf := nm_use hf ev6
          rw [← ev6] at hB
          exact bk_vW X hr rfl hf hB (Nat.le_of_ble_eq_true rfl) (Nat.le_of_ble_eq_true rfl) dX9_next_76
      refine lv_icmp_ge (tgt := 52) hx hb dX9_next_8 (by decide) (fun c46 => ?_) (fun c46 => ?_)
      · have hf := (if_pos c46).symm.trans hf
        exact hJ52 v1 H locs ls hf hB (lv_sub hl [0] rfl)
      · have hf := (if_neg c46).symm.trans hf
        refine lv_aload_n hx hb dX9_next_11 rfl (lv_at hl 0 rfl) ?_
        refine bk_getR X hB kl_X9 0 lc_Mo_0 0 (by decide) rfl wm_1863 dX9_next_12 ?_
        refine lv_aload_n hx hb dX9_next_15 rfl (lv_at hl 0 rfl) ?_
        refine bk_getI X hB kl_X9 0 lc_Mo_0 14 (by decide) rfl wm_1877 dX9_next_16 ?_
        obtain ⟨h47, hf⟩ := ck_some hf
        refine bk_ald X hB 1 lc_Mo_1 h47 dX9_next_19 ?_
        refine lv_bipush (v := 32) hx hb dX9_next_20 (by decide) ?_
        have hJ39 : ∀ (v48 : bM) (H : Heap) (locs : List Loc) (ls : Array Slot), fX9_next_J39 (lp (fX9_next_L0) (fun _ => none) n0) v48 = some w0 → bB D E LMo a v48 s H locs → lv_has ls 2 [(0, .ref a)] → W p l e (rmOf 2 0 0) s m args below meth c H locs 0 0 (bQ below D E LMo a w0 none args s 0 0) (F0 m 39 ls []) := by
          intro v48 H locs ls hf hB hl
          have hf := (fX9_next_J39.eq_1 (lp (fX9_next_L0) (fun _ => none) n0) v48).symm.trans hf
          refine lv_aload_n hx hb dX9_next_39 rfl (lv_at hl 0 rfl) ?_
          refine lv_dup hx hb dX9_next_40 rfl ?_
          refine bk_getI X hB kl_X9 0 lc_Mo_0 14 (by decide) rfl wm_1877 dX9_next_41 ?_
          refine lv_iconst (v := 1) hx hb dX9_next_44 (by decide) ?_
          refine lv_iadd hx hb dX9_next_45 ?_
          refine lv_topi (fun x49 ex49 => ?_)
          have hf := nm_use hf ex49
          refine bk_putI X hB kl_X9 0 lc_Mo_0 14 (by decide) rfl rfl rfl wm_1877 dX9_next_46 rfl (fun H locs hB => ?_)
          obtain ⟨v50, ev50⟩ : ∃ y : bM, y = upd v48 5 x49 := ⟨_, rfl⟩
          have hf := nm_use hf ev50
          rw [← ev50] at hB
          refine lv_goto (tgt := 0) hx hb dX9_next_49 (by decide) ?_
          exact ih0 v50 H locs ls hf hB (lv_sub hl [0] rfl)
        refine lv_icmp_eq (tgt := 39) hx hb dX9_next_22 (by decide) (fun c51 => ?_) (fun c51 => ?_)
        · have hf := (if_pos c51).symm.trans hf
          exact hJ39 v1 H locs ls hf hB (lv_sub hl [0] rfl)
        · have hf := (if_neg c51).symm.trans hf
          refine lv_aload_n hx hb dX9_next_25 rfl (lv_at hl 0 rfl) ?_
          refine bk_getR X hB kl_X9 0 lc_Mo_0 0 (by decide) rfl wm_1863 dX9_next_26 ?_
          refine lv_aload_n hx hb dX9_next_29 rfl (lv_at hl 0 rfl) ?_
          refine bk_getI X hB kl_X9 0 lc_Mo_0 14 (by decide) rfl wm_1877 dX9_next_30 ?_
          obtain ⟨h52, hf⟩ := ck_some hf
          refine bk_ald X hB 1 lc_Mo_1 h52 dX9_next_33 ?_
          refine lv_bipush (v := 10) hx hb dX9_next_34 (by decide) ?_
          refine lv_icmp_ne (tgt := 52) hx hb dX9_next_36 (by decide) (fun c53 => ?_) (fun c53 => ?_)
          · have hf := (if_neg c53).symm.trans hf
            exact hJ52 v1 H locs ls hf hB (lv_sub hl [0] rfl)
          · have hf := (if_pos c53).symm.trans hf
            exact hJ39 v1 H locs ls hf hB (lv_sub hl [0] rfl)
  exact hL0 lpN v H locs ls hf hB (lv_sub hl [0] rfl)
theorem yv_X9_next : bYv yX9_next RX9 cX9_next 2 none 0 := ⟨⟨rfl, by decide, by decide, rfl⟩, wm_1648, wp_28, wm_17, wm_1649⟩

theorem dX9_wrong_0 : decode cX9_wrong 0 = .ok (.aload_n 0, 1) := by decide +kernel
theorem dX9_wrong_1 : decode cX9_wrong 1 = .ok (.iload_n 1, 1) := by decide +kernel
theorem dX9_wrong_2 : decode cX9_wrong 2 = .ok (.putfield 160, 3) := by decide +kernel
theorem dX9_wrong_5 : decode cX9_wrong 5 = .ok (.aload_n 0, 1) := by decide +kernel
theorem dX9_wrong_6 : decode cX9_wrong 6 = .ok (.aload_n 0, 1) := by decide +kernel
theorem dX9_wrong_7 : decode cX9_wrong 7 = .ok (.getfield 142, 3) := by decide +kernel
theorem dX9_wrong_10 : decode cX9_wrong 10 = .ok (.putfield 13, 3) := by decide +kernel
theorem dX9_wrong_13 : decode cX9_wrong 13 = .ok (.iconst 0, 1) := by decide +kernel
theorem dX9_wrong_14 : decode cX9_wrong 14 = .ok (.ireturn, 1) := by decide +kernel
def fX9_wrong (p1 : Int32) (v : bM) : Option (Int32 × bM) :=
  nm (upd v 1 p1) fun v1 => nm (v1 7) fun x2 => nm (upd v1 2 x2) fun v3 => some (0, v3)
set_option maxRecDepth 100000 in
set_option maxHeartbeats 4000000 in
theorem mX9_wrong {l : Launch} {p1 : Int32} {v : bM} {r0 : Int32} {w0 : bM} (hf : fX9_wrong p1 v = some (r0, w0)) : bMet l yX9_wrong cX9_wrong 2 (some .boolean) 0 0 0 LMo (fun E a => [.ref a, .int p1]) v w0 (fun _ => some (.int r0)) := by
  refine bk_start (by decide +kernel) wfMo (fun _ _ => Nat.le_of_ble_eq_true rfl) ?_
  intro p e s m args below meth c D E a ls H locs X hr hl hB
  have hx := X.1
  have hb := X.2.1
  have hown := X.2.2.2.1
  have hts := X.2.2.2.2.1
  have hl : lv_has ls 2 [(0, .ref a), (1, .int p1)] := hl
  have hf := (fX9_wrong.eq_1 p1 v).symm.trans hf
  refine lv_aload_n hx hb dX9_wrong_0 rfl (lv_at hl 0 rfl) ?_
  refine lv_iload_n hx hb dX9_wrong_1 rfl (lv_at hl 1 rfl) ?_
  refine bk_putI X hB kl_X9 0 lc_Mo_0 2 (by decide) rfl rfl rfl wm_1865 dX9_wrong_2 rfl (fun H locs hB => ?_)
  obtain ⟨v1, ev1⟩ : ∃ y : bM, y = upd v 1 p1 := ⟨_, rfl⟩
  have hf := nm_use hf ev1
  rw [← ev1] at hB
  refine lv_aload_n hx hb dX9_wrong_5 rfl (lv_at hl 0 rfl) ?_
  refine lv_aload_n hx hb dX9_wrong_6 rfl (lv_at hl 0 rfl) ?_
  refine bk_getI X hB kl_X9 0 lc_Mo_0 16 (by decide) rfl wm_1879 dX9_wrong_7 ?_
  refine lv_topi (fun x2 ex2 => ?_)
  have hf := nm_use hf ex2
  refine bk_putI X hB kl_X9 0 lc_Mo_0 3 (by decide) rfl rfl rfl wm_1866 dX9_wrong_10 rfl (fun H locs hB => ?_)
  obtain ⟨v3, ev3⟩ : ∃ y : bM, y = upd v1 2 x2 := ⟨_, rfl⟩
  have hf := nm_use hf ev3
  rw [← ev3] at hB
  refine lv_iconst (v := 0) hx hb dX9_wrong_13 (by decide) ?_
  exact bk_zW X hr rfl rfl hf hB (Nat.le_of_ble_eq_true rfl) (Nat.le_of_ble_eq_true rfl) dX9_wrong_14
theorem yv_X9_wrong : bYv yX9_wrong RX9 cX9_wrong 2 (some .boolean) 1 := ⟨⟨rfl, by decide, by decide, rfl⟩, wm_1679, wp_32, wm_17, wm_1680⟩

theorem dX9_numberIn_0 : decode cX9_numberIn 0 = .ok (.aload_n 0, 1) := by decide +kernel
theorem dX9_numberIn_1 : decode cX9_numberIn 1 = .ok (.getfield 145, 3) := by decide +kernel
theorem dX9_numberIn_4 : decode cX9_numberIn 4 = .ok (.iconst 1, 1) := by decide +kernel
theorem dX9_numberIn_5 : decode cX9_numberIn 5 = .ok (.if_icmp .eq 9, 3) := by decide +kernel
theorem dX9_numberIn_8 : decode cX9_numberIn 8 = .ok (.aload_n 0, 1) := by decide +kernel
theorem dX9_numberIn_9 : decode cX9_numberIn 9 = .ok (.iconst 1, 1) := by decide +kernel
theorem dX9_numberIn_10 : decode cX9_numberIn 10 = .ok (.invokevirtual 167, 3) := by decide +kernel
theorem dX9_numberIn_13 : decode cX9_numberIn 13 = .ok (.ireturn, 1) := by decide +kernel
theorem dX9_numberIn_14 : decode cX9_numberIn 14 = .ok (.aload_n 0, 1) := by decide +kernel
theorem dX9_numberIn_15 : decode cX9_numberIn 15 = .ok (.getfield 155, 3) := by decide +kernel
theorem dX9_numberIn_18 : decode cX9_numberIn 18 = .ok (.iload_n 1, 1) := by decide +kernel
theorem dX9_numberIn_19 : decode cX9_numberIn 19 = .ok (.iload_n 2, 1) := by decide +kernel
theorem dX9_numberIn_20 : decode cX9_numberIn 20 = .ok (.invokestatic 135, 3) := by decide +kernel
theorem dX9_numberIn_23 : decode cX9_numberIn 23 = .ok (.ifCond .ne 11, 3) := by decide +kernel
theorem dX9_numberIn_26 : decode cX9_numberIn 26 = .ok (.aload_n 0, 1) := by decide +kernel
theorem dX9_numberIn_27 : decode cX9_numberIn 27 = .ok (.iconst 2, 1) := by decide +kernel
theorem dX9_numberIn_28 : decode cX9_numberIn 28 = .ok (.invokevirtual 167, 3) := by decide +kernel
theorem dX9_numberIn_31 : decode cX9_numberIn 31 = .ok (.ifCond .eq 7, 3) := by decide +kernel
theorem dX9_numberIn_34 : decode cX9_numberIn 34 = .ok (.iconst 1, 1) := by decide +kernel
theorem dX9_numberIn_35 : decode cX9_numberIn 35 = .ok (.goto 4, 3) := by decide +kernel
theorem dX9_numberIn_38 : decode cX9_numberIn 38 = .ok (.iconst 0, 1) := by decide +kernel
theorem dX9_numberIn_39 : decode cX9_numberIn 39 = .ok (.ireturn, 1) := by decide +kernel
def fX9_numberIn_J34   (v4 : bM) : Option (Int32 × bM) :=
  some (1, v4)
def fX9_numberIn (p1 : Int32) (p2 : Int32) (v : bM) : Option (Int32 × bM) :=
  (if (v 6) = 1 then (bnr (fX9_inRange (v 8) p1 p2) fun r3 => (if r3 = 0 then (bnd (fX9_wrong 2 v) fun r8 w7 => (if r8 = 0 then (some (0, w7)) else (fX9_numberIn_J34 w7))) else (fX9_numberIn_J34 v))) else (bnd (fX9_wrong 1 v) fun r12 w11 => ck r12 2 <| some (r12, w11)))
set_option maxRecDepth 100000 in
set_option maxHeartbeats 4000000 in
theorem mX9_numberIn {l : Launch} {p1 : Int32} {p2 : Int32} {v : bM} {r0 : Int32} {w0 : bM} (hf : fX9_numberIn p1 p2 v = some (r0, w0)) : bMet l yX9_numberIn cX9_numberIn 3 (some .boolean) 1 0 0 LMo (fun E a => [.ref a, .int p1, .int p2]) v w0 (fun _ => some (.int r0)) := by
  refine bk_start (by decide +kernel) wfMo (fun _ _ => Nat.le_of_ble_eq_true rfl) ?_
  intro p e s m args below meth c D E a ls H locs X hr hl hB
  have hx := X.1
  have hb := X.2.1
  have hown := X.2.2.2.1
  have hts := X.2.2.2.2.1
  have hl : lv_has ls 3 [(0, .ref a), (1, .int p1), (2, .int p2)] := hl
  have hf := (fX9_numberIn.eq_1 p1 p2 v).symm.trans hf
  refine lv_aload_n hx hb dX9_numberIn_0 rfl (lv_at hl 0 rfl) ?_
  refine bk_getI X hB kl_X9 0 lc_Mo_0 15 (by decide) rfl wm_1878 dX9_numberIn_1 ?_
  refine lv_iconst (v := 1) hx hb dX9_numberIn_4 (by decide) ?_
  refine lv_icmp_eq (tgt := 14) hx hb dX9_numberIn_5 (by decide) (fun c1 => ?_) (fun c1 => ?_)
  · have hf := (if_pos c1).symm.trans hf
    refine lv_aload_n hx hb dX9_numberIn_14 rfl (lv_at hl 0 rfl) ?_
    refine bk_getI X hB kl_X9 0 lc_Mo_0 17 (by decide) rfl wm_1880 dX9_numberIn_15 ?_
    refine lv_iload_n hx hb dX9_numberIn_18 rfl (lv_at hl 1 rfl) ?_
    refine lv_iload_n hx hb dX9_numberIn_19 rfl (lv_at hl 2 rfl) ?_
    obtain ⟨r3, hc2, hf⟩ := bnr_some hf
    refine bk_non (v0 := v) (w0 := v) hB (fun h1 h2 h3 => bk_runS X (Av := [.int (v 8), .int p1, .int p2]) (rest := []) (mX9_inRange hc2) ys_X9_inRange wm_1653 ⟨Nat.le_of_ble_eq_true rfl, Nat.le_of_ble_eq_true rfl⟩ rfl rfl hl.1 h1 h2 h3 (Nat.le_of_ble_eq_true rfl) ⟨Nat.le_of_ble_eq_true rfl, Nat.le_of_ble_eq_true rfl⟩ dX9_numberIn_20) (fun H locs hB => ?_)
    refine W.eq (g2 := F0 m 23 ls [.int r3]) rfl ?_
    have hJ34 : ∀ (v4 : bM) (H : Heap) (locs : List Loc) (ls : Array Slot), fX9_numberIn_J34 v4 = some (r0, w0) → bB D E LMo a v4 s H locs → lv_has ls 3 [] → W p l e (rmOf 1 0 0) s m args below meth c H locs 0 0 (bQ below D E LMo a w0 (some (.int r0)) args s 0 0) (F0 m 34 ls []) := by
      intro v4 H locs ls hf hB hl
      have hf := (fX9_numberIn_J34.eq_1  v4).symm.trans hf
      refine lv_iconst (v := 1) hx hb dX9_numberIn_34 (by decide) ?_
      refine lv_goto (tgt := 39) hx hb dX9_numberIn_35 (by decide) ?_
      exact bk_zW X hr rfl rfl hf hB (Nat.le_of_ble_eq_true rfl) (Nat.le_of_ble_eq_true rfl) dX9_numberIn_39
    refine lv_if_ne (tgt := 34) hx hb dX9_numberIn_23 (by decide) (fun c5 => ?_) (fun c5 => ?_)
    · have hf := (if_neg c5).symm.trans hf
      exact hJ34 v H locs ls hf hB (lv_sub hl [] rfl)
    · have hf := (if_pos c5).symm.trans hf
      refine lv_aload_n hx hb dX9_numberIn_26 rfl (lv_at hl 0 rfl) ?_
      refine lv_iconst (v := 2) hx hb dX9_numberIn_27 (by decide) ?_
      obtain ⟨r8, w7, hc6, hf⟩ := bnd_some hf
      refine bk_all hB (fun h1 h2 h3 => bk_runV X (Av := [.int 2]) (rest := []) (mX9_wrong hc6) yv_X9_wrong wm_1677 ⟨Nat.le_of_ble_eq_true rfl, Nat.le_of_ble_eq_true rfl⟩ rfl rfl hl.1 kl_X9.1 (hB.1.obj lc_Mo_0) h1 h2 h3 (Nat.le_of_ble_eq_true rfl) ⟨Nat.le_of_ble_eq_true rfl, Nat.le_of_ble_eq_true rfl⟩ dX9_numberIn_28) (fun H locs hB => ?_)
      refine W.eq (g2 := F0 m 31 ls [.int r8]) rfl ?_
      refine lv_if_eq (tgt := 38) hx hb dX9_numberIn_31 (by decide) (fun c9 => ?_) (fun c9 => ?_)
      · have hf := (if_pos c9).symm.trans hf
        refine lv_iconst (v := 0) hx hb dX9_numberIn_38 (by decide) ?_
        exact bk_zW X hr rfl rfl hf hB (Nat.le_of_ble_eq_true rfl) (Nat.le_of_ble_eq_true rfl) dX9_numberIn_39
      · have hf := (if_neg c9).symm.trans hf
        exact hJ34 w7 H locs ls hf hB (lv_sub hl [] rfl)
  · have hf := (if_neg c1).symm.trans hf
    refine lv_aload_n hx hb dX9_numberIn_8 rfl (lv_at hl 0 rfl) ?_
    refine lv_iconst (v := 1) hx hb dX9_numberIn_9 (by decide) ?_
    obtain ⟨r12, w11, hc10, hf⟩ := bnd_some hf
    refine bk_all hB (fun h1 h2 h3 => bk_runV X (Av := [.int 1]) (rest := []) (mX9_wrong hc10) yv_X9_wrong wm_1677 ⟨Nat.le_of_ble_eq_true rfl, Nat.le_of_ble_eq_true rfl⟩ rfl rfl hl.1 kl_X9.1 (hB.1.obj lc_Mo_0) h1 h2 h3 (Nat.le_of_ble_eq_true rfl) ⟨Nat.le_of_ble_eq_true rfl, Nat.le_of_ble_eq_true rfl⟩ dX9_numberIn_10) (fun H locs hB => ?_)
    refine W.eq (g2 := F0 m 13 ls [.int r12]) rfl ?_
    obtain ⟨h13, hf⟩ := ck_some hf
    exact bk_zW X hr rfl (nar_z h13) hf hB (Nat.le_of_ble_eq_true rfl) (Nat.le_of_ble_eq_true rfl) dX9_numberIn_13
theorem yv_X9_numberIn : bYv yX9_numberIn RX9 cX9_numberIn 3 (some .boolean) 2 := ⟨⟨rfl, by decide, by decide, rfl⟩, wm_1688, wp_34, wm_17, wm_1689⟩

theorem dX9_isEnd_0 : decode cX9_isEnd 0 = .ok (.aload_n 0, 1) := by decide +kernel
theorem dX9_isEnd_1 : decode cX9_isEnd 1 = .ok (.getfield 145, 3) := by decide +kernel
theorem dX9_isEnd_4 : decode cX9_isEnd 4 = .ok (.iconst 2, 1) := by decide +kernel
theorem dX9_isEnd_5 : decode cX9_isEnd 5 = .ok (.if_icmp .eq 11, 3) := by decide +kernel
theorem dX9_isEnd_8 : decode cX9_isEnd 8 = .ok (.aload_n 0, 1) := by decide +kernel
theorem dX9_isEnd_9 : decode cX9_isEnd 9 = .ok (.iconst 1, 1) := by decide +kernel
theorem dX9_isEnd_10 : decode cX9_isEnd 10 = .ok (.invokevirtual 167, 3) := by decide +kernel
theorem dX9_isEnd_13 : decode cX9_isEnd 13 = .ok (.ifCond .eq 7, 3) := by decide +kernel
theorem dX9_isEnd_16 : decode cX9_isEnd 16 = .ok (.iconst 1, 1) := by decide +kernel
theorem dX9_isEnd_17 : decode cX9_isEnd 17 = .ok (.goto 4, 3) := by decide +kernel
theorem dX9_isEnd_20 : decode cX9_isEnd 20 = .ok (.iconst 0, 1) := by decide +kernel
theorem dX9_isEnd_21 : decode cX9_isEnd 21 = .ok (.ireturn, 1) := by decide +kernel
def fX9_isEnd_J16   (v1 : bM) : Option (Int32 × bM) :=
  some (1, v1)
def fX9_isEnd  (v : bM) : Option (Int32 × bM) :=
  (if (v 6) = 2 then (fX9_isEnd_J16 v) else (bnd (fX9_wrong 1 v) fun r5 w4 => (if r5 = 0 then (some (0, w4)) else (fX9_isEnd_J16 w4))))
set_option maxRecDepth 100000 in
set_option maxHeartbeats 4000000 in
theorem mX9_isEnd {l : Launch}  {v : bM} {r0 : Int32} {w0 : bM} (hf : fX9_isEnd  v = some (r0, w0)) : bMet l yX9_isEnd cX9_isEnd 1 (some .boolean) 1 0 0 LMo (fun E a => [.ref a]) v w0 (fun _ => some (.int r0)) := by
  refine bk_start (by decide +kernel) wfMo (fun _ _ => Nat.le_of_ble_eq_true rfl) ?_
  intro p e s m args below meth c D E a ls H locs X hr hl hB
  have hx := X.1
  have hb := X.2.1
  have hown := X.2.2.2.1
  have hts := X.2.2.2.2.1
  have hl : lv_has ls 1 [(0, .ref a)] := hl
  have hf := (fX9_isEnd.eq_1  v).symm.trans hf
  refine lv_aload_n hx hb dX9_isEnd_0 rfl (lv_at hl 0 rfl) ?_
  refine bk_getI X hB kl_X9 0 lc_Mo_0 15 (by decide) rfl wm_1878 dX9_isEnd_1 ?_
  refine lv_iconst (v := 2) hx hb dX9_isEnd_4 (by decide) ?_
  have hJ16 : ∀ (v1 : bM) (H : Heap) (locs : List Loc) (ls : Array Slot), fX9_isEnd_J16 v1 = some (r0, w0) → bB D E LMo a v1 s H locs → lv_has ls 1 [] → W p l e (rmOf 1 0 0) s m args below meth c H locs 0 0 (bQ below D E LMo a w0 (some (.int r0)) args s 0 0) (F0 m 16 ls []) := by
    intro v1 H locs ls hf hB hl
    have hf := (fX9_isEnd_J16.eq_1  v1).symm.trans hf
    refine lv_iconst (v := 1) hx hb dX9_isEnd_16 (by decide) ?_
    refine lv_goto (tgt := 21) hx hb dX9_isEnd_17 (by decide) ?_
    exact bk_zW X hr rfl rfl hf hB (Nat.le_of_ble_eq_true rfl) (Nat.le_of_ble_eq_true rfl) dX9_isEnd_21
  refine lv_icmp_eq (tgt := 16) hx hb dX9_isEnd_5 (by decide) (fun c2 => ?_) (fun c2 => ?_)
  · have hf := (if_pos c2).symm.trans hf
    exact hJ16 v H locs ls hf hB (lv_sub hl [] rfl)
  · have hf := (if_neg c2).symm.trans hf
    refine lv_aload_n hx hb dX9_isEnd_8 rfl (lv_at hl 0 rfl) ?_
    refine lv_iconst (v := 1) hx hb dX9_isEnd_9 (by decide) ?_
    obtain ⟨r5, w4, hc3, hf⟩ := bnd_some hf
    refine bk_all hB (fun h1 h2 h3 => bk_runV X (Av := [.int 1]) (rest := []) (mX9_wrong hc3) yv_X9_wrong wm_1677 ⟨Nat.le_of_ble_eq_true rfl, Nat.le_of_ble_eq_true rfl⟩ rfl rfl hl.1 kl_X9.1 (hB.1.obj lc_Mo_0) h1 h2 h3 (Nat.le_of_ble_eq_true rfl) ⟨Nat.le_of_ble_eq_true rfl, Nat.le_of_ble_eq_true rfl⟩ dX9_isEnd_10) (fun H locs hB => ?_)
    refine W.eq (g2 := F0 m 13 ls [.int r5]) rfl ?_
    refine lv_if_eq (tgt := 20) hx hb dX9_isEnd_13 (by decide) (fun c6 => ?_) (fun c6 => ?_)
    · have hf := (if_pos c6).symm.trans hf
      refine lv_iconst (v := 0) hx hb dX9_isEnd_20 (by decide) ?_
      exact bk_zW X hr rfl rfl hf hB (Nat.le_of_ble_eq_true rfl) (Nat.le_of_ble_eq_true rfl) dX9_isEnd_21
    · have hf := (if_neg c6).symm.trans hf
      exact hJ16 w4 H locs ls hf hB (lv_sub hl [] rfl)
theorem yv_X9_isEnd : bYv yX9_isEnd RX9 cX9_isEnd 1 (some .boolean) 0 := ⟨⟨rfl, by decide, by decide, rfl⟩, wm_1696, wp_36, wm_17, wm_1697⟩

theorem dX9_semicolon_0 : decode cX9_semicolon 0 = .ok (.aload_n 0, 1) := by decide +kernel
theorem dX9_semicolon_1 : decode cX9_semicolon 1 = .ok (.invokevirtual 173, 3) := by decide +kernel
theorem dX9_semicolon_4 : decode cX9_semicolon 4 = .ok (.ifCond .ne 5, 3) := by decide +kernel
theorem dX9_semicolon_7 : decode cX9_semicolon 7 = .ok (.iconst 0, 1) := by decide +kernel
theorem dX9_semicolon_8 : decode cX9_semicolon 8 = .ok (.ireturn, 1) := by decide +kernel
theorem dX9_semicolon_9 : decode cX9_semicolon 9 = .ok (.aload_n 0, 1) := by decide +kernel
theorem dX9_semicolon_10 : decode cX9_semicolon 10 = .ok (.invokevirtual 170, 3) := by decide +kernel
theorem dX9_semicolon_13 : decode cX9_semicolon 13 = .ok (.iconst 1, 1) := by decide +kernel
theorem dX9_semicolon_14 : decode cX9_semicolon 14 = .ok (.ireturn, 1) := by decide +kernel
def fX9_semicolon  (v : bM) : Option (Int32 × bM) :=
  bnd (fX9_isEnd v) fun r3 w2 => (if r3 = 0 then (some (0, w2)) else (bnw (fX9_next w2) fun w6 => some (1, w6)))
set_option maxRecDepth 100000 in
set_option maxHeartbeats 4000000 in
theorem mX9_semicolon {l : Launch}  {v : bM} {r0 : Int32} {w0 : bM} (hf : fX9_semicolon  v = some (r0, w0)) : bMet l yX9_semicolon cX9_semicolon 1 (some .boolean) 3 0 0 LMo (fun E a => [.ref a]) v w0 (fun _ => some (.int r0)) := by
  refine bk_start (by decide +kernel) wfMo (fun _ _ => Nat.le_of_ble_eq_true rfl) ?_
  intro p e s m args below meth c D E a ls H locs X hr hl hB
  have hx := X.1
  have hb := X.2.1
  have hown := X.2.2.2.1
  have hts := X.2.2.2.2.1
  have hl : lv_has ls 1 [(0, .ref a)] := hl
  have hf := (fX9_semicolon.eq_1  v).symm.trans hf
  refine lv_aload_n hx hb dX9_semicolon_0 rfl (lv_at hl 0 rfl) ?_
  obtain ⟨r3, w2, hc1, hf⟩ := bnd_some hf
  refine bk_all hB (fun h1 h2 h3 => bk_runV X (Av := []) (rest := []) (mX9_isEnd hc1) yv_X9_isEnd wm_1694 ⟨Nat.le_of_ble_eq_true rfl, Nat.le_of_ble_eq_true rfl⟩ rfl rfl hl.1 kl_X9.1 (hB.1.obj lc_Mo_0) h1 h2 h3 (Nat.le_of_ble_eq_true rfl) ⟨Nat.le_of_ble_eq_true rfl, Nat.le_of_ble_eq_true rfl⟩ dX9_semicolon_1) (fun H locs hB => ?_)
  refine W.eq (g2 := F0 m 4 ls [.int r3]) rfl ?_
  refine lv_if_ne (tgt := 9) hx hb dX9_semicolon_4 (by decide) (fun c4 => ?_) (fun c4 => ?_)
  · have hf := (if_neg c4).symm.trans hf
    refine lv_aload_n hx hb dX9_semicolon_9 rfl (lv_at hl 0 rfl) ?_
    obtain ⟨w6, hc5, hf⟩ := bnw_some hf
    refine bk_all hB (fun h1 h2 h3 => bk_runV X (Av := []) (rest := []) (mX9_next hc5) yv_X9_next wm_1646 ⟨Nat.le_of_ble_eq_true rfl, Nat.le_of_ble_eq_true rfl⟩ rfl rfl hl.1 kl_X9.1 (hB.1.obj lc_Mo_0) h1 h2 h3 (Nat.le_of_ble_eq_true rfl) ⟨Nat.le_of_ble_eq_true rfl, Nat.le_of_ble_eq_true rfl⟩ dX9_semicolon_10) (fun H locs hB => ?_)
    refine W.eq (g2 := F0 m 13 ls []) rfl ?_
    refine lv_iconst (v := 1) hx hb dX9_semicolon_13 (by decide) ?_
    exact bk_zW X hr rfl rfl hf hB (Nat.le_of_ble_eq_true rfl) (Nat.le_of_ble_eq_true rfl) dX9_semicolon_14
  · have hf := (if_pos c4).symm.trans hf
    refine lv_iconst (v := 0) hx hb dX9_semicolon_7 (by decide) ?_
    exact bk_zW X hr rfl rfl hf hB (Nat.le_of_ble_eq_true rfl) (Nat.le_of_ble_eq_true rfl) dX9_semicolon_8
theorem yv_X9_semicolon : bYv yX9_semicolon RX9 cX9_semicolon 1 (some .boolean) 0 := ⟨⟨rfl, by decide, by decide, rfl⟩, wm_1692, wp_35, wm_17, wm_1693⟩

theorem dX9_startText_0 : decode cX9_startText 0 = .ok (.aload_n 0, 1) := by decide +kernel
theorem dX9_startText_1 : decode cX9_startText 1 = .ok (.iconst 0, 1) := by decide +kernel
theorem dX9_startText_2 : decode cX9_startText 2 = .ok (.putfield 160, 3) := by decide +kernel
theorem dX9_startText_5 : decode cX9_startText 5 = .ok (.aload_n 0, 1) := by decide +kernel
theorem dX9_startText_6 : decode cX9_startText 6 = .ok (.iconst (-1), 1) := by decide +kernel
theorem dX9_startText_7 : decode cX9_startText 7 = .ok (.putfield 13, 3) := by decide +kernel
theorem dX9_startText_10 : decode cX9_startText 10 = .ok (.aload_n 0, 1) := by decide +kernel
theorem dX9_startText_11 : decode cX9_startText 11 = .ok (.iconst 0, 1) := by decide +kernel
theorem dX9_startText_12 : decode cX9_startText 12 = .ok (.putfield 139, 3) := by decide +kernel
theorem dX9_startText_15 : decode cX9_startText 15 = .ok (.aload_n 0, 1) := by decide +kernel
theorem dX9_startText_16 : decode cX9_startText 16 = .ok (.invokevirtual 170, 3) := by decide +kernel
theorem dX9_startText_19 : decode cX9_startText 19 = .ok (.return_, 1) := by decide +kernel
def fX9_startText  (v : bM) : Option bM :=
  nm (upd v 1 0) fun v1 => nm (upd v1 2 (-1)) fun v2 => nm (upd v2 5 0) fun v3 => bnw (fX9_next v3) fun w5 => some w5
set_option maxRecDepth 100000 in
set_option maxHeartbeats 4000000 in
theorem mX9_startText {l : Launch}  {v : bM} {w0 : bM} (hf : fX9_startText  v = some w0) : bMet l yX9_startText cX9_startText 1 none 3 0 0 LMo (fun E a => [.ref a]) v w0 (fun _ => none) := by
  refine bk_start (by decide +kernel) wfMo (fun _ _ => Nat.le_of_ble_eq_true rfl) ?_
  intro p e s m args below meth c D E a ls H locs X hr hl hB
  have hx := X.1
  have hb := X.2.1
  have hown := X.2.2.2.1
  have hts := X.2.2.2.2.1
  have hl : lv_has ls 1 [(0, .ref a)] := hl
  have hf := (fX9_startText.eq_1  v).symm.trans hf
  refine lv_aload_n hx hb dX9_startText_0 rfl (lv_at hl 0 rfl) ?_
  refine lv_iconst (v := 0) hx hb dX9_startText_1 (by decide) ?_
  refine bk_putI X hB kl_X9 0 lc_Mo_0 2 (by decide) rfl rfl rfl wm_1865 dX9_startText_2 rfl (fun H locs hB => ?_)
  obtain ⟨v1, ev1⟩ : ∃ y : bM, y = upd v 1 0 := ⟨_, rfl⟩
  have hf := nm_use hf ev1
  rw [← ev1] at hB
  refine lv_aload_n hx hb dX9_startText_5 rfl (lv_at hl 0 rfl) ?_
  refine lv_iconst (v := (-1)) hx hb dX9_startText_6 (by decide) ?_
  refine bk_putI X hB kl_X9 0 lc_Mo_0 3 (by decide) rfl rfl rfl wm_1866 dX9_startText_7 rfl (fun H locs hB => ?_)
  obtain ⟨v2, ev2⟩ : ∃ y : bM, y = upd v1 2 (-1) := ⟨_, rfl⟩
  have hf := nm_use hf ev2
  rw [← ev2] at hB
  refine lv_aload_n hx hb dX9_startText_10 rfl (lv_at hl 0 rfl) ?_
  refine lv_iconst (v := 0) hx hb dX9_startText_11 (by decide) ?_
  refine bk_putI X hB kl_X9 0 lc_Mo_0 14 (by decide) rfl rfl rfl wm_1877 dX9_startText_12 rfl (fun H locs hB => ?_)
  obtain ⟨v3, ev3⟩ : ∃ y : bM, y = upd v2 5 0 := ⟨_, rfl⟩
  have hf := nm_use hf ev3
  rw [← ev3] at hB
  refine lv_aload_n hx hb dX9_startText_15 rfl (lv_at hl 0 rfl) ?_
  obtain ⟨w5, hc4, hf⟩ := bnw_some hf
  refine bk_all hB (fun h1 h2 h3 => bk_runV X (Av := []) (rest := []) (mX9_next hc4) yv_X9_next wm_1646 ⟨Nat.le_of_ble_eq_true rfl, Nat.le_of_ble_eq_true rfl⟩ rfl rfl hl.1 kl_X9.1 (hB.1.obj lc_Mo_0) h1 h2 h3 (Nat.le_of_ble_eq_true rfl) ⟨Nat.le_of_ble_eq_true rfl, Nat.le_of_ble_eq_true rfl⟩ dX9_startText_16) (fun H locs hB => ?_)
  refine W.eq (g2 := F0 m 19 ls []) rfl ?_
  exact bk_vW X hr rfl hf hB (Nat.le_of_ble_eq_true rfl) (Nat.le_of_ble_eq_true rfl) dX9_startText_19
theorem yv_X9_startText : bYv yX9_startText RX9 cX9_startText 1 none 0 := ⟨⟨rfl, by decide, by decide, rfl⟩, wm_1644, wp_27, wm_17, wm_1645⟩

theorem dX9_into_0 : decode cX9_into 0 = .ok (.aload_n 0, 1) := by decide +kernel
theorem dX9_into_1 : decode cX9_into 1 = .ok (.iload_n 2, 1) := by decide +kernel
theorem dX9_into_2 : decode cX9_into 2 = .ok (.iload_n 3, 1) := by decide +kernel
theorem dX9_into_3 : decode cX9_into 3 = .ok (.invokevirtual 177, 3) := by decide +kernel
theorem dX9_into_6 : decode cX9_into 6 = .ok (.ifCond .ne 5, 3) := by decide +kernel
theorem dX9_into_9 : decode cX9_into 9 = .ok (.iconst 0, 1) := by decide +kernel
theorem dX9_into_10 : decode cX9_into 10 = .ok (.ireturn, 1) := by decide +kernel
theorem dX9_into_11 : decode cX9_into 11 = .ok (.aload_n 0, 1) := by decide +kernel
theorem dX9_into_12 : decode cX9_into 12 = .ok (.getfield 36, 3) := by decide +kernel
theorem dX9_into_15 : decode cX9_into 15 = .ok (.iload_n 1, 1) := by decide +kernel
theorem dX9_into_16 : decode cX9_into 16 = .ok (.aload_n 0, 1) := by decide +kernel
theorem dX9_into_17 : decode cX9_into 17 = .ok (.getfield 155, 3) := by decide +kernel
theorem dX9_into_20 : decode cX9_into 20 = .ok (.iastore, 1) := by decide +kernel
theorem dX9_into_21 : decode cX9_into 21 = .ok (.aload_n 0, 1) := by decide +kernel
theorem dX9_into_22 : decode cX9_into 22 = .ok (.invokevirtual 170, 3) := by decide +kernel
theorem dX9_into_25 : decode cX9_into 25 = .ok (.iconst 1, 1) := by decide +kernel
theorem dX9_into_26 : decode cX9_into 26 = .ok (.ireturn, 1) := by decide +kernel
def fX9_into (p1 : Int32) (p2 : Int32) (p3 : Int32) (v : bM) : Option (Int32 × bM) :=
  bnd (fX9_numberIn p2 p3 v) fun r3 w2 => (if r3 = 0 then (some (0, w2)) else (nm (w2 8) fun x5 => ck p1 5 <| nm (upd w2 (7160 + p1.toNatClampNeg) x5) fun v7 => bnw (fX9_next v7) fun w9 => some (1, w9)))
set_option maxRecDepth 100000 in
set_option maxHeartbeats 4000000 in
theorem mX9_into {l : Launch} {p1 : Int32} {p2 : Int32} {p3 : Int32} {v : bM} {r0 : Int32} {w0 : bM} (hf : fX9_into p1 p2 p3 v = some (r0, w0)) : bMet l yX9_into cX9_into 4 (some .boolean) 3 0 0 LMo (fun E a => [.ref a, .int p1, .int p2, .int p3]) v w0 (fun _ => some (.int r0)) := by
  refine bk_start (by decide +kernel) wfMo (fun _ _ => Nat.le_of_ble_eq_true rfl) ?_
  intro p e s m args below meth c D E a ls H locs X hr hl hB
  have hx := X.1
  have hb := X.2.1
  have hown := X.2.2.2.1
  have hts := X.2.2.2.2.1
  have hl : lv_has ls 4 [(0, .ref a), (1, .int p1), (2, .int p2), (3, .int p3)] := hl
  have hf := (fX9_into.eq_1 p1 p2 p3 v).symm.trans hf
  refine lv_aload_n hx hb dX9_into_0 rfl (lv_at hl 0 rfl) ?_
  refine lv_iload_n hx hb dX9_into_1 rfl (lv_at hl 2 rfl) ?_
  refine lv_iload_n hx hb dX9_into_2 rfl (lv_at hl 3 rfl) ?_
  obtain ⟨r3, w2, hc1, hf⟩ := bnd_some hf
  refine bk_all hB (fun h1 h2 h3 => bk_runV X (Av := [.int p2, .int p3]) (rest := []) (mX9_numberIn hc1) yv_X9_numberIn wm_1686 ⟨Nat.le_of_ble_eq_true rfl, Nat.le_of_ble_eq_true rfl⟩ rfl rfl hl.1 kl_X9.1 (hB.1.obj lc_Mo_0) h1 h2 h3 (Nat.le_of_ble_eq_true rfl) ⟨Nat.le_of_ble_eq_true rfl, Nat.le_of_ble_eq_true rfl⟩ dX9_into_3) (fun H locs hB => ?_)
  refine W.eq (g2 := F0 m 6 ls [.int r3]) rfl ?_
  refine lv_if_ne (tgt := 11) hx hb dX9_into_6 (by decide) (fun c4 => ?_) (fun c4 => ?_)
  · have hf := (if_neg c4).symm.trans hf
    refine lv_aload_n hx hb dX9_into_11 rfl (lv_at hl 0 rfl) ?_
    refine bk_getR X hB kl_X9 0 lc_Mo_0 12 (by decide) rfl wm_1875 dX9_into_12 ?_
    refine lv_iload_n hx hb dX9_into_15 rfl (lv_at hl 1 rfl) ?_
    refine lv_aload_n hx hb dX9_into_16 rfl (lv_at hl 0 rfl) ?_
    refine bk_getI X hB kl_X9 0 lc_Mo_0 17 (by decide) rfl wm_1880 dX9_into_17 ?_
    refine lv_topi (fun x5 ex5 => ?_)
    have hf := nm_use hf ex5
    obtain ⟨h6, hf⟩ := ck_some hf
    refine bk_ast X hB 8 lc_Mo_8 h6 dX9_into_20 (fun H locs hB => ?_)
    obtain ⟨v7, ev7⟩ : ∃ y : bM, y = upd w2 (7160 + p1.toNatClampNeg) x5 := ⟨_, rfl⟩
    have hf := nm_use hf ev7
    rw [← ev7] at hB
    refine lv_aload_n hx hb dX9_into_21 rfl (lv_at hl 0 rfl) ?_
    obtain ⟨w9, hc8, hf⟩ := bnw_some hf
    refine bk_all hB (fun h1 h2 h3 => bk_runV X (Av := []) (rest := []) (mX9_next hc8) yv_X9_next wm_1646 ⟨Nat.le_of_ble_eq_true rfl, Nat.le_of_ble_eq_true rfl⟩ rfl rfl hl.1 kl_X9.1 (hB.1.obj lc_Mo_0) h1 h2 h3 (Nat.le_of_ble_eq_true rfl) ⟨Nat.le_of_ble_eq_true rfl, Nat.le_of_ble_eq_true rfl⟩ dX9_into_22) (fun H locs hB => ?_)
    refine W.eq (g2 := F0 m 25 ls []) rfl ?_
    refine lv_iconst (v := 1) hx hb dX9_into_25 (by decide) ?_
    exact bk_zW X hr rfl rfl hf hB (Nat.le_of_ble_eq_true rfl) (Nat.le_of_ble_eq_true rfl) dX9_into_26
  · have hf := (if_pos c4).symm.trans hf
    refine lv_iconst (v := 0) hx hb dX9_into_9 (by decide) ?_
    exact bk_zW X hr rfl rfl hf hB (Nat.le_of_ble_eq_true rfl) (Nat.le_of_ble_eq_true rfl) dX9_into_10
theorem yv_X9_into : bYv yX9_into RX9 cX9_into 4 (some .boolean) 3 := ⟨⟨rfl, by decide, by decide, rfl⟩, wm_1684, wp_33, wm_17, wm_1685⟩

theorem dX9_isRecipe_0 : decode cX9_isRecipe 0 = .ok (.iload_n 1, 1) := by decide +kernel
theorem dX9_isRecipe_1 : decode cX9_isRecipe 1 = .ok (.iconst 1, 1) := by decide +kernel
theorem dX9_isRecipe_2 : decode cX9_isRecipe 2 = .ok (.ldc 213, 2) := by decide +kernel
theorem dX9_isRecipe_4 : decode cX9_isRecipe 4 = .ok (.invokestatic 135, 3) := by decide +kernel
theorem dX9_isRecipe_7 : decode cX9_isRecipe 7 = .ok (.ifCond .ne 5, 3) := by decide +kernel
theorem dX9_isRecipe_10 : decode cX9_isRecipe 10 = .ok (.iconst 0, 1) := by decide +kernel
theorem dX9_isRecipe_11 : decode cX9_isRecipe 11 = .ok (.ireturn, 1) := by decide +kernel
theorem dX9_isRecipe_12 : decode cX9_isRecipe 12 = .ok (.iconst 1, 1) := by decide +kernel
theorem dX9_isRecipe_13 : decode cX9_isRecipe 13 = .ok (.istore_n 2, 1) := by decide +kernel
theorem dX9_isRecipe_14 : decode cX9_isRecipe 14 = .ok (.aload_n 0, 1) := by decide +kernel
theorem dX9_isRecipe_15 : decode cX9_isRecipe 15 = .ok (.getfield 17, 3) := by decide +kernel
theorem dX9_isRecipe_18 : decode cX9_isRecipe 18 = .ok (.iconst 5, 1) := by decide +kernel
theorem dX9_isRecipe_19 : decode cX9_isRecipe 19 = .ok (.iaload, 1) := by decide +kernel
theorem dX9_isRecipe_20 : decode cX9_isRecipe 20 = .ok (.istore_n 3, 1) := by decide +kernel
theorem dX9_isRecipe_21 : decode cX9_isRecipe 21 = .ok (.iload_n 3, 1) := by decide +kernel
theorem dX9_isRecipe_22 : decode cX9_isRecipe 22 = .ok (.bipush 6, 2) := by decide +kernel
theorem dX9_isRecipe_24 : decode cX9_isRecipe 24 = .ok (.if_icmp .ge 27, 3) := by decide +kernel
theorem dX9_isRecipe_27 : decode cX9_isRecipe 27 = .ok (.iload_n 2, 1) := by decide +kernel
theorem dX9_isRecipe_28 : decode cX9_isRecipe 28 = .ok (.ifCond .eq 15, 3) := by decide +kernel
theorem dX9_isRecipe_31 : decode cX9_isRecipe 31 = .ok (.iload_n 1, 1) := by decide +kernel
theorem dX9_isRecipe_32 : decode cX9_isRecipe 32 = .ok (.iload_n 3, 1) := by decide +kernel
theorem dX9_isRecipe_33 : decode cX9_isRecipe 33 = .ok (.invokestatic 74, 3) := by decide +kernel
theorem dX9_isRecipe_36 : decode cX9_isRecipe 36 = .ok (.ifCond .ne 7, 3) := by decide +kernel
theorem dX9_isRecipe_39 : decode cX9_isRecipe 39 = .ok (.iconst 1, 1) := by decide +kernel
theorem dX9_isRecipe_40 : decode cX9_isRecipe 40 = .ok (.goto 4, 3) := by decide +kernel
theorem dX9_isRecipe_43 : decode cX9_isRecipe 43 = .ok (.iconst 0, 1) := by decide +kernel
theorem dX9_isRecipe_44 : decode cX9_isRecipe 44 = .ok (.istore_n 2, 1) := by decide +kernel
theorem dX9_isRecipe_45 : decode cX9_isRecipe 45 = .ok (.iinc 3 1, 3) := by decide +kernel
theorem dX9_isRecipe_48 : decode cX9_isRecipe 48 = .ok (.goto (-27), 3) := by decide +kernel
theorem dX9_isRecipe_51 : decode cX9_isRecipe 51 = .ok (.iload_n 2, 1) := by decide +kernel
theorem dX9_isRecipe_52 : decode cX9_isRecipe 52 = .ok (.ireturn, 1) := by decide +kernel
def fX9_isRecipe_J44 (y6 : Int32) (k21 : Int32 → Int32 → Option Int32) (y9 : Int32) : Option Int32 :=
  nm (y6 + 1) fun x10 => k21 y9 x10
def fX9_isRecipe_J43 (y6 : Int32) (k21 : Int32 → Int32 → Option Int32)  : Option Int32 :=
  fX9_isRecipe_J44 y6 k21 0
def fX9_isRecipe_L21 (p1 : Int32) (k21 : Int32 → Int32 → Option Int32) (y5 : Int32) (y6 : Int32) : Option Int32 :=
  (if 6 ≤ y6 then (ck y5 2 <| some (y5)) else ((if y5 = 0 then (fX9_isRecipe_J43 y6 k21 ) else (bnr (fX9_digit p1 y6) fun r13 => (if r13 = 0 then (fX9_isRecipe_J44 y6 k21 1) else (fX9_isRecipe_J43 y6 k21 ))))))
def fX9_isRecipe (p1 : Int32) (v : bM) : Option Int32 :=
  bnr (fX9_inRange p1 1 999999) fun r2 => (if r2 = 0 then (some (0)) else (nm (v (710 + (5 : Int32).toNatClampNeg)) fun x4 => lp (fX9_isRecipe_L21 p1) (fun _ _ => none) lpN 1 x4))
set_option maxRecDepth 100000 in
set_option maxHeartbeats 4000000 in
theorem mX9_isRecipe {l : Launch} {p1 : Int32} {v : bM} {r0 : Int32} (hf : fX9_isRecipe p1 v = some r0) : bMet l yX9_isRecipe cX9_isRecipe 4 (some .boolean) 1 0 0 LMo (fun E a => [.ref a, .int p1]) v v (fun _ => some (.int r0)) := by
  refine bk_start (by decide +kernel) wfMo (fun _ _ => Nat.le_of_ble_eq_true rfl) ?_
  intro p e s m args below meth c D E a ls H locs X hr hl hB
  have hx := X.1
  have hb := X.2.1
  have hown := X.2.2.2.1
  have hts := X.2.2.2.2.1
  have hl : lv_has ls 4 [(0, .ref a), (1, .int p1)] := hl
  have hf := (fX9_isRecipe.eq_1 p1 v).symm.trans hf
  refine lv_iload_n hx hb dX9_isRecipe_0 rfl (lv_at hl 1 rfl) ?_
  refine lv_iconst (v := 1) hx hb dX9_isRecipe_1 (by decide) ?_
  refine lv_ldc hx hb hown (hts _ wm_1729) dX9_isRecipe_2 ?_
  obtain ⟨r2, hc1, hf⟩ := bnr_some hf
  refine bk_non (v0 := v) (w0 := v) hB (fun h1 h2 h3 => bk_runS X (Av := [.int p1, .int 1, .int 999999]) (rest := []) (mX9_inRange hc1) ys_X9_inRange wm_1653 ⟨Nat.le_of_ble_eq_true rfl, Nat.le_of_ble_eq_true rfl⟩ rfl rfl hl.1 h1 h2 h3 (Nat.le_of_ble_eq_true rfl) ⟨Nat.le_of_ble_eq_true rfl, Nat.le_of_ble_eq_true rfl⟩ dX9_isRecipe_4) (fun H locs hB => ?_)
  refine W.eq (g2 := F0 m 7 ls [.int r2]) rfl ?_
  refine lv_if_ne (tgt := 12) hx hb dX9_isRecipe_7 (by decide) (fun c3 => ?_) (fun c3 => ?_)
  · have hf := (if_neg c3).symm.trans hf
    refine lv_iconst (v := 1) hx hb dX9_isRecipe_12 (by decide) ?_
    refine lv_istore_n (lv' := [(2, .int 1), (0, .ref a), (1, .int p1)]) hx hb dX9_isRecipe_13 rfl hl (by decide) rfl (fun ls hl => ?_)
    refine lv_aload_n hx hb dX9_isRecipe_14 rfl (lv_at hl 1 rfl) ?_
    refine bk_getR X hB kl_X9 0 lc_Mo_0 5 (by decide) rfl wm_1868 dX9_isRecipe_15 ?_
    refine lv_iconst (v := 5) hx hb dX9_isRecipe_18 (by decide) ?_
    refine bk_ald X hB 2 lc_Mo_2 (vp_c 5 496 rfl) dX9_isRecipe_19 ?_
    refine lv_topi (fun x4 ex4 => ?_)
    have hf := nm_use hf ex4
    refine lv_istore_n (lv' := [(3, .int x4), (2, .int 1), (0, .ref a), (1, .int p1)]) hx hb dX9_isRecipe_20 rfl hl (by decide) rfl (fun ls hl => ?_)
    have hL21 : ∀ (n21 : Nat) (y5 y6 : Int32) (H : Heap) (locs : List Loc) (ls : Array Slot), lp (fX9_isRecipe_L21 p1) (fun _ _ => none) n21 y5 y6 = some r0 → bB D E LMo a v s H locs → lv_has ls 4 [(1, .int p1), (2, .int y5), (3, .int y6)] → W p l e (rmOf 1 0 0) s m args below meth c H locs 0 0 (bQ below D E LMo a v (some (.int r0)) args s 0 0) (F0 m 21 ls []) := by
      intro n21
      induction n21 with
      | zero => intro y5 y6 H locs ls hf; cases (show (none : Option Int32) = some r0 from hf)
      | succ n21 ih21 =>
        intro y5 y6 H locs ls hf hB hl
        have hf := (fX9_isRecipe_L21.eq_1 p1 (lp (fX9_isRecipe_L21 p1) (fun _ _ => none) n21) y5 y6).symm.trans (show fX9_isRecipe_L21 p1 (lp (fX9_isRecipe_L21 p1) (fun _ _ => none) n21) y5 y6 = some r0 from hf)
        refine lv_iload_n hx hb dX9_isRecipe_21 rfl (lv_at hl 2 rfl) ?_
        refine lv_bipush (v := 6) hx hb dX9_isRecipe_22 (by decide) ?_
        refine lv_icmp_ge (tgt := 51) hx hb dX9_isRecipe_24 (by decide) (fun c7 => ?_) (fun c7 => ?_)
        · have hf := (if_pos c7).symm.trans hf
          refine lv_iload_n hx hb dX9_isRecipe_51 rfl (lv_at hl 1 rfl) ?_
          obtain ⟨h8, hf⟩ := ck_some hf
          exact bk_zR X hr rfl (nar_z h8) hf hB (Nat.le_of_ble_eq_true rfl) (Nat.le_of_ble_eq_true rfl) dX9_isRecipe_52
        · have hf := (if_neg c7).symm.trans hf
          refine lv_iload_n hx hb dX9_isRecipe_27 rfl (lv_at hl 1 rfl) ?_
          have hJ44 : ∀ (y9 : Int32) (H : Heap) (locs : List Loc) (ls : Array Slot), fX9_isRecipe_J44 y6 (lp (fX9_isRecipe_L21 p1) (fun _ _ => none) n21) y9 = some r0 → bB D E LMo a v s H locs → lv_has ls 4 [(1, .int p1), (3, .int y6)] → W p l e (rmOf 1 0 0) s m args below meth c H locs 0 0 (bQ below D E LMo a v (some (.int r0)) args s 0 0) (F0 m 44 ls [.int y9]) := by
            intro y9 H locs ls hf hB hl
            have hf := (fX9_isRecipe_J44.eq_1 y6 (lp (fX9_isRecipe_L21 p1) (fun _ _ => none) n21) y9).symm.trans hf
            refine lv_istore_n (lv' := [(2, .int y9), (1, .int p1), (3, .int y6)]) hx hb dX9_isRecipe_44 rfl hl (by decide) rfl (fun ls hl => ?_)
            obtain ⟨x10, ex10⟩ : ∃ y : Int32, y = y6 + 1 := ⟨_, rfl⟩
            have hf := nm_use hf ex10
            refine lv_iinc (v := x10) (lv' := [(3, .int x10), (2, .int y9), (1, .int p1)]) hx hb dX9_isRecipe_45 hl (k := 2) rfl (by rw [ex10]; rfl) (by decide) rfl (fun ls hl => ?_)
            refine lv_goto (tgt := 21) hx hb dX9_isRecipe_48 (by decide) ?_
            exact ih21 y9 x10 H locs ls hf hB (lv_sub hl [2, 1, 0] rfl)
          have hJ43 : ∀ (H : Heap) (locs : List Loc) (ls : Array Slot), fX9_isRecipe_J43 y6 (lp (fX9_isRecipe_L21 p1) (fun _ _ => none) n21)  = some r0 → bB D E LMo a v s H locs → lv_has ls 4 [(1, .int p1), (3, .int y6)] → W p l e (rmOf 1 0 0) s m args below meth c H locs 0 0 (bQ below D E LMo a v (some (.int r0)) args s 0 0) (F0 m 43 ls []) := by
            intro  H locs ls hf hB hl
            have hf := (fX9_isRecipe_J43.eq_1 y6 (lp (fX9_isRecipe_L21 p1) (fun _ _ => none) n21) ).symm.trans hf
            refine lv_iconst (v := 0) hx hb dX9_isRecipe_43 (by decide) ?_
            exact hJ44 0 H locs ls hf hB (lv_sub hl [0, 1] rfl)
          refine lv_if_eq (tgt := 43) hx hb dX9_isRecipe_28 (by decide) (fun c11 => ?_) (fun c11 => ?_)
          · have hf := (if_pos c11).symm.trans hf
            exact hJ43  H locs ls hf hB (lv_sub hl [0, 2] rfl)
          · have hf := (if_neg c11).symm.trans hf
            refine lv_iload_n hx hb dX9_isRecipe_31 rfl (lv_at hl 0 rfl) ?_
            refine lv_iload_n hx hb dX9_isRecipe_32 rfl (lv_at hl 2 rfl) ?_
            obtain ⟨r13, hc12, hf⟩ := bnr_some hf
            refine bk_non (v0 := v) (w0 := v) hB (fun h1 h2 h3 => bk_runS X (Av := [.int p1, .int y6]) (rest := []) (mX9_digit hc12) ys_X9_digit wm_1730 ⟨Nat.le_of_ble_eq_true rfl, Nat.le_of_ble_eq_true rfl⟩ rfl rfl hl.1 h1 h2 h3 (Nat.le_of_ble_eq_true rfl) ⟨Nat.le_of_ble_eq_true rfl, Nat.le_of_ble_eq_true rfl⟩ dX9_isRecipe_33) (fun H locs hB => ?_)
            refine W.eq (g2 := F0 m 36 ls [.int r13]) rfl ?_
            refine lv_if_ne (tgt := 43) hx hb dX9_isRecipe_36 (by decide) (fun c14 => ?_) (fun c14 => ?_)
            · have hf := (if_neg c14).symm.trans hf
              exact hJ43  H locs ls hf hB (lv_sub hl [0, 2] rfl)
            · have hf := (if_pos c14).symm.trans hf
              refine lv_iconst (v := 1) hx hb dX9_isRecipe_39 (by decide) ?_
              refine lv_goto (tgt := 44) hx hb dX9_isRecipe_40 (by decide) ?_
              exact hJ44 1 H locs ls hf hB (lv_sub hl [0, 2] rfl)
    exact hL21 lpN 1 x4 H locs ls hf hB (lv_sub hl [3, 1, 0] rfl)
  · have hf := (if_pos c3).symm.trans hf
    refine lv_iconst (v := 0) hx hb dX9_isRecipe_10 (by decide) ?_
    exact bk_zR X hr rfl rfl hf hB (Nat.le_of_ble_eq_true rfl) (Nat.le_of_ble_eq_true rfl) dX9_isRecipe_11
theorem yv_X9_isRecipe : bYv yX9_isRecipe RX9 cX9_isRecipe 4 (some .boolean) 1 := ⟨⟨rfl, by decide, by decide, rfl⟩, wm_1727, wp_42, wm_17, wm_1728⟩

theorem dX9_recipeInto_0 : decode cX9_recipeInto 0 = .ok (.aload_n 0, 1) := by decide +kernel
theorem dX9_recipeInto_1 : decode cX9_recipeInto 1 = .ok (.getfield 145, 3) := by decide +kernel
theorem dX9_recipeInto_4 : decode cX9_recipeInto 4 = .ok (.iconst 1, 1) := by decide +kernel
theorem dX9_recipeInto_5 : decode cX9_recipeInto 5 = .ok (.if_icmp .eq 9, 3) := by decide +kernel
theorem dX9_recipeInto_8 : decode cX9_recipeInto 8 = .ok (.aload_n 0, 1) := by decide +kernel
theorem dX9_recipeInto_9 : decode cX9_recipeInto 9 = .ok (.iconst 1, 1) := by decide +kernel
theorem dX9_recipeInto_10 : decode cX9_recipeInto 10 = .ok (.invokevirtual 167, 3) := by decide +kernel
theorem dX9_recipeInto_13 : decode cX9_recipeInto 13 = .ok (.ireturn, 1) := by decide +kernel
theorem dX9_recipeInto_14 : decode cX9_recipeInto 14 = .ok (.aload_n 0, 1) := by decide +kernel
theorem dX9_recipeInto_15 : decode cX9_recipeInto 15 = .ok (.aload_n 0, 1) := by decide +kernel
theorem dX9_recipeInto_16 : decode cX9_recipeInto 16 = .ok (.getfield 155, 3) := by decide +kernel
theorem dX9_recipeInto_19 : decode cX9_recipeInto 19 = .ok (.invokevirtual 214, 3) := by decide +kernel
theorem dX9_recipeInto_22 : decode cX9_recipeInto 22 = .ok (.ifCond .ne 9, 3) := by decide +kernel
theorem dX9_recipeInto_25 : decode cX9_recipeInto 25 = .ok (.aload_n 0, 1) := by decide +kernel
theorem dX9_recipeInto_26 : decode cX9_recipeInto 26 = .ok (.iconst 2, 1) := by decide +kernel
theorem dX9_recipeInto_27 : decode cX9_recipeInto 27 = .ok (.invokevirtual 167, 3) := by decide +kernel
theorem dX9_recipeInto_30 : decode cX9_recipeInto 30 = .ok (.ireturn, 1) := by decide +kernel
theorem dX9_recipeInto_31 : decode cX9_recipeInto 31 = .ok (.aload_n 0, 1) := by decide +kernel
theorem dX9_recipeInto_32 : decode cX9_recipeInto 32 = .ok (.getfield 36, 3) := by decide +kernel
theorem dX9_recipeInto_35 : decode cX9_recipeInto 35 = .ok (.iload_n 1, 1) := by decide +kernel
theorem dX9_recipeInto_36 : decode cX9_recipeInto 36 = .ok (.aload_n 0, 1) := by decide +kernel
theorem dX9_recipeInto_37 : decode cX9_recipeInto 37 = .ok (.getfield 155, 3) := by decide +kernel
theorem dX9_recipeInto_40 : decode cX9_recipeInto 40 = .ok (.iastore, 1) := by decide +kernel
theorem dX9_recipeInto_41 : decode cX9_recipeInto 41 = .ok (.aload_n 0, 1) := by decide +kernel
theorem dX9_recipeInto_42 : decode cX9_recipeInto 42 = .ok (.invokevirtual 170, 3) := by decide +kernel
theorem dX9_recipeInto_45 : decode cX9_recipeInto 45 = .ok (.iconst 1, 1) := by decide +kernel
theorem dX9_recipeInto_46 : decode cX9_recipeInto 46 = .ok (.ireturn, 1) := by decide +kernel
def fX9_recipeInto (p1 : Int32) (v : bM) : Option (Int32 × bM) :=
  (if (v 6) = 1 then (bnr (fX9_isRecipe (v 8) v) fun r3 => (if r3 = 0 then (bnd (fX9_wrong 2 v) fun r7 w6 => ck r7 2 <| some (r7, w6)) else (nm (v 8) fun x9 => ck p1 5 <| nm (upd v (7160 + p1.toNatClampNeg) x9) fun v11 => bnw (fX9_next v11) fun w13 => some (1, w13)))) else (bnd (fX9_wrong 1 v) fun r16 w15 => ck r16 2 <| some (r16, w15)))
set_option maxRecDepth 100000 in
set_option maxHeartbeats 4000000 in
theorem mX9_recipeInto {l : Launch} {p1 : Int32} {v : bM} {r0 : Int32} {w0 : bM} (hf : fX9_recipeInto p1 v = some (r0, w0)) : bMet l yX9_recipeInto cX9_recipeInto 2 (some .boolean) 3 0 0 LMo (fun E a => [.ref a, .int p1]) v w0 (fun _ => some (.int r0)) := by
  refine bk_start (by decide +kernel) wfMo (fun _ _ => Nat.le_of_ble_eq_true rfl) ?_
  intro p e s m args below meth c D E a ls H locs X hr hl hB
  have hx := X.1
  have hb := X.2.1
  have hown := X.2.2.2.1
  have hts := X.2.2.2.2.1
  have hl : lv_has ls 2 [(0, .ref a), (1, .int p1)] := hl
  have hf := (fX9_recipeInto.eq_1 p1 v).symm.trans hf
  refine lv_aload_n hx hb dX9_recipeInto_0 rfl (lv_at hl 0 rfl) ?_
  refine bk_getI X hB kl_X9 0 lc_Mo_0 15 (by decide) rfl wm_1878 dX9_recipeInto_1 ?_
  refine lv_iconst (v := 1) hx hb dX9_recipeInto_4 (by decide) ?_
  refine lv_icmp_eq (tgt := 14) hx hb dX9_recipeInto_5 (by decide) (fun c1 => ?_) (fun c1 => ?_)
  · have hf := (if_pos c1).symm.trans hf
    refine lv_aload_n hx hb dX9_recipeInto_14 rfl (lv_at hl 0 rfl) ?_
    refine lv_aload_n hx hb dX9_recipeInto_15 rfl (lv_at hl 0 rfl) ?_
    refine bk_getI X hB kl_X9 0 lc_Mo_0 17 (by decide) rfl wm_1880 dX9_recipeInto_16 ?_
    obtain ⟨r3, hc2, hf⟩ := bnr_some hf
    refine bk_all hB (fun h1 h2 h3 => bk_runV X (Av := [.int (v 8)]) (rest := []) (mX9_isRecipe hc2) yv_X9_isRecipe wm_1725 ⟨Nat.le_of_ble_eq_true rfl, Nat.le_of_ble_eq_true rfl⟩ rfl rfl hl.1 kl_X9.1 (hB.1.obj lc_Mo_0) h1 h2 h3 (Nat.le_of_ble_eq_true rfl) ⟨Nat.le_of_ble_eq_true rfl, Nat.le_of_ble_eq_true rfl⟩ dX9_recipeInto_19) (fun H locs hB => ?_)
    refine W.eq (g2 := F0 m 22 ls [.int r3]) rfl ?_
    refine lv_if_ne (tgt := 31) hx hb dX9_recipeInto_22 (by decide) (fun c4 => ?_) (fun c4 => ?_)
    · have hf := (if_neg c4).symm.trans hf
      refine lv_aload_n hx hb dX9_recipeInto_31 rfl (lv_at hl 0 rfl) ?_
      refine bk_getR X hB kl_X9 0 lc_Mo_0 12 (by decide) rfl wm_1875 dX9_recipeInto_32 ?_
      refine lv_iload_n hx hb dX9_recipeInto_35 rfl (lv_at hl 1 rfl) ?_
      refine lv_aload_n hx hb dX9_recipeInto_36 rfl (lv_at hl 0 rfl) ?_
      refine bk_getI X hB kl_X9 0 lc_Mo_0 17 (by decide) rfl wm_1880 dX9_recipeInto_37 ?_
      refine lv_topi (fun x9 ex9 => ?_)
      have hf := nm_use hf ex9
      obtain ⟨h10, hf⟩ := ck_some hf
      refine bk_ast X hB 8 lc_Mo_8 h10 dX9_recipeInto_40 (fun H locs hB => ?_)
      obtain ⟨v11, ev11⟩ : ∃ y : bM, y = upd v (7160 + p1.toNatClampNeg) x9 := ⟨_, rfl⟩
      have hf := nm_use hf ev11
      rw [← ev11] at hB
      refine lv_aload_n hx hb dX9_recipeInto_41 rfl (lv_at hl 0 rfl) ?_
      obtain ⟨w13, hc12, hf⟩ := bnw_some hf
      refine bk_all hB (fun h1 h2 h3 => bk_runV X (Av := []) (rest := []) (mX9_next hc12) yv_X9_next wm_1646 ⟨Nat.le_of_ble_eq_true rfl, Nat.le_of_ble_eq_true rfl⟩ rfl rfl hl.1 kl_X9.1 (hB.1.obj lc_Mo_0) h1 h2 h3 (Nat.le_of_ble_eq_true rfl) ⟨Nat.le_of_ble_eq_true rfl, Nat.le_of_ble_eq_true rfl⟩ dX9_recipeInto_42) (fun H locs hB => ?_)
      refine W.eq (g2 := F0 m 45 ls []) rfl ?_
      refine lv_iconst (v := 1) hx hb dX9_recipeInto_45 (by decide) ?_
      exact bk_zW X hr rfl rfl hf hB (Nat.le_of_ble_eq_true rfl) (Nat.le_of_ble_eq_true rfl) dX9_recipeInto_46
    · have hf := (if_pos c4).symm.trans hf
      refine lv_aload_n hx hb dX9_recipeInto_25 rfl (lv_at hl 0 rfl) ?_
      refine lv_iconst (v := 2) hx hb dX9_recipeInto_26 (by decide) ?_
      obtain ⟨r7, w6, hc5, hf⟩ := bnd_some hf
      refine bk_all hB (fun h1 h2 h3 => bk_runV X (Av := [.int 2]) (rest := []) (mX9_wrong hc5) yv_X9_wrong wm_1677 ⟨Nat.le_of_ble_eq_true rfl, Nat.le_of_ble_eq_true rfl⟩ rfl rfl hl.1 kl_X9.1 (hB.1.obj lc_Mo_0) h1 h2 h3 (Nat.le_of_ble_eq_true rfl) ⟨Nat.le_of_ble_eq_true rfl, Nat.le_of_ble_eq_true rfl⟩ dX9_recipeInto_27) (fun H locs hB => ?_)
      refine W.eq (g2 := F0 m 30 ls [.int r7]) rfl ?_
      obtain ⟨h8, hf⟩ := ck_some hf
      exact bk_zW X hr rfl (nar_z h8) hf hB (Nat.le_of_ble_eq_true rfl) (Nat.le_of_ble_eq_true rfl) dX9_recipeInto_30
  · have hf := (if_neg c1).symm.trans hf
    refine lv_aload_n hx hb dX9_recipeInto_8 rfl (lv_at hl 0 rfl) ?_
    refine lv_iconst (v := 1) hx hb dX9_recipeInto_9 (by decide) ?_
    obtain ⟨r16, w15, hc14, hf⟩ := bnd_some hf
    refine bk_all hB (fun h1 h2 h3 => bk_runV X (Av := [.int 1]) (rest := []) (mX9_wrong hc14) yv_X9_wrong wm_1677 ⟨Nat.le_of_ble_eq_true rfl, Nat.le_of_ble_eq_true rfl⟩ rfl rfl hl.1 kl_X9.1 (hB.1.obj lc_Mo_0) h1 h2 h3 (Nat.le_of_ble_eq_true rfl) ⟨Nat.le_of_ble_eq_true rfl, Nat.le_of_ble_eq_true rfl⟩ dX9_recipeInto_10) (fun H locs hB => ?_)
    refine W.eq (g2 := F0 m 13 ls [.int r16]) rfl ?_
    obtain ⟨h17, hf⟩ := ck_some hf
    exact bk_zW X hr rfl (nar_z h17) hf hB (Nat.le_of_ble_eq_true rfl) (Nat.le_of_ble_eq_true rfl) dX9_recipeInto_13
theorem yv_X9_recipeInto : bYv yX9_recipeInto RX9 cX9_recipeInto 2 (some .boolean) 1 := ⟨⟨rfl, by decide, by decide, rfl⟩, wm_1723, wp_41, wm_17, wm_1724⟩

theorem dX9_breadInto_0 : decode cX9_breadInto 0 = .ok (.aload_n 0, 1) := by decide +kernel
theorem dX9_breadInto_1 : decode cX9_breadInto 1 = .ok (.iconst 0, 1) := by decide +kernel
theorem dX9_breadInto_2 : decode cX9_breadInto 2 = .ok (.iconst 0, 1) := by decide +kernel
theorem dX9_breadInto_3 : decode cX9_breadInto 3 = .ok (.aload_n 0, 1) := by decide +kernel
theorem dX9_breadInto_4 : decode cX9_breadInto 4 = .ok (.getfield 17, 3) := by decide +kernel
theorem dX9_breadInto_7 : decode cX9_breadInto 7 = .ok (.bipush 6, 2) := by decide +kernel
theorem dX9_breadInto_9 : decode cX9_breadInto 9 = .ok (.iaload, 1) := by decide +kernel
theorem dX9_breadInto_10 : decode cX9_breadInto 10 = .ok (.iconst 1, 1) := by decide +kernel
theorem dX9_breadInto_11 : decode cX9_breadInto 11 = .ok (.isub, 1) := by decide +kernel
theorem dX9_breadInto_12 : decode cX9_breadInto 12 = .ok (.invokevirtual 187, 3) := by decide +kernel
theorem dX9_breadInto_15 : decode cX9_breadInto 15 = .ok (.ireturn, 1) := by decide +kernel
def fX9_breadInto  (v : bM) : Option (Int32 × bM) :=
  bnd (fX9_into 0 0 ((v (710 + (6 : Int32).toNatClampNeg)) - 1) v) fun r3 w2 => ck r3 2 <| some (r3, w2)
set_option maxRecDepth 100000 in
set_option maxHeartbeats 4000000 in
theorem mX9_breadInto {l : Launch}  {v : bM} {r0 : Int32} {w0 : bM} (hf : fX9_breadInto  v = some (r0, w0)) : bMet l yX9_breadInto cX9_breadInto 1 (some .boolean) 4 0 0 LMo (fun E a => [.ref a]) v w0 (fun _ => some (.int r0)) := by
  refine bk_start (by decide +kernel) wfMo (fun _ _ => Nat.le_of_ble_eq_true rfl) ?_
  intro p e s m args below meth c D E a ls H locs X hr hl hB
  have hx := X.1
  have hb := X.2.1
  have hown := X.2.2.2.1
  have hts := X.2.2.2.2.1
  have hl : lv_has ls 1 [(0, .ref a)] := hl
  have hf := (fX9_breadInto.eq_1  v).symm.trans hf
  refine lv_aload_n hx hb dX9_breadInto_0 rfl (lv_at hl 0 rfl) ?_
  refine lv_iconst (v := 0) hx hb dX9_breadInto_1 (by decide) ?_
  refine lv_iconst (v := 0) hx hb dX9_breadInto_2 (by decide) ?_
  refine lv_aload_n hx hb dX9_breadInto_3 rfl (lv_at hl 0 rfl) ?_
  refine bk_getR X hB kl_X9 0 lc_Mo_0 5 (by decide) rfl wm_1868 dX9_breadInto_4 ?_
  refine lv_bipush (v := 6) hx hb dX9_breadInto_7 (by decide) ?_
  refine bk_ald X hB 2 lc_Mo_2 (vp_c 6 496 rfl) dX9_breadInto_9 ?_
  refine lv_iconst (v := 1) hx hb dX9_breadInto_10 (by decide) ?_
  refine lv_isub hx hb dX9_breadInto_11 ?_
  obtain ⟨r3, w2, hc1, hf⟩ := bnd_some hf
  refine bk_all hB (fun h1 h2 h3 => bk_runV X (Av := [.int 0, .int 0, .int ((v (710 + (6 : Int32).toNatClampNeg)) - 1)]) (rest := []) (mX9_into hc1) yv_X9_into wm_1682 ⟨Nat.le_of_ble_eq_true rfl, Nat.le_of_ble_eq_true rfl⟩ rfl rfl hl.1 kl_X9.1 (hB.1.obj lc_Mo_0) h1 h2 h3 (Nat.le_of_ble_eq_true rfl) ⟨Nat.le_of_ble_eq_true rfl, Nat.le_of_ble_eq_true rfl⟩ dX9_breadInto_12) (fun H locs hB => ?_)
  refine W.eq (g2 := F0 m 15 ls [.int r3]) rfl ?_
  obtain ⟨h4, hf⟩ := ck_some hf
  exact bk_zW X hr rfl (nar_z h4) hf hB (Nat.le_of_ble_eq_true rfl) (Nat.le_of_ble_eq_true rfl) dX9_breadInto_15
theorem yv_X9_breadInto : bYv yX9_breadInto RX9 cX9_breadInto 1 (some .boolean) 0 := ⟨⟨rfl, by decide, by decide, rfl⟩, wm_1739, wp_44, wm_17, wm_1740⟩

theorem dX9_isPossible_0 : decode cX9_isPossible 0 = .ok (.iload_n 1, 1) := by decide +kernel
theorem dX9_isPossible_1 : decode cX9_isPossible 1 = .ok (.tableswitch 117 2 5 #[31, 117, 54, 91], 31) := by decide +kernel
theorem dX9_isPossible_32 : decode cX9_isPossible 32 = .ok (.aload_n 0, 1) := by decide +kernel
theorem dX9_isPossible_33 : decode cX9_isPossible 33 = .ok (.aload_n 0, 1) := by decide +kernel
theorem dX9_isPossible_34 : decode cX9_isPossible 34 = .ok (.getfield 36, 3) := by decide +kernel
theorem dX9_isPossible_37 : decode cX9_isPossible 37 = .ok (.iconst 0, 1) := by decide +kernel
theorem dX9_isPossible_38 : decode cX9_isPossible 38 = .ok (.iaload, 1) := by decide +kernel
theorem dX9_isPossible_39 : decode cX9_isPossible 39 = .ok (.aload_n 0, 1) := by decide +kernel
theorem dX9_isPossible_40 : decode cX9_isPossible 40 = .ok (.getfield 36, 3) := by decide +kernel
theorem dX9_isPossible_43 : decode cX9_isPossible 43 = .ok (.iconst 1, 1) := by decide +kernel
theorem dX9_isPossible_44 : decode cX9_isPossible 44 = .ok (.iaload, 1) := by decide +kernel
theorem dX9_isPossible_45 : decode cX9_isPossible 45 = .ok (.aload_n 0, 1) := by decide +kernel
theorem dX9_isPossible_46 : decode cX9_isPossible 46 = .ok (.getfield 36, 3) := by decide +kernel
theorem dX9_isPossible_49 : decode cX9_isPossible 49 = .ok (.iconst 2, 1) := by decide +kernel
theorem dX9_isPossible_50 : decode cX9_isPossible 50 = .ok (.iaload, 1) := by decide +kernel
theorem dX9_isPossible_51 : decode cX9_isPossible 51 = .ok (.invokevirtual 239, 3) := by decide +kernel
theorem dX9_isPossible_54 : decode cX9_isPossible 54 = .ok (.ireturn, 1) := by decide +kernel
theorem dX9_isPossible_55 : decode cX9_isPossible 55 = .ok (.aload_n 0, 1) := by decide +kernel
theorem dX9_isPossible_56 : decode cX9_isPossible 56 = .ok (.aload_n 0, 1) := by decide +kernel
theorem dX9_isPossible_57 : decode cX9_isPossible 57 = .ok (.getfield 36, 3) := by decide +kernel
theorem dX9_isPossible_60 : decode cX9_isPossible 60 = .ok (.iconst 0, 1) := by decide +kernel
theorem dX9_isPossible_61 : decode cX9_isPossible 61 = .ok (.iaload, 1) := by decide +kernel
theorem dX9_isPossible_62 : decode cX9_isPossible 62 = .ok (.aload_n 0, 1) := by decide +kernel
theorem dX9_isPossible_63 : decode cX9_isPossible 63 = .ok (.getfield 36, 3) := by decide +kernel
theorem dX9_isPossible_66 : decode cX9_isPossible 66 = .ok (.iconst 1, 1) := by decide +kernel
theorem dX9_isPossible_67 : decode cX9_isPossible 67 = .ok (.iaload, 1) := by decide +kernel
theorem dX9_isPossible_68 : decode cX9_isPossible 68 = .ok (.aload_n 0, 1) := by decide +kernel
theorem dX9_isPossible_69 : decode cX9_isPossible 69 = .ok (.getfield 36, 3) := by decide +kernel
theorem dX9_isPossible_72 : decode cX9_isPossible 72 = .ok (.iconst 3, 1) := by decide +kernel
theorem dX9_isPossible_73 : decode cX9_isPossible 73 = .ok (.iaload, 1) := by decide +kernel
theorem dX9_isPossible_74 : decode cX9_isPossible 74 = .ok (.aload_n 0, 1) := by decide +kernel
theorem dX9_isPossible_75 : decode cX9_isPossible 75 = .ok (.getfield 36, 3) := by decide +kernel
theorem dX9_isPossible_78 : decode cX9_isPossible 78 = .ok (.iconst 4, 1) := by decide +kernel
theorem dX9_isPossible_79 : decode cX9_isPossible 79 = .ok (.iaload, 1) := by decide +kernel
theorem dX9_isPossible_80 : decode cX9_isPossible 80 = .ok (.invokevirtual 242, 3) := by decide +kernel
theorem dX9_isPossible_83 : decode cX9_isPossible 83 = .ok (.ifCond .ne 7, 3) := by decide +kernel
theorem dX9_isPossible_86 : decode cX9_isPossible 86 = .ok (.iconst 1, 1) := by decide +kernel
theorem dX9_isPossible_87 : decode cX9_isPossible 87 = .ok (.goto 4, 3) := by decide +kernel
theorem dX9_isPossible_90 : decode cX9_isPossible 90 = .ok (.iconst 0, 1) := by decide +kernel
theorem dX9_isPossible_91 : decode cX9_isPossible 91 = .ok (.ireturn, 1) := by decide +kernel
theorem dX9_isPossible_92 : decode cX9_isPossible 92 = .ok (.aload_n 0, 1) := by decide +kernel
theorem dX9_isPossible_93 : decode cX9_isPossible 93 = .ok (.getfield 36, 3) := by decide +kernel
theorem dX9_isPossible_96 : decode cX9_isPossible 96 = .ok (.iconst 1, 1) := by decide +kernel
theorem dX9_isPossible_97 : decode cX9_isPossible 97 = .ok (.iaload, 1) := by decide +kernel
theorem dX9_isPossible_98 : decode cX9_isPossible 98 = .ok (.aload_n 0, 1) := by decide +kernel
theorem dX9_isPossible_99 : decode cX9_isPossible 99 = .ok (.aload_n 0, 1) := by decide +kernel
theorem dX9_isPossible_100 : decode cX9_isPossible 100 = .ok (.getfield 36, 3) := by decide +kernel
theorem dX9_isPossible_103 : decode cX9_isPossible 103 = .ok (.iconst 0, 1) := by decide +kernel
theorem dX9_isPossible_104 : decode cX9_isPossible 104 = .ok (.iaload, 1) := by decide +kernel
theorem dX9_isPossible_105 : decode cX9_isPossible 105 = .ok (.iconst 3, 1) := by decide +kernel
theorem dX9_isPossible_106 : decode cX9_isPossible 106 = .ok (.invokevirtual 71, 3) := by decide +kernel
theorem dX9_isPossible_109 : decode cX9_isPossible 109 = .ok (.if_icmp .gt 7, 3) := by decide +kernel
theorem dX9_isPossible_112 : decode cX9_isPossible 112 = .ok (.iconst 1, 1) := by decide +kernel
theorem dX9_isPossible_113 : decode cX9_isPossible 113 = .ok (.goto 4, 3) := by decide +kernel
theorem dX9_isPossible_116 : decode cX9_isPossible 116 = .ok (.iconst 0, 1) := by decide +kernel
theorem dX9_isPossible_117 : decode cX9_isPossible 117 = .ok (.ireturn, 1) := by decide +kernel
theorem dX9_isPossible_118 : decode cX9_isPossible 118 = .ok (.iconst 1, 1) := by decide +kernel
theorem dX9_isPossible_119 : decode cX9_isPossible 119 = .ok (.ireturn, 1) := by decide +kernel
def fX9_isPossible (p1 : Int32) (v : bM) : Option Int32 :=
  (if p1 = 2 then (bnr (fX9_canBuy (v (7160 + (0 : Int32).toNatClampNeg)) (v (7160 + (1 : Int32).toNatClampNeg)) (v (7160 + (2 : Int32).toNatClampNeg)) v) fun r3 => ck r3 2 <| some (r3)) else (if p1 = 3 then (some (1)) else (if p1 = 4 then (bnr (fX9_obstacle (v (7160 + (0 : Int32).toNatClampNeg)) (v (7160 + (1 : Int32).toNatClampNeg)) (v (7160 + (3 : Int32).toNatClampNeg)) (v (7160 + (4 : Int32).toNatClampNeg)) v) fun r8 => (if r8 = 0 then (some (1)) else (some (0)))) else (if p1 = 5 then (bnr (fX9_bread (v (7160 + (0 : Int32).toNatClampNeg)) 3 v) fun r12 => (if r12 < (v (7160 + (1 : Int32).toNatClampNeg)) then (some (0)) else (some (1)))) else (some (1))))))
set_option maxRecDepth 100000 in
set_option maxHeartbeats 4000000 in
theorem mX9_isPossible {l : Launch} {p1 : Int32} {v : bM} {r0 : Int32} (hf : fX9_isPossible p1 v = some r0) : bMet l yX9_isPossible cX9_isPossible 2 (some .boolean) 5 0 0 LMo (fun E a => [.ref a, .int p1]) v v (fun _ => some (.int r0)) := by
  refine bk_start (by decide +kernel) wfMo (fun _ _ => Nat.le_of_ble_eq_true rfl) ?_
  intro p e s m args below meth c D E a ls H locs X hr hl hB
  have hx := X.1
  have hb := X.2.1
  have hown := X.2.2.2.1
  have hts := X.2.2.2.2.1
  have hl : lv_has ls 2 [(0, .ref a), (1, .int p1)] := hl
  have hf := (fX9_isPossible.eq_1 p1 v).symm.trans hf
  refine lv_iload_n hx hb dX9_isPossible_0 rfl (lv_at hl 1 rfl) ?_
  by_cases c1 : p1 = 2
  · have hf := (if_pos c1).symm.trans hf
    refine lv_tableIn (tgt := 32) hx hb dX9_isPossible_1 (by rw [c1]; decide) (by rw [c1]; decide) (by rw [c1]; rfl) (by decide) ?_
    refine lv_aload_n hx hb dX9_isPossible_32 rfl (lv_at hl 0 rfl) ?_
    refine lv_aload_n hx hb dX9_isPossible_33 rfl (lv_at hl 0 rfl) ?_
    refine bk_getR X hB kl_X9 0 lc_Mo_0 12 (by decide) rfl wm_1875 dX9_isPossible_34 ?_
    refine lv_iconst (v := 0) hx hb dX9_isPossible_37 (by decide) ?_
    refine bk_ald X hB 8 lc_Mo_8 (vp_c 0 5 rfl) dX9_isPossible_38 ?_
    refine lv_aload_n hx hb dX9_isPossible_39 rfl (lv_at hl 0 rfl) ?_
    refine bk_getR X hB kl_X9 0 lc_Mo_0 12 (by decide) rfl wm_1875 dX9_isPossible_40 ?_
    refine lv_iconst (v := 1) hx hb dX9_isPossible_43 (by decide) ?_
    refine bk_ald X hB 8 lc_Mo_8 (vp_c 1 5 rfl) dX9_isPossible_44 ?_
    refine lv_aload_n hx hb dX9_isPossible_45 rfl (lv_at hl 0 rfl) ?_
    refine bk_getR X hB kl_X9 0 lc_Mo_0 12 (by decide) rfl wm_1875 dX9_isPossible_46 ?_
    refine lv_iconst (v := 2) hx hb dX9_isPossible_49 (by decide) ?_
    refine bk_ald X hB 8 lc_Mo_8 (vp_c 2 5 rfl) dX9_isPossible_50 ?_
    obtain ⟨r3, hc2, hf⟩ := bnr_some hf
    refine bk_all hB (fun h1 h2 h3 => bk_runV X (Av := [.int (v (7160 + (0 : Int32).toNatClampNeg)), .int (v (7160 + (1 : Int32).toNatClampNeg)), .int (v (7160 + (2 : Int32).toNatClampNeg))]) (rest := []) (mX9_canBuy hc2) yv_X9_canBuy wm_1754 ⟨Nat.le_of_ble_eq_true rfl, Nat.le_of_ble_eq_true rfl⟩ rfl rfl hl.1 kl_X9.1 (hB.1.obj lc_Mo_0) h1 h2 h3 (Nat.le_of_ble_eq_true rfl) ⟨Nat.le_of_ble_eq_true rfl, Nat.le_of_ble_eq_true rfl⟩ dX9_isPossible_51) (fun H locs hB => ?_)
    refine W.eq (g2 := F0 m 54 ls [.int r3]) rfl ?_
    obtain ⟨h4, hf⟩ := ck_some hf
    exact bk_zR X hr rfl (nar_z h4) hf hB (Nat.le_of_ble_eq_true rfl) (Nat.le_of_ble_eq_true rfl) dX9_isPossible_54
  have hf := (if_neg c1).symm.trans hf
  by_cases c5 : p1 = 3
  · have hf := (if_pos c5).symm.trans hf
    refine lv_tableIn (tgt := 118) hx hb dX9_isPossible_1 (by rw [c5]; decide) (by rw [c5]; decide) (by rw [c5]; rfl) (by decide) ?_
    refine lv_iconst (v := 1) hx hb dX9_isPossible_118 (by decide) ?_
    exact bk_zR X hr rfl rfl hf hB (Nat.le_of_ble_eq_true rfl) (Nat.le_of_ble_eq_true rfl) dX9_isPossible_119
  have hf := (if_neg c5).symm.trans hf
  by_cases c6 : p1 = 4
  · have hf := (if_pos c6).symm.trans hf
    refine lv_tableIn (tgt := 55) hx hb dX9_isPossible_1 (by rw [c6]; decide) (by rw [c6]; decide) (by rw [c6]; rfl) (by decide) ?_
    refine lv_aload_n hx hb dX9_isPossible_55 rfl (lv_at hl 0 rfl) ?_
    refine lv_aload_n hx hb dX9_isPossible_56 rfl (lv_at hl 0 rfl) ?_
    refine bk_getR X hB kl_X9 0 lc_Mo_0 12 (by decide) rfl wm_1875 dX9_isPossible_57 ?_
    refine lv_iconst (v := 0) hx hb dX9_isPossible_60 (by decide) ?_
    refine bk_ald X hB 8 lc_Mo_8 (vp_c 0 5 rfl) dX9_isPossible_61 ?_
    refine lv_aload_n hx hb dX9_isPossible_62 rfl (lv_at hl 0 rfl) ?_
    refine bk_getR X hB kl_X9 0 lc_Mo_0 12 (by decide) rfl wm_1875 dX9_isPossible_63 ?_
    refine lv_iconst (v := 1) hx hb dX9_isPossible_66 (by decide) ?_
    refine bk_ald X hB 8 lc_Mo_8 (vp_c 1 5 rfl) dX9_isPossible_67 ?_
    refine lv_aload_n hx hb dX9_isPossible_68 rfl (lv_at hl 0 rfl) ?_
    refine bk_getR X hB kl_X9 0 lc_Mo_0 12 (by decide) rfl wm_1875 dX9_isPossible_69 ?_
    refine lv_iconst (v := 3) hx hb dX9_isPossible_72 (by decide) ?_
    refine bk_ald X hB 8 lc_Mo_8 (vp_c 3 5 rfl) dX9_isPossible_73 ?_
    refine lv_aload_n hx hb dX9_isPossible_74 rfl (lv_at hl 0 rfl) ?_
    refine bk_getR X hB kl_X9 0 lc_Mo_0 12 (by decide) rfl wm_1875 dX9_isPossible_75 ?_
    refine lv_iconst (v := 4) hx hb dX9_isPossible_78 (by decide) ?_
    refine bk_ald X hB 8 lc_Mo_8 (vp_c 4 5 rfl) dX9_isPossible_79 ?_
    obtain ⟨r8, hc7, hf⟩ := bnr_some hf
    refine bk_all hB (fun h1 h2 h3 => bk_runV X (Av := [.int (v (7160 + (0 : Int32).toNatClampNeg)), .int (v (7160 + (1 : Int32).toNatClampNeg)), .int (v (7160 + (3 : Int32).toNatClampNeg)), .int (v (7160 + (4 : Int32).toNatClampNeg))]) (rest := []) (mX9_obstacle hc7) yv_X9_obstacle wm_1762 ⟨Nat.le_of_ble_eq_true rfl, Nat.le_of_ble_eq_true rfl⟩ rfl rfl hl.1 kl_X9.1 (hB.1.obj lc_Mo_0) h1 h2 h3 (Nat.le_of_ble_eq_true rfl) ⟨Nat.le_of_ble_eq_true rfl, Nat.le_of_ble_eq_true rfl⟩ dX9_isPossible_80) (fun H locs hB => ?_)
    refine W.eq (g2 := F0 m 83 ls [.int r8]) rfl ?_
    refine lv_if_ne (tgt := 90) hx hb dX9_isPossible_83 (by decide) (fun c9 => ?_) (fun c9 => ?_)
    · have hf := (if_neg c9).symm.trans hf
      refine lv_iconst (v := 0) hx hb dX9_isPossible_90 (by decide) ?_
      exact bk_zR X hr rfl rfl hf hB (Nat.le_of_ble_eq_true rfl) (Nat.le_of_ble_eq_true rfl) dX9_isPossible_91
    · have hf := (if_pos c9).symm.trans hf
      refine lv_iconst (v := 1) hx hb dX9_isPossible_86 (by decide) ?_
      refine lv_goto (tgt := 91) hx hb dX9_isPossible_87 (by decide) ?_
      exact bk_zR X hr rfl rfl hf hB (Nat.le_of_ble_eq_true rfl) (Nat.le_of_ble_eq_true rfl) dX9_isPossible_91
  have hf := (if_neg c6).symm.trans hf
  by_cases c10 : p1 = 5
  · have hf := (if_pos c10).symm.trans hf
    refine lv_tableIn (tgt := 92) hx hb dX9_isPossible_1 (by rw [c10]; decide) (by rw [c10]; decide) (by rw [c10]; rfl) (by decide) ?_
    refine lv_aload_n hx hb dX9_isPossible_92 rfl (lv_at hl 0 rfl) ?_
    refine bk_getR X hB kl_X9 0 lc_Mo_0 12 (by decide) rfl wm_1875 dX9_isPossible_93 ?_
    refine lv_iconst (v := 1) hx hb dX9_isPossible_96 (by decide) ?_
    refine bk_ald X hB 8 lc_Mo_8 (vp_c 1 5 rfl) dX9_isPossible_97 ?_
    refine lv_aload_n hx hb dX9_isPossible_98 rfl (lv_at hl 0 rfl) ?_
    refine lv_aload_n hx hb dX9_isPossible_99 rfl (lv_at hl 0 rfl) ?_
    refine bk_getR X hB kl_X9 0 lc_Mo_0 12 (by decide) rfl wm_1875 dX9_isPossible_100 ?_
    refine lv_iconst (v := 0) hx hb dX9_isPossible_103 (by decide) ?_
    refine bk_ald X hB 8 lc_Mo_8 (vp_c 0 5 rfl) dX9_isPossible_104 ?_
    refine lv_iconst (v := 3) hx hb dX9_isPossible_105 (by decide) ?_
    obtain ⟨r12, hc11, hf⟩ := bnr_some hf
    refine bk_all hB (fun h1 h2 h3 => bk_runV X (Av := [.int (v (7160 + (0 : Int32).toNatClampNeg)), .int 3]) (rest := [.int (v (7160 + (1 : Int32).toNatClampNeg))]) (mX9_bread hc11) yv_X9_bread wm_1774 ⟨Nat.le_of_ble_eq_true rfl, Nat.le_of_ble_eq_true rfl⟩ rfl rfl hl.1 kl_X9.1 (hB.1.obj lc_Mo_0) h1 h2 h3 (Nat.le_of_ble_eq_true rfl) ⟨Nat.le_of_ble_eq_true rfl, Nat.le_of_ble_eq_true rfl⟩ dX9_isPossible_106) (fun H locs hB => ?_)
    refine W.eq (g2 := F0 m 109 ls [.int r12, .int (v (7160 + (1 : Int32).toNatClampNeg))]) rfl ?_
    refine lv_icmp_gt (tgt := 116) hx hb dX9_isPossible_109 (by decide) (fun c13 => ?_) (fun c13 => ?_)
    · have hf := (if_pos c13).symm.trans hf
      refine lv_iconst (v := 0) hx hb dX9_isPossible_116 (by decide) ?_
      exact bk_zR X hr rfl rfl hf hB (Nat.le_of_ble_eq_true rfl) (Nat.le_of_ble_eq_true rfl) dX9_isPossible_117
    · have hf := (if_neg c13).symm.trans hf
      refine lv_iconst (v := 1) hx hb dX9_isPossible_112 (by decide) ?_
      refine lv_goto (tgt := 117) hx hb dX9_isPossible_113 (by decide) ?_
      exact bk_zR X hr rfl rfl hf hB (Nat.le_of_ble_eq_true rfl) (Nat.le_of_ble_eq_true rfl) dX9_isPossible_117
  have hf := (if_neg c10).symm.trans hf
  refine lv_tableOut (tgt := 118) hx hb dX9_isPossible_1 (sw_out p1 (by decide) [2, 3, 4, 5] (by decide) (by simp only [List.forall_mem_cons]; exact ⟨c1, c5, c6, c10, fun _ h => absurd h List.not_mem_nil⟩)) (by decide) ?_
  refine lv_iconst (v := 1) hx hb dX9_isPossible_118 (by decide) ?_
  exact bk_zR X hr rfl rfl hf hB (Nat.le_of_ble_eq_true rfl) (Nat.le_of_ble_eq_true rfl) dX9_isPossible_119
theorem yv_X9_isPossible : bYv yX9_isPossible RX9 cX9_isPossible 2 (some .boolean) 1 := ⟨⟨rfl, by decide, by decide, rfl⟩, wm_1752, wp_46, wm_17, wm_1753⟩

theorem dX9_does_0 : decode cX9_does 0 = .ok (.iload_n 1, 1) := by decide +kernel
theorem dX9_does_1 : decode cX9_does 1 = .ok (.tableswitch 171 0 5 #[39, 50, 73, 96, 113, 148], 39) := by decide +kernel
theorem dX9_does_40 : decode cX9_does 40 = .ok (.aload_n 0, 1) := by decide +kernel
theorem dX9_does_41 : decode cX9_does 41 = .ok (.aload_n 0, 1) := by decide +kernel
theorem dX9_does_42 : decode cX9_does 42 = .ok (.getfield 36, 3) := by decide +kernel
theorem dX9_does_45 : decode cX9_does 45 = .ok (.iconst 0, 1) := by decide +kernel
theorem dX9_does_46 : decode cX9_does 46 = .ok (.iaload, 1) := by decide +kernel
theorem dX9_does_47 : decode cX9_does 47 = .ok (.invokevirtual 245, 3) := by decide +kernel
theorem dX9_does_50 : decode cX9_does 50 = .ok (.ireturn, 1) := by decide +kernel
theorem dX9_does_51 : decode cX9_does 51 = .ok (.aload_n 0, 1) := by decide +kernel
theorem dX9_does_52 : decode cX9_does 52 = .ok (.aload_n 0, 1) := by decide +kernel
theorem dX9_does_53 : decode cX9_does 53 = .ok (.getfield 36, 3) := by decide +kernel
theorem dX9_does_56 : decode cX9_does 56 = .ok (.iconst 0, 1) := by decide +kernel
theorem dX9_does_57 : decode cX9_does 57 = .ok (.iaload, 1) := by decide +kernel
theorem dX9_does_58 : decode cX9_does 58 = .ok (.aload_n 0, 1) := by decide +kernel
theorem dX9_does_59 : decode cX9_does 59 = .ok (.getfield 36, 3) := by decide +kernel
theorem dX9_does_62 : decode cX9_does 62 = .ok (.iconst 1, 1) := by decide +kernel
theorem dX9_does_63 : decode cX9_does 63 = .ok (.iaload, 1) := by decide +kernel
theorem dX9_does_64 : decode cX9_does 64 = .ok (.aload_n 0, 1) := by decide +kernel
theorem dX9_does_65 : decode cX9_does 65 = .ok (.getfield 36, 3) := by decide +kernel
theorem dX9_does_68 : decode cX9_does 68 = .ok (.iconst 2, 1) := by decide +kernel
theorem dX9_does_69 : decode cX9_does 69 = .ok (.iaload, 1) := by decide +kernel
theorem dX9_does_70 : decode cX9_does 70 = .ok (.invokevirtual 248, 3) := by decide +kernel
theorem dX9_does_73 : decode cX9_does 73 = .ok (.ireturn, 1) := by decide +kernel
theorem dX9_does_74 : decode cX9_does 74 = .ok (.aload_n 0, 1) := by decide +kernel
theorem dX9_does_75 : decode cX9_does 75 = .ok (.aload_n 0, 1) := by decide +kernel
theorem dX9_does_76 : decode cX9_does 76 = .ok (.getfield 36, 3) := by decide +kernel
theorem dX9_does_79 : decode cX9_does 79 = .ok (.iconst 0, 1) := by decide +kernel
theorem dX9_does_80 : decode cX9_does 80 = .ok (.iaload, 1) := by decide +kernel
theorem dX9_does_81 : decode cX9_does 81 = .ok (.aload_n 0, 1) := by decide +kernel
theorem dX9_does_82 : decode cX9_does 82 = .ok (.getfield 36, 3) := by decide +kernel
theorem dX9_does_85 : decode cX9_does 85 = .ok (.iconst 1, 1) := by decide +kernel
theorem dX9_does_86 : decode cX9_does 86 = .ok (.iaload, 1) := by decide +kernel
theorem dX9_does_87 : decode cX9_does 87 = .ok (.aload_n 0, 1) := by decide +kernel
theorem dX9_does_88 : decode cX9_does 88 = .ok (.getfield 36, 3) := by decide +kernel
theorem dX9_does_91 : decode cX9_does 91 = .ok (.iconst 2, 1) := by decide +kernel
theorem dX9_does_92 : decode cX9_does 92 = .ok (.iaload, 1) := by decide +kernel
theorem dX9_does_93 : decode cX9_does 93 = .ok (.invokevirtual 251, 3) := by decide +kernel
theorem dX9_does_96 : decode cX9_does 96 = .ok (.ireturn, 1) := by decide +kernel
theorem dX9_does_97 : decode cX9_does 97 = .ok (.aload_n 0, 1) := by decide +kernel
theorem dX9_does_98 : decode cX9_does 98 = .ok (.aload_n 0, 1) := by decide +kernel
theorem dX9_does_99 : decode cX9_does 99 = .ok (.getfield 36, 3) := by decide +kernel
theorem dX9_does_102 : decode cX9_does 102 = .ok (.iconst 0, 1) := by decide +kernel
theorem dX9_does_103 : decode cX9_does 103 = .ok (.iaload, 1) := by decide +kernel
theorem dX9_does_104 : decode cX9_does 104 = .ok (.aload_n 0, 1) := by decide +kernel
theorem dX9_does_105 : decode cX9_does 105 = .ok (.getfield 36, 3) := by decide +kernel
theorem dX9_does_108 : decode cX9_does 108 = .ok (.iconst 1, 1) := by decide +kernel
theorem dX9_does_109 : decode cX9_does 109 = .ok (.iaload, 1) := by decide +kernel
theorem dX9_does_110 : decode cX9_does 110 = .ok (.invokevirtual 254, 3) := by decide +kernel
theorem dX9_does_113 : decode cX9_does 113 = .ok (.ireturn, 1) := by decide +kernel
theorem dX9_does_114 : decode cX9_does 114 = .ok (.aload_n 0, 1) := by decide +kernel
theorem dX9_does_115 : decode cX9_does 115 = .ok (.aload_n 0, 1) := by decide +kernel
theorem dX9_does_116 : decode cX9_does 116 = .ok (.getfield 36, 3) := by decide +kernel
theorem dX9_does_119 : decode cX9_does 119 = .ok (.iconst 0, 1) := by decide +kernel
theorem dX9_does_120 : decode cX9_does 120 = .ok (.iaload, 1) := by decide +kernel
theorem dX9_does_121 : decode cX9_does 121 = .ok (.aload_n 0, 1) := by decide +kernel
theorem dX9_does_122 : decode cX9_does 122 = .ok (.getfield 36, 3) := by decide +kernel
theorem dX9_does_125 : decode cX9_does 125 = .ok (.iconst 1, 1) := by decide +kernel
theorem dX9_does_126 : decode cX9_does 126 = .ok (.iaload, 1) := by decide +kernel
theorem dX9_does_127 : decode cX9_does 127 = .ok (.aload_n 0, 1) := by decide +kernel
theorem dX9_does_128 : decode cX9_does 128 = .ok (.getfield 36, 3) := by decide +kernel
theorem dX9_does_131 : decode cX9_does 131 = .ok (.iconst 2, 1) := by decide +kernel
theorem dX9_does_132 : decode cX9_does 132 = .ok (.iaload, 1) := by decide +kernel
theorem dX9_does_133 : decode cX9_does 133 = .ok (.aload_n 0, 1) := by decide +kernel
theorem dX9_does_134 : decode cX9_does 134 = .ok (.getfield 36, 3) := by decide +kernel
theorem dX9_does_137 : decode cX9_does 137 = .ok (.iconst 3, 1) := by decide +kernel
theorem dX9_does_138 : decode cX9_does 138 = .ok (.iaload, 1) := by decide +kernel
theorem dX9_does_139 : decode cX9_does 139 = .ok (.aload_n 0, 1) := by decide +kernel
theorem dX9_does_140 : decode cX9_does 140 = .ok (.getfield 36, 3) := by decide +kernel
theorem dX9_does_143 : decode cX9_does 143 = .ok (.iconst 4, 1) := by decide +kernel
theorem dX9_does_144 : decode cX9_does 144 = .ok (.iaload, 1) := by decide +kernel
theorem dX9_does_145 : decode cX9_does 145 = .ok (.invokevirtual 257, 3) := by decide +kernel
theorem dX9_does_148 : decode cX9_does 148 = .ok (.ireturn, 1) := by decide +kernel
theorem dX9_does_149 : decode cX9_does 149 = .ok (.aload_n 0, 1) := by decide +kernel
theorem dX9_does_150 : decode cX9_does 150 = .ok (.aload_n 0, 1) := by decide +kernel
theorem dX9_does_151 : decode cX9_does 151 = .ok (.getfield 36, 3) := by decide +kernel
theorem dX9_does_154 : decode cX9_does 154 = .ok (.iconst 0, 1) := by decide +kernel
theorem dX9_does_155 : decode cX9_does 155 = .ok (.iaload, 1) := by decide +kernel
theorem dX9_does_156 : decode cX9_does 156 = .ok (.aload_n 0, 1) := by decide +kernel
theorem dX9_does_157 : decode cX9_does 157 = .ok (.getfield 36, 3) := by decide +kernel
theorem dX9_does_160 : decode cX9_does 160 = .ok (.iconst 1, 1) := by decide +kernel
theorem dX9_does_161 : decode cX9_does 161 = .ok (.iaload, 1) := by decide +kernel
theorem dX9_does_162 : decode cX9_does 162 = .ok (.aload_n 0, 1) := by decide +kernel
theorem dX9_does_163 : decode cX9_does 163 = .ok (.getfield 36, 3) := by decide +kernel
theorem dX9_does_166 : decode cX9_does 166 = .ok (.iconst 2, 1) := by decide +kernel
theorem dX9_does_167 : decode cX9_does 167 = .ok (.iaload, 1) := by decide +kernel
theorem dX9_does_168 : decode cX9_does 168 = .ok (.invokevirtual 261, 3) := by decide +kernel
theorem dX9_does_171 : decode cX9_does 171 = .ok (.ireturn, 1) := by decide +kernel
theorem dX9_does_172 : decode cX9_does 172 = .ok (.aload_n 0, 1) := by decide +kernel
theorem dX9_does_173 : decode cX9_does 173 = .ok (.aload_n 0, 1) := by decide +kernel
theorem dX9_does_174 : decode cX9_does 174 = .ok (.getfield 36, 3) := by decide +kernel
theorem dX9_does_177 : decode cX9_does 177 = .ok (.iconst 0, 1) := by decide +kernel
theorem dX9_does_178 : decode cX9_does 178 = .ok (.iaload, 1) := by decide +kernel
theorem dX9_does_179 : decode cX9_does 179 = .ok (.invokevirtual 264, 3) := by decide +kernel
theorem dX9_does_182 : decode cX9_does 182 = .ok (.ireturn, 1) := by decide +kernel
def fX9_does (p1 : Int32) (v : bM) : Option (Int32 × bM) :=
  (if p1 = 0 then (bnd (fX9_doFlour (v (7160 + (0 : Int32).toNatClampNeg)) v) fun r4 w3 => some (r4, w3)) else (if p1 = 1 then (bnd (fX9_doBread (v (7160 + (0 : Int32).toNatClampNeg)) (v (7160 + (1 : Int32).toNatClampNeg)) (v (7160 + (2 : Int32).toNatClampNeg)) v) fun r8 w7 => some (r8, w7)) else (if p1 = 2 then (bnd (fX9_doBuy (v (7160 + (0 : Int32).toNatClampNeg)) (v (7160 + (1 : Int32).toNatClampNeg)) (v (7160 + (2 : Int32).toNatClampNeg)) v) fun r12 w11 => some (r12, w11)) else (if p1 = 3 then (bnd (fX9_doRate (v (7160 + (0 : Int32).toNatClampNeg)) (v (7160 + (1 : Int32).toNatClampNeg)) v) fun r16 w15 => some (r16, w15)) else (if p1 = 4 then (bnd (fX9_doBake (v (7160 + (0 : Int32).toNatClampNeg)) (v (7160 + (1 : Int32).toNatClampNeg)) (v (7160 + (2 : Int32).toNatClampNeg)) (v (7160 + (3 : Int32).toNatClampNeg)) (v (7160 + (4 : Int32).toNatClampNeg)) v) fun r20 w19 => some (r20, w19)) else (if p1 = 5 then (bnd (fX9_doSell (v (7160 + (0 : Int32).toNatClampNeg)) (v (7160 + (1 : Int32).toNatClampNeg)) (v (7160 + (2 : Int32).toNatClampNeg)) v) fun r24 w23 => some (r24, w23)) else (bnd (fX9_doWait (v (7160 + (0 : Int32).toNatClampNeg)) v) fun r27 w26 => some (r27, w26))))))))
set_option maxRecDepth 100000 in
set_option maxHeartbeats 4000000 in
theorem mX9_does {l : Launch} {p1 : Int32} {v : bM} {r0 : Int32} {w0 : bM} (hf : fX9_does p1 v = some (r0, w0)) : bMet l yX9_does cX9_does 2 (some .int) 6 0 0 LMo (fun E a => [.ref a, .int p1]) v w0 (fun _ => some (.int r0)) := by
  refine bk_start (by decide +kernel) wfMo (fun _ _ => Nat.le_of_ble_eq_true rfl) ?_
  intro p e s m args below meth c D E a ls H locs X hr hl hB
  have hx := X.1
  have hb := X.2.1
  have hown := X.2.2.2.1
  have hts := X.2.2.2.2.1
  have hl : lv_has ls 2 [(0, .ref a), (1, .int p1)] := hl
  have hf := (fX9_does.eq_1 p1 v).symm.trans hf
  refine lv_iload_n hx hb dX9_does_0 rfl (lv_at hl 1 rfl) ?_
  by_cases c1 : p1 = 0
  · have hf := (if_pos c1).symm.trans hf
    refine lv_tableIn (tgt := 40) hx hb dX9_does_1 (by rw [c1]; decide) (by rw [c1]; decide) (by rw [c1]; rfl) (by decide) ?_
    refine lv_aload_n hx hb dX9_does_40 rfl (lv_at hl 0 rfl) ?_
    refine lv_aload_n hx hb dX9_does_41 rfl (lv_at hl 0 rfl) ?_
    refine bk_getR X hB kl_X9 0 lc_Mo_0 12 (by decide) rfl wm_1875 dX9_does_42 ?_
    refine lv_iconst (v := 0) hx hb dX9_does_45 (by decide) ?_
    refine bk_ald X hB 8 lc_Mo_8 (vp_c 0 5 rfl) dX9_does_46 ?_
    obtain ⟨r4, w3, hc2, hf⟩ := bnd_some hf
    refine bk_all hB (fun h1 h2 h3 => bk_runV X (Av := [.int (v (7160 + (0 : Int32).toNatClampNeg))]) (rest := []) (mX9_doFlour hc2) yv_X9_doFlour wm_1794 ⟨Nat.le_of_ble_eq_true rfl, Nat.le_of_ble_eq_true rfl⟩ rfl rfl hl.1 kl_X9.1 (hB.1.obj lc_Mo_0) h1 h2 h3 (Nat.le_of_ble_eq_true rfl) ⟨Nat.le_of_ble_eq_true rfl, Nat.le_of_ble_eq_true rfl⟩ dX9_does_47) (fun H locs hB => ?_)
    refine W.eq (g2 := F0 m 50 ls [.int r4]) rfl ?_
    exact bk_iW X hr rfl hf hB (Nat.le_of_ble_eq_true rfl) (Nat.le_of_ble_eq_true rfl) dX9_does_50
  have hf := (if_neg c1).symm.trans hf
  by_cases c5 : p1 = 1
  · have hf := (if_pos c5).symm.trans hf
    refine lv_tableIn (tgt := 51) hx hb dX9_does_1 (by rw [c5]; decide) (by rw [c5]; decide) (by rw [c5]; rfl) (by decide) ?_
    refine lv_aload_n hx hb dX9_does_51 rfl (lv_at hl 0 rfl) ?_
    refine lv_aload_n hx hb dX9_does_52 rfl (lv_at hl 0 rfl) ?_
    refine bk_getR X hB kl_X9 0 lc_Mo_0 12 (by decide) rfl wm_1875 dX9_does_53 ?_
    refine lv_iconst (v := 0) hx hb dX9_does_56 (by decide) ?_
    refine bk_ald X hB 8 lc_Mo_8 (vp_c 0 5 rfl) dX9_does_57 ?_
    refine lv_aload_n hx hb dX9_does_58 rfl (lv_at hl 0 rfl) ?_
    refine bk_getR X hB kl_X9 0 lc_Mo_0 12 (by decide) rfl wm_1875 dX9_does_59 ?_
    refine lv_iconst (v := 1) hx hb dX9_does_62 (by decide) ?_
    refine bk_ald X hB 8 lc_Mo_8 (vp_c 1 5 rfl) dX9_does_63 ?_
    refine lv_aload_n hx hb dX9_does_64 rfl (lv_at hl 0 rfl) ?_
    refine bk_getR X hB kl_X9 0 lc_Mo_0 12 (by decide) rfl wm_1875 dX9_does_65 ?_
    refine lv_iconst (v := 2) hx hb dX9_does_68 (by decide) ?_
    refine bk_ald X hB 8 lc_Mo_8 (vp_c 2 5 rfl) dX9_does_69 ?_
    obtain ⟨r8, w7, hc6, hf⟩ := bnd_some hf
    refine bk_all hB (fun h1 h2 h3 => bk_runV X (Av := [.int (v (7160 + (0 : Int32).toNatClampNeg)), .int (v (7160 + (1 : Int32).toNatClampNeg)), .int (v (7160 + (2 : Int32).toNatClampNeg))]) (rest := []) (mX9_doBread hc6) yv_X9_doBread wm_1802 ⟨Nat.le_of_ble_eq_true rfl, Nat.le_of_ble_eq_true rfl⟩ rfl rfl hl.1 kl_X9.1 (hB.1.obj lc_Mo_0) h1 h2 h3 (Nat.le_of_ble_eq_true rfl) ⟨Nat.le_of_ble_eq_true rfl, Nat.le_of_ble_eq_true rfl⟩ dX9_does_70) (fun H locs hB => ?_)
    refine W.eq (g2 := F0 m 73 ls [.int r8]) rfl ?_
    exact bk_iW X hr rfl hf hB (Nat.le_of_ble_eq_true rfl) (Nat.le_of_ble_eq_true rfl) dX9_does_73
  have hf := (if_neg c5).symm.trans hf
  by_cases c9 : p1 = 2
  · have hf := (if_pos c9).symm.trans hf
    refine lv_tableIn (tgt := 74) hx hb dX9_does_1 (by rw [c9]; decide) (by rw [c9]; decide) (by rw [c9]; rfl) (by decide) ?_
    refine lv_aload_n hx hb dX9_does_74 rfl (lv_at hl 0 rfl) ?_
    refine lv_aload_n hx hb dX9_does_75 rfl (lv_at hl 0 rfl) ?_
    refine bk_getR X hB kl_X9 0 lc_Mo_0 12 (by decide) rfl wm_1875 dX9_does_76 ?_
    refine lv_iconst (v := 0) hx hb dX9_does_79 (by decide) ?_
    refine bk_ald X hB 8 lc_Mo_8 (vp_c 0 5 rfl) dX9_does_80 ?_
    refine lv_aload_n hx hb dX9_does_81 rfl (lv_at hl 0 rfl) ?_
    refine bk_getR X hB kl_X9 0 lc_Mo_0 12 (by decide) rfl wm_1875 dX9_does_82 ?_
    refine lv_iconst (v := 1) hx hb dX9_does_85 (by decide) ?_
    refine bk_ald X hB 8 lc_Mo_8 (vp_c 1 5 rfl) dX9_does_86 ?_
    refine lv_aload_n hx hb dX9_does_87 rfl (lv_at hl 0 rfl) ?_
    refine bk_getR X hB kl_X9 0 lc_Mo_0 12 (by decide) rfl wm_1875 dX9_does_88 ?_
    refine lv_iconst (v := 2) hx hb dX9_does_91 (by decide) ?_
    refine bk_ald X hB 8 lc_Mo_8 (vp_c 2 5 rfl) dX9_does_92 ?_
    obtain ⟨r12, w11, hc10, hf⟩ := bnd_some hf
    refine bk_all hB (fun h1 h2 h3 => bk_runV X (Av := [.int (v (7160 + (0 : Int32).toNatClampNeg)), .int (v (7160 + (1 : Int32).toNatClampNeg)), .int (v (7160 + (2 : Int32).toNatClampNeg))]) (rest := []) (mX9_doBuy hc10) yv_X9_doBuy wm_1806 ⟨Nat.le_of_ble_eq_true rfl, Nat.le_of_ble_eq_true rfl⟩ rfl rfl hl.1 kl_X9.1 (hB.1.obj lc_Mo_0) h1 h2 h3 (Nat.le_of_ble_eq_true rfl) ⟨Nat.le_of_ble_eq_true rfl, Nat.le_of_ble_eq_true rfl⟩ dX9_does_93) (fun H locs hB => ?_)
    refine W.eq (g2 := F0 m 96 ls [.int r12]) rfl ?_
    exact bk_iW X hr rfl hf hB (Nat.le_of_ble_eq_true rfl) (Nat.le_of_ble_eq_true rfl) dX9_does_96
  have hf := (if_neg c9).symm.trans hf
  by_cases c13 : p1 = 3
  · have hf := (if_pos c13).symm.trans hf
    refine lv_tableIn (tgt := 97) hx hb dX9_does_1 (by rw [c13]; decide) (by rw [c13]; decide) (by rw [c13]; rfl) (by decide) ?_
    refine lv_aload_n hx hb dX9_does_97 rfl (lv_at hl 0 rfl) ?_
    refine lv_aload_n hx hb dX9_does_98 rfl (lv_at hl 0 rfl) ?_
    refine bk_getR X hB kl_X9 0 lc_Mo_0 12 (by decide) rfl wm_1875 dX9_does_99 ?_
    refine lv_iconst (v := 0) hx hb dX9_does_102 (by decide) ?_
    refine bk_ald X hB 8 lc_Mo_8 (vp_c 0 5 rfl) dX9_does_103 ?_
    refine lv_aload_n hx hb dX9_does_104 rfl (lv_at hl 0 rfl) ?_
    refine bk_getR X hB kl_X9 0 lc_Mo_0 12 (by decide) rfl wm_1875 dX9_does_105 ?_
    refine lv_iconst (v := 1) hx hb dX9_does_108 (by decide) ?_
    refine bk_ald X hB 8 lc_Mo_8 (vp_c 1 5 rfl) dX9_does_109 ?_
    obtain ⟨r16, w15, hc14, hf⟩ := bnd_some hf
    refine bk_all hB (fun h1 h2 h3 => bk_runV X (Av := [.int (v (7160 + (0 : Int32).toNatClampNeg)), .int (v (7160 + (1 : Int32).toNatClampNeg))]) (rest := []) (mX9_doRate hc14) yv_X9_doRate wm_1810 ⟨Nat.le_of_ble_eq_true rfl, Nat.le_of_ble_eq_true rfl⟩ rfl rfl hl.1 kl_X9.1 (hB.1.obj lc_Mo_0) h1 h2 h3 (Nat.le_of_ble_eq_true rfl) ⟨Nat.le_of_ble_eq_true rfl, Nat.le_of_ble_eq_true rfl⟩ dX9_does_110) (fun H locs hB => ?_)
    refine W.eq (g2 := F0 m 113 ls [.int r16]) rfl ?_
    exact bk_iW X hr rfl hf hB (Nat.le_of_ble_eq_true rfl) (Nat.le_of_ble_eq_true rfl) dX9_does_113
  have hf := (if_neg c13).symm.trans hf
  by_cases c17 : p1 = 4
  · have hf := (if_pos c17).symm.trans hf
    refine lv_tableIn (tgt := 114) hx hb dX9_does_1 (by rw [c17]; decide) (by rw [c17]; decide) (by rw [c17]; rfl) (by decide) ?_
    refine lv_aload_n hx hb dX9_does_114 rfl (lv_at hl 0 rfl) ?_
    refine lv_aload_n hx hb dX9_does_115 rfl (lv_at hl 0 rfl) ?_
    refine bk_getR X hB kl_X9 0 lc_Mo_0 12 (by decide) rfl wm_1875 dX9_does_116 ?_
    refine lv_iconst (v := 0) hx hb dX9_does_119 (by decide) ?_
    refine bk_ald X hB 8 lc_Mo_8 (vp_c 0 5 rfl) dX9_does_120 ?_
    refine lv_aload_n hx hb dX9_does_121 rfl (lv_at hl 0 rfl) ?_
    refine bk_getR X hB kl_X9 0 lc_Mo_0 12 (by decide) rfl wm_1875 dX9_does_122 ?_
    refine lv_iconst (v := 1) hx hb dX9_does_125 (by decide) ?_
    refine bk_ald X hB 8 lc_Mo_8 (vp_c 1 5 rfl) dX9_does_126 ?_
    refine lv_aload_n hx hb dX9_does_127 rfl (lv_at hl 0 rfl) ?_
    refine bk_getR X hB kl_X9 0 lc_Mo_0 12 (by decide) rfl wm_1875 dX9_does_128 ?_
    refine lv_iconst (v := 2) hx hb dX9_does_131 (by decide) ?_
    refine bk_ald X hB 8 lc_Mo_8 (vp_c 2 5 rfl) dX9_does_132 ?_
    refine lv_aload_n hx hb dX9_does_133 rfl (lv_at hl 0 rfl) ?_
    refine bk_getR X hB kl_X9 0 lc_Mo_0 12 (by decide) rfl wm_1875 dX9_does_134 ?_
    refine lv_iconst (v := 3) hx hb dX9_does_137 (by decide) ?_
    refine bk_ald X hB 8 lc_Mo_8 (vp_c 3 5 rfl) dX9_does_138 ?_
    refine lv_aload_n hx hb dX9_does_139 rfl (lv_at hl 0 rfl) ?_
    refine bk_getR X hB kl_X9 0 lc_Mo_0 12 (by decide) rfl wm_1875 dX9_does_140 ?_
    refine lv_iconst (v := 4) hx hb dX9_does_143 (by decide) ?_
    refine bk_ald X hB 8 lc_Mo_8 (vp_c 4 5 rfl) dX9_does_144 ?_
    obtain ⟨r20, w19, hc18, hf⟩ := bnd_some hf
    refine bk_all hB (fun h1 h2 h3 => bk_runV X (Av := [.int (v (7160 + (0 : Int32).toNatClampNeg)), .int (v (7160 + (1 : Int32).toNatClampNeg)), .int (v (7160 + (2 : Int32).toNatClampNeg)), .int (v (7160 + (3 : Int32).toNatClampNeg)), .int (v (7160 + (4 : Int32).toNatClampNeg))]) (rest := []) (mX9_doBake hc18) yv_X9_doBake wm_1814 ⟨Nat.le_of_ble_eq_true rfl, Nat.le_of_ble_eq_true rfl⟩ rfl rfl hl.1 kl_X9.1 (hB.1.obj lc_Mo_0) h1 h2 h3 (Nat.le_of_ble_eq_true rfl) ⟨Nat.le_of_ble_eq_true rfl, Nat.le_of_ble_eq_true rfl⟩ dX9_does_145) (fun H locs hB => ?_)
    refine W.eq (g2 := F0 m 148 ls [.int r20]) rfl ?_
    exact bk_iW X hr rfl hf hB (Nat.le_of_ble_eq_true rfl) (Nat.le_of_ble_eq_true rfl) dX9_does_148
  have hf := (if_neg c17).symm.trans hf
  by_cases c21 : p1 = 5
  · have hf := (if_pos c21).symm.trans hf
    refine lv_tableIn (tgt := 149) hx hb dX9_does_1 (by rw [c21]; decide) (by rw [c21]; decide) (by rw [c21]; rfl) (by decide) ?_
    refine lv_aload_n hx hb dX9_does_149 rfl (lv_at hl 0 rfl) ?_
    refine lv_aload_n hx hb dX9_does_150 rfl (lv_at hl 0 rfl) ?_
    refine bk_getR X hB kl_X9 0 lc_Mo_0 12 (by decide) rfl wm_1875 dX9_does_151 ?_
    refine lv_iconst (v := 0) hx hb dX9_does_154 (by decide) ?_
    refine bk_ald X hB 8 lc_Mo_8 (vp_c 0 5 rfl) dX9_does_155 ?_
    refine lv_aload_n hx hb dX9_does_156 rfl (lv_at hl 0 rfl) ?_
    refine bk_getR X hB kl_X9 0 lc_Mo_0 12 (by decide) rfl wm_1875 dX9_does_157 ?_
    refine lv_iconst (v := 1) hx hb dX9_does_160 (by decide) ?_
    refine bk_ald X hB 8 lc_Mo_8 (vp_c 1 5 rfl) dX9_does_161 ?_
    refine lv_aload_n hx hb dX9_does_162 rfl (lv_at hl 0 rfl) ?_
    refine bk_getR X hB kl_X9 0 lc_Mo_0 12 (by decide) rfl wm_1875 dX9_does_163 ?_
    refine lv_iconst (v := 2) hx hb dX9_does_166 (by decide) ?_
    refine bk_ald X hB 8 lc_Mo_8 (vp_c 2 5 rfl) dX9_does_167 ?_
    obtain ⟨r24, w23, hc22, hf⟩ := bnd_some hf
    refine bk_all hB (fun h1 h2 h3 => bk_runV X (Av := [.int (v (7160 + (0 : Int32).toNatClampNeg)), .int (v (7160 + (1 : Int32).toNatClampNeg)), .int (v (7160 + (2 : Int32).toNatClampNeg))]) (rest := []) (mX9_doSell hc22) yv_X9_doSell wm_1851 ⟨Nat.le_of_ble_eq_true rfl, Nat.le_of_ble_eq_true rfl⟩ rfl rfl hl.1 kl_X9.1 (hB.1.obj lc_Mo_0) h1 h2 h3 (Nat.le_of_ble_eq_true rfl) ⟨Nat.le_of_ble_eq_true rfl, Nat.le_of_ble_eq_true rfl⟩ dX9_does_168) (fun H locs hB => ?_)
    refine W.eq (g2 := F0 m 171 ls [.int r24]) rfl ?_
    exact bk_iW X hr rfl hf hB (Nat.le_of_ble_eq_true rfl) (Nat.le_of_ble_eq_true rfl) dX9_does_171
  have hf := (if_neg c21).symm.trans hf
  refine lv_tableOut (tgt := 172) hx hb dX9_does_1 (sw_out p1 (by decide) [0, 1, 2, 3, 4, 5] (by decide) (by simp only [List.forall_mem_cons]; exact ⟨c1, c5, c9, c13, c17, c21, fun _ h => absurd h List.not_mem_nil⟩)) (by decide) ?_
  refine lv_aload_n hx hb dX9_does_172 rfl (lv_at hl 0 rfl) ?_
  refine lv_aload_n hx hb dX9_does_173 rfl (lv_at hl 0 rfl) ?_
  refine bk_getR X hB kl_X9 0 lc_Mo_0 12 (by decide) rfl wm_1875 dX9_does_174 ?_
  refine lv_iconst (v := 0) hx hb dX9_does_177 (by decide) ?_
  refine bk_ald X hB 8 lc_Mo_8 (vp_c 0 5 rfl) dX9_does_178 ?_
  obtain ⟨r27, w26, hc25, hf⟩ := bnd_some hf
  refine bk_all hB (fun h1 h2 h3 => bk_runV X (Av := [.int (v (7160 + (0 : Int32).toNatClampNeg))]) (rest := []) (mX9_doWait hc25) yv_X9_doWait wm_1855 ⟨Nat.le_of_ble_eq_true rfl, Nat.le_of_ble_eq_true rfl⟩ rfl rfl hl.1 kl_X9.1 (hB.1.obj lc_Mo_0) h1 h2 h3 (Nat.le_of_ble_eq_true rfl) ⟨Nat.le_of_ble_eq_true rfl, Nat.le_of_ble_eq_true rfl⟩ dX9_does_179) (fun H locs hB => ?_)
  refine W.eq (g2 := F0 m 182 ls [.int r27]) rfl ?_
  exact bk_iW X hr rfl hf hB (Nat.le_of_ble_eq_true rfl) (Nat.le_of_ble_eq_true rfl) dX9_does_182
theorem yv_X9_does : bYv yX9_does RX9 cX9_does 2 (some .int) 1 := ⟨⟨rfl, by decide, by decide, rfl⟩, wm_1792, wp_56, wm_17, wm_1793⟩

theorem dX9_startTrial_0 : decode cX9_startTrial 0 = .ok (.iconst 0, 1) := by decide +kernel
theorem dX9_startTrial_1 : decode cX9_startTrial 1 = .ok (.istore_n 1, 1) := by decide +kernel
theorem dX9_startTrial_2 : decode cX9_startTrial 2 = .ok (.iload_n 1, 1) := by decide +kernel
theorem dX9_startTrial_3 : decode cX9_startTrial 3 = .ok (.sipush 496, 3) := by decide +kernel
theorem dX9_startTrial_6 : decode cX9_startTrial 6 = .ok (.if_icmp .ge 21, 3) := by decide +kernel
theorem dX9_startTrial_9 : decode cX9_startTrial 9 = .ok (.aload_n 0, 1) := by decide +kernel
theorem dX9_startTrial_10 : decode cX9_startTrial 10 = .ok (.getfield 23, 3) := by decide +kernel
theorem dX9_startTrial_13 : decode cX9_startTrial 13 = .ok (.iload_n 1, 1) := by decide +kernel
theorem dX9_startTrial_14 : decode cX9_startTrial 14 = .ok (.aload_n 0, 1) := by decide +kernel
theorem dX9_startTrial_15 : decode cX9_startTrial 15 = .ok (.getfield 17, 3) := by decide +kernel
theorem dX9_startTrial_18 : decode cX9_startTrial 18 = .ok (.iload_n 1, 1) := by decide +kernel
theorem dX9_startTrial_19 : decode cX9_startTrial 19 = .ok (.iaload, 1) := by decide +kernel
theorem dX9_startTrial_20 : decode cX9_startTrial 20 = .ok (.iastore, 1) := by decide +kernel
theorem dX9_startTrial_21 : decode cX9_startTrial 21 = .ok (.iinc 1 1, 3) := by decide +kernel
theorem dX9_startTrial_24 : decode cX9_startTrial 24 = .ok (.goto (-22), 3) := by decide +kernel
theorem dX9_startTrial_27 : decode cX9_startTrial 27 = .ok (.return_, 1) := by decide +kernel
def fX9_startTrial_L2  (k2 : Int32 → bM → Option bM) (y1 : Int32) (v2 : bM) : Option bM :=
  (if 496 ≤ y1 then (some v2) else (ck y1 496 <| nm (v2 (710 + y1.toNatClampNeg)) fun x5 => ck y1 496 <| nm (upd v2 (1702 + y1.toNatClampNeg) x5) fun v7 => nm (y1 + 1) fun x8 => k2 x8 v7))
def fX9_startTrial  (v : bM) : Option bM :=
  lp (fX9_startTrial_L2) (fun _ _ => none) lpN 0 v
set_option maxRecDepth 100000 in
set_option maxHeartbeats 4000000 in
theorem mX9_startTrial {l : Launch}  {v : bM} {w0 : bM} (hf : fX9_startTrial  v = some w0) : bMet l yX9_startTrial cX9_startTrial 2 none 0 0 0 LMo (fun E a => [.ref a]) v w0 (fun _ => none) := by
  refine bk_start (by decide +kernel) wfMo (fun _ _ => Nat.le_of_ble_eq_true rfl) ?_
  intro p e s m args below meth c D E a ls H locs X hr hl hB
  have hx := X.1
  have hb := X.2.1
  have hown := X.2.2.2.1
  have hts := X.2.2.2.2.1
  have hl : lv_has ls 2 [(0, .ref a)] := hl
  have hf := (fX9_startTrial.eq_1  v).symm.trans hf
  refine lv_iconst (v := 0) hx hb dX9_startTrial_0 (by decide) ?_
  refine lv_istore_n (lv' := [(1, .int 0), (0, .ref a)]) hx hb dX9_startTrial_1 rfl hl (by decide) rfl (fun ls hl => ?_)
  have hL2 : ∀ (n2 : Nat) (y1 : Int32) (v2 : bM) (H : Heap) (locs : List Loc) (ls : Array Slot), lp (fX9_startTrial_L2) (fun _ _ => none) n2 y1 v2 = some w0 → bB D E LMo a v2 s H locs → lv_has ls 2 [(0, .ref a), (1, .int y1)] → W p l e (rmOf 0 0 0) s m args below meth c H locs 0 0 (bQ below D E LMo a w0 none args s 0 0) (F0 m 2 ls []) := by
    intro n2
    induction n2 with
    | zero => intro y1 v2 H locs ls hf; cases (show (none : Option bM) = some w0 from hf)
    | succ n2 ih2 =>
      intro y1 v2 H locs ls hf hB hl
      have hf := (fX9_startTrial_L2.eq_1  (lp (fX9_startTrial_L2) (fun _ _ => none) n2) y1 v2).symm.trans (show fX9_startTrial_L2 (lp (fX9_startTrial_L2) (fun _ _ => none) n2) y1 v2 = some w0 from hf)
      refine lv_iload_n hx hb dX9_startTrial_2 rfl (lv_at hl 1 rfl) ?_
      refine lv_sipush (v := 496) hx hb dX9_startTrial_3 (by decide) ?_
      refine lv_icmp_ge (tgt := 27) hx hb dX9_startTrial_6 (by decide) (fun c3 => ?_) (fun c3 => ?_)
      · have hf := (if_pos c3).symm.trans hf
        exact bk_vW X hr rfl hf hB (Nat.le_of_ble_eq_true rfl) (Nat.le_of_ble_eq_true rfl) dX9_startTrial_27
      · have hf := (if_neg c3).symm.trans hf
        refine lv_aload_n hx hb dX9_startTrial_9 rfl (lv_at hl 0 rfl) ?_
        refine bk_getR X hB kl_X9 0 lc_Mo_0 7 (by decide) rfl wm_1870 dX9_startTrial_10 ?_
        refine lv_iload_n hx hb dX9_startTrial_13 rfl (lv_at hl 1 rfl) ?_
        refine lv_aload_n hx hb dX9_startTrial_14 rfl (lv_at hl 0 rfl) ?_
        refine bk_getR X hB kl_X9 0 lc_Mo_0 5 (by decide) rfl wm_1868 dX9_startTrial_15 ?_
        refine lv_iload_n hx hb dX9_startTrial_18 rfl (lv_at hl 1 rfl) ?_
        obtain ⟨h4, hf⟩ := ck_some hf
        refine bk_ald X hB 2 lc_Mo_2 h4 dX9_startTrial_19 ?_
        refine lv_topi (fun x5 ex5 => ?_)
        have hf := nm_use hf ex5
        obtain ⟨h6, hf⟩ := ck_some hf
        refine bk_ast X hB 4 lc_Mo_4 h6 dX9_startTrial_20 (fun H locs hB => ?_)
        obtain ⟨v7, ev7⟩ : ∃ y : bM, y = upd v2 (1702 + y1.toNatClampNeg) x5 := ⟨_, rfl⟩
        have hf := nm_use hf ev7
        rw [← ev7] at hB
        obtain ⟨x8, ex8⟩ : ∃ y : Int32, y = y1 + 1 := ⟨_, rfl⟩
        have hf := nm_use hf ex8
        refine lv_iinc (v := x8) (lv' := [(1, .int x8), (0, .ref a)]) hx hb dX9_startTrial_21 hl (k := 1) rfl (by rw [ex8]; rfl) (by decide) rfl (fun ls hl => ?_)
        refine lv_goto (tgt := 2) hx hb dX9_startTrial_24 (by decide) ?_
        exact ih2 x8 v7 H locs ls hf hB (lv_sub hl [1, 0] rfl)
  exact hL2 lpN 0 v H locs ls hf hB (lv_sub hl [1, 0] rfl)
theorem yv_X9_startTrial : bYv yX9_startTrial RX9 cX9_startTrial 2 none 0 := ⟨⟨rfl, by decide, by decide, rfl⟩, wm_1640, wp_26, wm_17, wm_1641⟩

theorem dX9_putBack_0 : decode cX9_putBack 0 = .ok (.iconst 0, 1) := by decide +kernel
theorem dX9_putBack_1 : decode cX9_putBack 1 = .ok (.istore_n 2, 1) := by decide +kernel
theorem dX9_putBack_2 : decode cX9_putBack 2 = .ok (.iload_n 2, 1) := by decide +kernel
theorem dX9_putBack_3 : decode cX9_putBack 3 = .ok (.sipush 496, 3) := by decide +kernel
theorem dX9_putBack_6 : decode cX9_putBack 6 = .ok (.if_icmp .ge 21, 3) := by decide +kernel
theorem dX9_putBack_9 : decode cX9_putBack 9 = .ok (.aload_n 0, 1) := by decide +kernel
theorem dX9_putBack_10 : decode cX9_putBack 10 = .ok (.getfield 17, 3) := by decide +kernel
theorem dX9_putBack_13 : decode cX9_putBack 13 = .ok (.iload_n 2, 1) := by decide +kernel
theorem dX9_putBack_14 : decode cX9_putBack 14 = .ok (.aload_n 0, 1) := by decide +kernel
theorem dX9_putBack_15 : decode cX9_putBack 15 = .ok (.getfield 23, 3) := by decide +kernel
theorem dX9_putBack_18 : decode cX9_putBack 18 = .ok (.iload_n 2, 1) := by decide +kernel
theorem dX9_putBack_19 : decode cX9_putBack 19 = .ok (.iaload, 1) := by decide +kernel
theorem dX9_putBack_20 : decode cX9_putBack 20 = .ok (.iastore, 1) := by decide +kernel
theorem dX9_putBack_21 : decode cX9_putBack 21 = .ok (.iinc 2 1, 3) := by decide +kernel
theorem dX9_putBack_24 : decode cX9_putBack 24 = .ok (.goto (-22), 3) := by decide +kernel
theorem dX9_putBack_27 : decode cX9_putBack 27 = .ok (.iload_n 1, 1) := by decide +kernel
theorem dX9_putBack_28 : decode cX9_putBack 28 = .ok (.ireturn, 1) := by decide +kernel
def fX9_putBack_L2 (p1 : Int32) (k2 : Int32 → bM → Option (Int32 × bM)) (y1 : Int32) (v2 : bM) : Option (Int32 × bM) :=
  (if 496 ≤ y1 then (some (p1, v2)) else (ck y1 496 <| nm (v2 (1702 + y1.toNatClampNeg)) fun x5 => ck y1 496 <| nm (upd v2 (710 + y1.toNatClampNeg) x5) fun v7 => nm (y1 + 1) fun x8 => k2 x8 v7))
def fX9_putBack (p1 : Int32) (v : bM) : Option (Int32 × bM) :=
  lp (fX9_putBack_L2 p1) (fun _ _ => none) lpN 0 v
set_option maxRecDepth 100000 in
set_option maxHeartbeats 4000000 in
theorem mX9_putBack {l : Launch} {p1 : Int32} {v : bM} {r0 : Int32} {w0 : bM} (hf : fX9_putBack p1 v = some (r0, w0)) : bMet l yX9_putBack cX9_putBack 3 (some .int) 0 0 0 LMo (fun E a => [.ref a, .int p1]) v w0 (fun _ => some (.int r0)) := by
  refine bk_start (by decide +kernel) wfMo (fun _ _ => Nat.le_of_ble_eq_true rfl) ?_
  intro p e s m args below meth c D E a ls H locs X hr hl hB
  have hx := X.1
  have hb := X.2.1
  have hown := X.2.2.2.1
  have hts := X.2.2.2.2.1
  have hl : lv_has ls 3 [(0, .ref a), (1, .int p1)] := hl
  have hf := (fX9_putBack.eq_1 p1 v).symm.trans hf
  refine lv_iconst (v := 0) hx hb dX9_putBack_0 (by decide) ?_
  refine lv_istore_n (lv' := [(2, .int 0), (0, .ref a), (1, .int p1)]) hx hb dX9_putBack_1 rfl hl (by decide) rfl (fun ls hl => ?_)
  have hL2 : ∀ (n2 : Nat) (y1 : Int32) (v2 : bM) (H : Heap) (locs : List Loc) (ls : Array Slot), lp (fX9_putBack_L2 p1) (fun _ _ => none) n2 y1 v2 = some (r0, w0) → bB D E LMo a v2 s H locs → lv_has ls 3 [(0, .ref a), (1, .int p1), (2, .int y1)] → W p l e (rmOf 0 0 0) s m args below meth c H locs 0 0 (bQ below D E LMo a w0 (some (.int r0)) args s 0 0) (F0 m 2 ls []) := by
    intro n2
    induction n2 with
    | zero => intro y1 v2 H locs ls hf; cases (show (none : Option (Int32 × bM)) = some (r0, w0) from hf)
    | succ n2 ih2 =>
      intro y1 v2 H locs ls hf hB hl
      have hf := (fX9_putBack_L2.eq_1 p1 (lp (fX9_putBack_L2 p1) (fun _ _ => none) n2) y1 v2).symm.trans (show fX9_putBack_L2 p1 (lp (fX9_putBack_L2 p1) (fun _ _ => none) n2) y1 v2 = some (r0, w0) from hf)
      refine lv_iload_n hx hb dX9_putBack_2 rfl (lv_at hl 2 rfl) ?_
      refine lv_sipush (v := 496) hx hb dX9_putBack_3 (by decide) ?_
      refine lv_icmp_ge (tgt := 27) hx hb dX9_putBack_6 (by decide) (fun c3 => ?_) (fun c3 => ?_)
      · have hf := (if_pos c3).symm.trans hf
        refine lv_iload_n hx hb dX9_putBack_27 rfl (lv_at hl 1 rfl) ?_
        exact bk_iW X hr rfl hf hB (Nat.le_of_ble_eq_true rfl) (Nat.le_of_ble_eq_true rfl) dX9_putBack_28
      · have hf := (if_neg c3).symm.trans hf
        refine lv_aload_n hx hb dX9_putBack_9 rfl (lv_at hl 0 rfl) ?_
        refine bk_getR X hB kl_X9 0 lc_Mo_0 5 (by decide) rfl wm_1868 dX9_putBack_10 ?_
        refine lv_iload_n hx hb dX9_putBack_13 rfl (lv_at hl 2 rfl) ?_
        refine lv_aload_n hx hb dX9_putBack_14 rfl (lv_at hl 0 rfl) ?_
        refine bk_getR X hB kl_X9 0 lc_Mo_0 7 (by decide) rfl wm_1870 dX9_putBack_15 ?_
        refine lv_iload_n hx hb dX9_putBack_18 rfl (lv_at hl 2 rfl) ?_
        obtain ⟨h4, hf⟩ := ck_some hf
        refine bk_ald X hB 4 lc_Mo_4 h4 dX9_putBack_19 ?_
        refine lv_topi (fun x5 ex5 => ?_)
        have hf := nm_use hf ex5
        obtain ⟨h6, hf⟩ := ck_some hf
        refine bk_ast X hB 2 lc_Mo_2 h6 dX9_putBack_20 (fun H locs hB => ?_)
        obtain ⟨v7, ev7⟩ : ∃ y : bM, y = upd v2 (710 + y1.toNatClampNeg) x5 := ⟨_, rfl⟩
        have hf := nm_use hf ev7
        rw [← ev7] at hB
        obtain ⟨x8, ex8⟩ : ∃ y : Int32, y = y1 + 1 := ⟨_, rfl⟩
        have hf := nm_use hf ex8
        refine lv_iinc (v := x8) (lv' := [(2, .int x8), (0, .ref a), (1, .int p1)]) hx hb dX9_putBack_21 hl (k := 2) rfl (by rw [ex8]; rfl) (by decide) rfl (fun ls hl => ?_)
        refine lv_goto (tgt := 2) hx hb dX9_putBack_24 (by decide) ?_
        exact ih2 x8 v7 H locs ls hf hB (lv_sub hl [1, 2, 0] rfl)
  exact hL2 lpN 0 v H locs ls hf hB (lv_sub hl [1, 2, 0] rfl)
theorem yv_X9_putBack : bYv yX9_putBack RX9 cX9_putBack 3 (some .int) 1 := ⟨⟨rfl, by decide, by decide, rfl⟩, wm_1861, wp_73, wm_17, wm_1862⟩

theorem dX9_pushAside_0 : decode cX9_pushAside 0 = .ok (.aload_n 0, 1) := by decide +kernel
theorem dX9_pushAside_1 : decode cX9_pushAside 1 = .ok (.getfield 288, 3) := by decide +kernel
theorem dX9_pushAside_4 : decode cX9_pushAside 4 = .ok (.bipush 8, 2) := by decide +kernel
theorem dX9_pushAside_6 : decode cX9_pushAside 6 = .ok (.if_icmp .ne 44, 3) := by decide +kernel
theorem dX9_pushAside_9 : decode cX9_pushAside 9 = .ok (.iconst 0, 1) := by decide +kernel
theorem dX9_pushAside_10 : decode cX9_pushAside 10 = .ok (.istore_n 1, 1) := by decide +kernel
theorem dX9_pushAside_11 : decode cX9_pushAside 11 = .ok (.iload_n 1, 1) := by decide +kernel
theorem dX9_pushAside_12 : decode cX9_pushAside 12 = .ok (.sipush 3472, 3) := by decide +kernel
theorem dX9_pushAside_15 : decode cX9_pushAside 15 = .ok (.if_icmp .ge 25, 3) := by decide +kernel
theorem dX9_pushAside_18 : decode cX9_pushAside 18 = .ok (.aload_n 0, 1) := by decide +kernel
theorem dX9_pushAside_19 : decode cX9_pushAside 19 = .ok (.getfield 26, 3) := by decide +kernel
theorem dX9_pushAside_22 : decode cX9_pushAside 22 = .ok (.iload_n 1, 1) := by decide +kernel
theorem dX9_pushAside_23 : decode cX9_pushAside 23 = .ok (.aload_n 0, 1) := by decide +kernel
theorem dX9_pushAside_24 : decode cX9_pushAside 24 = .ok (.getfield 26, 3) := by decide +kernel
theorem dX9_pushAside_27 : decode cX9_pushAside 27 = .ok (.iload_n 1, 1) := by decide +kernel
theorem dX9_pushAside_28 : decode cX9_pushAside 28 = .ok (.sipush 496, 3) := by decide +kernel
theorem dX9_pushAside_31 : decode cX9_pushAside 31 = .ok (.iadd, 1) := by decide +kernel
theorem dX9_pushAside_32 : decode cX9_pushAside 32 = .ok (.iaload, 1) := by decide +kernel
theorem dX9_pushAside_33 : decode cX9_pushAside 33 = .ok (.iastore, 1) := by decide +kernel
theorem dX9_pushAside_34 : decode cX9_pushAside 34 = .ok (.iinc 1 1, 3) := by decide +kernel
theorem dX9_pushAside_37 : decode cX9_pushAside 37 = .ok (.goto (-26), 3) := by decide +kernel
theorem dX9_pushAside_40 : decode cX9_pushAside 40 = .ok (.aload_n 0, 1) := by decide +kernel
theorem dX9_pushAside_41 : decode cX9_pushAside 41 = .ok (.dup, 1) := by decide +kernel
theorem dX9_pushAside_42 : decode cX9_pushAside 42 = .ok (.getfield 288, 3) := by decide +kernel
theorem dX9_pushAside_45 : decode cX9_pushAside 45 = .ok (.iconst 1, 1) := by decide +kernel
theorem dX9_pushAside_46 : decode cX9_pushAside 46 = .ok (.isub, 1) := by decide +kernel
theorem dX9_pushAside_47 : decode cX9_pushAside 47 = .ok (.putfield 288, 3) := by decide +kernel
theorem dX9_pushAside_50 : decode cX9_pushAside 50 = .ok (.iconst 0, 1) := by decide +kernel
theorem dX9_pushAside_51 : decode cX9_pushAside 51 = .ok (.istore_n 1, 1) := by decide +kernel
theorem dX9_pushAside_52 : decode cX9_pushAside 52 = .ok (.iload_n 1, 1) := by decide +kernel
theorem dX9_pushAside_53 : decode cX9_pushAside 53 = .ok (.sipush 496, 3) := by decide +kernel
theorem dX9_pushAside_56 : decode cX9_pushAside 56 = .ok (.if_icmp .ge 30, 3) := by decide +kernel
theorem dX9_pushAside_59 : decode cX9_pushAside 59 = .ok (.aload_n 0, 1) := by decide +kernel
theorem dX9_pushAside_60 : decode cX9_pushAside 60 = .ok (.getfield 26, 3) := by decide +kernel
theorem dX9_pushAside_63 : decode cX9_pushAside 63 = .ok (.sipush 496, 3) := by decide +kernel
theorem dX9_pushAside_66 : decode cX9_pushAside 66 = .ok (.aload_n 0, 1) := by decide +kernel
theorem dX9_pushAside_67 : decode cX9_pushAside 67 = .ok (.getfield 288, 3) := by decide +kernel
theorem dX9_pushAside_70 : decode cX9_pushAside 70 = .ok (.imul, 1) := by decide +kernel
theorem dX9_pushAside_71 : decode cX9_pushAside 71 = .ok (.iload_n 1, 1) := by decide +kernel
theorem dX9_pushAside_72 : decode cX9_pushAside 72 = .ok (.iadd, 1) := by decide +kernel
theorem dX9_pushAside_73 : decode cX9_pushAside 73 = .ok (.aload_n 0, 1) := by decide +kernel
theorem dX9_pushAside_74 : decode cX9_pushAside 74 = .ok (.getfield 20, 3) := by decide +kernel
theorem dX9_pushAside_77 : decode cX9_pushAside 77 = .ok (.iload_n 1, 1) := by decide +kernel
theorem dX9_pushAside_78 : decode cX9_pushAside 78 = .ok (.iaload, 1) := by decide +kernel
theorem dX9_pushAside_79 : decode cX9_pushAside 79 = .ok (.iastore, 1) := by decide +kernel
theorem dX9_pushAside_80 : decode cX9_pushAside 80 = .ok (.iinc 1 1, 3) := by decide +kernel
theorem dX9_pushAside_83 : decode cX9_pushAside 83 = .ok (.goto (-31), 3) := by decide +kernel
theorem dX9_pushAside_86 : decode cX9_pushAside 86 = .ok (.aload_n 0, 1) := by decide +kernel
theorem dX9_pushAside_87 : decode cX9_pushAside 87 = .ok (.dup, 1) := by decide +kernel
theorem dX9_pushAside_88 : decode cX9_pushAside 88 = .ok (.getfield 288, 3) := by decide +kernel
theorem dX9_pushAside_91 : decode cX9_pushAside 91 = .ok (.iconst 1, 1) := by decide +kernel
theorem dX9_pushAside_92 : decode cX9_pushAside 92 = .ok (.iadd, 1) := by decide +kernel
theorem dX9_pushAside_93 : decode cX9_pushAside 93 = .ok (.putfield 288, 3) := by decide +kernel
theorem dX9_pushAside_96 : decode cX9_pushAside 96 = .ok (.return_, 1) := by decide +kernel
def fX9_pushAside_L52  (k52 : Int32 → bM → Option bM) (y2 : Int32) (v3 : bM) : Option bM :=
  (if 496 ≤ y2 then (nm ((v3 4) + 1) fun x5 => nm (upd v3 4 x5) fun v6 => some v6) else (ck y2 496 <| nm (v3 (1206 + y2.toNatClampNeg)) fun x8 => ck ((496 * (v3 4)) + y2) 3968 <| nm (upd v3 (2198 + ((496 * (v3 4)) + y2).toNatClampNeg) x8) fun v10 => nm (y2 + 1) fun x11 => k52 x11 v10))
def fX9_pushAside_J50   (v1 : bM) : Option bM :=
  lp (fX9_pushAside_L52) (fun _ _ => none) lpN 0 v1
def fX9_pushAside_L11  (k11 : Int32 → bM → Option bM) (y13 : Int32) (v14 : bM) : Option bM :=
  (if 3472 ≤ y13 then (nm ((v14 4) - 1) fun x16 => nm (upd v14 4 x16) fun v17 => fX9_pushAside_J50 v17) else (ck (y13 + 496) 3968 <| nm (v14 (2198 + (y13 + 496).toNatClampNeg)) fun x19 => ck y13 3968 <| nm (upd v14 (2198 + y13.toNatClampNeg) x19) fun v21 => nm (y13 + 1) fun x22 => k11 x22 v21))
def fX9_pushAside  (v : bM) : Option bM :=
  (if (v 4) = 8 then (lp (fX9_pushAside_L11) (fun _ _ => none) lpN 0 v) else (fX9_pushAside_J50 v))
set_option maxRecDepth 100000 in
set_option maxHeartbeats 4000000 in
theorem mX9_pushAside {l : Launch}  {v : bM} {w0 : bM} (hf : fX9_pushAside  v = some w0) : bMet l yX9_pushAside cX9_pushAside 2 none 0 0 0 LMo (fun E a => [.ref a]) v w0 (fun _ => none) := by
  refine bk_start (by decide +kernel) wfMo (fun _ _ => Nat.le_of_ble_eq_true rfl) ?_
  intro p e s m args below meth c D E a ls H locs X hr hl hB
  have hx := X.1
  have hb := X.2.1
  have hown := X.2.2.2.1
  have hts := X.2.2.2.2.1
  have hl : lv_has ls 2 [(0, .ref a)] := hl
  have hf := (fX9_pushAside.eq_1  v).symm.trans hf
  refine lv_aload_n hx hb dX9_pushAside_0 rfl (lv_at hl 0 rfl) ?_
  refine bk_getI X hB kl_X9 0 lc_Mo_0 9 (by decide) rfl wm_1872 dX9_pushAside_1 ?_
  refine lv_bipush (v := 8) hx hb dX9_pushAside_4 (by decide) ?_
  have hJ50 : ∀ (v1 : bM) (H : Heap) (locs : List Loc) (ls : Array Slot), fX9_pushAside_J50 v1 = some w0 → bB D E LMo a v1 s H locs → lv_has ls 2 [(0, .ref a)] → W p l e (rmOf 0 0 0) s m args below meth c H locs 0 0 (bQ below D E LMo a w0 none args s 0 0) (F0 m 50 ls []) := by
    intro v1 H locs ls hf hB hl
    have hf := (fX9_pushAside_J50.eq_1  v1).symm.trans hf
    refine lv_iconst (v := 0) hx hb dX9_pushAside_50 (by decide) ?_
    refine lv_istore_n (lv' := [(1, .int 0), (0, .ref a)]) hx hb dX9_pushAside_51 rfl hl (by decide) rfl (fun ls hl => ?_)
    have hL52 : ∀ (n52 : Nat) (y2 : Int32) (v3 : bM) (H : Heap) (locs : List Loc) (ls : Array Slot), lp (fX9_pushAside_L52) (fun _ _ => none) n52 y2 v3 = some w0 → bB D E LMo a v3 s H locs → lv_has ls 2 [(0, .ref a), (1, .int y2)] → W p l e (rmOf 0 0 0) s m args below meth c H locs 0 0 (bQ below D E LMo a w0 none args s 0 0) (F0 m 52 ls []) := by
      intro n52
      induction n52 with
      | zero => intro y2 v3 H locs ls hf; cases (show (none : Option bM) = some w0 from hf)
      | succ n52 ih52 =>
        intro y2 v3 H locs ls hf hB hl
        have hf := (fX9_pushAside_L52.eq_1  (lp (fX9_pushAside_L52) (fun _ _ => none) n52) y2 v3).symm.trans (show fX9_pushAside_L52 (lp (fX9_pushAside_L52) (fun _ _ => none) n52) y2 v3 = some w0 from hf)
        refine lv_iload_n hx hb dX9_pushAside_52 rfl (lv_at hl 1 rfl) ?_
        refine lv_sipush (v := 496) hx hb dX9_pushAside_53 (by decide) ?_
        refine lv_icmp_ge (tgt := 86) hx hb dX9_pushAside_56 (by decide) (fun c4 => ?_) (fun c4 => ?_)
        · have hf := (if_pos c4).symm.trans hf
          refine lv_aload_n hx hb dX9_pushAside_86 rfl (lv_at hl 0 rfl) ?_
          refine lv_dup hx hb dX9_pushAside_87 rfl ?_
          refine bk_getI X hB kl_X9 0 lc_Mo_0 9 (by decide) rfl wm_1872 dX9_pushAside_88 ?_
          refine lv_iconst (v := 1) hx hb dX9_pushAside_91 (by decide) ?_
          refine lv_iadd hx hb dX9_pushAside_92 ?_
          refine lv_topi (fun x5 ex5 => ?_)
          have hf := nm_use hf ex5
          refine bk_putI X hB kl_X9 0 lc_Mo_0 9 (by decide) rfl rfl rfl wm_1872 dX9_pushAside_93 rfl (fun H locs hB => ?_)
          obtain ⟨v6, ev6⟩ : ∃ y : bM, y = upd v3 4 x5 := ⟨_, rfl⟩
          have hf := nm_use hf ev6
          rw [← ev6] at hB
          exact bk_vW X hr rfl hf hB (Nat.le_of_ble_eq_true rfl) (Nat.le_of_ble_eq_true rfl) dX9_pushAside_96
        · have hf := (if_neg c4).symm.trans hf
          refine lv_aload_n hx hb dX9_pushAside_59 rfl (lv_at hl 0 rfl) ?_
          refine bk_getR X hB kl_X9 0 lc_Mo_0 8 (by decide) rfl wm_1871 dX9_pushAside_60 ?_
          refine lv_sipush (v := 496) hx hb dX9_pushAside_63 (by decide) ?_
          refine lv_aload_n hx hb dX9_pushAside_66 rfl (lv_at hl 0 rfl) ?_
          refine bk_getI X hB kl_X9 0 lc_Mo_0 9 (by decide) rfl wm_1872 dX9_pushAside_67 ?_
          refine lv_imul hx hb dX9_pushAside_70 ?_
          refine lv_iload_n hx hb dX9_pushAside_71 rfl (lv_at hl 1 rfl) ?_
          refine lv_iadd hx hb dX9_pushAside_72 ?_
          refine lv_aload_n hx hb dX9_pushAside_73 rfl (lv_at hl 0 rfl) ?_
          refine bk_getR X hB kl_X9 0 lc_Mo_0 6 (by decide) rfl wm_1869 dX9_pushAside_74 ?_
          refine lv_iload_n hx hb dX9_pushAside_77 rfl (lv_at hl 1 rfl) ?_
          obtain ⟨h7, hf⟩ := ck_some hf
          refine bk_ald X hB 3 lc_Mo_3 h7 dX9_pushAside_78 ?_
          refine lv_topi (fun x8 ex8 => ?_)
          have hf := nm_use hf ex8
          obtain ⟨h9, hf⟩ := ck_some hf
          refine bk_ast X hB 5 lc_Mo_5 h9 dX9_pushAside_79 (fun H locs hB => ?_)
          obtain ⟨v10, ev10⟩ : ∃ y : bM, y = upd v3 (2198 + ((496 * (v3 4)) + y2).toNatClampNeg) x8 := ⟨_, rfl⟩
          have hf := nm_use hf ev10
          rw [← ev10] at hB
          obtain ⟨x11, ex11⟩ : ∃ y : Int32, y = y2 + 1 := ⟨_, rfl⟩
          have hf := nm_use hf ex11
          refine lv_iinc (v := x11) (lv' := [(1, .int x11), (0, .ref a)]) hx hb dX9_pushAside_80 hl (k := 1) rfl (by rw [ex11]; rfl) (by decide) rfl (fun ls hl => ?_)
          refine lv_goto (tgt := 52) hx hb dX9_pushAside_83 (by decide) ?_
          exact ih52 x11 v10 H locs ls hf hB (lv_sub hl [1, 0] rfl)
    exact hL52 lpN 0 v1 H locs ls hf hB (lv_sub hl [1, 0] rfl)
  refine lv_icmp_ne (tgt := 50) hx hb dX9_pushAside_6 (by decide) (fun c12 => ?_) (fun c12 => ?_)
  · have hf := (if_neg c12).symm.trans hf
    exact hJ50 v H locs ls hf hB (lv_sub hl [0] rfl)
  · have hf := (if_pos c12).symm.trans hf
    refine lv_iconst (v := 0) hx hb dX9_pushAside_9 (by decide) ?_
    refine lv_istore_n (lv' := [(1, .int 0), (0, .ref a)]) hx hb dX9_pushAside_10 rfl hl (by decide) rfl (fun ls hl => ?_)
    have hL11 : ∀ (n11 : Nat) (y13 : Int32) (v14 : bM) (H : Heap) (locs : List Loc) (ls : Array Slot), lp (fX9_pushAside_L11) (fun _ _ => none) n11 y13 v14 = some w0 → bB D E LMo a v14 s H locs → lv_has ls 2 [(0, .ref a), (1, .int y13)] → W p l e (rmOf 0 0 0) s m args below meth c H locs 0 0 (bQ below D E LMo a w0 none args s 0 0) (F0 m 11 ls []) := by
      intro n11
      induction n11 with
      | zero => intro y13 v14 H locs ls hf; cases (show (none : Option bM) = some w0 from hf)
      | succ n11 ih11 =>
        intro y13 v14 H locs ls hf hB hl
        have hf := (fX9_pushAside_L11.eq_1  (lp (fX9_pushAside_L11) (fun _ _ => none) n11) y13 v14).symm.trans (show fX9_pushAside_L11 (lp (fX9_pushAside_L11) (fun _ _ => none) n11) y13 v14 = some w0 from hf)
        refine lv_iload_n hx hb dX9_pushAside_11 rfl (lv_at hl 1 rfl) ?_
        refine lv_sipush (v := 3472) hx hb dX9_pushAside_12 (by decide) ?_
        refine lv_icmp_ge (tgt := 40) hx hb dX9_pushAside_15 (by decide) (fun c15 => ?_) (fun c15 => ?_)
        · have hf := (if_pos c15).symm.trans hf
          refine lv_aload_n hx hb dX9_pushAside_40 rfl (lv_at hl 0 rfl) ?_
          refine lv_dup hx hb dX9_pushAside_41 rfl ?_
          refine bk_getI X hB kl_X9 0 lc_Mo_0 9 (by decide) rfl wm_1872 dX9_pushAside_42 ?_
          refine lv_iconst (v := 1) hx hb dX9_pushAside_45 (by decide) ?_
          refine lv_isub hx hb dX9_pushAside_46 ?_
          refine lv_topi (fun x16 ex16 => ?_)
          have hf := nm_use hf ex16
          refine bk_putI X hB kl_X9 0 lc_Mo_0 9 (by decide) rfl rfl rfl wm_1872 dX9_pushAside_47 rfl (fun H locs hB => ?_)
          obtain ⟨v17, ev17⟩ : ∃ y : bM, y = upd v14 4 x16 := ⟨_, rfl⟩
          have hf := nm_use hf ev17
          rw [← ev17] at hB
          exact hJ50 v17 H locs ls hf hB (lv_sub hl [0] rfl)
        · have hf := (if_neg c15).symm.trans hf
          refine lv_aload_n hx hb dX9_pushAside_18 rfl (lv_at hl 0 rfl) ?_
          refine bk_getR X hB kl_X9 0 lc_Mo_0 8 (by decide) rfl wm_1871 dX9_pushAside_19 ?_
          refine lv_iload_n hx hb dX9_pushAside_22 rfl (lv_at hl 1 rfl) ?_
          refine lv_aload_n hx hb dX9_pushAside_23 rfl (lv_at hl 0 rfl) ?_
          refine bk_getR X hB kl_X9 0 lc_Mo_0 8 (by decide) rfl wm_1871 dX9_pushAside_24 ?_
          refine lv_iload_n hx hb dX9_pushAside_27 rfl (lv_at hl 1 rfl) ?_
          refine lv_sipush (v := 496) hx hb dX9_pushAside_28 (by decide) ?_
          refine lv_iadd hx hb dX9_pushAside_31 ?_
          obtain ⟨h18, hf⟩ := ck_some hf
          refine bk_ald X hB 5 lc_Mo_5 h18 dX9_pushAside_32 ?_
          refine lv_topi (fun x19 ex19 => ?_)
          have hf := nm_use hf ex19
          obtain ⟨h20, hf⟩ := ck_some hf
          refine bk_ast X hB 5 lc_Mo_5 h20 dX9_pushAside_33 (fun H locs hB => ?_)
          obtain ⟨v21, ev21⟩ : ∃ y : bM, y = upd v14 (2198 + y13.toNatClampNeg) x19 := ⟨_, rfl⟩
          have hf := nm_use hf ev21
          rw [← ev21] at hB
          obtain ⟨x22, ex22⟩ : ∃ y : Int32, y = y13 + 1 := ⟨_, rfl⟩
          have hf := nm_use hf ex22
          refine lv_iinc (v := x22) (lv' := [(1, .int x22), (0, .ref a)]) hx hb dX9_pushAside_34 hl (k := 1) rfl (by rw [ex22]; rfl) (by decide) rfl (fun ls hl => ?_)
          refine lv_goto (tgt := 11) hx hb dX9_pushAside_37 (by decide) ?_
          exact ih11 x22 v21 H locs ls hf hB (lv_sub hl [1, 0] rfl)
    exact hL11 lpN 0 v H locs ls hf hB (lv_sub hl [1, 0] rfl)
theorem yv_X9_pushAside : bYv yX9_pushAside RX9 cX9_pushAside 2 none 0 := ⟨⟨rfl, by decide, by decide, rfl⟩, wm_1939, wp_74, wm_17, wm_1940⟩

theorem dX9_plain_0 : decode cX9_plain 0 = .ok (.aload_n 0, 1) := by decide +kernel
theorem dX9_plain_1 : decode cX9_plain 1 = .ok (.iconst 0, 1) := by decide +kernel
theorem dX9_plain_2 : decode cX9_plain 2 = .ok (.putfield 60, 3) := by decide +kernel
theorem dX9_plain_5 : decode cX9_plain 5 = .ok (.iload_n 1, 1) := by decide +kernel
theorem dX9_plain_6 : decode cX9_plain 6 = .ok (.ireturn, 1) := by decide +kernel
def fX9_plain (p1 : Int32) (v : bM) : Option (Int32 × bM) :=
  nm (upd v 3 0) fun v1 => some (p1, v1)
set_option maxRecDepth 100000 in
set_option maxHeartbeats 4000000 in
theorem mX9_plain {l : Launch} {p1 : Int32} {v : bM} {r0 : Int32} {w0 : bM} (hf : fX9_plain p1 v = some (r0, w0)) : bMet l yX9_plain cX9_plain 2 (some .int) 0 0 0 LMo (fun E a => [.ref a, .int p1]) v w0 (fun _ => some (.int r0)) := by
  refine bk_start (by decide +kernel) wfMo (fun _ _ => Nat.le_of_ble_eq_true rfl) ?_
  intro p e s m args below meth c D E a ls H locs X hr hl hB
  have hx := X.1
  have hb := X.2.1
  have hown := X.2.2.2.1
  have hts := X.2.2.2.2.1
  have hl : lv_has ls 2 [(0, .ref a), (1, .int p1)] := hl
  have hf := (fX9_plain.eq_1 p1 v).symm.trans hf
  refine lv_aload_n hx hb dX9_plain_0 rfl (lv_at hl 0 rfl) ?_
  refine lv_iconst (v := 0) hx hb dX9_plain_1 (by decide) ?_
  refine bk_putI X hB kl_X9 0 lc_Mo_0 4 (by decide) rfl rfl rfl wm_1867 dX9_plain_2 rfl (fun H locs hB => ?_)
  obtain ⟨v1, ev1⟩ : ∃ y : bM, y = upd v 3 0 := ⟨_, rfl⟩
  have hf := nm_use hf ev1
  rw [← ev1] at hB
  refine lv_iload_n hx hb dX9_plain_5 rfl (lv_at hl 1 rfl) ?_
  exact bk_iW X hr rfl hf hB (Nat.le_of_ble_eq_true rfl) (Nat.le_of_ble_eq_true rfl) dX9_plain_6
theorem yv_X9_plain : bYv yX9_plain RX9 cX9_plain 2 (some .int) 1 := ⟨⟨rfl, by decide, by decide, rfl⟩, wm_1947, wp_75, wm_17, wm_1948⟩

theorem dX9_errorCode_0 : decode cX9_errorCode 0 = .ok (.aload_n 0, 1) := by decide +kernel
theorem dX9_errorCode_1 : decode cX9_errorCode 1 = .ok (.aload_n 0, 1) := by decide +kernel
theorem dX9_errorCode_2 : decode cX9_errorCode 2 = .ok (.getfield 160, 3) := by decide +kernel
theorem dX9_errorCode_5 : decode cX9_errorCode 5 = .ok (.invokevirtual 294, 3) := by decide +kernel
theorem dX9_errorCode_8 : decode cX9_errorCode 8 = .ok (.ireturn, 1) := by decide +kernel
def fX9_errorCode  (v : bM) : Option (Int32 × bM) :=
  bnd (fX9_plain (v 1) v) fun r3 w2 => some (r3, w2)
set_option maxRecDepth 100000 in
set_option maxHeartbeats 4000000 in
theorem mX9_errorCode {l : Launch}  {v : bM} {r0 : Int32} {w0 : bM} (hf : fX9_errorCode  v = some (r0, w0)) : bMet l yX9_errorCode cX9_errorCode 1 (some .int) 1 0 0 LMo (fun E a => [.ref a]) v w0 (fun _ => some (.int r0)) := by
  refine bk_start (by decide +kernel) wfMo (fun _ _ => Nat.le_of_ble_eq_true rfl) ?_
  intro p e s m args below meth c D E a ls H locs X hr hl hB
  have hx := X.1
  have hb := X.2.1
  have hown := X.2.2.2.1
  have hts := X.2.2.2.2.1
  have hl : lv_has ls 1 [(0, .ref a)] := hl
  have hf := (fX9_errorCode.eq_1  v).symm.trans hf
  refine lv_aload_n hx hb dX9_errorCode_0 rfl (lv_at hl 0 rfl) ?_
  refine lv_aload_n hx hb dX9_errorCode_1 rfl (lv_at hl 0 rfl) ?_
  refine bk_getI X hB kl_X9 0 lc_Mo_0 2 (by decide) rfl wm_1865 dX9_errorCode_2 ?_
  obtain ⟨r3, w2, hc1, hf⟩ := bnd_some hf
  refine bk_all hB (fun h1 h2 h3 => bk_runV X (Av := [.int (v 1)]) (rest := []) (mX9_plain hc1) yv_X9_plain wm_1945 ⟨Nat.le_of_ble_eq_true rfl, Nat.le_of_ble_eq_true rfl⟩ rfl rfl hl.1 kl_X9.1 (hB.1.obj lc_Mo_0) h1 h2 h3 (Nat.le_of_ble_eq_true rfl) ⟨Nat.le_of_ble_eq_true rfl, Nat.le_of_ble_eq_true rfl⟩ dX9_errorCode_5) (fun H locs hB => ?_)
  refine W.eq (g2 := F0 m 8 ls [.int r3]) rfl ?_
  exact bk_iW X hr rfl hf hB (Nat.le_of_ble_eq_true rfl) (Nat.le_of_ble_eq_true rfl) dX9_errorCode_8
theorem yv_X9_errorCode : bYv yX9_errorCode RX9 cX9_errorCode 1 (some .int) 0 := ⟨⟨rfl, by decide, by decide, rfl⟩, wm_1942, wm_1943, wm_17, wm_1944⟩

theorem dX9_errorPosition_0 : decode cX9_errorPosition 0 = .ok (.aload_n 0, 1) := by decide +kernel
theorem dX9_errorPosition_1 : decode cX9_errorPosition 1 = .ok (.aload_n 0, 1) := by decide +kernel
theorem dX9_errorPosition_2 : decode cX9_errorPosition 2 = .ok (.getfield 13, 3) := by decide +kernel
theorem dX9_errorPosition_5 : decode cX9_errorPosition 5 = .ok (.invokevirtual 294, 3) := by decide +kernel
theorem dX9_errorPosition_8 : decode cX9_errorPosition 8 = .ok (.ireturn, 1) := by decide +kernel
def fX9_errorPosition  (v : bM) : Option (Int32 × bM) :=
  bnd (fX9_plain (v 2) v) fun r3 w2 => some (r3, w2)
set_option maxRecDepth 100000 in
set_option maxHeartbeats 4000000 in
theorem mX9_errorPosition {l : Launch}  {v : bM} {r0 : Int32} {w0 : bM} (hf : fX9_errorPosition  v = some (r0, w0)) : bMet l yX9_errorPosition cX9_errorPosition 1 (some .int) 1 0 0 LMo (fun E a => [.ref a]) v w0 (fun _ => some (.int r0)) := by
  refine bk_start (by decide +kernel) wfMo (fun _ _ => Nat.le_of_ble_eq_true rfl) ?_
  intro p e s m args below meth c D E a ls H locs X hr hl hB
  have hx := X.1
  have hb := X.2.1
  have hown := X.2.2.2.1
  have hts := X.2.2.2.2.1
  have hl : lv_has ls 1 [(0, .ref a)] := hl
  have hf := (fX9_errorPosition.eq_1  v).symm.trans hf
  refine lv_aload_n hx hb dX9_errorPosition_0 rfl (lv_at hl 0 rfl) ?_
  refine lv_aload_n hx hb dX9_errorPosition_1 rfl (lv_at hl 0 rfl) ?_
  refine bk_getI X hB kl_X9 0 lc_Mo_0 3 (by decide) rfl wm_1866 dX9_errorPosition_2 ?_
  obtain ⟨r3, w2, hc1, hf⟩ := bnd_some hf
  refine bk_all hB (fun h1 h2 h3 => bk_runV X (Av := [.int (v 2)]) (rest := []) (mX9_plain hc1) yv_X9_plain wm_1945 ⟨Nat.le_of_ble_eq_true rfl, Nat.le_of_ble_eq_true rfl⟩ rfl rfl hl.1 kl_X9.1 (hB.1.obj lc_Mo_0) h1 h2 h3 (Nat.le_of_ble_eq_true rfl) ⟨Nat.le_of_ble_eq_true rfl, Nat.le_of_ble_eq_true rfl⟩ dX9_errorPosition_5) (fun H locs hB => ?_)
  refine W.eq (g2 := F0 m 8 ls [.int r3]) rfl ?_
  exact bk_iW X hr rfl hf hB (Nat.le_of_ble_eq_true rfl) (Nat.le_of_ble_eq_true rfl) dX9_errorPosition_8
theorem yv_X9_errorPosition : bYv yX9_errorPosition RX9 cX9_errorPosition 1 (some .int) 0 := ⟨⟨rfl, by decide, by decide, rfl⟩, wm_1950, wm_1951, wm_17, wm_1952⟩

theorem dX9_clock_0 : decode cX9_clock 0 = .ok (.aload_n 0, 1) := by decide +kernel
theorem dX9_clock_1 : decode cX9_clock 1 = .ok (.aload_n 0, 1) := by decide +kernel
theorem dX9_clock_2 : decode cX9_clock 2 = .ok (.getfield 17, 3) := by decide +kernel
theorem dX9_clock_5 : decode cX9_clock 5 = .ok (.iconst 4, 1) := by decide +kernel
theorem dX9_clock_6 : decode cX9_clock 6 = .ok (.iaload, 1) := by decide +kernel
theorem dX9_clock_7 : decode cX9_clock 7 = .ok (.invokevirtual 294, 3) := by decide +kernel
theorem dX9_clock_10 : decode cX9_clock 10 = .ok (.ireturn, 1) := by decide +kernel
def fX9_clock  (v : bM) : Option (Int32 × bM) :=
  bnd (fX9_plain (v (710 + (4 : Int32).toNatClampNeg)) v) fun r3 w2 => some (r3, w2)
set_option maxRecDepth 100000 in
set_option maxHeartbeats 4000000 in
theorem mX9_clock {l : Launch}  {v : bM} {r0 : Int32} {w0 : bM} (hf : fX9_clock  v = some (r0, w0)) : bMet l yX9_clock cX9_clock 1 (some .int) 1 0 0 LMo (fun E a => [.ref a]) v w0 (fun _ => some (.int r0)) := by
  refine bk_start (by decide +kernel) wfMo (fun _ _ => Nat.le_of_ble_eq_true rfl) ?_
  intro p e s m args below meth c D E a ls H locs X hr hl hB
  have hx := X.1
  have hb := X.2.1
  have hown := X.2.2.2.1
  have hts := X.2.2.2.2.1
  have hl : lv_has ls 1 [(0, .ref a)] := hl
  have hf := (fX9_clock.eq_1  v).symm.trans hf
  refine lv_aload_n hx hb dX9_clock_0 rfl (lv_at hl 0 rfl) ?_
  refine lv_aload_n hx hb dX9_clock_1 rfl (lv_at hl 0 rfl) ?_
  refine bk_getR X hB kl_X9 0 lc_Mo_0 5 (by decide) rfl wm_1868 dX9_clock_2 ?_
  refine lv_iconst (v := 4) hx hb dX9_clock_5 (by decide) ?_
  refine bk_ald X hB 2 lc_Mo_2 (vp_c 4 496 rfl) dX9_clock_6 ?_
  obtain ⟨r3, w2, hc1, hf⟩ := bnd_some hf
  refine bk_all hB (fun h1 h2 h3 => bk_runV X (Av := [.int (v (710 + (4 : Int32).toNatClampNeg))]) (rest := []) (mX9_plain hc1) yv_X9_plain wm_1945 ⟨Nat.le_of_ble_eq_true rfl, Nat.le_of_ble_eq_true rfl⟩ rfl rfl hl.1 kl_X9.1 (hB.1.obj lc_Mo_0) h1 h2 h3 (Nat.le_of_ble_eq_true rfl) ⟨Nat.le_of_ble_eq_true rfl, Nat.le_of_ble_eq_true rfl⟩ dX9_clock_7) (fun H locs hB => ?_)
  refine W.eq (g2 := F0 m 10 ls [.int r3]) rfl ?_
  exact bk_iW X hr rfl hf hB (Nat.le_of_ble_eq_true rfl) (Nat.le_of_ble_eq_true rfl) dX9_clock_10
theorem yv_X9_clock : bYv yX9_clock RX9 cX9_clock 1 (some .int) 0 := ⟨⟨rfl, by decide, by decide, rfl⟩, wm_1954, wm_1955, wm_17, wm_1956⟩

theorem dX9_cash_0 : decode cX9_cash 0 = .ok (.aload_n 0, 1) := by decide +kernel
theorem dX9_cash_1 : decode cX9_cash 1 = .ok (.aload_n 0, 1) := by decide +kernel
theorem dX9_cash_2 : decode cX9_cash 2 = .ok (.getfield 17, 3) := by decide +kernel
theorem dX9_cash_5 : decode cX9_cash 5 = .ok (.iconst 0, 1) := by decide +kernel
theorem dX9_cash_6 : decode cX9_cash 6 = .ok (.iaload, 1) := by decide +kernel
theorem dX9_cash_7 : decode cX9_cash 7 = .ok (.invokevirtual 294, 3) := by decide +kernel
theorem dX9_cash_10 : decode cX9_cash 10 = .ok (.ireturn, 1) := by decide +kernel
def fX9_cash  (v : bM) : Option (Int32 × bM) :=
  bnd (fX9_plain (v (710 + (0 : Int32).toNatClampNeg)) v) fun r3 w2 => some (r3, w2)
set_option maxRecDepth 100000 in
set_option maxHeartbeats 4000000 in
theorem mX9_cash {l : Launch}  {v : bM} {r0 : Int32} {w0 : bM} (hf : fX9_cash  v = some (r0, w0)) : bMet l yX9_cash cX9_cash 1 (some .int) 1 0 0 LMo (fun E a => [.ref a]) v w0 (fun _ => some (.int r0)) := by
  refine bk_start (by decide +kernel) wfMo (fun _ _ => Nat.le_of_ble_eq_true rfl) ?_
  intro p e s m args below meth c D E a ls H locs X hr hl hB
  have hx := X.1
  have hb := X.2.1
  have hown := X.2.2.2.1
  have hts := X.2.2.2.2.1
  have hl : lv_has ls 1 [(0, .ref a)] := hl
  have hf := (fX9_cash.eq_1  v).symm.trans hf
  refine lv_aload_n hx hb dX9_cash_0 rfl (lv_at hl 0 rfl) ?_
  refine lv_aload_n hx hb dX9_cash_1 rfl (lv_at hl 0 rfl) ?_
  refine bk_getR X hB kl_X9 0 lc_Mo_0 5 (by decide) rfl wm_1868 dX9_cash_2 ?_
  refine lv_iconst (v := 0) hx hb dX9_cash_5 (by decide) ?_
  refine bk_ald X hB 2 lc_Mo_2 (vp_c 0 496 rfl) dX9_cash_6 ?_
  obtain ⟨r3, w2, hc1, hf⟩ := bnd_some hf
  refine bk_all hB (fun h1 h2 h3 => bk_runV X (Av := [.int (v (710 + (0 : Int32).toNatClampNeg))]) (rest := []) (mX9_plain hc1) yv_X9_plain wm_1945 ⟨Nat.le_of_ble_eq_true rfl, Nat.le_of_ble_eq_true rfl⟩ rfl rfl hl.1 kl_X9.1 (hB.1.obj lc_Mo_0) h1 h2 h3 (Nat.le_of_ble_eq_true rfl) ⟨Nat.le_of_ble_eq_true rfl, Nat.le_of_ble_eq_true rfl⟩ dX9_cash_7) (fun H locs hB => ?_)
  refine W.eq (g2 := F0 m 10 ls [.int r3]) rfl ?_
  exact bk_iW X hr rfl hf hB (Nat.le_of_ble_eq_true rfl) (Nat.le_of_ble_eq_true rfl) dX9_cash_10
theorem yv_X9_cash : bYv yX9_cash RX9 cX9_cash 1 (some .int) 0 := ⟨⟨rfl, by decide, by decide, rfl⟩, wm_1958, wm_1959, wm_17, wm_1960⟩

theorem dX9_undoCount_0 : decode cX9_undoCount 0 = .ok (.aload_n 0, 1) := by decide +kernel
theorem dX9_undoCount_1 : decode cX9_undoCount 1 = .ok (.aload_n 0, 1) := by decide +kernel
theorem dX9_undoCount_2 : decode cX9_undoCount 2 = .ok (.getfield 288, 3) := by decide +kernel
theorem dX9_undoCount_5 : decode cX9_undoCount 5 = .ok (.invokevirtual 294, 3) := by decide +kernel
theorem dX9_undoCount_8 : decode cX9_undoCount 8 = .ok (.ireturn, 1) := by decide +kernel
def fX9_undoCount  (v : bM) : Option (Int32 × bM) :=
  bnd (fX9_plain (v 4) v) fun r3 w2 => some (r3, w2)
set_option maxRecDepth 100000 in
set_option maxHeartbeats 4000000 in
theorem mX9_undoCount {l : Launch}  {v : bM} {r0 : Int32} {w0 : bM} (hf : fX9_undoCount  v = some (r0, w0)) : bMet l yX9_undoCount cX9_undoCount 1 (some .int) 1 0 0 LMo (fun E a => [.ref a]) v w0 (fun _ => some (.int r0)) := by
  refine bk_start (by decide +kernel) wfMo (fun _ _ => Nat.le_of_ble_eq_true rfl) ?_
  intro p e s m args below meth c D E a ls H locs X hr hl hB
  have hx := X.1
  have hb := X.2.1
  have hown := X.2.2.2.1
  have hts := X.2.2.2.2.1
  have hl : lv_has ls 1 [(0, .ref a)] := hl
  have hf := (fX9_undoCount.eq_1  v).symm.trans hf
  refine lv_aload_n hx hb dX9_undoCount_0 rfl (lv_at hl 0 rfl) ?_
  refine lv_aload_n hx hb dX9_undoCount_1 rfl (lv_at hl 0 rfl) ?_
  refine bk_getI X hB kl_X9 0 lc_Mo_0 9 (by decide) rfl wm_1872 dX9_undoCount_2 ?_
  obtain ⟨r3, w2, hc1, hf⟩ := bnd_some hf
  refine bk_all hB (fun h1 h2 h3 => bk_runV X (Av := [.int (v 4)]) (rest := []) (mX9_plain hc1) yv_X9_plain wm_1945 ⟨Nat.le_of_ble_eq_true rfl, Nat.le_of_ble_eq_true rfl⟩ rfl rfl hl.1 kl_X9.1 (hB.1.obj lc_Mo_0) h1 h2 h3 (Nat.le_of_ble_eq_true rfl) ⟨Nat.le_of_ble_eq_true rfl, Nat.le_of_ble_eq_true rfl⟩ dX9_undoCount_5) (fun H locs hB => ?_)
  refine W.eq (g2 := F0 m 8 ls [.int r3]) rfl ?_
  exact bk_iW X hr rfl hf hB (Nat.le_of_ble_eq_true rfl) (Nat.le_of_ble_eq_true rfl) dX9_undoCount_8
theorem yv_X9_undoCount : bYv yX9_undoCount RX9 cX9_undoCount 1 (some .int) 0 := ⟨⟨rfl, by decide, by decide, rfl⟩, wm_1962, wm_1963, wm_17, wm_1964⟩

theorem dX9_isFlour_0 : decode cX9_isFlour 0 = .ok (.aload_n 0, 1) := by decide +kernel
theorem dX9_isFlour_1 : decode cX9_isFlour 1 = .ok (.iconst 0, 1) := by decide +kernel
theorem dX9_isFlour_2 : decode cX9_isFlour 2 = .ok (.putfield 60, 3) := by decide +kernel
theorem dX9_isFlour_5 : decode cX9_isFlour 5 = .ok (.aload_n 0, 1) := by decide +kernel
theorem dX9_isFlour_6 : decode cX9_isFlour 6 = .ok (.iload_n 1, 1) := by decide +kernel
theorem dX9_isFlour_7 : decode cX9_isFlour 7 = .ok (.iconst 0, 1) := by decide +kernel
theorem dX9_isFlour_8 : decode cX9_isFlour 8 = .ok (.aload_n 0, 1) := by decide +kernel
theorem dX9_isFlour_9 : decode cX9_isFlour 9 = .ok (.getfield 17, 3) := by decide +kernel
theorem dX9_isFlour_12 : decode cX9_isFlour 12 = .ok (.iconst 5, 1) := by decide +kernel
theorem dX9_isFlour_13 : decode cX9_isFlour 13 = .ok (.iaload, 1) := by decide +kernel
theorem dX9_isFlour_14 : decode cX9_isFlour 14 = .ok (.iconst 1, 1) := by decide +kernel
theorem dX9_isFlour_15 : decode cX9_isFlour 15 = .ok (.isub, 1) := by decide +kernel
theorem dX9_isFlour_16 : decode cX9_isFlour 16 = .ok (.invokestatic 135, 3) := by decide +kernel
theorem dX9_isFlour_19 : decode cX9_isFlour 19 = .ok (.iconst 1, 1) := by decide +kernel
theorem dX9_isFlour_20 : decode cX9_isFlour 20 = .ok (.invokevirtual 297, 3) := by decide +kernel
theorem dX9_isFlour_23 : decode cX9_isFlour 23 = .ok (.ifCond .ne 7, 3) := by decide +kernel
theorem dX9_isFlour_26 : decode cX9_isFlour 26 = .ok (.iconst 1, 1) := by decide +kernel
theorem dX9_isFlour_27 : decode cX9_isFlour 27 = .ok (.goto 4, 3) := by decide +kernel
theorem dX9_isFlour_30 : decode cX9_isFlour 30 = .ok (.iconst 0, 1) := by decide +kernel
theorem dX9_isFlour_31 : decode cX9_isFlour 31 = .ok (.ireturn, 1) := by decide +kernel
def fX9_isFlour (p1 : Int32) (v : bM) : Option (Int32 × bM) :=
  nm (upd v 3 0) fun v1 => bnr (fX9_inRange p1 0 ((v1 (710 + (5 : Int32).toNatClampNeg)) - 1)) fun r3 => bnd (fX9_fails r3 1 v1) fun r6 w5 => (if r6 = 0 then (some (1, w5)) else (some (0, w5)))
set_option maxRecDepth 100000 in
set_option maxHeartbeats 4000000 in
theorem mX9_isFlour {l : Launch} {p1 : Int32} {v : bM} {r0 : Int32} {w0 : bM} (hf : fX9_isFlour p1 v = some (r0, w0)) : bMet l yX9_isFlour cX9_isFlour 2 (some .boolean) 1 0 0 LMo (fun E a => [.ref a, .int p1]) v w0 (fun _ => some (.int r0)) := by
  refine bk_start (by decide +kernel) wfMo (fun _ _ => Nat.le_of_ble_eq_true rfl) ?_
  intro p e s m args below meth c D E a ls H locs X hr hl hB
  have hx := X.1
  have hb := X.2.1
  have hown := X.2.2.2.1
  have hts := X.2.2.2.2.1
  have hl : lv_has ls 2 [(0, .ref a), (1, .int p1)] := hl
  have hf := (fX9_isFlour.eq_1 p1 v).symm.trans hf
  refine lv_aload_n hx hb dX9_isFlour_0 rfl (lv_at hl 0 rfl) ?_
  refine lv_iconst (v := 0) hx hb dX9_isFlour_1 (by decide) ?_
  refine bk_putI X hB kl_X9 0 lc_Mo_0 4 (by decide) rfl rfl rfl wm_1867 dX9_isFlour_2 rfl (fun H locs hB => ?_)
  obtain ⟨v1, ev1⟩ : ∃ y : bM, y = upd v 3 0 := ⟨_, rfl⟩
  have hf := nm_use hf ev1
  rw [← ev1] at hB
  refine lv_aload_n hx hb dX9_isFlour_5 rfl (lv_at hl 0 rfl) ?_
  refine lv_iload_n hx hb dX9_isFlour_6 rfl (lv_at hl 1 rfl) ?_
  refine lv_iconst (v := 0) hx hb dX9_isFlour_7 (by decide) ?_
  refine lv_aload_n hx hb dX9_isFlour_8 rfl (lv_at hl 0 rfl) ?_
  refine bk_getR X hB kl_X9 0 lc_Mo_0 5 (by decide) rfl wm_1868 dX9_isFlour_9 ?_
  refine lv_iconst (v := 5) hx hb dX9_isFlour_12 (by decide) ?_
  refine bk_ald X hB 2 lc_Mo_2 (vp_c 5 496 rfl) dX9_isFlour_13 ?_
  refine lv_iconst (v := 1) hx hb dX9_isFlour_14 (by decide) ?_
  refine lv_isub hx hb dX9_isFlour_15 ?_
  obtain ⟨r3, hc2, hf⟩ := bnr_some hf
  refine bk_non (v0 := v1) (w0 := v1) hB (fun h1 h2 h3 => bk_runS X (Av := [.int p1, .int 0, .int ((v1 (710 + (5 : Int32).toNatClampNeg)) - 1)]) (rest := [.ref a]) (mX9_inRange hc2) ys_X9_inRange wm_1653 ⟨Nat.le_of_ble_eq_true rfl, Nat.le_of_ble_eq_true rfl⟩ rfl rfl hl.1 h1 h2 h3 (Nat.le_of_ble_eq_true rfl) ⟨Nat.le_of_ble_eq_true rfl, Nat.le_of_ble_eq_true rfl⟩ dX9_isFlour_16) (fun H locs hB => ?_)
  refine W.eq (g2 := F0 m 19 ls [.int r3, .ref a]) rfl ?_
  refine lv_iconst (v := 1) hx hb dX9_isFlour_19 (by decide) ?_
  obtain ⟨r6, w5, hc4, hf⟩ := bnd_some hf
  refine bk_all hB (fun h1 h2 h3 => bk_runV X (Av := [.int r3, .int 1]) (rest := []) (mX9_fails hc4) yv_X9_fails wm_1977 ⟨Nat.le_of_ble_eq_true rfl, Nat.le_of_ble_eq_true rfl⟩ rfl rfl hl.1 kl_X9.1 (hB.1.obj lc_Mo_0) h1 h2 h3 (Nat.le_of_ble_eq_true rfl) ⟨Nat.le_of_ble_eq_true rfl, Nat.le_of_ble_eq_true rfl⟩ dX9_isFlour_20) (fun H locs hB => ?_)
  refine W.eq (g2 := F0 m 23 ls [.int r6]) rfl ?_
  refine lv_if_ne (tgt := 30) hx hb dX9_isFlour_23 (by decide) (fun c7 => ?_) (fun c7 => ?_)
  · have hf := (if_neg c7).symm.trans hf
    refine lv_iconst (v := 0) hx hb dX9_isFlour_30 (by decide) ?_
    exact bk_zW X hr rfl rfl hf hB (Nat.le_of_ble_eq_true rfl) (Nat.le_of_ble_eq_true rfl) dX9_isFlour_31
  · have hf := (if_pos c7).symm.trans hf
    refine lv_iconst (v := 1) hx hb dX9_isFlour_26 (by decide) ?_
    refine lv_goto (tgt := 31) hx hb dX9_isFlour_27 (by decide) ?_
    exact bk_zW X hr rfl rfl hf hB (Nat.le_of_ble_eq_true rfl) (Nat.le_of_ble_eq_true rfl) dX9_isFlour_31
theorem yv_X9_isFlour : bYv yX9_isFlour RX9 cX9_isFlour 2 (some .boolean) 1 := ⟨⟨rfl, by decide, by decide, rfl⟩, wm_1975, wp_76, wm_17, wm_1976⟩

theorem dX9_flourCount_0 : decode cX9_flourCount 0 = .ok (.aload_n 0, 1) := by decide +kernel
theorem dX9_flourCount_1 : decode cX9_flourCount 1 = .ok (.aload_n 0, 1) := by decide +kernel
theorem dX9_flourCount_2 : decode cX9_flourCount 2 = .ok (.getfield 17, 3) := by decide +kernel
theorem dX9_flourCount_5 : decode cX9_flourCount 5 = .ok (.iconst 5, 1) := by decide +kernel
theorem dX9_flourCount_6 : decode cX9_flourCount 6 = .ok (.iaload, 1) := by decide +kernel
theorem dX9_flourCount_7 : decode cX9_flourCount 7 = .ok (.invokevirtual 294, 3) := by decide +kernel
theorem dX9_flourCount_10 : decode cX9_flourCount 10 = .ok (.ireturn, 1) := by decide +kernel
def fX9_flourCount  (v : bM) : Option (Int32 × bM) :=
  bnd (fX9_plain (v (710 + (5 : Int32).toNatClampNeg)) v) fun r3 w2 => some (r3, w2)
set_option maxRecDepth 100000 in
set_option maxHeartbeats 4000000 in
theorem mX9_flourCount {l : Launch}  {v : bM} {r0 : Int32} {w0 : bM} (hf : fX9_flourCount  v = some (r0, w0)) : bMet l yX9_flourCount cX9_flourCount 1 (some .int) 1 0 0 LMo (fun E a => [.ref a]) v w0 (fun _ => some (.int r0)) := by
  refine bk_start (by decide +kernel) wfMo (fun _ _ => Nat.le_of_ble_eq_true rfl) ?_
  intro p e s m args below meth c D E a ls H locs X hr hl hB
  have hx := X.1
  have hb := X.2.1
  have hown := X.2.2.2.1
  have hts := X.2.2.2.2.1
  have hl : lv_has ls 1 [(0, .ref a)] := hl
  have hf := (fX9_flourCount.eq_1  v).symm.trans hf
  refine lv_aload_n hx hb dX9_flourCount_0 rfl (lv_at hl 0 rfl) ?_
  refine lv_aload_n hx hb dX9_flourCount_1 rfl (lv_at hl 0 rfl) ?_
  refine bk_getR X hB kl_X9 0 lc_Mo_0 5 (by decide) rfl wm_1868 dX9_flourCount_2 ?_
  refine lv_iconst (v := 5) hx hb dX9_flourCount_5 (by decide) ?_
  refine bk_ald X hB 2 lc_Mo_2 (vp_c 5 496 rfl) dX9_flourCount_6 ?_
  obtain ⟨r3, w2, hc1, hf⟩ := bnd_some hf
  refine bk_all hB (fun h1 h2 h3 => bk_runV X (Av := [.int (v (710 + (5 : Int32).toNatClampNeg))]) (rest := []) (mX9_plain hc1) yv_X9_plain wm_1945 ⟨Nat.le_of_ble_eq_true rfl, Nat.le_of_ble_eq_true rfl⟩ rfl rfl hl.1 kl_X9.1 (hB.1.obj lc_Mo_0) h1 h2 h3 (Nat.le_of_ble_eq_true rfl) ⟨Nat.le_of_ble_eq_true rfl, Nat.le_of_ble_eq_true rfl⟩ dX9_flourCount_7) (fun H locs hB => ?_)
  refine W.eq (g2 := F0 m 10 ls [.int r3]) rfl ?_
  exact bk_iW X hr rfl hf hB (Nat.le_of_ble_eq_true rfl) (Nat.le_of_ble_eq_true rfl) dX9_flourCount_10
theorem yv_X9_flourCount : bYv yX9_flourCount RX9 cX9_flourCount 1 (some .int) 0 := ⟨⟨rfl, by decide, by decide, rfl⟩, wm_1966, wm_1967, wm_17, wm_1968⟩

theorem dX9_flourPrice_0 : decode cX9_flourPrice 0 = .ok (.aload_n 0, 1) := by decide +kernel
theorem dX9_flourPrice_1 : decode cX9_flourPrice 1 = .ok (.iload_n 1, 1) := by decide +kernel
theorem dX9_flourPrice_2 : decode cX9_flourPrice 2 = .ok (.invokevirtual 301, 3) := by decide +kernel
theorem dX9_flourPrice_5 : decode cX9_flourPrice 5 = .ok (.ifCond .eq 12, 3) := by decide +kernel
theorem dX9_flourPrice_8 : decode cX9_flourPrice 8 = .ok (.aload_n 0, 1) := by decide +kernel
theorem dX9_flourPrice_9 : decode cX9_flourPrice 9 = .ok (.iload_n 1, 1) := by decide +kernel
theorem dX9_flourPrice_10 : decode cX9_flourPrice 10 = .ok (.iconst 0, 1) := by decide +kernel
theorem dX9_flourPrice_11 : decode cX9_flourPrice 11 = .ok (.invokevirtual 63, 3) := by decide +kernel
theorem dX9_flourPrice_14 : decode cX9_flourPrice 14 = .ok (.goto 4, 3) := by decide +kernel
theorem dX9_flourPrice_17 : decode cX9_flourPrice 17 = .ok (.iconst 0, 1) := by decide +kernel
theorem dX9_flourPrice_18 : decode cX9_flourPrice 18 = .ok (.ireturn, 1) := by decide +kernel
def fX9_flourPrice (p1 : Int32) (v : bM) : Option (Int32 × bM) :=
  bnd (fX9_isFlour p1 v) fun r3 w2 => (if r3 = 0 then (some (0, w2)) else (bnr (fX9_flour p1 0 w2) fun r6 => some (r6, w2)))
set_option maxRecDepth 100000 in
set_option maxHeartbeats 4000000 in
theorem mX9_flourPrice {l : Launch} {p1 : Int32} {v : bM} {r0 : Int32} {w0 : bM} (hf : fX9_flourPrice p1 v = some (r0, w0)) : bMet l yX9_flourPrice cX9_flourPrice 2 (some .int) 2 0 0 LMo (fun E a => [.ref a, .int p1]) v w0 (fun _ => some (.int r0)) := by
  refine bk_start (by decide +kernel) wfMo (fun _ _ => Nat.le_of_ble_eq_true rfl) ?_
  intro p e s m args below meth c D E a ls H locs X hr hl hB
  have hx := X.1
  have hb := X.2.1
  have hown := X.2.2.2.1
  have hts := X.2.2.2.2.1
  have hl : lv_has ls 2 [(0, .ref a), (1, .int p1)] := hl
  have hf := (fX9_flourPrice.eq_1 p1 v).symm.trans hf
  refine lv_aload_n hx hb dX9_flourPrice_0 rfl (lv_at hl 0 rfl) ?_
  refine lv_iload_n hx hb dX9_flourPrice_1 rfl (lv_at hl 1 rfl) ?_
  obtain ⟨r3, w2, hc1, hf⟩ := bnd_some hf
  refine bk_all hB (fun h1 h2 h3 => bk_runV X (Av := [.int p1]) (rest := []) (mX9_isFlour hc1) yv_X9_isFlour wm_1973 ⟨Nat.le_of_ble_eq_true rfl, Nat.le_of_ble_eq_true rfl⟩ rfl rfl hl.1 kl_X9.1 (hB.1.obj lc_Mo_0) h1 h2 h3 (Nat.le_of_ble_eq_true rfl) ⟨Nat.le_of_ble_eq_true rfl, Nat.le_of_ble_eq_true rfl⟩ dX9_flourPrice_2) (fun H locs hB => ?_)
  refine W.eq (g2 := F0 m 5 ls [.int r3]) rfl ?_
  refine lv_if_eq (tgt := 17) hx hb dX9_flourPrice_5 (by decide) (fun c4 => ?_) (fun c4 => ?_)
  · have hf := (if_pos c4).symm.trans hf
    refine lv_iconst (v := 0) hx hb dX9_flourPrice_17 (by decide) ?_
    exact bk_iW X hr rfl hf hB (Nat.le_of_ble_eq_true rfl) (Nat.le_of_ble_eq_true rfl) dX9_flourPrice_18
  · have hf := (if_neg c4).symm.trans hf
    refine lv_aload_n hx hb dX9_flourPrice_8 rfl (lv_at hl 0 rfl) ?_
    refine lv_iload_n hx hb dX9_flourPrice_9 rfl (lv_at hl 1 rfl) ?_
    refine lv_iconst (v := 0) hx hb dX9_flourPrice_10 (by decide) ?_
    obtain ⟨r6, hc5, hf⟩ := bnr_some hf
    refine bk_all hB (fun h1 h2 h3 => bk_runV X (Av := [.int p1, .int 0]) (rest := []) (mX9_flour hc5) yv_X9_flour wm_1758 ⟨Nat.le_of_ble_eq_true rfl, Nat.le_of_ble_eq_true rfl⟩ rfl rfl hl.1 kl_X9.1 (hB.1.obj lc_Mo_0) h1 h2 h3 (Nat.le_of_ble_eq_true rfl) ⟨Nat.le_of_ble_eq_true rfl, Nat.le_of_ble_eq_true rfl⟩ dX9_flourPrice_11) (fun H locs hB => ?_)
    refine W.eq (g2 := F0 m 14 ls [.int r6]) rfl ?_
    refine lv_goto (tgt := 18) hx hb dX9_flourPrice_14 (by decide) ?_
    exact bk_iW X hr rfl hf hB (Nat.le_of_ble_eq_true rfl) (Nat.le_of_ble_eq_true rfl) dX9_flourPrice_18
theorem yv_X9_flourPrice : bYv yX9_flourPrice RX9 cX9_flourPrice 2 (some .int) 1 := ⟨⟨rfl, by decide, by decide, rfl⟩, wm_1970, wm_1971, wm_17, wm_1972⟩

theorem dX9_unitsOf_0 : decode cX9_unitsOf 0 = .ok (.aload_n 0, 1) := by decide +kernel
theorem dX9_unitsOf_1 : decode cX9_unitsOf 1 = .ok (.iload_n 1, 1) := by decide +kernel
theorem dX9_unitsOf_2 : decode cX9_unitsOf 2 = .ok (.invokevirtual 301, 3) := by decide +kernel
theorem dX9_unitsOf_5 : decode cX9_unitsOf 5 = .ok (.ifCond .eq 11, 3) := by decide +kernel
theorem dX9_unitsOf_8 : decode cX9_unitsOf 8 = .ok (.aload_n 0, 1) := by decide +kernel
theorem dX9_unitsOf_9 : decode cX9_unitsOf 9 = .ok (.iload_n 1, 1) := by decide +kernel
theorem dX9_unitsOf_10 : decode cX9_unitsOf 10 = .ok (.invokevirtual 88, 3) := by decide +kernel
theorem dX9_unitsOf_13 : decode cX9_unitsOf 13 = .ok (.goto 4, 3) := by decide +kernel
theorem dX9_unitsOf_16 : decode cX9_unitsOf 16 = .ok (.iconst 0, 1) := by decide +kernel
theorem dX9_unitsOf_17 : decode cX9_unitsOf 17 = .ok (.ireturn, 1) := by decide +kernel
def fX9_unitsOf (p1 : Int32) (v : bM) : Option (Int32 × bM) :=
  bnd (fX9_isFlour p1 v) fun r3 w2 => (if r3 = 0 then (some (0, w2)) else (bnr (fX9_units p1 w2) fun r6 => some (r6, w2)))
set_option maxRecDepth 100000 in
set_option maxHeartbeats 4000000 in
theorem mX9_unitsOf {l : Launch} {p1 : Int32} {v : bM} {r0 : Int32} {w0 : bM} (hf : fX9_unitsOf p1 v = some (r0, w0)) : bMet l yX9_unitsOf cX9_unitsOf 2 (some .int) 2 0 0 LMo (fun E a => [.ref a, .int p1]) v w0 (fun _ => some (.int r0)) := by
  refine bk_start (by decide +kernel) wfMo (fun _ _ => Nat.le_of_ble_eq_true rfl) ?_
  intro p e s m args below meth c D E a ls H locs X hr hl hB
  have hx := X.1
  have hb := X.2.1
  have hown := X.2.2.2.1
  have hts := X.2.2.2.2.1
  have hl : lv_has ls 2 [(0, .ref a), (1, .int p1)] := hl
  have hf := (fX9_unitsOf.eq_1 p1 v).symm.trans hf
  refine lv_aload_n hx hb dX9_unitsOf_0 rfl (lv_at hl 0 rfl) ?_
  refine lv_iload_n hx hb dX9_unitsOf_1 rfl (lv_at hl 1 rfl) ?_
  obtain ⟨r3, w2, hc1, hf⟩ := bnd_some hf
  refine bk_all hB (fun h1 h2 h3 => bk_runV X (Av := [.int p1]) (rest := []) (mX9_isFlour hc1) yv_X9_isFlour wm_1973 ⟨Nat.le_of_ble_eq_true rfl, Nat.le_of_ble_eq_true rfl⟩ rfl rfl hl.1 kl_X9.1 (hB.1.obj lc_Mo_0) h1 h2 h3 (Nat.le_of_ble_eq_true rfl) ⟨Nat.le_of_ble_eq_true rfl, Nat.le_of_ble_eq_true rfl⟩ dX9_unitsOf_2) (fun H locs hB => ?_)
  refine W.eq (g2 := F0 m 5 ls [.int r3]) rfl ?_
  refine lv_if_eq (tgt := 16) hx hb dX9_unitsOf_5 (by decide) (fun c4 => ?_) (fun c4 => ?_)
  · have hf := (if_pos c4).symm.trans hf
    refine lv_iconst (v := 0) hx hb dX9_unitsOf_16 (by decide) ?_
    exact bk_iW X hr rfl hf hB (Nat.le_of_ble_eq_true rfl) (Nat.le_of_ble_eq_true rfl) dX9_unitsOf_17
  · have hf := (if_neg c4).symm.trans hf
    refine lv_aload_n hx hb dX9_unitsOf_8 rfl (lv_at hl 0 rfl) ?_
    refine lv_iload_n hx hb dX9_unitsOf_9 rfl (lv_at hl 1 rfl) ?_
    obtain ⟨r6, hc5, hf⟩ := bnr_some hf
    refine bk_all hB (fun h1 h2 h3 => bk_runV X (Av := [.int p1]) (rest := []) (mX9_units hc5) yv_X9_units wm_1782 ⟨Nat.le_of_ble_eq_true rfl, Nat.le_of_ble_eq_true rfl⟩ rfl rfl hl.1 kl_X9.1 (hB.1.obj lc_Mo_0) h1 h2 h3 (Nat.le_of_ble_eq_true rfl) ⟨Nat.le_of_ble_eq_true rfl, Nat.le_of_ble_eq_true rfl⟩ dX9_unitsOf_10) (fun H locs hB => ?_)
    refine W.eq (g2 := F0 m 13 ls [.int r6]) rfl ?_
    refine lv_goto (tgt := 17) hx hb dX9_unitsOf_13 (by decide) ?_
    exact bk_iW X hr rfl hf hB (Nat.le_of_ble_eq_true rfl) (Nat.le_of_ble_eq_true rfl) dX9_unitsOf_17
theorem yv_X9_unitsOf : bYv yX9_unitsOf RX9 cX9_unitsOf 2 (some .int) 1 := ⟨⟨rfl, by decide, by decide, rfl⟩, wm_1982, wm_1983, wm_17, wm_1984⟩

theorem dX9_lotsOf_0 : decode cX9_lotsOf 0 = .ok (.aload_n 0, 1) := by decide +kernel
theorem dX9_lotsOf_1 : decode cX9_lotsOf 1 = .ok (.iload_n 1, 1) := by decide +kernel
theorem dX9_lotsOf_2 : decode cX9_lotsOf 2 = .ok (.invokevirtual 301, 3) := by decide +kernel
theorem dX9_lotsOf_5 : decode cX9_lotsOf 5 = .ok (.ifCond .eq 12, 3) := by decide +kernel
theorem dX9_lotsOf_8 : decode cX9_lotsOf 8 = .ok (.aload_n 0, 1) := by decide +kernel
theorem dX9_lotsOf_9 : decode cX9_lotsOf 9 = .ok (.iload_n 1, 1) := by decide +kernel
theorem dX9_lotsOf_10 : decode cX9_lotsOf 10 = .ok (.iconst 1, 1) := by decide +kernel
theorem dX9_lotsOf_11 : decode cX9_lotsOf 11 = .ok (.invokevirtual 63, 3) := by decide +kernel
theorem dX9_lotsOf_14 : decode cX9_lotsOf 14 = .ok (.goto 4, 3) := by decide +kernel
theorem dX9_lotsOf_17 : decode cX9_lotsOf 17 = .ok (.iconst 0, 1) := by decide +kernel
theorem dX9_lotsOf_18 : decode cX9_lotsOf 18 = .ok (.ireturn, 1) := by decide +kernel
def fX9_lotsOf (p1 : Int32) (v : bM) : Option (Int32 × bM) :=
  bnd (fX9_isFlour p1 v) fun r3 w2 => (if r3 = 0 then (some (0, w2)) else (bnr (fX9_flour p1 1 w2) fun r6 => some (r6, w2)))
set_option maxRecDepth 100000 in
set_option maxHeartbeats 4000000 in
theorem mX9_lotsOf {l : Launch} {p1 : Int32} {v : bM} {r0 : Int32} {w0 : bM} (hf : fX9_lotsOf p1 v = some (r0, w0)) : bMet l yX9_lotsOf cX9_lotsOf 2 (some .int) 2 0 0 LMo (fun E a => [.ref a, .int p1]) v w0 (fun _ => some (.int r0)) := by
  refine bk_start (by decide +kernel) wfMo (fun _ _ => Nat.le_of_ble_eq_true rfl) ?_
  intro p e s m args below meth c D E a ls H locs X hr hl hB
  have hx := X.1
  have hb := X.2.1
  have hown := X.2.2.2.1
  have hts := X.2.2.2.2.1
  have hl : lv_has ls 2 [(0, .ref a), (1, .int p1)] := hl
  have hf := (fX9_lotsOf.eq_1 p1 v).symm.trans hf
  refine lv_aload_n hx hb dX9_lotsOf_0 rfl (lv_at hl 0 rfl) ?_
  refine lv_iload_n hx hb dX9_lotsOf_1 rfl (lv_at hl 1 rfl) ?_
  obtain ⟨r3, w2, hc1, hf⟩ := bnd_some hf
  refine bk_all hB (fun h1 h2 h3 => bk_runV X (Av := [.int p1]) (rest := []) (mX9_isFlour hc1) yv_X9_isFlour wm_1973 ⟨Nat.le_of_ble_eq_true rfl, Nat.le_of_ble_eq_true rfl⟩ rfl rfl hl.1 kl_X9.1 (hB.1.obj lc_Mo_0) h1 h2 h3 (Nat.le_of_ble_eq_true rfl) ⟨Nat.le_of_ble_eq_true rfl, Nat.le_of_ble_eq_true rfl⟩ dX9_lotsOf_2) (fun H locs hB => ?_)
  refine W.eq (g2 := F0 m 5 ls [.int r3]) rfl ?_
  refine lv_if_eq (tgt := 17) hx hb dX9_lotsOf_5 (by decide) (fun c4 => ?_) (fun c4 => ?_)
  · have hf := (if_pos c4).symm.trans hf
    refine lv_iconst (v := 0) hx hb dX9_lotsOf_17 (by decide) ?_
    exact bk_iW X hr rfl hf hB (Nat.le_of_ble_eq_true rfl) (Nat.le_of_ble_eq_true rfl) dX9_lotsOf_18
  · have hf := (if_neg c4).symm.trans hf
    refine lv_aload_n hx hb dX9_lotsOf_8 rfl (lv_at hl 0 rfl) ?_
    refine lv_iload_n hx hb dX9_lotsOf_9 rfl (lv_at hl 1 rfl) ?_
    refine lv_iconst (v := 1) hx hb dX9_lotsOf_10 (by decide) ?_
    obtain ⟨r6, hc5, hf⟩ := bnr_some hf
    refine bk_all hB (fun h1 h2 h3 => bk_runV X (Av := [.int p1, .int 1]) (rest := []) (mX9_flour hc5) yv_X9_flour wm_1758 ⟨Nat.le_of_ble_eq_true rfl, Nat.le_of_ble_eq_true rfl⟩ rfl rfl hl.1 kl_X9.1 (hB.1.obj lc_Mo_0) h1 h2 h3 (Nat.le_of_ble_eq_true rfl) ⟨Nat.le_of_ble_eq_true rfl, Nat.le_of_ble_eq_true rfl⟩ dX9_lotsOf_11) (fun H locs hB => ?_)
    refine W.eq (g2 := F0 m 14 ls [.int r6]) rfl ?_
    refine lv_goto (tgt := 18) hx hb dX9_lotsOf_14 (by decide) ?_
    exact bk_iW X hr rfl hf hB (Nat.le_of_ble_eq_true rfl) (Nat.le_of_ble_eq_true rfl) dX9_lotsOf_18
theorem yv_X9_lotsOf : bYv yX9_lotsOf RX9 cX9_lotsOf 2 (some .int) 1 := ⟨⟨rfl, by decide, by decide, rfl⟩, wm_1986, wm_1987, wm_17, wm_1988⟩

theorem dX9_askedLot_0 : decode cX9_askedLot 0 = .ok (.aload_n 0, 1) := by decide +kernel
theorem dX9_askedLot_1 : decode cX9_askedLot 1 = .ok (.iload_n 1, 1) := by decide +kernel
theorem dX9_askedLot_2 : decode cX9_askedLot 2 = .ok (.invokevirtual 301, 3) := by decide +kernel
theorem dX9_askedLot_5 : decode cX9_askedLot 5 = .ok (.ifCond .eq 34, 3) := by decide +kernel
theorem dX9_askedLot_8 : decode cX9_askedLot 8 = .ok (.aload_n 0, 1) := by decide +kernel
theorem dX9_askedLot_9 : decode cX9_askedLot 9 = .ok (.iload_n 2, 1) := by decide +kernel
theorem dX9_askedLot_10 : decode cX9_askedLot 10 = .ok (.iconst 0, 1) := by decide +kernel
theorem dX9_askedLot_11 : decode cX9_askedLot 11 = .ok (.aload_n 0, 1) := by decide +kernel
theorem dX9_askedLot_12 : decode cX9_askedLot 12 = .ok (.iload_n 1, 1) := by decide +kernel
theorem dX9_askedLot_13 : decode cX9_askedLot 13 = .ok (.iconst 1, 1) := by decide +kernel
theorem dX9_askedLot_14 : decode cX9_askedLot 14 = .ok (.invokevirtual 63, 3) := by decide +kernel
theorem dX9_askedLot_17 : decode cX9_askedLot 17 = .ok (.iconst 1, 1) := by decide +kernel
theorem dX9_askedLot_18 : decode cX9_askedLot 18 = .ok (.isub, 1) := by decide +kernel
theorem dX9_askedLot_19 : decode cX9_askedLot 19 = .ok (.invokestatic 135, 3) := by decide +kernel
theorem dX9_askedLot_22 : decode cX9_askedLot 22 = .ok (.iconst 1, 1) := by decide +kernel
theorem dX9_askedLot_23 : decode cX9_askedLot 23 = .ok (.invokevirtual 297, 3) := by decide +kernel
theorem dX9_askedLot_26 : decode cX9_askedLot 26 = .ok (.ifCond .ne 13, 3) := by decide +kernel
theorem dX9_askedLot_29 : decode cX9_askedLot 29 = .ok (.aload_n 0, 1) := by decide +kernel
theorem dX9_askedLot_30 : decode cX9_askedLot 30 = .ok (.iload_n 1, 1) := by decide +kernel
theorem dX9_askedLot_31 : decode cX9_askedLot 31 = .ok (.iload_n 2, 1) := by decide +kernel
theorem dX9_askedLot_32 : decode cX9_askedLot 32 = .ok (.iload_n 3, 1) := by decide +kernel
theorem dX9_askedLot_33 : decode cX9_askedLot 33 = .ok (.invokevirtual 67, 3) := by decide +kernel
theorem dX9_askedLot_36 : decode cX9_askedLot 36 = .ok (.goto 4, 3) := by decide +kernel
theorem dX9_askedLot_39 : decode cX9_askedLot 39 = .ok (.iconst 0, 1) := by decide +kernel
theorem dX9_askedLot_40 : decode cX9_askedLot 40 = .ok (.ireturn, 1) := by decide +kernel
def fX9_askedLot (p1 : Int32) (p2 : Int32) (p3 : Int32) (v : bM) : Option (Int32 × bM) :=
  bnd (fX9_isFlour p1 v) fun r3 w2 => (if r3 = 0 then (some (0, w2)) else (bnr (fX9_flour p1 1 w2) fun r6 => bnr (fX9_inRange p2 0 (r6 - 1)) fun r8 => bnd (fX9_fails r8 1 w2) fun r11 w10 => (if r11 = 0 then (bnr (fX9_lot p1 p2 p3 w10) fun r14 => some (r14, w10)) else (some (0, w10)))))
set_option maxRecDepth 100000 in
set_option maxHeartbeats 4000000 in
theorem mX9_askedLot {l : Launch} {p1 : Int32} {p2 : Int32} {p3 : Int32} {v : bM} {r0 : Int32} {w0 : bM} (hf : fX9_askedLot p1 p2 p3 v = some (r0, w0)) : bMet l yX9_askedLot cX9_askedLot 4 (some .int) 2 0 0 LMo (fun E a => [.ref a, .int p1, .int p2, .int p3]) v w0 (fun _ => some (.int r0)) := by
  refine bk_start (by decide +kernel) wfMo (fun _ _ => Nat.le_of_ble_eq_true rfl) ?_
  intro p e s m args below meth c D E a ls H locs X hr hl hB
  have hx := X.1
  have hb := X.2.1
  have hown := X.2.2.2.1
  have hts := X.2.2.2.2.1
  have hl : lv_has ls 4 [(0, .ref a), (1, .int p1), (2, .int p2), (3, .int p3)] := hl
  have hf := (fX9_askedLot.eq_1 p1 p2 p3 v).symm.trans hf
  refine lv_aload_n hx hb dX9_askedLot_0 rfl (lv_at hl 0 rfl) ?_
  refine lv_iload_n hx hb dX9_askedLot_1 rfl (lv_at hl 1 rfl) ?_
  obtain ⟨r3, w2, hc1, hf⟩ := bnd_some hf
  refine bk_all hB (fun h1 h2 h3 => bk_runV X (Av := [.int p1]) (rest := []) (mX9_isFlour hc1) yv_X9_isFlour wm_1973 ⟨Nat.le_of_ble_eq_true rfl, Nat.le_of_ble_eq_true rfl⟩ rfl rfl hl.1 kl_X9.1 (hB.1.obj lc_Mo_0) h1 h2 h3 (Nat.le_of_ble_eq_true rfl) ⟨Nat.le_of_ble_eq_true rfl, Nat.le_of_ble_eq_true rfl⟩ dX9_askedLot_2) (fun H locs hB => ?_)
  refine W.eq (g2 := F0 m 5 ls [.int r3]) rfl ?_
  refine lv_if_eq (tgt := 39) hx hb dX9_askedLot_5 (by decide) (fun c4 => ?_) (fun c4 => ?_)
  · have hf := (if_pos c4).symm.trans hf
    refine lv_iconst (v := 0) hx hb dX9_askedLot_39 (by decide) ?_
    exact bk_iW X hr rfl hf hB (Nat.le_of_ble_eq_true rfl) (Nat.le_of_ble_eq_true rfl) dX9_askedLot_40
  · have hf := (if_neg c4).symm.trans hf
    refine lv_aload_n hx hb dX9_askedLot_8 rfl (lv_at hl 0 rfl) ?_
    refine lv_iload_n hx hb dX9_askedLot_9 rfl (lv_at hl 2 rfl) ?_
    refine lv_iconst (v := 0) hx hb dX9_askedLot_10 (by decide) ?_
    refine lv_aload_n hx hb dX9_askedLot_11 rfl (lv_at hl 0 rfl) ?_
    refine lv_iload_n hx hb dX9_askedLot_12 rfl (lv_at hl 1 rfl) ?_
    refine lv_iconst (v := 1) hx hb dX9_askedLot_13 (by decide) ?_
    obtain ⟨r6, hc5, hf⟩ := bnr_some hf
    refine bk_all hB (fun h1 h2 h3 => bk_runV X (Av := [.int p1, .int 1]) (rest := [.int 0, .int p2, .ref a]) (mX9_flour hc5) yv_X9_flour wm_1758 ⟨Nat.le_of_ble_eq_true rfl, Nat.le_of_ble_eq_true rfl⟩ rfl rfl hl.1 kl_X9.1 (hB.1.obj lc_Mo_0) h1 h2 h3 (Nat.le_of_ble_eq_true rfl) ⟨Nat.le_of_ble_eq_true rfl, Nat.le_of_ble_eq_true rfl⟩ dX9_askedLot_14) (fun H locs hB => ?_)
    refine W.eq (g2 := F0 m 17 ls [.int r6, .int 0, .int p2, .ref a]) rfl ?_
    refine lv_iconst (v := 1) hx hb dX9_askedLot_17 (by decide) ?_
    refine lv_isub hx hb dX9_askedLot_18 ?_
    obtain ⟨r8, hc7, hf⟩ := bnr_some hf
    refine bk_non (v0 := w2) (w0 := w2) hB (fun h1 h2 h3 => bk_runS X (Av := [.int p2, .int 0, .int (r6 - 1)]) (rest := [.ref a]) (mX9_inRange hc7) ys_X9_inRange wm_1653 ⟨Nat.le_of_ble_eq_true rfl, Nat.le_of_ble_eq_true rfl⟩ rfl rfl hl.1 h1 h2 h3 (Nat.le_of_ble_eq_true rfl) ⟨Nat.le_of_ble_eq_true rfl, Nat.le_of_ble_eq_true rfl⟩ dX9_askedLot_19) (fun H locs hB => ?_)
    refine W.eq (g2 := F0 m 22 ls [.int r8, .ref a]) rfl ?_
    refine lv_iconst (v := 1) hx hb dX9_askedLot_22 (by decide) ?_
    obtain ⟨r11, w10, hc9, hf⟩ := bnd_some hf
    refine bk_all hB (fun h1 h2 h3 => bk_runV X (Av := [.int r8, .int 1]) (rest := []) (mX9_fails hc9) yv_X9_fails wm_1977 ⟨Nat.le_of_ble_eq_true rfl, Nat.le_of_ble_eq_true rfl⟩ rfl rfl hl.1 kl_X9.1 (hB.1.obj lc_Mo_0) h1 h2 h3 (Nat.le_of_ble_eq_true rfl) ⟨Nat.le_of_ble_eq_true rfl, Nat.le_of_ble_eq_true rfl⟩ dX9_askedLot_23) (fun H locs hB => ?_)
    refine W.eq (g2 := F0 m 26 ls [.int r11]) rfl ?_
    refine lv_if_ne (tgt := 39) hx hb dX9_askedLot_26 (by decide) (fun c12 => ?_) (fun c12 => ?_)
    · have hf := (if_neg c12).symm.trans hf
      refine lv_iconst (v := 0) hx hb dX9_askedLot_39 (by decide) ?_
      exact bk_iW X hr rfl hf hB (Nat.le_of_ble_eq_true rfl) (Nat.le_of_ble_eq_true rfl) dX9_askedLot_40
    · have hf := (if_pos c12).symm.trans hf
      refine lv_aload_n hx hb dX9_askedLot_29 rfl (lv_at hl 0 rfl) ?_
      refine lv_iload_n hx hb dX9_askedLot_30 rfl (lv_at hl 1 rfl) ?_
      refine lv_iload_n hx hb dX9_askedLot_31 rfl (lv_at hl 2 rfl) ?_
      refine lv_iload_n hx hb dX9_askedLot_32 rfl (lv_at hl 3 rfl) ?_
      obtain ⟨r14, hc13, hf⟩ := bnr_some hf
      refine bk_all hB (fun h1 h2 h3 => bk_runV X (Av := [.int p1, .int p2, .int p3]) (rest := []) (mX9_lot hc13) yv_X9_lot wm_1786 ⟨Nat.le_of_ble_eq_true rfl, Nat.le_of_ble_eq_true rfl⟩ rfl rfl hl.1 kl_X9.1 (hB.1.obj lc_Mo_0) h1 h2 h3 (Nat.le_of_ble_eq_true rfl) ⟨Nat.le_of_ble_eq_true rfl, Nat.le_of_ble_eq_true rfl⟩ dX9_askedLot_33) (fun H locs hB => ?_)
      refine W.eq (g2 := F0 m 36 ls [.int r14]) rfl ?_
      refine lv_goto (tgt := 40) hx hb dX9_askedLot_36 (by decide) ?_
      exact bk_iW X hr rfl hf hB (Nat.le_of_ble_eq_true rfl) (Nat.le_of_ble_eq_true rfl) dX9_askedLot_40
theorem yv_X9_askedLot : bYv yX9_askedLot RX9 cX9_askedLot 4 (some .int) 3 := ⟨⟨rfl, by decide, by decide, rfl⟩, wm_1995, wp_78, wm_17, wm_1996⟩

theorem dX9_lotUnits_0 : decode cX9_lotUnits 0 = .ok (.aload_n 0, 1) := by decide +kernel
theorem dX9_lotUnits_1 : decode cX9_lotUnits 1 = .ok (.iload_n 1, 1) := by decide +kernel
theorem dX9_lotUnits_2 : decode cX9_lotUnits 2 = .ok (.iload_n 2, 1) := by decide +kernel
theorem dX9_lotUnits_3 : decode cX9_lotUnits 3 = .ok (.iconst 0, 1) := by decide +kernel
theorem dX9_lotUnits_4 : decode cX9_lotUnits 4 = .ok (.invokevirtual 304, 3) := by decide +kernel
theorem dX9_lotUnits_7 : decode cX9_lotUnits 7 = .ok (.ireturn, 1) := by decide +kernel
def fX9_lotUnits (p1 : Int32) (p2 : Int32) (v : bM) : Option (Int32 × bM) :=
  bnd (fX9_askedLot p1 p2 0 v) fun r3 w2 => some (r3, w2)
set_option maxRecDepth 100000 in
set_option maxHeartbeats 4000000 in
theorem mX9_lotUnits {l : Launch} {p1 : Int32} {p2 : Int32} {v : bM} {r0 : Int32} {w0 : bM} (hf : fX9_lotUnits p1 p2 v = some (r0, w0)) : bMet l yX9_lotUnits cX9_lotUnits 3 (some .int) 3 0 0 LMo (fun E a => [.ref a, .int p1, .int p2]) v w0 (fun _ => some (.int r0)) := by
  refine bk_start (by decide +kernel) wfMo (fun _ _ => Nat.le_of_ble_eq_true rfl) ?_
  intro p e s m args below meth c D E a ls H locs X hr hl hB
  have hx := X.1
  have hb := X.2.1
  have hown := X.2.2.2.1
  have hts := X.2.2.2.2.1
  have hl : lv_has ls 3 [(0, .ref a), (1, .int p1), (2, .int p2)] := hl
  have hf := (fX9_lotUnits.eq_1 p1 p2 v).symm.trans hf
  refine lv_aload_n hx hb dX9_lotUnits_0 rfl (lv_at hl 0 rfl) ?_
  refine lv_iload_n hx hb dX9_lotUnits_1 rfl (lv_at hl 1 rfl) ?_
  refine lv_iload_n hx hb dX9_lotUnits_2 rfl (lv_at hl 2 rfl) ?_
  refine lv_iconst (v := 0) hx hb dX9_lotUnits_3 (by decide) ?_
  obtain ⟨r3, w2, hc1, hf⟩ := bnd_some hf
  refine bk_all hB (fun h1 h2 h3 => bk_runV X (Av := [.int p1, .int p2, .int 0]) (rest := []) (mX9_askedLot hc1) yv_X9_askedLot wm_1993 ⟨Nat.le_of_ble_eq_true rfl, Nat.le_of_ble_eq_true rfl⟩ rfl rfl hl.1 kl_X9.1 (hB.1.obj lc_Mo_0) h1 h2 h3 (Nat.le_of_ble_eq_true rfl) ⟨Nat.le_of_ble_eq_true rfl, Nat.le_of_ble_eq_true rfl⟩ dX9_lotUnits_4) (fun H locs hB => ?_)
  refine W.eq (g2 := F0 m 7 ls [.int r3]) rfl ?_
  exact bk_iW X hr rfl hf hB (Nat.le_of_ble_eq_true rfl) (Nat.le_of_ble_eq_true rfl) dX9_lotUnits_7
theorem yv_X9_lotUnits : bYv yX9_lotUnits RX9 cX9_lotUnits 3 (some .int) 2 := ⟨⟨rfl, by decide, by decide, rfl⟩, wm_1990, wm_1991, wm_17, wm_1992⟩

theorem dX9_lotPrice_0 : decode cX9_lotPrice 0 = .ok (.aload_n 0, 1) := by decide +kernel
theorem dX9_lotPrice_1 : decode cX9_lotPrice 1 = .ok (.iload_n 1, 1) := by decide +kernel
theorem dX9_lotPrice_2 : decode cX9_lotPrice 2 = .ok (.iload_n 2, 1) := by decide +kernel
theorem dX9_lotPrice_3 : decode cX9_lotPrice 3 = .ok (.iconst 1, 1) := by decide +kernel
theorem dX9_lotPrice_4 : decode cX9_lotPrice 4 = .ok (.invokevirtual 304, 3) := by decide +kernel
theorem dX9_lotPrice_7 : decode cX9_lotPrice 7 = .ok (.ireturn, 1) := by decide +kernel
def fX9_lotPrice (p1 : Int32) (p2 : Int32) (v : bM) : Option (Int32 × bM) :=
  bnd (fX9_askedLot p1 p2 1 v) fun r3 w2 => some (r3, w2)
set_option maxRecDepth 100000 in
set_option maxHeartbeats 4000000 in
theorem mX9_lotPrice {l : Launch} {p1 : Int32} {p2 : Int32} {v : bM} {r0 : Int32} {w0 : bM} (hf : fX9_lotPrice p1 p2 v = some (r0, w0)) : bMet l yX9_lotPrice cX9_lotPrice 3 (some .int) 3 0 0 LMo (fun E a => [.ref a, .int p1, .int p2]) v w0 (fun _ => some (.int r0)) := by
  refine bk_start (by decide +kernel) wfMo (fun _ _ => Nat.le_of_ble_eq_true rfl) ?_
  intro p e s m args below meth c D E a ls H locs X hr hl hB
  have hx := X.1
  have hb := X.2.1
  have hown := X.2.2.2.1
  have hts := X.2.2.2.2.1
  have hl : lv_has ls 3 [(0, .ref a), (1, .int p1), (2, .int p2)] := hl
  have hf := (fX9_lotPrice.eq_1 p1 p2 v).symm.trans hf
  refine lv_aload_n hx hb dX9_lotPrice_0 rfl (lv_at hl 0 rfl) ?_
  refine lv_iload_n hx hb dX9_lotPrice_1 rfl (lv_at hl 1 rfl) ?_
  refine lv_iload_n hx hb dX9_lotPrice_2 rfl (lv_at hl 2 rfl) ?_
  refine lv_iconst (v := 1) hx hb dX9_lotPrice_3 (by decide) ?_
  obtain ⟨r3, w2, hc1, hf⟩ := bnd_some hf
  refine bk_all hB (fun h1 h2 h3 => bk_runV X (Av := [.int p1, .int p2, .int 1]) (rest := []) (mX9_askedLot hc1) yv_X9_askedLot wm_1993 ⟨Nat.le_of_ble_eq_true rfl, Nat.le_of_ble_eq_true rfl⟩ rfl rfl hl.1 kl_X9.1 (hB.1.obj lc_Mo_0) h1 h2 h3 (Nat.le_of_ble_eq_true rfl) ⟨Nat.le_of_ble_eq_true rfl, Nat.le_of_ble_eq_true rfl⟩ dX9_lotPrice_4) (fun H locs hB => ?_)
  refine W.eq (g2 := F0 m 7 ls [.int r3]) rfl ?_
  exact bk_iW X hr rfl hf hB (Nat.le_of_ble_eq_true rfl) (Nat.le_of_ble_eq_true rfl) dX9_lotPrice_7
theorem yv_X9_lotPrice : bYv yX9_lotPrice RX9 cX9_lotPrice 3 (some .int) 2 := ⟨⟨rfl, by decide, by decide, rfl⟩, wm_1998, wm_1999, wm_17, wm_2000⟩

theorem dX9_isBread_0 : decode cX9_isBread 0 = .ok (.aload_n 0, 1) := by decide +kernel
theorem dX9_isBread_1 : decode cX9_isBread 1 = .ok (.iconst 0, 1) := by decide +kernel
theorem dX9_isBread_2 : decode cX9_isBread 2 = .ok (.putfield 60, 3) := by decide +kernel
theorem dX9_isBread_5 : decode cX9_isBread 5 = .ok (.aload_n 0, 1) := by decide +kernel
theorem dX9_isBread_6 : decode cX9_isBread 6 = .ok (.iload_n 1, 1) := by decide +kernel
theorem dX9_isBread_7 : decode cX9_isBread 7 = .ok (.iconst 0, 1) := by decide +kernel
theorem dX9_isBread_8 : decode cX9_isBread 8 = .ok (.aload_n 0, 1) := by decide +kernel
theorem dX9_isBread_9 : decode cX9_isBread 9 = .ok (.getfield 17, 3) := by decide +kernel
theorem dX9_isBread_12 : decode cX9_isBread 12 = .ok (.bipush 6, 2) := by decide +kernel
theorem dX9_isBread_14 : decode cX9_isBread 14 = .ok (.iaload, 1) := by decide +kernel
theorem dX9_isBread_15 : decode cX9_isBread 15 = .ok (.iconst 1, 1) := by decide +kernel
theorem dX9_isBread_16 : decode cX9_isBread 16 = .ok (.isub, 1) := by decide +kernel
theorem dX9_isBread_17 : decode cX9_isBread 17 = .ok (.invokestatic 135, 3) := by decide +kernel
theorem dX9_isBread_20 : decode cX9_isBread 20 = .ok (.iconst 1, 1) := by decide +kernel
theorem dX9_isBread_21 : decode cX9_isBread 21 = .ok (.invokevirtual 297, 3) := by decide +kernel
theorem dX9_isBread_24 : decode cX9_isBread 24 = .ok (.ifCond .ne 7, 3) := by decide +kernel
theorem dX9_isBread_27 : decode cX9_isBread 27 = .ok (.iconst 1, 1) := by decide +kernel
theorem dX9_isBread_28 : decode cX9_isBread 28 = .ok (.goto 4, 3) := by decide +kernel
theorem dX9_isBread_31 : decode cX9_isBread 31 = .ok (.iconst 0, 1) := by decide +kernel
theorem dX9_isBread_32 : decode cX9_isBread 32 = .ok (.ireturn, 1) := by decide +kernel
def fX9_isBread (p1 : Int32) (v : bM) : Option (Int32 × bM) :=
  nm (upd v 3 0) fun v1 => bnr (fX9_inRange p1 0 ((v1 (710 + (6 : Int32).toNatClampNeg)) - 1)) fun r3 => bnd (fX9_fails r3 1 v1) fun r6 w5 => (if r6 = 0 then (some (1, w5)) else (some (0, w5)))
set_option maxRecDepth 100000 in
set_option maxHeartbeats 4000000 in
theorem mX9_isBread {l : Launch} {p1 : Int32} {v : bM} {r0 : Int32} {w0 : bM} (hf : fX9_isBread p1 v = some (r0, w0)) : bMet l yX9_isBread cX9_isBread 2 (some .boolean) 1 0 0 LMo (fun E a => [.ref a, .int p1]) v w0 (fun _ => some (.int r0)) := by
  refine bk_start (by decide +kernel) wfMo (fun _ _ => Nat.le_of_ble_eq_true rfl) ?_
  intro p e s m args below meth c D E a ls H locs X hr hl hB
  have hx := X.1
  have hb := X.2.1
  have hown := X.2.2.2.1
  have hts := X.2.2.2.2.1
  have hl : lv_has ls 2 [(0, .ref a), (1, .int p1)] := hl
  have hf := (fX9_isBread.eq_1 p1 v).symm.trans hf
  refine lv_aload_n hx hb dX9_isBread_0 rfl (lv_at hl 0 rfl) ?_
  refine lv_iconst (v := 0) hx hb dX9_isBread_1 (by decide) ?_
  refine bk_putI X hB kl_X9 0 lc_Mo_0 4 (by decide) rfl rfl rfl wm_1867 dX9_isBread_2 rfl (fun H locs hB => ?_)
  obtain ⟨v1, ev1⟩ : ∃ y : bM, y = upd v 3 0 := ⟨_, rfl⟩
  have hf := nm_use hf ev1
  rw [← ev1] at hB
  refine lv_aload_n hx hb dX9_isBread_5 rfl (lv_at hl 0 rfl) ?_
  refine lv_iload_n hx hb dX9_isBread_6 rfl (lv_at hl 1 rfl) ?_
  refine lv_iconst (v := 0) hx hb dX9_isBread_7 (by decide) ?_
  refine lv_aload_n hx hb dX9_isBread_8 rfl (lv_at hl 0 rfl) ?_
  refine bk_getR X hB kl_X9 0 lc_Mo_0 5 (by decide) rfl wm_1868 dX9_isBread_9 ?_
  refine lv_bipush (v := 6) hx hb dX9_isBread_12 (by decide) ?_
  refine bk_ald X hB 2 lc_Mo_2 (vp_c 6 496 rfl) dX9_isBread_14 ?_
  refine lv_iconst (v := 1) hx hb dX9_isBread_15 (by decide) ?_
  refine lv_isub hx hb dX9_isBread_16 ?_
  obtain ⟨r3, hc2, hf⟩ := bnr_some hf
  refine bk_non (v0 := v1) (w0 := v1) hB (fun h1 h2 h3 => bk_runS X (Av := [.int p1, .int 0, .int ((v1 (710 + (6 : Int32).toNatClampNeg)) - 1)]) (rest := [.ref a]) (mX9_inRange hc2) ys_X9_inRange wm_1653 ⟨Nat.le_of_ble_eq_true rfl, Nat.le_of_ble_eq_true rfl⟩ rfl rfl hl.1 h1 h2 h3 (Nat.le_of_ble_eq_true rfl) ⟨Nat.le_of_ble_eq_true rfl, Nat.le_of_ble_eq_true rfl⟩ dX9_isBread_17) (fun H locs hB => ?_)
  refine W.eq (g2 := F0 m 20 ls [.int r3, .ref a]) rfl ?_
  refine lv_iconst (v := 1) hx hb dX9_isBread_20 (by decide) ?_
  obtain ⟨r6, w5, hc4, hf⟩ := bnd_some hf
  refine bk_all hB (fun h1 h2 h3 => bk_runV X (Av := [.int r3, .int 1]) (rest := []) (mX9_fails hc4) yv_X9_fails wm_1977 ⟨Nat.le_of_ble_eq_true rfl, Nat.le_of_ble_eq_true rfl⟩ rfl rfl hl.1 kl_X9.1 (hB.1.obj lc_Mo_0) h1 h2 h3 (Nat.le_of_ble_eq_true rfl) ⟨Nat.le_of_ble_eq_true rfl, Nat.le_of_ble_eq_true rfl⟩ dX9_isBread_21) (fun H locs hB => ?_)
  refine W.eq (g2 := F0 m 24 ls [.int r6]) rfl ?_
  refine lv_if_ne (tgt := 31) hx hb dX9_isBread_24 (by decide) (fun c7 => ?_) (fun c7 => ?_)
  · have hf := (if_neg c7).symm.trans hf
    refine lv_iconst (v := 0) hx hb dX9_isBread_31 (by decide) ?_
    exact bk_zW X hr rfl rfl hf hB (Nat.le_of_ble_eq_true rfl) (Nat.le_of_ble_eq_true rfl) dX9_isBread_32
  · have hf := (if_pos c7).symm.trans hf
    refine lv_iconst (v := 1) hx hb dX9_isBread_27 (by decide) ?_
    refine lv_goto (tgt := 32) hx hb dX9_isBread_28 (by decide) ?_
    exact bk_zW X hr rfl rfl hf hB (Nat.le_of_ble_eq_true rfl) (Nat.le_of_ble_eq_true rfl) dX9_isBread_32
theorem yv_X9_isBread : bYv yX9_isBread RX9 cX9_isBread 2 (some .boolean) 1 := ⟨⟨rfl, by decide, by decide, rfl⟩, wm_2011, wp_79, wm_17, wm_2012⟩

theorem dX9_breadCount_0 : decode cX9_breadCount 0 = .ok (.aload_n 0, 1) := by decide +kernel
theorem dX9_breadCount_1 : decode cX9_breadCount 1 = .ok (.aload_n 0, 1) := by decide +kernel
theorem dX9_breadCount_2 : decode cX9_breadCount 2 = .ok (.getfield 17, 3) := by decide +kernel
theorem dX9_breadCount_5 : decode cX9_breadCount 5 = .ok (.bipush 6, 2) := by decide +kernel
theorem dX9_breadCount_7 : decode cX9_breadCount 7 = .ok (.iaload, 1) := by decide +kernel
theorem dX9_breadCount_8 : decode cX9_breadCount 8 = .ok (.invokevirtual 294, 3) := by decide +kernel
theorem dX9_breadCount_11 : decode cX9_breadCount 11 = .ok (.ireturn, 1) := by decide +kernel
def fX9_breadCount  (v : bM) : Option (Int32 × bM) :=
  bnd (fX9_plain (v (710 + (6 : Int32).toNatClampNeg)) v) fun r3 w2 => some (r3, w2)
set_option maxRecDepth 100000 in
set_option maxHeartbeats 4000000 in
theorem mX9_breadCount {l : Launch}  {v : bM} {r0 : Int32} {w0 : bM} (hf : fX9_breadCount  v = some (r0, w0)) : bMet l yX9_breadCount cX9_breadCount 1 (some .int) 1 0 0 LMo (fun E a => [.ref a]) v w0 (fun _ => some (.int r0)) := by
  refine bk_start (by decide +kernel) wfMo (fun _ _ => Nat.le_of_ble_eq_true rfl) ?_
  intro p e s m args below meth c D E a ls H locs X hr hl hB
  have hx := X.1
  have hb := X.2.1
  have hown := X.2.2.2.1
  have hts := X.2.2.2.2.1
  have hl : lv_has ls 1 [(0, .ref a)] := hl
  have hf := (fX9_breadCount.eq_1  v).symm.trans hf
  refine lv_aload_n hx hb dX9_breadCount_0 rfl (lv_at hl 0 rfl) ?_
  refine lv_aload_n hx hb dX9_breadCount_1 rfl (lv_at hl 0 rfl) ?_
  refine bk_getR X hB kl_X9 0 lc_Mo_0 5 (by decide) rfl wm_1868 dX9_breadCount_2 ?_
  refine lv_bipush (v := 6) hx hb dX9_breadCount_5 (by decide) ?_
  refine bk_ald X hB 2 lc_Mo_2 (vp_c 6 496 rfl) dX9_breadCount_7 ?_
  obtain ⟨r3, w2, hc1, hf⟩ := bnd_some hf
  refine bk_all hB (fun h1 h2 h3 => bk_runV X (Av := [.int (v (710 + (6 : Int32).toNatClampNeg))]) (rest := []) (mX9_plain hc1) yv_X9_plain wm_1945 ⟨Nat.le_of_ble_eq_true rfl, Nat.le_of_ble_eq_true rfl⟩ rfl rfl hl.1 kl_X9.1 (hB.1.obj lc_Mo_0) h1 h2 h3 (Nat.le_of_ble_eq_true rfl) ⟨Nat.le_of_ble_eq_true rfl, Nat.le_of_ble_eq_true rfl⟩ dX9_breadCount_8) (fun H locs hB => ?_)
  refine W.eq (g2 := F0 m 11 ls [.int r3]) rfl ?_
  exact bk_iW X hr rfl hf hB (Nat.le_of_ble_eq_true rfl) (Nat.le_of_ble_eq_true rfl) dX9_breadCount_11
theorem yv_X9_breadCount : bYv yX9_breadCount RX9 cX9_breadCount 1 (some .int) 0 := ⟨⟨rfl, by decide, by decide, rfl⟩, wm_2002, wm_2003, wm_17, wm_2004⟩

theorem dX9_listPrice_0 : decode cX9_listPrice 0 = .ok (.aload_n 0, 1) := by decide +kernel
theorem dX9_listPrice_1 : decode cX9_listPrice 1 = .ok (.iload_n 1, 1) := by decide +kernel
theorem dX9_listPrice_2 : decode cX9_listPrice 2 = .ok (.invokevirtual 307, 3) := by decide +kernel
theorem dX9_listPrice_5 : decode cX9_listPrice 5 = .ok (.ifCond .eq 12, 3) := by decide +kernel
theorem dX9_listPrice_8 : decode cX9_listPrice 8 = .ok (.aload_n 0, 1) := by decide +kernel
theorem dX9_listPrice_9 : decode cX9_listPrice 9 = .ok (.iload_n 1, 1) := by decide +kernel
theorem dX9_listPrice_10 : decode cX9_listPrice 10 = .ok (.iconst 0, 1) := by decide +kernel
theorem dX9_listPrice_11 : decode cX9_listPrice 11 = .ok (.invokevirtual 71, 3) := by decide +kernel
theorem dX9_listPrice_14 : decode cX9_listPrice 14 = .ok (.goto 4, 3) := by decide +kernel
theorem dX9_listPrice_17 : decode cX9_listPrice 17 = .ok (.iconst 0, 1) := by decide +kernel
theorem dX9_listPrice_18 : decode cX9_listPrice 18 = .ok (.ireturn, 1) := by decide +kernel
def fX9_listPrice (p1 : Int32) (v : bM) : Option (Int32 × bM) :=
  bnd (fX9_isBread p1 v) fun r3 w2 => (if r3 = 0 then (some (0, w2)) else (bnr (fX9_bread p1 0 w2) fun r6 => some (r6, w2)))
set_option maxRecDepth 100000 in
set_option maxHeartbeats 4000000 in
theorem mX9_listPrice {l : Launch} {p1 : Int32} {v : bM} {r0 : Int32} {w0 : bM} (hf : fX9_listPrice p1 v = some (r0, w0)) : bMet l yX9_listPrice cX9_listPrice 2 (some .int) 2 0 0 LMo (fun E a => [.ref a, .int p1]) v w0 (fun _ => some (.int r0)) := by
  refine bk_start (by decide +kernel) wfMo (fun _ _ => Nat.le_of_ble_eq_true rfl) ?_
  intro p e s m args below meth c D E a ls H locs X hr hl hB
  have hx := X.1
  have hb := X.2.1
  have hown := X.2.2.2.1
  have hts := X.2.2.2.2.1
  have hl : lv_has ls 2 [(0, .ref a), (1, .int p1)] := hl
  have hf := (fX9_listPrice.eq_1 p1 v).symm.trans hf
  refine lv_aload_n hx hb dX9_listPrice_0 rfl (lv_at hl 0 rfl) ?_
  refine lv_iload_n hx hb dX9_listPrice_1 rfl (lv_at hl 1 rfl) ?_
  obtain ⟨r3, w2, hc1, hf⟩ := bnd_some hf
  refine bk_all hB (fun h1 h2 h3 => bk_runV X (Av := [.int p1]) (rest := []) (mX9_isBread hc1) yv_X9_isBread wm_2009 ⟨Nat.le_of_ble_eq_true rfl, Nat.le_of_ble_eq_true rfl⟩ rfl rfl hl.1 kl_X9.1 (hB.1.obj lc_Mo_0) h1 h2 h3 (Nat.le_of_ble_eq_true rfl) ⟨Nat.le_of_ble_eq_true rfl, Nat.le_of_ble_eq_true rfl⟩ dX9_listPrice_2) (fun H locs hB => ?_)
  refine W.eq (g2 := F0 m 5 ls [.int r3]) rfl ?_
  refine lv_if_eq (tgt := 17) hx hb dX9_listPrice_5 (by decide) (fun c4 => ?_) (fun c4 => ?_)
  · have hf := (if_pos c4).symm.trans hf
    refine lv_iconst (v := 0) hx hb dX9_listPrice_17 (by decide) ?_
    exact bk_iW X hr rfl hf hB (Nat.le_of_ble_eq_true rfl) (Nat.le_of_ble_eq_true rfl) dX9_listPrice_18
  · have hf := (if_neg c4).symm.trans hf
    refine lv_aload_n hx hb dX9_listPrice_8 rfl (lv_at hl 0 rfl) ?_
    refine lv_iload_n hx hb dX9_listPrice_9 rfl (lv_at hl 1 rfl) ?_
    refine lv_iconst (v := 0) hx hb dX9_listPrice_10 (by decide) ?_
    obtain ⟨r6, hc5, hf⟩ := bnr_some hf
    refine bk_all hB (fun h1 h2 h3 => bk_runV X (Av := [.int p1, .int 0]) (rest := []) (mX9_bread hc5) yv_X9_bread wm_1774 ⟨Nat.le_of_ble_eq_true rfl, Nat.le_of_ble_eq_true rfl⟩ rfl rfl hl.1 kl_X9.1 (hB.1.obj lc_Mo_0) h1 h2 h3 (Nat.le_of_ble_eq_true rfl) ⟨Nat.le_of_ble_eq_true rfl, Nat.le_of_ble_eq_true rfl⟩ dX9_listPrice_11) (fun H locs hB => ?_)
    refine W.eq (g2 := F0 m 14 ls [.int r6]) rfl ?_
    refine lv_goto (tgt := 18) hx hb dX9_listPrice_14 (by decide) ?_
    exact bk_iW X hr rfl hf hB (Nat.le_of_ble_eq_true rfl) (Nat.le_of_ble_eq_true rfl) dX9_listPrice_18
theorem yv_X9_listPrice : bYv yX9_listPrice RX9 cX9_listPrice 2 (some .int) 1 := ⟨⟨rfl, by decide, by decide, rfl⟩, wm_2006, wm_2007, wm_17, wm_2008⟩

theorem dX9_minutesOf_0 : decode cX9_minutesOf 0 = .ok (.aload_n 0, 1) := by decide +kernel
theorem dX9_minutesOf_1 : decode cX9_minutesOf 1 = .ok (.iload_n 1, 1) := by decide +kernel
theorem dX9_minutesOf_2 : decode cX9_minutesOf 2 = .ok (.invokevirtual 307, 3) := by decide +kernel
theorem dX9_minutesOf_5 : decode cX9_minutesOf 5 = .ok (.ifCond .eq 12, 3) := by decide +kernel
theorem dX9_minutesOf_8 : decode cX9_minutesOf 8 = .ok (.aload_n 0, 1) := by decide +kernel
theorem dX9_minutesOf_9 : decode cX9_minutesOf 9 = .ok (.iload_n 1, 1) := by decide +kernel
theorem dX9_minutesOf_10 : decode cX9_minutesOf 10 = .ok (.iconst 1, 1) := by decide +kernel
theorem dX9_minutesOf_11 : decode cX9_minutesOf 11 = .ok (.invokevirtual 71, 3) := by decide +kernel
theorem dX9_minutesOf_14 : decode cX9_minutesOf 14 = .ok (.goto 4, 3) := by decide +kernel
theorem dX9_minutesOf_17 : decode cX9_minutesOf 17 = .ok (.iconst 0, 1) := by decide +kernel
theorem dX9_minutesOf_18 : decode cX9_minutesOf 18 = .ok (.ireturn, 1) := by decide +kernel
def fX9_minutesOf (p1 : Int32) (v : bM) : Option (Int32 × bM) :=
  bnd (fX9_isBread p1 v) fun r3 w2 => (if r3 = 0 then (some (0, w2)) else (bnr (fX9_bread p1 1 w2) fun r6 => some (r6, w2)))
set_option maxRecDepth 100000 in
set_option maxHeartbeats 4000000 in
theorem mX9_minutesOf {l : Launch} {p1 : Int32} {v : bM} {r0 : Int32} {w0 : bM} (hf : fX9_minutesOf p1 v = some (r0, w0)) : bMet l yX9_minutesOf cX9_minutesOf 2 (some .int) 2 0 0 LMo (fun E a => [.ref a, .int p1]) v w0 (fun _ => some (.int r0)) := by
  refine bk_start (by decide +kernel) wfMo (fun _ _ => Nat.le_of_ble_eq_true rfl) ?_
  intro p e s m args below meth c D E a ls H locs X hr hl hB
  have hx := X.1
  have hb := X.2.1
  have hown := X.2.2.2.1
  have hts := X.2.2.2.2.1
  have hl : lv_has ls 2 [(0, .ref a), (1, .int p1)] := hl
  have hf := (fX9_minutesOf.eq_1 p1 v).symm.trans hf
  refine lv_aload_n hx hb dX9_minutesOf_0 rfl (lv_at hl 0 rfl) ?_
  refine lv_iload_n hx hb dX9_minutesOf_1 rfl (lv_at hl 1 rfl) ?_
  obtain ⟨r3, w2, hc1, hf⟩ := bnd_some hf
  refine bk_all hB (fun h1 h2 h3 => bk_runV X (Av := [.int p1]) (rest := []) (mX9_isBread hc1) yv_X9_isBread wm_2009 ⟨Nat.le_of_ble_eq_true rfl, Nat.le_of_ble_eq_true rfl⟩ rfl rfl hl.1 kl_X9.1 (hB.1.obj lc_Mo_0) h1 h2 h3 (Nat.le_of_ble_eq_true rfl) ⟨Nat.le_of_ble_eq_true rfl, Nat.le_of_ble_eq_true rfl⟩ dX9_minutesOf_2) (fun H locs hB => ?_)
  refine W.eq (g2 := F0 m 5 ls [.int r3]) rfl ?_
  refine lv_if_eq (tgt := 17) hx hb dX9_minutesOf_5 (by decide) (fun c4 => ?_) (fun c4 => ?_)
  · have hf := (if_pos c4).symm.trans hf
    refine lv_iconst (v := 0) hx hb dX9_minutesOf_17 (by decide) ?_
    exact bk_iW X hr rfl hf hB (Nat.le_of_ble_eq_true rfl) (Nat.le_of_ble_eq_true rfl) dX9_minutesOf_18
  · have hf := (if_neg c4).symm.trans hf
    refine lv_aload_n hx hb dX9_minutesOf_8 rfl (lv_at hl 0 rfl) ?_
    refine lv_iload_n hx hb dX9_minutesOf_9 rfl (lv_at hl 1 rfl) ?_
    refine lv_iconst (v := 1) hx hb dX9_minutesOf_10 (by decide) ?_
    obtain ⟨r6, hc5, hf⟩ := bnr_some hf
    refine bk_all hB (fun h1 h2 h3 => bk_runV X (Av := [.int p1, .int 1]) (rest := []) (mX9_bread hc5) yv_X9_bread wm_1774 ⟨Nat.le_of_ble_eq_true rfl, Nat.le_of_ble_eq_true rfl⟩ rfl rfl hl.1 kl_X9.1 (hB.1.obj lc_Mo_0) h1 h2 h3 (Nat.le_of_ble_eq_true rfl) ⟨Nat.le_of_ble_eq_true rfl, Nat.le_of_ble_eq_true rfl⟩ dX9_minutesOf_11) (fun H locs hB => ?_)
    refine W.eq (g2 := F0 m 14 ls [.int r6]) rfl ?_
    refine lv_goto (tgt := 18) hx hb dX9_minutesOf_14 (by decide) ?_
    exact bk_iW X hr rfl hf hB (Nat.le_of_ble_eq_true rfl) (Nat.le_of_ble_eq_true rfl) dX9_minutesOf_18
theorem yv_X9_minutesOf : bYv yX9_minutesOf RX9 cX9_minutesOf 2 (some .int) 1 := ⟨⟨rfl, by decide, by decide, rfl⟩, wm_2014, wm_2015, wm_17, wm_2016⟩

theorem dX9_amountOf_0 : decode cX9_amountOf 0 = .ok (.aload_n 0, 1) := by decide +kernel
theorem dX9_amountOf_1 : decode cX9_amountOf 1 = .ok (.iload_n 1, 1) := by decide +kernel
theorem dX9_amountOf_2 : decode cX9_amountOf 2 = .ok (.invokevirtual 307, 3) := by decide +kernel
theorem dX9_amountOf_5 : decode cX9_amountOf 5 = .ok (.ifCond .eq 20, 3) := by decide +kernel
theorem dX9_amountOf_8 : decode cX9_amountOf 8 = .ok (.aload_n 0, 1) := by decide +kernel
theorem dX9_amountOf_9 : decode cX9_amountOf 9 = .ok (.iload_n 2, 1) := by decide +kernel
theorem dX9_amountOf_10 : decode cX9_amountOf 10 = .ok (.invokevirtual 301, 3) := by decide +kernel
theorem dX9_amountOf_13 : decode cX9_amountOf 13 = .ok (.ifCond .eq 12, 3) := by decide +kernel
theorem dX9_amountOf_16 : decode cX9_amountOf 16 = .ok (.aload_n 0, 1) := by decide +kernel
theorem dX9_amountOf_17 : decode cX9_amountOf 17 = .ok (.iload_n 1, 1) := by decide +kernel
theorem dX9_amountOf_18 : decode cX9_amountOf 18 = .ok (.iload_n 2, 1) := by decide +kernel
theorem dX9_amountOf_19 : decode cX9_amountOf 19 = .ok (.invokevirtual 77, 3) := by decide +kernel
theorem dX9_amountOf_22 : decode cX9_amountOf 22 = .ok (.goto 4, 3) := by decide +kernel
theorem dX9_amountOf_25 : decode cX9_amountOf 25 = .ok (.iconst 0, 1) := by decide +kernel
theorem dX9_amountOf_26 : decode cX9_amountOf 26 = .ok (.ireturn, 1) := by decide +kernel
def fX9_amountOf (p1 : Int32) (p2 : Int32) (v : bM) : Option (Int32 × bM) :=
  bnd (fX9_isBread p1 v) fun r3 w2 => (if r3 = 0 then (some (0, w2)) else (bnd (fX9_isFlour p2 w2) fun r7 w6 => (if r7 = 0 then (some (0, w6)) else (bnr (fX9_amount p1 p2 w6) fun r10 => some (r10, w6)))))
set_option maxRecDepth 100000 in
set_option maxHeartbeats 4000000 in
theorem mX9_amountOf {l : Launch} {p1 : Int32} {p2 : Int32} {v : bM} {r0 : Int32} {w0 : bM} (hf : fX9_amountOf p1 p2 v = some (r0, w0)) : bMet l yX9_amountOf cX9_amountOf 3 (some .int) 2 0 0 LMo (fun E a => [.ref a, .int p1, .int p2]) v w0 (fun _ => some (.int r0)) := by
  refine bk_start (by decide +kernel) wfMo (fun _ _ => Nat.le_of_ble_eq_true rfl) ?_
  intro p e s m args below meth c D E a ls H locs X hr hl hB
  have hx := X.1
  have hb := X.2.1
  have hown := X.2.2.2.1
  have hts := X.2.2.2.2.1
  have hl : lv_has ls 3 [(0, .ref a), (1, .int p1), (2, .int p2)] := hl
  have hf := (fX9_amountOf.eq_1 p1 p2 v).symm.trans hf
  refine lv_aload_n hx hb dX9_amountOf_0 rfl (lv_at hl 0 rfl) ?_
  refine lv_iload_n hx hb dX9_amountOf_1 rfl (lv_at hl 1 rfl) ?_
  obtain ⟨r3, w2, hc1, hf⟩ := bnd_some hf
  refine bk_all hB (fun h1 h2 h3 => bk_runV X (Av := [.int p1]) (rest := []) (mX9_isBread hc1) yv_X9_isBread wm_2009 ⟨Nat.le_of_ble_eq_true rfl, Nat.le_of_ble_eq_true rfl⟩ rfl rfl hl.1 kl_X9.1 (hB.1.obj lc_Mo_0) h1 h2 h3 (Nat.le_of_ble_eq_true rfl) ⟨Nat.le_of_ble_eq_true rfl, Nat.le_of_ble_eq_true rfl⟩ dX9_amountOf_2) (fun H locs hB => ?_)
  refine W.eq (g2 := F0 m 5 ls [.int r3]) rfl ?_
  refine lv_if_eq (tgt := 25) hx hb dX9_amountOf_5 (by decide) (fun c4 => ?_) (fun c4 => ?_)
  · have hf := (if_pos c4).symm.trans hf
    refine lv_iconst (v := 0) hx hb dX9_amountOf_25 (by decide) ?_
    exact bk_iW X hr rfl hf hB (Nat.le_of_ble_eq_true rfl) (Nat.le_of_ble_eq_true rfl) dX9_amountOf_26
  · have hf := (if_neg c4).symm.trans hf
    refine lv_aload_n hx hb dX9_amountOf_8 rfl (lv_at hl 0 rfl) ?_
    refine lv_iload_n hx hb dX9_amountOf_9 rfl (lv_at hl 2 rfl) ?_
    obtain ⟨r7, w6, hc5, hf⟩ := bnd_some hf
    refine bk_all hB (fun h1 h2 h3 => bk_runV X (Av := [.int p2]) (rest := []) (mX9_isFlour hc5) yv_X9_isFlour wm_1973 ⟨Nat.le_of_ble_eq_true rfl, Nat.le_of_ble_eq_true rfl⟩ rfl rfl hl.1 kl_X9.1 (hB.1.obj lc_Mo_0) h1 h2 h3 (Nat.le_of_ble_eq_true rfl) ⟨Nat.le_of_ble_eq_true rfl, Nat.le_of_ble_eq_true rfl⟩ dX9_amountOf_10) (fun H locs hB => ?_)
    refine W.eq (g2 := F0 m 13 ls [.int r7]) rfl ?_
    refine lv_if_eq (tgt := 25) hx hb dX9_amountOf_13 (by decide) (fun c8 => ?_) (fun c8 => ?_)
    · have hf := (if_pos c8).symm.trans hf
      refine lv_iconst (v := 0) hx hb dX9_amountOf_25 (by decide) ?_
      exact bk_iW X hr rfl hf hB (Nat.le_of_ble_eq_true rfl) (Nat.le_of_ble_eq_true rfl) dX9_amountOf_26
    · have hf := (if_neg c8).symm.trans hf
      refine lv_aload_n hx hb dX9_amountOf_16 rfl (lv_at hl 0 rfl) ?_
      refine lv_iload_n hx hb dX9_amountOf_17 rfl (lv_at hl 1 rfl) ?_
      refine lv_iload_n hx hb dX9_amountOf_18 rfl (lv_at hl 2 rfl) ?_
      obtain ⟨r10, hc9, hf⟩ := bnr_some hf
      refine bk_all hB (fun h1 h2 h3 => bk_runV X (Av := [.int p1, .int p2]) (rest := []) (mX9_amount hc9) yv_X9_amount wm_1770 ⟨Nat.le_of_ble_eq_true rfl, Nat.le_of_ble_eq_true rfl⟩ rfl rfl hl.1 kl_X9.1 (hB.1.obj lc_Mo_0) h1 h2 h3 (Nat.le_of_ble_eq_true rfl) ⟨Nat.le_of_ble_eq_true rfl, Nat.le_of_ble_eq_true rfl⟩ dX9_amountOf_19) (fun H locs hB => ?_)
      refine W.eq (g2 := F0 m 22 ls [.int r10]) rfl ?_
      refine lv_goto (tgt := 26) hx hb dX9_amountOf_22 (by decide) ?_
      exact bk_iW X hr rfl hf hB (Nat.le_of_ble_eq_true rfl) (Nat.le_of_ble_eq_true rfl) dX9_amountOf_26
theorem yv_X9_amountOf : bYv yX9_amountOf RX9 cX9_amountOf 3 (some .int) 2 := ⟨⟨rfl, by decide, by decide, rfl⟩, wm_2018, wm_2019, wm_17, wm_2020⟩

theorem dX9_standardCost_0 : decode cX9_standardCost 0 = .ok (.aload_n 0, 1) := by decide +kernel
theorem dX9_standardCost_1 : decode cX9_standardCost 1 = .ok (.iload_n 1, 1) := by decide +kernel
theorem dX9_standardCost_2 : decode cX9_standardCost 2 = .ok (.invokevirtual 307, 3) := by decide +kernel
theorem dX9_standardCost_5 : decode cX9_standardCost 5 = .ok (.ifCond .eq 11, 3) := by decide +kernel
theorem dX9_standardCost_8 : decode cX9_standardCost 8 = .ok (.aload_n 0, 1) := by decide +kernel
theorem dX9_standardCost_9 : decode cX9_standardCost 9 = .ok (.iload_n 1, 1) := by decide +kernel
theorem dX9_standardCost_10 : decode cX9_standardCost 10 = .ok (.invokevirtual 121, 3) := by decide +kernel
theorem dX9_standardCost_13 : decode cX9_standardCost 13 = .ok (.goto 4, 3) := by decide +kernel
theorem dX9_standardCost_16 : decode cX9_standardCost 16 = .ok (.iconst 0, 1) := by decide +kernel
theorem dX9_standardCost_17 : decode cX9_standardCost 17 = .ok (.ireturn, 1) := by decide +kernel
def fX9_standardCost (p1 : Int32) (v : bM) : Option (Int32 × bM) :=
  bnd (fX9_isBread p1 v) fun r3 w2 => (if r3 = 0 then (some (0, w2)) else (bnr (fX9_standard p1 w2) fun r6 => some (r6, w2)))
set_option maxRecDepth 100000 in
set_option maxHeartbeats 4000000 in
theorem mX9_standardCost {l : Launch} {p1 : Int32} {v : bM} {r0 : Int32} {w0 : bM} (hf : fX9_standardCost p1 v = some (r0, w0)) : bMet l yX9_standardCost cX9_standardCost 2 (some .int) 3 0 0 LMo (fun E a => [.ref a, .int p1]) v w0 (fun _ => some (.int r0)) := by
  refine bk_start (by decide +kernel) wfMo (fun _ _ => Nat.le_of_ble_eq_true rfl) ?_
  intro p e s m args below meth c D E a ls H locs X hr hl hB
  have hx := X.1
  have hb := X.2.1
  have hown := X.2.2.2.1
  have hts := X.2.2.2.2.1
  have hl : lv_has ls 2 [(0, .ref a), (1, .int p1)] := hl
  have hf := (fX9_standardCost.eq_1 p1 v).symm.trans hf
  refine lv_aload_n hx hb dX9_standardCost_0 rfl (lv_at hl 0 rfl) ?_
  refine lv_iload_n hx hb dX9_standardCost_1 rfl (lv_at hl 1 rfl) ?_
  obtain ⟨r3, w2, hc1, hf⟩ := bnd_some hf
  refine bk_all hB (fun h1 h2 h3 => bk_runV X (Av := [.int p1]) (rest := []) (mX9_isBread hc1) yv_X9_isBread wm_2009 ⟨Nat.le_of_ble_eq_true rfl, Nat.le_of_ble_eq_true rfl⟩ rfl rfl hl.1 kl_X9.1 (hB.1.obj lc_Mo_0) h1 h2 h3 (Nat.le_of_ble_eq_true rfl) ⟨Nat.le_of_ble_eq_true rfl, Nat.le_of_ble_eq_true rfl⟩ dX9_standardCost_2) (fun H locs hB => ?_)
  refine W.eq (g2 := F0 m 5 ls [.int r3]) rfl ?_
  refine lv_if_eq (tgt := 16) hx hb dX9_standardCost_5 (by decide) (fun c4 => ?_) (fun c4 => ?_)
  · have hf := (if_pos c4).symm.trans hf
    refine lv_iconst (v := 0) hx hb dX9_standardCost_16 (by decide) ?_
    exact bk_iW X hr rfl hf hB (Nat.le_of_ble_eq_true rfl) (Nat.le_of_ble_eq_true rfl) dX9_standardCost_17
  · have hf := (if_neg c4).symm.trans hf
    refine lv_aload_n hx hb dX9_standardCost_8 rfl (lv_at hl 0 rfl) ?_
    refine lv_iload_n hx hb dX9_standardCost_9 rfl (lv_at hl 1 rfl) ?_
    obtain ⟨r6, hc5, hf⟩ := bnr_some hf
    refine bk_all hB (fun h1 h2 h3 => bk_runV X (Av := [.int p1]) (rest := []) (mX9_standard hc5) yv_X9_standard wm_1847 ⟨Nat.le_of_ble_eq_true rfl, Nat.le_of_ble_eq_true rfl⟩ rfl rfl hl.1 kl_X9.1 (hB.1.obj lc_Mo_0) h1 h2 h3 (Nat.le_of_ble_eq_true rfl) ⟨Nat.le_of_ble_eq_true rfl, Nat.le_of_ble_eq_true rfl⟩ dX9_standardCost_10) (fun H locs hB => ?_)
    refine W.eq (g2 := F0 m 13 ls [.int r6]) rfl ?_
    refine lv_goto (tgt := 17) hx hb dX9_standardCost_13 (by decide) ?_
    exact bk_iW X hr rfl hf hB (Nat.le_of_ble_eq_true rfl) (Nat.le_of_ble_eq_true rfl) dX9_standardCost_17
theorem yv_X9_standardCost : bYv yX9_standardCost RX9 cX9_standardCost 2 (some .int) 1 := ⟨⟨rfl, by decide, by decide, rfl⟩, wm_2022, wm_2023, wm_17, wm_2024⟩

theorem dX9_loavesOf_0 : decode cX9_loavesOf 0 = .ok (.aload_n 0, 1) := by decide +kernel
theorem dX9_loavesOf_1 : decode cX9_loavesOf 1 = .ok (.iload_n 1, 1) := by decide +kernel
theorem dX9_loavesOf_2 : decode cX9_loavesOf 2 = .ok (.invokevirtual 307, 3) := by decide +kernel
theorem dX9_loavesOf_5 : decode cX9_loavesOf 5 = .ok (.ifCond .eq 12, 3) := by decide +kernel
theorem dX9_loavesOf_8 : decode cX9_loavesOf 8 = .ok (.aload_n 0, 1) := by decide +kernel
theorem dX9_loavesOf_9 : decode cX9_loavesOf 9 = .ok (.iload_n 1, 1) := by decide +kernel
theorem dX9_loavesOf_10 : decode cX9_loavesOf 10 = .ok (.iconst 3, 1) := by decide +kernel
theorem dX9_loavesOf_11 : decode cX9_loavesOf 11 = .ok (.invokevirtual 71, 3) := by decide +kernel
theorem dX9_loavesOf_14 : decode cX9_loavesOf 14 = .ok (.goto 4, 3) := by decide +kernel
theorem dX9_loavesOf_17 : decode cX9_loavesOf 17 = .ok (.iconst 0, 1) := by decide +kernel
theorem dX9_loavesOf_18 : decode cX9_loavesOf 18 = .ok (.ireturn, 1) := by decide +kernel
def fX9_loavesOf (p1 : Int32) (v : bM) : Option (Int32 × bM) :=
  bnd (fX9_isBread p1 v) fun r3 w2 => (if r3 = 0 then (some (0, w2)) else (bnr (fX9_bread p1 3 w2) fun r6 => some (r6, w2)))
set_option maxRecDepth 100000 in
set_option maxHeartbeats 4000000 in
theorem mX9_loavesOf {l : Launch} {p1 : Int32} {v : bM} {r0 : Int32} {w0 : bM} (hf : fX9_loavesOf p1 v = some (r0, w0)) : bMet l yX9_loavesOf cX9_loavesOf 2 (some .int) 2 0 0 LMo (fun E a => [.ref a, .int p1]) v w0 (fun _ => some (.int r0)) := by
  refine bk_start (by decide +kernel) wfMo (fun _ _ => Nat.le_of_ble_eq_true rfl) ?_
  intro p e s m args below meth c D E a ls H locs X hr hl hB
  have hx := X.1
  have hb := X.2.1
  have hown := X.2.2.2.1
  have hts := X.2.2.2.2.1
  have hl : lv_has ls 2 [(0, .ref a), (1, .int p1)] := hl
  have hf := (fX9_loavesOf.eq_1 p1 v).symm.trans hf
  refine lv_aload_n hx hb dX9_loavesOf_0 rfl (lv_at hl 0 rfl) ?_
  refine lv_iload_n hx hb dX9_loavesOf_1 rfl (lv_at hl 1 rfl) ?_
  obtain ⟨r3, w2, hc1, hf⟩ := bnd_some hf
  refine bk_all hB (fun h1 h2 h3 => bk_runV X (Av := [.int p1]) (rest := []) (mX9_isBread hc1) yv_X9_isBread wm_2009 ⟨Nat.le_of_ble_eq_true rfl, Nat.le_of_ble_eq_true rfl⟩ rfl rfl hl.1 kl_X9.1 (hB.1.obj lc_Mo_0) h1 h2 h3 (Nat.le_of_ble_eq_true rfl) ⟨Nat.le_of_ble_eq_true rfl, Nat.le_of_ble_eq_true rfl⟩ dX9_loavesOf_2) (fun H locs hB => ?_)
  refine W.eq (g2 := F0 m 5 ls [.int r3]) rfl ?_
  refine lv_if_eq (tgt := 17) hx hb dX9_loavesOf_5 (by decide) (fun c4 => ?_) (fun c4 => ?_)
  · have hf := (if_pos c4).symm.trans hf
    refine lv_iconst (v := 0) hx hb dX9_loavesOf_17 (by decide) ?_
    exact bk_iW X hr rfl hf hB (Nat.le_of_ble_eq_true rfl) (Nat.le_of_ble_eq_true rfl) dX9_loavesOf_18
  · have hf := (if_neg c4).symm.trans hf
    refine lv_aload_n hx hb dX9_loavesOf_8 rfl (lv_at hl 0 rfl) ?_
    refine lv_iload_n hx hb dX9_loavesOf_9 rfl (lv_at hl 1 rfl) ?_
    refine lv_iconst (v := 3) hx hb dX9_loavesOf_10 (by decide) ?_
    obtain ⟨r6, hc5, hf⟩ := bnr_some hf
    refine bk_all hB (fun h1 h2 h3 => bk_runV X (Av := [.int p1, .int 3]) (rest := []) (mX9_bread hc5) yv_X9_bread wm_1774 ⟨Nat.le_of_ble_eq_true rfl, Nat.le_of_ble_eq_true rfl⟩ rfl rfl hl.1 kl_X9.1 (hB.1.obj lc_Mo_0) h1 h2 h3 (Nat.le_of_ble_eq_true rfl) ⟨Nat.le_of_ble_eq_true rfl, Nat.le_of_ble_eq_true rfl⟩ dX9_loavesOf_11) (fun H locs hB => ?_)
    refine W.eq (g2 := F0 m 14 ls [.int r6]) rfl ?_
    refine lv_goto (tgt := 18) hx hb dX9_loavesOf_14 (by decide) ?_
    exact bk_iW X hr rfl hf hB (Nat.le_of_ble_eq_true rfl) (Nat.le_of_ble_eq_true rfl) dX9_loavesOf_18
theorem yv_X9_loavesOf : bYv yX9_loavesOf RX9 cX9_loavesOf 2 (some .int) 1 := ⟨⟨rfl, by decide, by decide, rfl⟩, wm_2026, wm_2027, wm_17, wm_2028⟩

theorem dX9_ovenCount_0 : decode cX9_ovenCount 0 = .ok (.aload_n 0, 1) := by decide +kernel
theorem dX9_ovenCount_1 : decode cX9_ovenCount 1 = .ok (.aload_n 0, 1) := by decide +kernel
theorem dX9_ovenCount_2 : decode cX9_ovenCount 2 = .ok (.getfield 17, 3) := by decide +kernel
theorem dX9_ovenCount_5 : decode cX9_ovenCount 5 = .ok (.iconst 3, 1) := by decide +kernel
theorem dX9_ovenCount_6 : decode cX9_ovenCount 6 = .ok (.iaload, 1) := by decide +kernel
theorem dX9_ovenCount_7 : decode cX9_ovenCount 7 = .ok (.invokevirtual 294, 3) := by decide +kernel
theorem dX9_ovenCount_10 : decode cX9_ovenCount 10 = .ok (.ireturn, 1) := by decide +kernel
def fX9_ovenCount  (v : bM) : Option (Int32 × bM) :=
  bnd (fX9_plain (v (710 + (3 : Int32).toNatClampNeg)) v) fun r3 w2 => some (r3, w2)
set_option maxRecDepth 100000 in
set_option maxHeartbeats 4000000 in
theorem mX9_ovenCount {l : Launch}  {v : bM} {r0 : Int32} {w0 : bM} (hf : fX9_ovenCount  v = some (r0, w0)) : bMet l yX9_ovenCount cX9_ovenCount 1 (some .int) 1 0 0 LMo (fun E a => [.ref a]) v w0 (fun _ => some (.int r0)) := by
  refine bk_start (by decide +kernel) wfMo (fun _ _ => Nat.le_of_ble_eq_true rfl) ?_
  intro p e s m args below meth c D E a ls H locs X hr hl hB
  have hx := X.1
  have hb := X.2.1
  have hown := X.2.2.2.1
  have hts := X.2.2.2.2.1
  have hl : lv_has ls 1 [(0, .ref a)] := hl
  have hf := (fX9_ovenCount.eq_1  v).symm.trans hf
  refine lv_aload_n hx hb dX9_ovenCount_0 rfl (lv_at hl 0 rfl) ?_
  refine lv_aload_n hx hb dX9_ovenCount_1 rfl (lv_at hl 0 rfl) ?_
  refine bk_getR X hB kl_X9 0 lc_Mo_0 5 (by decide) rfl wm_1868 dX9_ovenCount_2 ?_
  refine lv_iconst (v := 3) hx hb dX9_ovenCount_5 (by decide) ?_
  refine bk_ald X hB 2 lc_Mo_2 (vp_c 3 496 rfl) dX9_ovenCount_6 ?_
  obtain ⟨r3, w2, hc1, hf⟩ := bnd_some hf
  refine bk_all hB (fun h1 h2 h3 => bk_runV X (Av := [.int (v (710 + (3 : Int32).toNatClampNeg))]) (rest := []) (mX9_plain hc1) yv_X9_plain wm_1945 ⟨Nat.le_of_ble_eq_true rfl, Nat.le_of_ble_eq_true rfl⟩ rfl rfl hl.1 kl_X9.1 (hB.1.obj lc_Mo_0) h1 h2 h3 (Nat.le_of_ble_eq_true rfl) ⟨Nat.le_of_ble_eq_true rfl, Nat.le_of_ble_eq_true rfl⟩ dX9_ovenCount_7) (fun H locs hB => ?_)
  refine W.eq (g2 := F0 m 10 ls [.int r3]) rfl ?_
  exact bk_iW X hr rfl hf hB (Nat.le_of_ble_eq_true rfl) (Nat.le_of_ble_eq_true rfl) dX9_ovenCount_10
theorem yv_X9_ovenCount : bYv yX9_ovenCount RX9 cX9_ovenCount 1 (some .int) 0 := ⟨⟨rfl, by decide, by decide, rfl⟩, wm_2030, wm_2031, wm_17, wm_2032⟩

theorem dX9_freeAt_0 : decode cX9_freeAt 0 = .ok (.aload_n 0, 1) := by decide +kernel
theorem dX9_freeAt_1 : decode cX9_freeAt 1 = .ok (.iconst 0, 1) := by decide +kernel
theorem dX9_freeAt_2 : decode cX9_freeAt 2 = .ok (.putfield 60, 3) := by decide +kernel
theorem dX9_freeAt_5 : decode cX9_freeAt 5 = .ok (.aload_n 0, 1) := by decide +kernel
theorem dX9_freeAt_6 : decode cX9_freeAt 6 = .ok (.iload_n 1, 1) := by decide +kernel
theorem dX9_freeAt_7 : decode cX9_freeAt 7 = .ok (.iconst 0, 1) := by decide +kernel
theorem dX9_freeAt_8 : decode cX9_freeAt 8 = .ok (.aload_n 0, 1) := by decide +kernel
theorem dX9_freeAt_9 : decode cX9_freeAt 9 = .ok (.getfield 17, 3) := by decide +kernel
theorem dX9_freeAt_12 : decode cX9_freeAt 12 = .ok (.iconst 3, 1) := by decide +kernel
theorem dX9_freeAt_13 : decode cX9_freeAt 13 = .ok (.iaload, 1) := by decide +kernel
theorem dX9_freeAt_14 : decode cX9_freeAt 14 = .ok (.iconst 1, 1) := by decide +kernel
theorem dX9_freeAt_15 : decode cX9_freeAt 15 = .ok (.isub, 1) := by decide +kernel
theorem dX9_freeAt_16 : decode cX9_freeAt 16 = .ok (.invokestatic 135, 3) := by decide +kernel
theorem dX9_freeAt_19 : decode cX9_freeAt 19 = .ok (.iconst 1, 1) := by decide +kernel
theorem dX9_freeAt_20 : decode cX9_freeAt 20 = .ok (.invokevirtual 297, 3) := by decide +kernel
theorem dX9_freeAt_23 : decode cX9_freeAt 23 = .ok (.ifCond .eq 7, 3) := by decide +kernel
theorem dX9_freeAt_26 : decode cX9_freeAt 26 = .ok (.iconst 0, 1) := by decide +kernel
theorem dX9_freeAt_27 : decode cX9_freeAt 27 = .ok (.goto 12, 3) := by decide +kernel
theorem dX9_freeAt_30 : decode cX9_freeAt 30 = .ok (.aload_n 0, 1) := by decide +kernel
theorem dX9_freeAt_31 : decode cX9_freeAt 31 = .ok (.getfield 17, 3) := by decide +kernel
theorem dX9_freeAt_34 : decode cX9_freeAt 34 = .ok (.bipush 37, 2) := by decide +kernel
theorem dX9_freeAt_36 : decode cX9_freeAt 36 = .ok (.iload_n 1, 1) := by decide +kernel
theorem dX9_freeAt_37 : decode cX9_freeAt 37 = .ok (.iadd, 1) := by decide +kernel
theorem dX9_freeAt_38 : decode cX9_freeAt 38 = .ok (.iaload, 1) := by decide +kernel
theorem dX9_freeAt_39 : decode cX9_freeAt 39 = .ok (.ireturn, 1) := by decide +kernel
def fX9_freeAt (p1 : Int32) (v : bM) : Option (Int32 × bM) :=
  nm (upd v 3 0) fun v1 => bnr (fX9_inRange p1 0 ((v1 (710 + (3 : Int32).toNatClampNeg)) - 1)) fun r3 => bnd (fX9_fails r3 1 v1) fun r6 w5 => (if r6 = 0 then (ck (37 + p1) 496 <| some (w5 (710 + (37 + p1).toNatClampNeg), w5)) else (some (0, w5)))
set_option maxRecDepth 100000 in
set_option maxHeartbeats 4000000 in
theorem mX9_freeAt {l : Launch} {p1 : Int32} {v : bM} {r0 : Int32} {w0 : bM} (hf : fX9_freeAt p1 v = some (r0, w0)) : bMet l yX9_freeAt cX9_freeAt 2 (some .int) 1 0 0 LMo (fun E a => [.ref a, .int p1]) v w0 (fun _ => some (.int r0)) := by
  refine bk_start (by decide +kernel) wfMo (fun _ _ => Nat.le_of_ble_eq_true rfl) ?_
  intro p e s m args below meth c D E a ls H locs X hr hl hB
  have hx := X.1
  have hb := X.2.1
  have hown := X.2.2.2.1
  have hts := X.2.2.2.2.1
  have hl : lv_has ls 2 [(0, .ref a), (1, .int p1)] := hl
  have hf := (fX9_freeAt.eq_1 p1 v).symm.trans hf
  refine lv_aload_n hx hb dX9_freeAt_0 rfl (lv_at hl 0 rfl) ?_
  refine lv_iconst (v := 0) hx hb dX9_freeAt_1 (by decide) ?_
  refine bk_putI X hB kl_X9 0 lc_Mo_0 4 (by decide) rfl rfl rfl wm_1867 dX9_freeAt_2 rfl (fun H locs hB => ?_)
  obtain ⟨v1, ev1⟩ : ∃ y : bM, y = upd v 3 0 := ⟨_, rfl⟩
  have hf := nm_use hf ev1
  rw [← ev1] at hB
  refine lv_aload_n hx hb dX9_freeAt_5 rfl (lv_at hl 0 rfl) ?_
  refine lv_iload_n hx hb dX9_freeAt_6 rfl (lv_at hl 1 rfl) ?_
  refine lv_iconst (v := 0) hx hb dX9_freeAt_7 (by decide) ?_
  refine lv_aload_n hx hb dX9_freeAt_8 rfl (lv_at hl 0 rfl) ?_
  refine bk_getR X hB kl_X9 0 lc_Mo_0 5 (by decide) rfl wm_1868 dX9_freeAt_9 ?_
  refine lv_iconst (v := 3) hx hb dX9_freeAt_12 (by decide) ?_
  refine bk_ald X hB 2 lc_Mo_2 (vp_c 3 496 rfl) dX9_freeAt_13 ?_
  refine lv_iconst (v := 1) hx hb dX9_freeAt_14 (by decide) ?_
  refine lv_isub hx hb dX9_freeAt_15 ?_
  obtain ⟨r3, hc2, hf⟩ := bnr_some hf
  refine bk_non (v0 := v1) (w0 := v1) hB (fun h1 h2 h3 => bk_runS X (Av := [.int p1, .int 0, .int ((v1 (710 + (3 : Int32).toNatClampNeg)) - 1)]) (rest := [.ref a]) (mX9_inRange hc2) ys_X9_inRange wm_1653 ⟨Nat.le_of_ble_eq_true rfl, Nat.le_of_ble_eq_true rfl⟩ rfl rfl hl.1 h1 h2 h3 (Nat.le_of_ble_eq_true rfl) ⟨Nat.le_of_ble_eq_true rfl, Nat.le_of_ble_eq_true rfl⟩ dX9_freeAt_16) (fun H locs hB => ?_)
  refine W.eq (g2 := F0 m 19 ls [.int r3, .ref a]) rfl ?_
  refine lv_iconst (v := 1) hx hb dX9_freeAt_19 (by decide) ?_
  obtain ⟨r6, w5, hc4, hf⟩ := bnd_some hf
  refine bk_all hB (fun h1 h2 h3 => bk_runV X (Av := [.int r3, .int 1]) (rest := []) (mX9_fails hc4) yv_X9_fails wm_1977 ⟨Nat.le_of_ble_eq_true rfl, Nat.le_of_ble_eq_true rfl⟩ rfl rfl hl.1 kl_X9.1 (hB.1.obj lc_Mo_0) h1 h2 h3 (Nat.le_of_ble_eq_true rfl) ⟨Nat.le_of_ble_eq_true rfl, Nat.le_of_ble_eq_true rfl⟩ dX9_freeAt_20) (fun H locs hB => ?_)
  refine W.eq (g2 := F0 m 23 ls [.int r6]) rfl ?_
  refine lv_if_eq (tgt := 30) hx hb dX9_freeAt_23 (by decide) (fun c7 => ?_) (fun c7 => ?_)
  · have hf := (if_pos c7).symm.trans hf
    refine lv_aload_n hx hb dX9_freeAt_30 rfl (lv_at hl 0 rfl) ?_
    refine bk_getR X hB kl_X9 0 lc_Mo_0 5 (by decide) rfl wm_1868 dX9_freeAt_31 ?_
    refine lv_bipush (v := 37) hx hb dX9_freeAt_34 (by decide) ?_
    refine lv_iload_n hx hb dX9_freeAt_36 rfl (lv_at hl 1 rfl) ?_
    refine lv_iadd hx hb dX9_freeAt_37 ?_
    obtain ⟨h8, hf⟩ := ck_some hf
    refine bk_ald X hB 2 lc_Mo_2 h8 dX9_freeAt_38 ?_
    exact bk_iW X hr rfl hf hB (Nat.le_of_ble_eq_true rfl) (Nat.le_of_ble_eq_true rfl) dX9_freeAt_39
  · have hf := (if_neg c7).symm.trans hf
    refine lv_iconst (v := 0) hx hb dX9_freeAt_26 (by decide) ?_
    refine lv_goto (tgt := 39) hx hb dX9_freeAt_27 (by decide) ?_
    exact bk_iW X hr rfl hf hB (Nat.le_of_ble_eq_true rfl) (Nat.le_of_ble_eq_true rfl) dX9_freeAt_39
theorem yv_X9_freeAt : bYv yX9_freeAt RX9 cX9_freeAt 2 (some .int) 1 := ⟨⟨rfl, by decide, by decide, rfl⟩, wm_2034, wm_2035, wm_17, wm_2036⟩

theorem dX9_nextOven_0 : decode cX9_nextOven 0 = .ok (.aload_n 0, 1) := by decide +kernel
theorem dX9_nextOven_1 : decode cX9_nextOven 1 = .ok (.aload_n 0, 1) := by decide +kernel
theorem dX9_nextOven_2 : decode cX9_nextOven 2 = .ok (.invokevirtual 110, 3) := by decide +kernel
theorem dX9_nextOven_5 : decode cX9_nextOven 5 = .ok (.invokevirtual 294, 3) := by decide +kernel
theorem dX9_nextOven_8 : decode cX9_nextOven 8 = .ok (.ireturn, 1) := by decide +kernel
def fX9_nextOven  (v : bM) : Option (Int32 × bM) :=
  bnr (fX9_firstOven v) fun r2 => bnd (fX9_plain r2 v) fun r5 w4 => some (r5, w4)
set_option maxRecDepth 100000 in
set_option maxHeartbeats 4000000 in
theorem mX9_nextOven {l : Launch}  {v : bM} {r0 : Int32} {w0 : bM} (hf : fX9_nextOven  v = some (r0, w0)) : bMet l yX9_nextOven cX9_nextOven 1 (some .int) 1 0 0 LMo (fun E a => [.ref a]) v w0 (fun _ => some (.int r0)) := by
  refine bk_start (by decide +kernel) wfMo (fun _ _ => Nat.le_of_ble_eq_true rfl) ?_
  intro p e s m args below meth c D E a ls H locs X hr hl hB
  have hx := X.1
  have hb := X.2.1
  have hown := X.2.2.2.1
  have hts := X.2.2.2.2.1
  have hl : lv_has ls 1 [(0, .ref a)] := hl
  have hf := (fX9_nextOven.eq_1  v).symm.trans hf
  refine lv_aload_n hx hb dX9_nextOven_0 rfl (lv_at hl 0 rfl) ?_
  refine lv_aload_n hx hb dX9_nextOven_1 rfl (lv_at hl 0 rfl) ?_
  obtain ⟨r2, hc1, hf⟩ := bnr_some hf
  refine bk_all hB (fun h1 h2 h3 => bk_runV X (Av := []) (rest := [.ref a]) (mX9_firstOven hc1) yv_X9_firstOven wm_1834 ⟨Nat.le_of_ble_eq_true rfl, Nat.le_of_ble_eq_true rfl⟩ rfl rfl hl.1 kl_X9.1 (hB.1.obj lc_Mo_0) h1 h2 h3 (Nat.le_of_ble_eq_true rfl) ⟨Nat.le_of_ble_eq_true rfl, Nat.le_of_ble_eq_true rfl⟩ dX9_nextOven_2) (fun H locs hB => ?_)
  refine W.eq (g2 := F0 m 5 ls [.int r2, .ref a]) rfl ?_
  obtain ⟨r5, w4, hc3, hf⟩ := bnd_some hf
  refine bk_all hB (fun h1 h2 h3 => bk_runV X (Av := [.int r2]) (rest := []) (mX9_plain hc3) yv_X9_plain wm_1945 ⟨Nat.le_of_ble_eq_true rfl, Nat.le_of_ble_eq_true rfl⟩ rfl rfl hl.1 kl_X9.1 (hB.1.obj lc_Mo_0) h1 h2 h3 (Nat.le_of_ble_eq_true rfl) ⟨Nat.le_of_ble_eq_true rfl, Nat.le_of_ble_eq_true rfl⟩ dX9_nextOven_5) (fun H locs hB => ?_)
  refine W.eq (g2 := F0 m 8 ls [.int r5]) rfl ?_
  exact bk_iW X hr rfl hf hB (Nat.le_of_ble_eq_true rfl) (Nat.le_of_ble_eq_true rfl) dX9_nextOven_8
theorem yv_X9_nextOven : bYv yX9_nextOven RX9 cX9_nextOven 1 (some .int) 0 := ⟨⟨rfl, by decide, by decide, rfl⟩, wm_2038, wm_2039, wm_17, wm_2040⟩

theorem dX9_rateAt_0 : decode cX9_rateAt 0 = .ok (.aload_n 0, 1) := by decide +kernel
theorem dX9_rateAt_1 : decode cX9_rateAt 1 = .ok (.iconst 0, 1) := by decide +kernel
theorem dX9_rateAt_2 : decode cX9_rateAt 2 = .ok (.putfield 60, 3) := by decide +kernel
theorem dX9_rateAt_5 : decode cX9_rateAt 5 = .ok (.aload_n 0, 1) := by decide +kernel
theorem dX9_rateAt_6 : decode cX9_rateAt 6 = .ok (.iload_n 1, 1) := by decide +kernel
theorem dX9_rateAt_7 : decode cX9_rateAt 7 = .ok (.iconst 0, 1) := by decide +kernel
theorem dX9_rateAt_8 : decode cX9_rateAt 8 = .ok (.bipush 23, 2) := by decide +kernel
theorem dX9_rateAt_10 : decode cX9_rateAt 10 = .ok (.invokestatic 135, 3) := by decide +kernel
theorem dX9_rateAt_13 : decode cX9_rateAt 13 = .ok (.iconst 1, 1) := by decide +kernel
theorem dX9_rateAt_14 : decode cX9_rateAt 14 = .ok (.invokevirtual 297, 3) := by decide +kernel
theorem dX9_rateAt_17 : decode cX9_rateAt 17 = .ok (.ifCond .eq 7, 3) := by decide +kernel
theorem dX9_rateAt_20 : decode cX9_rateAt 20 = .ok (.iconst 0, 1) := by decide +kernel
theorem dX9_rateAt_21 : decode cX9_rateAt 21 = .ok (.goto 12, 3) := by decide +kernel
theorem dX9_rateAt_24 : decode cX9_rateAt 24 = .ok (.aload_n 0, 1) := by decide +kernel
theorem dX9_rateAt_25 : decode cX9_rateAt 25 = .ok (.getfield 17, 3) := by decide +kernel
theorem dX9_rateAt_28 : decode cX9_rateAt 28 = .ok (.bipush 13, 2) := by decide +kernel
theorem dX9_rateAt_30 : decode cX9_rateAt 30 = .ok (.iload_n 1, 1) := by decide +kernel
theorem dX9_rateAt_31 : decode cX9_rateAt 31 = .ok (.iadd, 1) := by decide +kernel
theorem dX9_rateAt_32 : decode cX9_rateAt 32 = .ok (.iaload, 1) := by decide +kernel
theorem dX9_rateAt_33 : decode cX9_rateAt 33 = .ok (.ireturn, 1) := by decide +kernel
def fX9_rateAt (p1 : Int32) (v : bM) : Option (Int32 × bM) :=
  nm (upd v 3 0) fun v1 => bnr (fX9_inRange p1 0 23) fun r3 => bnd (fX9_fails r3 1 v1) fun r6 w5 => (if r6 = 0 then (ck (13 + p1) 496 <| some (w5 (710 + (13 + p1).toNatClampNeg), w5)) else (some (0, w5)))
set_option maxRecDepth 100000 in
set_option maxHeartbeats 4000000 in
theorem mX9_rateAt {l : Launch} {p1 : Int32} {v : bM} {r0 : Int32} {w0 : bM} (hf : fX9_rateAt p1 v = some (r0, w0)) : bMet l yX9_rateAt cX9_rateAt 2 (some .int) 1 0 0 LMo (fun E a => [.ref a, .int p1]) v w0 (fun _ => some (.int r0)) := by
  refine bk_start (by decide +kernel) wfMo (fun _ _ => Nat.le_of_ble_eq_true rfl) ?_
  intro p e s m args below meth c D E a ls H locs X hr hl hB
  have hx := X.1
  have hb := X.2.1
  have hown := X.2.2.2.1
  have hts := X.2.2.2.2.1
  have hl : lv_has ls 2 [(0, .ref a), (1, .int p1)] := hl
  have hf := (fX9_rateAt.eq_1 p1 v).symm.trans hf
  refine lv_aload_n hx hb dX9_rateAt_0 rfl (lv_at hl 0 rfl) ?_
  refine lv_iconst (v := 0) hx hb dX9_rateAt_1 (by decide) ?_
  refine bk_putI X hB kl_X9 0 lc_Mo_0 4 (by decide) rfl rfl rfl wm_1867 dX9_rateAt_2 rfl (fun H locs hB => ?_)
  obtain ⟨v1, ev1⟩ : ∃ y : bM, y = upd v 3 0 := ⟨_, rfl⟩
  have hf := nm_use hf ev1
  rw [← ev1] at hB
  refine lv_aload_n hx hb dX9_rateAt_5 rfl (lv_at hl 0 rfl) ?_
  refine lv_iload_n hx hb dX9_rateAt_6 rfl (lv_at hl 1 rfl) ?_
  refine lv_iconst (v := 0) hx hb dX9_rateAt_7 (by decide) ?_
  refine lv_bipush (v := 23) hx hb dX9_rateAt_8 (by decide) ?_
  obtain ⟨r3, hc2, hf⟩ := bnr_some hf
  refine bk_non (v0 := v1) (w0 := v1) hB (fun h1 h2 h3 => bk_runS X (Av := [.int p1, .int 0, .int 23]) (rest := [.ref a]) (mX9_inRange hc2) ys_X9_inRange wm_1653 ⟨Nat.le_of_ble_eq_true rfl, Nat.le_of_ble_eq_true rfl⟩ rfl rfl hl.1 h1 h2 h3 (Nat.le_of_ble_eq_true rfl) ⟨Nat.le_of_ble_eq_true rfl, Nat.le_of_ble_eq_true rfl⟩ dX9_rateAt_10) (fun H locs hB => ?_)
  refine W.eq (g2 := F0 m 13 ls [.int r3, .ref a]) rfl ?_
  refine lv_iconst (v := 1) hx hb dX9_rateAt_13 (by decide) ?_
  obtain ⟨r6, w5, hc4, hf⟩ := bnd_some hf
  refine bk_all hB (fun h1 h2 h3 => bk_runV X (Av := [.int r3, .int 1]) (rest := []) (mX9_fails hc4) yv_X9_fails wm_1977 ⟨Nat.le_of_ble_eq_true rfl, Nat.le_of_ble_eq_true rfl⟩ rfl rfl hl.1 kl_X9.1 (hB.1.obj lc_Mo_0) h1 h2 h3 (Nat.le_of_ble_eq_true rfl) ⟨Nat.le_of_ble_eq_true rfl, Nat.le_of_ble_eq_true rfl⟩ dX9_rateAt_14) (fun H locs hB => ?_)
  refine W.eq (g2 := F0 m 17 ls [.int r6]) rfl ?_
  refine lv_if_eq (tgt := 24) hx hb dX9_rateAt_17 (by decide) (fun c7 => ?_) (fun c7 => ?_)
  · have hf := (if_pos c7).symm.trans hf
    refine lv_aload_n hx hb dX9_rateAt_24 rfl (lv_at hl 0 rfl) ?_
    refine bk_getR X hB kl_X9 0 lc_Mo_0 5 (by decide) rfl wm_1868 dX9_rateAt_25 ?_
    refine lv_bipush (v := 13) hx hb dX9_rateAt_28 (by decide) ?_
    refine lv_iload_n hx hb dX9_rateAt_30 rfl (lv_at hl 1 rfl) ?_
    refine lv_iadd hx hb dX9_rateAt_31 ?_
    obtain ⟨h8, hf⟩ := ck_some hf
    refine bk_ald X hB 2 lc_Mo_2 h8 dX9_rateAt_32 ?_
    exact bk_iW X hr rfl hf hB (Nat.le_of_ble_eq_true rfl) (Nat.le_of_ble_eq_true rfl) dX9_rateAt_33
  · have hf := (if_neg c7).symm.trans hf
    refine lv_iconst (v := 0) hx hb dX9_rateAt_20 (by decide) ?_
    refine lv_goto (tgt := 33) hx hb dX9_rateAt_21 (by decide) ?_
    exact bk_iW X hr rfl hf hB (Nat.le_of_ble_eq_true rfl) (Nat.le_of_ble_eq_true rfl) dX9_rateAt_33
theorem yv_X9_rateAt : bYv yX9_rateAt RX9 cX9_rateAt 2 (some .int) 1 := ⟨⟨rfl, by decide, by decide, rfl⟩, wm_2042, wm_2043, wm_17, wm_2044⟩

theorem dX9_standardRate_0 : decode cX9_standardRate 0 = .ok (.aload_n 0, 1) := by decide +kernel
theorem dX9_standardRate_1 : decode cX9_standardRate 1 = .ok (.aload_n 0, 1) := by decide +kernel
theorem dX9_standardRate_2 : decode cX9_standardRate 2 = .ok (.getfield 17, 3) := by decide +kernel
theorem dX9_standardRate_5 : decode cX9_standardRate 5 = .ok (.iconst 2, 1) := by decide +kernel
theorem dX9_standardRate_6 : decode cX9_standardRate 6 = .ok (.iaload, 1) := by decide +kernel
theorem dX9_standardRate_7 : decode cX9_standardRate 7 = .ok (.invokevirtual 294, 3) := by decide +kernel
theorem dX9_standardRate_10 : decode cX9_standardRate 10 = .ok (.ireturn, 1) := by decide +kernel
def fX9_standardRate  (v : bM) : Option (Int32 × bM) :=
  bnd (fX9_plain (v (710 + (2 : Int32).toNatClampNeg)) v) fun r3 w2 => some (r3, w2)
set_option maxRecDepth 100000 in
set_option maxHeartbeats 4000000 in
theorem mX9_standardRate {l : Launch}  {v : bM} {r0 : Int32} {w0 : bM} (hf : fX9_standardRate  v = some (r0, w0)) : bMet l yX9_standardRate cX9_standardRate 1 (some .int) 1 0 0 LMo (fun E a => [.ref a]) v w0 (fun _ => some (.int r0)) := by
  refine bk_start (by decide +kernel) wfMo (fun _ _ => Nat.le_of_ble_eq_true rfl) ?_
  intro p e s m args below meth c D E a ls H locs X hr hl hB
  have hx := X.1
  have hb := X.2.1
  have hown := X.2.2.2.1
  have hts := X.2.2.2.2.1
  have hl : lv_has ls 1 [(0, .ref a)] := hl
  have hf := (fX9_standardRate.eq_1  v).symm.trans hf
  refine lv_aload_n hx hb dX9_standardRate_0 rfl (lv_at hl 0 rfl) ?_
  refine lv_aload_n hx hb dX9_standardRate_1 rfl (lv_at hl 0 rfl) ?_
  refine bk_getR X hB kl_X9 0 lc_Mo_0 5 (by decide) rfl wm_1868 dX9_standardRate_2 ?_
  refine lv_iconst (v := 2) hx hb dX9_standardRate_5 (by decide) ?_
  refine bk_ald X hB 2 lc_Mo_2 (vp_c 2 496 rfl) dX9_standardRate_6 ?_
  obtain ⟨r3, w2, hc1, hf⟩ := bnd_some hf
  refine bk_all hB (fun h1 h2 h3 => bk_runV X (Av := [.int (v (710 + (2 : Int32).toNatClampNeg))]) (rest := []) (mX9_plain hc1) yv_X9_plain wm_1945 ⟨Nat.le_of_ble_eq_true rfl, Nat.le_of_ble_eq_true rfl⟩ rfl rfl hl.1 kl_X9.1 (hB.1.obj lc_Mo_0) h1 h2 h3 (Nat.le_of_ble_eq_true rfl) ⟨Nat.le_of_ble_eq_true rfl, Nat.le_of_ble_eq_true rfl⟩ dX9_standardRate_7) (fun H locs hB => ?_)
  refine W.eq (g2 := F0 m 10 ls [.int r3]) rfl ?_
  exact bk_iW X hr rfl hf hB (Nat.le_of_ble_eq_true rfl) (Nat.le_of_ble_eq_true rfl) dX9_standardRate_10
theorem yv_X9_standardRate : bYv yX9_standardRate RX9 cX9_standardRate 1 (some .int) 0 := ⟨⟨rfl, by decide, by decide, rfl⟩, wm_2046, wm_2047, wm_17, wm_2048⟩

theorem dX9_isBatch_0 : decode cX9_isBatch 0 = .ok (.aload_n 0, 1) := by decide +kernel
theorem dX9_isBatch_1 : decode cX9_isBatch 1 = .ok (.iconst 0, 1) := by decide +kernel
theorem dX9_isBatch_2 : decode cX9_isBatch 2 = .ok (.putfield 60, 3) := by decide +kernel
theorem dX9_isBatch_5 : decode cX9_isBatch 5 = .ok (.aload_n 0, 1) := by decide +kernel
theorem dX9_isBatch_6 : decode cX9_isBatch 6 = .ok (.iload_n 1, 1) := by decide +kernel
theorem dX9_isBatch_7 : decode cX9_isBatch 7 = .ok (.iconst 0, 1) := by decide +kernel
theorem dX9_isBatch_8 : decode cX9_isBatch 8 = .ok (.aload_n 0, 1) := by decide +kernel
theorem dX9_isBatch_9 : decode cX9_isBatch 9 = .ok (.getfield 17, 3) := by decide +kernel
theorem dX9_isBatch_12 : decode cX9_isBatch 12 = .ok (.bipush 7, 2) := by decide +kernel
theorem dX9_isBatch_14 : decode cX9_isBatch 14 = .ok (.iaload, 1) := by decide +kernel
theorem dX9_isBatch_15 : decode cX9_isBatch 15 = .ok (.iconst 1, 1) := by decide +kernel
theorem dX9_isBatch_16 : decode cX9_isBatch 16 = .ok (.isub, 1) := by decide +kernel
theorem dX9_isBatch_17 : decode cX9_isBatch 17 = .ok (.invokestatic 135, 3) := by decide +kernel
theorem dX9_isBatch_20 : decode cX9_isBatch 20 = .ok (.iconst 1, 1) := by decide +kernel
theorem dX9_isBatch_21 : decode cX9_isBatch 21 = .ok (.invokevirtual 297, 3) := by decide +kernel
theorem dX9_isBatch_24 : decode cX9_isBatch 24 = .ok (.ifCond .ne 7, 3) := by decide +kernel
theorem dX9_isBatch_27 : decode cX9_isBatch 27 = .ok (.iconst 1, 1) := by decide +kernel
theorem dX9_isBatch_28 : decode cX9_isBatch 28 = .ok (.goto 4, 3) := by decide +kernel
theorem dX9_isBatch_31 : decode cX9_isBatch 31 = .ok (.iconst 0, 1) := by decide +kernel
theorem dX9_isBatch_32 : decode cX9_isBatch 32 = .ok (.ireturn, 1) := by decide +kernel
def fX9_isBatch (p1 : Int32) (v : bM) : Option (Int32 × bM) :=
  nm (upd v 3 0) fun v1 => bnr (fX9_inRange p1 0 ((v1 (710 + (7 : Int32).toNatClampNeg)) - 1)) fun r3 => bnd (fX9_fails r3 1 v1) fun r6 w5 => (if r6 = 0 then (some (1, w5)) else (some (0, w5)))
set_option maxRecDepth 100000 in
set_option maxHeartbeats 4000000 in
theorem mX9_isBatch {l : Launch} {p1 : Int32} {v : bM} {r0 : Int32} {w0 : bM} (hf : fX9_isBatch p1 v = some (r0, w0)) : bMet l yX9_isBatch cX9_isBatch 2 (some .boolean) 1 0 0 LMo (fun E a => [.ref a, .int p1]) v w0 (fun _ => some (.int r0)) := by
  refine bk_start (by decide +kernel) wfMo (fun _ _ => Nat.le_of_ble_eq_true rfl) ?_
  intro p e s m args below meth c D E a ls H locs X hr hl hB
  have hx := X.1
  have hb := X.2.1
  have hown := X.2.2.2.1
  have hts := X.2.2.2.2.1
  have hl : lv_has ls 2 [(0, .ref a), (1, .int p1)] := hl
  have hf := (fX9_isBatch.eq_1 p1 v).symm.trans hf
  refine lv_aload_n hx hb dX9_isBatch_0 rfl (lv_at hl 0 rfl) ?_
  refine lv_iconst (v := 0) hx hb dX9_isBatch_1 (by decide) ?_
  refine bk_putI X hB kl_X9 0 lc_Mo_0 4 (by decide) rfl rfl rfl wm_1867 dX9_isBatch_2 rfl (fun H locs hB => ?_)
  obtain ⟨v1, ev1⟩ : ∃ y : bM, y = upd v 3 0 := ⟨_, rfl⟩
  have hf := nm_use hf ev1
  rw [← ev1] at hB
  refine lv_aload_n hx hb dX9_isBatch_5 rfl (lv_at hl 0 rfl) ?_
  refine lv_iload_n hx hb dX9_isBatch_6 rfl (lv_at hl 1 rfl) ?_
  refine lv_iconst (v := 0) hx hb dX9_isBatch_7 (by decide) ?_
  refine lv_aload_n hx hb dX9_isBatch_8 rfl (lv_at hl 0 rfl) ?_
  refine bk_getR X hB kl_X9 0 lc_Mo_0 5 (by decide) rfl wm_1868 dX9_isBatch_9 ?_
  refine lv_bipush (v := 7) hx hb dX9_isBatch_12 (by decide) ?_
  refine bk_ald X hB 2 lc_Mo_2 (vp_c 7 496 rfl) dX9_isBatch_14 ?_
  refine lv_iconst (v := 1) hx hb dX9_isBatch_15 (by decide) ?_
  refine lv_isub hx hb dX9_isBatch_16 ?_
  obtain ⟨r3, hc2, hf⟩ := bnr_some hf
  refine bk_non (v0 := v1) (w0 := v1) hB (fun h1 h2 h3 => bk_runS X (Av := [.int p1, .int 0, .int ((v1 (710 + (7 : Int32).toNatClampNeg)) - 1)]) (rest := [.ref a]) (mX9_inRange hc2) ys_X9_inRange wm_1653 ⟨Nat.le_of_ble_eq_true rfl, Nat.le_of_ble_eq_true rfl⟩ rfl rfl hl.1 h1 h2 h3 (Nat.le_of_ble_eq_true rfl) ⟨Nat.le_of_ble_eq_true rfl, Nat.le_of_ble_eq_true rfl⟩ dX9_isBatch_17) (fun H locs hB => ?_)
  refine W.eq (g2 := F0 m 20 ls [.int r3, .ref a]) rfl ?_
  refine lv_iconst (v := 1) hx hb dX9_isBatch_20 (by decide) ?_
  obtain ⟨r6, w5, hc4, hf⟩ := bnd_some hf
  refine bk_all hB (fun h1 h2 h3 => bk_runV X (Av := [.int r3, .int 1]) (rest := []) (mX9_fails hc4) yv_X9_fails wm_1977 ⟨Nat.le_of_ble_eq_true rfl, Nat.le_of_ble_eq_true rfl⟩ rfl rfl hl.1 kl_X9.1 (hB.1.obj lc_Mo_0) h1 h2 h3 (Nat.le_of_ble_eq_true rfl) ⟨Nat.le_of_ble_eq_true rfl, Nat.le_of_ble_eq_true rfl⟩ dX9_isBatch_21) (fun H locs hB => ?_)
  refine W.eq (g2 := F0 m 24 ls [.int r6]) rfl ?_
  refine lv_if_ne (tgt := 31) hx hb dX9_isBatch_24 (by decide) (fun c7 => ?_) (fun c7 => ?_)
  · have hf := (if_neg c7).symm.trans hf
    refine lv_iconst (v := 0) hx hb dX9_isBatch_31 (by decide) ?_
    exact bk_zW X hr rfl rfl hf hB (Nat.le_of_ble_eq_true rfl) (Nat.le_of_ble_eq_true rfl) dX9_isBatch_32
  · have hf := (if_pos c7).symm.trans hf
    refine lv_iconst (v := 1) hx hb dX9_isBatch_27 (by decide) ?_
    refine lv_goto (tgt := 32) hx hb dX9_isBatch_28 (by decide) ?_
    exact bk_zW X hr rfl rfl hf hB (Nat.le_of_ble_eq_true rfl) (Nat.le_of_ble_eq_true rfl) dX9_isBatch_32
theorem yv_X9_isBatch : bYv yX9_isBatch RX9 cX9_isBatch 2 (some .boolean) 1 := ⟨⟨rfl, by decide, by decide, rfl⟩, wm_2059, wp_80, wm_17, wm_2060⟩

theorem dX9_batchCount_0 : decode cX9_batchCount 0 = .ok (.aload_n 0, 1) := by decide +kernel
theorem dX9_batchCount_1 : decode cX9_batchCount 1 = .ok (.aload_n 0, 1) := by decide +kernel
theorem dX9_batchCount_2 : decode cX9_batchCount 2 = .ok (.getfield 17, 3) := by decide +kernel
theorem dX9_batchCount_5 : decode cX9_batchCount 5 = .ok (.bipush 7, 2) := by decide +kernel
theorem dX9_batchCount_7 : decode cX9_batchCount 7 = .ok (.iaload, 1) := by decide +kernel
theorem dX9_batchCount_8 : decode cX9_batchCount 8 = .ok (.invokevirtual 294, 3) := by decide +kernel
theorem dX9_batchCount_11 : decode cX9_batchCount 11 = .ok (.ireturn, 1) := by decide +kernel
def fX9_batchCount  (v : bM) : Option (Int32 × bM) :=
  bnd (fX9_plain (v (710 + (7 : Int32).toNatClampNeg)) v) fun r3 w2 => some (r3, w2)
set_option maxRecDepth 100000 in
set_option maxHeartbeats 4000000 in
theorem mX9_batchCount {l : Launch}  {v : bM} {r0 : Int32} {w0 : bM} (hf : fX9_batchCount  v = some (r0, w0)) : bMet l yX9_batchCount cX9_batchCount 1 (some .int) 1 0 0 LMo (fun E a => [.ref a]) v w0 (fun _ => some (.int r0)) := by
  refine bk_start (by decide +kernel) wfMo (fun _ _ => Nat.le_of_ble_eq_true rfl) ?_
  intro p e s m args below meth c D E a ls H locs X hr hl hB
  have hx := X.1
  have hb := X.2.1
  have hown := X.2.2.2.1
  have hts := X.2.2.2.2.1
  have hl : lv_has ls 1 [(0, .ref a)] := hl
  have hf := (fX9_batchCount.eq_1  v).symm.trans hf
  refine lv_aload_n hx hb dX9_batchCount_0 rfl (lv_at hl 0 rfl) ?_
  refine lv_aload_n hx hb dX9_batchCount_1 rfl (lv_at hl 0 rfl) ?_
  refine bk_getR X hB kl_X9 0 lc_Mo_0 5 (by decide) rfl wm_1868 dX9_batchCount_2 ?_
  refine lv_bipush (v := 7) hx hb dX9_batchCount_5 (by decide) ?_
  refine bk_ald X hB 2 lc_Mo_2 (vp_c 7 496 rfl) dX9_batchCount_7 ?_
  obtain ⟨r3, w2, hc1, hf⟩ := bnd_some hf
  refine bk_all hB (fun h1 h2 h3 => bk_runV X (Av := [.int (v (710 + (7 : Int32).toNatClampNeg))]) (rest := []) (mX9_plain hc1) yv_X9_plain wm_1945 ⟨Nat.le_of_ble_eq_true rfl, Nat.le_of_ble_eq_true rfl⟩ rfl rfl hl.1 kl_X9.1 (hB.1.obj lc_Mo_0) h1 h2 h3 (Nat.le_of_ble_eq_true rfl) ⟨Nat.le_of_ble_eq_true rfl, Nat.le_of_ble_eq_true rfl⟩ dX9_batchCount_8) (fun H locs hB => ?_)
  refine W.eq (g2 := F0 m 11 ls [.int r3]) rfl ?_
  exact bk_iW X hr rfl hf hB (Nat.le_of_ble_eq_true rfl) (Nat.le_of_ble_eq_true rfl) dX9_batchCount_11
theorem yv_X9_batchCount : bYv yX9_batchCount RX9 cX9_batchCount 1 (some .int) 0 := ⟨⟨rfl, by decide, by decide, rfl⟩, wm_2050, wm_2051, wm_17, wm_2052⟩

theorem dX9_batchBread_0 : decode cX9_batchBread 0 = .ok (.aload_n 0, 1) := by decide +kernel
theorem dX9_batchBread_1 : decode cX9_batchBread 1 = .ok (.iload_n 1, 1) := by decide +kernel
theorem dX9_batchBread_2 : decode cX9_batchBread 2 = .ok (.invokevirtual 310, 3) := by decide +kernel
theorem dX9_batchBread_5 : decode cX9_batchBread 5 = .ok (.ifCond .eq 12, 3) := by decide +kernel
theorem dX9_batchBread_8 : decode cX9_batchBread 8 = .ok (.aload_n 0, 1) := by decide +kernel
theorem dX9_batchBread_9 : decode cX9_batchBread 9 = .ok (.iload_n 1, 1) := by decide +kernel
theorem dX9_batchBread_10 : decode cX9_batchBread 10 = .ok (.iconst 0, 1) := by decide +kernel
theorem dX9_batchBread_11 : decode cX9_batchBread 11 = .ok (.invokevirtual 101, 3) := by decide +kernel
theorem dX9_batchBread_14 : decode cX9_batchBread 14 = .ok (.goto 4, 3) := by decide +kernel
theorem dX9_batchBread_17 : decode cX9_batchBread 17 = .ok (.iconst 0, 1) := by decide +kernel
theorem dX9_batchBread_18 : decode cX9_batchBread 18 = .ok (.ireturn, 1) := by decide +kernel
def fX9_batchBread (p1 : Int32) (v : bM) : Option (Int32 × bM) :=
  bnd (fX9_isBatch p1 v) fun r3 w2 => (if r3 = 0 then (some (0, w2)) else (bnr (fX9_batch p1 0 w2) fun r6 => some (r6, w2)))
set_option maxRecDepth 100000 in
set_option maxHeartbeats 4000000 in
theorem mX9_batchBread {l : Launch} {p1 : Int32} {v : bM} {r0 : Int32} {w0 : bM} (hf : fX9_batchBread p1 v = some (r0, w0)) : bMet l yX9_batchBread cX9_batchBread 2 (some .int) 2 0 0 LMo (fun E a => [.ref a, .int p1]) v w0 (fun _ => some (.int r0)) := by
  refine bk_start (by decide +kernel) wfMo (fun _ _ => Nat.le_of_ble_eq_true rfl) ?_
  intro p e s m args below meth c D E a ls H locs X hr hl hB
  have hx := X.1
  have hb := X.2.1
  have hown := X.2.2.2.1
  have hts := X.2.2.2.2.1
  have hl : lv_has ls 2 [(0, .ref a), (1, .int p1)] := hl
  have hf := (fX9_batchBread.eq_1 p1 v).symm.trans hf
  refine lv_aload_n hx hb dX9_batchBread_0 rfl (lv_at hl 0 rfl) ?_
  refine lv_iload_n hx hb dX9_batchBread_1 rfl (lv_at hl 1 rfl) ?_
  obtain ⟨r3, w2, hc1, hf⟩ := bnd_some hf
  refine bk_all hB (fun h1 h2 h3 => bk_runV X (Av := [.int p1]) (rest := []) (mX9_isBatch hc1) yv_X9_isBatch wm_2057 ⟨Nat.le_of_ble_eq_true rfl, Nat.le_of_ble_eq_true rfl⟩ rfl rfl hl.1 kl_X9.1 (hB.1.obj lc_Mo_0) h1 h2 h3 (Nat.le_of_ble_eq_true rfl) ⟨Nat.le_of_ble_eq_true rfl, Nat.le_of_ble_eq_true rfl⟩ dX9_batchBread_2) (fun H locs hB => ?_)
  refine W.eq (g2 := F0 m 5 ls [.int r3]) rfl ?_
  refine lv_if_eq (tgt := 17) hx hb dX9_batchBread_5 (by decide) (fun c4 => ?_) (fun c4 => ?_)
  · have hf := (if_pos c4).symm.trans hf
    refine lv_iconst (v := 0) hx hb dX9_batchBread_17 (by decide) ?_
    exact bk_iW X hr rfl hf hB (Nat.le_of_ble_eq_true rfl) (Nat.le_of_ble_eq_true rfl) dX9_batchBread_18
  · have hf := (if_neg c4).symm.trans hf
    refine lv_aload_n hx hb dX9_batchBread_8 rfl (lv_at hl 0 rfl) ?_
    refine lv_iload_n hx hb dX9_batchBread_9 rfl (lv_at hl 1 rfl) ?_
    refine lv_iconst (v := 0) hx hb dX9_batchBread_10 (by decide) ?_
    obtain ⟨r6, hc5, hf⟩ := bnr_some hf
    refine bk_all hB (fun h1 h2 h3 => bk_runV X (Av := [.int p1, .int 0]) (rest := []) (mX9_batch hc5) yv_X9_batch wm_1830 ⟨Nat.le_of_ble_eq_true rfl, Nat.le_of_ble_eq_true rfl⟩ rfl rfl hl.1 kl_X9.1 (hB.1.obj lc_Mo_0) h1 h2 h3 (Nat.le_of_ble_eq_true rfl) ⟨Nat.le_of_ble_eq_true rfl, Nat.le_of_ble_eq_true rfl⟩ dX9_batchBread_11) (fun H locs hB => ?_)
    refine W.eq (g2 := F0 m 14 ls [.int r6]) rfl ?_
    refine lv_goto (tgt := 18) hx hb dX9_batchBread_14 (by decide) ?_
    exact bk_iW X hr rfl hf hB (Nat.le_of_ble_eq_true rfl) (Nat.le_of_ble_eq_true rfl) dX9_batchBread_18
theorem yv_X9_batchBread : bYv yX9_batchBread RX9 cX9_batchBread 2 (some .int) 1 := ⟨⟨rfl, by decide, by decide, rfl⟩, wm_2054, wm_2055, wm_17, wm_2056⟩

theorem dX9_goodLoaves_0 : decode cX9_goodLoaves 0 = .ok (.aload_n 0, 1) := by decide +kernel
theorem dX9_goodLoaves_1 : decode cX9_goodLoaves 1 = .ok (.iload_n 1, 1) := by decide +kernel
theorem dX9_goodLoaves_2 : decode cX9_goodLoaves 2 = .ok (.invokevirtual 310, 3) := by decide +kernel
theorem dX9_goodLoaves_5 : decode cX9_goodLoaves 5 = .ok (.ifCond .eq 11, 3) := by decide +kernel
theorem dX9_goodLoaves_8 : decode cX9_goodLoaves 8 = .ok (.aload_n 0, 1) := by decide +kernel
theorem dX9_goodLoaves_9 : decode cX9_goodLoaves 9 = .ok (.iload_n 1, 1) := by decide +kernel
theorem dX9_goodLoaves_10 : decode cX9_goodLoaves 10 = .ok (.invokevirtual 124, 3) := by decide +kernel
theorem dX9_goodLoaves_13 : decode cX9_goodLoaves 13 = .ok (.goto 4, 3) := by decide +kernel
theorem dX9_goodLoaves_16 : decode cX9_goodLoaves 16 = .ok (.iconst 0, 1) := by decide +kernel
theorem dX9_goodLoaves_17 : decode cX9_goodLoaves 17 = .ok (.ireturn, 1) := by decide +kernel
def fX9_goodLoaves (p1 : Int32) (v : bM) : Option (Int32 × bM) :=
  bnd (fX9_isBatch p1 v) fun r3 w2 => (if r3 = 0 then (some (0, w2)) else (bnr (fX9_good p1 w2) fun r6 => some (r6, w2)))
set_option maxRecDepth 100000 in
set_option maxHeartbeats 4000000 in
theorem mX9_goodLoaves {l : Launch} {p1 : Int32} {v : bM} {r0 : Int32} {w0 : bM} (hf : fX9_goodLoaves p1 v = some (r0, w0)) : bMet l yX9_goodLoaves cX9_goodLoaves 2 (some .int) 2 0 0 LMo (fun E a => [.ref a, .int p1]) v w0 (fun _ => some (.int r0)) := by
  refine bk_start (by decide +kernel) wfMo (fun _ _ => Nat.le_of_ble_eq_true rfl) ?_
  intro p e s m args below meth c D E a ls H locs X hr hl hB
  have hx := X.1
  have hb := X.2.1
  have hown := X.2.2.2.1
  have hts := X.2.2.2.2.1
  have hl : lv_has ls 2 [(0, .ref a), (1, .int p1)] := hl
  have hf := (fX9_goodLoaves.eq_1 p1 v).symm.trans hf
  refine lv_aload_n hx hb dX9_goodLoaves_0 rfl (lv_at hl 0 rfl) ?_
  refine lv_iload_n hx hb dX9_goodLoaves_1 rfl (lv_at hl 1 rfl) ?_
  obtain ⟨r3, w2, hc1, hf⟩ := bnd_some hf
  refine bk_all hB (fun h1 h2 h3 => bk_runV X (Av := [.int p1]) (rest := []) (mX9_isBatch hc1) yv_X9_isBatch wm_2057 ⟨Nat.le_of_ble_eq_true rfl, Nat.le_of_ble_eq_true rfl⟩ rfl rfl hl.1 kl_X9.1 (hB.1.obj lc_Mo_0) h1 h2 h3 (Nat.le_of_ble_eq_true rfl) ⟨Nat.le_of_ble_eq_true rfl, Nat.le_of_ble_eq_true rfl⟩ dX9_goodLoaves_2) (fun H locs hB => ?_)
  refine W.eq (g2 := F0 m 5 ls [.int r3]) rfl ?_
  refine lv_if_eq (tgt := 16) hx hb dX9_goodLoaves_5 (by decide) (fun c4 => ?_) (fun c4 => ?_)
  · have hf := (if_pos c4).symm.trans hf
    refine lv_iconst (v := 0) hx hb dX9_goodLoaves_16 (by decide) ?_
    exact bk_iW X hr rfl hf hB (Nat.le_of_ble_eq_true rfl) (Nat.le_of_ble_eq_true rfl) dX9_goodLoaves_17
  · have hf := (if_neg c4).symm.trans hf
    refine lv_aload_n hx hb dX9_goodLoaves_8 rfl (lv_at hl 0 rfl) ?_
    refine lv_iload_n hx hb dX9_goodLoaves_9 rfl (lv_at hl 1 rfl) ?_
    obtain ⟨r6, hc5, hf⟩ := bnr_some hf
    refine bk_all hB (fun h1 h2 h3 => bk_runV X (Av := [.int p1]) (rest := []) (mX9_good hc5) yv_X9_good wm_2065 ⟨Nat.le_of_ble_eq_true rfl, Nat.le_of_ble_eq_true rfl⟩ rfl rfl hl.1 kl_X9.1 (hB.1.obj lc_Mo_0) h1 h2 h3 (Nat.le_of_ble_eq_true rfl) ⟨Nat.le_of_ble_eq_true rfl, Nat.le_of_ble_eq_true rfl⟩ dX9_goodLoaves_10) (fun H locs hB => ?_)
    refine W.eq (g2 := F0 m 13 ls [.int r6]) rfl ?_
    refine lv_goto (tgt := 17) hx hb dX9_goodLoaves_13 (by decide) ?_
    exact bk_iW X hr rfl hf hB (Nat.le_of_ble_eq_true rfl) (Nat.le_of_ble_eq_true rfl) dX9_goodLoaves_17
theorem yv_X9_goodLoaves : bYv yX9_goodLoaves RX9 cX9_goodLoaves 2 (some .int) 1 := ⟨⟨rfl, by decide, by decide, rfl⟩, wm_2062, wm_2063, wm_17, wm_2064⟩

theorem dX9_startOf_0 : decode cX9_startOf 0 = .ok (.aload_n 0, 1) := by decide +kernel
theorem dX9_startOf_1 : decode cX9_startOf 1 = .ok (.iload_n 1, 1) := by decide +kernel
theorem dX9_startOf_2 : decode cX9_startOf 2 = .ok (.invokevirtual 310, 3) := by decide +kernel
theorem dX9_startOf_5 : decode cX9_startOf 5 = .ok (.ifCond .eq 12, 3) := by decide +kernel
theorem dX9_startOf_8 : decode cX9_startOf 8 = .ok (.aload_n 0, 1) := by decide +kernel
theorem dX9_startOf_9 : decode cX9_startOf 9 = .ok (.iload_n 1, 1) := by decide +kernel
theorem dX9_startOf_10 : decode cX9_startOf 10 = .ok (.iconst 3, 1) := by decide +kernel
theorem dX9_startOf_11 : decode cX9_startOf 11 = .ok (.invokevirtual 101, 3) := by decide +kernel
theorem dX9_startOf_14 : decode cX9_startOf 14 = .ok (.goto 4, 3) := by decide +kernel
theorem dX9_startOf_17 : decode cX9_startOf 17 = .ok (.iconst 0, 1) := by decide +kernel
theorem dX9_startOf_18 : decode cX9_startOf 18 = .ok (.ireturn, 1) := by decide +kernel
def fX9_startOf (p1 : Int32) (v : bM) : Option (Int32 × bM) :=
  bnd (fX9_isBatch p1 v) fun r3 w2 => (if r3 = 0 then (some (0, w2)) else (bnr (fX9_batch p1 3 w2) fun r6 => some (r6, w2)))
set_option maxRecDepth 100000 in
set_option maxHeartbeats 4000000 in
theorem mX9_startOf {l : Launch} {p1 : Int32} {v : bM} {r0 : Int32} {w0 : bM} (hf : fX9_startOf p1 v = some (r0, w0)) : bMet l yX9_startOf cX9_startOf 2 (some .int) 2 0 0 LMo (fun E a => [.ref a, .int p1]) v w0 (fun _ => some (.int r0)) := by
  refine bk_start (by decide +kernel) wfMo (fun _ _ => Nat.le_of_ble_eq_true rfl) ?_
  intro p e s m args below meth c D E a ls H locs X hr hl hB
  have hx := X.1
  have hb := X.2.1
  have hown := X.2.2.2.1
  have hts := X.2.2.2.2.1
  have hl : lv_has ls 2 [(0, .ref a), (1, .int p1)] := hl
  have hf := (fX9_startOf.eq_1 p1 v).symm.trans hf
  refine lv_aload_n hx hb dX9_startOf_0 rfl (lv_at hl 0 rfl) ?_
  refine lv_iload_n hx hb dX9_startOf_1 rfl (lv_at hl 1 rfl) ?_
  obtain ⟨r3, w2, hc1, hf⟩ := bnd_some hf
  refine bk_all hB (fun h1 h2 h3 => bk_runV X (Av := [.int p1]) (rest := []) (mX9_isBatch hc1) yv_X9_isBatch wm_2057 ⟨Nat.le_of_ble_eq_true rfl, Nat.le_of_ble_eq_true rfl⟩ rfl rfl hl.1 kl_X9.1 (hB.1.obj lc_Mo_0) h1 h2 h3 (Nat.le_of_ble_eq_true rfl) ⟨Nat.le_of_ble_eq_true rfl, Nat.le_of_ble_eq_true rfl⟩ dX9_startOf_2) (fun H locs hB => ?_)
  refine W.eq (g2 := F0 m 5 ls [.int r3]) rfl ?_
  refine lv_if_eq (tgt := 17) hx hb dX9_startOf_5 (by decide) (fun c4 => ?_) (fun c4 => ?_)
  · have hf := (if_pos c4).symm.trans hf
    refine lv_iconst (v := 0) hx hb dX9_startOf_17 (by decide) ?_
    exact bk_iW X hr rfl hf hB (Nat.le_of_ble_eq_true rfl) (Nat.le_of_ble_eq_true rfl) dX9_startOf_18
  · have hf := (if_neg c4).symm.trans hf
    refine lv_aload_n hx hb dX9_startOf_8 rfl (lv_at hl 0 rfl) ?_
    refine lv_iload_n hx hb dX9_startOf_9 rfl (lv_at hl 1 rfl) ?_
    refine lv_iconst (v := 3) hx hb dX9_startOf_10 (by decide) ?_
    obtain ⟨r6, hc5, hf⟩ := bnr_some hf
    refine bk_all hB (fun h1 h2 h3 => bk_runV X (Av := [.int p1, .int 3]) (rest := []) (mX9_batch hc5) yv_X9_batch wm_1830 ⟨Nat.le_of_ble_eq_true rfl, Nat.le_of_ble_eq_true rfl⟩ rfl rfl hl.1 kl_X9.1 (hB.1.obj lc_Mo_0) h1 h2 h3 (Nat.le_of_ble_eq_true rfl) ⟨Nat.le_of_ble_eq_true rfl, Nat.le_of_ble_eq_true rfl⟩ dX9_startOf_11) (fun H locs hB => ?_)
    refine W.eq (g2 := F0 m 14 ls [.int r6]) rfl ?_
    refine lv_goto (tgt := 18) hx hb dX9_startOf_14 (by decide) ?_
    exact bk_iW X hr rfl hf hB (Nat.le_of_ble_eq_true rfl) (Nat.le_of_ble_eq_true rfl) dX9_startOf_18
theorem yv_X9_startOf : bYv yX9_startOf RX9 cX9_startOf 2 (some .int) 1 := ⟨⟨rfl, by decide, by decide, rfl⟩, wm_2070, wm_2071, wm_17, wm_2072⟩

theorem dX9_ovenMinutes_0 : decode cX9_ovenMinutes 0 = .ok (.aload_n 0, 1) := by decide +kernel
theorem dX9_ovenMinutes_1 : decode cX9_ovenMinutes 1 = .ok (.iload_n 1, 1) := by decide +kernel
theorem dX9_ovenMinutes_2 : decode cX9_ovenMinutes 2 = .ok (.invokevirtual 310, 3) := by decide +kernel
theorem dX9_ovenMinutes_5 : decode cX9_ovenMinutes 5 = .ok (.ifCond .eq 12, 3) := by decide +kernel
theorem dX9_ovenMinutes_8 : decode cX9_ovenMinutes 8 = .ok (.aload_n 0, 1) := by decide +kernel
theorem dX9_ovenMinutes_9 : decode cX9_ovenMinutes 9 = .ok (.iload_n 1, 1) := by decide +kernel
theorem dX9_ovenMinutes_10 : decode cX9_ovenMinutes 10 = .ok (.iconst 4, 1) := by decide +kernel
theorem dX9_ovenMinutes_11 : decode cX9_ovenMinutes 11 = .ok (.invokevirtual 101, 3) := by decide +kernel
theorem dX9_ovenMinutes_14 : decode cX9_ovenMinutes 14 = .ok (.goto 4, 3) := by decide +kernel
theorem dX9_ovenMinutes_17 : decode cX9_ovenMinutes 17 = .ok (.iconst 0, 1) := by decide +kernel
theorem dX9_ovenMinutes_18 : decode cX9_ovenMinutes 18 = .ok (.ireturn, 1) := by decide +kernel
def fX9_ovenMinutes (p1 : Int32) (v : bM) : Option (Int32 × bM) :=
  bnd (fX9_isBatch p1 v) fun r3 w2 => (if r3 = 0 then (some (0, w2)) else (bnr (fX9_batch p1 4 w2) fun r6 => some (r6, w2)))
set_option maxRecDepth 100000 in
set_option maxHeartbeats 4000000 in
theorem mX9_ovenMinutes {l : Launch} {p1 : Int32} {v : bM} {r0 : Int32} {w0 : bM} (hf : fX9_ovenMinutes p1 v = some (r0, w0)) : bMet l yX9_ovenMinutes cX9_ovenMinutes 2 (some .int) 2 0 0 LMo (fun E a => [.ref a, .int p1]) v w0 (fun _ => some (.int r0)) := by
  refine bk_start (by decide +kernel) wfMo (fun _ _ => Nat.le_of_ble_eq_true rfl) ?_
  intro p e s m args below meth c D E a ls H locs X hr hl hB
  have hx := X.1
  have hb := X.2.1
  have hown := X.2.2.2.1
  have hts := X.2.2.2.2.1
  have hl : lv_has ls 2 [(0, .ref a), (1, .int p1)] := hl
  have hf := (fX9_ovenMinutes.eq_1 p1 v).symm.trans hf
  refine lv_aload_n hx hb dX9_ovenMinutes_0 rfl (lv_at hl 0 rfl) ?_
  refine lv_iload_n hx hb dX9_ovenMinutes_1 rfl (lv_at hl 1 rfl) ?_
  obtain ⟨r3, w2, hc1, hf⟩ := bnd_some hf
  refine bk_all hB (fun h1 h2 h3 => bk_runV X (Av := [.int p1]) (rest := []) (mX9_isBatch hc1) yv_X9_isBatch wm_2057 ⟨Nat.le_of_ble_eq_true rfl, Nat.le_of_ble_eq_true rfl⟩ rfl rfl hl.1 kl_X9.1 (hB.1.obj lc_Mo_0) h1 h2 h3 (Nat.le_of_ble_eq_true rfl) ⟨Nat.le_of_ble_eq_true rfl, Nat.le_of_ble_eq_true rfl⟩ dX9_ovenMinutes_2) (fun H locs hB => ?_)
  refine W.eq (g2 := F0 m 5 ls [.int r3]) rfl ?_
  refine lv_if_eq (tgt := 17) hx hb dX9_ovenMinutes_5 (by decide) (fun c4 => ?_) (fun c4 => ?_)
  · have hf := (if_pos c4).symm.trans hf
    refine lv_iconst (v := 0) hx hb dX9_ovenMinutes_17 (by decide) ?_
    exact bk_iW X hr rfl hf hB (Nat.le_of_ble_eq_true rfl) (Nat.le_of_ble_eq_true rfl) dX9_ovenMinutes_18
  · have hf := (if_neg c4).symm.trans hf
    refine lv_aload_n hx hb dX9_ovenMinutes_8 rfl (lv_at hl 0 rfl) ?_
    refine lv_iload_n hx hb dX9_ovenMinutes_9 rfl (lv_at hl 1 rfl) ?_
    refine lv_iconst (v := 4) hx hb dX9_ovenMinutes_10 (by decide) ?_
    obtain ⟨r6, hc5, hf⟩ := bnr_some hf
    refine bk_all hB (fun h1 h2 h3 => bk_runV X (Av := [.int p1, .int 4]) (rest := []) (mX9_batch hc5) yv_X9_batch wm_1830 ⟨Nat.le_of_ble_eq_true rfl, Nat.le_of_ble_eq_true rfl⟩ rfl rfl hl.1 kl_X9.1 (hB.1.obj lc_Mo_0) h1 h2 h3 (Nat.le_of_ble_eq_true rfl) ⟨Nat.le_of_ble_eq_true rfl, Nat.le_of_ble_eq_true rfl⟩ dX9_ovenMinutes_11) (fun H locs hB => ?_)
    refine W.eq (g2 := F0 m 14 ls [.int r6]) rfl ?_
    refine lv_goto (tgt := 18) hx hb dX9_ovenMinutes_14 (by decide) ?_
    exact bk_iW X hr rfl hf hB (Nat.le_of_ble_eq_true rfl) (Nat.le_of_ble_eq_true rfl) dX9_ovenMinutes_18
theorem yv_X9_ovenMinutes : bYv yX9_ovenMinutes RX9 cX9_ovenMinutes 2 (some .int) 1 := ⟨⟨rfl, by decide, by decide, rfl⟩, wm_2074, wm_2075, wm_17, wm_2076⟩

theorem dX9_costOf_0 : decode cX9_costOf 0 = .ok (.aload_n 0, 1) := by decide +kernel
theorem dX9_costOf_1 : decode cX9_costOf 1 = .ok (.iload_n 1, 1) := by decide +kernel
theorem dX9_costOf_2 : decode cX9_costOf 2 = .ok (.invokevirtual 310, 3) := by decide +kernel
theorem dX9_costOf_5 : decode cX9_costOf 5 = .ok (.ifCond .eq 12, 3) := by decide +kernel
theorem dX9_costOf_8 : decode cX9_costOf 8 = .ok (.aload_n 0, 1) := by decide +kernel
theorem dX9_costOf_9 : decode cX9_costOf 9 = .ok (.iload_n 1, 1) := by decide +kernel
theorem dX9_costOf_10 : decode cX9_costOf 10 = .ok (.iconst 5, 1) := by decide +kernel
theorem dX9_costOf_11 : decode cX9_costOf 11 = .ok (.invokevirtual 101, 3) := by decide +kernel
theorem dX9_costOf_14 : decode cX9_costOf 14 = .ok (.goto 4, 3) := by decide +kernel
theorem dX9_costOf_17 : decode cX9_costOf 17 = .ok (.iconst 0, 1) := by decide +kernel
theorem dX9_costOf_18 : decode cX9_costOf 18 = .ok (.ireturn, 1) := by decide +kernel
def fX9_costOf (p1 : Int32) (v : bM) : Option (Int32 × bM) :=
  bnd (fX9_isBatch p1 v) fun r3 w2 => (if r3 = 0 then (some (0, w2)) else (bnr (fX9_batch p1 5 w2) fun r6 => some (r6, w2)))
set_option maxRecDepth 100000 in
set_option maxHeartbeats 4000000 in
theorem mX9_costOf {l : Launch} {p1 : Int32} {v : bM} {r0 : Int32} {w0 : bM} (hf : fX9_costOf p1 v = some (r0, w0)) : bMet l yX9_costOf cX9_costOf 2 (some .int) 2 0 0 LMo (fun E a => [.ref a, .int p1]) v w0 (fun _ => some (.int r0)) := by
  refine bk_start (by decide +kernel) wfMo (fun _ _ => Nat.le_of_ble_eq_true rfl) ?_
  intro p e s m args below meth c D E a ls H locs X hr hl hB
  have hx := X.1
  have hb := X.2.1
  have hown := X.2.2.2.1
  have hts := X.2.2.2.2.1
  have hl : lv_has ls 2 [(0, .ref a), (1, .int p1)] := hl
  have hf := (fX9_costOf.eq_1 p1 v).symm.trans hf
  refine lv_aload_n hx hb dX9_costOf_0 rfl (lv_at hl 0 rfl) ?_
  refine lv_iload_n hx hb dX9_costOf_1 rfl (lv_at hl 1 rfl) ?_
  obtain ⟨r3, w2, hc1, hf⟩ := bnd_some hf
  refine bk_all hB (fun h1 h2 h3 => bk_runV X (Av := [.int p1]) (rest := []) (mX9_isBatch hc1) yv_X9_isBatch wm_2057 ⟨Nat.le_of_ble_eq_true rfl, Nat.le_of_ble_eq_true rfl⟩ rfl rfl hl.1 kl_X9.1 (hB.1.obj lc_Mo_0) h1 h2 h3 (Nat.le_of_ble_eq_true rfl) ⟨Nat.le_of_ble_eq_true rfl, Nat.le_of_ble_eq_true rfl⟩ dX9_costOf_2) (fun H locs hB => ?_)
  refine W.eq (g2 := F0 m 5 ls [.int r3]) rfl ?_
  refine lv_if_eq (tgt := 17) hx hb dX9_costOf_5 (by decide) (fun c4 => ?_) (fun c4 => ?_)
  · have hf := (if_pos c4).symm.trans hf
    refine lv_iconst (v := 0) hx hb dX9_costOf_17 (by decide) ?_
    exact bk_iW X hr rfl hf hB (Nat.le_of_ble_eq_true rfl) (Nat.le_of_ble_eq_true rfl) dX9_costOf_18
  · have hf := (if_neg c4).symm.trans hf
    refine lv_aload_n hx hb dX9_costOf_8 rfl (lv_at hl 0 rfl) ?_
    refine lv_iload_n hx hb dX9_costOf_9 rfl (lv_at hl 1 rfl) ?_
    refine lv_iconst (v := 5) hx hb dX9_costOf_10 (by decide) ?_
    obtain ⟨r6, hc5, hf⟩ := bnr_some hf
    refine bk_all hB (fun h1 h2 h3 => bk_runV X (Av := [.int p1, .int 5]) (rest := []) (mX9_batch hc5) yv_X9_batch wm_1830 ⟨Nat.le_of_ble_eq_true rfl, Nat.le_of_ble_eq_true rfl⟩ rfl rfl hl.1 kl_X9.1 (hB.1.obj lc_Mo_0) h1 h2 h3 (Nat.le_of_ble_eq_true rfl) ⟨Nat.le_of_ble_eq_true rfl, Nat.le_of_ble_eq_true rfl⟩ dX9_costOf_11) (fun H locs hB => ?_)
    refine W.eq (g2 := F0 m 14 ls [.int r6]) rfl ?_
    refine lv_goto (tgt := 18) hx hb dX9_costOf_14 (by decide) ?_
    exact bk_iW X hr rfl hf hB (Nat.le_of_ble_eq_true rfl) (Nat.le_of_ble_eq_true rfl) dX9_costOf_18
theorem yv_X9_costOf : bYv yX9_costOf RX9 cX9_costOf 2 (some .int) 1 := ⟨⟨rfl, by decide, by decide, rfl⟩, wm_2078, wm_2079, wm_17, wm_2080⟩

theorem dX9_lossOf_0 : decode cX9_lossOf 0 = .ok (.aload_n 0, 1) := by decide +kernel
theorem dX9_lossOf_1 : decode cX9_lossOf 1 = .ok (.iload_n 1, 1) := by decide +kernel
theorem dX9_lossOf_2 : decode cX9_lossOf 2 = .ok (.invokevirtual 310, 3) := by decide +kernel
theorem dX9_lossOf_5 : decode cX9_lossOf 5 = .ok (.ifCond .eq 11, 3) := by decide +kernel
theorem dX9_lossOf_8 : decode cX9_lossOf 8 = .ok (.aload_n 0, 1) := by decide +kernel
theorem dX9_lossOf_9 : decode cX9_lossOf 9 = .ok (.iload_n 1, 1) := by decide +kernel
theorem dX9_lossOf_10 : decode cX9_lossOf 10 = .ok (.invokevirtual 313, 3) := by decide +kernel
theorem dX9_lossOf_13 : decode cX9_lossOf 13 = .ok (.goto 4, 3) := by decide +kernel
theorem dX9_lossOf_16 : decode cX9_lossOf 16 = .ok (.iconst 0, 1) := by decide +kernel
theorem dX9_lossOf_17 : decode cX9_lossOf 17 = .ok (.ireturn, 1) := by decide +kernel
def fX9_lossOf (p1 : Int32) (v : bM) : Option (Int32 × bM) :=
  bnd (fX9_isBatch p1 v) fun r3 w2 => (if r3 = 0 then (some (0, w2)) else (bnr (fX9_loss p1 w2) fun r6 => some (r6, w2)))
set_option maxRecDepth 100000 in
set_option maxHeartbeats 4000000 in
theorem mX9_lossOf {l : Launch} {p1 : Int32} {v : bM} {r0 : Int32} {w0 : bM} (hf : fX9_lossOf p1 v = some (r0, w0)) : bMet l yX9_lossOf cX9_lossOf 2 (some .int) 4 0 0 LMo (fun E a => [.ref a, .int p1]) v w0 (fun _ => some (.int r0)) := by
  refine bk_start (by decide +kernel) wfMo (fun _ _ => Nat.le_of_ble_eq_true rfl) ?_
  intro p e s m args below meth c D E a ls H locs X hr hl hB
  have hx := X.1
  have hb := X.2.1
  have hown := X.2.2.2.1
  have hts := X.2.2.2.2.1
  have hl : lv_has ls 2 [(0, .ref a), (1, .int p1)] := hl
  have hf := (fX9_lossOf.eq_1 p1 v).symm.trans hf
  refine lv_aload_n hx hb dX9_lossOf_0 rfl (lv_at hl 0 rfl) ?_
  refine lv_iload_n hx hb dX9_lossOf_1 rfl (lv_at hl 1 rfl) ?_
  obtain ⟨r3, w2, hc1, hf⟩ := bnd_some hf
  refine bk_all hB (fun h1 h2 h3 => bk_runV X (Av := [.int p1]) (rest := []) (mX9_isBatch hc1) yv_X9_isBatch wm_2057 ⟨Nat.le_of_ble_eq_true rfl, Nat.le_of_ble_eq_true rfl⟩ rfl rfl hl.1 kl_X9.1 (hB.1.obj lc_Mo_0) h1 h2 h3 (Nat.le_of_ble_eq_true rfl) ⟨Nat.le_of_ble_eq_true rfl, Nat.le_of_ble_eq_true rfl⟩ dX9_lossOf_2) (fun H locs hB => ?_)
  refine W.eq (g2 := F0 m 5 ls [.int r3]) rfl ?_
  refine lv_if_eq (tgt := 16) hx hb dX9_lossOf_5 (by decide) (fun c4 => ?_) (fun c4 => ?_)
  · have hf := (if_pos c4).symm.trans hf
    refine lv_iconst (v := 0) hx hb dX9_lossOf_16 (by decide) ?_
    exact bk_iW X hr rfl hf hB (Nat.le_of_ble_eq_true rfl) (Nat.le_of_ble_eq_true rfl) dX9_lossOf_17
  · have hf := (if_neg c4).symm.trans hf
    refine lv_aload_n hx hb dX9_lossOf_8 rfl (lv_at hl 0 rfl) ?_
    refine lv_iload_n hx hb dX9_lossOf_9 rfl (lv_at hl 1 rfl) ?_
    obtain ⟨r6, hc5, hf⟩ := bnr_some hf
    refine bk_all hB (fun h1 h2 h3 => bk_runV X (Av := [.int p1]) (rest := []) (mX9_loss hc5) yv_X9_loss wm_2085 ⟨Nat.le_of_ble_eq_true rfl, Nat.le_of_ble_eq_true rfl⟩ rfl rfl hl.1 kl_X9.1 (hB.1.obj lc_Mo_0) h1 h2 h3 (Nat.le_of_ble_eq_true rfl) ⟨Nat.le_of_ble_eq_true rfl, Nat.le_of_ble_eq_true rfl⟩ dX9_lossOf_10) (fun H locs hB => ?_)
    refine W.eq (g2 := F0 m 13 ls [.int r6]) rfl ?_
    refine lv_goto (tgt := 17) hx hb dX9_lossOf_13 (by decide) ?_
    exact bk_iW X hr rfl hf hB (Nat.le_of_ble_eq_true rfl) (Nat.le_of_ble_eq_true rfl) dX9_lossOf_17
theorem yv_X9_lossOf : bYv yX9_lossOf RX9 cX9_lossOf 2 (some .int) 1 := ⟨⟨rfl, by decide, by decide, rfl⟩, wm_2082, wm_2083, wm_17, wm_2084⟩

theorem dX9_gapOf_0 : decode cX9_gapOf 0 = .ok (.aload_n 0, 1) := by decide +kernel
theorem dX9_gapOf_1 : decode cX9_gapOf 1 = .ok (.iload_n 1, 1) := by decide +kernel
theorem dX9_gapOf_2 : decode cX9_gapOf 2 = .ok (.invokevirtual 310, 3) := by decide +kernel
theorem dX9_gapOf_5 : decode cX9_gapOf 5 = .ok (.ifCond .eq 29, 3) := by decide +kernel
theorem dX9_gapOf_8 : decode cX9_gapOf 8 = .ok (.aload_n 0, 1) := by decide +kernel
theorem dX9_gapOf_9 : decode cX9_gapOf 9 = .ok (.iload_n 2, 1) := by decide +kernel
theorem dX9_gapOf_10 : decode cX9_gapOf 10 = .ok (.iconst 0, 1) := by decide +kernel
theorem dX9_gapOf_11 : decode cX9_gapOf 11 = .ok (.iconst 4, 1) := by decide +kernel
theorem dX9_gapOf_12 : decode cX9_gapOf 12 = .ok (.invokestatic 135, 3) := by decide +kernel
theorem dX9_gapOf_15 : decode cX9_gapOf 15 = .ok (.iconst 2, 1) := by decide +kernel
theorem dX9_gapOf_16 : decode cX9_gapOf 16 = .ok (.invokevirtual 297, 3) := by decide +kernel
theorem dX9_gapOf_19 : decode cX9_gapOf 19 = .ok (.ifCond .ne 15, 3) := by decide +kernel
theorem dX9_gapOf_22 : decode cX9_gapOf 22 = .ok (.aload_n 0, 1) := by decide +kernel
theorem dX9_gapOf_23 : decode cX9_gapOf 23 = .ok (.iload_n 1, 1) := by decide +kernel
theorem dX9_gapOf_24 : decode cX9_gapOf 24 = .ok (.bipush 6, 2) := by decide +kernel
theorem dX9_gapOf_26 : decode cX9_gapOf 26 = .ok (.iload_n 2, 1) := by decide +kernel
theorem dX9_gapOf_27 : decode cX9_gapOf 27 = .ok (.iadd, 1) := by decide +kernel
theorem dX9_gapOf_28 : decode cX9_gapOf 28 = .ok (.invokevirtual 101, 3) := by decide +kernel
theorem dX9_gapOf_31 : decode cX9_gapOf 31 = .ok (.goto 4, 3) := by decide +kernel
theorem dX9_gapOf_34 : decode cX9_gapOf 34 = .ok (.iconst 0, 1) := by decide +kernel
theorem dX9_gapOf_35 : decode cX9_gapOf 35 = .ok (.ireturn, 1) := by decide +kernel
def fX9_gapOf (p1 : Int32) (p2 : Int32) (v : bM) : Option (Int32 × bM) :=
  bnd (fX9_isBatch p1 v) fun r3 w2 => (if r3 = 0 then (some (0, w2)) else (bnr (fX9_inRange p2 0 4) fun r6 => bnd (fX9_fails r6 2 w2) fun r9 w8 => (if r9 = 0 then (bnr (fX9_batch p1 (6 + p2) w8) fun r12 => some (r12, w8)) else (some (0, w8)))))
set_option maxRecDepth 100000 in
set_option maxHeartbeats 4000000 in
theorem mX9_gapOf {l : Launch} {p1 : Int32} {p2 : Int32} {v : bM} {r0 : Int32} {w0 : bM} (hf : fX9_gapOf p1 p2 v = some (r0, w0)) : bMet l yX9_gapOf cX9_gapOf 3 (some .int) 2 0 0 LMo (fun E a => [.ref a, .int p1, .int p2]) v w0 (fun _ => some (.int r0)) := by
  refine bk_start (by decide +kernel) wfMo (fun _ _ => Nat.le_of_ble_eq_true rfl) ?_
  intro p e s m args below meth c D E a ls H locs X hr hl hB
  have hx := X.1
  have hb := X.2.1
  have hown := X.2.2.2.1
  have hts := X.2.2.2.2.1
  have hl : lv_has ls 3 [(0, .ref a), (1, .int p1), (2, .int p2)] := hl
  have hf := (fX9_gapOf.eq_1 p1 p2 v).symm.trans hf
  refine lv_aload_n hx hb dX9_gapOf_0 rfl (lv_at hl 0 rfl) ?_
  refine lv_iload_n hx hb dX9_gapOf_1 rfl (lv_at hl 1 rfl) ?_
  obtain ⟨r3, w2, hc1, hf⟩ := bnd_some hf
  refine bk_all hB (fun h1 h2 h3 => bk_runV X (Av := [.int p1]) (rest := []) (mX9_isBatch hc1) yv_X9_isBatch wm_2057 ⟨Nat.le_of_ble_eq_true rfl, Nat.le_of_ble_eq_true rfl⟩ rfl rfl hl.1 kl_X9.1 (hB.1.obj lc_Mo_0) h1 h2 h3 (Nat.le_of_ble_eq_true rfl) ⟨Nat.le_of_ble_eq_true rfl, Nat.le_of_ble_eq_true rfl⟩ dX9_gapOf_2) (fun H locs hB => ?_)
  refine W.eq (g2 := F0 m 5 ls [.int r3]) rfl ?_
  refine lv_if_eq (tgt := 34) hx hb dX9_gapOf_5 (by decide) (fun c4 => ?_) (fun c4 => ?_)
  · have hf := (if_pos c4).symm.trans hf
    refine lv_iconst (v := 0) hx hb dX9_gapOf_34 (by decide) ?_
    exact bk_iW X hr rfl hf hB (Nat.le_of_ble_eq_true rfl) (Nat.le_of_ble_eq_true rfl) dX9_gapOf_35
  · have hf := (if_neg c4).symm.trans hf
    refine lv_aload_n hx hb dX9_gapOf_8 rfl (lv_at hl 0 rfl) ?_
    refine lv_iload_n hx hb dX9_gapOf_9 rfl (lv_at hl 2 rfl) ?_
    refine lv_iconst (v := 0) hx hb dX9_gapOf_10 (by decide) ?_
    refine lv_iconst (v := 4) hx hb dX9_gapOf_11 (by decide) ?_
    obtain ⟨r6, hc5, hf⟩ := bnr_some hf
    refine bk_non (v0 := w2) (w0 := w2) hB (fun h1 h2 h3 => bk_runS X (Av := [.int p2, .int 0, .int 4]) (rest := [.ref a]) (mX9_inRange hc5) ys_X9_inRange wm_1653 ⟨Nat.le_of_ble_eq_true rfl, Nat.le_of_ble_eq_true rfl⟩ rfl rfl hl.1 h1 h2 h3 (Nat.le_of_ble_eq_true rfl) ⟨Nat.le_of_ble_eq_true rfl, Nat.le_of_ble_eq_true rfl⟩ dX9_gapOf_12) (fun H locs hB => ?_)
    refine W.eq (g2 := F0 m 15 ls [.int r6, .ref a]) rfl ?_
    refine lv_iconst (v := 2) hx hb dX9_gapOf_15 (by decide) ?_
    obtain ⟨r9, w8, hc7, hf⟩ := bnd_some hf
    refine bk_all hB (fun h1 h2 h3 => bk_runV X (Av := [.int r6, .int 2]) (rest := []) (mX9_fails hc7) yv_X9_fails wm_1977 ⟨Nat.le_of_ble_eq_true rfl, Nat.le_of_ble_eq_true rfl⟩ rfl rfl hl.1 kl_X9.1 (hB.1.obj lc_Mo_0) h1 h2 h3 (Nat.le_of_ble_eq_true rfl) ⟨Nat.le_of_ble_eq_true rfl, Nat.le_of_ble_eq_true rfl⟩ dX9_gapOf_16) (fun H locs hB => ?_)
    refine W.eq (g2 := F0 m 19 ls [.int r9]) rfl ?_
    refine lv_if_ne (tgt := 34) hx hb dX9_gapOf_19 (by decide) (fun c10 => ?_) (fun c10 => ?_)
    · have hf := (if_neg c10).symm.trans hf
      refine lv_iconst (v := 0) hx hb dX9_gapOf_34 (by decide) ?_
      exact bk_iW X hr rfl hf hB (Nat.le_of_ble_eq_true rfl) (Nat.le_of_ble_eq_true rfl) dX9_gapOf_35
    · have hf := (if_pos c10).symm.trans hf
      refine lv_aload_n hx hb dX9_gapOf_22 rfl (lv_at hl 0 rfl) ?_
      refine lv_iload_n hx hb dX9_gapOf_23 rfl (lv_at hl 1 rfl) ?_
      refine lv_bipush (v := 6) hx hb dX9_gapOf_24 (by decide) ?_
      refine lv_iload_n hx hb dX9_gapOf_26 rfl (lv_at hl 2 rfl) ?_
      refine lv_iadd hx hb dX9_gapOf_27 ?_
      obtain ⟨r12, hc11, hf⟩ := bnr_some hf
      refine bk_all hB (fun h1 h2 h3 => bk_runV X (Av := [.int p1, .int (6 + p2)]) (rest := []) (mX9_batch hc11) yv_X9_batch wm_1830 ⟨Nat.le_of_ble_eq_true rfl, Nat.le_of_ble_eq_true rfl⟩ rfl rfl hl.1 kl_X9.1 (hB.1.obj lc_Mo_0) h1 h2 h3 (Nat.le_of_ble_eq_true rfl) ⟨Nat.le_of_ble_eq_true rfl, Nat.le_of_ble_eq_true rfl⟩ dX9_gapOf_28) (fun H locs hB => ?_)
      refine W.eq (g2 := F0 m 31 ls [.int r12]) rfl ?_
      refine lv_goto (tgt := 35) hx hb dX9_gapOf_31 (by decide) ?_
      exact bk_iW X hr rfl hf hB (Nat.le_of_ble_eq_true rfl) (Nat.le_of_ble_eq_true rfl) dX9_gapOf_35
theorem yv_X9_gapOf : bYv yX9_gapOf RX9 cX9_gapOf 3 (some .int) 2 := ⟨⟨rfl, by decide, by decide, rfl⟩, wm_2090, wm_2091, wm_17, wm_2092⟩

theorem dX9_kindsBefore_0 : decode cX9_kindsBefore 0 = .ok (.iconst 0, 1) := by decide +kernel
theorem dX9_kindsBefore_1 : decode cX9_kindsBefore 1 = .ok (.istore_n 3, 1) := by decide +kernel
theorem dX9_kindsBefore_2 : decode cX9_kindsBefore 2 = .ok (.iconst 0, 1) := by decide +kernel
theorem dX9_kindsBefore_3 : decode cX9_kindsBefore 3 = .ok (.istore 4, 2) := by decide +kernel
theorem dX9_kindsBefore_5 : decode cX9_kindsBefore 5 = .ok (.iload 4, 2) := by decide +kernel
theorem dX9_kindsBefore_7 : decode cX9_kindsBefore 7 = .ok (.iconst 5, 1) := by decide +kernel
theorem dX9_kindsBefore_8 : decode cX9_kindsBefore 8 = .ok (.if_icmp .ge 58, 3) := by decide +kernel
theorem dX9_kindsBefore_11 : decode cX9_kindsBefore 11 = .ok (.aload_n 0, 1) := by decide +kernel
theorem dX9_kindsBefore_12 : decode cX9_kindsBefore 12 = .ok (.iload_n 1, 1) := by decide +kernel
theorem dX9_kindsBefore_13 : decode cX9_kindsBefore 13 = .ok (.bipush 6, 2) := by decide +kernel
theorem dX9_kindsBefore_15 : decode cX9_kindsBefore 15 = .ok (.iload 4, 2) := by decide +kernel
theorem dX9_kindsBefore_17 : decode cX9_kindsBefore 17 = .ok (.iadd, 1) := by decide +kernel
theorem dX9_kindsBefore_18 : decode cX9_kindsBefore 18 = .ok (.invokevirtual 101, 3) := by decide +kernel
theorem dX9_kindsBefore_21 : decode cX9_kindsBefore 21 = .ok (.aload_n 0, 1) := by decide +kernel
theorem dX9_kindsBefore_22 : decode cX9_kindsBefore 22 = .ok (.iload_n 1, 1) := by decide +kernel
theorem dX9_kindsBefore_23 : decode cX9_kindsBefore 23 = .ok (.bipush 6, 2) := by decide +kernel
theorem dX9_kindsBefore_25 : decode cX9_kindsBefore 25 = .ok (.iload_n 2, 1) := by decide +kernel
theorem dX9_kindsBefore_26 : decode cX9_kindsBefore 26 = .ok (.iadd, 1) := by decide +kernel
theorem dX9_kindsBefore_27 : decode cX9_kindsBefore 27 = .ok (.invokevirtual 101, 3) := by decide +kernel
theorem dX9_kindsBefore_30 : decode cX9_kindsBefore 30 = .ok (.isub, 1) := by decide +kernel
theorem dX9_kindsBefore_31 : decode cX9_kindsBefore 31 = .ok (.istore 5, 2) := by decide +kernel
theorem dX9_kindsBefore_33 : decode cX9_kindsBefore 33 = .ok (.iload_n 3, 1) := by decide +kernel
theorem dX9_kindsBefore_34 : decode cX9_kindsBefore 34 = .ok (.iload 5, 2) := by decide +kernel
theorem dX9_kindsBefore_36 : decode cX9_kindsBefore 36 = .ok (.ifCond .gt 14, 3) := by decide +kernel
theorem dX9_kindsBefore_39 : decode cX9_kindsBefore 39 = .ok (.iload 5, 2) := by decide +kernel
theorem dX9_kindsBefore_41 : decode cX9_kindsBefore 41 = .ok (.ifCond .ne 13, 3) := by decide +kernel
theorem dX9_kindsBefore_44 : decode cX9_kindsBefore 44 = .ok (.iload 4, 2) := by decide +kernel
theorem dX9_kindsBefore_46 : decode cX9_kindsBefore 46 = .ok (.iload_n 2, 1) := by decide +kernel
theorem dX9_kindsBefore_47 : decode cX9_kindsBefore 47 = .ok (.if_icmp .ge 7, 3) := by decide +kernel
theorem dX9_kindsBefore_50 : decode cX9_kindsBefore 50 = .ok (.iconst 1, 1) := by decide +kernel
theorem dX9_kindsBefore_51 : decode cX9_kindsBefore 51 = .ok (.goto 4, 3) := by decide +kernel
theorem dX9_kindsBefore_54 : decode cX9_kindsBefore 54 = .ok (.iconst 0, 1) := by decide +kernel
theorem dX9_kindsBefore_55 : decode cX9_kindsBefore 55 = .ok (.invokestatic 131, 3) := by decide +kernel
theorem dX9_kindsBefore_58 : decode cX9_kindsBefore 58 = .ok (.iadd, 1) := by decide +kernel
theorem dX9_kindsBefore_59 : decode cX9_kindsBefore 59 = .ok (.istore_n 3, 1) := by decide +kernel
theorem dX9_kindsBefore_60 : decode cX9_kindsBefore 60 = .ok (.iinc 4 1, 3) := by decide +kernel
theorem dX9_kindsBefore_63 : decode cX9_kindsBefore 63 = .ok (.goto (-58), 3) := by decide +kernel
theorem dX9_kindsBefore_66 : decode cX9_kindsBefore 66 = .ok (.iload_n 3, 1) := by decide +kernel
theorem dX9_kindsBefore_67 : decode cX9_kindsBefore 67 = .ok (.ireturn, 1) := by decide +kernel
def fX9_kindsBefore_J55 (y1 : Int32) (y2 : Int32) (k5 : Int32 → Int32 → Option Int32) (y9 : Int32) : Option Int32 :=
  bnr (fX9_flag y9) fun r11 => nm (y1 + r11) fun x12 => nm (y2 + 1) fun x13 => k5 x12 x13
def fX9_kindsBefore_J50 (y1 : Int32) (y2 : Int32) (k5 : Int32 → Int32 → Option Int32)  : Option Int32 :=
  fX9_kindsBefore_J55 y1 y2 k5 1
def fX9_kindsBefore_J54 (y1 : Int32) (y2 : Int32) (k5 : Int32 → Int32 → Option Int32)  : Option Int32 :=
  fX9_kindsBefore_J55 y1 y2 k5 0
def fX9_kindsBefore_L5 (p1 : Int32) (p2 : Int32) (v : bM) (k5 : Int32 → Int32 → Option Int32) (y1 : Int32) (y2 : Int32) : Option Int32 :=
  (if 5 ≤ y2 then (some (y1)) else (bnr (fX9_batch p1 (6 + y2) v) fun r5 => bnr (fX9_batch p1 (6 + p2) v) fun r7 => nm (r5 - r7) fun x8 => (if 0 < x8 then (fX9_kindsBefore_J50 y1 y2 k5 ) else ((if x8 = 0 then ((if p2 ≤ y2 then (fX9_kindsBefore_J54 y1 y2 k5 ) else (fX9_kindsBefore_J50 y1 y2 k5 ))) else (fX9_kindsBefore_J54 y1 y2 k5 ))))))
def fX9_kindsBefore (p1 : Int32) (p2 : Int32) (v : bM) : Option Int32 :=
  lp (fX9_kindsBefore_L5 p1 p2 v) (fun _ _ => none) lpN 0 0
set_option maxRecDepth 100000 in
set_option maxHeartbeats 4000000 in
theorem mX9_kindsBefore {l : Launch} {p1 : Int32} {p2 : Int32} {v : bM} {r0 : Int32} (hf : fX9_kindsBefore p1 p2 v = some r0) : bMet l yX9_kindsBefore cX9_kindsBefore 6 (some .int) 1 0 0 LMo (fun E a => [.ref a, .int p1, .int p2]) v v (fun _ => some (.int r0)) := by
  refine bk_start (by decide +kernel) wfMo (fun _ _ => Nat.le_of_ble_eq_true rfl) ?_
  intro p e s m args below meth c D E a ls H locs X hr hl hB
  have hx := X.1
  have hb := X.2.1
  have hown := X.2.2.2.1
  have hts := X.2.2.2.2.1
  have hl : lv_has ls 6 [(0, .ref a), (1, .int p1), (2, .int p2)] := hl
  have hf := (fX9_kindsBefore.eq_1 p1 p2 v).symm.trans hf
  refine lv_iconst (v := 0) hx hb dX9_kindsBefore_0 (by decide) ?_
  refine lv_istore_n (lv' := [(3, .int 0), (0, .ref a), (1, .int p1), (2, .int p2)]) hx hb dX9_kindsBefore_1 rfl hl (by decide) rfl (fun ls hl => ?_)
  refine lv_iconst (v := 0) hx hb dX9_kindsBefore_2 (by decide) ?_
  refine lv_istore (lv' := [(4, .int 0), (3, .int 0), (0, .ref a), (1, .int p1), (2, .int p2)]) hx hb dX9_kindsBefore_3 hl (by decide) rfl (fun ls hl => ?_)
  have hL5 : ∀ (n5 : Nat) (y1 y2 : Int32) (H : Heap) (locs : List Loc) (ls : Array Slot), lp (fX9_kindsBefore_L5 p1 p2 v) (fun _ _ => none) n5 y1 y2 = some r0 → bB D E LMo a v s H locs → lv_has ls 6 [(0, .ref a), (1, .int p1), (2, .int p2), (3, .int y1), (4, .int y2)] → W p l e (rmOf 1 0 0) s m args below meth c H locs 0 0 (bQ below D E LMo a v (some (.int r0)) args s 0 0) (F0 m 5 ls []) := by
    intro n5
    induction n5 with
    | zero => intro y1 y2 H locs ls hf; cases (show (none : Option Int32) = some r0 from hf)
    | succ n5 ih5 =>
      intro y1 y2 H locs ls hf hB hl
      have hf := (fX9_kindsBefore_L5.eq_1 p1 p2 v (lp (fX9_kindsBefore_L5 p1 p2 v) (fun _ _ => none) n5) y1 y2).symm.trans (show fX9_kindsBefore_L5 p1 p2 v (lp (fX9_kindsBefore_L5 p1 p2 v) (fun _ _ => none) n5) y1 y2 = some r0 from hf)
      refine lv_iload hx hb dX9_kindsBefore_5 (lv_at hl 4 rfl) ?_
      refine lv_iconst (v := 5) hx hb dX9_kindsBefore_7 (by decide) ?_
      refine lv_icmp_ge (tgt := 66) hx hb dX9_kindsBefore_8 (by decide) (fun c3 => ?_) (fun c3 => ?_)
      · have hf := (if_pos c3).symm.trans hf
        refine lv_iload_n hx hb dX9_kindsBefore_66 rfl (lv_at hl 3 rfl) ?_
        exact bk_iR X hr rfl hf hB (Nat.le_of_ble_eq_true rfl) (Nat.le_of_ble_eq_true rfl) dX9_kindsBefore_67
      · have hf := (if_neg c3).symm.trans hf
        refine lv_aload_n hx hb dX9_kindsBefore_11 rfl (lv_at hl 0 rfl) ?_
        refine lv_iload_n hx hb dX9_kindsBefore_12 rfl (lv_at hl 1 rfl) ?_
        refine lv_bipush (v := 6) hx hb dX9_kindsBefore_13 (by decide) ?_
        refine lv_iload hx hb dX9_kindsBefore_15 (lv_at hl 4 rfl) ?_
        refine lv_iadd hx hb dX9_kindsBefore_17 ?_
        obtain ⟨r5, hc4, hf⟩ := bnr_some hf
        refine bk_all hB (fun h1 h2 h3 => bk_runV X (Av := [.int p1, .int (6 + y2)]) (rest := []) (mX9_batch hc4) yv_X9_batch wm_1830 ⟨Nat.le_of_ble_eq_true rfl, Nat.le_of_ble_eq_true rfl⟩ rfl rfl hl.1 kl_X9.1 (hB.1.obj lc_Mo_0) h1 h2 h3 (Nat.le_of_ble_eq_true rfl) ⟨Nat.le_of_ble_eq_true rfl, Nat.le_of_ble_eq_true rfl⟩ dX9_kindsBefore_18) (fun H locs hB => ?_)
        refine W.eq (g2 := F0 m 21 ls [.int r5]) rfl ?_
        refine lv_aload_n hx hb dX9_kindsBefore_21 rfl (lv_at hl 0 rfl) ?_
        refine lv_iload_n hx hb dX9_kindsBefore_22 rfl (lv_at hl 1 rfl) ?_
        refine lv_bipush (v := 6) hx hb dX9_kindsBefore_23 (by decide) ?_
        refine lv_iload_n hx hb dX9_kindsBefore_25 rfl (lv_at hl 2 rfl) ?_
        refine lv_iadd hx hb dX9_kindsBefore_26 ?_
        obtain ⟨r7, hc6, hf⟩ := bnr_some hf
        refine bk_all hB (fun h1 h2 h3 => bk_runV X (Av := [.int p1, .int (6 + p2)]) (rest := [.int r5]) (mX9_batch hc6) yv_X9_batch wm_1830 ⟨Nat.le_of_ble_eq_true rfl, Nat.le_of_ble_eq_true rfl⟩ rfl rfl hl.1 kl_X9.1 (hB.1.obj lc_Mo_0) h1 h2 h3 (Nat.le_of_ble_eq_true rfl) ⟨Nat.le_of_ble_eq_true rfl, Nat.le_of_ble_eq_true rfl⟩ dX9_kindsBefore_27) (fun H locs hB => ?_)
        refine W.eq (g2 := F0 m 30 ls [.int r7, .int r5]) rfl ?_
        refine lv_isub hx hb dX9_kindsBefore_30 ?_
        refine lv_topi (fun x8 ex8 => ?_)
        have hf := nm_use hf ex8
        refine lv_istore (lv' := [(5, .int x8), (0, .ref a), (1, .int p1), (2, .int p2), (3, .int y1), (4, .int y2)]) hx hb dX9_kindsBefore_31 hl (by decide) rfl (fun ls hl => ?_)
        refine lv_iload_n hx hb dX9_kindsBefore_33 rfl (lv_at hl 4 rfl) ?_
        refine lv_iload hx hb dX9_kindsBefore_34 (lv_at hl 0 rfl) ?_
        have hJ55 : ∀ (y9 : Int32) (H : Heap) (locs : List Loc) (ls : Array Slot), fX9_kindsBefore_J55 y1 y2 (lp (fX9_kindsBefore_L5 p1 p2 v) (fun _ _ => none) n5) y9 = some r0 → bB D E LMo a v s H locs → lv_has ls 6 [(0, .ref a), (1, .int p1), (2, .int p2), (4, .int y2)] → W p l e (rmOf 1 0 0) s m args below meth c H locs 0 0 (bQ below D E LMo a v (some (.int r0)) args s 0 0) (F0 m 55 ls [.int y9, .int y1]) := by
          intro y9 H locs ls hf hB hl
          have hf := (fX9_kindsBefore_J55.eq_1 y1 y2 (lp (fX9_kindsBefore_L5 p1 p2 v) (fun _ _ => none) n5) y9).symm.trans hf
          obtain ⟨r11, hc10, hf⟩ := bnr_some hf
          refine bk_non (v0 := v) (w0 := v) hB (fun h1 h2 h3 => bk_runS X (Av := [.int y9]) (rest := [.int y1]) (mX9_flag hc10) ys_X9_flag wm_1674 ⟨Nat.le_of_ble_eq_true rfl, Nat.le_of_ble_eq_true rfl⟩ rfl rfl hl.1 h1 h2 h3 (Nat.le_of_ble_eq_true rfl) ⟨Nat.le_of_ble_eq_true rfl, Nat.le_of_ble_eq_true rfl⟩ dX9_kindsBefore_55) (fun H locs hB => ?_)
          refine W.eq (g2 := F0 m 58 ls [.int r11, .int y1]) rfl ?_
          refine lv_iadd hx hb dX9_kindsBefore_58 ?_
          refine lv_topi (fun x12 ex12 => ?_)
          have hf := nm_use hf ex12
          refine lv_istore_n (lv' := [(3, .int x12), (0, .ref a), (1, .int p1), (2, .int p2), (4, .int y2)]) hx hb dX9_kindsBefore_59 rfl hl (by decide) rfl (fun ls hl => ?_)
          obtain ⟨x13, ex13⟩ : ∃ y : Int32, y = y2 + 1 := ⟨_, rfl⟩
          have hf := nm_use hf ex13
          refine lv_iinc (v := x13) (lv' := [(4, .int x13), (3, .int x12), (0, .ref a), (1, .int p1), (2, .int p2)]) hx hb dX9_kindsBefore_60 hl (k := 4) rfl (by rw [ex13]; rfl) (by decide) rfl (fun ls hl => ?_)
          refine lv_goto (tgt := 5) hx hb dX9_kindsBefore_63 (by decide) ?_
          exact ih5 x12 x13 H locs ls hf hB (lv_sub hl [2, 3, 4, 1, 0] rfl)
        have hJ50 : ∀ (H : Heap) (locs : List Loc) (ls : Array Slot), fX9_kindsBefore_J50 y1 y2 (lp (fX9_kindsBefore_L5 p1 p2 v) (fun _ _ => none) n5)  = some r0 → bB D E LMo a v s H locs → lv_has ls 6 [(0, .ref a), (1, .int p1), (2, .int p2), (4, .int y2)] → W p l e (rmOf 1 0 0) s m args below meth c H locs 0 0 (bQ below D E LMo a v (some (.int r0)) args s 0 0) (F0 m 50 ls [.int y1]) := by
          intro  H locs ls hf hB hl
          have hf := (fX9_kindsBefore_J50.eq_1 y1 y2 (lp (fX9_kindsBefore_L5 p1 p2 v) (fun _ _ => none) n5) ).symm.trans hf
          refine lv_iconst (v := 1) hx hb dX9_kindsBefore_50 (by decide) ?_
          refine lv_goto (tgt := 55) hx hb dX9_kindsBefore_51 (by decide) ?_
          exact hJ55 1 H locs ls hf hB (lv_sub hl [0, 1, 2, 3] rfl)
        refine lv_if_gt (tgt := 50) hx hb dX9_kindsBefore_36 (by decide) (fun c14 => ?_) (fun c14 => ?_)
        · have hf := (if_pos c14).symm.trans hf
          exact hJ50  H locs ls hf hB (lv_sub hl [1, 2, 3, 5] rfl)
        · have hf := (if_neg c14).symm.trans hf
          refine lv_iload hx hb dX9_kindsBefore_39 (lv_at hl 0 rfl) ?_
          have hJ54 : ∀ (H : Heap) (locs : List Loc) (ls : Array Slot), fX9_kindsBefore_J54 y1 y2 (lp (fX9_kindsBefore_L5 p1 p2 v) (fun _ _ => none) n5)  = some r0 → bB D E LMo a v s H locs → lv_has ls 6 [(0, .ref a), (1, .int p1), (2, .int p2), (4, .int y2)] → W p l e (rmOf 1 0 0) s m args below meth c H locs 0 0 (bQ below D E LMo a v (some (.int r0)) args s 0 0) (F0 m 54 ls [.int y1]) := by
            intro  H locs ls hf hB hl
            have hf := (fX9_kindsBefore_J54.eq_1 y1 y2 (lp (fX9_kindsBefore_L5 p1 p2 v) (fun _ _ => none) n5) ).symm.trans hf
            refine lv_iconst (v := 0) hx hb dX9_kindsBefore_54 (by decide) ?_
            exact hJ55 0 H locs ls hf hB (lv_sub hl [0, 1, 2, 3] rfl)
          refine lv_if_ne (tgt := 54) hx hb dX9_kindsBefore_41 (by decide) (fun c15 => ?_) (fun c15 => ?_)
          · have hf := (if_neg c15).symm.trans hf
            exact hJ54  H locs ls hf hB (lv_sub hl [1, 2, 3, 5] rfl)
          · have hf := (if_pos c15).symm.trans hf
            refine lv_iload hx hb dX9_kindsBefore_44 (lv_at hl 5 rfl) ?_
            refine lv_iload_n hx hb dX9_kindsBefore_46 rfl (lv_at hl 3 rfl) ?_
            refine lv_icmp_ge (tgt := 54) hx hb dX9_kindsBefore_47 (by decide) (fun c16 => ?_) (fun c16 => ?_)
            · have hf := (if_pos c16).symm.trans hf
              exact hJ54  H locs ls hf hB (lv_sub hl [1, 2, 3, 5] rfl)
            · have hf := (if_neg c16).symm.trans hf
              exact hJ50  H locs ls hf hB (lv_sub hl [1, 2, 3, 5] rfl)
  exact hL5 lpN 0 0 H locs ls hf hB (lv_sub hl [2, 3, 4, 1, 0] rfl)
theorem yv_X9_kindsBefore : bYv yX9_kindsBefore RX9 cX9_kindsBefore 6 (some .int) 2 := ⟨⟨rfl, by decide, by decide, rfl⟩, wm_2099, wp_83, wm_17, wm_2100⟩

theorem dX9_kindAt_0 : decode cX9_kindAt 0 = .ok (.aload_n 0, 1) := by decide +kernel
theorem dX9_kindAt_1 : decode cX9_kindAt 1 = .ok (.iload_n 1, 1) := by decide +kernel
theorem dX9_kindAt_2 : decode cX9_kindAt 2 = .ok (.invokevirtual 310, 3) := by decide +kernel
theorem dX9_kindAt_5 : decode cX9_kindAt 5 = .ok (.ifCond .ne 5, 3) := by decide +kernel
theorem dX9_kindAt_8 : decode cX9_kindAt 8 = .ok (.iconst 0, 1) := by decide +kernel
theorem dX9_kindAt_9 : decode cX9_kindAt 9 = .ok (.ireturn, 1) := by decide +kernel
theorem dX9_kindAt_10 : decode cX9_kindAt 10 = .ok (.iconst 0, 1) := by decide +kernel
theorem dX9_kindAt_11 : decode cX9_kindAt 11 = .ok (.istore_n 3, 1) := by decide +kernel
theorem dX9_kindAt_12 : decode cX9_kindAt 12 = .ok (.iload_n 3, 1) := by decide +kernel
theorem dX9_kindAt_13 : decode cX9_kindAt 13 = .ok (.iconst 5, 1) := by decide +kernel
theorem dX9_kindAt_14 : decode cX9_kindAt 14 = .ok (.if_icmp .ge 21, 3) := by decide +kernel
theorem dX9_kindAt_17 : decode cX9_kindAt 17 = .ok (.aload_n 0, 1) := by decide +kernel
theorem dX9_kindAt_18 : decode cX9_kindAt 18 = .ok (.iload_n 1, 1) := by decide +kernel
theorem dX9_kindAt_19 : decode cX9_kindAt 19 = .ok (.iload_n 3, 1) := by decide +kernel
theorem dX9_kindAt_20 : decode cX9_kindAt 20 = .ok (.invokevirtual 316, 3) := by decide +kernel
theorem dX9_kindAt_23 : decode cX9_kindAt 23 = .ok (.iload_n 2, 1) := by decide +kernel
theorem dX9_kindAt_24 : decode cX9_kindAt 24 = .ok (.if_icmp .ne 5, 3) := by decide +kernel
theorem dX9_kindAt_27 : decode cX9_kindAt 27 = .ok (.iload_n 3, 1) := by decide +kernel
theorem dX9_kindAt_28 : decode cX9_kindAt 28 = .ok (.ireturn, 1) := by decide +kernel
theorem dX9_kindAt_29 : decode cX9_kindAt 29 = .ok (.iinc 3 1, 3) := by decide +kernel
theorem dX9_kindAt_32 : decode cX9_kindAt 32 = .ok (.goto (-20), 3) := by decide +kernel
theorem dX9_kindAt_35 : decode cX9_kindAt 35 = .ok (.iconst (-1), 1) := by decide +kernel
theorem dX9_kindAt_36 : decode cX9_kindAt 36 = .ok (.ireturn, 1) := by decide +kernel
def fX9_kindAt_L12 (p1 : Int32) (p2 : Int32) (k12 : Int32 → bM → Option (Int32 × bM)) (y5 : Int32) (v6 : bM) : Option (Int32 × bM) :=
  (if 5 ≤ y5 then (some ((-1), v6)) else (bnr (fX9_kindsBefore p1 y5 v6) fun r9 => (if r9 = p2 then (some (y5, v6)) else (nm (y5 + 1) fun x11 => k12 x11 v6))))
def fX9_kindAt (p1 : Int32) (p2 : Int32) (v : bM) : Option (Int32 × bM) :=
  bnd (fX9_isBatch p1 v) fun r3 w2 => (if r3 = 0 then (some (0, w2)) else (lp (fX9_kindAt_L12 p1 p2) (fun _ _ => none) lpN 0 w2))
set_option maxRecDepth 100000 in
set_option maxHeartbeats 4000000 in
theorem mX9_kindAt {l : Launch} {p1 : Int32} {p2 : Int32} {v : bM} {r0 : Int32} {w0 : bM} (hf : fX9_kindAt p1 p2 v = some (r0, w0)) : bMet l yX9_kindAt cX9_kindAt 4 (some .int) 2 0 0 LMo (fun E a => [.ref a, .int p1, .int p2]) v w0 (fun _ => some (.int r0)) := by
  refine bk_start (by decide +kernel) wfMo (fun _ _ => Nat.le_of_ble_eq_true rfl) ?_
  intro p e s m args below meth c D E a ls H locs X hr hl hB
  have hx := X.1
  have hb := X.2.1
  have hown := X.2.2.2.1
  have hts := X.2.2.2.2.1
  have hl : lv_has ls 4 [(0, .ref a), (1, .int p1), (2, .int p2)] := hl
  have hf := (fX9_kindAt.eq_1 p1 p2 v).symm.trans hf
  refine lv_aload_n hx hb dX9_kindAt_0 rfl (lv_at hl 0 rfl) ?_
  refine lv_iload_n hx hb dX9_kindAt_1 rfl (lv_at hl 1 rfl) ?_
  obtain ⟨r3, w2, hc1, hf⟩ := bnd_some hf
  refine bk_all hB (fun h1 h2 h3 => bk_runV X (Av := [.int p1]) (rest := []) (mX9_isBatch hc1) yv_X9_isBatch wm_2057 ⟨Nat.le_of_ble_eq_true rfl, Nat.le_of_ble_eq_true rfl⟩ rfl rfl hl.1 kl_X9.1 (hB.1.obj lc_Mo_0) h1 h2 h3 (Nat.le_of_ble_eq_true rfl) ⟨Nat.le_of_ble_eq_true rfl, Nat.le_of_ble_eq_true rfl⟩ dX9_kindAt_2) (fun H locs hB => ?_)
  refine W.eq (g2 := F0 m 5 ls [.int r3]) rfl ?_
  refine lv_if_ne (tgt := 10) hx hb dX9_kindAt_5 (by decide) (fun c4 => ?_) (fun c4 => ?_)
  · have hf := (if_neg c4).symm.trans hf
    refine lv_iconst (v := 0) hx hb dX9_kindAt_10 (by decide) ?_
    refine lv_istore_n (lv' := [(3, .int 0), (0, .ref a), (1, .int p1), (2, .int p2)]) hx hb dX9_kindAt_11 rfl hl (by decide) rfl (fun ls hl => ?_)
    have hL12 : ∀ (n12 : Nat) (y5 : Int32) (v6 : bM) (H : Heap) (locs : List Loc) (ls : Array Slot), lp (fX9_kindAt_L12 p1 p2) (fun _ _ => none) n12 y5 v6 = some (r0, w0) → bB D E LMo a v6 s H locs → lv_has ls 4 [(0, .ref a), (1, .int p1), (2, .int p2), (3, .int y5)] → W p l e (rmOf 2 0 0) s m args below meth c H locs 0 0 (bQ below D E LMo a w0 (some (.int r0)) args s 0 0) (F0 m 12 ls []) := by
      intro n12
      induction n12 with
      | zero => intro y5 v6 H locs ls hf; cases (show (none : Option (Int32 × bM)) = some (r0, w0) from hf)
      | succ n12 ih12 =>
        intro y5 v6 H locs ls hf hB hl
        have hf := (fX9_kindAt_L12.eq_1 p1 p2 (lp (fX9_kindAt_L12 p1 p2) (fun _ _ => none) n12) y5 v6).symm.trans (show fX9_kindAt_L12 p1 p2 (lp (fX9_kindAt_L12 p1 p2) (fun _ _ => none) n12) y5 v6 = some (r0, w0) from hf)
        refine lv_iload_n hx hb dX9_kindAt_12 rfl (lv_at hl 3 rfl) ?_
        refine lv_iconst (v := 5) hx hb dX9_kindAt_13 (by decide) ?_
        refine lv_icmp_ge (tgt := 35) hx hb dX9_kindAt_14 (by decide) (fun c7 => ?_) (fun c7 => ?_)
        · have hf := (if_pos c7).symm.trans hf
          refine lv_iconst (v := (-1)) hx hb dX9_kindAt_35 (by decide) ?_
          exact bk_iW X hr rfl hf hB (Nat.le_of_ble_eq_true rfl) (Nat.le_of_ble_eq_true rfl) dX9_kindAt_36
        · have hf := (if_neg c7).symm.trans hf
          refine lv_aload_n hx hb dX9_kindAt_17 rfl (lv_at hl 0 rfl) ?_
          refine lv_iload_n hx hb dX9_kindAt_18 rfl (lv_at hl 1 rfl) ?_
          refine lv_iload_n hx hb dX9_kindAt_19 rfl (lv_at hl 3 rfl) ?_
          obtain ⟨r9, hc8, hf⟩ := bnr_some hf
          refine bk_all hB (fun h1 h2 h3 => bk_runV X (Av := [.int p1, .int y5]) (rest := []) (mX9_kindsBefore hc8) yv_X9_kindsBefore wm_2097 ⟨Nat.le_of_ble_eq_true rfl, Nat.le_of_ble_eq_true rfl⟩ rfl rfl hl.1 kl_X9.1 (hB.1.obj lc_Mo_0) h1 h2 h3 (Nat.le_of_ble_eq_true rfl) ⟨Nat.le_of_ble_eq_true rfl, Nat.le_of_ble_eq_true rfl⟩ dX9_kindAt_20) (fun H locs hB => ?_)
          refine W.eq (g2 := F0 m 23 ls [.int r9]) rfl ?_
          refine lv_iload_n hx hb dX9_kindAt_23 rfl (lv_at hl 2 rfl) ?_
          refine lv_icmp_ne (tgt := 29) hx hb dX9_kindAt_24 (by decide) (fun c10 => ?_) (fun c10 => ?_)
          · have hf := (if_neg c10).symm.trans hf
            obtain ⟨x11, ex11⟩ : ∃ y : Int32, y = y5 + 1 := ⟨_, rfl⟩
            have hf := nm_use hf ex11
            refine lv_iinc (v := x11) (lv' := [(3, .int x11), (0, .ref a), (1, .int p1), (2, .int p2)]) hx hb dX9_kindAt_29 hl (k := 3) rfl (by rw [ex11]; rfl) (by decide) rfl (fun ls hl => ?_)
            refine lv_goto (tgt := 12) hx hb dX9_kindAt_32 (by decide) ?_
            exact ih12 x11 v6 H locs ls hf hB (lv_sub hl [1, 2, 3, 0] rfl)
          · have hf := (if_pos c10).symm.trans hf
            refine lv_iload_n hx hb dX9_kindAt_27 rfl (lv_at hl 3 rfl) ?_
            exact bk_iW X hr rfl hf hB (Nat.le_of_ble_eq_true rfl) (Nat.le_of_ble_eq_true rfl) dX9_kindAt_28
    exact hL12 lpN 0 w2 H locs ls hf hB (lv_sub hl [1, 2, 3, 0] rfl)
  · have hf := (if_pos c4).symm.trans hf
    refine lv_iconst (v := 0) hx hb dX9_kindAt_8 (by decide) ?_
    exact bk_iW X hr rfl hf hB (Nat.le_of_ble_eq_true rfl) (Nat.le_of_ble_eq_true rfl) dX9_kindAt_9
theorem yv_X9_kindAt : bYv yX9_kindAt RX9 cX9_kindAt 4 (some .int) 2 := ⟨⟨rfl, by decide, by decide, rfl⟩, wm_2094, wm_2095, wm_17, wm_2096⟩

theorem dX9_sumOf_0 : decode cX9_sumOf 0 = .ok (.iload_n 1, 1) := by decide +kernel
theorem dX9_sumOf_1 : decode cX9_sumOf 1 = .ok (.iconst 5, 1) := by decide +kernel
theorem dX9_sumOf_2 : decode cX9_sumOf 2 = .ok (.if_icmp .ne 11, 3) := by decide +kernel
theorem dX9_sumOf_5 : decode cX9_sumOf 5 = .ok (.aload_n 0, 1) := by decide +kernel
theorem dX9_sumOf_6 : decode cX9_sumOf 6 = .ok (.getfield 17, 3) := by decide +kernel
theorem dX9_sumOf_9 : decode cX9_sumOf 9 = .ok (.bipush 11, 2) := by decide +kernel
theorem dX9_sumOf_11 : decode cX9_sumOf 11 = .ok (.iaload, 1) := by decide +kernel
theorem dX9_sumOf_12 : decode cX9_sumOf 12 = .ok (.ireturn, 1) := by decide +kernel
theorem dX9_sumOf_13 : decode cX9_sumOf 13 = .ok (.iconst 0, 1) := by decide +kernel
theorem dX9_sumOf_14 : decode cX9_sumOf 14 = .ok (.istore_n 2, 1) := by decide +kernel
theorem dX9_sumOf_15 : decode cX9_sumOf 15 = .ok (.iconst 0, 1) := by decide +kernel
theorem dX9_sumOf_16 : decode cX9_sumOf 16 = .ok (.istore_n 3, 1) := by decide +kernel
theorem dX9_sumOf_17 : decode cX9_sumOf 17 = .ok (.iload_n 3, 1) := by decide +kernel
theorem dX9_sumOf_18 : decode cX9_sumOf 18 = .ok (.aload_n 0, 1) := by decide +kernel
theorem dX9_sumOf_19 : decode cX9_sumOf 19 = .ok (.getfield 17, 3) := by decide +kernel
theorem dX9_sumOf_22 : decode cX9_sumOf 22 = .ok (.bipush 7, 2) := by decide +kernel
theorem dX9_sumOf_24 : decode cX9_sumOf 24 = .ok (.iaload, 1) := by decide +kernel
theorem dX9_sumOf_25 : decode cX9_sumOf 25 = .ok (.if_icmp .ge 21, 3) := by decide +kernel
theorem dX9_sumOf_28 : decode cX9_sumOf 28 = .ok (.iload_n 2, 1) := by decide +kernel
theorem dX9_sumOf_29 : decode cX9_sumOf 29 = .ok (.aload_n 0, 1) := by decide +kernel
theorem dX9_sumOf_30 : decode cX9_sumOf 30 = .ok (.iload_n 3, 1) := by decide +kernel
theorem dX9_sumOf_31 : decode cX9_sumOf 31 = .ok (.bipush 6, 2) := by decide +kernel
theorem dX9_sumOf_33 : decode cX9_sumOf 33 = .ok (.iload_n 1, 1) := by decide +kernel
theorem dX9_sumOf_34 : decode cX9_sumOf 34 = .ok (.iadd, 1) := by decide +kernel
theorem dX9_sumOf_35 : decode cX9_sumOf 35 = .ok (.invokevirtual 101, 3) := by decide +kernel
theorem dX9_sumOf_38 : decode cX9_sumOf 38 = .ok (.iadd, 1) := by decide +kernel
theorem dX9_sumOf_39 : decode cX9_sumOf 39 = .ok (.istore_n 2, 1) := by decide +kernel
theorem dX9_sumOf_40 : decode cX9_sumOf 40 = .ok (.iinc 3 1, 3) := by decide +kernel
theorem dX9_sumOf_43 : decode cX9_sumOf 43 = .ok (.goto (-26), 3) := by decide +kernel
theorem dX9_sumOf_46 : decode cX9_sumOf 46 = .ok (.iload_n 2, 1) := by decide +kernel
theorem dX9_sumOf_47 : decode cX9_sumOf 47 = .ok (.ireturn, 1) := by decide +kernel
def fX9_sumOf_L17 (p1 : Int32) (v : bM) (k17 : Int32 → Int32 → Option Int32) (y2 : Int32) (y3 : Int32) : Option Int32 :=
  (if (v (710 + (7 : Int32).toNatClampNeg)) ≤ y3 then (some (y2)) else (bnr (fX9_batch y3 (6 + p1) v) fun r6 => nm (y2 + r6) fun x7 => nm (y3 + 1) fun x8 => k17 x7 x8))
def fX9_sumOf (p1 : Int32) (v : bM) : Option Int32 :=
  (if p1 = 5 then (some (v (710 + (11 : Int32).toNatClampNeg))) else (lp (fX9_sumOf_L17 p1 v) (fun _ _ => none) lpN 0 0))
set_option maxRecDepth 100000 in
set_option maxHeartbeats 4000000 in
theorem mX9_sumOf {l : Launch} {p1 : Int32} {v : bM} {r0 : Int32} (hf : fX9_sumOf p1 v = some r0) : bMet l yX9_sumOf cX9_sumOf 4 (some .int) 1 0 0 LMo (fun E a => [.ref a, .int p1]) v v (fun _ => some (.int r0)) := by
  refine bk_start (by decide +kernel) wfMo (fun _ _ => Nat.le_of_ble_eq_true rfl) ?_
  intro p e s m args below meth c D E a ls H locs X hr hl hB
  have hx := X.1
  have hb := X.2.1
  have hown := X.2.2.2.1
  have hts := X.2.2.2.2.1
  have hl : lv_has ls 4 [(0, .ref a), (1, .int p1)] := hl
  have hf := (fX9_sumOf.eq_1 p1 v).symm.trans hf
  refine lv_iload_n hx hb dX9_sumOf_0 rfl (lv_at hl 1 rfl) ?_
  refine lv_iconst (v := 5) hx hb dX9_sumOf_1 (by decide) ?_
  refine lv_icmp_ne (tgt := 13) hx hb dX9_sumOf_2 (by decide) (fun c1 => ?_) (fun c1 => ?_)
  · have hf := (if_neg c1).symm.trans hf
    refine lv_iconst (v := 0) hx hb dX9_sumOf_13 (by decide) ?_
    refine lv_istore_n (lv' := [(2, .int 0), (0, .ref a), (1, .int p1)]) hx hb dX9_sumOf_14 rfl hl (by decide) rfl (fun ls hl => ?_)
    refine lv_iconst (v := 0) hx hb dX9_sumOf_15 (by decide) ?_
    refine lv_istore_n (lv' := [(3, .int 0), (2, .int 0), (0, .ref a), (1, .int p1)]) hx hb dX9_sumOf_16 rfl hl (by decide) rfl (fun ls hl => ?_)
    have hL17 : ∀ (n17 : Nat) (y2 y3 : Int32) (H : Heap) (locs : List Loc) (ls : Array Slot), lp (fX9_sumOf_L17 p1 v) (fun _ _ => none) n17 y2 y3 = some r0 → bB D E LMo a v s H locs → lv_has ls 4 [(0, .ref a), (1, .int p1), (2, .int y2), (3, .int y3)] → W p l e (rmOf 1 0 0) s m args below meth c H locs 0 0 (bQ below D E LMo a v (some (.int r0)) args s 0 0) (F0 m 17 ls []) := by
      intro n17
      induction n17 with
      | zero => intro y2 y3 H locs ls hf; cases (show (none : Option Int32) = some r0 from hf)
      | succ n17 ih17 =>
        intro y2 y3 H locs ls hf hB hl
        have hf := (fX9_sumOf_L17.eq_1 p1 v (lp (fX9_sumOf_L17 p1 v) (fun _ _ => none) n17) y2 y3).symm.trans (show fX9_sumOf_L17 p1 v (lp (fX9_sumOf_L17 p1 v) (fun _ _ => none) n17) y2 y3 = some r0 from hf)
        refine lv_iload_n hx hb dX9_sumOf_17 rfl (lv_at hl 3 rfl) ?_
        refine lv_aload_n hx hb dX9_sumOf_18 rfl (lv_at hl 0 rfl) ?_
        refine bk_getR X hB kl_X9 0 lc_Mo_0 5 (by decide) rfl wm_1868 dX9_sumOf_19 ?_
        refine lv_bipush (v := 7) hx hb dX9_sumOf_22 (by decide) ?_
        refine bk_ald X hB 2 lc_Mo_2 (vp_c 7 496 rfl) dX9_sumOf_24 ?_
        refine lv_icmp_ge (tgt := 46) hx hb dX9_sumOf_25 (by decide) (fun c4 => ?_) (fun c4 => ?_)
        · have hf := (if_pos c4).symm.trans hf
          refine lv_iload_n hx hb dX9_sumOf_46 rfl (lv_at hl 2 rfl) ?_
          exact bk_iR X hr rfl hf hB (Nat.le_of_ble_eq_true rfl) (Nat.le_of_ble_eq_true rfl) dX9_sumOf_47
        · have hf := (if_neg c4).symm.trans hf
          refine lv_iload_n hx hb dX9_sumOf_28 rfl (lv_at hl 2 rfl) ?_
          refine lv_aload_n hx hb dX9_sumOf_29 rfl (lv_at hl 0 rfl) ?_
          refine lv_iload_n hx hb dX9_sumOf_30 rfl (lv_at hl 3 rfl) ?_
          refine lv_bipush (v := 6) hx hb dX9_sumOf_31 (by decide) ?_
          refine lv_iload_n hx hb dX9_sumOf_33 rfl (lv_at hl 1 rfl) ?_
          refine lv_iadd hx hb dX9_sumOf_34 ?_
          obtain ⟨r6, hc5, hf⟩ := bnr_some hf
          refine bk_all hB (fun h1 h2 h3 => bk_runV X (Av := [.int y3, .int (6 + p1)]) (rest := [.int y2]) (mX9_batch hc5) yv_X9_batch wm_1830 ⟨Nat.le_of_ble_eq_true rfl, Nat.le_of_ble_eq_true rfl⟩ rfl rfl hl.1 kl_X9.1 (hB.1.obj lc_Mo_0) h1 h2 h3 (Nat.le_of_ble_eq_true rfl) ⟨Nat.le_of_ble_eq_true rfl, Nat.le_of_ble_eq_true rfl⟩ dX9_sumOf_35) (fun H locs hB => ?_)
          refine W.eq (g2 := F0 m 38 ls [.int r6, .int y2]) rfl ?_
          refine lv_iadd hx hb dX9_sumOf_38 ?_
          refine lv_topi (fun x7 ex7 => ?_)
          have hf := nm_use hf ex7
          refine lv_istore_n (lv' := [(2, .int x7), (0, .ref a), (1, .int p1), (3, .int y3)]) hx hb dX9_sumOf_39 rfl hl (by decide) rfl (fun ls hl => ?_)
          obtain ⟨x8, ex8⟩ : ∃ y : Int32, y = y3 + 1 := ⟨_, rfl⟩
          have hf := nm_use hf ex8
          refine lv_iinc (v := x8) (lv' := [(3, .int x8), (2, .int x7), (0, .ref a), (1, .int p1)]) hx hb dX9_sumOf_40 hl (k := 3) rfl (by rw [ex8]; rfl) (by decide) rfl (fun ls hl => ?_)
          refine lv_goto (tgt := 17) hx hb dX9_sumOf_43 (by decide) ?_
          exact ih17 x7 x8 H locs ls hf hB (lv_sub hl [2, 3, 1, 0] rfl)
    exact hL17 lpN 0 0 H locs ls hf hB (lv_sub hl [2, 3, 1, 0] rfl)
  · have hf := (if_pos c1).symm.trans hf
    refine lv_aload_n hx hb dX9_sumOf_5 rfl (lv_at hl 0 rfl) ?_
    refine bk_getR X hB kl_X9 0 lc_Mo_0 5 (by decide) rfl wm_1868 dX9_sumOf_6 ?_
    refine lv_bipush (v := 11) hx hb dX9_sumOf_9 (by decide) ?_
    refine bk_ald X hB 2 lc_Mo_2 (vp_c 11 496 rfl) dX9_sumOf_11 ?_
    exact bk_iR X hr rfl hf hB (Nat.le_of_ble_eq_true rfl) (Nat.le_of_ble_eq_true rfl) dX9_sumOf_12
theorem yv_X9_sumOf : bYv yX9_sumOf RX9 cX9_sumOf 4 (some .int) 1 := ⟨⟨rfl, by decide, by decide, rfl⟩, wm_2107, wp_84, wm_17, wm_2108⟩

theorem dX9_gapSum_0 : decode cX9_gapSum 0 = .ok (.aload_n 0, 1) := by decide +kernel
theorem dX9_gapSum_1 : decode cX9_gapSum 1 = .ok (.iconst 0, 1) := by decide +kernel
theorem dX9_gapSum_2 : decode cX9_gapSum 2 = .ok (.putfield 60, 3) := by decide +kernel
theorem dX9_gapSum_5 : decode cX9_gapSum 5 = .ok (.aload_n 0, 1) := by decide +kernel
theorem dX9_gapSum_6 : decode cX9_gapSum 6 = .ok (.iload_n 1, 1) := by decide +kernel
theorem dX9_gapSum_7 : decode cX9_gapSum 7 = .ok (.iconst 0, 1) := by decide +kernel
theorem dX9_gapSum_8 : decode cX9_gapSum 8 = .ok (.iconst 5, 1) := by decide +kernel
theorem dX9_gapSum_9 : decode cX9_gapSum 9 = .ok (.invokestatic 135, 3) := by decide +kernel
theorem dX9_gapSum_12 : decode cX9_gapSum 12 = .ok (.iconst 1, 1) := by decide +kernel
theorem dX9_gapSum_13 : decode cX9_gapSum 13 = .ok (.invokevirtual 297, 3) := by decide +kernel
theorem dX9_gapSum_16 : decode cX9_gapSum 16 = .ok (.ifCond .eq 7, 3) := by decide +kernel
theorem dX9_gapSum_19 : decode cX9_gapSum 19 = .ok (.iconst 0, 1) := by decide +kernel
theorem dX9_gapSum_20 : decode cX9_gapSum 20 = .ok (.goto 8, 3) := by decide +kernel
theorem dX9_gapSum_23 : decode cX9_gapSum 23 = .ok (.aload_n 0, 1) := by decide +kernel
theorem dX9_gapSum_24 : decode cX9_gapSum 24 = .ok (.iload_n 1, 1) := by decide +kernel
theorem dX9_gapSum_25 : decode cX9_gapSum 25 = .ok (.invokevirtual 319, 3) := by decide +kernel
theorem dX9_gapSum_28 : decode cX9_gapSum 28 = .ok (.ireturn, 1) := by decide +kernel
def fX9_gapSum (p1 : Int32) (v : bM) : Option (Int32 × bM) :=
  nm (upd v 3 0) fun v1 => bnr (fX9_inRange p1 0 5) fun r3 => bnd (fX9_fails r3 1 v1) fun r6 w5 => (if r6 = 0 then (bnr (fX9_sumOf p1 w5) fun r9 => some (r9, w5)) else (some (0, w5)))
set_option maxRecDepth 100000 in
set_option maxHeartbeats 4000000 in
theorem mX9_gapSum {l : Launch} {p1 : Int32} {v : bM} {r0 : Int32} {w0 : bM} (hf : fX9_gapSum p1 v = some (r0, w0)) : bMet l yX9_gapSum cX9_gapSum 2 (some .int) 2 0 0 LMo (fun E a => [.ref a, .int p1]) v w0 (fun _ => some (.int r0)) := by
  refine bk_start (by decide +kernel) wfMo (fun _ _ => Nat.le_of_ble_eq_true rfl) ?_
  intro p e s m args below meth c D E a ls H locs X hr hl hB
  have hx := X.1
  have hb := X.2.1
  have hown := X.2.2.2.1
  have hts := X.2.2.2.2.1
  have hl : lv_has ls 2 [(0, .ref a), (1, .int p1)] := hl
  have hf := (fX9_gapSum.eq_1 p1 v).symm.trans hf
  refine lv_aload_n hx hb dX9_gapSum_0 rfl (lv_at hl 0 rfl) ?_
  refine lv_iconst (v := 0) hx hb dX9_gapSum_1 (by decide) ?_
  refine bk_putI X hB kl_X9 0 lc_Mo_0 4 (by decide) rfl rfl rfl wm_1867 dX9_gapSum_2 rfl (fun H locs hB => ?_)
  obtain ⟨v1, ev1⟩ : ∃ y : bM, y = upd v 3 0 := ⟨_, rfl⟩
  have hf := nm_use hf ev1
  rw [← ev1] at hB
  refine lv_aload_n hx hb dX9_gapSum_5 rfl (lv_at hl 0 rfl) ?_
  refine lv_iload_n hx hb dX9_gapSum_6 rfl (lv_at hl 1 rfl) ?_
  refine lv_iconst (v := 0) hx hb dX9_gapSum_7 (by decide) ?_
  refine lv_iconst (v := 5) hx hb dX9_gapSum_8 (by decide) ?_
  obtain ⟨r3, hc2, hf⟩ := bnr_some hf
  refine bk_non (v0 := v1) (w0 := v1) hB (fun h1 h2 h3 => bk_runS X (Av := [.int p1, .int 0, .int 5]) (rest := [.ref a]) (mX9_inRange hc2) ys_X9_inRange wm_1653 ⟨Nat.le_of_ble_eq_true rfl, Nat.le_of_ble_eq_true rfl⟩ rfl rfl hl.1 h1 h2 h3 (Nat.le_of_ble_eq_true rfl) ⟨Nat.le_of_ble_eq_true rfl, Nat.le_of_ble_eq_true rfl⟩ dX9_gapSum_9) (fun H locs hB => ?_)
  refine W.eq (g2 := F0 m 12 ls [.int r3, .ref a]) rfl ?_
  refine lv_iconst (v := 1) hx hb dX9_gapSum_12 (by decide) ?_
  obtain ⟨r6, w5, hc4, hf⟩ := bnd_some hf
  refine bk_all hB (fun h1 h2 h3 => bk_runV X (Av := [.int r3, .int 1]) (rest := []) (mX9_fails hc4) yv_X9_fails wm_1977 ⟨Nat.le_of_ble_eq_true rfl, Nat.le_of_ble_eq_true rfl⟩ rfl rfl hl.1 kl_X9.1 (hB.1.obj lc_Mo_0) h1 h2 h3 (Nat.le_of_ble_eq_true rfl) ⟨Nat.le_of_ble_eq_true rfl, Nat.le_of_ble_eq_true rfl⟩ dX9_gapSum_13) (fun H locs hB => ?_)
  refine W.eq (g2 := F0 m 16 ls [.int r6]) rfl ?_
  refine lv_if_eq (tgt := 23) hx hb dX9_gapSum_16 (by decide) (fun c7 => ?_) (fun c7 => ?_)
  · have hf := (if_pos c7).symm.trans hf
    refine lv_aload_n hx hb dX9_gapSum_23 rfl (lv_at hl 0 rfl) ?_
    refine lv_iload_n hx hb dX9_gapSum_24 rfl (lv_at hl 1 rfl) ?_
    obtain ⟨r9, hc8, hf⟩ := bnr_some hf
    refine bk_all hB (fun h1 h2 h3 => bk_runV X (Av := [.int p1]) (rest := []) (mX9_sumOf hc8) yv_X9_sumOf wm_2105 ⟨Nat.le_of_ble_eq_true rfl, Nat.le_of_ble_eq_true rfl⟩ rfl rfl hl.1 kl_X9.1 (hB.1.obj lc_Mo_0) h1 h2 h3 (Nat.le_of_ble_eq_true rfl) ⟨Nat.le_of_ble_eq_true rfl, Nat.le_of_ble_eq_true rfl⟩ dX9_gapSum_25) (fun H locs hB => ?_)
    refine W.eq (g2 := F0 m 28 ls [.int r9]) rfl ?_
    exact bk_iW X hr rfl hf hB (Nat.le_of_ble_eq_true rfl) (Nat.le_of_ble_eq_true rfl) dX9_gapSum_28
  · have hf := (if_neg c7).symm.trans hf
    refine lv_iconst (v := 0) hx hb dX9_gapSum_19 (by decide) ?_
    refine lv_goto (tgt := 28) hx hb dX9_gapSum_20 (by decide) ?_
    exact bk_iW X hr rfl hf hB (Nat.le_of_ble_eq_true rfl) (Nat.le_of_ble_eq_true rfl) dX9_gapSum_28
theorem yv_X9_gapSum : bYv yX9_gapSum RX9 cX9_gapSum 2 (some .int) 1 := ⟨⟨rfl, by decide, by decide, rfl⟩, wm_2102, wm_2103, wm_17, wm_2104⟩

theorem dX9_priceGap_0 : decode cX9_priceGap 0 = .ok (.aload_n 0, 1) := by decide +kernel
theorem dX9_priceGap_1 : decode cX9_priceGap 1 = .ok (.iload_n 1, 1) := by decide +kernel
theorem dX9_priceGap_2 : decode cX9_priceGap 2 = .ok (.invokevirtual 301, 3) := by decide +kernel
theorem dX9_priceGap_5 : decode cX9_priceGap 5 = .ok (.ifCond .eq 12, 3) := by decide +kernel
theorem dX9_priceGap_8 : decode cX9_priceGap 8 = .ok (.aload_n 0, 1) := by decide +kernel
theorem dX9_priceGap_9 : decode cX9_priceGap 9 = .ok (.iload_n 1, 1) := by decide +kernel
theorem dX9_priceGap_10 : decode cX9_priceGap 10 = .ok (.iconst 2, 1) := by decide +kernel
theorem dX9_priceGap_11 : decode cX9_priceGap 11 = .ok (.invokevirtual 63, 3) := by decide +kernel
theorem dX9_priceGap_14 : decode cX9_priceGap 14 = .ok (.goto 4, 3) := by decide +kernel
theorem dX9_priceGap_17 : decode cX9_priceGap 17 = .ok (.iconst 0, 1) := by decide +kernel
theorem dX9_priceGap_18 : decode cX9_priceGap 18 = .ok (.ireturn, 1) := by decide +kernel
def fX9_priceGap (p1 : Int32) (v : bM) : Option (Int32 × bM) :=
  bnd (fX9_isFlour p1 v) fun r3 w2 => (if r3 = 0 then (some (0, w2)) else (bnr (fX9_flour p1 2 w2) fun r6 => some (r6, w2)))
set_option maxRecDepth 100000 in
set_option maxHeartbeats 4000000 in
theorem mX9_priceGap {l : Launch} {p1 : Int32} {v : bM} {r0 : Int32} {w0 : bM} (hf : fX9_priceGap p1 v = some (r0, w0)) : bMet l yX9_priceGap cX9_priceGap 2 (some .int) 2 0 0 LMo (fun E a => [.ref a, .int p1]) v w0 (fun _ => some (.int r0)) := by
  refine bk_start (by decide +kernel) wfMo (fun _ _ => Nat.le_of_ble_eq_true rfl) ?_
  intro p e s m args below meth c D E a ls H locs X hr hl hB
  have hx := X.1
  have hb := X.2.1
  have hown := X.2.2.2.1
  have hts := X.2.2.2.2.1
  have hl : lv_has ls 2 [(0, .ref a), (1, .int p1)] := hl
  have hf := (fX9_priceGap.eq_1 p1 v).symm.trans hf
  refine lv_aload_n hx hb dX9_priceGap_0 rfl (lv_at hl 0 rfl) ?_
  refine lv_iload_n hx hb dX9_priceGap_1 rfl (lv_at hl 1 rfl) ?_
  obtain ⟨r3, w2, hc1, hf⟩ := bnd_some hf
  refine bk_all hB (fun h1 h2 h3 => bk_runV X (Av := [.int p1]) (rest := []) (mX9_isFlour hc1) yv_X9_isFlour wm_1973 ⟨Nat.le_of_ble_eq_true rfl, Nat.le_of_ble_eq_true rfl⟩ rfl rfl hl.1 kl_X9.1 (hB.1.obj lc_Mo_0) h1 h2 h3 (Nat.le_of_ble_eq_true rfl) ⟨Nat.le_of_ble_eq_true rfl, Nat.le_of_ble_eq_true rfl⟩ dX9_priceGap_2) (fun H locs hB => ?_)
  refine W.eq (g2 := F0 m 5 ls [.int r3]) rfl ?_
  refine lv_if_eq (tgt := 17) hx hb dX9_priceGap_5 (by decide) (fun c4 => ?_) (fun c4 => ?_)
  · have hf := (if_pos c4).symm.trans hf
    refine lv_iconst (v := 0) hx hb dX9_priceGap_17 (by decide) ?_
    exact bk_iW X hr rfl hf hB (Nat.le_of_ble_eq_true rfl) (Nat.le_of_ble_eq_true rfl) dX9_priceGap_18
  · have hf := (if_neg c4).symm.trans hf
    refine lv_aload_n hx hb dX9_priceGap_8 rfl (lv_at hl 0 rfl) ?_
    refine lv_iload_n hx hb dX9_priceGap_9 rfl (lv_at hl 1 rfl) ?_
    refine lv_iconst (v := 2) hx hb dX9_priceGap_10 (by decide) ?_
    obtain ⟨r6, hc5, hf⟩ := bnr_some hf
    refine bk_all hB (fun h1 h2 h3 => bk_runV X (Av := [.int p1, .int 2]) (rest := []) (mX9_flour hc5) yv_X9_flour wm_1758 ⟨Nat.le_of_ble_eq_true rfl, Nat.le_of_ble_eq_true rfl⟩ rfl rfl hl.1 kl_X9.1 (hB.1.obj lc_Mo_0) h1 h2 h3 (Nat.le_of_ble_eq_true rfl) ⟨Nat.le_of_ble_eq_true rfl, Nat.le_of_ble_eq_true rfl⟩ dX9_priceGap_11) (fun H locs hB => ?_)
    refine W.eq (g2 := F0 m 14 ls [.int r6]) rfl ?_
    refine lv_goto (tgt := 18) hx hb dX9_priceGap_14 (by decide) ?_
    exact bk_iW X hr rfl hf hB (Nat.le_of_ble_eq_true rfl) (Nat.le_of_ble_eq_true rfl) dX9_priceGap_18
theorem yv_X9_priceGap : bYv yX9_priceGap RX9 cX9_priceGap 2 (some .int) 1 := ⟨⟨rfl, by decide, by decide, rfl⟩, wm_2110, wm_2111, wm_17, wm_2112⟩

theorem dX9_useGap_0 : decode cX9_useGap 0 = .ok (.aload_n 0, 1) := by decide +kernel
theorem dX9_useGap_1 : decode cX9_useGap 1 = .ok (.iload_n 1, 1) := by decide +kernel
theorem dX9_useGap_2 : decode cX9_useGap 2 = .ok (.invokevirtual 301, 3) := by decide +kernel
theorem dX9_useGap_5 : decode cX9_useGap 5 = .ok (.ifCond .eq 12, 3) := by decide +kernel
theorem dX9_useGap_8 : decode cX9_useGap 8 = .ok (.aload_n 0, 1) := by decide +kernel
theorem dX9_useGap_9 : decode cX9_useGap 9 = .ok (.iload_n 1, 1) := by decide +kernel
theorem dX9_useGap_10 : decode cX9_useGap 10 = .ok (.iconst 3, 1) := by decide +kernel
theorem dX9_useGap_11 : decode cX9_useGap 11 = .ok (.invokevirtual 63, 3) := by decide +kernel
theorem dX9_useGap_14 : decode cX9_useGap 14 = .ok (.goto 4, 3) := by decide +kernel
theorem dX9_useGap_17 : decode cX9_useGap 17 = .ok (.iconst 0, 1) := by decide +kernel
theorem dX9_useGap_18 : decode cX9_useGap 18 = .ok (.ireturn, 1) := by decide +kernel
def fX9_useGap (p1 : Int32) (v : bM) : Option (Int32 × bM) :=
  bnd (fX9_isFlour p1 v) fun r3 w2 => (if r3 = 0 then (some (0, w2)) else (bnr (fX9_flour p1 3 w2) fun r6 => some (r6, w2)))
set_option maxRecDepth 100000 in
set_option maxHeartbeats 4000000 in
theorem mX9_useGap {l : Launch} {p1 : Int32} {v : bM} {r0 : Int32} {w0 : bM} (hf : fX9_useGap p1 v = some (r0, w0)) : bMet l yX9_useGap cX9_useGap 2 (some .int) 2 0 0 LMo (fun E a => [.ref a, .int p1]) v w0 (fun _ => some (.int r0)) := by
  refine bk_start (by decide +kernel) wfMo (fun _ _ => Nat.le_of_ble_eq_true rfl) ?_
  intro p e s m args below meth c D E a ls H locs X hr hl hB
  have hx := X.1
  have hb := X.2.1
  have hown := X.2.2.2.1
  have hts := X.2.2.2.2.1
  have hl : lv_has ls 2 [(0, .ref a), (1, .int p1)] := hl
  have hf := (fX9_useGap.eq_1 p1 v).symm.trans hf
  refine lv_aload_n hx hb dX9_useGap_0 rfl (lv_at hl 0 rfl) ?_
  refine lv_iload_n hx hb dX9_useGap_1 rfl (lv_at hl 1 rfl) ?_
  obtain ⟨r3, w2, hc1, hf⟩ := bnd_some hf
  refine bk_all hB (fun h1 h2 h3 => bk_runV X (Av := [.int p1]) (rest := []) (mX9_isFlour hc1) yv_X9_isFlour wm_1973 ⟨Nat.le_of_ble_eq_true rfl, Nat.le_of_ble_eq_true rfl⟩ rfl rfl hl.1 kl_X9.1 (hB.1.obj lc_Mo_0) h1 h2 h3 (Nat.le_of_ble_eq_true rfl) ⟨Nat.le_of_ble_eq_true rfl, Nat.le_of_ble_eq_true rfl⟩ dX9_useGap_2) (fun H locs hB => ?_)
  refine W.eq (g2 := F0 m 5 ls [.int r3]) rfl ?_
  refine lv_if_eq (tgt := 17) hx hb dX9_useGap_5 (by decide) (fun c4 => ?_) (fun c4 => ?_)
  · have hf := (if_pos c4).symm.trans hf
    refine lv_iconst (v := 0) hx hb dX9_useGap_17 (by decide) ?_
    exact bk_iW X hr rfl hf hB (Nat.le_of_ble_eq_true rfl) (Nat.le_of_ble_eq_true rfl) dX9_useGap_18
  · have hf := (if_neg c4).symm.trans hf
    refine lv_aload_n hx hb dX9_useGap_8 rfl (lv_at hl 0 rfl) ?_
    refine lv_iload_n hx hb dX9_useGap_9 rfl (lv_at hl 1 rfl) ?_
    refine lv_iconst (v := 3) hx hb dX9_useGap_10 (by decide) ?_
    obtain ⟨r6, hc5, hf⟩ := bnr_some hf
    refine bk_all hB (fun h1 h2 h3 => bk_runV X (Av := [.int p1, .int 3]) (rest := []) (mX9_flour hc5) yv_X9_flour wm_1758 ⟨Nat.le_of_ble_eq_true rfl, Nat.le_of_ble_eq_true rfl⟩ rfl rfl hl.1 kl_X9.1 (hB.1.obj lc_Mo_0) h1 h2 h3 (Nat.le_of_ble_eq_true rfl) ⟨Nat.le_of_ble_eq_true rfl, Nat.le_of_ble_eq_true rfl⟩ dX9_useGap_11) (fun H locs hB => ?_)
    refine W.eq (g2 := F0 m 14 ls [.int r6]) rfl ?_
    refine lv_goto (tgt := 18) hx hb dX9_useGap_14 (by decide) ?_
    exact bk_iW X hr rfl hf hB (Nat.le_of_ble_eq_true rfl) (Nat.le_of_ble_eq_true rfl) dX9_useGap_18
theorem yv_X9_useGap : bYv yX9_useGap RX9 cX9_useGap 2 (some .int) 1 := ⟨⟨rfl, by decide, by decide, rfl⟩, wm_2114, wm_2115, wm_17, wm_2116⟩

theorem dX9_allGaps_0 : decode cX9_allGaps 0 = .ok (.iconst 0, 1) := by decide +kernel
theorem dX9_allGaps_1 : decode cX9_allGaps 1 = .ok (.istore_n 1, 1) := by decide +kernel
theorem dX9_allGaps_2 : decode cX9_allGaps 2 = .ok (.iconst 0, 1) := by decide +kernel
theorem dX9_allGaps_3 : decode cX9_allGaps 3 = .ok (.istore_n 2, 1) := by decide +kernel
theorem dX9_allGaps_4 : decode cX9_allGaps 4 = .ok (.iload_n 2, 1) := by decide +kernel
theorem dX9_allGaps_5 : decode cX9_allGaps 5 = .ok (.iconst 5, 1) := by decide +kernel
theorem dX9_allGaps_6 : decode cX9_allGaps 6 = .ok (.if_icmp .gt 17, 3) := by decide +kernel
theorem dX9_allGaps_9 : decode cX9_allGaps 9 = .ok (.iload_n 1, 1) := by decide +kernel
theorem dX9_allGaps_10 : decode cX9_allGaps 10 = .ok (.aload_n 0, 1) := by decide +kernel
theorem dX9_allGaps_11 : decode cX9_allGaps 11 = .ok (.iload_n 2, 1) := by decide +kernel
theorem dX9_allGaps_12 : decode cX9_allGaps 12 = .ok (.invokevirtual 319, 3) := by decide +kernel
theorem dX9_allGaps_15 : decode cX9_allGaps 15 = .ok (.iadd, 1) := by decide +kernel
theorem dX9_allGaps_16 : decode cX9_allGaps 16 = .ok (.istore_n 1, 1) := by decide +kernel
theorem dX9_allGaps_17 : decode cX9_allGaps 17 = .ok (.iinc 2 1, 3) := by decide +kernel
theorem dX9_allGaps_20 : decode cX9_allGaps 20 = .ok (.goto (-16), 3) := by decide +kernel
theorem dX9_allGaps_23 : decode cX9_allGaps 23 = .ok (.iload_n 1, 1) := by decide +kernel
theorem dX9_allGaps_24 : decode cX9_allGaps 24 = .ok (.ireturn, 1) := by decide +kernel
def fX9_allGaps_L4 (v : bM) (k4 : Int32 → Int32 → Option Int32) (y1 : Int32) (y2 : Int32) : Option Int32 :=
  (if 5 < y2 then (some (y1)) else (bnr (fX9_sumOf y2 v) fun r5 => nm (y1 + r5) fun x6 => nm (y2 + 1) fun x7 => k4 x6 x7))
def fX9_allGaps  (v : bM) : Option Int32 :=
  lp (fX9_allGaps_L4 v) (fun _ _ => none) lpN 0 0
set_option maxRecDepth 100000 in
set_option maxHeartbeats 4000000 in
theorem mX9_allGaps {l : Launch}  {v : bM} {r0 : Int32} (hf : fX9_allGaps  v = some r0) : bMet l yX9_allGaps cX9_allGaps 3 (some .int) 2 0 0 LMo (fun E a => [.ref a]) v v (fun _ => some (.int r0)) := by
  refine bk_start (by decide +kernel) wfMo (fun _ _ => Nat.le_of_ble_eq_true rfl) ?_
  intro p e s m args below meth c D E a ls H locs X hr hl hB
  have hx := X.1
  have hb := X.2.1
  have hown := X.2.2.2.1
  have hts := X.2.2.2.2.1
  have hl : lv_has ls 3 [(0, .ref a)] := hl
  have hf := (fX9_allGaps.eq_1  v).symm.trans hf
  refine lv_iconst (v := 0) hx hb dX9_allGaps_0 (by decide) ?_
  refine lv_istore_n (lv' := [(1, .int 0), (0, .ref a)]) hx hb dX9_allGaps_1 rfl hl (by decide) rfl (fun ls hl => ?_)
  refine lv_iconst (v := 0) hx hb dX9_allGaps_2 (by decide) ?_
  refine lv_istore_n (lv' := [(2, .int 0), (1, .int 0), (0, .ref a)]) hx hb dX9_allGaps_3 rfl hl (by decide) rfl (fun ls hl => ?_)
  have hL4 : ∀ (n4 : Nat) (y1 y2 : Int32) (H : Heap) (locs : List Loc) (ls : Array Slot), lp (fX9_allGaps_L4 v) (fun _ _ => none) n4 y1 y2 = some r0 → bB D E LMo a v s H locs → lv_has ls 3 [(0, .ref a), (1, .int y1), (2, .int y2)] → W p l e (rmOf 2 0 0) s m args below meth c H locs 0 0 (bQ below D E LMo a v (some (.int r0)) args s 0 0) (F0 m 4 ls []) := by
    intro n4
    induction n4 with
    | zero => intro y1 y2 H locs ls hf; cases (show (none : Option Int32) = some r0 from hf)
    | succ n4 ih4 =>
      intro y1 y2 H locs ls hf hB hl
      have hf := (fX9_allGaps_L4.eq_1 v (lp (fX9_allGaps_L4 v) (fun _ _ => none) n4) y1 y2).symm.trans (show fX9_allGaps_L4 v (lp (fX9_allGaps_L4 v) (fun _ _ => none) n4) y1 y2 = some r0 from hf)
      refine lv_iload_n hx hb dX9_allGaps_4 rfl (lv_at hl 2 rfl) ?_
      refine lv_iconst (v := 5) hx hb dX9_allGaps_5 (by decide) ?_
      refine lv_icmp_gt (tgt := 23) hx hb dX9_allGaps_6 (by decide) (fun c3 => ?_) (fun c3 => ?_)
      · have hf := (if_pos c3).symm.trans hf
        refine lv_iload_n hx hb dX9_allGaps_23 rfl (lv_at hl 1 rfl) ?_
        exact bk_iR X hr rfl hf hB (Nat.le_of_ble_eq_true rfl) (Nat.le_of_ble_eq_true rfl) dX9_allGaps_24
      · have hf := (if_neg c3).symm.trans hf
        refine lv_iload_n hx hb dX9_allGaps_9 rfl (lv_at hl 1 rfl) ?_
        refine lv_aload_n hx hb dX9_allGaps_10 rfl (lv_at hl 0 rfl) ?_
        refine lv_iload_n hx hb dX9_allGaps_11 rfl (lv_at hl 2 rfl) ?_
        obtain ⟨r5, hc4, hf⟩ := bnr_some hf
        refine bk_all hB (fun h1 h2 h3 => bk_runV X (Av := [.int y2]) (rest := [.int y1]) (mX9_sumOf hc4) yv_X9_sumOf wm_2105 ⟨Nat.le_of_ble_eq_true rfl, Nat.le_of_ble_eq_true rfl⟩ rfl rfl hl.1 kl_X9.1 (hB.1.obj lc_Mo_0) h1 h2 h3 (Nat.le_of_ble_eq_true rfl) ⟨Nat.le_of_ble_eq_true rfl, Nat.le_of_ble_eq_true rfl⟩ dX9_allGaps_12) (fun H locs hB => ?_)
        refine W.eq (g2 := F0 m 15 ls [.int r5, .int y1]) rfl ?_
        refine lv_iadd hx hb dX9_allGaps_15 ?_
        refine lv_topi (fun x6 ex6 => ?_)
        have hf := nm_use hf ex6
        refine lv_istore_n (lv' := [(1, .int x6), (0, .ref a), (2, .int y2)]) hx hb dX9_allGaps_16 rfl hl (by decide) rfl (fun ls hl => ?_)
        obtain ⟨x7, ex7⟩ : ∃ y : Int32, y = y2 + 1 := ⟨_, rfl⟩
        have hf := nm_use hf ex7
        refine lv_iinc (v := x7) (lv' := [(2, .int x7), (1, .int x6), (0, .ref a)]) hx hb dX9_allGaps_17 hl (k := 2) rfl (by rw [ex7]; rfl) (by decide) rfl (fun ls hl => ?_)
        refine lv_goto (tgt := 4) hx hb dX9_allGaps_20 (by decide) ?_
        exact ih4 x6 x7 H locs ls hf hB (lv_sub hl [2, 1, 0] rfl)
  exact hL4 lpN 0 0 H locs ls hf hB (lv_sub hl [2, 1, 0] rfl)
theorem yv_X9_allGaps : bYv yX9_allGaps RX9 cX9_allGaps 3 (some .int) 0 := ⟨⟨rfl, by decide, by decide, rfl⟩, wm_2123, wp_85, wm_17, wm_2124⟩

theorem dX9_totalLoss_0 : decode cX9_totalLoss 0 = .ok (.aload_n 0, 1) := by decide +kernel
theorem dX9_totalLoss_1 : decode cX9_totalLoss 1 = .ok (.aload_n 0, 1) := by decide +kernel
theorem dX9_totalLoss_2 : decode cX9_totalLoss 2 = .ok (.invokevirtual 322, 3) := by decide +kernel
theorem dX9_totalLoss_5 : decode cX9_totalLoss 5 = .ok (.invokevirtual 294, 3) := by decide +kernel
theorem dX9_totalLoss_8 : decode cX9_totalLoss 8 = .ok (.ireturn, 1) := by decide +kernel
def fX9_totalLoss  (v : bM) : Option (Int32 × bM) :=
  bnr (fX9_allGaps v) fun r2 => bnd (fX9_plain r2 v) fun r5 w4 => some (r5, w4)
set_option maxRecDepth 100000 in
set_option maxHeartbeats 4000000 in
theorem mX9_totalLoss {l : Launch}  {v : bM} {r0 : Int32} {w0 : bM} (hf : fX9_totalLoss  v = some (r0, w0)) : bMet l yX9_totalLoss cX9_totalLoss 1 (some .int) 3 0 0 LMo (fun E a => [.ref a]) v w0 (fun _ => some (.int r0)) := by
  refine bk_start (by decide +kernel) wfMo (fun _ _ => Nat.le_of_ble_eq_true rfl) ?_
  intro p e s m args below meth c D E a ls H locs X hr hl hB
  have hx := X.1
  have hb := X.2.1
  have hown := X.2.2.2.1
  have hts := X.2.2.2.2.1
  have hl : lv_has ls 1 [(0, .ref a)] := hl
  have hf := (fX9_totalLoss.eq_1  v).symm.trans hf
  refine lv_aload_n hx hb dX9_totalLoss_0 rfl (lv_at hl 0 rfl) ?_
  refine lv_aload_n hx hb dX9_totalLoss_1 rfl (lv_at hl 0 rfl) ?_
  obtain ⟨r2, hc1, hf⟩ := bnr_some hf
  refine bk_all hB (fun h1 h2 h3 => bk_runV X (Av := []) (rest := [.ref a]) (mX9_allGaps hc1) yv_X9_allGaps wm_2121 ⟨Nat.le_of_ble_eq_true rfl, Nat.le_of_ble_eq_true rfl⟩ rfl rfl hl.1 kl_X9.1 (hB.1.obj lc_Mo_0) h1 h2 h3 (Nat.le_of_ble_eq_true rfl) ⟨Nat.le_of_ble_eq_true rfl, Nat.le_of_ble_eq_true rfl⟩ dX9_totalLoss_2) (fun H locs hB => ?_)
  refine W.eq (g2 := F0 m 5 ls [.int r2, .ref a]) rfl ?_
  obtain ⟨r5, w4, hc3, hf⟩ := bnd_some hf
  refine bk_all hB (fun h1 h2 h3 => bk_runV X (Av := [.int r2]) (rest := []) (mX9_plain hc3) yv_X9_plain wm_1945 ⟨Nat.le_of_ble_eq_true rfl, Nat.le_of_ble_eq_true rfl⟩ rfl rfl hl.1 kl_X9.1 (hB.1.obj lc_Mo_0) h1 h2 h3 (Nat.le_of_ble_eq_true rfl) ⟨Nat.le_of_ble_eq_true rfl, Nat.le_of_ble_eq_true rfl⟩ dX9_totalLoss_5) (fun H locs hB => ?_)
  refine W.eq (g2 := F0 m 8 ls [.int r5]) rfl ?_
  exact bk_iW X hr rfl hf hB (Nat.le_of_ble_eq_true rfl) (Nat.le_of_ble_eq_true rfl) dX9_totalLoss_8
theorem yv_X9_totalLoss : bYv yX9_totalLoss RX9 cX9_totalLoss 1 (some .int) 0 := ⟨⟨rfl, by decide, by decide, rfl⟩, wm_2118, wm_2119, wm_17, wm_2120⟩

theorem dX9_worstBatch_0 : decode cX9_worstBatch 0 = .ok (.aload_n 0, 1) := by decide +kernel
theorem dX9_worstBatch_1 : decode cX9_worstBatch 1 = .ok (.iconst 0, 1) := by decide +kernel
theorem dX9_worstBatch_2 : decode cX9_worstBatch 2 = .ok (.putfield 60, 3) := by decide +kernel
theorem dX9_worstBatch_5 : decode cX9_worstBatch 5 = .ok (.iconst (-1), 1) := by decide +kernel
theorem dX9_worstBatch_6 : decode cX9_worstBatch 6 = .ok (.istore_n 1, 1) := by decide +kernel
theorem dX9_worstBatch_7 : decode cX9_worstBatch 7 = .ok (.iconst 0, 1) := by decide +kernel
theorem dX9_worstBatch_8 : decode cX9_worstBatch 8 = .ok (.istore_n 2, 1) := by decide +kernel
theorem dX9_worstBatch_9 : decode cX9_worstBatch 9 = .ok (.iload_n 2, 1) := by decide +kernel
theorem dX9_worstBatch_10 : decode cX9_worstBatch 10 = .ok (.aload_n 0, 1) := by decide +kernel
theorem dX9_worstBatch_11 : decode cX9_worstBatch 11 = .ok (.getfield 17, 3) := by decide +kernel
theorem dX9_worstBatch_14 : decode cX9_worstBatch 14 = .ok (.bipush 7, 2) := by decide +kernel
theorem dX9_worstBatch_16 : decode cX9_worstBatch 16 = .ok (.iaload, 1) := by decide +kernel
theorem dX9_worstBatch_17 : decode cX9_worstBatch 17 = .ok (.if_icmp .ge 33, 3) := by decide +kernel
theorem dX9_worstBatch_20 : decode cX9_worstBatch 20 = .ok (.iload_n 1, 1) := by decide +kernel
theorem dX9_worstBatch_21 : decode cX9_worstBatch 21 = .ok (.iconst (-1), 1) := by decide +kernel
theorem dX9_worstBatch_22 : decode cX9_worstBatch 22 = .ok (.if_icmp .eq 16, 3) := by decide +kernel
theorem dX9_worstBatch_25 : decode cX9_worstBatch 25 = .ok (.aload_n 0, 1) := by decide +kernel
theorem dX9_worstBatch_26 : decode cX9_worstBatch 26 = .ok (.iload_n 2, 1) := by decide +kernel
theorem dX9_worstBatch_27 : decode cX9_worstBatch 27 = .ok (.invokevirtual 313, 3) := by decide +kernel
theorem dX9_worstBatch_30 : decode cX9_worstBatch 30 = .ok (.aload_n 0, 1) := by decide +kernel
theorem dX9_worstBatch_31 : decode cX9_worstBatch 31 = .ok (.iload_n 1, 1) := by decide +kernel
theorem dX9_worstBatch_32 : decode cX9_worstBatch 32 = .ok (.invokevirtual 313, 3) := by decide +kernel
theorem dX9_worstBatch_35 : decode cX9_worstBatch 35 = .ok (.if_icmp .le 7, 3) := by decide +kernel
theorem dX9_worstBatch_38 : decode cX9_worstBatch 38 = .ok (.iload_n 2, 1) := by decide +kernel
theorem dX9_worstBatch_39 : decode cX9_worstBatch 39 = .ok (.goto 4, 3) := by decide +kernel
theorem dX9_worstBatch_42 : decode cX9_worstBatch 42 = .ok (.iload_n 1, 1) := by decide +kernel
theorem dX9_worstBatch_43 : decode cX9_worstBatch 43 = .ok (.istore_n 1, 1) := by decide +kernel
theorem dX9_worstBatch_44 : decode cX9_worstBatch 44 = .ok (.iinc 2 1, 3) := by decide +kernel
theorem dX9_worstBatch_47 : decode cX9_worstBatch 47 = .ok (.goto (-38), 3) := by decide +kernel
theorem dX9_worstBatch_50 : decode cX9_worstBatch 50 = .ok (.iload_n 1, 1) := by decide +kernel
theorem dX9_worstBatch_51 : decode cX9_worstBatch 51 = .ok (.ireturn, 1) := by decide +kernel
def fX9_worstBatch_J43 (y3 : Int32) (k9 : Int32 → Int32 → bM → Option (Int32 × bM)) (y6 : Int32) (v7 : bM) : Option (Int32 × bM) :=
  nm (y3 + 1) fun x8 => k9 y6 x8 v7
def fX9_worstBatch_J38 (y3 : Int32) (k9 : Int32 → Int32 → bM → Option (Int32 × bM))  (v9 : bM) : Option (Int32 × bM) :=
  fX9_worstBatch_J43 y3 k9 y3 v9
def fX9_worstBatch_L9  (k9 : Int32 → Int32 → bM → Option (Int32 × bM)) (y2 : Int32) (y3 : Int32) (v4 : bM) : Option (Int32 × bM) :=
  (if (v4 (710 + (7 : Int32).toNatClampNeg)) ≤ y3 then (some (y2, v4)) else ((if y2 = (-1) then (fX9_worstBatch_J38 y3 k9 v4) else (bnr (fX9_loss y3 v4) fun r12 => bnr (fX9_loss y2 v4) fun r14 => (if r12 ≤ r14 then (fX9_worstBatch_J43 y3 k9 y2 v4) else (fX9_worstBatch_J38 y3 k9 v4))))))
def fX9_worstBatch  (v : bM) : Option (Int32 × bM) :=
  nm (upd v 3 0) fun v1 => lp (fX9_worstBatch_L9) (fun _ _ _ => none) lpN (-1) 0 v1
set_option maxRecDepth 100000 in
set_option maxHeartbeats 4000000 in
theorem mX9_worstBatch {l : Launch}  {v : bM} {r0 : Int32} {w0 : bM} (hf : fX9_worstBatch  v = some (r0, w0)) : bMet l yX9_worstBatch cX9_worstBatch 3 (some .int) 4 0 0 LMo (fun E a => [.ref a]) v w0 (fun _ => some (.int r0)) := by
  refine bk_start (by decide +kernel) wfMo (fun _ _ => Nat.le_of_ble_eq_true rfl) ?_
  intro p e s m args below meth c D E a ls H locs X hr hl hB
  have hx := X.1
  have hb := X.2.1
  have hown := X.2.2.2.1
  have hts := X.2.2.2.2.1
  have hl : lv_has ls 3 [(0, .ref a)] := hl
  have hf := (fX9_worstBatch.eq_1  v).symm.trans hf
  refine lv_aload_n hx hb dX9_worstBatch_0 rfl (lv_at hl 0 rfl) ?_
  refine lv_iconst (v := 0) hx hb dX9_worstBatch_1 (by decide) ?_
  refine bk_putI X hB kl_X9 0 lc_Mo_0 4 (by decide) rfl rfl rfl wm_1867 dX9_worstBatch_2 rfl (fun H locs hB => ?_)
  obtain ⟨v1, ev1⟩ : ∃ y : bM, y = upd v 3 0 := ⟨_, rfl⟩
  have hf := nm_use hf ev1
  rw [← ev1] at hB
  refine lv_iconst (v := (-1)) hx hb dX9_worstBatch_5 (by decide) ?_
  refine lv_istore_n (lv' := [(1, .int (-1)), (0, .ref a)]) hx hb dX9_worstBatch_6 rfl hl (by decide) rfl (fun ls hl => ?_)
  refine lv_iconst (v := 0) hx hb dX9_worstBatch_7 (by decide) ?_
  refine lv_istore_n (lv' := [(2, .int 0), (1, .int (-1)), (0, .ref a)]) hx hb dX9_worstBatch_8 rfl hl (by decide) rfl (fun ls hl => ?_)
  have hL9 : ∀ (n9 : Nat) (y2 y3 : Int32) (v4 : bM) (H : Heap) (locs : List Loc) (ls : Array Slot), lp (fX9_worstBatch_L9) (fun _ _ _ => none) n9 y2 y3 v4 = some (r0, w0) → bB D E LMo a v4 s H locs → lv_has ls 3 [(0, .ref a), (1, .int y2), (2, .int y3)] → W p l e (rmOf 4 0 0) s m args below meth c H locs 0 0 (bQ below D E LMo a w0 (some (.int r0)) args s 0 0) (F0 m 9 ls []) := by
    intro n9
    induction n9 with
    | zero => intro y2 y3 v4 H locs ls hf; cases (show (none : Option (Int32 × bM)) = some (r0, w0) from hf)
    | succ n9 ih9 =>
      intro y2 y3 v4 H locs ls hf hB hl
      have hf := (fX9_worstBatch_L9.eq_1  (lp (fX9_worstBatch_L9) (fun _ _ _ => none) n9) y2 y3 v4).symm.trans (show fX9_worstBatch_L9 (lp (fX9_worstBatch_L9) (fun _ _ _ => none) n9) y2 y3 v4 = some (r0, w0) from hf)
      refine lv_iload_n hx hb dX9_worstBatch_9 rfl (lv_at hl 2 rfl) ?_
      refine lv_aload_n hx hb dX9_worstBatch_10 rfl (lv_at hl 0 rfl) ?_
      refine bk_getR X hB kl_X9 0 lc_Mo_0 5 (by decide) rfl wm_1868 dX9_worstBatch_11 ?_
      refine lv_bipush (v := 7) hx hb dX9_worstBatch_14 (by decide) ?_
      refine bk_ald X hB 2 lc_Mo_2 (vp_c 7 496 rfl) dX9_worstBatch_16 ?_
      refine lv_icmp_ge (tgt := 50) hx hb dX9_worstBatch_17 (by decide) (fun c5 => ?_) (fun c5 => ?_)
      · have hf := (if_pos c5).symm.trans hf
        refine lv_iload_n hx hb dX9_worstBatch_50 rfl (lv_at hl 1 rfl) ?_
        exact bk_iW X hr rfl hf hB (Nat.le_of_ble_eq_true rfl) (Nat.le_of_ble_eq_true rfl) dX9_worstBatch_51
      · have hf := (if_neg c5).symm.trans hf
        refine lv_iload_n hx hb dX9_worstBatch_20 rfl (lv_at hl 1 rfl) ?_
        refine lv_iconst (v := (-1)) hx hb dX9_worstBatch_21 (by decide) ?_
        have hJ43 : ∀ (y6 : Int32) (v7 : bM) (H : Heap) (locs : List Loc) (ls : Array Slot), fX9_worstBatch_J43 y3 (lp (fX9_worstBatch_L9) (fun _ _ _ => none) n9) y6 v7 = some (r0, w0) → bB D E LMo a v7 s H locs → lv_has ls 3 [(0, .ref a), (2, .int y3)] → W p l e (rmOf 4 0 0) s m args below meth c H locs 0 0 (bQ below D E LMo a w0 (some (.int r0)) args s 0 0) (F0 m 43 ls [.int y6]) := by
          intro y6 v7 H locs ls hf hB hl
          have hf := (fX9_worstBatch_J43.eq_1 y3 (lp (fX9_worstBatch_L9) (fun _ _ _ => none) n9) y6 v7).symm.trans hf
          refine lv_istore_n (lv' := [(1, .int y6), (0, .ref a), (2, .int y3)]) hx hb dX9_worstBatch_43 rfl hl (by decide) rfl (fun ls hl => ?_)
          obtain ⟨x8, ex8⟩ : ∃ y : Int32, y = y3 + 1 := ⟨_, rfl⟩
          have hf := nm_use hf ex8
          refine lv_iinc (v := x8) (lv' := [(2, .int x8), (1, .int y6), (0, .ref a)]) hx hb dX9_worstBatch_44 hl (k := 2) rfl (by rw [ex8]; rfl) (by decide) rfl (fun ls hl => ?_)
          refine lv_goto (tgt := 9) hx hb dX9_worstBatch_47 (by decide) ?_
          exact ih9 y6 x8 v7 H locs ls hf hB (lv_sub hl [2, 1, 0] rfl)
        have hJ38 : ∀ (v9 : bM) (H : Heap) (locs : List Loc) (ls : Array Slot), fX9_worstBatch_J38 y3 (lp (fX9_worstBatch_L9) (fun _ _ _ => none) n9) v9 = some (r0, w0) → bB D E LMo a v9 s H locs → lv_has ls 3 [(0, .ref a), (2, .int y3)] → W p l e (rmOf 4 0 0) s m args below meth c H locs 0 0 (bQ below D E LMo a w0 (some (.int r0)) args s 0 0) (F0 m 38 ls []) := by
          intro v9 H locs ls hf hB hl
          have hf := (fX9_worstBatch_J38.eq_1 y3 (lp (fX9_worstBatch_L9) (fun _ _ _ => none) n9) v9).symm.trans hf
          refine lv_iload_n hx hb dX9_worstBatch_38 rfl (lv_at hl 1 rfl) ?_
          refine lv_goto (tgt := 43) hx hb dX9_worstBatch_39 (by decide) ?_
          exact hJ43 y3 v9 H locs ls hf hB (lv_sub hl [0, 1] rfl)
        refine lv_icmp_eq (tgt := 38) hx hb dX9_worstBatch_22 (by decide) (fun c10 => ?_) (fun c10 => ?_)
        · have hf := (if_pos c10).symm.trans hf
          exact hJ38 v4 H locs ls hf hB (lv_sub hl [0, 2] rfl)
        · have hf := (if_neg c10).symm.trans hf
          refine lv_aload_n hx hb dX9_worstBatch_25 rfl (lv_at hl 0 rfl) ?_
          refine lv_iload_n hx hb dX9_worstBatch_26 rfl (lv_at hl 2 rfl) ?_
          obtain ⟨r12, hc11, hf⟩ := bnr_some hf
          refine bk_all hB (fun h1 h2 h3 => bk_runV X (Av := [.int y3]) (rest := []) (mX9_loss hc11) yv_X9_loss wm_2085 ⟨Nat.le_of_ble_eq_true rfl, Nat.le_of_ble_eq_true rfl⟩ rfl rfl hl.1 kl_X9.1 (hB.1.obj lc_Mo_0) h1 h2 h3 (Nat.le_of_ble_eq_true rfl) ⟨Nat.le_of_ble_eq_true rfl, Nat.le_of_ble_eq_true rfl⟩ dX9_worstBatch_27) (fun H locs hB => ?_)
          refine W.eq (g2 := F0 m 30 ls [.int r12]) rfl ?_
          refine lv_aload_n hx hb dX9_worstBatch_30 rfl (lv_at hl 0 rfl) ?_
          refine lv_iload_n hx hb dX9_worstBatch_31 rfl (lv_at hl 1 rfl) ?_
          obtain ⟨r14, hc13, hf⟩ := bnr_some hf
          refine bk_all hB (fun h1 h2 h3 => bk_runV X (Av := [.int y2]) (rest := [.int r12]) (mX9_loss hc13) yv_X9_loss wm_2085 ⟨Nat.le_of_ble_eq_true rfl, Nat.le_of_ble_eq_true rfl⟩ rfl rfl hl.1 kl_X9.1 (hB.1.obj lc_Mo_0) h1 h2 h3 (Nat.le_of_ble_eq_true rfl) ⟨Nat.le_of_ble_eq_true rfl, Nat.le_of_ble_eq_true rfl⟩ dX9_worstBatch_32) (fun H locs hB => ?_)
          refine W.eq (g2 := F0 m 35 ls [.int r14, .int r12]) rfl ?_
          refine lv_icmp_le (tgt := 42) hx hb dX9_worstBatch_35 (by decide) (fun c15 => ?_) (fun c15 => ?_)
          · have hf := (if_pos c15).symm.trans hf
            refine lv_iload_n hx hb dX9_worstBatch_42 rfl (lv_at hl 1 rfl) ?_
            exact hJ43 y2 v4 H locs ls hf hB (lv_sub hl [0, 2] rfl)
          · have hf := (if_neg c15).symm.trans hf
            exact hJ38 v4 H locs ls hf hB (lv_sub hl [0, 2] rfl)
  exact hL9 lpN (-1) 0 v1 H locs ls hf hB (lv_sub hl [2, 1, 0] rfl)
theorem yv_X9_worstBatch : bYv yX9_worstBatch RX9 cX9_worstBatch 3 (some .int) 0 := ⟨⟨rfl, by decide, by decide, rfl⟩, wm_2126, wm_2127, wm_17, wm_2128⟩

theorem dX9_worstKind_0 : decode cX9_worstKind 0 = .ok (.aload_n 0, 1) := by decide +kernel
theorem dX9_worstKind_1 : decode cX9_worstKind 1 = .ok (.iconst 0, 1) := by decide +kernel
theorem dX9_worstKind_2 : decode cX9_worstKind 2 = .ok (.putfield 60, 3) := by decide +kernel
theorem dX9_worstKind_5 : decode cX9_worstKind 5 = .ok (.iconst 0, 1) := by decide +kernel
theorem dX9_worstKind_6 : decode cX9_worstKind 6 = .ok (.istore_n 1, 1) := by decide +kernel
theorem dX9_worstKind_7 : decode cX9_worstKind 7 = .ok (.iconst 1, 1) := by decide +kernel
theorem dX9_worstKind_8 : decode cX9_worstKind 8 = .ok (.istore_n 2, 1) := by decide +kernel
theorem dX9_worstKind_9 : decode cX9_worstKind 9 = .ok (.iload_n 2, 1) := by decide +kernel
theorem dX9_worstKind_10 : decode cX9_worstKind 10 = .ok (.iconst 5, 1) := by decide +kernel
theorem dX9_worstKind_11 : decode cX9_worstKind 11 = .ok (.if_icmp .gt 28, 3) := by decide +kernel
theorem dX9_worstKind_14 : decode cX9_worstKind 14 = .ok (.aload_n 0, 1) := by decide +kernel
theorem dX9_worstKind_15 : decode cX9_worstKind 15 = .ok (.iload_n 2, 1) := by decide +kernel
theorem dX9_worstKind_16 : decode cX9_worstKind 16 = .ok (.invokevirtual 319, 3) := by decide +kernel
theorem dX9_worstKind_19 : decode cX9_worstKind 19 = .ok (.aload_n 0, 1) := by decide +kernel
theorem dX9_worstKind_20 : decode cX9_worstKind 20 = .ok (.iload_n 1, 1) := by decide +kernel
theorem dX9_worstKind_21 : decode cX9_worstKind 21 = .ok (.invokevirtual 319, 3) := by decide +kernel
theorem dX9_worstKind_24 : decode cX9_worstKind 24 = .ok (.if_icmp .le 7, 3) := by decide +kernel
theorem dX9_worstKind_27 : decode cX9_worstKind 27 = .ok (.iload_n 2, 1) := by decide +kernel
theorem dX9_worstKind_28 : decode cX9_worstKind 28 = .ok (.goto 4, 3) := by decide +kernel
theorem dX9_worstKind_31 : decode cX9_worstKind 31 = .ok (.iload_n 1, 1) := by decide +kernel
theorem dX9_worstKind_32 : decode cX9_worstKind 32 = .ok (.istore_n 1, 1) := by decide +kernel
theorem dX9_worstKind_33 : decode cX9_worstKind 33 = .ok (.iinc 2 1, 3) := by decide +kernel
theorem dX9_worstKind_36 : decode cX9_worstKind 36 = .ok (.goto (-27), 3) := by decide +kernel
theorem dX9_worstKind_39 : decode cX9_worstKind 39 = .ok (.iload_n 1, 1) := by decide +kernel
theorem dX9_worstKind_40 : decode cX9_worstKind 40 = .ok (.ireturn, 1) := by decide +kernel
def fX9_worstKind_J32 (y3 : Int32) (k9 : Int32 → Int32 → bM → Option (Int32 × bM)) (y10 : Int32) (v11 : bM) : Option (Int32 × bM) :=
  nm (y3 + 1) fun x12 => k9 y10 x12 v11
def fX9_worstKind_L9  (k9 : Int32 → Int32 → bM → Option (Int32 × bM)) (y2 : Int32) (y3 : Int32) (v4 : bM) : Option (Int32 × bM) :=
  (if 5 < y3 then (some (y2, v4)) else (bnr (fX9_sumOf y3 v4) fun r7 => bnr (fX9_sumOf y2 v4) fun r9 => (if r7 ≤ r9 then (fX9_worstKind_J32 y3 k9 y2 v4) else (fX9_worstKind_J32 y3 k9 y3 v4))))
def fX9_worstKind  (v : bM) : Option (Int32 × bM) :=
  nm (upd v 3 0) fun v1 => lp (fX9_worstKind_L9) (fun _ _ _ => none) lpN 0 1 v1
set_option maxRecDepth 100000 in
set_option maxHeartbeats 4000000 in
theorem mX9_worstKind {l : Launch}  {v : bM} {r0 : Int32} {w0 : bM} (hf : fX9_worstKind  v = some (r0, w0)) : bMet l yX9_worstKind cX9_worstKind 3 (some .int) 2 0 0 LMo (fun E a => [.ref a]) v w0 (fun _ => some (.int r0)) := by
  refine bk_start (by decide +kernel) wfMo (fun _ _ => Nat.le_of_ble_eq_true rfl) ?_
  intro p e s m args below meth c D E a ls H locs X hr hl hB
  have hx := X.1
  have hb := X.2.1
  have hown := X.2.2.2.1
  have hts := X.2.2.2.2.1
  have hl : lv_has ls 3 [(0, .ref a)] := hl
  have hf := (fX9_worstKind.eq_1  v).symm.trans hf
  refine lv_aload_n hx hb dX9_worstKind_0 rfl (lv_at hl 0 rfl) ?_
  refine lv_iconst (v := 0) hx hb dX9_worstKind_1 (by decide) ?_
  refine bk_putI X hB kl_X9 0 lc_Mo_0 4 (by decide) rfl rfl rfl wm_1867 dX9_worstKind_2 rfl (fun H locs hB => ?_)
  obtain ⟨v1, ev1⟩ : ∃ y : bM, y = upd v 3 0 := ⟨_, rfl⟩
  have hf := nm_use hf ev1
  rw [← ev1] at hB
  refine lv_iconst (v := 0) hx hb dX9_worstKind_5 (by decide) ?_
  refine lv_istore_n (lv' := [(1, .int 0), (0, .ref a)]) hx hb dX9_worstKind_6 rfl hl (by decide) rfl (fun ls hl => ?_)
  refine lv_iconst (v := 1) hx hb dX9_worstKind_7 (by decide) ?_
  refine lv_istore_n (lv' := [(2, .int 1), (1, .int 0), (0, .ref a)]) hx hb dX9_worstKind_8 rfl hl (by decide) rfl (fun ls hl => ?_)
  have hL9 : ∀ (n9 : Nat) (y2 y3 : Int32) (v4 : bM) (H : Heap) (locs : List Loc) (ls : Array Slot), lp (fX9_worstKind_L9) (fun _ _ _ => none) n9 y2 y3 v4 = some (r0, w0) → bB D E LMo a v4 s H locs → lv_has ls 3 [(0, .ref a), (1, .int y2), (2, .int y3)] → W p l e (rmOf 2 0 0) s m args below meth c H locs 0 0 (bQ below D E LMo a w0 (some (.int r0)) args s 0 0) (F0 m 9 ls []) := by
    intro n9
    induction n9 with
    | zero => intro y2 y3 v4 H locs ls hf; cases (show (none : Option (Int32 × bM)) = some (r0, w0) from hf)
    | succ n9 ih9 =>
      intro y2 y3 v4 H locs ls hf hB hl
      have hf := (fX9_worstKind_L9.eq_1  (lp (fX9_worstKind_L9) (fun _ _ _ => none) n9) y2 y3 v4).symm.trans (show fX9_worstKind_L9 (lp (fX9_worstKind_L9) (fun _ _ _ => none) n9) y2 y3 v4 = some (r0, w0) from hf)
      refine lv_iload_n hx hb dX9_worstKind_9 rfl (lv_at hl 2 rfl) ?_
      refine lv_iconst (v := 5) hx hb dX9_worstKind_10 (by decide) ?_
      refine lv_icmp_gt (tgt := 39) hx hb dX9_worstKind_11 (by decide) (fun c5 => ?_) (fun c5 => ?_)
      · have hf := (if_pos c5).symm.trans hf
        refine lv_iload_n hx hb dX9_worstKind_39 rfl (lv_at hl 1 rfl) ?_
        exact bk_iW X hr rfl hf hB (Nat.le_of_ble_eq_true rfl) (Nat.le_of_ble_eq_true rfl) dX9_worstKind_40
      · have hf := (if_neg c5).symm.trans hf
        refine lv_aload_n hx hb dX9_worstKind_14 rfl (lv_at hl 0 rfl) ?_
        refine lv_iload_n hx hb dX9_worstKind_15 rfl (lv_at hl 2 rfl) ?_
        obtain ⟨r7, hc6, hf⟩ := bnr_some hf
        refine bk_all hB (fun h1 h2 h3 => bk_runV X (Av := [.int y3]) (rest := []) (mX9_sumOf hc6) yv_X9_sumOf wm_2105 ⟨Nat.le_of_ble_eq_true rfl, Nat.le_of_ble_eq_true rfl⟩ rfl rfl hl.1 kl_X9.1 (hB.1.obj lc_Mo_0) h1 h2 h3 (Nat.le_of_ble_eq_true rfl) ⟨Nat.le_of_ble_eq_true rfl, Nat.le_of_ble_eq_true rfl⟩ dX9_worstKind_16) (fun H locs hB => ?_)
        refine W.eq (g2 := F0 m 19 ls [.int r7]) rfl ?_
        refine lv_aload_n hx hb dX9_worstKind_19 rfl (lv_at hl 0 rfl) ?_
        refine lv_iload_n hx hb dX9_worstKind_20 rfl (lv_at hl 1 rfl) ?_
        obtain ⟨r9, hc8, hf⟩ := bnr_some hf
        refine bk_all hB (fun h1 h2 h3 => bk_runV X (Av := [.int y2]) (rest := [.int r7]) (mX9_sumOf hc8) yv_X9_sumOf wm_2105 ⟨Nat.le_of_ble_eq_true rfl, Nat.le_of_ble_eq_true rfl⟩ rfl rfl hl.1 kl_X9.1 (hB.1.obj lc_Mo_0) h1 h2 h3 (Nat.le_of_ble_eq_true rfl) ⟨Nat.le_of_ble_eq_true rfl, Nat.le_of_ble_eq_true rfl⟩ dX9_worstKind_21) (fun H locs hB => ?_)
        refine W.eq (g2 := F0 m 24 ls [.int r9, .int r7]) rfl ?_
        have hJ32 : ∀ (y10 : Int32) (v11 : bM) (H : Heap) (locs : List Loc) (ls : Array Slot), fX9_worstKind_J32 y3 (lp (fX9_worstKind_L9) (fun _ _ _ => none) n9) y10 v11 = some (r0, w0) → bB D E LMo a v11 s H locs → lv_has ls 3 [(0, .ref a), (2, .int y3)] → W p l e (rmOf 2 0 0) s m args below meth c H locs 0 0 (bQ below D E LMo a w0 (some (.int r0)) args s 0 0) (F0 m 32 ls [.int y10]) := by
          intro y10 v11 H locs ls hf hB hl
          have hf := (fX9_worstKind_J32.eq_1 y3 (lp (fX9_worstKind_L9) (fun _ _ _ => none) n9) y10 v11).symm.trans hf
          refine lv_istore_n (lv' := [(1, .int y10), (0, .ref a), (2, .int y3)]) hx hb dX9_worstKind_32 rfl hl (by decide) rfl (fun ls hl => ?_)
          obtain ⟨x12, ex12⟩ : ∃ y : Int32, y = y3 + 1 := ⟨_, rfl⟩
          have hf := nm_use hf ex12
          refine lv_iinc (v := x12) (lv' := [(2, .int x12), (1, .int y10), (0, .ref a)]) hx hb dX9_worstKind_33 hl (k := 2) rfl (by rw [ex12]; rfl) (by decide) rfl (fun ls hl => ?_)
          refine lv_goto (tgt := 9) hx hb dX9_worstKind_36 (by decide) ?_
          exact ih9 y10 x12 v11 H locs ls hf hB (lv_sub hl [2, 1, 0] rfl)
        refine lv_icmp_le (tgt := 31) hx hb dX9_worstKind_24 (by decide) (fun c13 => ?_) (fun c13 => ?_)
        · have hf := (if_pos c13).symm.trans hf
          refine lv_iload_n hx hb dX9_worstKind_31 rfl (lv_at hl 1 rfl) ?_
          exact hJ32 y2 v4 H locs ls hf hB (lv_sub hl [0, 2] rfl)
        · have hf := (if_neg c13).symm.trans hf
          refine lv_iload_n hx hb dX9_worstKind_27 rfl (lv_at hl 2 rfl) ?_
          refine lv_goto (tgt := 32) hx hb dX9_worstKind_28 (by decide) ?_
          exact hJ32 y3 v4 H locs ls hf hB (lv_sub hl [0, 2] rfl)
  exact hL9 lpN 0 1 v1 H locs ls hf hB (lv_sub hl [2, 1, 0] rfl)
theorem yv_X9_worstKind : bYv yX9_worstKind RX9 cX9_worstKind 3 (some .int) 0 := ⟨⟨rfl, by decide, by decide, rfl⟩, wm_2130, wm_2131, wm_17, wm_2132⟩

theorem dX9_isExtra_0 : decode cX9_isExtra 0 = .ok (.iload_n 0, 1) := by decide +kernel
theorem dX9_isExtra_1 : decode cX9_isExtra 1 = .ok (.bipush (-9), 2) := by decide +kernel
theorem dX9_isExtra_3 : decode cX9_isExtra 3 = .ok (.bipush 9, 2) := by decide +kernel
theorem dX9_isExtra_5 : decode cX9_isExtra 5 = .ok (.invokestatic 135, 3) := by decide +kernel
theorem dX9_isExtra_8 : decode cX9_isExtra 8 = .ok (.ireturn, 1) := by decide +kernel
def fX9_isExtra (p0 : Int32) : Option Int32 :=
  bnr (fX9_inRange p0 (-9) 9) fun r2 => ck r2 2 <| some (r2)
set_option maxRecDepth 100000 in
set_option maxHeartbeats 4000000 in
theorem mX9_isExtra {l : Launch} {p0 : Int32} {v : bM} {r0 : Int32} (hf : fX9_isExtra p0 = some r0) : bMet l yX9_isExtra cX9_isExtra 1 (some .boolean) 1 0 0 [] (fun E a => [.int p0]) v v (fun _ => some (.int r0)) := by
  refine bk_start (by decide +kernel) bWf_nil (fun _ _ => Nat.le_of_ble_eq_true rfl) ?_
  intro p e s m args below meth c D E a ls H locs X hr hl hB
  have hx := X.1
  have hb := X.2.1
  have hown := X.2.2.2.1
  have hts := X.2.2.2.2.1
  have hl : lv_has ls 1 [(0, .int p0)] := hl
  have hf := (fX9_isExtra.eq_1 p0).symm.trans hf
  refine lv_iload_n hx hb dX9_isExtra_0 rfl (lv_at hl 0 rfl) ?_
  refine lv_bipush (v := (-9)) hx hb dX9_isExtra_1 (by decide) ?_
  refine lv_bipush (v := 9) hx hb dX9_isExtra_3 (by decide) ?_
  obtain ⟨r2, hc1, hf⟩ := bnr_some hf
  refine bk_non (v0 := v) (w0 := v) hB (fun h1 h2 h3 => bk_runS X (Av := [.int p0, .int (-9), .int 9]) (rest := []) (mX9_inRange hc1) ys_X9_inRange wm_1653 ⟨Nat.le_of_ble_eq_true rfl, Nat.le_of_ble_eq_true rfl⟩ rfl rfl hl.1 h1 h2 h3 (Nat.le_of_ble_eq_true rfl) ⟨Nat.le_of_ble_eq_true rfl, Nat.le_of_ble_eq_true rfl⟩ dX9_isExtra_5) (fun H locs hB => ?_)
  refine W.eq (g2 := F0 m 8 ls [.int r2]) rfl ?_
  obtain ⟨h3, hf⟩ := ck_some hf
  exact bk_zR X hr rfl (nar_z h3) hf hB (Nat.le_of_ble_eq_true rfl) (Nat.le_of_ble_eq_true rfl) dX9_isExtra_8
theorem ys_X9_isExtra : bYs yX9_isExtra RX9 cX9_isExtra 1 (some .boolean) 1 := ⟨⟨rfl, by decide, by decide, rfl⟩, wm_2138, wm_17, wm_2139⟩

theorem dX9_bakeObstacle_0 : decode cX9_bakeObstacle 0 = .ok (.aload_n 0, 1) := by decide +kernel
theorem dX9_bakeObstacle_1 : decode cX9_bakeObstacle 1 = .ok (.iload_n 1, 1) := by decide +kernel
theorem dX9_bakeObstacle_2 : decode cX9_bakeObstacle 2 = .ok (.invokevirtual 307, 3) := by decide +kernel
theorem dX9_bakeObstacle_5 : decode cX9_bakeObstacle 5 = .ok (.ifCond .eq 41, 3) := by decide +kernel
theorem dX9_bakeObstacle_8 : decode cX9_bakeObstacle 8 = .ok (.aload_n 0, 1) := by decide +kernel
theorem dX9_bakeObstacle_9 : decode cX9_bakeObstacle 9 = .ok (.iload_n 2, 1) := by decide +kernel
theorem dX9_bakeObstacle_10 : decode cX9_bakeObstacle 10 = .ok (.iconst 1, 1) := by decide +kernel
theorem dX9_bakeObstacle_11 : decode cX9_bakeObstacle 11 = .ok (.bipush 20, 2) := by decide +kernel
theorem dX9_bakeObstacle_13 : decode cX9_bakeObstacle 13 = .ok (.invokestatic 135, 3) := by decide +kernel
theorem dX9_bakeObstacle_16 : decode cX9_bakeObstacle 16 = .ok (.ifCond .eq 22, 3) := by decide +kernel
theorem dX9_bakeObstacle_19 : decode cX9_bakeObstacle 19 = .ok (.iload_n 3, 1) := by decide +kernel
theorem dX9_bakeObstacle_20 : decode cX9_bakeObstacle 20 = .ok (.invokestatic 325, 3) := by decide +kernel
theorem dX9_bakeObstacle_23 : decode cX9_bakeObstacle 23 = .ok (.ifCond .eq 15, 3) := by decide +kernel
theorem dX9_bakeObstacle_26 : decode cX9_bakeObstacle 26 = .ok (.iload 4, 2) := by decide +kernel
theorem dX9_bakeObstacle_28 : decode cX9_bakeObstacle 28 = .ok (.invokestatic 325, 3) := by decide +kernel
theorem dX9_bakeObstacle_31 : decode cX9_bakeObstacle 31 = .ok (.ifCond .eq 7, 3) := by decide +kernel
theorem dX9_bakeObstacle_34 : decode cX9_bakeObstacle 34 = .ok (.iconst 1, 1) := by decide +kernel
theorem dX9_bakeObstacle_35 : decode cX9_bakeObstacle 35 = .ok (.goto 4, 3) := by decide +kernel
theorem dX9_bakeObstacle_38 : decode cX9_bakeObstacle 38 = .ok (.iconst 0, 1) := by decide +kernel
theorem dX9_bakeObstacle_39 : decode cX9_bakeObstacle 39 = .ok (.iconst 2, 1) := by decide +kernel
theorem dX9_bakeObstacle_40 : decode cX9_bakeObstacle 40 = .ok (.invokevirtual 297, 3) := by decide +kernel
theorem dX9_bakeObstacle_43 : decode cX9_bakeObstacle 43 = .ok (.ifCond .eq 5, 3) := by decide +kernel
theorem dX9_bakeObstacle_46 : decode cX9_bakeObstacle 46 = .ok (.iconst 0, 1) := by decide +kernel
theorem dX9_bakeObstacle_47 : decode cX9_bakeObstacle 47 = .ok (.ireturn, 1) := by decide +kernel
theorem dX9_bakeObstacle_48 : decode cX9_bakeObstacle 48 = .ok (.aload_n 0, 1) := by decide +kernel
theorem dX9_bakeObstacle_49 : decode cX9_bakeObstacle 49 = .ok (.iload_n 1, 1) := by decide +kernel
theorem dX9_bakeObstacle_50 : decode cX9_bakeObstacle 50 = .ok (.iload_n 2, 1) := by decide +kernel
theorem dX9_bakeObstacle_51 : decode cX9_bakeObstacle 51 = .ok (.iload_n 3, 1) := by decide +kernel
theorem dX9_bakeObstacle_52 : decode cX9_bakeObstacle 52 = .ok (.iload 4, 2) := by decide +kernel
theorem dX9_bakeObstacle_54 : decode cX9_bakeObstacle 54 = .ok (.invokevirtual 242, 3) := by decide +kernel
theorem dX9_bakeObstacle_57 : decode cX9_bakeObstacle 57 = .ok (.ireturn, 1) := by decide +kernel
def fX9_bakeObstacle_J39 (p1 : Int32) (p2 : Int32) (p3 : Int32) (p4 : Int32) (y7 : Int32) (v8 : bM) : Option (Int32 × bM) :=
  bnd (fX9_fails y7 2 v8) fun r11 w10 => (if r11 = 0 then (bnr (fX9_obstacle p1 p2 p3 p4 w10) fun r14 => some (r14, w10)) else (some (0, w10)))
def fX9_bakeObstacle_J38 (p1 : Int32) (p2 : Int32) (p3 : Int32) (p4 : Int32)  (v15 : bM) : Option (Int32 × bM) :=
  fX9_bakeObstacle_J39 p1 p2 p3 p4 0 v15
def fX9_bakeObstacle (p1 : Int32) (p2 : Int32) (p3 : Int32) (p4 : Int32) (v : bM) : Option (Int32 × bM) :=
  bnd (fX9_isBread p1 v) fun r3 w2 => (if r3 = 0 then (some (0, w2)) else (bnr (fX9_inRange p2 1 20) fun r6 => (if r6 = 0 then (fX9_bakeObstacle_J38 p1 p2 p3 p4 w2) else (bnr (fX9_isExtra p3) fun r18 => (if r18 = 0 then (fX9_bakeObstacle_J38 p1 p2 p3 p4 w2) else (bnr (fX9_isExtra p4) fun r21 => (if r21 = 0 then (fX9_bakeObstacle_J38 p1 p2 p3 p4 w2) else (fX9_bakeObstacle_J39 p1 p2 p3 p4 1 w2))))))))
set_option maxRecDepth 100000 in
set_option maxHeartbeats 4000000 in
theorem mX9_bakeObstacle {l : Launch} {p1 : Int32} {p2 : Int32} {p3 : Int32} {p4 : Int32} {v : bM} {r0 : Int32} {w0 : bM} (hf : fX9_bakeObstacle p1 p2 p3 p4 v = some (r0, w0)) : bMet l yX9_bakeObstacle cX9_bakeObstacle 5 (some .int) 5 0 0 LMo (fun E a => [.ref a, .int p1, .int p2, .int p3, .int p4]) v w0 (fun _ => some (.int r0)) := by
  refine bk_start (by decide +kernel) wfMo (fun _ _ => Nat.le_of_ble_eq_true rfl) ?_
  intro p e s m args below meth c D E a ls H locs X hr hl hB
  have hx := X.1
  have hb := X.2.1
  have hown := X.2.2.2.1
  have hts := X.2.2.2.2.1
  have hl : lv_has ls 5 [(0, .ref a), (1, .int p1), (2, .int p2), (3, .int p3), (4, .int p4)] := hl
  have hf := (fX9_bakeObstacle.eq_1 p1 p2 p3 p4 v).symm.trans hf
  refine lv_aload_n hx hb dX9_bakeObstacle_0 rfl (lv_at hl 0 rfl) ?_
  refine lv_iload_n hx hb dX9_bakeObstacle_1 rfl (lv_at hl 1 rfl) ?_
  obtain ⟨r3, w2, hc1, hf⟩ := bnd_some hf
  refine bk_all hB (fun h1 h2 h3 => bk_runV X (Av := [.int p1]) (rest := []) (mX9_isBread hc1) yv_X9_isBread wm_2009 ⟨Nat.le_of_ble_eq_true rfl, Nat.le_of_ble_eq_true rfl⟩ rfl rfl hl.1 kl_X9.1 (hB.1.obj lc_Mo_0) h1 h2 h3 (Nat.le_of_ble_eq_true rfl) ⟨Nat.le_of_ble_eq_true rfl, Nat.le_of_ble_eq_true rfl⟩ dX9_bakeObstacle_2) (fun H locs hB => ?_)
  refine W.eq (g2 := F0 m 5 ls [.int r3]) rfl ?_
  refine lv_if_eq (tgt := 46) hx hb dX9_bakeObstacle_5 (by decide) (fun c4 => ?_) (fun c4 => ?_)
  · have hf := (if_pos c4).symm.trans hf
    refine lv_iconst (v := 0) hx hb dX9_bakeObstacle_46 (by decide) ?_
    exact bk_iW X hr rfl hf hB (Nat.le_of_ble_eq_true rfl) (Nat.le_of_ble_eq_true rfl) dX9_bakeObstacle_47
  · have hf := (if_neg c4).symm.trans hf
    refine lv_aload_n hx hb dX9_bakeObstacle_8 rfl (lv_at hl 0 rfl) ?_
    refine lv_iload_n hx hb dX9_bakeObstacle_9 rfl (lv_at hl 2 rfl) ?_
    refine lv_iconst (v := 1) hx hb dX9_bakeObstacle_10 (by decide) ?_
    refine lv_bipush (v := 20) hx hb dX9_bakeObstacle_11 (by decide) ?_
    obtain ⟨r6, hc5, hf⟩ := bnr_some hf
    refine bk_non (v0 := w2) (w0 := w2) hB (fun h1 h2 h3 => bk_runS X (Av := [.int p2, .int 1, .int 20]) (rest := [.ref a]) (mX9_inRange hc5) ys_X9_inRange wm_1653 ⟨Nat.le_of_ble_eq_true rfl, Nat.le_of_ble_eq_true rfl⟩ rfl rfl hl.1 h1 h2 h3 (Nat.le_of_ble_eq_true rfl) ⟨Nat.le_of_ble_eq_true rfl, Nat.le_of_ble_eq_true rfl⟩ dX9_bakeObstacle_13) (fun H locs hB => ?_)
    refine W.eq (g2 := F0 m 16 ls [.int r6, .ref a]) rfl ?_
    have hJ39 : ∀ (y7 : Int32) (v8 : bM) (H : Heap) (locs : List Loc) (ls : Array Slot), fX9_bakeObstacle_J39 p1 p2 p3 p4 y7 v8 = some (r0, w0) → bB D E LMo a v8 s H locs → lv_has ls 5 [(0, .ref a), (1, .int p1), (2, .int p2), (3, .int p3), (4, .int p4)] → W p l e (rmOf 5 0 0) s m args below meth c H locs 0 0 (bQ below D E LMo a w0 (some (.int r0)) args s 0 0) (F0 m 39 ls [.int y7, .ref a]) := by
      intro y7 v8 H locs ls hf hB hl
      have hf := (fX9_bakeObstacle_J39.eq_1 p1 p2 p3 p4 y7 v8).symm.trans hf
      refine lv_iconst (v := 2) hx hb dX9_bakeObstacle_39 (by decide) ?_
      obtain ⟨r11, w10, hc9, hf⟩ := bnd_some hf
      refine bk_all hB (fun h1 h2 h3 => bk_runV X (Av := [.int y7, .int 2]) (rest := []) (mX9_fails hc9) yv_X9_fails wm_1977 ⟨Nat.le_of_ble_eq_true rfl, Nat.le_of_ble_eq_true rfl⟩ rfl rfl hl.1 kl_X9.1 (hB.1.obj lc_Mo_0) h1 h2 h3 (Nat.le_of_ble_eq_true rfl) ⟨Nat.le_of_ble_eq_true rfl, Nat.le_of_ble_eq_true rfl⟩ dX9_bakeObstacle_40) (fun H locs hB => ?_)
      refine W.eq (g2 := F0 m 43 ls [.int r11]) rfl ?_
      refine lv_if_eq (tgt := 48) hx hb dX9_bakeObstacle_43 (by decide) (fun c12 => ?_) (fun c12 => ?_)
      · have hf := (if_pos c12).symm.trans hf
        refine lv_aload_n hx hb dX9_bakeObstacle_48 rfl (lv_at hl 0 rfl) ?_
        refine lv_iload_n hx hb dX9_bakeObstacle_49 rfl (lv_at hl 1 rfl) ?_
        refine lv_iload_n hx hb dX9_bakeObstacle_50 rfl (lv_at hl 2 rfl) ?_
        refine lv_iload_n hx hb dX9_bakeObstacle_51 rfl (lv_at hl 3 rfl) ?_
        refine lv_iload hx hb dX9_bakeObstacle_52 (lv_at hl 4 rfl) ?_
        obtain ⟨r14, hc13, hf⟩ := bnr_some hf
        refine bk_all hB (fun h1 h2 h3 => bk_runV X (Av := [.int p1, .int p2, .int p3, .int p4]) (rest := []) (mX9_obstacle hc13) yv_X9_obstacle wm_1762 ⟨Nat.le_of_ble_eq_true rfl, Nat.le_of_ble_eq_true rfl⟩ rfl rfl hl.1 kl_X9.1 (hB.1.obj lc_Mo_0) h1 h2 h3 (Nat.le_of_ble_eq_true rfl) ⟨Nat.le_of_ble_eq_true rfl, Nat.le_of_ble_eq_true rfl⟩ dX9_bakeObstacle_54) (fun H locs hB => ?_)
        refine W.eq (g2 := F0 m 57 ls [.int r14]) rfl ?_
        exact bk_iW X hr rfl hf hB (Nat.le_of_ble_eq_true rfl) (Nat.le_of_ble_eq_true rfl) dX9_bakeObstacle_57
      · have hf := (if_neg c12).symm.trans hf
        refine lv_iconst (v := 0) hx hb dX9_bakeObstacle_46 (by decide) ?_
        exact bk_iW X hr rfl hf hB (Nat.le_of_ble_eq_true rfl) (Nat.le_of_ble_eq_true rfl) dX9_bakeObstacle_47
    have hJ38 : ∀ (v15 : bM) (H : Heap) (locs : List Loc) (ls : Array Slot), fX9_bakeObstacle_J38 p1 p2 p3 p4 v15 = some (r0, w0) → bB D E LMo a v15 s H locs → lv_has ls 5 [(0, .ref a), (1, .int p1), (2, .int p2), (3, .int p3), (4, .int p4)] → W p l e (rmOf 5 0 0) s m args below meth c H locs 0 0 (bQ below D E LMo a w0 (some (.int r0)) args s 0 0) (F0 m 38 ls [.ref a]) := by
      intro v15 H locs ls hf hB hl
      have hf := (fX9_bakeObstacle_J38.eq_1 p1 p2 p3 p4 v15).symm.trans hf
      refine lv_iconst (v := 0) hx hb dX9_bakeObstacle_38 (by decide) ?_
      exact hJ39 0 v15 H locs ls hf hB (lv_sub hl [0, 1, 2, 3, 4] rfl)
    refine lv_if_eq (tgt := 38) hx hb dX9_bakeObstacle_16 (by decide) (fun c16 => ?_) (fun c16 => ?_)
    · have hf := (if_pos c16).symm.trans hf
      exact hJ38 w2 H locs ls hf hB (lv_sub hl [0, 1, 2, 3, 4] rfl)
    · have hf := (if_neg c16).symm.trans hf
      refine lv_iload_n hx hb dX9_bakeObstacle_19 rfl (lv_at hl 3 rfl) ?_
      obtain ⟨r18, hc17, hf⟩ := bnr_some hf
      refine bk_non (v0 := w2) (w0 := w2) hB (fun h1 h2 h3 => bk_runS X (Av := [.int p3]) (rest := [.ref a]) (mX9_isExtra hc17) ys_X9_isExtra wm_2137 ⟨Nat.le_of_ble_eq_true rfl, Nat.le_of_ble_eq_true rfl⟩ rfl rfl hl.1 h1 h2 h3 (Nat.le_of_ble_eq_true rfl) ⟨Nat.le_of_ble_eq_true rfl, Nat.le_of_ble_eq_true rfl⟩ dX9_bakeObstacle_20) (fun H locs hB => ?_)
      refine W.eq (g2 := F0 m 23 ls [.int r18, .ref a]) rfl ?_
      refine lv_if_eq (tgt := 38) hx hb dX9_bakeObstacle_23 (by decide) (fun c19 => ?_) (fun c19 => ?_)
      · have hf := (if_pos c19).symm.trans hf
        exact hJ38 w2 H locs ls hf hB (lv_sub hl [0, 1, 2, 3, 4] rfl)
      · have hf := (if_neg c19).symm.trans hf
        refine lv_iload hx hb dX9_bakeObstacle_26 (lv_at hl 4 rfl) ?_
        obtain ⟨r21, hc20, hf⟩ := bnr_some hf
        refine bk_non (v0 := w2) (w0 := w2) hB (fun h1 h2 h3 => bk_runS X (Av := [.int p4]) (rest := [.ref a]) (mX9_isExtra hc20) ys_X9_isExtra wm_2137 ⟨Nat.le_of_ble_eq_true rfl, Nat.le_of_ble_eq_true rfl⟩ rfl rfl hl.1 h1 h2 h3 (Nat.le_of_ble_eq_true rfl) ⟨Nat.le_of_ble_eq_true rfl, Nat.le_of_ble_eq_true rfl⟩ dX9_bakeObstacle_28) (fun H locs hB => ?_)
        refine W.eq (g2 := F0 m 31 ls [.int r21, .ref a]) rfl ?_
        refine lv_if_eq (tgt := 38) hx hb dX9_bakeObstacle_31 (by decide) (fun c22 => ?_) (fun c22 => ?_)
        · have hf := (if_pos c22).symm.trans hf
          exact hJ38 w2 H locs ls hf hB (lv_sub hl [0, 1, 2, 3, 4] rfl)
        · have hf := (if_neg c22).symm.trans hf
          refine lv_iconst (v := 1) hx hb dX9_bakeObstacle_34 (by decide) ?_
          refine lv_goto (tgt := 39) hx hb dX9_bakeObstacle_35 (by decide) ?_
          exact hJ39 1 w2 H locs ls hf hB (lv_sub hl [0, 1, 2, 3, 4] rfl)
theorem yv_X9_bakeObstacle : bYv yX9_bakeObstacle RX9 cX9_bakeObstacle 5 (some .int) 4 := ⟨⟨rfl, by decide, by decide, rfl⟩, wm_2134, wm_2135, wm_17, wm_2136⟩

theorem dX9_isPlan_0 : decode cX9_isPlan 0 = .ok (.aload_n 0, 1) := by decide +kernel
theorem dX9_isPlan_1 : decode cX9_isPlan 1 = .ok (.iload_n 1, 1) := by decide +kernel
theorem dX9_isPlan_2 : decode cX9_isPlan 2 = .ok (.invokevirtual 307, 3) := by decide +kernel
theorem dX9_isPlan_5 : decode cX9_isPlan 5 = .ok (.ifCond .eq 22, 3) := by decide +kernel
theorem dX9_isPlan_8 : decode cX9_isPlan 8 = .ok (.aload_n 0, 1) := by decide +kernel
theorem dX9_isPlan_9 : decode cX9_isPlan 9 = .ok (.iload_n 2, 1) := by decide +kernel
theorem dX9_isPlan_10 : decode cX9_isPlan 10 = .ok (.iconst 1, 1) := by decide +kernel
theorem dX9_isPlan_11 : decode cX9_isPlan 11 = .ok (.bipush 20, 2) := by decide +kernel
theorem dX9_isPlan_13 : decode cX9_isPlan 13 = .ok (.invokestatic 135, 3) := by decide +kernel
theorem dX9_isPlan_16 : decode cX9_isPlan 16 = .ok (.iconst 2, 1) := by decide +kernel
theorem dX9_isPlan_17 : decode cX9_isPlan 17 = .ok (.invokevirtual 297, 3) := by decide +kernel
theorem dX9_isPlan_20 : decode cX9_isPlan 20 = .ok (.ifCond .ne 7, 3) := by decide +kernel
theorem dX9_isPlan_23 : decode cX9_isPlan 23 = .ok (.iconst 1, 1) := by decide +kernel
theorem dX9_isPlan_24 : decode cX9_isPlan 24 = .ok (.goto 4, 3) := by decide +kernel
theorem dX9_isPlan_27 : decode cX9_isPlan 27 = .ok (.iconst 0, 1) := by decide +kernel
theorem dX9_isPlan_28 : decode cX9_isPlan 28 = .ok (.ireturn, 1) := by decide +kernel
def fX9_isPlan (p1 : Int32) (p2 : Int32) (v : bM) : Option (Int32 × bM) :=
  bnd (fX9_isBread p1 v) fun r3 w2 => (if r3 = 0 then (some (0, w2)) else (bnr (fX9_inRange p2 1 20) fun r6 => bnd (fX9_fails r6 2 w2) fun r9 w8 => (if r9 = 0 then (some (1, w8)) else (some (0, w8)))))
set_option maxRecDepth 100000 in
set_option maxHeartbeats 4000000 in
theorem mX9_isPlan {l : Launch} {p1 : Int32} {p2 : Int32} {v : bM} {r0 : Int32} {w0 : bM} (hf : fX9_isPlan p1 p2 v = some (r0, w0)) : bMet l yX9_isPlan cX9_isPlan 3 (some .boolean) 2 0 0 LMo (fun E a => [.ref a, .int p1, .int p2]) v w0 (fun _ => some (.int r0)) := by
  refine bk_start (by decide +kernel) wfMo (fun _ _ => Nat.le_of_ble_eq_true rfl) ?_
  intro p e s m args below meth c D E a ls H locs X hr hl hB
  have hx := X.1
  have hb := X.2.1
  have hown := X.2.2.2.1
  have hts := X.2.2.2.2.1
  have hl : lv_has ls 3 [(0, .ref a), (1, .int p1), (2, .int p2)] := hl
  have hf := (fX9_isPlan.eq_1 p1 p2 v).symm.trans hf
  refine lv_aload_n hx hb dX9_isPlan_0 rfl (lv_at hl 0 rfl) ?_
  refine lv_iload_n hx hb dX9_isPlan_1 rfl (lv_at hl 1 rfl) ?_
  obtain ⟨r3, w2, hc1, hf⟩ := bnd_some hf
  refine bk_all hB (fun h1 h2 h3 => bk_runV X (Av := [.int p1]) (rest := []) (mX9_isBread hc1) yv_X9_isBread wm_2009 ⟨Nat.le_of_ble_eq_true rfl, Nat.le_of_ble_eq_true rfl⟩ rfl rfl hl.1 kl_X9.1 (hB.1.obj lc_Mo_0) h1 h2 h3 (Nat.le_of_ble_eq_true rfl) ⟨Nat.le_of_ble_eq_true rfl, Nat.le_of_ble_eq_true rfl⟩ dX9_isPlan_2) (fun H locs hB => ?_)
  refine W.eq (g2 := F0 m 5 ls [.int r3]) rfl ?_
  refine lv_if_eq (tgt := 27) hx hb dX9_isPlan_5 (by decide) (fun c4 => ?_) (fun c4 => ?_)
  · have hf := (if_pos c4).symm.trans hf
    refine lv_iconst (v := 0) hx hb dX9_isPlan_27 (by decide) ?_
    exact bk_zW X hr rfl rfl hf hB (Nat.le_of_ble_eq_true rfl) (Nat.le_of_ble_eq_true rfl) dX9_isPlan_28
  · have hf := (if_neg c4).symm.trans hf
    refine lv_aload_n hx hb dX9_isPlan_8 rfl (lv_at hl 0 rfl) ?_
    refine lv_iload_n hx hb dX9_isPlan_9 rfl (lv_at hl 2 rfl) ?_
    refine lv_iconst (v := 1) hx hb dX9_isPlan_10 (by decide) ?_
    refine lv_bipush (v := 20) hx hb dX9_isPlan_11 (by decide) ?_
    obtain ⟨r6, hc5, hf⟩ := bnr_some hf
    refine bk_non (v0 := w2) (w0 := w2) hB (fun h1 h2 h3 => bk_runS X (Av := [.int p2, .int 1, .int 20]) (rest := [.ref a]) (mX9_inRange hc5) ys_X9_inRange wm_1653 ⟨Nat.le_of_ble_eq_true rfl, Nat.le_of_ble_eq_true rfl⟩ rfl rfl hl.1 h1 h2 h3 (Nat.le_of_ble_eq_true rfl) ⟨Nat.le_of_ble_eq_true rfl, Nat.le_of_ble_eq_true rfl⟩ dX9_isPlan_13) (fun H locs hB => ?_)
    refine W.eq (g2 := F0 m 16 ls [.int r6, .ref a]) rfl ?_
    refine lv_iconst (v := 2) hx hb dX9_isPlan_16 (by decide) ?_
    obtain ⟨r9, w8, hc7, hf⟩ := bnd_some hf
    refine bk_all hB (fun h1 h2 h3 => bk_runV X (Av := [.int r6, .int 2]) (rest := []) (mX9_fails hc7) yv_X9_fails wm_1977 ⟨Nat.le_of_ble_eq_true rfl, Nat.le_of_ble_eq_true rfl⟩ rfl rfl hl.1 kl_X9.1 (hB.1.obj lc_Mo_0) h1 h2 h3 (Nat.le_of_ble_eq_true rfl) ⟨Nat.le_of_ble_eq_true rfl, Nat.le_of_ble_eq_true rfl⟩ dX9_isPlan_17) (fun H locs hB => ?_)
    refine W.eq (g2 := F0 m 20 ls [.int r9]) rfl ?_
    refine lv_if_ne (tgt := 27) hx hb dX9_isPlan_20 (by decide) (fun c10 => ?_) (fun c10 => ?_)
    · have hf := (if_neg c10).symm.trans hf
      refine lv_iconst (v := 0) hx hb dX9_isPlan_27 (by decide) ?_
      exact bk_zW X hr rfl rfl hf hB (Nat.le_of_ble_eq_true rfl) (Nat.le_of_ble_eq_true rfl) dX9_isPlan_28
    · have hf := (if_pos c10).symm.trans hf
      refine lv_iconst (v := 1) hx hb dX9_isPlan_23 (by decide) ?_
      refine lv_goto (tgt := 28) hx hb dX9_isPlan_24 (by decide) ?_
      exact bk_zW X hr rfl rfl hf hB (Nat.le_of_ble_eq_true rfl) (Nat.le_of_ble_eq_true rfl) dX9_isPlan_28
theorem yv_X9_isPlan : bYv yX9_isPlan RX9 cX9_isPlan 3 (some .boolean) 2 := ⟨⟨rfl, by decide, by decide, rfl⟩, wm_2146, wp_86, wm_17, wm_2147⟩

theorem dX9_lossIfBaked_0 : decode cX9_lossIfBaked 0 = .ok (.aload_n 0, 1) := by decide +kernel
theorem dX9_lossIfBaked_1 : decode cX9_lossIfBaked 1 = .ok (.iload_n 1, 1) := by decide +kernel
theorem dX9_lossIfBaked_2 : decode cX9_lossIfBaked 2 = .ok (.iload_n 2, 1) := by decide +kernel
theorem dX9_lossIfBaked_3 : decode cX9_lossIfBaked 3 = .ok (.invokevirtual 328, 3) := by decide +kernel
theorem dX9_lossIfBaked_6 : decode cX9_lossIfBaked 6 = .ok (.ifCond .eq 27, 3) := by decide +kernel
theorem dX9_lossIfBaked_9 : decode cX9_lossIfBaked 9 = .ok (.aload_n 0, 1) := by decide +kernel
theorem dX9_lossIfBaked_10 : decode cX9_lossIfBaked 10 = .ok (.aload_n 0, 1) := by decide +kernel
theorem dX9_lossIfBaked_11 : decode cX9_lossIfBaked 11 = .ok (.iload_n 1, 1) := by decide +kernel
theorem dX9_lossIfBaked_12 : decode cX9_lossIfBaked 12 = .ok (.iload_n 2, 1) := by decide +kernel
theorem dX9_lossIfBaked_13 : decode cX9_lossIfBaked 13 = .ok (.iconst 0, 1) := by decide +kernel
theorem dX9_lossIfBaked_14 : decode cX9_lossIfBaked 14 = .ok (.iconst 0, 1) := by decide +kernel
theorem dX9_lossIfBaked_15 : decode cX9_lossIfBaked 15 = .ok (.invokevirtual 242, 3) := by decide +kernel
theorem dX9_lossIfBaked_18 : decode cX9_lossIfBaked 18 = .ok (.ifCond .ne 7, 3) := by decide +kernel
theorem dX9_lossIfBaked_21 : decode cX9_lossIfBaked 21 = .ok (.iconst 1, 1) := by decide +kernel
theorem dX9_lossIfBaked_22 : decode cX9_lossIfBaked 22 = .ok (.goto 4, 3) := by decide +kernel
theorem dX9_lossIfBaked_25 : decode cX9_lossIfBaked 25 = .ok (.iconst 0, 1) := by decide +kernel
theorem dX9_lossIfBaked_26 : decode cX9_lossIfBaked 26 = .ok (.iconst 3, 1) := by decide +kernel
theorem dX9_lossIfBaked_27 : decode cX9_lossIfBaked 27 = .ok (.invokevirtual 297, 3) := by decide +kernel
theorem dX9_lossIfBaked_30 : decode cX9_lossIfBaked 30 = .ok (.ifCond .eq 5, 3) := by decide +kernel
theorem dX9_lossIfBaked_33 : decode cX9_lossIfBaked 33 = .ok (.iconst 0, 1) := by decide +kernel
theorem dX9_lossIfBaked_34 : decode cX9_lossIfBaked 34 = .ok (.ireturn, 1) := by decide +kernel
theorem dX9_lossIfBaked_35 : decode cX9_lossIfBaked 35 = .ok (.aload_n 0, 1) := by decide +kernel
theorem dX9_lossIfBaked_36 : decode cX9_lossIfBaked 36 = .ok (.invokevirtual 276, 3) := by decide +kernel
theorem dX9_lossIfBaked_39 : decode cX9_lossIfBaked 39 = .ok (.aload_n 0, 1) := by decide +kernel
theorem dX9_lossIfBaked_40 : decode cX9_lossIfBaked 40 = .ok (.iload_n 1, 1) := by decide +kernel
theorem dX9_lossIfBaked_41 : decode cX9_lossIfBaked 41 = .ok (.iload_n 2, 1) := by decide +kernel
theorem dX9_lossIfBaked_42 : decode cX9_lossIfBaked 42 = .ok (.iconst 0, 1) := by decide +kernel
theorem dX9_lossIfBaked_43 : decode cX9_lossIfBaked 43 = .ok (.iconst 0, 1) := by decide +kernel
theorem dX9_lossIfBaked_44 : decode cX9_lossIfBaked 44 = .ok (.iconst 0, 1) := by decide +kernel
theorem dX9_lossIfBaked_45 : decode cX9_lossIfBaked 45 = .ok (.invokevirtual 257, 3) := by decide +kernel
theorem dX9_lossIfBaked_48 : decode cX9_lossIfBaked 48 = .ok (.istore_n 3, 1) := by decide +kernel
theorem dX9_lossIfBaked_49 : decode cX9_lossIfBaked 49 = .ok (.aload_n 0, 1) := by decide +kernel
theorem dX9_lossIfBaked_50 : decode cX9_lossIfBaked 50 = .ok (.aload_n 0, 1) := by decide +kernel
theorem dX9_lossIfBaked_51 : decode cX9_lossIfBaked 51 = .ok (.iload_n 3, 1) := by decide +kernel
theorem dX9_lossIfBaked_52 : decode cX9_lossIfBaked 52 = .ok (.invokevirtual 313, 3) := by decide +kernel
theorem dX9_lossIfBaked_55 : decode cX9_lossIfBaked 55 = .ok (.invokevirtual 285, 3) := by decide +kernel
theorem dX9_lossIfBaked_58 : decode cX9_lossIfBaked 58 = .ok (.ireturn, 1) := by decide +kernel
def fX9_lossIfBaked_J26 (p1 : Int32) (p2 : Int32) (y7 : Int32) (v8 : bM) : Option (Int32 × bM) :=
  bnd (fX9_fails y7 3 v8) fun r11 w10 => (if r11 = 0 then (bnw (fX9_startTrial w10) fun w14 => bnd (fX9_doBake p1 p2 0 0 0 w14) fun r17 w16 => bnr (fX9_loss r17 w16) fun r19 => bnd (fX9_putBack r19 w16) fun r22 w21 => some (r22, w21)) else (some (0, w10)))
def fX9_lossIfBaked (p1 : Int32) (p2 : Int32) (v : bM) : Option (Int32 × bM) :=
  bnd (fX9_isPlan p1 p2 v) fun r3 w2 => (if r3 = 0 then (some (0, w2)) else (bnr (fX9_obstacle p1 p2 0 0 w2) fun r6 => (if r6 = 0 then (fX9_lossIfBaked_J26 p1 p2 1 w2) else (fX9_lossIfBaked_J26 p1 p2 0 w2))))
set_option maxRecDepth 100000 in
set_option maxHeartbeats 4000000 in
theorem mX9_lossIfBaked {l : Launch} {p1 : Int32} {p2 : Int32} {v : bM} {r0 : Int32} {w0 : bM} (hf : fX9_lossIfBaked p1 p2 v = some (r0, w0)) : bMet l yX9_lossIfBaked cX9_lossIfBaked 4 (some .int) 6 0 0 LMo (fun E a => [.ref a, .int p1, .int p2]) v w0 (fun _ => some (.int r0)) := by
  refine bk_start (by decide +kernel) wfMo (fun _ _ => Nat.le_of_ble_eq_true rfl) ?_
  intro p e s m args below meth c D E a ls H locs X hr hl hB
  have hx := X.1
  have hb := X.2.1
  have hown := X.2.2.2.1
  have hts := X.2.2.2.2.1
  have hl : lv_has ls 4 [(0, .ref a), (1, .int p1), (2, .int p2)] := hl
  have hf := (fX9_lossIfBaked.eq_1 p1 p2 v).symm.trans hf
  refine lv_aload_n hx hb dX9_lossIfBaked_0 rfl (lv_at hl 0 rfl) ?_
  refine lv_iload_n hx hb dX9_lossIfBaked_1 rfl (lv_at hl 1 rfl) ?_
  refine lv_iload_n hx hb dX9_lossIfBaked_2 rfl (lv_at hl 2 rfl) ?_
  obtain ⟨r3, w2, hc1, hf⟩ := bnd_some hf
  refine bk_all hB (fun h1 h2 h3 => bk_runV X (Av := [.int p1, .int p2]) (rest := []) (mX9_isPlan hc1) yv_X9_isPlan wm_2144 ⟨Nat.le_of_ble_eq_true rfl, Nat.le_of_ble_eq_true rfl⟩ rfl rfl hl.1 kl_X9.1 (hB.1.obj lc_Mo_0) h1 h2 h3 (Nat.le_of_ble_eq_true rfl) ⟨Nat.le_of_ble_eq_true rfl, Nat.le_of_ble_eq_true rfl⟩ dX9_lossIfBaked_3) (fun H locs hB => ?_)
  refine W.eq (g2 := F0 m 6 ls [.int r3]) rfl ?_
  refine lv_if_eq (tgt := 33) hx hb dX9_lossIfBaked_6 (by decide) (fun c4 => ?_) (fun c4 => ?_)
  · have hf := (if_pos c4).symm.trans hf
    refine lv_iconst (v := 0) hx hb dX9_lossIfBaked_33 (by decide) ?_
    exact bk_iW X hr rfl hf hB (Nat.le_of_ble_eq_true rfl) (Nat.le_of_ble_eq_true rfl) dX9_lossIfBaked_34
  · have hf := (if_neg c4).symm.trans hf
    refine lv_aload_n hx hb dX9_lossIfBaked_9 rfl (lv_at hl 0 rfl) ?_
    refine lv_aload_n hx hb dX9_lossIfBaked_10 rfl (lv_at hl 0 rfl) ?_
    refine lv_iload_n hx hb dX9_lossIfBaked_11 rfl (lv_at hl 1 rfl) ?_
    refine lv_iload_n hx hb dX9_lossIfBaked_12 rfl (lv_at hl 2 rfl) ?_
    refine lv_iconst (v := 0) hx hb dX9_lossIfBaked_13 (by decide) ?_
    refine lv_iconst (v := 0) hx hb dX9_lossIfBaked_14 (by decide) ?_
    obtain ⟨r6, hc5, hf⟩ := bnr_some hf
    refine bk_all hB (fun h1 h2 h3 => bk_runV X (Av := [.int p1, .int p2, .int 0, .int 0]) (rest := [.ref a]) (mX9_obstacle hc5) yv_X9_obstacle wm_1762 ⟨Nat.le_of_ble_eq_true rfl, Nat.le_of_ble_eq_true rfl⟩ rfl rfl hl.1 kl_X9.1 (hB.1.obj lc_Mo_0) h1 h2 h3 (Nat.le_of_ble_eq_true rfl) ⟨Nat.le_of_ble_eq_true rfl, Nat.le_of_ble_eq_true rfl⟩ dX9_lossIfBaked_15) (fun H locs hB => ?_)
    refine W.eq (g2 := F0 m 18 ls [.int r6, .ref a]) rfl ?_
    have hJ26 : ∀ (y7 : Int32) (v8 : bM) (H : Heap) (locs : List Loc) (ls : Array Slot), fX9_lossIfBaked_J26 p1 p2 y7 v8 = some (r0, w0) → bB D E LMo a v8 s H locs → lv_has ls 4 [(0, .ref a), (1, .int p1), (2, .int p2)] → W p l e (rmOf 6 0 0) s m args below meth c H locs 0 0 (bQ below D E LMo a w0 (some (.int r0)) args s 0 0) (F0 m 26 ls [.int y7, .ref a]) := by
      intro y7 v8 H locs ls hf hB hl
      have hf := (fX9_lossIfBaked_J26.eq_1 p1 p2 y7 v8).symm.trans hf
      refine lv_iconst (v := 3) hx hb dX9_lossIfBaked_26 (by decide) ?_
      obtain ⟨r11, w10, hc9, hf⟩ := bnd_some hf
      refine bk_all hB (fun h1 h2 h3 => bk_runV X (Av := [.int y7, .int 3]) (rest := []) (mX9_fails hc9) yv_X9_fails wm_1977 ⟨Nat.le_of_ble_eq_true rfl, Nat.le_of_ble_eq_true rfl⟩ rfl rfl hl.1 kl_X9.1 (hB.1.obj lc_Mo_0) h1 h2 h3 (Nat.le_of_ble_eq_true rfl) ⟨Nat.le_of_ble_eq_true rfl, Nat.le_of_ble_eq_true rfl⟩ dX9_lossIfBaked_27) (fun H locs hB => ?_)
      refine W.eq (g2 := F0 m 30 ls [.int r11]) rfl ?_
      refine lv_if_eq (tgt := 35) hx hb dX9_lossIfBaked_30 (by decide) (fun c12 => ?_) (fun c12 => ?_)
      · have hf := (if_pos c12).symm.trans hf
        refine lv_aload_n hx hb dX9_lossIfBaked_35 rfl (lv_at hl 0 rfl) ?_
        obtain ⟨w14, hc13, hf⟩ := bnw_some hf
        refine bk_all hB (fun h1 h2 h3 => bk_runV X (Av := []) (rest := []) (mX9_startTrial hc13) yv_X9_startTrial wm_1638 ⟨Nat.le_of_ble_eq_true rfl, Nat.le_of_ble_eq_true rfl⟩ rfl rfl hl.1 kl_X9.1 (hB.1.obj lc_Mo_0) h1 h2 h3 (Nat.le_of_ble_eq_true rfl) ⟨Nat.le_of_ble_eq_true rfl, Nat.le_of_ble_eq_true rfl⟩ dX9_lossIfBaked_36) (fun H locs hB => ?_)
        refine W.eq (g2 := F0 m 39 ls []) rfl ?_
        refine lv_aload_n hx hb dX9_lossIfBaked_39 rfl (lv_at hl 0 rfl) ?_
        refine lv_iload_n hx hb dX9_lossIfBaked_40 rfl (lv_at hl 1 rfl) ?_
        refine lv_iload_n hx hb dX9_lossIfBaked_41 rfl (lv_at hl 2 rfl) ?_
        refine lv_iconst (v := 0) hx hb dX9_lossIfBaked_42 (by decide) ?_
        refine lv_iconst (v := 0) hx hb dX9_lossIfBaked_43 (by decide) ?_
        refine lv_iconst (v := 0) hx hb dX9_lossIfBaked_44 (by decide) ?_
        obtain ⟨r17, w16, hc15, hf⟩ := bnd_some hf
        refine bk_all hB (fun h1 h2 h3 => bk_runV X (Av := [.int p1, .int p2, .int 0, .int 0, .int 0]) (rest := []) (mX9_doBake hc15) yv_X9_doBake wm_1814 ⟨Nat.le_of_ble_eq_true rfl, Nat.le_of_ble_eq_true rfl⟩ rfl rfl hl.1 kl_X9.1 (hB.1.obj lc_Mo_0) h1 h2 h3 (Nat.le_of_ble_eq_true rfl) ⟨Nat.le_of_ble_eq_true rfl, Nat.le_of_ble_eq_true rfl⟩ dX9_lossIfBaked_45) (fun H locs hB => ?_)
        refine W.eq (g2 := F0 m 48 ls [.int r17]) rfl ?_
        refine lv_istore_n (lv' := [(3, .int r17), (0, .ref a), (1, .int p1), (2, .int p2)]) hx hb dX9_lossIfBaked_48 rfl hl (by decide) rfl (fun ls hl => ?_)
        refine lv_aload_n hx hb dX9_lossIfBaked_49 rfl (lv_at hl 1 rfl) ?_
        refine lv_aload_n hx hb dX9_lossIfBaked_50 rfl (lv_at hl 1 rfl) ?_
        refine lv_iload_n hx hb dX9_lossIfBaked_51 rfl (lv_at hl 0 rfl) ?_
        obtain ⟨r19, hc18, hf⟩ := bnr_some hf
        refine bk_all hB (fun h1 h2 h3 => bk_runV X (Av := [.int r17]) (rest := [.ref a]) (mX9_loss hc18) yv_X9_loss wm_2085 ⟨Nat.le_of_ble_eq_true rfl, Nat.le_of_ble_eq_true rfl⟩ rfl rfl hl.1 kl_X9.1 (hB.1.obj lc_Mo_0) h1 h2 h3 (Nat.le_of_ble_eq_true rfl) ⟨Nat.le_of_ble_eq_true rfl, Nat.le_of_ble_eq_true rfl⟩ dX9_lossIfBaked_52) (fun H locs hB => ?_)
        refine W.eq (g2 := F0 m 55 ls [.int r19, .ref a]) rfl ?_
        obtain ⟨r22, w21, hc20, hf⟩ := bnd_some hf
        refine bk_all hB (fun h1 h2 h3 => bk_runV X (Av := [.int r19]) (rest := []) (mX9_putBack hc20) yv_X9_putBack wm_1859 ⟨Nat.le_of_ble_eq_true rfl, Nat.le_of_ble_eq_true rfl⟩ rfl rfl hl.1 kl_X9.1 (hB.1.obj lc_Mo_0) h1 h2 h3 (Nat.le_of_ble_eq_true rfl) ⟨Nat.le_of_ble_eq_true rfl, Nat.le_of_ble_eq_true rfl⟩ dX9_lossIfBaked_55) (fun H locs hB => ?_)
        refine W.eq (g2 := F0 m 58 ls [.int r22]) rfl ?_
        exact bk_iW X hr rfl hf hB (Nat.le_of_ble_eq_true rfl) (Nat.le_of_ble_eq_true rfl) dX9_lossIfBaked_58
      · have hf := (if_neg c12).symm.trans hf
        refine lv_iconst (v := 0) hx hb dX9_lossIfBaked_33 (by decide) ?_
        exact bk_iW X hr rfl hf hB (Nat.le_of_ble_eq_true rfl) (Nat.le_of_ble_eq_true rfl) dX9_lossIfBaked_34
    refine lv_if_ne (tgt := 25) hx hb dX9_lossIfBaked_18 (by decide) (fun c23 => ?_) (fun c23 => ?_)
    · have hf := (if_neg c23).symm.trans hf
      refine lv_iconst (v := 0) hx hb dX9_lossIfBaked_25 (by decide) ?_
      exact hJ26 0 w2 H locs ls hf hB (lv_sub hl [0, 1, 2] rfl)
    · have hf := (if_pos c23).symm.trans hf
      refine lv_iconst (v := 1) hx hb dX9_lossIfBaked_21 (by decide) ?_
      refine lv_goto (tgt := 26) hx hb dX9_lossIfBaked_22 (by decide) ?_
      exact hJ26 1 w2 H locs ls hf hB (lv_sub hl [0, 1, 2] rfl)
theorem yv_X9_lossIfBaked : bYv yX9_lossIfBaked RX9 cX9_lossIfBaked 4 (some .int) 2 := ⟨⟨rfl, by decide, by decide, rfl⟩, wm_2141, wm_2142, wm_17, wm_2143⟩

theorem dX9_possibleLoaves_0 : decode cX9_possibleLoaves 0 = .ok (.aload_n 0, 1) := by decide +kernel
theorem dX9_possibleLoaves_1 : decode cX9_possibleLoaves 1 = .ok (.iload_n 1, 1) := by decide +kernel
theorem dX9_possibleLoaves_2 : decode cX9_possibleLoaves 2 = .ok (.invokevirtual 307, 3) := by decide +kernel
theorem dX9_possibleLoaves_5 : decode cX9_possibleLoaves 5 = .ok (.ifCond .ne 5, 3) := by decide +kernel
theorem dX9_possibleLoaves_8 : decode cX9_possibleLoaves 8 = .ok (.iconst 0, 1) := by decide +kernel
theorem dX9_possibleLoaves_9 : decode cX9_possibleLoaves 9 = .ok (.ireturn, 1) := by decide +kernel
theorem dX9_possibleLoaves_10 : decode cX9_possibleLoaves 10 = .ok (.iconst 0, 1) := by decide +kernel
theorem dX9_possibleLoaves_11 : decode cX9_possibleLoaves 11 = .ok (.istore_n 2, 1) := by decide +kernel
theorem dX9_possibleLoaves_12 : decode cX9_possibleLoaves 12 = .ok (.iload_n 2, 1) := by decide +kernel
theorem dX9_possibleLoaves_13 : decode cX9_possibleLoaves 13 = .ok (.bipush 20, 2) := by decide +kernel
theorem dX9_possibleLoaves_15 : decode cX9_possibleLoaves 15 = .ok (.if_icmp .ge 22, 3) := by decide +kernel
theorem dX9_possibleLoaves_18 : decode cX9_possibleLoaves 18 = .ok (.aload_n 0, 1) := by decide +kernel
theorem dX9_possibleLoaves_19 : decode cX9_possibleLoaves 19 = .ok (.iload_n 1, 1) := by decide +kernel
theorem dX9_possibleLoaves_20 : decode cX9_possibleLoaves 20 = .ok (.iload_n 2, 1) := by decide +kernel
theorem dX9_possibleLoaves_21 : decode cX9_possibleLoaves 21 = .ok (.iconst 1, 1) := by decide +kernel
theorem dX9_possibleLoaves_22 : decode cX9_possibleLoaves 22 = .ok (.iadd, 1) := by decide +kernel
theorem dX9_possibleLoaves_23 : decode cX9_possibleLoaves 23 = .ok (.iconst 0, 1) := by decide +kernel
theorem dX9_possibleLoaves_24 : decode cX9_possibleLoaves 24 = .ok (.iconst 0, 1) := by decide +kernel
theorem dX9_possibleLoaves_25 : decode cX9_possibleLoaves 25 = .ok (.invokevirtual 242, 3) := by decide +kernel
theorem dX9_possibleLoaves_28 : decode cX9_possibleLoaves 28 = .ok (.ifCond .ne 9, 3) := by decide +kernel
theorem dX9_possibleLoaves_31 : decode cX9_possibleLoaves 31 = .ok (.iinc 2 1, 3) := by decide +kernel
theorem dX9_possibleLoaves_34 : decode cX9_possibleLoaves 34 = .ok (.goto (-22), 3) := by decide +kernel
theorem dX9_possibleLoaves_37 : decode cX9_possibleLoaves 37 = .ok (.iload_n 2, 1) := by decide +kernel
theorem dX9_possibleLoaves_38 : decode cX9_possibleLoaves 38 = .ok (.ireturn, 1) := by decide +kernel
def fX9_possibleLoaves_L12 (p1 : Int32) (k12 : Int32 → bM → Option (Int32 × bM)) (y5 : Int32) (v6 : bM) : Option (Int32 × bM) :=
  (if 20 ≤ y5 then (some (y5, v6)) else (bnr (fX9_obstacle p1 (y5 + 1) 0 0 v6) fun r9 => (if r9 = 0 then (nm (y5 + 1) fun x11 => k12 x11 v6) else (some (y5, v6)))))
def fX9_possibleLoaves (p1 : Int32) (v : bM) : Option (Int32 × bM) :=
  bnd (fX9_isBread p1 v) fun r3 w2 => (if r3 = 0 then (some (0, w2)) else (lp (fX9_possibleLoaves_L12 p1) (fun _ _ => none) lpN 0 w2))
set_option maxRecDepth 100000 in
set_option maxHeartbeats 4000000 in
theorem mX9_possibleLoaves {l : Launch} {p1 : Int32} {v : bM} {r0 : Int32} {w0 : bM} (hf : fX9_possibleLoaves p1 v = some (r0, w0)) : bMet l yX9_possibleLoaves cX9_possibleLoaves 3 (some .int) 5 0 0 LMo (fun E a => [.ref a, .int p1]) v w0 (fun _ => some (.int r0)) := by
  refine bk_start (by decide +kernel) wfMo (fun _ _ => Nat.le_of_ble_eq_true rfl) ?_
  intro p e s m args below meth c D E a ls H locs X hr hl hB
  have hx := X.1
  have hb := X.2.1
  have hown := X.2.2.2.1
  have hts := X.2.2.2.2.1
  have hl : lv_has ls 3 [(0, .ref a), (1, .int p1)] := hl
  have hf := (fX9_possibleLoaves.eq_1 p1 v).symm.trans hf
  refine lv_aload_n hx hb dX9_possibleLoaves_0 rfl (lv_at hl 0 rfl) ?_
  refine lv_iload_n hx hb dX9_possibleLoaves_1 rfl (lv_at hl 1 rfl) ?_
  obtain ⟨r3, w2, hc1, hf⟩ := bnd_some hf
  refine bk_all hB (fun h1 h2 h3 => bk_runV X (Av := [.int p1]) (rest := []) (mX9_isBread hc1) yv_X9_isBread wm_2009 ⟨Nat.le_of_ble_eq_true rfl, Nat.le_of_ble_eq_true rfl⟩ rfl rfl hl.1 kl_X9.1 (hB.1.obj lc_Mo_0) h1 h2 h3 (Nat.le_of_ble_eq_true rfl) ⟨Nat.le_of_ble_eq_true rfl, Nat.le_of_ble_eq_true rfl⟩ dX9_possibleLoaves_2) (fun H locs hB => ?_)
  refine W.eq (g2 := F0 m 5 ls [.int r3]) rfl ?_
  refine lv_if_ne (tgt := 10) hx hb dX9_possibleLoaves_5 (by decide) (fun c4 => ?_) (fun c4 => ?_)
  · have hf := (if_neg c4).symm.trans hf
    refine lv_iconst (v := 0) hx hb dX9_possibleLoaves_10 (by decide) ?_
    refine lv_istore_n (lv' := [(2, .int 0), (0, .ref a), (1, .int p1)]) hx hb dX9_possibleLoaves_11 rfl hl (by decide) rfl (fun ls hl => ?_)
    have hL12 : ∀ (n12 : Nat) (y5 : Int32) (v6 : bM) (H : Heap) (locs : List Loc) (ls : Array Slot), lp (fX9_possibleLoaves_L12 p1) (fun _ _ => none) n12 y5 v6 = some (r0, w0) → bB D E LMo a v6 s H locs → lv_has ls 3 [(0, .ref a), (1, .int p1), (2, .int y5)] → W p l e (rmOf 5 0 0) s m args below meth c H locs 0 0 (bQ below D E LMo a w0 (some (.int r0)) args s 0 0) (F0 m 12 ls []) := by
      intro n12
      induction n12 with
      | zero => intro y5 v6 H locs ls hf; cases (show (none : Option (Int32 × bM)) = some (r0, w0) from hf)
      | succ n12 ih12 =>
        intro y5 v6 H locs ls hf hB hl
        have hf := (fX9_possibleLoaves_L12.eq_1 p1 (lp (fX9_possibleLoaves_L12 p1) (fun _ _ => none) n12) y5 v6).symm.trans (show fX9_possibleLoaves_L12 p1 (lp (fX9_possibleLoaves_L12 p1) (fun _ _ => none) n12) y5 v6 = some (r0, w0) from hf)
        refine lv_iload_n hx hb dX9_possibleLoaves_12 rfl (lv_at hl 2 rfl) ?_
        refine lv_bipush (v := 20) hx hb dX9_possibleLoaves_13 (by decide) ?_
        refine lv_icmp_ge (tgt := 37) hx hb dX9_possibleLoaves_15 (by decide) (fun c7 => ?_) (fun c7 => ?_)
        · have hf := (if_pos c7).symm.trans hf
          refine lv_iload_n hx hb dX9_possibleLoaves_37 rfl (lv_at hl 2 rfl) ?_
          exact bk_iW X hr rfl hf hB (Nat.le_of_ble_eq_true rfl) (Nat.le_of_ble_eq_true rfl) dX9_possibleLoaves_38
        · have hf := (if_neg c7).symm.trans hf
          refine lv_aload_n hx hb dX9_possibleLoaves_18 rfl (lv_at hl 0 rfl) ?_
          refine lv_iload_n hx hb dX9_possibleLoaves_19 rfl (lv_at hl 1 rfl) ?_
          refine lv_iload_n hx hb dX9_possibleLoaves_20 rfl (lv_at hl 2 rfl) ?_
          refine lv_iconst (v := 1) hx hb dX9_possibleLoaves_21 (by decide) ?_
          refine lv_iadd hx hb dX9_possibleLoaves_22 ?_
          refine lv_iconst (v := 0) hx hb dX9_possibleLoaves_23 (by decide) ?_
          refine lv_iconst (v := 0) hx hb dX9_possibleLoaves_24 (by decide) ?_
          obtain ⟨r9, hc8, hf⟩ := bnr_some hf
          refine bk_all hB (fun h1 h2 h3 => bk_runV X (Av := [.int p1, .int (y5 + 1), .int 0, .int 0]) (rest := []) (mX9_obstacle hc8) yv_X9_obstacle wm_1762 ⟨Nat.le_of_ble_eq_true rfl, Nat.le_of_ble_eq_true rfl⟩ rfl rfl hl.1 kl_X9.1 (hB.1.obj lc_Mo_0) h1 h2 h3 (Nat.le_of_ble_eq_true rfl) ⟨Nat.le_of_ble_eq_true rfl, Nat.le_of_ble_eq_true rfl⟩ dX9_possibleLoaves_25) (fun H locs hB => ?_)
          refine W.eq (g2 := F0 m 28 ls [.int r9]) rfl ?_
          refine lv_if_ne (tgt := 37) hx hb dX9_possibleLoaves_28 (by decide) (fun c10 => ?_) (fun c10 => ?_)
          · have hf := (if_neg c10).symm.trans hf
            refine lv_iload_n hx hb dX9_possibleLoaves_37 rfl (lv_at hl 2 rfl) ?_
            exact bk_iW X hr rfl hf hB (Nat.le_of_ble_eq_true rfl) (Nat.le_of_ble_eq_true rfl) dX9_possibleLoaves_38
          · have hf := (if_pos c10).symm.trans hf
            obtain ⟨x11, ex11⟩ : ∃ y : Int32, y = y5 + 1 := ⟨_, rfl⟩
            have hf := nm_use hf ex11
            refine lv_iinc (v := x11) (lv' := [(2, .int x11), (0, .ref a), (1, .int p1)]) hx hb dX9_possibleLoaves_31 hl (k := 2) rfl (by rw [ex11]; rfl) (by decide) rfl (fun ls hl => ?_)
            refine lv_goto (tgt := 12) hx hb dX9_possibleLoaves_34 (by decide) ?_
            exact ih12 x11 v6 H locs ls hf hB (lv_sub hl [1, 2, 0] rfl)
    exact hL12 lpN 0 w2 H locs ls hf hB (lv_sub hl [1, 2, 0] rfl)
  · have hf := (if_pos c4).symm.trans hf
    refine lv_iconst (v := 0) hx hb dX9_possibleLoaves_8 (by decide) ?_
    exact bk_iW X hr rfl hf hB (Nat.le_of_ble_eq_true rfl) (Nat.le_of_ble_eq_true rfl) dX9_possibleLoaves_9
theorem yv_X9_possibleLoaves : bYv yX9_possibleLoaves RX9 cX9_possibleLoaves 3 (some .int) 1 := ⟨⟨rfl, by decide, by decide, rfl⟩, wm_2149, wm_2150, wm_17, wm_2151⟩

theorem dX9_bestWait_0 : decode cX9_bestWait 0 = .ok (.aload_n 0, 1) := by decide +kernel
theorem dX9_bestWait_1 : decode cX9_bestWait 1 = .ok (.iload_n 1, 1) := by decide +kernel
theorem dX9_bestWait_2 : decode cX9_bestWait 2 = .ok (.iload_n 2, 1) := by decide +kernel
theorem dX9_bestWait_3 : decode cX9_bestWait 3 = .ok (.invokevirtual 328, 3) := by decide +kernel
theorem dX9_bestWait_6 : decode cX9_bestWait 6 = .ok (.ifCond .ne 5, 3) := by decide +kernel
theorem dX9_bestWait_9 : decode cX9_bestWait 9 = .ok (.iconst 0, 1) := by decide +kernel
theorem dX9_bestWait_10 : decode cX9_bestWait 10 = .ok (.ireturn, 1) := by decide +kernel
theorem dX9_bestWait_11 : decode cX9_bestWait 11 = .ok (.aload_n 0, 1) := by decide +kernel
theorem dX9_bestWait_12 : decode cX9_bestWait 12 = .ok (.getfield 17, 3) := by decide +kernel
theorem dX9_bestWait_15 : decode cX9_bestWait 15 = .ok (.bipush 37, 2) := by decide +kernel
theorem dX9_bestWait_17 : decode cX9_bestWait 17 = .ok (.aload_n 0, 1) := by decide +kernel
theorem dX9_bestWait_18 : decode cX9_bestWait 18 = .ok (.invokevirtual 110, 3) := by decide +kernel
theorem dX9_bestWait_21 : decode cX9_bestWait 21 = .ok (.iadd, 1) := by decide +kernel
theorem dX9_bestWait_22 : decode cX9_bestWait 22 = .ok (.iaload, 1) := by decide +kernel
theorem dX9_bestWait_23 : decode cX9_bestWait 23 = .ok (.istore_n 3, 1) := by decide +kernel
theorem dX9_bestWait_24 : decode cX9_bestWait 24 = .ok (.iconst 0, 1) := by decide +kernel
theorem dX9_bestWait_25 : decode cX9_bestWait 25 = .ok (.istore 4, 2) := by decide +kernel
theorem dX9_bestWait_27 : decode cX9_bestWait 27 = .ok (.iconst 0, 1) := by decide +kernel
theorem dX9_bestWait_28 : decode cX9_bestWait 28 = .ok (.istore 5, 2) := by decide +kernel
theorem dX9_bestWait_30 : decode cX9_bestWait 30 = .ok (.iconst 0, 1) := by decide +kernel
theorem dX9_bestWait_31 : decode cX9_bestWait 31 = .ok (.istore 6, 2) := by decide +kernel
theorem dX9_bestWait_33 : decode cX9_bestWait 33 = .ok (.iload 6, 2) := by decide +kernel
theorem dX9_bestWait_35 : decode cX9_bestWait 35 = .ok (.bipush 24, 2) := by decide +kernel
theorem dX9_bestWait_37 : decode cX9_bestWait 37 = .ok (.if_icmp .ge 59, 3) := by decide +kernel
theorem dX9_bestWait_40 : decode cX9_bestWait 40 = .ok (.aload_n 0, 1) := by decide +kernel
theorem dX9_bestWait_41 : decode cX9_bestWait 41 = .ok (.iload_n 3, 1) := by decide +kernel
theorem dX9_bestWait_42 : decode cX9_bestWait 42 = .ok (.aload_n 0, 1) := by decide +kernel
theorem dX9_bestWait_43 : decode cX9_bestWait 43 = .ok (.getfield 17, 3) := by decide +kernel
theorem dX9_bestWait_46 : decode cX9_bestWait 46 = .ok (.iconst 4, 1) := by decide +kernel
theorem dX9_bestWait_47 : decode cX9_bestWait 47 = .ok (.iaload, 1) := by decide +kernel
theorem dX9_bestWait_48 : decode cX9_bestWait 48 = .ok (.bipush 60, 2) := by decide +kernel
theorem dX9_bestWait_50 : decode cX9_bestWait 50 = .ok (.iload 6, 2) := by decide +kernel
theorem dX9_bestWait_52 : decode cX9_bestWait 52 = .ok (.imul, 1) := by decide +kernel
theorem dX9_bestWait_53 : decode cX9_bestWait 53 = .ok (.iadd, 1) := by decide +kernel
theorem dX9_bestWait_54 : decode cX9_bestWait 54 = .ok (.invokestatic 113, 3) := by decide +kernel
theorem dX9_bestWait_57 : decode cX9_bestWait 57 = .ok (.aload_n 0, 1) := by decide +kernel
theorem dX9_bestWait_58 : decode cX9_bestWait 58 = .ok (.iload_n 1, 1) := by decide +kernel
theorem dX9_bestWait_59 : decode cX9_bestWait 59 = .ok (.iconst 1, 1) := by decide +kernel
theorem dX9_bestWait_60 : decode cX9_bestWait 60 = .ok (.invokevirtual 71, 3) := by decide +kernel
theorem dX9_bestWait_63 : decode cX9_bestWait 63 = .ok (.iload_n 2, 1) := by decide +kernel
theorem dX9_bestWait_64 : decode cX9_bestWait 64 = .ok (.imul, 1) := by decide +kernel
theorem dX9_bestWait_65 : decode cX9_bestWait 65 = .ok (.invokevirtual 118, 3) := by decide +kernel
theorem dX9_bestWait_68 : decode cX9_bestWait 68 = .ok (.istore 7, 2) := by decide +kernel
theorem dX9_bestWait_70 : decode cX9_bestWait 70 = .ok (.iload 6, 2) := by decide +kernel
theorem dX9_bestWait_72 : decode cX9_bestWait 72 = .ok (.ifCond .eq 10, 3) := by decide +kernel
theorem dX9_bestWait_75 : decode cX9_bestWait 75 = .ok (.iload 7, 2) := by decide +kernel
theorem dX9_bestWait_77 : decode cX9_bestWait 77 = .ok (.iload 5, 2) := by decide +kernel
theorem dX9_bestWait_79 : decode cX9_bestWait 79 = .ok (.if_icmp .ge 11, 3) := by decide +kernel
theorem dX9_bestWait_82 : decode cX9_bestWait 82 = .ok (.iload 6, 2) := by decide +kernel
theorem dX9_bestWait_84 : decode cX9_bestWait 84 = .ok (.istore 4, 2) := by decide +kernel
theorem dX9_bestWait_86 : decode cX9_bestWait 86 = .ok (.iload 7, 2) := by decide +kernel
theorem dX9_bestWait_88 : decode cX9_bestWait 88 = .ok (.istore 5, 2) := by decide +kernel
theorem dX9_bestWait_90 : decode cX9_bestWait 90 = .ok (.iinc 6 1, 3) := by decide +kernel
theorem dX9_bestWait_93 : decode cX9_bestWait 93 = .ok (.goto (-60), 3) := by decide +kernel
theorem dX9_bestWait_96 : decode cX9_bestWait 96 = .ok (.iload 4, 2) := by decide +kernel
theorem dX9_bestWait_98 : decode cX9_bestWait 98 = .ok (.ireturn, 1) := by decide +kernel
def fX9_bestWait_J90 (y11 : Int32) (k33 : Int32 → Int32 → Int32 → bM → Option (Int32 × bM)) (y19 : Int32) (y20 : Int32) (v21 : bM) : Option (Int32 × bM) :=
  nm (y11 + 1) fun x22 => k33 y19 y20 x22 v21
def fX9_bestWait_J82 (y11 : Int32) (k33 : Int32 → Int32 → Int32 → bM → Option (Int32 × bM)) (r18 : Int32)  (v23 : bM) : Option (Int32 × bM) :=
  fX9_bestWait_J90 y11 k33 y11 r18 v23
def fX9_bestWait_L33 (p1 : Int32) (p2 : Int32) (x8 : Int32) (k33 : Int32 → Int32 → Int32 → bM → Option (Int32 × bM)) (y9 : Int32) (y10 : Int32) (y11 : Int32) (v12 : bM) : Option (Int32 × bM) :=
  (if 24 ≤ y11 then (some (y9, v12)) else (nm (if x8 < ((v12 (710 + (4 : Int32).toNatClampNeg)) + (60 * y11)) then ((v12 (710 + (4 : Int32).toNatClampNeg)) + (60 * y11)) else x8) fun x14 => bnr (fX9_bread p1 1 v12) fun r16 => bnr (fX9_costOfMinutes x14 (r16 * p2) v12) fun r18 => (if y11 = 0 then (fX9_bestWait_J82 y11 k33 r18 v12) else ((if y10 ≤ r18 then (fX9_bestWait_J90 y11 k33 y9 y10 v12) else (fX9_bestWait_J82 y11 k33 r18 v12))))))
def fX9_bestWait (p1 : Int32) (p2 : Int32) (v : bM) : Option (Int32 × bM) :=
  bnd (fX9_isPlan p1 p2 v) fun r3 w2 => (if r3 = 0 then (some (0, w2)) else (bnr (fX9_firstOven w2) fun r6 => ck (37 + r6) 496 <| nm (w2 (710 + (37 + r6).toNatClampNeg)) fun x8 => lp (fX9_bestWait_L33 p1 p2 x8) (fun _ _ _ _ => none) lpN 0 0 0 w2))
set_option maxRecDepth 100000 in
set_option maxHeartbeats 4000000 in
theorem mX9_bestWait {l : Launch} {p1 : Int32} {p2 : Int32} {v : bM} {r0 : Int32} {w0 : bM} (hf : fX9_bestWait p1 p2 v = some (r0, w0)) : bMet l yX9_bestWait cX9_bestWait 8 (some .int) 3 0 0 LMo (fun E a => [.ref a, .int p1, .int p2]) v w0 (fun _ => some (.int r0)) := by
  refine bk_start (by decide +kernel) wfMo (fun _ _ => Nat.le_of_ble_eq_true rfl) ?_
  intro p e s m args below meth c D E a ls H locs X hr hl hB
  have hx := X.1
  have hb := X.2.1
  have hown := X.2.2.2.1
  have hts := X.2.2.2.2.1
  have hl : lv_has ls 8 [(0, .ref a), (1, .int p1), (2, .int p2)] := hl
  have hf := (fX9_bestWait.eq_1 p1 p2 v).symm.trans hf
  refine lv_aload_n hx hb dX9_bestWait_0 rfl (lv_at hl 0 rfl) ?_
  refine lv_iload_n hx hb dX9_bestWait_1 rfl (lv_at hl 1 rfl) ?_
  refine lv_iload_n hx hb dX9_bestWait_2 rfl (lv_at hl 2 rfl) ?_
  obtain ⟨r3, w2, hc1, hf⟩ := bnd_some hf
  refine bk_all hB (fun h1 h2 h3 => bk_runV X (Av := [.int p1, .int p2]) (rest := []) (mX9_isPlan hc1) yv_X9_isPlan wm_2144 ⟨Nat.le_of_ble_eq_true rfl, Nat.le_of_ble_eq_true rfl⟩ rfl rfl hl.1 kl_X9.1 (hB.1.obj lc_Mo_0) h1 h2 h3 (Nat.le_of_ble_eq_true rfl) ⟨Nat.le_of_ble_eq_true rfl, Nat.le_of_ble_eq_true rfl⟩ dX9_bestWait_3) (fun H locs hB => ?_)
  refine W.eq (g2 := F0 m 6 ls [.int r3]) rfl ?_
  refine lv_if_ne (tgt := 11) hx hb dX9_bestWait_6 (by decide) (fun c4 => ?_) (fun c4 => ?_)
  · have hf := (if_neg c4).symm.trans hf
    refine lv_aload_n hx hb dX9_bestWait_11 rfl (lv_at hl 0 rfl) ?_
    refine bk_getR X hB kl_X9 0 lc_Mo_0 5 (by decide) rfl wm_1868 dX9_bestWait_12 ?_
    refine lv_bipush (v := 37) hx hb dX9_bestWait_15 (by decide) ?_
    refine lv_aload_n hx hb dX9_bestWait_17 rfl (lv_at hl 0 rfl) ?_
    obtain ⟨r6, hc5, hf⟩ := bnr_some hf
    refine bk_all hB (fun h1 h2 h3 => bk_runV X (Av := []) (rest := [.int 37, .ref (a + 2)]) (mX9_firstOven hc5) yv_X9_firstOven wm_1834 ⟨Nat.le_of_ble_eq_true rfl, Nat.le_of_ble_eq_true rfl⟩ rfl rfl hl.1 kl_X9.1 (hB.1.obj lc_Mo_0) h1 h2 h3 (Nat.le_of_ble_eq_true rfl) ⟨Nat.le_of_ble_eq_true rfl, Nat.le_of_ble_eq_true rfl⟩ dX9_bestWait_18) (fun H locs hB => ?_)
    refine W.eq (g2 := F0 m 21 ls [.int r6, .int 37, .ref (a + 2)]) rfl ?_
    refine lv_iadd hx hb dX9_bestWait_21 ?_
    obtain ⟨h7, hf⟩ := ck_some hf
    refine bk_ald X hB 2 lc_Mo_2 h7 dX9_bestWait_22 ?_
    refine lv_topi (fun x8 ex8 => ?_)
    have hf := nm_use hf ex8
    refine lv_istore_n (lv' := [(3, .int x8), (0, .ref a), (1, .int p1), (2, .int p2)]) hx hb dX9_bestWait_23 rfl hl (by decide) rfl (fun ls hl => ?_)
    refine lv_iconst (v := 0) hx hb dX9_bestWait_24 (by decide) ?_
    refine lv_istore (lv' := [(4, .int 0), (3, .int x8), (0, .ref a), (1, .int p1), (2, .int p2)]) hx hb dX9_bestWait_25 hl (by decide) rfl (fun ls hl => ?_)
    refine lv_iconst (v := 0) hx hb dX9_bestWait_27 (by decide) ?_
    refine lv_istore (lv' := [(5, .int 0), (4, .int 0), (3, .int x8), (0, .ref a), (1, .int p1), (2, .int p2)]) hx hb dX9_bestWait_28 hl (by decide) rfl (fun ls hl => ?_)
    refine lv_iconst (v := 0) hx hb dX9_bestWait_30 (by decide) ?_
    refine lv_istore (lv' := [(6, .int 0), (5, .int 0), (4, .int 0), (3, .int x8), (0, .ref a), (1, .int p1), (2, .int p2)]) hx hb dX9_bestWait_31 hl (by decide) rfl (fun ls hl => ?_)
    have hL33 : ∀ (n33 : Nat) (y9 y10 y11 : Int32) (v12 : bM) (H : Heap) (locs : List Loc) (ls : Array Slot), lp (fX9_bestWait_L33 p1 p2 x8) (fun _ _ _ _ => none) n33 y9 y10 y11 v12 = some (r0, w0) → bB D E LMo a v12 s H locs → lv_has ls 8 [(0, .ref a), (1, .int p1), (2, .int p2), (3, .int x8), (4, .int y9), (5, .int y10), (6, .int y11)] → W p l e (rmOf 3 0 0) s m args below meth c H locs 0 0 (bQ below D E LMo a w0 (some (.int r0)) args s 0 0) (F0 m 33 ls []) := by
      intro n33
      induction n33 with
      | zero => intro y9 y10 y11 v12 H locs ls hf; cases (show (none : Option (Int32 × bM)) = some (r0, w0) from hf)
      | succ n33 ih33 =>
        intro y9 y10 y11 v12 H locs ls hf hB hl
        have hf := (fX9_bestWait_L33.eq_1 p1 p2 x8 (lp (fX9_bestWait_L33 p1 p2 x8) (fun _ _ _ _ => none) n33) y9 y10 y11 v12).symm.trans (show fX9_bestWait_L33 p1 p2 x8 (lp (fX9_bestWait_L33 p1 p2 x8) (fun _ _ _ _ => none) n33) y9 y10 y11 v12 = some (r0, w0) from hf)
        refine lv_iload hx hb dX9_bestWait_33 (lv_at hl 6 rfl) ?_
        refine lv_bipush (v := 24) hx hb dX9_bestWait_35 (by decide) ?_
        refine lv_icmp_ge (tgt := 96) hx hb dX9_bestWait_37 (by decide) (fun c13 => ?_) (fun c13 => ?_)
        · have hf := (if_pos c13).symm.trans hf
          refine lv_iload hx hb dX9_bestWait_96 (lv_at hl 4 rfl) ?_
          exact bk_iW X hr rfl hf hB (Nat.le_of_ble_eq_true rfl) (Nat.le_of_ble_eq_true rfl) dX9_bestWait_98
        · have hf := (if_neg c13).symm.trans hf
          refine lv_aload_n hx hb dX9_bestWait_40 rfl (lv_at hl 0 rfl) ?_
          refine lv_iload_n hx hb dX9_bestWait_41 rfl (lv_at hl 3 rfl) ?_
          refine lv_aload_n hx hb dX9_bestWait_42 rfl (lv_at hl 0 rfl) ?_
          refine bk_getR X hB kl_X9 0 lc_Mo_0 5 (by decide) rfl wm_1868 dX9_bestWait_43 ?_
          refine lv_iconst (v := 4) hx hb dX9_bestWait_46 (by decide) ?_
          refine bk_ald X hB 2 lc_Mo_2 (vp_c 4 496 rfl) dX9_bestWait_47 ?_
          refine lv_bipush (v := 60) hx hb dX9_bestWait_48 (by decide) ?_
          refine lv_iload hx hb dX9_bestWait_50 (lv_at hl 6 rfl) ?_
          refine lv_imul hx hb dX9_bestWait_52 ?_
          refine lv_iadd hx hb dX9_bestWait_53 ?_
          refine bk_max X hl.1 wm_1838 ⟨Nat.le_of_ble_eq_true rfl, Nat.le_of_ble_eq_true rfl⟩ ⟨Nat.le_of_ble_eq_true rfl, Nat.le_of_ble_eq_true rfl⟩ dX9_bestWait_54 ?_
          refine lv_topi (fun x14 ex14 => ?_)
          have hf := nm_use hf ex14
          refine lv_aload_n hx hb dX9_bestWait_57 rfl (lv_at hl 0 rfl) ?_
          refine lv_iload_n hx hb dX9_bestWait_58 rfl (lv_at hl 1 rfl) ?_
          refine lv_iconst (v := 1) hx hb dX9_bestWait_59 (by decide) ?_
          obtain ⟨r16, hc15, hf⟩ := bnr_some hf
          refine bk_all hB (fun h1 h2 h3 => bk_runV X (Av := [.int p1, .int 1]) (rest := [.int x14, .ref a]) (mX9_bread hc15) yv_X9_bread wm_1774 ⟨Nat.le_of_ble_eq_true rfl, Nat.le_of_ble_eq_true rfl⟩ rfl rfl hl.1 kl_X9.1 (hB.1.obj lc_Mo_0) h1 h2 h3 (Nat.le_of_ble_eq_true rfl) ⟨Nat.le_of_ble_eq_true rfl, Nat.le_of_ble_eq_true rfl⟩ dX9_bestWait_60) (fun H locs hB => ?_)
          refine W.eq (g2 := F0 m 63 ls [.int r16, .int x14, .ref a]) rfl ?_
          refine lv_iload_n hx hb dX9_bestWait_63 rfl (lv_at hl 2 rfl) ?_
          refine lv_imul hx hb dX9_bestWait_64 ?_
          obtain ⟨r18, hc17, hf⟩ := bnr_some hf
          refine bk_all hB (fun h1 h2 h3 => bk_runV X (Av := [.int x14, .int (r16 * p2)]) (rest := []) (mX9_costOfMinutes hc17) yv_X9_costOfMinutes wm_1839 ⟨Nat.le_of_ble_eq_true rfl, Nat.le_of_ble_eq_true rfl⟩ rfl rfl hl.1 kl_X9.1 (hB.1.obj lc_Mo_0) h1 h2 h3 (Nat.le_of_ble_eq_true rfl) ⟨Nat.le_of_ble_eq_true rfl, Nat.le_of_ble_eq_true rfl⟩ dX9_bestWait_65) (fun H locs hB => ?_)
          refine W.eq (g2 := F0 m 68 ls [.int r18]) rfl ?_
          refine lv_istore (lv' := [(7, .int r18), (0, .ref a), (1, .int p1), (2, .int p2), (3, .int x8), (4, .int y9), (5, .int y10), (6, .int y11)]) hx hb dX9_bestWait_68 hl (by decide) rfl (fun ls hl => ?_)
          refine lv_iload hx hb dX9_bestWait_70 (lv_at hl 7 rfl) ?_
          have hJ90 : ∀ (y19 y20 : Int32) (v21 : bM) (H : Heap) (locs : List Loc) (ls : Array Slot), fX9_bestWait_J90 y11 (lp (fX9_bestWait_L33 p1 p2 x8) (fun _ _ _ _ => none) n33) y19 y20 v21 = some (r0, w0) → bB D E LMo a v21 s H locs → lv_has ls 8 [(0, .ref a), (1, .int p1), (2, .int p2), (3, .int x8), (4, .int y19), (5, .int y20), (6, .int y11)] → W p l e (rmOf 3 0 0) s m args below meth c H locs 0 0 (bQ below D E LMo a w0 (some (.int r0)) args s 0 0) (F0 m 90 ls []) := by
            intro y19 y20 v21 H locs ls hf hB hl
            have hf := (fX9_bestWait_J90.eq_1 y11 (lp (fX9_bestWait_L33 p1 p2 x8) (fun _ _ _ _ => none) n33) y19 y20 v21).symm.trans hf
            obtain ⟨x22, ex22⟩ : ∃ y : Int32, y = y11 + 1 := ⟨_, rfl⟩
            have hf := nm_use hf ex22
            refine lv_iinc (v := x22) (lv' := [(6, .int x22), (0, .ref a), (1, .int p1), (2, .int p2), (3, .int x8), (4, .int y19), (5, .int y20)]) hx hb dX9_bestWait_90 hl (k := 6) rfl (by rw [ex22]; rfl) (by decide) rfl (fun ls hl => ?_)
            refine lv_goto (tgt := 33) hx hb dX9_bestWait_93 (by decide) ?_
            exact ih33 y19 y20 x22 v21 H locs ls hf hB (lv_sub hl [1, 2, 3, 4, 5, 6, 0] rfl)
          have hJ82 : ∀ (v23 : bM) (H : Heap) (locs : List Loc) (ls : Array Slot), fX9_bestWait_J82 y11 (lp (fX9_bestWait_L33 p1 p2 x8) (fun _ _ _ _ => none) n33) r18 v23 = some (r0, w0) → bB D E LMo a v23 s H locs → lv_has ls 8 [(0, .ref a), (1, .int p1), (2, .int p2), (3, .int x8), (6, .int y11), (7, .int r18)] → W p l e (rmOf 3 0 0) s m args below meth c H locs 0 0 (bQ below D E LMo a w0 (some (.int r0)) args s 0 0) (F0 m 82 ls []) := by
            intro v23 H locs ls hf hB hl
            have hf := (fX9_bestWait_J82.eq_1 y11 (lp (fX9_bestWait_L33 p1 p2 x8) (fun _ _ _ _ => none) n33) r18 v23).symm.trans hf
            refine lv_iload hx hb dX9_bestWait_82 (lv_at hl 4 rfl) ?_
            refine lv_istore (lv' := [(4, .int y11), (0, .ref a), (1, .int p1), (2, .int p2), (3, .int x8), (6, .int y11), (7, .int r18)]) hx hb dX9_bestWait_84 hl (by decide) rfl (fun ls hl => ?_)
            refine lv_iload hx hb dX9_bestWait_86 (lv_at hl 6 rfl) ?_
            refine lv_istore (lv' := [(5, .int r18), (4, .int y11), (0, .ref a), (1, .int p1), (2, .int p2), (3, .int x8), (6, .int y11), (7, .int r18)]) hx hb dX9_bestWait_88 hl (by decide) rfl (fun ls hl => ?_)
            exact hJ90 y11 r18 v23 H locs ls hf hB (lv_sub hl [2, 3, 4, 5, 1, 0, 6] rfl)
          refine lv_if_eq (tgt := 82) hx hb dX9_bestWait_72 (by decide) (fun c24 => ?_) (fun c24 => ?_)
          · have hf := (if_pos c24).symm.trans hf
            exact hJ82 v12 H locs ls hf hB (lv_sub hl [1, 2, 3, 4, 7, 0] rfl)
          · have hf := (if_neg c24).symm.trans hf
            refine lv_iload hx hb dX9_bestWait_75 (lv_at hl 0 rfl) ?_
            refine lv_iload hx hb dX9_bestWait_77 (lv_at hl 6 rfl) ?_
            refine lv_icmp_ge (tgt := 90) hx hb dX9_bestWait_79 (by decide) (fun c25 => ?_) (fun c25 => ?_)
            · have hf := (if_pos c25).symm.trans hf
              exact hJ90 y9 y10 v12 H locs ls hf hB (lv_sub hl [1, 2, 3, 4, 5, 6, 7] rfl)
            · have hf := (if_neg c25).symm.trans hf
              exact hJ82 v12 H locs ls hf hB (lv_sub hl [1, 2, 3, 4, 7, 0] rfl)
    exact hL33 lpN 0 0 0 w2 H locs ls hf hB (lv_sub hl [4, 5, 6, 3, 2, 1, 0] rfl)
  · have hf := (if_pos c4).symm.trans hf
    refine lv_iconst (v := 0) hx hb dX9_bestWait_9 (by decide) ?_
    exact bk_iW X hr rfl hf hB (Nat.le_of_ble_eq_true rfl) (Nat.le_of_ble_eq_true rfl) dX9_bestWait_10
theorem yv_X9_bestWait : bYv yX9_bestWait RX9 cX9_bestWait 8 (some .int) 2 := ⟨⟨rfl, by decide, by decide, rfl⟩, wm_2153, wm_2154, wm_17, wm_2155⟩

theorem dX9_income_0 : decode cX9_income 0 = .ok (.aload_n 0, 1) := by decide +kernel
theorem dX9_income_1 : decode cX9_income 1 = .ok (.aload_n 0, 1) := by decide +kernel
theorem dX9_income_2 : decode cX9_income 2 = .ok (.getfield 17, 3) := by decide +kernel
theorem dX9_income_5 : decode cX9_income 5 = .ok (.bipush 8, 2) := by decide +kernel
theorem dX9_income_7 : decode cX9_income 7 = .ok (.iaload, 1) := by decide +kernel
theorem dX9_income_8 : decode cX9_income 8 = .ok (.invokevirtual 294, 3) := by decide +kernel
theorem dX9_income_11 : decode cX9_income 11 = .ok (.ireturn, 1) := by decide +kernel
def fX9_income  (v : bM) : Option (Int32 × bM) :=
  bnd (fX9_plain (v (710 + (8 : Int32).toNatClampNeg)) v) fun r3 w2 => some (r3, w2)
set_option maxRecDepth 100000 in
set_option maxHeartbeats 4000000 in
theorem mX9_income {l : Launch}  {v : bM} {r0 : Int32} {w0 : bM} (hf : fX9_income  v = some (r0, w0)) : bMet l yX9_income cX9_income 1 (some .int) 1 0 0 LMo (fun E a => [.ref a]) v w0 (fun _ => some (.int r0)) := by
  refine bk_start (by decide +kernel) wfMo (fun _ _ => Nat.le_of_ble_eq_true rfl) ?_
  intro p e s m args below meth c D E a ls H locs X hr hl hB
  have hx := X.1
  have hb := X.2.1
  have hown := X.2.2.2.1
  have hts := X.2.2.2.2.1
  have hl : lv_has ls 1 [(0, .ref a)] := hl
  have hf := (fX9_income.eq_1  v).symm.trans hf
  refine lv_aload_n hx hb dX9_income_0 rfl (lv_at hl 0 rfl) ?_
  refine lv_aload_n hx hb dX9_income_1 rfl (lv_at hl 0 rfl) ?_
  refine bk_getR X hB kl_X9 0 lc_Mo_0 5 (by decide) rfl wm_1868 dX9_income_2 ?_
  refine lv_bipush (v := 8) hx hb dX9_income_5 (by decide) ?_
  refine bk_ald X hB 2 lc_Mo_2 (vp_c 8 496 rfl) dX9_income_7 ?_
  obtain ⟨r3, w2, hc1, hf⟩ := bnd_some hf
  refine bk_all hB (fun h1 h2 h3 => bk_runV X (Av := [.int (v (710 + (8 : Int32).toNatClampNeg))]) (rest := []) (mX9_plain hc1) yv_X9_plain wm_1945 ⟨Nat.le_of_ble_eq_true rfl, Nat.le_of_ble_eq_true rfl⟩ rfl rfl hl.1 kl_X9.1 (hB.1.obj lc_Mo_0) h1 h2 h3 (Nat.le_of_ble_eq_true rfl) ⟨Nat.le_of_ble_eq_true rfl, Nat.le_of_ble_eq_true rfl⟩ dX9_income_8) (fun H locs hB => ?_)
  refine W.eq (g2 := F0 m 11 ls [.int r3]) rfl ?_
  exact bk_iW X hr rfl hf hB (Nat.le_of_ble_eq_true rfl) (Nat.le_of_ble_eq_true rfl) dX9_income_11
theorem yv_X9_income : bYv yX9_income RX9 cX9_income 1 (some .int) 0 := ⟨⟨rfl, by decide, by decide, rfl⟩, wm_2157, wm_2158, wm_17, wm_2159⟩

theorem dX9_spentOnFlour_0 : decode cX9_spentOnFlour 0 = .ok (.aload_n 0, 1) := by decide +kernel
theorem dX9_spentOnFlour_1 : decode cX9_spentOnFlour 1 = .ok (.aload_n 0, 1) := by decide +kernel
theorem dX9_spentOnFlour_2 : decode cX9_spentOnFlour 2 = .ok (.getfield 17, 3) := by decide +kernel
theorem dX9_spentOnFlour_5 : decode cX9_spentOnFlour 5 = .ok (.bipush 9, 2) := by decide +kernel
theorem dX9_spentOnFlour_7 : decode cX9_spentOnFlour 7 = .ok (.iaload, 1) := by decide +kernel
theorem dX9_spentOnFlour_8 : decode cX9_spentOnFlour 8 = .ok (.invokevirtual 294, 3) := by decide +kernel
theorem dX9_spentOnFlour_11 : decode cX9_spentOnFlour 11 = .ok (.ireturn, 1) := by decide +kernel
def fX9_spentOnFlour  (v : bM) : Option (Int32 × bM) :=
  bnd (fX9_plain (v (710 + (9 : Int32).toNatClampNeg)) v) fun r3 w2 => some (r3, w2)
set_option maxRecDepth 100000 in
set_option maxHeartbeats 4000000 in
theorem mX9_spentOnFlour {l : Launch}  {v : bM} {r0 : Int32} {w0 : bM} (hf : fX9_spentOnFlour  v = some (r0, w0)) : bMet l yX9_spentOnFlour cX9_spentOnFlour 1 (some .int) 1 0 0 LMo (fun E a => [.ref a]) v w0 (fun _ => some (.int r0)) := by
  refine bk_start (by decide +kernel) wfMo (fun _ _ => Nat.le_of_ble_eq_true rfl) ?_
  intro p e s m args below meth c D E a ls H locs X hr hl hB
  have hx := X.1
  have hb := X.2.1
  have hown := X.2.2.2.1
  have hts := X.2.2.2.2.1
  have hl : lv_has ls 1 [(0, .ref a)] := hl
  have hf := (fX9_spentOnFlour.eq_1  v).symm.trans hf
  refine lv_aload_n hx hb dX9_spentOnFlour_0 rfl (lv_at hl 0 rfl) ?_
  refine lv_aload_n hx hb dX9_spentOnFlour_1 rfl (lv_at hl 0 rfl) ?_
  refine bk_getR X hB kl_X9 0 lc_Mo_0 5 (by decide) rfl wm_1868 dX9_spentOnFlour_2 ?_
  refine lv_bipush (v := 9) hx hb dX9_spentOnFlour_5 (by decide) ?_
  refine bk_ald X hB 2 lc_Mo_2 (vp_c 9 496 rfl) dX9_spentOnFlour_7 ?_
  obtain ⟨r3, w2, hc1, hf⟩ := bnd_some hf
  refine bk_all hB (fun h1 h2 h3 => bk_runV X (Av := [.int (v (710 + (9 : Int32).toNatClampNeg))]) (rest := []) (mX9_plain hc1) yv_X9_plain wm_1945 ⟨Nat.le_of_ble_eq_true rfl, Nat.le_of_ble_eq_true rfl⟩ rfl rfl hl.1 kl_X9.1 (hB.1.obj lc_Mo_0) h1 h2 h3 (Nat.le_of_ble_eq_true rfl) ⟨Nat.le_of_ble_eq_true rfl, Nat.le_of_ble_eq_true rfl⟩ dX9_spentOnFlour_8) (fun H locs hB => ?_)
  refine W.eq (g2 := F0 m 11 ls [.int r3]) rfl ?_
  exact bk_iW X hr rfl hf hB (Nat.le_of_ble_eq_true rfl) (Nat.le_of_ble_eq_true rfl) dX9_spentOnFlour_11
theorem yv_X9_spentOnFlour : bYv yX9_spentOnFlour RX9 cX9_spentOnFlour 1 (some .int) 0 := ⟨⟨rfl, by decide, by decide, rfl⟩, wm_2161, wm_2162, wm_17, wm_2163⟩

theorem dX9_spentOnOvens_0 : decode cX9_spentOnOvens 0 = .ok (.aload_n 0, 1) := by decide +kernel
theorem dX9_spentOnOvens_1 : decode cX9_spentOnOvens 1 = .ok (.aload_n 0, 1) := by decide +kernel
theorem dX9_spentOnOvens_2 : decode cX9_spentOnOvens 2 = .ok (.getfield 17, 3) := by decide +kernel
theorem dX9_spentOnOvens_5 : decode cX9_spentOnOvens 5 = .ok (.bipush 10, 2) := by decide +kernel
theorem dX9_spentOnOvens_7 : decode cX9_spentOnOvens 7 = .ok (.iaload, 1) := by decide +kernel
theorem dX9_spentOnOvens_8 : decode cX9_spentOnOvens 8 = .ok (.invokevirtual 294, 3) := by decide +kernel
theorem dX9_spentOnOvens_11 : decode cX9_spentOnOvens 11 = .ok (.ireturn, 1) := by decide +kernel
def fX9_spentOnOvens  (v : bM) : Option (Int32 × bM) :=
  bnd (fX9_plain (v (710 + (10 : Int32).toNatClampNeg)) v) fun r3 w2 => some (r3, w2)
set_option maxRecDepth 100000 in
set_option maxHeartbeats 4000000 in
theorem mX9_spentOnOvens {l : Launch}  {v : bM} {r0 : Int32} {w0 : bM} (hf : fX9_spentOnOvens  v = some (r0, w0)) : bMet l yX9_spentOnOvens cX9_spentOnOvens 1 (some .int) 1 0 0 LMo (fun E a => [.ref a]) v w0 (fun _ => some (.int r0)) := by
  refine bk_start (by decide +kernel) wfMo (fun _ _ => Nat.le_of_ble_eq_true rfl) ?_
  intro p e s m args below meth c D E a ls H locs X hr hl hB
  have hx := X.1
  have hb := X.2.1
  have hown := X.2.2.2.1
  have hts := X.2.2.2.2.1
  have hl : lv_has ls 1 [(0, .ref a)] := hl
  have hf := (fX9_spentOnOvens.eq_1  v).symm.trans hf
  refine lv_aload_n hx hb dX9_spentOnOvens_0 rfl (lv_at hl 0 rfl) ?_
  refine lv_aload_n hx hb dX9_spentOnOvens_1 rfl (lv_at hl 0 rfl) ?_
  refine bk_getR X hB kl_X9 0 lc_Mo_0 5 (by decide) rfl wm_1868 dX9_spentOnOvens_2 ?_
  refine lv_bipush (v := 10) hx hb dX9_spentOnOvens_5 (by decide) ?_
  refine bk_ald X hB 2 lc_Mo_2 (vp_c 10 496 rfl) dX9_spentOnOvens_7 ?_
  obtain ⟨r3, w2, hc1, hf⟩ := bnd_some hf
  refine bk_all hB (fun h1 h2 h3 => bk_runV X (Av := [.int (v (710 + (10 : Int32).toNatClampNeg))]) (rest := []) (mX9_plain hc1) yv_X9_plain wm_1945 ⟨Nat.le_of_ble_eq_true rfl, Nat.le_of_ble_eq_true rfl⟩ rfl rfl hl.1 kl_X9.1 (hB.1.obj lc_Mo_0) h1 h2 h3 (Nat.le_of_ble_eq_true rfl) ⟨Nat.le_of_ble_eq_true rfl, Nat.le_of_ble_eq_true rfl⟩ dX9_spentOnOvens_8) (fun H locs hB => ?_)
  refine W.eq (g2 := F0 m 11 ls [.int r3]) rfl ?_
  exact bk_iW X hr rfl hf hB (Nat.le_of_ble_eq_true rfl) (Nat.le_of_ble_eq_true rfl) dX9_spentOnOvens_11
theorem yv_X9_spentOnOvens : bYv yX9_spentOnOvens RX9 cX9_spentOnOvens 1 (some .int) 0 := ⟨⟨rfl, by decide, by decide, rfl⟩, wm_2165, wm_2166, wm_17, wm_2167⟩

theorem dX9_worthOfFlour_0 : decode cX9_worthOfFlour 0 = .ok (.iconst 0, 1) := by decide +kernel
theorem dX9_worthOfFlour_1 : decode cX9_worthOfFlour 1 = .ok (.istore_n 1, 1) := by decide +kernel
theorem dX9_worthOfFlour_2 : decode cX9_worthOfFlour 2 = .ok (.iconst 0, 1) := by decide +kernel
theorem dX9_worthOfFlour_3 : decode cX9_worthOfFlour 3 = .ok (.istore_n 2, 1) := by decide +kernel
theorem dX9_worthOfFlour_4 : decode cX9_worthOfFlour 4 = .ok (.iload_n 2, 1) := by decide +kernel
theorem dX9_worthOfFlour_5 : decode cX9_worthOfFlour 5 = .ok (.aload_n 0, 1) := by decide +kernel
theorem dX9_worthOfFlour_6 : decode cX9_worthOfFlour 6 = .ok (.getfield 17, 3) := by decide +kernel
theorem dX9_worthOfFlour_9 : decode cX9_worthOfFlour 9 = .ok (.iconst 5, 1) := by decide +kernel
theorem dX9_worthOfFlour_10 : decode cX9_worthOfFlour 10 = .ok (.iaload, 1) := by decide +kernel
theorem dX9_worthOfFlour_11 : decode cX9_worthOfFlour 11 = .ok (.if_icmp .ge 45, 3) := by decide +kernel
theorem dX9_worthOfFlour_14 : decode cX9_worthOfFlour 14 = .ok (.iconst 0, 1) := by decide +kernel
theorem dX9_worthOfFlour_15 : decode cX9_worthOfFlour 15 = .ok (.istore_n 3, 1) := by decide +kernel
theorem dX9_worthOfFlour_16 : decode cX9_worthOfFlour 16 = .ok (.iload_n 3, 1) := by decide +kernel
theorem dX9_worthOfFlour_17 : decode cX9_worthOfFlour 17 = .ok (.aload_n 0, 1) := by decide +kernel
theorem dX9_worthOfFlour_18 : decode cX9_worthOfFlour 18 = .ok (.iload_n 2, 1) := by decide +kernel
theorem dX9_worthOfFlour_19 : decode cX9_worthOfFlour 19 = .ok (.iconst 1, 1) := by decide +kernel
theorem dX9_worthOfFlour_20 : decode cX9_worthOfFlour 20 = .ok (.invokevirtual 63, 3) := by decide +kernel
theorem dX9_worthOfFlour_23 : decode cX9_worthOfFlour 23 = .ok (.if_icmp .ge 27, 3) := by decide +kernel
theorem dX9_worthOfFlour_26 : decode cX9_worthOfFlour 26 = .ok (.iload_n 1, 1) := by decide +kernel
theorem dX9_worthOfFlour_27 : decode cX9_worthOfFlour 27 = .ok (.aload_n 0, 1) := by decide +kernel
theorem dX9_worthOfFlour_28 : decode cX9_worthOfFlour 28 = .ok (.iload_n 2, 1) := by decide +kernel
theorem dX9_worthOfFlour_29 : decode cX9_worthOfFlour 29 = .ok (.iload_n 3, 1) := by decide +kernel
theorem dX9_worthOfFlour_30 : decode cX9_worthOfFlour 30 = .ok (.iconst 0, 1) := by decide +kernel
theorem dX9_worthOfFlour_31 : decode cX9_worthOfFlour 31 = .ok (.invokevirtual 67, 3) := by decide +kernel
theorem dX9_worthOfFlour_34 : decode cX9_worthOfFlour 34 = .ok (.aload_n 0, 1) := by decide +kernel
theorem dX9_worthOfFlour_35 : decode cX9_worthOfFlour 35 = .ok (.iload_n 2, 1) := by decide +kernel
theorem dX9_worthOfFlour_36 : decode cX9_worthOfFlour 36 = .ok (.iload_n 3, 1) := by decide +kernel
theorem dX9_worthOfFlour_37 : decode cX9_worthOfFlour 37 = .ok (.iconst 1, 1) := by decide +kernel
theorem dX9_worthOfFlour_38 : decode cX9_worthOfFlour 38 = .ok (.invokevirtual 67, 3) := by decide +kernel
theorem dX9_worthOfFlour_41 : decode cX9_worthOfFlour 41 = .ok (.imul, 1) := by decide +kernel
theorem dX9_worthOfFlour_42 : decode cX9_worthOfFlour 42 = .ok (.iadd, 1) := by decide +kernel
theorem dX9_worthOfFlour_43 : decode cX9_worthOfFlour 43 = .ok (.istore_n 1, 1) := by decide +kernel
theorem dX9_worthOfFlour_44 : decode cX9_worthOfFlour 44 = .ok (.iinc 3 1, 3) := by decide +kernel
theorem dX9_worthOfFlour_47 : decode cX9_worthOfFlour 47 = .ok (.goto (-31), 3) := by decide +kernel
theorem dX9_worthOfFlour_50 : decode cX9_worthOfFlour 50 = .ok (.iinc 2 1, 3) := by decide +kernel
theorem dX9_worthOfFlour_53 : decode cX9_worthOfFlour 53 = .ok (.goto (-49), 3) := by decide +kernel
theorem dX9_worthOfFlour_56 : decode cX9_worthOfFlour 56 = .ok (.iload_n 1, 1) := by decide +kernel
theorem dX9_worthOfFlour_57 : decode cX9_worthOfFlour 57 = .ok (.ireturn, 1) := by decide +kernel
def fX9_worthOfFlour_L16 (v : bM) (y2 : Int32) (k4 : Int32 → Int32 → Option Int32) (k16 : Int32 → Int32 → Option Int32) (y4 : Int32) (y5 : Int32) : Option Int32 :=
  bnr (fX9_flour y2 1 v) fun r7 => (if r7 ≤ y5 then (nm (y2 + 1) fun x9 => k4 y4 x9) else (bnr (fX9_lot y2 y5 0 v) fun r11 => bnr (fX9_lot y2 y5 1 v) fun r13 => nm (y4 + (r11 * r13)) fun x14 => nm (y5 + 1) fun x15 => k16 x14 x15))
def fX9_worthOfFlour_L4 (v : bM) (k4 : Int32 → Int32 → Option Int32) (y1 : Int32) (y2 : Int32) : Option Int32 :=
  (if (v (710 + (5 : Int32).toNatClampNeg)) ≤ y2 then (some (y1)) else (lp (fX9_worthOfFlour_L16 v y2 k4) (fun _ _ => none) lpN y1 0))
def fX9_worthOfFlour  (v : bM) : Option Int32 :=
  lp (fX9_worthOfFlour_L4 v) (fun _ _ => none) lpN 0 0
set_option maxRecDepth 100000 in
set_option maxHeartbeats 4000000 in
theorem mX9_worthOfFlour {l : Launch}  {v : bM} {r0 : Int32} (hf : fX9_worthOfFlour  v = some r0) : bMet l yX9_worthOfFlour cX9_worthOfFlour 4 (some .int) 1 0 0 LMo (fun E a => [.ref a]) v v (fun _ => some (.int r0)) := by
  refine bk_start (by decide +kernel) wfMo (fun _ _ => Nat.le_of_ble_eq_true rfl) ?_
  intro p e s m args below meth c D E a ls H locs X hr hl hB
  have hx := X.1
  have hb := X.2.1
  have hown := X.2.2.2.1
  have hts := X.2.2.2.2.1
  have hl : lv_has ls 4 [(0, .ref a)] := hl
  have hf := (fX9_worthOfFlour.eq_1  v).symm.trans hf
  refine lv_iconst (v := 0) hx hb dX9_worthOfFlour_0 (by decide) ?_
  refine lv_istore_n (lv' := [(1, .int 0), (0, .ref a)]) hx hb dX9_worthOfFlour_1 rfl hl (by decide) rfl (fun ls hl => ?_)
  refine lv_iconst (v := 0) hx hb dX9_worthOfFlour_2 (by decide) ?_
  refine lv_istore_n (lv' := [(2, .int 0), (1, .int 0), (0, .ref a)]) hx hb dX9_worthOfFlour_3 rfl hl (by decide) rfl (fun ls hl => ?_)
  have hL4 : ∀ (n4 : Nat) (y1 y2 : Int32) (H : Heap) (locs : List Loc) (ls : Array Slot), lp (fX9_worthOfFlour_L4 v) (fun _ _ => none) n4 y1 y2 = some r0 → bB D E LMo a v s H locs → lv_has ls 4 [(0, .ref a), (1, .int y1), (2, .int y2)] → W p l e (rmOf 1 0 0) s m args below meth c H locs 0 0 (bQ below D E LMo a v (some (.int r0)) args s 0 0) (F0 m 4 ls []) := by
    intro n4
    induction n4 with
    | zero => intro y1 y2 H locs ls hf; cases (show (none : Option Int32) = some r0 from hf)
    | succ n4 ih4 =>
      intro y1 y2 H locs ls hf hB hl
      have hf := (fX9_worthOfFlour_L4.eq_1 v (lp (fX9_worthOfFlour_L4 v) (fun _ _ => none) n4) y1 y2).symm.trans (show fX9_worthOfFlour_L4 v (lp (fX9_worthOfFlour_L4 v) (fun _ _ => none) n4) y1 y2 = some r0 from hf)
      refine lv_iload_n hx hb dX9_worthOfFlour_4 rfl (lv_at hl 2 rfl) ?_
      refine lv_aload_n hx hb dX9_worthOfFlour_5 rfl (lv_at hl 0 rfl) ?_
      refine bk_getR X hB kl_X9 0 lc_Mo_0 5 (by decide) rfl wm_1868 dX9_worthOfFlour_6 ?_
      refine lv_iconst (v := 5) hx hb dX9_worthOfFlour_9 (by decide) ?_
      refine bk_ald X hB 2 lc_Mo_2 (vp_c 5 496 rfl) dX9_worthOfFlour_10 ?_
      refine lv_icmp_ge (tgt := 56) hx hb dX9_worthOfFlour_11 (by decide) (fun c3 => ?_) (fun c3 => ?_)
      · have hf := (if_pos c3).symm.trans hf
        refine lv_iload_n hx hb dX9_worthOfFlour_56 rfl (lv_at hl 1 rfl) ?_
        exact bk_iR X hr rfl hf hB (Nat.le_of_ble_eq_true rfl) (Nat.le_of_ble_eq_true rfl) dX9_worthOfFlour_57
      · have hf := (if_neg c3).symm.trans hf
        refine lv_iconst (v := 0) hx hb dX9_worthOfFlour_14 (by decide) ?_
        refine lv_istore_n (lv' := [(3, .int 0), (0, .ref a), (1, .int y1), (2, .int y2)]) hx hb dX9_worthOfFlour_15 rfl hl (by decide) rfl (fun ls hl => ?_)
        have hL16 : ∀ (n16 : Nat) (y4 y5 : Int32) (H : Heap) (locs : List Loc) (ls : Array Slot), lp (fX9_worthOfFlour_L16 v y2 (lp (fX9_worthOfFlour_L4 v) (fun _ _ => none) n4)) (fun _ _ => none) n16 y4 y5 = some r0 → bB D E LMo a v s H locs → lv_has ls 4 [(0, .ref a), (1, .int y4), (2, .int y2), (3, .int y5)] → W p l e (rmOf 1 0 0) s m args below meth c H locs 0 0 (bQ below D E LMo a v (some (.int r0)) args s 0 0) (F0 m 16 ls []) := by
          intro n16
          induction n16 with
          | zero => intro y4 y5 H locs ls hf; cases (show (none : Option Int32) = some r0 from hf)
          | succ n16 ih16 =>
            intro y4 y5 H locs ls hf hB hl
            have hf := (fX9_worthOfFlour_L16.eq_1 v y2 (lp (fX9_worthOfFlour_L4 v) (fun _ _ => none) n4) (lp (fX9_worthOfFlour_L16 v y2 (lp (fX9_worthOfFlour_L4 v) (fun _ _ => none) n4)) (fun _ _ => none) n16) y4 y5).symm.trans (show fX9_worthOfFlour_L16 v y2 (lp (fX9_worthOfFlour_L4 v) (fun _ _ => none) n4) (lp (fX9_worthOfFlour_L16 v y2 (lp (fX9_worthOfFlour_L4 v) (fun _ _ => none) n4)) (fun _ _ => none) n16) y4 y5 = some r0 from hf)
            refine lv_iload_n hx hb dX9_worthOfFlour_16 rfl (lv_at hl 3 rfl) ?_
            refine lv_aload_n hx hb dX9_worthOfFlour_17 rfl (lv_at hl 0 rfl) ?_
            refine lv_iload_n hx hb dX9_worthOfFlour_18 rfl (lv_at hl 2 rfl) ?_
            refine lv_iconst (v := 1) hx hb dX9_worthOfFlour_19 (by decide) ?_
            obtain ⟨r7, hc6, hf⟩ := bnr_some hf
            refine bk_all hB (fun h1 h2 h3 => bk_runV X (Av := [.int y2, .int 1]) (rest := [.int y5]) (mX9_flour hc6) yv_X9_flour wm_1758 ⟨Nat.le_of_ble_eq_true rfl, Nat.le_of_ble_eq_true rfl⟩ rfl rfl hl.1 kl_X9.1 (hB.1.obj lc_Mo_0) h1 h2 h3 (Nat.le_of_ble_eq_true rfl) ⟨Nat.le_of_ble_eq_true rfl, Nat.le_of_ble_eq_true rfl⟩ dX9_worthOfFlour_20) (fun H locs hB => ?_)
            refine W.eq (g2 := F0 m 23 ls [.int r7, .int y5]) rfl ?_
            refine lv_icmp_ge (tgt := 50) hx hb dX9_worthOfFlour_23 (by decide) (fun c8 => ?_) (fun c8 => ?_)
            · have hf := (if_pos c8).symm.trans hf
              obtain ⟨x9, ex9⟩ : ∃ y : Int32, y = y2 + 1 := ⟨_, rfl⟩
              have hf := nm_use hf ex9
              refine lv_iinc (v := x9) (lv' := [(2, .int x9), (0, .ref a), (1, .int y4), (3, .int y5)]) hx hb dX9_worthOfFlour_50 hl (k := 2) rfl (by rw [ex9]; rfl) (by decide) rfl (fun ls hl => ?_)
              refine lv_goto (tgt := 4) hx hb dX9_worthOfFlour_53 (by decide) ?_
              exact ih4 y4 x9 H locs ls hf hB (lv_sub hl [1, 2, 0] rfl)
            · have hf := (if_neg c8).symm.trans hf
              refine lv_iload_n hx hb dX9_worthOfFlour_26 rfl (lv_at hl 1 rfl) ?_
              refine lv_aload_n hx hb dX9_worthOfFlour_27 rfl (lv_at hl 0 rfl) ?_
              refine lv_iload_n hx hb dX9_worthOfFlour_28 rfl (lv_at hl 2 rfl) ?_
              refine lv_iload_n hx hb dX9_worthOfFlour_29 rfl (lv_at hl 3 rfl) ?_
              refine lv_iconst (v := 0) hx hb dX9_worthOfFlour_30 (by decide) ?_
              obtain ⟨r11, hc10, hf⟩ := bnr_some hf
              refine bk_all hB (fun h1 h2 h3 => bk_runV X (Av := [.int y2, .int y5, .int 0]) (rest := [.int y4]) (mX9_lot hc10) yv_X9_lot wm_1786 ⟨Nat.le_of_ble_eq_true rfl, Nat.le_of_ble_eq_true rfl⟩ rfl rfl hl.1 kl_X9.1 (hB.1.obj lc_Mo_0) h1 h2 h3 (Nat.le_of_ble_eq_true rfl) ⟨Nat.le_of_ble_eq_true rfl, Nat.le_of_ble_eq_true rfl⟩ dX9_worthOfFlour_31) (fun H locs hB => ?_)
              refine W.eq (g2 := F0 m 34 ls [.int r11, .int y4]) rfl ?_
              refine lv_aload_n hx hb dX9_worthOfFlour_34 rfl (lv_at hl 0 rfl) ?_
              refine lv_iload_n hx hb dX9_worthOfFlour_35 rfl (lv_at hl 2 rfl) ?_
              refine lv_iload_n hx hb dX9_worthOfFlour_36 rfl (lv_at hl 3 rfl) ?_
              refine lv_iconst (v := 1) hx hb dX9_worthOfFlour_37 (by decide) ?_
              obtain ⟨r13, hc12, hf⟩ := bnr_some hf
              refine bk_all hB (fun h1 h2 h3 => bk_runV X (Av := [.int y2, .int y5, .int 1]) (rest := [.int r11, .int y4]) (mX9_lot hc12) yv_X9_lot wm_1786 ⟨Nat.le_of_ble_eq_true rfl, Nat.le_of_ble_eq_true rfl⟩ rfl rfl hl.1 kl_X9.1 (hB.1.obj lc_Mo_0) h1 h2 h3 (Nat.le_of_ble_eq_true rfl) ⟨Nat.le_of_ble_eq_true rfl, Nat.le_of_ble_eq_true rfl⟩ dX9_worthOfFlour_38) (fun H locs hB => ?_)
              refine W.eq (g2 := F0 m 41 ls [.int r13, .int r11, .int y4]) rfl ?_
              refine lv_imul hx hb dX9_worthOfFlour_41 ?_
              refine lv_iadd hx hb dX9_worthOfFlour_42 ?_
              refine lv_topi (fun x14 ex14 => ?_)
              have hf := nm_use hf ex14
              refine lv_istore_n (lv' := [(1, .int x14), (0, .ref a), (2, .int y2), (3, .int y5)]) hx hb dX9_worthOfFlour_43 rfl hl (by decide) rfl (fun ls hl => ?_)
              obtain ⟨x15, ex15⟩ : ∃ y : Int32, y = y5 + 1 := ⟨_, rfl⟩
              have hf := nm_use hf ex15
              refine lv_iinc (v := x15) (lv' := [(3, .int x15), (1, .int x14), (0, .ref a), (2, .int y2)]) hx hb dX9_worthOfFlour_44 hl (k := 3) rfl (by rw [ex15]; rfl) (by decide) rfl (fun ls hl => ?_)
              refine lv_goto (tgt := 16) hx hb dX9_worthOfFlour_47 (by decide) ?_
              exact ih16 x14 x15 H locs ls hf hB (lv_sub hl [2, 1, 3, 0] rfl)
        exact hL16 lpN y1 0 H locs ls hf hB (lv_sub hl [1, 2, 3, 0] rfl)
  exact hL4 lpN 0 0 H locs ls hf hB (lv_sub hl [2, 1, 0] rfl)
theorem yv_X9_worthOfFlour : bYv yX9_worthOfFlour RX9 cX9_worthOfFlour 4 (some .int) 0 := ⟨⟨rfl, by decide, by decide, rfl⟩, wm_2174, wp_87, wm_17, wm_2175⟩

theorem dX9_worthOfLoaves_0 : decode cX9_worthOfLoaves 0 = .ok (.iconst 0, 1) := by decide +kernel
theorem dX9_worthOfLoaves_1 : decode cX9_worthOfLoaves 1 = .ok (.istore_n 1, 1) := by decide +kernel
theorem dX9_worthOfLoaves_2 : decode cX9_worthOfLoaves 2 = .ok (.iconst 0, 1) := by decide +kernel
theorem dX9_worthOfLoaves_3 : decode cX9_worthOfLoaves 3 = .ok (.istore_n 2, 1) := by decide +kernel
theorem dX9_worthOfLoaves_4 : decode cX9_worthOfLoaves 4 = .ok (.iload_n 2, 1) := by decide +kernel
theorem dX9_worthOfLoaves_5 : decode cX9_worthOfLoaves 5 = .ok (.aload_n 0, 1) := by decide +kernel
theorem dX9_worthOfLoaves_6 : decode cX9_worthOfLoaves 6 = .ok (.getfield 17, 3) := by decide +kernel
theorem dX9_worthOfLoaves_9 : decode cX9_worthOfLoaves 9 = .ok (.bipush 6, 2) := by decide +kernel
theorem dX9_worthOfLoaves_11 : decode cX9_worthOfLoaves 11 = .ok (.iaload, 1) := by decide +kernel
theorem dX9_worthOfLoaves_12 : decode cX9_worthOfLoaves 12 = .ok (.if_icmp .ge 24, 3) := by decide +kernel
theorem dX9_worthOfLoaves_15 : decode cX9_worthOfLoaves 15 = .ok (.iload_n 1, 1) := by decide +kernel
theorem dX9_worthOfLoaves_16 : decode cX9_worthOfLoaves 16 = .ok (.aload_n 0, 1) := by decide +kernel
theorem dX9_worthOfLoaves_17 : decode cX9_worthOfLoaves 17 = .ok (.iload_n 2, 1) := by decide +kernel
theorem dX9_worthOfLoaves_18 : decode cX9_worthOfLoaves 18 = .ok (.iconst 3, 1) := by decide +kernel
theorem dX9_worthOfLoaves_19 : decode cX9_worthOfLoaves 19 = .ok (.invokevirtual 71, 3) := by decide +kernel
theorem dX9_worthOfLoaves_22 : decode cX9_worthOfLoaves 22 = .ok (.aload_n 0, 1) := by decide +kernel
theorem dX9_worthOfLoaves_23 : decode cX9_worthOfLoaves 23 = .ok (.iload_n 2, 1) := by decide +kernel
theorem dX9_worthOfLoaves_24 : decode cX9_worthOfLoaves 24 = .ok (.invokevirtual 121, 3) := by decide +kernel
theorem dX9_worthOfLoaves_27 : decode cX9_worthOfLoaves 27 = .ok (.imul, 1) := by decide +kernel
theorem dX9_worthOfLoaves_28 : decode cX9_worthOfLoaves 28 = .ok (.iadd, 1) := by decide +kernel
theorem dX9_worthOfLoaves_29 : decode cX9_worthOfLoaves 29 = .ok (.istore_n 1, 1) := by decide +kernel
theorem dX9_worthOfLoaves_30 : decode cX9_worthOfLoaves 30 = .ok (.iinc 2 1, 3) := by decide +kernel
theorem dX9_worthOfLoaves_33 : decode cX9_worthOfLoaves 33 = .ok (.goto (-29), 3) := by decide +kernel
theorem dX9_worthOfLoaves_36 : decode cX9_worthOfLoaves 36 = .ok (.iload_n 1, 1) := by decide +kernel
theorem dX9_worthOfLoaves_37 : decode cX9_worthOfLoaves 37 = .ok (.ireturn, 1) := by decide +kernel
def fX9_worthOfLoaves_L4 (v : bM) (k4 : Int32 → Int32 → Option Int32) (y1 : Int32) (y2 : Int32) : Option Int32 :=
  (if (v (710 + (6 : Int32).toNatClampNeg)) ≤ y2 then (some (y1)) else (bnr (fX9_bread y2 3 v) fun r5 => bnr (fX9_standard y2 v) fun r7 => nm (y1 + (r5 * r7)) fun x8 => nm (y2 + 1) fun x9 => k4 x8 x9))
def fX9_worthOfLoaves  (v : bM) : Option Int32 :=
  lp (fX9_worthOfLoaves_L4 v) (fun _ _ => none) lpN 0 0
set_option maxRecDepth 100000 in
set_option maxHeartbeats 4000000 in
theorem mX9_worthOfLoaves {l : Launch}  {v : bM} {r0 : Int32} (hf : fX9_worthOfLoaves  v = some r0) : bMet l yX9_worthOfLoaves cX9_worthOfLoaves 3 (some .int) 3 0 0 LMo (fun E a => [.ref a]) v v (fun _ => some (.int r0)) := by
  refine bk_start (by decide +kernel) wfMo (fun _ _ => Nat.le_of_ble_eq_true rfl) ?_
  intro p e s m args below meth c D E a ls H locs X hr hl hB
  have hx := X.1
  have hb := X.2.1
  have hown := X.2.2.2.1
  have hts := X.2.2.2.2.1
  have hl : lv_has ls 3 [(0, .ref a)] := hl
  have hf := (fX9_worthOfLoaves.eq_1  v).symm.trans hf
  refine lv_iconst (v := 0) hx hb dX9_worthOfLoaves_0 (by decide) ?_
  refine lv_istore_n (lv' := [(1, .int 0), (0, .ref a)]) hx hb dX9_worthOfLoaves_1 rfl hl (by decide) rfl (fun ls hl => ?_)
  refine lv_iconst (v := 0) hx hb dX9_worthOfLoaves_2 (by decide) ?_
  refine lv_istore_n (lv' := [(2, .int 0), (1, .int 0), (0, .ref a)]) hx hb dX9_worthOfLoaves_3 rfl hl (by decide) rfl (fun ls hl => ?_)
  have hL4 : ∀ (n4 : Nat) (y1 y2 : Int32) (H : Heap) (locs : List Loc) (ls : Array Slot), lp (fX9_worthOfLoaves_L4 v) (fun _ _ => none) n4 y1 y2 = some r0 → bB D E LMo a v s H locs → lv_has ls 3 [(0, .ref a), (1, .int y1), (2, .int y2)] → W p l e (rmOf 3 0 0) s m args below meth c H locs 0 0 (bQ below D E LMo a v (some (.int r0)) args s 0 0) (F0 m 4 ls []) := by
    intro n4
    induction n4 with
    | zero => intro y1 y2 H locs ls hf; cases (show (none : Option Int32) = some r0 from hf)
    | succ n4 ih4 =>
      intro y1 y2 H locs ls hf hB hl
      have hf := (fX9_worthOfLoaves_L4.eq_1 v (lp (fX9_worthOfLoaves_L4 v) (fun _ _ => none) n4) y1 y2).symm.trans (show fX9_worthOfLoaves_L4 v (lp (fX9_worthOfLoaves_L4 v) (fun _ _ => none) n4) y1 y2 = some r0 from hf)
      refine lv_iload_n hx hb dX9_worthOfLoaves_4 rfl (lv_at hl 2 rfl) ?_
      refine lv_aload_n hx hb dX9_worthOfLoaves_5 rfl (lv_at hl 0 rfl) ?_
      refine bk_getR X hB kl_X9 0 lc_Mo_0 5 (by decide) rfl wm_1868 dX9_worthOfLoaves_6 ?_
      refine lv_bipush (v := 6) hx hb dX9_worthOfLoaves_9 (by decide) ?_
      refine bk_ald X hB 2 lc_Mo_2 (vp_c 6 496 rfl) dX9_worthOfLoaves_11 ?_
      refine lv_icmp_ge (tgt := 36) hx hb dX9_worthOfLoaves_12 (by decide) (fun c3 => ?_) (fun c3 => ?_)
      · have hf := (if_pos c3).symm.trans hf
        refine lv_iload_n hx hb dX9_worthOfLoaves_36 rfl (lv_at hl 1 rfl) ?_
        exact bk_iR X hr rfl hf hB (Nat.le_of_ble_eq_true rfl) (Nat.le_of_ble_eq_true rfl) dX9_worthOfLoaves_37
      · have hf := (if_neg c3).symm.trans hf
        refine lv_iload_n hx hb dX9_worthOfLoaves_15 rfl (lv_at hl 1 rfl) ?_
        refine lv_aload_n hx hb dX9_worthOfLoaves_16 rfl (lv_at hl 0 rfl) ?_
        refine lv_iload_n hx hb dX9_worthOfLoaves_17 rfl (lv_at hl 2 rfl) ?_
        refine lv_iconst (v := 3) hx hb dX9_worthOfLoaves_18 (by decide) ?_
        obtain ⟨r5, hc4, hf⟩ := bnr_some hf
        refine bk_all hB (fun h1 h2 h3 => bk_runV X (Av := [.int y2, .int 3]) (rest := [.int y1]) (mX9_bread hc4) yv_X9_bread wm_1774 ⟨Nat.le_of_ble_eq_true rfl, Nat.le_of_ble_eq_true rfl⟩ rfl rfl hl.1 kl_X9.1 (hB.1.obj lc_Mo_0) h1 h2 h3 (Nat.le_of_ble_eq_true rfl) ⟨Nat.le_of_ble_eq_true rfl, Nat.le_of_ble_eq_true rfl⟩ dX9_worthOfLoaves_19) (fun H locs hB => ?_)
        refine W.eq (g2 := F0 m 22 ls [.int r5, .int y1]) rfl ?_
        refine lv_aload_n hx hb dX9_worthOfLoaves_22 rfl (lv_at hl 0 rfl) ?_
        refine lv_iload_n hx hb dX9_worthOfLoaves_23 rfl (lv_at hl 2 rfl) ?_
        obtain ⟨r7, hc6, hf⟩ := bnr_some hf
        refine bk_all hB (fun h1 h2 h3 => bk_runV X (Av := [.int y2]) (rest := [.int r5, .int y1]) (mX9_standard hc6) yv_X9_standard wm_1847 ⟨Nat.le_of_ble_eq_true rfl, Nat.le_of_ble_eq_true rfl⟩ rfl rfl hl.1 kl_X9.1 (hB.1.obj lc_Mo_0) h1 h2 h3 (Nat.le_of_ble_eq_true rfl) ⟨Nat.le_of_ble_eq_true rfl, Nat.le_of_ble_eq_true rfl⟩ dX9_worthOfLoaves_24) (fun H locs hB => ?_)
        refine W.eq (g2 := F0 m 27 ls [.int r7, .int r5, .int y1]) rfl ?_
        refine lv_imul hx hb dX9_worthOfLoaves_27 ?_
        refine lv_iadd hx hb dX9_worthOfLoaves_28 ?_
        refine lv_topi (fun x8 ex8 => ?_)
        have hf := nm_use hf ex8
        refine lv_istore_n (lv' := [(1, .int x8), (0, .ref a), (2, .int y2)]) hx hb dX9_worthOfLoaves_29 rfl hl (by decide) rfl (fun ls hl => ?_)
        obtain ⟨x9, ex9⟩ : ∃ y : Int32, y = y2 + 1 := ⟨_, rfl⟩
        have hf := nm_use hf ex9
        refine lv_iinc (v := x9) (lv' := [(2, .int x9), (1, .int x8), (0, .ref a)]) hx hb dX9_worthOfLoaves_30 hl (k := 2) rfl (by rw [ex9]; rfl) (by decide) rfl (fun ls hl => ?_)
        refine lv_goto (tgt := 4) hx hb dX9_worthOfLoaves_33 (by decide) ?_
        exact ih4 x8 x9 H locs ls hf hB (lv_sub hl [2, 1, 0] rfl)
  exact hL4 lpN 0 0 H locs ls hf hB (lv_sub hl [2, 1, 0] rfl)
theorem yv_X9_worthOfLoaves : bYv yX9_worthOfLoaves RX9 cX9_worthOfLoaves 3 (some .int) 0 := ⟨⟨rfl, by decide, by decide, rfl⟩, wm_2182, wp_88, wm_17, wm_2183⟩

theorem dX9_flourValue_0 : decode cX9_flourValue 0 = .ok (.aload_n 0, 1) := by decide +kernel
theorem dX9_flourValue_1 : decode cX9_flourValue 1 = .ok (.aload_n 0, 1) := by decide +kernel
theorem dX9_flourValue_2 : decode cX9_flourValue 2 = .ok (.invokevirtual 331, 3) := by decide +kernel
theorem dX9_flourValue_5 : decode cX9_flourValue 5 = .ok (.invokevirtual 294, 3) := by decide +kernel
theorem dX9_flourValue_8 : decode cX9_flourValue 8 = .ok (.ireturn, 1) := by decide +kernel
def fX9_flourValue  (v : bM) : Option (Int32 × bM) :=
  bnr (fX9_worthOfFlour v) fun r2 => bnd (fX9_plain r2 v) fun r5 w4 => some (r5, w4)
set_option maxRecDepth 100000 in
set_option maxHeartbeats 4000000 in
theorem mX9_flourValue {l : Launch}  {v : bM} {r0 : Int32} {w0 : bM} (hf : fX9_flourValue  v = some (r0, w0)) : bMet l yX9_flourValue cX9_flourValue 1 (some .int) 2 0 0 LMo (fun E a => [.ref a]) v w0 (fun _ => some (.int r0)) := by
  refine bk_start (by decide +kernel) wfMo (fun _ _ => Nat.le_of_ble_eq_true rfl) ?_
  intro p e s m args below meth c D E a ls H locs X hr hl hB
  have hx := X.1
  have hb := X.2.1
  have hown := X.2.2.2.1
  have hts := X.2.2.2.2.1
  have hl : lv_has ls 1 [(0, .ref a)] := hl
  have hf := (fX9_flourValue.eq_1  v).symm.trans hf
  refine lv_aload_n hx hb dX9_flourValue_0 rfl (lv_at hl 0 rfl) ?_
  refine lv_aload_n hx hb dX9_flourValue_1 rfl (lv_at hl 0 rfl) ?_
  obtain ⟨r2, hc1, hf⟩ := bnr_some hf
  refine bk_all hB (fun h1 h2 h3 => bk_runV X (Av := []) (rest := [.ref a]) (mX9_worthOfFlour hc1) yv_X9_worthOfFlour wm_2172 ⟨Nat.le_of_ble_eq_true rfl, Nat.le_of_ble_eq_true rfl⟩ rfl rfl hl.1 kl_X9.1 (hB.1.obj lc_Mo_0) h1 h2 h3 (Nat.le_of_ble_eq_true rfl) ⟨Nat.le_of_ble_eq_true rfl, Nat.le_of_ble_eq_true rfl⟩ dX9_flourValue_2) (fun H locs hB => ?_)
  refine W.eq (g2 := F0 m 5 ls [.int r2, .ref a]) rfl ?_
  obtain ⟨r5, w4, hc3, hf⟩ := bnd_some hf
  refine bk_all hB (fun h1 h2 h3 => bk_runV X (Av := [.int r2]) (rest := []) (mX9_plain hc3) yv_X9_plain wm_1945 ⟨Nat.le_of_ble_eq_true rfl, Nat.le_of_ble_eq_true rfl⟩ rfl rfl hl.1 kl_X9.1 (hB.1.obj lc_Mo_0) h1 h2 h3 (Nat.le_of_ble_eq_true rfl) ⟨Nat.le_of_ble_eq_true rfl, Nat.le_of_ble_eq_true rfl⟩ dX9_flourValue_5) (fun H locs hB => ?_)
  refine W.eq (g2 := F0 m 8 ls [.int r5]) rfl ?_
  exact bk_iW X hr rfl hf hB (Nat.le_of_ble_eq_true rfl) (Nat.le_of_ble_eq_true rfl) dX9_flourValue_8
theorem yv_X9_flourValue : bYv yX9_flourValue RX9 cX9_flourValue 1 (some .int) 0 := ⟨⟨rfl, by decide, by decide, rfl⟩, wm_2169, wm_2170, wm_17, wm_2171⟩

theorem dX9_loafValue_0 : decode cX9_loafValue 0 = .ok (.aload_n 0, 1) := by decide +kernel
theorem dX9_loafValue_1 : decode cX9_loafValue 1 = .ok (.aload_n 0, 1) := by decide +kernel
theorem dX9_loafValue_2 : decode cX9_loafValue 2 = .ok (.invokevirtual 334, 3) := by decide +kernel
theorem dX9_loafValue_5 : decode cX9_loafValue 5 = .ok (.invokevirtual 294, 3) := by decide +kernel
theorem dX9_loafValue_8 : decode cX9_loafValue 8 = .ok (.ireturn, 1) := by decide +kernel
def fX9_loafValue  (v : bM) : Option (Int32 × bM) :=
  bnr (fX9_worthOfLoaves v) fun r2 => bnd (fX9_plain r2 v) fun r5 w4 => some (r5, w4)
set_option maxRecDepth 100000 in
set_option maxHeartbeats 4000000 in
theorem mX9_loafValue {l : Launch}  {v : bM} {r0 : Int32} {w0 : bM} (hf : fX9_loafValue  v = some (r0, w0)) : bMet l yX9_loafValue cX9_loafValue 1 (some .int) 4 0 0 LMo (fun E a => [.ref a]) v w0 (fun _ => some (.int r0)) := by
  refine bk_start (by decide +kernel) wfMo (fun _ _ => Nat.le_of_ble_eq_true rfl) ?_
  intro p e s m args below meth c D E a ls H locs X hr hl hB
  have hx := X.1
  have hb := X.2.1
  have hown := X.2.2.2.1
  have hts := X.2.2.2.2.1
  have hl : lv_has ls 1 [(0, .ref a)] := hl
  have hf := (fX9_loafValue.eq_1  v).symm.trans hf
  refine lv_aload_n hx hb dX9_loafValue_0 rfl (lv_at hl 0 rfl) ?_
  refine lv_aload_n hx hb dX9_loafValue_1 rfl (lv_at hl 0 rfl) ?_
  obtain ⟨r2, hc1, hf⟩ := bnr_some hf
  refine bk_all hB (fun h1 h2 h3 => bk_runV X (Av := []) (rest := [.ref a]) (mX9_worthOfLoaves hc1) yv_X9_worthOfLoaves wm_2180 ⟨Nat.le_of_ble_eq_true rfl, Nat.le_of_ble_eq_true rfl⟩ rfl rfl hl.1 kl_X9.1 (hB.1.obj lc_Mo_0) h1 h2 h3 (Nat.le_of_ble_eq_true rfl) ⟨Nat.le_of_ble_eq_true rfl, Nat.le_of_ble_eq_true rfl⟩ dX9_loafValue_2) (fun H locs hB => ?_)
  refine W.eq (g2 := F0 m 5 ls [.int r2, .ref a]) rfl ?_
  obtain ⟨r5, w4, hc3, hf⟩ := bnd_some hf
  refine bk_all hB (fun h1 h2 h3 => bk_runV X (Av := [.int r2]) (rest := []) (mX9_plain hc3) yv_X9_plain wm_1945 ⟨Nat.le_of_ble_eq_true rfl, Nat.le_of_ble_eq_true rfl⟩ rfl rfl hl.1 kl_X9.1 (hB.1.obj lc_Mo_0) h1 h2 h3 (Nat.le_of_ble_eq_true rfl) ⟨Nat.le_of_ble_eq_true rfl, Nat.le_of_ble_eq_true rfl⟩ dX9_loafValue_5) (fun H locs hB => ?_)
  refine W.eq (g2 := F0 m 8 ls [.int r5]) rfl ?_
  exact bk_iW X hr rfl hf hB (Nat.le_of_ble_eq_true rfl) (Nat.le_of_ble_eq_true rfl) dX9_loafValue_8
theorem yv_X9_loafValue : bYv yX9_loafValue RX9 cX9_loafValue 1 (some .int) 0 := ⟨⟨rfl, by decide, by decide, rfl⟩, wm_2177, wm_2178, wm_17, wm_2179⟩

theorem dX9_consistencyError_0 : decode cX9_consistencyError 0 = .ok (.aload_n 0, 1) := by decide +kernel
theorem dX9_consistencyError_1 : decode cX9_consistencyError 1 = .ok (.iconst 0, 1) := by decide +kernel
theorem dX9_consistencyError_2 : decode cX9_consistencyError 2 = .ok (.putfield 60, 3) := by decide +kernel
theorem dX9_consistencyError_5 : decode cX9_consistencyError 5 = .ok (.aload_n 0, 1) := by decide +kernel
theorem dX9_consistencyError_6 : decode cX9_consistencyError 6 = .ok (.getfield 17, 3) := by decide +kernel
theorem dX9_consistencyError_9 : decode cX9_consistencyError 9 = .ok (.iconst 0, 1) := by decide +kernel
theorem dX9_consistencyError_10 : decode cX9_consistencyError 10 = .ok (.iaload, 1) := by decide +kernel
theorem dX9_consistencyError_11 : decode cX9_consistencyError 11 = .ok (.aload_n 0, 1) := by decide +kernel
theorem dX9_consistencyError_12 : decode cX9_consistencyError 12 = .ok (.invokevirtual 331, 3) := by decide +kernel
theorem dX9_consistencyError_15 : decode cX9_consistencyError 15 = .ok (.iadd, 1) := by decide +kernel
theorem dX9_consistencyError_16 : decode cX9_consistencyError 16 = .ok (.aload_n 0, 1) := by decide +kernel
theorem dX9_consistencyError_17 : decode cX9_consistencyError 17 = .ok (.invokevirtual 334, 3) := by decide +kernel
theorem dX9_consistencyError_20 : decode cX9_consistencyError 20 = .ok (.iadd, 1) := by decide +kernel
theorem dX9_consistencyError_21 : decode cX9_consistencyError 21 = .ok (.istore_n 1, 1) := by decide +kernel
theorem dX9_consistencyError_22 : decode cX9_consistencyError 22 = .ok (.aload_n 0, 1) := by decide +kernel
theorem dX9_consistencyError_23 : decode cX9_consistencyError 23 = .ok (.getfield 17, 3) := by decide +kernel
theorem dX9_consistencyError_26 : decode cX9_consistencyError 26 = .ok (.iconst 1, 1) := by decide +kernel
theorem dX9_consistencyError_27 : decode cX9_consistencyError 27 = .ok (.iaload, 1) := by decide +kernel
theorem dX9_consistencyError_28 : decode cX9_consistencyError 28 = .ok (.aload_n 0, 1) := by decide +kernel
theorem dX9_consistencyError_29 : decode cX9_consistencyError 29 = .ok (.getfield 17, 3) := by decide +kernel
theorem dX9_consistencyError_32 : decode cX9_consistencyError 32 = .ok (.bipush 12, 2) := by decide +kernel
theorem dX9_consistencyError_34 : decode cX9_consistencyError 34 = .ok (.iaload, 1) := by decide +kernel
theorem dX9_consistencyError_35 : decode cX9_consistencyError 35 = .ok (.iadd, 1) := by decide +kernel
theorem dX9_consistencyError_36 : decode cX9_consistencyError 36 = .ok (.aload_n 0, 1) := by decide +kernel
theorem dX9_consistencyError_37 : decode cX9_consistencyError 37 = .ok (.invokevirtual 322, 3) := by decide +kernel
theorem dX9_consistencyError_40 : decode cX9_consistencyError 40 = .ok (.isub, 1) := by decide +kernel
theorem dX9_consistencyError_41 : decode cX9_consistencyError 41 = .ok (.istore_n 2, 1) := by decide +kernel
theorem dX9_consistencyError_42 : decode cX9_consistencyError 42 = .ok (.iload_n 1, 1) := by decide +kernel
theorem dX9_consistencyError_43 : decode cX9_consistencyError 43 = .ok (.iload_n 2, 1) := by decide +kernel
theorem dX9_consistencyError_44 : decode cX9_consistencyError 44 = .ok (.isub, 1) := by decide +kernel
theorem dX9_consistencyError_45 : decode cX9_consistencyError 45 = .ok (.invokestatic 337, 3) := by decide +kernel
theorem dX9_consistencyError_48 : decode cX9_consistencyError 48 = .ok (.istore_n 3, 1) := by decide +kernel
theorem dX9_consistencyError_49 : decode cX9_consistencyError 49 = .ok (.iconst 0, 1) := by decide +kernel
theorem dX9_consistencyError_50 : decode cX9_consistencyError 50 = .ok (.istore 4, 2) := by decide +kernel
theorem dX9_consistencyError_52 : decode cX9_consistencyError 52 = .ok (.iload 4, 2) := by decide +kernel
theorem dX9_consistencyError_54 : decode cX9_consistencyError 54 = .ok (.aload_n 0, 1) := by decide +kernel
theorem dX9_consistencyError_55 : decode cX9_consistencyError 55 = .ok (.getfield 17, 3) := by decide +kernel
theorem dX9_consistencyError_58 : decode cX9_consistencyError 58 = .ok (.bipush 7, 2) := by decide +kernel
theorem dX9_consistencyError_60 : decode cX9_consistencyError 60 = .ok (.iaload, 1) := by decide +kernel
theorem dX9_consistencyError_61 : decode cX9_consistencyError 61 = .ok (.if_icmp .ge 35, 3) := by decide +kernel
theorem dX9_consistencyError_64 : decode cX9_consistencyError 64 = .ok (.iload_n 3, 1) := by decide +kernel
theorem dX9_consistencyError_65 : decode cX9_consistencyError 65 = .ok (.aload_n 0, 1) := by decide +kernel
theorem dX9_consistencyError_66 : decode cX9_consistencyError 66 = .ok (.iload 4, 2) := by decide +kernel
theorem dX9_consistencyError_68 : decode cX9_consistencyError 68 = .ok (.invokevirtual 313, 3) := by decide +kernel
theorem dX9_consistencyError_71 : decode cX9_consistencyError 71 = .ok (.aload_n 0, 1) := by decide +kernel
theorem dX9_consistencyError_72 : decode cX9_consistencyError 72 = .ok (.iload 4, 2) := by decide +kernel
theorem dX9_consistencyError_74 : decode cX9_consistencyError 74 = .ok (.invokevirtual 340, 3) := by decide +kernel
theorem dX9_consistencyError_77 : decode cX9_consistencyError 77 = .ok (.if_icmp .eq 7, 3) := by decide +kernel
theorem dX9_consistencyError_80 : decode cX9_consistencyError 80 = .ok (.iconst 1, 1) := by decide +kernel
theorem dX9_consistencyError_81 : decode cX9_consistencyError 81 = .ok (.goto 4, 3) := by decide +kernel
theorem dX9_consistencyError_84 : decode cX9_consistencyError 84 = .ok (.iconst 0, 1) := by decide +kernel
theorem dX9_consistencyError_85 : decode cX9_consistencyError 85 = .ok (.invokestatic 131, 3) := by decide +kernel
theorem dX9_consistencyError_88 : decode cX9_consistencyError 88 = .ok (.iadd, 1) := by decide +kernel
theorem dX9_consistencyError_89 : decode cX9_consistencyError 89 = .ok (.istore_n 3, 1) := by decide +kernel
theorem dX9_consistencyError_90 : decode cX9_consistencyError 90 = .ok (.iinc 4 1, 3) := by decide +kernel
theorem dX9_consistencyError_93 : decode cX9_consistencyError 93 = .ok (.goto (-41), 3) := by decide +kernel
theorem dX9_consistencyError_96 : decode cX9_consistencyError 96 = .ok (.iload_n 3, 1) := by decide +kernel
theorem dX9_consistencyError_97 : decode cX9_consistencyError 97 = .ok (.ireturn, 1) := by decide +kernel
def fX9_consistencyError_J85 (y11 : Int32) (y12 : Int32) (k52 : Int32 → Int32 → bM → Option (Int32 × bM)) (y19 : Int32) (v20 : bM) : Option (Int32 × bM) :=
  bnr (fX9_flag y19) fun r22 => nm (y11 + r22) fun x23 => nm (y12 + 1) fun x24 => k52 x23 x24 v20
def fX9_consistencyError_L52  (k52 : Int32 → Int32 → bM → Option (Int32 × bM)) (y11 : Int32) (y12 : Int32) (v13 : bM) : Option (Int32 × bM) :=
  (if (v13 (710 + (7 : Int32).toNatClampNeg)) ≤ y12 then (some (y11, v13)) else (bnr (fX9_loss y12 v13) fun r16 => bnr (fX9_gapsOf y12 v13) fun r18 => (if r16 = r18 then (fX9_consistencyError_J85 y11 y12 k52 0 v13) else (fX9_consistencyError_J85 y11 y12 k52 1 v13))))
def fX9_consistencyError  (v : bM) : Option (Int32 × bM) :=
  nm (upd v 3 0) fun v1 => bnr (fX9_worthOfFlour v1) fun r3 => bnr (fX9_worthOfLoaves v1) fun r5 => nm (((v1 (710 + (0 : Int32).toNatClampNeg)) + r3) + r5) fun x6 => bnr (fX9_allGaps v1) fun r8 => nm (((v1 (710 + (1 : Int32).toNatClampNeg)) + (v1 (710 + (12 : Int32).toNatClampNeg))) - r8) fun x9 => nm (if 0 ≤ (x6 - x9) then (x6 - x9) else 0 - (x6 - x9)) fun x10 => lp (fX9_consistencyError_L52) (fun _ _ _ => none) lpN x10 0 v1
set_option maxRecDepth 100000 in
set_option maxHeartbeats 4000000 in
theorem mX9_consistencyError {l : Launch}  {v : bM} {r0 : Int32} {w0 : bM} (hf : fX9_consistencyError  v = some (r0, w0)) : bMet l yX9_consistencyError cX9_consistencyError 5 (some .int) 4 0 0 LMo (fun E a => [.ref a]) v w0 (fun _ => some (.int r0)) := by
  refine bk_start (by decide +kernel) wfMo (fun _ _ => Nat.le_of_ble_eq_true rfl) ?_
  intro p e s m args below meth c D E a ls H locs X hr hl hB
  have hx := X.1
  have hb := X.2.1
  have hown := X.2.2.2.1
  have hts := X.2.2.2.2.1
  have hl : lv_has ls 5 [(0, .ref a)] := hl
  have hf := (fX9_consistencyError.eq_1  v).symm.trans hf
  refine lv_aload_n hx hb dX9_consistencyError_0 rfl (lv_at hl 0 rfl) ?_
  refine lv_iconst (v := 0) hx hb dX9_consistencyError_1 (by decide) ?_
  refine bk_putI X hB kl_X9 0 lc_Mo_0 4 (by decide) rfl rfl rfl wm_1867 dX9_consistencyError_2 rfl (fun H locs hB => ?_)
  obtain ⟨v1, ev1⟩ : ∃ y : bM, y = upd v 3 0 := ⟨_, rfl⟩
  have hf := nm_use hf ev1
  rw [← ev1] at hB
  refine lv_aload_n hx hb dX9_consistencyError_5 rfl (lv_at hl 0 rfl) ?_
  refine bk_getR X hB kl_X9 0 lc_Mo_0 5 (by decide) rfl wm_1868 dX9_consistencyError_6 ?_
  refine lv_iconst (v := 0) hx hb dX9_consistencyError_9 (by decide) ?_
  refine bk_ald X hB 2 lc_Mo_2 (vp_c 0 496 rfl) dX9_consistencyError_10 ?_
  refine lv_aload_n hx hb dX9_consistencyError_11 rfl (lv_at hl 0 rfl) ?_
  obtain ⟨r3, hc2, hf⟩ := bnr_some hf
  refine bk_all hB (fun h1 h2 h3 => bk_runV X (Av := []) (rest := [.int (v1 (710 + (0 : Int32).toNatClampNeg))]) (mX9_worthOfFlour hc2) yv_X9_worthOfFlour wm_2172 ⟨Nat.le_of_ble_eq_true rfl, Nat.le_of_ble_eq_true rfl⟩ rfl rfl hl.1 kl_X9.1 (hB.1.obj lc_Mo_0) h1 h2 h3 (Nat.le_of_ble_eq_true rfl) ⟨Nat.le_of_ble_eq_true rfl, Nat.le_of_ble_eq_true rfl⟩ dX9_consistencyError_12) (fun H locs hB => ?_)
  refine W.eq (g2 := F0 m 15 ls [.int r3, .int (v1 (710 + (0 : Int32).toNatClampNeg))]) rfl ?_
  refine lv_iadd hx hb dX9_consistencyError_15 ?_
  refine lv_aload_n hx hb dX9_consistencyError_16 rfl (lv_at hl 0 rfl) ?_
  obtain ⟨r5, hc4, hf⟩ := bnr_some hf
  refine bk_all hB (fun h1 h2 h3 => bk_runV X (Av := []) (rest := [.int ((v1 (710 + (0 : Int32).toNatClampNeg)) + r3)]) (mX9_worthOfLoaves hc4) yv_X9_worthOfLoaves wm_2180 ⟨Nat.le_of_ble_eq_true rfl, Nat.le_of_ble_eq_true rfl⟩ rfl rfl hl.1 kl_X9.1 (hB.1.obj lc_Mo_0) h1 h2 h3 (Nat.le_of_ble_eq_true rfl) ⟨Nat.le_of_ble_eq_true rfl, Nat.le_of_ble_eq_true rfl⟩ dX9_consistencyError_17) (fun H locs hB => ?_)
  refine W.eq (g2 := F0 m 20 ls [.int r5, .int ((v1 (710 + (0 : Int32).toNatClampNeg)) + r3)]) rfl ?_
  refine lv_iadd hx hb dX9_consistencyError_20 ?_
  refine lv_topi (fun x6 ex6 => ?_)
  have hf := nm_use hf ex6
  refine lv_istore_n (lv' := [(1, .int x6), (0, .ref a)]) hx hb dX9_consistencyError_21 rfl hl (by decide) rfl (fun ls hl => ?_)
  refine lv_aload_n hx hb dX9_consistencyError_22 rfl (lv_at hl 1 rfl) ?_
  refine bk_getR X hB kl_X9 0 lc_Mo_0 5 (by decide) rfl wm_1868 dX9_consistencyError_23 ?_
  refine lv_iconst (v := 1) hx hb dX9_consistencyError_26 (by decide) ?_
  refine bk_ald X hB 2 lc_Mo_2 (vp_c 1 496 rfl) dX9_consistencyError_27 ?_
  refine lv_aload_n hx hb dX9_consistencyError_28 rfl (lv_at hl 1 rfl) ?_
  refine bk_getR X hB kl_X9 0 lc_Mo_0 5 (by decide) rfl wm_1868 dX9_consistencyError_29 ?_
  refine lv_bipush (v := 12) hx hb dX9_consistencyError_32 (by decide) ?_
  refine bk_ald X hB 2 lc_Mo_2 (vp_c 12 496 rfl) dX9_consistencyError_34 ?_
  refine lv_iadd hx hb dX9_consistencyError_35 ?_
  refine lv_aload_n hx hb dX9_consistencyError_36 rfl (lv_at hl 1 rfl) ?_
  obtain ⟨r8, hc7, hf⟩ := bnr_some hf
  refine bk_all hB (fun h1 h2 h3 => bk_runV X (Av := []) (rest := [.int ((v1 (710 + (1 : Int32).toNatClampNeg)) + (v1 (710 + (12 : Int32).toNatClampNeg)))]) (mX9_allGaps hc7) yv_X9_allGaps wm_2121 ⟨Nat.le_of_ble_eq_true rfl, Nat.le_of_ble_eq_true rfl⟩ rfl rfl hl.1 kl_X9.1 (hB.1.obj lc_Mo_0) h1 h2 h3 (Nat.le_of_ble_eq_true rfl) ⟨Nat.le_of_ble_eq_true rfl, Nat.le_of_ble_eq_true rfl⟩ dX9_consistencyError_37) (fun H locs hB => ?_)
  refine W.eq (g2 := F0 m 40 ls [.int r8, .int ((v1 (710 + (1 : Int32).toNatClampNeg)) + (v1 (710 + (12 : Int32).toNatClampNeg)))]) rfl ?_
  refine lv_isub hx hb dX9_consistencyError_40 ?_
  refine lv_topi (fun x9 ex9 => ?_)
  have hf := nm_use hf ex9
  refine lv_istore_n (lv' := [(2, .int x9), (1, .int x6), (0, .ref a)]) hx hb dX9_consistencyError_41 rfl hl (by decide) rfl (fun ls hl => ?_)
  refine lv_iload_n hx hb dX9_consistencyError_42 rfl (lv_at hl 1 rfl) ?_
  refine lv_iload_n hx hb dX9_consistencyError_43 rfl (lv_at hl 0 rfl) ?_
  refine lv_isub hx hb dX9_consistencyError_44 ?_
  refine bk_abs X hl.1 wm_2188 ⟨Nat.le_of_ble_eq_true rfl, Nat.le_of_ble_eq_true rfl⟩ ⟨Nat.le_of_ble_eq_true rfl, Nat.le_of_ble_eq_true rfl⟩ dX9_consistencyError_45 ?_
  refine lv_topi (fun x10 ex10 => ?_)
  have hf := nm_use hf ex10
  refine lv_istore_n (lv' := [(3, .int x10), (2, .int x9), (1, .int x6), (0, .ref a)]) hx hb dX9_consistencyError_48 rfl hl (by decide) rfl (fun ls hl => ?_)
  refine lv_iconst (v := 0) hx hb dX9_consistencyError_49 (by decide) ?_
  refine lv_istore (lv' := [(4, .int 0), (3, .int x10), (2, .int x9), (1, .int x6), (0, .ref a)]) hx hb dX9_consistencyError_50 hl (by decide) rfl (fun ls hl => ?_)
  have hL52 : ∀ (n52 : Nat) (y11 y12 : Int32) (v13 : bM) (H : Heap) (locs : List Loc) (ls : Array Slot), lp (fX9_consistencyError_L52) (fun _ _ _ => none) n52 y11 y12 v13 = some (r0, w0) → bB D E LMo a v13 s H locs → lv_has ls 5 [(0, .ref a), (3, .int y11), (4, .int y12)] → W p l e (rmOf 4 0 0) s m args below meth c H locs 0 0 (bQ below D E LMo a w0 (some (.int r0)) args s 0 0) (F0 m 52 ls []) := by
    intro n52
    induction n52 with
    | zero => intro y11 y12 v13 H locs ls hf; cases (show (none : Option (Int32 × bM)) = some (r0, w0) from hf)
    | succ n52 ih52 =>
      intro y11 y12 v13 H locs ls hf hB hl
      have hf := (fX9_consistencyError_L52.eq_1  (lp (fX9_consistencyError_L52) (fun _ _ _ => none) n52) y11 y12 v13).symm.trans (show fX9_consistencyError_L52 (lp (fX9_consistencyError_L52) (fun _ _ _ => none) n52) y11 y12 v13 = some (r0, w0) from hf)
      refine lv_iload hx hb dX9_consistencyError_52 (lv_at hl 2 rfl) ?_
      refine lv_aload_n hx hb dX9_consistencyError_54 rfl (lv_at hl 0 rfl) ?_
      refine bk_getR X hB kl_X9 0 lc_Mo_0 5 (by decide) rfl wm_1868 dX9_consistencyError_55 ?_
      refine lv_bipush (v := 7) hx hb dX9_consistencyError_58 (by decide) ?_
      refine bk_ald X hB 2 lc_Mo_2 (vp_c 7 496 rfl) dX9_consistencyError_60 ?_
      refine lv_icmp_ge (tgt := 96) hx hb dX9_consistencyError_61 (by decide) (fun c14 => ?_) (fun c14 => ?_)
      · have hf := (if_pos c14).symm.trans hf
        refine lv_iload_n hx hb dX9_consistencyError_96 rfl (lv_at hl 1 rfl) ?_
        exact bk_iW X hr rfl hf hB (Nat.le_of_ble_eq_true rfl) (Nat.le_of_ble_eq_true rfl) dX9_consistencyError_97
      · have hf := (if_neg c14).symm.trans hf
        refine lv_iload_n hx hb dX9_consistencyError_64 rfl (lv_at hl 1 rfl) ?_
        refine lv_aload_n hx hb dX9_consistencyError_65 rfl (lv_at hl 0 rfl) ?_
        refine lv_iload hx hb dX9_consistencyError_66 (lv_at hl 2 rfl) ?_
        obtain ⟨r16, hc15, hf⟩ := bnr_some hf
        refine bk_all hB (fun h1 h2 h3 => bk_runV X (Av := [.int y12]) (rest := [.int y11]) (mX9_loss hc15) yv_X9_loss wm_2085 ⟨Nat.le_of_ble_eq_true rfl, Nat.le_of_ble_eq_true rfl⟩ rfl rfl hl.1 kl_X9.1 (hB.1.obj lc_Mo_0) h1 h2 h3 (Nat.le_of_ble_eq_true rfl) ⟨Nat.le_of_ble_eq_true rfl, Nat.le_of_ble_eq_true rfl⟩ dX9_consistencyError_68) (fun H locs hB => ?_)
        refine W.eq (g2 := F0 m 71 ls [.int r16, .int y11]) rfl ?_
        refine lv_aload_n hx hb dX9_consistencyError_71 rfl (lv_at hl 0 rfl) ?_
        refine lv_iload hx hb dX9_consistencyError_72 (lv_at hl 2 rfl) ?_
        obtain ⟨r18, hc17, hf⟩ := bnr_some hf
        refine bk_all hB (fun h1 h2 h3 => bk_runV X (Av := [.int y12]) (rest := [.int r16, .int y11]) (mX9_gapsOf hc17) yv_X9_gapsOf wm_2189 ⟨Nat.le_of_ble_eq_true rfl, Nat.le_of_ble_eq_true rfl⟩ rfl rfl hl.1 kl_X9.1 (hB.1.obj lc_Mo_0) h1 h2 h3 (Nat.le_of_ble_eq_true rfl) ⟨Nat.le_of_ble_eq_true rfl, Nat.le_of_ble_eq_true rfl⟩ dX9_consistencyError_74) (fun H locs hB => ?_)
        refine W.eq (g2 := F0 m 77 ls [.int r18, .int r16, .int y11]) rfl ?_
        have hJ85 : ∀ (y19 : Int32) (v20 : bM) (H : Heap) (locs : List Loc) (ls : Array Slot), fX9_consistencyError_J85 y11 y12 (lp (fX9_consistencyError_L52) (fun _ _ _ => none) n52) y19 v20 = some (r0, w0) → bB D E LMo a v20 s H locs → lv_has ls 5 [(0, .ref a), (4, .int y12)] → W p l e (rmOf 4 0 0) s m args below meth c H locs 0 0 (bQ below D E LMo a w0 (some (.int r0)) args s 0 0) (F0 m 85 ls [.int y19, .int y11]) := by
          intro y19 v20 H locs ls hf hB hl
          have hf := (fX9_consistencyError_J85.eq_1 y11 y12 (lp (fX9_consistencyError_L52) (fun _ _ _ => none) n52) y19 v20).symm.trans hf
          obtain ⟨r22, hc21, hf⟩ := bnr_some hf
          refine bk_non (v0 := v20) (w0 := v20) hB (fun h1 h2 h3 => bk_runS X (Av := [.int y19]) (rest := [.int y11]) (mX9_flag hc21) ys_X9_flag wm_1674 ⟨Nat.le_of_ble_eq_true rfl, Nat.le_of_ble_eq_true rfl⟩ rfl rfl hl.1 h1 h2 h3 (Nat.le_of_ble_eq_true rfl) ⟨Nat.le_of_ble_eq_true rfl, Nat.le_of_ble_eq_true rfl⟩ dX9_consistencyError_85) (fun H locs hB => ?_)
          refine W.eq (g2 := F0 m 88 ls [.int r22, .int y11]) rfl ?_
          refine lv_iadd hx hb dX9_consistencyError_88 ?_
          refine lv_topi (fun x23 ex23 => ?_)
          have hf := nm_use hf ex23
          refine lv_istore_n (lv' := [(3, .int x23), (0, .ref a), (4, .int y12)]) hx hb dX9_consistencyError_89 rfl hl (by decide) rfl (fun ls hl => ?_)
          obtain ⟨x24, ex24⟩ : ∃ y : Int32, y = y12 + 1 := ⟨_, rfl⟩
          have hf := nm_use hf ex24
          refine lv_iinc (v := x24) (lv' := [(4, .int x24), (3, .int x23), (0, .ref a)]) hx hb dX9_consistencyError_90 hl (k := 2) rfl (by rw [ex24]; rfl) (by decide) rfl (fun ls hl => ?_)
          refine lv_goto (tgt := 52) hx hb dX9_consistencyError_93 (by decide) ?_
          exact ih52 x23 x24 v20 H locs ls hf hB (lv_sub hl [2, 1, 0] rfl)
        refine lv_icmp_eq (tgt := 84) hx hb dX9_consistencyError_77 (by decide) (fun c25 => ?_) (fun c25 => ?_)
        · have hf := (if_pos c25).symm.trans hf
          refine lv_iconst (v := 0) hx hb dX9_consistencyError_84 (by decide) ?_
          exact hJ85 0 v13 H locs ls hf hB (lv_sub hl [0, 2] rfl)
        · have hf := (if_neg c25).symm.trans hf
          refine lv_iconst (v := 1) hx hb dX9_consistencyError_80 (by decide) ?_
          refine lv_goto (tgt := 85) hx hb dX9_consistencyError_81 (by decide) ?_
          exact hJ85 1 v13 H locs ls hf hB (lv_sub hl [0, 2] rfl)
  exact hL52 lpN x10 0 v1 H locs ls hf hB (lv_sub hl [4, 1, 0] rfl)
theorem yv_X9_consistencyError : bYv yX9_consistencyError RX9 cX9_consistencyError 5 (some .int) 0 := ⟨⟨rfl, by decide, by decide, rfl⟩, wm_2185, wm_2186, wm_17, wm_2187⟩

theorem dX9_record_0 : decode cX9_record 0 = .ok (.iconst 0, 1) := by decide +kernel
theorem dX9_record_1 : decode cX9_record 1 = .ok (.istore_n 1, 1) := by decide +kernel
theorem dX9_record_2 : decode cX9_record 2 = .ok (.iload_n 1, 1) := by decide +kernel
theorem dX9_record_3 : decode cX9_record 3 = .ok (.sipush 496, 3) := by decide +kernel
theorem dX9_record_6 : decode cX9_record 6 = .ok (.if_icmp .ge 21, 3) := by decide +kernel
theorem dX9_record_9 : decode cX9_record 9 = .ok (.aload_n 0, 1) := by decide +kernel
theorem dX9_record_10 : decode cX9_record 10 = .ok (.getfield 20, 3) := by decide +kernel
theorem dX9_record_13 : decode cX9_record 13 = .ok (.iload_n 1, 1) := by decide +kernel
theorem dX9_record_14 : decode cX9_record 14 = .ok (.aload_n 0, 1) := by decide +kernel
theorem dX9_record_15 : decode cX9_record 15 = .ok (.getfield 17, 3) := by decide +kernel
theorem dX9_record_18 : decode cX9_record 18 = .ok (.iload_n 1, 1) := by decide +kernel
theorem dX9_record_19 : decode cX9_record 19 = .ok (.iaload, 1) := by decide +kernel
theorem dX9_record_20 : decode cX9_record 20 = .ok (.iastore, 1) := by decide +kernel
theorem dX9_record_21 : decode cX9_record 21 = .ok (.iinc 1 1, 3) := by decide +kernel
theorem dX9_record_24 : decode cX9_record 24 = .ok (.goto (-22), 3) := by decide +kernel
theorem dX9_record_27 : decode cX9_record 27 = .ok (.aload_n 0, 1) := by decide +kernel
theorem dX9_record_28 : decode cX9_record 28 = .ok (.invokevirtual 291, 3) := by decide +kernel
theorem dX9_record_31 : decode cX9_record 31 = .ok (.return_, 1) := by decide +kernel
def fX9_record_L2  (k2 : Int32 → bM → Option bM) (y1 : Int32) (v2 : bM) : Option bM :=
  (if 496 ≤ y1 then (bnw (fX9_pushAside v2) fun w5 => some w5) else (ck y1 496 <| nm (v2 (710 + y1.toNatClampNeg)) fun x7 => ck y1 496 <| nm (upd v2 (1206 + y1.toNatClampNeg) x7) fun v9 => nm (y1 + 1) fun x10 => k2 x10 v9))
def fX9_record  (v : bM) : Option bM :=
  lp (fX9_record_L2) (fun _ _ => none) lpN 0 v
set_option maxRecDepth 100000 in
set_option maxHeartbeats 4000000 in
theorem mX9_record {l : Launch}  {v : bM} {w0 : bM} (hf : fX9_record  v = some w0) : bMet l yX9_record cX9_record 2 none 1 0 0 LMo (fun E a => [.ref a]) v w0 (fun _ => none) := by
  refine bk_start (by decide +kernel) wfMo (fun _ _ => Nat.le_of_ble_eq_true rfl) ?_
  intro p e s m args below meth c D E a ls H locs X hr hl hB
  have hx := X.1
  have hb := X.2.1
  have hown := X.2.2.2.1
  have hts := X.2.2.2.2.1
  have hl : lv_has ls 2 [(0, .ref a)] := hl
  have hf := (fX9_record.eq_1  v).symm.trans hf
  refine lv_iconst (v := 0) hx hb dX9_record_0 (by decide) ?_
  refine lv_istore_n (lv' := [(1, .int 0), (0, .ref a)]) hx hb dX9_record_1 rfl hl (by decide) rfl (fun ls hl => ?_)
  have hL2 : ∀ (n2 : Nat) (y1 : Int32) (v2 : bM) (H : Heap) (locs : List Loc) (ls : Array Slot), lp (fX9_record_L2) (fun _ _ => none) n2 y1 v2 = some w0 → bB D E LMo a v2 s H locs → lv_has ls 2 [(0, .ref a), (1, .int y1)] → W p l e (rmOf 1 0 0) s m args below meth c H locs 0 0 (bQ below D E LMo a w0 none args s 0 0) (F0 m 2 ls []) := by
    intro n2
    induction n2 with
    | zero => intro y1 v2 H locs ls hf; cases (show (none : Option bM) = some w0 from hf)
    | succ n2 ih2 =>
      intro y1 v2 H locs ls hf hB hl
      have hf := (fX9_record_L2.eq_1  (lp (fX9_record_L2) (fun _ _ => none) n2) y1 v2).symm.trans (show fX9_record_L2 (lp (fX9_record_L2) (fun _ _ => none) n2) y1 v2 = some w0 from hf)
      refine lv_iload_n hx hb dX9_record_2 rfl (lv_at hl 1 rfl) ?_
      refine lv_sipush (v := 496) hx hb dX9_record_3 (by decide) ?_
      refine lv_icmp_ge (tgt := 27) hx hb dX9_record_6 (by decide) (fun c3 => ?_) (fun c3 => ?_)
      · have hf := (if_pos c3).symm.trans hf
        refine lv_aload_n hx hb dX9_record_27 rfl (lv_at hl 0 rfl) ?_
        obtain ⟨w5, hc4, hf⟩ := bnw_some hf
        refine bk_all hB (fun h1 h2 h3 => bk_runV X (Av := []) (rest := []) (mX9_pushAside hc4) yv_X9_pushAside wm_1937 ⟨Nat.le_of_ble_eq_true rfl, Nat.le_of_ble_eq_true rfl⟩ rfl rfl hl.1 kl_X9.1 (hB.1.obj lc_Mo_0) h1 h2 h3 (Nat.le_of_ble_eq_true rfl) ⟨Nat.le_of_ble_eq_true rfl, Nat.le_of_ble_eq_true rfl⟩ dX9_record_28) (fun H locs hB => ?_)
        refine W.eq (g2 := F0 m 31 ls []) rfl ?_
        exact bk_vW X hr rfl hf hB (Nat.le_of_ble_eq_true rfl) (Nat.le_of_ble_eq_true rfl) dX9_record_31
      · have hf := (if_neg c3).symm.trans hf
        refine lv_aload_n hx hb dX9_record_9 rfl (lv_at hl 0 rfl) ?_
        refine bk_getR X hB kl_X9 0 lc_Mo_0 6 (by decide) rfl wm_1869 dX9_record_10 ?_
        refine lv_iload_n hx hb dX9_record_13 rfl (lv_at hl 1 rfl) ?_
        refine lv_aload_n hx hb dX9_record_14 rfl (lv_at hl 0 rfl) ?_
        refine bk_getR X hB kl_X9 0 lc_Mo_0 5 (by decide) rfl wm_1868 dX9_record_15 ?_
        refine lv_iload_n hx hb dX9_record_18 rfl (lv_at hl 1 rfl) ?_
        obtain ⟨h6, hf⟩ := ck_some hf
        refine bk_ald X hB 2 lc_Mo_2 h6 dX9_record_19 ?_
        refine lv_topi (fun x7 ex7 => ?_)
        have hf := nm_use hf ex7
        obtain ⟨h8, hf⟩ := ck_some hf
        refine bk_ast X hB 3 lc_Mo_3 h8 dX9_record_20 (fun H locs hB => ?_)
        obtain ⟨v9, ev9⟩ : ∃ y : bM, y = upd v2 (1206 + y1.toNatClampNeg) x7 := ⟨_, rfl⟩
        have hf := nm_use hf ev9
        rw [← ev9] at hB
        obtain ⟨x10, ex10⟩ : ∃ y : Int32, y = y1 + 1 := ⟨_, rfl⟩
        have hf := nm_use hf ex10
        refine lv_iinc (v := x10) (lv' := [(1, .int x10), (0, .ref a)]) hx hb dX9_record_21 hl (k := 1) rfl (by rw [ex10]; rfl) (by decide) rfl (fun ls hl => ?_)
        refine lv_goto (tgt := 2) hx hb dX9_record_24 (by decide) ?_
        exact ih2 x10 v9 H locs ls hf hB (lv_sub hl [1, 0] rfl)
  exact hL2 lpN 0 v H locs ls hf hB (lv_sub hl [1, 0] rfl)
theorem yv_X9_record : bYv yX9_record RX9 cX9_record 2 none 0 := ⟨⟨rfl, by decide, by decide, rfl⟩, wm_2207, wp_90, wm_17, wm_2208⟩

theorem dX9_addFlour_0 : decode cX9_addFlour 0 = .ok (.aload_n 0, 1) := by decide +kernel
theorem dX9_addFlour_1 : decode cX9_addFlour 1 = .ok (.iconst 0, 1) := by decide +kernel
theorem dX9_addFlour_2 : decode cX9_addFlour 2 = .ok (.putfield 60, 3) := by decide +kernel
theorem dX9_addFlour_5 : decode cX9_addFlour 5 = .ok (.aload_n 0, 1) := by decide +kernel
theorem dX9_addFlour_6 : decode cX9_addFlour 6 = .ok (.iload_n 1, 1) := by decide +kernel
theorem dX9_addFlour_7 : decode cX9_addFlour 7 = .ok (.iconst 1, 1) := by decide +kernel
theorem dX9_addFlour_8 : decode cX9_addFlour 8 = .ok (.bipush 99, 2) := by decide +kernel
theorem dX9_addFlour_10 : decode cX9_addFlour 10 = .ok (.invokestatic 135, 3) := by decide +kernel
theorem dX9_addFlour_13 : decode cX9_addFlour 13 = .ok (.iconst 1, 1) := by decide +kernel
theorem dX9_addFlour_14 : decode cX9_addFlour 14 = .ok (.invokevirtual 297, 3) := by decide +kernel
theorem dX9_addFlour_17 : decode cX9_addFlour 17 = .ok (.ifCond .ne 27, 3) := by decide +kernel
theorem dX9_addFlour_20 : decode cX9_addFlour 20 = .ok (.aload_n 0, 1) := by decide +kernel
theorem dX9_addFlour_21 : decode cX9_addFlour 21 = .ok (.aload_n 0, 1) := by decide +kernel
theorem dX9_addFlour_22 : decode cX9_addFlour 22 = .ok (.getfield 17, 3) := by decide +kernel
theorem dX9_addFlour_25 : decode cX9_addFlour 25 = .ok (.iconst 5, 1) := by decide +kernel
theorem dX9_addFlour_26 : decode cX9_addFlour 26 = .ok (.iaload, 1) := by decide +kernel
theorem dX9_addFlour_27 : decode cX9_addFlour 27 = .ok (.bipush 6, 2) := by decide +kernel
theorem dX9_addFlour_29 : decode cX9_addFlour 29 = .ok (.if_icmp .ge 7, 3) := by decide +kernel
theorem dX9_addFlour_32 : decode cX9_addFlour 32 = .ok (.iconst 1, 1) := by decide +kernel
theorem dX9_addFlour_33 : decode cX9_addFlour 33 = .ok (.goto 4, 3) := by decide +kernel
theorem dX9_addFlour_36 : decode cX9_addFlour 36 = .ok (.iconst 0, 1) := by decide +kernel
theorem dX9_addFlour_37 : decode cX9_addFlour 37 = .ok (.iconst 2, 1) := by decide +kernel
theorem dX9_addFlour_38 : decode cX9_addFlour 38 = .ok (.invokevirtual 297, 3) := by decide +kernel
theorem dX9_addFlour_41 : decode cX9_addFlour 41 = .ok (.ifCond .eq 5, 3) := by decide +kernel
theorem dX9_addFlour_44 : decode cX9_addFlour 44 = .ok (.iconst 0, 1) := by decide +kernel
theorem dX9_addFlour_45 : decode cX9_addFlour 45 = .ok (.ireturn, 1) := by decide +kernel
theorem dX9_addFlour_46 : decode cX9_addFlour 46 = .ok (.aload_n 0, 1) := by decide +kernel
theorem dX9_addFlour_47 : decode cX9_addFlour 47 = .ok (.invokevirtual 343, 3) := by decide +kernel
theorem dX9_addFlour_50 : decode cX9_addFlour 50 = .ok (.aload_n 0, 1) := by decide +kernel
theorem dX9_addFlour_51 : decode cX9_addFlour 51 = .ok (.iload_n 1, 1) := by decide +kernel
theorem dX9_addFlour_52 : decode cX9_addFlour 52 = .ok (.invokevirtual 245, 3) := by decide +kernel
theorem dX9_addFlour_55 : decode cX9_addFlour 55 = .ok (.ireturn, 1) := by decide +kernel
def fX9_addFlour_J37 (p1 : Int32) (y8 : Int32) (v9 : bM) : Option (Int32 × bM) :=
  bnd (fX9_fails y8 2 v9) fun r12 w11 => (if r12 = 0 then (bnw (fX9_record w11) fun w15 => bnd (fX9_doFlour p1 w15) fun r18 w17 => some (r18, w17)) else (some (0, w11)))
def fX9_addFlour (p1 : Int32) (v : bM) : Option (Int32 × bM) :=
  nm (upd v 3 0) fun v1 => bnr (fX9_inRange p1 1 99) fun r3 => bnd (fX9_fails r3 1 v1) fun r6 w5 => (if r6 = 0 then ((if 6 ≤ (w5 (710 + (5 : Int32).toNatClampNeg)) then (fX9_addFlour_J37 p1 0 w5) else (fX9_addFlour_J37 p1 1 w5))) else (some (0, w5)))
set_option maxRecDepth 100000 in
set_option maxHeartbeats 4000000 in
theorem mX9_addFlour {l : Launch} {p1 : Int32} {v : bM} {r0 : Int32} {w0 : bM} (hf : fX9_addFlour p1 v = some (r0, w0)) : bMet l yX9_addFlour cX9_addFlour 2 (some .int) 2 0 0 LMo (fun E a => [.ref a, .int p1]) v w0 (fun _ => some (.int r0)) := by
  refine bk_start (by decide +kernel) wfMo (fun _ _ => Nat.le_of_ble_eq_true rfl) ?_
  intro p e s m args below meth c D E a ls H locs X hr hl hB
  have hx := X.1
  have hb := X.2.1
  have hown := X.2.2.2.1
  have hts := X.2.2.2.2.1
  have hl : lv_has ls 2 [(0, .ref a), (1, .int p1)] := hl
  have hf := (fX9_addFlour.eq_1 p1 v).symm.trans hf
  refine lv_aload_n hx hb dX9_addFlour_0 rfl (lv_at hl 0 rfl) ?_
  refine lv_iconst (v := 0) hx hb dX9_addFlour_1 (by decide) ?_
  refine bk_putI X hB kl_X9 0 lc_Mo_0 4 (by decide) rfl rfl rfl wm_1867 dX9_addFlour_2 rfl (fun H locs hB => ?_)
  obtain ⟨v1, ev1⟩ : ∃ y : bM, y = upd v 3 0 := ⟨_, rfl⟩
  have hf := nm_use hf ev1
  rw [← ev1] at hB
  refine lv_aload_n hx hb dX9_addFlour_5 rfl (lv_at hl 0 rfl) ?_
  refine lv_iload_n hx hb dX9_addFlour_6 rfl (lv_at hl 1 rfl) ?_
  refine lv_iconst (v := 1) hx hb dX9_addFlour_7 (by decide) ?_
  refine lv_bipush (v := 99) hx hb dX9_addFlour_8 (by decide) ?_
  obtain ⟨r3, hc2, hf⟩ := bnr_some hf
  refine bk_non (v0 := v1) (w0 := v1) hB (fun h1 h2 h3 => bk_runS X (Av := [.int p1, .int 1, .int 99]) (rest := [.ref a]) (mX9_inRange hc2) ys_X9_inRange wm_1653 ⟨Nat.le_of_ble_eq_true rfl, Nat.le_of_ble_eq_true rfl⟩ rfl rfl hl.1 h1 h2 h3 (Nat.le_of_ble_eq_true rfl) ⟨Nat.le_of_ble_eq_true rfl, Nat.le_of_ble_eq_true rfl⟩ dX9_addFlour_10) (fun H locs hB => ?_)
  refine W.eq (g2 := F0 m 13 ls [.int r3, .ref a]) rfl ?_
  refine lv_iconst (v := 1) hx hb dX9_addFlour_13 (by decide) ?_
  obtain ⟨r6, w5, hc4, hf⟩ := bnd_some hf
  refine bk_all hB (fun h1 h2 h3 => bk_runV X (Av := [.int r3, .int 1]) (rest := []) (mX9_fails hc4) yv_X9_fails wm_1977 ⟨Nat.le_of_ble_eq_true rfl, Nat.le_of_ble_eq_true rfl⟩ rfl rfl hl.1 kl_X9.1 (hB.1.obj lc_Mo_0) h1 h2 h3 (Nat.le_of_ble_eq_true rfl) ⟨Nat.le_of_ble_eq_true rfl, Nat.le_of_ble_eq_true rfl⟩ dX9_addFlour_14) (fun H locs hB => ?_)
  refine W.eq (g2 := F0 m 17 ls [.int r6]) rfl ?_
  refine lv_if_ne (tgt := 44) hx hb dX9_addFlour_17 (by decide) (fun c7 => ?_) (fun c7 => ?_)
  · have hf := (if_neg c7).symm.trans hf
    refine lv_iconst (v := 0) hx hb dX9_addFlour_44 (by decide) ?_
    exact bk_iW X hr rfl hf hB (Nat.le_of_ble_eq_true rfl) (Nat.le_of_ble_eq_true rfl) dX9_addFlour_45
  · have hf := (if_pos c7).symm.trans hf
    refine lv_aload_n hx hb dX9_addFlour_20 rfl (lv_at hl 0 rfl) ?_
    refine lv_aload_n hx hb dX9_addFlour_21 rfl (lv_at hl 0 rfl) ?_
    refine bk_getR X hB kl_X9 0 lc_Mo_0 5 (by decide) rfl wm_1868 dX9_addFlour_22 ?_
    refine lv_iconst (v := 5) hx hb dX9_addFlour_25 (by decide) ?_
    refine bk_ald X hB 2 lc_Mo_2 (vp_c 5 496 rfl) dX9_addFlour_26 ?_
    refine lv_bipush (v := 6) hx hb dX9_addFlour_27 (by decide) ?_
    have hJ37 : ∀ (y8 : Int32) (v9 : bM) (H : Heap) (locs : List Loc) (ls : Array Slot), fX9_addFlour_J37 p1 y8 v9 = some (r0, w0) → bB D E LMo a v9 s H locs → lv_has ls 2 [(0, .ref a), (1, .int p1)] → W p l e (rmOf 2 0 0) s m args below meth c H locs 0 0 (bQ below D E LMo a w0 (some (.int r0)) args s 0 0) (F0 m 37 ls [.int y8, .ref a]) := by
      intro y8 v9 H locs ls hf hB hl
      have hf := (fX9_addFlour_J37.eq_1 p1 y8 v9).symm.trans hf
      refine lv_iconst (v := 2) hx hb dX9_addFlour_37 (by decide) ?_
      obtain ⟨r12, w11, hc10, hf⟩ := bnd_some hf
      refine bk_all hB (fun h1 h2 h3 => bk_runV X (Av := [.int y8, .int 2]) (rest := []) (mX9_fails hc10) yv_X9_fails wm_1977 ⟨Nat.le_of_ble_eq_true rfl, Nat.le_of_ble_eq_true rfl⟩ rfl rfl hl.1 kl_X9.1 (hB.1.obj lc_Mo_0) h1 h2 h3 (Nat.le_of_ble_eq_true rfl) ⟨Nat.le_of_ble_eq_true rfl, Nat.le_of_ble_eq_true rfl⟩ dX9_addFlour_38) (fun H locs hB => ?_)
      refine W.eq (g2 := F0 m 41 ls [.int r12]) rfl ?_
      refine lv_if_eq (tgt := 46) hx hb dX9_addFlour_41 (by decide) (fun c13 => ?_) (fun c13 => ?_)
      · have hf := (if_pos c13).symm.trans hf
        refine lv_aload_n hx hb dX9_addFlour_46 rfl (lv_at hl 0 rfl) ?_
        obtain ⟨w15, hc14, hf⟩ := bnw_some hf
        refine bk_all hB (fun h1 h2 h3 => bk_runV X (Av := []) (rest := []) (mX9_record hc14) yv_X9_record wm_2205 ⟨Nat.le_of_ble_eq_true rfl, Nat.le_of_ble_eq_true rfl⟩ rfl rfl hl.1 kl_X9.1 (hB.1.obj lc_Mo_0) h1 h2 h3 (Nat.le_of_ble_eq_true rfl) ⟨Nat.le_of_ble_eq_true rfl, Nat.le_of_ble_eq_true rfl⟩ dX9_addFlour_47) (fun H locs hB => ?_)
        refine W.eq (g2 := F0 m 50 ls []) rfl ?_
        refine lv_aload_n hx hb dX9_addFlour_50 rfl (lv_at hl 0 rfl) ?_
        refine lv_iload_n hx hb dX9_addFlour_51 rfl (lv_at hl 1 rfl) ?_
        obtain ⟨r18, w17, hc16, hf⟩ := bnd_some hf
        refine bk_all hB (fun h1 h2 h3 => bk_runV X (Av := [.int p1]) (rest := []) (mX9_doFlour hc16) yv_X9_doFlour wm_1794 ⟨Nat.le_of_ble_eq_true rfl, Nat.le_of_ble_eq_true rfl⟩ rfl rfl hl.1 kl_X9.1 (hB.1.obj lc_Mo_0) h1 h2 h3 (Nat.le_of_ble_eq_true rfl) ⟨Nat.le_of_ble_eq_true rfl, Nat.le_of_ble_eq_true rfl⟩ dX9_addFlour_52) (fun H locs hB => ?_)
        refine W.eq (g2 := F0 m 55 ls [.int r18]) rfl ?_
        exact bk_iW X hr rfl hf hB (Nat.le_of_ble_eq_true rfl) (Nat.le_of_ble_eq_true rfl) dX9_addFlour_55
      · have hf := (if_neg c13).symm.trans hf
        refine lv_iconst (v := 0) hx hb dX9_addFlour_44 (by decide) ?_
        exact bk_iW X hr rfl hf hB (Nat.le_of_ble_eq_true rfl) (Nat.le_of_ble_eq_true rfl) dX9_addFlour_45
    refine lv_icmp_ge (tgt := 36) hx hb dX9_addFlour_29 (by decide) (fun c19 => ?_) (fun c19 => ?_)
    · have hf := (if_pos c19).symm.trans hf
      refine lv_iconst (v := 0) hx hb dX9_addFlour_36 (by decide) ?_
      exact hJ37 0 w5 H locs ls hf hB (lv_sub hl [0, 1] rfl)
    · have hf := (if_neg c19).symm.trans hf
      refine lv_iconst (v := 1) hx hb dX9_addFlour_32 (by decide) ?_
      refine lv_goto (tgt := 37) hx hb dX9_addFlour_33 (by decide) ?_
      exact hJ37 1 w5 H locs ls hf hB (lv_sub hl [0, 1] rfl)
theorem yv_X9_addFlour : bYv yX9_addFlour RX9 cX9_addFlour 2 (some .int) 1 := ⟨⟨rfl, by decide, by decide, rfl⟩, wm_2202, wm_2203, wm_17, wm_2204⟩

theorem dX9_addBread_0 : decode cX9_addBread 0 = .ok (.aload_n 0, 1) := by decide +kernel
theorem dX9_addBread_1 : decode cX9_addBread 1 = .ok (.iconst 0, 1) := by decide +kernel
theorem dX9_addBread_2 : decode cX9_addBread 2 = .ok (.putfield 60, 3) := by decide +kernel
theorem dX9_addBread_5 : decode cX9_addBread 5 = .ok (.aload_n 0, 1) := by decide +kernel
theorem dX9_addBread_6 : decode cX9_addBread 6 = .ok (.iload_n 1, 1) := by decide +kernel
theorem dX9_addBread_7 : decode cX9_addBread 7 = .ok (.iconst 1, 1) := by decide +kernel
theorem dX9_addBread_8 : decode cX9_addBread 8 = .ok (.sipush 999, 3) := by decide +kernel
theorem dX9_addBread_11 : decode cX9_addBread 11 = .ok (.invokestatic 135, 3) := by decide +kernel
theorem dX9_addBread_14 : decode cX9_addBread 14 = .ok (.ifCond .eq 25, 3) := by decide +kernel
theorem dX9_addBread_17 : decode cX9_addBread 17 = .ok (.iload_n 2, 1) := by decide +kernel
theorem dX9_addBread_18 : decode cX9_addBread 18 = .ok (.iconst 1, 1) := by decide +kernel
theorem dX9_addBread_19 : decode cX9_addBread 19 = .ok (.bipush 9, 2) := by decide +kernel
theorem dX9_addBread_21 : decode cX9_addBread 21 = .ok (.invokestatic 135, 3) := by decide +kernel
theorem dX9_addBread_24 : decode cX9_addBread 24 = .ok (.ifCond .eq 15, 3) := by decide +kernel
theorem dX9_addBread_27 : decode cX9_addBread 27 = .ok (.aload_n 0, 1) := by decide +kernel
theorem dX9_addBread_28 : decode cX9_addBread 28 = .ok (.iload_n 3, 1) := by decide +kernel
theorem dX9_addBread_29 : decode cX9_addBread 29 = .ok (.invokevirtual 214, 3) := by decide +kernel
theorem dX9_addBread_32 : decode cX9_addBread 32 = .ok (.ifCond .eq 7, 3) := by decide +kernel
theorem dX9_addBread_35 : decode cX9_addBread 35 = .ok (.iconst 1, 1) := by decide +kernel
theorem dX9_addBread_36 : decode cX9_addBread 36 = .ok (.goto 4, 3) := by decide +kernel
theorem dX9_addBread_39 : decode cX9_addBread 39 = .ok (.iconst 0, 1) := by decide +kernel
theorem dX9_addBread_40 : decode cX9_addBread 40 = .ok (.iconst 1, 1) := by decide +kernel
theorem dX9_addBread_41 : decode cX9_addBread 41 = .ok (.invokevirtual 297, 3) := by decide +kernel
theorem dX9_addBread_44 : decode cX9_addBread 44 = .ok (.ifCond .ne 28, 3) := by decide +kernel
theorem dX9_addBread_47 : decode cX9_addBread 47 = .ok (.aload_n 0, 1) := by decide +kernel
theorem dX9_addBread_48 : decode cX9_addBread 48 = .ok (.aload_n 0, 1) := by decide +kernel
theorem dX9_addBread_49 : decode cX9_addBread 49 = .ok (.getfield 17, 3) := by decide +kernel
theorem dX9_addBread_52 : decode cX9_addBread 52 = .ok (.bipush 6, 2) := by decide +kernel
theorem dX9_addBread_54 : decode cX9_addBread 54 = .ok (.iaload, 1) := by decide +kernel
theorem dX9_addBread_55 : decode cX9_addBread 55 = .ok (.bipush 6, 2) := by decide +kernel
theorem dX9_addBread_57 : decode cX9_addBread 57 = .ok (.if_icmp .ge 7, 3) := by decide +kernel
theorem dX9_addBread_60 : decode cX9_addBread 60 = .ok (.iconst 1, 1) := by decide +kernel
theorem dX9_addBread_61 : decode cX9_addBread 61 = .ok (.goto 4, 3) := by decide +kernel
theorem dX9_addBread_64 : decode cX9_addBread 64 = .ok (.iconst 0, 1) := by decide +kernel
theorem dX9_addBread_65 : decode cX9_addBread 65 = .ok (.iconst 2, 1) := by decide +kernel
theorem dX9_addBread_66 : decode cX9_addBread 66 = .ok (.invokevirtual 297, 3) := by decide +kernel
theorem dX9_addBread_69 : decode cX9_addBread 69 = .ok (.ifCond .eq 5, 3) := by decide +kernel
theorem dX9_addBread_72 : decode cX9_addBread 72 = .ok (.iconst 0, 1) := by decide +kernel
theorem dX9_addBread_73 : decode cX9_addBread 73 = .ok (.ireturn, 1) := by decide +kernel
theorem dX9_addBread_74 : decode cX9_addBread 74 = .ok (.aload_n 0, 1) := by decide +kernel
theorem dX9_addBread_75 : decode cX9_addBread 75 = .ok (.invokevirtual 343, 3) := by decide +kernel
theorem dX9_addBread_78 : decode cX9_addBread 78 = .ok (.aload_n 0, 1) := by decide +kernel
theorem dX9_addBread_79 : decode cX9_addBread 79 = .ok (.iload_n 1, 1) := by decide +kernel
theorem dX9_addBread_80 : decode cX9_addBread 80 = .ok (.iload_n 2, 1) := by decide +kernel
theorem dX9_addBread_81 : decode cX9_addBread 81 = .ok (.iload_n 3, 1) := by decide +kernel
theorem dX9_addBread_82 : decode cX9_addBread 82 = .ok (.invokevirtual 248, 3) := by decide +kernel
theorem dX9_addBread_85 : decode cX9_addBread 85 = .ok (.ireturn, 1) := by decide +kernel
def fX9_addBread_J65 (p1 : Int32) (p2 : Int32) (p3 : Int32) (y10 : Int32) (v11 : bM) : Option (Int32 × bM) :=
  bnd (fX9_fails y10 2 v11) fun r14 w13 => (if r14 = 0 then (bnw (fX9_record w13) fun w17 => bnd (fX9_doBread p1 p2 p3 w17) fun r20 w19 => some (r20, w19)) else (some (0, w13)))
def fX9_addBread_J40 (p1 : Int32) (p2 : Int32) (p3 : Int32) (y4 : Int32) (v5 : bM) : Option (Int32 × bM) :=
  bnd (fX9_fails y4 1 v5) fun r8 w7 => (if r8 = 0 then ((if 6 ≤ (w7 (710 + (6 : Int32).toNatClampNeg)) then (fX9_addBread_J65 p1 p2 p3 0 w7) else (fX9_addBread_J65 p1 p2 p3 1 w7))) else (some (0, w7)))
def fX9_addBread_J39 (p1 : Int32) (p2 : Int32) (p3 : Int32)  (v22 : bM) : Option (Int32 × bM) :=
  fX9_addBread_J40 p1 p2 p3 0 v22
def fX9_addBread (p1 : Int32) (p2 : Int32) (p3 : Int32) (v : bM) : Option (Int32 × bM) :=
  nm (upd v 3 0) fun v1 => bnr (fX9_inRange p1 1 999) fun r3 => (if r3 = 0 then (fX9_addBread_J39 p1 p2 p3 v1) else (bnr (fX9_inRange p2 1 9) fun r25 => (if r25 = 0 then (fX9_addBread_J39 p1 p2 p3 v1) else (bnr (fX9_isRecipe p3 v1) fun r28 => (if r28 = 0 then (fX9_addBread_J39 p1 p2 p3 v1) else (fX9_addBread_J40 p1 p2 p3 1 v1))))))
set_option maxRecDepth 100000 in
set_option maxHeartbeats 4000000 in
theorem mX9_addBread {l : Launch} {p1 : Int32} {p2 : Int32} {p3 : Int32} {v : bM} {r0 : Int32} {w0 : bM} (hf : fX9_addBread p1 p2 p3 v = some (r0, w0)) : bMet l yX9_addBread cX9_addBread 4 (some .int) 2 0 0 LMo (fun E a => [.ref a, .int p1, .int p2, .int p3]) v w0 (fun _ => some (.int r0)) := by
  refine bk_start (by decide +kernel) wfMo (fun _ _ => Nat.le_of_ble_eq_true rfl) ?_
  intro p e s m args below meth c D E a ls H locs X hr hl hB
  have hx := X.1
  have hb := X.2.1
  have hown := X.2.2.2.1
  have hts := X.2.2.2.2.1
  have hl : lv_has ls 4 [(0, .ref a), (1, .int p1), (2, .int p2), (3, .int p3)] := hl
  have hf := (fX9_addBread.eq_1 p1 p2 p3 v).symm.trans hf
  refine lv_aload_n hx hb dX9_addBread_0 rfl (lv_at hl 0 rfl) ?_
  refine lv_iconst (v := 0) hx hb dX9_addBread_1 (by decide) ?_
  refine bk_putI X hB kl_X9 0 lc_Mo_0 4 (by decide) rfl rfl rfl wm_1867 dX9_addBread_2 rfl (fun H locs hB => ?_)
  obtain ⟨v1, ev1⟩ : ∃ y : bM, y = upd v 3 0 := ⟨_, rfl⟩
  have hf := nm_use hf ev1
  rw [← ev1] at hB
  refine lv_aload_n hx hb dX9_addBread_5 rfl (lv_at hl 0 rfl) ?_
  refine lv_iload_n hx hb dX9_addBread_6 rfl (lv_at hl 1 rfl) ?_
  refine lv_iconst (v := 1) hx hb dX9_addBread_7 (by decide) ?_
  refine lv_sipush (v := 999) hx hb dX9_addBread_8 (by decide) ?_
  obtain ⟨r3, hc2, hf⟩ := bnr_some hf
  refine bk_non (v0 := v1) (w0 := v1) hB (fun h1 h2 h3 => bk_runS X (Av := [.int p1, .int 1, .int 999]) (rest := [.ref a]) (mX9_inRange hc2) ys_X9_inRange wm_1653 ⟨Nat.le_of_ble_eq_true rfl, Nat.le_of_ble_eq_true rfl⟩ rfl rfl hl.1 h1 h2 h3 (Nat.le_of_ble_eq_true rfl) ⟨Nat.le_of_ble_eq_true rfl, Nat.le_of_ble_eq_true rfl⟩ dX9_addBread_11) (fun H locs hB => ?_)
  refine W.eq (g2 := F0 m 14 ls [.int r3, .ref a]) rfl ?_
  have hJ40 : ∀ (y4 : Int32) (v5 : bM) (H : Heap) (locs : List Loc) (ls : Array Slot), fX9_addBread_J40 p1 p2 p3 y4 v5 = some (r0, w0) → bB D E LMo a v5 s H locs → lv_has ls 4 [(0, .ref a), (1, .int p1), (2, .int p2), (3, .int p3)] → W p l e (rmOf 2 0 0) s m args below meth c H locs 0 0 (bQ below D E LMo a w0 (some (.int r0)) args s 0 0) (F0 m 40 ls [.int y4, .ref a]) := by
    intro y4 v5 H locs ls hf hB hl
    have hf := (fX9_addBread_J40.eq_1 p1 p2 p3 y4 v5).symm.trans hf
    refine lv_iconst (v := 1) hx hb dX9_addBread_40 (by decide) ?_
    obtain ⟨r8, w7, hc6, hf⟩ := bnd_some hf
    refine bk_all hB (fun h1 h2 h3 => bk_runV X (Av := [.int y4, .int 1]) (rest := []) (mX9_fails hc6) yv_X9_fails wm_1977 ⟨Nat.le_of_ble_eq_true rfl, Nat.le_of_ble_eq_true rfl⟩ rfl rfl hl.1 kl_X9.1 (hB.1.obj lc_Mo_0) h1 h2 h3 (Nat.le_of_ble_eq_true rfl) ⟨Nat.le_of_ble_eq_true rfl, Nat.le_of_ble_eq_true rfl⟩ dX9_addBread_41) (fun H locs hB => ?_)
    refine W.eq (g2 := F0 m 44 ls [.int r8]) rfl ?_
    refine lv_if_ne (tgt := 72) hx hb dX9_addBread_44 (by decide) (fun c9 => ?_) (fun c9 => ?_)
    · have hf := (if_neg c9).symm.trans hf
      refine lv_iconst (v := 0) hx hb dX9_addBread_72 (by decide) ?_
      exact bk_iW X hr rfl hf hB (Nat.le_of_ble_eq_true rfl) (Nat.le_of_ble_eq_true rfl) dX9_addBread_73
    · have hf := (if_pos c9).symm.trans hf
      refine lv_aload_n hx hb dX9_addBread_47 rfl (lv_at hl 0 rfl) ?_
      refine lv_aload_n hx hb dX9_addBread_48 rfl (lv_at hl 0 rfl) ?_
      refine bk_getR X hB kl_X9 0 lc_Mo_0 5 (by decide) rfl wm_1868 dX9_addBread_49 ?_
      refine lv_bipush (v := 6) hx hb dX9_addBread_52 (by decide) ?_
      refine bk_ald X hB 2 lc_Mo_2 (vp_c 6 496 rfl) dX9_addBread_54 ?_
      refine lv_bipush (v := 6) hx hb dX9_addBread_55 (by decide) ?_
      have hJ65 : ∀ (y10 : Int32) (v11 : bM) (H : Heap) (locs : List Loc) (ls : Array Slot), fX9_addBread_J65 p1 p2 p3 y10 v11 = some (r0, w0) → bB D E LMo a v11 s H locs → lv_has ls 4 [(0, .ref a), (1, .int p1), (2, .int p2), (3, .int p3)] → W p l e (rmOf 2 0 0) s m args below meth c H locs 0 0 (bQ below D E LMo a w0 (some (.int r0)) args s 0 0) (F0 m 65 ls [.int y10, .ref a]) := by
        intro y10 v11 H locs ls hf hB hl
        have hf := (fX9_addBread_J65.eq_1 p1 p2 p3 y10 v11).symm.trans hf
        refine lv_iconst (v := 2) hx hb dX9_addBread_65 (by decide) ?_
        obtain ⟨r14, w13, hc12, hf⟩ := bnd_some hf
        refine bk_all hB (fun h1 h2 h3 => bk_runV X (Av := [.int y10, .int 2]) (rest := []) (mX9_fails hc12) yv_X9_fails wm_1977 ⟨Nat.le_of_ble_eq_true rfl, Nat.le_of_ble_eq_true rfl⟩ rfl rfl hl.1 kl_X9.1 (hB.1.obj lc_Mo_0) h1 h2 h3 (Nat.le_of_ble_eq_true rfl) ⟨Nat.le_of_ble_eq_true rfl, Nat.le_of_ble_eq_true rfl⟩ dX9_addBread_66) (fun H locs hB => ?_)
        refine W.eq (g2 := F0 m 69 ls [.int r14]) rfl ?_
        refine lv_if_eq (tgt := 74) hx hb dX9_addBread_69 (by decide) (fun c15 => ?_) (fun c15 => ?_)
        · have hf := (if_pos c15).symm.trans hf
          refine lv_aload_n hx hb dX9_addBread_74 rfl (lv_at hl 0 rfl) ?_
          obtain ⟨w17, hc16, hf⟩ := bnw_some hf
          refine bk_all hB (fun h1 h2 h3 => bk_runV X (Av := []) (rest := []) (mX9_record hc16) yv_X9_record wm_2205 ⟨Nat.le_of_ble_eq_true rfl, Nat.le_of_ble_eq_true rfl⟩ rfl rfl hl.1 kl_X9.1 (hB.1.obj lc_Mo_0) h1 h2 h3 (Nat.le_of_ble_eq_true rfl) ⟨Nat.le_of_ble_eq_true rfl, Nat.le_of_ble_eq_true rfl⟩ dX9_addBread_75) (fun H locs hB => ?_)
          refine W.eq (g2 := F0 m 78 ls []) rfl ?_
          refine lv_aload_n hx hb dX9_addBread_78 rfl (lv_at hl 0 rfl) ?_
          refine lv_iload_n hx hb dX9_addBread_79 rfl (lv_at hl 1 rfl) ?_
          refine lv_iload_n hx hb dX9_addBread_80 rfl (lv_at hl 2 rfl) ?_
          refine lv_iload_n hx hb dX9_addBread_81 rfl (lv_at hl 3 rfl) ?_
          obtain ⟨r20, w19, hc18, hf⟩ := bnd_some hf
          refine bk_all hB (fun h1 h2 h3 => bk_runV X (Av := [.int p1, .int p2, .int p3]) (rest := []) (mX9_doBread hc18) yv_X9_doBread wm_1802 ⟨Nat.le_of_ble_eq_true rfl, Nat.le_of_ble_eq_true rfl⟩ rfl rfl hl.1 kl_X9.1 (hB.1.obj lc_Mo_0) h1 h2 h3 (Nat.le_of_ble_eq_true rfl) ⟨Nat.le_of_ble_eq_true rfl, Nat.le_of_ble_eq_true rfl⟩ dX9_addBread_82) (fun H locs hB => ?_)
          refine W.eq (g2 := F0 m 85 ls [.int r20]) rfl ?_
          exact bk_iW X hr rfl hf hB (Nat.le_of_ble_eq_true rfl) (Nat.le_of_ble_eq_true rfl) dX9_addBread_85
        · have hf := (if_neg c15).symm.trans hf
          refine lv_iconst (v := 0) hx hb dX9_addBread_72 (by decide) ?_
          exact bk_iW X hr rfl hf hB (Nat.le_of_ble_eq_true rfl) (Nat.le_of_ble_eq_true rfl) dX9_addBread_73
      refine lv_icmp_ge (tgt := 64) hx hb dX9_addBread_57 (by decide) (fun c21 => ?_) (fun c21 => ?_)
      · have hf := (if_pos c21).symm.trans hf
        refine lv_iconst (v := 0) hx hb dX9_addBread_64 (by decide) ?_
        exact hJ65 0 w7 H locs ls hf hB (lv_sub hl [0, 1, 2, 3] rfl)
      · have hf := (if_neg c21).symm.trans hf
        refine lv_iconst (v := 1) hx hb dX9_addBread_60 (by decide) ?_
        refine lv_goto (tgt := 65) hx hb dX9_addBread_61 (by decide) ?_
        exact hJ65 1 w7 H locs ls hf hB (lv_sub hl [0, 1, 2, 3] rfl)
  have hJ39 : ∀ (v22 : bM) (H : Heap) (locs : List Loc) (ls : Array Slot), fX9_addBread_J39 p1 p2 p3 v22 = some (r0, w0) → bB D E LMo a v22 s H locs → lv_has ls 4 [(0, .ref a), (1, .int p1), (2, .int p2), (3, .int p3)] → W p l e (rmOf 2 0 0) s m args below meth c H locs 0 0 (bQ below D E LMo a w0 (some (.int r0)) args s 0 0) (F0 m 39 ls [.ref a]) := by
    intro v22 H locs ls hf hB hl
    have hf := (fX9_addBread_J39.eq_1 p1 p2 p3 v22).symm.trans hf
    refine lv_iconst (v := 0) hx hb dX9_addBread_39 (by decide) ?_
    exact hJ40 0 v22 H locs ls hf hB (lv_sub hl [0, 1, 2, 3] rfl)
  refine lv_if_eq (tgt := 39) hx hb dX9_addBread_14 (by decide) (fun c23 => ?_) (fun c23 => ?_)
  · have hf := (if_pos c23).symm.trans hf
    exact hJ39 v1 H locs ls hf hB (lv_sub hl [0, 1, 2, 3] rfl)
  · have hf := (if_neg c23).symm.trans hf
    refine lv_iload_n hx hb dX9_addBread_17 rfl (lv_at hl 2 rfl) ?_
    refine lv_iconst (v := 1) hx hb dX9_addBread_18 (by decide) ?_
    refine lv_bipush (v := 9) hx hb dX9_addBread_19 (by decide) ?_
    obtain ⟨r25, hc24, hf⟩ := bnr_some hf
    refine bk_non (v0 := v1) (w0 := v1) hB (fun h1 h2 h3 => bk_runS X (Av := [.int p2, .int 1, .int 9]) (rest := [.ref a]) (mX9_inRange hc24) ys_X9_inRange wm_1653 ⟨Nat.le_of_ble_eq_true rfl, Nat.le_of_ble_eq_true rfl⟩ rfl rfl hl.1 h1 h2 h3 (Nat.le_of_ble_eq_true rfl) ⟨Nat.le_of_ble_eq_true rfl, Nat.le_of_ble_eq_true rfl⟩ dX9_addBread_21) (fun H locs hB => ?_)
    refine W.eq (g2 := F0 m 24 ls [.int r25, .ref a]) rfl ?_
    refine lv_if_eq (tgt := 39) hx hb dX9_addBread_24 (by decide) (fun c26 => ?_) (fun c26 => ?_)
    · have hf := (if_pos c26).symm.trans hf
      exact hJ39 v1 H locs ls hf hB (lv_sub hl [0, 1, 2, 3] rfl)
    · have hf := (if_neg c26).symm.trans hf
      refine lv_aload_n hx hb dX9_addBread_27 rfl (lv_at hl 0 rfl) ?_
      refine lv_iload_n hx hb dX9_addBread_28 rfl (lv_at hl 3 rfl) ?_
      obtain ⟨r28, hc27, hf⟩ := bnr_some hf
      refine bk_all hB (fun h1 h2 h3 => bk_runV X (Av := [.int p3]) (rest := [.ref a]) (mX9_isRecipe hc27) yv_X9_isRecipe wm_1725 ⟨Nat.le_of_ble_eq_true rfl, Nat.le_of_ble_eq_true rfl⟩ rfl rfl hl.1 kl_X9.1 (hB.1.obj lc_Mo_0) h1 h2 h3 (Nat.le_of_ble_eq_true rfl) ⟨Nat.le_of_ble_eq_true rfl, Nat.le_of_ble_eq_true rfl⟩ dX9_addBread_29) (fun H locs hB => ?_)
      refine W.eq (g2 := F0 m 32 ls [.int r28, .ref a]) rfl ?_
      refine lv_if_eq (tgt := 39) hx hb dX9_addBread_32 (by decide) (fun c29 => ?_) (fun c29 => ?_)
      · have hf := (if_pos c29).symm.trans hf
        exact hJ39 v1 H locs ls hf hB (lv_sub hl [0, 1, 2, 3] rfl)
      · have hf := (if_neg c29).symm.trans hf
        refine lv_iconst (v := 1) hx hb dX9_addBread_35 (by decide) ?_
        refine lv_goto (tgt := 40) hx hb dX9_addBread_36 (by decide) ?_
        exact hJ40 1 v1 H locs ls hf hB (lv_sub hl [0, 1, 2, 3] rfl)
theorem yv_X9_addBread : bYv yX9_addBread RX9 cX9_addBread 4 (some .int) 3 := ⟨⟨rfl, by decide, by decide, rfl⟩, wm_2210, wm_2211, wm_17, wm_2212⟩

theorem dX9_buy_0 : decode cX9_buy 0 = .ok (.aload_n 0, 1) := by decide +kernel
theorem dX9_buy_1 : decode cX9_buy 1 = .ok (.iload_n 1, 1) := by decide +kernel
theorem dX9_buy_2 : decode cX9_buy 2 = .ok (.invokevirtual 301, 3) := by decide +kernel
theorem dX9_buy_5 : decode cX9_buy 5 = .ok (.ifCond .eq 51, 3) := by decide +kernel
theorem dX9_buy_8 : decode cX9_buy 8 = .ok (.aload_n 0, 1) := by decide +kernel
theorem dX9_buy_9 : decode cX9_buy 9 = .ok (.iload_n 2, 1) := by decide +kernel
theorem dX9_buy_10 : decode cX9_buy 10 = .ok (.iconst 1, 1) := by decide +kernel
theorem dX9_buy_11 : decode cX9_buy 11 = .ok (.bipush 99, 2) := by decide +kernel
theorem dX9_buy_13 : decode cX9_buy 13 = .ok (.invokestatic 135, 3) := by decide +kernel
theorem dX9_buy_16 : decode cX9_buy 16 = .ok (.ifCond .eq 17, 3) := by decide +kernel
theorem dX9_buy_19 : decode cX9_buy 19 = .ok (.iload_n 3, 1) := by decide +kernel
theorem dX9_buy_20 : decode cX9_buy 20 = .ok (.iconst 1, 1) := by decide +kernel
theorem dX9_buy_21 : decode cX9_buy 21 = .ok (.bipush 99, 2) := by decide +kernel
theorem dX9_buy_23 : decode cX9_buy 23 = .ok (.invokestatic 135, 3) := by decide +kernel
theorem dX9_buy_26 : decode cX9_buy 26 = .ok (.ifCond .eq 7, 3) := by decide +kernel
theorem dX9_buy_29 : decode cX9_buy 29 = .ok (.iconst 1, 1) := by decide +kernel
theorem dX9_buy_30 : decode cX9_buy 30 = .ok (.goto 4, 3) := by decide +kernel
theorem dX9_buy_33 : decode cX9_buy 33 = .ok (.iconst 0, 1) := by decide +kernel
theorem dX9_buy_34 : decode cX9_buy 34 = .ok (.iconst 2, 1) := by decide +kernel
theorem dX9_buy_35 : decode cX9_buy 35 = .ok (.invokevirtual 297, 3) := by decide +kernel
theorem dX9_buy_38 : decode cX9_buy 38 = .ok (.ifCond .ne 18, 3) := by decide +kernel
theorem dX9_buy_41 : decode cX9_buy 41 = .ok (.aload_n 0, 1) := by decide +kernel
theorem dX9_buy_42 : decode cX9_buy 42 = .ok (.aload_n 0, 1) := by decide +kernel
theorem dX9_buy_43 : decode cX9_buy 43 = .ok (.iload_n 1, 1) := by decide +kernel
theorem dX9_buy_44 : decode cX9_buy 44 = .ok (.iload_n 2, 1) := by decide +kernel
theorem dX9_buy_45 : decode cX9_buy 45 = .ok (.iload_n 3, 1) := by decide +kernel
theorem dX9_buy_46 : decode cX9_buy 46 = .ok (.invokevirtual 239, 3) := by decide +kernel
theorem dX9_buy_49 : decode cX9_buy 49 = .ok (.iconst 3, 1) := by decide +kernel
theorem dX9_buy_50 : decode cX9_buy 50 = .ok (.invokevirtual 297, 3) := by decide +kernel
theorem dX9_buy_53 : decode cX9_buy 53 = .ok (.ifCond .eq 5, 3) := by decide +kernel
theorem dX9_buy_56 : decode cX9_buy 56 = .ok (.iconst 0, 1) := by decide +kernel
theorem dX9_buy_57 : decode cX9_buy 57 = .ok (.ireturn, 1) := by decide +kernel
theorem dX9_buy_58 : decode cX9_buy 58 = .ok (.aload_n 0, 1) := by decide +kernel
theorem dX9_buy_59 : decode cX9_buy 59 = .ok (.invokevirtual 343, 3) := by decide +kernel
theorem dX9_buy_62 : decode cX9_buy 62 = .ok (.aload_n 0, 1) := by decide +kernel
theorem dX9_buy_63 : decode cX9_buy 63 = .ok (.iload_n 1, 1) := by decide +kernel
theorem dX9_buy_64 : decode cX9_buy 64 = .ok (.iload_n 2, 1) := by decide +kernel
theorem dX9_buy_65 : decode cX9_buy 65 = .ok (.iload_n 3, 1) := by decide +kernel
theorem dX9_buy_66 : decode cX9_buy 66 = .ok (.invokevirtual 251, 3) := by decide +kernel
theorem dX9_buy_69 : decode cX9_buy 69 = .ok (.ireturn, 1) := by decide +kernel
def fX9_buy_J34 (p1 : Int32) (p2 : Int32) (p3 : Int32) (y7 : Int32) (v8 : bM) : Option (Int32 × bM) :=
  bnd (fX9_fails y7 2 v8) fun r11 w10 => (if r11 = 0 then (bnr (fX9_canBuy p1 p2 p3 w10) fun r14 => bnd (fX9_fails r14 3 w10) fun r17 w16 => (if r17 = 0 then (bnw (fX9_record w16) fun w20 => bnd (fX9_doBuy p1 p2 p3 w20) fun r23 w22 => some (r23, w22)) else (some (0, w16)))) else (some (0, w10)))
def fX9_buy_J33 (p1 : Int32) (p2 : Int32) (p3 : Int32)  (v24 : bM) : Option (Int32 × bM) :=
  fX9_buy_J34 p1 p2 p3 0 v24
def fX9_buy (p1 : Int32) (p2 : Int32) (p3 : Int32) (v : bM) : Option (Int32 × bM) :=
  bnd (fX9_isFlour p1 v) fun r3 w2 => (if r3 = 0 then (some (0, w2)) else (bnr (fX9_inRange p2 1 99) fun r6 => (if r6 = 0 then (fX9_buy_J33 p1 p2 p3 w2) else (bnr (fX9_inRange p3 1 99) fun r27 => (if r27 = 0 then (fX9_buy_J33 p1 p2 p3 w2) else (fX9_buy_J34 p1 p2 p3 1 w2))))))
set_option maxRecDepth 100000 in
set_option maxHeartbeats 4000000 in
theorem mX9_buy {l : Launch} {p1 : Int32} {p2 : Int32} {p3 : Int32} {v : bM} {r0 : Int32} {w0 : bM} (hf : fX9_buy p1 p2 p3 v = some (r0, w0)) : bMet l yX9_buy cX9_buy 4 (some .int) 2 0 0 LMo (fun E a => [.ref a, .int p1, .int p2, .int p3]) v w0 (fun _ => some (.int r0)) := by
  refine bk_start (by decide +kernel) wfMo (fun _ _ => Nat.le_of_ble_eq_true rfl) ?_
  intro p e s m args below meth c D E a ls H locs X hr hl hB
  have hx := X.1
  have hb := X.2.1
  have hown := X.2.2.2.1
  have hts := X.2.2.2.2.1
  have hl : lv_has ls 4 [(0, .ref a), (1, .int p1), (2, .int p2), (3, .int p3)] := hl
  have hf := (fX9_buy.eq_1 p1 p2 p3 v).symm.trans hf
  refine lv_aload_n hx hb dX9_buy_0 rfl (lv_at hl 0 rfl) ?_
  refine lv_iload_n hx hb dX9_buy_1 rfl (lv_at hl 1 rfl) ?_
  obtain ⟨r3, w2, hc1, hf⟩ := bnd_some hf
  refine bk_all hB (fun h1 h2 h3 => bk_runV X (Av := [.int p1]) (rest := []) (mX9_isFlour hc1) yv_X9_isFlour wm_1973 ⟨Nat.le_of_ble_eq_true rfl, Nat.le_of_ble_eq_true rfl⟩ rfl rfl hl.1 kl_X9.1 (hB.1.obj lc_Mo_0) h1 h2 h3 (Nat.le_of_ble_eq_true rfl) ⟨Nat.le_of_ble_eq_true rfl, Nat.le_of_ble_eq_true rfl⟩ dX9_buy_2) (fun H locs hB => ?_)
  refine W.eq (g2 := F0 m 5 ls [.int r3]) rfl ?_
  refine lv_if_eq (tgt := 56) hx hb dX9_buy_5 (by decide) (fun c4 => ?_) (fun c4 => ?_)
  · have hf := (if_pos c4).symm.trans hf
    refine lv_iconst (v := 0) hx hb dX9_buy_56 (by decide) ?_
    exact bk_iW X hr rfl hf hB (Nat.le_of_ble_eq_true rfl) (Nat.le_of_ble_eq_true rfl) dX9_buy_57
  · have hf := (if_neg c4).symm.trans hf
    refine lv_aload_n hx hb dX9_buy_8 rfl (lv_at hl 0 rfl) ?_
    refine lv_iload_n hx hb dX9_buy_9 rfl (lv_at hl 2 rfl) ?_
    refine lv_iconst (v := 1) hx hb dX9_buy_10 (by decide) ?_
    refine lv_bipush (v := 99) hx hb dX9_buy_11 (by decide) ?_
    obtain ⟨r6, hc5, hf⟩ := bnr_some hf
    refine bk_non (v0 := w2) (w0 := w2) hB (fun h1 h2 h3 => bk_runS X (Av := [.int p2, .int 1, .int 99]) (rest := [.ref a]) (mX9_inRange hc5) ys_X9_inRange wm_1653 ⟨Nat.le_of_ble_eq_true rfl, Nat.le_of_ble_eq_true rfl⟩ rfl rfl hl.1 h1 h2 h3 (Nat.le_of_ble_eq_true rfl) ⟨Nat.le_of_ble_eq_true rfl, Nat.le_of_ble_eq_true rfl⟩ dX9_buy_13) (fun H locs hB => ?_)
    refine W.eq (g2 := F0 m 16 ls [.int r6, .ref a]) rfl ?_
    have hJ34 : ∀ (y7 : Int32) (v8 : bM) (H : Heap) (locs : List Loc) (ls : Array Slot), fX9_buy_J34 p1 p2 p3 y7 v8 = some (r0, w0) → bB D E LMo a v8 s H locs → lv_has ls 4 [(0, .ref a), (1, .int p1), (2, .int p2), (3, .int p3)] → W p l e (rmOf 2 0 0) s m args below meth c H locs 0 0 (bQ below D E LMo a w0 (some (.int r0)) args s 0 0) (F0 m 34 ls [.int y7, .ref a]) := by
      intro y7 v8 H locs ls hf hB hl
      have hf := (fX9_buy_J34.eq_1 p1 p2 p3 y7 v8).symm.trans hf
      refine lv_iconst (v := 2) hx hb dX9_buy_34 (by decide) ?_
      obtain ⟨r11, w10, hc9, hf⟩ := bnd_some hf
      refine bk_all hB (fun h1 h2 h3 => bk_runV X (Av := [.int y7, .int 2]) (rest := []) (mX9_fails hc9) yv_X9_fails wm_1977 ⟨Nat.le_of_ble_eq_true rfl, Nat.le_of_ble_eq_true rfl⟩ rfl rfl hl.1 kl_X9.1 (hB.1.obj lc_Mo_0) h1 h2 h3 (Nat.le_of_ble_eq_true rfl) ⟨Nat.le_of_ble_eq_true rfl, Nat.le_of_ble_eq_true rfl⟩ dX9_buy_35) (fun H locs hB => ?_)
      refine W.eq (g2 := F0 m 38 ls [.int r11]) rfl ?_
      refine lv_if_ne (tgt := 56) hx hb dX9_buy_38 (by decide) (fun c12 => ?_) (fun c12 => ?_)
      · have hf := (if_neg c12).symm.trans hf
        refine lv_iconst (v := 0) hx hb dX9_buy_56 (by decide) ?_
        exact bk_iW X hr rfl hf hB (Nat.le_of_ble_eq_true rfl) (Nat.le_of_ble_eq_true rfl) dX9_buy_57
      · have hf := (if_pos c12).symm.trans hf
        refine lv_aload_n hx hb dX9_buy_41 rfl (lv_at hl 0 rfl) ?_
        refine lv_aload_n hx hb dX9_buy_42 rfl (lv_at hl 0 rfl) ?_
        refine lv_iload_n hx hb dX9_buy_43 rfl (lv_at hl 1 rfl) ?_
        refine lv_iload_n hx hb dX9_buy_44 rfl (lv_at hl 2 rfl) ?_
        refine lv_iload_n hx hb dX9_buy_45 rfl (lv_at hl 3 rfl) ?_
        obtain ⟨r14, hc13, hf⟩ := bnr_some hf
        refine bk_all hB (fun h1 h2 h3 => bk_runV X (Av := [.int p1, .int p2, .int p3]) (rest := [.ref a]) (mX9_canBuy hc13) yv_X9_canBuy wm_1754 ⟨Nat.le_of_ble_eq_true rfl, Nat.le_of_ble_eq_true rfl⟩ rfl rfl hl.1 kl_X9.1 (hB.1.obj lc_Mo_0) h1 h2 h3 (Nat.le_of_ble_eq_true rfl) ⟨Nat.le_of_ble_eq_true rfl, Nat.le_of_ble_eq_true rfl⟩ dX9_buy_46) (fun H locs hB => ?_)
        refine W.eq (g2 := F0 m 49 ls [.int r14, .ref a]) rfl ?_
        refine lv_iconst (v := 3) hx hb dX9_buy_49 (by decide) ?_
        obtain ⟨r17, w16, hc15, hf⟩ := bnd_some hf
        refine bk_all hB (fun h1 h2 h3 => bk_runV X (Av := [.int r14, .int 3]) (rest := []) (mX9_fails hc15) yv_X9_fails wm_1977 ⟨Nat.le_of_ble_eq_true rfl, Nat.le_of_ble_eq_true rfl⟩ rfl rfl hl.1 kl_X9.1 (hB.1.obj lc_Mo_0) h1 h2 h3 (Nat.le_of_ble_eq_true rfl) ⟨Nat.le_of_ble_eq_true rfl, Nat.le_of_ble_eq_true rfl⟩ dX9_buy_50) (fun H locs hB => ?_)
        refine W.eq (g2 := F0 m 53 ls [.int r17]) rfl ?_
        refine lv_if_eq (tgt := 58) hx hb dX9_buy_53 (by decide) (fun c18 => ?_) (fun c18 => ?_)
        · have hf := (if_pos c18).symm.trans hf
          refine lv_aload_n hx hb dX9_buy_58 rfl (lv_at hl 0 rfl) ?_
          obtain ⟨w20, hc19, hf⟩ := bnw_some hf
          refine bk_all hB (fun h1 h2 h3 => bk_runV X (Av := []) (rest := []) (mX9_record hc19) yv_X9_record wm_2205 ⟨Nat.le_of_ble_eq_true rfl, Nat.le_of_ble_eq_true rfl⟩ rfl rfl hl.1 kl_X9.1 (hB.1.obj lc_Mo_0) h1 h2 h3 (Nat.le_of_ble_eq_true rfl) ⟨Nat.le_of_ble_eq_true rfl, Nat.le_of_ble_eq_true rfl⟩ dX9_buy_59) (fun H locs hB => ?_)
          refine W.eq (g2 := F0 m 62 ls []) rfl ?_
          refine lv_aload_n hx hb dX9_buy_62 rfl (lv_at hl 0 rfl) ?_
          refine lv_iload_n hx hb dX9_buy_63 rfl (lv_at hl 1 rfl) ?_
          refine lv_iload_n hx hb dX9_buy_64 rfl (lv_at hl 2 rfl) ?_
          refine lv_iload_n hx hb dX9_buy_65 rfl (lv_at hl 3 rfl) ?_
          obtain ⟨r23, w22, hc21, hf⟩ := bnd_some hf
          refine bk_all hB (fun h1 h2 h3 => bk_runV X (Av := [.int p1, .int p2, .int p3]) (rest := []) (mX9_doBuy hc21) yv_X9_doBuy wm_1806 ⟨Nat.le_of_ble_eq_true rfl, Nat.le_of_ble_eq_true rfl⟩ rfl rfl hl.1 kl_X9.1 (hB.1.obj lc_Mo_0) h1 h2 h3 (Nat.le_of_ble_eq_true rfl) ⟨Nat.le_of_ble_eq_true rfl, Nat.le_of_ble_eq_true rfl⟩ dX9_buy_66) (fun H locs hB => ?_)
          refine W.eq (g2 := F0 m 69 ls [.int r23]) rfl ?_
          exact bk_iW X hr rfl hf hB (Nat.le_of_ble_eq_true rfl) (Nat.le_of_ble_eq_true rfl) dX9_buy_69
        · have hf := (if_neg c18).symm.trans hf
          refine lv_iconst (v := 0) hx hb dX9_buy_56 (by decide) ?_
          exact bk_iW X hr rfl hf hB (Nat.le_of_ble_eq_true rfl) (Nat.le_of_ble_eq_true rfl) dX9_buy_57
    have hJ33 : ∀ (v24 : bM) (H : Heap) (locs : List Loc) (ls : Array Slot), fX9_buy_J33 p1 p2 p3 v24 = some (r0, w0) → bB D E LMo a v24 s H locs → lv_has ls 4 [(0, .ref a), (1, .int p1), (2, .int p2), (3, .int p3)] → W p l e (rmOf 2 0 0) s m args below meth c H locs 0 0 (bQ below D E LMo a w0 (some (.int r0)) args s 0 0) (F0 m 33 ls [.ref a]) := by
      intro v24 H locs ls hf hB hl
      have hf := (fX9_buy_J33.eq_1 p1 p2 p3 v24).symm.trans hf
      refine lv_iconst (v := 0) hx hb dX9_buy_33 (by decide) ?_
      exact hJ34 0 v24 H locs ls hf hB (lv_sub hl [0, 1, 2, 3] rfl)
    refine lv_if_eq (tgt := 33) hx hb dX9_buy_16 (by decide) (fun c25 => ?_) (fun c25 => ?_)
    · have hf := (if_pos c25).symm.trans hf
      exact hJ33 w2 H locs ls hf hB (lv_sub hl [0, 1, 2, 3] rfl)
    · have hf := (if_neg c25).symm.trans hf
      refine lv_iload_n hx hb dX9_buy_19 rfl (lv_at hl 3 rfl) ?_
      refine lv_iconst (v := 1) hx hb dX9_buy_20 (by decide) ?_
      refine lv_bipush (v := 99) hx hb dX9_buy_21 (by decide) ?_
      obtain ⟨r27, hc26, hf⟩ := bnr_some hf
      refine bk_non (v0 := w2) (w0 := w2) hB (fun h1 h2 h3 => bk_runS X (Av := [.int p3, .int 1, .int 99]) (rest := [.ref a]) (mX9_inRange hc26) ys_X9_inRange wm_1653 ⟨Nat.le_of_ble_eq_true rfl, Nat.le_of_ble_eq_true rfl⟩ rfl rfl hl.1 h1 h2 h3 (Nat.le_of_ble_eq_true rfl) ⟨Nat.le_of_ble_eq_true rfl, Nat.le_of_ble_eq_true rfl⟩ dX9_buy_23) (fun H locs hB => ?_)
      refine W.eq (g2 := F0 m 26 ls [.int r27, .ref a]) rfl ?_
      refine lv_if_eq (tgt := 33) hx hb dX9_buy_26 (by decide) (fun c28 => ?_) (fun c28 => ?_)
      · have hf := (if_pos c28).symm.trans hf
        exact hJ33 w2 H locs ls hf hB (lv_sub hl [0, 1, 2, 3] rfl)
      · have hf := (if_neg c28).symm.trans hf
        refine lv_iconst (v := 1) hx hb dX9_buy_29 (by decide) ?_
        refine lv_goto (tgt := 34) hx hb dX9_buy_30 (by decide) ?_
        exact hJ34 1 w2 H locs ls hf hB (lv_sub hl [0, 1, 2, 3] rfl)
theorem yv_X9_buy : bYv yX9_buy RX9 cX9_buy 4 (some .int) 3 := ⟨⟨rfl, by decide, by decide, rfl⟩, wm_2214, wm_2215, wm_17, wm_2216⟩

theorem dX9_setRate_0 : decode cX9_setRate 0 = .ok (.aload_n 0, 1) := by decide +kernel
theorem dX9_setRate_1 : decode cX9_setRate 1 = .ok (.iconst 0, 1) := by decide +kernel
theorem dX9_setRate_2 : decode cX9_setRate 2 = .ok (.putfield 60, 3) := by decide +kernel
theorem dX9_setRate_5 : decode cX9_setRate 5 = .ok (.aload_n 0, 1) := by decide +kernel
theorem dX9_setRate_6 : decode cX9_setRate 6 = .ok (.iload_n 1, 1) := by decide +kernel
theorem dX9_setRate_7 : decode cX9_setRate 7 = .ok (.iconst 0, 1) := by decide +kernel
theorem dX9_setRate_8 : decode cX9_setRate 8 = .ok (.bipush 23, 2) := by decide +kernel
theorem dX9_setRate_10 : decode cX9_setRate 10 = .ok (.invokestatic 135, 3) := by decide +kernel
theorem dX9_setRate_13 : decode cX9_setRate 13 = .ok (.ifCond .eq 17, 3) := by decide +kernel
theorem dX9_setRate_16 : decode cX9_setRate 16 = .ok (.iload_n 2, 1) := by decide +kernel
theorem dX9_setRate_17 : decode cX9_setRate 17 = .ok (.iconst 0, 1) := by decide +kernel
theorem dX9_setRate_18 : decode cX9_setRate 18 = .ok (.bipush 20, 2) := by decide +kernel
theorem dX9_setRate_20 : decode cX9_setRate 20 = .ok (.invokestatic 135, 3) := by decide +kernel
theorem dX9_setRate_23 : decode cX9_setRate 23 = .ok (.ifCond .eq 7, 3) := by decide +kernel
theorem dX9_setRate_26 : decode cX9_setRate 26 = .ok (.iconst 1, 1) := by decide +kernel
theorem dX9_setRate_27 : decode cX9_setRate 27 = .ok (.goto 4, 3) := by decide +kernel
theorem dX9_setRate_30 : decode cX9_setRate 30 = .ok (.iconst 0, 1) := by decide +kernel
theorem dX9_setRate_31 : decode cX9_setRate 31 = .ok (.iconst 1, 1) := by decide +kernel
theorem dX9_setRate_32 : decode cX9_setRate 32 = .ok (.invokevirtual 297, 3) := by decide +kernel
theorem dX9_setRate_35 : decode cX9_setRate 35 = .ok (.ifCond .eq 5, 3) := by decide +kernel
theorem dX9_setRate_38 : decode cX9_setRate 38 = .ok (.iconst 0, 1) := by decide +kernel
theorem dX9_setRate_39 : decode cX9_setRate 39 = .ok (.ireturn, 1) := by decide +kernel
theorem dX9_setRate_40 : decode cX9_setRate 40 = .ok (.aload_n 0, 1) := by decide +kernel
theorem dX9_setRate_41 : decode cX9_setRate 41 = .ok (.invokevirtual 343, 3) := by decide +kernel
theorem dX9_setRate_44 : decode cX9_setRate 44 = .ok (.aload_n 0, 1) := by decide +kernel
theorem dX9_setRate_45 : decode cX9_setRate 45 = .ok (.iload_n 1, 1) := by decide +kernel
theorem dX9_setRate_46 : decode cX9_setRate 46 = .ok (.iload_n 2, 1) := by decide +kernel
theorem dX9_setRate_47 : decode cX9_setRate 47 = .ok (.invokevirtual 254, 3) := by decide +kernel
theorem dX9_setRate_50 : decode cX9_setRate 50 = .ok (.ireturn, 1) := by decide +kernel
def fX9_setRate_J31 (p1 : Int32) (p2 : Int32) (y4 : Int32) (v5 : bM) : Option (Int32 × bM) :=
  bnd (fX9_fails y4 1 v5) fun r8 w7 => (if r8 = 0 then (bnw (fX9_record w7) fun w11 => bnd (fX9_doRate p1 p2 w11) fun r14 w13 => some (r14, w13)) else (some (0, w7)))
def fX9_setRate_J30 (p1 : Int32) (p2 : Int32)  (v15 : bM) : Option (Int32 × bM) :=
  fX9_setRate_J31 p1 p2 0 v15
def fX9_setRate (p1 : Int32) (p2 : Int32) (v : bM) : Option (Int32 × bM) :=
  nm (upd v 3 0) fun v1 => bnr (fX9_inRange p1 0 23) fun r3 => (if r3 = 0 then (fX9_setRate_J30 p1 p2 v1) else (bnr (fX9_inRange p2 0 20) fun r18 => (if r18 = 0 then (fX9_setRate_J30 p1 p2 v1) else (fX9_setRate_J31 p1 p2 1 v1))))
set_option maxRecDepth 100000 in
set_option maxHeartbeats 4000000 in
theorem mX9_setRate {l : Launch} {p1 : Int32} {p2 : Int32} {v : bM} {r0 : Int32} {w0 : bM} (hf : fX9_setRate p1 p2 v = some (r0, w0)) : bMet l yX9_setRate cX9_setRate 3 (some .int) 2 0 0 LMo (fun E a => [.ref a, .int p1, .int p2]) v w0 (fun _ => some (.int r0)) := by
  refine bk_start (by decide +kernel) wfMo (fun _ _ => Nat.le_of_ble_eq_true rfl) ?_
  intro p e s m args below meth c D E a ls H locs X hr hl hB
  have hx := X.1
  have hb := X.2.1
  have hown := X.2.2.2.1
  have hts := X.2.2.2.2.1
  have hl : lv_has ls 3 [(0, .ref a), (1, .int p1), (2, .int p2)] := hl
  have hf := (fX9_setRate.eq_1 p1 p2 v).symm.trans hf
  refine lv_aload_n hx hb dX9_setRate_0 rfl (lv_at hl 0 rfl) ?_
  refine lv_iconst (v := 0) hx hb dX9_setRate_1 (by decide) ?_
  refine bk_putI X hB kl_X9 0 lc_Mo_0 4 (by decide) rfl rfl rfl wm_1867 dX9_setRate_2 rfl (fun H locs hB => ?_)
  obtain ⟨v1, ev1⟩ : ∃ y : bM, y = upd v 3 0 := ⟨_, rfl⟩
  have hf := nm_use hf ev1
  rw [← ev1] at hB
  refine lv_aload_n hx hb dX9_setRate_5 rfl (lv_at hl 0 rfl) ?_
  refine lv_iload_n hx hb dX9_setRate_6 rfl (lv_at hl 1 rfl) ?_
  refine lv_iconst (v := 0) hx hb dX9_setRate_7 (by decide) ?_
  refine lv_bipush (v := 23) hx hb dX9_setRate_8 (by decide) ?_
  obtain ⟨r3, hc2, hf⟩ := bnr_some hf
  refine bk_non (v0 := v1) (w0 := v1) hB (fun h1 h2 h3 => bk_runS X (Av := [.int p1, .int 0, .int 23]) (rest := [.ref a]) (mX9_inRange hc2) ys_X9_inRange wm_1653 ⟨Nat.le_of_ble_eq_true rfl, Nat.le_of_ble_eq_true rfl⟩ rfl rfl hl.1 h1 h2 h3 (Nat.le_of_ble_eq_true rfl) ⟨Nat.le_of_ble_eq_true rfl, Nat.le_of_ble_eq_true rfl⟩ dX9_setRate_10) (fun H locs hB => ?_)
  refine W.eq (g2 := F0 m 13 ls [.int r3, .ref a]) rfl ?_
  have hJ31 : ∀ (y4 : Int32) (v5 : bM) (H : Heap) (locs : List Loc) (ls : Array Slot), fX9_setRate_J31 p1 p2 y4 v5 = some (r0, w0) → bB D E LMo a v5 s H locs → lv_has ls 3 [(0, .ref a), (1, .int p1), (2, .int p2)] → W p l e (rmOf 2 0 0) s m args below meth c H locs 0 0 (bQ below D E LMo a w0 (some (.int r0)) args s 0 0) (F0 m 31 ls [.int y4, .ref a]) := by
    intro y4 v5 H locs ls hf hB hl
    have hf := (fX9_setRate_J31.eq_1 p1 p2 y4 v5).symm.trans hf
    refine lv_iconst (v := 1) hx hb dX9_setRate_31 (by decide) ?_
    obtain ⟨r8, w7, hc6, hf⟩ := bnd_some hf
    refine bk_all hB (fun h1 h2 h3 => bk_runV X (Av := [.int y4, .int 1]) (rest := []) (mX9_fails hc6) yv_X9_fails wm_1977 ⟨Nat.le_of_ble_eq_true rfl, Nat.le_of_ble_eq_true rfl⟩ rfl rfl hl.1 kl_X9.1 (hB.1.obj lc_Mo_0) h1 h2 h3 (Nat.le_of_ble_eq_true rfl) ⟨Nat.le_of_ble_eq_true rfl, Nat.le_of_ble_eq_true rfl⟩ dX9_setRate_32) (fun H locs hB => ?_)
    refine W.eq (g2 := F0 m 35 ls [.int r8]) rfl ?_
    refine lv_if_eq (tgt := 40) hx hb dX9_setRate_35 (by decide) (fun c9 => ?_) (fun c9 => ?_)
    · have hf := (if_pos c9).symm.trans hf
      refine lv_aload_n hx hb dX9_setRate_40 rfl (lv_at hl 0 rfl) ?_
      obtain ⟨w11, hc10, hf⟩ := bnw_some hf
      refine bk_all hB (fun h1 h2 h3 => bk_runV X (Av := []) (rest := []) (mX9_record hc10) yv_X9_record wm_2205 ⟨Nat.le_of_ble_eq_true rfl, Nat.le_of_ble_eq_true rfl⟩ rfl rfl hl.1 kl_X9.1 (hB.1.obj lc_Mo_0) h1 h2 h3 (Nat.le_of_ble_eq_true rfl) ⟨Nat.le_of_ble_eq_true rfl, Nat.le_of_ble_eq_true rfl⟩ dX9_setRate_41) (fun H locs hB => ?_)
      refine W.eq (g2 := F0 m 44 ls []) rfl ?_
      refine lv_aload_n hx hb dX9_setRate_44 rfl (lv_at hl 0 rfl) ?_
      refine lv_iload_n hx hb dX9_setRate_45 rfl (lv_at hl 1 rfl) ?_
      refine lv_iload_n hx hb dX9_setRate_46 rfl (lv_at hl 2 rfl) ?_
      obtain ⟨r14, w13, hc12, hf⟩ := bnd_some hf
      refine bk_all hB (fun h1 h2 h3 => bk_runV X (Av := [.int p1, .int p2]) (rest := []) (mX9_doRate hc12) yv_X9_doRate wm_1810 ⟨Nat.le_of_ble_eq_true rfl, Nat.le_of_ble_eq_true rfl⟩ rfl rfl hl.1 kl_X9.1 (hB.1.obj lc_Mo_0) h1 h2 h3 (Nat.le_of_ble_eq_true rfl) ⟨Nat.le_of_ble_eq_true rfl, Nat.le_of_ble_eq_true rfl⟩ dX9_setRate_47) (fun H locs hB => ?_)
      refine W.eq (g2 := F0 m 50 ls [.int r14]) rfl ?_
      exact bk_iW X hr rfl hf hB (Nat.le_of_ble_eq_true rfl) (Nat.le_of_ble_eq_true rfl) dX9_setRate_50
    · have hf := (if_neg c9).symm.trans hf
      refine lv_iconst (v := 0) hx hb dX9_setRate_38 (by decide) ?_
      exact bk_iW X hr rfl hf hB (Nat.le_of_ble_eq_true rfl) (Nat.le_of_ble_eq_true rfl) dX9_setRate_39
  have hJ30 : ∀ (v15 : bM) (H : Heap) (locs : List Loc) (ls : Array Slot), fX9_setRate_J30 p1 p2 v15 = some (r0, w0) → bB D E LMo a v15 s H locs → lv_has ls 3 [(0, .ref a), (1, .int p1), (2, .int p2)] → W p l e (rmOf 2 0 0) s m args below meth c H locs 0 0 (bQ below D E LMo a w0 (some (.int r0)) args s 0 0) (F0 m 30 ls [.ref a]) := by
    intro v15 H locs ls hf hB hl
    have hf := (fX9_setRate_J30.eq_1 p1 p2 v15).symm.trans hf
    refine lv_iconst (v := 0) hx hb dX9_setRate_30 (by decide) ?_
    exact hJ31 0 v15 H locs ls hf hB (lv_sub hl [0, 1, 2] rfl)
  refine lv_if_eq (tgt := 30) hx hb dX9_setRate_13 (by decide) (fun c16 => ?_) (fun c16 => ?_)
  · have hf := (if_pos c16).symm.trans hf
    exact hJ30 v1 H locs ls hf hB (lv_sub hl [0, 1, 2] rfl)
  · have hf := (if_neg c16).symm.trans hf
    refine lv_iload_n hx hb dX9_setRate_16 rfl (lv_at hl 2 rfl) ?_
    refine lv_iconst (v := 0) hx hb dX9_setRate_17 (by decide) ?_
    refine lv_bipush (v := 20) hx hb dX9_setRate_18 (by decide) ?_
    obtain ⟨r18, hc17, hf⟩ := bnr_some hf
    refine bk_non (v0 := v1) (w0 := v1) hB (fun h1 h2 h3 => bk_runS X (Av := [.int p2, .int 0, .int 20]) (rest := [.ref a]) (mX9_inRange hc17) ys_X9_inRange wm_1653 ⟨Nat.le_of_ble_eq_true rfl, Nat.le_of_ble_eq_true rfl⟩ rfl rfl hl.1 h1 h2 h3 (Nat.le_of_ble_eq_true rfl) ⟨Nat.le_of_ble_eq_true rfl, Nat.le_of_ble_eq_true rfl⟩ dX9_setRate_20) (fun H locs hB => ?_)
    refine W.eq (g2 := F0 m 23 ls [.int r18, .ref a]) rfl ?_
    refine lv_if_eq (tgt := 30) hx hb dX9_setRate_23 (by decide) (fun c19 => ?_) (fun c19 => ?_)
    · have hf := (if_pos c19).symm.trans hf
      exact hJ30 v1 H locs ls hf hB (lv_sub hl [0, 1, 2] rfl)
    · have hf := (if_neg c19).symm.trans hf
      refine lv_iconst (v := 1) hx hb dX9_setRate_26 (by decide) ?_
      refine lv_goto (tgt := 31) hx hb dX9_setRate_27 (by decide) ?_
      exact hJ31 1 v1 H locs ls hf hB (lv_sub hl [0, 1, 2] rfl)
theorem yv_X9_setRate : bYv yX9_setRate RX9 cX9_setRate 3 (some .int) 2 := ⟨⟨rfl, by decide, by decide, rfl⟩, wm_2218, wm_2219, wm_17, wm_2220⟩

theorem dX9_bake_0 : decode cX9_bake 0 = .ok (.aload_n 0, 1) := by decide +kernel
theorem dX9_bake_1 : decode cX9_bake 1 = .ok (.iload_n 1, 1) := by decide +kernel
theorem dX9_bake_2 : decode cX9_bake 2 = .ok (.invokevirtual 307, 3) := by decide +kernel
theorem dX9_bake_5 : decode cX9_bake 5 = .ok (.ifCond .ne 5, 3) := by decide +kernel
theorem dX9_bake_8 : decode cX9_bake 8 = .ok (.iconst 0, 1) := by decide +kernel
theorem dX9_bake_9 : decode cX9_bake 9 = .ok (.ireturn, 1) := by decide +kernel
theorem dX9_bake_10 : decode cX9_bake 10 = .ok (.iload_n 2, 1) := by decide +kernel
theorem dX9_bake_11 : decode cX9_bake 11 = .ok (.iconst 1, 1) := by decide +kernel
theorem dX9_bake_12 : decode cX9_bake 12 = .ok (.bipush 20, 2) := by decide +kernel
theorem dX9_bake_14 : decode cX9_bake 14 = .ok (.invokestatic 135, 3) := by decide +kernel
theorem dX9_bake_17 : decode cX9_bake 17 = .ok (.ifCond .eq 32, 3) := by decide +kernel
theorem dX9_bake_20 : decode cX9_bake 20 = .ok (.iload_n 3, 1) := by decide +kernel
theorem dX9_bake_21 : decode cX9_bake 21 = .ok (.iconst 0, 1) := by decide +kernel
theorem dX9_bake_22 : decode cX9_bake 22 = .ok (.iload_n 2, 1) := by decide +kernel
theorem dX9_bake_23 : decode cX9_bake 23 = .ok (.invokestatic 135, 3) := by decide +kernel
theorem dX9_bake_26 : decode cX9_bake 26 = .ok (.ifCond .eq 23, 3) := by decide +kernel
theorem dX9_bake_29 : decode cX9_bake 29 = .ok (.iload 4, 2) := by decide +kernel
theorem dX9_bake_31 : decode cX9_bake 31 = .ok (.invokestatic 325, 3) := by decide +kernel
theorem dX9_bake_34 : decode cX9_bake 34 = .ok (.ifCond .eq 15, 3) := by decide +kernel
theorem dX9_bake_37 : decode cX9_bake 37 = .ok (.iload 5, 2) := by decide +kernel
theorem dX9_bake_39 : decode cX9_bake 39 = .ok (.invokestatic 325, 3) := by decide +kernel
theorem dX9_bake_42 : decode cX9_bake 42 = .ok (.ifCond .eq 7, 3) := by decide +kernel
theorem dX9_bake_45 : decode cX9_bake 45 = .ok (.iconst 1, 1) := by decide +kernel
theorem dX9_bake_46 : decode cX9_bake 46 = .ok (.goto 4, 3) := by decide +kernel
theorem dX9_bake_49 : decode cX9_bake 49 = .ok (.iconst 0, 1) := by decide +kernel
theorem dX9_bake_50 : decode cX9_bake 50 = .ok (.istore 6, 2) := by decide +kernel
theorem dX9_bake_52 : decode cX9_bake 52 = .ok (.aload_n 0, 1) := by decide +kernel
theorem dX9_bake_53 : decode cX9_bake 53 = .ok (.iload 6, 2) := by decide +kernel
theorem dX9_bake_55 : decode cX9_bake 55 = .ok (.iconst 2, 1) := by decide +kernel
theorem dX9_bake_56 : decode cX9_bake 56 = .ok (.invokevirtual 297, 3) := by decide +kernel
theorem dX9_bake_59 : decode cX9_bake 59 = .ok (.ifCond .ne 29, 3) := by decide +kernel
theorem dX9_bake_62 : decode cX9_bake 62 = .ok (.aload_n 0, 1) := by decide +kernel
theorem dX9_bake_63 : decode cX9_bake 63 = .ok (.aload_n 0, 1) := by decide +kernel
theorem dX9_bake_64 : decode cX9_bake 64 = .ok (.iload_n 1, 1) := by decide +kernel
theorem dX9_bake_65 : decode cX9_bake 65 = .ok (.iload_n 2, 1) := by decide +kernel
theorem dX9_bake_66 : decode cX9_bake 66 = .ok (.iload 4, 2) := by decide +kernel
theorem dX9_bake_68 : decode cX9_bake 68 = .ok (.iload 5, 2) := by decide +kernel
theorem dX9_bake_70 : decode cX9_bake 70 = .ok (.invokevirtual 242, 3) := by decide +kernel
theorem dX9_bake_73 : decode cX9_bake 73 = .ok (.ifCond .ne 7, 3) := by decide +kernel
theorem dX9_bake_76 : decode cX9_bake 76 = .ok (.iconst 1, 1) := by decide +kernel
theorem dX9_bake_77 : decode cX9_bake 77 = .ok (.goto 4, 3) := by decide +kernel
theorem dX9_bake_80 : decode cX9_bake 80 = .ok (.iconst 0, 1) := by decide +kernel
theorem dX9_bake_81 : decode cX9_bake 81 = .ok (.iconst 3, 1) := by decide +kernel
theorem dX9_bake_82 : decode cX9_bake 82 = .ok (.invokevirtual 297, 3) := by decide +kernel
theorem dX9_bake_85 : decode cX9_bake 85 = .ok (.ifCond .eq 5, 3) := by decide +kernel
theorem dX9_bake_88 : decode cX9_bake 88 = .ok (.iconst 0, 1) := by decide +kernel
theorem dX9_bake_89 : decode cX9_bake 89 = .ok (.ireturn, 1) := by decide +kernel
theorem dX9_bake_90 : decode cX9_bake 90 = .ok (.aload_n 0, 1) := by decide +kernel
theorem dX9_bake_91 : decode cX9_bake 91 = .ok (.invokevirtual 343, 3) := by decide +kernel
theorem dX9_bake_94 : decode cX9_bake 94 = .ok (.aload_n 0, 1) := by decide +kernel
theorem dX9_bake_95 : decode cX9_bake 95 = .ok (.iload_n 1, 1) := by decide +kernel
theorem dX9_bake_96 : decode cX9_bake 96 = .ok (.iload_n 2, 1) := by decide +kernel
theorem dX9_bake_97 : decode cX9_bake 97 = .ok (.iload_n 3, 1) := by decide +kernel
theorem dX9_bake_98 : decode cX9_bake 98 = .ok (.iload 4, 2) := by decide +kernel
theorem dX9_bake_100 : decode cX9_bake 100 = .ok (.iload 5, 2) := by decide +kernel
theorem dX9_bake_102 : decode cX9_bake 102 = .ok (.invokevirtual 257, 3) := by decide +kernel
theorem dX9_bake_105 : decode cX9_bake 105 = .ok (.ireturn, 1) := by decide +kernel
def fX9_bake_J81 (p1 : Int32) (p2 : Int32) (p3 : Int32) (p4 : Int32) (p5 : Int32) (y15 : Int32) (v16 : bM) : Option (Int32 × bM) :=
  bnd (fX9_fails y15 3 v16) fun r19 w18 => (if r19 = 0 then (bnw (fX9_record w18) fun w22 => bnd (fX9_doBake p1 p2 p3 p4 p5 w22) fun r25 w24 => some (r25, w24)) else (some (0, w18)))
def fX9_bake_J50 (p1 : Int32) (p2 : Int32) (p3 : Int32) (p4 : Int32) (p5 : Int32) (y7 : Int32) (v8 : bM) : Option (Int32 × bM) :=
  bnd (fX9_fails y7 2 v8) fun r11 w10 => (if r11 = 0 then (bnr (fX9_obstacle p1 p2 p4 p5 w10) fun r14 => (if r14 = 0 then (fX9_bake_J81 p1 p2 p3 p4 p5 1 w10) else (fX9_bake_J81 p1 p2 p3 p4 p5 0 w10))) else (some (0, w10)))
def fX9_bake_J49 (p1 : Int32) (p2 : Int32) (p3 : Int32) (p4 : Int32) (p5 : Int32)  (v27 : bM) : Option (Int32 × bM) :=
  fX9_bake_J50 p1 p2 p3 p4 p5 0 v27
def fX9_bake (p1 : Int32) (p2 : Int32) (p3 : Int32) (p4 : Int32) (p5 : Int32) (v : bM) : Option (Int32 × bM) :=
  bnd (fX9_isBread p1 v) fun r3 w2 => (if r3 = 0 then (some (0, w2)) else (bnr (fX9_inRange p2 1 20) fun r6 => (if r6 = 0 then (fX9_bake_J49 p1 p2 p3 p4 p5 w2) else (bnr (fX9_inRange p3 0 p2) fun r30 => (if r30 = 0 then (fX9_bake_J49 p1 p2 p3 p4 p5 w2) else (bnr (fX9_isExtra p4) fun r33 => (if r33 = 0 then (fX9_bake_J49 p1 p2 p3 p4 p5 w2) else (bnr (fX9_isExtra p5) fun r36 => (if r36 = 0 then (fX9_bake_J49 p1 p2 p3 p4 p5 w2) else (fX9_bake_J50 p1 p2 p3 p4 p5 1 w2))))))))))
set_option maxRecDepth 100000 in
set_option maxHeartbeats 4000000 in
theorem mX9_bake {l : Launch} {p1 : Int32} {p2 : Int32} {p3 : Int32} {p4 : Int32} {p5 : Int32} {v : bM} {r0 : Int32} {w0 : bM} (hf : fX9_bake p1 p2 p3 p4 p5 v = some (r0, w0)) : bMet l yX9_bake cX9_bake 7 (some .int) 6 0 0 LMo (fun E a => [.ref a, .int p1, .int p2, .int p3, .int p4, .int p5]) v w0 (fun _ => some (.int r0)) := by
  refine bk_start (by decide +kernel) wfMo (fun _ _ => Nat.le_of_ble_eq_true rfl) ?_
  intro p e s m args below meth c D E a ls H locs X hr hl hB
  have hx := X.1
  have hb := X.2.1
  have hown := X.2.2.2.1
  have hts := X.2.2.2.2.1
  have hl : lv_has ls 7 [(0, .ref a), (1, .int p1), (2, .int p2), (3, .int p3), (4, .int p4), (5, .int p5)] := hl
  have hf := (fX9_bake.eq_1 p1 p2 p3 p4 p5 v).symm.trans hf
  refine lv_aload_n hx hb dX9_bake_0 rfl (lv_at hl 0 rfl) ?_
  refine lv_iload_n hx hb dX9_bake_1 rfl (lv_at hl 1 rfl) ?_
  obtain ⟨r3, w2, hc1, hf⟩ := bnd_some hf
  refine bk_all hB (fun h1 h2 h3 => bk_runV X (Av := [.int p1]) (rest := []) (mX9_isBread hc1) yv_X9_isBread wm_2009 ⟨Nat.le_of_ble_eq_true rfl, Nat.le_of_ble_eq_true rfl⟩ rfl rfl hl.1 kl_X9.1 (hB.1.obj lc_Mo_0) h1 h2 h3 (Nat.le_of_ble_eq_true rfl) ⟨Nat.le_of_ble_eq_true rfl, Nat.le_of_ble_eq_true rfl⟩ dX9_bake_2) (fun H locs hB => ?_)
  refine W.eq (g2 := F0 m 5 ls [.int r3]) rfl ?_
  refine lv_if_ne (tgt := 10) hx hb dX9_bake_5 (by decide) (fun c4 => ?_) (fun c4 => ?_)
  · have hf := (if_neg c4).symm.trans hf
    refine lv_iload_n hx hb dX9_bake_10 rfl (lv_at hl 2 rfl) ?_
    refine lv_iconst (v := 1) hx hb dX9_bake_11 (by decide) ?_
    refine lv_bipush (v := 20) hx hb dX9_bake_12 (by decide) ?_
    obtain ⟨r6, hc5, hf⟩ := bnr_some hf
    refine bk_non (v0 := w2) (w0 := w2) hB (fun h1 h2 h3 => bk_runS X (Av := [.int p2, .int 1, .int 20]) (rest := []) (mX9_inRange hc5) ys_X9_inRange wm_1653 ⟨Nat.le_of_ble_eq_true rfl, Nat.le_of_ble_eq_true rfl⟩ rfl rfl hl.1 h1 h2 h3 (Nat.le_of_ble_eq_true rfl) ⟨Nat.le_of_ble_eq_true rfl, Nat.le_of_ble_eq_true rfl⟩ dX9_bake_14) (fun H locs hB => ?_)
    refine W.eq (g2 := F0 m 17 ls [.int r6]) rfl ?_
    have hJ50 : ∀ (y7 : Int32) (v8 : bM) (H : Heap) (locs : List Loc) (ls : Array Slot), fX9_bake_J50 p1 p2 p3 p4 p5 y7 v8 = some (r0, w0) → bB D E LMo a v8 s H locs → lv_has ls 7 [(0, .ref a), (1, .int p1), (2, .int p2), (3, .int p3), (4, .int p4), (5, .int p5)] → W p l e (rmOf 6 0 0) s m args below meth c H locs 0 0 (bQ below D E LMo a w0 (some (.int r0)) args s 0 0) (F0 m 50 ls [.int y7]) := by
      intro y7 v8 H locs ls hf hB hl
      have hf := (fX9_bake_J50.eq_1 p1 p2 p3 p4 p5 y7 v8).symm.trans hf
      refine lv_istore (lv' := [(6, .int y7), (0, .ref a), (1, .int p1), (2, .int p2), (3, .int p3), (4, .int p4), (5, .int p5)]) hx hb dX9_bake_50 hl (by decide) rfl (fun ls hl => ?_)
      refine lv_aload_n hx hb dX9_bake_52 rfl (lv_at hl 1 rfl) ?_
      refine lv_iload hx hb dX9_bake_53 (lv_at hl 0 rfl) ?_
      refine lv_iconst (v := 2) hx hb dX9_bake_55 (by decide) ?_
      obtain ⟨r11, w10, hc9, hf⟩ := bnd_some hf
      refine bk_all hB (fun h1 h2 h3 => bk_runV X (Av := [.int y7, .int 2]) (rest := []) (mX9_fails hc9) yv_X9_fails wm_1977 ⟨Nat.le_of_ble_eq_true rfl, Nat.le_of_ble_eq_true rfl⟩ rfl rfl hl.1 kl_X9.1 (hB.1.obj lc_Mo_0) h1 h2 h3 (Nat.le_of_ble_eq_true rfl) ⟨Nat.le_of_ble_eq_true rfl, Nat.le_of_ble_eq_true rfl⟩ dX9_bake_56) (fun H locs hB => ?_)
      refine W.eq (g2 := F0 m 59 ls [.int r11]) rfl ?_
      refine lv_if_ne (tgt := 88) hx hb dX9_bake_59 (by decide) (fun c12 => ?_) (fun c12 => ?_)
      · have hf := (if_neg c12).symm.trans hf
        refine lv_iconst (v := 0) hx hb dX9_bake_88 (by decide) ?_
        exact bk_iW X hr rfl hf hB (Nat.le_of_ble_eq_true rfl) (Nat.le_of_ble_eq_true rfl) dX9_bake_89
      · have hf := (if_pos c12).symm.trans hf
        refine lv_aload_n hx hb dX9_bake_62 rfl (lv_at hl 1 rfl) ?_
        refine lv_aload_n hx hb dX9_bake_63 rfl (lv_at hl 1 rfl) ?_
        refine lv_iload_n hx hb dX9_bake_64 rfl (lv_at hl 2 rfl) ?_
        refine lv_iload_n hx hb dX9_bake_65 rfl (lv_at hl 3 rfl) ?_
        refine lv_iload hx hb dX9_bake_66 (lv_at hl 5 rfl) ?_
        refine lv_iload hx hb dX9_bake_68 (lv_at hl 6 rfl) ?_
        obtain ⟨r14, hc13, hf⟩ := bnr_some hf
        refine bk_all hB (fun h1 h2 h3 => bk_runV X (Av := [.int p1, .int p2, .int p4, .int p5]) (rest := [.ref a]) (mX9_obstacle hc13) yv_X9_obstacle wm_1762 ⟨Nat.le_of_ble_eq_true rfl, Nat.le_of_ble_eq_true rfl⟩ rfl rfl hl.1 kl_X9.1 (hB.1.obj lc_Mo_0) h1 h2 h3 (Nat.le_of_ble_eq_true rfl) ⟨Nat.le_of_ble_eq_true rfl, Nat.le_of_ble_eq_true rfl⟩ dX9_bake_70) (fun H locs hB => ?_)
        refine W.eq (g2 := F0 m 73 ls [.int r14, .ref a]) rfl ?_
        have hJ81 : ∀ (y15 : Int32) (v16 : bM) (H : Heap) (locs : List Loc) (ls : Array Slot), fX9_bake_J81 p1 p2 p3 p4 p5 y15 v16 = some (r0, w0) → bB D E LMo a v16 s H locs → lv_has ls 7 [(0, .ref a), (1, .int p1), (2, .int p2), (3, .int p3), (4, .int p4), (5, .int p5)] → W p l e (rmOf 6 0 0) s m args below meth c H locs 0 0 (bQ below D E LMo a w0 (some (.int r0)) args s 0 0) (F0 m 81 ls [.int y15, .ref a]) := by
          intro y15 v16 H locs ls hf hB hl
          have hf := (fX9_bake_J81.eq_1 p1 p2 p3 p4 p5 y15 v16).symm.trans hf
          refine lv_iconst (v := 3) hx hb dX9_bake_81 (by decide) ?_
          obtain ⟨r19, w18, hc17, hf⟩ := bnd_some hf
          refine bk_all hB (fun h1 h2 h3 => bk_runV X (Av := [.int y15, .int 3]) (rest := []) (mX9_fails hc17) yv_X9_fails wm_1977 ⟨Nat.le_of_ble_eq_true rfl, Nat.le_of_ble_eq_true rfl⟩ rfl rfl hl.1 kl_X9.1 (hB.1.obj lc_Mo_0) h1 h2 h3 (Nat.le_of_ble_eq_true rfl) ⟨Nat.le_of_ble_eq_true rfl, Nat.le_of_ble_eq_true rfl⟩ dX9_bake_82) (fun H locs hB => ?_)
          refine W.eq (g2 := F0 m 85 ls [.int r19]) rfl ?_
          refine lv_if_eq (tgt := 90) hx hb dX9_bake_85 (by decide) (fun c20 => ?_) (fun c20 => ?_)
          · have hf := (if_pos c20).symm.trans hf
            refine lv_aload_n hx hb dX9_bake_90 rfl (lv_at hl 0 rfl) ?_
            obtain ⟨w22, hc21, hf⟩ := bnw_some hf
            refine bk_all hB (fun h1 h2 h3 => bk_runV X (Av := []) (rest := []) (mX9_record hc21) yv_X9_record wm_2205 ⟨Nat.le_of_ble_eq_true rfl, Nat.le_of_ble_eq_true rfl⟩ rfl rfl hl.1 kl_X9.1 (hB.1.obj lc_Mo_0) h1 h2 h3 (Nat.le_of_ble_eq_true rfl) ⟨Nat.le_of_ble_eq_true rfl, Nat.le_of_ble_eq_true rfl⟩ dX9_bake_91) (fun H locs hB => ?_)
            refine W.eq (g2 := F0 m 94 ls []) rfl ?_
            refine lv_aload_n hx hb dX9_bake_94 rfl (lv_at hl 0 rfl) ?_
            refine lv_iload_n hx hb dX9_bake_95 rfl (lv_at hl 1 rfl) ?_
            refine lv_iload_n hx hb dX9_bake_96 rfl (lv_at hl 2 rfl) ?_
            refine lv_iload_n hx hb dX9_bake_97 rfl (lv_at hl 3 rfl) ?_
            refine lv_iload hx hb dX9_bake_98 (lv_at hl 4 rfl) ?_
            refine lv_iload hx hb dX9_bake_100 (lv_at hl 5 rfl) ?_
            obtain ⟨r25, w24, hc23, hf⟩ := bnd_some hf
            refine bk_all hB (fun h1 h2 h3 => bk_runV X (Av := [.int p1, .int p2, .int p3, .int p4, .int p5]) (rest := []) (mX9_doBake hc23) yv_X9_doBake wm_1814 ⟨Nat.le_of_ble_eq_true rfl, Nat.le_of_ble_eq_true rfl⟩ rfl rfl hl.1 kl_X9.1 (hB.1.obj lc_Mo_0) h1 h2 h3 (Nat.le_of_ble_eq_true rfl) ⟨Nat.le_of_ble_eq_true rfl, Nat.le_of_ble_eq_true rfl⟩ dX9_bake_102) (fun H locs hB => ?_)
            refine W.eq (g2 := F0 m 105 ls [.int r25]) rfl ?_
            exact bk_iW X hr rfl hf hB (Nat.le_of_ble_eq_true rfl) (Nat.le_of_ble_eq_true rfl) dX9_bake_105
          · have hf := (if_neg c20).symm.trans hf
            refine lv_iconst (v := 0) hx hb dX9_bake_88 (by decide) ?_
            exact bk_iW X hr rfl hf hB (Nat.le_of_ble_eq_true rfl) (Nat.le_of_ble_eq_true rfl) dX9_bake_89
        refine lv_if_ne (tgt := 80) hx hb dX9_bake_73 (by decide) (fun c26 => ?_) (fun c26 => ?_)
        · have hf := (if_neg c26).symm.trans hf
          refine lv_iconst (v := 0) hx hb dX9_bake_80 (by decide) ?_
          exact hJ81 0 w10 H locs ls hf hB (lv_sub hl [1, 2, 3, 4, 5, 6] rfl)
        · have hf := (if_pos c26).symm.trans hf
          refine lv_iconst (v := 1) hx hb dX9_bake_76 (by decide) ?_
          refine lv_goto (tgt := 81) hx hb dX9_bake_77 (by decide) ?_
          exact hJ81 1 w10 H locs ls hf hB (lv_sub hl [1, 2, 3, 4, 5, 6] rfl)
    have hJ49 : ∀ (v27 : bM) (H : Heap) (locs : List Loc) (ls : Array Slot), fX9_bake_J49 p1 p2 p3 p4 p5 v27 = some (r0, w0) → bB D E LMo a v27 s H locs → lv_has ls 7 [(0, .ref a), (1, .int p1), (2, .int p2), (3, .int p3), (4, .int p4), (5, .int p5)] → W p l e (rmOf 6 0 0) s m args below meth c H locs 0 0 (bQ below D E LMo a w0 (some (.int r0)) args s 0 0) (F0 m 49 ls []) := by
      intro v27 H locs ls hf hB hl
      have hf := (fX9_bake_J49.eq_1 p1 p2 p3 p4 p5 v27).symm.trans hf
      refine lv_iconst (v := 0) hx hb dX9_bake_49 (by decide) ?_
      exact hJ50 0 v27 H locs ls hf hB (lv_sub hl [0, 1, 2, 3, 4, 5] rfl)
    refine lv_if_eq (tgt := 49) hx hb dX9_bake_17 (by decide) (fun c28 => ?_) (fun c28 => ?_)
    · have hf := (if_pos c28).symm.trans hf
      exact hJ49 w2 H locs ls hf hB (lv_sub hl [0, 1, 2, 3, 4, 5] rfl)
    · have hf := (if_neg c28).symm.trans hf
      refine lv_iload_n hx hb dX9_bake_20 rfl (lv_at hl 3 rfl) ?_
      refine lv_iconst (v := 0) hx hb dX9_bake_21 (by decide) ?_
      refine lv_iload_n hx hb dX9_bake_22 rfl (lv_at hl 2 rfl) ?_
      obtain ⟨r30, hc29, hf⟩ := bnr_some hf
      refine bk_non (v0 := w2) (w0 := w2) hB (fun h1 h2 h3 => bk_runS X (Av := [.int p3, .int 0, .int p2]) (rest := []) (mX9_inRange hc29) ys_X9_inRange wm_1653 ⟨Nat.le_of_ble_eq_true rfl, Nat.le_of_ble_eq_true rfl⟩ rfl rfl hl.1 h1 h2 h3 (Nat.le_of_ble_eq_true rfl) ⟨Nat.le_of_ble_eq_true rfl, Nat.le_of_ble_eq_true rfl⟩ dX9_bake_23) (fun H locs hB => ?_)
      refine W.eq (g2 := F0 m 26 ls [.int r30]) rfl ?_
      refine lv_if_eq (tgt := 49) hx hb dX9_bake_26 (by decide) (fun c31 => ?_) (fun c31 => ?_)
      · have hf := (if_pos c31).symm.trans hf
        exact hJ49 w2 H locs ls hf hB (lv_sub hl [0, 1, 2, 3, 4, 5] rfl)
      · have hf := (if_neg c31).symm.trans hf
        refine lv_iload hx hb dX9_bake_29 (lv_at hl 4 rfl) ?_
        obtain ⟨r33, hc32, hf⟩ := bnr_some hf
        refine bk_non (v0 := w2) (w0 := w2) hB (fun h1 h2 h3 => bk_runS X (Av := [.int p4]) (rest := []) (mX9_isExtra hc32) ys_X9_isExtra wm_2137 ⟨Nat.le_of_ble_eq_true rfl, Nat.le_of_ble_eq_true rfl⟩ rfl rfl hl.1 h1 h2 h3 (Nat.le_of_ble_eq_true rfl) ⟨Nat.le_of_ble_eq_true rfl, Nat.le_of_ble_eq_true rfl⟩ dX9_bake_31) (fun H locs hB => ?_)
        refine W.eq (g2 := F0 m 34 ls [.int r33]) rfl ?_
        refine lv_if_eq (tgt := 49) hx hb dX9_bake_34 (by decide) (fun c34 => ?_) (fun c34 => ?_)
        · have hf := (if_pos c34).symm.trans hf
          exact hJ49 w2 H locs ls hf hB (lv_sub hl [0, 1, 2, 3, 4, 5] rfl)
        · have hf := (if_neg c34).symm.trans hf
          refine lv_iload hx hb dX9_bake_37 (lv_at hl 5 rfl) ?_
          obtain ⟨r36, hc35, hf⟩ := bnr_some hf
          refine bk_non (v0 := w2) (w0 := w2) hB (fun h1 h2 h3 => bk_runS X (Av := [.int p5]) (rest := []) (mX9_isExtra hc35) ys_X9_isExtra wm_2137 ⟨Nat.le_of_ble_eq_true rfl, Nat.le_of_ble_eq_true rfl⟩ rfl rfl hl.1 h1 h2 h3 (Nat.le_of_ble_eq_true rfl) ⟨Nat.le_of_ble_eq_true rfl, Nat.le_of_ble_eq_true rfl⟩ dX9_bake_39) (fun H locs hB => ?_)
          refine W.eq (g2 := F0 m 42 ls [.int r36]) rfl ?_
          refine lv_if_eq (tgt := 49) hx hb dX9_bake_42 (by decide) (fun c37 => ?_) (fun c37 => ?_)
          · have hf := (if_pos c37).symm.trans hf
            exact hJ49 w2 H locs ls hf hB (lv_sub hl [0, 1, 2, 3, 4, 5] rfl)
          · have hf := (if_neg c37).symm.trans hf
            refine lv_iconst (v := 1) hx hb dX9_bake_45 (by decide) ?_
            refine lv_goto (tgt := 50) hx hb dX9_bake_46 (by decide) ?_
            exact hJ50 1 w2 H locs ls hf hB (lv_sub hl [0, 1, 2, 3, 4, 5] rfl)
  · have hf := (if_pos c4).symm.trans hf
    refine lv_iconst (v := 0) hx hb dX9_bake_8 (by decide) ?_
    exact bk_iW X hr rfl hf hB (Nat.le_of_ble_eq_true rfl) (Nat.le_of_ble_eq_true rfl) dX9_bake_9
theorem yv_X9_bake : bYv yX9_bake RX9 cX9_bake 7 (some .int) 5 := ⟨⟨rfl, by decide, by decide, rfl⟩, wm_2222, wm_2223, wm_17, wm_2224⟩

theorem dX9_sell_0 : decode cX9_sell 0 = .ok (.aload_n 0, 1) := by decide +kernel
theorem dX9_sell_1 : decode cX9_sell 1 = .ok (.iload_n 1, 1) := by decide +kernel
theorem dX9_sell_2 : decode cX9_sell 2 = .ok (.invokevirtual 307, 3) := by decide +kernel
theorem dX9_sell_5 : decode cX9_sell 5 = .ok (.ifCond .eq 60, 3) := by decide +kernel
theorem dX9_sell_8 : decode cX9_sell 8 = .ok (.aload_n 0, 1) := by decide +kernel
theorem dX9_sell_9 : decode cX9_sell 9 = .ok (.iload_n 2, 1) := by decide +kernel
theorem dX9_sell_10 : decode cX9_sell 10 = .ok (.iconst 1, 1) := by decide +kernel
theorem dX9_sell_11 : decode cX9_sell 11 = .ok (.bipush 99, 2) := by decide +kernel
theorem dX9_sell_13 : decode cX9_sell 13 = .ok (.invokestatic 135, 3) := by decide +kernel
theorem dX9_sell_16 : decode cX9_sell 16 = .ok (.ifCond .eq 18, 3) := by decide +kernel
theorem dX9_sell_19 : decode cX9_sell 19 = .ok (.iload_n 3, 1) := by decide +kernel
theorem dX9_sell_20 : decode cX9_sell 20 = .ok (.iconst 1, 1) := by decide +kernel
theorem dX9_sell_21 : decode cX9_sell 21 = .ok (.sipush 999, 3) := by decide +kernel
theorem dX9_sell_24 : decode cX9_sell 24 = .ok (.invokestatic 135, 3) := by decide +kernel
theorem dX9_sell_27 : decode cX9_sell 27 = .ok (.ifCond .eq 7, 3) := by decide +kernel
theorem dX9_sell_30 : decode cX9_sell 30 = .ok (.iconst 1, 1) := by decide +kernel
theorem dX9_sell_31 : decode cX9_sell 31 = .ok (.goto 4, 3) := by decide +kernel
theorem dX9_sell_34 : decode cX9_sell 34 = .ok (.iconst 0, 1) := by decide +kernel
theorem dX9_sell_35 : decode cX9_sell 35 = .ok (.iconst 2, 1) := by decide +kernel
theorem dX9_sell_36 : decode cX9_sell 36 = .ok (.invokevirtual 297, 3) := by decide +kernel
theorem dX9_sell_39 : decode cX9_sell 39 = .ok (.ifCond .ne 26, 3) := by decide +kernel
theorem dX9_sell_42 : decode cX9_sell 42 = .ok (.aload_n 0, 1) := by decide +kernel
theorem dX9_sell_43 : decode cX9_sell 43 = .ok (.iload_n 2, 1) := by decide +kernel
theorem dX9_sell_44 : decode cX9_sell 44 = .ok (.aload_n 0, 1) := by decide +kernel
theorem dX9_sell_45 : decode cX9_sell 45 = .ok (.iload_n 1, 1) := by decide +kernel
theorem dX9_sell_46 : decode cX9_sell 46 = .ok (.iconst 3, 1) := by decide +kernel
theorem dX9_sell_47 : decode cX9_sell 47 = .ok (.invokevirtual 71, 3) := by decide +kernel
theorem dX9_sell_50 : decode cX9_sell 50 = .ok (.if_icmp .gt 7, 3) := by decide +kernel
theorem dX9_sell_53 : decode cX9_sell 53 = .ok (.iconst 1, 1) := by decide +kernel
theorem dX9_sell_54 : decode cX9_sell 54 = .ok (.goto 4, 3) := by decide +kernel
theorem dX9_sell_57 : decode cX9_sell 57 = .ok (.iconst 0, 1) := by decide +kernel
theorem dX9_sell_58 : decode cX9_sell 58 = .ok (.iconst 3, 1) := by decide +kernel
theorem dX9_sell_59 : decode cX9_sell 59 = .ok (.invokevirtual 297, 3) := by decide +kernel
theorem dX9_sell_62 : decode cX9_sell 62 = .ok (.ifCond .eq 5, 3) := by decide +kernel
theorem dX9_sell_65 : decode cX9_sell 65 = .ok (.iconst 0, 1) := by decide +kernel
theorem dX9_sell_66 : decode cX9_sell 66 = .ok (.ireturn, 1) := by decide +kernel
theorem dX9_sell_67 : decode cX9_sell 67 = .ok (.aload_n 0, 1) := by decide +kernel
theorem dX9_sell_68 : decode cX9_sell 68 = .ok (.invokevirtual 343, 3) := by decide +kernel
theorem dX9_sell_71 : decode cX9_sell 71 = .ok (.aload_n 0, 1) := by decide +kernel
theorem dX9_sell_72 : decode cX9_sell 72 = .ok (.iload_n 1, 1) := by decide +kernel
theorem dX9_sell_73 : decode cX9_sell 73 = .ok (.iload_n 2, 1) := by decide +kernel
theorem dX9_sell_74 : decode cX9_sell 74 = .ok (.iload_n 3, 1) := by decide +kernel
theorem dX9_sell_75 : decode cX9_sell 75 = .ok (.invokevirtual 261, 3) := by decide +kernel
theorem dX9_sell_78 : decode cX9_sell 78 = .ok (.ireturn, 1) := by decide +kernel
def fX9_sell_J58 (p1 : Int32) (p2 : Int32) (p3 : Int32) (y15 : Int32) (v16 : bM) : Option (Int32 × bM) :=
  bnd (fX9_fails y15 3 v16) fun r19 w18 => (if r19 = 0 then (bnw (fX9_record w18) fun w22 => bnd (fX9_doSell p1 p2 p3 w22) fun r25 w24 => some (r25, w24)) else (some (0, w18)))
def fX9_sell_J35 (p1 : Int32) (p2 : Int32) (p3 : Int32) (y7 : Int32) (v8 : bM) : Option (Int32 × bM) :=
  bnd (fX9_fails y7 2 v8) fun r11 w10 => (if r11 = 0 then (bnr (fX9_bread p1 3 w10) fun r14 => (if r14 < p2 then (fX9_sell_J58 p1 p2 p3 0 w10) else (fX9_sell_J58 p1 p2 p3 1 w10))) else (some (0, w10)))
def fX9_sell_J34 (p1 : Int32) (p2 : Int32) (p3 : Int32)  (v27 : bM) : Option (Int32 × bM) :=
  fX9_sell_J35 p1 p2 p3 0 v27
def fX9_sell (p1 : Int32) (p2 : Int32) (p3 : Int32) (v : bM) : Option (Int32 × bM) :=
  bnd (fX9_isBread p1 v) fun r3 w2 => (if r3 = 0 then (some (0, w2)) else (bnr (fX9_inRange p2 1 99) fun r6 => (if r6 = 0 then (fX9_sell_J34 p1 p2 p3 w2) else (bnr (fX9_inRange p3 1 999) fun r30 => (if r30 = 0 then (fX9_sell_J34 p1 p2 p3 w2) else (fX9_sell_J35 p1 p2 p3 1 w2))))))
set_option maxRecDepth 100000 in
set_option maxHeartbeats 4000000 in
theorem mX9_sell {l : Launch} {p1 : Int32} {p2 : Int32} {p3 : Int32} {v : bM} {r0 : Int32} {w0 : bM} (hf : fX9_sell p1 p2 p3 v = some (r0, w0)) : bMet l yX9_sell cX9_sell 4 (some .int) 4 0 0 LMo (fun E a => [.ref a, .int p1, .int p2, .int p3]) v w0 (fun _ => some (.int r0)) := by
  refine bk_start (by decide +kernel) wfMo (fun _ _ => Nat.le_of_ble_eq_true rfl) ?_
  intro p e s m args below meth c D E a ls H locs X hr hl hB
  have hx := X.1
  have hb := X.2.1
  have hown := X.2.2.2.1
  have hts := X.2.2.2.2.1
  have hl : lv_has ls 4 [(0, .ref a), (1, .int p1), (2, .int p2), (3, .int p3)] := hl
  have hf := (fX9_sell.eq_1 p1 p2 p3 v).symm.trans hf
  refine lv_aload_n hx hb dX9_sell_0 rfl (lv_at hl 0 rfl) ?_
  refine lv_iload_n hx hb dX9_sell_1 rfl (lv_at hl 1 rfl) ?_
  obtain ⟨r3, w2, hc1, hf⟩ := bnd_some hf
  refine bk_all hB (fun h1 h2 h3 => bk_runV X (Av := [.int p1]) (rest := []) (mX9_isBread hc1) yv_X9_isBread wm_2009 ⟨Nat.le_of_ble_eq_true rfl, Nat.le_of_ble_eq_true rfl⟩ rfl rfl hl.1 kl_X9.1 (hB.1.obj lc_Mo_0) h1 h2 h3 (Nat.le_of_ble_eq_true rfl) ⟨Nat.le_of_ble_eq_true rfl, Nat.le_of_ble_eq_true rfl⟩ dX9_sell_2) (fun H locs hB => ?_)
  refine W.eq (g2 := F0 m 5 ls [.int r3]) rfl ?_
  refine lv_if_eq (tgt := 65) hx hb dX9_sell_5 (by decide) (fun c4 => ?_) (fun c4 => ?_)
  · have hf := (if_pos c4).symm.trans hf
    refine lv_iconst (v := 0) hx hb dX9_sell_65 (by decide) ?_
    exact bk_iW X hr rfl hf hB (Nat.le_of_ble_eq_true rfl) (Nat.le_of_ble_eq_true rfl) dX9_sell_66
  · have hf := (if_neg c4).symm.trans hf
    refine lv_aload_n hx hb dX9_sell_8 rfl (lv_at hl 0 rfl) ?_
    refine lv_iload_n hx hb dX9_sell_9 rfl (lv_at hl 2 rfl) ?_
    refine lv_iconst (v := 1) hx hb dX9_sell_10 (by decide) ?_
    refine lv_bipush (v := 99) hx hb dX9_sell_11 (by decide) ?_
    obtain ⟨r6, hc5, hf⟩ := bnr_some hf
    refine bk_non (v0 := w2) (w0 := w2) hB (fun h1 h2 h3 => bk_runS X (Av := [.int p2, .int 1, .int 99]) (rest := [.ref a]) (mX9_inRange hc5) ys_X9_inRange wm_1653 ⟨Nat.le_of_ble_eq_true rfl, Nat.le_of_ble_eq_true rfl⟩ rfl rfl hl.1 h1 h2 h3 (Nat.le_of_ble_eq_true rfl) ⟨Nat.le_of_ble_eq_true rfl, Nat.le_of_ble_eq_true rfl⟩ dX9_sell_13) (fun H locs hB => ?_)
    refine W.eq (g2 := F0 m 16 ls [.int r6, .ref a]) rfl ?_
    have hJ35 : ∀ (y7 : Int32) (v8 : bM) (H : Heap) (locs : List Loc) (ls : Array Slot), fX9_sell_J35 p1 p2 p3 y7 v8 = some (r0, w0) → bB D E LMo a v8 s H locs → lv_has ls 4 [(0, .ref a), (1, .int p1), (2, .int p2), (3, .int p3)] → W p l e (rmOf 4 0 0) s m args below meth c H locs 0 0 (bQ below D E LMo a w0 (some (.int r0)) args s 0 0) (F0 m 35 ls [.int y7, .ref a]) := by
      intro y7 v8 H locs ls hf hB hl
      have hf := (fX9_sell_J35.eq_1 p1 p2 p3 y7 v8).symm.trans hf
      refine lv_iconst (v := 2) hx hb dX9_sell_35 (by decide) ?_
      obtain ⟨r11, w10, hc9, hf⟩ := bnd_some hf
      refine bk_all hB (fun h1 h2 h3 => bk_runV X (Av := [.int y7, .int 2]) (rest := []) (mX9_fails hc9) yv_X9_fails wm_1977 ⟨Nat.le_of_ble_eq_true rfl, Nat.le_of_ble_eq_true rfl⟩ rfl rfl hl.1 kl_X9.1 (hB.1.obj lc_Mo_0) h1 h2 h3 (Nat.le_of_ble_eq_true rfl) ⟨Nat.le_of_ble_eq_true rfl, Nat.le_of_ble_eq_true rfl⟩ dX9_sell_36) (fun H locs hB => ?_)
      refine W.eq (g2 := F0 m 39 ls [.int r11]) rfl ?_
      refine lv_if_ne (tgt := 65) hx hb dX9_sell_39 (by decide) (fun c12 => ?_) (fun c12 => ?_)
      · have hf := (if_neg c12).symm.trans hf
        refine lv_iconst (v := 0) hx hb dX9_sell_65 (by decide) ?_
        exact bk_iW X hr rfl hf hB (Nat.le_of_ble_eq_true rfl) (Nat.le_of_ble_eq_true rfl) dX9_sell_66
      · have hf := (if_pos c12).symm.trans hf
        refine lv_aload_n hx hb dX9_sell_42 rfl (lv_at hl 0 rfl) ?_
        refine lv_iload_n hx hb dX9_sell_43 rfl (lv_at hl 2 rfl) ?_
        refine lv_aload_n hx hb dX9_sell_44 rfl (lv_at hl 0 rfl) ?_
        refine lv_iload_n hx hb dX9_sell_45 rfl (lv_at hl 1 rfl) ?_
        refine lv_iconst (v := 3) hx hb dX9_sell_46 (by decide) ?_
        obtain ⟨r14, hc13, hf⟩ := bnr_some hf
        refine bk_all hB (fun h1 h2 h3 => bk_runV X (Av := [.int p1, .int 3]) (rest := [.int p2, .ref a]) (mX9_bread hc13) yv_X9_bread wm_1774 ⟨Nat.le_of_ble_eq_true rfl, Nat.le_of_ble_eq_true rfl⟩ rfl rfl hl.1 kl_X9.1 (hB.1.obj lc_Mo_0) h1 h2 h3 (Nat.le_of_ble_eq_true rfl) ⟨Nat.le_of_ble_eq_true rfl, Nat.le_of_ble_eq_true rfl⟩ dX9_sell_47) (fun H locs hB => ?_)
        refine W.eq (g2 := F0 m 50 ls [.int r14, .int p2, .ref a]) rfl ?_
        have hJ58 : ∀ (y15 : Int32) (v16 : bM) (H : Heap) (locs : List Loc) (ls : Array Slot), fX9_sell_J58 p1 p2 p3 y15 v16 = some (r0, w0) → bB D E LMo a v16 s H locs → lv_has ls 4 [(0, .ref a), (1, .int p1), (2, .int p2), (3, .int p3)] → W p l e (rmOf 4 0 0) s m args below meth c H locs 0 0 (bQ below D E LMo a w0 (some (.int r0)) args s 0 0) (F0 m 58 ls [.int y15, .ref a]) := by
          intro y15 v16 H locs ls hf hB hl
          have hf := (fX9_sell_J58.eq_1 p1 p2 p3 y15 v16).symm.trans hf
          refine lv_iconst (v := 3) hx hb dX9_sell_58 (by decide) ?_
          obtain ⟨r19, w18, hc17, hf⟩ := bnd_some hf
          refine bk_all hB (fun h1 h2 h3 => bk_runV X (Av := [.int y15, .int 3]) (rest := []) (mX9_fails hc17) yv_X9_fails wm_1977 ⟨Nat.le_of_ble_eq_true rfl, Nat.le_of_ble_eq_true rfl⟩ rfl rfl hl.1 kl_X9.1 (hB.1.obj lc_Mo_0) h1 h2 h3 (Nat.le_of_ble_eq_true rfl) ⟨Nat.le_of_ble_eq_true rfl, Nat.le_of_ble_eq_true rfl⟩ dX9_sell_59) (fun H locs hB => ?_)
          refine W.eq (g2 := F0 m 62 ls [.int r19]) rfl ?_
          refine lv_if_eq (tgt := 67) hx hb dX9_sell_62 (by decide) (fun c20 => ?_) (fun c20 => ?_)
          · have hf := (if_pos c20).symm.trans hf
            refine lv_aload_n hx hb dX9_sell_67 rfl (lv_at hl 0 rfl) ?_
            obtain ⟨w22, hc21, hf⟩ := bnw_some hf
            refine bk_all hB (fun h1 h2 h3 => bk_runV X (Av := []) (rest := []) (mX9_record hc21) yv_X9_record wm_2205 ⟨Nat.le_of_ble_eq_true rfl, Nat.le_of_ble_eq_true rfl⟩ rfl rfl hl.1 kl_X9.1 (hB.1.obj lc_Mo_0) h1 h2 h3 (Nat.le_of_ble_eq_true rfl) ⟨Nat.le_of_ble_eq_true rfl, Nat.le_of_ble_eq_true rfl⟩ dX9_sell_68) (fun H locs hB => ?_)
            refine W.eq (g2 := F0 m 71 ls []) rfl ?_
            refine lv_aload_n hx hb dX9_sell_71 rfl (lv_at hl 0 rfl) ?_
            refine lv_iload_n hx hb dX9_sell_72 rfl (lv_at hl 1 rfl) ?_
            refine lv_iload_n hx hb dX9_sell_73 rfl (lv_at hl 2 rfl) ?_
            refine lv_iload_n hx hb dX9_sell_74 rfl (lv_at hl 3 rfl) ?_
            obtain ⟨r25, w24, hc23, hf⟩ := bnd_some hf
            refine bk_all hB (fun h1 h2 h3 => bk_runV X (Av := [.int p1, .int p2, .int p3]) (rest := []) (mX9_doSell hc23) yv_X9_doSell wm_1851 ⟨Nat.le_of_ble_eq_true rfl, Nat.le_of_ble_eq_true rfl⟩ rfl rfl hl.1 kl_X9.1 (hB.1.obj lc_Mo_0) h1 h2 h3 (Nat.le_of_ble_eq_true rfl) ⟨Nat.le_of_ble_eq_true rfl, Nat.le_of_ble_eq_true rfl⟩ dX9_sell_75) (fun H locs hB => ?_)
            refine W.eq (g2 := F0 m 78 ls [.int r25]) rfl ?_
            exact bk_iW X hr rfl hf hB (Nat.le_of_ble_eq_true rfl) (Nat.le_of_ble_eq_true rfl) dX9_sell_78
          · have hf := (if_neg c20).symm.trans hf
            refine lv_iconst (v := 0) hx hb dX9_sell_65 (by decide) ?_
            exact bk_iW X hr rfl hf hB (Nat.le_of_ble_eq_true rfl) (Nat.le_of_ble_eq_true rfl) dX9_sell_66
        refine lv_icmp_gt (tgt := 57) hx hb dX9_sell_50 (by decide) (fun c26 => ?_) (fun c26 => ?_)
        · have hf := (if_pos c26).symm.trans hf
          refine lv_iconst (v := 0) hx hb dX9_sell_57 (by decide) ?_
          exact hJ58 0 w10 H locs ls hf hB (lv_sub hl [0, 1, 2, 3] rfl)
        · have hf := (if_neg c26).symm.trans hf
          refine lv_iconst (v := 1) hx hb dX9_sell_53 (by decide) ?_
          refine lv_goto (tgt := 58) hx hb dX9_sell_54 (by decide) ?_
          exact hJ58 1 w10 H locs ls hf hB (lv_sub hl [0, 1, 2, 3] rfl)
    have hJ34 : ∀ (v27 : bM) (H : Heap) (locs : List Loc) (ls : Array Slot), fX9_sell_J34 p1 p2 p3 v27 = some (r0, w0) → bB D E LMo a v27 s H locs → lv_has ls 4 [(0, .ref a), (1, .int p1), (2, .int p2), (3, .int p3)] → W p l e (rmOf 4 0 0) s m args below meth c H locs 0 0 (bQ below D E LMo a w0 (some (.int r0)) args s 0 0) (F0 m 34 ls [.ref a]) := by
      intro v27 H locs ls hf hB hl
      have hf := (fX9_sell_J34.eq_1 p1 p2 p3 v27).symm.trans hf
      refine lv_iconst (v := 0) hx hb dX9_sell_34 (by decide) ?_
      exact hJ35 0 v27 H locs ls hf hB (lv_sub hl [0, 1, 2, 3] rfl)
    refine lv_if_eq (tgt := 34) hx hb dX9_sell_16 (by decide) (fun c28 => ?_) (fun c28 => ?_)
    · have hf := (if_pos c28).symm.trans hf
      exact hJ34 w2 H locs ls hf hB (lv_sub hl [0, 1, 2, 3] rfl)
    · have hf := (if_neg c28).symm.trans hf
      refine lv_iload_n hx hb dX9_sell_19 rfl (lv_at hl 3 rfl) ?_
      refine lv_iconst (v := 1) hx hb dX9_sell_20 (by decide) ?_
      refine lv_sipush (v := 999) hx hb dX9_sell_21 (by decide) ?_
      obtain ⟨r30, hc29, hf⟩ := bnr_some hf
      refine bk_non (v0 := w2) (w0 := w2) hB (fun h1 h2 h3 => bk_runS X (Av := [.int p3, .int 1, .int 999]) (rest := [.ref a]) (mX9_inRange hc29) ys_X9_inRange wm_1653 ⟨Nat.le_of_ble_eq_true rfl, Nat.le_of_ble_eq_true rfl⟩ rfl rfl hl.1 h1 h2 h3 (Nat.le_of_ble_eq_true rfl) ⟨Nat.le_of_ble_eq_true rfl, Nat.le_of_ble_eq_true rfl⟩ dX9_sell_24) (fun H locs hB => ?_)
      refine W.eq (g2 := F0 m 27 ls [.int r30, .ref a]) rfl ?_
      refine lv_if_eq (tgt := 34) hx hb dX9_sell_27 (by decide) (fun c31 => ?_) (fun c31 => ?_)
      · have hf := (if_pos c31).symm.trans hf
        exact hJ34 w2 H locs ls hf hB (lv_sub hl [0, 1, 2, 3] rfl)
      · have hf := (if_neg c31).symm.trans hf
        refine lv_iconst (v := 1) hx hb dX9_sell_30 (by decide) ?_
        refine lv_goto (tgt := 35) hx hb dX9_sell_31 (by decide) ?_
        exact hJ35 1 w2 H locs ls hf hB (lv_sub hl [0, 1, 2, 3] rfl)
theorem yv_X9_sell : bYv yX9_sell RX9 cX9_sell 4 (some .int) 3 := ⟨⟨rfl, by decide, by decide, rfl⟩, wm_2226, wm_2227, wm_17, wm_2228⟩

theorem dX9_waitMinutes_0 : decode cX9_waitMinutes 0 = .ok (.aload_n 0, 1) := by decide +kernel
theorem dX9_waitMinutes_1 : decode cX9_waitMinutes 1 = .ok (.iconst 0, 1) := by decide +kernel
theorem dX9_waitMinutes_2 : decode cX9_waitMinutes 2 = .ok (.putfield 60, 3) := by decide +kernel
theorem dX9_waitMinutes_5 : decode cX9_waitMinutes 5 = .ok (.aload_n 0, 1) := by decide +kernel
theorem dX9_waitMinutes_6 : decode cX9_waitMinutes 6 = .ok (.iload_n 1, 1) := by decide +kernel
theorem dX9_waitMinutes_7 : decode cX9_waitMinutes 7 = .ok (.iconst 1, 1) := by decide +kernel
theorem dX9_waitMinutes_8 : decode cX9_waitMinutes 8 = .ok (.sipush 999, 3) := by decide +kernel
theorem dX9_waitMinutes_11 : decode cX9_waitMinutes 11 = .ok (.invokestatic 135, 3) := by decide +kernel
theorem dX9_waitMinutes_14 : decode cX9_waitMinutes 14 = .ok (.iconst 1, 1) := by decide +kernel
theorem dX9_waitMinutes_15 : decode cX9_waitMinutes 15 = .ok (.invokevirtual 297, 3) := by decide +kernel
theorem dX9_waitMinutes_18 : decode cX9_waitMinutes 18 = .ok (.ifCond .eq 5, 3) := by decide +kernel
theorem dX9_waitMinutes_21 : decode cX9_waitMinutes 21 = .ok (.iconst 0, 1) := by decide +kernel
theorem dX9_waitMinutes_22 : decode cX9_waitMinutes 22 = .ok (.ireturn, 1) := by decide +kernel
theorem dX9_waitMinutes_23 : decode cX9_waitMinutes 23 = .ok (.aload_n 0, 1) := by decide +kernel
theorem dX9_waitMinutes_24 : decode cX9_waitMinutes 24 = .ok (.invokevirtual 343, 3) := by decide +kernel
theorem dX9_waitMinutes_27 : decode cX9_waitMinutes 27 = .ok (.aload_n 0, 1) := by decide +kernel
theorem dX9_waitMinutes_28 : decode cX9_waitMinutes 28 = .ok (.iload_n 1, 1) := by decide +kernel
theorem dX9_waitMinutes_29 : decode cX9_waitMinutes 29 = .ok (.invokevirtual 264, 3) := by decide +kernel
theorem dX9_waitMinutes_32 : decode cX9_waitMinutes 32 = .ok (.ireturn, 1) := by decide +kernel
def fX9_waitMinutes (p1 : Int32) (v : bM) : Option (Int32 × bM) :=
  nm (upd v 3 0) fun v1 => bnr (fX9_inRange p1 1 999) fun r3 => bnd (fX9_fails r3 1 v1) fun r6 w5 => (if r6 = 0 then (bnw (fX9_record w5) fun w9 => bnd (fX9_doWait p1 w9) fun r12 w11 => some (r12, w11)) else (some (0, w5)))
set_option maxRecDepth 100000 in
set_option maxHeartbeats 4000000 in
theorem mX9_waitMinutes {l : Launch} {p1 : Int32} {v : bM} {r0 : Int32} {w0 : bM} (hf : fX9_waitMinutes p1 v = some (r0, w0)) : bMet l yX9_waitMinutes cX9_waitMinutes 2 (some .int) 2 0 0 LMo (fun E a => [.ref a, .int p1]) v w0 (fun _ => some (.int r0)) := by
  refine bk_start (by decide +kernel) wfMo (fun _ _ => Nat.le_of_ble_eq_true rfl) ?_
  intro p e s m args below meth c D E a ls H locs X hr hl hB
  have hx := X.1
  have hb := X.2.1
  have hown := X.2.2.2.1
  have hts := X.2.2.2.2.1
  have hl : lv_has ls 2 [(0, .ref a), (1, .int p1)] := hl
  have hf := (fX9_waitMinutes.eq_1 p1 v).symm.trans hf
  refine lv_aload_n hx hb dX9_waitMinutes_0 rfl (lv_at hl 0 rfl) ?_
  refine lv_iconst (v := 0) hx hb dX9_waitMinutes_1 (by decide) ?_
  refine bk_putI X hB kl_X9 0 lc_Mo_0 4 (by decide) rfl rfl rfl wm_1867 dX9_waitMinutes_2 rfl (fun H locs hB => ?_)
  obtain ⟨v1, ev1⟩ : ∃ y : bM, y = upd v 3 0 := ⟨_, rfl⟩
  have hf := nm_use hf ev1
  rw [← ev1] at hB
  refine lv_aload_n hx hb dX9_waitMinutes_5 rfl (lv_at hl 0 rfl) ?_
  refine lv_iload_n hx hb dX9_waitMinutes_6 rfl (lv_at hl 1 rfl) ?_
  refine lv_iconst (v := 1) hx hb dX9_waitMinutes_7 (by decide) ?_
  refine lv_sipush (v := 999) hx hb dX9_waitMinutes_8 (by decide) ?_
  obtain ⟨r3, hc2, hf⟩ := bnr_some hf
  refine bk_non (v0 := v1) (w0 := v1) hB (fun h1 h2 h3 => bk_runS X (Av := [.int p1, .int 1, .int 999]) (rest := [.ref a]) (mX9_inRange hc2) ys_X9_inRange wm_1653 ⟨Nat.le_of_ble_eq_true rfl, Nat.le_of_ble_eq_true rfl⟩ rfl rfl hl.1 h1 h2 h3 (Nat.le_of_ble_eq_true rfl) ⟨Nat.le_of_ble_eq_true rfl, Nat.le_of_ble_eq_true rfl⟩ dX9_waitMinutes_11) (fun H locs hB => ?_)
  refine W.eq (g2 := F0 m 14 ls [.int r3, .ref a]) rfl ?_
  refine lv_iconst (v := 1) hx hb dX9_waitMinutes_14 (by decide) ?_
  obtain ⟨r6, w5, hc4, hf⟩ := bnd_some hf
  refine bk_all hB (fun h1 h2 h3 => bk_runV X (Av := [.int r3, .int 1]) (rest := []) (mX9_fails hc4) yv_X9_fails wm_1977 ⟨Nat.le_of_ble_eq_true rfl, Nat.le_of_ble_eq_true rfl⟩ rfl rfl hl.1 kl_X9.1 (hB.1.obj lc_Mo_0) h1 h2 h3 (Nat.le_of_ble_eq_true rfl) ⟨Nat.le_of_ble_eq_true rfl, Nat.le_of_ble_eq_true rfl⟩ dX9_waitMinutes_15) (fun H locs hB => ?_)
  refine W.eq (g2 := F0 m 18 ls [.int r6]) rfl ?_
  refine lv_if_eq (tgt := 23) hx hb dX9_waitMinutes_18 (by decide) (fun c7 => ?_) (fun c7 => ?_)
  · have hf := (if_pos c7).symm.trans hf
    refine lv_aload_n hx hb dX9_waitMinutes_23 rfl (lv_at hl 0 rfl) ?_
    obtain ⟨w9, hc8, hf⟩ := bnw_some hf
    refine bk_all hB (fun h1 h2 h3 => bk_runV X (Av := []) (rest := []) (mX9_record hc8) yv_X9_record wm_2205 ⟨Nat.le_of_ble_eq_true rfl, Nat.le_of_ble_eq_true rfl⟩ rfl rfl hl.1 kl_X9.1 (hB.1.obj lc_Mo_0) h1 h2 h3 (Nat.le_of_ble_eq_true rfl) ⟨Nat.le_of_ble_eq_true rfl, Nat.le_of_ble_eq_true rfl⟩ dX9_waitMinutes_24) (fun H locs hB => ?_)
    refine W.eq (g2 := F0 m 27 ls []) rfl ?_
    refine lv_aload_n hx hb dX9_waitMinutes_27 rfl (lv_at hl 0 rfl) ?_
    refine lv_iload_n hx hb dX9_waitMinutes_28 rfl (lv_at hl 1 rfl) ?_
    obtain ⟨r12, w11, hc10, hf⟩ := bnd_some hf
    refine bk_all hB (fun h1 h2 h3 => bk_runV X (Av := [.int p1]) (rest := []) (mX9_doWait hc10) yv_X9_doWait wm_1855 ⟨Nat.le_of_ble_eq_true rfl, Nat.le_of_ble_eq_true rfl⟩ rfl rfl hl.1 kl_X9.1 (hB.1.obj lc_Mo_0) h1 h2 h3 (Nat.le_of_ble_eq_true rfl) ⟨Nat.le_of_ble_eq_true rfl, Nat.le_of_ble_eq_true rfl⟩ dX9_waitMinutes_29) (fun H locs hB => ?_)
    refine W.eq (g2 := F0 m 32 ls [.int r12]) rfl ?_
    exact bk_iW X hr rfl hf hB (Nat.le_of_ble_eq_true rfl) (Nat.le_of_ble_eq_true rfl) dX9_waitMinutes_32
  · have hf := (if_neg c7).symm.trans hf
    refine lv_iconst (v := 0) hx hb dX9_waitMinutes_21 (by decide) ?_
    exact bk_iW X hr rfl hf hB (Nat.le_of_ble_eq_true rfl) (Nat.le_of_ble_eq_true rfl) dX9_waitMinutes_22
theorem yv_X9_waitMinutes : bYv yX9_waitMinutes RX9 cX9_waitMinutes 2 (some .int) 1 := ⟨⟨rfl, by decide, by decide, rfl⟩, wm_2230, wm_2231, wm_17, wm_2232⟩

theorem dX9_undo_0 : decode cX9_undo 0 = .ok (.aload_n 0, 1) := by decide +kernel
theorem dX9_undo_1 : decode cX9_undo 1 = .ok (.iconst 0, 1) := by decide +kernel
theorem dX9_undo_2 : decode cX9_undo 2 = .ok (.putfield 60, 3) := by decide +kernel
theorem dX9_undo_5 : decode cX9_undo 5 = .ok (.aload_n 0, 1) := by decide +kernel
theorem dX9_undo_6 : decode cX9_undo 6 = .ok (.aload_n 0, 1) := by decide +kernel
theorem dX9_undo_7 : decode cX9_undo 7 = .ok (.getfield 288, 3) := by decide +kernel
theorem dX9_undo_10 : decode cX9_undo 10 = .ok (.ifCond .le 7, 3) := by decide +kernel
theorem dX9_undo_13 : decode cX9_undo 13 = .ok (.iconst 1, 1) := by decide +kernel
theorem dX9_undo_14 : decode cX9_undo 14 = .ok (.goto 4, 3) := by decide +kernel
theorem dX9_undo_17 : decode cX9_undo 17 = .ok (.iconst 0, 1) := by decide +kernel
theorem dX9_undo_18 : decode cX9_undo 18 = .ok (.iconst 1, 1) := by decide +kernel
theorem dX9_undo_19 : decode cX9_undo 19 = .ok (.invokevirtual 297, 3) := by decide +kernel
theorem dX9_undo_22 : decode cX9_undo 22 = .ok (.ifCond .eq 5, 3) := by decide +kernel
theorem dX9_undo_25 : decode cX9_undo 25 = .ok (.iconst 0, 1) := by decide +kernel
theorem dX9_undo_26 : decode cX9_undo 26 = .ok (.ireturn, 1) := by decide +kernel
theorem dX9_undo_27 : decode cX9_undo 27 = .ok (.aload_n 0, 1) := by decide +kernel
theorem dX9_undo_28 : decode cX9_undo 28 = .ok (.dup, 1) := by decide +kernel
theorem dX9_undo_29 : decode cX9_undo 29 = .ok (.getfield 288, 3) := by decide +kernel
theorem dX9_undo_32 : decode cX9_undo 32 = .ok (.iconst 1, 1) := by decide +kernel
theorem dX9_undo_33 : decode cX9_undo 33 = .ok (.isub, 1) := by decide +kernel
theorem dX9_undo_34 : decode cX9_undo 34 = .ok (.putfield 288, 3) := by decide +kernel
theorem dX9_undo_37 : decode cX9_undo 37 = .ok (.iconst 0, 1) := by decide +kernel
theorem dX9_undo_38 : decode cX9_undo 38 = .ok (.istore_n 1, 1) := by decide +kernel
theorem dX9_undo_39 : decode cX9_undo 39 = .ok (.iload_n 1, 1) := by decide +kernel
theorem dX9_undo_40 : decode cX9_undo 40 = .ok (.sipush 496, 3) := by decide +kernel
theorem dX9_undo_43 : decode cX9_undo 43 = .ok (.if_icmp .ge 30, 3) := by decide +kernel
theorem dX9_undo_46 : decode cX9_undo 46 = .ok (.aload_n 0, 1) := by decide +kernel
theorem dX9_undo_47 : decode cX9_undo 47 = .ok (.getfield 17, 3) := by decide +kernel
theorem dX9_undo_50 : decode cX9_undo 50 = .ok (.iload_n 1, 1) := by decide +kernel
theorem dX9_undo_51 : decode cX9_undo 51 = .ok (.aload_n 0, 1) := by decide +kernel
theorem dX9_undo_52 : decode cX9_undo 52 = .ok (.getfield 26, 3) := by decide +kernel
theorem dX9_undo_55 : decode cX9_undo 55 = .ok (.sipush 496, 3) := by decide +kernel
theorem dX9_undo_58 : decode cX9_undo 58 = .ok (.aload_n 0, 1) := by decide +kernel
theorem dX9_undo_59 : decode cX9_undo 59 = .ok (.getfield 288, 3) := by decide +kernel
theorem dX9_undo_62 : decode cX9_undo 62 = .ok (.imul, 1) := by decide +kernel
theorem dX9_undo_63 : decode cX9_undo 63 = .ok (.iload_n 1, 1) := by decide +kernel
theorem dX9_undo_64 : decode cX9_undo 64 = .ok (.iadd, 1) := by decide +kernel
theorem dX9_undo_65 : decode cX9_undo 65 = .ok (.iaload, 1) := by decide +kernel
theorem dX9_undo_66 : decode cX9_undo 66 = .ok (.iastore, 1) := by decide +kernel
theorem dX9_undo_67 : decode cX9_undo 67 = .ok (.iinc 1 1, 3) := by decide +kernel
theorem dX9_undo_70 : decode cX9_undo 70 = .ok (.goto (-31), 3) := by decide +kernel
theorem dX9_undo_73 : decode cX9_undo 73 = .ok (.aload_n 0, 1) := by decide +kernel
theorem dX9_undo_74 : decode cX9_undo 74 = .ok (.getfield 288, 3) := by decide +kernel
theorem dX9_undo_77 : decode cX9_undo 77 = .ok (.ireturn, 1) := by decide +kernel
def fX9_undo_L39  (k39 : Int32 → bM → Option (Int32 × bM)) (y10 : Int32) (v11 : bM) : Option (Int32 × bM) :=
  (if 496 ≤ y10 then (some (v11 4, v11)) else (ck ((496 * (v11 4)) + y10) 3968 <| nm (v11 (2198 + ((496 * (v11 4)) + y10).toNatClampNeg)) fun x14 => ck y10 496 <| nm (upd v11 (710 + y10.toNatClampNeg) x14) fun v16 => nm (y10 + 1) fun x17 => k39 x17 v16))
def fX9_undo_J18  (y2 : Int32) (v3 : bM) : Option (Int32 × bM) :=
  bnd (fX9_fails y2 1 v3) fun r6 w5 => (if r6 = 0 then (nm ((w5 4) - 1) fun x8 => nm (upd w5 4 x8) fun v9 => lp (fX9_undo_L39) (fun _ _ => none) lpN 0 v9) else (some (0, w5)))
def fX9_undo  (v : bM) : Option (Int32 × bM) :=
  nm (upd v 3 0) fun v1 => (if (v1 4) ≤ 0 then (fX9_undo_J18 0 v1) else (fX9_undo_J18 1 v1))
set_option maxRecDepth 100000 in
set_option maxHeartbeats 4000000 in
theorem mX9_undo {l : Launch}  {v : bM} {r0 : Int32} {w0 : bM} (hf : fX9_undo  v = some (r0, w0)) : bMet l yX9_undo cX9_undo 2 (some .int) 1 0 0 LMo (fun E a => [.ref a]) v w0 (fun _ => some (.int r0)) := by
  refine bk_start (by decide +kernel) wfMo (fun _ _ => Nat.le_of_ble_eq_true rfl) ?_
  intro p e s m args below meth c D E a ls H locs X hr hl hB
  have hx := X.1
  have hb := X.2.1
  have hown := X.2.2.2.1
  have hts := X.2.2.2.2.1
  have hl : lv_has ls 2 [(0, .ref a)] := hl
  have hf := (fX9_undo.eq_1  v).symm.trans hf
  refine lv_aload_n hx hb dX9_undo_0 rfl (lv_at hl 0 rfl) ?_
  refine lv_iconst (v := 0) hx hb dX9_undo_1 (by decide) ?_
  refine bk_putI X hB kl_X9 0 lc_Mo_0 4 (by decide) rfl rfl rfl wm_1867 dX9_undo_2 rfl (fun H locs hB => ?_)
  obtain ⟨v1, ev1⟩ : ∃ y : bM, y = upd v 3 0 := ⟨_, rfl⟩
  have hf := nm_use hf ev1
  rw [← ev1] at hB
  refine lv_aload_n hx hb dX9_undo_5 rfl (lv_at hl 0 rfl) ?_
  refine lv_aload_n hx hb dX9_undo_6 rfl (lv_at hl 0 rfl) ?_
  refine bk_getI X hB kl_X9 0 lc_Mo_0 9 (by decide) rfl wm_1872 dX9_undo_7 ?_
  have hJ18 : ∀ (y2 : Int32) (v3 : bM) (H : Heap) (locs : List Loc) (ls : Array Slot), fX9_undo_J18 y2 v3 = some (r0, w0) → bB D E LMo a v3 s H locs → lv_has ls 2 [(0, .ref a)] → W p l e (rmOf 1 0 0) s m args below meth c H locs 0 0 (bQ below D E LMo a w0 (some (.int r0)) args s 0 0) (F0 m 18 ls [.int y2, .ref a]) := by
    intro y2 v3 H locs ls hf hB hl
    have hf := (fX9_undo_J18.eq_1  y2 v3).symm.trans hf
    refine lv_iconst (v := 1) hx hb dX9_undo_18 (by decide) ?_
    obtain ⟨r6, w5, hc4, hf⟩ := bnd_some hf
    refine bk_all hB (fun h1 h2 h3 => bk_runV X (Av := [.int y2, .int 1]) (rest := []) (mX9_fails hc4) yv_X9_fails wm_1977 ⟨Nat.le_of_ble_eq_true rfl, Nat.le_of_ble_eq_true rfl⟩ rfl rfl hl.1 kl_X9.1 (hB.1.obj lc_Mo_0) h1 h2 h3 (Nat.le_of_ble_eq_true rfl) ⟨Nat.le_of_ble_eq_true rfl, Nat.le_of_ble_eq_true rfl⟩ dX9_undo_19) (fun H locs hB => ?_)
    refine W.eq (g2 := F0 m 22 ls [.int r6]) rfl ?_
    refine lv_if_eq (tgt := 27) hx hb dX9_undo_22 (by decide) (fun c7 => ?_) (fun c7 => ?_)
    · have hf := (if_pos c7).symm.trans hf
      refine lv_aload_n hx hb dX9_undo_27 rfl (lv_at hl 0 rfl) ?_
      refine lv_dup hx hb dX9_undo_28 rfl ?_
      refine bk_getI X hB kl_X9 0 lc_Mo_0 9 (by decide) rfl wm_1872 dX9_undo_29 ?_
      refine lv_iconst (v := 1) hx hb dX9_undo_32 (by decide) ?_
      refine lv_isub hx hb dX9_undo_33 ?_
      refine lv_topi (fun x8 ex8 => ?_)
      have hf := nm_use hf ex8
      refine bk_putI X hB kl_X9 0 lc_Mo_0 9 (by decide) rfl rfl rfl wm_1872 dX9_undo_34 rfl (fun H locs hB => ?_)
      obtain ⟨v9, ev9⟩ : ∃ y : bM, y = upd w5 4 x8 := ⟨_, rfl⟩
      have hf := nm_use hf ev9
      rw [← ev9] at hB
      refine lv_iconst (v := 0) hx hb dX9_undo_37 (by decide) ?_
      refine lv_istore_n (lv' := [(1, .int 0), (0, .ref a)]) hx hb dX9_undo_38 rfl hl (by decide) rfl (fun ls hl => ?_)
      have hL39 : ∀ (n39 : Nat) (y10 : Int32) (v11 : bM) (H : Heap) (locs : List Loc) (ls : Array Slot), lp (fX9_undo_L39) (fun _ _ => none) n39 y10 v11 = some (r0, w0) → bB D E LMo a v11 s H locs → lv_has ls 2 [(0, .ref a), (1, .int y10)] → W p l e (rmOf 1 0 0) s m args below meth c H locs 0 0 (bQ below D E LMo a w0 (some (.int r0)) args s 0 0) (F0 m 39 ls []) := by
        intro n39
        induction n39 with
        | zero => intro y10 v11 H locs ls hf; cases (show (none : Option (Int32 × bM)) = some (r0, w0) from hf)
        | succ n39 ih39 =>
          intro y10 v11 H locs ls hf hB hl
          have hf := (fX9_undo_L39.eq_1  (lp (fX9_undo_L39) (fun _ _ => none) n39) y10 v11).symm.trans (show fX9_undo_L39 (lp (fX9_undo_L39) (fun _ _ => none) n39) y10 v11 = some (r0, w0) from hf)
          refine lv_iload_n hx hb dX9_undo_39 rfl (lv_at hl 1 rfl) ?_
          refine lv_sipush (v := 496) hx hb dX9_undo_40 (by decide) ?_
          refine lv_icmp_ge (tgt := 73) hx hb dX9_undo_43 (by decide) (fun c12 => ?_) (fun c12 => ?_)
          · have hf := (if_pos c12).symm.trans hf
            refine lv_aload_n hx hb dX9_undo_73 rfl (lv_at hl 0 rfl) ?_
            refine bk_getI X hB kl_X9 0 lc_Mo_0 9 (by decide) rfl wm_1872 dX9_undo_74 ?_
            exact bk_iW X hr rfl hf hB (Nat.le_of_ble_eq_true rfl) (Nat.le_of_ble_eq_true rfl) dX9_undo_77
          · have hf := (if_neg c12).symm.trans hf
            refine lv_aload_n hx hb dX9_undo_46 rfl (lv_at hl 0 rfl) ?_
            refine bk_getR X hB kl_X9 0 lc_Mo_0 5 (by decide) rfl wm_1868 dX9_undo_47 ?_
            refine lv_iload_n hx hb dX9_undo_50 rfl (lv_at hl 1 rfl) ?_
            refine lv_aload_n hx hb dX9_undo_51 rfl (lv_at hl 0 rfl) ?_
            refine bk_getR X hB kl_X9 0 lc_Mo_0 8 (by decide) rfl wm_1871 dX9_undo_52 ?_
            refine lv_sipush (v := 496) hx hb dX9_undo_55 (by decide) ?_
            refine lv_aload_n hx hb dX9_undo_58 rfl (lv_at hl 0 rfl) ?_
            refine bk_getI X hB kl_X9 0 lc_Mo_0 9 (by decide) rfl wm_1872 dX9_undo_59 ?_
            refine lv_imul hx hb dX9_undo_62 ?_
            refine lv_iload_n hx hb dX9_undo_63 rfl (lv_at hl 1 rfl) ?_
            refine lv_iadd hx hb dX9_undo_64 ?_
            obtain ⟨h13, hf⟩ := ck_some hf
            refine bk_ald X hB 5 lc_Mo_5 h13 dX9_undo_65 ?_
            refine lv_topi (fun x14 ex14 => ?_)
            have hf := nm_use hf ex14
            obtain ⟨h15, hf⟩ := ck_some hf
            refine bk_ast X hB 2 lc_Mo_2 h15 dX9_undo_66 (fun H locs hB => ?_)
            obtain ⟨v16, ev16⟩ : ∃ y : bM, y = upd v11 (710 + y10.toNatClampNeg) x14 := ⟨_, rfl⟩
            have hf := nm_use hf ev16
            rw [← ev16] at hB
            obtain ⟨x17, ex17⟩ : ∃ y : Int32, y = y10 + 1 := ⟨_, rfl⟩
            have hf := nm_use hf ex17
            refine lv_iinc (v := x17) (lv' := [(1, .int x17), (0, .ref a)]) hx hb dX9_undo_67 hl (k := 1) rfl (by rw [ex17]; rfl) (by decide) rfl (fun ls hl => ?_)
            refine lv_goto (tgt := 39) hx hb dX9_undo_70 (by decide) ?_
            exact ih39 x17 v16 H locs ls hf hB (lv_sub hl [1, 0] rfl)
      exact hL39 lpN 0 v9 H locs ls hf hB (lv_sub hl [1, 0] rfl)
    · have hf := (if_neg c7).symm.trans hf
      refine lv_iconst (v := 0) hx hb dX9_undo_25 (by decide) ?_
      exact bk_iW X hr rfl hf hB (Nat.le_of_ble_eq_true rfl) (Nat.le_of_ble_eq_true rfl) dX9_undo_26
  refine lv_if_le (tgt := 17) hx hb dX9_undo_10 (by decide) (fun c18 => ?_) (fun c18 => ?_)
  · have hf := (if_pos c18).symm.trans hf
    refine lv_iconst (v := 0) hx hb dX9_undo_17 (by decide) ?_
    exact hJ18 0 v1 H locs ls hf hB (lv_sub hl [0] rfl)
  · have hf := (if_neg c18).symm.trans hf
    refine lv_iconst (v := 1) hx hb dX9_undo_13 (by decide) ?_
    refine lv_goto (tgt := 18) hx hb dX9_undo_14 (by decide) ?_
    exact hJ18 1 v1 H locs ls hf hB (lv_sub hl [0] rfl)
theorem yv_X9_undo : bYv yX9_undo RX9 cX9_undo 2 (some .int) 0 := ⟨⟨rfl, by decide, by decide, rfl⟩, wm_2234, wm_2235, wm_17, wm_2236⟩

theorem dX9_save_0 : decode cX9_save 0 = .ok (.aload_n 0, 1) := by decide +kernel
theorem dX9_save_1 : decode cX9_save 1 = .ok (.iconst 0, 1) := by decide +kernel
theorem dX9_save_2 : decode cX9_save 2 = .ok (.putfield 60, 3) := by decide +kernel
theorem dX9_save_5 : decode cX9_save 5 = .ok (.aload_n 0, 1) := by decide +kernel
theorem dX9_save_6 : decode cX9_save 6 = .ok (.iload_n 1, 1) := by decide +kernel
theorem dX9_save_7 : decode cX9_save 7 = .ok (.iconst 0, 1) := by decide +kernel
theorem dX9_save_8 : decode cX9_save 8 = .ok (.iconst 1, 1) := by decide +kernel
theorem dX9_save_9 : decode cX9_save 9 = .ok (.invokestatic 135, 3) := by decide +kernel
theorem dX9_save_12 : decode cX9_save 12 = .ok (.iconst 1, 1) := by decide +kernel
theorem dX9_save_13 : decode cX9_save 13 = .ok (.invokevirtual 297, 3) := by decide +kernel
theorem dX9_save_16 : decode cX9_save 16 = .ok (.ifCond .eq 5, 3) := by decide +kernel
theorem dX9_save_19 : decode cX9_save 19 = .ok (.iconst 0, 1) := by decide +kernel
theorem dX9_save_20 : decode cX9_save 20 = .ok (.ireturn, 1) := by decide +kernel
theorem dX9_save_21 : decode cX9_save 21 = .ok (.iconst 0, 1) := by decide +kernel
theorem dX9_save_22 : decode cX9_save 22 = .ok (.istore_n 2, 1) := by decide +kernel
theorem dX9_save_23 : decode cX9_save 23 = .ok (.iload_n 2, 1) := by decide +kernel
theorem dX9_save_24 : decode cX9_save 24 = .ok (.sipush 496, 3) := by decide +kernel
theorem dX9_save_27 : decode cX9_save 27 = .ok (.if_icmp .ge 27, 3) := by decide +kernel
theorem dX9_save_30 : decode cX9_save 30 = .ok (.aload_n 0, 1) := by decide +kernel
theorem dX9_save_31 : decode cX9_save 31 = .ok (.getfield 29, 3) := by decide +kernel
theorem dX9_save_34 : decode cX9_save 34 = .ok (.sipush 496, 3) := by decide +kernel
theorem dX9_save_37 : decode cX9_save 37 = .ok (.iload_n 1, 1) := by decide +kernel
theorem dX9_save_38 : decode cX9_save 38 = .ok (.imul, 1) := by decide +kernel
theorem dX9_save_39 : decode cX9_save 39 = .ok (.iload_n 2, 1) := by decide +kernel
theorem dX9_save_40 : decode cX9_save 40 = .ok (.iadd, 1) := by decide +kernel
theorem dX9_save_41 : decode cX9_save 41 = .ok (.aload_n 0, 1) := by decide +kernel
theorem dX9_save_42 : decode cX9_save 42 = .ok (.getfield 17, 3) := by decide +kernel
theorem dX9_save_45 : decode cX9_save 45 = .ok (.iload_n 2, 1) := by decide +kernel
theorem dX9_save_46 : decode cX9_save 46 = .ok (.iaload, 1) := by decide +kernel
theorem dX9_save_47 : decode cX9_save 47 = .ok (.iastore, 1) := by decide +kernel
theorem dX9_save_48 : decode cX9_save 48 = .ok (.iinc 2 1, 3) := by decide +kernel
theorem dX9_save_51 : decode cX9_save 51 = .ok (.goto (-28), 3) := by decide +kernel
theorem dX9_save_54 : decode cX9_save 54 = .ok (.aload_n 0, 1) := by decide +kernel
theorem dX9_save_55 : decode cX9_save 55 = .ok (.getfield 32, 3) := by decide +kernel
theorem dX9_save_58 : decode cX9_save 58 = .ok (.iload_n 1, 1) := by decide +kernel
theorem dX9_save_59 : decode cX9_save 59 = .ok (.iconst 1, 1) := by decide +kernel
theorem dX9_save_60 : decode cX9_save 60 = .ok (.bastore, 1) := by decide +kernel
theorem dX9_save_61 : decode cX9_save 61 = .ok (.aload_n 0, 1) := by decide +kernel
theorem dX9_save_62 : decode cX9_save 62 = .ok (.getfield 17, 3) := by decide +kernel
theorem dX9_save_65 : decode cX9_save 65 = .ok (.iconst 0, 1) := by decide +kernel
theorem dX9_save_66 : decode cX9_save 66 = .ok (.iaload, 1) := by decide +kernel
theorem dX9_save_67 : decode cX9_save 67 = .ok (.ireturn, 1) := by decide +kernel
def fX9_save_L23 (p1 : Int32) (k23 : Int32 → bM → Option (Int32 × bM)) (y8 : Int32) (v9 : bM) : Option (Int32 × bM) :=
  (if 496 ≤ y8 then (ck p1 2 <| nm (upd v9 (7158 + p1.toNatClampNeg) 1) fun v12 => some (v12 (710 + (0 : Int32).toNatClampNeg), v12)) else (ck y8 496 <| nm (v9 (710 + y8.toNatClampNeg)) fun x14 => ck ((496 * p1) + y8) 992 <| nm (upd v9 (6166 + ((496 * p1) + y8).toNatClampNeg) x14) fun v16 => nm (y8 + 1) fun x17 => k23 x17 v16))
def fX9_save (p1 : Int32) (v : bM) : Option (Int32 × bM) :=
  nm (upd v 3 0) fun v1 => bnr (fX9_inRange p1 0 1) fun r3 => bnd (fX9_fails r3 1 v1) fun r6 w5 => (if r6 = 0 then (lp (fX9_save_L23 p1) (fun _ _ => none) lpN 0 w5) else (some (0, w5)))
set_option maxRecDepth 100000 in
set_option maxHeartbeats 4000000 in
theorem mX9_save {l : Launch} {p1 : Int32} {v : bM} {r0 : Int32} {w0 : bM} (hf : fX9_save p1 v = some (r0, w0)) : bMet l yX9_save cX9_save 3 (some .int) 1 0 0 LMo (fun E a => [.ref a, .int p1]) v w0 (fun _ => some (.int r0)) := by
  refine bk_start (by decide +kernel) wfMo (fun _ _ => Nat.le_of_ble_eq_true rfl) ?_
  intro p e s m args below meth c D E a ls H locs X hr hl hB
  have hx := X.1
  have hb := X.2.1
  have hown := X.2.2.2.1
  have hts := X.2.2.2.2.1
  have hl : lv_has ls 3 [(0, .ref a), (1, .int p1)] := hl
  have hf := (fX9_save.eq_1 p1 v).symm.trans hf
  refine lv_aload_n hx hb dX9_save_0 rfl (lv_at hl 0 rfl) ?_
  refine lv_iconst (v := 0) hx hb dX9_save_1 (by decide) ?_
  refine bk_putI X hB kl_X9 0 lc_Mo_0 4 (by decide) rfl rfl rfl wm_1867 dX9_save_2 rfl (fun H locs hB => ?_)
  obtain ⟨v1, ev1⟩ : ∃ y : bM, y = upd v 3 0 := ⟨_, rfl⟩
  have hf := nm_use hf ev1
  rw [← ev1] at hB
  refine lv_aload_n hx hb dX9_save_5 rfl (lv_at hl 0 rfl) ?_
  refine lv_iload_n hx hb dX9_save_6 rfl (lv_at hl 1 rfl) ?_
  refine lv_iconst (v := 0) hx hb dX9_save_7 (by decide) ?_
  refine lv_iconst (v := 1) hx hb dX9_save_8 (by decide) ?_
  obtain ⟨r3, hc2, hf⟩ := bnr_some hf
  refine bk_non (v0 := v1) (w0 := v1) hB (fun h1 h2 h3 => bk_runS X (Av := [.int p1, .int 0, .int 1]) (rest := [.ref a]) (mX9_inRange hc2) ys_X9_inRange wm_1653 ⟨Nat.le_of_ble_eq_true rfl, Nat.le_of_ble_eq_true rfl⟩ rfl rfl hl.1 h1 h2 h3 (Nat.le_of_ble_eq_true rfl) ⟨Nat.le_of_ble_eq_true rfl, Nat.le_of_ble_eq_true rfl⟩ dX9_save_9) (fun H locs hB => ?_)
  refine W.eq (g2 := F0 m 12 ls [.int r3, .ref a]) rfl ?_
  refine lv_iconst (v := 1) hx hb dX9_save_12 (by decide) ?_
  obtain ⟨r6, w5, hc4, hf⟩ := bnd_some hf
  refine bk_all hB (fun h1 h2 h3 => bk_runV X (Av := [.int r3, .int 1]) (rest := []) (mX9_fails hc4) yv_X9_fails wm_1977 ⟨Nat.le_of_ble_eq_true rfl, Nat.le_of_ble_eq_true rfl⟩ rfl rfl hl.1 kl_X9.1 (hB.1.obj lc_Mo_0) h1 h2 h3 (Nat.le_of_ble_eq_true rfl) ⟨Nat.le_of_ble_eq_true rfl, Nat.le_of_ble_eq_true rfl⟩ dX9_save_13) (fun H locs hB => ?_)
  refine W.eq (g2 := F0 m 16 ls [.int r6]) rfl ?_
  refine lv_if_eq (tgt := 21) hx hb dX9_save_16 (by decide) (fun c7 => ?_) (fun c7 => ?_)
  · have hf := (if_pos c7).symm.trans hf
    refine lv_iconst (v := 0) hx hb dX9_save_21 (by decide) ?_
    refine lv_istore_n (lv' := [(2, .int 0), (0, .ref a), (1, .int p1)]) hx hb dX9_save_22 rfl hl (by decide) rfl (fun ls hl => ?_)
    have hL23 : ∀ (n23 : Nat) (y8 : Int32) (v9 : bM) (H : Heap) (locs : List Loc) (ls : Array Slot), lp (fX9_save_L23 p1) (fun _ _ => none) n23 y8 v9 = some (r0, w0) → bB D E LMo a v9 s H locs → lv_has ls 3 [(0, .ref a), (1, .int p1), (2, .int y8)] → W p l e (rmOf 1 0 0) s m args below meth c H locs 0 0 (bQ below D E LMo a w0 (some (.int r0)) args s 0 0) (F0 m 23 ls []) := by
      intro n23
      induction n23 with
      | zero => intro y8 v9 H locs ls hf; cases (show (none : Option (Int32 × bM)) = some (r0, w0) from hf)
      | succ n23 ih23 =>
        intro y8 v9 H locs ls hf hB hl
        have hf := (fX9_save_L23.eq_1 p1 (lp (fX9_save_L23 p1) (fun _ _ => none) n23) y8 v9).symm.trans (show fX9_save_L23 p1 (lp (fX9_save_L23 p1) (fun _ _ => none) n23) y8 v9 = some (r0, w0) from hf)
        refine lv_iload_n hx hb dX9_save_23 rfl (lv_at hl 2 rfl) ?_
        refine lv_sipush (v := 496) hx hb dX9_save_24 (by decide) ?_
        refine lv_icmp_ge (tgt := 54) hx hb dX9_save_27 (by decide) (fun c10 => ?_) (fun c10 => ?_)
        · have hf := (if_pos c10).symm.trans hf
          refine lv_aload_n hx hb dX9_save_54 rfl (lv_at hl 0 rfl) ?_
          refine bk_getR X hB kl_X9 0 lc_Mo_0 11 (by decide) rfl wm_1874 dX9_save_55 ?_
          refine lv_iload_n hx hb dX9_save_58 rfl (lv_at hl 1 rfl) ?_
          refine lv_iconst (v := 1) hx hb dX9_save_59 (by decide) ?_
          obtain ⟨h11, hf⟩ := ck_some hf
          refine bk_zst X hB 7 lc_Mo_7 h11 rfl dX9_save_60 (fun H locs hB => ?_)
          obtain ⟨v12, ev12⟩ : ∃ y : bM, y = upd v9 (7158 + p1.toNatClampNeg) 1 := ⟨_, rfl⟩
          have hf := nm_use hf ev12
          rw [← ev12] at hB
          refine lv_aload_n hx hb dX9_save_61 rfl (lv_at hl 0 rfl) ?_
          refine bk_getR X hB kl_X9 0 lc_Mo_0 5 (by decide) rfl wm_1868 dX9_save_62 ?_
          refine lv_iconst (v := 0) hx hb dX9_save_65 (by decide) ?_
          refine bk_ald X hB 2 lc_Mo_2 (vp_c 0 496 rfl) dX9_save_66 ?_
          exact bk_iW X hr rfl hf hB (Nat.le_of_ble_eq_true rfl) (Nat.le_of_ble_eq_true rfl) dX9_save_67
        · have hf := (if_neg c10).symm.trans hf
          refine lv_aload_n hx hb dX9_save_30 rfl (lv_at hl 0 rfl) ?_
          refine bk_getR X hB kl_X9 0 lc_Mo_0 10 (by decide) rfl wm_1873 dX9_save_31 ?_
          refine lv_sipush (v := 496) hx hb dX9_save_34 (by decide) ?_
          refine lv_iload_n hx hb dX9_save_37 rfl (lv_at hl 1 rfl) ?_
          refine lv_imul hx hb dX9_save_38 ?_
          refine lv_iload_n hx hb dX9_save_39 rfl (lv_at hl 2 rfl) ?_
          refine lv_iadd hx hb dX9_save_40 ?_
          refine lv_aload_n hx hb dX9_save_41 rfl (lv_at hl 0 rfl) ?_
          refine bk_getR X hB kl_X9 0 lc_Mo_0 5 (by decide) rfl wm_1868 dX9_save_42 ?_
          refine lv_iload_n hx hb dX9_save_45 rfl (lv_at hl 2 rfl) ?_
          obtain ⟨h13, hf⟩ := ck_some hf
          refine bk_ald X hB 2 lc_Mo_2 h13 dX9_save_46 ?_
          refine lv_topi (fun x14 ex14 => ?_)
          have hf := nm_use hf ex14
          obtain ⟨h15, hf⟩ := ck_some hf
          refine bk_ast X hB 6 lc_Mo_6 h15 dX9_save_47 (fun H locs hB => ?_)
          obtain ⟨v16, ev16⟩ : ∃ y : bM, y = upd v9 (6166 + ((496 * p1) + y8).toNatClampNeg) x14 := ⟨_, rfl⟩
          have hf := nm_use hf ev16
          rw [← ev16] at hB
          obtain ⟨x17, ex17⟩ : ∃ y : Int32, y = y8 + 1 := ⟨_, rfl⟩
          have hf := nm_use hf ex17
          refine lv_iinc (v := x17) (lv' := [(2, .int x17), (0, .ref a), (1, .int p1)]) hx hb dX9_save_48 hl (k := 2) rfl (by rw [ex17]; rfl) (by decide) rfl (fun ls hl => ?_)
          refine lv_goto (tgt := 23) hx hb dX9_save_51 (by decide) ?_
          exact ih23 x17 v16 H locs ls hf hB (lv_sub hl [1, 2, 0] rfl)
    exact hL23 lpN 0 w5 H locs ls hf hB (lv_sub hl [1, 2, 0] rfl)
  · have hf := (if_neg c7).symm.trans hf
    refine lv_iconst (v := 0) hx hb dX9_save_19 (by decide) ?_
    exact bk_iW X hr rfl hf hB (Nat.le_of_ble_eq_true rfl) (Nat.le_of_ble_eq_true rfl) dX9_save_20
theorem yv_X9_save : bYv yX9_save RX9 cX9_save 3 (some .int) 1 := ⟨⟨rfl, by decide, by decide, rfl⟩, wm_2238, wm_2239, wm_17, wm_2240⟩

theorem dX9_restore_0 : decode cX9_restore 0 = .ok (.aload_n 0, 1) := by decide +kernel
theorem dX9_restore_1 : decode cX9_restore 1 = .ok (.iconst 0, 1) := by decide +kernel
theorem dX9_restore_2 : decode cX9_restore 2 = .ok (.putfield 60, 3) := by decide +kernel
theorem dX9_restore_5 : decode cX9_restore 5 = .ok (.aload_n 0, 1) := by decide +kernel
theorem dX9_restore_6 : decode cX9_restore 6 = .ok (.iload_n 1, 1) := by decide +kernel
theorem dX9_restore_7 : decode cX9_restore 7 = .ok (.iconst 0, 1) := by decide +kernel
theorem dX9_restore_8 : decode cX9_restore 8 = .ok (.iconst 1, 1) := by decide +kernel
theorem dX9_restore_9 : decode cX9_restore 9 = .ok (.invokestatic 135, 3) := by decide +kernel
theorem dX9_restore_12 : decode cX9_restore 12 = .ok (.iconst 1, 1) := by decide +kernel
theorem dX9_restore_13 : decode cX9_restore 13 = .ok (.invokevirtual 297, 3) := by decide +kernel
theorem dX9_restore_16 : decode cX9_restore 16 = .ok (.ifCond .ne 17, 3) := by decide +kernel
theorem dX9_restore_19 : decode cX9_restore 19 = .ok (.aload_n 0, 1) := by decide +kernel
theorem dX9_restore_20 : decode cX9_restore 20 = .ok (.aload_n 0, 1) := by decide +kernel
theorem dX9_restore_21 : decode cX9_restore 21 = .ok (.getfield 32, 3) := by decide +kernel
theorem dX9_restore_24 : decode cX9_restore 24 = .ok (.iload_n 1, 1) := by decide +kernel
theorem dX9_restore_25 : decode cX9_restore 25 = .ok (.baload, 1) := by decide +kernel
theorem dX9_restore_26 : decode cX9_restore 26 = .ok (.iconst 2, 1) := by decide +kernel
theorem dX9_restore_27 : decode cX9_restore 27 = .ok (.invokevirtual 297, 3) := by decide +kernel
theorem dX9_restore_30 : decode cX9_restore 30 = .ok (.ifCond .eq 5, 3) := by decide +kernel
theorem dX9_restore_33 : decode cX9_restore 33 = .ok (.iconst 0, 1) := by decide +kernel
theorem dX9_restore_34 : decode cX9_restore 34 = .ok (.ireturn, 1) := by decide +kernel
theorem dX9_restore_35 : decode cX9_restore 35 = .ok (.iconst 0, 1) := by decide +kernel
theorem dX9_restore_36 : decode cX9_restore 36 = .ok (.istore_n 2, 1) := by decide +kernel
theorem dX9_restore_37 : decode cX9_restore 37 = .ok (.iload_n 2, 1) := by decide +kernel
theorem dX9_restore_38 : decode cX9_restore 38 = .ok (.sipush 496, 3) := by decide +kernel
theorem dX9_restore_41 : decode cX9_restore 41 = .ok (.if_icmp .ge 27, 3) := by decide +kernel
theorem dX9_restore_44 : decode cX9_restore 44 = .ok (.aload_n 0, 1) := by decide +kernel
theorem dX9_restore_45 : decode cX9_restore 45 = .ok (.getfield 17, 3) := by decide +kernel
theorem dX9_restore_48 : decode cX9_restore 48 = .ok (.iload_n 2, 1) := by decide +kernel
theorem dX9_restore_49 : decode cX9_restore 49 = .ok (.aload_n 0, 1) := by decide +kernel
theorem dX9_restore_50 : decode cX9_restore 50 = .ok (.getfield 29, 3) := by decide +kernel
theorem dX9_restore_53 : decode cX9_restore 53 = .ok (.sipush 496, 3) := by decide +kernel
theorem dX9_restore_56 : decode cX9_restore 56 = .ok (.iload_n 1, 1) := by decide +kernel
theorem dX9_restore_57 : decode cX9_restore 57 = .ok (.imul, 1) := by decide +kernel
theorem dX9_restore_58 : decode cX9_restore 58 = .ok (.iload_n 2, 1) := by decide +kernel
theorem dX9_restore_59 : decode cX9_restore 59 = .ok (.iadd, 1) := by decide +kernel
theorem dX9_restore_60 : decode cX9_restore 60 = .ok (.iaload, 1) := by decide +kernel
theorem dX9_restore_61 : decode cX9_restore 61 = .ok (.iastore, 1) := by decide +kernel
theorem dX9_restore_62 : decode cX9_restore 62 = .ok (.iinc 2 1, 3) := by decide +kernel
theorem dX9_restore_65 : decode cX9_restore 65 = .ok (.goto (-28), 3) := by decide +kernel
theorem dX9_restore_68 : decode cX9_restore 68 = .ok (.aload_n 0, 1) := by decide +kernel
theorem dX9_restore_69 : decode cX9_restore 69 = .ok (.iconst 0, 1) := by decide +kernel
theorem dX9_restore_70 : decode cX9_restore 70 = .ok (.putfield 288, 3) := by decide +kernel
theorem dX9_restore_73 : decode cX9_restore 73 = .ok (.aload_n 0, 1) := by decide +kernel
theorem dX9_restore_74 : decode cX9_restore 74 = .ok (.getfield 17, 3) := by decide +kernel
theorem dX9_restore_77 : decode cX9_restore 77 = .ok (.iconst 0, 1) := by decide +kernel
theorem dX9_restore_78 : decode cX9_restore 78 = .ok (.iaload, 1) := by decide +kernel
theorem dX9_restore_79 : decode cX9_restore 79 = .ok (.ireturn, 1) := by decide +kernel
def fX9_restore_L37 (p1 : Int32) (k37 : Int32 → bM → Option (Int32 × bM)) (y13 : Int32) (v14 : bM) : Option (Int32 × bM) :=
  (if 496 ≤ y13 then (nm (upd v14 4 0) fun v16 => some (v16 (710 + (0 : Int32).toNatClampNeg), v16)) else (ck ((496 * p1) + y13) 992 <| nm (v14 (6166 + ((496 * p1) + y13).toNatClampNeg)) fun x18 => ck y13 496 <| nm (upd v14 (710 + y13.toNatClampNeg) x18) fun v20 => nm (y13 + 1) fun x21 => k37 x21 v20))
def fX9_restore (p1 : Int32) (v : bM) : Option (Int32 × bM) :=
  nm (upd v 3 0) fun v1 => bnr (fX9_inRange p1 0 1) fun r3 => bnd (fX9_fails r3 1 v1) fun r6 w5 => (if r6 = 0 then (ck p1 2 <| bnd (fX9_fails (w5 (7158 + p1.toNatClampNeg)) 2 w5) fun r11 w10 => (if r11 = 0 then (lp (fX9_restore_L37 p1) (fun _ _ => none) lpN 0 w10) else (some (0, w10)))) else (some (0, w5)))
set_option maxRecDepth 100000 in
set_option maxHeartbeats 4000000 in
theorem mX9_restore {l : Launch} {p1 : Int32} {v : bM} {r0 : Int32} {w0 : bM} (hf : fX9_restore p1 v = some (r0, w0)) : bMet l yX9_restore cX9_restore 3 (some .int) 1 0 0 LMo (fun E a => [.ref a, .int p1]) v w0 (fun _ => some (.int r0)) := by
  refine bk_start (by decide +kernel) wfMo (fun _ _ => Nat.le_of_ble_eq_true rfl) ?_
  intro p e s m args below meth c D E a ls H locs X hr hl hB
  have hx := X.1
  have hb := X.2.1
  have hown := X.2.2.2.1
  have hts := X.2.2.2.2.1
  have hl : lv_has ls 3 [(0, .ref a), (1, .int p1)] := hl
  have hf := (fX9_restore.eq_1 p1 v).symm.trans hf
  refine lv_aload_n hx hb dX9_restore_0 rfl (lv_at hl 0 rfl) ?_
  refine lv_iconst (v := 0) hx hb dX9_restore_1 (by decide) ?_
  refine bk_putI X hB kl_X9 0 lc_Mo_0 4 (by decide) rfl rfl rfl wm_1867 dX9_restore_2 rfl (fun H locs hB => ?_)
  obtain ⟨v1, ev1⟩ : ∃ y : bM, y = upd v 3 0 := ⟨_, rfl⟩
  have hf := nm_use hf ev1
  rw [← ev1] at hB
  refine lv_aload_n hx hb dX9_restore_5 rfl (lv_at hl 0 rfl) ?_
  refine lv_iload_n hx hb dX9_restore_6 rfl (lv_at hl 1 rfl) ?_
  refine lv_iconst (v := 0) hx hb dX9_restore_7 (by decide) ?_
  refine lv_iconst (v := 1) hx hb dX9_restore_8 (by decide) ?_
  obtain ⟨r3, hc2, hf⟩ := bnr_some hf
  refine bk_non (v0 := v1) (w0 := v1) hB (fun h1 h2 h3 => bk_runS X (Av := [.int p1, .int 0, .int 1]) (rest := [.ref a]) (mX9_inRange hc2) ys_X9_inRange wm_1653 ⟨Nat.le_of_ble_eq_true rfl, Nat.le_of_ble_eq_true rfl⟩ rfl rfl hl.1 h1 h2 h3 (Nat.le_of_ble_eq_true rfl) ⟨Nat.le_of_ble_eq_true rfl, Nat.le_of_ble_eq_true rfl⟩ dX9_restore_9) (fun H locs hB => ?_)
  refine W.eq (g2 := F0 m 12 ls [.int r3, .ref a]) rfl ?_
  refine lv_iconst (v := 1) hx hb dX9_restore_12 (by decide) ?_
  obtain ⟨r6, w5, hc4, hf⟩ := bnd_some hf
  refine bk_all hB (fun h1 h2 h3 => bk_runV X (Av := [.int r3, .int 1]) (rest := []) (mX9_fails hc4) yv_X9_fails wm_1977 ⟨Nat.le_of_ble_eq_true rfl, Nat.le_of_ble_eq_true rfl⟩ rfl rfl hl.1 kl_X9.1 (hB.1.obj lc_Mo_0) h1 h2 h3 (Nat.le_of_ble_eq_true rfl) ⟨Nat.le_of_ble_eq_true rfl, Nat.le_of_ble_eq_true rfl⟩ dX9_restore_13) (fun H locs hB => ?_)
  refine W.eq (g2 := F0 m 16 ls [.int r6]) rfl ?_
  refine lv_if_ne (tgt := 33) hx hb dX9_restore_16 (by decide) (fun c7 => ?_) (fun c7 => ?_)
  · have hf := (if_neg c7).symm.trans hf
    refine lv_iconst (v := 0) hx hb dX9_restore_33 (by decide) ?_
    exact bk_iW X hr rfl hf hB (Nat.le_of_ble_eq_true rfl) (Nat.le_of_ble_eq_true rfl) dX9_restore_34
  · have hf := (if_pos c7).symm.trans hf
    refine lv_aload_n hx hb dX9_restore_19 rfl (lv_at hl 0 rfl) ?_
    refine lv_aload_n hx hb dX9_restore_20 rfl (lv_at hl 0 rfl) ?_
    refine bk_getR X hB kl_X9 0 lc_Mo_0 11 (by decide) rfl wm_1874 dX9_restore_21 ?_
    refine lv_iload_n hx hb dX9_restore_24 rfl (lv_at hl 1 rfl) ?_
    obtain ⟨h8, hf⟩ := ck_some hf
    refine bk_zld X hB 7 lc_Mo_7 h8 dX9_restore_25 ?_
    refine lv_iconst (v := 2) hx hb dX9_restore_26 (by decide) ?_
    obtain ⟨r11, w10, hc9, hf⟩ := bnd_some hf
    refine bk_all hB (fun h1 h2 h3 => bk_runV X (Av := [.int (w5 (7158 + p1.toNatClampNeg)), .int 2]) (rest := []) (mX9_fails hc9) yv_X9_fails wm_1977 ⟨Nat.le_of_ble_eq_true rfl, Nat.le_of_ble_eq_true rfl⟩ rfl rfl hl.1 kl_X9.1 (hB.1.obj lc_Mo_0) h1 h2 h3 (Nat.le_of_ble_eq_true rfl) ⟨Nat.le_of_ble_eq_true rfl, Nat.le_of_ble_eq_true rfl⟩ dX9_restore_27) (fun H locs hB => ?_)
    refine W.eq (g2 := F0 m 30 ls [.int r11]) rfl ?_
    refine lv_if_eq (tgt := 35) hx hb dX9_restore_30 (by decide) (fun c12 => ?_) (fun c12 => ?_)
    · have hf := (if_pos c12).symm.trans hf
      refine lv_iconst (v := 0) hx hb dX9_restore_35 (by decide) ?_
      refine lv_istore_n (lv' := [(2, .int 0), (0, .ref a), (1, .int p1)]) hx hb dX9_restore_36 rfl hl (by decide) rfl (fun ls hl => ?_)
      have hL37 : ∀ (n37 : Nat) (y13 : Int32) (v14 : bM) (H : Heap) (locs : List Loc) (ls : Array Slot), lp (fX9_restore_L37 p1) (fun _ _ => none) n37 y13 v14 = some (r0, w0) → bB D E LMo a v14 s H locs → lv_has ls 3 [(0, .ref a), (1, .int p1), (2, .int y13)] → W p l e (rmOf 1 0 0) s m args below meth c H locs 0 0 (bQ below D E LMo a w0 (some (.int r0)) args s 0 0) (F0 m 37 ls []) := by
        intro n37
        induction n37 with
        | zero => intro y13 v14 H locs ls hf; cases (show (none : Option (Int32 × bM)) = some (r0, w0) from hf)
        | succ n37 ih37 =>
          intro y13 v14 H locs ls hf hB hl
          have hf := (fX9_restore_L37.eq_1 p1 (lp (fX9_restore_L37 p1) (fun _ _ => none) n37) y13 v14).symm.trans (show fX9_restore_L37 p1 (lp (fX9_restore_L37 p1) (fun _ _ => none) n37) y13 v14 = some (r0, w0) from hf)
          refine lv_iload_n hx hb dX9_restore_37 rfl (lv_at hl 2 rfl) ?_
          refine lv_sipush (v := 496) hx hb dX9_restore_38 (by decide) ?_
          refine lv_icmp_ge (tgt := 68) hx hb dX9_restore_41 (by decide) (fun c15 => ?_) (fun c15 => ?_)
          · have hf := (if_pos c15).symm.trans hf
            refine lv_aload_n hx hb dX9_restore_68 rfl (lv_at hl 0 rfl) ?_
            refine lv_iconst (v := 0) hx hb dX9_restore_69 (by decide) ?_
            refine bk_putI X hB kl_X9 0 lc_Mo_0 9 (by decide) rfl rfl rfl wm_1872 dX9_restore_70 rfl (fun H locs hB => ?_)
            obtain ⟨v16, ev16⟩ : ∃ y : bM, y = upd v14 4 0 := ⟨_, rfl⟩
            have hf := nm_use hf ev16
            rw [← ev16] at hB
            refine lv_aload_n hx hb dX9_restore_73 rfl (lv_at hl 0 rfl) ?_
            refine bk_getR X hB kl_X9 0 lc_Mo_0 5 (by decide) rfl wm_1868 dX9_restore_74 ?_
            refine lv_iconst (v := 0) hx hb dX9_restore_77 (by decide) ?_
            refine bk_ald X hB 2 lc_Mo_2 (vp_c 0 496 rfl) dX9_restore_78 ?_
            exact bk_iW X hr rfl hf hB (Nat.le_of_ble_eq_true rfl) (Nat.le_of_ble_eq_true rfl) dX9_restore_79
          · have hf := (if_neg c15).symm.trans hf
            refine lv_aload_n hx hb dX9_restore_44 rfl (lv_at hl 0 rfl) ?_
            refine bk_getR X hB kl_X9 0 lc_Mo_0 5 (by decide) rfl wm_1868 dX9_restore_45 ?_
            refine lv_iload_n hx hb dX9_restore_48 rfl (lv_at hl 2 rfl) ?_
            refine lv_aload_n hx hb dX9_restore_49 rfl (lv_at hl 0 rfl) ?_
            refine bk_getR X hB kl_X9 0 lc_Mo_0 10 (by decide) rfl wm_1873 dX9_restore_50 ?_
            refine lv_sipush (v := 496) hx hb dX9_restore_53 (by decide) ?_
            refine lv_iload_n hx hb dX9_restore_56 rfl (lv_at hl 1 rfl) ?_
            refine lv_imul hx hb dX9_restore_57 ?_
            refine lv_iload_n hx hb dX9_restore_58 rfl (lv_at hl 2 rfl) ?_
            refine lv_iadd hx hb dX9_restore_59 ?_
            obtain ⟨h17, hf⟩ := ck_some hf
            refine bk_ald X hB 6 lc_Mo_6 h17 dX9_restore_60 ?_
            refine lv_topi (fun x18 ex18 => ?_)
            have hf := nm_use hf ex18
            obtain ⟨h19, hf⟩ := ck_some hf
            refine bk_ast X hB 2 lc_Mo_2 h19 dX9_restore_61 (fun H locs hB => ?_)
            obtain ⟨v20, ev20⟩ : ∃ y : bM, y = upd v14 (710 + y13.toNatClampNeg) x18 := ⟨_, rfl⟩
            have hf := nm_use hf ev20
            rw [← ev20] at hB
            obtain ⟨x21, ex21⟩ : ∃ y : Int32, y = y13 + 1 := ⟨_, rfl⟩
            have hf := nm_use hf ex21
            refine lv_iinc (v := x21) (lv' := [(2, .int x21), (0, .ref a), (1, .int p1)]) hx hb dX9_restore_62 hl (k := 2) rfl (by rw [ex21]; rfl) (by decide) rfl (fun ls hl => ?_)
            refine lv_goto (tgt := 37) hx hb dX9_restore_65 (by decide) ?_
            exact ih37 x21 v20 H locs ls hf hB (lv_sub hl [1, 2, 0] rfl)
      exact hL37 lpN 0 w10 H locs ls hf hB (lv_sub hl [1, 2, 0] rfl)
    · have hf := (if_neg c12).symm.trans hf
      refine lv_iconst (v := 0) hx hb dX9_restore_33 (by decide) ?_
      exact bk_iW X hr rfl hf hB (Nat.le_of_ble_eq_true rfl) (Nat.le_of_ble_eq_true rfl) dX9_restore_34
theorem yv_X9_restore : bYv yX9_restore RX9 cX9_restore 3 (some .int) 1 := ⟨⟨rfl, by decide, by decide, rfl⟩, wm_2242, wm_2243, wm_17, wm_2244⟩

theorem dX9_write_0 : decode cX9_write 0 = .ok (.aload_n 0, 1) := by decide +kernel
theorem dX9_write_1 : decode cX9_write 1 = .ok (.getfield 39, 3) := by decide +kernel
theorem dX9_write_4 : decode cX9_write 4 = .ok (.aload_n 0, 1) := by decide +kernel
theorem dX9_write_5 : decode cX9_write 5 = .ok (.getfield 346, 3) := by decide +kernel
theorem dX9_write_8 : decode cX9_write 8 = .ok (.iload_n 1, 1) := by decide +kernel
theorem dX9_write_9 : decode cX9_write 9 = .ok (.iastore, 1) := by decide +kernel
theorem dX9_write_10 : decode cX9_write 10 = .ok (.aload_n 0, 1) := by decide +kernel
theorem dX9_write_11 : decode cX9_write 11 = .ok (.dup, 1) := by decide +kernel
theorem dX9_write_12 : decode cX9_write 12 = .ok (.getfield 346, 3) := by decide +kernel
theorem dX9_write_15 : decode cX9_write 15 = .ok (.iconst 1, 1) := by decide +kernel
theorem dX9_write_16 : decode cX9_write 16 = .ok (.iadd, 1) := by decide +kernel
theorem dX9_write_17 : decode cX9_write 17 = .ok (.putfield 346, 3) := by decide +kernel
theorem dX9_write_20 : decode cX9_write 20 = .ok (.return_, 1) := by decide +kernel
def fX9_write (p1 : Int32) (v : bM) : Option bM :=
  ck (v 9) 80 <| nm (upd v (7165 + (v 9).toNatClampNeg) p1) fun v2 => nm ((v2 9) + 1) fun x3 => nm (upd v2 9 x3) fun v4 => some v4
set_option maxRecDepth 100000 in
set_option maxHeartbeats 4000000 in
theorem mX9_write {l : Launch} {p1 : Int32} {v : bM} {w0 : bM} (hf : fX9_write p1 v = some w0) : bMet l yX9_write cX9_write 2 none 0 0 0 LMo (fun E a => [.ref a, .int p1]) v w0 (fun _ => none) := by
  refine bk_start (by decide +kernel) wfMo (fun _ _ => Nat.le_of_ble_eq_true rfl) ?_
  intro p e s m args below meth c D E a ls H locs X hr hl hB
  have hx := X.1
  have hb := X.2.1
  have hown := X.2.2.2.1
  have hts := X.2.2.2.2.1
  have hl : lv_has ls 2 [(0, .ref a), (1, .int p1)] := hl
  have hf := (fX9_write.eq_1 p1 v).symm.trans hf
  refine lv_aload_n hx hb dX9_write_0 rfl (lv_at hl 0 rfl) ?_
  refine bk_getR X hB kl_X9 0 lc_Mo_0 13 (by decide) rfl wm_1876 dX9_write_1 ?_
  refine lv_aload_n hx hb dX9_write_4 rfl (lv_at hl 0 rfl) ?_
  refine bk_getI X hB kl_X9 0 lc_Mo_0 18 (by decide) rfl wm_1881 dX9_write_5 ?_
  refine lv_iload_n hx hb dX9_write_8 rfl (lv_at hl 1 rfl) ?_
  obtain ⟨h1, hf⟩ := ck_some hf
  refine bk_ast X hB 9 lc_Mo_9 h1 dX9_write_9 (fun H locs hB => ?_)
  obtain ⟨v2, ev2⟩ : ∃ y : bM, y = upd v (7165 + (v 9).toNatClampNeg) p1 := ⟨_, rfl⟩
  have hf := nm_use hf ev2
  rw [← ev2] at hB
  refine lv_aload_n hx hb dX9_write_10 rfl (lv_at hl 0 rfl) ?_
  refine lv_dup hx hb dX9_write_11 rfl ?_
  refine bk_getI X hB kl_X9 0 lc_Mo_0 18 (by decide) rfl wm_1881 dX9_write_12 ?_
  refine lv_iconst (v := 1) hx hb dX9_write_15 (by decide) ?_
  refine lv_iadd hx hb dX9_write_16 ?_
  refine lv_topi (fun x3 ex3 => ?_)
  have hf := nm_use hf ex3
  refine bk_putI X hB kl_X9 0 lc_Mo_0 18 (by decide) rfl rfl rfl wm_1881 dX9_write_17 rfl (fun H locs hB => ?_)
  obtain ⟨v4, ev4⟩ : ∃ y : bM, y = upd v2 9 x3 := ⟨_, rfl⟩
  have hf := nm_use hf ev4
  rw [← ev4] at hB
  exact bk_vW X hr rfl hf hB (Nat.le_of_ble_eq_true rfl) (Nat.le_of_ble_eq_true rfl) dX9_write_20
theorem yv_X9_write : bYv yX9_write RX9 cX9_write 2 none 1 := ⟨⟨rfl, by decide, by decide, rfl⟩, wm_2251, wp_91, wm_17, wm_2252⟩

theorem dX9_writeNumber_0 : decode cX9_writeNumber 0 = .ok (.iload_n 1, 1) := by decide +kernel
theorem dX9_writeNumber_1 : decode cX9_writeNumber 1 = .ok (.istore_n 2, 1) := by decide +kernel
theorem dX9_writeNumber_2 : decode cX9_writeNumber 2 = .ok (.iload_n 1, 1) := by decide +kernel
theorem dX9_writeNumber_3 : decode cX9_writeNumber 3 = .ok (.ifCond .ge 12, 3) := by decide +kernel
theorem dX9_writeNumber_6 : decode cX9_writeNumber 6 = .ok (.aload_n 0, 1) := by decide +kernel
theorem dX9_writeNumber_7 : decode cX9_writeNumber 7 = .ok (.bipush 45, 2) := by decide +kernel
theorem dX9_writeNumber_9 : decode cX9_writeNumber 9 = .ok (.invokevirtual 349, 3) := by decide +kernel
theorem dX9_writeNumber_12 : decode cX9_writeNumber 12 = .ok (.iload_n 1, 1) := by decide +kernel
theorem dX9_writeNumber_13 : decode cX9_writeNumber 13 = .ok (.ineg, 1) := by decide +kernel
theorem dX9_writeNumber_14 : decode cX9_writeNumber 14 = .ok (.istore_n 2, 1) := by decide +kernel
theorem dX9_writeNumber_15 : decode cX9_writeNumber 15 = .ok (.iconst 1, 1) := by decide +kernel
theorem dX9_writeNumber_16 : decode cX9_writeNumber 16 = .ok (.istore_n 3, 1) := by decide +kernel
theorem dX9_writeNumber_17 : decode cX9_writeNumber 17 = .ok (.iload_n 2, 1) := by decide +kernel
theorem dX9_writeNumber_18 : decode cX9_writeNumber 18 = .ok (.iload_n 3, 1) := by decide +kernel
theorem dX9_writeNumber_19 : decode cX9_writeNumber 19 = .ok (.idiv, 1) := by decide +kernel
theorem dX9_writeNumber_20 : decode cX9_writeNumber 20 = .ok (.bipush 10, 2) := by decide +kernel
theorem dX9_writeNumber_22 : decode cX9_writeNumber 22 = .ok (.if_icmp .lt 11, 3) := by decide +kernel
theorem dX9_writeNumber_25 : decode cX9_writeNumber 25 = .ok (.iload_n 3, 1) := by decide +kernel
theorem dX9_writeNumber_26 : decode cX9_writeNumber 26 = .ok (.bipush 10, 2) := by decide +kernel
theorem dX9_writeNumber_28 : decode cX9_writeNumber 28 = .ok (.imul, 1) := by decide +kernel
theorem dX9_writeNumber_29 : decode cX9_writeNumber 29 = .ok (.istore_n 3, 1) := by decide +kernel
theorem dX9_writeNumber_30 : decode cX9_writeNumber 30 = .ok (.goto (-13), 3) := by decide +kernel
theorem dX9_writeNumber_33 : decode cX9_writeNumber 33 = .ok (.iload_n 3, 1) := by decide +kernel
theorem dX9_writeNumber_34 : decode cX9_writeNumber 34 = .ok (.ifCond .le 24, 3) := by decide +kernel
theorem dX9_writeNumber_37 : decode cX9_writeNumber 37 = .ok (.aload_n 0, 1) := by decide +kernel
theorem dX9_writeNumber_38 : decode cX9_writeNumber 38 = .ok (.bipush 48, 2) := by decide +kernel
theorem dX9_writeNumber_40 : decode cX9_writeNumber 40 = .ok (.iload_n 2, 1) := by decide +kernel
theorem dX9_writeNumber_41 : decode cX9_writeNumber 41 = .ok (.iload_n 3, 1) := by decide +kernel
theorem dX9_writeNumber_42 : decode cX9_writeNumber 42 = .ok (.idiv, 1) := by decide +kernel
theorem dX9_writeNumber_43 : decode cX9_writeNumber 43 = .ok (.bipush 10, 2) := by decide +kernel
theorem dX9_writeNumber_45 : decode cX9_writeNumber 45 = .ok (.irem, 1) := by decide +kernel
theorem dX9_writeNumber_46 : decode cX9_writeNumber 46 = .ok (.iadd, 1) := by decide +kernel
theorem dX9_writeNumber_47 : decode cX9_writeNumber 47 = .ok (.invokevirtual 349, 3) := by decide +kernel
theorem dX9_writeNumber_50 : decode cX9_writeNumber 50 = .ok (.iload_n 3, 1) := by decide +kernel
theorem dX9_writeNumber_51 : decode cX9_writeNumber 51 = .ok (.bipush 10, 2) := by decide +kernel
theorem dX9_writeNumber_53 : decode cX9_writeNumber 53 = .ok (.idiv, 1) := by decide +kernel
theorem dX9_writeNumber_54 : decode cX9_writeNumber 54 = .ok (.istore_n 3, 1) := by decide +kernel
theorem dX9_writeNumber_55 : decode cX9_writeNumber 55 = .ok (.goto (-22), 3) := by decide +kernel
theorem dX9_writeNumber_58 : decode cX9_writeNumber 58 = .ok (.return_, 1) := by decide +kernel
def fX9_writeNumber_L33 (y1 : Int32) (k33 : Int32 → bM → Option bM) (y6 : Int32) (v7 : bM) : Option bM :=
  (if y6 ≤ 0 then (some v7) else (cz y6 <| bnw (fX9_write (48 + ((y1 / y6) - (y1 / y6) / 10 * 10)) v7) fun w11 => nm (y6 / 10) fun x12 => k33 x12 w11))
def fX9_writeNumber_L17 (y1 : Int32) (k17 : Int32 → bM → Option bM) (y3 : Int32) (v4 : bM) : Option bM :=
  cz y3 <| (if (y1 / y3) < 10 then (lp (fX9_writeNumber_L33 y1) (fun _ _ => none) lpN y3 v4) else (nm (y3 * 10) fun x14 => k17 x14 v4))
def fX9_writeNumber_J15  (y1 : Int32) (v2 : bM) : Option bM :=
  lp (fX9_writeNumber_L17 y1) (fun _ _ => none) lpN 1 v2
def fX9_writeNumber (p1 : Int32) (v : bM) : Option bM :=
  (if 0 ≤ p1 then (fX9_writeNumber_J15 p1 v) else (bnw (fX9_write 45 v) fun w17 => nm (-p1) fun x18 => fX9_writeNumber_J15 x18 w17))
set_option maxRecDepth 100000 in
set_option maxHeartbeats 4000000 in
theorem mX9_writeNumber {l : Launch} {p1 : Int32} {v : bM} {w0 : bM} (hf : fX9_writeNumber p1 v = some w0) : bMet l yX9_writeNumber cX9_writeNumber 4 none 1 0 0 LMo (fun E a => [.ref a, .int p1]) v w0 (fun _ => none) := by
  refine bk_start (by decide +kernel) wfMo (fun _ _ => Nat.le_of_ble_eq_true rfl) ?_
  intro p e s m args below meth c D E a ls H locs X hr hl hB
  have hx := X.1
  have hb := X.2.1
  have hown := X.2.2.2.1
  have hts := X.2.2.2.2.1
  have hl : lv_has ls 4 [(0, .ref a), (1, .int p1)] := hl
  have hf := (fX9_writeNumber.eq_1 p1 v).symm.trans hf
  refine lv_iload_n hx hb dX9_writeNumber_0 rfl (lv_at hl 1 rfl) ?_
  refine lv_istore_n (lv' := [(2, .int p1), (0, .ref a), (1, .int p1)]) hx hb dX9_writeNumber_1 rfl hl (by decide) rfl (fun ls hl => ?_)
  refine lv_iload_n hx hb dX9_writeNumber_2 rfl (lv_at hl 2 rfl) ?_
  have hJ15 : ∀ (y1 : Int32) (v2 : bM) (H : Heap) (locs : List Loc) (ls : Array Slot), fX9_writeNumber_J15 y1 v2 = some w0 → bB D E LMo a v2 s H locs → lv_has ls 4 [(0, .ref a), (2, .int y1)] → W p l e (rmOf 1 0 0) s m args below meth c H locs 0 0 (bQ below D E LMo a w0 none args s 0 0) (F0 m 15 ls []) := by
    intro y1 v2 H locs ls hf hB hl
    have hf := (fX9_writeNumber_J15.eq_1  y1 v2).symm.trans hf
    refine lv_iconst (v := 1) hx hb dX9_writeNumber_15 (by decide) ?_
    refine lv_istore_n (lv' := [(3, .int 1), (0, .ref a), (2, .int y1)]) hx hb dX9_writeNumber_16 rfl hl (by decide) rfl (fun ls hl => ?_)
    have hL17 : ∀ (n17 : Nat) (y3 : Int32) (v4 : bM) (H : Heap) (locs : List Loc) (ls : Array Slot), lp (fX9_writeNumber_L17 y1) (fun _ _ => none) n17 y3 v4 = some w0 → bB D E LMo a v4 s H locs → lv_has ls 4 [(0, .ref a), (2, .int y1), (3, .int y3)] → W p l e (rmOf 1 0 0) s m args below meth c H locs 0 0 (bQ below D E LMo a w0 none args s 0 0) (F0 m 17 ls []) := by
      intro n17
      induction n17 with
      | zero => intro y3 v4 H locs ls hf; cases (show (none : Option bM) = some w0 from hf)
      | succ n17 ih17 =>
        intro y3 v4 H locs ls hf hB hl
        have hf := (fX9_writeNumber_L17.eq_1 y1 (lp (fX9_writeNumber_L17 y1) (fun _ _ => none) n17) y3 v4).symm.trans (show fX9_writeNumber_L17 y1 (lp (fX9_writeNumber_L17 y1) (fun _ _ => none) n17) y3 v4 = some w0 from hf)
        refine lv_iload_n hx hb dX9_writeNumber_17 rfl (lv_at hl 1 rfl) ?_
        refine lv_iload_n hx hb dX9_writeNumber_18 rfl (lv_at hl 2 rfl) ?_
        obtain ⟨h5, hf⟩ := cz_some hf
        refine lv_idiv hx hb dX9_writeNumber_19 h5 ?_
        refine lv_bipush (v := 10) hx hb dX9_writeNumber_20 (by decide) ?_
        have hL33 : ∀ (n33 : Nat) (y6 : Int32) (v7 : bM) (H : Heap) (locs : List Loc) (ls : Array Slot), lp (fX9_writeNumber_L33 y1) (fun _ _ => none) n33 y6 v7 = some w0 → bB D E LMo a v7 s H locs → lv_has ls 4 [(0, .ref a), (2, .int y1), (3, .int y6)] → W p l e (rmOf 1 0 0) s m args below meth c H locs 0 0 (bQ below D E LMo a w0 none args s 0 0) (F0 m 33 ls []) := by
          intro n33
          induction n33 with
          | zero => intro y6 v7 H locs ls hf; cases (show (none : Option bM) = some w0 from hf)
          | succ n33 ih33 =>
            intro y6 v7 H locs ls hf hB hl
            have hf := (fX9_writeNumber_L33.eq_1 y1 (lp (fX9_writeNumber_L33 y1) (fun _ _ => none) n33) y6 v7).symm.trans (show fX9_writeNumber_L33 y1 (lp (fX9_writeNumber_L33 y1) (fun _ _ => none) n33) y6 v7 = some w0 from hf)
            refine lv_iload_n hx hb dX9_writeNumber_33 rfl (lv_at hl 2 rfl) ?_
            refine lv_if_le (tgt := 58) hx hb dX9_writeNumber_34 (by decide) (fun c8 => ?_) (fun c8 => ?_)
            · have hf := (if_pos c8).symm.trans hf
              exact bk_vW X hr rfl hf hB (Nat.le_of_ble_eq_true rfl) (Nat.le_of_ble_eq_true rfl) dX9_writeNumber_58
            · have hf := (if_neg c8).symm.trans hf
              refine lv_aload_n hx hb dX9_writeNumber_37 rfl (lv_at hl 0 rfl) ?_
              refine lv_bipush (v := 48) hx hb dX9_writeNumber_38 (by decide) ?_
              refine lv_iload_n hx hb dX9_writeNumber_40 rfl (lv_at hl 1 rfl) ?_
              refine lv_iload_n hx hb dX9_writeNumber_41 rfl (lv_at hl 2 rfl) ?_
              obtain ⟨h9, hf⟩ := cz_some hf
              refine lv_idiv hx hb dX9_writeNumber_42 h9 ?_
              refine lv_bipush (v := 10) hx hb dX9_writeNumber_43 (by decide) ?_
              refine lv_irem hx hb dX9_writeNumber_45 (by decide) ?_
              refine lv_iadd hx hb dX9_writeNumber_46 ?_
              obtain ⟨w11, hc10, hf⟩ := bnw_some hf
              refine bk_all hB (fun h1 h2 h3 => bk_runV X (Av := [.int (48 + ((y1 / y6) - (y1 / y6) / 10 * 10))]) (rest := []) (mX9_write hc10) yv_X9_write wm_2249 ⟨Nat.le_of_ble_eq_true rfl, Nat.le_of_ble_eq_true rfl⟩ rfl rfl hl.1 kl_X9.1 (hB.1.obj lc_Mo_0) h1 h2 h3 (Nat.le_of_ble_eq_true rfl) ⟨Nat.le_of_ble_eq_true rfl, Nat.le_of_ble_eq_true rfl⟩ dX9_writeNumber_47) (fun H locs hB => ?_)
              refine W.eq (g2 := F0 m 50 ls []) rfl ?_
              refine lv_iload_n hx hb dX9_writeNumber_50 rfl (lv_at hl 2 rfl) ?_
              refine lv_bipush (v := 10) hx hb dX9_writeNumber_51 (by decide) ?_
              refine lv_idiv hx hb dX9_writeNumber_53 (by decide) ?_
              refine lv_topi (fun x12 ex12 => ?_)
              have hf := nm_use hf ex12
              refine lv_istore_n (lv' := [(3, .int x12), (0, .ref a), (2, .int y1)]) hx hb dX9_writeNumber_54 rfl hl (by decide) rfl (fun ls hl => ?_)
              refine lv_goto (tgt := 33) hx hb dX9_writeNumber_55 (by decide) ?_
              exact ih33 x12 w11 H locs ls hf hB (lv_sub hl [1, 2, 0] rfl)
        refine lv_icmp_lt (tgt := 33) hx hb dX9_writeNumber_22 (by decide) (fun c13 => ?_) (fun c13 => ?_)
        · have hf := (if_pos c13).symm.trans hf
          exact hL33 lpN y3 v4 H locs ls hf hB (lv_sub hl [0, 1, 2] rfl)
        · have hf := (if_neg c13).symm.trans hf
          refine lv_iload_n hx hb dX9_writeNumber_25 rfl (lv_at hl 2 rfl) ?_
          refine lv_bipush (v := 10) hx hb dX9_writeNumber_26 (by decide) ?_
          refine lv_imul hx hb dX9_writeNumber_28 ?_
          refine lv_topi (fun x14 ex14 => ?_)
          have hf := nm_use hf ex14
          refine lv_istore_n (lv' := [(3, .int x14), (0, .ref a), (2, .int y1)]) hx hb dX9_writeNumber_29 rfl hl (by decide) rfl (fun ls hl => ?_)
          refine lv_goto (tgt := 17) hx hb dX9_writeNumber_30 (by decide) ?_
          exact ih17 x14 v4 H locs ls hf hB (lv_sub hl [1, 2, 0] rfl)
    exact hL17 lpN 1 v2 H locs ls hf hB (lv_sub hl [1, 2, 0] rfl)
  refine lv_if_ge (tgt := 15) hx hb dX9_writeNumber_3 (by decide) (fun c15 => ?_) (fun c15 => ?_)
  · have hf := (if_pos c15).symm.trans hf
    exact hJ15 p1 v H locs ls hf hB (lv_sub hl [1, 0] rfl)
  · have hf := (if_neg c15).symm.trans hf
    refine lv_aload_n hx hb dX9_writeNumber_6 rfl (lv_at hl 1 rfl) ?_
    refine lv_bipush (v := 45) hx hb dX9_writeNumber_7 (by decide) ?_
    obtain ⟨w17, hc16, hf⟩ := bnw_some hf
    refine bk_all hB (fun h1 h2 h3 => bk_runV X (Av := [.int 45]) (rest := []) (mX9_write hc16) yv_X9_write wm_2249 ⟨Nat.le_of_ble_eq_true rfl, Nat.le_of_ble_eq_true rfl⟩ rfl rfl hl.1 kl_X9.1 (hB.1.obj lc_Mo_0) h1 h2 h3 (Nat.le_of_ble_eq_true rfl) ⟨Nat.le_of_ble_eq_true rfl, Nat.le_of_ble_eq_true rfl⟩ dX9_writeNumber_9) (fun H locs hB => ?_)
    refine W.eq (g2 := F0 m 12 ls []) rfl ?_
    refine lv_iload_n hx hb dX9_writeNumber_12 rfl (lv_at hl 2 rfl) ?_
    refine lv_ineg hx hb dX9_writeNumber_13 ?_
    refine lv_topi (fun x18 ex18 => ?_)
    have hf := nm_use hf ex18
    refine lv_istore_n (lv' := [(2, .int x18), (0, .ref a), (1, .int p1)]) hx hb dX9_writeNumber_14 rfl hl (by decide) rfl (fun ls hl => ?_)
    exact hJ15 x18 w17 H locs ls hf hB (lv_sub hl [1, 0] rfl)
theorem yv_X9_writeNumber : bYv yX9_writeNumber RX9 cX9_writeNumber 4 none 1 := ⟨⟨rfl, by decide, by decide, rfl⟩, wm_2258, wp_92, wm_17, wm_2259⟩

theorem dX9_signOf_0 : decode cX9_signOf 0 = .ok (.iload_n 0, 1) := by decide +kernel
theorem dX9_signOf_1 : decode cX9_signOf 1 = .ok (.ifCond .ne 8, 3) := by decide +kernel
theorem dX9_signOf_4 : decode cX9_signOf 4 = .ok (.bipush 112, 2) := by decide +kernel
theorem dX9_signOf_6 : decode cX9_signOf 6 = .ok (.goto 35, 3) := by decide +kernel
theorem dX9_signOf_9 : decode cX9_signOf 9 = .ok (.iload_n 0, 1) := by decide +kernel
theorem dX9_signOf_10 : decode cX9_signOf 10 = .ok (.iconst 1, 1) := by decide +kernel
theorem dX9_signOf_11 : decode cX9_signOf 11 = .ok (.if_icmp .ne 8, 3) := by decide +kernel
theorem dX9_signOf_14 : decode cX9_signOf 14 = .ok (.bipush 117, 2) := by decide +kernel
theorem dX9_signOf_16 : decode cX9_signOf 16 = .ok (.goto 25, 3) := by decide +kernel
theorem dX9_signOf_19 : decode cX9_signOf 19 = .ok (.iload_n 0, 1) := by decide +kernel
theorem dX9_signOf_20 : decode cX9_signOf 20 = .ok (.iconst 2, 1) := by decide +kernel
theorem dX9_signOf_21 : decode cX9_signOf 21 = .ok (.if_icmp .ne 8, 3) := by decide +kernel
theorem dX9_signOf_24 : decode cX9_signOf 24 = .ok (.bipush 114, 2) := by decide +kernel
theorem dX9_signOf_26 : decode cX9_signOf 26 = .ok (.goto 15, 3) := by decide +kernel
theorem dX9_signOf_29 : decode cX9_signOf 29 = .ok (.iload_n 0, 1) := by decide +kernel
theorem dX9_signOf_30 : decode cX9_signOf 30 = .ok (.iconst 3, 1) := by decide +kernel
theorem dX9_signOf_31 : decode cX9_signOf 31 = .ok (.if_icmp .ne 8, 3) := by decide +kernel
theorem dX9_signOf_34 : decode cX9_signOf 34 = .ok (.bipush 116, 2) := by decide +kernel
theorem dX9_signOf_36 : decode cX9_signOf 36 = .ok (.goto 5, 3) := by decide +kernel
theorem dX9_signOf_39 : decode cX9_signOf 39 = .ok (.bipush 98, 2) := by decide +kernel
theorem dX9_signOf_41 : decode cX9_signOf 41 = .ok (.ireturn, 1) := by decide +kernel
def fX9_signOf (p0 : Int32) : Option Int32 :=
  (if p0 = 0 then (some (112)) else ((if p0 = 1 then (some (117)) else ((if p0 = 2 then (some (114)) else ((if p0 = 3 then (some (116)) else (some (98)))))))))
set_option maxRecDepth 100000 in
set_option maxHeartbeats 4000000 in
theorem mX9_signOf {l : Launch} {p0 : Int32} {v : bM} {r0 : Int32} (hf : fX9_signOf p0 = some r0) : bMet l yX9_signOf cX9_signOf 1 (some .int) 0 0 0 [] (fun E a => [.int p0]) v v (fun _ => some (.int r0)) := by
  refine bk_start (by decide +kernel) bWf_nil (fun _ _ => Nat.le_of_ble_eq_true rfl) ?_
  intro p e s m args below meth c D E a ls H locs X hr hl hB
  have hx := X.1
  have hb := X.2.1
  have hown := X.2.2.2.1
  have hts := X.2.2.2.2.1
  have hl : lv_has ls 1 [(0, .int p0)] := hl
  have hf := (fX9_signOf.eq_1 p0).symm.trans hf
  refine lv_iload_n hx hb dX9_signOf_0 rfl (lv_at hl 0 rfl) ?_
  refine lv_if_ne (tgt := 9) hx hb dX9_signOf_1 (by decide) (fun c1 => ?_) (fun c1 => ?_)
  · have hf := (if_neg c1).symm.trans hf
    refine lv_iload_n hx hb dX9_signOf_9 rfl (lv_at hl 0 rfl) ?_
    refine lv_iconst (v := 1) hx hb dX9_signOf_10 (by decide) ?_
    refine lv_icmp_ne (tgt := 19) hx hb dX9_signOf_11 (by decide) (fun c2 => ?_) (fun c2 => ?_)
    · have hf := (if_neg c2).symm.trans hf
      refine lv_iload_n hx hb dX9_signOf_19 rfl (lv_at hl 0 rfl) ?_
      refine lv_iconst (v := 2) hx hb dX9_signOf_20 (by decide) ?_
      refine lv_icmp_ne (tgt := 29) hx hb dX9_signOf_21 (by decide) (fun c3 => ?_) (fun c3 => ?_)
      · have hf := (if_neg c3).symm.trans hf
        refine lv_iload_n hx hb dX9_signOf_29 rfl (lv_at hl 0 rfl) ?_
        refine lv_iconst (v := 3) hx hb dX9_signOf_30 (by decide) ?_
        refine lv_icmp_ne (tgt := 39) hx hb dX9_signOf_31 (by decide) (fun c4 => ?_) (fun c4 => ?_)
        · have hf := (if_neg c4).symm.trans hf
          refine lv_bipush (v := 98) hx hb dX9_signOf_39 (by decide) ?_
          exact bk_iR X hr rfl hf hB (Nat.le_of_ble_eq_true rfl) (Nat.le_of_ble_eq_true rfl) dX9_signOf_41
        · have hf := (if_pos c4).symm.trans hf
          refine lv_bipush (v := 116) hx hb dX9_signOf_34 (by decide) ?_
          refine lv_goto (tgt := 41) hx hb dX9_signOf_36 (by decide) ?_
          exact bk_iR X hr rfl hf hB (Nat.le_of_ble_eq_true rfl) (Nat.le_of_ble_eq_true rfl) dX9_signOf_41
      · have hf := (if_pos c3).symm.trans hf
        refine lv_bipush (v := 114) hx hb dX9_signOf_24 (by decide) ?_
        refine lv_goto (tgt := 41) hx hb dX9_signOf_26 (by decide) ?_
        exact bk_iR X hr rfl hf hB (Nat.le_of_ble_eq_true rfl) (Nat.le_of_ble_eq_true rfl) dX9_signOf_41
    · have hf := (if_pos c2).symm.trans hf
      refine lv_bipush (v := 117) hx hb dX9_signOf_14 (by decide) ?_
      refine lv_goto (tgt := 41) hx hb dX9_signOf_16 (by decide) ?_
      exact bk_iR X hr rfl hf hB (Nat.le_of_ble_eq_true rfl) (Nat.le_of_ble_eq_true rfl) dX9_signOf_41
  · have hf := (if_pos c1).symm.trans hf
    refine lv_bipush (v := 112) hx hb dX9_signOf_4 (by decide) ?_
    refine lv_goto (tgt := 41) hx hb dX9_signOf_6 (by decide) ?_
    exact bk_iR X hr rfl hf hB (Nat.le_of_ble_eq_true rfl) (Nat.le_of_ble_eq_true rfl) dX9_signOf_41
theorem ys_X9_signOf : bYs yX9_signOf RX9 cX9_signOf 1 (some .int) 1 := ⟨⟨rfl, by decide, by decide, rfl⟩, wm_2254, wm_17, wm_2255⟩

theorem dX9_writeBatch_0 : decode cX9_writeBatch 0 = .ok (.aload_n 0, 1) := by decide +kernel
theorem dX9_writeBatch_1 : decode cX9_writeBatch 1 = .ok (.iload_n 1, 1) := by decide +kernel
theorem dX9_writeBatch_2 : decode cX9_writeBatch 2 = .ok (.invokevirtual 310, 3) := by decide +kernel
theorem dX9_writeBatch_5 : decode cX9_writeBatch 5 = .ok (.ifCond .ne 5, 3) := by decide +kernel
theorem dX9_writeBatch_8 : decode cX9_writeBatch 8 = .ok (.iconst 0, 1) := by decide +kernel
theorem dX9_writeBatch_9 : decode cX9_writeBatch 9 = .ok (.ireturn, 1) := by decide +kernel
theorem dX9_writeBatch_10 : decode cX9_writeBatch 10 = .ok (.aload_n 0, 1) := by decide +kernel
theorem dX9_writeBatch_11 : decode cX9_writeBatch 11 = .ok (.iconst 0, 1) := by decide +kernel
theorem dX9_writeBatch_12 : decode cX9_writeBatch 12 = .ok (.putfield 346, 3) := by decide +kernel
theorem dX9_writeBatch_15 : decode cX9_writeBatch 15 = .ok (.iconst 0, 1) := by decide +kernel
theorem dX9_writeBatch_16 : decode cX9_writeBatch 16 = .ok (.istore_n 2, 1) := by decide +kernel
theorem dX9_writeBatch_17 : decode cX9_writeBatch 17 = .ok (.iload_n 2, 1) := by decide +kernel
theorem dX9_writeBatch_18 : decode cX9_writeBatch 18 = .ok (.iconst 5, 1) := by decide +kernel
theorem dX9_writeBatch_19 : decode cX9_writeBatch 19 = .ok (.if_icmp .ge 49, 3) := by decide +kernel
theorem dX9_writeBatch_22 : decode cX9_writeBatch 22 = .ok (.aload_n 0, 1) := by decide +kernel
theorem dX9_writeBatch_23 : decode cX9_writeBatch 23 = .ok (.iload_n 1, 1) := by decide +kernel
theorem dX9_writeBatch_24 : decode cX9_writeBatch 24 = .ok (.bipush 6, 2) := by decide +kernel
theorem dX9_writeBatch_26 : decode cX9_writeBatch 26 = .ok (.iload_n 2, 1) := by decide +kernel
theorem dX9_writeBatch_27 : decode cX9_writeBatch 27 = .ok (.iadd, 1) := by decide +kernel
theorem dX9_writeBatch_28 : decode cX9_writeBatch 28 = .ok (.invokevirtual 101, 3) := by decide +kernel
theorem dX9_writeBatch_31 : decode cX9_writeBatch 31 = .ok (.istore_n 3, 1) := by decide +kernel
theorem dX9_writeBatch_32 : decode cX9_writeBatch 32 = .ok (.iload_n 3, 1) := by decide +kernel
theorem dX9_writeBatch_33 : decode cX9_writeBatch 33 = .ok (.ifCond .eq 29, 3) := by decide +kernel
theorem dX9_writeBatch_36 : decode cX9_writeBatch 36 = .ok (.aload_n 0, 1) := by decide +kernel
theorem dX9_writeBatch_37 : decode cX9_writeBatch 37 = .ok (.getfield 346, 3) := by decide +kernel
theorem dX9_writeBatch_40 : decode cX9_writeBatch 40 = .ok (.ifCond .le 9, 3) := by decide +kernel
theorem dX9_writeBatch_43 : decode cX9_writeBatch 43 = .ok (.aload_n 0, 1) := by decide +kernel
theorem dX9_writeBatch_44 : decode cX9_writeBatch 44 = .ok (.bipush 32, 2) := by decide +kernel
theorem dX9_writeBatch_46 : decode cX9_writeBatch 46 = .ok (.invokevirtual 349, 3) := by decide +kernel
theorem dX9_writeBatch_49 : decode cX9_writeBatch 49 = .ok (.aload_n 0, 1) := by decide +kernel
theorem dX9_writeBatch_50 : decode cX9_writeBatch 50 = .ok (.iload_n 2, 1) := by decide +kernel
theorem dX9_writeBatch_51 : decode cX9_writeBatch 51 = .ok (.invokestatic 353, 3) := by decide +kernel
theorem dX9_writeBatch_54 : decode cX9_writeBatch 54 = .ok (.invokevirtual 349, 3) := by decide +kernel
theorem dX9_writeBatch_57 : decode cX9_writeBatch 57 = .ok (.aload_n 0, 1) := by decide +kernel
theorem dX9_writeBatch_58 : decode cX9_writeBatch 58 = .ok (.iload_n 3, 1) := by decide +kernel
theorem dX9_writeBatch_59 : decode cX9_writeBatch 59 = .ok (.invokevirtual 356, 3) := by decide +kernel
theorem dX9_writeBatch_62 : decode cX9_writeBatch 62 = .ok (.iinc 2 1, 3) := by decide +kernel
theorem dX9_writeBatch_65 : decode cX9_writeBatch 65 = .ok (.goto (-48), 3) := by decide +kernel
theorem dX9_writeBatch_68 : decode cX9_writeBatch 68 = .ok (.aload_n 0, 1) := by decide +kernel
theorem dX9_writeBatch_69 : decode cX9_writeBatch 69 = .ok (.getfield 346, 3) := by decide +kernel
theorem dX9_writeBatch_72 : decode cX9_writeBatch 72 = .ok (.ireturn, 1) := by decide +kernel
def fX9_writeBatch_J62 (y6 : Int32) (k17 : Int32 → bM → Option (Int32 × bM))  (v11 : bM) : Option (Int32 × bM) :=
  nm (y6 + 1) fun x12 => k17 x12 v11
def fX9_writeBatch_J49 (y6 : Int32) (k17 : Int32 → bM → Option (Int32 × bM)) (r10 : Int32)  (v14 : bM) : Option (Int32 × bM) :=
  bnr (fX9_signOf y6) fun r16 => bnw (fX9_write r16 v14) fun w18 => bnw (fX9_writeNumber r10 w18) fun w20 => fX9_writeBatch_J62 y6 k17 w20
def fX9_writeBatch_L17 (p1 : Int32) (k17 : Int32 → bM → Option (Int32 × bM)) (y6 : Int32) (v7 : bM) : Option (Int32 × bM) :=
  (if 5 ≤ y6 then (some (v7 9, v7)) else (bnr (fX9_batch p1 (6 + y6) v7) fun r10 => (if r10 = 0 then (fX9_writeBatch_J62 y6 k17 v7) else ((if (v7 9) ≤ 0 then (fX9_writeBatch_J49 y6 k17 r10 v7) else (bnw (fX9_write 32 v7) fun w23 => fX9_writeBatch_J49 y6 k17 r10 w23))))))
def fX9_writeBatch (p1 : Int32) (v : bM) : Option (Int32 × bM) :=
  bnd (fX9_isBatch p1 v) fun r3 w2 => (if r3 = 0 then (some (0, w2)) else (nm (upd w2 9 0) fun v5 => lp (fX9_writeBatch_L17 p1) (fun _ _ => none) lpN 0 v5))
set_option maxRecDepth 100000 in
set_option maxHeartbeats 4000000 in
theorem mX9_writeBatch {l : Launch} {p1 : Int32} {v : bM} {r0 : Int32} {w0 : bM} (hf : fX9_writeBatch p1 v = some (r0, w0)) : bMet l yX9_writeBatch cX9_writeBatch 4 (some .int) 2 0 0 LMo (fun E a => [.ref a, .int p1]) v w0 (fun _ => some (.int r0)) := by
  refine bk_start (by decide +kernel) wfMo (fun _ _ => Nat.le_of_ble_eq_true rfl) ?_
  intro p e s m args below meth c D E a ls H locs X hr hl hB
  have hx := X.1
  have hb := X.2.1
  have hown := X.2.2.2.1
  have hts := X.2.2.2.2.1
  have hl : lv_has ls 4 [(0, .ref a), (1, .int p1)] := hl
  have hf := (fX9_writeBatch.eq_1 p1 v).symm.trans hf
  refine lv_aload_n hx hb dX9_writeBatch_0 rfl (lv_at hl 0 rfl) ?_
  refine lv_iload_n hx hb dX9_writeBatch_1 rfl (lv_at hl 1 rfl) ?_
  obtain ⟨r3, w2, hc1, hf⟩ := bnd_some hf
  refine bk_all hB (fun h1 h2 h3 => bk_runV X (Av := [.int p1]) (rest := []) (mX9_isBatch hc1) yv_X9_isBatch wm_2057 ⟨Nat.le_of_ble_eq_true rfl, Nat.le_of_ble_eq_true rfl⟩ rfl rfl hl.1 kl_X9.1 (hB.1.obj lc_Mo_0) h1 h2 h3 (Nat.le_of_ble_eq_true rfl) ⟨Nat.le_of_ble_eq_true rfl, Nat.le_of_ble_eq_true rfl⟩ dX9_writeBatch_2) (fun H locs hB => ?_)
  refine W.eq (g2 := F0 m 5 ls [.int r3]) rfl ?_
  refine lv_if_ne (tgt := 10) hx hb dX9_writeBatch_5 (by decide) (fun c4 => ?_) (fun c4 => ?_)
  · have hf := (if_neg c4).symm.trans hf
    refine lv_aload_n hx hb dX9_writeBatch_10 rfl (lv_at hl 0 rfl) ?_
    refine lv_iconst (v := 0) hx hb dX9_writeBatch_11 (by decide) ?_
    refine bk_putI X hB kl_X9 0 lc_Mo_0 18 (by decide) rfl rfl rfl wm_1881 dX9_writeBatch_12 rfl (fun H locs hB => ?_)
    obtain ⟨v5, ev5⟩ : ∃ y : bM, y = upd w2 9 0 := ⟨_, rfl⟩
    have hf := nm_use hf ev5
    rw [← ev5] at hB
    refine lv_iconst (v := 0) hx hb dX9_writeBatch_15 (by decide) ?_
    refine lv_istore_n (lv' := [(2, .int 0), (0, .ref a), (1, .int p1)]) hx hb dX9_writeBatch_16 rfl hl (by decide) rfl (fun ls hl => ?_)
    have hL17 : ∀ (n17 : Nat) (y6 : Int32) (v7 : bM) (H : Heap) (locs : List Loc) (ls : Array Slot), lp (fX9_writeBatch_L17 p1) (fun _ _ => none) n17 y6 v7 = some (r0, w0) → bB D E LMo a v7 s H locs → lv_has ls 4 [(0, .ref a), (1, .int p1), (2, .int y6)] → W p l e (rmOf 2 0 0) s m args below meth c H locs 0 0 (bQ below D E LMo a w0 (some (.int r0)) args s 0 0) (F0 m 17 ls []) := by
      intro n17
      induction n17 with
      | zero => intro y6 v7 H locs ls hf; cases (show (none : Option (Int32 × bM)) = some (r0, w0) from hf)
      | succ n17 ih17 =>
        intro y6 v7 H locs ls hf hB hl
        have hf := (fX9_writeBatch_L17.eq_1 p1 (lp (fX9_writeBatch_L17 p1) (fun _ _ => none) n17) y6 v7).symm.trans (show fX9_writeBatch_L17 p1 (lp (fX9_writeBatch_L17 p1) (fun _ _ => none) n17) y6 v7 = some (r0, w0) from hf)
        refine lv_iload_n hx hb dX9_writeBatch_17 rfl (lv_at hl 2 rfl) ?_
        refine lv_iconst (v := 5) hx hb dX9_writeBatch_18 (by decide) ?_
        refine lv_icmp_ge (tgt := 68) hx hb dX9_writeBatch_19 (by decide) (fun c8 => ?_) (fun c8 => ?_)
        · have hf := (if_pos c8).symm.trans hf
          refine lv_aload_n hx hb dX9_writeBatch_68 rfl (lv_at hl 0 rfl) ?_
          refine bk_getI X hB kl_X9 0 lc_Mo_0 18 (by decide) rfl wm_1881 dX9_writeBatch_69 ?_
          exact bk_iW X hr rfl hf hB (Nat.le_of_ble_eq_true rfl) (Nat.le_of_ble_eq_true rfl) dX9_writeBatch_72
        · have hf := (if_neg c8).symm.trans hf
          refine lv_aload_n hx hb dX9_writeBatch_22 rfl (lv_at hl 0 rfl) ?_
          refine lv_iload_n hx hb dX9_writeBatch_23 rfl (lv_at hl 1 rfl) ?_
          refine lv_bipush (v := 6) hx hb dX9_writeBatch_24 (by decide) ?_
          refine lv_iload_n hx hb dX9_writeBatch_26 rfl (lv_at hl 2 rfl) ?_
          refine lv_iadd hx hb dX9_writeBatch_27 ?_
          obtain ⟨r10, hc9, hf⟩ := bnr_some hf
          refine bk_all hB (fun h1 h2 h3 => bk_runV X (Av := [.int p1, .int (6 + y6)]) (rest := []) (mX9_batch hc9) yv_X9_batch wm_1830 ⟨Nat.le_of_ble_eq_true rfl, Nat.le_of_ble_eq_true rfl⟩ rfl rfl hl.1 kl_X9.1 (hB.1.obj lc_Mo_0) h1 h2 h3 (Nat.le_of_ble_eq_true rfl) ⟨Nat.le_of_ble_eq_true rfl, Nat.le_of_ble_eq_true rfl⟩ dX9_writeBatch_28) (fun H locs hB => ?_)
          refine W.eq (g2 := F0 m 31 ls [.int r10]) rfl ?_
          refine lv_istore_n (lv' := [(3, .int r10), (0, .ref a), (1, .int p1), (2, .int y6)]) hx hb dX9_writeBatch_31 rfl hl (by decide) rfl (fun ls hl => ?_)
          refine lv_iload_n hx hb dX9_writeBatch_32 rfl (lv_at hl 0 rfl) ?_
          have hJ62 : ∀ (v11 : bM) (H : Heap) (locs : List Loc) (ls : Array Slot), fX9_writeBatch_J62 y6 (lp (fX9_writeBatch_L17 p1) (fun _ _ => none) n17) v11 = some (r0, w0) → bB D E LMo a v11 s H locs → lv_has ls 4 [(0, .ref a), (1, .int p1), (2, .int y6)] → W p l e (rmOf 2 0 0) s m args below meth c H locs 0 0 (bQ below D E LMo a w0 (some (.int r0)) args s 0 0) (F0 m 62 ls []) := by
            intro v11 H locs ls hf hB hl
            have hf := (fX9_writeBatch_J62.eq_1 y6 (lp (fX9_writeBatch_L17 p1) (fun _ _ => none) n17) v11).symm.trans hf
            obtain ⟨x12, ex12⟩ : ∃ y : Int32, y = y6 + 1 := ⟨_, rfl⟩
            have hf := nm_use hf ex12
            refine lv_iinc (v := x12) (lv' := [(2, .int x12), (0, .ref a), (1, .int p1)]) hx hb dX9_writeBatch_62 hl (k := 2) rfl (by rw [ex12]; rfl) (by decide) rfl (fun ls hl => ?_)
            refine lv_goto (tgt := 17) hx hb dX9_writeBatch_65 (by decide) ?_
            exact ih17 x12 v11 H locs ls hf hB (lv_sub hl [1, 2, 0] rfl)
          refine lv_if_eq (tgt := 62) hx hb dX9_writeBatch_33 (by decide) (fun c13 => ?_) (fun c13 => ?_)
          · have hf := (if_pos c13).symm.trans hf
            exact hJ62 v7 H locs ls hf hB (lv_sub hl [1, 2, 3] rfl)
          · have hf := (if_neg c13).symm.trans hf
            refine lv_aload_n hx hb dX9_writeBatch_36 rfl (lv_at hl 1 rfl) ?_
            refine bk_getI X hB kl_X9 0 lc_Mo_0 18 (by decide) rfl wm_1881 dX9_writeBatch_37 ?_
            have hJ49 : ∀ (v14 : bM) (H : Heap) (locs : List Loc) (ls : Array Slot), fX9_writeBatch_J49 y6 (lp (fX9_writeBatch_L17 p1) (fun _ _ => none) n17) r10 v14 = some (r0, w0) → bB D E LMo a v14 s H locs → lv_has ls 4 [(0, .ref a), (1, .int p1), (2, .int y6), (3, .int r10)] → W p l e (rmOf 2 0 0) s m args below meth c H locs 0 0 (bQ below D E LMo a w0 (some (.int r0)) args s 0 0) (F0 m 49 ls []) := by
              intro v14 H locs ls hf hB hl
              have hf := (fX9_writeBatch_J49.eq_1 y6 (lp (fX9_writeBatch_L17 p1) (fun _ _ => none) n17) r10 v14).symm.trans hf
              refine lv_aload_n hx hb dX9_writeBatch_49 rfl (lv_at hl 0 rfl) ?_
              refine lv_iload_n hx hb dX9_writeBatch_50 rfl (lv_at hl 2 rfl) ?_
              obtain ⟨r16, hc15, hf⟩ := bnr_some hf
              refine bk_non (v0 := v14) (w0 := v14) hB (fun h1 h2 h3 => bk_runS X (Av := [.int y6]) (rest := [.ref a]) (mX9_signOf hc15) ys_X9_signOf wm_2253 ⟨Nat.le_of_ble_eq_true rfl, Nat.le_of_ble_eq_true rfl⟩ rfl rfl hl.1 h1 h2 h3 (Nat.le_of_ble_eq_true rfl) ⟨Nat.le_of_ble_eq_true rfl, Nat.le_of_ble_eq_true rfl⟩ dX9_writeBatch_51) (fun H locs hB => ?_)
              refine W.eq (g2 := F0 m 54 ls [.int r16, .ref a]) rfl ?_
              obtain ⟨w18, hc17, hf⟩ := bnw_some hf
              refine bk_all hB (fun h1 h2 h3 => bk_runV X (Av := [.int r16]) (rest := []) (mX9_write hc17) yv_X9_write wm_2249 ⟨Nat.le_of_ble_eq_true rfl, Nat.le_of_ble_eq_true rfl⟩ rfl rfl hl.1 kl_X9.1 (hB.1.obj lc_Mo_0) h1 h2 h3 (Nat.le_of_ble_eq_true rfl) ⟨Nat.le_of_ble_eq_true rfl, Nat.le_of_ble_eq_true rfl⟩ dX9_writeBatch_54) (fun H locs hB => ?_)
              refine W.eq (g2 := F0 m 57 ls []) rfl ?_
              refine lv_aload_n hx hb dX9_writeBatch_57 rfl (lv_at hl 0 rfl) ?_
              refine lv_iload_n hx hb dX9_writeBatch_58 rfl (lv_at hl 3 rfl) ?_
              obtain ⟨w20, hc19, hf⟩ := bnw_some hf
              refine bk_all hB (fun h1 h2 h3 => bk_runV X (Av := [.int r10]) (rest := []) (mX9_writeNumber hc19) yv_X9_writeNumber wm_2256 ⟨Nat.le_of_ble_eq_true rfl, Nat.le_of_ble_eq_true rfl⟩ rfl rfl hl.1 kl_X9.1 (hB.1.obj lc_Mo_0) h1 h2 h3 (Nat.le_of_ble_eq_true rfl) ⟨Nat.le_of_ble_eq_true rfl, Nat.le_of_ble_eq_true rfl⟩ dX9_writeBatch_59) (fun H locs hB => ?_)
              refine W.eq (g2 := F0 m 62 ls []) rfl ?_
              exact hJ62 w20 H locs ls hf hB (lv_sub hl [0, 1, 2] rfl)
            refine lv_if_le (tgt := 49) hx hb dX9_writeBatch_40 (by decide) (fun c21 => ?_) (fun c21 => ?_)
            · have hf := (if_pos c21).symm.trans hf
              exact hJ49 v7 H locs ls hf hB (lv_sub hl [1, 2, 3, 0] rfl)
            · have hf := (if_neg c21).symm.trans hf
              refine lv_aload_n hx hb dX9_writeBatch_43 rfl (lv_at hl 1 rfl) ?_
              refine lv_bipush (v := 32) hx hb dX9_writeBatch_44 (by decide) ?_
              obtain ⟨w23, hc22, hf⟩ := bnw_some hf
              refine bk_all hB (fun h1 h2 h3 => bk_runV X (Av := [.int 32]) (rest := []) (mX9_write hc22) yv_X9_write wm_2249 ⟨Nat.le_of_ble_eq_true rfl, Nat.le_of_ble_eq_true rfl⟩ rfl rfl hl.1 kl_X9.1 (hB.1.obj lc_Mo_0) h1 h2 h3 (Nat.le_of_ble_eq_true rfl) ⟨Nat.le_of_ble_eq_true rfl, Nat.le_of_ble_eq_true rfl⟩ dX9_writeBatch_46) (fun H locs hB => ?_)
              refine W.eq (g2 := F0 m 49 ls []) rfl ?_
              exact hJ49 w23 H locs ls hf hB (lv_sub hl [1, 2, 3, 0] rfl)
    exact hL17 lpN 0 v5 H locs ls hf hB (lv_sub hl [1, 2, 0] rfl)
  · have hf := (if_pos c4).symm.trans hf
    refine lv_iconst (v := 0) hx hb dX9_writeBatch_8 (by decide) ?_
    exact bk_iW X hr rfl hf hB (Nat.le_of_ble_eq_true rfl) (Nat.le_of_ble_eq_true rfl) dX9_writeBatch_9
theorem yv_X9_writeBatch : bYv yX9_writeBatch RX9 cX9_writeBatch 4 (some .int) 1 := ⟨⟨rfl, by decide, by decide, rfl⟩, wm_2246, wm_2247, wm_17, wm_2248⟩

theorem dX9_outputByte_0 : decode cX9_outputByte 0 = .ok (.aload_n 0, 1) := by decide +kernel
theorem dX9_outputByte_1 : decode cX9_outputByte 1 = .ok (.iconst 0, 1) := by decide +kernel
theorem dX9_outputByte_2 : decode cX9_outputByte 2 = .ok (.putfield 60, 3) := by decide +kernel
theorem dX9_outputByte_5 : decode cX9_outputByte 5 = .ok (.iload_n 1, 1) := by decide +kernel
theorem dX9_outputByte_6 : decode cX9_outputByte 6 = .ok (.iconst 0, 1) := by decide +kernel
theorem dX9_outputByte_7 : decode cX9_outputByte 7 = .ok (.aload_n 0, 1) := by decide +kernel
theorem dX9_outputByte_8 : decode cX9_outputByte 8 = .ok (.getfield 346, 3) := by decide +kernel
theorem dX9_outputByte_11 : decode cX9_outputByte 11 = .ok (.iconst 1, 1) := by decide +kernel
theorem dX9_outputByte_12 : decode cX9_outputByte 12 = .ok (.isub, 1) := by decide +kernel
theorem dX9_outputByte_13 : decode cX9_outputByte 13 = .ok (.invokestatic 135, 3) := by decide +kernel
theorem dX9_outputByte_16 : decode cX9_outputByte 16 = .ok (.ifCond .eq 12, 3) := by decide +kernel
theorem dX9_outputByte_19 : decode cX9_outputByte 19 = .ok (.aload_n 0, 1) := by decide +kernel
theorem dX9_outputByte_20 : decode cX9_outputByte 20 = .ok (.getfield 39, 3) := by decide +kernel
theorem dX9_outputByte_23 : decode cX9_outputByte 23 = .ok (.iload_n 1, 1) := by decide +kernel
theorem dX9_outputByte_24 : decode cX9_outputByte 24 = .ok (.iaload, 1) := by decide +kernel
theorem dX9_outputByte_25 : decode cX9_outputByte 25 = .ok (.goto 4, 3) := by decide +kernel
theorem dX9_outputByte_28 : decode cX9_outputByte 28 = .ok (.iconst (-1), 1) := by decide +kernel
theorem dX9_outputByte_29 : decode cX9_outputByte 29 = .ok (.ireturn, 1) := by decide +kernel
def fX9_outputByte (p1 : Int32) (v : bM) : Option (Int32 × bM) :=
  nm (upd v 3 0) fun v1 => bnr (fX9_inRange p1 0 ((v1 9) - 1)) fun r3 => (if r3 = 0 then (some ((-1), v1)) else (ck p1 80 <| some (v1 (7165 + p1.toNatClampNeg), v1)))
set_option maxRecDepth 100000 in
set_option maxHeartbeats 4000000 in
theorem mX9_outputByte {l : Launch} {p1 : Int32} {v : bM} {r0 : Int32} {w0 : bM} (hf : fX9_outputByte p1 v = some (r0, w0)) : bMet l yX9_outputByte cX9_outputByte 2 (some .int) 1 0 0 LMo (fun E a => [.ref a, .int p1]) v w0 (fun _ => some (.int r0)) := by
  refine bk_start (by decide +kernel) wfMo (fun _ _ => Nat.le_of_ble_eq_true rfl) ?_
  intro p e s m args below meth c D E a ls H locs X hr hl hB
  have hx := X.1
  have hb := X.2.1
  have hown := X.2.2.2.1
  have hts := X.2.2.2.2.1
  have hl : lv_has ls 2 [(0, .ref a), (1, .int p1)] := hl
  have hf := (fX9_outputByte.eq_1 p1 v).symm.trans hf
  refine lv_aload_n hx hb dX9_outputByte_0 rfl (lv_at hl 0 rfl) ?_
  refine lv_iconst (v := 0) hx hb dX9_outputByte_1 (by decide) ?_
  refine bk_putI X hB kl_X9 0 lc_Mo_0 4 (by decide) rfl rfl rfl wm_1867 dX9_outputByte_2 rfl (fun H locs hB => ?_)
  obtain ⟨v1, ev1⟩ : ∃ y : bM, y = upd v 3 0 := ⟨_, rfl⟩
  have hf := nm_use hf ev1
  rw [← ev1] at hB
  refine lv_iload_n hx hb dX9_outputByte_5 rfl (lv_at hl 1 rfl) ?_
  refine lv_iconst (v := 0) hx hb dX9_outputByte_6 (by decide) ?_
  refine lv_aload_n hx hb dX9_outputByte_7 rfl (lv_at hl 0 rfl) ?_
  refine bk_getI X hB kl_X9 0 lc_Mo_0 18 (by decide) rfl wm_1881 dX9_outputByte_8 ?_
  refine lv_iconst (v := 1) hx hb dX9_outputByte_11 (by decide) ?_
  refine lv_isub hx hb dX9_outputByte_12 ?_
  obtain ⟨r3, hc2, hf⟩ := bnr_some hf
  refine bk_non (v0 := v1) (w0 := v1) hB (fun h1 h2 h3 => bk_runS X (Av := [.int p1, .int 0, .int ((v1 9) - 1)]) (rest := []) (mX9_inRange hc2) ys_X9_inRange wm_1653 ⟨Nat.le_of_ble_eq_true rfl, Nat.le_of_ble_eq_true rfl⟩ rfl rfl hl.1 h1 h2 h3 (Nat.le_of_ble_eq_true rfl) ⟨Nat.le_of_ble_eq_true rfl, Nat.le_of_ble_eq_true rfl⟩ dX9_outputByte_13) (fun H locs hB => ?_)
  refine W.eq (g2 := F0 m 16 ls [.int r3]) rfl ?_
  refine lv_if_eq (tgt := 28) hx hb dX9_outputByte_16 (by decide) (fun c4 => ?_) (fun c4 => ?_)
  · have hf := (if_pos c4).symm.trans hf
    refine lv_iconst (v := (-1)) hx hb dX9_outputByte_28 (by decide) ?_
    exact bk_iW X hr rfl hf hB (Nat.le_of_ble_eq_true rfl) (Nat.le_of_ble_eq_true rfl) dX9_outputByte_29
  · have hf := (if_neg c4).symm.trans hf
    refine lv_aload_n hx hb dX9_outputByte_19 rfl (lv_at hl 0 rfl) ?_
    refine bk_getR X hB kl_X9 0 lc_Mo_0 13 (by decide) rfl wm_1876 dX9_outputByte_20 ?_
    refine lv_iload_n hx hb dX9_outputByte_23 rfl (lv_at hl 1 rfl) ?_
    obtain ⟨h5, hf⟩ := ck_some hf
    refine bk_ald X hB 9 lc_Mo_9 h5 dX9_outputByte_24 ?_
    refine lv_goto (tgt := 29) hx hb dX9_outputByte_25 (by decide) ?_
    exact bk_iW X hr rfl hf hB (Nat.le_of_ble_eq_true rfl) (Nat.le_of_ble_eq_true rfl) dX9_outputByte_29
theorem yv_X9_outputByte : bYv yX9_outputByte RX9 cX9_outputByte 2 (some .int) 1 := ⟨⟨rfl, by decide, by decide, rfl⟩, wm_2261, wm_2262, wm_17, wm_2263⟩
