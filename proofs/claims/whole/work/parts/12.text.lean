theorem dX7_append_0 : decode cX7_append 0 = .ok (.aload_n 0, 1) := by decide +kernel
theorem dX7_append_1 : decode cX7_append 1 = .ok (.getfield 24, 3) := by decide +kernel
theorem dX7_append_4 : decode cX7_append 4 = .ok (.sipush 700, 3) := by decide +kernel
theorem dX7_append_7 : decode cX7_append 7 = .ok (.if_icmp .ge 23, 3) := by decide +kernel
theorem dX7_append_10 : decode cX7_append 10 = .ok (.aload_n 0, 1) := by decide +kernel
theorem dX7_append_11 : decode cX7_append 11 = .ok (.getfield 9, 3) := by decide +kernel
theorem dX7_append_14 : decode cX7_append 14 = .ok (.aload_n 0, 1) := by decide +kernel
theorem dX7_append_15 : decode cX7_append 15 = .ok (.getfield 24, 3) := by decide +kernel
theorem dX7_append_18 : decode cX7_append 18 = .ok (.iload_n 1, 1) := by decide +kernel
theorem dX7_append_19 : decode cX7_append 19 = .ok (.iastore, 1) := by decide +kernel
theorem dX7_append_20 : decode cX7_append 20 = .ok (.aload_n 0, 1) := by decide +kernel
theorem dX7_append_21 : decode cX7_append 21 = .ok (.dup, 1) := by decide +kernel
theorem dX7_append_22 : decode cX7_append 22 = .ok (.getfield 24, 3) := by decide +kernel
theorem dX7_append_25 : decode cX7_append 25 = .ok (.iconst 1, 1) := by decide +kernel
theorem dX7_append_26 : decode cX7_append 26 = .ok (.iadd, 1) := by decide +kernel
theorem dX7_append_27 : decode cX7_append 27 = .ok (.putfield 24, 3) := by decide +kernel
theorem dX7_append_30 : decode cX7_append 30 = .ok (.return_, 1) := by decide +kernel
def fX7_append (p1 : Int32) (v : bM) : Option bM :=
  (if 700 ≤ (v 0) then (some v) else (ck (v 0) 700 <| nm (upd v (3 + (v 0).toNatClampNeg) p1) fun v3 => nm ((v3 0) + 1) fun x4 => nm (upd v3 0 x4) fun v5 => some v5))
set_option maxRecDepth 100000 in
set_option maxHeartbeats 4000000 in
theorem mX7_append {l : Launch} {p1 : Int32} {v : bM} {w0 : bM} (hf : fX7_append p1 v = some w0) : bMet l yX7_append cX7_append 2 none 0 0 0 LTx (fun E a => [.ref a, .int p1]) v w0 (fun _ => none) := by
  refine bk_start (by decide +kernel) wfTx (fun _ _ => Nat.le_of_ble_eq_true rfl) ?_
  intro p e s m args below meth c D E a ls H locs X hr hl hB
  have hx := X.1
  have hb := X.2.1
  have hown := X.2.2.2.1
  have hts := X.2.2.2.2.1
  have hl : lv_has ls 2 [(0, .ref a), (1, .int p1)] := hl
  have hf := (fX7_append.eq_1 p1 v).symm.trans hf
  refine lv_aload_n hx hb dX7_append_0 rfl (lv_at hl 0 rfl) ?_
  refine bk_getI X hB kl_X7 0 lc_Tx_0 0 (by decide) rfl wm_295 dX7_append_1 ?_
  refine lv_sipush (v := 700) hx hb dX7_append_4 (by decide) ?_
  refine lv_icmp_ge (tgt := 30) hx hb dX7_append_7 (by decide) (fun c1 => ?_) (fun c1 => ?_)
  · have hf := (if_pos c1).symm.trans hf
    exact bk_vW X hr rfl hf hB (Nat.le_of_ble_eq_true rfl) (Nat.le_of_ble_eq_true rfl) dX7_append_30
  · have hf := (if_neg c1).symm.trans hf
    refine lv_aload_n hx hb dX7_append_10 rfl (lv_at hl 0 rfl) ?_
    refine bk_getR X hB kl_X7 0 lc_Tx_0 3 (by decide) rfl wm_299 dX7_append_11 ?_
    refine lv_aload_n hx hb dX7_append_14 rfl (lv_at hl 0 rfl) ?_
    refine bk_getI X hB kl_X7 0 lc_Tx_0 0 (by decide) rfl wm_295 dX7_append_15 ?_
    refine lv_iload_n hx hb dX7_append_18 rfl (lv_at hl 1 rfl) ?_
    obtain ⟨h2, hf⟩ := ck_some hf
    refine bk_ast X hB 1 lc_Tx_1 h2 dX7_append_19 (fun H locs hB => ?_)
    obtain ⟨v3, ev3⟩ : ∃ y : bM, y = upd v (3 + (v 0).toNatClampNeg) p1 := ⟨_, rfl⟩
    have hf := nm_use hf ev3
    rw [← ev3] at hB
    refine lv_aload_n hx hb dX7_append_20 rfl (lv_at hl 0 rfl) ?_
    refine lv_dup hx hb dX7_append_21 rfl ?_
    refine bk_getI X hB kl_X7 0 lc_Tx_0 0 (by decide) rfl wm_295 dX7_append_22 ?_
    refine lv_iconst (v := 1) hx hb dX7_append_25 (by decide) ?_
    refine lv_iadd hx hb dX7_append_26 ?_
    refine lv_topi (fun x4 ex4 => ?_)
    have hf := nm_use hf ex4
    refine bk_putI X hB kl_X7 0 lc_Tx_0 0 (by decide) rfl rfl rfl wm_295 dX7_append_27 rfl (fun H locs hB => ?_)
    obtain ⟨v5, ev5⟩ : ∃ y : bM, y = upd v3 0 x4 := ⟨_, rfl⟩
    have hf := nm_use hf ev5
    rw [← ev5] at hB
    exact bk_vW X hr rfl hf hB (Nat.le_of_ble_eq_true rfl) (Nat.le_of_ble_eq_true rfl) dX7_append_30
theorem yv_X7_append : bYv yX7_append RX7 cX7_append 2 none 1 := ⟨⟨rfl, by decide, by decide, rfl⟩, wm_433, wm_434, wm_9, wm_435⟩

theorem dX7_clear_0 : decode cX7_clear 0 = .ok (.aload_n 0, 1) := by decide +kernel
theorem dX7_clear_1 : decode cX7_clear 1 = .ok (.iconst 0, 1) := by decide +kernel
theorem dX7_clear_2 : decode cX7_clear 2 = .ok (.putfield 24, 3) := by decide +kernel
theorem dX7_clear_5 : decode cX7_clear 5 = .ok (.return_, 1) := by decide +kernel
def fX7_clear  (v : bM) : Option bM :=
  nm (upd v 0 0) fun v1 => some v1
set_option maxRecDepth 100000 in
set_option maxHeartbeats 4000000 in
theorem mX7_clear {l : Launch}  {v : bM} {w0 : bM} (hf : fX7_clear  v = some w0) : bMet l yX7_clear cX7_clear 1 none 0 0 0 LTx (fun E a => [.ref a]) v w0 (fun _ => none) := by
  refine bk_start (by decide +kernel) wfTx (fun _ _ => Nat.le_of_ble_eq_true rfl) ?_
  intro p e s m args below meth c D E a ls H locs X hr hl hB
  have hx := X.1
  have hb := X.2.1
  have hown := X.2.2.2.1
  have hts := X.2.2.2.2.1
  have hl : lv_has ls 1 [(0, .ref a)] := hl
  have hf := (fX7_clear.eq_1  v).symm.trans hf
  refine lv_aload_n hx hb dX7_clear_0 rfl (lv_at hl 0 rfl) ?_
  refine lv_iconst (v := 0) hx hb dX7_clear_1 (by decide) ?_
  refine bk_putI X hB kl_X7 0 lc_Tx_0 0 (by decide) rfl rfl rfl wm_295 dX7_clear_2 rfl (fun H locs hB => ?_)
  obtain ⟨v1, ev1⟩ : ∃ y : bM, y = upd v 0 0 := ⟨_, rfl⟩
  have hf := nm_use hf ev1
  rw [← ev1] at hB
  exact bk_vW X hr rfl hf hB (Nat.le_of_ble_eq_true rfl) (Nat.le_of_ble_eq_true rfl) dX7_clear_5
theorem yv_X7_clear : bYv yX7_clear RX7 cX7_clear 1 none 0 := ⟨⟨rfl, by decide, by decide, rfl⟩, wm_651, wm_652, wm_9, wm_653⟩

theorem dX7_kind_0 : decode cX7_kind 0 = .ok (.aload_n 0, 1) := by decide +kernel
theorem dX7_kind_1 : decode cX7_kind 1 = .ok (.getfield 15, 3) := by decide +kernel
theorem dX7_kind_4 : decode cX7_kind 4 = .ok (.aload_n 0, 1) := by decide +kernel
theorem dX7_kind_5 : decode cX7_kind 5 = .ok (.getfield 28, 3) := by decide +kernel
theorem dX7_kind_8 : decode cX7_kind 8 = .ok (.iaload, 1) := by decide +kernel
theorem dX7_kind_9 : decode cX7_kind 9 = .ok (.ireturn, 1) := by decide +kernel
def fX7_kind  (v : bM) : Option Int32 :=
  ck (v 2) 701 <| some (v (703 + (v 2).toNatClampNeg))
set_option maxRecDepth 100000 in
set_option maxHeartbeats 4000000 in
theorem mX7_kind {l : Launch}  {v : bM} {r0 : Int32} (hf : fX7_kind  v = some r0) : bMet l yX7_kind cX7_kind 1 (some .int) 0 0 0 LTx (fun E a => [.ref a]) v v (fun _ => some (.int r0)) := by
  refine bk_start (by decide +kernel) wfTx (fun _ _ => Nat.le_of_ble_eq_true rfl) ?_
  intro p e s m args below meth c D E a ls H locs X hr hl hB
  have hx := X.1
  have hb := X.2.1
  have hown := X.2.2.2.1
  have hts := X.2.2.2.2.1
  have hl : lv_has ls 1 [(0, .ref a)] := hl
  have hf := (fX7_kind.eq_1  v).symm.trans hf
  refine lv_aload_n hx hb dX7_kind_0 rfl (lv_at hl 0 rfl) ?_
  refine bk_getR X hB kl_X7 0 lc_Tx_0 4 (by decide) rfl wm_300 dX7_kind_1 ?_
  refine lv_aload_n hx hb dX7_kind_4 rfl (lv_at hl 0 rfl) ?_
  refine bk_getI X hB kl_X7 0 lc_Tx_0 2 (by decide) rfl wm_298 dX7_kind_5 ?_
  obtain ⟨h1, hf⟩ := ck_some hf
  refine bk_ald X hB 2 lc_Tx_2 h1 dX7_kind_8 ?_
  exact bk_iR X hr rfl hf hB (Nat.le_of_ble_eq_true rfl) (Nat.le_of_ble_eq_true rfl) dX7_kind_9
theorem yv_X7_kind : bYv yX7_kind RX7 cX7_kind 1 (some .int) 0 := ⟨⟨rfl, by decide, by decide, rfl⟩, wm_497, wm_498, wm_9, wm_499⟩

theorem dX7_number_0 : decode cX7_number 0 = .ok (.aload_n 0, 1) := by decide +kernel
theorem dX7_number_1 : decode cX7_number 1 = .ok (.getfield 21, 3) := by decide +kernel
theorem dX7_number_4 : decode cX7_number 4 = .ok (.aload_n 0, 1) := by decide +kernel
theorem dX7_number_5 : decode cX7_number 5 = .ok (.getfield 28, 3) := by decide +kernel
theorem dX7_number_8 : decode cX7_number 8 = .ok (.iaload, 1) := by decide +kernel
theorem dX7_number_9 : decode cX7_number 9 = .ok (.ireturn, 1) := by decide +kernel
def fX7_number  (v : bM) : Option Int32 :=
  ck (v 2) 701 <| some (v (2105 + (v 2).toNatClampNeg))
set_option maxRecDepth 100000 in
set_option maxHeartbeats 4000000 in
theorem mX7_number {l : Launch}  {v : bM} {r0 : Int32} (hf : fX7_number  v = some r0) : bMet l yX7_number cX7_number 1 (some .int) 0 0 0 LTx (fun E a => [.ref a]) v v (fun _ => some (.int r0)) := by
  refine bk_start (by decide +kernel) wfTx (fun _ _ => Nat.le_of_ble_eq_true rfl) ?_
  intro p e s m args below meth c D E a ls H locs X hr hl hB
  have hx := X.1
  have hb := X.2.1
  have hown := X.2.2.2.1
  have hts := X.2.2.2.2.1
  have hl : lv_has ls 1 [(0, .ref a)] := hl
  have hf := (fX7_number.eq_1  v).symm.trans hf
  refine lv_aload_n hx hb dX7_number_0 rfl (lv_at hl 0 rfl) ?_
  refine bk_getR X hB kl_X7 0 lc_Tx_0 6 (by decide) rfl wm_302 dX7_number_1 ?_
  refine lv_aload_n hx hb dX7_number_4 rfl (lv_at hl 0 rfl) ?_
  refine bk_getI X hB kl_X7 0 lc_Tx_0 2 (by decide) rfl wm_298 dX7_number_5 ?_
  obtain ⟨h1, hf⟩ := ck_some hf
  refine bk_ald X hB 4 lc_Tx_4 h1 dX7_number_8 ?_
  exact bk_iR X hr rfl hf hB (Nat.le_of_ble_eq_true rfl) (Nat.le_of_ble_eq_true rfl) dX7_number_9
theorem yv_X7_number : bYv yX7_number RX7 cX7_number 1 (some .int) 0 := ⟨⟨rfl, by decide, by decide, rfl⟩, wm_518, wm_519, wm_9, wm_520⟩

theorem dX7_start_0 : decode cX7_start 0 = .ok (.aload_n 0, 1) := by decide +kernel
theorem dX7_start_1 : decode cX7_start 1 = .ok (.getfield 18, 3) := by decide +kernel
theorem dX7_start_4 : decode cX7_start 4 = .ok (.aload_n 0, 1) := by decide +kernel
theorem dX7_start_5 : decode cX7_start 5 = .ok (.getfield 28, 3) := by decide +kernel
theorem dX7_start_8 : decode cX7_start 8 = .ok (.iaload, 1) := by decide +kernel
theorem dX7_start_9 : decode cX7_start 9 = .ok (.ireturn, 1) := by decide +kernel
def fX7_start  (v : bM) : Option Int32 :=
  ck (v 2) 701 <| some (v (1404 + (v 2).toNatClampNeg))
set_option maxRecDepth 100000 in
set_option maxHeartbeats 4000000 in
theorem mX7_start {l : Launch}  {v : bM} {r0 : Int32} (hf : fX7_start  v = some r0) : bMet l yX7_start cX7_start 1 (some .int) 0 0 0 LTx (fun E a => [.ref a]) v v (fun _ => some (.int r0)) := by
  refine bk_start (by decide +kernel) wfTx (fun _ _ => Nat.le_of_ble_eq_true rfl) ?_
  intro p e s m args below meth c D E a ls H locs X hr hl hB
  have hx := X.1
  have hb := X.2.1
  have hown := X.2.2.2.1
  have hts := X.2.2.2.2.1
  have hl : lv_has ls 1 [(0, .ref a)] := hl
  have hf := (fX7_start.eq_1  v).symm.trans hf
  refine lv_aload_n hx hb dX7_start_0 rfl (lv_at hl 0 rfl) ?_
  refine bk_getR X hB kl_X7 0 lc_Tx_0 5 (by decide) rfl wm_301 dX7_start_1 ?_
  refine lv_aload_n hx hb dX7_start_4 rfl (lv_at hl 0 rfl) ?_
  refine bk_getI X hB kl_X7 0 lc_Tx_0 2 (by decide) rfl wm_298 dX7_start_5 ?_
  obtain ⟨h1, hf⟩ := ck_some hf
  refine bk_ald X hB 3 lc_Tx_3 h1 dX7_start_8 ?_
  exact bk_iR X hr rfl hf hB (Nat.le_of_ble_eq_true rfl) (Nat.le_of_ble_eq_true rfl) dX7_start_9
theorem yv_X7_start : bYv yX7_start RX7 cX7_start 1 (some .int) 0 := ⟨⟨rfl, by decide, by decide, rfl⟩, wm_505, wm_506, wm_9, wm_507⟩

theorem dX7_advance_0 : decode cX7_advance 0 = .ok (.aload_n 0, 1) := by decide +kernel
theorem dX7_advance_1 : decode cX7_advance 1 = .ok (.getfield 28, 3) := by decide +kernel
theorem dX7_advance_4 : decode cX7_advance 4 = .ok (.aload_n 0, 1) := by decide +kernel
theorem dX7_advance_5 : decode cX7_advance 5 = .ok (.getfield 31, 3) := by decide +kernel
theorem dX7_advance_8 : decode cX7_advance 8 = .ok (.if_icmp .ge 13, 3) := by decide +kernel
theorem dX7_advance_11 : decode cX7_advance 11 = .ok (.aload_n 0, 1) := by decide +kernel
theorem dX7_advance_12 : decode cX7_advance 12 = .ok (.dup, 1) := by decide +kernel
theorem dX7_advance_13 : decode cX7_advance 13 = .ok (.getfield 28, 3) := by decide +kernel
theorem dX7_advance_16 : decode cX7_advance 16 = .ok (.iconst 1, 1) := by decide +kernel
theorem dX7_advance_17 : decode cX7_advance 17 = .ok (.iadd, 1) := by decide +kernel
theorem dX7_advance_18 : decode cX7_advance 18 = .ok (.putfield 28, 3) := by decide +kernel
theorem dX7_advance_21 : decode cX7_advance 21 = .ok (.return_, 1) := by decide +kernel
def fX7_advance  (v : bM) : Option bM :=
  (if (v 1) ≤ (v 2) then (some v) else (nm ((v 2) + 1) fun x2 => nm (upd v 2 x2) fun v3 => some v3))
set_option maxRecDepth 100000 in
set_option maxHeartbeats 4000000 in
theorem mX7_advance {l : Launch}  {v : bM} {w0 : bM} (hf : fX7_advance  v = some w0) : bMet l yX7_advance cX7_advance 1 none 0 0 0 LTx (fun E a => [.ref a]) v w0 (fun _ => none) := by
  refine bk_start (by decide +kernel) wfTx (fun _ _ => Nat.le_of_ble_eq_true rfl) ?_
  intro p e s m args below meth c D E a ls H locs X hr hl hB
  have hx := X.1
  have hb := X.2.1
  have hown := X.2.2.2.1
  have hts := X.2.2.2.2.1
  have hl : lv_has ls 1 [(0, .ref a)] := hl
  have hf := (fX7_advance.eq_1  v).symm.trans hf
  refine lv_aload_n hx hb dX7_advance_0 rfl (lv_at hl 0 rfl) ?_
  refine bk_getI X hB kl_X7 0 lc_Tx_0 2 (by decide) rfl wm_298 dX7_advance_1 ?_
  refine lv_aload_n hx hb dX7_advance_4 rfl (lv_at hl 0 rfl) ?_
  refine bk_getI X hB kl_X7 0 lc_Tx_0 1 (by decide) rfl wm_297 dX7_advance_5 ?_
  refine lv_icmp_ge (tgt := 21) hx hb dX7_advance_8 (by decide) (fun c1 => ?_) (fun c1 => ?_)
  · have hf := (if_pos c1).symm.trans hf
    exact bk_vW X hr rfl hf hB (Nat.le_of_ble_eq_true rfl) (Nat.le_of_ble_eq_true rfl) dX7_advance_21
  · have hf := (if_neg c1).symm.trans hf
    refine lv_aload_n hx hb dX7_advance_11 rfl (lv_at hl 0 rfl) ?_
    refine lv_dup hx hb dX7_advance_12 rfl ?_
    refine bk_getI X hB kl_X7 0 lc_Tx_0 2 (by decide) rfl wm_298 dX7_advance_13 ?_
    refine lv_iconst (v := 1) hx hb dX7_advance_16 (by decide) ?_
    refine lv_iadd hx hb dX7_advance_17 ?_
    refine lv_topi (fun x2 ex2 => ?_)
    have hf := nm_use hf ex2
    refine bk_putI X hB kl_X7 0 lc_Tx_0 2 (by decide) rfl rfl rfl wm_298 dX7_advance_18 rfl (fun H locs hB => ?_)
    obtain ⟨v3, ev3⟩ : ∃ y : bM, y = upd v 2 x2 := ⟨_, rfl⟩
    have hf := nm_use hf ev3
    rw [← ev3] at hB
    exact bk_vW X hr rfl hf hB (Nat.le_of_ble_eq_true rfl) (Nat.le_of_ble_eq_true rfl) dX7_advance_21
theorem yv_X7_advance : bYv yX7_advance RX7 cX7_advance 1 none 0 := ⟨⟨rfl, by decide, by decide, rfl⟩, wm_509, wm_510, wm_9, wm_511⟩

theorem dX7_isBlank_0 : decode cX7_isBlank 0 = .ok (.iload_n 0, 1) := by decide +kernel
theorem dX7_isBlank_1 : decode cX7_isBlank 1 = .ok (.bipush 32, 2) := by decide +kernel
theorem dX7_isBlank_3 : decode cX7_isBlank 3 = .ok (.if_icmp .eq 9, 3) := by decide +kernel
theorem dX7_isBlank_6 : decode cX7_isBlank 6 = .ok (.iload_n 0, 1) := by decide +kernel
theorem dX7_isBlank_7 : decode cX7_isBlank 7 = .ok (.bipush 10, 2) := by decide +kernel
theorem dX7_isBlank_9 : decode cX7_isBlank 9 = .ok (.if_icmp .ne 7, 3) := by decide +kernel
theorem dX7_isBlank_12 : decode cX7_isBlank 12 = .ok (.iconst 1, 1) := by decide +kernel
theorem dX7_isBlank_13 : decode cX7_isBlank 13 = .ok (.goto 4, 3) := by decide +kernel
theorem dX7_isBlank_16 : decode cX7_isBlank 16 = .ok (.iconst 0, 1) := by decide +kernel
theorem dX7_isBlank_17 : decode cX7_isBlank 17 = .ok (.ireturn, 1) := by decide +kernel
def fX7_isBlank_J12   : Option Int32 :=
  some (1)
def fX7_isBlank (p0 : Int32) : Option Int32 :=
  (if p0 = 32 then (fX7_isBlank_J12 ) else ((if p0 = 10 then (fX7_isBlank_J12 ) else (some (0)))))
set_option maxRecDepth 100000 in
set_option maxHeartbeats 4000000 in
theorem mX7_isBlank {l : Launch} {p0 : Int32} {v : bM} {r0 : Int32} (hf : fX7_isBlank p0 = some r0) : bMet l yX7_isBlank cX7_isBlank 1 (some .boolean) 0 0 0 [] (fun E a => [.int p0]) v v (fun _ => some (.int r0)) := by
  refine bk_start (by decide +kernel) bWf_nil (fun _ _ => Nat.le_of_ble_eq_true rfl) ?_
  intro p e s m args below meth c D E a ls H locs X hr hl hB
  have hx := X.1
  have hb := X.2.1
  have hown := X.2.2.2.1
  have hts := X.2.2.2.2.1
  have hl : lv_has ls 1 [(0, .int p0)] := hl
  have hf := (fX7_isBlank.eq_1 p0).symm.trans hf
  refine lv_iload_n hx hb dX7_isBlank_0 rfl (lv_at hl 0 rfl) ?_
  refine lv_bipush (v := 32) hx hb dX7_isBlank_1 (by decide) ?_
  have hJ12 : ∀ (H : Heap) (locs : List Loc) (ls : Array Slot), fX7_isBlank_J12  = some r0 → bB D E [] a v s H locs → lv_has ls 1 [] → W p l e (rmOf 0 0 0) s m args below meth c H locs 0 0 (bQ below D E [] a v (some (.int r0)) args s 0 0) (F0 m 12 ls []) := by
    intro  H locs ls hf hB hl
    have hf := (fX7_isBlank_J12.eq_1  ).symm.trans hf
    refine lv_iconst (v := 1) hx hb dX7_isBlank_12 (by decide) ?_
    refine lv_goto (tgt := 17) hx hb dX7_isBlank_13 (by decide) ?_
    exact bk_zR X hr rfl rfl hf hB (Nat.le_of_ble_eq_true rfl) (Nat.le_of_ble_eq_true rfl) dX7_isBlank_17
  refine lv_icmp_eq (tgt := 12) hx hb dX7_isBlank_3 (by decide) (fun c1 => ?_) (fun c1 => ?_)
  · have hf := (if_pos c1).symm.trans hf
    exact hJ12  H locs ls hf hB (lv_sub hl [] rfl)
  · have hf := (if_neg c1).symm.trans hf
    refine lv_iload_n hx hb dX7_isBlank_6 rfl (lv_at hl 0 rfl) ?_
    refine lv_bipush (v := 10) hx hb dX7_isBlank_7 (by decide) ?_
    refine lv_icmp_ne (tgt := 16) hx hb dX7_isBlank_9 (by decide) (fun c2 => ?_) (fun c2 => ?_)
    · have hf := (if_neg c2).symm.trans hf
      refine lv_iconst (v := 0) hx hb dX7_isBlank_16 (by decide) ?_
      exact bk_zR X hr rfl rfl hf hB (Nat.le_of_ble_eq_true rfl) (Nat.le_of_ble_eq_true rfl) dX7_isBlank_17
    · have hf := (if_pos c2).symm.trans hf
      exact hJ12  H locs ls hf hB (lv_sub hl [] rfl)
theorem ys_X7_isBlank : bYs yX7_isBlank RX7 cX7_isBlank 1 (some .boolean) 1 := ⟨⟨rfl, by decide, by decide, rfl⟩, wm_445, wm_9, wm_446⟩

theorem dX7_isLetter_0 : decode cX7_isLetter 0 = .ok (.iload_n 0, 1) := by decide +kernel
theorem dX7_isLetter_1 : decode cX7_isLetter 1 = .ok (.bipush 97, 2) := by decide +kernel
theorem dX7_isLetter_3 : decode cX7_isLetter 3 = .ok (.if_icmp .lt 13, 3) := by decide +kernel
theorem dX7_isLetter_6 : decode cX7_isLetter 6 = .ok (.iload_n 0, 1) := by decide +kernel
theorem dX7_isLetter_7 : decode cX7_isLetter 7 = .ok (.bipush 122, 2) := by decide +kernel
theorem dX7_isLetter_9 : decode cX7_isLetter 9 = .ok (.if_icmp .gt 7, 3) := by decide +kernel
theorem dX7_isLetter_12 : decode cX7_isLetter 12 = .ok (.iconst 1, 1) := by decide +kernel
theorem dX7_isLetter_13 : decode cX7_isLetter 13 = .ok (.goto 4, 3) := by decide +kernel
theorem dX7_isLetter_16 : decode cX7_isLetter 16 = .ok (.iconst 0, 1) := by decide +kernel
theorem dX7_isLetter_17 : decode cX7_isLetter 17 = .ok (.ireturn, 1) := by decide +kernel
def fX7_isLetter (p0 : Int32) : Option Int32 :=
  (if p0 < 97 then (some (0)) else ((if 122 < p0 then (some (0)) else (some (1)))))
set_option maxRecDepth 100000 in
set_option maxHeartbeats 4000000 in
theorem mX7_isLetter {l : Launch} {p0 : Int32} {v : bM} {r0 : Int32} (hf : fX7_isLetter p0 = some r0) : bMet l yX7_isLetter cX7_isLetter 1 (some .boolean) 0 0 0 [] (fun E a => [.int p0]) v v (fun _ => some (.int r0)) := by
  refine bk_start (by decide +kernel) bWf_nil (fun _ _ => Nat.le_of_ble_eq_true rfl) ?_
  intro p e s m args below meth c D E a ls H locs X hr hl hB
  have hx := X.1
  have hb := X.2.1
  have hown := X.2.2.2.1
  have hts := X.2.2.2.2.1
  have hl : lv_has ls 1 [(0, .int p0)] := hl
  have hf := (fX7_isLetter.eq_1 p0).symm.trans hf
  refine lv_iload_n hx hb dX7_isLetter_0 rfl (lv_at hl 0 rfl) ?_
  refine lv_bipush (v := 97) hx hb dX7_isLetter_1 (by decide) ?_
  refine lv_icmp_lt (tgt := 16) hx hb dX7_isLetter_3 (by decide) (fun c1 => ?_) (fun c1 => ?_)
  · have hf := (if_pos c1).symm.trans hf
    refine lv_iconst (v := 0) hx hb dX7_isLetter_16 (by decide) ?_
    exact bk_zR X hr rfl rfl hf hB (Nat.le_of_ble_eq_true rfl) (Nat.le_of_ble_eq_true rfl) dX7_isLetter_17
  · have hf := (if_neg c1).symm.trans hf
    refine lv_iload_n hx hb dX7_isLetter_6 rfl (lv_at hl 0 rfl) ?_
    refine lv_bipush (v := 122) hx hb dX7_isLetter_7 (by decide) ?_
    refine lv_icmp_gt (tgt := 16) hx hb dX7_isLetter_9 (by decide) (fun c2 => ?_) (fun c2 => ?_)
    · have hf := (if_pos c2).symm.trans hf
      refine lv_iconst (v := 0) hx hb dX7_isLetter_16 (by decide) ?_
      exact bk_zR X hr rfl rfl hf hB (Nat.le_of_ble_eq_true rfl) (Nat.le_of_ble_eq_true rfl) dX7_isLetter_17
    · have hf := (if_neg c2).symm.trans hf
      refine lv_iconst (v := 1) hx hb dX7_isLetter_12 (by decide) ?_
      refine lv_goto (tgt := 17) hx hb dX7_isLetter_13 (by decide) ?_
      exact bk_zR X hr rfl rfl hf hB (Nat.le_of_ble_eq_true rfl) (Nat.le_of_ble_eq_true rfl) dX7_isLetter_17
theorem ys_X7_isLetter : bYs yX7_isLetter RX7 cX7_isLetter 1 (some .boolean) 1 := ⟨⟨rfl, by decide, by decide, rfl⟩, wm_452, wm_9, wm_453⟩

theorem dX7_wordOf_0 : decode cX7_wordOf 0 = .ok (.iload_n 0, 1) := by decide +kernel
theorem dX7_wordOf_1 : decode cX7_wordOf 1 = .ok (.tableswitch 106 5 17 #[67, 70, 73, 76, 79, 82, 85, 88, 91, 94, 97, 100, 103], 67) := by decide +kernel
theorem dX7_wordOf_68 : decode cX7_wordOf 68 = .ok (.ldc 78, 2) := by decide +kernel
theorem dX7_wordOf_70 : decode cX7_wordOf 70 = .ok (.areturn, 1) := by decide +kernel
theorem dX7_wordOf_71 : decode cX7_wordOf 71 = .ok (.ldc 80, 2) := by decide +kernel
theorem dX7_wordOf_73 : decode cX7_wordOf 73 = .ok (.areturn, 1) := by decide +kernel
theorem dX7_wordOf_74 : decode cX7_wordOf 74 = .ok (.ldc 82, 2) := by decide +kernel
theorem dX7_wordOf_76 : decode cX7_wordOf 76 = .ok (.areturn, 1) := by decide +kernel
theorem dX7_wordOf_77 : decode cX7_wordOf 77 = .ok (.ldc 84, 2) := by decide +kernel
theorem dX7_wordOf_79 : decode cX7_wordOf 79 = .ok (.areturn, 1) := by decide +kernel
theorem dX7_wordOf_80 : decode cX7_wordOf 80 = .ok (.ldc 86, 2) := by decide +kernel
theorem dX7_wordOf_82 : decode cX7_wordOf 82 = .ok (.areturn, 1) := by decide +kernel
theorem dX7_wordOf_83 : decode cX7_wordOf 83 = .ok (.ldc 88, 2) := by decide +kernel
theorem dX7_wordOf_85 : decode cX7_wordOf 85 = .ok (.areturn, 1) := by decide +kernel
theorem dX7_wordOf_86 : decode cX7_wordOf 86 = .ok (.ldc 90, 2) := by decide +kernel
theorem dX7_wordOf_88 : decode cX7_wordOf 88 = .ok (.areturn, 1) := by decide +kernel
theorem dX7_wordOf_89 : decode cX7_wordOf 89 = .ok (.ldc 92, 2) := by decide +kernel
theorem dX7_wordOf_91 : decode cX7_wordOf 91 = .ok (.areturn, 1) := by decide +kernel
theorem dX7_wordOf_92 : decode cX7_wordOf 92 = .ok (.ldc 94, 2) := by decide +kernel
theorem dX7_wordOf_94 : decode cX7_wordOf 94 = .ok (.areturn, 1) := by decide +kernel
theorem dX7_wordOf_95 : decode cX7_wordOf 95 = .ok (.ldc 96, 2) := by decide +kernel
theorem dX7_wordOf_97 : decode cX7_wordOf 97 = .ok (.areturn, 1) := by decide +kernel
theorem dX7_wordOf_98 : decode cX7_wordOf 98 = .ok (.ldc 98, 2) := by decide +kernel
theorem dX7_wordOf_100 : decode cX7_wordOf 100 = .ok (.areturn, 1) := by decide +kernel
theorem dX7_wordOf_101 : decode cX7_wordOf 101 = .ok (.ldc 100, 2) := by decide +kernel
theorem dX7_wordOf_103 : decode cX7_wordOf 103 = .ok (.areturn, 1) := by decide +kernel
theorem dX7_wordOf_104 : decode cX7_wordOf 104 = .ok (.ldc 102, 2) := by decide +kernel
theorem dX7_wordOf_106 : decode cX7_wordOf 106 = .ok (.areturn, 1) := by decide +kernel
theorem dX7_wordOf_107 : decode cX7_wordOf 107 = .ok (.ldc 104, 2) := by decide +kernel
theorem dX7_wordOf_109 : decode cX7_wordOf 109 = .ok (.areturn, 1) := by decide +kernel
def fX7_wordOf (p0 : Int32) : Option Nat :=
  (if p0 = 5 then (some 1) else (if p0 = 6 then (some 2) else (if p0 = 7 then (some 3) else (if p0 = 8 then (some 4) else (if p0 = 9 then (some 5) else (if p0 = 10 then (some 6) else (if p0 = 11 then (some 7) else (if p0 = 12 then (some 8) else (if p0 = 13 then (some 9) else (if p0 = 14 then (some 10) else (if p0 = 15 then (some 11) else (if p0 = 16 then (some 12) else (if p0 = 17 then (some 13) else (some 14))))))))))))))
set_option maxRecDepth 100000 in
set_option maxHeartbeats 4000000 in
theorem mX7_wordOf {l : Launch} {p0 : Int32} {v : bM} {r0 : Nat} (hf : fX7_wordOf p0 = some r0) : bMet l yX7_wordOf cX7_wordOf 1 (some (.object "java/lang/String")) 0 0 0 [] (fun E a => [.int p0]) v v (fun E => some (.ref (E.1.2 r0))) := by
  refine bk_start (by decide +kernel) bWf_nil (fun _ _ => Nat.le_of_ble_eq_true rfl) ?_
  intro p e s m args below meth c D E a ls H locs X hr hl hB
  have hx := X.1
  have hb := X.2.1
  have hown := X.2.2.2.1
  have hts := X.2.2.2.2.1
  have hl : lv_has ls 1 [(0, .int p0)] := hl
  have hf := (fX7_wordOf.eq_1 p0).symm.trans hf
  refine lv_iload_n hx hb dX7_wordOf_0 rfl (lv_at hl 0 rfl) ?_
  by_cases c1 : p0 = 5
  · have hf := (if_pos c1).symm.trans hf
    refine lv_tableIn (tgt := 68) hx hb dX7_wordOf_1 (by rw [c1]; decide) (by rw [c1]; decide) (by rw [c1]; rfl) (by decide) ?_
    refine va_ldcS hx hb hown (show vk_R RX7 78 "bakery" (E.1.2 1) s from X.2.2.2.2.2.1.2.2.1 1 ("PennyBakery$Text", 78, "bakery") rfl) dX7_wordOf_68 ?_
    exact bk_aR X hr rfl hf hB (Nat.le_of_ble_eq_true rfl) (Nat.le_of_ble_eq_true rfl) dX7_wordOf_70
  have hf := (if_neg c1).symm.trans hf
  by_cases c2 : p0 = 6
  · have hf := (if_pos c2).symm.trans hf
    refine lv_tableIn (tgt := 71) hx hb dX7_wordOf_1 (by rw [c2]; decide) (by rw [c2]; decide) (by rw [c2]; rfl) (by decide) ?_
    refine va_ldcS hx hb hown (show vk_R RX7 80 "flour" (E.1.2 2) s from X.2.2.2.2.2.1.2.2.1 2 ("PennyBakery$Text", 80, "flour") rfl) dX7_wordOf_71 ?_
    exact bk_aR X hr rfl hf hB (Nat.le_of_ble_eq_true rfl) (Nat.le_of_ble_eq_true rfl) dX7_wordOf_73
  have hf := (if_neg c2).symm.trans hf
  by_cases c3 : p0 = 7
  · have hf := (if_pos c3).symm.trans hf
    refine lv_tableIn (tgt := 74) hx hb dX7_wordOf_1 (by rw [c3]; decide) (by rw [c3]; decide) (by rw [c3]; rfl) (by decide) ?_
    refine va_ldcS hx hb hown (show vk_R RX7 82 "bread" (E.1.2 3) s from X.2.2.2.2.2.1.2.2.1 3 ("PennyBakery$Text", 82, "bread") rfl) dX7_wordOf_74 ?_
    exact bk_aR X hr rfl hf hB (Nat.le_of_ble_eq_true rfl) (Nat.le_of_ble_eq_true rfl) dX7_wordOf_76
  have hf := (if_neg c3).symm.trans hf
  by_cases c4 : p0 = 8
  · have hf := (if_pos c4).symm.trans hf
    refine lv_tableIn (tgt := 77) hx hb dX7_wordOf_1 (by rw [c4]; decide) (by rw [c4]; decide) (by rw [c4]; rfl) (by decide) ?_
    refine va_ldcS hx hb hown (show vk_R RX7 84 "buy" (E.1.2 4) s from X.2.2.2.2.2.1.2.2.1 4 ("PennyBakery$Text", 84, "buy") rfl) dX7_wordOf_77 ?_
    exact bk_aR X hr rfl hf hB (Nat.le_of_ble_eq_true rfl) (Nat.le_of_ble_eq_true rfl) dX7_wordOf_79
  have hf := (if_neg c4).symm.trans hf
  by_cases c5 : p0 = 9
  · have hf := (if_pos c5).symm.trans hf
    refine lv_tableIn (tgt := 80) hx hb dX7_wordOf_1 (by rw [c5]; decide) (by rw [c5]; decide) (by rw [c5]; rfl) (by decide) ?_
    refine va_ldcS hx hb hown (show vk_R RX7 86 "rate" (E.1.2 5) s from X.2.2.2.2.2.1.2.2.1 5 ("PennyBakery$Text", 86, "rate") rfl) dX7_wordOf_80 ?_
    exact bk_aR X hr rfl hf hB (Nat.le_of_ble_eq_true rfl) (Nat.le_of_ble_eq_true rfl) dX7_wordOf_82
  have hf := (if_neg c5).symm.trans hf
  by_cases c6 : p0 = 10
  · have hf := (if_pos c6).symm.trans hf
    refine lv_tableIn (tgt := 83) hx hb dX7_wordOf_1 (by rw [c6]; decide) (by rw [c6]; decide) (by rw [c6]; rfl) (by decide) ?_
    refine va_ldcS hx hb hown (show vk_R RX7 88 "bake" (E.1.2 6) s from X.2.2.2.2.2.1.2.2.1 6 ("PennyBakery$Text", 88, "bake") rfl) dX7_wordOf_83 ?_
    exact bk_aR X hr rfl hf hB (Nat.le_of_ble_eq_true rfl) (Nat.le_of_ble_eq_true rfl) dX7_wordOf_85
  have hf := (if_neg c6).symm.trans hf
  by_cases c7 : p0 = 11
  · have hf := (if_pos c7).symm.trans hf
    refine lv_tableIn (tgt := 86) hx hb dX7_wordOf_1 (by rw [c7]; decide) (by rw [c7]; decide) (by rw [c7]; rfl) (by decide) ?_
    refine va_ldcS hx hb hown (show vk_R RX7 90 "sell" (E.1.2 7) s from X.2.2.2.2.2.1.2.2.1 7 ("PennyBakery$Text", 90, "sell") rfl) dX7_wordOf_86 ?_
    exact bk_aR X hr rfl hf hB (Nat.le_of_ble_eq_true rfl) (Nat.le_of_ble_eq_true rfl) dX7_wordOf_88
  have hf := (if_neg c7).symm.trans hf
  by_cases c8 : p0 = 12
  · have hf := (if_pos c8).symm.trans hf
    refine lv_tableIn (tgt := 89) hx hb dX7_wordOf_1 (by rw [c8]; decide) (by rw [c8]; decide) (by rw [c8]; rfl) (by decide) ?_
    refine va_ldcS hx hb hown (show vk_R RX7 92 "wait" (E.1.2 8) s from X.2.2.2.2.2.1.2.2.1 8 ("PennyBakery$Text", 92, "wait") rfl) dX7_wordOf_89 ?_
    exact bk_aR X hr rfl hf hB (Nat.le_of_ble_eq_true rfl) (Nat.le_of_ble_eq_true rfl) dX7_wordOf_91
  have hf := (if_neg c8).symm.trans hf
  by_cases c9 : p0 = 13
  · have hf := (if_pos c9).symm.trans hf
    refine lv_tableIn (tgt := 92) hx hb dX7_wordOf_1 (by rw [c9]; decide) (by rw [c9]; decide) (by rw [c9]; rfl) (by decide) ?_
    refine va_ldcS hx hb hown (show vk_R RX7 94 "burnt" (E.1.2 9) s from X.2.2.2.2.2.1.2.2.1 9 ("PennyBakery$Text", 94, "burnt") rfl) dX7_wordOf_92 ?_
    exact bk_aR X hr rfl hf hB (Nat.le_of_ble_eq_true rfl) (Nat.le_of_ble_eq_true rfl) dX7_wordOf_94
  have hf := (if_neg c9).symm.trans hf
  by_cases c10 : p0 = 14
  · have hf := (if_pos c10).symm.trans hf
    refine lv_tableIn (tgt := 95) hx hb dX7_wordOf_1 (by rw [c10]; decide) (by rw [c10]; decide) (by rw [c10]; rfl) (by decide) ?_
    refine va_ldcS hx hb hown (show vk_R RX7 96 "more" (E.1.2 10) s from X.2.2.2.2.2.1.2.2.1 10 ("PennyBakery$Text", 96, "more") rfl) dX7_wordOf_95 ?_
    exact bk_aR X hr rfl hf hB (Nat.le_of_ble_eq_true rfl) (Nat.le_of_ble_eq_true rfl) dX7_wordOf_97
  have hf := (if_neg c10).symm.trans hf
  by_cases c11 : p0 = 15
  · have hf := (if_pos c11).symm.trans hf
    refine lv_tableIn (tgt := 98) hx hb dX7_wordOf_1 (by rw [c11]; decide) (by rw [c11]; decide) (by rw [c11]; rfl) (by decide) ?_
    refine va_ldcS hx hb hown (show vk_R RX7 98 "less" (E.1.2 11) s from X.2.2.2.2.2.1.2.2.1 11 ("PennyBakery$Text", 98, "less") rfl) dX7_wordOf_98 ?_
    exact bk_aR X hr rfl hf hB (Nat.le_of_ble_eq_true rfl) (Nat.le_of_ble_eq_true rfl) dX7_wordOf_100
  have hf := (if_neg c11).symm.trans hf
  by_cases c12 : p0 = 16
  · have hf := (if_pos c12).symm.trans hf
    refine lv_tableIn (tgt := 101) hx hb dX7_wordOf_1 (by rw [c12]; decide) (by rw [c12]; decide) (by rw [c12]; rfl) (by decide) ?_
    refine va_ldcS hx hb hown (show vk_R RX7 100 "late" (E.1.2 12) s from X.2.2.2.2.2.1.2.2.1 12 ("PennyBakery$Text", 100, "late") rfl) dX7_wordOf_101 ?_
    exact bk_aR X hr rfl hf hB (Nat.le_of_ble_eq_true rfl) (Nat.le_of_ble_eq_true rfl) dX7_wordOf_103
  have hf := (if_neg c12).symm.trans hf
  by_cases c13 : p0 = 17
  · have hf := (if_pos c13).symm.trans hf
    refine lv_tableIn (tgt := 104) hx hb dX7_wordOf_1 (by rw [c13]; decide) (by rw [c13]; decide) (by rw [c13]; rfl) (by decide) ?_
    refine va_ldcS hx hb hown (show vk_R RX7 102 "early" (E.1.2 13) s from X.2.2.2.2.2.1.2.2.1 13 ("PennyBakery$Text", 102, "early") rfl) dX7_wordOf_104 ?_
    exact bk_aR X hr rfl hf hB (Nat.le_of_ble_eq_true rfl) (Nat.le_of_ble_eq_true rfl) dX7_wordOf_106
  have hf := (if_neg c13).symm.trans hf
  refine lv_tableOut (tgt := 107) hx hb dX7_wordOf_1 (sw_out p0 (by decide) [5, 6, 7, 8, 9, 10, 11, 12, 13, 14, 15, 16, 17] (by decide) (by simp only [List.forall_mem_cons]; exact ⟨c1, c2, c3, c4, c5, c6, c7, c8, c9, c10, c11, c12, c13, fun _ h => absurd h List.not_mem_nil⟩)) (by decide) ?_
  refine va_ldcS hx hb hown (show vk_R RX7 104 "" (E.1.2 14) s from X.2.2.2.2.2.1.2.2.1 14 ("PennyBakery$Text", 104, "") rfl) dX7_wordOf_107 ?_
  exact bk_aR X hr rfl hf hB (Nat.le_of_ble_eq_true rfl) (Nat.le_of_ble_eq_true rfl) dX7_wordOf_109
theorem ys_X7_wordOf : bYs yX7_wordOf RX7 cX7_wordOf 1 (some (.object "java/lang/String")) 1 := ⟨⟨rfl, by decide, by decide, rfl⟩, wm_459, wm_9, wm_460⟩

theorem dX7_isWord_0 : decode cX7_isWord 0 = .ok (.aload_n 1, 1) := by decide +kernel
theorem dX7_isWord_1 : decode cX7_isWord 1 = .ok (.invokevirtual 69, 3) := by decide +kernel
theorem dX7_isWord_4 : decode cX7_isWord 4 = .ok (.iload_n 3, 1) := by decide +kernel
theorem dX7_isWord_5 : decode cX7_isWord 5 = .ok (.iload_n 2, 1) := by decide +kernel
theorem dX7_isWord_6 : decode cX7_isWord 6 = .ok (.isub, 1) := by decide +kernel
theorem dX7_isWord_7 : decode cX7_isWord 7 = .ok (.if_icmp .ne 7, 3) := by decide +kernel
theorem dX7_isWord_10 : decode cX7_isWord 10 = .ok (.iconst 1, 1) := by decide +kernel
theorem dX7_isWord_11 : decode cX7_isWord 11 = .ok (.goto 4, 3) := by decide +kernel
theorem dX7_isWord_14 : decode cX7_isWord 14 = .ok (.iconst 0, 1) := by decide +kernel
theorem dX7_isWord_15 : decode cX7_isWord 15 = .ok (.istore 4, 2) := by decide +kernel
theorem dX7_isWord_17 : decode cX7_isWord 17 = .ok (.iconst 0, 1) := by decide +kernel
theorem dX7_isWord_18 : decode cX7_isWord 18 = .ok (.istore 5, 2) := by decide +kernel
theorem dX7_isWord_20 : decode cX7_isWord 20 = .ok (.iload 4, 2) := by decide +kernel
theorem dX7_isWord_22 : decode cX7_isWord 22 = .ok (.ifCond .eq 43, 3) := by decide +kernel
theorem dX7_isWord_25 : decode cX7_isWord 25 = .ok (.iload 5, 2) := by decide +kernel
theorem dX7_isWord_27 : decode cX7_isWord 27 = .ok (.aload_n 1, 1) := by decide +kernel
theorem dX7_isWord_28 : decode cX7_isWord 28 = .ok (.invokevirtual 69, 3) := by decide +kernel
theorem dX7_isWord_31 : decode cX7_isWord 31 = .ok (.if_icmp .ge 34, 3) := by decide +kernel
theorem dX7_isWord_34 : decode cX7_isWord 34 = .ok (.aload_n 0, 1) := by decide +kernel
theorem dX7_isWord_35 : decode cX7_isWord 35 = .ok (.getfield 9, 3) := by decide +kernel
theorem dX7_isWord_38 : decode cX7_isWord 38 = .ok (.iload_n 2, 1) := by decide +kernel
theorem dX7_isWord_39 : decode cX7_isWord 39 = .ok (.iload 5, 2) := by decide +kernel
theorem dX7_isWord_41 : decode cX7_isWord 41 = .ok (.iadd, 1) := by decide +kernel
theorem dX7_isWord_42 : decode cX7_isWord 42 = .ok (.iaload, 1) := by decide +kernel
theorem dX7_isWord_43 : decode cX7_isWord 43 = .ok (.aload_n 1, 1) := by decide +kernel
theorem dX7_isWord_44 : decode cX7_isWord 44 = .ok (.iload 5, 2) := by decide +kernel
theorem dX7_isWord_46 : decode cX7_isWord 46 = .ok (.invokevirtual 74, 3) := by decide +kernel
theorem dX7_isWord_49 : decode cX7_isWord 49 = .ok (.if_icmp .ne 7, 3) := by decide +kernel
theorem dX7_isWord_52 : decode cX7_isWord 52 = .ok (.iconst 1, 1) := by decide +kernel
theorem dX7_isWord_53 : decode cX7_isWord 53 = .ok (.goto 4, 3) := by decide +kernel
theorem dX7_isWord_56 : decode cX7_isWord 56 = .ok (.iconst 0, 1) := by decide +kernel
theorem dX7_isWord_57 : decode cX7_isWord 57 = .ok (.istore 4, 2) := by decide +kernel
theorem dX7_isWord_59 : decode cX7_isWord 59 = .ok (.iinc 5 1, 3) := by decide +kernel
theorem dX7_isWord_62 : decode cX7_isWord 62 = .ok (.goto (-42), 3) := by decide +kernel
theorem dX7_isWord_65 : decode cX7_isWord 65 = .ok (.iload 4, 2) := by decide +kernel
theorem dX7_isWord_67 : decode cX7_isWord 67 = .ok (.ireturn, 1) := by decide +kernel
def fX7_isWord_J57 (y3 : Int32) (k20 : Int32 → Int32 → Option Int32) (y10 : Int32) : Option Int32 :=
  nm (y3 + 1) fun x11 => k20 y10 x11
def fX7_isWord_L20 (w1 : Nat) (p2 : Int32) (v : bM) (k20 : Int32 → Int32 → Option Int32) (y2 : Int32) (y3 : Int32) : Option Int32 :=
  (if y2 = 0 then (ck y2 2 <| some (y2)) else ((if (sLen w1) ≤ y3 then (ck y2 2 <| some (y2)) else (ck (p2 + y3) 700 <| ck y3 (sTx.getD w1 []).length <| (if (v (3 + (p2 + y3).toNatClampNeg)) = (sAt w1 y3) then (fX7_isWord_J57 y3 k20 1) else (fX7_isWord_J57 y3 k20 0))))))
def fX7_isWord_J15 (w1 : Nat) (p2 : Int32) (v : bM) (y1 : Int32) : Option Int32 :=
  lp (fX7_isWord_L20 w1 p2 v) (fun _ _ => none) lpN y1 0
def fX7_isWord (w1 : Nat) (p2 : Int32) (p3 : Int32) (v : bM) : Option Int32 :=
  ckn w1 40 <| (if (sLen w1) = (p3 - p2) then (fX7_isWord_J15 w1 p2 v 1) else (fX7_isWord_J15 w1 p2 v 0))
set_option maxRecDepth 100000 in
set_option maxHeartbeats 4000000 in
theorem mX7_isWord {l : Launch} {w1 : Nat} {p2 : Int32} {p3 : Int32} {v : bM} {r0 : Int32} (hf : fX7_isWord w1 p2 p3 v = some r0) : bMet l yX7_isWord cX7_isWord 6 (some .boolean) 4 0 0 LTx (fun E a => [.ref a, .ref (E.1.2 w1), .int p2, .int p3]) v v (fun _ => some (.int r0)) := by
  refine bk_start (by decide +kernel) wfTx (fun _ _ => Nat.le_of_ble_eq_true rfl) ?_
  intro p e s m args below meth c D E a ls H locs X hr hl hB
  have hx := X.1
  have hb := X.2.1
  have hown := X.2.2.2.1
  have hts := X.2.2.2.2.1
  have hl : lv_has ls 6 [(0, .ref a), (1, .ref (E.1.2 w1)), (2, .int p2), (3, .int p3)] := hl
  have hf := (fX7_isWord.eq_1 w1 p2 p3 v).symm.trans hf
  obtain ⟨hw1, hf⟩ := ckn_some hf
  refine lv_aload_n hx hb dX7_isWord_0 rfl (lv_at hl 1 rfl) ?_
  refine bk_non (v0 := v) (w0 := v) hB (fun h1 h2 h3 => bk_runVr X (Av := []) (rest := []) (mJ0_length_8abf5 hw1) yv_J0_length_8abf5 wm_479 ⟨Nat.le_of_ble_eq_true rfl, Nat.le_of_ble_eq_true rfl⟩ rfl rfl hl.1 (bk_txRecv hB (sTx_at hw1)) h1 h2 h3 (Nat.le_of_ble_eq_true rfl) ⟨Nat.le_of_ble_eq_true rfl, Nat.le_of_ble_eq_true rfl⟩ dX7_isWord_1) (fun H locs hB => ?_)
  refine W.eq (g2 := F0 m 4 ls [.int (sLen w1)]) rfl ?_
  refine lv_iload_n hx hb dX7_isWord_4 rfl (lv_at hl 3 rfl) ?_
  refine lv_iload_n hx hb dX7_isWord_5 rfl (lv_at hl 2 rfl) ?_
  refine lv_isub hx hb dX7_isWord_6 ?_
  have hJ15 : ∀ (y1 : Int32) (H : Heap) (locs : List Loc) (ls : Array Slot), fX7_isWord_J15 w1 p2 v y1 = some r0 → bB D E LTx a v s H locs → lv_has ls 6 [(0, .ref a), (1, .ref (E.1.2 w1)), (2, .int p2)] → W p l e (rmOf 4 0 0) s m args below meth c H locs 0 0 (bQ below D E LTx a v (some (.int r0)) args s 0 0) (F0 m 15 ls [.int y1]) := by
    intro y1 H locs ls hf hB hl
    have hf := (fX7_isWord_J15.eq_1 w1 p2 v y1).symm.trans hf
    refine lv_istore (lv' := [(4, .int y1), (0, .ref a), (1, .ref (E.1.2 w1)), (2, .int p2)]) hx hb dX7_isWord_15 hl (by decide) rfl (fun ls hl => ?_)
    refine lv_iconst (v := 0) hx hb dX7_isWord_17 (by decide) ?_
    refine lv_istore (lv' := [(5, .int 0), (4, .int y1), (0, .ref a), (1, .ref (E.1.2 w1)), (2, .int p2)]) hx hb dX7_isWord_18 hl (by decide) rfl (fun ls hl => ?_)
    have hL20 : ∀ (n20 : Nat) (y2 y3 : Int32) (H : Heap) (locs : List Loc) (ls : Array Slot), lp (fX7_isWord_L20 w1 p2 v) (fun _ _ => none) n20 y2 y3 = some r0 → bB D E LTx a v s H locs → lv_has ls 6 [(0, .ref a), (1, .ref (E.1.2 w1)), (2, .int p2), (4, .int y2), (5, .int y3)] → W p l e (rmOf 4 0 0) s m args below meth c H locs 0 0 (bQ below D E LTx a v (some (.int r0)) args s 0 0) (F0 m 20 ls []) := by
      intro n20
      induction n20 with
      | zero => intro y2 y3 H locs ls hf; cases (show (none : Option Int32) = some r0 from hf)
      | succ n20 ih20 =>
        intro y2 y3 H locs ls hf hB hl
        have hf := (fX7_isWord_L20.eq_1 w1 p2 v (lp (fX7_isWord_L20 w1 p2 v) (fun _ _ => none) n20) y2 y3).symm.trans (show fX7_isWord_L20 w1 p2 v (lp (fX7_isWord_L20 w1 p2 v) (fun _ _ => none) n20) y2 y3 = some r0 from hf)
        refine lv_iload hx hb dX7_isWord_20 (lv_at hl 3 rfl) ?_
        refine lv_if_eq (tgt := 65) hx hb dX7_isWord_22 (by decide) (fun c4 => ?_) (fun c4 => ?_)
        · have hf := (if_pos c4).symm.trans hf
          refine lv_iload hx hb dX7_isWord_65 (lv_at hl 3 rfl) ?_
          obtain ⟨h5, hf⟩ := ck_some hf
          exact bk_zR X hr rfl (nar_z h5) hf hB (Nat.le_of_ble_eq_true rfl) (Nat.le_of_ble_eq_true rfl) dX7_isWord_67
        · have hf := (if_neg c4).symm.trans hf
          refine lv_iload hx hb dX7_isWord_25 (lv_at hl 4 rfl) ?_
          refine lv_aload_n hx hb dX7_isWord_27 rfl (lv_at hl 1 rfl) ?_
          refine bk_non (v0 := v) (w0 := v) hB (fun h1 h2 h3 => bk_runVr X (Av := []) (rest := [.int y3]) (mJ0_length_8abf5 hw1) yv_J0_length_8abf5 wm_479 ⟨Nat.le_of_ble_eq_true rfl, Nat.le_of_ble_eq_true rfl⟩ rfl rfl hl.1 (bk_txRecv hB (sTx_at hw1)) h1 h2 h3 (Nat.le_of_ble_eq_true rfl) ⟨Nat.le_of_ble_eq_true rfl, Nat.le_of_ble_eq_true rfl⟩ dX7_isWord_28) (fun H locs hB => ?_)
          refine W.eq (g2 := F0 m 31 ls [.int (sLen w1), .int y3]) rfl ?_
          refine lv_icmp_ge (tgt := 65) hx hb dX7_isWord_31 (by decide) (fun c6 => ?_) (fun c6 => ?_)
          · have hf := (if_pos c6).symm.trans hf
            refine lv_iload hx hb dX7_isWord_65 (lv_at hl 3 rfl) ?_
            obtain ⟨h7, hf⟩ := ck_some hf
            exact bk_zR X hr rfl (nar_z h7) hf hB (Nat.le_of_ble_eq_true rfl) (Nat.le_of_ble_eq_true rfl) dX7_isWord_67
          · have hf := (if_neg c6).symm.trans hf
            refine lv_aload_n hx hb dX7_isWord_34 rfl (lv_at hl 0 rfl) ?_
            refine bk_getR X hB kl_X7 0 lc_Tx_0 3 (by decide) rfl wm_299 dX7_isWord_35 ?_
            refine lv_iload_n hx hb dX7_isWord_38 rfl (lv_at hl 2 rfl) ?_
            refine lv_iload hx hb dX7_isWord_39 (lv_at hl 4 rfl) ?_
            refine lv_iadd hx hb dX7_isWord_41 ?_
            obtain ⟨h8, hf⟩ := ck_some hf
            refine bk_ald X hB 1 lc_Tx_1 h8 dX7_isWord_42 ?_
            refine lv_aload_n hx hb dX7_isWord_43 rfl (lv_at hl 1 rfl) ?_
            refine lv_iload hx hb dX7_isWord_44 (lv_at hl 4 rfl) ?_
            obtain ⟨h9, hf⟩ := ck_some hf
            refine bk_non (v0 := v) (w0 := v) hB (fun h1 h2 h3 => bk_runVr X (Av := [.int y3]) (rest := [.int (v (3 + (p2 + y3).toNatClampNeg))]) (mJ0_charAt_5068e hw1 h9) yv_J0_charAt_5068e wm_480 ⟨Nat.le_of_ble_eq_true rfl, Nat.le_of_ble_eq_true rfl⟩ rfl rfl hl.1 (bk_txRecv hB (sTx_at hw1)) h1 h2 h3 (Nat.le_of_ble_eq_true rfl) ⟨Nat.le_of_ble_eq_true rfl, Nat.le_of_ble_eq_true rfl⟩ dX7_isWord_46) (fun H locs hB => ?_)
            refine W.eq (g2 := F0 m 49 ls [.int (sAt w1 y3), .int (v (3 + (p2 + y3).toNatClampNeg))]) rfl ?_
            have hJ57 : ∀ (y10 : Int32) (H : Heap) (locs : List Loc) (ls : Array Slot), fX7_isWord_J57 y3 (lp (fX7_isWord_L20 w1 p2 v) (fun _ _ => none) n20) y10 = some r0 → bB D E LTx a v s H locs → lv_has ls 6 [(0, .ref a), (1, .ref (E.1.2 w1)), (2, .int p2), (5, .int y3)] → W p l e (rmOf 4 0 0) s m args below meth c H locs 0 0 (bQ below D E LTx a v (some (.int r0)) args s 0 0) (F0 m 57 ls [.int y10]) := by
              intro y10 H locs ls hf hB hl
              have hf := (fX7_isWord_J57.eq_1 y3 (lp (fX7_isWord_L20 w1 p2 v) (fun _ _ => none) n20) y10).symm.trans hf
              refine lv_istore (lv' := [(4, .int y10), (0, .ref a), (1, .ref (E.1.2 w1)), (2, .int p2), (5, .int y3)]) hx hb dX7_isWord_57 hl (by decide) rfl (fun ls hl => ?_)
              obtain ⟨x11, ex11⟩ : ∃ y : Int32, y = y3 + 1 := ⟨_, rfl⟩
              have hf := nm_use hf ex11
              refine lv_iinc (v := x11) (lv' := [(5, .int x11), (4, .int y10), (0, .ref a), (1, .ref (E.1.2 w1)), (2, .int p2)]) hx hb dX7_isWord_59 hl (k := 4) rfl (by rw [ex11]; rfl) (by decide) rfl (fun ls hl => ?_)
              refine lv_goto (tgt := 20) hx hb dX7_isWord_62 (by decide) ?_
              exact ih20 y10 x11 H locs ls hf hB (lv_sub hl [2, 3, 4, 1, 0] rfl)
            refine lv_icmp_ne (tgt := 56) hx hb dX7_isWord_49 (by decide) (fun c12 => ?_) (fun c12 => ?_)
            · have hf := (if_neg c12).symm.trans hf
              refine lv_iconst (v := 0) hx hb dX7_isWord_56 (by decide) ?_
              exact hJ57 0 H locs ls hf hB (lv_sub hl [0, 1, 2, 4] rfl)
            · have hf := (if_pos c12).symm.trans hf
              refine lv_iconst (v := 1) hx hb dX7_isWord_52 (by decide) ?_
              refine lv_goto (tgt := 57) hx hb dX7_isWord_53 (by decide) ?_
              exact hJ57 1 H locs ls hf hB (lv_sub hl [0, 1, 2, 4] rfl)
    exact hL20 lpN y1 0 H locs ls hf hB (lv_sub hl [2, 3, 4, 1, 0] rfl)
  refine lv_icmp_ne (tgt := 14) hx hb dX7_isWord_7 (by decide) (fun c13 => ?_) (fun c13 => ?_)
  · have hf := (if_neg c13).symm.trans hf
    refine lv_iconst (v := 0) hx hb dX7_isWord_14 (by decide) ?_
    exact hJ15 0 H locs ls hf hB (lv_sub hl [0, 1, 2] rfl)
  · have hf := (if_pos c13).symm.trans hf
    refine lv_iconst (v := 1) hx hb dX7_isWord_10 (by decide) ?_
    refine lv_goto (tgt := 15) hx hb dX7_isWord_11 (by decide) ?_
    exact hJ15 1 H locs ls hf hB (lv_sub hl [0, 1, 2] rfl)
theorem yv_X7_isWord : bYv yX7_isWord RX7 cX7_isWord 6 (some .boolean) 3 := ⟨⟨rfl, by decide, by decide, rfl⟩, wm_477, wp_2, wm_9, wm_478⟩

theorem dX7_wordKind_0 : decode cX7_wordKind 0 = .ok (.iconst 5, 1) := by decide +kernel
theorem dX7_wordKind_1 : decode cX7_wordKind 1 = .ok (.istore_n 3, 1) := by decide +kernel
theorem dX7_wordKind_2 : decode cX7_wordKind 2 = .ok (.iload_n 3, 1) := by decide +kernel
theorem dX7_wordKind_3 : decode cX7_wordKind 3 = .ok (.bipush 17, 2) := by decide +kernel
theorem dX7_wordKind_5 : decode cX7_wordKind 5 = .ok (.if_icmp .gt 24, 3) := by decide +kernel
theorem dX7_wordKind_8 : decode cX7_wordKind 8 = .ok (.aload_n 0, 1) := by decide +kernel
theorem dX7_wordKind_9 : decode cX7_wordKind 9 = .ok (.iload_n 3, 1) := by decide +kernel
theorem dX7_wordKind_10 : decode cX7_wordKind 10 = .ok (.invokestatic 61, 3) := by decide +kernel
theorem dX7_wordKind_13 : decode cX7_wordKind 13 = .ok (.iload_n 1, 1) := by decide +kernel
theorem dX7_wordKind_14 : decode cX7_wordKind 14 = .ok (.iload_n 2, 1) := by decide +kernel
theorem dX7_wordKind_15 : decode cX7_wordKind 15 = .ok (.invokevirtual 65, 3) := by decide +kernel
theorem dX7_wordKind_18 : decode cX7_wordKind 18 = .ok (.ifCond .eq 5, 3) := by decide +kernel
theorem dX7_wordKind_21 : decode cX7_wordKind 21 = .ok (.iload_n 3, 1) := by decide +kernel
theorem dX7_wordKind_22 : decode cX7_wordKind 22 = .ok (.ireturn, 1) := by decide +kernel
theorem dX7_wordKind_23 : decode cX7_wordKind 23 = .ok (.iinc 3 1, 3) := by decide +kernel
theorem dX7_wordKind_26 : decode cX7_wordKind 26 = .ok (.goto (-24), 3) := by decide +kernel
theorem dX7_wordKind_29 : decode cX7_wordKind 29 = .ok (.iconst 4, 1) := by decide +kernel
theorem dX7_wordKind_30 : decode cX7_wordKind 30 = .ok (.ireturn, 1) := by decide +kernel
def fX7_wordKind_L2 (p1 : Int32) (p2 : Int32) (v : bM) (k2 : Int32 → Option Int32) (y1 : Int32) : Option Int32 :=
  (if 17 < y1 then (some (4)) else (bnr (fX7_wordOf y1) fun r4 => bnr (fX7_isWord r4 p1 p2 v) fun r6 => (if r6 = 0 then (nm (y1 + 1) fun x8 => k2 x8) else (some (y1)))))
def fX7_wordKind (p1 : Int32) (p2 : Int32) (v : bM) : Option Int32 :=
  lp (fX7_wordKind_L2 p1 p2 v) (fun _ => none) lpN 5
set_option maxRecDepth 100000 in
set_option maxHeartbeats 4000000 in
theorem mX7_wordKind {l : Launch} {p1 : Int32} {p2 : Int32} {v : bM} {r0 : Int32} (hf : fX7_wordKind p1 p2 v = some r0) : bMet l yX7_wordKind cX7_wordKind 4 (some .int) 5 0 0 LTx (fun E a => [.ref a, .int p1, .int p2]) v v (fun _ => some (.int r0)) := by
  refine bk_start (by decide +kernel) wfTx (fun _ _ => Nat.le_of_ble_eq_true rfl) ?_
  intro p e s m args below meth c D E a ls H locs X hr hl hB
  have hx := X.1
  have hb := X.2.1
  have hown := X.2.2.2.1
  have hts := X.2.2.2.2.1
  have hl : lv_has ls 4 [(0, .ref a), (1, .int p1), (2, .int p2)] := hl
  have hf := (fX7_wordKind.eq_1 p1 p2 v).symm.trans hf
  refine lv_iconst (v := 5) hx hb dX7_wordKind_0 (by decide) ?_
  refine lv_istore_n (lv' := [(3, .int 5), (0, .ref a), (1, .int p1), (2, .int p2)]) hx hb dX7_wordKind_1 rfl hl (by decide) rfl (fun ls hl => ?_)
  have hL2 : ∀ (n2 : Nat) (y1 : Int32) (H : Heap) (locs : List Loc) (ls : Array Slot), lp (fX7_wordKind_L2 p1 p2 v) (fun _ => none) n2 y1 = some r0 → bB D E LTx a v s H locs → lv_has ls 4 [(0, .ref a), (1, .int p1), (2, .int p2), (3, .int y1)] → W p l e (rmOf 5 0 0) s m args below meth c H locs 0 0 (bQ below D E LTx a v (some (.int r0)) args s 0 0) (F0 m 2 ls []) := by
    intro n2
    induction n2 with
    | zero => intro y1 H locs ls hf; cases (show (none : Option Int32) = some r0 from hf)
    | succ n2 ih2 =>
      intro y1 H locs ls hf hB hl
      have hf := (fX7_wordKind_L2.eq_1 p1 p2 v (lp (fX7_wordKind_L2 p1 p2 v) (fun _ => none) n2) y1).symm.trans (show fX7_wordKind_L2 p1 p2 v (lp (fX7_wordKind_L2 p1 p2 v) (fun _ => none) n2) y1 = some r0 from hf)
      refine lv_iload_n hx hb dX7_wordKind_2 rfl (lv_at hl 3 rfl) ?_
      refine lv_bipush (v := 17) hx hb dX7_wordKind_3 (by decide) ?_
      refine lv_icmp_gt (tgt := 29) hx hb dX7_wordKind_5 (by decide) (fun c2 => ?_) (fun c2 => ?_)
      · have hf := (if_pos c2).symm.trans hf
        refine lv_iconst (v := 4) hx hb dX7_wordKind_29 (by decide) ?_
        exact bk_iR X hr rfl hf hB (Nat.le_of_ble_eq_true rfl) (Nat.le_of_ble_eq_true rfl) dX7_wordKind_30
      · have hf := (if_neg c2).symm.trans hf
        refine lv_aload_n hx hb dX7_wordKind_8 rfl (lv_at hl 0 rfl) ?_
        refine lv_iload_n hx hb dX7_wordKind_9 rfl (lv_at hl 3 rfl) ?_
        obtain ⟨r4, hc3, hf⟩ := bnr_some hf
        refine bk_non (v0 := v) (w0 := v) hB (fun h1 h2 h3 => bk_runS X (Av := [.int y1]) (rest := [.ref a]) (mX7_wordOf hc3) ys_X7_wordOf wm_458 ⟨Nat.le_of_ble_eq_true rfl, Nat.le_of_ble_eq_true rfl⟩ rfl rfl hl.1 h1 h2 h3 (Nat.le_of_ble_eq_true rfl) ⟨Nat.le_of_ble_eq_true rfl, Nat.le_of_ble_eq_true rfl⟩ dX7_wordKind_10) (fun H locs hB => ?_)
        refine W.eq (g2 := F0 m 13 ls [.ref (E.1.2 r4), .ref a]) rfl ?_
        refine lv_iload_n hx hb dX7_wordKind_13 rfl (lv_at hl 1 rfl) ?_
        refine lv_iload_n hx hb dX7_wordKind_14 rfl (lv_at hl 2 rfl) ?_
        obtain ⟨r6, hc5, hf⟩ := bnr_some hf
        refine bk_all hB (fun h1 h2 h3 => bk_runV X (Av := [.ref (E.1.2 r4), .int p1, .int p2]) (rest := []) (mX7_isWord hc5) yv_X7_isWord wm_475 ⟨Nat.le_of_ble_eq_true rfl, Nat.le_of_ble_eq_true rfl⟩ rfl rfl hl.1 kl_X7.1 (hB.1.obj lc_Tx_0) h1 h2 h3 (Nat.le_of_ble_eq_true rfl) ⟨Nat.le_of_ble_eq_true rfl, Nat.le_of_ble_eq_true rfl⟩ dX7_wordKind_15) (fun H locs hB => ?_)
        refine W.eq (g2 := F0 m 18 ls [.int r6]) rfl ?_
        refine lv_if_eq (tgt := 23) hx hb dX7_wordKind_18 (by decide) (fun c7 => ?_) (fun c7 => ?_)
        · have hf := (if_pos c7).symm.trans hf
          obtain ⟨x8, ex8⟩ : ∃ y : Int32, y = y1 + 1 := ⟨_, rfl⟩
          have hf := nm_use hf ex8
          refine lv_iinc (v := x8) (lv' := [(3, .int x8), (0, .ref a), (1, .int p1), (2, .int p2)]) hx hb dX7_wordKind_23 hl (k := 3) rfl (by rw [ex8]; rfl) (by decide) rfl (fun ls hl => ?_)
          refine lv_goto (tgt := 2) hx hb dX7_wordKind_26 (by decide) ?_
          exact ih2 x8 H locs ls hf hB (lv_sub hl [1, 2, 3, 0] rfl)
        · have hf := (if_neg c7).symm.trans hf
          refine lv_iload_n hx hb dX7_wordKind_21 rfl (lv_at hl 3 rfl) ?_
          exact bk_iR X hr rfl hf hB (Nat.le_of_ble_eq_true rfl) (Nat.le_of_ble_eq_true rfl) dX7_wordKind_22
  exact hL2 lpN 5 H locs ls hf hB (lv_sub hl [1, 2, 3, 0] rfl)
theorem yv_X7_wordKind : bYv yX7_wordKind RX7 cX7_wordKind 4 (some .int) 2 := ⟨⟨rfl, by decide, by decide, rfl⟩, wm_456, wp_1, wm_9, wm_457⟩

theorem dX7_isDigit_0 : decode cX7_isDigit 0 = .ok (.iload_n 0, 1) := by decide +kernel
theorem dX7_isDigit_1 : decode cX7_isDigit 1 = .ok (.bipush 48, 2) := by decide +kernel
theorem dX7_isDigit_3 : decode cX7_isDigit 3 = .ok (.if_icmp .lt 13, 3) := by decide +kernel
theorem dX7_isDigit_6 : decode cX7_isDigit 6 = .ok (.iload_n 0, 1) := by decide +kernel
theorem dX7_isDigit_7 : decode cX7_isDigit 7 = .ok (.bipush 57, 2) := by decide +kernel
theorem dX7_isDigit_9 : decode cX7_isDigit 9 = .ok (.if_icmp .gt 7, 3) := by decide +kernel
theorem dX7_isDigit_12 : decode cX7_isDigit 12 = .ok (.iconst 1, 1) := by decide +kernel
theorem dX7_isDigit_13 : decode cX7_isDigit 13 = .ok (.goto 4, 3) := by decide +kernel
theorem dX7_isDigit_16 : decode cX7_isDigit 16 = .ok (.iconst 0, 1) := by decide +kernel
theorem dX7_isDigit_17 : decode cX7_isDigit 17 = .ok (.ireturn, 1) := by decide +kernel
def fX7_isDigit (p0 : Int32) : Option Int32 :=
  (if p0 < 48 then (some (0)) else ((if 57 < p0 then (some (0)) else (some (1)))))
set_option maxRecDepth 100000 in
set_option maxHeartbeats 4000000 in
theorem mX7_isDigit {l : Launch} {p0 : Int32} {v : bM} {r0 : Int32} (hf : fX7_isDigit p0 = some r0) : bMet l yX7_isDigit cX7_isDigit 1 (some .boolean) 0 0 0 [] (fun E a => [.int p0]) v v (fun _ => some (.int r0)) := by
  refine bk_start (by decide +kernel) bWf_nil (fun _ _ => Nat.le_of_ble_eq_true rfl) ?_
  intro p e s m args below meth c D E a ls H locs X hr hl hB
  have hx := X.1
  have hb := X.2.1
  have hown := X.2.2.2.1
  have hts := X.2.2.2.2.1
  have hl : lv_has ls 1 [(0, .int p0)] := hl
  have hf := (fX7_isDigit.eq_1 p0).symm.trans hf
  refine lv_iload_n hx hb dX7_isDigit_0 rfl (lv_at hl 0 rfl) ?_
  refine lv_bipush (v := 48) hx hb dX7_isDigit_1 (by decide) ?_
  refine lv_icmp_lt (tgt := 16) hx hb dX7_isDigit_3 (by decide) (fun c1 => ?_) (fun c1 => ?_)
  · have hf := (if_pos c1).symm.trans hf
    refine lv_iconst (v := 0) hx hb dX7_isDigit_16 (by decide) ?_
    exact bk_zR X hr rfl rfl hf hB (Nat.le_of_ble_eq_true rfl) (Nat.le_of_ble_eq_true rfl) dX7_isDigit_17
  · have hf := (if_neg c1).symm.trans hf
    refine lv_iload_n hx hb dX7_isDigit_6 rfl (lv_at hl 0 rfl) ?_
    refine lv_bipush (v := 57) hx hb dX7_isDigit_7 (by decide) ?_
    refine lv_icmp_gt (tgt := 16) hx hb dX7_isDigit_9 (by decide) (fun c2 => ?_) (fun c2 => ?_)
    · have hf := (if_pos c2).symm.trans hf
      refine lv_iconst (v := 0) hx hb dX7_isDigit_16 (by decide) ?_
      exact bk_zR X hr rfl rfl hf hB (Nat.le_of_ble_eq_true rfl) (Nat.le_of_ble_eq_true rfl) dX7_isDigit_17
    · have hf := (if_neg c2).symm.trans hf
      refine lv_iconst (v := 1) hx hb dX7_isDigit_12 (by decide) ?_
      refine lv_goto (tgt := 17) hx hb dX7_isDigit_13 (by decide) ?_
      exact bk_zR X hr rfl rfl hf hB (Nat.le_of_ble_eq_true rfl) (Nat.le_of_ble_eq_true rfl) dX7_isDigit_17
theorem ys_X7_isDigit : bYs yX7_isDigit RX7 cX7_isDigit 1 (some .boolean) 1 := ⟨⟨rfl, by decide, by decide, rfl⟩, wm_482, wm_9, wm_483⟩

theorem dX7_numberOf_0 : decode cX7_numberOf 0 = .ok (.iconst 0, 1) := by decide +kernel
theorem dX7_numberOf_1 : decode cX7_numberOf 1 = .ok (.istore_n 3, 1) := by decide +kernel
theorem dX7_numberOf_2 : decode cX7_numberOf 2 = .ok (.iload_n 1, 1) := by decide +kernel
theorem dX7_numberOf_3 : decode cX7_numberOf 3 = .ok (.istore 4, 2) := by decide +kernel
theorem dX7_numberOf_5 : decode cX7_numberOf 5 = .ok (.iload 4, 2) := by decide +kernel
theorem dX7_numberOf_7 : decode cX7_numberOf 7 = .ok (.iload_n 2, 1) := by decide +kernel
theorem dX7_numberOf_8 : decode cX7_numberOf 8 = .ok (.if_icmp .ge 30, 3) := by decide +kernel
theorem dX7_numberOf_11 : decode cX7_numberOf 11 = .ok (.iload_n 3, 1) := by decide +kernel
theorem dX7_numberOf_12 : decode cX7_numberOf 12 = .ok (.bipush 10, 2) := by decide +kernel
theorem dX7_numberOf_14 : decode cX7_numberOf 14 = .ok (.imul, 1) := by decide +kernel
theorem dX7_numberOf_15 : decode cX7_numberOf 15 = .ok (.aload_n 0, 1) := by decide +kernel
theorem dX7_numberOf_16 : decode cX7_numberOf 16 = .ok (.getfield 9, 3) := by decide +kernel
theorem dX7_numberOf_19 : decode cX7_numberOf 19 = .ok (.iload 4, 2) := by decide +kernel
theorem dX7_numberOf_21 : decode cX7_numberOf 21 = .ok (.iaload, 1) := by decide +kernel
theorem dX7_numberOf_22 : decode cX7_numberOf 22 = .ok (.iadd, 1) := by decide +kernel
theorem dX7_numberOf_23 : decode cX7_numberOf 23 = .ok (.bipush 48, 2) := by decide +kernel
theorem dX7_numberOf_25 : decode cX7_numberOf 25 = .ok (.isub, 1) := by decide +kernel
theorem dX7_numberOf_26 : decode cX7_numberOf 26 = .ok (.ldc 55, 2) := by decide +kernel
theorem dX7_numberOf_28 : decode cX7_numberOf 28 = .ok (.invokestatic 56, 3) := by decide +kernel
theorem dX7_numberOf_31 : decode cX7_numberOf 31 = .ok (.istore_n 3, 1) := by decide +kernel
theorem dX7_numberOf_32 : decode cX7_numberOf 32 = .ok (.iinc 4 1, 3) := by decide +kernel
theorem dX7_numberOf_35 : decode cX7_numberOf 35 = .ok (.goto (-30), 3) := by decide +kernel
theorem dX7_numberOf_38 : decode cX7_numberOf 38 = .ok (.iload_n 3, 1) := by decide +kernel
theorem dX7_numberOf_39 : decode cX7_numberOf 39 = .ok (.ireturn, 1) := by decide +kernel
def fX7_numberOf_L5 (p2 : Int32) (v : bM) (k5 : Int32 → Int32 → Option Int32) (y1 : Int32) (y2 : Int32) : Option Int32 :=
  (if p2 ≤ y2 then (some (y1)) else (ck y2 700 <| nm (if 1000000 < (((y1 * 10) + (v (3 + y2.toNatClampNeg))) - 48) then 1000000 else (((y1 * 10) + (v (3 + y2.toNatClampNeg))) - 48)) fun x5 => nm (y2 + 1) fun x6 => k5 x5 x6))
def fX7_numberOf (p1 : Int32) (p2 : Int32) (v : bM) : Option Int32 :=
  lp (fX7_numberOf_L5 p2 v) (fun _ _ => none) lpN 0 p1
set_option maxRecDepth 100000 in
set_option maxHeartbeats 4000000 in
theorem mX7_numberOf {l : Launch} {p1 : Int32} {p2 : Int32} {v : bM} {r0 : Int32} (hf : fX7_numberOf p1 p2 v = some r0) : bMet l yX7_numberOf cX7_numberOf 5 (some .int) 1 0 0 LTx (fun E a => [.ref a, .int p1, .int p2]) v v (fun _ => some (.int r0)) := by
  refine bk_start (by decide +kernel) wfTx (fun _ _ => Nat.le_of_ble_eq_true rfl) ?_
  intro p e s m args below meth c D E a ls H locs X hr hl hB
  have hx := X.1
  have hb := X.2.1
  have hown := X.2.2.2.1
  have hts := X.2.2.2.2.1
  have hl : lv_has ls 5 [(0, .ref a), (1, .int p1), (2, .int p2)] := hl
  have hf := (fX7_numberOf.eq_1 p1 p2 v).symm.trans hf
  refine lv_iconst (v := 0) hx hb dX7_numberOf_0 (by decide) ?_
  refine lv_istore_n (lv' := [(3, .int 0), (0, .ref a), (1, .int p1), (2, .int p2)]) hx hb dX7_numberOf_1 rfl hl (by decide) rfl (fun ls hl => ?_)
  refine lv_iload_n hx hb dX7_numberOf_2 rfl (lv_at hl 2 rfl) ?_
  refine lv_istore (lv' := [(4, .int p1), (3, .int 0), (0, .ref a), (1, .int p1), (2, .int p2)]) hx hb dX7_numberOf_3 hl (by decide) rfl (fun ls hl => ?_)
  have hL5 : ∀ (n5 : Nat) (y1 y2 : Int32) (H : Heap) (locs : List Loc) (ls : Array Slot), lp (fX7_numberOf_L5 p2 v) (fun _ _ => none) n5 y1 y2 = some r0 → bB D E LTx a v s H locs → lv_has ls 5 [(0, .ref a), (2, .int p2), (3, .int y1), (4, .int y2)] → W p l e (rmOf 1 0 0) s m args below meth c H locs 0 0 (bQ below D E LTx a v (some (.int r0)) args s 0 0) (F0 m 5 ls []) := by
    intro n5
    induction n5 with
    | zero => intro y1 y2 H locs ls hf; cases (show (none : Option Int32) = some r0 from hf)
    | succ n5 ih5 =>
      intro y1 y2 H locs ls hf hB hl
      have hf := (fX7_numberOf_L5.eq_1 p2 v (lp (fX7_numberOf_L5 p2 v) (fun _ _ => none) n5) y1 y2).symm.trans (show fX7_numberOf_L5 p2 v (lp (fX7_numberOf_L5 p2 v) (fun _ _ => none) n5) y1 y2 = some r0 from hf)
      refine lv_iload hx hb dX7_numberOf_5 (lv_at hl 3 rfl) ?_
      refine lv_iload_n hx hb dX7_numberOf_7 rfl (lv_at hl 1 rfl) ?_
      refine lv_icmp_ge (tgt := 38) hx hb dX7_numberOf_8 (by decide) (fun c3 => ?_) (fun c3 => ?_)
      · have hf := (if_pos c3).symm.trans hf
        refine lv_iload_n hx hb dX7_numberOf_38 rfl (lv_at hl 2 rfl) ?_
        exact bk_iR X hr rfl hf hB (Nat.le_of_ble_eq_true rfl) (Nat.le_of_ble_eq_true rfl) dX7_numberOf_39
      · have hf := (if_neg c3).symm.trans hf
        refine lv_iload_n hx hb dX7_numberOf_11 rfl (lv_at hl 2 rfl) ?_
        refine lv_bipush (v := 10) hx hb dX7_numberOf_12 (by decide) ?_
        refine lv_imul hx hb dX7_numberOf_14 ?_
        refine lv_aload_n hx hb dX7_numberOf_15 rfl (lv_at hl 0 rfl) ?_
        refine bk_getR X hB kl_X7 0 lc_Tx_0 3 (by decide) rfl wm_299 dX7_numberOf_16 ?_
        refine lv_iload hx hb dX7_numberOf_19 (lv_at hl 3 rfl) ?_
        obtain ⟨h4, hf⟩ := ck_some hf
        refine bk_ald X hB 1 lc_Tx_1 h4 dX7_numberOf_21 ?_
        refine lv_iadd hx hb dX7_numberOf_22 ?_
        refine lv_bipush (v := 48) hx hb dX7_numberOf_23 (by decide) ?_
        refine lv_isub hx hb dX7_numberOf_25 ?_
        refine lv_ldc hx hb hown (hts _ wm_488) dX7_numberOf_26 ?_
        refine bk_min X hl.1 wm_489 ⟨Nat.le_of_ble_eq_true rfl, Nat.le_of_ble_eq_true rfl⟩ ⟨Nat.le_of_ble_eq_true rfl, Nat.le_of_ble_eq_true rfl⟩ dX7_numberOf_28 ?_
        refine lv_topi (fun x5 ex5 => ?_)
        have hf := nm_use hf ex5
        refine lv_istore_n (lv' := [(3, .int x5), (0, .ref a), (2, .int p2), (4, .int y2)]) hx hb dX7_numberOf_31 rfl hl (by decide) rfl (fun ls hl => ?_)
        obtain ⟨x6, ex6⟩ : ∃ y : Int32, y = y2 + 1 := ⟨_, rfl⟩
        have hf := nm_use hf ex6
        refine lv_iinc (v := x6) (lv' := [(4, .int x6), (3, .int x5), (0, .ref a), (2, .int p2)]) hx hb dX7_numberOf_32 hl (k := 3) rfl (by rw [ex6]; rfl) (by decide) rfl (fun ls hl => ?_)
        refine lv_goto (tgt := 5) hx hb dX7_numberOf_35 (by decide) ?_
        exact ih5 x5 x6 H locs ls hf hB (lv_sub hl [2, 3, 1, 0] rfl)
  exact hL5 lpN 0 p1 H locs ls hf hB (lv_sub hl [2, 4, 1, 0] rfl)
theorem yv_X7_numberOf : bYv yX7_numberOf RX7 cX7_numberOf 5 (some .int) 2 := ⟨⟨rfl, by decide, by decide, rfl⟩, wm_486, wp_3, wm_9, wm_487⟩

theorem dX7_readToken_0 : decode cX7_readToken 0 = .ok (.aload_n 0, 1) := by decide +kernel
theorem dX7_readToken_1 : decode cX7_readToken 1 = .ok (.getfield 9, 3) := by decide +kernel
theorem dX7_readToken_4 : decode cX7_readToken 4 = .ok (.iload_n 1, 1) := by decide +kernel
theorem dX7_readToken_5 : decode cX7_readToken 5 = .ok (.iaload, 1) := by decide +kernel
theorem dX7_readToken_6 : decode cX7_readToken 6 = .ok (.istore_n 2, 1) := by decide +kernel
theorem dX7_readToken_7 : decode cX7_readToken 7 = .ok (.iload_n 1, 1) := by decide +kernel
theorem dX7_readToken_8 : decode cX7_readToken 8 = .ok (.iconst 1, 1) := by decide +kernel
theorem dX7_readToken_9 : decode cX7_readToken 9 = .ok (.iadd, 1) := by decide +kernel
theorem dX7_readToken_10 : decode cX7_readToken 10 = .ok (.istore_n 3, 1) := by decide +kernel
theorem dX7_readToken_11 : decode cX7_readToken 11 = .ok (.iload_n 2, 1) := by decide +kernel
theorem dX7_readToken_12 : decode cX7_readToken 12 = .ok (.invokestatic 42, 3) := by decide +kernel
theorem dX7_readToken_15 : decode cX7_readToken 15 = .ok (.ifCond .eq 47, 3) := by decide +kernel
theorem dX7_readToken_18 : decode cX7_readToken 18 = .ok (.iload_n 3, 1) := by decide +kernel
theorem dX7_readToken_19 : decode cX7_readToken 19 = .ok (.aload_n 0, 1) := by decide +kernel
theorem dX7_readToken_20 : decode cX7_readToken 20 = .ok (.getfield 24, 3) := by decide +kernel
theorem dX7_readToken_23 : decode cX7_readToken 23 = .ok (.if_icmp .ge 21, 3) := by decide +kernel
theorem dX7_readToken_26 : decode cX7_readToken 26 = .ok (.aload_n 0, 1) := by decide +kernel
theorem dX7_readToken_27 : decode cX7_readToken 27 = .ok (.getfield 9, 3) := by decide +kernel
theorem dX7_readToken_30 : decode cX7_readToken 30 = .ok (.iload_n 3, 1) := by decide +kernel
theorem dX7_readToken_31 : decode cX7_readToken 31 = .ok (.iaload, 1) := by decide +kernel
theorem dX7_readToken_32 : decode cX7_readToken 32 = .ok (.invokestatic 42, 3) := by decide +kernel
theorem dX7_readToken_35 : decode cX7_readToken 35 = .ok (.ifCond .eq 9, 3) := by decide +kernel
theorem dX7_readToken_38 : decode cX7_readToken 38 = .ok (.iinc 3 1, 3) := by decide +kernel
theorem dX7_readToken_41 : decode cX7_readToken 41 = .ok (.goto (-23), 3) := by decide +kernel
theorem dX7_readToken_44 : decode cX7_readToken 44 = .ok (.aload_n 0, 1) := by decide +kernel
theorem dX7_readToken_45 : decode cX7_readToken 45 = .ok (.getfield 15, 3) := by decide +kernel
theorem dX7_readToken_48 : decode cX7_readToken 48 = .ok (.aload_n 0, 1) := by decide +kernel
theorem dX7_readToken_49 : decode cX7_readToken 49 = .ok (.getfield 31, 3) := by decide +kernel
theorem dX7_readToken_52 : decode cX7_readToken 52 = .ok (.aload_n 0, 1) := by decide +kernel
theorem dX7_readToken_53 : decode cX7_readToken 53 = .ok (.iload_n 1, 1) := by decide +kernel
theorem dX7_readToken_54 : decode cX7_readToken 54 = .ok (.iload_n 3, 1) := by decide +kernel
theorem dX7_readToken_55 : decode cX7_readToken 55 = .ok (.invokevirtual 45, 3) := by decide +kernel
theorem dX7_readToken_58 : decode cX7_readToken 58 = .ok (.iastore, 1) := by decide +kernel
theorem dX7_readToken_59 : decode cX7_readToken 59 = .ok (.goto 84, 3) := by decide +kernel
theorem dX7_readToken_62 : decode cX7_readToken 62 = .ok (.iload_n 2, 1) := by decide +kernel
theorem dX7_readToken_63 : decode cX7_readToken 63 = .ok (.invokestatic 49, 3) := by decide +kernel
theorem dX7_readToken_66 : decode cX7_readToken 66 = .ok (.ifCond .eq 57, 3) := by decide +kernel
theorem dX7_readToken_69 : decode cX7_readToken 69 = .ok (.iload_n 3, 1) := by decide +kernel
theorem dX7_readToken_70 : decode cX7_readToken 70 = .ok (.aload_n 0, 1) := by decide +kernel
theorem dX7_readToken_71 : decode cX7_readToken 71 = .ok (.getfield 24, 3) := by decide +kernel
theorem dX7_readToken_74 : decode cX7_readToken 74 = .ok (.if_icmp .ge 21, 3) := by decide +kernel
theorem dX7_readToken_77 : decode cX7_readToken 77 = .ok (.aload_n 0, 1) := by decide +kernel
theorem dX7_readToken_78 : decode cX7_readToken 78 = .ok (.getfield 9, 3) := by decide +kernel
theorem dX7_readToken_81 : decode cX7_readToken 81 = .ok (.iload_n 3, 1) := by decide +kernel
theorem dX7_readToken_82 : decode cX7_readToken 82 = .ok (.iaload, 1) := by decide +kernel
theorem dX7_readToken_83 : decode cX7_readToken 83 = .ok (.invokestatic 49, 3) := by decide +kernel
theorem dX7_readToken_86 : decode cX7_readToken 86 = .ok (.ifCond .eq 9, 3) := by decide +kernel
theorem dX7_readToken_89 : decode cX7_readToken 89 = .ok (.iinc 3 1, 3) := by decide +kernel
theorem dX7_readToken_92 : decode cX7_readToken 92 = .ok (.goto (-23), 3) := by decide +kernel
theorem dX7_readToken_95 : decode cX7_readToken 95 = .ok (.aload_n 0, 1) := by decide +kernel
theorem dX7_readToken_96 : decode cX7_readToken 96 = .ok (.getfield 15, 3) := by decide +kernel
theorem dX7_readToken_99 : decode cX7_readToken 99 = .ok (.aload_n 0, 1) := by decide +kernel
theorem dX7_readToken_100 : decode cX7_readToken 100 = .ok (.getfield 31, 3) := by decide +kernel
theorem dX7_readToken_103 : decode cX7_readToken 103 = .ok (.iconst 2, 1) := by decide +kernel
theorem dX7_readToken_104 : decode cX7_readToken 104 = .ok (.iastore, 1) := by decide +kernel
theorem dX7_readToken_105 : decode cX7_readToken 105 = .ok (.aload_n 0, 1) := by decide +kernel
theorem dX7_readToken_106 : decode cX7_readToken 106 = .ok (.getfield 21, 3) := by decide +kernel
theorem dX7_readToken_109 : decode cX7_readToken 109 = .ok (.aload_n 0, 1) := by decide +kernel
theorem dX7_readToken_110 : decode cX7_readToken 110 = .ok (.getfield 31, 3) := by decide +kernel
theorem dX7_readToken_113 : decode cX7_readToken 113 = .ok (.aload_n 0, 1) := by decide +kernel
theorem dX7_readToken_114 : decode cX7_readToken 114 = .ok (.iload_n 1, 1) := by decide +kernel
theorem dX7_readToken_115 : decode cX7_readToken 115 = .ok (.iload_n 3, 1) := by decide +kernel
theorem dX7_readToken_116 : decode cX7_readToken 116 = .ok (.invokevirtual 52, 3) := by decide +kernel
theorem dX7_readToken_119 : decode cX7_readToken 119 = .ok (.iastore, 1) := by decide +kernel
theorem dX7_readToken_120 : decode cX7_readToken 120 = .ok (.goto 23, 3) := by decide +kernel
theorem dX7_readToken_123 : decode cX7_readToken 123 = .ok (.aload_n 0, 1) := by decide +kernel
theorem dX7_readToken_124 : decode cX7_readToken 124 = .ok (.getfield 15, 3) := by decide +kernel
theorem dX7_readToken_127 : decode cX7_readToken 127 = .ok (.aload_n 0, 1) := by decide +kernel
theorem dX7_readToken_128 : decode cX7_readToken 128 = .ok (.getfield 31, 3) := by decide +kernel
theorem dX7_readToken_131 : decode cX7_readToken 131 = .ok (.iload_n 2, 1) := by decide +kernel
theorem dX7_readToken_132 : decode cX7_readToken 132 = .ok (.bipush 59, 2) := by decide +kernel
theorem dX7_readToken_134 : decode cX7_readToken 134 = .ok (.if_icmp .ne 7, 3) := by decide +kernel
theorem dX7_readToken_137 : decode cX7_readToken 137 = .ok (.iconst 1, 1) := by decide +kernel
theorem dX7_readToken_138 : decode cX7_readToken 138 = .ok (.goto 4, 3) := by decide +kernel
theorem dX7_readToken_141 : decode cX7_readToken 141 = .ok (.iconst 3, 1) := by decide +kernel
theorem dX7_readToken_142 : decode cX7_readToken 142 = .ok (.iastore, 1) := by decide +kernel
theorem dX7_readToken_143 : decode cX7_readToken 143 = .ok (.iload_n 3, 1) := by decide +kernel
theorem dX7_readToken_144 : decode cX7_readToken 144 = .ok (.ireturn, 1) := by decide +kernel
def fX7_readToken_J44 (p1 : Int32) (y6 : Int32)  (v8 : bM) : Option (Int32 × bM) :=
  bnr (fX7_wordKind p1 y6 v8) fun r10 => ck (v8 1) 701 <| nm (upd v8 (703 + (v8 1).toNatClampNeg) r10) fun v12 => some (y6, v12)
def fX7_readToken_L18 (p1 : Int32) (k18 : Int32 → bM → Option (Int32 × bM)) (y6 : Int32) (v7 : bM) : Option (Int32 × bM) :=
  (if (v7 0) ≤ y6 then (fX7_readToken_J44 p1 y6 v7) else (ck y6 700 <| bnr (fX7_isLetter (v7 (3 + y6.toNatClampNeg))) fun r16 => (if r16 = 0 then (fX7_readToken_J44 p1 y6 v7) else (nm (y6 + 1) fun x18 => k18 x18 v7))))
def fX7_readToken_J95 (p1 : Int32) (y22 : Int32)  (v24 : bM) : Option (Int32 × bM) :=
  ck (v24 1) 701 <| nm (upd v24 (703 + (v24 1).toNatClampNeg) 2) fun v26 => bnr (fX7_numberOf p1 y22 v26) fun r28 => ck (v26 1) 701 <| nm (upd v26 (2105 + (v26 1).toNatClampNeg) r28) fun v30 => some (y22, v30)
def fX7_readToken_L69 (p1 : Int32) (k69 : Int32 → bM → Option (Int32 × bM)) (y22 : Int32) (v23 : bM) : Option (Int32 × bM) :=
  (if (v23 0) ≤ y22 then (fX7_readToken_J95 p1 y22 v23) else (ck y22 700 <| bnr (fX7_isDigit (v23 (3 + y22.toNatClampNeg))) fun r34 => (if r34 = 0 then (fX7_readToken_J95 p1 y22 v23) else (nm (y22 + 1) fun x36 => k69 x36 v23))))
def fX7_readToken_J142 (v : bM) (x3 : Int32) (y38 : Int32) (v39 : bM) : Option (Int32 × bM) :=
  ck (v 1) 701 <| nm (upd v39 (703 + (v 1).toNatClampNeg) y38) fun v41 => some (x3, v41)
def fX7_readToken (p1 : Int32) (v : bM) : Option (Int32 × bM) :=
  ck p1 700 <| nm (v (3 + p1.toNatClampNeg)) fun x2 => nm (p1 + 1) fun x3 => bnr (fX7_isLetter x2) fun r5 => (if r5 = 0 then (bnr (fX7_isDigit x2) fun r21 => (if r21 = 0 then ((if x2 = 59 then (fX7_readToken_J142 v x3 1 v) else (fX7_readToken_J142 v x3 3 v))) else (lp (fX7_readToken_L69 p1) (fun _ _ => none) lpN x3 v))) else (lp (fX7_readToken_L18 p1) (fun _ _ => none) lpN x3 v))
set_option maxRecDepth 100000 in
set_option maxHeartbeats 4000000 in
theorem mX7_readToken {l : Launch} {p1 : Int32} {v : bM} {r0 : Int32} {w0 : bM} (hf : fX7_readToken p1 v = some (r0, w0)) : bMet l yX7_readToken cX7_readToken 4 (some .int) 6 0 0 LTx (fun E a => [.ref a, .int p1]) v w0 (fun _ => some (.int r0)) := by
  refine bk_start (by decide +kernel) wfTx (fun _ _ => Nat.le_of_ble_eq_true rfl) ?_
  intro p e s m args below meth c D E a ls H locs X hr hl hB
  have hx := X.1
  have hb := X.2.1
  have hown := X.2.2.2.1
  have hts := X.2.2.2.2.1
  have hl : lv_has ls 4 [(0, .ref a), (1, .int p1)] := hl
  have hf := (fX7_readToken.eq_1 p1 v).symm.trans hf
  refine lv_aload_n hx hb dX7_readToken_0 rfl (lv_at hl 0 rfl) ?_
  refine bk_getR X hB kl_X7 0 lc_Tx_0 3 (by decide) rfl wm_299 dX7_readToken_1 ?_
  refine lv_iload_n hx hb dX7_readToken_4 rfl (lv_at hl 1 rfl) ?_
  obtain ⟨h1, hf⟩ := ck_some hf
  refine bk_ald X hB 1 lc_Tx_1 h1 dX7_readToken_5 ?_
  refine lv_topi (fun x2 ex2 => ?_)
  have hf := nm_use hf ex2
  refine lv_istore_n (lv' := [(2, .int x2), (0, .ref a), (1, .int p1)]) hx hb dX7_readToken_6 rfl hl (by decide) rfl (fun ls hl => ?_)
  refine lv_iload_n hx hb dX7_readToken_7 rfl (lv_at hl 2 rfl) ?_
  refine lv_iconst (v := 1) hx hb dX7_readToken_8 (by decide) ?_
  refine lv_iadd hx hb dX7_readToken_9 ?_
  refine lv_topi (fun x3 ex3 => ?_)
  have hf := nm_use hf ex3
  refine lv_istore_n (lv' := [(3, .int x3), (2, .int x2), (0, .ref a), (1, .int p1)]) hx hb dX7_readToken_10 rfl hl (by decide) rfl (fun ls hl => ?_)
  refine lv_iload_n hx hb dX7_readToken_11 rfl (lv_at hl 1 rfl) ?_
  obtain ⟨r5, hc4, hf⟩ := bnr_some hf
  refine bk_non (v0 := v) (w0 := v) hB (fun h1 h2 h3 => bk_runS X (Av := [.int x2]) (rest := []) (mX7_isLetter hc4) ys_X7_isLetter wm_451 ⟨Nat.le_of_ble_eq_true rfl, Nat.le_of_ble_eq_true rfl⟩ rfl rfl hl.1 h1 h2 h3 (Nat.le_of_ble_eq_true rfl) ⟨Nat.le_of_ble_eq_true rfl, Nat.le_of_ble_eq_true rfl⟩ dX7_readToken_12) (fun H locs hB => ?_)
  refine W.eq (g2 := F0 m 15 ls [.int r5]) rfl ?_
  have hL18 : ∀ (n18 : Nat) (y6 : Int32) (v7 : bM) (H : Heap) (locs : List Loc) (ls : Array Slot), lp (fX7_readToken_L18 p1) (fun _ _ => none) n18 y6 v7 = some (r0, w0) → bB D E LTx a v7 s H locs → lv_has ls 4 [(0, .ref a), (1, .int p1), (3, .int y6)] → W p l e (rmOf 6 0 0) s m args below meth c H locs 0 0 (bQ below D E LTx a w0 (some (.int r0)) args s 0 0) (F0 m 18 ls []) := by
    intro n18
    induction n18 with
    | zero => intro y6 v7 H locs ls hf; cases (show (none : Option (Int32 × bM)) = some (r0, w0) from hf)
    | succ n18 ih18 =>
      intro y6 v7 H locs ls hf hB hl
      have hf := (fX7_readToken_L18.eq_1 p1 (lp (fX7_readToken_L18 p1) (fun _ _ => none) n18) y6 v7).symm.trans (show fX7_readToken_L18 p1 (lp (fX7_readToken_L18 p1) (fun _ _ => none) n18) y6 v7 = some (r0, w0) from hf)
      refine lv_iload_n hx hb dX7_readToken_18 rfl (lv_at hl 2 rfl) ?_
      refine lv_aload_n hx hb dX7_readToken_19 rfl (lv_at hl 0 rfl) ?_
      refine bk_getI X hB kl_X7 0 lc_Tx_0 0 (by decide) rfl wm_295 dX7_readToken_20 ?_
      have hJ44 : ∀ (v8 : bM) (H : Heap) (locs : List Loc) (ls : Array Slot), fX7_readToken_J44 p1 y6 v8 = some (r0, w0) → bB D E LTx a v8 s H locs → lv_has ls 4 [(0, .ref a), (1, .int p1), (3, .int y6)] → W p l e (rmOf 6 0 0) s m args below meth c H locs 0 0 (bQ below D E LTx a w0 (some (.int r0)) args s 0 0) (F0 m 44 ls []) := by
        intro v8 H locs ls hf hB hl
        have hf := (fX7_readToken_J44.eq_1 p1 y6 v8).symm.trans hf
        refine lv_aload_n hx hb dX7_readToken_44 rfl (lv_at hl 0 rfl) ?_
        refine bk_getR X hB kl_X7 0 lc_Tx_0 4 (by decide) rfl wm_300 dX7_readToken_45 ?_
        refine lv_aload_n hx hb dX7_readToken_48 rfl (lv_at hl 0 rfl) ?_
        refine bk_getI X hB kl_X7 0 lc_Tx_0 1 (by decide) rfl wm_297 dX7_readToken_49 ?_
        refine lv_aload_n hx hb dX7_readToken_52 rfl (lv_at hl 0 rfl) ?_
        refine lv_iload_n hx hb dX7_readToken_53 rfl (lv_at hl 1 rfl) ?_
        refine lv_iload_n hx hb dX7_readToken_54 rfl (lv_at hl 2 rfl) ?_
        obtain ⟨r10, hc9, hf⟩ := bnr_some hf
        refine bk_all hB (fun h1 h2 h3 => bk_runV X (Av := [.int p1, .int y6]) (rest := [.int (v8 1), .ref (a + 2)]) (mX7_wordKind hc9) yv_X7_wordKind wm_454 ⟨Nat.le_of_ble_eq_true rfl, Nat.le_of_ble_eq_true rfl⟩ rfl rfl hl.1 kl_X7.1 (hB.1.obj lc_Tx_0) h1 h2 h3 (Nat.le_of_ble_eq_true rfl) ⟨Nat.le_of_ble_eq_true rfl, Nat.le_of_ble_eq_true rfl⟩ dX7_readToken_55) (fun H locs hB => ?_)
        refine W.eq (g2 := F0 m 58 ls [.int r10, .int (v8 1), .ref (a + 2)]) rfl ?_
        obtain ⟨h11, hf⟩ := ck_some hf
        refine bk_ast X hB 2 lc_Tx_2 h11 dX7_readToken_58 (fun H locs hB => ?_)
        obtain ⟨v12, ev12⟩ : ∃ y : bM, y = upd v8 (703 + (v8 1).toNatClampNeg) r10 := ⟨_, rfl⟩
        have hf := nm_use hf ev12
        rw [← ev12] at hB
        refine lv_goto (tgt := 143) hx hb dX7_readToken_59 (by decide) ?_
        refine lv_iload_n hx hb dX7_readToken_143 rfl (lv_at hl 2 rfl) ?_
        exact bk_iW X hr rfl hf hB (Nat.le_of_ble_eq_true rfl) (Nat.le_of_ble_eq_true rfl) dX7_readToken_144
      refine lv_icmp_ge (tgt := 44) hx hb dX7_readToken_23 (by decide) (fun c13 => ?_) (fun c13 => ?_)
      · have hf := (if_pos c13).symm.trans hf
        exact hJ44 v7 H locs ls hf hB (lv_sub hl [0, 1, 2] rfl)
      · have hf := (if_neg c13).symm.trans hf
        refine lv_aload_n hx hb dX7_readToken_26 rfl (lv_at hl 0 rfl) ?_
        refine bk_getR X hB kl_X7 0 lc_Tx_0 3 (by decide) rfl wm_299 dX7_readToken_27 ?_
        refine lv_iload_n hx hb dX7_readToken_30 rfl (lv_at hl 2 rfl) ?_
        obtain ⟨h14, hf⟩ := ck_some hf
        refine bk_ald X hB 1 lc_Tx_1 h14 dX7_readToken_31 ?_
        obtain ⟨r16, hc15, hf⟩ := bnr_some hf
        refine bk_non (v0 := v7) (w0 := v7) hB (fun h1 h2 h3 => bk_runS X (Av := [.int (v7 (3 + y6.toNatClampNeg))]) (rest := []) (mX7_isLetter hc15) ys_X7_isLetter wm_451 ⟨Nat.le_of_ble_eq_true rfl, Nat.le_of_ble_eq_true rfl⟩ rfl rfl hl.1 h1 h2 h3 (Nat.le_of_ble_eq_true rfl) ⟨Nat.le_of_ble_eq_true rfl, Nat.le_of_ble_eq_true rfl⟩ dX7_readToken_32) (fun H locs hB => ?_)
        refine W.eq (g2 := F0 m 35 ls [.int r16]) rfl ?_
        refine lv_if_eq (tgt := 44) hx hb dX7_readToken_35 (by decide) (fun c17 => ?_) (fun c17 => ?_)
        · have hf := (if_pos c17).symm.trans hf
          exact hJ44 v7 H locs ls hf hB (lv_sub hl [0, 1, 2] rfl)
        · have hf := (if_neg c17).symm.trans hf
          obtain ⟨x18, ex18⟩ : ∃ y : Int32, y = y6 + 1 := ⟨_, rfl⟩
          have hf := nm_use hf ex18
          refine lv_iinc (v := x18) (lv' := [(3, .int x18), (0, .ref a), (1, .int p1)]) hx hb dX7_readToken_38 hl (k := 2) rfl (by rw [ex18]; rfl) (by decide) rfl (fun ls hl => ?_)
          refine lv_goto (tgt := 18) hx hb dX7_readToken_41 (by decide) ?_
          exact ih18 x18 v7 H locs ls hf hB (lv_sub hl [1, 2, 0] rfl)
  refine lv_if_eq (tgt := 62) hx hb dX7_readToken_15 (by decide) (fun c19 => ?_) (fun c19 => ?_)
  · have hf := (if_pos c19).symm.trans hf
    refine lv_iload_n hx hb dX7_readToken_62 rfl (lv_at hl 1 rfl) ?_
    obtain ⟨r21, hc20, hf⟩ := bnr_some hf
    refine bk_non (v0 := v) (w0 := v) hB (fun h1 h2 h3 => bk_runS X (Av := [.int x2]) (rest := []) (mX7_isDigit hc20) ys_X7_isDigit wm_481 ⟨Nat.le_of_ble_eq_true rfl, Nat.le_of_ble_eq_true rfl⟩ rfl rfl hl.1 h1 h2 h3 (Nat.le_of_ble_eq_true rfl) ⟨Nat.le_of_ble_eq_true rfl, Nat.le_of_ble_eq_true rfl⟩ dX7_readToken_63) (fun H locs hB => ?_)
    refine W.eq (g2 := F0 m 66 ls [.int r21]) rfl ?_
    have hL69 : ∀ (n69 : Nat) (y22 : Int32) (v23 : bM) (H : Heap) (locs : List Loc) (ls : Array Slot), lp (fX7_readToken_L69 p1) (fun _ _ => none) n69 y22 v23 = some (r0, w0) → bB D E LTx a v23 s H locs → lv_has ls 4 [(0, .ref a), (1, .int p1), (3, .int y22)] → W p l e (rmOf 6 0 0) s m args below meth c H locs 0 0 (bQ below D E LTx a w0 (some (.int r0)) args s 0 0) (F0 m 69 ls []) := by
      intro n69
      induction n69 with
      | zero => intro y22 v23 H locs ls hf; cases (show (none : Option (Int32 × bM)) = some (r0, w0) from hf)
      | succ n69 ih69 =>
        intro y22 v23 H locs ls hf hB hl
        have hf := (fX7_readToken_L69.eq_1 p1 (lp (fX7_readToken_L69 p1) (fun _ _ => none) n69) y22 v23).symm.trans (show fX7_readToken_L69 p1 (lp (fX7_readToken_L69 p1) (fun _ _ => none) n69) y22 v23 = some (r0, w0) from hf)
        refine lv_iload_n hx hb dX7_readToken_69 rfl (lv_at hl 2 rfl) ?_
        refine lv_aload_n hx hb dX7_readToken_70 rfl (lv_at hl 0 rfl) ?_
        refine bk_getI X hB kl_X7 0 lc_Tx_0 0 (by decide) rfl wm_295 dX7_readToken_71 ?_
        have hJ95 : ∀ (v24 : bM) (H : Heap) (locs : List Loc) (ls : Array Slot), fX7_readToken_J95 p1 y22 v24 = some (r0, w0) → bB D E LTx a v24 s H locs → lv_has ls 4 [(0, .ref a), (1, .int p1), (3, .int y22)] → W p l e (rmOf 6 0 0) s m args below meth c H locs 0 0 (bQ below D E LTx a w0 (some (.int r0)) args s 0 0) (F0 m 95 ls []) := by
          intro v24 H locs ls hf hB hl
          have hf := (fX7_readToken_J95.eq_1 p1 y22 v24).symm.trans hf
          refine lv_aload_n hx hb dX7_readToken_95 rfl (lv_at hl 0 rfl) ?_
          refine bk_getR X hB kl_X7 0 lc_Tx_0 4 (by decide) rfl wm_300 dX7_readToken_96 ?_
          refine lv_aload_n hx hb dX7_readToken_99 rfl (lv_at hl 0 rfl) ?_
          refine bk_getI X hB kl_X7 0 lc_Tx_0 1 (by decide) rfl wm_297 dX7_readToken_100 ?_
          refine lv_iconst (v := 2) hx hb dX7_readToken_103 (by decide) ?_
          obtain ⟨h25, hf⟩ := ck_some hf
          refine bk_ast X hB 2 lc_Tx_2 h25 dX7_readToken_104 (fun H locs hB => ?_)
          obtain ⟨v26, ev26⟩ : ∃ y : bM, y = upd v24 (703 + (v24 1).toNatClampNeg) 2 := ⟨_, rfl⟩
          have hf := nm_use hf ev26
          rw [← ev26] at hB
          refine lv_aload_n hx hb dX7_readToken_105 rfl (lv_at hl 0 rfl) ?_
          refine bk_getR X hB kl_X7 0 lc_Tx_0 6 (by decide) rfl wm_302 dX7_readToken_106 ?_
          refine lv_aload_n hx hb dX7_readToken_109 rfl (lv_at hl 0 rfl) ?_
          refine bk_getI X hB kl_X7 0 lc_Tx_0 1 (by decide) rfl wm_297 dX7_readToken_110 ?_
          refine lv_aload_n hx hb dX7_readToken_113 rfl (lv_at hl 0 rfl) ?_
          refine lv_iload_n hx hb dX7_readToken_114 rfl (lv_at hl 1 rfl) ?_
          refine lv_iload_n hx hb dX7_readToken_115 rfl (lv_at hl 2 rfl) ?_
          obtain ⟨r28, hc27, hf⟩ := bnr_some hf
          refine bk_all hB (fun h1 h2 h3 => bk_runV X (Av := [.int p1, .int y22]) (rest := [.int (v26 1), .ref (a + 4)]) (mX7_numberOf hc27) yv_X7_numberOf wm_484 ⟨Nat.le_of_ble_eq_true rfl, Nat.le_of_ble_eq_true rfl⟩ rfl rfl hl.1 kl_X7.1 (hB.1.obj lc_Tx_0) h1 h2 h3 (Nat.le_of_ble_eq_true rfl) ⟨Nat.le_of_ble_eq_true rfl, Nat.le_of_ble_eq_true rfl⟩ dX7_readToken_116) (fun H locs hB => ?_)
          refine W.eq (g2 := F0 m 119 ls [.int r28, .int (v26 1), .ref (a + 4)]) rfl ?_
          obtain ⟨h29, hf⟩ := ck_some hf
          refine bk_ast X hB 4 lc_Tx_4 h29 dX7_readToken_119 (fun H locs hB => ?_)
          obtain ⟨v30, ev30⟩ : ∃ y : bM, y = upd v26 (2105 + (v26 1).toNatClampNeg) r28 := ⟨_, rfl⟩
          have hf := nm_use hf ev30
          rw [← ev30] at hB
          refine lv_goto (tgt := 143) hx hb dX7_readToken_120 (by decide) ?_
          refine lv_iload_n hx hb dX7_readToken_143 rfl (lv_at hl 2 rfl) ?_
          exact bk_iW X hr rfl hf hB (Nat.le_of_ble_eq_true rfl) (Nat.le_of_ble_eq_true rfl) dX7_readToken_144
        refine lv_icmp_ge (tgt := 95) hx hb dX7_readToken_74 (by decide) (fun c31 => ?_) (fun c31 => ?_)
        · have hf := (if_pos c31).symm.trans hf
          exact hJ95 v23 H locs ls hf hB (lv_sub hl [0, 1, 2] rfl)
        · have hf := (if_neg c31).symm.trans hf
          refine lv_aload_n hx hb dX7_readToken_77 rfl (lv_at hl 0 rfl) ?_
          refine bk_getR X hB kl_X7 0 lc_Tx_0 3 (by decide) rfl wm_299 dX7_readToken_78 ?_
          refine lv_iload_n hx hb dX7_readToken_81 rfl (lv_at hl 2 rfl) ?_
          obtain ⟨h32, hf⟩ := ck_some hf
          refine bk_ald X hB 1 lc_Tx_1 h32 dX7_readToken_82 ?_
          obtain ⟨r34, hc33, hf⟩ := bnr_some hf
          refine bk_non (v0 := v23) (w0 := v23) hB (fun h1 h2 h3 => bk_runS X (Av := [.int (v23 (3 + y22.toNatClampNeg))]) (rest := []) (mX7_isDigit hc33) ys_X7_isDigit wm_481 ⟨Nat.le_of_ble_eq_true rfl, Nat.le_of_ble_eq_true rfl⟩ rfl rfl hl.1 h1 h2 h3 (Nat.le_of_ble_eq_true rfl) ⟨Nat.le_of_ble_eq_true rfl, Nat.le_of_ble_eq_true rfl⟩ dX7_readToken_83) (fun H locs hB => ?_)
          refine W.eq (g2 := F0 m 86 ls [.int r34]) rfl ?_
          refine lv_if_eq (tgt := 95) hx hb dX7_readToken_86 (by decide) (fun c35 => ?_) (fun c35 => ?_)
          · have hf := (if_pos c35).symm.trans hf
            exact hJ95 v23 H locs ls hf hB (lv_sub hl [0, 1, 2] rfl)
          · have hf := (if_neg c35).symm.trans hf
            obtain ⟨x36, ex36⟩ : ∃ y : Int32, y = y22 + 1 := ⟨_, rfl⟩
            have hf := nm_use hf ex36
            refine lv_iinc (v := x36) (lv' := [(3, .int x36), (0, .ref a), (1, .int p1)]) hx hb dX7_readToken_89 hl (k := 2) rfl (by rw [ex36]; rfl) (by decide) rfl (fun ls hl => ?_)
            refine lv_goto (tgt := 69) hx hb dX7_readToken_92 (by decide) ?_
            exact ih69 x36 v23 H locs ls hf hB (lv_sub hl [1, 2, 0] rfl)
    refine lv_if_eq (tgt := 123) hx hb dX7_readToken_66 (by decide) (fun c37 => ?_) (fun c37 => ?_)
    · have hf := (if_pos c37).symm.trans hf
      refine lv_aload_n hx hb dX7_readToken_123 rfl (lv_at hl 2 rfl) ?_
      refine bk_getR X hB kl_X7 0 lc_Tx_0 4 (by decide) rfl wm_300 dX7_readToken_124 ?_
      refine lv_aload_n hx hb dX7_readToken_127 rfl (lv_at hl 2 rfl) ?_
      refine bk_getI X hB kl_X7 0 lc_Tx_0 1 (by decide) rfl wm_297 dX7_readToken_128 ?_
      refine lv_iload_n hx hb dX7_readToken_131 rfl (lv_at hl 1 rfl) ?_
      refine lv_bipush (v := 59) hx hb dX7_readToken_132 (by decide) ?_
      have hJ142 : ∀ (y38 : Int32) (v39 : bM) (H : Heap) (locs : List Loc) (ls : Array Slot), fX7_readToken_J142 v x3 y38 v39 = some (r0, w0) → bB D E LTx a v39 s H locs → lv_has ls 4 [(3, .int x3)] → W p l e (rmOf 6 0 0) s m args below meth c H locs 0 0 (bQ below D E LTx a w0 (some (.int r0)) args s 0 0) (F0 m 142 ls [.int y38, .int (v 1), .ref (a + 2)]) := by
        intro y38 v39 H locs ls hf hB hl
        have hf := (fX7_readToken_J142.eq_1 v x3 y38 v39).symm.trans hf
        obtain ⟨h40, hf⟩ := ck_some hf
        refine bk_ast X hB 2 lc_Tx_2 h40 dX7_readToken_142 (fun H locs hB => ?_)
        obtain ⟨v41, ev41⟩ : ∃ y : bM, y = upd v39 (703 + (v 1).toNatClampNeg) y38 := ⟨_, rfl⟩
        have hf := nm_use hf ev41
        rw [← ev41] at hB
        refine lv_iload_n hx hb dX7_readToken_143 rfl (lv_at hl 0 rfl) ?_
        exact bk_iW X hr rfl hf hB (Nat.le_of_ble_eq_true rfl) (Nat.le_of_ble_eq_true rfl) dX7_readToken_144
      refine lv_icmp_ne (tgt := 141) hx hb dX7_readToken_134 (by decide) (fun c42 => ?_) (fun c42 => ?_)
      · have hf := (if_neg c42).symm.trans hf
        refine lv_iconst (v := 3) hx hb dX7_readToken_141 (by decide) ?_
        exact hJ142 3 v H locs ls hf hB (lv_sub hl [0] rfl)
      · have hf := (if_pos c42).symm.trans hf
        refine lv_iconst (v := 1) hx hb dX7_readToken_137 (by decide) ?_
        refine lv_goto (tgt := 142) hx hb dX7_readToken_138 (by decide) ?_
        exact hJ142 1 v H locs ls hf hB (lv_sub hl [0] rfl)
    · have hf := (if_neg c37).symm.trans hf
      exact hL69 lpN x3 v H locs ls hf hB (lv_sub hl [2, 3, 0] rfl)
  · have hf := (if_neg c19).symm.trans hf
    exact hL18 lpN x3 v H locs ls hf hB (lv_sub hl [2, 3, 0] rfl)
theorem yv_X7_readToken : bYv yX7_readToken RX7 cX7_readToken 4 (some .int) 1 := ⟨⟨rfl, by decide, by decide, rfl⟩, wm_449, wp_0, wm_9, wm_450⟩

theorem dX7_split_0 : decode cX7_split 0 = .ok (.aload_n 0, 1) := by decide +kernel
theorem dX7_split_1 : decode cX7_split 1 = .ok (.iconst 0, 1) := by decide +kernel
theorem dX7_split_2 : decode cX7_split 2 = .ok (.putfield 31, 3) := by decide +kernel
theorem dX7_split_5 : decode cX7_split 5 = .ok (.aload_n 0, 1) := by decide +kernel
theorem dX7_split_6 : decode cX7_split 6 = .ok (.iconst 0, 1) := by decide +kernel
theorem dX7_split_7 : decode cX7_split 7 = .ok (.putfield 28, 3) := by decide +kernel
theorem dX7_split_10 : decode cX7_split 10 = .ok (.iconst 0, 1) := by decide +kernel
theorem dX7_split_11 : decode cX7_split 11 = .ok (.istore_n 1, 1) := by decide +kernel
theorem dX7_split_12 : decode cX7_split 12 = .ok (.iconst 0, 1) := by decide +kernel
theorem dX7_split_13 : decode cX7_split 13 = .ok (.istore_n 2, 1) := by decide +kernel
theorem dX7_split_14 : decode cX7_split 14 = .ok (.iload_n 2, 1) := by decide +kernel
theorem dX7_split_15 : decode cX7_split 15 = .ok (.aload_n 0, 1) := by decide +kernel
theorem dX7_split_16 : decode cX7_split 16 = .ok (.getfield 24, 3) := by decide +kernel
theorem dX7_split_19 : decode cX7_split 19 = .ok (.if_icmp .ge 52, 3) := by decide +kernel
theorem dX7_split_22 : decode cX7_split 22 = .ok (.iload_n 2, 1) := by decide +kernel
theorem dX7_split_23 : decode cX7_split 23 = .ok (.iload_n 1, 1) := by decide +kernel
theorem dX7_split_24 : decode cX7_split 24 = .ok (.if_icmp .lt 41, 3) := by decide +kernel
theorem dX7_split_27 : decode cX7_split 27 = .ok (.aload_n 0, 1) := by decide +kernel
theorem dX7_split_28 : decode cX7_split 28 = .ok (.getfield 9, 3) := by decide +kernel
theorem dX7_split_31 : decode cX7_split 31 = .ok (.iload_n 2, 1) := by decide +kernel
theorem dX7_split_32 : decode cX7_split 32 = .ok (.iaload, 1) := by decide +kernel
theorem dX7_split_33 : decode cX7_split 33 = .ok (.invokestatic 34, 3) := by decide +kernel
theorem dX7_split_36 : decode cX7_split 36 = .ok (.ifCond .ne 29, 3) := by decide +kernel
theorem dX7_split_39 : decode cX7_split 39 = .ok (.aload_n 0, 1) := by decide +kernel
theorem dX7_split_40 : decode cX7_split 40 = .ok (.getfield 18, 3) := by decide +kernel
theorem dX7_split_43 : decode cX7_split 43 = .ok (.aload_n 0, 1) := by decide +kernel
theorem dX7_split_44 : decode cX7_split 44 = .ok (.getfield 31, 3) := by decide +kernel
theorem dX7_split_47 : decode cX7_split 47 = .ok (.iload_n 2, 1) := by decide +kernel
theorem dX7_split_48 : decode cX7_split 48 = .ok (.iastore, 1) := by decide +kernel
theorem dX7_split_49 : decode cX7_split 49 = .ok (.aload_n 0, 1) := by decide +kernel
theorem dX7_split_50 : decode cX7_split 50 = .ok (.iload_n 2, 1) := by decide +kernel
theorem dX7_split_51 : decode cX7_split 51 = .ok (.invokevirtual 38, 3) := by decide +kernel
theorem dX7_split_54 : decode cX7_split 54 = .ok (.istore_n 1, 1) := by decide +kernel
theorem dX7_split_55 : decode cX7_split 55 = .ok (.aload_n 0, 1) := by decide +kernel
theorem dX7_split_56 : decode cX7_split 56 = .ok (.dup, 1) := by decide +kernel
theorem dX7_split_57 : decode cX7_split 57 = .ok (.getfield 31, 3) := by decide +kernel
theorem dX7_split_60 : decode cX7_split 60 = .ok (.iconst 1, 1) := by decide +kernel
theorem dX7_split_61 : decode cX7_split 61 = .ok (.iadd, 1) := by decide +kernel
theorem dX7_split_62 : decode cX7_split 62 = .ok (.putfield 31, 3) := by decide +kernel
theorem dX7_split_65 : decode cX7_split 65 = .ok (.iinc 2 1, 3) := by decide +kernel
theorem dX7_split_68 : decode cX7_split 68 = .ok (.goto (-54), 3) := by decide +kernel
theorem dX7_split_71 : decode cX7_split 71 = .ok (.aload_n 0, 1) := by decide +kernel
theorem dX7_split_72 : decode cX7_split 72 = .ok (.getfield 15, 3) := by decide +kernel
theorem dX7_split_75 : decode cX7_split 75 = .ok (.aload_n 0, 1) := by decide +kernel
theorem dX7_split_76 : decode cX7_split 76 = .ok (.getfield 31, 3) := by decide +kernel
theorem dX7_split_79 : decode cX7_split 79 = .ok (.iconst 0, 1) := by decide +kernel
theorem dX7_split_80 : decode cX7_split 80 = .ok (.iastore, 1) := by decide +kernel
theorem dX7_split_81 : decode cX7_split 81 = .ok (.aload_n 0, 1) := by decide +kernel
theorem dX7_split_82 : decode cX7_split 82 = .ok (.getfield 18, 3) := by decide +kernel
theorem dX7_split_85 : decode cX7_split 85 = .ok (.aload_n 0, 1) := by decide +kernel
theorem dX7_split_86 : decode cX7_split 86 = .ok (.getfield 31, 3) := by decide +kernel
theorem dX7_split_89 : decode cX7_split 89 = .ok (.aload_n 0, 1) := by decide +kernel
theorem dX7_split_90 : decode cX7_split 90 = .ok (.getfield 24, 3) := by decide +kernel
theorem dX7_split_93 : decode cX7_split 93 = .ok (.iastore, 1) := by decide +kernel
theorem dX7_split_94 : decode cX7_split 94 = .ok (.return_, 1) := by decide +kernel
def fX7_split_J65 (y4 : Int32) (k14 : Int32 → Int32 → bM → Option bM) (y12 : Int32) (v13 : bM) : Option bM :=
  nm (y4 + 1) fun x14 => k14 y12 x14 v13
def fX7_split_L14  (k14 : Int32 → Int32 → bM → Option bM) (y3 : Int32) (y4 : Int32) (v5 : bM) : Option bM :=
  (if (v5 0) ≤ y4 then (ck (v5 1) 701 <| nm (upd v5 (703 + (v5 1).toNatClampNeg) 0) fun v8 => nm (v8 0) fun x9 => ck (v8 1) 701 <| nm (upd v8 (1404 + (v8 1).toNatClampNeg) x9) fun v11 => some v11) else ((if y4 < y3 then (fX7_split_J65 y4 k14 y3 v5) else (ck y4 700 <| bnr (fX7_isBlank (v5 (3 + y4.toNatClampNeg))) fun r18 => (if r18 = 0 then (ck (v5 1) 701 <| nm (upd v5 (1404 + (v5 1).toNatClampNeg) y4) fun v21 => bnd (fX7_readToken y4 v21) fun r24 w23 => nm ((w23 1) + 1) fun x25 => nm (upd w23 1 x25) fun v26 => fX7_split_J65 y4 k14 r24 v26) else (fX7_split_J65 y4 k14 y3 v5))))))
def fX7_split  (v : bM) : Option bM :=
  nm (upd v 1 0) fun v1 => nm (upd v1 2 0) fun v2 => lp (fX7_split_L14) (fun _ _ _ => none) lpN 0 0 v2
set_option maxRecDepth 100000 in
set_option maxHeartbeats 4000000 in
theorem mX7_split {l : Launch}  {v : bM} {w0 : bM} (hf : fX7_split  v = some w0) : bMet l yX7_split cX7_split 3 none 7 0 0 LTx (fun E a => [.ref a]) v w0 (fun _ => none) := by
  refine bk_start (by decide +kernel) wfTx (fun _ _ => Nat.le_of_ble_eq_true rfl) ?_
  intro p e s m args below meth c D E a ls H locs X hr hl hB
  have hx := X.1
  have hb := X.2.1
  have hown := X.2.2.2.1
  have hts := X.2.2.2.2.1
  have hl : lv_has ls 3 [(0, .ref a)] := hl
  have hf := (fX7_split.eq_1  v).symm.trans hf
  refine lv_aload_n hx hb dX7_split_0 rfl (lv_at hl 0 rfl) ?_
  refine lv_iconst (v := 0) hx hb dX7_split_1 (by decide) ?_
  refine bk_putI X hB kl_X7 0 lc_Tx_0 1 (by decide) rfl rfl rfl wm_297 dX7_split_2 rfl (fun H locs hB => ?_)
  obtain ⟨v1, ev1⟩ : ∃ y : bM, y = upd v 1 0 := ⟨_, rfl⟩
  have hf := nm_use hf ev1
  rw [← ev1] at hB
  refine lv_aload_n hx hb dX7_split_5 rfl (lv_at hl 0 rfl) ?_
  refine lv_iconst (v := 0) hx hb dX7_split_6 (by decide) ?_
  refine bk_putI X hB kl_X7 0 lc_Tx_0 2 (by decide) rfl rfl rfl wm_298 dX7_split_7 rfl (fun H locs hB => ?_)
  obtain ⟨v2, ev2⟩ : ∃ y : bM, y = upd v1 2 0 := ⟨_, rfl⟩
  have hf := nm_use hf ev2
  rw [← ev2] at hB
  refine lv_iconst (v := 0) hx hb dX7_split_10 (by decide) ?_
  refine lv_istore_n (lv' := [(1, .int 0), (0, .ref a)]) hx hb dX7_split_11 rfl hl (by decide) rfl (fun ls hl => ?_)
  refine lv_iconst (v := 0) hx hb dX7_split_12 (by decide) ?_
  refine lv_istore_n (lv' := [(2, .int 0), (1, .int 0), (0, .ref a)]) hx hb dX7_split_13 rfl hl (by decide) rfl (fun ls hl => ?_)
  have hL14 : ∀ (n14 : Nat) (y3 y4 : Int32) (v5 : bM) (H : Heap) (locs : List Loc) (ls : Array Slot), lp (fX7_split_L14) (fun _ _ _ => none) n14 y3 y4 v5 = some w0 → bB D E LTx a v5 s H locs → lv_has ls 3 [(0, .ref a), (1, .int y3), (2, .int y4)] → W p l e (rmOf 7 0 0) s m args below meth c H locs 0 0 (bQ below D E LTx a w0 none args s 0 0) (F0 m 14 ls []) := by
    intro n14
    induction n14 with
    | zero => intro y3 y4 v5 H locs ls hf; cases (show (none : Option bM) = some w0 from hf)
    | succ n14 ih14 =>
      intro y3 y4 v5 H locs ls hf hB hl
      have hf := (fX7_split_L14.eq_1  (lp (fX7_split_L14) (fun _ _ _ => none) n14) y3 y4 v5).symm.trans (show fX7_split_L14 (lp (fX7_split_L14) (fun _ _ _ => none) n14) y3 y4 v5 = some w0 from hf)
      refine lv_iload_n hx hb dX7_split_14 rfl (lv_at hl 2 rfl) ?_
      refine lv_aload_n hx hb dX7_split_15 rfl (lv_at hl 0 rfl) ?_
      refine bk_getI X hB kl_X7 0 lc_Tx_0 0 (by decide) rfl wm_295 dX7_split_16 ?_
      refine lv_icmp_ge (tgt := 71) hx hb dX7_split_19 (by decide) (fun c6 => ?_) (fun c6 => ?_)
      · have hf := (if_pos c6).symm.trans hf
        refine lv_aload_n hx hb dX7_split_71 rfl (lv_at hl 0 rfl) ?_
        refine bk_getR X hB kl_X7 0 lc_Tx_0 4 (by decide) rfl wm_300 dX7_split_72 ?_
        refine lv_aload_n hx hb dX7_split_75 rfl (lv_at hl 0 rfl) ?_
        refine bk_getI X hB kl_X7 0 lc_Tx_0 1 (by decide) rfl wm_297 dX7_split_76 ?_
        refine lv_iconst (v := 0) hx hb dX7_split_79 (by decide) ?_
        obtain ⟨h7, hf⟩ := ck_some hf
        refine bk_ast X hB 2 lc_Tx_2 h7 dX7_split_80 (fun H locs hB => ?_)
        obtain ⟨v8, ev8⟩ : ∃ y : bM, y = upd v5 (703 + (v5 1).toNatClampNeg) 0 := ⟨_, rfl⟩
        have hf := nm_use hf ev8
        rw [← ev8] at hB
        refine lv_aload_n hx hb dX7_split_81 rfl (lv_at hl 0 rfl) ?_
        refine bk_getR X hB kl_X7 0 lc_Tx_0 5 (by decide) rfl wm_301 dX7_split_82 ?_
        refine lv_aload_n hx hb dX7_split_85 rfl (lv_at hl 0 rfl) ?_
        refine bk_getI X hB kl_X7 0 lc_Tx_0 1 (by decide) rfl wm_297 dX7_split_86 ?_
        refine lv_aload_n hx hb dX7_split_89 rfl (lv_at hl 0 rfl) ?_
        refine bk_getI X hB kl_X7 0 lc_Tx_0 0 (by decide) rfl wm_295 dX7_split_90 ?_
        refine lv_topi (fun x9 ex9 => ?_)
        have hf := nm_use hf ex9
        obtain ⟨h10, hf⟩ := ck_some hf
        refine bk_ast X hB 3 lc_Tx_3 h10 dX7_split_93 (fun H locs hB => ?_)
        obtain ⟨v11, ev11⟩ : ∃ y : bM, y = upd v8 (1404 + (v8 1).toNatClampNeg) x9 := ⟨_, rfl⟩
        have hf := nm_use hf ev11
        rw [← ev11] at hB
        exact bk_vW X hr rfl hf hB (Nat.le_of_ble_eq_true rfl) (Nat.le_of_ble_eq_true rfl) dX7_split_94
      · have hf := (if_neg c6).symm.trans hf
        refine lv_iload_n hx hb dX7_split_22 rfl (lv_at hl 2 rfl) ?_
        refine lv_iload_n hx hb dX7_split_23 rfl (lv_at hl 1 rfl) ?_
        have hJ65 : ∀ (y12 : Int32) (v13 : bM) (H : Heap) (locs : List Loc) (ls : Array Slot), fX7_split_J65 y4 (lp (fX7_split_L14) (fun _ _ _ => none) n14) y12 v13 = some w0 → bB D E LTx a v13 s H locs → lv_has ls 3 [(0, .ref a), (1, .int y12), (2, .int y4)] → W p l e (rmOf 7 0 0) s m args below meth c H locs 0 0 (bQ below D E LTx a w0 none args s 0 0) (F0 m 65 ls []) := by
          intro y12 v13 H locs ls hf hB hl
          have hf := (fX7_split_J65.eq_1 y4 (lp (fX7_split_L14) (fun _ _ _ => none) n14) y12 v13).symm.trans hf
          obtain ⟨x14, ex14⟩ : ∃ y : Int32, y = y4 + 1 := ⟨_, rfl⟩
          have hf := nm_use hf ex14
          refine lv_iinc (v := x14) (lv' := [(2, .int x14), (0, .ref a), (1, .int y12)]) hx hb dX7_split_65 hl (k := 2) rfl (by rw [ex14]; rfl) (by decide) rfl (fun ls hl => ?_)
          refine lv_goto (tgt := 14) hx hb dX7_split_68 (by decide) ?_
          exact ih14 y12 x14 v13 H locs ls hf hB (lv_sub hl [1, 2, 0] rfl)
        refine lv_icmp_lt (tgt := 65) hx hb dX7_split_24 (by decide) (fun c15 => ?_) (fun c15 => ?_)
        · have hf := (if_pos c15).symm.trans hf
          exact hJ65 y3 v5 H locs ls hf hB (lv_sub hl [0, 1, 2] rfl)
        · have hf := (if_neg c15).symm.trans hf
          refine lv_aload_n hx hb dX7_split_27 rfl (lv_at hl 0 rfl) ?_
          refine bk_getR X hB kl_X7 0 lc_Tx_0 3 (by decide) rfl wm_299 dX7_split_28 ?_
          refine lv_iload_n hx hb dX7_split_31 rfl (lv_at hl 2 rfl) ?_
          obtain ⟨h16, hf⟩ := ck_some hf
          refine bk_ald X hB 1 lc_Tx_1 h16 dX7_split_32 ?_
          obtain ⟨r18, hc17, hf⟩ := bnr_some hf
          refine bk_non (v0 := v5) (w0 := v5) hB (fun h1 h2 h3 => bk_runS X (Av := [.int (v5 (3 + y4.toNatClampNeg))]) (rest := []) (mX7_isBlank hc17) ys_X7_isBlank wm_444 ⟨Nat.le_of_ble_eq_true rfl, Nat.le_of_ble_eq_true rfl⟩ rfl rfl hl.1 h1 h2 h3 (Nat.le_of_ble_eq_true rfl) ⟨Nat.le_of_ble_eq_true rfl, Nat.le_of_ble_eq_true rfl⟩ dX7_split_33) (fun H locs hB => ?_)
          refine W.eq (g2 := F0 m 36 ls [.int r18]) rfl ?_
          refine lv_if_ne (tgt := 65) hx hb dX7_split_36 (by decide) (fun c19 => ?_) (fun c19 => ?_)
          · have hf := (if_neg c19).symm.trans hf
            exact hJ65 y3 v5 H locs ls hf hB (lv_sub hl [0, 1, 2] rfl)
          · have hf := (if_pos c19).symm.trans hf
            refine lv_aload_n hx hb dX7_split_39 rfl (lv_at hl 0 rfl) ?_
            refine bk_getR X hB kl_X7 0 lc_Tx_0 5 (by decide) rfl wm_301 dX7_split_40 ?_
            refine lv_aload_n hx hb dX7_split_43 rfl (lv_at hl 0 rfl) ?_
            refine bk_getI X hB kl_X7 0 lc_Tx_0 1 (by decide) rfl wm_297 dX7_split_44 ?_
            refine lv_iload_n hx hb dX7_split_47 rfl (lv_at hl 2 rfl) ?_
            obtain ⟨h20, hf⟩ := ck_some hf
            refine bk_ast X hB 3 lc_Tx_3 h20 dX7_split_48 (fun H locs hB => ?_)
            obtain ⟨v21, ev21⟩ : ∃ y : bM, y = upd v5 (1404 + (v5 1).toNatClampNeg) y4 := ⟨_, rfl⟩
            have hf := nm_use hf ev21
            rw [← ev21] at hB
            refine lv_aload_n hx hb dX7_split_49 rfl (lv_at hl 0 rfl) ?_
            refine lv_iload_n hx hb dX7_split_50 rfl (lv_at hl 2 rfl) ?_
            obtain ⟨r24, w23, hc22, hf⟩ := bnd_some hf
            refine bk_all hB (fun h1 h2 h3 => bk_runV X (Av := [.int y4]) (rest := []) (mX7_readToken hc22) yv_X7_readToken wm_447 ⟨Nat.le_of_ble_eq_true rfl, Nat.le_of_ble_eq_true rfl⟩ rfl rfl hl.1 kl_X7.1 (hB.1.obj lc_Tx_0) h1 h2 h3 (Nat.le_of_ble_eq_true rfl) ⟨Nat.le_of_ble_eq_true rfl, Nat.le_of_ble_eq_true rfl⟩ dX7_split_51) (fun H locs hB => ?_)
            refine W.eq (g2 := F0 m 54 ls [.int r24]) rfl ?_
            refine lv_istore_n (lv' := [(1, .int r24), (0, .ref a), (2, .int y4)]) hx hb dX7_split_54 rfl hl (by decide) rfl (fun ls hl => ?_)
            refine lv_aload_n hx hb dX7_split_55 rfl (lv_at hl 1 rfl) ?_
            refine lv_dup hx hb dX7_split_56 rfl ?_
            refine bk_getI X hB kl_X7 0 lc_Tx_0 1 (by decide) rfl wm_297 dX7_split_57 ?_
            refine lv_iconst (v := 1) hx hb dX7_split_60 (by decide) ?_
            refine lv_iadd hx hb dX7_split_61 ?_
            refine lv_topi (fun x25 ex25 => ?_)
            have hf := nm_use hf ex25
            refine bk_putI X hB kl_X7 0 lc_Tx_0 1 (by decide) rfl rfl rfl wm_297 dX7_split_62 rfl (fun H locs hB => ?_)
            obtain ⟨v26, ev26⟩ : ∃ y : bM, y = upd w23 1 x25 := ⟨_, rfl⟩
            have hf := nm_use hf ev26
            rw [← ev26] at hB
            exact hJ65 r24 v26 H locs ls hf hB (lv_sub hl [1, 0, 2] rfl)
  exact hL14 lpN 0 0 v2 H locs ls hf hB (lv_sub hl [2, 1, 0] rfl)
theorem yv_X7_split : bYv yX7_split RX7 cX7_split 3 none 0 := ⟨⟨rfl, by decide, by decide, rfl⟩, wm_441, wm_442, wm_9, wm_443⟩
