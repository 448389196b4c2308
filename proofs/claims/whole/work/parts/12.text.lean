theorem dX7_append_0 : decode cX7_append 0 = .ok (.aload_n 0, 1) := by decide +kernel
theorem dX7_append_1 : decode cX7_append 1 = .ok (.getfield 24, 3) := by decide +kernel
theorem dX7_append_4 : decode cX7_append 4 = .ok (.sipush 700, 3) := by decide +kernel
theorem dX7_append_7 : decode cX7_append 7 = .ok (.if_icmp .ge 23, 3) := by decide +kernel
theorem dX7_append_10 : decode cX7_append 10 = .ok (.aload_n 0, 1) := by decide +kernel
theorem dX7_append_11 : decode cX7_append 11 = .ok (.getfield 9, 3) := by decide +kernel
theorem dX7_append_14 : decode cX7_append 14 = .ok (.aload_n 0, 1) := by decide +kernel
theorem dX7_append_15 : decode cX7_append 15 = .ok (.getfield 24, 3) := by decide +kernel
theorem dX7_append_18 : decode cX7_append 18 = .ok (.iload_n 1, 1) := by decide +kernel
theorem dX7_append_19 : decode cX7_append 19 = .ok (.iastore, 1) := by decide +kernel
theorem dX7_append_20 : decode cX7_append 20 = .ok (.aload_n 0, 1) := by decide +kernel
theorem dX7_append_21 : decode cX7_append 21 = .ok (.dup, 1) := by decide +kernel
theorem dX7_append_22 : decode cX7_append 22 = .ok (.getfield 24, 3) := by decide +kernel
theorem dX7_append_25 : decode cX7_append 25 = .ok (.iconst 1, 1) := by decide +kernel
theorem dX7_append_26 : decode cX7_append 26 = .ok (.iadd, 1) := by decide +kernel
theorem dX7_append_27 : decode cX7_append 27 = .ok (.putfield 24, 3) := by decide +kernel
theorem dX7_append_30 : decode cX7_append 30 = .ok (.return_, 1) := by decide +kernel
def fX7_append (p1 : Int32) (v : bM) : Option bM :=
  (if 700 ≤ (v 0) then (some v) else (ck (v 0) 700 <| nm (upd v (3 + (v 0).toNatClampNeg) p1) fun v3 => nm ((v3 0) + 1) fun x4 => nm (upd v3 0 x4) fun v5 => some v5))
set_option maxRecDepth 100000 in
set_option maxHeartbeats 4000000 in
theorem mX7_append {l : Launch} {p1 : Int32} {v : bM} {w0 : bM} (hf : fX7_append p1 v = some w0) : bMet l yX7_append cX7_append 2 none 0 0 0 LTx (fun E a => [.ref a, .int p1]) v w0 (fun _ => none) := by
  refine bk_start (by decide +kernel) wfTx (fun _ _ => Nat.le_of_ble_eq_true rfl) ?_
  intro p e s m args below meth c D E a ls H locs X hr hl hB
  have hx := X.1
  have hb := X.2.1
  have hown := X.2.2.2.1
  have hts := X.2.2.2.2.1
  have hl : lv_has ls 2 [(0, .ref a), (1, .int p1)] := hl
  have hf := (fX7_append.eq_1 p1 v).symm.trans hf
  refine lv_aload_n hx hb dX7_append_0 rfl (lv_at hl 0 rfl) ?_
  refine bk_getI X hB kl_X7 0 lc_Tx_0 0 (by decide) rfl wm_295 dX7_append_1 ?_
  refine lv_sipush (v := 700) hx hb dX7_append_4 (by decide) ?_
  refine lv_icmp_ge (tgt := 30) hx hb dX7_append_7 (by decide) (fun c1 => ?_) (fun c1 => ?_)
  · have hf := (if_pos c1).symm.trans hf
    exact bk_vW X hr rfl hf hB (Nat.le_of_ble_eq_true rfl) (Nat.le_of_ble_eq_true rfl) dX7_append_30
  · have hf := (if_neg c1).symm.trans hf
    refine lv_aload_n hx hb dX7_append_10 rfl (lv_at hl 0 rfl) ?_
    refine bk_getR X hB kl_X7 0 lc_Tx_0 3 (by decide) rfl wm_299 dX7_append_11 ?_
    refine lv_aload_n hx hb dX7_append_14 rfl (lv_at hl 0 rfl) ?_
    refine bk_getI X hB kl_X7 0 lc_Tx_0 0 (by decide) rfl wm_295 dX7_append_15 ?_
    refine lv_iload_n hx hb dX7_append_18 rfl (lv_at hl 1 rfl) ?_
    obtain ⟨h2, hf⟩ := ck_some hf
    refine bk_ast X hB 1 lc_Tx_1 h2 dX7_append_19 (fun H locs hB => ?_)
    obtain ⟨v3, ev3⟩ : ∃ y : bM, y = upd v (3 + (v 0).toNatClampNeg) p1 := ⟨_, rfl⟩
    have hf := nm_use hf ev3
    rw [← ev3] at hB
    refine lv_aload_n hx hb dX7_append_20 rfl (lv_at hl 0 rfl) ?_
    refine lv_dup hx hb dX7_append_21 rfl ?_
    refine bk_getI X hB kl_X7 0 lc_Tx_0 0 (by decide) rfl wm_295 dX7_append_22 ?_
    refine lv_iconst (v := 1) hx hb dX7_append_25 (by decide) ?_
    refine lv_iadd hx hb dX7_append_26 ?_
    refine lv_topi (fun x4 ex4 => ?_)
    have hf := nm_use hf ex4
    refine bk_putI X hB kl_X7 0 lc_Tx_0 0 (by decide) rfl rfl rfl wm_295 dX7_append_27 rfl (fun H locs hB => ?_)
    obtain ⟨v5, ev5⟩ : ∃ y : bM, y = upd v3 0 x4 := ⟨_, rfl⟩
    have hf := nm_use hf ev5
    rw [← ev5] at hB
    exact bk_vW X hr rfl hf hB (Nat.le_of_ble_eq_true rfl) (Nat.le_of_ble_eq_true rfl) dX7_append_30
theorem yv_X7_append : bYv yX7_append RX7 cX7_append 2 none 1 := ⟨⟨rfl, by decide, by decide, rfl⟩, wm_433, wm_434, wm_9, wm_435⟩

theorem dX7_clear_0 : decode cX7_clear 0 = .ok (.aload_n 0, 1) := by decide +kernel
theorem dX7_clear_1 : decode cX7_clear 1 = .ok (.iconst 0, 1) := by decide +kernel
theorem dX7_clear_2 : decode cX7_clear 2 = .ok (.putfield 24, 3) := by decide +kernel
theorem dX7_clear_5 : decode cX7_clear 5 = .ok (.return_, 1) := by decide +kernel
def fX7_clear  (v : bM) : Option bM :=
  nm (upd v 0 0) fun v1 => some v1
set_option maxRecDepth 100000 in
set_option maxHeartbeats 4000000 in
theorem mX7_clear {l : Launch}  {v : bM} {w0 : bM} (hf : fX7_clear  v = some w0) : bMet l yX7_clear cX7_clear 1 none 0 0 0 LTx (fun E a => [.ref a]) v w0 (fun _ => none) := by
  refine bk_start (by decide +kernel) wfTx (fun _ _ => Nat.le_of_ble_eq_true rfl) ?_
  intro p e s m args below meth c D E a ls H locs X hr hl hB
  have hx := X.1
  have hb := X.2.1
  have hown := X.2.2.2.1
  have hts := X.2.2.2.2.1
  have hl : lv_has ls 1 [(0, .ref a)] := hl
  have hf := (fX7_clear.eq_1  v).symm.trans hf
  refine lv_aload_n hx hb dX7_clear_0 rfl (lv_at hl 0 rfl) ?_
  refine lv_iconst (v := 0) hx hb dX7_clear_1 (by decide) ?_
  refine bk_putI X hB kl_X7 0 lc_Tx_0 0 (by decide) rfl rfl rfl wm_295 dX7_clear_2 rfl (fun H locs hB => ?_)
  obtain ⟨v1, ev1⟩ : ∃ y : bM, y = upd v 0 0 := ⟨_, rfl⟩
  have hf := nm_use hf ev1
  rw [← ev1] at hB
  exact bk_vW X hr rfl hf hB (Nat.le_of_ble_eq_true rfl) (Nat.le_of_ble_eq_true rfl) dX7_clear_5
theorem yv_X7_clear : bYv yX7_clear RX7 cX7_clear 1 none 0 := ⟨⟨rfl, by decide, by decide, rfl⟩, wm_651, wm_652, wm_9, wm_653⟩

theorem dX7_kind_0 : decode cX7_kind 0 = .ok (.aload_n 0, 1) := by decide +kernel
theorem dX7_kind_1 : decode cX7_kind 1 = .ok (.getfield 15, 3) := by decide +kernel
theorem dX7_kind_4 : decode cX7_kind 4 = .ok (.aload_n 0, 1) := by decide +kernel
theorem dX7_kind_5 : decode cX7_kind 5 = .ok (.getfield 28, 3) := by decide +kernel
theorem dX7_kind_8 : decode cX7_kind 8 = .ok (.iaload, 1) := by decide +kernel
theorem dX7_kind_9 : decode cX7_kind 9 = .ok (.ireturn, 1) := by decide +kernel
def fX7_kind  (v : bM) : Option Int32 :=
  ck (v 2) 701 <| some (v (703 + (v 2).toNatClampNeg))
set_option maxRecDepth 100000 in
set_option maxHeartbeats 4000000 in
theorem mX7_kind {l : Launch}  {v : bM} {r0 : Int32} (hf : fX7_kind  v = some r0) : bMet l yX7_kind cX7_kind 1 (some .int) 0 0 0 LTx (fun E a => [.ref a]) v v (fun _ => some (.int r0)) := by
  refine bk_start (by decide +kernel) wfTx (fun _ _ => Nat.le_of_ble_eq_true rfl) ?_
  intro p e s m args below meth c D E a ls H locs X hr hl hB
  have hx := X.1
  have hb := X.2.1
  have hown := X.2.2.2.1
  have hts := X.2.2.2.2.1
  have hl : lv_has ls 1 [(0, .ref a)] := hl
  have hf := (fX7_kind.eq_1  v).symm.trans hf
  refine lv_aload_n hx hb dX7_kind_0 rfl (lv_at hl 0 rfl) ?_
  refine bk_getR X hB kl_X7 0 lc_Tx_0 4 (by decide) rfl wm_300 dX7_kind_1 ?_
  refine lv_aload_n hx hb dX7_kind_4 rfl (lv_at hl 0 rfl) ?_
  refine bk_getI X hB kl_X7 0 lc_Tx_0 2 (by decide) rfl wm_298 dX7_kind_5 ?_
  obtain ⟨h1, hf⟩ := ck_some hf
  refine bk_ald X hB 2 lc_Tx_2 h1 dX7_kind_8 ?_
  exact bk_iR X hr rfl hf hB (Nat.le_of_ble_eq_true rfl) (Nat.le_of_ble_eq_true rfl) dX7_kind_9
theorem yv_X7_kind : bYv yX7_kind RX7 cX7_kind 1 (some .int) 0 := ⟨⟨rfl, by decide, by decide, rfl⟩, wm_497, wm_498, wm_9, wm_499⟩

theorem dX7_number_0 : decode cX7_number 0 = .ok (.aload_n 0, 1) := by decide +kernel
theorem dX7_number_1 : decode cX7_number 1 = .ok (.getfield 21, 3) := by decide +kernel
theorem dX7_number_4 : decode cX7_number 4 = .ok (.aload_n 0, 1) := by decide +kernel
theorem dX7_number_5 : decode cX7_number 5 = .ok (.getfield 28, 3) := by decide +kernel
theorem dX7_number_8 : decode cX7_number 8 = .ok (.iaload, 1) := by decide +kernel
theorem dX7_number_9 : decode cX7_number 9 = .ok (.ireturn, 1) := by decide +kernel
def fX7_number  (v : bM) : Option Int32 :=
  ck (v 2) 701 <| some (v (2105 + (v 2).toNatClampNeg))
set_option maxRecDepth 100000 in
set_option maxHeartbeats 4000000 in
theorem mX7_number {l : Launch}  {v : bM} {r0 : Int32} (hf : fX7_number  v = some r0) : bMet l yX7_number cX7_number 1 (some .int) 0 0 0 LTx (fun E a => [.ref a]) v v (fun _ => some (.int r0)) := by
  refine bk_start (by decide +kernel) wfTx (fun _ _ => Nat.le_of_ble_eq_true rfl) ?_
  intro p e s m args below meth c D E a ls H locs X hr hl hB
  have hx := X.1
  have hb := X.2.1
  have hown := X.2.2.2.1
  have hts := X.2.2.2.2.1
  have hl : lv_has ls 1 [(0, .ref a)] := hl
  have hf := (fX7_number.eq_1  v).symm.trans hf
  refine lv_aload_n hx hb dX7_number_0 rfl (lv_at hl 0 rfl) ?_
  refine bk_getR X hB kl_X7 0 lc_Tx_0 6 (by decide) rfl wm_302 dX7_number_1 ?_
  refine lv_aload_n hx hb dX7_number_4 rfl (lv_at hl 0 rfl) ?_
  refine bk_getI X hB kl_X7 0 lc_Tx_0 2 (by decide) rfl wm_298 dX7_number_5 ?_
  obtain ⟨h1, hf⟩ := ck_some hf
  refine bk_ald X hB 4 lc_Tx_4 h1 dX7_number_8 ?_
  exact bk_iR X hr rfl hf hB (Nat.le_of_ble_eq_true rfl) (Nat.le_of_ble_eq_true rfl) dX7_number_9
theorem yv_X7_number : bYv yX7_number RX7 cX7_number 1 (some .int) 0 := ⟨⟨rfl, by decide, by decide, rfl⟩, wm_518, wm_519, wm_9, wm_520⟩

theorem dX7_start_0 : decode cX7_start 0 = .ok (.aload_n 0, 1) := by decide +kernel
theorem dX7_start_1 : decode cX7_start 1 = .ok (.getfield 18, 3) := by decide +kernel
theorem dX7_start_4 : decode cX7_start 4 = .ok (.aload_n 0, 1) := by decide +kernel
theorem dX7_start_5 : decode cX7_start 5 = .ok (.getfield 28, 3) := by decide +kernel
theorem dX7_start_8 : decode cX7_start 8 = .ok (.iaload, 1) := by decide +kernel
theorem dX7_start_9 : decode cX7_start 9 = .ok (.ireturn, 1) := by decide +kernel
def fX7_start  (v : bM) : Option Int32 :=
  ck (v 2) 701 <| some (v (1404 + (v 2).toNatClampNeg))
set_option maxRecDepth 100000 in
set_option maxHeartbeats 4000000 in
theorem mX7_start {l : Launch}  {v : bM} {r0 : Int32} (hf : fX7_start  v = some r0) : bMet l yX7_start cX7_start 1 (some .int) 0 0 0 LTx (fun E a => [.ref a]) v v (fun _ => some (.int r0)) := by
  refine bk_start (by decide +kernel) wfTx (fun _ _ => Nat.le_of_ble_eq_true rfl) ?_
  intro p e s m args below meth c D E a ls H locs X hr hl hB
  have hx := X.1
  have hb := X.2.1
  have hown := X.2.2.2.1
  have hts := X.2.2.2.2.1
  have hl : lv_has ls 1 [(0, .ref a)] := hl
  have hf := (fX7_start.eq_1  v).symm.trans hf
  refine lv_aload_n hx hb dX7_start_0 rfl (lv_at hl 0 rfl) ?_
  refine bk_getR X hB kl_X7 0 lc_Tx_0 5 (by decide) rfl wm_301 dX7_start_1 ?_
  refine lv_aload_n hx hb dX7_start_4 rfl (lv_at hl 0 rfl) ?_
  refine bk_getI X hB kl_X7 0 lc_Tx_0 2 (by decide) rfl wm_298 dX7_start_5 ?_
  obtain ⟨h1, hf⟩ := ck_some hf
  refine bk_ald X hB 3 lc_Tx_3 h1 dX7_start_8 ?_
  exact bk_iR X hr rfl hf hB (Nat.le_of_ble_eq_true rfl) (Nat.le_of_ble_eq_true rfl) dX7_start_9
theorem yv_X7_start : bYv yX7_start RX7 cX7_start 1 (some .int) 0 := ⟨⟨rfl, by decide, by decide, rfl⟩, wm_505, wm_506, wm_9, wm_507⟩

theorem dX7_advance_0 : decode cX7_advance 0 = .ok (.aload_n 0, 1) := by decide +kernel
theorem dX7_advance_1 : decode cX7_advance 1 = .ok (.getfield 28, 3) := by decide +kernel
theorem dX7_advance_4 : decode cX7_advance 4 = .ok (.aload_n 0, 1) := by decide +kernel
theorem dX7_advance_5 : decode cX7_advance 5 = .ok (.getfield 31, 3) := by decide +kernel
theorem dX7_advance_8 : decode cX7_advance 8 = .ok (.if_icmp .ge 13, 3) := by decide +kernel
theorem dX7_advance_11 : decode cX7_advance 11 = .ok (.aload_n 0, 1) := by decide +kernel
theorem dX7_advance_12 : decode cX7_advance 12 = .ok (.dup, 1) := by decide +kernel
theorem dX7_advance_13 : decode cX7_advance 13 = .ok (.getfield 28, 3) := by decide +kernel
theorem dX7_advance_16 : decode cX7_advance 16 = .ok (.iconst 1, 1) := by decide +kernel
theorem dX7_advance_17 : decode cX7_advance 17 = .ok (.iadd, 1) := by decide +kernel
theorem dX7_advance_18 : decode cX7_advance 18 = .ok (.putfield 28, 3) := by decide +kernel
theorem dX7_advance_21 : decode cX7_advance 21 = .ok (.return_, 1) := by decide +kernel
def fX7_advance  (v : bM) : Option bM :=
  (if (v 1) ≤ (v 2) then (some v) else (nm ((v 2) + 1) fun x2 => nm (upd v 2 x2) fun v3 => some v3))
set_option maxRecDepth 100000 in
set_option maxHeartbeats 4000000 in
theorem mX7_advance {l : Launch}  {v : bM} {w0 : bM} (hf : fX7_advance  v = some w0) : bMet l yX7_advance cX7_advance 1 none 0 0 0 LTx (fun E a => [.ref a]) v w0 (fun _ => none) := by
  refine bk_start (by decide +kernel) wfTx (fun _ _ => Nat.le_of_ble_eq_true rfl) ?_
  intro p e s m args below meth c D E a ls H locs X hr hl hB
  have hx := X.1
  have hb := X.2.1
  have hown := X.2.2.2.1
  have hts := X.2.2.2.2.1
  have hl : lv_has ls 1 [(0, .ref a)] := hl
  have hf := (fX7_advance.eq_1  v).symm.trans hf
  refine lv_aload_n hx hb dX7_advance_0 rfl (lv_at hl 0 rfl) ?_
  refine bk_getI X hB kl_X7 0 lc_Tx_0 2 (by decide) rfl wm_298 dX7_advance_1 ?_
  refine lv_aload_n hx hb dX7_advance_4 rfl (lv_at hl 0 rfl) ?_
  refine bk_getI X hB kl_X7 0 lc_Tx_0 1 (by decide) rfl wm_297 dX7_advance_5 ?_
  refine lv_icmp_ge (tgt := 21) hx hb dX7_advance_8 (by decide) (fun c1 => ?_) (fun c1 => ?_)
  · have hf := (if_pos c1).symm.trans hf
    exact bk_vW X hr rfl hf hB (Nat.le_of_ble_eq_true rfl) (Nat.le_of_ble_eq_true rfl) dX7_advance_21
  · have hf := (if_neg c1).symm.trans hf
    refine lv_aload_n hx hb dX7_advance_11 rfl (lv_at hl 0 rfl) ?_
    refine lv_dup hx hb dX7_advance_12 rfl ?_
    refine bk_getI X hB kl_X7 0 lc_Tx_0 2 (by decide) rfl wm_298 dX7_advance_13 ?_
    refine lv_iconst (v := 1) hx hb dX7_advance_16 (by decide) ?_
    refine lv_iadd hx hb dX7_advance_17 ?_
    refine lv_topi (fun x2 ex2 => ?_)
    have hf := nm_use hf ex2
    refine bk_putI X hB kl_X7 0 lc_Tx_0 2 (by decide) rfl rfl rfl wm_298 dX7_advance_18 rfl (fun H locs hB => ?_)
    obtain ⟨v3, ev3⟩ : ∃ y : bM, y = upd v 2 x2 := ⟨_, rfl⟩
    have hf := nm_use hf ev3
    rw [← ev3] at hB
    exact bk_vW X hr rfl hf hB (Nat.le_of_ble_eq_true rfl) (Nat.le_of_ble_eq_true rfl) dX7_advance_21
theorem yv_X7_advance : bYv yX7_advance RX7 cX7_advance 1 none 0 := ⟨⟨rfl, by decide, by decide, rfl⟩, wm_509, wm_510, wm_9, wm_511⟩

theorem dX7_isBlank_0 : decode cX7_isBlank 0 = .ok (.iload_n 0, 1) := by decide +kernel
theorem dX7_isBlank_1 : decode cX7_isBlank 1 = .ok (.bipush 32, 2) := by decide +kernel
theorem dX7_isBlank_3 : decode cX7_isBlank 3 = .ok (.if_icmp .eq 9, 3) := by decide +kernel
theorem dX7_isBlank_6 : decode cX7_isBlank 6 = .ok (.iload_n 0, 1) := by decide +kernel
theorem dX7_isBlank_7 : decode cX7_isBlank 7 = .ok (.bipush 10, 2) := by decide +kernel
theorem dX7_isBlank_9 : decode cX7_isBlank 9 = .ok (.if_icmp .ne 7, 3) := by decide +kernel
theorem dX7_isBlank_12 : decode cX7_isBlank 12 = .ok (.iconst 1, 1) := by decide +kernel
theorem dX7_isBlank_13 : decode cX7_isBlank 13 = .ok (.goto 4, 3) := by decide +kernel
theorem dX7_isBlank_16 : decode cX7_isBlank 16 = .ok (.iconst 0, 1) := by decide +kernel
theorem dX7_isBlank_17 : decode cX7_isBlank 17 = .ok (.ireturn, 1) := by decide +kernel
def fX7_isBlank_J12   : Option Int32 :=
  some (1)
def fX7_isBlank (p0 : Int32) : Option Int32 :=
  (if p0 = 32 then (fX7_isBlank_J12 ) else ((if p0 = 10 then (fX7_isBlank_J12 ) else (some (0)))))
set_option maxRecDepth 100000 in
set_option maxHeartbeats 4000000 in
theorem mX7_isBlank {l : Launch} {p0 : Int32} {v : bM} {r0 : Int32} (hf : fX7_isBlank p0 = some r0) : bMet l yX7_isBlank cX7_isBlank 1 (some .boolean) 0 0 0 [] (fun E a => [.int p0]) v v (fun _ => some (.int r0)) := by
  refine bk_start (by decide +kernel) bWf_nil (fun _ _ => Nat.le_of_ble_eq_true rfl) ?_
  intro p e s m args below meth c D E a ls H locs X hr hl hB
  have hx := X.1
  have hb := X.2.1
  have hown := X.2.2.2.1
  have hts := X.2.2.2.2.1
  have hl : lv_has ls 1 [(0, .int p0)] := hl
  have hf := (fX7_isBlank.eq_1 p0).symm.trans hf
  refine lv_iload_n hx hb dX7_isBlank_0 rfl (lv_at hl 0 rfl) ?_
  refine lv_bipush (v := 32) hx hb dX7_isBlank_1 (by decide) ?_
  have hJ12 : ∀ (H : Heap) (locs : List Loc) (ls : Array Slot), fX7_isBlank_J12  = some r0 → bB D E [] a v s H locs → lv_has ls 1 [] → W p l e (rmOf 0 0 0) s m args below meth c H locs 0 0 (bQ below D E [] a v (some (.int r0)) args s 0 0) (F0 m 12 ls []) := by
    intro  H locs ls hf hB hl
    have hf := (fX7_isBlank_J12.eq_1  ).symm.trans hf
    refine lv_iconst (v := 1) hx hb dX7_isBlank_12 (by decide) ?_
    refine lv_goto (tgt := 17) hx hb dX7_isBlank_13 (by decide) ?_
    exact bk_zR X hr rfl rfl hf hB (Nat.le_of_ble_eq_true rfl) (Nat.le_of_ble_eq_true rfl) dX7_isBlank_17
  refine lv_icmp_eq (tgt := 12) hx hb dX7_isBlank_3 (by decide) (fun c1 => ?_) (fun c1 => ?_)
  · have hf := (if_pos c1).symm.trans hf
    exact hJ12  H locs ls hf hB (lv_sub hl [] rfl)
  · have hf := (if_neg c1).symm.trans hf
    refine lv_iload_n hx hb dX7_isBlank_6 rfl (lv_at hl 0 rfl) ?_
    refine lv_bipush (v := 10) hx hb dX7_isBlank_7 (by decide) ?_
    refine lv_icmp_ne (tgt := 16) hx hb dX7_isBlank_9 (by decide) (fun c2 => ?_) (fun c2 => ?_)
    · have hf := (if_neg c2).symm.trans hf
      refine lv_iconst (v := 0) hx hb dX7_isBlank_16 (by decide) ?_
      exact bk_zR X hr rfl rfl hf hB (Nat.le_of_ble_eq_true rfl) (Nat.le_of_ble_eq_true rfl) dX7_isBlank_17
    · have hf := (if_pos c2).symm.trans hf
      exact hJ12  H locs ls hf hB (lv_sub hl [] rfl)
theorem ys_X7_isBlank : bYs yX7_isBlank RX7 cX7_isBlank 1 (some .boolean) 1 := ⟨⟨rfl, by decide, by decide, rfl⟩, wm_445, wm_9, wm_446⟩

theorem dX7_isLetter_0 : decode cX7_isLetter 0 = .ok (.iload_n 0, 1) := by decide +kernel
theorem dX7_isLetter_1 : decode cX7_isLetter 1 = .ok (.bipush 97, 2) := by decide +kernel
theorem dX7_isLetter_3 : decode cX7_isLetter 3 = .ok (.if_icmp .lt 13, 3) := by decide +kernel
theorem dX7_isLetter_6 : decode cX7_isLetter 6 = .ok (.iload_n 0, 1) := by decide +kernel
theorem dX7_isLetter_7 : decode cX7_isLetter 7 = .ok (.bipush 122, 2) := by decide +kernel
theorem dX7_isLetter_9 : decode cX7_isLetter 9 = .ok (.if_icmp .gt 7, 3) := by decide +kernel
theorem dX7_isLetter_12 : decode cX7_isLetter 12 = .ok (.iconst 1, 1) := by decide +kernel
theorem dX7_isLetter_13 : decode cX7_isLetter 13 = .ok (.goto 4, 3) := by decide +kernel
theorem dX7_isLetter_16 : decode cX7_isLetter 16 = .ok (.iconst 0, 1) := by decide +kernel
theorem dX7_isLetter_17 : decode cX7_isLetter 17 = .ok (.ireturn, 1) := by decide +kernel
def fX7_isLetter (p0 : Int32) : Option Int32 :=
  (if p0 < 97 then (some (0)) else ((if 122 < p0 then (some (0)) else (some (1)))))
set_option maxRecDepth 100000 in
set_option maxHeartbeats 4000000 in
theorem mX7_isLetter {l : Launch} {p0 : Int32} {v : bM} {r0 : Int32} (hf : fX7_isLetter p0 = some r0) : bMet l yX7_isLetter cX7_isLetter 1 (some .boolean) 0 0 0 [] (fun E a => [.int p0]) v v (fun _ => some (.int r0)) := by
  refine bk_start (by decide +kernel) bWf_nil (fun _ _ => Nat.le_of_ble_eq_true rfl) ?_
  intro p e s m args below meth c D E a ls H locs X hr hl hB
  have hx := X.1
  have hb := X.2.1
  have hown := X.2.2.2.1
  have hts := X.2.2.2.2.1
  have hl : lv_has ls 1 [(0, .int p0)] := hl
  have hf := (fX7_isLetter.eq_1 p0).symm.trans hf
  refine lv_iload_n hx hb dX7_isLetter_0 rfl (lv_at hl 0 rfl) ?_
  refine lv_bipush (v := 97) hx hb dX7_isLetter_1 (by decide) ?_
  refine lv_icmp_lt (tgt := 16) hx hb dX7_isLetter_3 (by decide) (fun c1 => ?_) (fun c1 => ?_)
  · have hf := (if_pos c1).symm.trans hf
    refine lv_iconst (v := 0) hx hb dX7_isLetter_16 (by decide) ?_
    exact bk_zR X hr rfl rfl hf hB (Nat.le_of_ble_eq_true rfl) (Nat.le_of_ble_eq_true rfl) dX7_isLetter_17
  · have hf := (if_neg c1).symm.trans hf
    refine lv_iload_n hx hb dX7_isLetter_6 rfl (lv_at hl 0 rfl) ?_
    refine lv_bipush (v := 122) hx hb dX7_isLetter_7 (by decide) ?_
    refine lv_icmp_gt (tgt := 16) hx hb dX7_isLetter_9 (by decide) (fun c2 => ?_) (fun c2 => ?_)
    · have hf := (if_pos c2).symm.trans hf
      refine lv_iconst (v := 0) hx hb dX7_isLetter_16 (by decide) ?_
      exact bk_zR X hr rfl rfl hf hB (Nat.le_of_ble_eq_true rfl) (Nat.le_of_ble_eq_true rfl) dX7_isLetter_17
    · have hf := (if_neg c2).symm.trans hf
      refine lv_iconst (v := 1) hx hb dX7_isLetter_12 (by decide) ?_
      refine lv_goto (tgt := 17) hx hb dX7_isLetter_13 (by decide) ?_
      exact bk_zR X hr rfl rfl hf hB (Nat.le_of_ble_eq_true rfl) (Nat.le_of_ble_eq_true rfl) dX7_isLetter_17
theorem ys_X7_isLetter : bYs yX7_isLetter RX7 cX7_isLetter 1 (some .boolean) 1 := ⟨⟨rfl, by decide, by decide, rfl⟩, wm_452, wm_9, wm_453⟩

theorem dX7_isDigit_0 : decode cX7_isDigit 0 = .ok (.iload_n 0, 1) := by decide +kernel
theorem dX7_isDigit_1 : decode cX7_isDigit 1 = .ok (.bipush 48, 2) := by decide +kernel
theorem dX7_isDigit_3 : decode cX7_isDigit 3 = .ok (.if_icmp .lt 13, 3) := by decide +kernel
theorem dX7_isDigit_6 : decode cX7_isDigit 6 = .ok (.iload_n 0, 1) := by decide +kernel
theorem dX7_isDigit_7 : decode cX7_isDigit 7 = .ok (.bipush 57, 2) := by decide +kernel
theorem dX7_isDigit_9 : decode cX7_isDigit 9 = .ok (.if_icmp .gt 7, 3) := by decide +kernel
theorem dX7_isDigit_12 : decode cX7_isDigit 12 = .ok (.iconst 1, 1) := by decide +kernel
theorem dX7_isDigit_13 : decode cX7_isDigit 13 = .ok (.goto 4, 3) := by decide +kernel
theorem dX7_isDigit_16 : decode cX7_isDigit 16 = .ok (.iconst 0, 1) := by decide +kernel
theorem dX7_isDigit_17 : decode cX7_isDigit 17 = .ok (.ireturn, 1) := by decide +kernel
def fX7_isDigit (p0 : Int32) : Option Int32 :=
  (if p0 < 48 then (some (0)) else ((if 57 < p0 then (some (0)) else (some (1)))))
set_option maxRecDepth 100000 in
set_option maxHeartbeats 4000000 in
theorem mX7_isDigit {l : Launch} {p0 : Int32} {v : bM} {r0 : Int32} (hf : fX7_isDigit p0 = some r0) : bMet l yX7_isDigit cX7_isDigit 1 (some .boolean) 0 0 0 [] (fun E a => [.int p0]) v v (fun _ => some (.int r0)) := by
  refine bk_start (by decide +kernel) bWf_nil (fun _ _ => Nat.le_of_ble_eq_true rfl) ?_
  intro p e s m args below meth c D E a ls H locs X hr hl hB
  have hx := X.1
  have hb := X.2.1
  have hown := X.2.2.2.1
  have hts := X.2.2.2.2.1
  have hl : lv_has ls 1 [(0, .int p0)] := hl
  have hf := (fX7_isDigit.eq_1 p0).symm.trans hf
  refine lv_iload_n hx hb dX7_isDigit_0 rfl (lv_at hl 0 rfl) ?_
  refine lv_bipush (v := 48) hx hb dX7_isDigit_1 (by decide) ?_
  refine lv_icmp_lt (tgt := 16) hx hb dX7_isDigit_3 (by decide) (fun c1 => ?_) (fun c1 => ?_)
  · have hf := (if_pos c1).symm.trans hf
    refine lv_iconst (v := 0) hx hb dX7_isDigit_16 (by decide) ?_
    exact bk_zR X hr rfl rfl hf hB (Nat.le_of_ble_eq_true rfl) (Nat.le_of_ble_eq_true rfl) dX7_isDigit_17
  · have hf := (if_neg c1).symm.trans hf
    refine lv_iload_n hx hb dX7_isDigit_6 rfl (lv_at hl 0 rfl) ?_
    refine lv_bipush (v := 57) hx hb dX7_isDigit_7 (by decide) ?_
    refine lv_icmp_gt (tgt := 16) hx hb dX7_isDigit_9 (by decide) (fun c2 => ?_) (fun c2 => ?_)
    · have hf := (if_pos c2).symm.trans hf
      refine lv_iconst (v := 0) hx hb dX7_isDigit_16 (by decide) ?_
      exact bk_zR X hr rfl rfl hf hB (Nat.le_of_ble_eq_true rfl) (Nat.le_of_ble_eq_true rfl) dX7_isDigit_17
    · have hf := (if_neg c2).symm.trans hf
      refine lv_iconst (v := 1) hx hb dX7_isDigit_12 (by decide) ?_
      refine lv_goto (tgt := 17) hx hb dX7_isDigit_13 (by decide) ?_
      exact bk_zR X hr rfl rfl hf hB (Nat.le_of_ble_eq_true rfl) (Nat.le_of_ble_eq_true rfl) dX7_isDigit_17
theorem ys_X7_isDigit : bYs yX7_isDigit RX7 cX7_isDigit 1 (some .boolean) 1 := ⟨⟨rfl, by decide, by decide, rfl⟩, wm_482, wm_9, wm_483⟩

theorem dX7_numberOf_0 : decode cX7_numberOf 0 = .ok (.iconst 0, 1) := by decide +kernel
theorem dX7_numberOf_1 : decode cX7_numberOf 1 = .ok (.istore_n 3, 1) := by decide +kernel
theorem dX7_numberOf_2 : decode cX7_numberOf 2 = .ok (.iload_n 1, 1) := by decide +kernel
theorem dX7_numberOf_3 : decode cX7_numberOf 3 = .ok (.istore 4, 2) := by decide +kernel
theorem dX7_numberOf_5 : decode cX7_numberOf 5 = .ok (.iload 4, 2) := by decide +kernel
theorem dX7_numberOf_7 : decode cX7_numberOf 7 = .ok (.iload_n 2, 1) := by decide +kernel
theorem dX7_numberOf_8 : decode cX7_numberOf 8 = .ok (.if_icmp .ge 30, 3) := by decide +kernel
theorem dX7_numberOf_11 : decode cX7_numberOf 11 = .ok (.iload_n 3, 1) := by decide +kernel
theorem dX7_numberOf_12 : decode cX7_numberOf 12 = .ok (.bipush 10, 2) := by decide +kernel
theorem dX7_numberOf_14 : decode cX7_numberOf 14 = .ok (.imul, 1) := by decide +kernel
theorem dX7_numberOf_15 : decode cX7_numberOf 15 = .ok (.aload_n 0, 1) := by decide +kernel
theorem dX7_numberOf_16 : decode cX7_numberOf 16 = .ok (.getfield 9, 3) := by decide +kernel
theorem dX7_numberOf_19 : decode cX7_numberOf 19 = .ok (.iload 4, 2) := by decide +kernel
theorem dX7_numberOf_21 : decode cX7_numberOf 21 = .ok (.iaload, 1) := by decide +kernel
theorem dX7_numberOf_22 : decode cX7_numberOf 22 = .ok (.iadd, 1) := by decide +kernel
theorem dX7_numberOf_23 : decode cX7_numberOf 23 = .ok (.bipush 48, 2) := by decide +kernel
theorem dX7_numberOf_25 : decode cX7_numberOf 25 = .ok (.isub, 1) := by decide +kernel
theorem dX7_numberOf_26 : decode cX7_numberOf 26 = .ok (.ldc 55, 2) := by decide +kernel
theorem dX7_numberOf_28 : decode cX7_numberOf 28 = .ok (.invokestatic 56, 3) := by decide +kernel
theorem dX7_numberOf_31 : decode cX7_numberOf 31 = .ok (.istore_n 3, 1) := by decide +kernel
theorem dX7_numberOf_32 : decode cX7_numberOf 32 = .ok (.iinc 4 1, 3) := by decide +kernel
theorem dX7_numberOf_35 : decode cX7_numberOf 35 = .ok (.goto (-30), 3) := by decide +kernel
theorem dX7_numberOf_38 : decode cX7_numberOf 38 = .ok (.iload_n 3, 1) := by decide +kernel
theorem dX7_numberOf_39 : decode cX7_numberOf 39 = .ok (.ireturn, 1) := by decide +kernel
def fX7_numberOf_L5 (p2 : Int32) (v : bM) (k5 : Int32 → Int32 → Option Int32) (y1 : Int32) (y2 : Int32) : Option Int32 :=
  (if p2 ≤ y2 then (some (y1)) else (ck y2 700 <| nm (if 1000000 < (((y1 * 10) + (v (3 + y2.toNatClampNeg))) - 48) then 1000000 else (((y1 * 10) + (v (3 + y2.toNatClampNeg))) - 48)) fun x5 => nm (y2 + 1) fun x6 => k5 x5 x6))
def fX7_numberOf (p1 : Int32) (p2 : Int32) (v : bM) : Option Int32 :=
  lp (fX7_numberOf_L5 p2 v) (fun _ _ => none) lpN 0 p1
set_option maxRecDepth 100000 in
set_option maxHeartbeats 4000000 in
theorem mX7_numberOf {l : Launch} {p1 : Int32} {p2 : Int32} {v : bM} {r0 : Int32} (hf : fX7_numberOf p1 p2 v = some r0) : bMet l yX7_numberOf cX7_numberOf 5 (some .int) 1 0 0 LTx (fun E a => [.ref a, .int p1, .int p2]) v v (fun _ => some (.int r0)) := by
  refine bk_start (by decide +kernel) wfTx (fun _ _ => Nat.le_of_ble_eq_true rfl) ?_
  intro p e s m args below meth c D E a ls H locs X hr hl hB
  have hx := X.1
  have hb := X.2.1
  have hown := X.2.2.2.1
  have hts := X.2.2.2.2.1
  have hl : lv_has ls 5 [(0, .ref a), (1, .int p1), (2, .int p2)] := hl
  have hf := (fX7_numberOf.eq_1 p1 p2 v).symm.trans hf
  refine lv_iconst (v := 0) hx hb dX7_numberOf_0 (by decide) ?_
  refine lv_istore_n (lv' := [(3, .int 0), (0, .ref a), (1, .int p1), (2, .int p2)]) hx hb dX7_numberOf_1 rfl hl (by decide) rfl (fun ls hl => ?_)
  refine lv_iload_n hx hb dX7_numberOf_2 rfl (lv_at hl 2 rfl) ?_
  refine lv_istore (lv' := [(4, .int p1), (3, .int 0), (0, .ref a), (1, .int p1), (2, .int p2)]) hx hb dX7_numberOf_3 hl (by decide) rfl (fun ls hl => ?_)
  have hL5 : ∀ (n5 : Nat) (y1 y2 : Int32) (H : Heap) (locs : List Loc) (ls : Array Slot), lp (fX7_numberOf_L5 p2 v) (fun _ _ => none) n5 y1 y2 = some r0 → bB D E LTx a v s H locs → lv_has ls 5 [(0, .ref a), (2, .int p2), (3, .int y1), (4, .int y2)] → W p l e (rmOf 1 0 0) s m args below meth c H locs 0 0 (bQ below D E LTx a v (some (.int r0)) args s 0 0) (F0 m 5 ls []) := by
    intro n5
    induction n5 with
    | zero => intro y1 y2 H locs ls hf; cases (show (none : Option Int32) = some r0 from hf)
    | succ n5 ih5 =>
      intro y1 y2 H locs ls hf hB hl
      have hf := (fX7_numberOf_L5.eq_1 p2 v (lp (fX7_numberOf_L5 p2 v) (fun _ _ => none) n5) y1 y2).symm.trans (show fX7_numberOf_L5 p2 v (lp (fX7_numberOf_L5 p2 v) (fun _ _ => none) n5) y1 y2 = some r0 from hf)
      refine lv_iload hx hb dX7_numberOf_5 (lv_at hl 3 rfl) ?_
      refine lv_iload_n hx hb dX7_numberOf_7 rfl (lv_at hl 1 rfl) ?_
      refine lv_icmp_ge (tgt := 38) hx hb dX7_numberOf_8 (by decide) (fun c3 => ?_) (fun c3 => ?_)
      · have hf := (if_pos c3).symm.trans hf
        refine lv_iload_n hx hb dX7_numberOf_38 rfl (lv_at hl 2 rfl) ?_
        exact bk_iR X hr rfl hf hB (Nat.le_of_ble_eq_true rfl) (Nat.le_of_ble_eq_true rfl) dX7_numberOf_39
      · have hf := (if_neg c3).symm.trans hf
        refine lv_iload_n hx hb dX7_numberOf_11 rfl (lv_at hl 2 rfl) ?_
        refine lv_bipush (v := 10) hx hb dX7_numberOf_12 (by decide) ?_
        refine lv_imul hx hb dX7_numberOf_14 ?_
        refine lv_aload_n hx hb dX7_numberOf_15 rfl (lv_at hl 0 rfl) ?_
        refine bk_getR X hB kl_X7 0 lc_Tx_0 3 (by decide) rfl wm_299 dX7_numberOf_16 ?_
        refine lv_iload hx hb dX7_numberOf_19 (lv_at hl 3 rfl) ?_
        obtain ⟨h4, hf⟩ := ck_some hf
        refine bk_ald X hB 1 lc_Tx_1 h4 dX7_numberOf_21 ?_
        refine lv_iadd hx hb dX7_numberOf_22 ?_
        refine lv_bipush (v := 48) hx hb dX7_numberOf_23 (by decide) ?_
        refine lv_isub hx hb dX7_numberOf_25 ?_
        refine lv_ldc hx hb hown (hts _ wm_488) dX7_numberOf_26 ?_
        refine bk_min X hl.1 wm_489 ⟨Nat.le_of_ble_eq_true rfl, Nat.le_of_ble_eq_true rfl⟩ ⟨Nat.le_of_ble_eq_true rfl, Nat.le_of_ble_eq_true rfl⟩ dX7_numberOf_28 ?_
        refine lv_topi (fun x5 ex5 => ?_)
        have hf := nm_use hf ex5
        refine lv_istore_n (lv' := [(3, .int x5), (0, .ref a), (2, .int p2), (4, .int y2)]) hx hb dX7_numberOf_31 rfl hl (by decide) rfl (fun ls hl => ?_)
        obtain ⟨x6, ex6⟩ : ∃ y : Int32, y = y2 + 1 := ⟨_, rfl⟩
        have hf := nm_use hf ex6
        refine lv_iinc (v := x6) (lv' := [(4, .int x6), (3, .int x5), (0, .ref a), (2, .int p2)]) hx hb dX7_numberOf_32 hl (k := 3) rfl (by rw [ex6]; rfl) (by decide) rfl (fun ls hl => ?_)
        refine lv_goto (tgt := 5) hx hb dX7_numberOf_35 (by decide) ?_
        exact ih5 x5 x6 H locs ls hf hB (lv_sub hl [2, 3, 1, 0] rfl)
  exact hL5 lpN 0 p1 H locs ls hf hB (lv_sub hl [2, 4, 1, 0] rfl)
theorem yv_X7_numberOf : bYv yX7_numberOf RX7 cX7_numberOf 5 (some .int) 2 := ⟨⟨rfl, by decide, by decide, rfl⟩, wm_486, wp_3, wm_9, wm_487⟩
