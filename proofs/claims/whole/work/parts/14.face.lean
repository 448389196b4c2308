theorem dX3_remember_0 : decode cX3_remember 0 = .ok (.aload_n 0, 1) := by decide +kernel
theorem dX3_remember_1 : decode cX3_remember 1 = .ok (.getfield 11, 3) := by decide +kernel
theorem dX3_remember_4 : decode cX3_remember 4 = .ok (.aload_n 0, 1) := by decide +kernel
theorem dX3_remember_5 : decode cX3_remember 5 = .ok (.getfield 18, 3) := by decide +kernel
theorem dX3_remember_8 : decode cX3_remember 8 = .ok (.aaload, 1) := by decide +kernel
theorem dX3_remember_9 : decode cX3_remember 9 = .ok (.aload_n 1, 1) := by decide +kernel
theorem dX3_remember_10 : decode cX3_remember 10 = .ok (.invokevirtual 22, 3) := by decide +kernel
theorem dX3_remember_13 : decode cX3_remember 13 = .ok (.aload_n 0, 1) := by decide +kernel
theorem dX3_remember_14 : decode cX3_remember 14 = .ok (.aload_n 0, 1) := by decide +kernel
theorem dX3_remember_15 : decode cX3_remember 15 = .ok (.getfield 18, 3) := by decide +kernel
theorem dX3_remember_18 : decode cX3_remember 18 = .ok (.iconst 1, 1) := by decide +kernel
theorem dX3_remember_19 : decode cX3_remember 19 = .ok (.iadd, 1) := by decide +kernel
theorem dX3_remember_20 : decode cX3_remember 20 = .ok (.bipush 8, 2) := by decide +kernel
theorem dX3_remember_22 : decode cX3_remember 22 = .ok (.irem, 1) := by decide +kernel
theorem dX3_remember_23 : decode cX3_remember 23 = .ok (.putfield 18, 3) := by decide +kernel
theorem dX3_remember_26 : decode cX3_remember 26 = .ok (.aload_n 0, 1) := by decide +kernel
theorem dX3_remember_27 : decode cX3_remember 27 = .ok (.aload_n 0, 1) := by decide +kernel
theorem dX3_remember_28 : decode cX3_remember 28 = .ok (.getfield 26, 3) := by decide +kernel
theorem dX3_remember_31 : decode cX3_remember 31 = .ok (.iconst 1, 1) := by decide +kernel
theorem dX3_remember_32 : decode cX3_remember 32 = .ok (.iadd, 1) := by decide +kernel
theorem dX3_remember_33 : decode cX3_remember 33 = .ok (.bipush 8, 2) := by decide +kernel
theorem dX3_remember_35 : decode cX3_remember 35 = .ok (.invokestatic 29, 3) := by decide +kernel
theorem dX3_remember_38 : decode cX3_remember 38 = .ok (.putfield 26, 3) := by decide +kernel
theorem dX3_remember_41 : decode cX3_remember 41 = .ok (.return_, 1) := by decide +kernel
def fX3_remember (j1 : Nat) (v : bM) : Option bM :=
  ckn j1 12 <| ck (v 1183) 8 <| nm (2 + (v 1183).toNatClampNeg) fun i2 => cne i2 j1 <| bnw (fX6_copyFrom (vw v (stO i2)) (vw v (stO j1))) fun w4 => nm (spl v (stO i2) 590 w4) fun v6 => nm (((v6 1183) + 1) - ((v6 1183) + 1) / 8 * 8) fun x7 => nm (upd v6 1183 x7) fun v8 => nm (if 8 < ((v8 1182) + 1) then 8 else ((v8 1182) + 1)) fun x9 => nm (upd v8 1182 x9) fun v10 => some v10
set_option maxRecDepth 100000 in
set_option maxHeartbeats 4000000 in
theorem mX3_remember {l : Launch} {j1 : Nat} {v : bM} {w0 : bM} (hf : fX3_remember j1 v = some w0) : bMet l yX3_remember cX3_remember 2 none 4 0 0 LX (fun E a => [.ref (a + 143), .ref (a + stC j1)]) v w0 (fun _ => none) := by
  refine bk_start (by decide +kernel) wfX (fun _ _ => Nat.le_of_ble_eq_true rfl) ?_
  intro p e s m args below meth c D E a ls H locs X hr hl hB
  have hx := X.1
  have hb := X.2.1
  have hown := X.2.2.2.1
  have hts := X.2.2.2.2.1
  have hl : lv_has ls 2 [(0, .ref (a + 143)), (1, .ref (a + (stC j1)))] := hl
  have hf := (fX3_remember.eq_1 j1 v).symm.trans hf
  obtain ⟨hj1, hf⟩ := ckn_some hf
  refine lv_aload_n hx hb dX3_remember_0 rfl (lv_at hl 0 rfl) ?_
  refine bk_getR X hB kl_X3 143 lc_X_143 2 (by decide) rfl wm_275 dX3_remember_1 ?_
  refine lv_aload_n hx hb dX3_remember_4 rfl (lv_at hl 0 rfl) ?_
  refine bk_getI X hB kl_X3 143 lc_X_143 1 (by decide) rfl wm_274 dX3_remember_5 ?_
  obtain ⟨h1, hf⟩ := ck_some hf
  refine bk_sldX X hB 144 lc_X_144 2 (fun j hj => stC_2 j hj) h1 dX3_remember_8 ?_
  obtain ⟨i2, ei2⟩ : ∃ y : Nat, y = 2 + (v 1183).toNatClampNeg := ⟨_, rfl⟩
  have hf := nm_use hf ei2
  rw [← ei2]
  have hi2 : i2 < 12 := by have := vp_lt h1; omega
  refine lv_aload_n hx hb dX3_remember_9 rfl (lv_at hl 1 rfl) ?_
  obtain ⟨h5, hf⟩ := cne_some hf
  obtain ⟨w4, hc3, hf⟩ := bnw_some hf
  refine bk_sub (subX_St _ hi2) hB (fun h1 h2 h3 => bk_runV2 X (Av := [.ref (a + (stC j1))]) (rest := []) (mX6_copyFrom hc3) yv_X6_copyFrom wm_737 ⟨Nat.le_of_ble_eq_true rfl, Nat.le_of_ble_eq_true rfl⟩ rfl rfl hl.1 kl_X6.1 (hB.1.obj ((subX_St _ hi2).at lc_St_0)) (hB.1.sub (subX_St _ hj1)) (apX a hi2 hj1 h5) h1 h2 h3 (Nat.le_of_ble_eq_true rfl) ⟨Nat.le_of_ble_eq_true rfl, Nat.le_of_ble_eq_true rfl⟩ dX3_remember_10) (fun H locs hB => ?_)
  refine W.eq (g2 := F0 m 13 ls []) rfl ?_
  obtain ⟨v6, ev6⟩ : ∃ y : bM, y = spl v (stO i2) 590 w4 := ⟨_, rfl⟩
  have hf := nm_use hf ev6
  rw [← ev6] at hB
  refine lv_aload_n hx hb dX3_remember_13 rfl (lv_at hl 0 rfl) ?_
  refine lv_aload_n hx hb dX3_remember_14 rfl (lv_at hl 0 rfl) ?_
  refine bk_getI X hB kl_X3 143 lc_X_143 1 (by decide) rfl wm_274 dX3_remember_15 ?_
  refine lv_iconst (v := 1) hx hb dX3_remember_18 (by decide) ?_
  refine lv_iadd hx hb dX3_remember_19 ?_
  refine lv_bipush (v := 8) hx hb dX3_remember_20 (by decide) ?_
  refine lv_irem hx hb dX3_remember_22 (by decide) ?_
  refine lv_topi (fun x7 ex7 => ?_)
  have hf := nm_use hf ex7
  refine bk_putI X hB kl_X3 143 lc_X_143 1 (by decide) rfl rfl rfl wm_274 dX3_remember_23 rfl (fun H locs hB => ?_)
  obtain ⟨v8, ev8⟩ : ∃ y : bM, y = upd v6 1183 x7 := ⟨_, rfl⟩
  have hf := nm_use hf ev8
  rw [← ev8] at hB
  refine lv_aload_n hx hb dX3_remember_26 rfl (lv_at hl 0 rfl) ?_
  refine lv_aload_n hx hb dX3_remember_27 rfl (lv_at hl 0 rfl) ?_
  refine bk_getI X hB kl_X3 143 lc_X_143 0 (by decide) rfl wm_272 dX3_remember_28 ?_
  refine lv_iconst (v := 1) hx hb dX3_remember_31 (by decide) ?_
  refine lv_iadd hx hb dX3_remember_32 ?_
  refine lv_bipush (v := 8) hx hb dX3_remember_33 (by decide) ?_
  refine bk_min X hl.1 wm_738 ⟨Nat.le_of_ble_eq_true rfl, Nat.le_of_ble_eq_true rfl⟩ ⟨Nat.le_of_ble_eq_true rfl, Nat.le_of_ble_eq_true rfl⟩ dX3_remember_35 ?_
  refine lv_topi (fun x9 ex9 => ?_)
  have hf := nm_use hf ex9
  refine bk_putI X hB kl_X3 143 lc_X_143 0 (by decide) rfl rfl rfl wm_272 dX3_remember_38 rfl (fun H locs hB => ?_)
  obtain ⟨v10, ev10⟩ : ∃ y : bM, y = upd v8 1182 x9 := ⟨_, rfl⟩
  have hf := nm_use hf ev10
  rw [← ev10] at hB
  exact bk_vW X hr rfl hf hB (Nat.le_of_ble_eq_true rfl) (Nat.le_of_ble_eq_true rfl) dX3_remember_41
theorem yv_X3_remember : bYv yX3_remember RX3 cX3_remember 2 none 1 := ⟨⟨rfl, by decide, by decide, rfl⟩, wm_734, wm_735, wm_7, wm_736⟩

theorem dX3_takeBack_0 : decode cX3_takeBack 0 = .ok (.aload_n 0, 1) := by decide +kernel
theorem dX3_takeBack_1 : decode cX3_takeBack 1 = .ok (.getfield 26, 3) := by decide +kernel
theorem dX3_takeBack_4 : decode cX3_takeBack 4 = .ok (.ifCond .ne 4, 3) := by decide +kernel
theorem dX3_takeBack_7 : decode cX3_takeBack 7 = .ok (.return_, 1) := by decide +kernel
theorem dX3_takeBack_8 : decode cX3_takeBack 8 = .ok (.aload_n 0, 1) := by decide +kernel
theorem dX3_takeBack_9 : decode cX3_takeBack 9 = .ok (.aload_n 0, 1) := by decide +kernel
theorem dX3_takeBack_10 : decode cX3_takeBack 10 = .ok (.getfield 18, 3) := by decide +kernel
theorem dX3_takeBack_13 : decode cX3_takeBack 13 = .ok (.bipush 8, 2) := by decide +kernel
theorem dX3_takeBack_15 : decode cX3_takeBack 15 = .ok (.iadd, 1) := by decide +kernel
theorem dX3_takeBack_16 : decode cX3_takeBack 16 = .ok (.iconst 1, 1) := by decide +kernel
theorem dX3_takeBack_17 : decode cX3_takeBack 17 = .ok (.isub, 1) := by decide +kernel
theorem dX3_takeBack_18 : decode cX3_takeBack 18 = .ok (.bipush 8, 2) := by decide +kernel
theorem dX3_takeBack_20 : decode cX3_takeBack 20 = .ok (.irem, 1) := by decide +kernel
theorem dX3_takeBack_21 : decode cX3_takeBack 21 = .ok (.putfield 18, 3) := by decide +kernel
theorem dX3_takeBack_24 : decode cX3_takeBack 24 = .ok (.aload_n 0, 1) := by decide +kernel
theorem dX3_takeBack_25 : decode cX3_takeBack 25 = .ok (.dup, 1) := by decide +kernel
theorem dX3_takeBack_26 : decode cX3_takeBack 26 = .ok (.getfield 26, 3) := by decide +kernel
theorem dX3_takeBack_29 : decode cX3_takeBack 29 = .ok (.iconst 1, 1) := by decide +kernel
theorem dX3_takeBack_30 : decode cX3_takeBack 30 = .ok (.isub, 1) := by decide +kernel
theorem dX3_takeBack_31 : decode cX3_takeBack 31 = .ok (.putfield 26, 3) := by decide +kernel
theorem dX3_takeBack_34 : decode cX3_takeBack 34 = .ok (.aload_n 1, 1) := by decide +kernel
theorem dX3_takeBack_35 : decode cX3_takeBack 35 = .ok (.aload_n 0, 1) := by decide +kernel
theorem dX3_takeBack_36 : decode cX3_takeBack 36 = .ok (.getfield 11, 3) := by decide +kernel
theorem dX3_takeBack_39 : decode cX3_takeBack 39 = .ok (.aload_n 0, 1) := by decide +kernel
theorem dX3_takeBack_40 : decode cX3_takeBack 40 = .ok (.getfield 18, 3) := by decide +kernel
theorem dX3_takeBack_43 : decode cX3_takeBack 43 = .ok (.aaload, 1) := by decide +kernel
theorem dX3_takeBack_44 : decode cX3_takeBack 44 = .ok (.invokevirtual 22, 3) := by decide +kernel
theorem dX3_takeBack_47 : decode cX3_takeBack 47 = .ok (.return_, 1) := by decide +kernel
def fX3_takeBack (j1 : Nat) (v : bM) : Option bM :=
  ckn j1 12 <| (if (v 1182) = 0 then (some v) else (nm ((((v 1183) + 8) - 1) - (((v 1183) + 8) - 1) / 8 * 8) fun x2 => nm (upd v 1183 x2) fun v3 => nm ((v3 1182) - 1) fun x4 => nm (upd v3 1182 x4) fun v5 => ck (v5 1183) 8 <| nm (2 + (v5 1183).toNatClampNeg) fun i7 => cne j1 i7 <| bnw (fX6_copyFrom (vw v5 (stO j1)) (vw v5 (stO i7))) fun w9 => nm (spl v5 (stO j1) 590 w9) fun v11 => some v11))
set_option maxRecDepth 100000 in
set_option maxHeartbeats 4000000 in
theorem mX3_takeBack {l : Launch} {j1 : Nat} {v : bM} {w0 : bM} (hf : fX3_takeBack j1 v = some w0) : bMet l yX3_takeBack cX3_takeBack 2 none 4 0 0 LX (fun E a => [.ref (a + 143), .ref (a + stC j1)]) v w0 (fun _ => none) := by
  refine bk_start (by decide +kernel) wfX (fun _ _ => Nat.le_of_ble_eq_true rfl) ?_
  intro p e s m args below meth c D E a ls H locs X hr hl hB
  have hx := X.1
  have hb := X.2.1
  have hown := X.2.2.2.1
  have hts := X.2.2.2.2.1
  have hl : lv_has ls 2 [(0, .ref (a + 143)), (1, .ref (a + (stC j1)))] := hl
  have hf := (fX3_takeBack.eq_1 j1 v).symm.trans hf
  obtain ⟨hj1, hf⟩ := ckn_some hf
  refine lv_aload_n hx hb dX3_takeBack_0 rfl (lv_at hl 0 rfl) ?_
  refine bk_getI X hB kl_X3 143 lc_X_143 0 (by decide) rfl wm_272 dX3_takeBack_1 ?_
  refine lv_if_ne (tgt := 8) hx hb dX3_takeBack_4 (by decide) (fun c1 => ?_) (fun c1 => ?_)
  · have hf := (if_neg c1).symm.trans hf
    refine lv_aload_n hx hb dX3_takeBack_8 rfl (lv_at hl 0 rfl) ?_
    refine lv_aload_n hx hb dX3_takeBack_9 rfl (lv_at hl 0 rfl) ?_
    refine bk_getI X hB kl_X3 143 lc_X_143 1 (by decide) rfl wm_274 dX3_takeBack_10 ?_
    refine lv_bipush (v := 8) hx hb dX3_takeBack_13 (by decide) ?_
    refine lv_iadd hx hb dX3_takeBack_15 ?_
    refine lv_iconst (v := 1) hx hb dX3_takeBack_16 (by decide) ?_
    refine lv_isub hx hb dX3_takeBack_17 ?_
    refine lv_bipush (v := 8) hx hb dX3_takeBack_18 (by decide) ?_
    refine lv_irem hx hb dX3_takeBack_20 (by decide) ?_
    refine lv_topi (fun x2 ex2 => ?_)
    have hf := nm_use hf ex2
    refine bk_putI X hB kl_X3 143 lc_X_143 1 (by decide) rfl rfl rfl wm_274 dX3_takeBack_21 rfl (fun H locs hB => ?_)
    obtain ⟨v3, ev3⟩ : ∃ y : bM, y = upd v 1183 x2 := ⟨_, rfl⟩
    have hf := nm_use hf ev3
    rw [← ev3] at hB
    refine lv_aload_n hx hb dX3_takeBack_24 rfl (lv_at hl 0 rfl) ?_
    refine lv_dup hx hb dX3_takeBack_25 rfl ?_
    refine bk_getI X hB kl_X3 143 lc_X_143 0 (by decide) rfl wm_272 dX3_takeBack_26 ?_
    refine lv_iconst (v := 1) hx hb dX3_takeBack_29 (by decide) ?_
    refine lv_isub hx hb dX3_takeBack_30 ?_
    refine lv_topi (fun x4 ex4 => ?_)
    have hf := nm_use hf ex4
    refine bk_putI X hB kl_X3 143 lc_X_143 0 (by decide) rfl rfl rfl wm_272 dX3_takeBack_31 rfl (fun H locs hB => ?_)
    obtain ⟨v5, ev5⟩ : ∃ y : bM, y = upd v3 1182 x4 := ⟨_, rfl⟩
    have hf := nm_use hf ev5
    rw [← ev5] at hB
    refine lv_aload_n hx hb dX3_takeBack_34 rfl (lv_at hl 1 rfl) ?_
    refine lv_aload_n hx hb dX3_takeBack_35 rfl (lv_at hl 0 rfl) ?_
    refine bk_getR X hB kl_X3 143 lc_X_143 2 (by decide) rfl wm_275 dX3_takeBack_36 ?_
    refine lv_aload_n hx hb dX3_takeBack_39 rfl (lv_at hl 0 rfl) ?_
    refine bk_getI X hB kl_X3 143 lc_X_143 1 (by decide) rfl wm_274 dX3_takeBack_40 ?_
    obtain ⟨h6, hf⟩ := ck_some hf
    refine bk_sldX X hB 144 lc_X_144 2 (fun j hj => stC_2 j hj) h6 dX3_takeBack_43 ?_
    obtain ⟨i7, ei7⟩ : ∃ y : Nat, y = 2 + (v5 1183).toNatClampNeg := ⟨_, rfl⟩
    have hf := nm_use hf ei7
    rw [← ei7]
    have hi7 : i7 < 12 := by have := vp_lt h6; omega
    obtain ⟨h10, hf⟩ := cne_some hf
    obtain ⟨w9, hc8, hf⟩ := bnw_some hf
    refine bk_sub (subX_St _ hj1) hB (fun h1 h2 h3 => bk_runV2 X (Av := [.ref (a + (stC i7 + 0))]) (rest := []) (mX6_copyFrom hc8) yv_X6_copyFrom wm_737 ⟨Nat.le_of_ble_eq_true rfl, Nat.le_of_ble_eq_true rfl⟩ rfl rfl hl.1 kl_X6.1 (hB.1.obj ((subX_St _ hj1).at lc_St_0)) (hB.1.sub (subX_St _ hi7)) (apX a hj1 hi7 h10) h1 h2 h3 (Nat.le_of_ble_eq_true rfl) ⟨Nat.le_of_ble_eq_true rfl, Nat.le_of_ble_eq_true rfl⟩ dX3_takeBack_44) (fun H locs hB => ?_)
    refine W.eq (g2 := F0 m 47 ls []) rfl ?_
    obtain ⟨v11, ev11⟩ : ∃ y : bM, y = spl v5 (stO j1) 590 w9 := ⟨_, rfl⟩
    have hf := nm_use hf ev11
    rw [← ev11] at hB
    exact bk_vW X hr rfl hf hB (Nat.le_of_ble_eq_true rfl) (Nat.le_of_ble_eq_true rfl) dX3_takeBack_47
  · have hf := (if_pos c1).symm.trans hf
    exact bk_vW X hr rfl hf hB (Nat.le_of_ble_eq_true rfl) (Nat.le_of_ble_eq_true rfl) dX3_takeBack_7
theorem yv_X3_takeBack : bYv yX3_takeBack RX3 cX3_takeBack 2 none 1 := ⟨⟨rfl, by decide, by decide, rfl⟩, wm_1325, wm_1326, wm_7, wm_1327⟩

theorem dX3_forget_0 : decode cX3_forget 0 = .ok (.aload_n 0, 1) := by decide +kernel
theorem dX3_forget_1 : decode cX3_forget 1 = .ok (.iconst 0, 1) := by decide +kernel
theorem dX3_forget_2 : decode cX3_forget 2 = .ok (.putfield 26, 3) := by decide +kernel
theorem dX3_forget_5 : decode cX3_forget 5 = .ok (.return_, 1) := by decide +kernel
def fX3_forget  (v : bM) : Option bM :=
  nm (upd v 1182 0) fun v1 => some v1
set_option maxRecDepth 100000 in
set_option maxHeartbeats 4000000 in
theorem mX3_forget {l : Launch}  {v : bM} {w0 : bM} (hf : fX3_forget  v = some w0) : bMet l yX3_forget cX3_forget 1 none 0 0 0 LX (fun E a => [.ref (a + 143)]) v w0 (fun _ => none) := by
  refine bk_start (by decide +kernel) wfX (fun _ _ => Nat.le_of_ble_eq_true rfl) ?_
  intro p e s m args below meth c D E a ls H locs X hr hl hB
  have hx := X.1
  have hb := X.2.1
  have hown := X.2.2.2.1
  have hts := X.2.2.2.2.1
  have hl : lv_has ls 1 [(0, .ref (a + 143))] := hl
  have hf := (fX3_forget.eq_1  v).symm.trans hf
  refine lv_aload_n hx hb dX3_forget_0 rfl (lv_at hl 0 rfl) ?_
  refine lv_iconst (v := 0) hx hb dX3_forget_1 (by decide) ?_
  refine bk_putI X hB kl_X3 143 lc_X_143 0 (by decide) rfl rfl rfl wm_272 dX3_forget_2 rfl (fun H locs hB => ?_)
  obtain ⟨v1, ev1⟩ : ∃ y : bM, y = upd v 1182 0 := ⟨_, rfl⟩
  have hf := nm_use hf ev1
  rw [← ev1] at hB
  exact bk_vW X hr rfl hf hB (Nat.le_of_ble_eq_true rfl) (Nat.le_of_ble_eq_true rfl) dX3_forget_5
theorem yv_X3_forget : bYv yX3_forget RX3 cX3_forget 1 none 0 := ⟨⟨rfl, by decide, by decide, rfl⟩, wm_696, wm_697, wm_7, wm_698⟩

theorem dX4_fail_0 : decode cX4_fail 0 = .ok (.aload_n 0, 1) := by decide +kernel
theorem dX4_fail_1 : decode cX4_fail 1 = .ok (.iload_n 1, 1) := by decide +kernel
theorem dX4_fail_2 : decode cX4_fail 2 = .ok (.putfield 33, 3) := by decide +kernel
theorem dX4_fail_5 : decode cX4_fail 5 = .ok (.aload_n 0, 1) := by decide +kernel
theorem dX4_fail_6 : decode cX4_fail 6 = .ok (.aload_n 0, 1) := by decide +kernel
theorem dX4_fail_7 : decode cX4_fail 7 = .ok (.getfield 12, 3) := by decide +kernel
theorem dX4_fail_10 : decode cX4_fail 10 = .ok (.invokevirtual 50, 3) := by decide +kernel
theorem dX4_fail_13 : decode cX4_fail 13 = .ok (.putfield 18, 3) := by decide +kernel
theorem dX4_fail_16 : decode cX4_fail 16 = .ok (.iconst 0, 1) := by decide +kernel
theorem dX4_fail_17 : decode cX4_fail 17 = .ok (.ireturn, 1) := by decide +kernel
def fX4_fail (p1 : Int32) (v : bM) : Option (Int32 × bM) :=
  nm (upd v 7086 p1) fun v1 => bnr (fX7_start (vw v1 7093)) fun r3 => nm (upd v1 7087 r3) fun v4 => some (0, v4)
set_option maxRecDepth 100000 in
set_option maxHeartbeats 4000000 in
theorem mX4_fail {l : Launch} {p1 : Int32} {v : bM} {r0 : Int32} {w0 : bM} (hf : fX4_fail p1 v = some (r0, w0)) : bMet l yX4_fail cX4_fail 2 (some .boolean) 1 0 0 LX (fun E a => [.ref (a + 857), .int p1]) v w0 (fun _ => some (.int r0)) := by
  refine bk_start (by decide +kernel) wfX (fun _ _ => Nat.le_of_ble_eq_true rfl) ?_
  intro p e s m args below meth c D E a ls H locs X hr hl hB
  have hx := X.1
  have hb := X.2.1
  have hown := X.2.2.2.1
  have hts := X.2.2.2.2.1
  have hl : lv_has ls 2 [(0, .ref (a + 857)), (1, .int p1)] := hl
  have hf := (fX4_fail.eq_1 p1 v).symm.trans hf
  refine lv_aload_n hx hb dX4_fail_0 rfl (lv_at hl 0 rfl) ?_
  refine lv_iload_n hx hb dX4_fail_1 rfl (lv_at hl 1 rfl) ?_
  refine bk_putI X hB kl_X4 857 lc_X_857 1 (by decide) rfl rfl rfl wm_321 dX4_fail_2 rfl (fun H locs hB => ?_)
  obtain ⟨v1, ev1⟩ : ∃ y : bM, y = upd v 7086 p1 := ⟨_, rfl⟩
  have hf := nm_use hf ev1
  rw [← ev1] at hB
  refine lv_aload_n hx hb dX4_fail_5 rfl (lv_at hl 0 rfl) ?_
  refine lv_aload_n hx hb dX4_fail_6 rfl (lv_at hl 0 rfl) ?_
  refine bk_getR X hB kl_X4 857 lc_X_857 0 (by decide) rfl wm_319 dX4_fail_7 ?_
  obtain ⟨r3, hc2, hf⟩ := bnr_some hf
  refine bk_subR sub_X_858 hB (fun h1 h2 h3 => bk_runV X (Av := []) (rest := [.ref (a + 857)]) (mX7_start hc2) yv_X7_start wm_504 ⟨Nat.le_of_ble_eq_true rfl, Nat.le_of_ble_eq_true rfl⟩ rfl rfl hl.1 kl_X7.1 (hB.1.obj lc_X_858) h1 h2 h3 (Nat.le_of_ble_eq_true rfl) ⟨Nat.le_of_ble_eq_true rfl, Nat.le_of_ble_eq_true rfl⟩ dX4_fail_10) (fun H locs hB => ?_)
  refine W.eq (g2 := F0 m 13 ls [.int r3, .ref (a + 857)]) rfl ?_
  refine bk_putI X hB kl_X4 857 lc_X_857 2 (by decide) rfl rfl rfl wm_323 dX4_fail_13 rfl (fun H locs hB => ?_)
  obtain ⟨v4, ev4⟩ : ∃ y : bM, y = upd v1 7087 r3 := ⟨_, rfl⟩
  have hf := nm_use hf ev4
  rw [← ev4] at hB
  refine lv_iconst (v := 0) hx hb dX4_fail_16 (by decide) ?_
  exact bk_zW X hr rfl rfl hf hB (Nat.le_of_ble_eq_true rfl) (Nat.le_of_ble_eq_true rfl) dX4_fail_17
theorem yv_X4_fail : bYv yX4_fail RX4 cX4_fail 2 (some .boolean) 1 := ⟨⟨rfl, by decide, by decide, rfl⟩, wm_502, wp_5, wm_8, wm_503⟩

theorem dX4_readNumber_0 : decode cX4_readNumber 0 = .ok (.aload_n 0, 1) := by decide +kernel
theorem dX4_readNumber_1 : decode cX4_readNumber 1 = .ok (.getfield 12, 3) := by decide +kernel
theorem dX4_readNumber_4 : decode cX4_readNumber 4 = .ok (.invokevirtual 43, 3) := by decide +kernel
theorem dX4_readNumber_7 : decode cX4_readNumber 7 = .ok (.iconst 2, 1) := by decide +kernel
theorem dX4_readNumber_8 : decode cX4_readNumber 8 = .ok (.if_icmp .eq 9, 3) := by decide +kernel
theorem dX4_readNumber_11 : decode cX4_readNumber 11 = .ok (.aload_n 0, 1) := by decide +kernel
theorem dX4_readNumber_12 : decode cX4_readNumber 12 = .ok (.iconst 1, 1) := by decide +kernel
theorem dX4_readNumber_13 : decode cX4_readNumber 13 = .ok (.invokevirtual 53, 3) := by decide +kernel
theorem dX4_readNumber_16 : decode cX4_readNumber 16 = .ok (.ireturn, 1) := by decide +kernel
theorem dX4_readNumber_17 : decode cX4_readNumber 17 = .ok (.aload_n 0, 1) := by decide +kernel
theorem dX4_readNumber_18 : decode cX4_readNumber 18 = .ok (.getfield 12, 3) := by decide +kernel
theorem dX4_readNumber_21 : decode cX4_readNumber 21 = .ok (.invokevirtual 102, 3) := by decide +kernel
theorem dX4_readNumber_24 : decode cX4_readNumber 24 = .ok (.iload_n 2, 1) := by decide +kernel
theorem dX4_readNumber_25 : decode cX4_readNumber 25 = .ok (.if_icmp .lt 14, 3) := by decide +kernel
theorem dX4_readNumber_28 : decode cX4_readNumber 28 = .ok (.aload_n 0, 1) := by decide +kernel
theorem dX4_readNumber_29 : decode cX4_readNumber 29 = .ok (.getfield 12, 3) := by decide +kernel
theorem dX4_readNumber_32 : decode cX4_readNumber 32 = .ok (.invokevirtual 102, 3) := by decide +kernel
theorem dX4_readNumber_35 : decode cX4_readNumber 35 = .ok (.iload_n 3, 1) := by decide +kernel
theorem dX4_readNumber_36 : decode cX4_readNumber 36 = .ok (.if_icmp .le 9, 3) := by decide +kernel
theorem dX4_readNumber_39 : decode cX4_readNumber 39 = .ok (.aload_n 0, 1) := by decide +kernel
theorem dX4_readNumber_40 : decode cX4_readNumber 40 = .ok (.iconst 2, 1) := by decide +kernel
theorem dX4_readNumber_41 : decode cX4_readNumber 41 = .ok (.invokevirtual 53, 3) := by decide +kernel
theorem dX4_readNumber_44 : decode cX4_readNumber 44 = .ok (.ireturn, 1) := by decide +kernel
theorem dX4_readNumber_45 : decode cX4_readNumber 45 = .ok (.aload_n 0, 1) := by decide +kernel
theorem dX4_readNumber_46 : decode cX4_readNumber 46 = .ok (.getfield 22, 3) := by decide +kernel
theorem dX4_readNumber_49 : decode cX4_readNumber 49 = .ok (.iload_n 1, 1) := by decide +kernel
theorem dX4_readNumber_50 : decode cX4_readNumber 50 = .ok (.aload_n 0, 1) := by decide +kernel
theorem dX4_readNumber_51 : decode cX4_readNumber 51 = .ok (.getfield 12, 3) := by decide +kernel
theorem dX4_readNumber_54 : decode cX4_readNumber 54 = .ok (.invokevirtual 102, 3) := by decide +kernel
theorem dX4_readNumber_57 : decode cX4_readNumber 57 = .ok (.iastore, 1) := by decide +kernel
theorem dX4_readNumber_58 : decode cX4_readNumber 58 = .ok (.aload_n 0, 1) := by decide +kernel
theorem dX4_readNumber_59 : decode cX4_readNumber 59 = .ok (.getfield 12, 3) := by decide +kernel
theorem dX4_readNumber_62 : decode cX4_readNumber 62 = .ok (.invokevirtual 57, 3) := by decide +kernel
theorem dX4_readNumber_65 : decode cX4_readNumber 65 = .ok (.iconst 1, 1) := by decide +kernel
theorem dX4_readNumber_66 : decode cX4_readNumber 66 = .ok (.ireturn, 1) := by decide +kernel
def fX4_readNumber_J39   (v6 : bM) : Option (Int32 × bM) :=
  bnd (fX4_fail 2 v6) fun r9 w8 => ck r9 2 <| some (r9, w8)
def fX4_readNumber (p1 : Int32) (p2 : Int32) (p3 : Int32) (v : bM) : Option (Int32 × bM) :=
  bnr (fX7_kind (vw v 7093)) fun r2 => (if r2 = 2 then (bnr (fX7_number (vw v 7093)) fun r5 => (if r5 < p2 then (fX4_readNumber_J39 v) else (bnr (fX7_number (vw v 7093)) fun r13 => (if r13 ≤ p3 then (bnr (fX7_number (vw v 7093)) fun r16 => ck p1 3 <| nm (upd v (9899 + p1.toNatClampNeg) r16) fun v18 => bnw (fX7_advance (vw v18 7093)) fun w20 => nm (spl v18 7093 2806 w20) fun v21 => some (1, v21)) else (fX4_readNumber_J39 v))))) else (bnd (fX4_fail 1 v) fun r24 w23 => ck r24 2 <| some (r24, w23)))
set_option maxRecDepth 100000 in
set_option maxHeartbeats 4000000 in
theorem mX4_readNumber {l : Launch} {p1 : Int32} {p2 : Int32} {p3 : Int32} {v : bM} {r0 : Int32} {w0 : bM} (hf : fX4_readNumber p1 p2 p3 v = some (r0, w0)) : bMet l yX4_readNumber cX4_readNumber 4 (some .boolean) 2 0 0 LX (fun E a => [.ref (a + 857), .int p1, .int p2, .int p3]) v w0 (fun _ => some (.int r0)) := by
  refine bk_start (by decide +kernel) wfX (fun _ _ => Nat.le_of_ble_eq_true rfl) ?_
  intro p e s m args below meth c D E a ls H locs X hr hl hB
  have hx := X.1
  have hb := X.2.1
  have hown := X.2.2.2.1
  have hts := X.2.2.2.2.1
  have hl : lv_has ls 4 [(0, .ref (a + 857)), (1, .int p1), (2, .int p2), (3, .int p3)] := hl
  have hf := (fX4_readNumber.eq_1 p1 p2 p3 v).symm.trans hf
  refine lv_aload_n hx hb dX4_readNumber_0 rfl (lv_at hl 0 rfl) ?_
  refine bk_getR X hB kl_X4 857 lc_X_857 0 (by decide) rfl wm_319 dX4_readNumber_1 ?_
  obtain ⟨r2, hc1, hf⟩ := bnr_some hf
  refine bk_subR sub_X_858 hB (fun h1 h2 h3 => bk_runV X (Av := []) (rest := []) (mX7_kind hc1) yv_X7_kind wm_496 ⟨Nat.le_of_ble_eq_true rfl, Nat.le_of_ble_eq_true rfl⟩ rfl rfl hl.1 kl_X7.1 (hB.1.obj lc_X_858) h1 h2 h3 (Nat.le_of_ble_eq_true rfl) ⟨Nat.le_of_ble_eq_true rfl, Nat.le_of_ble_eq_true rfl⟩ dX4_readNumber_4) (fun H locs hB => ?_)
  refine W.eq (g2 := F0 m 7 ls [.int r2]) rfl ?_
  refine lv_iconst (v := 2) hx hb dX4_readNumber_7 (by decide) ?_
  refine lv_icmp_eq (tgt := 17) hx hb dX4_readNumber_8 (by decide) (fun c3 => ?_) (fun c3 => ?_)
  · have hf := (if_pos c3).symm.trans hf
    refine lv_aload_n hx hb dX4_readNumber_17 rfl (lv_at hl 0 rfl) ?_
    refine bk_getR X hB kl_X4 857 lc_X_857 0 (by decide) rfl wm_319 dX4_readNumber_18 ?_
    obtain ⟨r5, hc4, hf⟩ := bnr_some hf
    refine bk_subR sub_X_858 hB (fun h1 h2 h3 => bk_runV X (Av := []) (rest := []) (mX7_number hc4) yv_X7_number wm_517 ⟨Nat.le_of_ble_eq_true rfl, Nat.le_of_ble_eq_true rfl⟩ rfl rfl hl.1 kl_X7.1 (hB.1.obj lc_X_858) h1 h2 h3 (Nat.le_of_ble_eq_true rfl) ⟨Nat.le_of_ble_eq_true rfl, Nat.le_of_ble_eq_true rfl⟩ dX4_readNumber_21) (fun H locs hB => ?_)
    refine W.eq (g2 := F0 m 24 ls [.int r5]) rfl ?_
    refine lv_iload_n hx hb dX4_readNumber_24 rfl (lv_at hl 2 rfl) ?_
    have hJ39 : ∀ (v6 : bM) (H : Heap) (locs : List Loc) (ls : Array Slot), fX4_readNumber_J39 v6 = some (r0, w0) → bB D E LX a v6 s H locs → lv_has ls 4 [(0, .ref (a + 857))] → W p l e (rmOf 2 0 0) s m args below meth c H locs 0 0 (bQ below D E LX a w0 (some (.int r0)) args s 0 0) (F0 m 39 ls []) := by
      intro v6 H locs ls hf hB hl
      have hf := (fX4_readNumber_J39.eq_1  v6).symm.trans hf
      refine lv_aload_n hx hb dX4_readNumber_39 rfl (lv_at hl 0 rfl) ?_
      refine lv_iconst (v := 2) hx hb dX4_readNumber_40 (by decide) ?_
      obtain ⟨r9, w8, hc7, hf⟩ := bnd_some hf
      refine bk_all hB (fun h1 h2 h3 => bk_runV X (Av := [.int 2]) (rest := []) (mX4_fail hc7) yv_X4_fail wm_500 ⟨Nat.le_of_ble_eq_true rfl, Nat.le_of_ble_eq_true rfl⟩ rfl rfl hl.1 kl_X4.1 (hB.1.obj lc_X_857) h1 h2 h3 (Nat.le_of_ble_eq_true rfl) ⟨Nat.le_of_ble_eq_true rfl, Nat.le_of_ble_eq_true rfl⟩ dX4_readNumber_41) (fun H locs hB => ?_)
      refine W.eq (g2 := F0 m 44 ls [.int r9]) rfl ?_
      obtain ⟨h10, hf⟩ := ck_some hf
      exact bk_zW X hr rfl (nar_z h10) hf hB (Nat.le_of_ble_eq_true rfl) (Nat.le_of_ble_eq_true rfl) dX4_readNumber_44
    refine lv_icmp_lt (tgt := 39) hx hb dX4_readNumber_25 (by decide) (fun c11 => ?_) (fun c11 => ?_)
    · have hf := (if_pos c11).symm.trans hf
      exact hJ39 v H locs ls hf hB (lv_sub hl [0] rfl)
    · have hf := (if_neg c11).symm.trans hf
      refine lv_aload_n hx hb dX4_readNumber_28 rfl (lv_at hl 0 rfl) ?_
      refine bk_getR X hB kl_X4 857 lc_X_857 0 (by decide) rfl wm_319 dX4_readNumber_29 ?_
      obtain ⟨r13, hc12, hf⟩ := bnr_some hf
      refine bk_subR sub_X_858 hB (fun h1 h2 h3 => bk_runV X (Av := []) (rest := []) (mX7_number hc12) yv_X7_number wm_517 ⟨Nat.le_of_ble_eq_true rfl, Nat.le_of_ble_eq_true rfl⟩ rfl rfl hl.1 kl_X7.1 (hB.1.obj lc_X_858) h1 h2 h3 (Nat.le_of_ble_eq_true rfl) ⟨Nat.le_of_ble_eq_true rfl, Nat.le_of_ble_eq_true rfl⟩ dX4_readNumber_32) (fun H locs hB => ?_)
      refine W.eq (g2 := F0 m 35 ls [.int r13]) rfl ?_
      refine lv_iload_n hx hb dX4_readNumber_35 rfl (lv_at hl 3 rfl) ?_
      refine lv_icmp_le (tgt := 45) hx hb dX4_readNumber_36 (by decide) (fun c14 => ?_) (fun c14 => ?_)
      · have hf := (if_pos c14).symm.trans hf
        refine lv_aload_n hx hb dX4_readNumber_45 rfl (lv_at hl 0 rfl) ?_
        refine bk_getR X hB kl_X4 857 lc_X_857 8 (by decide) rfl wm_331 dX4_readNumber_46 ?_
        refine lv_iload_n hx hb dX4_readNumber_49 rfl (lv_at hl 1 rfl) ?_
        refine lv_aload_n hx hb dX4_readNumber_50 rfl (lv_at hl 0 rfl) ?_
        refine bk_getR X hB kl_X4 857 lc_X_857 0 (by decide) rfl wm_319 dX4_readNumber_51 ?_
        obtain ⟨r16, hc15, hf⟩ := bnr_some hf
        refine bk_subR sub_X_858 hB (fun h1 h2 h3 => bk_runV X (Av := []) (rest := [.int p1, .ref (a + 863)]) (mX7_number hc15) yv_X7_number wm_517 ⟨Nat.le_of_ble_eq_true rfl, Nat.le_of_ble_eq_true rfl⟩ rfl rfl hl.1 kl_X7.1 (hB.1.obj lc_X_858) h1 h2 h3 (Nat.le_of_ble_eq_true rfl) ⟨Nat.le_of_ble_eq_true rfl, Nat.le_of_ble_eq_true rfl⟩ dX4_readNumber_54) (fun H locs hB => ?_)
        refine W.eq (g2 := F0 m 57 ls [.int r16, .int p1, .ref (a + 863)]) rfl ?_
        obtain ⟨h17, hf⟩ := ck_some hf
        refine bk_ast X hB 863 lc_X_863 h17 dX4_readNumber_57 (fun H locs hB => ?_)
        obtain ⟨v18, ev18⟩ : ∃ y : bM, y = upd v (9899 + p1.toNatClampNeg) r16 := ⟨_, rfl⟩
        have hf := nm_use hf ev18
        rw [← ev18] at hB
        refine lv_aload_n hx hb dX4_readNumber_58 rfl (lv_at hl 0 rfl) ?_
        refine bk_getR X hB kl_X4 857 lc_X_857 0 (by decide) rfl wm_319 dX4_readNumber_59 ?_
        obtain ⟨w20, hc19, hf⟩ := bnw_some hf
        refine bk_sub sub_X_858 hB (fun h1 h2 h3 => bk_runV X (Av := []) (rest := []) (mX7_advance hc19) yv_X7_advance wm_508 ⟨Nat.le_of_ble_eq_true rfl, Nat.le_of_ble_eq_true rfl⟩ rfl rfl hl.1 kl_X7.1 (hB.1.obj lc_X_858) h1 h2 h3 (Nat.le_of_ble_eq_true rfl) ⟨Nat.le_of_ble_eq_true rfl, Nat.le_of_ble_eq_true rfl⟩ dX4_readNumber_62) (fun H locs hB => ?_)
        refine W.eq (g2 := F0 m 65 ls []) rfl ?_
        obtain ⟨v21, ev21⟩ : ∃ y : bM, y = spl v18 7093 2806 w20 := ⟨_, rfl⟩
        have hf := nm_use hf ev21
        rw [← ev21] at hB
        refine lv_iconst (v := 1) hx hb dX4_readNumber_65 (by decide) ?_
        exact bk_zW X hr rfl rfl hf hB (Nat.le_of_ble_eq_true rfl) (Nat.le_of_ble_eq_true rfl) dX4_readNumber_66
      · have hf := (if_neg c14).symm.trans hf
        exact hJ39 v H locs ls hf hB (lv_sub hl [0] rfl)
  · have hf := (if_neg c3).symm.trans hf
    refine lv_aload_n hx hb dX4_readNumber_11 rfl (lv_at hl 0 rfl) ?_
    refine lv_iconst (v := 1) hx hb dX4_readNumber_12 (by decide) ?_
    obtain ⟨r24, w23, hc22, hf⟩ := bnd_some hf
    refine bk_all hB (fun h1 h2 h3 => bk_runV X (Av := [.int 1]) (rest := []) (mX4_fail hc22) yv_X4_fail wm_500 ⟨Nat.le_of_ble_eq_true rfl, Nat.le_of_ble_eq_true rfl⟩ rfl rfl hl.1 kl_X4.1 (hB.1.obj lc_X_857) h1 h2 h3 (Nat.le_of_ble_eq_true rfl) ⟨Nat.le_of_ble_eq_true rfl, Nat.le_of_ble_eq_true rfl⟩ dX4_readNumber_13) (fun H locs hB => ?_)
    refine W.eq (g2 := F0 m 16 ls [.int r24]) rfl ?_
    obtain ⟨h25, hf⟩ := ck_some hf
    exact bk_zW X hr rfl (nar_z h25) hf hB (Nat.le_of_ble_eq_true rfl) (Nat.le_of_ble_eq_true rfl) dX4_readNumber_16
theorem yv_X4_readNumber : bYv yX4_readNumber RX4 cX4_readNumber 4 (some .boolean) 3 := ⟨⟨rfl, by decide, by decide, rfl⟩, wm_515, wp_6, wm_8, wm_516⟩

theorem dX4_readHead_0 : decode cX4_readHead 0 = .ok (.aload_n 0, 1) := by decide +kernel
theorem dX4_readHead_1 : decode cX4_readHead 1 = .ok (.getfield 12, 3) := by decide +kernel
theorem dX4_readHead_4 : decode cX4_readHead 4 = .ok (.invokevirtual 43, 3) := by decide +kernel
theorem dX4_readHead_7 : decode cX4_readHead 7 = .ok (.iconst 5, 1) := by decide +kernel
theorem dX4_readHead_8 : decode cX4_readHead 8 = .ok (.if_icmp .eq 9, 3) := by decide +kernel
theorem dX4_readHead_11 : decode cX4_readHead 11 = .ok (.aload_n 0, 1) := by decide +kernel
theorem dX4_readHead_12 : decode cX4_readHead 12 = .ok (.iconst 1, 1) := by decide +kernel
theorem dX4_readHead_13 : decode cX4_readHead 13 = .ok (.invokevirtual 53, 3) := by decide +kernel
theorem dX4_readHead_16 : decode cX4_readHead 16 = .ok (.ireturn, 1) := by decide +kernel
theorem dX4_readHead_17 : decode cX4_readHead 17 = .ok (.aload_n 0, 1) := by decide +kernel
theorem dX4_readHead_18 : decode cX4_readHead 18 = .ok (.getfield 12, 3) := by decide +kernel
theorem dX4_readHead_21 : decode cX4_readHead 21 = .ok (.invokevirtual 57, 3) := by decide +kernel
theorem dX4_readHead_24 : decode cX4_readHead 24 = .ok (.aload_n 0, 1) := by decide +kernel
theorem dX4_readHead_25 : decode cX4_readHead 25 = .ok (.iconst 0, 1) := by decide +kernel
theorem dX4_readHead_26 : decode cX4_readHead 26 = .ok (.iconst 0, 1) := by decide +kernel
theorem dX4_readHead_27 : decode cX4_readHead 27 = .ok (.ldc 60, 2) := by decide +kernel
theorem dX4_readHead_29 : decode cX4_readHead 29 = .ok (.invokevirtual 61, 3) := by decide +kernel
theorem dX4_readHead_32 : decode cX4_readHead 32 = .ok (.ifCond .eq 24, 3) := by decide +kernel
theorem dX4_readHead_35 : decode cX4_readHead 35 = .ok (.aload_n 0, 1) := by decide +kernel
theorem dX4_readHead_36 : decode cX4_readHead 36 = .ok (.iconst 1, 1) := by decide +kernel
theorem dX4_readHead_37 : decode cX4_readHead 37 = .ok (.iconst 0, 1) := by decide +kernel
theorem dX4_readHead_38 : decode cX4_readHead 38 = .ok (.bipush 20, 2) := by decide +kernel
theorem dX4_readHead_40 : decode cX4_readHead 40 = .ok (.invokevirtual 61, 3) := by decide +kernel
theorem dX4_readHead_43 : decode cX4_readHead 43 = .ok (.ifCond .eq 13, 3) := by decide +kernel
theorem dX4_readHead_46 : decode cX4_readHead 46 = .ok (.aload_n 0, 1) := by decide +kernel
theorem dX4_readHead_47 : decode cX4_readHead 47 = .ok (.iconst 2, 1) := by decide +kernel
theorem dX4_readHead_48 : decode cX4_readHead 48 = .ok (.iconst 1, 1) := by decide +kernel
theorem dX4_readHead_49 : decode cX4_readHead 49 = .ok (.iconst 3, 1) := by decide +kernel
theorem dX4_readHead_50 : decode cX4_readHead 50 = .ok (.invokevirtual 61, 3) := by decide +kernel
theorem dX4_readHead_53 : decode cX4_readHead 53 = .ok (.ifCond .ne 5, 3) := by decide +kernel
theorem dX4_readHead_56 : decode cX4_readHead 56 = .ok (.iconst 0, 1) := by decide +kernel
theorem dX4_readHead_57 : decode cX4_readHead 57 = .ok (.ireturn, 1) := by decide +kernel
theorem dX4_readHead_58 : decode cX4_readHead 58 = .ok (.aload_n 0, 1) := by decide +kernel
theorem dX4_readHead_59 : decode cX4_readHead 59 = .ok (.getfield 12, 3) := by decide +kernel
theorem dX4_readHead_62 : decode cX4_readHead 62 = .ok (.invokevirtual 43, 3) := by decide +kernel
theorem dX4_readHead_65 : decode cX4_readHead 65 = .ok (.iconst 1, 1) := by decide +kernel
theorem dX4_readHead_66 : decode cX4_readHead 66 = .ok (.if_icmp .eq 9, 3) := by decide +kernel
theorem dX4_readHead_69 : decode cX4_readHead 69 = .ok (.aload_n 0, 1) := by decide +kernel
theorem dX4_readHead_70 : decode cX4_readHead 70 = .ok (.iconst 1, 1) := by decide +kernel
theorem dX4_readHead_71 : decode cX4_readHead 71 = .ok (.invokevirtual 53, 3) := by decide +kernel
theorem dX4_readHead_74 : decode cX4_readHead 74 = .ok (.ireturn, 1) := by decide +kernel
theorem dX4_readHead_75 : decode cX4_readHead 75 = .ok (.aload_n 0, 1) := by decide +kernel
theorem dX4_readHead_76 : decode cX4_readHead 76 = .ok (.getfield 26, 3) := by decide +kernel
theorem dX4_readHead_79 : decode cX4_readHead 79 = .ok (.aload_n 0, 1) := by decide +kernel
theorem dX4_readHead_80 : decode cX4_readHead 80 = .ok (.getfield 22, 3) := by decide +kernel
theorem dX4_readHead_83 : decode cX4_readHead 83 = .ok (.iconst 0, 1) := by decide +kernel
theorem dX4_readHead_84 : decode cX4_readHead 84 = .ok (.iaload, 1) := by decide +kernel
theorem dX4_readHead_85 : decode cX4_readHead 85 = .ok (.aload_n 0, 1) := by decide +kernel
theorem dX4_readHead_86 : decode cX4_readHead 86 = .ok (.getfield 22, 3) := by decide +kernel
theorem dX4_readHead_89 : decode cX4_readHead 89 = .ok (.iconst 1, 1) := by decide +kernel
theorem dX4_readHead_90 : decode cX4_readHead 90 = .ok (.iaload, 1) := by decide +kernel
theorem dX4_readHead_91 : decode cX4_readHead 91 = .ok (.aload_n 0, 1) := by decide +kernel
theorem dX4_readHead_92 : decode cX4_readHead 92 = .ok (.getfield 22, 3) := by decide +kernel
theorem dX4_readHead_95 : decode cX4_readHead 95 = .ok (.iconst 2, 1) := by decide +kernel
theorem dX4_readHead_96 : decode cX4_readHead 96 = .ok (.iaload, 1) := by decide +kernel
theorem dX4_readHead_97 : decode cX4_readHead 97 = .ok (.invokevirtual 65, 3) := by decide +kernel
theorem dX4_readHead_100 : decode cX4_readHead 100 = .ok (.aload_n 0, 1) := by decide +kernel
theorem dX4_readHead_101 : decode cX4_readHead 101 = .ok (.getfield 12, 3) := by decide +kernel
theorem dX4_readHead_104 : decode cX4_readHead 104 = .ok (.invokevirtual 57, 3) := by decide +kernel
theorem dX4_readHead_107 : decode cX4_readHead 107 = .ok (.iconst 1, 1) := by decide +kernel
theorem dX4_readHead_108 : decode cX4_readHead 108 = .ok (.ireturn, 1) := by decide +kernel
def fX4_readHead  (v : bM) : Option (Int32 × bM) :=
  bnr (fX7_kind (vw v 7093)) fun r2 => (if r2 = 5 then (bnw (fX7_advance (vw v 7093)) fun w5 => nm (spl v 7093 2806 w5) fun v6 => bnd (fX4_readNumber 0 0 99999 v6) fun r9 w8 => (if r9 = 0 then (some (0, w8)) else (bnd (fX4_readNumber 1 0 20 w8) fun r13 w12 => (if r13 = 0 then (some (0, w12)) else (bnd (fX4_readNumber 2 1 3 w12) fun r17 w16 => (if r17 = 0 then (some (0, w16)) else (bnr (fX7_kind (vw w16 7093)) fun r20 => (if r20 = 1 then (ck (w16 7089) 12 <| nm (w16 7089).toNatClampNeg fun i23 => bnw (fX6_open (w16 (9899 + (0 : Int32).toNatClampNeg)) (w16 (9899 + (1 : Int32).toNatClampNeg)) (w16 (9899 + (2 : Int32).toNatClampNeg)) (vw w16 (stO i23))) fun w25 => nm (spl w16 (stO i23) 590 w25) fun v26 => bnw (fX7_advance (vw v26 7093)) fun w28 => nm (spl v26 7093 2806 w28) fun v29 => some (1, v29)) else (bnd (fX4_fail 1 w16) fun r32 w31 => ck r32 2 <| some (r32, w31)))))))))) else (bnd (fX4_fail 1 v) fun r36 w35 => ck r36 2 <| some (r36, w35)))
set_option maxRecDepth 100000 in
set_option maxHeartbeats 4000000 in
theorem mX4_readHead {l : Launch}  {v : bM} {r0 : Int32} {w0 : bM} (hf : fX4_readHead  v = some (r0, w0)) : bMet l yX4_readHead cX4_readHead 1 (some .boolean) 3 0 0 LX (fun E a => [.ref (a + 857)]) v w0 (fun _ => some (.int r0)) := by
  refine bk_start (by decide +kernel) wfX (fun _ _ => Nat.le_of_ble_eq_true rfl) ?_
  intro p e s m args below meth c D E a ls H locs X hr hl hB
  have hx := X.1
  have hb := X.2.1
  have hown := X.2.2.2.1
  have hts := X.2.2.2.2.1
  have hl : lv_has ls 1 [(0, .ref (a + 857))] := hl
  have hf := (fX4_readHead.eq_1  v).symm.trans hf
  refine lv_aload_n hx hb dX4_readHead_0 rfl (lv_at hl 0 rfl) ?_
  refine bk_getR X hB kl_X4 857 lc_X_857 0 (by decide) rfl wm_319 dX4_readHead_1 ?_
  obtain ⟨r2, hc1, hf⟩ := bnr_some hf
  refine bk_subR sub_X_858 hB (fun h1 h2 h3 => bk_runV X (Av := []) (rest := []) (mX7_kind hc1) yv_X7_kind wm_496 ⟨Nat.le_of_ble_eq_true rfl, Nat.le_of_ble_eq_true rfl⟩ rfl rfl hl.1 kl_X7.1 (hB.1.obj lc_X_858) h1 h2 h3 (Nat.le_of_ble_eq_true rfl) ⟨Nat.le_of_ble_eq_true rfl, Nat.le_of_ble_eq_true rfl⟩ dX4_readHead_4) (fun H locs hB => ?_)
  refine W.eq (g2 := F0 m 7 ls [.int r2]) rfl ?_
  refine lv_iconst (v := 5) hx hb dX4_readHead_7 (by decide) ?_
  refine lv_icmp_eq (tgt := 17) hx hb dX4_readHead_8 (by decide) (fun c3 => ?_) (fun c3 => ?_)
  · have hf := (if_pos c3).symm.trans hf
    refine lv_aload_n hx hb dX4_readHead_17 rfl (lv_at hl 0 rfl) ?_
    refine bk_getR X hB kl_X4 857 lc_X_857 0 (by decide) rfl wm_319 dX4_readHead_18 ?_
    obtain ⟨w5, hc4, hf⟩ := bnw_some hf
    refine bk_sub sub_X_858 hB (fun h1 h2 h3 => bk_runV X (Av := []) (rest := []) (mX7_advance hc4) yv_X7_advance wm_508 ⟨Nat.le_of_ble_eq_true rfl, Nat.le_of_ble_eq_true rfl⟩ rfl rfl hl.1 kl_X7.1 (hB.1.obj lc_X_858) h1 h2 h3 (Nat.le_of_ble_eq_true rfl) ⟨Nat.le_of_ble_eq_true rfl, Nat.le_of_ble_eq_true rfl⟩ dX4_readHead_21) (fun H locs hB => ?_)
    refine W.eq (g2 := F0 m 24 ls []) rfl ?_
    obtain ⟨v6, ev6⟩ : ∃ y : bM, y = spl v 7093 2806 w5 := ⟨_, rfl⟩
    have hf := nm_use hf ev6
    rw [← ev6] at hB
    refine lv_aload_n hx hb dX4_readHead_24 rfl (lv_at hl 0 rfl) ?_
    refine lv_iconst (v := 0) hx hb dX4_readHead_25 (by decide) ?_
    refine lv_iconst (v := 0) hx hb dX4_readHead_26 (by decide) ?_
    refine lv_ldc hx hb hown (hts _ wm_512) dX4_readHead_27 ?_
    obtain ⟨r9, w8, hc7, hf⟩ := bnd_some hf
    refine bk_all hB (fun h1 h2 h3 => bk_runV X (Av := [.int 0, .int 0, .int 99999]) (rest := []) (mX4_readNumber hc7) yv_X4_readNumber wm_513 ⟨Nat.le_of_ble_eq_true rfl, Nat.le_of_ble_eq_true rfl⟩ rfl rfl hl.1 kl_X4.1 (hB.1.obj lc_X_857) h1 h2 h3 (Nat.le_of_ble_eq_true rfl) ⟨Nat.le_of_ble_eq_true rfl, Nat.le_of_ble_eq_true rfl⟩ dX4_readHead_29) (fun H locs hB => ?_)
    refine W.eq (g2 := F0 m 32 ls [.int r9]) rfl ?_
    refine lv_if_eq (tgt := 56) hx hb dX4_readHead_32 (by decide) (fun c10 => ?_) (fun c10 => ?_)
    · have hf := (if_pos c10).symm.trans hf
      refine lv_iconst (v := 0) hx hb dX4_readHead_56 (by decide) ?_
      exact bk_zW X hr rfl rfl hf hB (Nat.le_of_ble_eq_true rfl) (Nat.le_of_ble_eq_true rfl) dX4_readHead_57
    · have hf := (if_neg c10).symm.trans hf
      refine lv_aload_n hx hb dX4_readHead_35 rfl (lv_at hl 0 rfl) ?_
      refine lv_iconst (v := 1) hx hb dX4_readHead_36 (by decide) ?_
      refine lv_iconst (v := 0) hx hb dX4_readHead_37 (by decide) ?_
      refine lv_bipush (v := 20) hx hb dX4_readHead_38 (by decide) ?_
      obtain ⟨r13, w12, hc11, hf⟩ := bnd_some hf
      refine bk_all hB (fun h1 h2 h3 => bk_runV X (Av := [.int 1, .int 0, .int 20]) (rest := []) (mX4_readNumber hc11) yv_X4_readNumber wm_513 ⟨Nat.le_of_ble_eq_true rfl, Nat.le_of_ble_eq_true rfl⟩ rfl rfl hl.1 kl_X4.1 (hB.1.obj lc_X_857) h1 h2 h3 (Nat.le_of_ble_eq_true rfl) ⟨Nat.le_of_ble_eq_true rfl, Nat.le_of_ble_eq_true rfl⟩ dX4_readHead_40) (fun H locs hB => ?_)
      refine W.eq (g2 := F0 m 43 ls [.int r13]) rfl ?_
      refine lv_if_eq (tgt := 56) hx hb dX4_readHead_43 (by decide) (fun c14 => ?_) (fun c14 => ?_)
      · have hf := (if_pos c14).symm.trans hf
        refine lv_iconst (v := 0) hx hb dX4_readHead_56 (by decide) ?_
        exact bk_zW X hr rfl rfl hf hB (Nat.le_of_ble_eq_true rfl) (Nat.le_of_ble_eq_true rfl) dX4_readHead_57
      · have hf := (if_neg c14).symm.trans hf
        refine lv_aload_n hx hb dX4_readHead_46 rfl (lv_at hl 0 rfl) ?_
        refine lv_iconst (v := 2) hx hb dX4_readHead_47 (by decide) ?_
        refine lv_iconst (v := 1) hx hb dX4_readHead_48 (by decide) ?_
        refine lv_iconst (v := 3) hx hb dX4_readHead_49 (by decide) ?_
        obtain ⟨r17, w16, hc15, hf⟩ := bnd_some hf
        refine bk_all hB (fun h1 h2 h3 => bk_runV X (Av := [.int 2, .int 1, .int 3]) (rest := []) (mX4_readNumber hc15) yv_X4_readNumber wm_513 ⟨Nat.le_of_ble_eq_true rfl, Nat.le_of_ble_eq_true rfl⟩ rfl rfl hl.1 kl_X4.1 (hB.1.obj lc_X_857) h1 h2 h3 (Nat.le_of_ble_eq_true rfl) ⟨Nat.le_of_ble_eq_true rfl, Nat.le_of_ble_eq_true rfl⟩ dX4_readHead_50) (fun H locs hB => ?_)
        refine W.eq (g2 := F0 m 53 ls [.int r17]) rfl ?_
        refine lv_if_ne (tgt := 58) hx hb dX4_readHead_53 (by decide) (fun c18 => ?_) (fun c18 => ?_)
        · have hf := (if_neg c18).symm.trans hf
          refine lv_aload_n hx hb dX4_readHead_58 rfl (lv_at hl 0 rfl) ?_
          refine bk_getR X hB kl_X4 857 lc_X_857 0 (by decide) rfl wm_319 dX4_readHead_59 ?_
          obtain ⟨r20, hc19, hf⟩ := bnr_some hf
          refine bk_subR sub_X_858 hB (fun h1 h2 h3 => bk_runV X (Av := []) (rest := []) (mX7_kind hc19) yv_X7_kind wm_496 ⟨Nat.le_of_ble_eq_true rfl, Nat.le_of_ble_eq_true rfl⟩ rfl rfl hl.1 kl_X7.1 (hB.1.obj lc_X_858) h1 h2 h3 (Nat.le_of_ble_eq_true rfl) ⟨Nat.le_of_ble_eq_true rfl, Nat.le_of_ble_eq_true rfl⟩ dX4_readHead_62) (fun H locs hB => ?_)
          refine W.eq (g2 := F0 m 65 ls [.int r20]) rfl ?_
          refine lv_iconst (v := 1) hx hb dX4_readHead_65 (by decide) ?_
          refine lv_icmp_eq (tgt := 75) hx hb dX4_readHead_66 (by decide) (fun c21 => ?_) (fun c21 => ?_)
          · have hf := (if_pos c21).symm.trans hf
            refine lv_aload_n hx hb dX4_readHead_75 rfl (lv_at hl 0 rfl) ?_
            obtain ⟨h22, hf⟩ := ck_some hf
            refine bk_getS X hB kl_X4 857 lc_X_857 4 (by decide) rfl h22 wm_327 dX4_readHead_76 ?_
            obtain ⟨i23, ei23⟩ : ∃ y : Nat, y = (w16 7089).toNatClampNeg := ⟨_, rfl⟩
            have hf := nm_use hf ei23
            rw [← ei23]
            have hi23 : i23 < 12 := by rw [ei23]; exact vp_lt h22
            refine lv_aload_n hx hb dX4_readHead_79 rfl (lv_at hl 0 rfl) ?_
            refine bk_getR X hB kl_X4 857 lc_X_857 8 (by decide) rfl wm_331 dX4_readHead_80 ?_
            refine lv_iconst (v := 0) hx hb dX4_readHead_83 (by decide) ?_
            refine bk_ald X hB 863 lc_X_863 (vp_c 0 3 rfl) dX4_readHead_84 ?_
            refine lv_aload_n hx hb dX4_readHead_85 rfl (lv_at hl 0 rfl) ?_
            refine bk_getR X hB kl_X4 857 lc_X_857 8 (by decide) rfl wm_331 dX4_readHead_86 ?_
            refine lv_iconst (v := 1) hx hb dX4_readHead_89 (by decide) ?_
            refine bk_ald X hB 863 lc_X_863 (vp_c 1 3 rfl) dX4_readHead_90 ?_
            refine lv_aload_n hx hb dX4_readHead_91 rfl (lv_at hl 0 rfl) ?_
            refine bk_getR X hB kl_X4 857 lc_X_857 8 (by decide) rfl wm_331 dX4_readHead_92 ?_
            refine lv_iconst (v := 2) hx hb dX4_readHead_95 (by decide) ?_
            refine bk_ald X hB 863 lc_X_863 (vp_c 2 3 rfl) dX4_readHead_96 ?_
            obtain ⟨w25, hc24, hf⟩ := bnw_some hf
            refine bk_sub (subX_St _ hi23) hB (fun h1 h2 h3 => bk_runV X (Av := [.int (w16 (9899 + (0 : Int32).toNatClampNeg)), .int (w16 (9899 + (1 : Int32).toNatClampNeg)), .int (w16 (9899 + (2 : Int32).toNatClampNeg))]) (rest := []) (mX6_open hc24) yv_X6_open wm_521 ⟨Nat.le_of_ble_eq_true rfl, Nat.le_of_ble_eq_true rfl⟩ rfl rfl hl.1 kl_X6.1 (hB.1.obj ((subX_St _ hi23).at lc_St_0)) h1 h2 h3 (Nat.le_of_ble_eq_true rfl) ⟨Nat.le_of_ble_eq_true rfl, Nat.le_of_ble_eq_true rfl⟩ dX4_readHead_97) (fun H locs hB => ?_)
            refine W.eq (g2 := F0 m 100 ls []) rfl ?_
            obtain ⟨v26, ev26⟩ : ∃ y : bM, y = spl w16 (stO i23) 590 w25 := ⟨_, rfl⟩
            have hf := nm_use hf ev26
            rw [← ev26] at hB
            refine lv_aload_n hx hb dX4_readHead_100 rfl (lv_at hl 0 rfl) ?_
            refine bk_getR X hB kl_X4 857 lc_X_857 0 (by decide) rfl wm_319 dX4_readHead_101 ?_
            obtain ⟨w28, hc27, hf⟩ := bnw_some hf
            refine bk_sub sub_X_858 hB (fun h1 h2 h3 => bk_runV X (Av := []) (rest := []) (mX7_advance hc27) yv_X7_advance wm_508 ⟨Nat.le_of_ble_eq_true rfl, Nat.le_of_ble_eq_true rfl⟩ rfl rfl hl.1 kl_X7.1 (hB.1.obj lc_X_858) h1 h2 h3 (Nat.le_of_ble_eq_true rfl) ⟨Nat.le_of_ble_eq_true rfl, Nat.le_of_ble_eq_true rfl⟩ dX4_readHead_104) (fun H locs hB => ?_)
            refine W.eq (g2 := F0 m 107 ls []) rfl ?_
            obtain ⟨v29, ev29⟩ : ∃ y : bM, y = spl v26 7093 2806 w28 := ⟨_, rfl⟩
            have hf := nm_use hf ev29
            rw [← ev29] at hB
            refine lv_iconst (v := 1) hx hb dX4_readHead_107 (by decide) ?_
            exact bk_zW X hr rfl rfl hf hB (Nat.le_of_ble_eq_true rfl) (Nat.le_of_ble_eq_true rfl) dX4_readHead_108
          · have hf := (if_neg c21).symm.trans hf
            refine lv_aload_n hx hb dX4_readHead_69 rfl (lv_at hl 0 rfl) ?_
            refine lv_iconst (v := 1) hx hb dX4_readHead_70 (by decide) ?_
            obtain ⟨r32, w31, hc30, hf⟩ := bnd_some hf
            refine bk_all hB (fun h1 h2 h3 => bk_runV X (Av := [.int 1]) (rest := []) (mX4_fail hc30) yv_X4_fail wm_500 ⟨Nat.le_of_ble_eq_true rfl, Nat.le_of_ble_eq_true rfl⟩ rfl rfl hl.1 kl_X4.1 (hB.1.obj lc_X_857) h1 h2 h3 (Nat.le_of_ble_eq_true rfl) ⟨Nat.le_of_ble_eq_true rfl, Nat.le_of_ble_eq_true rfl⟩ dX4_readHead_71) (fun H locs hB => ?_)
            refine W.eq (g2 := F0 m 74 ls [.int r32]) rfl ?_
            obtain ⟨h33, hf⟩ := ck_some hf
            exact bk_zW X hr rfl (nar_z h33) hf hB (Nat.le_of_ble_eq_true rfl) (Nat.le_of_ble_eq_true rfl) dX4_readHead_74
        · have hf := (if_pos c18).symm.trans hf
          refine lv_iconst (v := 0) hx hb dX4_readHead_56 (by decide) ?_
          exact bk_zW X hr rfl rfl hf hB (Nat.le_of_ble_eq_true rfl) (Nat.le_of_ble_eq_true rfl) dX4_readHead_57
  · have hf := (if_neg c3).symm.trans hf
    refine lv_aload_n hx hb dX4_readHead_11 rfl (lv_at hl 0 rfl) ?_
    refine lv_iconst (v := 1) hx hb dX4_readHead_12 (by decide) ?_
    obtain ⟨r36, w35, hc34, hf⟩ := bnd_some hf
    refine bk_all hB (fun h1 h2 h3 => bk_runV X (Av := [.int 1]) (rest := []) (mX4_fail hc34) yv_X4_fail wm_500 ⟨Nat.le_of_ble_eq_true rfl, Nat.le_of_ble_eq_true rfl⟩ rfl rfl hl.1 kl_X4.1 (hB.1.obj lc_X_857) h1 h2 h3 (Nat.le_of_ble_eq_true rfl) ⟨Nat.le_of_ble_eq_true rfl, Nat.le_of_ble_eq_true rfl⟩ dX4_readHead_13) (fun H locs hB => ?_)
    refine W.eq (g2 := F0 m 16 ls [.int r36]) rfl ?_
    obtain ⟨h37, hf⟩ := ck_some hf
    exact bk_zW X hr rfl (nar_z h37) hf hB (Nat.le_of_ble_eq_true rfl) (Nat.le_of_ble_eq_true rfl) dX4_readHead_16
theorem yv_X4_readHead : bYv yX4_readHead RX4 cX4_readHead 1 (some .boolean) 0 := ⟨⟨rfl, by decide, by decide, rfl⟩, wm_494, wp_4, wm_8, wm_495⟩

theorem dX4_isBeyondLimit_0 : decode cX4_isBeyondLimit 0 = .ok (.aload_n 0, 1) := by decide +kernel
theorem dX4_isBeyondLimit_1 : decode cX4_isBeyondLimit 1 = .ok (.getfield 36, 3) := by decide +kernel
theorem dX4_isBeyondLimit_4 : decode cX4_isBeyondLimit 4 = .ok (.bipush 40, 2) := by decide +kernel
theorem dX4_isBeyondLimit_6 : decode cX4_isBeyondLimit 6 = .ok (.if_icmp .ge 45, 3) := by decide +kernel
theorem dX4_isBeyondLimit_9 : decode cX4_isBeyondLimit 9 = .ok (.iload_n 1, 1) := by decide +kernel
theorem dX4_isBeyondLimit_10 : decode cX4_isBeyondLimit 10 = .ok (.bipush 6, 2) := by decide +kernel
theorem dX4_isBeyondLimit_12 : decode cX4_isBeyondLimit 12 = .ok (.if_icmp .ne 18, 3) := by decide +kernel
theorem dX4_isBeyondLimit_15 : decode cX4_isBeyondLimit 15 = .ok (.aload_n 0, 1) := by decide +kernel
theorem dX4_isBeyondLimit_16 : decode cX4_isBeyondLimit 16 = .ok (.getfield 26, 3) := by decide +kernel
theorem dX4_isBeyondLimit_19 : decode cX4_isBeyondLimit 19 = .ok (.getfield 83, 3) := by decide +kernel
theorem dX4_isBeyondLimit_22 : decode cX4_isBeyondLimit 22 = .ok (.getfield 87, 3) := by decide +kernel
theorem dX4_isBeyondLimit_25 : decode cX4_isBeyondLimit 25 = .ok (.bipush 6, 2) := by decide +kernel
theorem dX4_isBeyondLimit_27 : decode cX4_isBeyondLimit 27 = .ok (.if_icmp .ge 24, 3) := by decide +kernel
theorem dX4_isBeyondLimit_30 : decode cX4_isBeyondLimit 30 = .ok (.iload_n 1, 1) := by decide +kernel
theorem dX4_isBeyondLimit_31 : decode cX4_isBeyondLimit 31 = .ok (.bipush 7, 2) := by decide +kernel
theorem dX4_isBeyondLimit_33 : decode cX4_isBeyondLimit 33 = .ok (.if_icmp .ne 22, 3) := by decide +kernel
theorem dX4_isBeyondLimit_36 : decode cX4_isBeyondLimit 36 = .ok (.aload_n 0, 1) := by decide +kernel
theorem dX4_isBeyondLimit_37 : decode cX4_isBeyondLimit 37 = .ok (.getfield 26, 3) := by decide +kernel
theorem dX4_isBeyondLimit_40 : decode cX4_isBeyondLimit 40 = .ok (.getfield 92, 3) := by decide +kernel
theorem dX4_isBeyondLimit_43 : decode cX4_isBeyondLimit 43 = .ok (.getfield 96, 3) := by decide +kernel
theorem dX4_isBeyondLimit_46 : decode cX4_isBeyondLimit 46 = .ok (.bipush 6, 2) := by decide +kernel
theorem dX4_isBeyondLimit_48 : decode cX4_isBeyondLimit 48 = .ok (.if_icmp .lt 7, 3) := by decide +kernel
theorem dX4_isBeyondLimit_51 : decode cX4_isBeyondLimit 51 = .ok (.iconst 1, 1) := by decide +kernel
theorem dX4_isBeyondLimit_52 : decode cX4_isBeyondLimit 52 = .ok (.goto 4, 3) := by decide +kernel
theorem dX4_isBeyondLimit_55 : decode cX4_isBeyondLimit 55 = .ok (.iconst 0, 1) := by decide +kernel
theorem dX4_isBeyondLimit_56 : decode cX4_isBeyondLimit 56 = .ok (.ireturn, 1) := by decide +kernel
def fX4_isBeyondLimit_J51   : Option Int32 :=
  some (1)
def fX4_isBeyondLimit_J30 (p1 : Int32) (v : bM)  : Option Int32 :=
  (if p1 = 7 then (ck (v 7089) 12 <| nm (v 7089).toNatClampNeg fun i4 => (if (v (stO i4 + 175)) < 6 then (some (0)) else (fX4_isBeyondLimit_J51 ))) else (some (0)))
def fX4_isBeyondLimit (p1 : Int32) (v : bM) : Option Int32 :=
  (if 40 ≤ (v 7088) then (fX4_isBeyondLimit_J51 ) else ((if p1 = 6 then (ck (v 7089) 12 <| nm (v 7089).toNatClampNeg fun i8 => (if 6 ≤ (v (stO i8 + 6)) then (fX4_isBeyondLimit_J51 ) else (fX4_isBeyondLimit_J30 p1 v ))) else (fX4_isBeyondLimit_J30 p1 v ))))
set_option maxRecDepth 100000 in
set_option maxHeartbeats 4000000 in
theorem mX4_isBeyondLimit {l : Launch} {p1 : Int32} {v : bM} {r0 : Int32} (hf : fX4_isBeyondLimit p1 v = some r0) : bMet l yX4_isBeyondLimit cX4_isBeyondLimit 2 (some .boolean) 0 0 0 LX (fun E a => [.ref (a + 857), .int p1]) v v (fun _ => some (.int r0)) := by
  refine bk_start (by decide +kernel) wfX (fun _ _ => Nat.le_of_ble_eq_true rfl) ?_
  intro p e s m args below meth c D E a ls H locs X hr hl hB
  have hx := X.1
  have hb := X.2.1
  have hown := X.2.2.2.1
  have hts := X.2.2.2.2.1
  have hl : lv_has ls 2 [(0, .ref (a + 857)), (1, .int p1)] := hl
  have hf := (fX4_isBeyondLimit.eq_1 p1 v).symm.trans hf
  refine lv_aload_n hx hb dX4_isBeyondLimit_0 rfl (lv_at hl 0 rfl) ?_
  refine bk_getI X hB kl_X4 857 lc_X_857 3 (by decide) rfl wm_325 dX4_isBeyondLimit_1 ?_
  refine lv_bipush (v := 40) hx hb dX4_isBeyondLimit_4 (by decide) ?_
  have hJ51 : ∀ (H : Heap) (locs : List Loc) (ls : Array Slot), fX4_isBeyondLimit_J51  = some r0 → bB D E LX a v s H locs → lv_has ls 2 [] → W p l e (rmOf 0 0 0) s m args below meth c H locs 0 0 (bQ below D E LX a v (some (.int r0)) args s 0 0) (F0 m 51 ls []) := by
    intro  H locs ls hf hB hl
    have hf := (fX4_isBeyondLimit_J51.eq_1  ).symm.trans hf
    refine lv_iconst (v := 1) hx hb dX4_isBeyondLimit_51 (by decide) ?_
    refine lv_goto (tgt := 56) hx hb dX4_isBeyondLimit_52 (by decide) ?_
    exact bk_zR X hr rfl rfl hf hB (Nat.le_of_ble_eq_true rfl) (Nat.le_of_ble_eq_true rfl) dX4_isBeyondLimit_56
  refine lv_icmp_ge (tgt := 51) hx hb dX4_isBeyondLimit_6 (by decide) (fun c1 => ?_) (fun c1 => ?_)
  · have hf := (if_pos c1).symm.trans hf
    exact hJ51  H locs ls hf hB (lv_sub hl [] rfl)
  · have hf := (if_neg c1).symm.trans hf
    refine lv_iload_n hx hb dX4_isBeyondLimit_9 rfl (lv_at hl 1 rfl) ?_
    refine lv_bipush (v := 6) hx hb dX4_isBeyondLimit_10 (by decide) ?_
    have hJ30 : ∀ (H : Heap) (locs : List Loc) (ls : Array Slot), fX4_isBeyondLimit_J30 p1 v  = some r0 → bB D E LX a v s H locs → lv_has ls 2 [(0, .ref (a + 857)), (1, .int p1)] → W p l e (rmOf 0 0 0) s m args below meth c H locs 0 0 (bQ below D E LX a v (some (.int r0)) args s 0 0) (F0 m 30 ls []) := by
      intro  H locs ls hf hB hl
      have hf := (fX4_isBeyondLimit_J30.eq_1 p1 v ).symm.trans hf
      refine lv_iload_n hx hb dX4_isBeyondLimit_30 rfl (lv_at hl 1 rfl) ?_
      refine lv_bipush (v := 7) hx hb dX4_isBeyondLimit_31 (by decide) ?_
      refine lv_icmp_ne (tgt := 55) hx hb dX4_isBeyondLimit_33 (by decide) (fun c2 => ?_) (fun c2 => ?_)
      · have hf := (if_neg c2).symm.trans hf
        refine lv_iconst (v := 0) hx hb dX4_isBeyondLimit_55 (by decide) ?_
        exact bk_zR X hr rfl rfl hf hB (Nat.le_of_ble_eq_true rfl) (Nat.le_of_ble_eq_true rfl) dX4_isBeyondLimit_56
      · have hf := (if_pos c2).symm.trans hf
        refine lv_aload_n hx hb dX4_isBeyondLimit_36 rfl (lv_at hl 0 rfl) ?_
        obtain ⟨h3, hf⟩ := ck_some hf
        refine bk_getS X hB kl_X4 857 lc_X_857 4 (by decide) rfl h3 wm_327 dX4_isBeyondLimit_37 ?_
        obtain ⟨i4, ei4⟩ : ∃ y : Nat, y = (v 7089).toNatClampNeg := ⟨_, rfl⟩
        have hf := nm_use hf ei4
        rw [← ei4]
        have hi4 : i4 < 12 := by rw [ei4]; exact vp_lt h3
        refine bk_getR X hB kl_X6 (stC i4 + 0) ((subX_St _ hi4).at lc_St_0) 7 (by decide) rfl wm_235 dX4_isBeyondLimit_40 ?_
        refine bk_getI X hB kl_X1 (stC i4 + 20) ((subX_St _ hi4).at lc_St_20) 0 (by decide) rfl wm_99 dX4_isBeyondLimit_43 ?_
        refine lv_bipush (v := 6) hx hb dX4_isBeyondLimit_46 (by decide) ?_
        refine lv_icmp_lt (tgt := 55) hx hb dX4_isBeyondLimit_48 (by decide) (fun c5 => ?_) (fun c5 => ?_)
        · have hf := (if_pos c5).symm.trans hf
          refine lv_iconst (v := 0) hx hb dX4_isBeyondLimit_55 (by decide) ?_
          exact bk_zR X hr rfl rfl hf hB (Nat.le_of_ble_eq_true rfl) (Nat.le_of_ble_eq_true rfl) dX4_isBeyondLimit_56
        · have hf := (if_neg c5).symm.trans hf
          exact hJ51  H locs ls hf hB (lv_sub hl [] rfl)
    refine lv_icmp_ne (tgt := 30) hx hb dX4_isBeyondLimit_12 (by decide) (fun c6 => ?_) (fun c6 => ?_)
    · have hf := (if_neg c6).symm.trans hf
      exact hJ30  H locs ls hf hB (lv_sub hl [0, 1] rfl)
    · have hf := (if_pos c6).symm.trans hf
      refine lv_aload_n hx hb dX4_isBeyondLimit_15 rfl (lv_at hl 0 rfl) ?_
      obtain ⟨h7, hf⟩ := ck_some hf
      refine bk_getS X hB kl_X4 857 lc_X_857 4 (by decide) rfl h7 wm_327 dX4_isBeyondLimit_16 ?_
      obtain ⟨i8, ei8⟩ : ∃ y : Nat, y = (v 7089).toNatClampNeg := ⟨_, rfl⟩
      have hf := nm_use hf ei8
      rw [← ei8]
      have hi8 : i8 < 12 := by rw [ei8]; exact vp_lt h7
      refine bk_getR X hB kl_X6 (stC i8 + 0) ((subX_St _ hi8).at lc_St_0) 6 (by decide) rfl wm_232 dX4_isBeyondLimit_19 ?_
      refine bk_getI X hB kl_X2 (stC i8 + 1) ((subX_St _ hi8).at lc_St_1) 0 (by decide) rfl wm_56 dX4_isBeyondLimit_22 ?_
      refine lv_bipush (v := 6) hx hb dX4_isBeyondLimit_25 (by decide) ?_
      refine lv_icmp_ge (tgt := 51) hx hb dX4_isBeyondLimit_27 (by decide) (fun c9 => ?_) (fun c9 => ?_)
      · have hf := (if_pos c9).symm.trans hf
        exact hJ51  H locs ls hf hB (lv_sub hl [] rfl)
      · have hf := (if_neg c9).symm.trans hf
        exact hJ30  H locs ls hf hB (lv_sub hl [0, 1] rfl)
theorem yv_X4_isBeyondLimit : bYv yX4_isBeyondLimit RX4 cX4_isBeyondLimit 2 (some .boolean) 1 := ⟨⟨rfl, by decide, by decide, rfl⟩, wm_535, wp_8, wm_8, wm_536⟩

theorem dX4_readNumbers_0 : decode cX4_readNumbers 0 = .ok (.aload_n 0, 1) := by decide +kernel
theorem dX4_readNumbers_1 : decode cX4_readNumbers 1 = .ok (.getfield 26, 3) := by decide +kernel
theorem dX4_readNumbers_4 : decode cX4_readNumbers 4 = .ok (.getfield 83, 3) := by decide +kernel
theorem dX4_readNumbers_7 : decode cX4_readNumbers 7 = .ok (.getfield 87, 3) := by decide +kernel
theorem dX4_readNumbers_10 : decode cX4_readNumbers 10 = .ok (.iconst 1, 1) := by decide +kernel
theorem dX4_readNumbers_11 : decode cX4_readNumbers 11 = .ok (.isub, 1) := by decide +kernel
theorem dX4_readNumbers_12 : decode cX4_readNumbers 12 = .ok (.istore_n 2, 1) := by decide +kernel
theorem dX4_readNumbers_13 : decode cX4_readNumbers 13 = .ok (.aload_n 0, 1) := by decide +kernel
theorem dX4_readNumbers_14 : decode cX4_readNumbers 14 = .ok (.getfield 26, 3) := by decide +kernel
theorem dX4_readNumbers_17 : decode cX4_readNumbers 17 = .ok (.getfield 92, 3) := by decide +kernel
theorem dX4_readNumbers_20 : decode cX4_readNumbers 20 = .ok (.getfield 96, 3) := by decide +kernel
theorem dX4_readNumbers_23 : decode cX4_readNumbers 23 = .ok (.iconst 1, 1) := by decide +kernel
theorem dX4_readNumbers_24 : decode cX4_readNumbers 24 = .ok (.isub, 1) := by decide +kernel
theorem dX4_readNumbers_25 : decode cX4_readNumbers 25 = .ok (.istore_n 3, 1) := by decide +kernel
theorem dX4_readNumbers_26 : decode cX4_readNumbers 26 = .ok (.iload_n 1, 1) := by decide +kernel
theorem dX4_readNumbers_27 : decode cX4_readNumbers 27 = .ok (.tableswitch 226 6 11 #[37, 46, 94, 132, 160, 187], 37) := by decide +kernel
theorem dX4_readNumbers_64 : decode cX4_readNumbers 64 = .ok (.aload_n 0, 1) := by decide +kernel
theorem dX4_readNumbers_65 : decode cX4_readNumbers 65 = .ok (.iconst 0, 1) := by decide +kernel
theorem dX4_readNumbers_66 : decode cX4_readNumbers 66 = .ok (.iconst 1, 1) := by decide +kernel
theorem dX4_readNumbers_67 : decode cX4_readNumbers 67 = .ok (.bipush 99, 2) := by decide +kernel
theorem dX4_readNumbers_69 : decode cX4_readNumbers 69 = .ok (.invokevirtual 61, 3) := by decide +kernel
theorem dX4_readNumbers_72 : decode cX4_readNumbers 72 = .ok (.ireturn, 1) := by decide +kernel
theorem dX4_readNumbers_73 : decode cX4_readNumbers 73 = .ok (.aload_n 0, 1) := by decide +kernel
theorem dX4_readNumbers_74 : decode cX4_readNumbers 74 = .ok (.iconst 0, 1) := by decide +kernel
theorem dX4_readNumbers_75 : decode cX4_readNumbers 75 = .ok (.iconst 1, 1) := by decide +kernel
theorem dX4_readNumbers_76 : decode cX4_readNumbers 76 = .ok (.sipush 999, 3) := by decide +kernel
theorem dX4_readNumbers_79 : decode cX4_readNumbers 79 = .ok (.invokevirtual 61, 3) := by decide +kernel
theorem dX4_readNumbers_82 : decode cX4_readNumbers 82 = .ok (.ifCond .eq 37, 3) := by decide +kernel
theorem dX4_readNumbers_85 : decode cX4_readNumbers 85 = .ok (.aload_n 0, 1) := by decide +kernel
theorem dX4_readNumbers_86 : decode cX4_readNumbers 86 = .ok (.iconst 1, 1) := by decide +kernel
theorem dX4_readNumbers_87 : decode cX4_readNumbers 87 = .ok (.iconst 1, 1) := by decide +kernel
theorem dX4_readNumbers_88 : decode cX4_readNumbers 88 = .ok (.bipush 9, 2) := by decide +kernel
theorem dX4_readNumbers_90 : decode cX4_readNumbers 90 = .ok (.invokevirtual 61, 3) := by decide +kernel
theorem dX4_readNumbers_93 : decode cX4_readNumbers 93 = .ok (.ifCond .eq 26, 3) := by decide +kernel
theorem dX4_readNumbers_96 : decode cX4_readNumbers 96 = .ok (.aload_n 0, 1) := by decide +kernel
theorem dX4_readNumbers_97 : decode cX4_readNumbers 97 = .ok (.iconst 2, 1) := by decide +kernel
theorem dX4_readNumbers_98 : decode cX4_readNumbers 98 = .ok (.iconst 1, 1) := by decide +kernel
theorem dX4_readNumbers_99 : decode cX4_readNumbers 99 = .ok (.aload_n 0, 1) := by decide +kernel
theorem dX4_readNumbers_100 : decode cX4_readNumbers 100 = .ok (.getfield 26, 3) := by decide +kernel
theorem dX4_readNumbers_103 : decode cX4_readNumbers 103 = .ok (.getfield 83, 3) := by decide +kernel
theorem dX4_readNumbers_106 : decode cX4_readNumbers 106 = .ok (.invokevirtual 99, 3) := by decide +kernel
theorem dX4_readNumbers_109 : decode cX4_readNumbers 109 = .ok (.invokevirtual 61, 3) := by decide +kernel
theorem dX4_readNumbers_112 : decode cX4_readNumbers 112 = .ok (.ifCond .eq 7, 3) := by decide +kernel
theorem dX4_readNumbers_115 : decode cX4_readNumbers 115 = .ok (.iconst 1, 1) := by decide +kernel
theorem dX4_readNumbers_116 : decode cX4_readNumbers 116 = .ok (.goto 4, 3) := by decide +kernel
theorem dX4_readNumbers_119 : decode cX4_readNumbers 119 = .ok (.iconst 0, 1) := by decide +kernel
theorem dX4_readNumbers_120 : decode cX4_readNumbers 120 = .ok (.ireturn, 1) := by decide +kernel
theorem dX4_readNumbers_121 : decode cX4_readNumbers 121 = .ok (.aload_n 0, 1) := by decide +kernel
theorem dX4_readNumbers_122 : decode cX4_readNumbers 122 = .ok (.iconst 0, 1) := by decide +kernel
theorem dX4_readNumbers_123 : decode cX4_readNumbers 123 = .ok (.iconst 0, 1) := by decide +kernel
theorem dX4_readNumbers_124 : decode cX4_readNumbers 124 = .ok (.iload_n 2, 1) := by decide +kernel
theorem dX4_readNumbers_125 : decode cX4_readNumbers 125 = .ok (.invokevirtual 61, 3) := by decide +kernel
theorem dX4_readNumbers_128 : decode cX4_readNumbers 128 = .ok (.ifCond .eq 29, 3) := by decide +kernel
theorem dX4_readNumbers_131 : decode cX4_readNumbers 131 = .ok (.aload_n 0, 1) := by decide +kernel
theorem dX4_readNumbers_132 : decode cX4_readNumbers 132 = .ok (.iconst 1, 1) := by decide +kernel
theorem dX4_readNumbers_133 : decode cX4_readNumbers 133 = .ok (.iconst 1, 1) := by decide +kernel
theorem dX4_readNumbers_134 : decode cX4_readNumbers 134 = .ok (.bipush 99, 2) := by decide +kernel
theorem dX4_readNumbers_136 : decode cX4_readNumbers 136 = .ok (.invokevirtual 61, 3) := by decide +kernel
theorem dX4_readNumbers_139 : decode cX4_readNumbers 139 = .ok (.ifCond .eq 18, 3) := by decide +kernel
theorem dX4_readNumbers_142 : decode cX4_readNumbers 142 = .ok (.aload_n 0, 1) := by decide +kernel
theorem dX4_readNumbers_143 : decode cX4_readNumbers 143 = .ok (.iconst 2, 1) := by decide +kernel
theorem dX4_readNumbers_144 : decode cX4_readNumbers 144 = .ok (.iconst 1, 1) := by decide +kernel
theorem dX4_readNumbers_145 : decode cX4_readNumbers 145 = .ok (.bipush 99, 2) := by decide +kernel
theorem dX4_readNumbers_147 : decode cX4_readNumbers 147 = .ok (.invokevirtual 61, 3) := by decide +kernel
theorem dX4_readNumbers_150 : decode cX4_readNumbers 150 = .ok (.ifCond .eq 7, 3) := by decide +kernel
theorem dX4_readNumbers_153 : decode cX4_readNumbers 153 = .ok (.iconst 1, 1) := by decide +kernel
theorem dX4_readNumbers_154 : decode cX4_readNumbers 154 = .ok (.goto 4, 3) := by decide +kernel
theorem dX4_readNumbers_157 : decode cX4_readNumbers 157 = .ok (.iconst 0, 1) := by decide +kernel
theorem dX4_readNumbers_158 : decode cX4_readNumbers 158 = .ok (.ireturn, 1) := by decide +kernel
theorem dX4_readNumbers_159 : decode cX4_readNumbers 159 = .ok (.aload_n 0, 1) := by decide +kernel
theorem dX4_readNumbers_160 : decode cX4_readNumbers 160 = .ok (.iconst 0, 1) := by decide +kernel
theorem dX4_readNumbers_161 : decode cX4_readNumbers 161 = .ok (.iconst 0, 1) := by decide +kernel
theorem dX4_readNumbers_162 : decode cX4_readNumbers 162 = .ok (.bipush 23, 2) := by decide +kernel
theorem dX4_readNumbers_164 : decode cX4_readNumbers 164 = .ok (.invokevirtual 61, 3) := by decide +kernel
theorem dX4_readNumbers_167 : decode cX4_readNumbers 167 = .ok (.ifCond .eq 18, 3) := by decide +kernel
theorem dX4_readNumbers_170 : decode cX4_readNumbers 170 = .ok (.aload_n 0, 1) := by decide +kernel
theorem dX4_readNumbers_171 : decode cX4_readNumbers 171 = .ok (.iconst 1, 1) := by decide +kernel
theorem dX4_readNumbers_172 : decode cX4_readNumbers 172 = .ok (.iconst 0, 1) := by decide +kernel
theorem dX4_readNumbers_173 : decode cX4_readNumbers 173 = .ok (.bipush 20, 2) := by decide +kernel
theorem dX4_readNumbers_175 : decode cX4_readNumbers 175 = .ok (.invokevirtual 61, 3) := by decide +kernel
theorem dX4_readNumbers_178 : decode cX4_readNumbers 178 = .ok (.ifCond .eq 7, 3) := by decide +kernel
theorem dX4_readNumbers_181 : decode cX4_readNumbers 181 = .ok (.iconst 1, 1) := by decide +kernel
theorem dX4_readNumbers_182 : decode cX4_readNumbers 182 = .ok (.goto 4, 3) := by decide +kernel
theorem dX4_readNumbers_185 : decode cX4_readNumbers 185 = .ok (.iconst 0, 1) := by decide +kernel
theorem dX4_readNumbers_186 : decode cX4_readNumbers 186 = .ok (.ireturn, 1) := by decide +kernel
theorem dX4_readNumbers_187 : decode cX4_readNumbers 187 = .ok (.aload_n 0, 1) := by decide +kernel
theorem dX4_readNumbers_188 : decode cX4_readNumbers 188 = .ok (.iconst 0, 1) := by decide +kernel
theorem dX4_readNumbers_189 : decode cX4_readNumbers 189 = .ok (.iconst 0, 1) := by decide +kernel
theorem dX4_readNumbers_190 : decode cX4_readNumbers 190 = .ok (.iload_n 3, 1) := by decide +kernel
theorem dX4_readNumbers_191 : decode cX4_readNumbers 191 = .ok (.invokevirtual 61, 3) := by decide +kernel
theorem dX4_readNumbers_194 : decode cX4_readNumbers 194 = .ok (.ifCond .eq 18, 3) := by decide +kernel
theorem dX4_readNumbers_197 : decode cX4_readNumbers 197 = .ok (.aload_n 0, 1) := by decide +kernel
theorem dX4_readNumbers_198 : decode cX4_readNumbers 198 = .ok (.iconst 1, 1) := by decide +kernel
theorem dX4_readNumbers_199 : decode cX4_readNumbers 199 = .ok (.iconst 1, 1) := by decide +kernel
theorem dX4_readNumbers_200 : decode cX4_readNumbers 200 = .ok (.bipush 20, 2) := by decide +kernel
theorem dX4_readNumbers_202 : decode cX4_readNumbers 202 = .ok (.invokevirtual 61, 3) := by decide +kernel
theorem dX4_readNumbers_205 : decode cX4_readNumbers 205 = .ok (.ifCond .eq 7, 3) := by decide +kernel
theorem dX4_readNumbers_208 : decode cX4_readNumbers 208 = .ok (.iconst 1, 1) := by decide +kernel
theorem dX4_readNumbers_209 : decode cX4_readNumbers 209 = .ok (.goto 4, 3) := by decide +kernel
theorem dX4_readNumbers_212 : decode cX4_readNumbers 212 = .ok (.iconst 0, 1) := by decide +kernel
theorem dX4_readNumbers_213 : decode cX4_readNumbers 213 = .ok (.ireturn, 1) := by decide +kernel
theorem dX4_readNumbers_214 : decode cX4_readNumbers 214 = .ok (.aload_n 0, 1) := by decide +kernel
theorem dX4_readNumbers_215 : decode cX4_readNumbers 215 = .ok (.iconst 0, 1) := by decide +kernel
theorem dX4_readNumbers_216 : decode cX4_readNumbers 216 = .ok (.iconst 0, 1) := by decide +kernel
theorem dX4_readNumbers_217 : decode cX4_readNumbers 217 = .ok (.iload_n 3, 1) := by decide +kernel
theorem dX4_readNumbers_218 : decode cX4_readNumbers 218 = .ok (.invokevirtual 61, 3) := by decide +kernel
theorem dX4_readNumbers_221 : decode cX4_readNumbers 221 = .ok (.ifCond .eq 30, 3) := by decide +kernel
theorem dX4_readNumbers_224 : decode cX4_readNumbers 224 = .ok (.aload_n 0, 1) := by decide +kernel
theorem dX4_readNumbers_225 : decode cX4_readNumbers 225 = .ok (.iconst 1, 1) := by decide +kernel
theorem dX4_readNumbers_226 : decode cX4_readNumbers 226 = .ok (.iconst 1, 1) := by decide +kernel
theorem dX4_readNumbers_227 : decode cX4_readNumbers 227 = .ok (.bipush 99, 2) := by decide +kernel
theorem dX4_readNumbers_229 : decode cX4_readNumbers 229 = .ok (.invokevirtual 61, 3) := by decide +kernel
theorem dX4_readNumbers_232 : decode cX4_readNumbers 232 = .ok (.ifCond .eq 19, 3) := by decide +kernel
theorem dX4_readNumbers_235 : decode cX4_readNumbers 235 = .ok (.aload_n 0, 1) := by decide +kernel
theorem dX4_readNumbers_236 : decode cX4_readNumbers 236 = .ok (.iconst 2, 1) := by decide +kernel
theorem dX4_readNumbers_237 : decode cX4_readNumbers 237 = .ok (.iconst 1, 1) := by decide +kernel
theorem dX4_readNumbers_238 : decode cX4_readNumbers 238 = .ok (.sipush 999, 3) := by decide +kernel
theorem dX4_readNumbers_241 : decode cX4_readNumbers 241 = .ok (.invokevirtual 61, 3) := by decide +kernel
theorem dX4_readNumbers_244 : decode cX4_readNumbers 244 = .ok (.ifCond .eq 7, 3) := by decide +kernel
theorem dX4_readNumbers_247 : decode cX4_readNumbers 247 = .ok (.iconst 1, 1) := by decide +kernel
theorem dX4_readNumbers_248 : decode cX4_readNumbers 248 = .ok (.goto 4, 3) := by decide +kernel
theorem dX4_readNumbers_251 : decode cX4_readNumbers 251 = .ok (.iconst 0, 1) := by decide +kernel
theorem dX4_readNumbers_252 : decode cX4_readNumbers 252 = .ok (.ireturn, 1) := by decide +kernel
theorem dX4_readNumbers_253 : decode cX4_readNumbers 253 = .ok (.aload_n 0, 1) := by decide +kernel
theorem dX4_readNumbers_254 : decode cX4_readNumbers 254 = .ok (.iconst 0, 1) := by decide +kernel
theorem dX4_readNumbers_255 : decode cX4_readNumbers 255 = .ok (.iconst 1, 1) := by decide +kernel
theorem dX4_readNumbers_256 : decode cX4_readNumbers 256 = .ok (.sipush 999, 3) := by decide +kernel
theorem dX4_readNumbers_259 : decode cX4_readNumbers 259 = .ok (.invokevirtual 61, 3) := by decide +kernel
theorem dX4_readNumbers_262 : decode cX4_readNumbers 262 = .ok (.ireturn, 1) := by decide +kernel
def fX4_readNumbers (p1 : Int32) (v : bM) : Option (Int32 × bM) :=
  ck (v 7089) 12 <| nm (v 7089).toNatClampNeg fun i2 => nm ((v (stO i2 + 6)) - 1) fun x3 => ck (v 7089) 12 <| nm (v 7089).toNatClampNeg fun i5 => nm ((v (stO i5 + 175)) - 1) fun x6 => (if p1 = 6 then (bnd (fX4_readNumber 0 1 99 v) fun r10 w9 => ck r10 2 <| some (r10, w9)) else (if p1 = 7 then (bnd (fX4_readNumber 0 1 999 v) fun r15 w14 => (if r15 = 0 then (some (0, w14)) else (bnd (fX4_readNumber 1 1 9 w14) fun r19 w18 => (if r19 = 0 then (some (0, w18)) else (ck (w18 7089) 12 <| nm (w18 7089).toNatClampNeg fun i22 => bnr (fX2_highestRecipe (vw w18 (stO i22 + 6))) fun r24 => bnd (fX4_readNumber 2 1 r24 w18) fun r27 w26 => (if r27 = 0 then (some (0, w26)) else (some (1, w26)))))))) else (if p1 = 8 then (bnd (fX4_readNumber 0 0 x3 v) fun r32 w31 => (if r32 = 0 then (some (0, w31)) else (bnd (fX4_readNumber 1 1 99 w31) fun r36 w35 => (if r36 = 0 then (some (0, w35)) else (bnd (fX4_readNumber 2 1 99 w35) fun r40 w39 => (if r40 = 0 then (some (0, w39)) else (some (1, w39)))))))) else (if p1 = 9 then (bnd (fX4_readNumber 0 0 23 v) fun r45 w44 => (if r45 = 0 then (some (0, w44)) else (bnd (fX4_readNumber 1 0 20 w44) fun r49 w48 => (if r49 = 0 then (some (0, w48)) else (some (1, w48)))))) else (if p1 = 10 then (bnd (fX4_readNumber 0 0 x6 v) fun r54 w53 => (if r54 = 0 then (some (0, w53)) else (bnd (fX4_readNumber 1 1 20 w53) fun r58 w57 => (if r58 = 0 then (some (0, w57)) else (some (1, w57)))))) else (if p1 = 11 then (bnd (fX4_readNumber 0 0 x6 v) fun r63 w62 => (if r63 = 0 then (some (0, w62)) else (bnd (fX4_readNumber 1 1 99 w62) fun r67 w66 => (if r67 = 0 then (some (0, w66)) else (bnd (fX4_readNumber 2 1 999 w66) fun r71 w70 => (if r71 = 0 then (some (0, w70)) else (some (1, w70)))))))) else (bnd (fX4_readNumber 0 1 999 v) fun r75 w74 => ck r75 2 <| some (r75, w74))))))))
set_option maxRecDepth 100000 in
set_option maxHeartbeats 4000000 in
theorem mX4_readNumbers {l : Launch} {p1 : Int32} {v : bM} {r0 : Int32} {w0 : bM} (hf : fX4_readNumbers p1 v = some (r0, w0)) : bMet l yX4_readNumbers cX4_readNumbers 4 (some .boolean) 3 0 0 LX (fun E a => [.ref (a + 857), .int p1]) v w0 (fun _ => some (.int r0)) := by
  refine bk_start (by decide +kernel) wfX (fun _ _ => Nat.le_of_ble_eq_true rfl) ?_
  intro p e s m args below meth c D E a ls H locs X hr hl hB
  have hx := X.1
  have hb := X.2.1
  have hown := X.2.2.2.1
  have hts := X.2.2.2.2.1
  have hl : lv_has ls 4 [(0, .ref (a + 857)), (1, .int p1)] := hl
  have hf := (fX4_readNumbers.eq_1 p1 v).symm.trans hf
  refine lv_aload_n hx hb dX4_readNumbers_0 rfl (lv_at hl 0 rfl) ?_
  obtain ⟨h1, hf⟩ := ck_some hf
  refine bk_getS X hB kl_X4 857 lc_X_857 4 (by decide) rfl h1 wm_327 dX4_readNumbers_1 ?_
  obtain ⟨i2, ei2⟩ : ∃ y : Nat, y = (v 7089).toNatClampNeg := ⟨_, rfl⟩
  have hf := nm_use hf ei2
  rw [← ei2]
  have hi2 : i2 < 12 := by rw [ei2]; exact vp_lt h1
  refine bk_getR X hB kl_X6 (stC i2 + 0) ((subX_St _ hi2).at lc_St_0) 6 (by decide) rfl wm_232 dX4_readNumbers_4 ?_
  refine bk_getI X hB kl_X2 (stC i2 + 1) ((subX_St _ hi2).at lc_St_1) 0 (by decide) rfl wm_56 dX4_readNumbers_7 ?_
  refine lv_iconst (v := 1) hx hb dX4_readNumbers_10 (by decide) ?_
  refine lv_isub hx hb dX4_readNumbers_11 ?_
  refine lv_topi (fun x3 ex3 => ?_)
  have hf := nm_use hf ex3
  refine lv_istore_n (lv' := [(2, .int x3), (0, .ref (a + 857)), (1, .int p1)]) hx hb dX4_readNumbers_12 rfl hl (by decide) rfl (fun ls hl => ?_)
  refine lv_aload_n hx hb dX4_readNumbers_13 rfl (lv_at hl 1 rfl) ?_
  obtain ⟨h4, hf⟩ := ck_some hf
  refine bk_getS X hB kl_X4 857 lc_X_857 4 (by decide) rfl h4 wm_327 dX4_readNumbers_14 ?_
  obtain ⟨i5, ei5⟩ : ∃ y : Nat, y = (v 7089).toNatClampNeg := ⟨_, rfl⟩
  have hf := nm_use hf ei5
  rw [← ei5]
  have hi5 : i5 < 12 := by rw [ei5]; exact vp_lt h4
  refine bk_getR X hB kl_X6 (stC i5 + 0) ((subX_St _ hi5).at lc_St_0) 7 (by decide) rfl wm_235 dX4_readNumbers_17 ?_
  refine bk_getI X hB kl_X1 (stC i5 + 20) ((subX_St _ hi5).at lc_St_20) 0 (by decide) rfl wm_99 dX4_readNumbers_20 ?_
  refine lv_iconst (v := 1) hx hb dX4_readNumbers_23 (by decide) ?_
  refine lv_isub hx hb dX4_readNumbers_24 ?_
  refine lv_topi (fun x6 ex6 => ?_)
  have hf := nm_use hf ex6
  refine lv_istore_n (lv' := [(3, .int x6), (2, .int x3), (0, .ref (a + 857)), (1, .int p1)]) hx hb dX4_readNumbers_25 rfl hl (by decide) rfl (fun ls hl => ?_)
  refine lv_iload_n hx hb dX4_readNumbers_26 rfl (lv_at hl 3 rfl) ?_
  by_cases c7 : p1 = 6
  · have hf := (if_pos c7).symm.trans hf
    refine lv_tableIn (tgt := 64) hx hb dX4_readNumbers_27 (by rw [c7]; decide) (by rw [c7]; decide) (by rw [c7]; rfl) (by decide) ?_
    refine lv_aload_n hx hb dX4_readNumbers_64 rfl (lv_at hl 2 rfl) ?_
    refine lv_iconst (v := 0) hx hb dX4_readNumbers_65 (by decide) ?_
    refine lv_iconst (v := 1) hx hb dX4_readNumbers_66 (by decide) ?_
    refine lv_bipush (v := 99) hx hb dX4_readNumbers_67 (by decide) ?_
    obtain ⟨r10, w9, hc8, hf⟩ := bnd_some hf
    refine bk_all hB (fun h1 h2 h3 => bk_runV X (Av := [.int 0, .int 1, .int 99]) (rest := []) (mX4_readNumber hc8) yv_X4_readNumber wm_513 ⟨Nat.le_of_ble_eq_true rfl, Nat.le_of_ble_eq_true rfl⟩ rfl rfl hl.1 kl_X4.1 (hB.1.obj lc_X_857) h1 h2 h3 (Nat.le_of_ble_eq_true rfl) ⟨Nat.le_of_ble_eq_true rfl, Nat.le_of_ble_eq_true rfl⟩ dX4_readNumbers_69) (fun H locs hB => ?_)
    refine W.eq (g2 := F0 m 72 ls [.int r10]) rfl ?_
    obtain ⟨h11, hf⟩ := ck_some hf
    exact bk_zW X hr rfl (nar_z h11) hf hB (Nat.le_of_ble_eq_true rfl) (Nat.le_of_ble_eq_true rfl) dX4_readNumbers_72
  have hf := (if_neg c7).symm.trans hf
  by_cases c12 : p1 = 7
  · have hf := (if_pos c12).symm.trans hf
    refine lv_tableIn (tgt := 73) hx hb dX4_readNumbers_27 (by rw [c12]; decide) (by rw [c12]; decide) (by rw [c12]; rfl) (by decide) ?_
    refine lv_aload_n hx hb dX4_readNumbers_73 rfl (lv_at hl 2 rfl) ?_
    refine lv_iconst (v := 0) hx hb dX4_readNumbers_74 (by decide) ?_
    refine lv_iconst (v := 1) hx hb dX4_readNumbers_75 (by decide) ?_
    refine lv_sipush (v := 999) hx hb dX4_readNumbers_76 (by decide) ?_
    obtain ⟨r15, w14, hc13, hf⟩ := bnd_some hf
    refine bk_all hB (fun h1 h2 h3 => bk_runV X (Av := [.int 0, .int 1, .int 999]) (rest := []) (mX4_readNumber hc13) yv_X4_readNumber wm_513 ⟨Nat.le_of_ble_eq_true rfl, Nat.le_of_ble_eq_true rfl⟩ rfl rfl hl.1 kl_X4.1 (hB.1.obj lc_X_857) h1 h2 h3 (Nat.le_of_ble_eq_true rfl) ⟨Nat.le_of_ble_eq_true rfl, Nat.le_of_ble_eq_true rfl⟩ dX4_readNumbers_79) (fun H locs hB => ?_)
    refine W.eq (g2 := F0 m 82 ls [.int r15]) rfl ?_
    refine lv_if_eq (tgt := 119) hx hb dX4_readNumbers_82 (by decide) (fun c16 => ?_) (fun c16 => ?_)
    · have hf := (if_pos c16).symm.trans hf
      refine lv_iconst (v := 0) hx hb dX4_readNumbers_119 (by decide) ?_
      exact bk_zW X hr rfl rfl hf hB (Nat.le_of_ble_eq_true rfl) (Nat.le_of_ble_eq_true rfl) dX4_readNumbers_120
    · have hf := (if_neg c16).symm.trans hf
      refine lv_aload_n hx hb dX4_readNumbers_85 rfl (lv_at hl 2 rfl) ?_
      refine lv_iconst (v := 1) hx hb dX4_readNumbers_86 (by decide) ?_
      refine lv_iconst (v := 1) hx hb dX4_readNumbers_87 (by decide) ?_
      refine lv_bipush (v := 9) hx hb dX4_readNumbers_88 (by decide) ?_
      obtain ⟨r19, w18, hc17, hf⟩ := bnd_some hf
      refine bk_all hB (fun h1 h2 h3 => bk_runV X (Av := [.int 1, .int 1, .int 9]) (rest := []) (mX4_readNumber hc17) yv_X4_readNumber wm_513 ⟨Nat.le_of_ble_eq_true rfl, Nat.le_of_ble_eq_true rfl⟩ rfl rfl hl.1 kl_X4.1 (hB.1.obj lc_X_857) h1 h2 h3 (Nat.le_of_ble_eq_true rfl) ⟨Nat.le_of_ble_eq_true rfl, Nat.le_of_ble_eq_true rfl⟩ dX4_readNumbers_90) (fun H locs hB => ?_)
      refine W.eq (g2 := F0 m 93 ls [.int r19]) rfl ?_
      refine lv_if_eq (tgt := 119) hx hb dX4_readNumbers_93 (by decide) (fun c20 => ?_) (fun c20 => ?_)
      · have hf := (if_pos c20).symm.trans hf
        refine lv_iconst (v := 0) hx hb dX4_readNumbers_119 (by decide) ?_
        exact bk_zW X hr rfl rfl hf hB (Nat.le_of_ble_eq_true rfl) (Nat.le_of_ble_eq_true rfl) dX4_readNumbers_120
      · have hf := (if_neg c20).symm.trans hf
        refine lv_aload_n hx hb dX4_readNumbers_96 rfl (lv_at hl 2 rfl) ?_
        refine lv_iconst (v := 2) hx hb dX4_readNumbers_97 (by decide) ?_
        refine lv_iconst (v := 1) hx hb dX4_readNumbers_98 (by decide) ?_
        refine lv_aload_n hx hb dX4_readNumbers_99 rfl (lv_at hl 2 rfl) ?_
        obtain ⟨h21, hf⟩ := ck_some hf
        refine bk_getS X hB kl_X4 857 lc_X_857 4 (by decide) rfl h21 wm_327 dX4_readNumbers_100 ?_
        obtain ⟨i22, ei22⟩ : ∃ y : Nat, y = (w18 7089).toNatClampNeg := ⟨_, rfl⟩
        have hf := nm_use hf ei22
        rw [← ei22]
        have hi22 : i22 < 12 := by rw [ei22]; exact vp_lt h21
        refine bk_getR X hB kl_X6 (stC i22 + 0) ((subX_St _ hi22).at lc_St_0) 6 (by decide) rfl wm_232 dX4_readNumbers_103 ?_
        obtain ⟨r24, hc23, hf⟩ := bnr_some hf
        refine bk_subR (subX_St_1 _ hi22) hB (fun h1 h2 h3 => bk_runV X (Av := []) (rest := [.int 1, .int 2, .ref (a + 857)]) (mX2_highestRecipe hc23) yv_X2_highestRecipe wm_541 ⟨Nat.le_of_ble_eq_true rfl, Nat.le_of_ble_eq_true rfl⟩ rfl rfl hl.1 kl_X2.1 (hB.1.obj ((subX_St _ hi22).at lc_St_1)) h1 h2 h3 (Nat.le_of_ble_eq_true rfl) ⟨Nat.le_of_ble_eq_true rfl, Nat.le_of_ble_eq_true rfl⟩ dX4_readNumbers_106) (fun H locs hB => ?_)
        refine W.eq (g2 := F0 m 109 ls [.int r24, .int 1, .int 2, .ref (a + 857)]) rfl ?_
        obtain ⟨r27, w26, hc25, hf⟩ := bnd_some hf
        refine bk_all hB (fun h1 h2 h3 => bk_runV X (Av := [.int 2, .int 1, .int r24]) (rest := []) (mX4_readNumber hc25) yv_X4_readNumber wm_513 ⟨Nat.le_of_ble_eq_true rfl, Nat.le_of_ble_eq_true rfl⟩ rfl rfl hl.1 kl_X4.1 (hB.1.obj lc_X_857) h1 h2 h3 (Nat.le_of_ble_eq_true rfl) ⟨Nat.le_of_ble_eq_true rfl, Nat.le_of_ble_eq_true rfl⟩ dX4_readNumbers_109) (fun H locs hB => ?_)
        refine W.eq (g2 := F0 m 112 ls [.int r27]) rfl ?_
        refine lv_if_eq (tgt := 119) hx hb dX4_readNumbers_112 (by decide) (fun c28 => ?_) (fun c28 => ?_)
        · have hf := (if_pos c28).symm.trans hf
          refine lv_iconst (v := 0) hx hb dX4_readNumbers_119 (by decide) ?_
          exact bk_zW X hr rfl rfl hf hB (Nat.le_of_ble_eq_true rfl) (Nat.le_of_ble_eq_true rfl) dX4_readNumbers_120
        · have hf := (if_neg c28).symm.trans hf
          refine lv_iconst (v := 1) hx hb dX4_readNumbers_115 (by decide) ?_
          refine lv_goto (tgt := 120) hx hb dX4_readNumbers_116 (by decide) ?_
          exact bk_zW X hr rfl rfl hf hB (Nat.le_of_ble_eq_true rfl) (Nat.le_of_ble_eq_true rfl) dX4_readNumbers_120
  have hf := (if_neg c12).symm.trans hf
  by_cases c29 : p1 = 8
  · have hf := (if_pos c29).symm.trans hf
    refine lv_tableIn (tgt := 121) hx hb dX4_readNumbers_27 (by rw [c29]; decide) (by rw [c29]; decide) (by rw [c29]; rfl) (by decide) ?_
    refine lv_aload_n hx hb dX4_readNumbers_121 rfl (lv_at hl 2 rfl) ?_
    refine lv_iconst (v := 0) hx hb dX4_readNumbers_122 (by decide) ?_
    refine lv_iconst (v := 0) hx hb dX4_readNumbers_123 (by decide) ?_
    refine lv_iload_n hx hb dX4_readNumbers_124 rfl (lv_at hl 1 rfl) ?_
    obtain ⟨r32, w31, hc30, hf⟩ := bnd_some hf
    refine bk_all hB (fun h1 h2 h3 => bk_runV X (Av := [.int 0, .int 0, .int x3]) (rest := []) (mX4_readNumber hc30) yv_X4_readNumber wm_513 ⟨Nat.le_of_ble_eq_true rfl, Nat.le_of_ble_eq_true rfl⟩ rfl rfl hl.1 kl_X4.1 (hB.1.obj lc_X_857) h1 h2 h3 (Nat.le_of_ble_eq_true rfl) ⟨Nat.le_of_ble_eq_true rfl, Nat.le_of_ble_eq_true rfl⟩ dX4_readNumbers_125) (fun H locs hB => ?_)
    refine W.eq (g2 := F0 m 128 ls [.int r32]) rfl ?_
    refine lv_if_eq (tgt := 157) hx hb dX4_readNumbers_128 (by decide) (fun c33 => ?_) (fun c33 => ?_)
    · have hf := (if_pos c33).symm.trans hf
      refine lv_iconst (v := 0) hx hb dX4_readNumbers_157 (by decide) ?_
      exact bk_zW X hr rfl rfl hf hB (Nat.le_of_ble_eq_true rfl) (Nat.le_of_ble_eq_true rfl) dX4_readNumbers_158
    · have hf := (if_neg c33).symm.trans hf
      refine lv_aload_n hx hb dX4_readNumbers_131 rfl (lv_at hl 2 rfl) ?_
      refine lv_iconst (v := 1) hx hb dX4_readNumbers_132 (by decide) ?_
      refine lv_iconst (v := 1) hx hb dX4_readNumbers_133 (by decide) ?_
      refine lv_bipush (v := 99) hx hb dX4_readNumbers_134 (by decide) ?_
      obtain ⟨r36, w35, hc34, hf⟩ := bnd_some hf
      refine bk_all hB (fun h1 h2 h3 => bk_runV X (Av := [.int 1, .int 1, .int 99]) (rest := []) (mX4_readNumber hc34) yv_X4_readNumber wm_513 ⟨Nat.le_of_ble_eq_true rfl, Nat.le_of_ble_eq_true rfl⟩ rfl rfl hl.1 kl_X4.1 (hB.1.obj lc_X_857) h1 h2 h3 (Nat.le_of_ble_eq_true rfl) ⟨Nat.le_of_ble_eq_true rfl, Nat.le_of_ble_eq_true rfl⟩ dX4_readNumbers_136) (fun H locs hB => ?_)
      refine W.eq (g2 := F0 m 139 ls [.int r36]) rfl ?_
      refine lv_if_eq (tgt := 157) hx hb dX4_readNumbers_139 (by decide) (fun c37 => ?_) (fun c37 => ?_)
      · have hf := (if_pos c37).symm.trans hf
        refine lv_iconst (v := 0) hx hb dX4_readNumbers_157 (by decide) ?_
        exact bk_zW X hr rfl rfl hf hB (Nat.le_of_ble_eq_true rfl) (Nat.le_of_ble_eq_true rfl) dX4_readNumbers_158
      · have hf := (if_neg c37).symm.trans hf
        refine lv_aload_n hx hb dX4_readNumbers_142 rfl (lv_at hl 2 rfl) ?_
        refine lv_iconst (v := 2) hx hb dX4_readNumbers_143 (by decide) ?_
        refine lv_iconst (v := 1) hx hb dX4_readNumbers_144 (by decide) ?_
        refine lv_bipush (v := 99) hx hb dX4_readNumbers_145 (by decide) ?_
        obtain ⟨r40, w39, hc38, hf⟩ := bnd_some hf
        refine bk_all hB (fun h1 h2 h3 => bk_runV X (Av := [.int 2, .int 1, .int 99]) (rest := []) (mX4_readNumber hc38) yv_X4_readNumber wm_513 ⟨Nat.le_of_ble_eq_true rfl, Nat.le_of_ble_eq_true rfl⟩ rfl rfl hl.1 kl_X4.1 (hB.1.obj lc_X_857) h1 h2 h3 (Nat.le_of_ble_eq_true rfl) ⟨Nat.le_of_ble_eq_true rfl, Nat.le_of_ble_eq_true rfl⟩ dX4_readNumbers_147) (fun H locs hB => ?_)
        refine W.eq (g2 := F0 m 150 ls [.int r40]) rfl ?_
        refine lv_if_eq (tgt := 157) hx hb dX4_readNumbers_150 (by decide) (fun c41 => ?_) (fun c41 => ?_)
        · have hf := (if_pos c41).symm.trans hf
          refine lv_iconst (v := 0) hx hb dX4_readNumbers_157 (by decide) ?_
          exact bk_zW X hr rfl rfl hf hB (Nat.le_of_ble_eq_true rfl) (Nat.le_of_ble_eq_true rfl) dX4_readNumbers_158
        · have hf := (if_neg c41).symm.trans hf
          refine lv_iconst (v := 1) hx hb dX4_readNumbers_153 (by decide) ?_
          refine lv_goto (tgt := 158) hx hb dX4_readNumbers_154 (by decide) ?_
          exact bk_zW X hr rfl rfl hf hB (Nat.le_of_ble_eq_true rfl) (Nat.le_of_ble_eq_true rfl) dX4_readNumbers_158
  have hf := (if_neg c29).symm.trans hf
  by_cases c42 : p1 = 9
  · have hf := (if_pos c42).symm.trans hf
    refine lv_tableIn (tgt := 159) hx hb dX4_readNumbers_27 (by rw [c42]; decide) (by rw [c42]; decide) (by rw [c42]; rfl) (by decide) ?_
    refine lv_aload_n hx hb dX4_readNumbers_159 rfl (lv_at hl 2 rfl) ?_
    refine lv_iconst (v := 0) hx hb dX4_readNumbers_160 (by decide) ?_
    refine lv_iconst (v := 0) hx hb dX4_readNumbers_161 (by decide) ?_
    refine lv_bipush (v := 23) hx hb dX4_readNumbers_162 (by decide) ?_
    obtain ⟨r45, w44, hc43, hf⟩ := bnd_some hf
    refine bk_all hB (fun h1 h2 h3 => bk_runV X (Av := [.int 0, .int 0, .int 23]) (rest := []) (mX4_readNumber hc43) yv_X4_readNumber wm_513 ⟨Nat.le_of_ble_eq_true rfl, Nat.le_of_ble_eq_true rfl⟩ rfl rfl hl.1 kl_X4.1 (hB.1.obj lc_X_857) h1 h2 h3 (Nat.le_of_ble_eq_true rfl) ⟨Nat.le_of_ble_eq_true rfl, Nat.le_of_ble_eq_true rfl⟩ dX4_readNumbers_164) (fun H locs hB => ?_)
    refine W.eq (g2 := F0 m 167 ls [.int r45]) rfl ?_
    refine lv_if_eq (tgt := 185) hx hb dX4_readNumbers_167 (by decide) (fun c46 => ?_) (fun c46 => ?_)
    · have hf := (if_pos c46).symm.trans hf
      refine lv_iconst (v := 0) hx hb dX4_readNumbers_185 (by decide) ?_
      exact bk_zW X hr rfl rfl hf hB (Nat.le_of_ble_eq_true rfl) (Nat.le_of_ble_eq_true rfl) dX4_readNumbers_186
    · have hf := (if_neg c46).symm.trans hf
      refine lv_aload_n hx hb dX4_readNumbers_170 rfl (lv_at hl 2 rfl) ?_
      refine lv_iconst (v := 1) hx hb dX4_readNumbers_171 (by decide) ?_
      refine lv_iconst (v := 0) hx hb dX4_readNumbers_172 (by decide) ?_
      refine lv_bipush (v := 20) hx hb dX4_readNumbers_173 (by decide) ?_
      obtain ⟨r49, w48, hc47, hf⟩ := bnd_some hf
      refine bk_all hB (fun h1 h2 h3 => bk_runV X (Av := [.int 1, .int 0, .int 20]) (rest := []) (mX4_readNumber hc47) yv_X4_readNumber wm_513 ⟨Nat.le_of_ble_eq_true rfl, Nat.le_of_ble_eq_true rfl⟩ rfl rfl hl.1 kl_X4.1 (hB.1.obj lc_X_857) h1 h2 h3 (Nat.le_of_ble_eq_true rfl) ⟨Nat.le_of_ble_eq_true rfl, Nat.le_of_ble_eq_true rfl⟩ dX4_readNumbers_175) (fun H locs hB => ?_)
      refine W.eq (g2 := F0 m 178 ls [.int r49]) rfl ?_
      refine lv_if_eq (tgt := 185) hx hb dX4_readNumbers_178 (by decide) (fun c50 => ?_) (fun c50 => ?_)
      · have hf := (if_pos c50).symm.trans hf
        refine lv_iconst (v := 0) hx hb dX4_readNumbers_185 (by decide) ?_
        exact bk_zW X hr rfl rfl hf hB (Nat.le_of_ble_eq_true rfl) (Nat.le_of_ble_eq_true rfl) dX4_readNumbers_186
      · have hf := (if_neg c50).symm.trans hf
        refine lv_iconst (v := 1) hx hb dX4_readNumbers_181 (by decide) ?_
        refine lv_goto (tgt := 186) hx hb dX4_readNumbers_182 (by decide) ?_
        exact bk_zW X hr rfl rfl hf hB (Nat.le_of_ble_eq_true rfl) (Nat.le_of_ble_eq_true rfl) dX4_readNumbers_186
  have hf := (if_neg c42).symm.trans hf
  by_cases c51 : p1 = 10
  · have hf := (if_pos c51).symm.trans hf
    refine lv_tableIn (tgt := 187) hx hb dX4_readNumbers_27 (by rw [c51]; decide) (by rw [c51]; decide) (by rw [c51]; rfl) (by decide) ?_
    refine lv_aload_n hx hb dX4_readNumbers_187 rfl (lv_at hl 2 rfl) ?_
    refine lv_iconst (v := 0) hx hb dX4_readNumbers_188 (by decide) ?_
    refine lv_iconst (v := 0) hx hb dX4_readNumbers_189 (by decide) ?_
    refine lv_iload_n hx hb dX4_readNumbers_190 rfl (lv_at hl 0 rfl) ?_
    obtain ⟨r54, w53, hc52, hf⟩ := bnd_some hf
    refine bk_all hB (fun h1 h2 h3 => bk_runV X (Av := [.int 0, .int 0, .int x6]) (rest := []) (mX4_readNumber hc52) yv_X4_readNumber wm_513 ⟨Nat.le_of_ble_eq_true rfl, Nat.le_of_ble_eq_true rfl⟩ rfl rfl hl.1 kl_X4.1 (hB.1.obj lc_X_857) h1 h2 h3 (Nat.le_of_ble_eq_true rfl) ⟨Nat.le_of_ble_eq_true rfl, Nat.le_of_ble_eq_true rfl⟩ dX4_readNumbers_191) (fun H locs hB => ?_)
    refine W.eq (g2 := F0 m 194 ls [.int r54]) rfl ?_
    refine lv_if_eq (tgt := 212) hx hb dX4_readNumbers_194 (by decide) (fun c55 => ?_) (fun c55 => ?_)
    · have hf := (if_pos c55).symm.trans hf
      refine lv_iconst (v := 0) hx hb dX4_readNumbers_212 (by decide) ?_
      exact bk_zW X hr rfl rfl hf hB (Nat.le_of_ble_eq_true rfl) (Nat.le_of_ble_eq_true rfl) dX4_readNumbers_213
    · have hf := (if_neg c55).symm.trans hf
      refine lv_aload_n hx hb dX4_readNumbers_197 rfl (lv_at hl 2 rfl) ?_
      refine lv_iconst (v := 1) hx hb dX4_readNumbers_198 (by decide) ?_
      refine lv_iconst (v := 1) hx hb dX4_readNumbers_199 (by decide) ?_
      refine lv_bipush (v := 20) hx hb dX4_readNumbers_200 (by decide) ?_
      obtain ⟨r58, w57, hc56, hf⟩ := bnd_some hf
      refine bk_all hB (fun h1 h2 h3 => bk_runV X (Av := [.int 1, .int 1, .int 20]) (rest := []) (mX4_readNumber hc56) yv_X4_readNumber wm_513 ⟨Nat.le_of_ble_eq_true rfl, Nat.le_of_ble_eq_true rfl⟩ rfl rfl hl.1 kl_X4.1 (hB.1.obj lc_X_857) h1 h2 h3 (Nat.le_of_ble_eq_true rfl) ⟨Nat.le_of_ble_eq_true rfl, Nat.le_of_ble_eq_true rfl⟩ dX4_readNumbers_202) (fun H locs hB => ?_)
      refine W.eq (g2 := F0 m 205 ls [.int r58]) rfl ?_
      refine lv_if_eq (tgt := 212) hx hb dX4_readNumbers_205 (by decide) (fun c59 => ?_) (fun c59 => ?_)
      · have hf := (if_pos c59).symm.trans hf
        refine lv_iconst (v := 0) hx hb dX4_readNumbers_212 (by decide) ?_
        exact bk_zW X hr rfl rfl hf hB (Nat.le_of_ble_eq_true rfl) (Nat.le_of_ble_eq_true rfl) dX4_readNumbers_213
      · have hf := (if_neg c59).symm.trans hf
        refine lv_iconst (v := 1) hx hb dX4_readNumbers_208 (by decide) ?_
        refine lv_goto (tgt := 213) hx hb dX4_readNumbers_209 (by decide) ?_
        exact bk_zW X hr rfl rfl hf hB (Nat.le_of_ble_eq_true rfl) (Nat.le_of_ble_eq_true rfl) dX4_readNumbers_213
  have hf := (if_neg c51).symm.trans hf
  by_cases c60 : p1 = 11
  · have hf := (if_pos c60).symm.trans hf
    refine lv_tableIn (tgt := 214) hx hb dX4_readNumbers_27 (by rw [c60]; decide) (by rw [c60]; decide) (by rw [c60]; rfl) (by decide) ?_
    refine lv_aload_n hx hb dX4_readNumbers_214 rfl (lv_at hl 2 rfl) ?_
    refine lv_iconst (v := 0) hx hb dX4_readNumbers_215 (by decide) ?_
    refine lv_iconst (v := 0) hx hb dX4_readNumbers_216 (by decide) ?_
    refine lv_iload_n hx hb dX4_readNumbers_217 rfl (lv_at hl 0 rfl) ?_
    obtain ⟨r63, w62, hc61, hf⟩ := bnd_some hf
    refine bk_all hB (fun h1 h2 h3 => bk_runV X (Av := [.int 0, .int 0, .int x6]) (rest := []) (mX4_readNumber hc61) yv_X4_readNumber wm_513 ⟨Nat.le_of_ble_eq_true rfl, Nat.le_of_ble_eq_true rfl⟩ rfl rfl hl.1 kl_X4.1 (hB.1.obj lc_X_857) h1 h2 h3 (Nat.le_of_ble_eq_true rfl) ⟨Nat.le_of_ble_eq_true rfl, Nat.le_of_ble_eq_true rfl⟩ dX4_readNumbers_218) (fun H locs hB => ?_)
    refine W.eq (g2 := F0 m 221 ls [.int r63]) rfl ?_
    refine lv_if_eq (tgt := 251) hx hb dX4_readNumbers_221 (by decide) (fun c64 => ?_) (fun c64 => ?_)
    · have hf := (if_pos c64).symm.trans hf
      refine lv_iconst (v := 0) hx hb dX4_readNumbers_251 (by decide) ?_
      exact bk_zW X hr rfl rfl hf hB (Nat.le_of_ble_eq_true rfl) (Nat.le_of_ble_eq_true rfl) dX4_readNumbers_252
    · have hf := (if_neg c64).symm.trans hf
      refine lv_aload_n hx hb dX4_readNumbers_224 rfl (lv_at hl 2 rfl) ?_
      refine lv_iconst (v := 1) hx hb dX4_readNumbers_225 (by decide) ?_
      refine lv_iconst (v := 1) hx hb dX4_readNumbers_226 (by decide) ?_
      refine lv_bipush (v := 99) hx hb dX4_readNumbers_227 (by decide) ?_
      obtain ⟨r67, w66, hc65, hf⟩ := bnd_some hf
      refine bk_all hB (fun h1 h2 h3 => bk_runV X (Av := [.int 1, .int 1, .int 99]) (rest := []) (mX4_readNumber hc65) yv_X4_readNumber wm_513 ⟨Nat.le_of_ble_eq_true rfl, Nat.le_of_ble_eq_true rfl⟩ rfl rfl hl.1 kl_X4.1 (hB.1.obj lc_X_857) h1 h2 h3 (Nat.le_of_ble_eq_true rfl) ⟨Nat.le_of_ble_eq_true rfl, Nat.le_of_ble_eq_true rfl⟩ dX4_readNumbers_229) (fun H locs hB => ?_)
      refine W.eq (g2 := F0 m 232 ls [.int r67]) rfl ?_
      refine lv_if_eq (tgt := 251) hx hb dX4_readNumbers_232 (by decide) (fun c68 => ?_) (fun c68 => ?_)
      · have hf := (if_pos c68).symm.trans hf
        refine lv_iconst (v := 0) hx hb dX4_readNumbers_251 (by decide) ?_
        exact bk_zW X hr rfl rfl hf hB (Nat.le_of_ble_eq_true rfl) (Nat.le_of_ble_eq_true rfl) dX4_readNumbers_252
      · have hf := (if_neg c68).symm.trans hf
        refine lv_aload_n hx hb dX4_readNumbers_235 rfl (lv_at hl 2 rfl) ?_
        refine lv_iconst (v := 2) hx hb dX4_readNumbers_236 (by decide) ?_
        refine lv_iconst (v := 1) hx hb dX4_readNumbers_237 (by decide) ?_
        refine lv_sipush (v := 999) hx hb dX4_readNumbers_238 (by decide) ?_
        obtain ⟨r71, w70, hc69, hf⟩ := bnd_some hf
        refine bk_all hB (fun h1 h2 h3 => bk_runV X (Av := [.int 2, .int 1, .int 999]) (rest := []) (mX4_readNumber hc69) yv_X4_readNumber wm_513 ⟨Nat.le_of_ble_eq_true rfl, Nat.le_of_ble_eq_true rfl⟩ rfl rfl hl.1 kl_X4.1 (hB.1.obj lc_X_857) h1 h2 h3 (Nat.le_of_ble_eq_true rfl) ⟨Nat.le_of_ble_eq_true rfl, Nat.le_of_ble_eq_true rfl⟩ dX4_readNumbers_241) (fun H locs hB => ?_)
        refine W.eq (g2 := F0 m 244 ls [.int r71]) rfl ?_
        refine lv_if_eq (tgt := 251) hx hb dX4_readNumbers_244 (by decide) (fun c72 => ?_) (fun c72 => ?_)
        · have hf := (if_pos c72).symm.trans hf
          refine lv_iconst (v := 0) hx hb dX4_readNumbers_251 (by decide) ?_
          exact bk_zW X hr rfl rfl hf hB (Nat.le_of_ble_eq_true rfl) (Nat.le_of_ble_eq_true rfl) dX4_readNumbers_252
        · have hf := (if_neg c72).symm.trans hf
          refine lv_iconst (v := 1) hx hb dX4_readNumbers_247 (by decide) ?_
          refine lv_goto (tgt := 252) hx hb dX4_readNumbers_248 (by decide) ?_
          exact bk_zW X hr rfl rfl hf hB (Nat.le_of_ble_eq_true rfl) (Nat.le_of_ble_eq_true rfl) dX4_readNumbers_252
  have hf := (if_neg c60).symm.trans hf
  refine lv_tableOut (tgt := 253) hx hb dX4_readNumbers_27 (sw_out p1 (by decide) [6, 7, 8, 9, 10, 11] (by decide) (by simp only [List.forall_mem_cons]; exact ⟨c7, c12, c29, c42, c51, c60, fun _ h => absurd h List.not_mem_nil⟩)) (by decide) ?_
  refine lv_aload_n hx hb dX4_readNumbers_253 rfl (lv_at hl 2 rfl) ?_
  refine lv_iconst (v := 0) hx hb dX4_readNumbers_254 (by decide) ?_
  refine lv_iconst (v := 1) hx hb dX4_readNumbers_255 (by decide) ?_
  refine lv_sipush (v := 999) hx hb dX4_readNumbers_256 (by decide) ?_
  obtain ⟨r75, w74, hc73, hf⟩ := bnd_some hf
  refine bk_all hB (fun h1 h2 h3 => bk_runV X (Av := [.int 0, .int 1, .int 999]) (rest := []) (mX4_readNumber hc73) yv_X4_readNumber wm_513 ⟨Nat.le_of_ble_eq_true rfl, Nat.le_of_ble_eq_true rfl⟩ rfl rfl hl.1 kl_X4.1 (hB.1.obj lc_X_857) h1 h2 h3 (Nat.le_of_ble_eq_true rfl) ⟨Nat.le_of_ble_eq_true rfl, Nat.le_of_ble_eq_true rfl⟩ dX4_readNumbers_259) (fun H locs hB => ?_)
  refine W.eq (g2 := F0 m 262 ls [.int r75]) rfl ?_
  obtain ⟨h76, hf⟩ := ck_some hf
  exact bk_zW X hr rfl (nar_z h76) hf hB (Nat.le_of_ble_eq_true rfl) (Nat.le_of_ble_eq_true rfl) dX4_readNumbers_262
theorem yv_X4_readNumbers : bYv yX4_readNumbers RX4 cX4_readNumbers 4 (some .boolean) 1 := ⟨⟨rfl, by decide, by decide, rfl⟩, wm_539, wp_9, wm_8, wm_540⟩

theorem dX4_isExtra_0 : decode cX4_isExtra 0 = .ok (.iload_n 0, 1) := by decide +kernel
theorem dX4_isExtra_1 : decode cX4_isExtra 1 = .ok (.bipush 13, 2) := by decide +kernel
theorem dX4_isExtra_3 : decode cX4_isExtra 3 = .ok (.if_icmp .lt 13, 3) := by decide +kernel
theorem dX4_isExtra_6 : decode cX4_isExtra 6 = .ok (.iload_n 0, 1) := by decide +kernel
theorem dX4_isExtra_7 : decode cX4_isExtra 7 = .ok (.bipush 17, 2) := by decide +kernel
theorem dX4_isExtra_9 : decode cX4_isExtra 9 = .ok (.if_icmp .gt 7, 3) := by decide +kernel
theorem dX4_isExtra_12 : decode cX4_isExtra 12 = .ok (.iconst 1, 1) := by decide +kernel
theorem dX4_isExtra_13 : decode cX4_isExtra 13 = .ok (.goto 4, 3) := by decide +kernel
theorem dX4_isExtra_16 : decode cX4_isExtra 16 = .ok (.iconst 0, 1) := by decide +kernel
theorem dX4_isExtra_17 : decode cX4_isExtra 17 = .ok (.ireturn, 1) := by decide +kernel
def fX4_isExtra (p0 : Int32) : Option Int32 :=
  (if p0 < 13 then (some (0)) else ((if 17 < p0 then (some (0)) else (some (1)))))
set_option maxRecDepth 100000 in
set_option maxHeartbeats 4000000 in
theorem mX4_isExtra {l : Launch} {p0 : Int32} {v : bM} {r0 : Int32} (hf : fX4_isExtra p0 = some r0) : bMet l yX4_isExtra cX4_isExtra 1 (some .boolean) 0 0 0 [] (fun E a => [.int p0]) v v (fun _ => some (.int r0)) := by
  refine bk_start (by decide +kernel) bWf_nil (fun _ _ => Nat.le_of_ble_eq_true rfl) ?_
  intro p e s m args below meth c D E a ls H locs X hr hl hB
  have hx := X.1
  have hb := X.2.1
  have hown := X.2.2.2.1
  have hts := X.2.2.2.2.1
  have hl : lv_has ls 1 [(0, .int p0)] := hl
  have hf := (fX4_isExtra.eq_1 p0).symm.trans hf
  refine lv_iload_n hx hb dX4_isExtra_0 rfl (lv_at hl 0 rfl) ?_
  refine lv_bipush (v := 13) hx hb dX4_isExtra_1 (by decide) ?_
  refine lv_icmp_lt (tgt := 16) hx hb dX4_isExtra_3 (by decide) (fun c1 => ?_) (fun c1 => ?_)
  · have hf := (if_pos c1).symm.trans hf
    refine lv_iconst (v := 0) hx hb dX4_isExtra_16 (by decide) ?_
    exact bk_zR X hr rfl rfl hf hB (Nat.le_of_ble_eq_true rfl) (Nat.le_of_ble_eq_true rfl) dX4_isExtra_17
  · have hf := (if_neg c1).symm.trans hf
    refine lv_iload_n hx hb dX4_isExtra_6 rfl (lv_at hl 0 rfl) ?_
    refine lv_bipush (v := 17) hx hb dX4_isExtra_7 (by decide) ?_
    refine lv_icmp_gt (tgt := 16) hx hb dX4_isExtra_9 (by decide) (fun c2 => ?_) (fun c2 => ?_)
    · have hf := (if_pos c2).symm.trans hf
      refine lv_iconst (v := 0) hx hb dX4_isExtra_16 (by decide) ?_
      exact bk_zR X hr rfl rfl hf hB (Nat.le_of_ble_eq_true rfl) (Nat.le_of_ble_eq_true rfl) dX4_isExtra_17
    · have hf := (if_neg c2).symm.trans hf
      refine lv_iconst (v := 1) hx hb dX4_isExtra_12 (by decide) ?_
      refine lv_goto (tgt := 17) hx hb dX4_isExtra_13 (by decide) ?_
      exact bk_zR X hr rfl rfl hf hB (Nat.le_of_ble_eq_true rfl) (Nat.le_of_ble_eq_true rfl) dX4_isExtra_17
theorem ys_X4_isExtra : bYs yX4_isExtra RX4 cX4_isExtra 1 (some .boolean) 1 := ⟨⟨rfl, by decide, by decide, rfl⟩, wm_550, wm_8, wm_551⟩

theorem dX4_highestExtra_0 : decode cX4_highestExtra 0 = .ok (.iload_n 0, 1) := by decide +kernel
theorem dX4_highestExtra_1 : decode cX4_highestExtra 1 = .ok (.bipush 13, 2) := by decide +kernel
theorem dX4_highestExtra_3 : decode cX4_highestExtra 3 = .ok (.if_icmp .ne 5, 3) := by decide +kernel
theorem dX4_highestExtra_6 : decode cX4_highestExtra 6 = .ok (.iload_n 1, 1) := by decide +kernel
theorem dX4_highestExtra_7 : decode cX4_highestExtra 7 = .ok (.ireturn, 1) := by decide +kernel
theorem dX4_highestExtra_8 : decode cX4_highestExtra 8 = .ok (.iload_n 0, 1) := by decide +kernel
theorem dX4_highestExtra_9 : decode cX4_highestExtra 9 = .ok (.bipush 14, 2) := by decide +kernel
theorem dX4_highestExtra_11 : decode cX4_highestExtra 11 = .ok (.if_icmp .eq 9, 3) := by decide +kernel
theorem dX4_highestExtra_14 : decode cX4_highestExtra 14 = .ok (.iload_n 0, 1) := by decide +kernel
theorem dX4_highestExtra_15 : decode cX4_highestExtra 15 = .ok (.bipush 15, 2) := by decide +kernel
theorem dX4_highestExtra_17 : decode cX4_highestExtra 17 = .ok (.if_icmp .ne 8, 3) := by decide +kernel
theorem dX4_highestExtra_20 : decode cX4_highestExtra 20 = .ok (.bipush 9, 2) := by decide +kernel
theorem dX4_highestExtra_22 : decode cX4_highestExtra 22 = .ok (.goto 5, 3) := by decide +kernel
theorem dX4_highestExtra_25 : decode cX4_highestExtra 25 = .ok (.bipush 9, 2) := by decide +kernel
theorem dX4_highestExtra_27 : decode cX4_highestExtra 27 = .ok (.ireturn, 1) := by decide +kernel
def fX4_highestExtra_J20   : Option Int32 :=
  some (9)
def fX4_highestExtra (p0 : Int32) (p1 : Int32) : Option Int32 :=
  (if p0 = 13 then (some (p1)) else ((if p0 = 14 then (fX4_highestExtra_J20 ) else ((if p0 = 15 then (fX4_highestExtra_J20 ) else (some (9)))))))
set_option maxRecDepth 100000 in
set_option maxHeartbeats 4000000 in
theorem mX4_highestExtra {l : Launch} {p0 : Int32} {p1 : Int32} {v : bM} {r0 : Int32} (hf : fX4_highestExtra p0 p1 = some r0) : bMet l yX4_highestExtra cX4_highestExtra 2 (some .int) 0 0 0 [] (fun E a => [.int p0, .int p1]) v v (fun _ => some (.int r0)) := by
  refine bk_start (by decide +kernel) bWf_nil (fun _ _ => Nat.le_of_ble_eq_true rfl) ?_
  intro p e s m args below meth c D E a ls H locs X hr hl hB
  have hx := X.1
  have hb := X.2.1
  have hown := X.2.2.2.1
  have hts := X.2.2.2.2.1
  have hl : lv_has ls 2 [(0, .int p0), (1, .int p1)] := hl
  have hf := (fX4_highestExtra.eq_1 p0 p1).symm.trans hf
  refine lv_iload_n hx hb dX4_highestExtra_0 rfl (lv_at hl 0 rfl) ?_
  refine lv_bipush (v := 13) hx hb dX4_highestExtra_1 (by decide) ?_
  refine lv_icmp_ne (tgt := 8) hx hb dX4_highestExtra_3 (by decide) (fun c1 => ?_) (fun c1 => ?_)
  · have hf := (if_neg c1).symm.trans hf
    refine lv_iload_n hx hb dX4_highestExtra_8 rfl (lv_at hl 0 rfl) ?_
    refine lv_bipush (v := 14) hx hb dX4_highestExtra_9 (by decide) ?_
    have hJ20 : ∀ (H : Heap) (locs : List Loc) (ls : Array Slot), fX4_highestExtra_J20  = some r0 → bB D E [] a v s H locs → lv_has ls 2 [] → W p l e (rmOf 0 0 0) s m args below meth c H locs 0 0 (bQ below D E [] a v (some (.int r0)) args s 0 0) (F0 m 20 ls []) := by
      intro  H locs ls hf hB hl
      have hf := (fX4_highestExtra_J20.eq_1  ).symm.trans hf
      refine lv_bipush (v := 9) hx hb dX4_highestExtra_20 (by decide) ?_
      refine lv_goto (tgt := 27) hx hb dX4_highestExtra_22 (by decide) ?_
      exact bk_iR X hr rfl hf hB (Nat.le_of_ble_eq_true rfl) (Nat.le_of_ble_eq_true rfl) dX4_highestExtra_27
    refine lv_icmp_eq (tgt := 20) hx hb dX4_highestExtra_11 (by decide) (fun c2 => ?_) (fun c2 => ?_)
    · have hf := (if_pos c2).symm.trans hf
      exact hJ20  H locs ls hf hB (lv_sub hl [] rfl)
    · have hf := (if_neg c2).symm.trans hf
      refine lv_iload_n hx hb dX4_highestExtra_14 rfl (lv_at hl 0 rfl) ?_
      refine lv_bipush (v := 15) hx hb dX4_highestExtra_15 (by decide) ?_
      refine lv_icmp_ne (tgt := 25) hx hb dX4_highestExtra_17 (by decide) (fun c3 => ?_) (fun c3 => ?_)
      · have hf := (if_neg c3).symm.trans hf
        refine lv_bipush (v := 9) hx hb dX4_highestExtra_25 (by decide) ?_
        exact bk_iR X hr rfl hf hB (Nat.le_of_ble_eq_true rfl) (Nat.le_of_ble_eq_true rfl) dX4_highestExtra_27
      · have hf := (if_pos c3).symm.trans hf
        exact hJ20  H locs ls hf hB (lv_sub hl [] rfl)
  · have hf := (if_pos c1).symm.trans hf
    refine lv_iload_n hx hb dX4_highestExtra_6 rfl (lv_at hl 1 rfl) ?_
    exact bk_iR X hr rfl hf hB (Nat.le_of_ble_eq_true rfl) (Nat.le_of_ble_eq_true rfl) dX4_highestExtra_7
theorem ys_X4_highestExtra : bYs yX4_highestExtra RX4 cX4_highestExtra 2 (some .int) 2 := ⟨⟨rfl, by decide, by decide, rfl⟩, wm_553, wm_8, wm_554⟩

theorem dX4_takeExtra_0 : decode cX4_takeExtra 0 = .ok (.iload_n 1, 1) := by decide +kernel
theorem dX4_takeExtra_1 : decode cX4_takeExtra 1 = .ok (.tableswitch 64 13 16 #[31, 39, 47, 56], 31) := by decide +kernel
theorem dX4_takeExtra_32 : decode cX4_takeExtra 32 = .ok (.aload_n 0, 1) := by decide +kernel
theorem dX4_takeExtra_33 : decode cX4_takeExtra 33 = .ok (.iload_n 2, 1) := by decide +kernel
theorem dX4_takeExtra_34 : decode cX4_takeExtra 34 = .ok (.putfield 105, 3) := by decide +kernel
theorem dX4_takeExtra_37 : decode cX4_takeExtra 37 = .ok (.goto 34, 3) := by decide +kernel
theorem dX4_takeExtra_40 : decode cX4_takeExtra 40 = .ok (.aload_n 0, 1) := by decide +kernel
theorem dX4_takeExtra_41 : decode cX4_takeExtra 41 = .ok (.iload_n 2, 1) := by decide +kernel
theorem dX4_takeExtra_42 : decode cX4_takeExtra 42 = .ok (.putfield 108, 3) := by decide +kernel
theorem dX4_takeExtra_45 : decode cX4_takeExtra 45 = .ok (.goto 26, 3) := by decide +kernel
theorem dX4_takeExtra_48 : decode cX4_takeExtra 48 = .ok (.aload_n 0, 1) := by decide +kernel
theorem dX4_takeExtra_49 : decode cX4_takeExtra 49 = .ok (.iload_n 2, 1) := by decide +kernel
theorem dX4_takeExtra_50 : decode cX4_takeExtra 50 = .ok (.ineg, 1) := by decide +kernel
theorem dX4_takeExtra_51 : decode cX4_takeExtra 51 = .ok (.putfield 108, 3) := by decide +kernel
theorem dX4_takeExtra_54 : decode cX4_takeExtra 54 = .ok (.goto 17, 3) := by decide +kernel
theorem dX4_takeExtra_57 : decode cX4_takeExtra 57 = .ok (.aload_n 0, 1) := by decide +kernel
theorem dX4_takeExtra_58 : decode cX4_takeExtra 58 = .ok (.iload_n 2, 1) := by decide +kernel
theorem dX4_takeExtra_59 : decode cX4_takeExtra 59 = .ok (.putfield 111, 3) := by decide +kernel
theorem dX4_takeExtra_62 : decode cX4_takeExtra 62 = .ok (.goto 9, 3) := by decide +kernel
theorem dX4_takeExtra_65 : decode cX4_takeExtra 65 = .ok (.aload_n 0, 1) := by decide +kernel
theorem dX4_takeExtra_66 : decode cX4_takeExtra 66 = .ok (.iload_n 2, 1) := by decide +kernel
theorem dX4_takeExtra_67 : decode cX4_takeExtra 67 = .ok (.ineg, 1) := by decide +kernel
theorem dX4_takeExtra_68 : decode cX4_takeExtra 68 = .ok (.putfield 111, 3) := by decide +kernel
theorem dX4_takeExtra_71 : decode cX4_takeExtra 71 = .ok (.return_, 1) := by decide +kernel
def fX4_takeExtra (p1 : Int32) (p2 : Int32) (v : bM) : Option bM :=
  (if p1 = 13 then (nm (upd v 7090 p2) fun v2 => some v2) else (if p1 = 14 then (nm (upd v 7091 p2) fun v4 => some v4) else (if p1 = 15 then (nm (-p2) fun x6 => nm (upd v 7091 x6) fun v7 => some v7) else (if p1 = 16 then (nm (upd v 7092 p2) fun v9 => some v9) else (nm (-p2) fun x10 => nm (upd v 7092 x10) fun v11 => some v11)))))
set_option maxRecDepth 100000 in
set_option maxHeartbeats 4000000 in
theorem mX4_takeExtra {l : Launch} {p1 : Int32} {p2 : Int32} {v : bM} {w0 : bM} (hf : fX4_takeExtra p1 p2 v = some w0) : bMet l yX4_takeExtra cX4_takeExtra 3 none 0 0 0 LX (fun E a => [.ref (a + 857), .int p1, .int p2]) v w0 (fun _ => none) := by
  refine bk_start (by decide +kernel) wfX (fun _ _ => Nat.le_of_ble_eq_true rfl) ?_
  intro p e s m args below meth c D E a ls H locs X hr hl hB
  have hx := X.1
  have hb := X.2.1
  have hown := X.2.2.2.1
  have hts := X.2.2.2.2.1
  have hl : lv_has ls 3 [(0, .ref (a + 857)), (1, .int p1), (2, .int p2)] := hl
  have hf := (fX4_takeExtra.eq_1 p1 p2 v).symm.trans hf
  refine lv_iload_n hx hb dX4_takeExtra_0 rfl (lv_at hl 1 rfl) ?_
  by_cases c1 : p1 = 13
  · have hf := (if_pos c1).symm.trans hf
    refine lv_tableIn (tgt := 32) hx hb dX4_takeExtra_1 (by rw [c1]; decide) (by rw [c1]; decide) (by rw [c1]; rfl) (by decide) ?_
    refine lv_aload_n hx hb dX4_takeExtra_32 rfl (lv_at hl 0 rfl) ?_
    refine lv_iload_n hx hb dX4_takeExtra_33 rfl (lv_at hl 2 rfl) ?_
    refine bk_putI X hB kl_X4 857 lc_X_857 5 (by decide) rfl rfl rfl wm_328 dX4_takeExtra_34 rfl (fun H locs hB => ?_)
    obtain ⟨v2, ev2⟩ : ∃ y : bM, y = upd v 7090 p2 := ⟨_, rfl⟩
    have hf := nm_use hf ev2
    rw [← ev2] at hB
    refine lv_goto (tgt := 71) hx hb dX4_takeExtra_37 (by decide) ?_
    exact bk_vW X hr rfl hf hB (Nat.le_of_ble_eq_true rfl) (Nat.le_of_ble_eq_true rfl) dX4_takeExtra_71
  have hf := (if_neg c1).symm.trans hf
  by_cases c3 : p1 = 14
  · have hf := (if_pos c3).symm.trans hf
    refine lv_tableIn (tgt := 40) hx hb dX4_takeExtra_1 (by rw [c3]; decide) (by rw [c3]; decide) (by rw [c3]; rfl) (by decide) ?_
    refine lv_aload_n hx hb dX4_takeExtra_40 rfl (lv_at hl 0 rfl) ?_
    refine lv_iload_n hx hb dX4_takeExtra_41 rfl (lv_at hl 2 rfl) ?_
    refine bk_putI X hB kl_X4 857 lc_X_857 6 (by decide) rfl rfl rfl wm_329 dX4_takeExtra_42 rfl (fun H locs hB => ?_)
    obtain ⟨v4, ev4⟩ : ∃ y : bM, y = upd v 7091 p2 := ⟨_, rfl⟩
    have hf := nm_use hf ev4
    rw [← ev4] at hB
    refine lv_goto (tgt := 71) hx hb dX4_takeExtra_45 (by decide) ?_
    exact bk_vW X hr rfl hf hB (Nat.le_of_ble_eq_true rfl) (Nat.le_of_ble_eq_true rfl) dX4_takeExtra_71
  have hf := (if_neg c3).symm.trans hf
  by_cases c5 : p1 = 15
  · have hf := (if_pos c5).symm.trans hf
    refine lv_tableIn (tgt := 48) hx hb dX4_takeExtra_1 (by rw [c5]; decide) (by rw [c5]; decide) (by rw [c5]; rfl) (by decide) ?_
    refine lv_aload_n hx hb dX4_takeExtra_48 rfl (lv_at hl 0 rfl) ?_
    refine lv_iload_n hx hb dX4_takeExtra_49 rfl (lv_at hl 2 rfl) ?_
    refine lv_ineg hx hb dX4_takeExtra_50 ?_
    refine lv_topi (fun x6 ex6 => ?_)
    have hf := nm_use hf ex6
    refine bk_putI X hB kl_X4 857 lc_X_857 6 (by decide) rfl rfl rfl wm_329 dX4_takeExtra_51 rfl (fun H locs hB => ?_)
    obtain ⟨v7, ev7⟩ : ∃ y : bM, y = upd v 7091 x6 := ⟨_, rfl⟩
    have hf := nm_use hf ev7
    rw [← ev7] at hB
    refine lv_goto (tgt := 71) hx hb dX4_takeExtra_54 (by decide) ?_
    exact bk_vW X hr rfl hf hB (Nat.le_of_ble_eq_true rfl) (Nat.le_of_ble_eq_true rfl) dX4_takeExtra_71
  have hf := (if_neg c5).symm.trans hf
  by_cases c8 : p1 = 16
  · have hf := (if_pos c8).symm.trans hf
    refine lv_tableIn (tgt := 57) hx hb dX4_takeExtra_1 (by rw [c8]; decide) (by rw [c8]; decide) (by rw [c8]; rfl) (by decide) ?_
    refine lv_aload_n hx hb dX4_takeExtra_57 rfl (lv_at hl 0 rfl) ?_
    refine lv_iload_n hx hb dX4_takeExtra_58 rfl (lv_at hl 2 rfl) ?_
    refine bk_putI X hB kl_X4 857 lc_X_857 7 (by decide) rfl rfl rfl wm_330 dX4_takeExtra_59 rfl (fun H locs hB => ?_)
    obtain ⟨v9, ev9⟩ : ∃ y : bM, y = upd v 7092 p2 := ⟨_, rfl⟩
    have hf := nm_use hf ev9
    rw [← ev9] at hB
    refine lv_goto (tgt := 71) hx hb dX4_takeExtra_62 (by decide) ?_
    exact bk_vW X hr rfl hf hB (Nat.le_of_ble_eq_true rfl) (Nat.le_of_ble_eq_true rfl) dX4_takeExtra_71
  have hf := (if_neg c8).symm.trans hf
  refine lv_tableOut (tgt := 65) hx hb dX4_takeExtra_1 (sw_out p1 (by decide) [13, 14, 15, 16] (by decide) (by simp only [List.forall_mem_cons]; exact ⟨c1, c3, c5, c8, fun _ h => absurd h List.not_mem_nil⟩)) (by decide) ?_
  refine lv_aload_n hx hb dX4_takeExtra_65 rfl (lv_at hl 0 rfl) ?_
  refine lv_iload_n hx hb dX4_takeExtra_66 rfl (lv_at hl 2 rfl) ?_
  refine lv_ineg hx hb dX4_takeExtra_67 ?_
  refine lv_topi (fun x10 ex10 => ?_)
  have hf := nm_use hf ex10
  refine bk_putI X hB kl_X4 857 lc_X_857 7 (by decide) rfl rfl rfl wm_330 dX4_takeExtra_68 rfl (fun H locs hB => ?_)
  obtain ⟨v11, ev11⟩ : ∃ y : bM, y = upd v 7092 x10 := ⟨_, rfl⟩
  have hf := nm_use hf ev11
  rw [← ev11] at hB
  exact bk_vW X hr rfl hf hB (Nat.le_of_ble_eq_true rfl) (Nat.le_of_ble_eq_true rfl) dX4_takeExtra_71
theorem yv_X4_takeExtra : bYv yX4_takeExtra RX4 cX4_takeExtra 3 none 2 := ⟨⟨rfl, by decide, by decide, rfl⟩, wm_557, wp_11, wm_8, wm_558⟩

theorem dX4_readExtras_0 : decode cX4_readExtras 0 = .ok (.aload_n 0, 1) := by decide +kernel
theorem dX4_readExtras_1 : decode cX4_readExtras 1 = .ok (.iconst 0, 1) := by decide +kernel
theorem dX4_readExtras_2 : decode cX4_readExtras 2 = .ok (.putfield 105, 3) := by decide +kernel
theorem dX4_readExtras_5 : decode cX4_readExtras 5 = .ok (.aload_n 0, 1) := by decide +kernel
theorem dX4_readExtras_6 : decode cX4_readExtras 6 = .ok (.iconst 0, 1) := by decide +kernel
theorem dX4_readExtras_7 : decode cX4_readExtras 7 = .ok (.putfield 108, 3) := by decide +kernel
theorem dX4_readExtras_10 : decode cX4_readExtras 10 = .ok (.aload_n 0, 1) := by decide +kernel
theorem dX4_readExtras_11 : decode cX4_readExtras 11 = .ok (.iconst 0, 1) := by decide +kernel
theorem dX4_readExtras_12 : decode cX4_readExtras 12 = .ok (.putfield 111, 3) := by decide +kernel
theorem dX4_readExtras_15 : decode cX4_readExtras 15 = .ok (.iconst 1, 1) := by decide +kernel
theorem dX4_readExtras_16 : decode cX4_readExtras 16 = .ok (.istore_n 2, 1) := by decide +kernel
theorem dX4_readExtras_17 : decode cX4_readExtras 17 = .ok (.iconst 0, 1) := by decide +kernel
theorem dX4_readExtras_18 : decode cX4_readExtras 18 = .ok (.istore_n 3, 1) := by decide +kernel
theorem dX4_readExtras_19 : decode cX4_readExtras 19 = .ok (.iload_n 3, 1) := by decide +kernel
theorem dX4_readExtras_20 : decode cX4_readExtras 20 = .ok (.sipush 700, 3) := by decide +kernel
theorem dX4_readExtras_23 : decode cX4_readExtras 23 = .ok (.if_icmp .ge 67, 3) := by decide +kernel
theorem dX4_readExtras_26 : decode cX4_readExtras 26 = .ok (.iload_n 2, 1) := by decide +kernel
theorem dX4_readExtras_27 : decode cX4_readExtras 27 = .ok (.ifCond .eq 63, 3) := by decide +kernel
theorem dX4_readExtras_30 : decode cX4_readExtras 30 = .ok (.aload_n 0, 1) := by decide +kernel
theorem dX4_readExtras_31 : decode cX4_readExtras 31 = .ok (.getfield 12, 3) := by decide +kernel
theorem dX4_readExtras_34 : decode cX4_readExtras 34 = .ok (.invokevirtual 43, 3) := by decide +kernel
theorem dX4_readExtras_37 : decode cX4_readExtras 37 = .ok (.invokestatic 114, 3) := by decide +kernel
theorem dX4_readExtras_40 : decode cX4_readExtras 40 = .ok (.ifCond .eq 50, 3) := by decide +kernel
theorem dX4_readExtras_43 : decode cX4_readExtras 43 = .ok (.aload_n 0, 1) := by decide +kernel
theorem dX4_readExtras_44 : decode cX4_readExtras 44 = .ok (.getfield 12, 3) := by decide +kernel
theorem dX4_readExtras_47 : decode cX4_readExtras 47 = .ok (.invokevirtual 43, 3) := by decide +kernel
theorem dX4_readExtras_50 : decode cX4_readExtras 50 = .ok (.istore 4, 2) := by decide +kernel
theorem dX4_readExtras_52 : decode cX4_readExtras 52 = .ok (.aload_n 0, 1) := by decide +kernel
theorem dX4_readExtras_53 : decode cX4_readExtras 53 = .ok (.getfield 12, 3) := by decide +kernel
theorem dX4_readExtras_56 : decode cX4_readExtras 56 = .ok (.invokevirtual 57, 3) := by decide +kernel
theorem dX4_readExtras_59 : decode cX4_readExtras 59 = .ok (.aload_n 0, 1) := by decide +kernel
theorem dX4_readExtras_60 : decode cX4_readExtras 60 = .ok (.iconst 2, 1) := by decide +kernel
theorem dX4_readExtras_61 : decode cX4_readExtras 61 = .ok (.iconst 0, 1) := by decide +kernel
theorem dX4_readExtras_62 : decode cX4_readExtras 62 = .ok (.iload 4, 2) := by decide +kernel
theorem dX4_readExtras_64 : decode cX4_readExtras 64 = .ok (.iload_n 1, 1) := by decide +kernel
theorem dX4_readExtras_65 : decode cX4_readExtras 65 = .ok (.invokestatic 117, 3) := by decide +kernel
theorem dX4_readExtras_68 : decode cX4_readExtras 68 = .ok (.invokevirtual 61, 3) := by decide +kernel
theorem dX4_readExtras_71 : decode cX4_readExtras 71 = .ok (.istore_n 2, 1) := by decide +kernel
theorem dX4_readExtras_72 : decode cX4_readExtras 72 = .ok (.aload_n 0, 1) := by decide +kernel
theorem dX4_readExtras_73 : decode cX4_readExtras 73 = .ok (.iload 4, 2) := by decide +kernel
theorem dX4_readExtras_75 : decode cX4_readExtras 75 = .ok (.aload_n 0, 1) := by decide +kernel
theorem dX4_readExtras_76 : decode cX4_readExtras 76 = .ok (.getfield 22, 3) := by decide +kernel
theorem dX4_readExtras_79 : decode cX4_readExtras 79 = .ok (.iconst 2, 1) := by decide +kernel
theorem dX4_readExtras_80 : decode cX4_readExtras 80 = .ok (.iaload, 1) := by decide +kernel
theorem dX4_readExtras_81 : decode cX4_readExtras 81 = .ok (.invokevirtual 121, 3) := by decide +kernel
theorem dX4_readExtras_84 : decode cX4_readExtras 84 = .ok (.iinc 3 1, 3) := by decide +kernel
theorem dX4_readExtras_87 : decode cX4_readExtras 87 = .ok (.goto (-68), 3) := by decide +kernel
theorem dX4_readExtras_90 : decode cX4_readExtras 90 = .ok (.iload_n 2, 1) := by decide +kernel
theorem dX4_readExtras_91 : decode cX4_readExtras 91 = .ok (.ireturn, 1) := by decide +kernel
def fX4_readExtras_L19 (p1 : Int32) (k19 : Int32 → Int32 → bM → Option (Int32 × bM)) (y4 : Int32) (y5 : Int32) (v6 : bM) : Option (Int32 × bM) :=
  (if 700 ≤ y5 then (ck y4 2 <| some (y4, v6)) else ((if y4 = 0 then (ck y4 2 <| some (y4, v6)) else (bnr (fX7_kind (vw v6 7093)) fun r12 => bnr (fX4_isExtra r12) fun r14 => (if r14 = 0 then (ck y4 2 <| some (y4, v6)) else (bnr (fX7_kind (vw v6 7093)) fun r18 => bnw (fX7_advance (vw v6 7093)) fun w20 => nm (spl v6 7093 2806 w20) fun v21 => bnr (fX4_highestExtra r18 p1) fun r23 => bnd (fX4_readNumber 2 0 r23 v21) fun r26 w25 => bnw (fX4_takeExtra r18 (w25 (9899 + (2 : Int32).toNatClampNeg)) w25) fun w28 => nm (y5 + 1) fun x29 => k19 r26 x29 w28))))))
def fX4_readExtras (p1 : Int32) (v : bM) : Option (Int32 × bM) :=
  nm (upd v 7090 0) fun v1 => nm (upd v1 7091 0) fun v2 => nm (upd v2 7092 0) fun v3 => lp (fX4_readExtras_L19 p1) (fun _ _ _ => none) lpN 1 0 v3
set_option maxRecDepth 100000 in
set_option maxHeartbeats 4000000 in
theorem mX4_readExtras {l : Launch} {p1 : Int32} {v : bM} {r0 : Int32} {w0 : bM} (hf : fX4_readExtras p1 v = some (r0, w0)) : bMet l yX4_readExtras cX4_readExtras 5 (some .boolean) 3 0 0 LX (fun E a => [.ref (a + 857), .int p1]) v w0 (fun _ => some (.int r0)) := by
  refine bk_start (by decide +kernel) wfX (fun _ _ => Nat.le_of_ble_eq_true rfl) ?_
  intro p e s m args below meth c D E a ls H locs X hr hl hB
  have hx := X.1
  have hb := X.2.1
  have hown := X.2.2.2.1
  have hts := X.2.2.2.2.1
  have hl : lv_has ls 5 [(0, .ref (a + 857)), (1, .int p1)] := hl
  have hf := (fX4_readExtras.eq_1 p1 v).symm.trans hf
  refine lv_aload_n hx hb dX4_readExtras_0 rfl (lv_at hl 0 rfl) ?_
  refine lv_iconst (v := 0) hx hb dX4_readExtras_1 (by decide) ?_
  refine bk_putI X hB kl_X4 857 lc_X_857 5 (by decide) rfl rfl rfl wm_328 dX4_readExtras_2 rfl (fun H locs hB => ?_)
  obtain ⟨v1, ev1⟩ : ∃ y : bM, y = upd v 7090 0 := ⟨_, rfl⟩
  have hf := nm_use hf ev1
  rw [← ev1] at hB
  refine lv_aload_n hx hb dX4_readExtras_5 rfl (lv_at hl 0 rfl) ?_
  refine lv_iconst (v := 0) hx hb dX4_readExtras_6 (by decide) ?_
  refine bk_putI X hB kl_X4 857 lc_X_857 6 (by decide) rfl rfl rfl wm_329 dX4_readExtras_7 rfl (fun H locs hB => ?_)
  obtain ⟨v2, ev2⟩ : ∃ y : bM, y = upd v1 7091 0 := ⟨_, rfl⟩
  have hf := nm_use hf ev2
  rw [← ev2] at hB
  refine lv_aload_n hx hb dX4_readExtras_10 rfl (lv_at hl 0 rfl) ?_
  refine lv_iconst (v := 0) hx hb dX4_readExtras_11 (by decide) ?_
  refine bk_putI X hB kl_X4 857 lc_X_857 7 (by decide) rfl rfl rfl wm_330 dX4_readExtras_12 rfl (fun H locs hB => ?_)
  obtain ⟨v3, ev3⟩ : ∃ y : bM, y = upd v2 7092 0 := ⟨_, rfl⟩
  have hf := nm_use hf ev3
  rw [← ev3] at hB
  refine lv_iconst (v := 1) hx hb dX4_readExtras_15 (by decide) ?_
  refine lv_istore_n (lv' := [(2, .int 1), (0, .ref (a + 857)), (1, .int p1)]) hx hb dX4_readExtras_16 rfl hl (by decide) rfl (fun ls hl => ?_)
  refine lv_iconst (v := 0) hx hb dX4_readExtras_17 (by decide) ?_
  refine lv_istore_n (lv' := [(3, .int 0), (2, .int 1), (0, .ref (a + 857)), (1, .int p1)]) hx hb dX4_readExtras_18 rfl hl (by decide) rfl (fun ls hl => ?_)
  have hL19 : ∀ (n19 : Nat) (y4 y5 : Int32) (v6 : bM) (H : Heap) (locs : List Loc) (ls : Array Slot), lp (fX4_readExtras_L19 p1) (fun _ _ _ => none) n19 y4 y5 v6 = some (r0, w0) → bB D E LX a v6 s H locs → lv_has ls 5 [(0, .ref (a + 857)), (1, .int p1), (2, .int y4), (3, .int y5)] → W p l e (rmOf 3 0 0) s m args below meth c H locs 0 0 (bQ below D E LX a w0 (some (.int r0)) args s 0 0) (F0 m 19 ls []) := by
    intro n19
    induction n19 with
    | zero => intro y4 y5 v6 H locs ls hf; cases (show (none : Option (Int32 × bM)) = some (r0, w0) from hf)
    | succ n19 ih19 =>
      intro y4 y5 v6 H locs ls hf hB hl
      have hf := (fX4_readExtras_L19.eq_1 p1 (lp (fX4_readExtras_L19 p1) (fun _ _ _ => none) n19) y4 y5 v6).symm.trans (show fX4_readExtras_L19 p1 (lp (fX4_readExtras_L19 p1) (fun _ _ _ => none) n19) y4 y5 v6 = some (r0, w0) from hf)
      refine lv_iload_n hx hb dX4_readExtras_19 rfl (lv_at hl 3 rfl) ?_
      refine lv_sipush (v := 700) hx hb dX4_readExtras_20 (by decide) ?_
      refine lv_icmp_ge (tgt := 90) hx hb dX4_readExtras_23 (by decide) (fun c7 => ?_) (fun c7 => ?_)
      · have hf := (if_pos c7).symm.trans hf
        refine lv_iload_n hx hb dX4_readExtras_90 rfl (lv_at hl 2 rfl) ?_
        obtain ⟨h8, hf⟩ := ck_some hf
        exact bk_zW X hr rfl (nar_z h8) hf hB (Nat.le_of_ble_eq_true rfl) (Nat.le_of_ble_eq_true rfl) dX4_readExtras_91
      · have hf := (if_neg c7).symm.trans hf
        refine lv_iload_n hx hb dX4_readExtras_26 rfl (lv_at hl 2 rfl) ?_
        refine lv_if_eq (tgt := 90) hx hb dX4_readExtras_27 (by decide) (fun c9 => ?_) (fun c9 => ?_)
        · have hf := (if_pos c9).symm.trans hf
          refine lv_iload_n hx hb dX4_readExtras_90 rfl (lv_at hl 2 rfl) ?_
          obtain ⟨h10, hf⟩ := ck_some hf
          exact bk_zW X hr rfl (nar_z h10) hf hB (Nat.le_of_ble_eq_true rfl) (Nat.le_of_ble_eq_true rfl) dX4_readExtras_91
        · have hf := (if_neg c9).symm.trans hf
          refine lv_aload_n hx hb dX4_readExtras_30 rfl (lv_at hl 0 rfl) ?_
          refine bk_getR X hB kl_X4 857 lc_X_857 0 (by decide) rfl wm_319 dX4_readExtras_31 ?_
          obtain ⟨r12, hc11, hf⟩ := bnr_some hf
          refine bk_subR sub_X_858 hB (fun h1 h2 h3 => bk_runV X (Av := []) (rest := []) (mX7_kind hc11) yv_X7_kind wm_496 ⟨Nat.le_of_ble_eq_true rfl, Nat.le_of_ble_eq_true rfl⟩ rfl rfl hl.1 kl_X7.1 (hB.1.obj lc_X_858) h1 h2 h3 (Nat.le_of_ble_eq_true rfl) ⟨Nat.le_of_ble_eq_true rfl, Nat.le_of_ble_eq_true rfl⟩ dX4_readExtras_34) (fun H locs hB => ?_)
          refine W.eq (g2 := F0 m 37 ls [.int r12]) rfl ?_
          obtain ⟨r14, hc13, hf⟩ := bnr_some hf
          refine bk_non (v0 := v6) (w0 := v6) hB (fun h1 h2 h3 => bk_runS X (Av := [.int r12]) (rest := []) (mX4_isExtra hc13) ys_X4_isExtra wm_549 ⟨Nat.le_of_ble_eq_true rfl, Nat.le_of_ble_eq_true rfl⟩ rfl rfl hl.1 h1 h2 h3 (Nat.le_of_ble_eq_true rfl) ⟨Nat.le_of_ble_eq_true rfl, Nat.le_of_ble_eq_true rfl⟩ dX4_readExtras_37) (fun H locs hB => ?_)
          refine W.eq (g2 := F0 m 40 ls [.int r14]) rfl ?_
          refine lv_if_eq (tgt := 90) hx hb dX4_readExtras_40 (by decide) (fun c15 => ?_) (fun c15 => ?_)
          · have hf := (if_pos c15).symm.trans hf
            refine lv_iload_n hx hb dX4_readExtras_90 rfl (lv_at hl 2 rfl) ?_
            obtain ⟨h16, hf⟩ := ck_some hf
            exact bk_zW X hr rfl (nar_z h16) hf hB (Nat.le_of_ble_eq_true rfl) (Nat.le_of_ble_eq_true rfl) dX4_readExtras_91
          · have hf := (if_neg c15).symm.trans hf
            refine lv_aload_n hx hb dX4_readExtras_43 rfl (lv_at hl 0 rfl) ?_
            refine bk_getR X hB kl_X4 857 lc_X_857 0 (by decide) rfl wm_319 dX4_readExtras_44 ?_
            obtain ⟨r18, hc17, hf⟩ := bnr_some hf
            refine bk_subR sub_X_858 hB (fun h1 h2 h3 => bk_runV X (Av := []) (rest := []) (mX7_kind hc17) yv_X7_kind wm_496 ⟨Nat.le_of_ble_eq_true rfl, Nat.le_of_ble_eq_true rfl⟩ rfl rfl hl.1 kl_X7.1 (hB.1.obj lc_X_858) h1 h2 h3 (Nat.le_of_ble_eq_true rfl) ⟨Nat.le_of_ble_eq_true rfl, Nat.le_of_ble_eq_true rfl⟩ dX4_readExtras_47) (fun H locs hB => ?_)
            refine W.eq (g2 := F0 m 50 ls [.int r18]) rfl ?_
            refine lv_istore (lv' := [(4, .int r18), (0, .ref (a + 857)), (1, .int p1), (2, .int y4), (3, .int y5)]) hx hb dX4_readExtras_50 hl (by decide) rfl (fun ls hl => ?_)
            refine lv_aload_n hx hb dX4_readExtras_52 rfl (lv_at hl 1 rfl) ?_
            refine bk_getR X hB kl_X4 857 lc_X_857 0 (by decide) rfl wm_319 dX4_readExtras_53 ?_
            obtain ⟨w20, hc19, hf⟩ := bnw_some hf
            refine bk_sub sub_X_858 hB (fun h1 h2 h3 => bk_runV X (Av := []) (rest := []) (mX7_advance hc19) yv_X7_advance wm_508 ⟨Nat.le_of_ble_eq_true rfl, Nat.le_of_ble_eq_true rfl⟩ rfl rfl hl.1 kl_X7.1 (hB.1.obj lc_X_858) h1 h2 h3 (Nat.le_of_ble_eq_true rfl) ⟨Nat.le_of_ble_eq_true rfl, Nat.le_of_ble_eq_true rfl⟩ dX4_readExtras_56) (fun H locs hB => ?_)
            refine W.eq (g2 := F0 m 59 ls []) rfl ?_
            obtain ⟨v21, ev21⟩ : ∃ y : bM, y = spl v6 7093 2806 w20 := ⟨_, rfl⟩
            have hf := nm_use hf ev21
            rw [← ev21] at hB
            refine lv_aload_n hx hb dX4_readExtras_59 rfl (lv_at hl 1 rfl) ?_
            refine lv_iconst (v := 2) hx hb dX4_readExtras_60 (by decide) ?_
            refine lv_iconst (v := 0) hx hb dX4_readExtras_61 (by decide) ?_
            refine lv_iload hx hb dX4_readExtras_62 (lv_at hl 0 rfl) ?_
            refine lv_iload_n hx hb dX4_readExtras_64 rfl (lv_at hl 2 rfl) ?_
            obtain ⟨r23, hc22, hf⟩ := bnr_some hf
            refine bk_non (v0 := v21) (w0 := v21) hB (fun h1 h2 h3 => bk_runS X (Av := [.int r18, .int p1]) (rest := [.int 0, .int 2, .ref (a + 857)]) (mX4_highestExtra hc22) ys_X4_highestExtra wm_552 ⟨Nat.le_of_ble_eq_true rfl, Nat.le_of_ble_eq_true rfl⟩ rfl rfl hl.1 h1 h2 h3 (Nat.le_of_ble_eq_true rfl) ⟨Nat.le_of_ble_eq_true rfl, Nat.le_of_ble_eq_true rfl⟩ dX4_readExtras_65) (fun H locs hB => ?_)
            refine W.eq (g2 := F0 m 68 ls [.int r23, .int 0, .int 2, .ref (a + 857)]) rfl ?_
            obtain ⟨r26, w25, hc24, hf⟩ := bnd_some hf
            refine bk_all hB (fun h1 h2 h3 => bk_runV X (Av := [.int 2, .int 0, .int r23]) (rest := []) (mX4_readNumber hc24) yv_X4_readNumber wm_513 ⟨Nat.le_of_ble_eq_true rfl, Nat.le_of_ble_eq_true rfl⟩ rfl rfl hl.1 kl_X4.1 (hB.1.obj lc_X_857) h1 h2 h3 (Nat.le_of_ble_eq_true rfl) ⟨Nat.le_of_ble_eq_true rfl, Nat.le_of_ble_eq_true rfl⟩ dX4_readExtras_68) (fun H locs hB => ?_)
            refine W.eq (g2 := F0 m 71 ls [.int r26]) rfl ?_
            refine lv_istore_n (lv' := [(2, .int r26), (4, .int r18), (0, .ref (a + 857)), (1, .int p1), (3, .int y5)]) hx hb dX4_readExtras_71 rfl hl (by decide) rfl (fun ls hl => ?_)
            refine lv_aload_n hx hb dX4_readExtras_72 rfl (lv_at hl 2 rfl) ?_
            refine lv_iload hx hb dX4_readExtras_73 (lv_at hl 1 rfl) ?_
            refine lv_aload_n hx hb dX4_readExtras_75 rfl (lv_at hl 2 rfl) ?_
            refine bk_getR X hB kl_X4 857 lc_X_857 8 (by decide) rfl wm_331 dX4_readExtras_76 ?_
            refine lv_iconst (v := 2) hx hb dX4_readExtras_79 (by decide) ?_
            refine bk_ald X hB 863 lc_X_863 (vp_c 2 3 rfl) dX4_readExtras_80 ?_
            obtain ⟨w28, hc27, hf⟩ := bnw_some hf
            refine bk_all hB (fun h1 h2 h3 => bk_runV X (Av := [.int r18, .int (w25 (9899 + (2 : Int32).toNatClampNeg))]) (rest := []) (mX4_takeExtra hc27) yv_X4_takeExtra wm_555 ⟨Nat.le_of_ble_eq_true rfl, Nat.le_of_ble_eq_true rfl⟩ rfl rfl hl.1 kl_X4.1 (hB.1.obj lc_X_857) h1 h2 h3 (Nat.le_of_ble_eq_true rfl) ⟨Nat.le_of_ble_eq_true rfl, Nat.le_of_ble_eq_true rfl⟩ dX4_readExtras_81) (fun H locs hB => ?_)
            refine W.eq (g2 := F0 m 84 ls []) rfl ?_
            obtain ⟨x29, ex29⟩ : ∃ y : Int32, y = y5 + 1 := ⟨_, rfl⟩
            have hf := nm_use hf ex29
            refine lv_iinc (v := x29) (lv' := [(3, .int x29), (2, .int r26), (4, .int r18), (0, .ref (a + 857)), (1, .int p1)]) hx hb dX4_readExtras_84 hl (k := 4) rfl (by rw [ex29]; rfl) (by decide) rfl (fun ls hl => ?_)
            refine lv_goto (tgt := 19) hx hb dX4_readExtras_87 (by decide) ?_
            exact ih19 r26 x29 w28 H locs ls hf hB (lv_sub hl [3, 4, 1, 0] rfl)
  exact hL19 lpN 1 0 v3 H locs ls hf hB (lv_sub hl [2, 3, 1, 0] rfl)
theorem yv_X4_readExtras : bYv yX4_readExtras RX4 cX4_readExtras 5 (some .boolean) 1 := ⟨⟨rfl, by decide, by decide, rfl⟩, wm_547, wp_10, wm_8, wm_548⟩

theorem dX4_execute_0 : decode cX4_execute 0 = .ok (.iload_n 1, 1) := by decide +kernel
theorem dX4_execute_1 : decode cX4_execute 1 = .ok (.tableswitch 204 6 11 #[39, 58, 86, 112, 137, 178], 39) := by decide +kernel
theorem dX4_execute_40 : decode cX4_execute 40 = .ok (.aload_n 0, 1) := by decide +kernel
theorem dX4_execute_41 : decode cX4_execute 41 = .ok (.getfield 26, 3) := by decide +kernel
theorem dX4_execute_44 : decode cX4_execute 44 = .ok (.getfield 83, 3) := by decide +kernel
theorem dX4_execute_47 : decode cX4_execute 47 = .ok (.aload_n 0, 1) := by decide +kernel
theorem dX4_execute_48 : decode cX4_execute 48 = .ok (.getfield 22, 3) := by decide +kernel
theorem dX4_execute_51 : decode cX4_execute 51 = .ok (.iconst 0, 1) := by decide +kernel
theorem dX4_execute_52 : decode cX4_execute 52 = .ok (.iaload, 1) := by decide +kernel
theorem dX4_execute_53 : decode cX4_execute 53 = .ok (.invokevirtual 125, 3) := by decide +kernel
theorem dX4_execute_56 : decode cX4_execute 56 = .ok (.pop, 1) := by decide +kernel
theorem dX4_execute_57 : decode cX4_execute 57 = .ok (.iconst 1, 1) := by decide +kernel
theorem dX4_execute_58 : decode cX4_execute 58 = .ok (.ireturn, 1) := by decide +kernel
theorem dX4_execute_59 : decode cX4_execute 59 = .ok (.aload_n 0, 1) := by decide +kernel
theorem dX4_execute_60 : decode cX4_execute 60 = .ok (.getfield 26, 3) := by decide +kernel
theorem dX4_execute_63 : decode cX4_execute 63 = .ok (.aload_n 0, 1) := by decide +kernel
theorem dX4_execute_64 : decode cX4_execute 64 = .ok (.getfield 22, 3) := by decide +kernel
theorem dX4_execute_67 : decode cX4_execute 67 = .ok (.iconst 0, 1) := by decide +kernel
theorem dX4_execute_68 : decode cX4_execute 68 = .ok (.iaload, 1) := by decide +kernel
theorem dX4_execute_69 : decode cX4_execute 69 = .ok (.aload_n 0, 1) := by decide +kernel
theorem dX4_execute_70 : decode cX4_execute 70 = .ok (.getfield 22, 3) := by decide +kernel
theorem dX4_execute_73 : decode cX4_execute 73 = .ok (.iconst 1, 1) := by decide +kernel
theorem dX4_execute_74 : decode cX4_execute 74 = .ok (.iaload, 1) := by decide +kernel
theorem dX4_execute_75 : decode cX4_execute 75 = .ok (.aload_n 0, 1) := by decide +kernel
theorem dX4_execute_76 : decode cX4_execute 76 = .ok (.getfield 22, 3) := by decide +kernel
theorem dX4_execute_79 : decode cX4_execute 79 = .ok (.iconst 2, 1) := by decide +kernel
theorem dX4_execute_80 : decode cX4_execute 80 = .ok (.iaload, 1) := by decide +kernel
theorem dX4_execute_81 : decode cX4_execute 81 = .ok (.invokevirtual 129, 3) := by decide +kernel
theorem dX4_execute_84 : decode cX4_execute 84 = .ok (.pop, 1) := by decide +kernel
theorem dX4_execute_85 : decode cX4_execute 85 = .ok (.iconst 1, 1) := by decide +kernel
theorem dX4_execute_86 : decode cX4_execute 86 = .ok (.ireturn, 1) := by decide +kernel
theorem dX4_execute_87 : decode cX4_execute 87 = .ok (.aload_n 0, 1) := by decide +kernel
theorem dX4_execute_88 : decode cX4_execute 88 = .ok (.getfield 26, 3) := by decide +kernel
theorem dX4_execute_91 : decode cX4_execute 91 = .ok (.aload_n 0, 1) := by decide +kernel
theorem dX4_execute_92 : decode cX4_execute 92 = .ok (.getfield 22, 3) := by decide +kernel
theorem dX4_execute_95 : decode cX4_execute 95 = .ok (.iconst 0, 1) := by decide +kernel
theorem dX4_execute_96 : decode cX4_execute 96 = .ok (.iaload, 1) := by decide +kernel
theorem dX4_execute_97 : decode cX4_execute 97 = .ok (.aload_n 0, 1) := by decide +kernel
theorem dX4_execute_98 : decode cX4_execute 98 = .ok (.getfield 22, 3) := by decide +kernel
theorem dX4_execute_101 : decode cX4_execute 101 = .ok (.iconst 1, 1) := by decide +kernel
theorem dX4_execute_102 : decode cX4_execute 102 = .ok (.iaload, 1) := by decide +kernel
theorem dX4_execute_103 : decode cX4_execute 103 = .ok (.aload_n 0, 1) := by decide +kernel
theorem dX4_execute_104 : decode cX4_execute 104 = .ok (.getfield 22, 3) := by decide +kernel
theorem dX4_execute_107 : decode cX4_execute 107 = .ok (.iconst 2, 1) := by decide +kernel
theorem dX4_execute_108 : decode cX4_execute 108 = .ok (.iaload, 1) := by decide +kernel
theorem dX4_execute_109 : decode cX4_execute 109 = .ok (.invokevirtual 133, 3) := by decide +kernel
theorem dX4_execute_112 : decode cX4_execute 112 = .ok (.ireturn, 1) := by decide +kernel
theorem dX4_execute_113 : decode cX4_execute 113 = .ok (.aload_n 0, 1) := by decide +kernel
theorem dX4_execute_114 : decode cX4_execute 114 = .ok (.getfield 26, 3) := by decide +kernel
theorem dX4_execute_117 : decode cX4_execute 117 = .ok (.getfield 136, 3) := by decide +kernel
theorem dX4_execute_120 : decode cX4_execute 120 = .ok (.getfield 140, 3) := by decide +kernel
theorem dX4_execute_123 : decode cX4_execute 123 = .ok (.aload_n 0, 1) := by decide +kernel
theorem dX4_execute_124 : decode cX4_execute 124 = .ok (.getfield 22, 3) := by decide +kernel
theorem dX4_execute_127 : decode cX4_execute 127 = .ok (.iconst 0, 1) := by decide +kernel
theorem dX4_execute_128 : decode cX4_execute 128 = .ok (.iaload, 1) := by decide +kernel
theorem dX4_execute_129 : decode cX4_execute 129 = .ok (.aload_n 0, 1) := by decide +kernel
theorem dX4_execute_130 : decode cX4_execute 130 = .ok (.getfield 22, 3) := by decide +kernel
theorem dX4_execute_133 : decode cX4_execute 133 = .ok (.iconst 1, 1) := by decide +kernel
theorem dX4_execute_134 : decode cX4_execute 134 = .ok (.iaload, 1) := by decide +kernel
theorem dX4_execute_135 : decode cX4_execute 135 = .ok (.iastore, 1) := by decide +kernel
theorem dX4_execute_136 : decode cX4_execute 136 = .ok (.iconst 1, 1) := by decide +kernel
theorem dX4_execute_137 : decode cX4_execute 137 = .ok (.ireturn, 1) := by decide +kernel
theorem dX4_execute_138 : decode cX4_execute 138 = .ok (.aload_n 0, 1) := by decide +kernel
theorem dX4_execute_139 : decode cX4_execute 139 = .ok (.getfield 26, 3) := by decide +kernel
theorem dX4_execute_142 : decode cX4_execute 142 = .ok (.aload_n 0, 1) := by decide +kernel
theorem dX4_execute_143 : decode cX4_execute 143 = .ok (.getfield 22, 3) := by decide +kernel
theorem dX4_execute_146 : decode cX4_execute 146 = .ok (.iconst 0, 1) := by decide +kernel
theorem dX4_execute_147 : decode cX4_execute 147 = .ok (.iaload, 1) := by decide +kernel
theorem dX4_execute_148 : decode cX4_execute 148 = .ok (.aload_n 0, 1) := by decide +kernel
theorem dX4_execute_149 : decode cX4_execute 149 = .ok (.getfield 22, 3) := by decide +kernel
theorem dX4_execute_152 : decode cX4_execute 152 = .ok (.iconst 1, 1) := by decide +kernel
theorem dX4_execute_153 : decode cX4_execute 153 = .ok (.iaload, 1) := by decide +kernel
theorem dX4_execute_154 : decode cX4_execute 154 = .ok (.aload_n 0, 1) := by decide +kernel
theorem dX4_execute_155 : decode cX4_execute 155 = .ok (.getfield 105, 3) := by decide +kernel
theorem dX4_execute_158 : decode cX4_execute 158 = .ok (.aload_n 0, 1) := by decide +kernel
theorem dX4_execute_159 : decode cX4_execute 159 = .ok (.getfield 108, 3) := by decide +kernel
theorem dX4_execute_162 : decode cX4_execute 162 = .ok (.aload_n 0, 1) := by decide +kernel
theorem dX4_execute_163 : decode cX4_execute 163 = .ok (.getfield 111, 3) := by decide +kernel
theorem dX4_execute_166 : decode cX4_execute 166 = .ok (.invokevirtual 145, 3) := by decide +kernel
theorem dX4_execute_169 : decode cX4_execute 169 = .ok (.iconst (-1), 1) := by decide +kernel
theorem dX4_execute_170 : decode cX4_execute 170 = .ok (.if_icmp .eq 7, 3) := by decide +kernel
theorem dX4_execute_173 : decode cX4_execute 173 = .ok (.iconst 1, 1) := by decide +kernel
theorem dX4_execute_174 : decode cX4_execute 174 = .ok (.goto 4, 3) := by decide +kernel
theorem dX4_execute_177 : decode cX4_execute 177 = .ok (.iconst 0, 1) := by decide +kernel
theorem dX4_execute_178 : decode cX4_execute 178 = .ok (.ireturn, 1) := by decide +kernel
theorem dX4_execute_179 : decode cX4_execute 179 = .ok (.aload_n 0, 1) := by decide +kernel
theorem dX4_execute_180 : decode cX4_execute 180 = .ok (.getfield 26, 3) := by decide +kernel
theorem dX4_execute_183 : decode cX4_execute 183 = .ok (.aload_n 0, 1) := by decide +kernel
theorem dX4_execute_184 : decode cX4_execute 184 = .ok (.getfield 22, 3) := by decide +kernel
theorem dX4_execute_187 : decode cX4_execute 187 = .ok (.iconst 0, 1) := by decide +kernel
theorem dX4_execute_188 : decode cX4_execute 188 = .ok (.iaload, 1) := by decide +kernel
theorem dX4_execute_189 : decode cX4_execute 189 = .ok (.aload_n 0, 1) := by decide +kernel
theorem dX4_execute_190 : decode cX4_execute 190 = .ok (.getfield 22, 3) := by decide +kernel
theorem dX4_execute_193 : decode cX4_execute 193 = .ok (.iconst 1, 1) := by decide +kernel
theorem dX4_execute_194 : decode cX4_execute 194 = .ok (.iaload, 1) := by decide +kernel
theorem dX4_execute_195 : decode cX4_execute 195 = .ok (.aload_n 0, 1) := by decide +kernel
theorem dX4_execute_196 : decode cX4_execute 196 = .ok (.getfield 22, 3) := by decide +kernel
theorem dX4_execute_199 : decode cX4_execute 199 = .ok (.iconst 2, 1) := by decide +kernel
theorem dX4_execute_200 : decode cX4_execute 200 = .ok (.iaload, 1) := by decide +kernel
theorem dX4_execute_201 : decode cX4_execute 201 = .ok (.invokevirtual 149, 3) := by decide +kernel
theorem dX4_execute_204 : decode cX4_execute 204 = .ok (.ireturn, 1) := by decide +kernel
theorem dX4_execute_205 : decode cX4_execute 205 = .ok (.aload_n 0, 1) := by decide +kernel
theorem dX4_execute_206 : decode cX4_execute 206 = .ok (.getfield 26, 3) := by decide +kernel
theorem dX4_execute_209 : decode cX4_execute 209 = .ok (.dup, 1) := by decide +kernel
theorem dX4_execute_210 : decode cX4_execute 210 = .ok (.getfield 152, 3) := by decide +kernel
theorem dX4_execute_213 : decode cX4_execute 213 = .ok (.aload_n 0, 1) := by decide +kernel
theorem dX4_execute_214 : decode cX4_execute 214 = .ok (.getfield 22, 3) := by decide +kernel
theorem dX4_execute_217 : decode cX4_execute 217 = .ok (.iconst 0, 1) := by decide +kernel
theorem dX4_execute_218 : decode cX4_execute 218 = .ok (.iaload, 1) := by decide +kernel
theorem dX4_execute_219 : decode cX4_execute 219 = .ok (.iadd, 1) := by decide +kernel
theorem dX4_execute_220 : decode cX4_execute 220 = .ok (.putfield 152, 3) := by decide +kernel
theorem dX4_execute_223 : decode cX4_execute 223 = .ok (.iconst 1, 1) := by decide +kernel
theorem dX4_execute_224 : decode cX4_execute 224 = .ok (.ireturn, 1) := by decide +kernel
def fX4_execute (p1 : Int32) (v : bM) : Option (Int32 × bM) :=
  (if p1 = 6 then (ck (v 7089) 12 <| nm (v 7089).toNatClampNeg fun i3 => bnd (fX2_create (v (9899 + (0 : Int32).toNatClampNeg)) (vw v (stO i3 + 6))) fun r6 w5 => nm (spl v (stO i3 + 6) 169 w5) fun v7 => some (1, v7)) else (if p1 = 7 then (ck (v 7089) 12 <| nm (v 7089).toNatClampNeg fun i10 => bnd (fX6_createBread (v (9899 + (0 : Int32).toNatClampNeg)) (v (9899 + (1 : Int32).toNatClampNeg)) (v (9899 + (2 : Int32).toNatClampNeg)) (vw v (stO i10))) fun r13 w12 => nm (spl v (stO i10) 590 w12) fun v14 => some (1, v14)) else (if p1 = 8 then (ck (v 7089) 12 <| nm (v 7089).toNatClampNeg fun i17 => bnd (fX6_buyLot (v (9899 + (0 : Int32).toNatClampNeg)) (v (9899 + (1 : Int32).toNatClampNeg)) (v (9899 + (2 : Int32).toNatClampNeg)) (vw v (stO i17))) fun r20 w19 => nm (spl v (stO i17) 590 w19) fun v21 => ck r20 2 <| some (r20, v21)) else (if p1 = 9 then (ck (v 7089) 12 <| nm (v 7089).toNatClampNeg fun i25 => nm (v (9899 + (1 : Int32).toNatClampNeg)) fun x26 => ck (v (9899 + (0 : Int32).toNatClampNeg)) 24 <| nm (upd v (stO i25 + 253 + (v (9899 + (0 : Int32).toNatClampNeg)).toNatClampNeg) x26) fun v28 => some (1, v28)) else (if p1 = 10 then (ck (v 7089) 12 <| nm (v 7089).toNatClampNeg fun i31 => bnd (fX6_bakeBatch (v (9899 + (0 : Int32).toNatClampNeg)) (v (9899 + (1 : Int32).toNatClampNeg)) (v 7090) (v 7091) (v 7092) (vw v (stO i31))) fun r34 w33 => nm (spl v (stO i31) 590 w33) fun v35 => (if r34 = (-1) then (some (0, v35)) else (some (1, v35)))) else (if p1 = 11 then (ck (v 7089) 12 <| nm (v 7089).toNatClampNeg fun i39 => bnd (fX6_sellLoaves (v (9899 + (0 : Int32).toNatClampNeg)) (v (9899 + (1 : Int32).toNatClampNeg)) (v (9899 + (2 : Int32).toNatClampNeg)) (vw v (stO i39))) fun r42 w41 => nm (spl v (stO i39) 590 w41) fun v43 => ck r42 2 <| some (r42, v43)) else (ck (v 7089) 12 <| nm (v 7089).toNatClampNeg fun i46 => nm ((v (stO i46 + 0)) + (v (9899 + (0 : Int32).toNatClampNeg))) fun x47 => nm (upd v (stO i46 + 0) x47) fun v48 => some (1, v48))))))))
set_option maxRecDepth 100000 in
set_option maxHeartbeats 4000000 in
theorem mX4_execute {l : Launch} {p1 : Int32} {v : bM} {r0 : Int32} {w0 : bM} (hf : fX4_execute p1 v = some (r0, w0)) : bMet l yX4_execute cX4_execute 2 (some .boolean) 4 0 0 LX (fun E a => [.ref (a + 857), .int p1]) v w0 (fun _ => some (.int r0)) := by
  refine bk_start (by decide +kernel) wfX (fun _ _ => Nat.le_of_ble_eq_true rfl) ?_
  intro p e s m args below meth c D E a ls H locs X hr hl hB
  have hx := X.1
  have hb := X.2.1
  have hown := X.2.2.2.1
  have hts := X.2.2.2.2.1
  have hl : lv_has ls 2 [(0, .ref (a + 857)), (1, .int p1)] := hl
  have hf := (fX4_execute.eq_1 p1 v).symm.trans hf
  refine lv_iload_n hx hb dX4_execute_0 rfl (lv_at hl 1 rfl) ?_
  by_cases c1 : p1 = 6
  · have hf := (if_pos c1).symm.trans hf
    refine lv_tableIn (tgt := 40) hx hb dX4_execute_1 (by rw [c1]; decide) (by rw [c1]; decide) (by rw [c1]; rfl) (by decide) ?_
    refine lv_aload_n hx hb dX4_execute_40 rfl (lv_at hl 0 rfl) ?_
    obtain ⟨h2, hf⟩ := ck_some hf
    refine bk_getS X hB kl_X4 857 lc_X_857 4 (by decide) rfl h2 wm_327 dX4_execute_41 ?_
    obtain ⟨i3, ei3⟩ : ∃ y : Nat, y = (v 7089).toNatClampNeg := ⟨_, rfl⟩
    have hf := nm_use hf ei3
    rw [← ei3]
    have hi3 : i3 < 12 := by rw [ei3]; exact vp_lt h2
    refine bk_getR X hB kl_X6 (stC i3 + 0) ((subX_St _ hi3).at lc_St_0) 6 (by decide) rfl wm_232 dX4_execute_44 ?_
    refine lv_aload_n hx hb dX4_execute_47 rfl (lv_at hl 0 rfl) ?_
    refine bk_getR X hB kl_X4 857 lc_X_857 8 (by decide) rfl wm_331 dX4_execute_48 ?_
    refine lv_iconst (v := 0) hx hb dX4_execute_51 (by decide) ?_
    refine bk_ald X hB 863 lc_X_863 (vp_c 0 3 rfl) dX4_execute_52 ?_
    obtain ⟨r6, w5, hc4, hf⟩ := bnd_some hf
    refine bk_sub (subX_St_1 _ hi3) hB (fun h1 h2 h3 => bk_runV X (Av := [.int (v (9899 + (0 : Int32).toNatClampNeg))]) (rest := []) (mX2_create hc4) yv_X2_create wm_563 ⟨Nat.le_of_ble_eq_true rfl, Nat.le_of_ble_eq_true rfl⟩ rfl rfl hl.1 kl_X2.1 (hB.1.obj ((subX_St _ hi3).at lc_St_1)) h1 h2 h3 (Nat.le_of_ble_eq_true rfl) ⟨Nat.le_of_ble_eq_true rfl, Nat.le_of_ble_eq_true rfl⟩ dX4_execute_53) (fun H locs hB => ?_)
    refine W.eq (g2 := F0 m 56 ls [.int r6]) rfl ?_
    obtain ⟨v7, ev7⟩ : ∃ y : bM, y = spl v (stO i3 + 6) 169 w5 := ⟨_, rfl⟩
    have hf := nm_use hf ev7
    rw [← ev7] at hB
    refine lv_pop hx hb dX4_execute_56 rfl ?_
    refine lv_iconst (v := 1) hx hb dX4_execute_57 (by decide) ?_
    exact bk_zW X hr rfl rfl hf hB (Nat.le_of_ble_eq_true rfl) (Nat.le_of_ble_eq_true rfl) dX4_execute_58
  have hf := (if_neg c1).symm.trans hf
  by_cases c8 : p1 = 7
  · have hf := (if_pos c8).symm.trans hf
    refine lv_tableIn (tgt := 59) hx hb dX4_execute_1 (by rw [c8]; decide) (by rw [c8]; decide) (by rw [c8]; rfl) (by decide) ?_
    refine lv_aload_n hx hb dX4_execute_59 rfl (lv_at hl 0 rfl) ?_
    obtain ⟨h9, hf⟩ := ck_some hf
    refine bk_getS X hB kl_X4 857 lc_X_857 4 (by decide) rfl h9 wm_327 dX4_execute_60 ?_
    obtain ⟨i10, ei10⟩ : ∃ y : Nat, y = (v 7089).toNatClampNeg := ⟨_, rfl⟩
    have hf := nm_use hf ei10
    rw [← ei10]
    have hi10 : i10 < 12 := by rw [ei10]; exact vp_lt h9
    refine lv_aload_n hx hb dX4_execute_63 rfl (lv_at hl 0 rfl) ?_
    refine bk_getR X hB kl_X4 857 lc_X_857 8 (by decide) rfl wm_331 dX4_execute_64 ?_
    refine lv_iconst (v := 0) hx hb dX4_execute_67 (by decide) ?_
    refine bk_ald X hB 863 lc_X_863 (vp_c 0 3 rfl) dX4_execute_68 ?_
    refine lv_aload_n hx hb dX4_execute_69 rfl (lv_at hl 0 rfl) ?_
    refine bk_getR X hB kl_X4 857 lc_X_857 8 (by decide) rfl wm_331 dX4_execute_70 ?_
    refine lv_iconst (v := 1) hx hb dX4_execute_73 (by decide) ?_
    refine bk_ald X hB 863 lc_X_863 (vp_c 1 3 rfl) dX4_execute_74 ?_
    refine lv_aload_n hx hb dX4_execute_75 rfl (lv_at hl 0 rfl) ?_
    refine bk_getR X hB kl_X4 857 lc_X_857 8 (by decide) rfl wm_331 dX4_execute_76 ?_
    refine lv_iconst (v := 2) hx hb dX4_execute_79 (by decide) ?_
    refine bk_ald X hB 863 lc_X_863 (vp_c 2 3 rfl) dX4_execute_80 ?_
    obtain ⟨r13, w12, hc11, hf⟩ := bnd_some hf
    refine bk_sub (subX_St _ hi10) hB (fun h1 h2 h3 => bk_runV X (Av := [.int (v (9899 + (0 : Int32).toNatClampNeg)), .int (v (9899 + (1 : Int32).toNatClampNeg)), .int (v (9899 + (2 : Int32).toNatClampNeg))]) (rest := []) (mX6_createBread hc11) yv_X6_createBread wm_567 ⟨Nat.le_of_ble_eq_true rfl, Nat.le_of_ble_eq_true rfl⟩ rfl rfl hl.1 kl_X6.1 (hB.1.obj ((subX_St _ hi10).at lc_St_0)) h1 h2 h3 (Nat.le_of_ble_eq_true rfl) ⟨Nat.le_of_ble_eq_true rfl, Nat.le_of_ble_eq_true rfl⟩ dX4_execute_81) (fun H locs hB => ?_)
    refine W.eq (g2 := F0 m 84 ls [.int r13]) rfl ?_
    obtain ⟨v14, ev14⟩ : ∃ y : bM, y = spl v (stO i10) 590 w12 := ⟨_, rfl⟩
    have hf := nm_use hf ev14
    rw [← ev14] at hB
    refine lv_pop hx hb dX4_execute_84 rfl ?_
    refine lv_iconst (v := 1) hx hb dX4_execute_85 (by decide) ?_
    exact bk_zW X hr rfl rfl hf hB (Nat.le_of_ble_eq_true rfl) (Nat.le_of_ble_eq_true rfl) dX4_execute_86
  have hf := (if_neg c8).symm.trans hf
  by_cases c15 : p1 = 8
  · have hf := (if_pos c15).symm.trans hf
    refine lv_tableIn (tgt := 87) hx hb dX4_execute_1 (by rw [c15]; decide) (by rw [c15]; decide) (by rw [c15]; rfl) (by decide) ?_
    refine lv_aload_n hx hb dX4_execute_87 rfl (lv_at hl 0 rfl) ?_
    obtain ⟨h16, hf⟩ := ck_some hf
    refine bk_getS X hB kl_X4 857 lc_X_857 4 (by decide) rfl h16 wm_327 dX4_execute_88 ?_
    obtain ⟨i17, ei17⟩ : ∃ y : Nat, y = (v 7089).toNatClampNeg := ⟨_, rfl⟩
    have hf := nm_use hf ei17
    rw [← ei17]
    have hi17 : i17 < 12 := by rw [ei17]; exact vp_lt h16
    refine lv_aload_n hx hb dX4_execute_91 rfl (lv_at hl 0 rfl) ?_
    refine bk_getR X hB kl_X4 857 lc_X_857 8 (by decide) rfl wm_331 dX4_execute_92 ?_
    refine lv_iconst (v := 0) hx hb dX4_execute_95 (by decide) ?_
    refine bk_ald X hB 863 lc_X_863 (vp_c 0 3 rfl) dX4_execute_96 ?_
    refine lv_aload_n hx hb dX4_execute_97 rfl (lv_at hl 0 rfl) ?_
    refine bk_getR X hB kl_X4 857 lc_X_857 8 (by decide) rfl wm_331 dX4_execute_98 ?_
    refine lv_iconst (v := 1) hx hb dX4_execute_101 (by decide) ?_
    refine bk_ald X hB 863 lc_X_863 (vp_c 1 3 rfl) dX4_execute_102 ?_
    refine lv_aload_n hx hb dX4_execute_103 rfl (lv_at hl 0 rfl) ?_
    refine bk_getR X hB kl_X4 857 lc_X_857 8 (by decide) rfl wm_331 dX4_execute_104 ?_
    refine lv_iconst (v := 2) hx hb dX4_execute_107 (by decide) ?_
    refine bk_ald X hB 863 lc_X_863 (vp_c 2 3 rfl) dX4_execute_108 ?_
    obtain ⟨r20, w19, hc18, hf⟩ := bnd_some hf
    refine bk_sub (subX_St _ hi17) hB (fun h1 h2 h3 => bk_runV X (Av := [.int (v (9899 + (0 : Int32).toNatClampNeg)), .int (v (9899 + (1 : Int32).toNatClampNeg)), .int (v (9899 + (2 : Int32).toNatClampNeg))]) (rest := []) (mX6_buyLot hc18) yv_X6_buyLot wm_575 ⟨Nat.le_of_ble_eq_true rfl, Nat.le_of_ble_eq_true rfl⟩ rfl rfl hl.1 kl_X6.1 (hB.1.obj ((subX_St _ hi17).at lc_St_0)) h1 h2 h3 (Nat.le_of_ble_eq_true rfl) ⟨Nat.le_of_ble_eq_true rfl, Nat.le_of_ble_eq_true rfl⟩ dX4_execute_109) (fun H locs hB => ?_)
    refine W.eq (g2 := F0 m 112 ls [.int r20]) rfl ?_
    obtain ⟨v21, ev21⟩ : ∃ y : bM, y = spl v (stO i17) 590 w19 := ⟨_, rfl⟩
    have hf := nm_use hf ev21
    rw [← ev21] at hB
    obtain ⟨h22, hf⟩ := ck_some hf
    exact bk_zW X hr rfl (nar_z h22) hf hB (Nat.le_of_ble_eq_true rfl) (Nat.le_of_ble_eq_true rfl) dX4_execute_112
  have hf := (if_neg c15).symm.trans hf
  by_cases c23 : p1 = 9
  · have hf := (if_pos c23).symm.trans hf
    refine lv_tableIn (tgt := 113) hx hb dX4_execute_1 (by rw [c23]; decide) (by rw [c23]; decide) (by rw [c23]; rfl) (by decide) ?_
    refine lv_aload_n hx hb dX4_execute_113 rfl (lv_at hl 0 rfl) ?_
    obtain ⟨h24, hf⟩ := ck_some hf
    refine bk_getS X hB kl_X4 857 lc_X_857 4 (by decide) rfl h24 wm_327 dX4_execute_114 ?_
    obtain ⟨i25, ei25⟩ : ∃ y : Nat, y = (v 7089).toNatClampNeg := ⟨_, rfl⟩
    have hf := nm_use hf ei25
    rw [← ei25]
    have hi25 : i25 < 12 := by rw [ei25]; exact vp_lt h24
    refine bk_getR X hB kl_X6 (stC i25 + 0) ((subX_St _ hi25).at lc_St_0) 8 (by decide) rfl wm_238 dX4_execute_117 ?_
    refine bk_getR X hB kl_X5 (stC i25 + 34) ((subX_St _ hi25).at lc_St_34) 3 (by decide) rfl wm_151 dX4_execute_120 ?_
    refine lv_aload_n hx hb dX4_execute_123 rfl (lv_at hl 0 rfl) ?_
    refine bk_getR X hB kl_X4 857 lc_X_857 8 (by decide) rfl wm_331 dX4_execute_124 ?_
    refine lv_iconst (v := 0) hx hb dX4_execute_127 (by decide) ?_
    refine bk_ald X hB 863 lc_X_863 (vp_c 0 3 rfl) dX4_execute_128 ?_
    refine lv_aload_n hx hb dX4_execute_129 rfl (lv_at hl 0 rfl) ?_
    refine bk_getR X hB kl_X4 857 lc_X_857 8 (by decide) rfl wm_331 dX4_execute_130 ?_
    refine lv_iconst (v := 1) hx hb dX4_execute_133 (by decide) ?_
    refine bk_ald X hB 863 lc_X_863 (vp_c 1 3 rfl) dX4_execute_134 ?_
    refine lv_topi (fun x26 ex26 => ?_)
    have hf := nm_use hf ex26
    obtain ⟨h27, hf⟩ := ck_some hf
    refine bk_ast X hB (stC i25 + 36) ((subX_St _ hi25).at lc_St_36) h27 dX4_execute_135 (fun H locs hB => ?_)
    obtain ⟨v28, ev28⟩ : ∃ y : bM, y = upd v (stO i25 + 253 + (v (9899 + (0 : Int32).toNatClampNeg)).toNatClampNeg) x26 := ⟨_, rfl⟩
    have hf := nm_use hf ev28
    rw [← ev28] at hB
    refine lv_iconst (v := 1) hx hb dX4_execute_136 (by decide) ?_
    exact bk_zW X hr rfl rfl hf hB (Nat.le_of_ble_eq_true rfl) (Nat.le_of_ble_eq_true rfl) dX4_execute_137
  have hf := (if_neg c23).symm.trans hf
  by_cases c29 : p1 = 10
  · have hf := (if_pos c29).symm.trans hf
    refine lv_tableIn (tgt := 138) hx hb dX4_execute_1 (by rw [c29]; decide) (by rw [c29]; decide) (by rw [c29]; rfl) (by decide) ?_
    refine lv_aload_n hx hb dX4_execute_138 rfl (lv_at hl 0 rfl) ?_
    obtain ⟨h30, hf⟩ := ck_some hf
    refine bk_getS X hB kl_X4 857 lc_X_857 4 (by decide) rfl h30 wm_327 dX4_execute_139 ?_
    obtain ⟨i31, ei31⟩ : ∃ y : Nat, y = (v 7089).toNatClampNeg := ⟨_, rfl⟩
    have hf := nm_use hf ei31
    rw [← ei31]
    have hi31 : i31 < 12 := by rw [ei31]; exact vp_lt h30
    refine lv_aload_n hx hb dX4_execute_142 rfl (lv_at hl 0 rfl) ?_
    refine bk_getR X hB kl_X4 857 lc_X_857 8 (by decide) rfl wm_331 dX4_execute_143 ?_
    refine lv_iconst (v := 0) hx hb dX4_execute_146 (by decide) ?_
    refine bk_ald X hB 863 lc_X_863 (vp_c 0 3 rfl) dX4_execute_147 ?_
    refine lv_aload_n hx hb dX4_execute_148 rfl (lv_at hl 0 rfl) ?_
    refine bk_getR X hB kl_X4 857 lc_X_857 8 (by decide) rfl wm_331 dX4_execute_149 ?_
    refine lv_iconst (v := 1) hx hb dX4_execute_152 (by decide) ?_
    refine bk_ald X hB 863 lc_X_863 (vp_c 1 3 rfl) dX4_execute_153 ?_
    refine lv_aload_n hx hb dX4_execute_154 rfl (lv_at hl 0 rfl) ?_
    refine bk_getI X hB kl_X4 857 lc_X_857 5 (by decide) rfl wm_328 dX4_execute_155 ?_
    refine lv_aload_n hx hb dX4_execute_158 rfl (lv_at hl 0 rfl) ?_
    refine bk_getI X hB kl_X4 857 lc_X_857 6 (by decide) rfl wm_329 dX4_execute_159 ?_
    refine lv_aload_n hx hb dX4_execute_162 rfl (lv_at hl 0 rfl) ?_
    refine bk_getI X hB kl_X4 857 lc_X_857 7 (by decide) rfl wm_330 dX4_execute_163 ?_
    obtain ⟨r34, w33, hc32, hf⟩ := bnd_some hf
    refine bk_sub (subX_St _ hi31) hB (fun h1 h2 h3 => bk_runV X (Av := [.int (v (9899 + (0 : Int32).toNatClampNeg)), .int (v (9899 + (1 : Int32).toNatClampNeg)), .int (v 7090), .int (v 7091), .int (v 7092)]) (rest := []) (mX6_bakeBatch hc32) yv_X6_bakeBatch wm_587 ⟨Nat.le_of_ble_eq_true rfl, Nat.le_of_ble_eq_true rfl⟩ rfl rfl hl.1 kl_X6.1 (hB.1.obj ((subX_St _ hi31).at lc_St_0)) h1 h2 h3 (Nat.le_of_ble_eq_true rfl) ⟨Nat.le_of_ble_eq_true rfl, Nat.le_of_ble_eq_true rfl⟩ dX4_execute_166) (fun H locs hB => ?_)
    refine W.eq (g2 := F0 m 169 ls [.int r34]) rfl ?_
    obtain ⟨v35, ev35⟩ : ∃ y : bM, y = spl v (stO i31) 590 w33 := ⟨_, rfl⟩
    have hf := nm_use hf ev35
    rw [← ev35] at hB
    refine lv_iconst (v := (-1)) hx hb dX4_execute_169 (by decide) ?_
    refine lv_icmp_eq (tgt := 177) hx hb dX4_execute_170 (by decide) (fun c36 => ?_) (fun c36 => ?_)
    · have hf := (if_pos c36).symm.trans hf
      refine lv_iconst (v := 0) hx hb dX4_execute_177 (by decide) ?_
      exact bk_zW X hr rfl rfl hf hB (Nat.le_of_ble_eq_true rfl) (Nat.le_of_ble_eq_true rfl) dX4_execute_178
    · have hf := (if_neg c36).symm.trans hf
      refine lv_iconst (v := 1) hx hb dX4_execute_173 (by decide) ?_
      refine lv_goto (tgt := 178) hx hb dX4_execute_174 (by decide) ?_
      exact bk_zW X hr rfl rfl hf hB (Nat.le_of_ble_eq_true rfl) (Nat.le_of_ble_eq_true rfl) dX4_execute_178
  have hf := (if_neg c29).symm.trans hf
  by_cases c37 : p1 = 11
  · have hf := (if_pos c37).symm.trans hf
    refine lv_tableIn (tgt := 179) hx hb dX4_execute_1 (by rw [c37]; decide) (by rw [c37]; decide) (by rw [c37]; rfl) (by decide) ?_
    refine lv_aload_n hx hb dX4_execute_179 rfl (lv_at hl 0 rfl) ?_
    obtain ⟨h38, hf⟩ := ck_some hf
    refine bk_getS X hB kl_X4 857 lc_X_857 4 (by decide) rfl h38 wm_327 dX4_execute_180 ?_
    obtain ⟨i39, ei39⟩ : ∃ y : Nat, y = (v 7089).toNatClampNeg := ⟨_, rfl⟩
    have hf := nm_use hf ei39
    rw [← ei39]
    have hi39 : i39 < 12 := by rw [ei39]; exact vp_lt h38
    refine lv_aload_n hx hb dX4_execute_183 rfl (lv_at hl 0 rfl) ?_
    refine bk_getR X hB kl_X4 857 lc_X_857 8 (by decide) rfl wm_331 dX4_execute_184 ?_
    refine lv_iconst (v := 0) hx hb dX4_execute_187 (by decide) ?_
    refine bk_ald X hB 863 lc_X_863 (vp_c 0 3 rfl) dX4_execute_188 ?_
    refine lv_aload_n hx hb dX4_execute_189 rfl (lv_at hl 0 rfl) ?_
    refine bk_getR X hB kl_X4 857 lc_X_857 8 (by decide) rfl wm_331 dX4_execute_190 ?_
    refine lv_iconst (v := 1) hx hb dX4_execute_193 (by decide) ?_
    refine bk_ald X hB 863 lc_X_863 (vp_c 1 3 rfl) dX4_execute_194 ?_
    refine lv_aload_n hx hb dX4_execute_195 rfl (lv_at hl 0 rfl) ?_
    refine bk_getR X hB kl_X4 857 lc_X_857 8 (by decide) rfl wm_331 dX4_execute_196 ?_
    refine lv_iconst (v := 2) hx hb dX4_execute_199 (by decide) ?_
    refine bk_ald X hB 863 lc_X_863 (vp_c 2 3 rfl) dX4_execute_200 ?_
    obtain ⟨r42, w41, hc40, hf⟩ := bnd_some hf
    refine bk_sub (subX_St _ hi39) hB (fun h1 h2 h3 => bk_runV X (Av := [.int (v (9899 + (0 : Int32).toNatClampNeg)), .int (v (9899 + (1 : Int32).toNatClampNeg)), .int (v (9899 + (2 : Int32).toNatClampNeg))]) (rest := []) (mX6_sellLoaves hc40) yv_X6_sellLoaves wm_646 ⟨Nat.le_of_ble_eq_true rfl, Nat.le_of_ble_eq_true rfl⟩ rfl rfl hl.1 kl_X6.1 (hB.1.obj ((subX_St _ hi39).at lc_St_0)) h1 h2 h3 (Nat.le_of_ble_eq_true rfl) ⟨Nat.le_of_ble_eq_true rfl, Nat.le_of_ble_eq_true rfl⟩ dX4_execute_201) (fun H locs hB => ?_)
    refine W.eq (g2 := F0 m 204 ls [.int r42]) rfl ?_
    obtain ⟨v43, ev43⟩ : ∃ y : bM, y = spl v (stO i39) 590 w41 := ⟨_, rfl⟩
    have hf := nm_use hf ev43
    rw [← ev43] at hB
    obtain ⟨h44, hf⟩ := ck_some hf
    exact bk_zW X hr rfl (nar_z h44) hf hB (Nat.le_of_ble_eq_true rfl) (Nat.le_of_ble_eq_true rfl) dX4_execute_204
  have hf := (if_neg c37).symm.trans hf
  refine lv_tableOut (tgt := 205) hx hb dX4_execute_1 (sw_out p1 (by decide) [6, 7, 8, 9, 10, 11] (by decide) (by simp only [List.forall_mem_cons]; exact ⟨c1, c8, c15, c23, c29, c37, fun _ h => absurd h List.not_mem_nil⟩)) (by decide) ?_
  refine lv_aload_n hx hb dX4_execute_205 rfl (lv_at hl 0 rfl) ?_
  obtain ⟨h45, hf⟩ := ck_some hf
  refine bk_getS X hB kl_X4 857 lc_X_857 4 (by decide) rfl h45 wm_327 dX4_execute_206 ?_
  obtain ⟨i46, ei46⟩ : ∃ y : Nat, y = (v 7089).toNatClampNeg := ⟨_, rfl⟩
  have hf := nm_use hf ei46
  rw [← ei46]
  have hi46 : i46 < 12 := by rw [ei46]; exact vp_lt h45
  refine lv_dup hx hb dX4_execute_209 rfl ?_
  refine bk_getI X hB kl_X6 (stC i46 + 0) ((subX_St _ hi46).at lc_St_0) 0 (by decide) rfl wm_222 dX4_execute_210 ?_
  refine lv_aload_n hx hb dX4_execute_213 rfl (lv_at hl 0 rfl) ?_
  refine bk_getR X hB kl_X4 857 lc_X_857 8 (by decide) rfl wm_331 dX4_execute_214 ?_
  refine lv_iconst (v := 0) hx hb dX4_execute_217 (by decide) ?_
  refine bk_ald X hB 863 lc_X_863 (vp_c 0 3 rfl) dX4_execute_218 ?_
  refine lv_iadd hx hb dX4_execute_219 ?_
  refine lv_topi (fun x47 ex47 => ?_)
  have hf := nm_use hf ex47
  refine bk_putI X hB kl_X6 (stC i46 + 0) ((subX_St _ hi46).at lc_St_0) 0 (by decide) rfl rfl rfl wm_222 dX4_execute_220 (bApSh rfl) (fun H locs hB => ?_)
  obtain ⟨v48, ev48⟩ : ∃ y : bM, y = upd v (stO i46 + 0) x47 := ⟨_, rfl⟩
  have hf := nm_use hf ev48
  rw [← ev48] at hB
  refine lv_iconst (v := 1) hx hb dX4_execute_223 (by decide) ?_
  exact bk_zW X hr rfl rfl hf hB (Nat.le_of_ble_eq_true rfl) (Nat.le_of_ble_eq_true rfl) dX4_execute_224
theorem yv_X4_execute : bYv yX4_execute RX4 cX4_execute 2 (some .boolean) 1 := ⟨⟨rfl, by decide, by decide, rfl⟩, wm_561, wp_12, wm_8, wm_562⟩

theorem dX4_readCommand_0 : decode cX4_readCommand 0 = .ok (.aload_n 0, 1) := by decide +kernel
theorem dX4_readCommand_1 : decode cX4_readCommand 1 = .ok (.getfield 12, 3) := by decide +kernel
theorem dX4_readCommand_4 : decode cX4_readCommand 4 = .ok (.invokevirtual 43, 3) := by decide +kernel
theorem dX4_readCommand_7 : decode cX4_readCommand 7 = .ok (.istore_n 1, 1) := by decide +kernel
theorem dX4_readCommand_8 : decode cX4_readCommand 8 = .ok (.iload_n 1, 1) := by decide +kernel
theorem dX4_readCommand_9 : decode cX4_readCommand 9 = .ok (.bipush 6, 2) := by decide +kernel
theorem dX4_readCommand_11 : decode cX4_readCommand 11 = .ok (.if_icmp .lt 9, 3) := by decide +kernel
theorem dX4_readCommand_14 : decode cX4_readCommand 14 = .ok (.iload_n 1, 1) := by decide +kernel
theorem dX4_readCommand_15 : decode cX4_readCommand 15 = .ok (.bipush 12, 2) := by decide +kernel
theorem dX4_readCommand_17 : decode cX4_readCommand 17 = .ok (.if_icmp .le 9, 3) := by decide +kernel
theorem dX4_readCommand_20 : decode cX4_readCommand 20 = .ok (.aload_n 0, 1) := by decide +kernel
theorem dX4_readCommand_21 : decode cX4_readCommand 21 = .ok (.iconst 1, 1) := by decide +kernel
theorem dX4_readCommand_22 : decode cX4_readCommand 22 = .ok (.invokevirtual 53, 3) := by decide +kernel
theorem dX4_readCommand_25 : decode cX4_readCommand 25 = .ok (.ireturn, 1) := by decide +kernel
theorem dX4_readCommand_26 : decode cX4_readCommand 26 = .ok (.aload_n 0, 1) := by decide +kernel
theorem dX4_readCommand_27 : decode cX4_readCommand 27 = .ok (.iload_n 1, 1) := by decide +kernel
theorem dX4_readCommand_28 : decode cX4_readCommand 28 = .ok (.invokevirtual 71, 3) := by decide +kernel
theorem dX4_readCommand_31 : decode cX4_readCommand 31 = .ok (.ifCond .eq 9, 3) := by decide +kernel
theorem dX4_readCommand_34 : decode cX4_readCommand 34 = .ok (.aload_n 0, 1) := by decide +kernel
theorem dX4_readCommand_35 : decode cX4_readCommand 35 = .ok (.iconst 4, 1) := by decide +kernel
theorem dX4_readCommand_36 : decode cX4_readCommand 36 = .ok (.invokevirtual 53, 3) := by decide +kernel
theorem dX4_readCommand_39 : decode cX4_readCommand 39 = .ok (.ireturn, 1) := by decide +kernel
theorem dX4_readCommand_40 : decode cX4_readCommand 40 = .ok (.aload_n 0, 1) := by decide +kernel
theorem dX4_readCommand_41 : decode cX4_readCommand 41 = .ok (.getfield 12, 3) := by decide +kernel
theorem dX4_readCommand_44 : decode cX4_readCommand 44 = .ok (.invokevirtual 57, 3) := by decide +kernel
theorem dX4_readCommand_47 : decode cX4_readCommand 47 = .ok (.aload_n 0, 1) := by decide +kernel
theorem dX4_readCommand_48 : decode cX4_readCommand 48 = .ok (.iload_n 1, 1) := by decide +kernel
theorem dX4_readCommand_49 : decode cX4_readCommand 49 = .ok (.invokevirtual 74, 3) := by decide +kernel
theorem dX4_readCommand_52 : decode cX4_readCommand 52 = .ok (.ifCond .eq 22, 3) := by decide +kernel
theorem dX4_readCommand_55 : decode cX4_readCommand 55 = .ok (.iload_n 1, 1) := by decide +kernel
theorem dX4_readCommand_56 : decode cX4_readCommand 56 = .ok (.bipush 10, 2) := by decide +kernel
theorem dX4_readCommand_58 : decode cX4_readCommand 58 = .ok (.if_icmp .ne 18, 3) := by decide +kernel
theorem dX4_readCommand_61 : decode cX4_readCommand 61 = .ok (.aload_n 0, 1) := by decide +kernel
theorem dX4_readCommand_62 : decode cX4_readCommand 62 = .ok (.aload_n 0, 1) := by decide +kernel
theorem dX4_readCommand_63 : decode cX4_readCommand 63 = .ok (.getfield 22, 3) := by decide +kernel
theorem dX4_readCommand_66 : decode cX4_readCommand 66 = .ok (.iconst 1, 1) := by decide +kernel
theorem dX4_readCommand_67 : decode cX4_readCommand 67 = .ok (.iaload, 1) := by decide +kernel
theorem dX4_readCommand_68 : decode cX4_readCommand 68 = .ok (.invokevirtual 77, 3) := by decide +kernel
theorem dX4_readCommand_71 : decode cX4_readCommand 71 = .ok (.ifCond .ne 5, 3) := by decide +kernel
theorem dX4_readCommand_74 : decode cX4_readCommand 74 = .ok (.iconst 0, 1) := by decide +kernel
theorem dX4_readCommand_75 : decode cX4_readCommand 75 = .ok (.ireturn, 1) := by decide +kernel
theorem dX4_readCommand_76 : decode cX4_readCommand 76 = .ok (.aload_n 0, 1) := by decide +kernel
theorem dX4_readCommand_77 : decode cX4_readCommand 77 = .ok (.getfield 12, 3) := by decide +kernel
theorem dX4_readCommand_80 : decode cX4_readCommand 80 = .ok (.invokevirtual 43, 3) := by decide +kernel
theorem dX4_readCommand_83 : decode cX4_readCommand 83 = .ok (.iconst 1, 1) := by decide +kernel
theorem dX4_readCommand_84 : decode cX4_readCommand 84 = .ok (.if_icmp .eq 9, 3) := by decide +kernel
theorem dX4_readCommand_87 : decode cX4_readCommand 87 = .ok (.aload_n 0, 1) := by decide +kernel
theorem dX4_readCommand_88 : decode cX4_readCommand 88 = .ok (.iconst 1, 1) := by decide +kernel
theorem dX4_readCommand_89 : decode cX4_readCommand 89 = .ok (.invokevirtual 53, 3) := by decide +kernel
theorem dX4_readCommand_92 : decode cX4_readCommand 92 = .ok (.ireturn, 1) := by decide +kernel
theorem dX4_readCommand_93 : decode cX4_readCommand 93 = .ok (.aload_n 0, 1) := by decide +kernel
theorem dX4_readCommand_94 : decode cX4_readCommand 94 = .ok (.iload_n 1, 1) := by decide +kernel
theorem dX4_readCommand_95 : decode cX4_readCommand 95 = .ok (.invokevirtual 80, 3) := by decide +kernel
theorem dX4_readCommand_98 : decode cX4_readCommand 98 = .ok (.ifCond .ne 9, 3) := by decide +kernel
theorem dX4_readCommand_101 : decode cX4_readCommand 101 = .ok (.aload_n 0, 1) := by decide +kernel
theorem dX4_readCommand_102 : decode cX4_readCommand 102 = .ok (.iconst 3, 1) := by decide +kernel
theorem dX4_readCommand_103 : decode cX4_readCommand 103 = .ok (.invokevirtual 53, 3) := by decide +kernel
theorem dX4_readCommand_106 : decode cX4_readCommand 106 = .ok (.ireturn, 1) := by decide +kernel
theorem dX4_readCommand_107 : decode cX4_readCommand 107 = .ok (.aload_n 0, 1) := by decide +kernel
theorem dX4_readCommand_108 : decode cX4_readCommand 108 = .ok (.getfield 12, 3) := by decide +kernel
theorem dX4_readCommand_111 : decode cX4_readCommand 111 = .ok (.invokevirtual 57, 3) := by decide +kernel
theorem dX4_readCommand_114 : decode cX4_readCommand 114 = .ok (.aload_n 0, 1) := by decide +kernel
theorem dX4_readCommand_115 : decode cX4_readCommand 115 = .ok (.dup, 1) := by decide +kernel
theorem dX4_readCommand_116 : decode cX4_readCommand 116 = .ok (.getfield 36, 3) := by decide +kernel
theorem dX4_readCommand_119 : decode cX4_readCommand 119 = .ok (.iconst 1, 1) := by decide +kernel
theorem dX4_readCommand_120 : decode cX4_readCommand 120 = .ok (.iadd, 1) := by decide +kernel
theorem dX4_readCommand_121 : decode cX4_readCommand 121 = .ok (.putfield 36, 3) := by decide +kernel
theorem dX4_readCommand_124 : decode cX4_readCommand 124 = .ok (.iconst 1, 1) := by decide +kernel
theorem dX4_readCommand_125 : decode cX4_readCommand 125 = .ok (.ireturn, 1) := by decide +kernel
def fX4_readCommand_J20   (v3 : bM) : Option (Int32 × bM) :=
  bnd (fX4_fail 1 v3) fun r6 w5 => ck r6 2 <| some (r6, w5)
def fX4_readCommand_J76 (r2 : Int32)  (v20 : bM) : Option (Int32 × bM) :=
  bnr (fX7_kind (vw v20 7093)) fun r22 => (if r22 = 1 then (bnd (fX4_execute r2 v20) fun r26 w25 => (if r26 = 0 then (bnd (fX4_fail 3 w25) fun r30 w29 => ck r30 2 <| some (r30, w29)) else (bnw (fX7_advance (vw w25 7093)) fun w33 => nm (spl w25 7093 2806 w33) fun v34 => nm ((v34 7088) + 1) fun x35 => nm (upd v34 7088 x35) fun v36 => some (1, v36)))) else (bnd (fX4_fail 1 v20) fun r39 w38 => ck r39 2 <| some (r39, w38)))
def fX4_readCommand  (v : bM) : Option (Int32 × bM) :=
  bnr (fX7_kind (vw v 7093)) fun r2 => (if r2 < 6 then (fX4_readCommand_J20 v) else ((if r2 ≤ 12 then (bnr (fX4_isBeyondLimit r2 v) fun r11 => (if r11 = 0 then (bnw (fX7_advance (vw v 7093)) fun w14 => nm (spl v 7093 2806 w14) fun v15 => bnd (fX4_readNumbers r2 v15) fun r18 w17 => (if r18 = 0 then (some (0, w17)) else ((if r2 = 10 then (bnd (fX4_readExtras (w17 (9899 + (1 : Int32).toNatClampNeg)) w17) fun r44 w43 => (if r44 = 0 then (some (0, w43)) else (fX4_readCommand_J76 r2 w43))) else (fX4_readCommand_J76 r2 w17))))) else (bnd (fX4_fail 4 v) fun r48 w47 => ck r48 2 <| some (r48, w47)))) else (fX4_readCommand_J20 v))))
set_option maxRecDepth 100000 in
set_option maxHeartbeats 4000000 in
theorem mX4_readCommand {l : Launch}  {v : bM} {r0 : Int32} {w0 : bM} (hf : fX4_readCommand  v = some (r0, w0)) : bMet l yX4_readCommand cX4_readCommand 2 (some .boolean) 5 0 0 LX (fun E a => [.ref (a + 857)]) v w0 (fun _ => some (.int r0)) := by
  refine bk_start (by decide +kernel) wfX (fun _ _ => Nat.le_of_ble_eq_true rfl) ?_
  intro p e s m args below meth c D E a ls H locs X hr hl hB
  have hx := X.1
  have hb := X.2.1
  have hown := X.2.2.2.1
  have hts := X.2.2.2.2.1
  have hl : lv_has ls 2 [(0, .ref (a + 857))] := hl
  have hf := (fX4_readCommand.eq_1  v).symm.trans hf
  refine lv_aload_n hx hb dX4_readCommand_0 rfl (lv_at hl 0 rfl) ?_
  refine bk_getR X hB kl_X4 857 lc_X_857 0 (by decide) rfl wm_319 dX4_readCommand_1 ?_
  obtain ⟨r2, hc1, hf⟩ := bnr_some hf
  refine bk_subR sub_X_858 hB (fun h1 h2 h3 => bk_runV X (Av := []) (rest := []) (mX7_kind hc1) yv_X7_kind wm_496 ⟨Nat.le_of_ble_eq_true rfl, Nat.le_of_ble_eq_true rfl⟩ rfl rfl hl.1 kl_X7.1 (hB.1.obj lc_X_858) h1 h2 h3 (Nat.le_of_ble_eq_true rfl) ⟨Nat.le_of_ble_eq_true rfl, Nat.le_of_ble_eq_true rfl⟩ dX4_readCommand_4) (fun H locs hB => ?_)
  refine W.eq (g2 := F0 m 7 ls [.int r2]) rfl ?_
  refine lv_istore_n (lv' := [(1, .int r2), (0, .ref (a + 857))]) hx hb dX4_readCommand_7 rfl hl (by decide) rfl (fun ls hl => ?_)
  refine lv_iload_n hx hb dX4_readCommand_8 rfl (lv_at hl 0 rfl) ?_
  refine lv_bipush (v := 6) hx hb dX4_readCommand_9 (by decide) ?_
  have hJ20 : ∀ (v3 : bM) (H : Heap) (locs : List Loc) (ls : Array Slot), fX4_readCommand_J20 v3 = some (r0, w0) → bB D E LX a v3 s H locs → lv_has ls 2 [(0, .ref (a + 857))] → W p l e (rmOf 5 0 0) s m args below meth c H locs 0 0 (bQ below D E LX a w0 (some (.int r0)) args s 0 0) (F0 m 20 ls []) := by
    intro v3 H locs ls hf hB hl
    have hf := (fX4_readCommand_J20.eq_1  v3).symm.trans hf
    refine lv_aload_n hx hb dX4_readCommand_20 rfl (lv_at hl 0 rfl) ?_
    refine lv_iconst (v := 1) hx hb dX4_readCommand_21 (by decide) ?_
    obtain ⟨r6, w5, hc4, hf⟩ := bnd_some hf
    refine bk_all hB (fun h1 h2 h3 => bk_runV X (Av := [.int 1]) (rest := []) (mX4_fail hc4) yv_X4_fail wm_500 ⟨Nat.le_of_ble_eq_true rfl, Nat.le_of_ble_eq_true rfl⟩ rfl rfl hl.1 kl_X4.1 (hB.1.obj lc_X_857) h1 h2 h3 (Nat.le_of_ble_eq_true rfl) ⟨Nat.le_of_ble_eq_true rfl, Nat.le_of_ble_eq_true rfl⟩ dX4_readCommand_22) (fun H locs hB => ?_)
    refine W.eq (g2 := F0 m 25 ls [.int r6]) rfl ?_
    obtain ⟨h7, hf⟩ := ck_some hf
    exact bk_zW X hr rfl (nar_z h7) hf hB (Nat.le_of_ble_eq_true rfl) (Nat.le_of_ble_eq_true rfl) dX4_readCommand_25
  refine lv_icmp_lt (tgt := 20) hx hb dX4_readCommand_11 (by decide) (fun c8 => ?_) (fun c8 => ?_)
  · have hf := (if_pos c8).symm.trans hf
    exact hJ20 v H locs ls hf hB (lv_sub hl [1] rfl)
  · have hf := (if_neg c8).symm.trans hf
    refine lv_iload_n hx hb dX4_readCommand_14 rfl (lv_at hl 0 rfl) ?_
    refine lv_bipush (v := 12) hx hb dX4_readCommand_15 (by decide) ?_
    refine lv_icmp_le (tgt := 26) hx hb dX4_readCommand_17 (by decide) (fun c9 => ?_) (fun c9 => ?_)
    · have hf := (if_pos c9).symm.trans hf
      refine lv_aload_n hx hb dX4_readCommand_26 rfl (lv_at hl 1 rfl) ?_
      refine lv_iload_n hx hb dX4_readCommand_27 rfl (lv_at hl 0 rfl) ?_
      obtain ⟨r11, hc10, hf⟩ := bnr_some hf
      refine bk_all hB (fun h1 h2 h3 => bk_runV X (Av := [.int r2]) (rest := []) (mX4_isBeyondLimit hc10) yv_X4_isBeyondLimit wm_533 ⟨Nat.le_of_ble_eq_true rfl, Nat.le_of_ble_eq_true rfl⟩ rfl rfl hl.1 kl_X4.1 (hB.1.obj lc_X_857) h1 h2 h3 (Nat.le_of_ble_eq_true rfl) ⟨Nat.le_of_ble_eq_true rfl, Nat.le_of_ble_eq_true rfl⟩ dX4_readCommand_28) (fun H locs hB => ?_)
      refine W.eq (g2 := F0 m 31 ls [.int r11]) rfl ?_
      refine lv_if_eq (tgt := 40) hx hb dX4_readCommand_31 (by decide) (fun c12 => ?_) (fun c12 => ?_)
      · have hf := (if_pos c12).symm.trans hf
        refine lv_aload_n hx hb dX4_readCommand_40 rfl (lv_at hl 1 rfl) ?_
        refine bk_getR X hB kl_X4 857 lc_X_857 0 (by decide) rfl wm_319 dX4_readCommand_41 ?_
        obtain ⟨w14, hc13, hf⟩ := bnw_some hf
        refine bk_sub sub_X_858 hB (fun h1 h2 h3 => bk_runV X (Av := []) (rest := []) (mX7_advance hc13) yv_X7_advance wm_508 ⟨Nat.le_of_ble_eq_true rfl, Nat.le_of_ble_eq_true rfl⟩ rfl rfl hl.1 kl_X7.1 (hB.1.obj lc_X_858) h1 h2 h3 (Nat.le_of_ble_eq_true rfl) ⟨Nat.le_of_ble_eq_true rfl, Nat.le_of_ble_eq_true rfl⟩ dX4_readCommand_44) (fun H locs hB => ?_)
        refine W.eq (g2 := F0 m 47 ls []) rfl ?_
        obtain ⟨v15, ev15⟩ : ∃ y : bM, y = spl v 7093 2806 w14 := ⟨_, rfl⟩
        have hf := nm_use hf ev15
        rw [← ev15] at hB
        refine lv_aload_n hx hb dX4_readCommand_47 rfl (lv_at hl 1 rfl) ?_
        refine lv_iload_n hx hb dX4_readCommand_48 rfl (lv_at hl 0 rfl) ?_
        obtain ⟨r18, w17, hc16, hf⟩ := bnd_some hf
        refine bk_all hB (fun h1 h2 h3 => bk_runV X (Av := [.int r2]) (rest := []) (mX4_readNumbers hc16) yv_X4_readNumbers wm_537 ⟨Nat.le_of_ble_eq_true rfl, Nat.le_of_ble_eq_true rfl⟩ rfl rfl hl.1 kl_X4.1 (hB.1.obj lc_X_857) h1 h2 h3 (Nat.le_of_ble_eq_true rfl) ⟨Nat.le_of_ble_eq_true rfl, Nat.le_of_ble_eq_true rfl⟩ dX4_readCommand_49) (fun H locs hB => ?_)
        refine W.eq (g2 := F0 m 52 ls [.int r18]) rfl ?_
        refine lv_if_eq (tgt := 74) hx hb dX4_readCommand_52 (by decide) (fun c19 => ?_) (fun c19 => ?_)
        · have hf := (if_pos c19).symm.trans hf
          refine lv_iconst (v := 0) hx hb dX4_readCommand_74 (by decide) ?_
          exact bk_zW X hr rfl rfl hf hB (Nat.le_of_ble_eq_true rfl) (Nat.le_of_ble_eq_true rfl) dX4_readCommand_75
        · have hf := (if_neg c19).symm.trans hf
          refine lv_iload_n hx hb dX4_readCommand_55 rfl (lv_at hl 0 rfl) ?_
          refine lv_bipush (v := 10) hx hb dX4_readCommand_56 (by decide) ?_
          have hJ76 : ∀ (v20 : bM) (H : Heap) (locs : List Loc) (ls : Array Slot), fX4_readCommand_J76 r2 v20 = some (r0, w0) → bB D E LX a v20 s H locs → lv_has ls 2 [(0, .ref (a + 857)), (1, .int r2)] → W p l e (rmOf 5 0 0) s m args below meth c H locs 0 0 (bQ below D E LX a w0 (some (.int r0)) args s 0 0) (F0 m 76 ls []) := by
            intro v20 H locs ls hf hB hl
            have hf := (fX4_readCommand_J76.eq_1 r2 v20).symm.trans hf
            refine lv_aload_n hx hb dX4_readCommand_76 rfl (lv_at hl 0 rfl) ?_
            refine bk_getR X hB kl_X4 857 lc_X_857 0 (by decide) rfl wm_319 dX4_readCommand_77 ?_
            obtain ⟨r22, hc21, hf⟩ := bnr_some hf
            refine bk_subR sub_X_858 hB (fun h1 h2 h3 => bk_runV X (Av := []) (rest := []) (mX7_kind hc21) yv_X7_kind wm_496 ⟨Nat.le_of_ble_eq_true rfl, Nat.le_of_ble_eq_true rfl⟩ rfl rfl hl.1 kl_X7.1 (hB.1.obj lc_X_858) h1 h2 h3 (Nat.le_of_ble_eq_true rfl) ⟨Nat.le_of_ble_eq_true rfl, Nat.le_of_ble_eq_true rfl⟩ dX4_readCommand_80) (fun H locs hB => ?_)
            refine W.eq (g2 := F0 m 83 ls [.int r22]) rfl ?_
            refine lv_iconst (v := 1) hx hb dX4_readCommand_83 (by decide) ?_
            refine lv_icmp_eq (tgt := 93) hx hb dX4_readCommand_84 (by decide) (fun c23 => ?_) (fun c23 => ?_)
            · have hf := (if_pos c23).symm.trans hf
              refine lv_aload_n hx hb dX4_readCommand_93 rfl (lv_at hl 0 rfl) ?_
              refine lv_iload_n hx hb dX4_readCommand_94 rfl (lv_at hl 1 rfl) ?_
              obtain ⟨r26, w25, hc24, hf⟩ := bnd_some hf
              refine bk_all hB (fun h1 h2 h3 => bk_runV X (Av := [.int r2]) (rest := []) (mX4_execute hc24) yv_X4_execute wm_559 ⟨Nat.le_of_ble_eq_true rfl, Nat.le_of_ble_eq_true rfl⟩ rfl rfl hl.1 kl_X4.1 (hB.1.obj lc_X_857) h1 h2 h3 (Nat.le_of_ble_eq_true rfl) ⟨Nat.le_of_ble_eq_true rfl, Nat.le_of_ble_eq_true rfl⟩ dX4_readCommand_95) (fun H locs hB => ?_)
              refine W.eq (g2 := F0 m 98 ls [.int r26]) rfl ?_
              refine lv_if_ne (tgt := 107) hx hb dX4_readCommand_98 (by decide) (fun c27 => ?_) (fun c27 => ?_)
              · have hf := (if_neg c27).symm.trans hf
                refine lv_aload_n hx hb dX4_readCommand_107 rfl (lv_at hl 0 rfl) ?_
                refine bk_getR X hB kl_X4 857 lc_X_857 0 (by decide) rfl wm_319 dX4_readCommand_108 ?_
                obtain ⟨w33, hc32, hf⟩ := bnw_some hf
                refine bk_sub sub_X_858 hB (fun h1 h2 h3 => bk_runV X (Av := []) (rest := []) (mX7_advance hc32) yv_X7_advance wm_508 ⟨Nat.le_of_ble_eq_true rfl, Nat.le_of_ble_eq_true rfl⟩ rfl rfl hl.1 kl_X7.1 (hB.1.obj lc_X_858) h1 h2 h3 (Nat.le_of_ble_eq_true rfl) ⟨Nat.le_of_ble_eq_true rfl, Nat.le_of_ble_eq_true rfl⟩ dX4_readCommand_111) (fun H locs hB => ?_)
                refine W.eq (g2 := F0 m 114 ls []) rfl ?_
                obtain ⟨v34, ev34⟩ : ∃ y : bM, y = spl w25 7093 2806 w33 := ⟨_, rfl⟩
                have hf := nm_use hf ev34
                rw [← ev34] at hB
                refine lv_aload_n hx hb dX4_readCommand_114 rfl (lv_at hl 0 rfl) ?_
                refine lv_dup hx hb dX4_readCommand_115 rfl ?_
                refine bk_getI X hB kl_X4 857 lc_X_857 3 (by decide) rfl wm_325 dX4_readCommand_116 ?_
                refine lv_iconst (v := 1) hx hb dX4_readCommand_119 (by decide) ?_
                refine lv_iadd hx hb dX4_readCommand_120 ?_
                refine lv_topi (fun x35 ex35 => ?_)
                have hf := nm_use hf ex35
                refine bk_putI X hB kl_X4 857 lc_X_857 3 (by decide) rfl rfl rfl wm_325 dX4_readCommand_121 rfl (fun H locs hB => ?_)
                obtain ⟨v36, ev36⟩ : ∃ y : bM, y = upd v34 7088 x35 := ⟨_, rfl⟩
                have hf := nm_use hf ev36
                rw [← ev36] at hB
                refine lv_iconst (v := 1) hx hb dX4_readCommand_124 (by decide) ?_
                exact bk_zW X hr rfl rfl hf hB (Nat.le_of_ble_eq_true rfl) (Nat.le_of_ble_eq_true rfl) dX4_readCommand_125
              · have hf := (if_pos c27).symm.trans hf
                refine lv_aload_n hx hb dX4_readCommand_101 rfl (lv_at hl 0 rfl) ?_
                refine lv_iconst (v := 3) hx hb dX4_readCommand_102 (by decide) ?_
                obtain ⟨r30, w29, hc28, hf⟩ := bnd_some hf
                refine bk_all hB (fun h1 h2 h3 => bk_runV X (Av := [.int 3]) (rest := []) (mX4_fail hc28) yv_X4_fail wm_500 ⟨Nat.le_of_ble_eq_true rfl, Nat.le_of_ble_eq_true rfl⟩ rfl rfl hl.1 kl_X4.1 (hB.1.obj lc_X_857) h1 h2 h3 (Nat.le_of_ble_eq_true rfl) ⟨Nat.le_of_ble_eq_true rfl, Nat.le_of_ble_eq_true rfl⟩ dX4_readCommand_103) (fun H locs hB => ?_)
                refine W.eq (g2 := F0 m 106 ls [.int r30]) rfl ?_
                obtain ⟨h31, hf⟩ := ck_some hf
                exact bk_zW X hr rfl (nar_z h31) hf hB (Nat.le_of_ble_eq_true rfl) (Nat.le_of_ble_eq_true rfl) dX4_readCommand_106
            · have hf := (if_neg c23).symm.trans hf
              refine lv_aload_n hx hb dX4_readCommand_87 rfl (lv_at hl 0 rfl) ?_
              refine lv_iconst (v := 1) hx hb dX4_readCommand_88 (by decide) ?_
              obtain ⟨r39, w38, hc37, hf⟩ := bnd_some hf
              refine bk_all hB (fun h1 h2 h3 => bk_runV X (Av := [.int 1]) (rest := []) (mX4_fail hc37) yv_X4_fail wm_500 ⟨Nat.le_of_ble_eq_true rfl, Nat.le_of_ble_eq_true rfl⟩ rfl rfl hl.1 kl_X4.1 (hB.1.obj lc_X_857) h1 h2 h3 (Nat.le_of_ble_eq_true rfl) ⟨Nat.le_of_ble_eq_true rfl, Nat.le_of_ble_eq_true rfl⟩ dX4_readCommand_89) (fun H locs hB => ?_)
              refine W.eq (g2 := F0 m 92 ls [.int r39]) rfl ?_
              obtain ⟨h40, hf⟩ := ck_some hf
              exact bk_zW X hr rfl (nar_z h40) hf hB (Nat.le_of_ble_eq_true rfl) (Nat.le_of_ble_eq_true rfl) dX4_readCommand_92
          refine lv_icmp_ne (tgt := 76) hx hb dX4_readCommand_58 (by decide) (fun c41 => ?_) (fun c41 => ?_)
          · have hf := (if_neg c41).symm.trans hf
            exact hJ76 w17 H locs ls hf hB (lv_sub hl [1, 0] rfl)
          · have hf := (if_pos c41).symm.trans hf
            refine lv_aload_n hx hb dX4_readCommand_61 rfl (lv_at hl 1 rfl) ?_
            refine lv_aload_n hx hb dX4_readCommand_62 rfl (lv_at hl 1 rfl) ?_
            refine bk_getR X hB kl_X4 857 lc_X_857 8 (by decide) rfl wm_331 dX4_readCommand_63 ?_
            refine lv_iconst (v := 1) hx hb dX4_readCommand_66 (by decide) ?_
            refine bk_ald X hB 863 lc_X_863 (vp_c 1 3 rfl) dX4_readCommand_67 ?_
            obtain ⟨r44, w43, hc42, hf⟩ := bnd_some hf
            refine bk_all hB (fun h1 h2 h3 => bk_runV X (Av := [.int (w17 (9899 + (1 : Int32).toNatClampNeg))]) (rest := []) (mX4_readExtras hc42) yv_X4_readExtras wm_545 ⟨Nat.le_of_ble_eq_true rfl, Nat.le_of_ble_eq_true rfl⟩ rfl rfl hl.1 kl_X4.1 (hB.1.obj lc_X_857) h1 h2 h3 (Nat.le_of_ble_eq_true rfl) ⟨Nat.le_of_ble_eq_true rfl, Nat.le_of_ble_eq_true rfl⟩ dX4_readCommand_68) (fun H locs hB => ?_)
            refine W.eq (g2 := F0 m 71 ls [.int r44]) rfl ?_
            refine lv_if_ne (tgt := 76) hx hb dX4_readCommand_71 (by decide) (fun c45 => ?_) (fun c45 => ?_)
            · have hf := (if_neg c45).symm.trans hf
              exact hJ76 w43 H locs ls hf hB (lv_sub hl [1, 0] rfl)
            · have hf := (if_pos c45).symm.trans hf
              refine lv_iconst (v := 0) hx hb dX4_readCommand_74 (by decide) ?_
              exact bk_zW X hr rfl rfl hf hB (Nat.le_of_ble_eq_true rfl) (Nat.le_of_ble_eq_true rfl) dX4_readCommand_75
      · have hf := (if_neg c12).symm.trans hf
        refine lv_aload_n hx hb dX4_readCommand_34 rfl (lv_at hl 1 rfl) ?_
        refine lv_iconst (v := 4) hx hb dX4_readCommand_35 (by decide) ?_
        obtain ⟨r48, w47, hc46, hf⟩ := bnd_some hf
        refine bk_all hB (fun h1 h2 h3 => bk_runV X (Av := [.int 4]) (rest := []) (mX4_fail hc46) yv_X4_fail wm_500 ⟨Nat.le_of_ble_eq_true rfl, Nat.le_of_ble_eq_true rfl⟩ rfl rfl hl.1 kl_X4.1 (hB.1.obj lc_X_857) h1 h2 h3 (Nat.le_of_ble_eq_true rfl) ⟨Nat.le_of_ble_eq_true rfl, Nat.le_of_ble_eq_true rfl⟩ dX4_readCommand_36) (fun H locs hB => ?_)
        refine W.eq (g2 := F0 m 39 ls [.int r48]) rfl ?_
        obtain ⟨h49, hf⟩ := ck_some hf
        exact bk_zW X hr rfl (nar_z h49) hf hB (Nat.le_of_ble_eq_true rfl) (Nat.le_of_ble_eq_true rfl) dX4_readCommand_39
    · have hf := (if_neg c9).symm.trans hf
      exact hJ20 v H locs ls hf hB (lv_sub hl [1] rfl)
theorem yv_X4_readCommand : bYv yX4_readCommand RX4 cX4_readCommand 2 (some .boolean) 0 := ⟨⟨rfl, by decide, by decide, rfl⟩, wm_531, wp_7, wm_8, wm_532⟩

theorem dX4_read_0 : decode cX4_read 0 = .ok (.aload_n 0, 1) := by decide +kernel
theorem dX4_read_1 : decode cX4_read 1 = .ok (.aload_n 1, 1) := by decide +kernel
theorem dX4_read_2 : decode cX4_read 2 = .ok (.putfield 26, 3) := by decide +kernel
theorem dX4_read_5 : decode cX4_read 5 = .ok (.aload_n 0, 1) := by decide +kernel
theorem dX4_read_6 : decode cX4_read 6 = .ok (.getfield 12, 3) := by decide +kernel
theorem dX4_read_9 : decode cX4_read 9 = .ok (.invokevirtual 30, 3) := by decide +kernel
theorem dX4_read_12 : decode cX4_read 12 = .ok (.aload_n 0, 1) := by decide +kernel
theorem dX4_read_13 : decode cX4_read 13 = .ok (.iconst 0, 1) := by decide +kernel
theorem dX4_read_14 : decode cX4_read 14 = .ok (.putfield 33, 3) := by decide +kernel
theorem dX4_read_17 : decode cX4_read 17 = .ok (.aload_n 0, 1) := by decide +kernel
theorem dX4_read_18 : decode cX4_read 18 = .ok (.iconst (-1), 1) := by decide +kernel
theorem dX4_read_19 : decode cX4_read 19 = .ok (.putfield 18, 3) := by decide +kernel
theorem dX4_read_22 : decode cX4_read 22 = .ok (.aload_n 0, 1) := by decide +kernel
theorem dX4_read_23 : decode cX4_read 23 = .ok (.iconst 0, 1) := by decide +kernel
theorem dX4_read_24 : decode cX4_read 24 = .ok (.putfield 36, 3) := by decide +kernel
theorem dX4_read_27 : decode cX4_read 27 = .ok (.iload_n 2, 1) := by decide +kernel
theorem dX4_read_28 : decode cX4_read 28 = .ok (.ifCond .eq 10, 3) := by decide +kernel
theorem dX4_read_31 : decode cX4_read 31 = .ok (.aload_n 0, 1) := by decide +kernel
theorem dX4_read_32 : decode cX4_read 32 = .ok (.invokevirtual 39, 3) := by decide +kernel
theorem dX4_read_35 : decode cX4_read 35 = .ok (.ifCond .eq 7, 3) := by decide +kernel
theorem dX4_read_38 : decode cX4_read 38 = .ok (.iconst 1, 1) := by decide +kernel
theorem dX4_read_39 : decode cX4_read 39 = .ok (.goto 4, 3) := by decide +kernel
theorem dX4_read_42 : decode cX4_read 42 = .ok (.iconst 0, 1) := by decide +kernel
theorem dX4_read_43 : decode cX4_read 43 = .ok (.istore_n 3, 1) := by decide +kernel
theorem dX4_read_44 : decode cX4_read 44 = .ok (.iconst 0, 1) := by decide +kernel
theorem dX4_read_45 : decode cX4_read 45 = .ok (.istore 4, 2) := by decide +kernel
theorem dX4_read_47 : decode cX4_read 47 = .ok (.iload 4, 2) := by decide +kernel
theorem dX4_read_49 : decode cX4_read 49 = .ok (.bipush 40, 2) := by decide +kernel
theorem dX4_read_51 : decode cX4_read 51 = .ok (.if_icmp .gt 28, 3) := by decide +kernel
theorem dX4_read_54 : decode cX4_read 54 = .ok (.iload_n 3, 1) := by decide +kernel
theorem dX4_read_55 : decode cX4_read 55 = .ok (.ifCond .eq 24, 3) := by decide +kernel
theorem dX4_read_58 : decode cX4_read 58 = .ok (.aload_n 0, 1) := by decide +kernel
theorem dX4_read_59 : decode cX4_read 59 = .ok (.getfield 12, 3) := by decide +kernel
theorem dX4_read_62 : decode cX4_read 62 = .ok (.invokevirtual 43, 3) := by decide +kernel
theorem dX4_read_65 : decode cX4_read 65 = .ok (.ifCond .eq 14, 3) := by decide +kernel
theorem dX4_read_68 : decode cX4_read 68 = .ok (.aload_n 0, 1) := by decide +kernel
theorem dX4_read_69 : decode cX4_read 69 = .ok (.invokevirtual 47, 3) := by decide +kernel
theorem dX4_read_72 : decode cX4_read 72 = .ok (.istore_n 3, 1) := by decide +kernel
theorem dX4_read_73 : decode cX4_read 73 = .ok (.iinc 4 1, 3) := by decide +kernel
theorem dX4_read_76 : decode cX4_read 76 = .ok (.goto (-29), 3) := by decide +kernel
theorem dX4_read_79 : decode cX4_read 79 = .ok (.iload_n 3, 1) := by decide +kernel
theorem dX4_read_80 : decode cX4_read 80 = .ok (.ireturn, 1) := by decide +kernel
def fX4_read_L47  (k47 : Int32 → Int32 → bM → Option (Int32 × bM)) (y10 : Int32) (y11 : Int32) (v12 : bM) : Option (Int32 × bM) :=
  (if 40 < y11 then (ck y10 2 <| some (y10, v12)) else ((if y10 = 0 then (ck y10 2 <| some (y10, v12)) else (bnr (fX7_kind (vw v12 7093)) fun r18 => (if r18 = 0 then (ck y10 2 <| some (y10, v12)) else (bnd (fX4_readCommand v12) fun r23 w22 => nm (y11 + 1) fun x24 => k47 r23 x24 w22))))))
def fX4_read_J43  (y8 : Int32) (v9 : bM) : Option (Int32 × bM) :=
  lp (fX4_read_L47) (fun _ _ _ => none) lpN y8 0 v9
def fX4_read_J38   (v25 : bM) : Option (Int32 × bM) :=
  fX4_read_J43 1 v25
def fX4_read (j1 : Nat) (p2 : Int32) (v : bM) : Option (Int32 × bM) :=
  ckn j1 12 <| nm (upd v 7089 (nI j1)) fun v1 => bnw (fX7_split (vw v1 7093)) fun w3 => nm (spl v1 7093 2806 w3) fun v4 => nm (upd v4 7086 0) fun v5 => nm (upd v5 7087 (-1)) fun v6 => nm (upd v6 7088 0) fun v7 => (if p2 = 0 then (fX4_read_J38 v7) else (bnd (fX4_readHead v7) fun r29 w28 => (if r29 = 0 then (fX4_read_J43 0 w28) else (fX4_read_J38 w28))))
set_option maxRecDepth 100000 in
set_option maxHeartbeats 4000000 in
theorem mX4_read {l : Launch} {j1 : Nat} {p2 : Int32} {v : bM} {r0 : Int32} {w0 : bM} (hf : fX4_read j1 p2 v = some (r0, w0)) : bMet l yX4_read cX4_read 5 (some .boolean) 8 0 0 LX (fun E a => [.ref (a + 857), .ref (a + stC j1), .int p2]) v w0 (fun _ => some (.int r0)) := by
  refine bk_start (by decide +kernel) wfX (fun _ _ => Nat.le_of_ble_eq_true rfl) ?_
  intro p e s m args below meth c D E a ls H locs X hr hl hB
  have hx := X.1
  have hb := X.2.1
  have hown := X.2.2.2.1
  have hts := X.2.2.2.2.1
  have hl : lv_has ls 5 [(0, .ref (a + 857)), (1, .ref (a + (stC j1))), (2, .int p2)] := hl
  have hf := (fX4_read.eq_1 j1 p2 v).symm.trans hf
  obtain ⟨hj1, hf⟩ := ckn_some hf
  refine lv_aload_n hx hb dX4_read_0 rfl (lv_at hl 0 rfl) ?_
  refine lv_aload_n hx hb dX4_read_1 rfl (lv_at hl 1 rfl) ?_
  refine bk_putS X hB kl_X4 857 lc_X_857 4 (by decide) rfl hj1 rfl rfl wm_327 dX4_read_2 rfl (fun H locs hB => ?_)
  obtain ⟨v1, ev1⟩ : ∃ y : bM, y = upd v 7089 (nI j1) := ⟨_, rfl⟩
  have hf := nm_use hf ev1
  rw [← ev1] at hB
  refine lv_aload_n hx hb dX4_read_5 rfl (lv_at hl 0 rfl) ?_
  refine bk_getR X hB kl_X4 857 lc_X_857 0 (by decide) rfl wm_319 dX4_read_6 ?_
  obtain ⟨w3, hc2, hf⟩ := bnw_some hf
  refine bk_sub sub_X_858 hB (fun h1 h2 h3 => bk_runV X (Av := []) (rest := []) (mX7_split hc2) yv_X7_split wm_440 ⟨Nat.le_of_ble_eq_true rfl, Nat.le_of_ble_eq_true rfl⟩ rfl rfl hl.1 kl_X7.1 (hB.1.obj lc_X_858) h1 h2 h3 (Nat.le_of_ble_eq_true rfl) ⟨Nat.le_of_ble_eq_true rfl, Nat.le_of_ble_eq_true rfl⟩ dX4_read_9) (fun H locs hB => ?_)
  refine W.eq (g2 := F0 m 12 ls []) rfl ?_
  obtain ⟨v4, ev4⟩ : ∃ y : bM, y = spl v1 7093 2806 w3 := ⟨_, rfl⟩
  have hf := nm_use hf ev4
  rw [← ev4] at hB
  refine lv_aload_n hx hb dX4_read_12 rfl (lv_at hl 0 rfl) ?_
  refine lv_iconst (v := 0) hx hb dX4_read_13 (by decide) ?_
  refine bk_putI X hB kl_X4 857 lc_X_857 1 (by decide) rfl rfl rfl wm_321 dX4_read_14 rfl (fun H locs hB => ?_)
  obtain ⟨v5, ev5⟩ : ∃ y : bM, y = upd v4 7086 0 := ⟨_, rfl⟩
  have hf := nm_use hf ev5
  rw [← ev5] at hB
  refine lv_aload_n hx hb dX4_read_17 rfl (lv_at hl 0 rfl) ?_
  refine lv_iconst (v := (-1)) hx hb dX4_read_18 (by decide) ?_
  refine bk_putI X hB kl_X4 857 lc_X_857 2 (by decide) rfl rfl rfl wm_323 dX4_read_19 rfl (fun H locs hB => ?_)
  obtain ⟨v6, ev6⟩ : ∃ y : bM, y = upd v5 7087 (-1) := ⟨_, rfl⟩
  have hf := nm_use hf ev6
  rw [← ev6] at hB
  refine lv_aload_n hx hb dX4_read_22 rfl (lv_at hl 0 rfl) ?_
  refine lv_iconst (v := 0) hx hb dX4_read_23 (by decide) ?_
  refine bk_putI X hB kl_X4 857 lc_X_857 3 (by decide) rfl rfl rfl wm_325 dX4_read_24 rfl (fun H locs hB => ?_)
  obtain ⟨v7, ev7⟩ : ∃ y : bM, y = upd v6 7088 0 := ⟨_, rfl⟩
  have hf := nm_use hf ev7
  rw [← ev7] at hB
  refine lv_iload_n hx hb dX4_read_27 rfl (lv_at hl 2 rfl) ?_
  have hJ43 : ∀ (y8 : Int32) (v9 : bM) (H : Heap) (locs : List Loc) (ls : Array Slot), fX4_read_J43 y8 v9 = some (r0, w0) → bB D E LX a v9 s H locs → lv_has ls 5 [(0, .ref (a + 857))] → W p l e (rmOf 8 0 0) s m args below meth c H locs 0 0 (bQ below D E LX a w0 (some (.int r0)) args s 0 0) (F0 m 43 ls [.int y8]) := by
    intro y8 v9 H locs ls hf hB hl
    have hf := (fX4_read_J43.eq_1  y8 v9).symm.trans hf
    refine lv_istore_n (lv' := [(3, .int y8), (0, .ref (a + 857))]) hx hb dX4_read_43 rfl hl (by decide) rfl (fun ls hl => ?_)
    refine lv_iconst (v := 0) hx hb dX4_read_44 (by decide) ?_
    refine lv_istore (lv' := [(4, .int 0), (3, .int y8), (0, .ref (a + 857))]) hx hb dX4_read_45 hl (by decide) rfl (fun ls hl => ?_)
    have hL47 : ∀ (n47 : Nat) (y10 y11 : Int32) (v12 : bM) (H : Heap) (locs : List Loc) (ls : Array Slot), lp (fX4_read_L47) (fun _ _ _ => none) n47 y10 y11 v12 = some (r0, w0) → bB D E LX a v12 s H locs → lv_has ls 5 [(0, .ref (a + 857)), (3, .int y10), (4, .int y11)] → W p l e (rmOf 8 0 0) s m args below meth c H locs 0 0 (bQ below D E LX a w0 (some (.int r0)) args s 0 0) (F0 m 47 ls []) := by
      intro n47
      induction n47 with
      | zero => intro y10 y11 v12 H locs ls hf; cases (show (none : Option (Int32 × bM)) = some (r0, w0) from hf)
      | succ n47 ih47 =>
        intro y10 y11 v12 H locs ls hf hB hl
        have hf := (fX4_read_L47.eq_1  (lp (fX4_read_L47) (fun _ _ _ => none) n47) y10 y11 v12).symm.trans (show fX4_read_L47 (lp (fX4_read_L47) (fun _ _ _ => none) n47) y10 y11 v12 = some (r0, w0) from hf)
        refine lv_iload hx hb dX4_read_47 (lv_at hl 2 rfl) ?_
        refine lv_bipush (v := 40) hx hb dX4_read_49 (by decide) ?_
        refine lv_icmp_gt (tgt := 79) hx hb dX4_read_51 (by decide) (fun c13 => ?_) (fun c13 => ?_)
        · have hf := (if_pos c13).symm.trans hf
          refine lv_iload_n hx hb dX4_read_79 rfl (lv_at hl 1 rfl) ?_
          obtain ⟨h14, hf⟩ := ck_some hf
          exact bk_zW X hr rfl (nar_z h14) hf hB (Nat.le_of_ble_eq_true rfl) (Nat.le_of_ble_eq_true rfl) dX4_read_80
        · have hf := (if_neg c13).symm.trans hf
          refine lv_iload_n hx hb dX4_read_54 rfl (lv_at hl 1 rfl) ?_
          refine lv_if_eq (tgt := 79) hx hb dX4_read_55 (by decide) (fun c15 => ?_) (fun c15 => ?_)
          · have hf := (if_pos c15).symm.trans hf
            refine lv_iload_n hx hb dX4_read_79 rfl (lv_at hl 1 rfl) ?_
            obtain ⟨h16, hf⟩ := ck_some hf
            exact bk_zW X hr rfl (nar_z h16) hf hB (Nat.le_of_ble_eq_true rfl) (Nat.le_of_ble_eq_true rfl) dX4_read_80
          · have hf := (if_neg c15).symm.trans hf
            refine lv_aload_n hx hb dX4_read_58 rfl (lv_at hl 0 rfl) ?_
            refine bk_getR X hB kl_X4 857 lc_X_857 0 (by decide) rfl wm_319 dX4_read_59 ?_
            obtain ⟨r18, hc17, hf⟩ := bnr_some hf
            refine bk_subR sub_X_858 hB (fun h1 h2 h3 => bk_runV X (Av := []) (rest := []) (mX7_kind hc17) yv_X7_kind wm_496 ⟨Nat.le_of_ble_eq_true rfl, Nat.le_of_ble_eq_true rfl⟩ rfl rfl hl.1 kl_X7.1 (hB.1.obj lc_X_858) h1 h2 h3 (Nat.le_of_ble_eq_true rfl) ⟨Nat.le_of_ble_eq_true rfl, Nat.le_of_ble_eq_true rfl⟩ dX4_read_62) (fun H locs hB => ?_)
            refine W.eq (g2 := F0 m 65 ls [.int r18]) rfl ?_
            refine lv_if_eq (tgt := 79) hx hb dX4_read_65 (by decide) (fun c19 => ?_) (fun c19 => ?_)
            · have hf := (if_pos c19).symm.trans hf
              refine lv_iload_n hx hb dX4_read_79 rfl (lv_at hl 1 rfl) ?_
              obtain ⟨h20, hf⟩ := ck_some hf
              exact bk_zW X hr rfl (nar_z h20) hf hB (Nat.le_of_ble_eq_true rfl) (Nat.le_of_ble_eq_true rfl) dX4_read_80
            · have hf := (if_neg c19).symm.trans hf
              refine lv_aload_n hx hb dX4_read_68 rfl (lv_at hl 0 rfl) ?_
              obtain ⟨r23, w22, hc21, hf⟩ := bnd_some hf
              refine bk_all hB (fun h1 h2 h3 => bk_runV X (Av := []) (rest := []) (mX4_readCommand hc21) yv_X4_readCommand wm_529 ⟨Nat.le_of_ble_eq_true rfl, Nat.le_of_ble_eq_true rfl⟩ rfl rfl hl.1 kl_X4.1 (hB.1.obj lc_X_857) h1 h2 h3 (Nat.le_of_ble_eq_true rfl) ⟨Nat.le_of_ble_eq_true rfl, Nat.le_of_ble_eq_true rfl⟩ dX4_read_69) (fun H locs hB => ?_)
              refine W.eq (g2 := F0 m 72 ls [.int r23]) rfl ?_
              refine lv_istore_n (lv' := [(3, .int r23), (0, .ref (a + 857)), (4, .int y11)]) hx hb dX4_read_72 rfl hl (by decide) rfl (fun ls hl => ?_)
              obtain ⟨x24, ex24⟩ : ∃ y : Int32, y = y11 + 1 := ⟨_, rfl⟩
              have hf := nm_use hf ex24
              refine lv_iinc (v := x24) (lv' := [(4, .int x24), (3, .int r23), (0, .ref (a + 857))]) hx hb dX4_read_73 hl (k := 2) rfl (by rw [ex24]; rfl) (by decide) rfl (fun ls hl => ?_)
              refine lv_goto (tgt := 47) hx hb dX4_read_76 (by decide) ?_
              exact ih47 r23 x24 w22 H locs ls hf hB (lv_sub hl [2, 1, 0] rfl)
    exact hL47 lpN y8 0 v9 H locs ls hf hB (lv_sub hl [2, 1, 0] rfl)
  have hJ38 : ∀ (v25 : bM) (H : Heap) (locs : List Loc) (ls : Array Slot), fX4_read_J38 v25 = some (r0, w0) → bB D E LX a v25 s H locs → lv_has ls 5 [(0, .ref (a + 857))] → W p l e (rmOf 8 0 0) s m args below meth c H locs 0 0 (bQ below D E LX a w0 (some (.int r0)) args s 0 0) (F0 m 38 ls []) := by
    intro v25 H locs ls hf hB hl
    have hf := (fX4_read_J38.eq_1  v25).symm.trans hf
    refine lv_iconst (v := 1) hx hb dX4_read_38 (by decide) ?_
    refine lv_goto (tgt := 43) hx hb dX4_read_39 (by decide) ?_
    exact hJ43 1 v25 H locs ls hf hB (lv_sub hl [0] rfl)
  refine lv_if_eq (tgt := 38) hx hb dX4_read_28 (by decide) (fun c26 => ?_) (fun c26 => ?_)
  · have hf := (if_pos c26).symm.trans hf
    exact hJ38 v7 H locs ls hf hB (lv_sub hl [0] rfl)
  · have hf := (if_neg c26).symm.trans hf
    refine lv_aload_n hx hb dX4_read_31 rfl (lv_at hl 0 rfl) ?_
    obtain ⟨r29, w28, hc27, hf⟩ := bnd_some hf
    refine bk_all hB (fun h1 h2 h3 => bk_runV X (Av := []) (rest := []) (mX4_readHead hc27) yv_X4_readHead wm_492 ⟨Nat.le_of_ble_eq_true rfl, Nat.le_of_ble_eq_true rfl⟩ rfl rfl hl.1 kl_X4.1 (hB.1.obj lc_X_857) h1 h2 h3 (Nat.le_of_ble_eq_true rfl) ⟨Nat.le_of_ble_eq_true rfl, Nat.le_of_ble_eq_true rfl⟩ dX4_read_32) (fun H locs hB => ?_)
    refine W.eq (g2 := F0 m 35 ls [.int r29]) rfl ?_
    refine lv_if_eq (tgt := 42) hx hb dX4_read_35 (by decide) (fun c30 => ?_) (fun c30 => ?_)
    · have hf := (if_pos c30).symm.trans hf
      refine lv_iconst (v := 0) hx hb dX4_read_42 (by decide) ?_
      exact hJ43 0 w28 H locs ls hf hB (lv_sub hl [0] rfl)
    · have hf := (if_neg c30).symm.trans hf
      exact hJ38 w28 H locs ls hf hB (lv_sub hl [0] rfl)
theorem yv_X4_read : bYv yX4_read RX4 cX4_read 5 (some .boolean) 2 := ⟨⟨rfl, by decide, by decide, rfl⟩, wm_437, wm_438, wm_8, wm_439⟩

theorem dX8_appendBytes_0 : decode cX8_appendBytes 0 = .ok (.bipush 24, 2) := by decide +kernel
theorem dX8_appendBytes_2 : decode cX8_appendBytes 2 = .ok (.istore_n 2, 1) := by decide +kernel
theorem dX8_appendBytes_3 : decode cX8_appendBytes 3 = .ok (.iload_n 2, 1) := by decide +kernel
theorem dX8_appendBytes_4 : decode cX8_appendBytes 4 = .ok (.ifCond .lt 32, 3) := by decide +kernel
theorem dX8_appendBytes_7 : decode cX8_appendBytes 7 = .ok (.iload_n 1, 1) := by decide +kernel
theorem dX8_appendBytes_8 : decode cX8_appendBytes 8 = .ok (.iload_n 2, 1) := by decide +kernel
theorem dX8_appendBytes_9 : decode cX8_appendBytes 9 = .ok (.iushr, 1) := by decide +kernel
theorem dX8_appendBytes_10 : decode cX8_appendBytes 10 = .ok (.sipush 255, 3) := by decide +kernel
theorem dX8_appendBytes_13 : decode cX8_appendBytes 13 = .ok (.iand, 1) := by decide +kernel
theorem dX8_appendBytes_14 : decode cX8_appendBytes 14 = .ok (.istore_n 3, 1) := by decide +kernel
theorem dX8_appendBytes_15 : decode cX8_appendBytes 15 = .ok (.iload_n 3, 1) := by decide +kernel
theorem dX8_appendBytes_16 : decode cX8_appendBytes 16 = .ok (.ifCond .eq 14, 3) := by decide +kernel
theorem dX8_appendBytes_19 : decode cX8_appendBytes 19 = .ok (.aload_n 0, 1) := by decide +kernel
theorem dX8_appendBytes_20 : decode cX8_appendBytes 20 = .ok (.getfield 37, 3) := by decide +kernel
theorem dX8_appendBytes_23 : decode cX8_appendBytes 23 = .ok (.getfield 56, 3) := by decide +kernel
theorem dX8_appendBytes_26 : decode cX8_appendBytes 26 = .ok (.iload_n 3, 1) := by decide +kernel
theorem dX8_appendBytes_27 : decode cX8_appendBytes 27 = .ok (.invokevirtual 64, 3) := by decide +kernel
theorem dX8_appendBytes_30 : decode cX8_appendBytes 30 = .ok (.iinc 2 (-8), 3) := by decide +kernel
theorem dX8_appendBytes_33 : decode cX8_appendBytes 33 = .ok (.goto (-30), 3) := by decide +kernel
theorem dX8_appendBytes_36 : decode cX8_appendBytes 36 = .ok (.return_, 1) := by decide +kernel
def fX8_appendBytes_J30 (y1 : Int32) (k3 : Int32 → bM → Option bM)  (v5 : bM) : Option bM :=
  nm (y1 + (-8)) fun x6 => k3 x6 v5
def fX8_appendBytes_L3 (p1 : Int32) (k3 : Int32 → bM → Option bM) (y1 : Int32) (v2 : bM) : Option bM :=
  (if y1 < 0 then (some v2) else (nm (((p1.toUInt32 >>> ((y1 : Int32).toUInt32 &&& Int32.toUInt32 31)).toInt32) &&& 255) fun x4 => (if x4 = 0 then (fX8_appendBytes_J30 y1 k3 v2) else (bnw (fX7_append x4 (vw v2 7093)) fun w9 => nm (spl v2 7093 2806 w9) fun v10 => fX8_appendBytes_J30 y1 k3 v10))))
def fX8_appendBytes (p1 : Int32) (v : bM) : Option bM :=
  lp (fX8_appendBytes_L3 p1) (fun _ _ => none) lpN 24 v
set_option maxRecDepth 100000 in
set_option maxHeartbeats 4000000 in
theorem mX8_appendBytes {l : Launch} {p1 : Int32} {v : bM} {w0 : bM} (hf : fX8_appendBytes p1 v = some w0) : bMet l yX8_appendBytes cX8_appendBytes 4 none 1 0 0 LX (fun E a => [.ref a, .int p1]) v w0 (fun _ => none) := by
  refine bk_start (by decide +kernel) wfX (fun _ _ => Nat.le_of_ble_eq_true rfl) ?_
  intro p e s m args below meth c D E a ls H locs X hr hl hB
  have hx := X.1
  have hb := X.2.1
  have hown := X.2.2.2.1
  have hts := X.2.2.2.2.1
  have hl : lv_has ls 4 [(0, .ref a), (1, .int p1)] := hl
  have hf := (fX8_appendBytes.eq_1 p1 v).symm.trans hf
  refine lv_bipush (v := 24) hx hb dX8_appendBytes_0 (by decide) ?_
  refine lv_istore_n (lv' := [(2, .int 24), (0, .ref a), (1, .int p1)]) hx hb dX8_appendBytes_2 rfl hl (by decide) rfl (fun ls hl => ?_)
  have hL3 : ∀ (n3 : Nat) (y1 : Int32) (v2 : bM) (H : Heap) (locs : List Loc) (ls : Array Slot), lp (fX8_appendBytes_L3 p1) (fun _ _ => none) n3 y1 v2 = some w0 → bB D E LX a v2 s H locs → lv_has ls 4 [(0, .ref a), (1, .int p1), (2, .int y1)] → W p l e (rmOf 1 0 0) s m args below meth c H locs 0 0 (bQ below D E LX a w0 none args s 0 0) (F0 m 3 ls []) := by
    intro n3
    induction n3 with
    | zero => intro y1 v2 H locs ls hf; cases (show (none : Option bM) = some w0 from hf)
    | succ n3 ih3 =>
      intro y1 v2 H locs ls hf hB hl
      have hf := (fX8_appendBytes_L3.eq_1 p1 (lp (fX8_appendBytes_L3 p1) (fun _ _ => none) n3) y1 v2).symm.trans (show fX8_appendBytes_L3 p1 (lp (fX8_appendBytes_L3 p1) (fun _ _ => none) n3) y1 v2 = some w0 from hf)
      refine lv_iload_n hx hb dX8_appendBytes_3 rfl (lv_at hl 2 rfl) ?_
      refine lv_if_lt (tgt := 36) hx hb dX8_appendBytes_4 (by decide) (fun c3 => ?_) (fun c3 => ?_)
      · have hf := (if_pos c3).symm.trans hf
        exact bk_vW X hr rfl hf hB (Nat.le_of_ble_eq_true rfl) (Nat.le_of_ble_eq_true rfl) dX8_appendBytes_36
      · have hf := (if_neg c3).symm.trans hf
        refine lv_iload_n hx hb dX8_appendBytes_7 rfl (lv_at hl 1 rfl) ?_
        refine lv_iload_n hx hb dX8_appendBytes_8 rfl (lv_at hl 2 rfl) ?_
        refine lv_iushr (v := (p1.toUInt32 >>> ((y1 : Int32).toUInt32 &&& Int32.toUInt32 31)).toInt32) hx hb dX8_appendBytes_9 rfl ?_
        refine lv_sipush (v := 255) hx hb dX8_appendBytes_10 (by decide) ?_
        refine lv_iand hx hb dX8_appendBytes_13 ?_
        refine lv_topi (fun x4 ex4 => ?_)
        have hf := nm_use hf ex4
        refine lv_istore_n (lv' := [(3, .int x4), (0, .ref a), (1, .int p1), (2, .int y1)]) hx hb dX8_appendBytes_14 rfl hl (by decide) rfl (fun ls hl => ?_)
        refine lv_iload_n hx hb dX8_appendBytes_15 rfl (lv_at hl 0 rfl) ?_
        have hJ30 : ∀ (v5 : bM) (H : Heap) (locs : List Loc) (ls : Array Slot), fX8_appendBytes_J30 y1 (lp (fX8_appendBytes_L3 p1) (fun _ _ => none) n3) v5 = some w0 → bB D E LX a v5 s H locs → lv_has ls 4 [(0, .ref a), (1, .int p1), (2, .int y1)] → W p l e (rmOf 1 0 0) s m args below meth c H locs 0 0 (bQ below D E LX a w0 none args s 0 0) (F0 m 30 ls []) := by
          intro v5 H locs ls hf hB hl
          have hf := (fX8_appendBytes_J30.eq_1 y1 (lp (fX8_appendBytes_L3 p1) (fun _ _ => none) n3) v5).symm.trans hf
          obtain ⟨x6, ex6⟩ : ∃ y : Int32, y = y1 + (-8) := ⟨_, rfl⟩
          have hf := nm_use hf ex6
          refine lv_iinc (v := x6) (lv' := [(2, .int x6), (0, .ref a), (1, .int p1)]) hx hb dX8_appendBytes_30 hl (k := 2) rfl (by rw [ex6]; rfl) (by decide) rfl (fun ls hl => ?_)
          refine lv_goto (tgt := 3) hx hb dX8_appendBytes_33 (by decide) ?_
          exact ih3 x6 v5 H locs ls hf hB (lv_sub hl [1, 2, 0] rfl)
        refine lv_if_eq (tgt := 30) hx hb dX8_appendBytes_16 (by decide) (fun c7 => ?_) (fun c7 => ?_)
        · have hf := (if_pos c7).symm.trans hf
          exact hJ30 v2 H locs ls hf hB (lv_sub hl [1, 2, 3] rfl)
        · have hf := (if_neg c7).symm.trans hf
          refine lv_aload_n hx hb dX8_appendBytes_19 rfl (lv_at hl 1 rfl) ?_
          refine bk_getR X hB kl_X8 0 lc_X_0 5 (by decide) rfl wm_659 dX8_appendBytes_20 ?_
          refine bk_getR X hB kl_X4 857 lc_X_857 0 (by decide) rfl wm_320 dX8_appendBytes_23 ?_
          refine lv_iload_n hx hb dX8_appendBytes_26 rfl (lv_at hl 0 rfl) ?_
          obtain ⟨w9, hc8, hf⟩ := bnw_some hf
          refine bk_sub sub_X_858 hB (fun h1 h2 h3 => bk_runV X (Av := [.int x4]) (rest := []) (mX7_append hc8) yv_X7_append wm_432 ⟨Nat.le_of_ble_eq_true rfl, Nat.le_of_ble_eq_true rfl⟩ rfl rfl hl.1 kl_X7.1 (hB.1.obj lc_X_858) h1 h2 h3 (Nat.le_of_ble_eq_true rfl) ⟨Nat.le_of_ble_eq_true rfl, Nat.le_of_ble_eq_true rfl⟩ dX8_appendBytes_27) (fun H locs hB => ?_)
          refine W.eq (g2 := F0 m 30 ls []) rfl ?_
          obtain ⟨v10, ev10⟩ : ∃ y : bM, y = spl v2 7093 2806 w9 := ⟨_, rfl⟩
          have hf := nm_use hf ev10
          rw [← ev10] at hB
          exact hJ30 v10 H locs ls hf hB (lv_sub hl [1, 2, 3] rfl)
  exact hL3 lpN 24 v H locs ls hf hB (lv_sub hl [1, 2, 0] rfl)
theorem yv_X8_appendBytes : bYv yX8_appendBytes RX8 cX8_appendBytes 4 none 1 := ⟨⟨rfl, by decide, by decide, rfl⟩, wm_685, wp_16, wm_1, wm_686⟩

theorem dX8_feed_0 : decode cX8_feed 0 = .ok (.aload_n 0, 1) := by decide +kernel
theorem dX8_feed_1 : decode cX8_feed 1 = .ok (.getfield 37, 3) := by decide +kernel
theorem dX8_feed_4 : decode cX8_feed 4 = .ok (.getfield 56, 3) := by decide +kernel
theorem dX8_feed_7 : decode cX8_feed 7 = .ok (.astore 6, 2) := by decide +kernel
theorem dX8_feed_9 : decode cX8_feed 9 = .ok (.iload_n 1, 1) := by decide +kernel
theorem dX8_feed_10 : decode cX8_feed 10 = .ok (.invokestatic 77, 3) := by decide +kernel
theorem dX8_feed_13 : decode cX8_feed 13 = .ok (.iload_n 2, 1) := by decide +kernel
theorem dX8_feed_14 : decode cX8_feed 14 = .ok (.invokestatic 77, 3) := by decide +kernel
theorem dX8_feed_17 : decode cX8_feed 17 = .ok (.iadd, 1) := by decide +kernel
theorem dX8_feed_18 : decode cX8_feed 18 = .ok (.iload_n 3, 1) := by decide +kernel
theorem dX8_feed_19 : decode cX8_feed 19 = .ok (.invokestatic 77, 3) := by decide +kernel
theorem dX8_feed_22 : decode cX8_feed 22 = .ok (.iadd, 1) := by decide +kernel
theorem dX8_feed_23 : decode cX8_feed 23 = .ok (.iload 4, 2) := by decide +kernel
theorem dX8_feed_25 : decode cX8_feed 25 = .ok (.invokestatic 77, 3) := by decide +kernel
theorem dX8_feed_28 : decode cX8_feed 28 = .ok (.iadd, 1) := by decide +kernel
theorem dX8_feed_29 : decode cX8_feed 29 = .ok (.iload 5, 2) := by decide +kernel
theorem dX8_feed_31 : decode cX8_feed 31 = .ok (.invokestatic 77, 3) := by decide +kernel
theorem dX8_feed_34 : decode cX8_feed 34 = .ok (.iadd, 1) := by decide +kernel
theorem dX8_feed_35 : decode cX8_feed 35 = .ok (.istore 7, 2) := by decide +kernel
theorem dX8_feed_37 : decode cX8_feed 37 = .ok (.aload 6, 2) := by decide +kernel
theorem dX8_feed_39 : decode cX8_feed 39 = .ok (.getfield 81, 3) := by decide +kernel
theorem dX8_feed_42 : decode cX8_feed 42 = .ok (.iload 7, 2) := by decide +kernel
theorem dX8_feed_44 : decode cX8_feed 44 = .ok (.iadd, 1) := by decide +kernel
theorem dX8_feed_45 : decode cX8_feed 45 = .ok (.sipush 700, 3) := by decide +kernel
theorem dX8_feed_48 : decode cX8_feed 48 = .ok (.if_icmp .le 5, 3) := by decide +kernel
theorem dX8_feed_51 : decode cX8_feed 51 = .ok (.iconst (-1), 1) := by decide +kernel
theorem dX8_feed_52 : decode cX8_feed 52 = .ok (.ireturn, 1) := by decide +kernel
theorem dX8_feed_53 : decode cX8_feed 53 = .ok (.aload_n 0, 1) := by decide +kernel
theorem dX8_feed_54 : decode cX8_feed 54 = .ok (.iload_n 1, 1) := by decide +kernel
theorem dX8_feed_55 : decode cX8_feed 55 = .ok (.invokevirtual 84, 3) := by decide +kernel
theorem dX8_feed_58 : decode cX8_feed 58 = .ok (.aload_n 0, 1) := by decide +kernel
theorem dX8_feed_59 : decode cX8_feed 59 = .ok (.iload_n 2, 1) := by decide +kernel
theorem dX8_feed_60 : decode cX8_feed 60 = .ok (.invokevirtual 84, 3) := by decide +kernel
theorem dX8_feed_63 : decode cX8_feed 63 = .ok (.aload_n 0, 1) := by decide +kernel
theorem dX8_feed_64 : decode cX8_feed 64 = .ok (.iload_n 3, 1) := by decide +kernel
theorem dX8_feed_65 : decode cX8_feed 65 = .ok (.invokevirtual 84, 3) := by decide +kernel
theorem dX8_feed_68 : decode cX8_feed 68 = .ok (.aload_n 0, 1) := by decide +kernel
theorem dX8_feed_69 : decode cX8_feed 69 = .ok (.iload 4, 2) := by decide +kernel
theorem dX8_feed_71 : decode cX8_feed 71 = .ok (.invokevirtual 84, 3) := by decide +kernel
theorem dX8_feed_74 : decode cX8_feed 74 = .ok (.aload_n 0, 1) := by decide +kernel
theorem dX8_feed_75 : decode cX8_feed 75 = .ok (.iload 5, 2) := by decide +kernel
theorem dX8_feed_77 : decode cX8_feed 77 = .ok (.invokevirtual 84, 3) := by decide +kernel
theorem dX8_feed_80 : decode cX8_feed 80 = .ok (.aload 6, 2) := by decide +kernel
theorem dX8_feed_82 : decode cX8_feed 82 = .ok (.getfield 81, 3) := by decide +kernel
theorem dX8_feed_85 : decode cX8_feed 85 = .ok (.ireturn, 1) := by decide +kernel
def fX8_feed (p1 : Int32) (p2 : Int32) (p3 : Int32) (p4 : Int32) (p5 : Int32) (v : bM) : Option (Int32 × bM) :=
  bnr (fX8_bytesIn p1) fun r2 => bnr (fX8_bytesIn p2) fun r4 => bnr (fX8_bytesIn p3) fun r6 => bnr (fX8_bytesIn p4) fun r8 => bnr (fX8_bytesIn p5) fun r10 => nm ((((r2 + r4) + r6) + r8) + r10) fun x11 => (if ((v 7093) + x11) ≤ 700 then (bnw (fX8_appendBytes p1 v) fun w14 => bnw (fX8_appendBytes p2 w14) fun w16 => bnw (fX8_appendBytes p3 w16) fun w18 => bnw (fX8_appendBytes p4 w18) fun w20 => bnw (fX8_appendBytes p5 w20) fun w22 => some (w22 7093, w22)) else (some ((-1), v)))
set_option maxRecDepth 100000 in
set_option maxHeartbeats 4000000 in
theorem mX8_feed {l : Launch} {p1 : Int32} {p2 : Int32} {p3 : Int32} {p4 : Int32} {p5 : Int32} {v : bM} {r0 : Int32} {w0 : bM} (hf : fX8_feed p1 p2 p3 p4 p5 v = some (r0, w0)) : bMet l yX8_feed cX8_feed 8 (some .int) 2 0 0 LX (fun E a => [.ref a, .int p1, .int p2, .int p3, .int p4, .int p5]) v w0 (fun _ => some (.int r0)) := by
  refine bk_start (by decide +kernel) wfX (fun _ _ => Nat.le_of_ble_eq_true rfl) ?_
  intro p e s m args below meth c D E a ls H locs X hr hl hB
  have hx := X.1
  have hb := X.2.1
  have hown := X.2.2.2.1
  have hts := X.2.2.2.2.1
  have hl : lv_has ls 8 [(0, .ref a), (1, .int p1), (2, .int p2), (3, .int p3), (4, .int p4), (5, .int p5)] := hl
  have hf := (fX8_feed.eq_1 p1 p2 p3 p4 p5 v).symm.trans hf
  refine lv_aload_n hx hb dX8_feed_0 rfl (lv_at hl 0 rfl) ?_
  refine bk_getR X hB kl_X8 0 lc_X_0 5 (by decide) rfl wm_659 dX8_feed_1 ?_
  refine bk_getR X hB kl_X4 857 lc_X_857 0 (by decide) rfl wm_320 dX8_feed_4 ?_
  refine lv_astore (lv' := [(6, .ref (a + 858)), (0, .ref a), (1, .int p1), (2, .int p2), (3, .int p3), (4, .int p4), (5, .int p5)]) hx hb dX8_feed_7 hl (by decide) rfl (fun ls hl => ?_)
  refine lv_iload_n hx hb dX8_feed_9 rfl (lv_at hl 2 rfl) ?_
  obtain ⟨r2, hc1, hf⟩ := bnr_some hf
  refine bk_non (v0 := v) (w0 := v) hB (fun h1 h2 h3 => bk_runS X (Av := [.int p1]) (rest := []) (mX8_bytesIn hc1) ys_X8_bytesIn wm_680 ⟨Nat.le_of_ble_eq_true rfl, Nat.le_of_ble_eq_true rfl⟩ rfl rfl hl.1 h1 h2 h3 (Nat.le_of_ble_eq_true rfl) ⟨Nat.le_of_ble_eq_true rfl, Nat.le_of_ble_eq_true rfl⟩ dX8_feed_10) (fun H locs hB => ?_)
  refine W.eq (g2 := F0 m 13 ls [.int r2]) rfl ?_
  refine lv_iload_n hx hb dX8_feed_13 rfl (lv_at hl 3 rfl) ?_
  obtain ⟨r4, hc3, hf⟩ := bnr_some hf
  refine bk_non (v0 := v) (w0 := v) hB (fun h1 h2 h3 => bk_runS X (Av := [.int p2]) (rest := [.int r2]) (mX8_bytesIn hc3) ys_X8_bytesIn wm_680 ⟨Nat.le_of_ble_eq_true rfl, Nat.le_of_ble_eq_true rfl⟩ rfl rfl hl.1 h1 h2 h3 (Nat.le_of_ble_eq_true rfl) ⟨Nat.le_of_ble_eq_true rfl, Nat.le_of_ble_eq_true rfl⟩ dX8_feed_14) (fun H locs hB => ?_)
  refine W.eq (g2 := F0 m 17 ls [.int r4, .int r2]) rfl ?_
  refine lv_iadd hx hb dX8_feed_17 ?_
  refine lv_iload_n hx hb dX8_feed_18 rfl (lv_at hl 4 rfl) ?_
  obtain ⟨r6, hc5, hf⟩ := bnr_some hf
  refine bk_non (v0 := v) (w0 := v) hB (fun h1 h2 h3 => bk_runS X (Av := [.int p3]) (rest := [.int (r2 + r4)]) (mX8_bytesIn hc5) ys_X8_bytesIn wm_680 ⟨Nat.le_of_ble_eq_true rfl, Nat.le_of_ble_eq_true rfl⟩ rfl rfl hl.1 h1 h2 h3 (Nat.le_of_ble_eq_true rfl) ⟨Nat.le_of_ble_eq_true rfl, Nat.le_of_ble_eq_true rfl⟩ dX8_feed_19) (fun H locs hB => ?_)
  refine W.eq (g2 := F0 m 22 ls [.int r6, .int (r2 + r4)]) rfl ?_
  refine lv_iadd hx hb dX8_feed_22 ?_
  refine lv_iload hx hb dX8_feed_23 (lv_at hl 5 rfl) ?_
  obtain ⟨r8, hc7, hf⟩ := bnr_some hf
  refine bk_non (v0 := v) (w0 := v) hB (fun h1 h2 h3 => bk_runS X (Av := [.int p4]) (rest := [.int ((r2 + r4) + r6)]) (mX8_bytesIn hc7) ys_X8_bytesIn wm_680 ⟨Nat.le_of_ble_eq_true rfl, Nat.le_of_ble_eq_true rfl⟩ rfl rfl hl.1 h1 h2 h3 (Nat.le_of_ble_eq_true rfl) ⟨Nat.le_of_ble_eq_true rfl, Nat.le_of_ble_eq_true rfl⟩ dX8_feed_25) (fun H locs hB => ?_)
  refine W.eq (g2 := F0 m 28 ls [.int r8, .int ((r2 + r4) + r6)]) rfl ?_
  refine lv_iadd hx hb dX8_feed_28 ?_
  refine lv_iload hx hb dX8_feed_29 (lv_at hl 6 rfl) ?_
  obtain ⟨r10, hc9, hf⟩ := bnr_some hf
  refine bk_non (v0 := v) (w0 := v) hB (fun h1 h2 h3 => bk_runS X (Av := [.int p5]) (rest := [.int (((r2 + r4) + r6) + r8)]) (mX8_bytesIn hc9) ys_X8_bytesIn wm_680 ⟨Nat.le_of_ble_eq_true rfl, Nat.le_of_ble_eq_true rfl⟩ rfl rfl hl.1 h1 h2 h3 (Nat.le_of_ble_eq_true rfl) ⟨Nat.le_of_ble_eq_true rfl, Nat.le_of_ble_eq_true rfl⟩ dX8_feed_31) (fun H locs hB => ?_)
  refine W.eq (g2 := F0 m 34 ls [.int r10, .int (((r2 + r4) + r6) + r8)]) rfl ?_
  refine lv_iadd hx hb dX8_feed_34 ?_
  refine lv_topi (fun x11 ex11 => ?_)
  have hf := nm_use hf ex11
  refine lv_istore (lv' := [(7, .int x11), (6, .ref (a + 858)), (0, .ref a), (1, .int p1), (2, .int p2), (3, .int p3), (4, .int p4), (5, .int p5)]) hx hb dX8_feed_35 hl (by decide) rfl (fun ls hl => ?_)
  refine lv_aload hx hb dX8_feed_37 (lv_at hl 1 rfl) ?_
  refine bk_getI X hB kl_X7 858 lc_X_858 0 (by decide) rfl wm_296 dX8_feed_39 ?_
  refine lv_iload hx hb dX8_feed_42 (lv_at hl 0 rfl) ?_
  refine lv_iadd hx hb dX8_feed_44 ?_
  refine lv_sipush (v := 700) hx hb dX8_feed_45 (by decide) ?_
  refine lv_icmp_le (tgt := 53) hx hb dX8_feed_48 (by decide) (fun c12 => ?_) (fun c12 => ?_)
  · have hf := (if_pos c12).symm.trans hf
    refine lv_aload_n hx hb dX8_feed_53 rfl (lv_at hl 2 rfl) ?_
    refine lv_iload_n hx hb dX8_feed_54 rfl (lv_at hl 3 rfl) ?_
    obtain ⟨w14, hc13, hf⟩ := bnw_some hf
    refine bk_all hB (fun h1 h2 h3 => bk_runV X (Av := [.int p1]) (rest := []) (mX8_appendBytes hc13) yv_X8_appendBytes wm_683 ⟨Nat.le_of_ble_eq_true rfl, Nat.le_of_ble_eq_true rfl⟩ rfl rfl hl.1 kl_X8.1 (hB.1.obj lc_X_0) h1 h2 h3 (Nat.le_of_ble_eq_true rfl) ⟨Nat.le_of_ble_eq_true rfl, Nat.le_of_ble_eq_true rfl⟩ dX8_feed_55) (fun H locs hB => ?_)
    refine W.eq (g2 := F0 m 58 ls []) rfl ?_
    refine lv_aload_n hx hb dX8_feed_58 rfl (lv_at hl 2 rfl) ?_
    refine lv_iload_n hx hb dX8_feed_59 rfl (lv_at hl 4 rfl) ?_
    obtain ⟨w16, hc15, hf⟩ := bnw_some hf
    refine bk_all hB (fun h1 h2 h3 => bk_runV X (Av := [.int p2]) (rest := []) (mX8_appendBytes hc15) yv_X8_appendBytes wm_683 ⟨Nat.le_of_ble_eq_true rfl, Nat.le_of_ble_eq_true rfl⟩ rfl rfl hl.1 kl_X8.1 (hB.1.obj lc_X_0) h1 h2 h3 (Nat.le_of_ble_eq_true rfl) ⟨Nat.le_of_ble_eq_true rfl, Nat.le_of_ble_eq_true rfl⟩ dX8_feed_60) (fun H locs hB => ?_)
    refine W.eq (g2 := F0 m 63 ls []) rfl ?_
    refine lv_aload_n hx hb dX8_feed_63 rfl (lv_at hl 2 rfl) ?_
    refine lv_iload_n hx hb dX8_feed_64 rfl (lv_at hl 5 rfl) ?_
    obtain ⟨w18, hc17, hf⟩ := bnw_some hf
    refine bk_all hB (fun h1 h2 h3 => bk_runV X (Av := [.int p3]) (rest := []) (mX8_appendBytes hc17) yv_X8_appendBytes wm_683 ⟨Nat.le_of_ble_eq_true rfl, Nat.le_of_ble_eq_true rfl⟩ rfl rfl hl.1 kl_X8.1 (hB.1.obj lc_X_0) h1 h2 h3 (Nat.le_of_ble_eq_true rfl) ⟨Nat.le_of_ble_eq_true rfl, Nat.le_of_ble_eq_true rfl⟩ dX8_feed_65) (fun H locs hB => ?_)
    refine W.eq (g2 := F0 m 68 ls []) rfl ?_
    refine lv_aload_n hx hb dX8_feed_68 rfl (lv_at hl 2 rfl) ?_
    refine lv_iload hx hb dX8_feed_69 (lv_at hl 6 rfl) ?_
    obtain ⟨w20, hc19, hf⟩ := bnw_some hf
    refine bk_all hB (fun h1 h2 h3 => bk_runV X (Av := [.int p4]) (rest := []) (mX8_appendBytes hc19) yv_X8_appendBytes wm_683 ⟨Nat.le_of_ble_eq_true rfl, Nat.le_of_ble_eq_true rfl⟩ rfl rfl hl.1 kl_X8.1 (hB.1.obj lc_X_0) h1 h2 h3 (Nat.le_of_ble_eq_true rfl) ⟨Nat.le_of_ble_eq_true rfl, Nat.le_of_ble_eq_true rfl⟩ dX8_feed_71) (fun H locs hB => ?_)
    refine W.eq (g2 := F0 m 74 ls []) rfl ?_
    refine lv_aload_n hx hb dX8_feed_74 rfl (lv_at hl 2 rfl) ?_
    refine lv_iload hx hb dX8_feed_75 (lv_at hl 7 rfl) ?_
    obtain ⟨w22, hc21, hf⟩ := bnw_some hf
    refine bk_all hB (fun h1 h2 h3 => bk_runV X (Av := [.int p5]) (rest := []) (mX8_appendBytes hc21) yv_X8_appendBytes wm_683 ⟨Nat.le_of_ble_eq_true rfl, Nat.le_of_ble_eq_true rfl⟩ rfl rfl hl.1 kl_X8.1 (hB.1.obj lc_X_0) h1 h2 h3 (Nat.le_of_ble_eq_true rfl) ⟨Nat.le_of_ble_eq_true rfl, Nat.le_of_ble_eq_true rfl⟩ dX8_feed_77) (fun H locs hB => ?_)
    refine W.eq (g2 := F0 m 80 ls []) rfl ?_
    refine lv_aload hx hb dX8_feed_80 (lv_at hl 1 rfl) ?_
    refine bk_getI X hB kl_X7 858 lc_X_858 0 (by decide) rfl wm_296 dX8_feed_82 ?_
    exact bk_iW X hr rfl hf hB (Nat.le_of_ble_eq_true rfl) (Nat.le_of_ble_eq_true rfl) dX8_feed_85
  · have hf := (if_neg c12).symm.trans hf
    refine lv_iconst (v := (-1)) hx hb dX8_feed_51 (by decide) ?_
    exact bk_iW X hr rfl hf hB (Nat.le_of_ble_eq_true rfl) (Nat.le_of_ble_eq_true rfl) dX8_feed_52
theorem yv_X8_feed : bYv yX8_feed RX8 cX8_feed 8 (some .int) 5 := ⟨⟨rfl, by decide, by decide, rfl⟩, wm_677, wm_678, wm_1, wm_679⟩

theorem dX8_takeDraft_0 : decode cX8_takeDraft 0 = .ok (.aload_n 0, 1) := by decide +kernel
theorem dX8_takeDraft_1 : decode cX8_takeDraft 1 = .ok (.getfield 10, 3) := by decide +kernel
theorem dX8_takeDraft_4 : decode cX8_takeDraft 4 = .ok (.astore_n 1, 1) := by decide +kernel
theorem dX8_takeDraft_5 : decode cX8_takeDraft 5 = .ok (.aload_n 0, 1) := by decide +kernel
theorem dX8_takeDraft_6 : decode cX8_takeDraft 6 = .ok (.aload_n 0, 1) := by decide +kernel
theorem dX8_takeDraft_7 : decode cX8_takeDraft 7 = .ok (.getfield 16, 3) := by decide +kernel
theorem dX8_takeDraft_10 : decode cX8_takeDraft 10 = .ok (.putfield 10, 3) := by decide +kernel
theorem dX8_takeDraft_13 : decode cX8_takeDraft 13 = .ok (.aload_n 0, 1) := by decide +kernel
theorem dX8_takeDraft_14 : decode cX8_takeDraft 14 = .ok (.aload_n 1, 1) := by decide +kernel
theorem dX8_takeDraft_15 : decode cX8_takeDraft 15 = .ok (.putfield 16, 3) := by decide +kernel
theorem dX8_takeDraft_18 : decode cX8_takeDraft 18 = .ok (.return_, 1) := by decide +kernel
def fX8_takeDraft  (v : bM) : Option bM :=
  ck (v 0) 12 <| nm (v 0).toNatClampNeg fun i2 => ck (v 1) 12 <| nm (v 1).toNatClampNeg fun i4 => nm (upd v 0 (nI i4)) fun v5 => nm (upd v5 1 (nI i2)) fun v6 => some v6
set_option maxRecDepth 100000 in
set_option maxHeartbeats 4000000 in
theorem mX8_takeDraft {l : Launch}  {v : bM} {w0 : bM} (hf : fX8_takeDraft  v = some w0) : bMet l yX8_takeDraft cX8_takeDraft 2 none 0 0 0 LX (fun E a => [.ref a]) v w0 (fun _ => none) := by
  refine bk_start (by decide +kernel) wfX (fun _ _ => Nat.le_of_ble_eq_true rfl) ?_
  intro p e s m args below meth c D E a ls H locs X hr hl hB
  have hx := X.1
  have hb := X.2.1
  have hown := X.2.2.2.1
  have hts := X.2.2.2.2.1
  have hl : lv_has ls 2 [(0, .ref a)] := hl
  have hf := (fX8_takeDraft.eq_1  v).symm.trans hf
  refine lv_aload_n hx hb dX8_takeDraft_0 rfl (lv_at hl 0 rfl) ?_
  obtain ⟨h1, hf⟩ := ck_some hf
  refine bk_getS X hB kl_X8 0 lc_X_0 0 (by decide) rfl h1 wm_654 dX8_takeDraft_1 ?_
  obtain ⟨i2, ei2⟩ : ∃ y : Nat, y = (v 0).toNatClampNeg := ⟨_, rfl⟩
  have hf := nm_use hf ei2
  rw [← ei2]
  have hi2 : i2 < 12 := by rw [ei2]; exact vp_lt h1
  refine lv_astore_n (lv' := [(1, .ref (a + (stC i2 + 0))), (0, .ref a)]) hx hb dX8_takeDraft_4 rfl hl (by decide) rfl (fun ls hl => ?_)
  refine lv_aload_n hx hb dX8_takeDraft_5 rfl (lv_at hl 1 rfl) ?_
  refine lv_aload_n hx hb dX8_takeDraft_6 rfl (lv_at hl 1 rfl) ?_
  obtain ⟨h3, hf⟩ := ck_some hf
  refine bk_getS X hB kl_X8 0 lc_X_0 1 (by decide) rfl h3 wm_655 dX8_takeDraft_7 ?_
  obtain ⟨i4, ei4⟩ : ∃ y : Nat, y = (v 1).toNatClampNeg := ⟨_, rfl⟩
  have hf := nm_use hf ei4
  rw [← ei4]
  have hi4 : i4 < 12 := by rw [ei4]; exact vp_lt h3
  refine bk_putS X hB kl_X8 0 lc_X_0 0 (by decide) rfl hi4 rfl rfl wm_654 dX8_takeDraft_10 rfl (fun H locs hB => ?_)
  obtain ⟨v5, ev5⟩ : ∃ y : bM, y = upd v 0 (nI i4) := ⟨_, rfl⟩
  have hf := nm_use hf ev5
  rw [← ev5] at hB
  refine lv_aload_n hx hb dX8_takeDraft_13 rfl (lv_at hl 1 rfl) ?_
  refine lv_aload_n hx hb dX8_takeDraft_14 rfl (lv_at hl 0 rfl) ?_
  refine bk_putS X hB kl_X8 0 lc_X_0 1 (by decide) rfl hi2 rfl rfl wm_655 dX8_takeDraft_15 rfl (fun H locs hB => ?_)
  obtain ⟨v6, ev6⟩ : ∃ y : bM, y = upd v5 1 (nI i2) := ⟨_, rfl⟩
  have hf := nm_use hf ev6
  rw [← ev6] at hB
  exact bk_vW X hr rfl hf hB (Nat.le_of_ble_eq_true rfl) (Nat.le_of_ble_eq_true rfl) dX8_takeDraft_18
theorem yv_X8_takeDraft : bYv yX8_takeDraft RX8 cX8_takeDraft 2 none 0 := ⟨⟨rfl, by decide, by decide, rfl⟩, wm_693, wp_17, wm_1, wm_694⟩

theorem dX8_loadSetup_0 : decode cX8_loadSetup 0 = .ok (.aload_n 0, 1) := by decide +kernel
theorem dX8_loadSetup_1 : decode cX8_loadSetup 1 = .ok (.getfield 37, 3) := by decide +kernel
theorem dX8_loadSetup_4 : decode cX8_loadSetup 4 = .ok (.aload_n 0, 1) := by decide +kernel
theorem dX8_loadSetup_5 : decode cX8_loadSetup 5 = .ok (.getfield 16, 3) := by decide +kernel
theorem dX8_loadSetup_8 : decode cX8_loadSetup 8 = .ok (.iconst 1, 1) := by decide +kernel
theorem dX8_loadSetup_9 : decode cX8_loadSetup 9 = .ok (.invokevirtual 70, 3) := by decide +kernel
theorem dX8_loadSetup_12 : decode cX8_loadSetup 12 = .ok (.istore_n 1, 1) := by decide +kernel
theorem dX8_loadSetup_13 : decode cX8_loadSetup 13 = .ok (.aload_n 0, 1) := by decide +kernel
theorem dX8_loadSetup_14 : decode cX8_loadSetup 14 = .ok (.getfield 37, 3) := by decide +kernel
theorem dX8_loadSetup_17 : decode cX8_loadSetup 17 = .ok (.getfield 56, 3) := by decide +kernel
theorem dX8_loadSetup_20 : decode cX8_loadSetup 20 = .ok (.invokevirtual 74, 3) := by decide +kernel
theorem dX8_loadSetup_23 : decode cX8_loadSetup 23 = .ok (.iload_n 1, 1) := by decide +kernel
theorem dX8_loadSetup_24 : decode cX8_loadSetup 24 = .ok (.ifCond .ne 5, 3) := by decide +kernel
theorem dX8_loadSetup_27 : decode cX8_loadSetup 27 = .ok (.iconst (-1), 1) := by decide +kernel
theorem dX8_loadSetup_28 : decode cX8_loadSetup 28 = .ok (.ireturn, 1) := by decide +kernel
theorem dX8_loadSetup_29 : decode cX8_loadSetup 29 = .ok (.aload_n 0, 1) := by decide +kernel
theorem dX8_loadSetup_30 : decode cX8_loadSetup 30 = .ok (.invokevirtual 87, 3) := by decide +kernel
theorem dX8_loadSetup_33 : decode cX8_loadSetup 33 = .ok (.aload_n 0, 1) := by decide +kernel
theorem dX8_loadSetup_34 : decode cX8_loadSetup 34 = .ok (.getfield 22, 3) := by decide +kernel
theorem dX8_loadSetup_37 : decode cX8_loadSetup 37 = .ok (.invokevirtual 90, 3) := by decide +kernel
theorem dX8_loadSetup_40 : decode cX8_loadSetup 40 = .ok (.iconst 0, 1) := by decide +kernel
theorem dX8_loadSetup_41 : decode cX8_loadSetup 41 = .ok (.istore_n 2, 1) := by decide +kernel
theorem dX8_loadSetup_42 : decode cX8_loadSetup 42 = .ok (.iload_n 2, 1) := by decide +kernel
theorem dX8_loadSetup_43 : decode cX8_loadSetup 43 = .ok (.iconst 2, 1) := by decide +kernel
theorem dX8_loadSetup_44 : decode cX8_loadSetup 44 = .ok (.if_icmp .ge 16, 3) := by decide +kernel
theorem dX8_loadSetup_47 : decode cX8_loadSetup 47 = .ok (.aload_n 0, 1) := by decide +kernel
theorem dX8_loadSetup_48 : decode cX8_loadSetup 48 = .ok (.getfield 30, 3) := by decide +kernel
theorem dX8_loadSetup_51 : decode cX8_loadSetup 51 = .ok (.iload_n 2, 1) := by decide +kernel
theorem dX8_loadSetup_52 : decode cX8_loadSetup 52 = .ok (.iconst 0, 1) := by decide +kernel
theorem dX8_loadSetup_53 : decode cX8_loadSetup 53 = .ok (.bastore, 1) := by decide +kernel
theorem dX8_loadSetup_54 : decode cX8_loadSetup 54 = .ok (.iinc 2 1, 3) := by decide +kernel
theorem dX8_loadSetup_57 : decode cX8_loadSetup 57 = .ok (.goto (-15), 3) := by decide +kernel
theorem dX8_loadSetup_60 : decode cX8_loadSetup 60 = .ok (.aload_n 0, 1) := by decide +kernel
theorem dX8_loadSetup_61 : decode cX8_loadSetup 61 = .ok (.getfield 10, 3) := by decide +kernel
theorem dX8_loadSetup_64 : decode cX8_loadSetup 64 = .ok (.getfield 93, 3) := by decide +kernel
theorem dX8_loadSetup_67 : decode cX8_loadSetup 67 = .ok (.getfield 97, 3) := by decide +kernel
theorem dX8_loadSetup_70 : decode cX8_loadSetup 70 = .ok (.ireturn, 1) := by decide +kernel
def fX8_loadSetup_L42  (k42 : Int32 → bM → Option (Int32 × bM)) (y14 : Int32) (v15 : bM) : Option (Int32 × bM) :=
  (if 2 ≤ y14 then (ck (v15 0) 12 <| nm (v15 0).toNatClampNeg fun i18 => some (v15 (stO i18 + 277), v15)) else (ck y14 2 <| nm (upd v15 (7084 + y14.toNatClampNeg) 0) fun v20 => nm (y14 + 1) fun x21 => k42 x21 v20))
def fX8_loadSetup  (v : bM) : Option (Int32 × bM) :=
  ck (v 1) 12 <| nm (v 1).toNatClampNeg fun i2 => bnd (fX4_read i2 1 v) fun r5 w4 => bnw (fX7_clear (vw w4 7093)) fun w7 => nm (spl w4 7093 2806 w7) fun v8 => (if r5 = 0 then (some ((-1), v8)) else (bnw (fX8_takeDraft v8) fun w11 => bnw (fX3_forget w11) fun w13 => lp (fX8_loadSetup_L42) (fun _ _ => none) lpN 0 w13))
set_option maxRecDepth 100000 in
set_option maxHeartbeats 4000000 in
theorem mX8_loadSetup {l : Launch}  {v : bM} {r0 : Int32} {w0 : bM} (hf : fX8_loadSetup  v = some (r0, w0)) : bMet l yX8_loadSetup cX8_loadSetup 3 (some .int) 9 0 0 LX (fun E a => [.ref a]) v w0 (fun _ => some (.int r0)) := by
  refine bk_start (by decide +kernel) wfX (fun _ _ => Nat.le_of_ble_eq_true rfl) ?_
  intro p e s m args below meth c D E a ls H locs X hr hl hB
  have hx := X.1
  have hb := X.2.1
  have hown := X.2.2.2.1
  have hts := X.2.2.2.2.1
  have hl : lv_has ls 3 [(0, .ref a)] := hl
  have hf := (fX8_loadSetup.eq_1  v).symm.trans hf
  refine lv_aload_n hx hb dX8_loadSetup_0 rfl (lv_at hl 0 rfl) ?_
  refine bk_getR X hB kl_X8 0 lc_X_0 5 (by decide) rfl wm_659 dX8_loadSetup_1 ?_
  refine lv_aload_n hx hb dX8_loadSetup_4 rfl (lv_at hl 0 rfl) ?_
  obtain ⟨h1, hf⟩ := ck_some hf
  refine bk_getS X hB kl_X8 0 lc_X_0 1 (by decide) rfl h1 wm_655 dX8_loadSetup_5 ?_
  obtain ⟨i2, ei2⟩ : ∃ y : Nat, y = (v 1).toNatClampNeg := ⟨_, rfl⟩
  have hf := nm_use hf ei2
  rw [← ei2]
  have hi2 : i2 < 12 := by rw [ei2]; exact vp_lt h1
  refine lv_iconst (v := 1) hx hb dX8_loadSetup_8 (by decide) ?_
  obtain ⟨r5, w4, hc3, hf⟩ := bnd_some hf
  refine bk_all hB (fun h1 h2 h3 => bk_runV X (Av := [.ref (a + (stC i2 + 0)), .int 1]) (rest := []) (mX4_read hc3) yv_X4_read wm_436 ⟨Nat.le_of_ble_eq_true rfl, Nat.le_of_ble_eq_true rfl⟩ rfl rfl hl.1 kl_X4.1 (hB.1.obj lc_X_857) h1 h2 h3 (Nat.le_of_ble_eq_true rfl) ⟨Nat.le_of_ble_eq_true rfl, Nat.le_of_ble_eq_true rfl⟩ dX8_loadSetup_9) (fun H locs hB => ?_)
  refine W.eq (g2 := F0 m 12 ls [.int r5]) rfl ?_
  refine lv_istore_n (lv' := [(1, .int r5), (0, .ref a)]) hx hb dX8_loadSetup_12 rfl hl (by decide) rfl (fun ls hl => ?_)
  refine lv_aload_n hx hb dX8_loadSetup_13 rfl (lv_at hl 1 rfl) ?_
  refine bk_getR X hB kl_X8 0 lc_X_0 5 (by decide) rfl wm_659 dX8_loadSetup_14 ?_
  refine bk_getR X hB kl_X4 857 lc_X_857 0 (by decide) rfl wm_320 dX8_loadSetup_17 ?_
  obtain ⟨w7, hc6, hf⟩ := bnw_some hf
  refine bk_sub sub_X_858 hB (fun h1 h2 h3 => bk_runV X (Av := []) (rest := []) (mX7_clear hc6) yv_X7_clear wm_650 ⟨Nat.le_of_ble_eq_true rfl, Nat.le_of_ble_eq_true rfl⟩ rfl rfl hl.1 kl_X7.1 (hB.1.obj lc_X_858) h1 h2 h3 (Nat.le_of_ble_eq_true rfl) ⟨Nat.le_of_ble_eq_true rfl, Nat.le_of_ble_eq_true rfl⟩ dX8_loadSetup_20) (fun H locs hB => ?_)
  refine W.eq (g2 := F0 m 23 ls []) rfl ?_
  obtain ⟨v8, ev8⟩ : ∃ y : bM, y = spl w4 7093 2806 w7 := ⟨_, rfl⟩
  have hf := nm_use hf ev8
  rw [← ev8] at hB
  refine lv_iload_n hx hb dX8_loadSetup_23 rfl (lv_at hl 0 rfl) ?_
  refine lv_if_ne (tgt := 29) hx hb dX8_loadSetup_24 (by decide) (fun c9 => ?_) (fun c9 => ?_)
  · have hf := (if_neg c9).symm.trans hf
    refine lv_aload_n hx hb dX8_loadSetup_29 rfl (lv_at hl 1 rfl) ?_
    obtain ⟨w11, hc10, hf⟩ := bnw_some hf
    refine bk_all hB (fun h1 h2 h3 => bk_runV X (Av := []) (rest := []) (mX8_takeDraft hc10) yv_X8_takeDraft wm_691 ⟨Nat.le_of_ble_eq_true rfl, Nat.le_of_ble_eq_true rfl⟩ rfl rfl hl.1 kl_X8.1 (hB.1.obj lc_X_0) h1 h2 h3 (Nat.le_of_ble_eq_true rfl) ⟨Nat.le_of_ble_eq_true rfl, Nat.le_of_ble_eq_true rfl⟩ dX8_loadSetup_30) (fun H locs hB => ?_)
    refine W.eq (g2 := F0 m 33 ls []) rfl ?_
    refine lv_aload_n hx hb dX8_loadSetup_33 rfl (lv_at hl 1 rfl) ?_
    refine bk_getR X hB kl_X8 0 lc_X_0 2 (by decide) rfl wm_656 dX8_loadSetup_34 ?_
    obtain ⟨w13, hc12, hf⟩ := bnw_some hf
    refine bk_all hB (fun h1 h2 h3 => bk_runV X (Av := []) (rest := []) (mX3_forget hc12) yv_X3_forget wm_695 ⟨Nat.le_of_ble_eq_true rfl, Nat.le_of_ble_eq_true rfl⟩ rfl rfl hl.1 kl_X3.1 (hB.1.obj lc_X_143) h1 h2 h3 (Nat.le_of_ble_eq_true rfl) ⟨Nat.le_of_ble_eq_true rfl, Nat.le_of_ble_eq_true rfl⟩ dX8_loadSetup_37) (fun H locs hB => ?_)
    refine W.eq (g2 := F0 m 40 ls []) rfl ?_
    refine lv_iconst (v := 0) hx hb dX8_loadSetup_40 (by decide) ?_
    refine lv_istore_n (lv' := [(2, .int 0), (1, .int r5), (0, .ref a)]) hx hb dX8_loadSetup_41 rfl hl (by decide) rfl (fun ls hl => ?_)
    have hL42 : ∀ (n42 : Nat) (y14 : Int32) (v15 : bM) (H : Heap) (locs : List Loc) (ls : Array Slot), lp (fX8_loadSetup_L42) (fun _ _ => none) n42 y14 v15 = some (r0, w0) → bB D E LX a v15 s H locs → lv_has ls 3 [(0, .ref a), (2, .int y14)] → W p l e (rmOf 9 0 0) s m args below meth c H locs 0 0 (bQ below D E LX a w0 (some (.int r0)) args s 0 0) (F0 m 42 ls []) := by
      intro n42
      induction n42 with
      | zero => intro y14 v15 H locs ls hf; cases (show (none : Option (Int32 × bM)) = some (r0, w0) from hf)
      | succ n42 ih42 =>
        intro y14 v15 H locs ls hf hB hl
        have hf := (fX8_loadSetup_L42.eq_1  (lp (fX8_loadSetup_L42) (fun _ _ => none) n42) y14 v15).symm.trans (show fX8_loadSetup_L42 (lp (fX8_loadSetup_L42) (fun _ _ => none) n42) y14 v15 = some (r0, w0) from hf)
        refine lv_iload_n hx hb dX8_loadSetup_42 rfl (lv_at hl 1 rfl) ?_
        refine lv_iconst (v := 2) hx hb dX8_loadSetup_43 (by decide) ?_
        refine lv_icmp_ge (tgt := 60) hx hb dX8_loadSetup_44 (by decide) (fun c16 => ?_) (fun c16 => ?_)
        · have hf := (if_pos c16).symm.trans hf
          refine lv_aload_n hx hb dX8_loadSetup_60 rfl (lv_at hl 0 rfl) ?_
          obtain ⟨h17, hf⟩ := ck_some hf
          refine bk_getS X hB kl_X8 0 lc_X_0 0 (by decide) rfl h17 wm_654 dX8_loadSetup_61 ?_
          obtain ⟨i18, ei18⟩ : ∃ y : Nat, y = (v15 0).toNatClampNeg := ⟨_, rfl⟩
          have hf := nm_use hf ei18
          rw [← ei18]
          have hi18 : i18 < 12 := by rw [ei18]; exact vp_lt h17
          refine bk_getR X hB kl_X6 (stC i18 + 0) ((subX_St _ hi18).at lc_St_0) 9 (by decide) rfl wm_241 dX8_loadSetup_64 ?_
          refine bk_getI X hB kl_X0 (stC i18 + 37) ((subX_St _ hi18).at lc_St_37) 0 (by decide) rfl wm_171 dX8_loadSetup_67 ?_
          exact bk_iW X hr rfl hf hB (Nat.le_of_ble_eq_true rfl) (Nat.le_of_ble_eq_true rfl) dX8_loadSetup_70
        · have hf := (if_neg c16).symm.trans hf
          refine lv_aload_n hx hb dX8_loadSetup_47 rfl (lv_at hl 0 rfl) ?_
          refine bk_getR X hB kl_X8 0 lc_X_0 4 (by decide) rfl wm_658 dX8_loadSetup_48 ?_
          refine lv_iload_n hx hb dX8_loadSetup_51 rfl (lv_at hl 1 rfl) ?_
          refine lv_iconst (v := 0) hx hb dX8_loadSetup_52 (by decide) ?_
          obtain ⟨h19, hf⟩ := ck_some hf
          refine bk_zst X hB 856 lc_X_856 h19 rfl dX8_loadSetup_53 (fun H locs hB => ?_)
          obtain ⟨v20, ev20⟩ : ∃ y : bM, y = upd v15 (7084 + y14.toNatClampNeg) 0 := ⟨_, rfl⟩
          have hf := nm_use hf ev20
          rw [← ev20] at hB
          obtain ⟨x21, ex21⟩ : ∃ y : Int32, y = y14 + 1 := ⟨_, rfl⟩
          have hf := nm_use hf ex21
          refine lv_iinc (v := x21) (lv' := [(2, .int x21), (0, .ref a)]) hx hb dX8_loadSetup_54 hl (k := 1) rfl (by rw [ex21]; rfl) (by decide) rfl (fun ls hl => ?_)
          refine lv_goto (tgt := 42) hx hb dX8_loadSetup_57 (by decide) ?_
          exact ih42 x21 v20 H locs ls hf hB (lv_sub hl [1, 0] rfl)
    exact hL42 lpN 0 w13 H locs ls hf hB (lv_sub hl [2, 0] rfl)
  · have hf := (if_pos c9).symm.trans hf
    refine lv_iconst (v := (-1)) hx hb dX8_loadSetup_27 (by decide) ?_
    exact bk_iW X hr rfl hf hB (Nat.le_of_ble_eq_true rfl) (Nat.le_of_ble_eq_true rfl) dX8_loadSetup_28
theorem yv_X8_loadSetup : bYv yX8_loadSetup RX8 cX8_loadSetup 3 (some .int) 0 := ⟨⟨rfl, by decide, by decide, rfl⟩, wm_688, wm_689, wm_1, wm_690⟩

theorem dX8_runScript_0 : decode cX8_runScript 0 = .ok (.aload_n 0, 1) := by decide +kernel
theorem dX8_runScript_1 : decode cX8_runScript 1 = .ok (.getfield 16, 3) := by decide +kernel
theorem dX8_runScript_4 : decode cX8_runScript 4 = .ok (.aload_n 0, 1) := by decide +kernel
theorem dX8_runScript_5 : decode cX8_runScript 5 = .ok (.getfield 10, 3) := by decide +kernel
theorem dX8_runScript_8 : decode cX8_runScript 8 = .ok (.invokevirtual 102, 3) := by decide +kernel
theorem dX8_runScript_11 : decode cX8_runScript 11 = .ok (.aload_n 0, 1) := by decide +kernel
theorem dX8_runScript_12 : decode cX8_runScript 12 = .ok (.getfield 37, 3) := by decide +kernel
theorem dX8_runScript_15 : decode cX8_runScript 15 = .ok (.aload_n 0, 1) := by decide +kernel
theorem dX8_runScript_16 : decode cX8_runScript 16 = .ok (.getfield 16, 3) := by decide +kernel
theorem dX8_runScript_19 : decode cX8_runScript 19 = .ok (.iconst 0, 1) := by decide +kernel
theorem dX8_runScript_20 : decode cX8_runScript 20 = .ok (.invokevirtual 70, 3) := by decide +kernel
theorem dX8_runScript_23 : decode cX8_runScript 23 = .ok (.istore_n 1, 1) := by decide +kernel
theorem dX8_runScript_24 : decode cX8_runScript 24 = .ok (.aload_n 0, 1) := by decide +kernel
theorem dX8_runScript_25 : decode cX8_runScript 25 = .ok (.getfield 37, 3) := by decide +kernel
theorem dX8_runScript_28 : decode cX8_runScript 28 = .ok (.getfield 56, 3) := by decide +kernel
theorem dX8_runScript_31 : decode cX8_runScript 31 = .ok (.invokevirtual 74, 3) := by decide +kernel
theorem dX8_runScript_34 : decode cX8_runScript 34 = .ok (.iload_n 1, 1) := by decide +kernel
theorem dX8_runScript_35 : decode cX8_runScript 35 = .ok (.ifCond .ne 5, 3) := by decide +kernel
theorem dX8_runScript_38 : decode cX8_runScript 38 = .ok (.iconst (-1), 1) := by decide +kernel
theorem dX8_runScript_39 : decode cX8_runScript 39 = .ok (.ireturn, 1) := by decide +kernel
theorem dX8_runScript_40 : decode cX8_runScript 40 = .ok (.aload_n 0, 1) := by decide +kernel
theorem dX8_runScript_41 : decode cX8_runScript 41 = .ok (.getfield 22, 3) := by decide +kernel
theorem dX8_runScript_44 : decode cX8_runScript 44 = .ok (.aload_n 0, 1) := by decide +kernel
theorem dX8_runScript_45 : decode cX8_runScript 45 = .ok (.getfield 10, 3) := by decide +kernel
theorem dX8_runScript_48 : decode cX8_runScript 48 = .ok (.invokevirtual 106, 3) := by decide +kernel
theorem dX8_runScript_51 : decode cX8_runScript 51 = .ok (.aload_n 0, 1) := by decide +kernel
theorem dX8_runScript_52 : decode cX8_runScript 52 = .ok (.invokevirtual 87, 3) := by decide +kernel
theorem dX8_runScript_55 : decode cX8_runScript 55 = .ok (.aload_n 0, 1) := by decide +kernel
theorem dX8_runScript_56 : decode cX8_runScript 56 = .ok (.getfield 37, 3) := by decide +kernel
theorem dX8_runScript_59 : decode cX8_runScript 59 = .ok (.getfield 109, 3) := by decide +kernel
theorem dX8_runScript_62 : decode cX8_runScript 62 = .ok (.ireturn, 1) := by decide +kernel
def fX8_runScript  (v : bM) : Option (Int32 × bM) :=
  ck (v 1) 12 <| nm (v 1).toNatClampNeg fun i2 => ck (v 0) 12 <| nm (v 0).toNatClampNeg fun i4 => cne i2 i4 <| bnw (fX6_copyFrom (vw v (stO i2)) (vw v (stO i4))) fun w6 => nm (spl v (stO i2) 590 w6) fun v8 => ck (v8 1) 12 <| nm (v8 1).toNatClampNeg fun i10 => bnd (fX4_read i10 0 v8) fun r13 w12 => bnw (fX7_clear (vw w12 7093)) fun w15 => nm (spl w12 7093 2806 w15) fun v16 => (if r13 = 0 then (some ((-1), v16)) else (ck (v16 0) 12 <| nm (v16 0).toNatClampNeg fun i19 => bnw (fX3_remember i19 v16) fun w21 => bnw (fX8_takeDraft w21) fun w23 => some (w23 7088, w23)))
set_option maxRecDepth 100000 in
set_option maxHeartbeats 4000000 in
theorem mX8_runScript {l : Launch}  {v : bM} {r0 : Int32} {w0 : bM} (hf : fX8_runScript  v = some (r0, w0)) : bMet l yX8_runScript cX8_runScript 2 (some .int) 9 0 0 LX (fun E a => [.ref a]) v w0 (fun _ => some (.int r0)) := by
  refine bk_start (by decide +kernel) wfX (fun _ _ => Nat.le_of_ble_eq_true rfl) ?_
  intro p e s m args below meth c D E a ls H locs X hr hl hB
  have hx := X.1
  have hb := X.2.1
  have hown := X.2.2.2.1
  have hts := X.2.2.2.2.1
  have hl : lv_has ls 2 [(0, .ref a)] := hl
  have hf := (fX8_runScript.eq_1  v).symm.trans hf
  refine lv_aload_n hx hb dX8_runScript_0 rfl (lv_at hl 0 rfl) ?_
  obtain ⟨h1, hf⟩ := ck_some hf
  refine bk_getS X hB kl_X8 0 lc_X_0 1 (by decide) rfl h1 wm_655 dX8_runScript_1 ?_
  obtain ⟨i2, ei2⟩ : ∃ y : Nat, y = (v 1).toNatClampNeg := ⟨_, rfl⟩
  have hf := nm_use hf ei2
  rw [← ei2]
  have hi2 : i2 < 12 := by rw [ei2]; exact vp_lt h1
  refine lv_aload_n hx hb dX8_runScript_4 rfl (lv_at hl 0 rfl) ?_
  obtain ⟨h3, hf⟩ := ck_some hf
  refine bk_getS X hB kl_X8 0 lc_X_0 0 (by decide) rfl h3 wm_654 dX8_runScript_5 ?_
  obtain ⟨i4, ei4⟩ : ∃ y : Nat, y = (v 0).toNatClampNeg := ⟨_, rfl⟩
  have hf := nm_use hf ei4
  rw [← ei4]
  have hi4 : i4 < 12 := by rw [ei4]; exact vp_lt h3
  obtain ⟨h7, hf⟩ := cne_some hf
  obtain ⟨w6, hc5, hf⟩ := bnw_some hf
  refine bk_sub (subX_St _ hi2) hB (fun h1 h2 h3 => bk_runV2 X (Av := [.ref (a + (stC i4 + 0))]) (rest := []) (mX6_copyFrom hc5) yv_X6_copyFrom wm_703 ⟨Nat.le_of_ble_eq_true rfl, Nat.le_of_ble_eq_true rfl⟩ rfl rfl hl.1 kl_X6.1 (hB.1.obj ((subX_St _ hi2).at lc_St_0)) (hB.1.sub (subX_St _ hi4)) (apX a hi2 hi4 h7) h1 h2 h3 (Nat.le_of_ble_eq_true rfl) ⟨Nat.le_of_ble_eq_true rfl, Nat.le_of_ble_eq_true rfl⟩ dX8_runScript_8) (fun H locs hB => ?_)
  refine W.eq (g2 := F0 m 11 ls []) rfl ?_
  obtain ⟨v8, ev8⟩ : ∃ y : bM, y = spl v (stO i2) 590 w6 := ⟨_, rfl⟩
  have hf := nm_use hf ev8
  rw [← ev8] at hB
  refine lv_aload_n hx hb dX8_runScript_11 rfl (lv_at hl 0 rfl) ?_
  refine bk_getR X hB kl_X8 0 lc_X_0 5 (by decide) rfl wm_659 dX8_runScript_12 ?_
  refine lv_aload_n hx hb dX8_runScript_15 rfl (lv_at hl 0 rfl) ?_
  obtain ⟨h9, hf⟩ := ck_some hf
  refine bk_getS X hB kl_X8 0 lc_X_0 1 (by decide) rfl h9 wm_655 dX8_runScript_16 ?_
  obtain ⟨i10, ei10⟩ : ∃ y : Nat, y = (v8 1).toNatClampNeg := ⟨_, rfl⟩
  have hf := nm_use hf ei10
  rw [← ei10]
  have hi10 : i10 < 12 := by rw [ei10]; exact vp_lt h9
  refine lv_iconst (v := 0) hx hb dX8_runScript_19 (by decide) ?_
  obtain ⟨r13, w12, hc11, hf⟩ := bnd_some hf
  refine bk_all hB (fun h1 h2 h3 => bk_runV X (Av := [.ref (a + (stC i10 + 0)), .int 0]) (rest := []) (mX4_read hc11) yv_X4_read wm_436 ⟨Nat.le_of_ble_eq_true rfl, Nat.le_of_ble_eq_true rfl⟩ rfl rfl hl.1 kl_X4.1 (hB.1.obj lc_X_857) h1 h2 h3 (Nat.le_of_ble_eq_true rfl) ⟨Nat.le_of_ble_eq_true rfl, Nat.le_of_ble_eq_true rfl⟩ dX8_runScript_20) (fun H locs hB => ?_)
  refine W.eq (g2 := F0 m 23 ls [.int r13]) rfl ?_
  refine lv_istore_n (lv' := [(1, .int r13), (0, .ref a)]) hx hb dX8_runScript_23 rfl hl (by decide) rfl (fun ls hl => ?_)
  refine lv_aload_n hx hb dX8_runScript_24 rfl (lv_at hl 1 rfl) ?_
  refine bk_getR X hB kl_X8 0 lc_X_0 5 (by decide) rfl wm_659 dX8_runScript_25 ?_
  refine bk_getR X hB kl_X4 857 lc_X_857 0 (by decide) rfl wm_320 dX8_runScript_28 ?_
  obtain ⟨w15, hc14, hf⟩ := bnw_some hf
  refine bk_sub sub_X_858 hB (fun h1 h2 h3 => bk_runV X (Av := []) (rest := []) (mX7_clear hc14) yv_X7_clear wm_650 ⟨Nat.le_of_ble_eq_true rfl, Nat.le_of_ble_eq_true rfl⟩ rfl rfl hl.1 kl_X7.1 (hB.1.obj lc_X_858) h1 h2 h3 (Nat.le_of_ble_eq_true rfl) ⟨Nat.le_of_ble_eq_true rfl, Nat.le_of_ble_eq_true rfl⟩ dX8_runScript_31) (fun H locs hB => ?_)
  refine W.eq (g2 := F0 m 34 ls []) rfl ?_
  obtain ⟨v16, ev16⟩ : ∃ y : bM, y = spl w12 7093 2806 w15 := ⟨_, rfl⟩
  have hf := nm_use hf ev16
  rw [← ev16] at hB
  refine lv_iload_n hx hb dX8_runScript_34 rfl (lv_at hl 0 rfl) ?_
  refine lv_if_ne (tgt := 40) hx hb dX8_runScript_35 (by decide) (fun c17 => ?_) (fun c17 => ?_)
  · have hf := (if_neg c17).symm.trans hf
    refine lv_aload_n hx hb dX8_runScript_40 rfl (lv_at hl 1 rfl) ?_
    refine bk_getR X hB kl_X8 0 lc_X_0 2 (by decide) rfl wm_656 dX8_runScript_41 ?_
    refine lv_aload_n hx hb dX8_runScript_44 rfl (lv_at hl 1 rfl) ?_
    obtain ⟨h18, hf⟩ := ck_some hf
    refine bk_getS X hB kl_X8 0 lc_X_0 0 (by decide) rfl h18 wm_654 dX8_runScript_45 ?_
    obtain ⟨i19, ei19⟩ : ∃ y : Nat, y = (v16 0).toNatClampNeg := ⟨_, rfl⟩
    have hf := nm_use hf ei19
    rw [← ei19]
    have hi19 : i19 < 12 := by rw [ei19]; exact vp_lt h18
    obtain ⟨w21, hc20, hf⟩ := bnw_some hf
    refine bk_all hB (fun h1 h2 h3 => bk_runV X (Av := [.ref (a + (stC i19 + 0))]) (rest := []) (mX3_remember hc20) yv_X3_remember wm_733 ⟨Nat.le_of_ble_eq_true rfl, Nat.le_of_ble_eq_true rfl⟩ rfl rfl hl.1 kl_X3.1 (hB.1.obj lc_X_143) h1 h2 h3 (Nat.le_of_ble_eq_true rfl) ⟨Nat.le_of_ble_eq_true rfl, Nat.le_of_ble_eq_true rfl⟩ dX8_runScript_48) (fun H locs hB => ?_)
    refine W.eq (g2 := F0 m 51 ls []) rfl ?_
    refine lv_aload_n hx hb dX8_runScript_51 rfl (lv_at hl 1 rfl) ?_
    obtain ⟨w23, hc22, hf⟩ := bnw_some hf
    refine bk_all hB (fun h1 h2 h3 => bk_runV X (Av := []) (rest := []) (mX8_takeDraft hc22) yv_X8_takeDraft wm_691 ⟨Nat.le_of_ble_eq_true rfl, Nat.le_of_ble_eq_true rfl⟩ rfl rfl hl.1 kl_X8.1 (hB.1.obj lc_X_0) h1 h2 h3 (Nat.le_of_ble_eq_true rfl) ⟨Nat.le_of_ble_eq_true rfl, Nat.le_of_ble_eq_true rfl⟩ dX8_runScript_52) (fun H locs hB => ?_)
    refine W.eq (g2 := F0 m 55 ls []) rfl ?_
    refine lv_aload_n hx hb dX8_runScript_55 rfl (lv_at hl 1 rfl) ?_
    refine bk_getR X hB kl_X8 0 lc_X_0 5 (by decide) rfl wm_659 dX8_runScript_56 ?_
    refine bk_getI X hB kl_X4 857 lc_X_857 3 (by decide) rfl wm_326 dX8_runScript_59 ?_
    exact bk_iW X hr rfl hf hB (Nat.le_of_ble_eq_true rfl) (Nat.le_of_ble_eq_true rfl) dX8_runScript_62
  · have hf := (if_pos c17).symm.trans hf
    refine lv_iconst (v := (-1)) hx hb dX8_runScript_38 (by decide) ?_
    exact bk_iW X hr rfl hf hB (Nat.le_of_ble_eq_true rfl) (Nat.le_of_ble_eq_true rfl) dX8_runScript_39
theorem yv_X8_runScript : bYv yX8_runScript RX8 cX8_runScript 2 (some .int) 0 := ⟨⟨rfl, by decide, by decide, rfl⟩, wm_700, wm_701, wm_1, wm_702⟩

theorem dX8_errorCode_0 : decode cX8_errorCode 0 = .ok (.aload_n 0, 1) := by decide +kernel
theorem dX8_errorCode_1 : decode cX8_errorCode 1 = .ok (.getfield 37, 3) := by decide +kernel
theorem dX8_errorCode_4 : decode cX8_errorCode 4 = .ok (.getfield 112, 3) := by decide +kernel
theorem dX8_errorCode_7 : decode cX8_errorCode 7 = .ok (.ireturn, 1) := by decide +kernel
def fX8_errorCode  (v : bM) : Option Int32 :=
  some (v 7086)
set_option maxRecDepth 100000 in
set_option maxHeartbeats 4000000 in
theorem mX8_errorCode {l : Launch}  {v : bM} {r0 : Int32} (hf : fX8_errorCode  v = some r0) : bMet l yX8_errorCode cX8_errorCode 1 (some .int) 0 0 0 LX (fun E a => [.ref a]) v v (fun _ => some (.int r0)) := by
  refine bk_start (by decide +kernel) wfX (fun _ _ => Nat.le_of_ble_eq_true rfl) ?_
  intro p e s m args below meth c D E a ls H locs X hr hl hB
  have hx := X.1
  have hb := X.2.1
  have hown := X.2.2.2.1
  have hts := X.2.2.2.2.1
  have hl : lv_has ls 1 [(0, .ref a)] := hl
  have hf := (fX8_errorCode.eq_1  v).symm.trans hf
  refine lv_aload_n hx hb dX8_errorCode_0 rfl (lv_at hl 0 rfl) ?_
  refine bk_getR X hB kl_X8 0 lc_X_0 5 (by decide) rfl wm_659 dX8_errorCode_1 ?_
  refine bk_getI X hB kl_X4 857 lc_X_857 1 (by decide) rfl wm_322 dX8_errorCode_4 ?_
  exact bk_iR X hr rfl hf hB (Nat.le_of_ble_eq_true rfl) (Nat.le_of_ble_eq_true rfl) dX8_errorCode_7
theorem yv_X8_errorCode : bYv yX8_errorCode RX8 cX8_errorCode 1 (some .int) 0 := ⟨⟨rfl, by decide, by decide, rfl⟩, wm_740, wm_741, wm_1, wm_742⟩

theorem dX8_errorPosition_0 : decode cX8_errorPosition 0 = .ok (.aload_n 0, 1) := by decide +kernel
theorem dX8_errorPosition_1 : decode cX8_errorPosition 1 = .ok (.getfield 37, 3) := by decide +kernel
theorem dX8_errorPosition_4 : decode cX8_errorPosition 4 = .ok (.getfield 115, 3) := by decide +kernel
theorem dX8_errorPosition_7 : decode cX8_errorPosition 7 = .ok (.ireturn, 1) := by decide +kernel
def fX8_errorPosition  (v : bM) : Option Int32 :=
  some (v 7087)
set_option maxRecDepth 100000 in
set_option maxHeartbeats 4000000 in
theorem mX8_errorPosition {l : Launch}  {v : bM} {r0 : Int32} (hf : fX8_errorPosition  v = some r0) : bMet l yX8_errorPosition cX8_errorPosition 1 (some .int) 0 0 0 LX (fun E a => [.ref a]) v v (fun _ => some (.int r0)) := by
  refine bk_start (by decide +kernel) wfX (fun _ _ => Nat.le_of_ble_eq_true rfl) ?_
  intro p e s m args below meth c D E a ls H locs X hr hl hB
  have hx := X.1
  have hb := X.2.1
  have hown := X.2.2.2.1
  have hts := X.2.2.2.2.1
  have hl : lv_has ls 1 [(0, .ref a)] := hl
  have hf := (fX8_errorPosition.eq_1  v).symm.trans hf
  refine lv_aload_n hx hb dX8_errorPosition_0 rfl (lv_at hl 0 rfl) ?_
  refine bk_getR X hB kl_X8 0 lc_X_0 5 (by decide) rfl wm_659 dX8_errorPosition_1 ?_
  refine bk_getI X hB kl_X4 857 lc_X_857 2 (by decide) rfl wm_324 dX8_errorPosition_4 ?_
  exact bk_iR X hr rfl hf hB (Nat.le_of_ble_eq_true rfl) (Nat.le_of_ble_eq_true rfl) dX8_errorPosition_7
theorem yv_X8_errorPosition : bYv yX8_errorPosition RX8 cX8_errorPosition 1 (some .int) 0 := ⟨⟨rfl, by decide, by decide, rfl⟩, wm_744, wm_745, wm_1, wm_746⟩

theorem dX8_clock_0 : decode cX8_clock 0 = .ok (.aload_n 0, 1) := by decide +kernel
theorem dX8_clock_1 : decode cX8_clock 1 = .ok (.getfield 10, 3) := by decide +kernel
theorem dX8_clock_4 : decode cX8_clock 4 = .ok (.getfield 118, 3) := by decide +kernel
theorem dX8_clock_7 : decode cX8_clock 7 = .ok (.ireturn, 1) := by decide +kernel
def fX8_clock  (v : bM) : Option Int32 :=
  ck (v 0) 12 <| nm (v 0).toNatClampNeg fun i2 => some (v (stO i2 + 0))
set_option maxRecDepth 100000 in
set_option maxHeartbeats 4000000 in
theorem mX8_clock {l : Launch}  {v : bM} {r0 : Int32} (hf : fX8_clock  v = some r0) : bMet l yX8_clock cX8_clock 1 (some .int) 0 0 0 LX (fun E a => [.ref a]) v v (fun _ => some (.int r0)) := by
  refine bk_start (by decide +kernel) wfX (fun _ _ => Nat.le_of_ble_eq_true rfl) ?_
  intro p e s m args below meth c D E a ls H locs X hr hl hB
  have hx := X.1
  have hb := X.2.1
  have hown := X.2.2.2.1
  have hts := X.2.2.2.2.1
  have hl : lv_has ls 1 [(0, .ref a)] := hl
  have hf := (fX8_clock.eq_1  v).symm.trans hf
  refine lv_aload_n hx hb dX8_clock_0 rfl (lv_at hl 0 rfl) ?_
  obtain ⟨h1, hf⟩ := ck_some hf
  refine bk_getS X hB kl_X8 0 lc_X_0 0 (by decide) rfl h1 wm_654 dX8_clock_1 ?_
  obtain ⟨i2, ei2⟩ : ∃ y : Nat, y = (v 0).toNatClampNeg := ⟨_, rfl⟩
  have hf := nm_use hf ei2
  rw [← ei2]
  have hi2 : i2 < 12 := by rw [ei2]; exact vp_lt h1
  refine bk_getI X hB kl_X6 (stC i2 + 0) ((subX_St _ hi2).at lc_St_0) 0 (by decide) rfl wm_221 dX8_clock_4 ?_
  exact bk_iR X hr rfl hf hB (Nat.le_of_ble_eq_true rfl) (Nat.le_of_ble_eq_true rfl) dX8_clock_7
theorem yv_X8_clock : bYv yX8_clock RX8 cX8_clock 1 (some .int) 0 := ⟨⟨rfl, by decide, by decide, rfl⟩, wm_748, wm_749, wm_1, wm_750⟩

theorem dX8_cash_0 : decode cX8_cash 0 = .ok (.aload_n 0, 1) := by decide +kernel
theorem dX8_cash_1 : decode cX8_cash 1 = .ok (.getfield 10, 3) := by decide +kernel
theorem dX8_cash_4 : decode cX8_cash 4 = .ok (.getfield 121, 3) := by decide +kernel
theorem dX8_cash_7 : decode cX8_cash 7 = .ok (.ireturn, 1) := by decide +kernel
def fX8_cash  (v : bM) : Option Int32 :=
  ck (v 0) 12 <| nm (v 0).toNatClampNeg fun i2 => some (v (stO i2 + 1))
set_option maxRecDepth 100000 in
set_option maxHeartbeats 4000000 in
theorem mX8_cash {l : Launch}  {v : bM} {r0 : Int32} (hf : fX8_cash  v = some r0) : bMet l yX8_cash cX8_cash 1 (some .int) 0 0 0 LX (fun E a => [.ref a]) v v (fun _ => some (.int r0)) := by
  refine bk_start (by decide +kernel) wfX (fun _ _ => Nat.le_of_ble_eq_true rfl) ?_
  intro p e s m args below meth c D E a ls H locs X hr hl hB
  have hx := X.1
  have hb := X.2.1
  have hown := X.2.2.2.1
  have hts := X.2.2.2.2.1
  have hl : lv_has ls 1 [(0, .ref a)] := hl
  have hf := (fX8_cash.eq_1  v).symm.trans hf
  refine lv_aload_n hx hb dX8_cash_0 rfl (lv_at hl 0 rfl) ?_
  obtain ⟨h1, hf⟩ := ck_some hf
  refine bk_getS X hB kl_X8 0 lc_X_0 0 (by decide) rfl h1 wm_654 dX8_cash_1 ?_
  obtain ⟨i2, ei2⟩ : ∃ y : Nat, y = (v 0).toNatClampNeg := ⟨_, rfl⟩
  have hf := nm_use hf ei2
  rw [← ei2]
  have hi2 : i2 < 12 := by rw [ei2]; exact vp_lt h1
  refine bk_getI X hB kl_X6 (stC i2 + 0) ((subX_St _ hi2).at lc_St_0) 1 (by decide) rfl wm_224 dX8_cash_4 ?_
  exact bk_iR X hr rfl hf hB (Nat.le_of_ble_eq_true rfl) (Nat.le_of_ble_eq_true rfl) dX8_cash_7
theorem yv_X8_cash : bYv yX8_cash RX8 cX8_cash 1 (some .int) 0 := ⟨⟨rfl, by decide, by decide, rfl⟩, wm_752, wm_753, wm_1, wm_754⟩

theorem dX8_undoCount_0 : decode cX8_undoCount 0 = .ok (.aload_n 0, 1) := by decide +kernel
theorem dX8_undoCount_1 : decode cX8_undoCount 1 = .ok (.getfield 22, 3) := by decide +kernel
theorem dX8_undoCount_4 : decode cX8_undoCount 4 = .ok (.getfield 124, 3) := by decide +kernel
theorem dX8_undoCount_7 : decode cX8_undoCount 7 = .ok (.ireturn, 1) := by decide +kernel
def fX8_undoCount  (v : bM) : Option Int32 :=
  some (v 1182)
set_option maxRecDepth 100000 in
set_option maxHeartbeats 4000000 in
theorem mX8_undoCount {l : Launch}  {v : bM} {r0 : Int32} (hf : fX8_undoCount  v = some r0) : bMet l yX8_undoCount cX8_undoCount 1 (some .int) 0 0 0 LX (fun E a => [.ref a]) v v (fun _ => some (.int r0)) := by
  refine bk_start (by decide +kernel) wfX (fun _ _ => Nat.le_of_ble_eq_true rfl) ?_
  intro p e s m args below meth c D E a ls H locs X hr hl hB
  have hx := X.1
  have hb := X.2.1
  have hown := X.2.2.2.1
  have hts := X.2.2.2.2.1
  have hl : lv_has ls 1 [(0, .ref a)] := hl
  have hf := (fX8_undoCount.eq_1  v).symm.trans hf
  refine lv_aload_n hx hb dX8_undoCount_0 rfl (lv_at hl 0 rfl) ?_
  refine bk_getR X hB kl_X8 0 lc_X_0 2 (by decide) rfl wm_656 dX8_undoCount_1 ?_
  refine bk_getI X hB kl_X3 143 lc_X_143 0 (by decide) rfl wm_273 dX8_undoCount_4 ?_
  exact bk_iR X hr rfl hf hB (Nat.le_of_ble_eq_true rfl) (Nat.le_of_ble_eq_true rfl) dX8_undoCount_7
theorem yv_X8_undoCount : bYv yX8_undoCount RX8 cX8_undoCount 1 (some .int) 0 := ⟨⟨rfl, by decide, by decide, rfl⟩, wm_756, wm_757, wm_1, wm_758⟩

theorem dX8_flourCount_0 : decode cX8_flourCount 0 = .ok (.aload_n 0, 1) := by decide +kernel
theorem dX8_flourCount_1 : decode cX8_flourCount 1 = .ok (.getfield 10, 3) := by decide +kernel
theorem dX8_flourCount_4 : decode cX8_flourCount 4 = .ok (.getfield 125, 3) := by decide +kernel
theorem dX8_flourCount_7 : decode cX8_flourCount 7 = .ok (.getfield 129, 3) := by decide +kernel
theorem dX8_flourCount_10 : decode cX8_flourCount 10 = .ok (.ireturn, 1) := by decide +kernel
def fX8_flourCount  (v : bM) : Option Int32 :=
  ck (v 0) 12 <| nm (v 0).toNatClampNeg fun i2 => some (v (stO i2 + 6))
set_option maxRecDepth 100000 in
set_option maxHeartbeats 4000000 in
theorem mX8_flourCount {l : Launch}  {v : bM} {r0 : Int32} (hf : fX8_flourCount  v = some r0) : bMet l yX8_flourCount cX8_flourCount 1 (some .int) 0 0 0 LX (fun E a => [.ref a]) v v (fun _ => some (.int r0)) := by
  refine bk_start (by decide +kernel) wfX (fun _ _ => Nat.le_of_ble_eq_true rfl) ?_
  intro p e s m args below meth c D E a ls H locs X hr hl hB
  have hx := X.1
  have hb := X.2.1
  have hown := X.2.2.2.1
  have hts := X.2.2.2.2.1
  have hl : lv_has ls 1 [(0, .ref a)] := hl
  have hf := (fX8_flourCount.eq_1  v).symm.trans hf
  refine lv_aload_n hx hb dX8_flourCount_0 rfl (lv_at hl 0 rfl) ?_
  obtain ⟨h1, hf⟩ := ck_some hf
  refine bk_getS X hB kl_X8 0 lc_X_0 0 (by decide) rfl h1 wm_654 dX8_flourCount_1 ?_
  obtain ⟨i2, ei2⟩ : ∃ y : Nat, y = (v 0).toNatClampNeg := ⟨_, rfl⟩
  have hf := nm_use hf ei2
  rw [← ei2]
  have hi2 : i2 < 12 := by rw [ei2]; exact vp_lt h1
  refine bk_getR X hB kl_X6 (stC i2 + 0) ((subX_St _ hi2).at lc_St_0) 6 (by decide) rfl wm_233 dX8_flourCount_4 ?_
  refine bk_getI X hB kl_X2 (stC i2 + 1) ((subX_St _ hi2).at lc_St_1) 0 (by decide) rfl wm_57 dX8_flourCount_7 ?_
  exact bk_iR X hr rfl hf hB (Nat.le_of_ble_eq_true rfl) (Nat.le_of_ble_eq_true rfl) dX8_flourCount_10
theorem yv_X8_flourCount : bYv yX8_flourCount RX8 cX8_flourCount 1 (some .int) 0 := ⟨⟨rfl, by decide, by decide, rfl⟩, wm_760, wm_761, wm_1, wm_762⟩

theorem dX8_requireIndex_0 : decode cX8_requireIndex 0 = .ok (.iload_n 0, 1) := by decide +kernel
theorem dX8_requireIndex_1 : decode cX8_requireIndex 1 = .ok (.ifCond .lt 8, 3) := by decide +kernel
theorem dX8_requireIndex_4 : decode cX8_requireIndex 4 = .ok (.iload_n 0, 1) := by decide +kernel
theorem dX8_requireIndex_5 : decode cX8_requireIndex 5 = .ok (.iload_n 1, 1) := by decide +kernel
theorem dX8_requireIndex_6 : decode cX8_requireIndex 6 = .ok (.if_icmp .lt 14, 3) := by decide +kernel
theorem dX8_requireIndex_9 : decode cX8_requireIndex 9 = .ok (.new 347, 3) := by decide +kernel
theorem dX8_requireIndex_12 : decode cX8_requireIndex 12 = .ok (.dup, 1) := by decide +kernel
theorem dX8_requireIndex_13 : decode cX8_requireIndex 13 = .ok (.ldc_w 349, 3) := by decide +kernel
theorem dX8_requireIndex_16 : decode cX8_requireIndex 16 = .ok (.invokespecial 351, 3) := by decide +kernel
theorem dX8_requireIndex_19 : decode cX8_requireIndex 19 = .ok (.athrow, 1) := by decide +kernel
theorem dX8_requireIndex_20 : decode cX8_requireIndex 20 = .ok (.return_, 1) := by decide +kernel
def fX8_requireIndex (p0 : Int32) (p1 : Int32) : Option Unit :=
  (if p0 < 0 then (none) else ((if p0 < p1 then (some ()) else (none))))
set_option maxRecDepth 100000 in
set_option maxHeartbeats 4000000 in
theorem mX8_requireIndex {l : Launch} {p0 : Int32} {p1 : Int32} {v : bM} (hf : fX8_requireIndex p0 p1 = some ()) : bMet l yX8_requireIndex cX8_requireIndex 2 none 0 0 0 [] (fun E a => [.int p0, .int p1]) v v (fun _ => none) := by
  refine bk_start (by decide +kernel) bWf_nil (fun _ _ => Nat.le_of_ble_eq_true rfl) ?_
  intro p e s m args below meth c D E a ls H locs X hr hl hB
  have hx := X.1
  have hb := X.2.1
  have hown := X.2.2.2.1
  have hts := X.2.2.2.2.1
  have hl : lv_has ls 2 [(0, .int p0), (1, .int p1)] := hl
  have hf := (fX8_requireIndex.eq_1 p0 p1).symm.trans hf
  refine lv_iload_n hx hb dX8_requireIndex_0 rfl (lv_at hl 0 rfl) ?_
  refine lv_if_lt (tgt := 9) hx hb dX8_requireIndex_1 (by decide) (fun c1 => ?_) (fun c1 => ?_)
  · have hf := (if_pos c1).symm.trans hf
    cases hf
  · have hf := (if_neg c1).symm.trans hf
    refine lv_iload_n hx hb dX8_requireIndex_4 rfl (lv_at hl 0 rfl) ?_
    refine lv_iload_n hx hb dX8_requireIndex_5 rfl (lv_at hl 1 rfl) ?_
    refine lv_icmp_lt (tgt := 20) hx hb dX8_requireIndex_6 (by decide) (fun c2 => ?_) (fun c2 => ?_)
    · have hf := (if_pos c2).symm.trans hf
      exact bk_vret X hr rfl hB (Nat.le_of_ble_eq_true rfl) (Nat.le_of_ble_eq_true rfl) dX8_requireIndex_20
    · have hf := (if_neg c2).symm.trans hf
      cases hf
theorem ys_X8_requireIndex : bYs yX8_requireIndex RX8 cX8_requireIndex 2 none 2 := ⟨⟨rfl, by decide, by decide, rfl⟩, wm_925, wm_1, wm_926⟩

def xX8_requireIndex (p0 : Int32) (p1 : Int32) : Option Nat :=
  (if p0 < 0 then (some 0) else ((if p0 < p1 then (none) else (some 0))))
set_option maxRecDepth 100000 in
set_option maxHeartbeats 4000000 in
theorem mxX8_requireIndex {l : Launch} (hlt : l.stackTraces = false) {p0 : Int32} {p1 : Int32} {v : bM} {r0 : Nat} (hf : xX8_requireIndex p0 p1 = some r0) : bMetX l yX8_requireIndex cX8_requireIndex 2 none 6 1 6 [] (fun E a => [.int p0, .int p1]) v r0 := by
  refine bk_startX (by decide +kernel) bWf_nil (fun _ _ => Nat.le_of_ble_eq_true rfl) ?_
  intro p e s m args below meth c D E a ls H locs X hr hxt hl hB
  have hx := X.1
  have hb := X.2.1
  have hown := X.2.2.2.1
  have hts := X.2.2.2.2.1
  have hl : lv_has ls 2 [(0, .int p0), (1, .int p1)] := hl
  have hf := (xX8_requireIndex.eq_1 p0 p1).symm.trans hf
  refine lv_iload_n hx hb dX8_requireIndex_0 rfl (lv_at hl 0 rfl) ?_
  refine lv_if_lt (tgt := 9) hx hb dX8_requireIndex_1 (by decide) (fun c1 => ?_) (fun c1 => ?_)
  · have hf := (if_pos c1).symm.trans hf
    exact bk_thr0 X hxt hlt hl.1 hB hf wm_927 15 rfl dX8_requireIndex_9 dX8_requireIndex_12 dX8_requireIndex_13 dX8_requireIndex_16 dX8_requireIndex_19 ⟨Nat.le_of_ble_eq_true rfl, Nat.le_of_ble_eq_true rfl, Nat.le_of_ble_eq_true rfl, Nat.le_of_ble_eq_true rfl⟩ (Nat.le_of_ble_eq_true rfl) (Nat.le_of_ble_eq_true rfl)
  · have hf := (if_neg c1).symm.trans hf
    refine lv_iload_n hx hb dX8_requireIndex_4 rfl (lv_at hl 0 rfl) ?_
    refine lv_iload_n hx hb dX8_requireIndex_5 rfl (lv_at hl 1 rfl) ?_
    refine lv_icmp_lt (tgt := 20) hx hb dX8_requireIndex_6 (by decide) (fun c2 => ?_) (fun c2 => ?_)
    · have hf := (if_pos c2).symm.trans hf
      cases hf
    · have hf := (if_neg c2).symm.trans hf
      exact bk_thr0 X hxt hlt hl.1 hB hf wm_927 15 rfl dX8_requireIndex_9 dX8_requireIndex_12 dX8_requireIndex_13 dX8_requireIndex_16 dX8_requireIndex_19 ⟨Nat.le_of_ble_eq_true rfl, Nat.le_of_ble_eq_true rfl, Nat.le_of_ble_eq_true rfl, Nat.le_of_ble_eq_true rfl⟩ (Nat.le_of_ble_eq_true rfl) (Nat.le_of_ble_eq_true rfl)

theorem dX8_requireFlour_0 : decode cX8_requireFlour 0 = .ok (.iload_n 1, 1) := by decide +kernel
theorem dX8_requireFlour_1 : decode cX8_requireFlour 1 = .ok (.aload_n 0, 1) := by decide +kernel
theorem dX8_requireFlour_2 : decode cX8_requireFlour 2 = .ok (.getfield 10, 3) := by decide +kernel
theorem dX8_requireFlour_5 : decode cX8_requireFlour 5 = .ok (.getfield 125, 3) := by decide +kernel
theorem dX8_requireFlour_8 : decode cX8_requireFlour 8 = .ok (.getfield 129, 3) := by decide +kernel
theorem dX8_requireFlour_11 : decode cX8_requireFlour 11 = .ok (.invokestatic 188, 3) := by decide +kernel
theorem dX8_requireFlour_14 : decode cX8_requireFlour 14 = .ok (.return_, 1) := by decide +kernel
def fX8_requireFlour (p1 : Int32) (v : bM) : Option Unit :=
  ck (v 0) 12 <| nm (v 0).toNatClampNeg fun i2 => bnr (fX8_requireIndex p1 (v (stO i2 + 6))) fun r4 => some ()
set_option maxRecDepth 100000 in
set_option maxHeartbeats 4000000 in
theorem mX8_requireFlour {l : Launch} {p1 : Int32} {v : bM} (hf : fX8_requireFlour p1 v = some ()) : bMet l yX8_requireFlour cX8_requireFlour 2 none 1 0 0 LX (fun E a => [.ref a, .int p1]) v v (fun _ => none) := by
  refine bk_start (by decide +kernel) wfX (fun _ _ => Nat.le_of_ble_eq_true rfl) ?_
  intro p e s m args below meth c D E a ls H locs X hr hl hB
  have hx := X.1
  have hb := X.2.1
  have hown := X.2.2.2.1
  have hts := X.2.2.2.2.1
  have hl : lv_has ls 2 [(0, .ref a), (1, .int p1)] := hl
  have hf := (fX8_requireFlour.eq_1 p1 v).symm.trans hf
  refine lv_iload_n hx hb dX8_requireFlour_0 rfl (lv_at hl 1 rfl) ?_
  refine lv_aload_n hx hb dX8_requireFlour_1 rfl (lv_at hl 0 rfl) ?_
  obtain ⟨h1, hf⟩ := ck_some hf
  refine bk_getS X hB kl_X8 0 lc_X_0 0 (by decide) rfl h1 wm_654 dX8_requireFlour_2 ?_
  obtain ⟨i2, ei2⟩ : ∃ y : Nat, y = (v 0).toNatClampNeg := ⟨_, rfl⟩
  have hf := nm_use hf ei2
  rw [← ei2]
  have hi2 : i2 < 12 := by rw [ei2]; exact vp_lt h1
  refine bk_getR X hB kl_X6 (stC i2 + 0) ((subX_St _ hi2).at lc_St_0) 6 (by decide) rfl wm_233 dX8_requireFlour_5 ?_
  refine bk_getI X hB kl_X2 (stC i2 + 1) ((subX_St _ hi2).at lc_St_1) 0 (by decide) rfl wm_57 dX8_requireFlour_8 ?_
  obtain ⟨r4, hc3, hf⟩ := bnr_some hf
  refine bk_non (v0 := v) (w0 := v) hB (fun h1 h2 h3 => bk_runS X (Av := [.int p1, .int (v (stO i2 + 6))]) (rest := []) (mX8_requireIndex hc3) ys_X8_requireIndex wm_924 ⟨Nat.le_of_ble_eq_true rfl, Nat.le_of_ble_eq_true rfl⟩ rfl rfl hl.1 h1 h2 h3 (Nat.le_of_ble_eq_true rfl) ⟨Nat.le_of_ble_eq_true rfl, Nat.le_of_ble_eq_true rfl⟩ dX8_requireFlour_11) (fun H locs hB => ?_)
  refine W.eq (g2 := F0 m 14 ls []) rfl ?_
  exact bk_vret X hr rfl hB (Nat.le_of_ble_eq_true rfl) (Nat.le_of_ble_eq_true rfl) dX8_requireFlour_14
theorem yv_X8_requireFlour : bYv yX8_requireFlour RX8 cX8_requireFlour 2 none 1 := ⟨⟨rfl, by decide, by decide, rfl⟩, wm_922, wp_18, wm_1, wm_923⟩

def xX8_requireFlour (p1 : Int32) (v : bM) : Option Nat :=
  ck (v 0) 12 <| nm (v 0).toNatClampNeg fun i2 => xr (xX8_requireIndex p1 (v (stO i2 + 6))) <| bnr (fX8_requireIndex p1 (v (stO i2 + 6))) fun r4 => none
set_option maxRecDepth 100000 in
set_option maxHeartbeats 4000000 in
theorem mxX8_requireFlour {l : Launch} (hlt : l.stackTraces = false) {p1 : Int32} {v : bM} {r0 : Nat} (hf : xX8_requireFlour p1 v = some r0) : bMetX l yX8_requireFlour cX8_requireFlour 2 none 7 1 6 LX (fun E a => [.ref a, .int p1]) v r0 := by
  refine bk_startX (by decide +kernel) wfX (fun _ _ => Nat.le_of_ble_eq_true rfl) ?_
  intro p e s m args below meth c D E a ls H locs X hr hxt hl hB
  have hx := X.1
  have hb := X.2.1
  have hown := X.2.2.2.1
  have hts := X.2.2.2.2.1
  have hl : lv_has ls 2 [(0, .ref a), (1, .int p1)] := hl
  have hf := (xX8_requireFlour.eq_1 p1 v).symm.trans hf
  refine lv_iload_n hx hb dX8_requireFlour_0 rfl (lv_at hl 1 rfl) ?_
  refine lv_aload_n hx hb dX8_requireFlour_1 rfl (lv_at hl 0 rfl) ?_
  obtain ⟨h1, hf⟩ := ck_some hf
  refine bk_getS X hB kl_X8 0 lc_X_0 0 (by decide) rfl h1 wm_654 dX8_requireFlour_2 ?_
  obtain ⟨i2, ei2⟩ : ∃ y : Nat, y = (v 0).toNatClampNeg := ⟨_, rfl⟩
  have hf := nm_use hf ei2
  rw [← ei2]
  have hi2 : i2 < 12 := by rw [ei2]; exact vp_lt h1
  refine bk_getR X hB kl_X6 (stC i2 + 0) ((subX_St _ hi2).at lc_St_0) 6 (by decide) rfl wm_233 dX8_requireFlour_5 ?_
  refine bk_getI X hB kl_X2 (stC i2 + 1) ((subX_St _ hi2).at lc_St_1) 0 (by decide) rfl wm_57 dX8_requireFlour_8 ?_
  refine xr_cases hf (fun hX => ?_) (fun hf => ?_)
  · exact bk_nonX (v0 := v) hxt X hB (fun h1 h2 h3 => bk_runSX X (Av := [.int p1, .int (v (stO i2 + 6))]) (rest := []) (mxX8_requireIndex hlt hX) ys_X8_requireIndex wm_924 ⟨Nat.le_of_ble_eq_true rfl, Nat.le_of_ble_eq_true rfl⟩ rfl rfl hl.1 h1 h2 h3 (Nat.le_of_ble_eq_true rfl) ⟨Nat.le_of_ble_eq_true rfl, Nat.le_of_ble_eq_true rfl⟩ dX8_requireFlour_11)
  obtain ⟨r4, hc3, hf⟩ := bnr_some hf
  refine bk_non (v0 := v) (w0 := v) hB (fun h1 h2 h3 => bk_runS X (Av := [.int p1, .int (v (stO i2 + 6))]) (rest := []) (mX8_requireIndex hc3) ys_X8_requireIndex wm_924 ⟨Nat.le_of_ble_eq_true rfl, Nat.le_of_ble_eq_true rfl⟩ rfl rfl hl.1 h1 h2 h3 (Nat.le_of_ble_eq_true rfl) ⟨Nat.le_of_ble_eq_true rfl, Nat.le_of_ble_eq_true rfl⟩ dX8_requireFlour_11) (fun H locs hB => ?_)
  refine W.eq (g2 := F0 m 14 ls []) rfl ?_
  cases hf

theorem dX8_flourPrice_0 : decode cX8_flourPrice 0 = .ok (.aload_n 0, 1) := by decide +kernel
theorem dX8_flourPrice_1 : decode cX8_flourPrice 1 = .ok (.iload_n 1, 1) := by decide +kernel
theorem dX8_flourPrice_2 : decode cX8_flourPrice 2 = .ok (.invokevirtual 132, 3) := by decide +kernel
theorem dX8_flourPrice_5 : decode cX8_flourPrice 5 = .ok (.aload_n 0, 1) := by decide +kernel
theorem dX8_flourPrice_6 : decode cX8_flourPrice 6 = .ok (.getfield 10, 3) := by decide +kernel
theorem dX8_flourPrice_9 : decode cX8_flourPrice 9 = .ok (.getfield 125, 3) := by decide +kernel
theorem dX8_flourPrice_12 : decode cX8_flourPrice 12 = .ok (.getfield 135, 3) := by decide +kernel
theorem dX8_flourPrice_15 : decode cX8_flourPrice 15 = .ok (.iload_n 1, 1) := by decide +kernel
theorem dX8_flourPrice_16 : decode cX8_flourPrice 16 = .ok (.iaload, 1) := by decide +kernel
theorem dX8_flourPrice_17 : decode cX8_flourPrice 17 = .ok (.ireturn, 1) := by decide +kernel
def fX8_flourPrice (p1 : Int32) (v : bM) : Option Int32 :=
  bnr (fX8_requireFlour p1 v) fun r2 => ck (v 0) 12 <| nm (v 0).toNatClampNeg fun i4 => ck p1 6 <| some (v (stO i4 + 7 + p1.toNatClampNeg))
set_option maxRecDepth 100000 in
set_option maxHeartbeats 4000000 in
theorem mX8_flourPrice {l : Launch} {p1 : Int32} {v : bM} {r0 : Int32} (hf : fX8_flourPrice p1 v = some r0) : bMet l yX8_flourPrice cX8_flourPrice 2 (some .int) 2 0 0 LX (fun E a => [.ref a, .int p1]) v v (fun _ => some (.int r0)) := by
  refine bk_start (by decide +kernel) wfX (fun _ _ => Nat.le_of_ble_eq_true rfl) ?_
  intro p e s m args below meth c D E a ls H locs X hr hl hB
  have hx := X.1
  have hb := X.2.1
  have hown := X.2.2.2.1
  have hts := X.2.2.2.2.1
  have hl : lv_has ls 2 [(0, .ref a), (1, .int p1)] := hl
  have hf := (fX8_flourPrice.eq_1 p1 v).symm.trans hf
  refine lv_aload_n hx hb dX8_flourPrice_0 rfl (lv_at hl 0 rfl) ?_
  refine lv_iload_n hx hb dX8_flourPrice_1 rfl (lv_at hl 1 rfl) ?_
  obtain ⟨r2, hc1, hf⟩ := bnr_some hf
  refine bk_all hB (fun h1 h2 h3 => bk_runV X (Av := [.int p1]) (rest := []) (mX8_requireFlour hc1) yv_X8_requireFlour wm_920 ⟨Nat.le_of_ble_eq_true rfl, Nat.le_of_ble_eq_true rfl⟩ rfl rfl hl.1 kl_X8.1 (hB.1.obj lc_X_0) h1 h2 h3 (Nat.le_of_ble_eq_true rfl) ⟨Nat.le_of_ble_eq_true rfl, Nat.le_of_ble_eq_true rfl⟩ dX8_flourPrice_2) (fun H locs hB => ?_)
  refine W.eq (g2 := F0 m 5 ls []) rfl ?_
  refine lv_aload_n hx hb dX8_flourPrice_5 rfl (lv_at hl 0 rfl) ?_
  obtain ⟨h3, hf⟩ := ck_some hf
  refine bk_getS X hB kl_X8 0 lc_X_0 0 (by decide) rfl h3 wm_654 dX8_flourPrice_6 ?_
  obtain ⟨i4, ei4⟩ : ∃ y : Nat, y = (v 0).toNatClampNeg := ⟨_, rfl⟩
  have hf := nm_use hf ei4
  rw [← ei4]
  have hi4 : i4 < 12 := by rw [ei4]; exact vp_lt h3
  refine bk_getR X hB kl_X6 (stC i4 + 0) ((subX_St _ hi4).at lc_St_0) 6 (by decide) rfl wm_233 dX8_flourPrice_9 ?_
  refine bk_getR X hB kl_X2 (stC i4 + 1) ((subX_St _ hi4).at lc_St_1) 1 (by decide) rfl wm_60 dX8_flourPrice_12 ?_
  refine lv_iload_n hx hb dX8_flourPrice_15 rfl (lv_at hl 1 rfl) ?_
  obtain ⟨h5, hf⟩ := ck_some hf
  refine bk_ald X hB (stC i4 + 2) ((subX_St _ hi4).at lc_St_2) h5 dX8_flourPrice_16 ?_
  exact bk_iR X hr rfl hf hB (Nat.le_of_ble_eq_true rfl) (Nat.le_of_ble_eq_true rfl) dX8_flourPrice_17
theorem yv_X8_flourPrice : bYv yX8_flourPrice RX8 cX8_flourPrice 2 (some .int) 1 := ⟨⟨rfl, by decide, by decide, rfl⟩, wm_917, wm_918, wm_1, wm_919⟩

def xX8_flourPrice (p1 : Int32) (v : bM) : Option Nat :=
  xr (xX8_requireFlour p1 v) <| bnr (fX8_requireFlour p1 v) fun r2 => none
set_option maxRecDepth 100000 in
set_option maxHeartbeats 4000000 in
theorem mxX8_flourPrice {l : Launch} (hlt : l.stackTraces = false) {p1 : Int32} {v : bM} {r0 : Nat} (hf : xX8_flourPrice p1 v = some r0) : bMetX l yX8_flourPrice cX8_flourPrice 2 (some .int) 8 1 6 LX (fun E a => [.ref a, .int p1]) v r0 := by
  refine bk_startX (by decide +kernel) wfX (fun _ _ => Nat.le_of_ble_eq_true rfl) ?_
  intro p e s m args below meth c D E a ls H locs X hr hxt hl hB
  have hx := X.1
  have hb := X.2.1
  have hown := X.2.2.2.1
  have hts := X.2.2.2.2.1
  have hl : lv_has ls 2 [(0, .ref a), (1, .int p1)] := hl
  have hf := (xX8_flourPrice.eq_1 p1 v).symm.trans hf
  refine lv_aload_n hx hb dX8_flourPrice_0 rfl (lv_at hl 0 rfl) ?_
  refine lv_iload_n hx hb dX8_flourPrice_1 rfl (lv_at hl 1 rfl) ?_
  refine xr_cases hf (fun hX => ?_) (fun hf => ?_)
  · exact bk_allX hxt X hB (fun h1 h2 h3 => bk_runVX X (Av := [.int p1]) (rest := []) (mxX8_requireFlour hlt hX) yv_X8_requireFlour wm_920 ⟨Nat.le_of_ble_eq_true rfl, Nat.le_of_ble_eq_true rfl⟩ rfl rfl hl.1 kl_X8.1 (hB.1.obj lc_X_0) h1 h2 h3 (Nat.le_of_ble_eq_true rfl) ⟨Nat.le_of_ble_eq_true rfl, Nat.le_of_ble_eq_true rfl⟩ dX8_flourPrice_2)
  obtain ⟨r2, hc1, hf⟩ := bnr_some hf
  refine bk_all hB (fun h1 h2 h3 => bk_runV X (Av := [.int p1]) (rest := []) (mX8_requireFlour hc1) yv_X8_requireFlour wm_920 ⟨Nat.le_of_ble_eq_true rfl, Nat.le_of_ble_eq_true rfl⟩ rfl rfl hl.1 kl_X8.1 (hB.1.obj lc_X_0) h1 h2 h3 (Nat.le_of_ble_eq_true rfl) ⟨Nat.le_of_ble_eq_true rfl, Nat.le_of_ble_eq_true rfl⟩ dX8_flourPrice_2) (fun H locs hB => ?_)
  refine W.eq (g2 := F0 m 5 ls []) rfl ?_
  cases hf

theorem dX8_unitsOf_0 : decode cX8_unitsOf 0 = .ok (.aload_n 0, 1) := by decide +kernel
theorem dX8_unitsOf_1 : decode cX8_unitsOf 1 = .ok (.iload_n 1, 1) := by decide +kernel
theorem dX8_unitsOf_2 : decode cX8_unitsOf 2 = .ok (.invokevirtual 132, 3) := by decide +kernel
theorem dX8_unitsOf_5 : decode cX8_unitsOf 5 = .ok (.aload_n 0, 1) := by decide +kernel
theorem dX8_unitsOf_6 : decode cX8_unitsOf 6 = .ok (.getfield 10, 3) := by decide +kernel
theorem dX8_unitsOf_9 : decode cX8_unitsOf 9 = .ok (.getfield 125, 3) := by decide +kernel
theorem dX8_unitsOf_12 : decode cX8_unitsOf 12 = .ok (.iload_n 1, 1) := by decide +kernel
theorem dX8_unitsOf_13 : decode cX8_unitsOf 13 = .ok (.invokevirtual 139, 3) := by decide +kernel
theorem dX8_unitsOf_16 : decode cX8_unitsOf 16 = .ok (.ireturn, 1) := by decide +kernel
def fX8_unitsOf (p1 : Int32) (v : bM) : Option Int32 :=
  bnr (fX8_requireFlour p1 v) fun r2 => ck (v 0) 12 <| nm (v 0).toNatClampNeg fun i4 => bnr (fX2_stock p1 (vw v (stO i4 + 6))) fun r6 => some (r6)
set_option maxRecDepth 100000 in
set_option maxHeartbeats 4000000 in
theorem mX8_unitsOf {l : Launch} {p1 : Int32} {v : bM} {r0 : Int32} (hf : fX8_unitsOf p1 v = some r0) : bMet l yX8_unitsOf cX8_unitsOf 2 (some .int) 2 0 0 LX (fun E a => [.ref a, .int p1]) v v (fun _ => some (.int r0)) := by
  refine bk_start (by decide +kernel) wfX (fun _ _ => Nat.le_of_ble_eq_true rfl) ?_
  intro p e s m args below meth c D E a ls H locs X hr hl hB
  have hx := X.1
  have hb := X.2.1
  have hown := X.2.2.2.1
  have hts := X.2.2.2.2.1
  have hl : lv_has ls 2 [(0, .ref a), (1, .int p1)] := hl
  have hf := (fX8_unitsOf.eq_1 p1 v).symm.trans hf
  refine lv_aload_n hx hb dX8_unitsOf_0 rfl (lv_at hl 0 rfl) ?_
  refine lv_iload_n hx hb dX8_unitsOf_1 rfl (lv_at hl 1 rfl) ?_
  obtain ⟨r2, hc1, hf⟩ := bnr_some hf
  refine bk_all hB (fun h1 h2 h3 => bk_runV X (Av := [.int p1]) (rest := []) (mX8_requireFlour hc1) yv_X8_requireFlour wm_920 ⟨Nat.le_of_ble_eq_true rfl, Nat.le_of_ble_eq_true rfl⟩ rfl rfl hl.1 kl_X8.1 (hB.1.obj lc_X_0) h1 h2 h3 (Nat.le_of_ble_eq_true rfl) ⟨Nat.le_of_ble_eq_true rfl, Nat.le_of_ble_eq_true rfl⟩ dX8_unitsOf_2) (fun H locs hB => ?_)
  refine W.eq (g2 := F0 m 5 ls []) rfl ?_
  refine lv_aload_n hx hb dX8_unitsOf_5 rfl (lv_at hl 0 rfl) ?_
  obtain ⟨h3, hf⟩ := ck_some hf
  refine bk_getS X hB kl_X8 0 lc_X_0 0 (by decide) rfl h3 wm_654 dX8_unitsOf_6 ?_
  obtain ⟨i4, ei4⟩ : ∃ y : Nat, y = (v 0).toNatClampNeg := ⟨_, rfl⟩
  have hf := nm_use hf ei4
  rw [← ei4]
  have hi4 : i4 < 12 := by rw [ei4]; exact vp_lt h3
  refine bk_getR X hB kl_X6 (stC i4 + 0) ((subX_St _ hi4).at lc_St_0) 6 (by decide) rfl wm_233 dX8_unitsOf_9 ?_
  refine lv_iload_n hx hb dX8_unitsOf_12 rfl (lv_at hl 1 rfl) ?_
  obtain ⟨r6, hc5, hf⟩ := bnr_some hf
  refine bk_subR (subX_St_1 _ hi4) hB (fun h1 h2 h3 => bk_runV X (Av := [.int p1]) (rest := []) (mX2_stock hc5) yv_X2_stock wm_1004 ⟨Nat.le_of_ble_eq_true rfl, Nat.le_of_ble_eq_true rfl⟩ rfl rfl hl.1 kl_X2.1 (hB.1.obj ((subX_St _ hi4).at lc_St_1)) h1 h2 h3 (Nat.le_of_ble_eq_true rfl) ⟨Nat.le_of_ble_eq_true rfl, Nat.le_of_ble_eq_true rfl⟩ dX8_unitsOf_13) (fun H locs hB => ?_)
  refine W.eq (g2 := F0 m 16 ls [.int r6]) rfl ?_
  exact bk_iR X hr rfl hf hB (Nat.le_of_ble_eq_true rfl) (Nat.le_of_ble_eq_true rfl) dX8_unitsOf_16
theorem yv_X8_unitsOf : bYv yX8_unitsOf RX8 cX8_unitsOf 2 (some .int) 1 := ⟨⟨rfl, by decide, by decide, rfl⟩, wm_1001, wm_1002, wm_1, wm_1003⟩

def xX8_unitsOf (p1 : Int32) (v : bM) : Option Nat :=
  xr (xX8_requireFlour p1 v) <| bnr (fX8_requireFlour p1 v) fun r2 => none
set_option maxRecDepth 100000 in
set_option maxHeartbeats 4000000 in
theorem mxX8_unitsOf {l : Launch} (hlt : l.stackTraces = false) {p1 : Int32} {v : bM} {r0 : Nat} (hf : xX8_unitsOf p1 v = some r0) : bMetX l yX8_unitsOf cX8_unitsOf 2 (some .int) 8 1 6 LX (fun E a => [.ref a, .int p1]) v r0 := by
  refine bk_startX (by decide +kernel) wfX (fun _ _ => Nat.le_of_ble_eq_true rfl) ?_
  intro p e s m args below meth c D E a ls H locs X hr hxt hl hB
  have hx := X.1
  have hb := X.2.1
  have hown := X.2.2.2.1
  have hts := X.2.2.2.2.1
  have hl : lv_has ls 2 [(0, .ref a), (1, .int p1)] := hl
  have hf := (xX8_unitsOf.eq_1 p1 v).symm.trans hf
  refine lv_aload_n hx hb dX8_unitsOf_0 rfl (lv_at hl 0 rfl) ?_
  refine lv_iload_n hx hb dX8_unitsOf_1 rfl (lv_at hl 1 rfl) ?_
  refine xr_cases hf (fun hX => ?_) (fun hf => ?_)
  · exact bk_allX hxt X hB (fun h1 h2 h3 => bk_runVX X (Av := [.int p1]) (rest := []) (mxX8_requireFlour hlt hX) yv_X8_requireFlour wm_920 ⟨Nat.le_of_ble_eq_true rfl, Nat.le_of_ble_eq_true rfl⟩ rfl rfl hl.1 kl_X8.1 (hB.1.obj lc_X_0) h1 h2 h3 (Nat.le_of_ble_eq_true rfl) ⟨Nat.le_of_ble_eq_true rfl, Nat.le_of_ble_eq_true rfl⟩ dX8_unitsOf_2)
  obtain ⟨r2, hc1, hf⟩ := bnr_some hf
  refine bk_all hB (fun h1 h2 h3 => bk_runV X (Av := [.int p1]) (rest := []) (mX8_requireFlour hc1) yv_X8_requireFlour wm_920 ⟨Nat.le_of_ble_eq_true rfl, Nat.le_of_ble_eq_true rfl⟩ rfl rfl hl.1 kl_X8.1 (hB.1.obj lc_X_0) h1 h2 h3 (Nat.le_of_ble_eq_true rfl) ⟨Nat.le_of_ble_eq_true rfl, Nat.le_of_ble_eq_true rfl⟩ dX8_unitsOf_2) (fun H locs hB => ?_)
  refine W.eq (g2 := F0 m 5 ls []) rfl ?_
  cases hf

theorem dX8_lotsOf_0 : decode cX8_lotsOf 0 = .ok (.aload_n 0, 1) := by decide +kernel
theorem dX8_lotsOf_1 : decode cX8_lotsOf 1 = .ok (.iload_n 1, 1) := by decide +kernel
theorem dX8_lotsOf_2 : decode cX8_lotsOf 2 = .ok (.invokevirtual 132, 3) := by decide +kernel
theorem dX8_lotsOf_5 : decode cX8_lotsOf 5 = .ok (.aload_n 0, 1) := by decide +kernel
theorem dX8_lotsOf_6 : decode cX8_lotsOf 6 = .ok (.getfield 10, 3) := by decide +kernel
theorem dX8_lotsOf_9 : decode cX8_lotsOf 9 = .ok (.getfield 125, 3) := by decide +kernel
theorem dX8_lotsOf_12 : decode cX8_lotsOf 12 = .ok (.getfield 142, 3) := by decide +kernel
theorem dX8_lotsOf_15 : decode cX8_lotsOf 15 = .ok (.iload_n 1, 1) := by decide +kernel
theorem dX8_lotsOf_16 : decode cX8_lotsOf 16 = .ok (.iaload, 1) := by decide +kernel
theorem dX8_lotsOf_17 : decode cX8_lotsOf 17 = .ok (.ireturn, 1) := by decide +kernel
def fX8_lotsOf (p1 : Int32) (v : bM) : Option Int32 :=
  bnr (fX8_requireFlour p1 v) fun r2 => ck (v 0) 12 <| nm (v 0).toNatClampNeg fun i4 => ck p1 6 <| some (v (stO i4 + 13 + p1.toNatClampNeg))
set_option maxRecDepth 100000 in
set_option maxHeartbeats 4000000 in
theorem mX8_lotsOf {l : Launch} {p1 : Int32} {v : bM} {r0 : Int32} (hf : fX8_lotsOf p1 v = some r0) : bMet l yX8_lotsOf cX8_lotsOf 2 (some .int) 2 0 0 LX (fun E a => [.ref a, .int p1]) v v (fun _ => some (.int r0)) := by
  refine bk_start (by decide +kernel) wfX (fun _ _ => Nat.le_of_ble_eq_true rfl) ?_
  intro p e s m args below meth c D E a ls H locs X hr hl hB
  have hx := X.1
  have hb := X.2.1
  have hown := X.2.2.2.1
  have hts := X.2.2.2.2.1
  have hl : lv_has ls 2 [(0, .ref a), (1, .int p1)] := hl
  have hf := (fX8_lotsOf.eq_1 p1 v).symm.trans hf
  refine lv_aload_n hx hb dX8_lotsOf_0 rfl (lv_at hl 0 rfl) ?_
  refine lv_iload_n hx hb dX8_lotsOf_1 rfl (lv_at hl 1 rfl) ?_
  obtain ⟨r2, hc1, hf⟩ := bnr_some hf
  refine bk_all hB (fun h1 h2 h3 => bk_runV X (Av := [.int p1]) (rest := []) (mX8_requireFlour hc1) yv_X8_requireFlour wm_920 ⟨Nat.le_of_ble_eq_true rfl, Nat.le_of_ble_eq_true rfl⟩ rfl rfl hl.1 kl_X8.1 (hB.1.obj lc_X_0) h1 h2 h3 (Nat.le_of_ble_eq_true rfl) ⟨Nat.le_of_ble_eq_true rfl, Nat.le_of_ble_eq_true rfl⟩ dX8_lotsOf_2) (fun H locs hB => ?_)
  refine W.eq (g2 := F0 m 5 ls []) rfl ?_
  refine lv_aload_n hx hb dX8_lotsOf_5 rfl (lv_at hl 0 rfl) ?_
  obtain ⟨h3, hf⟩ := ck_some hf
  refine bk_getS X hB kl_X8 0 lc_X_0 0 (by decide) rfl h3 wm_654 dX8_lotsOf_6 ?_
  obtain ⟨i4, ei4⟩ : ∃ y : Nat, y = (v 0).toNatClampNeg := ⟨_, rfl⟩
  have hf := nm_use hf ei4
  rw [← ei4]
  have hi4 : i4 < 12 := by rw [ei4]; exact vp_lt h3
  refine bk_getR X hB kl_X6 (stC i4 + 0) ((subX_St _ hi4).at lc_St_0) 6 (by decide) rfl wm_233 dX8_lotsOf_9 ?_
  refine bk_getR X hB kl_X2 (stC i4 + 1) ((subX_St _ hi4).at lc_St_1) 2 (by decide) rfl wm_63 dX8_lotsOf_12 ?_
  refine lv_iload_n hx hb dX8_lotsOf_15 rfl (lv_at hl 1 rfl) ?_
  obtain ⟨h5, hf⟩ := ck_some hf
  refine bk_ald X hB (stC i4 + 3) ((subX_St _ hi4).at lc_St_3) h5 dX8_lotsOf_16 ?_
  exact bk_iR X hr rfl hf hB (Nat.le_of_ble_eq_true rfl) (Nat.le_of_ble_eq_true rfl) dX8_lotsOf_17
theorem yv_X8_lotsOf : bYv yX8_lotsOf RX8 cX8_lotsOf 2 (some .int) 1 := ⟨⟨rfl, by decide, by decide, rfl⟩, wm_1009, wm_1010, wm_1, wm_1011⟩

def xX8_lotsOf (p1 : Int32) (v : bM) : Option Nat :=
  xr (xX8_requireFlour p1 v) <| bnr (fX8_requireFlour p1 v) fun r2 => none
set_option maxRecDepth 100000 in
set_option maxHeartbeats 4000000 in
theorem mxX8_lotsOf {l : Launch} (hlt : l.stackTraces = false) {p1 : Int32} {v : bM} {r0 : Nat} (hf : xX8_lotsOf p1 v = some r0) : bMetX l yX8_lotsOf cX8_lotsOf 2 (some .int) 8 1 6 LX (fun E a => [.ref a, .int p1]) v r0 := by
  refine bk_startX (by decide +kernel) wfX (fun _ _ => Nat.le_of_ble_eq_true rfl) ?_
  intro p e s m args below meth c D E a ls H locs X hr hxt hl hB
  have hx := X.1
  have hb := X.2.1
  have hown := X.2.2.2.1
  have hts := X.2.2.2.2.1
  have hl : lv_has ls 2 [(0, .ref a), (1, .int p1)] := hl
  have hf := (xX8_lotsOf.eq_1 p1 v).symm.trans hf
  refine lv_aload_n hx hb dX8_lotsOf_0 rfl (lv_at hl 0 rfl) ?_
  refine lv_iload_n hx hb dX8_lotsOf_1 rfl (lv_at hl 1 rfl) ?_
  refine xr_cases hf (fun hX => ?_) (fun hf => ?_)
  · exact bk_allX hxt X hB (fun h1 h2 h3 => bk_runVX X (Av := [.int p1]) (rest := []) (mxX8_requireFlour hlt hX) yv_X8_requireFlour wm_920 ⟨Nat.le_of_ble_eq_true rfl, Nat.le_of_ble_eq_true rfl⟩ rfl rfl hl.1 kl_X8.1 (hB.1.obj lc_X_0) h1 h2 h3 (Nat.le_of_ble_eq_true rfl) ⟨Nat.le_of_ble_eq_true rfl, Nat.le_of_ble_eq_true rfl⟩ dX8_lotsOf_2)
  obtain ⟨r2, hc1, hf⟩ := bnr_some hf
  refine bk_all hB (fun h1 h2 h3 => bk_runV X (Av := [.int p1]) (rest := []) (mX8_requireFlour hc1) yv_X8_requireFlour wm_920 ⟨Nat.le_of_ble_eq_true rfl, Nat.le_of_ble_eq_true rfl⟩ rfl rfl hl.1 kl_X8.1 (hB.1.obj lc_X_0) h1 h2 h3 (Nat.le_of_ble_eq_true rfl) ⟨Nat.le_of_ble_eq_true rfl, Nat.le_of_ble_eq_true rfl⟩ dX8_lotsOf_2) (fun H locs hB => ?_)
  refine W.eq (g2 := F0 m 5 ls []) rfl ?_
  cases hf

theorem dX8_requireLot_0 : decode cX8_requireLot 0 = .ok (.aload_n 0, 1) := by decide +kernel
theorem dX8_requireLot_1 : decode cX8_requireLot 1 = .ok (.iload_n 1, 1) := by decide +kernel
theorem dX8_requireLot_2 : decode cX8_requireLot 2 = .ok (.invokevirtual 132, 3) := by decide +kernel
theorem dX8_requireLot_5 : decode cX8_requireLot 5 = .ok (.iload_n 2, 1) := by decide +kernel
theorem dX8_requireLot_6 : decode cX8_requireLot 6 = .ok (.aload_n 0, 1) := by decide +kernel
theorem dX8_requireLot_7 : decode cX8_requireLot 7 = .ok (.getfield 10, 3) := by decide +kernel
theorem dX8_requireLot_10 : decode cX8_requireLot 10 = .ok (.getfield 125, 3) := by decide +kernel
theorem dX8_requireLot_13 : decode cX8_requireLot 13 = .ok (.getfield 142, 3) := by decide +kernel
theorem dX8_requireLot_16 : decode cX8_requireLot 16 = .ok (.iload_n 1, 1) := by decide +kernel
theorem dX8_requireLot_17 : decode cX8_requireLot 17 = .ok (.iaload, 1) := by decide +kernel
theorem dX8_requireLot_18 : decode cX8_requireLot 18 = .ok (.invokestatic 188, 3) := by decide +kernel
theorem dX8_requireLot_21 : decode cX8_requireLot 21 = .ok (.return_, 1) := by decide +kernel
def fX8_requireLot (p1 : Int32) (p2 : Int32) (v : bM) : Option Unit :=
  bnr (fX8_requireFlour p1 v) fun r2 => ck (v 0) 12 <| nm (v 0).toNatClampNeg fun i4 => ck p1 6 <| bnr (fX8_requireIndex p2 (v (stO i4 + 13 + p1.toNatClampNeg))) fun r7 => some ()
set_option maxRecDepth 100000 in
set_option maxHeartbeats 4000000 in
theorem mX8_requireLot {l : Launch} {p1 : Int32} {p2 : Int32} {v : bM} (hf : fX8_requireLot p1 p2 v = some ()) : bMet l yX8_requireLot cX8_requireLot 3 none 2 0 0 LX (fun E a => [.ref a, .int p1, .int p2]) v v (fun _ => none) := by
  refine bk_start (by decide +kernel) wfX (fun _ _ => Nat.le_of_ble_eq_true rfl) ?_
  intro p e s m args below meth c D E a ls H locs X hr hl hB
  have hx := X.1
  have hb := X.2.1
  have hown := X.2.2.2.1
  have hts := X.2.2.2.2.1
  have hl : lv_has ls 3 [(0, .ref a), (1, .int p1), (2, .int p2)] := hl
  have hf := (fX8_requireLot.eq_1 p1 p2 v).symm.trans hf
  refine lv_aload_n hx hb dX8_requireLot_0 rfl (lv_at hl 0 rfl) ?_
  refine lv_iload_n hx hb dX8_requireLot_1 rfl (lv_at hl 1 rfl) ?_
  obtain ⟨r2, hc1, hf⟩ := bnr_some hf
  refine bk_all hB (fun h1 h2 h3 => bk_runV X (Av := [.int p1]) (rest := []) (mX8_requireFlour hc1) yv_X8_requireFlour wm_920 ⟨Nat.le_of_ble_eq_true rfl, Nat.le_of_ble_eq_true rfl⟩ rfl rfl hl.1 kl_X8.1 (hB.1.obj lc_X_0) h1 h2 h3 (Nat.le_of_ble_eq_true rfl) ⟨Nat.le_of_ble_eq_true rfl, Nat.le_of_ble_eq_true rfl⟩ dX8_requireLot_2) (fun H locs hB => ?_)
  refine W.eq (g2 := F0 m 5 ls []) rfl ?_
  refine lv_iload_n hx hb dX8_requireLot_5 rfl (lv_at hl 2 rfl) ?_
  refine lv_aload_n hx hb dX8_requireLot_6 rfl (lv_at hl 0 rfl) ?_
  obtain ⟨h3, hf⟩ := ck_some hf
  refine bk_getS X hB kl_X8 0 lc_X_0 0 (by decide) rfl h3 wm_654 dX8_requireLot_7 ?_
  obtain ⟨i4, ei4⟩ : ∃ y : Nat, y = (v 0).toNatClampNeg := ⟨_, rfl⟩
  have hf := nm_use hf ei4
  rw [← ei4]
  have hi4 : i4 < 12 := by rw [ei4]; exact vp_lt h3
  refine bk_getR X hB kl_X6 (stC i4 + 0) ((subX_St _ hi4).at lc_St_0) 6 (by decide) rfl wm_233 dX8_requireLot_10 ?_
  refine bk_getR X hB kl_X2 (stC i4 + 1) ((subX_St _ hi4).at lc_St_1) 2 (by decide) rfl wm_63 dX8_requireLot_13 ?_
  refine lv_iload_n hx hb dX8_requireLot_16 rfl (lv_at hl 1 rfl) ?_
  obtain ⟨h5, hf⟩ := ck_some hf
  refine bk_ald X hB (stC i4 + 3) ((subX_St _ hi4).at lc_St_3) h5 dX8_requireLot_17 ?_
  obtain ⟨r7, hc6, hf⟩ := bnr_some hf
  refine bk_non (v0 := v) (w0 := v) hB (fun h1 h2 h3 => bk_runS X (Av := [.int p2, .int (v (stO i4 + 13 + p1.toNatClampNeg))]) (rest := []) (mX8_requireIndex hc6) ys_X8_requireIndex wm_924 ⟨Nat.le_of_ble_eq_true rfl, Nat.le_of_ble_eq_true rfl⟩ rfl rfl hl.1 h1 h2 h3 (Nat.le_of_ble_eq_true rfl) ⟨Nat.le_of_ble_eq_true rfl, Nat.le_of_ble_eq_true rfl⟩ dX8_requireLot_18) (fun H locs hB => ?_)
  refine W.eq (g2 := F0 m 21 ls []) rfl ?_
  exact bk_vret X hr rfl hB (Nat.le_of_ble_eq_true rfl) (Nat.le_of_ble_eq_true rfl) dX8_requireLot_21
theorem yv_X8_requireLot : bYv yX8_requireLot RX8 cX8_requireLot 3 none 2 := ⟨⟨rfl, by decide, by decide, rfl⟩, wm_1021, wp_20, wm_1, wm_1022⟩

def xX8_requireLot (p1 : Int32) (p2 : Int32) (v : bM) : Option Nat :=
  xr (xX8_requireFlour p1 v) <| bnr (fX8_requireFlour p1 v) fun r2 => ck (v 0) 12 <| nm (v 0).toNatClampNeg fun i4 => ck p1 6 <| xr (xX8_requireIndex p2 (v (stO i4 + 13 + p1.toNatClampNeg))) <| bnr (fX8_requireIndex p2 (v (stO i4 + 13 + p1.toNatClampNeg))) fun r7 => none
set_option maxRecDepth 100000 in
set_option maxHeartbeats 4000000 in
theorem mxX8_requireLot {l : Launch} (hlt : l.stackTraces = false) {p1 : Int32} {p2 : Int32} {v : bM} {r0 : Nat} (hf : xX8_requireLot p1 p2 v = some r0) : bMetX l yX8_requireLot cX8_requireLot 3 none 8 1 6 LX (fun E a => [.ref a, .int p1, .int p2]) v r0 := by
  refine bk_startX (by decide +kernel) wfX (fun _ _ => Nat.le_of_ble_eq_true rfl) ?_
  intro p e s m args below meth c D E a ls H locs X hr hxt hl hB
  have hx := X.1
  have hb := X.2.1
  have hown := X.2.2.2.1
  have hts := X.2.2.2.2.1
  have hl : lv_has ls 3 [(0, .ref a), (1, .int p1), (2, .int p2)] := hl
  have hf := (xX8_requireLot.eq_1 p1 p2 v).symm.trans hf
  refine lv_aload_n hx hb dX8_requireLot_0 rfl (lv_at hl 0 rfl) ?_
  refine lv_iload_n hx hb dX8_requireLot_1 rfl (lv_at hl 1 rfl) ?_
  refine xr_cases hf (fun hX => ?_) (fun hf => ?_)
  · exact bk_allX hxt X hB (fun h1 h2 h3 => bk_runVX X (Av := [.int p1]) (rest := []) (mxX8_requireFlour hlt hX) yv_X8_requireFlour wm_920 ⟨Nat.le_of_ble_eq_true rfl, Nat.le_of_ble_eq_true rfl⟩ rfl rfl hl.1 kl_X8.1 (hB.1.obj lc_X_0) h1 h2 h3 (Nat.le_of_ble_eq_true rfl) ⟨Nat.le_of_ble_eq_true rfl, Nat.le_of_ble_eq_true rfl⟩ dX8_requireLot_2)
  obtain ⟨r2, hc1, hf⟩ := bnr_some hf
  refine bk_all hB (fun h1 h2 h3 => bk_runV X (Av := [.int p1]) (rest := []) (mX8_requireFlour hc1) yv_X8_requireFlour wm_920 ⟨Nat.le_of_ble_eq_true rfl, Nat.le_of_ble_eq_true rfl⟩ rfl rfl hl.1 kl_X8.1 (hB.1.obj lc_X_0) h1 h2 h3 (Nat.le_of_ble_eq_true rfl) ⟨Nat.le_of_ble_eq_true rfl, Nat.le_of_ble_eq_true rfl⟩ dX8_requireLot_2) (fun H locs hB => ?_)
  refine W.eq (g2 := F0 m 5 ls []) rfl ?_
  refine lv_iload_n hx hb dX8_requireLot_5 rfl (lv_at hl 2 rfl) ?_
  refine lv_aload_n hx hb dX8_requireLot_6 rfl (lv_at hl 0 rfl) ?_
  obtain ⟨h3, hf⟩ := ck_some hf
  refine bk_getS X hB kl_X8 0 lc_X_0 0 (by decide) rfl h3 wm_654 dX8_requireLot_7 ?_
  obtain ⟨i4, ei4⟩ : ∃ y : Nat, y = (v 0).toNatClampNeg := ⟨_, rfl⟩
  have hf := nm_use hf ei4
  rw [← ei4]
  have hi4 : i4 < 12 := by rw [ei4]; exact vp_lt h3
  refine bk_getR X hB kl_X6 (stC i4 + 0) ((subX_St _ hi4).at lc_St_0) 6 (by decide) rfl wm_233 dX8_requireLot_10 ?_
  refine bk_getR X hB kl_X2 (stC i4 + 1) ((subX_St _ hi4).at lc_St_1) 2 (by decide) rfl wm_63 dX8_requireLot_13 ?_
  refine lv_iload_n hx hb dX8_requireLot_16 rfl (lv_at hl 1 rfl) ?_
  obtain ⟨h5, hf⟩ := ck_some hf
  refine bk_ald X hB (stC i4 + 3) ((subX_St _ hi4).at lc_St_3) h5 dX8_requireLot_17 ?_
  refine xr_cases hf (fun hX => ?_) (fun hf => ?_)
  · exact bk_nonX (v0 := v) hxt X hB (fun h1 h2 h3 => bk_runSX X (Av := [.int p2, .int (v (stO i4 + 13 + p1.toNatClampNeg))]) (rest := []) (mxX8_requireIndex hlt hX) ys_X8_requireIndex wm_924 ⟨Nat.le_of_ble_eq_true rfl, Nat.le_of_ble_eq_true rfl⟩ rfl rfl hl.1 h1 h2 h3 (Nat.le_of_ble_eq_true rfl) ⟨Nat.le_of_ble_eq_true rfl, Nat.le_of_ble_eq_true rfl⟩ dX8_requireLot_18)
  obtain ⟨r7, hc6, hf⟩ := bnr_some hf
  refine bk_non (v0 := v) (w0 := v) hB (fun h1 h2 h3 => bk_runS X (Av := [.int p2, .int (v (stO i4 + 13 + p1.toNatClampNeg))]) (rest := []) (mX8_requireIndex hc6) ys_X8_requireIndex wm_924 ⟨Nat.le_of_ble_eq_true rfl, Nat.le_of_ble_eq_true rfl⟩ rfl rfl hl.1 h1 h2 h3 (Nat.le_of_ble_eq_true rfl) ⟨Nat.le_of_ble_eq_true rfl, Nat.le_of_ble_eq_true rfl⟩ dX8_requireLot_18) (fun H locs hB => ?_)
  refine W.eq (g2 := F0 m 21 ls []) rfl ?_
  cases hf

theorem dX8_lotUnits_0 : decode cX8_lotUnits 0 = .ok (.aload_n 0, 1) := by decide +kernel
theorem dX8_lotUnits_1 : decode cX8_lotUnits 1 = .ok (.iload_n 1, 1) := by decide +kernel
theorem dX8_lotUnits_2 : decode cX8_lotUnits 2 = .ok (.iload_n 2, 1) := by decide +kernel
theorem dX8_lotUnits_3 : decode cX8_lotUnits 3 = .ok (.invokevirtual 145, 3) := by decide +kernel
theorem dX8_lotUnits_6 : decode cX8_lotUnits 6 = .ok (.aload_n 0, 1) := by decide +kernel
theorem dX8_lotUnits_7 : decode cX8_lotUnits 7 = .ok (.getfield 10, 3) := by decide +kernel
theorem dX8_lotUnits_10 : decode cX8_lotUnits 10 = .ok (.getfield 125, 3) := by decide +kernel
theorem dX8_lotUnits_13 : decode cX8_lotUnits 13 = .ok (.getfield 149, 3) := by decide +kernel
theorem dX8_lotUnits_16 : decode cX8_lotUnits 16 = .ok (.iload_n 1, 1) := by decide +kernel
theorem dX8_lotUnits_17 : decode cX8_lotUnits 17 = .ok (.aaload, 1) := by decide +kernel
theorem dX8_lotUnits_18 : decode cX8_lotUnits 18 = .ok (.iload_n 2, 1) := by decide +kernel
theorem dX8_lotUnits_19 : decode cX8_lotUnits 19 = .ok (.iaload, 1) := by decide +kernel
theorem dX8_lotUnits_20 : decode cX8_lotUnits 20 = .ok (.ireturn, 1) := by decide +kernel
def fX8_lotUnits (p1 : Int32) (p2 : Int32) (v : bM) : Option Int32 :=
  bnr (fX8_requireLot p1 p2 v) fun r2 => ck (v 0) 12 <| nm (v 0).toNatClampNeg fun i4 => ck p1 6 <| ck p2 12 <| some (v (stO i4 + (19 + 12 * p1.toNatClampNeg) + p2.toNatClampNeg))
set_option maxRecDepth 100000 in
set_option maxHeartbeats 4000000 in
theorem mX8_lotUnits {l : Launch} {p1 : Int32} {p2 : Int32} {v : bM} {r0 : Int32} (hf : fX8_lotUnits p1 p2 v = some r0) : bMet l yX8_lotUnits cX8_lotUnits 3 (some .int) 3 0 0 LX (fun E a => [.ref a, .int p1, .int p2]) v v (fun _ => some (.int r0)) := by
  refine bk_start (by decide +kernel) wfX (fun _ _ => Nat.le_of_ble_eq_true rfl) ?_
  intro p e s m args below meth c D E a ls H locs X hr hl hB
  have hx := X.1
  have hb := X.2.1
  have hown := X.2.2.2.1
  have hts := X.2.2.2.2.1
  have hl : lv_has ls 3 [(0, .ref a), (1, .int p1), (2, .int p2)] := hl
  have hf := (fX8_lotUnits.eq_1 p1 p2 v).symm.trans hf
  refine lv_aload_n hx hb dX8_lotUnits_0 rfl (lv_at hl 0 rfl) ?_
  refine lv_iload_n hx hb dX8_lotUnits_1 rfl (lv_at hl 1 rfl) ?_
  refine lv_iload_n hx hb dX8_lotUnits_2 rfl (lv_at hl 2 rfl) ?_
  obtain ⟨r2, hc1, hf⟩ := bnr_some hf
  refine bk_all hB (fun h1 h2 h3 => bk_runV X (Av := [.int p1, .int p2]) (rest := []) (mX8_requireLot hc1) yv_X8_requireLot wm_1019 ⟨Nat.le_of_ble_eq_true rfl, Nat.le_of_ble_eq_true rfl⟩ rfl rfl hl.1 kl_X8.1 (hB.1.obj lc_X_0) h1 h2 h3 (Nat.le_of_ble_eq_true rfl) ⟨Nat.le_of_ble_eq_true rfl, Nat.le_of_ble_eq_true rfl⟩ dX8_lotUnits_3) (fun H locs hB => ?_)
  refine W.eq (g2 := F0 m 6 ls []) rfl ?_
  refine lv_aload_n hx hb dX8_lotUnits_6 rfl (lv_at hl 0 rfl) ?_
  obtain ⟨h3, hf⟩ := ck_some hf
  refine bk_getS X hB kl_X8 0 lc_X_0 0 (by decide) rfl h3 wm_654 dX8_lotUnits_7 ?_
  obtain ⟨i4, ei4⟩ : ∃ y : Nat, y = (v 0).toNatClampNeg := ⟨_, rfl⟩
  have hf := nm_use hf ei4
  rw [← ei4]
  have hi4 : i4 < 12 := by rw [ei4]; exact vp_lt h3
  refine bk_getR X hB kl_X6 (stC i4 + 0) ((subX_St _ hi4).at lc_St_0) 6 (by decide) rfl wm_233 dX8_lotUnits_10 ?_
  refine bk_getR X hB kl_X2 (stC i4 + 1) ((subX_St _ hi4).at lc_St_1) 3 (by decide) rfl wm_65 dX8_lotUnits_13 ?_
  refine lv_iload_n hx hb dX8_lotUnits_16 rfl (lv_at hl 1 rfl) ?_
  obtain ⟨h5, hf⟩ := ck_some hf
  refine bk_rld X hB (stC i4 + 4) ((subX_St _ hi4).at lc_St_4) h5 dX8_lotUnits_17 ?_
  refine lv_iload_n hx hb dX8_lotUnits_18 rfl (lv_at hl 2 rfl) ?_
  obtain ⟨h6, hf⟩ := ck_some hf
  refine bk_ald X hB (stC i4 + 5 + 1 * p1.toNatClampNeg) (lrX (subX_St _ hi4) (lr_St_4 _ (vp_lt h5))) h6 dX8_lotUnits_19 ?_
  exact bk_iR X hr rfl hf hB (Nat.le_of_ble_eq_true rfl) (Nat.le_of_ble_eq_true rfl) dX8_lotUnits_20
theorem yv_X8_lotUnits : bYv yX8_lotUnits RX8 cX8_lotUnits 3 (some .int) 2 := ⟨⟨rfl, by decide, by decide, rfl⟩, wm_1016, wm_1017, wm_1, wm_1018⟩

def xX8_lotUnits (p1 : Int32) (p2 : Int32) (v : bM) : Option Nat :=
  xr (xX8_requireLot p1 p2 v) <| bnr (fX8_requireLot p1 p2 v) fun r2 => none
set_option maxRecDepth 100000 in
set_option maxHeartbeats 4000000 in
theorem mxX8_lotUnits {l : Launch} (hlt : l.stackTraces = false) {p1 : Int32} {p2 : Int32} {v : bM} {r0 : Nat} (hf : xX8_lotUnits p1 p2 v = some r0) : bMetX l yX8_lotUnits cX8_lotUnits 3 (some .int) 9 1 6 LX (fun E a => [.ref a, .int p1, .int p2]) v r0 := by
  refine bk_startX (by decide +kernel) wfX (fun _ _ => Nat.le_of_ble_eq_true rfl) ?_
  intro p e s m args below meth c D E a ls H locs X hr hxt hl hB
  have hx := X.1
  have hb := X.2.1
  have hown := X.2.2.2.1
  have hts := X.2.2.2.2.1
  have hl : lv_has ls 3 [(0, .ref a), (1, .int p1), (2, .int p2)] := hl
  have hf := (xX8_lotUnits.eq_1 p1 p2 v).symm.trans hf
  refine lv_aload_n hx hb dX8_lotUnits_0 rfl (lv_at hl 0 rfl) ?_
  refine lv_iload_n hx hb dX8_lotUnits_1 rfl (lv_at hl 1 rfl) ?_
  refine lv_iload_n hx hb dX8_lotUnits_2 rfl (lv_at hl 2 rfl) ?_
  refine xr_cases hf (fun hX => ?_) (fun hf => ?_)
  · exact bk_allX hxt X hB (fun h1 h2 h3 => bk_runVX X (Av := [.int p1, .int p2]) (rest := []) (mxX8_requireLot hlt hX) yv_X8_requireLot wm_1019 ⟨Nat.le_of_ble_eq_true rfl, Nat.le_of_ble_eq_true rfl⟩ rfl rfl hl.1 kl_X8.1 (hB.1.obj lc_X_0) h1 h2 h3 (Nat.le_of_ble_eq_true rfl) ⟨Nat.le_of_ble_eq_true rfl, Nat.le_of_ble_eq_true rfl⟩ dX8_lotUnits_3)
  obtain ⟨r2, hc1, hf⟩ := bnr_some hf
  refine bk_all hB (fun h1 h2 h3 => bk_runV X (Av := [.int p1, .int p2]) (rest := []) (mX8_requireLot hc1) yv_X8_requireLot wm_1019 ⟨Nat.le_of_ble_eq_true rfl, Nat.le_of_ble_eq_true rfl⟩ rfl rfl hl.1 kl_X8.1 (hB.1.obj lc_X_0) h1 h2 h3 (Nat.le_of_ble_eq_true rfl) ⟨Nat.le_of_ble_eq_true rfl, Nat.le_of_ble_eq_true rfl⟩ dX8_lotUnits_3) (fun H locs hB => ?_)
  refine W.eq (g2 := F0 m 6 ls []) rfl ?_
  cases hf

theorem dX8_lotPrice_0 : decode cX8_lotPrice 0 = .ok (.aload_n 0, 1) := by decide +kernel
theorem dX8_lotPrice_1 : decode cX8_lotPrice 1 = .ok (.iload_n 1, 1) := by decide +kernel
theorem dX8_lotPrice_2 : decode cX8_lotPrice 2 = .ok (.iload_n 2, 1) := by decide +kernel
theorem dX8_lotPrice_3 : decode cX8_lotPrice 3 = .ok (.invokevirtual 145, 3) := by decide +kernel
theorem dX8_lotPrice_6 : decode cX8_lotPrice 6 = .ok (.aload_n 0, 1) := by decide +kernel
theorem dX8_lotPrice_7 : decode cX8_lotPrice 7 = .ok (.getfield 10, 3) := by decide +kernel
theorem dX8_lotPrice_10 : decode cX8_lotPrice 10 = .ok (.getfield 125, 3) := by decide +kernel
theorem dX8_lotPrice_13 : decode cX8_lotPrice 13 = .ok (.getfield 153, 3) := by decide +kernel
theorem dX8_lotPrice_16 : decode cX8_lotPrice 16 = .ok (.iload_n 1, 1) := by decide +kernel
theorem dX8_lotPrice_17 : decode cX8_lotPrice 17 = .ok (.aaload, 1) := by decide +kernel
theorem dX8_lotPrice_18 : decode cX8_lotPrice 18 = .ok (.iload_n 2, 1) := by decide +kernel
theorem dX8_lotPrice_19 : decode cX8_lotPrice 19 = .ok (.iaload, 1) := by decide +kernel
theorem dX8_lotPrice_20 : decode cX8_lotPrice 20 = .ok (.ireturn, 1) := by decide +kernel
def fX8_lotPrice (p1 : Int32) (p2 : Int32) (v : bM) : Option Int32 :=
  bnr (fX8_requireLot p1 p2 v) fun r2 => ck (v 0) 12 <| nm (v 0).toNatClampNeg fun i4 => ck p1 6 <| ck p2 12 <| some (v (stO i4 + (91 + 12 * p1.toNatClampNeg) + p2.toNatClampNeg))
set_option maxRecDepth 100000 in
set_option maxHeartbeats 4000000 in
theorem mX8_lotPrice {l : Launch} {p1 : Int32} {p2 : Int32} {v : bM} {r0 : Int32} (hf : fX8_lotPrice p1 p2 v = some r0) : bMet l yX8_lotPrice cX8_lotPrice 3 (some .int) 3 0 0 LX (fun E a => [.ref a, .int p1, .int p2]) v v (fun _ => some (.int r0)) := by
  refine bk_start (by decide +kernel) wfX (fun _ _ => Nat.le_of_ble_eq_true rfl) ?_
  intro p e s m args below meth c D E a ls H locs X hr hl hB
  have hx := X.1
  have hb := X.2.1
  have hown := X.2.2.2.1
  have hts := X.2.2.2.2.1
  have hl : lv_has ls 3 [(0, .ref a), (1, .int p1), (2, .int p2)] := hl
  have hf := (fX8_lotPrice.eq_1 p1 p2 v).symm.trans hf
  refine lv_aload_n hx hb dX8_lotPrice_0 rfl (lv_at hl 0 rfl) ?_
  refine lv_iload_n hx hb dX8_lotPrice_1 rfl (lv_at hl 1 rfl) ?_
  refine lv_iload_n hx hb dX8_lotPrice_2 rfl (lv_at hl 2 rfl) ?_
  obtain ⟨r2, hc1, hf⟩ := bnr_some hf
  refine bk_all hB (fun h1 h2 h3 => bk_runV X (Av := [.int p1, .int p2]) (rest := []) (mX8_requireLot hc1) yv_X8_requireLot wm_1019 ⟨Nat.le_of_ble_eq_true rfl, Nat.le_of_ble_eq_true rfl⟩ rfl rfl hl.1 kl_X8.1 (hB.1.obj lc_X_0) h1 h2 h3 (Nat.le_of_ble_eq_true rfl) ⟨Nat.le_of_ble_eq_true rfl, Nat.le_of_ble_eq_true rfl⟩ dX8_lotPrice_3) (fun H locs hB => ?_)
  refine W.eq (g2 := F0 m 6 ls []) rfl ?_
  refine lv_aload_n hx hb dX8_lotPrice_6 rfl (lv_at hl 0 rfl) ?_
  obtain ⟨h3, hf⟩ := ck_some hf
  refine bk_getS X hB kl_X8 0 lc_X_0 0 (by decide) rfl h3 wm_654 dX8_lotPrice_7 ?_
  obtain ⟨i4, ei4⟩ : ∃ y : Nat, y = (v 0).toNatClampNeg := ⟨_, rfl⟩
  have hf := nm_use hf ei4
  rw [← ei4]
  have hi4 : i4 < 12 := by rw [ei4]; exact vp_lt h3
  refine bk_getR X hB kl_X6 (stC i4 + 0) ((subX_St _ hi4).at lc_St_0) 6 (by decide) rfl wm_233 dX8_lotPrice_10 ?_
  refine bk_getR X hB kl_X2 (stC i4 + 1) ((subX_St _ hi4).at lc_St_1) 4 (by decide) rfl wm_67 dX8_lotPrice_13 ?_
  refine lv_iload_n hx hb dX8_lotPrice_16 rfl (lv_at hl 1 rfl) ?_
  obtain ⟨h5, hf⟩ := ck_some hf
  refine bk_rld X hB (stC i4 + 11) ((subX_St _ hi4).at lc_St_11) h5 dX8_lotPrice_17 ?_
  refine lv_iload_n hx hb dX8_lotPrice_18 rfl (lv_at hl 2 rfl) ?_
  obtain ⟨h6, hf⟩ := ck_some hf
  refine bk_ald X hB (stC i4 + 12 + 1 * p1.toNatClampNeg) (lrX (subX_St _ hi4) (lr_St_11 _ (vp_lt h5))) h6 dX8_lotPrice_19 ?_
  exact bk_iR X hr rfl hf hB (Nat.le_of_ble_eq_true rfl) (Nat.le_of_ble_eq_true rfl) dX8_lotPrice_20
theorem yv_X8_lotPrice : bYv yX8_lotPrice RX8 cX8_lotPrice 3 (some .int) 2 := ⟨⟨rfl, by decide, by decide, rfl⟩, wm_1027, wm_1028, wm_1, wm_1029⟩

def xX8_lotPrice (p1 : Int32) (p2 : Int32) (v : bM) : Option Nat :=
  xr (xX8_requireLot p1 p2 v) <| bnr (fX8_requireLot p1 p2 v) fun r2 => none
set_option maxRecDepth 100000 in
set_option maxHeartbeats 4000000 in
theorem mxX8_lotPrice {l : Launch} (hlt : l.stackTraces = false) {p1 : Int32} {p2 : Int32} {v : bM} {r0 : Nat} (hf : xX8_lotPrice p1 p2 v = some r0) : bMetX l yX8_lotPrice cX8_lotPrice 3 (some .int) 9 1 6 LX (fun E a => [.ref a, .int p1, .int p2]) v r0 := by
  refine bk_startX (by decide +kernel) wfX (fun _ _ => Nat.le_of_ble_eq_true rfl) ?_
  intro p e s m args below meth c D E a ls H locs X hr hxt hl hB
  have hx := X.1
  have hb := X.2.1
  have hown := X.2.2.2.1
  have hts := X.2.2.2.2.1
  have hl : lv_has ls 3 [(0, .ref a), (1, .int p1), (2, .int p2)] := hl
  have hf := (xX8_lotPrice.eq_1 p1 p2 v).symm.trans hf
  refine lv_aload_n hx hb dX8_lotPrice_0 rfl (lv_at hl 0 rfl) ?_
  refine lv_iload_n hx hb dX8_lotPrice_1 rfl (lv_at hl 1 rfl) ?_
  refine lv_iload_n hx hb dX8_lotPrice_2 rfl (lv_at hl 2 rfl) ?_
  refine xr_cases hf (fun hX => ?_) (fun hf => ?_)
  · exact bk_allX hxt X hB (fun h1 h2 h3 => bk_runVX X (Av := [.int p1, .int p2]) (rest := []) (mxX8_requireLot hlt hX) yv_X8_requireLot wm_1019 ⟨Nat.le_of_ble_eq_true rfl, Nat.le_of_ble_eq_true rfl⟩ rfl rfl hl.1 kl_X8.1 (hB.1.obj lc_X_0) h1 h2 h3 (Nat.le_of_ble_eq_true rfl) ⟨Nat.le_of_ble_eq_true rfl, Nat.le_of_ble_eq_true rfl⟩ dX8_lotPrice_3)
  obtain ⟨r2, hc1, hf⟩ := bnr_some hf
  refine bk_all hB (fun h1 h2 h3 => bk_runV X (Av := [.int p1, .int p2]) (rest := []) (mX8_requireLot hc1) yv_X8_requireLot wm_1019 ⟨Nat.le_of_ble_eq_true rfl, Nat.le_of_ble_eq_true rfl⟩ rfl rfl hl.1 kl_X8.1 (hB.1.obj lc_X_0) h1 h2 h3 (Nat.le_of_ble_eq_true rfl) ⟨Nat.le_of_ble_eq_true rfl, Nat.le_of_ble_eq_true rfl⟩ dX8_lotPrice_3) (fun H locs hB => ?_)
  refine W.eq (g2 := F0 m 6 ls []) rfl ?_
  cases hf

theorem dX8_breadCount_0 : decode cX8_breadCount 0 = .ok (.aload_n 0, 1) := by decide +kernel
theorem dX8_breadCount_1 : decode cX8_breadCount 1 = .ok (.getfield 10, 3) := by decide +kernel
theorem dX8_breadCount_4 : decode cX8_breadCount 4 = .ok (.getfield 156, 3) := by decide +kernel
theorem dX8_breadCount_7 : decode cX8_breadCount 7 = .ok (.getfield 160, 3) := by decide +kernel
theorem dX8_breadCount_10 : decode cX8_breadCount 10 = .ok (.ireturn, 1) := by decide +kernel
def fX8_breadCount  (v : bM) : Option Int32 :=
  ck (v 0) 12 <| nm (v 0).toNatClampNeg fun i2 => some (v (stO i2 + 175))
set_option maxRecDepth 100000 in
set_option maxHeartbeats 4000000 in
theorem mX8_breadCount {l : Launch}  {v : bM} {r0 : Int32} (hf : fX8_breadCount  v = some r0) : bMet l yX8_breadCount cX8_breadCount 1 (some .int) 0 0 0 LX (fun E a => [.ref a]) v v (fun _ => some (.int r0)) := by
  refine bk_start (by decide +kernel) wfX (fun _ _ => Nat.le_of_ble_eq_true rfl) ?_
  intro p e s m args below meth c D E a ls H locs X hr hl hB
  have hx := X.1
  have hb := X.2.1
  have hown := X.2.2.2.1
  have hts := X.2.2.2.2.1
  have hl : lv_has ls 1 [(0, .ref a)] := hl
  have hf := (fX8_breadCount.eq_1  v).symm.trans hf
  refine lv_aload_n hx hb dX8_breadCount_0 rfl (lv_at hl 0 rfl) ?_
  obtain ⟨h1, hf⟩ := ck_some hf
  refine bk_getS X hB kl_X8 0 lc_X_0 0 (by decide) rfl h1 wm_654 dX8_breadCount_1 ?_
  obtain ⟨i2, ei2⟩ : ∃ y : Nat, y = (v 0).toNatClampNeg := ⟨_, rfl⟩
  have hf := nm_use hf ei2
  rw [← ei2]
  have hi2 : i2 < 12 := by rw [ei2]; exact vp_lt h1
  refine bk_getR X hB kl_X6 (stC i2 + 0) ((subX_St _ hi2).at lc_St_0) 7 (by decide) rfl wm_236 dX8_breadCount_4 ?_
  refine bk_getI X hB kl_X1 (stC i2 + 20) ((subX_St _ hi2).at lc_St_20) 0 (by decide) rfl wm_100 dX8_breadCount_7 ?_
  exact bk_iR X hr rfl hf hB (Nat.le_of_ble_eq_true rfl) (Nat.le_of_ble_eq_true rfl) dX8_breadCount_10
theorem yv_X8_breadCount : bYv yX8_breadCount RX8 cX8_breadCount 1 (some .int) 0 := ⟨⟨rfl, by decide, by decide, rfl⟩, wm_764, wm_765, wm_1, wm_766⟩

theorem dX8_requireBread_0 : decode cX8_requireBread 0 = .ok (.iload_n 1, 1) := by decide +kernel
theorem dX8_requireBread_1 : decode cX8_requireBread 1 = .ok (.aload_n 0, 1) := by decide +kernel
theorem dX8_requireBread_2 : decode cX8_requireBread 2 = .ok (.getfield 10, 3) := by decide +kernel
theorem dX8_requireBread_5 : decode cX8_requireBread 5 = .ok (.getfield 156, 3) := by decide +kernel
theorem dX8_requireBread_8 : decode cX8_requireBread 8 = .ok (.getfield 160, 3) := by decide +kernel
theorem dX8_requireBread_11 : decode cX8_requireBread 11 = .ok (.invokestatic 188, 3) := by decide +kernel
theorem dX8_requireBread_14 : decode cX8_requireBread 14 = .ok (.return_, 1) := by decide +kernel
def fX8_requireBread (p1 : Int32) (v : bM) : Option Unit :=
  ck (v 0) 12 <| nm (v 0).toNatClampNeg fun i2 => bnr (fX8_requireIndex p1 (v (stO i2 + 175))) fun r4 => some ()
set_option maxRecDepth 100000 in
set_option maxHeartbeats 4000000 in
theorem mX8_requireBread {l : Launch} {p1 : Int32} {v : bM} (hf : fX8_requireBread p1 v = some ()) : bMet l yX8_requireBread cX8_requireBread 2 none 1 0 0 LX (fun E a => [.ref a, .int p1]) v v (fun _ => none) := by
  refine bk_start (by decide +kernel) wfX (fun _ _ => Nat.le_of_ble_eq_true rfl) ?_
  intro p e s m args below meth c D E a ls H locs X hr hl hB
  have hx := X.1
  have hb := X.2.1
  have hown := X.2.2.2.1
  have hts := X.2.2.2.2.1
  have hl : lv_has ls 2 [(0, .ref a), (1, .int p1)] := hl
  have hf := (fX8_requireBread.eq_1 p1 v).symm.trans hf
  refine lv_iload_n hx hb dX8_requireBread_0 rfl (lv_at hl 1 rfl) ?_
  refine lv_aload_n hx hb dX8_requireBread_1 rfl (lv_at hl 0 rfl) ?_
  obtain ⟨h1, hf⟩ := ck_some hf
  refine bk_getS X hB kl_X8 0 lc_X_0 0 (by decide) rfl h1 wm_654 dX8_requireBread_2 ?_
  obtain ⟨i2, ei2⟩ : ∃ y : Nat, y = (v 0).toNatClampNeg := ⟨_, rfl⟩
  have hf := nm_use hf ei2
  rw [← ei2]
  have hi2 : i2 < 12 := by rw [ei2]; exact vp_lt h1
  refine bk_getR X hB kl_X6 (stC i2 + 0) ((subX_St _ hi2).at lc_St_0) 7 (by decide) rfl wm_236 dX8_requireBread_5 ?_
  refine bk_getI X hB kl_X1 (stC i2 + 20) ((subX_St _ hi2).at lc_St_20) 0 (by decide) rfl wm_100 dX8_requireBread_8 ?_
  obtain ⟨r4, hc3, hf⟩ := bnr_some hf
  refine bk_non (v0 := v) (w0 := v) hB (fun h1 h2 h3 => bk_runS X (Av := [.int p1, .int (v (stO i2 + 175))]) (rest := []) (mX8_requireIndex hc3) ys_X8_requireIndex wm_924 ⟨Nat.le_of_ble_eq_true rfl, Nat.le_of_ble_eq_true rfl⟩ rfl rfl hl.1 h1 h2 h3 (Nat.le_of_ble_eq_true rfl) ⟨Nat.le_of_ble_eq_true rfl, Nat.le_of_ble_eq_true rfl⟩ dX8_requireBread_11) (fun H locs hB => ?_)
  refine W.eq (g2 := F0 m 14 ls []) rfl ?_
  exact bk_vret X hr rfl hB (Nat.le_of_ble_eq_true rfl) (Nat.le_of_ble_eq_true rfl) dX8_requireBread_14
theorem yv_X8_requireBread : bYv yX8_requireBread RX8 cX8_requireBread 2 none 1 := ⟨⟨rfl, by decide, by decide, rfl⟩, wm_1039, wp_21, wm_1, wm_1040⟩

def xX8_requireBread (p1 : Int32) (v : bM) : Option Nat :=
  ck (v 0) 12 <| nm (v 0).toNatClampNeg fun i2 => xr (xX8_requireIndex p1 (v (stO i2 + 175))) <| bnr (fX8_requireIndex p1 (v (stO i2 + 175))) fun r4 => none
set_option maxRecDepth 100000 in
set_option maxHeartbeats 4000000 in
theorem mxX8_requireBread {l : Launch} (hlt : l.stackTraces = false) {p1 : Int32} {v : bM} {r0 : Nat} (hf : xX8_requireBread p1 v = some r0) : bMetX l yX8_requireBread cX8_requireBread 2 none 7 1 6 LX (fun E a => [.ref a, .int p1]) v r0 := by
  refine bk_startX (by decide +kernel) wfX (fun _ _ => Nat.le_of_ble_eq_true rfl) ?_
  intro p e s m args below meth c D E a ls H locs X hr hxt hl hB
  have hx := X.1
  have hb := X.2.1
  have hown := X.2.2.2.1
  have hts := X.2.2.2.2.1
  have hl : lv_has ls 2 [(0, .ref a), (1, .int p1)] := hl
  have hf := (xX8_requireBread.eq_1 p1 v).symm.trans hf
  refine lv_iload_n hx hb dX8_requireBread_0 rfl (lv_at hl 1 rfl) ?_
  refine lv_aload_n hx hb dX8_requireBread_1 rfl (lv_at hl 0 rfl) ?_
  obtain ⟨h1, hf⟩ := ck_some hf
  refine bk_getS X hB kl_X8 0 lc_X_0 0 (by decide) rfl h1 wm_654 dX8_requireBread_2 ?_
  obtain ⟨i2, ei2⟩ : ∃ y : Nat, y = (v 0).toNatClampNeg := ⟨_, rfl⟩
  have hf := nm_use hf ei2
  rw [← ei2]
  have hi2 : i2 < 12 := by rw [ei2]; exact vp_lt h1
  refine bk_getR X hB kl_X6 (stC i2 + 0) ((subX_St _ hi2).at lc_St_0) 7 (by decide) rfl wm_236 dX8_requireBread_5 ?_
  refine bk_getI X hB kl_X1 (stC i2 + 20) ((subX_St _ hi2).at lc_St_20) 0 (by decide) rfl wm_100 dX8_requireBread_8 ?_
  refine xr_cases hf (fun hX => ?_) (fun hf => ?_)
  · exact bk_nonX (v0 := v) hxt X hB (fun h1 h2 h3 => bk_runSX X (Av := [.int p1, .int (v (stO i2 + 175))]) (rest := []) (mxX8_requireIndex hlt hX) ys_X8_requireIndex wm_924 ⟨Nat.le_of_ble_eq_true rfl, Nat.le_of_ble_eq_true rfl⟩ rfl rfl hl.1 h1 h2 h3 (Nat.le_of_ble_eq_true rfl) ⟨Nat.le_of_ble_eq_true rfl, Nat.le_of_ble_eq_true rfl⟩ dX8_requireBread_11)
  obtain ⟨r4, hc3, hf⟩ := bnr_some hf
  refine bk_non (v0 := v) (w0 := v) hB (fun h1 h2 h3 => bk_runS X (Av := [.int p1, .int (v (stO i2 + 175))]) (rest := []) (mX8_requireIndex hc3) ys_X8_requireIndex wm_924 ⟨Nat.le_of_ble_eq_true rfl, Nat.le_of_ble_eq_true rfl⟩ rfl rfl hl.1 h1 h2 h3 (Nat.le_of_ble_eq_true rfl) ⟨Nat.le_of_ble_eq_true rfl, Nat.le_of_ble_eq_true rfl⟩ dX8_requireBread_11) (fun H locs hB => ?_)
  refine W.eq (g2 := F0 m 14 ls []) rfl ?_
  cases hf

theorem dX8_listPrice_0 : decode cX8_listPrice 0 = .ok (.aload_n 0, 1) := by decide +kernel
theorem dX8_listPrice_1 : decode cX8_listPrice 1 = .ok (.iload_n 1, 1) := by decide +kernel
theorem dX8_listPrice_2 : decode cX8_listPrice 2 = .ok (.invokevirtual 163, 3) := by decide +kernel
theorem dX8_listPrice_5 : decode cX8_listPrice 5 = .ok (.aload_n 0, 1) := by decide +kernel
theorem dX8_listPrice_6 : decode cX8_listPrice 6 = .ok (.getfield 10, 3) := by decide +kernel
theorem dX8_listPrice_9 : decode cX8_listPrice 9 = .ok (.getfield 156, 3) := by decide +kernel
theorem dX8_listPrice_12 : decode cX8_listPrice 12 = .ok (.getfield 166, 3) := by decide +kernel
theorem dX8_listPrice_15 : decode cX8_listPrice 15 = .ok (.iload_n 1, 1) := by decide +kernel
theorem dX8_listPrice_16 : decode cX8_listPrice 16 = .ok (.iaload, 1) := by decide +kernel
theorem dX8_listPrice_17 : decode cX8_listPrice 17 = .ok (.ireturn, 1) := by decide +kernel
def fX8_listPrice (p1 : Int32) (v : bM) : Option Int32 :=
  bnr (fX8_requireBread p1 v) fun r2 => ck (v 0) 12 <| nm (v 0).toNatClampNeg fun i4 => ck p1 6 <| some (v (stO i4 + 176 + p1.toNatClampNeg))
set_option maxRecDepth 100000 in
set_option maxHeartbeats 4000000 in
theorem mX8_listPrice {l : Launch} {p1 : Int32} {v : bM} {r0 : Int32} (hf : fX8_listPrice p1 v = some r0) : bMet l yX8_listPrice cX8_listPrice 2 (some .int) 2 0 0 LX (fun E a => [.ref a, .int p1]) v v (fun _ => some (.int r0)) := by
  refine bk_start (by decide +kernel) wfX (fun _ _ => Nat.le_of_ble_eq_true rfl) ?_
  intro p e s m args below meth c D E a ls H locs X hr hl hB
  have hx := X.1
  have hb := X.2.1
  have hown := X.2.2.2.1
  have hts := X.2.2.2.2.1
  have hl : lv_has ls 2 [(0, .ref a), (1, .int p1)] := hl
  have hf := (fX8_listPrice.eq_1 p1 v).symm.trans hf
  refine lv_aload_n hx hb dX8_listPrice_0 rfl (lv_at hl 0 rfl) ?_
  refine lv_iload_n hx hb dX8_listPrice_1 rfl (lv_at hl 1 rfl) ?_
  obtain ⟨r2, hc1, hf⟩ := bnr_some hf
  refine bk_all hB (fun h1 h2 h3 => bk_runV X (Av := [.int p1]) (rest := []) (mX8_requireBread hc1) yv_X8_requireBread wm_1037 ⟨Nat.le_of_ble_eq_true rfl, Nat.le_of_ble_eq_true rfl⟩ rfl rfl hl.1 kl_X8.1 (hB.1.obj lc_X_0) h1 h2 h3 (Nat.le_of_ble_eq_true rfl) ⟨Nat.le_of_ble_eq_true rfl, Nat.le_of_ble_eq_true rfl⟩ dX8_listPrice_2) (fun H locs hB => ?_)
  refine W.eq (g2 := F0 m 5 ls []) rfl ?_
  refine lv_aload_n hx hb dX8_listPrice_5 rfl (lv_at hl 0 rfl) ?_
  obtain ⟨h3, hf⟩ := ck_some hf
  refine bk_getS X hB kl_X8 0 lc_X_0 0 (by decide) rfl h3 wm_654 dX8_listPrice_6 ?_
  obtain ⟨i4, ei4⟩ : ∃ y : Nat, y = (v 0).toNatClampNeg := ⟨_, rfl⟩
  have hf := nm_use hf ei4
  rw [← ei4]
  have hi4 : i4 < 12 := by rw [ei4]; exact vp_lt h3
  refine bk_getR X hB kl_X6 (stC i4 + 0) ((subX_St _ hi4).at lc_St_0) 7 (by decide) rfl wm_236 dX8_listPrice_9 ?_
  refine bk_getR X hB kl_X1 (stC i4 + 20) ((subX_St _ hi4).at lc_St_20) 1 (by decide) rfl wm_103 dX8_listPrice_12 ?_
  refine lv_iload_n hx hb dX8_listPrice_15 rfl (lv_at hl 1 rfl) ?_
  obtain ⟨h5, hf⟩ := ck_some hf
  refine bk_ald X hB (stC i4 + 21) ((subX_St _ hi4).at lc_St_21) h5 dX8_listPrice_16 ?_
  exact bk_iR X hr rfl hf hB (Nat.le_of_ble_eq_true rfl) (Nat.le_of_ble_eq_true rfl) dX8_listPrice_17
theorem yv_X8_listPrice : bYv yX8_listPrice RX8 cX8_listPrice 2 (some .int) 1 := ⟨⟨rfl, by decide, by decide, rfl⟩, wm_1034, wm_1035, wm_1, wm_1036⟩

def xX8_listPrice (p1 : Int32) (v : bM) : Option Nat :=
  xr (xX8_requireBread p1 v) <| bnr (fX8_requireBread p1 v) fun r2 => none
set_option maxRecDepth 100000 in
set_option maxHeartbeats 4000000 in
theorem mxX8_listPrice {l : Launch} (hlt : l.stackTraces = false) {p1 : Int32} {v : bM} {r0 : Nat} (hf : xX8_listPrice p1 v = some r0) : bMetX l yX8_listPrice cX8_listPrice 2 (some .int) 8 1 6 LX (fun E a => [.ref a, .int p1]) v r0 := by
  refine bk_startX (by decide +kernel) wfX (fun _ _ => Nat.le_of_ble_eq_true rfl) ?_
  intro p e s m args below meth c D E a ls H locs X hr hxt hl hB
  have hx := X.1
  have hb := X.2.1
  have hown := X.2.2.2.1
  have hts := X.2.2.2.2.1
  have hl : lv_has ls 2 [(0, .ref a), (1, .int p1)] := hl
  have hf := (xX8_listPrice.eq_1 p1 v).symm.trans hf
  refine lv_aload_n hx hb dX8_listPrice_0 rfl (lv_at hl 0 rfl) ?_
  refine lv_iload_n hx hb dX8_listPrice_1 rfl (lv_at hl 1 rfl) ?_
  refine xr_cases hf (fun hX => ?_) (fun hf => ?_)
  · exact bk_allX hxt X hB (fun h1 h2 h3 => bk_runVX X (Av := [.int p1]) (rest := []) (mxX8_requireBread hlt hX) yv_X8_requireBread wm_1037 ⟨Nat.le_of_ble_eq_true rfl, Nat.le_of_ble_eq_true rfl⟩ rfl rfl hl.1 kl_X8.1 (hB.1.obj lc_X_0) h1 h2 h3 (Nat.le_of_ble_eq_true rfl) ⟨Nat.le_of_ble_eq_true rfl, Nat.le_of_ble_eq_true rfl⟩ dX8_listPrice_2)
  obtain ⟨r2, hc1, hf⟩ := bnr_some hf
  refine bk_all hB (fun h1 h2 h3 => bk_runV X (Av := [.int p1]) (rest := []) (mX8_requireBread hc1) yv_X8_requireBread wm_1037 ⟨Nat.le_of_ble_eq_true rfl, Nat.le_of_ble_eq_true rfl⟩ rfl rfl hl.1 kl_X8.1 (hB.1.obj lc_X_0) h1 h2 h3 (Nat.le_of_ble_eq_true rfl) ⟨Nat.le_of_ble_eq_true rfl, Nat.le_of_ble_eq_true rfl⟩ dX8_listPrice_2) (fun H locs hB => ?_)
  refine W.eq (g2 := F0 m 5 ls []) rfl ?_
  cases hf

theorem dX8_minutesOf_0 : decode cX8_minutesOf 0 = .ok (.aload_n 0, 1) := by decide +kernel
theorem dX8_minutesOf_1 : decode cX8_minutesOf 1 = .ok (.iload_n 1, 1) := by decide +kernel
theorem dX8_minutesOf_2 : decode cX8_minutesOf 2 = .ok (.invokevirtual 163, 3) := by decide +kernel
theorem dX8_minutesOf_5 : decode cX8_minutesOf 5 = .ok (.aload_n 0, 1) := by decide +kernel
theorem dX8_minutesOf_6 : decode cX8_minutesOf 6 = .ok (.getfield 10, 3) := by decide +kernel
theorem dX8_minutesOf_9 : decode cX8_minutesOf 9 = .ok (.getfield 156, 3) := by decide +kernel
theorem dX8_minutesOf_12 : decode cX8_minutesOf 12 = .ok (.getfield 169, 3) := by decide +kernel
theorem dX8_minutesOf_15 : decode cX8_minutesOf 15 = .ok (.iload_n 1, 1) := by decide +kernel
theorem dX8_minutesOf_16 : decode cX8_minutesOf 16 = .ok (.iaload, 1) := by decide +kernel
theorem dX8_minutesOf_17 : decode cX8_minutesOf 17 = .ok (.ireturn, 1) := by decide +kernel
def fX8_minutesOf (p1 : Int32) (v : bM) : Option Int32 :=
  bnr (fX8_requireBread p1 v) fun r2 => ck (v 0) 12 <| nm (v 0).toNatClampNeg fun i4 => ck p1 6 <| some (v (stO i4 + 182 + p1.toNatClampNeg))
set_option maxRecDepth 100000 in
set_option maxHeartbeats 4000000 in
theorem mX8_minutesOf {l : Launch} {p1 : Int32} {v : bM} {r0 : Int32} (hf : fX8_minutesOf p1 v = some r0) : bMet l yX8_minutesOf cX8_minutesOf 2 (some .int) 2 0 0 LX (fun E a => [.ref a, .int p1]) v v (fun _ => some (.int r0)) := by
  refine bk_start (by decide +kernel) wfX (fun _ _ => Nat.le_of_ble_eq_true rfl) ?_
  intro p e s m args below meth c D E a ls H locs X hr hl hB
  have hx := X.1
  have hb := X.2.1
  have hown := X.2.2.2.1
  have hts := X.2.2.2.2.1
  have hl : lv_has ls 2 [(0, .ref a), (1, .int p1)] := hl
  have hf := (fX8_minutesOf.eq_1 p1 v).symm.trans hf
  refine lv_aload_n hx hb dX8_minutesOf_0 rfl (lv_at hl 0 rfl) ?_
  refine lv_iload_n hx hb dX8_minutesOf_1 rfl (lv_at hl 1 rfl) ?_
  obtain ⟨r2, hc1, hf⟩ := bnr_some hf
  refine bk_all hB (fun h1 h2 h3 => bk_runV X (Av := [.int p1]) (rest := []) (mX8_requireBread hc1) yv_X8_requireBread wm_1037 ⟨Nat.le_of_ble_eq_true rfl, Nat.le_of_ble_eq_true rfl⟩ rfl rfl hl.1 kl_X8.1 (hB.1.obj lc_X_0) h1 h2 h3 (Nat.le_of_ble_eq_true rfl) ⟨Nat.le_of_ble_eq_true rfl, Nat.le_of_ble_eq_true rfl⟩ dX8_minutesOf_2) (fun H locs hB => ?_)
  refine W.eq (g2 := F0 m 5 ls []) rfl ?_
  refine lv_aload_n hx hb dX8_minutesOf_5 rfl (lv_at hl 0 rfl) ?_
  obtain ⟨h3, hf⟩ := ck_some hf
  refine bk_getS X hB kl_X8 0 lc_X_0 0 (by decide) rfl h3 wm_654 dX8_minutesOf_6 ?_
  obtain ⟨i4, ei4⟩ : ∃ y : Nat, y = (v 0).toNatClampNeg := ⟨_, rfl⟩
  have hf := nm_use hf ei4
  rw [← ei4]
  have hi4 : i4 < 12 := by rw [ei4]; exact vp_lt h3
  refine bk_getR X hB kl_X6 (stC i4 + 0) ((subX_St _ hi4).at lc_St_0) 7 (by decide) rfl wm_236 dX8_minutesOf_9 ?_
  refine bk_getR X hB kl_X1 (stC i4 + 20) ((subX_St _ hi4).at lc_St_20) 2 (by decide) rfl wm_106 dX8_minutesOf_12 ?_
  refine lv_iload_n hx hb dX8_minutesOf_15 rfl (lv_at hl 1 rfl) ?_
  obtain ⟨h5, hf⟩ := ck_some hf
  refine bk_ald X hB (stC i4 + 22) ((subX_St _ hi4).at lc_St_22) h5 dX8_minutesOf_16 ?_
  exact bk_iR X hr rfl hf hB (Nat.le_of_ble_eq_true rfl) (Nat.le_of_ble_eq_true rfl) dX8_minutesOf_17
theorem yv_X8_minutesOf : bYv yX8_minutesOf RX8 cX8_minutesOf 2 (some .int) 1 := ⟨⟨rfl, by decide, by decide, rfl⟩, wm_1045, wm_1046, wm_1, wm_1047⟩

def xX8_minutesOf (p1 : Int32) (v : bM) : Option Nat :=
  xr (xX8_requireBread p1 v) <| bnr (fX8_requireBread p1 v) fun r2 => none
set_option maxRecDepth 100000 in
set_option maxHeartbeats 4000000 in
theorem mxX8_minutesOf {l : Launch} (hlt : l.stackTraces = false) {p1 : Int32} {v : bM} {r0 : Nat} (hf : xX8_minutesOf p1 v = some r0) : bMetX l yX8_minutesOf cX8_minutesOf 2 (some .int) 8 1 6 LX (fun E a => [.ref a, .int p1]) v r0 := by
  refine bk_startX (by decide +kernel) wfX (fun _ _ => Nat.le_of_ble_eq_true rfl) ?_
  intro p e s m args below meth c D E a ls H locs X hr hxt hl hB
  have hx := X.1
  have hb := X.2.1
  have hown := X.2.2.2.1
  have hts := X.2.2.2.2.1
  have hl : lv_has ls 2 [(0, .ref a), (1, .int p1)] := hl
  have hf := (xX8_minutesOf.eq_1 p1 v).symm.trans hf
  refine lv_aload_n hx hb dX8_minutesOf_0 rfl (lv_at hl 0 rfl) ?_
  refine lv_iload_n hx hb dX8_minutesOf_1 rfl (lv_at hl 1 rfl) ?_
  refine xr_cases hf (fun hX => ?_) (fun hf => ?_)
  · exact bk_allX hxt X hB (fun h1 h2 h3 => bk_runVX X (Av := [.int p1]) (rest := []) (mxX8_requireBread hlt hX) yv_X8_requireBread wm_1037 ⟨Nat.le_of_ble_eq_true rfl, Nat.le_of_ble_eq_true rfl⟩ rfl rfl hl.1 kl_X8.1 (hB.1.obj lc_X_0) h1 h2 h3 (Nat.le_of_ble_eq_true rfl) ⟨Nat.le_of_ble_eq_true rfl, Nat.le_of_ble_eq_true rfl⟩ dX8_minutesOf_2)
  obtain ⟨r2, hc1, hf⟩ := bnr_some hf
  refine bk_all hB (fun h1 h2 h3 => bk_runV X (Av := [.int p1]) (rest := []) (mX8_requireBread hc1) yv_X8_requireBread wm_1037 ⟨Nat.le_of_ble_eq_true rfl, Nat.le_of_ble_eq_true rfl⟩ rfl rfl hl.1 kl_X8.1 (hB.1.obj lc_X_0) h1 h2 h3 (Nat.le_of_ble_eq_true rfl) ⟨Nat.le_of_ble_eq_true rfl, Nat.le_of_ble_eq_true rfl⟩ dX8_minutesOf_2) (fun H locs hB => ?_)
  refine W.eq (g2 := F0 m 5 ls []) rfl ?_
  cases hf

theorem dX8_amountOf_0 : decode cX8_amountOf 0 = .ok (.aload_n 0, 1) := by decide +kernel
theorem dX8_amountOf_1 : decode cX8_amountOf 1 = .ok (.iload_n 1, 1) := by decide +kernel
theorem dX8_amountOf_2 : decode cX8_amountOf 2 = .ok (.invokevirtual 163, 3) := by decide +kernel
theorem dX8_amountOf_5 : decode cX8_amountOf 5 = .ok (.aload_n 0, 1) := by decide +kernel
theorem dX8_amountOf_6 : decode cX8_amountOf 6 = .ok (.iload_n 2, 1) := by decide +kernel
theorem dX8_amountOf_7 : decode cX8_amountOf 7 = .ok (.invokevirtual 132, 3) := by decide +kernel
theorem dX8_amountOf_10 : decode cX8_amountOf 10 = .ok (.aload_n 0, 1) := by decide +kernel
theorem dX8_amountOf_11 : decode cX8_amountOf 11 = .ok (.getfield 10, 3) := by decide +kernel
theorem dX8_amountOf_14 : decode cX8_amountOf 14 = .ok (.getfield 156, 3) := by decide +kernel
theorem dX8_amountOf_17 : decode cX8_amountOf 17 = .ok (.getfield 172, 3) := by decide +kernel
theorem dX8_amountOf_20 : decode cX8_amountOf 20 = .ok (.iload_n 1, 1) := by decide +kernel
theorem dX8_amountOf_21 : decode cX8_amountOf 21 = .ok (.aaload, 1) := by decide +kernel
theorem dX8_amountOf_22 : decode cX8_amountOf 22 = .ok (.iload_n 2, 1) := by decide +kernel
theorem dX8_amountOf_23 : decode cX8_amountOf 23 = .ok (.iaload, 1) := by decide +kernel
theorem dX8_amountOf_24 : decode cX8_amountOf 24 = .ok (.ireturn, 1) := by decide +kernel
def fX8_amountOf (p1 : Int32) (p2 : Int32) (v : bM) : Option Int32 :=
  bnr (fX8_requireBread p1 v) fun r2 => bnr (fX8_requireFlour p2 v) fun r4 => ck (v 0) 12 <| nm (v 0).toNatClampNeg fun i6 => ck p1 6 <| ck p2 6 <| some (v (stO i6 + (212 + 6 * p1.toNatClampNeg) + p2.toNatClampNeg))
set_option maxRecDepth 100000 in
set_option maxHeartbeats 4000000 in
theorem mX8_amountOf {l : Launch} {p1 : Int32} {p2 : Int32} {v : bM} {r0 : Int32} (hf : fX8_amountOf p1 p2 v = some r0) : bMet l yX8_amountOf cX8_amountOf 3 (some .int) 2 0 0 LX (fun E a => [.ref a, .int p1, .int p2]) v v (fun _ => some (.int r0)) := by
  refine bk_start (by decide +kernel) wfX (fun _ _ => Nat.le_of_ble_eq_true rfl) ?_
  intro p e s m args below meth c D E a ls H locs X hr hl hB
  have hx := X.1
  have hb := X.2.1
  have hown := X.2.2.2.1
  have hts := X.2.2.2.2.1
  have hl : lv_has ls 3 [(0, .ref a), (1, .int p1), (2, .int p2)] := hl
  have hf := (fX8_amountOf.eq_1 p1 p2 v).symm.trans hf
  refine lv_aload_n hx hb dX8_amountOf_0 rfl (lv_at hl 0 rfl) ?_
  refine lv_iload_n hx hb dX8_amountOf_1 rfl (lv_at hl 1 rfl) ?_
  obtain ⟨r2, hc1, hf⟩ := bnr_some hf
  refine bk_all hB (fun h1 h2 h3 => bk_runV X (Av := [.int p1]) (rest := []) (mX8_requireBread hc1) yv_X8_requireBread wm_1037 ⟨Nat.le_of_ble_eq_true rfl, Nat.le_of_ble_eq_true rfl⟩ rfl rfl hl.1 kl_X8.1 (hB.1.obj lc_X_0) h1 h2 h3 (Nat.le_of_ble_eq_true rfl) ⟨Nat.le_of_ble_eq_true rfl, Nat.le_of_ble_eq_true rfl⟩ dX8_amountOf_2) (fun H locs hB => ?_)
  refine W.eq (g2 := F0 m 5 ls []) rfl ?_
  refine lv_aload_n hx hb dX8_amountOf_5 rfl (lv_at hl 0 rfl) ?_
  refine lv_iload_n hx hb dX8_amountOf_6 rfl (lv_at hl 2 rfl) ?_
  obtain ⟨r4, hc3, hf⟩ := bnr_some hf
  refine bk_all hB (fun h1 h2 h3 => bk_runV X (Av := [.int p2]) (rest := []) (mX8_requireFlour hc3) yv_X8_requireFlour wm_920 ⟨Nat.le_of_ble_eq_true rfl, Nat.le_of_ble_eq_true rfl⟩ rfl rfl hl.1 kl_X8.1 (hB.1.obj lc_X_0) h1 h2 h3 (Nat.le_of_ble_eq_true rfl) ⟨Nat.le_of_ble_eq_true rfl, Nat.le_of_ble_eq_true rfl⟩ dX8_amountOf_7) (fun H locs hB => ?_)
  refine W.eq (g2 := F0 m 10 ls []) rfl ?_
  refine lv_aload_n hx hb dX8_amountOf_10 rfl (lv_at hl 0 rfl) ?_
  obtain ⟨h5, hf⟩ := ck_some hf
  refine bk_getS X hB kl_X8 0 lc_X_0 0 (by decide) rfl h5 wm_654 dX8_amountOf_11 ?_
  obtain ⟨i6, ei6⟩ : ∃ y : Nat, y = (v 0).toNatClampNeg := ⟨_, rfl⟩
  have hf := nm_use hf ei6
  rw [← ei6]
  have hi6 : i6 < 12 := by rw [ei6]; exact vp_lt h5
  refine bk_getR X hB kl_X6 (stC i6 + 0) ((subX_St _ hi6).at lc_St_0) 7 (by decide) rfl wm_236 dX8_amountOf_14 ?_
  refine bk_getR X hB kl_X1 (stC i6 + 20) ((subX_St _ hi6).at lc_St_20) 7 (by decide) rfl wm_118 dX8_amountOf_17 ?_
  refine lv_iload_n hx hb dX8_amountOf_20 rfl (lv_at hl 1 rfl) ?_
  obtain ⟨h7, hf⟩ := ck_some hf
  refine bk_rld X hB (stC i6 + 27) ((subX_St _ hi6).at lc_St_27) h7 dX8_amountOf_21 ?_
  refine lv_iload_n hx hb dX8_amountOf_22 rfl (lv_at hl 2 rfl) ?_
  obtain ⟨h8, hf⟩ := ck_some hf
  refine bk_ald X hB (stC i6 + 28 + 1 * p1.toNatClampNeg) (lrX (subX_St _ hi6) (lr_St_27 _ (vp_lt h7))) h8 dX8_amountOf_23 ?_
  exact bk_iR X hr rfl hf hB (Nat.le_of_ble_eq_true rfl) (Nat.le_of_ble_eq_true rfl) dX8_amountOf_24
theorem yv_X8_amountOf : bYv yX8_amountOf RX8 cX8_amountOf 3 (some .int) 2 := ⟨⟨rfl, by decide, by decide, rfl⟩, wm_1052, wm_1053, wm_1, wm_1054⟩

def xX8_amountOf (p1 : Int32) (p2 : Int32) (v : bM) : Option Nat :=
  xr (xX8_requireBread p1 v) <| bnr (fX8_requireBread p1 v) fun r2 => xr (xX8_requireFlour p2 v) <| bnr (fX8_requireFlour p2 v) fun r4 => none
set_option maxRecDepth 100000 in
set_option maxHeartbeats 4000000 in
theorem mxX8_amountOf {l : Launch} (hlt : l.stackTraces = false) {p1 : Int32} {p2 : Int32} {v : bM} {r0 : Nat} (hf : xX8_amountOf p1 p2 v = some r0) : bMetX l yX8_amountOf cX8_amountOf 3 (some .int) 8 1 6 LX (fun E a => [.ref a, .int p1, .int p2]) v r0 := by
  refine bk_startX (by decide +kernel) wfX (fun _ _ => Nat.le_of_ble_eq_true rfl) ?_
  intro p e s m args below meth c D E a ls H locs X hr hxt hl hB
  have hx := X.1
  have hb := X.2.1
  have hown := X.2.2.2.1
  have hts := X.2.2.2.2.1
  have hl : lv_has ls 3 [(0, .ref a), (1, .int p1), (2, .int p2)] := hl
  have hf := (xX8_amountOf.eq_1 p1 p2 v).symm.trans hf
  refine lv_aload_n hx hb dX8_amountOf_0 rfl (lv_at hl 0 rfl) ?_
  refine lv_iload_n hx hb dX8_amountOf_1 rfl (lv_at hl 1 rfl) ?_
  refine xr_cases hf (fun hX => ?_) (fun hf => ?_)
  · exact bk_allX hxt X hB (fun h1 h2 h3 => bk_runVX X (Av := [.int p1]) (rest := []) (mxX8_requireBread hlt hX) yv_X8_requireBread wm_1037 ⟨Nat.le_of_ble_eq_true rfl, Nat.le_of_ble_eq_true rfl⟩ rfl rfl hl.1 kl_X8.1 (hB.1.obj lc_X_0) h1 h2 h3 (Nat.le_of_ble_eq_true rfl) ⟨Nat.le_of_ble_eq_true rfl, Nat.le_of_ble_eq_true rfl⟩ dX8_amountOf_2)
  obtain ⟨r2, hc1, hf⟩ := bnr_some hf
  refine bk_all hB (fun h1 h2 h3 => bk_runV X (Av := [.int p1]) (rest := []) (mX8_requireBread hc1) yv_X8_requireBread wm_1037 ⟨Nat.le_of_ble_eq_true rfl, Nat.le_of_ble_eq_true rfl⟩ rfl rfl hl.1 kl_X8.1 (hB.1.obj lc_X_0) h1 h2 h3 (Nat.le_of_ble_eq_true rfl) ⟨Nat.le_of_ble_eq_true rfl, Nat.le_of_ble_eq_true rfl⟩ dX8_amountOf_2) (fun H locs hB => ?_)
  refine W.eq (g2 := F0 m 5 ls []) rfl ?_
  refine lv_aload_n hx hb dX8_amountOf_5 rfl (lv_at hl 0 rfl) ?_
  refine lv_iload_n hx hb dX8_amountOf_6 rfl (lv_at hl 2 rfl) ?_
  refine xr_cases hf (fun hX => ?_) (fun hf => ?_)
  · exact bk_allX hxt X hB (fun h1 h2 h3 => bk_runVX X (Av := [.int p2]) (rest := []) (mxX8_requireFlour hlt hX) yv_X8_requireFlour wm_920 ⟨Nat.le_of_ble_eq_true rfl, Nat.le_of_ble_eq_true rfl⟩ rfl rfl hl.1 kl_X8.1 (hB.1.obj lc_X_0) h1 h2 h3 (Nat.le_of_ble_eq_true rfl) ⟨Nat.le_of_ble_eq_true rfl, Nat.le_of_ble_eq_true rfl⟩ dX8_amountOf_7)
  obtain ⟨r4, hc3, hf⟩ := bnr_some hf
  refine bk_all hB (fun h1 h2 h3 => bk_runV X (Av := [.int p2]) (rest := []) (mX8_requireFlour hc3) yv_X8_requireFlour wm_920 ⟨Nat.le_of_ble_eq_true rfl, Nat.le_of_ble_eq_true rfl⟩ rfl rfl hl.1 kl_X8.1 (hB.1.obj lc_X_0) h1 h2 h3 (Nat.le_of_ble_eq_true rfl) ⟨Nat.le_of_ble_eq_true rfl, Nat.le_of_ble_eq_true rfl⟩ dX8_amountOf_7) (fun H locs hB => ?_)
  refine W.eq (g2 := F0 m 10 ls []) rfl ?_
  cases hf

theorem dX8_standardCost_0 : decode cX8_standardCost 0 = .ok (.aload_n 0, 1) := by decide +kernel
theorem dX8_standardCost_1 : decode cX8_standardCost 1 = .ok (.iload_n 1, 1) := by decide +kernel
theorem dX8_standardCost_2 : decode cX8_standardCost 2 = .ok (.invokevirtual 163, 3) := by decide +kernel
theorem dX8_standardCost_5 : decode cX8_standardCost 5 = .ok (.aload_n 0, 1) := by decide +kernel
theorem dX8_standardCost_6 : decode cX8_standardCost 6 = .ok (.getfield 10, 3) := by decide +kernel
theorem dX8_standardCost_9 : decode cX8_standardCost 9 = .ok (.getfield 156, 3) := by decide +kernel
theorem dX8_standardCost_12 : decode cX8_standardCost 12 = .ok (.getfield 175, 3) := by decide +kernel
theorem dX8_standardCost_15 : decode cX8_standardCost 15 = .ok (.iload_n 1, 1) := by decide +kernel
theorem dX8_standardCost_16 : decode cX8_standardCost 16 = .ok (.iaload, 1) := by decide +kernel
theorem dX8_standardCost_17 : decode cX8_standardCost 17 = .ok (.ireturn, 1) := by decide +kernel
def fX8_standardCost (p1 : Int32) (v : bM) : Option Int32 :=
  bnr (fX8_requireBread p1 v) fun r2 => ck (v 0) 12 <| nm (v 0).toNatClampNeg fun i4 => ck p1 6 <| some (v (stO i4 + 188 + p1.toNatClampNeg))
set_option maxRecDepth 100000 in
set_option maxHeartbeats 4000000 in
theorem mX8_standardCost {l : Launch} {p1 : Int32} {v : bM} {r0 : Int32} (hf : fX8_standardCost p1 v = some r0) : bMet l yX8_standardCost cX8_standardCost 2 (some .int) 2 0 0 LX (fun E a => [.ref a, .int p1]) v v (fun _ => some (.int r0)) := by
  refine bk_start (by decide +kernel) wfX (fun _ _ => Nat.le_of_ble_eq_true rfl) ?_
  intro p e s m args below meth c D E a ls H locs X hr hl hB
  have hx := X.1
  have hb := X.2.1
  have hown := X.2.2.2.1
  have hts := X.2.2.2.2.1
  have hl : lv_has ls 2 [(0, .ref a), (1, .int p1)] := hl
  have hf := (fX8_standardCost.eq_1 p1 v).symm.trans hf
  refine lv_aload_n hx hb dX8_standardCost_0 rfl (lv_at hl 0 rfl) ?_
  refine lv_iload_n hx hb dX8_standardCost_1 rfl (lv_at hl 1 rfl) ?_
  obtain ⟨r2, hc1, hf⟩ := bnr_some hf
  refine bk_all hB (fun h1 h2 h3 => bk_runV X (Av := [.int p1]) (rest := []) (mX8_requireBread hc1) yv_X8_requireBread wm_1037 ⟨Nat.le_of_ble_eq_true rfl, Nat.le_of_ble_eq_true rfl⟩ rfl rfl hl.1 kl_X8.1 (hB.1.obj lc_X_0) h1 h2 h3 (Nat.le_of_ble_eq_true rfl) ⟨Nat.le_of_ble_eq_true rfl, Nat.le_of_ble_eq_true rfl⟩ dX8_standardCost_2) (fun H locs hB => ?_)
  refine W.eq (g2 := F0 m 5 ls []) rfl ?_
  refine lv_aload_n hx hb dX8_standardCost_5 rfl (lv_at hl 0 rfl) ?_
  obtain ⟨h3, hf⟩ := ck_some hf
  refine bk_getS X hB kl_X8 0 lc_X_0 0 (by decide) rfl h3 wm_654 dX8_standardCost_6 ?_
  obtain ⟨i4, ei4⟩ : ∃ y : Nat, y = (v 0).toNatClampNeg := ⟨_, rfl⟩
  have hf := nm_use hf ei4
  rw [← ei4]
  have hi4 : i4 < 12 := by rw [ei4]; exact vp_lt h3
  refine bk_getR X hB kl_X6 (stC i4 + 0) ((subX_St _ hi4).at lc_St_0) 7 (by decide) rfl wm_236 dX8_standardCost_9 ?_
  refine bk_getR X hB kl_X1 (stC i4 + 20) ((subX_St _ hi4).at lc_St_20) 3 (by decide) rfl wm_109 dX8_standardCost_12 ?_
  refine lv_iload_n hx hb dX8_standardCost_15 rfl (lv_at hl 1 rfl) ?_
  obtain ⟨h5, hf⟩ := ck_some hf
  refine bk_ald X hB (stC i4 + 23) ((subX_St _ hi4).at lc_St_23) h5 dX8_standardCost_16 ?_
  exact bk_iR X hr rfl hf hB (Nat.le_of_ble_eq_true rfl) (Nat.le_of_ble_eq_true rfl) dX8_standardCost_17
theorem yv_X8_standardCost : bYv yX8_standardCost RX8 cX8_standardCost 2 (some .int) 1 := ⟨⟨rfl, by decide, by decide, rfl⟩, wm_1059, wm_1060, wm_1, wm_1061⟩

def xX8_standardCost (p1 : Int32) (v : bM) : Option Nat :=
  xr (xX8_requireBread p1 v) <| bnr (fX8_requireBread p1 v) fun r2 => none
set_option maxRecDepth 100000 in
set_option maxHeartbeats 4000000 in
theorem mxX8_standardCost {l : Launch} (hlt : l.stackTraces = false) {p1 : Int32} {v : bM} {r0 : Nat} (hf : xX8_standardCost p1 v = some r0) : bMetX l yX8_standardCost cX8_standardCost 2 (some .int) 8 1 6 LX (fun E a => [.ref a, .int p1]) v r0 := by
  refine bk_startX (by decide +kernel) wfX (fun _ _ => Nat.le_of_ble_eq_true rfl) ?_
  intro p e s m args below meth c D E a ls H locs X hr hxt hl hB
  have hx := X.1
  have hb := X.2.1
  have hown := X.2.2.2.1
  have hts := X.2.2.2.2.1
  have hl : lv_has ls 2 [(0, .ref a), (1, .int p1)] := hl
  have hf := (xX8_standardCost.eq_1 p1 v).symm.trans hf
  refine lv_aload_n hx hb dX8_standardCost_0 rfl (lv_at hl 0 rfl) ?_
  refine lv_iload_n hx hb dX8_standardCost_1 rfl (lv_at hl 1 rfl) ?_
  refine xr_cases hf (fun hX => ?_) (fun hf => ?_)
  · exact bk_allX hxt X hB (fun h1 h2 h3 => bk_runVX X (Av := [.int p1]) (rest := []) (mxX8_requireBread hlt hX) yv_X8_requireBread wm_1037 ⟨Nat.le_of_ble_eq_true rfl, Nat.le_of_ble_eq_true rfl⟩ rfl rfl hl.1 kl_X8.1 (hB.1.obj lc_X_0) h1 h2 h3 (Nat.le_of_ble_eq_true rfl) ⟨Nat.le_of_ble_eq_true rfl, Nat.le_of_ble_eq_true rfl⟩ dX8_standardCost_2)
  obtain ⟨r2, hc1, hf⟩ := bnr_some hf
  refine bk_all hB (fun h1 h2 h3 => bk_runV X (Av := [.int p1]) (rest := []) (mX8_requireBread hc1) yv_X8_requireBread wm_1037 ⟨Nat.le_of_ble_eq_true rfl, Nat.le_of_ble_eq_true rfl⟩ rfl rfl hl.1 kl_X8.1 (hB.1.obj lc_X_0) h1 h2 h3 (Nat.le_of_ble_eq_true rfl) ⟨Nat.le_of_ble_eq_true rfl, Nat.le_of_ble_eq_true rfl⟩ dX8_standardCost_2) (fun H locs hB => ?_)
  refine W.eq (g2 := F0 m 5 ls []) rfl ?_
  cases hf

theorem dX8_loavesOf_0 : decode cX8_loavesOf 0 = .ok (.aload_n 0, 1) := by decide +kernel
theorem dX8_loavesOf_1 : decode cX8_loavesOf 1 = .ok (.iload_n 1, 1) := by decide +kernel
theorem dX8_loavesOf_2 : decode cX8_loavesOf 2 = .ok (.invokevirtual 163, 3) := by decide +kernel
theorem dX8_loavesOf_5 : decode cX8_loavesOf 5 = .ok (.aload_n 0, 1) := by decide +kernel
theorem dX8_loavesOf_6 : decode cX8_loavesOf 6 = .ok (.getfield 10, 3) := by decide +kernel
theorem dX8_loavesOf_9 : decode cX8_loavesOf 9 = .ok (.getfield 156, 3) := by decide +kernel
theorem dX8_loavesOf_12 : decode cX8_loavesOf 12 = .ok (.getfield 178, 3) := by decide +kernel
theorem dX8_loavesOf_15 : decode cX8_loavesOf 15 = .ok (.iload_n 1, 1) := by decide +kernel
theorem dX8_loavesOf_16 : decode cX8_loavesOf 16 = .ok (.iaload, 1) := by decide +kernel
theorem dX8_loavesOf_17 : decode cX8_loavesOf 17 = .ok (.ireturn, 1) := by decide +kernel
def fX8_loavesOf (p1 : Int32) (v : bM) : Option Int32 :=
  bnr (fX8_requireBread p1 v) fun r2 => ck (v 0) 12 <| nm (v 0).toNatClampNeg fun i4 => ck p1 6 <| some (v (stO i4 + 200 + p1.toNatClampNeg))
set_option maxRecDepth 100000 in
set_option maxHeartbeats 4000000 in
theorem mX8_loavesOf {l : Launch} {p1 : Int32} {v : bM} {r0 : Int32} (hf : fX8_loavesOf p1 v = some r0) : bMet l yX8_loavesOf cX8_loavesOf 2 (some .int) 2 0 0 LX (fun E a => [.ref a, .int p1]) v v (fun _ => some (.int r0)) := by
  refine bk_start (by decide +kernel) wfX (fun _ _ => Nat.le_of_ble_eq_true rfl) ?_
  intro p e s m args below meth c D E a ls H locs X hr hl hB
  have hx := X.1
  have hb := X.2.1
  have hown := X.2.2.2.1
  have hts := X.2.2.2.2.1
  have hl : lv_has ls 2 [(0, .ref a), (1, .int p1)] := hl
  have hf := (fX8_loavesOf.eq_1 p1 v).symm.trans hf
  refine lv_aload_n hx hb dX8_loavesOf_0 rfl (lv_at hl 0 rfl) ?_
  refine lv_iload_n hx hb dX8_loavesOf_1 rfl (lv_at hl 1 rfl) ?_
  obtain ⟨r2, hc1, hf⟩ := bnr_some hf
  refine bk_all hB (fun h1 h2 h3 => bk_runV X (Av := [.int p1]) (rest := []) (mX8_requireBread hc1) yv_X8_requireBread wm_1037 ⟨Nat.le_of_ble_eq_true rfl, Nat.le_of_ble_eq_true rfl⟩ rfl rfl hl.1 kl_X8.1 (hB.1.obj lc_X_0) h1 h2 h3 (Nat.le_of_ble_eq_true rfl) ⟨Nat.le_of_ble_eq_true rfl, Nat.le_of_ble_eq_true rfl⟩ dX8_loavesOf_2) (fun H locs hB => ?_)
  refine W.eq (g2 := F0 m 5 ls []) rfl ?_
  refine lv_aload_n hx hb dX8_loavesOf_5 rfl (lv_at hl 0 rfl) ?_
  obtain ⟨h3, hf⟩ := ck_some hf
  refine bk_getS X hB kl_X8 0 lc_X_0 0 (by decide) rfl h3 wm_654 dX8_loavesOf_6 ?_
  obtain ⟨i4, ei4⟩ : ∃ y : Nat, y = (v 0).toNatClampNeg := ⟨_, rfl⟩
  have hf := nm_use hf ei4
  rw [← ei4]
  have hi4 : i4 < 12 := by rw [ei4]; exact vp_lt h3
  refine bk_getR X hB kl_X6 (stC i4 + 0) ((subX_St _ hi4).at lc_St_0) 7 (by decide) rfl wm_236 dX8_loavesOf_9 ?_
  refine bk_getR X hB kl_X1 (stC i4 + 20) ((subX_St _ hi4).at lc_St_20) 5 (by decide) rfl wm_113 dX8_loavesOf_12 ?_
  refine lv_iload_n hx hb dX8_loavesOf_15 rfl (lv_at hl 1 rfl) ?_
  obtain ⟨h5, hf⟩ := ck_some hf
  refine bk_ald X hB (stC i4 + 25) ((subX_St _ hi4).at lc_St_25) h5 dX8_loavesOf_16 ?_
  exact bk_iR X hr rfl hf hB (Nat.le_of_ble_eq_true rfl) (Nat.le_of_ble_eq_true rfl) dX8_loavesOf_17
theorem yv_X8_loavesOf : bYv yX8_loavesOf RX8 cX8_loavesOf 2 (some .int) 1 := ⟨⟨rfl, by decide, by decide, rfl⟩, wm_1066, wm_1067, wm_1, wm_1068⟩

def xX8_loavesOf (p1 : Int32) (v : bM) : Option Nat :=
  xr (xX8_requireBread p1 v) <| bnr (fX8_requireBread p1 v) fun r2 => none
set_option maxRecDepth 100000 in
set_option maxHeartbeats 4000000 in
theorem mxX8_loavesOf {l : Launch} (hlt : l.stackTraces = false) {p1 : Int32} {v : bM} {r0 : Nat} (hf : xX8_loavesOf p1 v = some r0) : bMetX l yX8_loavesOf cX8_loavesOf 2 (some .int) 8 1 6 LX (fun E a => [.ref a, .int p1]) v r0 := by
  refine bk_startX (by decide +kernel) wfX (fun _ _ => Nat.le_of_ble_eq_true rfl) ?_
  intro p e s m args below meth c D E a ls H locs X hr hxt hl hB
  have hx := X.1
  have hb := X.2.1
  have hown := X.2.2.2.1
  have hts := X.2.2.2.2.1
  have hl : lv_has ls 2 [(0, .ref a), (1, .int p1)] := hl
  have hf := (xX8_loavesOf.eq_1 p1 v).symm.trans hf
  refine lv_aload_n hx hb dX8_loavesOf_0 rfl (lv_at hl 0 rfl) ?_
  refine lv_iload_n hx hb dX8_loavesOf_1 rfl (lv_at hl 1 rfl) ?_
  refine xr_cases hf (fun hX => ?_) (fun hf => ?_)
  · exact bk_allX hxt X hB (fun h1 h2 h3 => bk_runVX X (Av := [.int p1]) (rest := []) (mxX8_requireBread hlt hX) yv_X8_requireBread wm_1037 ⟨Nat.le_of_ble_eq_true rfl, Nat.le_of_ble_eq_true rfl⟩ rfl rfl hl.1 kl_X8.1 (hB.1.obj lc_X_0) h1 h2 h3 (Nat.le_of_ble_eq_true rfl) ⟨Nat.le_of_ble_eq_true rfl, Nat.le_of_ble_eq_true rfl⟩ dX8_loavesOf_2)
  obtain ⟨r2, hc1, hf⟩ := bnr_some hf
  refine bk_all hB (fun h1 h2 h3 => bk_runV X (Av := [.int p1]) (rest := []) (mX8_requireBread hc1) yv_X8_requireBread wm_1037 ⟨Nat.le_of_ble_eq_true rfl, Nat.le_of_ble_eq_true rfl⟩ rfl rfl hl.1 kl_X8.1 (hB.1.obj lc_X_0) h1 h2 h3 (Nat.le_of_ble_eq_true rfl) ⟨Nat.le_of_ble_eq_true rfl, Nat.le_of_ble_eq_true rfl⟩ dX8_loavesOf_2) (fun H locs hB => ?_)
  refine W.eq (g2 := F0 m 5 ls []) rfl ?_
  cases hf

theorem dX8_ovenCount_0 : decode cX8_ovenCount 0 = .ok (.aload_n 0, 1) := by decide +kernel
theorem dX8_ovenCount_1 : decode cX8_ovenCount 1 = .ok (.getfield 10, 3) := by decide +kernel
theorem dX8_ovenCount_4 : decode cX8_ovenCount 4 = .ok (.getfield 181, 3) := by decide +kernel
theorem dX8_ovenCount_7 : decode cX8_ovenCount 7 = .ok (.getfield 185, 3) := by decide +kernel
theorem dX8_ovenCount_10 : decode cX8_ovenCount 10 = .ok (.ireturn, 1) := by decide +kernel
def fX8_ovenCount  (v : bM) : Option Int32 :=
  ck (v 0) 12 <| nm (v 0).toNatClampNeg fun i2 => some (v (stO i2 + 248))
set_option maxRecDepth 100000 in
set_option maxHeartbeats 4000000 in
theorem mX8_ovenCount {l : Launch}  {v : bM} {r0 : Int32} (hf : fX8_ovenCount  v = some r0) : bMet l yX8_ovenCount cX8_ovenCount 1 (some .int) 0 0 0 LX (fun E a => [.ref a]) v v (fun _ => some (.int r0)) := by
  refine bk_start (by decide +kernel) wfX (fun _ _ => Nat.le_of_ble_eq_true rfl) ?_
  intro p e s m args below meth c D E a ls H locs X hr hl hB
  have hx := X.1
  have hb := X.2.1
  have hown := X.2.2.2.1
  have hts := X.2.2.2.2.1
  have hl : lv_has ls 1 [(0, .ref a)] := hl
  have hf := (fX8_ovenCount.eq_1  v).symm.trans hf
  refine lv_aload_n hx hb dX8_ovenCount_0 rfl (lv_at hl 0 rfl) ?_
  obtain ⟨h1, hf⟩ := ck_some hf
  refine bk_getS X hB kl_X8 0 lc_X_0 0 (by decide) rfl h1 wm_654 dX8_ovenCount_1 ?_
  obtain ⟨i2, ei2⟩ : ∃ y : Nat, y = (v 0).toNatClampNeg := ⟨_, rfl⟩
  have hf := nm_use hf ei2
  rw [← ei2]
  have hi2 : i2 < 12 := by rw [ei2]; exact vp_lt h1
  refine bk_getR X hB kl_X6 (stC i2 + 0) ((subX_St _ hi2).at lc_St_0) 8 (by decide) rfl wm_239 dX8_ovenCount_4 ?_
  refine bk_getI X hB kl_X5 (stC i2 + 34) ((subX_St _ hi2).at lc_St_34) 0 (by decide) rfl wm_143 dX8_ovenCount_7 ?_
  exact bk_iR X hr rfl hf hB (Nat.le_of_ble_eq_true rfl) (Nat.le_of_ble_eq_true rfl) dX8_ovenCount_10
theorem yv_X8_ovenCount : bYv yX8_ovenCount RX8 cX8_ovenCount 1 (some .int) 0 := ⟨⟨rfl, by decide, by decide, rfl⟩, wm_768, wm_769, wm_1, wm_770⟩

theorem dX8_freeAt_0 : decode cX8_freeAt 0 = .ok (.iload_n 1, 1) := by decide +kernel
theorem dX8_freeAt_1 : decode cX8_freeAt 1 = .ok (.aload_n 0, 1) := by decide +kernel
theorem dX8_freeAt_2 : decode cX8_freeAt 2 = .ok (.getfield 10, 3) := by decide +kernel
theorem dX8_freeAt_5 : decode cX8_freeAt 5 = .ok (.getfield 181, 3) := by decide +kernel
theorem dX8_freeAt_8 : decode cX8_freeAt 8 = .ok (.getfield 185, 3) := by decide +kernel
theorem dX8_freeAt_11 : decode cX8_freeAt 11 = .ok (.invokestatic 188, 3) := by decide +kernel
theorem dX8_freeAt_14 : decode cX8_freeAt 14 = .ok (.aload_n 0, 1) := by decide +kernel
theorem dX8_freeAt_15 : decode cX8_freeAt 15 = .ok (.getfield 10, 3) := by decide +kernel
theorem dX8_freeAt_18 : decode cX8_freeAt 18 = .ok (.getfield 181, 3) := by decide +kernel
theorem dX8_freeAt_21 : decode cX8_freeAt 21 = .ok (.getfield 191, 3) := by decide +kernel
theorem dX8_freeAt_24 : decode cX8_freeAt 24 = .ok (.iload_n 1, 1) := by decide +kernel
theorem dX8_freeAt_25 : decode cX8_freeAt 25 = .ok (.iaload, 1) := by decide +kernel
theorem dX8_freeAt_26 : decode cX8_freeAt 26 = .ok (.ireturn, 1) := by decide +kernel
def fX8_freeAt (p1 : Int32) (v : bM) : Option Int32 :=
  ck (v 0) 12 <| nm (v 0).toNatClampNeg fun i2 => bnr (fX8_requireIndex p1 (v (stO i2 + 248))) fun r4 => ck (v 0) 12 <| nm (v 0).toNatClampNeg fun i6 => ck p1 3 <| some (v (stO i6 + 250 + p1.toNatClampNeg))
set_option maxRecDepth 100000 in
set_option maxHeartbeats 4000000 in
theorem mX8_freeAt {l : Launch} {p1 : Int32} {v : bM} {r0 : Int32} (hf : fX8_freeAt p1 v = some r0) : bMet l yX8_freeAt cX8_freeAt 2 (some .int) 1 0 0 LX (fun E a => [.ref a, .int p1]) v v (fun _ => some (.int r0)) := by
  refine bk_start (by decide +kernel) wfX (fun _ _ => Nat.le_of_ble_eq_true rfl) ?_
  intro p e s m args below meth c D E a ls H locs X hr hl hB
  have hx := X.1
  have hb := X.2.1
  have hown := X.2.2.2.1
  have hts := X.2.2.2.2.1
  have hl : lv_has ls 2 [(0, .ref a), (1, .int p1)] := hl
  have hf := (fX8_freeAt.eq_1 p1 v).symm.trans hf
  refine lv_iload_n hx hb dX8_freeAt_0 rfl (lv_at hl 1 rfl) ?_
  refine lv_aload_n hx hb dX8_freeAt_1 rfl (lv_at hl 0 rfl) ?_
  obtain ⟨h1, hf⟩ := ck_some hf
  refine bk_getS X hB kl_X8 0 lc_X_0 0 (by decide) rfl h1 wm_654 dX8_freeAt_2 ?_
  obtain ⟨i2, ei2⟩ : ∃ y : Nat, y = (v 0).toNatClampNeg := ⟨_, rfl⟩
  have hf := nm_use hf ei2
  rw [← ei2]
  have hi2 : i2 < 12 := by rw [ei2]; exact vp_lt h1
  refine bk_getR X hB kl_X6 (stC i2 + 0) ((subX_St _ hi2).at lc_St_0) 8 (by decide) rfl wm_239 dX8_freeAt_5 ?_
  refine bk_getI X hB kl_X5 (stC i2 + 34) ((subX_St _ hi2).at lc_St_34) 0 (by decide) rfl wm_143 dX8_freeAt_8 ?_
  obtain ⟨r4, hc3, hf⟩ := bnr_some hf
  refine bk_non (v0 := v) (w0 := v) hB (fun h1 h2 h3 => bk_runS X (Av := [.int p1, .int (v (stO i2 + 248))]) (rest := []) (mX8_requireIndex hc3) ys_X8_requireIndex wm_924 ⟨Nat.le_of_ble_eq_true rfl, Nat.le_of_ble_eq_true rfl⟩ rfl rfl hl.1 h1 h2 h3 (Nat.le_of_ble_eq_true rfl) ⟨Nat.le_of_ble_eq_true rfl, Nat.le_of_ble_eq_true rfl⟩ dX8_freeAt_11) (fun H locs hB => ?_)
  refine W.eq (g2 := F0 m 14 ls []) rfl ?_
  refine lv_aload_n hx hb dX8_freeAt_14 rfl (lv_at hl 0 rfl) ?_
  obtain ⟨h5, hf⟩ := ck_some hf
  refine bk_getS X hB kl_X8 0 lc_X_0 0 (by decide) rfl h5 wm_654 dX8_freeAt_15 ?_
  obtain ⟨i6, ei6⟩ : ∃ y : Nat, y = (v 0).toNatClampNeg := ⟨_, rfl⟩
  have hf := nm_use hf ei6
  rw [← ei6]
  have hi6 : i6 < 12 := by rw [ei6]; exact vp_lt h5
  refine bk_getR X hB kl_X6 (stC i6 + 0) ((subX_St _ hi6).at lc_St_0) 8 (by decide) rfl wm_239 dX8_freeAt_18 ?_
  refine bk_getR X hB kl_X5 (stC i6 + 34) ((subX_St _ hi6).at lc_St_34) 2 (by decide) rfl wm_149 dX8_freeAt_21 ?_
  refine lv_iload_n hx hb dX8_freeAt_24 rfl (lv_at hl 1 rfl) ?_
  obtain ⟨h7, hf⟩ := ck_some hf
  refine bk_ald X hB (stC i6 + 35) ((subX_St _ hi6).at lc_St_35) h7 dX8_freeAt_25 ?_
  exact bk_iR X hr rfl hf hB (Nat.le_of_ble_eq_true rfl) (Nat.le_of_ble_eq_true rfl) dX8_freeAt_26
theorem yv_X8_freeAt : bYv yX8_freeAt RX8 cX8_freeAt 2 (some .int) 1 := ⟨⟨rfl, by decide, by decide, rfl⟩, wm_1073, wm_1074, wm_1, wm_1075⟩

def xX8_freeAt (p1 : Int32) (v : bM) : Option Nat :=
  ck (v 0) 12 <| nm (v 0).toNatClampNeg fun i2 => xr (xX8_requireIndex p1 (v (stO i2 + 248))) <| bnr (fX8_requireIndex p1 (v (stO i2 + 248))) fun r4 => none
set_option maxRecDepth 100000 in
set_option maxHeartbeats 4000000 in
theorem mxX8_freeAt {l : Launch} (hlt : l.stackTraces = false) {p1 : Int32} {v : bM} {r0 : Nat} (hf : xX8_freeAt p1 v = some r0) : bMetX l yX8_freeAt cX8_freeAt 2 (some .int) 7 1 6 LX (fun E a => [.ref a, .int p1]) v r0 := by
  refine bk_startX (by decide +kernel) wfX (fun _ _ => Nat.le_of_ble_eq_true rfl) ?_
  intro p e s m args below meth c D E a ls H locs X hr hxt hl hB
  have hx := X.1
  have hb := X.2.1
  have hown := X.2.2.2.1
  have hts := X.2.2.2.2.1
  have hl : lv_has ls 2 [(0, .ref a), (1, .int p1)] := hl
  have hf := (xX8_freeAt.eq_1 p1 v).symm.trans hf
  refine lv_iload_n hx hb dX8_freeAt_0 rfl (lv_at hl 1 rfl) ?_
  refine lv_aload_n hx hb dX8_freeAt_1 rfl (lv_at hl 0 rfl) ?_
  obtain ⟨h1, hf⟩ := ck_some hf
  refine bk_getS X hB kl_X8 0 lc_X_0 0 (by decide) rfl h1 wm_654 dX8_freeAt_2 ?_
  obtain ⟨i2, ei2⟩ : ∃ y : Nat, y = (v 0).toNatClampNeg := ⟨_, rfl⟩
  have hf := nm_use hf ei2
  rw [← ei2]
  have hi2 : i2 < 12 := by rw [ei2]; exact vp_lt h1
  refine bk_getR X hB kl_X6 (stC i2 + 0) ((subX_St _ hi2).at lc_St_0) 8 (by decide) rfl wm_239 dX8_freeAt_5 ?_
  refine bk_getI X hB kl_X5 (stC i2 + 34) ((subX_St _ hi2).at lc_St_34) 0 (by decide) rfl wm_143 dX8_freeAt_8 ?_
  refine xr_cases hf (fun hX => ?_) (fun hf => ?_)
  · exact bk_nonX (v0 := v) hxt X hB (fun h1 h2 h3 => bk_runSX X (Av := [.int p1, .int (v (stO i2 + 248))]) (rest := []) (mxX8_requireIndex hlt hX) ys_X8_requireIndex wm_924 ⟨Nat.le_of_ble_eq_true rfl, Nat.le_of_ble_eq_true rfl⟩ rfl rfl hl.1 h1 h2 h3 (Nat.le_of_ble_eq_true rfl) ⟨Nat.le_of_ble_eq_true rfl, Nat.le_of_ble_eq_true rfl⟩ dX8_freeAt_11)
  obtain ⟨r4, hc3, hf⟩ := bnr_some hf
  refine bk_non (v0 := v) (w0 := v) hB (fun h1 h2 h3 => bk_runS X (Av := [.int p1, .int (v (stO i2 + 248))]) (rest := []) (mX8_requireIndex hc3) ys_X8_requireIndex wm_924 ⟨Nat.le_of_ble_eq_true rfl, Nat.le_of_ble_eq_true rfl⟩ rfl rfl hl.1 h1 h2 h3 (Nat.le_of_ble_eq_true rfl) ⟨Nat.le_of_ble_eq_true rfl, Nat.le_of_ble_eq_true rfl⟩ dX8_freeAt_11) (fun H locs hB => ?_)
  refine W.eq (g2 := F0 m 14 ls []) rfl ?_
  cases hf

theorem dX8_nextOven_0 : decode cX8_nextOven 0 = .ok (.aload_n 0, 1) := by decide +kernel
theorem dX8_nextOven_1 : decode cX8_nextOven 1 = .ok (.getfield 10, 3) := by decide +kernel
theorem dX8_nextOven_4 : decode cX8_nextOven 4 = .ok (.getfield 181, 3) := by decide +kernel
theorem dX8_nextOven_7 : decode cX8_nextOven 7 = .ok (.invokevirtual 194, 3) := by decide +kernel
theorem dX8_nextOven_10 : decode cX8_nextOven 10 = .ok (.ireturn, 1) := by decide +kernel
def fX8_nextOven  (v : bM) : Option Int32 :=
  ck (v 0) 12 <| nm (v 0).toNatClampNeg fun i2 => bnr (fX5_firstFree (vw v (stO i2 + 248))) fun r4 => some (r4)
set_option maxRecDepth 100000 in
set_option maxHeartbeats 4000000 in
theorem mX8_nextOven {l : Launch}  {v : bM} {r0 : Int32} (hf : fX8_nextOven  v = some r0) : bMet l yX8_nextOven cX8_nextOven 1 (some .int) 1 0 0 LX (fun E a => [.ref a]) v v (fun _ => some (.int r0)) := by
  refine bk_start (by decide +kernel) wfX (fun _ _ => Nat.le_of_ble_eq_true rfl) ?_
  intro p e s m args below meth c D E a ls H locs X hr hl hB
  have hx := X.1
  have hb := X.2.1
  have hown := X.2.2.2.1
  have hts := X.2.2.2.2.1
  have hl : lv_has ls 1 [(0, .ref a)] := hl
  have hf := (fX8_nextOven.eq_1  v).symm.trans hf
  refine lv_aload_n hx hb dX8_nextOven_0 rfl (lv_at hl 0 rfl) ?_
  obtain ⟨h1, hf⟩ := ck_some hf
  refine bk_getS X hB kl_X8 0 lc_X_0 0 (by decide) rfl h1 wm_654 dX8_nextOven_1 ?_
  obtain ⟨i2, ei2⟩ : ∃ y : Nat, y = (v 0).toNatClampNeg := ⟨_, rfl⟩
  have hf := nm_use hf ei2
  rw [← ei2]
  have hi2 : i2 < 12 := by rw [ei2]; exact vp_lt h1
  refine bk_getR X hB kl_X6 (stC i2 + 0) ((subX_St _ hi2).at lc_St_0) 8 (by decide) rfl wm_239 dX8_nextOven_4 ?_
  obtain ⟨r4, hc3, hf⟩ := bnr_some hf
  refine bk_subR (subX_St_34 _ hi2) hB (fun h1 h2 h3 => bk_runV X (Av := []) (rest := []) (mX5_firstFree hc3) yv_X5_firstFree wm_775 ⟨Nat.le_of_ble_eq_true rfl, Nat.le_of_ble_eq_true rfl⟩ rfl rfl hl.1 kl_X5.1 (hB.1.obj ((subX_St _ hi2).at lc_St_34)) h1 h2 h3 (Nat.le_of_ble_eq_true rfl) ⟨Nat.le_of_ble_eq_true rfl, Nat.le_of_ble_eq_true rfl⟩ dX8_nextOven_7) (fun H locs hB => ?_)
  refine W.eq (g2 := F0 m 10 ls [.int r4]) rfl ?_
  exact bk_iR X hr rfl hf hB (Nat.le_of_ble_eq_true rfl) (Nat.le_of_ble_eq_true rfl) dX8_nextOven_10
theorem yv_X8_nextOven : bYv yX8_nextOven RX8 cX8_nextOven 1 (some .int) 0 := ⟨⟨rfl, by decide, by decide, rfl⟩, wm_772, wm_773, wm_1, wm_774⟩

theorem dX8_requireRange_0 : decode cX8_requireRange 0 = .ok (.iload_n 0, 1) := by decide +kernel
theorem dX8_requireRange_1 : decode cX8_requireRange 1 = .ok (.iload_n 1, 1) := by decide +kernel
theorem dX8_requireRange_2 : decode cX8_requireRange 2 = .ok (.if_icmp .lt 8, 3) := by decide +kernel
theorem dX8_requireRange_5 : decode cX8_requireRange 5 = .ok (.iload_n 0, 1) := by decide +kernel
theorem dX8_requireRange_6 : decode cX8_requireRange 6 = .ok (.iload_n 2, 1) := by decide +kernel
theorem dX8_requireRange_7 : decode cX8_requireRange 7 = .ok (.if_icmp .le 14, 3) := by decide +kernel
theorem dX8_requireRange_10 : decode cX8_requireRange 10 = .ok (.new 352, 3) := by decide +kernel
theorem dX8_requireRange_13 : decode cX8_requireRange 13 = .ok (.dup, 1) := by decide +kernel
theorem dX8_requireRange_14 : decode cX8_requireRange 14 = .ok (.ldc_w 354, 3) := by decide +kernel
theorem dX8_requireRange_17 : decode cX8_requireRange 17 = .ok (.invokespecial 356, 3) := by decide +kernel
theorem dX8_requireRange_20 : decode cX8_requireRange 20 = .ok (.athrow, 1) := by decide +kernel
theorem dX8_requireRange_21 : decode cX8_requireRange 21 = .ok (.return_, 1) := by decide +kernel
def fX8_requireRange (p0 : Int32) (p1 : Int32) (p2 : Int32) : Option Unit :=
  (if p0 < p1 then (none) else ((if p0 ≤ p2 then (some ()) else (none))))
set_option maxRecDepth 100000 in
set_option maxHeartbeats 4000000 in
theorem mX8_requireRange {l : Launch} {p0 : Int32} {p1 : Int32} {p2 : Int32} {v : bM} (hf : fX8_requireRange p0 p1 p2 = some ()) : bMet l yX8_requireRange cX8_requireRange 3 none 0 0 0 [] (fun E a => [.int p0, .int p1, .int p2]) v v (fun _ => none) := by
  refine bk_start (by decide +kernel) bWf_nil (fun _ _ => Nat.le_of_ble_eq_true rfl) ?_
  intro p e s m args below meth c D E a ls H locs X hr hl hB
  have hx := X.1
  have hb := X.2.1
  have hown := X.2.2.2.1
  have hts := X.2.2.2.2.1
  have hl : lv_has ls 3 [(0, .int p0), (1, .int p1), (2, .int p2)] := hl
  have hf := (fX8_requireRange.eq_1 p0 p1 p2).symm.trans hf
  refine lv_iload_n hx hb dX8_requireRange_0 rfl (lv_at hl 0 rfl) ?_
  refine lv_iload_n hx hb dX8_requireRange_1 rfl (lv_at hl 1 rfl) ?_
  refine lv_icmp_lt (tgt := 10) hx hb dX8_requireRange_2 (by decide) (fun c1 => ?_) (fun c1 => ?_)
  · have hf := (if_pos c1).symm.trans hf
    cases hf
  · have hf := (if_neg c1).symm.trans hf
    refine lv_iload_n hx hb dX8_requireRange_5 rfl (lv_at hl 0 rfl) ?_
    refine lv_iload_n hx hb dX8_requireRange_6 rfl (lv_at hl 2 rfl) ?_
    refine lv_icmp_le (tgt := 21) hx hb dX8_requireRange_7 (by decide) (fun c2 => ?_) (fun c2 => ?_)
    · have hf := (if_pos c2).symm.trans hf
      exact bk_vret X hr rfl hB (Nat.le_of_ble_eq_true rfl) (Nat.le_of_ble_eq_true rfl) dX8_requireRange_21
    · have hf := (if_neg c2).symm.trans hf
      cases hf
theorem ys_X8_requireRange : bYs yX8_requireRange RX8 cX8_requireRange 3 none 3 := ⟨⟨rfl, by decide, by decide, rfl⟩, wm_1085, wm_1, wm_1086⟩

def xX8_requireRange (p0 : Int32) (p1 : Int32) (p2 : Int32) : Option Nat :=
  (if p0 < p1 then (some 1) else ((if p0 ≤ p2 then (none) else (some 1))))
set_option maxRecDepth 100000 in
set_option maxHeartbeats 4000000 in
theorem mxX8_requireRange {l : Launch} (hlt : l.stackTraces = false) {p0 : Int32} {p1 : Int32} {p2 : Int32} {v : bM} {r0 : Nat} (hf : xX8_requireRange p0 p1 p2 = some r0) : bMetX l yX8_requireRange cX8_requireRange 3 none 6 1 6 [] (fun E a => [.int p0, .int p1, .int p2]) v r0 := by
  refine bk_startX (by decide +kernel) bWf_nil (fun _ _ => Nat.le_of_ble_eq_true rfl) ?_
  intro p e s m args below meth c D E a ls H locs X hr hxt hl hB
  have hx := X.1
  have hb := X.2.1
  have hown := X.2.2.2.1
  have hts := X.2.2.2.2.1
  have hl : lv_has ls 3 [(0, .int p0), (1, .int p1), (2, .int p2)] := hl
  have hf := (xX8_requireRange.eq_1 p0 p1 p2).symm.trans hf
  refine lv_iload_n hx hb dX8_requireRange_0 rfl (lv_at hl 0 rfl) ?_
  refine lv_iload_n hx hb dX8_requireRange_1 rfl (lv_at hl 1 rfl) ?_
  refine lv_icmp_lt (tgt := 10) hx hb dX8_requireRange_2 (by decide) (fun c1 => ?_) (fun c1 => ?_)
  · have hf := (if_pos c1).symm.trans hf
    exact bk_thr1 X hxt hlt hl.1 hB hf wm_1087 16 rfl dX8_requireRange_10 dX8_requireRange_13 dX8_requireRange_14 dX8_requireRange_17 dX8_requireRange_20 ⟨Nat.le_of_ble_eq_true rfl, Nat.le_of_ble_eq_true rfl, Nat.le_of_ble_eq_true rfl, Nat.le_of_ble_eq_true rfl⟩ (Nat.le_of_ble_eq_true rfl) (Nat.le_of_ble_eq_true rfl)
  · have hf := (if_neg c1).symm.trans hf
    refine lv_iload_n hx hb dX8_requireRange_5 rfl (lv_at hl 0 rfl) ?_
    refine lv_iload_n hx hb dX8_requireRange_6 rfl (lv_at hl 2 rfl) ?_
    refine lv_icmp_le (tgt := 21) hx hb dX8_requireRange_7 (by decide) (fun c2 => ?_) (fun c2 => ?_)
    · have hf := (if_pos c2).symm.trans hf
      cases hf
    · have hf := (if_neg c2).symm.trans hf
      exact bk_thr1 X hxt hlt hl.1 hB hf wm_1087 16 rfl dX8_requireRange_10 dX8_requireRange_13 dX8_requireRange_14 dX8_requireRange_17 dX8_requireRange_20 ⟨Nat.le_of_ble_eq_true rfl, Nat.le_of_ble_eq_true rfl, Nat.le_of_ble_eq_true rfl, Nat.le_of_ble_eq_true rfl⟩ (Nat.le_of_ble_eq_true rfl) (Nat.le_of_ble_eq_true rfl)

theorem dX8_rateAt_0 : decode cX8_rateAt 0 = .ok (.iload_n 1, 1) := by decide +kernel
theorem dX8_rateAt_1 : decode cX8_rateAt 1 = .ok (.iconst 0, 1) := by decide +kernel
theorem dX8_rateAt_2 : decode cX8_rateAt 2 = .ok (.bipush 23, 2) := by decide +kernel
theorem dX8_rateAt_4 : decode cX8_rateAt 4 = .ok (.invokestatic 197, 3) := by decide +kernel
theorem dX8_rateAt_7 : decode cX8_rateAt 7 = .ok (.aload_n 0, 1) := by decide +kernel
theorem dX8_rateAt_8 : decode cX8_rateAt 8 = .ok (.getfield 10, 3) := by decide +kernel
theorem dX8_rateAt_11 : decode cX8_rateAt 11 = .ok (.getfield 181, 3) := by decide +kernel
theorem dX8_rateAt_14 : decode cX8_rateAt 14 = .ok (.getfield 201, 3) := by decide +kernel
theorem dX8_rateAt_17 : decode cX8_rateAt 17 = .ok (.iload_n 1, 1) := by decide +kernel
theorem dX8_rateAt_18 : decode cX8_rateAt 18 = .ok (.iaload, 1) := by decide +kernel
theorem dX8_rateAt_19 : decode cX8_rateAt 19 = .ok (.ireturn, 1) := by decide +kernel
def fX8_rateAt (p1 : Int32) (v : bM) : Option Int32 :=
  bnr (fX8_requireRange p1 0 23) fun r2 => ck (v 0) 12 <| nm (v 0).toNatClampNeg fun i4 => ck p1 24 <| some (v (stO i4 + 253 + p1.toNatClampNeg))
set_option maxRecDepth 100000 in
set_option maxHeartbeats 4000000 in
theorem mX8_rateAt {l : Launch} {p1 : Int32} {v : bM} {r0 : Int32} (hf : fX8_rateAt p1 v = some r0) : bMet l yX8_rateAt cX8_rateAt 2 (some .int) 1 0 0 LX (fun E a => [.ref a, .int p1]) v v (fun _ => some (.int r0)) := by
  refine bk_start (by decide +kernel) wfX (fun _ _ => Nat.le_of_ble_eq_true rfl) ?_
  intro p e s m args below meth c D E a ls H locs X hr hl hB
  have hx := X.1
  have hb := X.2.1
  have hown := X.2.2.2.1
  have hts := X.2.2.2.2.1
  have hl : lv_has ls 2 [(0, .ref a), (1, .int p1)] := hl
  have hf := (fX8_rateAt.eq_1 p1 v).symm.trans hf
  refine lv_iload_n hx hb dX8_rateAt_0 rfl (lv_at hl 1 rfl) ?_
  refine lv_iconst (v := 0) hx hb dX8_rateAt_1 (by decide) ?_
  refine lv_bipush (v := 23) hx hb dX8_rateAt_2 (by decide) ?_
  obtain ⟨r2, hc1, hf⟩ := bnr_some hf
  refine bk_non (v0 := v) (w0 := v) hB (fun h1 h2 h3 => bk_runS X (Av := [.int p1, .int 0, .int 23]) (rest := []) (mX8_requireRange hc1) ys_X8_requireRange wm_1084 ⟨Nat.le_of_ble_eq_true rfl, Nat.le_of_ble_eq_true rfl⟩ rfl rfl hl.1 h1 h2 h3 (Nat.le_of_ble_eq_true rfl) ⟨Nat.le_of_ble_eq_true rfl, Nat.le_of_ble_eq_true rfl⟩ dX8_rateAt_4) (fun H locs hB => ?_)
  refine W.eq (g2 := F0 m 7 ls []) rfl ?_
  refine lv_aload_n hx hb dX8_rateAt_7 rfl (lv_at hl 0 rfl) ?_
  obtain ⟨h3, hf⟩ := ck_some hf
  refine bk_getS X hB kl_X8 0 lc_X_0 0 (by decide) rfl h3 wm_654 dX8_rateAt_8 ?_
  obtain ⟨i4, ei4⟩ : ∃ y : Nat, y = (v 0).toNatClampNeg := ⟨_, rfl⟩
  have hf := nm_use hf ei4
  rw [← ei4]
  have hi4 : i4 < 12 := by rw [ei4]; exact vp_lt h3
  refine bk_getR X hB kl_X6 (stC i4 + 0) ((subX_St _ hi4).at lc_St_0) 8 (by decide) rfl wm_239 dX8_rateAt_11 ?_
  refine bk_getR X hB kl_X5 (stC i4 + 34) ((subX_St _ hi4).at lc_St_34) 3 (by decide) rfl wm_152 dX8_rateAt_14 ?_
  refine lv_iload_n hx hb dX8_rateAt_17 rfl (lv_at hl 1 rfl) ?_
  obtain ⟨h5, hf⟩ := ck_some hf
  refine bk_ald X hB (stC i4 + 36) ((subX_St _ hi4).at lc_St_36) h5 dX8_rateAt_18 ?_
  exact bk_iR X hr rfl hf hB (Nat.le_of_ble_eq_true rfl) (Nat.le_of_ble_eq_true rfl) dX8_rateAt_19
theorem yv_X8_rateAt : bYv yX8_rateAt RX8 cX8_rateAt 2 (some .int) 1 := ⟨⟨rfl, by decide, by decide, rfl⟩, wm_1081, wm_1082, wm_1, wm_1083⟩

def xX8_rateAt (p1 : Int32) (v : bM) : Option Nat :=
  xr (xX8_requireRange p1 0 23) <| bnr (fX8_requireRange p1 0 23) fun r2 => none
set_option maxRecDepth 100000 in
set_option maxHeartbeats 4000000 in
theorem mxX8_rateAt {l : Launch} (hlt : l.stackTraces = false) {p1 : Int32} {v : bM} {r0 : Nat} (hf : xX8_rateAt p1 v = some r0) : bMetX l yX8_rateAt cX8_rateAt 2 (some .int) 7 1 6 LX (fun E a => [.ref a, .int p1]) v r0 := by
  refine bk_startX (by decide +kernel) wfX (fun _ _ => Nat.le_of_ble_eq_true rfl) ?_
  intro p e s m args below meth c D E a ls H locs X hr hxt hl hB
  have hx := X.1
  have hb := X.2.1
  have hown := X.2.2.2.1
  have hts := X.2.2.2.2.1
  have hl : lv_has ls 2 [(0, .ref a), (1, .int p1)] := hl
  have hf := (xX8_rateAt.eq_1 p1 v).symm.trans hf
  refine lv_iload_n hx hb dX8_rateAt_0 rfl (lv_at hl 1 rfl) ?_
  refine lv_iconst (v := 0) hx hb dX8_rateAt_1 (by decide) ?_
  refine lv_bipush (v := 23) hx hb dX8_rateAt_2 (by decide) ?_
  refine xr_cases hf (fun hX => ?_) (fun hf => ?_)
  · exact bk_nonX (v0 := v) hxt X hB (fun h1 h2 h3 => bk_runSX X (Av := [.int p1, .int 0, .int 23]) (rest := []) (mxX8_requireRange hlt hX) ys_X8_requireRange wm_1084 ⟨Nat.le_of_ble_eq_true rfl, Nat.le_of_ble_eq_true rfl⟩ rfl rfl hl.1 h1 h2 h3 (Nat.le_of_ble_eq_true rfl) ⟨Nat.le_of_ble_eq_true rfl, Nat.le_of_ble_eq_true rfl⟩ dX8_rateAt_4)
  obtain ⟨r2, hc1, hf⟩ := bnr_some hf
  refine bk_non (v0 := v) (w0 := v) hB (fun h1 h2 h3 => bk_runS X (Av := [.int p1, .int 0, .int 23]) (rest := []) (mX8_requireRange hc1) ys_X8_requireRange wm_1084 ⟨Nat.le_of_ble_eq_true rfl, Nat.le_of_ble_eq_true rfl⟩ rfl rfl hl.1 h1 h2 h3 (Nat.le_of_ble_eq_true rfl) ⟨Nat.le_of_ble_eq_true rfl, Nat.le_of_ble_eq_true rfl⟩ dX8_rateAt_4) (fun H locs hB => ?_)
  refine W.eq (g2 := F0 m 7 ls []) rfl ?_
  cases hf

theorem dX8_standardRate_0 : decode cX8_standardRate 0 = .ok (.aload_n 0, 1) := by decide +kernel
theorem dX8_standardRate_1 : decode cX8_standardRate 1 = .ok (.getfield 10, 3) := by decide +kernel
theorem dX8_standardRate_4 : decode cX8_standardRate 4 = .ok (.getfield 181, 3) := by decide +kernel
theorem dX8_standardRate_7 : decode cX8_standardRate 7 = .ok (.getfield 204, 3) := by decide +kernel
theorem dX8_standardRate_10 : decode cX8_standardRate 10 = .ok (.ireturn, 1) := by decide +kernel
def fX8_standardRate  (v : bM) : Option Int32 :=
  ck (v 0) 12 <| nm (v 0).toNatClampNeg fun i2 => some (v (stO i2 + 249))
set_option maxRecDepth 100000 in
set_option maxHeartbeats 4000000 in
theorem mX8_standardRate {l : Launch}  {v : bM} {r0 : Int32} (hf : fX8_standardRate  v = some r0) : bMet l yX8_standardRate cX8_standardRate 1 (some .int) 0 0 0 LX (fun E a => [.ref a]) v v (fun _ => some (.int r0)) := by
  refine bk_start (by decide +kernel) wfX (fun _ _ => Nat.le_of_ble_eq_true rfl) ?_
  intro p e s m args below meth c D E a ls H locs X hr hl hB
  have hx := X.1
  have hb := X.2.1
  have hown := X.2.2.2.1
  have hts := X.2.2.2.2.1
  have hl : lv_has ls 1 [(0, .ref a)] := hl
  have hf := (fX8_standardRate.eq_1  v).symm.trans hf
  refine lv_aload_n hx hb dX8_standardRate_0 rfl (lv_at hl 0 rfl) ?_
  obtain ⟨h1, hf⟩ := ck_some hf
  refine bk_getS X hB kl_X8 0 lc_X_0 0 (by decide) rfl h1 wm_654 dX8_standardRate_1 ?_
  obtain ⟨i2, ei2⟩ : ∃ y : Nat, y = (v 0).toNatClampNeg := ⟨_, rfl⟩
  have hf := nm_use hf ei2
  rw [← ei2]
  have hi2 : i2 < 12 := by rw [ei2]; exact vp_lt h1
  refine bk_getR X hB kl_X6 (stC i2 + 0) ((subX_St _ hi2).at lc_St_0) 8 (by decide) rfl wm_239 dX8_standardRate_4 ?_
  refine bk_getI X hB kl_X5 (stC i2 + 34) ((subX_St _ hi2).at lc_St_34) 1 (by decide) rfl wm_146 dX8_standardRate_7 ?_
  exact bk_iR X hr rfl hf hB (Nat.le_of_ble_eq_true rfl) (Nat.le_of_ble_eq_true rfl) dX8_standardRate_10
theorem yv_X8_standardRate : bYv yX8_standardRate RX8 cX8_standardRate 1 (some .int) 0 := ⟨⟨rfl, by decide, by decide, rfl⟩, wm_777, wm_778, wm_1, wm_779⟩

theorem dX8_batchCount_0 : decode cX8_batchCount 0 = .ok (.aload_n 0, 1) := by decide +kernel
theorem dX8_batchCount_1 : decode cX8_batchCount 1 = .ok (.getfield 10, 3) := by decide +kernel
theorem dX8_batchCount_4 : decode cX8_batchCount 4 = .ok (.getfield 93, 3) := by decide +kernel
theorem dX8_batchCount_7 : decode cX8_batchCount 7 = .ok (.getfield 97, 3) := by decide +kernel
theorem dX8_batchCount_10 : decode cX8_batchCount 10 = .ok (.ireturn, 1) := by decide +kernel
def fX8_batchCount  (v : bM) : Option Int32 :=
  ck (v 0) 12 <| nm (v 0).toNatClampNeg fun i2 => some (v (stO i2 + 277))
set_option maxRecDepth 100000 in
set_option maxHeartbeats 4000000 in
theorem mX8_batchCount {l : Launch}  {v : bM} {r0 : Int32} (hf : fX8_batchCount  v = some r0) : bMet l yX8_batchCount cX8_batchCount 1 (some .int) 0 0 0 LX (fun E a => [.ref a]) v v (fun _ => some (.int r0)) := by
  refine bk_start (by decide +kernel) wfX (fun _ _ => Nat.le_of_ble_eq_true rfl) ?_
  intro p e s m args below meth c D E a ls H locs X hr hl hB
  have hx := X.1
  have hb := X.2.1
  have hown := X.2.2.2.1
  have hts := X.2.2.2.2.1
  have hl : lv_has ls 1 [(0, .ref a)] := hl
  have hf := (fX8_batchCount.eq_1  v).symm.trans hf
  refine lv_aload_n hx hb dX8_batchCount_0 rfl (lv_at hl 0 rfl) ?_
  obtain ⟨h1, hf⟩ := ck_some hf
  refine bk_getS X hB kl_X8 0 lc_X_0 0 (by decide) rfl h1 wm_654 dX8_batchCount_1 ?_
  obtain ⟨i2, ei2⟩ : ∃ y : Nat, y = (v 0).toNatClampNeg := ⟨_, rfl⟩
  have hf := nm_use hf ei2
  rw [← ei2]
  have hi2 : i2 < 12 := by rw [ei2]; exact vp_lt h1
  refine bk_getR X hB kl_X6 (stC i2 + 0) ((subX_St _ hi2).at lc_St_0) 9 (by decide) rfl wm_241 dX8_batchCount_4 ?_
  refine bk_getI X hB kl_X0 (stC i2 + 37) ((subX_St _ hi2).at lc_St_37) 0 (by decide) rfl wm_171 dX8_batchCount_7 ?_
  exact bk_iR X hr rfl hf hB (Nat.le_of_ble_eq_true rfl) (Nat.le_of_ble_eq_true rfl) dX8_batchCount_10
theorem yv_X8_batchCount : bYv yX8_batchCount RX8 cX8_batchCount 1 (some .int) 0 := ⟨⟨rfl, by decide, by decide, rfl⟩, wm_781, wm_782, wm_1, wm_783⟩

theorem dX8_requireBatch_0 : decode cX8_requireBatch 0 = .ok (.iload_n 1, 1) := by decide +kernel
theorem dX8_requireBatch_1 : decode cX8_requireBatch 1 = .ok (.aload_n 0, 1) := by decide +kernel
theorem dX8_requireBatch_2 : decode cX8_requireBatch 2 = .ok (.getfield 10, 3) := by decide +kernel
theorem dX8_requireBatch_5 : decode cX8_requireBatch 5 = .ok (.getfield 93, 3) := by decide +kernel
theorem dX8_requireBatch_8 : decode cX8_requireBatch 8 = .ok (.getfield 97, 3) := by decide +kernel
theorem dX8_requireBatch_11 : decode cX8_requireBatch 11 = .ok (.invokestatic 188, 3) := by decide +kernel
theorem dX8_requireBatch_14 : decode cX8_requireBatch 14 = .ok (.return_, 1) := by decide +kernel
def fX8_requireBatch (p1 : Int32) (v : bM) : Option Unit :=
  ck (v 0) 12 <| nm (v 0).toNatClampNeg fun i2 => bnr (fX8_requireIndex p1 (v (stO i2 + 277))) fun r4 => some ()
set_option maxRecDepth 100000 in
set_option maxHeartbeats 4000000 in
theorem mX8_requireBatch {l : Launch} {p1 : Int32} {v : bM} (hf : fX8_requireBatch p1 v = some ()) : bMet l yX8_requireBatch cX8_requireBatch 2 none 1 0 0 LX (fun E a => [.ref a, .int p1]) v v (fun _ => none) := by
  refine bk_start (by decide +kernel) wfX (fun _ _ => Nat.le_of_ble_eq_true rfl) ?_
  intro p e s m args below meth c D E a ls H locs X hr hl hB
  have hx := X.1
  have hb := X.2.1
  have hown := X.2.2.2.1
  have hts := X.2.2.2.2.1
  have hl : lv_has ls 2 [(0, .ref a), (1, .int p1)] := hl
  have hf := (fX8_requireBatch.eq_1 p1 v).symm.trans hf
  refine lv_iload_n hx hb dX8_requireBatch_0 rfl (lv_at hl 1 rfl) ?_
  refine lv_aload_n hx hb dX8_requireBatch_1 rfl (lv_at hl 0 rfl) ?_
  obtain ⟨h1, hf⟩ := ck_some hf
  refine bk_getS X hB kl_X8 0 lc_X_0 0 (by decide) rfl h1 wm_654 dX8_requireBatch_2 ?_
  obtain ⟨i2, ei2⟩ : ∃ y : Nat, y = (v 0).toNatClampNeg := ⟨_, rfl⟩
  have hf := nm_use hf ei2
  rw [← ei2]
  have hi2 : i2 < 12 := by rw [ei2]; exact vp_lt h1
  refine bk_getR X hB kl_X6 (stC i2 + 0) ((subX_St _ hi2).at lc_St_0) 9 (by decide) rfl wm_241 dX8_requireBatch_5 ?_
  refine bk_getI X hB kl_X0 (stC i2 + 37) ((subX_St _ hi2).at lc_St_37) 0 (by decide) rfl wm_171 dX8_requireBatch_8 ?_
  obtain ⟨r4, hc3, hf⟩ := bnr_some hf
  refine bk_non (v0 := v) (w0 := v) hB (fun h1 h2 h3 => bk_runS X (Av := [.int p1, .int (v (stO i2 + 277))]) (rest := []) (mX8_requireIndex hc3) ys_X8_requireIndex wm_924 ⟨Nat.le_of_ble_eq_true rfl, Nat.le_of_ble_eq_true rfl⟩ rfl rfl hl.1 h1 h2 h3 (Nat.le_of_ble_eq_true rfl) ⟨Nat.le_of_ble_eq_true rfl, Nat.le_of_ble_eq_true rfl⟩ dX8_requireBatch_11) (fun H locs hB => ?_)
  refine W.eq (g2 := F0 m 14 ls []) rfl ?_
  exact bk_vret X hr rfl hB (Nat.le_of_ble_eq_true rfl) (Nat.le_of_ble_eq_true rfl) dX8_requireBatch_14
theorem yv_X8_requireBatch : bYv yX8_requireBatch RX8 cX8_requireBatch 2 none 1 := ⟨⟨rfl, by decide, by decide, rfl⟩, wm_1112, wp_22, wm_1, wm_1113⟩

def xX8_requireBatch (p1 : Int32) (v : bM) : Option Nat :=
  ck (v 0) 12 <| nm (v 0).toNatClampNeg fun i2 => xr (xX8_requireIndex p1 (v (stO i2 + 277))) <| bnr (fX8_requireIndex p1 (v (stO i2 + 277))) fun r4 => none
set_option maxRecDepth 100000 in
set_option maxHeartbeats 4000000 in
theorem mxX8_requireBatch {l : Launch} (hlt : l.stackTraces = false) {p1 : Int32} {v : bM} {r0 : Nat} (hf : xX8_requireBatch p1 v = some r0) : bMetX l yX8_requireBatch cX8_requireBatch 2 none 7 1 6 LX (fun E a => [.ref a, .int p1]) v r0 := by
  refine bk_startX (by decide +kernel) wfX (fun _ _ => Nat.le_of_ble_eq_true rfl) ?_
  intro p e s m args below meth c D E a ls H locs X hr hxt hl hB
  have hx := X.1
  have hb := X.2.1
  have hown := X.2.2.2.1
  have hts := X.2.2.2.2.1
  have hl : lv_has ls 2 [(0, .ref a), (1, .int p1)] := hl
  have hf := (xX8_requireBatch.eq_1 p1 v).symm.trans hf
  refine lv_iload_n hx hb dX8_requireBatch_0 rfl (lv_at hl 1 rfl) ?_
  refine lv_aload_n hx hb dX8_requireBatch_1 rfl (lv_at hl 0 rfl) ?_
  obtain ⟨h1, hf⟩ := ck_some hf
  refine bk_getS X hB kl_X8 0 lc_X_0 0 (by decide) rfl h1 wm_654 dX8_requireBatch_2 ?_
  obtain ⟨i2, ei2⟩ : ∃ y : Nat, y = (v 0).toNatClampNeg := ⟨_, rfl⟩
  have hf := nm_use hf ei2
  rw [← ei2]
  have hi2 : i2 < 12 := by rw [ei2]; exact vp_lt h1
  refine bk_getR X hB kl_X6 (stC i2 + 0) ((subX_St _ hi2).at lc_St_0) 9 (by decide) rfl wm_241 dX8_requireBatch_5 ?_
  refine bk_getI X hB kl_X0 (stC i2 + 37) ((subX_St _ hi2).at lc_St_37) 0 (by decide) rfl wm_171 dX8_requireBatch_8 ?_
  refine xr_cases hf (fun hX => ?_) (fun hf => ?_)
  · exact bk_nonX (v0 := v) hxt X hB (fun h1 h2 h3 => bk_runSX X (Av := [.int p1, .int (v (stO i2 + 277))]) (rest := []) (mxX8_requireIndex hlt hX) ys_X8_requireIndex wm_924 ⟨Nat.le_of_ble_eq_true rfl, Nat.le_of_ble_eq_true rfl⟩ rfl rfl hl.1 h1 h2 h3 (Nat.le_of_ble_eq_true rfl) ⟨Nat.le_of_ble_eq_true rfl, Nat.le_of_ble_eq_true rfl⟩ dX8_requireBatch_11)
  obtain ⟨r4, hc3, hf⟩ := bnr_some hf
  refine bk_non (v0 := v) (w0 := v) hB (fun h1 h2 h3 => bk_runS X (Av := [.int p1, .int (v (stO i2 + 277))]) (rest := []) (mX8_requireIndex hc3) ys_X8_requireIndex wm_924 ⟨Nat.le_of_ble_eq_true rfl, Nat.le_of_ble_eq_true rfl⟩ rfl rfl hl.1 h1 h2 h3 (Nat.le_of_ble_eq_true rfl) ⟨Nat.le_of_ble_eq_true rfl, Nat.le_of_ble_eq_true rfl⟩ dX8_requireBatch_11) (fun H locs hB => ?_)
  refine W.eq (g2 := F0 m 14 ls []) rfl ?_
  cases hf

theorem dX8_batchBread_0 : decode cX8_batchBread 0 = .ok (.aload_n 0, 1) := by decide +kernel
theorem dX8_batchBread_1 : decode cX8_batchBread 1 = .ok (.iload_n 1, 1) := by decide +kernel
theorem dX8_batchBread_2 : decode cX8_batchBread 2 = .ok (.invokevirtual 207, 3) := by decide +kernel
theorem dX8_batchBread_5 : decode cX8_batchBread 5 = .ok (.aload_n 0, 1) := by decide +kernel
theorem dX8_batchBread_6 : decode cX8_batchBread 6 = .ok (.getfield 10, 3) := by decide +kernel
theorem dX8_batchBread_9 : decode cX8_batchBread 9 = .ok (.getfield 93, 3) := by decide +kernel
theorem dX8_batchBread_12 : decode cX8_batchBread 12 = .ok (.getfield 210, 3) := by decide +kernel
theorem dX8_batchBread_15 : decode cX8_batchBread 15 = .ok (.iload_n 1, 1) := by decide +kernel
theorem dX8_batchBread_16 : decode cX8_batchBread 16 = .ok (.iaload, 1) := by decide +kernel
theorem dX8_batchBread_17 : decode cX8_batchBread 17 = .ok (.ireturn, 1) := by decide +kernel
def fX8_batchBread (p1 : Int32) (v : bM) : Option Int32 :=
  bnr (fX8_requireBatch p1 v) fun r2 => ck (v 0) 12 <| nm (v 0).toNatClampNeg fun i4 => ck p1 24 <| some (v (stO i4 + 278 + p1.toNatClampNeg))
set_option maxRecDepth 100000 in
set_option maxHeartbeats 4000000 in
theorem mX8_batchBread {l : Launch} {p1 : Int32} {v : bM} {r0 : Int32} (hf : fX8_batchBread p1 v = some r0) : bMet l yX8_batchBread cX8_batchBread 2 (some .int) 2 0 0 LX (fun E a => [.ref a, .int p1]) v v (fun _ => some (.int r0)) := by
  refine bk_start (by decide +kernel) wfX (fun _ _ => Nat.le_of_ble_eq_true rfl) ?_
  intro p e s m args below meth c D E a ls H locs X hr hl hB
  have hx := X.1
  have hb := X.2.1
  have hown := X.2.2.2.1
  have hts := X.2.2.2.2.1
  have hl : lv_has ls 2 [(0, .ref a), (1, .int p1)] := hl
  have hf := (fX8_batchBread.eq_1 p1 v).symm.trans hf
  refine lv_aload_n hx hb dX8_batchBread_0 rfl (lv_at hl 0 rfl) ?_
  refine lv_iload_n hx hb dX8_batchBread_1 rfl (lv_at hl 1 rfl) ?_
  obtain ⟨r2, hc1, hf⟩ := bnr_some hf
  refine bk_all hB (fun h1 h2 h3 => bk_runV X (Av := [.int p1]) (rest := []) (mX8_requireBatch hc1) yv_X8_requireBatch wm_1110 ⟨Nat.le_of_ble_eq_true rfl, Nat.le_of_ble_eq_true rfl⟩ rfl rfl hl.1 kl_X8.1 (hB.1.obj lc_X_0) h1 h2 h3 (Nat.le_of_ble_eq_true rfl) ⟨Nat.le_of_ble_eq_true rfl, Nat.le_of_ble_eq_true rfl⟩ dX8_batchBread_2) (fun H locs hB => ?_)
  refine W.eq (g2 := F0 m 5 ls []) rfl ?_
  refine lv_aload_n hx hb dX8_batchBread_5 rfl (lv_at hl 0 rfl) ?_
  obtain ⟨h3, hf⟩ := ck_some hf
  refine bk_getS X hB kl_X8 0 lc_X_0 0 (by decide) rfl h3 wm_654 dX8_batchBread_6 ?_
  obtain ⟨i4, ei4⟩ : ∃ y : Nat, y = (v 0).toNatClampNeg := ⟨_, rfl⟩
  have hf := nm_use hf ei4
  rw [← ei4]
  have hi4 : i4 < 12 := by rw [ei4]; exact vp_lt h3
  refine bk_getR X hB kl_X6 (stC i4 + 0) ((subX_St _ hi4).at lc_St_0) 9 (by decide) rfl wm_241 dX8_batchBread_9 ?_
  refine bk_getR X hB kl_X0 (stC i4 + 37) ((subX_St _ hi4).at lc_St_37) 1 (by decide) rfl wm_174 dX8_batchBread_12 ?_
  refine lv_iload_n hx hb dX8_batchBread_15 rfl (lv_at hl 1 rfl) ?_
  obtain ⟨h5, hf⟩ := ck_some hf
  refine bk_ald X hB (stC i4 + 38) ((subX_St _ hi4).at lc_St_38) h5 dX8_batchBread_16 ?_
  exact bk_iR X hr rfl hf hB (Nat.le_of_ble_eq_true rfl) (Nat.le_of_ble_eq_true rfl) dX8_batchBread_17
theorem yv_X8_batchBread : bYv yX8_batchBread RX8 cX8_batchBread 2 (some .int) 1 := ⟨⟨rfl, by decide, by decide, rfl⟩, wm_1107, wm_1108, wm_1, wm_1109⟩

def xX8_batchBread (p1 : Int32) (v : bM) : Option Nat :=
  xr (xX8_requireBatch p1 v) <| bnr (fX8_requireBatch p1 v) fun r2 => none
set_option maxRecDepth 100000 in
set_option maxHeartbeats 4000000 in
theorem mxX8_batchBread {l : Launch} (hlt : l.stackTraces = false) {p1 : Int32} {v : bM} {r0 : Nat} (hf : xX8_batchBread p1 v = some r0) : bMetX l yX8_batchBread cX8_batchBread 2 (some .int) 8 1 6 LX (fun E a => [.ref a, .int p1]) v r0 := by
  refine bk_startX (by decide +kernel) wfX (fun _ _ => Nat.le_of_ble_eq_true rfl) ?_
  intro p e s m args below meth c D E a ls H locs X hr hxt hl hB
  have hx := X.1
  have hb := X.2.1
  have hown := X.2.2.2.1
  have hts := X.2.2.2.2.1
  have hl : lv_has ls 2 [(0, .ref a), (1, .int p1)] := hl
  have hf := (xX8_batchBread.eq_1 p1 v).symm.trans hf
  refine lv_aload_n hx hb dX8_batchBread_0 rfl (lv_at hl 0 rfl) ?_
  refine lv_iload_n hx hb dX8_batchBread_1 rfl (lv_at hl 1 rfl) ?_
  refine xr_cases hf (fun hX => ?_) (fun hf => ?_)
  · exact bk_allX hxt X hB (fun h1 h2 h3 => bk_runVX X (Av := [.int p1]) (rest := []) (mxX8_requireBatch hlt hX) yv_X8_requireBatch wm_1110 ⟨Nat.le_of_ble_eq_true rfl, Nat.le_of_ble_eq_true rfl⟩ rfl rfl hl.1 kl_X8.1 (hB.1.obj lc_X_0) h1 h2 h3 (Nat.le_of_ble_eq_true rfl) ⟨Nat.le_of_ble_eq_true rfl, Nat.le_of_ble_eq_true rfl⟩ dX8_batchBread_2)
  obtain ⟨r2, hc1, hf⟩ := bnr_some hf
  refine bk_all hB (fun h1 h2 h3 => bk_runV X (Av := [.int p1]) (rest := []) (mX8_requireBatch hc1) yv_X8_requireBatch wm_1110 ⟨Nat.le_of_ble_eq_true rfl, Nat.le_of_ble_eq_true rfl⟩ rfl rfl hl.1 kl_X8.1 (hB.1.obj lc_X_0) h1 h2 h3 (Nat.le_of_ble_eq_true rfl) ⟨Nat.le_of_ble_eq_true rfl, Nat.le_of_ble_eq_true rfl⟩ dX8_batchBread_2) (fun H locs hB => ?_)
  refine W.eq (g2 := F0 m 5 ls []) rfl ?_
  cases hf

theorem dX8_goodLoaves_0 : decode cX8_goodLoaves 0 = .ok (.aload_n 0, 1) := by decide +kernel
theorem dX8_goodLoaves_1 : decode cX8_goodLoaves 1 = .ok (.iload_n 1, 1) := by decide +kernel
theorem dX8_goodLoaves_2 : decode cX8_goodLoaves 2 = .ok (.invokevirtual 207, 3) := by decide +kernel
theorem dX8_goodLoaves_5 : decode cX8_goodLoaves 5 = .ok (.aload_n 0, 1) := by decide +kernel
theorem dX8_goodLoaves_6 : decode cX8_goodLoaves 6 = .ok (.getfield 10, 3) := by decide +kernel
theorem dX8_goodLoaves_9 : decode cX8_goodLoaves 9 = .ok (.getfield 93, 3) := by decide +kernel
theorem dX8_goodLoaves_12 : decode cX8_goodLoaves 12 = .ok (.getfield 213, 3) := by decide +kernel
theorem dX8_goodLoaves_15 : decode cX8_goodLoaves 15 = .ok (.iload_n 1, 1) := by decide +kernel
theorem dX8_goodLoaves_16 : decode cX8_goodLoaves 16 = .ok (.iaload, 1) := by decide +kernel
theorem dX8_goodLoaves_17 : decode cX8_goodLoaves 17 = .ok (.aload_n 0, 1) := by decide +kernel
theorem dX8_goodLoaves_18 : decode cX8_goodLoaves 18 = .ok (.getfield 10, 3) := by decide +kernel
theorem dX8_goodLoaves_21 : decode cX8_goodLoaves 21 = .ok (.getfield 93, 3) := by decide +kernel
theorem dX8_goodLoaves_24 : decode cX8_goodLoaves 24 = .ok (.getfield 216, 3) := by decide +kernel
theorem dX8_goodLoaves_27 : decode cX8_goodLoaves 27 = .ok (.iload_n 1, 1) := by decide +kernel
theorem dX8_goodLoaves_28 : decode cX8_goodLoaves 28 = .ok (.iaload, 1) := by decide +kernel
theorem dX8_goodLoaves_29 : decode cX8_goodLoaves 29 = .ok (.isub, 1) := by decide +kernel
theorem dX8_goodLoaves_30 : decode cX8_goodLoaves 30 = .ok (.ireturn, 1) := by decide +kernel
def fX8_goodLoaves (p1 : Int32) (v : bM) : Option Int32 :=
  bnr (fX8_requireBatch p1 v) fun r2 => ck (v 0) 12 <| nm (v 0).toNatClampNeg fun i4 => ck p1 24 <| ck (v 0) 12 <| nm (v 0).toNatClampNeg fun i7 => ck p1 24 <| some ((v (stO i4 + 302 + p1.toNatClampNeg)) - (v (stO i7 + 326 + p1.toNatClampNeg)))
set_option maxRecDepth 100000 in
set_option maxHeartbeats 4000000 in
theorem mX8_goodLoaves {l : Launch} {p1 : Int32} {v : bM} {r0 : Int32} (hf : fX8_goodLoaves p1 v = some r0) : bMet l yX8_goodLoaves cX8_goodLoaves 2 (some .int) 2 0 0 LX (fun E a => [.ref a, .int p1]) v v (fun _ => some (.int r0)) := by
  refine bk_start (by decide +kernel) wfX (fun _ _ => Nat.le_of_ble_eq_true rfl) ?_
  intro p e s m args below meth c D E a ls H locs X hr hl hB
  have hx := X.1
  have hb := X.2.1
  have hown := X.2.2.2.1
  have hts := X.2.2.2.2.1
  have hl : lv_has ls 2 [(0, .ref a), (1, .int p1)] := hl
  have hf := (fX8_goodLoaves.eq_1 p1 v).symm.trans hf
  refine lv_aload_n hx hb dX8_goodLoaves_0 rfl (lv_at hl 0 rfl) ?_
  refine lv_iload_n hx hb dX8_goodLoaves_1 rfl (lv_at hl 1 rfl) ?_
  obtain ⟨r2, hc1, hf⟩ := bnr_some hf
  refine bk_all hB (fun h1 h2 h3 => bk_runV X (Av := [.int p1]) (rest := []) (mX8_requireBatch hc1) yv_X8_requireBatch wm_1110 ⟨Nat.le_of_ble_eq_true rfl, Nat.le_of_ble_eq_true rfl⟩ rfl rfl hl.1 kl_X8.1 (hB.1.obj lc_X_0) h1 h2 h3 (Nat.le_of_ble_eq_true rfl) ⟨Nat.le_of_ble_eq_true rfl, Nat.le_of_ble_eq_true rfl⟩ dX8_goodLoaves_2) (fun H locs hB => ?_)
  refine W.eq (g2 := F0 m 5 ls []) rfl ?_
  refine lv_aload_n hx hb dX8_goodLoaves_5 rfl (lv_at hl 0 rfl) ?_
  obtain ⟨h3, hf⟩ := ck_some hf
  refine bk_getS X hB kl_X8 0 lc_X_0 0 (by decide) rfl h3 wm_654 dX8_goodLoaves_6 ?_
  obtain ⟨i4, ei4⟩ : ∃ y : Nat, y = (v 0).toNatClampNeg := ⟨_, rfl⟩
  have hf := nm_use hf ei4
  rw [← ei4]
  have hi4 : i4 < 12 := by rw [ei4]; exact vp_lt h3
  refine bk_getR X hB kl_X6 (stC i4 + 0) ((subX_St _ hi4).at lc_St_0) 9 (by decide) rfl wm_241 dX8_goodLoaves_9 ?_
  refine bk_getR X hB kl_X0 (stC i4 + 37) ((subX_St _ hi4).at lc_St_37) 2 (by decide) rfl wm_177 dX8_goodLoaves_12 ?_
  refine lv_iload_n hx hb dX8_goodLoaves_15 rfl (lv_at hl 1 rfl) ?_
  obtain ⟨h5, hf⟩ := ck_some hf
  refine bk_ald X hB (stC i4 + 39) ((subX_St _ hi4).at lc_St_39) h5 dX8_goodLoaves_16 ?_
  refine lv_aload_n hx hb dX8_goodLoaves_17 rfl (lv_at hl 0 rfl) ?_
  obtain ⟨h6, hf⟩ := ck_some hf
  refine bk_getS X hB kl_X8 0 lc_X_0 0 (by decide) rfl h6 wm_654 dX8_goodLoaves_18 ?_
  obtain ⟨i7, ei7⟩ : ∃ y : Nat, y = (v 0).toNatClampNeg := ⟨_, rfl⟩
  have hf := nm_use hf ei7
  rw [← ei7]
  have hi7 : i7 < 12 := by rw [ei7]; exact vp_lt h6
  refine bk_getR X hB kl_X6 (stC i7 + 0) ((subX_St _ hi7).at lc_St_0) 9 (by decide) rfl wm_241 dX8_goodLoaves_21 ?_
  refine bk_getR X hB kl_X0 (stC i7 + 37) ((subX_St _ hi7).at lc_St_37) 3 (by decide) rfl wm_180 dX8_goodLoaves_24 ?_
  refine lv_iload_n hx hb dX8_goodLoaves_27 rfl (lv_at hl 1 rfl) ?_
  obtain ⟨h8, hf⟩ := ck_some hf
  refine bk_ald X hB (stC i7 + 40) ((subX_St _ hi7).at lc_St_40) h8 dX8_goodLoaves_28 ?_
  refine lv_isub hx hb dX8_goodLoaves_29 ?_
  exact bk_iR X hr rfl hf hB (Nat.le_of_ble_eq_true rfl) (Nat.le_of_ble_eq_true rfl) dX8_goodLoaves_30
theorem yv_X8_goodLoaves : bYv yX8_goodLoaves RX8 cX8_goodLoaves 2 (some .int) 1 := ⟨⟨rfl, by decide, by decide, rfl⟩, wm_1118, wm_1119, wm_1, wm_1120⟩

def xX8_goodLoaves (p1 : Int32) (v : bM) : Option Nat :=
  xr (xX8_requireBatch p1 v) <| bnr (fX8_requireBatch p1 v) fun r2 => none
set_option maxRecDepth 100000 in
set_option maxHeartbeats 4000000 in
theorem mxX8_goodLoaves {l : Launch} (hlt : l.stackTraces = false) {p1 : Int32} {v : bM} {r0 : Nat} (hf : xX8_goodLoaves p1 v = some r0) : bMetX l yX8_goodLoaves cX8_goodLoaves 2 (some .int) 8 1 6 LX (fun E a => [.ref a, .int p1]) v r0 := by
  refine bk_startX (by decide +kernel) wfX (fun _ _ => Nat.le_of_ble_eq_true rfl) ?_
  intro p e s m args below meth c D E a ls H locs X hr hxt hl hB
  have hx := X.1
  have hb := X.2.1
  have hown := X.2.2.2.1
  have hts := X.2.2.2.2.1
  have hl : lv_has ls 2 [(0, .ref a), (1, .int p1)] := hl
  have hf := (xX8_goodLoaves.eq_1 p1 v).symm.trans hf
  refine lv_aload_n hx hb dX8_goodLoaves_0 rfl (lv_at hl 0 rfl) ?_
  refine lv_iload_n hx hb dX8_goodLoaves_1 rfl (lv_at hl 1 rfl) ?_
  refine xr_cases hf (fun hX => ?_) (fun hf => ?_)
  · exact bk_allX hxt X hB (fun h1 h2 h3 => bk_runVX X (Av := [.int p1]) (rest := []) (mxX8_requireBatch hlt hX) yv_X8_requireBatch wm_1110 ⟨Nat.le_of_ble_eq_true rfl, Nat.le_of_ble_eq_true rfl⟩ rfl rfl hl.1 kl_X8.1 (hB.1.obj lc_X_0) h1 h2 h3 (Nat.le_of_ble_eq_true rfl) ⟨Nat.le_of_ble_eq_true rfl, Nat.le_of_ble_eq_true rfl⟩ dX8_goodLoaves_2)
  obtain ⟨r2, hc1, hf⟩ := bnr_some hf
  refine bk_all hB (fun h1 h2 h3 => bk_runV X (Av := [.int p1]) (rest := []) (mX8_requireBatch hc1) yv_X8_requireBatch wm_1110 ⟨Nat.le_of_ble_eq_true rfl, Nat.le_of_ble_eq_true rfl⟩ rfl rfl hl.1 kl_X8.1 (hB.1.obj lc_X_0) h1 h2 h3 (Nat.le_of_ble_eq_true rfl) ⟨Nat.le_of_ble_eq_true rfl, Nat.le_of_ble_eq_true rfl⟩ dX8_goodLoaves_2) (fun H locs hB => ?_)
  refine W.eq (g2 := F0 m 5 ls []) rfl ?_
  cases hf

theorem dX8_startOf_0 : decode cX8_startOf 0 = .ok (.aload_n 0, 1) := by decide +kernel
theorem dX8_startOf_1 : decode cX8_startOf 1 = .ok (.iload_n 1, 1) := by decide +kernel
theorem dX8_startOf_2 : decode cX8_startOf 2 = .ok (.invokevirtual 207, 3) := by decide +kernel
theorem dX8_startOf_5 : decode cX8_startOf 5 = .ok (.aload_n 0, 1) := by decide +kernel
theorem dX8_startOf_6 : decode cX8_startOf 6 = .ok (.getfield 10, 3) := by decide +kernel
theorem dX8_startOf_9 : decode cX8_startOf 9 = .ok (.getfield 93, 3) := by decide +kernel
theorem dX8_startOf_12 : decode cX8_startOf 12 = .ok (.getfield 219, 3) := by decide +kernel
theorem dX8_startOf_15 : decode cX8_startOf 15 = .ok (.iload_n 1, 1) := by decide +kernel
theorem dX8_startOf_16 : decode cX8_startOf 16 = .ok (.iaload, 1) := by decide +kernel
theorem dX8_startOf_17 : decode cX8_startOf 17 = .ok (.ireturn, 1) := by decide +kernel
def fX8_startOf (p1 : Int32) (v : bM) : Option Int32 :=
  bnr (fX8_requireBatch p1 v) fun r2 => ck (v 0) 12 <| nm (v 0).toNatClampNeg fun i4 => ck p1 24 <| some (v (stO i4 + 350 + p1.toNatClampNeg))
set_option maxRecDepth 100000 in
set_option maxHeartbeats 4000000 in
theorem mX8_startOf {l : Launch} {p1 : Int32} {v : bM} {r0 : Int32} (hf : fX8_startOf p1 v = some r0) : bMet l yX8_startOf cX8_startOf 2 (some .int) 2 0 0 LX (fun E a => [.ref a, .int p1]) v v (fun _ => some (.int r0)) := by
  refine bk_start (by decide +kernel) wfX (fun _ _ => Nat.le_of_ble_eq_true rfl) ?_
  intro p e s m args below meth c D E a ls H locs X hr hl hB
  have hx := X.1
  have hb := X.2.1
  have hown := X.2.2.2.1
  have hts := X.2.2.2.2.1
  have hl : lv_has ls 2 [(0, .ref a), (1, .int p1)] := hl
  have hf := (fX8_startOf.eq_1 p1 v).symm.trans hf
  refine lv_aload_n hx hb dX8_startOf_0 rfl (lv_at hl 0 rfl) ?_
  refine lv_iload_n hx hb dX8_startOf_1 rfl (lv_at hl 1 rfl) ?_
  obtain ⟨r2, hc1, hf⟩ := bnr_some hf
  refine bk_all hB (fun h1 h2 h3 => bk_runV X (Av := [.int p1]) (rest := []) (mX8_requireBatch hc1) yv_X8_requireBatch wm_1110 ⟨Nat.le_of_ble_eq_true rfl, Nat.le_of_ble_eq_true rfl⟩ rfl rfl hl.1 kl_X8.1 (hB.1.obj lc_X_0) h1 h2 h3 (Nat.le_of_ble_eq_true rfl) ⟨Nat.le_of_ble_eq_true rfl, Nat.le_of_ble_eq_true rfl⟩ dX8_startOf_2) (fun H locs hB => ?_)
  refine W.eq (g2 := F0 m 5 ls []) rfl ?_
  refine lv_aload_n hx hb dX8_startOf_5 rfl (lv_at hl 0 rfl) ?_
  obtain ⟨h3, hf⟩ := ck_some hf
  refine bk_getS X hB kl_X8 0 lc_X_0 0 (by decide) rfl h3 wm_654 dX8_startOf_6 ?_
  obtain ⟨i4, ei4⟩ : ∃ y : Nat, y = (v 0).toNatClampNeg := ⟨_, rfl⟩
  have hf := nm_use hf ei4
  rw [← ei4]
  have hi4 : i4 < 12 := by rw [ei4]; exact vp_lt h3
  refine bk_getR X hB kl_X6 (stC i4 + 0) ((subX_St _ hi4).at lc_St_0) 9 (by decide) rfl wm_241 dX8_startOf_9 ?_
  refine bk_getR X hB kl_X0 (stC i4 + 37) ((subX_St _ hi4).at lc_St_37) 4 (by decide) rfl wm_183 dX8_startOf_12 ?_
  refine lv_iload_n hx hb dX8_startOf_15 rfl (lv_at hl 1 rfl) ?_
  obtain ⟨h5, hf⟩ := ck_some hf
  refine bk_ald X hB (stC i4 + 41) ((subX_St _ hi4).at lc_St_41) h5 dX8_startOf_16 ?_
  exact bk_iR X hr rfl hf hB (Nat.le_of_ble_eq_true rfl) (Nat.le_of_ble_eq_true rfl) dX8_startOf_17
theorem yv_X8_startOf : bYv yX8_startOf RX8 cX8_startOf 2 (some .int) 1 := ⟨⟨rfl, by decide, by decide, rfl⟩, wm_1125, wm_1126, wm_1, wm_1127⟩

def xX8_startOf (p1 : Int32) (v : bM) : Option Nat :=
  xr (xX8_requireBatch p1 v) <| bnr (fX8_requireBatch p1 v) fun r2 => none
set_option maxRecDepth 100000 in
set_option maxHeartbeats 4000000 in
theorem mxX8_startOf {l : Launch} (hlt : l.stackTraces = false) {p1 : Int32} {v : bM} {r0 : Nat} (hf : xX8_startOf p1 v = some r0) : bMetX l yX8_startOf cX8_startOf 2 (some .int) 8 1 6 LX (fun E a => [.ref a, .int p1]) v r0 := by
  refine bk_startX (by decide +kernel) wfX (fun _ _ => Nat.le_of_ble_eq_true rfl) ?_
  intro p e s m args below meth c D E a ls H locs X hr hxt hl hB
  have hx := X.1
  have hb := X.2.1
  have hown := X.2.2.2.1
  have hts := X.2.2.2.2.1
  have hl : lv_has ls 2 [(0, .ref a), (1, .int p1)] := hl
  have hf := (xX8_startOf.eq_1 p1 v).symm.trans hf
  refine lv_aload_n hx hb dX8_startOf_0 rfl (lv_at hl 0 rfl) ?_
  refine lv_iload_n hx hb dX8_startOf_1 rfl (lv_at hl 1 rfl) ?_
  refine xr_cases hf (fun hX => ?_) (fun hf => ?_)
  · exact bk_allX hxt X hB (fun h1 h2 h3 => bk_runVX X (Av := [.int p1]) (rest := []) (mxX8_requireBatch hlt hX) yv_X8_requireBatch wm_1110 ⟨Nat.le_of_ble_eq_true rfl, Nat.le_of_ble_eq_true rfl⟩ rfl rfl hl.1 kl_X8.1 (hB.1.obj lc_X_0) h1 h2 h3 (Nat.le_of_ble_eq_true rfl) ⟨Nat.le_of_ble_eq_true rfl, Nat.le_of_ble_eq_true rfl⟩ dX8_startOf_2)
  obtain ⟨r2, hc1, hf⟩ := bnr_some hf
  refine bk_all hB (fun h1 h2 h3 => bk_runV X (Av := [.int p1]) (rest := []) (mX8_requireBatch hc1) yv_X8_requireBatch wm_1110 ⟨Nat.le_of_ble_eq_true rfl, Nat.le_of_ble_eq_true rfl⟩ rfl rfl hl.1 kl_X8.1 (hB.1.obj lc_X_0) h1 h2 h3 (Nat.le_of_ble_eq_true rfl) ⟨Nat.le_of_ble_eq_true rfl, Nat.le_of_ble_eq_true rfl⟩ dX8_startOf_2) (fun H locs hB => ?_)
  refine W.eq (g2 := F0 m 5 ls []) rfl ?_
  cases hf

theorem dX8_ovenMinutes_0 : decode cX8_ovenMinutes 0 = .ok (.aload_n 0, 1) := by decide +kernel
theorem dX8_ovenMinutes_1 : decode cX8_ovenMinutes 1 = .ok (.iload_n 1, 1) := by decide +kernel
theorem dX8_ovenMinutes_2 : decode cX8_ovenMinutes 2 = .ok (.invokevirtual 207, 3) := by decide +kernel
theorem dX8_ovenMinutes_5 : decode cX8_ovenMinutes 5 = .ok (.aload_n 0, 1) := by decide +kernel
theorem dX8_ovenMinutes_6 : decode cX8_ovenMinutes 6 = .ok (.getfield 10, 3) := by decide +kernel
theorem dX8_ovenMinutes_9 : decode cX8_ovenMinutes 9 = .ok (.getfield 93, 3) := by decide +kernel
theorem dX8_ovenMinutes_12 : decode cX8_ovenMinutes 12 = .ok (.getfield 222, 3) := by decide +kernel
theorem dX8_ovenMinutes_15 : decode cX8_ovenMinutes 15 = .ok (.iload_n 1, 1) := by decide +kernel
theorem dX8_ovenMinutes_16 : decode cX8_ovenMinutes 16 = .ok (.iaload, 1) := by decide +kernel
theorem dX8_ovenMinutes_17 : decode cX8_ovenMinutes 17 = .ok (.ireturn, 1) := by decide +kernel
def fX8_ovenMinutes (p1 : Int32) (v : bM) : Option Int32 :=
  bnr (fX8_requireBatch p1 v) fun r2 => ck (v 0) 12 <| nm (v 0).toNatClampNeg fun i4 => ck p1 24 <| some (v (stO i4 + 374 + p1.toNatClampNeg))
set_option maxRecDepth 100000 in
set_option maxHeartbeats 4000000 in
theorem mX8_ovenMinutes {l : Launch} {p1 : Int32} {v : bM} {r0 : Int32} (hf : fX8_ovenMinutes p1 v = some r0) : bMet l yX8_ovenMinutes cX8_ovenMinutes 2 (some .int) 2 0 0 LX (fun E a => [.ref a, .int p1]) v v (fun _ => some (.int r0)) := by
  refine bk_start (by decide +kernel) wfX (fun _ _ => Nat.le_of_ble_eq_true rfl) ?_
  intro p e s m args below meth c D E a ls H locs X hr hl hB
  have hx := X.1
  have hb := X.2.1
  have hown := X.2.2.2.1
  have hts := X.2.2.2.2.1
  have hl : lv_has ls 2 [(0, .ref a), (1, .int p1)] := hl
  have hf := (fX8_ovenMinutes.eq_1 p1 v).symm.trans hf
  refine lv_aload_n hx hb dX8_ovenMinutes_0 rfl (lv_at hl 0 rfl) ?_
  refine lv_iload_n hx hb dX8_ovenMinutes_1 rfl (lv_at hl 1 rfl) ?_
  obtain ⟨r2, hc1, hf⟩ := bnr_some hf
  refine bk_all hB (fun h1 h2 h3 => bk_runV X (Av := [.int p1]) (rest := []) (mX8_requireBatch hc1) yv_X8_requireBatch wm_1110 ⟨Nat.le_of_ble_eq_true rfl, Nat.le_of_ble_eq_true rfl⟩ rfl rfl hl.1 kl_X8.1 (hB.1.obj lc_X_0) h1 h2 h3 (Nat.le_of_ble_eq_true rfl) ⟨Nat.le_of_ble_eq_true rfl, Nat.le_of_ble_eq_true rfl⟩ dX8_ovenMinutes_2) (fun H locs hB => ?_)
  refine W.eq (g2 := F0 m 5 ls []) rfl ?_
  refine lv_aload_n hx hb dX8_ovenMinutes_5 rfl (lv_at hl 0 rfl) ?_
  obtain ⟨h3, hf⟩ := ck_some hf
  refine bk_getS X hB kl_X8 0 lc_X_0 0 (by decide) rfl h3 wm_654 dX8_ovenMinutes_6 ?_
  obtain ⟨i4, ei4⟩ : ∃ y : Nat, y = (v 0).toNatClampNeg := ⟨_, rfl⟩
  have hf := nm_use hf ei4
  rw [← ei4]
  have hi4 : i4 < 12 := by rw [ei4]; exact vp_lt h3
  refine bk_getR X hB kl_X6 (stC i4 + 0) ((subX_St _ hi4).at lc_St_0) 9 (by decide) rfl wm_241 dX8_ovenMinutes_9 ?_
  refine bk_getR X hB kl_X0 (stC i4 + 37) ((subX_St _ hi4).at lc_St_37) 5 (by decide) rfl wm_186 dX8_ovenMinutes_12 ?_
  refine lv_iload_n hx hb dX8_ovenMinutes_15 rfl (lv_at hl 1 rfl) ?_
  obtain ⟨h5, hf⟩ := ck_some hf
  refine bk_ald X hB (stC i4 + 42) ((subX_St _ hi4).at lc_St_42) h5 dX8_ovenMinutes_16 ?_
  exact bk_iR X hr rfl hf hB (Nat.le_of_ble_eq_true rfl) (Nat.le_of_ble_eq_true rfl) dX8_ovenMinutes_17
theorem yv_X8_ovenMinutes : bYv yX8_ovenMinutes RX8 cX8_ovenMinutes 2 (some .int) 1 := ⟨⟨rfl, by decide, by decide, rfl⟩, wm_1132, wm_1133, wm_1, wm_1134⟩

def xX8_ovenMinutes (p1 : Int32) (v : bM) : Option Nat :=
  xr (xX8_requireBatch p1 v) <| bnr (fX8_requireBatch p1 v) fun r2 => none
set_option maxRecDepth 100000 in
set_option maxHeartbeats 4000000 in
theorem mxX8_ovenMinutes {l : Launch} (hlt : l.stackTraces = false) {p1 : Int32} {v : bM} {r0 : Nat} (hf : xX8_ovenMinutes p1 v = some r0) : bMetX l yX8_ovenMinutes cX8_ovenMinutes 2 (some .int) 8 1 6 LX (fun E a => [.ref a, .int p1]) v r0 := by
  refine bk_startX (by decide +kernel) wfX (fun _ _ => Nat.le_of_ble_eq_true rfl) ?_
  intro p e s m args below meth c D E a ls H locs X hr hxt hl hB
  have hx := X.1
  have hb := X.2.1
  have hown := X.2.2.2.1
  have hts := X.2.2.2.2.1
  have hl : lv_has ls 2 [(0, .ref a), (1, .int p1)] := hl
  have hf := (xX8_ovenMinutes.eq_1 p1 v).symm.trans hf
  refine lv_aload_n hx hb dX8_ovenMinutes_0 rfl (lv_at hl 0 rfl) ?_
  refine lv_iload_n hx hb dX8_ovenMinutes_1 rfl (lv_at hl 1 rfl) ?_
  refine xr_cases hf (fun hX => ?_) (fun hf => ?_)
  · exact bk_allX hxt X hB (fun h1 h2 h3 => bk_runVX X (Av := [.int p1]) (rest := []) (mxX8_requireBatch hlt hX) yv_X8_requireBatch wm_1110 ⟨Nat.le_of_ble_eq_true rfl, Nat.le_of_ble_eq_true rfl⟩ rfl rfl hl.1 kl_X8.1 (hB.1.obj lc_X_0) h1 h2 h3 (Nat.le_of_ble_eq_true rfl) ⟨Nat.le_of_ble_eq_true rfl, Nat.le_of_ble_eq_true rfl⟩ dX8_ovenMinutes_2)
  obtain ⟨r2, hc1, hf⟩ := bnr_some hf
  refine bk_all hB (fun h1 h2 h3 => bk_runV X (Av := [.int p1]) (rest := []) (mX8_requireBatch hc1) yv_X8_requireBatch wm_1110 ⟨Nat.le_of_ble_eq_true rfl, Nat.le_of_ble_eq_true rfl⟩ rfl rfl hl.1 kl_X8.1 (hB.1.obj lc_X_0) h1 h2 h3 (Nat.le_of_ble_eq_true rfl) ⟨Nat.le_of_ble_eq_true rfl, Nat.le_of_ble_eq_true rfl⟩ dX8_ovenMinutes_2) (fun H locs hB => ?_)
  refine W.eq (g2 := F0 m 5 ls []) rfl ?_
  cases hf

theorem dX8_costOf_0 : decode cX8_costOf 0 = .ok (.aload_n 0, 1) := by decide +kernel
theorem dX8_costOf_1 : decode cX8_costOf 1 = .ok (.iload_n 1, 1) := by decide +kernel
theorem dX8_costOf_2 : decode cX8_costOf 2 = .ok (.invokevirtual 207, 3) := by decide +kernel
theorem dX8_costOf_5 : decode cX8_costOf 5 = .ok (.aload_n 0, 1) := by decide +kernel
theorem dX8_costOf_6 : decode cX8_costOf 6 = .ok (.getfield 10, 3) := by decide +kernel
theorem dX8_costOf_9 : decode cX8_costOf 9 = .ok (.getfield 93, 3) := by decide +kernel
theorem dX8_costOf_12 : decode cX8_costOf 12 = .ok (.getfield 223, 3) := by decide +kernel
theorem dX8_costOf_15 : decode cX8_costOf 15 = .ok (.iload_n 1, 1) := by decide +kernel
theorem dX8_costOf_16 : decode cX8_costOf 16 = .ok (.iaload, 1) := by decide +kernel
theorem dX8_costOf_17 : decode cX8_costOf 17 = .ok (.aload_n 0, 1) := by decide +kernel
theorem dX8_costOf_18 : decode cX8_costOf 18 = .ok (.getfield 10, 3) := by decide +kernel
theorem dX8_costOf_21 : decode cX8_costOf 21 = .ok (.getfield 93, 3) := by decide +kernel
theorem dX8_costOf_24 : decode cX8_costOf 24 = .ok (.getfield 226, 3) := by decide +kernel
theorem dX8_costOf_27 : decode cX8_costOf 27 = .ok (.iload_n 1, 1) := by decide +kernel
theorem dX8_costOf_28 : decode cX8_costOf 28 = .ok (.iaload, 1) := by decide +kernel
theorem dX8_costOf_29 : decode cX8_costOf 29 = .ok (.iadd, 1) := by decide +kernel
theorem dX8_costOf_30 : decode cX8_costOf 30 = .ok (.ireturn, 1) := by decide +kernel
def fX8_costOf (p1 : Int32) (v : bM) : Option Int32 :=
  bnr (fX8_requireBatch p1 v) fun r2 => ck (v 0) 12 <| nm (v 0).toNatClampNeg fun i4 => ck p1 24 <| ck (v 0) 12 <| nm (v 0).toNatClampNeg fun i7 => ck p1 24 <| some ((v (stO i4 + 398 + p1.toNatClampNeg)) + (v (stO i7 + 422 + p1.toNatClampNeg)))
set_option maxRecDepth 100000 in
set_option maxHeartbeats 4000000 in
theorem mX8_costOf {l : Launch} {p1 : Int32} {v : bM} {r0 : Int32} (hf : fX8_costOf p1 v = some r0) : bMet l yX8_costOf cX8_costOf 2 (some .int) 2 0 0 LX (fun E a => [.ref a, .int p1]) v v (fun _ => some (.int r0)) := by
  refine bk_start (by decide +kernel) wfX (fun _ _ => Nat.le_of_ble_eq_true rfl) ?_
  intro p e s m args below meth c D E a ls H locs X hr hl hB
  have hx := X.1
  have hb := X.2.1
  have hown := X.2.2.2.1
  have hts := X.2.2.2.2.1
  have hl : lv_has ls 2 [(0, .ref a), (1, .int p1)] := hl
  have hf := (fX8_costOf.eq_1 p1 v).symm.trans hf
  refine lv_aload_n hx hb dX8_costOf_0 rfl (lv_at hl 0 rfl) ?_
  refine lv_iload_n hx hb dX8_costOf_1 rfl (lv_at hl 1 rfl) ?_
  obtain ⟨r2, hc1, hf⟩ := bnr_some hf
  refine bk_all hB (fun h1 h2 h3 => bk_runV X (Av := [.int p1]) (rest := []) (mX8_requireBatch hc1) yv_X8_requireBatch wm_1110 ⟨Nat.le_of_ble_eq_true rfl, Nat.le_of_ble_eq_true rfl⟩ rfl rfl hl.1 kl_X8.1 (hB.1.obj lc_X_0) h1 h2 h3 (Nat.le_of_ble_eq_true rfl) ⟨Nat.le_of_ble_eq_true rfl, Nat.le_of_ble_eq_true rfl⟩ dX8_costOf_2) (fun H locs hB => ?_)
  refine W.eq (g2 := F0 m 5 ls []) rfl ?_
  refine lv_aload_n hx hb dX8_costOf_5 rfl (lv_at hl 0 rfl) ?_
  obtain ⟨h3, hf⟩ := ck_some hf
  refine bk_getS X hB kl_X8 0 lc_X_0 0 (by decide) rfl h3 wm_654 dX8_costOf_6 ?_
  obtain ⟨i4, ei4⟩ : ∃ y : Nat, y = (v 0).toNatClampNeg := ⟨_, rfl⟩
  have hf := nm_use hf ei4
  rw [← ei4]
  have hi4 : i4 < 12 := by rw [ei4]; exact vp_lt h3
  refine bk_getR X hB kl_X6 (stC i4 + 0) ((subX_St _ hi4).at lc_St_0) 9 (by decide) rfl wm_241 dX8_costOf_9 ?_
  refine bk_getR X hB kl_X0 (stC i4 + 37) ((subX_St _ hi4).at lc_St_37) 6 (by decide) rfl wm_189 dX8_costOf_12 ?_
  refine lv_iload_n hx hb dX8_costOf_15 rfl (lv_at hl 1 rfl) ?_
  obtain ⟨h5, hf⟩ := ck_some hf
  refine bk_ald X hB (stC i4 + 43) ((subX_St _ hi4).at lc_St_43) h5 dX8_costOf_16 ?_
  refine lv_aload_n hx hb dX8_costOf_17 rfl (lv_at hl 0 rfl) ?_
  obtain ⟨h6, hf⟩ := ck_some hf
  refine bk_getS X hB kl_X8 0 lc_X_0 0 (by decide) rfl h6 wm_654 dX8_costOf_18 ?_
  obtain ⟨i7, ei7⟩ : ∃ y : Nat, y = (v 0).toNatClampNeg := ⟨_, rfl⟩
  have hf := nm_use hf ei7
  rw [← ei7]
  have hi7 : i7 < 12 := by rw [ei7]; exact vp_lt h6
  refine bk_getR X hB kl_X6 (stC i7 + 0) ((subX_St _ hi7).at lc_St_0) 9 (by decide) rfl wm_241 dX8_costOf_21 ?_
  refine bk_getR X hB kl_X0 (stC i7 + 37) ((subX_St _ hi7).at lc_St_37) 7 (by decide) rfl wm_192 dX8_costOf_24 ?_
  refine lv_iload_n hx hb dX8_costOf_27 rfl (lv_at hl 1 rfl) ?_
  obtain ⟨h8, hf⟩ := ck_some hf
  refine bk_ald X hB (stC i7 + 44) ((subX_St _ hi7).at lc_St_44) h8 dX8_costOf_28 ?_
  refine lv_iadd hx hb dX8_costOf_29 ?_
  exact bk_iR X hr rfl hf hB (Nat.le_of_ble_eq_true rfl) (Nat.le_of_ble_eq_true rfl) dX8_costOf_30
theorem yv_X8_costOf : bYv yX8_costOf RX8 cX8_costOf 2 (some .int) 1 := ⟨⟨rfl, by decide, by decide, rfl⟩, wm_1139, wm_1140, wm_1, wm_1141⟩

def xX8_costOf (p1 : Int32) (v : bM) : Option Nat :=
  xr (xX8_requireBatch p1 v) <| bnr (fX8_requireBatch p1 v) fun r2 => none
set_option maxRecDepth 100000 in
set_option maxHeartbeats 4000000 in
theorem mxX8_costOf {l : Launch} (hlt : l.stackTraces = false) {p1 : Int32} {v : bM} {r0 : Nat} (hf : xX8_costOf p1 v = some r0) : bMetX l yX8_costOf cX8_costOf 2 (some .int) 8 1 6 LX (fun E a => [.ref a, .int p1]) v r0 := by
  refine bk_startX (by decide +kernel) wfX (fun _ _ => Nat.le_of_ble_eq_true rfl) ?_
  intro p e s m args below meth c D E a ls H locs X hr hxt hl hB
  have hx := X.1
  have hb := X.2.1
  have hown := X.2.2.2.1
  have hts := X.2.2.2.2.1
  have hl : lv_has ls 2 [(0, .ref a), (1, .int p1)] := hl
  have hf := (xX8_costOf.eq_1 p1 v).symm.trans hf
  refine lv_aload_n hx hb dX8_costOf_0 rfl (lv_at hl 0 rfl) ?_
  refine lv_iload_n hx hb dX8_costOf_1 rfl (lv_at hl 1 rfl) ?_
  refine xr_cases hf (fun hX => ?_) (fun hf => ?_)
  · exact bk_allX hxt X hB (fun h1 h2 h3 => bk_runVX X (Av := [.int p1]) (rest := []) (mxX8_requireBatch hlt hX) yv_X8_requireBatch wm_1110 ⟨Nat.le_of_ble_eq_true rfl, Nat.le_of_ble_eq_true rfl⟩ rfl rfl hl.1 kl_X8.1 (hB.1.obj lc_X_0) h1 h2 h3 (Nat.le_of_ble_eq_true rfl) ⟨Nat.le_of_ble_eq_true rfl, Nat.le_of_ble_eq_true rfl⟩ dX8_costOf_2)
  obtain ⟨r2, hc1, hf⟩ := bnr_some hf
  refine bk_all hB (fun h1 h2 h3 => bk_runV X (Av := [.int p1]) (rest := []) (mX8_requireBatch hc1) yv_X8_requireBatch wm_1110 ⟨Nat.le_of_ble_eq_true rfl, Nat.le_of_ble_eq_true rfl⟩ rfl rfl hl.1 kl_X8.1 (hB.1.obj lc_X_0) h1 h2 h3 (Nat.le_of_ble_eq_true rfl) ⟨Nat.le_of_ble_eq_true rfl, Nat.le_of_ble_eq_true rfl⟩ dX8_costOf_2) (fun H locs hB => ?_)
  refine W.eq (g2 := F0 m 5 ls []) rfl ?_
  cases hf

theorem dX8_lossOf_0 : decode cX8_lossOf 0 = .ok (.aload_n 0, 1) := by decide +kernel
theorem dX8_lossOf_1 : decode cX8_lossOf 1 = .ok (.iload_n 1, 1) := by decide +kernel
theorem dX8_lossOf_2 : decode cX8_lossOf 2 = .ok (.invokevirtual 207, 3) := by decide +kernel
theorem dX8_lossOf_5 : decode cX8_lossOf 5 = .ok (.aload_n 0, 1) := by decide +kernel
theorem dX8_lossOf_6 : decode cX8_lossOf 6 = .ok (.getfield 10, 3) := by decide +kernel
theorem dX8_lossOf_9 : decode cX8_lossOf 9 = .ok (.getfield 93, 3) := by decide +kernel
theorem dX8_lossOf_12 : decode cX8_lossOf 12 = .ok (.getfield 229, 3) := by decide +kernel
theorem dX8_lossOf_15 : decode cX8_lossOf 15 = .ok (.iload_n 1, 1) := by decide +kernel
theorem dX8_lossOf_16 : decode cX8_lossOf 16 = .ok (.iaload, 1) := by decide +kernel
theorem dX8_lossOf_17 : decode cX8_lossOf 17 = .ok (.ireturn, 1) := by decide +kernel
def fX8_lossOf (p1 : Int32) (v : bM) : Option Int32 :=
  bnr (fX8_requireBatch p1 v) fun r2 => ck (v 0) 12 <| nm (v 0).toNatClampNeg fun i4 => ck p1 24 <| some (v (stO i4 + 446 + p1.toNatClampNeg))
set_option maxRecDepth 100000 in
set_option maxHeartbeats 4000000 in
theorem mX8_lossOf {l : Launch} {p1 : Int32} {v : bM} {r0 : Int32} (hf : fX8_lossOf p1 v = some r0) : bMet l yX8_lossOf cX8_lossOf 2 (some .int) 2 0 0 LX (fun E a => [.ref a, .int p1]) v v (fun _ => some (.int r0)) := by
  refine bk_start (by decide +kernel) wfX (fun _ _ => Nat.le_of_ble_eq_true rfl) ?_
  intro p e s m args below meth c D E a ls H locs X hr hl hB
  have hx := X.1
  have hb := X.2.1
  have hown := X.2.2.2.1
  have hts := X.2.2.2.2.1
  have hl : lv_has ls 2 [(0, .ref a), (1, .int p1)] := hl
  have hf := (fX8_lossOf.eq_1 p1 v).symm.trans hf
  refine lv_aload_n hx hb dX8_lossOf_0 rfl (lv_at hl 0 rfl) ?_
  refine lv_iload_n hx hb dX8_lossOf_1 rfl (lv_at hl 1 rfl) ?_
  obtain ⟨r2, hc1, hf⟩ := bnr_some hf
  refine bk_all hB (fun h1 h2 h3 => bk_runV X (Av := [.int p1]) (rest := []) (mX8_requireBatch hc1) yv_X8_requireBatch wm_1110 ⟨Nat.le_of_ble_eq_true rfl, Nat.le_of_ble_eq_true rfl⟩ rfl rfl hl.1 kl_X8.1 (hB.1.obj lc_X_0) h1 h2 h3 (Nat.le_of_ble_eq_true rfl) ⟨Nat.le_of_ble_eq_true rfl, Nat.le_of_ble_eq_true rfl⟩ dX8_lossOf_2) (fun H locs hB => ?_)
  refine W.eq (g2 := F0 m 5 ls []) rfl ?_
  refine lv_aload_n hx hb dX8_lossOf_5 rfl (lv_at hl 0 rfl) ?_
  obtain ⟨h3, hf⟩ := ck_some hf
  refine bk_getS X hB kl_X8 0 lc_X_0 0 (by decide) rfl h3 wm_654 dX8_lossOf_6 ?_
  obtain ⟨i4, ei4⟩ : ∃ y : Nat, y = (v 0).toNatClampNeg := ⟨_, rfl⟩
  have hf := nm_use hf ei4
  rw [← ei4]
  have hi4 : i4 < 12 := by rw [ei4]; exact vp_lt h3
  refine bk_getR X hB kl_X6 (stC i4 + 0) ((subX_St _ hi4).at lc_St_0) 9 (by decide) rfl wm_241 dX8_lossOf_9 ?_
  refine bk_getR X hB kl_X0 (stC i4 + 37) ((subX_St _ hi4).at lc_St_37) 8 (by decide) rfl wm_195 dX8_lossOf_12 ?_
  refine lv_iload_n hx hb dX8_lossOf_15 rfl (lv_at hl 1 rfl) ?_
  obtain ⟨h5, hf⟩ := ck_some hf
  refine bk_ald X hB (stC i4 + 45) ((subX_St _ hi4).at lc_St_45) h5 dX8_lossOf_16 ?_
  exact bk_iR X hr rfl hf hB (Nat.le_of_ble_eq_true rfl) (Nat.le_of_ble_eq_true rfl) dX8_lossOf_17
theorem yv_X8_lossOf : bYv yX8_lossOf RX8 cX8_lossOf 2 (some .int) 1 := ⟨⟨rfl, by decide, by decide, rfl⟩, wm_1146, wm_1147, wm_1, wm_1148⟩

def xX8_lossOf (p1 : Int32) (v : bM) : Option Nat :=
  xr (xX8_requireBatch p1 v) <| bnr (fX8_requireBatch p1 v) fun r2 => none
set_option maxRecDepth 100000 in
set_option maxHeartbeats 4000000 in
theorem mxX8_lossOf {l : Launch} (hlt : l.stackTraces = false) {p1 : Int32} {v : bM} {r0 : Nat} (hf : xX8_lossOf p1 v = some r0) : bMetX l yX8_lossOf cX8_lossOf 2 (some .int) 8 1 6 LX (fun E a => [.ref a, .int p1]) v r0 := by
  refine bk_startX (by decide +kernel) wfX (fun _ _ => Nat.le_of_ble_eq_true rfl) ?_
  intro p e s m args below meth c D E a ls H locs X hr hxt hl hB
  have hx := X.1
  have hb := X.2.1
  have hown := X.2.2.2.1
  have hts := X.2.2.2.2.1
  have hl : lv_has ls 2 [(0, .ref a), (1, .int p1)] := hl
  have hf := (xX8_lossOf.eq_1 p1 v).symm.trans hf
  refine lv_aload_n hx hb dX8_lossOf_0 rfl (lv_at hl 0 rfl) ?_
  refine lv_iload_n hx hb dX8_lossOf_1 rfl (lv_at hl 1 rfl) ?_
  refine xr_cases hf (fun hX => ?_) (fun hf => ?_)
  · exact bk_allX hxt X hB (fun h1 h2 h3 => bk_runVX X (Av := [.int p1]) (rest := []) (mxX8_requireBatch hlt hX) yv_X8_requireBatch wm_1110 ⟨Nat.le_of_ble_eq_true rfl, Nat.le_of_ble_eq_true rfl⟩ rfl rfl hl.1 kl_X8.1 (hB.1.obj lc_X_0) h1 h2 h3 (Nat.le_of_ble_eq_true rfl) ⟨Nat.le_of_ble_eq_true rfl, Nat.le_of_ble_eq_true rfl⟩ dX8_lossOf_2)
  obtain ⟨r2, hc1, hf⟩ := bnr_some hf
  refine bk_all hB (fun h1 h2 h3 => bk_runV X (Av := [.int p1]) (rest := []) (mX8_requireBatch hc1) yv_X8_requireBatch wm_1110 ⟨Nat.le_of_ble_eq_true rfl, Nat.le_of_ble_eq_true rfl⟩ rfl rfl hl.1 kl_X8.1 (hB.1.obj lc_X_0) h1 h2 h3 (Nat.le_of_ble_eq_true rfl) ⟨Nat.le_of_ble_eq_true rfl, Nat.le_of_ble_eq_true rfl⟩ dX8_lossOf_2) (fun H locs hB => ?_)
  refine W.eq (g2 := F0 m 5 ls []) rfl ?_
  cases hf

theorem dX8_gapOf_0 : decode cX8_gapOf 0 = .ok (.aload_n 0, 1) := by decide +kernel
theorem dX8_gapOf_1 : decode cX8_gapOf 1 = .ok (.iload_n 1, 1) := by decide +kernel
theorem dX8_gapOf_2 : decode cX8_gapOf 2 = .ok (.invokevirtual 207, 3) := by decide +kernel
theorem dX8_gapOf_5 : decode cX8_gapOf 5 = .ok (.iload_n 2, 1) := by decide +kernel
theorem dX8_gapOf_6 : decode cX8_gapOf 6 = .ok (.iconst 0, 1) := by decide +kernel
theorem dX8_gapOf_7 : decode cX8_gapOf 7 = .ok (.iconst 4, 1) := by decide +kernel
theorem dX8_gapOf_8 : decode cX8_gapOf 8 = .ok (.invokestatic 197, 3) := by decide +kernel
theorem dX8_gapOf_11 : decode cX8_gapOf 11 = .ok (.aload_n 0, 1) := by decide +kernel
theorem dX8_gapOf_12 : decode cX8_gapOf 12 = .ok (.getfield 10, 3) := by decide +kernel
theorem dX8_gapOf_15 : decode cX8_gapOf 15 = .ok (.getfield 93, 3) := by decide +kernel
theorem dX8_gapOf_18 : decode cX8_gapOf 18 = .ok (.getfield 232, 3) := by decide +kernel
theorem dX8_gapOf_21 : decode cX8_gapOf 21 = .ok (.iload_n 1, 1) := by decide +kernel
theorem dX8_gapOf_22 : decode cX8_gapOf 22 = .ok (.aaload, 1) := by decide +kernel
theorem dX8_gapOf_23 : decode cX8_gapOf 23 = .ok (.iload_n 2, 1) := by decide +kernel
theorem dX8_gapOf_24 : decode cX8_gapOf 24 = .ok (.iaload, 1) := by decide +kernel
theorem dX8_gapOf_25 : decode cX8_gapOf 25 = .ok (.ireturn, 1) := by decide +kernel
def fX8_gapOf (p1 : Int32) (p2 : Int32) (v : bM) : Option Int32 :=
  bnr (fX8_requireBatch p1 v) fun r2 => bnr (fX8_requireRange p2 0 4) fun r4 => ck (v 0) 12 <| nm (v 0).toNatClampNeg fun i6 => ck p1 24 <| ck p2 5 <| some (v (stO i6 + (470 + 5 * p1.toNatClampNeg) + p2.toNatClampNeg))
set_option maxRecDepth 100000 in
set_option maxHeartbeats 4000000 in
theorem mX8_gapOf {l : Launch} {p1 : Int32} {p2 : Int32} {v : bM} {r0 : Int32} (hf : fX8_gapOf p1 p2 v = some r0) : bMet l yX8_gapOf cX8_gapOf 3 (some .int) 2 0 0 LX (fun E a => [.ref a, .int p1, .int p2]) v v (fun _ => some (.int r0)) := by
  refine bk_start (by decide +kernel) wfX (fun _ _ => Nat.le_of_ble_eq_true rfl) ?_
  intro p e s m args below meth c D E a ls H locs X hr hl hB
  have hx := X.1
  have hb := X.2.1
  have hown := X.2.2.2.1
  have hts := X.2.2.2.2.1
  have hl : lv_has ls 3 [(0, .ref a), (1, .int p1), (2, .int p2)] := hl
  have hf := (fX8_gapOf.eq_1 p1 p2 v).symm.trans hf
  refine lv_aload_n hx hb dX8_gapOf_0 rfl (lv_at hl 0 rfl) ?_
  refine lv_iload_n hx hb dX8_gapOf_1 rfl (lv_at hl 1 rfl) ?_
  obtain ⟨r2, hc1, hf⟩ := bnr_some hf
  refine bk_all hB (fun h1 h2 h3 => bk_runV X (Av := [.int p1]) (rest := []) (mX8_requireBatch hc1) yv_X8_requireBatch wm_1110 ⟨Nat.le_of_ble_eq_true rfl, Nat.le_of_ble_eq_true rfl⟩ rfl rfl hl.1 kl_X8.1 (hB.1.obj lc_X_0) h1 h2 h3 (Nat.le_of_ble_eq_true rfl) ⟨Nat.le_of_ble_eq_true rfl, Nat.le_of_ble_eq_true rfl⟩ dX8_gapOf_2) (fun H locs hB => ?_)
  refine W.eq (g2 := F0 m 5 ls []) rfl ?_
  refine lv_iload_n hx hb dX8_gapOf_5 rfl (lv_at hl 2 rfl) ?_
  refine lv_iconst (v := 0) hx hb dX8_gapOf_6 (by decide) ?_
  refine lv_iconst (v := 4) hx hb dX8_gapOf_7 (by decide) ?_
  obtain ⟨r4, hc3, hf⟩ := bnr_some hf
  refine bk_non (v0 := v) (w0 := v) hB (fun h1 h2 h3 => bk_runS X (Av := [.int p2, .int 0, .int 4]) (rest := []) (mX8_requireRange hc3) ys_X8_requireRange wm_1084 ⟨Nat.le_of_ble_eq_true rfl, Nat.le_of_ble_eq_true rfl⟩ rfl rfl hl.1 h1 h2 h3 (Nat.le_of_ble_eq_true rfl) ⟨Nat.le_of_ble_eq_true rfl, Nat.le_of_ble_eq_true rfl⟩ dX8_gapOf_8) (fun H locs hB => ?_)
  refine W.eq (g2 := F0 m 11 ls []) rfl ?_
  refine lv_aload_n hx hb dX8_gapOf_11 rfl (lv_at hl 0 rfl) ?_
  obtain ⟨h5, hf⟩ := ck_some hf
  refine bk_getS X hB kl_X8 0 lc_X_0 0 (by decide) rfl h5 wm_654 dX8_gapOf_12 ?_
  obtain ⟨i6, ei6⟩ : ∃ y : Nat, y = (v 0).toNatClampNeg := ⟨_, rfl⟩
  have hf := nm_use hf ei6
  rw [← ei6]
  have hi6 : i6 < 12 := by rw [ei6]; exact vp_lt h5
  refine bk_getR X hB kl_X6 (stC i6 + 0) ((subX_St _ hi6).at lc_St_0) 9 (by decide) rfl wm_241 dX8_gapOf_15 ?_
  refine bk_getR X hB kl_X0 (stC i6 + 37) ((subX_St _ hi6).at lc_St_37) 9 (by decide) rfl wm_198 dX8_gapOf_18 ?_
  refine lv_iload_n hx hb dX8_gapOf_21 rfl (lv_at hl 1 rfl) ?_
  obtain ⟨h7, hf⟩ := ck_some hf
  refine bk_rld X hB (stC i6 + 46) ((subX_St _ hi6).at lc_St_46) h7 dX8_gapOf_22 ?_
  refine lv_iload_n hx hb dX8_gapOf_23 rfl (lv_at hl 2 rfl) ?_
  obtain ⟨h8, hf⟩ := ck_some hf
  refine bk_ald X hB (stC i6 + 47 + 1 * p1.toNatClampNeg) (lrX (subX_St _ hi6) (lr_St_46 _ (vp_lt h7))) h8 dX8_gapOf_24 ?_
  exact bk_iR X hr rfl hf hB (Nat.le_of_ble_eq_true rfl) (Nat.le_of_ble_eq_true rfl) dX8_gapOf_25
theorem yv_X8_gapOf : bYv yX8_gapOf RX8 cX8_gapOf 3 (some .int) 2 := ⟨⟨rfl, by decide, by decide, rfl⟩, wm_1153, wm_1154, wm_1, wm_1155⟩

def xX8_gapOf (p1 : Int32) (p2 : Int32) (v : bM) : Option Nat :=
  xr (xX8_requireBatch p1 v) <| bnr (fX8_requireBatch p1 v) fun r2 => xr (xX8_requireRange p2 0 4) <| bnr (fX8_requireRange p2 0 4) fun r4 => none
set_option maxRecDepth 100000 in
set_option maxHeartbeats 4000000 in
theorem mxX8_gapOf {l : Launch} (hlt : l.stackTraces = false) {p1 : Int32} {p2 : Int32} {v : bM} {r0 : Nat} (hf : xX8_gapOf p1 p2 v = some r0) : bMetX l yX8_gapOf cX8_gapOf 3 (some .int) 8 1 6 LX (fun E a => [.ref a, .int p1, .int p2]) v r0 := by
  refine bk_startX (by decide +kernel) wfX (fun _ _ => Nat.le_of_ble_eq_true rfl) ?_
  intro p e s m args below meth c D E a ls H locs X hr hxt hl hB
  have hx := X.1
  have hb := X.2.1
  have hown := X.2.2.2.1
  have hts := X.2.2.2.2.1
  have hl : lv_has ls 3 [(0, .ref a), (1, .int p1), (2, .int p2)] := hl
  have hf := (xX8_gapOf.eq_1 p1 p2 v).symm.trans hf
  refine lv_aload_n hx hb dX8_gapOf_0 rfl (lv_at hl 0 rfl) ?_
  refine lv_iload_n hx hb dX8_gapOf_1 rfl (lv_at hl 1 rfl) ?_
  refine xr_cases hf (fun hX => ?_) (fun hf => ?_)
  · exact bk_allX hxt X hB (fun h1 h2 h3 => bk_runVX X (Av := [.int p1]) (rest := []) (mxX8_requireBatch hlt hX) yv_X8_requireBatch wm_1110 ⟨Nat.le_of_ble_eq_true rfl, Nat.le_of_ble_eq_true rfl⟩ rfl rfl hl.1 kl_X8.1 (hB.1.obj lc_X_0) h1 h2 h3 (Nat.le_of_ble_eq_true rfl) ⟨Nat.le_of_ble_eq_true rfl, Nat.le_of_ble_eq_true rfl⟩ dX8_gapOf_2)
  obtain ⟨r2, hc1, hf⟩ := bnr_some hf
  refine bk_all hB (fun h1 h2 h3 => bk_runV X (Av := [.int p1]) (rest := []) (mX8_requireBatch hc1) yv_X8_requireBatch wm_1110 ⟨Nat.le_of_ble_eq_true rfl, Nat.le_of_ble_eq_true rfl⟩ rfl rfl hl.1 kl_X8.1 (hB.1.obj lc_X_0) h1 h2 h3 (Nat.le_of_ble_eq_true rfl) ⟨Nat.le_of_ble_eq_true rfl, Nat.le_of_ble_eq_true rfl⟩ dX8_gapOf_2) (fun H locs hB => ?_)
  refine W.eq (g2 := F0 m 5 ls []) rfl ?_
  refine lv_iload_n hx hb dX8_gapOf_5 rfl (lv_at hl 2 rfl) ?_
  refine lv_iconst (v := 0) hx hb dX8_gapOf_6 (by decide) ?_
  refine lv_iconst (v := 4) hx hb dX8_gapOf_7 (by decide) ?_
  refine xr_cases hf (fun hX => ?_) (fun hf => ?_)
  · exact bk_nonX (v0 := v) hxt X hB (fun h1 h2 h3 => bk_runSX X (Av := [.int p2, .int 0, .int 4]) (rest := []) (mxX8_requireRange hlt hX) ys_X8_requireRange wm_1084 ⟨Nat.le_of_ble_eq_true rfl, Nat.le_of_ble_eq_true rfl⟩ rfl rfl hl.1 h1 h2 h3 (Nat.le_of_ble_eq_true rfl) ⟨Nat.le_of_ble_eq_true rfl, Nat.le_of_ble_eq_true rfl⟩ dX8_gapOf_8)
  obtain ⟨r4, hc3, hf⟩ := bnr_some hf
  refine bk_non (v0 := v) (w0 := v) hB (fun h1 h2 h3 => bk_runS X (Av := [.int p2, .int 0, .int 4]) (rest := []) (mX8_requireRange hc3) ys_X8_requireRange wm_1084 ⟨Nat.le_of_ble_eq_true rfl, Nat.le_of_ble_eq_true rfl⟩ rfl rfl hl.1 h1 h2 h3 (Nat.le_of_ble_eq_true rfl) ⟨Nat.le_of_ble_eq_true rfl, Nat.le_of_ble_eq_true rfl⟩ dX8_gapOf_8) (fun H locs hB => ?_)
  refine W.eq (g2 := F0 m 11 ls []) rfl ?_
  cases hf

theorem dX8_kindAt_0 : decode cX8_kindAt 0 = .ok (.aload_n 0, 1) := by decide +kernel
theorem dX8_kindAt_1 : decode cX8_kindAt 1 = .ok (.iload_n 1, 1) := by decide +kernel
theorem dX8_kindAt_2 : decode cX8_kindAt 2 = .ok (.invokevirtual 207, 3) := by decide +kernel
theorem dX8_kindAt_5 : decode cX8_kindAt 5 = .ok (.aload_n 0, 1) := by decide +kernel
theorem dX8_kindAt_6 : decode cX8_kindAt 6 = .ok (.getfield 10, 3) := by decide +kernel
theorem dX8_kindAt_9 : decode cX8_kindAt 9 = .ok (.getfield 93, 3) := by decide +kernel
theorem dX8_kindAt_12 : decode cX8_kindAt 12 = .ok (.iload_n 1, 1) := by decide +kernel
theorem dX8_kindAt_13 : decode cX8_kindAt 13 = .ok (.iload_n 2, 1) := by decide +kernel
theorem dX8_kindAt_14 : decode cX8_kindAt 14 = .ok (.invokevirtual 235, 3) := by decide +kernel
theorem dX8_kindAt_17 : decode cX8_kindAt 17 = .ok (.ireturn, 1) := by decide +kernel
def fX8_kindAt (p1 : Int32) (p2 : Int32) (v : bM) : Option Int32 :=
  bnr (fX8_requireBatch p1 v) fun r2 => ck (v 0) 12 <| nm (v 0).toNatClampNeg fun i4 => bnr (fX0_kindInPlace p1 p2 (vw v (stO i4 + 277))) fun r6 => some (r6)
set_option maxRecDepth 100000 in
set_option maxHeartbeats 4000000 in
theorem mX8_kindAt {l : Launch} {p1 : Int32} {p2 : Int32} {v : bM} {r0 : Int32} (hf : fX8_kindAt p1 p2 v = some r0) : bMet l yX8_kindAt cX8_kindAt 3 (some .int) 2 0 0 LX (fun E a => [.ref a, .int p1, .int p2]) v v (fun _ => some (.int r0)) := by
  refine bk_start (by decide +kernel) wfX (fun _ _ => Nat.le_of_ble_eq_true rfl) ?_
  intro p e s m args below meth c D E a ls H locs X hr hl hB
  have hx := X.1
  have hb := X.2.1
  have hown := X.2.2.2.1
  have hts := X.2.2.2.2.1
  have hl : lv_has ls 3 [(0, .ref a), (1, .int p1), (2, .int p2)] := hl
  have hf := (fX8_kindAt.eq_1 p1 p2 v).symm.trans hf
  refine lv_aload_n hx hb dX8_kindAt_0 rfl (lv_at hl 0 rfl) ?_
  refine lv_iload_n hx hb dX8_kindAt_1 rfl (lv_at hl 1 rfl) ?_
  obtain ⟨r2, hc1, hf⟩ := bnr_some hf
  refine bk_all hB (fun h1 h2 h3 => bk_runV X (Av := [.int p1]) (rest := []) (mX8_requireBatch hc1) yv_X8_requireBatch wm_1110 ⟨Nat.le_of_ble_eq_true rfl, Nat.le_of_ble_eq_true rfl⟩ rfl rfl hl.1 kl_X8.1 (hB.1.obj lc_X_0) h1 h2 h3 (Nat.le_of_ble_eq_true rfl) ⟨Nat.le_of_ble_eq_true rfl, Nat.le_of_ble_eq_true rfl⟩ dX8_kindAt_2) (fun H locs hB => ?_)
  refine W.eq (g2 := F0 m 5 ls []) rfl ?_
  refine lv_aload_n hx hb dX8_kindAt_5 rfl (lv_at hl 0 rfl) ?_
  obtain ⟨h3, hf⟩ := ck_some hf
  refine bk_getS X hB kl_X8 0 lc_X_0 0 (by decide) rfl h3 wm_654 dX8_kindAt_6 ?_
  obtain ⟨i4, ei4⟩ : ∃ y : Nat, y = (v 0).toNatClampNeg := ⟨_, rfl⟩
  have hf := nm_use hf ei4
  rw [← ei4]
  have hi4 : i4 < 12 := by rw [ei4]; exact vp_lt h3
  refine bk_getR X hB kl_X6 (stC i4 + 0) ((subX_St _ hi4).at lc_St_0) 9 (by decide) rfl wm_241 dX8_kindAt_9 ?_
  refine lv_iload_n hx hb dX8_kindAt_12 rfl (lv_at hl 1 rfl) ?_
  refine lv_iload_n hx hb dX8_kindAt_13 rfl (lv_at hl 2 rfl) ?_
  obtain ⟨r6, hc5, hf⟩ := bnr_some hf
  refine bk_subR (subX_St_37 _ hi4) hB (fun h1 h2 h3 => bk_runV X (Av := [.int p1, .int p2]) (rest := []) (mX0_kindInPlace hc5) yv_X0_kindInPlace wm_1163 ⟨Nat.le_of_ble_eq_true rfl, Nat.le_of_ble_eq_true rfl⟩ rfl rfl hl.1 kl_X0.1 (hB.1.obj ((subX_St _ hi4).at lc_St_37)) h1 h2 h3 (Nat.le_of_ble_eq_true rfl) ⟨Nat.le_of_ble_eq_true rfl, Nat.le_of_ble_eq_true rfl⟩ dX8_kindAt_14) (fun H locs hB => ?_)
  refine W.eq (g2 := F0 m 17 ls [.int r6]) rfl ?_
  exact bk_iR X hr rfl hf hB (Nat.le_of_ble_eq_true rfl) (Nat.le_of_ble_eq_true rfl) dX8_kindAt_17
theorem yv_X8_kindAt : bYv yX8_kindAt RX8 cX8_kindAt 3 (some .int) 2 := ⟨⟨rfl, by decide, by decide, rfl⟩, wm_1160, wm_1161, wm_1, wm_1162⟩

def xX8_kindAt (p1 : Int32) (p2 : Int32) (v : bM) : Option Nat :=
  xr (xX8_requireBatch p1 v) <| bnr (fX8_requireBatch p1 v) fun r2 => none
set_option maxRecDepth 100000 in
set_option maxHeartbeats 4000000 in
theorem mxX8_kindAt {l : Launch} (hlt : l.stackTraces = false) {p1 : Int32} {p2 : Int32} {v : bM} {r0 : Nat} (hf : xX8_kindAt p1 p2 v = some r0) : bMetX l yX8_kindAt cX8_kindAt 3 (some .int) 8 1 6 LX (fun E a => [.ref a, .int p1, .int p2]) v r0 := by
  refine bk_startX (by decide +kernel) wfX (fun _ _ => Nat.le_of_ble_eq_true rfl) ?_
  intro p e s m args below meth c D E a ls H locs X hr hxt hl hB
  have hx := X.1
  have hb := X.2.1
  have hown := X.2.2.2.1
  have hts := X.2.2.2.2.1
  have hl : lv_has ls 3 [(0, .ref a), (1, .int p1), (2, .int p2)] := hl
  have hf := (xX8_kindAt.eq_1 p1 p2 v).symm.trans hf
  refine lv_aload_n hx hb dX8_kindAt_0 rfl (lv_at hl 0 rfl) ?_
  refine lv_iload_n hx hb dX8_kindAt_1 rfl (lv_at hl 1 rfl) ?_
  refine xr_cases hf (fun hX => ?_) (fun hf => ?_)
  · exact bk_allX hxt X hB (fun h1 h2 h3 => bk_runVX X (Av := [.int p1]) (rest := []) (mxX8_requireBatch hlt hX) yv_X8_requireBatch wm_1110 ⟨Nat.le_of_ble_eq_true rfl, Nat.le_of_ble_eq_true rfl⟩ rfl rfl hl.1 kl_X8.1 (hB.1.obj lc_X_0) h1 h2 h3 (Nat.le_of_ble_eq_true rfl) ⟨Nat.le_of_ble_eq_true rfl, Nat.le_of_ble_eq_true rfl⟩ dX8_kindAt_2)
  obtain ⟨r2, hc1, hf⟩ := bnr_some hf
  refine bk_all hB (fun h1 h2 h3 => bk_runV X (Av := [.int p1]) (rest := []) (mX8_requireBatch hc1) yv_X8_requireBatch wm_1110 ⟨Nat.le_of_ble_eq_true rfl, Nat.le_of_ble_eq_true rfl⟩ rfl rfl hl.1 kl_X8.1 (hB.1.obj lc_X_0) h1 h2 h3 (Nat.le_of_ble_eq_true rfl) ⟨Nat.le_of_ble_eq_true rfl, Nat.le_of_ble_eq_true rfl⟩ dX8_kindAt_2) (fun H locs hB => ?_)
  refine W.eq (g2 := F0 m 5 ls []) rfl ?_
  cases hf

theorem dX8_gapSum_0 : decode cX8_gapSum 0 = .ok (.iload_n 1, 1) := by decide +kernel
theorem dX8_gapSum_1 : decode cX8_gapSum 1 = .ok (.iconst 0, 1) := by decide +kernel
theorem dX8_gapSum_2 : decode cX8_gapSum 2 = .ok (.iconst 5, 1) := by decide +kernel
theorem dX8_gapSum_3 : decode cX8_gapSum 3 = .ok (.invokestatic 197, 3) := by decide +kernel
theorem dX8_gapSum_6 : decode cX8_gapSum 6 = .ok (.aload_n 0, 1) := by decide +kernel
theorem dX8_gapSum_7 : decode cX8_gapSum 7 = .ok (.getfield 10, 3) := by decide +kernel
theorem dX8_gapSum_10 : decode cX8_gapSum 10 = .ok (.iload_n 1, 1) := by decide +kernel
theorem dX8_gapSum_11 : decode cX8_gapSum 11 = .ok (.invokevirtual 239, 3) := by decide +kernel
theorem dX8_gapSum_14 : decode cX8_gapSum 14 = .ok (.ireturn, 1) := by decide +kernel
def fX8_gapSum (p1 : Int32) (v : bM) : Option Int32 :=
  bnr (fX8_requireRange p1 0 5) fun r2 => ck (v 0) 12 <| nm (v 0).toNatClampNeg fun i4 => bnr (fX6_sumOfKind p1 (vw v (stO i4))) fun r6 => some (r6)
set_option maxRecDepth 100000 in
set_option maxHeartbeats 4000000 in
theorem mX8_gapSum {l : Launch} {p1 : Int32} {v : bM} {r0 : Int32} (hf : fX8_gapSum p1 v = some r0) : bMet l yX8_gapSum cX8_gapSum 2 (some .int) 2 0 0 LX (fun E a => [.ref a, .int p1]) v v (fun _ => some (.int r0)) := by
  refine bk_start (by decide +kernel) wfX (fun _ _ => Nat.le_of_ble_eq_true rfl) ?_
  intro p e s m args below meth c D E a ls H locs X hr hl hB
  have hx := X.1
  have hb := X.2.1
  have hown := X.2.2.2.1
  have hts := X.2.2.2.2.1
  have hl : lv_has ls 2 [(0, .ref a), (1, .int p1)] := hl
  have hf := (fX8_gapSum.eq_1 p1 v).symm.trans hf
  refine lv_iload_n hx hb dX8_gapSum_0 rfl (lv_at hl 1 rfl) ?_
  refine lv_iconst (v := 0) hx hb dX8_gapSum_1 (by decide) ?_
  refine lv_iconst (v := 5) hx hb dX8_gapSum_2 (by decide) ?_
  obtain ⟨r2, hc1, hf⟩ := bnr_some hf
  refine bk_non (v0 := v) (w0 := v) hB (fun h1 h2 h3 => bk_runS X (Av := [.int p1, .int 0, .int 5]) (rest := []) (mX8_requireRange hc1) ys_X8_requireRange wm_1084 ⟨Nat.le_of_ble_eq_true rfl, Nat.le_of_ble_eq_true rfl⟩ rfl rfl hl.1 h1 h2 h3 (Nat.le_of_ble_eq_true rfl) ⟨Nat.le_of_ble_eq_true rfl, Nat.le_of_ble_eq_true rfl⟩ dX8_gapSum_3) (fun H locs hB => ?_)
  refine W.eq (g2 := F0 m 6 ls []) rfl ?_
  refine lv_aload_n hx hb dX8_gapSum_6 rfl (lv_at hl 0 rfl) ?_
  obtain ⟨h3, hf⟩ := ck_some hf
  refine bk_getS X hB kl_X8 0 lc_X_0 0 (by decide) rfl h3 wm_654 dX8_gapSum_7 ?_
  obtain ⟨i4, ei4⟩ : ∃ y : Nat, y = (v 0).toNatClampNeg := ⟨_, rfl⟩
  have hf := nm_use hf ei4
  rw [← ei4]
  have hi4 : i4 < 12 := by rw [ei4]; exact vp_lt h3
  refine lv_iload_n hx hb dX8_gapSum_10 rfl (lv_at hl 1 rfl) ?_
  obtain ⟨r6, hc5, hf⟩ := bnr_some hf
  refine bk_subR (subX_St _ hi4) hB (fun h1 h2 h3 => bk_runV X (Av := [.int p1]) (rest := []) (mX6_sumOfKind hc5) yv_X6_sumOfKind wm_1178 ⟨Nat.le_of_ble_eq_true rfl, Nat.le_of_ble_eq_true rfl⟩ rfl rfl hl.1 kl_X6.1 (hB.1.obj ((subX_St _ hi4).at lc_St_0)) h1 h2 h3 (Nat.le_of_ble_eq_true rfl) ⟨Nat.le_of_ble_eq_true rfl, Nat.le_of_ble_eq_true rfl⟩ dX8_gapSum_11) (fun H locs hB => ?_)
  refine W.eq (g2 := F0 m 14 ls [.int r6]) rfl ?_
  exact bk_iR X hr rfl hf hB (Nat.le_of_ble_eq_true rfl) (Nat.le_of_ble_eq_true rfl) dX8_gapSum_14
theorem yv_X8_gapSum : bYv yX8_gapSum RX8 cX8_gapSum 2 (some .int) 1 := ⟨⟨rfl, by decide, by decide, rfl⟩, wm_1175, wm_1176, wm_1, wm_1177⟩

def xX8_gapSum (p1 : Int32) (v : bM) : Option Nat :=
  xr (xX8_requireRange p1 0 5) <| bnr (fX8_requireRange p1 0 5) fun r2 => none
set_option maxRecDepth 100000 in
set_option maxHeartbeats 4000000 in
theorem mxX8_gapSum {l : Launch} (hlt : l.stackTraces = false) {p1 : Int32} {v : bM} {r0 : Nat} (hf : xX8_gapSum p1 v = some r0) : bMetX l yX8_gapSum cX8_gapSum 2 (some .int) 7 1 6 LX (fun E a => [.ref a, .int p1]) v r0 := by
  refine bk_startX (by decide +kernel) wfX (fun _ _ => Nat.le_of_ble_eq_true rfl) ?_
  intro p e s m args below meth c D E a ls H locs X hr hxt hl hB
  have hx := X.1
  have hb := X.2.1
  have hown := X.2.2.2.1
  have hts := X.2.2.2.2.1
  have hl : lv_has ls 2 [(0, .ref a), (1, .int p1)] := hl
  have hf := (xX8_gapSum.eq_1 p1 v).symm.trans hf
  refine lv_iload_n hx hb dX8_gapSum_0 rfl (lv_at hl 1 rfl) ?_
  refine lv_iconst (v := 0) hx hb dX8_gapSum_1 (by decide) ?_
  refine lv_iconst (v := 5) hx hb dX8_gapSum_2 (by decide) ?_
  refine xr_cases hf (fun hX => ?_) (fun hf => ?_)
  · exact bk_nonX (v0 := v) hxt X hB (fun h1 h2 h3 => bk_runSX X (Av := [.int p1, .int 0, .int 5]) (rest := []) (mxX8_requireRange hlt hX) ys_X8_requireRange wm_1084 ⟨Nat.le_of_ble_eq_true rfl, Nat.le_of_ble_eq_true rfl⟩ rfl rfl hl.1 h1 h2 h3 (Nat.le_of_ble_eq_true rfl) ⟨Nat.le_of_ble_eq_true rfl, Nat.le_of_ble_eq_true rfl⟩ dX8_gapSum_3)
  obtain ⟨r2, hc1, hf⟩ := bnr_some hf
  refine bk_non (v0 := v) (w0 := v) hB (fun h1 h2 h3 => bk_runS X (Av := [.int p1, .int 0, .int 5]) (rest := []) (mX8_requireRange hc1) ys_X8_requireRange wm_1084 ⟨Nat.le_of_ble_eq_true rfl, Nat.le_of_ble_eq_true rfl⟩ rfl rfl hl.1 h1 h2 h3 (Nat.le_of_ble_eq_true rfl) ⟨Nat.le_of_ble_eq_true rfl, Nat.le_of_ble_eq_true rfl⟩ dX8_gapSum_3) (fun H locs hB => ?_)
  refine W.eq (g2 := F0 m 6 ls []) rfl ?_
  cases hf

theorem dX8_priceGap_0 : decode cX8_priceGap 0 = .ok (.aload_n 0, 1) := by decide +kernel
theorem dX8_priceGap_1 : decode cX8_priceGap 1 = .ok (.iload_n 1, 1) := by decide +kernel
theorem dX8_priceGap_2 : decode cX8_priceGap 2 = .ok (.invokevirtual 132, 3) := by decide +kernel
theorem dX8_priceGap_5 : decode cX8_priceGap 5 = .ok (.aload_n 0, 1) := by decide +kernel
theorem dX8_priceGap_6 : decode cX8_priceGap 6 = .ok (.getfield 10, 3) := by decide +kernel
theorem dX8_priceGap_9 : decode cX8_priceGap 9 = .ok (.getfield 125, 3) := by decide +kernel
theorem dX8_priceGap_12 : decode cX8_priceGap 12 = .ok (.getfield 242, 3) := by decide +kernel
theorem dX8_priceGap_15 : decode cX8_priceGap 15 = .ok (.iload_n 1, 1) := by decide +kernel
theorem dX8_priceGap_16 : decode cX8_priceGap 16 = .ok (.iaload, 1) := by decide +kernel
theorem dX8_priceGap_17 : decode cX8_priceGap 17 = .ok (.ireturn, 1) := by decide +kernel
def fX8_priceGap (p1 : Int32) (v : bM) : Option Int32 :=
  bnr (fX8_requireFlour p1 v) fun r2 => ck (v 0) 12 <| nm (v 0).toNatClampNeg fun i4 => ck p1 6 <| some (v (stO i4 + 163 + p1.toNatClampNeg))
set_option maxRecDepth 100000 in
set_option maxHeartbeats 4000000 in
theorem mX8_priceGap {l : Launch} {p1 : Int32} {v : bM} {r0 : Int32} (hf : fX8_priceGap p1 v = some r0) : bMet l yX8_priceGap cX8_priceGap 2 (some .int) 2 0 0 LX (fun E a => [.ref a, .int p1]) v v (fun _ => some (.int r0)) := by
  refine bk_start (by decide +kernel) wfX (fun _ _ => Nat.le_of_ble_eq_true rfl) ?_
  intro p e s m args below meth c D E a ls H locs X hr hl hB
  have hx := X.1
  have hb := X.2.1
  have hown := X.2.2.2.1
  have hts := X.2.2.2.2.1
  have hl : lv_has ls 2 [(0, .ref a), (1, .int p1)] := hl
  have hf := (fX8_priceGap.eq_1 p1 v).symm.trans hf
  refine lv_aload_n hx hb dX8_priceGap_0 rfl (lv_at hl 0 rfl) ?_
  refine lv_iload_n hx hb dX8_priceGap_1 rfl (lv_at hl 1 rfl) ?_
  obtain ⟨r2, hc1, hf⟩ := bnr_some hf
  refine bk_all hB (fun h1 h2 h3 => bk_runV X (Av := [.int p1]) (rest := []) (mX8_requireFlour hc1) yv_X8_requireFlour wm_920 ⟨Nat.le_of_ble_eq_true rfl, Nat.le_of_ble_eq_true rfl⟩ rfl rfl hl.1 kl_X8.1 (hB.1.obj lc_X_0) h1 h2 h3 (Nat.le_of_ble_eq_true rfl) ⟨Nat.le_of_ble_eq_true rfl, Nat.le_of_ble_eq_true rfl⟩ dX8_priceGap_2) (fun H locs hB => ?_)
  refine W.eq (g2 := F0 m 5 ls []) rfl ?_
  refine lv_aload_n hx hb dX8_priceGap_5 rfl (lv_at hl 0 rfl) ?_
  obtain ⟨h3, hf⟩ := ck_some hf
  refine bk_getS X hB kl_X8 0 lc_X_0 0 (by decide) rfl h3 wm_654 dX8_priceGap_6 ?_
  obtain ⟨i4, ei4⟩ : ∃ y : Nat, y = (v 0).toNatClampNeg := ⟨_, rfl⟩
  have hf := nm_use hf ei4
  rw [← ei4]
  have hi4 : i4 < 12 := by rw [ei4]; exact vp_lt h3
  refine bk_getR X hB kl_X6 (stC i4 + 0) ((subX_St _ hi4).at lc_St_0) 6 (by decide) rfl wm_233 dX8_priceGap_9 ?_
  refine bk_getR X hB kl_X2 (stC i4 + 1) ((subX_St _ hi4).at lc_St_1) 5 (by decide) rfl wm_70 dX8_priceGap_12 ?_
  refine lv_iload_n hx hb dX8_priceGap_15 rfl (lv_at hl 1 rfl) ?_
  obtain ⟨h5, hf⟩ := ck_some hf
  refine bk_ald X hB (stC i4 + 18) ((subX_St _ hi4).at lc_St_18) h5 dX8_priceGap_16 ?_
  exact bk_iR X hr rfl hf hB (Nat.le_of_ble_eq_true rfl) (Nat.le_of_ble_eq_true rfl) dX8_priceGap_17
theorem yv_X8_priceGap : bYv yX8_priceGap RX8 cX8_priceGap 2 (some .int) 1 := ⟨⟨rfl, by decide, by decide, rfl⟩, wm_1183, wm_1184, wm_1, wm_1185⟩

def xX8_priceGap (p1 : Int32) (v : bM) : Option Nat :=
  xr (xX8_requireFlour p1 v) <| bnr (fX8_requireFlour p1 v) fun r2 => none
set_option maxRecDepth 100000 in
set_option maxHeartbeats 4000000 in
theorem mxX8_priceGap {l : Launch} (hlt : l.stackTraces = false) {p1 : Int32} {v : bM} {r0 : Nat} (hf : xX8_priceGap p1 v = some r0) : bMetX l yX8_priceGap cX8_priceGap 2 (some .int) 8 1 6 LX (fun E a => [.ref a, .int p1]) v r0 := by
  refine bk_startX (by decide +kernel) wfX (fun _ _ => Nat.le_of_ble_eq_true rfl) ?_
  intro p e s m args below meth c D E a ls H locs X hr hxt hl hB
  have hx := X.1
  have hb := X.2.1
  have hown := X.2.2.2.1
  have hts := X.2.2.2.2.1
  have hl : lv_has ls 2 [(0, .ref a), (1, .int p1)] := hl
  have hf := (xX8_priceGap.eq_1 p1 v).symm.trans hf
  refine lv_aload_n hx hb dX8_priceGap_0 rfl (lv_at hl 0 rfl) ?_
  refine lv_iload_n hx hb dX8_priceGap_1 rfl (lv_at hl 1 rfl) ?_
  refine xr_cases hf (fun hX => ?_) (fun hf => ?_)
  · exact bk_allX hxt X hB (fun h1 h2 h3 => bk_runVX X (Av := [.int p1]) (rest := []) (mxX8_requireFlour hlt hX) yv_X8_requireFlour wm_920 ⟨Nat.le_of_ble_eq_true rfl, Nat.le_of_ble_eq_true rfl⟩ rfl rfl hl.1 kl_X8.1 (hB.1.obj lc_X_0) h1 h2 h3 (Nat.le_of_ble_eq_true rfl) ⟨Nat.le_of_ble_eq_true rfl, Nat.le_of_ble_eq_true rfl⟩ dX8_priceGap_2)
  obtain ⟨r2, hc1, hf⟩ := bnr_some hf
  refine bk_all hB (fun h1 h2 h3 => bk_runV X (Av := [.int p1]) (rest := []) (mX8_requireFlour hc1) yv_X8_requireFlour wm_920 ⟨Nat.le_of_ble_eq_true rfl, Nat.le_of_ble_eq_true rfl⟩ rfl rfl hl.1 kl_X8.1 (hB.1.obj lc_X_0) h1 h2 h3 (Nat.le_of_ble_eq_true rfl) ⟨Nat.le_of_ble_eq_true rfl, Nat.le_of_ble_eq_true rfl⟩ dX8_priceGap_2) (fun H locs hB => ?_)
  refine W.eq (g2 := F0 m 5 ls []) rfl ?_
  cases hf

theorem dX8_useGap_0 : decode cX8_useGap 0 = .ok (.aload_n 0, 1) := by decide +kernel
theorem dX8_useGap_1 : decode cX8_useGap 1 = .ok (.iload_n 1, 1) := by decide +kernel
theorem dX8_useGap_2 : decode cX8_useGap 2 = .ok (.invokevirtual 132, 3) := by decide +kernel
theorem dX8_useGap_5 : decode cX8_useGap 5 = .ok (.aload_n 0, 1) := by decide +kernel
theorem dX8_useGap_6 : decode cX8_useGap 6 = .ok (.getfield 10, 3) := by decide +kernel
theorem dX8_useGap_9 : decode cX8_useGap 9 = .ok (.getfield 125, 3) := by decide +kernel
theorem dX8_useGap_12 : decode cX8_useGap 12 = .ok (.getfield 245, 3) := by decide +kernel
theorem dX8_useGap_15 : decode cX8_useGap 15 = .ok (.iload_n 1, 1) := by decide +kernel
theorem dX8_useGap_16 : decode cX8_useGap 16 = .ok (.iaload, 1) := by decide +kernel
theorem dX8_useGap_17 : decode cX8_useGap 17 = .ok (.ireturn, 1) := by decide +kernel
def fX8_useGap (p1 : Int32) (v : bM) : Option Int32 :=
  bnr (fX8_requireFlour p1 v) fun r2 => ck (v 0) 12 <| nm (v 0).toNatClampNeg fun i4 => ck p1 6 <| some (v (stO i4 + 169 + p1.toNatClampNeg))
set_option maxRecDepth 100000 in
set_option maxHeartbeats 4000000 in
theorem mX8_useGap {l : Launch} {p1 : Int32} {v : bM} {r0 : Int32} (hf : fX8_useGap p1 v = some r0) : bMet l yX8_useGap cX8_useGap 2 (some .int) 2 0 0 LX (fun E a => [.ref a, .int p1]) v v (fun _ => some (.int r0)) := by
  refine bk_start (by decide +kernel) wfX (fun _ _ => Nat.le_of_ble_eq_true rfl) ?_
  intro p e s m args below meth c D E a ls H locs X hr hl hB
  have hx := X.1
  have hb := X.2.1
  have hown := X.2.2.2.1
  have hts := X.2.2.2.2.1
  have hl : lv_has ls 2 [(0, .ref a), (1, .int p1)] := hl
  have hf := (fX8_useGap.eq_1 p1 v).symm.trans hf
  refine lv_aload_n hx hb dX8_useGap_0 rfl (lv_at hl 0 rfl) ?_
  refine lv_iload_n hx hb dX8_useGap_1 rfl (lv_at hl 1 rfl) ?_
  obtain ⟨r2, hc1, hf⟩ := bnr_some hf
  refine bk_all hB (fun h1 h2 h3 => bk_runV X (Av := [.int p1]) (rest := []) (mX8_requireFlour hc1) yv_X8_requireFlour wm_920 ⟨Nat.le_of_ble_eq_true rfl, Nat.le_of_ble_eq_true rfl⟩ rfl rfl hl.1 kl_X8.1 (hB.1.obj lc_X_0) h1 h2 h3 (Nat.le_of_ble_eq_true rfl) ⟨Nat.le_of_ble_eq_true rfl, Nat.le_of_ble_eq_true rfl⟩ dX8_useGap_2) (fun H locs hB => ?_)
  refine W.eq (g2 := F0 m 5 ls []) rfl ?_
  refine lv_aload_n hx hb dX8_useGap_5 rfl (lv_at hl 0 rfl) ?_
  obtain ⟨h3, hf⟩ := ck_some hf
  refine bk_getS X hB kl_X8 0 lc_X_0 0 (by decide) rfl h3 wm_654 dX8_useGap_6 ?_
  obtain ⟨i4, ei4⟩ : ∃ y : Nat, y = (v 0).toNatClampNeg := ⟨_, rfl⟩
  have hf := nm_use hf ei4
  rw [← ei4]
  have hi4 : i4 < 12 := by rw [ei4]; exact vp_lt h3
  refine bk_getR X hB kl_X6 (stC i4 + 0) ((subX_St _ hi4).at lc_St_0) 6 (by decide) rfl wm_233 dX8_useGap_9 ?_
  refine bk_getR X hB kl_X2 (stC i4 + 1) ((subX_St _ hi4).at lc_St_1) 6 (by decide) rfl wm_73 dX8_useGap_12 ?_
  refine lv_iload_n hx hb dX8_useGap_15 rfl (lv_at hl 1 rfl) ?_
  obtain ⟨h5, hf⟩ := ck_some hf
  refine bk_ald X hB (stC i4 + 19) ((subX_St _ hi4).at lc_St_19) h5 dX8_useGap_16 ?_
  exact bk_iR X hr rfl hf hB (Nat.le_of_ble_eq_true rfl) (Nat.le_of_ble_eq_true rfl) dX8_useGap_17
theorem yv_X8_useGap : bYv yX8_useGap RX8 cX8_useGap 2 (some .int) 1 := ⟨⟨rfl, by decide, by decide, rfl⟩, wm_1190, wm_1191, wm_1, wm_1192⟩

def xX8_useGap (p1 : Int32) (v : bM) : Option Nat :=
  xr (xX8_requireFlour p1 v) <| bnr (fX8_requireFlour p1 v) fun r2 => none
set_option maxRecDepth 100000 in
set_option maxHeartbeats 4000000 in
theorem mxX8_useGap {l : Launch} (hlt : l.stackTraces = false) {p1 : Int32} {v : bM} {r0 : Nat} (hf : xX8_useGap p1 v = some r0) : bMetX l yX8_useGap cX8_useGap 2 (some .int) 8 1 6 LX (fun E a => [.ref a, .int p1]) v r0 := by
  refine bk_startX (by decide +kernel) wfX (fun _ _ => Nat.le_of_ble_eq_true rfl) ?_
  intro p e s m args below meth c D E a ls H locs X hr hxt hl hB
  have hx := X.1
  have hb := X.2.1
  have hown := X.2.2.2.1
  have hts := X.2.2.2.2.1
  have hl : lv_has ls 2 [(0, .ref a), (1, .int p1)] := hl
  have hf := (xX8_useGap.eq_1 p1 v).symm.trans hf
  refine lv_aload_n hx hb dX8_useGap_0 rfl (lv_at hl 0 rfl) ?_
  refine lv_iload_n hx hb dX8_useGap_1 rfl (lv_at hl 1 rfl) ?_
  refine xr_cases hf (fun hX => ?_) (fun hf => ?_)
  · exact bk_allX hxt X hB (fun h1 h2 h3 => bk_runVX X (Av := [.int p1]) (rest := []) (mxX8_requireFlour hlt hX) yv_X8_requireFlour wm_920 ⟨Nat.le_of_ble_eq_true rfl, Nat.le_of_ble_eq_true rfl⟩ rfl rfl hl.1 kl_X8.1 (hB.1.obj lc_X_0) h1 h2 h3 (Nat.le_of_ble_eq_true rfl) ⟨Nat.le_of_ble_eq_true rfl, Nat.le_of_ble_eq_true rfl⟩ dX8_useGap_2)
  obtain ⟨r2, hc1, hf⟩ := bnr_some hf
  refine bk_all hB (fun h1 h2 h3 => bk_runV X (Av := [.int p1]) (rest := []) (mX8_requireFlour hc1) yv_X8_requireFlour wm_920 ⟨Nat.le_of_ble_eq_true rfl, Nat.le_of_ble_eq_true rfl⟩ rfl rfl hl.1 kl_X8.1 (hB.1.obj lc_X_0) h1 h2 h3 (Nat.le_of_ble_eq_true rfl) ⟨Nat.le_of_ble_eq_true rfl, Nat.le_of_ble_eq_true rfl⟩ dX8_useGap_2) (fun H locs hB => ?_)
  refine W.eq (g2 := F0 m 5 ls []) rfl ?_
  cases hf

theorem dX8_totalLoss_0 : decode cX8_totalLoss 0 = .ok (.aload_n 0, 1) := by decide +kernel
theorem dX8_totalLoss_1 : decode cX8_totalLoss 1 = .ok (.getfield 10, 3) := by decide +kernel
theorem dX8_totalLoss_4 : decode cX8_totalLoss 4 = .ok (.invokevirtual 248, 3) := by decide +kernel
theorem dX8_totalLoss_7 : decode cX8_totalLoss 7 = .ok (.ireturn, 1) := by decide +kernel
def fX8_totalLoss  (v : bM) : Option Int32 :=
  ck (v 0) 12 <| nm (v 0).toNatClampNeg fun i2 => bnr (fX6_sumOfAllGaps (vw v (stO i2))) fun r4 => some (r4)
set_option maxRecDepth 100000 in
set_option maxHeartbeats 4000000 in
theorem mX8_totalLoss {l : Launch}  {v : bM} {r0 : Int32} (hf : fX8_totalLoss  v = some r0) : bMet l yX8_totalLoss cX8_totalLoss 1 (some .int) 3 0 0 LX (fun E a => [.ref a]) v v (fun _ => some (.int r0)) := by
  refine bk_start (by decide +kernel) wfX (fun _ _ => Nat.le_of_ble_eq_true rfl) ?_
  intro p e s m args below meth c D E a ls H locs X hr hl hB
  have hx := X.1
  have hb := X.2.1
  have hown := X.2.2.2.1
  have hts := X.2.2.2.2.1
  have hl : lv_has ls 1 [(0, .ref a)] := hl
  have hf := (fX8_totalLoss.eq_1  v).symm.trans hf
  refine lv_aload_n hx hb dX8_totalLoss_0 rfl (lv_at hl 0 rfl) ?_
  obtain ⟨h1, hf⟩ := ck_some hf
  refine bk_getS X hB kl_X8 0 lc_X_0 0 (by decide) rfl h1 wm_654 dX8_totalLoss_1 ?_
  obtain ⟨i2, ei2⟩ : ∃ y : Nat, y = (v 0).toNatClampNeg := ⟨_, rfl⟩
  have hf := nm_use hf ei2
  rw [← ei2]
  have hi2 : i2 < 12 := by rw [ei2]; exact vp_lt h1
  obtain ⟨r4, hc3, hf⟩ := bnr_some hf
  refine bk_subR (subX_St _ hi2) hB (fun h1 h2 h3 => bk_runV X (Av := []) (rest := []) (mX6_sumOfAllGaps hc3) yv_X6_sumOfAllGaps wm_788 ⟨Nat.le_of_ble_eq_true rfl, Nat.le_of_ble_eq_true rfl⟩ rfl rfl hl.1 kl_X6.1 (hB.1.obj ((subX_St _ hi2).at lc_St_0)) h1 h2 h3 (Nat.le_of_ble_eq_true rfl) ⟨Nat.le_of_ble_eq_true rfl, Nat.le_of_ble_eq_true rfl⟩ dX8_totalLoss_4) (fun H locs hB => ?_)
  refine W.eq (g2 := F0 m 7 ls [.int r4]) rfl ?_
  exact bk_iR X hr rfl hf hB (Nat.le_of_ble_eq_true rfl) (Nat.le_of_ble_eq_true rfl) dX8_totalLoss_7
theorem yv_X8_totalLoss : bYv yX8_totalLoss RX8 cX8_totalLoss 1 (some .int) 0 := ⟨⟨rfl, by decide, by decide, rfl⟩, wm_785, wm_786, wm_1, wm_787⟩

theorem dX8_worstBatch_0 : decode cX8_worstBatch 0 = .ok (.aload_n 0, 1) := by decide +kernel
theorem dX8_worstBatch_1 : decode cX8_worstBatch 1 = .ok (.getfield 10, 3) := by decide +kernel
theorem dX8_worstBatch_4 : decode cX8_worstBatch 4 = .ok (.getfield 93, 3) := by decide +kernel
theorem dX8_worstBatch_7 : decode cX8_worstBatch 7 = .ok (.invokevirtual 251, 3) := by decide +kernel
theorem dX8_worstBatch_10 : decode cX8_worstBatch 10 = .ok (.ireturn, 1) := by decide +kernel
def fX8_worstBatch  (v : bM) : Option Int32 :=
  ck (v 0) 12 <| nm (v 0).toNatClampNeg fun i2 => bnr (fX0_dearest (vw v (stO i2 + 277))) fun r4 => some (r4)
set_option maxRecDepth 100000 in
set_option maxHeartbeats 4000000 in
theorem mX8_worstBatch {l : Launch}  {v : bM} {r0 : Int32} (hf : fX8_worstBatch  v = some r0) : bMet l yX8_worstBatch cX8_worstBatch 1 (some .int) 1 0 0 LX (fun E a => [.ref a]) v v (fun _ => some (.int r0)) := by
  refine bk_start (by decide +kernel) wfX (fun _ _ => Nat.le_of_ble_eq_true rfl) ?_
  intro p e s m args below meth c D E a ls H locs X hr hl hB
  have hx := X.1
  have hb := X.2.1
  have hown := X.2.2.2.1
  have hts := X.2.2.2.2.1
  have hl : lv_has ls 1 [(0, .ref a)] := hl
  have hf := (fX8_worstBatch.eq_1  v).symm.trans hf
  refine lv_aload_n hx hb dX8_worstBatch_0 rfl (lv_at hl 0 rfl) ?_
  obtain ⟨h1, hf⟩ := ck_some hf
  refine bk_getS X hB kl_X8 0 lc_X_0 0 (by decide) rfl h1 wm_654 dX8_worstBatch_1 ?_
  obtain ⟨i2, ei2⟩ : ∃ y : Nat, y = (v 0).toNatClampNeg := ⟨_, rfl⟩
  have hf := nm_use hf ei2
  rw [← ei2]
  have hi2 : i2 < 12 := by rw [ei2]; exact vp_lt h1
  refine bk_getR X hB kl_X6 (stC i2 + 0) ((subX_St _ hi2).at lc_St_0) 9 (by decide) rfl wm_241 dX8_worstBatch_4 ?_
  obtain ⟨r4, hc3, hf⟩ := bnr_some hf
  refine bk_subR (subX_St_37 _ hi2) hB (fun h1 h2 h3 => bk_runV X (Av := []) (rest := []) (mX0_dearest hc3) yv_X0_dearest wm_804 ⟨Nat.le_of_ble_eq_true rfl, Nat.le_of_ble_eq_true rfl⟩ rfl rfl hl.1 kl_X0.1 (hB.1.obj ((subX_St _ hi2).at lc_St_37)) h1 h2 h3 (Nat.le_of_ble_eq_true rfl) ⟨Nat.le_of_ble_eq_true rfl, Nat.le_of_ble_eq_true rfl⟩ dX8_worstBatch_7) (fun H locs hB => ?_)
  refine W.eq (g2 := F0 m 10 ls [.int r4]) rfl ?_
  exact bk_iR X hr rfl hf hB (Nat.le_of_ble_eq_true rfl) (Nat.le_of_ble_eq_true rfl) dX8_worstBatch_10
theorem yv_X8_worstBatch : bYv yX8_worstBatch RX8 cX8_worstBatch 1 (some .int) 0 := ⟨⟨rfl, by decide, by decide, rfl⟩, wm_801, wm_802, wm_1, wm_803⟩

theorem dX8_worstKind_0 : decode cX8_worstKind 0 = .ok (.aload_n 0, 1) := by decide +kernel
theorem dX8_worstKind_1 : decode cX8_worstKind 1 = .ok (.getfield 10, 3) := by decide +kernel
theorem dX8_worstKind_4 : decode cX8_worstKind 4 = .ok (.invokevirtual 254, 3) := by decide +kernel
theorem dX8_worstKind_7 : decode cX8_worstKind 7 = .ok (.ireturn, 1) := by decide +kernel
def fX8_worstKind  (v : bM) : Option Int32 :=
  ck (v 0) 12 <| nm (v 0).toNatClampNeg fun i2 => bnr (fX6_dearestKind (vw v (stO i2))) fun r4 => some (r4)
set_option maxRecDepth 100000 in
set_option maxHeartbeats 4000000 in
theorem mX8_worstKind {l : Launch}  {v : bM} {r0 : Int32} (hf : fX8_worstKind  v = some r0) : bMet l yX8_worstKind cX8_worstKind 1 (some .int) 3 0 0 LX (fun E a => [.ref a]) v v (fun _ => some (.int r0)) := by
  refine bk_start (by decide +kernel) wfX (fun _ _ => Nat.le_of_ble_eq_true rfl) ?_
  intro p e s m args below meth c D E a ls H locs X hr hl hB
  have hx := X.1
  have hb := X.2.1
  have hown := X.2.2.2.1
  have hts := X.2.2.2.2.1
  have hl : lv_has ls 1 [(0, .ref a)] := hl
  have hf := (fX8_worstKind.eq_1  v).symm.trans hf
  refine lv_aload_n hx hb dX8_worstKind_0 rfl (lv_at hl 0 rfl) ?_
  obtain ⟨h1, hf⟩ := ck_some hf
  refine bk_getS X hB kl_X8 0 lc_X_0 0 (by decide) rfl h1 wm_654 dX8_worstKind_1 ?_
  obtain ⟨i2, ei2⟩ : ∃ y : Nat, y = (v 0).toNatClampNeg := ⟨_, rfl⟩
  have hf := nm_use hf ei2
  rw [← ei2]
  have hi2 : i2 < 12 := by rw [ei2]; exact vp_lt h1
  obtain ⟨r4, hc3, hf⟩ := bnr_some hf
  refine bk_subR (subX_St _ hi2) hB (fun h1 h2 h3 => bk_runV X (Av := []) (rest := []) (mX6_dearestKind hc3) yv_X6_dearestKind wm_812 ⟨Nat.le_of_ble_eq_true rfl, Nat.le_of_ble_eq_true rfl⟩ rfl rfl hl.1 kl_X6.1 (hB.1.obj ((subX_St _ hi2).at lc_St_0)) h1 h2 h3 (Nat.le_of_ble_eq_true rfl) ⟨Nat.le_of_ble_eq_true rfl, Nat.le_of_ble_eq_true rfl⟩ dX8_worstKind_4) (fun H locs hB => ?_)
  refine W.eq (g2 := F0 m 7 ls [.int r4]) rfl ?_
  exact bk_iR X hr rfl hf hB (Nat.le_of_ble_eq_true rfl) (Nat.le_of_ble_eq_true rfl) dX8_worstKind_7
theorem yv_X8_worstKind : bYv yX8_worstKind RX8 cX8_worstKind 1 (some .int) 0 := ⟨⟨rfl, by decide, by decide, rfl⟩, wm_809, wm_810, wm_1, wm_811⟩

theorem dX8_requirePlan_0 : decode cX8_requirePlan 0 = .ok (.iload_n 0, 1) := by decide +kernel
theorem dX8_requirePlan_1 : decode cX8_requirePlan 1 = .ok (.iconst 1, 1) := by decide +kernel
theorem dX8_requirePlan_2 : decode cX8_requirePlan 2 = .ok (.bipush 20, 2) := by decide +kernel
theorem dX8_requirePlan_4 : decode cX8_requirePlan 4 = .ok (.invokestatic 197, 3) := by decide +kernel
theorem dX8_requirePlan_7 : decode cX8_requirePlan 7 = .ok (.iload_n 1, 1) := by decide +kernel
theorem dX8_requirePlan_8 : decode cX8_requirePlan 8 = .ok (.bipush (-9), 2) := by decide +kernel
theorem dX8_requirePlan_10 : decode cX8_requirePlan 10 = .ok (.bipush 9, 2) := by decide +kernel
theorem dX8_requirePlan_12 : decode cX8_requirePlan 12 = .ok (.invokestatic 197, 3) := by decide +kernel
theorem dX8_requirePlan_15 : decode cX8_requirePlan 15 = .ok (.iload_n 2, 1) := by decide +kernel
theorem dX8_requirePlan_16 : decode cX8_requirePlan 16 = .ok (.bipush (-9), 2) := by decide +kernel
theorem dX8_requirePlan_18 : decode cX8_requirePlan 18 = .ok (.bipush 9, 2) := by decide +kernel
theorem dX8_requirePlan_20 : decode cX8_requirePlan 20 = .ok (.invokestatic 197, 3) := by decide +kernel
theorem dX8_requirePlan_23 : decode cX8_requirePlan 23 = .ok (.return_, 1) := by decide +kernel
def fX8_requirePlan (p0 : Int32) (p1 : Int32) (p2 : Int32) : Option Unit :=
  bnr (fX8_requireRange p0 1 20) fun r2 => bnr (fX8_requireRange p1 (-9) 9) fun r4 => bnr (fX8_requireRange p2 (-9) 9) fun r6 => some ()
set_option maxRecDepth 100000 in
set_option maxHeartbeats 4000000 in
theorem mX8_requirePlan {l : Launch} {p0 : Int32} {p1 : Int32} {p2 : Int32} {v : bM} (hf : fX8_requirePlan p0 p1 p2 = some ()) : bMet l yX8_requirePlan cX8_requirePlan 3 none 1 0 0 [] (fun E a => [.int p0, .int p1, .int p2]) v v (fun _ => none) := by
  refine bk_start (by decide +kernel) bWf_nil (fun _ _ => Nat.le_of_ble_eq_true rfl) ?_
  intro p e s m args below meth c D E a ls H locs X hr hl hB
  have hx := X.1
  have hb := X.2.1
  have hown := X.2.2.2.1
  have hts := X.2.2.2.2.1
  have hl : lv_has ls 3 [(0, .int p0), (1, .int p1), (2, .int p2)] := hl
  have hf := (fX8_requirePlan.eq_1 p0 p1 p2).symm.trans hf
  refine lv_iload_n hx hb dX8_requirePlan_0 rfl (lv_at hl 0 rfl) ?_
  refine lv_iconst (v := 1) hx hb dX8_requirePlan_1 (by decide) ?_
  refine lv_bipush (v := 20) hx hb dX8_requirePlan_2 (by decide) ?_
  obtain ⟨r2, hc1, hf⟩ := bnr_some hf
  refine bk_non (v0 := v) (w0 := v) hB (fun h1 h2 h3 => bk_runS X (Av := [.int p0, .int 1, .int 20]) (rest := []) (mX8_requireRange hc1) ys_X8_requireRange wm_1084 ⟨Nat.le_of_ble_eq_true rfl, Nat.le_of_ble_eq_true rfl⟩ rfl rfl hl.1 h1 h2 h3 (Nat.le_of_ble_eq_true rfl) ⟨Nat.le_of_ble_eq_true rfl, Nat.le_of_ble_eq_true rfl⟩ dX8_requirePlan_4) (fun H locs hB => ?_)
  refine W.eq (g2 := F0 m 7 ls []) rfl ?_
  refine lv_iload_n hx hb dX8_requirePlan_7 rfl (lv_at hl 1 rfl) ?_
  refine lv_bipush (v := (-9)) hx hb dX8_requirePlan_8 (by decide) ?_
  refine lv_bipush (v := 9) hx hb dX8_requirePlan_10 (by decide) ?_
  obtain ⟨r4, hc3, hf⟩ := bnr_some hf
  refine bk_non (v0 := v) (w0 := v) hB (fun h1 h2 h3 => bk_runS X (Av := [.int p1, .int (-9), .int 9]) (rest := []) (mX8_requireRange hc3) ys_X8_requireRange wm_1084 ⟨Nat.le_of_ble_eq_true rfl, Nat.le_of_ble_eq_true rfl⟩ rfl rfl hl.1 h1 h2 h3 (Nat.le_of_ble_eq_true rfl) ⟨Nat.le_of_ble_eq_true rfl, Nat.le_of_ble_eq_true rfl⟩ dX8_requirePlan_12) (fun H locs hB => ?_)
  refine W.eq (g2 := F0 m 15 ls []) rfl ?_
  refine lv_iload_n hx hb dX8_requirePlan_15 rfl (lv_at hl 2 rfl) ?_
  refine lv_bipush (v := (-9)) hx hb dX8_requirePlan_16 (by decide) ?_
  refine lv_bipush (v := 9) hx hb dX8_requirePlan_18 (by decide) ?_
  obtain ⟨r6, hc5, hf⟩ := bnr_some hf
  refine bk_non (v0 := v) (w0 := v) hB (fun h1 h2 h3 => bk_runS X (Av := [.int p2, .int (-9), .int 9]) (rest := []) (mX8_requireRange hc5) ys_X8_requireRange wm_1084 ⟨Nat.le_of_ble_eq_true rfl, Nat.le_of_ble_eq_true rfl⟩ rfl rfl hl.1 h1 h2 h3 (Nat.le_of_ble_eq_true rfl) ⟨Nat.le_of_ble_eq_true rfl, Nat.le_of_ble_eq_true rfl⟩ dX8_requirePlan_20) (fun H locs hB => ?_)
  refine W.eq (g2 := F0 m 23 ls []) rfl ?_
  exact bk_vret X hr rfl hB (Nat.le_of_ble_eq_true rfl) (Nat.le_of_ble_eq_true rfl) dX8_requirePlan_23
theorem ys_X8_requirePlan : bYs yX8_requirePlan RX8 cX8_requirePlan 3 none 3 := ⟨⟨rfl, by decide, by decide, rfl⟩, wm_1201, wm_1, wm_1202⟩

def xX8_requirePlan (p0 : Int32) (p1 : Int32) (p2 : Int32) : Option Nat :=
  xr (xX8_requireRange p0 1 20) <| bnr (fX8_requireRange p0 1 20) fun r2 => xr (xX8_requireRange p1 (-9) 9) <| bnr (fX8_requireRange p1 (-9) 9) fun r4 => xr (xX8_requireRange p2 (-9) 9) <| bnr (fX8_requireRange p2 (-9) 9) fun r6 => none
set_option maxRecDepth 100000 in
set_option maxHeartbeats 4000000 in
theorem mxX8_requirePlan {l : Launch} (hlt : l.stackTraces = false) {p0 : Int32} {p1 : Int32} {p2 : Int32} {v : bM} {r0 : Nat} (hf : xX8_requirePlan p0 p1 p2 = some r0) : bMetX l yX8_requirePlan cX8_requirePlan 3 none 7 1 6 [] (fun E a => [.int p0, .int p1, .int p2]) v r0 := by
  refine bk_startX (by decide +kernel) bWf_nil (fun _ _ => Nat.le_of_ble_eq_true rfl) ?_
  intro p e s m args below meth c D E a ls H locs X hr hxt hl hB
  have hx := X.1
  have hb := X.2.1
  have hown := X.2.2.2.1
  have hts := X.2.2.2.2.1
  have hl : lv_has ls 3 [(0, .int p0), (1, .int p1), (2, .int p2)] := hl
  have hf := (xX8_requirePlan.eq_1 p0 p1 p2).symm.trans hf
  refine lv_iload_n hx hb dX8_requirePlan_0 rfl (lv_at hl 0 rfl) ?_
  refine lv_iconst (v := 1) hx hb dX8_requirePlan_1 (by decide) ?_
  refine lv_bipush (v := 20) hx hb dX8_requirePlan_2 (by decide) ?_
  refine xr_cases hf (fun hX => ?_) (fun hf => ?_)
  · exact bk_nonX (v0 := v) hxt X hB (fun h1 h2 h3 => bk_runSX X (Av := [.int p0, .int 1, .int 20]) (rest := []) (mxX8_requireRange hlt hX) ys_X8_requireRange wm_1084 ⟨Nat.le_of_ble_eq_true rfl, Nat.le_of_ble_eq_true rfl⟩ rfl rfl hl.1 h1 h2 h3 (Nat.le_of_ble_eq_true rfl) ⟨Nat.le_of_ble_eq_true rfl, Nat.le_of_ble_eq_true rfl⟩ dX8_requirePlan_4)
  obtain ⟨r2, hc1, hf⟩ := bnr_some hf
  refine bk_non (v0 := v) (w0 := v) hB (fun h1 h2 h3 => bk_runS X (Av := [.int p0, .int 1, .int 20]) (rest := []) (mX8_requireRange hc1) ys_X8_requireRange wm_1084 ⟨Nat.le_of_ble_eq_true rfl, Nat.le_of_ble_eq_true rfl⟩ rfl rfl hl.1 h1 h2 h3 (Nat.le_of_ble_eq_true rfl) ⟨Nat.le_of_ble_eq_true rfl, Nat.le_of_ble_eq_true rfl⟩ dX8_requirePlan_4) (fun H locs hB => ?_)
  refine W.eq (g2 := F0 m 7 ls []) rfl ?_
  refine lv_iload_n hx hb dX8_requirePlan_7 rfl (lv_at hl 1 rfl) ?_
  refine lv_bipush (v := (-9)) hx hb dX8_requirePlan_8 (by decide) ?_
  refine lv_bipush (v := 9) hx hb dX8_requirePlan_10 (by decide) ?_
  refine xr_cases hf (fun hX => ?_) (fun hf => ?_)
  · exact bk_nonX (v0 := v) hxt X hB (fun h1 h2 h3 => bk_runSX X (Av := [.int p1, .int (-9), .int 9]) (rest := []) (mxX8_requireRange hlt hX) ys_X8_requireRange wm_1084 ⟨Nat.le_of_ble_eq_true rfl, Nat.le_of_ble_eq_true rfl⟩ rfl rfl hl.1 h1 h2 h3 (Nat.le_of_ble_eq_true rfl) ⟨Nat.le_of_ble_eq_true rfl, Nat.le_of_ble_eq_true rfl⟩ dX8_requirePlan_12)
  obtain ⟨r4, hc3, hf⟩ := bnr_some hf
  refine bk_non (v0 := v) (w0 := v) hB (fun h1 h2 h3 => bk_runS X (Av := [.int p1, .int (-9), .int 9]) (rest := []) (mX8_requireRange hc3) ys_X8_requireRange wm_1084 ⟨Nat.le_of_ble_eq_true rfl, Nat.le_of_ble_eq_true rfl⟩ rfl rfl hl.1 h1 h2 h3 (Nat.le_of_ble_eq_true rfl) ⟨Nat.le_of_ble_eq_true rfl, Nat.le_of_ble_eq_true rfl⟩ dX8_requirePlan_12) (fun H locs hB => ?_)
  refine W.eq (g2 := F0 m 15 ls []) rfl ?_
  refine lv_iload_n hx hb dX8_requirePlan_15 rfl (lv_at hl 2 rfl) ?_
  refine lv_bipush (v := (-9)) hx hb dX8_requirePlan_16 (by decide) ?_
  refine lv_bipush (v := 9) hx hb dX8_requirePlan_18 (by decide) ?_
  refine xr_cases hf (fun hX => ?_) (fun hf => ?_)
  · exact bk_nonX (v0 := v) hxt X hB (fun h1 h2 h3 => bk_runSX X (Av := [.int p2, .int (-9), .int 9]) (rest := []) (mxX8_requireRange hlt hX) ys_X8_requireRange wm_1084 ⟨Nat.le_of_ble_eq_true rfl, Nat.le_of_ble_eq_true rfl⟩ rfl rfl hl.1 h1 h2 h3 (Nat.le_of_ble_eq_true rfl) ⟨Nat.le_of_ble_eq_true rfl, Nat.le_of_ble_eq_true rfl⟩ dX8_requirePlan_20)
  obtain ⟨r6, hc5, hf⟩ := bnr_some hf
  refine bk_non (v0 := v) (w0 := v) hB (fun h1 h2 h3 => bk_runS X (Av := [.int p2, .int (-9), .int 9]) (rest := []) (mX8_requireRange hc5) ys_X8_requireRange wm_1084 ⟨Nat.le_of_ble_eq_true rfl, Nat.le_of_ble_eq_true rfl⟩ rfl rfl hl.1 h1 h2 h3 (Nat.le_of_ble_eq_true rfl) ⟨Nat.le_of_ble_eq_true rfl, Nat.le_of_ble_eq_true rfl⟩ dX8_requirePlan_20) (fun H locs hB => ?_)
  refine W.eq (g2 := F0 m 23 ls []) rfl ?_
  cases hf

theorem dX8_bakeObstacle_0 : decode cX8_bakeObstacle 0 = .ok (.aload_n 0, 1) := by decide +kernel
theorem dX8_bakeObstacle_1 : decode cX8_bakeObstacle 1 = .ok (.iload_n 1, 1) := by decide +kernel
theorem dX8_bakeObstacle_2 : decode cX8_bakeObstacle 2 = .ok (.invokevirtual 163, 3) := by decide +kernel
theorem dX8_bakeObstacle_5 : decode cX8_bakeObstacle 5 = .ok (.iload_n 2, 1) := by decide +kernel
theorem dX8_bakeObstacle_6 : decode cX8_bakeObstacle 6 = .ok (.iload_n 3, 1) := by decide +kernel
theorem dX8_bakeObstacle_7 : decode cX8_bakeObstacle 7 = .ok (.iload 4, 2) := by decide +kernel
theorem dX8_bakeObstacle_9 : decode cX8_bakeObstacle 9 = .ok (.invokestatic 257, 3) := by decide +kernel
theorem dX8_bakeObstacle_12 : decode cX8_bakeObstacle 12 = .ok (.aload_n 0, 1) := by decide +kernel
theorem dX8_bakeObstacle_13 : decode cX8_bakeObstacle 13 = .ok (.getfield 10, 3) := by decide +kernel
theorem dX8_bakeObstacle_16 : decode cX8_bakeObstacle 16 = .ok (.iload_n 1, 1) := by decide +kernel
theorem dX8_bakeObstacle_17 : decode cX8_bakeObstacle 17 = .ok (.iload_n 2, 1) := by decide +kernel
theorem dX8_bakeObstacle_18 : decode cX8_bakeObstacle 18 = .ok (.iload_n 3, 1) := by decide +kernel
theorem dX8_bakeObstacle_19 : decode cX8_bakeObstacle 19 = .ok (.iload 4, 2) := by decide +kernel
theorem dX8_bakeObstacle_21 : decode cX8_bakeObstacle 21 = .ok (.invokevirtual 260, 3) := by decide +kernel
theorem dX8_bakeObstacle_24 : decode cX8_bakeObstacle 24 = .ok (.ireturn, 1) := by decide +kernel
def fX8_bakeObstacle (p1 : Int32) (p2 : Int32) (p3 : Int32) (p4 : Int32) (v : bM) : Option Int32 :=
  bnr (fX8_requireBread p1 v) fun r2 => bnr (fX8_requirePlan p2 p3 p4) fun r4 => ck (v 0) 12 <| nm (v 0).toNatClampNeg fun i6 => bnr (fX6_obstacle p1 p2 p3 p4 (vw v (stO i6))) fun r8 => some (r8)
set_option maxRecDepth 100000 in
set_option maxHeartbeats 4000000 in
theorem mX8_bakeObstacle {l : Launch} {p1 : Int32} {p2 : Int32} {p3 : Int32} {p4 : Int32} {v : bM} {r0 : Int32} (hf : fX8_bakeObstacle p1 p2 p3 p4 v = some r0) : bMet l yX8_bakeObstacle cX8_bakeObstacle 5 (some .int) 3 0 0 LX (fun E a => [.ref a, .int p1, .int p2, .int p3, .int p4]) v v (fun _ => some (.int r0)) := by
  refine bk_start (by decide +kernel) wfX (fun _ _ => Nat.le_of_ble_eq_true rfl) ?_
  intro p e s m args below meth c D E a ls H locs X hr hl hB
  have hx := X.1
  have hb := X.2.1
  have hown := X.2.2.2.1
  have hts := X.2.2.2.2.1
  have hl : lv_has ls 5 [(0, .ref a), (1, .int p1), (2, .int p2), (3, .int p3), (4, .int p4)] := hl
  have hf := (fX8_bakeObstacle.eq_1 p1 p2 p3 p4 v).symm.trans hf
  refine lv_aload_n hx hb dX8_bakeObstacle_0 rfl (lv_at hl 0 rfl) ?_
  refine lv_iload_n hx hb dX8_bakeObstacle_1 rfl (lv_at hl 1 rfl) ?_
  obtain ⟨r2, hc1, hf⟩ := bnr_some hf
  refine bk_all hB (fun h1 h2 h3 => bk_runV X (Av := [.int p1]) (rest := []) (mX8_requireBread hc1) yv_X8_requireBread wm_1037 ⟨Nat.le_of_ble_eq_true rfl, Nat.le_of_ble_eq_true rfl⟩ rfl rfl hl.1 kl_X8.1 (hB.1.obj lc_X_0) h1 h2 h3 (Nat.le_of_ble_eq_true rfl) ⟨Nat.le_of_ble_eq_true rfl, Nat.le_of_ble_eq_true rfl⟩ dX8_bakeObstacle_2) (fun H locs hB => ?_)
  refine W.eq (g2 := F0 m 5 ls []) rfl ?_
  refine lv_iload_n hx hb dX8_bakeObstacle_5 rfl (lv_at hl 2 rfl) ?_
  refine lv_iload_n hx hb dX8_bakeObstacle_6 rfl (lv_at hl 3 rfl) ?_
  refine lv_iload hx hb dX8_bakeObstacle_7 (lv_at hl 4 rfl) ?_
  obtain ⟨r4, hc3, hf⟩ := bnr_some hf
  refine bk_non (v0 := v) (w0 := v) hB (fun h1 h2 h3 => bk_runS X (Av := [.int p2, .int p3, .int p4]) (rest := []) (mX8_requirePlan hc3) ys_X8_requirePlan wm_1200 ⟨Nat.le_of_ble_eq_true rfl, Nat.le_of_ble_eq_true rfl⟩ rfl rfl hl.1 h1 h2 h3 (Nat.le_of_ble_eq_true rfl) ⟨Nat.le_of_ble_eq_true rfl, Nat.le_of_ble_eq_true rfl⟩ dX8_bakeObstacle_9) (fun H locs hB => ?_)
  refine W.eq (g2 := F0 m 12 ls []) rfl ?_
  refine lv_aload_n hx hb dX8_bakeObstacle_12 rfl (lv_at hl 0 rfl) ?_
  obtain ⟨h5, hf⟩ := ck_some hf
  refine bk_getS X hB kl_X8 0 lc_X_0 0 (by decide) rfl h5 wm_654 dX8_bakeObstacle_13 ?_
  obtain ⟨i6, ei6⟩ : ∃ y : Nat, y = (v 0).toNatClampNeg := ⟨_, rfl⟩
  have hf := nm_use hf ei6
  rw [← ei6]
  have hi6 : i6 < 12 := by rw [ei6]; exact vp_lt h5
  refine lv_iload_n hx hb dX8_bakeObstacle_16 rfl (lv_at hl 1 rfl) ?_
  refine lv_iload_n hx hb dX8_bakeObstacle_17 rfl (lv_at hl 2 rfl) ?_
  refine lv_iload_n hx hb dX8_bakeObstacle_18 rfl (lv_at hl 3 rfl) ?_
  refine lv_iload hx hb dX8_bakeObstacle_19 (lv_at hl 4 rfl) ?_
  obtain ⟨r8, hc7, hf⟩ := bnr_some hf
  refine bk_subR (subX_St _ hi6) hB (fun h1 h2 h3 => bk_runV X (Av := [.int p1, .int p2, .int p3, .int p4]) (rest := []) (mX6_obstacle hc7) yv_X6_obstacle wm_1203 ⟨Nat.le_of_ble_eq_true rfl, Nat.le_of_ble_eq_true rfl⟩ rfl rfl hl.1 kl_X6.1 (hB.1.obj ((subX_St _ hi6).at lc_St_0)) h1 h2 h3 (Nat.le_of_ble_eq_true rfl) ⟨Nat.le_of_ble_eq_true rfl, Nat.le_of_ble_eq_true rfl⟩ dX8_bakeObstacle_21) (fun H locs hB => ?_)
  refine W.eq (g2 := F0 m 24 ls [.int r8]) rfl ?_
  exact bk_iR X hr rfl hf hB (Nat.le_of_ble_eq_true rfl) (Nat.le_of_ble_eq_true rfl) dX8_bakeObstacle_24
theorem yv_X8_bakeObstacle : bYv yX8_bakeObstacle RX8 cX8_bakeObstacle 5 (some .int) 4 := ⟨⟨rfl, by decide, by decide, rfl⟩, wm_1197, wm_1198, wm_1, wm_1199⟩

def xX8_bakeObstacle (p1 : Int32) (p2 : Int32) (p3 : Int32) (p4 : Int32) (v : bM) : Option Nat :=
  xr (xX8_requireBread p1 v) <| bnr (fX8_requireBread p1 v) fun r2 => xr (xX8_requirePlan p2 p3 p4) <| bnr (fX8_requirePlan p2 p3 p4) fun r4 => none
set_option maxRecDepth 100000 in
set_option maxHeartbeats 4000000 in
theorem mxX8_bakeObstacle {l : Launch} (hlt : l.stackTraces = false) {p1 : Int32} {p2 : Int32} {p3 : Int32} {p4 : Int32} {v : bM} {r0 : Nat} (hf : xX8_bakeObstacle p1 p2 p3 p4 v = some r0) : bMetX l yX8_bakeObstacle cX8_bakeObstacle 5 (some .int) 8 1 6 LX (fun E a => [.ref a, .int p1, .int p2, .int p3, .int p4]) v r0 := by
  refine bk_startX (by decide +kernel) wfX (fun _ _ => Nat.le_of_ble_eq_true rfl) ?_
  intro p e s m args below meth c D E a ls H locs X hr hxt hl hB
  have hx := X.1
  have hb := X.2.1
  have hown := X.2.2.2.1
  have hts := X.2.2.2.2.1
  have hl : lv_has ls 5 [(0, .ref a), (1, .int p1), (2, .int p2), (3, .int p3), (4, .int p4)] := hl
  have hf := (xX8_bakeObstacle.eq_1 p1 p2 p3 p4 v).symm.trans hf
  refine lv_aload_n hx hb dX8_bakeObstacle_0 rfl (lv_at hl 0 rfl) ?_
  refine lv_iload_n hx hb dX8_bakeObstacle_1 rfl (lv_at hl 1 rfl) ?_
  refine xr_cases hf (fun hX => ?_) (fun hf => ?_)
  · exact bk_allX hxt X hB (fun h1 h2 h3 => bk_runVX X (Av := [.int p1]) (rest := []) (mxX8_requireBread hlt hX) yv_X8_requireBread wm_1037 ⟨Nat.le_of_ble_eq_true rfl, Nat.le_of_ble_eq_true rfl⟩ rfl rfl hl.1 kl_X8.1 (hB.1.obj lc_X_0) h1 h2 h3 (Nat.le_of_ble_eq_true rfl) ⟨Nat.le_of_ble_eq_true rfl, Nat.le_of_ble_eq_true rfl⟩ dX8_bakeObstacle_2)
  obtain ⟨r2, hc1, hf⟩ := bnr_some hf
  refine bk_all hB (fun h1 h2 h3 => bk_runV X (Av := [.int p1]) (rest := []) (mX8_requireBread hc1) yv_X8_requireBread wm_1037 ⟨Nat.le_of_ble_eq_true rfl, Nat.le_of_ble_eq_true rfl⟩ rfl rfl hl.1 kl_X8.1 (hB.1.obj lc_X_0) h1 h2 h3 (Nat.le_of_ble_eq_true rfl) ⟨Nat.le_of_ble_eq_true rfl, Nat.le_of_ble_eq_true rfl⟩ dX8_bakeObstacle_2) (fun H locs hB => ?_)
  refine W.eq (g2 := F0 m 5 ls []) rfl ?_
  refine lv_iload_n hx hb dX8_bakeObstacle_5 rfl (lv_at hl 2 rfl) ?_
  refine lv_iload_n hx hb dX8_bakeObstacle_6 rfl (lv_at hl 3 rfl) ?_
  refine lv_iload hx hb dX8_bakeObstacle_7 (lv_at hl 4 rfl) ?_
  refine xr_cases hf (fun hX => ?_) (fun hf => ?_)
  · exact bk_nonX (v0 := v) hxt X hB (fun h1 h2 h3 => bk_runSX X (Av := [.int p2, .int p3, .int p4]) (rest := []) (mxX8_requirePlan hlt hX) ys_X8_requirePlan wm_1200 ⟨Nat.le_of_ble_eq_true rfl, Nat.le_of_ble_eq_true rfl⟩ rfl rfl hl.1 h1 h2 h3 (Nat.le_of_ble_eq_true rfl) ⟨Nat.le_of_ble_eq_true rfl, Nat.le_of_ble_eq_true rfl⟩ dX8_bakeObstacle_9)
  obtain ⟨r4, hc3, hf⟩ := bnr_some hf
  refine bk_non (v0 := v) (w0 := v) hB (fun h1 h2 h3 => bk_runS X (Av := [.int p2, .int p3, .int p4]) (rest := []) (mX8_requirePlan hc3) ys_X8_requirePlan wm_1200 ⟨Nat.le_of_ble_eq_true rfl, Nat.le_of_ble_eq_true rfl⟩ rfl rfl hl.1 h1 h2 h3 (Nat.le_of_ble_eq_true rfl) ⟨Nat.le_of_ble_eq_true rfl, Nat.le_of_ble_eq_true rfl⟩ dX8_bakeObstacle_9) (fun H locs hB => ?_)
  refine W.eq (g2 := F0 m 12 ls []) rfl ?_
  cases hf

theorem dX8_requireState_0 : decode cX8_requireState 0 = .ok (.iload_n 0, 1) := by decide +kernel
theorem dX8_requireState_1 : decode cX8_requireState 1 = .ok (.ifCond .ne 14, 3) := by decide +kernel
theorem dX8_requireState_4 : decode cX8_requireState 4 = .ok (.new 357, 3) := by decide +kernel
theorem dX8_requireState_7 : decode cX8_requireState 7 = .ok (.dup, 1) := by decide +kernel
theorem dX8_requireState_8 : decode cX8_requireState 8 = .ok (.ldc_w 359, 3) := by decide +kernel
theorem dX8_requireState_11 : decode cX8_requireState 11 = .ok (.invokespecial 361, 3) := by decide +kernel
theorem dX8_requireState_14 : decode cX8_requireState 14 = .ok (.athrow, 1) := by decide +kernel
theorem dX8_requireState_15 : decode cX8_requireState 15 = .ok (.return_, 1) := by decide +kernel
def fX8_requireState (p0 : Int32) : Option Unit :=
  (if p0 = 0 then (none) else (some ()))
set_option maxRecDepth 100000 in
set_option maxHeartbeats 4000000 in
theorem mX8_requireState {l : Launch} {p0 : Int32} {v : bM} (hf : fX8_requireState p0 = some ()) : bMet l yX8_requireState cX8_requireState 1 none 0 0 0 [] (fun E a => [.int p0]) v v (fun _ => none) := by
  refine bk_start (by decide +kernel) bWf_nil (fun _ _ => Nat.le_of_ble_eq_true rfl) ?_
  intro p e s m args below meth c D E a ls H locs X hr hl hB
  have hx := X.1
  have hb := X.2.1
  have hown := X.2.2.2.1
  have hts := X.2.2.2.2.1
  have hl : lv_has ls 1 [(0, .int p0)] := hl
  have hf := (fX8_requireState.eq_1 p0).symm.trans hf
  refine lv_iload_n hx hb dX8_requireState_0 rfl (lv_at hl 0 rfl) ?_
  refine lv_if_ne (tgt := 15) hx hb dX8_requireState_1 (by decide) (fun c1 => ?_) (fun c1 => ?_)
  · have hf := (if_neg c1).symm.trans hf
    exact bk_vret X hr rfl hB (Nat.le_of_ble_eq_true rfl) (Nat.le_of_ble_eq_true rfl) dX8_requireState_15
  · have hf := (if_pos c1).symm.trans hf
    cases hf
theorem ys_X8_requireState : bYs yX8_requireState RX8 cX8_requireState 1 none 1 := ⟨⟨rfl, by decide, by decide, rfl⟩, wm_1213, wm_1, wm_1214⟩

def xX8_requireState (p0 : Int32) : Option Nat :=
  (if p0 = 0 then (some 2) else (none))
set_option maxRecDepth 100000 in
set_option maxHeartbeats 4000000 in
theorem mxX8_requireState {l : Launch} (hlt : l.stackTraces = false) {p0 : Int32} {v : bM} {r0 : Nat} (hf : xX8_requireState p0 = some r0) : bMetX l yX8_requireState cX8_requireState 1 none 6 1 6 [] (fun E a => [.int p0]) v r0 := by
  refine bk_startX (by decide +kernel) bWf_nil (fun _ _ => Nat.le_of_ble_eq_true rfl) ?_
  intro p e s m args below meth c D E a ls H locs X hr hxt hl hB
  have hx := X.1
  have hb := X.2.1
  have hown := X.2.2.2.1
  have hts := X.2.2.2.2.1
  have hl : lv_has ls 1 [(0, .int p0)] := hl
  have hf := (xX8_requireState.eq_1 p0).symm.trans hf
  refine lv_iload_n hx hb dX8_requireState_0 rfl (lv_at hl 0 rfl) ?_
  refine lv_if_ne (tgt := 15) hx hb dX8_requireState_1 (by decide) (fun c1 => ?_) (fun c1 => ?_)
  · have hf := (if_neg c1).symm.trans hf
    cases hf
  · have hf := (if_pos c1).symm.trans hf
    exact bk_thr2 X hxt hlt hl.1 hB hf wm_1215 17 rfl dX8_requireState_4 dX8_requireState_7 dX8_requireState_8 dX8_requireState_11 dX8_requireState_14 ⟨Nat.le_of_ble_eq_true rfl, Nat.le_of_ble_eq_true rfl, Nat.le_of_ble_eq_true rfl, Nat.le_of_ble_eq_true rfl⟩ (Nat.le_of_ble_eq_true rfl) (Nat.le_of_ble_eq_true rfl)

theorem dX8_lossIfBaked_0 : decode cX8_lossIfBaked 0 = .ok (.aload_n 0, 1) := by decide +kernel
theorem dX8_lossIfBaked_1 : decode cX8_lossIfBaked 1 = .ok (.iload_n 1, 1) := by decide +kernel
theorem dX8_lossIfBaked_2 : decode cX8_lossIfBaked 2 = .ok (.invokevirtual 163, 3) := by decide +kernel
theorem dX8_lossIfBaked_5 : decode cX8_lossIfBaked 5 = .ok (.iload_n 2, 1) := by decide +kernel
theorem dX8_lossIfBaked_6 : decode cX8_lossIfBaked 6 = .ok (.iconst 0, 1) := by decide +kernel
theorem dX8_lossIfBaked_7 : decode cX8_lossIfBaked 7 = .ok (.iconst 0, 1) := by decide +kernel
theorem dX8_lossIfBaked_8 : decode cX8_lossIfBaked 8 = .ok (.invokestatic 257, 3) := by decide +kernel
theorem dX8_lossIfBaked_11 : decode cX8_lossIfBaked 11 = .ok (.aload_n 0, 1) := by decide +kernel
theorem dX8_lossIfBaked_12 : decode cX8_lossIfBaked 12 = .ok (.getfield 10, 3) := by decide +kernel
theorem dX8_lossIfBaked_15 : decode cX8_lossIfBaked 15 = .ok (.iload_n 1, 1) := by decide +kernel
theorem dX8_lossIfBaked_16 : decode cX8_lossIfBaked 16 = .ok (.iload_n 2, 1) := by decide +kernel
theorem dX8_lossIfBaked_17 : decode cX8_lossIfBaked 17 = .ok (.iconst 0, 1) := by decide +kernel
theorem dX8_lossIfBaked_18 : decode cX8_lossIfBaked 18 = .ok (.iconst 0, 1) := by decide +kernel
theorem dX8_lossIfBaked_19 : decode cX8_lossIfBaked 19 = .ok (.invokevirtual 260, 3) := by decide +kernel
theorem dX8_lossIfBaked_22 : decode cX8_lossIfBaked 22 = .ok (.ifCond .ne 7, 3) := by decide +kernel
theorem dX8_lossIfBaked_25 : decode cX8_lossIfBaked 25 = .ok (.iconst 1, 1) := by decide +kernel
theorem dX8_lossIfBaked_26 : decode cX8_lossIfBaked 26 = .ok (.goto 4, 3) := by decide +kernel
theorem dX8_lossIfBaked_29 : decode cX8_lossIfBaked 29 = .ok (.iconst 0, 1) := by decide +kernel
theorem dX8_lossIfBaked_30 : decode cX8_lossIfBaked 30 = .ok (.invokestatic 264, 3) := by decide +kernel
theorem dX8_lossIfBaked_33 : decode cX8_lossIfBaked 33 = .ok (.aload_n 0, 1) := by decide +kernel
theorem dX8_lossIfBaked_34 : decode cX8_lossIfBaked 34 = .ok (.getfield 10, 3) := by decide +kernel
theorem dX8_lossIfBaked_37 : decode cX8_lossIfBaked 37 = .ok (.iload_n 1, 1) := by decide +kernel
theorem dX8_lossIfBaked_38 : decode cX8_lossIfBaked 38 = .ok (.iload_n 2, 1) := by decide +kernel
theorem dX8_lossIfBaked_39 : decode cX8_lossIfBaked 39 = .ok (.invokevirtual 268, 3) := by decide +kernel
theorem dX8_lossIfBaked_42 : decode cX8_lossIfBaked 42 = .ok (.ireturn, 1) := by decide +kernel
def fX8_lossIfBaked_J30 (p1 : Int32) (p2 : Int32) (v : bM) (y9 : Int32) : Option Int32 :=
  bnr (fX8_requireState y9) fun r11 => ck (v 0) 12 <| nm (v 0).toNatClampNeg fun i13 => bnr (fX6_plainLoss p1 p2 (vw v (stO i13))) fun r15 => some (r15)
def fX8_lossIfBaked (p1 : Int32) (p2 : Int32) (v : bM) : Option Int32 :=
  bnr (fX8_requireBread p1 v) fun r2 => bnr (fX8_requirePlan p2 0 0) fun r4 => ck (v 0) 12 <| nm (v 0).toNatClampNeg fun i6 => bnr (fX6_obstacle p1 p2 0 0 (vw v (stO i6))) fun r8 => (if r8 = 0 then (fX8_lossIfBaked_J30 p1 p2 v 1) else (fX8_lossIfBaked_J30 p1 p2 v 0))
set_option maxRecDepth 100000 in
set_option maxHeartbeats 4000000 in
theorem mX8_lossIfBaked {l : Launch} {p1 : Int32} {p2 : Int32} {v : bM} {r0 : Int32} (hf : fX8_lossIfBaked p1 p2 v = some r0) : bMet l yX8_lossIfBaked cX8_lossIfBaked 3 (some .int) 4 0 0 LX (fun E a => [.ref a, .int p1, .int p2]) v v (fun _ => some (.int r0)) := by
  refine bk_start (by decide +kernel) wfX (fun _ _ => Nat.le_of_ble_eq_true rfl) ?_
  intro p e s m args below meth c D E a ls H locs X hr hl hB
  have hx := X.1
  have hb := X.2.1
  have hown := X.2.2.2.1
  have hts := X.2.2.2.2.1
  have hl : lv_has ls 3 [(0, .ref a), (1, .int p1), (2, .int p2)] := hl
  have hf := (fX8_lossIfBaked.eq_1 p1 p2 v).symm.trans hf
  refine lv_aload_n hx hb dX8_lossIfBaked_0 rfl (lv_at hl 0 rfl) ?_
  refine lv_iload_n hx hb dX8_lossIfBaked_1 rfl (lv_at hl 1 rfl) ?_
  obtain ⟨r2, hc1, hf⟩ := bnr_some hf
  refine bk_all hB (fun h1 h2 h3 => bk_runV X (Av := [.int p1]) (rest := []) (mX8_requireBread hc1) yv_X8_requireBread wm_1037 ⟨Nat.le_of_ble_eq_true rfl, Nat.le_of_ble_eq_true rfl⟩ rfl rfl hl.1 kl_X8.1 (hB.1.obj lc_X_0) h1 h2 h3 (Nat.le_of_ble_eq_true rfl) ⟨Nat.le_of_ble_eq_true rfl, Nat.le_of_ble_eq_true rfl⟩ dX8_lossIfBaked_2) (fun H locs hB => ?_)
  refine W.eq (g2 := F0 m 5 ls []) rfl ?_
  refine lv_iload_n hx hb dX8_lossIfBaked_5 rfl (lv_at hl 2 rfl) ?_
  refine lv_iconst (v := 0) hx hb dX8_lossIfBaked_6 (by decide) ?_
  refine lv_iconst (v := 0) hx hb dX8_lossIfBaked_7 (by decide) ?_
  obtain ⟨r4, hc3, hf⟩ := bnr_some hf
  refine bk_non (v0 := v) (w0 := v) hB (fun h1 h2 h3 => bk_runS X (Av := [.int p2, .int 0, .int 0]) (rest := []) (mX8_requirePlan hc3) ys_X8_requirePlan wm_1200 ⟨Nat.le_of_ble_eq_true rfl, Nat.le_of_ble_eq_true rfl⟩ rfl rfl hl.1 h1 h2 h3 (Nat.le_of_ble_eq_true rfl) ⟨Nat.le_of_ble_eq_true rfl, Nat.le_of_ble_eq_true rfl⟩ dX8_lossIfBaked_8) (fun H locs hB => ?_)
  refine W.eq (g2 := F0 m 11 ls []) rfl ?_
  refine lv_aload_n hx hb dX8_lossIfBaked_11 rfl (lv_at hl 0 rfl) ?_
  obtain ⟨h5, hf⟩ := ck_some hf
  refine bk_getS X hB kl_X8 0 lc_X_0 0 (by decide) rfl h5 wm_654 dX8_lossIfBaked_12 ?_
  obtain ⟨i6, ei6⟩ : ∃ y : Nat, y = (v 0).toNatClampNeg := ⟨_, rfl⟩
  have hf := nm_use hf ei6
  rw [← ei6]
  have hi6 : i6 < 12 := by rw [ei6]; exact vp_lt h5
  refine lv_iload_n hx hb dX8_lossIfBaked_15 rfl (lv_at hl 1 rfl) ?_
  refine lv_iload_n hx hb dX8_lossIfBaked_16 rfl (lv_at hl 2 rfl) ?_
  refine lv_iconst (v := 0) hx hb dX8_lossIfBaked_17 (by decide) ?_
  refine lv_iconst (v := 0) hx hb dX8_lossIfBaked_18 (by decide) ?_
  obtain ⟨r8, hc7, hf⟩ := bnr_some hf
  refine bk_subR (subX_St _ hi6) hB (fun h1 h2 h3 => bk_runV X (Av := [.int p1, .int p2, .int 0, .int 0]) (rest := []) (mX6_obstacle hc7) yv_X6_obstacle wm_1203 ⟨Nat.le_of_ble_eq_true rfl, Nat.le_of_ble_eq_true rfl⟩ rfl rfl hl.1 kl_X6.1 (hB.1.obj ((subX_St _ hi6).at lc_St_0)) h1 h2 h3 (Nat.le_of_ble_eq_true rfl) ⟨Nat.le_of_ble_eq_true rfl, Nat.le_of_ble_eq_true rfl⟩ dX8_lossIfBaked_19) (fun H locs hB => ?_)
  refine W.eq (g2 := F0 m 22 ls [.int r8]) rfl ?_
  have hJ30 : ∀ (y9 : Int32) (H : Heap) (locs : List Loc) (ls : Array Slot), fX8_lossIfBaked_J30 p1 p2 v y9 = some r0 → bB D E LX a v s H locs → lv_has ls 3 [(0, .ref a), (1, .int p1), (2, .int p2)] → W p l e (rmOf 4 0 0) s m args below meth c H locs 0 0 (bQ below D E LX a v (some (.int r0)) args s 0 0) (F0 m 30 ls [.int y9]) := by
    intro y9 H locs ls hf hB hl
    have hf := (fX8_lossIfBaked_J30.eq_1 p1 p2 v y9).symm.trans hf
    obtain ⟨r11, hc10, hf⟩ := bnr_some hf
    refine bk_non (v0 := v) (w0 := v) hB (fun h1 h2 h3 => bk_runS X (Av := [.int y9]) (rest := []) (mX8_requireState hc10) ys_X8_requireState wm_1212 ⟨Nat.le_of_ble_eq_true rfl, Nat.le_of_ble_eq_true rfl⟩ rfl rfl hl.1 h1 h2 h3 (Nat.le_of_ble_eq_true rfl) ⟨Nat.le_of_ble_eq_true rfl, Nat.le_of_ble_eq_true rfl⟩ dX8_lossIfBaked_30) (fun H locs hB => ?_)
    refine W.eq (g2 := F0 m 33 ls []) rfl ?_
    refine lv_aload_n hx hb dX8_lossIfBaked_33 rfl (lv_at hl 0 rfl) ?_
    obtain ⟨h12, hf⟩ := ck_some hf
    refine bk_getS X hB kl_X8 0 lc_X_0 0 (by decide) rfl h12 wm_654 dX8_lossIfBaked_34 ?_
    obtain ⟨i13, ei13⟩ : ∃ y : Nat, y = (v 0).toNatClampNeg := ⟨_, rfl⟩
    have hf := nm_use hf ei13
    rw [← ei13]
    have hi13 : i13 < 12 := by rw [ei13]; exact vp_lt h12
    refine lv_iload_n hx hb dX8_lossIfBaked_37 rfl (lv_at hl 1 rfl) ?_
    refine lv_iload_n hx hb dX8_lossIfBaked_38 rfl (lv_at hl 2 rfl) ?_
    obtain ⟨r15, hc14, hf⟩ := bnr_some hf
    refine bk_subR (subX_St _ hi13) hB (fun h1 h2 h3 => bk_runV X (Av := [.int p1, .int p2]) (rest := []) (mX6_plainLoss hc14) yv_X6_plainLoss wm_1231 ⟨Nat.le_of_ble_eq_true rfl, Nat.le_of_ble_eq_true rfl⟩ rfl rfl hl.1 kl_X6.1 (hB.1.obj ((subX_St _ hi13).at lc_St_0)) h1 h2 h3 (Nat.le_of_ble_eq_true rfl) ⟨Nat.le_of_ble_eq_true rfl, Nat.le_of_ble_eq_true rfl⟩ dX8_lossIfBaked_39) (fun H locs hB => ?_)
    refine W.eq (g2 := F0 m 42 ls [.int r15]) rfl ?_
    exact bk_iR X hr rfl hf hB (Nat.le_of_ble_eq_true rfl) (Nat.le_of_ble_eq_true rfl) dX8_lossIfBaked_42
  refine lv_if_ne (tgt := 29) hx hb dX8_lossIfBaked_22 (by decide) (fun c16 => ?_) (fun c16 => ?_)
  · have hf := (if_neg c16).symm.trans hf
    refine lv_iconst (v := 0) hx hb dX8_lossIfBaked_29 (by decide) ?_
    exact hJ30 0 H locs ls hf hB (lv_sub hl [0, 1, 2] rfl)
  · have hf := (if_pos c16).symm.trans hf
    refine lv_iconst (v := 1) hx hb dX8_lossIfBaked_25 (by decide) ?_
    refine lv_goto (tgt := 30) hx hb dX8_lossIfBaked_26 (by decide) ?_
    exact hJ30 1 H locs ls hf hB (lv_sub hl [0, 1, 2] rfl)
theorem yv_X8_lossIfBaked : bYv yX8_lossIfBaked RX8 cX8_lossIfBaked 3 (some .int) 2 := ⟨⟨rfl, by decide, by decide, rfl⟩, wm_1209, wm_1210, wm_1, wm_1211⟩

def xX8_lossIfBaked_J30  (y9 : Int32) : Option Nat :=
  xr (xX8_requireState y9) <| bnr (fX8_requireState y9) fun r11 => none
def xX8_lossIfBaked (p1 : Int32) (p2 : Int32) (v : bM) : Option Nat :=
  xr (xX8_requireBread p1 v) <| bnr (fX8_requireBread p1 v) fun r2 => xr (xX8_requirePlan p2 0 0) <| bnr (fX8_requirePlan p2 0 0) fun r4 => ck (v 0) 12 <| nm (v 0).toNatClampNeg fun i6 => bnr (fX6_obstacle p1 p2 0 0 (vw v (stO i6))) fun r8 => (if r8 = 0 then (xX8_lossIfBaked_J30 1) else (xX8_lossIfBaked_J30 0))
set_option maxRecDepth 100000 in
set_option maxHeartbeats 4000000 in
theorem mxX8_lossIfBaked {l : Launch} (hlt : l.stackTraces = false) {p1 : Int32} {p2 : Int32} {v : bM} {r0 : Nat} (hf : xX8_lossIfBaked p1 p2 v = some r0) : bMetX l yX8_lossIfBaked cX8_lossIfBaked 3 (some .int) 8 1 6 LX (fun E a => [.ref a, .int p1, .int p2]) v r0 := by
  refine bk_startX (by decide +kernel) wfX (fun _ _ => Nat.le_of_ble_eq_true rfl) ?_
  intro p e s m args below meth c D E a ls H locs X hr hxt hl hB
  have hx := X.1
  have hb := X.2.1
  have hown := X.2.2.2.1
  have hts := X.2.2.2.2.1
  have hl : lv_has ls 3 [(0, .ref a), (1, .int p1), (2, .int p2)] := hl
  have hf := (xX8_lossIfBaked.eq_1 p1 p2 v).symm.trans hf
  refine lv_aload_n hx hb dX8_lossIfBaked_0 rfl (lv_at hl 0 rfl) ?_
  refine lv_iload_n hx hb dX8_lossIfBaked_1 rfl (lv_at hl 1 rfl) ?_
  refine xr_cases hf (fun hX => ?_) (fun hf => ?_)
  · exact bk_allX hxt X hB (fun h1 h2 h3 => bk_runVX X (Av := [.int p1]) (rest := []) (mxX8_requireBread hlt hX) yv_X8_requireBread wm_1037 ⟨Nat.le_of_ble_eq_true rfl, Nat.le_of_ble_eq_true rfl⟩ rfl rfl hl.1 kl_X8.1 (hB.1.obj lc_X_0) h1 h2 h3 (Nat.le_of_ble_eq_true rfl) ⟨Nat.le_of_ble_eq_true rfl, Nat.le_of_ble_eq_true rfl⟩ dX8_lossIfBaked_2)
  obtain ⟨r2, hc1, hf⟩ := bnr_some hf
  refine bk_all hB (fun h1 h2 h3 => bk_runV X (Av := [.int p1]) (rest := []) (mX8_requireBread hc1) yv_X8_requireBread wm_1037 ⟨Nat.le_of_ble_eq_true rfl, Nat.le_of_ble_eq_true rfl⟩ rfl rfl hl.1 kl_X8.1 (hB.1.obj lc_X_0) h1 h2 h3 (Nat.le_of_ble_eq_true rfl) ⟨Nat.le_of_ble_eq_true rfl, Nat.le_of_ble_eq_true rfl⟩ dX8_lossIfBaked_2) (fun H locs hB => ?_)
  refine W.eq (g2 := F0 m 5 ls []) rfl ?_
  refine lv_iload_n hx hb dX8_lossIfBaked_5 rfl (lv_at hl 2 rfl) ?_
  refine lv_iconst (v := 0) hx hb dX8_lossIfBaked_6 (by decide) ?_
  refine lv_iconst (v := 0) hx hb dX8_lossIfBaked_7 (by decide) ?_
  refine xr_cases hf (fun hX => ?_) (fun hf => ?_)
  · exact bk_nonX (v0 := v) hxt X hB (fun h1 h2 h3 => bk_runSX X (Av := [.int p2, .int 0, .int 0]) (rest := []) (mxX8_requirePlan hlt hX) ys_X8_requirePlan wm_1200 ⟨Nat.le_of_ble_eq_true rfl, Nat.le_of_ble_eq_true rfl⟩ rfl rfl hl.1 h1 h2 h3 (Nat.le_of_ble_eq_true rfl) ⟨Nat.le_of_ble_eq_true rfl, Nat.le_of_ble_eq_true rfl⟩ dX8_lossIfBaked_8)
  obtain ⟨r4, hc3, hf⟩ := bnr_some hf
  refine bk_non (v0 := v) (w0 := v) hB (fun h1 h2 h3 => bk_runS X (Av := [.int p2, .int 0, .int 0]) (rest := []) (mX8_requirePlan hc3) ys_X8_requirePlan wm_1200 ⟨Nat.le_of_ble_eq_true rfl, Nat.le_of_ble_eq_true rfl⟩ rfl rfl hl.1 h1 h2 h3 (Nat.le_of_ble_eq_true rfl) ⟨Nat.le_of_ble_eq_true rfl, Nat.le_of_ble_eq_true rfl⟩ dX8_lossIfBaked_8) (fun H locs hB => ?_)
  refine W.eq (g2 := F0 m 11 ls []) rfl ?_
  refine lv_aload_n hx hb dX8_lossIfBaked_11 rfl (lv_at hl 0 rfl) ?_
  obtain ⟨h5, hf⟩ := ck_some hf
  refine bk_getS X hB kl_X8 0 lc_X_0 0 (by decide) rfl h5 wm_654 dX8_lossIfBaked_12 ?_
  obtain ⟨i6, ei6⟩ : ∃ y : Nat, y = (v 0).toNatClampNeg := ⟨_, rfl⟩
  have hf := nm_use hf ei6
  rw [← ei6]
  have hi6 : i6 < 12 := by rw [ei6]; exact vp_lt h5
  refine lv_iload_n hx hb dX8_lossIfBaked_15 rfl (lv_at hl 1 rfl) ?_
  refine lv_iload_n hx hb dX8_lossIfBaked_16 rfl (lv_at hl 2 rfl) ?_
  refine lv_iconst (v := 0) hx hb dX8_lossIfBaked_17 (by decide) ?_
  refine lv_iconst (v := 0) hx hb dX8_lossIfBaked_18 (by decide) ?_
  obtain ⟨r8, hc7, hf⟩ := bnr_some hf
  refine bk_subR (subX_St _ hi6) hB (fun h1 h2 h3 => bk_runV X (Av := [.int p1, .int p2, .int 0, .int 0]) (rest := []) (mX6_obstacle hc7) yv_X6_obstacle wm_1203 ⟨Nat.le_of_ble_eq_true rfl, Nat.le_of_ble_eq_true rfl⟩ rfl rfl hl.1 kl_X6.1 (hB.1.obj ((subX_St _ hi6).at lc_St_0)) h1 h2 h3 (Nat.le_of_ble_eq_true rfl) ⟨Nat.le_of_ble_eq_true rfl, Nat.le_of_ble_eq_true rfl⟩ dX8_lossIfBaked_19) (fun H locs hB => ?_)
  refine W.eq (g2 := F0 m 22 ls [.int r8]) rfl ?_
  have hJ30 : ∀ (y9 : Int32) (H : Heap) (locs : List Loc) (ls : Array Slot), xX8_lossIfBaked_J30 y9 = some r0 → bB D E LX a v s H locs → lv_has ls 3 [(0, .ref a), (1, .int p1), (2, .int p2)] → W p l e (rmOf 8 1 6) s m args below meth c H locs 0 0 (bQX below D E LX a v r0 args s 1 6) (F0 m 30 ls [.int y9]) := by
    intro y9 H locs ls hf hB hl
    have hf := (xX8_lossIfBaked_J30.eq_1  y9).symm.trans hf
    refine xr_cases hf (fun hX => ?_) (fun hf => ?_)
    · exact bk_nonX (v0 := v) hxt X hB (fun h1 h2 h3 => bk_runSX X (Av := [.int y9]) (rest := []) (mxX8_requireState hlt hX) ys_X8_requireState wm_1212 ⟨Nat.le_of_ble_eq_true rfl, Nat.le_of_ble_eq_true rfl⟩ rfl rfl hl.1 h1 h2 h3 (Nat.le_of_ble_eq_true rfl) ⟨Nat.le_of_ble_eq_true rfl, Nat.le_of_ble_eq_true rfl⟩ dX8_lossIfBaked_30)
    obtain ⟨r11, hc10, hf⟩ := bnr_some hf
    refine bk_non (v0 := v) (w0 := v) hB (fun h1 h2 h3 => bk_runS X (Av := [.int y9]) (rest := []) (mX8_requireState hc10) ys_X8_requireState wm_1212 ⟨Nat.le_of_ble_eq_true rfl, Nat.le_of_ble_eq_true rfl⟩ rfl rfl hl.1 h1 h2 h3 (Nat.le_of_ble_eq_true rfl) ⟨Nat.le_of_ble_eq_true rfl, Nat.le_of_ble_eq_true rfl⟩ dX8_lossIfBaked_30) (fun H locs hB => ?_)
    refine W.eq (g2 := F0 m 33 ls []) rfl ?_
    cases hf
  refine lv_if_ne (tgt := 29) hx hb dX8_lossIfBaked_22 (by decide) (fun c12 => ?_) (fun c12 => ?_)
  · have hf := (if_neg c12).symm.trans hf
    refine lv_iconst (v := 0) hx hb dX8_lossIfBaked_29 (by decide) ?_
    exact hJ30 0 H locs ls hf hB (lv_sub hl [0, 1, 2] rfl)
  · have hf := (if_pos c12).symm.trans hf
    refine lv_iconst (v := 1) hx hb dX8_lossIfBaked_25 (by decide) ?_
    refine lv_goto (tgt := 30) hx hb dX8_lossIfBaked_26 (by decide) ?_
    exact hJ30 1 H locs ls hf hB (lv_sub hl [0, 1, 2] rfl)

theorem dX8_possibleLoaves_0 : decode cX8_possibleLoaves 0 = .ok (.aload_n 0, 1) := by decide +kernel
theorem dX8_possibleLoaves_1 : decode cX8_possibleLoaves 1 = .ok (.iload_n 1, 1) := by decide +kernel
theorem dX8_possibleLoaves_2 : decode cX8_possibleLoaves 2 = .ok (.invokevirtual 163, 3) := by decide +kernel
theorem dX8_possibleLoaves_5 : decode cX8_possibleLoaves 5 = .ok (.aload_n 0, 1) := by decide +kernel
theorem dX8_possibleLoaves_6 : decode cX8_possibleLoaves 6 = .ok (.getfield 10, 3) := by decide +kernel
theorem dX8_possibleLoaves_9 : decode cX8_possibleLoaves 9 = .ok (.iload_n 1, 1) := by decide +kernel
theorem dX8_possibleLoaves_10 : decode cX8_possibleLoaves 10 = .ok (.invokevirtual 271, 3) := by decide +kernel
theorem dX8_possibleLoaves_13 : decode cX8_possibleLoaves 13 = .ok (.ireturn, 1) := by decide +kernel
def fX8_possibleLoaves (p1 : Int32) (v : bM) : Option Int32 :=
  bnr (fX8_requireBread p1 v) fun r2 => ck (v 0) 12 <| nm (v 0).toNatClampNeg fun i4 => bnr (fX6_mostLoaves p1 (vw v (stO i4))) fun r6 => some (r6)
set_option maxRecDepth 100000 in
set_option maxHeartbeats 4000000 in
theorem mX8_possibleLoaves {l : Launch} {p1 : Int32} {v : bM} {r0 : Int32} (hf : fX8_possibleLoaves p1 v = some r0) : bMet l yX8_possibleLoaves cX8_possibleLoaves 2 (some .int) 4 0 0 LX (fun E a => [.ref a, .int p1]) v v (fun _ => some (.int r0)) := by
  refine bk_start (by decide +kernel) wfX (fun _ _ => Nat.le_of_ble_eq_true rfl) ?_
  intro p e s m args below meth c D E a ls H locs X hr hl hB
  have hx := X.1
  have hb := X.2.1
  have hown := X.2.2.2.1
  have hts := X.2.2.2.2.1
  have hl : lv_has ls 2 [(0, .ref a), (1, .int p1)] := hl
  have hf := (fX8_possibleLoaves.eq_1 p1 v).symm.trans hf
  refine lv_aload_n hx hb dX8_possibleLoaves_0 rfl (lv_at hl 0 rfl) ?_
  refine lv_iload_n hx hb dX8_possibleLoaves_1 rfl (lv_at hl 1 rfl) ?_
  obtain ⟨r2, hc1, hf⟩ := bnr_some hf
  refine bk_all hB (fun h1 h2 h3 => bk_runV X (Av := [.int p1]) (rest := []) (mX8_requireBread hc1) yv_X8_requireBread wm_1037 ⟨Nat.le_of_ble_eq_true rfl, Nat.le_of_ble_eq_true rfl⟩ rfl rfl hl.1 kl_X8.1 (hB.1.obj lc_X_0) h1 h2 h3 (Nat.le_of_ble_eq_true rfl) ⟨Nat.le_of_ble_eq_true rfl, Nat.le_of_ble_eq_true rfl⟩ dX8_possibleLoaves_2) (fun H locs hB => ?_)
  refine W.eq (g2 := F0 m 5 ls []) rfl ?_
  refine lv_aload_n hx hb dX8_possibleLoaves_5 rfl (lv_at hl 0 rfl) ?_
  obtain ⟨h3, hf⟩ := ck_some hf
  refine bk_getS X hB kl_X8 0 lc_X_0 0 (by decide) rfl h3 wm_654 dX8_possibleLoaves_6 ?_
  obtain ⟨i4, ei4⟩ : ∃ y : Nat, y = (v 0).toNatClampNeg := ⟨_, rfl⟩
  have hf := nm_use hf ei4
  rw [← ei4]
  have hi4 : i4 < 12 := by rw [ei4]; exact vp_lt h3
  refine lv_iload_n hx hb dX8_possibleLoaves_9 rfl (lv_at hl 1 rfl) ?_
  obtain ⟨r6, hc5, hf⟩ := bnr_some hf
  refine bk_subR (subX_St _ hi4) hB (fun h1 h2 h3 => bk_runV X (Av := [.int p1]) (rest := []) (mX6_mostLoaves hc5) yv_X6_mostLoaves wm_1246 ⟨Nat.le_of_ble_eq_true rfl, Nat.le_of_ble_eq_true rfl⟩ rfl rfl hl.1 kl_X6.1 (hB.1.obj ((subX_St _ hi4).at lc_St_0)) h1 h2 h3 (Nat.le_of_ble_eq_true rfl) ⟨Nat.le_of_ble_eq_true rfl, Nat.le_of_ble_eq_true rfl⟩ dX8_possibleLoaves_10) (fun H locs hB => ?_)
  refine W.eq (g2 := F0 m 13 ls [.int r6]) rfl ?_
  exact bk_iR X hr rfl hf hB (Nat.le_of_ble_eq_true rfl) (Nat.le_of_ble_eq_true rfl) dX8_possibleLoaves_13
theorem yv_X8_possibleLoaves : bYv yX8_possibleLoaves RX8 cX8_possibleLoaves 2 (some .int) 1 := ⟨⟨rfl, by decide, by decide, rfl⟩, wm_1243, wm_1244, wm_1, wm_1245⟩

def xX8_possibleLoaves (p1 : Int32) (v : bM) : Option Nat :=
  xr (xX8_requireBread p1 v) <| bnr (fX8_requireBread p1 v) fun r2 => none
set_option maxRecDepth 100000 in
set_option maxHeartbeats 4000000 in
theorem mxX8_possibleLoaves {l : Launch} (hlt : l.stackTraces = false) {p1 : Int32} {v : bM} {r0 : Nat} (hf : xX8_possibleLoaves p1 v = some r0) : bMetX l yX8_possibleLoaves cX8_possibleLoaves 2 (some .int) 8 1 6 LX (fun E a => [.ref a, .int p1]) v r0 := by
  refine bk_startX (by decide +kernel) wfX (fun _ _ => Nat.le_of_ble_eq_true rfl) ?_
  intro p e s m args below meth c D E a ls H locs X hr hxt hl hB
  have hx := X.1
  have hb := X.2.1
  have hown := X.2.2.2.1
  have hts := X.2.2.2.2.1
  have hl : lv_has ls 2 [(0, .ref a), (1, .int p1)] := hl
  have hf := (xX8_possibleLoaves.eq_1 p1 v).symm.trans hf
  refine lv_aload_n hx hb dX8_possibleLoaves_0 rfl (lv_at hl 0 rfl) ?_
  refine lv_iload_n hx hb dX8_possibleLoaves_1 rfl (lv_at hl 1 rfl) ?_
  refine xr_cases hf (fun hX => ?_) (fun hf => ?_)
  · exact bk_allX hxt X hB (fun h1 h2 h3 => bk_runVX X (Av := [.int p1]) (rest := []) (mxX8_requireBread hlt hX) yv_X8_requireBread wm_1037 ⟨Nat.le_of_ble_eq_true rfl, Nat.le_of_ble_eq_true rfl⟩ rfl rfl hl.1 kl_X8.1 (hB.1.obj lc_X_0) h1 h2 h3 (Nat.le_of_ble_eq_true rfl) ⟨Nat.le_of_ble_eq_true rfl, Nat.le_of_ble_eq_true rfl⟩ dX8_possibleLoaves_2)
  obtain ⟨r2, hc1, hf⟩ := bnr_some hf
  refine bk_all hB (fun h1 h2 h3 => bk_runV X (Av := [.int p1]) (rest := []) (mX8_requireBread hc1) yv_X8_requireBread wm_1037 ⟨Nat.le_of_ble_eq_true rfl, Nat.le_of_ble_eq_true rfl⟩ rfl rfl hl.1 kl_X8.1 (hB.1.obj lc_X_0) h1 h2 h3 (Nat.le_of_ble_eq_true rfl) ⟨Nat.le_of_ble_eq_true rfl, Nat.le_of_ble_eq_true rfl⟩ dX8_possibleLoaves_2) (fun H locs hB => ?_)
  refine W.eq (g2 := F0 m 5 ls []) rfl ?_
  cases hf

theorem dX8_bestWait_0 : decode cX8_bestWait 0 = .ok (.aload_n 0, 1) := by decide +kernel
theorem dX8_bestWait_1 : decode cX8_bestWait 1 = .ok (.iload_n 1, 1) := by decide +kernel
theorem dX8_bestWait_2 : decode cX8_bestWait 2 = .ok (.invokevirtual 163, 3) := by decide +kernel
theorem dX8_bestWait_5 : decode cX8_bestWait 5 = .ok (.iload_n 2, 1) := by decide +kernel
theorem dX8_bestWait_6 : decode cX8_bestWait 6 = .ok (.iconst 0, 1) := by decide +kernel
theorem dX8_bestWait_7 : decode cX8_bestWait 7 = .ok (.iconst 0, 1) := by decide +kernel
theorem dX8_bestWait_8 : decode cX8_bestWait 8 = .ok (.invokestatic 257, 3) := by decide +kernel
theorem dX8_bestWait_11 : decode cX8_bestWait 11 = .ok (.aload_n 0, 1) := by decide +kernel
theorem dX8_bestWait_12 : decode cX8_bestWait 12 = .ok (.getfield 10, 3) := by decide +kernel
theorem dX8_bestWait_15 : decode cX8_bestWait 15 = .ok (.iload_n 1, 1) := by decide +kernel
theorem dX8_bestWait_16 : decode cX8_bestWait 16 = .ok (.iload_n 2, 1) := by decide +kernel
theorem dX8_bestWait_17 : decode cX8_bestWait 17 = .ok (.invokevirtual 274, 3) := by decide +kernel
theorem dX8_bestWait_20 : decode cX8_bestWait 20 = .ok (.ireturn, 1) := by decide +kernel
def fX8_bestWait (p1 : Int32) (p2 : Int32) (v : bM) : Option Int32 :=
  bnr (fX8_requireBread p1 v) fun r2 => bnr (fX8_requirePlan p2 0 0) fun r4 => ck (v 0) 12 <| nm (v 0).toNatClampNeg fun i6 => bnr (fX6_cheapestWait p1 p2 (vw v (stO i6))) fun r8 => some (r8)
set_option maxRecDepth 100000 in
set_option maxHeartbeats 4000000 in
theorem mX8_bestWait {l : Launch} {p1 : Int32} {p2 : Int32} {v : bM} {r0 : Int32} (hf : fX8_bestWait p1 p2 v = some r0) : bMet l yX8_bestWait cX8_bestWait 3 (some .int) 4 0 0 LX (fun E a => [.ref a, .int p1, .int p2]) v v (fun _ => some (.int r0)) := by
  refine bk_start (by decide +kernel) wfX (fun _ _ => Nat.le_of_ble_eq_true rfl) ?_
  intro p e s m args below meth c D E a ls H locs X hr hl hB
  have hx := X.1
  have hb := X.2.1
  have hown := X.2.2.2.1
  have hts := X.2.2.2.2.1
  have hl : lv_has ls 3 [(0, .ref a), (1, .int p1), (2, .int p2)] := hl
  have hf := (fX8_bestWait.eq_1 p1 p2 v).symm.trans hf
  refine lv_aload_n hx hb dX8_bestWait_0 rfl (lv_at hl 0 rfl) ?_
  refine lv_iload_n hx hb dX8_bestWait_1 rfl (lv_at hl 1 rfl) ?_
  obtain ⟨r2, hc1, hf⟩ := bnr_some hf
  refine bk_all hB (fun h1 h2 h3 => bk_runV X (Av := [.int p1]) (rest := []) (mX8_requireBread hc1) yv_X8_requireBread wm_1037 ⟨Nat.le_of_ble_eq_true rfl, Nat.le_of_ble_eq_true rfl⟩ rfl rfl hl.1 kl_X8.1 (hB.1.obj lc_X_0) h1 h2 h3 (Nat.le_of_ble_eq_true rfl) ⟨Nat.le_of_ble_eq_true rfl, Nat.le_of_ble_eq_true rfl⟩ dX8_bestWait_2) (fun H locs hB => ?_)
  refine W.eq (g2 := F0 m 5 ls []) rfl ?_
  refine lv_iload_n hx hb dX8_bestWait_5 rfl (lv_at hl 2 rfl) ?_
  refine lv_iconst (v := 0) hx hb dX8_bestWait_6 (by decide) ?_
  refine lv_iconst (v := 0) hx hb dX8_bestWait_7 (by decide) ?_
  obtain ⟨r4, hc3, hf⟩ := bnr_some hf
  refine bk_non (v0 := v) (w0 := v) hB (fun h1 h2 h3 => bk_runS X (Av := [.int p2, .int 0, .int 0]) (rest := []) (mX8_requirePlan hc3) ys_X8_requirePlan wm_1200 ⟨Nat.le_of_ble_eq_true rfl, Nat.le_of_ble_eq_true rfl⟩ rfl rfl hl.1 h1 h2 h3 (Nat.le_of_ble_eq_true rfl) ⟨Nat.le_of_ble_eq_true rfl, Nat.le_of_ble_eq_true rfl⟩ dX8_bestWait_8) (fun H locs hB => ?_)
  refine W.eq (g2 := F0 m 11 ls []) rfl ?_
  refine lv_aload_n hx hb dX8_bestWait_11 rfl (lv_at hl 0 rfl) ?_
  obtain ⟨h5, hf⟩ := ck_some hf
  refine bk_getS X hB kl_X8 0 lc_X_0 0 (by decide) rfl h5 wm_654 dX8_bestWait_12 ?_
  obtain ⟨i6, ei6⟩ : ∃ y : Nat, y = (v 0).toNatClampNeg := ⟨_, rfl⟩
  have hf := nm_use hf ei6
  rw [← ei6]
  have hi6 : i6 < 12 := by rw [ei6]; exact vp_lt h5
  refine lv_iload_n hx hb dX8_bestWait_15 rfl (lv_at hl 1 rfl) ?_
  refine lv_iload_n hx hb dX8_bestWait_16 rfl (lv_at hl 2 rfl) ?_
  obtain ⟨r8, hc7, hf⟩ := bnr_some hf
  refine bk_subR (subX_St _ hi6) hB (fun h1 h2 h3 => bk_runV X (Av := [.int p1, .int p2]) (rest := []) (mX6_cheapestWait hc7) yv_X6_cheapestWait wm_1257 ⟨Nat.le_of_ble_eq_true rfl, Nat.le_of_ble_eq_true rfl⟩ rfl rfl hl.1 kl_X6.1 (hB.1.obj ((subX_St _ hi6).at lc_St_0)) h1 h2 h3 (Nat.le_of_ble_eq_true rfl) ⟨Nat.le_of_ble_eq_true rfl, Nat.le_of_ble_eq_true rfl⟩ dX8_bestWait_17) (fun H locs hB => ?_)
  refine W.eq (g2 := F0 m 20 ls [.int r8]) rfl ?_
  exact bk_iR X hr rfl hf hB (Nat.le_of_ble_eq_true rfl) (Nat.le_of_ble_eq_true rfl) dX8_bestWait_20
theorem yv_X8_bestWait : bYv yX8_bestWait RX8 cX8_bestWait 3 (some .int) 2 := ⟨⟨rfl, by decide, by decide, rfl⟩, wm_1254, wm_1255, wm_1, wm_1256⟩

def xX8_bestWait (p1 : Int32) (p2 : Int32) (v : bM) : Option Nat :=
  xr (xX8_requireBread p1 v) <| bnr (fX8_requireBread p1 v) fun r2 => xr (xX8_requirePlan p2 0 0) <| bnr (fX8_requirePlan p2 0 0) fun r4 => none
set_option maxRecDepth 100000 in
set_option maxHeartbeats 4000000 in
theorem mxX8_bestWait {l : Launch} (hlt : l.stackTraces = false) {p1 : Int32} {p2 : Int32} {v : bM} {r0 : Nat} (hf : xX8_bestWait p1 p2 v = some r0) : bMetX l yX8_bestWait cX8_bestWait 3 (some .int) 8 1 6 LX (fun E a => [.ref a, .int p1, .int p2]) v r0 := by
  refine bk_startX (by decide +kernel) wfX (fun _ _ => Nat.le_of_ble_eq_true rfl) ?_
  intro p e s m args below meth c D E a ls H locs X hr hxt hl hB
  have hx := X.1
  have hb := X.2.1
  have hown := X.2.2.2.1
  have hts := X.2.2.2.2.1
  have hl : lv_has ls 3 [(0, .ref a), (1, .int p1), (2, .int p2)] := hl
  have hf := (xX8_bestWait.eq_1 p1 p2 v).symm.trans hf
  refine lv_aload_n hx hb dX8_bestWait_0 rfl (lv_at hl 0 rfl) ?_
  refine lv_iload_n hx hb dX8_bestWait_1 rfl (lv_at hl 1 rfl) ?_
  refine xr_cases hf (fun hX => ?_) (fun hf => ?_)
  · exact bk_allX hxt X hB (fun h1 h2 h3 => bk_runVX X (Av := [.int p1]) (rest := []) (mxX8_requireBread hlt hX) yv_X8_requireBread wm_1037 ⟨Nat.le_of_ble_eq_true rfl, Nat.le_of_ble_eq_true rfl⟩ rfl rfl hl.1 kl_X8.1 (hB.1.obj lc_X_0) h1 h2 h3 (Nat.le_of_ble_eq_true rfl) ⟨Nat.le_of_ble_eq_true rfl, Nat.le_of_ble_eq_true rfl⟩ dX8_bestWait_2)
  obtain ⟨r2, hc1, hf⟩ := bnr_some hf
  refine bk_all hB (fun h1 h2 h3 => bk_runV X (Av := [.int p1]) (rest := []) (mX8_requireBread hc1) yv_X8_requireBread wm_1037 ⟨Nat.le_of_ble_eq_true rfl, Nat.le_of_ble_eq_true rfl⟩ rfl rfl hl.1 kl_X8.1 (hB.1.obj lc_X_0) h1 h2 h3 (Nat.le_of_ble_eq_true rfl) ⟨Nat.le_of_ble_eq_true rfl, Nat.le_of_ble_eq_true rfl⟩ dX8_bestWait_2) (fun H locs hB => ?_)
  refine W.eq (g2 := F0 m 5 ls []) rfl ?_
  refine lv_iload_n hx hb dX8_bestWait_5 rfl (lv_at hl 2 rfl) ?_
  refine lv_iconst (v := 0) hx hb dX8_bestWait_6 (by decide) ?_
  refine lv_iconst (v := 0) hx hb dX8_bestWait_7 (by decide) ?_
  refine xr_cases hf (fun hX => ?_) (fun hf => ?_)
  · exact bk_nonX (v0 := v) hxt X hB (fun h1 h2 h3 => bk_runSX X (Av := [.int p2, .int 0, .int 0]) (rest := []) (mxX8_requirePlan hlt hX) ys_X8_requirePlan wm_1200 ⟨Nat.le_of_ble_eq_true rfl, Nat.le_of_ble_eq_true rfl⟩ rfl rfl hl.1 h1 h2 h3 (Nat.le_of_ble_eq_true rfl) ⟨Nat.le_of_ble_eq_true rfl, Nat.le_of_ble_eq_true rfl⟩ dX8_bestWait_8)
  obtain ⟨r4, hc3, hf⟩ := bnr_some hf
  refine bk_non (v0 := v) (w0 := v) hB (fun h1 h2 h3 => bk_runS X (Av := [.int p2, .int 0, .int 0]) (rest := []) (mX8_requirePlan hc3) ys_X8_requirePlan wm_1200 ⟨Nat.le_of_ble_eq_true rfl, Nat.le_of_ble_eq_true rfl⟩ rfl rfl hl.1 h1 h2 h3 (Nat.le_of_ble_eq_true rfl) ⟨Nat.le_of_ble_eq_true rfl, Nat.le_of_ble_eq_true rfl⟩ dX8_bestWait_8) (fun H locs hB => ?_)
  refine W.eq (g2 := F0 m 11 ls []) rfl ?_
  cases hf

theorem dX8_income_0 : decode cX8_income 0 = .ok (.aload_n 0, 1) := by decide +kernel
theorem dX8_income_1 : decode cX8_income 1 = .ok (.getfield 10, 3) := by decide +kernel
theorem dX8_income_4 : decode cX8_income 4 = .ok (.getfield 277, 3) := by decide +kernel
theorem dX8_income_7 : decode cX8_income 7 = .ok (.ireturn, 1) := by decide +kernel
def fX8_income  (v : bM) : Option Int32 :=
  ck (v 0) 12 <| nm (v 0).toNatClampNeg fun i2 => some (v (stO i2 + 3))
set_option maxRecDepth 100000 in
set_option maxHeartbeats 4000000 in
theorem mX8_income {l : Launch}  {v : bM} {r0 : Int32} (hf : fX8_income  v = some r0) : bMet l yX8_income cX8_income 1 (some .int) 0 0 0 LX (fun E a => [.ref a]) v v (fun _ => some (.int r0)) := by
  refine bk_start (by decide +kernel) wfX (fun _ _ => Nat.le_of_ble_eq_true rfl) ?_
  intro p e s m args below meth c D E a ls H locs X hr hl hB
  have hx := X.1
  have hb := X.2.1
  have hown := X.2.2.2.1
  have hts := X.2.2.2.2.1
  have hl : lv_has ls 1 [(0, .ref a)] := hl
  have hf := (fX8_income.eq_1  v).symm.trans hf
  refine lv_aload_n hx hb dX8_income_0 rfl (lv_at hl 0 rfl) ?_
  obtain ⟨h1, hf⟩ := ck_some hf
  refine bk_getS X hB kl_X8 0 lc_X_0 0 (by decide) rfl h1 wm_654 dX8_income_1 ?_
  obtain ⟨i2, ei2⟩ : ∃ y : Nat, y = (v 0).toNatClampNeg := ⟨_, rfl⟩
  have hf := nm_use hf ei2
  rw [← ei2]
  have hi2 : i2 < 12 := by rw [ei2]; exact vp_lt h1
  refine bk_getI X hB kl_X6 (stC i2 + 0) ((subX_St _ hi2).at lc_St_0) 3 (by decide) rfl wm_227 dX8_income_4 ?_
  exact bk_iR X hr rfl hf hB (Nat.le_of_ble_eq_true rfl) (Nat.le_of_ble_eq_true rfl) dX8_income_7
theorem yv_X8_income : bYv yX8_income RX8 cX8_income 1 (some .int) 0 := ⟨⟨rfl, by decide, by decide, rfl⟩, wm_817, wm_818, wm_1, wm_819⟩

theorem dX8_spentOnFlour_0 : decode cX8_spentOnFlour 0 = .ok (.aload_n 0, 1) := by decide +kernel
theorem dX8_spentOnFlour_1 : decode cX8_spentOnFlour 1 = .ok (.getfield 10, 3) := by decide +kernel
theorem dX8_spentOnFlour_4 : decode cX8_spentOnFlour 4 = .ok (.getfield 280, 3) := by decide +kernel
theorem dX8_spentOnFlour_7 : decode cX8_spentOnFlour 7 = .ok (.ireturn, 1) := by decide +kernel
def fX8_spentOnFlour  (v : bM) : Option Int32 :=
  ck (v 0) 12 <| nm (v 0).toNatClampNeg fun i2 => some (v (stO i2 + 4))
set_option maxRecDepth 100000 in
set_option maxHeartbeats 4000000 in
theorem mX8_spentOnFlour {l : Launch}  {v : bM} {r0 : Int32} (hf : fX8_spentOnFlour  v = some r0) : bMet l yX8_spentOnFlour cX8_spentOnFlour 1 (some .int) 0 0 0 LX (fun E a => [.ref a]) v v (fun _ => some (.int r0)) := by
  refine bk_start (by decide +kernel) wfX (fun _ _ => Nat.le_of_ble_eq_true rfl) ?_
  intro p e s m args below meth c D E a ls H locs X hr hl hB
  have hx := X.1
  have hb := X.2.1
  have hown := X.2.2.2.1
  have hts := X.2.2.2.2.1
  have hl : lv_has ls 1 [(0, .ref a)] := hl
  have hf := (fX8_spentOnFlour.eq_1  v).symm.trans hf
  refine lv_aload_n hx hb dX8_spentOnFlour_0 rfl (lv_at hl 0 rfl) ?_
  obtain ⟨h1, hf⟩ := ck_some hf
  refine bk_getS X hB kl_X8 0 lc_X_0 0 (by decide) rfl h1 wm_654 dX8_spentOnFlour_1 ?_
  obtain ⟨i2, ei2⟩ : ∃ y : Nat, y = (v 0).toNatClampNeg := ⟨_, rfl⟩
  have hf := nm_use hf ei2
  rw [← ei2]
  have hi2 : i2 < 12 := by rw [ei2]; exact vp_lt h1
  refine bk_getI X hB kl_X6 (stC i2 + 0) ((subX_St _ hi2).at lc_St_0) 4 (by decide) rfl wm_229 dX8_spentOnFlour_4 ?_
  exact bk_iR X hr rfl hf hB (Nat.le_of_ble_eq_true rfl) (Nat.le_of_ble_eq_true rfl) dX8_spentOnFlour_7
theorem yv_X8_spentOnFlour : bYv yX8_spentOnFlour RX8 cX8_spentOnFlour 1 (some .int) 0 := ⟨⟨rfl, by decide, by decide, rfl⟩, wm_821, wm_822, wm_1, wm_823⟩

theorem dX8_spentOnOvens_0 : decode cX8_spentOnOvens 0 = .ok (.aload_n 0, 1) := by decide +kernel
theorem dX8_spentOnOvens_1 : decode cX8_spentOnOvens 1 = .ok (.getfield 10, 3) := by decide +kernel
theorem dX8_spentOnOvens_4 : decode cX8_spentOnOvens 4 = .ok (.getfield 93, 3) := by decide +kernel
theorem dX8_spentOnOvens_7 : decode cX8_spentOnOvens 7 = .ok (.invokevirtual 283, 3) := by decide +kernel
theorem dX8_spentOnOvens_10 : decode cX8_spentOnOvens 10 = .ok (.ireturn, 1) := by decide +kernel
def fX8_spentOnOvens  (v : bM) : Option Int32 :=
  ck (v 0) 12 <| nm (v 0).toNatClampNeg fun i2 => bnr (fX0_sumOfOvenCosts (vw v (stO i2 + 277))) fun r4 => some (r4)
set_option maxRecDepth 100000 in
set_option maxHeartbeats 4000000 in
theorem mX8_spentOnOvens {l : Launch}  {v : bM} {r0 : Int32} (hf : fX8_spentOnOvens  v = some r0) : bMet l yX8_spentOnOvens cX8_spentOnOvens 1 (some .int) 2 0 0 LX (fun E a => [.ref a]) v v (fun _ => some (.int r0)) := by
  refine bk_start (by decide +kernel) wfX (fun _ _ => Nat.le_of_ble_eq_true rfl) ?_
  intro p e s m args below meth c D E a ls H locs X hr hl hB
  have hx := X.1
  have hb := X.2.1
  have hown := X.2.2.2.1
  have hts := X.2.2.2.2.1
  have hl : lv_has ls 1 [(0, .ref a)] := hl
  have hf := (fX8_spentOnOvens.eq_1  v).symm.trans hf
  refine lv_aload_n hx hb dX8_spentOnOvens_0 rfl (lv_at hl 0 rfl) ?_
  obtain ⟨h1, hf⟩ := ck_some hf
  refine bk_getS X hB kl_X8 0 lc_X_0 0 (by decide) rfl h1 wm_654 dX8_spentOnOvens_1 ?_
  obtain ⟨i2, ei2⟩ : ∃ y : Nat, y = (v 0).toNatClampNeg := ⟨_, rfl⟩
  have hf := nm_use hf ei2
  rw [← ei2]
  have hi2 : i2 < 12 := by rw [ei2]; exact vp_lt h1
  refine bk_getR X hB kl_X6 (stC i2 + 0) ((subX_St _ hi2).at lc_St_0) 9 (by decide) rfl wm_241 dX8_spentOnOvens_4 ?_
  obtain ⟨r4, hc3, hf⟩ := bnr_some hf
  refine bk_subR (subX_St_37 _ hi2) hB (fun h1 h2 h3 => bk_runV X (Av := []) (rest := []) (mX0_sumOfOvenCosts hc3) yv_X0_sumOfOvenCosts wm_828 ⟨Nat.le_of_ble_eq_true rfl, Nat.le_of_ble_eq_true rfl⟩ rfl rfl hl.1 kl_X0.1 (hB.1.obj ((subX_St _ hi2).at lc_St_37)) h1 h2 h3 (Nat.le_of_ble_eq_true rfl) ⟨Nat.le_of_ble_eq_true rfl, Nat.le_of_ble_eq_true rfl⟩ dX8_spentOnOvens_7) (fun H locs hB => ?_)
  refine W.eq (g2 := F0 m 10 ls [.int r4]) rfl ?_
  exact bk_iR X hr rfl hf hB (Nat.le_of_ble_eq_true rfl) (Nat.le_of_ble_eq_true rfl) dX8_spentOnOvens_10
theorem yv_X8_spentOnOvens : bYv yX8_spentOnOvens RX8 cX8_spentOnOvens 1 (some .int) 0 := ⟨⟨rfl, by decide, by decide, rfl⟩, wm_825, wm_826, wm_1, wm_827⟩

theorem dX8_flourValue_0 : decode cX8_flourValue 0 = .ok (.aload_n 0, 1) := by decide +kernel
theorem dX8_flourValue_1 : decode cX8_flourValue 1 = .ok (.getfield 10, 3) := by decide +kernel
theorem dX8_flourValue_4 : decode cX8_flourValue 4 = .ok (.getfield 125, 3) := by decide +kernel
theorem dX8_flourValue_7 : decode cX8_flourValue 7 = .ok (.invokevirtual 286, 3) := by decide +kernel
theorem dX8_flourValue_10 : decode cX8_flourValue 10 = .ok (.ireturn, 1) := by decide +kernel
def fX8_flourValue  (v : bM) : Option Int32 :=
  ck (v 0) 12 <| nm (v 0).toNatClampNeg fun i2 => bnr (fX2_value (vw v (stO i2 + 6))) fun r4 => some (r4)
set_option maxRecDepth 100000 in
set_option maxHeartbeats 4000000 in
theorem mX8_flourValue {l : Launch}  {v : bM} {r0 : Int32} (hf : fX8_flourValue  v = some r0) : bMet l yX8_flourValue cX8_flourValue 1 (some .int) 1 0 0 LX (fun E a => [.ref a]) v v (fun _ => some (.int r0)) := by
  refine bk_start (by decide +kernel) wfX (fun _ _ => Nat.le_of_ble_eq_true rfl) ?_
  intro p e s m args below meth c D E a ls H locs X hr hl hB
  have hx := X.1
  have hb := X.2.1
  have hown := X.2.2.2.1
  have hts := X.2.2.2.2.1
  have hl : lv_has ls 1 [(0, .ref a)] := hl
  have hf := (fX8_flourValue.eq_1  v).symm.trans hf
  refine lv_aload_n hx hb dX8_flourValue_0 rfl (lv_at hl 0 rfl) ?_
  obtain ⟨h1, hf⟩ := ck_some hf
  refine bk_getS X hB kl_X8 0 lc_X_0 0 (by decide) rfl h1 wm_654 dX8_flourValue_1 ?_
  obtain ⟨i2, ei2⟩ : ∃ y : Nat, y = (v 0).toNatClampNeg := ⟨_, rfl⟩
  have hf := nm_use hf ei2
  rw [← ei2]
  have hi2 : i2 < 12 := by rw [ei2]; exact vp_lt h1
  refine bk_getR X hB kl_X6 (stC i2 + 0) ((subX_St _ hi2).at lc_St_0) 6 (by decide) rfl wm_233 dX8_flourValue_4 ?_
  obtain ⟨r4, hc3, hf⟩ := bnr_some hf
  refine bk_subR (subX_St_1 _ hi2) hB (fun h1 h2 h3 => bk_runV X (Av := []) (rest := []) (mX2_value hc3) yv_X2_value wm_837 ⟨Nat.le_of_ble_eq_true rfl, Nat.le_of_ble_eq_true rfl⟩ rfl rfl hl.1 kl_X2.1 (hB.1.obj ((subX_St _ hi2).at lc_St_1)) h1 h2 h3 (Nat.le_of_ble_eq_true rfl) ⟨Nat.le_of_ble_eq_true rfl, Nat.le_of_ble_eq_true rfl⟩ dX8_flourValue_7) (fun H locs hB => ?_)
  refine W.eq (g2 := F0 m 10 ls [.int r4]) rfl ?_
  exact bk_iR X hr rfl hf hB (Nat.le_of_ble_eq_true rfl) (Nat.le_of_ble_eq_true rfl) dX8_flourValue_10
theorem yv_X8_flourValue : bYv yX8_flourValue RX8 cX8_flourValue 1 (some .int) 0 := ⟨⟨rfl, by decide, by decide, rfl⟩, wm_834, wm_835, wm_1, wm_836⟩

theorem dX8_loafValue_0 : decode cX8_loafValue 0 = .ok (.aload_n 0, 1) := by decide +kernel
theorem dX8_loafValue_1 : decode cX8_loafValue 1 = .ok (.getfield 10, 3) := by decide +kernel
theorem dX8_loafValue_4 : decode cX8_loafValue 4 = .ok (.getfield 156, 3) := by decide +kernel
theorem dX8_loafValue_7 : decode cX8_loafValue 7 = .ok (.invokevirtual 289, 3) := by decide +kernel
theorem dX8_loafValue_10 : decode cX8_loafValue 10 = .ok (.ireturn, 1) := by decide +kernel
def fX8_loafValue  (v : bM) : Option Int32 :=
  ck (v 0) 12 <| nm (v 0).toNatClampNeg fun i2 => bnr (fX1_value (vw v (stO i2 + 175))) fun r4 => some (r4)
set_option maxRecDepth 100000 in
set_option maxHeartbeats 4000000 in
theorem mX8_loafValue {l : Launch}  {v : bM} {r0 : Int32} (hf : fX8_loafValue  v = some r0) : bMet l yX8_loafValue cX8_loafValue 1 (some .int) 1 0 0 LX (fun E a => [.ref a]) v v (fun _ => some (.int r0)) := by
  refine bk_start (by decide +kernel) wfX (fun _ _ => Nat.le_of_ble_eq_true rfl) ?_
  intro p e s m args below meth c D E a ls H locs X hr hl hB
  have hx := X.1
  have hb := X.2.1
  have hown := X.2.2.2.1
  have hts := X.2.2.2.2.1
  have hl : lv_has ls 1 [(0, .ref a)] := hl
  have hf := (fX8_loafValue.eq_1  v).symm.trans hf
  refine lv_aload_n hx hb dX8_loafValue_0 rfl (lv_at hl 0 rfl) ?_
  obtain ⟨h1, hf⟩ := ck_some hf
  refine bk_getS X hB kl_X8 0 lc_X_0 0 (by decide) rfl h1 wm_654 dX8_loafValue_1 ?_
  obtain ⟨i2, ei2⟩ : ∃ y : Nat, y = (v 0).toNatClampNeg := ⟨_, rfl⟩
  have hf := nm_use hf ei2
  rw [← ei2]
  have hi2 : i2 < 12 := by rw [ei2]; exact vp_lt h1
  refine bk_getR X hB kl_X6 (stC i2 + 0) ((subX_St _ hi2).at lc_St_0) 7 (by decide) rfl wm_236 dX8_loafValue_4 ?_
  obtain ⟨r4, hc3, hf⟩ := bnr_some hf
  refine bk_subR (subX_St_20 _ hi2) hB (fun h1 h2 h3 => bk_runV X (Av := []) (rest := []) (mX1_value hc3) yv_X1_value wm_845 ⟨Nat.le_of_ble_eq_true rfl, Nat.le_of_ble_eq_true rfl⟩ rfl rfl hl.1 kl_X1.1 (hB.1.obj ((subX_St _ hi2).at lc_St_20)) h1 h2 h3 (Nat.le_of_ble_eq_true rfl) ⟨Nat.le_of_ble_eq_true rfl, Nat.le_of_ble_eq_true rfl⟩ dX8_loafValue_7) (fun H locs hB => ?_)
  refine W.eq (g2 := F0 m 10 ls [.int r4]) rfl ?_
  exact bk_iR X hr rfl hf hB (Nat.le_of_ble_eq_true rfl) (Nat.le_of_ble_eq_true rfl) dX8_loafValue_10
theorem yv_X8_loafValue : bYv yX8_loafValue RX8 cX8_loafValue 1 (some .int) 0 := ⟨⟨rfl, by decide, by decide, rfl⟩, wm_842, wm_843, wm_1, wm_844⟩

theorem dX8_consistencyError_0 : decode cX8_consistencyError 0 = .ok (.aload_n 0, 1) := by decide +kernel
theorem dX8_consistencyError_1 : decode cX8_consistencyError 1 = .ok (.getfield 10, 3) := by decide +kernel
theorem dX8_consistencyError_4 : decode cX8_consistencyError 4 = .ok (.invokevirtual 290, 3) := by decide +kernel
theorem dX8_consistencyError_7 : decode cX8_consistencyError 7 = .ok (.aload_n 0, 1) := by decide +kernel
theorem dX8_consistencyError_8 : decode cX8_consistencyError 8 = .ok (.getfield 10, 3) := by decide +kernel
theorem dX8_consistencyError_11 : decode cX8_consistencyError 11 = .ok (.getfield 93, 3) := by decide +kernel
theorem dX8_consistencyError_14 : decode cX8_consistencyError 14 = .ok (.invokevirtual 293, 3) := by decide +kernel
theorem dX8_consistencyError_17 : decode cX8_consistencyError 17 = .ok (.iadd, 1) := by decide +kernel
theorem dX8_consistencyError_18 : decode cX8_consistencyError 18 = .ok (.ireturn, 1) := by decide +kernel
def fX8_consistencyError  (v : bM) : Option Int32 :=
  ck (v 0) 12 <| nm (v 0).toNatClampNeg fun i2 => bnr (fX6_imbalance (vw v (stO i2))) fun r4 => ck (v 0) 12 <| nm (v 0).toNatClampNeg fun i6 => bnr (fX0_unexplained (vw v (stO i6 + 277))) fun r8 => some (r4 + r8)
set_option maxRecDepth 100000 in
set_option maxHeartbeats 4000000 in
theorem mX8_consistencyError {l : Launch}  {v : bM} {r0 : Int32} (hf : fX8_consistencyError  v = some r0) : bMet l yX8_consistencyError cX8_consistencyError 1 (some .int) 4 0 0 LX (fun E a => [.ref a]) v v (fun _ => some (.int r0)) := by
  refine bk_start (by decide +kernel) wfX (fun _ _ => Nat.le_of_ble_eq_true rfl) ?_
  intro p e s m args below meth c D E a ls H locs X hr hl hB
  have hx := X.1
  have hb := X.2.1
  have hown := X.2.2.2.1
  have hts := X.2.2.2.2.1
  have hl : lv_has ls 1 [(0, .ref a)] := hl
  have hf := (fX8_consistencyError.eq_1  v).symm.trans hf
  refine lv_aload_n hx hb dX8_consistencyError_0 rfl (lv_at hl 0 rfl) ?_
  obtain ⟨h1, hf⟩ := ck_some hf
  refine bk_getS X hB kl_X8 0 lc_X_0 0 (by decide) rfl h1 wm_654 dX8_consistencyError_1 ?_
  obtain ⟨i2, ei2⟩ : ∃ y : Nat, y = (v 0).toNatClampNeg := ⟨_, rfl⟩
  have hf := nm_use hf ei2
  rw [← ei2]
  have hi2 : i2 < 12 := by rw [ei2]; exact vp_lt h1
  obtain ⟨r4, hc3, hf⟩ := bnr_some hf
  refine bk_subR (subX_St _ hi2) hB (fun h1 h2 h3 => bk_runV X (Av := []) (rest := []) (mX6_imbalance hc3) yv_X6_imbalance wm_853 ⟨Nat.le_of_ble_eq_true rfl, Nat.le_of_ble_eq_true rfl⟩ rfl rfl hl.1 kl_X6.1 (hB.1.obj ((subX_St _ hi2).at lc_St_0)) h1 h2 h3 (Nat.le_of_ble_eq_true rfl) ⟨Nat.le_of_ble_eq_true rfl, Nat.le_of_ble_eq_true rfl⟩ dX8_consistencyError_4) (fun H locs hB => ?_)
  refine W.eq (g2 := F0 m 7 ls [.int r4]) rfl ?_
  refine lv_aload_n hx hb dX8_consistencyError_7 rfl (lv_at hl 0 rfl) ?_
  obtain ⟨h5, hf⟩ := ck_some hf
  refine bk_getS X hB kl_X8 0 lc_X_0 0 (by decide) rfl h5 wm_654 dX8_consistencyError_8 ?_
  obtain ⟨i6, ei6⟩ : ∃ y : Nat, y = (v 0).toNatClampNeg := ⟨_, rfl⟩
  have hf := nm_use hf ei6
  rw [← ei6]
  have hi6 : i6 < 12 := by rw [ei6]; exact vp_lt h5
  refine bk_getR X hB kl_X6 (stC i6 + 0) ((subX_St _ hi6).at lc_St_0) 9 (by decide) rfl wm_241 dX8_consistencyError_11 ?_
  obtain ⟨r8, hc7, hf⟩ := bnr_some hf
  refine bk_subR (subX_St_37 _ hi6) hB (fun h1 h2 h3 => bk_runV X (Av := []) (rest := [.int r4]) (mX0_unexplained hc7) yv_X0_unexplained wm_867 ⟨Nat.le_of_ble_eq_true rfl, Nat.le_of_ble_eq_true rfl⟩ rfl rfl hl.1 kl_X0.1 (hB.1.obj ((subX_St _ hi6).at lc_St_37)) h1 h2 h3 (Nat.le_of_ble_eq_true rfl) ⟨Nat.le_of_ble_eq_true rfl, Nat.le_of_ble_eq_true rfl⟩ dX8_consistencyError_14) (fun H locs hB => ?_)
  refine W.eq (g2 := F0 m 17 ls [.int r8, .int r4]) rfl ?_
  refine lv_iadd hx hb dX8_consistencyError_17 ?_
  exact bk_iR X hr rfl hf hB (Nat.le_of_ble_eq_true rfl) (Nat.le_of_ble_eq_true rfl) dX8_consistencyError_18
theorem yv_X8_consistencyError : bYv yX8_consistencyError RX8 cX8_consistencyError 1 (some .int) 0 := ⟨⟨rfl, by decide, by decide, rfl⟩, wm_850, wm_851, wm_1, wm_852⟩

theorem dX8_addFlour_0 : decode cX8_addFlour 0 = .ok (.iload_n 1, 1) := by decide +kernel
theorem dX8_addFlour_1 : decode cX8_addFlour 1 = .ok (.iconst 1, 1) := by decide +kernel
theorem dX8_addFlour_2 : decode cX8_addFlour 2 = .ok (.bipush 99, 2) := by decide +kernel
theorem dX8_addFlour_4 : decode cX8_addFlour 4 = .ok (.invokestatic 197, 3) := by decide +kernel
theorem dX8_addFlour_7 : decode cX8_addFlour 7 = .ok (.aload_n 0, 1) := by decide +kernel
theorem dX8_addFlour_8 : decode cX8_addFlour 8 = .ok (.getfield 10, 3) := by decide +kernel
theorem dX8_addFlour_11 : decode cX8_addFlour 11 = .ok (.getfield 125, 3) := by decide +kernel
theorem dX8_addFlour_14 : decode cX8_addFlour 14 = .ok (.getfield 129, 3) := by decide +kernel
theorem dX8_addFlour_17 : decode cX8_addFlour 17 = .ok (.bipush 6, 2) := by decide +kernel
theorem dX8_addFlour_19 : decode cX8_addFlour 19 = .ok (.if_icmp .ge 7, 3) := by decide +kernel
theorem dX8_addFlour_22 : decode cX8_addFlour 22 = .ok (.iconst 1, 1) := by decide +kernel
theorem dX8_addFlour_23 : decode cX8_addFlour 23 = .ok (.goto 4, 3) := by decide +kernel
theorem dX8_addFlour_26 : decode cX8_addFlour 26 = .ok (.iconst 0, 1) := by decide +kernel
theorem dX8_addFlour_27 : decode cX8_addFlour 27 = .ok (.invokestatic 264, 3) := by decide +kernel
theorem dX8_addFlour_30 : decode cX8_addFlour 30 = .ok (.aload_n 0, 1) := by decide +kernel
theorem dX8_addFlour_31 : decode cX8_addFlour 31 = .ok (.getfield 22, 3) := by decide +kernel
theorem dX8_addFlour_34 : decode cX8_addFlour 34 = .ok (.aload_n 0, 1) := by decide +kernel
theorem dX8_addFlour_35 : decode cX8_addFlour 35 = .ok (.getfield 10, 3) := by decide +kernel
theorem dX8_addFlour_38 : decode cX8_addFlour 38 = .ok (.invokevirtual 106, 3) := by decide +kernel
theorem dX8_addFlour_41 : decode cX8_addFlour 41 = .ok (.aload_n 0, 1) := by decide +kernel
theorem dX8_addFlour_42 : decode cX8_addFlour 42 = .ok (.getfield 10, 3) := by decide +kernel
theorem dX8_addFlour_45 : decode cX8_addFlour 45 = .ok (.getfield 125, 3) := by decide +kernel
theorem dX8_addFlour_48 : decode cX8_addFlour 48 = .ok (.iload_n 1, 1) := by decide +kernel
theorem dX8_addFlour_49 : decode cX8_addFlour 49 = .ok (.invokevirtual 305, 3) := by decide +kernel
theorem dX8_addFlour_52 : decode cX8_addFlour 52 = .ok (.ireturn, 1) := by decide +kernel
def fX8_addFlour_J27 (p1 : Int32) (y5 : Int32) (v6 : bM) : Option (Int32 × bM) :=
  bnr (fX8_requireState y5) fun r8 => ck (v6 0) 12 <| nm (v6 0).toNatClampNeg fun i10 => bnw (fX3_remember i10 v6) fun w12 => ck (w12 0) 12 <| nm (w12 0).toNatClampNeg fun i14 => bnd (fX2_create p1 (vw w12 (stO i14 + 6))) fun r17 w16 => nm (spl w12 (stO i14 + 6) 169 w16) fun v18 => some (r17, v18)
def fX8_addFlour (p1 : Int32) (v : bM) : Option (Int32 × bM) :=
  bnr (fX8_requireRange p1 1 99) fun r2 => ck (v 0) 12 <| nm (v 0).toNatClampNeg fun i4 => (if 6 ≤ (v (stO i4 + 6)) then (fX8_addFlour_J27 p1 0 v) else (fX8_addFlour_J27 p1 1 v))
set_option maxRecDepth 100000 in
set_option maxHeartbeats 4000000 in
theorem mX8_addFlour {l : Launch} {p1 : Int32} {v : bM} {r0 : Int32} {w0 : bM} (hf : fX8_addFlour p1 v = some (r0, w0)) : bMet l yX8_addFlour cX8_addFlour 2 (some .int) 5 0 0 LX (fun E a => [.ref a, .int p1]) v w0 (fun _ => some (.int r0)) := by
  refine bk_start (by decide +kernel) wfX (fun _ _ => Nat.le_of_ble_eq_true rfl) ?_
  intro p e s m args below meth c D E a ls H locs X hr hl hB
  have hx := X.1
  have hb := X.2.1
  have hown := X.2.2.2.1
  have hts := X.2.2.2.2.1
  have hl : lv_has ls 2 [(0, .ref a), (1, .int p1)] := hl
  have hf := (fX8_addFlour.eq_1 p1 v).symm.trans hf
  refine lv_iload_n hx hb dX8_addFlour_0 rfl (lv_at hl 1 rfl) ?_
  refine lv_iconst (v := 1) hx hb dX8_addFlour_1 (by decide) ?_
  refine lv_bipush (v := 99) hx hb dX8_addFlour_2 (by decide) ?_
  obtain ⟨r2, hc1, hf⟩ := bnr_some hf
  refine bk_non (v0 := v) (w0 := v) hB (fun h1 h2 h3 => bk_runS X (Av := [.int p1, .int 1, .int 99]) (rest := []) (mX8_requireRange hc1) ys_X8_requireRange wm_1084 ⟨Nat.le_of_ble_eq_true rfl, Nat.le_of_ble_eq_true rfl⟩ rfl rfl hl.1 h1 h2 h3 (Nat.le_of_ble_eq_true rfl) ⟨Nat.le_of_ble_eq_true rfl, Nat.le_of_ble_eq_true rfl⟩ dX8_addFlour_4) (fun H locs hB => ?_)
  refine W.eq (g2 := F0 m 7 ls []) rfl ?_
  refine lv_aload_n hx hb dX8_addFlour_7 rfl (lv_at hl 0 rfl) ?_
  obtain ⟨h3, hf⟩ := ck_some hf
  refine bk_getS X hB kl_X8 0 lc_X_0 0 (by decide) rfl h3 wm_654 dX8_addFlour_8 ?_
  obtain ⟨i4, ei4⟩ : ∃ y : Nat, y = (v 0).toNatClampNeg := ⟨_, rfl⟩
  have hf := nm_use hf ei4
  rw [← ei4]
  have hi4 : i4 < 12 := by rw [ei4]; exact vp_lt h3
  refine bk_getR X hB kl_X6 (stC i4 + 0) ((subX_St _ hi4).at lc_St_0) 6 (by decide) rfl wm_233 dX8_addFlour_11 ?_
  refine bk_getI X hB kl_X2 (stC i4 + 1) ((subX_St _ hi4).at lc_St_1) 0 (by decide) rfl wm_57 dX8_addFlour_14 ?_
  refine lv_bipush (v := 6) hx hb dX8_addFlour_17 (by decide) ?_
  have hJ27 : ∀ (y5 : Int32) (v6 : bM) (H : Heap) (locs : List Loc) (ls : Array Slot), fX8_addFlour_J27 p1 y5 v6 = some (r0, w0) → bB D E LX a v6 s H locs → lv_has ls 2 [(0, .ref a), (1, .int p1)] → W p l e (rmOf 5 0 0) s m args below meth c H locs 0 0 (bQ below D E LX a w0 (some (.int r0)) args s 0 0) (F0 m 27 ls [.int y5]) := by
    intro y5 v6 H locs ls hf hB hl
    have hf := (fX8_addFlour_J27.eq_1 p1 y5 v6).symm.trans hf
    obtain ⟨r8, hc7, hf⟩ := bnr_some hf
    refine bk_non (v0 := v6) (w0 := v6) hB (fun h1 h2 h3 => bk_runS X (Av := [.int y5]) (rest := []) (mX8_requireState hc7) ys_X8_requireState wm_1212 ⟨Nat.le_of_ble_eq_true rfl, Nat.le_of_ble_eq_true rfl⟩ rfl rfl hl.1 h1 h2 h3 (Nat.le_of_ble_eq_true rfl) ⟨Nat.le_of_ble_eq_true rfl, Nat.le_of_ble_eq_true rfl⟩ dX8_addFlour_27) (fun H locs hB => ?_)
    refine W.eq (g2 := F0 m 30 ls []) rfl ?_
    refine lv_aload_n hx hb dX8_addFlour_30 rfl (lv_at hl 0 rfl) ?_
    refine bk_getR X hB kl_X8 0 lc_X_0 2 (by decide) rfl wm_656 dX8_addFlour_31 ?_
    refine lv_aload_n hx hb dX8_addFlour_34 rfl (lv_at hl 0 rfl) ?_
    obtain ⟨h9, hf⟩ := ck_some hf
    refine bk_getS X hB kl_X8 0 lc_X_0 0 (by decide) rfl h9 wm_654 dX8_addFlour_35 ?_
    obtain ⟨i10, ei10⟩ : ∃ y : Nat, y = (v6 0).toNatClampNeg := ⟨_, rfl⟩
    have hf := nm_use hf ei10
    rw [← ei10]
    have hi10 : i10 < 12 := by rw [ei10]; exact vp_lt h9
    obtain ⟨w12, hc11, hf⟩ := bnw_some hf
    refine bk_all hB (fun h1 h2 h3 => bk_runV X (Av := [.ref (a + (stC i10 + 0))]) (rest := []) (mX3_remember hc11) yv_X3_remember wm_733 ⟨Nat.le_of_ble_eq_true rfl, Nat.le_of_ble_eq_true rfl⟩ rfl rfl hl.1 kl_X3.1 (hB.1.obj lc_X_143) h1 h2 h3 (Nat.le_of_ble_eq_true rfl) ⟨Nat.le_of_ble_eq_true rfl, Nat.le_of_ble_eq_true rfl⟩ dX8_addFlour_38) (fun H locs hB => ?_)
    refine W.eq (g2 := F0 m 41 ls []) rfl ?_
    refine lv_aload_n hx hb dX8_addFlour_41 rfl (lv_at hl 0 rfl) ?_
    obtain ⟨h13, hf⟩ := ck_some hf
    refine bk_getS X hB kl_X8 0 lc_X_0 0 (by decide) rfl h13 wm_654 dX8_addFlour_42 ?_
    obtain ⟨i14, ei14⟩ : ∃ y : Nat, y = (w12 0).toNatClampNeg := ⟨_, rfl⟩
    have hf := nm_use hf ei14
    rw [← ei14]
    have hi14 : i14 < 12 := by rw [ei14]; exact vp_lt h13
    refine bk_getR X hB kl_X6 (stC i14 + 0) ((subX_St _ hi14).at lc_St_0) 6 (by decide) rfl wm_233 dX8_addFlour_45 ?_
    refine lv_iload_n hx hb dX8_addFlour_48 rfl (lv_at hl 1 rfl) ?_
    obtain ⟨r17, w16, hc15, hf⟩ := bnd_some hf
    refine bk_sub (subX_St_1 _ hi14) hB (fun h1 h2 h3 => bk_runV X (Av := [.int p1]) (rest := []) (mX2_create hc15) yv_X2_create wm_1268 ⟨Nat.le_of_ble_eq_true rfl, Nat.le_of_ble_eq_true rfl⟩ rfl rfl hl.1 kl_X2.1 (hB.1.obj ((subX_St _ hi14).at lc_St_1)) h1 h2 h3 (Nat.le_of_ble_eq_true rfl) ⟨Nat.le_of_ble_eq_true rfl, Nat.le_of_ble_eq_true rfl⟩ dX8_addFlour_49) (fun H locs hB => ?_)
    refine W.eq (g2 := F0 m 52 ls [.int r17]) rfl ?_
    obtain ⟨v18, ev18⟩ : ∃ y : bM, y = spl w12 (stO i14 + 6) 169 w16 := ⟨_, rfl⟩
    have hf := nm_use hf ev18
    rw [← ev18] at hB
    exact bk_iW X hr rfl hf hB (Nat.le_of_ble_eq_true rfl) (Nat.le_of_ble_eq_true rfl) dX8_addFlour_52
  refine lv_icmp_ge (tgt := 26) hx hb dX8_addFlour_19 (by decide) (fun c19 => ?_) (fun c19 => ?_)
  · have hf := (if_pos c19).symm.trans hf
    refine lv_iconst (v := 0) hx hb dX8_addFlour_26 (by decide) ?_
    exact hJ27 0 v H locs ls hf hB (lv_sub hl [0, 1] rfl)
  · have hf := (if_neg c19).symm.trans hf
    refine lv_iconst (v := 1) hx hb dX8_addFlour_22 (by decide) ?_
    refine lv_goto (tgt := 27) hx hb dX8_addFlour_23 (by decide) ?_
    exact hJ27 1 v H locs ls hf hB (lv_sub hl [0, 1] rfl)
theorem yv_X8_addFlour : bYv yX8_addFlour RX8 cX8_addFlour 2 (some .int) 1 := ⟨⟨rfl, by decide, by decide, rfl⟩, wm_1265, wm_1266, wm_1, wm_1267⟩

def xX8_addFlour_J27  (y5 : Int32) : Option Nat :=
  xr (xX8_requireState y5) <| bnr (fX8_requireState y5) fun r7 => none
def xX8_addFlour (p1 : Int32) (v : bM) : Option Nat :=
  xr (xX8_requireRange p1 1 99) <| bnr (fX8_requireRange p1 1 99) fun r2 => ck (v 0) 12 <| nm (v 0).toNatClampNeg fun i4 => (if 6 ≤ (v (stO i4 + 6)) then (xX8_addFlour_J27 0) else (xX8_addFlour_J27 1))
set_option maxRecDepth 100000 in
set_option maxHeartbeats 4000000 in
theorem mxX8_addFlour {l : Launch} (hlt : l.stackTraces = false) {p1 : Int32} {v : bM} {r0 : Nat} (hf : xX8_addFlour p1 v = some r0) : bMetX l yX8_addFlour cX8_addFlour 2 (some .int) 7 1 6 LX (fun E a => [.ref a, .int p1]) v r0 := by
  refine bk_startX (by decide +kernel) wfX (fun _ _ => Nat.le_of_ble_eq_true rfl) ?_
  intro p e s m args below meth c D E a ls H locs X hr hxt hl hB
  have hx := X.1
  have hb := X.2.1
  have hown := X.2.2.2.1
  have hts := X.2.2.2.2.1
  have hl : lv_has ls 2 [(0, .ref a), (1, .int p1)] := hl
  have hf := (xX8_addFlour.eq_1 p1 v).symm.trans hf
  refine lv_iload_n hx hb dX8_addFlour_0 rfl (lv_at hl 1 rfl) ?_
  refine lv_iconst (v := 1) hx hb dX8_addFlour_1 (by decide) ?_
  refine lv_bipush (v := 99) hx hb dX8_addFlour_2 (by decide) ?_
  refine xr_cases hf (fun hX => ?_) (fun hf => ?_)
  · exact bk_nonX (v0 := v) hxt X hB (fun h1 h2 h3 => bk_runSX X (Av := [.int p1, .int 1, .int 99]) (rest := []) (mxX8_requireRange hlt hX) ys_X8_requireRange wm_1084 ⟨Nat.le_of_ble_eq_true rfl, Nat.le_of_ble_eq_true rfl⟩ rfl rfl hl.1 h1 h2 h3 (Nat.le_of_ble_eq_true rfl) ⟨Nat.le_of_ble_eq_true rfl, Nat.le_of_ble_eq_true rfl⟩ dX8_addFlour_4)
  obtain ⟨r2, hc1, hf⟩ := bnr_some hf
  refine bk_non (v0 := v) (w0 := v) hB (fun h1 h2 h3 => bk_runS X (Av := [.int p1, .int 1, .int 99]) (rest := []) (mX8_requireRange hc1) ys_X8_requireRange wm_1084 ⟨Nat.le_of_ble_eq_true rfl, Nat.le_of_ble_eq_true rfl⟩ rfl rfl hl.1 h1 h2 h3 (Nat.le_of_ble_eq_true rfl) ⟨Nat.le_of_ble_eq_true rfl, Nat.le_of_ble_eq_true rfl⟩ dX8_addFlour_4) (fun H locs hB => ?_)
  refine W.eq (g2 := F0 m 7 ls []) rfl ?_
  refine lv_aload_n hx hb dX8_addFlour_7 rfl (lv_at hl 0 rfl) ?_
  obtain ⟨h3, hf⟩ := ck_some hf
  refine bk_getS X hB kl_X8 0 lc_X_0 0 (by decide) rfl h3 wm_654 dX8_addFlour_8 ?_
  obtain ⟨i4, ei4⟩ : ∃ y : Nat, y = (v 0).toNatClampNeg := ⟨_, rfl⟩
  have hf := nm_use hf ei4
  rw [← ei4]
  have hi4 : i4 < 12 := by rw [ei4]; exact vp_lt h3
  refine bk_getR X hB kl_X6 (stC i4 + 0) ((subX_St _ hi4).at lc_St_0) 6 (by decide) rfl wm_233 dX8_addFlour_11 ?_
  refine bk_getI X hB kl_X2 (stC i4 + 1) ((subX_St _ hi4).at lc_St_1) 0 (by decide) rfl wm_57 dX8_addFlour_14 ?_
  refine lv_bipush (v := 6) hx hb dX8_addFlour_17 (by decide) ?_
  have hJ27 : ∀ (y5 : Int32) (H : Heap) (locs : List Loc) (ls : Array Slot), xX8_addFlour_J27 y5 = some r0 → bB D E LX a v s H locs → lv_has ls 2 [(0, .ref a), (1, .int p1)] → W p l e (rmOf 7 1 6) s m args below meth c H locs 0 0 (bQX below D E LX a v r0 args s 1 6) (F0 m 27 ls [.int y5]) := by
    intro y5 H locs ls hf hB hl
    have hf := (xX8_addFlour_J27.eq_1  y5).symm.trans hf
    refine xr_cases hf (fun hX => ?_) (fun hf => ?_)
    · exact bk_nonX (v0 := v) hxt X hB (fun h1 h2 h3 => bk_runSX X (Av := [.int y5]) (rest := []) (mxX8_requireState hlt hX) ys_X8_requireState wm_1212 ⟨Nat.le_of_ble_eq_true rfl, Nat.le_of_ble_eq_true rfl⟩ rfl rfl hl.1 h1 h2 h3 (Nat.le_of_ble_eq_true rfl) ⟨Nat.le_of_ble_eq_true rfl, Nat.le_of_ble_eq_true rfl⟩ dX8_addFlour_27)
    obtain ⟨r7, hc6, hf⟩ := bnr_some hf
    refine bk_non (v0 := v) (w0 := v) hB (fun h1 h2 h3 => bk_runS X (Av := [.int y5]) (rest := []) (mX8_requireState hc6) ys_X8_requireState wm_1212 ⟨Nat.le_of_ble_eq_true rfl, Nat.le_of_ble_eq_true rfl⟩ rfl rfl hl.1 h1 h2 h3 (Nat.le_of_ble_eq_true rfl) ⟨Nat.le_of_ble_eq_true rfl, Nat.le_of_ble_eq_true rfl⟩ dX8_addFlour_27) (fun H locs hB => ?_)
    refine W.eq (g2 := F0 m 30 ls []) rfl ?_
    cases hf
  refine lv_icmp_ge (tgt := 26) hx hb dX8_addFlour_19 (by decide) (fun c8 => ?_) (fun c8 => ?_)
  · have hf := (if_pos c8).symm.trans hf
    refine lv_iconst (v := 0) hx hb dX8_addFlour_26 (by decide) ?_
    exact hJ27 0 H locs ls hf hB (lv_sub hl [0, 1] rfl)
  · have hf := (if_neg c8).symm.trans hf
    refine lv_iconst (v := 1) hx hb dX8_addFlour_22 (by decide) ?_
    refine lv_goto (tgt := 27) hx hb dX8_addFlour_23 (by decide) ?_
    exact hJ27 1 H locs ls hf hB (lv_sub hl [0, 1] rfl)

theorem dX8_addBread_0 : decode cX8_addBread 0 = .ok (.iload_n 1, 1) := by decide +kernel
theorem dX8_addBread_1 : decode cX8_addBread 1 = .ok (.iconst 1, 1) := by decide +kernel
theorem dX8_addBread_2 : decode cX8_addBread 2 = .ok (.sipush 999, 3) := by decide +kernel
theorem dX8_addBread_5 : decode cX8_addBread 5 = .ok (.invokestatic 197, 3) := by decide +kernel
theorem dX8_addBread_8 : decode cX8_addBread 8 = .ok (.iload_n 2, 1) := by decide +kernel
theorem dX8_addBread_9 : decode cX8_addBread 9 = .ok (.iconst 1, 1) := by decide +kernel
theorem dX8_addBread_10 : decode cX8_addBread 10 = .ok (.bipush 9, 2) := by decide +kernel
theorem dX8_addBread_12 : decode cX8_addBread 12 = .ok (.invokestatic 197, 3) := by decide +kernel
theorem dX8_addBread_15 : decode cX8_addBread 15 = .ok (.iload_n 3, 1) := by decide +kernel
theorem dX8_addBread_16 : decode cX8_addBread 16 = .ok (.iconst 1, 1) := by decide +kernel
theorem dX8_addBread_17 : decode cX8_addBread 17 = .ok (.aload_n 0, 1) := by decide +kernel
theorem dX8_addBread_18 : decode cX8_addBread 18 = .ok (.getfield 10, 3) := by decide +kernel
theorem dX8_addBread_21 : decode cX8_addBread 21 = .ok (.getfield 125, 3) := by decide +kernel
theorem dX8_addBread_24 : decode cX8_addBread 24 = .ok (.invokevirtual 308, 3) := by decide +kernel
theorem dX8_addBread_27 : decode cX8_addBread 27 = .ok (.invokestatic 197, 3) := by decide +kernel
theorem dX8_addBread_30 : decode cX8_addBread 30 = .ok (.aload_n 0, 1) := by decide +kernel
theorem dX8_addBread_31 : decode cX8_addBread 31 = .ok (.getfield 10, 3) := by decide +kernel
theorem dX8_addBread_34 : decode cX8_addBread 34 = .ok (.getfield 156, 3) := by decide +kernel
theorem dX8_addBread_37 : decode cX8_addBread 37 = .ok (.getfield 160, 3) := by decide +kernel
theorem dX8_addBread_40 : decode cX8_addBread 40 = .ok (.bipush 6, 2) := by decide +kernel
theorem dX8_addBread_42 : decode cX8_addBread 42 = .ok (.if_icmp .ge 7, 3) := by decide +kernel
theorem dX8_addBread_45 : decode cX8_addBread 45 = .ok (.iconst 1, 1) := by decide +kernel
theorem dX8_addBread_46 : decode cX8_addBread 46 = .ok (.goto 4, 3) := by decide +kernel
theorem dX8_addBread_49 : decode cX8_addBread 49 = .ok (.iconst 0, 1) := by decide +kernel
theorem dX8_addBread_50 : decode cX8_addBread 50 = .ok (.invokestatic 264, 3) := by decide +kernel
theorem dX8_addBread_53 : decode cX8_addBread 53 = .ok (.aload_n 0, 1) := by decide +kernel
theorem dX8_addBread_54 : decode cX8_addBread 54 = .ok (.getfield 22, 3) := by decide +kernel
theorem dX8_addBread_57 : decode cX8_addBread 57 = .ok (.aload_n 0, 1) := by decide +kernel
theorem dX8_addBread_58 : decode cX8_addBread 58 = .ok (.getfield 10, 3) := by decide +kernel
theorem dX8_addBread_61 : decode cX8_addBread 61 = .ok (.invokevirtual 106, 3) := by decide +kernel
theorem dX8_addBread_64 : decode cX8_addBread 64 = .ok (.aload_n 0, 1) := by decide +kernel
theorem dX8_addBread_65 : decode cX8_addBread 65 = .ok (.getfield 10, 3) := by decide +kernel
theorem dX8_addBread_68 : decode cX8_addBread 68 = .ok (.iload_n 1, 1) := by decide +kernel
theorem dX8_addBread_69 : decode cX8_addBread 69 = .ok (.iload_n 2, 1) := by decide +kernel
theorem dX8_addBread_70 : decode cX8_addBread 70 = .ok (.iload_n 3, 1) := by decide +kernel
theorem dX8_addBread_71 : decode cX8_addBread 71 = .ok (.invokevirtual 311, 3) := by decide +kernel
theorem dX8_addBread_74 : decode cX8_addBread 74 = .ok (.ireturn, 1) := by decide +kernel
def fX8_addBread_J50 (p1 : Int32) (p2 : Int32) (p3 : Int32) (y13 : Int32) (v14 : bM) : Option (Int32 × bM) :=
  bnr (fX8_requireState y13) fun r16 => ck (v14 0) 12 <| nm (v14 0).toNatClampNeg fun i18 => bnw (fX3_remember i18 v14) fun w20 => ck (w20 0) 12 <| nm (w20 0).toNatClampNeg fun i22 => bnd (fX6_createBread p1 p2 p3 (vw w20 (stO i22))) fun r25 w24 => nm (spl w20 (stO i22) 590 w24) fun v26 => some (r25, v26)
def fX8_addBread (p1 : Int32) (p2 : Int32) (p3 : Int32) (v : bM) : Option (Int32 × bM) :=
  bnr (fX8_requireRange p1 1 999) fun r2 => bnr (fX8_requireRange p2 1 9) fun r4 => ck (v 0) 12 <| nm (v 0).toNatClampNeg fun i6 => bnr (fX2_highestRecipe (vw v (stO i6 + 6))) fun r8 => bnr (fX8_requireRange p3 1 r8) fun r10 => ck (v 0) 12 <| nm (v 0).toNatClampNeg fun i12 => (if 6 ≤ (v (stO i12 + 175)) then (fX8_addBread_J50 p1 p2 p3 0 v) else (fX8_addBread_J50 p1 p2 p3 1 v))
set_option maxRecDepth 100000 in
set_option maxHeartbeats 4000000 in
theorem mX8_addBread {l : Launch} {p1 : Int32} {p2 : Int32} {p3 : Int32} {v : bM} {r0 : Int32} {w0 : bM} (hf : fX8_addBread p1 p2 p3 v = some (r0, w0)) : bMet l yX8_addBread cX8_addBread 4 (some .int) 5 0 0 LX (fun E a => [.ref a, .int p1, .int p2, .int p3]) v w0 (fun _ => some (.int r0)) := by
  refine bk_start (by decide +kernel) wfX (fun _ _ => Nat.le_of_ble_eq_true rfl) ?_
  intro p e s m args below meth c D E a ls H locs X hr hl hB
  have hx := X.1
  have hb := X.2.1
  have hown := X.2.2.2.1
  have hts := X.2.2.2.2.1
  have hl : lv_has ls 4 [(0, .ref a), (1, .int p1), (2, .int p2), (3, .int p3)] := hl
  have hf := (fX8_addBread.eq_1 p1 p2 p3 v).symm.trans hf
  refine lv_iload_n hx hb dX8_addBread_0 rfl (lv_at hl 1 rfl) ?_
  refine lv_iconst (v := 1) hx hb dX8_addBread_1 (by decide) ?_
  refine lv_sipush (v := 999) hx hb dX8_addBread_2 (by decide) ?_
  obtain ⟨r2, hc1, hf⟩ := bnr_some hf
  refine bk_non (v0 := v) (w0 := v) hB (fun h1 h2 h3 => bk_runS X (Av := [.int p1, .int 1, .int 999]) (rest := []) (mX8_requireRange hc1) ys_X8_requireRange wm_1084 ⟨Nat.le_of_ble_eq_true rfl, Nat.le_of_ble_eq_true rfl⟩ rfl rfl hl.1 h1 h2 h3 (Nat.le_of_ble_eq_true rfl) ⟨Nat.le_of_ble_eq_true rfl, Nat.le_of_ble_eq_true rfl⟩ dX8_addBread_5) (fun H locs hB => ?_)
  refine W.eq (g2 := F0 m 8 ls []) rfl ?_
  refine lv_iload_n hx hb dX8_addBread_8 rfl (lv_at hl 2 rfl) ?_
  refine lv_iconst (v := 1) hx hb dX8_addBread_9 (by decide) ?_
  refine lv_bipush (v := 9) hx hb dX8_addBread_10 (by decide) ?_
  obtain ⟨r4, hc3, hf⟩ := bnr_some hf
  refine bk_non (v0 := v) (w0 := v) hB (fun h1 h2 h3 => bk_runS X (Av := [.int p2, .int 1, .int 9]) (rest := []) (mX8_requireRange hc3) ys_X8_requireRange wm_1084 ⟨Nat.le_of_ble_eq_true rfl, Nat.le_of_ble_eq_true rfl⟩ rfl rfl hl.1 h1 h2 h3 (Nat.le_of_ble_eq_true rfl) ⟨Nat.le_of_ble_eq_true rfl, Nat.le_of_ble_eq_true rfl⟩ dX8_addBread_12) (fun H locs hB => ?_)
  refine W.eq (g2 := F0 m 15 ls []) rfl ?_
  refine lv_iload_n hx hb dX8_addBread_15 rfl (lv_at hl 3 rfl) ?_
  refine lv_iconst (v := 1) hx hb dX8_addBread_16 (by decide) ?_
  refine lv_aload_n hx hb dX8_addBread_17 rfl (lv_at hl 0 rfl) ?_
  obtain ⟨h5, hf⟩ := ck_some hf
  refine bk_getS X hB kl_X8 0 lc_X_0 0 (by decide) rfl h5 wm_654 dX8_addBread_18 ?_
  obtain ⟨i6, ei6⟩ : ∃ y : Nat, y = (v 0).toNatClampNeg := ⟨_, rfl⟩
  have hf := nm_use hf ei6
  rw [← ei6]
  have hi6 : i6 < 12 := by rw [ei6]; exact vp_lt h5
  refine bk_getR X hB kl_X6 (stC i6 + 0) ((subX_St _ hi6).at lc_St_0) 6 (by decide) rfl wm_233 dX8_addBread_21 ?_
  obtain ⟨r8, hc7, hf⟩ := bnr_some hf
  refine bk_subR (subX_St_1 _ hi6) hB (fun h1 h2 h3 => bk_runV X (Av := []) (rest := [.int 1, .int p3]) (mX2_highestRecipe hc7) yv_X2_highestRecipe wm_1276 ⟨Nat.le_of_ble_eq_true rfl, Nat.le_of_ble_eq_true rfl⟩ rfl rfl hl.1 kl_X2.1 (hB.1.obj ((subX_St _ hi6).at lc_St_1)) h1 h2 h3 (Nat.le_of_ble_eq_true rfl) ⟨Nat.le_of_ble_eq_true rfl, Nat.le_of_ble_eq_true rfl⟩ dX8_addBread_24) (fun H locs hB => ?_)
  refine W.eq (g2 := F0 m 27 ls [.int r8, .int 1, .int p3]) rfl ?_
  obtain ⟨r10, hc9, hf⟩ := bnr_some hf
  refine bk_non (v0 := v) (w0 := v) hB (fun h1 h2 h3 => bk_runS X (Av := [.int p3, .int 1, .int r8]) (rest := []) (mX8_requireRange hc9) ys_X8_requireRange wm_1084 ⟨Nat.le_of_ble_eq_true rfl, Nat.le_of_ble_eq_true rfl⟩ rfl rfl hl.1 h1 h2 h3 (Nat.le_of_ble_eq_true rfl) ⟨Nat.le_of_ble_eq_true rfl, Nat.le_of_ble_eq_true rfl⟩ dX8_addBread_27) (fun H locs hB => ?_)
  refine W.eq (g2 := F0 m 30 ls []) rfl ?_
  refine lv_aload_n hx hb dX8_addBread_30 rfl (lv_at hl 0 rfl) ?_
  obtain ⟨h11, hf⟩ := ck_some hf
  refine bk_getS X hB kl_X8 0 lc_X_0 0 (by decide) rfl h11 wm_654 dX8_addBread_31 ?_
  obtain ⟨i12, ei12⟩ : ∃ y : Nat, y = (v 0).toNatClampNeg := ⟨_, rfl⟩
  have hf := nm_use hf ei12
  rw [← ei12]
  have hi12 : i12 < 12 := by rw [ei12]; exact vp_lt h11
  refine bk_getR X hB kl_X6 (stC i12 + 0) ((subX_St _ hi12).at lc_St_0) 7 (by decide) rfl wm_236 dX8_addBread_34 ?_
  refine bk_getI X hB kl_X1 (stC i12 + 20) ((subX_St _ hi12).at lc_St_20) 0 (by decide) rfl wm_100 dX8_addBread_37 ?_
  refine lv_bipush (v := 6) hx hb dX8_addBread_40 (by decide) ?_
  have hJ50 : ∀ (y13 : Int32) (v14 : bM) (H : Heap) (locs : List Loc) (ls : Array Slot), fX8_addBread_J50 p1 p2 p3 y13 v14 = some (r0, w0) → bB D E LX a v14 s H locs → lv_has ls 4 [(0, .ref a), (1, .int p1), (2, .int p2), (3, .int p3)] → W p l e (rmOf 5 0 0) s m args below meth c H locs 0 0 (bQ below D E LX a w0 (some (.int r0)) args s 0 0) (F0 m 50 ls [.int y13]) := by
    intro y13 v14 H locs ls hf hB hl
    have hf := (fX8_addBread_J50.eq_1 p1 p2 p3 y13 v14).symm.trans hf
    obtain ⟨r16, hc15, hf⟩ := bnr_some hf
    refine bk_non (v0 := v14) (w0 := v14) hB (fun h1 h2 h3 => bk_runS X (Av := [.int y13]) (rest := []) (mX8_requireState hc15) ys_X8_requireState wm_1212 ⟨Nat.le_of_ble_eq_true rfl, Nat.le_of_ble_eq_true rfl⟩ rfl rfl hl.1 h1 h2 h3 (Nat.le_of_ble_eq_true rfl) ⟨Nat.le_of_ble_eq_true rfl, Nat.le_of_ble_eq_true rfl⟩ dX8_addBread_50) (fun H locs hB => ?_)
    refine W.eq (g2 := F0 m 53 ls []) rfl ?_
    refine lv_aload_n hx hb dX8_addBread_53 rfl (lv_at hl 0 rfl) ?_
    refine bk_getR X hB kl_X8 0 lc_X_0 2 (by decide) rfl wm_656 dX8_addBread_54 ?_
    refine lv_aload_n hx hb dX8_addBread_57 rfl (lv_at hl 0 rfl) ?_
    obtain ⟨h17, hf⟩ := ck_some hf
    refine bk_getS X hB kl_X8 0 lc_X_0 0 (by decide) rfl h17 wm_654 dX8_addBread_58 ?_
    obtain ⟨i18, ei18⟩ : ∃ y : Nat, y = (v14 0).toNatClampNeg := ⟨_, rfl⟩
    have hf := nm_use hf ei18
    rw [← ei18]
    have hi18 : i18 < 12 := by rw [ei18]; exact vp_lt h17
    obtain ⟨w20, hc19, hf⟩ := bnw_some hf
    refine bk_all hB (fun h1 h2 h3 => bk_runV X (Av := [.ref (a + (stC i18 + 0))]) (rest := []) (mX3_remember hc19) yv_X3_remember wm_733 ⟨Nat.le_of_ble_eq_true rfl, Nat.le_of_ble_eq_true rfl⟩ rfl rfl hl.1 kl_X3.1 (hB.1.obj lc_X_143) h1 h2 h3 (Nat.le_of_ble_eq_true rfl) ⟨Nat.le_of_ble_eq_true rfl, Nat.le_of_ble_eq_true rfl⟩ dX8_addBread_61) (fun H locs hB => ?_)
    refine W.eq (g2 := F0 m 64 ls []) rfl ?_
    refine lv_aload_n hx hb dX8_addBread_64 rfl (lv_at hl 0 rfl) ?_
    obtain ⟨h21, hf⟩ := ck_some hf
    refine bk_getS X hB kl_X8 0 lc_X_0 0 (by decide) rfl h21 wm_654 dX8_addBread_65 ?_
    obtain ⟨i22, ei22⟩ : ∃ y : Nat, y = (w20 0).toNatClampNeg := ⟨_, rfl⟩
    have hf := nm_use hf ei22
    rw [← ei22]
    have hi22 : i22 < 12 := by rw [ei22]; exact vp_lt h21
    refine lv_iload_n hx hb dX8_addBread_68 rfl (lv_at hl 1 rfl) ?_
    refine lv_iload_n hx hb dX8_addBread_69 rfl (lv_at hl 2 rfl) ?_
    refine lv_iload_n hx hb dX8_addBread_70 rfl (lv_at hl 3 rfl) ?_
    obtain ⟨r25, w24, hc23, hf⟩ := bnd_some hf
    refine bk_sub (subX_St _ hi22) hB (fun h1 h2 h3 => bk_runV X (Av := [.int p1, .int p2, .int p3]) (rest := []) (mX6_createBread hc23) yv_X6_createBread wm_1277 ⟨Nat.le_of_ble_eq_true rfl, Nat.le_of_ble_eq_true rfl⟩ rfl rfl hl.1 kl_X6.1 (hB.1.obj ((subX_St _ hi22).at lc_St_0)) h1 h2 h3 (Nat.le_of_ble_eq_true rfl) ⟨Nat.le_of_ble_eq_true rfl, Nat.le_of_ble_eq_true rfl⟩ dX8_addBread_71) (fun H locs hB => ?_)
    refine W.eq (g2 := F0 m 74 ls [.int r25]) rfl ?_
    obtain ⟨v26, ev26⟩ : ∃ y : bM, y = spl w20 (stO i22) 590 w24 := ⟨_, rfl⟩
    have hf := nm_use hf ev26
    rw [← ev26] at hB
    exact bk_iW X hr rfl hf hB (Nat.le_of_ble_eq_true rfl) (Nat.le_of_ble_eq_true rfl) dX8_addBread_74
  refine lv_icmp_ge (tgt := 49) hx hb dX8_addBread_42 (by decide) (fun c27 => ?_) (fun c27 => ?_)
  · have hf := (if_pos c27).symm.trans hf
    refine lv_iconst (v := 0) hx hb dX8_addBread_49 (by decide) ?_
    exact hJ50 0 v H locs ls hf hB (lv_sub hl [0, 1, 2, 3] rfl)
  · have hf := (if_neg c27).symm.trans hf
    refine lv_iconst (v := 1) hx hb dX8_addBread_45 (by decide) ?_
    refine lv_goto (tgt := 50) hx hb dX8_addBread_46 (by decide) ?_
    exact hJ50 1 v H locs ls hf hB (lv_sub hl [0, 1, 2, 3] rfl)
theorem yv_X8_addBread : bYv yX8_addBread RX8 cX8_addBread 4 (some .int) 3 := ⟨⟨rfl, by decide, by decide, rfl⟩, wm_1273, wm_1274, wm_1, wm_1275⟩

def xX8_addBread_J50  (y13 : Int32) : Option Nat :=
  xr (xX8_requireState y13) <| bnr (fX8_requireState y13) fun r15 => none
def xX8_addBread (p1 : Int32) (p2 : Int32) (p3 : Int32) (v : bM) : Option Nat :=
  xr (xX8_requireRange p1 1 999) <| bnr (fX8_requireRange p1 1 999) fun r2 => xr (xX8_requireRange p2 1 9) <| bnr (fX8_requireRange p2 1 9) fun r4 => ck (v 0) 12 <| nm (v 0).toNatClampNeg fun i6 => bnr (fX2_highestRecipe (vw v (stO i6 + 6))) fun r8 => xr (xX8_requireRange p3 1 r8) <| bnr (fX8_requireRange p3 1 r8) fun r10 => ck (v 0) 12 <| nm (v 0).toNatClampNeg fun i12 => (if 6 ≤ (v (stO i12 + 175)) then (xX8_addBread_J50 0) else (xX8_addBread_J50 1))
set_option maxRecDepth 100000 in
set_option maxHeartbeats 4000000 in
theorem mxX8_addBread {l : Launch} (hlt : l.stackTraces = false) {p1 : Int32} {p2 : Int32} {p3 : Int32} {v : bM} {r0 : Nat} (hf : xX8_addBread p1 p2 p3 v = some r0) : bMetX l yX8_addBread cX8_addBread 4 (some .int) 7 1 6 LX (fun E a => [.ref a, .int p1, .int p2, .int p3]) v r0 := by
  refine bk_startX (by decide +kernel) wfX (fun _ _ => Nat.le_of_ble_eq_true rfl) ?_
  intro p e s m args below meth c D E a ls H locs X hr hxt hl hB
  have hx := X.1
  have hb := X.2.1
  have hown := X.2.2.2.1
  have hts := X.2.2.2.2.1
  have hl : lv_has ls 4 [(0, .ref a), (1, .int p1), (2, .int p2), (3, .int p3)] := hl
  have hf := (xX8_addBread.eq_1 p1 p2 p3 v).symm.trans hf
  refine lv_iload_n hx hb dX8_addBread_0 rfl (lv_at hl 1 rfl) ?_
  refine lv_iconst (v := 1) hx hb dX8_addBread_1 (by decide) ?_
  refine lv_sipush (v := 999) hx hb dX8_addBread_2 (by decide) ?_
  refine xr_cases hf (fun hX => ?_) (fun hf => ?_)
  · exact bk_nonX (v0 := v) hxt X hB (fun h1 h2 h3 => bk_runSX X (Av := [.int p1, .int 1, .int 999]) (rest := []) (mxX8_requireRange hlt hX) ys_X8_requireRange wm_1084 ⟨Nat.le_of_ble_eq_true rfl, Nat.le_of_ble_eq_true rfl⟩ rfl rfl hl.1 h1 h2 h3 (Nat.le_of_ble_eq_true rfl) ⟨Nat.le_of_ble_eq_true rfl, Nat.le_of_ble_eq_true rfl⟩ dX8_addBread_5)
  obtain ⟨r2, hc1, hf⟩ := bnr_some hf
  refine bk_non (v0 := v) (w0 := v) hB (fun h1 h2 h3 => bk_runS X (Av := [.int p1, .int 1, .int 999]) (rest := []) (mX8_requireRange hc1) ys_X8_requireRange wm_1084 ⟨Nat.le_of_ble_eq_true rfl, Nat.le_of_ble_eq_true rfl⟩ rfl rfl hl.1 h1 h2 h3 (Nat.le_of_ble_eq_true rfl) ⟨Nat.le_of_ble_eq_true rfl, Nat.le_of_ble_eq_true rfl⟩ dX8_addBread_5) (fun H locs hB => ?_)
  refine W.eq (g2 := F0 m 8 ls []) rfl ?_
  refine lv_iload_n hx hb dX8_addBread_8 rfl (lv_at hl 2 rfl) ?_
  refine lv_iconst (v := 1) hx hb dX8_addBread_9 (by decide) ?_
  refine lv_bipush (v := 9) hx hb dX8_addBread_10 (by decide) ?_
  refine xr_cases hf (fun hX => ?_) (fun hf => ?_)
  · exact bk_nonX (v0 := v) hxt X hB (fun h1 h2 h3 => bk_runSX X (Av := [.int p2, .int 1, .int 9]) (rest := []) (mxX8_requireRange hlt hX) ys_X8_requireRange wm_1084 ⟨Nat.le_of_ble_eq_true rfl, Nat.le_of_ble_eq_true rfl⟩ rfl rfl hl.1 h1 h2 h3 (Nat.le_of_ble_eq_true rfl) ⟨Nat.le_of_ble_eq_true rfl, Nat.le_of_ble_eq_true rfl⟩ dX8_addBread_12)
  obtain ⟨r4, hc3, hf⟩ := bnr_some hf
  refine bk_non (v0 := v) (w0 := v) hB (fun h1 h2 h3 => bk_runS X (Av := [.int p2, .int 1, .int 9]) (rest := []) (mX8_requireRange hc3) ys_X8_requireRange wm_1084 ⟨Nat.le_of_ble_eq_true rfl, Nat.le_of_ble_eq_true rfl⟩ rfl rfl hl.1 h1 h2 h3 (Nat.le_of_ble_eq_true rfl) ⟨Nat.le_of_ble_eq_true rfl, Nat.le_of_ble_eq_true rfl⟩ dX8_addBread_12) (fun H locs hB => ?_)
  refine W.eq (g2 := F0 m 15 ls []) rfl ?_
  refine lv_iload_n hx hb dX8_addBread_15 rfl (lv_at hl 3 rfl) ?_
  refine lv_iconst (v := 1) hx hb dX8_addBread_16 (by decide) ?_
  refine lv_aload_n hx hb dX8_addBread_17 rfl (lv_at hl 0 rfl) ?_
  obtain ⟨h5, hf⟩ := ck_some hf
  refine bk_getS X hB kl_X8 0 lc_X_0 0 (by decide) rfl h5 wm_654 dX8_addBread_18 ?_
  obtain ⟨i6, ei6⟩ : ∃ y : Nat, y = (v 0).toNatClampNeg := ⟨_, rfl⟩
  have hf := nm_use hf ei6
  rw [← ei6]
  have hi6 : i6 < 12 := by rw [ei6]; exact vp_lt h5
  refine bk_getR X hB kl_X6 (stC i6 + 0) ((subX_St _ hi6).at lc_St_0) 6 (by decide) rfl wm_233 dX8_addBread_21 ?_
  obtain ⟨r8, hc7, hf⟩ := bnr_some hf
  refine bk_subR (subX_St_1 _ hi6) hB (fun h1 h2 h3 => bk_runV X (Av := []) (rest := [.int 1, .int p3]) (mX2_highestRecipe hc7) yv_X2_highestRecipe wm_1276 ⟨Nat.le_of_ble_eq_true rfl, Nat.le_of_ble_eq_true rfl⟩ rfl rfl hl.1 kl_X2.1 (hB.1.obj ((subX_St _ hi6).at lc_St_1)) h1 h2 h3 (Nat.le_of_ble_eq_true rfl) ⟨Nat.le_of_ble_eq_true rfl, Nat.le_of_ble_eq_true rfl⟩ dX8_addBread_24) (fun H locs hB => ?_)
  refine W.eq (g2 := F0 m 27 ls [.int r8, .int 1, .int p3]) rfl ?_
  refine xr_cases hf (fun hX => ?_) (fun hf => ?_)
  · exact bk_nonX (v0 := v) hxt X hB (fun h1 h2 h3 => bk_runSX X (Av := [.int p3, .int 1, .int r8]) (rest := []) (mxX8_requireRange hlt hX) ys_X8_requireRange wm_1084 ⟨Nat.le_of_ble_eq_true rfl, Nat.le_of_ble_eq_true rfl⟩ rfl rfl hl.1 h1 h2 h3 (Nat.le_of_ble_eq_true rfl) ⟨Nat.le_of_ble_eq_true rfl, Nat.le_of_ble_eq_true rfl⟩ dX8_addBread_27)
  obtain ⟨r10, hc9, hf⟩ := bnr_some hf
  refine bk_non (v0 := v) (w0 := v) hB (fun h1 h2 h3 => bk_runS X (Av := [.int p3, .int 1, .int r8]) (rest := []) (mX8_requireRange hc9) ys_X8_requireRange wm_1084 ⟨Nat.le_of_ble_eq_true rfl, Nat.le_of_ble_eq_true rfl⟩ rfl rfl hl.1 h1 h2 h3 (Nat.le_of_ble_eq_true rfl) ⟨Nat.le_of_ble_eq_true rfl, Nat.le_of_ble_eq_true rfl⟩ dX8_addBread_27) (fun H locs hB => ?_)
  refine W.eq (g2 := F0 m 30 ls []) rfl ?_
  refine lv_aload_n hx hb dX8_addBread_30 rfl (lv_at hl 0 rfl) ?_
  obtain ⟨h11, hf⟩ := ck_some hf
  refine bk_getS X hB kl_X8 0 lc_X_0 0 (by decide) rfl h11 wm_654 dX8_addBread_31 ?_
  obtain ⟨i12, ei12⟩ : ∃ y : Nat, y = (v 0).toNatClampNeg := ⟨_, rfl⟩
  have hf := nm_use hf ei12
  rw [← ei12]
  have hi12 : i12 < 12 := by rw [ei12]; exact vp_lt h11
  refine bk_getR X hB kl_X6 (stC i12 + 0) ((subX_St _ hi12).at lc_St_0) 7 (by decide) rfl wm_236 dX8_addBread_34 ?_
  refine bk_getI X hB kl_X1 (stC i12 + 20) ((subX_St _ hi12).at lc_St_20) 0 (by decide) rfl wm_100 dX8_addBread_37 ?_
  refine lv_bipush (v := 6) hx hb dX8_addBread_40 (by decide) ?_
  have hJ50 : ∀ (y13 : Int32) (H : Heap) (locs : List Loc) (ls : Array Slot), xX8_addBread_J50 y13 = some r0 → bB D E LX a v s H locs → lv_has ls 4 [(0, .ref a), (1, .int p1), (2, .int p2), (3, .int p3)] → W p l e (rmOf 7 1 6) s m args below meth c H locs 0 0 (bQX below D E LX a v r0 args s 1 6) (F0 m 50 ls [.int y13]) := by
    intro y13 H locs ls hf hB hl
    have hf := (xX8_addBread_J50.eq_1  y13).symm.trans hf
    refine xr_cases hf (fun hX => ?_) (fun hf => ?_)
    · exact bk_nonX (v0 := v) hxt X hB (fun h1 h2 h3 => bk_runSX X (Av := [.int y13]) (rest := []) (mxX8_requireState hlt hX) ys_X8_requireState wm_1212 ⟨Nat.le_of_ble_eq_true rfl, Nat.le_of_ble_eq_true rfl⟩ rfl rfl hl.1 h1 h2 h3 (Nat.le_of_ble_eq_true rfl) ⟨Nat.le_of_ble_eq_true rfl, Nat.le_of_ble_eq_true rfl⟩ dX8_addBread_50)
    obtain ⟨r15, hc14, hf⟩ := bnr_some hf
    refine bk_non (v0 := v) (w0 := v) hB (fun h1 h2 h3 => bk_runS X (Av := [.int y13]) (rest := []) (mX8_requireState hc14) ys_X8_requireState wm_1212 ⟨Nat.le_of_ble_eq_true rfl, Nat.le_of_ble_eq_true rfl⟩ rfl rfl hl.1 h1 h2 h3 (Nat.le_of_ble_eq_true rfl) ⟨Nat.le_of_ble_eq_true rfl, Nat.le_of_ble_eq_true rfl⟩ dX8_addBread_50) (fun H locs hB => ?_)
    refine W.eq (g2 := F0 m 53 ls []) rfl ?_
    cases hf
  refine lv_icmp_ge (tgt := 49) hx hb dX8_addBread_42 (by decide) (fun c16 => ?_) (fun c16 => ?_)
  · have hf := (if_pos c16).symm.trans hf
    refine lv_iconst (v := 0) hx hb dX8_addBread_49 (by decide) ?_
    exact hJ50 0 H locs ls hf hB (lv_sub hl [0, 1, 2, 3] rfl)
  · have hf := (if_neg c16).symm.trans hf
    refine lv_iconst (v := 1) hx hb dX8_addBread_45 (by decide) ?_
    refine lv_goto (tgt := 50) hx hb dX8_addBread_46 (by decide) ?_
    exact hJ50 1 H locs ls hf hB (lv_sub hl [0, 1, 2, 3] rfl)

theorem dX8_buy_0 : decode cX8_buy 0 = .ok (.aload_n 0, 1) := by decide +kernel
theorem dX8_buy_1 : decode cX8_buy 1 = .ok (.iload_n 1, 1) := by decide +kernel
theorem dX8_buy_2 : decode cX8_buy 2 = .ok (.invokevirtual 132, 3) := by decide +kernel
theorem dX8_buy_5 : decode cX8_buy 5 = .ok (.iload_n 2, 1) := by decide +kernel
theorem dX8_buy_6 : decode cX8_buy 6 = .ok (.iconst 1, 1) := by decide +kernel
theorem dX8_buy_7 : decode cX8_buy 7 = .ok (.bipush 99, 2) := by decide +kernel
theorem dX8_buy_9 : decode cX8_buy 9 = .ok (.invokestatic 197, 3) := by decide +kernel
theorem dX8_buy_12 : decode cX8_buy 12 = .ok (.iload_n 3, 1) := by decide +kernel
theorem dX8_buy_13 : decode cX8_buy 13 = .ok (.iconst 1, 1) := by decide +kernel
theorem dX8_buy_14 : decode cX8_buy 14 = .ok (.bipush 99, 2) := by decide +kernel
theorem dX8_buy_16 : decode cX8_buy 16 = .ok (.invokestatic 197, 3) := by decide +kernel
theorem dX8_buy_19 : decode cX8_buy 19 = .ok (.aload_n 0, 1) := by decide +kernel
theorem dX8_buy_20 : decode cX8_buy 20 = .ok (.getfield 10, 3) := by decide +kernel
theorem dX8_buy_23 : decode cX8_buy 23 = .ok (.iload_n 1, 1) := by decide +kernel
theorem dX8_buy_24 : decode cX8_buy 24 = .ok (.iload_n 2, 1) := by decide +kernel
theorem dX8_buy_25 : decode cX8_buy 25 = .ok (.iload_n 3, 1) := by decide +kernel
theorem dX8_buy_26 : decode cX8_buy 26 = .ok (.invokevirtual 315, 3) := by decide +kernel
theorem dX8_buy_29 : decode cX8_buy 29 = .ok (.invokestatic 264, 3) := by decide +kernel
theorem dX8_buy_32 : decode cX8_buy 32 = .ok (.aload_n 0, 1) := by decide +kernel
theorem dX8_buy_33 : decode cX8_buy 33 = .ok (.getfield 22, 3) := by decide +kernel
theorem dX8_buy_36 : decode cX8_buy 36 = .ok (.aload_n 0, 1) := by decide +kernel
theorem dX8_buy_37 : decode cX8_buy 37 = .ok (.getfield 10, 3) := by decide +kernel
theorem dX8_buy_40 : decode cX8_buy 40 = .ok (.invokevirtual 106, 3) := by decide +kernel
theorem dX8_buy_43 : decode cX8_buy 43 = .ok (.aload_n 0, 1) := by decide +kernel
theorem dX8_buy_44 : decode cX8_buy 44 = .ok (.getfield 10, 3) := by decide +kernel
theorem dX8_buy_47 : decode cX8_buy 47 = .ok (.iload_n 1, 1) := by decide +kernel
theorem dX8_buy_48 : decode cX8_buy 48 = .ok (.iload_n 2, 1) := by decide +kernel
theorem dX8_buy_49 : decode cX8_buy 49 = .ok (.iload_n 3, 1) := by decide +kernel
theorem dX8_buy_50 : decode cX8_buy 50 = .ok (.invokevirtual 319, 3) := by decide +kernel
theorem dX8_buy_53 : decode cX8_buy 53 = .ok (.pop, 1) := by decide +kernel
theorem dX8_buy_54 : decode cX8_buy 54 = .ok (.aload_n 0, 1) := by decide +kernel
theorem dX8_buy_55 : decode cX8_buy 55 = .ok (.getfield 10, 3) := by decide +kernel
theorem dX8_buy_58 : decode cX8_buy 58 = .ok (.getfield 121, 3) := by decide +kernel
theorem dX8_buy_61 : decode cX8_buy 61 = .ok (.ireturn, 1) := by decide +kernel
def fX8_buy (p1 : Int32) (p2 : Int32) (p3 : Int32) (v : bM) : Option (Int32 × bM) :=
  bnr (fX8_requireFlour p1 v) fun r2 => bnr (fX8_requireRange p2 1 99) fun r4 => bnr (fX8_requireRange p3 1 99) fun r6 => ck (v 0) 12 <| nm (v 0).toNatClampNeg fun i8 => bnr (fX6_canBuyLot p1 p2 p3 (vw v (stO i8))) fun r10 => bnr (fX8_requireState r10) fun r12 => ck (v 0) 12 <| nm (v 0).toNatClampNeg fun i14 => bnw (fX3_remember i14 v) fun w16 => ck (w16 0) 12 <| nm (w16 0).toNatClampNeg fun i18 => bnd (fX6_buyLot p1 p2 p3 (vw w16 (stO i18))) fun r21 w20 => nm (spl w16 (stO i18) 590 w20) fun v22 => ck (v22 0) 12 <| nm (v22 0).toNatClampNeg fun i24 => some (v22 (stO i24 + 1), v22)
set_option maxRecDepth 100000 in
set_option maxHeartbeats 4000000 in
theorem mX8_buy {l : Launch} {p1 : Int32} {p2 : Int32} {p3 : Int32} {v : bM} {r0 : Int32} {w0 : bM} (hf : fX8_buy p1 p2 p3 v = some (r0, w0)) : bMet l yX8_buy cX8_buy 4 (some .int) 5 0 0 LX (fun E a => [.ref a, .int p1, .int p2, .int p3]) v w0 (fun _ => some (.int r0)) := by
  refine bk_start (by decide +kernel) wfX (fun _ _ => Nat.le_of_ble_eq_true rfl) ?_
  intro p e s m args below meth c D E a ls H locs X hr hl hB
  have hx := X.1
  have hb := X.2.1
  have hown := X.2.2.2.1
  have hts := X.2.2.2.2.1
  have hl : lv_has ls 4 [(0, .ref a), (1, .int p1), (2, .int p2), (3, .int p3)] := hl
  have hf := (fX8_buy.eq_1 p1 p2 p3 v).symm.trans hf
  refine lv_aload_n hx hb dX8_buy_0 rfl (lv_at hl 0 rfl) ?_
  refine lv_iload_n hx hb dX8_buy_1 rfl (lv_at hl 1 rfl) ?_
  obtain ⟨r2, hc1, hf⟩ := bnr_some hf
  refine bk_all hB (fun h1 h2 h3 => bk_runV X (Av := [.int p1]) (rest := []) (mX8_requireFlour hc1) yv_X8_requireFlour wm_920 ⟨Nat.le_of_ble_eq_true rfl, Nat.le_of_ble_eq_true rfl⟩ rfl rfl hl.1 kl_X8.1 (hB.1.obj lc_X_0) h1 h2 h3 (Nat.le_of_ble_eq_true rfl) ⟨Nat.le_of_ble_eq_true rfl, Nat.le_of_ble_eq_true rfl⟩ dX8_buy_2) (fun H locs hB => ?_)
  refine W.eq (g2 := F0 m 5 ls []) rfl ?_
  refine lv_iload_n hx hb dX8_buy_5 rfl (lv_at hl 2 rfl) ?_
  refine lv_iconst (v := 1) hx hb dX8_buy_6 (by decide) ?_
  refine lv_bipush (v := 99) hx hb dX8_buy_7 (by decide) ?_
  obtain ⟨r4, hc3, hf⟩ := bnr_some hf
  refine bk_non (v0 := v) (w0 := v) hB (fun h1 h2 h3 => bk_runS X (Av := [.int p2, .int 1, .int 99]) (rest := []) (mX8_requireRange hc3) ys_X8_requireRange wm_1084 ⟨Nat.le_of_ble_eq_true rfl, Nat.le_of_ble_eq_true rfl⟩ rfl rfl hl.1 h1 h2 h3 (Nat.le_of_ble_eq_true rfl) ⟨Nat.le_of_ble_eq_true rfl, Nat.le_of_ble_eq_true rfl⟩ dX8_buy_9) (fun H locs hB => ?_)
  refine W.eq (g2 := F0 m 12 ls []) rfl ?_
  refine lv_iload_n hx hb dX8_buy_12 rfl (lv_at hl 3 rfl) ?_
  refine lv_iconst (v := 1) hx hb dX8_buy_13 (by decide) ?_
  refine lv_bipush (v := 99) hx hb dX8_buy_14 (by decide) ?_
  obtain ⟨r6, hc5, hf⟩ := bnr_some hf
  refine bk_non (v0 := v) (w0 := v) hB (fun h1 h2 h3 => bk_runS X (Av := [.int p3, .int 1, .int 99]) (rest := []) (mX8_requireRange hc5) ys_X8_requireRange wm_1084 ⟨Nat.le_of_ble_eq_true rfl, Nat.le_of_ble_eq_true rfl⟩ rfl rfl hl.1 h1 h2 h3 (Nat.le_of_ble_eq_true rfl) ⟨Nat.le_of_ble_eq_true rfl, Nat.le_of_ble_eq_true rfl⟩ dX8_buy_16) (fun H locs hB => ?_)
  refine W.eq (g2 := F0 m 19 ls []) rfl ?_
  refine lv_aload_n hx hb dX8_buy_19 rfl (lv_at hl 0 rfl) ?_
  obtain ⟨h7, hf⟩ := ck_some hf
  refine bk_getS X hB kl_X8 0 lc_X_0 0 (by decide) rfl h7 wm_654 dX8_buy_20 ?_
  obtain ⟨i8, ei8⟩ : ∃ y : Nat, y = (v 0).toNatClampNeg := ⟨_, rfl⟩
  have hf := nm_use hf ei8
  rw [← ei8]
  have hi8 : i8 < 12 := by rw [ei8]; exact vp_lt h7
  refine lv_iload_n hx hb dX8_buy_23 rfl (lv_at hl 1 rfl) ?_
  refine lv_iload_n hx hb dX8_buy_24 rfl (lv_at hl 2 rfl) ?_
  refine lv_iload_n hx hb dX8_buy_25 rfl (lv_at hl 3 rfl) ?_
  obtain ⟨r10, hc9, hf⟩ := bnr_some hf
  refine bk_subR (subX_St _ hi8) hB (fun h1 h2 h3 => bk_runV X (Av := [.int p1, .int p2, .int p3]) (rest := []) (mX6_canBuyLot hc9) yv_X6_canBuyLot wm_1285 ⟨Nat.le_of_ble_eq_true rfl, Nat.le_of_ble_eq_true rfl⟩ rfl rfl hl.1 kl_X6.1 (hB.1.obj ((subX_St _ hi8).at lc_St_0)) h1 h2 h3 (Nat.le_of_ble_eq_true rfl) ⟨Nat.le_of_ble_eq_true rfl, Nat.le_of_ble_eq_true rfl⟩ dX8_buy_26) (fun H locs hB => ?_)
  refine W.eq (g2 := F0 m 29 ls [.int r10]) rfl ?_
  obtain ⟨r12, hc11, hf⟩ := bnr_some hf
  refine bk_non (v0 := v) (w0 := v) hB (fun h1 h2 h3 => bk_runS X (Av := [.int r10]) (rest := []) (mX8_requireState hc11) ys_X8_requireState wm_1212 ⟨Nat.le_of_ble_eq_true rfl, Nat.le_of_ble_eq_true rfl⟩ rfl rfl hl.1 h1 h2 h3 (Nat.le_of_ble_eq_true rfl) ⟨Nat.le_of_ble_eq_true rfl, Nat.le_of_ble_eq_true rfl⟩ dX8_buy_29) (fun H locs hB => ?_)
  refine W.eq (g2 := F0 m 32 ls []) rfl ?_
  refine lv_aload_n hx hb dX8_buy_32 rfl (lv_at hl 0 rfl) ?_
  refine bk_getR X hB kl_X8 0 lc_X_0 2 (by decide) rfl wm_656 dX8_buy_33 ?_
  refine lv_aload_n hx hb dX8_buy_36 rfl (lv_at hl 0 rfl) ?_
  obtain ⟨h13, hf⟩ := ck_some hf
  refine bk_getS X hB kl_X8 0 lc_X_0 0 (by decide) rfl h13 wm_654 dX8_buy_37 ?_
  obtain ⟨i14, ei14⟩ : ∃ y : Nat, y = (v 0).toNatClampNeg := ⟨_, rfl⟩
  have hf := nm_use hf ei14
  rw [← ei14]
  have hi14 : i14 < 12 := by rw [ei14]; exact vp_lt h13
  obtain ⟨w16, hc15, hf⟩ := bnw_some hf
  refine bk_all hB (fun h1 h2 h3 => bk_runV X (Av := [.ref (a + (stC i14 + 0))]) (rest := []) (mX3_remember hc15) yv_X3_remember wm_733 ⟨Nat.le_of_ble_eq_true rfl, Nat.le_of_ble_eq_true rfl⟩ rfl rfl hl.1 kl_X3.1 (hB.1.obj lc_X_143) h1 h2 h3 (Nat.le_of_ble_eq_true rfl) ⟨Nat.le_of_ble_eq_true rfl, Nat.le_of_ble_eq_true rfl⟩ dX8_buy_40) (fun H locs hB => ?_)
  refine W.eq (g2 := F0 m 43 ls []) rfl ?_
  refine lv_aload_n hx hb dX8_buy_43 rfl (lv_at hl 0 rfl) ?_
  obtain ⟨h17, hf⟩ := ck_some hf
  refine bk_getS X hB kl_X8 0 lc_X_0 0 (by decide) rfl h17 wm_654 dX8_buy_44 ?_
  obtain ⟨i18, ei18⟩ : ∃ y : Nat, y = (w16 0).toNatClampNeg := ⟨_, rfl⟩
  have hf := nm_use hf ei18
  rw [← ei18]
  have hi18 : i18 < 12 := by rw [ei18]; exact vp_lt h17
  refine lv_iload_n hx hb dX8_buy_47 rfl (lv_at hl 1 rfl) ?_
  refine lv_iload_n hx hb dX8_buy_48 rfl (lv_at hl 2 rfl) ?_
  refine lv_iload_n hx hb dX8_buy_49 rfl (lv_at hl 3 rfl) ?_
  obtain ⟨r21, w20, hc19, hf⟩ := bnd_some hf
  refine bk_sub (subX_St _ hi18) hB (fun h1 h2 h3 => bk_runV X (Av := [.int p1, .int p2, .int p3]) (rest := []) (mX6_buyLot hc19) yv_X6_buyLot wm_1286 ⟨Nat.le_of_ble_eq_true rfl, Nat.le_of_ble_eq_true rfl⟩ rfl rfl hl.1 kl_X6.1 (hB.1.obj ((subX_St _ hi18).at lc_St_0)) h1 h2 h3 (Nat.le_of_ble_eq_true rfl) ⟨Nat.le_of_ble_eq_true rfl, Nat.le_of_ble_eq_true rfl⟩ dX8_buy_50) (fun H locs hB => ?_)
  refine W.eq (g2 := F0 m 53 ls [.int r21]) rfl ?_
  obtain ⟨v22, ev22⟩ : ∃ y : bM, y = spl w16 (stO i18) 590 w20 := ⟨_, rfl⟩
  have hf := nm_use hf ev22
  rw [← ev22] at hB
  refine lv_pop hx hb dX8_buy_53 rfl ?_
  refine lv_aload_n hx hb dX8_buy_54 rfl (lv_at hl 0 rfl) ?_
  obtain ⟨h23, hf⟩ := ck_some hf
  refine bk_getS X hB kl_X8 0 lc_X_0 0 (by decide) rfl h23 wm_654 dX8_buy_55 ?_
  obtain ⟨i24, ei24⟩ : ∃ y : Nat, y = (v22 0).toNatClampNeg := ⟨_, rfl⟩
  have hf := nm_use hf ei24
  rw [← ei24]
  have hi24 : i24 < 12 := by rw [ei24]; exact vp_lt h23
  refine bk_getI X hB kl_X6 (stC i24 + 0) ((subX_St _ hi24).at lc_St_0) 1 (by decide) rfl wm_224 dX8_buy_58 ?_
  exact bk_iW X hr rfl hf hB (Nat.le_of_ble_eq_true rfl) (Nat.le_of_ble_eq_true rfl) dX8_buy_61
theorem yv_X8_buy : bYv yX8_buy RX8 cX8_buy 4 (some .int) 3 := ⟨⟨rfl, by decide, by decide, rfl⟩, wm_1282, wm_1283, wm_1, wm_1284⟩

def xX8_buy (p1 : Int32) (p2 : Int32) (p3 : Int32) (v : bM) : Option Nat :=
  xr (xX8_requireFlour p1 v) <| bnr (fX8_requireFlour p1 v) fun r2 => xr (xX8_requireRange p2 1 99) <| bnr (fX8_requireRange p2 1 99) fun r4 => xr (xX8_requireRange p3 1 99) <| bnr (fX8_requireRange p3 1 99) fun r6 => ck (v 0) 12 <| nm (v 0).toNatClampNeg fun i8 => bnr (fX6_canBuyLot p1 p2 p3 (vw v (stO i8))) fun r10 => xr (xX8_requireState r10) <| bnr (fX8_requireState r10) fun r12 => none
set_option maxRecDepth 100000 in
set_option maxHeartbeats 4000000 in
theorem mxX8_buy {l : Launch} (hlt : l.stackTraces = false) {p1 : Int32} {p2 : Int32} {p3 : Int32} {v : bM} {r0 : Nat} (hf : xX8_buy p1 p2 p3 v = some r0) : bMetX l yX8_buy cX8_buy 4 (some .int) 8 1 6 LX (fun E a => [.ref a, .int p1, .int p2, .int p3]) v r0 := by
  refine bk_startX (by decide +kernel) wfX (fun _ _ => Nat.le_of_ble_eq_true rfl) ?_
  intro p e s m args below meth c D E a ls H locs X hr hxt hl hB
  have hx := X.1
  have hb := X.2.1
  have hown := X.2.2.2.1
  have hts := X.2.2.2.2.1
  have hl : lv_has ls 4 [(0, .ref a), (1, .int p1), (2, .int p2), (3, .int p3)] := hl
  have hf := (xX8_buy.eq_1 p1 p2 p3 v).symm.trans hf
  refine lv_aload_n hx hb dX8_buy_0 rfl (lv_at hl 0 rfl) ?_
  refine lv_iload_n hx hb dX8_buy_1 rfl (lv_at hl 1 rfl) ?_
  refine xr_cases hf (fun hX => ?_) (fun hf => ?_)
  · exact bk_allX hxt X hB (fun h1 h2 h3 => bk_runVX X (Av := [.int p1]) (rest := []) (mxX8_requireFlour hlt hX) yv_X8_requireFlour wm_920 ⟨Nat.le_of_ble_eq_true rfl, Nat.le_of_ble_eq_true rfl⟩ rfl rfl hl.1 kl_X8.1 (hB.1.obj lc_X_0) h1 h2 h3 (Nat.le_of_ble_eq_true rfl) ⟨Nat.le_of_ble_eq_true rfl, Nat.le_of_ble_eq_true rfl⟩ dX8_buy_2)
  obtain ⟨r2, hc1, hf⟩ := bnr_some hf
  refine bk_all hB (fun h1 h2 h3 => bk_runV X (Av := [.int p1]) (rest := []) (mX8_requireFlour hc1) yv_X8_requireFlour wm_920 ⟨Nat.le_of_ble_eq_true rfl, Nat.le_of_ble_eq_true rfl⟩ rfl rfl hl.1 kl_X8.1 (hB.1.obj lc_X_0) h1 h2 h3 (Nat.le_of_ble_eq_true rfl) ⟨Nat.le_of_ble_eq_true rfl, Nat.le_of_ble_eq_true rfl⟩ dX8_buy_2) (fun H locs hB => ?_)
  refine W.eq (g2 := F0 m 5 ls []) rfl ?_
  refine lv_iload_n hx hb dX8_buy_5 rfl (lv_at hl 2 rfl) ?_
  refine lv_iconst (v := 1) hx hb dX8_buy_6 (by decide) ?_
  refine lv_bipush (v := 99) hx hb dX8_buy_7 (by decide) ?_
  refine xr_cases hf (fun hX => ?_) (fun hf => ?_)
  · exact bk_nonX (v0 := v) hxt X hB (fun h1 h2 h3 => bk_runSX X (Av := [.int p2, .int 1, .int 99]) (rest := []) (mxX8_requireRange hlt hX) ys_X8_requireRange wm_1084 ⟨Nat.le_of_ble_eq_true rfl, Nat.le_of_ble_eq_true rfl⟩ rfl rfl hl.1 h1 h2 h3 (Nat.le_of_ble_eq_true rfl) ⟨Nat.le_of_ble_eq_true rfl, Nat.le_of_ble_eq_true rfl⟩ dX8_buy_9)
  obtain ⟨r4, hc3, hf⟩ := bnr_some hf
  refine bk_non (v0 := v) (w0 := v) hB (fun h1 h2 h3 => bk_runS X (Av := [.int p2, .int 1, .int 99]) (rest := []) (mX8_requireRange hc3) ys_X8_requireRange wm_1084 ⟨Nat.le_of_ble_eq_true rfl, Nat.le_of_ble_eq_true rfl⟩ rfl rfl hl.1 h1 h2 h3 (Nat.le_of_ble_eq_true rfl) ⟨Nat.le_of_ble_eq_true rfl, Nat.le_of_ble_eq_true rfl⟩ dX8_buy_9) (fun H locs hB => ?_)
  refine W.eq (g2 := F0 m 12 ls []) rfl ?_
  refine lv_iload_n hx hb dX8_buy_12 rfl (lv_at hl 3 rfl) ?_
  refine lv_iconst (v := 1) hx hb dX8_buy_13 (by decide) ?_
  refine lv_bipush (v := 99) hx hb dX8_buy_14 (by decide) ?_
  refine xr_cases hf (fun hX => ?_) (fun hf => ?_)
  · exact bk_nonX (v0 := v) hxt X hB (fun h1 h2 h3 => bk_runSX X (Av := [.int p3, .int 1, .int 99]) (rest := []) (mxX8_requireRange hlt hX) ys_X8_requireRange wm_1084 ⟨Nat.le_of_ble_eq_true rfl, Nat.le_of_ble_eq_true rfl⟩ rfl rfl hl.1 h1 h2 h3 (Nat.le_of_ble_eq_true rfl) ⟨Nat.le_of_ble_eq_true rfl, Nat.le_of_ble_eq_true rfl⟩ dX8_buy_16)
  obtain ⟨r6, hc5, hf⟩ := bnr_some hf
  refine bk_non (v0 := v) (w0 := v) hB (fun h1 h2 h3 => bk_runS X (Av := [.int p3, .int 1, .int 99]) (rest := []) (mX8_requireRange hc5) ys_X8_requireRange wm_1084 ⟨Nat.le_of_ble_eq_true rfl, Nat.le_of_ble_eq_true rfl⟩ rfl rfl hl.1 h1 h2 h3 (Nat.le_of_ble_eq_true rfl) ⟨Nat.le_of_ble_eq_true rfl, Nat.le_of_ble_eq_true rfl⟩ dX8_buy_16) (fun H locs hB => ?_)
  refine W.eq (g2 := F0 m 19 ls []) rfl ?_
  refine lv_aload_n hx hb dX8_buy_19 rfl (lv_at hl 0 rfl) ?_
  obtain ⟨h7, hf⟩ := ck_some hf
  refine bk_getS X hB kl_X8 0 lc_X_0 0 (by decide) rfl h7 wm_654 dX8_buy_20 ?_
  obtain ⟨i8, ei8⟩ : ∃ y : Nat, y = (v 0).toNatClampNeg := ⟨_, rfl⟩
  have hf := nm_use hf ei8
  rw [← ei8]
  have hi8 : i8 < 12 := by rw [ei8]; exact vp_lt h7
  refine lv_iload_n hx hb dX8_buy_23 rfl (lv_at hl 1 rfl) ?_
  refine lv_iload_n hx hb dX8_buy_24 rfl (lv_at hl 2 rfl) ?_
  refine lv_iload_n hx hb dX8_buy_25 rfl (lv_at hl 3 rfl) ?_
  obtain ⟨r10, hc9, hf⟩ := bnr_some hf
  refine bk_subR (subX_St _ hi8) hB (fun h1 h2 h3 => bk_runV X (Av := [.int p1, .int p2, .int p3]) (rest := []) (mX6_canBuyLot hc9) yv_X6_canBuyLot wm_1285 ⟨Nat.le_of_ble_eq_true rfl, Nat.le_of_ble_eq_true rfl⟩ rfl rfl hl.1 kl_X6.1 (hB.1.obj ((subX_St _ hi8).at lc_St_0)) h1 h2 h3 (Nat.le_of_ble_eq_true rfl) ⟨Nat.le_of_ble_eq_true rfl, Nat.le_of_ble_eq_true rfl⟩ dX8_buy_26) (fun H locs hB => ?_)
  refine W.eq (g2 := F0 m 29 ls [.int r10]) rfl ?_
  refine xr_cases hf (fun hX => ?_) (fun hf => ?_)
  · exact bk_nonX (v0 := v) hxt X hB (fun h1 h2 h3 => bk_runSX X (Av := [.int r10]) (rest := []) (mxX8_requireState hlt hX) ys_X8_requireState wm_1212 ⟨Nat.le_of_ble_eq_true rfl, Nat.le_of_ble_eq_true rfl⟩ rfl rfl hl.1 h1 h2 h3 (Nat.le_of_ble_eq_true rfl) ⟨Nat.le_of_ble_eq_true rfl, Nat.le_of_ble_eq_true rfl⟩ dX8_buy_29)
  obtain ⟨r12, hc11, hf⟩ := bnr_some hf
  refine bk_non (v0 := v) (w0 := v) hB (fun h1 h2 h3 => bk_runS X (Av := [.int r10]) (rest := []) (mX8_requireState hc11) ys_X8_requireState wm_1212 ⟨Nat.le_of_ble_eq_true rfl, Nat.le_of_ble_eq_true rfl⟩ rfl rfl hl.1 h1 h2 h3 (Nat.le_of_ble_eq_true rfl) ⟨Nat.le_of_ble_eq_true rfl, Nat.le_of_ble_eq_true rfl⟩ dX8_buy_29) (fun H locs hB => ?_)
  refine W.eq (g2 := F0 m 32 ls []) rfl ?_
  cases hf

theorem dX8_setRate_0 : decode cX8_setRate 0 = .ok (.iload_n 1, 1) := by decide +kernel
theorem dX8_setRate_1 : decode cX8_setRate 1 = .ok (.iconst 0, 1) := by decide +kernel
theorem dX8_setRate_2 : decode cX8_setRate 2 = .ok (.bipush 23, 2) := by decide +kernel
theorem dX8_setRate_4 : decode cX8_setRate 4 = .ok (.invokestatic 197, 3) := by decide +kernel
theorem dX8_setRate_7 : decode cX8_setRate 7 = .ok (.iload_n 2, 1) := by decide +kernel
theorem dX8_setRate_8 : decode cX8_setRate 8 = .ok (.iconst 0, 1) := by decide +kernel
theorem dX8_setRate_9 : decode cX8_setRate 9 = .ok (.bipush 20, 2) := by decide +kernel
theorem dX8_setRate_11 : decode cX8_setRate 11 = .ok (.invokestatic 197, 3) := by decide +kernel
theorem dX8_setRate_14 : decode cX8_setRate 14 = .ok (.aload_n 0, 1) := by decide +kernel
theorem dX8_setRate_15 : decode cX8_setRate 15 = .ok (.getfield 22, 3) := by decide +kernel
theorem dX8_setRate_18 : decode cX8_setRate 18 = .ok (.aload_n 0, 1) := by decide +kernel
theorem dX8_setRate_19 : decode cX8_setRate 19 = .ok (.getfield 10, 3) := by decide +kernel
theorem dX8_setRate_22 : decode cX8_setRate 22 = .ok (.invokevirtual 106, 3) := by decide +kernel
theorem dX8_setRate_25 : decode cX8_setRate 25 = .ok (.aload_n 0, 1) := by decide +kernel
theorem dX8_setRate_26 : decode cX8_setRate 26 = .ok (.getfield 10, 3) := by decide +kernel
theorem dX8_setRate_29 : decode cX8_setRate 29 = .ok (.getfield 181, 3) := by decide +kernel
theorem dX8_setRate_32 : decode cX8_setRate 32 = .ok (.getfield 201, 3) := by decide +kernel
theorem dX8_setRate_35 : decode cX8_setRate 35 = .ok (.iload_n 1, 1) := by decide +kernel
theorem dX8_setRate_36 : decode cX8_setRate 36 = .ok (.iaload, 1) := by decide +kernel
theorem dX8_setRate_37 : decode cX8_setRate 37 = .ok (.istore_n 3, 1) := by decide +kernel
theorem dX8_setRate_38 : decode cX8_setRate 38 = .ok (.aload_n 0, 1) := by decide +kernel
theorem dX8_setRate_39 : decode cX8_setRate 39 = .ok (.getfield 10, 3) := by decide +kernel
theorem dX8_setRate_42 : decode cX8_setRate 42 = .ok (.getfield 181, 3) := by decide +kernel
theorem dX8_setRate_45 : decode cX8_setRate 45 = .ok (.getfield 201, 3) := by decide +kernel
theorem dX8_setRate_48 : decode cX8_setRate 48 = .ok (.iload_n 1, 1) := by decide +kernel
theorem dX8_setRate_49 : decode cX8_setRate 49 = .ok (.iload_n 2, 1) := by decide +kernel
theorem dX8_setRate_50 : decode cX8_setRate 50 = .ok (.iastore, 1) := by decide +kernel
theorem dX8_setRate_51 : decode cX8_setRate 51 = .ok (.iload_n 3, 1) := by decide +kernel
theorem dX8_setRate_52 : decode cX8_setRate 52 = .ok (.ireturn, 1) := by decide +kernel
def fX8_setRate (p1 : Int32) (p2 : Int32) (v : bM) : Option (Int32 × bM) :=
  bnr (fX8_requireRange p1 0 23) fun r2 => bnr (fX8_requireRange p2 0 20) fun r4 => ck (v 0) 12 <| nm (v 0).toNatClampNeg fun i6 => bnw (fX3_remember i6 v) fun w8 => ck (w8 0) 12 <| nm (w8 0).toNatClampNeg fun i10 => ck p1 24 <| nm (w8 (stO i10 + 253 + p1.toNatClampNeg)) fun x12 => ck (w8 0) 12 <| nm (w8 0).toNatClampNeg fun i14 => ck p1 24 <| nm (upd w8 (stO i14 + 253 + p1.toNatClampNeg) p2) fun v16 => some (x12, v16)
set_option maxRecDepth 100000 in
set_option maxHeartbeats 4000000 in
theorem mX8_setRate {l : Launch} {p1 : Int32} {p2 : Int32} {v : bM} {r0 : Int32} {w0 : bM} (hf : fX8_setRate p1 p2 v = some (r0, w0)) : bMet l yX8_setRate cX8_setRate 4 (some .int) 5 0 0 LX (fun E a => [.ref a, .int p1, .int p2]) v w0 (fun _ => some (.int r0)) := by
  refine bk_start (by decide +kernel) wfX (fun _ _ => Nat.le_of_ble_eq_true rfl) ?_
  intro p e s m args below meth c D E a ls H locs X hr hl hB
  have hx := X.1
  have hb := X.2.1
  have hown := X.2.2.2.1
  have hts := X.2.2.2.2.1
  have hl : lv_has ls 4 [(0, .ref a), (1, .int p1), (2, .int p2)] := hl
  have hf := (fX8_setRate.eq_1 p1 p2 v).symm.trans hf
  refine lv_iload_n hx hb dX8_setRate_0 rfl (lv_at hl 1 rfl) ?_
  refine lv_iconst (v := 0) hx hb dX8_setRate_1 (by decide) ?_
  refine lv_bipush (v := 23) hx hb dX8_setRate_2 (by decide) ?_
  obtain ⟨r2, hc1, hf⟩ := bnr_some hf
  refine bk_non (v0 := v) (w0 := v) hB (fun h1 h2 h3 => bk_runS X (Av := [.int p1, .int 0, .int 23]) (rest := []) (mX8_requireRange hc1) ys_X8_requireRange wm_1084 ⟨Nat.le_of_ble_eq_true rfl, Nat.le_of_ble_eq_true rfl⟩ rfl rfl hl.1 h1 h2 h3 (Nat.le_of_ble_eq_true rfl) ⟨Nat.le_of_ble_eq_true rfl, Nat.le_of_ble_eq_true rfl⟩ dX8_setRate_4) (fun H locs hB => ?_)
  refine W.eq (g2 := F0 m 7 ls []) rfl ?_
  refine lv_iload_n hx hb dX8_setRate_7 rfl (lv_at hl 2 rfl) ?_
  refine lv_iconst (v := 0) hx hb dX8_setRate_8 (by decide) ?_
  refine lv_bipush (v := 20) hx hb dX8_setRate_9 (by decide) ?_
  obtain ⟨r4, hc3, hf⟩ := bnr_some hf
  refine bk_non (v0 := v) (w0 := v) hB (fun h1 h2 h3 => bk_runS X (Av := [.int p2, .int 0, .int 20]) (rest := []) (mX8_requireRange hc3) ys_X8_requireRange wm_1084 ⟨Nat.le_of_ble_eq_true rfl, Nat.le_of_ble_eq_true rfl⟩ rfl rfl hl.1 h1 h2 h3 (Nat.le_of_ble_eq_true rfl) ⟨Nat.le_of_ble_eq_true rfl, Nat.le_of_ble_eq_true rfl⟩ dX8_setRate_11) (fun H locs hB => ?_)
  refine W.eq (g2 := F0 m 14 ls []) rfl ?_
  refine lv_aload_n hx hb dX8_setRate_14 rfl (lv_at hl 0 rfl) ?_
  refine bk_getR X hB kl_X8 0 lc_X_0 2 (by decide) rfl wm_656 dX8_setRate_15 ?_
  refine lv_aload_n hx hb dX8_setRate_18 rfl (lv_at hl 0 rfl) ?_
  obtain ⟨h5, hf⟩ := ck_some hf
  refine bk_getS X hB kl_X8 0 lc_X_0 0 (by decide) rfl h5 wm_654 dX8_setRate_19 ?_
  obtain ⟨i6, ei6⟩ : ∃ y : Nat, y = (v 0).toNatClampNeg := ⟨_, rfl⟩
  have hf := nm_use hf ei6
  rw [← ei6]
  have hi6 : i6 < 12 := by rw [ei6]; exact vp_lt h5
  obtain ⟨w8, hc7, hf⟩ := bnw_some hf
  refine bk_all hB (fun h1 h2 h3 => bk_runV X (Av := [.ref (a + (stC i6 + 0))]) (rest := []) (mX3_remember hc7) yv_X3_remember wm_733 ⟨Nat.le_of_ble_eq_true rfl, Nat.le_of_ble_eq_true rfl⟩ rfl rfl hl.1 kl_X3.1 (hB.1.obj lc_X_143) h1 h2 h3 (Nat.le_of_ble_eq_true rfl) ⟨Nat.le_of_ble_eq_true rfl, Nat.le_of_ble_eq_true rfl⟩ dX8_setRate_22) (fun H locs hB => ?_)
  refine W.eq (g2 := F0 m 25 ls []) rfl ?_
  refine lv_aload_n hx hb dX8_setRate_25 rfl (lv_at hl 0 rfl) ?_
  obtain ⟨h9, hf⟩ := ck_some hf
  refine bk_getS X hB kl_X8 0 lc_X_0 0 (by decide) rfl h9 wm_654 dX8_setRate_26 ?_
  obtain ⟨i10, ei10⟩ : ∃ y : Nat, y = (w8 0).toNatClampNeg := ⟨_, rfl⟩
  have hf := nm_use hf ei10
  rw [← ei10]
  have hi10 : i10 < 12 := by rw [ei10]; exact vp_lt h9
  refine bk_getR X hB kl_X6 (stC i10 + 0) ((subX_St _ hi10).at lc_St_0) 8 (by decide) rfl wm_239 dX8_setRate_29 ?_
  refine bk_getR X hB kl_X5 (stC i10 + 34) ((subX_St _ hi10).at lc_St_34) 3 (by decide) rfl wm_152 dX8_setRate_32 ?_
  refine lv_iload_n hx hb dX8_setRate_35 rfl (lv_at hl 1 rfl) ?_
  obtain ⟨h11, hf⟩ := ck_some hf
  refine bk_ald X hB (stC i10 + 36) ((subX_St _ hi10).at lc_St_36) h11 dX8_setRate_36 ?_
  refine lv_topi (fun x12 ex12 => ?_)
  have hf := nm_use hf ex12
  refine lv_istore_n (lv' := [(3, .int x12), (0, .ref a), (1, .int p1), (2, .int p2)]) hx hb dX8_setRate_37 rfl hl (by decide) rfl (fun ls hl => ?_)
  refine lv_aload_n hx hb dX8_setRate_38 rfl (lv_at hl 1 rfl) ?_
  obtain ⟨h13, hf⟩ := ck_some hf
  refine bk_getS X hB kl_X8 0 lc_X_0 0 (by decide) rfl h13 wm_654 dX8_setRate_39 ?_
  obtain ⟨i14, ei14⟩ : ∃ y : Nat, y = (w8 0).toNatClampNeg := ⟨_, rfl⟩
  have hf := nm_use hf ei14
  rw [← ei14]
  have hi14 : i14 < 12 := by rw [ei14]; exact vp_lt h13
  refine bk_getR X hB kl_X6 (stC i14 + 0) ((subX_St _ hi14).at lc_St_0) 8 (by decide) rfl wm_239 dX8_setRate_42 ?_
  refine bk_getR X hB kl_X5 (stC i14 + 34) ((subX_St _ hi14).at lc_St_34) 3 (by decide) rfl wm_152 dX8_setRate_45 ?_
  refine lv_iload_n hx hb dX8_setRate_48 rfl (lv_at hl 2 rfl) ?_
  refine lv_iload_n hx hb dX8_setRate_49 rfl (lv_at hl 3 rfl) ?_
  obtain ⟨h15, hf⟩ := ck_some hf
  refine bk_ast X hB (stC i14 + 36) ((subX_St _ hi14).at lc_St_36) h15 dX8_setRate_50 (fun H locs hB => ?_)
  obtain ⟨v16, ev16⟩ : ∃ y : bM, y = upd w8 (stO i14 + 253 + p1.toNatClampNeg) p2 := ⟨_, rfl⟩
  have hf := nm_use hf ev16
  rw [← ev16] at hB
  refine lv_iload_n hx hb dX8_setRate_51 rfl (lv_at hl 0 rfl) ?_
  exact bk_iW X hr rfl hf hB (Nat.le_of_ble_eq_true rfl) (Nat.le_of_ble_eq_true rfl) dX8_setRate_52
theorem yv_X8_setRate : bYv yX8_setRate RX8 cX8_setRate 4 (some .int) 2 := ⟨⟨rfl, by decide, by decide, rfl⟩, wm_1291, wm_1292, wm_1, wm_1293⟩

def xX8_setRate (p1 : Int32) (p2 : Int32) (v : bM) : Option Nat :=
  xr (xX8_requireRange p1 0 23) <| bnr (fX8_requireRange p1 0 23) fun r2 => xr (xX8_requireRange p2 0 20) <| bnr (fX8_requireRange p2 0 20) fun r4 => none
set_option maxRecDepth 100000 in
set_option maxHeartbeats 4000000 in
theorem mxX8_setRate {l : Launch} (hlt : l.stackTraces = false) {p1 : Int32} {p2 : Int32} {v : bM} {r0 : Nat} (hf : xX8_setRate p1 p2 v = some r0) : bMetX l yX8_setRate cX8_setRate 4 (some .int) 7 1 6 LX (fun E a => [.ref a, .int p1, .int p2]) v r0 := by
  refine bk_startX (by decide +kernel) wfX (fun _ _ => Nat.le_of_ble_eq_true rfl) ?_
  intro p e s m args below meth c D E a ls H locs X hr hxt hl hB
  have hx := X.1
  have hb := X.2.1
  have hown := X.2.2.2.1
  have hts := X.2.2.2.2.1
  have hl : lv_has ls 4 [(0, .ref a), (1, .int p1), (2, .int p2)] := hl
  have hf := (xX8_setRate.eq_1 p1 p2 v).symm.trans hf
  refine lv_iload_n hx hb dX8_setRate_0 rfl (lv_at hl 1 rfl) ?_
  refine lv_iconst (v := 0) hx hb dX8_setRate_1 (by decide) ?_
  refine lv_bipush (v := 23) hx hb dX8_setRate_2 (by decide) ?_
  refine xr_cases hf (fun hX => ?_) (fun hf => ?_)
  · exact bk_nonX (v0 := v) hxt X hB (fun h1 h2 h3 => bk_runSX X (Av := [.int p1, .int 0, .int 23]) (rest := []) (mxX8_requireRange hlt hX) ys_X8_requireRange wm_1084 ⟨Nat.le_of_ble_eq_true rfl, Nat.le_of_ble_eq_true rfl⟩ rfl rfl hl.1 h1 h2 h3 (Nat.le_of_ble_eq_true rfl) ⟨Nat.le_of_ble_eq_true rfl, Nat.le_of_ble_eq_true rfl⟩ dX8_setRate_4)
  obtain ⟨r2, hc1, hf⟩ := bnr_some hf
  refine bk_non (v0 := v) (w0 := v) hB (fun h1 h2 h3 => bk_runS X (Av := [.int p1, .int 0, .int 23]) (rest := []) (mX8_requireRange hc1) ys_X8_requireRange wm_1084 ⟨Nat.le_of_ble_eq_true rfl, Nat.le_of_ble_eq_true rfl⟩ rfl rfl hl.1 h1 h2 h3 (Nat.le_of_ble_eq_true rfl) ⟨Nat.le_of_ble_eq_true rfl, Nat.le_of_ble_eq_true rfl⟩ dX8_setRate_4) (fun H locs hB => ?_)
  refine W.eq (g2 := F0 m 7 ls []) rfl ?_
  refine lv_iload_n hx hb dX8_setRate_7 rfl (lv_at hl 2 rfl) ?_
  refine lv_iconst (v := 0) hx hb dX8_setRate_8 (by decide) ?_
  refine lv_bipush (v := 20) hx hb dX8_setRate_9 (by decide) ?_
  refine xr_cases hf (fun hX => ?_) (fun hf => ?_)
  · exact bk_nonX (v0 := v) hxt X hB (fun h1 h2 h3 => bk_runSX X (Av := [.int p2, .int 0, .int 20]) (rest := []) (mxX8_requireRange hlt hX) ys_X8_requireRange wm_1084 ⟨Nat.le_of_ble_eq_true rfl, Nat.le_of_ble_eq_true rfl⟩ rfl rfl hl.1 h1 h2 h3 (Nat.le_of_ble_eq_true rfl) ⟨Nat.le_of_ble_eq_true rfl, Nat.le_of_ble_eq_true rfl⟩ dX8_setRate_11)
  obtain ⟨r4, hc3, hf⟩ := bnr_some hf
  refine bk_non (v0 := v) (w0 := v) hB (fun h1 h2 h3 => bk_runS X (Av := [.int p2, .int 0, .int 20]) (rest := []) (mX8_requireRange hc3) ys_X8_requireRange wm_1084 ⟨Nat.le_of_ble_eq_true rfl, Nat.le_of_ble_eq_true rfl⟩ rfl rfl hl.1 h1 h2 h3 (Nat.le_of_ble_eq_true rfl) ⟨Nat.le_of_ble_eq_true rfl, Nat.le_of_ble_eq_true rfl⟩ dX8_setRate_11) (fun H locs hB => ?_)
  refine W.eq (g2 := F0 m 14 ls []) rfl ?_
  cases hf

theorem dX8_bake_0 : decode cX8_bake 0 = .ok (.aload_n 0, 1) := by decide +kernel
theorem dX8_bake_1 : decode cX8_bake 1 = .ok (.iload_n 1, 1) := by decide +kernel
theorem dX8_bake_2 : decode cX8_bake 2 = .ok (.invokevirtual 163, 3) := by decide +kernel
theorem dX8_bake_5 : decode cX8_bake 5 = .ok (.iload_n 2, 1) := by decide +kernel
theorem dX8_bake_6 : decode cX8_bake 6 = .ok (.iload 4, 2) := by decide +kernel
theorem dX8_bake_8 : decode cX8_bake 8 = .ok (.iload 5, 2) := by decide +kernel
theorem dX8_bake_10 : decode cX8_bake 10 = .ok (.invokestatic 257, 3) := by decide +kernel
theorem dX8_bake_13 : decode cX8_bake 13 = .ok (.iload_n 3, 1) := by decide +kernel
theorem dX8_bake_14 : decode cX8_bake 14 = .ok (.iconst 0, 1) := by decide +kernel
theorem dX8_bake_15 : decode cX8_bake 15 = .ok (.iload_n 2, 1) := by decide +kernel
theorem dX8_bake_16 : decode cX8_bake 16 = .ok (.invokestatic 197, 3) := by decide +kernel
theorem dX8_bake_19 : decode cX8_bake 19 = .ok (.aload_n 0, 1) := by decide +kernel
theorem dX8_bake_20 : decode cX8_bake 20 = .ok (.getfield 10, 3) := by decide +kernel
theorem dX8_bake_23 : decode cX8_bake 23 = .ok (.iload_n 1, 1) := by decide +kernel
theorem dX8_bake_24 : decode cX8_bake 24 = .ok (.iload_n 2, 1) := by decide +kernel
theorem dX8_bake_25 : decode cX8_bake 25 = .ok (.iload 4, 2) := by decide +kernel
theorem dX8_bake_27 : decode cX8_bake 27 = .ok (.iload 5, 2) := by decide +kernel
theorem dX8_bake_29 : decode cX8_bake 29 = .ok (.invokevirtual 260, 3) := by decide +kernel
theorem dX8_bake_32 : decode cX8_bake 32 = .ok (.ifCond .ne 7, 3) := by decide +kernel
theorem dX8_bake_35 : decode cX8_bake 35 = .ok (.iconst 1, 1) := by decide +kernel
theorem dX8_bake_36 : decode cX8_bake 36 = .ok (.goto 4, 3) := by decide +kernel
theorem dX8_bake_39 : decode cX8_bake 39 = .ok (.iconst 0, 1) := by decide +kernel
theorem dX8_bake_40 : decode cX8_bake 40 = .ok (.invokestatic 264, 3) := by decide +kernel
theorem dX8_bake_43 : decode cX8_bake 43 = .ok (.aload_n 0, 1) := by decide +kernel
theorem dX8_bake_44 : decode cX8_bake 44 = .ok (.getfield 22, 3) := by decide +kernel
theorem dX8_bake_47 : decode cX8_bake 47 = .ok (.aload_n 0, 1) := by decide +kernel
theorem dX8_bake_48 : decode cX8_bake 48 = .ok (.getfield 10, 3) := by decide +kernel
theorem dX8_bake_51 : decode cX8_bake 51 = .ok (.invokevirtual 106, 3) := by decide +kernel
theorem dX8_bake_54 : decode cX8_bake 54 = .ok (.aload_n 0, 1) := by decide +kernel
theorem dX8_bake_55 : decode cX8_bake 55 = .ok (.getfield 10, 3) := by decide +kernel
theorem dX8_bake_58 : decode cX8_bake 58 = .ok (.iload_n 1, 1) := by decide +kernel
theorem dX8_bake_59 : decode cX8_bake 59 = .ok (.iload_n 2, 1) := by decide +kernel
theorem dX8_bake_60 : decode cX8_bake 60 = .ok (.iload_n 3, 1) := by decide +kernel
theorem dX8_bake_61 : decode cX8_bake 61 = .ok (.iload 4, 2) := by decide +kernel
theorem dX8_bake_63 : decode cX8_bake 63 = .ok (.iload 5, 2) := by decide +kernel
theorem dX8_bake_65 : decode cX8_bake 65 = .ok (.invokevirtual 322, 3) := by decide +kernel
theorem dX8_bake_68 : decode cX8_bake 68 = .ok (.ireturn, 1) := by decide +kernel
def fX8_bake_J40 (p1 : Int32) (p2 : Int32) (p3 : Int32) (p4 : Int32) (p5 : Int32) (y11 : Int32) (v12 : bM) : Option (Int32 × bM) :=
  bnr (fX8_requireState y11) fun r14 => ck (v12 0) 12 <| nm (v12 0).toNatClampNeg fun i16 => bnw (fX3_remember i16 v12) fun w18 => ck (w18 0) 12 <| nm (w18 0).toNatClampNeg fun i20 => bnd (fX6_bakeBatch p1 p2 p3 p4 p5 (vw w18 (stO i20))) fun r23 w22 => nm (spl w18 (stO i20) 590 w22) fun v24 => some (r23, v24)
def fX8_bake (p1 : Int32) (p2 : Int32) (p3 : Int32) (p4 : Int32) (p5 : Int32) (v : bM) : Option (Int32 × bM) :=
  bnr (fX8_requireBread p1 v) fun r2 => bnr (fX8_requirePlan p2 p4 p5) fun r4 => bnr (fX8_requireRange p3 0 p2) fun r6 => ck (v 0) 12 <| nm (v 0).toNatClampNeg fun i8 => bnr (fX6_obstacle p1 p2 p4 p5 (vw v (stO i8))) fun r10 => (if r10 = 0 then (fX8_bake_J40 p1 p2 p3 p4 p5 1 v) else (fX8_bake_J40 p1 p2 p3 p4 p5 0 v))
set_option maxRecDepth 100000 in
set_option maxHeartbeats 4000000 in
theorem mX8_bake {l : Launch} {p1 : Int32} {p2 : Int32} {p3 : Int32} {p4 : Int32} {p5 : Int32} {v : bM} {r0 : Int32} {w0 : bM} (hf : fX8_bake p1 p2 p3 p4 p5 v = some (r0, w0)) : bMet l yX8_bake cX8_bake 6 (some .int) 5 0 0 LX (fun E a => [.ref a, .int p1, .int p2, .int p3, .int p4, .int p5]) v w0 (fun _ => some (.int r0)) := by
  refine bk_start (by decide +kernel) wfX (fun _ _ => Nat.le_of_ble_eq_true rfl) ?_
  intro p e s m args below meth c D E a ls H locs X hr hl hB
  have hx := X.1
  have hb := X.2.1
  have hown := X.2.2.2.1
  have hts := X.2.2.2.2.1
  have hl : lv_has ls 6 [(0, .ref a), (1, .int p1), (2, .int p2), (3, .int p3), (4, .int p4), (5, .int p5)] := hl
  have hf := (fX8_bake.eq_1 p1 p2 p3 p4 p5 v).symm.trans hf
  refine lv_aload_n hx hb dX8_bake_0 rfl (lv_at hl 0 rfl) ?_
  refine lv_iload_n hx hb dX8_bake_1 rfl (lv_at hl 1 rfl) ?_
  obtain ⟨r2, hc1, hf⟩ := bnr_some hf
  refine bk_all hB (fun h1 h2 h3 => bk_runV X (Av := [.int p1]) (rest := []) (mX8_requireBread hc1) yv_X8_requireBread wm_1037 ⟨Nat.le_of_ble_eq_true rfl, Nat.le_of_ble_eq_true rfl⟩ rfl rfl hl.1 kl_X8.1 (hB.1.obj lc_X_0) h1 h2 h3 (Nat.le_of_ble_eq_true rfl) ⟨Nat.le_of_ble_eq_true rfl, Nat.le_of_ble_eq_true rfl⟩ dX8_bake_2) (fun H locs hB => ?_)
  refine W.eq (g2 := F0 m 5 ls []) rfl ?_
  refine lv_iload_n hx hb dX8_bake_5 rfl (lv_at hl 2 rfl) ?_
  refine lv_iload hx hb dX8_bake_6 (lv_at hl 4 rfl) ?_
  refine lv_iload hx hb dX8_bake_8 (lv_at hl 5 rfl) ?_
  obtain ⟨r4, hc3, hf⟩ := bnr_some hf
  refine bk_non (v0 := v) (w0 := v) hB (fun h1 h2 h3 => bk_runS X (Av := [.int p2, .int p4, .int p5]) (rest := []) (mX8_requirePlan hc3) ys_X8_requirePlan wm_1200 ⟨Nat.le_of_ble_eq_true rfl, Nat.le_of_ble_eq_true rfl⟩ rfl rfl hl.1 h1 h2 h3 (Nat.le_of_ble_eq_true rfl) ⟨Nat.le_of_ble_eq_true rfl, Nat.le_of_ble_eq_true rfl⟩ dX8_bake_10) (fun H locs hB => ?_)
  refine W.eq (g2 := F0 m 13 ls []) rfl ?_
  refine lv_iload_n hx hb dX8_bake_13 rfl (lv_at hl 3 rfl) ?_
  refine lv_iconst (v := 0) hx hb dX8_bake_14 (by decide) ?_
  refine lv_iload_n hx hb dX8_bake_15 rfl (lv_at hl 2 rfl) ?_
  obtain ⟨r6, hc5, hf⟩ := bnr_some hf
  refine bk_non (v0 := v) (w0 := v) hB (fun h1 h2 h3 => bk_runS X (Av := [.int p3, .int 0, .int p2]) (rest := []) (mX8_requireRange hc5) ys_X8_requireRange wm_1084 ⟨Nat.le_of_ble_eq_true rfl, Nat.le_of_ble_eq_true rfl⟩ rfl rfl hl.1 h1 h2 h3 (Nat.le_of_ble_eq_true rfl) ⟨Nat.le_of_ble_eq_true rfl, Nat.le_of_ble_eq_true rfl⟩ dX8_bake_16) (fun H locs hB => ?_)
  refine W.eq (g2 := F0 m 19 ls []) rfl ?_
  refine lv_aload_n hx hb dX8_bake_19 rfl (lv_at hl 0 rfl) ?_
  obtain ⟨h7, hf⟩ := ck_some hf
  refine bk_getS X hB kl_X8 0 lc_X_0 0 (by decide) rfl h7 wm_654 dX8_bake_20 ?_
  obtain ⟨i8, ei8⟩ : ∃ y : Nat, y = (v 0).toNatClampNeg := ⟨_, rfl⟩
  have hf := nm_use hf ei8
  rw [← ei8]
  have hi8 : i8 < 12 := by rw [ei8]; exact vp_lt h7
  refine lv_iload_n hx hb dX8_bake_23 rfl (lv_at hl 1 rfl) ?_
  refine lv_iload_n hx hb dX8_bake_24 rfl (lv_at hl 2 rfl) ?_
  refine lv_iload hx hb dX8_bake_25 (lv_at hl 4 rfl) ?_
  refine lv_iload hx hb dX8_bake_27 (lv_at hl 5 rfl) ?_
  obtain ⟨r10, hc9, hf⟩ := bnr_some hf
  refine bk_subR (subX_St _ hi8) hB (fun h1 h2 h3 => bk_runV X (Av := [.int p1, .int p2, .int p4, .int p5]) (rest := []) (mX6_obstacle hc9) yv_X6_obstacle wm_1203 ⟨Nat.le_of_ble_eq_true rfl, Nat.le_of_ble_eq_true rfl⟩ rfl rfl hl.1 kl_X6.1 (hB.1.obj ((subX_St _ hi8).at lc_St_0)) h1 h2 h3 (Nat.le_of_ble_eq_true rfl) ⟨Nat.le_of_ble_eq_true rfl, Nat.le_of_ble_eq_true rfl⟩ dX8_bake_29) (fun H locs hB => ?_)
  refine W.eq (g2 := F0 m 32 ls [.int r10]) rfl ?_
  have hJ40 : ∀ (y11 : Int32) (v12 : bM) (H : Heap) (locs : List Loc) (ls : Array Slot), fX8_bake_J40 p1 p2 p3 p4 p5 y11 v12 = some (r0, w0) → bB D E LX a v12 s H locs → lv_has ls 6 [(0, .ref a), (1, .int p1), (2, .int p2), (3, .int p3), (4, .int p4), (5, .int p5)] → W p l e (rmOf 5 0 0) s m args below meth c H locs 0 0 (bQ below D E LX a w0 (some (.int r0)) args s 0 0) (F0 m 40 ls [.int y11]) := by
    intro y11 v12 H locs ls hf hB hl
    have hf := (fX8_bake_J40.eq_1 p1 p2 p3 p4 p5 y11 v12).symm.trans hf
    obtain ⟨r14, hc13, hf⟩ := bnr_some hf
    refine bk_non (v0 := v12) (w0 := v12) hB (fun h1 h2 h3 => bk_runS X (Av := [.int y11]) (rest := []) (mX8_requireState hc13) ys_X8_requireState wm_1212 ⟨Nat.le_of_ble_eq_true rfl, Nat.le_of_ble_eq_true rfl⟩ rfl rfl hl.1 h1 h2 h3 (Nat.le_of_ble_eq_true rfl) ⟨Nat.le_of_ble_eq_true rfl, Nat.le_of_ble_eq_true rfl⟩ dX8_bake_40) (fun H locs hB => ?_)
    refine W.eq (g2 := F0 m 43 ls []) rfl ?_
    refine lv_aload_n hx hb dX8_bake_43 rfl (lv_at hl 0 rfl) ?_
    refine bk_getR X hB kl_X8 0 lc_X_0 2 (by decide) rfl wm_656 dX8_bake_44 ?_
    refine lv_aload_n hx hb dX8_bake_47 rfl (lv_at hl 0 rfl) ?_
    obtain ⟨h15, hf⟩ := ck_some hf
    refine bk_getS X hB kl_X8 0 lc_X_0 0 (by decide) rfl h15 wm_654 dX8_bake_48 ?_
    obtain ⟨i16, ei16⟩ : ∃ y : Nat, y = (v12 0).toNatClampNeg := ⟨_, rfl⟩
    have hf := nm_use hf ei16
    rw [← ei16]
    have hi16 : i16 < 12 := by rw [ei16]; exact vp_lt h15
    obtain ⟨w18, hc17, hf⟩ := bnw_some hf
    refine bk_all hB (fun h1 h2 h3 => bk_runV X (Av := [.ref (a + (stC i16 + 0))]) (rest := []) (mX3_remember hc17) yv_X3_remember wm_733 ⟨Nat.le_of_ble_eq_true rfl, Nat.le_of_ble_eq_true rfl⟩ rfl rfl hl.1 kl_X3.1 (hB.1.obj lc_X_143) h1 h2 h3 (Nat.le_of_ble_eq_true rfl) ⟨Nat.le_of_ble_eq_true rfl, Nat.le_of_ble_eq_true rfl⟩ dX8_bake_51) (fun H locs hB => ?_)
    refine W.eq (g2 := F0 m 54 ls []) rfl ?_
    refine lv_aload_n hx hb dX8_bake_54 rfl (lv_at hl 0 rfl) ?_
    obtain ⟨h19, hf⟩ := ck_some hf
    refine bk_getS X hB kl_X8 0 lc_X_0 0 (by decide) rfl h19 wm_654 dX8_bake_55 ?_
    obtain ⟨i20, ei20⟩ : ∃ y : Nat, y = (w18 0).toNatClampNeg := ⟨_, rfl⟩
    have hf := nm_use hf ei20
    rw [← ei20]
    have hi20 : i20 < 12 := by rw [ei20]; exact vp_lt h19
    refine lv_iload_n hx hb dX8_bake_58 rfl (lv_at hl 1 rfl) ?_
    refine lv_iload_n hx hb dX8_bake_59 rfl (lv_at hl 2 rfl) ?_
    refine lv_iload_n hx hb dX8_bake_60 rfl (lv_at hl 3 rfl) ?_
    refine lv_iload hx hb dX8_bake_61 (lv_at hl 4 rfl) ?_
    refine lv_iload hx hb dX8_bake_63 (lv_at hl 5 rfl) ?_
    obtain ⟨r23, w22, hc21, hf⟩ := bnd_some hf
    refine bk_sub (subX_St _ hi20) hB (fun h1 h2 h3 => bk_runV X (Av := [.int p1, .int p2, .int p3, .int p4, .int p5]) (rest := []) (mX6_bakeBatch hc21) yv_X6_bakeBatch wm_1301 ⟨Nat.le_of_ble_eq_true rfl, Nat.le_of_ble_eq_true rfl⟩ rfl rfl hl.1 kl_X6.1 (hB.1.obj ((subX_St _ hi20).at lc_St_0)) h1 h2 h3 (Nat.le_of_ble_eq_true rfl) ⟨Nat.le_of_ble_eq_true rfl, Nat.le_of_ble_eq_true rfl⟩ dX8_bake_65) (fun H locs hB => ?_)
    refine W.eq (g2 := F0 m 68 ls [.int r23]) rfl ?_
    obtain ⟨v24, ev24⟩ : ∃ y : bM, y = spl w18 (stO i20) 590 w22 := ⟨_, rfl⟩
    have hf := nm_use hf ev24
    rw [← ev24] at hB
    exact bk_iW X hr rfl hf hB (Nat.le_of_ble_eq_true rfl) (Nat.le_of_ble_eq_true rfl) dX8_bake_68
  refine lv_if_ne (tgt := 39) hx hb dX8_bake_32 (by decide) (fun c25 => ?_) (fun c25 => ?_)
  · have hf := (if_neg c25).symm.trans hf
    refine lv_iconst (v := 0) hx hb dX8_bake_39 (by decide) ?_
    exact hJ40 0 v H locs ls hf hB (lv_sub hl [0, 1, 2, 3, 4, 5] rfl)
  · have hf := (if_pos c25).symm.trans hf
    refine lv_iconst (v := 1) hx hb dX8_bake_35 (by decide) ?_
    refine lv_goto (tgt := 40) hx hb dX8_bake_36 (by decide) ?_
    exact hJ40 1 v H locs ls hf hB (lv_sub hl [0, 1, 2, 3, 4, 5] rfl)
theorem yv_X8_bake : bYv yX8_bake RX8 cX8_bake 6 (some .int) 5 := ⟨⟨rfl, by decide, by decide, rfl⟩, wm_1298, wm_1299, wm_1, wm_1300⟩

def xX8_bake_J40  (y11 : Int32) : Option Nat :=
  xr (xX8_requireState y11) <| bnr (fX8_requireState y11) fun r13 => none
def xX8_bake (p1 : Int32) (p2 : Int32) (p3 : Int32) (p4 : Int32) (p5 : Int32) (v : bM) : Option Nat :=
  xr (xX8_requireBread p1 v) <| bnr (fX8_requireBread p1 v) fun r2 => xr (xX8_requirePlan p2 p4 p5) <| bnr (fX8_requirePlan p2 p4 p5) fun r4 => xr (xX8_requireRange p3 0 p2) <| bnr (fX8_requireRange p3 0 p2) fun r6 => ck (v 0) 12 <| nm (v 0).toNatClampNeg fun i8 => bnr (fX6_obstacle p1 p2 p4 p5 (vw v (stO i8))) fun r10 => (if r10 = 0 then (xX8_bake_J40 1) else (xX8_bake_J40 0))
set_option maxRecDepth 100000 in
set_option maxHeartbeats 4000000 in
theorem mxX8_bake {l : Launch} (hlt : l.stackTraces = false) {p1 : Int32} {p2 : Int32} {p3 : Int32} {p4 : Int32} {p5 : Int32} {v : bM} {r0 : Nat} (hf : xX8_bake p1 p2 p3 p4 p5 v = some r0) : bMetX l yX8_bake cX8_bake 6 (some .int) 8 1 6 LX (fun E a => [.ref a, .int p1, .int p2, .int p3, .int p4, .int p5]) v r0 := by
  refine bk_startX (by decide +kernel) wfX (fun _ _ => Nat.le_of_ble_eq_true rfl) ?_
  intro p e s m args below meth c D E a ls H locs X hr hxt hl hB
  have hx := X.1
  have hb := X.2.1
  have hown := X.2.2.2.1
  have hts := X.2.2.2.2.1
  have hl : lv_has ls 6 [(0, .ref a), (1, .int p1), (2, .int p2), (3, .int p3), (4, .int p4), (5, .int p5)] := hl
  have hf := (xX8_bake.eq_1 p1 p2 p3 p4 p5 v).symm.trans hf
  refine lv_aload_n hx hb dX8_bake_0 rfl (lv_at hl 0 rfl) ?_
  refine lv_iload_n hx hb dX8_bake_1 rfl (lv_at hl 1 rfl) ?_
  refine xr_cases hf (fun hX => ?_) (fun hf => ?_)
  · exact bk_allX hxt X hB (fun h1 h2 h3 => bk_runVX X (Av := [.int p1]) (rest := []) (mxX8_requireBread hlt hX) yv_X8_requireBread wm_1037 ⟨Nat.le_of_ble_eq_true rfl, Nat.le_of_ble_eq_true rfl⟩ rfl rfl hl.1 kl_X8.1 (hB.1.obj lc_X_0) h1 h2 h3 (Nat.le_of_ble_eq_true rfl) ⟨Nat.le_of_ble_eq_true rfl, Nat.le_of_ble_eq_true rfl⟩ dX8_bake_2)
  obtain ⟨r2, hc1, hf⟩ := bnr_some hf
  refine bk_all hB (fun h1 h2 h3 => bk_runV X (Av := [.int p1]) (rest := []) (mX8_requireBread hc1) yv_X8_requireBread wm_1037 ⟨Nat.le_of_ble_eq_true rfl, Nat.le_of_ble_eq_true rfl⟩ rfl rfl hl.1 kl_X8.1 (hB.1.obj lc_X_0) h1 h2 h3 (Nat.le_of_ble_eq_true rfl) ⟨Nat.le_of_ble_eq_true rfl, Nat.le_of_ble_eq_true rfl⟩ dX8_bake_2) (fun H locs hB => ?_)
  refine W.eq (g2 := F0 m 5 ls []) rfl ?_
  refine lv_iload_n hx hb dX8_bake_5 rfl (lv_at hl 2 rfl) ?_
  refine lv_iload hx hb dX8_bake_6 (lv_at hl 4 rfl) ?_
  refine lv_iload hx hb dX8_bake_8 (lv_at hl 5 rfl) ?_
  refine xr_cases hf (fun hX => ?_) (fun hf => ?_)
  · exact bk_nonX (v0 := v) hxt X hB (fun h1 h2 h3 => bk_runSX X (Av := [.int p2, .int p4, .int p5]) (rest := []) (mxX8_requirePlan hlt hX) ys_X8_requirePlan wm_1200 ⟨Nat.le_of_ble_eq_true rfl, Nat.le_of_ble_eq_true rfl⟩ rfl rfl hl.1 h1 h2 h3 (Nat.le_of_ble_eq_true rfl) ⟨Nat.le_of_ble_eq_true rfl, Nat.le_of_ble_eq_true rfl⟩ dX8_bake_10)
  obtain ⟨r4, hc3, hf⟩ := bnr_some hf
  refine bk_non (v0 := v) (w0 := v) hB (fun h1 h2 h3 => bk_runS X (Av := [.int p2, .int p4, .int p5]) (rest := []) (mX8_requirePlan hc3) ys_X8_requirePlan wm_1200 ⟨Nat.le_of_ble_eq_true rfl, Nat.le_of_ble_eq_true rfl⟩ rfl rfl hl.1 h1 h2 h3 (Nat.le_of_ble_eq_true rfl) ⟨Nat.le_of_ble_eq_true rfl, Nat.le_of_ble_eq_true rfl⟩ dX8_bake_10) (fun H locs hB => ?_)
  refine W.eq (g2 := F0 m 13 ls []) rfl ?_
  refine lv_iload_n hx hb dX8_bake_13 rfl (lv_at hl 3 rfl) ?_
  refine lv_iconst (v := 0) hx hb dX8_bake_14 (by decide) ?_
  refine lv_iload_n hx hb dX8_bake_15 rfl (lv_at hl 2 rfl) ?_
  refine xr_cases hf (fun hX => ?_) (fun hf => ?_)
  · exact bk_nonX (v0 := v) hxt X hB (fun h1 h2 h3 => bk_runSX X (Av := [.int p3, .int 0, .int p2]) (rest := []) (mxX8_requireRange hlt hX) ys_X8_requireRange wm_1084 ⟨Nat.le_of_ble_eq_true rfl, Nat.le_of_ble_eq_true rfl⟩ rfl rfl hl.1 h1 h2 h3 (Nat.le_of_ble_eq_true rfl) ⟨Nat.le_of_ble_eq_true rfl, Nat.le_of_ble_eq_true rfl⟩ dX8_bake_16)
  obtain ⟨r6, hc5, hf⟩ := bnr_some hf
  refine bk_non (v0 := v) (w0 := v) hB (fun h1 h2 h3 => bk_runS X (Av := [.int p3, .int 0, .int p2]) (rest := []) (mX8_requireRange hc5) ys_X8_requireRange wm_1084 ⟨Nat.le_of_ble_eq_true rfl, Nat.le_of_ble_eq_true rfl⟩ rfl rfl hl.1 h1 h2 h3 (Nat.le_of_ble_eq_true rfl) ⟨Nat.le_of_ble_eq_true rfl, Nat.le_of_ble_eq_true rfl⟩ dX8_bake_16) (fun H locs hB => ?_)
  refine W.eq (g2 := F0 m 19 ls []) rfl ?_
  refine lv_aload_n hx hb dX8_bake_19 rfl (lv_at hl 0 rfl) ?_
  obtain ⟨h7, hf⟩ := ck_some hf
  refine bk_getS X hB kl_X8 0 lc_X_0 0 (by decide) rfl h7 wm_654 dX8_bake_20 ?_
  obtain ⟨i8, ei8⟩ : ∃ y : Nat, y = (v 0).toNatClampNeg := ⟨_, rfl⟩
  have hf := nm_use hf ei8
  rw [← ei8]
  have hi8 : i8 < 12 := by rw [ei8]; exact vp_lt h7
  refine lv_iload_n hx hb dX8_bake_23 rfl (lv_at hl 1 rfl) ?_
  refine lv_iload_n hx hb dX8_bake_24 rfl (lv_at hl 2 rfl) ?_
  refine lv_iload hx hb dX8_bake_25 (lv_at hl 4 rfl) ?_
  refine lv_iload hx hb dX8_bake_27 (lv_at hl 5 rfl) ?_
  obtain ⟨r10, hc9, hf⟩ := bnr_some hf
  refine bk_subR (subX_St _ hi8) hB (fun h1 h2 h3 => bk_runV X (Av := [.int p1, .int p2, .int p4, .int p5]) (rest := []) (mX6_obstacle hc9) yv_X6_obstacle wm_1203 ⟨Nat.le_of_ble_eq_true rfl, Nat.le_of_ble_eq_true rfl⟩ rfl rfl hl.1 kl_X6.1 (hB.1.obj ((subX_St _ hi8).at lc_St_0)) h1 h2 h3 (Nat.le_of_ble_eq_true rfl) ⟨Nat.le_of_ble_eq_true rfl, Nat.le_of_ble_eq_true rfl⟩ dX8_bake_29) (fun H locs hB => ?_)
  refine W.eq (g2 := F0 m 32 ls [.int r10]) rfl ?_
  have hJ40 : ∀ (y11 : Int32) (H : Heap) (locs : List Loc) (ls : Array Slot), xX8_bake_J40 y11 = some r0 → bB D E LX a v s H locs → lv_has ls 6 [(0, .ref a), (1, .int p1), (2, .int p2), (3, .int p3), (4, .int p4), (5, .int p5)] → W p l e (rmOf 8 1 6) s m args below meth c H locs 0 0 (bQX below D E LX a v r0 args s 1 6) (F0 m 40 ls [.int y11]) := by
    intro y11 H locs ls hf hB hl
    have hf := (xX8_bake_J40.eq_1  y11).symm.trans hf
    refine xr_cases hf (fun hX => ?_) (fun hf => ?_)
    · exact bk_nonX (v0 := v) hxt X hB (fun h1 h2 h3 => bk_runSX X (Av := [.int y11]) (rest := []) (mxX8_requireState hlt hX) ys_X8_requireState wm_1212 ⟨Nat.le_of_ble_eq_true rfl, Nat.le_of_ble_eq_true rfl⟩ rfl rfl hl.1 h1 h2 h3 (Nat.le_of_ble_eq_true rfl) ⟨Nat.le_of_ble_eq_true rfl, Nat.le_of_ble_eq_true rfl⟩ dX8_bake_40)
    obtain ⟨r13, hc12, hf⟩ := bnr_some hf
    refine bk_non (v0 := v) (w0 := v) hB (fun h1 h2 h3 => bk_runS X (Av := [.int y11]) (rest := []) (mX8_requireState hc12) ys_X8_requireState wm_1212 ⟨Nat.le_of_ble_eq_true rfl, Nat.le_of_ble_eq_true rfl⟩ rfl rfl hl.1 h1 h2 h3 (Nat.le_of_ble_eq_true rfl) ⟨Nat.le_of_ble_eq_true rfl, Nat.le_of_ble_eq_true rfl⟩ dX8_bake_40) (fun H locs hB => ?_)
    refine W.eq (g2 := F0 m 43 ls []) rfl ?_
    cases hf
  refine lv_if_ne (tgt := 39) hx hb dX8_bake_32 (by decide) (fun c14 => ?_) (fun c14 => ?_)
  · have hf := (if_neg c14).symm.trans hf
    refine lv_iconst (v := 0) hx hb dX8_bake_39 (by decide) ?_
    exact hJ40 0 H locs ls hf hB (lv_sub hl [0, 1, 2, 3, 4, 5] rfl)
  · have hf := (if_pos c14).symm.trans hf
    refine lv_iconst (v := 1) hx hb dX8_bake_35 (by decide) ?_
    refine lv_goto (tgt := 40) hx hb dX8_bake_36 (by decide) ?_
    exact hJ40 1 H locs ls hf hB (lv_sub hl [0, 1, 2, 3, 4, 5] rfl)

theorem dX8_sell_0 : decode cX8_sell 0 = .ok (.aload_n 0, 1) := by decide +kernel
theorem dX8_sell_1 : decode cX8_sell 1 = .ok (.iload_n 1, 1) := by decide +kernel
theorem dX8_sell_2 : decode cX8_sell 2 = .ok (.invokevirtual 163, 3) := by decide +kernel
theorem dX8_sell_5 : decode cX8_sell 5 = .ok (.iload_n 2, 1) := by decide +kernel
theorem dX8_sell_6 : decode cX8_sell 6 = .ok (.iconst 1, 1) := by decide +kernel
theorem dX8_sell_7 : decode cX8_sell 7 = .ok (.bipush 99, 2) := by decide +kernel
theorem dX8_sell_9 : decode cX8_sell 9 = .ok (.invokestatic 197, 3) := by decide +kernel
theorem dX8_sell_12 : decode cX8_sell 12 = .ok (.iload_n 3, 1) := by decide +kernel
theorem dX8_sell_13 : decode cX8_sell 13 = .ok (.iconst 1, 1) := by decide +kernel
theorem dX8_sell_14 : decode cX8_sell 14 = .ok (.sipush 999, 3) := by decide +kernel
theorem dX8_sell_17 : decode cX8_sell 17 = .ok (.invokestatic 197, 3) := by decide +kernel
theorem dX8_sell_20 : decode cX8_sell 20 = .ok (.iload_n 2, 1) := by decide +kernel
theorem dX8_sell_21 : decode cX8_sell 21 = .ok (.aload_n 0, 1) := by decide +kernel
theorem dX8_sell_22 : decode cX8_sell 22 = .ok (.getfield 10, 3) := by decide +kernel
theorem dX8_sell_25 : decode cX8_sell 25 = .ok (.getfield 156, 3) := by decide +kernel
theorem dX8_sell_28 : decode cX8_sell 28 = .ok (.getfield 178, 3) := by decide +kernel
theorem dX8_sell_31 : decode cX8_sell 31 = .ok (.iload_n 1, 1) := by decide +kernel
theorem dX8_sell_32 : decode cX8_sell 32 = .ok (.iaload, 1) := by decide +kernel
theorem dX8_sell_33 : decode cX8_sell 33 = .ok (.if_icmp .gt 7, 3) := by decide +kernel
theorem dX8_sell_36 : decode cX8_sell 36 = .ok (.iconst 1, 1) := by decide +kernel
theorem dX8_sell_37 : decode cX8_sell 37 = .ok (.goto 4, 3) := by decide +kernel
theorem dX8_sell_40 : decode cX8_sell 40 = .ok (.iconst 0, 1) := by decide +kernel
theorem dX8_sell_41 : decode cX8_sell 41 = .ok (.invokestatic 264, 3) := by decide +kernel
theorem dX8_sell_44 : decode cX8_sell 44 = .ok (.aload_n 0, 1) := by decide +kernel
theorem dX8_sell_45 : decode cX8_sell 45 = .ok (.getfield 22, 3) := by decide +kernel
theorem dX8_sell_48 : decode cX8_sell 48 = .ok (.aload_n 0, 1) := by decide +kernel
theorem dX8_sell_49 : decode cX8_sell 49 = .ok (.getfield 10, 3) := by decide +kernel
theorem dX8_sell_52 : decode cX8_sell 52 = .ok (.invokevirtual 106, 3) := by decide +kernel
theorem dX8_sell_55 : decode cX8_sell 55 = .ok (.aload_n 0, 1) := by decide +kernel
theorem dX8_sell_56 : decode cX8_sell 56 = .ok (.getfield 10, 3) := by decide +kernel
theorem dX8_sell_59 : decode cX8_sell 59 = .ok (.iload_n 1, 1) := by decide +kernel
theorem dX8_sell_60 : decode cX8_sell 60 = .ok (.iload_n 2, 1) := by decide +kernel
theorem dX8_sell_61 : decode cX8_sell 61 = .ok (.iload_n 3, 1) := by decide +kernel
theorem dX8_sell_62 : decode cX8_sell 62 = .ok (.invokevirtual 326, 3) := by decide +kernel
theorem dX8_sell_65 : decode cX8_sell 65 = .ok (.pop, 1) := by decide +kernel
theorem dX8_sell_66 : decode cX8_sell 66 = .ok (.aload_n 0, 1) := by decide +kernel
theorem dX8_sell_67 : decode cX8_sell 67 = .ok (.getfield 10, 3) := by decide +kernel
theorem dX8_sell_70 : decode cX8_sell 70 = .ok (.getfield 121, 3) := by decide +kernel
theorem dX8_sell_73 : decode cX8_sell 73 = .ok (.ireturn, 1) := by decide +kernel
def fX8_sell_J41 (p1 : Int32) (p2 : Int32) (p3 : Int32) (y10 : Int32) (v11 : bM) : Option (Int32 × bM) :=
  bnr (fX8_requireState y10) fun r13 => ck (v11 0) 12 <| nm (v11 0).toNatClampNeg fun i15 => bnw (fX3_remember i15 v11) fun w17 => ck (w17 0) 12 <| nm (w17 0).toNatClampNeg fun i19 => bnd (fX6_sellLoaves p1 p2 p3 (vw w17 (stO i19))) fun r22 w21 => nm (spl w17 (stO i19) 590 w21) fun v23 => ck (v23 0) 12 <| nm (v23 0).toNatClampNeg fun i25 => some (v23 (stO i25 + 1), v23)
def fX8_sell (p1 : Int32) (p2 : Int32) (p3 : Int32) (v : bM) : Option (Int32 × bM) :=
  bnr (fX8_requireBread p1 v) fun r2 => bnr (fX8_requireRange p2 1 99) fun r4 => bnr (fX8_requireRange p3 1 999) fun r6 => ck (v 0) 12 <| nm (v 0).toNatClampNeg fun i8 => ck p1 6 <| (if (v (stO i8 + 200 + p1.toNatClampNeg)) < p2 then (fX8_sell_J41 p1 p2 p3 0 v) else (fX8_sell_J41 p1 p2 p3 1 v))
set_option maxRecDepth 100000 in
set_option maxHeartbeats 4000000 in
theorem mX8_sell {l : Launch} {p1 : Int32} {p2 : Int32} {p3 : Int32} {v : bM} {r0 : Int32} {w0 : bM} (hf : fX8_sell p1 p2 p3 v = some (r0, w0)) : bMet l yX8_sell cX8_sell 4 (some .int) 5 0 0 LX (fun E a => [.ref a, .int p1, .int p2, .int p3]) v w0 (fun _ => some (.int r0)) := by
  refine bk_start (by decide +kernel) wfX (fun _ _ => Nat.le_of_ble_eq_true rfl) ?_
  intro p e s m args below meth c D E a ls H locs X hr hl hB
  have hx := X.1
  have hb := X.2.1
  have hown := X.2.2.2.1
  have hts := X.2.2.2.2.1
  have hl : lv_has ls 4 [(0, .ref a), (1, .int p1), (2, .int p2), (3, .int p3)] := hl
  have hf := (fX8_sell.eq_1 p1 p2 p3 v).symm.trans hf
  refine lv_aload_n hx hb dX8_sell_0 rfl (lv_at hl 0 rfl) ?_
  refine lv_iload_n hx hb dX8_sell_1 rfl (lv_at hl 1 rfl) ?_
  obtain ⟨r2, hc1, hf⟩ := bnr_some hf
  refine bk_all hB (fun h1 h2 h3 => bk_runV X (Av := [.int p1]) (rest := []) (mX8_requireBread hc1) yv_X8_requireBread wm_1037 ⟨Nat.le_of_ble_eq_true rfl, Nat.le_of_ble_eq_true rfl⟩ rfl rfl hl.1 kl_X8.1 (hB.1.obj lc_X_0) h1 h2 h3 (Nat.le_of_ble_eq_true rfl) ⟨Nat.le_of_ble_eq_true rfl, Nat.le_of_ble_eq_true rfl⟩ dX8_sell_2) (fun H locs hB => ?_)
  refine W.eq (g2 := F0 m 5 ls []) rfl ?_
  refine lv_iload_n hx hb dX8_sell_5 rfl (lv_at hl 2 rfl) ?_
  refine lv_iconst (v := 1) hx hb dX8_sell_6 (by decide) ?_
  refine lv_bipush (v := 99) hx hb dX8_sell_7 (by decide) ?_
  obtain ⟨r4, hc3, hf⟩ := bnr_some hf
  refine bk_non (v0 := v) (w0 := v) hB (fun h1 h2 h3 => bk_runS X (Av := [.int p2, .int 1, .int 99]) (rest := []) (mX8_requireRange hc3) ys_X8_requireRange wm_1084 ⟨Nat.le_of_ble_eq_true rfl, Nat.le_of_ble_eq_true rfl⟩ rfl rfl hl.1 h1 h2 h3 (Nat.le_of_ble_eq_true rfl) ⟨Nat.le_of_ble_eq_true rfl, Nat.le_of_ble_eq_true rfl⟩ dX8_sell_9) (fun H locs hB => ?_)
  refine W.eq (g2 := F0 m 12 ls []) rfl ?_
  refine lv_iload_n hx hb dX8_sell_12 rfl (lv_at hl 3 rfl) ?_
  refine lv_iconst (v := 1) hx hb dX8_sell_13 (by decide) ?_
  refine lv_sipush (v := 999) hx hb dX8_sell_14 (by decide) ?_
  obtain ⟨r6, hc5, hf⟩ := bnr_some hf
  refine bk_non (v0 := v) (w0 := v) hB (fun h1 h2 h3 => bk_runS X (Av := [.int p3, .int 1, .int 999]) (rest := []) (mX8_requireRange hc5) ys_X8_requireRange wm_1084 ⟨Nat.le_of_ble_eq_true rfl, Nat.le_of_ble_eq_true rfl⟩ rfl rfl hl.1 h1 h2 h3 (Nat.le_of_ble_eq_true rfl) ⟨Nat.le_of_ble_eq_true rfl, Nat.le_of_ble_eq_true rfl⟩ dX8_sell_17) (fun H locs hB => ?_)
  refine W.eq (g2 := F0 m 20 ls []) rfl ?_
  refine lv_iload_n hx hb dX8_sell_20 rfl (lv_at hl 2 rfl) ?_
  refine lv_aload_n hx hb dX8_sell_21 rfl (lv_at hl 0 rfl) ?_
  obtain ⟨h7, hf⟩ := ck_some hf
  refine bk_getS X hB kl_X8 0 lc_X_0 0 (by decide) rfl h7 wm_654 dX8_sell_22 ?_
  obtain ⟨i8, ei8⟩ : ∃ y : Nat, y = (v 0).toNatClampNeg := ⟨_, rfl⟩
  have hf := nm_use hf ei8
  rw [← ei8]
  have hi8 : i8 < 12 := by rw [ei8]; exact vp_lt h7
  refine bk_getR X hB kl_X6 (stC i8 + 0) ((subX_St _ hi8).at lc_St_0) 7 (by decide) rfl wm_236 dX8_sell_25 ?_
  refine bk_getR X hB kl_X1 (stC i8 + 20) ((subX_St _ hi8).at lc_St_20) 5 (by decide) rfl wm_113 dX8_sell_28 ?_
  refine lv_iload_n hx hb dX8_sell_31 rfl (lv_at hl 1 rfl) ?_
  obtain ⟨h9, hf⟩ := ck_some hf
  refine bk_ald X hB (stC i8 + 25) ((subX_St _ hi8).at lc_St_25) h9 dX8_sell_32 ?_
  have hJ41 : ∀ (y10 : Int32) (v11 : bM) (H : Heap) (locs : List Loc) (ls : Array Slot), fX8_sell_J41 p1 p2 p3 y10 v11 = some (r0, w0) → bB D E LX a v11 s H locs → lv_has ls 4 [(0, .ref a), (1, .int p1), (2, .int p2), (3, .int p3)] → W p l e (rmOf 5 0 0) s m args below meth c H locs 0 0 (bQ below D E LX a w0 (some (.int r0)) args s 0 0) (F0 m 41 ls [.int y10]) := by
    intro y10 v11 H locs ls hf hB hl
    have hf := (fX8_sell_J41.eq_1 p1 p2 p3 y10 v11).symm.trans hf
    obtain ⟨r13, hc12, hf⟩ := bnr_some hf
    refine bk_non (v0 := v11) (w0 := v11) hB (fun h1 h2 h3 => bk_runS X (Av := [.int y10]) (rest := []) (mX8_requireState hc12) ys_X8_requireState wm_1212 ⟨Nat.le_of_ble_eq_true rfl, Nat.le_of_ble_eq_true rfl⟩ rfl rfl hl.1 h1 h2 h3 (Nat.le_of_ble_eq_true rfl) ⟨Nat.le_of_ble_eq_true rfl, Nat.le_of_ble_eq_true rfl⟩ dX8_sell_41) (fun H locs hB => ?_)
    refine W.eq (g2 := F0 m 44 ls []) rfl ?_
    refine lv_aload_n hx hb dX8_sell_44 rfl (lv_at hl 0 rfl) ?_
    refine bk_getR X hB kl_X8 0 lc_X_0 2 (by decide) rfl wm_656 dX8_sell_45 ?_
    refine lv_aload_n hx hb dX8_sell_48 rfl (lv_at hl 0 rfl) ?_
    obtain ⟨h14, hf⟩ := ck_some hf
    refine bk_getS X hB kl_X8 0 lc_X_0 0 (by decide) rfl h14 wm_654 dX8_sell_49 ?_
    obtain ⟨i15, ei15⟩ : ∃ y : Nat, y = (v11 0).toNatClampNeg := ⟨_, rfl⟩
    have hf := nm_use hf ei15
    rw [← ei15]
    have hi15 : i15 < 12 := by rw [ei15]; exact vp_lt h14
    obtain ⟨w17, hc16, hf⟩ := bnw_some hf
    refine bk_all hB (fun h1 h2 h3 => bk_runV X (Av := [.ref (a + (stC i15 + 0))]) (rest := []) (mX3_remember hc16) yv_X3_remember wm_733 ⟨Nat.le_of_ble_eq_true rfl, Nat.le_of_ble_eq_true rfl⟩ rfl rfl hl.1 kl_X3.1 (hB.1.obj lc_X_143) h1 h2 h3 (Nat.le_of_ble_eq_true rfl) ⟨Nat.le_of_ble_eq_true rfl, Nat.le_of_ble_eq_true rfl⟩ dX8_sell_52) (fun H locs hB => ?_)
    refine W.eq (g2 := F0 m 55 ls []) rfl ?_
    refine lv_aload_n hx hb dX8_sell_55 rfl (lv_at hl 0 rfl) ?_
    obtain ⟨h18, hf⟩ := ck_some hf
    refine bk_getS X hB kl_X8 0 lc_X_0 0 (by decide) rfl h18 wm_654 dX8_sell_56 ?_
    obtain ⟨i19, ei19⟩ : ∃ y : Nat, y = (w17 0).toNatClampNeg := ⟨_, rfl⟩
    have hf := nm_use hf ei19
    rw [← ei19]
    have hi19 : i19 < 12 := by rw [ei19]; exact vp_lt h18
    refine lv_iload_n hx hb dX8_sell_59 rfl (lv_at hl 1 rfl) ?_
    refine lv_iload_n hx hb dX8_sell_60 rfl (lv_at hl 2 rfl) ?_
    refine lv_iload_n hx hb dX8_sell_61 rfl (lv_at hl 3 rfl) ?_
    obtain ⟨r22, w21, hc20, hf⟩ := bnd_some hf
    refine bk_sub (subX_St _ hi19) hB (fun h1 h2 h3 => bk_runV X (Av := [.int p1, .int p2, .int p3]) (rest := []) (mX6_sellLoaves hc20) yv_X6_sellLoaves wm_1309 ⟨Nat.le_of_ble_eq_true rfl, Nat.le_of_ble_eq_true rfl⟩ rfl rfl hl.1 kl_X6.1 (hB.1.obj ((subX_St _ hi19).at lc_St_0)) h1 h2 h3 (Nat.le_of_ble_eq_true rfl) ⟨Nat.le_of_ble_eq_true rfl, Nat.le_of_ble_eq_true rfl⟩ dX8_sell_62) (fun H locs hB => ?_)
    refine W.eq (g2 := F0 m 65 ls [.int r22]) rfl ?_
    obtain ⟨v23, ev23⟩ : ∃ y : bM, y = spl w17 (stO i19) 590 w21 := ⟨_, rfl⟩
    have hf := nm_use hf ev23
    rw [← ev23] at hB
    refine lv_pop hx hb dX8_sell_65 rfl ?_
    refine lv_aload_n hx hb dX8_sell_66 rfl (lv_at hl 0 rfl) ?_
    obtain ⟨h24, hf⟩ := ck_some hf
    refine bk_getS X hB kl_X8 0 lc_X_0 0 (by decide) rfl h24 wm_654 dX8_sell_67 ?_
    obtain ⟨i25, ei25⟩ : ∃ y : Nat, y = (v23 0).toNatClampNeg := ⟨_, rfl⟩
    have hf := nm_use hf ei25
    rw [← ei25]
    have hi25 : i25 < 12 := by rw [ei25]; exact vp_lt h24
    refine bk_getI X hB kl_X6 (stC i25 + 0) ((subX_St _ hi25).at lc_St_0) 1 (by decide) rfl wm_224 dX8_sell_70 ?_
    exact bk_iW X hr rfl hf hB (Nat.le_of_ble_eq_true rfl) (Nat.le_of_ble_eq_true rfl) dX8_sell_73
  refine lv_icmp_gt (tgt := 40) hx hb dX8_sell_33 (by decide) (fun c26 => ?_) (fun c26 => ?_)
  · have hf := (if_pos c26).symm.trans hf
    refine lv_iconst (v := 0) hx hb dX8_sell_40 (by decide) ?_
    exact hJ41 0 v H locs ls hf hB (lv_sub hl [0, 1, 2, 3] rfl)
  · have hf := (if_neg c26).symm.trans hf
    refine lv_iconst (v := 1) hx hb dX8_sell_36 (by decide) ?_
    refine lv_goto (tgt := 41) hx hb dX8_sell_37 (by decide) ?_
    exact hJ41 1 v H locs ls hf hB (lv_sub hl [0, 1, 2, 3] rfl)
theorem yv_X8_sell : bYv yX8_sell RX8 cX8_sell 4 (some .int) 3 := ⟨⟨rfl, by decide, by decide, rfl⟩, wm_1306, wm_1307, wm_1, wm_1308⟩

def xX8_sell_J41  (y10 : Int32) : Option Nat :=
  xr (xX8_requireState y10) <| bnr (fX8_requireState y10) fun r12 => none
def xX8_sell (p1 : Int32) (p2 : Int32) (p3 : Int32) (v : bM) : Option Nat :=
  xr (xX8_requireBread p1 v) <| bnr (fX8_requireBread p1 v) fun r2 => xr (xX8_requireRange p2 1 99) <| bnr (fX8_requireRange p2 1 99) fun r4 => xr (xX8_requireRange p3 1 999) <| bnr (fX8_requireRange p3 1 999) fun r6 => ck (v 0) 12 <| nm (v 0).toNatClampNeg fun i8 => ck p1 6 <| (if (v (stO i8 + 200 + p1.toNatClampNeg)) < p2 then (xX8_sell_J41 0) else (xX8_sell_J41 1))
set_option maxRecDepth 100000 in
set_option maxHeartbeats 4000000 in
theorem mxX8_sell {l : Launch} (hlt : l.stackTraces = false) {p1 : Int32} {p2 : Int32} {p3 : Int32} {v : bM} {r0 : Nat} (hf : xX8_sell p1 p2 p3 v = some r0) : bMetX l yX8_sell cX8_sell 4 (some .int) 8 1 6 LX (fun E a => [.ref a, .int p1, .int p2, .int p3]) v r0 := by
  refine bk_startX (by decide +kernel) wfX (fun _ _ => Nat.le_of_ble_eq_true rfl) ?_
  intro p e s m args below meth c D E a ls H locs X hr hxt hl hB
  have hx := X.1
  have hb := X.2.1
  have hown := X.2.2.2.1
  have hts := X.2.2.2.2.1
  have hl : lv_has ls 4 [(0, .ref a), (1, .int p1), (2, .int p2), (3, .int p3)] := hl
  have hf := (xX8_sell.eq_1 p1 p2 p3 v).symm.trans hf
  refine lv_aload_n hx hb dX8_sell_0 rfl (lv_at hl 0 rfl) ?_
  refine lv_iload_n hx hb dX8_sell_1 rfl (lv_at hl 1 rfl) ?_
  refine xr_cases hf (fun hX => ?_) (fun hf => ?_)
  · exact bk_allX hxt X hB (fun h1 h2 h3 => bk_runVX X (Av := [.int p1]) (rest := []) (mxX8_requireBread hlt hX) yv_X8_requireBread wm_1037 ⟨Nat.le_of_ble_eq_true rfl, Nat.le_of_ble_eq_true rfl⟩ rfl rfl hl.1 kl_X8.1 (hB.1.obj lc_X_0) h1 h2 h3 (Nat.le_of_ble_eq_true rfl) ⟨Nat.le_of_ble_eq_true rfl, Nat.le_of_ble_eq_true rfl⟩ dX8_sell_2)
  obtain ⟨r2, hc1, hf⟩ := bnr_some hf
  refine bk_all hB (fun h1 h2 h3 => bk_runV X (Av := [.int p1]) (rest := []) (mX8_requireBread hc1) yv_X8_requireBread wm_1037 ⟨Nat.le_of_ble_eq_true rfl, Nat.le_of_ble_eq_true rfl⟩ rfl rfl hl.1 kl_X8.1 (hB.1.obj lc_X_0) h1 h2 h3 (Nat.le_of_ble_eq_true rfl) ⟨Nat.le_of_ble_eq_true rfl, Nat.le_of_ble_eq_true rfl⟩ dX8_sell_2) (fun H locs hB => ?_)
  refine W.eq (g2 := F0 m 5 ls []) rfl ?_
  refine lv_iload_n hx hb dX8_sell_5 rfl (lv_at hl 2 rfl) ?_
  refine lv_iconst (v := 1) hx hb dX8_sell_6 (by decide) ?_
  refine lv_bipush (v := 99) hx hb dX8_sell_7 (by decide) ?_
  refine xr_cases hf (fun hX => ?_) (fun hf => ?_)
  · exact bk_nonX (v0 := v) hxt X hB (fun h1 h2 h3 => bk_runSX X (Av := [.int p2, .int 1, .int 99]) (rest := []) (mxX8_requireRange hlt hX) ys_X8_requireRange wm_1084 ⟨Nat.le_of_ble_eq_true rfl, Nat.le_of_ble_eq_true rfl⟩ rfl rfl hl.1 h1 h2 h3 (Nat.le_of_ble_eq_true rfl) ⟨Nat.le_of_ble_eq_true rfl, Nat.le_of_ble_eq_true rfl⟩ dX8_sell_9)
  obtain ⟨r4, hc3, hf⟩ := bnr_some hf
  refine bk_non (v0 := v) (w0 := v) hB (fun h1 h2 h3 => bk_runS X (Av := [.int p2, .int 1, .int 99]) (rest := []) (mX8_requireRange hc3) ys_X8_requireRange wm_1084 ⟨Nat.le_of_ble_eq_true rfl, Nat.le_of_ble_eq_true rfl⟩ rfl rfl hl.1 h1 h2 h3 (Nat.le_of_ble_eq_true rfl) ⟨Nat.le_of_ble_eq_true rfl, Nat.le_of_ble_eq_true rfl⟩ dX8_sell_9) (fun H locs hB => ?_)
  refine W.eq (g2 := F0 m 12 ls []) rfl ?_
  refine lv_iload_n hx hb dX8_sell_12 rfl (lv_at hl 3 rfl) ?_
  refine lv_iconst (v := 1) hx hb dX8_sell_13 (by decide) ?_
  refine lv_sipush (v := 999) hx hb dX8_sell_14 (by decide) ?_
  refine xr_cases hf (fun hX => ?_) (fun hf => ?_)
  · exact bk_nonX (v0 := v) hxt X hB (fun h1 h2 h3 => bk_runSX X (Av := [.int p3, .int 1, .int 999]) (rest := []) (mxX8_requireRange hlt hX) ys_X8_requireRange wm_1084 ⟨Nat.le_of_ble_eq_true rfl, Nat.le_of_ble_eq_true rfl⟩ rfl rfl hl.1 h1 h2 h3 (Nat.le_of_ble_eq_true rfl) ⟨Nat.le_of_ble_eq_true rfl, Nat.le_of_ble_eq_true rfl⟩ dX8_sell_17)
  obtain ⟨r6, hc5, hf⟩ := bnr_some hf
  refine bk_non (v0 := v) (w0 := v) hB (fun h1 h2 h3 => bk_runS X (Av := [.int p3, .int 1, .int 999]) (rest := []) (mX8_requireRange hc5) ys_X8_requireRange wm_1084 ⟨Nat.le_of_ble_eq_true rfl, Nat.le_of_ble_eq_true rfl⟩ rfl rfl hl.1 h1 h2 h3 (Nat.le_of_ble_eq_true rfl) ⟨Nat.le_of_ble_eq_true rfl, Nat.le_of_ble_eq_true rfl⟩ dX8_sell_17) (fun H locs hB => ?_)
  refine W.eq (g2 := F0 m 20 ls []) rfl ?_
  refine lv_iload_n hx hb dX8_sell_20 rfl (lv_at hl 2 rfl) ?_
  refine lv_aload_n hx hb dX8_sell_21 rfl (lv_at hl 0 rfl) ?_
  obtain ⟨h7, hf⟩ := ck_some hf
  refine bk_getS X hB kl_X8 0 lc_X_0 0 (by decide) rfl h7 wm_654 dX8_sell_22 ?_
  obtain ⟨i8, ei8⟩ : ∃ y : Nat, y = (v 0).toNatClampNeg := ⟨_, rfl⟩
  have hf := nm_use hf ei8
  rw [← ei8]
  have hi8 : i8 < 12 := by rw [ei8]; exact vp_lt h7
  refine bk_getR X hB kl_X6 (stC i8 + 0) ((subX_St _ hi8).at lc_St_0) 7 (by decide) rfl wm_236 dX8_sell_25 ?_
  refine bk_getR X hB kl_X1 (stC i8 + 20) ((subX_St _ hi8).at lc_St_20) 5 (by decide) rfl wm_113 dX8_sell_28 ?_
  refine lv_iload_n hx hb dX8_sell_31 rfl (lv_at hl 1 rfl) ?_
  obtain ⟨h9, hf⟩ := ck_some hf
  refine bk_ald X hB (stC i8 + 25) ((subX_St _ hi8).at lc_St_25) h9 dX8_sell_32 ?_
  have hJ41 : ∀ (y10 : Int32) (H : Heap) (locs : List Loc) (ls : Array Slot), xX8_sell_J41 y10 = some r0 → bB D E LX a v s H locs → lv_has ls 4 [(0, .ref a), (1, .int p1), (2, .int p2), (3, .int p3)] → W p l e (rmOf 8 1 6) s m args below meth c H locs 0 0 (bQX below D E LX a v r0 args s 1 6) (F0 m 41 ls [.int y10]) := by
    intro y10 H locs ls hf hB hl
    have hf := (xX8_sell_J41.eq_1  y10).symm.trans hf
    refine xr_cases hf (fun hX => ?_) (fun hf => ?_)
    · exact bk_nonX (v0 := v) hxt X hB (fun h1 h2 h3 => bk_runSX X (Av := [.int y10]) (rest := []) (mxX8_requireState hlt hX) ys_X8_requireState wm_1212 ⟨Nat.le_of_ble_eq_true rfl, Nat.le_of_ble_eq_true rfl⟩ rfl rfl hl.1 h1 h2 h3 (Nat.le_of_ble_eq_true rfl) ⟨Nat.le_of_ble_eq_true rfl, Nat.le_of_ble_eq_true rfl⟩ dX8_sell_41)
    obtain ⟨r12, hc11, hf⟩ := bnr_some hf
    refine bk_non (v0 := v) (w0 := v) hB (fun h1 h2 h3 => bk_runS X (Av := [.int y10]) (rest := []) (mX8_requireState hc11) ys_X8_requireState wm_1212 ⟨Nat.le_of_ble_eq_true rfl, Nat.le_of_ble_eq_true rfl⟩ rfl rfl hl.1 h1 h2 h3 (Nat.le_of_ble_eq_true rfl) ⟨Nat.le_of_ble_eq_true rfl, Nat.le_of_ble_eq_true rfl⟩ dX8_sell_41) (fun H locs hB => ?_)
    refine W.eq (g2 := F0 m 44 ls []) rfl ?_
    cases hf
  refine lv_icmp_gt (tgt := 40) hx hb dX8_sell_33 (by decide) (fun c13 => ?_) (fun c13 => ?_)
  · have hf := (if_pos c13).symm.trans hf
    refine lv_iconst (v := 0) hx hb dX8_sell_40 (by decide) ?_
    exact hJ41 0 H locs ls hf hB (lv_sub hl [0, 1, 2, 3] rfl)
  · have hf := (if_neg c13).symm.trans hf
    refine lv_iconst (v := 1) hx hb dX8_sell_36 (by decide) ?_
    refine lv_goto (tgt := 41) hx hb dX8_sell_37 (by decide) ?_
    exact hJ41 1 H locs ls hf hB (lv_sub hl [0, 1, 2, 3] rfl)

theorem dX8_waitMinutes_0 : decode cX8_waitMinutes 0 = .ok (.iload_n 1, 1) := by decide +kernel
theorem dX8_waitMinutes_1 : decode cX8_waitMinutes 1 = .ok (.iconst 1, 1) := by decide +kernel
theorem dX8_waitMinutes_2 : decode cX8_waitMinutes 2 = .ok (.sipush 999, 3) := by decide +kernel
theorem dX8_waitMinutes_5 : decode cX8_waitMinutes 5 = .ok (.invokestatic 197, 3) := by decide +kernel
theorem dX8_waitMinutes_8 : decode cX8_waitMinutes 8 = .ok (.aload_n 0, 1) := by decide +kernel
theorem dX8_waitMinutes_9 : decode cX8_waitMinutes 9 = .ok (.getfield 22, 3) := by decide +kernel
theorem dX8_waitMinutes_12 : decode cX8_waitMinutes 12 = .ok (.aload_n 0, 1) := by decide +kernel
theorem dX8_waitMinutes_13 : decode cX8_waitMinutes 13 = .ok (.getfield 10, 3) := by decide +kernel
theorem dX8_waitMinutes_16 : decode cX8_waitMinutes 16 = .ok (.invokevirtual 106, 3) := by decide +kernel
theorem dX8_waitMinutes_19 : decode cX8_waitMinutes 19 = .ok (.aload_n 0, 1) := by decide +kernel
theorem dX8_waitMinutes_20 : decode cX8_waitMinutes 20 = .ok (.getfield 10, 3) := by decide +kernel
theorem dX8_waitMinutes_23 : decode cX8_waitMinutes 23 = .ok (.dup, 1) := by decide +kernel
theorem dX8_waitMinutes_24 : decode cX8_waitMinutes 24 = .ok (.getfield 118, 3) := by decide +kernel
theorem dX8_waitMinutes_27 : decode cX8_waitMinutes 27 = .ok (.iload_n 1, 1) := by decide +kernel
theorem dX8_waitMinutes_28 : decode cX8_waitMinutes 28 = .ok (.iadd, 1) := by decide +kernel
theorem dX8_waitMinutes_29 : decode cX8_waitMinutes 29 = .ok (.putfield 118, 3) := by decide +kernel
theorem dX8_waitMinutes_32 : decode cX8_waitMinutes 32 = .ok (.aload_n 0, 1) := by decide +kernel
theorem dX8_waitMinutes_33 : decode cX8_waitMinutes 33 = .ok (.getfield 10, 3) := by decide +kernel
theorem dX8_waitMinutes_36 : decode cX8_waitMinutes 36 = .ok (.getfield 118, 3) := by decide +kernel
theorem dX8_waitMinutes_39 : decode cX8_waitMinutes 39 = .ok (.ireturn, 1) := by decide +kernel
def fX8_waitMinutes (p1 : Int32) (v : bM) : Option (Int32 × bM) :=
  bnr (fX8_requireRange p1 1 999) fun r2 => ck (v 0) 12 <| nm (v 0).toNatClampNeg fun i4 => bnw (fX3_remember i4 v) fun w6 => ck (w6 0) 12 <| nm (w6 0).toNatClampNeg fun i8 => nm ((w6 (stO i8 + 0)) + p1) fun x9 => nm (upd w6 (stO i8 + 0) x9) fun v10 => ck (v10 0) 12 <| nm (v10 0).toNatClampNeg fun i12 => some (v10 (stO i12 + 0), v10)
set_option maxRecDepth 100000 in
set_option maxHeartbeats 4000000 in
theorem mX8_waitMinutes {l : Launch} {p1 : Int32} {v : bM} {r0 : Int32} {w0 : bM} (hf : fX8_waitMinutes p1 v = some (r0, w0)) : bMet l yX8_waitMinutes cX8_waitMinutes 2 (some .int) 5 0 0 LX (fun E a => [.ref a, .int p1]) v w0 (fun _ => some (.int r0)) := by
  refine bk_start (by decide +kernel) wfX (fun _ _ => Nat.le_of_ble_eq_true rfl) ?_
  intro p e s m args below meth c D E a ls H locs X hr hl hB
  have hx := X.1
  have hb := X.2.1
  have hown := X.2.2.2.1
  have hts := X.2.2.2.2.1
  have hl : lv_has ls 2 [(0, .ref a), (1, .int p1)] := hl
  have hf := (fX8_waitMinutes.eq_1 p1 v).symm.trans hf
  refine lv_iload_n hx hb dX8_waitMinutes_0 rfl (lv_at hl 1 rfl) ?_
  refine lv_iconst (v := 1) hx hb dX8_waitMinutes_1 (by decide) ?_
  refine lv_sipush (v := 999) hx hb dX8_waitMinutes_2 (by decide) ?_
  obtain ⟨r2, hc1, hf⟩ := bnr_some hf
  refine bk_non (v0 := v) (w0 := v) hB (fun h1 h2 h3 => bk_runS X (Av := [.int p1, .int 1, .int 999]) (rest := []) (mX8_requireRange hc1) ys_X8_requireRange wm_1084 ⟨Nat.le_of_ble_eq_true rfl, Nat.le_of_ble_eq_true rfl⟩ rfl rfl hl.1 h1 h2 h3 (Nat.le_of_ble_eq_true rfl) ⟨Nat.le_of_ble_eq_true rfl, Nat.le_of_ble_eq_true rfl⟩ dX8_waitMinutes_5) (fun H locs hB => ?_)
  refine W.eq (g2 := F0 m 8 ls []) rfl ?_
  refine lv_aload_n hx hb dX8_waitMinutes_8 rfl (lv_at hl 0 rfl) ?_
  refine bk_getR X hB kl_X8 0 lc_X_0 2 (by decide) rfl wm_656 dX8_waitMinutes_9 ?_
  refine lv_aload_n hx hb dX8_waitMinutes_12 rfl (lv_at hl 0 rfl) ?_
  obtain ⟨h3, hf⟩ := ck_some hf
  refine bk_getS X hB kl_X8 0 lc_X_0 0 (by decide) rfl h3 wm_654 dX8_waitMinutes_13 ?_
  obtain ⟨i4, ei4⟩ : ∃ y : Nat, y = (v 0).toNatClampNeg := ⟨_, rfl⟩
  have hf := nm_use hf ei4
  rw [← ei4]
  have hi4 : i4 < 12 := by rw [ei4]; exact vp_lt h3
  obtain ⟨w6, hc5, hf⟩ := bnw_some hf
  refine bk_all hB (fun h1 h2 h3 => bk_runV X (Av := [.ref (a + (stC i4 + 0))]) (rest := []) (mX3_remember hc5) yv_X3_remember wm_733 ⟨Nat.le_of_ble_eq_true rfl, Nat.le_of_ble_eq_true rfl⟩ rfl rfl hl.1 kl_X3.1 (hB.1.obj lc_X_143) h1 h2 h3 (Nat.le_of_ble_eq_true rfl) ⟨Nat.le_of_ble_eq_true rfl, Nat.le_of_ble_eq_true rfl⟩ dX8_waitMinutes_16) (fun H locs hB => ?_)
  refine W.eq (g2 := F0 m 19 ls []) rfl ?_
  refine lv_aload_n hx hb dX8_waitMinutes_19 rfl (lv_at hl 0 rfl) ?_
  obtain ⟨h7, hf⟩ := ck_some hf
  refine bk_getS X hB kl_X8 0 lc_X_0 0 (by decide) rfl h7 wm_654 dX8_waitMinutes_20 ?_
  obtain ⟨i8, ei8⟩ : ∃ y : Nat, y = (w6 0).toNatClampNeg := ⟨_, rfl⟩
  have hf := nm_use hf ei8
  rw [← ei8]
  have hi8 : i8 < 12 := by rw [ei8]; exact vp_lt h7
  refine lv_dup hx hb dX8_waitMinutes_23 rfl ?_
  refine bk_getI X hB kl_X6 (stC i8 + 0) ((subX_St _ hi8).at lc_St_0) 0 (by decide) rfl wm_221 dX8_waitMinutes_24 ?_
  refine lv_iload_n hx hb dX8_waitMinutes_27 rfl (lv_at hl 1 rfl) ?_
  refine lv_iadd hx hb dX8_waitMinutes_28 ?_
  refine lv_topi (fun x9 ex9 => ?_)
  have hf := nm_use hf ex9
  refine bk_putI X hB kl_X6 (stC i8 + 0) ((subX_St _ hi8).at lc_St_0) 0 (by decide) rfl rfl rfl wm_221 dX8_waitMinutes_29 (bApSh rfl) (fun H locs hB => ?_)
  obtain ⟨v10, ev10⟩ : ∃ y : bM, y = upd w6 (stO i8 + 0) x9 := ⟨_, rfl⟩
  have hf := nm_use hf ev10
  rw [← ev10] at hB
  refine lv_aload_n hx hb dX8_waitMinutes_32 rfl (lv_at hl 0 rfl) ?_
  obtain ⟨h11, hf⟩ := ck_some hf
  refine bk_getS X hB kl_X8 0 lc_X_0 0 (by decide) rfl h11 wm_654 dX8_waitMinutes_33 ?_
  obtain ⟨i12, ei12⟩ : ∃ y : Nat, y = (v10 0).toNatClampNeg := ⟨_, rfl⟩
  have hf := nm_use hf ei12
  rw [← ei12]
  have hi12 : i12 < 12 := by rw [ei12]; exact vp_lt h11
  refine bk_getI X hB kl_X6 (stC i12 + 0) ((subX_St _ hi12).at lc_St_0) 0 (by decide) rfl wm_221 dX8_waitMinutes_36 ?_
  exact bk_iW X hr rfl hf hB (Nat.le_of_ble_eq_true rfl) (Nat.le_of_ble_eq_true rfl) dX8_waitMinutes_39
theorem yv_X8_waitMinutes : bYv yX8_waitMinutes RX8 cX8_waitMinutes 2 (some .int) 1 := ⟨⟨rfl, by decide, by decide, rfl⟩, wm_1314, wm_1315, wm_1, wm_1316⟩

def xX8_waitMinutes (p1 : Int32) (v : bM) : Option Nat :=
  xr (xX8_requireRange p1 1 999) <| bnr (fX8_requireRange p1 1 999) fun r2 => none
set_option maxRecDepth 100000 in
set_option maxHeartbeats 4000000 in
theorem mxX8_waitMinutes {l : Launch} (hlt : l.stackTraces = false) {p1 : Int32} {v : bM} {r0 : Nat} (hf : xX8_waitMinutes p1 v = some r0) : bMetX l yX8_waitMinutes cX8_waitMinutes 2 (some .int) 7 1 6 LX (fun E a => [.ref a, .int p1]) v r0 := by
  refine bk_startX (by decide +kernel) wfX (fun _ _ => Nat.le_of_ble_eq_true rfl) ?_
  intro p e s m args below meth c D E a ls H locs X hr hxt hl hB
  have hx := X.1
  have hb := X.2.1
  have hown := X.2.2.2.1
  have hts := X.2.2.2.2.1
  have hl : lv_has ls 2 [(0, .ref a), (1, .int p1)] := hl
  have hf := (xX8_waitMinutes.eq_1 p1 v).symm.trans hf
  refine lv_iload_n hx hb dX8_waitMinutes_0 rfl (lv_at hl 1 rfl) ?_
  refine lv_iconst (v := 1) hx hb dX8_waitMinutes_1 (by decide) ?_
  refine lv_sipush (v := 999) hx hb dX8_waitMinutes_2 (by decide) ?_
  refine xr_cases hf (fun hX => ?_) (fun hf => ?_)
  · exact bk_nonX (v0 := v) hxt X hB (fun h1 h2 h3 => bk_runSX X (Av := [.int p1, .int 1, .int 999]) (rest := []) (mxX8_requireRange hlt hX) ys_X8_requireRange wm_1084 ⟨Nat.le_of_ble_eq_true rfl, Nat.le_of_ble_eq_true rfl⟩ rfl rfl hl.1 h1 h2 h3 (Nat.le_of_ble_eq_true rfl) ⟨Nat.le_of_ble_eq_true rfl, Nat.le_of_ble_eq_true rfl⟩ dX8_waitMinutes_5)
  obtain ⟨r2, hc1, hf⟩ := bnr_some hf
  refine bk_non (v0 := v) (w0 := v) hB (fun h1 h2 h3 => bk_runS X (Av := [.int p1, .int 1, .int 999]) (rest := []) (mX8_requireRange hc1) ys_X8_requireRange wm_1084 ⟨Nat.le_of_ble_eq_true rfl, Nat.le_of_ble_eq_true rfl⟩ rfl rfl hl.1 h1 h2 h3 (Nat.le_of_ble_eq_true rfl) ⟨Nat.le_of_ble_eq_true rfl, Nat.le_of_ble_eq_true rfl⟩ dX8_waitMinutes_5) (fun H locs hB => ?_)
  refine W.eq (g2 := F0 m 8 ls []) rfl ?_
  cases hf

theorem dX8_undo_0 : decode cX8_undo 0 = .ok (.aload_n 0, 1) := by decide +kernel
theorem dX8_undo_1 : decode cX8_undo 1 = .ok (.getfield 22, 3) := by decide +kernel
theorem dX8_undo_4 : decode cX8_undo 4 = .ok (.getfield 124, 3) := by decide +kernel
theorem dX8_undo_7 : decode cX8_undo 7 = .ok (.ifCond .le 7, 3) := by decide +kernel
theorem dX8_undo_10 : decode cX8_undo 10 = .ok (.iconst 1, 1) := by decide +kernel
theorem dX8_undo_11 : decode cX8_undo 11 = .ok (.goto 4, 3) := by decide +kernel
theorem dX8_undo_14 : decode cX8_undo 14 = .ok (.iconst 0, 1) := by decide +kernel
theorem dX8_undo_15 : decode cX8_undo 15 = .ok (.invokestatic 264, 3) := by decide +kernel
theorem dX8_undo_18 : decode cX8_undo 18 = .ok (.aload_n 0, 1) := by decide +kernel
theorem dX8_undo_19 : decode cX8_undo 19 = .ok (.getfield 22, 3) := by decide +kernel
theorem dX8_undo_22 : decode cX8_undo 22 = .ok (.aload_n 0, 1) := by decide +kernel
theorem dX8_undo_23 : decode cX8_undo 23 = .ok (.getfield 10, 3) := by decide +kernel
theorem dX8_undo_26 : decode cX8_undo 26 = .ok (.invokevirtual 329, 3) := by decide +kernel
theorem dX8_undo_29 : decode cX8_undo 29 = .ok (.aload_n 0, 1) := by decide +kernel
theorem dX8_undo_30 : decode cX8_undo 30 = .ok (.getfield 22, 3) := by decide +kernel
theorem dX8_undo_33 : decode cX8_undo 33 = .ok (.getfield 124, 3) := by decide +kernel
theorem dX8_undo_36 : decode cX8_undo 36 = .ok (.ireturn, 1) := by decide +kernel
def fX8_undo_J15  (y1 : Int32) (v2 : bM) : Option (Int32 × bM) :=
  bnr (fX8_requireState y1) fun r4 => ck (v2 0) 12 <| nm (v2 0).toNatClampNeg fun i6 => bnw (fX3_takeBack i6 v2) fun w8 => some (w8 1182, w8)
def fX8_undo  (v : bM) : Option (Int32 × bM) :=
  (if (v 1182) ≤ 0 then (fX8_undo_J15 0 v) else (fX8_undo_J15 1 v))
set_option maxRecDepth 100000 in
set_option maxHeartbeats 4000000 in
theorem mX8_undo {l : Launch}  {v : bM} {r0 : Int32} {w0 : bM} (hf : fX8_undo  v = some (r0, w0)) : bMet l yX8_undo cX8_undo 1 (some .int) 5 0 0 LX (fun E a => [.ref a]) v w0 (fun _ => some (.int r0)) := by
  refine bk_start (by decide +kernel) wfX (fun _ _ => Nat.le_of_ble_eq_true rfl) ?_
  intro p e s m args below meth c D E a ls H locs X hr hl hB
  have hx := X.1
  have hb := X.2.1
  have hown := X.2.2.2.1
  have hts := X.2.2.2.2.1
  have hl : lv_has ls 1 [(0, .ref a)] := hl
  have hf := (fX8_undo.eq_1  v).symm.trans hf
  refine lv_aload_n hx hb dX8_undo_0 rfl (lv_at hl 0 rfl) ?_
  refine bk_getR X hB kl_X8 0 lc_X_0 2 (by decide) rfl wm_656 dX8_undo_1 ?_
  refine bk_getI X hB kl_X3 143 lc_X_143 0 (by decide) rfl wm_273 dX8_undo_4 ?_
  have hJ15 : ∀ (y1 : Int32) (v2 : bM) (H : Heap) (locs : List Loc) (ls : Array Slot), fX8_undo_J15 y1 v2 = some (r0, w0) → bB D E LX a v2 s H locs → lv_has ls 1 [(0, .ref a)] → W p l e (rmOf 5 0 0) s m args below meth c H locs 0 0 (bQ below D E LX a w0 (some (.int r0)) args s 0 0) (F0 m 15 ls [.int y1]) := by
    intro y1 v2 H locs ls hf hB hl
    have hf := (fX8_undo_J15.eq_1  y1 v2).symm.trans hf
    obtain ⟨r4, hc3, hf⟩ := bnr_some hf
    refine bk_non (v0 := v2) (w0 := v2) hB (fun h1 h2 h3 => bk_runS X (Av := [.int y1]) (rest := []) (mX8_requireState hc3) ys_X8_requireState wm_1212 ⟨Nat.le_of_ble_eq_true rfl, Nat.le_of_ble_eq_true rfl⟩ rfl rfl hl.1 h1 h2 h3 (Nat.le_of_ble_eq_true rfl) ⟨Nat.le_of_ble_eq_true rfl, Nat.le_of_ble_eq_true rfl⟩ dX8_undo_15) (fun H locs hB => ?_)
    refine W.eq (g2 := F0 m 18 ls []) rfl ?_
    refine lv_aload_n hx hb dX8_undo_18 rfl (lv_at hl 0 rfl) ?_
    refine bk_getR X hB kl_X8 0 lc_X_0 2 (by decide) rfl wm_656 dX8_undo_19 ?_
    refine lv_aload_n hx hb dX8_undo_22 rfl (lv_at hl 0 rfl) ?_
    obtain ⟨h5, hf⟩ := ck_some hf
    refine bk_getS X hB kl_X8 0 lc_X_0 0 (by decide) rfl h5 wm_654 dX8_undo_23 ?_
    obtain ⟨i6, ei6⟩ : ∃ y : Nat, y = (v2 0).toNatClampNeg := ⟨_, rfl⟩
    have hf := nm_use hf ei6
    rw [← ei6]
    have hi6 : i6 < 12 := by rw [ei6]; exact vp_lt h5
    obtain ⟨w8, hc7, hf⟩ := bnw_some hf
    refine bk_all hB (fun h1 h2 h3 => bk_runV X (Av := [.ref (a + (stC i6 + 0))]) (rest := []) (mX3_takeBack hc7) yv_X3_takeBack wm_1324 ⟨Nat.le_of_ble_eq_true rfl, Nat.le_of_ble_eq_true rfl⟩ rfl rfl hl.1 kl_X3.1 (hB.1.obj lc_X_143) h1 h2 h3 (Nat.le_of_ble_eq_true rfl) ⟨Nat.le_of_ble_eq_true rfl, Nat.le_of_ble_eq_true rfl⟩ dX8_undo_26) (fun H locs hB => ?_)
    refine W.eq (g2 := F0 m 29 ls []) rfl ?_
    refine lv_aload_n hx hb dX8_undo_29 rfl (lv_at hl 0 rfl) ?_
    refine bk_getR X hB kl_X8 0 lc_X_0 2 (by decide) rfl wm_656 dX8_undo_30 ?_
    refine bk_getI X hB kl_X3 143 lc_X_143 0 (by decide) rfl wm_273 dX8_undo_33 ?_
    exact bk_iW X hr rfl hf hB (Nat.le_of_ble_eq_true rfl) (Nat.le_of_ble_eq_true rfl) dX8_undo_36
  refine lv_if_le (tgt := 14) hx hb dX8_undo_7 (by decide) (fun c9 => ?_) (fun c9 => ?_)
  · have hf := (if_pos c9).symm.trans hf
    refine lv_iconst (v := 0) hx hb dX8_undo_14 (by decide) ?_
    exact hJ15 0 v H locs ls hf hB (lv_sub hl [0] rfl)
  · have hf := (if_neg c9).symm.trans hf
    refine lv_iconst (v := 1) hx hb dX8_undo_10 (by decide) ?_
    refine lv_goto (tgt := 15) hx hb dX8_undo_11 (by decide) ?_
    exact hJ15 1 v H locs ls hf hB (lv_sub hl [0] rfl)
theorem yv_X8_undo : bYv yX8_undo RX8 cX8_undo 1 (some .int) 0 := ⟨⟨rfl, by decide, by decide, rfl⟩, wm_1321, wm_1322, wm_1, wm_1323⟩

def xX8_undo_J15  (y1 : Int32) : Option Nat :=
  xr (xX8_requireState y1) <| bnr (fX8_requireState y1) fun r3 => none
def xX8_undo  (v : bM) : Option Nat :=
  (if (v 1182) ≤ 0 then (xX8_undo_J15 0) else (xX8_undo_J15 1))
set_option maxRecDepth 100000 in
set_option maxHeartbeats 4000000 in
theorem mxX8_undo {l : Launch} (hlt : l.stackTraces = false)  {v : bM} {r0 : Nat} (hf : xX8_undo  v = some r0) : bMetX l yX8_undo cX8_undo 1 (some .int) 7 1 6 LX (fun E a => [.ref a]) v r0 := by
  refine bk_startX (by decide +kernel) wfX (fun _ _ => Nat.le_of_ble_eq_true rfl) ?_
  intro p e s m args below meth c D E a ls H locs X hr hxt hl hB
  have hx := X.1
  have hb := X.2.1
  have hown := X.2.2.2.1
  have hts := X.2.2.2.2.1
  have hl : lv_has ls 1 [(0, .ref a)] := hl
  have hf := (xX8_undo.eq_1  v).symm.trans hf
  refine lv_aload_n hx hb dX8_undo_0 rfl (lv_at hl 0 rfl) ?_
  refine bk_getR X hB kl_X8 0 lc_X_0 2 (by decide) rfl wm_656 dX8_undo_1 ?_
  refine bk_getI X hB kl_X3 143 lc_X_143 0 (by decide) rfl wm_273 dX8_undo_4 ?_
  have hJ15 : ∀ (y1 : Int32) (H : Heap) (locs : List Loc) (ls : Array Slot), xX8_undo_J15 y1 = some r0 → bB D E LX a v s H locs → lv_has ls 1 [(0, .ref a)] → W p l e (rmOf 7 1 6) s m args below meth c H locs 0 0 (bQX below D E LX a v r0 args s 1 6) (F0 m 15 ls [.int y1]) := by
    intro y1 H locs ls hf hB hl
    have hf := (xX8_undo_J15.eq_1  y1).symm.trans hf
    refine xr_cases hf (fun hX => ?_) (fun hf => ?_)
    · exact bk_nonX (v0 := v) hxt X hB (fun h1 h2 h3 => bk_runSX X (Av := [.int y1]) (rest := []) (mxX8_requireState hlt hX) ys_X8_requireState wm_1212 ⟨Nat.le_of_ble_eq_true rfl, Nat.le_of_ble_eq_true rfl⟩ rfl rfl hl.1 h1 h2 h3 (Nat.le_of_ble_eq_true rfl) ⟨Nat.le_of_ble_eq_true rfl, Nat.le_of_ble_eq_true rfl⟩ dX8_undo_15)
    obtain ⟨r3, hc2, hf⟩ := bnr_some hf
    refine bk_non (v0 := v) (w0 := v) hB (fun h1 h2 h3 => bk_runS X (Av := [.int y1]) (rest := []) (mX8_requireState hc2) ys_X8_requireState wm_1212 ⟨Nat.le_of_ble_eq_true rfl, Nat.le_of_ble_eq_true rfl⟩ rfl rfl hl.1 h1 h2 h3 (Nat.le_of_ble_eq_true rfl) ⟨Nat.le_of_ble_eq_true rfl, Nat.le_of_ble_eq_true rfl⟩ dX8_undo_15) (fun H locs hB => ?_)
    refine W.eq (g2 := F0 m 18 ls []) rfl ?_
    cases hf
  refine lv_if_le (tgt := 14) hx hb dX8_undo_7 (by decide) (fun c4 => ?_) (fun c4 => ?_)
  · have hf := (if_pos c4).symm.trans hf
    refine lv_iconst (v := 0) hx hb dX8_undo_14 (by decide) ?_
    exact hJ15 0 H locs ls hf hB (lv_sub hl [0] rfl)
  · have hf := (if_neg c4).symm.trans hf
    refine lv_iconst (v := 1) hx hb dX8_undo_10 (by decide) ?_
    refine lv_goto (tgt := 15) hx hb dX8_undo_11 (by decide) ?_
    exact hJ15 1 H locs ls hf hB (lv_sub hl [0] rfl)

theorem dX8_save_0 : decode cX8_save 0 = .ok (.iload_n 1, 1) := by decide +kernel
theorem dX8_save_1 : decode cX8_save 1 = .ok (.iconst 0, 1) := by decide +kernel
theorem dX8_save_2 : decode cX8_save 2 = .ok (.iconst 1, 1) := by decide +kernel
theorem dX8_save_3 : decode cX8_save 3 = .ok (.invokestatic 197, 3) := by decide +kernel
theorem dX8_save_6 : decode cX8_save 6 = .ok (.aload_n 0, 1) := by decide +kernel
theorem dX8_save_7 : decode cX8_save 7 = .ok (.getfield 26, 3) := by decide +kernel
theorem dX8_save_10 : decode cX8_save 10 = .ok (.iload_n 1, 1) := by decide +kernel
theorem dX8_save_11 : decode cX8_save 11 = .ok (.aaload, 1) := by decide +kernel
theorem dX8_save_12 : decode cX8_save 12 = .ok (.aload_n 0, 1) := by decide +kernel
theorem dX8_save_13 : decode cX8_save 13 = .ok (.getfield 10, 3) := by decide +kernel
theorem dX8_save_16 : decode cX8_save 16 = .ok (.invokevirtual 102, 3) := by decide +kernel
theorem dX8_save_19 : decode cX8_save 19 = .ok (.aload_n 0, 1) := by decide +kernel
theorem dX8_save_20 : decode cX8_save 20 = .ok (.getfield 30, 3) := by decide +kernel
theorem dX8_save_23 : decode cX8_save 23 = .ok (.iload_n 1, 1) := by decide +kernel
theorem dX8_save_24 : decode cX8_save 24 = .ok (.iconst 1, 1) := by decide +kernel
theorem dX8_save_25 : decode cX8_save 25 = .ok (.bastore, 1) := by decide +kernel
theorem dX8_save_26 : decode cX8_save 26 = .ok (.aload_n 0, 1) := by decide +kernel
theorem dX8_save_27 : decode cX8_save 27 = .ok (.getfield 10, 3) := by decide +kernel
theorem dX8_save_30 : decode cX8_save 30 = .ok (.getfield 121, 3) := by decide +kernel
theorem dX8_save_33 : decode cX8_save 33 = .ok (.ireturn, 1) := by decide +kernel
def fX8_save (p1 : Int32) (v : bM) : Option (Int32 × bM) :=
  bnr (fX8_requireRange p1 0 1) fun r2 => ck p1 2 <| nm (10 + p1.toNatClampNeg) fun i4 => ck (v 0) 12 <| nm (v 0).toNatClampNeg fun i6 => cne i4 i6 <| bnw (fX6_copyFrom (vw v (stO i4)) (vw v (stO i6))) fun w8 => nm (spl v (stO i4) 590 w8) fun v10 => ck p1 2 <| nm (upd v10 (7084 + p1.toNatClampNeg) 1) fun v12 => ck (v12 0) 12 <| nm (v12 0).toNatClampNeg fun i14 => some (v12 (stO i14 + 1), v12)
set_option maxRecDepth 100000 in
set_option maxHeartbeats 4000000 in
theorem mX8_save {l : Launch} {p1 : Int32} {v : bM} {r0 : Int32} {w0 : bM} (hf : fX8_save p1 v = some (r0, w0)) : bMet l yX8_save cX8_save 2 (some .int) 4 0 0 LX (fun E a => [.ref a, .int p1]) v w0 (fun _ => some (.int r0)) := by
  refine bk_start (by decide +kernel) wfX (fun _ _ => Nat.le_of_ble_eq_true rfl) ?_
  intro p e s m args below meth c D E a ls H locs X hr hl hB
  have hx := X.1
  have hb := X.2.1
  have hown := X.2.2.2.1
  have hts := X.2.2.2.2.1
  have hl : lv_has ls 2 [(0, .ref a), (1, .int p1)] := hl
  have hf := (fX8_save.eq_1 p1 v).symm.trans hf
  refine lv_iload_n hx hb dX8_save_0 rfl (lv_at hl 1 rfl) ?_
  refine lv_iconst (v := 0) hx hb dX8_save_1 (by decide) ?_
  refine lv_iconst (v := 1) hx hb dX8_save_2 (by decide) ?_
  obtain ⟨r2, hc1, hf⟩ := bnr_some hf
  refine bk_non (v0 := v) (w0 := v) hB (fun h1 h2 h3 => bk_runS X (Av := [.int p1, .int 0, .int 1]) (rest := []) (mX8_requireRange hc1) ys_X8_requireRange wm_1084 ⟨Nat.le_of_ble_eq_true rfl, Nat.le_of_ble_eq_true rfl⟩ rfl rfl hl.1 h1 h2 h3 (Nat.le_of_ble_eq_true rfl) ⟨Nat.le_of_ble_eq_true rfl, Nat.le_of_ble_eq_true rfl⟩ dX8_save_3) (fun H locs hB => ?_)
  refine W.eq (g2 := F0 m 6 ls []) rfl ?_
  refine lv_aload_n hx hb dX8_save_6 rfl (lv_at hl 0 rfl) ?_
  refine bk_getR X hB kl_X8 0 lc_X_0 3 (by decide) rfl wm_657 dX8_save_7 ?_
  refine lv_iload_n hx hb dX8_save_10 rfl (lv_at hl 1 rfl) ?_
  obtain ⟨h3, hf⟩ := ck_some hf
  refine bk_sldX X hB 713 lc_X_713 10 (fun j hj => stC_10 j hj) h3 dX8_save_11 ?_
  obtain ⟨i4, ei4⟩ : ∃ y : Nat, y = 10 + p1.toNatClampNeg := ⟨_, rfl⟩
  have hf := nm_use hf ei4
  rw [← ei4]
  have hi4 : i4 < 12 := by have := vp_lt h3; omega
  refine lv_aload_n hx hb dX8_save_12 rfl (lv_at hl 0 rfl) ?_
  obtain ⟨h5, hf⟩ := ck_some hf
  refine bk_getS X hB kl_X8 0 lc_X_0 0 (by decide) rfl h5 wm_654 dX8_save_13 ?_
  obtain ⟨i6, ei6⟩ : ∃ y : Nat, y = (v 0).toNatClampNeg := ⟨_, rfl⟩
  have hf := nm_use hf ei6
  rw [← ei6]
  have hi6 : i6 < 12 := by rw [ei6]; exact vp_lt h5
  obtain ⟨h9, hf⟩ := cne_some hf
  obtain ⟨w8, hc7, hf⟩ := bnw_some hf
  refine bk_sub (subX_St _ hi4) hB (fun h1 h2 h3 => bk_runV2 X (Av := [.ref (a + (stC i6 + 0))]) (rest := []) (mX6_copyFrom hc7) yv_X6_copyFrom wm_703 ⟨Nat.le_of_ble_eq_true rfl, Nat.le_of_ble_eq_true rfl⟩ rfl rfl hl.1 kl_X6.1 (hB.1.obj ((subX_St _ hi4).at lc_St_0)) (hB.1.sub (subX_St _ hi6)) (apX a hi4 hi6 h9) h1 h2 h3 (Nat.le_of_ble_eq_true rfl) ⟨Nat.le_of_ble_eq_true rfl, Nat.le_of_ble_eq_true rfl⟩ dX8_save_16) (fun H locs hB => ?_)
  refine W.eq (g2 := F0 m 19 ls []) rfl ?_
  obtain ⟨v10, ev10⟩ : ∃ y : bM, y = spl v (stO i4) 590 w8 := ⟨_, rfl⟩
  have hf := nm_use hf ev10
  rw [← ev10] at hB
  refine lv_aload_n hx hb dX8_save_19 rfl (lv_at hl 0 rfl) ?_
  refine bk_getR X hB kl_X8 0 lc_X_0 4 (by decide) rfl wm_658 dX8_save_20 ?_
  refine lv_iload_n hx hb dX8_save_23 rfl (lv_at hl 1 rfl) ?_
  refine lv_iconst (v := 1) hx hb dX8_save_24 (by decide) ?_
  obtain ⟨h11, hf⟩ := ck_some hf
  refine bk_zst X hB 856 lc_X_856 h11 rfl dX8_save_25 (fun H locs hB => ?_)
  obtain ⟨v12, ev12⟩ : ∃ y : bM, y = upd v10 (7084 + p1.toNatClampNeg) 1 := ⟨_, rfl⟩
  have hf := nm_use hf ev12
  rw [← ev12] at hB
  refine lv_aload_n hx hb dX8_save_26 rfl (lv_at hl 0 rfl) ?_
  obtain ⟨h13, hf⟩ := ck_some hf
  refine bk_getS X hB kl_X8 0 lc_X_0 0 (by decide) rfl h13 wm_654 dX8_save_27 ?_
  obtain ⟨i14, ei14⟩ : ∃ y : Nat, y = (v12 0).toNatClampNeg := ⟨_, rfl⟩
  have hf := nm_use hf ei14
  rw [← ei14]
  have hi14 : i14 < 12 := by rw [ei14]; exact vp_lt h13
  refine bk_getI X hB kl_X6 (stC i14 + 0) ((subX_St _ hi14).at lc_St_0) 1 (by decide) rfl wm_224 dX8_save_30 ?_
  exact bk_iW X hr rfl hf hB (Nat.le_of_ble_eq_true rfl) (Nat.le_of_ble_eq_true rfl) dX8_save_33
theorem yv_X8_save : bYv yX8_save RX8 cX8_save 2 (some .int) 1 := ⟨⟨rfl, by decide, by decide, rfl⟩, wm_1332, wm_1333, wm_1, wm_1334⟩

def xX8_save (p1 : Int32) (v : bM) : Option Nat :=
  xr (xX8_requireRange p1 0 1) <| bnr (fX8_requireRange p1 0 1) fun r2 => none
set_option maxRecDepth 100000 in
set_option maxHeartbeats 4000000 in
theorem mxX8_save {l : Launch} (hlt : l.stackTraces = false) {p1 : Int32} {v : bM} {r0 : Nat} (hf : xX8_save p1 v = some r0) : bMetX l yX8_save cX8_save 2 (some .int) 7 1 6 LX (fun E a => [.ref a, .int p1]) v r0 := by
  refine bk_startX (by decide +kernel) wfX (fun _ _ => Nat.le_of_ble_eq_true rfl) ?_
  intro p e s m args below meth c D E a ls H locs X hr hxt hl hB
  have hx := X.1
  have hb := X.2.1
  have hown := X.2.2.2.1
  have hts := X.2.2.2.2.1
  have hl : lv_has ls 2 [(0, .ref a), (1, .int p1)] := hl
  have hf := (xX8_save.eq_1 p1 v).symm.trans hf
  refine lv_iload_n hx hb dX8_save_0 rfl (lv_at hl 1 rfl) ?_
  refine lv_iconst (v := 0) hx hb dX8_save_1 (by decide) ?_
  refine lv_iconst (v := 1) hx hb dX8_save_2 (by decide) ?_
  refine xr_cases hf (fun hX => ?_) (fun hf => ?_)
  · exact bk_nonX (v0 := v) hxt X hB (fun h1 h2 h3 => bk_runSX X (Av := [.int p1, .int 0, .int 1]) (rest := []) (mxX8_requireRange hlt hX) ys_X8_requireRange wm_1084 ⟨Nat.le_of_ble_eq_true rfl, Nat.le_of_ble_eq_true rfl⟩ rfl rfl hl.1 h1 h2 h3 (Nat.le_of_ble_eq_true rfl) ⟨Nat.le_of_ble_eq_true rfl, Nat.le_of_ble_eq_true rfl⟩ dX8_save_3)
  obtain ⟨r2, hc1, hf⟩ := bnr_some hf
  refine bk_non (v0 := v) (w0 := v) hB (fun h1 h2 h3 => bk_runS X (Av := [.int p1, .int 0, .int 1]) (rest := []) (mX8_requireRange hc1) ys_X8_requireRange wm_1084 ⟨Nat.le_of_ble_eq_true rfl, Nat.le_of_ble_eq_true rfl⟩ rfl rfl hl.1 h1 h2 h3 (Nat.le_of_ble_eq_true rfl) ⟨Nat.le_of_ble_eq_true rfl, Nat.le_of_ble_eq_true rfl⟩ dX8_save_3) (fun H locs hB => ?_)
  refine W.eq (g2 := F0 m 6 ls []) rfl ?_
  cases hf

theorem dX8_restore_0 : decode cX8_restore 0 = .ok (.iload_n 1, 1) := by decide +kernel
theorem dX8_restore_1 : decode cX8_restore 1 = .ok (.iconst 0, 1) := by decide +kernel
theorem dX8_restore_2 : decode cX8_restore 2 = .ok (.iconst 1, 1) := by decide +kernel
theorem dX8_restore_3 : decode cX8_restore 3 = .ok (.invokestatic 197, 3) := by decide +kernel
theorem dX8_restore_6 : decode cX8_restore 6 = .ok (.aload_n 0, 1) := by decide +kernel
theorem dX8_restore_7 : decode cX8_restore 7 = .ok (.getfield 30, 3) := by decide +kernel
theorem dX8_restore_10 : decode cX8_restore 10 = .ok (.iload_n 1, 1) := by decide +kernel
theorem dX8_restore_11 : decode cX8_restore 11 = .ok (.baload, 1) := by decide +kernel
theorem dX8_restore_12 : decode cX8_restore 12 = .ok (.ifCond .ne 14, 3) := by decide +kernel
theorem dX8_restore_15 : decode cX8_restore 15 = .ok (.new 332, 3) := by decide +kernel
theorem dX8_restore_18 : decode cX8_restore 18 = .ok (.dup, 1) := by decide +kernel
theorem dX8_restore_19 : decode cX8_restore 19 = .ok (.ldc_w 334, 3) := by decide +kernel
theorem dX8_restore_22 : decode cX8_restore 22 = .ok (.invokespecial 336, 3) := by decide +kernel
theorem dX8_restore_25 : decode cX8_restore 25 = .ok (.athrow, 1) := by decide +kernel
theorem dX8_restore_26 : decode cX8_restore 26 = .ok (.aload_n 0, 1) := by decide +kernel
theorem dX8_restore_27 : decode cX8_restore 27 = .ok (.getfield 10, 3) := by decide +kernel
theorem dX8_restore_30 : decode cX8_restore 30 = .ok (.aload_n 0, 1) := by decide +kernel
theorem dX8_restore_31 : decode cX8_restore 31 = .ok (.getfield 26, 3) := by decide +kernel
theorem dX8_restore_34 : decode cX8_restore 34 = .ok (.iload_n 1, 1) := by decide +kernel
theorem dX8_restore_35 : decode cX8_restore 35 = .ok (.aaload, 1) := by decide +kernel
theorem dX8_restore_36 : decode cX8_restore 36 = .ok (.invokevirtual 102, 3) := by decide +kernel
theorem dX8_restore_39 : decode cX8_restore 39 = .ok (.aload_n 0, 1) := by decide +kernel
theorem dX8_restore_40 : decode cX8_restore 40 = .ok (.getfield 22, 3) := by decide +kernel
theorem dX8_restore_43 : decode cX8_restore 43 = .ok (.invokevirtual 90, 3) := by decide +kernel
theorem dX8_restore_46 : decode cX8_restore 46 = .ok (.aload_n 0, 1) := by decide +kernel
theorem dX8_restore_47 : decode cX8_restore 47 = .ok (.getfield 10, 3) := by decide +kernel
theorem dX8_restore_50 : decode cX8_restore 50 = .ok (.getfield 121, 3) := by decide +kernel
theorem dX8_restore_53 : decode cX8_restore 53 = .ok (.ireturn, 1) := by decide +kernel
def fX8_restore (p1 : Int32) (v : bM) : Option (Int32 × bM) :=
  bnr (fX8_requireRange p1 0 1) fun r2 => ck p1 2 <| (if (v (7084 + p1.toNatClampNeg)) = 0 then (none) else (ck (v 0) 12 <| nm (v 0).toNatClampNeg fun i6 => ck p1 2 <| nm (10 + p1.toNatClampNeg) fun i8 => cne i6 i8 <| bnw (fX6_copyFrom (vw v (stO i6)) (vw v (stO i8))) fun w10 => nm (spl v (stO i6) 590 w10) fun v12 => bnw (fX3_forget v12) fun w14 => ck (w14 0) 12 <| nm (w14 0).toNatClampNeg fun i16 => some (w14 (stO i16 + 1), w14)))
set_option maxRecDepth 100000 in
set_option maxHeartbeats 4000000 in
theorem mX8_restore {l : Launch} {p1 : Int32} {v : bM} {r0 : Int32} {w0 : bM} (hf : fX8_restore p1 v = some (r0, w0)) : bMet l yX8_restore cX8_restore 2 (some .int) 4 0 0 LX (fun E a => [.ref a, .int p1]) v w0 (fun _ => some (.int r0)) := by
  refine bk_start (by decide +kernel) wfX (fun _ _ => Nat.le_of_ble_eq_true rfl) ?_
  intro p e s m args below meth c D E a ls H locs X hr hl hB
  have hx := X.1
  have hb := X.2.1
  have hown := X.2.2.2.1
  have hts := X.2.2.2.2.1
  have hl : lv_has ls 2 [(0, .ref a), (1, .int p1)] := hl
  have hf := (fX8_restore.eq_1 p1 v).symm.trans hf
  refine lv_iload_n hx hb dX8_restore_0 rfl (lv_at hl 1 rfl) ?_
  refine lv_iconst (v := 0) hx hb dX8_restore_1 (by decide) ?_
  refine lv_iconst (v := 1) hx hb dX8_restore_2 (by decide) ?_
  obtain ⟨r2, hc1, hf⟩ := bnr_some hf
  refine bk_non (v0 := v) (w0 := v) hB (fun h1 h2 h3 => bk_runS X (Av := [.int p1, .int 0, .int 1]) (rest := []) (mX8_requireRange hc1) ys_X8_requireRange wm_1084 ⟨Nat.le_of_ble_eq_true rfl, Nat.le_of_ble_eq_true rfl⟩ rfl rfl hl.1 h1 h2 h3 (Nat.le_of_ble_eq_true rfl) ⟨Nat.le_of_ble_eq_true rfl, Nat.le_of_ble_eq_true rfl⟩ dX8_restore_3) (fun H locs hB => ?_)
  refine W.eq (g2 := F0 m 6 ls []) rfl ?_
  refine lv_aload_n hx hb dX8_restore_6 rfl (lv_at hl 0 rfl) ?_
  refine bk_getR X hB kl_X8 0 lc_X_0 4 (by decide) rfl wm_658 dX8_restore_7 ?_
  refine lv_iload_n hx hb dX8_restore_10 rfl (lv_at hl 1 rfl) ?_
  obtain ⟨h3, hf⟩ := ck_some hf
  refine bk_zld X hB 856 lc_X_856 h3 dX8_restore_11 ?_
  refine lv_if_ne (tgt := 26) hx hb dX8_restore_12 (by decide) (fun c4 => ?_) (fun c4 => ?_)
  · have hf := (if_neg c4).symm.trans hf
    refine lv_aload_n hx hb dX8_restore_26 rfl (lv_at hl 0 rfl) ?_
    obtain ⟨h5, hf⟩ := ck_some hf
    refine bk_getS X hB kl_X8 0 lc_X_0 0 (by decide) rfl h5 wm_654 dX8_restore_27 ?_
    obtain ⟨i6, ei6⟩ : ∃ y : Nat, y = (v 0).toNatClampNeg := ⟨_, rfl⟩
    have hf := nm_use hf ei6
    rw [← ei6]
    have hi6 : i6 < 12 := by rw [ei6]; exact vp_lt h5
    refine lv_aload_n hx hb dX8_restore_30 rfl (lv_at hl 0 rfl) ?_
    refine bk_getR X hB kl_X8 0 lc_X_0 3 (by decide) rfl wm_657 dX8_restore_31 ?_
    refine lv_iload_n hx hb dX8_restore_34 rfl (lv_at hl 1 rfl) ?_
    obtain ⟨h7, hf⟩ := ck_some hf
    refine bk_sldX X hB 713 lc_X_713 10 (fun j hj => stC_10 j hj) h7 dX8_restore_35 ?_
    obtain ⟨i8, ei8⟩ : ∃ y : Nat, y = 10 + p1.toNatClampNeg := ⟨_, rfl⟩
    have hf := nm_use hf ei8
    rw [← ei8]
    have hi8 : i8 < 12 := by have := vp_lt h7; omega
    obtain ⟨h11, hf⟩ := cne_some hf
    obtain ⟨w10, hc9, hf⟩ := bnw_some hf
    refine bk_sub (subX_St _ hi6) hB (fun h1 h2 h3 => bk_runV2 X (Av := [.ref (a + (stC i8 + 0))]) (rest := []) (mX6_copyFrom hc9) yv_X6_copyFrom wm_703 ⟨Nat.le_of_ble_eq_true rfl, Nat.le_of_ble_eq_true rfl⟩ rfl rfl hl.1 kl_X6.1 (hB.1.obj ((subX_St _ hi6).at lc_St_0)) (hB.1.sub (subX_St _ hi8)) (apX a hi6 hi8 h11) h1 h2 h3 (Nat.le_of_ble_eq_true rfl) ⟨Nat.le_of_ble_eq_true rfl, Nat.le_of_ble_eq_true rfl⟩ dX8_restore_36) (fun H locs hB => ?_)
    refine W.eq (g2 := F0 m 39 ls []) rfl ?_
    obtain ⟨v12, ev12⟩ : ∃ y : bM, y = spl v (stO i6) 590 w10 := ⟨_, rfl⟩
    have hf := nm_use hf ev12
    rw [← ev12] at hB
    refine lv_aload_n hx hb dX8_restore_39 rfl (lv_at hl 0 rfl) ?_
    refine bk_getR X hB kl_X8 0 lc_X_0 2 (by decide) rfl wm_656 dX8_restore_40 ?_
    obtain ⟨w14, hc13, hf⟩ := bnw_some hf
    refine bk_all hB (fun h1 h2 h3 => bk_runV X (Av := []) (rest := []) (mX3_forget hc13) yv_X3_forget wm_695 ⟨Nat.le_of_ble_eq_true rfl, Nat.le_of_ble_eq_true rfl⟩ rfl rfl hl.1 kl_X3.1 (hB.1.obj lc_X_143) h1 h2 h3 (Nat.le_of_ble_eq_true rfl) ⟨Nat.le_of_ble_eq_true rfl, Nat.le_of_ble_eq_true rfl⟩ dX8_restore_43) (fun H locs hB => ?_)
    refine W.eq (g2 := F0 m 46 ls []) rfl ?_
    refine lv_aload_n hx hb dX8_restore_46 rfl (lv_at hl 0 rfl) ?_
    obtain ⟨h15, hf⟩ := ck_some hf
    refine bk_getS X hB kl_X8 0 lc_X_0 0 (by decide) rfl h15 wm_654 dX8_restore_47 ?_
    obtain ⟨i16, ei16⟩ : ∃ y : Nat, y = (w14 0).toNatClampNeg := ⟨_, rfl⟩
    have hf := nm_use hf ei16
    rw [← ei16]
    have hi16 : i16 < 12 := by rw [ei16]; exact vp_lt h15
    refine bk_getI X hB kl_X6 (stC i16 + 0) ((subX_St _ hi16).at lc_St_0) 1 (by decide) rfl wm_224 dX8_restore_50 ?_
    exact bk_iW X hr rfl hf hB (Nat.le_of_ble_eq_true rfl) (Nat.le_of_ble_eq_true rfl) dX8_restore_53
  · have hf := (if_pos c4).symm.trans hf
    cases hf
theorem yv_X8_restore : bYv yX8_restore RX8 cX8_restore 2 (some .int) 1 := ⟨⟨rfl, by decide, by decide, rfl⟩, wm_1340, wm_1341, wm_1, wm_1342⟩

def xX8_restore (p1 : Int32) (v : bM) : Option Nat :=
  xr (xX8_requireRange p1 0 1) <| bnr (fX8_requireRange p1 0 1) fun r2 => ck p1 2 <| (if (v (7084 + p1.toNatClampNeg)) = 0 then (some 3) else (none))
set_option maxRecDepth 100000 in
set_option maxHeartbeats 4000000 in
theorem mxX8_restore {l : Launch} (hlt : l.stackTraces = false) {p1 : Int32} {v : bM} {r0 : Nat} (hf : xX8_restore p1 v = some r0) : bMetX l yX8_restore cX8_restore 2 (some .int) 7 1 6 LX (fun E a => [.ref a, .int p1]) v r0 := by
  refine bk_startX (by decide +kernel) wfX (fun _ _ => Nat.le_of_ble_eq_true rfl) ?_
  intro p e s m args below meth c D E a ls H locs X hr hxt hl hB
  have hx := X.1
  have hb := X.2.1
  have hown := X.2.2.2.1
  have hts := X.2.2.2.2.1
  have hl : lv_has ls 2 [(0, .ref a), (1, .int p1)] := hl
  have hf := (xX8_restore.eq_1 p1 v).symm.trans hf
  refine lv_iload_n hx hb dX8_restore_0 rfl (lv_at hl 1 rfl) ?_
  refine lv_iconst (v := 0) hx hb dX8_restore_1 (by decide) ?_
  refine lv_iconst (v := 1) hx hb dX8_restore_2 (by decide) ?_
  refine xr_cases hf (fun hX => ?_) (fun hf => ?_)
  · exact bk_nonX (v0 := v) hxt X hB (fun h1 h2 h3 => bk_runSX X (Av := [.int p1, .int 0, .int 1]) (rest := []) (mxX8_requireRange hlt hX) ys_X8_requireRange wm_1084 ⟨Nat.le_of_ble_eq_true rfl, Nat.le_of_ble_eq_true rfl⟩ rfl rfl hl.1 h1 h2 h3 (Nat.le_of_ble_eq_true rfl) ⟨Nat.le_of_ble_eq_true rfl, Nat.le_of_ble_eq_true rfl⟩ dX8_restore_3)
  obtain ⟨r2, hc1, hf⟩ := bnr_some hf
  refine bk_non (v0 := v) (w0 := v) hB (fun h1 h2 h3 => bk_runS X (Av := [.int p1, .int 0, .int 1]) (rest := []) (mX8_requireRange hc1) ys_X8_requireRange wm_1084 ⟨Nat.le_of_ble_eq_true rfl, Nat.le_of_ble_eq_true rfl⟩ rfl rfl hl.1 h1 h2 h3 (Nat.le_of_ble_eq_true rfl) ⟨Nat.le_of_ble_eq_true rfl, Nat.le_of_ble_eq_true rfl⟩ dX8_restore_3) (fun H locs hB => ?_)
  refine W.eq (g2 := F0 m 6 ls []) rfl ?_
  refine lv_aload_n hx hb dX8_restore_6 rfl (lv_at hl 0 rfl) ?_
  refine bk_getR X hB kl_X8 0 lc_X_0 4 (by decide) rfl wm_658 dX8_restore_7 ?_
  refine lv_iload_n hx hb dX8_restore_10 rfl (lv_at hl 1 rfl) ?_
  obtain ⟨h3, hf⟩ := ck_some hf
  refine bk_zld X hB 856 lc_X_856 h3 dX8_restore_11 ?_
  refine lv_if_ne (tgt := 26) hx hb dX8_restore_12 (by decide) (fun c4 => ?_) (fun c4 => ?_)
  · have hf := (if_neg c4).symm.trans hf
    cases hf
  · have hf := (if_pos c4).symm.trans hf
    exact bk_thr3 X hxt hlt hl.1 hB hf wm_1343 18 rfl dX8_restore_15 dX8_restore_18 dX8_restore_19 dX8_restore_22 dX8_restore_25 ⟨Nat.le_of_ble_eq_true rfl, Nat.le_of_ble_eq_true rfl, Nat.le_of_ble_eq_true rfl, Nat.le_of_ble_eq_true rfl⟩ (Nat.le_of_ble_eq_true rfl) (Nat.le_of_ble_eq_true rfl)
