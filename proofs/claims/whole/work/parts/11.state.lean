theorem dX6_copyFrom_0 : decode cX6_copyFrom 0 = .ok (.aload_n 0, 1) := by decide +kernel
theorem dX6_copyFrom_1 : decode cX6_copyFrom 1 = .ok (.aload_n 1, 1) := by decide +kernel
theorem dX6_copyFrom_2 : decode cX6_copyFrom 2 = .ok (.getfield 39, 3) := by decide +kernel
theorem dX6_copyFrom_5 : decode cX6_copyFrom 5 = .ok (.putfield 39, 3) := by decide +kernel
theorem dX6_copyFrom_8 : decode cX6_copyFrom 8 = .ok (.aload_n 0, 1) := by decide +kernel
theorem dX6_copyFrom_9 : decode cX6_copyFrom 9 = .ok (.aload_n 1, 1) := by decide +kernel
theorem dX6_copyFrom_10 : decode cX6_copyFrom 10 = .ok (.getfield 43, 3) := by decide +kernel
theorem dX6_copyFrom_13 : decode cX6_copyFrom 13 = .ok (.putfield 43, 3) := by decide +kernel
theorem dX6_copyFrom_16 : decode cX6_copyFrom 16 = .ok (.aload_n 0, 1) := by decide +kernel
theorem dX6_copyFrom_17 : decode cX6_copyFrom 17 = .ok (.aload_n 1, 1) := by decide +kernel
theorem dX6_copyFrom_18 : decode cX6_copyFrom 18 = .ok (.getfield 46, 3) := by decide +kernel
theorem dX6_copyFrom_21 : decode cX6_copyFrom 21 = .ok (.putfield 46, 3) := by decide +kernel
theorem dX6_copyFrom_24 : decode cX6_copyFrom 24 = .ok (.aload_n 0, 1) := by decide +kernel
theorem dX6_copyFrom_25 : decode cX6_copyFrom 25 = .ok (.aload_n 1, 1) := by decide +kernel
theorem dX6_copyFrom_26 : decode cX6_copyFrom 26 = .ok (.getfield 49, 3) := by decide +kernel
theorem dX6_copyFrom_29 : decode cX6_copyFrom 29 = .ok (.putfield 49, 3) := by decide +kernel
theorem dX6_copyFrom_32 : decode cX6_copyFrom 32 = .ok (.aload_n 0, 1) := by decide +kernel
theorem dX6_copyFrom_33 : decode cX6_copyFrom 33 = .ok (.aload_n 1, 1) := by decide +kernel
theorem dX6_copyFrom_34 : decode cX6_copyFrom 34 = .ok (.getfield 52, 3) := by decide +kernel
theorem dX6_copyFrom_37 : decode cX6_copyFrom 37 = .ok (.putfield 52, 3) := by decide +kernel
theorem dX6_copyFrom_40 : decode cX6_copyFrom 40 = .ok (.aload_n 0, 1) := by decide +kernel
theorem dX6_copyFrom_41 : decode cX6_copyFrom 41 = .ok (.aload_n 1, 1) := by decide +kernel
theorem dX6_copyFrom_42 : decode cX6_copyFrom 42 = .ok (.getfield 55, 3) := by decide +kernel
theorem dX6_copyFrom_45 : decode cX6_copyFrom 45 = .ok (.putfield 55, 3) := by decide +kernel
theorem dX6_copyFrom_48 : decode cX6_copyFrom 48 = .ok (.aload_n 0, 1) := by decide +kernel
theorem dX6_copyFrom_49 : decode cX6_copyFrom 49 = .ok (.getfield 12, 3) := by decide +kernel
theorem dX6_copyFrom_52 : decode cX6_copyFrom 52 = .ok (.aload_n 1, 1) := by decide +kernel
theorem dX6_copyFrom_53 : decode cX6_copyFrom 53 = .ok (.getfield 12, 3) := by decide +kernel
theorem dX6_copyFrom_56 : decode cX6_copyFrom 56 = .ok (.invokevirtual 58, 3) := by decide +kernel
theorem dX6_copyFrom_59 : decode cX6_copyFrom 59 = .ok (.aload_n 0, 1) := by decide +kernel
theorem dX6_copyFrom_60 : decode cX6_copyFrom 60 = .ok (.getfield 21, 3) := by decide +kernel
theorem dX6_copyFrom_63 : decode cX6_copyFrom 63 = .ok (.aload_n 1, 1) := by decide +kernel
theorem dX6_copyFrom_64 : decode cX6_copyFrom 64 = .ok (.getfield 21, 3) := by decide +kernel
theorem dX6_copyFrom_67 : decode cX6_copyFrom 67 = .ok (.invokevirtual 62, 3) := by decide +kernel
theorem dX6_copyFrom_70 : decode cX6_copyFrom 70 = .ok (.aload_n 0, 1) := by decide +kernel
theorem dX6_copyFrom_71 : decode cX6_copyFrom 71 = .ok (.getfield 28, 3) := by decide +kernel
theorem dX6_copyFrom_74 : decode cX6_copyFrom 74 = .ok (.aload_n 1, 1) := by decide +kernel
theorem dX6_copyFrom_75 : decode cX6_copyFrom 75 = .ok (.getfield 28, 3) := by decide +kernel
theorem dX6_copyFrom_78 : decode cX6_copyFrom 78 = .ok (.invokevirtual 65, 3) := by decide +kernel
theorem dX6_copyFrom_81 : decode cX6_copyFrom 81 = .ok (.aload_n 0, 1) := by decide +kernel
theorem dX6_copyFrom_82 : decode cX6_copyFrom 82 = .ok (.getfield 35, 3) := by decide +kernel
theorem dX6_copyFrom_85 : decode cX6_copyFrom 85 = .ok (.aload_n 1, 1) := by decide +kernel
theorem dX6_copyFrom_86 : decode cX6_copyFrom 86 = .ok (.getfield 35, 3) := by decide +kernel
theorem dX6_copyFrom_89 : decode cX6_copyFrom 89 = .ok (.invokevirtual 68, 3) := by decide +kernel
theorem dX6_copyFrom_92 : decode cX6_copyFrom 92 = .ok (.return_, 1) := by decide +kernel
def fX6_copyFrom  (v u : bM) : Option bM :=
  nm (u 0) fun x1 => nm (upd v 0 x1) fun v2 => nm (u 1) fun x3 => nm (upd v2 1 x3) fun v4 => nm (u 2) fun x5 => nm (upd v4 2 x5) fun v6 => nm (u 3) fun x7 => nm (upd v6 3 x7) fun v8 => nm (u 4) fun x9 => nm (upd v8 4 x9) fun v10 => nm (u 5) fun x11 => nm (upd v10 5 x11) fun v12 => bnw (fX2_copyFrom (vw v12 6) (vw u 6)) fun w14 => nm (spl v12 6 169 w14) fun v15 => bnw (fX1_copyFrom (vw v15 175) (vw u 175)) fun w17 => nm (spl v15 175 73 w17) fun v18 => bnw (fX5_copyFrom (vw v18 248) (vw u 248)) fun w20 => nm (spl v18 248 29 w20) fun v21 => bnw (fX0_copyFrom (vw v21 277) (vw u 277)) fun w23 => nm (spl v21 277 313 w23) fun v24 => some v24
set_option maxRecDepth 100000 in
set_option maxHeartbeats 4000000 in
theorem mX6_copyFrom {l : Launch}  {v u : bM} {w0 : bM} (hf : fX6_copyFrom  v u = some w0) : bMet2 l yX6_copyFrom cX6_copyFrom 2 none 3 LSt (fun E a b => [.ref a, .ref b]) v u w0 (fun _ => none) := by
  refine bk_start2 (by decide +kernel) wfSt (fun _ _ _ => Nat.le_of_ble_eq_true rfl) ?_
  intro p e s m args below meth c D E a b ls H locs X hr hl hB hu hab
  have hx := X.1
  have hb := X.2.1
  have hown := X.2.2.2.1
  have hts := X.2.2.2.2.1
  have hl : lv_has ls 2 [(0, .ref a), (1, .ref b)] := hl
  have hf := (fX6_copyFrom.eq_1  v u).symm.trans hf
  refine lv_aload_n hx hb dX6_copyFrom_0 rfl (lv_at hl 0 rfl) ?_
  refine lv_aload_n hx hb dX6_copyFrom_1 rfl (lv_at hl 1 rfl) ?_
  refine bk_getI0 X (srcK plSt hB hu hab) kl_X6 0 lc_St_0 0 (by decide) rfl wm_220 dX6_copyFrom_2 ?_
  refine lv_topi (fun x1 ex1 => ?_)
  have hf := nm_use hf ex1
  refine bk_putI X hB kl_X6 0 lc_St_0 0 (by decide) rfl rfl rfl wm_220 dX6_copyFrom_5 rfl (fun H locs hB => ?_)
  obtain ⟨v2, ev2⟩ : ∃ y : bM, y = upd v 0 x1 := ⟨_, rfl⟩
  have hf := nm_use hf ev2
  rw [← ev2] at hB
  refine lv_aload_n hx hb dX6_copyFrom_8 rfl (lv_at hl 0 rfl) ?_
  refine lv_aload_n hx hb dX6_copyFrom_9 rfl (lv_at hl 1 rfl) ?_
  refine bk_getI0 X (srcK plSt hB hu hab) kl_X6 0 lc_St_0 1 (by decide) rfl wm_223 dX6_copyFrom_10 ?_
  refine lv_topi (fun x3 ex3 => ?_)
  have hf := nm_use hf ex3
  refine bk_putI X hB kl_X6 0 lc_St_0 1 (by decide) rfl rfl rfl wm_223 dX6_copyFrom_13 rfl (fun H locs hB => ?_)
  obtain ⟨v4, ev4⟩ : ∃ y : bM, y = upd v2 1 x3 := ⟨_, rfl⟩
  have hf := nm_use hf ev4
  rw [← ev4] at hB
  refine lv_aload_n hx hb dX6_copyFrom_16 rfl (lv_at hl 0 rfl) ?_
  refine lv_aload_n hx hb dX6_copyFrom_17 rfl (lv_at hl 1 rfl) ?_
  refine bk_getI0 X (srcK plSt hB hu hab) kl_X6 0 lc_St_0 2 (by decide) rfl wm_225 dX6_copyFrom_18 ?_
  refine lv_topi (fun x5 ex5 => ?_)
  have hf := nm_use hf ex5
  refine bk_putI X hB kl_X6 0 lc_St_0 2 (by decide) rfl rfl rfl wm_225 dX6_copyFrom_21 rfl (fun H locs hB => ?_)
  obtain ⟨v6, ev6⟩ : ∃ y : bM, y = upd v4 2 x5 := ⟨_, rfl⟩
  have hf := nm_use hf ev6
  rw [← ev6] at hB
  refine lv_aload_n hx hb dX6_copyFrom_24 rfl (lv_at hl 0 rfl) ?_
  refine lv_aload_n hx hb dX6_copyFrom_25 rfl (lv_at hl 1 rfl) ?_
  refine bk_getI0 X (srcK plSt hB hu hab) kl_X6 0 lc_St_0 3 (by decide) rfl wm_226 dX6_copyFrom_26 ?_
  refine lv_topi (fun x7 ex7 => ?_)
  have hf := nm_use hf ex7
  refine bk_putI X hB kl_X6 0 lc_St_0 3 (by decide) rfl rfl rfl wm_226 dX6_copyFrom_29 rfl (fun H locs hB => ?_)
  obtain ⟨v8, ev8⟩ : ∃ y : bM, y = upd v6 3 x7 := ⟨_, rfl⟩
  have hf := nm_use hf ev8
  rw [← ev8] at hB
  refine lv_aload_n hx hb dX6_copyFrom_32 rfl (lv_at hl 0 rfl) ?_
  refine lv_aload_n hx hb dX6_copyFrom_33 rfl (lv_at hl 1 rfl) ?_
  refine bk_getI0 X (srcK plSt hB hu hab) kl_X6 0 lc_St_0 4 (by decide) rfl wm_228 dX6_copyFrom_34 ?_
  refine lv_topi (fun x9 ex9 => ?_)
  have hf := nm_use hf ex9
  refine bk_putI X hB kl_X6 0 lc_St_0 4 (by decide) rfl rfl rfl wm_228 dX6_copyFrom_37 rfl (fun H locs hB => ?_)
  obtain ⟨v10, ev10⟩ : ∃ y : bM, y = upd v8 4 x9 := ⟨_, rfl⟩
  have hf := nm_use hf ev10
  rw [← ev10] at hB
  refine lv_aload_n hx hb dX6_copyFrom_40 rfl (lv_at hl 0 rfl) ?_
  refine lv_aload_n hx hb dX6_copyFrom_41 rfl (lv_at hl 1 rfl) ?_
  refine bk_getI0 X (srcK plSt hB hu hab) kl_X6 0 lc_St_0 5 (by decide) rfl wm_230 dX6_copyFrom_42 ?_
  refine lv_topi (fun x11 ex11 => ?_)
  have hf := nm_use hf ex11
  refine bk_putI X hB kl_X6 0 lc_St_0 5 (by decide) rfl rfl rfl wm_230 dX6_copyFrom_45 rfl (fun H locs hB => ?_)
  obtain ⟨v12, ev12⟩ : ∃ y : bM, y = upd v10 5 x11 := ⟨_, rfl⟩
  have hf := nm_use hf ev12
  rw [← ev12] at hB
  refine lv_aload_n hx hb dX6_copyFrom_48 rfl (lv_at hl 0 rfl) ?_
  refine bk_getR X hB kl_X6 0 lc_St_0 6 (by decide) rfl wm_231 dX6_copyFrom_49 ?_
  refine lv_aload_n hx hb dX6_copyFrom_52 rfl (lv_at hl 1 rfl) ?_
  refine bk_getR0 X (srcK plSt hB hu hab) kl_X6 0 lc_St_0 6 (by decide) rfl wm_231 dX6_copyFrom_53 ?_
  obtain ⟨w14, hc13, hf⟩ := bnw_some hf
  refine bk_sub sub_St_1 hB (fun h1 h2 h3 => bk_runV2 X (Av := [.ref (b + 1)]) (rest := []) (mX2_copyFrom hc13) yv_X2_copyFrom wm_707 ⟨Nat.le_of_ble_eq_true rfl, Nat.le_of_ble_eq_true rfl⟩ rfl rfl hl.1 kl_X2.1 (hB.1.obj lc_St_1) ((srcK plSt hB hu hab).sub sub_St_1) (apS hab sub_St_1) h1 h2 h3 (Nat.le_of_ble_eq_true rfl) ⟨Nat.le_of_ble_eq_true rfl, Nat.le_of_ble_eq_true rfl⟩ dX6_copyFrom_56) (fun H locs hB => ?_)
  refine W.eq (g2 := F0 m 59 ls []) rfl ?_
  obtain ⟨v15, ev15⟩ : ∃ y : bM, y = spl v12 6 169 w14 := ⟨_, rfl⟩
  have hf := nm_use hf ev15
  rw [← ev15] at hB
  refine lv_aload_n hx hb dX6_copyFrom_59 rfl (lv_at hl 0 rfl) ?_
  refine bk_getR X hB kl_X6 0 lc_St_0 7 (by decide) rfl wm_234 dX6_copyFrom_60 ?_
  refine lv_aload_n hx hb dX6_copyFrom_63 rfl (lv_at hl 1 rfl) ?_
  refine bk_getR0 X (srcK plSt hB hu hab) kl_X6 0 lc_St_0 7 (by decide) rfl wm_234 dX6_copyFrom_64 ?_
  obtain ⟨w17, hc16, hf⟩ := bnw_some hf
  refine bk_sub sub_St_20 hB (fun h1 h2 h3 => bk_runV2 X (Av := [.ref (b + 20)]) (rest := []) (mX1_copyFrom hc16) yv_X1_copyFrom wm_718 ⟨Nat.le_of_ble_eq_true rfl, Nat.le_of_ble_eq_true rfl⟩ rfl rfl hl.1 kl_X1.1 (hB.1.obj lc_St_20) ((srcK plSt hB hu hab).sub sub_St_20) (apS hab sub_St_20) h1 h2 h3 (Nat.le_of_ble_eq_true rfl) ⟨Nat.le_of_ble_eq_true rfl, Nat.le_of_ble_eq_true rfl⟩ dX6_copyFrom_67) (fun H locs hB => ?_)
  refine W.eq (g2 := F0 m 70 ls []) rfl ?_
  obtain ⟨v18, ev18⟩ : ∃ y : bM, y = spl v15 175 73 w17 := ⟨_, rfl⟩
  have hf := nm_use hf ev18
  rw [← ev18] at hB
  refine lv_aload_n hx hb dX6_copyFrom_70 rfl (lv_at hl 0 rfl) ?_
  refine bk_getR X hB kl_X6 0 lc_St_0 8 (by decide) rfl wm_237 dX6_copyFrom_71 ?_
  refine lv_aload_n hx hb dX6_copyFrom_74 rfl (lv_at hl 1 rfl) ?_
  refine bk_getR0 X (srcK plSt hB hu hab) kl_X6 0 lc_St_0 8 (by decide) rfl wm_237 dX6_copyFrom_75 ?_
  obtain ⟨w20, hc19, hf⟩ := bnw_some hf
  refine bk_sub sub_St_34 hB (fun h1 h2 h3 => bk_runV2 X (Av := [.ref (b + 34)]) (rest := []) (mX5_copyFrom hc19) yv_X5_copyFrom wm_723 ⟨Nat.le_of_ble_eq_true rfl, Nat.le_of_ble_eq_true rfl⟩ rfl rfl hl.1 kl_X5.1 (hB.1.obj lc_St_34) ((srcK plSt hB hu hab).sub sub_St_34) (apS hab sub_St_34) h1 h2 h3 (Nat.le_of_ble_eq_true rfl) ⟨Nat.le_of_ble_eq_true rfl, Nat.le_of_ble_eq_true rfl⟩ dX6_copyFrom_78) (fun H locs hB => ?_)
  refine W.eq (g2 := F0 m 81 ls []) rfl ?_
  obtain ⟨v21, ev21⟩ : ∃ y : bM, y = spl v18 248 29 w20 := ⟨_, rfl⟩
  have hf := nm_use hf ev21
  rw [← ev21] at hB
  refine lv_aload_n hx hb dX6_copyFrom_81 rfl (lv_at hl 0 rfl) ?_
  refine bk_getR X hB kl_X6 0 lc_St_0 9 (by decide) rfl wm_240 dX6_copyFrom_82 ?_
  refine lv_aload_n hx hb dX6_copyFrom_85 rfl (lv_at hl 1 rfl) ?_
  refine bk_getR0 X (srcK plSt hB hu hab) kl_X6 0 lc_St_0 9 (by decide) rfl wm_240 dX6_copyFrom_86 ?_
  obtain ⟨w23, hc22, hf⟩ := bnw_some hf
  refine bk_sub sub_St_37 hB (fun h1 h2 h3 => bk_runV2 X (Av := [.ref (b + 37)]) (rest := []) (mX0_copyFrom hc22) yv_X0_copyFrom wm_728 ⟨Nat.le_of_ble_eq_true rfl, Nat.le_of_ble_eq_true rfl⟩ rfl rfl hl.1 kl_X0.1 (hB.1.obj lc_St_37) ((srcK plSt hB hu hab).sub sub_St_37) (apS hab sub_St_37) h1 h2 h3 (Nat.le_of_ble_eq_true rfl) ⟨Nat.le_of_ble_eq_true rfl, Nat.le_of_ble_eq_true rfl⟩ dX6_copyFrom_89) (fun H locs hB => ?_)
  refine W.eq (g2 := F0 m 92 ls []) rfl ?_
  obtain ⟨v24, ev24⟩ : ∃ y : bM, y = spl v21 277 313 w23 := ⟨_, rfl⟩
  have hf := nm_use hf ev24
  rw [← ev24] at hB
  exact bk_vW X hr rfl hf hB (Nat.le_of_ble_eq_true rfl) (Nat.le_of_ble_eq_true rfl) dX6_copyFrom_92
theorem yv_X6_copyFrom : bYv yX6_copyFrom RX6 cX6_copyFrom 2 none 1 := ⟨⟨rfl, by decide, by decide, rfl⟩, wm_704, wm_705, wm_2, wm_706⟩

theorem dX6_open_0 : decode cX6_open 0 = .ok (.aload_n 0, 1) := by decide +kernel
theorem dX6_open_1 : decode cX6_open 1 = .ok (.iconst 0, 1) := by decide +kernel
theorem dX6_open_2 : decode cX6_open 2 = .ok (.putfield 39, 3) := by decide +kernel
theorem dX6_open_5 : decode cX6_open 5 = .ok (.aload_n 0, 1) := by decide +kernel
theorem dX6_open_6 : decode cX6_open 6 = .ok (.iload_n 1, 1) := by decide +kernel
theorem dX6_open_7 : decode cX6_open 7 = .ok (.putfield 43, 3) := by decide +kernel
theorem dX6_open_10 : decode cX6_open 10 = .ok (.aload_n 0, 1) := by decide +kernel
theorem dX6_open_11 : decode cX6_open 11 = .ok (.iload_n 1, 1) := by decide +kernel
theorem dX6_open_12 : decode cX6_open 12 = .ok (.putfield 46, 3) := by decide +kernel
theorem dX6_open_15 : decode cX6_open 15 = .ok (.aload_n 0, 1) := by decide +kernel
theorem dX6_open_16 : decode cX6_open 16 = .ok (.iconst 0, 1) := by decide +kernel
theorem dX6_open_17 : decode cX6_open 17 = .ok (.putfield 49, 3) := by decide +kernel
theorem dX6_open_20 : decode cX6_open 20 = .ok (.aload_n 0, 1) := by decide +kernel
theorem dX6_open_21 : decode cX6_open 21 = .ok (.iconst 0, 1) := by decide +kernel
theorem dX6_open_22 : decode cX6_open 22 = .ok (.putfield 52, 3) := by decide +kernel
theorem dX6_open_25 : decode cX6_open 25 = .ok (.aload_n 0, 1) := by decide +kernel
theorem dX6_open_26 : decode cX6_open 26 = .ok (.iconst 0, 1) := by decide +kernel
theorem dX6_open_27 : decode cX6_open 27 = .ok (.putfield 55, 3) := by decide +kernel
theorem dX6_open_30 : decode cX6_open 30 = .ok (.aload_n 0, 1) := by decide +kernel
theorem dX6_open_31 : decode cX6_open 31 = .ok (.getfield 12, 3) := by decide +kernel
theorem dX6_open_34 : decode cX6_open 34 = .ok (.iconst 0, 1) := by decide +kernel
theorem dX6_open_35 : decode cX6_open 35 = .ok (.putfield 71, 3) := by decide +kernel
theorem dX6_open_38 : decode cX6_open 38 = .ok (.aload_n 0, 1) := by decide +kernel
theorem dX6_open_39 : decode cX6_open 39 = .ok (.getfield 21, 3) := by decide +kernel
theorem dX6_open_42 : decode cX6_open 42 = .ok (.iconst 0, 1) := by decide +kernel
theorem dX6_open_43 : decode cX6_open 43 = .ok (.putfield 74, 3) := by decide +kernel
theorem dX6_open_46 : decode cX6_open 46 = .ok (.aload_n 0, 1) := by decide +kernel
theorem dX6_open_47 : decode cX6_open 47 = .ok (.getfield 35, 3) := by decide +kernel
theorem dX6_open_50 : decode cX6_open 50 = .ok (.iconst 0, 1) := by decide +kernel
theorem dX6_open_51 : decode cX6_open 51 = .ok (.putfield 75, 3) := by decide +kernel
theorem dX6_open_54 : decode cX6_open 54 = .ok (.aload_n 0, 1) := by decide +kernel
theorem dX6_open_55 : decode cX6_open 55 = .ok (.getfield 28, 3) := by decide +kernel
theorem dX6_open_58 : decode cX6_open 58 = .ok (.iload_n 3, 1) := by decide +kernel
theorem dX6_open_59 : decode cX6_open 59 = .ok (.iload_n 2, 1) := by decide +kernel
theorem dX6_open_60 : decode cX6_open 60 = .ok (.invokevirtual 76, 3) := by decide +kernel
theorem dX6_open_63 : decode cX6_open 63 = .ok (.return_, 1) := by decide +kernel
def fX6_open (p1 : Int32) (p2 : Int32) (p3 : Int32) (v : bM) : Option bM :=
  nm (upd v 0 0) fun v1 => nm (upd v1 1 p1) fun v2 => nm (upd v2 2 p1) fun v3 => nm (upd v3 3 0) fun v4 => nm (upd v4 4 0) fun v5 => nm (upd v5 5 0) fun v6 => nm (upd v6 6 0) fun v7 => nm (upd v7 175 0) fun v8 => nm (upd v8 277 0) fun v9 => bnw (fX5_open p3 p2 (vw v9 248)) fun w11 => nm (spl v9 248 29 w11) fun v12 => some v12
set_option maxRecDepth 100000 in
set_option maxHeartbeats 4000000 in
theorem mX6_open {l : Launch} {p1 : Int32} {p2 : Int32} {p3 : Int32} {v : bM} {w0 : bM} (hf : fX6_open p1 p2 p3 v = some w0) : bMet l yX6_open cX6_open 4 none 1 0 0 LSt (fun E a => [.ref a, .int p1, .int p2, .int p3]) v w0 (fun _ => none) := by
  refine bk_start (by decide +kernel) wfSt (fun _ _ => Nat.le_of_ble_eq_true rfl) ?_
  intro p e s m args below meth c D E a ls H locs X hr hl hB
  have hx := X.1
  have hb := X.2.1
  have hown := X.2.2.2.1
  have hts := X.2.2.2.2.1
  have hl : lv_has ls 4 [(0, .ref a), (1, .int p1), (2, .int p2), (3, .int p3)] := hl
  have hf := (fX6_open.eq_1 p1 p2 p3 v).symm.trans hf
  refine lv_aload_n hx hb dX6_open_0 rfl (lv_at hl 0 rfl) ?_
  refine lv_iconst (v := 0) hx hb dX6_open_1 (by decide) ?_
  refine bk_putI X hB kl_X6 0 lc_St_0 0 (by decide) rfl rfl rfl wm_220 dX6_open_2 rfl (fun H locs hB => ?_)
  obtain ⟨v1, ev1⟩ : ∃ y : bM, y = upd v 0 0 := ⟨_, rfl⟩
  have hf := nm_use hf ev1
  rw [← ev1] at hB
  refine lv_aload_n hx hb dX6_open_5 rfl (lv_at hl 0 rfl) ?_
  refine lv_iload_n hx hb dX6_open_6 rfl (lv_at hl 1 rfl) ?_
  refine bk_putI X hB kl_X6 0 lc_St_0 1 (by decide) rfl rfl rfl wm_223 dX6_open_7 rfl (fun H locs hB => ?_)
  obtain ⟨v2, ev2⟩ : ∃ y : bM, y = upd v1 1 p1 := ⟨_, rfl⟩
  have hf := nm_use hf ev2
  rw [← ev2] at hB
  refine lv_aload_n hx hb dX6_open_10 rfl (lv_at hl 0 rfl) ?_
  refine lv_iload_n hx hb dX6_open_11 rfl (lv_at hl 1 rfl) ?_
  refine bk_putI X hB kl_X6 0 lc_St_0 2 (by decide) rfl rfl rfl wm_225 dX6_open_12 rfl (fun H locs hB => ?_)
  obtain ⟨v3, ev3⟩ : ∃ y : bM, y = upd v2 2 p1 := ⟨_, rfl⟩
  have hf := nm_use hf ev3
  rw [← ev3] at hB
  refine lv_aload_n hx hb dX6_open_15 rfl (lv_at hl 0 rfl) ?_
  refine lv_iconst (v := 0) hx hb dX6_open_16 (by decide) ?_
  refine bk_putI X hB kl_X6 0 lc_St_0 3 (by decide) rfl rfl rfl wm_226 dX6_open_17 rfl (fun H locs hB => ?_)
  obtain ⟨v4, ev4⟩ : ∃ y : bM, y = upd v3 3 0 := ⟨_, rfl⟩
  have hf := nm_use hf ev4
  rw [← ev4] at hB
  refine lv_aload_n hx hb dX6_open_20 rfl (lv_at hl 0 rfl) ?_
  refine lv_iconst (v := 0) hx hb dX6_open_21 (by decide) ?_
  refine bk_putI X hB kl_X6 0 lc_St_0 4 (by decide) rfl rfl rfl wm_228 dX6_open_22 rfl (fun H locs hB => ?_)
  obtain ⟨v5, ev5⟩ : ∃ y : bM, y = upd v4 4 0 := ⟨_, rfl⟩
  have hf := nm_use hf ev5
  rw [← ev5] at hB
  refine lv_aload_n hx hb dX6_open_25 rfl (lv_at hl 0 rfl) ?_
  refine lv_iconst (v := 0) hx hb dX6_open_26 (by decide) ?_
  refine bk_putI X hB kl_X6 0 lc_St_0 5 (by decide) rfl rfl rfl wm_230 dX6_open_27 rfl (fun H locs hB => ?_)
  obtain ⟨v6, ev6⟩ : ∃ y : bM, y = upd v5 5 0 := ⟨_, rfl⟩
  have hf := nm_use hf ev6
  rw [← ev6] at hB
  refine lv_aload_n hx hb dX6_open_30 rfl (lv_at hl 0 rfl) ?_
  refine bk_getR X hB kl_X6 0 lc_St_0 6 (by decide) rfl wm_231 dX6_open_31 ?_
  refine lv_iconst (v := 0) hx hb dX6_open_34 (by decide) ?_
  refine bk_putI X hB kl_X2 1 lc_St_1 0 (by decide) rfl rfl rfl wm_55 dX6_open_35 rfl (fun H locs hB => ?_)
  obtain ⟨v7, ev7⟩ : ∃ y : bM, y = upd v6 6 0 := ⟨_, rfl⟩
  have hf := nm_use hf ev7
  rw [← ev7] at hB
  refine lv_aload_n hx hb dX6_open_38 rfl (lv_at hl 0 rfl) ?_
  refine bk_getR X hB kl_X6 0 lc_St_0 7 (by decide) rfl wm_234 dX6_open_39 ?_
  refine lv_iconst (v := 0) hx hb dX6_open_42 (by decide) ?_
  refine bk_putI X hB kl_X1 20 lc_St_20 0 (by decide) rfl rfl rfl wm_98 dX6_open_43 rfl (fun H locs hB => ?_)
  obtain ⟨v8, ev8⟩ : ∃ y : bM, y = upd v7 175 0 := ⟨_, rfl⟩
  have hf := nm_use hf ev8
  rw [← ev8] at hB
  refine lv_aload_n hx hb dX6_open_46 rfl (lv_at hl 0 rfl) ?_
  refine bk_getR X hB kl_X6 0 lc_St_0 9 (by decide) rfl wm_240 dX6_open_47 ?_
  refine lv_iconst (v := 0) hx hb dX6_open_50 (by decide) ?_
  refine bk_putI X hB kl_X0 37 lc_St_37 0 (by decide) rfl rfl rfl wm_170 dX6_open_51 rfl (fun H locs hB => ?_)
  obtain ⟨v9, ev9⟩ : ∃ y : bM, y = upd v8 277 0 := ⟨_, rfl⟩
  have hf := nm_use hf ev9
  rw [← ev9] at hB
  refine lv_aload_n hx hb dX6_open_54 rfl (lv_at hl 0 rfl) ?_
  refine bk_getR X hB kl_X6 0 lc_St_0 8 (by decide) rfl wm_237 dX6_open_55 ?_
  refine lv_iload_n hx hb dX6_open_58 rfl (lv_at hl 3 rfl) ?_
  refine lv_iload_n hx hb dX6_open_59 rfl (lv_at hl 2 rfl) ?_
  obtain ⟨w11, hc10, hf⟩ := bnw_some hf
  refine bk_sub sub_St_34 hB (fun h1 h2 h3 => bk_runV X (Av := [.int p3, .int p2]) (rest := []) (mX5_open hc10) yv_X5_open wm_525 ⟨Nat.le_of_ble_eq_true rfl, Nat.le_of_ble_eq_true rfl⟩ rfl rfl hl.1 kl_X5.1 (hB.1.obj lc_St_34) h1 h2 h3 (Nat.le_of_ble_eq_true rfl) ⟨Nat.le_of_ble_eq_true rfl, Nat.le_of_ble_eq_true rfl⟩ dX6_open_60) (fun H locs hB => ?_)
  refine W.eq (g2 := F0 m 63 ls []) rfl ?_
  obtain ⟨v12, ev12⟩ : ∃ y : bM, y = spl v9 248 29 w11 := ⟨_, rfl⟩
  have hf := nm_use hf ev12
  rw [← ev12] at hB
  exact bk_vW X hr rfl hf hB (Nat.le_of_ble_eq_true rfl) (Nat.le_of_ble_eq_true rfl) dX6_open_63
theorem yv_X6_open : bYv yX6_open RX6 cX6_open 4 none 3 := ⟨⟨rfl, by decide, by decide, rfl⟩, wm_522, wm_523, wm_2, wm_524⟩

theorem dX6_createBread_0 : decode cX6_createBread 0 = .ok (.aload_n 0, 1) := by decide +kernel
theorem dX6_createBread_1 : decode cX6_createBread 1 = .ok (.getfield 21, 3) := by decide +kernel
theorem dX6_createBread_4 : decode cX6_createBread 4 = .ok (.getfield 74, 3) := by decide +kernel
theorem dX6_createBread_7 : decode cX6_createBread 7 = .ok (.bipush 6, 2) := by decide +kernel
theorem dX6_createBread_9 : decode cX6_createBread 9 = .ok (.if_icmp .lt 5, 3) := by decide +kernel
theorem dX6_createBread_12 : decode cX6_createBread 12 = .ok (.iconst (-1), 1) := by decide +kernel
theorem dX6_createBread_13 : decode cX6_createBread 13 = .ok (.ireturn, 1) := by decide +kernel
theorem dX6_createBread_14 : decode cX6_createBread 14 = .ok (.aload_n 0, 1) := by decide +kernel
theorem dX6_createBread_15 : decode cX6_createBread 15 = .ok (.getfield 21, 3) := by decide +kernel
theorem dX6_createBread_18 : decode cX6_createBread 18 = .ok (.iload_n 1, 1) := by decide +kernel
theorem dX6_createBread_19 : decode cX6_createBread 19 = .ok (.iload_n 2, 1) := by decide +kernel
theorem dX6_createBread_20 : decode cX6_createBread 20 = .ok (.iload_n 3, 1) := by decide +kernel
theorem dX6_createBread_21 : decode cX6_createBread 21 = .ok (.invokevirtual 80, 3) := by decide +kernel
theorem dX6_createBread_24 : decode cX6_createBread 24 = .ok (.istore 4, 2) := by decide +kernel
theorem dX6_createBread_26 : decode cX6_createBread 26 = .ok (.iload_n 2, 1) := by decide +kernel
theorem dX6_createBread_27 : decode cX6_createBread 27 = .ok (.aload_n 0, 1) := by decide +kernel
theorem dX6_createBread_28 : decode cX6_createBread 28 = .ok (.getfield 28, 3) := by decide +kernel
theorem dX6_createBread_31 : decode cX6_createBread 31 = .ok (.getfield 84, 3) := by decide +kernel
theorem dX6_createBread_34 : decode cX6_createBread 34 = .ok (.imul, 1) := by decide +kernel
theorem dX6_createBread_35 : decode cX6_createBread 35 = .ok (.istore 5, 2) := by decide +kernel
theorem dX6_createBread_37 : decode cX6_createBread 37 = .ok (.iconst 0, 1) := by decide +kernel
theorem dX6_createBread_38 : decode cX6_createBread 38 = .ok (.istore 6, 2) := by decide +kernel
theorem dX6_createBread_40 : decode cX6_createBread 40 = .ok (.iload 6, 2) := by decide +kernel
theorem dX6_createBread_42 : decode cX6_createBread 42 = .ok (.aload_n 0, 1) := by decide +kernel
theorem dX6_createBread_43 : decode cX6_createBread 43 = .ok (.getfield 12, 3) := by decide +kernel
theorem dX6_createBread_46 : decode cX6_createBread 46 = .ok (.getfield 71, 3) := by decide +kernel
theorem dX6_createBread_49 : decode cX6_createBread 49 = .ok (.if_icmp .ge 38, 3) := by decide +kernel
theorem dX6_createBread_52 : decode cX6_createBread 52 = .ok (.iload 5, 2) := by decide +kernel
theorem dX6_createBread_54 : decode cX6_createBread 54 = .ok (.aload_n 0, 1) := by decide +kernel
theorem dX6_createBread_55 : decode cX6_createBread 55 = .ok (.getfield 21, 3) := by decide +kernel
theorem dX6_createBread_58 : decode cX6_createBread 58 = .ok (.getfield 87, 3) := by decide +kernel
theorem dX6_createBread_61 : decode cX6_createBread 61 = .ok (.iload 4, 2) := by decide +kernel
theorem dX6_createBread_63 : decode cX6_createBread 63 = .ok (.aaload, 1) := by decide +kernel
theorem dX6_createBread_64 : decode cX6_createBread 64 = .ok (.iload 6, 2) := by decide +kernel
theorem dX6_createBread_66 : decode cX6_createBread 66 = .ok (.iaload, 1) := by decide +kernel
theorem dX6_createBread_67 : decode cX6_createBread 67 = .ok (.aload_n 0, 1) := by decide +kernel
theorem dX6_createBread_68 : decode cX6_createBread 68 = .ok (.getfield 12, 3) := by decide +kernel
theorem dX6_createBread_71 : decode cX6_createBread 71 = .ok (.getfield 91, 3) := by decide +kernel
theorem dX6_createBread_74 : decode cX6_createBread 74 = .ok (.iload 6, 2) := by decide +kernel
theorem dX6_createBread_76 : decode cX6_createBread 76 = .ok (.iaload, 1) := by decide +kernel
theorem dX6_createBread_77 : decode cX6_createBread 77 = .ok (.imul, 1) := by decide +kernel
theorem dX6_createBread_78 : decode cX6_createBread 78 = .ok (.iadd, 1) := by decide +kernel
theorem dX6_createBread_79 : decode cX6_createBread 79 = .ok (.istore 5, 2) := by decide +kernel
theorem dX6_createBread_81 : decode cX6_createBread 81 = .ok (.iinc 6 1, 3) := by decide +kernel
theorem dX6_createBread_84 : decode cX6_createBread 84 = .ok (.goto (-44), 3) := by decide +kernel
theorem dX6_createBread_87 : decode cX6_createBread 87 = .ok (.aload_n 0, 1) := by decide +kernel
theorem dX6_createBread_88 : decode cX6_createBread 88 = .ok (.getfield 21, 3) := by decide +kernel
theorem dX6_createBread_91 : decode cX6_createBread 91 = .ok (.getfield 95, 3) := by decide +kernel
theorem dX6_createBread_94 : decode cX6_createBread 94 = .ok (.iload 4, 2) := by decide +kernel
theorem dX6_createBread_96 : decode cX6_createBread 96 = .ok (.iload 5, 2) := by decide +kernel
theorem dX6_createBread_98 : decode cX6_createBread 98 = .ok (.iastore, 1) := by decide +kernel
theorem dX6_createBread_99 : decode cX6_createBread 99 = .ok (.iload 4, 2) := by decide +kernel
theorem dX6_createBread_101 : decode cX6_createBread 101 = .ok (.ireturn, 1) := by decide +kernel
def fX6_createBread_L40 (r4 : Int32) (k40 : Int32 → Int32 → bM → Option (Int32 × bM)) (y7 : Int32) (y8 : Int32) (v9 : bM) : Option (Int32 × bM) :=
  (if (v9 6) ≤ y8 then (ck r4 6 <| nm (upd v9 (188 + r4.toNatClampNeg) y7) fun v12 => some (r4, v12)) else (ck r4 6 <| ck y8 6 <| ck y8 6 <| nm (y7 + ((v9 (212 + 6 * r4.toNatClampNeg + y8.toNatClampNeg)) * (v9 (7 + y8.toNatClampNeg)))) fun x16 => nm (y8 + 1) fun x17 => k40 x16 x17 v9))
def fX6_createBread (p1 : Int32) (p2 : Int32) (p3 : Int32) (v : bM) : Option (Int32 × bM) :=
  (if (v 175) < 6 then (bnd (fX1_create p1 p2 p3 (vw v 175)) fun r4 w3 => nm (spl v 175 73 w3) fun v5 => nm (p2 * (v5 249)) fun x6 => lp (fX6_createBread_L40 r4) (fun _ _ _ => none) lpN x6 0 v5) else (some ((-1), v)))
set_option maxRecDepth 100000 in
set_option maxHeartbeats 4000000 in
theorem mX6_createBread {l : Launch} {p1 : Int32} {p2 : Int32} {p3 : Int32} {v : bM} {r0 : Int32} {w0 : bM} (hf : fX6_createBread p1 p2 p3 v = some (r0, w0)) : bMet l yX6_createBread cX6_createBread 7 (some .int) 1 0 0 LSt (fun E a => [.ref a, .int p1, .int p2, .int p3]) v w0 (fun _ => some (.int r0)) := by
  refine bk_start (by decide +kernel) wfSt (fun _ _ => Nat.le_of_ble_eq_true rfl) ?_
  intro p e s m args below meth c D E a ls H locs X hr hl hB
  have hx := X.1
  have hb := X.2.1
  have hown := X.2.2.2.1
  have hts := X.2.2.2.2.1
  have hl : lv_has ls 7 [(0, .ref a), (1, .int p1), (2, .int p2), (3, .int p3)] := hl
  have hf := (fX6_createBread.eq_1 p1 p2 p3 v).symm.trans hf
  refine lv_aload_n hx hb dX6_createBread_0 rfl (lv_at hl 0 rfl) ?_
  refine bk_getR X hB kl_X6 0 lc_St_0 7 (by decide) rfl wm_234 dX6_createBread_1 ?_
  refine bk_getI X hB kl_X1 20 lc_St_20 0 (by decide) rfl wm_98 dX6_createBread_4 ?_
  refine lv_bipush (v := 6) hx hb dX6_createBread_7 (by decide) ?_
  refine lv_icmp_lt (tgt := 14) hx hb dX6_createBread_9 (by decide) (fun c1 => ?_) (fun c1 => ?_)
  · have hf := (if_pos c1).symm.trans hf
    refine lv_aload_n hx hb dX6_createBread_14 rfl (lv_at hl 0 rfl) ?_
    refine bk_getR X hB kl_X6 0 lc_St_0 7 (by decide) rfl wm_234 dX6_createBread_15 ?_
    refine lv_iload_n hx hb dX6_createBread_18 rfl (lv_at hl 1 rfl) ?_
    refine lv_iload_n hx hb dX6_createBread_19 rfl (lv_at hl 2 rfl) ?_
    refine lv_iload_n hx hb dX6_createBread_20 rfl (lv_at hl 3 rfl) ?_
    obtain ⟨r4, w3, hc2, hf⟩ := bnd_some hf
    refine bk_sub sub_St_20 hB (fun h1 h2 h3 => bk_runV X (Av := [.int p1, .int p2, .int p3]) (rest := []) (mX1_create hc2) yv_X1_create wm_571 ⟨Nat.le_of_ble_eq_true rfl, Nat.le_of_ble_eq_true rfl⟩ rfl rfl hl.1 kl_X1.1 (hB.1.obj lc_St_20) h1 h2 h3 (Nat.le_of_ble_eq_true rfl) ⟨Nat.le_of_ble_eq_true rfl, Nat.le_of_ble_eq_true rfl⟩ dX6_createBread_21) (fun H locs hB => ?_)
    refine W.eq (g2 := F0 m 24 ls [.int r4]) rfl ?_
    obtain ⟨v5, ev5⟩ : ∃ y : bM, y = spl v 175 73 w3 := ⟨_, rfl⟩
    have hf := nm_use hf ev5
    rw [← ev5] at hB
    refine lv_istore (lv' := [(4, .int r4), (0, .ref a), (1, .int p1), (2, .int p2), (3, .int p3)]) hx hb dX6_createBread_24 hl (by decide) rfl (fun ls hl => ?_)
    refine lv_iload_n hx hb dX6_createBread_26 rfl (lv_at hl 3 rfl) ?_
    refine lv_aload_n hx hb dX6_createBread_27 rfl (lv_at hl 1 rfl) ?_
    refine bk_getR X hB kl_X6 0 lc_St_0 8 (by decide) rfl wm_237 dX6_createBread_28 ?_
    refine bk_getI X hB kl_X5 34 lc_St_34 1 (by decide) rfl wm_145 dX6_createBread_31 ?_
    refine lv_imul hx hb dX6_createBread_34 ?_
    refine lv_topi (fun x6 ex6 => ?_)
    have hf := nm_use hf ex6
    refine lv_istore (lv' := [(5, .int x6), (4, .int r4), (0, .ref a), (1, .int p1), (2, .int p2), (3, .int p3)]) hx hb dX6_createBread_35 hl (by decide) rfl (fun ls hl => ?_)
    refine lv_iconst (v := 0) hx hb dX6_createBread_37 (by decide) ?_
    refine lv_istore (lv' := [(6, .int 0), (5, .int x6), (4, .int r4), (0, .ref a), (1, .int p1), (2, .int p2), (3, .int p3)]) hx hb dX6_createBread_38 hl (by decide) rfl (fun ls hl => ?_)
    have hL40 : ∀ (n40 : Nat) (y7 y8 : Int32) (v9 : bM) (H : Heap) (locs : List Loc) (ls : Array Slot), lp (fX6_createBread_L40 r4) (fun _ _ _ => none) n40 y7 y8 v9 = some (r0, w0) → bB D E LSt a v9 s H locs → lv_has ls 7 [(0, .ref a), (4, .int r4), (5, .int y7), (6, .int y8)] → W p l e (rmOf 1 0 0) s m args below meth c H locs 0 0 (bQ below D E LSt a w0 (some (.int r0)) args s 0 0) (F0 m 40 ls []) := by
      intro n40
      induction n40 with
      | zero => intro y7 y8 v9 H locs ls hf; cases (show (none : Option (Int32 × bM)) = some (r0, w0) from hf)
      | succ n40 ih40 =>
        intro y7 y8 v9 H locs ls hf hB hl
        have hf := (fX6_createBread_L40.eq_1 r4 (lp (fX6_createBread_L40 r4) (fun _ _ _ => none) n40) y7 y8 v9).symm.trans (show fX6_createBread_L40 r4 (lp (fX6_createBread_L40 r4) (fun _ _ _ => none) n40) y7 y8 v9 = some (r0, w0) from hf)
        refine lv_iload hx hb dX6_createBread_40 (lv_at hl 3 rfl) ?_
        refine lv_aload_n hx hb dX6_createBread_42 rfl (lv_at hl 0 rfl) ?_
        refine bk_getR X hB kl_X6 0 lc_St_0 6 (by decide) rfl wm_231 dX6_createBread_43 ?_
        refine bk_getI X hB kl_X2 1 lc_St_1 0 (by decide) rfl wm_55 dX6_createBread_46 ?_
        refine lv_icmp_ge (tgt := 87) hx hb dX6_createBread_49 (by decide) (fun c10 => ?_) (fun c10 => ?_)
        · have hf := (if_pos c10).symm.trans hf
          refine lv_aload_n hx hb dX6_createBread_87 rfl (lv_at hl 0 rfl) ?_
          refine bk_getR X hB kl_X6 0 lc_St_0 7 (by decide) rfl wm_234 dX6_createBread_88 ?_
          refine bk_getR X hB kl_X1 20 lc_St_20 3 (by decide) rfl wm_108 dX6_createBread_91 ?_
          refine lv_iload hx hb dX6_createBread_94 (lv_at hl 1 rfl) ?_
          refine lv_iload hx hb dX6_createBread_96 (lv_at hl 2 rfl) ?_
          obtain ⟨h11, hf⟩ := ck_some hf
          refine bk_ast X hB 23 lc_St_23 h11 dX6_createBread_98 (fun H locs hB => ?_)
          obtain ⟨v12, ev12⟩ : ∃ y : bM, y = upd v9 (188 + r4.toNatClampNeg) y7 := ⟨_, rfl⟩
          have hf := nm_use hf ev12
          rw [← ev12] at hB
          refine lv_iload hx hb dX6_createBread_99 (lv_at hl 1 rfl) ?_
          exact bk_iW X hr rfl hf hB (Nat.le_of_ble_eq_true rfl) (Nat.le_of_ble_eq_true rfl) dX6_createBread_101
        · have hf := (if_neg c10).symm.trans hf
          refine lv_iload hx hb dX6_createBread_52 (lv_at hl 2 rfl) ?_
          refine lv_aload_n hx hb dX6_createBread_54 rfl (lv_at hl 0 rfl) ?_
          refine bk_getR X hB kl_X6 0 lc_St_0 7 (by decide) rfl wm_234 dX6_createBread_55 ?_
          refine bk_getR X hB kl_X1 20 lc_St_20 7 (by decide) rfl wm_117 dX6_createBread_58 ?_
          refine lv_iload hx hb dX6_createBread_61 (lv_at hl 1 rfl) ?_
          obtain ⟨h13, hf⟩ := ck_some hf
          refine bk_rld X hB 27 lc_St_27 h13 dX6_createBread_63 ?_
          refine lv_iload hx hb dX6_createBread_64 (lv_at hl 3 rfl) ?_
          obtain ⟨h14, hf⟩ := ck_some hf
          refine bk_ald X hB (28 + 1 * r4.toNatClampNeg) (lr_St_27 _ (vp_lt h13)) h14 dX6_createBread_66 ?_
          refine lv_aload_n hx hb dX6_createBread_67 rfl (lv_at hl 0 rfl) ?_
          refine bk_getR X hB kl_X6 0 lc_St_0 6 (by decide) rfl wm_231 dX6_createBread_68 ?_
          refine bk_getR X hB kl_X2 1 lc_St_1 1 (by decide) rfl wm_59 dX6_createBread_71 ?_
          refine lv_iload hx hb dX6_createBread_74 (lv_at hl 3 rfl) ?_
          obtain ⟨h15, hf⟩ := ck_some hf
          refine bk_ald X hB 2 lc_St_2 h15 dX6_createBread_76 ?_
          refine lv_imul hx hb dX6_createBread_77 ?_
          refine lv_iadd hx hb dX6_createBread_78 ?_
          refine lv_topi (fun x16 ex16 => ?_)
          have hf := nm_use hf ex16
          refine lv_istore (lv' := [(5, .int x16), (0, .ref a), (4, .int r4), (6, .int y8)]) hx hb dX6_createBread_79 hl (by decide) rfl (fun ls hl => ?_)
          obtain ⟨x17, ex17⟩ : ∃ y : Int32, y = y8 + 1 := ⟨_, rfl⟩
          have hf := nm_use hf ex17
          refine lv_iinc (v := x17) (lv' := [(6, .int x17), (5, .int x16), (0, .ref a), (4, .int r4)]) hx hb dX6_createBread_81 hl (k := 3) rfl (by rw [ex17]; rfl) (by decide) rfl (fun ls hl => ?_)
          refine lv_goto (tgt := 40) hx hb dX6_createBread_84 (by decide) ?_
          exact ih40 x16 x17 v9 H locs ls hf hB (lv_sub hl [2, 3, 1, 0] rfl)
    exact hL40 lpN x6 0 v5 H locs ls hf hB (lv_sub hl [3, 2, 1, 0] rfl)
  · have hf := (if_neg c1).symm.trans hf
    refine lv_iconst (v := (-1)) hx hb dX6_createBread_12 (by decide) ?_
    exact bk_iW X hr rfl hf hB (Nat.le_of_ble_eq_true rfl) (Nat.le_of_ble_eq_true rfl) dX6_createBread_13
theorem yv_X6_createBread : bYv yX6_createBread RX6 cX6_createBread 7 (some .int) 3 := ⟨⟨rfl, by decide, by decide, rfl⟩, wm_568, wm_569, wm_2, wm_570⟩

theorem dX6_canBuyLot_0 : decode cX6_canBuyLot 0 = .ok (.aload_n 0, 1) := by decide +kernel
theorem dX6_canBuyLot_1 : decode cX6_canBuyLot 1 = .ok (.getfield 43, 3) := by decide +kernel
theorem dX6_canBuyLot_4 : decode cX6_canBuyLot 4 = .ok (.iload_n 2, 1) := by decide +kernel
theorem dX6_canBuyLot_5 : decode cX6_canBuyLot 5 = .ok (.iload_n 3, 1) := by decide +kernel
theorem dX6_canBuyLot_6 : decode cX6_canBuyLot 6 = .ok (.imul, 1) := by decide +kernel
theorem dX6_canBuyLot_7 : decode cX6_canBuyLot 7 = .ok (.if_icmp .lt 21, 3) := by decide +kernel
theorem dX6_canBuyLot_10 : decode cX6_canBuyLot 10 = .ok (.aload_n 0, 1) := by decide +kernel
theorem dX6_canBuyLot_11 : decode cX6_canBuyLot 11 = .ok (.getfield 12, 3) := by decide +kernel
theorem dX6_canBuyLot_14 : decode cX6_canBuyLot 14 = .ok (.getfield 98, 3) := by decide +kernel
theorem dX6_canBuyLot_17 : decode cX6_canBuyLot 17 = .ok (.iload_n 1, 1) := by decide +kernel
theorem dX6_canBuyLot_18 : decode cX6_canBuyLot 18 = .ok (.iaload, 1) := by decide +kernel
theorem dX6_canBuyLot_19 : decode cX6_canBuyLot 19 = .ok (.bipush 12, 2) := by decide +kernel
theorem dX6_canBuyLot_21 : decode cX6_canBuyLot 21 = .ok (.if_icmp .ge 7, 3) := by decide +kernel
theorem dX6_canBuyLot_24 : decode cX6_canBuyLot 24 = .ok (.iconst 1, 1) := by decide +kernel
theorem dX6_canBuyLot_25 : decode cX6_canBuyLot 25 = .ok (.goto 4, 3) := by decide +kernel
theorem dX6_canBuyLot_28 : decode cX6_canBuyLot 28 = .ok (.iconst 0, 1) := by decide +kernel
theorem dX6_canBuyLot_29 : decode cX6_canBuyLot 29 = .ok (.ireturn, 1) := by decide +kernel
def fX6_canBuyLot (p1 : Int32) (p2 : Int32) (p3 : Int32) (v : bM) : Option Int32 :=
  (if (v 1) < (p2 * p3) then (some (0)) else (ck p1 6 <| (if 12 ≤ (v (13 + p1.toNatClampNeg)) then (some (0)) else (some (1)))))
set_option maxRecDepth 100000 in
set_option maxHeartbeats 4000000 in
theorem mX6_canBuyLot {l : Launch} {p1 : Int32} {p2 : Int32} {p3 : Int32} {v : bM} {r0 : Int32} (hf : fX6_canBuyLot p1 p2 p3 v = some r0) : bMet l yX6_canBuyLot cX6_canBuyLot 4 (some .boolean) 0 0 0 LSt (fun E a => [.ref a, .int p1, .int p2, .int p3]) v v (fun _ => some (.int r0)) := by
  refine bk_start (by decide +kernel) wfSt (fun _ _ => Nat.le_of_ble_eq_true rfl) ?_
  intro p e s m args below meth c D E a ls H locs X hr hl hB
  have hx := X.1
  have hb := X.2.1
  have hown := X.2.2.2.1
  have hts := X.2.2.2.2.1
  have hl : lv_has ls 4 [(0, .ref a), (1, .int p1), (2, .int p2), (3, .int p3)] := hl
  have hf := (fX6_canBuyLot.eq_1 p1 p2 p3 v).symm.trans hf
  refine lv_aload_n hx hb dX6_canBuyLot_0 rfl (lv_at hl 0 rfl) ?_
  refine bk_getI X hB kl_X6 0 lc_St_0 1 (by decide) rfl wm_223 dX6_canBuyLot_1 ?_
  refine lv_iload_n hx hb dX6_canBuyLot_4 rfl (lv_at hl 2 rfl) ?_
  refine lv_iload_n hx hb dX6_canBuyLot_5 rfl (lv_at hl 3 rfl) ?_
  refine lv_imul hx hb dX6_canBuyLot_6 ?_
  refine lv_icmp_lt (tgt := 28) hx hb dX6_canBuyLot_7 (by decide) (fun c1 => ?_) (fun c1 => ?_)
  · have hf := (if_pos c1).symm.trans hf
    refine lv_iconst (v := 0) hx hb dX6_canBuyLot_28 (by decide) ?_
    exact bk_zR X hr rfl rfl hf hB (Nat.le_of_ble_eq_true rfl) (Nat.le_of_ble_eq_true rfl) dX6_canBuyLot_29
  · have hf := (if_neg c1).symm.trans hf
    refine lv_aload_n hx hb dX6_canBuyLot_10 rfl (lv_at hl 0 rfl) ?_
    refine bk_getR X hB kl_X6 0 lc_St_0 6 (by decide) rfl wm_231 dX6_canBuyLot_11 ?_
    refine bk_getR X hB kl_X2 1 lc_St_1 2 (by decide) rfl wm_62 dX6_canBuyLot_14 ?_
    refine lv_iload_n hx hb dX6_canBuyLot_17 rfl (lv_at hl 1 rfl) ?_
    obtain ⟨h2, hf⟩ := ck_some hf
    refine bk_ald X hB 3 lc_St_3 h2 dX6_canBuyLot_18 ?_
    refine lv_bipush (v := 12) hx hb dX6_canBuyLot_19 (by decide) ?_
    refine lv_icmp_ge (tgt := 28) hx hb dX6_canBuyLot_21 (by decide) (fun c3 => ?_) (fun c3 => ?_)
    · have hf := (if_pos c3).symm.trans hf
      refine lv_iconst (v := 0) hx hb dX6_canBuyLot_28 (by decide) ?_
      exact bk_zR X hr rfl rfl hf hB (Nat.le_of_ble_eq_true rfl) (Nat.le_of_ble_eq_true rfl) dX6_canBuyLot_29
    · have hf := (if_neg c3).symm.trans hf
      refine lv_iconst (v := 1) hx hb dX6_canBuyLot_24 (by decide) ?_
      refine lv_goto (tgt := 29) hx hb dX6_canBuyLot_25 (by decide) ?_
      exact bk_zR X hr rfl rfl hf hB (Nat.le_of_ble_eq_true rfl) (Nat.le_of_ble_eq_true rfl) dX6_canBuyLot_29
theorem yv_X6_canBuyLot : bYv yX6_canBuyLot RX6 cX6_canBuyLot 4 (some .boolean) 3 := ⟨⟨rfl, by decide, by decide, rfl⟩, wm_580, wm_581, wm_2, wm_582⟩

theorem dX6_buyLot_0 : decode cX6_buyLot 0 = .ok (.aload_n 0, 1) := by decide +kernel
theorem dX6_buyLot_1 : decode cX6_buyLot 1 = .ok (.iload_n 1, 1) := by decide +kernel
theorem dX6_buyLot_2 : decode cX6_buyLot 2 = .ok (.iload_n 2, 1) := by decide +kernel
theorem dX6_buyLot_3 : decode cX6_buyLot 3 = .ok (.iload_n 3, 1) := by decide +kernel
theorem dX6_buyLot_4 : decode cX6_buyLot 4 = .ok (.invokevirtual 101, 3) := by decide +kernel
theorem dX6_buyLot_7 : decode cX6_buyLot 7 = .ok (.ifCond .ne 5, 3) := by decide +kernel
theorem dX6_buyLot_10 : decode cX6_buyLot 10 = .ok (.iconst 0, 1) := by decide +kernel
theorem dX6_buyLot_11 : decode cX6_buyLot 11 = .ok (.ireturn, 1) := by decide +kernel
theorem dX6_buyLot_12 : decode cX6_buyLot 12 = .ok (.aload_n 0, 1) := by decide +kernel
theorem dX6_buyLot_13 : decode cX6_buyLot 13 = .ok (.getfield 12, 3) := by decide +kernel
theorem dX6_buyLot_16 : decode cX6_buyLot 16 = .ok (.iload_n 1, 1) := by decide +kernel
theorem dX6_buyLot_17 : decode cX6_buyLot 17 = .ok (.iload_n 2, 1) := by decide +kernel
theorem dX6_buyLot_18 : decode cX6_buyLot 18 = .ok (.iload_n 3, 1) := by decide +kernel
theorem dX6_buyLot_19 : decode cX6_buyLot 19 = .ok (.invokevirtual 105, 3) := by decide +kernel
theorem dX6_buyLot_22 : decode cX6_buyLot 22 = .ok (.aload_n 0, 1) := by decide +kernel
theorem dX6_buyLot_23 : decode cX6_buyLot 23 = .ok (.dup, 1) := by decide +kernel
theorem dX6_buyLot_24 : decode cX6_buyLot 24 = .ok (.getfield 43, 3) := by decide +kernel
theorem dX6_buyLot_27 : decode cX6_buyLot 27 = .ok (.iload_n 2, 1) := by decide +kernel
theorem dX6_buyLot_28 : decode cX6_buyLot 28 = .ok (.iload_n 3, 1) := by decide +kernel
theorem dX6_buyLot_29 : decode cX6_buyLot 29 = .ok (.imul, 1) := by decide +kernel
theorem dX6_buyLot_30 : decode cX6_buyLot 30 = .ok (.isub, 1) := by decide +kernel
theorem dX6_buyLot_31 : decode cX6_buyLot 31 = .ok (.putfield 43, 3) := by decide +kernel
theorem dX6_buyLot_34 : decode cX6_buyLot 34 = .ok (.aload_n 0, 1) := by decide +kernel
theorem dX6_buyLot_35 : decode cX6_buyLot 35 = .ok (.dup, 1) := by decide +kernel
theorem dX6_buyLot_36 : decode cX6_buyLot 36 = .ok (.getfield 52, 3) := by decide +kernel
theorem dX6_buyLot_39 : decode cX6_buyLot 39 = .ok (.iload_n 2, 1) := by decide +kernel
theorem dX6_buyLot_40 : decode cX6_buyLot 40 = .ok (.iload_n 3, 1) := by decide +kernel
theorem dX6_buyLot_41 : decode cX6_buyLot 41 = .ok (.imul, 1) := by decide +kernel
theorem dX6_buyLot_42 : decode cX6_buyLot 42 = .ok (.iadd, 1) := by decide +kernel
theorem dX6_buyLot_43 : decode cX6_buyLot 43 = .ok (.putfield 52, 3) := by decide +kernel
theorem dX6_buyLot_46 : decode cX6_buyLot 46 = .ok (.iconst 1, 1) := by decide +kernel
theorem dX6_buyLot_47 : decode cX6_buyLot 47 = .ok (.ireturn, 1) := by decide +kernel
def fX6_buyLot (p1 : Int32) (p2 : Int32) (p3 : Int32) (v : bM) : Option (Int32 × bM) :=
  bnr (fX6_canBuyLot p1 p2 p3 v) fun r2 => (if r2 = 0 then (some (0, v)) else (bnw (fX2_addLot p1 p2 p3 (vw v 6)) fun w5 => nm (spl v 6 169 w5) fun v6 => nm ((v6 1) - (p2 * p3)) fun x7 => nm (upd v6 1 x7) fun v8 => nm ((v8 4) + (p2 * p3)) fun x9 => nm (upd v8 4 x9) fun v10 => some (1, v10)))
set_option maxRecDepth 100000 in
set_option maxHeartbeats 4000000 in
theorem mX6_buyLot {l : Launch} {p1 : Int32} {p2 : Int32} {p3 : Int32} {v : bM} {r0 : Int32} {w0 : bM} (hf : fX6_buyLot p1 p2 p3 v = some (r0, w0)) : bMet l yX6_buyLot cX6_buyLot 4 (some .boolean) 1 0 0 LSt (fun E a => [.ref a, .int p1, .int p2, .int p3]) v w0 (fun _ => some (.int r0)) := by
  refine bk_start (by decide +kernel) wfSt (fun _ _ => Nat.le_of_ble_eq_true rfl) ?_
  intro p e s m args below meth c D E a ls H locs X hr hl hB
  have hx := X.1
  have hb := X.2.1
  have hown := X.2.2.2.1
  have hts := X.2.2.2.2.1
  have hl : lv_has ls 4 [(0, .ref a), (1, .int p1), (2, .int p2), (3, .int p3)] := hl
  have hf := (fX6_buyLot.eq_1 p1 p2 p3 v).symm.trans hf
  refine lv_aload_n hx hb dX6_buyLot_0 rfl (lv_at hl 0 rfl) ?_
  refine lv_iload_n hx hb dX6_buyLot_1 rfl (lv_at hl 1 rfl) ?_
  refine lv_iload_n hx hb dX6_buyLot_2 rfl (lv_at hl 2 rfl) ?_
  refine lv_iload_n hx hb dX6_buyLot_3 rfl (lv_at hl 3 rfl) ?_
  obtain ⟨r2, hc1, hf⟩ := bnr_some hf
  refine bk_all hB (fun h1 h2 h3 => bk_runV X (Av := [.int p1, .int p2, .int p3]) (rest := []) (mX6_canBuyLot hc1) yv_X6_canBuyLot wm_579 ⟨Nat.le_of_ble_eq_true rfl, Nat.le_of_ble_eq_true rfl⟩ rfl rfl hl.1 kl_X6.1 (hB.1.obj lc_St_0) h1 h2 h3 (Nat.le_of_ble_eq_true rfl) ⟨Nat.le_of_ble_eq_true rfl, Nat.le_of_ble_eq_true rfl⟩ dX6_buyLot_4) (fun H locs hB => ?_)
  refine W.eq (g2 := F0 m 7 ls [.int r2]) rfl ?_
  refine lv_if_ne (tgt := 12) hx hb dX6_buyLot_7 (by decide) (fun c3 => ?_) (fun c3 => ?_)
  · have hf := (if_neg c3).symm.trans hf
    refine lv_aload_n hx hb dX6_buyLot_12 rfl (lv_at hl 0 rfl) ?_
    refine bk_getR X hB kl_X6 0 lc_St_0 6 (by decide) rfl wm_231 dX6_buyLot_13 ?_
    refine lv_iload_n hx hb dX6_buyLot_16 rfl (lv_at hl 1 rfl) ?_
    refine lv_iload_n hx hb dX6_buyLot_17 rfl (lv_at hl 2 rfl) ?_
    refine lv_iload_n hx hb dX6_buyLot_18 rfl (lv_at hl 3 rfl) ?_
    obtain ⟨w5, hc4, hf⟩ := bnw_some hf
    refine bk_sub sub_St_1 hB (fun h1 h2 h3 => bk_runV X (Av := [.int p1, .int p2, .int p3]) (rest := []) (mX2_addLot hc4) yv_X2_addLot wm_583 ⟨Nat.le_of_ble_eq_true rfl, Nat.le_of_ble_eq_true rfl⟩ rfl rfl hl.1 kl_X2.1 (hB.1.obj lc_St_1) h1 h2 h3 (Nat.le_of_ble_eq_true rfl) ⟨Nat.le_of_ble_eq_true rfl, Nat.le_of_ble_eq_true rfl⟩ dX6_buyLot_19) (fun H locs hB => ?_)
    refine W.eq (g2 := F0 m 22 ls []) rfl ?_
    obtain ⟨v6, ev6⟩ : ∃ y : bM, y = spl v 6 169 w5 := ⟨_, rfl⟩
    have hf := nm_use hf ev6
    rw [← ev6] at hB
    refine lv_aload_n hx hb dX6_buyLot_22 rfl (lv_at hl 0 rfl) ?_
    refine lv_dup hx hb dX6_buyLot_23 rfl ?_
    refine bk_getI X hB kl_X6 0 lc_St_0 1 (by decide) rfl wm_223 dX6_buyLot_24 ?_
    refine lv_iload_n hx hb dX6_buyLot_27 rfl (lv_at hl 2 rfl) ?_
    refine lv_iload_n hx hb dX6_buyLot_28 rfl (lv_at hl 3 rfl) ?_
    refine lv_imul hx hb dX6_buyLot_29 ?_
    refine lv_isub hx hb dX6_buyLot_30 ?_
    refine lv_topi (fun x7 ex7 => ?_)
    have hf := nm_use hf ex7
    refine bk_putI X hB kl_X6 0 lc_St_0 1 (by decide) rfl rfl rfl wm_223 dX6_buyLot_31 rfl (fun H locs hB => ?_)
    obtain ⟨v8, ev8⟩ : ∃ y : bM, y = upd v6 1 x7 := ⟨_, rfl⟩
    have hf := nm_use hf ev8
    rw [← ev8] at hB
    refine lv_aload_n hx hb dX6_buyLot_34 rfl (lv_at hl 0 rfl) ?_
    refine lv_dup hx hb dX6_buyLot_35 rfl ?_
    refine bk_getI X hB kl_X6 0 lc_St_0 4 (by decide) rfl wm_228 dX6_buyLot_36 ?_
    refine lv_iload_n hx hb dX6_buyLot_39 rfl (lv_at hl 2 rfl) ?_
    refine lv_iload_n hx hb dX6_buyLot_40 rfl (lv_at hl 3 rfl) ?_
    refine lv_imul hx hb dX6_buyLot_41 ?_
    refine lv_iadd hx hb dX6_buyLot_42 ?_
    refine lv_topi (fun x9 ex9 => ?_)
    have hf := nm_use hf ex9
    refine bk_putI X hB kl_X6 0 lc_St_0 4 (by decide) rfl rfl rfl wm_228 dX6_buyLot_43 rfl (fun H locs hB => ?_)
    obtain ⟨v10, ev10⟩ : ∃ y : bM, y = upd v8 4 x9 := ⟨_, rfl⟩
    have hf := nm_use hf ev10
    rw [← ev10] at hB
    refine lv_iconst (v := 1) hx hb dX6_buyLot_46 (by decide) ?_
    exact bk_zW X hr rfl rfl hf hB (Nat.le_of_ble_eq_true rfl) (Nat.le_of_ble_eq_true rfl) dX6_buyLot_47
  · have hf := (if_pos c3).symm.trans hf
    refine lv_iconst (v := 0) hx hb dX6_buyLot_10 (by decide) ?_
    exact bk_zW X hr rfl rfl hf hB (Nat.le_of_ble_eq_true rfl) (Nat.le_of_ble_eq_true rfl) dX6_buyLot_11
theorem yv_X6_buyLot : bYv yX6_buyLot RX6 cX6_buyLot 4 (some .boolean) 3 := ⟨⟨rfl, by decide, by decide, rfl⟩, wm_576, wm_577, wm_2, wm_578⟩

theorem dX6_obstacle_0 : decode cX6_obstacle 0 = .ok (.aload_n 0, 1) := by decide +kernel
theorem dX6_obstacle_1 : decode cX6_obstacle 1 = .ok (.getfield 35, 3) := by decide +kernel
theorem dX6_obstacle_4 : decode cX6_obstacle 4 = .ok (.getfield 75, 3) := by decide +kernel
theorem dX6_obstacle_7 : decode cX6_obstacle 7 = .ok (.bipush 24, 2) := by decide +kernel
theorem dX6_obstacle_9 : decode cX6_obstacle 9 = .ok (.if_icmp .lt 5, 3) := by decide +kernel
theorem dX6_obstacle_12 : decode cX6_obstacle 12 = .ok (.iconst 1, 1) := by decide +kernel
theorem dX6_obstacle_13 : decode cX6_obstacle 13 = .ok (.ireturn, 1) := by decide +kernel
theorem dX6_obstacle_14 : decode cX6_obstacle 14 = .ok (.aload_n 0, 1) := by decide +kernel
theorem dX6_obstacle_15 : decode cX6_obstacle 15 = .ok (.getfield 21, 3) := by decide +kernel
theorem dX6_obstacle_18 : decode cX6_obstacle 18 = .ok (.getfield 109, 3) := by decide +kernel
theorem dX6_obstacle_21 : decode cX6_obstacle 21 = .ok (.iload_n 1, 1) := by decide +kernel
theorem dX6_obstacle_22 : decode cX6_obstacle 22 = .ok (.iaload, 1) := by decide +kernel
theorem dX6_obstacle_23 : decode cX6_obstacle 23 = .ok (.iload_n 2, 1) := by decide +kernel
theorem dX6_obstacle_24 : decode cX6_obstacle 24 = .ok (.imul, 1) := by decide +kernel
theorem dX6_obstacle_25 : decode cX6_obstacle 25 = .ok (.iload 4, 2) := by decide +kernel
theorem dX6_obstacle_27 : decode cX6_obstacle 27 = .ok (.iadd, 1) := by decide +kernel
theorem dX6_obstacle_28 : decode cX6_obstacle 28 = .ok (.iconst 1, 1) := by decide +kernel
theorem dX6_obstacle_29 : decode cX6_obstacle 29 = .ok (.if_icmp .ge 5, 3) := by decide +kernel
theorem dX6_obstacle_32 : decode cX6_obstacle 32 = .ok (.iconst 2, 1) := by decide +kernel
theorem dX6_obstacle_33 : decode cX6_obstacle 33 = .ok (.ireturn, 1) := by decide +kernel
theorem dX6_obstacle_34 : decode cX6_obstacle 34 = .ok (.iconst 0, 1) := by decide +kernel
theorem dX6_obstacle_35 : decode cX6_obstacle 35 = .ok (.istore 5, 2) := by decide +kernel
theorem dX6_obstacle_37 : decode cX6_obstacle 37 = .ok (.iconst 0, 1) := by decide +kernel
theorem dX6_obstacle_38 : decode cX6_obstacle 38 = .ok (.istore 6, 2) := by decide +kernel
theorem dX6_obstacle_40 : decode cX6_obstacle 40 = .ok (.iload 6, 2) := by decide +kernel
theorem dX6_obstacle_42 : decode cX6_obstacle 42 = .ok (.aload_n 0, 1) := by decide +kernel
theorem dX6_obstacle_43 : decode cX6_obstacle 43 = .ok (.getfield 12, 3) := by decide +kernel
theorem dX6_obstacle_46 : decode cX6_obstacle 46 = .ok (.getfield 71, 3) := by decide +kernel
theorem dX6_obstacle_49 : decode cX6_obstacle 49 = .ok (.if_icmp .ge 56, 3) := by decide +kernel
theorem dX6_obstacle_52 : decode cX6_obstacle 52 = .ok (.aload_n 0, 1) := by decide +kernel
theorem dX6_obstacle_53 : decode cX6_obstacle 53 = .ok (.getfield 21, 3) := by decide +kernel
theorem dX6_obstacle_56 : decode cX6_obstacle 56 = .ok (.iload_n 1, 1) := by decide +kernel
theorem dX6_obstacle_57 : decode cX6_obstacle 57 = .ok (.iload 6, 2) := by decide +kernel
theorem dX6_obstacle_59 : decode cX6_obstacle 59 = .ok (.iload_n 2, 1) := by decide +kernel
theorem dX6_obstacle_60 : decode cX6_obstacle 60 = .ok (.iload_n 3, 1) := by decide +kernel
theorem dX6_obstacle_61 : decode cX6_obstacle 61 = .ok (.invokevirtual 112, 3) := by decide +kernel
theorem dX6_obstacle_64 : decode cX6_obstacle 64 = .ok (.istore 7, 2) := by decide +kernel
theorem dX6_obstacle_66 : decode cX6_obstacle 66 = .ok (.iload 7, 2) := by decide +kernel
theorem dX6_obstacle_68 : decode cX6_obstacle 68 = .ok (.ifCond .ge 5, 3) := by decide +kernel
theorem dX6_obstacle_71 : decode cX6_obstacle 71 = .ok (.iconst 2, 1) := by decide +kernel
theorem dX6_obstacle_72 : decode cX6_obstacle 72 = .ok (.ireturn, 1) := by decide +kernel
theorem dX6_obstacle_73 : decode cX6_obstacle 73 = .ok (.iload 5, 2) := by decide +kernel
theorem dX6_obstacle_75 : decode cX6_obstacle 75 = .ok (.ifCond .ne 17, 3) := by decide +kernel
theorem dX6_obstacle_78 : decode cX6_obstacle 78 = .ok (.iload 7, 2) := by decide +kernel
theorem dX6_obstacle_80 : decode cX6_obstacle 80 = .ok (.aload_n 0, 1) := by decide +kernel
theorem dX6_obstacle_81 : decode cX6_obstacle 81 = .ok (.getfield 12, 3) := by decide +kernel
theorem dX6_obstacle_84 : decode cX6_obstacle 84 = .ok (.iload 6, 2) := by decide +kernel
theorem dX6_obstacle_86 : decode cX6_obstacle 86 = .ok (.invokevirtual 116, 3) := by decide +kernel
theorem dX6_obstacle_89 : decode cX6_obstacle 89 = .ok (.if_icmp .le 7, 3) := by decide +kernel
theorem dX6_obstacle_92 : decode cX6_obstacle 92 = .ok (.iconst 1, 1) := by decide +kernel
theorem dX6_obstacle_93 : decode cX6_obstacle 93 = .ok (.goto 4, 3) := by decide +kernel
theorem dX6_obstacle_96 : decode cX6_obstacle 96 = .ok (.iconst 0, 1) := by decide +kernel
theorem dX6_obstacle_97 : decode cX6_obstacle 97 = .ok (.istore 5, 2) := by decide +kernel
theorem dX6_obstacle_99 : decode cX6_obstacle 99 = .ok (.iinc 6 1, 3) := by decide +kernel
theorem dX6_obstacle_102 : decode cX6_obstacle 102 = .ok (.goto (-62), 3) := by decide +kernel
theorem dX6_obstacle_105 : decode cX6_obstacle 105 = .ok (.iload 5, 2) := by decide +kernel
theorem dX6_obstacle_107 : decode cX6_obstacle 107 = .ok (.ifCond .eq 7, 3) := by decide +kernel
theorem dX6_obstacle_110 : decode cX6_obstacle 110 = .ok (.iconst 3, 1) := by decide +kernel
theorem dX6_obstacle_111 : decode cX6_obstacle 111 = .ok (.goto 4, 3) := by decide +kernel
theorem dX6_obstacle_114 : decode cX6_obstacle 114 = .ok (.iconst 0, 1) := by decide +kernel
theorem dX6_obstacle_115 : decode cX6_obstacle 115 = .ok (.ireturn, 1) := by decide +kernel
def fX6_obstacle_J97 (y5 : Int32) (k40 : Int32 → Int32 → Option Int32) (y11 : Int32) : Option Int32 :=
  nm (y5 + 1) fun x12 => k40 y11 x12
def fX6_obstacle_J92 (y5 : Int32) (k40 : Int32 → Int32 → Option Int32)  : Option Int32 :=
  fX6_obstacle_J97 y5 k40 1
def fX6_obstacle_L40 (p1 : Int32) (p2 : Int32) (p3 : Int32) (v : bM) (k40 : Int32 → Int32 → Option Int32) (y4 : Int32) (y5 : Int32) : Option Int32 :=
  (if (v 6) ≤ y5 then ((if y4 = 0 then (some (0)) else (some (3)))) else (bnr (fX1_unitsFor p1 y5 p2 p3 (vw v 175)) fun r9 => (if 0 ≤ r9 then ((if y4 = 0 then (bnr (fX2_stock y5 (vw v 6)) fun r15 => (if r9 ≤ r15 then (fX6_obstacle_J97 y5 k40 0) else (fX6_obstacle_J92 y5 k40 ))) else (fX6_obstacle_J92 y5 k40 ))) else (some (2)))))
def fX6_obstacle (p1 : Int32) (p2 : Int32) (p3 : Int32) (p4 : Int32) (v : bM) : Option Int32 :=
  (if (v 277) < 24 then (ck p1 6 <| (if 1 ≤ (((v (182 + p1.toNatClampNeg)) * p2) + p4) then (lp (fX6_obstacle_L40 p1 p2 p3 v) (fun _ _ => none) lpN 0 0) else (some (2)))) else (some (1)))
set_option maxRecDepth 100000 in
set_option maxHeartbeats 4000000 in
theorem mX6_obstacle {l : Launch} {p1 : Int32} {p2 : Int32} {p3 : Int32} {p4 : Int32} {v : bM} {r0 : Int32} (hf : fX6_obstacle p1 p2 p3 p4 v = some r0) : bMet l yX6_obstacle cX6_obstacle 8 (some .int) 2 0 0 LSt (fun E a => [.ref a, .int p1, .int p2, .int p3, .int p4]) v v (fun _ => some (.int r0)) := by
  refine bk_start (by decide +kernel) wfSt (fun _ _ => Nat.le_of_ble_eq_true rfl) ?_
  intro p e s m args below meth c D E a ls H locs X hr hl hB
  have hx := X.1
  have hb := X.2.1
  have hown := X.2.2.2.1
  have hts := X.2.2.2.2.1
  have hl : lv_has ls 8 [(0, .ref a), (1, .int p1), (2, .int p2), (3, .int p3), (4, .int p4)] := hl
  have hf := (fX6_obstacle.eq_1 p1 p2 p3 p4 v).symm.trans hf
  refine lv_aload_n hx hb dX6_obstacle_0 rfl (lv_at hl 0 rfl) ?_
  refine bk_getR X hB kl_X6 0 lc_St_0 9 (by decide) rfl wm_240 dX6_obstacle_1 ?_
  refine bk_getI X hB kl_X0 37 lc_St_37 0 (by decide) rfl wm_170 dX6_obstacle_4 ?_
  refine lv_bipush (v := 24) hx hb dX6_obstacle_7 (by decide) ?_
  refine lv_icmp_lt (tgt := 14) hx hb dX6_obstacle_9 (by decide) (fun c1 => ?_) (fun c1 => ?_)
  · have hf := (if_pos c1).symm.trans hf
    refine lv_aload_n hx hb dX6_obstacle_14 rfl (lv_at hl 0 rfl) ?_
    refine bk_getR X hB kl_X6 0 lc_St_0 7 (by decide) rfl wm_234 dX6_obstacle_15 ?_
    refine bk_getR X hB kl_X1 20 lc_St_20 2 (by decide) rfl wm_105 dX6_obstacle_18 ?_
    refine lv_iload_n hx hb dX6_obstacle_21 rfl (lv_at hl 1 rfl) ?_
    obtain ⟨h2, hf⟩ := ck_some hf
    refine bk_ald X hB 22 lc_St_22 h2 dX6_obstacle_22 ?_
    refine lv_iload_n hx hb dX6_obstacle_23 rfl (lv_at hl 2 rfl) ?_
    refine lv_imul hx hb dX6_obstacle_24 ?_
    refine lv_iload hx hb dX6_obstacle_25 (lv_at hl 4 rfl) ?_
    refine lv_iadd hx hb dX6_obstacle_27 ?_
    refine lv_iconst (v := 1) hx hb dX6_obstacle_28 (by decide) ?_
    refine lv_icmp_ge (tgt := 34) hx hb dX6_obstacle_29 (by decide) (fun c3 => ?_) (fun c3 => ?_)
    · have hf := (if_pos c3).symm.trans hf
      refine lv_iconst (v := 0) hx hb dX6_obstacle_34 (by decide) ?_
      refine lv_istore (lv' := [(5, .int 0), (0, .ref a), (1, .int p1), (2, .int p2), (3, .int p3), (4, .int p4)]) hx hb dX6_obstacle_35 hl (by decide) rfl (fun ls hl => ?_)
      refine lv_iconst (v := 0) hx hb dX6_obstacle_37 (by decide) ?_
      refine lv_istore (lv' := [(6, .int 0), (5, .int 0), (0, .ref a), (1, .int p1), (2, .int p2), (3, .int p3), (4, .int p4)]) hx hb dX6_obstacle_38 hl (by decide) rfl (fun ls hl => ?_)
      have hL40 : ∀ (n40 : Nat) (y4 y5 : Int32) (H : Heap) (locs : List Loc) (ls : Array Slot), lp (fX6_obstacle_L40 p1 p2 p3 v) (fun _ _ => none) n40 y4 y5 = some r0 → bB D E LSt a v s H locs → lv_has ls 8 [(0, .ref a), (1, .int p1), (2, .int p2), (3, .int p3), (5, .int y4), (6, .int y5)] → W p l e (rmOf 2 0 0) s m args below meth c H locs 0 0 (bQ below D E LSt a v (some (.int r0)) args s 0 0) (F0 m 40 ls []) := by
        intro n40
        induction n40 with
        | zero => intro y4 y5 H locs ls hf; cases (show (none : Option Int32) = some r0 from hf)
        | succ n40 ih40 =>
          intro y4 y5 H locs ls hf hB hl
          have hf := (fX6_obstacle_L40.eq_1 p1 p2 p3 v (lp (fX6_obstacle_L40 p1 p2 p3 v) (fun _ _ => none) n40) y4 y5).symm.trans (show fX6_obstacle_L40 p1 p2 p3 v (lp (fX6_obstacle_L40 p1 p2 p3 v) (fun _ _ => none) n40) y4 y5 = some r0 from hf)
          refine lv_iload hx hb dX6_obstacle_40 (lv_at hl 5 rfl) ?_
          refine lv_aload_n hx hb dX6_obstacle_42 rfl (lv_at hl 0 rfl) ?_
          refine bk_getR X hB kl_X6 0 lc_St_0 6 (by decide) rfl wm_231 dX6_obstacle_43 ?_
          refine bk_getI X hB kl_X2 1 lc_St_1 0 (by decide) rfl wm_55 dX6_obstacle_46 ?_
          refine lv_icmp_ge (tgt := 105) hx hb dX6_obstacle_49 (by decide) (fun c6 => ?_) (fun c6 => ?_)
          · have hf := (if_pos c6).symm.trans hf
            refine lv_iload hx hb dX6_obstacle_105 (lv_at hl 4 rfl) ?_
            refine lv_if_eq (tgt := 114) hx hb dX6_obstacle_107 (by decide) (fun c7 => ?_) (fun c7 => ?_)
            · have hf := (if_pos c7).symm.trans hf
              refine lv_iconst (v := 0) hx hb dX6_obstacle_114 (by decide) ?_
              exact bk_iR X hr rfl hf hB (Nat.le_of_ble_eq_true rfl) (Nat.le_of_ble_eq_true rfl) dX6_obstacle_115
            · have hf := (if_neg c7).symm.trans hf
              refine lv_iconst (v := 3) hx hb dX6_obstacle_110 (by decide) ?_
              refine lv_goto (tgt := 115) hx hb dX6_obstacle_111 (by decide) ?_
              exact bk_iR X hr rfl hf hB (Nat.le_of_ble_eq_true rfl) (Nat.le_of_ble_eq_true rfl) dX6_obstacle_115
          · have hf := (if_neg c6).symm.trans hf
            refine lv_aload_n hx hb dX6_obstacle_52 rfl (lv_at hl 0 rfl) ?_
            refine bk_getR X hB kl_X6 0 lc_St_0 7 (by decide) rfl wm_234 dX6_obstacle_53 ?_
            refine lv_iload_n hx hb dX6_obstacle_56 rfl (lv_at hl 1 rfl) ?_
            refine lv_iload hx hb dX6_obstacle_57 (lv_at hl 5 rfl) ?_
            refine lv_iload_n hx hb dX6_obstacle_59 rfl (lv_at hl 2 rfl) ?_
            refine lv_iload_n hx hb dX6_obstacle_60 rfl (lv_at hl 3 rfl) ?_
            obtain ⟨r9, hc8, hf⟩ := bnr_some hf
            refine bk_subR sub_St_20 hB (fun h1 h2 h3 => bk_runV X (Av := [.int p1, .int y5, .int p2, .int p3]) (rest := []) (mX1_unitsFor hc8) yv_X1_unitsFor wm_595 ⟨Nat.le_of_ble_eq_true rfl, Nat.le_of_ble_eq_true rfl⟩ rfl rfl hl.1 kl_X1.1 (hB.1.obj lc_St_20) h1 h2 h3 (Nat.le_of_ble_eq_true rfl) ⟨Nat.le_of_ble_eq_true rfl, Nat.le_of_ble_eq_true rfl⟩ dX6_obstacle_61) (fun H locs hB => ?_)
            refine W.eq (g2 := F0 m 64 ls [.int r9]) rfl ?_
            refine lv_istore (lv' := [(7, .int r9), (0, .ref a), (1, .int p1), (2, .int p2), (3, .int p3), (5, .int y4), (6, .int y5)]) hx hb dX6_obstacle_64 hl (by decide) rfl (fun ls hl => ?_)
            refine lv_iload hx hb dX6_obstacle_66 (lv_at hl 0 rfl) ?_
            refine lv_if_ge (tgt := 73) hx hb dX6_obstacle_68 (by decide) (fun c10 => ?_) (fun c10 => ?_)
            · have hf := (if_pos c10).symm.trans hf
              refine lv_iload hx hb dX6_obstacle_73 (lv_at hl 5 rfl) ?_
              have hJ97 : ∀ (y11 : Int32) (H : Heap) (locs : List Loc) (ls : Array Slot), fX6_obstacle_J97 y5 (lp (fX6_obstacle_L40 p1 p2 p3 v) (fun _ _ => none) n40) y11 = some r0 → bB D E LSt a v s H locs → lv_has ls 8 [(0, .ref a), (1, .int p1), (2, .int p2), (3, .int p3), (6, .int y5)] → W p l e (rmOf 2 0 0) s m args below meth c H locs 0 0 (bQ below D E LSt a v (some (.int r0)) args s 0 0) (F0 m 97 ls [.int y11]) := by
                intro y11 H locs ls hf hB hl
                have hf := (fX6_obstacle_J97.eq_1 y5 (lp (fX6_obstacle_L40 p1 p2 p3 v) (fun _ _ => none) n40) y11).symm.trans hf
                refine lv_istore (lv' := [(5, .int y11), (0, .ref a), (1, .int p1), (2, .int p2), (3, .int p3), (6, .int y5)]) hx hb dX6_obstacle_97 hl (by decide) rfl (fun ls hl => ?_)
                obtain ⟨x12, ex12⟩ : ∃ y : Int32, y = y5 + 1 := ⟨_, rfl⟩
                have hf := nm_use hf ex12
                refine lv_iinc (v := x12) (lv' := [(6, .int x12), (5, .int y11), (0, .ref a), (1, .int p1), (2, .int p2), (3, .int p3)]) hx hb dX6_obstacle_99 hl (k := 5) rfl (by rw [ex12]; rfl) (by decide) rfl (fun ls hl => ?_)
                refine lv_goto (tgt := 40) hx hb dX6_obstacle_102 (by decide) ?_
                exact ih40 y11 x12 H locs ls hf hB (lv_sub hl [2, 3, 4, 5, 1, 0] rfl)
              have hJ92 : ∀ (H : Heap) (locs : List Loc) (ls : Array Slot), fX6_obstacle_J92 y5 (lp (fX6_obstacle_L40 p1 p2 p3 v) (fun _ _ => none) n40)  = some r0 → bB D E LSt a v s H locs → lv_has ls 8 [(0, .ref a), (1, .int p1), (2, .int p2), (3, .int p3), (6, .int y5)] → W p l e (rmOf 2 0 0) s m args below meth c H locs 0 0 (bQ below D E LSt a v (some (.int r0)) args s 0 0) (F0 m 92 ls []) := by
                intro  H locs ls hf hB hl
                have hf := (fX6_obstacle_J92.eq_1 y5 (lp (fX6_obstacle_L40 p1 p2 p3 v) (fun _ _ => none) n40) ).symm.trans hf
                refine lv_iconst (v := 1) hx hb dX6_obstacle_92 (by decide) ?_
                refine lv_goto (tgt := 97) hx hb dX6_obstacle_93 (by decide) ?_
                exact hJ97 1 H locs ls hf hB (lv_sub hl [0, 1, 2, 3, 4] rfl)
              refine lv_if_ne (tgt := 92) hx hb dX6_obstacle_75 (by decide) (fun c13 => ?_) (fun c13 => ?_)
              · have hf := (if_neg c13).symm.trans hf
                exact hJ92  H locs ls hf hB (lv_sub hl [1, 2, 3, 4, 6] rfl)
              · have hf := (if_pos c13).symm.trans hf
                refine lv_iload hx hb dX6_obstacle_78 (lv_at hl 0 rfl) ?_
                refine lv_aload_n hx hb dX6_obstacle_80 rfl (lv_at hl 1 rfl) ?_
                refine bk_getR X hB kl_X6 0 lc_St_0 6 (by decide) rfl wm_231 dX6_obstacle_81 ?_
                refine lv_iload hx hb dX6_obstacle_84 (lv_at hl 6 rfl) ?_
                obtain ⟨r15, hc14, hf⟩ := bnr_some hf
                refine bk_subR sub_St_1 hB (fun h1 h2 h3 => bk_runV X (Av := [.int y5]) (rest := [.int r9]) (mX2_stock hc14) yv_X2_stock wm_599 ⟨Nat.le_of_ble_eq_true rfl, Nat.le_of_ble_eq_true rfl⟩ rfl rfl hl.1 kl_X2.1 (hB.1.obj lc_St_1) h1 h2 h3 (Nat.le_of_ble_eq_true rfl) ⟨Nat.le_of_ble_eq_true rfl, Nat.le_of_ble_eq_true rfl⟩ dX6_obstacle_86) (fun H locs hB => ?_)
                refine W.eq (g2 := F0 m 89 ls [.int r15, .int r9]) rfl ?_
                refine lv_icmp_le (tgt := 96) hx hb dX6_obstacle_89 (by decide) (fun c16 => ?_) (fun c16 => ?_)
                · have hf := (if_pos c16).symm.trans hf
                  refine lv_iconst (v := 0) hx hb dX6_obstacle_96 (by decide) ?_
                  exact hJ97 0 H locs ls hf hB (lv_sub hl [1, 2, 3, 4, 6] rfl)
                · have hf := (if_neg c16).symm.trans hf
                  exact hJ92  H locs ls hf hB (lv_sub hl [1, 2, 3, 4, 6] rfl)
            · have hf := (if_neg c10).symm.trans hf
              refine lv_iconst (v := 2) hx hb dX6_obstacle_71 (by decide) ?_
              exact bk_iR X hr rfl hf hB (Nat.le_of_ble_eq_true rfl) (Nat.le_of_ble_eq_true rfl) dX6_obstacle_72
      exact hL40 lpN 0 0 H locs ls hf hB (lv_sub hl [2, 3, 4, 5, 1, 0] rfl)
    · have hf := (if_neg c3).symm.trans hf
      refine lv_iconst (v := 2) hx hb dX6_obstacle_32 (by decide) ?_
      exact bk_iR X hr rfl hf hB (Nat.le_of_ble_eq_true rfl) (Nat.le_of_ble_eq_true rfl) dX6_obstacle_33
  · have hf := (if_neg c1).symm.trans hf
    refine lv_iconst (v := 1) hx hb dX6_obstacle_12 (by decide) ?_
    exact bk_iR X hr rfl hf hB (Nat.le_of_ble_eq_true rfl) (Nat.le_of_ble_eq_true rfl) dX6_obstacle_13
theorem yv_X6_obstacle : bYv yX6_obstacle RX6 cX6_obstacle 8 (some .int) 4 := ⟨⟨rfl, by decide, by decide, rfl⟩, wm_592, wm_593, wm_2, wm_594⟩

theorem dX6_flourCostOf_0 : decode cX6_flourCostOf 0 = .ok (.iconst 0, 1) := by decide +kernel
theorem dX6_flourCostOf_1 : decode cX6_flourCostOf 1 = .ok (.istore 4, 2) := by decide +kernel
theorem dX6_flourCostOf_3 : decode cX6_flourCostOf 3 = .ok (.iconst 0, 1) := by decide +kernel
theorem dX6_flourCostOf_4 : decode cX6_flourCostOf 4 = .ok (.istore 5, 2) := by decide +kernel
theorem dX6_flourCostOf_6 : decode cX6_flourCostOf 6 = .ok (.iload 5, 2) := by decide +kernel
theorem dX6_flourCostOf_8 : decode cX6_flourCostOf 8 = .ok (.aload_n 0, 1) := by decide +kernel
theorem dX6_flourCostOf_9 : decode cX6_flourCostOf 9 = .ok (.getfield 12, 3) := by decide +kernel
theorem dX6_flourCostOf_12 : decode cX6_flourCostOf 12 = .ok (.getfield 71, 3) := by decide +kernel
theorem dX6_flourCostOf_15 : decode cX6_flourCostOf 15 = .ok (.if_icmp .ge 35, 3) := by decide +kernel
theorem dX6_flourCostOf_18 : decode cX6_flourCostOf 18 = .ok (.iload 4, 2) := by decide +kernel
theorem dX6_flourCostOf_20 : decode cX6_flourCostOf 20 = .ok (.aload_n 0, 1) := by decide +kernel
theorem dX6_flourCostOf_21 : decode cX6_flourCostOf 21 = .ok (.getfield 12, 3) := by decide +kernel
theorem dX6_flourCostOf_24 : decode cX6_flourCostOf 24 = .ok (.iload 5, 2) := by decide +kernel
theorem dX6_flourCostOf_26 : decode cX6_flourCostOf 26 = .ok (.aload_n 0, 1) := by decide +kernel
theorem dX6_flourCostOf_27 : decode cX6_flourCostOf 27 = .ok (.getfield 21, 3) := by decide +kernel
theorem dX6_flourCostOf_30 : decode cX6_flourCostOf 30 = .ok (.iload_n 1, 1) := by decide +kernel
theorem dX6_flourCostOf_31 : decode cX6_flourCostOf 31 = .ok (.iload 5, 2) := by decide +kernel
theorem dX6_flourCostOf_33 : decode cX6_flourCostOf 33 = .ok (.iload_n 2, 1) := by decide +kernel
theorem dX6_flourCostOf_34 : decode cX6_flourCostOf 34 = .ok (.iload_n 3, 1) := by decide +kernel
theorem dX6_flourCostOf_35 : decode cX6_flourCostOf 35 = .ok (.invokevirtual 112, 3) := by decide +kernel
theorem dX6_flourCostOf_38 : decode cX6_flourCostOf 38 = .ok (.invokevirtual 157, 3) := by decide +kernel
theorem dX6_flourCostOf_41 : decode cX6_flourCostOf 41 = .ok (.iadd, 1) := by decide +kernel
theorem dX6_flourCostOf_42 : decode cX6_flourCostOf 42 = .ok (.istore 4, 2) := by decide +kernel
theorem dX6_flourCostOf_44 : decode cX6_flourCostOf 44 = .ok (.iinc 5 1, 3) := by decide +kernel
theorem dX6_flourCostOf_47 : decode cX6_flourCostOf 47 = .ok (.goto (-41), 3) := by decide +kernel
theorem dX6_flourCostOf_50 : decode cX6_flourCostOf 50 = .ok (.iload 4, 2) := by decide +kernel
theorem dX6_flourCostOf_52 : decode cX6_flourCostOf 52 = .ok (.ireturn, 1) := by decide +kernel
def fX6_flourCostOf_L6 (p1 : Int32) (p2 : Int32) (p3 : Int32) (v : bM) (k6 : Int32 → Int32 → Option Int32) (y1 : Int32) (y2 : Int32) : Option Int32 :=
  (if (v 6) ≤ y2 then (some (y1)) else (bnr (fX1_unitsFor p1 y2 p2 p3 (vw v 175)) fun r5 => bnr (fX2_paidForNext y2 r5 (vw v 6)) fun r7 => nm (y1 + r7) fun x8 => nm (y2 + 1) fun x9 => k6 x8 x9))
def fX6_flourCostOf (p1 : Int32) (p2 : Int32) (p3 : Int32) (v : bM) : Option Int32 :=
  lp (fX6_flourCostOf_L6 p1 p2 p3 v) (fun _ _ => none) lpN 0 0
set_option maxRecDepth 100000 in
set_option maxHeartbeats 4000000 in
theorem mX6_flourCostOf {l : Launch} {p1 : Int32} {p2 : Int32} {p3 : Int32} {v : bM} {r0 : Int32} (hf : fX6_flourCostOf p1 p2 p3 v = some r0) : bMet l yX6_flourCostOf cX6_flourCostOf 6 (some .int) 2 0 0 LSt (fun E a => [.ref a, .int p1, .int p2, .int p3]) v v (fun _ => some (.int r0)) := by
  refine bk_start (by decide +kernel) wfSt (fun _ _ => Nat.le_of_ble_eq_true rfl) ?_
  intro p e s m args below meth c D E a ls H locs X hr hl hB
  have hx := X.1
  have hb := X.2.1
  have hown := X.2.2.2.1
  have hts := X.2.2.2.2.1
  have hl : lv_has ls 6 [(0, .ref a), (1, .int p1), (2, .int p2), (3, .int p3)] := hl
  have hf := (fX6_flourCostOf.eq_1 p1 p2 p3 v).symm.trans hf
  refine lv_iconst (v := 0) hx hb dX6_flourCostOf_0 (by decide) ?_
  refine lv_istore (lv' := [(4, .int 0), (0, .ref a), (1, .int p1), (2, .int p2), (3, .int p3)]) hx hb dX6_flourCostOf_1 hl (by decide) rfl (fun ls hl => ?_)
  refine lv_iconst (v := 0) hx hb dX6_flourCostOf_3 (by decide) ?_
  refine lv_istore (lv' := [(5, .int 0), (4, .int 0), (0, .ref a), (1, .int p1), (2, .int p2), (3, .int p3)]) hx hb dX6_flourCostOf_4 hl (by decide) rfl (fun ls hl => ?_)
  have hL6 : ∀ (n6 : Nat) (y1 y2 : Int32) (H : Heap) (locs : List Loc) (ls : Array Slot), lp (fX6_flourCostOf_L6 p1 p2 p3 v) (fun _ _ => none) n6 y1 y2 = some r0 → bB D E LSt a v s H locs → lv_has ls 6 [(0, .ref a), (1, .int p1), (2, .int p2), (3, .int p3), (4, .int y1), (5, .int y2)] → W p l e (rmOf 2 0 0) s m args below meth c H locs 0 0 (bQ below D E LSt a v (some (.int r0)) args s 0 0) (F0 m 6 ls []) := by
    intro n6
    induction n6 with
    | zero => intro y1 y2 H locs ls hf; cases (show (none : Option Int32) = some r0 from hf)
    | succ n6 ih6 =>
      intro y1 y2 H locs ls hf hB hl
      have hf := (fX6_flourCostOf_L6.eq_1 p1 p2 p3 v (lp (fX6_flourCostOf_L6 p1 p2 p3 v) (fun _ _ => none) n6) y1 y2).symm.trans (show fX6_flourCostOf_L6 p1 p2 p3 v (lp (fX6_flourCostOf_L6 p1 p2 p3 v) (fun _ _ => none) n6) y1 y2 = some r0 from hf)
      refine lv_iload hx hb dX6_flourCostOf_6 (lv_at hl 5 rfl) ?_
      refine lv_aload_n hx hb dX6_flourCostOf_8 rfl (lv_at hl 0 rfl) ?_
      refine bk_getR X hB kl_X6 0 lc_St_0 6 (by decide) rfl wm_231 dX6_flourCostOf_9 ?_
      refine bk_getI X hB kl_X2 1 lc_St_1 0 (by decide) rfl wm_55 dX6_flourCostOf_12 ?_
      refine lv_icmp_ge (tgt := 50) hx hb dX6_flourCostOf_15 (by decide) (fun c3 => ?_) (fun c3 => ?_)
      · have hf := (if_pos c3).symm.trans hf
        refine lv_iload hx hb dX6_flourCostOf_50 (lv_at hl 4 rfl) ?_
        exact bk_iR X hr rfl hf hB (Nat.le_of_ble_eq_true rfl) (Nat.le_of_ble_eq_true rfl) dX6_flourCostOf_52
      · have hf := (if_neg c3).symm.trans hf
        refine lv_iload hx hb dX6_flourCostOf_18 (lv_at hl 4 rfl) ?_
        refine lv_aload_n hx hb dX6_flourCostOf_20 rfl (lv_at hl 0 rfl) ?_
        refine bk_getR X hB kl_X6 0 lc_St_0 6 (by decide) rfl wm_231 dX6_flourCostOf_21 ?_
        refine lv_iload hx hb dX6_flourCostOf_24 (lv_at hl 5 rfl) ?_
        refine lv_aload_n hx hb dX6_flourCostOf_26 rfl (lv_at hl 0 rfl) ?_
        refine bk_getR X hB kl_X6 0 lc_St_0 7 (by decide) rfl wm_234 dX6_flourCostOf_27 ?_
        refine lv_iload_n hx hb dX6_flourCostOf_30 rfl (lv_at hl 1 rfl) ?_
        refine lv_iload hx hb dX6_flourCostOf_31 (lv_at hl 5 rfl) ?_
        refine lv_iload_n hx hb dX6_flourCostOf_33 rfl (lv_at hl 2 rfl) ?_
        refine lv_iload_n hx hb dX6_flourCostOf_34 rfl (lv_at hl 3 rfl) ?_
        obtain ⟨r5, hc4, hf⟩ := bnr_some hf
        refine bk_subR sub_St_20 hB (fun h1 h2 h3 => bk_runV X (Av := [.int p1, .int y2, .int p2, .int p3]) (rest := [.int y2, .ref (a + 1), .int y1]) (mX1_unitsFor hc4) yv_X1_unitsFor wm_595 ⟨Nat.le_of_ble_eq_true rfl, Nat.le_of_ble_eq_true rfl⟩ rfl rfl hl.1 kl_X1.1 (hB.1.obj lc_St_20) h1 h2 h3 (Nat.le_of_ble_eq_true rfl) ⟨Nat.le_of_ble_eq_true rfl, Nat.le_of_ble_eq_true rfl⟩ dX6_flourCostOf_35) (fun H locs hB => ?_)
        refine W.eq (g2 := F0 m 38 ls [.int r5, .int y2, .ref (a + 1), .int y1]) rfl ?_
        obtain ⟨r7, hc6, hf⟩ := bnr_some hf
        refine bk_subR sub_St_1 hB (fun h1 h2 h3 => bk_runV X (Av := [.int y2, .int r5]) (rest := [.int y1]) (mX2_paidForNext hc6) yv_X2_paidForNext wm_610 ⟨Nat.le_of_ble_eq_true rfl, Nat.le_of_ble_eq_true rfl⟩ rfl rfl hl.1 kl_X2.1 (hB.1.obj lc_St_1) h1 h2 h3 (Nat.le_of_ble_eq_true rfl) ⟨Nat.le_of_ble_eq_true rfl, Nat.le_of_ble_eq_true rfl⟩ dX6_flourCostOf_38) (fun H locs hB => ?_)
        refine W.eq (g2 := F0 m 41 ls [.int r7, .int y1]) rfl ?_
        refine lv_iadd hx hb dX6_flourCostOf_41 ?_
        refine lv_topi (fun x8 ex8 => ?_)
        have hf := nm_use hf ex8
        refine lv_istore (lv' := [(4, .int x8), (0, .ref a), (1, .int p1), (2, .int p2), (3, .int p3), (5, .int y2)]) hx hb dX6_flourCostOf_42 hl (by decide) rfl (fun ls hl => ?_)
        obtain ⟨x9, ex9⟩ : ∃ y : Int32, y = y2 + 1 := ⟨_, rfl⟩
        have hf := nm_use hf ex9
        refine lv_iinc (v := x9) (lv' := [(5, .int x9), (4, .int x8), (0, .ref a), (1, .int p1), (2, .int p2), (3, .int p3)]) hx hb dX6_flourCostOf_44 hl (k := 5) rfl (by rw [ex9]; rfl) (by decide) rfl (fun ls hl => ?_)
        refine lv_goto (tgt := 6) hx hb dX6_flourCostOf_47 (by decide) ?_
        exact ih6 x8 x9 H locs ls hf hB (lv_sub hl [2, 3, 4, 5, 1, 0] rfl)
  exact hL6 lpN 0 0 H locs ls hf hB (lv_sub hl [2, 3, 4, 5, 1, 0] rfl)
theorem yv_X6_flourCostOf : bYv yX6_flourCostOf RX6 cX6_flourCostOf 6 (some .int) 3 := ⟨⟨rfl, by decide, by decide, rfl⟩, wm_608, wp_13, wm_2, wm_609⟩

theorem dX6_useOven_0 : decode cX6_useOven 0 = .ok (.aload_n 0, 1) := by decide +kernel
theorem dX6_useOven_1 : decode cX6_useOven 1 = .ok (.getfield 28, 3) := by decide +kernel
theorem dX6_useOven_4 : decode cX6_useOven 4 = .ok (.invokevirtual 161, 3) := by decide +kernel
theorem dX6_useOven_7 : decode cX6_useOven 7 = .ok (.istore_n 3, 1) := by decide +kernel
theorem dX6_useOven_8 : decode cX6_useOven 8 = .ok (.aload_n 0, 1) := by decide +kernel
theorem dX6_useOven_9 : decode cX6_useOven 9 = .ok (.getfield 28, 3) := by decide +kernel
theorem dX6_useOven_12 : decode cX6_useOven 12 = .ok (.aload_n 0, 1) := by decide +kernel
theorem dX6_useOven_13 : decode cX6_useOven 13 = .ok (.getfield 39, 3) := by decide +kernel
theorem dX6_useOven_16 : decode cX6_useOven 16 = .ok (.invokevirtual 165, 3) := by decide +kernel
theorem dX6_useOven_19 : decode cX6_useOven 19 = .ok (.istore 4, 2) := by decide +kernel
theorem dX6_useOven_21 : decode cX6_useOven 21 = .ok (.aload_n 0, 1) := by decide +kernel
theorem dX6_useOven_22 : decode cX6_useOven 22 = .ok (.getfield 28, 3) := by decide +kernel
theorem dX6_useOven_25 : decode cX6_useOven 25 = .ok (.iload 4, 2) := by decide +kernel
theorem dX6_useOven_27 : decode cX6_useOven 27 = .ok (.iload_n 2, 1) := by decide +kernel
theorem dX6_useOven_28 : decode cX6_useOven 28 = .ok (.invokevirtual 168, 3) := by decide +kernel
theorem dX6_useOven_31 : decode cX6_useOven 31 = .ok (.istore 5, 2) := by decide +kernel
theorem dX6_useOven_33 : decode cX6_useOven 33 = .ok (.aload_n 0, 1) := by decide +kernel
theorem dX6_useOven_34 : decode cX6_useOven 34 = .ok (.getfield 28, 3) := by decide +kernel
theorem dX6_useOven_37 : decode cX6_useOven 37 = .ok (.getfield 171, 3) := by decide +kernel
theorem dX6_useOven_40 : decode cX6_useOven 40 = .ok (.iload_n 3, 1) := by decide +kernel
theorem dX6_useOven_41 : decode cX6_useOven 41 = .ok (.iload 4, 2) := by decide +kernel
theorem dX6_useOven_43 : decode cX6_useOven 43 = .ok (.iload_n 2, 1) := by decide +kernel
theorem dX6_useOven_44 : decode cX6_useOven 44 = .ok (.iadd, 1) := by decide +kernel
theorem dX6_useOven_45 : decode cX6_useOven 45 = .ok (.iastore, 1) := by decide +kernel
theorem dX6_useOven_46 : decode cX6_useOven 46 = .ok (.aload_n 0, 1) := by decide +kernel
theorem dX6_useOven_47 : decode cX6_useOven 47 = .ok (.dup, 1) := by decide +kernel
theorem dX6_useOven_48 : decode cX6_useOven 48 = .ok (.getfield 43, 3) := by decide +kernel
theorem dX6_useOven_51 : decode cX6_useOven 51 = .ok (.iload 5, 2) := by decide +kernel
theorem dX6_useOven_53 : decode cX6_useOven 53 = .ok (.isub, 1) := by decide +kernel
theorem dX6_useOven_54 : decode cX6_useOven 54 = .ok (.putfield 43, 3) := by decide +kernel
theorem dX6_useOven_57 : decode cX6_useOven 57 = .ok (.aload_n 0, 1) := by decide +kernel
theorem dX6_useOven_58 : decode cX6_useOven 58 = .ok (.getfield 35, 3) := by decide +kernel
theorem dX6_useOven_61 : decode cX6_useOven 61 = .ok (.getfield 174, 3) := by decide +kernel
theorem dX6_useOven_64 : decode cX6_useOven 64 = .ok (.iload_n 1, 1) := by decide +kernel
theorem dX6_useOven_65 : decode cX6_useOven 65 = .ok (.iload 4, 2) := by decide +kernel
theorem dX6_useOven_67 : decode cX6_useOven 67 = .ok (.iastore, 1) := by decide +kernel
theorem dX6_useOven_68 : decode cX6_useOven 68 = .ok (.aload_n 0, 1) := by decide +kernel
theorem dX6_useOven_69 : decode cX6_useOven 69 = .ok (.getfield 35, 3) := by decide +kernel
theorem dX6_useOven_72 : decode cX6_useOven 72 = .ok (.getfield 177, 3) := by decide +kernel
theorem dX6_useOven_75 : decode cX6_useOven 75 = .ok (.iload_n 1, 1) := by decide +kernel
theorem dX6_useOven_76 : decode cX6_useOven 76 = .ok (.iload_n 2, 1) := by decide +kernel
theorem dX6_useOven_77 : decode cX6_useOven 77 = .ok (.iastore, 1) := by decide +kernel
theorem dX6_useOven_78 : decode cX6_useOven 78 = .ok (.aload_n 0, 1) := by decide +kernel
theorem dX6_useOven_79 : decode cX6_useOven 79 = .ok (.getfield 35, 3) := by decide +kernel
theorem dX6_useOven_82 : decode cX6_useOven 82 = .ok (.getfield 147, 3) := by decide +kernel
theorem dX6_useOven_85 : decode cX6_useOven 85 = .ok (.iload_n 1, 1) := by decide +kernel
theorem dX6_useOven_86 : decode cX6_useOven 86 = .ok (.iload 5, 2) := by decide +kernel
theorem dX6_useOven_88 : decode cX6_useOven 88 = .ok (.iastore, 1) := by decide +kernel
theorem dX6_useOven_89 : decode cX6_useOven 89 = .ok (.return_, 1) := by decide +kernel
def fX6_useOven (p1 : Int32) (p2 : Int32) (v : bM) : Option bM :=
  bnr (fX5_firstFree (vw v 248)) fun r2 => bnr (fX5_startFrom (v 0) (vw v 248)) fun r4 => bnr (fX5_priceOfMinutes r4 p2 (vw v 248)) fun r6 => nm (r4 + p2) fun x7 => ck r2 3 <| nm (upd v (250 + r2.toNatClampNeg) x7) fun v9 => nm ((v9 1) - r6) fun x10 => nm (upd v9 1 x10) fun v11 => ck p1 24 <| nm (upd v11 (350 + p1.toNatClampNeg) r4) fun v13 => ck p1 24 <| nm (upd v13 (374 + p1.toNatClampNeg) p2) fun v15 => ck p1 24 <| nm (upd v15 (422 + p1.toNatClampNeg) r6) fun v17 => some v17
set_option maxRecDepth 100000 in
set_option maxHeartbeats 4000000 in
theorem mX6_useOven {l : Launch} {p1 : Int32} {p2 : Int32} {v : bM} {w0 : bM} (hf : fX6_useOven p1 p2 v = some w0) : bMet l yX6_useOven cX6_useOven 6 none 2 0 0 LSt (fun E a => [.ref a, .int p1, .int p2]) v w0 (fun _ => none) := by
  refine bk_start (by decide +kernel) wfSt (fun _ _ => Nat.le_of_ble_eq_true rfl) ?_
  intro p e s m args below meth c D E a ls H locs X hr hl hB
  have hx := X.1
  have hb := X.2.1
  have hown := X.2.2.2.1
  have hts := X.2.2.2.2.1
  have hl : lv_has ls 6 [(0, .ref a), (1, .int p1), (2, .int p2)] := hl
  have hf := (fX6_useOven.eq_1 p1 p2 v).symm.trans hf
  refine lv_aload_n hx hb dX6_useOven_0 rfl (lv_at hl 0 rfl) ?_
  refine bk_getR X hB kl_X6 0 lc_St_0 8 (by decide) rfl wm_237 dX6_useOven_1 ?_
  obtain ⟨r2, hc1, hf⟩ := bnr_some hf
  refine bk_subR sub_St_34 hB (fun h1 h2 h3 => bk_runV X (Av := []) (rest := []) (mX5_firstFree hc1) yv_X5_firstFree wm_619 ⟨Nat.le_of_ble_eq_true rfl, Nat.le_of_ble_eq_true rfl⟩ rfl rfl hl.1 kl_X5.1 (hB.1.obj lc_St_34) h1 h2 h3 (Nat.le_of_ble_eq_true rfl) ⟨Nat.le_of_ble_eq_true rfl, Nat.le_of_ble_eq_true rfl⟩ dX6_useOven_4) (fun H locs hB => ?_)
  refine W.eq (g2 := F0 m 7 ls [.int r2]) rfl ?_
  refine lv_istore_n (lv' := [(3, .int r2), (0, .ref a), (1, .int p1), (2, .int p2)]) hx hb dX6_useOven_7 rfl hl (by decide) rfl (fun ls hl => ?_)
  refine lv_aload_n hx hb dX6_useOven_8 rfl (lv_at hl 1 rfl) ?_
  refine bk_getR X hB kl_X6 0 lc_St_0 8 (by decide) rfl wm_237 dX6_useOven_9 ?_
  refine lv_aload_n hx hb dX6_useOven_12 rfl (lv_at hl 1 rfl) ?_
  refine bk_getI X hB kl_X6 0 lc_St_0 0 (by decide) rfl wm_220 dX6_useOven_13 ?_
  obtain ⟨r4, hc3, hf⟩ := bnr_some hf
  refine bk_subR sub_St_34 hB (fun h1 h2 h3 => bk_runV X (Av := [.int (v 0)]) (rest := []) (mX5_startFrom hc3) yv_X5_startFrom wm_623 ⟨Nat.le_of_ble_eq_true rfl, Nat.le_of_ble_eq_true rfl⟩ rfl rfl hl.1 kl_X5.1 (hB.1.obj lc_St_34) h1 h2 h3 (Nat.le_of_ble_eq_true rfl) ⟨Nat.le_of_ble_eq_true rfl, Nat.le_of_ble_eq_true rfl⟩ dX6_useOven_16) (fun H locs hB => ?_)
  refine W.eq (g2 := F0 m 19 ls [.int r4]) rfl ?_
  refine lv_istore (lv' := [(4, .int r4), (3, .int r2), (0, .ref a), (1, .int p1), (2, .int p2)]) hx hb dX6_useOven_19 hl (by decide) rfl (fun ls hl => ?_)
  refine lv_aload_n hx hb dX6_useOven_21 rfl (lv_at hl 2 rfl) ?_
  refine bk_getR X hB kl_X6 0 lc_St_0 8 (by decide) rfl wm_237 dX6_useOven_22 ?_
  refine lv_iload hx hb dX6_useOven_25 (lv_at hl 0 rfl) ?_
  refine lv_iload_n hx hb dX6_useOven_27 rfl (lv_at hl 4 rfl) ?_
  obtain ⟨r6, hc5, hf⟩ := bnr_some hf
  refine bk_subR sub_St_34 hB (fun h1 h2 h3 => bk_runV X (Av := [.int r4, .int p2]) (rest := []) (mX5_priceOfMinutes hc5) yv_X5_priceOfMinutes wm_631 ⟨Nat.le_of_ble_eq_true rfl, Nat.le_of_ble_eq_true rfl⟩ rfl rfl hl.1 kl_X5.1 (hB.1.obj lc_St_34) h1 h2 h3 (Nat.le_of_ble_eq_true rfl) ⟨Nat.le_of_ble_eq_true rfl, Nat.le_of_ble_eq_true rfl⟩ dX6_useOven_28) (fun H locs hB => ?_)
  refine W.eq (g2 := F0 m 31 ls [.int r6]) rfl ?_
  refine lv_istore (lv' := [(5, .int r6), (4, .int r4), (3, .int r2), (0, .ref a), (1, .int p1), (2, .int p2)]) hx hb dX6_useOven_31 hl (by decide) rfl (fun ls hl => ?_)
  refine lv_aload_n hx hb dX6_useOven_33 rfl (lv_at hl 3 rfl) ?_
  refine bk_getR X hB kl_X6 0 lc_St_0 8 (by decide) rfl wm_237 dX6_useOven_34 ?_
  refine bk_getR X hB kl_X5 34 lc_St_34 2 (by decide) rfl wm_148 dX6_useOven_37 ?_
  refine lv_iload_n hx hb dX6_useOven_40 rfl (lv_at hl 2 rfl) ?_
  refine lv_iload hx hb dX6_useOven_41 (lv_at hl 1 rfl) ?_
  refine lv_iload_n hx hb dX6_useOven_43 rfl (lv_at hl 5 rfl) ?_
  refine lv_iadd hx hb dX6_useOven_44 ?_
  refine lv_topi (fun x7 ex7 => ?_)
  have hf := nm_use hf ex7
  obtain ⟨h8, hf⟩ := ck_some hf
  refine bk_ast X hB 35 lc_St_35 h8 dX6_useOven_45 (fun H locs hB => ?_)
  obtain ⟨v9, ev9⟩ : ∃ y : bM, y = upd v (250 + r2.toNatClampNeg) x7 := ⟨_, rfl⟩
  have hf := nm_use hf ev9
  rw [← ev9] at hB
  refine lv_aload_n hx hb dX6_useOven_46 rfl (lv_at hl 3 rfl) ?_
  refine lv_dup hx hb dX6_useOven_47 rfl ?_
  refine bk_getI X hB kl_X6 0 lc_St_0 1 (by decide) rfl wm_223 dX6_useOven_48 ?_
  refine lv_iload hx hb dX6_useOven_51 (lv_at hl 0 rfl) ?_
  refine lv_isub hx hb dX6_useOven_53 ?_
  refine lv_topi (fun x10 ex10 => ?_)
  have hf := nm_use hf ex10
  refine bk_putI X hB kl_X6 0 lc_St_0 1 (by decide) rfl rfl rfl wm_223 dX6_useOven_54 rfl (fun H locs hB => ?_)
  obtain ⟨v11, ev11⟩ : ∃ y : bM, y = upd v9 1 x10 := ⟨_, rfl⟩
  have hf := nm_use hf ev11
  rw [← ev11] at hB
  refine lv_aload_n hx hb dX6_useOven_57 rfl (lv_at hl 3 rfl) ?_
  refine bk_getR X hB kl_X6 0 lc_St_0 9 (by decide) rfl wm_240 dX6_useOven_58 ?_
  refine bk_getR X hB kl_X0 37 lc_St_37 4 (by decide) rfl wm_182 dX6_useOven_61 ?_
  refine lv_iload_n hx hb dX6_useOven_64 rfl (lv_at hl 4 rfl) ?_
  refine lv_iload hx hb dX6_useOven_65 (lv_at hl 1 rfl) ?_
  obtain ⟨h12, hf⟩ := ck_some hf
  refine bk_ast X hB 41 lc_St_41 h12 dX6_useOven_67 (fun H locs hB => ?_)
  obtain ⟨v13, ev13⟩ : ∃ y : bM, y = upd v11 (350 + p1.toNatClampNeg) r4 := ⟨_, rfl⟩
  have hf := nm_use hf ev13
  rw [← ev13] at hB
  refine lv_aload_n hx hb dX6_useOven_68 rfl (lv_at hl 3 rfl) ?_
  refine bk_getR X hB kl_X6 0 lc_St_0 9 (by decide) rfl wm_240 dX6_useOven_69 ?_
  refine bk_getR X hB kl_X0 37 lc_St_37 5 (by decide) rfl wm_185 dX6_useOven_72 ?_
  refine lv_iload_n hx hb dX6_useOven_75 rfl (lv_at hl 4 rfl) ?_
  refine lv_iload_n hx hb dX6_useOven_76 rfl (lv_at hl 5 rfl) ?_
  obtain ⟨h14, hf⟩ := ck_some hf
  refine bk_ast X hB 42 lc_St_42 h14 dX6_useOven_77 (fun H locs hB => ?_)
  obtain ⟨v15, ev15⟩ : ∃ y : bM, y = upd v13 (374 + p1.toNatClampNeg) p2 := ⟨_, rfl⟩
  have hf := nm_use hf ev15
  rw [← ev15] at hB
  refine lv_aload_n hx hb dX6_useOven_78 rfl (lv_at hl 3 rfl) ?_
  refine bk_getR X hB kl_X6 0 lc_St_0 9 (by decide) rfl wm_240 dX6_useOven_79 ?_
  refine bk_getR X hB kl_X0 37 lc_St_37 7 (by decide) rfl wm_191 dX6_useOven_82 ?_
  refine lv_iload_n hx hb dX6_useOven_85 rfl (lv_at hl 4 rfl) ?_
  refine lv_iload hx hb dX6_useOven_86 (lv_at hl 0 rfl) ?_
  obtain ⟨h16, hf⟩ := ck_some hf
  refine bk_ast X hB 44 lc_St_44 h16 dX6_useOven_88 (fun H locs hB => ?_)
  obtain ⟨v17, ev17⟩ : ∃ y : bM, y = upd v15 (422 + p1.toNatClampNeg) r6 := ⟨_, rfl⟩
  have hf := nm_use hf ev17
  rw [← ev17] at hB
  exact bk_vW X hr rfl hf hB (Nat.le_of_ble_eq_true rfl) (Nat.le_of_ble_eq_true rfl) dX6_useOven_89
theorem yv_X6_useOven : bYv yX6_useOven RX6 cX6_useOven 6 none 2 := ⟨⟨rfl, by decide, by decide, rfl⟩, wm_617, wp_14, wm_2, wm_618⟩

theorem dX6_useFlour_0 : decode cX6_useFlour 0 = .ok (.aload_n 0, 1) := by decide +kernel
theorem dX6_useFlour_1 : decode cX6_useFlour 1 = .ok (.getfield 21, 3) := by decide +kernel
theorem dX6_useFlour_4 : decode cX6_useFlour 4 = .ok (.getfield 87, 3) := by decide +kernel
theorem dX6_useFlour_7 : decode cX6_useFlour 7 = .ok (.aload_n 0, 1) := by decide +kernel
theorem dX6_useFlour_8 : decode cX6_useFlour 8 = .ok (.getfield 35, 3) := by decide +kernel
theorem dX6_useFlour_11 : decode cX6_useFlour 11 = .ok (.getfield 123, 3) := by decide +kernel
theorem dX6_useFlour_14 : decode cX6_useFlour 14 = .ok (.iload_n 1, 1) := by decide +kernel
theorem dX6_useFlour_15 : decode cX6_useFlour 15 = .ok (.iaload, 1) := by decide +kernel
theorem dX6_useFlour_16 : decode cX6_useFlour 16 = .ok (.aaload, 1) := by decide +kernel
theorem dX6_useFlour_17 : decode cX6_useFlour 17 = .ok (.iload_n 2, 1) := by decide +kernel
theorem dX6_useFlour_18 : decode cX6_useFlour 18 = .ok (.iaload, 1) := by decide +kernel
theorem dX6_useFlour_19 : decode cX6_useFlour 19 = .ok (.iload_n 3, 1) := by decide +kernel
theorem dX6_useFlour_20 : decode cX6_useFlour 20 = .ok (.imul, 1) := by decide +kernel
theorem dX6_useFlour_21 : decode cX6_useFlour 21 = .ok (.istore 5, 2) := by decide +kernel
theorem dX6_useFlour_23 : decode cX6_useFlour 23 = .ok (.aload_n 0, 1) := by decide +kernel
theorem dX6_useFlour_24 : decode cX6_useFlour 24 = .ok (.getfield 12, 3) := by decide +kernel
theorem dX6_useFlour_27 : decode cX6_useFlour 27 = .ok (.iload_n 2, 1) := by decide +kernel
theorem dX6_useFlour_28 : decode cX6_useFlour 28 = .ok (.iload 4, 2) := by decide +kernel
theorem dX6_useFlour_30 : decode cX6_useFlour 30 = .ok (.invokevirtual 157, 3) := by decide +kernel
theorem dX6_useFlour_33 : decode cX6_useFlour 33 = .ok (.iload 4, 2) := by decide +kernel
theorem dX6_useFlour_35 : decode cX6_useFlour 35 = .ok (.aload_n 0, 1) := by decide +kernel
theorem dX6_useFlour_36 : decode cX6_useFlour 36 = .ok (.getfield 12, 3) := by decide +kernel
theorem dX6_useFlour_39 : decode cX6_useFlour 39 = .ok (.getfield 91, 3) := by decide +kernel
theorem dX6_useFlour_42 : decode cX6_useFlour 42 = .ok (.iload_n 2, 1) := by decide +kernel
theorem dX6_useFlour_43 : decode cX6_useFlour 43 = .ok (.iaload, 1) := by decide +kernel
theorem dX6_useFlour_44 : decode cX6_useFlour 44 = .ok (.imul, 1) := by decide +kernel
theorem dX6_useFlour_45 : decode cX6_useFlour 45 = .ok (.isub, 1) := by decide +kernel
theorem dX6_useFlour_46 : decode cX6_useFlour 46 = .ok (.istore 6, 2) := by decide +kernel
theorem dX6_useFlour_48 : decode cX6_useFlour 48 = .ok (.iload 4, 2) := by decide +kernel
theorem dX6_useFlour_50 : decode cX6_useFlour 50 = .ok (.iload 5, 2) := by decide +kernel
theorem dX6_useFlour_52 : decode cX6_useFlour 52 = .ok (.isub, 1) := by decide +kernel
theorem dX6_useFlour_53 : decode cX6_useFlour 53 = .ok (.aload_n 0, 1) := by decide +kernel
theorem dX6_useFlour_54 : decode cX6_useFlour 54 = .ok (.getfield 12, 3) := by decide +kernel
theorem dX6_useFlour_57 : decode cX6_useFlour 57 = .ok (.getfield 91, 3) := by decide +kernel
theorem dX6_useFlour_60 : decode cX6_useFlour 60 = .ok (.iload_n 2, 1) := by decide +kernel
theorem dX6_useFlour_61 : decode cX6_useFlour 61 = .ok (.iaload, 1) := by decide +kernel
theorem dX6_useFlour_62 : decode cX6_useFlour 62 = .ok (.imul, 1) := by decide +kernel
theorem dX6_useFlour_63 : decode cX6_useFlour 63 = .ok (.istore 7, 2) := by decide +kernel
theorem dX6_useFlour_65 : decode cX6_useFlour 65 = .ok (.aload_n 0, 1) := by decide +kernel
theorem dX6_useFlour_66 : decode cX6_useFlour 66 = .ok (.getfield 35, 3) := by decide +kernel
theorem dX6_useFlour_69 : decode cX6_useFlour 69 = .ok (.getfield 150, 3) := by decide +kernel
theorem dX6_useFlour_72 : decode cX6_useFlour 72 = .ok (.iload_n 1, 1) := by decide +kernel
theorem dX6_useFlour_73 : decode cX6_useFlour 73 = .ok (.aaload, 1) := by decide +kernel
theorem dX6_useFlour_74 : decode cX6_useFlour 74 = .ok (.iconst 0, 1) := by decide +kernel
theorem dX6_useFlour_75 : decode cX6_useFlour 75 = .ok (.dup2, 1) := by decide +kernel
theorem dX6_useFlour_76 : decode cX6_useFlour 76 = .ok (.iaload, 1) := by decide +kernel
theorem dX6_useFlour_77 : decode cX6_useFlour 77 = .ok (.iload 6, 2) := by decide +kernel
theorem dX6_useFlour_79 : decode cX6_useFlour 79 = .ok (.iadd, 1) := by decide +kernel
theorem dX6_useFlour_80 : decode cX6_useFlour 80 = .ok (.iastore, 1) := by decide +kernel
theorem dX6_useFlour_81 : decode cX6_useFlour 81 = .ok (.aload_n 0, 1) := by decide +kernel
theorem dX6_useFlour_82 : decode cX6_useFlour 82 = .ok (.getfield 35, 3) := by decide +kernel
theorem dX6_useFlour_85 : decode cX6_useFlour 85 = .ok (.getfield 150, 3) := by decide +kernel
theorem dX6_useFlour_88 : decode cX6_useFlour 88 = .ok (.iload_n 1, 1) := by decide +kernel
theorem dX6_useFlour_89 : decode cX6_useFlour 89 = .ok (.aaload, 1) := by decide +kernel
theorem dX6_useFlour_90 : decode cX6_useFlour 90 = .ok (.iconst 1, 1) := by decide +kernel
theorem dX6_useFlour_91 : decode cX6_useFlour 91 = .ok (.dup2, 1) := by decide +kernel
theorem dX6_useFlour_92 : decode cX6_useFlour 92 = .ok (.iaload, 1) := by decide +kernel
theorem dX6_useFlour_93 : decode cX6_useFlour 93 = .ok (.iload 7, 2) := by decide +kernel
theorem dX6_useFlour_95 : decode cX6_useFlour 95 = .ok (.iadd, 1) := by decide +kernel
theorem dX6_useFlour_96 : decode cX6_useFlour 96 = .ok (.iastore, 1) := by decide +kernel
theorem dX6_useFlour_97 : decode cX6_useFlour 97 = .ok (.aload_n 0, 1) := by decide +kernel
theorem dX6_useFlour_98 : decode cX6_useFlour 98 = .ok (.getfield 12, 3) := by decide +kernel
theorem dX6_useFlour_101 : decode cX6_useFlour 101 = .ok (.getfield 178, 3) := by decide +kernel
theorem dX6_useFlour_104 : decode cX6_useFlour 104 = .ok (.iload_n 2, 1) := by decide +kernel
theorem dX6_useFlour_105 : decode cX6_useFlour 105 = .ok (.dup2, 1) := by decide +kernel
theorem dX6_useFlour_106 : decode cX6_useFlour 106 = .ok (.iaload, 1) := by decide +kernel
theorem dX6_useFlour_107 : decode cX6_useFlour 107 = .ok (.iload 6, 2) := by decide +kernel
theorem dX6_useFlour_109 : decode cX6_useFlour 109 = .ok (.iadd, 1) := by decide +kernel
theorem dX6_useFlour_110 : decode cX6_useFlour 110 = .ok (.iastore, 1) := by decide +kernel
theorem dX6_useFlour_111 : decode cX6_useFlour 111 = .ok (.aload_n 0, 1) := by decide +kernel
theorem dX6_useFlour_112 : decode cX6_useFlour 112 = .ok (.getfield 12, 3) := by decide +kernel
theorem dX6_useFlour_115 : decode cX6_useFlour 115 = .ok (.getfield 181, 3) := by decide +kernel
theorem dX6_useFlour_118 : decode cX6_useFlour 118 = .ok (.iload_n 2, 1) := by decide +kernel
theorem dX6_useFlour_119 : decode cX6_useFlour 119 = .ok (.dup2, 1) := by decide +kernel
theorem dX6_useFlour_120 : decode cX6_useFlour 120 = .ok (.iaload, 1) := by decide +kernel
theorem dX6_useFlour_121 : decode cX6_useFlour 121 = .ok (.iload 7, 2) := by decide +kernel
theorem dX6_useFlour_123 : decode cX6_useFlour 123 = .ok (.iadd, 1) := by decide +kernel
theorem dX6_useFlour_124 : decode cX6_useFlour 124 = .ok (.iastore, 1) := by decide +kernel
theorem dX6_useFlour_125 : decode cX6_useFlour 125 = .ok (.aload_n 0, 1) := by decide +kernel
theorem dX6_useFlour_126 : decode cX6_useFlour 126 = .ok (.getfield 12, 3) := by decide +kernel
theorem dX6_useFlour_129 : decode cX6_useFlour 129 = .ok (.iload_n 2, 1) := by decide +kernel
theorem dX6_useFlour_130 : decode cX6_useFlour 130 = .ok (.iload 4, 2) := by decide +kernel
theorem dX6_useFlour_132 : decode cX6_useFlour 132 = .ok (.invokevirtual 184, 3) := by decide +kernel
theorem dX6_useFlour_135 : decode cX6_useFlour 135 = .ok (.return_, 1) := by decide +kernel
def fX6_useFlour (p1 : Int32) (p2 : Int32) (p3 : Int32) (p4 : Int32) (v : bM) : Option bM :=
  ck p1 24 <| ck (v (278 + p1.toNatClampNeg)) 6 <| ck p2 6 <| nm ((v (212 + 6 * (v (278 + p1.toNatClampNeg)).toNatClampNeg + p2.toNatClampNeg)) * p3) fun x4 => bnr (fX2_paidForNext p2 p4 (vw v 6)) fun r6 => ck p2 6 <| nm (r6 - (p4 * (v (7 + p2.toNatClampNeg)))) fun x8 => ck p2 6 <| nm ((p4 - x4) * (v (7 + p2.toNatClampNeg))) fun x10 => ck p1 24 <| nm ((v (470 + 5 * p1.toNatClampNeg + (0 : Int32).toNatClampNeg)) + x8) fun x12 => nm (upd v (470 + 5 * p1.toNatClampNeg + (0 : Int32).toNatClampNeg) x12) fun v13 => ck p1 24 <| nm ((v13 (470 + 5 * p1.toNatClampNeg + (1 : Int32).toNatClampNeg)) + x10) fun x15 => nm (upd v13 (470 + 5 * p1.toNatClampNeg + (1 : Int32).toNatClampNeg) x15) fun v16 => ck p2 6 <| nm ((v16 (163 + p2.toNatClampNeg)) + x8) fun x18 => ck p2 6 <| nm (upd v16 (163 + p2.toNatClampNeg) x18) fun v20 => ck p2 6 <| nm ((v20 (169 + p2.toNatClampNeg)) + x10) fun x22 => ck p2 6 <| nm (upd v20 (169 + p2.toNatClampNeg) x22) fun v24 => bnw (fX2_take p2 p4 (vw v24 6)) fun w26 => nm (spl v24 6 169 w26) fun v27 => some v27
set_option maxRecDepth 100000 in
set_option maxHeartbeats 4000000 in
theorem mX6_useFlour {l : Launch} {p1 : Int32} {p2 : Int32} {p3 : Int32} {p4 : Int32} {v : bM} {w0 : bM} (hf : fX6_useFlour p1 p2 p3 p4 v = some w0) : bMet l yX6_useFlour cX6_useFlour 8 none 2 0 0 LSt (fun E a => [.ref a, .int p1, .int p2, .int p3, .int p4]) v w0 (fun _ => none) := by
  refine bk_start (by decide +kernel) wfSt (fun _ _ => Nat.le_of_ble_eq_true rfl) ?_
  intro p e s m args below meth c D E a ls H locs X hr hl hB
  have hx := X.1
  have hb := X.2.1
  have hown := X.2.2.2.1
  have hts := X.2.2.2.2.1
  have hl : lv_has ls 8 [(0, .ref a), (1, .int p1), (2, .int p2), (3, .int p3), (4, .int p4)] := hl
  have hf := (fX6_useFlour.eq_1 p1 p2 p3 p4 v).symm.trans hf
  refine lv_aload_n hx hb dX6_useFlour_0 rfl (lv_at hl 0 rfl) ?_
  refine bk_getR X hB kl_X6 0 lc_St_0 7 (by decide) rfl wm_234 dX6_useFlour_1 ?_
  refine bk_getR X hB kl_X1 20 lc_St_20 7 (by decide) rfl wm_117 dX6_useFlour_4 ?_
  refine lv_aload_n hx hb dX6_useFlour_7 rfl (lv_at hl 0 rfl) ?_
  refine bk_getR X hB kl_X6 0 lc_St_0 9 (by decide) rfl wm_240 dX6_useFlour_8 ?_
  refine bk_getR X hB kl_X0 37 lc_St_37 1 (by decide) rfl wm_173 dX6_useFlour_11 ?_
  refine lv_iload_n hx hb dX6_useFlour_14 rfl (lv_at hl 1 rfl) ?_
  obtain ⟨h1, hf⟩ := ck_some hf
  refine bk_ald X hB 38 lc_St_38 h1 dX6_useFlour_15 ?_
  obtain ⟨h2, hf⟩ := ck_some hf
  refine bk_rld X hB 27 lc_St_27 h2 dX6_useFlour_16 ?_
  refine lv_iload_n hx hb dX6_useFlour_17 rfl (lv_at hl 2 rfl) ?_
  obtain ⟨h3, hf⟩ := ck_some hf
  refine bk_ald X hB (28 + 1 * (v (278 + p1.toNatClampNeg)).toNatClampNeg) (lr_St_27 _ (vp_lt h2)) h3 dX6_useFlour_18 ?_
  refine lv_iload_n hx hb dX6_useFlour_19 rfl (lv_at hl 3 rfl) ?_
  refine lv_imul hx hb dX6_useFlour_20 ?_
  refine lv_topi (fun x4 ex4 => ?_)
  have hf := nm_use hf ex4
  refine lv_istore (lv' := [(5, .int x4), (0, .ref a), (1, .int p1), (2, .int p2), (3, .int p3), (4, .int p4)]) hx hb dX6_useFlour_21 hl (by decide) rfl (fun ls hl => ?_)
  refine lv_aload_n hx hb dX6_useFlour_23 rfl (lv_at hl 1 rfl) ?_
  refine bk_getR X hB kl_X6 0 lc_St_0 6 (by decide) rfl wm_231 dX6_useFlour_24 ?_
  refine lv_iload_n hx hb dX6_useFlour_27 rfl (lv_at hl 3 rfl) ?_
  refine lv_iload hx hb dX6_useFlour_28 (lv_at hl 5 rfl) ?_
  obtain ⟨r6, hc5, hf⟩ := bnr_some hf
  refine bk_subR sub_St_1 hB (fun h1 h2 h3 => bk_runV X (Av := [.int p2, .int p4]) (rest := []) (mX2_paidForNext hc5) yv_X2_paidForNext wm_610 ⟨Nat.le_of_ble_eq_true rfl, Nat.le_of_ble_eq_true rfl⟩ rfl rfl hl.1 kl_X2.1 (hB.1.obj lc_St_1) h1 h2 h3 (Nat.le_of_ble_eq_true rfl) ⟨Nat.le_of_ble_eq_true rfl, Nat.le_of_ble_eq_true rfl⟩ dX6_useFlour_30) (fun H locs hB => ?_)
  refine W.eq (g2 := F0 m 33 ls [.int r6]) rfl ?_
  refine lv_iload hx hb dX6_useFlour_33 (lv_at hl 5 rfl) ?_
  refine lv_aload_n hx hb dX6_useFlour_35 rfl (lv_at hl 1 rfl) ?_
  refine bk_getR X hB kl_X6 0 lc_St_0 6 (by decide) rfl wm_231 dX6_useFlour_36 ?_
  refine bk_getR X hB kl_X2 1 lc_St_1 1 (by decide) rfl wm_59 dX6_useFlour_39 ?_
  refine lv_iload_n hx hb dX6_useFlour_42 rfl (lv_at hl 3 rfl) ?_
  obtain ⟨h7, hf⟩ := ck_some hf
  refine bk_ald X hB 2 lc_St_2 h7 dX6_useFlour_43 ?_
  refine lv_imul hx hb dX6_useFlour_44 ?_
  refine lv_isub hx hb dX6_useFlour_45 ?_
  refine lv_topi (fun x8 ex8 => ?_)
  have hf := nm_use hf ex8
  refine lv_istore (lv' := [(6, .int x8), (5, .int x4), (0, .ref a), (1, .int p1), (2, .int p2), (3, .int p3), (4, .int p4)]) hx hb dX6_useFlour_46 hl (by decide) rfl (fun ls hl => ?_)
  refine lv_iload hx hb dX6_useFlour_48 (lv_at hl 6 rfl) ?_
  refine lv_iload hx hb dX6_useFlour_50 (lv_at hl 1 rfl) ?_
  refine lv_isub hx hb dX6_useFlour_52 ?_
  refine lv_aload_n hx hb dX6_useFlour_53 rfl (lv_at hl 2 rfl) ?_
  refine bk_getR X hB kl_X6 0 lc_St_0 6 (by decide) rfl wm_231 dX6_useFlour_54 ?_
  refine bk_getR X hB kl_X2 1 lc_St_1 1 (by decide) rfl wm_59 dX6_useFlour_57 ?_
  refine lv_iload_n hx hb dX6_useFlour_60 rfl (lv_at hl 4 rfl) ?_
  obtain ⟨h9, hf⟩ := ck_some hf
  refine bk_ald X hB 2 lc_St_2 h9 dX6_useFlour_61 ?_
  refine lv_imul hx hb dX6_useFlour_62 ?_
  refine lv_topi (fun x10 ex10 => ?_)
  have hf := nm_use hf ex10
  refine lv_istore (lv' := [(7, .int x10), (6, .int x8), (5, .int x4), (0, .ref a), (1, .int p1), (2, .int p2), (3, .int p3), (4, .int p4)]) hx hb dX6_useFlour_63 hl (by decide) rfl (fun ls hl => ?_)
  refine lv_aload_n hx hb dX6_useFlour_65 rfl (lv_at hl 3 rfl) ?_
  refine bk_getR X hB kl_X6 0 lc_St_0 9 (by decide) rfl wm_240 dX6_useFlour_66 ?_
  refine bk_getR X hB kl_X0 37 lc_St_37 9 (by decide) rfl wm_197 dX6_useFlour_69 ?_
  refine lv_iload_n hx hb dX6_useFlour_72 rfl (lv_at hl 4 rfl) ?_
  obtain ⟨h11, hf⟩ := ck_some hf
  refine bk_rld X hB 46 lc_St_46 h11 dX6_useFlour_73 ?_
  refine lv_iconst (v := 0) hx hb dX6_useFlour_74 (by decide) ?_
  refine lv_dup2_11 hx hb dX6_useFlour_75 rfl rfl ?_
  refine bk_ald X hB (47 + 1 * p1.toNatClampNeg) (lr_St_46 _ (vp_lt h11)) (vp_c 0 5 rfl) dX6_useFlour_76 ?_
  refine lv_iload hx hb dX6_useFlour_77 (lv_at hl 1 rfl) ?_
  refine lv_iadd hx hb dX6_useFlour_79 ?_
  refine lv_topi (fun x12 ex12 => ?_)
  have hf := nm_use hf ex12
  refine bk_ast X hB (47 + 1 * p1.toNatClampNeg) (lr_St_46 _ (vp_lt h11)) (vp_c 0 5 rfl) dX6_useFlour_80 (fun H locs hB => ?_)
  obtain ⟨v13, ev13⟩ : ∃ y : bM, y = upd v (470 + 5 * p1.toNatClampNeg + (0 : Int32).toNatClampNeg) x12 := ⟨_, rfl⟩
  have hf := nm_use hf ev13
  rw [← ev13] at hB
  refine lv_aload_n hx hb dX6_useFlour_81 rfl (lv_at hl 3 rfl) ?_
  refine bk_getR X hB kl_X6 0 lc_St_0 9 (by decide) rfl wm_240 dX6_useFlour_82 ?_
  refine bk_getR X hB kl_X0 37 lc_St_37 9 (by decide) rfl wm_197 dX6_useFlour_85 ?_
  refine lv_iload_n hx hb dX6_useFlour_88 rfl (lv_at hl 4 rfl) ?_
  obtain ⟨h14, hf⟩ := ck_some hf
  refine bk_rld X hB 46 lc_St_46 h14 dX6_useFlour_89 ?_
  refine lv_iconst (v := 1) hx hb dX6_useFlour_90 (by decide) ?_
  refine lv_dup2_11 hx hb dX6_useFlour_91 rfl rfl ?_
  refine bk_ald X hB (47 + 1 * p1.toNatClampNeg) (lr_St_46 _ (vp_lt h14)) (vp_c 1 5 rfl) dX6_useFlour_92 ?_
  refine lv_iload hx hb dX6_useFlour_93 (lv_at hl 0 rfl) ?_
  refine lv_iadd hx hb dX6_useFlour_95 ?_
  refine lv_topi (fun x15 ex15 => ?_)
  have hf := nm_use hf ex15
  refine bk_ast X hB (47 + 1 * p1.toNatClampNeg) (lr_St_46 _ (vp_lt h14)) (vp_c 1 5 rfl) dX6_useFlour_96 (fun H locs hB => ?_)
  obtain ⟨v16, ev16⟩ : ∃ y : bM, y = upd v13 (470 + 5 * p1.toNatClampNeg + (1 : Int32).toNatClampNeg) x15 := ⟨_, rfl⟩
  have hf := nm_use hf ev16
  rw [← ev16] at hB
  refine lv_aload_n hx hb dX6_useFlour_97 rfl (lv_at hl 3 rfl) ?_
  refine bk_getR X hB kl_X6 0 lc_St_0 6 (by decide) rfl wm_231 dX6_useFlour_98 ?_
  refine bk_getR X hB kl_X2 1 lc_St_1 5 (by decide) rfl wm_69 dX6_useFlour_101 ?_
  refine lv_iload_n hx hb dX6_useFlour_104 rfl (lv_at hl 5 rfl) ?_
  refine lv_dup2_11 hx hb dX6_useFlour_105 rfl rfl ?_
  obtain ⟨h17, hf⟩ := ck_some hf
  refine bk_ald X hB 18 lc_St_18 h17 dX6_useFlour_106 ?_
  refine lv_iload hx hb dX6_useFlour_107 (lv_at hl 1 rfl) ?_
  refine lv_iadd hx hb dX6_useFlour_109 ?_
  refine lv_topi (fun x18 ex18 => ?_)
  have hf := nm_use hf ex18
  obtain ⟨h19, hf⟩ := ck_some hf
  refine bk_ast X hB 18 lc_St_18 h19 dX6_useFlour_110 (fun H locs hB => ?_)
  obtain ⟨v20, ev20⟩ : ∃ y : bM, y = upd v16 (163 + p2.toNatClampNeg) x18 := ⟨_, rfl⟩
  have hf := nm_use hf ev20
  rw [← ev20] at hB
  refine lv_aload_n hx hb dX6_useFlour_111 rfl (lv_at hl 3 rfl) ?_
  refine bk_getR X hB kl_X6 0 lc_St_0 6 (by decide) rfl wm_231 dX6_useFlour_112 ?_
  refine bk_getR X hB kl_X2 1 lc_St_1 6 (by decide) rfl wm_72 dX6_useFlour_115 ?_
  refine lv_iload_n hx hb dX6_useFlour_118 rfl (lv_at hl 5 rfl) ?_
  refine lv_dup2_11 hx hb dX6_useFlour_119 rfl rfl ?_
  obtain ⟨h21, hf⟩ := ck_some hf
  refine bk_ald X hB 19 lc_St_19 h21 dX6_useFlour_120 ?_
  refine lv_iload hx hb dX6_useFlour_121 (lv_at hl 0 rfl) ?_
  refine lv_iadd hx hb dX6_useFlour_123 ?_
  refine lv_topi (fun x22 ex22 => ?_)
  have hf := nm_use hf ex22
  obtain ⟨h23, hf⟩ := ck_some hf
  refine bk_ast X hB 19 lc_St_19 h23 dX6_useFlour_124 (fun H locs hB => ?_)
  obtain ⟨v24, ev24⟩ : ∃ y : bM, y = upd v20 (169 + p2.toNatClampNeg) x22 := ⟨_, rfl⟩
  have hf := nm_use hf ev24
  rw [← ev24] at hB
  refine lv_aload_n hx hb dX6_useFlour_125 rfl (lv_at hl 3 rfl) ?_
  refine bk_getR X hB kl_X6 0 lc_St_0 6 (by decide) rfl wm_231 dX6_useFlour_126 ?_
  refine lv_iload_n hx hb dX6_useFlour_129 rfl (lv_at hl 5 rfl) ?_
  refine lv_iload hx hb dX6_useFlour_130 (lv_at hl 7 rfl) ?_
  obtain ⟨w26, hc25, hf⟩ := bnw_some hf
  refine bk_sub sub_St_1 hB (fun h1 h2 h3 => bk_runV X (Av := [.int p2, .int p4]) (rest := []) (mX2_take hc25) yv_X2_take wm_642 ⟨Nat.le_of_ble_eq_true rfl, Nat.le_of_ble_eq_true rfl⟩ rfl rfl hl.1 kl_X2.1 (hB.1.obj lc_St_1) h1 h2 h3 (Nat.le_of_ble_eq_true rfl) ⟨Nat.le_of_ble_eq_true rfl, Nat.le_of_ble_eq_true rfl⟩ dX6_useFlour_132) (fun H locs hB => ?_)
  refine W.eq (g2 := F0 m 135 ls []) rfl ?_
  obtain ⟨v27, ev27⟩ : ∃ y : bM, y = spl v24 6 169 w26 := ⟨_, rfl⟩
  have hf := nm_use hf ev27
  rw [← ev27] at hB
  exact bk_vW X hr rfl hf hB (Nat.le_of_ble_eq_true rfl) (Nat.le_of_ble_eq_true rfl) dX6_useFlour_135
theorem yv_X6_useFlour : bYv yX6_useFlour RX6 cX6_useFlour 8 none 4 := ⟨⟨rfl, by decide, by decide, rfl⟩, wm_640, wp_15, wm_2, wm_641⟩

theorem dX6_bakeBatch_0 : decode cX6_bakeBatch 0 = .ok (.aload_n 0, 1) := by decide +kernel
theorem dX6_bakeBatch_1 : decode cX6_bakeBatch 1 = .ok (.iload_n 1, 1) := by decide +kernel
theorem dX6_bakeBatch_2 : decode cX6_bakeBatch 2 = .ok (.iload_n 2, 1) := by decide +kernel
theorem dX6_bakeBatch_3 : decode cX6_bakeBatch 3 = .ok (.iload 4, 2) := by decide +kernel
theorem dX6_bakeBatch_5 : decode cX6_bakeBatch 5 = .ok (.iload 5, 2) := by decide +kernel
theorem dX6_bakeBatch_7 : decode cX6_bakeBatch 7 = .ok (.invokevirtual 120, 3) := by decide +kernel
theorem dX6_bakeBatch_10 : decode cX6_bakeBatch 10 = .ok (.ifCond .eq 5, 3) := by decide +kernel
theorem dX6_bakeBatch_13 : decode cX6_bakeBatch 13 = .ok (.iconst (-1), 1) := by decide +kernel
theorem dX6_bakeBatch_14 : decode cX6_bakeBatch 14 = .ok (.ireturn, 1) := by decide +kernel
theorem dX6_bakeBatch_15 : decode cX6_bakeBatch 15 = .ok (.aload_n 0, 1) := by decide +kernel
theorem dX6_bakeBatch_16 : decode cX6_bakeBatch 16 = .ok (.getfield 35, 3) := by decide +kernel
theorem dX6_bakeBatch_19 : decode cX6_bakeBatch 19 = .ok (.getfield 75, 3) := by decide +kernel
theorem dX6_bakeBatch_22 : decode cX6_bakeBatch 22 = .ok (.istore 6, 2) := by decide +kernel
theorem dX6_bakeBatch_24 : decode cX6_bakeBatch 24 = .ok (.aload_n 0, 1) := by decide +kernel
theorem dX6_bakeBatch_25 : decode cX6_bakeBatch 25 = .ok (.getfield 35, 3) := by decide +kernel
theorem dX6_bakeBatch_28 : decode cX6_bakeBatch 28 = .ok (.dup, 1) := by decide +kernel
theorem dX6_bakeBatch_29 : decode cX6_bakeBatch 29 = .ok (.getfield 75, 3) := by decide +kernel
theorem dX6_bakeBatch_32 : decode cX6_bakeBatch 32 = .ok (.iconst 1, 1) := by decide +kernel
theorem dX6_bakeBatch_33 : decode cX6_bakeBatch 33 = .ok (.iadd, 1) := by decide +kernel
theorem dX6_bakeBatch_34 : decode cX6_bakeBatch 34 = .ok (.putfield 75, 3) := by decide +kernel
theorem dX6_bakeBatch_37 : decode cX6_bakeBatch 37 = .ok (.aload_n 0, 1) := by decide +kernel
theorem dX6_bakeBatch_38 : decode cX6_bakeBatch 38 = .ok (.getfield 35, 3) := by decide +kernel
theorem dX6_bakeBatch_41 : decode cX6_bakeBatch 41 = .ok (.getfield 123, 3) := by decide +kernel
theorem dX6_bakeBatch_44 : decode cX6_bakeBatch 44 = .ok (.iload 6, 2) := by decide +kernel
theorem dX6_bakeBatch_46 : decode cX6_bakeBatch 46 = .ok (.iload_n 1, 1) := by decide +kernel
theorem dX6_bakeBatch_47 : decode cX6_bakeBatch 47 = .ok (.iastore, 1) := by decide +kernel
theorem dX6_bakeBatch_48 : decode cX6_bakeBatch 48 = .ok (.aload_n 0, 1) := by decide +kernel
theorem dX6_bakeBatch_49 : decode cX6_bakeBatch 49 = .ok (.getfield 35, 3) := by decide +kernel
theorem dX6_bakeBatch_52 : decode cX6_bakeBatch 52 = .ok (.getfield 126, 3) := by decide +kernel
theorem dX6_bakeBatch_55 : decode cX6_bakeBatch 55 = .ok (.iload 6, 2) := by decide +kernel
theorem dX6_bakeBatch_57 : decode cX6_bakeBatch 57 = .ok (.iload_n 2, 1) := by decide +kernel
theorem dX6_bakeBatch_58 : decode cX6_bakeBatch 58 = .ok (.iastore, 1) := by decide +kernel
theorem dX6_bakeBatch_59 : decode cX6_bakeBatch 59 = .ok (.aload_n 0, 1) := by decide +kernel
theorem dX6_bakeBatch_60 : decode cX6_bakeBatch 60 = .ok (.getfield 35, 3) := by decide +kernel
theorem dX6_bakeBatch_63 : decode cX6_bakeBatch 63 = .ok (.getfield 129, 3) := by decide +kernel
theorem dX6_bakeBatch_66 : decode cX6_bakeBatch 66 = .ok (.iload 6, 2) := by decide +kernel
theorem dX6_bakeBatch_68 : decode cX6_bakeBatch 68 = .ok (.iload_n 3, 1) := by decide +kernel
theorem dX6_bakeBatch_69 : decode cX6_bakeBatch 69 = .ok (.iastore, 1) := by decide +kernel
theorem dX6_bakeBatch_70 : decode cX6_bakeBatch 70 = .ok (.aload_n 0, 1) := by decide +kernel
theorem dX6_bakeBatch_71 : decode cX6_bakeBatch 71 = .ok (.getfield 35, 3) := by decide +kernel
theorem dX6_bakeBatch_74 : decode cX6_bakeBatch 74 = .ok (.getfield 132, 3) := by decide +kernel
theorem dX6_bakeBatch_77 : decode cX6_bakeBatch 77 = .ok (.iload 6, 2) := by decide +kernel
theorem dX6_bakeBatch_79 : decode cX6_bakeBatch 79 = .ok (.aload_n 0, 1) := by decide +kernel
theorem dX6_bakeBatch_80 : decode cX6_bakeBatch 80 = .ok (.iload_n 1, 1) := by decide +kernel
theorem dX6_bakeBatch_81 : decode cX6_bakeBatch 81 = .ok (.iload_n 2, 1) := by decide +kernel
theorem dX6_bakeBatch_82 : decode cX6_bakeBatch 82 = .ok (.iload 4, 2) := by decide +kernel
theorem dX6_bakeBatch_84 : decode cX6_bakeBatch 84 = .ok (.invokevirtual 135, 3) := by decide +kernel
theorem dX6_bakeBatch_87 : decode cX6_bakeBatch 87 = .ok (.iastore, 1) := by decide +kernel
theorem dX6_bakeBatch_88 : decode cX6_bakeBatch 88 = .ok (.aload_n 0, 1) := by decide +kernel
theorem dX6_bakeBatch_89 : decode cX6_bakeBatch 89 = .ok (.getfield 21, 3) := by decide +kernel
theorem dX6_bakeBatch_92 : decode cX6_bakeBatch 92 = .ok (.getfield 109, 3) := by decide +kernel
theorem dX6_bakeBatch_95 : decode cX6_bakeBatch 95 = .ok (.iload_n 1, 1) := by decide +kernel
theorem dX6_bakeBatch_96 : decode cX6_bakeBatch 96 = .ok (.iaload, 1) := by decide +kernel
theorem dX6_bakeBatch_97 : decode cX6_bakeBatch 97 = .ok (.iload_n 2, 1) := by decide +kernel
theorem dX6_bakeBatch_98 : decode cX6_bakeBatch 98 = .ok (.imul, 1) := by decide +kernel
theorem dX6_bakeBatch_99 : decode cX6_bakeBatch 99 = .ok (.iload 5, 2) := by decide +kernel
theorem dX6_bakeBatch_101 : decode cX6_bakeBatch 101 = .ok (.iadd, 1) := by decide +kernel
theorem dX6_bakeBatch_102 : decode cX6_bakeBatch 102 = .ok (.istore 7, 2) := by decide +kernel
theorem dX6_bakeBatch_104 : decode cX6_bakeBatch 104 = .ok (.aload_n 0, 1) := by decide +kernel
theorem dX6_bakeBatch_105 : decode cX6_bakeBatch 105 = .ok (.iload 6, 2) := by decide +kernel
theorem dX6_bakeBatch_107 : decode cX6_bakeBatch 107 = .ok (.iload 7, 2) := by decide +kernel
theorem dX6_bakeBatch_109 : decode cX6_bakeBatch 109 = .ok (.invokevirtual 138, 3) := by decide +kernel
theorem dX6_bakeBatch_112 : decode cX6_bakeBatch 112 = .ok (.iload_n 2, 1) := by decide +kernel
theorem dX6_bakeBatch_113 : decode cX6_bakeBatch 113 = .ok (.iload_n 3, 1) := by decide +kernel
theorem dX6_bakeBatch_114 : decode cX6_bakeBatch 114 = .ok (.isub, 1) := by decide +kernel
theorem dX6_bakeBatch_115 : decode cX6_bakeBatch 115 = .ok (.istore 8, 2) := by decide +kernel
theorem dX6_bakeBatch_117 : decode cX6_bakeBatch 117 = .ok (.aload_n 0, 1) := by decide +kernel
theorem dX6_bakeBatch_118 : decode cX6_bakeBatch 118 = .ok (.getfield 21, 3) := by decide +kernel
theorem dX6_bakeBatch_121 : decode cX6_bakeBatch 121 = .ok (.getfield 141, 3) := by decide +kernel
theorem dX6_bakeBatch_124 : decode cX6_bakeBatch 124 = .ok (.iload_n 1, 1) := by decide +kernel
theorem dX6_bakeBatch_125 : decode cX6_bakeBatch 125 = .ok (.dup2, 1) := by decide +kernel
theorem dX6_bakeBatch_126 : decode cX6_bakeBatch 126 = .ok (.iaload, 1) := by decide +kernel
theorem dX6_bakeBatch_127 : decode cX6_bakeBatch 127 = .ok (.iload 8, 2) := by decide +kernel
theorem dX6_bakeBatch_129 : decode cX6_bakeBatch 129 = .ok (.iadd, 1) := by decide +kernel
theorem dX6_bakeBatch_130 : decode cX6_bakeBatch 130 = .ok (.iastore, 1) := by decide +kernel
theorem dX6_bakeBatch_131 : decode cX6_bakeBatch 131 = .ok (.aload_n 0, 1) := by decide +kernel
theorem dX6_bakeBatch_132 : decode cX6_bakeBatch 132 = .ok (.getfield 35, 3) := by decide +kernel
theorem dX6_bakeBatch_135 : decode cX6_bakeBatch 135 = .ok (.getfield 144, 3) := by decide +kernel
theorem dX6_bakeBatch_138 : decode cX6_bakeBatch 138 = .ok (.iload 6, 2) := by decide +kernel
theorem dX6_bakeBatch_140 : decode cX6_bakeBatch 140 = .ok (.aload_n 0, 1) := by decide +kernel
theorem dX6_bakeBatch_141 : decode cX6_bakeBatch 141 = .ok (.getfield 35, 3) := by decide +kernel
theorem dX6_bakeBatch_144 : decode cX6_bakeBatch 144 = .ok (.getfield 132, 3) := by decide +kernel
theorem dX6_bakeBatch_147 : decode cX6_bakeBatch 147 = .ok (.iload 6, 2) := by decide +kernel
theorem dX6_bakeBatch_149 : decode cX6_bakeBatch 149 = .ok (.iaload, 1) := by decide +kernel
theorem dX6_bakeBatch_150 : decode cX6_bakeBatch 150 = .ok (.aload_n 0, 1) := by decide +kernel
theorem dX6_bakeBatch_151 : decode cX6_bakeBatch 151 = .ok (.getfield 35, 3) := by decide +kernel
theorem dX6_bakeBatch_154 : decode cX6_bakeBatch 154 = .ok (.getfield 147, 3) := by decide +kernel
theorem dX6_bakeBatch_157 : decode cX6_bakeBatch 157 = .ok (.iload 6, 2) := by decide +kernel
theorem dX6_bakeBatch_159 : decode cX6_bakeBatch 159 = .ok (.iaload, 1) := by decide +kernel
theorem dX6_bakeBatch_160 : decode cX6_bakeBatch 160 = .ok (.iadd, 1) := by decide +kernel
theorem dX6_bakeBatch_161 : decode cX6_bakeBatch 161 = .ok (.iload 8, 2) := by decide +kernel
theorem dX6_bakeBatch_163 : decode cX6_bakeBatch 163 = .ok (.aload_n 0, 1) := by decide +kernel
theorem dX6_bakeBatch_164 : decode cX6_bakeBatch 164 = .ok (.getfield 21, 3) := by decide +kernel
theorem dX6_bakeBatch_167 : decode cX6_bakeBatch 167 = .ok (.getfield 95, 3) := by decide +kernel
theorem dX6_bakeBatch_170 : decode cX6_bakeBatch 170 = .ok (.iload_n 1, 1) := by decide +kernel
theorem dX6_bakeBatch_171 : decode cX6_bakeBatch 171 = .ok (.iaload, 1) := by decide +kernel
theorem dX6_bakeBatch_172 : decode cX6_bakeBatch 172 = .ok (.imul, 1) := by decide +kernel
theorem dX6_bakeBatch_173 : decode cX6_bakeBatch 173 = .ok (.isub, 1) := by decide +kernel
theorem dX6_bakeBatch_174 : decode cX6_bakeBatch 174 = .ok (.iastore, 1) := by decide +kernel
theorem dX6_bakeBatch_175 : decode cX6_bakeBatch 175 = .ok (.aload_n 0, 1) := by decide +kernel
theorem dX6_bakeBatch_176 : decode cX6_bakeBatch 176 = .ok (.getfield 35, 3) := by decide +kernel
theorem dX6_bakeBatch_179 : decode cX6_bakeBatch 179 = .ok (.getfield 150, 3) := by decide +kernel
theorem dX6_bakeBatch_182 : decode cX6_bakeBatch 182 = .ok (.iload 6, 2) := by decide +kernel
theorem dX6_bakeBatch_184 : decode cX6_bakeBatch 184 = .ok (.aaload, 1) := by decide +kernel
theorem dX6_bakeBatch_185 : decode cX6_bakeBatch 185 = .ok (.astore 9, 2) := by decide +kernel
theorem dX6_bakeBatch_187 : decode cX6_bakeBatch 187 = .ok (.aload 9, 2) := by decide +kernel
theorem dX6_bakeBatch_189 : decode cX6_bakeBatch 189 = .ok (.iconst 0, 1) := by decide +kernel
theorem dX6_bakeBatch_190 : decode cX6_bakeBatch 190 = .ok (.iconst 0, 1) := by decide +kernel
theorem dX6_bakeBatch_191 : decode cX6_bakeBatch 191 = .ok (.iastore, 1) := by decide +kernel
theorem dX6_bakeBatch_192 : decode cX6_bakeBatch 192 = .ok (.aload 9, 2) := by decide +kernel
theorem dX6_bakeBatch_194 : decode cX6_bakeBatch 194 = .ok (.iconst 1, 1) := by decide +kernel
theorem dX6_bakeBatch_195 : decode cX6_bakeBatch 195 = .ok (.iconst 0, 1) := by decide +kernel
theorem dX6_bakeBatch_196 : decode cX6_bakeBatch 196 = .ok (.iastore, 1) := by decide +kernel
theorem dX6_bakeBatch_197 : decode cX6_bakeBatch 197 = .ok (.iconst 0, 1) := by decide +kernel
theorem dX6_bakeBatch_198 : decode cX6_bakeBatch 198 = .ok (.istore 10, 2) := by decide +kernel
theorem dX6_bakeBatch_200 : decode cX6_bakeBatch 200 = .ok (.iload 10, 2) := by decide +kernel
theorem dX6_bakeBatch_202 : decode cX6_bakeBatch 202 = .ok (.aload_n 0, 1) := by decide +kernel
theorem dX6_bakeBatch_203 : decode cX6_bakeBatch 203 = .ok (.getfield 12, 3) := by decide +kernel
theorem dX6_bakeBatch_206 : decode cX6_bakeBatch 206 = .ok (.getfield 71, 3) := by decide +kernel
theorem dX6_bakeBatch_209 : decode cX6_bakeBatch 209 = .ok (.if_icmp .ge 31, 3) := by decide +kernel
theorem dX6_bakeBatch_212 : decode cX6_bakeBatch 212 = .ok (.aload_n 0, 1) := by decide +kernel
theorem dX6_bakeBatch_213 : decode cX6_bakeBatch 213 = .ok (.iload 6, 2) := by decide +kernel
theorem dX6_bakeBatch_215 : decode cX6_bakeBatch 215 = .ok (.iload 10, 2) := by decide +kernel
theorem dX6_bakeBatch_217 : decode cX6_bakeBatch 217 = .ok (.iload_n 2, 1) := by decide +kernel
theorem dX6_bakeBatch_218 : decode cX6_bakeBatch 218 = .ok (.aload_n 0, 1) := by decide +kernel
theorem dX6_bakeBatch_219 : decode cX6_bakeBatch 219 = .ok (.getfield 21, 3) := by decide +kernel
theorem dX6_bakeBatch_222 : decode cX6_bakeBatch 222 = .ok (.iload_n 1, 1) := by decide +kernel
theorem dX6_bakeBatch_223 : decode cX6_bakeBatch 223 = .ok (.iload 10, 2) := by decide +kernel
theorem dX6_bakeBatch_225 : decode cX6_bakeBatch 225 = .ok (.iload_n 2, 1) := by decide +kernel
theorem dX6_bakeBatch_226 : decode cX6_bakeBatch 226 = .ok (.iload 4, 2) := by decide +kernel
theorem dX6_bakeBatch_228 : decode cX6_bakeBatch 228 = .ok (.invokevirtual 112, 3) := by decide +kernel
theorem dX6_bakeBatch_231 : decode cX6_bakeBatch 231 = .ok (.invokevirtual 153, 3) := by decide +kernel
theorem dX6_bakeBatch_234 : decode cX6_bakeBatch 234 = .ok (.iinc 10 1, 3) := by decide +kernel
theorem dX6_bakeBatch_237 : decode cX6_bakeBatch 237 = .ok (.goto (-37), 3) := by decide +kernel
theorem dX6_bakeBatch_240 : decode cX6_bakeBatch 240 = .ok (.aload 9, 2) := by decide +kernel
theorem dX6_bakeBatch_242 : decode cX6_bakeBatch 242 = .ok (.iconst 2, 1) := by decide +kernel
theorem dX6_bakeBatch_243 : decode cX6_bakeBatch 243 = .ok (.aload_n 0, 1) := by decide +kernel
theorem dX6_bakeBatch_244 : decode cX6_bakeBatch 244 = .ok (.getfield 35, 3) := by decide +kernel
theorem dX6_bakeBatch_247 : decode cX6_bakeBatch 247 = .ok (.getfield 147, 3) := by decide +kernel
theorem dX6_bakeBatch_250 : decode cX6_bakeBatch 250 = .ok (.iload 6, 2) := by decide +kernel
theorem dX6_bakeBatch_252 : decode cX6_bakeBatch 252 = .ok (.iaload, 1) := by decide +kernel
theorem dX6_bakeBatch_253 : decode cX6_bakeBatch 253 = .ok (.iload 7, 2) := by decide +kernel
theorem dX6_bakeBatch_255 : decode cX6_bakeBatch 255 = .ok (.aload_n 0, 1) := by decide +kernel
theorem dX6_bakeBatch_256 : decode cX6_bakeBatch 256 = .ok (.getfield 28, 3) := by decide +kernel
theorem dX6_bakeBatch_259 : decode cX6_bakeBatch 259 = .ok (.getfield 84, 3) := by decide +kernel
theorem dX6_bakeBatch_262 : decode cX6_bakeBatch 262 = .ok (.imul, 1) := by decide +kernel
theorem dX6_bakeBatch_263 : decode cX6_bakeBatch 263 = .ok (.isub, 1) := by decide +kernel
theorem dX6_bakeBatch_264 : decode cX6_bakeBatch 264 = .ok (.iastore, 1) := by decide +kernel
theorem dX6_bakeBatch_265 : decode cX6_bakeBatch 265 = .ok (.aload 9, 2) := by decide +kernel
theorem dX6_bakeBatch_267 : decode cX6_bakeBatch 267 = .ok (.iconst 3, 1) := by decide +kernel
theorem dX6_bakeBatch_268 : decode cX6_bakeBatch 268 = .ok (.iload 5, 2) := by decide +kernel
theorem dX6_bakeBatch_270 : decode cX6_bakeBatch 270 = .ok (.aload_n 0, 1) := by decide +kernel
theorem dX6_bakeBatch_271 : decode cX6_bakeBatch 271 = .ok (.getfield 28, 3) := by decide +kernel
theorem dX6_bakeBatch_274 : decode cX6_bakeBatch 274 = .ok (.getfield 84, 3) := by decide +kernel
theorem dX6_bakeBatch_277 : decode cX6_bakeBatch 277 = .ok (.imul, 1) := by decide +kernel
theorem dX6_bakeBatch_278 : decode cX6_bakeBatch 278 = .ok (.iastore, 1) := by decide +kernel
theorem dX6_bakeBatch_279 : decode cX6_bakeBatch 279 = .ok (.aload 9, 2) := by decide +kernel
theorem dX6_bakeBatch_281 : decode cX6_bakeBatch 281 = .ok (.iconst 4, 1) := by decide +kernel
theorem dX6_bakeBatch_282 : decode cX6_bakeBatch 282 = .ok (.iload_n 3, 1) := by decide +kernel
theorem dX6_bakeBatch_283 : decode cX6_bakeBatch 283 = .ok (.aload_n 0, 1) := by decide +kernel
theorem dX6_bakeBatch_284 : decode cX6_bakeBatch 284 = .ok (.getfield 21, 3) := by decide +kernel
theorem dX6_bakeBatch_287 : decode cX6_bakeBatch 287 = .ok (.getfield 95, 3) := by decide +kernel
theorem dX6_bakeBatch_290 : decode cX6_bakeBatch 290 = .ok (.iload_n 1, 1) := by decide +kernel
theorem dX6_bakeBatch_291 : decode cX6_bakeBatch 291 = .ok (.iaload, 1) := by decide +kernel
theorem dX6_bakeBatch_292 : decode cX6_bakeBatch 292 = .ok (.imul, 1) := by decide +kernel
theorem dX6_bakeBatch_293 : decode cX6_bakeBatch 293 = .ok (.iastore, 1) := by decide +kernel
theorem dX6_bakeBatch_294 : decode cX6_bakeBatch 294 = .ok (.iload 6, 2) := by decide +kernel
theorem dX6_bakeBatch_296 : decode cX6_bakeBatch 296 = .ok (.ireturn, 1) := by decide +kernel
def fX6_bakeBatch_L200 (p1 : Int32) (p2 : Int32) (p3 : Int32) (p4 : Int32) (p5 : Int32) (x4 : Int32) (x18 : Int32) (k200 : Int32 → bM → Option (Int32 × bM)) (y35 : Int32) (v36 : bM) : Option (Int32 × bM) :=
  (if (v36 6) ≤ y35 then (ck x4 24 <| nm ((v36 (422 + x4.toNatClampNeg)) - (x18 * (v36 249))) fun x39 => nm (upd v36 (470 + 5 * x4.toNatClampNeg + (2 : Int32).toNatClampNeg) x39) fun v40 => nm (p5 * (v40 249)) fun x41 => nm (upd v40 (470 + 5 * x4.toNatClampNeg + (3 : Int32).toNatClampNeg) x41) fun v42 => ck p1 6 <| nm (p3 * (v42 (188 + p1.toNatClampNeg))) fun x44 => nm (upd v42 (470 + 5 * x4.toNatClampNeg + (4 : Int32).toNatClampNeg) x44) fun v45 => some (x4, v45)) else (bnr (fX1_unitsFor p1 y35 p2 p4 (vw v36 175)) fun r47 => bnw (fX6_useFlour x4 y35 p2 r47 v36) fun w49 => nm (y35 + 1) fun x50 => k200 x50 w49))
def fX6_bakeBatch (p1 : Int32) (p2 : Int32) (p3 : Int32) (p4 : Int32) (p5 : Int32) (v : bM) : Option (Int32 × bM) :=
  bnr (fX6_obstacle p1 p2 p4 p5 v) fun r2 => (if r2 = 0 then (nm (v 277) fun x4 => nm ((v 277) + 1) fun x5 => nm (upd v 277 x5) fun v6 => ck x4 24 <| nm (upd v6 (278 + x4.toNatClampNeg) p1) fun v8 => ck x4 24 <| nm (upd v8 (302 + x4.toNatClampNeg) p2) fun v10 => ck x4 24 <| nm (upd v10 (326 + x4.toNatClampNeg) p3) fun v12 => bnr (fX6_flourCostOf p1 p2 p4 v12) fun r14 => ck x4 24 <| nm (upd v12 (398 + x4.toNatClampNeg) r14) fun v16 => ck p1 6 <| nm (((v16 (182 + p1.toNatClampNeg)) * p2) + p5) fun x18 => bnw (fX6_useOven x4 x18 v16) fun w20 => nm (p2 - p3) fun x21 => ck p1 6 <| nm ((w20 (200 + p1.toNatClampNeg)) + x21) fun x23 => ck p1 6 <| nm (upd w20 (200 + p1.toNatClampNeg) x23) fun v25 => ck x4 24 <| ck x4 24 <| ck p1 6 <| nm (((v25 (398 + x4.toNatClampNeg)) + (v25 (422 + x4.toNatClampNeg))) - (x21 * (v25 (188 + p1.toNatClampNeg)))) fun x29 => ck x4 24 <| nm (upd v25 (446 + x4.toNatClampNeg) x29) fun v31 => ck x4 24 <|  nm (upd v31 (470 + 5 * x4.toNatClampNeg + (0 : Int32).toNatClampNeg) 0) fun v33 =>  nm (upd v33 (470 + 5 * x4.toNatClampNeg + (1 : Int32).toNatClampNeg) 0) fun v34 => lp (fX6_bakeBatch_L200 p1 p2 p3 p4 p5 x4 x18) (fun _ _ => none) lpN 0 v34) else (some ((-1), v)))
set_option maxRecDepth 100000 in
set_option maxHeartbeats 4000000 in
theorem mX6_bakeBatch {l : Launch} {p1 : Int32} {p2 : Int32} {p3 : Int32} {p4 : Int32} {p5 : Int32} {v : bM} {r0 : Int32} {w0 : bM} (hf : fX6_bakeBatch p1 p2 p3 p4 p5 v = some (r0, w0)) : bMet l yX6_bakeBatch cX6_bakeBatch 11 (some .int) 3 0 0 LSt (fun E a => [.ref a, .int p1, .int p2, .int p3, .int p4, .int p5]) v w0 (fun _ => some (.int r0)) := by
  refine bk_start (by decide +kernel) wfSt (fun _ _ => Nat.le_of_ble_eq_true rfl) ?_
  intro p e s m args below meth c D E a ls H locs X hr hl hB
  have hx := X.1
  have hb := X.2.1
  have hown := X.2.2.2.1
  have hts := X.2.2.2.2.1
  have hl : lv_has ls 11 [(0, .ref a), (1, .int p1), (2, .int p2), (3, .int p3), (4, .int p4), (5, .int p5)] := hl
  have hf := (fX6_bakeBatch.eq_1 p1 p2 p3 p4 p5 v).symm.trans hf
  refine lv_aload_n hx hb dX6_bakeBatch_0 rfl (lv_at hl 0 rfl) ?_
  refine lv_iload_n hx hb dX6_bakeBatch_1 rfl (lv_at hl 1 rfl) ?_
  refine lv_iload_n hx hb dX6_bakeBatch_2 rfl (lv_at hl 2 rfl) ?_
  refine lv_iload hx hb dX6_bakeBatch_3 (lv_at hl 4 rfl) ?_
  refine lv_iload hx hb dX6_bakeBatch_5 (lv_at hl 5 rfl) ?_
  obtain ⟨r2, hc1, hf⟩ := bnr_some hf
  refine bk_all hB (fun h1 h2 h3 => bk_runV X (Av := [.int p1, .int p2, .int p4, .int p5]) (rest := []) (mX6_obstacle hc1) yv_X6_obstacle wm_591 ⟨Nat.le_of_ble_eq_true rfl, Nat.le_of_ble_eq_true rfl⟩ rfl rfl hl.1 kl_X6.1 (hB.1.obj lc_St_0) h1 h2 h3 (Nat.le_of_ble_eq_true rfl) ⟨Nat.le_of_ble_eq_true rfl, Nat.le_of_ble_eq_true rfl⟩ dX6_bakeBatch_7) (fun H locs hB => ?_)
  refine W.eq (g2 := F0 m 10 ls [.int r2]) rfl ?_
  refine lv_if_eq (tgt := 15) hx hb dX6_bakeBatch_10 (by decide) (fun c3 => ?_) (fun c3 => ?_)
  · have hf := (if_pos c3).symm.trans hf
    refine lv_aload_n hx hb dX6_bakeBatch_15 rfl (lv_at hl 0 rfl) ?_
    refine bk_getR X hB kl_X6 0 lc_St_0 9 (by decide) rfl wm_240 dX6_bakeBatch_16 ?_
    refine bk_getI X hB kl_X0 37 lc_St_37 0 (by decide) rfl wm_170 dX6_bakeBatch_19 ?_
    refine lv_topi (fun x4 ex4 => ?_)
    have hf := nm_use hf ex4
    refine lv_istore (lv' := [(6, .int x4), (0, .ref a), (1, .int p1), (2, .int p2), (3, .int p3), (4, .int p4), (5, .int p5)]) hx hb dX6_bakeBatch_22 hl (by decide) rfl (fun ls hl => ?_)
    refine lv_aload_n hx hb dX6_bakeBatch_24 rfl (lv_at hl 1 rfl) ?_
    refine bk_getR X hB kl_X6 0 lc_St_0 9 (by decide) rfl wm_240 dX6_bakeBatch_25 ?_
    refine lv_dup hx hb dX6_bakeBatch_28 rfl ?_
    refine bk_getI X hB kl_X0 37 lc_St_37 0 (by decide) rfl wm_170 dX6_bakeBatch_29 ?_
    refine lv_iconst (v := 1) hx hb dX6_bakeBatch_32 (by decide) ?_
    refine lv_iadd hx hb dX6_bakeBatch_33 ?_
    refine lv_topi (fun x5 ex5 => ?_)
    have hf := nm_use hf ex5
    refine bk_putI X hB kl_X0 37 lc_St_37 0 (by decide) rfl rfl rfl wm_170 dX6_bakeBatch_34 rfl (fun H locs hB => ?_)
    obtain ⟨v6, ev6⟩ : ∃ y : bM, y = upd v 277 x5 := ⟨_, rfl⟩
    have hf := nm_use hf ev6
    rw [← ev6] at hB
    refine lv_aload_n hx hb dX6_bakeBatch_37 rfl (lv_at hl 1 rfl) ?_
    refine bk_getR X hB kl_X6 0 lc_St_0 9 (by decide) rfl wm_240 dX6_bakeBatch_38 ?_
    refine bk_getR X hB kl_X0 37 lc_St_37 1 (by decide) rfl wm_173 dX6_bakeBatch_41 ?_
    refine lv_iload hx hb dX6_bakeBatch_44 (lv_at hl 0 rfl) ?_
    refine lv_iload_n hx hb dX6_bakeBatch_46 rfl (lv_at hl 2 rfl) ?_
    obtain ⟨h7, hf⟩ := ck_some hf
    refine bk_ast X hB 38 lc_St_38 h7 dX6_bakeBatch_47 (fun H locs hB => ?_)
    obtain ⟨v8, ev8⟩ : ∃ y : bM, y = upd v6 (278 + x4.toNatClampNeg) p1 := ⟨_, rfl⟩
    have hf := nm_use hf ev8
    rw [← ev8] at hB
    refine lv_aload_n hx hb dX6_bakeBatch_48 rfl (lv_at hl 1 rfl) ?_
    refine bk_getR X hB kl_X6 0 lc_St_0 9 (by decide) rfl wm_240 dX6_bakeBatch_49 ?_
    refine bk_getR X hB kl_X0 37 lc_St_37 2 (by decide) rfl wm_176 dX6_bakeBatch_52 ?_
    refine lv_iload hx hb dX6_bakeBatch_55 (lv_at hl 0 rfl) ?_
    refine lv_iload_n hx hb dX6_bakeBatch_57 rfl (lv_at hl 3 rfl) ?_
    obtain ⟨h9, hf⟩ := ck_some hf
    refine bk_ast X hB 39 lc_St_39 h9 dX6_bakeBatch_58 (fun H locs hB => ?_)
    obtain ⟨v10, ev10⟩ : ∃ y : bM, y = upd v8 (302 + x4.toNatClampNeg) p2 := ⟨_, rfl⟩
    have hf := nm_use hf ev10
    rw [← ev10] at hB
    refine lv_aload_n hx hb dX6_bakeBatch_59 rfl (lv_at hl 1 rfl) ?_
    refine bk_getR X hB kl_X6 0 lc_St_0 9 (by decide) rfl wm_240 dX6_bakeBatch_60 ?_
    refine bk_getR X hB kl_X0 37 lc_St_37 3 (by decide) rfl wm_179 dX6_bakeBatch_63 ?_
    refine lv_iload hx hb dX6_bakeBatch_66 (lv_at hl 0 rfl) ?_
    refine lv_iload_n hx hb dX6_bakeBatch_68 rfl (lv_at hl 4 rfl) ?_
    obtain ⟨h11, hf⟩ := ck_some hf
    refine bk_ast X hB 40 lc_St_40 h11 dX6_bakeBatch_69 (fun H locs hB => ?_)
    obtain ⟨v12, ev12⟩ : ∃ y : bM, y = upd v10 (326 + x4.toNatClampNeg) p3 := ⟨_, rfl⟩
    have hf := nm_use hf ev12
    rw [← ev12] at hB
    refine lv_aload_n hx hb dX6_bakeBatch_70 rfl (lv_at hl 1 rfl) ?_
    refine bk_getR X hB kl_X6 0 lc_St_0 9 (by decide) rfl wm_240 dX6_bakeBatch_71 ?_
    refine bk_getR X hB kl_X0 37 lc_St_37 6 (by decide) rfl wm_188 dX6_bakeBatch_74 ?_
    refine lv_iload hx hb dX6_bakeBatch_77 (lv_at hl 0 rfl) ?_
    refine lv_aload_n hx hb dX6_bakeBatch_79 rfl (lv_at hl 1 rfl) ?_
    refine lv_iload_n hx hb dX6_bakeBatch_80 rfl (lv_at hl 2 rfl) ?_
    refine lv_iload_n hx hb dX6_bakeBatch_81 rfl (lv_at hl 3 rfl) ?_
    refine lv_iload hx hb dX6_bakeBatch_82 (lv_at hl 5 rfl) ?_
    obtain ⟨r14, hc13, hf⟩ := bnr_some hf
    refine bk_all hB (fun h1 h2 h3 => bk_runV X (Av := [.int p1, .int p2, .int p4]) (rest := [.int x4, .ref (a + 43)]) (mX6_flourCostOf hc13) yv_X6_flourCostOf wm_606 ⟨Nat.le_of_ble_eq_true rfl, Nat.le_of_ble_eq_true rfl⟩ rfl rfl hl.1 kl_X6.1 (hB.1.obj lc_St_0) h1 h2 h3 (Nat.le_of_ble_eq_true rfl) ⟨Nat.le_of_ble_eq_true rfl, Nat.le_of_ble_eq_true rfl⟩ dX6_bakeBatch_84) (fun H locs hB => ?_)
    refine W.eq (g2 := F0 m 87 ls [.int r14, .int x4, .ref (a + 43)]) rfl ?_
    obtain ⟨h15, hf⟩ := ck_some hf
    refine bk_ast X hB 43 lc_St_43 h15 dX6_bakeBatch_87 (fun H locs hB => ?_)
    obtain ⟨v16, ev16⟩ : ∃ y : bM, y = upd v12 (398 + x4.toNatClampNeg) r14 := ⟨_, rfl⟩
    have hf := nm_use hf ev16
    rw [← ev16] at hB
    refine lv_aload_n hx hb dX6_bakeBatch_88 rfl (lv_at hl 1 rfl) ?_
    refine bk_getR X hB kl_X6 0 lc_St_0 7 (by decide) rfl wm_234 dX6_bakeBatch_89 ?_
    refine bk_getR X hB kl_X1 20 lc_St_20 2 (by decide) rfl wm_105 dX6_bakeBatch_92 ?_
    refine lv_iload_n hx hb dX6_bakeBatch_95 rfl (lv_at hl 2 rfl) ?_
    obtain ⟨h17, hf⟩ := ck_some hf
    refine bk_ald X hB 22 lc_St_22 h17 dX6_bakeBatch_96 ?_
    refine lv_iload_n hx hb dX6_bakeBatch_97 rfl (lv_at hl 3 rfl) ?_
    refine lv_imul hx hb dX6_bakeBatch_98 ?_
    refine lv_iload hx hb dX6_bakeBatch_99 (lv_at hl 6 rfl) ?_
    refine lv_iadd hx hb dX6_bakeBatch_101 ?_
    refine lv_topi (fun x18 ex18 => ?_)
    have hf := nm_use hf ex18
    refine lv_istore (lv' := [(7, .int x18), (6, .int x4), (0, .ref a), (1, .int p1), (2, .int p2), (3, .int p3), (4, .int p4), (5, .int p5)]) hx hb dX6_bakeBatch_102 hl (by decide) rfl (fun ls hl => ?_)
    refine lv_aload_n hx hb dX6_bakeBatch_104 rfl (lv_at hl 2 rfl) ?_
    refine lv_iload hx hb dX6_bakeBatch_105 (lv_at hl 1 rfl) ?_
    refine lv_iload hx hb dX6_bakeBatch_107 (lv_at hl 0 rfl) ?_
    obtain ⟨w20, hc19, hf⟩ := bnw_some hf
    refine bk_all hB (fun h1 h2 h3 => bk_runV X (Av := [.int x4, .int x18]) (rest := []) (mX6_useOven hc19) yv_X6_useOven wm_615 ⟨Nat.le_of_ble_eq_true rfl, Nat.le_of_ble_eq_true rfl⟩ rfl rfl hl.1 kl_X6.1 (hB.1.obj lc_St_0) h1 h2 h3 (Nat.le_of_ble_eq_true rfl) ⟨Nat.le_of_ble_eq_true rfl, Nat.le_of_ble_eq_true rfl⟩ dX6_bakeBatch_109) (fun H locs hB => ?_)
    refine W.eq (g2 := F0 m 112 ls []) rfl ?_
    refine lv_iload_n hx hb dX6_bakeBatch_112 rfl (lv_at hl 4 rfl) ?_
    refine lv_iload_n hx hb dX6_bakeBatch_113 rfl (lv_at hl 5 rfl) ?_
    refine lv_isub hx hb dX6_bakeBatch_114 ?_
    refine lv_topi (fun x21 ex21 => ?_)
    have hf := nm_use hf ex21
    refine lv_istore (lv' := [(8, .int x21), (7, .int x18), (6, .int x4), (0, .ref a), (1, .int p1), (2, .int p2), (3, .int p3), (4, .int p4), (5, .int p5)]) hx hb dX6_bakeBatch_115 hl (by decide) rfl (fun ls hl => ?_)
    refine lv_aload_n hx hb dX6_bakeBatch_117 rfl (lv_at hl 3 rfl) ?_
    refine bk_getR X hB kl_X6 0 lc_St_0 7 (by decide) rfl wm_234 dX6_bakeBatch_118 ?_
    refine bk_getR X hB kl_X1 20 lc_St_20 5 (by decide) rfl wm_112 dX6_bakeBatch_121 ?_
    refine lv_iload_n hx hb dX6_bakeBatch_124 rfl (lv_at hl 4 rfl) ?_
    refine lv_dup2_11 hx hb dX6_bakeBatch_125 rfl rfl ?_
    obtain ⟨h22, hf⟩ := ck_some hf
    refine bk_ald X hB 25 lc_St_25 h22 dX6_bakeBatch_126 ?_
    refine lv_iload hx hb dX6_bakeBatch_127 (lv_at hl 0 rfl) ?_
    refine lv_iadd hx hb dX6_bakeBatch_129 ?_
    refine lv_topi (fun x23 ex23 => ?_)
    have hf := nm_use hf ex23
    obtain ⟨h24, hf⟩ := ck_some hf
    refine bk_ast X hB 25 lc_St_25 h24 dX6_bakeBatch_130 (fun H locs hB => ?_)
    obtain ⟨v25, ev25⟩ : ∃ y : bM, y = upd w20 (200 + p1.toNatClampNeg) x23 := ⟨_, rfl⟩
    have hf := nm_use hf ev25
    rw [← ev25] at hB
    refine lv_aload_n hx hb dX6_bakeBatch_131 rfl (lv_at hl 3 rfl) ?_
    refine bk_getR X hB kl_X6 0 lc_St_0 9 (by decide) rfl wm_240 dX6_bakeBatch_132 ?_
    refine bk_getR X hB kl_X0 37 lc_St_37 8 (by decide) rfl wm_194 dX6_bakeBatch_135 ?_
    refine lv_iload hx hb dX6_bakeBatch_138 (lv_at hl 2 rfl) ?_
    refine lv_aload_n hx hb dX6_bakeBatch_140 rfl (lv_at hl 3 rfl) ?_
    refine bk_getR X hB kl_X6 0 lc_St_0 9 (by decide) rfl wm_240 dX6_bakeBatch_141 ?_
    refine bk_getR X hB kl_X0 37 lc_St_37 6 (by decide) rfl wm_188 dX6_bakeBatch_144 ?_
    refine lv_iload hx hb dX6_bakeBatch_147 (lv_at hl 2 rfl) ?_
    obtain ⟨h26, hf⟩ := ck_some hf
    refine bk_ald X hB 43 lc_St_43 h26 dX6_bakeBatch_149 ?_
    refine lv_aload_n hx hb dX6_bakeBatch_150 rfl (lv_at hl 3 rfl) ?_
    refine bk_getR X hB kl_X6 0 lc_St_0 9 (by decide) rfl wm_240 dX6_bakeBatch_151 ?_
    refine bk_getR X hB kl_X0 37 lc_St_37 7 (by decide) rfl wm_191 dX6_bakeBatch_154 ?_
    refine lv_iload hx hb dX6_bakeBatch_157 (lv_at hl 2 rfl) ?_
    obtain ⟨h27, hf⟩ := ck_some hf
    refine bk_ald X hB 44 lc_St_44 h27 dX6_bakeBatch_159 ?_
    refine lv_iadd hx hb dX6_bakeBatch_160 ?_
    refine lv_iload hx hb dX6_bakeBatch_161 (lv_at hl 0 rfl) ?_
    refine lv_aload_n hx hb dX6_bakeBatch_163 rfl (lv_at hl 3 rfl) ?_
    refine bk_getR X hB kl_X6 0 lc_St_0 7 (by decide) rfl wm_234 dX6_bakeBatch_164 ?_
    refine bk_getR X hB kl_X1 20 lc_St_20 3 (by decide) rfl wm_108 dX6_bakeBatch_167 ?_
    refine lv_iload_n hx hb dX6_bakeBatch_170 rfl (lv_at hl 4 rfl) ?_
    obtain ⟨h28, hf⟩ := ck_some hf
    refine bk_ald X hB 23 lc_St_23 h28 dX6_bakeBatch_171 ?_
    refine lv_imul hx hb dX6_bakeBatch_172 ?_
    refine lv_isub hx hb dX6_bakeBatch_173 ?_
    refine lv_topi (fun x29 ex29 => ?_)
    have hf := nm_use hf ex29
    obtain ⟨h30, hf⟩ := ck_some hf
    refine bk_ast X hB 45 lc_St_45 h30 dX6_bakeBatch_174 (fun H locs hB => ?_)
    obtain ⟨v31, ev31⟩ : ∃ y : bM, y = upd v25 (446 + x4.toNatClampNeg) x29 := ⟨_, rfl⟩
    have hf := nm_use hf ev31
    rw [← ev31] at hB
    refine lv_aload_n hx hb dX6_bakeBatch_175 rfl (lv_at hl 3 rfl) ?_
    refine bk_getR X hB kl_X6 0 lc_St_0 9 (by decide) rfl wm_240 dX6_bakeBatch_176 ?_
    refine bk_getR X hB kl_X0 37 lc_St_37 9 (by decide) rfl wm_197 dX6_bakeBatch_179 ?_
    refine lv_iload hx hb dX6_bakeBatch_182 (lv_at hl 2 rfl) ?_
    obtain ⟨h32, hf⟩ := ck_some hf
    refine bk_rld X hB 46 lc_St_46 h32 dX6_bakeBatch_184 ?_
    refine lv_astore (lv' := [(9, .ref (a + (47 + 1 * x4.toNatClampNeg))), (8, .int x21), (7, .int x18), (6, .int x4), (0, .ref a), (1, .int p1), (2, .int p2), (3, .int p3), (4, .int p4), (5, .int p5)]) hx hb dX6_bakeBatch_185 hl (by decide) rfl (fun ls hl => ?_)
    refine lv_aload hx hb dX6_bakeBatch_187 (lv_at hl 0 rfl) ?_
    refine lv_iconst (v := 0) hx hb dX6_bakeBatch_189 (by decide) ?_
    refine lv_iconst (v := 0) hx hb dX6_bakeBatch_190 (by decide) ?_
    refine bk_ast X hB (47 + 1 * x4.toNatClampNeg) (lr_St_46 _ (vp_lt h32)) (vp_c 0 5 rfl) dX6_bakeBatch_191 (fun H locs hB => ?_)
    obtain ⟨v33, ev33⟩ : ∃ y : bM, y = upd v31 (470 + 5 * x4.toNatClampNeg + (0 : Int32).toNatClampNeg) 0 := ⟨_, rfl⟩
    have hf := nm_use hf ev33
    rw [← ev33] at hB
    refine lv_aload hx hb dX6_bakeBatch_192 (lv_at hl 0 rfl) ?_
    refine lv_iconst (v := 1) hx hb dX6_bakeBatch_194 (by decide) ?_
    refine lv_iconst (v := 0) hx hb dX6_bakeBatch_195 (by decide) ?_
    refine bk_ast X hB (47 + 1 * x4.toNatClampNeg) (lr_St_46 _ (vp_lt h32)) (vp_c 1 5 rfl) dX6_bakeBatch_196 (fun H locs hB => ?_)
    obtain ⟨v34, ev34⟩ : ∃ y : bM, y = upd v33 (470 + 5 * x4.toNatClampNeg + (1 : Int32).toNatClampNeg) 0 := ⟨_, rfl⟩
    have hf := nm_use hf ev34
    rw [← ev34] at hB
    refine lv_iconst (v := 0) hx hb dX6_bakeBatch_197 (by decide) ?_
    refine lv_istore (lv' := [(10, .int 0), (9, .ref (a + (47 + 1 * x4.toNatClampNeg))), (8, .int x21), (7, .int x18), (6, .int x4), (0, .ref a), (1, .int p1), (2, .int p2), (3, .int p3), (4, .int p4), (5, .int p5)]) hx hb dX6_bakeBatch_198 hl (by decide) rfl (fun ls hl => ?_)
    have hL200 : ∀ (n200 : Nat) (y35 : Int32) (v36 : bM) (H : Heap) (locs : List Loc) (ls : Array Slot), lp (fX6_bakeBatch_L200 p1 p2 p3 p4 p5 x4 x18) (fun _ _ => none) n200 y35 v36 = some (r0, w0) → bB D E LSt a v36 s H locs → lv_has ls 11 [(0, .ref a), (1, .int p1), (2, .int p2), (3, .int p3), (4, .int p4), (5, .int p5), (6, .int x4), (7, .int x18), (9, .ref (a + (47 + 1 * x4.toNatClampNeg))), (10, .int y35)] → W p l e (rmOf 3 0 0) s m args below meth c H locs 0 0 (bQ below D E LSt a w0 (some (.int r0)) args s 0 0) (F0 m 200 ls []) := by
      intro n200
      induction n200 with
      | zero => intro y35 v36 H locs ls hf; cases (show (none : Option (Int32 × bM)) = some (r0, w0) from hf)
      | succ n200 ih200 =>
        intro y35 v36 H locs ls hf hB hl
        have hf := (fX6_bakeBatch_L200.eq_1 p1 p2 p3 p4 p5 x4 x18 (lp (fX6_bakeBatch_L200 p1 p2 p3 p4 p5 x4 x18) (fun _ _ => none) n200) y35 v36).symm.trans (show fX6_bakeBatch_L200 p1 p2 p3 p4 p5 x4 x18 (lp (fX6_bakeBatch_L200 p1 p2 p3 p4 p5 x4 x18) (fun _ _ => none) n200) y35 v36 = some (r0, w0) from hf)
        refine lv_iload hx hb dX6_bakeBatch_200 (lv_at hl 9 rfl) ?_
        refine lv_aload_n hx hb dX6_bakeBatch_202 rfl (lv_at hl 0 rfl) ?_
        refine bk_getR X hB kl_X6 0 lc_St_0 6 (by decide) rfl wm_231 dX6_bakeBatch_203 ?_
        refine bk_getI X hB kl_X2 1 lc_St_1 0 (by decide) rfl wm_55 dX6_bakeBatch_206 ?_
        refine lv_icmp_ge (tgt := 240) hx hb dX6_bakeBatch_209 (by decide) (fun c37 => ?_) (fun c37 => ?_)
        · have hf := (if_pos c37).symm.trans hf
          refine lv_aload hx hb dX6_bakeBatch_240 (lv_at hl 8 rfl) ?_
          refine lv_iconst (v := 2) hx hb dX6_bakeBatch_242 (by decide) ?_
          refine lv_aload_n hx hb dX6_bakeBatch_243 rfl (lv_at hl 0 rfl) ?_
          refine bk_getR X hB kl_X6 0 lc_St_0 9 (by decide) rfl wm_240 dX6_bakeBatch_244 ?_
          refine bk_getR X hB kl_X0 37 lc_St_37 7 (by decide) rfl wm_191 dX6_bakeBatch_247 ?_
          refine lv_iload hx hb dX6_bakeBatch_250 (lv_at hl 6 rfl) ?_
          obtain ⟨h38, hf⟩ := ck_some hf
          refine bk_ald X hB 44 lc_St_44 h38 dX6_bakeBatch_252 ?_
          refine lv_iload hx hb dX6_bakeBatch_253 (lv_at hl 7 rfl) ?_
          refine lv_aload_n hx hb dX6_bakeBatch_255 rfl (lv_at hl 0 rfl) ?_
          refine bk_getR X hB kl_X6 0 lc_St_0 8 (by decide) rfl wm_237 dX6_bakeBatch_256 ?_
          refine bk_getI X hB kl_X5 34 lc_St_34 1 (by decide) rfl wm_145 dX6_bakeBatch_259 ?_
          refine lv_imul hx hb dX6_bakeBatch_262 ?_
          refine lv_isub hx hb dX6_bakeBatch_263 ?_
          refine lv_topi (fun x39 ex39 => ?_)
          have hf := nm_use hf ex39
          refine bk_ast X hB (47 + 1 * x4.toNatClampNeg) (lr_St_46 _ (vp_lt h32)) (vp_c 2 5 rfl) dX6_bakeBatch_264 (fun H locs hB => ?_)
          obtain ⟨v40, ev40⟩ : ∃ y : bM, y = upd v36 (470 + 5 * x4.toNatClampNeg + (2 : Int32).toNatClampNeg) x39 := ⟨_, rfl⟩
          have hf := nm_use hf ev40
          rw [← ev40] at hB
          refine lv_aload hx hb dX6_bakeBatch_265 (lv_at hl 8 rfl) ?_
          refine lv_iconst (v := 3) hx hb dX6_bakeBatch_267 (by decide) ?_
          refine lv_iload hx hb dX6_bakeBatch_268 (lv_at hl 5 rfl) ?_
          refine lv_aload_n hx hb dX6_bakeBatch_270 rfl (lv_at hl 0 rfl) ?_
          refine bk_getR X hB kl_X6 0 lc_St_0 8 (by decide) rfl wm_237 dX6_bakeBatch_271 ?_
          refine bk_getI X hB kl_X5 34 lc_St_34 1 (by decide) rfl wm_145 dX6_bakeBatch_274 ?_
          refine lv_imul hx hb dX6_bakeBatch_277 ?_
          refine lv_topi (fun x41 ex41 => ?_)
          have hf := nm_use hf ex41
          refine bk_ast X hB (47 + 1 * x4.toNatClampNeg) (lr_St_46 _ (vp_lt h32)) (vp_c 3 5 rfl) dX6_bakeBatch_278 (fun H locs hB => ?_)
          obtain ⟨v42, ev42⟩ : ∃ y : bM, y = upd v40 (470 + 5 * x4.toNatClampNeg + (3 : Int32).toNatClampNeg) x41 := ⟨_, rfl⟩
          have hf := nm_use hf ev42
          rw [← ev42] at hB
          refine lv_aload hx hb dX6_bakeBatch_279 (lv_at hl 8 rfl) ?_
          refine lv_iconst (v := 4) hx hb dX6_bakeBatch_281 (by decide) ?_
          refine lv_iload_n hx hb dX6_bakeBatch_282 rfl (lv_at hl 3 rfl) ?_
          refine lv_aload_n hx hb dX6_bakeBatch_283 rfl (lv_at hl 0 rfl) ?_
          refine bk_getR X hB kl_X6 0 lc_St_0 7 (by decide) rfl wm_234 dX6_bakeBatch_284 ?_
          refine bk_getR X hB kl_X1 20 lc_St_20 3 (by decide) rfl wm_108 dX6_bakeBatch_287 ?_
          refine lv_iload_n hx hb dX6_bakeBatch_290 rfl (lv_at hl 1 rfl) ?_
          obtain ⟨h43, hf⟩ := ck_some hf
          refine bk_ald X hB 23 lc_St_23 h43 dX6_bakeBatch_291 ?_
          refine lv_imul hx hb dX6_bakeBatch_292 ?_
          refine lv_topi (fun x44 ex44 => ?_)
          have hf := nm_use hf ex44
          refine bk_ast X hB (47 + 1 * x4.toNatClampNeg) (lr_St_46 _ (vp_lt h32)) (vp_c 4 5 rfl) dX6_bakeBatch_293 (fun H locs hB => ?_)
          obtain ⟨v45, ev45⟩ : ∃ y : bM, y = upd v42 (470 + 5 * x4.toNatClampNeg + (4 : Int32).toNatClampNeg) x44 := ⟨_, rfl⟩
          have hf := nm_use hf ev45
          rw [← ev45] at hB
          refine lv_iload hx hb dX6_bakeBatch_294 (lv_at hl 6 rfl) ?_
          exact bk_iW X hr rfl hf hB (Nat.le_of_ble_eq_true rfl) (Nat.le_of_ble_eq_true rfl) dX6_bakeBatch_296
        · have hf := (if_neg c37).symm.trans hf
          refine lv_aload_n hx hb dX6_bakeBatch_212 rfl (lv_at hl 0 rfl) ?_
          refine lv_iload hx hb dX6_bakeBatch_213 (lv_at hl 6 rfl) ?_
          refine lv_iload hx hb dX6_bakeBatch_215 (lv_at hl 9 rfl) ?_
          refine lv_iload_n hx hb dX6_bakeBatch_217 rfl (lv_at hl 2 rfl) ?_
          refine lv_aload_n hx hb dX6_bakeBatch_218 rfl (lv_at hl 0 rfl) ?_
          refine bk_getR X hB kl_X6 0 lc_St_0 7 (by decide) rfl wm_234 dX6_bakeBatch_219 ?_
          refine lv_iload_n hx hb dX6_bakeBatch_222 rfl (lv_at hl 1 rfl) ?_
          refine lv_iload hx hb dX6_bakeBatch_223 (lv_at hl 9 rfl) ?_
          refine lv_iload_n hx hb dX6_bakeBatch_225 rfl (lv_at hl 2 rfl) ?_
          refine lv_iload hx hb dX6_bakeBatch_226 (lv_at hl 4 rfl) ?_
          obtain ⟨r47, hc46, hf⟩ := bnr_some hf
          refine bk_subR sub_St_20 hB (fun h1 h2 h3 => bk_runV X (Av := [.int p1, .int y35, .int p2, .int p4]) (rest := [.int p2, .int y35, .int x4, .ref a]) (mX1_unitsFor hc46) yv_X1_unitsFor wm_595 ⟨Nat.le_of_ble_eq_true rfl, Nat.le_of_ble_eq_true rfl⟩ rfl rfl hl.1 kl_X1.1 (hB.1.obj lc_St_20) h1 h2 h3 (Nat.le_of_ble_eq_true rfl) ⟨Nat.le_of_ble_eq_true rfl, Nat.le_of_ble_eq_true rfl⟩ dX6_bakeBatch_228) (fun H locs hB => ?_)
          refine W.eq (g2 := F0 m 231 ls [.int r47, .int p2, .int y35, .int x4, .ref a]) rfl ?_
          obtain ⟨w49, hc48, hf⟩ := bnw_some hf
          refine bk_all hB (fun h1 h2 h3 => bk_runV X (Av := [.int x4, .int y35, .int p2, .int r47]) (rest := []) (mX6_useFlour hc48) yv_X6_useFlour wm_638 ⟨Nat.le_of_ble_eq_true rfl, Nat.le_of_ble_eq_true rfl⟩ rfl rfl hl.1 kl_X6.1 (hB.1.obj lc_St_0) h1 h2 h3 (Nat.le_of_ble_eq_true rfl) ⟨Nat.le_of_ble_eq_true rfl, Nat.le_of_ble_eq_true rfl⟩ dX6_bakeBatch_231) (fun H locs hB => ?_)
          refine W.eq (g2 := F0 m 234 ls []) rfl ?_
          obtain ⟨x50, ex50⟩ : ∃ y : Int32, y = y35 + 1 := ⟨_, rfl⟩
          have hf := nm_use hf ex50
          refine lv_iinc (v := x50) (lv' := [(10, .int x50), (0, .ref a), (1, .int p1), (2, .int p2), (3, .int p3), (4, .int p4), (5, .int p5), (6, .int x4), (7, .int x18), (9, .ref (a + (47 + 1 * x4.toNatClampNeg)))]) hx hb dX6_bakeBatch_234 hl (k := 9) rfl (by rw [ex50]; rfl) (by decide) rfl (fun ls hl => ?_)
          refine lv_goto (tgt := 200) hx hb dX6_bakeBatch_237 (by decide) ?_
          exact ih200 x50 w49 H locs ls hf hB (lv_sub hl [1, 2, 3, 4, 5, 6, 7, 8, 9, 0] rfl)
    exact hL200 lpN 0 v34 H locs ls hf hB (lv_sub hl [5, 6, 7, 8, 9, 10, 4, 3, 1, 0] rfl)
  · have hf := (if_neg c3).symm.trans hf
    refine lv_iconst (v := (-1)) hx hb dX6_bakeBatch_13 (by decide) ?_
    exact bk_iW X hr rfl hf hB (Nat.le_of_ble_eq_true rfl) (Nat.le_of_ble_eq_true rfl) dX6_bakeBatch_14
theorem yv_X6_bakeBatch : bYv yX6_bakeBatch RX6 cX6_bakeBatch 11 (some .int) 5 := ⟨⟨rfl, by decide, by decide, rfl⟩, wm_588, wm_589, wm_2, wm_590⟩

theorem dX6_sellLoaves_0 : decode cX6_sellLoaves 0 = .ok (.iload_n 2, 1) := by decide +kernel
theorem dX6_sellLoaves_1 : decode cX6_sellLoaves 1 = .ok (.aload_n 0, 1) := by decide +kernel
theorem dX6_sellLoaves_2 : decode cX6_sellLoaves 2 = .ok (.getfield 21, 3) := by decide +kernel
theorem dX6_sellLoaves_5 : decode cX6_sellLoaves 5 = .ok (.getfield 141, 3) := by decide +kernel
theorem dX6_sellLoaves_8 : decode cX6_sellLoaves 8 = .ok (.iload_n 1, 1) := by decide +kernel
theorem dX6_sellLoaves_9 : decode cX6_sellLoaves 9 = .ok (.iaload, 1) := by decide +kernel
theorem dX6_sellLoaves_10 : decode cX6_sellLoaves 10 = .ok (.if_icmp .le 5, 3) := by decide +kernel
theorem dX6_sellLoaves_13 : decode cX6_sellLoaves 13 = .ok (.iconst 0, 1) := by decide +kernel
theorem dX6_sellLoaves_14 : decode cX6_sellLoaves 14 = .ok (.ireturn, 1) := by decide +kernel
theorem dX6_sellLoaves_15 : decode cX6_sellLoaves 15 = .ok (.aload_n 0, 1) := by decide +kernel
theorem dX6_sellLoaves_16 : decode cX6_sellLoaves 16 = .ok (.getfield 21, 3) := by decide +kernel
theorem dX6_sellLoaves_19 : decode cX6_sellLoaves 19 = .ok (.getfield 141, 3) := by decide +kernel
theorem dX6_sellLoaves_22 : decode cX6_sellLoaves 22 = .ok (.iload_n 1, 1) := by decide +kernel
theorem dX6_sellLoaves_23 : decode cX6_sellLoaves 23 = .ok (.dup2, 1) := by decide +kernel
theorem dX6_sellLoaves_24 : decode cX6_sellLoaves 24 = .ok (.iaload, 1) := by decide +kernel
theorem dX6_sellLoaves_25 : decode cX6_sellLoaves 25 = .ok (.iload_n 2, 1) := by decide +kernel
theorem dX6_sellLoaves_26 : decode cX6_sellLoaves 26 = .ok (.isub, 1) := by decide +kernel
theorem dX6_sellLoaves_27 : decode cX6_sellLoaves 27 = .ok (.iastore, 1) := by decide +kernel
theorem dX6_sellLoaves_28 : decode cX6_sellLoaves 28 = .ok (.aload_n 0, 1) := by decide +kernel
theorem dX6_sellLoaves_29 : decode cX6_sellLoaves 29 = .ok (.getfield 21, 3) := by decide +kernel
theorem dX6_sellLoaves_32 : decode cX6_sellLoaves 32 = .ok (.getfield 187, 3) := by decide +kernel
theorem dX6_sellLoaves_35 : decode cX6_sellLoaves 35 = .ok (.iload_n 1, 1) := by decide +kernel
theorem dX6_sellLoaves_36 : decode cX6_sellLoaves 36 = .ok (.dup2, 1) := by decide +kernel
theorem dX6_sellLoaves_37 : decode cX6_sellLoaves 37 = .ok (.iaload, 1) := by decide +kernel
theorem dX6_sellLoaves_38 : decode cX6_sellLoaves 38 = .ok (.iload_n 2, 1) := by decide +kernel
theorem dX6_sellLoaves_39 : decode cX6_sellLoaves 39 = .ok (.iadd, 1) := by decide +kernel
theorem dX6_sellLoaves_40 : decode cX6_sellLoaves 40 = .ok (.iastore, 1) := by decide +kernel
theorem dX6_sellLoaves_41 : decode cX6_sellLoaves 41 = .ok (.aload_n 0, 1) := by decide +kernel
theorem dX6_sellLoaves_42 : decode cX6_sellLoaves 42 = .ok (.dup, 1) := by decide +kernel
theorem dX6_sellLoaves_43 : decode cX6_sellLoaves 43 = .ok (.getfield 43, 3) := by decide +kernel
theorem dX6_sellLoaves_46 : decode cX6_sellLoaves 46 = .ok (.iload_n 2, 1) := by decide +kernel
theorem dX6_sellLoaves_47 : decode cX6_sellLoaves 47 = .ok (.iload_n 3, 1) := by decide +kernel
theorem dX6_sellLoaves_48 : decode cX6_sellLoaves 48 = .ok (.imul, 1) := by decide +kernel
theorem dX6_sellLoaves_49 : decode cX6_sellLoaves 49 = .ok (.iadd, 1) := by decide +kernel
theorem dX6_sellLoaves_50 : decode cX6_sellLoaves 50 = .ok (.putfield 43, 3) := by decide +kernel
theorem dX6_sellLoaves_53 : decode cX6_sellLoaves 53 = .ok (.aload_n 0, 1) := by decide +kernel
theorem dX6_sellLoaves_54 : decode cX6_sellLoaves 54 = .ok (.dup, 1) := by decide +kernel
theorem dX6_sellLoaves_55 : decode cX6_sellLoaves 55 = .ok (.getfield 49, 3) := by decide +kernel
theorem dX6_sellLoaves_58 : decode cX6_sellLoaves 58 = .ok (.iload_n 2, 1) := by decide +kernel
theorem dX6_sellLoaves_59 : decode cX6_sellLoaves 59 = .ok (.iload_n 3, 1) := by decide +kernel
theorem dX6_sellLoaves_60 : decode cX6_sellLoaves 60 = .ok (.imul, 1) := by decide +kernel
theorem dX6_sellLoaves_61 : decode cX6_sellLoaves 61 = .ok (.iadd, 1) := by decide +kernel
theorem dX6_sellLoaves_62 : decode cX6_sellLoaves 62 = .ok (.putfield 49, 3) := by decide +kernel
theorem dX6_sellLoaves_65 : decode cX6_sellLoaves 65 = .ok (.aload_n 0, 1) := by decide +kernel
theorem dX6_sellLoaves_66 : decode cX6_sellLoaves 66 = .ok (.dup, 1) := by decide +kernel
theorem dX6_sellLoaves_67 : decode cX6_sellLoaves 67 = .ok (.getfield 55, 3) := by decide +kernel
theorem dX6_sellLoaves_70 : decode cX6_sellLoaves 70 = .ok (.iload_n 2, 1) := by decide +kernel
theorem dX6_sellLoaves_71 : decode cX6_sellLoaves 71 = .ok (.aload_n 0, 1) := by decide +kernel
theorem dX6_sellLoaves_72 : decode cX6_sellLoaves 72 = .ok (.getfield 21, 3) := by decide +kernel
theorem dX6_sellLoaves_75 : decode cX6_sellLoaves 75 = .ok (.getfield 190, 3) := by decide +kernel
theorem dX6_sellLoaves_78 : decode cX6_sellLoaves 78 = .ok (.iload_n 1, 1) := by decide +kernel
theorem dX6_sellLoaves_79 : decode cX6_sellLoaves 79 = .ok (.iaload, 1) := by decide +kernel
theorem dX6_sellLoaves_80 : decode cX6_sellLoaves 80 = .ok (.iload_n 3, 1) := by decide +kernel
theorem dX6_sellLoaves_81 : decode cX6_sellLoaves 81 = .ok (.isub, 1) := by decide +kernel
theorem dX6_sellLoaves_82 : decode cX6_sellLoaves 82 = .ok (.imul, 1) := by decide +kernel
theorem dX6_sellLoaves_83 : decode cX6_sellLoaves 83 = .ok (.iadd, 1) := by decide +kernel
theorem dX6_sellLoaves_84 : decode cX6_sellLoaves 84 = .ok (.putfield 55, 3) := by decide +kernel
theorem dX6_sellLoaves_87 : decode cX6_sellLoaves 87 = .ok (.iconst 1, 1) := by decide +kernel
theorem dX6_sellLoaves_88 : decode cX6_sellLoaves 88 = .ok (.ireturn, 1) := by decide +kernel
def fX6_sellLoaves (p1 : Int32) (p2 : Int32) (p3 : Int32) (v : bM) : Option (Int32 × bM) :=
  ck p1 6 <| (if p2 ≤ (v (200 + p1.toNatClampNeg)) then (ck p1 6 <| nm ((v (200 + p1.toNatClampNeg)) - p2) fun x4 => ck p1 6 <| nm (upd v (200 + p1.toNatClampNeg) x4) fun v6 => ck p1 6 <| nm ((v6 (206 + p1.toNatClampNeg)) + p2) fun x8 => ck p1 6 <| nm (upd v6 (206 + p1.toNatClampNeg) x8) fun v10 => nm ((v10 1) + (p2 * p3)) fun x11 => nm (upd v10 1 x11) fun v12 => nm ((v12 3) + (p2 * p3)) fun x13 => nm (upd v12 3 x13) fun v14 => ck p1 6 <| nm ((v14 5) + (p2 * ((v14 (176 + p1.toNatClampNeg)) - p3))) fun x16 => nm (upd v14 5 x16) fun v17 => some (1, v17)) else (some (0, v)))
set_option maxRecDepth 100000 in
set_option maxHeartbeats 4000000 in
theorem mX6_sellLoaves {l : Launch} {p1 : Int32} {p2 : Int32} {p3 : Int32} {v : bM} {r0 : Int32} {w0 : bM} (hf : fX6_sellLoaves p1 p2 p3 v = some (r0, w0)) : bMet l yX6_sellLoaves cX6_sellLoaves 4 (some .boolean) 0 0 0 LSt (fun E a => [.ref a, .int p1, .int p2, .int p3]) v w0 (fun _ => some (.int r0)) := by
  refine bk_start (by decide +kernel) wfSt (fun _ _ => Nat.le_of_ble_eq_true rfl) ?_
  intro p e s m args below meth c D E a ls H locs X hr hl hB
  have hx := X.1
  have hb := X.2.1
  have hown := X.2.2.2.1
  have hts := X.2.2.2.2.1
  have hl : lv_has ls 4 [(0, .ref a), (1, .int p1), (2, .int p2), (3, .int p3)] := hl
  have hf := (fX6_sellLoaves.eq_1 p1 p2 p3 v).symm.trans hf
  refine lv_iload_n hx hb dX6_sellLoaves_0 rfl (lv_at hl 2 rfl) ?_
  refine lv_aload_n hx hb dX6_sellLoaves_1 rfl (lv_at hl 0 rfl) ?_
  refine bk_getR X hB kl_X6 0 lc_St_0 7 (by decide) rfl wm_234 dX6_sellLoaves_2 ?_
  refine bk_getR X hB kl_X1 20 lc_St_20 5 (by decide) rfl wm_112 dX6_sellLoaves_5 ?_
  refine lv_iload_n hx hb dX6_sellLoaves_8 rfl (lv_at hl 1 rfl) ?_
  obtain ⟨h1, hf⟩ := ck_some hf
  refine bk_ald X hB 25 lc_St_25 h1 dX6_sellLoaves_9 ?_
  refine lv_icmp_le (tgt := 15) hx hb dX6_sellLoaves_10 (by decide) (fun c2 => ?_) (fun c2 => ?_)
  · have hf := (if_pos c2).symm.trans hf
    refine lv_aload_n hx hb dX6_sellLoaves_15 rfl (lv_at hl 0 rfl) ?_
    refine bk_getR X hB kl_X6 0 lc_St_0 7 (by decide) rfl wm_234 dX6_sellLoaves_16 ?_
    refine bk_getR X hB kl_X1 20 lc_St_20 5 (by decide) rfl wm_112 dX6_sellLoaves_19 ?_
    refine lv_iload_n hx hb dX6_sellLoaves_22 rfl (lv_at hl 1 rfl) ?_
    refine lv_dup2_11 hx hb dX6_sellLoaves_23 rfl rfl ?_
    obtain ⟨h3, hf⟩ := ck_some hf
    refine bk_ald X hB 25 lc_St_25 h3 dX6_sellLoaves_24 ?_
    refine lv_iload_n hx hb dX6_sellLoaves_25 rfl (lv_at hl 2 rfl) ?_
    refine lv_isub hx hb dX6_sellLoaves_26 ?_
    refine lv_topi (fun x4 ex4 => ?_)
    have hf := nm_use hf ex4
    obtain ⟨h5, hf⟩ := ck_some hf
    refine bk_ast X hB 25 lc_St_25 h5 dX6_sellLoaves_27 (fun H locs hB => ?_)
    obtain ⟨v6, ev6⟩ : ∃ y : bM, y = upd v (200 + p1.toNatClampNeg) x4 := ⟨_, rfl⟩
    have hf := nm_use hf ev6
    rw [← ev6] at hB
    refine lv_aload_n hx hb dX6_sellLoaves_28 rfl (lv_at hl 0 rfl) ?_
    refine bk_getR X hB kl_X6 0 lc_St_0 7 (by decide) rfl wm_234 dX6_sellLoaves_29 ?_
    refine bk_getR X hB kl_X1 20 lc_St_20 6 (by decide) rfl wm_115 dX6_sellLoaves_32 ?_
    refine lv_iload_n hx hb dX6_sellLoaves_35 rfl (lv_at hl 1 rfl) ?_
    refine lv_dup2_11 hx hb dX6_sellLoaves_36 rfl rfl ?_
    obtain ⟨h7, hf⟩ := ck_some hf
    refine bk_ald X hB 26 lc_St_26 h7 dX6_sellLoaves_37 ?_
    refine lv_iload_n hx hb dX6_sellLoaves_38 rfl (lv_at hl 2 rfl) ?_
    refine lv_iadd hx hb dX6_sellLoaves_39 ?_
    refine lv_topi (fun x8 ex8 => ?_)
    have hf := nm_use hf ex8
    obtain ⟨h9, hf⟩ := ck_some hf
    refine bk_ast X hB 26 lc_St_26 h9 dX6_sellLoaves_40 (fun H locs hB => ?_)
    obtain ⟨v10, ev10⟩ : ∃ y : bM, y = upd v6 (206 + p1.toNatClampNeg) x8 := ⟨_, rfl⟩
    have hf := nm_use hf ev10
    rw [← ev10] at hB
    refine lv_aload_n hx hb dX6_sellLoaves_41 rfl (lv_at hl 0 rfl) ?_
    refine lv_dup hx hb dX6_sellLoaves_42 rfl ?_
    refine bk_getI X hB kl_X6 0 lc_St_0 1 (by decide) rfl wm_223 dX6_sellLoaves_43 ?_
    refine lv_iload_n hx hb dX6_sellLoaves_46 rfl (lv_at hl 2 rfl) ?_
    refine lv_iload_n hx hb dX6_sellLoaves_47 rfl (lv_at hl 3 rfl) ?_
    refine lv_imul hx hb dX6_sellLoaves_48 ?_
    refine lv_iadd hx hb dX6_sellLoaves_49 ?_
    refine lv_topi (fun x11 ex11 => ?_)
    have hf := nm_use hf ex11
    refine bk_putI X hB kl_X6 0 lc_St_0 1 (by decide) rfl rfl rfl wm_223 dX6_sellLoaves_50 rfl (fun H locs hB => ?_)
    obtain ⟨v12, ev12⟩ : ∃ y : bM, y = upd v10 1 x11 := ⟨_, rfl⟩
    have hf := nm_use hf ev12
    rw [← ev12] at hB
    refine lv_aload_n hx hb dX6_sellLoaves_53 rfl (lv_at hl 0 rfl) ?_
    refine lv_dup hx hb dX6_sellLoaves_54 rfl ?_
    refine bk_getI X hB kl_X6 0 lc_St_0 3 (by decide) rfl wm_226 dX6_sellLoaves_55 ?_
    refine lv_iload_n hx hb dX6_sellLoaves_58 rfl (lv_at hl 2 rfl) ?_
    refine lv_iload_n hx hb dX6_sellLoaves_59 rfl (lv_at hl 3 rfl) ?_
    refine lv_imul hx hb dX6_sellLoaves_60 ?_
    refine lv_iadd hx hb dX6_sellLoaves_61 ?_
    refine lv_topi (fun x13 ex13 => ?_)
    have hf := nm_use hf ex13
    refine bk_putI X hB kl_X6 0 lc_St_0 3 (by decide) rfl rfl rfl wm_226 dX6_sellLoaves_62 rfl (fun H locs hB => ?_)
    obtain ⟨v14, ev14⟩ : ∃ y : bM, y = upd v12 3 x13 := ⟨_, rfl⟩
    have hf := nm_use hf ev14
    rw [← ev14] at hB
    refine lv_aload_n hx hb dX6_sellLoaves_65 rfl (lv_at hl 0 rfl) ?_
    refine lv_dup hx hb dX6_sellLoaves_66 rfl ?_
    refine bk_getI X hB kl_X6 0 lc_St_0 5 (by decide) rfl wm_230 dX6_sellLoaves_67 ?_
    refine lv_iload_n hx hb dX6_sellLoaves_70 rfl (lv_at hl 2 rfl) ?_
    refine lv_aload_n hx hb dX6_sellLoaves_71 rfl (lv_at hl 0 rfl) ?_
    refine bk_getR X hB kl_X6 0 lc_St_0 7 (by decide) rfl wm_234 dX6_sellLoaves_72 ?_
    refine bk_getR X hB kl_X1 20 lc_St_20 1 (by decide) rfl wm_102 dX6_sellLoaves_75 ?_
    refine lv_iload_n hx hb dX6_sellLoaves_78 rfl (lv_at hl 1 rfl) ?_
    obtain ⟨h15, hf⟩ := ck_some hf
    refine bk_ald X hB 21 lc_St_21 h15 dX6_sellLoaves_79 ?_
    refine lv_iload_n hx hb dX6_sellLoaves_80 rfl (lv_at hl 3 rfl) ?_
    refine lv_isub hx hb dX6_sellLoaves_81 ?_
    refine lv_imul hx hb dX6_sellLoaves_82 ?_
    refine lv_iadd hx hb dX6_sellLoaves_83 ?_
    refine lv_topi (fun x16 ex16 => ?_)
    have hf := nm_use hf ex16
    refine bk_putI X hB kl_X6 0 lc_St_0 5 (by decide) rfl rfl rfl wm_230 dX6_sellLoaves_84 rfl (fun H locs hB => ?_)
    obtain ⟨v17, ev17⟩ : ∃ y : bM, y = upd v14 5 x16 := ⟨_, rfl⟩
    have hf := nm_use hf ev17
    rw [← ev17] at hB
    refine lv_iconst (v := 1) hx hb dX6_sellLoaves_87 (by decide) ?_
    exact bk_zW X hr rfl rfl hf hB (Nat.le_of_ble_eq_true rfl) (Nat.le_of_ble_eq_true rfl) dX6_sellLoaves_88
  · have hf := (if_neg c2).symm.trans hf
    refine lv_iconst (v := 0) hx hb dX6_sellLoaves_13 (by decide) ?_
    exact bk_zW X hr rfl rfl hf hB (Nat.le_of_ble_eq_true rfl) (Nat.le_of_ble_eq_true rfl) dX6_sellLoaves_14
theorem yv_X6_sellLoaves : bYv yX6_sellLoaves RX6 cX6_sellLoaves 4 (some .boolean) 3 := ⟨⟨rfl, by decide, by decide, rfl⟩, wm_647, wm_648, wm_2, wm_649⟩

theorem dX6_plainOvenPrice_0 : decode cX6_plainOvenPrice 0 = .ok (.aload_n 0, 1) := by decide +kernel
theorem dX6_plainOvenPrice_1 : decode cX6_plainOvenPrice 1 = .ok (.getfield 28, 3) := by decide +kernel
theorem dX6_plainOvenPrice_4 : decode cX6_plainOvenPrice 4 = .ok (.aload_n 0, 1) := by decide +kernel
theorem dX6_plainOvenPrice_5 : decode cX6_plainOvenPrice 5 = .ok (.getfield 39, 3) := by decide +kernel
theorem dX6_plainOvenPrice_8 : decode cX6_plainOvenPrice 8 = .ok (.iload_n 3, 1) := by decide +kernel
theorem dX6_plainOvenPrice_9 : decode cX6_plainOvenPrice 9 = .ok (.bipush 60, 2) := by decide +kernel
theorem dX6_plainOvenPrice_11 : decode cX6_plainOvenPrice 11 = .ok (.imul, 1) := by decide +kernel
theorem dX6_plainOvenPrice_12 : decode cX6_plainOvenPrice 12 = .ok (.iadd, 1) := by decide +kernel
theorem dX6_plainOvenPrice_13 : decode cX6_plainOvenPrice 13 = .ok (.invokevirtual 165, 3) := by decide +kernel
theorem dX6_plainOvenPrice_16 : decode cX6_plainOvenPrice 16 = .ok (.istore 4, 2) := by decide +kernel
theorem dX6_plainOvenPrice_18 : decode cX6_plainOvenPrice 18 = .ok (.aload_n 0, 1) := by decide +kernel
theorem dX6_plainOvenPrice_19 : decode cX6_plainOvenPrice 19 = .ok (.getfield 28, 3) := by decide +kernel
theorem dX6_plainOvenPrice_22 : decode cX6_plainOvenPrice 22 = .ok (.iload 4, 2) := by decide +kernel
theorem dX6_plainOvenPrice_24 : decode cX6_plainOvenPrice 24 = .ok (.aload_n 0, 1) := by decide +kernel
theorem dX6_plainOvenPrice_25 : decode cX6_plainOvenPrice 25 = .ok (.getfield 21, 3) := by decide +kernel
theorem dX6_plainOvenPrice_28 : decode cX6_plainOvenPrice 28 = .ok (.getfield 109, 3) := by decide +kernel
theorem dX6_plainOvenPrice_31 : decode cX6_plainOvenPrice 31 = .ok (.iload_n 1, 1) := by decide +kernel
theorem dX6_plainOvenPrice_32 : decode cX6_plainOvenPrice 32 = .ok (.iaload, 1) := by decide +kernel
theorem dX6_plainOvenPrice_33 : decode cX6_plainOvenPrice 33 = .ok (.iload_n 2, 1) := by decide +kernel
theorem dX6_plainOvenPrice_34 : decode cX6_plainOvenPrice 34 = .ok (.imul, 1) := by decide +kernel
theorem dX6_plainOvenPrice_35 : decode cX6_plainOvenPrice 35 = .ok (.invokevirtual 168, 3) := by decide +kernel
theorem dX6_plainOvenPrice_38 : decode cX6_plainOvenPrice 38 = .ok (.ireturn, 1) := by decide +kernel
def fX6_plainOvenPrice (p1 : Int32) (p2 : Int32) (p3 : Int32) (v : bM) : Option Int32 :=
  bnr (fX5_startFrom ((v 0) + (p3 * 60)) (vw v 248)) fun r2 => ck p1 6 <| bnr (fX5_priceOfMinutes r2 ((v (182 + p1.toNatClampNeg)) * p2) (vw v 248)) fun r5 => some (r5)
set_option maxRecDepth 100000 in
set_option maxHeartbeats 4000000 in
theorem mX6_plainOvenPrice {l : Launch} {p1 : Int32} {p2 : Int32} {p3 : Int32} {v : bM} {r0 : Int32} (hf : fX6_plainOvenPrice p1 p2 p3 v = some r0) : bMet l yX6_plainOvenPrice cX6_plainOvenPrice 5 (some .int) 2 0 0 LSt (fun E a => [.ref a, .int p1, .int p2, .int p3]) v v (fun _ => some (.int r0)) := by
  refine bk_start (by decide +kernel) wfSt (fun _ _ => Nat.le_of_ble_eq_true rfl) ?_
  intro p e s m args below meth c D E a ls H locs X hr hl hB
  have hx := X.1
  have hb := X.2.1
  have hown := X.2.2.2.1
  have hts := X.2.2.2.2.1
  have hl : lv_has ls 5 [(0, .ref a), (1, .int p1), (2, .int p2), (3, .int p3)] := hl
  have hf := (fX6_plainOvenPrice.eq_1 p1 p2 p3 v).symm.trans hf
  refine lv_aload_n hx hb dX6_plainOvenPrice_0 rfl (lv_at hl 0 rfl) ?_
  refine bk_getR X hB kl_X6 0 lc_St_0 8 (by decide) rfl wm_237 dX6_plainOvenPrice_1 ?_
  refine lv_aload_n hx hb dX6_plainOvenPrice_4 rfl (lv_at hl 0 rfl) ?_
  refine bk_getI X hB kl_X6 0 lc_St_0 0 (by decide) rfl wm_220 dX6_plainOvenPrice_5 ?_
  refine lv_iload_n hx hb dX6_plainOvenPrice_8 rfl (lv_at hl 3 rfl) ?_
  refine lv_bipush (v := 60) hx hb dX6_plainOvenPrice_9 (by decide) ?_
  refine lv_imul hx hb dX6_plainOvenPrice_11 ?_
  refine lv_iadd hx hb dX6_plainOvenPrice_12 ?_
  obtain ⟨r2, hc1, hf⟩ := bnr_some hf
  refine bk_subR sub_St_34 hB (fun h1 h2 h3 => bk_runV X (Av := [.int ((v 0) + (p3 * 60))]) (rest := []) (mX5_startFrom hc1) yv_X5_startFrom wm_623 ⟨Nat.le_of_ble_eq_true rfl, Nat.le_of_ble_eq_true rfl⟩ rfl rfl hl.1 kl_X5.1 (hB.1.obj lc_St_34) h1 h2 h3 (Nat.le_of_ble_eq_true rfl) ⟨Nat.le_of_ble_eq_true rfl, Nat.le_of_ble_eq_true rfl⟩ dX6_plainOvenPrice_13) (fun H locs hB => ?_)
  refine W.eq (g2 := F0 m 16 ls [.int r2]) rfl ?_
  refine lv_istore (lv' := [(4, .int r2), (0, .ref a), (1, .int p1), (2, .int p2), (3, .int p3)]) hx hb dX6_plainOvenPrice_16 hl (by decide) rfl (fun ls hl => ?_)
  refine lv_aload_n hx hb dX6_plainOvenPrice_18 rfl (lv_at hl 1 rfl) ?_
  refine bk_getR X hB kl_X6 0 lc_St_0 8 (by decide) rfl wm_237 dX6_plainOvenPrice_19 ?_
  refine lv_iload hx hb dX6_plainOvenPrice_22 (lv_at hl 0 rfl) ?_
  refine lv_aload_n hx hb dX6_plainOvenPrice_24 rfl (lv_at hl 1 rfl) ?_
  refine bk_getR X hB kl_X6 0 lc_St_0 7 (by decide) rfl wm_234 dX6_plainOvenPrice_25 ?_
  refine bk_getR X hB kl_X1 20 lc_St_20 2 (by decide) rfl wm_105 dX6_plainOvenPrice_28 ?_
  refine lv_iload_n hx hb dX6_plainOvenPrice_31 rfl (lv_at hl 2 rfl) ?_
  obtain ⟨h3, hf⟩ := ck_some hf
  refine bk_ald X hB 22 lc_St_22 h3 dX6_plainOvenPrice_32 ?_
  refine lv_iload_n hx hb dX6_plainOvenPrice_33 rfl (lv_at hl 3 rfl) ?_
  refine lv_imul hx hb dX6_plainOvenPrice_34 ?_
  obtain ⟨r5, hc4, hf⟩ := bnr_some hf
  refine bk_subR sub_St_34 hB (fun h1 h2 h3 => bk_runV X (Av := [.int r2, .int ((v (182 + p1.toNatClampNeg)) * p2)]) (rest := []) (mX5_priceOfMinutes hc4) yv_X5_priceOfMinutes wm_631 ⟨Nat.le_of_ble_eq_true rfl, Nat.le_of_ble_eq_true rfl⟩ rfl rfl hl.1 kl_X5.1 (hB.1.obj lc_St_34) h1 h2 h3 (Nat.le_of_ble_eq_true rfl) ⟨Nat.le_of_ble_eq_true rfl, Nat.le_of_ble_eq_true rfl⟩ dX6_plainOvenPrice_35) (fun H locs hB => ?_)
  refine W.eq (g2 := F0 m 38 ls [.int r5]) rfl ?_
  exact bk_iR X hr rfl hf hB (Nat.le_of_ble_eq_true rfl) (Nat.le_of_ble_eq_true rfl) dX6_plainOvenPrice_38
theorem yv_X6_plainOvenPrice : bYv yX6_plainOvenPrice RX6 cX6_plainOvenPrice 5 (some .int) 3 := ⟨⟨rfl, by decide, by decide, rfl⟩, wm_1237, wp_24, wm_2, wm_1238⟩

theorem dX6_plainLoss_0 : decode cX6_plainLoss 0 = .ok (.aload_n 0, 1) := by decide +kernel
theorem dX6_plainLoss_1 : decode cX6_plainLoss 1 = .ok (.iload_n 1, 1) := by decide +kernel
theorem dX6_plainLoss_2 : decode cX6_plainLoss 2 = .ok (.iload_n 2, 1) := by decide +kernel
theorem dX6_plainLoss_3 : decode cX6_plainLoss 3 = .ok (.iconst 0, 1) := by decide +kernel
theorem dX6_plainLoss_4 : decode cX6_plainLoss 4 = .ok (.invokevirtual 193, 3) := by decide +kernel
theorem dX6_plainLoss_7 : decode cX6_plainLoss 7 = .ok (.istore_n 3, 1) := by decide +kernel
theorem dX6_plainLoss_8 : decode cX6_plainLoss 8 = .ok (.aload_n 0, 1) := by decide +kernel
theorem dX6_plainLoss_9 : decode cX6_plainLoss 9 = .ok (.iload_n 1, 1) := by decide +kernel
theorem dX6_plainLoss_10 : decode cX6_plainLoss 10 = .ok (.iload_n 2, 1) := by decide +kernel
theorem dX6_plainLoss_11 : decode cX6_plainLoss 11 = .ok (.iconst 0, 1) := by decide +kernel
theorem dX6_plainLoss_12 : decode cX6_plainLoss 12 = .ok (.invokevirtual 135, 3) := by decide +kernel
theorem dX6_plainLoss_15 : decode cX6_plainLoss 15 = .ok (.iload_n 3, 1) := by decide +kernel
theorem dX6_plainLoss_16 : decode cX6_plainLoss 16 = .ok (.iadd, 1) := by decide +kernel
theorem dX6_plainLoss_17 : decode cX6_plainLoss 17 = .ok (.iload_n 2, 1) := by decide +kernel
theorem dX6_plainLoss_18 : decode cX6_plainLoss 18 = .ok (.aload_n 0, 1) := by decide +kernel
theorem dX6_plainLoss_19 : decode cX6_plainLoss 19 = .ok (.getfield 21, 3) := by decide +kernel
theorem dX6_plainLoss_22 : decode cX6_plainLoss 22 = .ok (.getfield 95, 3) := by decide +kernel
theorem dX6_plainLoss_25 : decode cX6_plainLoss 25 = .ok (.iload_n 1, 1) := by decide +kernel
theorem dX6_plainLoss_26 : decode cX6_plainLoss 26 = .ok (.iaload, 1) := by decide +kernel
theorem dX6_plainLoss_27 : decode cX6_plainLoss 27 = .ok (.imul, 1) := by decide +kernel
theorem dX6_plainLoss_28 : decode cX6_plainLoss 28 = .ok (.isub, 1) := by decide +kernel
theorem dX6_plainLoss_29 : decode cX6_plainLoss 29 = .ok (.ireturn, 1) := by decide +kernel
def fX6_plainLoss (p1 : Int32) (p2 : Int32) (v : bM) : Option Int32 :=
  bnr (fX6_plainOvenPrice p1 p2 0 v) fun r2 => bnr (fX6_flourCostOf p1 p2 0 v) fun r4 => ck p1 6 <| some ((r4 + r2) - (p2 * (v (188 + p1.toNatClampNeg))))
set_option maxRecDepth 100000 in
set_option maxHeartbeats 4000000 in
theorem mX6_plainLoss {l : Launch} {p1 : Int32} {p2 : Int32} {v : bM} {r0 : Int32} (hf : fX6_plainLoss p1 p2 v = some r0) : bMet l yX6_plainLoss cX6_plainLoss 4 (some .int) 3 0 0 LSt (fun E a => [.ref a, .int p1, .int p2]) v v (fun _ => some (.int r0)) := by
  refine bk_start (by decide +kernel) wfSt (fun _ _ => Nat.le_of_ble_eq_true rfl) ?_
  intro p e s m args below meth c D E a ls H locs X hr hl hB
  have hx := X.1
  have hb := X.2.1
  have hown := X.2.2.2.1
  have hts := X.2.2.2.2.1
  have hl : lv_has ls 4 [(0, .ref a), (1, .int p1), (2, .int p2)] := hl
  have hf := (fX6_plainLoss.eq_1 p1 p2 v).symm.trans hf
  refine lv_aload_n hx hb dX6_plainLoss_0 rfl (lv_at hl 0 rfl) ?_
  refine lv_iload_n hx hb dX6_plainLoss_1 rfl (lv_at hl 1 rfl) ?_
  refine lv_iload_n hx hb dX6_plainLoss_2 rfl (lv_at hl 2 rfl) ?_
  refine lv_iconst (v := 0) hx hb dX6_plainLoss_3 (by decide) ?_
  obtain ⟨r2, hc1, hf⟩ := bnr_some hf
  refine bk_all hB (fun h1 h2 h3 => bk_runV X (Av := [.int p1, .int p2, .int 0]) (rest := []) (mX6_plainOvenPrice hc1) yv_X6_plainOvenPrice wm_1235 ⟨Nat.le_of_ble_eq_true rfl, Nat.le_of_ble_eq_true rfl⟩ rfl rfl hl.1 kl_X6.1 (hB.1.obj lc_St_0) h1 h2 h3 (Nat.le_of_ble_eq_true rfl) ⟨Nat.le_of_ble_eq_true rfl, Nat.le_of_ble_eq_true rfl⟩ dX6_plainLoss_4) (fun H locs hB => ?_)
  refine W.eq (g2 := F0 m 7 ls [.int r2]) rfl ?_
  refine lv_istore_n (lv' := [(3, .int r2), (0, .ref a), (1, .int p1), (2, .int p2)]) hx hb dX6_plainLoss_7 rfl hl (by decide) rfl (fun ls hl => ?_)
  refine lv_aload_n hx hb dX6_plainLoss_8 rfl (lv_at hl 1 rfl) ?_
  refine lv_iload_n hx hb dX6_plainLoss_9 rfl (lv_at hl 2 rfl) ?_
  refine lv_iload_n hx hb dX6_plainLoss_10 rfl (lv_at hl 3 rfl) ?_
  refine lv_iconst (v := 0) hx hb dX6_plainLoss_11 (by decide) ?_
  obtain ⟨r4, hc3, hf⟩ := bnr_some hf
  refine bk_all hB (fun h1 h2 h3 => bk_runV X (Av := [.int p1, .int p2, .int 0]) (rest := []) (mX6_flourCostOf hc3) yv_X6_flourCostOf wm_606 ⟨Nat.le_of_ble_eq_true rfl, Nat.le_of_ble_eq_true rfl⟩ rfl rfl hl.1 kl_X6.1 (hB.1.obj lc_St_0) h1 h2 h3 (Nat.le_of_ble_eq_true rfl) ⟨Nat.le_of_ble_eq_true rfl, Nat.le_of_ble_eq_true rfl⟩ dX6_plainLoss_12) (fun H locs hB => ?_)
  refine W.eq (g2 := F0 m 15 ls [.int r4]) rfl ?_
  refine lv_iload_n hx hb dX6_plainLoss_15 rfl (lv_at hl 0 rfl) ?_
  refine lv_iadd hx hb dX6_plainLoss_16 ?_
  refine lv_iload_n hx hb dX6_plainLoss_17 rfl (lv_at hl 3 rfl) ?_
  refine lv_aload_n hx hb dX6_plainLoss_18 rfl (lv_at hl 1 rfl) ?_
  refine bk_getR X hB kl_X6 0 lc_St_0 7 (by decide) rfl wm_234 dX6_plainLoss_19 ?_
  refine bk_getR X hB kl_X1 20 lc_St_20 3 (by decide) rfl wm_108 dX6_plainLoss_22 ?_
  refine lv_iload_n hx hb dX6_plainLoss_25 rfl (lv_at hl 2 rfl) ?_
  obtain ⟨h5, hf⟩ := ck_some hf
  refine bk_ald X hB 23 lc_St_23 h5 dX6_plainLoss_26 ?_
  refine lv_imul hx hb dX6_plainLoss_27 ?_
  refine lv_isub hx hb dX6_plainLoss_28 ?_
  exact bk_iR X hr rfl hf hB (Nat.le_of_ble_eq_true rfl) (Nat.le_of_ble_eq_true rfl) dX6_plainLoss_29
theorem yv_X6_plainLoss : bYv yX6_plainLoss RX6 cX6_plainLoss 4 (some .int) 2 := ⟨⟨rfl, by decide, by decide, rfl⟩, wm_1232, wm_1233, wm_2, wm_1234⟩

theorem dX6_mostLoaves_0 : decode cX6_mostLoaves 0 = .ok (.iconst 0, 1) := by decide +kernel
theorem dX6_mostLoaves_1 : decode cX6_mostLoaves 1 = .ok (.istore_n 2, 1) := by decide +kernel
theorem dX6_mostLoaves_2 : decode cX6_mostLoaves 2 = .ok (.iconst 1, 1) := by decide +kernel
theorem dX6_mostLoaves_3 : decode cX6_mostLoaves 3 = .ok (.istore_n 3, 1) := by decide +kernel
theorem dX6_mostLoaves_4 : decode cX6_mostLoaves 4 = .ok (.iload_n 3, 1) := by decide +kernel
theorem dX6_mostLoaves_5 : decode cX6_mostLoaves 5 = .ok (.bipush 20, 2) := by decide +kernel
theorem dX6_mostLoaves_7 : decode cX6_mostLoaves 7 = .ok (.if_icmp .gt 22, 3) := by decide +kernel
theorem dX6_mostLoaves_10 : decode cX6_mostLoaves 10 = .ok (.aload_n 0, 1) := by decide +kernel
theorem dX6_mostLoaves_11 : decode cX6_mostLoaves 11 = .ok (.iload_n 1, 1) := by decide +kernel
theorem dX6_mostLoaves_12 : decode cX6_mostLoaves 12 = .ok (.iload_n 3, 1) := by decide +kernel
theorem dX6_mostLoaves_13 : decode cX6_mostLoaves 13 = .ok (.iconst 0, 1) := by decide +kernel
theorem dX6_mostLoaves_14 : decode cX6_mostLoaves 14 = .ok (.iconst 0, 1) := by decide +kernel
theorem dX6_mostLoaves_15 : decode cX6_mostLoaves 15 = .ok (.invokevirtual 120, 3) := by decide +kernel
theorem dX6_mostLoaves_18 : decode cX6_mostLoaves 18 = .ok (.ifCond .ne 5, 3) := by decide +kernel
theorem dX6_mostLoaves_21 : decode cX6_mostLoaves 21 = .ok (.iload_n 3, 1) := by decide +kernel
theorem dX6_mostLoaves_22 : decode cX6_mostLoaves 22 = .ok (.istore_n 2, 1) := by decide +kernel
theorem dX6_mostLoaves_23 : decode cX6_mostLoaves 23 = .ok (.iinc 3 1, 3) := by decide +kernel
theorem dX6_mostLoaves_26 : decode cX6_mostLoaves 26 = .ok (.goto (-22), 3) := by decide +kernel
theorem dX6_mostLoaves_29 : decode cX6_mostLoaves 29 = .ok (.iload_n 2, 1) := by decide +kernel
theorem dX6_mostLoaves_30 : decode cX6_mostLoaves 30 = .ok (.ireturn, 1) := by decide +kernel
def fX6_mostLoaves_J23 (y2 : Int32) (k4 : Int32 → Int32 → Option Int32) (y6 : Int32) : Option Int32 :=
  nm (y2 + 1) fun x7 => k4 y6 x7
def fX6_mostLoaves_L4 (p1 : Int32) (v : bM) (k4 : Int32 → Int32 → Option Int32) (y1 : Int32) (y2 : Int32) : Option Int32 :=
  (if 20 < y2 then (some (y1)) else (bnr (fX6_obstacle p1 y2 0 0 v) fun r5 => (if r5 = 0 then (fX6_mostLoaves_J23 y2 k4 y2) else (fX6_mostLoaves_J23 y2 k4 y1))))
def fX6_mostLoaves (p1 : Int32) (v : bM) : Option Int32 :=
  lp (fX6_mostLoaves_L4 p1 v) (fun _ _ => none) lpN 0 1
set_option maxRecDepth 100000 in
set_option maxHeartbeats 4000000 in
theorem mX6_mostLoaves {l : Launch} {p1 : Int32} {v : bM} {r0 : Int32} (hf : fX6_mostLoaves p1 v = some r0) : bMet l yX6_mostLoaves cX6_mostLoaves 4 (some .int) 3 0 0 LSt (fun E a => [.ref a, .int p1]) v v (fun _ => some (.int r0)) := by
  refine bk_start (by decide +kernel) wfSt (fun _ _ => Nat.le_of_ble_eq_true rfl) ?_
  intro p e s m args below meth c D E a ls H locs X hr hl hB
  have hx := X.1
  have hb := X.2.1
  have hown := X.2.2.2.1
  have hts := X.2.2.2.2.1
  have hl : lv_has ls 4 [(0, .ref a), (1, .int p1)] := hl
  have hf := (fX6_mostLoaves.eq_1 p1 v).symm.trans hf
  refine lv_iconst (v := 0) hx hb dX6_mostLoaves_0 (by decide) ?_
  refine lv_istore_n (lv' := [(2, .int 0), (0, .ref a), (1, .int p1)]) hx hb dX6_mostLoaves_1 rfl hl (by decide) rfl (fun ls hl => ?_)
  refine lv_iconst (v := 1) hx hb dX6_mostLoaves_2 (by decide) ?_
  refine lv_istore_n (lv' := [(3, .int 1), (2, .int 0), (0, .ref a), (1, .int p1)]) hx hb dX6_mostLoaves_3 rfl hl (by decide) rfl (fun ls hl => ?_)
  have hL4 : ∀ (n4 : Nat) (y1 y2 : Int32) (H : Heap) (locs : List Loc) (ls : Array Slot), lp (fX6_mostLoaves_L4 p1 v) (fun _ _ => none) n4 y1 y2 = some r0 → bB D E LSt a v s H locs → lv_has ls 4 [(0, .ref a), (1, .int p1), (2, .int y1), (3, .int y2)] → W p l e (rmOf 3 0 0) s m args below meth c H locs 0 0 (bQ below D E LSt a v (some (.int r0)) args s 0 0) (F0 m 4 ls []) := by
    intro n4
    induction n4 with
    | zero => intro y1 y2 H locs ls hf; cases (show (none : Option Int32) = some r0 from hf)
    | succ n4 ih4 =>
      intro y1 y2 H locs ls hf hB hl
      have hf := (fX6_mostLoaves_L4.eq_1 p1 v (lp (fX6_mostLoaves_L4 p1 v) (fun _ _ => none) n4) y1 y2).symm.trans (show fX6_mostLoaves_L4 p1 v (lp (fX6_mostLoaves_L4 p1 v) (fun _ _ => none) n4) y1 y2 = some r0 from hf)
      refine lv_iload_n hx hb dX6_mostLoaves_4 rfl (lv_at hl 3 rfl) ?_
      refine lv_bipush (v := 20) hx hb dX6_mostLoaves_5 (by decide) ?_
      refine lv_icmp_gt (tgt := 29) hx hb dX6_mostLoaves_7 (by decide) (fun c3 => ?_) (fun c3 => ?_)
      · have hf := (if_pos c3).symm.trans hf
        refine lv_iload_n hx hb dX6_mostLoaves_29 rfl (lv_at hl 2 rfl) ?_
        exact bk_iR X hr rfl hf hB (Nat.le_of_ble_eq_true rfl) (Nat.le_of_ble_eq_true rfl) dX6_mostLoaves_30
      · have hf := (if_neg c3).symm.trans hf
        refine lv_aload_n hx hb dX6_mostLoaves_10 rfl (lv_at hl 0 rfl) ?_
        refine lv_iload_n hx hb dX6_mostLoaves_11 rfl (lv_at hl 1 rfl) ?_
        refine lv_iload_n hx hb dX6_mostLoaves_12 rfl (lv_at hl 3 rfl) ?_
        refine lv_iconst (v := 0) hx hb dX6_mostLoaves_13 (by decide) ?_
        refine lv_iconst (v := 0) hx hb dX6_mostLoaves_14 (by decide) ?_
        obtain ⟨r5, hc4, hf⟩ := bnr_some hf
        refine bk_all hB (fun h1 h2 h3 => bk_runV X (Av := [.int p1, .int y2, .int 0, .int 0]) (rest := []) (mX6_obstacle hc4) yv_X6_obstacle wm_591 ⟨Nat.le_of_ble_eq_true rfl, Nat.le_of_ble_eq_true rfl⟩ rfl rfl hl.1 kl_X6.1 (hB.1.obj lc_St_0) h1 h2 h3 (Nat.le_of_ble_eq_true rfl) ⟨Nat.le_of_ble_eq_true rfl, Nat.le_of_ble_eq_true rfl⟩ dX6_mostLoaves_15) (fun H locs hB => ?_)
        refine W.eq (g2 := F0 m 18 ls [.int r5]) rfl ?_
        have hJ23 : ∀ (y6 : Int32) (H : Heap) (locs : List Loc) (ls : Array Slot), fX6_mostLoaves_J23 y2 (lp (fX6_mostLoaves_L4 p1 v) (fun _ _ => none) n4) y6 = some r0 → bB D E LSt a v s H locs → lv_has ls 4 [(0, .ref a), (1, .int p1), (2, .int y6), (3, .int y2)] → W p l e (rmOf 3 0 0) s m args below meth c H locs 0 0 (bQ below D E LSt a v (some (.int r0)) args s 0 0) (F0 m 23 ls []) := by
          intro y6 H locs ls hf hB hl
          have hf := (fX6_mostLoaves_J23.eq_1 y2 (lp (fX6_mostLoaves_L4 p1 v) (fun _ _ => none) n4) y6).symm.trans hf
          obtain ⟨x7, ex7⟩ : ∃ y : Int32, y = y2 + 1 := ⟨_, rfl⟩
          have hf := nm_use hf ex7
          refine lv_iinc (v := x7) (lv' := [(3, .int x7), (0, .ref a), (1, .int p1), (2, .int y6)]) hx hb dX6_mostLoaves_23 hl (k := 3) rfl (by rw [ex7]; rfl) (by decide) rfl (fun ls hl => ?_)
          refine lv_goto (tgt := 4) hx hb dX6_mostLoaves_26 (by decide) ?_
          exact ih4 y6 x7 H locs ls hf hB (lv_sub hl [1, 2, 3, 0] rfl)
        refine lv_if_ne (tgt := 23) hx hb dX6_mostLoaves_18 (by decide) (fun c8 => ?_) (fun c8 => ?_)
        · have hf := (if_neg c8).symm.trans hf
          exact hJ23 y1 H locs ls hf hB (lv_sub hl [0, 1, 2, 3] rfl)
        · have hf := (if_pos c8).symm.trans hf
          refine lv_iload_n hx hb dX6_mostLoaves_21 rfl (lv_at hl 3 rfl) ?_
          refine lv_istore_n (lv' := [(2, .int y2), (0, .ref a), (1, .int p1), (3, .int y2)]) hx hb dX6_mostLoaves_22 rfl hl (by decide) rfl (fun ls hl => ?_)
          exact hJ23 y2 H locs ls hf hB (lv_sub hl [1, 2, 0, 3] rfl)
  exact hL4 lpN 0 1 H locs ls hf hB (lv_sub hl [2, 3, 1, 0] rfl)
theorem yv_X6_mostLoaves : bYv yX6_mostLoaves RX6 cX6_mostLoaves 4 (some .int) 1 := ⟨⟨rfl, by decide, by decide, rfl⟩, wm_1247, wm_1248, wm_2, wm_1249⟩

theorem dX6_cheapestWait_0 : decode cX6_cheapestWait 0 = .ok (.iconst 0, 1) := by decide +kernel
theorem dX6_cheapestWait_1 : decode cX6_cheapestWait 1 = .ok (.istore_n 3, 1) := by decide +kernel
theorem dX6_cheapestWait_2 : decode cX6_cheapestWait 2 = .ok (.aload_n 0, 1) := by decide +kernel
theorem dX6_cheapestWait_3 : decode cX6_cheapestWait 3 = .ok (.iload_n 1, 1) := by decide +kernel
theorem dX6_cheapestWait_4 : decode cX6_cheapestWait 4 = .ok (.iload_n 2, 1) := by decide +kernel
theorem dX6_cheapestWait_5 : decode cX6_cheapestWait 5 = .ok (.iconst 0, 1) := by decide +kernel
theorem dX6_cheapestWait_6 : decode cX6_cheapestWait 6 = .ok (.invokevirtual 193, 3) := by decide +kernel
theorem dX6_cheapestWait_9 : decode cX6_cheapestWait 9 = .ok (.istore 4, 2) := by decide +kernel
theorem dX6_cheapestWait_11 : decode cX6_cheapestWait 11 = .ok (.iconst 1, 1) := by decide +kernel
theorem dX6_cheapestWait_12 : decode cX6_cheapestWait 12 = .ok (.istore 5, 2) := by decide +kernel
theorem dX6_cheapestWait_14 : decode cX6_cheapestWait 14 = .ok (.iload 5, 2) := by decide +kernel
theorem dX6_cheapestWait_16 : decode cX6_cheapestWait 16 = .ok (.bipush 24, 2) := by decide +kernel
theorem dX6_cheapestWait_18 : decode cX6_cheapestWait 18 = .ok (.if_icmp .ge 33, 3) := by decide +kernel
theorem dX6_cheapestWait_21 : decode cX6_cheapestWait 21 = .ok (.aload_n 0, 1) := by decide +kernel
theorem dX6_cheapestWait_22 : decode cX6_cheapestWait 22 = .ok (.iload_n 1, 1) := by decide +kernel
theorem dX6_cheapestWait_23 : decode cX6_cheapestWait 23 = .ok (.iload_n 2, 1) := by decide +kernel
theorem dX6_cheapestWait_24 : decode cX6_cheapestWait 24 = .ok (.iload 5, 2) := by decide +kernel
theorem dX6_cheapestWait_26 : decode cX6_cheapestWait 26 = .ok (.invokevirtual 193, 3) := by decide +kernel
theorem dX6_cheapestWait_29 : decode cX6_cheapestWait 29 = .ok (.istore 6, 2) := by decide +kernel
theorem dX6_cheapestWait_31 : decode cX6_cheapestWait 31 = .ok (.iload 6, 2) := by decide +kernel
theorem dX6_cheapestWait_33 : decode cX6_cheapestWait 33 = .ok (.iload 4, 2) := by decide +kernel
theorem dX6_cheapestWait_35 : decode cX6_cheapestWait 35 = .ok (.if_icmp .ge 10, 3) := by decide +kernel
theorem dX6_cheapestWait_38 : decode cX6_cheapestWait 38 = .ok (.iload 5, 2) := by decide +kernel
theorem dX6_cheapestWait_40 : decode cX6_cheapestWait 40 = .ok (.istore_n 3, 1) := by decide +kernel
theorem dX6_cheapestWait_41 : decode cX6_cheapestWait 41 = .ok (.iload 6, 2) := by decide +kernel
theorem dX6_cheapestWait_43 : decode cX6_cheapestWait 43 = .ok (.istore 4, 2) := by decide +kernel
theorem dX6_cheapestWait_45 : decode cX6_cheapestWait 45 = .ok (.iinc 5 1, 3) := by decide +kernel
theorem dX6_cheapestWait_48 : decode cX6_cheapestWait 48 = .ok (.goto (-34), 3) := by decide +kernel
theorem dX6_cheapestWait_51 : decode cX6_cheapestWait 51 = .ok (.iload_n 3, 1) := by decide +kernel
theorem dX6_cheapestWait_52 : decode cX6_cheapestWait 52 = .ok (.ireturn, 1) := by decide +kernel
def fX6_cheapestWait_J45 (y5 : Int32) (k14 : Int32 → Int32 → Int32 → Option Int32) (y9 : Int32) (y10 : Int32) : Option Int32 :=
  nm (y5 + 1) fun x11 => k14 y9 y10 x11
def fX6_cheapestWait_L14 (p1 : Int32) (p2 : Int32) (v : bM) (k14 : Int32 → Int32 → Int32 → Option Int32) (y3 : Int32) (y4 : Int32) (y5 : Int32) : Option Int32 :=
  (if 24 ≤ y5 then (some (y3)) else (bnr (fX6_plainOvenPrice p1 p2 y5 v) fun r8 => (if y4 ≤ r8 then (fX6_cheapestWait_J45 y5 k14 y3 y4) else (fX6_cheapestWait_J45 y5 k14 y5 r8))))
def fX6_cheapestWait (p1 : Int32) (p2 : Int32) (v : bM) : Option Int32 :=
  bnr (fX6_plainOvenPrice p1 p2 0 v) fun r2 => lp (fX6_cheapestWait_L14 p1 p2 v) (fun _ _ _ => none) lpN 0 r2 1
set_option maxRecDepth 100000 in
set_option maxHeartbeats 4000000 in
theorem mX6_cheapestWait {l : Launch} {p1 : Int32} {p2 : Int32} {v : bM} {r0 : Int32} (hf : fX6_cheapestWait p1 p2 v = some r0) : bMet l yX6_cheapestWait cX6_cheapestWait 7 (some .int) 3 0 0 LSt (fun E a => [.ref a, .int p1, .int p2]) v v (fun _ => some (.int r0)) := by
  refine bk_start (by decide +kernel) wfSt (fun _ _ => Nat.le_of_ble_eq_true rfl) ?_
  intro p e s m args below meth c D E a ls H locs X hr hl hB
  have hx := X.1
  have hb := X.2.1
  have hown := X.2.2.2.1
  have hts := X.2.2.2.2.1
  have hl : lv_has ls 7 [(0, .ref a), (1, .int p1), (2, .int p2)] := hl
  have hf := (fX6_cheapestWait.eq_1 p1 p2 v).symm.trans hf
  refine lv_iconst (v := 0) hx hb dX6_cheapestWait_0 (by decide) ?_
  refine lv_istore_n (lv' := [(3, .int 0), (0, .ref a), (1, .int p1), (2, .int p2)]) hx hb dX6_cheapestWait_1 rfl hl (by decide) rfl (fun ls hl => ?_)
  refine lv_aload_n hx hb dX6_cheapestWait_2 rfl (lv_at hl 1 rfl) ?_
  refine lv_iload_n hx hb dX6_cheapestWait_3 rfl (lv_at hl 2 rfl) ?_
  refine lv_iload_n hx hb dX6_cheapestWait_4 rfl (lv_at hl 3 rfl) ?_
  refine lv_iconst (v := 0) hx hb dX6_cheapestWait_5 (by decide) ?_
  obtain ⟨r2, hc1, hf⟩ := bnr_some hf
  refine bk_all hB (fun h1 h2 h3 => bk_runV X (Av := [.int p1, .int p2, .int 0]) (rest := []) (mX6_plainOvenPrice hc1) yv_X6_plainOvenPrice wm_1235 ⟨Nat.le_of_ble_eq_true rfl, Nat.le_of_ble_eq_true rfl⟩ rfl rfl hl.1 kl_X6.1 (hB.1.obj lc_St_0) h1 h2 h3 (Nat.le_of_ble_eq_true rfl) ⟨Nat.le_of_ble_eq_true rfl, Nat.le_of_ble_eq_true rfl⟩ dX6_cheapestWait_6) (fun H locs hB => ?_)
  refine W.eq (g2 := F0 m 9 ls [.int r2]) rfl ?_
  refine lv_istore (lv' := [(4, .int r2), (3, .int 0), (0, .ref a), (1, .int p1), (2, .int p2)]) hx hb dX6_cheapestWait_9 hl (by decide) rfl (fun ls hl => ?_)
  refine lv_iconst (v := 1) hx hb dX6_cheapestWait_11 (by decide) ?_
  refine lv_istore (lv' := [(5, .int 1), (4, .int r2), (3, .int 0), (0, .ref a), (1, .int p1), (2, .int p2)]) hx hb dX6_cheapestWait_12 hl (by decide) rfl (fun ls hl => ?_)
  have hL14 : ∀ (n14 : Nat) (y3 y4 y5 : Int32) (H : Heap) (locs : List Loc) (ls : Array Slot), lp (fX6_cheapestWait_L14 p1 p2 v) (fun _ _ _ => none) n14 y3 y4 y5 = some r0 → bB D E LSt a v s H locs → lv_has ls 7 [(0, .ref a), (1, .int p1), (2, .int p2), (3, .int y3), (4, .int y4), (5, .int y5)] → W p l e (rmOf 3 0 0) s m args below meth c H locs 0 0 (bQ below D E LSt a v (some (.int r0)) args s 0 0) (F0 m 14 ls []) := by
    intro n14
    induction n14 with
    | zero => intro y3 y4 y5 H locs ls hf; cases (show (none : Option Int32) = some r0 from hf)
    | succ n14 ih14 =>
      intro y3 y4 y5 H locs ls hf hB hl
      have hf := (fX6_cheapestWait_L14.eq_1 p1 p2 v (lp (fX6_cheapestWait_L14 p1 p2 v) (fun _ _ _ => none) n14) y3 y4 y5).symm.trans (show fX6_cheapestWait_L14 p1 p2 v (lp (fX6_cheapestWait_L14 p1 p2 v) (fun _ _ _ => none) n14) y3 y4 y5 = some r0 from hf)
      refine lv_iload hx hb dX6_cheapestWait_14 (lv_at hl 5 rfl) ?_
      refine lv_bipush (v := 24) hx hb dX6_cheapestWait_16 (by decide) ?_
      refine lv_icmp_ge (tgt := 51) hx hb dX6_cheapestWait_18 (by decide) (fun c6 => ?_) (fun c6 => ?_)
      · have hf := (if_pos c6).symm.trans hf
        refine lv_iload_n hx hb dX6_cheapestWait_51 rfl (lv_at hl 3 rfl) ?_
        exact bk_iR X hr rfl hf hB (Nat.le_of_ble_eq_true rfl) (Nat.le_of_ble_eq_true rfl) dX6_cheapestWait_52
      · have hf := (if_neg c6).symm.trans hf
        refine lv_aload_n hx hb dX6_cheapestWait_21 rfl (lv_at hl 0 rfl) ?_
        refine lv_iload_n hx hb dX6_cheapestWait_22 rfl (lv_at hl 1 rfl) ?_
        refine lv_iload_n hx hb dX6_cheapestWait_23 rfl (lv_at hl 2 rfl) ?_
        refine lv_iload hx hb dX6_cheapestWait_24 (lv_at hl 5 rfl) ?_
        obtain ⟨r8, hc7, hf⟩ := bnr_some hf
        refine bk_all hB (fun h1 h2 h3 => bk_runV X (Av := [.int p1, .int p2, .int y5]) (rest := []) (mX6_plainOvenPrice hc7) yv_X6_plainOvenPrice wm_1235 ⟨Nat.le_of_ble_eq_true rfl, Nat.le_of_ble_eq_true rfl⟩ rfl rfl hl.1 kl_X6.1 (hB.1.obj lc_St_0) h1 h2 h3 (Nat.le_of_ble_eq_true rfl) ⟨Nat.le_of_ble_eq_true rfl, Nat.le_of_ble_eq_true rfl⟩ dX6_cheapestWait_26) (fun H locs hB => ?_)
        refine W.eq (g2 := F0 m 29 ls [.int r8]) rfl ?_
        refine lv_istore (lv' := [(6, .int r8), (0, .ref a), (1, .int p1), (2, .int p2), (3, .int y3), (4, .int y4), (5, .int y5)]) hx hb dX6_cheapestWait_29 hl (by decide) rfl (fun ls hl => ?_)
        refine lv_iload hx hb dX6_cheapestWait_31 (lv_at hl 0 rfl) ?_
        refine lv_iload hx hb dX6_cheapestWait_33 (lv_at hl 5 rfl) ?_
        have hJ45 : ∀ (y9 y10 : Int32) (H : Heap) (locs : List Loc) (ls : Array Slot), fX6_cheapestWait_J45 y5 (lp (fX6_cheapestWait_L14 p1 p2 v) (fun _ _ _ => none) n14) y9 y10 = some r0 → bB D E LSt a v s H locs → lv_has ls 7 [(0, .ref a), (1, .int p1), (2, .int p2), (3, .int y9), (4, .int y10), (5, .int y5)] → W p l e (rmOf 3 0 0) s m args below meth c H locs 0 0 (bQ below D E LSt a v (some (.int r0)) args s 0 0) (F0 m 45 ls []) := by
          intro y9 y10 H locs ls hf hB hl
          have hf := (fX6_cheapestWait_J45.eq_1 y5 (lp (fX6_cheapestWait_L14 p1 p2 v) (fun _ _ _ => none) n14) y9 y10).symm.trans hf
          obtain ⟨x11, ex11⟩ : ∃ y : Int32, y = y5 + 1 := ⟨_, rfl⟩
          have hf := nm_use hf ex11
          refine lv_iinc (v := x11) (lv' := [(5, .int x11), (0, .ref a), (1, .int p1), (2, .int p2), (3, .int y9), (4, .int y10)]) hx hb dX6_cheapestWait_45 hl (k := 5) rfl (by rw [ex11]; rfl) (by decide) rfl (fun ls hl => ?_)
          refine lv_goto (tgt := 14) hx hb dX6_cheapestWait_48 (by decide) ?_
          exact ih14 y9 y10 x11 H locs ls hf hB (lv_sub hl [1, 2, 3, 4, 5, 0] rfl)
        refine lv_icmp_ge (tgt := 45) hx hb dX6_cheapestWait_35 (by decide) (fun c12 => ?_) (fun c12 => ?_)
        · have hf := (if_pos c12).symm.trans hf
          exact hJ45 y3 y4 H locs ls hf hB (lv_sub hl [1, 2, 3, 4, 5, 6] rfl)
        · have hf := (if_neg c12).symm.trans hf
          refine lv_iload hx hb dX6_cheapestWait_38 (lv_at hl 6 rfl) ?_
          refine lv_istore_n (lv' := [(3, .int y5), (6, .int r8), (0, .ref a), (1, .int p1), (2, .int p2), (4, .int y4), (5, .int y5)]) hx hb dX6_cheapestWait_40 rfl hl (by decide) rfl (fun ls hl => ?_)
          refine lv_iload hx hb dX6_cheapestWait_41 (lv_at hl 1 rfl) ?_
          refine lv_istore (lv' := [(4, .int r8), (3, .int y5), (6, .int r8), (0, .ref a), (1, .int p1), (2, .int p2), (5, .int y5)]) hx hb dX6_cheapestWait_43 hl (by decide) rfl (fun ls hl => ?_)
          exact hJ45 y5 r8 H locs ls hf hB (lv_sub hl [3, 4, 5, 1, 0, 6] rfl)
  exact hL14 lpN 0 r2 1 H locs ls hf hB (lv_sub hl [3, 4, 5, 2, 1, 0] rfl)
theorem yv_X6_cheapestWait : bYv yX6_cheapestWait RX6 cX6_cheapestWait 7 (some .int) 2 := ⟨⟨rfl, by decide, by decide, rfl⟩, wm_1258, wm_1259, wm_2, wm_1260⟩

theorem dX6_sumOfKind_0 : decode cX6_sumOfKind 0 = .ok (.iload_n 1, 1) := by decide +kernel
theorem dX6_sumOfKind_1 : decode cX6_sumOfKind 1 = .ok (.iconst 5, 1) := by decide +kernel
theorem dX6_sumOfKind_2 : decode cX6_sumOfKind 2 = .ok (.if_icmp .ne 10, 3) := by decide +kernel
theorem dX6_sumOfKind_5 : decode cX6_sumOfKind 5 = .ok (.aload_n 0, 1) := by decide +kernel
theorem dX6_sumOfKind_6 : decode cX6_sumOfKind 6 = .ok (.getfield 55, 3) := by decide +kernel
theorem dX6_sumOfKind_9 : decode cX6_sumOfKind 9 = .ok (.goto 11, 3) := by decide +kernel
theorem dX6_sumOfKind_12 : decode cX6_sumOfKind 12 = .ok (.aload_n 0, 1) := by decide +kernel
theorem dX6_sumOfKind_13 : decode cX6_sumOfKind 13 = .ok (.getfield 35, 3) := by decide +kernel
theorem dX6_sumOfKind_16 : decode cX6_sumOfKind 16 = .ok (.iload_n 1, 1) := by decide +kernel
theorem dX6_sumOfKind_17 : decode cX6_sumOfKind 17 = .ok (.invokevirtual 196, 3) := by decide +kernel
theorem dX6_sumOfKind_20 : decode cX6_sumOfKind 20 = .ok (.ireturn, 1) := by decide +kernel
def fX6_sumOfKind (p1 : Int32) (v : bM) : Option Int32 :=
  (if p1 = 5 then (some (v 5)) else (bnr (fX0_sumOfGaps p1 (vw v 277)) fun r3 => some (r3)))
set_option maxRecDepth 100000 in
set_option maxHeartbeats 4000000 in
theorem mX6_sumOfKind {l : Launch} {p1 : Int32} {v : bM} {r0 : Int32} (hf : fX6_sumOfKind p1 v = some r0) : bMet l yX6_sumOfKind cX6_sumOfKind 2 (some .int) 1 0 0 LSt (fun E a => [.ref a, .int p1]) v v (fun _ => some (.int r0)) := by
  refine bk_start (by decide +kernel) wfSt (fun _ _ => Nat.le_of_ble_eq_true rfl) ?_
  intro p e s m args below meth c D E a ls H locs X hr hl hB
  have hx := X.1
  have hb := X.2.1
  have hown := X.2.2.2.1
  have hts := X.2.2.2.2.1
  have hl : lv_has ls 2 [(0, .ref a), (1, .int p1)] := hl
  have hf := (fX6_sumOfKind.eq_1 p1 v).symm.trans hf
  refine lv_iload_n hx hb dX6_sumOfKind_0 rfl (lv_at hl 1 rfl) ?_
  refine lv_iconst (v := 5) hx hb dX6_sumOfKind_1 (by decide) ?_
  refine lv_icmp_ne (tgt := 12) hx hb dX6_sumOfKind_2 (by decide) (fun c1 => ?_) (fun c1 => ?_)
  · have hf := (if_neg c1).symm.trans hf
    refine lv_aload_n hx hb dX6_sumOfKind_12 rfl (lv_at hl 0 rfl) ?_
    refine bk_getR X hB kl_X6 0 lc_St_0 9 (by decide) rfl wm_240 dX6_sumOfKind_13 ?_
    refine lv_iload_n hx hb dX6_sumOfKind_16 rfl (lv_at hl 1 rfl) ?_
    obtain ⟨r3, hc2, hf⟩ := bnr_some hf
    refine bk_subR sub_St_37 hB (fun h1 h2 h3 => bk_runV X (Av := [.int p1]) (rest := []) (mX0_sumOfGaps hc2) yv_X0_sumOfGaps wm_796 ⟨Nat.le_of_ble_eq_true rfl, Nat.le_of_ble_eq_true rfl⟩ rfl rfl hl.1 kl_X0.1 (hB.1.obj lc_St_37) h1 h2 h3 (Nat.le_of_ble_eq_true rfl) ⟨Nat.le_of_ble_eq_true rfl, Nat.le_of_ble_eq_true rfl⟩ dX6_sumOfKind_17) (fun H locs hB => ?_)
    refine W.eq (g2 := F0 m 20 ls [.int r3]) rfl ?_
    exact bk_iR X hr rfl hf hB (Nat.le_of_ble_eq_true rfl) (Nat.le_of_ble_eq_true rfl) dX6_sumOfKind_20
  · have hf := (if_pos c1).symm.trans hf
    refine lv_aload_n hx hb dX6_sumOfKind_5 rfl (lv_at hl 0 rfl) ?_
    refine bk_getI X hB kl_X6 0 lc_St_0 5 (by decide) rfl wm_230 dX6_sumOfKind_6 ?_
    refine lv_goto (tgt := 20) hx hb dX6_sumOfKind_9 (by decide) ?_
    exact bk_iR X hr rfl hf hB (Nat.le_of_ble_eq_true rfl) (Nat.le_of_ble_eq_true rfl) dX6_sumOfKind_20
theorem yv_X6_sumOfKind : bYv yX6_sumOfKind RX6 cX6_sumOfKind 2 (some .int) 1 := ⟨⟨rfl, by decide, by decide, rfl⟩, wm_793, wm_794, wm_2, wm_795⟩

theorem dX6_sumOfAllGaps_0 : decode cX6_sumOfAllGaps 0 = .ok (.iconst 0, 1) := by decide +kernel
theorem dX6_sumOfAllGaps_1 : decode cX6_sumOfAllGaps 1 = .ok (.istore_n 1, 1) := by decide +kernel
theorem dX6_sumOfAllGaps_2 : decode cX6_sumOfAllGaps 2 = .ok (.iconst 0, 1) := by decide +kernel
theorem dX6_sumOfAllGaps_3 : decode cX6_sumOfAllGaps 3 = .ok (.istore_n 2, 1) := by decide +kernel
theorem dX6_sumOfAllGaps_4 : decode cX6_sumOfAllGaps 4 = .ok (.iload_n 2, 1) := by decide +kernel
theorem dX6_sumOfAllGaps_5 : decode cX6_sumOfAllGaps 5 = .ok (.bipush 6, 2) := by decide +kernel
theorem dX6_sumOfAllGaps_7 : decode cX6_sumOfAllGaps 7 = .ok (.if_icmp .ge 17, 3) := by decide +kernel
theorem dX6_sumOfAllGaps_10 : decode cX6_sumOfAllGaps 10 = .ok (.iload_n 1, 1) := by decide +kernel
theorem dX6_sumOfAllGaps_11 : decode cX6_sumOfAllGaps 11 = .ok (.aload_n 0, 1) := by decide +kernel
theorem dX6_sumOfAllGaps_12 : decode cX6_sumOfAllGaps 12 = .ok (.iload_n 2, 1) := by decide +kernel
theorem dX6_sumOfAllGaps_13 : decode cX6_sumOfAllGaps 13 = .ok (.invokevirtual 199, 3) := by decide +kernel
theorem dX6_sumOfAllGaps_16 : decode cX6_sumOfAllGaps 16 = .ok (.iadd, 1) := by decide +kernel
theorem dX6_sumOfAllGaps_17 : decode cX6_sumOfAllGaps 17 = .ok (.istore_n 1, 1) := by decide +kernel
theorem dX6_sumOfAllGaps_18 : decode cX6_sumOfAllGaps 18 = .ok (.iinc 2 1, 3) := by decide +kernel
theorem dX6_sumOfAllGaps_21 : decode cX6_sumOfAllGaps 21 = .ok (.goto (-17), 3) := by decide +kernel
theorem dX6_sumOfAllGaps_24 : decode cX6_sumOfAllGaps 24 = .ok (.iload_n 1, 1) := by decide +kernel
theorem dX6_sumOfAllGaps_25 : decode cX6_sumOfAllGaps 25 = .ok (.ireturn, 1) := by decide +kernel
def fX6_sumOfAllGaps_L4 (v : bM) (k4 : Int32 → Int32 → Option Int32) (y1 : Int32) (y2 : Int32) : Option Int32 :=
  (if 6 ≤ y2 then (some (y1)) else (bnr (fX6_sumOfKind y2 v) fun r5 => nm (y1 + r5) fun x6 => nm (y2 + 1) fun x7 => k4 x6 x7))
def fX6_sumOfAllGaps  (v : bM) : Option Int32 :=
  lp (fX6_sumOfAllGaps_L4 v) (fun _ _ => none) lpN 0 0
set_option maxRecDepth 100000 in
set_option maxHeartbeats 4000000 in
theorem mX6_sumOfAllGaps {l : Launch}  {v : bM} {r0 : Int32} (hf : fX6_sumOfAllGaps  v = some r0) : bMet l yX6_sumOfAllGaps cX6_sumOfAllGaps 3 (some .int) 2 0 0 LSt (fun E a => [.ref a]) v v (fun _ => some (.int r0)) := by
  refine bk_start (by decide +kernel) wfSt (fun _ _ => Nat.le_of_ble_eq_true rfl) ?_
  intro p e s m args below meth c D E a ls H locs X hr hl hB
  have hx := X.1
  have hb := X.2.1
  have hown := X.2.2.2.1
  have hts := X.2.2.2.2.1
  have hl : lv_has ls 3 [(0, .ref a)] := hl
  have hf := (fX6_sumOfAllGaps.eq_1  v).symm.trans hf
  refine lv_iconst (v := 0) hx hb dX6_sumOfAllGaps_0 (by decide) ?_
  refine lv_istore_n (lv' := [(1, .int 0), (0, .ref a)]) hx hb dX6_sumOfAllGaps_1 rfl hl (by decide) rfl (fun ls hl => ?_)
  refine lv_iconst (v := 0) hx hb dX6_sumOfAllGaps_2 (by decide) ?_
  refine lv_istore_n (lv' := [(2, .int 0), (1, .int 0), (0, .ref a)]) hx hb dX6_sumOfAllGaps_3 rfl hl (by decide) rfl (fun ls hl => ?_)
  have hL4 : ∀ (n4 : Nat) (y1 y2 : Int32) (H : Heap) (locs : List Loc) (ls : Array Slot), lp (fX6_sumOfAllGaps_L4 v) (fun _ _ => none) n4 y1 y2 = some r0 → bB D E LSt a v s H locs → lv_has ls 3 [(0, .ref a), (1, .int y1), (2, .int y2)] → W p l e (rmOf 2 0 0) s m args below meth c H locs 0 0 (bQ below D E LSt a v (some (.int r0)) args s 0 0) (F0 m 4 ls []) := by
    intro n4
    induction n4 with
    | zero => intro y1 y2 H locs ls hf; cases (show (none : Option Int32) = some r0 from hf)
    | succ n4 ih4 =>
      intro y1 y2 H locs ls hf hB hl
      have hf := (fX6_sumOfAllGaps_L4.eq_1 v (lp (fX6_sumOfAllGaps_L4 v) (fun _ _ => none) n4) y1 y2).symm.trans (show fX6_sumOfAllGaps_L4 v (lp (fX6_sumOfAllGaps_L4 v) (fun _ _ => none) n4) y1 y2 = some r0 from hf)
      refine lv_iload_n hx hb dX6_sumOfAllGaps_4 rfl (lv_at hl 2 rfl) ?_
      refine lv_bipush (v := 6) hx hb dX6_sumOfAllGaps_5 (by decide) ?_
      refine lv_icmp_ge (tgt := 24) hx hb dX6_sumOfAllGaps_7 (by decide) (fun c3 => ?_) (fun c3 => ?_)
      · have hf := (if_pos c3).symm.trans hf
        refine lv_iload_n hx hb dX6_sumOfAllGaps_24 rfl (lv_at hl 1 rfl) ?_
        exact bk_iR X hr rfl hf hB (Nat.le_of_ble_eq_true rfl) (Nat.le_of_ble_eq_true rfl) dX6_sumOfAllGaps_25
      · have hf := (if_neg c3).symm.trans hf
        refine lv_iload_n hx hb dX6_sumOfAllGaps_10 rfl (lv_at hl 1 rfl) ?_
        refine lv_aload_n hx hb dX6_sumOfAllGaps_11 rfl (lv_at hl 0 rfl) ?_
        refine lv_iload_n hx hb dX6_sumOfAllGaps_12 rfl (lv_at hl 2 rfl) ?_
        obtain ⟨r5, hc4, hf⟩ := bnr_some hf
        refine bk_all hB (fun h1 h2 h3 => bk_runV X (Av := [.int y2]) (rest := [.int y1]) (mX6_sumOfKind hc4) yv_X6_sumOfKind wm_792 ⟨Nat.le_of_ble_eq_true rfl, Nat.le_of_ble_eq_true rfl⟩ rfl rfl hl.1 kl_X6.1 (hB.1.obj lc_St_0) h1 h2 h3 (Nat.le_of_ble_eq_true rfl) ⟨Nat.le_of_ble_eq_true rfl, Nat.le_of_ble_eq_true rfl⟩ dX6_sumOfAllGaps_13) (fun H locs hB => ?_)
        refine W.eq (g2 := F0 m 16 ls [.int r5, .int y1]) rfl ?_
        refine lv_iadd hx hb dX6_sumOfAllGaps_16 ?_
        refine lv_topi (fun x6 ex6 => ?_)
        have hf := nm_use hf ex6
        refine lv_istore_n (lv' := [(1, .int x6), (0, .ref a), (2, .int y2)]) hx hb dX6_sumOfAllGaps_17 rfl hl (by decide) rfl (fun ls hl => ?_)
        obtain ⟨x7, ex7⟩ : ∃ y : Int32, y = y2 + 1 := ⟨_, rfl⟩
        have hf := nm_use hf ex7
        refine lv_iinc (v := x7) (lv' := [(2, .int x7), (1, .int x6), (0, .ref a)]) hx hb dX6_sumOfAllGaps_18 hl (k := 2) rfl (by rw [ex7]; rfl) (by decide) rfl (fun ls hl => ?_)
        refine lv_goto (tgt := 4) hx hb dX6_sumOfAllGaps_21 (by decide) ?_
        exact ih4 x6 x7 H locs ls hf hB (lv_sub hl [2, 1, 0] rfl)
  exact hL4 lpN 0 0 H locs ls hf hB (lv_sub hl [2, 1, 0] rfl)
theorem yv_X6_sumOfAllGaps : bYv yX6_sumOfAllGaps RX6 cX6_sumOfAllGaps 3 (some .int) 0 := ⟨⟨rfl, by decide, by decide, rfl⟩, wm_789, wm_790, wm_2, wm_791⟩

theorem dX6_dearestKind_0 : decode cX6_dearestKind 0 = .ok (.iconst 0, 1) := by decide +kernel
theorem dX6_dearestKind_1 : decode cX6_dearestKind 1 = .ok (.istore_n 1, 1) := by decide +kernel
theorem dX6_dearestKind_2 : decode cX6_dearestKind 2 = .ok (.iconst 1, 1) := by decide +kernel
theorem dX6_dearestKind_3 : decode cX6_dearestKind 3 = .ok (.istore_n 2, 1) := by decide +kernel
theorem dX6_dearestKind_4 : decode cX6_dearestKind 4 = .ok (.iload_n 2, 1) := by decide +kernel
theorem dX6_dearestKind_5 : decode cX6_dearestKind 5 = .ok (.bipush 6, 2) := by decide +kernel
theorem dX6_dearestKind_7 : decode cX6_dearestKind 7 = .ok (.if_icmp .ge 24, 3) := by decide +kernel
theorem dX6_dearestKind_10 : decode cX6_dearestKind 10 = .ok (.aload_n 0, 1) := by decide +kernel
theorem dX6_dearestKind_11 : decode cX6_dearestKind 11 = .ok (.iload_n 2, 1) := by decide +kernel
theorem dX6_dearestKind_12 : decode cX6_dearestKind 12 = .ok (.invokevirtual 199, 3) := by decide +kernel
theorem dX6_dearestKind_15 : decode cX6_dearestKind 15 = .ok (.aload_n 0, 1) := by decide +kernel
theorem dX6_dearestKind_16 : decode cX6_dearestKind 16 = .ok (.iload_n 1, 1) := by decide +kernel
theorem dX6_dearestKind_17 : decode cX6_dearestKind 17 = .ok (.invokevirtual 199, 3) := by decide +kernel
theorem dX6_dearestKind_20 : decode cX6_dearestKind 20 = .ok (.if_icmp .le 5, 3) := by decide +kernel
theorem dX6_dearestKind_23 : decode cX6_dearestKind 23 = .ok (.iload_n 2, 1) := by decide +kernel
theorem dX6_dearestKind_24 : decode cX6_dearestKind 24 = .ok (.istore_n 1, 1) := by decide +kernel
theorem dX6_dearestKind_25 : decode cX6_dearestKind 25 = .ok (.iinc 2 1, 3) := by decide +kernel
theorem dX6_dearestKind_28 : decode cX6_dearestKind 28 = .ok (.goto (-24), 3) := by decide +kernel
theorem dX6_dearestKind_31 : decode cX6_dearestKind 31 = .ok (.iload_n 1, 1) := by decide +kernel
theorem dX6_dearestKind_32 : decode cX6_dearestKind 32 = .ok (.ireturn, 1) := by decide +kernel
def fX6_dearestKind_J25 (y2 : Int32) (k4 : Int32 → Int32 → Option Int32) (y8 : Int32) : Option Int32 :=
  nm (y2 + 1) fun x9 => k4 y8 x9
def fX6_dearestKind_L4 (v : bM) (k4 : Int32 → Int32 → Option Int32) (y1 : Int32) (y2 : Int32) : Option Int32 :=
  (if 6 ≤ y2 then (some (y1)) else (bnr (fX6_sumOfKind y2 v) fun r5 => bnr (fX6_sumOfKind y1 v) fun r7 => (if r5 ≤ r7 then (fX6_dearestKind_J25 y2 k4 y1) else (fX6_dearestKind_J25 y2 k4 y2))))
def fX6_dearestKind  (v : bM) : Option Int32 :=
  lp (fX6_dearestKind_L4 v) (fun _ _ => none) lpN 0 1
set_option maxRecDepth 100000 in
set_option maxHeartbeats 4000000 in
theorem mX6_dearestKind {l : Launch}  {v : bM} {r0 : Int32} (hf : fX6_dearestKind  v = some r0) : bMet l yX6_dearestKind cX6_dearestKind 3 (some .int) 2 0 0 LSt (fun E a => [.ref a]) v v (fun _ => some (.int r0)) := by
  refine bk_start (by decide +kernel) wfSt (fun _ _ => Nat.le_of_ble_eq_true rfl) ?_
  intro p e s m args below meth c D E a ls H locs X hr hl hB
  have hx := X.1
  have hb := X.2.1
  have hown := X.2.2.2.1
  have hts := X.2.2.2.2.1
  have hl : lv_has ls 3 [(0, .ref a)] := hl
  have hf := (fX6_dearestKind.eq_1  v).symm.trans hf
  refine lv_iconst (v := 0) hx hb dX6_dearestKind_0 (by decide) ?_
  refine lv_istore_n (lv' := [(1, .int 0), (0, .ref a)]) hx hb dX6_dearestKind_1 rfl hl (by decide) rfl (fun ls hl => ?_)
  refine lv_iconst (v := 1) hx hb dX6_dearestKind_2 (by decide) ?_
  refine lv_istore_n (lv' := [(2, .int 1), (1, .int 0), (0, .ref a)]) hx hb dX6_dearestKind_3 rfl hl (by decide) rfl (fun ls hl => ?_)
  have hL4 : ∀ (n4 : Nat) (y1 y2 : Int32) (H : Heap) (locs : List Loc) (ls : Array Slot), lp (fX6_dearestKind_L4 v) (fun _ _ => none) n4 y1 y2 = some r0 → bB D E LSt a v s H locs → lv_has ls 3 [(0, .ref a), (1, .int y1), (2, .int y2)] → W p l e (rmOf 2 0 0) s m args below meth c H locs 0 0 (bQ below D E LSt a v (some (.int r0)) args s 0 0) (F0 m 4 ls []) := by
    intro n4
    induction n4 with
    | zero => intro y1 y2 H locs ls hf; cases (show (none : Option Int32) = some r0 from hf)
    | succ n4 ih4 =>
      intro y1 y2 H locs ls hf hB hl
      have hf := (fX6_dearestKind_L4.eq_1 v (lp (fX6_dearestKind_L4 v) (fun _ _ => none) n4) y1 y2).symm.trans (show fX6_dearestKind_L4 v (lp (fX6_dearestKind_L4 v) (fun _ _ => none) n4) y1 y2 = some r0 from hf)
      refine lv_iload_n hx hb dX6_dearestKind_4 rfl (lv_at hl 2 rfl) ?_
      refine lv_bipush (v := 6) hx hb dX6_dearestKind_5 (by decide) ?_
      refine lv_icmp_ge (tgt := 31) hx hb dX6_dearestKind_7 (by decide) (fun c3 => ?_) (fun c3 => ?_)
      · have hf := (if_pos c3).symm.trans hf
        refine lv_iload_n hx hb dX6_dearestKind_31 rfl (lv_at hl 1 rfl) ?_
        exact bk_iR X hr rfl hf hB (Nat.le_of_ble_eq_true rfl) (Nat.le_of_ble_eq_true rfl) dX6_dearestKind_32
      · have hf := (if_neg c3).symm.trans hf
        refine lv_aload_n hx hb dX6_dearestKind_10 rfl (lv_at hl 0 rfl) ?_
        refine lv_iload_n hx hb dX6_dearestKind_11 rfl (lv_at hl 2 rfl) ?_
        obtain ⟨r5, hc4, hf⟩ := bnr_some hf
        refine bk_all hB (fun h1 h2 h3 => bk_runV X (Av := [.int y2]) (rest := []) (mX6_sumOfKind hc4) yv_X6_sumOfKind wm_792 ⟨Nat.le_of_ble_eq_true rfl, Nat.le_of_ble_eq_true rfl⟩ rfl rfl hl.1 kl_X6.1 (hB.1.obj lc_St_0) h1 h2 h3 (Nat.le_of_ble_eq_true rfl) ⟨Nat.le_of_ble_eq_true rfl, Nat.le_of_ble_eq_true rfl⟩ dX6_dearestKind_12) (fun H locs hB => ?_)
        refine W.eq (g2 := F0 m 15 ls [.int r5]) rfl ?_
        refine lv_aload_n hx hb dX6_dearestKind_15 rfl (lv_at hl 0 rfl) ?_
        refine lv_iload_n hx hb dX6_dearestKind_16 rfl (lv_at hl 1 rfl) ?_
        obtain ⟨r7, hc6, hf⟩ := bnr_some hf
        refine bk_all hB (fun h1 h2 h3 => bk_runV X (Av := [.int y1]) (rest := [.int r5]) (mX6_sumOfKind hc6) yv_X6_sumOfKind wm_792 ⟨Nat.le_of_ble_eq_true rfl, Nat.le_of_ble_eq_true rfl⟩ rfl rfl hl.1 kl_X6.1 (hB.1.obj lc_St_0) h1 h2 h3 (Nat.le_of_ble_eq_true rfl) ⟨Nat.le_of_ble_eq_true rfl, Nat.le_of_ble_eq_true rfl⟩ dX6_dearestKind_17) (fun H locs hB => ?_)
        refine W.eq (g2 := F0 m 20 ls [.int r7, .int r5]) rfl ?_
        have hJ25 : ∀ (y8 : Int32) (H : Heap) (locs : List Loc) (ls : Array Slot), fX6_dearestKind_J25 y2 (lp (fX6_dearestKind_L4 v) (fun _ _ => none) n4) y8 = some r0 → bB D E LSt a v s H locs → lv_has ls 3 [(0, .ref a), (1, .int y8), (2, .int y2)] → W p l e (rmOf 2 0 0) s m args below meth c H locs 0 0 (bQ below D E LSt a v (some (.int r0)) args s 0 0) (F0 m 25 ls []) := by
          intro y8 H locs ls hf hB hl
          have hf := (fX6_dearestKind_J25.eq_1 y2 (lp (fX6_dearestKind_L4 v) (fun _ _ => none) n4) y8).symm.trans hf
          obtain ⟨x9, ex9⟩ : ∃ y : Int32, y = y2 + 1 := ⟨_, rfl⟩
          have hf := nm_use hf ex9
          refine lv_iinc (v := x9) (lv' := [(2, .int x9), (0, .ref a), (1, .int y8)]) hx hb dX6_dearestKind_25 hl (k := 2) rfl (by rw [ex9]; rfl) (by decide) rfl (fun ls hl => ?_)
          refine lv_goto (tgt := 4) hx hb dX6_dearestKind_28 (by decide) ?_
          exact ih4 y8 x9 H locs ls hf hB (lv_sub hl [1, 2, 0] rfl)
        refine lv_icmp_le (tgt := 25) hx hb dX6_dearestKind_20 (by decide) (fun c10 => ?_) (fun c10 => ?_)
        · have hf := (if_pos c10).symm.trans hf
          exact hJ25 y1 H locs ls hf hB (lv_sub hl [0, 1, 2] rfl)
        · have hf := (if_neg c10).symm.trans hf
          refine lv_iload_n hx hb dX6_dearestKind_23 rfl (lv_at hl 2 rfl) ?_
          refine lv_istore_n (lv' := [(1, .int y2), (0, .ref a), (2, .int y2)]) hx hb dX6_dearestKind_24 rfl hl (by decide) rfl (fun ls hl => ?_)
          exact hJ25 y2 H locs ls hf hB (lv_sub hl [1, 0, 2] rfl)
  exact hL4 lpN 0 1 H locs ls hf hB (lv_sub hl [2, 1, 0] rfl)
theorem yv_X6_dearestKind : bYv yX6_dearestKind RX6 cX6_dearestKind 3 (some .int) 0 := ⟨⟨rfl, by decide, by decide, rfl⟩, wm_813, wm_814, wm_2, wm_815⟩

theorem dX6_imbalance_0 : decode cX6_imbalance 0 = .ok (.aload_n 0, 1) := by decide +kernel
theorem dX6_imbalance_1 : decode cX6_imbalance 1 = .ok (.getfield 43, 3) := by decide +kernel
theorem dX6_imbalance_4 : decode cX6_imbalance 4 = .ok (.aload_n 0, 1) := by decide +kernel
theorem dX6_imbalance_5 : decode cX6_imbalance 5 = .ok (.getfield 12, 3) := by decide +kernel
theorem dX6_imbalance_8 : decode cX6_imbalance 8 = .ok (.invokevirtual 202, 3) := by decide +kernel
theorem dX6_imbalance_11 : decode cX6_imbalance 11 = .ok (.iadd, 1) := by decide +kernel
theorem dX6_imbalance_12 : decode cX6_imbalance 12 = .ok (.aload_n 0, 1) := by decide +kernel
theorem dX6_imbalance_13 : decode cX6_imbalance 13 = .ok (.getfield 21, 3) := by decide +kernel
theorem dX6_imbalance_16 : decode cX6_imbalance 16 = .ok (.invokevirtual 205, 3) := by decide +kernel
theorem dX6_imbalance_19 : decode cX6_imbalance 19 = .ok (.iadd, 1) := by decide +kernel
theorem dX6_imbalance_20 : decode cX6_imbalance 20 = .ok (.istore_n 1, 1) := by decide +kernel
theorem dX6_imbalance_21 : decode cX6_imbalance 21 = .ok (.aload_n 0, 1) := by decide +kernel
theorem dX6_imbalance_22 : decode cX6_imbalance 22 = .ok (.getfield 46, 3) := by decide +kernel
theorem dX6_imbalance_25 : decode cX6_imbalance 25 = .ok (.aload_n 0, 1) := by decide +kernel
theorem dX6_imbalance_26 : decode cX6_imbalance 26 = .ok (.getfield 21, 3) := by decide +kernel
theorem dX6_imbalance_29 : decode cX6_imbalance 29 = .ok (.invokevirtual 206, 3) := by decide +kernel
theorem dX6_imbalance_32 : decode cX6_imbalance 32 = .ok (.iadd, 1) := by decide +kernel
theorem dX6_imbalance_33 : decode cX6_imbalance 33 = .ok (.aload_n 0, 1) := by decide +kernel
theorem dX6_imbalance_34 : decode cX6_imbalance 34 = .ok (.invokevirtual 209, 3) := by decide +kernel
theorem dX6_imbalance_37 : decode cX6_imbalance 37 = .ok (.isub, 1) := by decide +kernel
theorem dX6_imbalance_38 : decode cX6_imbalance 38 = .ok (.istore_n 2, 1) := by decide +kernel
theorem dX6_imbalance_39 : decode cX6_imbalance 39 = .ok (.iload_n 1, 1) := by decide +kernel
theorem dX6_imbalance_40 : decode cX6_imbalance 40 = .ok (.iload_n 2, 1) := by decide +kernel
theorem dX6_imbalance_41 : decode cX6_imbalance 41 = .ok (.isub, 1) := by decide +kernel
theorem dX6_imbalance_42 : decode cX6_imbalance 42 = .ok (.invokestatic 212, 3) := by decide +kernel
theorem dX6_imbalance_45 : decode cX6_imbalance 45 = .ok (.ireturn, 1) := by decide +kernel
def fX6_imbalance  (v : bM) : Option Int32 :=
  bnr (fX2_value (vw v 6)) fun r2 => bnr (fX1_value (vw v 175)) fun r4 => nm (((v 1) + r2) + r4) fun x5 => bnr (fX1_standardProfit (vw v 175)) fun r7 => bnr (fX6_sumOfAllGaps v) fun r9 => nm (((v 2) + r7) - r9) fun x10 => nm (if 0 ≤ (x5 - x10) then (x5 - x10) else 0 - (x5 - x10)) fun x11 => some (x11)
set_option maxRecDepth 100000 in
set_option maxHeartbeats 4000000 in
theorem mX6_imbalance {l : Launch}  {v : bM} {r0 : Int32} (hf : fX6_imbalance  v = some r0) : bMet l yX6_imbalance cX6_imbalance 3 (some .int) 3 0 0 LSt (fun E a => [.ref a]) v v (fun _ => some (.int r0)) := by
  refine bk_start (by decide +kernel) wfSt (fun _ _ => Nat.le_of_ble_eq_true rfl) ?_
  intro p e s m args below meth c D E a ls H locs X hr hl hB
  have hx := X.1
  have hb := X.2.1
  have hown := X.2.2.2.1
  have hts := X.2.2.2.2.1
  have hl : lv_has ls 3 [(0, .ref a)] := hl
  have hf := (fX6_imbalance.eq_1  v).symm.trans hf
  refine lv_aload_n hx hb dX6_imbalance_0 rfl (lv_at hl 0 rfl) ?_
  refine bk_getI X hB kl_X6 0 lc_St_0 1 (by decide) rfl wm_223 dX6_imbalance_1 ?_
  refine lv_aload_n hx hb dX6_imbalance_4 rfl (lv_at hl 0 rfl) ?_
  refine bk_getR X hB kl_X6 0 lc_St_0 6 (by decide) rfl wm_231 dX6_imbalance_5 ?_
  obtain ⟨r2, hc1, hf⟩ := bnr_some hf
  refine bk_subR sub_St_1 hB (fun h1 h2 h3 => bk_runV X (Av := []) (rest := [.int (v 1)]) (mX2_value hc1) yv_X2_value wm_857 ⟨Nat.le_of_ble_eq_true rfl, Nat.le_of_ble_eq_true rfl⟩ rfl rfl hl.1 kl_X2.1 (hB.1.obj lc_St_1) h1 h2 h3 (Nat.le_of_ble_eq_true rfl) ⟨Nat.le_of_ble_eq_true rfl, Nat.le_of_ble_eq_true rfl⟩ dX6_imbalance_8) (fun H locs hB => ?_)
  refine W.eq (g2 := F0 m 11 ls [.int r2, .int (v 1)]) rfl ?_
  refine lv_iadd hx hb dX6_imbalance_11 ?_
  refine lv_aload_n hx hb dX6_imbalance_12 rfl (lv_at hl 0 rfl) ?_
  refine bk_getR X hB kl_X6 0 lc_St_0 7 (by decide) rfl wm_234 dX6_imbalance_13 ?_
  obtain ⟨r4, hc3, hf⟩ := bnr_some hf
  refine bk_subR sub_St_20 hB (fun h1 h2 h3 => bk_runV X (Av := []) (rest := [.int ((v 1) + r2)]) (mX1_value hc3) yv_X1_value wm_858 ⟨Nat.le_of_ble_eq_true rfl, Nat.le_of_ble_eq_true rfl⟩ rfl rfl hl.1 kl_X1.1 (hB.1.obj lc_St_20) h1 h2 h3 (Nat.le_of_ble_eq_true rfl) ⟨Nat.le_of_ble_eq_true rfl, Nat.le_of_ble_eq_true rfl⟩ dX6_imbalance_16) (fun H locs hB => ?_)
  refine W.eq (g2 := F0 m 19 ls [.int r4, .int ((v 1) + r2)]) rfl ?_
  refine lv_iadd hx hb dX6_imbalance_19 ?_
  refine lv_topi (fun x5 ex5 => ?_)
  have hf := nm_use hf ex5
  refine lv_istore_n (lv' := [(1, .int x5), (0, .ref a)]) hx hb dX6_imbalance_20 rfl hl (by decide) rfl (fun ls hl => ?_)
  refine lv_aload_n hx hb dX6_imbalance_21 rfl (lv_at hl 1 rfl) ?_
  refine bk_getI X hB kl_X6 0 lc_St_0 2 (by decide) rfl wm_225 dX6_imbalance_22 ?_
  refine lv_aload_n hx hb dX6_imbalance_25 rfl (lv_at hl 1 rfl) ?_
  refine bk_getR X hB kl_X6 0 lc_St_0 7 (by decide) rfl wm_234 dX6_imbalance_26 ?_
  obtain ⟨r7, hc6, hf⟩ := bnr_some hf
  refine bk_subR sub_St_20 hB (fun h1 h2 h3 => bk_runV X (Av := []) (rest := [.int (v 2)]) (mX1_standardProfit hc6) yv_X1_standardProfit wm_859 ⟨Nat.le_of_ble_eq_true rfl, Nat.le_of_ble_eq_true rfl⟩ rfl rfl hl.1 kl_X1.1 (hB.1.obj lc_St_20) h1 h2 h3 (Nat.le_of_ble_eq_true rfl) ⟨Nat.le_of_ble_eq_true rfl, Nat.le_of_ble_eq_true rfl⟩ dX6_imbalance_29) (fun H locs hB => ?_)
  refine W.eq (g2 := F0 m 32 ls [.int r7, .int (v 2)]) rfl ?_
  refine lv_iadd hx hb dX6_imbalance_32 ?_
  refine lv_aload_n hx hb dX6_imbalance_33 rfl (lv_at hl 1 rfl) ?_
  obtain ⟨r9, hc8, hf⟩ := bnr_some hf
  refine bk_all hB (fun h1 h2 h3 => bk_runV X (Av := []) (rest := [.int ((v 2) + r7)]) (mX6_sumOfAllGaps hc8) yv_X6_sumOfAllGaps wm_863 ⟨Nat.le_of_ble_eq_true rfl, Nat.le_of_ble_eq_true rfl⟩ rfl rfl hl.1 kl_X6.1 (hB.1.obj lc_St_0) h1 h2 h3 (Nat.le_of_ble_eq_true rfl) ⟨Nat.le_of_ble_eq_true rfl, Nat.le_of_ble_eq_true rfl⟩ dX6_imbalance_34) (fun H locs hB => ?_)
  refine W.eq (g2 := F0 m 37 ls [.int r9, .int ((v 2) + r7)]) rfl ?_
  refine lv_isub hx hb dX6_imbalance_37 ?_
  refine lv_topi (fun x10 ex10 => ?_)
  have hf := nm_use hf ex10
  refine lv_istore_n (lv' := [(2, .int x10), (1, .int x5), (0, .ref a)]) hx hb dX6_imbalance_38 rfl hl (by decide) rfl (fun ls hl => ?_)
  refine lv_iload_n hx hb dX6_imbalance_39 rfl (lv_at hl 1 rfl) ?_
  refine lv_iload_n hx hb dX6_imbalance_40 rfl (lv_at hl 0 rfl) ?_
  refine lv_isub hx hb dX6_imbalance_41 ?_
  refine bk_abs X hl.1 wm_864 ⟨Nat.le_of_ble_eq_true rfl, Nat.le_of_ble_eq_true rfl⟩ ⟨Nat.le_of_ble_eq_true rfl, Nat.le_of_ble_eq_true rfl⟩ dX6_imbalance_42 ?_
  refine lv_topi (fun x11 ex11 => ?_)
  have hf := nm_use hf ex11
  exact bk_iR X hr rfl hf hB (Nat.le_of_ble_eq_true rfl) (Nat.le_of_ble_eq_true rfl) dX6_imbalance_45
theorem yv_X6_imbalance : bYv yX6_imbalance RX6 cX6_imbalance 3 (some .int) 0 := ⟨⟨rfl, by decide, by decide, rfl⟩, wm_854, wm_855, wm_2, wm_856⟩
