/-! ===== the constructors of the parts ===== -/
theorem dX2_init_0 : decode cX2_init 0 = .ok (.aload_n 0, 1) := by decide +kernel
theorem dX2_init_1 : decode cX2_init 1 = .ok (.invokespecial 3, 3) := by decide +kernel
theorem dX2_init_4 : decode cX2_init 4 = .ok (.aload_n 0, 1) := by decide +kernel
theorem dX2_init_5 : decode cX2_init 5 = .ok (.bipush 6, 2) := by decide +kernel
theorem dX2_init_7 : decode cX2_init 7 = .ok (.newarray .int, 2) := by decide +kernel
theorem dX2_init_9 : decode cX2_init 9 = .ok (.putfield 9, 3) := by decide +kernel
theorem dX2_init_12 : decode cX2_init 12 = .ok (.aload_n 0, 1) := by decide +kernel
theorem dX2_init_13 : decode cX2_init 13 = .ok (.bipush 6, 2) := by decide +kernel
theorem dX2_init_15 : decode cX2_init 15 = .ok (.newarray .int, 2) := by decide +kernel
theorem dX2_init_17 : decode cX2_init 17 = .ok (.putfield 15, 3) := by decide +kernel
theorem dX2_init_20 : decode cX2_init 20 = .ok (.aload_n 0, 1) := by decide +kernel
theorem dX2_init_21 : decode cX2_init 21 = .ok (.bipush 6, 2) := by decide +kernel
theorem dX2_init_23 : decode cX2_init 23 = .ok (.bipush 12, 2) := by decide +kernel
theorem dX2_init_25 : decode cX2_init 25 = .ok (.multianewarray 18 2, 4) := by decide +kernel
theorem dX2_init_29 : decode cX2_init 29 = .ok (.putfield 20, 3) := by decide +kernel
theorem dX2_init_32 : decode cX2_init 32 = .ok (.aload_n 0, 1) := by decide +kernel
theorem dX2_init_33 : decode cX2_init 33 = .ok (.bipush 6, 2) := by decide +kernel
theorem dX2_init_35 : decode cX2_init 35 = .ok (.bipush 12, 2) := by decide +kernel
theorem dX2_init_37 : decode cX2_init 37 = .ok (.multianewarray 18 2, 4) := by decide +kernel
theorem dX2_init_41 : decode cX2_init 41 = .ok (.putfield 23, 3) := by decide +kernel
theorem dX2_init_44 : decode cX2_init 44 = .ok (.aload_n 0, 1) := by decide +kernel
theorem dX2_init_45 : decode cX2_init 45 = .ok (.bipush 6, 2) := by decide +kernel
theorem dX2_init_47 : decode cX2_init 47 = .ok (.newarray .int, 2) := by decide +kernel
theorem dX2_init_49 : decode cX2_init 49 = .ok (.putfield 26, 3) := by decide +kernel
theorem dX2_init_52 : decode cX2_init 52 = .ok (.aload_n 0, 1) := by decide +kernel
theorem dX2_init_53 : decode cX2_init 53 = .ok (.bipush 6, 2) := by decide +kernel
theorem dX2_init_55 : decode cX2_init 55 = .ok (.newarray .int, 2) := by decide +kernel
theorem dX2_init_57 : decode cX2_init 57 = .ok (.putfield 29, 3) := by decide +kernel
theorem dX2_init_60 : decode cX2_init 60 = .ok (.return_, 1) := by decide +kernel
theorem f0_X2 : ∀ j, j < 7 → defaultValue (tyX2 j) = vp_V [.int 0, .null, .null, .null, .null, .null, .null] j
  | 0, _ => rfl
  | 1, _ => rfl
  | 2, _ => rfl
  | 3, _ => rfl
  | 4, _ => rfl
  | 5, _ => rfl
  | 6, _ => rfl
  | i + 7, h => absurd h (by omega)
theorem nv_X2 : nYv yX2_init RX2 cX2_init 1 7 := ⟨⟨rfl, rfl, by decide, by decide, rfl⟩, wm_49, wm_47, wm_3, wm_50⟩
theorem nX2_init {l : Launch} : nMet l yX2_init cX2_init 1 1 18 180 LFl 6 [.int 0, .null, .null, .null, .null, .null, .null] (fun v => ∀ x, x < 169 → v x = 0) := by
  refine n_start (by decide +kernel) rfl wfFl (by decide) ?_
  intro p e s m args below meth c D E a v ls H locs hZ X hr hname hl hB
  have hx := X.1
  have hb := X.2.1
  have hB : gB D E LFl a v s 1 6 [.int 0, .null, .null, .null, .null, .null, .null] [] H locs := hB
  refine lv_aload_n hx hb dX2_init_0 rfl (lv_at hl 0 rfl) ?_
  refine g_obj X wm_51 hl.1 dX2_init_1 ⟨Nat.le_of_ble_eq_true rfl, Nat.le_of_ble_eq_true rfl⟩ ?_
  refine lv_aload_n hx hb dX2_init_4 rfl (lv_at hl 0 rfl) ?_
  refine lv_bipush (v := 6) hx hb dX2_init_5 (by decide) ?_
  refine g_newI X hB (atype := .int) (off := 1) (st := 0) lc_Fl_1 (by decide) wm_89 rfl rfl (fun j hj => hZ _ (by omega)) (by decide) (by decide) (by decide) ⟨Nat.le_of_ble_eq_true rfl, Nat.le_of_ble_eq_true rfl⟩ dX2_init_7 (fun H hB => ?_)
  have hB : gB D E LFl a v s 2 6 [.int 0, .null, .null, .null, .null, .null, .null] [] H locs := hB
  refine g_put X hname hB kl_X2 1 (by decide) (Or.inr rfl) rfl rfl (show 1 < 7 by decide) wm_58 dX2_init_9 (fun H locs hB => ?_)
  have hB : gB D E LFl a v s 2 6 [.int 0, .ref (a + 1), .null, .null, .null, .null, .null] [] H locs := hB
  refine lv_aload_n hx hb dX2_init_12 rfl (lv_at hl 0 rfl) ?_
  refine lv_bipush (v := 6) hx hb dX2_init_13 (by decide) ?_
  refine g_newI X hB (atype := .int) (off := 7) (st := 0) lc_Fl_2 (by decide) wm_89 rfl rfl (fun j hj => hZ _ (by omega)) (by decide) (by decide) (by decide) ⟨Nat.le_of_ble_eq_true rfl, Nat.le_of_ble_eq_true rfl⟩ dX2_init_15 (fun H hB => ?_)
  have hB : gB D E LFl a v s 3 6 [.int 0, .ref (a + 1), .null, .null, .null, .null, .null] [] H locs := hB
  refine g_put X hname hB kl_X2 2 (by decide) (Or.inr rfl) rfl rfl (show 2 < 7 by decide) wm_61 dX2_init_17 (fun H locs hB => ?_)
  have hB : gB D E LFl a v s 3 6 [.int 0, .ref (a + 1), .ref (a + 2), .null, .null, .null, .null] [] H locs := hB
  refine lv_aload_n hx hb dX2_init_20 rfl (lv_at hl 0 rfl) ?_
  refine lv_bipush (v := 6) hx hb dX2_init_21 (by decide) ?_
  refine lv_bipush (v := 12) hx hb dX2_init_23 (by decide) ?_
  refine g_newM X hB (N := 6) (M := 12) lc_Fl_3 (fun i => 13 + 12 * i) (fun i hi => ⟨0, by have h9 := lr_Fl_3 i hi; rw [show 4 + 1 * i = 3 + 1 + i by omega] at h9; exact h9, fun j hj => hZ _ (by omega)⟩) (by decide) (by decide) (by decide) (by decide) (by decide) (by decide) (by decide) wm_52 ⟨Nat.le_of_ble_eq_true rfl, Nat.le_of_ble_eq_true rfl⟩ dX2_init_25 (fun H hB => ?_)
  have hB : gB D E LFl a v s 10 6 [.int 0, .ref (a + 1), .ref (a + 2), .null, .null, .null, .null] [] H locs := hB
  refine g_put X hname hB kl_X2 3 (by decide) (Or.inr rfl) rfl rfl (show 3 < 7 by decide) wm_64 dX2_init_29 (fun H locs hB => ?_)
  have hB : gB D E LFl a v s 10 6 [.int 0, .ref (a + 1), .ref (a + 2), .ref (a + 3), .null, .null, .null] [] H locs := hB
  refine lv_aload_n hx hb dX2_init_32 rfl (lv_at hl 0 rfl) ?_
  refine lv_bipush (v := 6) hx hb dX2_init_33 (by decide) ?_
  refine lv_bipush (v := 12) hx hb dX2_init_35 (by decide) ?_
  refine g_newM X hB (N := 6) (M := 12) lc_Fl_10 (fun i => 85 + 12 * i) (fun i hi => ⟨0, by have h9 := lr_Fl_10 i hi; rw [show 11 + 1 * i = 10 + 1 + i by omega] at h9; exact h9, fun j hj => hZ _ (by omega)⟩) (by decide) (by decide) (by decide) (by decide) (by decide) (by decide) (by decide) wm_52 ⟨Nat.le_of_ble_eq_true rfl, Nat.le_of_ble_eq_true rfl⟩ dX2_init_37 (fun H hB => ?_)
  have hB : gB D E LFl a v s 17 6 [.int 0, .ref (a + 1), .ref (a + 2), .ref (a + 3), .null, .null, .null] [] H locs := hB
  refine g_put X hname hB kl_X2 4 (by decide) (Or.inr rfl) rfl rfl (show 4 < 7 by decide) wm_66 dX2_init_41 (fun H locs hB => ?_)
  have hB : gB D E LFl a v s 17 6 [.int 0, .ref (a + 1), .ref (a + 2), .ref (a + 3), .ref (a + 10), .null, .null] [] H locs := hB
  refine lv_aload_n hx hb dX2_init_44 rfl (lv_at hl 0 rfl) ?_
  refine lv_bipush (v := 6) hx hb dX2_init_45 (by decide) ?_
  refine g_newI X hB (atype := .int) (off := 157) (st := 0) lc_Fl_17 (by decide) wm_89 rfl rfl (fun j hj => hZ _ (by omega)) (by decide) (by decide) (by decide) ⟨Nat.le_of_ble_eq_true rfl, Nat.le_of_ble_eq_true rfl⟩ dX2_init_47 (fun H hB => ?_)
  have hB : gB D E LFl a v s 18 6 [.int 0, .ref (a + 1), .ref (a + 2), .ref (a + 3), .ref (a + 10), .null, .null] [] H locs := hB
  refine g_put X hname hB kl_X2 5 (by decide) (Or.inr rfl) rfl rfl (show 5 < 7 by decide) wm_68 dX2_init_49 (fun H locs hB => ?_)
  have hB : gB D E LFl a v s 18 6 [.int 0, .ref (a + 1), .ref (a + 2), .ref (a + 3), .ref (a + 10), .ref (a + 17), .null] [] H locs := hB
  refine lv_aload_n hx hb dX2_init_52 rfl (lv_at hl 0 rfl) ?_
  refine lv_bipush (v := 6) hx hb dX2_init_53 (by decide) ?_
  refine g_newI X hB (atype := .int) (off := 163) (st := 0) lc_Fl_18 (by decide) wm_89 rfl rfl (fun j hj => hZ _ (by omega)) (by decide) (by decide) (by decide) ⟨Nat.le_of_ble_eq_true rfl, Nat.le_of_ble_eq_true rfl⟩ dX2_init_55 (fun H hB => ?_)
  have hB : gB D E LFl a v s 19 6 [.int 0, .ref (a + 1), .ref (a + 2), .ref (a + 3), .ref (a + 10), .ref (a + 17), .null] [] H locs := hB
  refine g_put X hname hB kl_X2 6 (by decide) (Or.inr rfl) rfl rfl (show 6 < 7 by decide) wm_71 dX2_init_57 (fun H locs hB => ?_)
  have hB : gB D E LFl a v s 19 6 [.int 0, .ref (a + 1), .ref (a + 2), .ref (a + 3), .ref (a + 10), .ref (a + 17), .ref (a + 18)] [] H locs := hB
  exact g_vret X hr hB lenFl.symm lc_Fl_0 (by show [Value.int (v 0), Value.ref (a + 1), Value.ref (a + 2), Value.ref (a + 3), Value.ref (a + 10), Value.ref (a + 17), Value.ref (a + 18)] = _; rw [hZ 0 (by decide)]) (Nat.le_of_ble_eq_true rfl) (Nat.le_of_ble_eq_true rfl) dX2_init_60
theorem dX1_init_0 : decode cX1_init 0 = .ok (.aload_n 0, 1) := by decide +kernel
theorem dX1_init_1 : decode cX1_init 1 = .ok (.invokespecial 3, 3) := by decide +kernel
theorem dX1_init_4 : decode cX1_init 4 = .ok (.aload_n 0, 1) := by decide +kernel
theorem dX1_init_5 : decode cX1_init 5 = .ok (.bipush 6, 2) := by decide +kernel
theorem dX1_init_7 : decode cX1_init 7 = .ok (.newarray .int, 2) := by decide +kernel
theorem dX1_init_9 : decode cX1_init 9 = .ok (.putfield 9, 3) := by decide +kernel
theorem dX1_init_12 : decode cX1_init 12 = .ok (.aload_n 0, 1) := by decide +kernel
theorem dX1_init_13 : decode cX1_init 13 = .ok (.bipush 6, 2) := by decide +kernel
theorem dX1_init_15 : decode cX1_init 15 = .ok (.newarray .int, 2) := by decide +kernel
theorem dX1_init_17 : decode cX1_init 17 = .ok (.putfield 15, 3) := by decide +kernel
theorem dX1_init_20 : decode cX1_init 20 = .ok (.aload_n 0, 1) := by decide +kernel
theorem dX1_init_21 : decode cX1_init 21 = .ok (.bipush 6, 2) := by decide +kernel
theorem dX1_init_23 : decode cX1_init 23 = .ok (.newarray .int, 2) := by decide +kernel
theorem dX1_init_25 : decode cX1_init 25 = .ok (.putfield 18, 3) := by decide +kernel
theorem dX1_init_28 : decode cX1_init 28 = .ok (.aload_n 0, 1) := by decide +kernel
theorem dX1_init_29 : decode cX1_init 29 = .ok (.bipush 6, 2) := by decide +kernel
theorem dX1_init_31 : decode cX1_init 31 = .ok (.newarray .int, 2) := by decide +kernel
theorem dX1_init_33 : decode cX1_init 33 = .ok (.putfield 21, 3) := by decide +kernel
theorem dX1_init_36 : decode cX1_init 36 = .ok (.aload_n 0, 1) := by decide +kernel
theorem dX1_init_37 : decode cX1_init 37 = .ok (.bipush 6, 2) := by decide +kernel
theorem dX1_init_39 : decode cX1_init 39 = .ok (.newarray .int, 2) := by decide +kernel
theorem dX1_init_41 : decode cX1_init 41 = .ok (.putfield 24, 3) := by decide +kernel
theorem dX1_init_44 : decode cX1_init 44 = .ok (.aload_n 0, 1) := by decide +kernel
theorem dX1_init_45 : decode cX1_init 45 = .ok (.bipush 6, 2) := by decide +kernel
theorem dX1_init_47 : decode cX1_init 47 = .ok (.newarray .int, 2) := by decide +kernel
theorem dX1_init_49 : decode cX1_init 49 = .ok (.putfield 27, 3) := by decide +kernel
theorem dX1_init_52 : decode cX1_init 52 = .ok (.aload_n 0, 1) := by decide +kernel
theorem dX1_init_53 : decode cX1_init 53 = .ok (.bipush 6, 2) := by decide +kernel
theorem dX1_init_55 : decode cX1_init 55 = .ok (.bipush 6, 2) := by decide +kernel
theorem dX1_init_57 : decode cX1_init 57 = .ok (.multianewarray 30 2, 4) := by decide +kernel
theorem dX1_init_61 : decode cX1_init 61 = .ok (.putfield 32, 3) := by decide +kernel
theorem dX1_init_64 : decode cX1_init 64 = .ok (.return_, 1) := by decide +kernel
theorem f0_X1 : ∀ j, j < 8 → defaultValue (tyX1 j) = vp_V [.int 0, .null, .null, .null, .null, .null, .null, .null] j
  | 0, _ => rfl
  | 1, _ => rfl
  | 2, _ => rfl
  | 3, _ => rfl
  | 4, _ => rfl
  | 5, _ => rfl
  | 6, _ => rfl
  | 7, _ => rfl
  | i + 8, h => absurd h (by omega)
theorem nv_X1 : nYv yX1_init RX1 cX1_init 1 8 := ⟨⟨rfl, rfl, by decide, by decide, rfl⟩, wm_93, wm_91, wm_4, wm_94⟩
theorem nX1_init {l : Launch} : nMet l yX1_init cX1_init 1 1 13 78 LBr 5 [.int 0, .null, .null, .null, .null, .null, .null, .null] (fun v => ∀ x, x < 73 → v x = 0) := by
  refine n_start (by decide +kernel) rfl wfBr (by decide) ?_
  intro p e s m args below meth c D E a v ls H locs hZ X hr hname hl hB
  have hx := X.1
  have hb := X.2.1
  have hB : gB D E LBr a v s 1 5 [.int 0, .null, .null, .null, .null, .null, .null, .null] [] H locs := hB
  refine lv_aload_n hx hb dX1_init_0 rfl (lv_at hl 0 rfl) ?_
  refine g_obj X wm_95 hl.1 dX1_init_1 ⟨Nat.le_of_ble_eq_true rfl, Nat.le_of_ble_eq_true rfl⟩ ?_
  refine lv_aload_n hx hb dX1_init_4 rfl (lv_at hl 0 rfl) ?_
  refine lv_bipush (v := 6) hx hb dX1_init_5 (by decide) ?_
  refine g_newI X hB (atype := .int) (off := 1) (st := 0) lc_Br_1 (by decide) wm_89 rfl rfl (fun j hj => hZ _ (by omega)) (by decide) (by decide) (by decide) ⟨Nat.le_of_ble_eq_true rfl, Nat.le_of_ble_eq_true rfl⟩ dX1_init_7 (fun H hB => ?_)
  have hB : gB D E LBr a v s 2 5 [.int 0, .null, .null, .null, .null, .null, .null, .null] [] H locs := hB
  refine g_put X hname hB kl_X1 1 (by decide) (Or.inr rfl) rfl rfl (show 1 < 8 by decide) wm_101 dX1_init_9 (fun H locs hB => ?_)
  have hB : gB D E LBr a v s 2 5 [.int 0, .ref (a + 1), .null, .null, .null, .null, .null, .null] [] H locs := hB
  refine lv_aload_n hx hb dX1_init_12 rfl (lv_at hl 0 rfl) ?_
  refine lv_bipush (v := 6) hx hb dX1_init_13 (by decide) ?_
  refine g_newI X hB (atype := .int) (off := 7) (st := 0) lc_Br_2 (by decide) wm_89 rfl rfl (fun j hj => hZ _ (by omega)) (by decide) (by decide) (by decide) ⟨Nat.le_of_ble_eq_true rfl, Nat.le_of_ble_eq_true rfl⟩ dX1_init_15 (fun H hB => ?_)
  have hB : gB D E LBr a v s 3 5 [.int 0, .ref (a + 1), .null, .null, .null, .null, .null, .null] [] H locs := hB
  refine g_put X hname hB kl_X1 2 (by decide) (Or.inr rfl) rfl rfl (show 2 < 8 by decide) wm_104 dX1_init_17 (fun H locs hB => ?_)
  have hB : gB D E LBr a v s 3 5 [.int 0, .ref (a + 1), .ref (a + 2), .null, .null, .null, .null, .null] [] H locs := hB
  refine lv_aload_n hx hb dX1_init_20 rfl (lv_at hl 0 rfl) ?_
  refine lv_bipush (v := 6) hx hb dX1_init_21 (by decide) ?_
  refine g_newI X hB (atype := .int) (off := 13) (st := 0) lc_Br_3 (by decide) wm_89 rfl rfl (fun j hj => hZ _ (by omega)) (by decide) (by decide) (by decide) ⟨Nat.le_of_ble_eq_true rfl, Nat.le_of_ble_eq_true rfl⟩ dX1_init_23 (fun H hB => ?_)
  have hB : gB D E LBr a v s 4 5 [.int 0, .ref (a + 1), .ref (a + 2), .null, .null, .null, .null, .null] [] H locs := hB
  refine g_put X hname hB kl_X1 3 (by decide) (Or.inr rfl) rfl rfl (show 3 < 8 by decide) wm_107 dX1_init_25 (fun H locs hB => ?_)
  have hB : gB D E LBr a v s 4 5 [.int 0, .ref (a + 1), .ref (a + 2), .ref (a + 3), .null, .null, .null, .null] [] H locs := hB
  refine lv_aload_n hx hb dX1_init_28 rfl (lv_at hl 0 rfl) ?_
  refine lv_bipush (v := 6) hx hb dX1_init_29 (by decide) ?_
  refine g_newI X hB (atype := .int) (off := 19) (st := 0) lc_Br_4 (by decide) wm_89 rfl rfl (fun j hj => hZ _ (by omega)) (by decide) (by decide) (by decide) ⟨Nat.le_of_ble_eq_true rfl, Nat.le_of_ble_eq_true rfl⟩ dX1_init_31 (fun H hB => ?_)
  have hB : gB D E LBr a v s 5 5 [.int 0, .ref (a + 1), .ref (a + 2), .ref (a + 3), .null, .null, .null, .null] [] H locs := hB
  refine g_put X hname hB kl_X1 4 (by decide) (Or.inr rfl) rfl rfl (show 4 < 8 by decide) wm_110 dX1_init_33 (fun H locs hB => ?_)
  have hB : gB D E LBr a v s 5 5 [.int 0, .ref (a + 1), .ref (a + 2), .ref (a + 3), .ref (a + 4), .null, .null, .null] [] H locs := hB
  refine lv_aload_n hx hb dX1_init_36 rfl (lv_at hl 0 rfl) ?_
  refine lv_bipush (v := 6) hx hb dX1_init_37 (by decide) ?_
  refine g_newI X hB (atype := .int) (off := 25) (st := 0) lc_Br_5 (by decide) wm_89 rfl rfl (fun j hj => hZ _ (by omega)) (by decide) (by decide) (by decide) ⟨Nat.le_of_ble_eq_true rfl, Nat.le_of_ble_eq_true rfl⟩ dX1_init_39 (fun H hB => ?_)
  have hB : gB D E LBr a v s 6 5 [.int 0, .ref (a + 1), .ref (a + 2), .ref (a + 3), .ref (a + 4), .null, .null, .null] [] H locs := hB
  refine g_put X hname hB kl_X1 5 (by decide) (Or.inr rfl) rfl rfl (show 5 < 8 by decide) wm_111 dX1_init_41 (fun H locs hB => ?_)
  have hB : gB D E LBr a v s 6 5 [.int 0, .ref (a + 1), .ref (a + 2), .ref (a + 3), .ref (a + 4), .ref (a + 5), .null, .null] [] H locs := hB
  refine lv_aload_n hx hb dX1_init_44 rfl (lv_at hl 0 rfl) ?_
  refine lv_bipush (v := 6) hx hb dX1_init_45 (by decide) ?_
  refine g_newI X hB (atype := .int) (off := 31) (st := 0) lc_Br_6 (by decide) wm_89 rfl rfl (fun j hj => hZ _ (by omega)) (by decide) (by decide) (by decide) ⟨Nat.le_of_ble_eq_true rfl, Nat.le_of_ble_eq_true rfl⟩ dX1_init_47 (fun H hB => ?_)
  have hB : gB D E LBr a v s 7 5 [.int 0, .ref (a + 1), .ref (a + 2), .ref (a + 3), .ref (a + 4), .ref (a + 5), .null, .null] [] H locs := hB
  refine g_put X hname hB kl_X1 6 (by decide) (Or.inr rfl) rfl rfl (show 6 < 8 by decide) wm_114 dX1_init_49 (fun H locs hB => ?_)
  have hB : gB D E LBr a v s 7 5 [.int 0, .ref (a + 1), .ref (a + 2), .ref (a + 3), .ref (a + 4), .ref (a + 5), .ref (a + 6), .null] [] H locs := hB
  refine lv_aload_n hx hb dX1_init_52 rfl (lv_at hl 0 rfl) ?_
  refine lv_bipush (v := 6) hx hb dX1_init_53 (by decide) ?_
  refine lv_bipush (v := 6) hx hb dX1_init_55 (by decide) ?_
  refine g_newM X hB (N := 6) (M := 6) lc_Br_7 (fun i => 37 + 6 * i) (fun i hi => ⟨0, by have h9 := lr_Br_7 i hi; rw [show 8 + 1 * i = 7 + 1 + i by omega] at h9; exact h9, fun j hj => hZ _ (by omega)⟩) (by decide) (by decide) (by decide) (by decide) (by decide) (by decide) (by decide) wm_96 ⟨Nat.le_of_ble_eq_true rfl, Nat.le_of_ble_eq_true rfl⟩ dX1_init_57 (fun H hB => ?_)
  have hB : gB D E LBr a v s 14 5 [.int 0, .ref (a + 1), .ref (a + 2), .ref (a + 3), .ref (a + 4), .ref (a + 5), .ref (a + 6), .null] [] H locs := hB
  refine g_put X hname hB kl_X1 7 (by decide) (Or.inr rfl) rfl rfl (show 7 < 8 by decide) wm_116 dX1_init_61 (fun H locs hB => ?_)
  have hB : gB D E LBr a v s 14 5 [.int 0, .ref (a + 1), .ref (a + 2), .ref (a + 3), .ref (a + 4), .ref (a + 5), .ref (a + 6), .ref (a + 7)] [] H locs := hB
  exact g_vret X hr hB lenBr.symm lc_Br_0 (by show [Value.int (v 0), Value.ref (a + 1), Value.ref (a + 2), Value.ref (a + 3), Value.ref (a + 4), Value.ref (a + 5), Value.ref (a + 6), Value.ref (a + 7)] = _; rw [hZ 0 (by decide)]) (Nat.le_of_ble_eq_true rfl) (Nat.le_of_ble_eq_true rfl) dX1_init_64
theorem dX5_init_0 : decode cX5_init 0 = .ok (.aload_n 0, 1) := by decide +kernel
theorem dX5_init_1 : decode cX5_init 1 = .ok (.invokespecial 3, 3) := by decide +kernel
theorem dX5_init_4 : decode cX5_init 4 = .ok (.aload_n 0, 1) := by decide +kernel
theorem dX5_init_5 : decode cX5_init 5 = .ok (.iconst 3, 1) := by decide +kernel
theorem dX5_init_6 : decode cX5_init 6 = .ok (.newarray .int, 2) := by decide +kernel
theorem dX5_init_8 : decode cX5_init 8 = .ok (.putfield 9, 3) := by decide +kernel
theorem dX5_init_11 : decode cX5_init 11 = .ok (.aload_n 0, 1) := by decide +kernel
theorem dX5_init_12 : decode cX5_init 12 = .ok (.bipush 24, 2) := by decide +kernel
theorem dX5_init_14 : decode cX5_init 14 = .ok (.newarray .int, 2) := by decide +kernel
theorem dX5_init_16 : decode cX5_init 16 = .ok (.putfield 15, 3) := by decide +kernel
theorem dX5_init_19 : decode cX5_init 19 = .ok (.return_, 1) := by decide +kernel
theorem f0_X5 : ∀ j, j < 4 → defaultValue (tyX5 j) = vp_V [.int 0, .int 0, .null, .null] j
  | 0, _ => rfl
  | 1, _ => rfl
  | 2, _ => rfl
  | 3, _ => rfl
  | i + 4, h => absurd h (by omega)
theorem nv_X5 : nYv yX5_init RX5 cX5_init 1 4 := ⟨⟨rfl, rfl, by decide, by decide, rfl⟩, wm_139, wm_137, wm_5, wm_140⟩
theorem nX5_init {l : Launch} : nMet l yX5_init cX5_init 1 1 2 27 LOv 9 [.int 0, .int 0, .null, .null] (fun v => ∀ x, x < 29 → v x = 0) := by
  refine n_start (by decide +kernel) rfl wfOv (by decide) ?_
  intro p e s m args below meth c D E a v ls H locs hZ X hr hname hl hB
  have hx := X.1
  have hb := X.2.1
  have hB : gB D E LOv a v s 1 9 [.int 0, .int 0, .null, .null] [] H locs := hB
  refine lv_aload_n hx hb dX5_init_0 rfl (lv_at hl 0 rfl) ?_
  refine g_obj X wm_141 hl.1 dX5_init_1 ⟨Nat.le_of_ble_eq_true rfl, Nat.le_of_ble_eq_true rfl⟩ ?_
  refine lv_aload_n hx hb dX5_init_4 rfl (lv_at hl 0 rfl) ?_
  refine lv_iconst (v := 3) hx hb dX5_init_5 (by decide) ?_
  refine g_newI X hB (atype := .int) (off := 2) (st := 0) lc_Ov_1 (by decide) wm_89 rfl rfl (fun j hj => hZ _ (by omega)) (by decide) (by decide) (by decide) ⟨Nat.le_of_ble_eq_true rfl, Nat.le_of_ble_eq_true rfl⟩ dX5_init_6 (fun H hB => ?_)
  have hB : gB D E LOv a v s 2 9 [.int 0, .int 0, .null, .null] [] H locs := hB
  refine g_put X hname hB kl_X5 2 (by decide) (Or.inr rfl) rfl rfl (show 2 < 4 by decide) wm_147 dX5_init_8 (fun H locs hB => ?_)
  have hB : gB D E LOv a v s 2 9 [.int 0, .int 0, .ref (a + 1), .null] [] H locs := hB
  refine lv_aload_n hx hb dX5_init_11 rfl (lv_at hl 0 rfl) ?_
  refine lv_bipush (v := 24) hx hb dX5_init_12 (by decide) ?_
  refine g_newI X hB (atype := .int) (off := 5) (st := 0) lc_Ov_2 (by decide) wm_89 rfl rfl (fun j hj => hZ _ (by omega)) (by decide) (by decide) (by decide) ⟨Nat.le_of_ble_eq_true rfl, Nat.le_of_ble_eq_true rfl⟩ dX5_init_14 (fun H hB => ?_)
  have hB : gB D E LOv a v s 3 9 [.int 0, .int 0, .ref (a + 1), .null] [] H locs := hB
  refine g_put X hname hB kl_X5 3 (by decide) (Or.inr rfl) rfl rfl (show 3 < 4 by decide) wm_150 dX5_init_16 (fun H locs hB => ?_)
  have hB : gB D E LOv a v s 3 9 [.int 0, .int 0, .ref (a + 1), .ref (a + 2)] [] H locs := hB
  exact g_vret X hr hB lenOv.symm lc_Ov_0 (by show [Value.int (v 0), Value.int (v 1), Value.ref (a + 1), Value.ref (a + 2)] = _; rw [hZ 0 (by decide), hZ 1 (by decide)]) (Nat.le_of_ble_eq_true rfl) (Nat.le_of_ble_eq_true rfl) dX5_init_19
theorem dX0_init_0 : decode cX0_init 0 = .ok (.aload_n 0, 1) := by decide +kernel
theorem dX0_init_1 : decode cX0_init 1 = .ok (.invokespecial 3, 3) := by decide +kernel
theorem dX0_init_4 : decode cX0_init 4 = .ok (.aload_n 0, 1) := by decide +kernel
theorem dX0_init_5 : decode cX0_init 5 = .ok (.bipush 24, 2) := by decide +kernel
theorem dX0_init_7 : decode cX0_init 7 = .ok (.newarray .int, 2) := by decide +kernel
theorem dX0_init_9 : decode cX0_init 9 = .ok (.putfield 9, 3) := by decide +kernel
theorem dX0_init_12 : decode cX0_init 12 = .ok (.aload_n 0, 1) := by decide +kernel
theorem dX0_init_13 : decode cX0_init 13 = .ok (.bipush 24, 2) := by decide +kernel
theorem dX0_init_15 : decode cX0_init 15 = .ok (.newarray .int, 2) := by decide +kernel
theorem dX0_init_17 : decode cX0_init 17 = .ok (.putfield 15, 3) := by decide +kernel
theorem dX0_init_20 : decode cX0_init 20 = .ok (.aload_n 0, 1) := by decide +kernel
theorem dX0_init_21 : decode cX0_init 21 = .ok (.bipush 24, 2) := by decide +kernel
theorem dX0_init_23 : decode cX0_init 23 = .ok (.newarray .int, 2) := by decide +kernel
theorem dX0_init_25 : decode cX0_init 25 = .ok (.putfield 18, 3) := by decide +kernel
theorem dX0_init_28 : decode cX0_init 28 = .ok (.aload_n 0, 1) := by decide +kernel
theorem dX0_init_29 : decode cX0_init 29 = .ok (.bipush 24, 2) := by decide +kernel
theorem dX0_init_31 : decode cX0_init 31 = .ok (.newarray .int, 2) := by decide +kernel
theorem dX0_init_33 : decode cX0_init 33 = .ok (.putfield 21, 3) := by decide +kernel
theorem dX0_init_36 : decode cX0_init 36 = .ok (.aload_n 0, 1) := by decide +kernel
theorem dX0_init_37 : decode cX0_init 37 = .ok (.bipush 24, 2) := by decide +kernel
theorem dX0_init_39 : decode cX0_init 39 = .ok (.newarray .int, 2) := by decide +kernel
theorem dX0_init_41 : decode cX0_init 41 = .ok (.putfield 24, 3) := by decide +kernel
theorem dX0_init_44 : decode cX0_init 44 = .ok (.aload_n 0, 1) := by decide +kernel
theorem dX0_init_45 : decode cX0_init 45 = .ok (.bipush 24, 2) := by decide +kernel
theorem dX0_init_47 : decode cX0_init 47 = .ok (.newarray .int, 2) := by decide +kernel
theorem dX0_init_49 : decode cX0_init 49 = .ok (.putfield 27, 3) := by decide +kernel
theorem dX0_init_52 : decode cX0_init 52 = .ok (.aload_n 0, 1) := by decide +kernel
theorem dX0_init_53 : decode cX0_init 53 = .ok (.bipush 24, 2) := by decide +kernel
theorem dX0_init_55 : decode cX0_init 55 = .ok (.newarray .int, 2) := by decide +kernel
theorem dX0_init_57 : decode cX0_init 57 = .ok (.putfield 30, 3) := by decide +kernel
theorem dX0_init_60 : decode cX0_init 60 = .ok (.aload_n 0, 1) := by decide +kernel
theorem dX0_init_61 : decode cX0_init 61 = .ok (.bipush 24, 2) := by decide +kernel
theorem dX0_init_63 : decode cX0_init 63 = .ok (.newarray .int, 2) := by decide +kernel
theorem dX0_init_65 : decode cX0_init 65 = .ok (.putfield 33, 3) := by decide +kernel
theorem dX0_init_68 : decode cX0_init 68 = .ok (.aload_n 0, 1) := by decide +kernel
theorem dX0_init_69 : decode cX0_init 69 = .ok (.bipush 24, 2) := by decide +kernel
theorem dX0_init_71 : decode cX0_init 71 = .ok (.iconst 5, 1) := by decide +kernel
theorem dX0_init_72 : decode cX0_init 72 = .ok (.multianewarray 36 2, 4) := by decide +kernel
theorem dX0_init_76 : decode cX0_init 76 = .ok (.putfield 38, 3) := by decide +kernel
theorem dX0_init_79 : decode cX0_init 79 = .ok (.return_, 1) := by decide +kernel
theorem f0_X0 : ∀ j, j < 10 → defaultValue (tyX0 j) = vp_V [.int 0, .null, .null, .null, .null, .null, .null, .null, .null, .null] j
  | 0, _ => rfl
  | 1, _ => rfl
  | 2, _ => rfl
  | 3, _ => rfl
  | 4, _ => rfl
  | 5, _ => rfl
  | 6, _ => rfl
  | 7, _ => rfl
  | 8, _ => rfl
  | 9, _ => rfl
  | i + 10, h => absurd h (by omega)
theorem nv_X0 : nYv yX0_init RX0 cX0_init 1 10 := ⟨⟨rfl, rfl, by decide, by decide, rfl⟩, wm_165, wm_163, wm_6, wm_166⟩
theorem nX0_init {l : Launch} : nMet l yX0_init cX0_init 1 1 33 336 LBa 4 [.int 0, .null, .null, .null, .null, .null, .null, .null, .null, .null] (fun v => ∀ x, x < 313 → v x = 0) := by
  refine n_start (by decide +kernel) rfl wfBa (by decide) ?_
  intro p e s m args below meth c D E a v ls H locs hZ X hr hname hl hB
  have hx := X.1
  have hb := X.2.1
  have hB : gB D E LBa a v s 1 4 [.int 0, .null, .null, .null, .null, .null, .null, .null, .null, .null] [] H locs := hB
  refine lv_aload_n hx hb dX0_init_0 rfl (lv_at hl 0 rfl) ?_
  refine g_obj X wm_167 hl.1 dX0_init_1 ⟨Nat.le_of_ble_eq_true rfl, Nat.le_of_ble_eq_true rfl⟩ ?_
  refine lv_aload_n hx hb dX0_init_4 rfl (lv_at hl 0 rfl) ?_
  refine lv_bipush (v := 24) hx hb dX0_init_5 (by decide) ?_
  refine g_newI X hB (atype := .int) (off := 1) (st := 0) lc_Ba_1 (by decide) wm_89 rfl rfl (fun j hj => hZ _ (by omega)) (by decide) (by decide) (by decide) ⟨Nat.le_of_ble_eq_true rfl, Nat.le_of_ble_eq_true rfl⟩ dX0_init_7 (fun H hB => ?_)
  have hB : gB D E LBa a v s 2 4 [.int 0, .null, .null, .null, .null, .null, .null, .null, .null, .null] [] H locs := hB
  refine g_put X hname hB kl_X0 1 (by decide) (Or.inr rfl) rfl rfl (show 1 < 10 by decide) wm_172 dX0_init_9 (fun H locs hB => ?_)
  have hB : gB D E LBa a v s 2 4 [.int 0, .ref (a + 1), .null, .null, .null, .null, .null, .null, .null, .null] [] H locs := hB
  refine lv_aload_n hx hb dX0_init_12 rfl (lv_at hl 0 rfl) ?_
  refine lv_bipush (v := 24) hx hb dX0_init_13 (by decide) ?_
  refine g_newI X hB (atype := .int) (off := 25) (st := 0) lc_Ba_2 (by decide) wm_89 rfl rfl (fun j hj => hZ _ (by omega)) (by decide) (by decide) (by decide) ⟨Nat.le_of_ble_eq_true rfl, Nat.le_of_ble_eq_true rfl⟩ dX0_init_15 (fun H hB => ?_)
  have hB : gB D E LBa a v s 3 4 [.int 0, .ref (a + 1), .null, .null, .null, .null, .null, .null, .null, .null] [] H locs := hB
  refine g_put X hname hB kl_X0 2 (by decide) (Or.inr rfl) rfl rfl (show 2 < 10 by decide) wm_175 dX0_init_17 (fun H locs hB => ?_)
  have hB : gB D E LBa a v s 3 4 [.int 0, .ref (a + 1), .ref (a + 2), .null, .null, .null, .null, .null, .null, .null] [] H locs := hB
  refine lv_aload_n hx hb dX0_init_20 rfl (lv_at hl 0 rfl) ?_
  refine lv_bipush (v := 24) hx hb dX0_init_21 (by decide) ?_
  refine g_newI X hB (atype := .int) (off := 49) (st := 0) lc_Ba_3 (by decide) wm_89 rfl rfl (fun j hj => hZ _ (by omega)) (by decide) (by decide) (by decide) ⟨Nat.le_of_ble_eq_true rfl, Nat.le_of_ble_eq_true rfl⟩ dX0_init_23 (fun H hB => ?_)
  have hB : gB D E LBa a v s 4 4 [.int 0, .ref (a + 1), .ref (a + 2), .null, .null, .null, .null, .null, .null, .null] [] H locs := hB
  refine g_put X hname hB kl_X0 3 (by decide) (Or.inr rfl) rfl rfl (show 3 < 10 by decide) wm_178 dX0_init_25 (fun H locs hB => ?_)
  have hB : gB D E LBa a v s 4 4 [.int 0, .ref (a + 1), .ref (a + 2), .ref (a + 3), .null, .null, .null, .null, .null, .null] [] H locs := hB
  refine lv_aload_n hx hb dX0_init_28 rfl (lv_at hl 0 rfl) ?_
  refine lv_bipush (v := 24) hx hb dX0_init_29 (by decide) ?_
  refine g_newI X hB (atype := .int) (off := 73) (st := 0) lc_Ba_4 (by decide) wm_89 rfl rfl (fun j hj => hZ _ (by omega)) (by decide) (by decide) (by decide) ⟨Nat.le_of_ble_eq_true rfl, Nat.le_of_ble_eq_true rfl⟩ dX0_init_31 (fun H hB => ?_)
  have hB : gB D E LBa a v s 5 4 [.int 0, .ref (a + 1), .ref (a + 2), .ref (a + 3), .null, .null, .null, .null, .null, .null] [] H locs := hB
  refine g_put X hname hB kl_X0 4 (by decide) (Or.inr rfl) rfl rfl (show 4 < 10 by decide) wm_181 dX0_init_33 (fun H locs hB => ?_)
  have hB : gB D E LBa a v s 5 4 [.int 0, .ref (a + 1), .ref (a + 2), .ref (a + 3), .ref (a + 4), .null, .null, .null, .null, .null] [] H locs := hB
  refine lv_aload_n hx hb dX0_init_36 rfl (lv_at hl 0 rfl) ?_
  refine lv_bipush (v := 24) hx hb dX0_init_37 (by decide) ?_
  refine g_newI X hB (atype := .int) (off := 97) (st := 0) lc_Ba_5 (by decide) wm_89 rfl rfl (fun j hj => hZ _ (by omega)) (by decide) (by decide) (by decide) ⟨Nat.le_of_ble_eq_true rfl, Nat.le_of_ble_eq_true rfl⟩ dX0_init_39 (fun H hB => ?_)
  have hB : gB D E LBa a v s 6 4 [.int 0, .ref (a + 1), .ref (a + 2), .ref (a + 3), .ref (a + 4), .null, .null, .null, .null, .null] [] H locs := hB
  refine g_put X hname hB kl_X0 5 (by decide) (Or.inr rfl) rfl rfl (show 5 < 10 by decide) wm_184 dX0_init_41 (fun H locs hB => ?_)
  have hB : gB D E LBa a v s 6 4 [.int 0, .ref (a + 1), .ref (a + 2), .ref (a + 3), .ref (a + 4), .ref (a + 5), .null, .null, .null, .null] [] H locs := hB
  refine lv_aload_n hx hb dX0_init_44 rfl (lv_at hl 0 rfl) ?_
  refine lv_bipush (v := 24) hx hb dX0_init_45 (by decide) ?_
  refine g_newI X hB (atype := .int) (off := 121) (st := 0) lc_Ba_6 (by decide) wm_89 rfl rfl (fun j hj => hZ _ (by omega)) (by decide) (by decide) (by decide) ⟨Nat.le_of_ble_eq_true rfl, Nat.le_of_ble_eq_true rfl⟩ dX0_init_47 (fun H hB => ?_)
  have hB : gB D E LBa a v s 7 4 [.int 0, .ref (a + 1), .ref (a + 2), .ref (a + 3), .ref (a + 4), .ref (a + 5), .null, .null, .null, .null] [] H locs := hB
  refine g_put X hname hB kl_X0 6 (by decide) (Or.inr rfl) rfl rfl (show 6 < 10 by decide) wm_187 dX0_init_49 (fun H locs hB => ?_)
  have hB : gB D E LBa a v s 7 4 [.int 0, .ref (a + 1), .ref (a + 2), .ref (a + 3), .ref (a + 4), .ref (a + 5), .ref (a + 6), .null, .null, .null] [] H locs := hB
  refine lv_aload_n hx hb dX0_init_52 rfl (lv_at hl 0 rfl) ?_
  refine lv_bipush (v := 24) hx hb dX0_init_53 (by decide) ?_
  refine g_newI X hB (atype := .int) (off := 145) (st := 0) lc_Ba_7 (by decide) wm_89 rfl rfl (fun j hj => hZ _ (by omega)) (by decide) (by decide) (by decide) ⟨Nat.le_of_ble_eq_true rfl, Nat.le_of_ble_eq_true rfl⟩ dX0_init_55 (fun H hB => ?_)
  have hB : gB D E LBa a v s 8 4 [.int 0, .ref (a + 1), .ref (a + 2), .ref (a + 3), .ref (a + 4), .ref (a + 5), .ref (a + 6), .null, .null, .null] [] H locs := hB
  refine g_put X hname hB kl_X0 7 (by decide) (Or.inr rfl) rfl rfl (show 7 < 10 by decide) wm_190 dX0_init_57 (fun H locs hB => ?_)
  have hB : gB D E LBa a v s 8 4 [.int 0, .ref (a + 1), .ref (a + 2), .ref (a + 3), .ref (a + 4), .ref (a + 5), .ref (a + 6), .ref (a + 7), .null, .null] [] H locs := hB
  refine lv_aload_n hx hb dX0_init_60 rfl (lv_at hl 0 rfl) ?_
  refine lv_bipush (v := 24) hx hb dX0_init_61 (by decide) ?_
  refine g_newI X hB (atype := .int) (off := 169) (st := 0) lc_Ba_8 (by decide) wm_89 rfl rfl (fun j hj => hZ _ (by omega)) (by decide) (by decide) (by decide) ⟨Nat.le_of_ble_eq_true rfl, Nat.le_of_ble_eq_true rfl⟩ dX0_init_63 (fun H hB => ?_)
  have hB : gB D E LBa a v s 9 4 [.int 0, .ref (a + 1), .ref (a + 2), .ref (a + 3), .ref (a + 4), .ref (a + 5), .ref (a + 6), .ref (a + 7), .null, .null] [] H locs := hB
  refine g_put X hname hB kl_X0 8 (by decide) (Or.inr rfl) rfl rfl (show 8 < 10 by decide) wm_193 dX0_init_65 (fun H locs hB => ?_)
  have hB : gB D E LBa a v s 9 4 [.int 0, .ref (a + 1), .ref (a + 2), .ref (a + 3), .ref (a + 4), .ref (a + 5), .ref (a + 6), .ref (a + 7), .ref (a + 8), .null] [] H locs := hB
  refine lv_aload_n hx hb dX0_init_68 rfl (lv_at hl 0 rfl) ?_
  refine lv_bipush (v := 24) hx hb dX0_init_69 (by decide) ?_
  refine lv_iconst (v := 5) hx hb dX0_init_71 (by decide) ?_
  refine g_newM X hB (N := 24) (M := 5) lc_Ba_9 (fun i => 193 + 5 * i) (fun i hi => ⟨0, by have h9 := lr_Ba_9 i hi; rw [show 10 + 1 * i = 9 + 1 + i by omega] at h9; exact h9, fun j hj => hZ _ (by omega)⟩) (by decide) (by decide) (by decide) (by decide) (by decide) (by decide) (by decide) wm_168 ⟨Nat.le_of_ble_eq_true rfl, Nat.le_of_ble_eq_true rfl⟩ dX0_init_72 (fun H hB => ?_)
  have hB : gB D E LBa a v s 34 4 [.int 0, .ref (a + 1), .ref (a + 2), .ref (a + 3), .ref (a + 4), .ref (a + 5), .ref (a + 6), .ref (a + 7), .ref (a + 8), .null] [] H locs := hB
  refine g_put X hname hB kl_X0 9 (by decide) (Or.inr rfl) rfl rfl (show 9 < 10 by decide) wm_196 dX0_init_76 (fun H locs hB => ?_)
  have hB : gB D E LBa a v s 34 4 [.int 0, .ref (a + 1), .ref (a + 2), .ref (a + 3), .ref (a + 4), .ref (a + 5), .ref (a + 6), .ref (a + 7), .ref (a + 8), .ref (a + 9)] [] H locs := hB
  exact g_vret X hr hB lenBa.symm lc_Ba_0 (by show [Value.int (v 0), Value.ref (a + 1), Value.ref (a + 2), Value.ref (a + 3), Value.ref (a + 4), Value.ref (a + 5), Value.ref (a + 6), Value.ref (a + 7), Value.ref (a + 8), Value.ref (a + 9)] = _; rw [hZ 0 (by decide)]) (Nat.le_of_ble_eq_true rfl) (Nat.le_of_ble_eq_true rfl) dX0_init_79
theorem dX7_init_0 : decode cX7_init 0 = .ok (.aload_n 0, 1) := by decide +kernel
theorem dX7_init_1 : decode cX7_init 1 = .ok (.invokespecial 3, 3) := by decide +kernel
theorem dX7_init_4 : decode cX7_init 4 = .ok (.aload_n 0, 1) := by decide +kernel
theorem dX7_init_5 : decode cX7_init 5 = .ok (.sipush 700, 3) := by decide +kernel
theorem dX7_init_8 : decode cX7_init 8 = .ok (.newarray .int, 2) := by decide +kernel
theorem dX7_init_10 : decode cX7_init 10 = .ok (.putfield 9, 3) := by decide +kernel
theorem dX7_init_13 : decode cX7_init 13 = .ok (.aload_n 0, 1) := by decide +kernel
theorem dX7_init_14 : decode cX7_init 14 = .ok (.sipush 701, 3) := by decide +kernel
theorem dX7_init_17 : decode cX7_init 17 = .ok (.newarray .int, 2) := by decide +kernel
theorem dX7_init_19 : decode cX7_init 19 = .ok (.putfield 15, 3) := by decide +kernel
theorem dX7_init_22 : decode cX7_init 22 = .ok (.aload_n 0, 1) := by decide +kernel
theorem dX7_init_23 : decode cX7_init 23 = .ok (.sipush 701, 3) := by decide +kernel
theorem dX7_init_26 : decode cX7_init 26 = .ok (.newarray .int, 2) := by decide +kernel
theorem dX7_init_28 : decode cX7_init 28 = .ok (.putfield 18, 3) := by decide +kernel
theorem dX7_init_31 : decode cX7_init 31 = .ok (.aload_n 0, 1) := by decide +kernel
theorem dX7_init_32 : decode cX7_init 32 = .ok (.sipush 701, 3) := by decide +kernel
theorem dX7_init_35 : decode cX7_init 35 = .ok (.newarray .int, 2) := by decide +kernel
theorem dX7_init_37 : decode cX7_init 37 = .ok (.putfield 21, 3) := by decide +kernel
theorem dX7_init_40 : decode cX7_init 40 = .ok (.return_, 1) := by decide +kernel
theorem f0_X7 : ∀ j, j < 7 → defaultValue (tyX7 j) = vp_V [.int 0, .int 0, .int 0, .null, .null, .null, .null] j
  | 0, _ => rfl
  | 1, _ => rfl
  | 2, _ => rfl
  | 3, _ => rfl
  | 4, _ => rfl
  | 5, _ => rfl
  | 6, _ => rfl
  | i + 7, h => absurd h (by omega)
theorem nv_X7 : nYv yX7_init RX7 cX7_init 1 7 := ⟨⟨rfl, rfl, by decide, by decide, rfl⟩, wm_292, wm_290, wm_9, wm_293⟩
theorem nX7_init {l : Launch} : nMet l yX7_init cX7_init 1 1 4 2803 LTx 11 [.int 0, .int 0, .int 0, .null, .null, .null, .null] (fun v => ∀ x, x < 2806 → v x = 0) := by
  refine n_start (by decide +kernel) rfl wfTx (by decide) ?_
  intro p e s m args below meth c D E a v ls H locs hZ X hr hname hl hB
  have hx := X.1
  have hb := X.2.1
  have hB : gB D E LTx a v s 1 11 [.int 0, .int 0, .int 0, .null, .null, .null, .null] [] H locs := hB
  refine lv_aload_n hx hb dX7_init_0 rfl (lv_at hl 0 rfl) ?_
  refine g_obj X wm_294 hl.1 dX7_init_1 ⟨Nat.le_of_ble_eq_true rfl, Nat.le_of_ble_eq_true rfl⟩ ?_
  refine lv_aload_n hx hb dX7_init_4 rfl (lv_at hl 0 rfl) ?_
  refine lv_sipush (v := 700) hx hb dX7_init_5 (by decide) ?_
  refine g_newI X hB (atype := .int) (off := 3) (st := 0) lc_Tx_1 (by decide) wm_89 rfl rfl (fun j hj => hZ _ (by omega)) (by decide) (by decide) (by decide) ⟨Nat.le_of_ble_eq_true rfl, Nat.le_of_ble_eq_true rfl⟩ dX7_init_8 (fun H hB => ?_)
  have hB : gB D E LTx a v s 2 11 [.int 0, .int 0, .int 0, .null, .null, .null, .null] [] H locs := hB
  refine g_put X hname hB kl_X7 3 (by decide) (Or.inr rfl) rfl rfl (show 3 < 7 by decide) wm_299 dX7_init_10 (fun H locs hB => ?_)
  have hB : gB D E LTx a v s 2 11 [.int 0, .int 0, .int 0, .ref (a + 1), .null, .null, .null] [] H locs := hB
  refine lv_aload_n hx hb dX7_init_13 rfl (lv_at hl 0 rfl) ?_
  refine lv_sipush (v := 701) hx hb dX7_init_14 (by decide) ?_
  refine g_newI X hB (atype := .int) (off := 703) (st := 0) lc_Tx_2 (by decide) wm_89 rfl rfl (fun j hj => hZ _ (by omega)) (by decide) (by decide) (by decide) ⟨Nat.le_of_ble_eq_true rfl, Nat.le_of_ble_eq_true rfl⟩ dX7_init_17 (fun H hB => ?_)
  have hB : gB D E LTx a v s 3 11 [.int 0, .int 0, .int 0, .ref (a + 1), .null, .null, .null] [] H locs := hB
  refine g_put X hname hB kl_X7 4 (by decide) (Or.inr rfl) rfl rfl (show 4 < 7 by decide) wm_300 dX7_init_19 (fun H locs hB => ?_)
  have hB : gB D E LTx a v s 3 11 [.int 0, .int 0, .int 0, .ref (a + 1), .ref (a + 2), .null, .null] [] H locs := hB
  refine lv_aload_n hx hb dX7_init_22 rfl (lv_at hl 0 rfl) ?_
  refine lv_sipush (v := 701) hx hb dX7_init_23 (by decide) ?_
  refine g_newI X hB (atype := .int) (off := 1404) (st := 0) lc_Tx_3 (by decide) wm_89 rfl rfl (fun j hj => hZ _ (by omega)) (by decide) (by decide) (by decide) ⟨Nat.le_of_ble_eq_true rfl, Nat.le_of_ble_eq_true rfl⟩ dX7_init_26 (fun H hB => ?_)
  have hB : gB D E LTx a v s 4 11 [.int 0, .int 0, .int 0, .ref (a + 1), .ref (a + 2), .null, .null] [] H locs := hB
  refine g_put X hname hB kl_X7 5 (by decide) (Or.inr rfl) rfl rfl (show 5 < 7 by decide) wm_301 dX7_init_28 (fun H locs hB => ?_)
  have hB : gB D E LTx a v s 4 11 [.int 0, .int 0, .int 0, .ref (a + 1), .ref (a + 2), .ref (a + 3), .null] [] H locs := hB
  refine lv_aload_n hx hb dX7_init_31 rfl (lv_at hl 0 rfl) ?_
  refine lv_sipush (v := 701) hx hb dX7_init_32 (by decide) ?_
  refine g_newI X hB (atype := .int) (off := 2105) (st := 0) lc_Tx_4 (by decide) wm_89 rfl rfl (fun j hj => hZ _ (by omega)) (by decide) (by decide) (by decide) ⟨Nat.le_of_ble_eq_true rfl, Nat.le_of_ble_eq_true rfl⟩ dX7_init_35 (fun H hB => ?_)
  have hB : gB D E LTx a v s 5 11 [.int 0, .int 0, .int 0, .ref (a + 1), .ref (a + 2), .ref (a + 3), .null] [] H locs := hB
  refine g_put X hname hB kl_X7 6 (by decide) (Or.inr rfl) rfl rfl (show 6 < 7 by decide) wm_302 dX7_init_37 (fun H locs hB => ?_)
  have hB : gB D E LTx a v s 5 11 [.int 0, .int 0, .int 0, .ref (a + 1), .ref (a + 2), .ref (a + 3), .ref (a + 4)] [] H locs := hB
  exact g_vret X hr hB lenTx.symm lc_Tx_0 (by show [Value.int (v 0), Value.int (v 1), Value.int (v 2), Value.ref (a + 1), Value.ref (a + 2), Value.ref (a + 3), Value.ref (a + 4)] = _; rw [hZ 0 (by decide), hZ 1 (by decide), hZ 2 (by decide)]) (Nat.le_of_ble_eq_true rfl) (Nat.le_of_ble_eq_true rfl) dX7_init_40
theorem dX6_init_0 : decode cX6_init 0 = .ok (.aload_n 0, 1) := by decide +kernel
theorem dX6_init_1 : decode cX6_init 1 = .ok (.invokespecial 3, 3) := by decide +kernel
theorem dX6_init_4 : decode cX6_init 4 = .ok (.aload_n 0, 1) := by decide +kernel
theorem dX6_init_5 : decode cX6_init 5 = .ok (.new 9, 3) := by decide +kernel
theorem dX6_init_8 : decode cX6_init 8 = .ok (.dup, 1) := by decide +kernel
theorem dX6_init_9 : decode cX6_init 9 = .ok (.invokespecial 11, 3) := by decide +kernel
theorem dX6_init_12 : decode cX6_init 12 = .ok (.putfield 12, 3) := by decide +kernel
theorem dX6_init_15 : decode cX6_init 15 = .ok (.aload_n 0, 1) := by decide +kernel
theorem dX6_init_16 : decode cX6_init 16 = .ok (.new 18, 3) := by decide +kernel
theorem dX6_init_19 : decode cX6_init 19 = .ok (.dup, 1) := by decide +kernel
theorem dX6_init_20 : decode cX6_init 20 = .ok (.invokespecial 20, 3) := by decide +kernel
theorem dX6_init_23 : decode cX6_init 23 = .ok (.putfield 21, 3) := by decide +kernel
theorem dX6_init_26 : decode cX6_init 26 = .ok (.aload_n 0, 1) := by decide +kernel
theorem dX6_init_27 : decode cX6_init 27 = .ok (.new 25, 3) := by decide +kernel
theorem dX6_init_30 : decode cX6_init 30 = .ok (.dup, 1) := by decide +kernel
theorem dX6_init_31 : decode cX6_init 31 = .ok (.invokespecial 27, 3) := by decide +kernel
theorem dX6_init_34 : decode cX6_init 34 = .ok (.putfield 28, 3) := by decide +kernel
theorem dX6_init_37 : decode cX6_init 37 = .ok (.aload_n 0, 1) := by decide +kernel
theorem dX6_init_38 : decode cX6_init 38 = .ok (.new 32, 3) := by decide +kernel
theorem dX6_init_41 : decode cX6_init 41 = .ok (.dup, 1) := by decide +kernel
theorem dX6_init_42 : decode cX6_init 42 = .ok (.invokespecial 34, 3) := by decide +kernel
theorem dX6_init_45 : decode cX6_init 45 = .ok (.putfield 35, 3) := by decide +kernel
theorem dX6_init_48 : decode cX6_init 48 = .ok (.return_, 1) := by decide +kernel
theorem f0_X6 : ∀ j, j < 10 → defaultValue (tyX6 j) = vp_V [.int 0, .int 0, .int 0, .int 0, .int 0, .int 0, .null, .null, .null, .null] j
  | 0, _ => rfl
  | 1, _ => rfl
  | 2, _ => rfl
  | 3, _ => rfl
  | 4, _ => rfl
  | 5, _ => rfl
  | 6, _ => rfl
  | 7, _ => rfl
  | 8, _ => rfl
  | 9, _ => rfl
  | i + 10, h => absurd h (by omega)
theorem nv_X6 : nYv yX6_init RX6 cX6_init 1 10 := ⟨⟨rfl, rfl, by decide, by decide, rfl⟩, wm_43, wm_41, wm_2, wm_44⟩
theorem nX6_init {l : Launch} : nMet l yX6_init cX6_init 1 2 70 650 LSt 10 [.int 0, .int 0, .int 0, .int 0, .int 0, .int 0, .null, .null, .null, .null] (fun v => ∀ x, x < 590 → v x = 0) := by
  refine n_start (by decide +kernel) rfl wfSt (by decide) ?_
  intro p e s m args below meth c D E a v ls H locs hZ X hr hname hl hB
  have hx := X.1
  have hb := X.2.1
  have hB : gB D E LSt a v s 1 10 [.int 0, .int 0, .int 0, .int 0, .int 0, .int 0, .null, .null, .null, .null] [] H locs := hB
  refine lv_aload_n hx hb dX6_init_0 rfl (lv_at hl 0 rfl) ?_
  refine g_obj X wm_45 hl.1 dX6_init_1 ⟨Nat.le_of_ble_eq_true rfl, Nat.le_of_ble_eq_true rfl⟩ ?_
  refine lv_aload_n hx hb dX6_init_4 rfl (lv_at hl 0 rfl) ?_
  refine g_new X hB nX2_init nv_X2 kl_X2 f0_X2 sub_St_1 (fun x hx => hZ (6 + x) (by omega)) wm_46 (Or.inl (List.mem_of_getElem? (i := 1) rfl)) ⟨Nat.le_of_ble_eq_true rfl, Nat.le_of_ble_eq_true rfl⟩ hl.1 (Nat.le_of_ble_eq_true rfl) ⟨Nat.le_of_ble_eq_true rfl, Nat.le_of_ble_eq_true rfl⟩ dX6_init_5 dX6_init_8 dX6_init_9 (fun H locs hB => ?_)
  have hB : gB D E LSt a v s 20 10 [.int 0, .int 0, .int 0, .int 0, .int 0, .int 0, .null, .null, .null, .null] [] H locs := hB
  refine g_put X hname hB kl_X6 6 (by decide) (Or.inr rfl) rfl rfl (show 6 < 10 by decide) wm_231 dX6_init_12 (fun H locs hB => ?_)
  have hB : gB D E LSt a v s 20 10 [.int 0, .int 0, .int 0, .int 0, .int 0, .int 0, .ref (a + 1), .null, .null, .null] [] H locs := hB
  refine lv_aload_n hx hb dX6_init_15 rfl (lv_at hl 0 rfl) ?_
  refine g_new X hB nX1_init nv_X1 kl_X1 f0_X1 sub_St_20 (fun x hx => hZ (175 + x) (by omega)) wm_90 (Or.inl (List.mem_of_getElem? (i := 2) rfl)) ⟨Nat.le_of_ble_eq_true rfl, Nat.le_of_ble_eq_true rfl⟩ hl.1 (Nat.le_of_ble_eq_true rfl) ⟨Nat.le_of_ble_eq_true rfl, Nat.le_of_ble_eq_true rfl⟩ dX6_init_16 dX6_init_19 dX6_init_20 (fun H locs hB => ?_)
  have hB : gB D E LSt a v s 34 10 [.int 0, .int 0, .int 0, .int 0, .int 0, .int 0, .ref (a + 1), .null, .null, .null] [] H locs := hB
  refine g_put X hname hB kl_X6 7 (by decide) (Or.inr rfl) rfl rfl (show 7 < 10 by decide) wm_234 dX6_init_23 (fun H locs hB => ?_)
  have hB : gB D E LSt a v s 34 10 [.int 0, .int 0, .int 0, .int 0, .int 0, .int 0, .ref (a + 1), .ref (a + 20), .null, .null] [] H locs := hB
  refine lv_aload_n hx hb dX6_init_26 rfl (lv_at hl 0 rfl) ?_
  refine g_new X hB nX5_init nv_X5 kl_X5 f0_X5 sub_St_34 (fun x hx => hZ (248 + x) (by omega)) wm_136 (Or.inl (List.mem_of_getElem? (i := 3) rfl)) ⟨Nat.le_of_ble_eq_true rfl, Nat.le_of_ble_eq_true rfl⟩ hl.1 (Nat.le_of_ble_eq_true rfl) ⟨Nat.le_of_ble_eq_true rfl, Nat.le_of_ble_eq_true rfl⟩ dX6_init_27 dX6_init_30 dX6_init_31 (fun H locs hB => ?_)
  have hB : gB D E LSt a v s 37 10 [.int 0, .int 0, .int 0, .int 0, .int 0, .int 0, .ref (a + 1), .ref (a + 20), .null, .null] [] H locs := hB
  refine g_put X hname hB kl_X6 8 (by decide) (Or.inr rfl) rfl rfl (show 8 < 10 by decide) wm_237 dX6_init_34 (fun H locs hB => ?_)
  have hB : gB D E LSt a v s 37 10 [.int 0, .int 0, .int 0, .int 0, .int 0, .int 0, .ref (a + 1), .ref (a + 20), .ref (a + 34), .null] [] H locs := hB
  refine lv_aload_n hx hb dX6_init_37 rfl (lv_at hl 0 rfl) ?_
  refine g_new X hB nX0_init nv_X0 kl_X0 f0_X0 sub_St_37 (fun x hx => hZ (277 + x) (by omega)) wm_162 (Or.inl (List.mem_of_getElem? (i := 4) rfl)) ⟨Nat.le_of_ble_eq_true rfl, Nat.le_of_ble_eq_true rfl⟩ hl.1 (Nat.le_of_ble_eq_true rfl) ⟨Nat.le_of_ble_eq_true rfl, Nat.le_of_ble_eq_true rfl⟩ dX6_init_38 dX6_init_41 dX6_init_42 (fun H locs hB => ?_)
  have hB : gB D E LSt a v s 71 10 [.int 0, .int 0, .int 0, .int 0, .int 0, .int 0, .ref (a + 1), .ref (a + 20), .ref (a + 34), .null] [] H locs := hB
  refine g_put X hname hB kl_X6 9 (by decide) (Or.inr rfl) rfl rfl (show 9 < 10 by decide) wm_240 dX6_init_45 (fun H locs hB => ?_)
  have hB : gB D E LSt a v s 71 10 [.int 0, .int 0, .int 0, .int 0, .int 0, .int 0, .ref (a + 1), .ref (a + 20), .ref (a + 34), .ref (a + 37)] [] H locs := hB
  exact g_vret X hr hB lenSt.symm lc_St_0 (by show [Value.int (v 0), Value.int (v 1), Value.int (v 2), Value.int (v 3), Value.int (v 4), Value.int (v 5), Value.ref (a + 1), Value.ref (a + 20), Value.ref (a + 34), Value.ref (a + 37)] = _; rw [hZ 0 (by decide), hZ 1 (by decide), hZ 2 (by decide), hZ 3 (by decide), hZ 4 (by decide), hZ 5 (by decide)]) (Nat.le_of_ble_eq_true rfl) (Nat.le_of_ble_eq_true rfl) dX6_init_48
def LIn : List bC := .inl (8, [(1, 1), (0, 0), (0, 1), (0, 2), (2, 3), (0, 4), (0, 5), (0, 6), (1, 6)]) :: (LTx.map (bSh 1 7) ++ [.inr (0, 3, 2813, 0)])
theorem lenIn : LIn.length = 7 := by decide +kernel
theorem wfIn : bWf LIn := by unfold bWf; decide +kernel
theorem lc_In_0 : LIn[0]? = some (.inl (8, [(1, 1), (0, 0), (0, 1), (0, 2), (2, 3), (0, 4), (0, 5), (0, 6), (1, 6)])) := by decide +kernel
theorem lc_In_6 : LIn[6]? = some (.inr (0, 3, 2813, 0)) := by decide +kernel
theorem sub_In_1 : bSub LIn 1 7 2806 LTx := by unfold bSub bWf; decide +kernel
theorem bV_null {a : Nat} {v : bM} {k : Nat} (h : v k = -1) : bV a v (2, k) = .null := by
  unfold bV
  rw [if_neg (show ¬ (2 : Nat) = 0 by decide), if_neg (show ¬ (2 : Nat) = 1 by decide)]
  exact if_pos (show v k < 0 by rw [h]; decide)
theorem dX4_init_0 : decode cX4_init 0 = .ok (.aload_n 0, 1) := by decide +kernel
theorem dX4_init_1 : decode cX4_init 1 = .ok (.invokespecial 3, 3) := by decide +kernel
theorem dX4_init_4 : decode cX4_init 4 = .ok (.aload_n 0, 1) := by decide +kernel
theorem dX4_init_5 : decode cX4_init 5 = .ok (.new 9, 3) := by decide +kernel
theorem dX4_init_8 : decode cX4_init 8 = .ok (.dup, 1) := by decide +kernel
theorem dX4_init_9 : decode cX4_init 9 = .ok (.invokespecial 11, 3) := by decide +kernel
theorem dX4_init_12 : decode cX4_init 12 = .ok (.putfield 12, 3) := by decide +kernel
theorem dX4_init_15 : decode cX4_init 15 = .ok (.aload_n 0, 1) := by decide +kernel
theorem dX4_init_16 : decode cX4_init 16 = .ok (.iconst (-1), 1) := by decide +kernel
theorem dX4_init_17 : decode cX4_init 17 = .ok (.putfield 18, 3) := by decide +kernel
theorem dX4_init_20 : decode cX4_init 20 = .ok (.aload_n 0, 1) := by decide +kernel
theorem dX4_init_21 : decode cX4_init 21 = .ok (.iconst 3, 1) := by decide +kernel
theorem dX4_init_22 : decode cX4_init 22 = .ok (.newarray .int, 2) := by decide +kernel
theorem dX4_init_24 : decode cX4_init 24 = .ok (.putfield 22, 3) := by decide +kernel
theorem dX4_init_27 : decode cX4_init 27 = .ok (.return_, 1) := by decide +kernel
theorem f0_X4 : ∀ j, j < 9 → defaultValue (tyX4 j) = vp_V [.null, .int 0, .int 0, .int 0, .null, .int 0, .int 0, .int 0, .null] j
  | 0, _ => rfl
  | 1, _ => rfl
  | 2, _ => rfl
  | 3, _ => rfl
  | 4, _ => rfl
  | 5, _ => rfl
  | 6, _ => rfl
  | 7, _ => rfl
  | 8, _ => rfl
  | i + 9, h => absurd h (by omega)
theorem nv_X4 : nYv yX4_init RX4 cX4_init 1 9 := ⟨⟨rfl, rfl, by decide, by decide, rfl⟩, wm_286, wm_284, wm_8, wm_287⟩
theorem nX4_init {l : Launch} : nMet l yX4_init cX4_init 1 2 6 2813 LIn 8 [.null, .int 0, .int 0, .int 0, .null, .int 0, .int 0, .int 0, .null] (fun v => v 1 = -1 ∧ v 3 = -1 ∧ ∀ x, x < 2816 → x ≠ 1 → x ≠ 3 → v x = 0) := by
  refine n_start (by decide +kernel) rfl wfIn (by decide) ?_
  intro p e s m args below meth c D E a v ls H locs hZ X hr hname hl hB
  have hx := X.1
  have hb := X.2.1
  have hB : gB D E LIn a v s 1 8 [.null, .int 0, .int 0, .int 0, .null, .int 0, .int 0, .int 0, .null] [] H locs := hB
  refine lv_aload_n hx hb dX4_init_0 rfl (lv_at hl 0 rfl) ?_
  refine g_obj X wm_288 hl.1 dX4_init_1 ⟨Nat.le_of_ble_eq_true rfl, Nat.le_of_ble_eq_true rfl⟩ ?_
  refine lv_aload_n hx hb dX4_init_4 rfl (lv_at hl 0 rfl) ?_
  refine g_new X hB nX7_init nv_X7 kl_X7 f0_X7 sub_In_1 (fun x hx => hZ.2.2 (7 + x) (by omega) (by omega) (by omega)) wm_289 (Or.inl (List.mem_of_getElem? (i := 7) rfl)) ⟨Nat.le_of_ble_eq_true rfl, Nat.le_of_ble_eq_true rfl⟩ hl.1 (Nat.le_of_ble_eq_true rfl) ⟨Nat.le_of_ble_eq_true rfl, Nat.le_of_ble_eq_true rfl⟩ dX4_init_5 dX4_init_8 dX4_init_9 (fun H locs hB => ?_)
  have hB : gB D E LIn a v s 6 8 [.null, .int 0, .int 0, .int 0, .null, .int 0, .int 0, .int 0, .null] [] H locs := hB
  refine g_put X hname hB kl_X4 0 (by decide) (Or.inr rfl) rfl rfl (show 0 < 9 by decide) wm_319 dX4_init_12 (fun H locs hB => ?_)
  have hB : gB D E LIn a v s 6 8 [.ref (a + 1), .int 0, .int 0, .int 0, .null, .int 0, .int 0, .int 0, .null] [] H locs := hB
  refine lv_aload_n hx hb dX4_init_15 rfl (lv_at hl 0 rfl) ?_
  refine lv_iconst (v := (-1)) hx hb dX4_init_16 (by decide) ?_
  refine g_put X hname hB kl_X4 2 (by decide) (Or.inr rfl) rfl rfl (show 2 < 9 by decide) wm_323 dX4_init_17 (fun H locs hB => ?_)
  have hB : gB D E LIn a v s 6 8 [.ref (a + 1), .int 0, .int (-1), .int 0, .null, .int 0, .int 0, .int 0, .null] [] H locs := hB
  refine lv_aload_n hx hb dX4_init_20 rfl (lv_at hl 0 rfl) ?_
  refine lv_iconst (v := 3) hx hb dX4_init_21 (by decide) ?_
  refine g_newI X hB (atype := .int) (off := 2813) (st := 0) lc_In_6 (by decide) wm_89 rfl rfl (fun j hj => hZ.2.2 _ (by omega) (by omega) (by omega)) (by decide) (by decide) (by decide) ⟨Nat.le_of_ble_eq_true rfl, Nat.le_of_ble_eq_true rfl⟩ dX4_init_22 (fun H hB => ?_)
  have hB : gB D E LIn a v s 7 8 [.ref (a + 1), .int 0, .int (-1), .int 0, .null, .int 0, .int 0, .int 0, .null] [] H locs := hB
  refine g_put X hname hB kl_X4 8 (by decide) (Or.inr rfl) rfl rfl (show 8 < 9 by decide) wm_331 dX4_init_24 (fun H locs hB => ?_)
  have hB : gB D E LIn a v s 7 8 [.ref (a + 1), .int 0, .int (-1), .int 0, .null, .int 0, .int 0, .int 0, .ref (a + 6)] [] H locs := hB
  exact g_vret X hr hB lenIn.symm lc_In_0 (by show [Value.ref (a + 1), Value.int (v 0), Value.int (v 1), Value.int (v 2), bV a v (2, 3), Value.int (v 4), Value.int (v 5), Value.int (v 6), Value.ref (a + 6)] = _; rw [hZ.2.2 0 (by decide) (by decide) (by decide), hZ.1, hZ.2.2 2 (by decide) (by decide) (by decide), bV_null hZ.2.1, hZ.2.2 4 (by decide) (by decide) (by decide), hZ.2.2 5 (by decide) (by decide) (by decide), hZ.2.2 6 (by decide) (by decide) (by decide)]) (Nat.le_of_ble_eq_true rfl) (Nat.le_of_ble_eq_true rfl) dX4_init_27
