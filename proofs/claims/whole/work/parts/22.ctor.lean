/-! ===== the constructors of PennyBakery and of its reference ===== -/
theorem f0_X9 : ∀ j, j < 19 → defaultValue (tyX9 j) = vp_V [.null, .int 0, .int 0, .int 0, .int 0, .null, .null, .null, .null, .int 0, .null, .null, .null, .null, .int 0, .int 0, .int 0, .int 0, .int 0] j
  | 0, _ => rfl
  | 1, _ => rfl
  | 2, _ => rfl
  | 3, _ => rfl
  | 4, _ => rfl
  | 5, _ => rfl
  | 6, _ => rfl
  | 7, _ => rfl
  | 8, _ => rfl
  | 9, _ => rfl
  | 10, _ => rfl
  | 11, _ => rfl
  | 12, _ => rfl
  | 13, _ => rfl
  | 14, _ => rfl
  | 15, _ => rfl
  | 16, _ => rfl
  | 17, _ => rfl
  | 18, _ => rfl
  | i + 19, h => absurd h (by omega)
theorem nv_X9 : nYv yX9_init RX9 cX9_init 3 19 := ⟨⟨rfl, rfl, by decide, by decide, rfl⟩, wm_1628, wm_1626, wm_17, wm_1629⟩
theorem nX9_init {l : Launch} {v w0 : bM} (hZ : v 2 = -1 ∧ ∀ x, x < 7245 → x ≠ 2 → v x = 0) (hf : fX9_init v = some w0) : nMet l yX9_init cX9_init 3 12 9 7235 LMo 13 [.null, .int 0, .int 0, .int 0, .int 0, .null, .null, .null, .null, .int 0, .null, .null, .null, .null, .int 0, .int 0, .int 0, .int 0, .int 0] (fun w => w = w0) := by
  refine n_start (by decide +kernel) rfl wfMo (by decide) ?_
  intro p e s m args below meth c D E a v9 ls H locs hv9 X hr hname hl hB
  cases hv9
  have hx := X.1
  have hb := X.2.1
  have hB : gB D E LMo a v s 1 13 [.null, .int 0, .int 0, .int 0, .int 0, .null, .null, .null, .null, .int 0, .null, .null, .null, .null, .int 0, .int 0, .int 0, .int 0, .int 0] [] H locs := ⟨hB.1, fun k d _ h1 h2 => absurd h1 (by omega), hB.2.2⟩
  refine lv_aload_n hx hb dX9_init_0 rfl (lv_at hl 0 rfl) ?_
  refine g_obj X wm_1630 hl.1 dX9_init_1 ⟨Nat.le_of_ble_eq_true rfl, Nat.le_of_ble_eq_true rfl⟩ ?_
  refine lv_aload_n hx hb dX9_init_4 rfl (lv_at hl 0 rfl) ?_
  refine lv_sipush (v := 700) hx hb dX9_init_5 (by decide) ?_
  refine g_newI X hB (atype := .int) (off := 10) (st := 0) lc_Mo_1 (by decide) wm_89 rfl rfl (fun j hj => hZ.2 _ (by omega) (by omega)) (by decide) (by decide) (by decide) ⟨Nat.le_of_ble_eq_true rfl, Nat.le_of_ble_eq_true rfl⟩ dX9_init_8 (fun H hB => ?_)
  have hB : gB D E LMo a v s 2 13 [.null, .int 0, .int 0, .int 0, .int 0, .null, .null, .null, .null, .int 0, .null, .null, .null, .null, .int 0, .int 0, .int 0, .int 0, .int 0] [] H locs := hB
  refine g_put X hname hB kl_X9 0 (by decide) (Or.inr rfl) rfl rfl (show 0 < 19 by decide) wm_1863 dX9_init_10 (fun H locs hB => ?_)
  have hB : gB D E LMo a v s 2 13 [.ref (a + 1), .int 0, .int 0, .int 0, .int 0, .null, .null, .null, .null, .int 0, .null, .null, .null, .null, .int 0, .int 0, .int 0, .int 0, .int 0] [] H locs := hB
  refine lv_aload_n hx hb dX9_init_13 rfl (lv_at hl 0 rfl) ?_
  refine lv_iconst (v := (-1)) hx hb dX9_init_14 (by decide) ?_
  refine g_put X hname hB kl_X9 3 (by decide) (Or.inr rfl) rfl rfl (show 3 < 19 by decide) wm_1866 dX9_init_15 (fun H locs hB => ?_)
  have hB : gB D E LMo a v s 2 13 [.ref (a + 1), .int 0, .int 0, .int (-1), .int 0, .null, .null, .null, .null, .int 0, .null, .null, .null, .null, .int 0, .int 0, .int 0, .int 0, .int 0] [] H locs := hB
  refine lv_aload_n hx hb dX9_init_18 rfl (lv_at hl 0 rfl) ?_
  refine lv_sipush (v := 496) hx hb dX9_init_19 (by decide) ?_
  refine g_newI X hB (atype := .int) (off := 710) (st := 0) lc_Mo_2 (by decide) wm_89 rfl rfl (fun j hj => hZ.2 _ (by omega) (by omega)) (by decide) (by decide) (by decide) ⟨Nat.le_of_ble_eq_true rfl, Nat.le_of_ble_eq_true rfl⟩ dX9_init_22 (fun H hB => ?_)
  have hB : gB D E LMo a v s 3 13 [.ref (a + 1), .int 0, .int 0, .int (-1), .int 0, .null, .null, .null, .null, .int 0, .null, .null, .null, .null, .int 0, .int 0, .int 0, .int 0, .int 0] [] H locs := hB
  refine g_put X hname hB kl_X9 5 (by decide) (Or.inr rfl) rfl rfl (show 5 < 19 by decide) wm_1868 dX9_init_24 (fun H locs hB => ?_)
  have hB : gB D E LMo a v s 3 13 [.ref (a + 1), .int 0, .int 0, .int (-1), .int 0, .ref (a + 2), .null, .null, .null, .int 0, .null, .null, .null, .null, .int 0, .int 0, .int 0, .int 0, .int 0] [] H locs := hB
  refine lv_aload_n hx hb dX9_init_27 rfl (lv_at hl 0 rfl) ?_
  refine lv_sipush (v := 496) hx hb dX9_init_28 (by decide) ?_
  refine g_newI X hB (atype := .int) (off := 1206) (st := 0) lc_Mo_3 (by decide) wm_89 rfl rfl (fun j hj => hZ.2 _ (by omega) (by omega)) (by decide) (by decide) (by decide) ⟨Nat.le_of_ble_eq_true rfl, Nat.le_of_ble_eq_true rfl⟩ dX9_init_31 (fun H hB => ?_)
  have hB : gB D E LMo a v s 4 13 [.ref (a + 1), .int 0, .int 0, .int (-1), .int 0, .ref (a + 2), .null, .null, .null, .int 0, .null, .null, .null, .null, .int 0, .int 0, .int 0, .int 0, .int 0] [] H locs := hB
  refine g_put X hname hB kl_X9 6 (by decide) (Or.inr rfl) rfl rfl (show 6 < 19 by decide) wm_1869 dX9_init_33 (fun H locs hB => ?_)
  have hB : gB D E LMo a v s 4 13 [.ref (a + 1), .int 0, .int 0, .int (-1), .int 0, .ref (a + 2), .ref (a + 3), .null, .null, .int 0, .null, .null, .null, .null, .int 0, .int 0, .int 0, .int 0, .int 0] [] H locs := hB
  refine lv_aload_n hx hb dX9_init_36 rfl (lv_at hl 0 rfl) ?_
  refine lv_sipush (v := 496) hx hb dX9_init_37 (by decide) ?_
  refine g_newI X hB (atype := .int) (off := 1702) (st := 0) lc_Mo_4 (by decide) wm_89 rfl rfl (fun j hj => hZ.2 _ (by omega) (by omega)) (by decide) (by decide) (by decide) ⟨Nat.le_of_ble_eq_true rfl, Nat.le_of_ble_eq_true rfl⟩ dX9_init_40 (fun H hB => ?_)
  have hB : gB D E LMo a v s 5 13 [.ref (a + 1), .int 0, .int 0, .int (-1), .int 0, .ref (a + 2), .ref (a + 3), .null, .null, .int 0, .null, .null, .null, .null, .int 0, .int 0, .int 0, .int 0, .int 0] [] H locs := hB
  refine g_put X hname hB kl_X9 7 (by decide) (Or.inr rfl) rfl rfl (show 7 < 19 by decide) wm_1870 dX9_init_42 (fun H locs hB => ?_)
  have hB : gB D E LMo a v s 5 13 [.ref (a + 1), .int 0, .int 0, .int (-1), .int 0, .ref (a + 2), .ref (a + 3), .ref (a + 4), .null, .int 0, .null, .null, .null, .null, .int 0, .int 0, .int 0, .int 0, .int 0] [] H locs := hB
  refine lv_aload_n hx hb dX9_init_45 rfl (lv_at hl 0 rfl) ?_
  refine lv_sipush (v := 3968) hx hb dX9_init_46 (by decide) ?_
  refine g_newI X hB (atype := .int) (off := 2198) (st := 0) lc_Mo_5 (by decide) wm_89 rfl rfl (fun j hj => hZ.2 _ (by omega) (by omega)) (by decide) (by decide) (by decide) ⟨Nat.le_of_ble_eq_true rfl, Nat.le_of_ble_eq_true rfl⟩ dX9_init_49 (fun H hB => ?_)
  have hB : gB D E LMo a v s 6 13 [.ref (a + 1), .int 0, .int 0, .int (-1), .int 0, .ref (a + 2), .ref (a + 3), .ref (a + 4), .null, .int 0, .null, .null, .null, .null, .int 0, .int 0, .int 0, .int 0, .int 0] [] H locs := hB
  refine g_put X hname hB kl_X9 8 (by decide) (Or.inr rfl) rfl rfl (show 8 < 19 by decide) wm_1871 dX9_init_51 (fun H locs hB => ?_)
  have hB : gB D E LMo a v s 6 13 [.ref (a + 1), .int 0, .int 0, .int (-1), .int 0, .ref (a + 2), .ref (a + 3), .ref (a + 4), .ref (a + 5), .int 0, .null, .null, .null, .null, .int 0, .int 0, .int 0, .int 0, .int 0] [] H locs := hB
  refine lv_aload_n hx hb dX9_init_54 rfl (lv_at hl 0 rfl) ?_
  refine lv_sipush (v := 992) hx hb dX9_init_55 (by decide) ?_
  refine g_newI X hB (atype := .int) (off := 6166) (st := 0) lc_Mo_6 (by decide) wm_89 rfl rfl (fun j hj => hZ.2 _ (by omega) (by omega)) (by decide) (by decide) (by decide) ⟨Nat.le_of_ble_eq_true rfl, Nat.le_of_ble_eq_true rfl⟩ dX9_init_58 (fun H hB => ?_)
  have hB : gB D E LMo a v s 7 13 [.ref (a + 1), .int 0, .int 0, .int (-1), .int 0, .ref (a + 2), .ref (a + 3), .ref (a + 4), .ref (a + 5), .int 0, .null, .null, .null, .null, .int 0, .int 0, .int 0, .int 0, .int 0] [] H locs := hB
  refine g_put X hname hB kl_X9 10 (by decide) (Or.inr rfl) rfl rfl (show 10 < 19 by decide) wm_1873 dX9_init_60 (fun H locs hB => ?_)
  have hB : gB D E LMo a v s 7 13 [.ref (a + 1), .int 0, .int 0, .int (-1), .int 0, .ref (a + 2), .ref (a + 3), .ref (a + 4), .ref (a + 5), .int 0, .ref (a + 6), .null, .null, .null, .int 0, .int 0, .int 0, .int 0, .int 0] [] H locs := hB
  refine lv_aload_n hx hb dX9_init_63 rfl (lv_at hl 0 rfl) ?_
  refine lv_iconst (v := 2) hx hb dX9_init_64 (by decide) ?_
  refine g_newI X hB (atype := .boolean) (off := 7158) (st := 0) lc_Mo_7 (by decide) wm_318 rfl rfl (fun j hj => hZ.2 _ (by omega) (by omega)) (by decide) (by decide) (by decide) ⟨Nat.le_of_ble_eq_true rfl, Nat.le_of_ble_eq_true rfl⟩ dX9_init_65 (fun H hB => ?_)
  have hB : gB D E LMo a v s 8 13 [.ref (a + 1), .int 0, .int 0, .int (-1), .int 0, .ref (a + 2), .ref (a + 3), .ref (a + 4), .ref (a + 5), .int 0, .ref (a + 6), .null, .null, .null, .int 0, .int 0, .int 0, .int 0, .int 0] [] H locs := hB
  refine g_put X hname hB kl_X9 11 (by decide) (Or.inr rfl) rfl rfl (show 11 < 19 by decide) wm_1874 dX9_init_67 (fun H locs hB => ?_)
  have hB : gB D E LMo a v s 8 13 [.ref (a + 1), .int 0, .int 0, .int (-1), .int 0, .ref (a + 2), .ref (a + 3), .ref (a + 4), .ref (a + 5), .int 0, .ref (a + 6), .ref (a + 7), .null, .null, .int 0, .int 0, .int 0, .int 0, .int 0] [] H locs := hB
  refine lv_aload_n hx hb dX9_init_70 rfl (lv_at hl 0 rfl) ?_
  refine lv_iconst (v := 5) hx hb dX9_init_71 (by decide) ?_
  refine g_newI X hB (atype := .int) (off := 7160) (st := 0) lc_Mo_8 (by decide) wm_89 rfl rfl (fun j hj => hZ.2 _ (by omega) (by omega)) (by decide) (by decide) (by decide) ⟨Nat.le_of_ble_eq_true rfl, Nat.le_of_ble_eq_true rfl⟩ dX9_init_72 (fun H hB => ?_)
  have hB : gB D E LMo a v s 9 13 [.ref (a + 1), .int 0, .int 0, .int (-1), .int 0, .ref (a + 2), .ref (a + 3), .ref (a + 4), .ref (a + 5), .int 0, .ref (a + 6), .ref (a + 7), .null, .null, .int 0, .int 0, .int 0, .int 0, .int 0] [] H locs := hB
  refine g_put X hname hB kl_X9 12 (by decide) (Or.inr rfl) rfl rfl (show 12 < 19 by decide) wm_1875 dX9_init_74 (fun H locs hB => ?_)
  have hB : gB D E LMo a v s 9 13 [.ref (a + 1), .int 0, .int 0, .int (-1), .int 0, .ref (a + 2), .ref (a + 3), .ref (a + 4), .ref (a + 5), .int 0, .ref (a + 6), .ref (a + 7), .ref (a + 8), .null, .int 0, .int 0, .int 0, .int 0, .int 0] [] H locs := hB
  refine lv_aload_n hx hb dX9_init_77 rfl (lv_at hl 0 rfl) ?_
  refine lv_bipush (v := 80) hx hb dX9_init_78 (by decide) ?_
  refine g_newI X hB (atype := .int) (off := 7165) (st := 0) lc_Mo_9 (by decide) wm_89 rfl rfl (fun j hj => hZ.2 _ (by omega) (by omega)) (by decide) (by decide) (by decide) ⟨Nat.le_of_ble_eq_true rfl, Nat.le_of_ble_eq_true rfl⟩ dX9_init_80 (fun H hB => ?_)
  have hB : gB D E LMo a v s 10 13 [.ref (a + 1), .int 0, .int 0, .int (-1), .int 0, .ref (a + 2), .ref (a + 3), .ref (a + 4), .ref (a + 5), .int 0, .ref (a + 6), .ref (a + 7), .ref (a + 8), .null, .int 0, .int 0, .int 0, .int 0, .int 0] [] H locs := hB
  refine g_put X hname hB kl_X9 13 (by decide) (Or.inr rfl) rfl rfl (show 13 < 19 by decide) wm_1876 dX9_init_82 (fun H locs hB => ?_)
  have hB : gB D E LMo a v s 10 13 [.ref (a + 1), .int 0, .int 0, .int (-1), .int 0, .ref (a + 2), .ref (a + 3), .ref (a + 4), .ref (a + 5), .int 0, .ref (a + 6), .ref (a + 7), .ref (a + 8), .ref (a + 9), .int 0, .int 0, .int 0, .int 0, .int 0] [] H locs := hB
  exact g_tail X hB lenMo.symm lc_Mo_0 (by show [Value.ref (a + 1), Value.int (v 0), Value.int (v 1), Value.int (v 2), Value.int (v 3), Value.ref (a + 2), Value.ref (a + 3), Value.ref (a + 4), Value.ref (a + 5), Value.int (v 4), Value.ref (a + 6), Value.ref (a + 7), Value.ref (a + 8), Value.ref (a + 9), Value.int (v 5), Value.int (v 6), Value.int (v 7), Value.int (v 8), Value.int (v 9)] = _; rw [hZ.2 0 (by decide) (by decide), hZ.2 1 (by decide) (by decide), hZ.1, hZ.2 3 (by decide) (by decide), hZ.2 4 (by decide) (by decide), hZ.2 5 (by decide) (by decide), hZ.2 6 (by decide) (by decide), hZ.2 7 (by decide) (by decide), hZ.2 8 (by decide) (by decide), hZ.2 9 (by decide) (by decide)]) (d := 12) ⟨Nat.le_of_ble_eq_true rfl, Nat.le_of_ble_eq_true rfl, Nat.le_of_ble_eq_true rfl, Nat.le_of_ble_eq_true rfl⟩ (Nat.le_of_ble_eq_true rfl) (Nat.le_of_ble_eq_true rfl) (fun s9 X9 hB9 => tX9_init hf p e s9 m args below meth c D _ a ls H [] X9 hr hl hB9)
theorem lc_In_1 : LIn[1]? = some (.inl (11, [(0, 7), (0, 8), (0, 9), (1, 2), (1, 3), (1, 4), (1, 5)])) := by decide +kernel
theorem tr_In_1 : LX[858]? = some (bSh 857 7086 (.inl (11, [(0, 7), (0, 8), (0, 9), (1, 2), (1, 3), (1, 4), (1, 5)]))) := by decide +kernel
theorem lc_In_2 : LIn[2]? = some (.inr (0, 700, 10, 0)) := by decide +kernel
theorem tr_In_2 : LX[859]? = some (bSh 857 7086 (.inr (0, 700, 10, 0))) := by decide +kernel
theorem lc_In_3 : LIn[3]? = some (.inr (0, 701, 710, 0)) := by decide +kernel
theorem tr_In_3 : LX[860]? = some (bSh 857 7086 (.inr (0, 701, 710, 0))) := by decide +kernel
theorem lc_In_4 : LIn[4]? = some (.inr (0, 701, 1411, 0)) := by decide +kernel
theorem tr_In_4 : LX[861]? = some (bSh 857 7086 (.inr (0, 701, 1411, 0))) := by decide +kernel
theorem lc_In_5 : LIn[5]? = some (.inr (0, 701, 2112, 0)) := by decide +kernel
theorem tr_In_5 : LX[862]? = some (bSh 857 7086 (.inr (0, 701, 2112, 0))) := by decide +kernel
theorem tr_In_6 : LX[863]? = some (bSh 857 7086 (.inr (0, 3, 2813, 0))) := by decide +kernel
theorem lcq_X_713 : LX[713]? = some (.inr (3, 2, 714, 71)) := by decide +kernel
theorem lcq_X_0 : LX[0]? = some (.inl (12, [(2, 0), (2, 1), (1, 143), (1, 713), (1, 856), (1, 857), (1, 864)])) := by decide +kernel
theorem lcq_X_856 : LX[856]? = some (.inr (1, 2, 7084, 0)) := by decide +kernel
theorem lcq_X_864 : LX[864]? = some (.inr (9, 0, 9902, 0)) := by decide +kernel
theorem lcq_X_865 : LX[865]? = some (.inr (8, 0, 0, 0)) := by decide +kernel
theorem lenqX : LX.length = 866 := by decide +kernel
theorem sub_X_143 : bSub LX 143 1182 4722 LHi := by unfold bSub bWf; decide +kernel
theorem lcq_X_714 : LX[714]? = some (.inl (10, [(0, 5904), (0, 5905), (0, 5906), (0, 5907), (0, 5908), (0, 5909), (1, 715), (1, 734), (1, 748), (1, 751)])) := by decide +kernel
theorem lcq_X_785 : LX[785]? = some (.inl (10, [(0, 6494), (0, 6495), (0, 6496), (0, 6497), (0, 6498), (0, 6499), (1, 786), (1, 805), (1, 819), (1, 822)])) := by decide +kernel
theorem bV_st {a : Nat} {v : bM} {k i : Nat} (h : v k = nI i) (hi : i < 12) : bV a v (2, k) = .ref (a + stC i) := by
  unfold bV
  rw [if_neg (show ¬ (2 : Nat) = 0 by decide), if_neg (show ¬ (2 : Nat) = 1 by decide)]
  show (if v k < 0 then Value.null else .ref (a + stC (v k).toNatClampNeg)) = _
  rw [h, if_neg (nI_pos (by omega)), nI_clamp (by omega)]
theorem tr_In {D : va_G} {E : bE} {a : Nat} {v : bM} {H : Heap} (h3 : v 7089 = -1) (hb : Blk D E LIn (a + 857) (vw v 7086) H) : ∀ (k : Nat) (d9 : bC), LX[k]? = some d9 → 857 ≤ k → k < 857 + LIn.length → bAt D E a v k d9 H := by
  intro k d9 hd h1 h2
  rw [lenIn] at h2
  have hk : k = 857 ∨ k = 858 ∨ k = 859 ∨ k = 860 ∨ k = 861 ∨ k = 862 ∨ k = 863 := by omega
  rcases hk with rfl | rfl | rfl | rfl | rfl | rfl | rfl
  · rw [lc_X_857] at hd
    cases hd
    have h := hb 0 _ lc_In_0
    have e9 : [((1 : Nat), (858 : Nat)), (0, 7086), (0, 7087), (0, 7088), (2, 7089), (0, 7090), (0, 7091), (0, 7092), (1, 863)].map (bV a v) = [((1 : Nat), (1 : Nat)), (0, 0), (0, 1), (0, 2), (2, 3), (0, 4), (0, 5), (0, 6), (1, 6)].map (bV (a + 857) (vw v 7086)) := by
      show [Value.ref (a + 858), .int (v 7086), .int (v 7087), .int (v 7088), bV a v (2, 7089), .int (v 7090), .int (v 7091), .int (v 7092), .ref (a + 863)] = [Value.ref (a + 858), .int (v 7086), .int (v 7087), .int (v 7088), bV (a + 857) (vw v 7086) (2, 3), .int (v 7090), .int (v 7091), .int (v 7092), .ref (a + 863)]
      rw [bV_null h3, bV_null (show vw v 7086 3 = -1 from h3)]
    show va_at D vwCl (a + 857, .inr (8, [((1 : Nat), (858 : Nat)), (0, 7086), (0, 7087), (0, 7088), (2, 7089), (0, 7090), (0, 7091), (0, 7092), (1, 863)].map (bV a v))) H
    rw [e9]
    exact h
  · rw [tr_In_1] at hd
    cases hd
    exact (bAt_sh (k := 857) (o := 7086) (mm := 2816) (j := 1) (by decide)).mpr (hb 1 _ lc_In_1)
  · rw [tr_In_2] at hd
    cases hd
    exact (bAt_sh (k := 857) (o := 7086) (mm := 2816) (j := 2) (by decide)).mpr (hb 2 _ lc_In_2)
  · rw [tr_In_3] at hd
    cases hd
    exact (bAt_sh (k := 857) (o := 7086) (mm := 2816) (j := 3) (by decide)).mpr (hb 3 _ lc_In_3)
  · rw [tr_In_4] at hd
    cases hd
    exact (bAt_sh (k := 857) (o := 7086) (mm := 2816) (j := 4) (by decide)).mpr (hb 4 _ lc_In_4)
  · rw [tr_In_5] at hd
    cases hd
    exact (bAt_sh (k := 857) (o := 7086) (mm := 2816) (j := 5) (by decide)).mpr (hb 5 _ lc_In_5)
  · rw [tr_In_6] at hd
    cases hd
    exact (bAt_sh (k := 857) (o := 7086) (mm := 2816) (j := 6) (by decide)).mpr (hb 6 _ lc_In_6)
theorem tr_Sb {D : va_G} {E : bE} {a : Nat} {v : bM} {H : Heap} (hb : Blk D E LSb (a + 864) (vw v 9902) H) : ∀ (k : Nat) (d9 : bC), LX[k]? = some d9 → 864 ≤ k → k < 864 + LSb.length → bAt D E a v k d9 H := by
  intro k d9 hd h1 h2
  rw [lenSb] at h2
  have hk : k = 864 ∨ k = 865 := by omega
  rcases hk with rfl | rfl
  · rw [lcq_X_864] at hd
    cases hd
    have h := hb 0 _ rfl
    unfold bAt at h ⊢
    dsimp only at h ⊢
    rw [if_neg (by decide), if_neg (by decide)] at h ⊢
    obtain ⟨va, cap, arr, ml, n, g1, g2, g3, g4, g5, g6, g7, g8, g9, g10⟩ := h
    refine ⟨va, cap, arr, ml, n, g1, g2, g3, g4, g5, g6, g7, g8, g9, fun i hi => ?_⟩
    obtain ⟨q, q1, q2, q3⟩ := g10 i hi
    exact ⟨q, q1, by rw [← q2]; show v (9902 + 1 + i) = v (9902 + (0 + 1 + i)); rw [show 9902 + 1 + i = 9902 + (0 + 1 + i) by omega], q3⟩
  · rw [lcq_X_865] at hd
    cases hd
    unfold bAt
    dsimp only
    rw [if_neg (by decide), if_pos rfl]
    trivial
theorem f0_X8 : ∀ j, j < 7 → defaultValue (tyX8 j) = vp_V [.null, .null, .null, .null, .null, .null, .null] j
  | 0, _ => rfl
  | 1, _ => rfl
  | 2, _ => rfl
  | 3, _ => rfl
  | 4, _ => rfl
  | 5, _ => rfl
  | 6, _ => rfl
  | i + 7, h => absurd h (by omega)
theorem nv_X8 : nYv yX8_init RX8 cX8_init 2 7 := ⟨⟨rfl, rfl, by decide, by decide, rfl⟩, wm_35, wm_33, wm_1, wm_36⟩
theorem nX8_init {l : Launch} {v w0 : bM} (hZ : v 0 = 0 ∧ v 1 = 1 ∧ v 7087 = -1 ∧ v 7089 = -1 ∧ ∀ x, x < 9983 → x ≠ 1 → x ≠ 7087 → x ≠ 7089 → v x = 0) (hf : fX8_init v = some w0) : nMet l yX8_init cX8_init 2 9 865 10777 LX 12 [.null, .null, .null, .null, .null, .null, .null] (fun w => w = w0) := by
  refine n_start (by decide +kernel) rfl wfX (by decide) ?_
  intro p e s m args below meth c D E a v9 ls H locs hv9 X hr hname hl hB
  cases hv9
  have hx := X.1
  have hb := X.2.1
  have hB : gB D E LX a v s 1 12 [.null, .null, .null, .null, .null, .null, .null] [] H locs := ⟨hB.1, fun k d _ h1 h2 => absurd h1 (by omega), hB.2.2⟩
  refine lv_aload_n hx hb dX8_init_0 rfl (lv_at hl 0 rfl) ?_
  refine g_obj X wm_37 hl.1 dX8_init_1 ⟨Nat.le_of_ble_eq_true rfl, Nat.le_of_ble_eq_true rfl⟩ ?_
  refine lv_aload_n hx hb dX8_init_4 rfl (lv_at hl 0 rfl) ?_
  refine g_new X hB (host := "PennyBakery") nX6_init nv_X6 kl_X6 f0_X6 (show bSub LX 1 2 590 LSt from subX_St 0 (by decide)) (fun x hx => hZ.2.2.2.2 (2 + x) (by omega) (by omega) (by omega) (by omega)) wm_40 (Or.inl (List.mem_of_getElem? (i := 0) rfl)) ⟨Nat.le_of_ble_eq_true rfl, Nat.le_of_ble_eq_true rfl⟩ hl.1 (Nat.le_of_ble_eq_true rfl) ⟨Nat.le_of_ble_eq_true rfl, Nat.le_of_ble_eq_true rfl⟩ dX8_init_5 dX8_init_8 dX8_init_9 (fun H locs hB => ?_)
  have hB : gB D E LX a v s 72 12 [.null, .null, .null, .null, .null, .null, .null] [] H locs := hB
  refine g_put X hname hB kl_X8 0 (by decide) (Or.inr rfl) rfl rfl (show 0 < 7 by decide) wm_654 dX8_init_12 (fun H locs hB => ?_)
  have hB : gB D E LX a v s 72 12 [.ref (a + 1), .null, .null, .null, .null, .null, .null] [] H locs := hB
  refine lv_aload_n hx hb dX8_init_15 rfl (lv_at hl 0 rfl) ?_
  refine g_new X hB (host := "PennyBakery") nX6_init nv_X6 kl_X6 f0_X6 (show bSub LX 72 592 590 LSt from subX_St 1 (by decide)) (fun x hx => hZ.2.2.2.2 (592 + x) (by omega) (by omega) (by omega) (by omega)) wm_40 (Or.inl (List.mem_of_getElem? (i := 0) rfl)) ⟨Nat.le_of_ble_eq_true rfl, Nat.le_of_ble_eq_true rfl⟩ hl.1 (Nat.le_of_ble_eq_true rfl) ⟨Nat.le_of_ble_eq_true rfl, Nat.le_of_ble_eq_true rfl⟩ dX8_init_16 dX8_init_19 dX8_init_20 (fun H locs hB => ?_)
  have hB : gB D E LX a v s 143 12 [.ref (a + 1), .null, .null, .null, .null, .null, .null] [] H locs := hB
  refine g_put X hname hB kl_X8 1 (by decide) (Or.inr rfl) rfl rfl (show 1 < 7 by decide) wm_655 dX8_init_23 (fun H locs hB => ?_)
  have hB : gB D E LX a v s 143 12 [.ref (a + 1), .ref (a + 72), .null, .null, .null, .null, .null] [] H locs := hB
  refine lv_aload_n hx hb dX8_init_26 rfl (lv_at hl 0 rfl) ?_
  refine g_new X hB (host := "PennyBakery") nX3_init nv_X3 kl_X3 f0_X3 sub_X_143 (fun x hx => hZ.2.2.2.2 (1182 + x) (by omega) (by omega) (by omega) (by omega)) wm_263 (Or.inr wm_265) ⟨Nat.le_of_ble_eq_true rfl, Nat.le_of_ble_eq_true rfl⟩ hl.1 (Nat.le_of_ble_eq_true rfl) ⟨Nat.le_of_ble_eq_true rfl, Nat.le_of_ble_eq_true rfl⟩ dX8_init_27 dX8_init_30 dX8_init_31 (fun H locs hB => ?_)
  rw [lenHi] at hB
  have hB : gB D E LX a v s 713 12 [.ref (a + 1), .ref (a + 72), .null, .null, .null, .null, .null] [] H locs := hB
  refine g_put X hname hB kl_X8 2 (by decide) (Or.inr rfl) rfl rfl (show 2 < 7 by decide) wm_656 dX8_init_34 (fun H locs hB => ?_)
  have hB : gB D E LX a v s 713 12 [.ref (a + 1), .ref (a + 72), .ref (a + 143), .null, .null, .null, .null] [] H locs := hB
  refine lv_aload_n hx hb dX8_init_37 rfl (lv_at hl 0 rfl) ?_
  refine lv_iconst (v := 2) hx hb dX8_init_38 (by decide) ?_
  refine g_newq X hB (by decide) (N := 2) (by decide) (by decide) (by decide) wm_40 ⟨Nat.le_of_ble_eq_true rfl, Nat.le_of_ble_eq_true rfl⟩ dX8_init_39 (fun H hB => ?_)
  refine g_put X hname hB kl_X8 3 (by decide) (Or.inr rfl) rfl rfl (show 3 < 7 by decide) wm_657 dX8_init_42 (fun H locs hB => ?_)
  have hB : gB D E LX a v s 714 12 [.ref (a + 1), .ref (a + 72), .ref (a + 143), .ref (a + 713), .null, .null, .null] _ H locs := hB
  refine lv_iconst (v := 0) hx hb dX8_init_45 (by decide) ?_
  refine lv_istore_n (lv' := [(1, .int 0), (0, .ref a)]) hx hb dX8_init_46 rfl hl (by decide) rfl (fun ls hl => ?_)
  refine lv_iload_n hx hb dX8_init_47 rfl (lv_at hl 0 rfl) ?_
  refine lv_iconst (v := 2) hx hb dX8_init_48 (by decide) ?_
  refine lv_icmp_ge (tgt := 71) hx hb dX8_init_49 (by decide) (fun h => absurd h (by decide)) (fun _ => ?_)
  refine lv_aload_n hx hb dX8_init_52 rfl (lv_at hl 1 rfl) ?_
  refine g_get0 X hB kl_X8 3 (by decide) rfl wm_657 dX8_init_53 ?_
  refine lv_iload_n hx hb dX8_init_56 rfl (lv_at hl 0 rfl) ?_
  refine g_new X hB nX6_init nv_X6 kl_X6 f0_X6 (show bSub LX 714 5904 590 LSt from subX_St 10 (by decide)) (fun x hx => hZ.2.2.2.2 (5904 + x) (by omega) (by omega) (by omega) (by omega)) wm_40 (Or.inl (List.mem_of_getElem? (i := 0) rfl)) ⟨Nat.le_of_ble_eq_true rfl, Nat.le_of_ble_eq_true rfl⟩ hl.1 (Nat.le_of_ble_eq_true rfl) ⟨Nat.le_of_ble_eq_true rfl, Nat.le_of_ble_eq_true rfl⟩ dX8_init_57 dX8_init_60 dX8_init_61 (fun H locs hB => ?_)
  have hB : gB D E LX a v s 785 12 [.ref (a + 1), .ref (a + 72), .ref (a + 143), .ref (a + 713), .null, .null, .null] _ H locs := hB
  refine g_aast X hB (by decide +kernel) lcq_X_714 (by decide) (by decide) (by decide) (i9 := 0) (by decide) (show ¬ ((0 : Int32) < 0 ∨ 2 ≤ (0 : Int32).toNatClampNeg) by decide) dX8_init_64 (fun H locs hB => ?_)
  refine lv_iinc (v := 1) (lv' := [(1, .int 1), (0, .ref a)]) hx hb dX8_init_65 hl (k := 0) rfl (by decide) (by decide) rfl (fun ls hl => ?_)
  refine lv_goto (tgt := 47) hx hb dX8_init_68 (by decide) ?_
  refine lv_iload_n hx hb dX8_init_47 rfl (lv_at hl 0 rfl) ?_
  refine lv_iconst (v := 2) hx hb dX8_init_48 (by decide) ?_
  refine lv_icmp_ge (tgt := 71) hx hb dX8_init_49 (by decide) (fun h => absurd h (by decide)) (fun _ => ?_)
  refine lv_aload_n hx hb dX8_init_52 rfl (lv_at hl 1 rfl) ?_
  refine g_get0 X hB kl_X8 3 (by decide) rfl wm_657 dX8_init_53 ?_
  refine lv_iload_n hx hb dX8_init_56 rfl (lv_at hl 0 rfl) ?_
  refine g_new X hB nX6_init nv_X6 kl_X6 f0_X6 (show bSub LX 785 6494 590 LSt from subX_St 11 (by decide)) (fun x hx => hZ.2.2.2.2 (6494 + x) (by omega) (by omega) (by omega) (by omega)) wm_40 (Or.inl (List.mem_of_getElem? (i := 0) rfl)) ⟨Nat.le_of_ble_eq_true rfl, Nat.le_of_ble_eq_true rfl⟩ hl.1 (Nat.le_of_ble_eq_true rfl) ⟨Nat.le_of_ble_eq_true rfl, Nat.le_of_ble_eq_true rfl⟩ dX8_init_57 dX8_init_60 dX8_init_61 (fun H locs hB => ?_)
  have hB : gB D E LX a v s 856 12 [.ref (a + 1), .ref (a + 72), .ref (a + 143), .ref (a + 713), .null, .null, .null] _ H locs := hB
  refine g_aast X hB (by decide +kernel) lcq_X_785 (by decide) (by decide) (by decide) (i9 := 1) (by decide) (show ¬ ((1 : Int32) < 0 ∨ 2 ≤ (1 : Int32).toNatClampNeg) by decide) dX8_init_64 (fun H locs hB => ?_)
  refine lv_iinc (v := 2) (lv' := [(1, .int 2), (0, .ref a)]) hx hb dX8_init_65 hl (k := 0) rfl (by decide) (by decide) rfl (fun ls hl => ?_)
  refine lv_goto (tgt := 47) hx hb dX8_init_68 (by decide) ?_
  refine lv_iload_n hx hb dX8_init_47 rfl (lv_at hl 0 rfl) ?_
  refine lv_iconst (v := 2) hx hb dX8_init_48 (by decide) ?_
  refine lv_icmp_ge (tgt := 71) hx hb dX8_init_49 (by decide) (fun _ => ?_) (fun h => absurd (by decide) h)
  have hB := hB.close lcq_X_713 (fun h => by
    show H[a + 713]? = some (vp_cell (E.1.1 3) (bX a v (3, 2, 714, 71)))
    have h : H[a + 713]? = some (vp_cell (E.1.1 3) _) := h
    rw [h]
    unfold bX
    rw [if_neg (show ¬ (3 : Nat) < 2 by decide), vp_cell_q, vp_cell_q]
    refine congrArg some (arrV_ext (fun j hj => ?_))
    have h8 : j = 0 ∨ j = 1 := by omega
    rcases h8 with rfl | rfl <;> rfl)
  refine lv_aload_n hx hb dX8_init_71 rfl (lv_at hl 1 rfl) ?_
  refine lv_iconst (v := 2) hx hb dX8_init_72 (by decide) ?_
  refine g_newI X hB (atype := .boolean) (off := 7084) (st := 0) lcq_X_856 (by decide) wm_318 rfl rfl (fun j hj => hZ.2.2.2.2 (7084 + j) (by omega) (by omega) (by omega) (by omega)) (by decide) (by decide) (by decide) ⟨Nat.le_of_ble_eq_true rfl, Nat.le_of_ble_eq_true rfl⟩ dX8_init_73 (fun H hB => ?_)
  have hB : gB D E LX a v s 857 12 [.ref (a + 1), .ref (a + 72), .ref (a + 143), .ref (a + 713), .null, .null, .null] [] H locs := hB
  refine g_put X hname hB kl_X8 4 (by decide) (Or.inr rfl) rfl rfl (show 4 < 7 by decide) wm_658 dX8_init_75 (fun H locs hB => ?_)
  have hB : gB D E LX a v s 857 12 [.ref (a + 1), .ref (a + 72), .ref (a + 143), .ref (a + 713), .ref (a + 856), .null, .null] [] H locs := hB
  refine lv_aload_n hx hb dX8_init_78 rfl (lv_at hl 1 rfl) ?_
  refine g_newT X hB (w9 := vw v 7086) (host := "PennyBakery") nX4_init nv_X4 kl_X4 f0_X4 (by rw [lenqX]; decide) (fun H1 hb9 => tr_In hZ.2.2.2.1 hb9) (⟨hZ.2.2.1, hZ.2.2.2.1, fun x h1 h2 h3 => hZ.2.2.2.2 (7086 + x) (by omega) (by omega) (by omega) (by omega)⟩) wm_283 (Or.inl (List.mem_of_getElem? (i := 6) rfl)) ⟨Nat.le_of_ble_eq_true rfl, Nat.le_of_ble_eq_true rfl⟩ hl.1 (Nat.le_of_ble_eq_true rfl) ⟨Nat.le_of_ble_eq_true rfl, Nat.le_of_ble_eq_true rfl⟩ dX8_init_79 dX8_init_82 dX8_init_83 (fun H locs hB => ?_)
  have hB : gB D E LX a v s 864 12 [.ref (a + 1), .ref (a + 72), .ref (a + 143), .ref (a + 713), .ref (a + 856), .null, .null] [] H locs := hB
  refine g_put X hname hB kl_X8 5 (by decide) (Or.inr rfl) rfl rfl (show 5 < 7 by decide) wm_659 dX8_init_86 (fun H locs hB => ?_)
  have hB : gB D E LX a v s 864 12 [.ref (a + 1), .ref (a + 72), .ref (a + 143), .ref (a + 713), .ref (a + 856), .ref (a + 857), .null] [] H locs := hB
  refine lv_aload_n hx hb dX8_init_89 rfl (lv_at hl 1 rfl) ?_
  refine g_newT X hB (w9 := vw v 9902) (host := "PennyBakery") nJ4_init_da8c8 nv_J4 kl_J4 f0_J4 (by rw [lenqX]; decide) (fun H1 hb9 => tr_Sb hb9) (hZ.2.2.2.2 9902 (by decide) (by decide) (by decide) (by decide)) wm_351 (Or.inr wm_353) ⟨Nat.le_of_ble_eq_true rfl, Nat.le_of_ble_eq_true rfl⟩ hl.1 (Nat.le_of_ble_eq_true rfl) ⟨Nat.le_of_ble_eq_true rfl, Nat.le_of_ble_eq_true rfl⟩ dX8_init_90 dX8_init_93 dX8_init_94 (fun H locs hB => ?_)
  have hB : gB D E LX a v s 866 12 [.ref (a + 1), .ref (a + 72), .ref (a + 143), .ref (a + 713), .ref (a + 856), .ref (a + 857), .null] [] H locs := hB
  refine g_put X hname hB kl_X8 6 (by decide) (Or.inr rfl) rfl rfl (show 6 < 7 by decide) wm_660 dX8_init_97 (fun H locs hB => ?_)
  have hB : gB D E LX a v s 866 12 [.ref (a + 1), .ref (a + 72), .ref (a + 143), .ref (a + 713), .ref (a + 856), .ref (a + 857), .ref (a + 864)] [] H locs := hB
  exact g_tail X hB lenqX.symm lcq_X_0 (by show [bV a v (2, 0), bV a v (2, 1), .ref (a + 143), .ref (a + 713), .ref (a + 856), .ref (a + 857), .ref (a + 864)] = _; rw [bV_st (i := 0) hZ.1 (by decide), bV_st (i := 1) hZ.2.1 (by decide)]; rfl) (d := 9) ⟨Nat.le_of_ble_eq_true rfl, Nat.le_of_ble_eq_true rfl, Nat.le_of_ble_eq_true rfl, Nat.le_of_ble_eq_true rfl⟩ (Nat.le_of_ble_eq_true rfl) (Nat.le_of_ble_eq_true rfl) (fun s9 X9 hB9 => tX8_init hf p e s9 m args below meth c D _ a ls H [] X9 hr (lv_sub hl [1] rfl) hB9)
