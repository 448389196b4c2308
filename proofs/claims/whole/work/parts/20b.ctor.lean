/-! ===== the constructors of StringBuilder and of History ===== -/
theorem dJ5_init_d00df_0 : decode cJ5_init_d00df 0 = .ok (.aload_n 0, 1) := by decide +kernel
theorem dJ5_init_d00df_1 : decode cJ5_init_d00df 1 = .ok (.invokespecial 3, 3) := by decide +kernel
theorem dJ5_init_d00df_4 : decode cJ5_init_d00df 4 = .ok (.getstatic 18, 3) := by decide +kernel
theorem dJ5_init_d00df_7 : decode cJ5_init_d00df 7 = .ok (.ifCond .eq 18, 3) := by decide +kernel
theorem dJ5_init_d00df_10 : decode cJ5_init_d00df 10 = .ok (.aload_n 0, 1) := by decide +kernel
theorem dJ5_init_d00df_11 : decode cJ5_init_d00df 11 = .ok (.iload_n 1, 1) := by decide +kernel
theorem dJ5_init_d00df_12 : decode cJ5_init_d00df 12 = .ok (.newarray .byte, 2) := by decide +kernel
theorem dJ5_init_d00df_14 : decode cJ5_init_d00df 14 = .ok (.putfield 15, 3) := by decide +kernel
theorem dJ5_init_d00df_17 : decode cJ5_init_d00df 17 = .ok (.aload_n 0, 1) := by decide +kernel
theorem dJ5_init_d00df_18 : decode cJ5_init_d00df 18 = .ok (.iconst 0, 1) := by decide +kernel
theorem dJ5_init_d00df_19 : decode cJ5_init_d00df 19 = .ok (.putfield 22, 3) := by decide +kernel
theorem dJ5_init_d00df_22 : decode cJ5_init_d00df 22 = .ok (.goto 16, 3) := by decide +kernel
theorem dJ5_init_d00df_25 : decode cJ5_init_d00df 25 = .ok (.aload_n 0, 1) := by decide +kernel
theorem dJ5_init_d00df_26 : decode cJ5_init_d00df 26 = .ok (.iload_n 1, 1) := by decide +kernel
theorem dJ5_init_d00df_27 : decode cJ5_init_d00df 27 = .ok (.invokestatic 26, 3) := by decide +kernel
theorem dJ5_init_d00df_30 : decode cJ5_init_d00df 30 = .ok (.putfield 15, 3) := by decide +kernel
theorem dJ5_init_d00df_33 : decode cJ5_init_d00df 33 = .ok (.aload_n 0, 1) := by decide +kernel
theorem dJ5_init_d00df_34 : decode cJ5_init_d00df 34 = .ok (.iconst 1, 1) := by decide +kernel
theorem dJ5_init_d00df_35 : decode cJ5_init_d00df 35 = .ok (.putfield 22, 3) := by decide +kernel
theorem dJ5_init_d00df_38 : decode cJ5_init_d00df 38 = .ok (.return_, 1) := by decide +kernel
theorem nJ5_init_d00df {l : Launch} : nMetA l yJ5_init_d00df cJ5_init_d00df 2 1 1 16 LSb 1 [.null, .int 0, .int 0, .int 0] [.int 16] (fun v => v 0 = 0) := by
  refine n_startA (by decide +kernel) rfl wfSb (by decide) ?_
  intro p e s m args below meth c D E a v ls H locs hZ X hr hname hl hB
  have hx := X.1
  have hb := X.2.1
  have hl : lv_has ls 2 [(0, .ref a), (1, .int 16)] := hl
  refine lv_aload_n hx hb dJ5_init_d00df_0 rfl (lv_at hl 0 rfl) ?_
  refine g_obj X wm_359 hl.1 dJ5_init_d00df_1 ⟨Nat.le_of_ble_eq_true rfl, Nat.le_of_ble_eq_true rfl⟩ ?_
  refine g_compact X hB wm_360 dJ5_init_d00df_4 ?_
  refine lv_if_eq (tgt := 25) hx hb dJ5_init_d00df_7 (by decide) (fun h => absurd h (by decide)) (fun _ => ?_)
  refine lv_aload_n hx hb dJ5_init_d00df_10 rfl (lv_at hl 0 rfl) ?_
  refine lv_iload_n hx hb dJ5_init_d00df_11 rfl (lv_at hl 1 rfl) ?_
  refine g_newB X hB (by decide) (N := 16) (by decide) (by decide) (by decide) ⟨Nat.le_of_ble_eq_true rfl, Nat.le_of_ble_eq_true rfl⟩ dJ5_init_d00df_12 (fun H hB => ?_)
  refine g_put X hname hB kl_J4 0 (by decide) (Or.inl rfl) rfl rfl (show 0 < 4 by decide) wm_369 dJ5_init_d00df_14 (fun H locs hB => ?_)
  refine lv_aload_n hx hb dJ5_init_d00df_17 rfl (lv_at hl 0 rfl) ?_
  refine lv_iconst (v := 0) hx hb dJ5_init_d00df_18 (by decide) ?_
  refine g_put X hname hB kl_J4 1 (by decide) (Or.inl rfl) rfl rfl (show 1 < 4 by decide) wm_370 dJ5_init_d00df_19 (fun H locs hB => ?_)
  refine lv_goto (tgt := 38) hx hb dJ5_init_d00df_22 (by decide) ?_
  have hlocks := X.2.2.2.2.2.2
  unfold nQ
  exact W.vret X.1 X.2.1 hr (fun t ht _ => ⟨rfl, by rw [ht]; exact sb_end hB hZ, by rw [ht]; exact hB.1, hB.2.2.2.2.1.F ht⟩) hB.2.2.2.2.1.2.2 dJ5_init_d00df_38
theorem dJ4_init_da8c8_0 : decode cJ4_init_da8c8 0 = .ok (.aload_n 0, 1) := by decide +kernel
theorem dJ4_init_da8c8_1 : decode cJ4_init_da8c8 1 = .ok (.bipush 16, 2) := by decide +kernel
theorem dJ4_init_da8c8_3 : decode cJ4_init_da8c8 3 = .ok (.invokespecial 1, 3) := by decide +kernel
theorem dJ4_init_da8c8_6 : decode cJ4_init_da8c8 6 = .ok (.return_, 1) := by decide +kernel
theorem f0_J4 : ∀ j, j < 4 → defaultValue (tyJ4 j) = vp_V [.null, .int 0, .int 0, .int 0] j
  | 0, _ => rfl
  | 1, _ => rfl
  | 2, _ => rfl
  | 3, _ => rfl
  | i + 4, h => absurd h (by omega)
theorem nv_J4 : nYv yJ4_init_da8c8 RJ4 cJ4_init_da8c8 1 4 := ⟨⟨rfl, rfl, by decide, by decide, rfl⟩, wm_354, wm_352, wm_11, wm_355⟩
theorem nJ4_init_da8c8 {l : Launch} : nMet l yJ4_init_da8c8 cJ4_init_da8c8 1 2 1 16 LSb 1 [.null, .int 0, .int 0, .int 0] (fun v => v 0 = 0) := by
  refine n_start (by decide +kernel) rfl wfSb (by decide) ?_
  intro p e s m args below meth c D E a v ls H locs hZ X hr hname hl hB
  have hx := X.1
  have hb := X.2.1
  refine lv_aload_n hx hb dJ4_init_da8c8_0 rfl (lv_at hl 0 rfl) ?_
  refine lv_bipush (v := 16) hx hb dJ4_init_da8c8_1 (by decide) ?_
  obtain ⟨b1, b2, b3, b4, b5, b6, b7, b8, b9⟩ := id hB
  have hpre : PreS s H (va_Pc [.ref a, .int 16] (nPre D E LSb a 1 [.null, .int 0, .int 0, .int 0])) (.ref a :: [.int 16]) := ⟨nBlind D E LSb a 1 _ [.int 16], fun U hU hWa => ⟨rfl, by rw [hU]; exact b1, by rw [hU]; exact b3, X.2.2.2.2.2.1.moved hWa, b7, by rw [hU]; exact bTx.moved hWa.alike (b9.kept (fun q q1 q2 => b5.2.1 q q1 q2))⟩⟩
  have hrun : va_Run p l e (rmOf 2 1 16) s m args below meth c H locs 0 0 1 16 (F0 m 3 ls [.int 16, .ref a]) [] (nPost D E LSb a v (Value.ref a :: [.int 16]).toArray) (fun q => a ≤ q) :=
    va_runI (As := [.int 16]) (Ts := wAll) ⟨X.1, X.2.1, X.2.2.1, X.2.2.2.1, X.2.2.2.2.1⟩ (nJ5_init_d00df D E a v hZ) (cwI 1 X.2.2.2.2.1 (wGoodC wm_358) rfl rfl rfl (X.2.2.2.2.1 _ wm_10) (X.2.2.2.2.1 _ wm_356) (X.2.2.2.2.1 _ wm_357) rfl ⟨by decide, by decide, rfl⟩ ⟨Nat.le_of_ble_eq_true rfl, Nat.le_of_ble_eq_true rfl⟩) hpre rfl rfl hl.1 rfl (Nat.le_of_ble_eq_true rfl) dJ4_init_da8c8_3 ⟨Nat.le_of_ble_eq_true rfl, Nat.le_of_ble_eq_true rfl⟩
  intro T hT Xs
  obtain ⟨w, st₀, t, T', L9, h0, X', hL, e3, e4, ⟨hv, hblk, hts, hz, hkp⟩, st⟩ := hrun T hT Xs
  cases hv
  rw [h0] at hz hkp
  have hS1 : va_S (fun q => a ≤ q) s.heap T'.heap (locs ++ L9) := ⟨by rw [e3]; omega, fun q h1 h2 => by rw [e3, hkp q (by omega) h2]; exact b5.2.1 q h1 h2, fun q hq => by
    rcases List.mem_append.mp hq with h | h
    · exact b5.2.2 q h
    · exact hL q h⟩
  have hlocks := X.2.2.2.2.2.2
  have hend : W p l e (rmOf 2 1 16) s m args below meth c T'.heap (locs ++ L9) (0 + 1) (0 + 16) (nQ below D E LSb a v args s 1 16) (F0 m 6 ls []) := by
    unfold nQ
    exact W.vret X.1 X.2.1 hr (fun t9 ht9 _ => ⟨rfl, by rw [ht9, e3]; exact hblk, by rw [ht9, e3]; exact hts, hS1.F ht9⟩) hS1.2.2 dJ4_init_da8c8_6
  obtain ⟨t2, a1, r1⟩ := hend T' rfl X'
  exact ⟨t2, st _ a1, r1⟩
def LHi : List bC := .inl (7, [(0, 0), (0, 1), (1, 1)]) :: .inr (3, 8, 2, 71) :: (LSt.map (bSh 2 2) ++ (LSt.map (bSh 73 592) ++ (LSt.map (bSh 144 1182) ++ (LSt.map (bSh 215 1772) ++ (LSt.map (bSh 286 2362) ++ (LSt.map (bSh 357 2952) ++ (LSt.map (bSh 428 3542) ++ (LSt.map (bSh 499 4132)))))))))
theorem lenHi : LHi.length = 570 := by decide +kernel
theorem wfHi : bWf LHi := by unfold bWf; decide +kernel
theorem lc_Hi_0 : LHi[0]? = some (.inl (7, [(0, 0), (0, 1), (1, 1)])) := by decide +kernel
theorem lc_Hi_1 : LHi[1]? = some (.inr (3, 8, 2, 71)) := by decide +kernel
theorem sub_Hi_2 : bSub LHi 2 2 590 LSt := by unfold bSub bWf; decide +kernel
theorem lc_Hi_2 : LHi[2]? = some (.inl (10, [(0, 2), (0, 3), (0, 4), (0, 5), (0, 6), (0, 7), (1, 3), (1, 22), (1, 36), (1, 39)])) := by decide +kernel
theorem sub_Hi_73 : bSub LHi 73 592 590 LSt := by unfold bSub bWf; decide +kernel
theorem lc_Hi_73 : LHi[73]? = some (.inl (10, [(0, 592), (0, 593), (0, 594), (0, 595), (0, 596), (0, 597), (1, 74), (1, 93), (1, 107), (1, 110)])) := by decide +kernel
theorem sub_Hi_144 : bSub LHi 144 1182 590 LSt := by unfold bSub bWf; decide +kernel
theorem lc_Hi_144 : LHi[144]? = some (.inl (10, [(0, 1182), (0, 1183), (0, 1184), (0, 1185), (0, 1186), (0, 1187), (1, 145), (1, 164), (1, 178), (1, 181)])) := by decide +kernel
theorem sub_Hi_215 : bSub LHi 215 1772 590 LSt := by unfold bSub bWf; decide +kernel
theorem lc_Hi_215 : LHi[215]? = some (.inl (10, [(0, 1772), (0, 1773), (0, 1774), (0, 1775), (0, 1776), (0, 1777), (1, 216), (1, 235), (1, 249), (1, 252)])) := by decide +kernel
theorem sub_Hi_286 : bSub LHi 286 2362 590 LSt := by unfold bSub bWf; decide +kernel
theorem lc_Hi_286 : LHi[286]? = some (.inl (10, [(0, 2362), (0, 2363), (0, 2364), (0, 2365), (0, 2366), (0, 2367), (1, 287), (1, 306), (1, 320), (1, 323)])) := by decide +kernel
theorem sub_Hi_357 : bSub LHi 357 2952 590 LSt := by unfold bSub bWf; decide +kernel
theorem lc_Hi_357 : LHi[357]? = some (.inl (10, [(0, 2952), (0, 2953), (0, 2954), (0, 2955), (0, 2956), (0, 2957), (1, 358), (1, 377), (1, 391), (1, 394)])) := by decide +kernel
theorem sub_Hi_428 : bSub LHi 428 3542 590 LSt := by unfold bSub bWf; decide +kernel
theorem lc_Hi_428 : LHi[428]? = some (.inl (10, [(0, 3542), (0, 3543), (0, 3544), (0, 3545), (0, 3546), (0, 3547), (1, 429), (1, 448), (1, 462), (1, 465)])) := by decide +kernel
theorem sub_Hi_499 : bSub LHi 499 4132 590 LSt := by unfold bSub bWf; decide +kernel
theorem lc_Hi_499 : LHi[499]? = some (.inl (10, [(0, 4132), (0, 4133), (0, 4134), (0, 4135), (0, 4136), (0, 4137), (1, 500), (1, 519), (1, 533), (1, 536)])) := by decide +kernel
theorem dX3_init_0 : decode cX3_init 0 = .ok (.aload_n 0, 1) := by decide +kernel
theorem dX3_init_1 : decode cX3_init 1 = .ok (.invokespecial 3, 3) := by decide +kernel
theorem dX3_init_4 : decode cX3_init 4 = .ok (.aload_n 0, 1) := by decide +kernel
theorem dX3_init_5 : decode cX3_init 5 = .ok (.bipush 8, 2) := by decide +kernel
theorem dX3_init_7 : decode cX3_init 7 = .ok (.anewarray 9, 3) := by decide +kernel
theorem dX3_init_10 : decode cX3_init 10 = .ok (.putfield 11, 3) := by decide +kernel
theorem dX3_init_13 : decode cX3_init 13 = .ok (.iconst 0, 1) := by decide +kernel
theorem dX3_init_14 : decode cX3_init 14 = .ok (.istore_n 1, 1) := by decide +kernel
theorem dX3_init_15 : decode cX3_init 15 = .ok (.iload_n 1, 1) := by decide +kernel
theorem dX3_init_16 : decode cX3_init 16 = .ok (.bipush 8, 2) := by decide +kernel
theorem dX3_init_18 : decode cX3_init 18 = .ok (.if_icmp .ge 22, 3) := by decide +kernel
theorem dX3_init_21 : decode cX3_init 21 = .ok (.aload_n 0, 1) := by decide +kernel
theorem dX3_init_22 : decode cX3_init 22 = .ok (.getfield 11, 3) := by decide +kernel
theorem dX3_init_25 : decode cX3_init 25 = .ok (.iload_n 1, 1) := by decide +kernel
theorem dX3_init_26 : decode cX3_init 26 = .ok (.new 9, 3) := by decide +kernel
theorem dX3_init_29 : decode cX3_init 29 = .ok (.dup, 1) := by decide +kernel
theorem dX3_init_30 : decode cX3_init 30 = .ok (.invokespecial 17, 3) := by decide +kernel
theorem dX3_init_33 : decode cX3_init 33 = .ok (.aastore, 1) := by decide +kernel
theorem dX3_init_34 : decode cX3_init 34 = .ok (.iinc 1 1, 3) := by decide +kernel
theorem dX3_init_37 : decode cX3_init 37 = .ok (.goto (-22), 3) := by decide +kernel
theorem dX3_init_40 : decode cX3_init 40 = .ok (.return_, 1) := by decide +kernel
theorem f0_X3 : ∀ j, j < 3 → defaultValue (tyX3 j) = vp_V [.int 0, .int 0, .null] j
  | 0, _ => rfl
  | 1, _ => rfl
  | 2, _ => rfl
  | i + 3, h => absurd h (by omega)
theorem nv_X3 : nYv yX3_init RX3 cX3_init 2 3 := ⟨⟨rfl, rfl, by decide, by decide, rfl⟩, wm_266, wm_264, wm_7, wm_267⟩
theorem hT_Hi (n : Nat) : (LHi.take n).all (fun d => match d with | .inl _ => true | .inr x => decide (x.1 < 9)) = true := by
  have h : LHi.all (fun d => match d with | .inl _ => true | .inr x => decide (x.1 < 9)) = true := by decide +kernel
  exact List.all_eq_true.mpr (fun x hx => List.all_eq_true.mp h x (List.mem_of_mem_take hx))
theorem nX3_init {l : Launch} : nMet l yX3_init cX3_init 2 3 569 5288 LHi 7 [.int 0, .int 0, .null] (fun v => ∀ x, x < 4722 → v x = 0) := by
  refine n_start (by decide +kernel) rfl wfHi (by decide) ?_
  intro p e s m args below meth c D E a v ls H locs hZ X hr hname hl hB
  have hx := X.1
  have hb := X.2.1
  refine lv_aload_n hx hb dX3_init_0 rfl (lv_at hl 0 rfl) ?_
  refine g_obj X wm_268 hl.1 dX3_init_1 ⟨Nat.le_of_ble_eq_true rfl, Nat.le_of_ble_eq_true rfl⟩ ?_
  refine lv_aload_n hx hb dX3_init_4 rfl (lv_at hl 0 rfl) ?_
  refine lv_bipush (v := 8) hx hb dX3_init_5 (by decide) ?_
  refine g_newq X hB (by decide) (N := 8) (by decide) (by decide) (by decide) wm_269 ⟨Nat.le_of_ble_eq_true rfl, Nat.le_of_ble_eq_true rfl⟩ dX3_init_7 (fun H hB => ?_)
  refine g_put X hname hB kl_X3 2 (by decide) (Or.inr rfl) rfl rfl (show 2 < 3 by decide) wm_275 dX3_init_10 (fun H locs hB => ?_)
  have hB : gB D E LHi a v s 2 7 [.int 0, .int 0, .ref (a + 1)] _ H locs := hB
  refine lv_iconst (v := 0) hx hb dX3_init_13 (by decide) ?_
  refine lv_istore_n (lv' := [(1, .int 0), (0, .ref a)]) hx hb dX3_init_14 rfl hl (by decide) rfl (fun ls hl => ?_)
  refine lv_iload_n hx hb dX3_init_15 rfl (lv_at hl 0 rfl) ?_
  refine lv_bipush (v := 8) hx hb dX3_init_16 (by decide) ?_
  refine lv_icmp_ge (tgt := 40) hx hb dX3_init_18 (by decide) (fun h => absurd h (by decide)) (fun _ => ?_)
  refine lv_aload_n hx hb dX3_init_21 rfl (lv_at hl 1 rfl) ?_
  refine g_get0 X hB kl_X3 2 (by decide) rfl wm_275 dX3_init_22 ?_
  refine lv_iload_n hx hb dX3_init_25 rfl (lv_at hl 0 rfl) ?_
  refine g_new X hB nX6_init nv_X6 kl_X6 f0_X6 sub_Hi_2 (fun x hx => hZ (2 + x) (by omega)) wm_269 (Or.inl (List.mem_of_getElem? (i := 5) rfl)) ⟨Nat.le_of_ble_eq_true rfl, Nat.le_of_ble_eq_true rfl⟩ hl.1 (Nat.le_of_ble_eq_true rfl) ⟨Nat.le_of_ble_eq_true rfl, Nat.le_of_ble_eq_true rfl⟩ dX3_init_26 dX3_init_29 dX3_init_30 (fun H locs hB => ?_)
  have hB : gB D E LHi a v s 73 7 [.int 0, .int 0, .ref (a + 1)] _ H locs := hB
  refine g_aast X hB (hT_Hi 73) lc_Hi_2 (by decide) (by decide) (by decide) (i9 := 0) (by decide) (show ¬ ((0 : Int32) < 0 ∨ 8 ≤ (0 : Int32).toNatClampNeg) by decide) dX3_init_33 (fun H locs hB => ?_)
  refine lv_iinc (v := 1) (lv' := [(1, .int 1), (0, .ref a)]) hx hb dX3_init_34 hl (k := 0) rfl (by decide) (by decide) rfl (fun ls hl => ?_)
  refine lv_goto (tgt := 15) hx hb dX3_init_37 (by decide) ?_
  refine lv_iload_n hx hb dX3_init_15 rfl (lv_at hl 0 rfl) ?_
  refine lv_bipush (v := 8) hx hb dX3_init_16 (by decide) ?_
  refine lv_icmp_ge (tgt := 40) hx hb dX3_init_18 (by decide) (fun h => absurd h (by decide)) (fun _ => ?_)
  refine lv_aload_n hx hb dX3_init_21 rfl (lv_at hl 1 rfl) ?_
  refine g_get0 X hB kl_X3 2 (by decide) rfl wm_275 dX3_init_22 ?_
  refine lv_iload_n hx hb dX3_init_25 rfl (lv_at hl 0 rfl) ?_
  refine g_new X hB nX6_init nv_X6 kl_X6 f0_X6 sub_Hi_73 (fun x hx => hZ (592 + x) (by omega)) wm_269 (Or.inl (List.mem_of_getElem? (i := 5) rfl)) ⟨Nat.le_of_ble_eq_true rfl, Nat.le_of_ble_eq_true rfl⟩ hl.1 (Nat.le_of_ble_eq_true rfl) ⟨Nat.le_of_ble_eq_true rfl, Nat.le_of_ble_eq_true rfl⟩ dX3_init_26 dX3_init_29 dX3_init_30 (fun H locs hB => ?_)
  have hB : gB D E LHi a v s 144 7 [.int 0, .int 0, .ref (a + 1)] _ H locs := hB
  refine g_aast X hB (hT_Hi 144) lc_Hi_73 (by decide) (by decide) (by decide) (i9 := 1) (by decide) (show ¬ ((1 : Int32) < 0 ∨ 8 ≤ (1 : Int32).toNatClampNeg) by decide) dX3_init_33 (fun H locs hB => ?_)
  refine lv_iinc (v := 2) (lv' := [(1, .int 2), (0, .ref a)]) hx hb dX3_init_34 hl (k := 0) rfl (by decide) (by decide) rfl (fun ls hl => ?_)
  refine lv_goto (tgt := 15) hx hb dX3_init_37 (by decide) ?_
  refine lv_iload_n hx hb dX3_init_15 rfl (lv_at hl 0 rfl) ?_
  refine lv_bipush (v := 8) hx hb dX3_init_16 (by decide) ?_
  refine lv_icmp_ge (tgt := 40) hx hb dX3_init_18 (by decide) (fun h => absurd h (by decide)) (fun _ => ?_)
  refine lv_aload_n hx hb dX3_init_21 rfl (lv_at hl 1 rfl) ?_
  refine g_get0 X hB kl_X3 2 (by decide) rfl wm_275 dX3_init_22 ?_
  refine lv_iload_n hx hb dX3_init_25 rfl (lv_at hl 0 rfl) ?_
  refine g_new X hB nX6_init nv_X6 kl_X6 f0_X6 sub_Hi_144 (fun x hx => hZ (1182 + x) (by omega)) wm_269 (Or.inl (List.mem_of_getElem? (i := 5) rfl)) ⟨Nat.le_of_ble_eq_true rfl, Nat.le_of_ble_eq_true rfl⟩ hl.1 (Nat.le_of_ble_eq_true rfl) ⟨Nat.le_of_ble_eq_true rfl, Nat.le_of_ble_eq_true rfl⟩ dX3_init_26 dX3_init_29 dX3_init_30 (fun H locs hB => ?_)
  have hB : gB D E LHi a v s 215 7 [.int 0, .int 0, .ref (a + 1)] _ H locs := hB
  refine g_aast X hB (hT_Hi 215) lc_Hi_144 (by decide) (by decide) (by decide) (i9 := 2) (by decide) (show ¬ ((2 : Int32) < 0 ∨ 8 ≤ (2 : Int32).toNatClampNeg) by decide) dX3_init_33 (fun H locs hB => ?_)
  refine lv_iinc (v := 3) (lv' := [(1, .int 3), (0, .ref a)]) hx hb dX3_init_34 hl (k := 0) rfl (by decide) (by decide) rfl (fun ls hl => ?_)
  refine lv_goto (tgt := 15) hx hb dX3_init_37 (by decide) ?_
  refine lv_iload_n hx hb dX3_init_15 rfl (lv_at hl 0 rfl) ?_
  refine lv_bipush (v := 8) hx hb dX3_init_16 (by decide) ?_
  refine lv_icmp_ge (tgt := 40) hx hb dX3_init_18 (by decide) (fun h => absurd h (by decide)) (fun _ => ?_)
  refine lv_aload_n hx hb dX3_init_21 rfl (lv_at hl 1 rfl) ?_
  refine g_get0 X hB kl_X3 2 (by decide) rfl wm_275 dX3_init_22 ?_
  refine lv_iload_n hx hb dX3_init_25 rfl (lv_at hl 0 rfl) ?_
  refine g_new X hB nX6_init nv_X6 kl_X6 f0_X6 sub_Hi_215 (fun x hx => hZ (1772 + x) (by omega)) wm_269 (Or.inl (List.mem_of_getElem? (i := 5) rfl)) ⟨Nat.le_of_ble_eq_true rfl, Nat.le_of_ble_eq_true rfl⟩ hl.1 (Nat.le_of_ble_eq_true rfl) ⟨Nat.le_of_ble_eq_true rfl, Nat.le_of_ble_eq_true rfl⟩ dX3_init_26 dX3_init_29 dX3_init_30 (fun H locs hB => ?_)
  have hB : gB D E LHi a v s 286 7 [.int 0, .int 0, .ref (a + 1)] _ H locs := hB
  refine g_aast X hB (hT_Hi 286) lc_Hi_215 (by decide) (by decide) (by decide) (i9 := 3) (by decide) (show ¬ ((3 : Int32) < 0 ∨ 8 ≤ (3 : Int32).toNatClampNeg) by decide) dX3_init_33 (fun H locs hB => ?_)
  refine lv_iinc (v := 4) (lv' := [(1, .int 4), (0, .ref a)]) hx hb dX3_init_34 hl (k := 0) rfl (by decide) (by decide) rfl (fun ls hl => ?_)
  refine lv_goto (tgt := 15) hx hb dX3_init_37 (by decide) ?_
  refine lv_iload_n hx hb dX3_init_15 rfl (lv_at hl 0 rfl) ?_
  refine lv_bipush (v := 8) hx hb dX3_init_16 (by decide) ?_
  refine lv_icmp_ge (tgt := 40) hx hb dX3_init_18 (by decide) (fun h => absurd h (by decide)) (fun _ => ?_)
  refine lv_aload_n hx hb dX3_init_21 rfl (lv_at hl 1 rfl) ?_
  refine g_get0 X hB kl_X3 2 (by decide) rfl wm_275 dX3_init_22 ?_
  refine lv_iload_n hx hb dX3_init_25 rfl (lv_at hl 0 rfl) ?_
  refine g_new X hB nX6_init nv_X6 kl_X6 f0_X6 sub_Hi_286 (fun x hx => hZ (2362 + x) (by omega)) wm_269 (Or.inl (List.mem_of_getElem? (i := 5) rfl)) ⟨Nat.le_of_ble_eq_true rfl, Nat.le_of_ble_eq_true rfl⟩ hl.1 (Nat.le_of_ble_eq_true rfl) ⟨Nat.le_of_ble_eq_true rfl, Nat.le_of_ble_eq_true rfl⟩ dX3_init_26 dX3_init_29 dX3_init_30 (fun H locs hB => ?_)
  have hB : gB D E LHi a v s 357 7 [.int 0, .int 0, .ref (a + 1)] _ H locs := hB
  refine g_aast X hB (hT_Hi 357) lc_Hi_286 (by decide) (by decide) (by decide) (i9 := 4) (by decide) (show ¬ ((4 : Int32) < 0 ∨ 8 ≤ (4 : Int32).toNatClampNeg) by decide) dX3_init_33 (fun H locs hB => ?_)
  refine lv_iinc (v := 5) (lv' := [(1, .int 5), (0, .ref a)]) hx hb dX3_init_34 hl (k := 0) rfl (by decide) (by decide) rfl (fun ls hl => ?_)
  refine lv_goto (tgt := 15) hx hb dX3_init_37 (by decide) ?_
  refine lv_iload_n hx hb dX3_init_15 rfl (lv_at hl 0 rfl) ?_
  refine lv_bipush (v := 8) hx hb dX3_init_16 (by decide) ?_
  refine lv_icmp_ge (tgt := 40) hx hb dX3_init_18 (by decide) (fun h => absurd h (by decide)) (fun _ => ?_)
  refine lv_aload_n hx hb dX3_init_21 rfl (lv_at hl 1 rfl) ?_
  refine g_get0 X hB kl_X3 2 (by decide) rfl wm_275 dX3_init_22 ?_
  refine lv_iload_n hx hb dX3_init_25 rfl (lv_at hl 0 rfl) ?_
  refine g_new X hB nX6_init nv_X6 kl_X6 f0_X6 sub_Hi_357 (fun x hx => hZ (2952 + x) (by omega)) wm_269 (Or.inl (List.mem_of_getElem? (i := 5) rfl)) ⟨Nat.le_of_ble_eq_true rfl, Nat.le_of_ble_eq_true rfl⟩ hl.1 (Nat.le_of_ble_eq_true rfl) ⟨Nat.le_of_ble_eq_true rfl, Nat.le_of_ble_eq_true rfl⟩ dX3_init_26 dX3_init_29 dX3_init_30 (fun H locs hB => ?_)
  have hB : gB D E LHi a v s 428 7 [.int 0, .int 0, .ref (a + 1)] _ H locs := hB
  refine g_aast X hB (hT_Hi 428) lc_Hi_357 (by decide) (by decide) (by decide) (i9 := 5) (by decide) (show ¬ ((5 : Int32) < 0 ∨ 8 ≤ (5 : Int32).toNatClampNeg) by decide) dX3_init_33 (fun H locs hB => ?_)
  refine lv_iinc (v := 6) (lv' := [(1, .int 6), (0, .ref a)]) hx hb dX3_init_34 hl (k := 0) rfl (by decide) (by decide) rfl (fun ls hl => ?_)
  refine lv_goto (tgt := 15) hx hb dX3_init_37 (by decide) ?_
  refine lv_iload_n hx hb dX3_init_15 rfl (lv_at hl 0 rfl) ?_
  refine lv_bipush (v := 8) hx hb dX3_init_16 (by decide) ?_
  refine lv_icmp_ge (tgt := 40) hx hb dX3_init_18 (by decide) (fun h => absurd h (by decide)) (fun _ => ?_)
  refine lv_aload_n hx hb dX3_init_21 rfl (lv_at hl 1 rfl) ?_
  refine g_get0 X hB kl_X3 2 (by decide) rfl wm_275 dX3_init_22 ?_
  refine lv_iload_n hx hb dX3_init_25 rfl (lv_at hl 0 rfl) ?_
  refine g_new X hB nX6_init nv_X6 kl_X6 f0_X6 sub_Hi_428 (fun x hx => hZ (3542 + x) (by omega)) wm_269 (Or.inl (List.mem_of_getElem? (i := 5) rfl)) ⟨Nat.le_of_ble_eq_true rfl, Nat.le_of_ble_eq_true rfl⟩ hl.1 (Nat.le_of_ble_eq_true rfl) ⟨Nat.le_of_ble_eq_true rfl, Nat.le_of_ble_eq_true rfl⟩ dX3_init_26 dX3_init_29 dX3_init_30 (fun H locs hB => ?_)
  have hB : gB D E LHi a v s 499 7 [.int 0, .int 0, .ref (a + 1)] _ H locs := hB
  refine g_aast X hB (hT_Hi 499) lc_Hi_428 (by decide) (by decide) (by decide) (i9 := 6) (by decide) (show ¬ ((6 : Int32) < 0 ∨ 8 ≤ (6 : Int32).toNatClampNeg) by decide) dX3_init_33 (fun H locs hB => ?_)
  refine lv_iinc (v := 7) (lv' := [(1, .int 7), (0, .ref a)]) hx hb dX3_init_34 hl (k := 0) rfl (by decide) (by decide) rfl (fun ls hl => ?_)
  refine lv_goto (tgt := 15) hx hb dX3_init_37 (by decide) ?_
  refine lv_iload_n hx hb dX3_init_15 rfl (lv_at hl 0 rfl) ?_
  refine lv_bipush (v := 8) hx hb dX3_init_16 (by decide) ?_
  refine lv_icmp_ge (tgt := 40) hx hb dX3_init_18 (by decide) (fun h => absurd h (by decide)) (fun _ => ?_)
  refine lv_aload_n hx hb dX3_init_21 rfl (lv_at hl 1 rfl) ?_
  refine g_get0 X hB kl_X3 2 (by decide) rfl wm_275 dX3_init_22 ?_
  refine lv_iload_n hx hb dX3_init_25 rfl (lv_at hl 0 rfl) ?_
  refine g_new X hB nX6_init nv_X6 kl_X6 f0_X6 sub_Hi_499 (fun x hx => hZ (4132 + x) (by omega)) wm_269 (Or.inl (List.mem_of_getElem? (i := 5) rfl)) ⟨Nat.le_of_ble_eq_true rfl, Nat.le_of_ble_eq_true rfl⟩ hl.1 (Nat.le_of_ble_eq_true rfl) ⟨Nat.le_of_ble_eq_true rfl, Nat.le_of_ble_eq_true rfl⟩ dX3_init_26 dX3_init_29 dX3_init_30 (fun H locs hB => ?_)
  have hB : gB D E LHi a v s 570 7 [.int 0, .int 0, .ref (a + 1)] _ H locs := hB
  refine g_aast X hB (hT_Hi 570) lc_Hi_499 (by decide) (by decide) (by decide) (i9 := 7) (by decide) (show ¬ ((7 : Int32) < 0 ∨ 8 ≤ (7 : Int32).toNatClampNeg) by decide) dX3_init_33 (fun H locs hB => ?_)
  refine lv_iinc (v := 8) (lv' := [(1, .int 8), (0, .ref a)]) hx hb dX3_init_34 hl (k := 0) rfl (by decide) (by decide) rfl (fun ls hl => ?_)
  refine lv_goto (tgt := 15) hx hb dX3_init_37 (by decide) ?_
  refine lv_iload_n hx hb dX3_init_15 rfl (lv_at hl 0 rfl) ?_
  refine lv_bipush (v := 8) hx hb dX3_init_16 (by decide) ?_
  refine lv_icmp_ge (tgt := 40) hx hb dX3_init_18 (by decide) (fun _ => ?_) (fun h => absurd (by decide) h)
  have hB := hB.close lc_Hi_1 (fun h => by
    show H[a + 1]? = some (vp_cell (E.1.1 3) (bX a v (3, 8, 2, 71)))
    have h : H[a + 1]? = some (vp_cell (E.1.1 3) _) := h
    rw [h]
    unfold bX
    rw [if_neg (show ¬ (3 : Nat) < 2 by decide), vp_cell_q, vp_cell_q]
    refine congrArg some (arrV_ext (fun j hj => ?_))
    have h8 : j = 0 ∨ j = 1 ∨ j = 2 ∨ j = 3 ∨ j = 4 ∨ j = 5 ∨ j = 6 ∨ j = 7 := by omega
    rcases h8 with rfl | rfl | rfl | rfl | rfl | rfl | rfl | rfl <;> rfl)
  exact g_vret X hr hB lenHi.symm lc_Hi_0 (by show [Value.int (v 0), Value.int (v 1), Value.ref (a + 1)] = _; rw [hZ 0 (by decide), hZ 1 (by decide)]) (Nat.le_of_ble_eq_true rfl) (Nat.le_of_ble_eq_true rfl) dX3_init_40
