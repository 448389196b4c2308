/-! ===== the JDK's StringBuilder: append(int) ===== -/
/-- t: the letters of the number x -/
def sNum (x : Int32) (t : List Nat) : Prop := (∃ w, w < 2 ^ 31 ∧ x = nI w ∧ t = sDig w) ∨ (∃ w, 0 < w ∧ w < 2 ^ 31 ∧ x = -nI w ∧ t = 45 :: sDig w)
theorem sNum_len {x : Int32} {t : List Nat} (h : sNum x t) : 1 ≤ t.length ∧ t.length ≤ 11 := by
  rcases h with ⟨w, _, _, rfl⟩ | ⟨w, _, _, _, rfl⟩
  · have := sb_dg_in w; rw [sDig_len]; omega
  · have := sb_dg_in w; rw [List.length_cons, sDig_len]; omega
theorem mJ6_size {l : Launch} {x : Int32} {t : List Nat} {v : bM} (h : sNum x t) : bMet l yJ6_stringSize_0f7a4 cJ6_stringSize_0f7a4 4 (some .int) 0 0 0 [] (fun _ _ => [.int x]) v v (fun _ => some (.int (nI t.length))) := by
  rcases h with ⟨w, h1, rfl, rfl⟩ | ⟨w, h0, h1, rfl, rfl⟩
  · rw [sDig_len]; exact mJ6_stringSize h1
  · rw [List.length_cons, sDig_len]; exact mJ6_stringSizeN h0 h1
theorem mJ6_chars {l : Launch} {x : Int32} {t : List Nat} {σ : sG} {n0 : Nat} (h : sNum x t) (hcap : σ.2.1 ≤ 1000) (hp : n0 + t.length ≤ σ.2.1) (hF : sb_Fit σ.2.2.1) : sMet l yJ6_getChars_ba4f3 cJ6_getChars_ba4f3 7 (some .int) 0 0 0 (fun E q => [.int x, .int (nI (n0 + t.length)), .ref σ.1]) σ (sPo (fun σ' => σ'.1 = σ.1 ∧ σ'.2.1 = σ.2.1 ∧ σ'.2.2.2 = σ.2.2.2 ∧ sb_Fit σ'.2.2.1 ∧ (∀ j, j < n0 → σ'.2.2.1 j = σ.2.2.1 j) ∧ ∀ i, i < t.length → σ'.2.2.1 (n0 + i) = sb_b (t.getD i 0)) (fun _ _ => some (.int (nI n0)))) := by
  rcases h with ⟨w, h1, rfl, rfl⟩ | ⟨w, h0, h1, rfl, rfl⟩
  · rw [sDig_len] at hp ⊢; exact mJ6_getChars h1 hcap hp hF
  · rw [List.length_cons, sDig_len] at hp ⊢; exact mJ6_getCharsN h1 h0 hcap hp hF
theorem dJ5_append_c97b9_0 : decode cJ5_append_c97b9 0 = .ok (.aload_n 0, 1) := by decide +kernel
theorem dJ5_append_c97b9_1 : decode cJ5_append_c97b9 1 = .ok (.getfield 79, 3) := by decide +kernel
theorem dJ5_append_c97b9_4 : decode cJ5_append_c97b9 4 = .ok (.istore_n 2, 1) := by decide +kernel
theorem dJ5_append_c97b9_5 : decode cJ5_append_c97b9 5 = .ok (.iload_n 2, 1) := by decide +kernel
theorem dJ5_append_c97b9_6 : decode cJ5_append_c97b9 6 = .ok (.iload_n 1, 1) := by decide +kernel
theorem dJ5_append_c97b9_7 : decode cJ5_append_c97b9 7 = .ok (.invokestatic 245, 3) := by decide +kernel
theorem dJ5_append_c97b9_10 : decode cJ5_append_c97b9 10 = .ok (.iadd, 1) := by decide +kernel
theorem dJ5_append_c97b9_11 : decode cJ5_append_c97b9 11 = .ok (.istore_n 3, 1) := by decide +kernel
theorem dJ5_append_c97b9_12 : decode cJ5_append_c97b9 12 = .ok (.aload_n 0, 1) := by decide +kernel
theorem dJ5_append_c97b9_13 : decode cJ5_append_c97b9 13 = .ok (.iload_n 3, 1) := by decide +kernel
theorem dJ5_append_c97b9_14 : decode cJ5_append_c97b9 14 = .ok (.invokevirtual 100, 3) := by decide +kernel
theorem dJ5_append_c97b9_17 : decode cJ5_append_c97b9 17 = .ok (.aload_n 0, 1) := by decide +kernel
theorem dJ5_append_c97b9_18 : decode cJ5_append_c97b9 18 = .ok (.invokevirtual 83, 3) := by decide +kernel
theorem dJ5_append_c97b9_21 : decode cJ5_append_c97b9 21 = .ok (.ifCond .eq 16, 3) := by decide +kernel
theorem dJ5_append_c97b9_24 : decode cJ5_append_c97b9 24 = .ok (.iload_n 1, 1) := by decide +kernel
theorem dJ5_append_c97b9_25 : decode cJ5_append_c97b9 25 = .ok (.iload_n 3, 1) := by decide +kernel
theorem dJ5_append_c97b9_26 : decode cJ5_append_c97b9 26 = .ok (.aload_n 0, 1) := by decide +kernel
theorem dJ5_append_c97b9_27 : decode cJ5_append_c97b9 27 = .ok (.getfield 15, 3) := by decide +kernel
theorem dJ5_append_c97b9_30 : decode cJ5_append_c97b9 30 = .ok (.invokestatic 248, 3) := by decide +kernel
theorem dJ5_append_c97b9_33 : decode cJ5_append_c97b9 33 = .ok (.pop, 1) := by decide +kernel
theorem dJ5_append_c97b9_34 : decode cJ5_append_c97b9 34 = .ok (.goto 14, 3) := by decide +kernel
theorem dJ5_append_c97b9_37 : decode cJ5_append_c97b9 37 = .ok (.iload_n 1, 1) := by decide +kernel
theorem dJ5_append_c97b9_38 : decode cJ5_append_c97b9 38 = .ok (.iload_n 2, 1) := by decide +kernel
theorem dJ5_append_c97b9_39 : decode cJ5_append_c97b9 39 = .ok (.iload_n 3, 1) := by decide +kernel
theorem dJ5_append_c97b9_40 : decode cJ5_append_c97b9 40 = .ok (.aload_n 0, 1) := by decide +kernel
theorem dJ5_append_c97b9_41 : decode cJ5_append_c97b9 41 = .ok (.getfield 15, 3) := by decide +kernel
theorem dJ5_append_c97b9_44 : decode cJ5_append_c97b9 44 = .ok (.invokestatic 251, 3) := by decide +kernel
theorem dJ5_append_c97b9_47 : decode cJ5_append_c97b9 47 = .ok (.pop, 1) := by decide +kernel
theorem dJ5_append_c97b9_48 : decode cJ5_append_c97b9 48 = .ok (.aload_n 0, 1) := by decide +kernel
theorem dJ5_append_c97b9_49 : decode cJ5_append_c97b9 49 = .ok (.iload_n 3, 1) := by decide +kernel
theorem dJ5_append_c97b9_50 : decode cJ5_append_c97b9 50 = .ok (.putfield 79, 3) := by decide +kernel
theorem dJ5_append_c97b9_53 : decode cJ5_append_c97b9 53 = .ok (.aload_n 0, 1) := by decide +kernel
theorem dJ5_append_c97b9_54 : decode cJ5_append_c97b9 54 = .ok (.areturn, 1) := by decide +kernel
set_option maxRecDepth 100000 in
set_option maxHeartbeats 2000000 in
theorem mJ5_append_c97b9 {l : Launch} {σ : sG} {x : Int32} {t : List Nat} (hx9 : sNum x t) (hn : σ.2.2.2.2 < 89) (hcap : σ.2.1 ≤ 1000) (hnc : σ.2.2.2.2 ≤ σ.2.1) (hF : sb_Fit σ.2.2.1) : sMet l yJ5_append_c97b9 cJ5_append_c97b9 4 (some (.object "java/lang/AbstractStringBuilder")) 4 1 201 (fun E q => [.ref q, .int x]) σ (sPo (sApp t σ) (fun _ q => some (.ref q))) := by
  refine sk_start (by decide +kernel) (fun _ _ => Nat.le_of_ble_eq_true rfl) ?_
  intro p e s m args below meth c D E a q ls H locs X hr hl hB
  have hx := X.1
  have hb := X.2.1
  have hown := X.2.2.2.1
  have hts := X.2.2.2.2.1
  have hl : lv_has ls 4 [(0, .ref q), (1, .int x)] := hl
  have ht9 := sNum_len hx9
  refine lv_aload_n hx hb dJ5_append_c97b9_0 rfl (lv_at hl 0 rfl) ?_
  refine sk_get X hB 3 (by decide) wm_373 rfl dJ5_append_c97b9_1 ?_
  refine lv_istore_n (lv' := [(2, .int (nI σ.2.2.2.2)), (0, .ref q), (1, .int x)]) hx hb dJ5_append_c97b9_4 rfl hl (by decide) rfl (fun ls hl => ?_)
  refine lv_iload_n hx hb dJ5_append_c97b9_5 rfl (lv_at hl 0 rfl) ?_
  refine lv_iload_n hx hb dJ5_append_c97b9_6 rfl (lv_at hl 2 rfl) ?_
  refine sk_non (v0 := fun _ => 0) (w0 := fun _ => 0) hB (fun g1 g2 g3 => bk_runS X (Av := [.int x]) (rest := [.int (nI σ.2.2.2.2)]) (mJ6_size hx9) ys_J6_stringSize_0f7a4 wm_1483 ⟨Nat.le_of_ble_eq_true rfl, Nat.le_of_ble_eq_true rfl⟩ rfl rfl hl.1 g1 g2 g3 (Nat.le_of_ble_eq_true rfl) ⟨Nat.le_of_ble_eq_true rfl, Nat.le_of_ble_eq_true rfl⟩ dJ5_append_c97b9_7) (fun H locs hB => ?_)
  refine W.eq (g2 := F0 m 10 ls [.int (nI t.length), .int (nI σ.2.2.2.2)]) rfl ?_
  refine lv_iadd hx hb dJ5_append_c97b9_10 ?_
  rw [nI_add]
  refine lv_istore_n (lv' := [(3, .int (nI (σ.2.2.2.2 + t.length))), (2, .int (nI σ.2.2.2.2)), (0, .ref q), (1, .int x)]) hx hb dJ5_append_c97b9_11 rfl hl (by decide) rfl (fun ls hl => ?_)
  refine lv_aload_n hx hb dJ5_append_c97b9_12 rfl (lv_at hl 2 rfl) ?_
  refine lv_iload_n hx hb dJ5_append_c97b9_13 rfl (lv_at hl 0 rfl) ?_
  refine sk_goP hB (sk_runU X hB (Av := [.int (nI (σ.2.2.2.2 + t.length))]) (rest := []) (mJ5_ensure (show σ.2.2.2.2 + t.length ≤ 100 by omega) hcap hF) ⟨rfl, rfl⟩ wm_1392 wm_2271 (sel_priv (n := 4) ⟨by decide, by decide⟩ (hts _ wm_352) (X.face _ (List.mem_of_getElem? (i := 7) rfl)) (hts _ wm_1394) (hts _ wm_2271)) wm_1394 wm_1395 ⟨Nat.le_of_ble_eq_true rfl, Nat.le_of_ble_eq_true rfl⟩ rfl rfl hl.1 (Nat.le_of_ble_eq_true rfl) ⟨Nat.le_of_ble_eq_true rfl, Nat.le_of_ble_eq_true rfl⟩ dJ5_append_c97b9_14) (fun σ1 H locs h19 hB => ?_)
  obtain ⟨h20, h21, h22, h23, h24, h25⟩ := h19
  refine W.eq (g2 := F0 m 17 ls []) rfl ?_
  refine lv_aload_n hx hb dJ5_append_c97b9_17 rfl (lv_at hl 2 rfl) ?_
  refine sk_goP hB (sk_runU X hB (Av := []) (rest := []) mJ5_isLatin1_aae02 ⟨rfl, rfl⟩ wm_1421 wm_1423 (hts _ wm_1424) wm_1422 wm_1425 ⟨Nat.le_of_ble_eq_true rfl, Nat.le_of_ble_eq_true rfl⟩ rfl rfl hl.1 (Nat.le_of_ble_eq_true rfl) ⟨Nat.le_of_ble_eq_true rfl, Nat.le_of_ble_eq_true rfl⟩ dJ5_append_c97b9_18) (fun σ2 H locs h29 hB => ?_)
  rw [h29] at hB
  refine W.eq (g2 := F0 m 21 ls [.int 1]) rfl ?_
  refine lv_if_eq (tgt := 37) hx hb dJ5_append_c97b9_21 (by decide) (fun h => absurd h (by decide)) (fun _ => ?_)
  refine lv_iload_n hx hb dJ5_append_c97b9_24 rfl (lv_at hl 3 rfl) ?_
  refine lv_iload_n hx hb dJ5_append_c97b9_25 rfl (lv_at hl 0 rfl) ?_
  refine lv_aload_n hx hb dJ5_append_c97b9_26 rfl (lv_at hl 2 rfl) ?_
  refine sk_get X hB 0 (by decide) wm_369 rfl dJ5_append_c97b9_27 ?_
  refine sk_goP hB (sk_runS X hB (Av := [.int x, .int (nI (σ.2.2.2.2 + t.length)), .ref σ1.1]) (rest := []) (mJ6_chars hx9 h23 h21 h24) ys_J6_getChars_ba4f3 wm_1486 ⟨Nat.le_of_ble_eq_true rfl, Nat.le_of_ble_eq_true rfl⟩ rfl rfl hl.1 (Nat.le_of_ble_eq_true rfl) ⟨Nat.le_of_ble_eq_true rfl, Nat.le_of_ble_eq_true rfl⟩ dJ5_append_c97b9_30) (fun σ3 H locs h39 hB => ?_)
  obtain ⟨h40, h41, h42, h43, h44, h45⟩ := h39
  refine W.eq (g2 := F0 m 33 ls [.int (nI σ.2.2.2.2)]) rfl ?_
  refine lv_pop hx hb dJ5_append_c97b9_33 rfl ?_
  refine lv_goto (tgt := 48) hx hb dJ5_append_c97b9_34 (by decide) ?_
  refine lv_aload_n hx hb dJ5_append_c97b9_48 rfl (lv_at hl 2 rfl) ?_
  refine lv_iload_n hx hb dJ5_append_c97b9_49 rfl (lv_at hl 0 rfl) ?_
  refine sk_putN X hB wm_373 dJ5_append_c97b9_50 (fun H locs hB => ?_)
  refine lv_aload_n hx hb dJ5_append_c97b9_53 rfl (lv_at hl 2 rfl) ?_
  refine sk_aret X hr rfl (Or.inl ⟨_, rfl⟩) hB (hB.po (res := fun _ q => some (.ref q)) ⟨?_, ?_, ?_, h43, fun j hj => (h44 j hj).trans (h25 j (by omega)), h45⟩) (Nat.le_of_ble_eq_true rfl) (Nat.le_of_ble_eq_true rfl) dJ5_append_c97b9_54
  · show (σ3.2.2.2.1, _) = _
    rw [h42, h20]
  · show σ3.2.1 ≤ 1000
    omega
  · show _ ≤ σ3.2.1
    omega
theorem dJ4_append_bf812_0 : decode cJ4_append_bf812 0 = .ok (.aload_n 0, 1) := by decide +kernel
theorem dJ4_append_bf812_1 : decode cJ4_append_bf812 1 = .ok (.iload_n 1, 1) := by decide +kernel
theorem dJ4_append_bf812_2 : decode cJ4_append_bf812 2 = .ok (.invokespecial 53, 3) := by decide +kernel
theorem dJ4_append_bf812_5 : decode cJ4_append_bf812 5 = .ok (.pop, 1) := by decide +kernel
theorem dJ4_append_bf812_6 : decode cJ4_append_bf812 6 = .ok (.aload_n 0, 1) := by decide +kernel
theorem dJ4_append_bf812_7 : decode cJ4_append_bf812 7 = .ok (.areturn, 1) := by decide +kernel
set_option maxRecDepth 100000 in
set_option maxHeartbeats 2000000 in
theorem mJ4_append_bf812 {l : Launch} {σ : sG} {x : Int32} {t : List Nat} (hx9 : sNum x t) (hn : σ.2.2.2.2 < 89) (hcap : σ.2.1 ≤ 1000) (hnc : σ.2.2.2.2 ≤ σ.2.1) (hF : sb_Fit σ.2.2.1) : sMet l yJ4_append_bf812 cJ4_append_bf812 2 (some (.object "java/lang/StringBuilder")) 5 1 201 (fun E q => [.ref q, .int x]) σ (sPo (sApp t σ) (fun _ q => some (.ref q))) := by
  refine sk_start (by decide +kernel) (fun _ _ => Nat.le_of_ble_eq_true rfl) ?_
  intro p e s m args below meth c D E a q ls H locs X hr hl hB
  have hx := X.1
  have hb := X.2.1
  have hown := X.2.2.2.1
  have hts := X.2.2.2.2.1
  have hl : lv_has ls 2 [(0, .ref q), (1, .int x)] := hl
  refine lv_aload_n hx hb dJ4_append_bf812_0 rfl (lv_at hl 0 rfl) ?_
  refine lv_iload_n hx hb dJ4_append_bf812_1 rfl (lv_at hl 1 rfl) ?_
  refine sk_goP hB (sk_runSU X hB (Av := [.int x]) (rest := []) (mJ5_append_c97b9 hx9 hn hcap hnc hF) ⟨rfl, by decide, rfl⟩ wm_1480 wm_2276 wm_1481 wm_1482 ⟨Nat.le_of_ble_eq_true rfl, Nat.le_of_ble_eq_true rfl⟩ rfl rfl hl.1 (Nat.le_of_ble_eq_true rfl) ⟨Nat.le_of_ble_eq_true rfl, Nat.le_of_ble_eq_true rfl⟩ dJ4_append_bf812_2) (fun σ1 H locs h19 hB => ?_)
  refine W.eq (g2 := F0 m 5 ls [.ref q]) rfl ?_
  refine lv_pop hx hb dJ4_append_bf812_5 rfl ?_
  refine lv_aload_n hx hb dJ4_append_bf812_6 rfl (lv_at hl 0 rfl) ?_
  exact sk_aret X hr rfl (Or.inl ⟨_, rfl⟩) hB (hB.po (res := fun _ q => some (.ref q)) h19) (Nat.le_of_ble_eq_true rfl) (Nat.le_of_ble_eq_true rfl) dJ4_append_bf812_7
