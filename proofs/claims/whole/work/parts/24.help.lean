/-! ===== the helpers, one by one ===== -/
theorem dL_flourPrice_0 : decode cL_flourPrice 0 = .ok (.aload_n 2, 1) := by decide +kernel
theorem dL_flourPrice_1 : decode cL_flourPrice 1 = .ok (.iconst 0, 1) := by decide +kernel
theorem dL_flourPrice_2 : decode cL_flourPrice 2 = .ok (.aload_n 0, 1) := by decide +kernel
theorem dL_flourPrice_3 : decode cL_flourPrice 3 = .ok (.iload_n 1, 1) := by decide +kernel
theorem dL_flourPrice_4 : decode cL_flourPrice 4 = .ok (.invokevirtual 7, 3) := by decide +kernel
theorem dL_flourPrice_7 : decode cL_flourPrice 7 = .ok (.i2l, 1) := by decide +kernel
theorem dL_flourPrice_8 : decode cL_flourPrice 8 = .ok (.lastore, 1) := by decide +kernel
theorem dL_flourPrice_9 : decode cL_flourPrice 9 = .ok (.goto 6, 3) := by decide +kernel
theorem dL_flourPrice_12 : decode cL_flourPrice 12 = .ok (.astore_n 3, 1) := by decide +kernel
theorem dL_flourPrice_13 : decode cL_flourPrice 13 = .ok (.iconst 1, 1) := by decide +kernel
theorem dL_flourPrice_14 : decode cL_flourPrice 14 = .ok (.ireturn, 1) := by decide +kernel
theorem dL_flourPrice_15 : decode cL_flourPrice 15 = .ok (.iconst 0, 1) := by decide +kernel
theorem dL_flourPrice_16 : decode cL_flourPrice 16 = .ok (.ireturn, 1) := by decide +kernel
theorem hL_flourPrice {l : Launch} {p1 : Int32} {v : bM} {q : Int32} (hf : fX8_flourPrice p1 v = some q) : hMet l yL_flourPrice cL_flourPrice 4 [(0, 9, 12, 13)] 9 1 6 [.int p1] v 0 v (some q.toInt64) := by
  refine h_start (by decide +kernel) (fun _ _ => Nat.le_of_ble_eq_true rfl) ?_
  intro p e s m args below meth c D E a o f ls H locs X hr hxt hl hB
  have hx := X.1
  have hb := X.2.1
  have hl : lv_has ls 4 [(0, .ref a), (1, .int p1), (2, .ref o)] := hl
  refine lv_aload_n hx hb dL_flourPrice_0 rfl (lv_at hl 2 rfl) ?_
  refine lv_iconst (v := 0) hx hb dL_flourPrice_1 (by decide) ?_
  refine lv_aload_n hx hb dL_flourPrice_2 rfl (lv_at hl 0 rfl) ?_
  refine lv_iload_n hx hb dL_flourPrice_3 rfl (lv_at hl 1 rfl) ?_
  refine l_go hB (bk_runV X (Av := [.int p1]) (rest := [.int 0, .ref o]) (mX8_flourPrice hf) yv_X8_flourPrice wm_916 ⟨Nat.le_of_ble_eq_true rfl, Nat.le_of_ble_eq_true rfl⟩ rfl rfl hl.1 kl_X8.1 (hB.1.obj lcq_X_0) hB.1 hB.len hB.tx (Nat.le_of_ble_eq_true rfl) ⟨Nat.le_of_ble_eq_true rfl, Nat.le_of_ble_eq_true rfl⟩ dL_flourPrice_4) (fun H locs hB => ?_)
  refine W.eq (g2 := F0 m 7 ls [.int q, .int 0, .ref o]) rfl ?_
  refine lv_i2l (v := q.toInt64) hx hb dL_flourPrice_7 rfl ?_
  refine l_last X hB dL_flourPrice_8 (fun H locs hB => ?_)
  refine lv_goto (tgt := 15) hx hb dL_flourPrice_9 (by decide) ?_
  refine lv_iconst (v := 0) hx hb dL_flourPrice_15 (by decide) ?_
  exact l_iret X hr hB (fun x hx9 => by cases hx9; rfl) (Nat.le_of_ble_eq_true rfl) (Nat.le_of_ble_eq_true rfl) dL_flourPrice_16
theorem hxL_flourPrice_0 {l : Launch} (hlt : l.stackTraces = false) {p1 : Int32} {v : bM} (hf : xX8_flourPrice p1 v = some 0) : hMet l yL_flourPrice cL_flourPrice 4 [(0, 9, 12, 13)] 9 1 6 [.int p1] v 1 v none := by
  refine h_start (by decide +kernel) (fun _ _ => Nat.le_of_ble_eq_true rfl) ?_
  intro p e s m args below meth c D E a o f ls H locs X hr hxt hl hB
  have hx := X.1
  have hb := X.2.1
  have hl : lv_has ls 4 [(0, .ref a), (1, .int p1), (2, .ref o)] := hl
  refine lv_aload_n hx hb dL_flourPrice_0 rfl (lv_at hl 2 rfl) ?_
  refine lv_iconst (v := 0) hx hb dL_flourPrice_1 (by decide) ?_
  refine lv_aload_n hx hb dL_flourPrice_2 rfl (lv_at hl 0 rfl) ?_
  refine lv_iload_n hx hb dL_flourPrice_3 rfl (lv_at hl 1 rfl) ?_
  refine l_catch X hB (k := 0) (bk_runVX X (Av := [.int p1]) (rest := [.int 0, .ref o]) (mxX8_flourPrice hlt hf) yv_X8_flourPrice wm_916 ⟨Nat.le_of_ble_eq_true rfl, Nat.le_of_ble_eq_true rfl⟩ rfl rfl hl.1 kl_X8.1 (hB.1.obj lcq_X_0) hB.1 hB.len hB.tx (Nat.le_of_ble_eq_true rfl) ⟨Nat.le_of_ble_eq_true rfl, Nat.le_of_ble_eq_true rfl⟩ dL_flourPrice_4) [] ⟨0, 9, 12, 13⟩ [] (hxt.trans rfl) (fun z hz => by cases hz) rfl (by decide) wm_915 (List.mem_of_getElem? (i := 0) rfl) (fun H locs q hB => ?_)
  refine lv_astore_n (lv' := [(3, .ref q), (0, .ref a), (1, .int p1), (2, .ref o)]) hx hb dL_flourPrice_12 rfl hl (by decide) rfl (fun ls hl => ?_)
  refine lv_iconst (v := 1) hx hb dL_flourPrice_13 (by decide) ?_
  exact l_iret X hr hB (fun x hx9 => by cases hx9) (Nat.le_of_ble_eq_true rfl) (Nat.le_of_ble_eq_true rfl) dL_flourPrice_14
theorem dL_unitsOf_0 : decode cL_unitsOf 0 = .ok (.aload_n 2, 1) := by decide +kernel
theorem dL_unitsOf_1 : decode cL_unitsOf 1 = .ok (.iconst 0, 1) := by decide +kernel
theorem dL_unitsOf_2 : decode cL_unitsOf 2 = .ok (.aload_n 0, 1) := by decide +kernel
theorem dL_unitsOf_3 : decode cL_unitsOf 3 = .ok (.iload_n 1, 1) := by decide +kernel
theorem dL_unitsOf_4 : decode cL_unitsOf 4 = .ok (.invokevirtual 15, 3) := by decide +kernel
theorem dL_unitsOf_7 : decode cL_unitsOf 7 = .ok (.i2l, 1) := by decide +kernel
theorem dL_unitsOf_8 : decode cL_unitsOf 8 = .ok (.lastore, 1) := by decide +kernel
theorem dL_unitsOf_9 : decode cL_unitsOf 9 = .ok (.goto 6, 3) := by decide +kernel
theorem dL_unitsOf_12 : decode cL_unitsOf 12 = .ok (.astore_n 3, 1) := by decide +kernel
theorem dL_unitsOf_13 : decode cL_unitsOf 13 = .ok (.iconst 1, 1) := by decide +kernel
theorem dL_unitsOf_14 : decode cL_unitsOf 14 = .ok (.ireturn, 1) := by decide +kernel
theorem dL_unitsOf_15 : decode cL_unitsOf 15 = .ok (.iconst 0, 1) := by decide +kernel
theorem dL_unitsOf_16 : decode cL_unitsOf 16 = .ok (.ireturn, 1) := by decide +kernel
theorem hL_unitsOf {l : Launch} {p1 : Int32} {v : bM} {q : Int32} (hf : fX8_unitsOf p1 v = some q) : hMet l yL_unitsOf cL_unitsOf 4 [(0, 9, 12, 13)] 9 1 6 [.int p1] v 0 v (some q.toInt64) := by
  refine h_start (by decide +kernel) (fun _ _ => Nat.le_of_ble_eq_true rfl) ?_
  intro p e s m args below meth c D E a o f ls H locs X hr hxt hl hB
  have hx := X.1
  have hb := X.2.1
  have hl : lv_has ls 4 [(0, .ref a), (1, .int p1), (2, .ref o)] := hl
  refine lv_aload_n hx hb dL_unitsOf_0 rfl (lv_at hl 2 rfl) ?_
  refine lv_iconst (v := 0) hx hb dL_unitsOf_1 (by decide) ?_
  refine lv_aload_n hx hb dL_unitsOf_2 rfl (lv_at hl 0 rfl) ?_
  refine lv_iload_n hx hb dL_unitsOf_3 rfl (lv_at hl 1 rfl) ?_
  refine l_go hB (bk_runV X (Av := [.int p1]) (rest := [.int 0, .ref o]) (mX8_unitsOf hf) yv_X8_unitsOf wm_1000 ⟨Nat.le_of_ble_eq_true rfl, Nat.le_of_ble_eq_true rfl⟩ rfl rfl hl.1 kl_X8.1 (hB.1.obj lcq_X_0) hB.1 hB.len hB.tx (Nat.le_of_ble_eq_true rfl) ⟨Nat.le_of_ble_eq_true rfl, Nat.le_of_ble_eq_true rfl⟩ dL_unitsOf_4) (fun H locs hB => ?_)
  refine W.eq (g2 := F0 m 7 ls [.int q, .int 0, .ref o]) rfl ?_
  refine lv_i2l (v := q.toInt64) hx hb dL_unitsOf_7 rfl ?_
  refine l_last X hB dL_unitsOf_8 (fun H locs hB => ?_)
  refine lv_goto (tgt := 15) hx hb dL_unitsOf_9 (by decide) ?_
  refine lv_iconst (v := 0) hx hb dL_unitsOf_15 (by decide) ?_
  exact l_iret X hr hB (fun x hx9 => by cases hx9; rfl) (Nat.le_of_ble_eq_true rfl) (Nat.le_of_ble_eq_true rfl) dL_unitsOf_16
theorem hxL_unitsOf_0 {l : Launch} (hlt : l.stackTraces = false) {p1 : Int32} {v : bM} (hf : xX8_unitsOf p1 v = some 0) : hMet l yL_unitsOf cL_unitsOf 4 [(0, 9, 12, 13)] 9 1 6 [.int p1] v 1 v none := by
  refine h_start (by decide +kernel) (fun _ _ => Nat.le_of_ble_eq_true rfl) ?_
  intro p e s m args below meth c D E a o f ls H locs X hr hxt hl hB
  have hx := X.1
  have hb := X.2.1
  have hl : lv_has ls 4 [(0, .ref a), (1, .int p1), (2, .ref o)] := hl
  refine lv_aload_n hx hb dL_unitsOf_0 rfl (lv_at hl 2 rfl) ?_
  refine lv_iconst (v := 0) hx hb dL_unitsOf_1 (by decide) ?_
  refine lv_aload_n hx hb dL_unitsOf_2 rfl (lv_at hl 0 rfl) ?_
  refine lv_iload_n hx hb dL_unitsOf_3 rfl (lv_at hl 1 rfl) ?_
  refine l_catch X hB (k := 0) (bk_runVX X (Av := [.int p1]) (rest := [.int 0, .ref o]) (mxX8_unitsOf hlt hf) yv_X8_unitsOf wm_1000 ⟨Nat.le_of_ble_eq_true rfl, Nat.le_of_ble_eq_true rfl⟩ rfl rfl hl.1 kl_X8.1 (hB.1.obj lcq_X_0) hB.1 hB.len hB.tx (Nat.le_of_ble_eq_true rfl) ⟨Nat.le_of_ble_eq_true rfl, Nat.le_of_ble_eq_true rfl⟩ dL_unitsOf_4) [] ⟨0, 9, 12, 13⟩ [] (hxt.trans rfl) (fun z hz => by cases hz) rfl (by decide) wm_915 (List.mem_of_getElem? (i := 0) rfl) (fun H locs q hB => ?_)
  refine lv_astore_n (lv' := [(3, .ref q), (0, .ref a), (1, .int p1), (2, .ref o)]) hx hb dL_unitsOf_12 rfl hl (by decide) rfl (fun ls hl => ?_)
  refine lv_iconst (v := 1) hx hb dL_unitsOf_13 (by decide) ?_
  exact l_iret X hr hB (fun x hx9 => by cases hx9) (Nat.le_of_ble_eq_true rfl) (Nat.le_of_ble_eq_true rfl) dL_unitsOf_14
theorem dL_lotsOf_0 : decode cL_lotsOf 0 = .ok (.aload_n 2, 1) := by decide +kernel
theorem dL_lotsOf_1 : decode cL_lotsOf 1 = .ok (.iconst 0, 1) := by decide +kernel
theorem dL_lotsOf_2 : decode cL_lotsOf 2 = .ok (.aload_n 0, 1) := by decide +kernel
theorem dL_lotsOf_3 : decode cL_lotsOf 3 = .ok (.iload_n 1, 1) := by decide +kernel
theorem dL_lotsOf_4 : decode cL_lotsOf 4 = .ok (.invokevirtual 18, 3) := by decide +kernel
theorem dL_lotsOf_7 : decode cL_lotsOf 7 = .ok (.i2l, 1) := by decide +kernel
theorem dL_lotsOf_8 : decode cL_lotsOf 8 = .ok (.lastore, 1) := by decide +kernel
theorem dL_lotsOf_9 : decode cL_lotsOf 9 = .ok (.goto 6, 3) := by decide +kernel
theorem dL_lotsOf_12 : decode cL_lotsOf 12 = .ok (.astore_n 3, 1) := by decide +kernel
theorem dL_lotsOf_13 : decode cL_lotsOf 13 = .ok (.iconst 1, 1) := by decide +kernel
theorem dL_lotsOf_14 : decode cL_lotsOf 14 = .ok (.ireturn, 1) := by decide +kernel
theorem dL_lotsOf_15 : decode cL_lotsOf 15 = .ok (.iconst 0, 1) := by decide +kernel
theorem dL_lotsOf_16 : decode cL_lotsOf 16 = .ok (.ireturn, 1) := by decide +kernel
theorem hL_lotsOf {l : Launch} {p1 : Int32} {v : bM} {q : Int32} (hf : fX8_lotsOf p1 v = some q) : hMet l yL_lotsOf cL_lotsOf 4 [(0, 9, 12, 13)] 9 1 6 [.int p1] v 0 v (some q.toInt64) := by
  refine h_start (by decide +kernel) (fun _ _ => Nat.le_of_ble_eq_true rfl) ?_
  intro p e s m args below meth c D E a o f ls H locs X hr hxt hl hB
  have hx := X.1
  have hb := X.2.1
  have hl : lv_has ls 4 [(0, .ref a), (1, .int p1), (2, .ref o)] := hl
  refine lv_aload_n hx hb dL_lotsOf_0 rfl (lv_at hl 2 rfl) ?_
  refine lv_iconst (v := 0) hx hb dL_lotsOf_1 (by decide) ?_
  refine lv_aload_n hx hb dL_lotsOf_2 rfl (lv_at hl 0 rfl) ?_
  refine lv_iload_n hx hb dL_lotsOf_3 rfl (lv_at hl 1 rfl) ?_
  refine l_go hB (bk_runV X (Av := [.int p1]) (rest := [.int 0, .ref o]) (mX8_lotsOf hf) yv_X8_lotsOf wm_1008 ⟨Nat.le_of_ble_eq_true rfl, Nat.le_of_ble_eq_true rfl⟩ rfl rfl hl.1 kl_X8.1 (hB.1.obj lcq_X_0) hB.1 hB.len hB.tx (Nat.le_of_ble_eq_true rfl) ⟨Nat.le_of_ble_eq_true rfl, Nat.le_of_ble_eq_true rfl⟩ dL_lotsOf_4) (fun H locs hB => ?_)
  refine W.eq (g2 := F0 m 7 ls [.int q, .int 0, .ref o]) rfl ?_
  refine lv_i2l (v := q.toInt64) hx hb dL_lotsOf_7 rfl ?_
  refine l_last X hB dL_lotsOf_8 (fun H locs hB => ?_)
  refine lv_goto (tgt := 15) hx hb dL_lotsOf_9 (by decide) ?_
  refine lv_iconst (v := 0) hx hb dL_lotsOf_15 (by decide) ?_
  exact l_iret X hr hB (fun x hx9 => by cases hx9; rfl) (Nat.le_of_ble_eq_true rfl) (Nat.le_of_ble_eq_true rfl) dL_lotsOf_16
theorem hxL_lotsOf_0 {l : Launch} (hlt : l.stackTraces = false) {p1 : Int32} {v : bM} (hf : xX8_lotsOf p1 v = some 0) : hMet l yL_lotsOf cL_lotsOf 4 [(0, 9, 12, 13)] 9 1 6 [.int p1] v 1 v none := by
  refine h_start (by decide +kernel) (fun _ _ => Nat.le_of_ble_eq_true rfl) ?_
  intro p e s m args below meth c D E a o f ls H locs X hr hxt hl hB
  have hx := X.1
  have hb := X.2.1
  have hl : lv_has ls 4 [(0, .ref a), (1, .int p1), (2, .ref o)] := hl
  refine lv_aload_n hx hb dL_lotsOf_0 rfl (lv_at hl 2 rfl) ?_
  refine lv_iconst (v := 0) hx hb dL_lotsOf_1 (by decide) ?_
  refine lv_aload_n hx hb dL_lotsOf_2 rfl (lv_at hl 0 rfl) ?_
  refine lv_iload_n hx hb dL_lotsOf_3 rfl (lv_at hl 1 rfl) ?_
  refine l_catch X hB (k := 0) (bk_runVX X (Av := [.int p1]) (rest := [.int 0, .ref o]) (mxX8_lotsOf hlt hf) yv_X8_lotsOf wm_1008 ⟨Nat.le_of_ble_eq_true rfl, Nat.le_of_ble_eq_true rfl⟩ rfl rfl hl.1 kl_X8.1 (hB.1.obj lcq_X_0) hB.1 hB.len hB.tx (Nat.le_of_ble_eq_true rfl) ⟨Nat.le_of_ble_eq_true rfl, Nat.le_of_ble_eq_true rfl⟩ dL_lotsOf_4) [] ⟨0, 9, 12, 13⟩ [] (hxt.trans rfl) (fun z hz => by cases hz) rfl (by decide) wm_915 (List.mem_of_getElem? (i := 0) rfl) (fun H locs q hB => ?_)
  refine lv_astore_n (lv' := [(3, .ref q), (0, .ref a), (1, .int p1), (2, .ref o)]) hx hb dL_lotsOf_12 rfl hl (by decide) rfl (fun ls hl => ?_)
  refine lv_iconst (v := 1) hx hb dL_lotsOf_13 (by decide) ?_
  exact l_iret X hr hB (fun x hx9 => by cases hx9) (Nat.le_of_ble_eq_true rfl) (Nat.le_of_ble_eq_true rfl) dL_lotsOf_14
theorem dL_lotUnits_0 : decode cL_lotUnits 0 = .ok (.aload_n 3, 1) := by decide +kernel
theorem dL_lotUnits_1 : decode cL_lotUnits 1 = .ok (.iconst 0, 1) := by decide +kernel
theorem dL_lotUnits_2 : decode cL_lotUnits 2 = .ok (.aload_n 0, 1) := by decide +kernel
theorem dL_lotUnits_3 : decode cL_lotUnits 3 = .ok (.iload_n 1, 1) := by decide +kernel
theorem dL_lotUnits_4 : decode cL_lotUnits 4 = .ok (.iload_n 2, 1) := by decide +kernel
theorem dL_lotUnits_5 : decode cL_lotUnits 5 = .ok (.invokevirtual 21, 3) := by decide +kernel
theorem dL_lotUnits_8 : decode cL_lotUnits 8 = .ok (.i2l, 1) := by decide +kernel
theorem dL_lotUnits_9 : decode cL_lotUnits 9 = .ok (.lastore, 1) := by decide +kernel
theorem dL_lotUnits_10 : decode cL_lotUnits 10 = .ok (.goto 7, 3) := by decide +kernel
theorem dL_lotUnits_13 : decode cL_lotUnits 13 = .ok (.astore 4, 2) := by decide +kernel
theorem dL_lotUnits_15 : decode cL_lotUnits 15 = .ok (.iconst 1, 1) := by decide +kernel
theorem dL_lotUnits_16 : decode cL_lotUnits 16 = .ok (.ireturn, 1) := by decide +kernel
theorem dL_lotUnits_17 : decode cL_lotUnits 17 = .ok (.iconst 0, 1) := by decide +kernel
theorem dL_lotUnits_18 : decode cL_lotUnits 18 = .ok (.ireturn, 1) := by decide +kernel
theorem hL_lotUnits {l : Launch} {p1 : Int32} {p2 : Int32} {v : bM} {q : Int32} (hf : fX8_lotUnits p1 p2 v = some q) : hMet l yL_lotUnits cL_lotUnits 5 [(0, 10, 13, 13)] 10 1 6 [.int p1, .int p2] v 0 v (some q.toInt64) := by
  refine h_start (by decide +kernel) (fun _ _ => Nat.le_of_ble_eq_true rfl) ?_
  intro p e s m args below meth c D E a o f ls H locs X hr hxt hl hB
  have hx := X.1
  have hb := X.2.1
  have hl : lv_has ls 5 [(0, .ref a), (1, .int p1), (2, .int p2), (3, .ref o)] := hl
  refine lv_aload_n hx hb dL_lotUnits_0 rfl (lv_at hl 3 rfl) ?_
  refine lv_iconst (v := 0) hx hb dL_lotUnits_1 (by decide) ?_
  refine lv_aload_n hx hb dL_lotUnits_2 rfl (lv_at hl 0 rfl) ?_
  refine lv_iload_n hx hb dL_lotUnits_3 rfl (lv_at hl 1 rfl) ?_
  refine lv_iload_n hx hb dL_lotUnits_4 rfl (lv_at hl 2 rfl) ?_
  refine l_go hB (bk_runV X (Av := [.int p1, .int p2]) (rest := [.int 0, .ref o]) (mX8_lotUnits hf) yv_X8_lotUnits wm_1015 ⟨Nat.le_of_ble_eq_true rfl, Nat.le_of_ble_eq_true rfl⟩ rfl rfl hl.1 kl_X8.1 (hB.1.obj lcq_X_0) hB.1 hB.len hB.tx (Nat.le_of_ble_eq_true rfl) ⟨Nat.le_of_ble_eq_true rfl, Nat.le_of_ble_eq_true rfl⟩ dL_lotUnits_5) (fun H locs hB => ?_)
  refine W.eq (g2 := F0 m 8 ls [.int q, .int 0, .ref o]) rfl ?_
  refine lv_i2l (v := q.toInt64) hx hb dL_lotUnits_8 rfl ?_
  refine l_last X hB dL_lotUnits_9 (fun H locs hB => ?_)
  refine lv_goto (tgt := 17) hx hb dL_lotUnits_10 (by decide) ?_
  refine lv_iconst (v := 0) hx hb dL_lotUnits_17 (by decide) ?_
  exact l_iret X hr hB (fun x hx9 => by cases hx9; rfl) (Nat.le_of_ble_eq_true rfl) (Nat.le_of_ble_eq_true rfl) dL_lotUnits_18
theorem hxL_lotUnits_0 {l : Launch} (hlt : l.stackTraces = false) {p1 : Int32} {p2 : Int32} {v : bM} (hf : xX8_lotUnits p1 p2 v = some 0) : hMet l yL_lotUnits cL_lotUnits 5 [(0, 10, 13, 13)] 10 1 6 [.int p1, .int p2] v 1 v none := by
  refine h_start (by decide +kernel) (fun _ _ => Nat.le_of_ble_eq_true rfl) ?_
  intro p e s m args below meth c D E a o f ls H locs X hr hxt hl hB
  have hx := X.1
  have hb := X.2.1
  have hl : lv_has ls 5 [(0, .ref a), (1, .int p1), (2, .int p2), (3, .ref o)] := hl
  refine lv_aload_n hx hb dL_lotUnits_0 rfl (lv_at hl 3 rfl) ?_
  refine lv_iconst (v := 0) hx hb dL_lotUnits_1 (by decide) ?_
  refine lv_aload_n hx hb dL_lotUnits_2 rfl (lv_at hl 0 rfl) ?_
  refine lv_iload_n hx hb dL_lotUnits_3 rfl (lv_at hl 1 rfl) ?_
  refine lv_iload_n hx hb dL_lotUnits_4 rfl (lv_at hl 2 rfl) ?_
  refine l_catch X hB (k := 0) (bk_runVX X (Av := [.int p1, .int p2]) (rest := [.int 0, .ref o]) (mxX8_lotUnits hlt hf) yv_X8_lotUnits wm_1015 ⟨Nat.le_of_ble_eq_true rfl, Nat.le_of_ble_eq_true rfl⟩ rfl rfl hl.1 kl_X8.1 (hB.1.obj lcq_X_0) hB.1 hB.len hB.tx (Nat.le_of_ble_eq_true rfl) ⟨Nat.le_of_ble_eq_true rfl, Nat.le_of_ble_eq_true rfl⟩ dL_lotUnits_5) [] ⟨0, 10, 13, 13⟩ [] (hxt.trans rfl) (fun z hz => by cases hz) rfl (by decide) wm_915 (List.mem_of_getElem? (i := 0) rfl) (fun H locs q hB => ?_)
  refine lv_astore (lv' := [(4, .ref q), (0, .ref a), (1, .int p1), (2, .int p2), (3, .ref o)]) hx hb dL_lotUnits_13 hl (by decide) rfl (fun ls hl => ?_)
  refine lv_iconst (v := 1) hx hb dL_lotUnits_15 (by decide) ?_
  exact l_iret X hr hB (fun x hx9 => by cases hx9) (Nat.le_of_ble_eq_true rfl) (Nat.le_of_ble_eq_true rfl) dL_lotUnits_16
theorem dL_lotPrice_0 : decode cL_lotPrice 0 = .ok (.aload_n 3, 1) := by decide +kernel
theorem dL_lotPrice_1 : decode cL_lotPrice 1 = .ok (.iconst 0, 1) := by decide +kernel
theorem dL_lotPrice_2 : decode cL_lotPrice 2 = .ok (.aload_n 0, 1) := by decide +kernel
theorem dL_lotPrice_3 : decode cL_lotPrice 3 = .ok (.iload_n 1, 1) := by decide +kernel
theorem dL_lotPrice_4 : decode cL_lotPrice 4 = .ok (.iload_n 2, 1) := by decide +kernel
theorem dL_lotPrice_5 : decode cL_lotPrice 5 = .ok (.invokevirtual 25, 3) := by decide +kernel
theorem dL_lotPrice_8 : decode cL_lotPrice 8 = .ok (.i2l, 1) := by decide +kernel
theorem dL_lotPrice_9 : decode cL_lotPrice 9 = .ok (.lastore, 1) := by decide +kernel
theorem dL_lotPrice_10 : decode cL_lotPrice 10 = .ok (.goto 7, 3) := by decide +kernel
theorem dL_lotPrice_13 : decode cL_lotPrice 13 = .ok (.astore 4, 2) := by decide +kernel
theorem dL_lotPrice_15 : decode cL_lotPrice 15 = .ok (.iconst 1, 1) := by decide +kernel
theorem dL_lotPrice_16 : decode cL_lotPrice 16 = .ok (.ireturn, 1) := by decide +kernel
theorem dL_lotPrice_17 : decode cL_lotPrice 17 = .ok (.iconst 0, 1) := by decide +kernel
theorem dL_lotPrice_18 : decode cL_lotPrice 18 = .ok (.ireturn, 1) := by decide +kernel
theorem hL_lotPrice {l : Launch} {p1 : Int32} {p2 : Int32} {v : bM} {q : Int32} (hf : fX8_lotPrice p1 p2 v = some q) : hMet l yL_lotPrice cL_lotPrice 5 [(0, 10, 13, 13)] 10 1 6 [.int p1, .int p2] v 0 v (some q.toInt64) := by
  refine h_start (by decide +kernel) (fun _ _ => Nat.le_of_ble_eq_true rfl) ?_
  intro p e s m args below meth c D E a o f ls H locs X hr hxt hl hB
  have hx := X.1
  have hb := X.2.1
  have hl : lv_has ls 5 [(0, .ref a), (1, .int p1), (2, .int p2), (3, .ref o)] := hl
  refine lv_aload_n hx hb dL_lotPrice_0 rfl (lv_at hl 3 rfl) ?_
  refine lv_iconst (v := 0) hx hb dL_lotPrice_1 (by decide) ?_
  refine lv_aload_n hx hb dL_lotPrice_2 rfl (lv_at hl 0 rfl) ?_
  refine lv_iload_n hx hb dL_lotPrice_3 rfl (lv_at hl 1 rfl) ?_
  refine lv_iload_n hx hb dL_lotPrice_4 rfl (lv_at hl 2 rfl) ?_
  refine l_go hB (bk_runV X (Av := [.int p1, .int p2]) (rest := [.int 0, .ref o]) (mX8_lotPrice hf) yv_X8_lotPrice wm_1026 ⟨Nat.le_of_ble_eq_true rfl, Nat.le_of_ble_eq_true rfl⟩ rfl rfl hl.1 kl_X8.1 (hB.1.obj lcq_X_0) hB.1 hB.len hB.tx (Nat.le_of_ble_eq_true rfl) ⟨Nat.le_of_ble_eq_true rfl, Nat.le_of_ble_eq_true rfl⟩ dL_lotPrice_5) (fun H locs hB => ?_)
  refine W.eq (g2 := F0 m 8 ls [.int q, .int 0, .ref o]) rfl ?_
  refine lv_i2l (v := q.toInt64) hx hb dL_lotPrice_8 rfl ?_
  refine l_last X hB dL_lotPrice_9 (fun H locs hB => ?_)
  refine lv_goto (tgt := 17) hx hb dL_lotPrice_10 (by decide) ?_
  refine lv_iconst (v := 0) hx hb dL_lotPrice_17 (by decide) ?_
  exact l_iret X hr hB (fun x hx9 => by cases hx9; rfl) (Nat.le_of_ble_eq_true rfl) (Nat.le_of_ble_eq_true rfl) dL_lotPrice_18
theorem hxL_lotPrice_0 {l : Launch} (hlt : l.stackTraces = false) {p1 : Int32} {p2 : Int32} {v : bM} (hf : xX8_lotPrice p1 p2 v = some 0) : hMet l yL_lotPrice cL_lotPrice 5 [(0, 10, 13, 13)] 10 1 6 [.int p1, .int p2] v 1 v none := by
  refine h_start (by decide +kernel) (fun _ _ => Nat.le_of_ble_eq_true rfl) ?_
  intro p e s m args below meth c D E a o f ls H locs X hr hxt hl hB
  have hx := X.1
  have hb := X.2.1
  have hl : lv_has ls 5 [(0, .ref a), (1, .int p1), (2, .int p2), (3, .ref o)] := hl
  refine lv_aload_n hx hb dL_lotPrice_0 rfl (lv_at hl 3 rfl) ?_
  refine lv_iconst (v := 0) hx hb dL_lotPrice_1 (by decide) ?_
  refine lv_aload_n hx hb dL_lotPrice_2 rfl (lv_at hl 0 rfl) ?_
  refine lv_iload_n hx hb dL_lotPrice_3 rfl (lv_at hl 1 rfl) ?_
  refine lv_iload_n hx hb dL_lotPrice_4 rfl (lv_at hl 2 rfl) ?_
  refine l_catch X hB (k := 0) (bk_runVX X (Av := [.int p1, .int p2]) (rest := [.int 0, .ref o]) (mxX8_lotPrice hlt hf) yv_X8_lotPrice wm_1026 ⟨Nat.le_of_ble_eq_true rfl, Nat.le_of_ble_eq_true rfl⟩ rfl rfl hl.1 kl_X8.1 (hB.1.obj lcq_X_0) hB.1 hB.len hB.tx (Nat.le_of_ble_eq_true rfl) ⟨Nat.le_of_ble_eq_true rfl, Nat.le_of_ble_eq_true rfl⟩ dL_lotPrice_5) [] ⟨0, 10, 13, 13⟩ [] (hxt.trans rfl) (fun z hz => by cases hz) rfl (by decide) wm_915 (List.mem_of_getElem? (i := 0) rfl) (fun H locs q hB => ?_)
  refine lv_astore (lv' := [(4, .ref q), (0, .ref a), (1, .int p1), (2, .int p2), (3, .ref o)]) hx hb dL_lotPrice_13 hl (by decide) rfl (fun ls hl => ?_)
  refine lv_iconst (v := 1) hx hb dL_lotPrice_15 (by decide) ?_
  exact l_iret X hr hB (fun x hx9 => by cases hx9) (Nat.le_of_ble_eq_true rfl) (Nat.le_of_ble_eq_true rfl) dL_lotPrice_16
theorem dL_listPrice_0 : decode cL_listPrice 0 = .ok (.aload_n 2, 1) := by decide +kernel
theorem dL_listPrice_1 : decode cL_listPrice 1 = .ok (.iconst 0, 1) := by decide +kernel
theorem dL_listPrice_2 : decode cL_listPrice 2 = .ok (.aload_n 0, 1) := by decide +kernel
theorem dL_listPrice_3 : decode cL_listPrice 3 = .ok (.iload_n 1, 1) := by decide +kernel
theorem dL_listPrice_4 : decode cL_listPrice 4 = .ok (.invokevirtual 28, 3) := by decide +kernel
theorem dL_listPrice_7 : decode cL_listPrice 7 = .ok (.i2l, 1) := by decide +kernel
theorem dL_listPrice_8 : decode cL_listPrice 8 = .ok (.lastore, 1) := by decide +kernel
theorem dL_listPrice_9 : decode cL_listPrice 9 = .ok (.goto 6, 3) := by decide +kernel
theorem dL_listPrice_12 : decode cL_listPrice 12 = .ok (.astore_n 3, 1) := by decide +kernel
theorem dL_listPrice_13 : decode cL_listPrice 13 = .ok (.iconst 1, 1) := by decide +kernel
theorem dL_listPrice_14 : decode cL_listPrice 14 = .ok (.ireturn, 1) := by decide +kernel
theorem dL_listPrice_15 : decode cL_listPrice 15 = .ok (.iconst 0, 1) := by decide +kernel
theorem dL_listPrice_16 : decode cL_listPrice 16 = .ok (.ireturn, 1) := by decide +kernel
theorem hL_listPrice {l : Launch} {p1 : Int32} {v : bM} {q : Int32} (hf : fX8_listPrice p1 v = some q) : hMet l yL_listPrice cL_listPrice 4 [(0, 9, 12, 13)] 9 1 6 [.int p1] v 0 v (some q.toInt64) := by
  refine h_start (by decide +kernel) (fun _ _ => Nat.le_of_ble_eq_true rfl) ?_
  intro p e s m args below meth c D E a o f ls H locs X hr hxt hl hB
  have hx := X.1
  have hb := X.2.1
  have hl : lv_has ls 4 [(0, .ref a), (1, .int p1), (2, .ref o)] := hl
  refine lv_aload_n hx hb dL_listPrice_0 rfl (lv_at hl 2 rfl) ?_
  refine lv_iconst (v := 0) hx hb dL_listPrice_1 (by decide) ?_
  refine lv_aload_n hx hb dL_listPrice_2 rfl (lv_at hl 0 rfl) ?_
  refine lv_iload_n hx hb dL_listPrice_3 rfl (lv_at hl 1 rfl) ?_
  refine l_go hB (bk_runV X (Av := [.int p1]) (rest := [.int 0, .ref o]) (mX8_listPrice hf) yv_X8_listPrice wm_1033 ⟨Nat.le_of_ble_eq_true rfl, Nat.le_of_ble_eq_true rfl⟩ rfl rfl hl.1 kl_X8.1 (hB.1.obj lcq_X_0) hB.1 hB.len hB.tx (Nat.le_of_ble_eq_true rfl) ⟨Nat.le_of_ble_eq_true rfl, Nat.le_of_ble_eq_true rfl⟩ dL_listPrice_4) (fun H locs hB => ?_)
  refine W.eq (g2 := F0 m 7 ls [.int q, .int 0, .ref o]) rfl ?_
  refine lv_i2l (v := q.toInt64) hx hb dL_listPrice_7 rfl ?_
  refine l_last X hB dL_listPrice_8 (fun H locs hB => ?_)
  refine lv_goto (tgt := 15) hx hb dL_listPrice_9 (by decide) ?_
  refine lv_iconst (v := 0) hx hb dL_listPrice_15 (by decide) ?_
  exact l_iret X hr hB (fun x hx9 => by cases hx9; rfl) (Nat.le_of_ble_eq_true rfl) (Nat.le_of_ble_eq_true rfl) dL_listPrice_16
theorem hxL_listPrice_0 {l : Launch} (hlt : l.stackTraces = false) {p1 : Int32} {v : bM} (hf : xX8_listPrice p1 v = some 0) : hMet l yL_listPrice cL_listPrice 4 [(0, 9, 12, 13)] 9 1 6 [.int p1] v 1 v none := by
  refine h_start (by decide +kernel) (fun _ _ => Nat.le_of_ble_eq_true rfl) ?_
  intro p e s m args below meth c D E a o f ls H locs X hr hxt hl hB
  have hx := X.1
  have hb := X.2.1
  have hl : lv_has ls 4 [(0, .ref a), (1, .int p1), (2, .ref o)] := hl
  refine lv_aload_n hx hb dL_listPrice_0 rfl (lv_at hl 2 rfl) ?_
  refine lv_iconst (v := 0) hx hb dL_listPrice_1 (by decide) ?_
  refine lv_aload_n hx hb dL_listPrice_2 rfl (lv_at hl 0 rfl) ?_
  refine lv_iload_n hx hb dL_listPrice_3 rfl (lv_at hl 1 rfl) ?_
  refine l_catch X hB (k := 0) (bk_runVX X (Av := [.int p1]) (rest := [.int 0, .ref o]) (mxX8_listPrice hlt hf) yv_X8_listPrice wm_1033 ⟨Nat.le_of_ble_eq_true rfl, Nat.le_of_ble_eq_true rfl⟩ rfl rfl hl.1 kl_X8.1 (hB.1.obj lcq_X_0) hB.1 hB.len hB.tx (Nat.le_of_ble_eq_true rfl) ⟨Nat.le_of_ble_eq_true rfl, Nat.le_of_ble_eq_true rfl⟩ dL_listPrice_4) [] ⟨0, 9, 12, 13⟩ [] (hxt.trans rfl) (fun z hz => by cases hz) rfl (by decide) wm_915 (List.mem_of_getElem? (i := 0) rfl) (fun H locs q hB => ?_)
  refine lv_astore_n (lv' := [(3, .ref q), (0, .ref a), (1, .int p1), (2, .ref o)]) hx hb dL_listPrice_12 rfl hl (by decide) rfl (fun ls hl => ?_)
  refine lv_iconst (v := 1) hx hb dL_listPrice_13 (by decide) ?_
  exact l_iret X hr hB (fun x hx9 => by cases hx9) (Nat.le_of_ble_eq_true rfl) (Nat.le_of_ble_eq_true rfl) dL_listPrice_14
theorem dL_minutesOf_0 : decode cL_minutesOf 0 = .ok (.aload_n 2, 1) := by decide +kernel
theorem dL_minutesOf_1 : decode cL_minutesOf 1 = .ok (.iconst 0, 1) := by decide +kernel
theorem dL_minutesOf_2 : decode cL_minutesOf 2 = .ok (.aload_n 0, 1) := by decide +kernel
theorem dL_minutesOf_3 : decode cL_minutesOf 3 = .ok (.iload_n 1, 1) := by decide +kernel
theorem dL_minutesOf_4 : decode cL_minutesOf 4 = .ok (.invokevirtual 31, 3) := by decide +kernel
theorem dL_minutesOf_7 : decode cL_minutesOf 7 = .ok (.i2l, 1) := by decide +kernel
theorem dL_minutesOf_8 : decode cL_minutesOf 8 = .ok (.lastore, 1) := by decide +kernel
theorem dL_minutesOf_9 : decode cL_minutesOf 9 = .ok (.goto 6, 3) := by decide +kernel
theorem dL_minutesOf_12 : decode cL_minutesOf 12 = .ok (.astore_n 3, 1) := by decide +kernel
theorem dL_minutesOf_13 : decode cL_minutesOf 13 = .ok (.iconst 1, 1) := by decide +kernel
theorem dL_minutesOf_14 : decode cL_minutesOf 14 = .ok (.ireturn, 1) := by decide +kernel
theorem dL_minutesOf_15 : decode cL_minutesOf 15 = .ok (.iconst 0, 1) := by decide +kernel
theorem dL_minutesOf_16 : decode cL_minutesOf 16 = .ok (.ireturn, 1) := by decide +kernel
theorem hL_minutesOf {l : Launch} {p1 : Int32} {v : bM} {q : Int32} (hf : fX8_minutesOf p1 v = some q) : hMet l yL_minutesOf cL_minutesOf 4 [(0, 9, 12, 13)] 9 1 6 [.int p1] v 0 v (some q.toInt64) := by
  refine h_start (by decide +kernel) (fun _ _ => Nat.le_of_ble_eq_true rfl) ?_
  intro p e s m args below meth c D E a o f ls H locs X hr hxt hl hB
  have hx := X.1
  have hb := X.2.1
  have hl : lv_has ls 4 [(0, .ref a), (1, .int p1), (2, .ref o)] := hl
  refine lv_aload_n hx hb dL_minutesOf_0 rfl (lv_at hl 2 rfl) ?_
  refine lv_iconst (v := 0) hx hb dL_minutesOf_1 (by decide) ?_
  refine lv_aload_n hx hb dL_minutesOf_2 rfl (lv_at hl 0 rfl) ?_
  refine lv_iload_n hx hb dL_minutesOf_3 rfl (lv_at hl 1 rfl) ?_
  refine l_go hB (bk_runV X (Av := [.int p1]) (rest := [.int 0, .ref o]) (mX8_minutesOf hf) yv_X8_minutesOf wm_1044 ⟨Nat.le_of_ble_eq_true rfl, Nat.le_of_ble_eq_true rfl⟩ rfl rfl hl.1 kl_X8.1 (hB.1.obj lcq_X_0) hB.1 hB.len hB.tx (Nat.le_of_ble_eq_true rfl) ⟨Nat.le_of_ble_eq_true rfl, Nat.le_of_ble_eq_true rfl⟩ dL_minutesOf_4) (fun H locs hB => ?_)
  refine W.eq (g2 := F0 m 7 ls [.int q, .int 0, .ref o]) rfl ?_
  refine lv_i2l (v := q.toInt64) hx hb dL_minutesOf_7 rfl ?_
  refine l_last X hB dL_minutesOf_8 (fun H locs hB => ?_)
  refine lv_goto (tgt := 15) hx hb dL_minutesOf_9 (by decide) ?_
  refine lv_iconst (v := 0) hx hb dL_minutesOf_15 (by decide) ?_
  exact l_iret X hr hB (fun x hx9 => by cases hx9; rfl) (Nat.le_of_ble_eq_true rfl) (Nat.le_of_ble_eq_true rfl) dL_minutesOf_16
theorem hxL_minutesOf_0 {l : Launch} (hlt : l.stackTraces = false) {p1 : Int32} {v : bM} (hf : xX8_minutesOf p1 v = some 0) : hMet l yL_minutesOf cL_minutesOf 4 [(0, 9, 12, 13)] 9 1 6 [.int p1] v 1 v none := by
  refine h_start (by decide +kernel) (fun _ _ => Nat.le_of_ble_eq_true rfl) ?_
  intro p e s m args below meth c D E a o f ls H locs X hr hxt hl hB
  have hx := X.1
  have hb := X.2.1
  have hl : lv_has ls 4 [(0, .ref a), (1, .int p1), (2, .ref o)] := hl
  refine lv_aload_n hx hb dL_minutesOf_0 rfl (lv_at hl 2 rfl) ?_
  refine lv_iconst (v := 0) hx hb dL_minutesOf_1 (by decide) ?_
  refine lv_aload_n hx hb dL_minutesOf_2 rfl (lv_at hl 0 rfl) ?_
  refine lv_iload_n hx hb dL_minutesOf_3 rfl (lv_at hl 1 rfl) ?_
  refine l_catch X hB (k := 0) (bk_runVX X (Av := [.int p1]) (rest := [.int 0, .ref o]) (mxX8_minutesOf hlt hf) yv_X8_minutesOf wm_1044 ⟨Nat.le_of_ble_eq_true rfl, Nat.le_of_ble_eq_true rfl⟩ rfl rfl hl.1 kl_X8.1 (hB.1.obj lcq_X_0) hB.1 hB.len hB.tx (Nat.le_of_ble_eq_true rfl) ⟨Nat.le_of_ble_eq_true rfl, Nat.le_of_ble_eq_true rfl⟩ dL_minutesOf_4) [] ⟨0, 9, 12, 13⟩ [] (hxt.trans rfl) (fun z hz => by cases hz) rfl (by decide) wm_915 (List.mem_of_getElem? (i := 0) rfl) (fun H locs q hB => ?_)
  refine lv_astore_n (lv' := [(3, .ref q), (0, .ref a), (1, .int p1), (2, .ref o)]) hx hb dL_minutesOf_12 rfl hl (by decide) rfl (fun ls hl => ?_)
  refine lv_iconst (v := 1) hx hb dL_minutesOf_13 (by decide) ?_
  exact l_iret X hr hB (fun x hx9 => by cases hx9) (Nat.le_of_ble_eq_true rfl) (Nat.le_of_ble_eq_true rfl) dL_minutesOf_14
theorem dL_amountOf_0 : decode cL_amountOf 0 = .ok (.aload_n 3, 1) := by decide +kernel
theorem dL_amountOf_1 : decode cL_amountOf 1 = .ok (.iconst 0, 1) := by decide +kernel
theorem dL_amountOf_2 : decode cL_amountOf 2 = .ok (.aload_n 0, 1) := by decide +kernel
theorem dL_amountOf_3 : decode cL_amountOf 3 = .ok (.iload_n 1, 1) := by decide +kernel
theorem dL_amountOf_4 : decode cL_amountOf 4 = .ok (.iload_n 2, 1) := by decide +kernel
theorem dL_amountOf_5 : decode cL_amountOf 5 = .ok (.invokevirtual 34, 3) := by decide +kernel
theorem dL_amountOf_8 : decode cL_amountOf 8 = .ok (.i2l, 1) := by decide +kernel
theorem dL_amountOf_9 : decode cL_amountOf 9 = .ok (.lastore, 1) := by decide +kernel
theorem dL_amountOf_10 : decode cL_amountOf 10 = .ok (.goto 7, 3) := by decide +kernel
theorem dL_amountOf_13 : decode cL_amountOf 13 = .ok (.astore 4, 2) := by decide +kernel
theorem dL_amountOf_15 : decode cL_amountOf 15 = .ok (.iconst 1, 1) := by decide +kernel
theorem dL_amountOf_16 : decode cL_amountOf 16 = .ok (.ireturn, 1) := by decide +kernel
theorem dL_amountOf_17 : decode cL_amountOf 17 = .ok (.iconst 0, 1) := by decide +kernel
theorem dL_amountOf_18 : decode cL_amountOf 18 = .ok (.ireturn, 1) := by decide +kernel
theorem hL_amountOf {l : Launch} {p1 : Int32} {p2 : Int32} {v : bM} {q : Int32} (hf : fX8_amountOf p1 p2 v = some q) : hMet l yL_amountOf cL_amountOf 5 [(0, 10, 13, 13)] 9 1 6 [.int p1, .int p2] v 0 v (some q.toInt64) := by
  refine h_start (by decide +kernel) (fun _ _ => Nat.le_of_ble_eq_true rfl) ?_
  intro p e s m args below meth c D E a o f ls H locs X hr hxt hl hB
  have hx := X.1
  have hb := X.2.1
  have hl : lv_has ls 5 [(0, .ref a), (1, .int p1), (2, .int p2), (3, .ref o)] := hl
  refine lv_aload_n hx hb dL_amountOf_0 rfl (lv_at hl 3 rfl) ?_
  refine lv_iconst (v := 0) hx hb dL_amountOf_1 (by decide) ?_
  refine lv_aload_n hx hb dL_amountOf_2 rfl (lv_at hl 0 rfl) ?_
  refine lv_iload_n hx hb dL_amountOf_3 rfl (lv_at hl 1 rfl) ?_
  refine lv_iload_n hx hb dL_amountOf_4 rfl (lv_at hl 2 rfl) ?_
  refine l_go hB (bk_runV X (Av := [.int p1, .int p2]) (rest := [.int 0, .ref o]) (mX8_amountOf hf) yv_X8_amountOf wm_1051 ⟨Nat.le_of_ble_eq_true rfl, Nat.le_of_ble_eq_true rfl⟩ rfl rfl hl.1 kl_X8.1 (hB.1.obj lcq_X_0) hB.1 hB.len hB.tx (Nat.le_of_ble_eq_true rfl) ⟨Nat.le_of_ble_eq_true rfl, Nat.le_of_ble_eq_true rfl⟩ dL_amountOf_5) (fun H locs hB => ?_)
  refine W.eq (g2 := F0 m 8 ls [.int q, .int 0, .ref o]) rfl ?_
  refine lv_i2l (v := q.toInt64) hx hb dL_amountOf_8 rfl ?_
  refine l_last X hB dL_amountOf_9 (fun H locs hB => ?_)
  refine lv_goto (tgt := 17) hx hb dL_amountOf_10 (by decide) ?_
  refine lv_iconst (v := 0) hx hb dL_amountOf_17 (by decide) ?_
  exact l_iret X hr hB (fun x hx9 => by cases hx9; rfl) (Nat.le_of_ble_eq_true rfl) (Nat.le_of_ble_eq_true rfl) dL_amountOf_18
theorem hxL_amountOf_0 {l : Launch} (hlt : l.stackTraces = false) {p1 : Int32} {p2 : Int32} {v : bM} (hf : xX8_amountOf p1 p2 v = some 0) : hMet l yL_amountOf cL_amountOf 5 [(0, 10, 13, 13)] 9 1 6 [.int p1, .int p2] v 1 v none := by
  refine h_start (by decide +kernel) (fun _ _ => Nat.le_of_ble_eq_true rfl) ?_
  intro p e s m args below meth c D E a o f ls H locs X hr hxt hl hB
  have hx := X.1
  have hb := X.2.1
  have hl : lv_has ls 5 [(0, .ref a), (1, .int p1), (2, .int p2), (3, .ref o)] := hl
  refine lv_aload_n hx hb dL_amountOf_0 rfl (lv_at hl 3 rfl) ?_
  refine lv_iconst (v := 0) hx hb dL_amountOf_1 (by decide) ?_
  refine lv_aload_n hx hb dL_amountOf_2 rfl (lv_at hl 0 rfl) ?_
  refine lv_iload_n hx hb dL_amountOf_3 rfl (lv_at hl 1 rfl) ?_
  refine lv_iload_n hx hb dL_amountOf_4 rfl (lv_at hl 2 rfl) ?_
  refine l_catch X hB (k := 0) (bk_runVX X (Av := [.int p1, .int p2]) (rest := [.int 0, .ref o]) (mxX8_amountOf hlt hf) yv_X8_amountOf wm_1051 ⟨Nat.le_of_ble_eq_true rfl, Nat.le_of_ble_eq_true rfl⟩ rfl rfl hl.1 kl_X8.1 (hB.1.obj lcq_X_0) hB.1 hB.len hB.tx (Nat.le_of_ble_eq_true rfl) ⟨Nat.le_of_ble_eq_true rfl, Nat.le_of_ble_eq_true rfl⟩ dL_amountOf_5) [] ⟨0, 10, 13, 13⟩ [] (hxt.trans rfl) (fun z hz => by cases hz) rfl (by decide) wm_915 (List.mem_of_getElem? (i := 0) rfl) (fun H locs q hB => ?_)
  refine lv_astore (lv' := [(4, .ref q), (0, .ref a), (1, .int p1), (2, .int p2), (3, .ref o)]) hx hb dL_amountOf_13 hl (by decide) rfl (fun ls hl => ?_)
  refine lv_iconst (v := 1) hx hb dL_amountOf_15 (by decide) ?_
  exact l_iret X hr hB (fun x hx9 => by cases hx9) (Nat.le_of_ble_eq_true rfl) (Nat.le_of_ble_eq_true rfl) dL_amountOf_16
theorem dL_standardCost_0 : decode cL_standardCost 0 = .ok (.aload_n 2, 1) := by decide +kernel
theorem dL_standardCost_1 : decode cL_standardCost 1 = .ok (.iconst 0, 1) := by decide +kernel
theorem dL_standardCost_2 : decode cL_standardCost 2 = .ok (.aload_n 0, 1) := by decide +kernel
theorem dL_standardCost_3 : decode cL_standardCost 3 = .ok (.iload_n 1, 1) := by decide +kernel
theorem dL_standardCost_4 : decode cL_standardCost 4 = .ok (.invokevirtual 37, 3) := by decide +kernel
theorem dL_standardCost_7 : decode cL_standardCost 7 = .ok (.i2l, 1) := by decide +kernel
theorem dL_standardCost_8 : decode cL_standardCost 8 = .ok (.lastore, 1) := by decide +kernel
theorem dL_standardCost_9 : decode cL_standardCost 9 = .ok (.goto 6, 3) := by decide +kernel
theorem dL_standardCost_12 : decode cL_standardCost 12 = .ok (.astore_n 3, 1) := by decide +kernel
theorem dL_standardCost_13 : decode cL_standardCost 13 = .ok (.iconst 1, 1) := by decide +kernel
theorem dL_standardCost_14 : decode cL_standardCost 14 = .ok (.ireturn, 1) := by decide +kernel
theorem dL_standardCost_15 : decode cL_standardCost 15 = .ok (.iconst 0, 1) := by decide +kernel
theorem dL_standardCost_16 : decode cL_standardCost 16 = .ok (.ireturn, 1) := by decide +kernel
theorem hL_standardCost {l : Launch} {p1 : Int32} {v : bM} {q : Int32} (hf : fX8_standardCost p1 v = some q) : hMet l yL_standardCost cL_standardCost 4 [(0, 9, 12, 13)] 9 1 6 [.int p1] v 0 v (some q.toInt64) := by
  refine h_start (by decide +kernel) (fun _ _ => Nat.le_of_ble_eq_true rfl) ?_
  intro p e s m args below meth c D E a o f ls H locs X hr hxt hl hB
  have hx := X.1
  have hb := X.2.1
  have hl : lv_has ls 4 [(0, .ref a), (1, .int p1), (2, .ref o)] := hl
  refine lv_aload_n hx hb dL_standardCost_0 rfl (lv_at hl 2 rfl) ?_
  refine lv_iconst (v := 0) hx hb dL_standardCost_1 (by decide) ?_
  refine lv_aload_n hx hb dL_standardCost_2 rfl (lv_at hl 0 rfl) ?_
  refine lv_iload_n hx hb dL_standardCost_3 rfl (lv_at hl 1 rfl) ?_
  refine l_go hB (bk_runV X (Av := [.int p1]) (rest := [.int 0, .ref o]) (mX8_standardCost hf) yv_X8_standardCost wm_1058 ⟨Nat.le_of_ble_eq_true rfl, Nat.le_of_ble_eq_true rfl⟩ rfl rfl hl.1 kl_X8.1 (hB.1.obj lcq_X_0) hB.1 hB.len hB.tx (Nat.le_of_ble_eq_true rfl) ⟨Nat.le_of_ble_eq_true rfl, Nat.le_of_ble_eq_true rfl⟩ dL_standardCost_4) (fun H locs hB => ?_)
  refine W.eq (g2 := F0 m 7 ls [.int q, .int 0, .ref o]) rfl ?_
  refine lv_i2l (v := q.toInt64) hx hb dL_standardCost_7 rfl ?_
  refine l_last X hB dL_standardCost_8 (fun H locs hB => ?_)
  refine lv_goto (tgt := 15) hx hb dL_standardCost_9 (by decide) ?_
  refine lv_iconst (v := 0) hx hb dL_standardCost_15 (by decide) ?_
  exact l_iret X hr hB (fun x hx9 => by cases hx9; rfl) (Nat.le_of_ble_eq_true rfl) (Nat.le_of_ble_eq_true rfl) dL_standardCost_16
theorem hxL_standardCost_0 {l : Launch} (hlt : l.stackTraces = false) {p1 : Int32} {v : bM} (hf : xX8_standardCost p1 v = some 0) : hMet l yL_standardCost cL_standardCost 4 [(0, 9, 12, 13)] 9 1 6 [.int p1] v 1 v none := by
  refine h_start (by decide +kernel) (fun _ _ => Nat.le_of_ble_eq_true rfl) ?_
  intro p e s m args below meth c D E a o f ls H locs X hr hxt hl hB
  have hx := X.1
  have hb := X.2.1
  have hl : lv_has ls 4 [(0, .ref a), (1, .int p1), (2, .ref o)] := hl
  refine lv_aload_n hx hb dL_standardCost_0 rfl (lv_at hl 2 rfl) ?_
  refine lv_iconst (v := 0) hx hb dL_standardCost_1 (by decide) ?_
  refine lv_aload_n hx hb dL_standardCost_2 rfl (lv_at hl 0 rfl) ?_
  refine lv_iload_n hx hb dL_standardCost_3 rfl (lv_at hl 1 rfl) ?_
  refine l_catch X hB (k := 0) (bk_runVX X (Av := [.int p1]) (rest := [.int 0, .ref o]) (mxX8_standardCost hlt hf) yv_X8_standardCost wm_1058 ⟨Nat.le_of_ble_eq_true rfl, Nat.le_of_ble_eq_true rfl⟩ rfl rfl hl.1 kl_X8.1 (hB.1.obj lcq_X_0) hB.1 hB.len hB.tx (Nat.le_of_ble_eq_true rfl) ⟨Nat.le_of_ble_eq_true rfl, Nat.le_of_ble_eq_true rfl⟩ dL_standardCost_4) [] ⟨0, 9, 12, 13⟩ [] (hxt.trans rfl) (fun z hz => by cases hz) rfl (by decide) wm_915 (List.mem_of_getElem? (i := 0) rfl) (fun H locs q hB => ?_)
  refine lv_astore_n (lv' := [(3, .ref q), (0, .ref a), (1, .int p1), (2, .ref o)]) hx hb dL_standardCost_12 rfl hl (by decide) rfl (fun ls hl => ?_)
  refine lv_iconst (v := 1) hx hb dL_standardCost_13 (by decide) ?_
  exact l_iret X hr hB (fun x hx9 => by cases hx9) (Nat.le_of_ble_eq_true rfl) (Nat.le_of_ble_eq_true rfl) dL_standardCost_14
theorem dL_loavesOf_0 : decode cL_loavesOf 0 = .ok (.aload_n 2, 1) := by decide +kernel
theorem dL_loavesOf_1 : decode cL_loavesOf 1 = .ok (.iconst 0, 1) := by decide +kernel
theorem dL_loavesOf_2 : decode cL_loavesOf 2 = .ok (.aload_n 0, 1) := by decide +kernel
theorem dL_loavesOf_3 : decode cL_loavesOf 3 = .ok (.iload_n 1, 1) := by decide +kernel
theorem dL_loavesOf_4 : decode cL_loavesOf 4 = .ok (.invokevirtual 40, 3) := by decide +kernel
theorem dL_loavesOf_7 : decode cL_loavesOf 7 = .ok (.i2l, 1) := by decide +kernel
theorem dL_loavesOf_8 : decode cL_loavesOf 8 = .ok (.lastore, 1) := by decide +kernel
theorem dL_loavesOf_9 : decode cL_loavesOf 9 = .ok (.goto 6, 3) := by decide +kernel
theorem dL_loavesOf_12 : decode cL_loavesOf 12 = .ok (.astore_n 3, 1) := by decide +kernel
theorem dL_loavesOf_13 : decode cL_loavesOf 13 = .ok (.iconst 1, 1) := by decide +kernel
theorem dL_loavesOf_14 : decode cL_loavesOf 14 = .ok (.ireturn, 1) := by decide +kernel
theorem dL_loavesOf_15 : decode cL_loavesOf 15 = .ok (.iconst 0, 1) := by decide +kernel
theorem dL_loavesOf_16 : decode cL_loavesOf 16 = .ok (.ireturn, 1) := by decide +kernel
theorem hL_loavesOf {l : Launch} {p1 : Int32} {v : bM} {q : Int32} (hf : fX8_loavesOf p1 v = some q) : hMet l yL_loavesOf cL_loavesOf 4 [(0, 9, 12, 13)] 9 1 6 [.int p1] v 0 v (some q.toInt64) := by
  refine h_start (by decide +kernel) (fun _ _ => Nat.le_of_ble_eq_true rfl) ?_
  intro p e s m args below meth c D E a o f ls H locs X hr hxt hl hB
  have hx := X.1
  have hb := X.2.1
  have hl : lv_has ls 4 [(0, .ref a), (1, .int p1), (2, .ref o)] := hl
  refine lv_aload_n hx hb dL_loavesOf_0 rfl (lv_at hl 2 rfl) ?_
  refine lv_iconst (v := 0) hx hb dL_loavesOf_1 (by decide) ?_
  refine lv_aload_n hx hb dL_loavesOf_2 rfl (lv_at hl 0 rfl) ?_
  refine lv_iload_n hx hb dL_loavesOf_3 rfl (lv_at hl 1 rfl) ?_
  refine l_go hB (bk_runV X (Av := [.int p1]) (rest := [.int 0, .ref o]) (mX8_loavesOf hf) yv_X8_loavesOf wm_1065 ⟨Nat.le_of_ble_eq_true rfl, Nat.le_of_ble_eq_true rfl⟩ rfl rfl hl.1 kl_X8.1 (hB.1.obj lcq_X_0) hB.1 hB.len hB.tx (Nat.le_of_ble_eq_true rfl) ⟨Nat.le_of_ble_eq_true rfl, Nat.le_of_ble_eq_true rfl⟩ dL_loavesOf_4) (fun H locs hB => ?_)
  refine W.eq (g2 := F0 m 7 ls [.int q, .int 0, .ref o]) rfl ?_
  refine lv_i2l (v := q.toInt64) hx hb dL_loavesOf_7 rfl ?_
  refine l_last X hB dL_loavesOf_8 (fun H locs hB => ?_)
  refine lv_goto (tgt := 15) hx hb dL_loavesOf_9 (by decide) ?_
  refine lv_iconst (v := 0) hx hb dL_loavesOf_15 (by decide) ?_
  exact l_iret X hr hB (fun x hx9 => by cases hx9; rfl) (Nat.le_of_ble_eq_true rfl) (Nat.le_of_ble_eq_true rfl) dL_loavesOf_16
theorem hxL_loavesOf_0 {l : Launch} (hlt : l.stackTraces = false) {p1 : Int32} {v : bM} (hf : xX8_loavesOf p1 v = some 0) : hMet l yL_loavesOf cL_loavesOf 4 [(0, 9, 12, 13)] 9 1 6 [.int p1] v 1 v none := by
  refine h_start (by decide +kernel) (fun _ _ => Nat.le_of_ble_eq_true rfl) ?_
  intro p e s m args below meth c D E a o f ls H locs X hr hxt hl hB
  have hx := X.1
  have hb := X.2.1
  have hl : lv_has ls 4 [(0, .ref a), (1, .int p1), (2, .ref o)] := hl
  refine lv_aload_n hx hb dL_loavesOf_0 rfl (lv_at hl 2 rfl) ?_
  refine lv_iconst (v := 0) hx hb dL_loavesOf_1 (by decide) ?_
  refine lv_aload_n hx hb dL_loavesOf_2 rfl (lv_at hl 0 rfl) ?_
  refine lv_iload_n hx hb dL_loavesOf_3 rfl (lv_at hl 1 rfl) ?_
  refine l_catch X hB (k := 0) (bk_runVX X (Av := [.int p1]) (rest := [.int 0, .ref o]) (mxX8_loavesOf hlt hf) yv_X8_loavesOf wm_1065 ⟨Nat.le_of_ble_eq_true rfl, Nat.le_of_ble_eq_true rfl⟩ rfl rfl hl.1 kl_X8.1 (hB.1.obj lcq_X_0) hB.1 hB.len hB.tx (Nat.le_of_ble_eq_true rfl) ⟨Nat.le_of_ble_eq_true rfl, Nat.le_of_ble_eq_true rfl⟩ dL_loavesOf_4) [] ⟨0, 9, 12, 13⟩ [] (hxt.trans rfl) (fun z hz => by cases hz) rfl (by decide) wm_915 (List.mem_of_getElem? (i := 0) rfl) (fun H locs q hB => ?_)
  refine lv_astore_n (lv' := [(3, .ref q), (0, .ref a), (1, .int p1), (2, .ref o)]) hx hb dL_loavesOf_12 rfl hl (by decide) rfl (fun ls hl => ?_)
  refine lv_iconst (v := 1) hx hb dL_loavesOf_13 (by decide) ?_
  exact l_iret X hr hB (fun x hx9 => by cases hx9) (Nat.le_of_ble_eq_true rfl) (Nat.le_of_ble_eq_true rfl) dL_loavesOf_14
theorem dL_freeAt_0 : decode cL_freeAt 0 = .ok (.aload_n 2, 1) := by decide +kernel
theorem dL_freeAt_1 : decode cL_freeAt 1 = .ok (.iconst 0, 1) := by decide +kernel
theorem dL_freeAt_2 : decode cL_freeAt 2 = .ok (.aload_n 0, 1) := by decide +kernel
theorem dL_freeAt_3 : decode cL_freeAt 3 = .ok (.iload_n 1, 1) := by decide +kernel
theorem dL_freeAt_4 : decode cL_freeAt 4 = .ok (.invokevirtual 43, 3) := by decide +kernel
theorem dL_freeAt_7 : decode cL_freeAt 7 = .ok (.i2l, 1) := by decide +kernel
theorem dL_freeAt_8 : decode cL_freeAt 8 = .ok (.lastore, 1) := by decide +kernel
theorem dL_freeAt_9 : decode cL_freeAt 9 = .ok (.goto 6, 3) := by decide +kernel
theorem dL_freeAt_12 : decode cL_freeAt 12 = .ok (.astore_n 3, 1) := by decide +kernel
theorem dL_freeAt_13 : decode cL_freeAt 13 = .ok (.iconst 1, 1) := by decide +kernel
theorem dL_freeAt_14 : decode cL_freeAt 14 = .ok (.ireturn, 1) := by decide +kernel
theorem dL_freeAt_15 : decode cL_freeAt 15 = .ok (.iconst 0, 1) := by decide +kernel
theorem dL_freeAt_16 : decode cL_freeAt 16 = .ok (.ireturn, 1) := by decide +kernel
theorem hL_freeAt {l : Launch} {p1 : Int32} {v : bM} {q : Int32} (hf : fX8_freeAt p1 v = some q) : hMet l yL_freeAt cL_freeAt 4 [(0, 9, 12, 13)] 8 1 6 [.int p1] v 0 v (some q.toInt64) := by
  refine h_start (by decide +kernel) (fun _ _ => Nat.le_of_ble_eq_true rfl) ?_
  intro p e s m args below meth c D E a o f ls H locs X hr hxt hl hB
  have hx := X.1
  have hb := X.2.1
  have hl : lv_has ls 4 [(0, .ref a), (1, .int p1), (2, .ref o)] := hl
  refine lv_aload_n hx hb dL_freeAt_0 rfl (lv_at hl 2 rfl) ?_
  refine lv_iconst (v := 0) hx hb dL_freeAt_1 (by decide) ?_
  refine lv_aload_n hx hb dL_freeAt_2 rfl (lv_at hl 0 rfl) ?_
  refine lv_iload_n hx hb dL_freeAt_3 rfl (lv_at hl 1 rfl) ?_
  refine l_go hB (bk_runV X (Av := [.int p1]) (rest := [.int 0, .ref o]) (mX8_freeAt hf) yv_X8_freeAt wm_1072 ⟨Nat.le_of_ble_eq_true rfl, Nat.le_of_ble_eq_true rfl⟩ rfl rfl hl.1 kl_X8.1 (hB.1.obj lcq_X_0) hB.1 hB.len hB.tx (Nat.le_of_ble_eq_true rfl) ⟨Nat.le_of_ble_eq_true rfl, Nat.le_of_ble_eq_true rfl⟩ dL_freeAt_4) (fun H locs hB => ?_)
  refine W.eq (g2 := F0 m 7 ls [.int q, .int 0, .ref o]) rfl ?_
  refine lv_i2l (v := q.toInt64) hx hb dL_freeAt_7 rfl ?_
  refine l_last X hB dL_freeAt_8 (fun H locs hB => ?_)
  refine lv_goto (tgt := 15) hx hb dL_freeAt_9 (by decide) ?_
  refine lv_iconst (v := 0) hx hb dL_freeAt_15 (by decide) ?_
  exact l_iret X hr hB (fun x hx9 => by cases hx9; rfl) (Nat.le_of_ble_eq_true rfl) (Nat.le_of_ble_eq_true rfl) dL_freeAt_16
theorem hxL_freeAt_0 {l : Launch} (hlt : l.stackTraces = false) {p1 : Int32} {v : bM} (hf : xX8_freeAt p1 v = some 0) : hMet l yL_freeAt cL_freeAt 4 [(0, 9, 12, 13)] 8 1 6 [.int p1] v 1 v none := by
  refine h_start (by decide +kernel) (fun _ _ => Nat.le_of_ble_eq_true rfl) ?_
  intro p e s m args below meth c D E a o f ls H locs X hr hxt hl hB
  have hx := X.1
  have hb := X.2.1
  have hl : lv_has ls 4 [(0, .ref a), (1, .int p1), (2, .ref o)] := hl
  refine lv_aload_n hx hb dL_freeAt_0 rfl (lv_at hl 2 rfl) ?_
  refine lv_iconst (v := 0) hx hb dL_freeAt_1 (by decide) ?_
  refine lv_aload_n hx hb dL_freeAt_2 rfl (lv_at hl 0 rfl) ?_
  refine lv_iload_n hx hb dL_freeAt_3 rfl (lv_at hl 1 rfl) ?_
  refine l_catch X hB (k := 0) (bk_runVX X (Av := [.int p1]) (rest := [.int 0, .ref o]) (mxX8_freeAt hlt hf) yv_X8_freeAt wm_1072 ⟨Nat.le_of_ble_eq_true rfl, Nat.le_of_ble_eq_true rfl⟩ rfl rfl hl.1 kl_X8.1 (hB.1.obj lcq_X_0) hB.1 hB.len hB.tx (Nat.le_of_ble_eq_true rfl) ⟨Nat.le_of_ble_eq_true rfl, Nat.le_of_ble_eq_true rfl⟩ dL_freeAt_4) [] ⟨0, 9, 12, 13⟩ [] (hxt.trans rfl) (fun z hz => by cases hz) rfl (by decide) wm_915 (List.mem_of_getElem? (i := 0) rfl) (fun H locs q hB => ?_)
  refine lv_astore_n (lv' := [(3, .ref q), (0, .ref a), (1, .int p1), (2, .ref o)]) hx hb dL_freeAt_12 rfl hl (by decide) rfl (fun ls hl => ?_)
  refine lv_iconst (v := 1) hx hb dL_freeAt_13 (by decide) ?_
  exact l_iret X hr hB (fun x hx9 => by cases hx9) (Nat.le_of_ble_eq_true rfl) (Nat.le_of_ble_eq_true rfl) dL_freeAt_14
theorem dL_rateAt_0 : decode cL_rateAt 0 = .ok (.aload_n 2, 1) := by decide +kernel
theorem dL_rateAt_1 : decode cL_rateAt 1 = .ok (.iconst 0, 1) := by decide +kernel
theorem dL_rateAt_2 : decode cL_rateAt 2 = .ok (.aload_n 0, 1) := by decide +kernel
theorem dL_rateAt_3 : decode cL_rateAt 3 = .ok (.iload_n 1, 1) := by decide +kernel
theorem dL_rateAt_4 : decode cL_rateAt 4 = .ok (.invokevirtual 46, 3) := by decide +kernel
theorem dL_rateAt_7 : decode cL_rateAt 7 = .ok (.i2l, 1) := by decide +kernel
theorem dL_rateAt_8 : decode cL_rateAt 8 = .ok (.lastore, 1) := by decide +kernel
theorem dL_rateAt_9 : decode cL_rateAt 9 = .ok (.goto 6, 3) := by decide +kernel
theorem dL_rateAt_12 : decode cL_rateAt 12 = .ok (.astore_n 3, 1) := by decide +kernel
theorem dL_rateAt_13 : decode cL_rateAt 13 = .ok (.iconst 1, 1) := by decide +kernel
theorem dL_rateAt_14 : decode cL_rateAt 14 = .ok (.ireturn, 1) := by decide +kernel
theorem dL_rateAt_15 : decode cL_rateAt 15 = .ok (.iconst 0, 1) := by decide +kernel
theorem dL_rateAt_16 : decode cL_rateAt 16 = .ok (.ireturn, 1) := by decide +kernel
theorem hL_rateAt {l : Launch} {p1 : Int32} {v : bM} {q : Int32} (hf : fX8_rateAt p1 v = some q) : hMet l yL_rateAt cL_rateAt 4 [(0, 9, 12, 49)] 8 1 6 [.int p1] v 0 v (some q.toInt64) := by
  refine h_start (by decide +kernel) (fun _ _ => Nat.le_of_ble_eq_true rfl) ?_
  intro p e s m args below meth c D E a o f ls H locs X hr hxt hl hB
  have hx := X.1
  have hb := X.2.1
  have hl : lv_has ls 4 [(0, .ref a), (1, .int p1), (2, .ref o)] := hl
  refine lv_aload_n hx hb dL_rateAt_0 rfl (lv_at hl 2 rfl) ?_
  refine lv_iconst (v := 0) hx hb dL_rateAt_1 (by decide) ?_
  refine lv_aload_n hx hb dL_rateAt_2 rfl (lv_at hl 0 rfl) ?_
  refine lv_iload_n hx hb dL_rateAt_3 rfl (lv_at hl 1 rfl) ?_
  refine l_go hB (bk_runV X (Av := [.int p1]) (rest := [.int 0, .ref o]) (mX8_rateAt hf) yv_X8_rateAt wm_1080 ⟨Nat.le_of_ble_eq_true rfl, Nat.le_of_ble_eq_true rfl⟩ rfl rfl hl.1 kl_X8.1 (hB.1.obj lcq_X_0) hB.1 hB.len hB.tx (Nat.le_of_ble_eq_true rfl) ⟨Nat.le_of_ble_eq_true rfl, Nat.le_of_ble_eq_true rfl⟩ dL_rateAt_4) (fun H locs hB => ?_)
  refine W.eq (g2 := F0 m 7 ls [.int q, .int 0, .ref o]) rfl ?_
  refine lv_i2l (v := q.toInt64) hx hb dL_rateAt_7 rfl ?_
  refine l_last X hB dL_rateAt_8 (fun H locs hB => ?_)
  refine lv_goto (tgt := 15) hx hb dL_rateAt_9 (by decide) ?_
  refine lv_iconst (v := 0) hx hb dL_rateAt_15 (by decide) ?_
  exact l_iret X hr hB (fun x hx9 => by cases hx9; rfl) (Nat.le_of_ble_eq_true rfl) (Nat.le_of_ble_eq_true rfl) dL_rateAt_16
theorem hxL_rateAt_1 {l : Launch} (hlt : l.stackTraces = false) {p1 : Int32} {v : bM} (hf : xX8_rateAt p1 v = some 1) : hMet l yL_rateAt cL_rateAt 4 [(0, 9, 12, 49)] 8 1 6 [.int p1] v 1 v none := by
  refine h_start (by decide +kernel) (fun _ _ => Nat.le_of_ble_eq_true rfl) ?_
  intro p e s m args below meth c D E a o f ls H locs X hr hxt hl hB
  have hx := X.1
  have hb := X.2.1
  have hl : lv_has ls 4 [(0, .ref a), (1, .int p1), (2, .ref o)] := hl
  refine lv_aload_n hx hb dL_rateAt_0 rfl (lv_at hl 2 rfl) ?_
  refine lv_iconst (v := 0) hx hb dL_rateAt_1 (by decide) ?_
  refine lv_aload_n hx hb dL_rateAt_2 rfl (lv_at hl 0 rfl) ?_
  refine lv_iload_n hx hb dL_rateAt_3 rfl (lv_at hl 1 rfl) ?_
  refine l_catch X hB (k := 1) (bk_runVX X (Av := [.int p1]) (rest := [.int 0, .ref o]) (mxX8_rateAt hlt hf) yv_X8_rateAt wm_1080 ⟨Nat.le_of_ble_eq_true rfl, Nat.le_of_ble_eq_true rfl⟩ rfl rfl hl.1 kl_X8.1 (hB.1.obj lcq_X_0) hB.1 hB.len hB.tx (Nat.le_of_ble_eq_true rfl) ⟨Nat.le_of_ble_eq_true rfl, Nat.le_of_ble_eq_true rfl⟩ dL_rateAt_4) [] ⟨0, 9, 12, 49⟩ [] (hxt.trans rfl) (fun z hz => by cases hz) rfl (by decide) wm_1079 (List.mem_of_getElem? (i := 1) rfl) (fun H locs q hB => ?_)
  refine lv_astore_n (lv' := [(3, .ref q), (0, .ref a), (1, .int p1), (2, .ref o)]) hx hb dL_rateAt_12 rfl hl (by decide) rfl (fun ls hl => ?_)
  refine lv_iconst (v := 1) hx hb dL_rateAt_13 (by decide) ?_
  exact l_iret X hr hB (fun x hx9 => by cases hx9) (Nat.le_of_ble_eq_true rfl) (Nat.le_of_ble_eq_true rfl) dL_rateAt_14
theorem dL_batchBread_0 : decode cL_batchBread 0 = .ok (.aload_n 2, 1) := by decide +kernel
theorem dL_batchBread_1 : decode cL_batchBread 1 = .ok (.iconst 0, 1) := by decide +kernel
theorem dL_batchBread_2 : decode cL_batchBread 2 = .ok (.aload_n 0, 1) := by decide +kernel
theorem dL_batchBread_3 : decode cL_batchBread 3 = .ok (.iload_n 1, 1) := by decide +kernel
theorem dL_batchBread_4 : decode cL_batchBread 4 = .ok (.invokevirtual 51, 3) := by decide +kernel
theorem dL_batchBread_7 : decode cL_batchBread 7 = .ok (.i2l, 1) := by decide +kernel
theorem dL_batchBread_8 : decode cL_batchBread 8 = .ok (.lastore, 1) := by decide +kernel
theorem dL_batchBread_9 : decode cL_batchBread 9 = .ok (.goto 6, 3) := by decide +kernel
theorem dL_batchBread_12 : decode cL_batchBread 12 = .ok (.astore_n 3, 1) := by decide +kernel
theorem dL_batchBread_13 : decode cL_batchBread 13 = .ok (.iconst 1, 1) := by decide +kernel
theorem dL_batchBread_14 : decode cL_batchBread 14 = .ok (.ireturn, 1) := by decide +kernel
theorem dL_batchBread_15 : decode cL_batchBread 15 = .ok (.iconst 0, 1) := by decide +kernel
theorem dL_batchBread_16 : decode cL_batchBread 16 = .ok (.ireturn, 1) := by decide +kernel
theorem hL_batchBread {l : Launch} {p1 : Int32} {v : bM} {q : Int32} (hf : fX8_batchBread p1 v = some q) : hMet l yL_batchBread cL_batchBread 4 [(0, 9, 12, 13)] 9 1 6 [.int p1] v 0 v (some q.toInt64) := by
  refine h_start (by decide +kernel) (fun _ _ => Nat.le_of_ble_eq_true rfl) ?_
  intro p e s m args below meth c D E a o f ls H locs X hr hxt hl hB
  have hx := X.1
  have hb := X.2.1
  have hl : lv_has ls 4 [(0, .ref a), (1, .int p1), (2, .ref o)] := hl
  refine lv_aload_n hx hb dL_batchBread_0 rfl (lv_at hl 2 rfl) ?_
  refine lv_iconst (v := 0) hx hb dL_batchBread_1 (by decide) ?_
  refine lv_aload_n hx hb dL_batchBread_2 rfl (lv_at hl 0 rfl) ?_
  refine lv_iload_n hx hb dL_batchBread_3 rfl (lv_at hl 1 rfl) ?_
  refine l_go hB (bk_runV X (Av := [.int p1]) (rest := [.int 0, .ref o]) (mX8_batchBread hf) yv_X8_batchBread wm_1106 ⟨Nat.le_of_ble_eq_true rfl, Nat.le_of_ble_eq_true rfl⟩ rfl rfl hl.1 kl_X8.1 (hB.1.obj lcq_X_0) hB.1 hB.len hB.tx (Nat.le_of_ble_eq_true rfl) ⟨Nat.le_of_ble_eq_true rfl, Nat.le_of_ble_eq_true rfl⟩ dL_batchBread_4) (fun H locs hB => ?_)
  refine W.eq (g2 := F0 m 7 ls [.int q, .int 0, .ref o]) rfl ?_
  refine lv_i2l (v := q.toInt64) hx hb dL_batchBread_7 rfl ?_
  refine l_last X hB dL_batchBread_8 (fun H locs hB => ?_)
  refine lv_goto (tgt := 15) hx hb dL_batchBread_9 (by decide) ?_
  refine lv_iconst (v := 0) hx hb dL_batchBread_15 (by decide) ?_
  exact l_iret X hr hB (fun x hx9 => by cases hx9; rfl) (Nat.le_of_ble_eq_true rfl) (Nat.le_of_ble_eq_true rfl) dL_batchBread_16
theorem hxL_batchBread_0 {l : Launch} (hlt : l.stackTraces = false) {p1 : Int32} {v : bM} (hf : xX8_batchBread p1 v = some 0) : hMet l yL_batchBread cL_batchBread 4 [(0, 9, 12, 13)] 9 1 6 [.int p1] v 1 v none := by
  refine h_start (by decide +kernel) (fun _ _ => Nat.le_of_ble_eq_true rfl) ?_
  intro p e s m args below meth c D E a o f ls H locs X hr hxt hl hB
  have hx := X.1
  have hb := X.2.1
  have hl : lv_has ls 4 [(0, .ref a), (1, .int p1), (2, .ref o)] := hl
  refine lv_aload_n hx hb dL_batchBread_0 rfl (lv_at hl 2 rfl) ?_
  refine lv_iconst (v := 0) hx hb dL_batchBread_1 (by decide) ?_
  refine lv_aload_n hx hb dL_batchBread_2 rfl (lv_at hl 0 rfl) ?_
  refine lv_iload_n hx hb dL_batchBread_3 rfl (lv_at hl 1 rfl) ?_
  refine l_catch X hB (k := 0) (bk_runVX X (Av := [.int p1]) (rest := [.int 0, .ref o]) (mxX8_batchBread hlt hf) yv_X8_batchBread wm_1106 ⟨Nat.le_of_ble_eq_true rfl, Nat.le_of_ble_eq_true rfl⟩ rfl rfl hl.1 kl_X8.1 (hB.1.obj lcq_X_0) hB.1 hB.len hB.tx (Nat.le_of_ble_eq_true rfl) ⟨Nat.le_of_ble_eq_true rfl, Nat.le_of_ble_eq_true rfl⟩ dL_batchBread_4) [] ⟨0, 9, 12, 13⟩ [] (hxt.trans rfl) (fun z hz => by cases hz) rfl (by decide) wm_915 (List.mem_of_getElem? (i := 0) rfl) (fun H locs q hB => ?_)
  refine lv_astore_n (lv' := [(3, .ref q), (0, .ref a), (1, .int p1), (2, .ref o)]) hx hb dL_batchBread_12 rfl hl (by decide) rfl (fun ls hl => ?_)
  refine lv_iconst (v := 1) hx hb dL_batchBread_13 (by decide) ?_
  exact l_iret X hr hB (fun x hx9 => by cases hx9) (Nat.le_of_ble_eq_true rfl) (Nat.le_of_ble_eq_true rfl) dL_batchBread_14
theorem dL_goodLoaves_0 : decode cL_goodLoaves 0 = .ok (.aload_n 2, 1) := by decide +kernel
theorem dL_goodLoaves_1 : decode cL_goodLoaves 1 = .ok (.iconst 0, 1) := by decide +kernel
theorem dL_goodLoaves_2 : decode cL_goodLoaves 2 = .ok (.aload_n 0, 1) := by decide +kernel
theorem dL_goodLoaves_3 : decode cL_goodLoaves 3 = .ok (.iload_n 1, 1) := by decide +kernel
theorem dL_goodLoaves_4 : decode cL_goodLoaves 4 = .ok (.invokevirtual 54, 3) := by decide +kernel
theorem dL_goodLoaves_7 : decode cL_goodLoaves 7 = .ok (.i2l, 1) := by decide +kernel
theorem dL_goodLoaves_8 : decode cL_goodLoaves 8 = .ok (.lastore, 1) := by decide +kernel
theorem dL_goodLoaves_9 : decode cL_goodLoaves 9 = .ok (.goto 6, 3) := by decide +kernel
theorem dL_goodLoaves_12 : decode cL_goodLoaves 12 = .ok (.astore_n 3, 1) := by decide +kernel
theorem dL_goodLoaves_13 : decode cL_goodLoaves 13 = .ok (.iconst 1, 1) := by decide +kernel
theorem dL_goodLoaves_14 : decode cL_goodLoaves 14 = .ok (.ireturn, 1) := by decide +kernel
theorem dL_goodLoaves_15 : decode cL_goodLoaves 15 = .ok (.iconst 0, 1) := by decide +kernel
theorem dL_goodLoaves_16 : decode cL_goodLoaves 16 = .ok (.ireturn, 1) := by decide +kernel
theorem hL_goodLoaves {l : Launch} {p1 : Int32} {v : bM} {q : Int32} (hf : fX8_goodLoaves p1 v = some q) : hMet l yL_goodLoaves cL_goodLoaves 4 [(0, 9, 12, 13)] 9 1 6 [.int p1] v 0 v (some q.toInt64) := by
  refine h_start (by decide +kernel) (fun _ _ => Nat.le_of_ble_eq_true rfl) ?_
  intro p e s m args below meth c D E a o f ls H locs X hr hxt hl hB
  have hx := X.1
  have hb := X.2.1
  have hl : lv_has ls 4 [(0, .ref a), (1, .int p1), (2, .ref o)] := hl
  refine lv_aload_n hx hb dL_goodLoaves_0 rfl (lv_at hl 2 rfl) ?_
  refine lv_iconst (v := 0) hx hb dL_goodLoaves_1 (by decide) ?_
  refine lv_aload_n hx hb dL_goodLoaves_2 rfl (lv_at hl 0 rfl) ?_
  refine lv_iload_n hx hb dL_goodLoaves_3 rfl (lv_at hl 1 rfl) ?_
  refine l_go hB (bk_runV X (Av := [.int p1]) (rest := [.int 0, .ref o]) (mX8_goodLoaves hf) yv_X8_goodLoaves wm_1117 ⟨Nat.le_of_ble_eq_true rfl, Nat.le_of_ble_eq_true rfl⟩ rfl rfl hl.1 kl_X8.1 (hB.1.obj lcq_X_0) hB.1 hB.len hB.tx (Nat.le_of_ble_eq_true rfl) ⟨Nat.le_of_ble_eq_true rfl, Nat.le_of_ble_eq_true rfl⟩ dL_goodLoaves_4) (fun H locs hB => ?_)
  refine W.eq (g2 := F0 m 7 ls [.int q, .int 0, .ref o]) rfl ?_
  refine lv_i2l (v := q.toInt64) hx hb dL_goodLoaves_7 rfl ?_
  refine l_last X hB dL_goodLoaves_8 (fun H locs hB => ?_)
  refine lv_goto (tgt := 15) hx hb dL_goodLoaves_9 (by decide) ?_
  refine lv_iconst (v := 0) hx hb dL_goodLoaves_15 (by decide) ?_
  exact l_iret X hr hB (fun x hx9 => by cases hx9; rfl) (Nat.le_of_ble_eq_true rfl) (Nat.le_of_ble_eq_true rfl) dL_goodLoaves_16
theorem hxL_goodLoaves_0 {l : Launch} (hlt : l.stackTraces = false) {p1 : Int32} {v : bM} (hf : xX8_goodLoaves p1 v = some 0) : hMet l yL_goodLoaves cL_goodLoaves 4 [(0, 9, 12, 13)] 9 1 6 [.int p1] v 1 v none := by
  refine h_start (by decide +kernel) (fun _ _ => Nat.le_of_ble_eq_true rfl) ?_
  intro p e s m args below meth c D E a o f ls H locs X hr hxt hl hB
  have hx := X.1
  have hb := X.2.1
  have hl : lv_has ls 4 [(0, .ref a), (1, .int p1), (2, .ref o)] := hl
  refine lv_aload_n hx hb dL_goodLoaves_0 rfl (lv_at hl 2 rfl) ?_
  refine lv_iconst (v := 0) hx hb dL_goodLoaves_1 (by decide) ?_
  refine lv_aload_n hx hb dL_goodLoaves_2 rfl (lv_at hl 0 rfl) ?_
  refine lv_iload_n hx hb dL_goodLoaves_3 rfl (lv_at hl 1 rfl) ?_
  refine l_catch X hB (k := 0) (bk_runVX X (Av := [.int p1]) (rest := [.int 0, .ref o]) (mxX8_goodLoaves hlt hf) yv_X8_goodLoaves wm_1117 ⟨Nat.le_of_ble_eq_true rfl, Nat.le_of_ble_eq_true rfl⟩ rfl rfl hl.1 kl_X8.1 (hB.1.obj lcq_X_0) hB.1 hB.len hB.tx (Nat.le_of_ble_eq_true rfl) ⟨Nat.le_of_ble_eq_true rfl, Nat.le_of_ble_eq_true rfl⟩ dL_goodLoaves_4) [] ⟨0, 9, 12, 13⟩ [] (hxt.trans rfl) (fun z hz => by cases hz) rfl (by decide) wm_915 (List.mem_of_getElem? (i := 0) rfl) (fun H locs q hB => ?_)
  refine lv_astore_n (lv' := [(3, .ref q), (0, .ref a), (1, .int p1), (2, .ref o)]) hx hb dL_goodLoaves_12 rfl hl (by decide) rfl (fun ls hl => ?_)
  refine lv_iconst (v := 1) hx hb dL_goodLoaves_13 (by decide) ?_
  exact l_iret X hr hB (fun x hx9 => by cases hx9) (Nat.le_of_ble_eq_true rfl) (Nat.le_of_ble_eq_true rfl) dL_goodLoaves_14
theorem dL_startOf_0 : decode cL_startOf 0 = .ok (.aload_n 2, 1) := by decide +kernel
theorem dL_startOf_1 : decode cL_startOf 1 = .ok (.iconst 0, 1) := by decide +kernel
theorem dL_startOf_2 : decode cL_startOf 2 = .ok (.aload_n 0, 1) := by decide +kernel
theorem dL_startOf_3 : decode cL_startOf 3 = .ok (.iload_n 1, 1) := by decide +kernel
theorem dL_startOf_4 : decode cL_startOf 4 = .ok (.invokevirtual 57, 3) := by decide +kernel
theorem dL_startOf_7 : decode cL_startOf 7 = .ok (.i2l, 1) := by decide +kernel
theorem dL_startOf_8 : decode cL_startOf 8 = .ok (.lastore, 1) := by decide +kernel
theorem dL_startOf_9 : decode cL_startOf 9 = .ok (.goto 6, 3) := by decide +kernel
theorem dL_startOf_12 : decode cL_startOf 12 = .ok (.astore_n 3, 1) := by decide +kernel
theorem dL_startOf_13 : decode cL_startOf 13 = .ok (.iconst 1, 1) := by decide +kernel
theorem dL_startOf_14 : decode cL_startOf 14 = .ok (.ireturn, 1) := by decide +kernel
theorem dL_startOf_15 : decode cL_startOf 15 = .ok (.iconst 0, 1) := by decide +kernel
theorem dL_startOf_16 : decode cL_startOf 16 = .ok (.ireturn, 1) := by decide +kernel
theorem hL_startOf {l : Launch} {p1 : Int32} {v : bM} {q : Int32} (hf : fX8_startOf p1 v = some q) : hMet l yL_startOf cL_startOf 4 [(0, 9, 12, 13)] 9 1 6 [.int p1] v 0 v (some q.toInt64) := by
  refine h_start (by decide +kernel) (fun _ _ => Nat.le_of_ble_eq_true rfl) ?_
  intro p e s m args below meth c D E a o f ls H locs X hr hxt hl hB
  have hx := X.1
  have hb := X.2.1
  have hl : lv_has ls 4 [(0, .ref a), (1, .int p1), (2, .ref o)] := hl
  refine lv_aload_n hx hb dL_startOf_0 rfl (lv_at hl 2 rfl) ?_
  refine lv_iconst (v := 0) hx hb dL_startOf_1 (by decide) ?_
  refine lv_aload_n hx hb dL_startOf_2 rfl (lv_at hl 0 rfl) ?_
  refine lv_iload_n hx hb dL_startOf_3 rfl (lv_at hl 1 rfl) ?_
  refine l_go hB (bk_runV X (Av := [.int p1]) (rest := [.int 0, .ref o]) (mX8_startOf hf) yv_X8_startOf wm_1124 ⟨Nat.le_of_ble_eq_true rfl, Nat.le_of_ble_eq_true rfl⟩ rfl rfl hl.1 kl_X8.1 (hB.1.obj lcq_X_0) hB.1 hB.len hB.tx (Nat.le_of_ble_eq_true rfl) ⟨Nat.le_of_ble_eq_true rfl, Nat.le_of_ble_eq_true rfl⟩ dL_startOf_4) (fun H locs hB => ?_)
  refine W.eq (g2 := F0 m 7 ls [.int q, .int 0, .ref o]) rfl ?_
  refine lv_i2l (v := q.toInt64) hx hb dL_startOf_7 rfl ?_
  refine l_last X hB dL_startOf_8 (fun H locs hB => ?_)
  refine lv_goto (tgt := 15) hx hb dL_startOf_9 (by decide) ?_
  refine lv_iconst (v := 0) hx hb dL_startOf_15 (by decide) ?_
  exact l_iret X hr hB (fun x hx9 => by cases hx9; rfl) (Nat.le_of_ble_eq_true rfl) (Nat.le_of_ble_eq_true rfl) dL_startOf_16
theorem hxL_startOf_0 {l : Launch} (hlt : l.stackTraces = false) {p1 : Int32} {v : bM} (hf : xX8_startOf p1 v = some 0) : hMet l yL_startOf cL_startOf 4 [(0, 9, 12, 13)] 9 1 6 [.int p1] v 1 v none := by
  refine h_start (by decide +kernel) (fun _ _ => Nat.le_of_ble_eq_true rfl) ?_
  intro p e s m args below meth c D E a o f ls H locs X hr hxt hl hB
  have hx := X.1
  have hb := X.2.1
  have hl : lv_has ls 4 [(0, .ref a), (1, .int p1), (2, .ref o)] := hl
  refine lv_aload_n hx hb dL_startOf_0 rfl (lv_at hl 2 rfl) ?_
  refine lv_iconst (v := 0) hx hb dL_startOf_1 (by decide) ?_
  refine lv_aload_n hx hb dL_startOf_2 rfl (lv_at hl 0 rfl) ?_
  refine lv_iload_n hx hb dL_startOf_3 rfl (lv_at hl 1 rfl) ?_
  refine l_catch X hB (k := 0) (bk_runVX X (Av := [.int p1]) (rest := [.int 0, .ref o]) (mxX8_startOf hlt hf) yv_X8_startOf wm_1124 ⟨Nat.le_of_ble_eq_true rfl, Nat.le_of_ble_eq_true rfl⟩ rfl rfl hl.1 kl_X8.1 (hB.1.obj lcq_X_0) hB.1 hB.len hB.tx (Nat.le_of_ble_eq_true rfl) ⟨Nat.le_of_ble_eq_true rfl, Nat.le_of_ble_eq_true rfl⟩ dL_startOf_4) [] ⟨0, 9, 12, 13⟩ [] (hxt.trans rfl) (fun z hz => by cases hz) rfl (by decide) wm_915 (List.mem_of_getElem? (i := 0) rfl) (fun H locs q hB => ?_)
  refine lv_astore_n (lv' := [(3, .ref q), (0, .ref a), (1, .int p1), (2, .ref o)]) hx hb dL_startOf_12 rfl hl (by decide) rfl (fun ls hl => ?_)
  refine lv_iconst (v := 1) hx hb dL_startOf_13 (by decide) ?_
  exact l_iret X hr hB (fun x hx9 => by cases hx9) (Nat.le_of_ble_eq_true rfl) (Nat.le_of_ble_eq_true rfl) dL_startOf_14
theorem dL_ovenMinutes_0 : decode cL_ovenMinutes 0 = .ok (.aload_n 2, 1) := by decide +kernel
theorem dL_ovenMinutes_1 : decode cL_ovenMinutes 1 = .ok (.iconst 0, 1) := by decide +kernel
theorem dL_ovenMinutes_2 : decode cL_ovenMinutes 2 = .ok (.aload_n 0, 1) := by decide +kernel
theorem dL_ovenMinutes_3 : decode cL_ovenMinutes 3 = .ok (.iload_n 1, 1) := by decide +kernel
theorem dL_ovenMinutes_4 : decode cL_ovenMinutes 4 = .ok (.invokevirtual 60, 3) := by decide +kernel
theorem dL_ovenMinutes_7 : decode cL_ovenMinutes 7 = .ok (.i2l, 1) := by decide +kernel
theorem dL_ovenMinutes_8 : decode cL_ovenMinutes 8 = .ok (.lastore, 1) := by decide +kernel
theorem dL_ovenMinutes_9 : decode cL_ovenMinutes 9 = .ok (.goto 6, 3) := by decide +kernel
theorem dL_ovenMinutes_12 : decode cL_ovenMinutes 12 = .ok (.astore_n 3, 1) := by decide +kernel
theorem dL_ovenMinutes_13 : decode cL_ovenMinutes 13 = .ok (.iconst 1, 1) := by decide +kernel
theorem dL_ovenMinutes_14 : decode cL_ovenMinutes 14 = .ok (.ireturn, 1) := by decide +kernel
theorem dL_ovenMinutes_15 : decode cL_ovenMinutes 15 = .ok (.iconst 0, 1) := by decide +kernel
theorem dL_ovenMinutes_16 : decode cL_ovenMinutes 16 = .ok (.ireturn, 1) := by decide +kernel
theorem hL_ovenMinutes {l : Launch} {p1 : Int32} {v : bM} {q : Int32} (hf : fX8_ovenMinutes p1 v = some q) : hMet l yL_ovenMinutes cL_ovenMinutes 4 [(0, 9, 12, 13)] 9 1 6 [.int p1] v 0 v (some q.toInt64) := by
  refine h_start (by decide +kernel) (fun _ _ => Nat.le_of_ble_eq_true rfl) ?_
  intro p e s m args below meth c D E a o f ls H locs X hr hxt hl hB
  have hx := X.1
  have hb := X.2.1
  have hl : lv_has ls 4 [(0, .ref a), (1, .int p1), (2, .ref o)] := hl
  refine lv_aload_n hx hb dL_ovenMinutes_0 rfl (lv_at hl 2 rfl) ?_
  refine lv_iconst (v := 0) hx hb dL_ovenMinutes_1 (by decide) ?_
  refine lv_aload_n hx hb dL_ovenMinutes_2 rfl (lv_at hl 0 rfl) ?_
  refine lv_iload_n hx hb dL_ovenMinutes_3 rfl (lv_at hl 1 rfl) ?_
  refine l_go hB (bk_runV X (Av := [.int p1]) (rest := [.int 0, .ref o]) (mX8_ovenMinutes hf) yv_X8_ovenMinutes wm_1131 ⟨Nat.le_of_ble_eq_true rfl, Nat.le_of_ble_eq_true rfl⟩ rfl rfl hl.1 kl_X8.1 (hB.1.obj lcq_X_0) hB.1 hB.len hB.tx (Nat.le_of_ble_eq_true rfl) ⟨Nat.le_of_ble_eq_true rfl, Nat.le_of_ble_eq_true rfl⟩ dL_ovenMinutes_4) (fun H locs hB => ?_)
  refine W.eq (g2 := F0 m 7 ls [.int q, .int 0, .ref o]) rfl ?_
  refine lv_i2l (v := q.toInt64) hx hb dL_ovenMinutes_7 rfl ?_
  refine l_last X hB dL_ovenMinutes_8 (fun H locs hB => ?_)
  refine lv_goto (tgt := 15) hx hb dL_ovenMinutes_9 (by decide) ?_
  refine lv_iconst (v := 0) hx hb dL_ovenMinutes_15 (by decide) ?_
  exact l_iret X hr hB (fun x hx9 => by cases hx9; rfl) (Nat.le_of_ble_eq_true rfl) (Nat.le_of_ble_eq_true rfl) dL_ovenMinutes_16
theorem hxL_ovenMinutes_0 {l : Launch} (hlt : l.stackTraces = false) {p1 : Int32} {v : bM} (hf : xX8_ovenMinutes p1 v = some 0) : hMet l yL_ovenMinutes cL_ovenMinutes 4 [(0, 9, 12, 13)] 9 1 6 [.int p1] v 1 v none := by
  refine h_start (by decide +kernel) (fun _ _ => Nat.le_of_ble_eq_true rfl) ?_
  intro p e s m args below meth c D E a o f ls H locs X hr hxt hl hB
  have hx := X.1
  have hb := X.2.1
  have hl : lv_has ls 4 [(0, .ref a), (1, .int p1), (2, .ref o)] := hl
  refine lv_aload_n hx hb dL_ovenMinutes_0 rfl (lv_at hl 2 rfl) ?_
  refine lv_iconst (v := 0) hx hb dL_ovenMinutes_1 (by decide) ?_
  refine lv_aload_n hx hb dL_ovenMinutes_2 rfl (lv_at hl 0 rfl) ?_
  refine lv_iload_n hx hb dL_ovenMinutes_3 rfl (lv_at hl 1 rfl) ?_
  refine l_catch X hB (k := 0) (bk_runVX X (Av := [.int p1]) (rest := [.int 0, .ref o]) (mxX8_ovenMinutes hlt hf) yv_X8_ovenMinutes wm_1131 ⟨Nat.le_of_ble_eq_true rfl, Nat.le_of_ble_eq_true rfl⟩ rfl rfl hl.1 kl_X8.1 (hB.1.obj lcq_X_0) hB.1 hB.len hB.tx (Nat.le_of_ble_eq_true rfl) ⟨Nat.le_of_ble_eq_true rfl, Nat.le_of_ble_eq_true rfl⟩ dL_ovenMinutes_4) [] ⟨0, 9, 12, 13⟩ [] (hxt.trans rfl) (fun z hz => by cases hz) rfl (by decide) wm_915 (List.mem_of_getElem? (i := 0) rfl) (fun H locs q hB => ?_)
  refine lv_astore_n (lv' := [(3, .ref q), (0, .ref a), (1, .int p1), (2, .ref o)]) hx hb dL_ovenMinutes_12 rfl hl (by decide) rfl (fun ls hl => ?_)
  refine lv_iconst (v := 1) hx hb dL_ovenMinutes_13 (by decide) ?_
  exact l_iret X hr hB (fun x hx9 => by cases hx9) (Nat.le_of_ble_eq_true rfl) (Nat.le_of_ble_eq_true rfl) dL_ovenMinutes_14
theorem dL_costOf_0 : decode cL_costOf 0 = .ok (.aload_n 2, 1) := by decide +kernel
theorem dL_costOf_1 : decode cL_costOf 1 = .ok (.iconst 0, 1) := by decide +kernel
theorem dL_costOf_2 : decode cL_costOf 2 = .ok (.aload_n 0, 1) := by decide +kernel
theorem dL_costOf_3 : decode cL_costOf 3 = .ok (.iload_n 1, 1) := by decide +kernel
theorem dL_costOf_4 : decode cL_costOf 4 = .ok (.invokevirtual 63, 3) := by decide +kernel
theorem dL_costOf_7 : decode cL_costOf 7 = .ok (.i2l, 1) := by decide +kernel
theorem dL_costOf_8 : decode cL_costOf 8 = .ok (.lastore, 1) := by decide +kernel
theorem dL_costOf_9 : decode cL_costOf 9 = .ok (.goto 6, 3) := by decide +kernel
theorem dL_costOf_12 : decode cL_costOf 12 = .ok (.astore_n 3, 1) := by decide +kernel
theorem dL_costOf_13 : decode cL_costOf 13 = .ok (.iconst 1, 1) := by decide +kernel
theorem dL_costOf_14 : decode cL_costOf 14 = .ok (.ireturn, 1) := by decide +kernel
theorem dL_costOf_15 : decode cL_costOf 15 = .ok (.iconst 0, 1) := by decide +kernel
theorem dL_costOf_16 : decode cL_costOf 16 = .ok (.ireturn, 1) := by decide +kernel
theorem hL_costOf {l : Launch} {p1 : Int32} {v : bM} {q : Int32} (hf : fX8_costOf p1 v = some q) : hMet l yL_costOf cL_costOf 4 [(0, 9, 12, 13)] 9 1 6 [.int p1] v 0 v (some q.toInt64) := by
  refine h_start (by decide +kernel) (fun _ _ => Nat.le_of_ble_eq_true rfl) ?_
  intro p e s m args below meth c D E a o f ls H locs X hr hxt hl hB
  have hx := X.1
  have hb := X.2.1
  have hl : lv_has ls 4 [(0, .ref a), (1, .int p1), (2, .ref o)] := hl
  refine lv_aload_n hx hb dL_costOf_0 rfl (lv_at hl 2 rfl) ?_
  refine lv_iconst (v := 0) hx hb dL_costOf_1 (by decide) ?_
  refine lv_aload_n hx hb dL_costOf_2 rfl (lv_at hl 0 rfl) ?_
  refine lv_iload_n hx hb dL_costOf_3 rfl (lv_at hl 1 rfl) ?_
  refine l_go hB (bk_runV X (Av := [.int p1]) (rest := [.int 0, .ref o]) (mX8_costOf hf) yv_X8_costOf wm_1138 ⟨Nat.le_of_ble_eq_true rfl, Nat.le_of_ble_eq_true rfl⟩ rfl rfl hl.1 kl_X8.1 (hB.1.obj lcq_X_0) hB.1 hB.len hB.tx (Nat.le_of_ble_eq_true rfl) ⟨Nat.le_of_ble_eq_true rfl, Nat.le_of_ble_eq_true rfl⟩ dL_costOf_4) (fun H locs hB => ?_)
  refine W.eq (g2 := F0 m 7 ls [.int q, .int 0, .ref o]) rfl ?_
  refine lv_i2l (v := q.toInt64) hx hb dL_costOf_7 rfl ?_
  refine l_last X hB dL_costOf_8 (fun H locs hB => ?_)
  refine lv_goto (tgt := 15) hx hb dL_costOf_9 (by decide) ?_
  refine lv_iconst (v := 0) hx hb dL_costOf_15 (by decide) ?_
  exact l_iret X hr hB (fun x hx9 => by cases hx9; rfl) (Nat.le_of_ble_eq_true rfl) (Nat.le_of_ble_eq_true rfl) dL_costOf_16
theorem hxL_costOf_0 {l : Launch} (hlt : l.stackTraces = false) {p1 : Int32} {v : bM} (hf : xX8_costOf p1 v = some 0) : hMet l yL_costOf cL_costOf 4 [(0, 9, 12, 13)] 9 1 6 [.int p1] v 1 v none := by
  refine h_start (by decide +kernel) (fun _ _ => Nat.le_of_ble_eq_true rfl) ?_
  intro p e s m args below meth c D E a o f ls H locs X hr hxt hl hB
  have hx := X.1
  have hb := X.2.1
  have hl : lv_has ls 4 [(0, .ref a), (1, .int p1), (2, .ref o)] := hl
  refine lv_aload_n hx hb dL_costOf_0 rfl (lv_at hl 2 rfl) ?_
  refine lv_iconst (v := 0) hx hb dL_costOf_1 (by decide) ?_
  refine lv_aload_n hx hb dL_costOf_2 rfl (lv_at hl 0 rfl) ?_
  refine lv_iload_n hx hb dL_costOf_3 rfl (lv_at hl 1 rfl) ?_
  refine l_catch X hB (k := 0) (bk_runVX X (Av := [.int p1]) (rest := [.int 0, .ref o]) (mxX8_costOf hlt hf) yv_X8_costOf wm_1138 ⟨Nat.le_of_ble_eq_true rfl, Nat.le_of_ble_eq_true rfl⟩ rfl rfl hl.1 kl_X8.1 (hB.1.obj lcq_X_0) hB.1 hB.len hB.tx (Nat.le_of_ble_eq_true rfl) ⟨Nat.le_of_ble_eq_true rfl, Nat.le_of_ble_eq_true rfl⟩ dL_costOf_4) [] ⟨0, 9, 12, 13⟩ [] (hxt.trans rfl) (fun z hz => by cases hz) rfl (by decide) wm_915 (List.mem_of_getElem? (i := 0) rfl) (fun H locs q hB => ?_)
  refine lv_astore_n (lv' := [(3, .ref q), (0, .ref a), (1, .int p1), (2, .ref o)]) hx hb dL_costOf_12 rfl hl (by decide) rfl (fun ls hl => ?_)
  refine lv_iconst (v := 1) hx hb dL_costOf_13 (by decide) ?_
  exact l_iret X hr hB (fun x hx9 => by cases hx9) (Nat.le_of_ble_eq_true rfl) (Nat.le_of_ble_eq_true rfl) dL_costOf_14
theorem dL_lossOf_0 : decode cL_lossOf 0 = .ok (.aload_n 2, 1) := by decide +kernel
theorem dL_lossOf_1 : decode cL_lossOf 1 = .ok (.iconst 0, 1) := by decide +kernel
theorem dL_lossOf_2 : decode cL_lossOf 2 = .ok (.aload_n 0, 1) := by decide +kernel
theorem dL_lossOf_3 : decode cL_lossOf 3 = .ok (.iload_n 1, 1) := by decide +kernel
theorem dL_lossOf_4 : decode cL_lossOf 4 = .ok (.invokevirtual 66, 3) := by decide +kernel
theorem dL_lossOf_7 : decode cL_lossOf 7 = .ok (.i2l, 1) := by decide +kernel
theorem dL_lossOf_8 : decode cL_lossOf 8 = .ok (.lastore, 1) := by decide +kernel
theorem dL_lossOf_9 : decode cL_lossOf 9 = .ok (.goto 6, 3) := by decide +kernel
theorem dL_lossOf_12 : decode cL_lossOf 12 = .ok (.astore_n 3, 1) := by decide +kernel
theorem dL_lossOf_13 : decode cL_lossOf 13 = .ok (.iconst 1, 1) := by decide +kernel
theorem dL_lossOf_14 : decode cL_lossOf 14 = .ok (.ireturn, 1) := by decide +kernel
theorem dL_lossOf_15 : decode cL_lossOf 15 = .ok (.iconst 0, 1) := by decide +kernel
theorem dL_lossOf_16 : decode cL_lossOf 16 = .ok (.ireturn, 1) := by decide +kernel
theorem hL_lossOf {l : Launch} {p1 : Int32} {v : bM} {q : Int32} (hf : fX8_lossOf p1 v = some q) : hMet l yL_lossOf cL_lossOf 4 [(0, 9, 12, 13)] 9 1 6 [.int p1] v 0 v (some q.toInt64) := by
  refine h_start (by decide +kernel) (fun _ _ => Nat.le_of_ble_eq_true rfl) ?_
  intro p e s m args below meth c D E a o f ls H locs X hr hxt hl hB
  have hx := X.1
  have hb := X.2.1
  have hl : lv_has ls 4 [(0, .ref a), (1, .int p1), (2, .ref o)] := hl
  refine lv_aload_n hx hb dL_lossOf_0 rfl (lv_at hl 2 rfl) ?_
  refine lv_iconst (v := 0) hx hb dL_lossOf_1 (by decide) ?_
  refine lv_aload_n hx hb dL_lossOf_2 rfl (lv_at hl 0 rfl) ?_
  refine lv_iload_n hx hb dL_lossOf_3 rfl (lv_at hl 1 rfl) ?_
  refine l_go hB (bk_runV X (Av := [.int p1]) (rest := [.int 0, .ref o]) (mX8_lossOf hf) yv_X8_lossOf wm_1145 ⟨Nat.le_of_ble_eq_true rfl, Nat.le_of_ble_eq_true rfl⟩ rfl rfl hl.1 kl_X8.1 (hB.1.obj lcq_X_0) hB.1 hB.len hB.tx (Nat.le_of_ble_eq_true rfl) ⟨Nat.le_of_ble_eq_true rfl, Nat.le_of_ble_eq_true rfl⟩ dL_lossOf_4) (fun H locs hB => ?_)
  refine W.eq (g2 := F0 m 7 ls [.int q, .int 0, .ref o]) rfl ?_
  refine lv_i2l (v := q.toInt64) hx hb dL_lossOf_7 rfl ?_
  refine l_last X hB dL_lossOf_8 (fun H locs hB => ?_)
  refine lv_goto (tgt := 15) hx hb dL_lossOf_9 (by decide) ?_
  refine lv_iconst (v := 0) hx hb dL_lossOf_15 (by decide) ?_
  exact l_iret X hr hB (fun x hx9 => by cases hx9; rfl) (Nat.le_of_ble_eq_true rfl) (Nat.le_of_ble_eq_true rfl) dL_lossOf_16
theorem hxL_lossOf_0 {l : Launch} (hlt : l.stackTraces = false) {p1 : Int32} {v : bM} (hf : xX8_lossOf p1 v = some 0) : hMet l yL_lossOf cL_lossOf 4 [(0, 9, 12, 13)] 9 1 6 [.int p1] v 1 v none := by
  refine h_start (by decide +kernel) (fun _ _ => Nat.le_of_ble_eq_true rfl) ?_
  intro p e s m args below meth c D E a o f ls H locs X hr hxt hl hB
  have hx := X.1
  have hb := X.2.1
  have hl : lv_has ls 4 [(0, .ref a), (1, .int p1), (2, .ref o)] := hl
  refine lv_aload_n hx hb dL_lossOf_0 rfl (lv_at hl 2 rfl) ?_
  refine lv_iconst (v := 0) hx hb dL_lossOf_1 (by decide) ?_
  refine lv_aload_n hx hb dL_lossOf_2 rfl (lv_at hl 0 rfl) ?_
  refine lv_iload_n hx hb dL_lossOf_3 rfl (lv_at hl 1 rfl) ?_
  refine l_catch X hB (k := 0) (bk_runVX X (Av := [.int p1]) (rest := [.int 0, .ref o]) (mxX8_lossOf hlt hf) yv_X8_lossOf wm_1145 ⟨Nat.le_of_ble_eq_true rfl, Nat.le_of_ble_eq_true rfl⟩ rfl rfl hl.1 kl_X8.1 (hB.1.obj lcq_X_0) hB.1 hB.len hB.tx (Nat.le_of_ble_eq_true rfl) ⟨Nat.le_of_ble_eq_true rfl, Nat.le_of_ble_eq_true rfl⟩ dL_lossOf_4) [] ⟨0, 9, 12, 13⟩ [] (hxt.trans rfl) (fun z hz => by cases hz) rfl (by decide) wm_915 (List.mem_of_getElem? (i := 0) rfl) (fun H locs q hB => ?_)
  refine lv_astore_n (lv' := [(3, .ref q), (0, .ref a), (1, .int p1), (2, .ref o)]) hx hb dL_lossOf_12 rfl hl (by decide) rfl (fun ls hl => ?_)
  refine lv_iconst (v := 1) hx hb dL_lossOf_13 (by decide) ?_
  exact l_iret X hr hB (fun x hx9 => by cases hx9) (Nat.le_of_ble_eq_true rfl) (Nat.le_of_ble_eq_true rfl) dL_lossOf_14
theorem dL_gapOf_0 : decode cL_gapOf 0 = .ok (.aload_n 3, 1) := by decide +kernel
theorem dL_gapOf_1 : decode cL_gapOf 1 = .ok (.iconst 0, 1) := by decide +kernel
theorem dL_gapOf_2 : decode cL_gapOf 2 = .ok (.aload_n 0, 1) := by decide +kernel
theorem dL_gapOf_3 : decode cL_gapOf 3 = .ok (.iload_n 1, 1) := by decide +kernel
theorem dL_gapOf_4 : decode cL_gapOf 4 = .ok (.iload_n 2, 1) := by decide +kernel
theorem dL_gapOf_5 : decode cL_gapOf 5 = .ok (.invokevirtual 69, 3) := by decide +kernel
theorem dL_gapOf_8 : decode cL_gapOf 8 = .ok (.i2l, 1) := by decide +kernel
theorem dL_gapOf_9 : decode cL_gapOf 9 = .ok (.lastore, 1) := by decide +kernel
theorem dL_gapOf_10 : decode cL_gapOf 10 = .ok (.goto 11, 3) := by decide +kernel
theorem dL_gapOf_13 : decode cL_gapOf 13 = .ok (.astore 4, 2) := by decide +kernel
theorem dL_gapOf_15 : decode cL_gapOf 15 = .ok (.iconst 1, 1) := by decide +kernel
theorem dL_gapOf_16 : decode cL_gapOf 16 = .ok (.ireturn, 1) := by decide +kernel
theorem dL_gapOf_17 : decode cL_gapOf 17 = .ok (.astore 4, 2) := by decide +kernel
theorem dL_gapOf_19 : decode cL_gapOf 19 = .ok (.iconst 2, 1) := by decide +kernel
theorem dL_gapOf_20 : decode cL_gapOf 20 = .ok (.ireturn, 1) := by decide +kernel
theorem dL_gapOf_21 : decode cL_gapOf 21 = .ok (.iconst 0, 1) := by decide +kernel
theorem dL_gapOf_22 : decode cL_gapOf 22 = .ok (.ireturn, 1) := by decide +kernel
theorem hL_gapOf {l : Launch} {p1 : Int32} {p2 : Int32} {v : bM} {q : Int32} (hf : fX8_gapOf p1 p2 v = some q) : hMet l yL_gapOf cL_gapOf 5 [(0, 10, 13, 13), (0, 10, 17, 49)] 9 1 6 [.int p1, .int p2] v 0 v (some q.toInt64) := by
  refine h_start (by decide +kernel) (fun _ _ => Nat.le_of_ble_eq_true rfl) ?_
  intro p e s m args below meth c D E a o f ls H locs X hr hxt hl hB
  have hx := X.1
  have hb := X.2.1
  have hl : lv_has ls 5 [(0, .ref a), (1, .int p1), (2, .int p2), (3, .ref o)] := hl
  refine lv_aload_n hx hb dL_gapOf_0 rfl (lv_at hl 3 rfl) ?_
  refine lv_iconst (v := 0) hx hb dL_gapOf_1 (by decide) ?_
  refine lv_aload_n hx hb dL_gapOf_2 rfl (lv_at hl 0 rfl) ?_
  refine lv_iload_n hx hb dL_gapOf_3 rfl (lv_at hl 1 rfl) ?_
  refine lv_iload_n hx hb dL_gapOf_4 rfl (lv_at hl 2 rfl) ?_
  refine l_go hB (bk_runV X (Av := [.int p1, .int p2]) (rest := [.int 0, .ref o]) (mX8_gapOf hf) yv_X8_gapOf wm_1152 ⟨Nat.le_of_ble_eq_true rfl, Nat.le_of_ble_eq_true rfl⟩ rfl rfl hl.1 kl_X8.1 (hB.1.obj lcq_X_0) hB.1 hB.len hB.tx (Nat.le_of_ble_eq_true rfl) ⟨Nat.le_of_ble_eq_true rfl, Nat.le_of_ble_eq_true rfl⟩ dL_gapOf_5) (fun H locs hB => ?_)
  refine W.eq (g2 := F0 m 8 ls [.int q, .int 0, .ref o]) rfl ?_
  refine lv_i2l (v := q.toInt64) hx hb dL_gapOf_8 rfl ?_
  refine l_last X hB dL_gapOf_9 (fun H locs hB => ?_)
  refine lv_goto (tgt := 21) hx hb dL_gapOf_10 (by decide) ?_
  refine lv_iconst (v := 0) hx hb dL_gapOf_21 (by decide) ?_
  exact l_iret X hr hB (fun x hx9 => by cases hx9; rfl) (Nat.le_of_ble_eq_true rfl) (Nat.le_of_ble_eq_true rfl) dL_gapOf_22
theorem hxL_gapOf_0 {l : Launch} (hlt : l.stackTraces = false) {p1 : Int32} {p2 : Int32} {v : bM} (hf : xX8_gapOf p1 p2 v = some 0) : hMet l yL_gapOf cL_gapOf 5 [(0, 10, 13, 13), (0, 10, 17, 49)] 9 1 6 [.int p1, .int p2] v 1 v none := by
  refine h_start (by decide +kernel) (fun _ _ => Nat.le_of_ble_eq_true rfl) ?_
  intro p e s m args below meth c D E a o f ls H locs X hr hxt hl hB
  have hx := X.1
  have hb := X.2.1
  have hl : lv_has ls 5 [(0, .ref a), (1, .int p1), (2, .int p2), (3, .ref o)] := hl
  refine lv_aload_n hx hb dL_gapOf_0 rfl (lv_at hl 3 rfl) ?_
  refine lv_iconst (v := 0) hx hb dL_gapOf_1 (by decide) ?_
  refine lv_aload_n hx hb dL_gapOf_2 rfl (lv_at hl 0 rfl) ?_
  refine lv_iload_n hx hb dL_gapOf_3 rfl (lv_at hl 1 rfl) ?_
  refine lv_iload_n hx hb dL_gapOf_4 rfl (lv_at hl 2 rfl) ?_
  refine l_catch X hB (k := 0) (bk_runVX X (Av := [.int p1, .int p2]) (rest := [.int 0, .ref o]) (mxX8_gapOf hlt hf) yv_X8_gapOf wm_1152 ⟨Nat.le_of_ble_eq_true rfl, Nat.le_of_ble_eq_true rfl⟩ rfl rfl hl.1 kl_X8.1 (hB.1.obj lcq_X_0) hB.1 hB.len hB.tx (Nat.le_of_ble_eq_true rfl) ⟨Nat.le_of_ble_eq_true rfl, Nat.le_of_ble_eq_true rfl⟩ dL_gapOf_5) [] ⟨0, 10, 13, 13⟩ [⟨0, 10, 17, 49⟩] (hxt.trans rfl) (fun z hz => by cases hz) rfl (by decide) wm_915 (List.mem_of_getElem? (i := 0) rfl) (fun H locs q hB => ?_)
  refine lv_astore (lv' := [(4, .ref q), (0, .ref a), (1, .int p1), (2, .int p2), (3, .ref o)]) hx hb dL_gapOf_13 hl (by decide) rfl (fun ls hl => ?_)
  refine lv_iconst (v := 1) hx hb dL_gapOf_15 (by decide) ?_
  exact l_iret X hr hB (fun x hx9 => by cases hx9) (Nat.le_of_ble_eq_true rfl) (Nat.le_of_ble_eq_true rfl) dL_gapOf_16
theorem hxL_gapOf_1 {l : Launch} (hlt : l.stackTraces = false) {p1 : Int32} {p2 : Int32} {v : bM} (hf : xX8_gapOf p1 p2 v = some 1) : hMet l yL_gapOf cL_gapOf 5 [(0, 10, 13, 13), (0, 10, 17, 49)] 9 1 6 [.int p1, .int p2] v 2 v none := by
  refine h_start (by decide +kernel) (fun _ _ => Nat.le_of_ble_eq_true rfl) ?_
  intro p e s m args below meth c D E a o f ls H locs X hr hxt hl hB
  have hx := X.1
  have hb := X.2.1
  have hl : lv_has ls 5 [(0, .ref a), (1, .int p1), (2, .int p2), (3, .ref o)] := hl
  refine lv_aload_n hx hb dL_gapOf_0 rfl (lv_at hl 3 rfl) ?_
  refine lv_iconst (v := 0) hx hb dL_gapOf_1 (by decide) ?_
  refine lv_aload_n hx hb dL_gapOf_2 rfl (lv_at hl 0 rfl) ?_
  refine lv_iload_n hx hb dL_gapOf_3 rfl (lv_at hl 1 rfl) ?_
  refine lv_iload_n hx hb dL_gapOf_4 rfl (lv_at hl 2 rfl) ?_
  refine l_catch X hB (k := 1) (bk_runVX X (Av := [.int p1, .int p2]) (rest := [.int 0, .ref o]) (mxX8_gapOf hlt hf) yv_X8_gapOf wm_1152 ⟨Nat.le_of_ble_eq_true rfl, Nat.le_of_ble_eq_true rfl⟩ rfl rfl hl.1 kl_X8.1 (hB.1.obj lcq_X_0) hB.1 hB.len hB.tx (Nat.le_of_ble_eq_true rfl) ⟨Nat.le_of_ble_eq_true rfl, Nat.le_of_ble_eq_true rfl⟩ dL_gapOf_5) [⟨0, 10, 13, 13⟩] ⟨0, 10, 17, 49⟩ [] (hxt.trans rfl) (List.forall_mem_cons.mpr ⟨⟨by decide, "java/lang/IndexOutOfBoundsException", wm_915, List.mem_of_getElem? (i := 3) rfl⟩, (fun z hz => by cases hz)⟩) rfl (by decide) wm_1079 (List.mem_of_getElem? (i := 1) rfl) (fun H locs q hB => ?_)
  refine lv_astore (lv' := [(4, .ref q), (0, .ref a), (1, .int p1), (2, .int p2), (3, .ref o)]) hx hb dL_gapOf_17 hl (by decide) rfl (fun ls hl => ?_)
  refine lv_iconst (v := 2) hx hb dL_gapOf_19 (by decide) ?_
  exact l_iret X hr hB (fun x hx9 => by cases hx9) (Nat.le_of_ble_eq_true rfl) (Nat.le_of_ble_eq_true rfl) dL_gapOf_20
theorem dL_kindAt_0 : decode cL_kindAt 0 = .ok (.aload_n 3, 1) := by decide +kernel
theorem dL_kindAt_1 : decode cL_kindAt 1 = .ok (.iconst 0, 1) := by decide +kernel
theorem dL_kindAt_2 : decode cL_kindAt 2 = .ok (.aload_n 0, 1) := by decide +kernel
theorem dL_kindAt_3 : decode cL_kindAt 3 = .ok (.iload_n 1, 1) := by decide +kernel
theorem dL_kindAt_4 : decode cL_kindAt 4 = .ok (.iload_n 2, 1) := by decide +kernel
theorem dL_kindAt_5 : decode cL_kindAt 5 = .ok (.invokevirtual 72, 3) := by decide +kernel
theorem dL_kindAt_8 : decode cL_kindAt 8 = .ok (.i2l, 1) := by decide +kernel
theorem dL_kindAt_9 : decode cL_kindAt 9 = .ok (.lastore, 1) := by decide +kernel
theorem dL_kindAt_10 : decode cL_kindAt 10 = .ok (.goto 7, 3) := by decide +kernel
theorem dL_kindAt_13 : decode cL_kindAt 13 = .ok (.astore 4, 2) := by decide +kernel
theorem dL_kindAt_15 : decode cL_kindAt 15 = .ok (.iconst 1, 1) := by decide +kernel
theorem dL_kindAt_16 : decode cL_kindAt 16 = .ok (.ireturn, 1) := by decide +kernel
theorem dL_kindAt_17 : decode cL_kindAt 17 = .ok (.iconst 0, 1) := by decide +kernel
theorem dL_kindAt_18 : decode cL_kindAt 18 = .ok (.ireturn, 1) := by decide +kernel
theorem hL_kindAt {l : Launch} {p1 : Int32} {p2 : Int32} {v : bM} {q : Int32} (hf : fX8_kindAt p1 p2 v = some q) : hMet l yL_kindAt cL_kindAt 5 [(0, 10, 13, 13)] 9 1 6 [.int p1, .int p2] v 0 v (some q.toInt64) := by
  refine h_start (by decide +kernel) (fun _ _ => Nat.le_of_ble_eq_true rfl) ?_
  intro p e s m args below meth c D E a o f ls H locs X hr hxt hl hB
  have hx := X.1
  have hb := X.2.1
  have hl : lv_has ls 5 [(0, .ref a), (1, .int p1), (2, .int p2), (3, .ref o)] := hl
  refine lv_aload_n hx hb dL_kindAt_0 rfl (lv_at hl 3 rfl) ?_
  refine lv_iconst (v := 0) hx hb dL_kindAt_1 (by decide) ?_
  refine lv_aload_n hx hb dL_kindAt_2 rfl (lv_at hl 0 rfl) ?_
  refine lv_iload_n hx hb dL_kindAt_3 rfl (lv_at hl 1 rfl) ?_
  refine lv_iload_n hx hb dL_kindAt_4 rfl (lv_at hl 2 rfl) ?_
  refine l_go hB (bk_runV X (Av := [.int p1, .int p2]) (rest := [.int 0, .ref o]) (mX8_kindAt hf) yv_X8_kindAt wm_1159 ⟨Nat.le_of_ble_eq_true rfl, Nat.le_of_ble_eq_true rfl⟩ rfl rfl hl.1 kl_X8.1 (hB.1.obj lcq_X_0) hB.1 hB.len hB.tx (Nat.le_of_ble_eq_true rfl) ⟨Nat.le_of_ble_eq_true rfl, Nat.le_of_ble_eq_true rfl⟩ dL_kindAt_5) (fun H locs hB => ?_)
  refine W.eq (g2 := F0 m 8 ls [.int q, .int 0, .ref o]) rfl ?_
  refine lv_i2l (v := q.toInt64) hx hb dL_kindAt_8 rfl ?_
  refine l_last X hB dL_kindAt_9 (fun H locs hB => ?_)
  refine lv_goto (tgt := 17) hx hb dL_kindAt_10 (by decide) ?_
  refine lv_iconst (v := 0) hx hb dL_kindAt_17 (by decide) ?_
  exact l_iret X hr hB (fun x hx9 => by cases hx9; rfl) (Nat.le_of_ble_eq_true rfl) (Nat.le_of_ble_eq_true rfl) dL_kindAt_18
theorem hxL_kindAt_0 {l : Launch} (hlt : l.stackTraces = false) {p1 : Int32} {p2 : Int32} {v : bM} (hf : xX8_kindAt p1 p2 v = some 0) : hMet l yL_kindAt cL_kindAt 5 [(0, 10, 13, 13)] 9 1 6 [.int p1, .int p2] v 1 v none := by
  refine h_start (by decide +kernel) (fun _ _ => Nat.le_of_ble_eq_true rfl) ?_
  intro p e s m args below meth c D E a o f ls H locs X hr hxt hl hB
  have hx := X.1
  have hb := X.2.1
  have hl : lv_has ls 5 [(0, .ref a), (1, .int p1), (2, .int p2), (3, .ref o)] := hl
  refine lv_aload_n hx hb dL_kindAt_0 rfl (lv_at hl 3 rfl) ?_
  refine lv_iconst (v := 0) hx hb dL_kindAt_1 (by decide) ?_
  refine lv_aload_n hx hb dL_kindAt_2 rfl (lv_at hl 0 rfl) ?_
  refine lv_iload_n hx hb dL_kindAt_3 rfl (lv_at hl 1 rfl) ?_
  refine lv_iload_n hx hb dL_kindAt_4 rfl (lv_at hl 2 rfl) ?_
  refine l_catch X hB (k := 0) (bk_runVX X (Av := [.int p1, .int p2]) (rest := [.int 0, .ref o]) (mxX8_kindAt hlt hf) yv_X8_kindAt wm_1159 ⟨Nat.le_of_ble_eq_true rfl, Nat.le_of_ble_eq_true rfl⟩ rfl rfl hl.1 kl_X8.1 (hB.1.obj lcq_X_0) hB.1 hB.len hB.tx (Nat.le_of_ble_eq_true rfl) ⟨Nat.le_of_ble_eq_true rfl, Nat.le_of_ble_eq_true rfl⟩ dL_kindAt_5) [] ⟨0, 10, 13, 13⟩ [] (hxt.trans rfl) (fun z hz => by cases hz) rfl (by decide) wm_915 (List.mem_of_getElem? (i := 0) rfl) (fun H locs q hB => ?_)
  refine lv_astore (lv' := [(4, .ref q), (0, .ref a), (1, .int p1), (2, .int p2), (3, .ref o)]) hx hb dL_kindAt_13 hl (by decide) rfl (fun ls hl => ?_)
  refine lv_iconst (v := 1) hx hb dL_kindAt_15 (by decide) ?_
  exact l_iret X hr hB (fun x hx9 => by cases hx9) (Nat.le_of_ble_eq_true rfl) (Nat.le_of_ble_eq_true rfl) dL_kindAt_16
theorem dL_gapSum_0 : decode cL_gapSum 0 = .ok (.aload_n 2, 1) := by decide +kernel
theorem dL_gapSum_1 : decode cL_gapSum 1 = .ok (.iconst 0, 1) := by decide +kernel
theorem dL_gapSum_2 : decode cL_gapSum 2 = .ok (.aload_n 0, 1) := by decide +kernel
theorem dL_gapSum_3 : decode cL_gapSum 3 = .ok (.iload_n 1, 1) := by decide +kernel
theorem dL_gapSum_4 : decode cL_gapSum 4 = .ok (.invokevirtual 75, 3) := by decide +kernel
theorem dL_gapSum_7 : decode cL_gapSum 7 = .ok (.i2l, 1) := by decide +kernel
theorem dL_gapSum_8 : decode cL_gapSum 8 = .ok (.lastore, 1) := by decide +kernel
theorem dL_gapSum_9 : decode cL_gapSum 9 = .ok (.goto 6, 3) := by decide +kernel
theorem dL_gapSum_12 : decode cL_gapSum 12 = .ok (.astore_n 3, 1) := by decide +kernel
theorem dL_gapSum_13 : decode cL_gapSum 13 = .ok (.iconst 1, 1) := by decide +kernel
theorem dL_gapSum_14 : decode cL_gapSum 14 = .ok (.ireturn, 1) := by decide +kernel
theorem dL_gapSum_15 : decode cL_gapSum 15 = .ok (.iconst 0, 1) := by decide +kernel
theorem dL_gapSum_16 : decode cL_gapSum 16 = .ok (.ireturn, 1) := by decide +kernel
theorem hL_gapSum {l : Launch} {p1 : Int32} {v : bM} {q : Int32} (hf : fX8_gapSum p1 v = some q) : hMet l yL_gapSum cL_gapSum 4 [(0, 9, 12, 49)] 8 1 6 [.int p1] v 0 v (some q.toInt64) := by
  refine h_start (by decide +kernel) (fun _ _ => Nat.le_of_ble_eq_true rfl) ?_
  intro p e s m args below meth c D E a o f ls H locs X hr hxt hl hB
  have hx := X.1
  have hb := X.2.1
  have hl : lv_has ls 4 [(0, .ref a), (1, .int p1), (2, .ref o)] := hl
  refine lv_aload_n hx hb dL_gapSum_0 rfl (lv_at hl 2 rfl) ?_
  refine lv_iconst (v := 0) hx hb dL_gapSum_1 (by decide) ?_
  refine lv_aload_n hx hb dL_gapSum_2 rfl (lv_at hl 0 rfl) ?_
  refine lv_iload_n hx hb dL_gapSum_3 rfl (lv_at hl 1 rfl) ?_
  refine l_go hB (bk_runV X (Av := [.int p1]) (rest := [.int 0, .ref o]) (mX8_gapSum hf) yv_X8_gapSum wm_1174 ⟨Nat.le_of_ble_eq_true rfl, Nat.le_of_ble_eq_true rfl⟩ rfl rfl hl.1 kl_X8.1 (hB.1.obj lcq_X_0) hB.1 hB.len hB.tx (Nat.le_of_ble_eq_true rfl) ⟨Nat.le_of_ble_eq_true rfl, Nat.le_of_ble_eq_true rfl⟩ dL_gapSum_4) (fun H locs hB => ?_)
  refine W.eq (g2 := F0 m 7 ls [.int q, .int 0, .ref o]) rfl ?_
  refine lv_i2l (v := q.toInt64) hx hb dL_gapSum_7 rfl ?_
  refine l_last X hB dL_gapSum_8 (fun H locs hB => ?_)
  refine lv_goto (tgt := 15) hx hb dL_gapSum_9 (by decide) ?_
  refine lv_iconst (v := 0) hx hb dL_gapSum_15 (by decide) ?_
  exact l_iret X hr hB (fun x hx9 => by cases hx9; rfl) (Nat.le_of_ble_eq_true rfl) (Nat.le_of_ble_eq_true rfl) dL_gapSum_16
theorem hxL_gapSum_1 {l : Launch} (hlt : l.stackTraces = false) {p1 : Int32} {v : bM} (hf : xX8_gapSum p1 v = some 1) : hMet l yL_gapSum cL_gapSum 4 [(0, 9, 12, 49)] 8 1 6 [.int p1] v 1 v none := by
  refine h_start (by decide +kernel) (fun _ _ => Nat.le_of_ble_eq_true rfl) ?_
  intro p e s m args below meth c D E a o f ls H locs X hr hxt hl hB
  have hx := X.1
  have hb := X.2.1
  have hl : lv_has ls 4 [(0, .ref a), (1, .int p1), (2, .ref o)] := hl
  refine lv_aload_n hx hb dL_gapSum_0 rfl (lv_at hl 2 rfl) ?_
  refine lv_iconst (v := 0) hx hb dL_gapSum_1 (by decide) ?_
  refine lv_aload_n hx hb dL_gapSum_2 rfl (lv_at hl 0 rfl) ?_
  refine lv_iload_n hx hb dL_gapSum_3 rfl (lv_at hl 1 rfl) ?_
  refine l_catch X hB (k := 1) (bk_runVX X (Av := [.int p1]) (rest := [.int 0, .ref o]) (mxX8_gapSum hlt hf) yv_X8_gapSum wm_1174 ⟨Nat.le_of_ble_eq_true rfl, Nat.le_of_ble_eq_true rfl⟩ rfl rfl hl.1 kl_X8.1 (hB.1.obj lcq_X_0) hB.1 hB.len hB.tx (Nat.le_of_ble_eq_true rfl) ⟨Nat.le_of_ble_eq_true rfl, Nat.le_of_ble_eq_true rfl⟩ dL_gapSum_4) [] ⟨0, 9, 12, 49⟩ [] (hxt.trans rfl) (fun z hz => by cases hz) rfl (by decide) wm_1079 (List.mem_of_getElem? (i := 1) rfl) (fun H locs q hB => ?_)
  refine lv_astore_n (lv' := [(3, .ref q), (0, .ref a), (1, .int p1), (2, .ref o)]) hx hb dL_gapSum_12 rfl hl (by decide) rfl (fun ls hl => ?_)
  refine lv_iconst (v := 1) hx hb dL_gapSum_13 (by decide) ?_
  exact l_iret X hr hB (fun x hx9 => by cases hx9) (Nat.le_of_ble_eq_true rfl) (Nat.le_of_ble_eq_true rfl) dL_gapSum_14
theorem dL_priceGap_0 : decode cL_priceGap 0 = .ok (.aload_n 2, 1) := by decide +kernel
theorem dL_priceGap_1 : decode cL_priceGap 1 = .ok (.iconst 0, 1) := by decide +kernel
theorem dL_priceGap_2 : decode cL_priceGap 2 = .ok (.aload_n 0, 1) := by decide +kernel
theorem dL_priceGap_3 : decode cL_priceGap 3 = .ok (.iload_n 1, 1) := by decide +kernel
theorem dL_priceGap_4 : decode cL_priceGap 4 = .ok (.invokevirtual 78, 3) := by decide +kernel
theorem dL_priceGap_7 : decode cL_priceGap 7 = .ok (.i2l, 1) := by decide +kernel
theorem dL_priceGap_8 : decode cL_priceGap 8 = .ok (.lastore, 1) := by decide +kernel
theorem dL_priceGap_9 : decode cL_priceGap 9 = .ok (.goto 6, 3) := by decide +kernel
theorem dL_priceGap_12 : decode cL_priceGap 12 = .ok (.astore_n 3, 1) := by decide +kernel
theorem dL_priceGap_13 : decode cL_priceGap 13 = .ok (.iconst 1, 1) := by decide +kernel
theorem dL_priceGap_14 : decode cL_priceGap 14 = .ok (.ireturn, 1) := by decide +kernel
theorem dL_priceGap_15 : decode cL_priceGap 15 = .ok (.iconst 0, 1) := by decide +kernel
theorem dL_priceGap_16 : decode cL_priceGap 16 = .ok (.ireturn, 1) := by decide +kernel
theorem hL_priceGap {l : Launch} {p1 : Int32} {v : bM} {q : Int32} (hf : fX8_priceGap p1 v = some q) : hMet l yL_priceGap cL_priceGap 4 [(0, 9, 12, 13)] 9 1 6 [.int p1] v 0 v (some q.toInt64) := by
  refine h_start (by decide +kernel) (fun _ _ => Nat.le_of_ble_eq_true rfl) ?_
  intro p e s m args below meth c D E a o f ls H locs X hr hxt hl hB
  have hx := X.1
  have hb := X.2.1
  have hl : lv_has ls 4 [(0, .ref a), (1, .int p1), (2, .ref o)] := hl
  refine lv_aload_n hx hb dL_priceGap_0 rfl (lv_at hl 2 rfl) ?_
  refine lv_iconst (v := 0) hx hb dL_priceGap_1 (by decide) ?_
  refine lv_aload_n hx hb dL_priceGap_2 rfl (lv_at hl 0 rfl) ?_
  refine lv_iload_n hx hb dL_priceGap_3 rfl (lv_at hl 1 rfl) ?_
  refine l_go hB (bk_runV X (Av := [.int p1]) (rest := [.int 0, .ref o]) (mX8_priceGap hf) yv_X8_priceGap wm_1182 ⟨Nat.le_of_ble_eq_true rfl, Nat.le_of_ble_eq_true rfl⟩ rfl rfl hl.1 kl_X8.1 (hB.1.obj lcq_X_0) hB.1 hB.len hB.tx (Nat.le_of_ble_eq_true rfl) ⟨Nat.le_of_ble_eq_true rfl, Nat.le_of_ble_eq_true rfl⟩ dL_priceGap_4) (fun H locs hB => ?_)
  refine W.eq (g2 := F0 m 7 ls [.int q, .int 0, .ref o]) rfl ?_
  refine lv_i2l (v := q.toInt64) hx hb dL_priceGap_7 rfl ?_
  refine l_last X hB dL_priceGap_8 (fun H locs hB => ?_)
  refine lv_goto (tgt := 15) hx hb dL_priceGap_9 (by decide) ?_
  refine lv_iconst (v := 0) hx hb dL_priceGap_15 (by decide) ?_
  exact l_iret X hr hB (fun x hx9 => by cases hx9; rfl) (Nat.le_of_ble_eq_true rfl) (Nat.le_of_ble_eq_true rfl) dL_priceGap_16
theorem hxL_priceGap_0 {l : Launch} (hlt : l.stackTraces = false) {p1 : Int32} {v : bM} (hf : xX8_priceGap p1 v = some 0) : hMet l yL_priceGap cL_priceGap 4 [(0, 9, 12, 13)] 9 1 6 [.int p1] v 1 v none := by
  refine h_start (by decide +kernel) (fun _ _ => Nat.le_of_ble_eq_true rfl) ?_
  intro p e s m args below meth c D E a o f ls H locs X hr hxt hl hB
  have hx := X.1
  have hb := X.2.1
  have hl : lv_has ls 4 [(0, .ref a), (1, .int p1), (2, .ref o)] := hl
  refine lv_aload_n hx hb dL_priceGap_0 rfl (lv_at hl 2 rfl) ?_
  refine lv_iconst (v := 0) hx hb dL_priceGap_1 (by decide) ?_
  refine lv_aload_n hx hb dL_priceGap_2 rfl (lv_at hl 0 rfl) ?_
  refine lv_iload_n hx hb dL_priceGap_3 rfl (lv_at hl 1 rfl) ?_
  refine l_catch X hB (k := 0) (bk_runVX X (Av := [.int p1]) (rest := [.int 0, .ref o]) (mxX8_priceGap hlt hf) yv_X8_priceGap wm_1182 ⟨Nat.le_of_ble_eq_true rfl, Nat.le_of_ble_eq_true rfl⟩ rfl rfl hl.1 kl_X8.1 (hB.1.obj lcq_X_0) hB.1 hB.len hB.tx (Nat.le_of_ble_eq_true rfl) ⟨Nat.le_of_ble_eq_true rfl, Nat.le_of_ble_eq_true rfl⟩ dL_priceGap_4) [] ⟨0, 9, 12, 13⟩ [] (hxt.trans rfl) (fun z hz => by cases hz) rfl (by decide) wm_915 (List.mem_of_getElem? (i := 0) rfl) (fun H locs q hB => ?_)
  refine lv_astore_n (lv' := [(3, .ref q), (0, .ref a), (1, .int p1), (2, .ref o)]) hx hb dL_priceGap_12 rfl hl (by decide) rfl (fun ls hl => ?_)
  refine lv_iconst (v := 1) hx hb dL_priceGap_13 (by decide) ?_
  exact l_iret X hr hB (fun x hx9 => by cases hx9) (Nat.le_of_ble_eq_true rfl) (Nat.le_of_ble_eq_true rfl) dL_priceGap_14
theorem dL_useGap_0 : decode cL_useGap 0 = .ok (.aload_n 2, 1) := by decide +kernel
theorem dL_useGap_1 : decode cL_useGap 1 = .ok (.iconst 0, 1) := by decide +kernel
theorem dL_useGap_2 : decode cL_useGap 2 = .ok (.aload_n 0, 1) := by decide +kernel
theorem dL_useGap_3 : decode cL_useGap 3 = .ok (.iload_n 1, 1) := by decide +kernel
theorem dL_useGap_4 : decode cL_useGap 4 = .ok (.invokevirtual 81, 3) := by decide +kernel
theorem dL_useGap_7 : decode cL_useGap 7 = .ok (.i2l, 1) := by decide +kernel
theorem dL_useGap_8 : decode cL_useGap 8 = .ok (.lastore, 1) := by decide +kernel
theorem dL_useGap_9 : decode cL_useGap 9 = .ok (.goto 6, 3) := by decide +kernel
theorem dL_useGap_12 : decode cL_useGap 12 = .ok (.astore_n 3, 1) := by decide +kernel
theorem dL_useGap_13 : decode cL_useGap 13 = .ok (.iconst 1, 1) := by decide +kernel
theorem dL_useGap_14 : decode cL_useGap 14 = .ok (.ireturn, 1) := by decide +kernel
theorem dL_useGap_15 : decode cL_useGap 15 = .ok (.iconst 0, 1) := by decide +kernel
theorem dL_useGap_16 : decode cL_useGap 16 = .ok (.ireturn, 1) := by decide +kernel
theorem hL_useGap {l : Launch} {p1 : Int32} {v : bM} {q : Int32} (hf : fX8_useGap p1 v = some q) : hMet l yL_useGap cL_useGap 4 [(0, 9, 12, 13)] 9 1 6 [.int p1] v 0 v (some q.toInt64) := by
  refine h_start (by decide +kernel) (fun _ _ => Nat.le_of_ble_eq_true rfl) ?_
  intro p e s m args below meth c D E a o f ls H locs X hr hxt hl hB
  have hx := X.1
  have hb := X.2.1
  have hl : lv_has ls 4 [(0, .ref a), (1, .int p1), (2, .ref o)] := hl
  refine lv_aload_n hx hb dL_useGap_0 rfl (lv_at hl 2 rfl) ?_
  refine lv_iconst (v := 0) hx hb dL_useGap_1 (by decide) ?_
  refine lv_aload_n hx hb dL_useGap_2 rfl (lv_at hl 0 rfl) ?_
  refine lv_iload_n hx hb dL_useGap_3 rfl (lv_at hl 1 rfl) ?_
  refine l_go hB (bk_runV X (Av := [.int p1]) (rest := [.int 0, .ref o]) (mX8_useGap hf) yv_X8_useGap wm_1189 ⟨Nat.le_of_ble_eq_true rfl, Nat.le_of_ble_eq_true rfl⟩ rfl rfl hl.1 kl_X8.1 (hB.1.obj lcq_X_0) hB.1 hB.len hB.tx (Nat.le_of_ble_eq_true rfl) ⟨Nat.le_of_ble_eq_true rfl, Nat.le_of_ble_eq_true rfl⟩ dL_useGap_4) (fun H locs hB => ?_)
  refine W.eq (g2 := F0 m 7 ls [.int q, .int 0, .ref o]) rfl ?_
  refine lv_i2l (v := q.toInt64) hx hb dL_useGap_7 rfl ?_
  refine l_last X hB dL_useGap_8 (fun H locs hB => ?_)
  refine lv_goto (tgt := 15) hx hb dL_useGap_9 (by decide) ?_
  refine lv_iconst (v := 0) hx hb dL_useGap_15 (by decide) ?_
  exact l_iret X hr hB (fun x hx9 => by cases hx9; rfl) (Nat.le_of_ble_eq_true rfl) (Nat.le_of_ble_eq_true rfl) dL_useGap_16
theorem hxL_useGap_0 {l : Launch} (hlt : l.stackTraces = false) {p1 : Int32} {v : bM} (hf : xX8_useGap p1 v = some 0) : hMet l yL_useGap cL_useGap 4 [(0, 9, 12, 13)] 9 1 6 [.int p1] v 1 v none := by
  refine h_start (by decide +kernel) (fun _ _ => Nat.le_of_ble_eq_true rfl) ?_
  intro p e s m args below meth c D E a o f ls H locs X hr hxt hl hB
  have hx := X.1
  have hb := X.2.1
  have hl : lv_has ls 4 [(0, .ref a), (1, .int p1), (2, .ref o)] := hl
  refine lv_aload_n hx hb dL_useGap_0 rfl (lv_at hl 2 rfl) ?_
  refine lv_iconst (v := 0) hx hb dL_useGap_1 (by decide) ?_
  refine lv_aload_n hx hb dL_useGap_2 rfl (lv_at hl 0 rfl) ?_
  refine lv_iload_n hx hb dL_useGap_3 rfl (lv_at hl 1 rfl) ?_
  refine l_catch X hB (k := 0) (bk_runVX X (Av := [.int p1]) (rest := [.int 0, .ref o]) (mxX8_useGap hlt hf) yv_X8_useGap wm_1189 ⟨Nat.le_of_ble_eq_true rfl, Nat.le_of_ble_eq_true rfl⟩ rfl rfl hl.1 kl_X8.1 (hB.1.obj lcq_X_0) hB.1 hB.len hB.tx (Nat.le_of_ble_eq_true rfl) ⟨Nat.le_of_ble_eq_true rfl, Nat.le_of_ble_eq_true rfl⟩ dL_useGap_4) [] ⟨0, 9, 12, 13⟩ [] (hxt.trans rfl) (fun z hz => by cases hz) rfl (by decide) wm_915 (List.mem_of_getElem? (i := 0) rfl) (fun H locs q hB => ?_)
  refine lv_astore_n (lv' := [(3, .ref q), (0, .ref a), (1, .int p1), (2, .ref o)]) hx hb dL_useGap_12 rfl hl (by decide) rfl (fun ls hl => ?_)
  refine lv_iconst (v := 1) hx hb dL_useGap_13 (by decide) ?_
  exact l_iret X hr hB (fun x hx9 => by cases hx9) (Nat.le_of_ble_eq_true rfl) (Nat.le_of_ble_eq_true rfl) dL_useGap_14
theorem dL_bakeObstacle_0 : decode cL_bakeObstacle 0 = .ok (.aload 5, 2) := by decide +kernel
theorem dL_bakeObstacle_2 : decode cL_bakeObstacle 2 = .ok (.iconst 0, 1) := by decide +kernel
theorem dL_bakeObstacle_3 : decode cL_bakeObstacle 3 = .ok (.aload_n 0, 1) := by decide +kernel
theorem dL_bakeObstacle_4 : decode cL_bakeObstacle 4 = .ok (.iload_n 1, 1) := by decide +kernel
theorem dL_bakeObstacle_5 : decode cL_bakeObstacle 5 = .ok (.iload_n 2, 1) := by decide +kernel
theorem dL_bakeObstacle_6 : decode cL_bakeObstacle 6 = .ok (.iload_n 3, 1) := by decide +kernel
theorem dL_bakeObstacle_7 : decode cL_bakeObstacle 7 = .ok (.iload 4, 2) := by decide +kernel
theorem dL_bakeObstacle_9 : decode cL_bakeObstacle 9 = .ok (.invokevirtual 84, 3) := by decide +kernel
theorem dL_bakeObstacle_12 : decode cL_bakeObstacle 12 = .ok (.i2l, 1) := by decide +kernel
theorem dL_bakeObstacle_13 : decode cL_bakeObstacle 13 = .ok (.lastore, 1) := by decide +kernel
theorem dL_bakeObstacle_14 : decode cL_bakeObstacle 14 = .ok (.goto 11, 3) := by decide +kernel
theorem dL_bakeObstacle_17 : decode cL_bakeObstacle 17 = .ok (.astore 6, 2) := by decide +kernel
theorem dL_bakeObstacle_19 : decode cL_bakeObstacle 19 = .ok (.iconst 1, 1) := by decide +kernel
theorem dL_bakeObstacle_20 : decode cL_bakeObstacle 20 = .ok (.ireturn, 1) := by decide +kernel
theorem dL_bakeObstacle_21 : decode cL_bakeObstacle 21 = .ok (.astore 6, 2) := by decide +kernel
theorem dL_bakeObstacle_23 : decode cL_bakeObstacle 23 = .ok (.iconst 2, 1) := by decide +kernel
theorem dL_bakeObstacle_24 : decode cL_bakeObstacle 24 = .ok (.ireturn, 1) := by decide +kernel
theorem dL_bakeObstacle_25 : decode cL_bakeObstacle 25 = .ok (.iconst 0, 1) := by decide +kernel
theorem dL_bakeObstacle_26 : decode cL_bakeObstacle 26 = .ok (.ireturn, 1) := by decide +kernel
theorem hL_bakeObstacle {l : Launch} {p1 : Int32} {p2 : Int32} {p3 : Int32} {p4 : Int32} {v : bM} {q : Int32} (hf : fX8_bakeObstacle p1 p2 p3 p4 v = some q) : hMet l yL_bakeObstacle cL_bakeObstacle 7 [(0, 14, 17, 13), (0, 14, 21, 49)] 9 1 6 [.int p1, .int p2, .int p3, .int p4] v 0 v (some q.toInt64) := by
  refine h_start (by decide +kernel) (fun _ _ => Nat.le_of_ble_eq_true rfl) ?_
  intro p e s m args below meth c D E a o f ls H locs X hr hxt hl hB
  have hx := X.1
  have hb := X.2.1
  have hl : lv_has ls 7 [(0, .ref a), (1, .int p1), (2, .int p2), (3, .int p3), (4, .int p4), (5, .ref o)] := hl
  refine lv_aload hx hb dL_bakeObstacle_0 (lv_at hl 5 rfl) ?_
  refine lv_iconst (v := 0) hx hb dL_bakeObstacle_2 (by decide) ?_
  refine lv_aload_n hx hb dL_bakeObstacle_3 rfl (lv_at hl 0 rfl) ?_
  refine lv_iload_n hx hb dL_bakeObstacle_4 rfl (lv_at hl 1 rfl) ?_
  refine lv_iload_n hx hb dL_bakeObstacle_5 rfl (lv_at hl 2 rfl) ?_
  refine lv_iload_n hx hb dL_bakeObstacle_6 rfl (lv_at hl 3 rfl) ?_
  refine lv_iload hx hb dL_bakeObstacle_7 (lv_at hl 4 rfl) ?_
  refine l_go hB (bk_runV X (Av := [.int p1, .int p2, .int p3, .int p4]) (rest := [.int 0, .ref o]) (mX8_bakeObstacle hf) yv_X8_bakeObstacle wm_1196 ⟨Nat.le_of_ble_eq_true rfl, Nat.le_of_ble_eq_true rfl⟩ rfl rfl hl.1 kl_X8.1 (hB.1.obj lcq_X_0) hB.1 hB.len hB.tx (Nat.le_of_ble_eq_true rfl) ⟨Nat.le_of_ble_eq_true rfl, Nat.le_of_ble_eq_true rfl⟩ dL_bakeObstacle_9) (fun H locs hB => ?_)
  refine W.eq (g2 := F0 m 12 ls [.int q, .int 0, .ref o]) rfl ?_
  refine lv_i2l (v := q.toInt64) hx hb dL_bakeObstacle_12 rfl ?_
  refine l_last X hB dL_bakeObstacle_13 (fun H locs hB => ?_)
  refine lv_goto (tgt := 25) hx hb dL_bakeObstacle_14 (by decide) ?_
  refine lv_iconst (v := 0) hx hb dL_bakeObstacle_25 (by decide) ?_
  exact l_iret X hr hB (fun x hx9 => by cases hx9; rfl) (Nat.le_of_ble_eq_true rfl) (Nat.le_of_ble_eq_true rfl) dL_bakeObstacle_26
theorem hxL_bakeObstacle_0 {l : Launch} (hlt : l.stackTraces = false) {p1 : Int32} {p2 : Int32} {p3 : Int32} {p4 : Int32} {v : bM} (hf : xX8_bakeObstacle p1 p2 p3 p4 v = some 0) : hMet l yL_bakeObstacle cL_bakeObstacle 7 [(0, 14, 17, 13), (0, 14, 21, 49)] 9 1 6 [.int p1, .int p2, .int p3, .int p4] v 1 v none := by
  refine h_start (by decide +kernel) (fun _ _ => Nat.le_of_ble_eq_true rfl) ?_
  intro p e s m args below meth c D E a o f ls H locs X hr hxt hl hB
  have hx := X.1
  have hb := X.2.1
  have hl : lv_has ls 7 [(0, .ref a), (1, .int p1), (2, .int p2), (3, .int p3), (4, .int p4), (5, .ref o)] := hl
  refine lv_aload hx hb dL_bakeObstacle_0 (lv_at hl 5 rfl) ?_
  refine lv_iconst (v := 0) hx hb dL_bakeObstacle_2 (by decide) ?_
  refine lv_aload_n hx hb dL_bakeObstacle_3 rfl (lv_at hl 0 rfl) ?_
  refine lv_iload_n hx hb dL_bakeObstacle_4 rfl (lv_at hl 1 rfl) ?_
  refine lv_iload_n hx hb dL_bakeObstacle_5 rfl (lv_at hl 2 rfl) ?_
  refine lv_iload_n hx hb dL_bakeObstacle_6 rfl (lv_at hl 3 rfl) ?_
  refine lv_iload hx hb dL_bakeObstacle_7 (lv_at hl 4 rfl) ?_
  refine l_catch X hB (k := 0) (bk_runVX X (Av := [.int p1, .int p2, .int p3, .int p4]) (rest := [.int 0, .ref o]) (mxX8_bakeObstacle hlt hf) yv_X8_bakeObstacle wm_1196 ⟨Nat.le_of_ble_eq_true rfl, Nat.le_of_ble_eq_true rfl⟩ rfl rfl hl.1 kl_X8.1 (hB.1.obj lcq_X_0) hB.1 hB.len hB.tx (Nat.le_of_ble_eq_true rfl) ⟨Nat.le_of_ble_eq_true rfl, Nat.le_of_ble_eq_true rfl⟩ dL_bakeObstacle_9) [] ⟨0, 14, 17, 13⟩ [⟨0, 14, 21, 49⟩] (hxt.trans rfl) (fun z hz => by cases hz) rfl (by decide) wm_915 (List.mem_of_getElem? (i := 0) rfl) (fun H locs q hB => ?_)
  refine lv_astore (lv' := [(6, .ref q), (0, .ref a), (1, .int p1), (2, .int p2), (3, .int p3), (4, .int p4), (5, .ref o)]) hx hb dL_bakeObstacle_17 hl (by decide) rfl (fun ls hl => ?_)
  refine lv_iconst (v := 1) hx hb dL_bakeObstacle_19 (by decide) ?_
  exact l_iret X hr hB (fun x hx9 => by cases hx9) (Nat.le_of_ble_eq_true rfl) (Nat.le_of_ble_eq_true rfl) dL_bakeObstacle_20
theorem hxL_bakeObstacle_1 {l : Launch} (hlt : l.stackTraces = false) {p1 : Int32} {p2 : Int32} {p3 : Int32} {p4 : Int32} {v : bM} (hf : xX8_bakeObstacle p1 p2 p3 p4 v = some 1) : hMet l yL_bakeObstacle cL_bakeObstacle 7 [(0, 14, 17, 13), (0, 14, 21, 49)] 9 1 6 [.int p1, .int p2, .int p3, .int p4] v 2 v none := by
  refine h_start (by decide +kernel) (fun _ _ => Nat.le_of_ble_eq_true rfl) ?_
  intro p e s m args below meth c D E a o f ls H locs X hr hxt hl hB
  have hx := X.1
  have hb := X.2.1
  have hl : lv_has ls 7 [(0, .ref a), (1, .int p1), (2, .int p2), (3, .int p3), (4, .int p4), (5, .ref o)] := hl
  refine lv_aload hx hb dL_bakeObstacle_0 (lv_at hl 5 rfl) ?_
  refine lv_iconst (v := 0) hx hb dL_bakeObstacle_2 (by decide) ?_
  refine lv_aload_n hx hb dL_bakeObstacle_3 rfl (lv_at hl 0 rfl) ?_
  refine lv_iload_n hx hb dL_bakeObstacle_4 rfl (lv_at hl 1 rfl) ?_
  refine lv_iload_n hx hb dL_bakeObstacle_5 rfl (lv_at hl 2 rfl) ?_
  refine lv_iload_n hx hb dL_bakeObstacle_6 rfl (lv_at hl 3 rfl) ?_
  refine lv_iload hx hb dL_bakeObstacle_7 (lv_at hl 4 rfl) ?_
  refine l_catch X hB (k := 1) (bk_runVX X (Av := [.int p1, .int p2, .int p3, .int p4]) (rest := [.int 0, .ref o]) (mxX8_bakeObstacle hlt hf) yv_X8_bakeObstacle wm_1196 ⟨Nat.le_of_ble_eq_true rfl, Nat.le_of_ble_eq_true rfl⟩ rfl rfl hl.1 kl_X8.1 (hB.1.obj lcq_X_0) hB.1 hB.len hB.tx (Nat.le_of_ble_eq_true rfl) ⟨Nat.le_of_ble_eq_true rfl, Nat.le_of_ble_eq_true rfl⟩ dL_bakeObstacle_9) [⟨0, 14, 17, 13⟩] ⟨0, 14, 21, 49⟩ [] (hxt.trans rfl) (List.forall_mem_cons.mpr ⟨⟨by decide, "java/lang/IndexOutOfBoundsException", wm_915, List.mem_of_getElem? (i := 3) rfl⟩, (fun z hz => by cases hz)⟩) rfl (by decide) wm_1079 (List.mem_of_getElem? (i := 1) rfl) (fun H locs q hB => ?_)
  refine lv_astore (lv' := [(6, .ref q), (0, .ref a), (1, .int p1), (2, .int p2), (3, .int p3), (4, .int p4), (5, .ref o)]) hx hb dL_bakeObstacle_21 hl (by decide) rfl (fun ls hl => ?_)
  refine lv_iconst (v := 2) hx hb dL_bakeObstacle_23 (by decide) ?_
  exact l_iret X hr hB (fun x hx9 => by cases hx9) (Nat.le_of_ble_eq_true rfl) (Nat.le_of_ble_eq_true rfl) dL_bakeObstacle_24
theorem dL_lossIfBaked_0 : decode cL_lossIfBaked 0 = .ok (.aload_n 3, 1) := by decide +kernel
theorem dL_lossIfBaked_1 : decode cL_lossIfBaked 1 = .ok (.iconst 0, 1) := by decide +kernel
theorem dL_lossIfBaked_2 : decode cL_lossIfBaked 2 = .ok (.aload_n 0, 1) := by decide +kernel
theorem dL_lossIfBaked_3 : decode cL_lossIfBaked 3 = .ok (.iload_n 1, 1) := by decide +kernel
theorem dL_lossIfBaked_4 : decode cL_lossIfBaked 4 = .ok (.iload_n 2, 1) := by decide +kernel
theorem dL_lossIfBaked_5 : decode cL_lossIfBaked 5 = .ok (.invokevirtual 88, 3) := by decide +kernel
theorem dL_lossIfBaked_8 : decode cL_lossIfBaked 8 = .ok (.i2l, 1) := by decide +kernel
theorem dL_lossIfBaked_9 : decode cL_lossIfBaked 9 = .ok (.lastore, 1) := by decide +kernel
theorem dL_lossIfBaked_10 : decode cL_lossIfBaked 10 = .ok (.goto 15, 3) := by decide +kernel
theorem dL_lossIfBaked_13 : decode cL_lossIfBaked 13 = .ok (.astore 4, 2) := by decide +kernel
theorem dL_lossIfBaked_15 : decode cL_lossIfBaked 15 = .ok (.iconst 1, 1) := by decide +kernel
theorem dL_lossIfBaked_16 : decode cL_lossIfBaked 16 = .ok (.ireturn, 1) := by decide +kernel
theorem dL_lossIfBaked_17 : decode cL_lossIfBaked 17 = .ok (.astore 4, 2) := by decide +kernel
theorem dL_lossIfBaked_19 : decode cL_lossIfBaked 19 = .ok (.iconst 2, 1) := by decide +kernel
theorem dL_lossIfBaked_20 : decode cL_lossIfBaked 20 = .ok (.ireturn, 1) := by decide +kernel
theorem dL_lossIfBaked_21 : decode cL_lossIfBaked 21 = .ok (.astore 4, 2) := by decide +kernel
theorem dL_lossIfBaked_23 : decode cL_lossIfBaked 23 = .ok (.iconst 3, 1) := by decide +kernel
theorem dL_lossIfBaked_24 : decode cL_lossIfBaked 24 = .ok (.ireturn, 1) := by decide +kernel
theorem dL_lossIfBaked_25 : decode cL_lossIfBaked 25 = .ok (.iconst 0, 1) := by decide +kernel
theorem dL_lossIfBaked_26 : decode cL_lossIfBaked 26 = .ok (.ireturn, 1) := by decide +kernel
theorem hL_lossIfBaked {l : Launch} {p1 : Int32} {p2 : Int32} {v : bM} {q : Int32} (hf : fX8_lossIfBaked p1 p2 v = some q) : hMet l yL_lossIfBaked cL_lossIfBaked 5 [(0, 10, 13, 13), (0, 10, 17, 49), (0, 10, 21, 91)] 9 1 6 [.int p1, .int p2] v 0 v (some q.toInt64) := by
  refine h_start (by decide +kernel) (fun _ _ => Nat.le_of_ble_eq_true rfl) ?_
  intro p e s m args below meth c D E a o f ls H locs X hr hxt hl hB
  have hx := X.1
  have hb := X.2.1
  have hl : lv_has ls 5 [(0, .ref a), (1, .int p1), (2, .int p2), (3, .ref o)] := hl
  refine lv_aload_n hx hb dL_lossIfBaked_0 rfl (lv_at hl 3 rfl) ?_
  refine lv_iconst (v := 0) hx hb dL_lossIfBaked_1 (by decide) ?_
  refine lv_aload_n hx hb dL_lossIfBaked_2 rfl (lv_at hl 0 rfl) ?_
  refine lv_iload_n hx hb dL_lossIfBaked_3 rfl (lv_at hl 1 rfl) ?_
  refine lv_iload_n hx hb dL_lossIfBaked_4 rfl (lv_at hl 2 rfl) ?_
  refine l_go hB (bk_runV X (Av := [.int p1, .int p2]) (rest := [.int 0, .ref o]) (mX8_lossIfBaked hf) yv_X8_lossIfBaked wm_1208 ⟨Nat.le_of_ble_eq_true rfl, Nat.le_of_ble_eq_true rfl⟩ rfl rfl hl.1 kl_X8.1 (hB.1.obj lcq_X_0) hB.1 hB.len hB.tx (Nat.le_of_ble_eq_true rfl) ⟨Nat.le_of_ble_eq_true rfl, Nat.le_of_ble_eq_true rfl⟩ dL_lossIfBaked_5) (fun H locs hB => ?_)
  refine W.eq (g2 := F0 m 8 ls [.int q, .int 0, .ref o]) rfl ?_
  refine lv_i2l (v := q.toInt64) hx hb dL_lossIfBaked_8 rfl ?_
  refine l_last X hB dL_lossIfBaked_9 (fun H locs hB => ?_)
  refine lv_goto (tgt := 25) hx hb dL_lossIfBaked_10 (by decide) ?_
  refine lv_iconst (v := 0) hx hb dL_lossIfBaked_25 (by decide) ?_
  exact l_iret X hr hB (fun x hx9 => by cases hx9; rfl) (Nat.le_of_ble_eq_true rfl) (Nat.le_of_ble_eq_true rfl) dL_lossIfBaked_26
theorem hxL_lossIfBaked_0 {l : Launch} (hlt : l.stackTraces = false) {p1 : Int32} {p2 : Int32} {v : bM} (hf : xX8_lossIfBaked p1 p2 v = some 0) : hMet l yL_lossIfBaked cL_lossIfBaked 5 [(0, 10, 13, 13), (0, 10, 17, 49), (0, 10, 21, 91)] 9 1 6 [.int p1, .int p2] v 1 v none := by
  refine h_start (by decide +kernel) (fun _ _ => Nat.le_of_ble_eq_true rfl) ?_
  intro p e s m args below meth c D E a o f ls H locs X hr hxt hl hB
  have hx := X.1
  have hb := X.2.1
  have hl : lv_has ls 5 [(0, .ref a), (1, .int p1), (2, .int p2), (3, .ref o)] := hl
  refine lv_aload_n hx hb dL_lossIfBaked_0 rfl (lv_at hl 3 rfl) ?_
  refine lv_iconst (v := 0) hx hb dL_lossIfBaked_1 (by decide) ?_
  refine lv_aload_n hx hb dL_lossIfBaked_2 rfl (lv_at hl 0 rfl) ?_
  refine lv_iload_n hx hb dL_lossIfBaked_3 rfl (lv_at hl 1 rfl) ?_
  refine lv_iload_n hx hb dL_lossIfBaked_4 rfl (lv_at hl 2 rfl) ?_
  refine l_catch X hB (k := 0) (bk_runVX X (Av := [.int p1, .int p2]) (rest := [.int 0, .ref o]) (mxX8_lossIfBaked hlt hf) yv_X8_lossIfBaked wm_1208 ⟨Nat.le_of_ble_eq_true rfl, Nat.le_of_ble_eq_true rfl⟩ rfl rfl hl.1 kl_X8.1 (hB.1.obj lcq_X_0) hB.1 hB.len hB.tx (Nat.le_of_ble_eq_true rfl) ⟨Nat.le_of_ble_eq_true rfl, Nat.le_of_ble_eq_true rfl⟩ dL_lossIfBaked_5) [] ⟨0, 10, 13, 13⟩ [⟨0, 10, 17, 49⟩, ⟨0, 10, 21, 91⟩] (hxt.trans rfl) (fun z hz => by cases hz) rfl (by decide) wm_915 (List.mem_of_getElem? (i := 0) rfl) (fun H locs q hB => ?_)
  refine lv_astore (lv' := [(4, .ref q), (0, .ref a), (1, .int p1), (2, .int p2), (3, .ref o)]) hx hb dL_lossIfBaked_13 hl (by decide) rfl (fun ls hl => ?_)
  refine lv_iconst (v := 1) hx hb dL_lossIfBaked_15 (by decide) ?_
  exact l_iret X hr hB (fun x hx9 => by cases hx9) (Nat.le_of_ble_eq_true rfl) (Nat.le_of_ble_eq_true rfl) dL_lossIfBaked_16
theorem hxL_lossIfBaked_1 {l : Launch} (hlt : l.stackTraces = false) {p1 : Int32} {p2 : Int32} {v : bM} (hf : xX8_lossIfBaked p1 p2 v = some 1) : hMet l yL_lossIfBaked cL_lossIfBaked 5 [(0, 10, 13, 13), (0, 10, 17, 49), (0, 10, 21, 91)] 9 1 6 [.int p1, .int p2] v 2 v none := by
  refine h_start (by decide +kernel) (fun _ _ => Nat.le_of_ble_eq_true rfl) ?_
  intro p e s m args below meth c D E a o f ls H locs X hr hxt hl hB
  have hx := X.1
  have hb := X.2.1
  have hl : lv_has ls 5 [(0, .ref a), (1, .int p1), (2, .int p2), (3, .ref o)] := hl
  refine lv_aload_n hx hb dL_lossIfBaked_0 rfl (lv_at hl 3 rfl) ?_
  refine lv_iconst (v := 0) hx hb dL_lossIfBaked_1 (by decide) ?_
  refine lv_aload_n hx hb dL_lossIfBaked_2 rfl (lv_at hl 0 rfl) ?_
  refine lv_iload_n hx hb dL_lossIfBaked_3 rfl (lv_at hl 1 rfl) ?_
  refine lv_iload_n hx hb dL_lossIfBaked_4 rfl (lv_at hl 2 rfl) ?_
  refine l_catch X hB (k := 1) (bk_runVX X (Av := [.int p1, .int p2]) (rest := [.int 0, .ref o]) (mxX8_lossIfBaked hlt hf) yv_X8_lossIfBaked wm_1208 ⟨Nat.le_of_ble_eq_true rfl, Nat.le_of_ble_eq_true rfl⟩ rfl rfl hl.1 kl_X8.1 (hB.1.obj lcq_X_0) hB.1 hB.len hB.tx (Nat.le_of_ble_eq_true rfl) ⟨Nat.le_of_ble_eq_true rfl, Nat.le_of_ble_eq_true rfl⟩ dL_lossIfBaked_5) [⟨0, 10, 13, 13⟩] ⟨0, 10, 17, 49⟩ [⟨0, 10, 21, 91⟩] (hxt.trans rfl) (List.forall_mem_cons.mpr ⟨⟨by decide, "java/lang/IndexOutOfBoundsException", wm_915, List.mem_of_getElem? (i := 3) rfl⟩, (fun z hz => by cases hz)⟩) rfl (by decide) wm_1079 (List.mem_of_getElem? (i := 1) rfl) (fun H locs q hB => ?_)
  refine lv_astore (lv' := [(4, .ref q), (0, .ref a), (1, .int p1), (2, .int p2), (3, .ref o)]) hx hb dL_lossIfBaked_17 hl (by decide) rfl (fun ls hl => ?_)
  refine lv_iconst (v := 2) hx hb dL_lossIfBaked_19 (by decide) ?_
  exact l_iret X hr hB (fun x hx9 => by cases hx9) (Nat.le_of_ble_eq_true rfl) (Nat.le_of_ble_eq_true rfl) dL_lossIfBaked_20
theorem hxL_lossIfBaked_2 {l : Launch} (hlt : l.stackTraces = false) {p1 : Int32} {p2 : Int32} {v : bM} (hf : xX8_lossIfBaked p1 p2 v = some 2) : hMet l yL_lossIfBaked cL_lossIfBaked 5 [(0, 10, 13, 13), (0, 10, 17, 49), (0, 10, 21, 91)] 9 1 6 [.int p1, .int p2] v 3 v none := by
  refine h_start (by decide +kernel) (fun _ _ => Nat.le_of_ble_eq_true rfl) ?_
  intro p e s m args below meth c D E a o f ls H locs X hr hxt hl hB
  have hx := X.1
  have hb := X.2.1
  have hl : lv_has ls 5 [(0, .ref a), (1, .int p1), (2, .int p2), (3, .ref o)] := hl
  refine lv_aload_n hx hb dL_lossIfBaked_0 rfl (lv_at hl 3 rfl) ?_
  refine lv_iconst (v := 0) hx hb dL_lossIfBaked_1 (by decide) ?_
  refine lv_aload_n hx hb dL_lossIfBaked_2 rfl (lv_at hl 0 rfl) ?_
  refine lv_iload_n hx hb dL_lossIfBaked_3 rfl (lv_at hl 1 rfl) ?_
  refine lv_iload_n hx hb dL_lossIfBaked_4 rfl (lv_at hl 2 rfl) ?_
  refine l_catch X hB (k := 2) (bk_runVX X (Av := [.int p1, .int p2]) (rest := [.int 0, .ref o]) (mxX8_lossIfBaked hlt hf) yv_X8_lossIfBaked wm_1208 ⟨Nat.le_of_ble_eq_true rfl, Nat.le_of_ble_eq_true rfl⟩ rfl rfl hl.1 kl_X8.1 (hB.1.obj lcq_X_0) hB.1 hB.len hB.tx (Nat.le_of_ble_eq_true rfl) ⟨Nat.le_of_ble_eq_true rfl, Nat.le_of_ble_eq_true rfl⟩ dL_lossIfBaked_5) [⟨0, 10, 13, 13⟩, ⟨0, 10, 17, 49⟩] ⟨0, 10, 21, 91⟩ [] (hxt.trans rfl) (List.forall_mem_cons.mpr ⟨⟨by decide, "java/lang/IndexOutOfBoundsException", wm_915, List.mem_of_getElem? (i := 6) rfl⟩, (List.forall_mem_cons.mpr ⟨⟨by decide, "java/lang/IllegalArgumentException", wm_1079, List.mem_of_getElem? (i := 7) rfl⟩, (fun z hz => by cases hz)⟩)⟩) rfl (by decide) wm_1207 (List.mem_of_getElem? (i := 2) rfl) (fun H locs q hB => ?_)
  refine lv_astore (lv' := [(4, .ref q), (0, .ref a), (1, .int p1), (2, .int p2), (3, .ref o)]) hx hb dL_lossIfBaked_21 hl (by decide) rfl (fun ls hl => ?_)
  refine lv_iconst (v := 3) hx hb dL_lossIfBaked_23 (by decide) ?_
  exact l_iret X hr hB (fun x hx9 => by cases hx9) (Nat.le_of_ble_eq_true rfl) (Nat.le_of_ble_eq_true rfl) dL_lossIfBaked_24
theorem dL_possibleLoaves_0 : decode cL_possibleLoaves 0 = .ok (.aload_n 2, 1) := by decide +kernel
theorem dL_possibleLoaves_1 : decode cL_possibleLoaves 1 = .ok (.iconst 0, 1) := by decide +kernel
theorem dL_possibleLoaves_2 : decode cL_possibleLoaves 2 = .ok (.aload_n 0, 1) := by decide +kernel
theorem dL_possibleLoaves_3 : decode cL_possibleLoaves 3 = .ok (.iload_n 1, 1) := by decide +kernel
theorem dL_possibleLoaves_4 : decode cL_possibleLoaves 4 = .ok (.invokevirtual 93, 3) := by decide +kernel
theorem dL_possibleLoaves_7 : decode cL_possibleLoaves 7 = .ok (.i2l, 1) := by decide +kernel
theorem dL_possibleLoaves_8 : decode cL_possibleLoaves 8 = .ok (.lastore, 1) := by decide +kernel
theorem dL_possibleLoaves_9 : decode cL_possibleLoaves 9 = .ok (.goto 6, 3) := by decide +kernel
theorem dL_possibleLoaves_12 : decode cL_possibleLoaves 12 = .ok (.astore_n 3, 1) := by decide +kernel
theorem dL_possibleLoaves_13 : decode cL_possibleLoaves 13 = .ok (.iconst 1, 1) := by decide +kernel
theorem dL_possibleLoaves_14 : decode cL_possibleLoaves 14 = .ok (.ireturn, 1) := by decide +kernel
theorem dL_possibleLoaves_15 : decode cL_possibleLoaves 15 = .ok (.iconst 0, 1) := by decide +kernel
theorem dL_possibleLoaves_16 : decode cL_possibleLoaves 16 = .ok (.ireturn, 1) := by decide +kernel
theorem hL_possibleLoaves {l : Launch} {p1 : Int32} {v : bM} {q : Int32} (hf : fX8_possibleLoaves p1 v = some q) : hMet l yL_possibleLoaves cL_possibleLoaves 4 [(0, 9, 12, 13)] 9 1 6 [.int p1] v 0 v (some q.toInt64) := by
  refine h_start (by decide +kernel) (fun _ _ => Nat.le_of_ble_eq_true rfl) ?_
  intro p e s m args below meth c D E a o f ls H locs X hr hxt hl hB
  have hx := X.1
  have hb := X.2.1
  have hl : lv_has ls 4 [(0, .ref a), (1, .int p1), (2, .ref o)] := hl
  refine lv_aload_n hx hb dL_possibleLoaves_0 rfl (lv_at hl 2 rfl) ?_
  refine lv_iconst (v := 0) hx hb dL_possibleLoaves_1 (by decide) ?_
  refine lv_aload_n hx hb dL_possibleLoaves_2 rfl (lv_at hl 0 rfl) ?_
  refine lv_iload_n hx hb dL_possibleLoaves_3 rfl (lv_at hl 1 rfl) ?_
  refine l_go hB (bk_runV X (Av := [.int p1]) (rest := [.int 0, .ref o]) (mX8_possibleLoaves hf) yv_X8_possibleLoaves wm_1242 ⟨Nat.le_of_ble_eq_true rfl, Nat.le_of_ble_eq_true rfl⟩ rfl rfl hl.1 kl_X8.1 (hB.1.obj lcq_X_0) hB.1 hB.len hB.tx (Nat.le_of_ble_eq_true rfl) ⟨Nat.le_of_ble_eq_true rfl, Nat.le_of_ble_eq_true rfl⟩ dL_possibleLoaves_4) (fun H locs hB => ?_)
  refine W.eq (g2 := F0 m 7 ls [.int q, .int 0, .ref o]) rfl ?_
  refine lv_i2l (v := q.toInt64) hx hb dL_possibleLoaves_7 rfl ?_
  refine l_last X hB dL_possibleLoaves_8 (fun H locs hB => ?_)
  refine lv_goto (tgt := 15) hx hb dL_possibleLoaves_9 (by decide) ?_
  refine lv_iconst (v := 0) hx hb dL_possibleLoaves_15 (by decide) ?_
  exact l_iret X hr hB (fun x hx9 => by cases hx9; rfl) (Nat.le_of_ble_eq_true rfl) (Nat.le_of_ble_eq_true rfl) dL_possibleLoaves_16
theorem hxL_possibleLoaves_0 {l : Launch} (hlt : l.stackTraces = false) {p1 : Int32} {v : bM} (hf : xX8_possibleLoaves p1 v = some 0) : hMet l yL_possibleLoaves cL_possibleLoaves 4 [(0, 9, 12, 13)] 9 1 6 [.int p1] v 1 v none := by
  refine h_start (by decide +kernel) (fun _ _ => Nat.le_of_ble_eq_true rfl) ?_
  intro p e s m args below meth c D E a o f ls H locs X hr hxt hl hB
  have hx := X.1
  have hb := X.2.1
  have hl : lv_has ls 4 [(0, .ref a), (1, .int p1), (2, .ref o)] := hl
  refine lv_aload_n hx hb dL_possibleLoaves_0 rfl (lv_at hl 2 rfl) ?_
  refine lv_iconst (v := 0) hx hb dL_possibleLoaves_1 (by decide) ?_
  refine lv_aload_n hx hb dL_possibleLoaves_2 rfl (lv_at hl 0 rfl) ?_
  refine lv_iload_n hx hb dL_possibleLoaves_3 rfl (lv_at hl 1 rfl) ?_
  refine l_catch X hB (k := 0) (bk_runVX X (Av := [.int p1]) (rest := [.int 0, .ref o]) (mxX8_possibleLoaves hlt hf) yv_X8_possibleLoaves wm_1242 ⟨Nat.le_of_ble_eq_true rfl, Nat.le_of_ble_eq_true rfl⟩ rfl rfl hl.1 kl_X8.1 (hB.1.obj lcq_X_0) hB.1 hB.len hB.tx (Nat.le_of_ble_eq_true rfl) ⟨Nat.le_of_ble_eq_true rfl, Nat.le_of_ble_eq_true rfl⟩ dL_possibleLoaves_4) [] ⟨0, 9, 12, 13⟩ [] (hxt.trans rfl) (fun z hz => by cases hz) rfl (by decide) wm_915 (List.mem_of_getElem? (i := 0) rfl) (fun H locs q hB => ?_)
  refine lv_astore_n (lv' := [(3, .ref q), (0, .ref a), (1, .int p1), (2, .ref o)]) hx hb dL_possibleLoaves_12 rfl hl (by decide) rfl (fun ls hl => ?_)
  refine lv_iconst (v := 1) hx hb dL_possibleLoaves_13 (by decide) ?_
  exact l_iret X hr hB (fun x hx9 => by cases hx9) (Nat.le_of_ble_eq_true rfl) (Nat.le_of_ble_eq_true rfl) dL_possibleLoaves_14
theorem dL_bestWait_0 : decode cL_bestWait 0 = .ok (.aload_n 3, 1) := by decide +kernel
theorem dL_bestWait_1 : decode cL_bestWait 1 = .ok (.iconst 0, 1) := by decide +kernel
theorem dL_bestWait_2 : decode cL_bestWait 2 = .ok (.aload_n 0, 1) := by decide +kernel
theorem dL_bestWait_3 : decode cL_bestWait 3 = .ok (.iload_n 1, 1) := by decide +kernel
theorem dL_bestWait_4 : decode cL_bestWait 4 = .ok (.iload_n 2, 1) := by decide +kernel
theorem dL_bestWait_5 : decode cL_bestWait 5 = .ok (.invokevirtual 96, 3) := by decide +kernel
theorem dL_bestWait_8 : decode cL_bestWait 8 = .ok (.i2l, 1) := by decide +kernel
theorem dL_bestWait_9 : decode cL_bestWait 9 = .ok (.lastore, 1) := by decide +kernel
theorem dL_bestWait_10 : decode cL_bestWait 10 = .ok (.goto 11, 3) := by decide +kernel
theorem dL_bestWait_13 : decode cL_bestWait 13 = .ok (.astore 4, 2) := by decide +kernel
theorem dL_bestWait_15 : decode cL_bestWait 15 = .ok (.iconst 1, 1) := by decide +kernel
theorem dL_bestWait_16 : decode cL_bestWait 16 = .ok (.ireturn, 1) := by decide +kernel
theorem dL_bestWait_17 : decode cL_bestWait 17 = .ok (.astore 4, 2) := by decide +kernel
theorem dL_bestWait_19 : decode cL_bestWait 19 = .ok (.iconst 2, 1) := by decide +kernel
theorem dL_bestWait_20 : decode cL_bestWait 20 = .ok (.ireturn, 1) := by decide +kernel
theorem dL_bestWait_21 : decode cL_bestWait 21 = .ok (.iconst 0, 1) := by decide +kernel
theorem dL_bestWait_22 : decode cL_bestWait 22 = .ok (.ireturn, 1) := by decide +kernel
theorem hL_bestWait {l : Launch} {p1 : Int32} {p2 : Int32} {v : bM} {q : Int32} (hf : fX8_bestWait p1 p2 v = some q) : hMet l yL_bestWait cL_bestWait 5 [(0, 10, 13, 13), (0, 10, 17, 49)] 9 1 6 [.int p1, .int p2] v 0 v (some q.toInt64) := by
  refine h_start (by decide +kernel) (fun _ _ => Nat.le_of_ble_eq_true rfl) ?_
  intro p e s m args below meth c D E a o f ls H locs X hr hxt hl hB
  have hx := X.1
  have hb := X.2.1
  have hl : lv_has ls 5 [(0, .ref a), (1, .int p1), (2, .int p2), (3, .ref o)] := hl
  refine lv_aload_n hx hb dL_bestWait_0 rfl (lv_at hl 3 rfl) ?_
  refine lv_iconst (v := 0) hx hb dL_bestWait_1 (by decide) ?_
  refine lv_aload_n hx hb dL_bestWait_2 rfl (lv_at hl 0 rfl) ?_
  refine lv_iload_n hx hb dL_bestWait_3 rfl (lv_at hl 1 rfl) ?_
  refine lv_iload_n hx hb dL_bestWait_4 rfl (lv_at hl 2 rfl) ?_
  refine l_go hB (bk_runV X (Av := [.int p1, .int p2]) (rest := [.int 0, .ref o]) (mX8_bestWait hf) yv_X8_bestWait wm_1253 ⟨Nat.le_of_ble_eq_true rfl, Nat.le_of_ble_eq_true rfl⟩ rfl rfl hl.1 kl_X8.1 (hB.1.obj lcq_X_0) hB.1 hB.len hB.tx (Nat.le_of_ble_eq_true rfl) ⟨Nat.le_of_ble_eq_true rfl, Nat.le_of_ble_eq_true rfl⟩ dL_bestWait_5) (fun H locs hB => ?_)
  refine W.eq (g2 := F0 m 8 ls [.int q, .int 0, .ref o]) rfl ?_
  refine lv_i2l (v := q.toInt64) hx hb dL_bestWait_8 rfl ?_
  refine l_last X hB dL_bestWait_9 (fun H locs hB => ?_)
  refine lv_goto (tgt := 21) hx hb dL_bestWait_10 (by decide) ?_
  refine lv_iconst (v := 0) hx hb dL_bestWait_21 (by decide) ?_
  exact l_iret X hr hB (fun x hx9 => by cases hx9; rfl) (Nat.le_of_ble_eq_true rfl) (Nat.le_of_ble_eq_true rfl) dL_bestWait_22
theorem hxL_bestWait_0 {l : Launch} (hlt : l.stackTraces = false) {p1 : Int32} {p2 : Int32} {v : bM} (hf : xX8_bestWait p1 p2 v = some 0) : hMet l yL_bestWait cL_bestWait 5 [(0, 10, 13, 13), (0, 10, 17, 49)] 9 1 6 [.int p1, .int p2] v 1 v none := by
  refine h_start (by decide +kernel) (fun _ _ => Nat.le_of_ble_eq_true rfl) ?_
  intro p e s m args below meth c D E a o f ls H locs X hr hxt hl hB
  have hx := X.1
  have hb := X.2.1
  have hl : lv_has ls 5 [(0, .ref a), (1, .int p1), (2, .int p2), (3, .ref o)] := hl
  refine lv_aload_n hx hb dL_bestWait_0 rfl (lv_at hl 3 rfl) ?_
  refine lv_iconst (v := 0) hx hb dL_bestWait_1 (by decide) ?_
  refine lv_aload_n hx hb dL_bestWait_2 rfl (lv_at hl 0 rfl) ?_
  refine lv_iload_n hx hb dL_bestWait_3 rfl (lv_at hl 1 rfl) ?_
  refine lv_iload_n hx hb dL_bestWait_4 rfl (lv_at hl 2 rfl) ?_
  refine l_catch X hB (k := 0) (bk_runVX X (Av := [.int p1, .int p2]) (rest := [.int 0, .ref o]) (mxX8_bestWait hlt hf) yv_X8_bestWait wm_1253 ⟨Nat.le_of_ble_eq_true rfl, Nat.le_of_ble_eq_true rfl⟩ rfl rfl hl.1 kl_X8.1 (hB.1.obj lcq_X_0) hB.1 hB.len hB.tx (Nat.le_of_ble_eq_true rfl) ⟨Nat.le_of_ble_eq_true rfl, Nat.le_of_ble_eq_true rfl⟩ dL_bestWait_5) [] ⟨0, 10, 13, 13⟩ [⟨0, 10, 17, 49⟩] (hxt.trans rfl) (fun z hz => by cases hz) rfl (by decide) wm_915 (List.mem_of_getElem? (i := 0) rfl) (fun H locs q hB => ?_)
  refine lv_astore (lv' := [(4, .ref q), (0, .ref a), (1, .int p1), (2, .int p2), (3, .ref o)]) hx hb dL_bestWait_13 hl (by decide) rfl (fun ls hl => ?_)
  refine lv_iconst (v := 1) hx hb dL_bestWait_15 (by decide) ?_
  exact l_iret X hr hB (fun x hx9 => by cases hx9) (Nat.le_of_ble_eq_true rfl) (Nat.le_of_ble_eq_true rfl) dL_bestWait_16
theorem hxL_bestWait_1 {l : Launch} (hlt : l.stackTraces = false) {p1 : Int32} {p2 : Int32} {v : bM} (hf : xX8_bestWait p1 p2 v = some 1) : hMet l yL_bestWait cL_bestWait 5 [(0, 10, 13, 13), (0, 10, 17, 49)] 9 1 6 [.int p1, .int p2] v 2 v none := by
  refine h_start (by decide +kernel) (fun _ _ => Nat.le_of_ble_eq_true rfl) ?_
  intro p e s m args below meth c D E a o f ls H locs X hr hxt hl hB
  have hx := X.1
  have hb := X.2.1
  have hl : lv_has ls 5 [(0, .ref a), (1, .int p1), (2, .int p2), (3, .ref o)] := hl
  refine lv_aload_n hx hb dL_bestWait_0 rfl (lv_at hl 3 rfl) ?_
  refine lv_iconst (v := 0) hx hb dL_bestWait_1 (by decide) ?_
  refine lv_aload_n hx hb dL_bestWait_2 rfl (lv_at hl 0 rfl) ?_
  refine lv_iload_n hx hb dL_bestWait_3 rfl (lv_at hl 1 rfl) ?_
  refine lv_iload_n hx hb dL_bestWait_4 rfl (lv_at hl 2 rfl) ?_
  refine l_catch X hB (k := 1) (bk_runVX X (Av := [.int p1, .int p2]) (rest := [.int 0, .ref o]) (mxX8_bestWait hlt hf) yv_X8_bestWait wm_1253 ⟨Nat.le_of_ble_eq_true rfl, Nat.le_of_ble_eq_true rfl⟩ rfl rfl hl.1 kl_X8.1 (hB.1.obj lcq_X_0) hB.1 hB.len hB.tx (Nat.le_of_ble_eq_true rfl) ⟨Nat.le_of_ble_eq_true rfl, Nat.le_of_ble_eq_true rfl⟩ dL_bestWait_5) [⟨0, 10, 13, 13⟩] ⟨0, 10, 17, 49⟩ [] (hxt.trans rfl) (List.forall_mem_cons.mpr ⟨⟨by decide, "java/lang/IndexOutOfBoundsException", wm_915, List.mem_of_getElem? (i := 3) rfl⟩, (fun z hz => by cases hz)⟩) rfl (by decide) wm_1079 (List.mem_of_getElem? (i := 1) rfl) (fun H locs q hB => ?_)
  refine lv_astore (lv' := [(4, .ref q), (0, .ref a), (1, .int p1), (2, .int p2), (3, .ref o)]) hx hb dL_bestWait_17 hl (by decide) rfl (fun ls hl => ?_)
  refine lv_iconst (v := 2) hx hb dL_bestWait_19 (by decide) ?_
  exact l_iret X hr hB (fun x hx9 => by cases hx9) (Nat.le_of_ble_eq_true rfl) (Nat.le_of_ble_eq_true rfl) dL_bestWait_20
theorem dL_addFlour_0 : decode cL_addFlour 0 = .ok (.aload_n 2, 1) := by decide +kernel
theorem dL_addFlour_1 : decode cL_addFlour 1 = .ok (.iconst 0, 1) := by decide +kernel
theorem dL_addFlour_2 : decode cL_addFlour 2 = .ok (.aload_n 0, 1) := by decide +kernel
theorem dL_addFlour_3 : decode cL_addFlour 3 = .ok (.iload_n 1, 1) := by decide +kernel
theorem dL_addFlour_4 : decode cL_addFlour 4 = .ok (.invokevirtual 99, 3) := by decide +kernel
theorem dL_addFlour_7 : decode cL_addFlour 7 = .ok (.i2l, 1) := by decide +kernel
theorem dL_addFlour_8 : decode cL_addFlour 8 = .ok (.lastore, 1) := by decide +kernel
theorem dL_addFlour_9 : decode cL_addFlour 9 = .ok (.goto 9, 3) := by decide +kernel
theorem dL_addFlour_12 : decode cL_addFlour 12 = .ok (.astore_n 3, 1) := by decide +kernel
theorem dL_addFlour_13 : decode cL_addFlour 13 = .ok (.iconst 1, 1) := by decide +kernel
theorem dL_addFlour_14 : decode cL_addFlour 14 = .ok (.ireturn, 1) := by decide +kernel
theorem dL_addFlour_15 : decode cL_addFlour 15 = .ok (.astore_n 3, 1) := by decide +kernel
theorem dL_addFlour_16 : decode cL_addFlour 16 = .ok (.iconst 2, 1) := by decide +kernel
theorem dL_addFlour_17 : decode cL_addFlour 17 = .ok (.ireturn, 1) := by decide +kernel
theorem dL_addFlour_18 : decode cL_addFlour 18 = .ok (.iconst 0, 1) := by decide +kernel
theorem dL_addFlour_19 : decode cL_addFlour 19 = .ok (.ireturn, 1) := by decide +kernel
theorem hL_addFlour {l : Launch} {p1 : Int32} {v w : bM} {q : Int32} (hf : fX8_addFlour p1 v = some (q, w)) : hMet l yL_addFlour cL_addFlour 4 [(0, 9, 12, 49), (0, 9, 15, 91)] 8 1 6 [.int p1] v 0 w (some q.toInt64) := by
  refine h_start (by decide +kernel) (fun _ _ => Nat.le_of_ble_eq_true rfl) ?_
  intro p e s m args below meth c D E a o f ls H locs X hr hxt hl hB
  have hx := X.1
  have hb := X.2.1
  have hl : lv_has ls 4 [(0, .ref a), (1, .int p1), (2, .ref o)] := hl
  refine lv_aload_n hx hb dL_addFlour_0 rfl (lv_at hl 2 rfl) ?_
  refine lv_iconst (v := 0) hx hb dL_addFlour_1 (by decide) ?_
  refine lv_aload_n hx hb dL_addFlour_2 rfl (lv_at hl 0 rfl) ?_
  refine lv_iload_n hx hb dL_addFlour_3 rfl (lv_at hl 1 rfl) ?_
  refine l_go hB (bk_runV X (Av := [.int p1]) (rest := [.int 0, .ref o]) (mX8_addFlour hf) yv_X8_addFlour wm_1264 ⟨Nat.le_of_ble_eq_true rfl, Nat.le_of_ble_eq_true rfl⟩ rfl rfl hl.1 kl_X8.1 (hB.1.obj lcq_X_0) hB.1 hB.len hB.tx (Nat.le_of_ble_eq_true rfl) ⟨Nat.le_of_ble_eq_true rfl, Nat.le_of_ble_eq_true rfl⟩ dL_addFlour_4) (fun H locs hB => ?_)
  refine W.eq (g2 := F0 m 7 ls [.int q, .int 0, .ref o]) rfl ?_
  refine lv_i2l (v := q.toInt64) hx hb dL_addFlour_7 rfl ?_
  refine l_last X hB dL_addFlour_8 (fun H locs hB => ?_)
  refine lv_goto (tgt := 18) hx hb dL_addFlour_9 (by decide) ?_
  refine lv_iconst (v := 0) hx hb dL_addFlour_18 (by decide) ?_
  exact l_iret X hr hB (fun x hx9 => by cases hx9; rfl) (Nat.le_of_ble_eq_true rfl) (Nat.le_of_ble_eq_true rfl) dL_addFlour_19
theorem hxL_addFlour_1 {l : Launch} (hlt : l.stackTraces = false) {p1 : Int32} {v : bM} (hf : xX8_addFlour p1 v = some 1) : hMet l yL_addFlour cL_addFlour 4 [(0, 9, 12, 49), (0, 9, 15, 91)] 8 1 6 [.int p1] v 1 v none := by
  refine h_start (by decide +kernel) (fun _ _ => Nat.le_of_ble_eq_true rfl) ?_
  intro p e s m args below meth c D E a o f ls H locs X hr hxt hl hB
  have hx := X.1
  have hb := X.2.1
  have hl : lv_has ls 4 [(0, .ref a), (1, .int p1), (2, .ref o)] := hl
  refine lv_aload_n hx hb dL_addFlour_0 rfl (lv_at hl 2 rfl) ?_
  refine lv_iconst (v := 0) hx hb dL_addFlour_1 (by decide) ?_
  refine lv_aload_n hx hb dL_addFlour_2 rfl (lv_at hl 0 rfl) ?_
  refine lv_iload_n hx hb dL_addFlour_3 rfl (lv_at hl 1 rfl) ?_
  refine l_catch X hB (k := 1) (bk_runVX X (Av := [.int p1]) (rest := [.int 0, .ref o]) (mxX8_addFlour hlt hf) yv_X8_addFlour wm_1264 ⟨Nat.le_of_ble_eq_true rfl, Nat.le_of_ble_eq_true rfl⟩ rfl rfl hl.1 kl_X8.1 (hB.1.obj lcq_X_0) hB.1 hB.len hB.tx (Nat.le_of_ble_eq_true rfl) ⟨Nat.le_of_ble_eq_true rfl, Nat.le_of_ble_eq_true rfl⟩ dL_addFlour_4) [] ⟨0, 9, 12, 49⟩ [⟨0, 9, 15, 91⟩] (hxt.trans rfl) (fun z hz => by cases hz) rfl (by decide) wm_1079 (List.mem_of_getElem? (i := 1) rfl) (fun H locs q hB => ?_)
  refine lv_astore_n (lv' := [(3, .ref q), (0, .ref a), (1, .int p1), (2, .ref o)]) hx hb dL_addFlour_12 rfl hl (by decide) rfl (fun ls hl => ?_)
  refine lv_iconst (v := 1) hx hb dL_addFlour_13 (by decide) ?_
  exact l_iret X hr hB (fun x hx9 => by cases hx9) (Nat.le_of_ble_eq_true rfl) (Nat.le_of_ble_eq_true rfl) dL_addFlour_14
theorem hxL_addFlour_2 {l : Launch} (hlt : l.stackTraces = false) {p1 : Int32} {v : bM} (hf : xX8_addFlour p1 v = some 2) : hMet l yL_addFlour cL_addFlour 4 [(0, 9, 12, 49), (0, 9, 15, 91)] 8 1 6 [.int p1] v 2 v none := by
  refine h_start (by decide +kernel) (fun _ _ => Nat.le_of_ble_eq_true rfl) ?_
  intro p e s m args below meth c D E a o f ls H locs X hr hxt hl hB
  have hx := X.1
  have hb := X.2.1
  have hl : lv_has ls 4 [(0, .ref a), (1, .int p1), (2, .ref o)] := hl
  refine lv_aload_n hx hb dL_addFlour_0 rfl (lv_at hl 2 rfl) ?_
  refine lv_iconst (v := 0) hx hb dL_addFlour_1 (by decide) ?_
  refine lv_aload_n hx hb dL_addFlour_2 rfl (lv_at hl 0 rfl) ?_
  refine lv_iload_n hx hb dL_addFlour_3 rfl (lv_at hl 1 rfl) ?_
  refine l_catch X hB (k := 2) (bk_runVX X (Av := [.int p1]) (rest := [.int 0, .ref o]) (mxX8_addFlour hlt hf) yv_X8_addFlour wm_1264 ⟨Nat.le_of_ble_eq_true rfl, Nat.le_of_ble_eq_true rfl⟩ rfl rfl hl.1 kl_X8.1 (hB.1.obj lcq_X_0) hB.1 hB.len hB.tx (Nat.le_of_ble_eq_true rfl) ⟨Nat.le_of_ble_eq_true rfl, Nat.le_of_ble_eq_true rfl⟩ dL_addFlour_4) [⟨0, 9, 12, 49⟩] ⟨0, 9, 15, 91⟩ [] (hxt.trans rfl) (List.forall_mem_cons.mpr ⟨⟨by decide, "java/lang/IllegalArgumentException", wm_1079, List.mem_of_getElem? (i := 7) rfl⟩, (fun z hz => by cases hz)⟩) rfl (by decide) wm_1207 (List.mem_of_getElem? (i := 2) rfl) (fun H locs q hB => ?_)
  refine lv_astore_n (lv' := [(3, .ref q), (0, .ref a), (1, .int p1), (2, .ref o)]) hx hb dL_addFlour_15 rfl hl (by decide) rfl (fun ls hl => ?_)
  refine lv_iconst (v := 2) hx hb dL_addFlour_16 (by decide) ?_
  exact l_iret X hr hB (fun x hx9 => by cases hx9) (Nat.le_of_ble_eq_true rfl) (Nat.le_of_ble_eq_true rfl) dL_addFlour_17
theorem dL_addBread_0 : decode cL_addBread 0 = .ok (.aload 4, 2) := by decide +kernel
theorem dL_addBread_2 : decode cL_addBread 2 = .ok (.iconst 0, 1) := by decide +kernel
theorem dL_addBread_3 : decode cL_addBread 3 = .ok (.aload_n 0, 1) := by decide +kernel
theorem dL_addBread_4 : decode cL_addBread 4 = .ok (.iload_n 1, 1) := by decide +kernel
theorem dL_addBread_5 : decode cL_addBread 5 = .ok (.iload_n 2, 1) := by decide +kernel
theorem dL_addBread_6 : decode cL_addBread 6 = .ok (.iload_n 3, 1) := by decide +kernel
theorem dL_addBread_7 : decode cL_addBread 7 = .ok (.invokevirtual 102, 3) := by decide +kernel
theorem dL_addBread_10 : decode cL_addBread 10 = .ok (.i2l, 1) := by decide +kernel
theorem dL_addBread_11 : decode cL_addBread 11 = .ok (.lastore, 1) := by decide +kernel
theorem dL_addBread_12 : decode cL_addBread 12 = .ok (.goto 11, 3) := by decide +kernel
theorem dL_addBread_15 : decode cL_addBread 15 = .ok (.astore 5, 2) := by decide +kernel
theorem dL_addBread_17 : decode cL_addBread 17 = .ok (.iconst 1, 1) := by decide +kernel
theorem dL_addBread_18 : decode cL_addBread 18 = .ok (.ireturn, 1) := by decide +kernel
theorem dL_addBread_19 : decode cL_addBread 19 = .ok (.astore 5, 2) := by decide +kernel
theorem dL_addBread_21 : decode cL_addBread 21 = .ok (.iconst 2, 1) := by decide +kernel
theorem dL_addBread_22 : decode cL_addBread 22 = .ok (.ireturn, 1) := by decide +kernel
theorem dL_addBread_23 : decode cL_addBread 23 = .ok (.iconst 0, 1) := by decide +kernel
theorem dL_addBread_24 : decode cL_addBread 24 = .ok (.ireturn, 1) := by decide +kernel
theorem hL_addBread {l : Launch} {p1 : Int32} {p2 : Int32} {p3 : Int32} {v w : bM} {q : Int32} (hf : fX8_addBread p1 p2 p3 v = some (q, w)) : hMet l yL_addBread cL_addBread 6 [(0, 12, 15, 49), (0, 12, 19, 91)] 8 1 6 [.int p1, .int p2, .int p3] v 0 w (some q.toInt64) := by
  refine h_start (by decide +kernel) (fun _ _ => Nat.le_of_ble_eq_true rfl) ?_
  intro p e s m args below meth c D E a o f ls H locs X hr hxt hl hB
  have hx := X.1
  have hb := X.2.1
  have hl : lv_has ls 6 [(0, .ref a), (1, .int p1), (2, .int p2), (3, .int p3), (4, .ref o)] := hl
  refine lv_aload hx hb dL_addBread_0 (lv_at hl 4 rfl) ?_
  refine lv_iconst (v := 0) hx hb dL_addBread_2 (by decide) ?_
  refine lv_aload_n hx hb dL_addBread_3 rfl (lv_at hl 0 rfl) ?_
  refine lv_iload_n hx hb dL_addBread_4 rfl (lv_at hl 1 rfl) ?_
  refine lv_iload_n hx hb dL_addBread_5 rfl (lv_at hl 2 rfl) ?_
  refine lv_iload_n hx hb dL_addBread_6 rfl (lv_at hl 3 rfl) ?_
  refine l_go hB (bk_runV X (Av := [.int p1, .int p2, .int p3]) (rest := [.int 0, .ref o]) (mX8_addBread hf) yv_X8_addBread wm_1272 ⟨Nat.le_of_ble_eq_true rfl, Nat.le_of_ble_eq_true rfl⟩ rfl rfl hl.1 kl_X8.1 (hB.1.obj lcq_X_0) hB.1 hB.len hB.tx (Nat.le_of_ble_eq_true rfl) ⟨Nat.le_of_ble_eq_true rfl, Nat.le_of_ble_eq_true rfl⟩ dL_addBread_7) (fun H locs hB => ?_)
  refine W.eq (g2 := F0 m 10 ls [.int q, .int 0, .ref o]) rfl ?_
  refine lv_i2l (v := q.toInt64) hx hb dL_addBread_10 rfl ?_
  refine l_last X hB dL_addBread_11 (fun H locs hB => ?_)
  refine lv_goto (tgt := 23) hx hb dL_addBread_12 (by decide) ?_
  refine lv_iconst (v := 0) hx hb dL_addBread_23 (by decide) ?_
  exact l_iret X hr hB (fun x hx9 => by cases hx9; rfl) (Nat.le_of_ble_eq_true rfl) (Nat.le_of_ble_eq_true rfl) dL_addBread_24
theorem hxL_addBread_1 {l : Launch} (hlt : l.stackTraces = false) {p1 : Int32} {p2 : Int32} {p3 : Int32} {v : bM} (hf : xX8_addBread p1 p2 p3 v = some 1) : hMet l yL_addBread cL_addBread 6 [(0, 12, 15, 49), (0, 12, 19, 91)] 8 1 6 [.int p1, .int p2, .int p3] v 1 v none := by
  refine h_start (by decide +kernel) (fun _ _ => Nat.le_of_ble_eq_true rfl) ?_
  intro p e s m args below meth c D E a o f ls H locs X hr hxt hl hB
  have hx := X.1
  have hb := X.2.1
  have hl : lv_has ls 6 [(0, .ref a), (1, .int p1), (2, .int p2), (3, .int p3), (4, .ref o)] := hl
  refine lv_aload hx hb dL_addBread_0 (lv_at hl 4 rfl) ?_
  refine lv_iconst (v := 0) hx hb dL_addBread_2 (by decide) ?_
  refine lv_aload_n hx hb dL_addBread_3 rfl (lv_at hl 0 rfl) ?_
  refine lv_iload_n hx hb dL_addBread_4 rfl (lv_at hl 1 rfl) ?_
  refine lv_iload_n hx hb dL_addBread_5 rfl (lv_at hl 2 rfl) ?_
  refine lv_iload_n hx hb dL_addBread_6 rfl (lv_at hl 3 rfl) ?_
  refine l_catch X hB (k := 1) (bk_runVX X (Av := [.int p1, .int p2, .int p3]) (rest := [.int 0, .ref o]) (mxX8_addBread hlt hf) yv_X8_addBread wm_1272 ⟨Nat.le_of_ble_eq_true rfl, Nat.le_of_ble_eq_true rfl⟩ rfl rfl hl.1 kl_X8.1 (hB.1.obj lcq_X_0) hB.1 hB.len hB.tx (Nat.le_of_ble_eq_true rfl) ⟨Nat.le_of_ble_eq_true rfl, Nat.le_of_ble_eq_true rfl⟩ dL_addBread_7) [] ⟨0, 12, 15, 49⟩ [⟨0, 12, 19, 91⟩] (hxt.trans rfl) (fun z hz => by cases hz) rfl (by decide) wm_1079 (List.mem_of_getElem? (i := 1) rfl) (fun H locs q hB => ?_)
  refine lv_astore (lv' := [(5, .ref q), (0, .ref a), (1, .int p1), (2, .int p2), (3, .int p3), (4, .ref o)]) hx hb dL_addBread_15 hl (by decide) rfl (fun ls hl => ?_)
  refine lv_iconst (v := 1) hx hb dL_addBread_17 (by decide) ?_
  exact l_iret X hr hB (fun x hx9 => by cases hx9) (Nat.le_of_ble_eq_true rfl) (Nat.le_of_ble_eq_true rfl) dL_addBread_18
theorem hxL_addBread_2 {l : Launch} (hlt : l.stackTraces = false) {p1 : Int32} {p2 : Int32} {p3 : Int32} {v : bM} (hf : xX8_addBread p1 p2 p3 v = some 2) : hMet l yL_addBread cL_addBread 6 [(0, 12, 15, 49), (0, 12, 19, 91)] 8 1 6 [.int p1, .int p2, .int p3] v 2 v none := by
  refine h_start (by decide +kernel) (fun _ _ => Nat.le_of_ble_eq_true rfl) ?_
  intro p e s m args below meth c D E a o f ls H locs X hr hxt hl hB
  have hx := X.1
  have hb := X.2.1
  have hl : lv_has ls 6 [(0, .ref a), (1, .int p1), (2, .int p2), (3, .int p3), (4, .ref o)] := hl
  refine lv_aload hx hb dL_addBread_0 (lv_at hl 4 rfl) ?_
  refine lv_iconst (v := 0) hx hb dL_addBread_2 (by decide) ?_
  refine lv_aload_n hx hb dL_addBread_3 rfl (lv_at hl 0 rfl) ?_
  refine lv_iload_n hx hb dL_addBread_4 rfl (lv_at hl 1 rfl) ?_
  refine lv_iload_n hx hb dL_addBread_5 rfl (lv_at hl 2 rfl) ?_
  refine lv_iload_n hx hb dL_addBread_6 rfl (lv_at hl 3 rfl) ?_
  refine l_catch X hB (k := 2) (bk_runVX X (Av := [.int p1, .int p2, .int p3]) (rest := [.int 0, .ref o]) (mxX8_addBread hlt hf) yv_X8_addBread wm_1272 ⟨Nat.le_of_ble_eq_true rfl, Nat.le_of_ble_eq_true rfl⟩ rfl rfl hl.1 kl_X8.1 (hB.1.obj lcq_X_0) hB.1 hB.len hB.tx (Nat.le_of_ble_eq_true rfl) ⟨Nat.le_of_ble_eq_true rfl, Nat.le_of_ble_eq_true rfl⟩ dL_addBread_7) [⟨0, 12, 15, 49⟩] ⟨0, 12, 19, 91⟩ [] (hxt.trans rfl) (List.forall_mem_cons.mpr ⟨⟨by decide, "java/lang/IllegalArgumentException", wm_1079, List.mem_of_getElem? (i := 7) rfl⟩, (fun z hz => by cases hz)⟩) rfl (by decide) wm_1207 (List.mem_of_getElem? (i := 2) rfl) (fun H locs q hB => ?_)
  refine lv_astore (lv' := [(5, .ref q), (0, .ref a), (1, .int p1), (2, .int p2), (3, .int p3), (4, .ref o)]) hx hb dL_addBread_19 hl (by decide) rfl (fun ls hl => ?_)
  refine lv_iconst (v := 2) hx hb dL_addBread_21 (by decide) ?_
  exact l_iret X hr hB (fun x hx9 => by cases hx9) (Nat.le_of_ble_eq_true rfl) (Nat.le_of_ble_eq_true rfl) dL_addBread_22
theorem dL_buy_0 : decode cL_buy 0 = .ok (.aload 4, 2) := by decide +kernel
theorem dL_buy_2 : decode cL_buy 2 = .ok (.iconst 0, 1) := by decide +kernel
theorem dL_buy_3 : decode cL_buy 3 = .ok (.aload_n 0, 1) := by decide +kernel
theorem dL_buy_4 : decode cL_buy 4 = .ok (.iload_n 1, 1) := by decide +kernel
theorem dL_buy_5 : decode cL_buy 5 = .ok (.iload_n 2, 1) := by decide +kernel
theorem dL_buy_6 : decode cL_buy 6 = .ok (.iload_n 3, 1) := by decide +kernel
theorem dL_buy_7 : decode cL_buy 7 = .ok (.invokevirtual 106, 3) := by decide +kernel
theorem dL_buy_10 : decode cL_buy 10 = .ok (.i2l, 1) := by decide +kernel
theorem dL_buy_11 : decode cL_buy 11 = .ok (.lastore, 1) := by decide +kernel
theorem dL_buy_12 : decode cL_buy 12 = .ok (.goto 15, 3) := by decide +kernel
theorem dL_buy_15 : decode cL_buy 15 = .ok (.astore 5, 2) := by decide +kernel
theorem dL_buy_17 : decode cL_buy 17 = .ok (.iconst 1, 1) := by decide +kernel
theorem dL_buy_18 : decode cL_buy 18 = .ok (.ireturn, 1) := by decide +kernel
theorem dL_buy_19 : decode cL_buy 19 = .ok (.astore 5, 2) := by decide +kernel
theorem dL_buy_21 : decode cL_buy 21 = .ok (.iconst 2, 1) := by decide +kernel
theorem dL_buy_22 : decode cL_buy 22 = .ok (.ireturn, 1) := by decide +kernel
theorem dL_buy_23 : decode cL_buy 23 = .ok (.astore 5, 2) := by decide +kernel
theorem dL_buy_25 : decode cL_buy 25 = .ok (.iconst 3, 1) := by decide +kernel
theorem dL_buy_26 : decode cL_buy 26 = .ok (.ireturn, 1) := by decide +kernel
theorem dL_buy_27 : decode cL_buy 27 = .ok (.iconst 0, 1) := by decide +kernel
theorem dL_buy_28 : decode cL_buy 28 = .ok (.ireturn, 1) := by decide +kernel
theorem hL_buy {l : Launch} {p1 : Int32} {p2 : Int32} {p3 : Int32} {v w : bM} {q : Int32} (hf : fX8_buy p1 p2 p3 v = some (q, w)) : hMet l yL_buy cL_buy 6 [(0, 12, 15, 13), (0, 12, 19, 49), (0, 12, 23, 91)] 9 1 6 [.int p1, .int p2, .int p3] v 0 w (some q.toInt64) := by
  refine h_start (by decide +kernel) (fun _ _ => Nat.le_of_ble_eq_true rfl) ?_
  intro p e s m args below meth c D E a o f ls H locs X hr hxt hl hB
  have hx := X.1
  have hb := X.2.1
  have hl : lv_has ls 6 [(0, .ref a), (1, .int p1), (2, .int p2), (3, .int p3), (4, .ref o)] := hl
  refine lv_aload hx hb dL_buy_0 (lv_at hl 4 rfl) ?_
  refine lv_iconst (v := 0) hx hb dL_buy_2 (by decide) ?_
  refine lv_aload_n hx hb dL_buy_3 rfl (lv_at hl 0 rfl) ?_
  refine lv_iload_n hx hb dL_buy_4 rfl (lv_at hl 1 rfl) ?_
  refine lv_iload_n hx hb dL_buy_5 rfl (lv_at hl 2 rfl) ?_
  refine lv_iload_n hx hb dL_buy_6 rfl (lv_at hl 3 rfl) ?_
  refine l_go hB (bk_runV X (Av := [.int p1, .int p2, .int p3]) (rest := [.int 0, .ref o]) (mX8_buy hf) yv_X8_buy wm_1281 ⟨Nat.le_of_ble_eq_true rfl, Nat.le_of_ble_eq_true rfl⟩ rfl rfl hl.1 kl_X8.1 (hB.1.obj lcq_X_0) hB.1 hB.len hB.tx (Nat.le_of_ble_eq_true rfl) ⟨Nat.le_of_ble_eq_true rfl, Nat.le_of_ble_eq_true rfl⟩ dL_buy_7) (fun H locs hB => ?_)
  refine W.eq (g2 := F0 m 10 ls [.int q, .int 0, .ref o]) rfl ?_
  refine lv_i2l (v := q.toInt64) hx hb dL_buy_10 rfl ?_
  refine l_last X hB dL_buy_11 (fun H locs hB => ?_)
  refine lv_goto (tgt := 27) hx hb dL_buy_12 (by decide) ?_
  refine lv_iconst (v := 0) hx hb dL_buy_27 (by decide) ?_
  exact l_iret X hr hB (fun x hx9 => by cases hx9; rfl) (Nat.le_of_ble_eq_true rfl) (Nat.le_of_ble_eq_true rfl) dL_buy_28
theorem hxL_buy_0 {l : Launch} (hlt : l.stackTraces = false) {p1 : Int32} {p2 : Int32} {p3 : Int32} {v : bM} (hf : xX8_buy p1 p2 p3 v = some 0) : hMet l yL_buy cL_buy 6 [(0, 12, 15, 13), (0, 12, 19, 49), (0, 12, 23, 91)] 9 1 6 [.int p1, .int p2, .int p3] v 1 v none := by
  refine h_start (by decide +kernel) (fun _ _ => Nat.le_of_ble_eq_true rfl) ?_
  intro p e s m args below meth c D E a o f ls H locs X hr hxt hl hB
  have hx := X.1
  have hb := X.2.1
  have hl : lv_has ls 6 [(0, .ref a), (1, .int p1), (2, .int p2), (3, .int p3), (4, .ref o)] := hl
  refine lv_aload hx hb dL_buy_0 (lv_at hl 4 rfl) ?_
  refine lv_iconst (v := 0) hx hb dL_buy_2 (by decide) ?_
  refine lv_aload_n hx hb dL_buy_3 rfl (lv_at hl 0 rfl) ?_
  refine lv_iload_n hx hb dL_buy_4 rfl (lv_at hl 1 rfl) ?_
  refine lv_iload_n hx hb dL_buy_5 rfl (lv_at hl 2 rfl) ?_
  refine lv_iload_n hx hb dL_buy_6 rfl (lv_at hl 3 rfl) ?_
  refine l_catch X hB (k := 0) (bk_runVX X (Av := [.int p1, .int p2, .int p3]) (rest := [.int 0, .ref o]) (mxX8_buy hlt hf) yv_X8_buy wm_1281 ⟨Nat.le_of_ble_eq_true rfl, Nat.le_of_ble_eq_true rfl⟩ rfl rfl hl.1 kl_X8.1 (hB.1.obj lcq_X_0) hB.1 hB.len hB.tx (Nat.le_of_ble_eq_true rfl) ⟨Nat.le_of_ble_eq_true rfl, Nat.le_of_ble_eq_true rfl⟩ dL_buy_7) [] ⟨0, 12, 15, 13⟩ [⟨0, 12, 19, 49⟩, ⟨0, 12, 23, 91⟩] (hxt.trans rfl) (fun z hz => by cases hz) rfl (by decide) wm_915 (List.mem_of_getElem? (i := 0) rfl) (fun H locs q hB => ?_)
  refine lv_astore (lv' := [(5, .ref q), (0, .ref a), (1, .int p1), (2, .int p2), (3, .int p3), (4, .ref o)]) hx hb dL_buy_15 hl (by decide) rfl (fun ls hl => ?_)
  refine lv_iconst (v := 1) hx hb dL_buy_17 (by decide) ?_
  exact l_iret X hr hB (fun x hx9 => by cases hx9) (Nat.le_of_ble_eq_true rfl) (Nat.le_of_ble_eq_true rfl) dL_buy_18
theorem hxL_buy_1 {l : Launch} (hlt : l.stackTraces = false) {p1 : Int32} {p2 : Int32} {p3 : Int32} {v : bM} (hf : xX8_buy p1 p2 p3 v = some 1) : hMet l yL_buy cL_buy 6 [(0, 12, 15, 13), (0, 12, 19, 49), (0, 12, 23, 91)] 9 1 6 [.int p1, .int p2, .int p3] v 2 v none := by
  refine h_start (by decide +kernel) (fun _ _ => Nat.le_of_ble_eq_true rfl) ?_
  intro p e s m args below meth c D E a o f ls H locs X hr hxt hl hB
  have hx := X.1
  have hb := X.2.1
  have hl : lv_has ls 6 [(0, .ref a), (1, .int p1), (2, .int p2), (3, .int p3), (4, .ref o)] := hl
  refine lv_aload hx hb dL_buy_0 (lv_at hl 4 rfl) ?_
  refine lv_iconst (v := 0) hx hb dL_buy_2 (by decide) ?_
  refine lv_aload_n hx hb dL_buy_3 rfl (lv_at hl 0 rfl) ?_
  refine lv_iload_n hx hb dL_buy_4 rfl (lv_at hl 1 rfl) ?_
  refine lv_iload_n hx hb dL_buy_5 rfl (lv_at hl 2 rfl) ?_
  refine lv_iload_n hx hb dL_buy_6 rfl (lv_at hl 3 rfl) ?_
  refine l_catch X hB (k := 1) (bk_runVX X (Av := [.int p1, .int p2, .int p3]) (rest := [.int 0, .ref o]) (mxX8_buy hlt hf) yv_X8_buy wm_1281 ⟨Nat.le_of_ble_eq_true rfl, Nat.le_of_ble_eq_true rfl⟩ rfl rfl hl.1 kl_X8.1 (hB.1.obj lcq_X_0) hB.1 hB.len hB.tx (Nat.le_of_ble_eq_true rfl) ⟨Nat.le_of_ble_eq_true rfl, Nat.le_of_ble_eq_true rfl⟩ dL_buy_7) [⟨0, 12, 15, 13⟩] ⟨0, 12, 19, 49⟩ [⟨0, 12, 23, 91⟩] (hxt.trans rfl) (List.forall_mem_cons.mpr ⟨⟨by decide, "java/lang/IndexOutOfBoundsException", wm_915, List.mem_of_getElem? (i := 3) rfl⟩, (fun z hz => by cases hz)⟩) rfl (by decide) wm_1079 (List.mem_of_getElem? (i := 1) rfl) (fun H locs q hB => ?_)
  refine lv_astore (lv' := [(5, .ref q), (0, .ref a), (1, .int p1), (2, .int p2), (3, .int p3), (4, .ref o)]) hx hb dL_buy_19 hl (by decide) rfl (fun ls hl => ?_)
  refine lv_iconst (v := 2) hx hb dL_buy_21 (by decide) ?_
  exact l_iret X hr hB (fun x hx9 => by cases hx9) (Nat.le_of_ble_eq_true rfl) (Nat.le_of_ble_eq_true rfl) dL_buy_22
theorem hxL_buy_2 {l : Launch} (hlt : l.stackTraces = false) {p1 : Int32} {p2 : Int32} {p3 : Int32} {v : bM} (hf : xX8_buy p1 p2 p3 v = some 2) : hMet l yL_buy cL_buy 6 [(0, 12, 15, 13), (0, 12, 19, 49), (0, 12, 23, 91)] 9 1 6 [.int p1, .int p2, .int p3] v 3 v none := by
  refine h_start (by decide +kernel) (fun _ _ => Nat.le_of_ble_eq_true rfl) ?_
  intro p e s m args below meth c D E a o f ls H locs X hr hxt hl hB
  have hx := X.1
  have hb := X.2.1
  have hl : lv_has ls 6 [(0, .ref a), (1, .int p1), (2, .int p2), (3, .int p3), (4, .ref o)] := hl
  refine lv_aload hx hb dL_buy_0 (lv_at hl 4 rfl) ?_
  refine lv_iconst (v := 0) hx hb dL_buy_2 (by decide) ?_
  refine lv_aload_n hx hb dL_buy_3 rfl (lv_at hl 0 rfl) ?_
  refine lv_iload_n hx hb dL_buy_4 rfl (lv_at hl 1 rfl) ?_
  refine lv_iload_n hx hb dL_buy_5 rfl (lv_at hl 2 rfl) ?_
  refine lv_iload_n hx hb dL_buy_6 rfl (lv_at hl 3 rfl) ?_
  refine l_catch X hB (k := 2) (bk_runVX X (Av := [.int p1, .int p2, .int p3]) (rest := [.int 0, .ref o]) (mxX8_buy hlt hf) yv_X8_buy wm_1281 ⟨Nat.le_of_ble_eq_true rfl, Nat.le_of_ble_eq_true rfl⟩ rfl rfl hl.1 kl_X8.1 (hB.1.obj lcq_X_0) hB.1 hB.len hB.tx (Nat.le_of_ble_eq_true rfl) ⟨Nat.le_of_ble_eq_true rfl, Nat.le_of_ble_eq_true rfl⟩ dL_buy_7) [⟨0, 12, 15, 13⟩, ⟨0, 12, 19, 49⟩] ⟨0, 12, 23, 91⟩ [] (hxt.trans rfl) (List.forall_mem_cons.mpr ⟨⟨by decide, "java/lang/IndexOutOfBoundsException", wm_915, List.mem_of_getElem? (i := 6) rfl⟩, (List.forall_mem_cons.mpr ⟨⟨by decide, "java/lang/IllegalArgumentException", wm_1079, List.mem_of_getElem? (i := 7) rfl⟩, (fun z hz => by cases hz)⟩)⟩) rfl (by decide) wm_1207 (List.mem_of_getElem? (i := 2) rfl) (fun H locs q hB => ?_)
  refine lv_astore (lv' := [(5, .ref q), (0, .ref a), (1, .int p1), (2, .int p2), (3, .int p3), (4, .ref o)]) hx hb dL_buy_23 hl (by decide) rfl (fun ls hl => ?_)
  refine lv_iconst (v := 3) hx hb dL_buy_25 (by decide) ?_
  exact l_iret X hr hB (fun x hx9 => by cases hx9) (Nat.le_of_ble_eq_true rfl) (Nat.le_of_ble_eq_true rfl) dL_buy_26
theorem dL_setRate_0 : decode cL_setRate 0 = .ok (.aload_n 3, 1) := by decide +kernel
theorem dL_setRate_1 : decode cL_setRate 1 = .ok (.iconst 0, 1) := by decide +kernel
theorem dL_setRate_2 : decode cL_setRate 2 = .ok (.aload_n 0, 1) := by decide +kernel
theorem dL_setRate_3 : decode cL_setRate 3 = .ok (.iload_n 1, 1) := by decide +kernel
theorem dL_setRate_4 : decode cL_setRate 4 = .ok (.iload_n 2, 1) := by decide +kernel
theorem dL_setRate_5 : decode cL_setRate 5 = .ok (.invokevirtual 109, 3) := by decide +kernel
theorem dL_setRate_8 : decode cL_setRate 8 = .ok (.i2l, 1) := by decide +kernel
theorem dL_setRate_9 : decode cL_setRate 9 = .ok (.lastore, 1) := by decide +kernel
theorem dL_setRate_10 : decode cL_setRate 10 = .ok (.goto 7, 3) := by decide +kernel
theorem dL_setRate_13 : decode cL_setRate 13 = .ok (.astore 4, 2) := by decide +kernel
theorem dL_setRate_15 : decode cL_setRate 15 = .ok (.iconst 1, 1) := by decide +kernel
theorem dL_setRate_16 : decode cL_setRate 16 = .ok (.ireturn, 1) := by decide +kernel
theorem dL_setRate_17 : decode cL_setRate 17 = .ok (.iconst 0, 1) := by decide +kernel
theorem dL_setRate_18 : decode cL_setRate 18 = .ok (.ireturn, 1) := by decide +kernel
theorem hL_setRate {l : Launch} {p1 : Int32} {p2 : Int32} {v w : bM} {q : Int32} (hf : fX8_setRate p1 p2 v = some (q, w)) : hMet l yL_setRate cL_setRate 5 [(0, 10, 13, 49)] 8 1 6 [.int p1, .int p2] v 0 w (some q.toInt64) := by
  refine h_start (by decide +kernel) (fun _ _ => Nat.le_of_ble_eq_true rfl) ?_
  intro p e s m args below meth c D E a o f ls H locs X hr hxt hl hB
  have hx := X.1
  have hb := X.2.1
  have hl : lv_has ls 5 [(0, .ref a), (1, .int p1), (2, .int p2), (3, .ref o)] := hl
  refine lv_aload_n hx hb dL_setRate_0 rfl (lv_at hl 3 rfl) ?_
  refine lv_iconst (v := 0) hx hb dL_setRate_1 (by decide) ?_
  refine lv_aload_n hx hb dL_setRate_2 rfl (lv_at hl 0 rfl) ?_
  refine lv_iload_n hx hb dL_setRate_3 rfl (lv_at hl 1 rfl) ?_
  refine lv_iload_n hx hb dL_setRate_4 rfl (lv_at hl 2 rfl) ?_
  refine l_go hB (bk_runV X (Av := [.int p1, .int p2]) (rest := [.int 0, .ref o]) (mX8_setRate hf) yv_X8_setRate wm_1290 ⟨Nat.le_of_ble_eq_true rfl, Nat.le_of_ble_eq_true rfl⟩ rfl rfl hl.1 kl_X8.1 (hB.1.obj lcq_X_0) hB.1 hB.len hB.tx (Nat.le_of_ble_eq_true rfl) ⟨Nat.le_of_ble_eq_true rfl, Nat.le_of_ble_eq_true rfl⟩ dL_setRate_5) (fun H locs hB => ?_)
  refine W.eq (g2 := F0 m 8 ls [.int q, .int 0, .ref o]) rfl ?_
  refine lv_i2l (v := q.toInt64) hx hb dL_setRate_8 rfl ?_
  refine l_last X hB dL_setRate_9 (fun H locs hB => ?_)
  refine lv_goto (tgt := 17) hx hb dL_setRate_10 (by decide) ?_
  refine lv_iconst (v := 0) hx hb dL_setRate_17 (by decide) ?_
  exact l_iret X hr hB (fun x hx9 => by cases hx9; rfl) (Nat.le_of_ble_eq_true rfl) (Nat.le_of_ble_eq_true rfl) dL_setRate_18
theorem hxL_setRate_1 {l : Launch} (hlt : l.stackTraces = false) {p1 : Int32} {p2 : Int32} {v : bM} (hf : xX8_setRate p1 p2 v = some 1) : hMet l yL_setRate cL_setRate 5 [(0, 10, 13, 49)] 8 1 6 [.int p1, .int p2] v 1 v none := by
  refine h_start (by decide +kernel) (fun _ _ => Nat.le_of_ble_eq_true rfl) ?_
  intro p e s m args below meth c D E a o f ls H locs X hr hxt hl hB
  have hx := X.1
  have hb := X.2.1
  have hl : lv_has ls 5 [(0, .ref a), (1, .int p1), (2, .int p2), (3, .ref o)] := hl
  refine lv_aload_n hx hb dL_setRate_0 rfl (lv_at hl 3 rfl) ?_
  refine lv_iconst (v := 0) hx hb dL_setRate_1 (by decide) ?_
  refine lv_aload_n hx hb dL_setRate_2 rfl (lv_at hl 0 rfl) ?_
  refine lv_iload_n hx hb dL_setRate_3 rfl (lv_at hl 1 rfl) ?_
  refine lv_iload_n hx hb dL_setRate_4 rfl (lv_at hl 2 rfl) ?_
  refine l_catch X hB (k := 1) (bk_runVX X (Av := [.int p1, .int p2]) (rest := [.int 0, .ref o]) (mxX8_setRate hlt hf) yv_X8_setRate wm_1290 ⟨Nat.le_of_ble_eq_true rfl, Nat.le_of_ble_eq_true rfl⟩ rfl rfl hl.1 kl_X8.1 (hB.1.obj lcq_X_0) hB.1 hB.len hB.tx (Nat.le_of_ble_eq_true rfl) ⟨Nat.le_of_ble_eq_true rfl, Nat.le_of_ble_eq_true rfl⟩ dL_setRate_5) [] ⟨0, 10, 13, 49⟩ [] (hxt.trans rfl) (fun z hz => by cases hz) rfl (by decide) wm_1079 (List.mem_of_getElem? (i := 1) rfl) (fun H locs q hB => ?_)
  refine lv_astore (lv' := [(4, .ref q), (0, .ref a), (1, .int p1), (2, .int p2), (3, .ref o)]) hx hb dL_setRate_13 hl (by decide) rfl (fun ls hl => ?_)
  refine lv_iconst (v := 1) hx hb dL_setRate_15 (by decide) ?_
  exact l_iret X hr hB (fun x hx9 => by cases hx9) (Nat.le_of_ble_eq_true rfl) (Nat.le_of_ble_eq_true rfl) dL_setRate_16
theorem dL_bake_0 : decode cL_bake 0 = .ok (.aload 6, 2) := by decide +kernel
theorem dL_bake_2 : decode cL_bake 2 = .ok (.iconst 0, 1) := by decide +kernel
theorem dL_bake_3 : decode cL_bake 3 = .ok (.aload_n 0, 1) := by decide +kernel
theorem dL_bake_4 : decode cL_bake 4 = .ok (.iload_n 1, 1) := by decide +kernel
theorem dL_bake_5 : decode cL_bake 5 = .ok (.iload_n 2, 1) := by decide +kernel
theorem dL_bake_6 : decode cL_bake 6 = .ok (.iload_n 3, 1) := by decide +kernel
theorem dL_bake_7 : decode cL_bake 7 = .ok (.iload 4, 2) := by decide +kernel
theorem dL_bake_9 : decode cL_bake 9 = .ok (.iload 5, 2) := by decide +kernel
theorem dL_bake_11 : decode cL_bake 11 = .ok (.invokevirtual 112, 3) := by decide +kernel
theorem dL_bake_14 : decode cL_bake 14 = .ok (.i2l, 1) := by decide +kernel
theorem dL_bake_15 : decode cL_bake 15 = .ok (.lastore, 1) := by decide +kernel
theorem dL_bake_16 : decode cL_bake 16 = .ok (.goto 15, 3) := by decide +kernel
theorem dL_bake_19 : decode cL_bake 19 = .ok (.astore 7, 2) := by decide +kernel
theorem dL_bake_21 : decode cL_bake 21 = .ok (.iconst 1, 1) := by decide +kernel
theorem dL_bake_22 : decode cL_bake 22 = .ok (.ireturn, 1) := by decide +kernel
theorem dL_bake_23 : decode cL_bake 23 = .ok (.astore 7, 2) := by decide +kernel
theorem dL_bake_25 : decode cL_bake 25 = .ok (.iconst 2, 1) := by decide +kernel
theorem dL_bake_26 : decode cL_bake 26 = .ok (.ireturn, 1) := by decide +kernel
theorem dL_bake_27 : decode cL_bake 27 = .ok (.astore 7, 2) := by decide +kernel
theorem dL_bake_29 : decode cL_bake 29 = .ok (.iconst 3, 1) := by decide +kernel
theorem dL_bake_30 : decode cL_bake 30 = .ok (.ireturn, 1) := by decide +kernel
theorem dL_bake_31 : decode cL_bake 31 = .ok (.iconst 0, 1) := by decide +kernel
theorem dL_bake_32 : decode cL_bake 32 = .ok (.ireturn, 1) := by decide +kernel
theorem hL_bake {l : Launch} {p1 : Int32} {p2 : Int32} {p3 : Int32} {p4 : Int32} {p5 : Int32} {v w : bM} {q : Int32} (hf : fX8_bake p1 p2 p3 p4 p5 v = some (q, w)) : hMet l yL_bake cL_bake 8 [(0, 16, 19, 13), (0, 16, 23, 49), (0, 16, 27, 91)] 9 1 6 [.int p1, .int p2, .int p3, .int p4, .int p5] v 0 w (some q.toInt64) := by
  refine h_start (by decide +kernel) (fun _ _ => Nat.le_of_ble_eq_true rfl) ?_
  intro p e s m args below meth c D E a o f ls H locs X hr hxt hl hB
  have hx := X.1
  have hb := X.2.1
  have hl : lv_has ls 8 [(0, .ref a), (1, .int p1), (2, .int p2), (3, .int p3), (4, .int p4), (5, .int p5), (6, .ref o)] := hl
  refine lv_aload hx hb dL_bake_0 (lv_at hl 6 rfl) ?_
  refine lv_iconst (v := 0) hx hb dL_bake_2 (by decide) ?_
  refine lv_aload_n hx hb dL_bake_3 rfl (lv_at hl 0 rfl) ?_
  refine lv_iload_n hx hb dL_bake_4 rfl (lv_at hl 1 rfl) ?_
  refine lv_iload_n hx hb dL_bake_5 rfl (lv_at hl 2 rfl) ?_
  refine lv_iload_n hx hb dL_bake_6 rfl (lv_at hl 3 rfl) ?_
  refine lv_iload hx hb dL_bake_7 (lv_at hl 4 rfl) ?_
  refine lv_iload hx hb dL_bake_9 (lv_at hl 5 rfl) ?_
  refine l_go hB (bk_runV X (Av := [.int p1, .int p2, .int p3, .int p4, .int p5]) (rest := [.int 0, .ref o]) (mX8_bake hf) yv_X8_bake wm_1297 ⟨Nat.le_of_ble_eq_true rfl, Nat.le_of_ble_eq_true rfl⟩ rfl rfl hl.1 kl_X8.1 (hB.1.obj lcq_X_0) hB.1 hB.len hB.tx (Nat.le_of_ble_eq_true rfl) ⟨Nat.le_of_ble_eq_true rfl, Nat.le_of_ble_eq_true rfl⟩ dL_bake_11) (fun H locs hB => ?_)
  refine W.eq (g2 := F0 m 14 ls [.int q, .int 0, .ref o]) rfl ?_
  refine lv_i2l (v := q.toInt64) hx hb dL_bake_14 rfl ?_
  refine l_last X hB dL_bake_15 (fun H locs hB => ?_)
  refine lv_goto (tgt := 31) hx hb dL_bake_16 (by decide) ?_
  refine lv_iconst (v := 0) hx hb dL_bake_31 (by decide) ?_
  exact l_iret X hr hB (fun x hx9 => by cases hx9; rfl) (Nat.le_of_ble_eq_true rfl) (Nat.le_of_ble_eq_true rfl) dL_bake_32
theorem hxL_bake_0 {l : Launch} (hlt : l.stackTraces = false) {p1 : Int32} {p2 : Int32} {p3 : Int32} {p4 : Int32} {p5 : Int32} {v : bM} (hf : xX8_bake p1 p2 p3 p4 p5 v = some 0) : hMet l yL_bake cL_bake 8 [(0, 16, 19, 13), (0, 16, 23, 49), (0, 16, 27, 91)] 9 1 6 [.int p1, .int p2, .int p3, .int p4, .int p5] v 1 v none := by
  refine h_start (by decide +kernel) (fun _ _ => Nat.le_of_ble_eq_true rfl) ?_
  intro p e s m args below meth c D E a o f ls H locs X hr hxt hl hB
  have hx := X.1
  have hb := X.2.1
  have hl : lv_has ls 8 [(0, .ref a), (1, .int p1), (2, .int p2), (3, .int p3), (4, .int p4), (5, .int p5), (6, .ref o)] := hl
  refine lv_aload hx hb dL_bake_0 (lv_at hl 6 rfl) ?_
  refine lv_iconst (v := 0) hx hb dL_bake_2 (by decide) ?_
  refine lv_aload_n hx hb dL_bake_3 rfl (lv_at hl 0 rfl) ?_
  refine lv_iload_n hx hb dL_bake_4 rfl (lv_at hl 1 rfl) ?_
  refine lv_iload_n hx hb dL_bake_5 rfl (lv_at hl 2 rfl) ?_
  refine lv_iload_n hx hb dL_bake_6 rfl (lv_at hl 3 rfl) ?_
  refine lv_iload hx hb dL_bake_7 (lv_at hl 4 rfl) ?_
  refine lv_iload hx hb dL_bake_9 (lv_at hl 5 rfl) ?_
  refine l_catch X hB (k := 0) (bk_runVX X (Av := [.int p1, .int p2, .int p3, .int p4, .int p5]) (rest := [.int 0, .ref o]) (mxX8_bake hlt hf) yv_X8_bake wm_1297 ⟨Nat.le_of_ble_eq_true rfl, Nat.le_of_ble_eq_true rfl⟩ rfl rfl hl.1 kl_X8.1 (hB.1.obj lcq_X_0) hB.1 hB.len hB.tx (Nat.le_of_ble_eq_true rfl) ⟨Nat.le_of_ble_eq_true rfl, Nat.le_of_ble_eq_true rfl⟩ dL_bake_11) [] ⟨0, 16, 19, 13⟩ [⟨0, 16, 23, 49⟩, ⟨0, 16, 27, 91⟩] (hxt.trans rfl) (fun z hz => by cases hz) rfl (by decide) wm_915 (List.mem_of_getElem? (i := 0) rfl) (fun H locs q hB => ?_)
  refine lv_astore (lv' := [(7, .ref q), (0, .ref a), (1, .int p1), (2, .int p2), (3, .int p3), (4, .int p4), (5, .int p5), (6, .ref o)]) hx hb dL_bake_19 hl (by decide) rfl (fun ls hl => ?_)
  refine lv_iconst (v := 1) hx hb dL_bake_21 (by decide) ?_
  exact l_iret X hr hB (fun x hx9 => by cases hx9) (Nat.le_of_ble_eq_true rfl) (Nat.le_of_ble_eq_true rfl) dL_bake_22
theorem hxL_bake_1 {l : Launch} (hlt : l.stackTraces = false) {p1 : Int32} {p2 : Int32} {p3 : Int32} {p4 : Int32} {p5 : Int32} {v : bM} (hf : xX8_bake p1 p2 p3 p4 p5 v = some 1) : hMet l yL_bake cL_bake 8 [(0, 16, 19, 13), (0, 16, 23, 49), (0, 16, 27, 91)] 9 1 6 [.int p1, .int p2, .int p3, .int p4, .int p5] v 2 v none := by
  refine h_start (by decide +kernel) (fun _ _ => Nat.le_of_ble_eq_true rfl) ?_
  intro p e s m args below meth c D E a o f ls H locs X hr hxt hl hB
  have hx := X.1
  have hb := X.2.1
  have hl : lv_has ls 8 [(0, .ref a), (1, .int p1), (2, .int p2), (3, .int p3), (4, .int p4), (5, .int p5), (6, .ref o)] := hl
  refine lv_aload hx hb dL_bake_0 (lv_at hl 6 rfl) ?_
  refine lv_iconst (v := 0) hx hb dL_bake_2 (by decide) ?_
  refine lv_aload_n hx hb dL_bake_3 rfl (lv_at hl 0 rfl) ?_
  refine lv_iload_n hx hb dL_bake_4 rfl (lv_at hl 1 rfl) ?_
  refine lv_iload_n hx hb dL_bake_5 rfl (lv_at hl 2 rfl) ?_
  refine lv_iload_n hx hb dL_bake_6 rfl (lv_at hl 3 rfl) ?_
  refine lv_iload hx hb dL_bake_7 (lv_at hl 4 rfl) ?_
  refine lv_iload hx hb dL_bake_9 (lv_at hl 5 rfl) ?_
  refine l_catch X hB (k := 1) (bk_runVX X (Av := [.int p1, .int p2, .int p3, .int p4, .int p5]) (rest := [.int 0, .ref o]) (mxX8_bake hlt hf) yv_X8_bake wm_1297 ⟨Nat.le_of_ble_eq_true rfl, Nat.le_of_ble_eq_true rfl⟩ rfl rfl hl.1 kl_X8.1 (hB.1.obj lcq_X_0) hB.1 hB.len hB.tx (Nat.le_of_ble_eq_true rfl) ⟨Nat.le_of_ble_eq_true rfl, Nat.le_of_ble_eq_true rfl⟩ dL_bake_11) [⟨0, 16, 19, 13⟩] ⟨0, 16, 23, 49⟩ [⟨0, 16, 27, 91⟩] (hxt.trans rfl) (List.forall_mem_cons.mpr ⟨⟨by decide, "java/lang/IndexOutOfBoundsException", wm_915, List.mem_of_getElem? (i := 3) rfl⟩, (fun z hz => by cases hz)⟩) rfl (by decide) wm_1079 (List.mem_of_getElem? (i := 1) rfl) (fun H locs q hB => ?_)
  refine lv_astore (lv' := [(7, .ref q), (0, .ref a), (1, .int p1), (2, .int p2), (3, .int p3), (4, .int p4), (5, .int p5), (6, .ref o)]) hx hb dL_bake_23 hl (by decide) rfl (fun ls hl => ?_)
  refine lv_iconst (v := 2) hx hb dL_bake_25 (by decide) ?_
  exact l_iret X hr hB (fun x hx9 => by cases hx9) (Nat.le_of_ble_eq_true rfl) (Nat.le_of_ble_eq_true rfl) dL_bake_26
theorem hxL_bake_2 {l : Launch} (hlt : l.stackTraces = false) {p1 : Int32} {p2 : Int32} {p3 : Int32} {p4 : Int32} {p5 : Int32} {v : bM} (hf : xX8_bake p1 p2 p3 p4 p5 v = some 2) : hMet l yL_bake cL_bake 8 [(0, 16, 19, 13), (0, 16, 23, 49), (0, 16, 27, 91)] 9 1 6 [.int p1, .int p2, .int p3, .int p4, .int p5] v 3 v none := by
  refine h_start (by decide +kernel) (fun _ _ => Nat.le_of_ble_eq_true rfl) ?_
  intro p e s m args below meth c D E a o f ls H locs X hr hxt hl hB
  have hx := X.1
  have hb := X.2.1
  have hl : lv_has ls 8 [(0, .ref a), (1, .int p1), (2, .int p2), (3, .int p3), (4, .int p4), (5, .int p5), (6, .ref o)] := hl
  refine lv_aload hx hb dL_bake_0 (lv_at hl 6 rfl) ?_
  refine lv_iconst (v := 0) hx hb dL_bake_2 (by decide) ?_
  refine lv_aload_n hx hb dL_bake_3 rfl (lv_at hl 0 rfl) ?_
  refine lv_iload_n hx hb dL_bake_4 rfl (lv_at hl 1 rfl) ?_
  refine lv_iload_n hx hb dL_bake_5 rfl (lv_at hl 2 rfl) ?_
  refine lv_iload_n hx hb dL_bake_6 rfl (lv_at hl 3 rfl) ?_
  refine lv_iload hx hb dL_bake_7 (lv_at hl 4 rfl) ?_
  refine lv_iload hx hb dL_bake_9 (lv_at hl 5 rfl) ?_
  refine l_catch X hB (k := 2) (bk_runVX X (Av := [.int p1, .int p2, .int p3, .int p4, .int p5]) (rest := [.int 0, .ref o]) (mxX8_bake hlt hf) yv_X8_bake wm_1297 ⟨Nat.le_of_ble_eq_true rfl, Nat.le_of_ble_eq_true rfl⟩ rfl rfl hl.1 kl_X8.1 (hB.1.obj lcq_X_0) hB.1 hB.len hB.tx (Nat.le_of_ble_eq_true rfl) ⟨Nat.le_of_ble_eq_true rfl, Nat.le_of_ble_eq_true rfl⟩ dL_bake_11) [⟨0, 16, 19, 13⟩, ⟨0, 16, 23, 49⟩] ⟨0, 16, 27, 91⟩ [] (hxt.trans rfl) (List.forall_mem_cons.mpr ⟨⟨by decide, "java/lang/IndexOutOfBoundsException", wm_915, List.mem_of_getElem? (i := 6) rfl⟩, (List.forall_mem_cons.mpr ⟨⟨by decide, "java/lang/IllegalArgumentException", wm_1079, List.mem_of_getElem? (i := 7) rfl⟩, (fun z hz => by cases hz)⟩)⟩) rfl (by decide) wm_1207 (List.mem_of_getElem? (i := 2) rfl) (fun H locs q hB => ?_)
  refine lv_astore (lv' := [(7, .ref q), (0, .ref a), (1, .int p1), (2, .int p2), (3, .int p3), (4, .int p4), (5, .int p5), (6, .ref o)]) hx hb dL_bake_27 hl (by decide) rfl (fun ls hl => ?_)
  refine lv_iconst (v := 3) hx hb dL_bake_29 (by decide) ?_
  exact l_iret X hr hB (fun x hx9 => by cases hx9) (Nat.le_of_ble_eq_true rfl) (Nat.le_of_ble_eq_true rfl) dL_bake_30
theorem dL_sell_0 : decode cL_sell 0 = .ok (.aload 4, 2) := by decide +kernel
theorem dL_sell_2 : decode cL_sell 2 = .ok (.iconst 0, 1) := by decide +kernel
theorem dL_sell_3 : decode cL_sell 3 = .ok (.aload_n 0, 1) := by decide +kernel
theorem dL_sell_4 : decode cL_sell 4 = .ok (.iload_n 1, 1) := by decide +kernel
theorem dL_sell_5 : decode cL_sell 5 = .ok (.iload_n 2, 1) := by decide +kernel
theorem dL_sell_6 : decode cL_sell 6 = .ok (.iload_n 3, 1) := by decide +kernel
theorem dL_sell_7 : decode cL_sell 7 = .ok (.invokevirtual 116, 3) := by decide +kernel
theorem dL_sell_10 : decode cL_sell 10 = .ok (.i2l, 1) := by decide +kernel
theorem dL_sell_11 : decode cL_sell 11 = .ok (.lastore, 1) := by decide +kernel
theorem dL_sell_12 : decode cL_sell 12 = .ok (.goto 15, 3) := by decide +kernel
theorem dL_sell_15 : decode cL_sell 15 = .ok (.astore 5, 2) := by decide +kernel
theorem dL_sell_17 : decode cL_sell 17 = .ok (.iconst 1, 1) := by decide +kernel
theorem dL_sell_18 : decode cL_sell 18 = .ok (.ireturn, 1) := by decide +kernel
theorem dL_sell_19 : decode cL_sell 19 = .ok (.astore 5, 2) := by decide +kernel
theorem dL_sell_21 : decode cL_sell 21 = .ok (.iconst 2, 1) := by decide +kernel
theorem dL_sell_22 : decode cL_sell 22 = .ok (.ireturn, 1) := by decide +kernel
theorem dL_sell_23 : decode cL_sell 23 = .ok (.astore 5, 2) := by decide +kernel
theorem dL_sell_25 : decode cL_sell 25 = .ok (.iconst 3, 1) := by decide +kernel
theorem dL_sell_26 : decode cL_sell 26 = .ok (.ireturn, 1) := by decide +kernel
theorem dL_sell_27 : decode cL_sell 27 = .ok (.iconst 0, 1) := by decide +kernel
theorem dL_sell_28 : decode cL_sell 28 = .ok (.ireturn, 1) := by decide +kernel
theorem hL_sell {l : Launch} {p1 : Int32} {p2 : Int32} {p3 : Int32} {v w : bM} {q : Int32} (hf : fX8_sell p1 p2 p3 v = some (q, w)) : hMet l yL_sell cL_sell 6 [(0, 12, 15, 13), (0, 12, 19, 49), (0, 12, 23, 91)] 9 1 6 [.int p1, .int p2, .int p3] v 0 w (some q.toInt64) := by
  refine h_start (by decide +kernel) (fun _ _ => Nat.le_of_ble_eq_true rfl) ?_
  intro p e s m args below meth c D E a o f ls H locs X hr hxt hl hB
  have hx := X.1
  have hb := X.2.1
  have hl : lv_has ls 6 [(0, .ref a), (1, .int p1), (2, .int p2), (3, .int p3), (4, .ref o)] := hl
  refine lv_aload hx hb dL_sell_0 (lv_at hl 4 rfl) ?_
  refine lv_iconst (v := 0) hx hb dL_sell_2 (by decide) ?_
  refine lv_aload_n hx hb dL_sell_3 rfl (lv_at hl 0 rfl) ?_
  refine lv_iload_n hx hb dL_sell_4 rfl (lv_at hl 1 rfl) ?_
  refine lv_iload_n hx hb dL_sell_5 rfl (lv_at hl 2 rfl) ?_
  refine lv_iload_n hx hb dL_sell_6 rfl (lv_at hl 3 rfl) ?_
  refine l_go hB (bk_runV X (Av := [.int p1, .int p2, .int p3]) (rest := [.int 0, .ref o]) (mX8_sell hf) yv_X8_sell wm_1305 ⟨Nat.le_of_ble_eq_true rfl, Nat.le_of_ble_eq_true rfl⟩ rfl rfl hl.1 kl_X8.1 (hB.1.obj lcq_X_0) hB.1 hB.len hB.tx (Nat.le_of_ble_eq_true rfl) ⟨Nat.le_of_ble_eq_true rfl, Nat.le_of_ble_eq_true rfl⟩ dL_sell_7) (fun H locs hB => ?_)
  refine W.eq (g2 := F0 m 10 ls [.int q, .int 0, .ref o]) rfl ?_
  refine lv_i2l (v := q.toInt64) hx hb dL_sell_10 rfl ?_
  refine l_last X hB dL_sell_11 (fun H locs hB => ?_)
  refine lv_goto (tgt := 27) hx hb dL_sell_12 (by decide) ?_
  refine lv_iconst (v := 0) hx hb dL_sell_27 (by decide) ?_
  exact l_iret X hr hB (fun x hx9 => by cases hx9; rfl) (Nat.le_of_ble_eq_true rfl) (Nat.le_of_ble_eq_true rfl) dL_sell_28
theorem hxL_sell_0 {l : Launch} (hlt : l.stackTraces = false) {p1 : Int32} {p2 : Int32} {p3 : Int32} {v : bM} (hf : xX8_sell p1 p2 p3 v = some 0) : hMet l yL_sell cL_sell 6 [(0, 12, 15, 13), (0, 12, 19, 49), (0, 12, 23, 91)] 9 1 6 [.int p1, .int p2, .int p3] v 1 v none := by
  refine h_start (by decide +kernel) (fun _ _ => Nat.le_of_ble_eq_true rfl) ?_
  intro p e s m args below meth c D E a o f ls H locs X hr hxt hl hB
  have hx := X.1
  have hb := X.2.1
  have hl : lv_has ls 6 [(0, .ref a), (1, .int p1), (2, .int p2), (3, .int p3), (4, .ref o)] := hl
  refine lv_aload hx hb dL_sell_0 (lv_at hl 4 rfl) ?_
  refine lv_iconst (v := 0) hx hb dL_sell_2 (by decide) ?_
  refine lv_aload_n hx hb dL_sell_3 rfl (lv_at hl 0 rfl) ?_
  refine lv_iload_n hx hb dL_sell_4 rfl (lv_at hl 1 rfl) ?_
  refine lv_iload_n hx hb dL_sell_5 rfl (lv_at hl 2 rfl) ?_
  refine lv_iload_n hx hb dL_sell_6 rfl (lv_at hl 3 rfl) ?_
  refine l_catch X hB (k := 0) (bk_runVX X (Av := [.int p1, .int p2, .int p3]) (rest := [.int 0, .ref o]) (mxX8_sell hlt hf) yv_X8_sell wm_1305 ⟨Nat.le_of_ble_eq_true rfl, Nat.le_of_ble_eq_true rfl⟩ rfl rfl hl.1 kl_X8.1 (hB.1.obj lcq_X_0) hB.1 hB.len hB.tx (Nat.le_of_ble_eq_true rfl) ⟨Nat.le_of_ble_eq_true rfl, Nat.le_of_ble_eq_true rfl⟩ dL_sell_7) [] ⟨0, 12, 15, 13⟩ [⟨0, 12, 19, 49⟩, ⟨0, 12, 23, 91⟩] (hxt.trans rfl) (fun z hz => by cases hz) rfl (by decide) wm_915 (List.mem_of_getElem? (i := 0) rfl) (fun H locs q hB => ?_)
  refine lv_astore (lv' := [(5, .ref q), (0, .ref a), (1, .int p1), (2, .int p2), (3, .int p3), (4, .ref o)]) hx hb dL_sell_15 hl (by decide) rfl (fun ls hl => ?_)
  refine lv_iconst (v := 1) hx hb dL_sell_17 (by decide) ?_
  exact l_iret X hr hB (fun x hx9 => by cases hx9) (Nat.le_of_ble_eq_true rfl) (Nat.le_of_ble_eq_true rfl) dL_sell_18
theorem hxL_sell_1 {l : Launch} (hlt : l.stackTraces = false) {p1 : Int32} {p2 : Int32} {p3 : Int32} {v : bM} (hf : xX8_sell p1 p2 p3 v = some 1) : hMet l yL_sell cL_sell 6 [(0, 12, 15, 13), (0, 12, 19, 49), (0, 12, 23, 91)] 9 1 6 [.int p1, .int p2, .int p3] v 2 v none := by
  refine h_start (by decide +kernel) (fun _ _ => Nat.le_of_ble_eq_true rfl) ?_
  intro p e s m args below meth c D E a o f ls H locs X hr hxt hl hB
  have hx := X.1
  have hb := X.2.1
  have hl : lv_has ls 6 [(0, .ref a), (1, .int p1), (2, .int p2), (3, .int p3), (4, .ref o)] := hl
  refine lv_aload hx hb dL_sell_0 (lv_at hl 4 rfl) ?_
  refine lv_iconst (v := 0) hx hb dL_sell_2 (by decide) ?_
  refine lv_aload_n hx hb dL_sell_3 rfl (lv_at hl 0 rfl) ?_
  refine lv_iload_n hx hb dL_sell_4 rfl (lv_at hl 1 rfl) ?_
  refine lv_iload_n hx hb dL_sell_5 rfl (lv_at hl 2 rfl) ?_
  refine lv_iload_n hx hb dL_sell_6 rfl (lv_at hl 3 rfl) ?_
  refine l_catch X hB (k := 1) (bk_runVX X (Av := [.int p1, .int p2, .int p3]) (rest := [.int 0, .ref o]) (mxX8_sell hlt hf) yv_X8_sell wm_1305 ⟨Nat.le_of_ble_eq_true rfl, Nat.le_of_ble_eq_true rfl⟩ rfl rfl hl.1 kl_X8.1 (hB.1.obj lcq_X_0) hB.1 hB.len hB.tx (Nat.le_of_ble_eq_true rfl) ⟨Nat.le_of_ble_eq_true rfl, Nat.le_of_ble_eq_true rfl⟩ dL_sell_7) [⟨0, 12, 15, 13⟩] ⟨0, 12, 19, 49⟩ [⟨0, 12, 23, 91⟩] (hxt.trans rfl) (List.forall_mem_cons.mpr ⟨⟨by decide, "java/lang/IndexOutOfBoundsException", wm_915, List.mem_of_getElem? (i := 3) rfl⟩, (fun z hz => by cases hz)⟩) rfl (by decide) wm_1079 (List.mem_of_getElem? (i := 1) rfl) (fun H locs q hB => ?_)
  refine lv_astore (lv' := [(5, .ref q), (0, .ref a), (1, .int p1), (2, .int p2), (3, .int p3), (4, .ref o)]) hx hb dL_sell_19 hl (by decide) rfl (fun ls hl => ?_)
  refine lv_iconst (v := 2) hx hb dL_sell_21 (by decide) ?_
  exact l_iret X hr hB (fun x hx9 => by cases hx9) (Nat.le_of_ble_eq_true rfl) (Nat.le_of_ble_eq_true rfl) dL_sell_22
theorem hxL_sell_2 {l : Launch} (hlt : l.stackTraces = false) {p1 : Int32} {p2 : Int32} {p3 : Int32} {v : bM} (hf : xX8_sell p1 p2 p3 v = some 2) : hMet l yL_sell cL_sell 6 [(0, 12, 15, 13), (0, 12, 19, 49), (0, 12, 23, 91)] 9 1 6 [.int p1, .int p2, .int p3] v 3 v none := by
  refine h_start (by decide +kernel) (fun _ _ => Nat.le_of_ble_eq_true rfl) ?_
  intro p e s m args below meth c D E a o f ls H locs X hr hxt hl hB
  have hx := X.1
  have hb := X.2.1
  have hl : lv_has ls 6 [(0, .ref a), (1, .int p1), (2, .int p2), (3, .int p3), (4, .ref o)] := hl
  refine lv_aload hx hb dL_sell_0 (lv_at hl 4 rfl) ?_
  refine lv_iconst (v := 0) hx hb dL_sell_2 (by decide) ?_
  refine lv_aload_n hx hb dL_sell_3 rfl (lv_at hl 0 rfl) ?_
  refine lv_iload_n hx hb dL_sell_4 rfl (lv_at hl 1 rfl) ?_
  refine lv_iload_n hx hb dL_sell_5 rfl (lv_at hl 2 rfl) ?_
  refine lv_iload_n hx hb dL_sell_6 rfl (lv_at hl 3 rfl) ?_
  refine l_catch X hB (k := 2) (bk_runVX X (Av := [.int p1, .int p2, .int p3]) (rest := [.int 0, .ref o]) (mxX8_sell hlt hf) yv_X8_sell wm_1305 ⟨Nat.le_of_ble_eq_true rfl, Nat.le_of_ble_eq_true rfl⟩ rfl rfl hl.1 kl_X8.1 (hB.1.obj lcq_X_0) hB.1 hB.len hB.tx (Nat.le_of_ble_eq_true rfl) ⟨Nat.le_of_ble_eq_true rfl, Nat.le_of_ble_eq_true rfl⟩ dL_sell_7) [⟨0, 12, 15, 13⟩, ⟨0, 12, 19, 49⟩] ⟨0, 12, 23, 91⟩ [] (hxt.trans rfl) (List.forall_mem_cons.mpr ⟨⟨by decide, "java/lang/IndexOutOfBoundsException", wm_915, List.mem_of_getElem? (i := 6) rfl⟩, (List.forall_mem_cons.mpr ⟨⟨by decide, "java/lang/IllegalArgumentException", wm_1079, List.mem_of_getElem? (i := 7) rfl⟩, (fun z hz => by cases hz)⟩)⟩) rfl (by decide) wm_1207 (List.mem_of_getElem? (i := 2) rfl) (fun H locs q hB => ?_)
  refine lv_astore (lv' := [(5, .ref q), (0, .ref a), (1, .int p1), (2, .int p2), (3, .int p3), (4, .ref o)]) hx hb dL_sell_23 hl (by decide) rfl (fun ls hl => ?_)
  refine lv_iconst (v := 3) hx hb dL_sell_25 (by decide) ?_
  exact l_iret X hr hB (fun x hx9 => by cases hx9) (Nat.le_of_ble_eq_true rfl) (Nat.le_of_ble_eq_true rfl) dL_sell_26
theorem dL_waitMinutes_0 : decode cL_waitMinutes 0 = .ok (.aload_n 2, 1) := by decide +kernel
theorem dL_waitMinutes_1 : decode cL_waitMinutes 1 = .ok (.iconst 0, 1) := by decide +kernel
theorem dL_waitMinutes_2 : decode cL_waitMinutes 2 = .ok (.aload_n 0, 1) := by decide +kernel
theorem dL_waitMinutes_3 : decode cL_waitMinutes 3 = .ok (.iload_n 1, 1) := by decide +kernel
theorem dL_waitMinutes_4 : decode cL_waitMinutes 4 = .ok (.invokevirtual 119, 3) := by decide +kernel
theorem dL_waitMinutes_7 : decode cL_waitMinutes 7 = .ok (.i2l, 1) := by decide +kernel
theorem dL_waitMinutes_8 : decode cL_waitMinutes 8 = .ok (.lastore, 1) := by decide +kernel
theorem dL_waitMinutes_9 : decode cL_waitMinutes 9 = .ok (.goto 6, 3) := by decide +kernel
theorem dL_waitMinutes_12 : decode cL_waitMinutes 12 = .ok (.astore_n 3, 1) := by decide +kernel
theorem dL_waitMinutes_13 : decode cL_waitMinutes 13 = .ok (.iconst 1, 1) := by decide +kernel
theorem dL_waitMinutes_14 : decode cL_waitMinutes 14 = .ok (.ireturn, 1) := by decide +kernel
theorem dL_waitMinutes_15 : decode cL_waitMinutes 15 = .ok (.iconst 0, 1) := by decide +kernel
theorem dL_waitMinutes_16 : decode cL_waitMinutes 16 = .ok (.ireturn, 1) := by decide +kernel
theorem hL_waitMinutes {l : Launch} {p1 : Int32} {v w : bM} {q : Int32} (hf : fX8_waitMinutes p1 v = some (q, w)) : hMet l yL_waitMinutes cL_waitMinutes 4 [(0, 9, 12, 49)] 8 1 6 [.int p1] v 0 w (some q.toInt64) := by
  refine h_start (by decide +kernel) (fun _ _ => Nat.le_of_ble_eq_true rfl) ?_
  intro p e s m args below meth c D E a o f ls H locs X hr hxt hl hB
  have hx := X.1
  have hb := X.2.1
  have hl : lv_has ls 4 [(0, .ref a), (1, .int p1), (2, .ref o)] := hl
  refine lv_aload_n hx hb dL_waitMinutes_0 rfl (lv_at hl 2 rfl) ?_
  refine lv_iconst (v := 0) hx hb dL_waitMinutes_1 (by decide) ?_
  refine lv_aload_n hx hb dL_waitMinutes_2 rfl (lv_at hl 0 rfl) ?_
  refine lv_iload_n hx hb dL_waitMinutes_3 rfl (lv_at hl 1 rfl) ?_
  refine l_go hB (bk_runV X (Av := [.int p1]) (rest := [.int 0, .ref o]) (mX8_waitMinutes hf) yv_X8_waitMinutes wm_1313 ⟨Nat.le_of_ble_eq_true rfl, Nat.le_of_ble_eq_true rfl⟩ rfl rfl hl.1 kl_X8.1 (hB.1.obj lcq_X_0) hB.1 hB.len hB.tx (Nat.le_of_ble_eq_true rfl) ⟨Nat.le_of_ble_eq_true rfl, Nat.le_of_ble_eq_true rfl⟩ dL_waitMinutes_4) (fun H locs hB => ?_)
  refine W.eq (g2 := F0 m 7 ls [.int q, .int 0, .ref o]) rfl ?_
  refine lv_i2l (v := q.toInt64) hx hb dL_waitMinutes_7 rfl ?_
  refine l_last X hB dL_waitMinutes_8 (fun H locs hB => ?_)
  refine lv_goto (tgt := 15) hx hb dL_waitMinutes_9 (by decide) ?_
  refine lv_iconst (v := 0) hx hb dL_waitMinutes_15 (by decide) ?_
  exact l_iret X hr hB (fun x hx9 => by cases hx9; rfl) (Nat.le_of_ble_eq_true rfl) (Nat.le_of_ble_eq_true rfl) dL_waitMinutes_16
theorem hxL_waitMinutes_1 {l : Launch} (hlt : l.stackTraces = false) {p1 : Int32} {v : bM} (hf : xX8_waitMinutes p1 v = some 1) : hMet l yL_waitMinutes cL_waitMinutes 4 [(0, 9, 12, 49)] 8 1 6 [.int p1] v 1 v none := by
  refine h_start (by decide +kernel) (fun _ _ => Nat.le_of_ble_eq_true rfl) ?_
  intro p e s m args below meth c D E a o f ls H locs X hr hxt hl hB
  have hx := X.1
  have hb := X.2.1
  have hl : lv_has ls 4 [(0, .ref a), (1, .int p1), (2, .ref o)] := hl
  refine lv_aload_n hx hb dL_waitMinutes_0 rfl (lv_at hl 2 rfl) ?_
  refine lv_iconst (v := 0) hx hb dL_waitMinutes_1 (by decide) ?_
  refine lv_aload_n hx hb dL_waitMinutes_2 rfl (lv_at hl 0 rfl) ?_
  refine lv_iload_n hx hb dL_waitMinutes_3 rfl (lv_at hl 1 rfl) ?_
  refine l_catch X hB (k := 1) (bk_runVX X (Av := [.int p1]) (rest := [.int 0, .ref o]) (mxX8_waitMinutes hlt hf) yv_X8_waitMinutes wm_1313 ⟨Nat.le_of_ble_eq_true rfl, Nat.le_of_ble_eq_true rfl⟩ rfl rfl hl.1 kl_X8.1 (hB.1.obj lcq_X_0) hB.1 hB.len hB.tx (Nat.le_of_ble_eq_true rfl) ⟨Nat.le_of_ble_eq_true rfl, Nat.le_of_ble_eq_true rfl⟩ dL_waitMinutes_4) [] ⟨0, 9, 12, 49⟩ [] (hxt.trans rfl) (fun z hz => by cases hz) rfl (by decide) wm_1079 (List.mem_of_getElem? (i := 1) rfl) (fun H locs q hB => ?_)
  refine lv_astore_n (lv' := [(3, .ref q), (0, .ref a), (1, .int p1), (2, .ref o)]) hx hb dL_waitMinutes_12 rfl hl (by decide) rfl (fun ls hl => ?_)
  refine lv_iconst (v := 1) hx hb dL_waitMinutes_13 (by decide) ?_
  exact l_iret X hr hB (fun x hx9 => by cases hx9) (Nat.le_of_ble_eq_true rfl) (Nat.le_of_ble_eq_true rfl) dL_waitMinutes_14
theorem dL_undo_0 : decode cL_undo 0 = .ok (.aload_n 1, 1) := by decide +kernel
theorem dL_undo_1 : decode cL_undo 1 = .ok (.iconst 0, 1) := by decide +kernel
theorem dL_undo_2 : decode cL_undo 2 = .ok (.aload_n 0, 1) := by decide +kernel
theorem dL_undo_3 : decode cL_undo 3 = .ok (.invokevirtual 122, 3) := by decide +kernel
theorem dL_undo_6 : decode cL_undo 6 = .ok (.i2l, 1) := by decide +kernel
theorem dL_undo_7 : decode cL_undo 7 = .ok (.lastore, 1) := by decide +kernel
theorem dL_undo_8 : decode cL_undo 8 = .ok (.goto 6, 3) := by decide +kernel
theorem dL_undo_11 : decode cL_undo 11 = .ok (.astore_n 2, 1) := by decide +kernel
theorem dL_undo_12 : decode cL_undo 12 = .ok (.iconst 1, 1) := by decide +kernel
theorem dL_undo_13 : decode cL_undo 13 = .ok (.ireturn, 1) := by decide +kernel
theorem dL_undo_14 : decode cL_undo 14 = .ok (.iconst 0, 1) := by decide +kernel
theorem dL_undo_15 : decode cL_undo 15 = .ok (.ireturn, 1) := by decide +kernel
theorem hL_undo {l : Launch} {v w : bM} {q : Int32} (hf : fX8_undo v = some (q, w)) : hMet l yL_undo cL_undo 3 [(0, 8, 11, 91)] 8 1 6 [] v 0 w (some q.toInt64) := by
  refine h_start (by decide +kernel) (fun _ _ => Nat.le_of_ble_eq_true rfl) ?_
  intro p e s m args below meth c D E a o f ls H locs X hr hxt hl hB
  have hx := X.1
  have hb := X.2.1
  have hl : lv_has ls 3 [(0, .ref a), (1, .ref o)] := hl
  refine lv_aload_n hx hb dL_undo_0 rfl (lv_at hl 1 rfl) ?_
  refine lv_iconst (v := 0) hx hb dL_undo_1 (by decide) ?_
  refine lv_aload_n hx hb dL_undo_2 rfl (lv_at hl 0 rfl) ?_
  refine l_go hB (bk_runV X (Av := []) (rest := [.int 0, .ref o]) (mX8_undo hf) yv_X8_undo wm_1320 ⟨Nat.le_of_ble_eq_true rfl, Nat.le_of_ble_eq_true rfl⟩ rfl rfl hl.1 kl_X8.1 (hB.1.obj lcq_X_0) hB.1 hB.len hB.tx (Nat.le_of_ble_eq_true rfl) ⟨Nat.le_of_ble_eq_true rfl, Nat.le_of_ble_eq_true rfl⟩ dL_undo_3) (fun H locs hB => ?_)
  refine W.eq (g2 := F0 m 6 ls [.int q, .int 0, .ref o]) rfl ?_
  refine lv_i2l (v := q.toInt64) hx hb dL_undo_6 rfl ?_
  refine l_last X hB dL_undo_7 (fun H locs hB => ?_)
  refine lv_goto (tgt := 14) hx hb dL_undo_8 (by decide) ?_
  refine lv_iconst (v := 0) hx hb dL_undo_14 (by decide) ?_
  exact l_iret X hr hB (fun x hx9 => by cases hx9; rfl) (Nat.le_of_ble_eq_true rfl) (Nat.le_of_ble_eq_true rfl) dL_undo_15
theorem hxL_undo_2 {l : Launch} (hlt : l.stackTraces = false) {v : bM} (hf : xX8_undo v = some 2) : hMet l yL_undo cL_undo 3 [(0, 8, 11, 91)] 8 1 6 [] v 1 v none := by
  refine h_start (by decide +kernel) (fun _ _ => Nat.le_of_ble_eq_true rfl) ?_
  intro p e s m args below meth c D E a o f ls H locs X hr hxt hl hB
  have hx := X.1
  have hb := X.2.1
  have hl : lv_has ls 3 [(0, .ref a), (1, .ref o)] := hl
  refine lv_aload_n hx hb dL_undo_0 rfl (lv_at hl 1 rfl) ?_
  refine lv_iconst (v := 0) hx hb dL_undo_1 (by decide) ?_
  refine lv_aload_n hx hb dL_undo_2 rfl (lv_at hl 0 rfl) ?_
  refine l_catch X hB (k := 2) (bk_runVX X (Av := []) (rest := [.int 0, .ref o]) (mxX8_undo hlt hf) yv_X8_undo wm_1320 ⟨Nat.le_of_ble_eq_true rfl, Nat.le_of_ble_eq_true rfl⟩ rfl rfl hl.1 kl_X8.1 (hB.1.obj lcq_X_0) hB.1 hB.len hB.tx (Nat.le_of_ble_eq_true rfl) ⟨Nat.le_of_ble_eq_true rfl, Nat.le_of_ble_eq_true rfl⟩ dL_undo_3) [] ⟨0, 8, 11, 91⟩ [] (hxt.trans rfl) (fun z hz => by cases hz) rfl (by decide) wm_1207 (List.mem_of_getElem? (i := 2) rfl) (fun H locs q hB => ?_)
  refine lv_astore_n (lv' := [(2, .ref q), (0, .ref a), (1, .ref o)]) hx hb dL_undo_11 rfl hl (by decide) rfl (fun ls hl => ?_)
  refine lv_iconst (v := 1) hx hb dL_undo_12 (by decide) ?_
  exact l_iret X hr hB (fun x hx9 => by cases hx9) (Nat.le_of_ble_eq_true rfl) (Nat.le_of_ble_eq_true rfl) dL_undo_13
theorem dL_save_0 : decode cL_save 0 = .ok (.aload_n 2, 1) := by decide +kernel
theorem dL_save_1 : decode cL_save 1 = .ok (.iconst 0, 1) := by decide +kernel
theorem dL_save_2 : decode cL_save 2 = .ok (.aload_n 0, 1) := by decide +kernel
theorem dL_save_3 : decode cL_save 3 = .ok (.iload_n 1, 1) := by decide +kernel
theorem dL_save_4 : decode cL_save 4 = .ok (.invokevirtual 126, 3) := by decide +kernel
theorem dL_save_7 : decode cL_save 7 = .ok (.i2l, 1) := by decide +kernel
theorem dL_save_8 : decode cL_save 8 = .ok (.lastore, 1) := by decide +kernel
theorem dL_save_9 : decode cL_save 9 = .ok (.goto 6, 3) := by decide +kernel
theorem dL_save_12 : decode cL_save 12 = .ok (.astore_n 3, 1) := by decide +kernel
theorem dL_save_13 : decode cL_save 13 = .ok (.iconst 1, 1) := by decide +kernel
theorem dL_save_14 : decode cL_save 14 = .ok (.ireturn, 1) := by decide +kernel
theorem dL_save_15 : decode cL_save 15 = .ok (.iconst 0, 1) := by decide +kernel
theorem dL_save_16 : decode cL_save 16 = .ok (.ireturn, 1) := by decide +kernel
theorem hL_save {l : Launch} {p1 : Int32} {v w : bM} {q : Int32} (hf : fX8_save p1 v = some (q, w)) : hMet l yL_save cL_save 4 [(0, 9, 12, 49)] 8 1 6 [.int p1] v 0 w (some q.toInt64) := by
  refine h_start (by decide +kernel) (fun _ _ => Nat.le_of_ble_eq_true rfl) ?_
  intro p e s m args below meth c D E a o f ls H locs X hr hxt hl hB
  have hx := X.1
  have hb := X.2.1
  have hl : lv_has ls 4 [(0, .ref a), (1, .int p1), (2, .ref o)] := hl
  refine lv_aload_n hx hb dL_save_0 rfl (lv_at hl 2 rfl) ?_
  refine lv_iconst (v := 0) hx hb dL_save_1 (by decide) ?_
  refine lv_aload_n hx hb dL_save_2 rfl (lv_at hl 0 rfl) ?_
  refine lv_iload_n hx hb dL_save_3 rfl (lv_at hl 1 rfl) ?_
  refine l_go hB (bk_runV X (Av := [.int p1]) (rest := [.int 0, .ref o]) (mX8_save hf) yv_X8_save wm_1331 ⟨Nat.le_of_ble_eq_true rfl, Nat.le_of_ble_eq_true rfl⟩ rfl rfl hl.1 kl_X8.1 (hB.1.obj lcq_X_0) hB.1 hB.len hB.tx (Nat.le_of_ble_eq_true rfl) ⟨Nat.le_of_ble_eq_true rfl, Nat.le_of_ble_eq_true rfl⟩ dL_save_4) (fun H locs hB => ?_)
  refine W.eq (g2 := F0 m 7 ls [.int q, .int 0, .ref o]) rfl ?_
  refine lv_i2l (v := q.toInt64) hx hb dL_save_7 rfl ?_
  refine l_last X hB dL_save_8 (fun H locs hB => ?_)
  refine lv_goto (tgt := 15) hx hb dL_save_9 (by decide) ?_
  refine lv_iconst (v := 0) hx hb dL_save_15 (by decide) ?_
  exact l_iret X hr hB (fun x hx9 => by cases hx9; rfl) (Nat.le_of_ble_eq_true rfl) (Nat.le_of_ble_eq_true rfl) dL_save_16
theorem hxL_save_1 {l : Launch} (hlt : l.stackTraces = false) {p1 : Int32} {v : bM} (hf : xX8_save p1 v = some 1) : hMet l yL_save cL_save 4 [(0, 9, 12, 49)] 8 1 6 [.int p1] v 1 v none := by
  refine h_start (by decide +kernel) (fun _ _ => Nat.le_of_ble_eq_true rfl) ?_
  intro p e s m args below meth c D E a o f ls H locs X hr hxt hl hB
  have hx := X.1
  have hb := X.2.1
  have hl : lv_has ls 4 [(0, .ref a), (1, .int p1), (2, .ref o)] := hl
  refine lv_aload_n hx hb dL_save_0 rfl (lv_at hl 2 rfl) ?_
  refine lv_iconst (v := 0) hx hb dL_save_1 (by decide) ?_
  refine lv_aload_n hx hb dL_save_2 rfl (lv_at hl 0 rfl) ?_
  refine lv_iload_n hx hb dL_save_3 rfl (lv_at hl 1 rfl) ?_
  refine l_catch X hB (k := 1) (bk_runVX X (Av := [.int p1]) (rest := [.int 0, .ref o]) (mxX8_save hlt hf) yv_X8_save wm_1331 ⟨Nat.le_of_ble_eq_true rfl, Nat.le_of_ble_eq_true rfl⟩ rfl rfl hl.1 kl_X8.1 (hB.1.obj lcq_X_0) hB.1 hB.len hB.tx (Nat.le_of_ble_eq_true rfl) ⟨Nat.le_of_ble_eq_true rfl, Nat.le_of_ble_eq_true rfl⟩ dL_save_4) [] ⟨0, 9, 12, 49⟩ [] (hxt.trans rfl) (fun z hz => by cases hz) rfl (by decide) wm_1079 (List.mem_of_getElem? (i := 1) rfl) (fun H locs q hB => ?_)
  refine lv_astore_n (lv' := [(3, .ref q), (0, .ref a), (1, .int p1), (2, .ref o)]) hx hb dL_save_12 rfl hl (by decide) rfl (fun ls hl => ?_)
  refine lv_iconst (v := 1) hx hb dL_save_13 (by decide) ?_
  exact l_iret X hr hB (fun x hx9 => by cases hx9) (Nat.le_of_ble_eq_true rfl) (Nat.le_of_ble_eq_true rfl) dL_save_14
theorem dL_restore_0 : decode cL_restore 0 = .ok (.aload_n 2, 1) := by decide +kernel
theorem dL_restore_1 : decode cL_restore 1 = .ok (.iconst 0, 1) := by decide +kernel
theorem dL_restore_2 : decode cL_restore 2 = .ok (.aload_n 0, 1) := by decide +kernel
theorem dL_restore_3 : decode cL_restore 3 = .ok (.iload_n 1, 1) := by decide +kernel
theorem dL_restore_4 : decode cL_restore 4 = .ok (.invokevirtual 129, 3) := by decide +kernel
theorem dL_restore_7 : decode cL_restore 7 = .ok (.i2l, 1) := by decide +kernel
theorem dL_restore_8 : decode cL_restore 8 = .ok (.lastore, 1) := by decide +kernel
theorem dL_restore_9 : decode cL_restore 9 = .ok (.goto 9, 3) := by decide +kernel
theorem dL_restore_12 : decode cL_restore 12 = .ok (.astore_n 3, 1) := by decide +kernel
theorem dL_restore_13 : decode cL_restore 13 = .ok (.iconst 1, 1) := by decide +kernel
theorem dL_restore_14 : decode cL_restore 14 = .ok (.ireturn, 1) := by decide +kernel
theorem dL_restore_15 : decode cL_restore 15 = .ok (.astore_n 3, 1) := by decide +kernel
theorem dL_restore_16 : decode cL_restore 16 = .ok (.iconst 2, 1) := by decide +kernel
theorem dL_restore_17 : decode cL_restore 17 = .ok (.ireturn, 1) := by decide +kernel
theorem dL_restore_18 : decode cL_restore 18 = .ok (.iconst 0, 1) := by decide +kernel
theorem dL_restore_19 : decode cL_restore 19 = .ok (.ireturn, 1) := by decide +kernel
theorem hL_restore {l : Launch} {p1 : Int32} {v w : bM} {q : Int32} (hf : fX8_restore p1 v = some (q, w)) : hMet l yL_restore cL_restore 4 [(0, 9, 12, 49), (0, 9, 15, 132)] 8 1 6 [.int p1] v 0 w (some q.toInt64) := by
  refine h_start (by decide +kernel) (fun _ _ => Nat.le_of_ble_eq_true rfl) ?_
  intro p e s m args below meth c D E a o f ls H locs X hr hxt hl hB
  have hx := X.1
  have hb := X.2.1
  have hl : lv_has ls 4 [(0, .ref a), (1, .int p1), (2, .ref o)] := hl
  refine lv_aload_n hx hb dL_restore_0 rfl (lv_at hl 2 rfl) ?_
  refine lv_iconst (v := 0) hx hb dL_restore_1 (by decide) ?_
  refine lv_aload_n hx hb dL_restore_2 rfl (lv_at hl 0 rfl) ?_
  refine lv_iload_n hx hb dL_restore_3 rfl (lv_at hl 1 rfl) ?_
  refine l_go hB (bk_runV X (Av := [.int p1]) (rest := [.int 0, .ref o]) (mX8_restore hf) yv_X8_restore wm_1339 ⟨Nat.le_of_ble_eq_true rfl, Nat.le_of_ble_eq_true rfl⟩ rfl rfl hl.1 kl_X8.1 (hB.1.obj lcq_X_0) hB.1 hB.len hB.tx (Nat.le_of_ble_eq_true rfl) ⟨Nat.le_of_ble_eq_true rfl, Nat.le_of_ble_eq_true rfl⟩ dL_restore_4) (fun H locs hB => ?_)
  refine W.eq (g2 := F0 m 7 ls [.int q, .int 0, .ref o]) rfl ?_
  refine lv_i2l (v := q.toInt64) hx hb dL_restore_7 rfl ?_
  refine l_last X hB dL_restore_8 (fun H locs hB => ?_)
  refine lv_goto (tgt := 18) hx hb dL_restore_9 (by decide) ?_
  refine lv_iconst (v := 0) hx hb dL_restore_18 (by decide) ?_
  exact l_iret X hr hB (fun x hx9 => by cases hx9; rfl) (Nat.le_of_ble_eq_true rfl) (Nat.le_of_ble_eq_true rfl) dL_restore_19
theorem hxL_restore_1 {l : Launch} (hlt : l.stackTraces = false) {p1 : Int32} {v : bM} (hf : xX8_restore p1 v = some 1) : hMet l yL_restore cL_restore 4 [(0, 9, 12, 49), (0, 9, 15, 132)] 8 1 6 [.int p1] v 1 v none := by
  refine h_start (by decide +kernel) (fun _ _ => Nat.le_of_ble_eq_true rfl) ?_
  intro p e s m args below meth c D E a o f ls H locs X hr hxt hl hB
  have hx := X.1
  have hb := X.2.1
  have hl : lv_has ls 4 [(0, .ref a), (1, .int p1), (2, .ref o)] := hl
  refine lv_aload_n hx hb dL_restore_0 rfl (lv_at hl 2 rfl) ?_
  refine lv_iconst (v := 0) hx hb dL_restore_1 (by decide) ?_
  refine lv_aload_n hx hb dL_restore_2 rfl (lv_at hl 0 rfl) ?_
  refine lv_iload_n hx hb dL_restore_3 rfl (lv_at hl 1 rfl) ?_
  refine l_catch X hB (k := 1) (bk_runVX X (Av := [.int p1]) (rest := [.int 0, .ref o]) (mxX8_restore hlt hf) yv_X8_restore wm_1339 ⟨Nat.le_of_ble_eq_true rfl, Nat.le_of_ble_eq_true rfl⟩ rfl rfl hl.1 kl_X8.1 (hB.1.obj lcq_X_0) hB.1 hB.len hB.tx (Nat.le_of_ble_eq_true rfl) ⟨Nat.le_of_ble_eq_true rfl, Nat.le_of_ble_eq_true rfl⟩ dL_restore_4) [] ⟨0, 9, 12, 49⟩ [⟨0, 9, 15, 132⟩] (hxt.trans rfl) (fun z hz => by cases hz) rfl (by decide) wm_1079 (List.mem_of_getElem? (i := 1) rfl) (fun H locs q hB => ?_)
  refine lv_astore_n (lv' := [(3, .ref q), (0, .ref a), (1, .int p1), (2, .ref o)]) hx hb dL_restore_12 rfl hl (by decide) rfl (fun ls hl => ?_)
  refine lv_iconst (v := 1) hx hb dL_restore_13 (by decide) ?_
  exact l_iret X hr hB (fun x hx9 => by cases hx9) (Nat.le_of_ble_eq_true rfl) (Nat.le_of_ble_eq_true rfl) dL_restore_14
theorem hxL_restore_3 {l : Launch} (hlt : l.stackTraces = false) {p1 : Int32} {v : bM} (hf : xX8_restore p1 v = some 3) : hMet l yL_restore cL_restore 4 [(0, 9, 12, 49), (0, 9, 15, 132)] 8 1 6 [.int p1] v 2 v none := by
  refine h_start (by decide +kernel) (fun _ _ => Nat.le_of_ble_eq_true rfl) ?_
  intro p e s m args below meth c D E a o f ls H locs X hr hxt hl hB
  have hx := X.1
  have hb := X.2.1
  have hl : lv_has ls 4 [(0, .ref a), (1, .int p1), (2, .ref o)] := hl
  refine lv_aload_n hx hb dL_restore_0 rfl (lv_at hl 2 rfl) ?_
  refine lv_iconst (v := 0) hx hb dL_restore_1 (by decide) ?_
  refine lv_aload_n hx hb dL_restore_2 rfl (lv_at hl 0 rfl) ?_
  refine lv_iload_n hx hb dL_restore_3 rfl (lv_at hl 1 rfl) ?_
  refine l_catch X hB (k := 3) (bk_runVX X (Av := [.int p1]) (rest := [.int 0, .ref o]) (mxX8_restore hlt hf) yv_X8_restore wm_1339 ⟨Nat.le_of_ble_eq_true rfl, Nat.le_of_ble_eq_true rfl⟩ rfl rfl hl.1 kl_X8.1 (hB.1.obj lcq_X_0) hB.1 hB.len hB.tx (Nat.le_of_ble_eq_true rfl) ⟨Nat.le_of_ble_eq_true rfl, Nat.le_of_ble_eq_true rfl⟩ dL_restore_4) [⟨0, 9, 12, 49⟩] ⟨0, 9, 15, 132⟩ [] (hxt.trans rfl) (List.forall_mem_cons.mpr ⟨⟨by decide, "java/lang/IllegalArgumentException", wm_1079, List.mem_of_getElem? (i := 10) rfl⟩, (fun z hz => by cases hz)⟩) rfl (by decide) wm_1338 (List.mem_of_getElem? (i := 3) rfl) (fun H locs q hB => ?_)
  refine lv_astore_n (lv' := [(3, .ref q), (0, .ref a), (1, .int p1), (2, .ref o)]) hx hb dL_restore_15 rfl hl (by decide) rfl (fun ls hl => ?_)
  refine lv_iconst (v := 2) hx hb dL_restore_16 (by decide) ?_
  exact l_iret X hr hB (fun x hx9 => by cases hx9) (Nat.le_of_ble_eq_true rfl) (Nat.le_of_ble_eq_true rfl) dL_restore_17
