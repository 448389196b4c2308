theorem dL_writeBatch_0 : decode cL_writeBatch 0 = .ok (.aload_n 2, 1) := by decide +kernel
theorem dL_writeBatch_1 : decode cL_writeBatch 1 = .ok (.iconst 0, 1) := by decide +kernel
theorem dL_writeBatch_2 : decode cL_writeBatch 2 = .ok (.aload_n 0, 1) := by decide +kernel
theorem dL_writeBatch_3 : decode cL_writeBatch 3 = .ok (.iload_n 1, 1) := by decide +kernel
theorem dL_writeBatch_4 : decode cL_writeBatch 4 = .ok (.invokevirtual 134, 3) := by decide +kernel
theorem dL_writeBatch_7 : decode cL_writeBatch 7 = .ok (.i2l, 1) := by decide +kernel
theorem dL_writeBatch_8 : decode cL_writeBatch 8 = .ok (.lastore, 1) := by decide +kernel
theorem dL_writeBatch_9 : decode cL_writeBatch 9 = .ok (.goto 6, 3) := by decide +kernel
theorem dL_writeBatch_12 : decode cL_writeBatch 12 = .ok (.astore_n 3, 1) := by decide +kernel
theorem dL_writeBatch_13 : decode cL_writeBatch 13 = .ok (.iconst 1, 1) := by decide +kernel
theorem dL_writeBatch_14 : decode cL_writeBatch 14 = .ok (.ireturn, 1) := by decide +kernel
theorem dL_writeBatch_15 : decode cL_writeBatch 15 = .ok (.iconst 0, 1) := by decide +kernel
theorem dL_writeBatch_16 : decode cL_writeBatch 16 = .ok (.ireturn, 1) := by decide +kernel
theorem hL_writeBatch {l : Launch} {p1 : Int32} {v w : bM} {q : Int32} (hf : fX8_writeBatch p1 v = some (q, w)) : hMet l yL_writeBatch cL_writeBatch 4 [(0, 9, 12, 13)] 9 19 3819 [.int p1] v 0 w (some q.toInt64) := by
  refine h_start (by decide +kernel) (fun _ _ => Nat.le_of_ble_eq_true rfl) ?_
  intro p e s m args below meth c D E a o f ls H locs X hr hxt hl hB
  have hx := X.1
  have hb := X.2.1
  have hl : lv_has ls 4 [(0, .ref a), (1, .int p1), (2, .ref o)] := hl
  refine lv_aload_n hx hb dL_writeBatch_0 rfl (lv_at hl 2 rfl) ?_
  refine lv_iconst (v := 0) hx hb dL_writeBatch_1 (by decide) ?_
  refine lv_aload_n hx hb dL_writeBatch_2 rfl (lv_at hl 0 rfl) ?_
  refine lv_iload_n hx hb dL_writeBatch_3 rfl (lv_at hl 1 rfl) ?_
  refine l_goz hB (z_run X (Av := [.int p1]) (rest := [.int 0, .ref o]) (mX8_writeBatch hf) yv_X8_writeBatch wm_1362 ⟨Nat.le_of_ble_eq_true rfl, Nat.le_of_ble_eq_true rfl⟩ rfl rfl hl.1 kl_X8.1 (hB.1.obj lcq_X_0) hB.1 hB.len hB.tx (Nat.le_of_ble_eq_true rfl) ⟨Nat.le_of_ble_eq_true rfl, Nat.le_of_ble_eq_true rfl⟩ dL_writeBatch_4) (fun H locs hB => ?_)
  refine W.eq (g2 := F0 m 7 ls [.int q, .int 0, .ref o]) rfl ?_
  refine lv_i2l (v := q.toInt64) hx hb dL_writeBatch_7 rfl ?_
  refine l_last X hB dL_writeBatch_8 (fun H locs hB => ?_)
  refine lv_goto (tgt := 15) hx hb dL_writeBatch_9 (by decide) ?_
  refine lv_iconst (v := 0) hx hb dL_writeBatch_15 (by decide) ?_
  exact l_iret X hr hB (fun x hx9 => by cases hx9; rfl) (Nat.le_of_ble_eq_true rfl) (Nat.le_of_ble_eq_true rfl) dL_writeBatch_16
theorem hxL_writeBatch_0 {l : Launch} (hlt : l.stackTraces = false) {p1 : Int32} {v : bM} (hf : xX8_writeBatch p1 v = some 0) : hMet l yL_writeBatch cL_writeBatch 4 [(0, 9, 12, 13)] 9 19 3819 [.int p1] v 1 v none := by
  refine h_start (by decide +kernel) (fun _ _ => Nat.le_of_ble_eq_true rfl) ?_
  intro p e s m args below meth c D E a o f ls H locs X hr hxt hl hB
  have hx := X.1
  have hb := X.2.1
  have hl : lv_has ls 4 [(0, .ref a), (1, .int p1), (2, .ref o)] := hl
  refine lv_aload_n hx hb dL_writeBatch_0 rfl (lv_at hl 2 rfl) ?_
  refine lv_iconst (v := 0) hx hb dL_writeBatch_1 (by decide) ?_
  refine lv_aload_n hx hb dL_writeBatch_2 rfl (lv_at hl 0 rfl) ?_
  refine lv_iload_n hx hb dL_writeBatch_3 rfl (lv_at hl 1 rfl) ?_
  refine l_catch X hB (k := 0) (bk_runVX X (Av := [.int p1]) (rest := [.int 0, .ref o]) (mxX8_writeBatch hlt hf) yv_X8_writeBatch wm_1362 ⟨Nat.le_of_ble_eq_true rfl, Nat.le_of_ble_eq_true rfl⟩ rfl rfl hl.1 kl_X8.1 (hB.1.obj lcq_X_0) hB.1 hB.len hB.tx (Nat.le_of_ble_eq_true rfl) ⟨Nat.le_of_ble_eq_true rfl, Nat.le_of_ble_eq_true rfl⟩ dL_writeBatch_4) [] ⟨0, 9, 12, 13⟩ [] (hxt.trans rfl) (fun z hz => by cases hz) rfl (by decide) wm_915 (List.mem_of_getElem? (i := 0) rfl) (fun H locs q hB => ?_)
  refine lv_astore_n (lv' := [(3, .ref q), (0, .ref a), (1, .int p1), (2, .ref o)]) hx hb dL_writeBatch_12 rfl hl (by decide) rfl (fun ls hl => ?_)
  refine lv_iconst (v := 1) hx hb dL_writeBatch_13 (by decide) ?_
  exact l_iret X hr hB (fun x hx9 => by cases hx9) (Nat.le_of_ble_eq_true rfl) (Nat.le_of_ble_eq_true rfl) dL_writeBatch_14
