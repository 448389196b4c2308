/-! ===== the law, the cases on doubles ===== -/
theorem cL_50 {p : Program} {l : Launch} {e : Env} {s : State} {m : MethodId} {args : Array Value} {below : List Frame} {meth : Method} {c : Code} {H : Heap} {locs : List Loc} {cells slots : Nat} {Q : State → Prop} {ls : Array Slot} {D : va_G} {E : bE} {a : Nat} {v u : bM} {f : Nat → Int64} {b L : Nat} {xs : Nat → Int32} {i : Nat} {u' : bM} {r : UInt64} (X : bCx p s m args meth c RL cL_law 9 D E) (hB : uB D E a v u f b L xs s H locs) (hl : lv_has ls 9 [(4, .int (nI i)), (3, .ref (a + 876)), (2, .ref (a + 866)), (1, .ref a), (0, .ref b)]) (hf8 : fX8_meanLoss v = some r) (hf9 : fX9_meanLoss u = some (r, u')) (h0 : Op.cmpValue (FP.dcmp r r) .l = 0) (hc : cells + 20 ≤ 601024 ∧ slots + 3830 ≤ 7293034) (kk : ∀ (ls : Array Slot) (H : Heap) (locs : List Loc), lv_has ls 9 [(4, .int (nI i)), (3, .ref (a + 876)), (2, .ref (a + 866)), (1, .ref a), (0, .ref b)] → uB D E a v u' f b L xs s H locs → W p l e room_1 s m args below meth c H locs cells slots Q (F0 m 3148 ls [])) : W p l e room_1 s m args below meth c H locs cells slots Q (F0 m 2303 ls []) := by
  have hx := X.1
  have hb := X.2.1
  refine lv_aload_n hx hb dL_law_2303 rfl (lv_at hl 3 rfl) ?_
  refine u_goX hB (bk_runV X (Av := []) (rest := []) (mX8_meanLoss n64_all hf8) yv_X8_meanLoss wm_871 ⟨Nat.le_of_ble_eq_true rfl, Nat.le_of_ble_eq_true rfl⟩ rfl rfl hl.1 kl_X8.1 (hB.1.obj lcq_X_0) hB.1 hB.lenX hB.hX (Nat.le_of_ble_eq_true rfl) ⟨by show cells + 0 ≤ 601024; omega, by show slots + 0 ≤ 7293034; omega⟩ dL_law_2304) (fun H locs hB => ?_)
  refine W.eq (g2 := F0 m 2307 ls [.double r]) rfl ?_
  refine lv_dstore (lv' := [(5, .double r), (4, .int (nI i)), (3, .ref (a + 876)), (2, .ref (a + 866)), (1, .ref a), (0, .ref b)]) hx hb dL_law_2307 hl (by decide) rfl (fun ls hl => ?_)
  refine lv_aload_n hx hb dL_law_2309 rfl (lv_at hl 3 rfl) ?_
  refine u_goM hB (bk_runV X (Av := []) (rest := []) (mX9_meanLoss n64_all hf9) yv_X9_meanLoss wm_2193 ⟨Nat.le_of_ble_eq_true rfl, Nat.le_of_ble_eq_true rfl⟩ rfl rfl hl.1 kl_X9.1 (hB.2.1.obj lc_Mo_0) hB.2.1 hB.lenM hB.hM (Nat.le_of_ble_eq_true rfl) ⟨by show cells + 0 + 0 ≤ 601024; omega, by show slots + 0 + 0 ≤ 7293034; omega⟩ dL_law_2310) (fun H locs hB => ?_)
  refine W.eq (g2 := F0 m 2313 ls [.double r]) rfl ?_
  refine lv_dstore (lv' := [(7, .double r), (5, .double r), (4, .int (nI i)), (3, .ref (a + 876)), (2, .ref (a + 866)), (1, .ref a), (0, .ref b)]) hx hb dL_law_2313 hl (by decide) rfl (fun ls hl => ?_)
  refine lv_dload hx hb dL_law_2315 (lv_at hl 1 rfl) ?_
  refine lv_dload hx hb dL_law_2317 (lv_at hl 0 rfl) ?_
  refine lv_dcmp hx hb dL_law_2319 ?_
  rw [h0]
  refine lv_if_eq (tgt := 2341) hx hb dL_law_2320 (by decide) (fun _ => ?_) (fun h => absurd rfl h)
  refine lv_goto (tgt := 3148) hx hb dL_law_2341 (by decide) ?_
  exact kk ls H locs (lv_sub hl [2, 3, 4, 5, 6] rfl) hB
theorem cL_51 {p : Program} {l : Launch} {e : Env} {s : State} {m : MethodId} {args : Array Value} {below : List Frame} {meth : Method} {c : Code} {H : Heap} {locs : List Loc} {cells slots : Nat} {Q : State → Prop} {ls : Array Slot} {D : va_G} {E : bE} {a : Nat} {v u : bM} {f : Nat → Int64} {b L : Nat} {xs : Nat → Int32} {i : Nat} {u' : bM} {r : UInt32} (X : bCx p s m args meth c RL cL_law 9 D E) (hB : uB D E a v u f b L xs s H locs) (hl : lv_has ls 9 [(4, .int (nI i)), (3, .ref (a + 876)), (2, .ref (a + 866)), (1, .ref a), (0, .ref b)]) (hf8 : fX8_burntShare v = some r) (hf9 : fX9_burntShare u = some (r, u')) (hn : vf_n64 (FP.f2d r)) (h0 : Op.cmpValue (FP.dcmp (FP.f2d r) (FP.f2d r)) .l = 0) (hc : cells + 20 ≤ 601024 ∧ slots + 3830 ≤ 7293034) (kk : ∀ (ls : Array Slot) (H : Heap) (locs : List Loc), lv_has ls 9 [(4, .int (nI i)), (3, .ref (a + 876)), (2, .ref (a + 866)), (1, .ref a), (0, .ref b)] → uB D E a v u' f b L xs s H locs → W p l e room_1 s m args below meth c H locs cells slots Q (F0 m 3148 ls [])) : W p l e room_1 s m args below meth c H locs cells slots Q (F0 m 2344 ls []) := by
  have hx := X.1
  have hb := X.2.1
  refine lv_aload_n hx hb dL_law_2344 rfl (lv_at hl 3 rfl) ?_
  refine u_goX hB (bk_runV X (Av := []) (rest := []) (mX8_burntShare n32_all hf8) yv_X8_burntShare wm_879 ⟨Nat.le_of_ble_eq_true rfl, Nat.le_of_ble_eq_true rfl⟩ rfl rfl hl.1 kl_X8.1 (hB.1.obj lcq_X_0) hB.1 hB.lenX hB.hX (Nat.le_of_ble_eq_true rfl) ⟨by show cells + 0 ≤ 601024; omega, by show slots + 0 ≤ 7293034; omega⟩ dL_law_2345) (fun H locs hB => ?_)
  refine W.eq (g2 := F0 m 2348 ls [.float r]) rfl ?_
  refine lv_f2d hx hb dL_law_2348 hn ?_
  refine lv_dstore (lv' := [(5, .double (FP.f2d r)), (4, .int (nI i)), (3, .ref (a + 876)), (2, .ref (a + 866)), (1, .ref a), (0, .ref b)]) hx hb dL_law_2349 hl (by decide) rfl (fun ls hl => ?_)
  refine lv_aload_n hx hb dL_law_2351 rfl (lv_at hl 3 rfl) ?_
  refine u_goM hB (bk_runV X (Av := []) (rest := []) (mX9_burntShare n32_all hf9) yv_X9_burntShare wm_2197 ⟨Nat.le_of_ble_eq_true rfl, Nat.le_of_ble_eq_true rfl⟩ rfl rfl hl.1 kl_X9.1 (hB.2.1.obj lc_Mo_0) hB.2.1 hB.lenM hB.hM (Nat.le_of_ble_eq_true rfl) ⟨by show cells + 0 + 0 ≤ 601024; omega, by show slots + 0 + 0 ≤ 7293034; omega⟩ dL_law_2352) (fun H locs hB => ?_)
  refine W.eq (g2 := F0 m 2355 ls [.float r]) rfl ?_
  refine lv_f2d hx hb dL_law_2355 hn ?_
  refine lv_dstore (lv' := [(7, .double (FP.f2d r)), (5, .double (FP.f2d r)), (4, .int (nI i)), (3, .ref (a + 876)), (2, .ref (a + 866)), (1, .ref a), (0, .ref b)]) hx hb dL_law_2356 hl (by decide) rfl (fun ls hl => ?_)
  refine lv_dload hx hb dL_law_2358 (lv_at hl 1 rfl) ?_
  refine lv_dload hx hb dL_law_2360 (lv_at hl 0 rfl) ?_
  refine lv_dcmp hx hb dL_law_2362 ?_
  rw [h0]
  refine lv_if_eq (tgt := 2384) hx hb dL_law_2363 (by decide) (fun _ => ?_) (fun h => absurd rfl h)
  refine lv_goto (tgt := 3148) hx hb dL_law_2384 (by decide) ?_
  exact kk ls H locs (lv_sub hl [2, 3, 4, 5, 6] rfl) hB
