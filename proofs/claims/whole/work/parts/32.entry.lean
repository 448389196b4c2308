/-! ===== the law from its entry to its loop ===== -/
theorem law_new {p : Program} {l : Launch} {e : Env} {s : State} {m : MethodId} {args : Array Value} {below : List Frame} {meth : Method} {c : Code} {Q : State → Prop} {D : va_G} {E : bE} {a : Nat} {b L : Nat} {xs : Nat → Int32} {v0 w0 u0 z0 : bM} {ls : Array Slot} (X : bCx p s m args meth c RL cL_law 9 D E) (h8 : v0 0 = 0 ∧ v0 1 = 1 ∧ v0 7087 = -1 ∧ v0 7089 = -1 ∧ ∀ x, x < 9983 → x ≠ 1 → x ≠ 7087 → x ≠ 7089 → v0 x = 0) (hf8 : fX8_init v0 = some w0) (h9 : u0 2 = -1 ∧ ∀ x, x < 7245 → x ≠ 2 → u0 x = 0) (hf9 : fX9_init u0 = some z0) (ha : s.heap.size = a) (hE : E.2 = a + 877) (hTx : bTx s E a s.heap) (hX : va_X b L xs s s.heap) (hbl : b < s.heap.size) (hl : lv_has ls 9 [(0, .ref b)])
    (kk : ∀ (ls : Array Slot) (H : Heap) (locs : List Loc) (f : Nat → Int64), lv_has ls 9 [(4, .int (nI 0)), (3, .ref (a + 876)), (2, .ref (a + 866)), (1, .ref a), (0, .ref b)] → uB D E a w0 z0 f b L xs s H locs → W p l e room_1 s m args below meth c H locs 877 18039 Q (F0 m 23 ls [])) : W p l e room_1 s m args below meth c s.heap [] 0 0 Q (F0 m 0 ls []) := by
  have hx := X.1
  have hb := X.2.1
  refine n_new X ha va_S.rf ha hTx (w9 := w0) (host := "PennyBakery") (nX8_init h8 hf8) nv_X8 kl_X8 f0_X8 (by rw [lenqX]; omega) rfl wm_32 (Or.inr wm_34) ⟨Nat.le_of_ble_eq_true rfl, Nat.le_of_ble_eq_true rfl⟩ hl.1 (Nat.le_of_ble_eq_true rfl) ⟨Nat.le_of_ble_eq_true rfl, Nat.le_of_ble_eq_true rfl⟩ dL_law_0 dL_law_3 dL_law_4 (fun H locs hBx hz ho hS => ?_)
  rw [lenqX] at hz
  refine lv_astore_n (lv' := [(1, .ref a), (0, .ref b)]) hx hb dL_law_7 rfl hl (by decide) rfl (fun ls hl => ?_)
  refine n_new X hz hS ha hTx (w9 := z0) (host := "PennyBakery") (nX9_init h9 hf9) nv_X9 kl_X9 f0_X9 (by rw [lenMo]; omega) rfl wm_1625 (Or.inr wm_1627) ⟨Nat.le_of_ble_eq_true rfl, Nat.le_of_ble_eq_true rfl⟩ hl.1 (Nat.le_of_ble_eq_true rfl) ⟨Nat.le_of_ble_eq_true rfl, Nat.le_of_ble_eq_true rfl⟩ dL_law_8 dL_law_11 dL_law_12 (fun H1 locs hBm hz1 ho1 hS => ?_)
  rw [lenMo] at hz1
  have hBx1 : Blk D E LX a w0 H1 := fun k d hd => bAt_kept (hBx k d hd) (fun hq => ho1 _ (by omega)) (fun q hq _ _ => ho1 q (by omega))
  refine lv_astore_n (lv' := [(2, .ref (a + 866)), (1, .ref a), (0, .ref b)]) hx hb dL_law_15 rfl hl (by decide) rfl (fun ls hl => ?_)
  refine lv_iconst (v := 1) hx hb dL_law_16 (by decide) ?_
  refine va_newaK hx hb (atype := .long) (X.2.2.2.2.1 _ wm_2264) rfl dL_law_17 rfl (by decide) (N := 1) (by decide) (by decide) (by decide) (by decide) (h := a + 876) (by omega) (fun H2 cA e2 z2 o2 _ hNm => ?_)
  have hcA : cA = E.1.1 5 := Option.some.inj (hNm.symm.trans (X.2.2.2.2.2.1.2.2.2.2.2.2.2 5 "[J" rfl))
  rw [hcA] at e2
  have hS2 : va_S (fun q => a ≤ q) s.heap H2 locs := ⟨by have := hS.1; omega, fun q q1 q2 => (o2 q (by omega)).trans (hS.2.1 q q1 q2), hS.2.2⟩
  have hU : uB D E a w0 z0 (fun _ => 0) b L xs s H2 locs := ⟨fun k d hd => bAt_kept (hBx1 k d hd) (fun hq => o2 _ (by omega)) (fun q hq _ _ => o2 q (by omega)), fun k d hd => bAt_kept (hBm k d hd) (fun hq => o2 _ (by omega)) (fun q hq _ _ => o2 q (by omega)), by
    show H2[a + 876]? = some (vp_cell (E.1.1 5) (1, .inr (.inl (fun _ => 0))))
    rw [e2, vp_cell_l]
    rfl, hS2, by omega, by omega, hTx, hX, hbl, ha⟩
  refine lv_astore_n (lv' := [(3, .ref (a + 876)), (2, .ref (a + 866)), (1, .ref a), (0, .ref b)]) hx hb dL_law_19 rfl hl (by decide) rfl (fun ls hl => ?_)
  refine lv_iconst (v := nI 0) hx hb dL_law_20 (by decide) ?_
  refine lv_istore (lv' := [(4, .int (nI 0)), (3, .ref (a + 876)), (2, .ref (a + 866)), (1, .ref a), (0, .ref b)]) hx hb dL_law_21 hl (by decide) rfl (fun ls hl => ?_)
  exact kk ls H2 locs _ hl hU
