/-! ===== the face's doubles and floats ===== -/
/-- the quotient of whole numbers is a number (proved where the library's laws of doubles are) -/
def bN64 : Prop := ∀ x y : Int32, ¬ y = 0 → vf_n64 (FP.ddiv (FP.i2d x) (FP.i2d y))
def bN32 : Prop := ∀ x y : Int32, ¬ y = 0 → vf_n32 (FP.fdiv (FP.i2f x) (FP.i2f y))
section DBL
variable {p : Program} {l : Launch} {e : Env} {R : Room} {s : State} {m : MethodId} {args : Array Value} {below : List Frame} {meth : Method} {c : Code} {H : Heap} {locs : List Loc} {cells slots : Nat} {Q : State → Prop}
variable {cc : ByteArray} {pc : Nat} {ls : Array Slot} {rest : List Value} {D : va_G} {E : bE} {own : String} {nL : Nat} {L : List bC} {a : Nat} {v : bM} {mc ms : Nat}
theorem bk_dret (X : bCx p s m args meth c own cc nL D E) {ret : Option FieldType} (hr : meth.sig.returnType = ret) (hret : ret = some .double) {x : UInt64} (hB : bB D E L a v s H locs) (hc : cells ≤ mc) (hs : slots ≤ ms) (hdg : decode cc pc = .ok (.dreturn, 1)) : W p l e R s m args below meth c H locs cells slots (bQ below D E L a v (some (.double x)) args s mc ms) (F0 m pc ls [.double x]) := by
  have hlocks := X.2.2.2.2.2.2
  unfold bQ
  refine W.widen hc hs ?_
  exact W.dret X.1 X.2.1 (hr.trans hret) (fun t ht _ => ⟨rfl, by rw [ht]; exact hB.1, hB.2.1.F ht⟩) hB.2.1.2.2 hdg
theorem bk_dR (X : bCx p s m args meth c own cc nL D E) {ret : Option FieldType} (hr : meth.sig.returnType = ret) (hret : ret = some .double) {x r0 : UInt64} (hf : (some x : Option UInt64) = some r0) (hB : bB D E L a v s H locs) (hc : cells ≤ mc) (hs : slots ≤ ms) (hdg : decode cc pc = .ok (.dreturn, 1)) : W p l e R s m args below meth c H locs cells slots (bQ below D E L a v (some (.double r0)) args s mc ms) (F0 m pc ls [.double x]) := by
  cases hf
  exact bk_dret X hr hret hB hc hs hdg
theorem bk_dW (X : bCx p s m args meth c own cc nL D E) {ret : Option FieldType} (hr : meth.sig.returnType = ret) (hret : ret = some .double) {x r0 : UInt64} {w0 : bM} (hf : (some (x, v) : Option (UInt64 × bM)) = some (r0, w0)) (hB : bB D E L a v s H locs) (hc : cells ≤ mc) (hs : slots ≤ ms) (hdg : decode cc pc = .ok (.dreturn, 1)) : W p l e R s m args below meth c H locs cells slots (bQ below D E L a w0 (some (.double r0)) args s mc ms) (F0 m pc ls [.double x]) := by
  cases hf
  exact bk_dret X hr hret hB hc hs hdg
theorem bk_fret (X : bCx p s m args meth c own cc nL D E) {ret : Option FieldType} (hr : meth.sig.returnType = ret) (hret : ret = some .float) {x : UInt32} (hB : bB D E L a v s H locs) (hc : cells ≤ mc) (hs : slots ≤ ms) (hdg : decode cc pc = .ok (.freturn, 1)) : W p l e R s m args below meth c H locs cells slots (bQ below D E L a v (some (.float x)) args s mc ms) (F0 m pc ls [.float x]) := by
  have hlocks := X.2.2.2.2.2.2
  unfold bQ
  refine W.widen hc hs ?_
  exact W.fret X.1 X.2.1 (hr.trans hret) (fun t ht _ => ⟨rfl, by rw [ht]; exact hB.1, hB.2.1.F ht⟩) hB.2.1.2.2 hdg
theorem bk_fR (X : bCx p s m args meth c own cc nL D E) {ret : Option FieldType} (hr : meth.sig.returnType = ret) (hret : ret = some .float) {x r0 : UInt32} (hf : (some x : Option UInt32) = some r0) (hB : bB D E L a v s H locs) (hc : cells ≤ mc) (hs : slots ≤ ms) (hdg : decode cc pc = .ok (.freturn, 1)) : W p l e R s m args below meth c H locs cells slots (bQ below D E L a v (some (.float r0)) args s mc ms) (F0 m pc ls [.float x]) := by
  cases hf
  exact bk_fret X hr hret hB hc hs hdg
theorem bk_fW (X : bCx p s m args meth c own cc nL D E) {ret : Option FieldType} (hr : meth.sig.returnType = ret) (hret : ret = some .float) {x r0 : UInt32} {w0 : bM} (hf : (some (x, v) : Option (UInt32 × bM)) = some (r0, w0)) (hB : bB D E L a v s H locs) (hc : cells ≤ mc) (hs : slots ≤ ms) (hdg : decode cc pc = .ok (.freturn, 1)) : W p l e R s m args below meth c H locs cells slots (bQ below D E L a w0 (some (.float r0)) args s mc ms) (F0 m pc ls [.float x]) := by
  cases hf
  exact bk_fret X hr hret hB hc hs hdg
end DBL
theorem dX8_meanLoss_0 : decode cX8_meanLoss 0 = .ok (.aload_n 0, 1) := by decide +kernel
theorem dX8_meanLoss_1 : decode cX8_meanLoss 1 = .ok (.getfield 10, 3) := by decide +kernel
theorem dX8_meanLoss_4 : decode cX8_meanLoss 4 = .ok (.getfield 93, 3) := by decide +kernel
theorem dX8_meanLoss_7 : decode cX8_meanLoss 7 = .ok (.getfield 97, 3) := by decide +kernel
theorem dX8_meanLoss_10 : decode cX8_meanLoss 10 = .ok (.istore_n 1, 1) := by decide +kernel
theorem dX8_meanLoss_11 : decode cX8_meanLoss 11 = .ok (.iload_n 1, 1) := by decide +kernel
theorem dX8_meanLoss_12 : decode cX8_meanLoss 12 = .ok (.ifCond .ne 7, 3) := by decide +kernel
theorem dX8_meanLoss_15 : decode cX8_meanLoss 15 = .ok (.dconst 0, 1) := by decide +kernel
theorem dX8_meanLoss_16 : decode cX8_meanLoss 16 = .ok (.goto 17, 3) := by decide +kernel
theorem dX8_meanLoss_19 : decode cX8_meanLoss 19 = .ok (.aload_n 0, 1) := by decide +kernel
theorem dX8_meanLoss_20 : decode cX8_meanLoss 20 = .ok (.getfield 10, 3) := by decide +kernel
theorem dX8_meanLoss_23 : decode cX8_meanLoss 23 = .ok (.getfield 93, 3) := by decide +kernel
theorem dX8_meanLoss_26 : decode cX8_meanLoss 26 = .ok (.invokevirtual 296, 3) := by decide +kernel
theorem dX8_meanLoss_29 : decode cX8_meanLoss 29 = .ok (.i2d, 1) := by decide +kernel
theorem dX8_meanLoss_30 : decode cX8_meanLoss 30 = .ok (.iload_n 1, 1) := by decide +kernel
theorem dX8_meanLoss_31 : decode cX8_meanLoss 31 = .ok (.i2d, 1) := by decide +kernel
theorem dX8_meanLoss_32 : decode cX8_meanLoss 32 = .ok (.ddiv, 1) := by decide +kernel
theorem dX8_meanLoss_33 : decode cX8_meanLoss 33 = .ok (.dreturn, 1) := by decide +kernel
def fX8_meanLoss  (v : bM) : Option UInt64 :=
  ck (v 0) 12 <| nm (v 0).toNatClampNeg fun i2 => nm (v (stO i2 + 277)) fun x3 => (if x3 = 0 then (some (FP.dconst0)) else (ck (v 0) 12 <| nm (v 0).toNatClampNeg fun i6 => bnr (fX0_sumOfLosses (vw v (stO i6 + 277))) fun r8 => cz x3 <| some (FP.ddiv (FP.i2d r8) (FP.i2d x3))))
set_option maxRecDepth 100000 in
set_option maxHeartbeats 4000000 in
theorem mX8_meanLoss {l : Launch} (hN : bN64)  {v : bM} {r0 : UInt64} (hf : fX8_meanLoss  v = some r0) : bMet l yX8_meanLoss cX8_meanLoss 2 (some .double) 2 0 0 LX (fun E a => [.ref a]) v v (fun _ => some (.double r0)) := by
  refine bk_start (by decide +kernel) wfX (fun _ _ => Nat.le_of_ble_eq_true rfl) ?_
  intro p e s m args below meth c D E a ls H locs X hr hl hB
  have hx := X.1
  have hb := X.2.1
  have hown := X.2.2.2.1
  have hts := X.2.2.2.2.1
  have hl : lv_has ls 2 [(0, .ref a)] := hl
  have hf := (fX8_meanLoss.eq_1  v).symm.trans hf
  refine lv_aload_n hx hb dX8_meanLoss_0 rfl (lv_at hl 0 rfl) ?_
  obtain ⟨h1, hf⟩ := ck_some hf
  refine bk_getS X hB kl_X8 0 lc_X_0 0 (by decide) rfl h1 wm_654 dX8_meanLoss_1 ?_
  obtain ⟨i2, ei2⟩ : ∃ y : Nat, y = (v 0).toNatClampNeg := ⟨_, rfl⟩
  have hf := nm_use hf ei2
  rw [← ei2]
  have hi2 : i2 < 12 := by rw [ei2]; exact vp_lt h1
  refine bk_getR X hB kl_X6 (stC i2 + 0) ((subX_St _ hi2).at lc_St_0) 9 (by decide) rfl wm_241 dX8_meanLoss_4 ?_
  refine bk_getI X hB kl_X0 (stC i2 + 37) ((subX_St _ hi2).at lc_St_37) 0 (by decide) rfl wm_171 dX8_meanLoss_7 ?_
  refine lv_topi (fun x3 ex3 => ?_)
  have hf := nm_use hf ex3
  refine lv_istore_n (lv' := [(1, .int x3), (0, .ref a)]) hx hb dX8_meanLoss_10 rfl hl (by decide) rfl (fun ls hl => ?_)
  refine lv_iload_n hx hb dX8_meanLoss_11 rfl (lv_at hl 0 rfl) ?_
  refine lv_if_ne (tgt := 19) hx hb dX8_meanLoss_12 (by decide) (fun c4 => ?_) (fun c4 => ?_)
  · have hf := (if_neg c4).symm.trans hf
    refine lv_aload_n hx hb dX8_meanLoss_19 rfl (lv_at hl 1 rfl) ?_
    obtain ⟨h5, hf⟩ := ck_some hf
    refine bk_getS X hB kl_X8 0 lc_X_0 0 (by decide) rfl h5 wm_654 dX8_meanLoss_20 ?_
    obtain ⟨i6, ei6⟩ : ∃ y : Nat, y = (v 0).toNatClampNeg := ⟨_, rfl⟩
    have hf := nm_use hf ei6
    rw [← ei6]
    have hi6 : i6 < 12 := by rw [ei6]; exact vp_lt h5
    refine bk_getR X hB kl_X6 (stC i6 + 0) ((subX_St _ hi6).at lc_St_0) 9 (by decide) rfl wm_241 dX8_meanLoss_23 ?_
    obtain ⟨r8, hc7, hf⟩ := bnr_some hf
    refine bk_subR (subX_St_37 _ hi6) hB (fun h1 h2 h3 => bk_runV X (Av := []) (rest := []) (mX0_sumOfLosses hc7) yv_X0_sumOfLosses wm_875 ⟨Nat.le_of_ble_eq_true rfl, Nat.le_of_ble_eq_true rfl⟩ rfl rfl hl.1 kl_X0.1 (hB.1.obj ((subX_St _ hi6).at lc_St_37)) h1 h2 h3 (Nat.le_of_ble_eq_true rfl) ⟨Nat.le_of_ble_eq_true rfl, Nat.le_of_ble_eq_true rfl⟩ dX8_meanLoss_26) (fun H locs hB => ?_)
    refine W.eq (g2 := F0 m 29 ls [.int r8]) rfl ?_
    refine lv_i2d hx hb dX8_meanLoss_29 ?_
    refine lv_iload_n hx hb dX8_meanLoss_30 rfl (lv_at hl 0 rfl) ?_
    refine lv_i2d hx hb dX8_meanLoss_31 ?_
    obtain ⟨h9, hf⟩ := cz_some hf
    refine lv_ddiv hx hb dX8_meanLoss_32 (hN _ _ h9) ?_
    exact bk_dR X hr rfl hf hB (Nat.le_of_ble_eq_true rfl) (Nat.le_of_ble_eq_true rfl) dX8_meanLoss_33
  · have hf := (if_pos c4).symm.trans hf
    refine lv_dconst0 hx hb dX8_meanLoss_15 ?_
    refine lv_goto (tgt := 33) hx hb dX8_meanLoss_16 (by decide) ?_
    exact bk_dR X hr rfl hf hB (Nat.le_of_ble_eq_true rfl) (Nat.le_of_ble_eq_true rfl) dX8_meanLoss_33
theorem yv_X8_meanLoss : bYv yX8_meanLoss RX8 cX8_meanLoss 2 (some .double) 0 := ⟨⟨rfl, by decide, by decide, rfl⟩, wm_872, wm_873, wm_1, wm_874⟩

theorem dX8_burntShare_0 : decode cX8_burntShare 0 = .ok (.aload_n 0, 1) := by decide +kernel
theorem dX8_burntShare_1 : decode cX8_burntShare 1 = .ok (.getfield 10, 3) := by decide +kernel
theorem dX8_burntShare_4 : decode cX8_burntShare 4 = .ok (.getfield 93, 3) := by decide +kernel
theorem dX8_burntShare_7 : decode cX8_burntShare 7 = .ok (.invokevirtual 299, 3) := by decide +kernel
theorem dX8_burntShare_10 : decode cX8_burntShare 10 = .ok (.istore_n 1, 1) := by decide +kernel
theorem dX8_burntShare_11 : decode cX8_burntShare 11 = .ok (.iload_n 1, 1) := by decide +kernel
theorem dX8_burntShare_12 : decode cX8_burntShare 12 = .ok (.ifCond .ne 7, 3) := by decide +kernel
theorem dX8_burntShare_15 : decode cX8_burntShare 15 = .ok (.fconst 0, 1) := by decide +kernel
theorem dX8_burntShare_16 : decode cX8_burntShare 16 = .ok (.goto 17, 3) := by decide +kernel
theorem dX8_burntShare_19 : decode cX8_burntShare 19 = .ok (.aload_n 0, 1) := by decide +kernel
theorem dX8_burntShare_20 : decode cX8_burntShare 20 = .ok (.getfield 10, 3) := by decide +kernel
theorem dX8_burntShare_23 : decode cX8_burntShare 23 = .ok (.getfield 93, 3) := by decide +kernel
theorem dX8_burntShare_26 : decode cX8_burntShare 26 = .ok (.invokevirtual 302, 3) := by decide +kernel
theorem dX8_burntShare_29 : decode cX8_burntShare 29 = .ok (.i2f, 1) := by decide +kernel
theorem dX8_burntShare_30 : decode cX8_burntShare 30 = .ok (.iload_n 1, 1) := by decide +kernel
theorem dX8_burntShare_31 : decode cX8_burntShare 31 = .ok (.i2f, 1) := by decide +kernel
theorem dX8_burntShare_32 : decode cX8_burntShare 32 = .ok (.fdiv, 1) := by decide +kernel
theorem dX8_burntShare_33 : decode cX8_burntShare 33 = .ok (.freturn, 1) := by decide +kernel
def fX8_burntShare  (v : bM) : Option UInt32 :=
  ck (v 0) 12 <| nm (v 0).toNatClampNeg fun i2 => bnr (fX0_sumOfPlanned (vw v (stO i2 + 277))) fun r4 => (if r4 = 0 then (some (FP.fconst0)) else (ck (v 0) 12 <| nm (v 0).toNatClampNeg fun i7 => bnr (fX0_sumOfBurnt (vw v (stO i7 + 277))) fun r9 => cz r4 <| some (FP.fdiv (FP.i2f r9) (FP.i2f r4))))
set_option maxRecDepth 100000 in
set_option maxHeartbeats 4000000 in
theorem mX8_burntShare {l : Launch} (hN : bN32)  {v : bM} {r0 : UInt32} (hf : fX8_burntShare  v = some r0) : bMet l yX8_burntShare cX8_burntShare 2 (some .float) 2 0 0 LX (fun E a => [.ref a]) v v (fun _ => some (.float r0)) := by
  refine bk_start (by decide +kernel) wfX (fun _ _ => Nat.le_of_ble_eq_true rfl) ?_
  intro p e s m args below meth c D E a ls H locs X hr hl hB
  have hx := X.1
  have hb := X.2.1
  have hown := X.2.2.2.1
  have hts := X.2.2.2.2.1
  have hl : lv_has ls 2 [(0, .ref a)] := hl
  have hf := (fX8_burntShare.eq_1  v).symm.trans hf
  refine lv_aload_n hx hb dX8_burntShare_0 rfl (lv_at hl 0 rfl) ?_
  obtain ⟨h1, hf⟩ := ck_some hf
  refine bk_getS X hB kl_X8 0 lc_X_0 0 (by decide) rfl h1 wm_654 dX8_burntShare_1 ?_
  obtain ⟨i2, ei2⟩ : ∃ y : Nat, y = (v 0).toNatClampNeg := ⟨_, rfl⟩
  have hf := nm_use hf ei2
  rw [← ei2]
  have hi2 : i2 < 12 := by rw [ei2]; exact vp_lt h1
  refine bk_getR X hB kl_X6 (stC i2 + 0) ((subX_St _ hi2).at lc_St_0) 9 (by decide) rfl wm_241 dX8_burntShare_4 ?_
  obtain ⟨r4, hc3, hf⟩ := bnr_some hf
  refine bk_subR (subX_St_37 _ hi2) hB (fun h1 h2 h3 => bk_runV X (Av := []) (rest := []) (mX0_sumOfPlanned hc3) yv_X0_sumOfPlanned wm_883 ⟨Nat.le_of_ble_eq_true rfl, Nat.le_of_ble_eq_true rfl⟩ rfl rfl hl.1 kl_X0.1 (hB.1.obj ((subX_St _ hi2).at lc_St_37)) h1 h2 h3 (Nat.le_of_ble_eq_true rfl) ⟨Nat.le_of_ble_eq_true rfl, Nat.le_of_ble_eq_true rfl⟩ dX8_burntShare_7) (fun H locs hB => ?_)
  refine W.eq (g2 := F0 m 10 ls [.int r4]) rfl ?_
  refine lv_istore_n (lv' := [(1, .int r4), (0, .ref a)]) hx hb dX8_burntShare_10 rfl hl (by decide) rfl (fun ls hl => ?_)
  refine lv_iload_n hx hb dX8_burntShare_11 rfl (lv_at hl 0 rfl) ?_
  refine lv_if_ne (tgt := 19) hx hb dX8_burntShare_12 (by decide) (fun c5 => ?_) (fun c5 => ?_)
  · have hf := (if_neg c5).symm.trans hf
    refine lv_aload_n hx hb dX8_burntShare_19 rfl (lv_at hl 1 rfl) ?_
    obtain ⟨h6, hf⟩ := ck_some hf
    refine bk_getS X hB kl_X8 0 lc_X_0 0 (by decide) rfl h6 wm_654 dX8_burntShare_20 ?_
    obtain ⟨i7, ei7⟩ : ∃ y : Nat, y = (v 0).toNatClampNeg := ⟨_, rfl⟩
    have hf := nm_use hf ei7
    rw [← ei7]
    have hi7 : i7 < 12 := by rw [ei7]; exact vp_lt h6
    refine bk_getR X hB kl_X6 (stC i7 + 0) ((subX_St _ hi7).at lc_St_0) 9 (by decide) rfl wm_241 dX8_burntShare_23 ?_
    obtain ⟨r9, hc8, hf⟩ := bnr_some hf
    refine bk_subR (subX_St_37 _ hi7) hB (fun h1 h2 h3 => bk_runV X (Av := []) (rest := []) (mX0_sumOfBurnt hc8) yv_X0_sumOfBurnt wm_887 ⟨Nat.le_of_ble_eq_true rfl, Nat.le_of_ble_eq_true rfl⟩ rfl rfl hl.1 kl_X0.1 (hB.1.obj ((subX_St _ hi7).at lc_St_37)) h1 h2 h3 (Nat.le_of_ble_eq_true rfl) ⟨Nat.le_of_ble_eq_true rfl, Nat.le_of_ble_eq_true rfl⟩ dX8_burntShare_26) (fun H locs hB => ?_)
    refine W.eq (g2 := F0 m 29 ls [.int r9]) rfl ?_
    refine lv_i2f hx hb dX8_burntShare_29 ?_
    refine lv_iload_n hx hb dX8_burntShare_30 rfl (lv_at hl 0 rfl) ?_
    refine lv_i2f hx hb dX8_burntShare_31 ?_
    obtain ⟨h10, hf⟩ := cz_some hf
    refine lv_fdiv hx hb dX8_burntShare_32 (hN _ _ h10) ?_
    exact bk_fR X hr rfl hf hB (Nat.le_of_ble_eq_true rfl) (Nat.le_of_ble_eq_true rfl) dX8_burntShare_33
  · have hf := (if_pos c5).symm.trans hf
    refine lv_fconst0 hx hb dX8_burntShare_15 ?_
    refine lv_goto (tgt := 33) hx hb dX8_burntShare_16 (by decide) ?_
    exact bk_fR X hr rfl hf hB (Nat.le_of_ble_eq_true rfl) (Nat.le_of_ble_eq_true rfl) dX8_burntShare_33
theorem yv_X8_burntShare : bYv yX8_burntShare RX8 cX8_burntShare 2 (some .float) 0 := ⟨⟨rfl, by decide, by decide, rfl⟩, wm_880, wm_881, wm_1, wm_882⟩

theorem dX9_meanLoss_0 : decode cX9_meanLoss 0 = .ok (.aload_n 0, 1) := by decide +kernel
theorem dX9_meanLoss_1 : decode cX9_meanLoss 1 = .ok (.iconst 0, 1) := by decide +kernel
theorem dX9_meanLoss_2 : decode cX9_meanLoss 2 = .ok (.putfield 60, 3) := by decide +kernel
theorem dX9_meanLoss_5 : decode cX9_meanLoss 5 = .ok (.iconst 0, 1) := by decide +kernel
theorem dX9_meanLoss_6 : decode cX9_meanLoss 6 = .ok (.istore_n 1, 1) := by decide +kernel
theorem dX9_meanLoss_7 : decode cX9_meanLoss 7 = .ok (.iconst 0, 1) := by decide +kernel
theorem dX9_meanLoss_8 : decode cX9_meanLoss 8 = .ok (.istore_n 2, 1) := by decide +kernel
theorem dX9_meanLoss_9 : decode cX9_meanLoss 9 = .ok (.iload_n 2, 1) := by decide +kernel
theorem dX9_meanLoss_10 : decode cX9_meanLoss 10 = .ok (.aload_n 0, 1) := by decide +kernel
theorem dX9_meanLoss_11 : decode cX9_meanLoss 11 = .ok (.getfield 17, 3) := by decide +kernel
theorem dX9_meanLoss_14 : decode cX9_meanLoss 14 = .ok (.bipush 7, 2) := by decide +kernel
theorem dX9_meanLoss_16 : decode cX9_meanLoss 16 = .ok (.iaload, 1) := by decide +kernel
theorem dX9_meanLoss_17 : decode cX9_meanLoss 17 = .ok (.if_icmp .ge 17, 3) := by decide +kernel
theorem dX9_meanLoss_20 : decode cX9_meanLoss 20 = .ok (.iload_n 1, 1) := by decide +kernel
theorem dX9_meanLoss_21 : decode cX9_meanLoss 21 = .ok (.aload_n 0, 1) := by decide +kernel
theorem dX9_meanLoss_22 : decode cX9_meanLoss 22 = .ok (.iload_n 2, 1) := by decide +kernel
theorem dX9_meanLoss_23 : decode cX9_meanLoss 23 = .ok (.invokevirtual 313, 3) := by decide +kernel
theorem dX9_meanLoss_26 : decode cX9_meanLoss 26 = .ok (.iadd, 1) := by decide +kernel
theorem dX9_meanLoss_27 : decode cX9_meanLoss 27 = .ok (.istore_n 1, 1) := by decide +kernel
theorem dX9_meanLoss_28 : decode cX9_meanLoss 28 = .ok (.iinc 2 1, 3) := by decide +kernel
theorem dX9_meanLoss_31 : decode cX9_meanLoss 31 = .ok (.goto (-22), 3) := by decide +kernel
theorem dX9_meanLoss_34 : decode cX9_meanLoss 34 = .ok (.aload_n 0, 1) := by decide +kernel
theorem dX9_meanLoss_35 : decode cX9_meanLoss 35 = .ok (.getfield 17, 3) := by decide +kernel
theorem dX9_meanLoss_38 : decode cX9_meanLoss 38 = .ok (.bipush 7, 2) := by decide +kernel
theorem dX9_meanLoss_40 : decode cX9_meanLoss 40 = .ok (.iaload, 1) := by decide +kernel
theorem dX9_meanLoss_41 : decode cX9_meanLoss 41 = .ok (.ifCond .ne 7, 3) := by decide +kernel
theorem dX9_meanLoss_44 : decode cX9_meanLoss 44 = .ok (.dconst 0, 1) := by decide +kernel
theorem dX9_meanLoss_45 : decode cX9_meanLoss 45 = .ok (.goto 14, 3) := by decide +kernel
theorem dX9_meanLoss_48 : decode cX9_meanLoss 48 = .ok (.iload_n 1, 1) := by decide +kernel
theorem dX9_meanLoss_49 : decode cX9_meanLoss 49 = .ok (.i2d, 1) := by decide +kernel
theorem dX9_meanLoss_50 : decode cX9_meanLoss 50 = .ok (.aload_n 0, 1) := by decide +kernel
theorem dX9_meanLoss_51 : decode cX9_meanLoss 51 = .ok (.getfield 17, 3) := by decide +kernel
theorem dX9_meanLoss_54 : decode cX9_meanLoss 54 = .ok (.bipush 7, 2) := by decide +kernel
theorem dX9_meanLoss_56 : decode cX9_meanLoss 56 = .ok (.iaload, 1) := by decide +kernel
theorem dX9_meanLoss_57 : decode cX9_meanLoss 57 = .ok (.i2d, 1) := by decide +kernel
theorem dX9_meanLoss_58 : decode cX9_meanLoss 58 = .ok (.ddiv, 1) := by decide +kernel
theorem dX9_meanLoss_59 : decode cX9_meanLoss 59 = .ok (.dreturn, 1) := by decide +kernel
def fX9_meanLoss_L9  (k9 : Int32 → Int32 → bM → Option (UInt64 × bM)) (y2 : Int32) (y3 : Int32) (v4 : bM) : Option (UInt64 × bM) :=
  (if (v4 (710 + (7 : Int32).toNatClampNeg)) ≤ y3 then ((if (v4 (710 + (7 : Int32).toNatClampNeg)) = 0 then (some (FP.dconst0, v4)) else (nm (v4 (710 + (7 : Int32).toNatClampNeg)) fun x7 => cz x7 <| some (FP.ddiv (FP.i2d y2) (FP.i2d x7), v4)))) else (bnr (fX9_loss y3 v4) fun r10 => nm (y2 + r10) fun x11 => nm (y3 + 1) fun x12 => k9 x11 x12 v4))
def fX9_meanLoss  (v : bM) : Option (UInt64 × bM) :=
  nm (upd v 3 0) fun v1 => lp (fX9_meanLoss_L9) (fun _ _ _ => none) lpN 0 0 v1
set_option maxRecDepth 100000 in
set_option maxHeartbeats 4000000 in
theorem mX9_meanLoss {l : Launch} (hN : bN64)  {v : bM} {r0 : UInt64} {w0 : bM} (hf : fX9_meanLoss  v = some (r0, w0)) : bMet l yX9_meanLoss cX9_meanLoss 3 (some .double) 4 0 0 LMo (fun E a => [.ref a]) v w0 (fun _ => some (.double r0)) := by
  refine bk_start (by decide +kernel) wfMo (fun _ _ => Nat.le_of_ble_eq_true rfl) ?_
  intro p e s m args below meth c D E a ls H locs X hr hl hB
  have hx := X.1
  have hb := X.2.1
  have hown := X.2.2.2.1
  have hts := X.2.2.2.2.1
  have hl : lv_has ls 3 [(0, .ref a)] := hl
  have hf := (fX9_meanLoss.eq_1  v).symm.trans hf
  refine lv_aload_n hx hb dX9_meanLoss_0 rfl (lv_at hl 0 rfl) ?_
  refine lv_iconst (v := 0) hx hb dX9_meanLoss_1 (by decide) ?_
  refine bk_putI X hB kl_X9 0 lc_Mo_0 4 (by decide) rfl rfl rfl wm_1867 dX9_meanLoss_2 rfl (fun H locs hB => ?_)
  obtain ⟨v1, ev1⟩ : ∃ y : bM, y = upd v 3 0 := ⟨_, rfl⟩
  have hf := nm_use hf ev1
  rw [← ev1] at hB
  refine lv_iconst (v := 0) hx hb dX9_meanLoss_5 (by decide) ?_
  refine lv_istore_n (lv' := [(1, .int 0), (0, .ref a)]) hx hb dX9_meanLoss_6 rfl hl (by decide) rfl (fun ls hl => ?_)
  refine lv_iconst (v := 0) hx hb dX9_meanLoss_7 (by decide) ?_
  refine lv_istore_n (lv' := [(2, .int 0), (1, .int 0), (0, .ref a)]) hx hb dX9_meanLoss_8 rfl hl (by decide) rfl (fun ls hl => ?_)
  have hL9 : ∀ (n9 : Nat) (y2 y3 : Int32) (v4 : bM) (H : Heap) (locs : List Loc) (ls : Array Slot), lp (fX9_meanLoss_L9) (fun _ _ _ => none) n9 y2 y3 v4 = some (r0, w0) → bB D E LMo a v4 s H locs → lv_has ls 3 [(0, .ref a), (1, .int y2), (2, .int y3)] → W p l e (rmOf 4 0 0) s m args below meth c H locs 0 0 (bQ below D E LMo a w0 (some (.double r0)) args s 0 0) (F0 m 9 ls []) := by
    intro n9
    induction n9 with
    | zero => intro y2 y3 v4 H locs ls hf; cases (show (none : Option (UInt64 × bM)) = some (r0, w0) from hf)
    | succ n9 ih9 =>
      intro y2 y3 v4 H locs ls hf hB hl
      have hf := (fX9_meanLoss_L9.eq_1  (lp (fX9_meanLoss_L9) (fun _ _ _ => none) n9) y2 y3 v4).symm.trans (show fX9_meanLoss_L9 (lp (fX9_meanLoss_L9) (fun _ _ _ => none) n9) y2 y3 v4 = some (r0, w0) from hf)
      refine lv_iload_n hx hb dX9_meanLoss_9 rfl (lv_at hl 2 rfl) ?_
      refine lv_aload_n hx hb dX9_meanLoss_10 rfl (lv_at hl 0 rfl) ?_
      refine bk_getR X hB kl_X9 0 lc_Mo_0 5 (by decide) rfl wm_1868 dX9_meanLoss_11 ?_
      refine lv_bipush (v := 7) hx hb dX9_meanLoss_14 (by decide) ?_
      refine bk_ald X hB 2 lc_Mo_2 (vp_c 7 496 rfl) dX9_meanLoss_16 ?_
      refine lv_icmp_ge (tgt := 34) hx hb dX9_meanLoss_17 (by decide) (fun c5 => ?_) (fun c5 => ?_)
      · have hf := (if_pos c5).symm.trans hf
        refine lv_aload_n hx hb dX9_meanLoss_34 rfl (lv_at hl 0 rfl) ?_
        refine bk_getR X hB kl_X9 0 lc_Mo_0 5 (by decide) rfl wm_1868 dX9_meanLoss_35 ?_
        refine lv_bipush (v := 7) hx hb dX9_meanLoss_38 (by decide) ?_
        refine bk_ald X hB 2 lc_Mo_2 (vp_c 7 496 rfl) dX9_meanLoss_40 ?_
        refine lv_if_ne (tgt := 48) hx hb dX9_meanLoss_41 (by decide) (fun c6 => ?_) (fun c6 => ?_)
        · have hf := (if_neg c6).symm.trans hf
          refine lv_iload_n hx hb dX9_meanLoss_48 rfl (lv_at hl 1 rfl) ?_
          refine lv_i2d hx hb dX9_meanLoss_49 ?_
          refine lv_aload_n hx hb dX9_meanLoss_50 rfl (lv_at hl 0 rfl) ?_
          refine bk_getR X hB kl_X9 0 lc_Mo_0 5 (by decide) rfl wm_1868 dX9_meanLoss_51 ?_
          refine lv_bipush (v := 7) hx hb dX9_meanLoss_54 (by decide) ?_
          refine bk_ald X hB 2 lc_Mo_2 (vp_c 7 496 rfl) dX9_meanLoss_56 ?_
          refine lv_topi (fun x7 ex7 => ?_)
          have hf := nm_use hf ex7
          refine lv_i2d hx hb dX9_meanLoss_57 ?_
          obtain ⟨h8, hf⟩ := cz_some hf
          refine lv_ddiv hx hb dX9_meanLoss_58 (hN _ _ h8) ?_
          exact bk_dW X hr rfl hf hB (Nat.le_of_ble_eq_true rfl) (Nat.le_of_ble_eq_true rfl) dX9_meanLoss_59
        · have hf := (if_pos c6).symm.trans hf
          refine lv_dconst0 hx hb dX9_meanLoss_44 ?_
          refine lv_goto (tgt := 59) hx hb dX9_meanLoss_45 (by decide) ?_
          exact bk_dW X hr rfl hf hB (Nat.le_of_ble_eq_true rfl) (Nat.le_of_ble_eq_true rfl) dX9_meanLoss_59
      · have hf := (if_neg c5).symm.trans hf
        refine lv_iload_n hx hb dX9_meanLoss_20 rfl (lv_at hl 1 rfl) ?_
        refine lv_aload_n hx hb dX9_meanLoss_21 rfl (lv_at hl 0 rfl) ?_
        refine lv_iload_n hx hb dX9_meanLoss_22 rfl (lv_at hl 2 rfl) ?_
        obtain ⟨r10, hc9, hf⟩ := bnr_some hf
        refine bk_all hB (fun h1 h2 h3 => bk_runV X (Av := [.int y3]) (rest := [.int y2]) (mX9_loss hc9) yv_X9_loss wm_2085 ⟨Nat.le_of_ble_eq_true rfl, Nat.le_of_ble_eq_true rfl⟩ rfl rfl hl.1 kl_X9.1 (hB.1.obj lc_Mo_0) h1 h2 h3 (Nat.le_of_ble_eq_true rfl) ⟨Nat.le_of_ble_eq_true rfl, Nat.le_of_ble_eq_true rfl⟩ dX9_meanLoss_23) (fun H locs hB => ?_)
        refine W.eq (g2 := F0 m 26 ls [.int r10, .int y2]) rfl ?_
        refine lv_iadd hx hb dX9_meanLoss_26 ?_
        refine lv_topi (fun x11 ex11 => ?_)
        have hf := nm_use hf ex11
        refine lv_istore_n (lv' := [(1, .int x11), (0, .ref a), (2, .int y3)]) hx hb dX9_meanLoss_27 rfl hl (by decide) rfl (fun ls hl => ?_)
        obtain ⟨x12, ex12⟩ : ∃ y : Int32, y = y3 + 1 := ⟨_, rfl⟩
        have hf := nm_use hf ex12
        refine lv_iinc (v := x12) (lv' := [(2, .int x12), (1, .int x11), (0, .ref a)]) hx hb dX9_meanLoss_28 hl (k := 2) rfl (by rw [ex12]; rfl) (by decide) rfl (fun ls hl => ?_)
        refine lv_goto (tgt := 9) hx hb dX9_meanLoss_31 (by decide) ?_
        exact ih9 x11 x12 v4 H locs ls hf hB (lv_sub hl [2, 1, 0] rfl)
  exact hL9 lpN 0 0 v1 H locs ls hf hB (lv_sub hl [2, 1, 0] rfl)
theorem yv_X9_meanLoss : bYv yX9_meanLoss RX9 cX9_meanLoss 3 (some .double) 0 := ⟨⟨rfl, by decide, by decide, rfl⟩, wm_2194, wm_2195, wm_17, wm_2196⟩

theorem dX9_burntShare_0 : decode cX9_burntShare 0 = .ok (.aload_n 0, 1) := by decide +kernel
theorem dX9_burntShare_1 : decode cX9_burntShare 1 = .ok (.iconst 0, 1) := by decide +kernel
theorem dX9_burntShare_2 : decode cX9_burntShare 2 = .ok (.putfield 60, 3) := by decide +kernel
theorem dX9_burntShare_5 : decode cX9_burntShare 5 = .ok (.iconst 0, 1) := by decide +kernel
theorem dX9_burntShare_6 : decode cX9_burntShare 6 = .ok (.istore_n 1, 1) := by decide +kernel
theorem dX9_burntShare_7 : decode cX9_burntShare 7 = .ok (.iconst 0, 1) := by decide +kernel
theorem dX9_burntShare_8 : decode cX9_burntShare 8 = .ok (.istore_n 2, 1) := by decide +kernel
theorem dX9_burntShare_9 : decode cX9_burntShare 9 = .ok (.iconst 0, 1) := by decide +kernel
theorem dX9_burntShare_10 : decode cX9_burntShare 10 = .ok (.istore_n 3, 1) := by decide +kernel
theorem dX9_burntShare_11 : decode cX9_burntShare 11 = .ok (.iload_n 3, 1) := by decide +kernel
theorem dX9_burntShare_12 : decode cX9_burntShare 12 = .ok (.aload_n 0, 1) := by decide +kernel
theorem dX9_burntShare_13 : decode cX9_burntShare 13 = .ok (.getfield 17, 3) := by decide +kernel
theorem dX9_burntShare_16 : decode cX9_burntShare 16 = .ok (.bipush 7, 2) := by decide +kernel
theorem dX9_burntShare_18 : decode cX9_burntShare 18 = .ok (.iaload, 1) := by decide +kernel
theorem dX9_burntShare_19 : decode cX9_burntShare 19 = .ok (.if_icmp .ge 27, 3) := by decide +kernel
theorem dX9_burntShare_22 : decode cX9_burntShare 22 = .ok (.iload_n 1, 1) := by decide +kernel
theorem dX9_burntShare_23 : decode cX9_burntShare 23 = .ok (.aload_n 0, 1) := by decide +kernel
theorem dX9_burntShare_24 : decode cX9_burntShare 24 = .ok (.iload_n 3, 1) := by decide +kernel
theorem dX9_burntShare_25 : decode cX9_burntShare 25 = .ok (.iconst 2, 1) := by decide +kernel
theorem dX9_burntShare_26 : decode cX9_burntShare 26 = .ok (.invokevirtual 101, 3) := by decide +kernel
theorem dX9_burntShare_29 : decode cX9_burntShare 29 = .ok (.iadd, 1) := by decide +kernel
theorem dX9_burntShare_30 : decode cX9_burntShare 30 = .ok (.istore_n 1, 1) := by decide +kernel
theorem dX9_burntShare_31 : decode cX9_burntShare 31 = .ok (.iload_n 2, 1) := by decide +kernel
theorem dX9_burntShare_32 : decode cX9_burntShare 32 = .ok (.aload_n 0, 1) := by decide +kernel
theorem dX9_burntShare_33 : decode cX9_burntShare 33 = .ok (.iload_n 3, 1) := by decide +kernel
theorem dX9_burntShare_34 : decode cX9_burntShare 34 = .ok (.iconst 1, 1) := by decide +kernel
theorem dX9_burntShare_35 : decode cX9_burntShare 35 = .ok (.invokevirtual 101, 3) := by decide +kernel
theorem dX9_burntShare_38 : decode cX9_burntShare 38 = .ok (.iadd, 1) := by decide +kernel
theorem dX9_burntShare_39 : decode cX9_burntShare 39 = .ok (.istore_n 2, 1) := by decide +kernel
theorem dX9_burntShare_40 : decode cX9_burntShare 40 = .ok (.iinc 3 1, 3) := by decide +kernel
theorem dX9_burntShare_43 : decode cX9_burntShare 43 = .ok (.goto (-32), 3) := by decide +kernel
theorem dX9_burntShare_46 : decode cX9_burntShare 46 = .ok (.iload_n 2, 1) := by decide +kernel
theorem dX9_burntShare_47 : decode cX9_burntShare 47 = .ok (.ifCond .ne 7, 3) := by decide +kernel
theorem dX9_burntShare_50 : decode cX9_burntShare 50 = .ok (.fconst 0, 1) := by decide +kernel
theorem dX9_burntShare_51 : decode cX9_burntShare 51 = .ok (.goto 8, 3) := by decide +kernel
theorem dX9_burntShare_54 : decode cX9_burntShare 54 = .ok (.iload_n 1, 1) := by decide +kernel
theorem dX9_burntShare_55 : decode cX9_burntShare 55 = .ok (.i2f, 1) := by decide +kernel
theorem dX9_burntShare_56 : decode cX9_burntShare 56 = .ok (.iload_n 2, 1) := by decide +kernel
theorem dX9_burntShare_57 : decode cX9_burntShare 57 = .ok (.i2f, 1) := by decide +kernel
theorem dX9_burntShare_58 : decode cX9_burntShare 58 = .ok (.fdiv, 1) := by decide +kernel
theorem dX9_burntShare_59 : decode cX9_burntShare 59 = .ok (.freturn, 1) := by decide +kernel
def fX9_burntShare_L11  (k11 : Int32 → Int32 → Int32 → bM → Option (UInt32 × bM)) (y2 : Int32) (y3 : Int32) (y4 : Int32) (v5 : bM) : Option (UInt32 × bM) :=
  (if (v5 (710 + (7 : Int32).toNatClampNeg)) ≤ y4 then ((if y3 = 0 then (some (FP.fconst0, v5)) else (cz y3 <| some (FP.fdiv (FP.i2f y2) (FP.i2f y3), v5)))) else (bnr (fX9_batch y4 2 v5) fun r10 => nm (y2 + r10) fun x11 => bnr (fX9_batch y4 1 v5) fun r13 => nm (y3 + r13) fun x14 => nm (y4 + 1) fun x15 => k11 x11 x14 x15 v5))
def fX9_burntShare  (v : bM) : Option (UInt32 × bM) :=
  nm (upd v 3 0) fun v1 => lp (fX9_burntShare_L11) (fun _ _ _ _ => none) lpN 0 0 0 v1
set_option maxRecDepth 100000 in
set_option maxHeartbeats 4000000 in
theorem mX9_burntShare {l : Launch} (hN : bN32)  {v : bM} {r0 : UInt32} {w0 : bM} (hf : fX9_burntShare  v = some (r0, w0)) : bMet l yX9_burntShare cX9_burntShare 4 (some .float) 1 0 0 LMo (fun E a => [.ref a]) v w0 (fun _ => some (.float r0)) := by
  refine bk_start (by decide +kernel) wfMo (fun _ _ => Nat.le_of_ble_eq_true rfl) ?_
  intro p e s m args below meth c D E a ls H locs X hr hl hB
  have hx := X.1
  have hb := X.2.1
  have hown := X.2.2.2.1
  have hts := X.2.2.2.2.1
  have hl : lv_has ls 4 [(0, .ref a)] := hl
  have hf := (fX9_burntShare.eq_1  v).symm.trans hf
  refine lv_aload_n hx hb dX9_burntShare_0 rfl (lv_at hl 0 rfl) ?_
  refine lv_iconst (v := 0) hx hb dX9_burntShare_1 (by decide) ?_
  refine bk_putI X hB kl_X9 0 lc_Mo_0 4 (by decide) rfl rfl rfl wm_1867 dX9_burntShare_2 rfl (fun H locs hB => ?_)
  obtain ⟨v1, ev1⟩ : ∃ y : bM, y = upd v 3 0 := ⟨_, rfl⟩
  have hf := nm_use hf ev1
  rw [← ev1] at hB
  refine lv_iconst (v := 0) hx hb dX9_burntShare_5 (by decide) ?_
  refine lv_istore_n (lv' := [(1, .int 0), (0, .ref a)]) hx hb dX9_burntShare_6 rfl hl (by decide) rfl (fun ls hl => ?_)
  refine lv_iconst (v := 0) hx hb dX9_burntShare_7 (by decide) ?_
  refine lv_istore_n (lv' := [(2, .int 0), (1, .int 0), (0, .ref a)]) hx hb dX9_burntShare_8 rfl hl (by decide) rfl (fun ls hl => ?_)
  refine lv_iconst (v := 0) hx hb dX9_burntShare_9 (by decide) ?_
  refine lv_istore_n (lv' := [(3, .int 0), (2, .int 0), (1, .int 0), (0, .ref a)]) hx hb dX9_burntShare_10 rfl hl (by decide) rfl (fun ls hl => ?_)
  have hL11 : ∀ (n11 : Nat) (y2 y3 y4 : Int32) (v5 : bM) (H : Heap) (locs : List Loc) (ls : Array Slot), lp (fX9_burntShare_L11) (fun _ _ _ _ => none) n11 y2 y3 y4 v5 = some (r0, w0) → bB D E LMo a v5 s H locs → lv_has ls 4 [(0, .ref a), (1, .int y2), (2, .int y3), (3, .int y4)] → W p l e (rmOf 1 0 0) s m args below meth c H locs 0 0 (bQ below D E LMo a w0 (some (.float r0)) args s 0 0) (F0 m 11 ls []) := by
    intro n11
    induction n11 with
    | zero => intro y2 y3 y4 v5 H locs ls hf; cases (show (none : Option (UInt32 × bM)) = some (r0, w0) from hf)
    | succ n11 ih11 =>
      intro y2 y3 y4 v5 H locs ls hf hB hl
      have hf := (fX9_burntShare_L11.eq_1  (lp (fX9_burntShare_L11) (fun _ _ _ _ => none) n11) y2 y3 y4 v5).symm.trans (show fX9_burntShare_L11 (lp (fX9_burntShare_L11) (fun _ _ _ _ => none) n11) y2 y3 y4 v5 = some (r0, w0) from hf)
      refine lv_iload_n hx hb dX9_burntShare_11 rfl (lv_at hl 3 rfl) ?_
      refine lv_aload_n hx hb dX9_burntShare_12 rfl (lv_at hl 0 rfl) ?_
      refine bk_getR X hB kl_X9 0 lc_Mo_0 5 (by decide) rfl wm_1868 dX9_burntShare_13 ?_
      refine lv_bipush (v := 7) hx hb dX9_burntShare_16 (by decide) ?_
      refine bk_ald X hB 2 lc_Mo_2 (vp_c 7 496 rfl) dX9_burntShare_18 ?_
      refine lv_icmp_ge (tgt := 46) hx hb dX9_burntShare_19 (by decide) (fun c6 => ?_) (fun c6 => ?_)
      · have hf := (if_pos c6).symm.trans hf
        refine lv_iload_n hx hb dX9_burntShare_46 rfl (lv_at hl 2 rfl) ?_
        refine lv_if_ne (tgt := 54) hx hb dX9_burntShare_47 (by decide) (fun c7 => ?_) (fun c7 => ?_)
        · have hf := (if_neg c7).symm.trans hf
          refine lv_iload_n hx hb dX9_burntShare_54 rfl (lv_at hl 1 rfl) ?_
          refine lv_i2f hx hb dX9_burntShare_55 ?_
          refine lv_iload_n hx hb dX9_burntShare_56 rfl (lv_at hl 2 rfl) ?_
          refine lv_i2f hx hb dX9_burntShare_57 ?_
          obtain ⟨h8, hf⟩ := cz_some hf
          refine lv_fdiv hx hb dX9_burntShare_58 (hN _ _ h8) ?_
          exact bk_fW X hr rfl hf hB (Nat.le_of_ble_eq_true rfl) (Nat.le_of_ble_eq_true rfl) dX9_burntShare_59
        · have hf := (if_pos c7).symm.trans hf
          refine lv_fconst0 hx hb dX9_burntShare_50 ?_
          refine lv_goto (tgt := 59) hx hb dX9_burntShare_51 (by decide) ?_
          exact bk_fW X hr rfl hf hB (Nat.le_of_ble_eq_true rfl) (Nat.le_of_ble_eq_true rfl) dX9_burntShare_59
      · have hf := (if_neg c6).symm.trans hf
        refine lv_iload_n hx hb dX9_burntShare_22 rfl (lv_at hl 1 rfl) ?_
        refine lv_aload_n hx hb dX9_burntShare_23 rfl (lv_at hl 0 rfl) ?_
        refine lv_iload_n hx hb dX9_burntShare_24 rfl (lv_at hl 3 rfl) ?_
        refine lv_iconst (v := 2) hx hb dX9_burntShare_25 (by decide) ?_
        obtain ⟨r10, hc9, hf⟩ := bnr_some hf
        refine bk_all hB (fun h1 h2 h3 => bk_runV X (Av := [.int y4, .int 2]) (rest := [.int y2]) (mX9_batch hc9) yv_X9_batch wm_1830 ⟨Nat.le_of_ble_eq_true rfl, Nat.le_of_ble_eq_true rfl⟩ rfl rfl hl.1 kl_X9.1 (hB.1.obj lc_Mo_0) h1 h2 h3 (Nat.le_of_ble_eq_true rfl) ⟨Nat.le_of_ble_eq_true rfl, Nat.le_of_ble_eq_true rfl⟩ dX9_burntShare_26) (fun H locs hB => ?_)
        refine W.eq (g2 := F0 m 29 ls [.int r10, .int y2]) rfl ?_
        refine lv_iadd hx hb dX9_burntShare_29 ?_
        refine lv_topi (fun x11 ex11 => ?_)
        have hf := nm_use hf ex11
        refine lv_istore_n (lv' := [(1, .int x11), (0, .ref a), (2, .int y3), (3, .int y4)]) hx hb dX9_burntShare_30 rfl hl (by decide) rfl (fun ls hl => ?_)
        refine lv_iload_n hx hb dX9_burntShare_31 rfl (lv_at hl 2 rfl) ?_
        refine lv_aload_n hx hb dX9_burntShare_32 rfl (lv_at hl 1 rfl) ?_
        refine lv_iload_n hx hb dX9_burntShare_33 rfl (lv_at hl 3 rfl) ?_
        refine lv_iconst (v := 1) hx hb dX9_burntShare_34 (by decide) ?_
        obtain ⟨r13, hc12, hf⟩ := bnr_some hf
        refine bk_all hB (fun h1 h2 h3 => bk_runV X (Av := [.int y4, .int 1]) (rest := [.int y3]) (mX9_batch hc12) yv_X9_batch wm_1830 ⟨Nat.le_of_ble_eq_true rfl, Nat.le_of_ble_eq_true rfl⟩ rfl rfl hl.1 kl_X9.1 (hB.1.obj lc_Mo_0) h1 h2 h3 (Nat.le_of_ble_eq_true rfl) ⟨Nat.le_of_ble_eq_true rfl, Nat.le_of_ble_eq_true rfl⟩ dX9_burntShare_35) (fun H locs hB => ?_)
        refine W.eq (g2 := F0 m 38 ls [.int r13, .int y3]) rfl ?_
        refine lv_iadd hx hb dX9_burntShare_38 ?_
        refine lv_topi (fun x14 ex14 => ?_)
        have hf := nm_use hf ex14
        refine lv_istore_n (lv' := [(2, .int x14), (1, .int x11), (0, .ref a), (3, .int y4)]) hx hb dX9_burntShare_39 rfl hl (by decide) rfl (fun ls hl => ?_)
        obtain ⟨x15, ex15⟩ : ∃ y : Int32, y = y4 + 1 := ⟨_, rfl⟩
        have hf := nm_use hf ex15
        refine lv_iinc (v := x15) (lv' := [(3, .int x15), (2, .int x14), (1, .int x11), (0, .ref a)]) hx hb dX9_burntShare_40 hl (k := 3) rfl (by rw [ex15]; rfl) (by decide) rfl (fun ls hl => ?_)
        refine lv_goto (tgt := 11) hx hb dX9_burntShare_43 (by decide) ?_
        exact ih11 x11 x14 x15 v5 H locs ls hf hB (lv_sub hl [3, 2, 1, 0] rfl)
  exact hL11 lpN 0 0 0 v1 H locs ls hf hB (lv_sub hl [3, 2, 1, 0] rfl)
theorem yv_X9_burntShare : bYv yX9_burntShare RX9 cX9_burntShare 4 (some .float) 0 := ⟨⟨rfl, by decide, by decide, rfl⟩, wm_2198, wm_2199, wm_17, wm_2200⟩

