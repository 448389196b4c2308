/-! ===== the first setup ===== -/
theorem dX8_init_0 : decode cX8_init 0 = .ok (.aload_n 0, 1) := by decide +kernel
theorem dX8_init_1 : decode cX8_init 1 = .ok (.invokespecial 1, 3) := by decide +kernel
theorem dX8_init_4 : decode cX8_init 4 = .ok (.aload_n 0, 1) := by decide +kernel
theorem dX8_init_5 : decode cX8_init 5 = .ok (.new 7, 3) := by decide +kernel
theorem dX8_init_8 : decode cX8_init 8 = .ok (.dup, 1) := by decide +kernel
theorem dX8_init_9 : decode cX8_init 9 = .ok (.invokespecial 9, 3) := by decide +kernel
theorem dX8_init_12 : decode cX8_init 12 = .ok (.putfield 10, 3) := by decide +kernel
theorem dX8_init_15 : decode cX8_init 15 = .ok (.aload_n 0, 1) := by decide +kernel
theorem dX8_init_16 : decode cX8_init 16 = .ok (.new 7, 3) := by decide +kernel
theorem dX8_init_19 : decode cX8_init 19 = .ok (.dup, 1) := by decide +kernel
theorem dX8_init_20 : decode cX8_init 20 = .ok (.invokespecial 9, 3) := by decide +kernel
theorem dX8_init_23 : decode cX8_init 23 = .ok (.putfield 16, 3) := by decide +kernel
theorem dX8_init_26 : decode cX8_init 26 = .ok (.aload_n 0, 1) := by decide +kernel
theorem dX8_init_27 : decode cX8_init 27 = .ok (.new 19, 3) := by decide +kernel
theorem dX8_init_30 : decode cX8_init 30 = .ok (.dup, 1) := by decide +kernel
theorem dX8_init_31 : decode cX8_init 31 = .ok (.invokespecial 21, 3) := by decide +kernel
theorem dX8_init_34 : decode cX8_init 34 = .ok (.putfield 22, 3) := by decide +kernel
theorem dX8_init_37 : decode cX8_init 37 = .ok (.aload_n 0, 1) := by decide +kernel
theorem dX8_init_38 : decode cX8_init 38 = .ok (.iconst 2, 1) := by decide +kernel
theorem dX8_init_39 : decode cX8_init 39 = .ok (.anewarray 7, 3) := by decide +kernel
theorem dX8_init_42 : decode cX8_init 42 = .ok (.putfield 26, 3) := by decide +kernel
theorem dX8_init_45 : decode cX8_init 45 = .ok (.iconst 0, 1) := by decide +kernel
theorem dX8_init_46 : decode cX8_init 46 = .ok (.istore_n 1, 1) := by decide +kernel
theorem dX8_init_47 : decode cX8_init 47 = .ok (.iload_n 1, 1) := by decide +kernel
theorem dX8_init_48 : decode cX8_init 48 = .ok (.iconst 2, 1) := by decide +kernel
theorem dX8_init_49 : decode cX8_init 49 = .ok (.if_icmp .ge 22, 3) := by decide +kernel
theorem dX8_init_52 : decode cX8_init 52 = .ok (.aload_n 0, 1) := by decide +kernel
theorem dX8_init_53 : decode cX8_init 53 = .ok (.getfield 26, 3) := by decide +kernel
theorem dX8_init_56 : decode cX8_init 56 = .ok (.iload_n 1, 1) := by decide +kernel
theorem dX8_init_57 : decode cX8_init 57 = .ok (.new 7, 3) := by decide +kernel
theorem dX8_init_60 : decode cX8_init 60 = .ok (.dup, 1) := by decide +kernel
theorem dX8_init_61 : decode cX8_init 61 = .ok (.invokespecial 9, 3) := by decide +kernel
theorem dX8_init_64 : decode cX8_init 64 = .ok (.aastore, 1) := by decide +kernel
theorem dX8_init_65 : decode cX8_init 65 = .ok (.iinc 1 1, 3) := by decide +kernel
theorem dX8_init_68 : decode cX8_init 68 = .ok (.goto (-21), 3) := by decide +kernel
theorem dX8_init_71 : decode cX8_init 71 = .ok (.aload_n 0, 1) := by decide +kernel
theorem dX8_init_72 : decode cX8_init 72 = .ok (.iconst 2, 1) := by decide +kernel
theorem dX8_init_73 : decode cX8_init 73 = .ok (.newarray .boolean, 2) := by decide +kernel
theorem dX8_init_75 : decode cX8_init 75 = .ok (.putfield 30, 3) := by decide +kernel
theorem dX8_init_78 : decode cX8_init 78 = .ok (.aload_n 0, 1) := by decide +kernel
theorem dX8_init_79 : decode cX8_init 79 = .ok (.new 34, 3) := by decide +kernel
theorem dX8_init_82 : decode cX8_init 82 = .ok (.dup, 1) := by decide +kernel
theorem dX8_init_83 : decode cX8_init 83 = .ok (.invokespecial 36, 3) := by decide +kernel
theorem dX8_init_86 : decode cX8_init 86 = .ok (.putfield 37, 3) := by decide +kernel
theorem dX8_init_89 : decode cX8_init 89 = .ok (.aload_n 0, 1) := by decide +kernel
theorem dX8_init_90 : decode cX8_init 90 = .ok (.new 41, 3) := by decide +kernel
theorem dX8_init_93 : decode cX8_init 93 = .ok (.dup, 1) := by decide +kernel
theorem dX8_init_94 : decode cX8_init 94 = .ok (.invokespecial 43, 3) := by decide +kernel
theorem dX8_init_97 : decode cX8_init 97 = .ok (.putfield 44, 3) := by decide +kernel
theorem dX8_init_100 : decode cX8_init 100 = .ok (.iconst 0, 1) := by decide +kernel
theorem dX8_init_101 : decode cX8_init 101 = .ok (.istore_n 1, 1) := by decide +kernel
theorem dX8_init_102 : decode cX8_init 102 = .ok (.iload_n 1, 1) := by decide +kernel
theorem dX8_init_103 : decode cX8_init 103 = .ok (.ldc 48, 2) := by decide +kernel
theorem dX8_init_105 : decode cX8_init 105 = .ok (.invokevirtual 50, 3) := by decide +kernel
theorem dX8_init_108 : decode cX8_init 108 = .ok (.if_icmp .ge 25, 3) := by decide +kernel
theorem dX8_init_111 : decode cX8_init 111 = .ok (.aload_n 0, 1) := by decide +kernel
theorem dX8_init_112 : decode cX8_init 112 = .ok (.getfield 37, 3) := by decide +kernel
theorem dX8_init_115 : decode cX8_init 115 = .ok (.getfield 56, 3) := by decide +kernel
theorem dX8_init_118 : decode cX8_init 118 = .ok (.ldc 48, 2) := by decide +kernel
theorem dX8_init_120 : decode cX8_init 120 = .ok (.iload_n 1, 1) := by decide +kernel
theorem dX8_init_121 : decode cX8_init 121 = .ok (.invokevirtual 60, 3) := by decide +kernel
theorem dX8_init_124 : decode cX8_init 124 = .ok (.invokevirtual 64, 3) := by decide +kernel
theorem dX8_init_127 : decode cX8_init 127 = .ok (.iinc 1 1, 3) := by decide +kernel
theorem dX8_init_130 : decode cX8_init 130 = .ok (.goto (-28), 3) := by decide +kernel
theorem dX8_init_133 : decode cX8_init 133 = .ok (.aload_n 0, 1) := by decide +kernel
theorem dX8_init_134 : decode cX8_init 134 = .ok (.getfield 37, 3) := by decide +kernel
theorem dX8_init_137 : decode cX8_init 137 = .ok (.aload_n 0, 1) := by decide +kernel
theorem dX8_init_138 : decode cX8_init 138 = .ok (.getfield 10, 3) := by decide +kernel
theorem dX8_init_141 : decode cX8_init 141 = .ok (.iconst 1, 1) := by decide +kernel
theorem dX8_init_142 : decode cX8_init 142 = .ok (.invokevirtual 70, 3) := by decide +kernel
theorem dX8_init_145 : decode cX8_init 145 = .ok (.pop, 1) := by decide +kernel
theorem dX8_init_146 : decode cX8_init 146 = .ok (.aload_n 0, 1) := by decide +kernel
theorem dX8_init_147 : decode cX8_init 147 = .ok (.getfield 37, 3) := by decide +kernel
theorem dX8_init_150 : decode cX8_init 150 = .ok (.getfield 56, 3) := by decide +kernel
theorem dX8_init_153 : decode cX8_init 153 = .ok (.invokevirtual 74, 3) := by decide +kernel
theorem dX8_init_156 : decode cX8_init 156 = .ok (.return_, 1) := by decide +kernel
def fX8_init_L102  (k102 : Int32 → bM → Option bM) (y1 : Int32) (v2 : bM) : Option bM :=
  (if (sLen 0) ≤ y1 then (ck (v2 0) 12 <| nm (v2 0).toNatClampNeg fun i5 => bnd (fX4_read i5 1 v2) fun r8 w7 => bnw (fX7_clear (vw w7 7093)) fun w10 => nm (spl w7 7093 2806 w10) fun v11 => some v11) else (ck y1 (sTx.getD 0 []).length <| bnw (fX7_append (sAt 0 y1) (vw v2 7093)) fun w14 => nm (spl v2 7093 2806 w14) fun v15 => nm (y1 + 1) fun x16 => k102 x16 v15))
def fX8_init (v : bM) : Option bM :=
  lp (fX8_init_L102) (fun _ _ => none) lpN 0 v
set_option maxRecDepth 100000 in
set_option maxHeartbeats 4000000 in
theorem tX8_init {l : Launch} {v : bM} {w0 : bM} (hf : fX8_init v = some w0) (p : Program) (e : Env) (s : State) (m : MethodId) (args : Array Value) (below : List Frame) (meth : Method) (c : Code) (D : va_G) (E : bE) (a : Nat) (ls : Array Slot) (H : Heap) (locs : List Loc) (X : bCx p s m args meth c RX8 cX8_init 2 D E) (hr : meth.sig.returnType = none) (hl : lv_has ls 2 [(0, .ref a)]) (hB : bB D E LX a v s H locs) : W p l e (rmOf 9 0 0) s m args below meth c H locs 0 0 (bQ below D E LX a w0 none args s 0 0) (F0 m 100 ls []) := by
  have hx := X.1
  have hb := X.2.1
  have hown := X.2.2.2.1
  have hts := X.2.2.2.2.1
  have hf := (fX8_init.eq_1 v).symm.trans hf
  refine lv_iconst (v := 0) hx hb dX8_init_100 (by decide) ?_
  refine lv_istore_n (lv' := [(1, .int 0), (0, .ref a)]) hx hb dX8_init_101 rfl hl (by decide) rfl (fun ls hl => ?_)
  have hL102 : ∀ (n102 : Nat) (y1 : Int32) (v2 : bM) (H : Heap) (locs : List Loc) (ls : Array Slot), lp (fX8_init_L102) (fun _ _ => none) n102 y1 v2 = some w0 → bB D E LX a v2 s H locs → lv_has ls 2 [(0, .ref a), (1, .int y1)] → W p l e (rmOf 9 0 0) s m args below meth c H locs 0 0 (bQ below D E LX a w0 none args s 0 0) (F0 m 102 ls []) := by
    intro n102
    induction n102 with
    | zero => intro y1 v2 H locs ls hf; cases (show (none : Option bM) = some w0 from hf)
    | succ n102 ih102 =>
      intro y1 v2 H locs ls hf hB hl
      have hf := (fX8_init_L102.eq_1  (lp (fX8_init_L102) (fun _ _ => none) n102) y1 v2).symm.trans (show fX8_init_L102 (lp (fX8_init_L102) (fun _ _ => none) n102) y1 v2 = some w0 from hf)
      refine lv_iload_n hx hb dX8_init_102 rfl (lv_at hl 1 rfl) ?_
      refine va_ldcS hx hb hown (show vk_R RX8 48 "bakery 2000 2 2; flour 10; flour 25; bread 150 3 4; bread 240 5 23; buy 0 40 11; buy 0 30 9; buy 1 20 28; rate 1 4; bake 0 6 burnt 1 more 2; wait 50; bake 1 4 late 3; sell 0 3 140;" (E.1.2 0) s from X.2.2.2.2.2.1.2.2.1 0 ("PennyBakery", 48, "bakery 2000 2 2; flour 10; flour 25; bread 150 3 4; bread 240 5 23; buy 0 40 11; buy 0 30 9; buy 1 20 28; rate 1 4; bake 0 6 burnt 1 more 2; wait 50; bake 1 4 late 3; sell 0 3 140;") rfl) dX8_init_103 ?_
      refine bk_non (v0 := v2) (w0 := v2) hB (fun h1 h2 h3 => bk_runVr X (Av := []) (rest := [.int y1]) (mJ0_length_8abf5 (by decide)) yv_J0_length_8abf5 wm_385 ⟨Nat.le_of_ble_eq_true rfl, Nat.le_of_ble_eq_true rfl⟩ rfl rfl hl.1 (bk_txRecv hB (sTx_at (by decide))) h1 h2 h3 (Nat.le_of_ble_eq_true rfl) ⟨Nat.le_of_ble_eq_true rfl, Nat.le_of_ble_eq_true rfl⟩ dX8_init_105) (fun H locs hB => ?_)
      refine W.eq (g2 := F0 m 108 ls [.int (sLen 0), .int y1]) rfl ?_
      refine lv_icmp_ge (tgt := 133) hx hb dX8_init_108 (by decide) (fun c3 => ?_) (fun c3 => ?_)
      · have hf := (if_pos c3).symm.trans hf
        refine lv_aload_n hx hb dX8_init_133 rfl (lv_at hl 0 rfl) ?_
        refine bk_getR X hB kl_X8 0 lc_X_0 5 (by decide) rfl wm_659 dX8_init_134 ?_
        refine lv_aload_n hx hb dX8_init_137 rfl (lv_at hl 0 rfl) ?_
        obtain ⟨h4, hf⟩ := ck_some hf
        refine bk_getS X hB kl_X8 0 lc_X_0 0 (by decide) rfl h4 wm_654 dX8_init_138 ?_
        obtain ⟨i5, ei5⟩ : ∃ y : Nat, y = (v2 0).toNatClampNeg := ⟨_, rfl⟩
        have hf := nm_use hf ei5
        rw [← ei5]
        have hi5 : i5 < 12 := by rw [ei5]; exact vp_lt h4
        refine lv_iconst (v := 1) hx hb dX8_init_141 (by decide) ?_
        obtain ⟨r8, w7, hc6, hf⟩ := bnd_some hf
        refine bk_all hB (fun h1 h2 h3 => bk_runV X (Av := [.ref (a + (stC i5 + 0)), .int 1]) (rest := []) (mX4_read hc6) yv_X4_read wm_436 ⟨Nat.le_of_ble_eq_true rfl, Nat.le_of_ble_eq_true rfl⟩ rfl rfl hl.1 kl_X4.1 (hB.1.obj lc_X_857) h1 h2 h3 (Nat.le_of_ble_eq_true rfl) ⟨Nat.le_of_ble_eq_true rfl, Nat.le_of_ble_eq_true rfl⟩ dX8_init_142) (fun H locs hB => ?_)
        refine W.eq (g2 := F0 m 145 ls [.int r8]) rfl ?_
        refine lv_pop hx hb dX8_init_145 rfl ?_
        refine lv_aload_n hx hb dX8_init_146 rfl (lv_at hl 0 rfl) ?_
        refine bk_getR X hB kl_X8 0 lc_X_0 5 (by decide) rfl wm_659 dX8_init_147 ?_
        refine bk_getR X hB kl_X4 857 lc_X_857 0 (by decide) rfl wm_320 dX8_init_150 ?_
        obtain ⟨w10, hc9, hf⟩ := bnw_some hf
        refine bk_sub sub_X_858 hB (fun h1 h2 h3 => bk_runV X (Av := []) (rest := []) (mX7_clear hc9) yv_X7_clear wm_650 ⟨Nat.le_of_ble_eq_true rfl, Nat.le_of_ble_eq_true rfl⟩ rfl rfl hl.1 kl_X7.1 (hB.1.obj lc_X_858) h1 h2 h3 (Nat.le_of_ble_eq_true rfl) ⟨Nat.le_of_ble_eq_true rfl, Nat.le_of_ble_eq_true rfl⟩ dX8_init_153) (fun H locs hB => ?_)
        refine W.eq (g2 := F0 m 156 ls []) rfl ?_
        obtain ⟨v11, ev11⟩ : ∃ y : bM, y = spl w7 7093 2806 w10 := ⟨_, rfl⟩
        have hf := nm_use hf ev11
        rw [← ev11] at hB
        exact bk_vW X hr rfl hf hB (Nat.le_of_ble_eq_true rfl) (Nat.le_of_ble_eq_true rfl) dX8_init_156
      · have hf := (if_neg c3).symm.trans hf
        refine lv_aload_n hx hb dX8_init_111 rfl (lv_at hl 0 rfl) ?_
        refine bk_getR X hB kl_X8 0 lc_X_0 5 (by decide) rfl wm_659 dX8_init_112 ?_
        refine bk_getR X hB kl_X4 857 lc_X_857 0 (by decide) rfl wm_320 dX8_init_115 ?_
        refine va_ldcS hx hb hown (show vk_R RX8 48 "bakery 2000 2 2; flour 10; flour 25; bread 150 3 4; bread 240 5 23; buy 0 40 11; buy 0 30 9; buy 1 20 28; rate 1 4; bake 0 6 burnt 1 more 2; wait 50; bake 1 4 late 3; sell 0 3 140;" (E.1.2 0) s from X.2.2.2.2.2.1.2.2.1 0 ("PennyBakery", 48, "bakery 2000 2 2; flour 10; flour 25; bread 150 3 4; bread 240 5 23; buy 0 40 11; buy 0 30 9; buy 1 20 28; rate 1 4; bake 0 6 burnt 1 more 2; wait 50; bake 1 4 late 3; sell 0 3 140;") rfl) dX8_init_118 ?_
        refine lv_iload_n hx hb dX8_init_120 rfl (lv_at hl 1 rfl) ?_
        obtain ⟨h12, hf⟩ := ck_some hf
        refine bk_non (v0 := v2) (w0 := v2) hB (fun h1 h2 h3 => bk_runVr X (Av := [.int y1]) (rest := [.ref (a + 858)]) (mJ0_charAt_5068e (by decide) h12) yv_J0_charAt_5068e wm_394 ⟨Nat.le_of_ble_eq_true rfl, Nat.le_of_ble_eq_true rfl⟩ rfl rfl hl.1 (bk_txRecv hB (sTx_at (by decide))) h1 h2 h3 (Nat.le_of_ble_eq_true rfl) ⟨Nat.le_of_ble_eq_true rfl, Nat.le_of_ble_eq_true rfl⟩ dX8_init_121) (fun H locs hB => ?_)
        refine W.eq (g2 := F0 m 124 ls [.int (sAt 0 y1), .ref (a + 858)]) rfl ?_
        obtain ⟨w14, hc13, hf⟩ := bnw_some hf
        refine bk_sub sub_X_858 hB (fun h1 h2 h3 => bk_runV X (Av := [.int (sAt 0 y1)]) (rest := []) (mX7_append hc13) yv_X7_append wm_432 ⟨Nat.le_of_ble_eq_true rfl, Nat.le_of_ble_eq_true rfl⟩ rfl rfl hl.1 kl_X7.1 (hB.1.obj lc_X_858) h1 h2 h3 (Nat.le_of_ble_eq_true rfl) ⟨Nat.le_of_ble_eq_true rfl, Nat.le_of_ble_eq_true rfl⟩ dX8_init_124) (fun H locs hB => ?_)
        refine W.eq (g2 := F0 m 127 ls []) rfl ?_
        obtain ⟨v15, ev15⟩ : ∃ y : bM, y = spl v2 7093 2806 w14 := ⟨_, rfl⟩
        have hf := nm_use hf ev15
        rw [← ev15] at hB
        obtain ⟨x16, ex16⟩ : ∃ y : Int32, y = y1 + 1 := ⟨_, rfl⟩
        have hf := nm_use hf ex16
        refine lv_iinc (v := x16) (lv' := [(1, .int x16), (0, .ref a)]) hx hb dX8_init_127 hl (k := 1) rfl (by rw [ex16]; rfl) (by decide) rfl (fun ls hl => ?_)
        refine lv_goto (tgt := 102) hx hb dX8_init_130 (by decide) ?_
        exact ih102 x16 v15 H locs ls hf hB (lv_sub hl [1, 0] rfl)
  exact hL102 lpN 0 v H locs ls hf hB (lv_sub hl [1, 0] rfl)
theorem dX9_init_0 : decode cX9_init 0 = .ok (.aload_n 0, 1) := by decide +kernel
theorem dX9_init_1 : decode cX9_init 1 = .ok (.invokespecial 1, 3) := by decide +kernel
theorem dX9_init_4 : decode cX9_init 4 = .ok (.aload_n 0, 1) := by decide +kernel
theorem dX9_init_5 : decode cX9_init 5 = .ok (.sipush 700, 3) := by decide +kernel
theorem dX9_init_8 : decode cX9_init 8 = .ok (.newarray .int, 2) := by decide +kernel
theorem dX9_init_10 : decode cX9_init 10 = .ok (.putfield 7, 3) := by decide +kernel
theorem dX9_init_13 : decode cX9_init 13 = .ok (.aload_n 0, 1) := by decide +kernel
theorem dX9_init_14 : decode cX9_init 14 = .ok (.iconst (-1), 1) := by decide +kernel
theorem dX9_init_15 : decode cX9_init 15 = .ok (.putfield 13, 3) := by decide +kernel
theorem dX9_init_18 : decode cX9_init 18 = .ok (.aload_n 0, 1) := by decide +kernel
theorem dX9_init_19 : decode cX9_init 19 = .ok (.sipush 496, 3) := by decide +kernel
theorem dX9_init_22 : decode cX9_init 22 = .ok (.newarray .int, 2) := by decide +kernel
theorem dX9_init_24 : decode cX9_init 24 = .ok (.putfield 17, 3) := by decide +kernel
theorem dX9_init_27 : decode cX9_init 27 = .ok (.aload_n 0, 1) := by decide +kernel
theorem dX9_init_28 : decode cX9_init 28 = .ok (.sipush 496, 3) := by decide +kernel
theorem dX9_init_31 : decode cX9_init 31 = .ok (.newarray .int, 2) := by decide +kernel
theorem dX9_init_33 : decode cX9_init 33 = .ok (.putfield 20, 3) := by decide +kernel
theorem dX9_init_36 : decode cX9_init 36 = .ok (.aload_n 0, 1) := by decide +kernel
theorem dX9_init_37 : decode cX9_init 37 = .ok (.sipush 496, 3) := by decide +kernel
theorem dX9_init_40 : decode cX9_init 40 = .ok (.newarray .int, 2) := by decide +kernel
theorem dX9_init_42 : decode cX9_init 42 = .ok (.putfield 23, 3) := by decide +kernel
theorem dX9_init_45 : decode cX9_init 45 = .ok (.aload_n 0, 1) := by decide +kernel
theorem dX9_init_46 : decode cX9_init 46 = .ok (.sipush 3968, 3) := by decide +kernel
theorem dX9_init_49 : decode cX9_init 49 = .ok (.newarray .int, 2) := by decide +kernel
theorem dX9_init_51 : decode cX9_init 51 = .ok (.putfield 26, 3) := by decide +kernel
theorem dX9_init_54 : decode cX9_init 54 = .ok (.aload_n 0, 1) := by decide +kernel
theorem dX9_init_55 : decode cX9_init 55 = .ok (.sipush 992, 3) := by decide +kernel
theorem dX9_init_58 : decode cX9_init 58 = .ok (.newarray .int, 2) := by decide +kernel
theorem dX9_init_60 : decode cX9_init 60 = .ok (.putfield 29, 3) := by decide +kernel
theorem dX9_init_63 : decode cX9_init 63 = .ok (.aload_n 0, 1) := by decide +kernel
theorem dX9_init_64 : decode cX9_init 64 = .ok (.iconst 2, 1) := by decide +kernel
theorem dX9_init_65 : decode cX9_init 65 = .ok (.newarray .boolean, 2) := by decide +kernel
theorem dX9_init_67 : decode cX9_init 67 = .ok (.putfield 32, 3) := by decide +kernel
theorem dX9_init_70 : decode cX9_init 70 = .ok (.aload_n 0, 1) := by decide +kernel
theorem dX9_init_71 : decode cX9_init 71 = .ok (.iconst 5, 1) := by decide +kernel
theorem dX9_init_72 : decode cX9_init 72 = .ok (.newarray .int, 2) := by decide +kernel
theorem dX9_init_74 : decode cX9_init 74 = .ok (.putfield 36, 3) := by decide +kernel
theorem dX9_init_77 : decode cX9_init 77 = .ok (.aload_n 0, 1) := by decide +kernel
theorem dX9_init_78 : decode cX9_init 78 = .ok (.bipush 80, 2) := by decide +kernel
theorem dX9_init_80 : decode cX9_init 80 = .ok (.newarray .int, 2) := by decide +kernel
theorem dX9_init_82 : decode cX9_init 82 = .ok (.putfield 39, 3) := by decide +kernel
theorem dX9_init_85 : decode cX9_init 85 = .ok (.ldc 42, 2) := by decide +kernel
theorem dX9_init_87 : decode cX9_init 87 = .ok (.astore_n 1, 1) := by decide +kernel
theorem dX9_init_88 : decode cX9_init 88 = .ok (.iconst 0, 1) := by decide +kernel
theorem dX9_init_89 : decode cX9_init 89 = .ok (.istore_n 2, 1) := by decide +kernel
theorem dX9_init_90 : decode cX9_init 90 = .ok (.iload_n 2, 1) := by decide +kernel
theorem dX9_init_91 : decode cX9_init 91 = .ok (.aload_n 1, 1) := by decide +kernel
theorem dX9_init_92 : decode cX9_init 92 = .ok (.invokevirtual 44, 3) := by decide +kernel
theorem dX9_init_95 : decode cX9_init 95 = .ok (.if_icmp .ge 20, 3) := by decide +kernel
theorem dX9_init_98 : decode cX9_init 98 = .ok (.aload_n 0, 1) := by decide +kernel
theorem dX9_init_99 : decode cX9_init 99 = .ok (.getfield 7, 3) := by decide +kernel
theorem dX9_init_102 : decode cX9_init 102 = .ok (.iload_n 2, 1) := by decide +kernel
theorem dX9_init_103 : decode cX9_init 103 = .ok (.aload_n 1, 1) := by decide +kernel
theorem dX9_init_104 : decode cX9_init 104 = .ok (.iload_n 2, 1) := by decide +kernel
theorem dX9_init_105 : decode cX9_init 105 = .ok (.invokevirtual 50, 3) := by decide +kernel
theorem dX9_init_108 : decode cX9_init 108 = .ok (.iastore, 1) := by decide +kernel
theorem dX9_init_109 : decode cX9_init 109 = .ok (.iinc 2 1, 3) := by decide +kernel
theorem dX9_init_112 : decode cX9_init 112 = .ok (.goto (-22), 3) := by decide +kernel
theorem dX9_init_115 : decode cX9_init 115 = .ok (.aload_n 0, 1) := by decide +kernel
theorem dX9_init_116 : decode cX9_init 116 = .ok (.aload_n 1, 1) := by decide +kernel
theorem dX9_init_117 : decode cX9_init 117 = .ok (.invokevirtual 44, 3) := by decide +kernel
theorem dX9_init_120 : decode cX9_init 120 = .ok (.putfield 54, 3) := by decide +kernel
theorem dX9_init_123 : decode cX9_init 123 = .ok (.aload_n 0, 1) := by decide +kernel
theorem dX9_init_124 : decode cX9_init 124 = .ok (.invokevirtual 57, 3) := by decide +kernel
theorem dX9_init_127 : decode cX9_init 127 = .ok (.istore_n 2, 1) := by decide +kernel
theorem dX9_init_128 : decode cX9_init 128 = .ok (.return_, 1) := by decide +kernel
def fX9_init_L90  (k90 : Int32 → bM → Option bM) (y1 : Int32) (v2 : bM) : Option bM :=
  (if (sLen 26) ≤ y1 then (nm (sLen 26) fun x4 => nm (upd v2 0 x4) fun v5 => bnd (fX9_loadSetup v5) fun r8 w7 => some w7) else (ck y1 (sTx.getD 26 []).length <| nm (sAt 26 y1) fun x10 => ck y1 700 <| nm (upd v2 (10 + y1.toNatClampNeg) x10) fun v12 => nm (y1 + 1) fun x13 => k90 x13 v12))
def fX9_init (v : bM) : Option bM :=
  lp (fX9_init_L90) (fun _ _ => none) lpN 0 v
set_option maxRecDepth 100000 in
set_option maxHeartbeats 4000000 in
theorem tX9_init {l : Launch} {v : bM} {w0 : bM} (hf : fX9_init v = some w0) (p : Program) (e : Env) (s : State) (m : MethodId) (args : Array Value) (below : List Frame) (meth : Method) (c : Code) (D : va_G) (E : bE) (a : Nat) (ls : Array Slot) (H : Heap) (locs : List Loc) (X : bCx p s m args meth c RX9 cX9_init 3 D E) (hr : meth.sig.returnType = none) (hl : lv_has ls 3 [(0, .ref a)]) (hB : bB D E LMo a v s H locs) : W p l e (rmOf 12 0 0) s m args below meth c H locs 0 0 (bQ below D E LMo a w0 none args s 0 0) (F0 m 85 ls []) := by
  have hx := X.1
  have hb := X.2.1
  have hown := X.2.2.2.1
  have hts := X.2.2.2.2.1
  have hf := (fX9_init.eq_1 v).symm.trans hf
  refine va_ldcS hx hb hown (show vk_R RX9 42 "bakery 2000 2 2; flour 10; flour 25; bread 150 3 4; bread 240 5 23; buy 0 40 11; buy 0 30 9; buy 1 20 28; rate 1 4; bake 0 6 burnt 1 more 2; wait 50; bake 1 4 late 3; sell 0 3 140;" (E.1.2 26) s from X.2.2.2.2.2.1.2.2.1 26 ("PennyBakeryModel", 42, "bakery 2000 2 2; flour 10; flour 25; bread 150 3 4; bread 240 5 23; buy 0 40 11; buy 0 30 9; buy 1 20 28; rate 1 4; bake 0 6 burnt 1 more 2; wait 50; bake 1 4 late 3; sell 0 3 140;") rfl) dX9_init_85 ?_
  refine lv_astore_n (lv' := [(1, .ref (E.1.2 26)), (0, .ref a)]) hx hb dX9_init_87 rfl hl (by decide) rfl (fun ls hl => ?_)
  refine lv_iconst (v := 0) hx hb dX9_init_88 (by decide) ?_
  refine lv_istore_n (lv' := [(2, .int 0), (1, .ref (E.1.2 26)), (0, .ref a)]) hx hb dX9_init_89 rfl hl (by decide) rfl (fun ls hl => ?_)
  have hL90 : ∀ (n90 : Nat) (y1 : Int32) (v2 : bM) (H : Heap) (locs : List Loc) (ls : Array Slot), lp (fX9_init_L90) (fun _ _ => none) n90 y1 v2 = some w0 → bB D E LMo a v2 s H locs → lv_has ls 3 [(0, .ref a), (1, .ref (E.1.2 26)), (2, .int y1)] → W p l e (rmOf 12 0 0) s m args below meth c H locs 0 0 (bQ below D E LMo a w0 none args s 0 0) (F0 m 90 ls []) := by
    intro n90
    induction n90 with
    | zero => intro y1 v2 H locs ls hf; cases (show (none : Option bM) = some w0 from hf)
    | succ n90 ih90 =>
      intro y1 v2 H locs ls hf hB hl
      have hf := (fX9_init_L90.eq_1  (lp (fX9_init_L90) (fun _ _ => none) n90) y1 v2).symm.trans (show fX9_init_L90 (lp (fX9_init_L90) (fun _ _ => none) n90) y1 v2 = some w0 from hf)
      refine lv_iload_n hx hb dX9_init_90 rfl (lv_at hl 2 rfl) ?_
      refine lv_aload_n hx hb dX9_init_91 rfl (lv_at hl 1 rfl) ?_
      refine bk_non (v0 := v2) (w0 := v2) hB (fun h1 h2 h3 => bk_runVr X (Av := []) (rest := [.int y1]) (mJ0_length_8abf5 (by decide)) yv_J0_length_8abf5 wm_1632 ⟨Nat.le_of_ble_eq_true rfl, Nat.le_of_ble_eq_true rfl⟩ rfl rfl hl.1 (bk_txRecv hB (sTx_at (by decide))) h1 h2 h3 (Nat.le_of_ble_eq_true rfl) ⟨Nat.le_of_ble_eq_true rfl, Nat.le_of_ble_eq_true rfl⟩ dX9_init_92) (fun H locs hB => ?_)
      refine W.eq (g2 := F0 m 95 ls [.int (sLen 26), .int y1]) rfl ?_
      refine lv_icmp_ge (tgt := 115) hx hb dX9_init_95 (by decide) (fun c3 => ?_) (fun c3 => ?_)
      · have hf := (if_pos c3).symm.trans hf
        refine lv_aload_n hx hb dX9_init_115 rfl (lv_at hl 0 rfl) ?_
        refine lv_aload_n hx hb dX9_init_116 rfl (lv_at hl 1 rfl) ?_
        refine bk_non (v0 := v2) (w0 := v2) hB (fun h1 h2 h3 => bk_runVr X (Av := []) (rest := [.ref a]) (mJ0_length_8abf5 (by decide)) yv_J0_length_8abf5 wm_1632 ⟨Nat.le_of_ble_eq_true rfl, Nat.le_of_ble_eq_true rfl⟩ rfl rfl hl.1 (bk_txRecv hB (sTx_at (by decide))) h1 h2 h3 (Nat.le_of_ble_eq_true rfl) ⟨Nat.le_of_ble_eq_true rfl, Nat.le_of_ble_eq_true rfl⟩ dX9_init_117) (fun H locs hB => ?_)
        refine W.eq (g2 := F0 m 120 ls [.int (sLen 26), .ref a]) rfl ?_
        refine lv_topi (fun x4 ex4 => ?_)
        have hf := nm_use hf ex4
        refine bk_putI X hB kl_X9 0 lc_Mo_0 1 (by decide) rfl rfl rfl wm_1864 dX9_init_120 rfl (fun H locs hB => ?_)
        obtain ⟨v5, ev5⟩ : ∃ y : bM, y = upd v2 0 x4 := ⟨_, rfl⟩
        have hf := nm_use hf ev5
        rw [← ev5] at hB
        refine lv_aload_n hx hb dX9_init_123 rfl (lv_at hl 0 rfl) ?_
        obtain ⟨r8, w7, hc6, hf⟩ := bnd_some hf
        refine bk_all hB (fun h1 h2 h3 => bk_runV X (Av := []) (rest := []) (mX9_loadSetup hc6) yv_X9_loadSetup wm_1634 ⟨Nat.le_of_ble_eq_true rfl, Nat.le_of_ble_eq_true rfl⟩ rfl rfl hl.1 kl_X9.1 (hB.1.obj lc_Mo_0) h1 h2 h3 (Nat.le_of_ble_eq_true rfl) ⟨Nat.le_of_ble_eq_true rfl, Nat.le_of_ble_eq_true rfl⟩ dX9_init_124) (fun H locs hB => ?_)
        refine W.eq (g2 := F0 m 127 ls [.int r8]) rfl ?_
        refine lv_istore_n (lv' := [(2, .int r8), (0, .ref a), (1, .ref (E.1.2 26))]) hx hb dX9_init_127 rfl hl (by decide) rfl (fun ls hl => ?_)
        exact bk_vW X hr rfl hf hB (Nat.le_of_ble_eq_true rfl) (Nat.le_of_ble_eq_true rfl) dX9_init_128
      · have hf := (if_neg c3).symm.trans hf
        refine lv_aload_n hx hb dX9_init_98 rfl (lv_at hl 0 rfl) ?_
        refine bk_getR X hB kl_X9 0 lc_Mo_0 0 (by decide) rfl wm_1863 dX9_init_99 ?_
        refine lv_iload_n hx hb dX9_init_102 rfl (lv_at hl 2 rfl) ?_
        refine lv_aload_n hx hb dX9_init_103 rfl (lv_at hl 1 rfl) ?_
        refine lv_iload_n hx hb dX9_init_104 rfl (lv_at hl 2 rfl) ?_
        obtain ⟨h9, hf⟩ := ck_some hf
        refine bk_non (v0 := v2) (w0 := v2) hB (fun h1 h2 h3 => bk_runVr X (Av := [.int y1]) (rest := [.int y1, .ref (a + 1)]) (mJ0_charAt_5068e (by decide) h9) yv_J0_charAt_5068e wm_1633 ⟨Nat.le_of_ble_eq_true rfl, Nat.le_of_ble_eq_true rfl⟩ rfl rfl hl.1 (bk_txRecv hB (sTx_at (by decide))) h1 h2 h3 (Nat.le_of_ble_eq_true rfl) ⟨Nat.le_of_ble_eq_true rfl, Nat.le_of_ble_eq_true rfl⟩ dX9_init_105) (fun H locs hB => ?_)
        refine W.eq (g2 := F0 m 108 ls [.int (sAt 26 y1), .int y1, .ref (a + 1)]) rfl ?_
        refine lv_topi (fun x10 ex10 => ?_)
        have hf := nm_use hf ex10
        obtain ⟨h11, hf⟩ := ck_some hf
        refine bk_ast X hB 1 lc_Mo_1 h11 dX9_init_108 (fun H locs hB => ?_)
        obtain ⟨v12, ev12⟩ : ∃ y : bM, y = upd v2 (10 + y1.toNatClampNeg) x10 := ⟨_, rfl⟩
        have hf := nm_use hf ev12
        rw [← ev12] at hB
        obtain ⟨x13, ex13⟩ : ∃ y : Int32, y = y1 + 1 := ⟨_, rfl⟩
        have hf := nm_use hf ex13
        refine lv_iinc (v := x13) (lv' := [(2, .int x13), (0, .ref a), (1, .ref (E.1.2 26))]) hx hb dX9_init_109 hl (k := 2) rfl (by rw [ex13]; rfl) (by decide) rfl (fun ls hl => ?_)
        refine lv_goto (tgt := 90) hx hb dX9_init_112 (by decide) ?_
        exact ih90 x13 v12 H locs ls hf hB (lv_sub hl [1, 2, 0] rfl)
  exact hL90 lpN 0 v H locs ls hf hB (lv_sub hl [2, 1, 0] rfl)
