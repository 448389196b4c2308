theorem dX8_sumOf_0 : decode cX8_sumOf 0 = .ok (.iconst 0, 1) := by decide +kernel
theorem dX8_sumOf_1 : decode cX8_sumOf 1 = .ok (.istore_n 2, 1) := by decide +kernel
theorem dX8_sumOf_2 : decode cX8_sumOf 2 = .ok (.iconst 0, 1) := by decide +kernel
theorem dX8_sumOf_3 : decode cX8_sumOf 3 = .ok (.istore_n 3, 1) := by decide +kernel
theorem dX8_sumOf_4 : decode cX8_sumOf 4 = .ok (.iload_n 3, 1) := by decide +kernel
theorem dX8_sumOf_5 : decode cX8_sumOf 5 = .ok (.iload_n 1, 1) := by decide +kernel
theorem dX8_sumOf_6 : decode cX8_sumOf 6 = .ok (.if_icmp .ge 15, 3) := by decide +kernel
theorem dX8_sumOf_9 : decode cX8_sumOf 9 = .ok (.iload_n 2, 1) := by decide +kernel
theorem dX8_sumOf_10 : decode cX8_sumOf 10 = .ok (.aload_n 0, 1) := by decide +kernel
theorem dX8_sumOf_11 : decode cX8_sumOf 11 = .ok (.iload_n 3, 1) := by decide +kernel
theorem dX8_sumOf_12 : decode cX8_sumOf 12 = .ok (.iaload, 1) := by decide +kernel
theorem dX8_sumOf_13 : decode cX8_sumOf 13 = .ok (.iadd, 1) := by decide +kernel
theorem dX8_sumOf_14 : decode cX8_sumOf 14 = .ok (.istore_n 2, 1) := by decide +kernel
theorem dX8_sumOf_15 : decode cX8_sumOf 15 = .ok (.iinc 3 1, 3) := by decide +kernel
theorem dX8_sumOf_18 : decode cX8_sumOf 18 = .ok (.goto (-14), 3) := by decide +kernel
theorem dX8_sumOf_21 : decode cX8_sumOf 21 = .ok (.iload_n 2, 1) := by decide +kernel
theorem dX8_sumOf_22 : decode cX8_sumOf 22 = .ok (.ireturn, 1) := by decide +kernel
def fX8_sumOf_L4 (p1 : Int32) (n : Nat) (v : bM) (k4 : Int32 → Int32 → Option Int32) (y1 : Int32) (y2 : Int32) : Option Int32 :=
  (if p1 ≤ y2 then (some (y1)) else (ck y2 n <| nm (y1 + (v (0 + y2.toNatClampNeg))) fun x5 => nm (y2 + 1) fun x6 => k4 x5 x6))
def fX8_sumOf (n : Nat) (p1 : Int32) (v : bM) : Option Int32 :=
  lp (fX8_sumOf_L4 p1 n v) (fun _ _ => none) lpN 0 0
set_option maxRecDepth 100000 in
set_option maxHeartbeats 4000000 in
theorem mX8_sumOf {l : Launch} {n : Nat} {p1 : Int32} {v : bM} {r0 : Int32} (hf : fX8_sumOf n p1 v = some r0) : bMet l yX8_sumOf cX8_sumOf 4 (some .int) 0 0 0 (LA n) (fun a => [.ref a, .int p1]) v v (some (.int r0)) := by
  refine bk_start (by decide) (wfA n) (fun _ => Nat.le_of_ble_eq_true rfl) ?_
  intro p e s m args below meth c D E a ls H locs X hr hl hB
  have hx := X.1
  have hb := X.2.1
  have hown := X.2.2.2.1
  have hts := X.2.2.2.2.1
  have hl : lv_has ls 4 [(0, .ref a), (1, .int p1)] := hl
  unfold fX8_sumOf at hf
  refine lv_iconst (v := 0) hx hb dX8_sumOf_0 (by decide) ?_
  refine lv_istore_n (lv' := [(2, .int 0), (0, .ref a), (1, .int p1)]) hx hb dX8_sumOf_1 rfl hl (by decide) rfl (fun ls hl => ?_)
  refine lv_iconst (v := 0) hx hb dX8_sumOf_2 (by decide) ?_
  refine lv_istore_n (lv' := [(3, .int 0), (2, .int 0), (0, .ref a), (1, .int p1)]) hx hb dX8_sumOf_3 rfl hl (by decide) rfl (fun ls hl => ?_)
  have hL4 : ∀ (n4 : Nat) (y1 y2 : Int32) (H : Heap) (locs : List Loc) (ls : Array Slot), lp (fX8_sumOf_L4 p1 n v) (fun _ _ => none) n4 y1 y2 = some r0 → bB D E (LA n) a v s.heap H locs → lv_has ls 4 [(0, .ref a), (1, .int p1), (2, .int y1), (3, .int y2)] → W p l e (rmOf 0 0 0) s m args below meth c H locs 0 0 (bQ below D E (LA n) a v (some (.int r0)) args s 0 0) (F0 m 4 ls []) := by
    intro n4
    induction n4 with
    | zero => intro y1 y2 H locs ls hf; cases (show (none : Option Int32) = some r0 from hf)
    | succ n4 ih4 =>
      intro y1 y2 H locs ls hf hB hl
      have hf : fX8_sumOf_L4 p1 n v (lp (fX8_sumOf_L4 p1 n v) (fun _ _ => none) n4) y1 y2 = some r0 := hf
      unfold fX8_sumOf_L4 at hf
      refine lv_iload_n hx hb dX8_sumOf_4 rfl (lv_at hl 3 rfl) ?_
      refine lv_iload_n hx hb dX8_sumOf_5 rfl (lv_at hl 1 rfl) ?_
      refine lv_icmp_ge (tgt := 21) hx hb dX8_sumOf_6 (by decide) (fun c3 => ?_) (fun c3 => ?_)
      · have hf := (if_pos c3).symm.trans hf
        refine lv_iload_n hx hb dX8_sumOf_21 rfl (lv_at hl 2 rfl) ?_
        exact bk_iR X hr rfl hf hB (Nat.le_of_ble_eq_true rfl) (Nat.le_of_ble_eq_true rfl) dX8_sumOf_22
      · have hf := (if_neg c3).symm.trans hf
        refine lv_iload_n hx hb dX8_sumOf_9 rfl (lv_at hl 2 rfl) ?_
        refine lv_aload_n hx hb dX8_sumOf_10 rfl (lv_at hl 0 rfl) ?_
        refine lv_iload_n hx hb dX8_sumOf_11 rfl (lv_at hl 3 rfl) ?_
        obtain ⟨h4, hf⟩ := ck_some hf
        refine bk_ald X hB 0 rfl h4 dX8_sumOf_12 ?_
        refine lv_iadd hx hb dX8_sumOf_13 ?_
        refine lv_topi (fun x5 ex5 => ?_)
        have hf := nm_use hf ex5
        refine lv_istore_n (lv' := [(2, .int x5), (0, .ref a), (1, .int p1), (3, .int y2)]) hx hb dX8_sumOf_14 rfl hl (by decide) rfl (fun ls hl => ?_)
        obtain ⟨x6, ex6⟩ : ∃ y : Int32, y = y2 + 1 := ⟨_, rfl⟩
        have hf := nm_use hf ex6
        refine lv_iinc (v := x6) (lv' := [(3, .int x6), (2, .int x5), (0, .ref a), (1, .int p1)]) hx hb dX8_sumOf_15 hl (k := 3) rfl (by rw [ex6]; rfl) (by decide) rfl (fun ls hl => ?_)
        refine lv_goto (tgt := 4) hx hb dX8_sumOf_18 (by decide) ?_
        exact ih4 x5 x6 H locs ls hf hB (lv_sub hl [2, 3, 1, 0] rfl)
  exact hL4 lpN 0 0 H locs ls hf hB (lv_sub hl [2, 3, 1, 0] rfl)
theorem ys_X8_sumOf : bYs yX8_sumOf RX8 cX8_sumOf 4 (some .int) 2 := ⟨⟨rfl, by decide, by decide, rfl⟩, wm_604, wm_1, wm_605⟩

theorem dJ9_floorMod_7cf53_0 : decode cJ9_floorMod_7cf53 0 = .ok (.iload_n 0, 1) := by decide +kernel
theorem dJ9_floorMod_7cf53_1 : decode cJ9_floorMod_7cf53 1 = .ok (.iload_n 1, 1) := by decide +kernel
theorem dJ9_floorMod_7cf53_2 : decode cJ9_floorMod_7cf53 2 = .ok (.irem, 1) := by decide +kernel
theorem dJ9_floorMod_7cf53_3 : decode cJ9_floorMod_7cf53 3 = .ok (.istore_n 2, 1) := by decide +kernel
theorem dJ9_floorMod_7cf53_4 : decode cJ9_floorMod_7cf53 4 = .ok (.iload_n 0, 1) := by decide +kernel
theorem dJ9_floorMod_7cf53_5 : decode cJ9_floorMod_7cf53 5 = .ok (.iload_n 1, 1) := by decide +kernel
theorem dJ9_floorMod_7cf53_6 : decode cJ9_floorMod_7cf53 6 = .ok (.ixor, 1) := by decide +kernel
theorem dJ9_floorMod_7cf53_7 : decode cJ9_floorMod_7cf53 7 = .ok (.ifCond .ge 11, 3) := by decide +kernel
theorem dJ9_floorMod_7cf53_10 : decode cJ9_floorMod_7cf53 10 = .ok (.iload_n 2, 1) := by decide +kernel
theorem dJ9_floorMod_7cf53_11 : decode cJ9_floorMod_7cf53 11 = .ok (.ifCond .eq 7, 3) := by decide +kernel
theorem dJ9_floorMod_7cf53_14 : decode cJ9_floorMod_7cf53 14 = .ok (.iload_n 2, 1) := by decide +kernel
theorem dJ9_floorMod_7cf53_15 : decode cJ9_floorMod_7cf53 15 = .ok (.iload_n 1, 1) := by decide +kernel
theorem dJ9_floorMod_7cf53_16 : decode cJ9_floorMod_7cf53 16 = .ok (.iadd, 1) := by decide +kernel
theorem dJ9_floorMod_7cf53_17 : decode cJ9_floorMod_7cf53 17 = .ok (.ireturn, 1) := by decide +kernel
theorem dJ9_floorMod_7cf53_18 : decode cJ9_floorMod_7cf53 18 = .ok (.iload_n 2, 1) := by decide +kernel
theorem dJ9_floorMod_7cf53_19 : decode cJ9_floorMod_7cf53 19 = .ok (.ireturn, 1) := by decide +kernel
def fJ9_floorMod_7cf53 (p0 : Int32) (p1 : Int32) : Option Int32 :=
  cz p1 <| nm (p0 - p0 / p1 * p1) fun x2 => (if 0 ≤ (p0 ^^^ p1) then (some (x2)) else ((if x2 = 0 then (some (x2)) else (some (x2 + p1)))))
set_option maxRecDepth 100000 in
set_option maxHeartbeats 4000000 in
theorem mJ9_floorMod_7cf53 {l : Launch} {p0 : Int32} {p1 : Int32} {v : bM} {r0 : Int32} (hf : fJ9_floorMod_7cf53 p0 p1 = some r0) : bMet l yJ9_floorMod_7cf53 cJ9_floorMod_7cf53 3 (some .int) 0 0 0 [] (fun a => [.int p0, .int p1]) v v (some (.int r0)) := by
  refine bk_start (by decide) bWf_nil (fun _ => Nat.le_of_ble_eq_true rfl) ?_
  intro p e s m args below meth c D E a ls H locs X hr hl hB
  have hx := X.1
  have hb := X.2.1
  have hown := X.2.2.2.1
  have hts := X.2.2.2.2.1
  have hl : lv_has ls 3 [(0, .int p0), (1, .int p1)] := hl
  unfold fJ9_floorMod_7cf53 at hf
  refine lv_iload_n hx hb dJ9_floorMod_7cf53_0 rfl (lv_at hl 0 rfl) ?_
  refine lv_iload_n hx hb dJ9_floorMod_7cf53_1 rfl (lv_at hl 1 rfl) ?_
  obtain ⟨h1, hf⟩ := cz_some hf
  refine lv_irem hx hb dJ9_floorMod_7cf53_2 h1 ?_
  refine lv_topi (fun x2 ex2 => ?_)
  have hf := nm_use hf ex2
  refine lv_istore_n (lv' := [(2, .int x2), (0, .int p0), (1, .int p1)]) hx hb dJ9_floorMod_7cf53_3 rfl hl (by decide) rfl (fun ls hl => ?_)
  refine lv_iload_n hx hb dJ9_floorMod_7cf53_4 rfl (lv_at hl 1 rfl) ?_
  refine lv_iload_n hx hb dJ9_floorMod_7cf53_5 rfl (lv_at hl 2 rfl) ?_
  refine lv_ixor hx hb dJ9_floorMod_7cf53_6 ?_
  refine lv_if_ge (tgt := 18) hx hb dJ9_floorMod_7cf53_7 (by decide) (fun c3 => ?_) (fun c3 => ?_)
  · have hf := (if_pos c3).symm.trans hf
    refine lv_iload_n hx hb dJ9_floorMod_7cf53_18 rfl (lv_at hl 0 rfl) ?_
    exact bk_iR X hr rfl hf hB (Nat.le_of_ble_eq_true rfl) (Nat.le_of_ble_eq_true rfl) dJ9_floorMod_7cf53_19
  · have hf := (if_neg c3).symm.trans hf
    refine lv_iload_n hx hb dJ9_floorMod_7cf53_10 rfl (lv_at hl 0 rfl) ?_
    refine lv_if_eq (tgt := 18) hx hb dJ9_floorMod_7cf53_11 (by decide) (fun c4 => ?_) (fun c4 => ?_)
    · have hf := (if_pos c4).symm.trans hf
      refine lv_iload_n hx hb dJ9_floorMod_7cf53_18 rfl (lv_at hl 0 rfl) ?_
      exact bk_iR X hr rfl hf hB (Nat.le_of_ble_eq_true rfl) (Nat.le_of_ble_eq_true rfl) dJ9_floorMod_7cf53_19
    · have hf := (if_neg c4).symm.trans hf
      refine lv_iload_n hx hb dJ9_floorMod_7cf53_14 rfl (lv_at hl 0 rfl) ?_
      refine lv_iload_n hx hb dJ9_floorMod_7cf53_15 rfl (lv_at hl 2 rfl) ?_
      refine lv_iadd hx hb dJ9_floorMod_7cf53_16 ?_
      exact bk_iR X hr rfl hf hB (Nat.le_of_ble_eq_true rfl) (Nat.le_of_ble_eq_true rfl) dJ9_floorMod_7cf53_17
theorem ys_J9_floorMod_7cf53 : bYs yJ9_floorMod_7cf53 RJ9 cJ9_floorMod_7cf53 3 (some .int) 2 := ⟨⟨rfl, by decide, by decide, rfl⟩, wm_636, wm_16, wm_637⟩

theorem dX2_create_0 : decode cX2_create 0 = .ok (.aload_n 0, 1) := by decide +kernel
theorem dX2_create_1 : decode cX2_create 1 = .ok (.getfield 32, 3) := by decide +kernel
theorem dX2_create_4 : decode cX2_create 4 = .ok (.bipush 6, 2) := by decide +kernel
theorem dX2_create_6 : decode cX2_create 6 = .ok (.if_icmp .lt 5, 3) := by decide +kernel
theorem dX2_create_9 : decode cX2_create 9 = .ok (.iconst (-1), 1) := by decide +kernel
theorem dX2_create_10 : decode cX2_create 10 = .ok (.ireturn, 1) := by decide +kernel
theorem dX2_create_11 : decode cX2_create 11 = .ok (.aload_n 0, 1) := by decide +kernel
theorem dX2_create_12 : decode cX2_create 12 = .ok (.getfield 32, 3) := by decide +kernel
theorem dX2_create_15 : decode cX2_create 15 = .ok (.istore_n 2, 1) := by decide +kernel
theorem dX2_create_16 : decode cX2_create 16 = .ok (.aload_n 0, 1) := by decide +kernel
theorem dX2_create_17 : decode cX2_create 17 = .ok (.getfield 9, 3) := by decide +kernel
theorem dX2_create_20 : decode cX2_create 20 = .ok (.iload_n 2, 1) := by decide +kernel
theorem dX2_create_21 : decode cX2_create 21 = .ok (.iload_n 1, 1) := by decide +kernel
theorem dX2_create_22 : decode cX2_create 22 = .ok (.iastore, 1) := by decide +kernel
theorem dX2_create_23 : decode cX2_create 23 = .ok (.aload_n 0, 1) := by decide +kernel
theorem dX2_create_24 : decode cX2_create 24 = .ok (.getfield 15, 3) := by decide +kernel
theorem dX2_create_27 : decode cX2_create 27 = .ok (.iload_n 2, 1) := by decide +kernel
theorem dX2_create_28 : decode cX2_create 28 = .ok (.iconst 0, 1) := by decide +kernel
theorem dX2_create_29 : decode cX2_create 29 = .ok (.iastore, 1) := by decide +kernel
theorem dX2_create_30 : decode cX2_create 30 = .ok (.aload_n 0, 1) := by decide +kernel
theorem dX2_create_31 : decode cX2_create 31 = .ok (.getfield 26, 3) := by decide +kernel
theorem dX2_create_34 : decode cX2_create 34 = .ok (.iload_n 2, 1) := by decide +kernel
theorem dX2_create_35 : decode cX2_create 35 = .ok (.iconst 0, 1) := by decide +kernel
theorem dX2_create_36 : decode cX2_create 36 = .ok (.iastore, 1) := by decide +kernel
theorem dX2_create_37 : decode cX2_create 37 = .ok (.aload_n 0, 1) := by decide +kernel
theorem dX2_create_38 : decode cX2_create 38 = .ok (.getfield 29, 3) := by decide +kernel
theorem dX2_create_41 : decode cX2_create 41 = .ok (.iload_n 2, 1) := by decide +kernel
theorem dX2_create_42 : decode cX2_create 42 = .ok (.iconst 0, 1) := by decide +kernel
theorem dX2_create_43 : decode cX2_create 43 = .ok (.iastore, 1) := by decide +kernel
theorem dX2_create_44 : decode cX2_create 44 = .ok (.aload_n 0, 1) := by decide +kernel
theorem dX2_create_45 : decode cX2_create 45 = .ok (.dup, 1) := by decide +kernel
theorem dX2_create_46 : decode cX2_create 46 = .ok (.getfield 32, 3) := by decide +kernel
theorem dX2_create_49 : decode cX2_create 49 = .ok (.iconst 1, 1) := by decide +kernel
theorem dX2_create_50 : decode cX2_create 50 = .ok (.iadd, 1) := by decide +kernel
theorem dX2_create_51 : decode cX2_create 51 = .ok (.putfield 32, 3) := by decide +kernel
theorem dX2_create_54 : decode cX2_create 54 = .ok (.iload_n 2, 1) := by decide +kernel
theorem dX2_create_55 : decode cX2_create 55 = .ok (.ireturn, 1) := by decide +kernel
def fX2_create (p1 : Int32) (v : bM) : Option (Int32 × bM) :=
  (if (v 0) < 6 then (nm (v 0) fun x2 => ck x2 6 <| nm (upd v (1 + x2.toNatClampNeg) p1) fun v4 => ck x2 6 <| nm (upd v4 (7 + x2.toNatClampNeg) 0) fun v6 => ck x2 6 <| nm (upd v6 (157 + x2.toNatClampNeg) 0) fun v8 => ck x2 6 <| nm (upd v8 (163 + x2.toNatClampNeg) 0) fun v10 => nm ((v10 0) + 1) fun x11 => nm (upd v10 0 x11) fun v12 => some (x2, v12)) else (some ((-1), v)))
set_option maxRecDepth 100000 in
set_option maxHeartbeats 4000000 in
theorem mX2_create {l : Launch} {p1 : Int32} {v : bM} {r0 : Int32} {w0 : bM} (hf : fX2_create p1 v = some (r0, w0)) : bMet l yX2_create cX2_create 3 (some .int) 0 0 0 LFl (fun a => [.ref a, .int p1]) v w0 (some (.int r0)) := by
  refine bk_start (by decide) wfFl (fun _ => Nat.le_of_ble_eq_true rfl) ?_
  intro p e s m args below meth c D E a ls H locs X hr hl hB
  have hx := X.1
  have hb := X.2.1
  have hown := X.2.2.2.1
  have hts := X.2.2.2.2.1
  have hl : lv_has ls 3 [(0, .ref a), (1, .int p1)] := hl
  unfold fX2_create at hf
  refine lv_aload_n hx hb dX2_create_0 rfl (lv_at hl 0 rfl) ?_
  refine bk_getI X hB kl_X2 0 lc_Fl_0 0 (by decide) rfl wm_54 dX2_create_1 ?_
  refine lv_bipush (v := 6) hx hb dX2_create_4 (by decide) ?_
  refine lv_icmp_lt (tgt := 11) hx hb dX2_create_6 (by decide) (fun c1 => ?_) (fun c1 => ?_)
  · have hf := (if_pos c1).symm.trans hf
    refine lv_aload_n hx hb dX2_create_11 rfl (lv_at hl 0 rfl) ?_
    refine bk_getI X hB kl_X2 0 lc_Fl_0 0 (by decide) rfl wm_54 dX2_create_12 ?_
    refine lv_topi (fun x2 ex2 => ?_)
    have hf := nm_use hf ex2
    refine lv_istore_n (lv' := [(2, .int x2), (0, .ref a), (1, .int p1)]) hx hb dX2_create_15 rfl hl (by decide) rfl (fun ls hl => ?_)
    refine lv_aload_n hx hb dX2_create_16 rfl (lv_at hl 1 rfl) ?_
    refine bk_getR X hB kl_X2 0 lc_Fl_0 1 (by decide) rfl wm_58 dX2_create_17 ?_
    refine lv_iload_n hx hb dX2_create_20 rfl (lv_at hl 0 rfl) ?_
    refine lv_iload_n hx hb dX2_create_21 rfl (lv_at hl 2 rfl) ?_
    obtain ⟨h3, hf⟩ := ck_some hf
    refine bk_ast X hB 1 lc_Fl_1 h3 dX2_create_22 (fun H locs hB => ?_)
    obtain ⟨v4, ev4⟩ : ∃ y : bM, y = upd v (1 + x2.toNatClampNeg) p1 := ⟨_, rfl⟩
    have hf := nm_use hf ev4
    rw [← ev4] at hB
    refine lv_aload_n hx hb dX2_create_23 rfl (lv_at hl 1 rfl) ?_
    refine bk_getR X hB kl_X2 0 lc_Fl_0 2 (by decide) rfl wm_61 dX2_create_24 ?_
    refine lv_iload_n hx hb dX2_create_27 rfl (lv_at hl 0 rfl) ?_
    refine lv_iconst (v := 0) hx hb dX2_create_28 (by decide) ?_
    obtain ⟨h5, hf⟩ := ck_some hf
    refine bk_ast X hB 2 lc_Fl_2 h5 dX2_create_29 (fun H locs hB => ?_)
    obtain ⟨v6, ev6⟩ : ∃ y : bM, y = upd v4 (7 + x2.toNatClampNeg) 0 := ⟨_, rfl⟩
    have hf := nm_use hf ev6
    rw [← ev6] at hB
    refine lv_aload_n hx hb dX2_create_30 rfl (lv_at hl 1 rfl) ?_
    refine bk_getR X hB kl_X2 0 lc_Fl_0 5 (by decide) rfl wm_68 dX2_create_31 ?_
    refine lv_iload_n hx hb dX2_create_34 rfl (lv_at hl 0 rfl) ?_
    refine lv_iconst (v := 0) hx hb dX2_create_35 (by decide) ?_
    obtain ⟨h7, hf⟩ := ck_some hf
    refine bk_ast X hB 17 lc_Fl_17 h7 dX2_create_36 (fun H locs hB => ?_)
    obtain ⟨v8, ev8⟩ : ∃ y : bM, y = upd v6 (157 + x2.toNatClampNeg) 0 := ⟨_, rfl⟩
    have hf := nm_use hf ev8
    rw [← ev8] at hB
    refine lv_aload_n hx hb dX2_create_37 rfl (lv_at hl 1 rfl) ?_
    refine bk_getR X hB kl_X2 0 lc_Fl_0 6 (by decide) rfl wm_71 dX2_create_38 ?_
    refine lv_iload_n hx hb dX2_create_41 rfl (lv_at hl 0 rfl) ?_
    refine lv_iconst (v := 0) hx hb dX2_create_42 (by decide) ?_
    obtain ⟨h9, hf⟩ := ck_some hf
    refine bk_ast X hB 18 lc_Fl_18 h9 dX2_create_43 (fun H locs hB => ?_)
    obtain ⟨v10, ev10⟩ : ∃ y : bM, y = upd v8 (163 + x2.toNatClampNeg) 0 := ⟨_, rfl⟩
    have hf := nm_use hf ev10
    rw [← ev10] at hB
    refine lv_aload_n hx hb dX2_create_44 rfl (lv_at hl 1 rfl) ?_
    refine lv_dup hx hb dX2_create_45 rfl ?_
    refine bk_getI X hB kl_X2 0 lc_Fl_0 0 (by decide) rfl wm_54 dX2_create_46 ?_
    refine lv_iconst (v := 1) hx hb dX2_create_49 (by decide) ?_
    refine lv_iadd hx hb dX2_create_50 ?_
    refine lv_topi (fun x11 ex11 => ?_)
    have hf := nm_use hf ex11
    refine bk_putI X hB kl_X2 0 lc_Fl_0 0 (by decide) rfl rfl rfl wm_54 dX2_create_51 rfl (fun H locs hB => ?_)
    obtain ⟨v12, ev12⟩ : ∃ y : bM, y = upd v10 0 x11 := ⟨_, rfl⟩
    have hf := nm_use hf ev12
    rw [← ev12] at hB
    refine lv_iload_n hx hb dX2_create_54 rfl (lv_at hl 0 rfl) ?_
    exact bk_iW X hr rfl hf hB (Nat.le_of_ble_eq_true rfl) (Nat.le_of_ble_eq_true rfl) dX2_create_55
  · have hf := (if_neg c1).symm.trans hf
    refine lv_iconst (v := (-1)) hx hb dX2_create_9 (by decide) ?_
    exact bk_iW X hr rfl hf hB (Nat.le_of_ble_eq_true rfl) (Nat.le_of_ble_eq_true rfl) dX2_create_10
theorem yv_X2_create : bYv yX2_create RX2 cX2_create 3 (some .int) 1 := ⟨⟨rfl, by decide, by decide, rfl⟩, wm_564, wm_565, wm_3, wm_566⟩

theorem dX2_highestRecipe_0 : decode cX2_highestRecipe 0 = .ok (.iconst 1, 1) := by decide +kernel
theorem dX2_highestRecipe_1 : decode cX2_highestRecipe 1 = .ok (.istore_n 1, 1) := by decide +kernel
theorem dX2_highestRecipe_2 : decode cX2_highestRecipe 2 = .ok (.iconst 0, 1) := by decide +kernel
theorem dX2_highestRecipe_3 : decode cX2_highestRecipe 3 = .ok (.istore_n 2, 1) := by decide +kernel
theorem dX2_highestRecipe_4 : decode cX2_highestRecipe 4 = .ok (.iload_n 2, 1) := by decide +kernel
theorem dX2_highestRecipe_5 : decode cX2_highestRecipe 5 = .ok (.aload_n 0, 1) := by decide +kernel
theorem dX2_highestRecipe_6 : decode cX2_highestRecipe 6 = .ok (.getfield 32, 3) := by decide +kernel
theorem dX2_highestRecipe_9 : decode cX2_highestRecipe 9 = .ok (.if_icmp .ge 14, 3) := by decide +kernel
theorem dX2_highestRecipe_12 : decode cX2_highestRecipe 12 = .ok (.iload_n 1, 1) := by decide +kernel
theorem dX2_highestRecipe_13 : decode cX2_highestRecipe 13 = .ok (.bipush 10, 2) := by decide +kernel
theorem dX2_highestRecipe_15 : decode cX2_highestRecipe 15 = .ok (.imul, 1) := by decide +kernel
theorem dX2_highestRecipe_16 : decode cX2_highestRecipe 16 = .ok (.istore_n 1, 1) := by decide +kernel
theorem dX2_highestRecipe_17 : decode cX2_highestRecipe 17 = .ok (.iinc 2 1, 3) := by decide +kernel
theorem dX2_highestRecipe_20 : decode cX2_highestRecipe 20 = .ok (.goto (-16), 3) := by decide +kernel
theorem dX2_highestRecipe_23 : decode cX2_highestRecipe 23 = .ok (.iload_n 1, 1) := by decide +kernel
theorem dX2_highestRecipe_24 : decode cX2_highestRecipe 24 = .ok (.iconst 1, 1) := by decide +kernel
theorem dX2_highestRecipe_25 : decode cX2_highestRecipe 25 = .ok (.isub, 1) := by decide +kernel
theorem dX2_highestRecipe_26 : decode cX2_highestRecipe 26 = .ok (.ireturn, 1) := by decide +kernel
def fX2_highestRecipe_L4 (v : bM) (k4 : Int32 → Int32 → Option Int32) (y1 : Int32) (y2 : Int32) : Option Int32 :=
  (if (v 0) ≤ y2 then (some (y1 - 1)) else (nm (y1 * 10) fun x4 => nm (y2 + 1) fun x5 => k4 x4 x5))
def fX2_highestRecipe  (v : bM) : Option Int32 :=
  lp (fX2_highestRecipe_L4 v) (fun _ _ => none) lpN 1 0
set_option maxRecDepth 100000 in
set_option maxHeartbeats 4000000 in
theorem mX2_highestRecipe {l : Launch}  {v : bM} {r0 : Int32} (hf : fX2_highestRecipe  v = some r0) : bMet l yX2_highestRecipe cX2_highestRecipe 3 (some .int) 0 0 0 LFl (fun a => [.ref a]) v v (some (.int r0)) := by
  refine bk_start (by decide) wfFl (fun _ => Nat.le_of_ble_eq_true rfl) ?_
  intro p e s m args below meth c D E a ls H locs X hr hl hB
  have hx := X.1
  have hb := X.2.1
  have hown := X.2.2.2.1
  have hts := X.2.2.2.2.1
  have hl : lv_has ls 3 [(0, .ref a)] := hl
  unfold fX2_highestRecipe at hf
  refine lv_iconst (v := 1) hx hb dX2_highestRecipe_0 (by decide) ?_
  refine lv_istore_n (lv' := [(1, .int 1), (0, .ref a)]) hx hb dX2_highestRecipe_1 rfl hl (by decide) rfl (fun ls hl => ?_)
  refine lv_iconst (v := 0) hx hb dX2_highestRecipe_2 (by decide) ?_
  refine lv_istore_n (lv' := [(2, .int 0), (1, .int 1), (0, .ref a)]) hx hb dX2_highestRecipe_3 rfl hl (by decide) rfl (fun ls hl => ?_)
  have hL4 : ∀ (n4 : Nat) (y1 y2 : Int32) (H : Heap) (locs : List Loc) (ls : Array Slot), lp (fX2_highestRecipe_L4 v) (fun _ _ => none) n4 y1 y2 = some r0 → bB D E LFl a v s.heap H locs → lv_has ls 3 [(0, .ref a), (1, .int y1), (2, .int y2)] → W p l e (rmOf 0 0 0) s m args below meth c H locs 0 0 (bQ below D E LFl a v (some (.int r0)) args s 0 0) (F0 m 4 ls []) := by
    intro n4
    induction n4 with
    | zero => intro y1 y2 H locs ls hf; cases (show (none : Option Int32) = some r0 from hf)
    | succ n4 ih4 =>
      intro y1 y2 H locs ls hf hB hl
      have hf : fX2_highestRecipe_L4 v (lp (fX2_highestRecipe_L4 v) (fun _ _ => none) n4) y1 y2 = some r0 := hf
      unfold fX2_highestRecipe_L4 at hf
      refine lv_iload_n hx hb dX2_highestRecipe_4 rfl (lv_at hl 2 rfl) ?_
      refine lv_aload_n hx hb dX2_highestRecipe_5 rfl (lv_at hl 0 rfl) ?_
      refine bk_getI X hB kl_X2 0 lc_Fl_0 0 (by decide) rfl wm_54 dX2_highestRecipe_6 ?_
      refine lv_icmp_ge (tgt := 23) hx hb dX2_highestRecipe_9 (by decide) (fun c3 => ?_) (fun c3 => ?_)
      · have hf := (if_pos c3).symm.trans hf
        refine lv_iload_n hx hb dX2_highestRecipe_23 rfl (lv_at hl 1 rfl) ?_
        refine lv_iconst (v := 1) hx hb dX2_highestRecipe_24 (by decide) ?_
        refine lv_isub hx hb dX2_highestRecipe_25 ?_
        exact bk_iR X hr rfl hf hB (Nat.le_of_ble_eq_true rfl) (Nat.le_of_ble_eq_true rfl) dX2_highestRecipe_26
      · have hf := (if_neg c3).symm.trans hf
        refine lv_iload_n hx hb dX2_highestRecipe_12 rfl (lv_at hl 1 rfl) ?_
        refine lv_bipush (v := 10) hx hb dX2_highestRecipe_13 (by decide) ?_
        refine lv_imul hx hb dX2_highestRecipe_15 ?_
        refine lv_topi (fun x4 ex4 => ?_)
        have hf := nm_use hf ex4
        refine lv_istore_n (lv' := [(1, .int x4), (0, .ref a), (2, .int y2)]) hx hb dX2_highestRecipe_16 rfl hl (by decide) rfl (fun ls hl => ?_)
        obtain ⟨x5, ex5⟩ : ∃ y : Int32, y = y2 + 1 := ⟨_, rfl⟩
        have hf := nm_use hf ex5
        refine lv_iinc (v := x5) (lv' := [(2, .int x5), (1, .int x4), (0, .ref a)]) hx hb dX2_highestRecipe_17 hl (k := 2) rfl (by rw [ex5]; rfl) (by decide) rfl (fun ls hl => ?_)
        refine lv_goto (tgt := 4) hx hb dX2_highestRecipe_20 (by decide) ?_
        exact ih4 x4 x5 H locs ls hf hB (lv_sub hl [2, 1, 0] rfl)
  exact hL4 lpN 1 0 H locs ls hf hB (lv_sub hl [2, 1, 0] rfl)
theorem yv_X2_highestRecipe : bYv yX2_highestRecipe RX2 cX2_highestRecipe 3 (some .int) 0 := ⟨⟨rfl, by decide, by decide, rfl⟩, wm_542, wm_543, wm_3, wm_544⟩

theorem dX2_stock_0 : decode cX2_stock 0 = .ok (.aload_n 0, 1) := by decide +kernel
theorem dX2_stock_1 : decode cX2_stock 1 = .ok (.getfield 20, 3) := by decide +kernel
theorem dX2_stock_4 : decode cX2_stock 4 = .ok (.iload_n 1, 1) := by decide +kernel
theorem dX2_stock_5 : decode cX2_stock 5 = .ok (.aaload, 1) := by decide +kernel
theorem dX2_stock_6 : decode cX2_stock 6 = .ok (.aload_n 0, 1) := by decide +kernel
theorem dX2_stock_7 : decode cX2_stock 7 = .ok (.getfield 15, 3) := by decide +kernel
theorem dX2_stock_10 : decode cX2_stock 10 = .ok (.iload_n 1, 1) := by decide +kernel
theorem dX2_stock_11 : decode cX2_stock 11 = .ok (.iaload, 1) := by decide +kernel
theorem dX2_stock_12 : decode cX2_stock 12 = .ok (.invokestatic 40, 3) := by decide +kernel
theorem dX2_stock_15 : decode cX2_stock 15 = .ok (.ireturn, 1) := by decide +kernel
def fX2_stock (p1 : Int32) (v : bM) : Option Int32 :=
  ck p1 6 <| ck p1 6 <| bnr (fX8_sumOf 12 (v (7 + p1.toNatClampNeg)) (vw v (13 + 12 * p1.toNatClampNeg))) fun r4 => some (r4)
set_option maxRecDepth 100000 in
set_option maxHeartbeats 4000000 in
theorem mX2_stock {l : Launch} {p1 : Int32} {v : bM} {r0 : Int32} (hf : fX2_stock p1 v = some r0) : bMet l yX2_stock cX2_stock 2 (some .int) 1 0 0 LFl (fun a => [.ref a, .int p1]) v v (some (.int r0)) := by
  refine bk_start (by decide) wfFl (fun _ => Nat.le_of_ble_eq_true rfl) ?_
  intro p e s m args below meth c D E a ls H locs X hr hl hB
  have hx := X.1
  have hb := X.2.1
  have hown := X.2.2.2.1
  have hts := X.2.2.2.2.1
  have hl : lv_has ls 2 [(0, .ref a), (1, .int p1)] := hl
  unfold fX2_stock at hf
  refine lv_aload_n hx hb dX2_stock_0 rfl (lv_at hl 0 rfl) ?_
  refine bk_getR X hB kl_X2 0 lc_Fl_0 3 (by decide) rfl wm_64 dX2_stock_1 ?_
  refine lv_iload_n hx hb dX2_stock_4 rfl (lv_at hl 1 rfl) ?_
  obtain ⟨h1, hf⟩ := ck_some hf
  refine bk_rld X hB 3 lc_Fl_3 h1 dX2_stock_5 ?_
  refine lv_aload_n hx hb dX2_stock_6 rfl (lv_at hl 0 rfl) ?_
  refine bk_getR X hB kl_X2 0 lc_Fl_0 2 (by decide) rfl wm_61 dX2_stock_7 ?_
  refine lv_iload_n hx hb dX2_stock_10 rfl (lv_at hl 1 rfl) ?_
  obtain ⟨h2, hf⟩ := ck_some hf
  refine bk_ald X hB 2 lc_Fl_2 h2 dX2_stock_11 ?_
  obtain ⟨r4, hc3, hf⟩ := bnr_some hf
  refine bk_subR (bSub_arr hB.2.2.1 (by decide) (lr_Fl_3 _ (vp_lt h1))) hB (fun h1 h2 h3 => bk_runSN X (Av := [.ref (a + (4 + 1 * p1.toNatClampNeg)), .int (v (7 + p1.toNatClampNeg))]) (rest := []) (mX8_sumOf hc3) ys_X8_sumOf (List.mem_of_getElem? (i := 8) rfl) ⟨Nat.le_of_ble_eq_true rfl, Nat.le_of_ble_eq_true rfl⟩ rfl rfl hl.1 h1 h2 h3 (Nat.le_of_ble_eq_true rfl) ⟨Nat.le_of_ble_eq_true rfl, Nat.le_of_ble_eq_true rfl⟩ dX2_stock_12) (fun H locs hB => ?_)
  refine W.eq (g2 := F0 m 15 ls [.int r4]) rfl ?_
  exact bk_iR X hr rfl hf hB (Nat.le_of_ble_eq_true rfl) (Nat.le_of_ble_eq_true rfl) dX2_stock_15
theorem yv_X2_stock : bYv yX2_stock RX2 cX2_stock 2 (some .int) 1 := ⟨⟨rfl, by decide, by decide, rfl⟩, wm_600, wm_601, wm_3, wm_602⟩

theorem dX2_value_0 : decode cX2_value 0 = .ok (.iconst 0, 1) := by decide +kernel
theorem dX2_value_1 : decode cX2_value 1 = .ok (.istore_n 1, 1) := by decide +kernel
theorem dX2_value_2 : decode cX2_value 2 = .ok (.iconst 0, 1) := by decide +kernel
theorem dX2_value_3 : decode cX2_value 3 = .ok (.istore_n 2, 1) := by decide +kernel
theorem dX2_value_4 : decode cX2_value 4 = .ok (.iload_n 2, 1) := by decide +kernel
theorem dX2_value_5 : decode cX2_value 5 = .ok (.aload_n 0, 1) := by decide +kernel
theorem dX2_value_6 : decode cX2_value 6 = .ok (.getfield 32, 3) := by decide +kernel
theorem dX2_value_9 : decode cX2_value 9 = .ok (.if_icmp .ge 47, 3) := by decide +kernel
theorem dX2_value_12 : decode cX2_value 12 = .ok (.iconst 0, 1) := by decide +kernel
theorem dX2_value_13 : decode cX2_value 13 = .ok (.istore_n 3, 1) := by decide +kernel
theorem dX2_value_14 : decode cX2_value 14 = .ok (.iload_n 3, 1) := by decide +kernel
theorem dX2_value_15 : decode cX2_value 15 = .ok (.aload_n 0, 1) := by decide +kernel
theorem dX2_value_16 : decode cX2_value 16 = .ok (.getfield 15, 3) := by decide +kernel
theorem dX2_value_19 : decode cX2_value 19 = .ok (.iload_n 2, 1) := by decide +kernel
theorem dX2_value_20 : decode cX2_value 20 = .ok (.iaload, 1) := by decide +kernel
theorem dX2_value_21 : decode cX2_value 21 = .ok (.if_icmp .ge 29, 3) := by decide +kernel
theorem dX2_value_24 : decode cX2_value 24 = .ok (.iload_n 1, 1) := by decide +kernel
theorem dX2_value_25 : decode cX2_value 25 = .ok (.aload_n 0, 1) := by decide +kernel
theorem dX2_value_26 : decode cX2_value 26 = .ok (.getfield 20, 3) := by decide +kernel
theorem dX2_value_29 : decode cX2_value 29 = .ok (.iload_n 2, 1) := by decide +kernel
theorem dX2_value_30 : decode cX2_value 30 = .ok (.aaload, 1) := by decide +kernel
theorem dX2_value_31 : decode cX2_value 31 = .ok (.iload_n 3, 1) := by decide +kernel
theorem dX2_value_32 : decode cX2_value 32 = .ok (.iaload, 1) := by decide +kernel
theorem dX2_value_33 : decode cX2_value 33 = .ok (.aload_n 0, 1) := by decide +kernel
theorem dX2_value_34 : decode cX2_value 34 = .ok (.getfield 23, 3) := by decide +kernel
theorem dX2_value_37 : decode cX2_value 37 = .ok (.iload_n 2, 1) := by decide +kernel
theorem dX2_value_38 : decode cX2_value 38 = .ok (.aaload, 1) := by decide +kernel
theorem dX2_value_39 : decode cX2_value 39 = .ok (.iload_n 3, 1) := by decide +kernel
theorem dX2_value_40 : decode cX2_value 40 = .ok (.iaload, 1) := by decide +kernel
theorem dX2_value_41 : decode cX2_value 41 = .ok (.imul, 1) := by decide +kernel
theorem dX2_value_42 : decode cX2_value 42 = .ok (.iadd, 1) := by decide +kernel
theorem dX2_value_43 : decode cX2_value 43 = .ok (.istore_n 1, 1) := by decide +kernel
theorem dX2_value_44 : decode cX2_value 44 = .ok (.iinc 3 1, 3) := by decide +kernel
theorem dX2_value_47 : decode cX2_value 47 = .ok (.goto (-33), 3) := by decide +kernel
theorem dX2_value_50 : decode cX2_value 50 = .ok (.iinc 2 1, 3) := by decide +kernel
theorem dX2_value_53 : decode cX2_value 53 = .ok (.goto (-49), 3) := by decide +kernel
theorem dX2_value_56 : decode cX2_value 56 = .ok (.iload_n 1, 1) := by decide +kernel
theorem dX2_value_57 : decode cX2_value 57 = .ok (.ireturn, 1) := by decide +kernel
def fX2_value_L14 (v : bM) (y2 : Int32) (k4 : Int32 → Int32 → Option Int32) (k14 : Int32 → Int32 → Option Int32) (y4 : Int32) (y5 : Int32) : Option Int32 :=
  ck y2 6 <| (if (v (7 + y2.toNatClampNeg)) ≤ y5 then (nm (y2 + 1) fun x8 => k4 y4 x8) else (ck y2 6 <| ck y5 12 <| ck y2 6 <| ck y5 12 <| nm (y4 + ((v (13 + 12 * y2.toNatClampNeg + y5.toNatClampNeg)) * (v (85 + 12 * y2.toNatClampNeg + y5.toNatClampNeg)))) fun x13 => nm (y5 + 1) fun x14 => k14 x13 x14))
def fX2_value_L4 (v : bM) (k4 : Int32 → Int32 → Option Int32) (y1 : Int32) (y2 : Int32) : Option Int32 :=
  (if (v 0) ≤ y2 then (some (y1)) else (lp (fX2_value_L14 v y2 k4) (fun _ _ => none) lpN y1 0))
def fX2_value  (v : bM) : Option Int32 :=
  lp (fX2_value_L4 v) (fun _ _ => none) lpN 0 0
set_option maxRecDepth 100000 in
set_option maxHeartbeats 4000000 in
theorem mX2_value {l : Launch}  {v : bM} {r0 : Int32} (hf : fX2_value  v = some r0) : bMet l yX2_value cX2_value 4 (some .int) 0 0 0 LFl (fun a => [.ref a]) v v (some (.int r0)) := by
  refine bk_start (by decide) wfFl (fun _ => Nat.le_of_ble_eq_true rfl) ?_
  intro p e s m args below meth c D E a ls H locs X hr hl hB
  have hx := X.1
  have hb := X.2.1
  have hown := X.2.2.2.1
  have hts := X.2.2.2.2.1
  have hl : lv_has ls 4 [(0, .ref a)] := hl
  unfold fX2_value at hf
  refine lv_iconst (v := 0) hx hb dX2_value_0 (by decide) ?_
  refine lv_istore_n (lv' := [(1, .int 0), (0, .ref a)]) hx hb dX2_value_1 rfl hl (by decide) rfl (fun ls hl => ?_)
  refine lv_iconst (v := 0) hx hb dX2_value_2 (by decide) ?_
  refine lv_istore_n (lv' := [(2, .int 0), (1, .int 0), (0, .ref a)]) hx hb dX2_value_3 rfl hl (by decide) rfl (fun ls hl => ?_)
  have hL4 : ∀ (n4 : Nat) (y1 y2 : Int32) (H : Heap) (locs : List Loc) (ls : Array Slot), lp (fX2_value_L4 v) (fun _ _ => none) n4 y1 y2 = some r0 → bB D E LFl a v s.heap H locs → lv_has ls 4 [(0, .ref a), (1, .int y1), (2, .int y2)] → W p l e (rmOf 0 0 0) s m args below meth c H locs 0 0 (bQ below D E LFl a v (some (.int r0)) args s 0 0) (F0 m 4 ls []) := by
    intro n4
    induction n4 with
    | zero => intro y1 y2 H locs ls hf; cases (show (none : Option Int32) = some r0 from hf)
    | succ n4 ih4 =>
      intro y1 y2 H locs ls hf hB hl
      have hf : fX2_value_L4 v (lp (fX2_value_L4 v) (fun _ _ => none) n4) y1 y2 = some r0 := hf
      unfold fX2_value_L4 at hf
      refine lv_iload_n hx hb dX2_value_4 rfl (lv_at hl 2 rfl) ?_
      refine lv_aload_n hx hb dX2_value_5 rfl (lv_at hl 0 rfl) ?_
      refine bk_getI X hB kl_X2 0 lc_Fl_0 0 (by decide) rfl wm_54 dX2_value_6 ?_
      refine lv_icmp_ge (tgt := 56) hx hb dX2_value_9 (by decide) (fun c3 => ?_) (fun c3 => ?_)
      · have hf := (if_pos c3).symm.trans hf
        refine lv_iload_n hx hb dX2_value_56 rfl (lv_at hl 1 rfl) ?_
        exact bk_iR X hr rfl hf hB (Nat.le_of_ble_eq_true rfl) (Nat.le_of_ble_eq_true rfl) dX2_value_57
      · have hf := (if_neg c3).symm.trans hf
        refine lv_iconst (v := 0) hx hb dX2_value_12 (by decide) ?_
        refine lv_istore_n (lv' := [(3, .int 0), (0, .ref a), (1, .int y1), (2, .int y2)]) hx hb dX2_value_13 rfl hl (by decide) rfl (fun ls hl => ?_)
        have hL14 : ∀ (n14 : Nat) (y4 y5 : Int32) (H : Heap) (locs : List Loc) (ls : Array Slot), lp (fX2_value_L14 v y2 (lp (fX2_value_L4 v) (fun _ _ => none) n4)) (fun _ _ => none) n14 y4 y5 = some r0 → bB D E LFl a v s.heap H locs → lv_has ls 4 [(0, .ref a), (1, .int y4), (2, .int y2), (3, .int y5)] → W p l e (rmOf 0 0 0) s m args below meth c H locs 0 0 (bQ below D E LFl a v (some (.int r0)) args s 0 0) (F0 m 14 ls []) := by
          intro n14
          induction n14 with
          | zero => intro y4 y5 H locs ls hf; cases (show (none : Option Int32) = some r0 from hf)
          | succ n14 ih14 =>
            intro y4 y5 H locs ls hf hB hl
            have hf : fX2_value_L14 v y2 (lp (fX2_value_L4 v) (fun _ _ => none) n4) (lp (fX2_value_L14 v y2 (lp (fX2_value_L4 v) (fun _ _ => none) n4)) (fun _ _ => none) n14) y4 y5 = some r0 := hf
            unfold fX2_value_L14 at hf
            refine lv_iload_n hx hb dX2_value_14 rfl (lv_at hl 3 rfl) ?_
            refine lv_aload_n hx hb dX2_value_15 rfl (lv_at hl 0 rfl) ?_
            refine bk_getR X hB kl_X2 0 lc_Fl_0 2 (by decide) rfl wm_61 dX2_value_16 ?_
            refine lv_iload_n hx hb dX2_value_19 rfl (lv_at hl 2 rfl) ?_
            obtain ⟨h6, hf⟩ := ck_some hf
            refine bk_ald X hB 2 lc_Fl_2 h6 dX2_value_20 ?_
            refine lv_icmp_ge (tgt := 50) hx hb dX2_value_21 (by decide) (fun c7 => ?_) (fun c7 => ?_)
            · have hf := (if_pos c7).symm.trans hf
              obtain ⟨x8, ex8⟩ : ∃ y : Int32, y = y2 + 1 := ⟨_, rfl⟩
              have hf := nm_use hf ex8
              refine lv_iinc (v := x8) (lv' := [(2, .int x8), (0, .ref a), (1, .int y4), (3, .int y5)]) hx hb dX2_value_50 hl (k := 2) rfl (by rw [ex8]; rfl) (by decide) rfl (fun ls hl => ?_)
              refine lv_goto (tgt := 4) hx hb dX2_value_53 (by decide) ?_
              exact ih4 y4 x8 H locs ls hf hB (lv_sub hl [1, 2, 0] rfl)
            · have hf := (if_neg c7).symm.trans hf
              refine lv_iload_n hx hb dX2_value_24 rfl (lv_at hl 1 rfl) ?_
              refine lv_aload_n hx hb dX2_value_25 rfl (lv_at hl 0 rfl) ?_
              refine bk_getR X hB kl_X2 0 lc_Fl_0 3 (by decide) rfl wm_64 dX2_value_26 ?_
              refine lv_iload_n hx hb dX2_value_29 rfl (lv_at hl 2 rfl) ?_
              obtain ⟨h9, hf⟩ := ck_some hf
              refine bk_rld X hB 3 lc_Fl_3 h9 dX2_value_30 ?_
              refine lv_iload_n hx hb dX2_value_31 rfl (lv_at hl 3 rfl) ?_
              obtain ⟨h10, hf⟩ := ck_some hf
              refine bk_ald X hB (4 + 1 * y2.toNatClampNeg) (lr_Fl_3 _ (vp_lt h9)) h10 dX2_value_32 ?_
              refine lv_aload_n hx hb dX2_value_33 rfl (lv_at hl 0 rfl) ?_
              refine bk_getR X hB kl_X2 0 lc_Fl_0 4 (by decide) rfl wm_66 dX2_value_34 ?_
              refine lv_iload_n hx hb dX2_value_37 rfl (lv_at hl 2 rfl) ?_
              obtain ⟨h11, hf⟩ := ck_some hf
              refine bk_rld X hB 10 lc_Fl_10 h11 dX2_value_38 ?_
              refine lv_iload_n hx hb dX2_value_39 rfl (lv_at hl 3 rfl) ?_
              obtain ⟨h12, hf⟩ := ck_some hf
              refine bk_ald X hB (11 + 1 * y2.toNatClampNeg) (lr_Fl_10 _ (vp_lt h11)) h12 dX2_value_40 ?_
              refine lv_imul hx hb dX2_value_41 ?_
              refine lv_iadd hx hb dX2_value_42 ?_
              refine lv_topi (fun x13 ex13 => ?_)
              have hf := nm_use hf ex13
              refine lv_istore_n (lv' := [(1, .int x13), (0, .ref a), (2, .int y2), (3, .int y5)]) hx hb dX2_value_43 rfl hl (by decide) rfl (fun ls hl => ?_)
              obtain ⟨x14, ex14⟩ : ∃ y : Int32, y = y5 + 1 := ⟨_, rfl⟩
              have hf := nm_use hf ex14
              refine lv_iinc (v := x14) (lv' := [(3, .int x14), (1, .int x13), (0, .ref a), (2, .int y2)]) hx hb dX2_value_44 hl (k := 3) rfl (by rw [ex14]; rfl) (by decide) rfl (fun ls hl => ?_)
              refine lv_goto (tgt := 14) hx hb dX2_value_47 (by decide) ?_
              exact ih14 x13 x14 H locs ls hf hB (lv_sub hl [2, 1, 3, 0] rfl)
        exact hL14 lpN y1 0 H locs ls hf hB (lv_sub hl [1, 2, 3, 0] rfl)
  exact hL4 lpN 0 0 H locs ls hf hB (lv_sub hl [2, 1, 0] rfl)
theorem yv_X2_value : bYv yX2_value RX2 cX2_value 4 (some .int) 0 := ⟨⟨rfl, by decide, by decide, rfl⟩, wm_838, wm_839, wm_3, wm_840⟩

theorem dX2_addLot_0 : decode cX2_addLot 0 = .ok (.aload_n 0, 1) := by decide +kernel
theorem dX2_addLot_1 : decode cX2_addLot 1 = .ok (.getfield 15, 3) := by decide +kernel
theorem dX2_addLot_4 : decode cX2_addLot 4 = .ok (.iload_n 1, 1) := by decide +kernel
theorem dX2_addLot_5 : decode cX2_addLot 5 = .ok (.iaload, 1) := by decide +kernel
theorem dX2_addLot_6 : decode cX2_addLot 6 = .ok (.istore 4, 2) := by decide +kernel
theorem dX2_addLot_8 : decode cX2_addLot 8 = .ok (.aload_n 0, 1) := by decide +kernel
theorem dX2_addLot_9 : decode cX2_addLot 9 = .ok (.getfield 20, 3) := by decide +kernel
theorem dX2_addLot_12 : decode cX2_addLot 12 = .ok (.iload_n 1, 1) := by decide +kernel
theorem dX2_addLot_13 : decode cX2_addLot 13 = .ok (.aaload, 1) := by decide +kernel
theorem dX2_addLot_14 : decode cX2_addLot 14 = .ok (.iload 4, 2) := by decide +kernel
theorem dX2_addLot_16 : decode cX2_addLot 16 = .ok (.iload_n 2, 1) := by decide +kernel
theorem dX2_addLot_17 : decode cX2_addLot 17 = .ok (.iastore, 1) := by decide +kernel
theorem dX2_addLot_18 : decode cX2_addLot 18 = .ok (.aload_n 0, 1) := by decide +kernel
theorem dX2_addLot_19 : decode cX2_addLot 19 = .ok (.getfield 23, 3) := by decide +kernel
theorem dX2_addLot_22 : decode cX2_addLot 22 = .ok (.iload_n 1, 1) := by decide +kernel
theorem dX2_addLot_23 : decode cX2_addLot 23 = .ok (.aaload, 1) := by decide +kernel
theorem dX2_addLot_24 : decode cX2_addLot 24 = .ok (.iload 4, 2) := by decide +kernel
theorem dX2_addLot_26 : decode cX2_addLot 26 = .ok (.iload_n 3, 1) := by decide +kernel
theorem dX2_addLot_27 : decode cX2_addLot 27 = .ok (.iastore, 1) := by decide +kernel
theorem dX2_addLot_28 : decode cX2_addLot 28 = .ok (.aload_n 0, 1) := by decide +kernel
theorem dX2_addLot_29 : decode cX2_addLot 29 = .ok (.getfield 15, 3) := by decide +kernel
theorem dX2_addLot_32 : decode cX2_addLot 32 = .ok (.iload_n 1, 1) := by decide +kernel
theorem dX2_addLot_33 : decode cX2_addLot 33 = .ok (.dup2, 1) := by decide +kernel
theorem dX2_addLot_34 : decode cX2_addLot 34 = .ok (.iaload, 1) := by decide +kernel
theorem dX2_addLot_35 : decode cX2_addLot 35 = .ok (.iconst 1, 1) := by decide +kernel
theorem dX2_addLot_36 : decode cX2_addLot 36 = .ok (.iadd, 1) := by decide +kernel
theorem dX2_addLot_37 : decode cX2_addLot 37 = .ok (.iastore, 1) := by decide +kernel
theorem dX2_addLot_38 : decode cX2_addLot 38 = .ok (.return_, 1) := by decide +kernel
def fX2_addLot (p1 : Int32) (p2 : Int32) (p3 : Int32) (v : bM) : Option bM :=
  ck p1 6 <| nm (v (7 + p1.toNatClampNeg)) fun x2 => ck p1 6 <| ck x2 12 <| nm (upd v (13 + 12 * p1.toNatClampNeg + x2.toNatClampNeg) p2) fun v5 => ck p1 6 <| ck x2 12 <| nm (upd v5 (85 + 12 * p1.toNatClampNeg + x2.toNatClampNeg) p3) fun v8 => ck p1 6 <| nm ((v8 (7 + p1.toNatClampNeg)) + 1) fun x10 => ck p1 6 <| nm (upd v8 (7 + p1.toNatClampNeg) x10) fun v12 => some v12
set_option maxRecDepth 100000 in
set_option maxHeartbeats 4000000 in
theorem mX2_addLot {l : Launch} {p1 : Int32} {p2 : Int32} {p3 : Int32} {v : bM} {w0 : bM} (hf : fX2_addLot p1 p2 p3 v = some w0) : bMet l yX2_addLot cX2_addLot 5 none 0 0 0 LFl (fun a => [.ref a, .int p1, .int p2, .int p3]) v w0 none := by
  refine bk_start (by decide) wfFl (fun _ => Nat.le_of_ble_eq_true rfl) ?_
  intro p e s m args below meth c D E a ls H locs X hr hl hB
  have hx := X.1
  have hb := X.2.1
  have hown := X.2.2.2.1
  have hts := X.2.2.2.2.1
  have hl : lv_has ls 5 [(0, .ref a), (1, .int p1), (2, .int p2), (3, .int p3)] := hl
  unfold fX2_addLot at hf
  refine lv_aload_n hx hb dX2_addLot_0 rfl (lv_at hl 0 rfl) ?_
  refine bk_getR X hB kl_X2 0 lc_Fl_0 2 (by decide) rfl wm_61 dX2_addLot_1 ?_
  refine lv_iload_n hx hb dX2_addLot_4 rfl (lv_at hl 1 rfl) ?_
  obtain ⟨h1, hf⟩ := ck_some hf
  refine bk_ald X hB 2 lc_Fl_2 h1 dX2_addLot_5 ?_
  refine lv_topi (fun x2 ex2 => ?_)
  have hf := nm_use hf ex2
  refine lv_istore (lv' := [(4, .int x2), (0, .ref a), (1, .int p1), (2, .int p2), (3, .int p3)]) hx hb dX2_addLot_6 hl (by decide) rfl (fun ls hl => ?_)
  refine lv_aload_n hx hb dX2_addLot_8 rfl (lv_at hl 1 rfl) ?_
  refine bk_getR X hB kl_X2 0 lc_Fl_0 3 (by decide) rfl wm_64 dX2_addLot_9 ?_
  refine lv_iload_n hx hb dX2_addLot_12 rfl (lv_at hl 2 rfl) ?_
  obtain ⟨h3, hf⟩ := ck_some hf
  refine bk_rld X hB 3 lc_Fl_3 h3 dX2_addLot_13 ?_
  refine lv_iload hx hb dX2_addLot_14 (lv_at hl 0 rfl) ?_
  refine lv_iload_n hx hb dX2_addLot_16 rfl (lv_at hl 3 rfl) ?_
  obtain ⟨h4, hf⟩ := ck_some hf
  refine bk_ast X hB (4 + 1 * p1.toNatClampNeg) (lr_Fl_3 _ (vp_lt h3)) h4 dX2_addLot_17 (fun H locs hB => ?_)
  obtain ⟨v5, ev5⟩ : ∃ y : bM, y = upd v (13 + 12 * p1.toNatClampNeg + x2.toNatClampNeg) p2 := ⟨_, rfl⟩
  have hf := nm_use hf ev5
  rw [← ev5] at hB
  refine lv_aload_n hx hb dX2_addLot_18 rfl (lv_at hl 1 rfl) ?_
  refine bk_getR X hB kl_X2 0 lc_Fl_0 4 (by decide) rfl wm_66 dX2_addLot_19 ?_
  refine lv_iload_n hx hb dX2_addLot_22 rfl (lv_at hl 2 rfl) ?_
  obtain ⟨h6, hf⟩ := ck_some hf
  refine bk_rld X hB 10 lc_Fl_10 h6 dX2_addLot_23 ?_
  refine lv_iload hx hb dX2_addLot_24 (lv_at hl 0 rfl) ?_
  refine lv_iload_n hx hb dX2_addLot_26 rfl (lv_at hl 4 rfl) ?_
  obtain ⟨h7, hf⟩ := ck_some hf
  refine bk_ast X hB (11 + 1 * p1.toNatClampNeg) (lr_Fl_10 _ (vp_lt h6)) h7 dX2_addLot_27 (fun H locs hB => ?_)
  obtain ⟨v8, ev8⟩ : ∃ y : bM, y = upd v5 (85 + 12 * p1.toNatClampNeg + x2.toNatClampNeg) p3 := ⟨_, rfl⟩
  have hf := nm_use hf ev8
  rw [← ev8] at hB
  refine lv_aload_n hx hb dX2_addLot_28 rfl (lv_at hl 1 rfl) ?_
  refine bk_getR X hB kl_X2 0 lc_Fl_0 2 (by decide) rfl wm_61 dX2_addLot_29 ?_
  refine lv_iload_n hx hb dX2_addLot_32 rfl (lv_at hl 2 rfl) ?_
  refine lv_dup2_11 hx hb dX2_addLot_33 rfl rfl ?_
  obtain ⟨h9, hf⟩ := ck_some hf
  refine bk_ald X hB 2 lc_Fl_2 h9 dX2_addLot_34 ?_
  refine lv_iconst (v := 1) hx hb dX2_addLot_35 (by decide) ?_
  refine lv_iadd hx hb dX2_addLot_36 ?_
  refine lv_topi (fun x10 ex10 => ?_)
  have hf := nm_use hf ex10
  obtain ⟨h11, hf⟩ := ck_some hf
  refine bk_ast X hB 2 lc_Fl_2 h11 dX2_addLot_37 (fun H locs hB => ?_)
  obtain ⟨v12, ev12⟩ : ∃ y : bM, y = upd v8 (7 + p1.toNatClampNeg) x10 := ⟨_, rfl⟩
  have hf := nm_use hf ev12
  rw [← ev12] at hB
  exact bk_vW X hr rfl hf hB (Nat.le_of_ble_eq_true rfl) (Nat.le_of_ble_eq_true rfl) dX2_addLot_38
theorem yv_X2_addLot : bYv yX2_addLot RX2 cX2_addLot 5 none 3 := ⟨⟨rfl, by decide, by decide, rfl⟩, wm_584, wm_585, wm_3, wm_586⟩

theorem dX2_paidForNext_0 : decode cX2_paidForNext 0 = .ok (.iconst 0, 1) := by decide +kernel
theorem dX2_paidForNext_1 : decode cX2_paidForNext 1 = .ok (.istore_n 3, 1) := by decide +kernel
theorem dX2_paidForNext_2 : decode cX2_paidForNext 2 = .ok (.iload_n 2, 1) := by decide +kernel
theorem dX2_paidForNext_3 : decode cX2_paidForNext 3 = .ok (.istore 4, 2) := by decide +kernel
theorem dX2_paidForNext_5 : decode cX2_paidForNext 5 = .ok (.iconst 0, 1) := by decide +kernel
theorem dX2_paidForNext_6 : decode cX2_paidForNext 6 = .ok (.istore 5, 2) := by decide +kernel
theorem dX2_paidForNext_8 : decode cX2_paidForNext 8 = .ok (.iload 5, 2) := by decide +kernel
theorem dX2_paidForNext_10 : decode cX2_paidForNext 10 = .ok (.aload_n 0, 1) := by decide +kernel
theorem dX2_paidForNext_11 : decode cX2_paidForNext 11 = .ok (.getfield 15, 3) := by decide +kernel
theorem dX2_paidForNext_14 : decode cX2_paidForNext 14 = .ok (.iload_n 1, 1) := by decide +kernel
theorem dX2_paidForNext_15 : decode cX2_paidForNext 15 = .ok (.iaload, 1) := by decide +kernel
theorem dX2_paidForNext_16 : decode cX2_paidForNext 16 = .ok (.if_icmp .ge 52, 3) := by decide +kernel
theorem dX2_paidForNext_19 : decode cX2_paidForNext 19 = .ok (.iload 4, 2) := by decide +kernel
theorem dX2_paidForNext_21 : decode cX2_paidForNext 21 = .ok (.ifCond .le 47, 3) := by decide +kernel
theorem dX2_paidForNext_24 : decode cX2_paidForNext 24 = .ok (.iload 4, 2) := by decide +kernel
theorem dX2_paidForNext_26 : decode cX2_paidForNext 26 = .ok (.aload_n 0, 1) := by decide +kernel
theorem dX2_paidForNext_27 : decode cX2_paidForNext 27 = .ok (.getfield 20, 3) := by decide +kernel
theorem dX2_paidForNext_30 : decode cX2_paidForNext 30 = .ok (.iload_n 1, 1) := by decide +kernel
theorem dX2_paidForNext_31 : decode cX2_paidForNext 31 = .ok (.aaload, 1) := by decide +kernel
theorem dX2_paidForNext_32 : decode cX2_paidForNext 32 = .ok (.iload 5, 2) := by decide +kernel
theorem dX2_paidForNext_34 : decode cX2_paidForNext 34 = .ok (.iaload, 1) := by decide +kernel
theorem dX2_paidForNext_35 : decode cX2_paidForNext 35 = .ok (.invokestatic 44, 3) := by decide +kernel
theorem dX2_paidForNext_38 : decode cX2_paidForNext 38 = .ok (.istore 6, 2) := by decide +kernel
theorem dX2_paidForNext_40 : decode cX2_paidForNext 40 = .ok (.iload_n 3, 1) := by decide +kernel
theorem dX2_paidForNext_41 : decode cX2_paidForNext 41 = .ok (.iload 6, 2) := by decide +kernel
theorem dX2_paidForNext_43 : decode cX2_paidForNext 43 = .ok (.aload_n 0, 1) := by decide +kernel
theorem dX2_paidForNext_44 : decode cX2_paidForNext 44 = .ok (.getfield 23, 3) := by decide +kernel
theorem dX2_paidForNext_47 : decode cX2_paidForNext 47 = .ok (.iload_n 1, 1) := by decide +kernel
theorem dX2_paidForNext_48 : decode cX2_paidForNext 48 = .ok (.aaload, 1) := by decide +kernel
theorem dX2_paidForNext_49 : decode cX2_paidForNext 49 = .ok (.iload 5, 2) := by decide +kernel
theorem dX2_paidForNext_51 : decode cX2_paidForNext 51 = .ok (.iaload, 1) := by decide +kernel
theorem dX2_paidForNext_52 : decode cX2_paidForNext 52 = .ok (.imul, 1) := by decide +kernel
theorem dX2_paidForNext_53 : decode cX2_paidForNext 53 = .ok (.iadd, 1) := by decide +kernel
theorem dX2_paidForNext_54 : decode cX2_paidForNext 54 = .ok (.istore_n 3, 1) := by decide +kernel
theorem dX2_paidForNext_55 : decode cX2_paidForNext 55 = .ok (.iload 4, 2) := by decide +kernel
theorem dX2_paidForNext_57 : decode cX2_paidForNext 57 = .ok (.iload 6, 2) := by decide +kernel
theorem dX2_paidForNext_59 : decode cX2_paidForNext 59 = .ok (.isub, 1) := by decide +kernel
theorem dX2_paidForNext_60 : decode cX2_paidForNext 60 = .ok (.istore 4, 2) := by decide +kernel
theorem dX2_paidForNext_62 : decode cX2_paidForNext 62 = .ok (.iinc 5 1, 3) := by decide +kernel
theorem dX2_paidForNext_65 : decode cX2_paidForNext 65 = .ok (.goto (-57), 3) := by decide +kernel
theorem dX2_paidForNext_68 : decode cX2_paidForNext 68 = .ok (.iload_n 3, 1) := by decide +kernel
theorem dX2_paidForNext_69 : decode cX2_paidForNext 69 = .ok (.ireturn, 1) := by decide +kernel
def fX2_paidForNext_L8 (p1 : Int32) (v : bM) (k8 : Int32 → Int32 → Int32 → Option Int32) (y1 : Int32) (y2 : Int32) (y3 : Int32) : Option Int32 :=
  ck p1 6 <| (if (v (7 + p1.toNatClampNeg)) ≤ y3 then (some (y1)) else ((if y2 ≤ 0 then (some (y1)) else (ck p1 6 <| ck y3 12 <| nm (if (v (13 + 12 * p1.toNatClampNeg + y3.toNatClampNeg)) < y2 then (v (13 + 12 * p1.toNatClampNeg + y3.toNatClampNeg)) else y2) fun x9 => ck p1 6 <| ck y3 12 <| nm (y1 + (x9 * (v (85 + 12 * p1.toNatClampNeg + y3.toNatClampNeg)))) fun x12 => nm (y2 - x9) fun x13 => nm (y3 + 1) fun x14 => k8 x12 x13 x14))))
def fX2_paidForNext (p1 : Int32) (p2 : Int32) (v : bM) : Option Int32 :=
  lp (fX2_paidForNext_L8 p1 v) (fun _ _ _ => none) lpN 0 p2 0
set_option maxRecDepth 100000 in
set_option maxHeartbeats 4000000 in
theorem mX2_paidForNext {l : Launch} {p1 : Int32} {p2 : Int32} {v : bM} {r0 : Int32} (hf : fX2_paidForNext p1 p2 v = some r0) : bMet l yX2_paidForNext cX2_paidForNext 7 (some .int) 1 0 0 LFl (fun a => [.ref a, .int p1, .int p2]) v v (some (.int r0)) := by
  refine bk_start (by decide) wfFl (fun _ => Nat.le_of_ble_eq_true rfl) ?_
  intro p e s m args below meth c D E a ls H locs X hr hl hB
  have hx := X.1
  have hb := X.2.1
  have hown := X.2.2.2.1
  have hts := X.2.2.2.2.1
  have hl : lv_has ls 7 [(0, .ref a), (1, .int p1), (2, .int p2)] := hl
  unfold fX2_paidForNext at hf
  refine lv_iconst (v := 0) hx hb dX2_paidForNext_0 (by decide) ?_
  refine lv_istore_n (lv' := [(3, .int 0), (0, .ref a), (1, .int p1), (2, .int p2)]) hx hb dX2_paidForNext_1 rfl hl (by decide) rfl (fun ls hl => ?_)
  refine lv_iload_n hx hb dX2_paidForNext_2 rfl (lv_at hl 3 rfl) ?_
  refine lv_istore (lv' := [(4, .int p2), (3, .int 0), (0, .ref a), (1, .int p1), (2, .int p2)]) hx hb dX2_paidForNext_3 hl (by decide) rfl (fun ls hl => ?_)
  refine lv_iconst (v := 0) hx hb dX2_paidForNext_5 (by decide) ?_
  refine lv_istore (lv' := [(5, .int 0), (4, .int p2), (3, .int 0), (0, .ref a), (1, .int p1), (2, .int p2)]) hx hb dX2_paidForNext_6 hl (by decide) rfl (fun ls hl => ?_)
  have hL8 : ∀ (n8 : Nat) (y1 y2 y3 : Int32) (H : Heap) (locs : List Loc) (ls : Array Slot), lp (fX2_paidForNext_L8 p1 v) (fun _ _ _ => none) n8 y1 y2 y3 = some r0 → bB D E LFl a v s.heap H locs → lv_has ls 7 [(0, .ref a), (1, .int p1), (3, .int y1), (4, .int y2), (5, .int y3)] → W p l e (rmOf 1 0 0) s m args below meth c H locs 0 0 (bQ below D E LFl a v (some (.int r0)) args s 0 0) (F0 m 8 ls []) := by
    intro n8
    induction n8 with
    | zero => intro y1 y2 y3 H locs ls hf; cases (show (none : Option Int32) = some r0 from hf)
    | succ n8 ih8 =>
      intro y1 y2 y3 H locs ls hf hB hl
      have hf : fX2_paidForNext_L8 p1 v (lp (fX2_paidForNext_L8 p1 v) (fun _ _ _ => none) n8) y1 y2 y3 = some r0 := hf
      unfold fX2_paidForNext_L8 at hf
      refine lv_iload hx hb dX2_paidForNext_8 (lv_at hl 4 rfl) ?_
      refine lv_aload_n hx hb dX2_paidForNext_10 rfl (lv_at hl 0 rfl) ?_
      refine bk_getR X hB kl_X2 0 lc_Fl_0 2 (by decide) rfl wm_61 dX2_paidForNext_11 ?_
      refine lv_iload_n hx hb dX2_paidForNext_14 rfl (lv_at hl 1 rfl) ?_
      obtain ⟨h4, hf⟩ := ck_some hf
      refine bk_ald X hB 2 lc_Fl_2 h4 dX2_paidForNext_15 ?_
      refine lv_icmp_ge (tgt := 68) hx hb dX2_paidForNext_16 (by decide) (fun c5 => ?_) (fun c5 => ?_)
      · have hf := (if_pos c5).symm.trans hf
        refine lv_iload_n hx hb dX2_paidForNext_68 rfl (lv_at hl 2 rfl) ?_
        exact bk_iR X hr rfl hf hB (Nat.le_of_ble_eq_true rfl) (Nat.le_of_ble_eq_true rfl) dX2_paidForNext_69
      · have hf := (if_neg c5).symm.trans hf
        refine lv_iload hx hb dX2_paidForNext_19 (lv_at hl 3 rfl) ?_
        refine lv_if_le (tgt := 68) hx hb dX2_paidForNext_21 (by decide) (fun c6 => ?_) (fun c6 => ?_)
        · have hf := (if_pos c6).symm.trans hf
          refine lv_iload_n hx hb dX2_paidForNext_68 rfl (lv_at hl 2 rfl) ?_
          exact bk_iR X hr rfl hf hB (Nat.le_of_ble_eq_true rfl) (Nat.le_of_ble_eq_true rfl) dX2_paidForNext_69
        · have hf := (if_neg c6).symm.trans hf
          refine lv_iload hx hb dX2_paidForNext_24 (lv_at hl 3 rfl) ?_
          refine lv_aload_n hx hb dX2_paidForNext_26 rfl (lv_at hl 0 rfl) ?_
          refine bk_getR X hB kl_X2 0 lc_Fl_0 3 (by decide) rfl wm_64 dX2_paidForNext_27 ?_
          refine lv_iload_n hx hb dX2_paidForNext_30 rfl (lv_at hl 1 rfl) ?_
          obtain ⟨h7, hf⟩ := ck_some hf
          refine bk_rld X hB 3 lc_Fl_3 h7 dX2_paidForNext_31 ?_
          refine lv_iload hx hb dX2_paidForNext_32 (lv_at hl 4 rfl) ?_
          obtain ⟨h8, hf⟩ := ck_some hf
          refine bk_ald X hB (4 + 1 * p1.toNatClampNeg) (lr_Fl_3 _ (vp_lt h7)) h8 dX2_paidForNext_34 ?_
          refine bk_min X hl.1 wm_614 ⟨Nat.le_of_ble_eq_true rfl, Nat.le_of_ble_eq_true rfl⟩ ⟨Nat.le_of_ble_eq_true rfl, Nat.le_of_ble_eq_true rfl⟩ dX2_paidForNext_35 ?_
          refine lv_topi (fun x9 ex9 => ?_)
          have hf := nm_use hf ex9
          refine lv_istore (lv' := [(6, .int x9), (0, .ref a), (1, .int p1), (3, .int y1), (4, .int y2), (5, .int y3)]) hx hb dX2_paidForNext_38 hl (by decide) rfl (fun ls hl => ?_)
          refine lv_iload_n hx hb dX2_paidForNext_40 rfl (lv_at hl 3 rfl) ?_
          refine lv_iload hx hb dX2_paidForNext_41 (lv_at hl 0 rfl) ?_
          refine lv_aload_n hx hb dX2_paidForNext_43 rfl (lv_at hl 1 rfl) ?_
          refine bk_getR X hB kl_X2 0 lc_Fl_0 4 (by decide) rfl wm_66 dX2_paidForNext_44 ?_
          refine lv_iload_n hx hb dX2_paidForNext_47 rfl (lv_at hl 2 rfl) ?_
          obtain ⟨h10, hf⟩ := ck_some hf
          refine bk_rld X hB 10 lc_Fl_10 h10 dX2_paidForNext_48 ?_
          refine lv_iload hx hb dX2_paidForNext_49 (lv_at hl 5 rfl) ?_
          obtain ⟨h11, hf⟩ := ck_some hf
          refine bk_ald X hB (11 + 1 * p1.toNatClampNeg) (lr_Fl_10 _ (vp_lt h10)) h11 dX2_paidForNext_51 ?_
          refine lv_imul hx hb dX2_paidForNext_52 ?_
          refine lv_iadd hx hb dX2_paidForNext_53 ?_
          refine lv_topi (fun x12 ex12 => ?_)
          have hf := nm_use hf ex12
          refine lv_istore_n (lv' := [(3, .int x12), (6, .int x9), (0, .ref a), (1, .int p1), (4, .int y2), (5, .int y3)]) hx hb dX2_paidForNext_54 rfl hl (by decide) rfl (fun ls hl => ?_)
          refine lv_iload hx hb dX2_paidForNext_55 (lv_at hl 4 rfl) ?_
          refine lv_iload hx hb dX2_paidForNext_57 (lv_at hl 1 rfl) ?_
          refine lv_isub hx hb dX2_paidForNext_59 ?_
          refine lv_topi (fun x13 ex13 => ?_)
          have hf := nm_use hf ex13
          refine lv_istore (lv' := [(4, .int x13), (3, .int x12), (6, .int x9), (0, .ref a), (1, .int p1), (5, .int y3)]) hx hb dX2_paidForNext_60 hl (by decide) rfl (fun ls hl => ?_)
          obtain ⟨x14, ex14⟩ : ∃ y : Int32, y = y3 + 1 := ⟨_, rfl⟩
          have hf := nm_use hf ex14
          refine lv_iinc (v := x14) (lv' := [(5, .int x14), (4, .int x13), (3, .int x12), (6, .int x9), (0, .ref a), (1, .int p1)]) hx hb dX2_paidForNext_62 hl (k := 5) rfl (by rw [ex14]; rfl) (by decide) rfl (fun ls hl => ?_)
          refine lv_goto (tgt := 8) hx hb dX2_paidForNext_65 (by decide) ?_
          exact ih8 x12 x13 x14 H locs ls hf hB (lv_sub hl [4, 5, 2, 1, 0] rfl)
  exact hL8 lpN 0 p2 0 H locs ls hf hB (lv_sub hl [3, 4, 2, 1, 0] rfl)
theorem yv_X2_paidForNext : bYv yX2_paidForNext RX2 cX2_paidForNext 7 (some .int) 2 := ⟨⟨rfl, by decide, by decide, rfl⟩, wm_611, wm_612, wm_3, wm_613⟩

theorem dX2_take_0 : decode cX2_take 0 = .ok (.iload_n 2, 1) := by decide +kernel
theorem dX2_take_1 : decode cX2_take 1 = .ok (.istore_n 3, 1) := by decide +kernel
theorem dX2_take_2 : decode cX2_take 2 = .ok (.iconst 0, 1) := by decide +kernel
theorem dX2_take_3 : decode cX2_take 3 = .ok (.istore 4, 2) := by decide +kernel
theorem dX2_take_5 : decode cX2_take 5 = .ok (.iconst 0, 1) := by decide +kernel
theorem dX2_take_6 : decode cX2_take 6 = .ok (.istore 5, 2) := by decide +kernel
theorem dX2_take_8 : decode cX2_take 8 = .ok (.iload 5, 2) := by decide +kernel
theorem dX2_take_10 : decode cX2_take 10 = .ok (.aload_n 0, 1) := by decide +kernel
theorem dX2_take_11 : decode cX2_take 11 = .ok (.getfield 15, 3) := by decide +kernel
theorem dX2_take_14 : decode cX2_take 14 = .ok (.iload_n 1, 1) := by decide +kernel
theorem dX2_take_15 : decode cX2_take 15 = .ok (.iaload, 1) := by decide +kernel
theorem dX2_take_16 : decode cX2_take 16 = .ok (.if_icmp .ge 80, 3) := by decide +kernel
theorem dX2_take_19 : decode cX2_take 19 = .ok (.iload_n 3, 1) := by decide +kernel
theorem dX2_take_20 : decode cX2_take 20 = .ok (.aload_n 0, 1) := by decide +kernel
theorem dX2_take_21 : decode cX2_take 21 = .ok (.getfield 20, 3) := by decide +kernel
theorem dX2_take_24 : decode cX2_take 24 = .ok (.iload_n 1, 1) := by decide +kernel
theorem dX2_take_25 : decode cX2_take 25 = .ok (.aaload, 1) := by decide +kernel
theorem dX2_take_26 : decode cX2_take 26 = .ok (.iload 5, 2) := by decide +kernel
theorem dX2_take_28 : decode cX2_take 28 = .ok (.iaload, 1) := by decide +kernel
theorem dX2_take_29 : decode cX2_take 29 = .ok (.invokestatic 44, 3) := by decide +kernel
theorem dX2_take_32 : decode cX2_take 32 = .ok (.istore 6, 2) := by decide +kernel
theorem dX2_take_34 : decode cX2_take 34 = .ok (.aload_n 0, 1) := by decide +kernel
theorem dX2_take_35 : decode cX2_take 35 = .ok (.getfield 20, 3) := by decide +kernel
theorem dX2_take_38 : decode cX2_take 38 = .ok (.iload_n 1, 1) := by decide +kernel
theorem dX2_take_39 : decode cX2_take 39 = .ok (.aaload, 1) := by decide +kernel
theorem dX2_take_40 : decode cX2_take 40 = .ok (.iload 5, 2) := by decide +kernel
theorem dX2_take_42 : decode cX2_take 42 = .ok (.iaload, 1) := by decide +kernel
theorem dX2_take_43 : decode cX2_take 43 = .ok (.iload 6, 2) := by decide +kernel
theorem dX2_take_45 : decode cX2_take 45 = .ok (.isub, 1) := by decide +kernel
theorem dX2_take_46 : decode cX2_take 46 = .ok (.istore 7, 2) := by decide +kernel
theorem dX2_take_48 : decode cX2_take 48 = .ok (.iload_n 3, 1) := by decide +kernel
theorem dX2_take_49 : decode cX2_take 49 = .ok (.iload 6, 2) := by decide +kernel
theorem dX2_take_51 : decode cX2_take 51 = .ok (.isub, 1) := by decide +kernel
theorem dX2_take_52 : decode cX2_take 52 = .ok (.istore_n 3, 1) := by decide +kernel
theorem dX2_take_53 : decode cX2_take 53 = .ok (.iload 7, 2) := by decide +kernel
theorem dX2_take_55 : decode cX2_take 55 = .ok (.ifCond .le 35, 3) := by decide +kernel
theorem dX2_take_58 : decode cX2_take 58 = .ok (.aload_n 0, 1) := by decide +kernel
theorem dX2_take_59 : decode cX2_take 59 = .ok (.getfield 20, 3) := by decide +kernel
theorem dX2_take_62 : decode cX2_take 62 = .ok (.iload_n 1, 1) := by decide +kernel
theorem dX2_take_63 : decode cX2_take 63 = .ok (.aaload, 1) := by decide +kernel
theorem dX2_take_64 : decode cX2_take 64 = .ok (.iload 4, 2) := by decide +kernel
theorem dX2_take_66 : decode cX2_take 66 = .ok (.iload 7, 2) := by decide +kernel
theorem dX2_take_68 : decode cX2_take 68 = .ok (.iastore, 1) := by decide +kernel
theorem dX2_take_69 : decode cX2_take 69 = .ok (.aload_n 0, 1) := by decide +kernel
theorem dX2_take_70 : decode cX2_take 70 = .ok (.getfield 23, 3) := by decide +kernel
theorem dX2_take_73 : decode cX2_take 73 = .ok (.iload_n 1, 1) := by decide +kernel
theorem dX2_take_74 : decode cX2_take 74 = .ok (.aaload, 1) := by decide +kernel
theorem dX2_take_75 : decode cX2_take 75 = .ok (.iload 4, 2) := by decide +kernel
theorem dX2_take_77 : decode cX2_take 77 = .ok (.aload_n 0, 1) := by decide +kernel
theorem dX2_take_78 : decode cX2_take 78 = .ok (.getfield 23, 3) := by decide +kernel
theorem dX2_take_81 : decode cX2_take 81 = .ok (.iload_n 1, 1) := by decide +kernel
theorem dX2_take_82 : decode cX2_take 82 = .ok (.aaload, 1) := by decide +kernel
theorem dX2_take_83 : decode cX2_take 83 = .ok (.iload 5, 2) := by decide +kernel
theorem dX2_take_85 : decode cX2_take 85 = .ok (.iaload, 1) := by decide +kernel
theorem dX2_take_86 : decode cX2_take 86 = .ok (.iastore, 1) := by decide +kernel
theorem dX2_take_87 : decode cX2_take 87 = .ok (.iinc 4 1, 3) := by decide +kernel
theorem dX2_take_90 : decode cX2_take 90 = .ok (.iinc 5 1, 3) := by decide +kernel
theorem dX2_take_93 : decode cX2_take 93 = .ok (.goto (-85), 3) := by decide +kernel
theorem dX2_take_96 : decode cX2_take 96 = .ok (.aload_n 0, 1) := by decide +kernel
theorem dX2_take_97 : decode cX2_take 97 = .ok (.getfield 15, 3) := by decide +kernel
theorem dX2_take_100 : decode cX2_take 100 = .ok (.iload_n 1, 1) := by decide +kernel
theorem dX2_take_101 : decode cX2_take 101 = .ok (.iload 4, 2) := by decide +kernel
theorem dX2_take_103 : decode cX2_take 103 = .ok (.iastore, 1) := by decide +kernel
theorem dX2_take_104 : decode cX2_take 104 = .ok (.return_, 1) := by decide +kernel
def fX2_take_J90 (y3 : Int32) (k8 : Int32 → Int32 → Int32 → bM → Option bM) (x15 : Int32) (y16 : Int32) (v17 : bM) : Option bM :=
  nm (y3 + 1) fun x18 => k8 x15 y16 x18 v17
def fX2_take_L8 (p1 : Int32) (k8 : Int32 → Int32 → Int32 → bM → Option bM) (y1 : Int32) (y2 : Int32) (y3 : Int32) (v4 : bM) : Option bM :=
  ck p1 6 <| (if (v4 (7 + p1.toNatClampNeg)) ≤ y3 then (ck p1 6 <| nm (upd v4 (7 + p1.toNatClampNeg) y2) fun v8 => some v8) else (ck p1 6 <| ck y3 12 <| nm (if (v4 (13 + 12 * p1.toNatClampNeg + y3.toNatClampNeg)) < y1 then (v4 (13 + 12 * p1.toNatClampNeg + y3.toNatClampNeg)) else y1) fun x11 => ck p1 6 <| ck y3 12 <| nm ((v4 (13 + 12 * p1.toNatClampNeg + y3.toNatClampNeg)) - x11) fun x14 => nm (y1 - x11) fun x15 => (if x14 ≤ 0 then (fX2_take_J90 y3 k8 x15 y2 v4) else (ck p1 6 <| ck y2 12 <| nm (upd v4 (13 + 12 * p1.toNatClampNeg + y2.toNatClampNeg) x14) fun v22 => ck p1 6 <| ck p1 6 <| ck y3 12 <| nm (v22 (85 + 12 * p1.toNatClampNeg + y3.toNatClampNeg)) fun x26 => ck y2 12 <| nm (upd v22 (85 + 12 * p1.toNatClampNeg + y2.toNatClampNeg) x26) fun v28 => nm (y2 + 1) fun x29 => fX2_take_J90 y3 k8 x15 x29 v28))))
def fX2_take (p1 : Int32) (p2 : Int32) (v : bM) : Option bM :=
  lp (fX2_take_L8 p1) (fun _ _ _ _ => none) lpN p2 0 0 v
set_option maxRecDepth 100000 in
set_option maxHeartbeats 4000000 in
theorem mX2_take {l : Launch} {p1 : Int32} {p2 : Int32} {v : bM} {w0 : bM} (hf : fX2_take p1 p2 v = some w0) : bMet l yX2_take cX2_take 8 none 1 0 0 LFl (fun a => [.ref a, .int p1, .int p2]) v w0 none := by
  refine bk_start (by decide) wfFl (fun _ => Nat.le_of_ble_eq_true rfl) ?_
  intro p e s m args below meth c D E a ls H locs X hr hl hB
  have hx := X.1
  have hb := X.2.1
  have hown := X.2.2.2.1
  have hts := X.2.2.2.2.1
  have hl : lv_has ls 8 [(0, .ref a), (1, .int p1), (2, .int p2)] := hl
  unfold fX2_take at hf
  refine lv_iload_n hx hb dX2_take_0 rfl (lv_at hl 2 rfl) ?_
  refine lv_istore_n (lv' := [(3, .int p2), (0, .ref a), (1, .int p1), (2, .int p2)]) hx hb dX2_take_1 rfl hl (by decide) rfl (fun ls hl => ?_)
  refine lv_iconst (v := 0) hx hb dX2_take_2 (by decide) ?_
  refine lv_istore (lv' := [(4, .int 0), (3, .int p2), (0, .ref a), (1, .int p1), (2, .int p2)]) hx hb dX2_take_3 hl (by decide) rfl (fun ls hl => ?_)
  refine lv_iconst (v := 0) hx hb dX2_take_5 (by decide) ?_
  refine lv_istore (lv' := [(5, .int 0), (4, .int 0), (3, .int p2), (0, .ref a), (1, .int p1), (2, .int p2)]) hx hb dX2_take_6 hl (by decide) rfl (fun ls hl => ?_)
  have hL8 : ∀ (n8 : Nat) (y1 y2 y3 : Int32) (v4 : bM) (H : Heap) (locs : List Loc) (ls : Array Slot), lp (fX2_take_L8 p1) (fun _ _ _ _ => none) n8 y1 y2 y3 v4 = some w0 → bB D E LFl a v4 s.heap H locs → lv_has ls 8 [(0, .ref a), (1, .int p1), (3, .int y1), (4, .int y2), (5, .int y3)] → W p l e (rmOf 1 0 0) s m args below meth c H locs 0 0 (bQ below D E LFl a w0 none args s 0 0) (F0 m 8 ls []) := by
    intro n8
    induction n8 with
    | zero => intro y1 y2 y3 v4 H locs ls hf; cases (show (none : Option bM) = some w0 from hf)
    | succ n8 ih8 =>
      intro y1 y2 y3 v4 H locs ls hf hB hl
      have hf : fX2_take_L8 p1 (lp (fX2_take_L8 p1) (fun _ _ _ _ => none) n8) y1 y2 y3 v4 = some w0 := hf
      unfold fX2_take_L8 at hf
      refine lv_iload hx hb dX2_take_8 (lv_at hl 4 rfl) ?_
      refine lv_aload_n hx hb dX2_take_10 rfl (lv_at hl 0 rfl) ?_
      refine bk_getR X hB kl_X2 0 lc_Fl_0 2 (by decide) rfl wm_61 dX2_take_11 ?_
      refine lv_iload_n hx hb dX2_take_14 rfl (lv_at hl 1 rfl) ?_
      obtain ⟨h5, hf⟩ := ck_some hf
      refine bk_ald X hB 2 lc_Fl_2 h5 dX2_take_15 ?_
      refine lv_icmp_ge (tgt := 96) hx hb dX2_take_16 (by decide) (fun c6 => ?_) (fun c6 => ?_)
      · have hf := (if_pos c6).symm.trans hf
        refine lv_aload_n hx hb dX2_take_96 rfl (lv_at hl 0 rfl) ?_
        refine bk_getR X hB kl_X2 0 lc_Fl_0 2 (by decide) rfl wm_61 dX2_take_97 ?_
        refine lv_iload_n hx hb dX2_take_100 rfl (lv_at hl 1 rfl) ?_
        refine lv_iload hx hb dX2_take_101 (lv_at hl 3 rfl) ?_
        obtain ⟨h7, hf⟩ := ck_some hf
        refine bk_ast X hB 2 lc_Fl_2 h7 dX2_take_103 (fun H locs hB => ?_)
        obtain ⟨v8, ev8⟩ : ∃ y : bM, y = upd v4 (7 + p1.toNatClampNeg) y2 := ⟨_, rfl⟩
        have hf := nm_use hf ev8
        rw [← ev8] at hB
        exact bk_vW X hr rfl hf hB (Nat.le_of_ble_eq_true rfl) (Nat.le_of_ble_eq_true rfl) dX2_take_104
      · have hf := (if_neg c6).symm.trans hf
        refine lv_iload_n hx hb dX2_take_19 rfl (lv_at hl 2 rfl) ?_
        refine lv_aload_n hx hb dX2_take_20 rfl (lv_at hl 0 rfl) ?_
        refine bk_getR X hB kl_X2 0 lc_Fl_0 3 (by decide) rfl wm_64 dX2_take_21 ?_
        refine lv_iload_n hx hb dX2_take_24 rfl (lv_at hl 1 rfl) ?_
        obtain ⟨h9, hf⟩ := ck_some hf
        refine bk_rld X hB 3 lc_Fl_3 h9 dX2_take_25 ?_
        refine lv_iload hx hb dX2_take_26 (lv_at hl 4 rfl) ?_
        obtain ⟨h10, hf⟩ := ck_some hf
        refine bk_ald X hB (4 + 1 * p1.toNatClampNeg) (lr_Fl_3 _ (vp_lt h9)) h10 dX2_take_28 ?_
        refine bk_min X hl.1 wm_614 ⟨Nat.le_of_ble_eq_true rfl, Nat.le_of_ble_eq_true rfl⟩ ⟨Nat.le_of_ble_eq_true rfl, Nat.le_of_ble_eq_true rfl⟩ dX2_take_29 ?_
        refine lv_topi (fun x11 ex11 => ?_)
        have hf := nm_use hf ex11
        refine lv_istore (lv' := [(6, .int x11), (0, .ref a), (1, .int p1), (3, .int y1), (4, .int y2), (5, .int y3)]) hx hb dX2_take_32 hl (by decide) rfl (fun ls hl => ?_)
        refine lv_aload_n hx hb dX2_take_34 rfl (lv_at hl 1 rfl) ?_
        refine bk_getR X hB kl_X2 0 lc_Fl_0 3 (by decide) rfl wm_64 dX2_take_35 ?_
        refine lv_iload_n hx hb dX2_take_38 rfl (lv_at hl 2 rfl) ?_
        obtain ⟨h12, hf⟩ := ck_some hf
        refine bk_rld X hB 3 lc_Fl_3 h12 dX2_take_39 ?_
        refine lv_iload hx hb dX2_take_40 (lv_at hl 5 rfl) ?_
        obtain ⟨h13, hf⟩ := ck_some hf
        refine bk_ald X hB (4 + 1 * p1.toNatClampNeg) (lr_Fl_3 _ (vp_lt h12)) h13 dX2_take_42 ?_
        refine lv_iload hx hb dX2_take_43 (lv_at hl 0 rfl) ?_
        refine lv_isub hx hb dX2_take_45 ?_
        refine lv_topi (fun x14 ex14 => ?_)
        have hf := nm_use hf ex14
        refine lv_istore (lv' := [(7, .int x14), (6, .int x11), (0, .ref a), (1, .int p1), (3, .int y1), (4, .int y2), (5, .int y3)]) hx hb dX2_take_46 hl (by decide) rfl (fun ls hl => ?_)
        refine lv_iload_n hx hb dX2_take_48 rfl (lv_at hl 4 rfl) ?_
        refine lv_iload hx hb dX2_take_49 (lv_at hl 1 rfl) ?_
        refine lv_isub hx hb dX2_take_51 ?_
        refine lv_topi (fun x15 ex15 => ?_)
        have hf := nm_use hf ex15
        refine lv_istore_n (lv' := [(3, .int x15), (7, .int x14), (6, .int x11), (0, .ref a), (1, .int p1), (4, .int y2), (5, .int y3)]) hx hb dX2_take_52 rfl hl (by decide) rfl (fun ls hl => ?_)
        refine lv_iload hx hb dX2_take_53 (lv_at hl 1 rfl) ?_
        have hJ90 : ∀ (y16 : Int32) (v17 : bM) (H : Heap) (locs : List Loc) (ls : Array Slot), fX2_take_J90 y3 (lp (fX2_take_L8 p1) (fun _ _ _ _ => none) n8) x15 y16 v17 = some w0 → bB D E LFl a v17 s.heap H locs → lv_has ls 8 [(0, .ref a), (1, .int p1), (3, .int x15), (4, .int y16), (5, .int y3)] → W p l e (rmOf 1 0 0) s m args below meth c H locs 0 0 (bQ below D E LFl a w0 none args s 0 0) (F0 m 90 ls []) := by
          intro y16 v17 H locs ls hf hB hl
          unfold fX2_take_J90 at hf
          obtain ⟨x18, ex18⟩ : ∃ y : Int32, y = y3 + 1 := ⟨_, rfl⟩
          have hf := nm_use hf ex18
          refine lv_iinc (v := x18) (lv' := [(5, .int x18), (0, .ref a), (1, .int p1), (3, .int x15), (4, .int y16)]) hx hb dX2_take_90 hl (k := 4) rfl (by rw [ex18]; rfl) (by decide) rfl (fun ls hl => ?_)
          refine lv_goto (tgt := 8) hx hb dX2_take_93 (by decide) ?_
          exact ih8 x15 y16 x18 v17 H locs ls hf hB (lv_sub hl [1, 2, 3, 4, 0] rfl)
        refine lv_if_le (tgt := 90) hx hb dX2_take_55 (by decide) (fun c19 => ?_) (fun c19 => ?_)
        · have hf := (if_pos c19).symm.trans hf
          exact hJ90 y2 v4 H locs ls hf hB (lv_sub hl [3, 4, 0, 5, 6] rfl)
        · have hf := (if_neg c19).symm.trans hf
          refine lv_aload_n hx hb dX2_take_58 rfl (lv_at hl 3 rfl) ?_
          refine bk_getR X hB kl_X2 0 lc_Fl_0 3 (by decide) rfl wm_64 dX2_take_59 ?_
          refine lv_iload_n hx hb dX2_take_62 rfl (lv_at hl 4 rfl) ?_
          obtain ⟨h20, hf⟩ := ck_some hf
          refine bk_rld X hB 3 lc_Fl_3 h20 dX2_take_63 ?_
          refine lv_iload hx hb dX2_take_64 (lv_at hl 5 rfl) ?_
          refine lv_iload hx hb dX2_take_66 (lv_at hl 1 rfl) ?_
          obtain ⟨h21, hf⟩ := ck_some hf
          refine bk_ast X hB (4 + 1 * p1.toNatClampNeg) (lr_Fl_3 _ (vp_lt h20)) h21 dX2_take_68 (fun H locs hB => ?_)
          obtain ⟨v22, ev22⟩ : ∃ y : bM, y = upd v4 (13 + 12 * p1.toNatClampNeg + y2.toNatClampNeg) x14 := ⟨_, rfl⟩
          have hf := nm_use hf ev22
          rw [← ev22] at hB
          refine lv_aload_n hx hb dX2_take_69 rfl (lv_at hl 3 rfl) ?_
          refine bk_getR X hB kl_X2 0 lc_Fl_0 4 (by decide) rfl wm_66 dX2_take_70 ?_
          refine lv_iload_n hx hb dX2_take_73 rfl (lv_at hl 4 rfl) ?_
          obtain ⟨h23, hf⟩ := ck_some hf
          refine bk_rld X hB 10 lc_Fl_10 h23 dX2_take_74 ?_
          refine lv_iload hx hb dX2_take_75 (lv_at hl 5 rfl) ?_
          refine lv_aload_n hx hb dX2_take_77 rfl (lv_at hl 3 rfl) ?_
          refine bk_getR X hB kl_X2 0 lc_Fl_0 4 (by decide) rfl wm_66 dX2_take_78 ?_
          refine lv_iload_n hx hb dX2_take_81 rfl (lv_at hl 4 rfl) ?_
          obtain ⟨h24, hf⟩ := ck_some hf
          refine bk_rld X hB 10 lc_Fl_10 h24 dX2_take_82 ?_
          refine lv_iload hx hb dX2_take_83 (lv_at hl 6 rfl) ?_
          obtain ⟨h25, hf⟩ := ck_some hf
          refine bk_ald X hB (11 + 1 * p1.toNatClampNeg) (lr_Fl_10 _ (vp_lt h24)) h25 dX2_take_85 ?_
          refine lv_topi (fun x26 ex26 => ?_)
          have hf := nm_use hf ex26
          obtain ⟨h27, hf⟩ := ck_some hf
          refine bk_ast X hB (11 + 1 * p1.toNatClampNeg) (lr_Fl_10 _ (vp_lt h23)) h27 dX2_take_86 (fun H locs hB => ?_)
          obtain ⟨v28, ev28⟩ : ∃ y : bM, y = upd v22 (85 + 12 * p1.toNatClampNeg + y2.toNatClampNeg) x26 := ⟨_, rfl⟩
          have hf := nm_use hf ev28
          rw [← ev28] at hB
          obtain ⟨x29, ex29⟩ : ∃ y : Int32, y = y2 + 1 := ⟨_, rfl⟩
          have hf := nm_use hf ex29
          refine lv_iinc (v := x29) (lv' := [(4, .int x29), (3, .int x15), (7, .int x14), (6, .int x11), (0, .ref a), (1, .int p1), (5, .int y3)]) hx hb dX2_take_87 hl (k := 5) rfl (by rw [ex29]; rfl) (by decide) rfl (fun ls hl => ?_)
          exact hJ90 x29 v28 H locs ls hf hB (lv_sub hl [4, 5, 1, 0, 6] rfl)
  exact hL8 lpN p2 0 0 v H locs ls hf hB (lv_sub hl [3, 4, 2, 1, 0] rfl)
theorem yv_X2_take : bYv yX2_take RX2 cX2_take 8 none 2 := ⟨⟨rfl, by decide, by decide, rfl⟩, wm_643, wm_644, wm_3, wm_645⟩
