/-! ===== Integer.getChars ===== -/
theorem dJ6_getChars_ba4f3_0 : decode cJ6_getChars_ba4f3 0 = .ok (.iload_n 1, 1) := by decide +kernel
theorem dJ6_getChars_ba4f3_1 : decode cJ6_getChars_ba4f3 1 = .ok (.istore 5, 2) := by decide +kernel
theorem dJ6_getChars_ba4f3_3 : decode cJ6_getChars_ba4f3 3 = .ok (.iload_n 0, 1) := by decide +kernel
theorem dJ6_getChars_ba4f3_4 : decode cJ6_getChars_ba4f3 4 = .ok (.ifCond .ge 7, 3) := by decide +kernel
theorem dJ6_getChars_ba4f3_7 : decode cJ6_getChars_ba4f3 7 = .ok (.iconst 1, 1) := by decide +kernel
theorem dJ6_getChars_ba4f3_8 : decode cJ6_getChars_ba4f3 8 = .ok (.goto 4, 3) := by decide +kernel
theorem dJ6_getChars_ba4f3_11 : decode cJ6_getChars_ba4f3 11 = .ok (.iconst 0, 1) := by decide +kernel
theorem dJ6_getChars_ba4f3_12 : decode cJ6_getChars_ba4f3 12 = .ok (.istore 6, 2) := by decide +kernel
theorem dJ6_getChars_ba4f3_14 : decode cJ6_getChars_ba4f3 14 = .ok (.iload 6, 2) := by decide +kernel
theorem dJ6_getChars_ba4f3_16 : decode cJ6_getChars_ba4f3 16 = .ok (.ifCond .ne 6, 3) := by decide +kernel
theorem dJ6_getChars_ba4f3_19 : decode cJ6_getChars_ba4f3 19 = .ok (.iload_n 0, 1) := by decide +kernel
theorem dJ6_getChars_ba4f3_20 : decode cJ6_getChars_ba4f3 20 = .ok (.ineg, 1) := by decide +kernel
theorem dJ6_getChars_ba4f3_21 : decode cJ6_getChars_ba4f3 21 = .ok (.istore_n 0, 1) := by decide +kernel
theorem dJ6_getChars_ba4f3_22 : decode cJ6_getChars_ba4f3 22 = .ok (.iload_n 0, 1) := by decide +kernel
theorem dJ6_getChars_ba4f3_23 : decode cJ6_getChars_ba4f3 23 = .ok (.bipush (-100), 2) := by decide +kernel
theorem dJ6_getChars_ba4f3_25 : decode cJ6_getChars_ba4f3 25 = .ok (.if_icmp .gt 47, 3) := by decide +kernel
theorem dJ6_getChars_ba4f3_28 : decode cJ6_getChars_ba4f3 28 = .ok (.iload_n 0, 1) := by decide +kernel
theorem dJ6_getChars_ba4f3_29 : decode cJ6_getChars_ba4f3 29 = .ok (.bipush 100, 2) := by decide +kernel
theorem dJ6_getChars_ba4f3_31 : decode cJ6_getChars_ba4f3 31 = .ok (.idiv, 1) := by decide +kernel
theorem dJ6_getChars_ba4f3_32 : decode cJ6_getChars_ba4f3 32 = .ok (.istore_n 3, 1) := by decide +kernel
theorem dJ6_getChars_ba4f3_33 : decode cJ6_getChars_ba4f3 33 = .ok (.iload_n 3, 1) := by decide +kernel
theorem dJ6_getChars_ba4f3_34 : decode cJ6_getChars_ba4f3 34 = .ok (.bipush 100, 2) := by decide +kernel
theorem dJ6_getChars_ba4f3_36 : decode cJ6_getChars_ba4f3 36 = .ok (.imul, 1) := by decide +kernel
theorem dJ6_getChars_ba4f3_37 : decode cJ6_getChars_ba4f3 37 = .ok (.iload_n 0, 1) := by decide +kernel
theorem dJ6_getChars_ba4f3_38 : decode cJ6_getChars_ba4f3 38 = .ok (.isub, 1) := by decide +kernel
theorem dJ6_getChars_ba4f3_39 : decode cJ6_getChars_ba4f3 39 = .ok (.istore 4, 2) := by decide +kernel
theorem dJ6_getChars_ba4f3_41 : decode cJ6_getChars_ba4f3 41 = .ok (.iload_n 3, 1) := by decide +kernel
theorem dJ6_getChars_ba4f3_42 : decode cJ6_getChars_ba4f3 42 = .ok (.istore_n 0, 1) := by decide +kernel
theorem dJ6_getChars_ba4f3_43 : decode cJ6_getChars_ba4f3 43 = .ok (.aload_n 2, 1) := by decide +kernel
theorem dJ6_getChars_ba4f3_44 : decode cJ6_getChars_ba4f3 44 = .ok (.iinc 5 (-1), 3) := by decide +kernel
theorem dJ6_getChars_ba4f3_47 : decode cJ6_getChars_ba4f3 47 = .ok (.iload 5, 2) := by decide +kernel
theorem dJ6_getChars_ba4f3_49 : decode cJ6_getChars_ba4f3 49 = .ok (.getstatic 83, 3) := by decide +kernel
theorem dJ6_getChars_ba4f3_52 : decode cJ6_getChars_ba4f3 52 = .ok (.iload 4, 2) := by decide +kernel
theorem dJ6_getChars_ba4f3_54 : decode cJ6_getChars_ba4f3 54 = .ok (.baload, 1) := by decide +kernel
theorem dJ6_getChars_ba4f3_55 : decode cJ6_getChars_ba4f3 55 = .ok (.bastore, 1) := by decide +kernel
theorem dJ6_getChars_ba4f3_56 : decode cJ6_getChars_ba4f3 56 = .ok (.aload_n 2, 1) := by decide +kernel
theorem dJ6_getChars_ba4f3_57 : decode cJ6_getChars_ba4f3 57 = .ok (.iinc 5 (-1), 3) := by decide +kernel
theorem dJ6_getChars_ba4f3_60 : decode cJ6_getChars_ba4f3 60 = .ok (.iload 5, 2) := by decide +kernel
theorem dJ6_getChars_ba4f3_62 : decode cJ6_getChars_ba4f3 62 = .ok (.getstatic 87, 3) := by decide +kernel
theorem dJ6_getChars_ba4f3_65 : decode cJ6_getChars_ba4f3 65 = .ok (.iload 4, 2) := by decide +kernel
theorem dJ6_getChars_ba4f3_67 : decode cJ6_getChars_ba4f3 67 = .ok (.baload, 1) := by decide +kernel
theorem dJ6_getChars_ba4f3_68 : decode cJ6_getChars_ba4f3 68 = .ok (.bastore, 1) := by decide +kernel
theorem dJ6_getChars_ba4f3_69 : decode cJ6_getChars_ba4f3 69 = .ok (.goto (-47), 3) := by decide +kernel
theorem dJ6_getChars_ba4f3_72 : decode cJ6_getChars_ba4f3 72 = .ok (.aload_n 2, 1) := by decide +kernel
theorem dJ6_getChars_ba4f3_73 : decode cJ6_getChars_ba4f3 73 = .ok (.iinc 5 (-1), 3) := by decide +kernel
theorem dJ6_getChars_ba4f3_76 : decode cJ6_getChars_ba4f3 76 = .ok (.iload 5, 2) := by decide +kernel
theorem dJ6_getChars_ba4f3_78 : decode cJ6_getChars_ba4f3 78 = .ok (.getstatic 83, 3) := by decide +kernel
theorem dJ6_getChars_ba4f3_81 : decode cJ6_getChars_ba4f3 81 = .ok (.iload_n 0, 1) := by decide +kernel
theorem dJ6_getChars_ba4f3_82 : decode cJ6_getChars_ba4f3 82 = .ok (.ineg, 1) := by decide +kernel
theorem dJ6_getChars_ba4f3_83 : decode cJ6_getChars_ba4f3 83 = .ok (.baload, 1) := by decide +kernel
theorem dJ6_getChars_ba4f3_84 : decode cJ6_getChars_ba4f3 84 = .ok (.bastore, 1) := by decide +kernel
theorem dJ6_getChars_ba4f3_85 : decode cJ6_getChars_ba4f3 85 = .ok (.iload_n 0, 1) := by decide +kernel
theorem dJ6_getChars_ba4f3_86 : decode cJ6_getChars_ba4f3 86 = .ok (.bipush (-9), 2) := by decide +kernel
theorem dJ6_getChars_ba4f3_88 : decode cJ6_getChars_ba4f3 88 = .ok (.if_icmp .ge 16, 3) := by decide +kernel
theorem dJ6_getChars_ba4f3_91 : decode cJ6_getChars_ba4f3 91 = .ok (.aload_n 2, 1) := by decide +kernel
theorem dJ6_getChars_ba4f3_92 : decode cJ6_getChars_ba4f3 92 = .ok (.iinc 5 (-1), 3) := by decide +kernel
theorem dJ6_getChars_ba4f3_95 : decode cJ6_getChars_ba4f3 95 = .ok (.iload 5, 2) := by decide +kernel
theorem dJ6_getChars_ba4f3_97 : decode cJ6_getChars_ba4f3 97 = .ok (.getstatic 87, 3) := by decide +kernel
theorem dJ6_getChars_ba4f3_100 : decode cJ6_getChars_ba4f3 100 = .ok (.iload_n 0, 1) := by decide +kernel
theorem dJ6_getChars_ba4f3_101 : decode cJ6_getChars_ba4f3 101 = .ok (.ineg, 1) := by decide +kernel
theorem dJ6_getChars_ba4f3_102 : decode cJ6_getChars_ba4f3 102 = .ok (.baload, 1) := by decide +kernel
theorem dJ6_getChars_ba4f3_103 : decode cJ6_getChars_ba4f3 103 = .ok (.bastore, 1) := by decide +kernel
theorem dJ6_getChars_ba4f3_104 : decode cJ6_getChars_ba4f3 104 = .ok (.iload 6, 2) := by decide +kernel
theorem dJ6_getChars_ba4f3_106 : decode cJ6_getChars_ba4f3 106 = .ok (.ifCond .eq 12, 3) := by decide +kernel
theorem dJ6_getChars_ba4f3_109 : decode cJ6_getChars_ba4f3 109 = .ok (.aload_n 2, 1) := by decide +kernel
theorem dJ6_getChars_ba4f3_110 : decode cJ6_getChars_ba4f3 110 = .ok (.iinc 5 (-1), 3) := by decide +kernel
theorem dJ6_getChars_ba4f3_113 : decode cJ6_getChars_ba4f3 113 = .ok (.iload 5, 2) := by decide +kernel
theorem dJ6_getChars_ba4f3_115 : decode cJ6_getChars_ba4f3 115 = .ok (.bipush 45, 2) := by decide +kernel
theorem dJ6_getChars_ba4f3_117 : decode cJ6_getChars_ba4f3 117 = .ok (.bastore, 1) := by decide +kernel
theorem dJ6_getChars_ba4f3_118 : decode cJ6_getChars_ba4f3 118 = .ok (.iload 5, 2) := by decide +kernel
theorem dJ6_getChars_ba4f3_120 : decode cJ6_getChars_ba4f3 120 = .ok (.ireturn, 1) := by decide +kernel
section GCH
variable {p : Program} {l : Launch} {e : Env} {R : Room} {s : State} {m : MethodId} {args : Array Value} {below : List Frame} {meth : Method} {c : Code} {H : Heap} {locs : List Loc} {cells slots : Nat} {Q : State → Prop}
variable {cc : ByteArray} {pc : Nat} {ls : Array Slot} {rest : List Value} {D : va_G} {E : bE} {own : String} {nL : Nat} {a q : Nat} {A : Nat → Prop} {σ : sG} {mc ms : Nat}
theorem sk_dig1 (X : bCx p s m args meth c RJ6 cc nL D E) (hB : sB D E a q A σ s H locs) {index : Nat} (hw : Cond.fieldLink RJ6 index "java/lang/Integer" "DigitOnes" "[B" ∈ wAll) (hdg : decode cc pc = .ok (.getstatic index, 3))
    (kk : W p l e R s m args below meth c H locs cells slots Q (F0 m (pc + 3) ls (.ref (E.1.2 200) :: rest))) : W p l e R s m args below meth c H locs cells slots Q (F0 m pc ls rest) :=
  va_gets X.1 X.2.1 (va_Z.narrow hB.2.2.2.2.2.1.1.2.2.2.2.1 hB.2.2.2.1) hB.2.2.1 X.2.2.2.1 (X.2.2.2.2.1 _ hw) (fun _ h => h) hdg kk
theorem sk_dld1 (X : bCx p s m args meth c own cc nL D E) (hB : sB D E a q A σ s H locs) {k8 : Nat} (hk : k8 < 100) (hdg : decode cc pc = .ok (.baload, 1))
    (kk : W p l e R s m args below meth c H locs cells slots Q (F0 m (pc + 1) ls (.int (nI (48 + k8 % 10)) :: rest))) : W p l e R s m args below meth c H locs cells slots Q (F0 m pc ls (.int (nI k8) :: .ref (E.1.2 200) :: rest)) := by
  obtain ⟨cell, h1, h2, h3, h4, h5, h6, h7⟩ := hB.tx.1.2.2.2.2.2.2.1
  have hcl : (nI k8).toNatClampNeg = k8 := nI_clamp (by omega)
  have h9 := h6 (nI k8).toNatClampNeg (by rw [hcl]; exact hk)
  refine W.bald X.1 X.2.1 h1 h2 h3 (fun z9 => z9.elim (nI_pos (by omega)) (fun z => by rw [hcl] at z; omega)) h9 rfl rfl hdg ?_
  dsimp only
  rw [hcl]
  exact kk
theorem sk_dig2 (X : bCx p s m args meth c RJ6 cc nL D E) (hB : sB D E a q A σ s H locs) {index : Nat} (hw : Cond.fieldLink RJ6 index "java/lang/Integer" "DigitTens" "[B" ∈ wAll) (hdg : decode cc pc = .ok (.getstatic index, 3))
    (kk : W p l e R s m args below meth c H locs cells slots Q (F0 m (pc + 3) ls (.ref (E.1.2 201) :: rest))) : W p l e R s m args below meth c H locs cells slots Q (F0 m pc ls rest) :=
  va_gets X.1 X.2.1 (va_Z.narrow hB.2.2.2.2.2.1.1.2.2.2.2.2.1 hB.2.2.2.1) hB.2.2.1 X.2.2.2.1 (X.2.2.2.2.1 _ hw) (fun _ h => h) hdg kk
theorem sk_dld2 (X : bCx p s m args meth c own cc nL D E) (hB : sB D E a q A σ s H locs) {k8 : Nat} (hk : k8 < 100) (hdg : decode cc pc = .ok (.baload, 1))
    (kk : W p l e R s m args below meth c H locs cells slots Q (F0 m (pc + 1) ls (.int (nI (48 + k8 / 10)) :: rest))) : W p l e R s m args below meth c H locs cells slots Q (F0 m pc ls (.int (nI k8) :: .ref (E.1.2 201) :: rest)) := by
  obtain ⟨cell, h1, h2, h3, h4, h5, h6, h7⟩ := hB.tx.1.2.2.2.2.2.2.2
  have hcl : (nI k8).toNatClampNeg = k8 := nI_clamp (by omega)
  have h9 := h6 (nI k8).toNatClampNeg (by rw [hcl]; exact hk)
  refine W.bald X.1 X.2.1 h1 h2 h3 (fun z9 => z9.elim (nI_pos (by omega)) (fun z => by rw [hcl] at z; omega)) h9 rfl rfl hdg ?_
  dsimp only
  rw [hcl]
  exact kk
theorem sb_narB (c8 : Nat) : vp_nar .byte (nI c8) = sb_b c8 := rfl
theorem upd_ne {f : Nat → Int32} {i j : Nat} {x : Int32} (h : j ≠ i) : upd f i x j = f j := by unfold upd; rw [if_neg h]
theorem upd_at {f : Nat → Int32} {i j : Nat} {x : Int32} (h : j = i) : upd f i x j = x := by unfold upd; rw [if_pos h]
theorem dec_lo {w i : Nat} (h : 100 ≤ w) (hw : w < 2 ^ 31) (hi : i < sb_dg (w / 100)) : sb_dec w i = sb_dec (w / 100) i := by
  have h1 := sb_dg100 h hw
  unfold sb_dec
  rw [h1, Nat.div_div_eq_div_mul, show sb_dg (w / 100) + 2 - 1 - i = (sb_dg (w / 100) - 1 - i) + 2 by omega, Nat.pow_add, Nat.mul_comm (10 ^ _) (10 ^ 2)]
theorem dec_10 {w i : Nat} (h : i + 2 = sb_dg w) : sb_dec w i = 48 + w / 10 % 10 := by
  unfold sb_dec
  rw [show sb_dg w - 1 - i = 1 by omega, Nat.pow_one]
theorem dec_1 {w i : Nat} (h : i + 1 = sb_dg w) : sb_dec w i = 48 + w % 10 := by
  unfold sb_dec
  rw [show sb_dg w - 1 - i = 0 by omega, Nat.pow_zero, Nat.div_one]
set_option maxRecDepth 100000 in
set_option maxHeartbeats 4000000 in
theorem gc_loop (X : bCx p s m args meth c RJ6 cJ6_getChars_ba4f3 7 D E) {va cap n : Nat} {ml g8 : Int32} (hcap : cap ≤ 1000) (n0 : Nat) : ∀ (f8 w pos : Nat) (arr : Nat → Int32) (H : Heap) (locs : List Loc) (ls : Array Slot), w < f8 → w < 2 ^ 31 → pos = n0 + sb_dg w → pos ≤ cap → sb_Fit arr → sB D E a q A (va, cap, arr, ml, n) s H locs → lv_has ls 7 [(0, .int (-nI w)), (2, .ref va), (5, .int (nI pos)), (6, .int g8)] →
    (∀ (arr' : Nat → Int32) (H : Heap) (locs : List Loc) (ls : Array Slot), sb_Fit arr' → (∀ j, j < n0 → arr' j = arr j) → (∀ j, pos ≤ j → arr' j = arr j) → (∀ i, i < sb_dg w → arr' (n0 + i) = sb_b (sb_dec w i)) → sB D E a q A (va, cap, arr', ml, n) s H locs → lv_has ls 7 [(5, .int (nI n0)), (2, .ref va), (6, .int g8)] → W p l e R s m args below meth c H locs cells slots Q (F0 m 104 ls [])) →
    W p l e R s m args below meth c H locs cells slots Q (F0 m 22 ls []) := by
  have hx := X.1
  have hb := X.2.1
  intro f8
  induction f8 with
  | zero => intro w pos arr H locs ls h1; exact absurd h1 (Nat.not_lt_zero _)
  | succ f8 ih =>
    intro w pos arr H locs ls h1 hw hpos hpc hF hB hl kk
    have hdg9 := sb_dg_in w
    refine lv_iload_n hx hb dJ6_getChars_ba4f3_22 rfl (lv_at hl 0 rfl) ?_
    refine lv_bipush (v := (-100)) hx hb dJ6_getChars_ba4f3_23 (by decide) ?_
    refine lv_icmp_gt (tgt := 72) hx hb dJ6_getChars_ba4f3_25 (by decide) (fun c9 => ?_) (fun c9 => ?_)
    · have hw1 : w < 100 := by
        by_cases z9 : w < 100
        · exact z9
        · exact absurd ((sb_nle hw (by decide : 100 < 2 ^ 31)).mpr (show 100 ≤ w by omega)) (Int32.not_le.mpr c9)
      refine lv_aload_n hx hb dJ6_getChars_ba4f3_72 rfl (lv_at hl 1 rfl) ?_
      refine lv_iinc (v := (nI (pos - 1))) (lv' := [(5, .int (nI (pos - 1))), (0, .int (-nI w)), (2, .ref va), (6, .int g8)]) hx hb dJ6_getChars_ba4f3_73 hl (k := 2) rfl (sb_m1 (by omega)) (by decide) rfl (fun ls hl => ?_)
      refine lv_iload hx hb dJ6_getChars_ba4f3_76 (lv_at hl 0 rfl) ?_
      refine sk_dig1 X hB wm_1489 dJ6_getChars_ba4f3_78 ?_
      refine lv_iload_n hx hb dJ6_getChars_ba4f3_81 rfl (lv_at hl 1 rfl) ?_
      refine lv_ineg hx hb dJ6_getChars_ba4f3_82 ?_
      rw [Int32.neg_neg]
      refine sk_dld1 X hB (k8 := w) (hw1) dJ6_getChars_ba4f3_83 ?_
      refine sk_bst X hB (i := nI (pos - 1)) (nI_in (show pos - 1 < cap by omega) (show cap < 2 ^ 31 by omega)) dJ6_getChars_ba4f3_84 (fun H locs hB => ?_)
      have hp1 : (nI (pos - 1)).toNatClampNeg = pos - 1 := nI_clamp (by omega)
      refine lv_iload_n hx hb dJ6_getChars_ba4f3_85 rfl (lv_at hl 1 rfl) ?_
      refine lv_bipush (v := (-9)) hx hb dJ6_getChars_ba4f3_86 (by decide) ?_
      refine lv_icmp_ge (tgt := 104) hx hb dJ6_getChars_ba4f3_88 (by decide) (fun c8 => ?_) (fun c8 => ?_)
      · have hw2 : w < 10 := by
          by_cases z9 : w < 10
          · exact z9
          · exact absurd ((sb_nlt hw (by decide : 9 < 2 ^ 31)).mpr (show 9 < w by omega)) (Int32.not_lt.mpr c8)
        have hg9 : sb_dg w = 1 := by unfold sb_dg; rw [if_pos hw2]
        have hpn : pos - 1 = n0 := by omega
        rw [hpn] at hl
        refine kk _ H locs ls (sb_fitU hF (sb_fitB _)) (fun j hj => upd_ne (by rw [hp1]; omega)) (fun j hj => upd_ne (by rw [hp1]; omega)) (fun i hi => ?_) hB (lv_sub hl [0, 2, 3] rfl)
        have hi0 : i = 0 := by omega
        subst hi0
        refine (upd_at (by rw [hp1]; omega)).trans ?_
        rw [dec_1 (by omega)]
      · have hw2 : 10 ≤ w := by
          by_cases z9 : 10 ≤ w
          · exact z9
          · exact absurd (show -nI 9 ≤ -nI w from (sb_nle (a := 9) (b := w) (by decide) hw).mpr (by omega)) c8
        have hg9 : sb_dg w = 2 := by unfold sb_dg; rw [if_neg (by omega), if_pos hw1]
        refine lv_aload_n hx hb dJ6_getChars_ba4f3_91 rfl (lv_at hl 2 rfl) ?_
        refine lv_iinc (v := (nI (pos - 1 - 1))) (lv' := [(5, .int (nI (pos - 1 - 1))), (0, .int (-nI w)), (2, .ref va), (6, .int g8)]) hx hb dJ6_getChars_ba4f3_92 hl (k := 0) rfl (sb_m1 (by omega)) (by decide) rfl (fun ls hl => ?_)
        refine lv_iload hx hb dJ6_getChars_ba4f3_95 (lv_at hl 0 rfl) ?_
        refine sk_dig2 X hB wm_1491 dJ6_getChars_ba4f3_97 ?_
        refine lv_iload_n hx hb dJ6_getChars_ba4f3_100 rfl (lv_at hl 1 rfl) ?_
        refine lv_ineg hx hb dJ6_getChars_ba4f3_101 ?_
        rw [Int32.neg_neg]
        refine sk_dld2 X hB (k8 := w) (hw1) dJ6_getChars_ba4f3_102 ?_
        refine sk_bst X hB (i := nI (pos - 1 - 1)) (nI_in (show pos - 1 - 1 < cap by omega) (show cap < 2 ^ 31 by omega)) dJ6_getChars_ba4f3_103 (fun H locs hB => ?_)
        have hp2 : (nI (pos - 1 - 1)).toNatClampNeg = pos - 1 - 1 := nI_clamp (by omega)
        have hpn : pos - 1 - 1 = n0 := by omega
        rw [hpn] at hl
        refine kk _ H locs ls (sb_fitU (sb_fitU hF (sb_fitB _)) (sb_fitB _)) (fun j hj => (upd_ne (by rw [hp2]; omega)).trans (upd_ne (by rw [hp1]; omega))) (fun j hj => (upd_ne (by rw [hp2]; omega)).trans (upd_ne (by rw [hp1]; omega))) (fun i hi => ?_) hB (lv_sub hl [0, 2, 3] rfl)
        by_cases hi0 : i = 0
        · refine (upd_at (by rw [hp2]; omega)).trans ?_
          rw [dec_10 (by omega), Nat.mod_eq_of_lt (show w / 10 < 10 by omega)]
        · refine ((upd_ne (by rw [hp2]; omega)).trans (upd_at (by rw [hp1]; omega))).trans ?_
          rw [dec_1 (by omega)]
    · have hw1 : 100 ≤ w := by
        by_cases z9 : 100 ≤ w
        · exact z9
        · exact absurd ((sb_nlt (a := 100) (b := w) (by decide) hw).mpr (by omega)) c9
      have hdg8 := sb_dg100 hw1 hw
      have hdg7 := sb_dg_in (w / 100)
      refine lv_iload_n hx hb dJ6_getChars_ba4f3_28 rfl (lv_at hl 0 rfl) ?_
      refine lv_bipush (v := 100) hx hb dJ6_getChars_ba4f3_29 (by decide) ?_
      refine lv_idiv hx hb dJ6_getChars_ba4f3_31 (by decide) ?_
      rw [sb_ndiv hw]
      refine lv_istore_n (lv' := [(3, .int (-nI (w / 100))), (0, .int (-nI w)), (2, .ref va), (5, .int (nI pos)), (6, .int g8)]) hx hb dJ6_getChars_ba4f3_32 rfl hl (by decide) rfl (fun ls hl => ?_)
      refine lv_iload_n hx hb dJ6_getChars_ba4f3_33 rfl (lv_at hl 0 rfl) ?_
      refine lv_bipush (v := 100) hx hb dJ6_getChars_ba4f3_34 (by decide) ?_
      refine lv_imul hx hb dJ6_getChars_ba4f3_36 ?_
      refine lv_iload_n hx hb dJ6_getChars_ba4f3_37 rfl (lv_at hl 1 rfl) ?_
      refine lv_isub hx hb dJ6_getChars_ba4f3_38 ?_
      rw [sb_nrem hw]
      refine lv_istore (lv' := [(4, .int (nI (w % 100))), (3, .int (-nI (w / 100))), (0, .int (-nI w)), (2, .ref va), (5, .int (nI pos)), (6, .int g8)]) hx hb dJ6_getChars_ba4f3_39 hl (by decide) rfl (fun ls hl => ?_)
      refine lv_iload_n hx hb dJ6_getChars_ba4f3_41 rfl (lv_at hl 1 rfl) ?_
      refine lv_istore_n (lv' := [(0, .int (-nI (w / 100))), (4, .int (nI (w % 100))), (3, .int (-nI (w / 100))), (2, .ref va), (5, .int (nI pos)), (6, .int g8)]) hx hb dJ6_getChars_ba4f3_42 rfl hl (by decide) rfl (fun ls hl => ?_)
      refine lv_aload_n hx hb dJ6_getChars_ba4f3_43 rfl (lv_at hl 3 rfl) ?_
      refine lv_iinc (v := (nI (pos - 1))) (lv' := [(5, .int (nI (pos - 1))), (0, .int (-nI (w / 100))), (4, .int (nI (w % 100))), (3, .int (-nI (w / 100))), (2, .ref va), (6, .int g8)]) hx hb dJ6_getChars_ba4f3_44 hl (k := 4) rfl (sb_m1 (by omega)) (by decide) rfl (fun ls hl => ?_)
      refine lv_iload hx hb dJ6_getChars_ba4f3_47 (lv_at hl 0 rfl) ?_
      refine sk_dig1 X hB wm_1489 dJ6_getChars_ba4f3_49 ?_
      refine lv_iload hx hb dJ6_getChars_ba4f3_52 (lv_at hl 2 rfl) ?_
      refine sk_dld1 X hB (k8 := w % 100) (by omega) dJ6_getChars_ba4f3_54 ?_
      refine sk_bst X hB (i := nI (pos - 1)) (nI_in (show pos - 1 < cap by omega) (show cap < 2 ^ 31 by omega)) dJ6_getChars_ba4f3_55 (fun H locs hB => ?_)
      have hp1 : (nI (pos - 1)).toNatClampNeg = pos - 1 := nI_clamp (by omega)
      refine lv_aload_n hx hb dJ6_getChars_ba4f3_56 rfl (lv_at hl 4 rfl) ?_
      refine lv_iinc (v := (nI (pos - 1 - 1))) (lv' := [(5, .int (nI (pos - 1 - 1))), (0, .int (-nI (w / 100))), (4, .int (nI (w % 100))), (3, .int (-nI (w / 100))), (2, .ref va), (6, .int g8)]) hx hb dJ6_getChars_ba4f3_57 hl (k := 0) rfl (sb_m1 (by omega)) (by decide) rfl (fun ls hl => ?_)
      refine lv_iload hx hb dJ6_getChars_ba4f3_60 (lv_at hl 0 rfl) ?_
      refine sk_dig2 X hB wm_1491 dJ6_getChars_ba4f3_62 ?_
      refine lv_iload hx hb dJ6_getChars_ba4f3_65 (lv_at hl 2 rfl) ?_
      refine sk_dld2 X hB (k8 := w % 100) (by omega) dJ6_getChars_ba4f3_67 ?_
      refine sk_bst X hB (i := nI (pos - 1 - 1)) (nI_in (show pos - 1 - 1 < cap by omega) (show cap < 2 ^ 31 by omega)) dJ6_getChars_ba4f3_68 (fun H locs hB => ?_)
      have hp2 : (nI (pos - 1 - 1)).toNatClampNeg = pos - 1 - 1 := nI_clamp (by omega)
      refine lv_goto (tgt := 22) hx hb dJ6_getChars_ba4f3_69 (by decide) ?_
      refine ih (w / 100) (pos - 1 - 1) _ H locs ls (by omega) (by omega) (by omega) (by omega) (sb_fitU (sb_fitU hF (sb_fitB _)) (sb_fitB _)) hB (lv_sub hl [1, 4, 0, 5] rfl) (fun arr9 H locs ls k1 k2 k3 k4 k5 k6 => ?_)
      refine kk arr9 H locs ls k1 (fun j hj => (k2 j hj).trans ((upd_ne (by rw [hp2]; omega)).trans (upd_ne (by rw [hp1]; omega)))) (fun j hj => (k3 j (by omega)).trans ((upd_ne (by rw [hp2]; omega)).trans (upd_ne (by rw [hp1]; omega)))) (fun i hi => ?_) k5 k6
      by_cases hi1 : i < sb_dg (w / 100)
      · rw [dec_lo hw1 hw hi1]
        exact k4 i hi1
      by_cases hi2 : i = sb_dg (w / 100)
      · refine ((k3 (n0 + i) (by omega)).trans (upd_at (by rw [hp2]; omega))).trans ?_
        rw [dec_10 (by omega), show w % 100 / 10 = w / 10 % 10 by omega]
      · refine ((k3 (n0 + i) (by omega)).trans ((upd_ne (by rw [hp2]; omega)).trans (upd_at (by rw [hp1]; omega)))).trans ?_
        rw [dec_1 (by omega), show w % 100 % 10 = w % 10 by omega]
end GCH
theorem sDig_len (w : Nat) : (sDig w).length = sb_dg w := by simp [sDig]
theorem sDig_at {w i : Nat} (h : i < sb_dg w) : (sDig w).getD i 0 = sb_dec w i := by
  unfold sDig
  rw [List.getD_eq_getElem?_getD, List.getElem?_map, List.getElem?_range h]
  rfl
set_option maxRecDepth 100000 in
set_option maxHeartbeats 2000000 in
theorem mJ6_getChars {l : Launch} {σ : sG} {w n0 : Nat} (hw : w < 2 ^ 31) (hcap : σ.2.1 ≤ 1000) (hp : n0 + (sb_dg w) ≤ σ.2.1) (hF : sb_Fit σ.2.2.1) : sMet l yJ6_getChars_ba4f3 cJ6_getChars_ba4f3 7 (some .int) 0 0 0 (fun E q => [.int (nI w), .int (nI (n0 + (sb_dg w))), .ref σ.1]) σ (sPo (fun σ' => σ'.1 = σ.1 ∧ σ'.2.1 = σ.2.1 ∧ σ'.2.2.2 = σ.2.2.2 ∧ sb_Fit σ'.2.2.1 ∧ (∀ j, j < n0 → σ'.2.2.1 j = σ.2.2.1 j) ∧ ∀ i, i < sb_dg w → σ'.2.2.1 (n0 + i) = sb_b ((sDig w).getD i 0)) (fun _ _ => some (.int (nI n0)))) := by
  refine sk_start (by decide +kernel) (fun _ _ => Nat.le_of_ble_eq_true rfl) ?_
  intro p e s m args below meth c D E a q ls H locs X hr hl hB
  have hx := X.1
  have hb := X.2.1
  have hown := X.2.2.2.1
  have hts := X.2.2.2.2.1
  have hl : lv_has ls 7 [(0, .int (nI w)), (1, .int (nI (n0 + (sb_dg w)))), (2, .ref σ.1)] := hl
  have hdg9 := sb_dg_in w
  refine lv_iload_n hx hb dJ6_getChars_ba4f3_0 rfl (lv_at hl 1 rfl) ?_
  refine lv_istore (lv' := [(5, .int (nI (n0 + (sb_dg w)))), (0, .int (nI w)), (1, .int (nI (n0 + (sb_dg w)))), (2, .ref σ.1)]) hx hb dJ6_getChars_ba4f3_1 hl (by decide) rfl (fun ls hl => ?_)
  refine lv_iload_n hx hb dJ6_getChars_ba4f3_3 rfl (lv_at hl 1 rfl) ?_
  refine lv_if_ge (tgt := 11) hx hb dJ6_getChars_ba4f3_4 (by decide) (fun _ => ?_) (fun h => absurd (nI_pos' hw) h)
  refine lv_iconst (v := 0) hx hb dJ6_getChars_ba4f3_11 (by decide) ?_
  refine lv_istore (lv' := [(6, .int 0), (5, .int (nI (n0 + (sb_dg w)))), (0, .int (nI w)), (1, .int (nI (n0 + (sb_dg w)))), (2, .ref σ.1)]) hx hb dJ6_getChars_ba4f3_12 hl (by decide) rfl (fun ls hl => ?_)
  refine lv_iload hx hb dJ6_getChars_ba4f3_14 (lv_at hl 0 rfl) ?_
  refine lv_if_ne (tgt := 22) hx hb dJ6_getChars_ba4f3_16 (by decide) (fun h => absurd rfl h) (fun _ => ?_)
  refine lv_iload_n hx hb dJ6_getChars_ba4f3_19 rfl (lv_at hl 2 rfl) ?_
  refine lv_ineg hx hb dJ6_getChars_ba4f3_20 ?_
  refine lv_istore_n (lv' := [(0, .int (-(nI w))), (6, .int 0), (5, .int (nI (n0 + (sb_dg w)))), (1, .int (nI (n0 + (sb_dg w)))), (2, .ref σ.1)]) hx hb dJ6_getChars_ba4f3_21 rfl hl (by decide) rfl (fun ls hl => ?_)
  refine gc_loop X hcap (n0) (w + 1) w (n0 + sb_dg w) σ.2.2.1 H locs ls (by omega) hw rfl (by omega) hF hB (lv_sub hl [0, 4, 2, 1] rfl) (fun arr9 H locs ls k1 k2 k3 k4 hB hl => ?_)
  refine lv_iload hx hb dJ6_getChars_ba4f3_104 (lv_at hl 2 rfl) ?_
  refine lv_if_eq (tgt := 118) hx hb dJ6_getChars_ba4f3_106 (by decide) (fun _ => ?_) (fun h => absurd rfl h)
  refine lv_iload hx hb dJ6_getChars_ba4f3_118 (lv_at hl 0 rfl) ?_
  refine sk_iret X hr rfl hB (hB.po (res := fun _ _ => some (.int (nI n0))) ⟨rfl, rfl, rfl, k1, k2, fun i hi => ?_⟩) (Nat.le_of_ble_eq_true rfl) (Nat.le_of_ble_eq_true rfl) dJ6_getChars_ba4f3_120
  rw [sDig_at hi]
  exact k4 i hi
set_option maxRecDepth 100000 in
set_option maxHeartbeats 2000000 in
theorem mJ6_getCharsN {l : Launch} {σ : sG} {w n0 : Nat} (hw : w < 2 ^ 31) (h0 : 0 < w) (hcap : σ.2.1 ≤ 1000) (hp : n0 + (sb_dg w + 1) ≤ σ.2.1) (hF : sb_Fit σ.2.2.1) : sMet l yJ6_getChars_ba4f3 cJ6_getChars_ba4f3 7 (some .int) 0 0 0 (fun E q => [.int (-nI w), .int (nI (n0 + (sb_dg w + 1))), .ref σ.1]) σ (sPo (fun σ' => σ'.1 = σ.1 ∧ σ'.2.1 = σ.2.1 ∧ σ'.2.2.2 = σ.2.2.2 ∧ sb_Fit σ'.2.2.1 ∧ (∀ j, j < n0 → σ'.2.2.1 j = σ.2.2.1 j) ∧ ∀ i, i < sb_dg w + 1 → σ'.2.2.1 (n0 + i) = sb_b ((45 :: sDig w).getD i 0)) (fun _ _ => some (.int (nI n0)))) := by
  refine sk_start (by decide +kernel) (fun _ _ => Nat.le_of_ble_eq_true rfl) ?_
  intro p e s m args below meth c D E a q ls H locs X hr hl hB
  have hx := X.1
  have hb := X.2.1
  have hown := X.2.2.2.1
  have hts := X.2.2.2.2.1
  have hl : lv_has ls 7 [(0, .int (-nI w)), (1, .int (nI (n0 + (sb_dg w + 1)))), (2, .ref σ.1)] := hl
  have hdg9 := sb_dg_in w
  refine lv_iload_n hx hb dJ6_getChars_ba4f3_0 rfl (lv_at hl 1 rfl) ?_
  refine lv_istore (lv' := [(5, .int (nI (n0 + (sb_dg w + 1)))), (0, .int (-nI w)), (1, .int (nI (n0 + (sb_dg w + 1)))), (2, .ref σ.1)]) hx hb dJ6_getChars_ba4f3_1 hl (by decide) rfl (fun ls hl => ?_)
  refine lv_iload_n hx hb dJ6_getChars_ba4f3_3 rfl (lv_at hl 1 rfl) ?_
  refine lv_if_ge (tgt := 11) hx hb dJ6_getChars_ba4f3_4 (by decide) (fun h => absurd ((sb_nlt (b := 0) hw (by decide)).mpr h0) (Int32.not_lt.mpr h)) (fun _ => ?_)
  refine lv_iconst (v := 1) hx hb dJ6_getChars_ba4f3_7 (by decide) ?_
  refine lv_goto (tgt := 12) hx hb dJ6_getChars_ba4f3_8 (by decide) ?_
  refine lv_istore (lv' := [(6, .int 1), (5, .int (nI (n0 + (sb_dg w + 1)))), (0, .int (-nI w)), (1, .int (nI (n0 + (sb_dg w + 1)))), (2, .ref σ.1)]) hx hb dJ6_getChars_ba4f3_12 hl (by decide) rfl (fun ls hl => ?_)
  refine lv_iload hx hb dJ6_getChars_ba4f3_14 (lv_at hl 0 rfl) ?_
  refine lv_if_ne (tgt := 22) hx hb dJ6_getChars_ba4f3_16 (by decide) (fun _ => ?_) (fun h => absurd h (by decide))
  rw [show n0 + (sb_dg w + 1) = n0 + 1 + sb_dg w by omega] at hl
  refine gc_loop X hcap (n0 + 1) (w + 1) w (n0 + 1 + sb_dg w) σ.2.2.1 H locs ls (by omega) hw rfl (by omega) hF hB (lv_sub hl [2, 4, 1, 0] rfl) (fun arr9 H locs ls k1 k2 k3 k4 hB hl => ?_)
  refine lv_iload hx hb dJ6_getChars_ba4f3_104 (lv_at hl 2 rfl) ?_
  refine lv_if_eq (tgt := 118) hx hb dJ6_getChars_ba4f3_106 (by decide) (fun h => absurd h (by decide)) (fun _ => ?_)
  refine lv_aload_n hx hb dJ6_getChars_ba4f3_109 rfl (lv_at hl 1 rfl) ?_
  refine lv_iinc (v := (nI n0)) (lv' := [(5, .int (nI n0)), (2, .ref σ.1), (6, .int 1)]) hx hb dJ6_getChars_ba4f3_110 hl (k := 0) rfl (by exact (sb_m1 (p := n0 + 1) (by omega)).trans (by rw [Nat.add_sub_cancel])) (by decide) rfl (fun ls hl => ?_)
  refine lv_iload hx hb dJ6_getChars_ba4f3_113 (lv_at hl 0 rfl) ?_
  refine lv_bipush (v := 45) hx hb dJ6_getChars_ba4f3_115 (by decide) ?_
  refine sk_bst X hB (i := nI n0) (nI_in (show n0 < σ.2.1 by omega) (show σ.2.1 < 2 ^ 31 by omega)) dJ6_getChars_ba4f3_117 (fun H locs hB => ?_)
  have hp1 : (nI n0).toNatClampNeg = n0 := nI_clamp (by omega)
  refine lv_iload hx hb dJ6_getChars_ba4f3_118 (lv_at hl 0 rfl) ?_
  refine sk_iret X hr rfl hB (hB.po (res := fun _ _ => some (.int (nI n0))) ⟨rfl, rfl, rfl, sb_fitU k1 (sb_fitB _), fun j hj => (upd_ne (by rw [hp1]; omega)).trans (k2 j (by omega)), fun i hi => ?_⟩) (Nat.le_of_ble_eq_true rfl) (Nat.le_of_ble_eq_true rfl) dJ6_getChars_ba4f3_120
  cases i with
  | zero =>
    refine (upd_at (by rw [hp1]; omega)).trans ?_
    rfl
  | succ i =>
    refine (upd_ne (by rw [hp1]; omega)).trans ?_
    rw [show n0 + (i + 1) = n0 + 1 + i by omega, List.getD_cons_succ, sDig_at (by omega)]
    exact k4 i (by omega)
theorem ys_J6_getChars_ba4f3 : bYs yJ6_getChars_ba4f3 RJ6 cJ6_getChars_ba4f3 7 (some .int) 3 := ⟨⟨rfl, by decide, by decide, rfl⟩, wm_1487, wm_30, wm_1488⟩
