/-! ===== the JDK's StringBuilder: growth, a sign appended ===== -/
section SCQ
variable {p : Program} {l : Launch} {e : Env} {R : Room} {s : State} {m : MethodId} {args : Array Value} {below : List Frame} {meth : Method} {c : Code} {H : Heap} {locs : List Loc} {cells slots : Nat} {Q : State → Prop}
variable {cc : ByteArray} {pc : Nat} {ls : Array Slot} {rest : List Value} {D : va_G} {E : bE} {own : String} {nL : Nat} {a q : Nat} {A : Nat → Prop} {σ : sG} {mc ms : Nat}
theorem sk_runS {y : MethodName} {bytes : ByteArray} {maxL d n index : Nat} {ret : Option FieldType} {As : bE → Nat → List Value} {Po : sO} {Av : List Value} {C : String} (X : bCx p s m args meth c own cc nL D E) (hB : sB D E a q A σ s H locs)
    (hM : sMet l y bytes maxL ret d mc ms As σ Po) (hY : bYs y C bytes maxL ret n) (hwl : Cond.methodLink own index y ∈ wAll)
    (hR : d + 1 ≤ R.frames ∧ 8 + (maxL + 11) + 40 * d ≤ R.locals) (hAs : As E q = Av) (hn : Av.length = n) (hsize : ls.size = nL) (hW : (rest.map fun v => v.category).sum ≤ 8) (hf : cells + mc ≤ R.cells ∧ slots + ms ≤ R.slots) (hdg : decode cc pc = .ok (.invokestatic index, 3)) : va_Run p l e R s m args below meth c H locs cells slots mc ms (F0 m pc ls (Av.reverse ++ rest)) rest (sPost D E q (va_A (sW E q σ) H.size) Po Av.toArray) (va_A (sW E q σ) H.size) := by
  obtain ⟨⟨hC, hd⟩, hwi, hwn, hwc⟩ := hY
  subst hC
  exact va_runS (As := Av) (rest := rest) (Ts := wAll) ⟨X.1, X.2.1, X.2.2.1, X.2.2.2.1, X.2.2.2.2.1⟩ (hM D E a q H.size) ⟨callB_of n X.2.2.2.2.1 (wGoodC hwc) rfl rfl rfl (X.2.2.2.2.1 _ hwn) (X.2.2.2.2.1 _ hwl) hd hR, X.2.2.2.2.1 _ hwi⟩ ⟨sBlind D E a q σ H.size (As E q), fun U hU hWa => ⟨by rw [hAs], hB.pre X hU hWa⟩⟩ rfl hn hsize rfl (lv_room hW) hdg hf
/-- the object and the new bytes are the StringBuilder now -/
theorem sB.grown (hB : sB D E a q A σ s H locs) {k h9 : Nat} {f9 : Nat → Int32} {H1 : Heap} {locs1 : List Loc} (hP : va_P D vwCl ([(q, .inr (1, sF (h9, k, f9, σ.2.2.2.1, σ.2.2.2.2))), (σ.1, .inl (E.1.1 4, σ.2.1, .inl σ.2.2.1)), (h9, .inl (E.1.1 4, k, .inl f9))] : va_W) H1) (hD : va_D A ([(q, .inr (1, sF (h9, k, f9, σ.2.2.2.1, σ.2.2.2.2))), (σ.1, .inl (E.1.1 4, σ.2.1, .inl σ.2.2.1)), (h9, .inl (E.1.1 4, k, .inl f9))] : va_W)) (hS : va_S A s.heap H1 locs1) : sB D E a q A (h9, k, f9, σ.2.2.2.1, σ.2.2.2.2) s H1 locs1 :=
  ⟨hP.sub [0, 2] rfl, hD.sub [0, 2] (by decide) rfl, hS, hB.2.2.2⟩
theorem nI_subneg {k n : Nat} (h : k ≤ n) (hn : n < 2 ^ 30) : nI k - nI n ≤ 0 := by
  have h1 : nI k - nI n = -nI (n - k) := by
    rw [← nI_sub h, Int32.neg_sub]
  rw [h1]
  have h2 : (-nI (n - k)).toInt = -((n - k : Nat) : Int) := sb_negT (by omega)
  refine Int32.le_iff_toInt_le.mpr ?_
  rw [h2]
  show -((n - k : Nat) : Int) ≤ 0
  omega
end SCQ
/-- grown for k bytes, or large enough -/
def sGrow (k : Nat) (σ σ' : sG) : Prop := σ'.2.2.2 = σ.2.2.2 ∧ k ≤ σ'.2.1 ∧ σ.2.1 ≤ σ'.2.1 ∧ σ'.2.1 ≤ 1000 ∧ sb_Fit σ'.2.2.1 ∧ ∀ j, j < σ.2.1 → σ'.2.2.1 j = σ.2.2.1 j
theorem ys_J7_copyOf_9075b : bYs yJ7_copyOf_9075b RJ7 cJ7_copyOf_9075b 3 (some (.array .byte)) 2 := ⟨⟨rfl, by decide, by decide, rfl⟩, wm_1410, wm_28, wm_1411⟩
theorem dJ5_ensureCapacityInternal_d00df_0 : decode cJ5_ensureCapacityInternal_d00df 0 = .ok (.aload_n 0, 1) := by decide +kernel
theorem dJ5_ensureCapacityInternal_d00df_1 : decode cJ5_ensureCapacityInternal_d00df 1 = .ok (.getfield 15, 3) := by decide +kernel
theorem dJ5_ensureCapacityInternal_d00df_4 : decode cJ5_ensureCapacityInternal_d00df 4 = .ok (.arraylength, 1) := by decide +kernel
theorem dJ5_ensureCapacityInternal_d00df_5 : decode cJ5_ensureCapacityInternal_d00df 5 = .ok (.aload_n 0, 1) := by decide +kernel
theorem dJ5_ensureCapacityInternal_d00df_6 : decode cJ5_ensureCapacityInternal_d00df 6 = .ok (.getfield 22, 3) := by decide +kernel
theorem dJ5_ensureCapacityInternal_d00df_9 : decode cJ5_ensureCapacityInternal_d00df 9 = .ok (.ishr, 1) := by decide +kernel
theorem dJ5_ensureCapacityInternal_d00df_10 : decode cJ5_ensureCapacityInternal_d00df 10 = .ok (.istore_n 2, 1) := by decide +kernel
theorem dJ5_ensureCapacityInternal_d00df_11 : decode cJ5_ensureCapacityInternal_d00df 11 = .ok (.iload_n 1, 1) := by decide +kernel
theorem dJ5_ensureCapacityInternal_d00df_12 : decode cJ5_ensureCapacityInternal_d00df 12 = .ok (.iload_n 2, 1) := by decide +kernel
theorem dJ5_ensureCapacityInternal_d00df_13 : decode cJ5_ensureCapacityInternal_d00df 13 = .ok (.isub, 1) := by decide +kernel
theorem dJ5_ensureCapacityInternal_d00df_14 : decode cJ5_ensureCapacityInternal_d00df 14 = .ok (.ifCond .le 24, 3) := by decide +kernel
theorem dJ5_ensureCapacityInternal_d00df_17 : decode cJ5_ensureCapacityInternal_d00df 17 = .ok (.aload_n 0, 1) := by decide +kernel
theorem dJ5_ensureCapacityInternal_d00df_18 : decode cJ5_ensureCapacityInternal_d00df 18 = .ok (.aload_n 0, 1) := by decide +kernel
theorem dJ5_ensureCapacityInternal_d00df_19 : decode cJ5_ensureCapacityInternal_d00df 19 = .ok (.getfield 15, 3) := by decide +kernel
theorem dJ5_ensureCapacityInternal_d00df_22 : decode cJ5_ensureCapacityInternal_d00df 22 = .ok (.aload_n 0, 1) := by decide +kernel
theorem dJ5_ensureCapacityInternal_d00df_23 : decode cJ5_ensureCapacityInternal_d00df 23 = .ok (.iload_n 1, 1) := by decide +kernel
theorem dJ5_ensureCapacityInternal_d00df_24 : decode cJ5_ensureCapacityInternal_d00df 24 = .ok (.invokevirtual 104, 3) := by decide +kernel
theorem dJ5_ensureCapacityInternal_d00df_27 : decode cJ5_ensureCapacityInternal_d00df 27 = .ok (.aload_n 0, 1) := by decide +kernel
theorem dJ5_ensureCapacityInternal_d00df_28 : decode cJ5_ensureCapacityInternal_d00df 28 = .ok (.getfield 22, 3) := by decide +kernel
theorem dJ5_ensureCapacityInternal_d00df_31 : decode cJ5_ensureCapacityInternal_d00df 31 = .ok (.ishl, 1) := by decide +kernel
theorem dJ5_ensureCapacityInternal_d00df_32 : decode cJ5_ensureCapacityInternal_d00df 32 = .ok (.invokestatic 108, 3) := by decide +kernel
theorem dJ5_ensureCapacityInternal_d00df_35 : decode cJ5_ensureCapacityInternal_d00df 35 = .ok (.putfield 15, 3) := by decide +kernel
theorem dJ5_ensureCapacityInternal_d00df_38 : decode cJ5_ensureCapacityInternal_d00df 38 = .ok (.return_, 1) := by decide +kernel
set_option maxRecDepth 100000 in
set_option maxHeartbeats 2000000 in
theorem mJ5_ensure {l : Launch} {σ : sG} {k : Nat} (hk : k ≤ 100) (hcap : σ.2.1 ≤ 1000) (hF : sb_Fit σ.2.2.1) : sMet l yJ5_ensureCapacityInternal_d00df cJ5_ensureCapacityInternal_d00df 3 none 3 1 201 (fun E q => [.ref q, .int (nI k)]) σ (sPo (sGrow k σ) (fun _ _ => none)) := by
  refine sk_start (by decide +kernel) (fun _ _ => Nat.le_of_ble_eq_true rfl) ?_
  intro p e s m args below meth c D E a q ls H locs X hr hl hB
  have hx := X.1
  have hb := X.2.1
  have hown := X.2.2.2.1
  have hts := X.2.2.2.2.1
  have hl : lv_has ls 3 [(0, .ref q), (1, .int (nI k))] := hl
  refine lv_aload_n hx hb dJ5_ensureCapacityInternal_d00df_0 rfl (lv_at hl 0 rfl) ?_
  refine sk_get X hB 0 (by decide) wm_369 rfl dJ5_ensureCapacityInternal_d00df_1 ?_
  refine sk_alen X hB dJ5_ensureCapacityInternal_d00df_4 ?_
  refine lv_aload_n hx hb dJ5_ensureCapacityInternal_d00df_5 rfl (lv_at hl 0 rfl) ?_
  refine sk_get X hB 1 (by decide) wm_370 rfl dJ5_ensureCapacityInternal_d00df_6 ?_
  refine lv_ishr hx hb dJ5_ensureCapacityInternal_d00df_9 ?_
  rw [sb_shr0]
  refine lv_istore_n (lv' := [(2, .int (nI σ.2.1)), (0, .ref q), (1, .int (nI k))]) hx hb dJ5_ensureCapacityInternal_d00df_10 rfl hl (by decide) rfl (fun ls hl => ?_)
  refine lv_iload_n hx hb dJ5_ensureCapacityInternal_d00df_11 rfl (lv_at hl 2 rfl) ?_
  refine lv_iload_n hx hb dJ5_ensureCapacityInternal_d00df_12 rfl (lv_at hl 0 rfl) ?_
  refine lv_isub hx hb dJ5_ensureCapacityInternal_d00df_13 ?_
  refine lv_if_le (tgt := 38) hx hb dJ5_ensureCapacityInternal_d00df_14 (by decide) (fun c9 => ?_) (fun c9 => ?_)
  · have hk9 : k ≤ σ.2.1 := by
      by_cases z9 : k ≤ σ.2.1
      · exact z9
      · rw [nI_sub (by omega)] at c9
        exact absurd c9 (nI_nle (by omega) (by omega))
    exact sk_vret X hr rfl hB (hB.po (res := fun _ _ => none) ⟨rfl, hk9, Nat.le_refl _, hcap, hF, fun _ _ => rfl⟩) (Nat.zero_le _) (Nat.zero_le _) dJ5_ensureCapacityInternal_d00df_38
  · have hk9 : σ.2.1 < k := by
      by_cases z9 : σ.2.1 < k
      · exact z9
      · exact absurd (nI_subneg (by omega) (by omega)) c9
    have hn9 := ncap_r hk9 hk
    refine lv_aload_n hx hb dJ5_ensureCapacityInternal_d00df_17 rfl (lv_at hl 1 rfl) ?_
    refine lv_aload_n hx hb dJ5_ensureCapacityInternal_d00df_18 rfl (lv_at hl 1 rfl) ?_
    refine sk_get X hB 0 (by decide) wm_369 rfl dJ5_ensureCapacityInternal_d00df_19 ?_
    refine lv_aload_n hx hb dJ5_ensureCapacityInternal_d00df_22 rfl (lv_at hl 1 rfl) ?_
    refine lv_iload_n hx hb dJ5_ensureCapacityInternal_d00df_23 rfl (lv_at hl 2 rfl) ?_
    refine sk_goP hB (sk_runU X hB (Av := [.int (nI k)]) (rest := [.ref σ.1, .ref q]) (mJ5_newCapacity hk9 hk) ⟨rfl, rfl⟩ wm_1396 wm_2272 (sel_priv (n := 4) ⟨by decide, by decide⟩ (hts _ wm_352) (X.face _ (List.mem_of_getElem? (i := 8) rfl)) (hts _ wm_1398) (hts _ wm_2272)) wm_1398 wm_1399 ⟨Nat.le_of_ble_eq_true rfl, Nat.le_of_ble_eq_true rfl⟩ rfl rfl hl.1 (Nat.le_of_ble_eq_true rfl) ⟨Nat.le_of_ble_eq_true rfl, Nat.le_of_ble_eq_true rfl⟩ dJ5_ensureCapacityInternal_d00df_24) (fun σ1 H locs h19 hB => ?_)
    subst h19
    refine W.eq (g2 := F0 m 27 ls [.int (nI (ncap σ1.2.1 k)), .ref σ1.1, .ref q]) rfl ?_
    refine lv_aload_n hx hb dJ5_ensureCapacityInternal_d00df_27 rfl (lv_at hl 1 rfl) ?_
    refine sk_get X hB 1 (by decide) wm_370 rfl dJ5_ensureCapacityInternal_d00df_28 ?_
    refine lv_ishl hx hb dJ5_ensureCapacityInternal_d00df_31 ?_
    rw [sb_shl0]
    refine sk_go hB (sk_runS X hB (Av := [.ref σ1.1, .int (nI (ncap σ1.2.1 k))]) (rest := [.ref q]) (mJ7_copyOf (Nat.lt_of_lt_of_le hk9 hn9.2.2.2.2.1) hn9.2.2.2.2.2 hF) ys_J7_copyOf_9075b wm_1409 ⟨Nat.le_of_ble_eq_true rfl, Nat.le_of_ble_eq_true rfl⟩ rfl rfl hl.1 (Nat.le_of_ble_eq_true rfl) ⟨Nat.le_of_ble_eq_true rfl, Nat.le_of_ble_eq_true rfl⟩ dJ5_ensureCapacityInternal_d00df_32) (fun r9 H locs h29 _ hS => ?_)
    obtain ⟨h9, f9, rfl, hP, hD, hF9, hf9⟩ := h29
    have hD : va_D _ _ := hD.weaken (fun k8 x8 _ z8 => hB.sub _ z8)
    refine W.eq (g2 := F0 m 35 ls [.ref h9, .ref q]) rfl ?_
    refine va_put hx hb (Ts := wAll) hts kl_J4.2.1 tyJ4 kl_J4.2.2.1 kl_J4.2.2.2 hown X.2.2.2.2.2.1.1 hP hD hS 0 rfl kl_J4.1 0 (by decide) (hts _ wm_369) (fun _ h => h) rfl (ty := .array .byte) (by decide) rfl rfl (show 0 < 4 by decide) dJ5_ensureCapacityInternal_d00df_35 (fun H locs hP hD hS => ?_)
    have hB9 : sB D E a q _ (h9, ncap σ1.2.1 k, f9, σ1.2.2.2.1, σ1.2.2.2.2) s H locs := hB.grown (k := ncap σ1.2.1 k) (h9 := h9) (f9 := f9) hP hD hS
    exact sk_vret X hr rfl hB9 (hB9.po (res := fun _ _ => none) ⟨rfl, hn9.2.2.2.2.1, Nat.le_trans (Nat.le_of_lt hk9) hn9.2.2.2.2.1, Nat.le_trans hn9.2.2.2.2.2 (show 201 ≤ 1000 by decide), hF9, hf9⟩) (Nat.le_of_ble_eq_true rfl) (Nat.le_of_ble_eq_true rfl) dJ5_ensureCapacityInternal_d00df_38
theorem dJ1_canEncode_fc78d_0 : decode cJ1_canEncode_fc78d 0 = .ok (.iload_n 0, 1) := by decide +kernel
theorem dJ1_canEncode_fc78d_1 : decode cJ1_canEncode_fc78d 1 = .ok (.sipush 255, 3) := by decide +kernel
theorem dJ1_canEncode_fc78d_4 : decode cJ1_canEncode_fc78d 4 = .ok (.if_icmp .gt 7, 3) := by decide +kernel
theorem dJ1_canEncode_fc78d_7 : decode cJ1_canEncode_fc78d 7 = .ok (.iconst 1, 1) := by decide +kernel
theorem dJ1_canEncode_fc78d_8 : decode cJ1_canEncode_fc78d 8 = .ok (.goto 4, 3) := by decide +kernel
theorem dJ1_canEncode_fc78d_11 : decode cJ1_canEncode_fc78d 11 = .ok (.iconst 0, 1) := by decide +kernel
theorem dJ1_canEncode_fc78d_12 : decode cJ1_canEncode_fc78d 12 = .ok (.ireturn, 1) := by decide +kernel
set_option maxRecDepth 100000 in
theorem mJ1_canEncode {l : Launch} {c8 : Int32} {v : bM} (hc : c8 ≤ 255) : bMet l yJ1_canEncode_fc78d cJ1_canEncode_fc78d 1 (some .boolean) 0 0 0 [] (fun _ _ => [.int c8]) v v (fun _ => some (.int 1)) := by
  refine bk_start (by decide +kernel) bWf_nil (fun _ _ => Nat.le_of_ble_eq_true rfl) ?_
  intro p e s m args below meth c D E a ls H locs X hr hl hB
  have hx := X.1
  have hb := X.2.1
  have hl : lv_has ls 1 [(0, .int c8)] := hl
  refine lv_iload_n hx hb dJ1_canEncode_fc78d_0 rfl (lv_at hl 0 rfl) ?_
  refine lv_sipush (v := 255) hx hb dJ1_canEncode_fc78d_1 (by decide) ?_
  refine lv_icmp_gt (tgt := 11) hx hb dJ1_canEncode_fc78d_4 (by decide) (fun h => absurd hc (Int32.not_le.mpr h)) (fun _ => ?_)
  refine lv_iconst (v := 1) hx hb dJ1_canEncode_fc78d_7 (by decide) ?_
  refine lv_goto (tgt := 12) hx hb dJ1_canEncode_fc78d_8 (by decide) ?_
  exact bk_nret X hr rfl rfl hB (Nat.le_of_ble_eq_true rfl) (Nat.le_of_ble_eq_true rfl) dJ1_canEncode_fc78d_12
theorem ys_J1_canEncode_fc78d : bYs yJ1_canEncode_fc78d RJ1 cJ1_canEncode_fc78d 1 (some .boolean) 1 := ⟨⟨rfl, by decide, by decide, rfl⟩, wm_1618, wm_14, wm_1619⟩
