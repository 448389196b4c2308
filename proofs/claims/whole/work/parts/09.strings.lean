/-! ===== the JDK's texts: length and signs of a text constant ===== -/
theorem bA_ge {D : va_G} {E : bE} {L : List bC} {a : Nat} {v : bM} {s : State} {H : Heap} {locs : List Loc} (hB : bB D E L a v s H locs) : ∀ q : Nat, bA a L.length s.heap.size q → a ≤ q := by
  obtain ⟨-, -, -, h4, h5, -⟩ := hB
  intro q h
  rcases h with h | h <;> omega
section STRR
variable {p : Program} {l : Launch} {e : Env} {R : Room} {s : State} {m : MethodId} {args : Array Value} {below : List Frame} {meth : Method} {c : Code} {H : Heap} {locs : List Loc} {cells slots : Nat} {Q : State → Prop}
variable {cc : ByteArray} {pc : Nat} {ls : Array Slot} {rest : List Value} {D : va_G} {E : bE} {own : String} {nL : Nat} {L : List bC} {a : Nat} {v : bM} {mc ms : Nat}
theorem bk_nret (X : bCx p s m args meth c own cc nL D E) {ret : Option FieldType} (hr : meth.sig.returnType = ret) {ty : FieldType} (hret : ret = some ty) {x : Int32} (hn : narrow ty (.int x) = .int x) (hB : bB D E L a v s H locs) (hc : cells ≤ mc) (hs : slots ≤ ms) (hdg : decode cc pc = .ok (.ireturn, 1)) : W p l e R s m args below meth c H locs cells slots (bQ below D E L a v (some (.int x)) args s mc ms) (F0 m pc ls [.int x]) := by
  have hlocks := X.2.2.2.2.2.2
  unfold bQ
  refine W.widen hc hs ?_
  exact W.zret X.1 X.2.1 (hr.trans hret) hn (fun t ht _ => ⟨rfl, by rw [ht]; exact hB.1, hB.2.1.F ht⟩) hB.2.1.2.2 hdg
theorem bk_aR (X : bCx p s m args meth c own cc nL D E) {ret : Option FieldType} (hr : meth.sig.returnType = ret) {C : String} (hret : ret = some (.object C)) {w r0 : Nat} (hf : (some w : Option Nat) = some r0) (hB : bB D E L a v s H locs) (hc : cells ≤ mc) (hs : slots ≤ ms) (hdg : decode cc pc = .ok (.areturn, 1)) : W p l e R s m args below meth c H locs cells slots (bQ below D E L a v (some (.ref (E.1.2 r0))) args s mc ms) (F0 m pc ls [.ref (E.1.2 w)]) := by
  cases hf
  have hlocks := X.2.2.2.2.2.2
  unfold bQ
  refine W.widen hc hs ?_
  exact W.aret X.1 X.2.1 (hr.trans hret) (Or.inl ⟨_, rfl⟩) (Or.inr ⟨_, rfl⟩) (fun t ht _ => ⟨rfl, by rw [ht]; exact hB.1, hB.2.1.F ht⟩) hB.2.1.2.2 hdg
theorem bk_compact (X : bCx p s m args meth c own cc nL D E) (hB : bB D E L a v s H locs) {index : Nat} (hw : Cond.fieldLink own index "java/lang/String" "COMPACT_STRINGS" "Z" ∈ wAll) (hdg : decode cc pc = .ok (.getstatic index, 3))
    (kk : W p l e R s m args below meth c H locs cells slots Q (F0 m (pc + 3) ls (.int 1 :: rest))) : W p l e R s m args below meth c H locs cells slots Q (F0 m pc ls rest) :=
  va_gets X.1 X.2.1 (va_Z.narrow hB.2.2.2.2.2.1.1 (bA_ge hB)) hB.2.1 X.2.2.2.1 (X.2.2.2.2.1 _ hw) (fun _ h => h) hdg kk
theorem bk_txCoder (X : bCx p s m args meth c own cc nL D E) (hB : bB D E L a v s H locs) {i : Nat} {t : List Nat} (ht : sTx[i]? = some t) {index : Nat} (hw : Cond.fieldLink own index "java/lang/String" "coder" "B" ∈ wAll) (hdg : decode cc pc = .ok (.getfield index, 3))
    (kk : W p l e R s m args below meth c H locs cells slots Q (F0 m (pc + 3) ls (.int 0 :: rest))) : W p l e R s m args below meth c H locs cells slots Q (F0 m pc ls (.ref (E.1.2 i) :: rest)) :=
  vk_getf X.1 X.2.1 (va_OF.narrow (hB.2.2.2.2.2.2 i t ht).2.1 (bA_ge hB)) hB.2.1 X.2.2.2.1 (X.2.2.2.2.1 _ hw) (fun _ h => h) hdg kk
theorem bk_txValue (X : bCx p s m args meth c own cc nL D E) (hB : bB D E L a v s H locs) {i : Nat} {t : List Nat} (ht : sTx[i]? = some t) {index : Nat} (hw : Cond.fieldLink own index "java/lang/String" "value" "[B" ∈ wAll) (hdg : decode cc pc = .ok (.getfield index, 3))
    (kk : W p l e R s m args below meth c H locs cells slots Q (F0 m (pc + 3) ls (.ref (E.1.2 (100 + i)) :: rest))) : W p l e R s m args below meth c H locs cells slots Q (F0 m pc ls (.ref (E.1.2 i) :: rest)) :=
  vk_getf X.1 X.2.1 (va_OF.narrow (hB.2.2.2.2.2.2 i t ht).2.2.1 (bA_ge hB)) hB.2.1 X.2.2.2.1 (X.2.2.2.2.1 _ hw) (fun _ h => h) hdg kk
theorem bB.txArr (hB : bB D E L a v s H locs) {i : Nat} {t : List Nat} (ht : sTx[i]? = some t) : va_T .byte (E.1.2 (100 + i)) t.length (fun j => .int (nI (t.getD j 0))) (fun q => a ≤ q) s H := (hB.tx.2 i t ht).2.2.2
theorem bk_txLen (X : bCx p s m args meth c own cc nL D E) (hB : bB D E L a v s H locs) {i : Nat} {t : List Nat} (ht : sTx[i]? = some t) (hdg : decode cc pc = .ok (.arraylength, 1))
    (kk : W p l e R s m args below meth c H locs cells slots Q (F0 m (pc + 1) ls (.int (nI t.length) :: rest))) : W p l e R s m args below meth c H locs cells slots Q (F0 m pc ls (.ref (E.1.2 (100 + i)) :: rest)) := by
  obtain ⟨cell, h1, h2, h3, h4, h5, h6, h7⟩ := hB.txArr ht
  exact W.alen X.1 X.2.1 h1 h2 h5 rfl rfl hdg kk
theorem bk_txLd (X : bCx p s m args meth c own cc nL D E) (hB : bB D E L a v s H locs) {i : Nat} {t : List Nat} (ht : sTx[i]? = some t) {k : Int32} (hk : vp_in k t.length) (hdg : decode cc pc = .ok (.baload, 1))
    (kk : W p l e R s m args below meth c H locs cells slots Q (F0 m (pc + 1) ls (.int (nI (t.getD k.toNatClampNeg 0)) :: rest))) : W p l e R s m args below meth c H locs cells slots Q (F0 m pc ls (.int k :: .ref (E.1.2 (100 + i)) :: rest)) := by
  obtain ⟨cell, h1, h2, h3, h4, h5, h6, h7⟩ := hB.txArr ht
  have hlt : k.toNatClampNeg < t.length := vp_lt hk
  exact W.bald X.1 X.2.1 h1 h2 h3 (fun q => hk (q.elim Or.inl (fun z => absurd z (by omega)))) (h6 _ hlt) rfl rfl hdg kk
theorem bk_txRecv (hB : bB D E L a v s H locs) {i : Nat} {t : List Nat} (ht : sTx[i]? = some t) : ∃ cell : Cell, H[E.1.2 i]? = some cell ∧ cell.vm.isStatics = false ∧ s.vm.findClass RJ0 = some cell.cls := by
  obtain ⟨cell, h1, h2, h3, -⟩ := (hB.tx.2 i t ht).1
  exact ⟨cell, h1, h2, h3⟩
theorem bk_formatter (X : bCx p s m args meth c own cc nL D E) (hB : bB D E L a v s H locs) {index : Nat} (hw : Cond.fieldLink own index "jdk/internal/util/Preconditions" "SIOOBE_FORMATTER" "Ljava/util/function/BiFunction;" ∈ wAll) (hdg : decode cc pc = .ok (.getstatic index, 3))
    (kk : ∀ y : Value, (y = .null ∨ ∃ t : Nat, y = .ref t) → W p l e R s m args below meth c H locs cells slots Q (F0 m (pc + 3) ls (y :: rest))) : W p l e R s m args below meth c H locs cells slots Q (F0 m pc ls rest) := by
  rcases hB.2.2.2.2.2.1.2.1 with h | ⟨t, h⟩
  · exact va_gets X.1 X.2.1 (va_Z.narrow h (bA_ge hB)) hB.2.1 X.2.2.2.1 (X.2.2.2.2.1 _ hw) (fun _ h => h) hdg (kk _ (Or.inl rfl))
  · exact va_gets X.1 X.2.1 (va_Z.narrow h (bA_ge hB)) hB.2.1 X.2.2.2.1 (X.2.2.2.2.1 _ hw) (fun _ h => h) hdg (kk _ (Or.inr ⟨t, rfl⟩))
end STRR
theorem dJ0_isLatin1_aae02_0 : decode cJ0_isLatin1_aae02 0 = .ok (.getstatic 38, 3) := by decide +kernel
theorem dJ0_isLatin1_aae02_3 : decode cJ0_isLatin1_aae02 3 = .ok (.ifCond .eq 14, 3) := by decide +kernel
theorem dJ0_isLatin1_aae02_6 : decode cJ0_isLatin1_aae02 6 = .ok (.aload_n 0, 1) := by decide +kernel
theorem dJ0_isLatin1_aae02_7 : decode cJ0_isLatin1_aae02 7 = .ok (.getfield 15, 3) := by decide +kernel
theorem dJ0_isLatin1_aae02_10 : decode cJ0_isLatin1_aae02 10 = .ok (.ifCond .ne 7, 3) := by decide +kernel
theorem dJ0_isLatin1_aae02_13 : decode cJ0_isLatin1_aae02 13 = .ok (.iconst 1, 1) := by decide +kernel
theorem dJ0_isLatin1_aae02_14 : decode cJ0_isLatin1_aae02 14 = .ok (.goto 4, 3) := by decide +kernel
theorem dJ0_isLatin1_aae02_17 : decode cJ0_isLatin1_aae02 17 = .ok (.iconst 0, 1) := by decide +kernel
theorem dJ0_isLatin1_aae02_18 : decode cJ0_isLatin1_aae02 18 = .ok (.ireturn, 1) := by decide +kernel
set_option maxRecDepth 100000 in
theorem mJ0_isLatin1_aae02 {l : Launch} {i : Nat} {t : List Nat} {v : bM} (ht : sTx[i]? = some t) : bMet l yJ0_isLatin1_aae02 cJ0_isLatin1_aae02 1 (some .boolean) 0 0 0 [] (fun E _ => [.ref (E.1.2 i)]) v v (fun _ => some (.int 1)) := by
  refine bk_start (by decide +kernel) bWf_nil (fun _ _ => Nat.le_of_ble_eq_true rfl) ?_
  intro p e s m args below meth c D E a ls H locs X hr hl hB
  have hx := X.1
  have hb := X.2.1
  have hl : lv_has ls 1 [(0, .ref (E.1.2 i))] := hl
  refine bk_compact X hB wm_393 dJ0_isLatin1_aae02_0 ?_
  refine lv_if_eq (tgt := 17) hx hb dJ0_isLatin1_aae02_3 (by decide) (fun h => absurd h (by decide)) (fun _ => ?_)
  refine lv_aload_n hx hb dJ0_isLatin1_aae02_6 rfl (lv_at hl 0 rfl) ?_
  refine bk_txCoder X hB ht wm_1549 dJ0_isLatin1_aae02_7 ?_
  refine lv_if_ne (tgt := 17) hx hb dJ0_isLatin1_aae02_10 (by decide) (fun h => absurd rfl h) (fun _ => ?_)
  refine lv_iconst (v := 1) hx hb dJ0_isLatin1_aae02_13 (by decide) ?_
  refine lv_goto (tgt := 18) hx hb dJ0_isLatin1_aae02_14 (by decide) ?_
  exact bk_nret X hr rfl rfl hB (Nat.le_of_ble_eq_true rfl) (Nat.le_of_ble_eq_true rfl) dJ0_isLatin1_aae02_18
theorem yv_J0_isLatin1_aae02 : bYv yJ0_isLatin1_aae02 RJ0 cJ0_isLatin1_aae02 1 (some .boolean) 0 := ⟨⟨rfl, by decide, by decide, rfl⟩, wm_399, wm_400, wm_12, wm_401⟩
theorem dJ0_coder_7d493_0 : decode cJ0_coder_7d493 0 = .ok (.getstatic 38, 3) := by decide +kernel
theorem dJ0_coder_7d493_3 : decode cJ0_coder_7d493 3 = .ok (.ifCond .eq 10, 3) := by decide +kernel
theorem dJ0_coder_7d493_6 : decode cJ0_coder_7d493 6 = .ok (.aload_n 0, 1) := by decide +kernel
theorem dJ0_coder_7d493_7 : decode cJ0_coder_7d493 7 = .ok (.getfield 15, 3) := by decide +kernel
theorem dJ0_coder_7d493_10 : decode cJ0_coder_7d493 10 = .ok (.goto 4, 3) := by decide +kernel
theorem dJ0_coder_7d493_13 : decode cJ0_coder_7d493 13 = .ok (.iconst 1, 1) := by decide +kernel
theorem dJ0_coder_7d493_14 : decode cJ0_coder_7d493 14 = .ok (.ireturn, 1) := by decide +kernel
set_option maxRecDepth 100000 in
theorem mJ0_coder_7d493 {l : Launch} {i : Nat} {t : List Nat} {v : bM} (ht : sTx[i]? = some t) : bMet l yJ0_coder_7d493 cJ0_coder_7d493 1 (some .byte) 0 0 0 [] (fun E _ => [.ref (E.1.2 i)]) v v (fun _ => some (.int 0)) := by
  refine bk_start (by decide +kernel) bWf_nil (fun _ _ => Nat.le_of_ble_eq_true rfl) ?_
  intro p e s m args below meth c D E a ls H locs X hr hl hB
  have hx := X.1
  have hb := X.2.1
  have hl : lv_has ls 1 [(0, .ref (E.1.2 i))] := hl
  refine bk_compact X hB wm_393 dJ0_coder_7d493_0 ?_
  refine lv_if_eq (tgt := 13) hx hb dJ0_coder_7d493_3 (by decide) (fun h => absurd h (by decide)) (fun _ => ?_)
  refine lv_aload_n hx hb dJ0_coder_7d493_6 rfl (lv_at hl 0 rfl) ?_
  refine bk_txCoder X hB ht wm_1549 dJ0_coder_7d493_7 ?_
  refine lv_goto (tgt := 14) hx hb dJ0_coder_7d493_10 (by decide) ?_
  exact bk_nret X hr rfl rfl hB (Nat.le_of_ble_eq_true rfl) (Nat.le_of_ble_eq_true rfl) dJ0_coder_7d493_14
theorem yv_J0_coder_7d493 : bYv yJ0_coder_7d493 RJ0 cJ0_coder_7d493 1 (some .byte) 0 := ⟨⟨rfl, by decide, by decide, rfl⟩, wm_390, wm_391, wm_12, wm_392⟩
theorem dJ0_length_8abf5_0 : decode cJ0_length_8abf5 0 = .ok (.aload_n 0, 1) := by decide +kernel
theorem dJ0_length_8abf5_1 : decode cJ0_length_8abf5 1 = .ok (.getfield 9, 3) := by decide +kernel
theorem dJ0_length_8abf5_4 : decode cJ0_length_8abf5 4 = .ok (.arraylength, 1) := by decide +kernel
theorem dJ0_length_8abf5_5 : decode cJ0_length_8abf5 5 = .ok (.aload_n 0, 1) := by decide +kernel
theorem dJ0_length_8abf5_6 : decode cJ0_length_8abf5 6 = .ok (.invokevirtual 335, 3) := by decide +kernel
theorem dJ0_length_8abf5_9 : decode cJ0_length_8abf5 9 = .ok (.ishr, 1) := by decide +kernel
theorem dJ0_length_8abf5_10 : decode cJ0_length_8abf5 10 = .ok (.ireturn, 1) := by decide +kernel
def sLen (w : Nat) : Int32 := nI (sTx.getD w []).length
def sAt (w : Nat) (k : Int32) : Int32 := nI ((sTx.getD w []).getD k.toNatClampNeg 0)
theorem sTx_at {w : Nat} (hw : w < 40) : sTx[w]? = some (sTx.getD w []) := by
  have h : sTx.length = 40 := by decide +kernel
  rw [List.getD_eq_getElem?_getD, List.getElem?_eq_getElem (by omega)]
  rfl
set_option maxRecDepth 100000 in
theorem mJ0_length_8abf5 {l : Launch} {w : Nat} {v : bM} (hw : w < 40) : bMet l yJ0_length_8abf5 cJ0_length_8abf5 1 (some .int) 1 0 0 [] (fun E _ => [.ref (E.1.2 w)]) v v (fun _ => some (.int (sLen w))) := by
  have ht := sTx_at hw
  refine bk_start (by decide +kernel) bWf_nil (fun _ _ => Nat.le_of_ble_eq_true rfl) ?_
  intro p e s m args below meth c D E a ls H locs X hr hl hB
  have hx := X.1
  have hb := X.2.1
  have hl : lv_has ls 1 [(0, .ref (E.1.2 w))] := hl
  refine lv_aload_n hx hb dJ0_length_8abf5_0 rfl (lv_at hl 0 rfl) ?_
  refine bk_txValue X hB ht wm_1548 dJ0_length_8abf5_1 ?_
  refine bk_txLen X hB ht dJ0_length_8abf5_4 ?_
  refine lv_aload_n hx hb dJ0_length_8abf5_5 rfl (lv_at hl 0 rfl) ?_
  refine bk_non (v0 := v) (w0 := v) hB (fun h1 h2 h3 => bk_runVr X (Av := []) (rest := [.int (nI (sTx.getD w []).length)]) (mJ0_coder_7d493 ht) yv_J0_coder_7d493 wm_389 ⟨Nat.le_of_ble_eq_true rfl, Nat.le_of_ble_eq_true rfl⟩ rfl rfl hl.1 (bk_txRecv hB ht) h1 h2 h3 (Nat.le_of_ble_eq_true rfl) ⟨Nat.le_of_ble_eq_true rfl, Nat.le_of_ble_eq_true rfl⟩ dJ0_length_8abf5_6) (fun H locs hB => ?_)
  refine W.eq (g2 := F0 m 9 ls [.int 0, .int (nI (sTx.getD w []).length)]) rfl ?_
  refine lv_ishr hx hb dJ0_length_8abf5_9 ?_
  rw [sc_shr0 (by
    have h : ∀ i, i < 40 → (sTx.getD i []).length < 2 ^ 31 := by decide +kernel
    exact h w hw)]
  exact bk_iret X hr rfl hB (Nat.le_of_ble_eq_true rfl) (Nat.le_of_ble_eq_true rfl) dJ0_length_8abf5_10
theorem yv_J0_length_8abf5 : bYv yJ0_length_8abf5 RJ0 cJ0_length_8abf5 1 (some .int) 0 := ⟨⟨rfl, by decide, by decide, rfl⟩, wm_386, wm_387, wm_12, wm_388⟩
theorem dJ3_checkIndex_8e157_0 : decode cJ3_checkIndex_8e157 0 = .ok (.iload_n 0, 1) := by decide +kernel
theorem dJ3_checkIndex_8e157_1 : decode cJ3_checkIndex_8e157 1 = .ok (.ifCond .lt 8, 3) := by decide +kernel
theorem dJ3_checkIndex_8e157_4 : decode cJ3_checkIndex_8e157 4 = .ok (.iload_n 0, 1) := by decide +kernel
theorem dJ3_checkIndex_8e157_5 : decode cJ3_checkIndex_8e157 5 = .ok (.iload_n 1, 1) := by decide +kernel
theorem dJ3_checkIndex_8e157_6 : decode cJ3_checkIndex_8e157 6 = .ok (.if_icmp .lt 10, 3) := by decide +kernel
theorem dJ3_checkIndex_8e157_9 : decode cJ3_checkIndex_8e157 9 = .ok (.aload_n 2, 1) := by decide +kernel
theorem dJ3_checkIndex_8e157_10 : decode cJ3_checkIndex_8e157 10 = .ok (.iload_n 0, 1) := by decide +kernel
theorem dJ3_checkIndex_8e157_11 : decode cJ3_checkIndex_8e157 11 = .ok (.iload_n 1, 1) := by decide +kernel
theorem dJ3_checkIndex_8e157_12 : decode cJ3_checkIndex_8e157 12 = .ok (.invokestatic 95, 3) := by decide +kernel
theorem dJ3_checkIndex_8e157_15 : decode cJ3_checkIndex_8e157 15 = .ok (.athrow, 1) := by decide +kernel
theorem dJ3_checkIndex_8e157_16 : decode cJ3_checkIndex_8e157 16 = .ok (.iload_n 0, 1) := by decide +kernel
theorem dJ3_checkIndex_8e157_17 : decode cJ3_checkIndex_8e157 17 = .ok (.ireturn, 1) := by decide +kernel
set_option maxRecDepth 100000 in
theorem mJ3_checkIndex_8e157 {l : Launch} {i n : Int32} {y : Value} (hy : y = .null ∨ ∃ t : Nat, y = .ref t) {v : bM} (h0 : ¬ i < 0) (h1 : i < n) : bMet l yJ3_checkIndex_8e157 cJ3_checkIndex_8e157 3 (some .int) 0 0 0 [] (fun E _ => [.int i, .int n, y]) v v (fun _ => some (.int i)) := by
  refine bk_start (by decide +kernel) bWf_nil (fun _ _ => by rcases hy with rfl | ⟨t, rfl⟩ <;> exact Nat.le_of_ble_eq_true rfl) ?_
  intro p e s m args below meth c D E a ls H locs X hr hl hB
  have hx := X.1
  have hb := X.2.1
  have hl : lv_has ls 3 [(0, .int i), (1, .int n)] := by
    rcases hy with rfl | ⟨t, rfl⟩
    · exact lv_sub hl [0, 1] rfl
    · exact lv_sub hl [0, 1] rfl
  refine lv_iload_n hx hb dJ3_checkIndex_8e157_0 rfl (lv_at hl 0 rfl) ?_
  refine lv_if_lt (tgt := 9) hx hb dJ3_checkIndex_8e157_1 (by decide) (fun h => absurd h h0) (fun _ => ?_)
  refine lv_iload_n hx hb dJ3_checkIndex_8e157_4 rfl (lv_at hl 0 rfl) ?_
  refine lv_iload_n hx hb dJ3_checkIndex_8e157_5 rfl (lv_at hl 1 rfl) ?_
  refine lv_icmp_lt (tgt := 16) hx hb dJ3_checkIndex_8e157_6 (by decide) (fun _ => ?_) (fun h => absurd h1 h)
  refine lv_iload_n hx hb dJ3_checkIndex_8e157_16 rfl (lv_at hl 0 rfl) ?_
  exact bk_iret X hr rfl hB (Nat.le_of_ble_eq_true rfl) (Nat.le_of_ble_eq_true rfl) dJ3_checkIndex_8e157_17
theorem ys_J3_checkIndex_8e157 : bYs yJ3_checkIndex_8e157 RJ3 cJ3_checkIndex_8e157 3 (some .int) 3 := ⟨⟨rfl, by decide, by decide, rfl⟩, wm_411, wm_15, wm_412⟩
theorem dJ0_checkIndex_df160_0 : decode cJ0_checkIndex_df160 0 = .ok (.iload_n 0, 1) := by decide +kernel
theorem dJ0_checkIndex_df160_1 : decode cJ0_checkIndex_df160 1 = .ok (.iload_n 1, 1) := by decide +kernel
theorem dJ0_checkIndex_df160_2 : decode cJ0_checkIndex_df160 2 = .ok (.getstatic 1053, 3) := by decide +kernel
theorem dJ0_checkIndex_df160_5 : decode cJ0_checkIndex_df160 5 = .ok (.invokestatic 1059, 3) := by decide +kernel
theorem dJ0_checkIndex_df160_8 : decode cJ0_checkIndex_df160 8 = .ok (.pop, 1) := by decide +kernel
theorem dJ0_checkIndex_df160_9 : decode cJ0_checkIndex_df160 9 = .ok (.return_, 1) := by decide +kernel
set_option maxRecDepth 100000 in
theorem mJ0_checkIndex_df160 {l : Launch} {i n : Int32} {v : bM} (h0 : ¬ i < 0) (h1 : i < n) : bMet l yJ0_checkIndex_df160 cJ0_checkIndex_df160 2 none 1 0 0 [] (fun E _ => [.int i, .int n]) v v (fun _ => none) := by
  refine bk_start (by decide +kernel) bWf_nil (fun _ _ => Nat.le_of_ble_eq_true rfl) ?_
  intro p e s m args below meth c D E a ls H locs X hr hl hB
  have hx := X.1
  have hb := X.2.1
  have hl : lv_has ls 2 [(0, .int i), (1, .int n)] := hl
  refine lv_iload_n hx hb dJ0_checkIndex_df160_0 rfl (lv_at hl 0 rfl) ?_
  refine lv_iload_n hx hb dJ0_checkIndex_df160_1 rfl (lv_at hl 1 rfl) ?_
  refine bk_formatter X hB wm_408 dJ0_checkIndex_df160_2 (fun y hy => ?_)
  refine bk_non (v0 := v) (w0 := v) hB (fun g1 g2 g3 => bk_runS X (Av := [.int i, .int n, y]) (rest := []) (mJ3_checkIndex_8e157 hy h0 h1) ys_J3_checkIndex_8e157 wm_410 ⟨Nat.le_of_ble_eq_true rfl, Nat.le_of_ble_eq_true rfl⟩ rfl rfl hl.1 g1 g2 g3 (Nat.le_of_ble_eq_true rfl) ⟨Nat.le_of_ble_eq_true rfl, Nat.le_of_ble_eq_true rfl⟩ dJ0_checkIndex_df160_5) (fun H locs hB => ?_)
  refine W.eq (g2 := F0 m 8 ls [.int i]) rfl ?_
  refine lv_pop hx hb dJ0_checkIndex_df160_8 rfl ?_
  exact bk_vret X hr rfl hB (Nat.le_of_ble_eq_true rfl) (Nat.le_of_ble_eq_true rfl) dJ0_checkIndex_df160_9
theorem ys_J0_checkIndex_df160 : bYs yJ0_checkIndex_df160 RJ0 cJ0_checkIndex_df160 2 none 2 := ⟨⟨rfl, by decide, by decide, rfl⟩, wm_406, wm_12, wm_407⟩
theorem sAt_ok : ∀ (w k : Nat), (sTx.getD w []).getD k 0 < 128 := by
  have h : sTx.all (fun t => t.all (fun x => decide (x < 128))) = true := by decide +kernel
  intro w k
  rw [List.getD_eq_getElem?_getD]
  cases hk : (sTx.getD w [])[k]? with
  | none => decide
  | some x =>
    have hm := List.mem_of_getElem? hk
    cases hw : sTx[w]? with
    | none => rw [List.getD_eq_getElem?_getD, hw] at hm; simp at hm
    | some t =>
      rw [List.getD_eq_getElem?_getD, hw] at hm
      exact of_decide_eq_true (List.all_eq_true.mp (List.all_eq_true.mp h t (List.mem_of_getElem? hw)) x hm)
theorem nar_c : ∀ k, k < 128 → ((nI k &&& 255).toUInt32 % 65536).toInt32 = nI k ∧ narrow .char (.int (nI k)) = .int (nI k) := by decide +kernel
theorem dJ1_charAt_3b067_0 : decode cJ1_charAt_3b067 0 = .ok (.iload_n 1, 1) := by decide +kernel
theorem dJ1_charAt_3b067_1 : decode cJ1_charAt_3b067 1 = .ok (.aload_n 0, 1) := by decide +kernel
theorem dJ1_charAt_3b067_2 : decode cJ1_charAt_3b067 2 = .ok (.arraylength, 1) := by decide +kernel
theorem dJ1_charAt_3b067_3 : decode cJ1_charAt_3b067 3 = .ok (.invokestatic 9, 3) := by decide +kernel
theorem dJ1_charAt_3b067_6 : decode cJ1_charAt_3b067 6 = .ok (.aload_n 0, 1) := by decide +kernel
theorem dJ1_charAt_3b067_7 : decode cJ1_charAt_3b067 7 = .ok (.iload_n 1, 1) := by decide +kernel
theorem dJ1_charAt_3b067_8 : decode cJ1_charAt_3b067 8 = .ok (.baload, 1) := by decide +kernel
theorem dJ1_charAt_3b067_9 : decode cJ1_charAt_3b067 9 = .ok (.sipush 255, 3) := by decide +kernel
theorem dJ1_charAt_3b067_12 : decode cJ1_charAt_3b067 12 = .ok (.iand, 1) := by decide +kernel
theorem dJ1_charAt_3b067_13 : decode cJ1_charAt_3b067 13 = .ok (.i2c, 1) := by decide +kernel
theorem dJ1_charAt_3b067_14 : decode cJ1_charAt_3b067 14 = .ok (.ireturn, 1) := by decide +kernel
set_option maxRecDepth 100000 in
theorem mJ1_charAt_3b067 {l : Launch} {w : Nat} {k : Int32} {v : bM} (hw : w < 40) (hk : vp_in k (sTx.getD w []).length) : bMet l yJ1_charAt_3b067 cJ1_charAt_3b067 2 (some .char) 2 0 0 [] (fun E _ => [.ref (E.1.2 (100 + w)), .int k]) v v (fun _ => some (.int (sAt w k))) := by
  have ht := sTx_at hw
  have hlt : ∀ i, i < 40 → (sTx.getD i []).length < 2 ^ 31 := by decide +kernel
  refine bk_start (by decide +kernel) bWf_nil (fun _ _ => Nat.le_of_ble_eq_true rfl) ?_
  intro p e s m args below meth c D E a ls H locs X hr hl hB
  have hx := X.1
  have hb := X.2.1
  have hl : lv_has ls 2 [(0, .ref (E.1.2 (100 + w))), (1, .int k)] := hl
  refine lv_iload_n hx hb dJ1_charAt_3b067_0 rfl (lv_at hl 1 rfl) ?_
  refine lv_aload_n hx hb dJ1_charAt_3b067_1 rfl (lv_at hl 0 rfl) ?_
  refine bk_txLen X hB ht dJ1_charAt_3b067_2 ?_
  have hk2 := vp_in_of hk (hlt w hw)
  obtain ⟨j, hj1, hj2⟩ := hk2
  refine bk_non (v0 := v) (w0 := v) hB (fun g1 g2 g3 => bk_runS X (Av := [.int k, .int (nI (sTx.getD w []).length)]) (rest := []) (mJ0_checkIndex_df160 (fun z => hk (Or.inl z)) (by rw [hj2]; exact nI_lt hj1 (hlt w hw))) ys_J0_checkIndex_df160 wm_405 ⟨Nat.le_of_ble_eq_true rfl, Nat.le_of_ble_eq_true rfl⟩ rfl rfl hl.1 g1 g2 g3 (Nat.le_of_ble_eq_true rfl) ⟨Nat.le_of_ble_eq_true rfl, Nat.le_of_ble_eq_true rfl⟩ dJ1_charAt_3b067_3) (fun H locs hB => ?_)
  refine W.eq (g2 := F0 m 6 ls []) rfl ?_
  refine lv_aload_n hx hb dJ1_charAt_3b067_6 rfl (lv_at hl 0 rfl) ?_
  refine lv_iload_n hx hb dJ1_charAt_3b067_7 rfl (lv_at hl 1 rfl) ?_
  refine bk_txLd X hB ht hk dJ1_charAt_3b067_8 ?_
  refine lv_sipush (v := 255) hx hb dJ1_charAt_3b067_9 (by decide) ?_
  refine lv_iand hx hb dJ1_charAt_3b067_12 ?_
  have hn := nar_c _ (sAt_ok w k.toNatClampNeg)
  refine lv_i2c (v := sAt w k) hx hb dJ1_charAt_3b067_13 hn.1 ?_
  exact bk_nret X hr rfl hn.2 hB (Nat.le_of_ble_eq_true rfl) (Nat.le_of_ble_eq_true rfl) dJ1_charAt_3b067_14
theorem ys_J1_charAt_3b067 : bYs yJ1_charAt_3b067 RJ1 cJ1_charAt_3b067 2 (some .char) 2 := ⟨⟨rfl, by decide, by decide, rfl⟩, wm_403, wm_14, wm_404⟩
theorem dJ0_charAt_5068e_0 : decode cJ0_charAt_5068e 0 = .ok (.aload_n 0, 1) := by decide +kernel
theorem dJ0_charAt_5068e_1 : decode cJ0_charAt_5068e 1 = .ok (.invokevirtual 492, 3) := by decide +kernel
theorem dJ0_charAt_5068e_4 : decode cJ0_charAt_5068e 4 = .ok (.ifCond .eq 12, 3) := by decide +kernel
theorem dJ0_charAt_5068e_7 : decode cJ0_charAt_5068e 7 = .ok (.aload_n 0, 1) := by decide +kernel
theorem dJ0_charAt_5068e_8 : decode cJ0_charAt_5068e 8 = .ok (.getfield 9, 3) := by decide +kernel
theorem dJ0_charAt_5068e_11 : decode cJ0_charAt_5068e 11 = .ok (.iload_n 1, 1) := by decide +kernel
theorem dJ0_charAt_5068e_12 : decode cJ0_charAt_5068e 12 = .ok (.invokestatic 495, 3) := by decide +kernel
theorem dJ0_charAt_5068e_15 : decode cJ0_charAt_5068e 15 = .ok (.ireturn, 1) := by decide +kernel
theorem dJ0_charAt_5068e_16 : decode cJ0_charAt_5068e 16 = .ok (.aload_n 0, 1) := by decide +kernel
theorem dJ0_charAt_5068e_17 : decode cJ0_charAt_5068e 17 = .ok (.getfield 9, 3) := by decide +kernel
theorem dJ0_charAt_5068e_20 : decode cJ0_charAt_5068e 20 = .ok (.iload_n 1, 1) := by decide +kernel
theorem dJ0_charAt_5068e_21 : decode cJ0_charAt_5068e 21 = .ok (.invokestatic 498, 3) := by decide +kernel
theorem dJ0_charAt_5068e_24 : decode cJ0_charAt_5068e 24 = .ok (.ireturn, 1) := by decide +kernel
set_option maxRecDepth 100000 in
theorem mJ0_charAt_5068e {l : Launch} {w : Nat} {k : Int32} {v : bM} (hw : w < 40) (hk : vp_in k (sTx.getD w []).length) : bMet l yJ0_charAt_5068e cJ0_charAt_5068e 2 (some .char) 3 0 0 [] (fun E _ => [.ref (E.1.2 w), .int k]) v v (fun _ => some (.int (sAt w k))) := by
  have ht := sTx_at hw
  refine bk_start (by decide +kernel) bWf_nil (fun _ _ => Nat.le_of_ble_eq_true rfl) ?_
  intro p e s m args below meth c D E a ls H locs X hr hl hB
  have hx := X.1
  have hb := X.2.1
  have hl : lv_has ls 2 [(0, .ref (E.1.2 w)), (1, .int k)] := hl
  refine lv_aload_n hx hb dJ0_charAt_5068e_0 rfl (lv_at hl 0 rfl) ?_
  refine bk_non (v0 := v) (w0 := v) hB (fun h1 h2 h3 => bk_runVr X (Av := []) (rest := []) (mJ0_isLatin1_aae02 ht) yv_J0_isLatin1_aae02 wm_398 ⟨Nat.le_of_ble_eq_true rfl, Nat.le_of_ble_eq_true rfl⟩ rfl rfl hl.1 (bk_txRecv hB ht) h1 h2 h3 (Nat.le_of_ble_eq_true rfl) ⟨Nat.le_of_ble_eq_true rfl, Nat.le_of_ble_eq_true rfl⟩ dJ0_charAt_5068e_1) (fun H locs hB => ?_)
  refine W.eq (g2 := F0 m 4 ls [.int 1]) rfl ?_
  refine lv_if_eq (tgt := 16) hx hb dJ0_charAt_5068e_4 (by decide) (fun h => absurd h (by decide)) (fun _ => ?_)
  refine lv_aload_n hx hb dJ0_charAt_5068e_7 rfl (lv_at hl 0 rfl) ?_
  refine bk_txValue X hB ht wm_1548 dJ0_charAt_5068e_8 ?_
  refine lv_iload_n hx hb dJ0_charAt_5068e_11 rfl (lv_at hl 1 rfl) ?_
  refine bk_non (v0 := v) (w0 := v) hB (fun g1 g2 g3 => bk_runS X (Av := [.ref (E.1.2 (100 + w)), .int k]) (rest := []) (mJ1_charAt_3b067 hw hk) ys_J1_charAt_3b067 wm_402 ⟨Nat.le_of_ble_eq_true rfl, Nat.le_of_ble_eq_true rfl⟩ rfl rfl hl.1 g1 g2 g3 (Nat.le_of_ble_eq_true rfl) ⟨Nat.le_of_ble_eq_true rfl, Nat.le_of_ble_eq_true rfl⟩ dJ0_charAt_5068e_12) (fun H locs hB => ?_)
  refine W.eq (g2 := F0 m 15 ls [.int (sAt w k)]) rfl ?_
  exact bk_nret X hr rfl (nar_c _ (sAt_ok w k.toNatClampNeg)).2 hB (Nat.le_of_ble_eq_true rfl) (Nat.le_of_ble_eq_true rfl) dJ0_charAt_5068e_15
theorem yv_J0_charAt_5068e : bYv yJ0_charAt_5068e RJ0 cJ0_charAt_5068e 2 (some .char) 1 := ⟨⟨rfl, by decide, by decide, rfl⟩, wm_395, wm_396, wm_12, wm_397⟩
