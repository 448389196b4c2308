/-! ===== the face's methods that write the text ===== -/
section BZ2
variable {p : Program} {l : Launch} {e : Env} {R : Room} {s : State} {m : MethodId} {args : Array Value} {below : List Frame} {meth : Method} {c : Code} {H : Heap} {locs : List Loc} {cells slots : Nat} {Q : State → Prop}
variable {cc : ByteArray} {pc : Nat} {ls : Array Slot} {rest : List Value} {D : va_G} {E : bE} {own : String} {nL : Nat} {L : List bC} {a : Nat} {v : bM} {mc ms : Nat}
theorem va_ldcSW9 (hexec : p.tables.exec = Jvm.exec) (hb : c.code = cc) {own tx : String} {index q : Nat} (hown : s.vm.findClass own = some m.cls) (hZ : vk_R own index tx q s) (hdg : decode cc pc = .ok (.ldc_w index, 3))
    (k : W p l e R s m args below meth c H locs cells slots Q (F0 m (pc + 3) ls (.ref q :: rest))) : W p l e R s m args below meth c H locs cells slots Q (F0 m pc ls rest) := by
  intro T hT X
  obtain ⟨t, a1, b1⟩ := k T hT X
  exact ⟨t, X.ldcStringW hexec (own := own) (text := tx) (index := index) (a := q) hown hZ.1 hZ.2 (g := F0 m pc ls rest) rfl (by rw [hb]; exact hdg) t a1, b1⟩
theorem bz_getR (X : bCx p s m args meth c own cc nL D E) (hB : bBz D E L a v s H locs) {ci N : Nat} {C : String} {T : u_T} {ty : Nat → FieldType} (hk : bKl ci C T N ty) (k : Nat) {fs : List bF} (hd : L[k]? = some (.inl (ci, fs))) (j : Nat) (hj : j < N) {o : Nat} (hf : fs[j]? = some (1, o)) {index : Nat} (hw : Cond.fieldLink own index (T j).1 (T j).2.1 (T j).2.2.1 ∈ wAll) (hdg : decode cc pc = .ok (.getfield index, 3))
    (kk : W p l e R s m args below meth c H locs cells slots Q (F0 m (pc + 3) ls (.ref (a + o) :: rest))) : W p l e R s m args below meth c H locs cells slots Q (F0 m pc ls (.ref (a + k) :: rest)) := bk_get X hk hB.1 k hd j hj hf hw hdg kk
theorem bz_getS (X : bCx p s m args meth c own cc nL D E) (hB : bBz D E L a v s H locs) {ci N : Nat} {C : String} {T : u_T} {ty : Nat → FieldType} (hk : bKl ci C T N ty) (k : Nat) {fs : List bF} (hd : L[k]? = some (.inl (ci, fs))) (j : Nat) (hj : j < N) {o : Nat} (hf : fs[j]? = some (2, o)) (hn : vp_in (v o) 12) {index : Nat} (hw : Cond.fieldLink own index (T j).1 (T j).2.1 (T j).2.2.1 ∈ wAll) (hdg : decode cc pc = .ok (.getfield index, 3))
    (kk : W p l e R s m args below meth c H locs cells slots Q (F0 m (pc + 3) ls (.ref (a + stC (v o).toNatClampNeg) :: rest))) : W p l e R s m args below meth c H locs cells slots Q (F0 m pc ls (.ref (a + k) :: rest)) := by
  refine bk_get X hk hB.1 k hd j hj hf hw hdg ?_
  have h : bV a v (2, o) = .ref (a + stC (v o).toNatClampNeg) := by
    unfold bV
    rw [if_neg (show ¬ (2 : Nat) = 0 by decide), if_neg (show ¬ (2 : Nat) = 1 by decide), if_neg (fun z => hn (Or.inl z))]
  rw [h]
  exact kk
theorem bz_ald (X : bCx p s m args meth c own cc nL D E) (hB : bBz D E L a v s H locs) (k : Nat) {n off st : Nat} (hd : L[k]? = some (.inr (0, n, off, st))) {i : Int32} (hin : vp_in i n) (hdg : decode cc pc = .ok (.iaload, 1))
    (kk : W p l e R s m args below meth c H locs cells slots Q (F0 m (pc + 1) ls (.int (v (off + i.toNatClampNeg)) :: rest))) : W p l e R s m args below meth c H locs cells slots Q (F0 m pc ls (.int i :: .ref (a + k) :: rest)) :=
  va_iald X.1 X.2.1 X.2.2.2.2.2.1.1 (va_P.one (hB.1.arr hd (by decide))) 0 0 rfl rfl hin hdg kk
theorem bz_rld (X : bCx p s m args meth c own cc nL D E) (hB : bBz D E L a v s H locs) (k : Nat) {n off st : Nat} (hd : L[k]? = some (.inr (2, n, off, st))) {i : Int32} (hin : vp_in i n) (hdg : decode cc pc = .ok (.aaload, 1))
    (kk : W p l e R s m args below meth c H locs cells slots Q (F0 m (pc + 1) ls (.ref (a + (off + st * i.toNatClampNeg)) :: rest))) : W p l e R s m args below meth c H locs cells slots Q (F0 m pc ls (.int i :: .ref (a + k) :: rest)) := by
  have hlt : i.toNatClampNeg < n := Nat.not_le.mp fun q => hin (Or.inr q)
  exact W.aald (v := va_rf (some (a + (off + st * i.toNatClampNeg)))) (ty := .array .int) X.1 X.2.1 (hB.1.arr hd (by decide)) ((X.2.2.2.2.2.1.1.2 2 (E.1.1 2, .array .int) rfl).1 n (fun j => va_rf (some (a + (off + st * j))))) rfl (fun q => by cases q) (by show ¬ (i < 0 ∨ (arrV _ _ _).slots.size ≤ _); rw [arrV_size]; exact hin) (arrV_read (E.1.1 2) (fun j => va_rf (some (a + (off + st * j)))) hlt) rfl rfl hdg kk
theorem bz_iret (X : bCx p s m args meth c own cc nL D E) {ret : Option FieldType} (hr : meth.sig.returnType = ret) (hret : ret = some .int) {x : Int32} (hB : bBz D E L a v s H locs) (hc : cells ≤ mc) (hs : slots ≤ ms) (hdg : decode cc pc = .ok (.ireturn, 1)) : W p l e R s m args below meth c H locs cells slots (bQz below D E L a v (some (.int x)) args s mc ms) (F0 m pc ls [.int x]) := by
  have hlocks := X.2.2.2.2.2.2
  unfold bQz
  refine W.widen hc hs ?_
  exact W.iret X.1 X.2.1 (hr.trans hret) (fun t ht _ => ⟨rfl, by rw [ht]; exact hB.1, hB.2.1.F ht⟩) hB.2.1.2.2 hdg
theorem bz_vret (X : bCx p s m args meth c own cc nL D E) {ret : Option FieldType} (hr : meth.sig.returnType = ret) (hret : ret = none) (hB : bBz D E L a v s H locs) (hc : cells ≤ mc) (hs : slots ≤ ms) (hdg : decode cc pc = .ok (.return_, 1)) : W p l e R s m args below meth c H locs cells slots (bQz below D E L a v none args s mc ms) (F0 m pc ls []) := by
  have hlocks := X.2.2.2.2.2.2
  unfold bQz
  refine W.widen hc hs ?_
  exact W.vret X.1 X.2.1 (hr.trans hret) (fun t ht _ => ⟨rfl, by rw [ht]; exact hB.1, hB.2.1.F ht⟩) hB.2.1.2.2 hdg
theorem bz_all {w' : bM} {st0 : List Value} {res : Option Value} (hB : bBz D E L a v s H locs)
    (hr : Blk D E L a v H → a + L.length ≤ E.2 → E.2 ≤ H.size ∧ bTx s E a H → bRun p l e R s m args below meth c H locs cells slots mc ms (F0 m pc ls st0) rest D E L a w' res)
    (kk : ∀ (H1 : Heap) (locs1 : List Loc), bBz D E L a w' s H1 locs1 → W p l e R s m args below meth c H1 locs1 (cells + mc) (slots + ms) Q (F0 m (pc + 3) ls (res.toList ++ rest))) : W p l e R s m args below meth c H locs cells slots Q (F0 m pc ls st0) := by
  obtain ⟨h1, h2, h3, h4, h5⟩ := id hB
  exact bk_go (hr h1 h4 ⟨hB.lim, hB.tx⟩) h2 (fun q h => h.elim Or.inl (fun z => Or.inr (Nat.le_trans hB.lim z))) (fun H1 locs1 g1 _ g3 g4 => kk H1 locs1 ⟨g1, g4, h3, h4, h5⟩)
theorem bz_non {st0 : List Value} {res : Option Value} {v0 w0 : bM} (hB : bBz D E L a v s H locs)
    (hr : Blk D E [] E.2 v0 H → E.2 + ([] : List bC).length ≤ E.2 → E.2 ≤ H.size ∧ bTx s E E.2 H → bRun p l e R s m args below meth c H locs cells slots mc ms (F0 m pc ls st0) rest D E [] E.2 w0 res)
    (kk : ∀ (H1 : Heap) (locs1 : List Loc), bBz D E L a v s H1 locs1 → W p l e R s m args below meth c H1 locs1 (cells + mc) (slots + ms) Q (F0 m (pc + 3) ls (res.toList ++ rest))) : W p l e R s m args below meth c H locs cells slots Q (F0 m pc ls st0) := by
  obtain ⟨h1, h2, h3, h4, h5⟩ := id hB
  have hz := hB.lim
  refine bk_go (hr (fun k d h => by simp at h) (by simp) ⟨hB.lim, hB.tx.le (by omega)⟩) h2 ?_ (fun H1 locs1 _ g2 g3 g4 => kk H1 locs1 ⟨?_, g4, h3, h4, h5⟩)
  · intro q h
    rcases h with h | h
    · simp at h; omega
    · exact Or.inr (by omega)
  · have g5 : ∀ q : Nat, q < H.size → H1[q]? = H[q]? := fun q hq => g3 q hq (fun z => by
      rcases z with z | z
      · simp at z; omega
      · omega)
    exact fun i d hd => bAt_kept (h1 i d hd) (g5 _) (fun q hq _ _ => g5 q hq)
/-- a call of a method that writes the text, on the whole block -/
theorem bz_runV {y : MethodName} {bytes : ByteArray} {maxL d n index ci : Nat} {ret : Option FieldType} {As : bE → Nat → List Value} {w' : bM} {res : bE → Option Value} {C : String} {fs : List Value} {b0 : Nat} {Av : List Value} (X : bCx p s m args meth c own cc nL D E) (hB : bBz D E L a v s H locs)
    (hM : bMetz l y bytes maxL ret d mc ms L As v w' res) (hY : bYv y C bytes maxL ret n) (hw : Cond.methodLink own index y ∈ wAll) (hR : d + 1 ≤ R.frames ∧ 8 + (maxL + 11) + 40 * d ≤ R.locals) (hAs : As E a = .ref b0 :: Av) (hn : Av.length = n) (hsize : ls.size = nL)
    {T : u_T} {N : Nat} (hcl : vwCl[ci]? = some (C, T, N)) (hrc : va_at D vwCl (b0, .inr (ci, fs)) H)
    (hW : (rest.map fun v => v.category).sum ≤ 8) (hf : cells + mc ≤ R.cells ∧ slots + ms ≤ R.slots) (hdg : decode cc pc = .ok (.invokevirtual index, 3))
    (kk : ∀ (H1 : Heap) (locs1 : List Loc), bBz D E L a w' s H1 locs1 → W p l e R s m args below meth c H1 locs1 (cells + mc) (slots + ms) Q (F0 m (pc + 3) ls ((res E).toList ++ rest))) : W p l e R s m args below meth c H locs cells slots Q (F0 m pc ls (Av.reverse ++ .ref b0 :: rest)) := by
  obtain ⟨hd, hwi, hws, hwn, hwc⟩ := hY
  obtain ⟨h1, hS, h3, h4, h5⟩ := id hB
  have hr9 : va_Run p l e R s m args below meth c H locs cells slots mc ms (F0 m pc ls (Av.reverse ++ .ref b0 :: rest)) rest (bPostz D E L a w' (res E) (Value.ref b0 :: Av).toArray) (bA a L.length E.2) := by
    refine va_runV (C := C) (As := Av) (rest := rest) (b := b0) (Ts := wAll) ⟨X.1, X.2.1, X.2.2.1, X.2.2.2.1, X.2.2.2.2.1⟩ (hM D E a H.size) (cwV n X.2.2.2.2.1 ?_ rfl rfl rfl hd hR) ⟨bBlind D E L a v H.size (As E a), va_recv (ws := [(b0, .inr (ci, fs))]) (q0 := 0) (X.2.2.2.2.2.1.1) (va_P.one hrc) hcl rfl, fun U hU hWa => ⟨by rw [hAs], by rw [hU], by rw [hU]; exact h1, X.2.2.2.2.2.1.moved hWa, h4, hB.lim, by rw [hU]; exact bTx.moved hWa.alike hB.tx⟩⟩ rfl hn hsize rfl (lv_room hW) hdg hf
    refine wGood (fun w hw2 => ?_)
    rcases List.mem_append.mp hw2 with h | h
    · simp only [List.mem_cons, List.not_mem_nil, or_false] at h
      rcases h with rfl | rfl | rfl | rfl
      · exact hw
      · exact hwi
      · exact hws
      · exact hwn
    · exact ((wGoodC hwc) w h).1
  intro T hT Xs
  obtain ⟨v9, st₀, t, T', L9, h0, X', hL, e1, e2, ⟨hv9, hb, hz, hk⟩, st⟩ := hr9 T hT Xs
  cases hv9
  rw [h0] at hz hk
  obtain ⟨t2, a1, b1⟩ := kk T'.heap (locs ++ L9) ⟨by rw [e1]; exact hb, ⟨Nat.le_trans hS.1 (by rw [e1]; exact hz), fun q g1 g2 => by rw [e1, hk q (Nat.lt_of_lt_of_le g1 hS.1) g2]; exact hS.2.1 q g1 g2, fun q hq => by
      rcases List.mem_append.mp hq with h | h
      · exact hS.2.2 q h
      · exact hL q h⟩, h3, h4, h5⟩ T' rfl X'
  exact ⟨t2, st _ a1, b1⟩
end BZ2
theorem bz_txRecv {D : va_G} {E : bE} {L : List bC} {a : Nat} {v : bM} {s : State} {H : Heap} {locs : List Loc} (hB : bBz D E L a v s H locs) {i : Nat} {t : List Nat} (ht : sTx[i]? = some t) : ∃ cell : Cell, H[E.1.2 i]? = some cell ∧ cell.vm.isStatics = false ∧ s.vm.findClass RJ0 = some cell.cls := by
  obtain ⟨cell, h1, h2, h3, -⟩ := (hB.tx.2 i t ht).1
  exact ⟨cell, h1, h2, h3⟩
/-- the letters of a number -/
def sLet (x : Int32) : Option (List Nat) := if x < 0 then (if (-x) < 0 then none else some (45 :: sDig (-x).toNatClampNeg)) else some (sDig x.toNatClampNeg)
theorem sLet_num {x : Int32} {t : List Nat} (h : sLet x = some t) : sNum x t := by
  unfold sLet at h
  split at h
  · rename_i h1
    split at h
    · cases h
    · rename_i h2
      cases h
      obtain ⟨w, hw, hx⟩ := nI_of h2
      refine Or.inr ⟨w, ?_, hw, ?_, by rw [hx, nI_clamp hw]⟩
      · rcases Nat.eq_zero_or_pos w with h0 | h0
        · subst h0
          have h3 : x = 0 := by
            have h4 := congrArg (fun z : Int32 => -z) hx
            simp only [Int32.neg_neg] at h4
            rw [h4]; rfl
          rw [h3] at h1
          exact absurd h1 (by decide)
        · exact h0
      · rw [← hx, Int32.neg_neg]
  · rename_i h1
    cases h
    obtain ⟨w, hw, rfl⟩ := nI_of h1
    exact Or.inl ⟨w, hw, rfl, by rw [nI_clamp hw]⟩
def fX8_writeGap_J20 (p1 p2 : Int32) (v1 : bM) : Option bM :=
  ck p1 5 <| ck (v1 9902) 79 <| ck (sAt 25 p1) 128 <| nm (sbC v1 (sAt 25 p1)) fun v2 => ck (v2 9902) 60 <| bnr (sLet p2) fun t => some (sbI v2 t)
def fX8_writeGap (p1 p2 : Int32) (v : bM) : Option bM :=
  if v 9902 ≤ 0 then fX8_writeGap_J20 p1 p2 v else ck (v 9902) 79 <| fX8_writeGap_J20 p1 p2 (sbC v 32)
def fX8_writeBatch_L (p1 : Int32) : Nat → Int32 → bM → Option (Int32 × bM)
  | 0, _, _ => none
  | n + 1, y, v => if 4 < y then some (v 9902, v) else ck (v 0) 12 <| nm (v 0).toNatClampNeg fun i => ck p1 24 <| ck y 5 <| nm (v (stO i + (470 + 5 * p1.toNatClampNeg) + y.toNatClampNeg)) fun g => bnw (if g = 0 then some v else fX8_writeGap y g v) fun v2 => fX8_writeBatch_L p1 n (y + 1) v2
def fX8_writeBatch (p1 : Int32) (v : bM) : Option (Int32 × bM) := bnr (fX8_requireBatch p1 v) fun _ => fX8_writeBatch_L p1 6 0 (upd v 9902 0)
def fX8_outputByte (p1 : Int32) (v : bM) : Option Int32 := if p1 < 0 then some (-1) else if p1 < v 9902 then some (v (9903 + p1.toNatClampNeg)) else some (-1)
theorem dX8_outputByte_0 : decode cX8_outputByte 0 = .ok (.iload_n 1, 1) := by decide +kernel
theorem dX8_outputByte_1 : decode cX8_outputByte 1 = .ok (.ifCond .lt 14, 3) := by decide +kernel
theorem dX8_outputByte_4 : decode cX8_outputByte 4 = .ok (.iload_n 1, 1) := by decide +kernel
theorem dX8_outputByte_5 : decode cX8_outputByte 5 = .ok (.aload_n 0, 1) := by decide +kernel
theorem dX8_outputByte_6 : decode cX8_outputByte 6 = .ok (.getfield 44, 3) := by decide +kernel
theorem dX8_outputByte_9 : decode cX8_outputByte 9 = .ok (.invokevirtual 345, 3) := by decide +kernel
theorem dX8_outputByte_12 : decode cX8_outputByte 12 = .ok (.if_icmp .lt 5, 3) := by decide +kernel
theorem dX8_outputByte_15 : decode cX8_outputByte 15 = .ok (.iconst (-1), 1) := by decide +kernel
theorem dX8_outputByte_16 : decode cX8_outputByte 16 = .ok (.ireturn, 1) := by decide +kernel
theorem dX8_outputByte_17 : decode cX8_outputByte 17 = .ok (.aload_n 0, 1) := by decide +kernel
theorem dX8_outputByte_18 : decode cX8_outputByte 18 = .ok (.getfield 44, 3) := by decide +kernel
theorem dX8_outputByte_21 : decode cX8_outputByte 21 = .ok (.iload_n 1, 1) := by decide +kernel
theorem dX8_outputByte_22 : decode cX8_outputByte 22 = .ok (.invokevirtual 346, 3) := by decide +kernel
theorem dX8_outputByte_25 : decode cX8_outputByte 25 = .ok (.ireturn, 1) := by decide +kernel
set_option maxRecDepth 100000 in
set_option maxHeartbeats 4000000 in
theorem mX8_outputByte {l : Launch} {p1 r0 : Int32} {v : bM} (hf : fX8_outputByte p1 v = some r0) : bMetz l yX8_outputByte cX8_outputByte 2 (some .int) 4 0 0 LX (fun E a => [.ref a, .int p1]) v v (fun _ => some (.int r0)) := by
  refine bz_start (by decide +kernel) wfX (fun _ _ => Nat.le_of_ble_eq_true rfl) ?_
  intro p e s m args below meth c D E a ls H locs X hr hl hB
  have hx := X.1
  have hb := X.2.1
  have hown := X.2.2.2.1
  have hts := X.2.2.2.2.1
  have hl : lv_has ls 2 [(0, .ref a), (1, .int p1)] := hl
  unfold fX8_outputByte at hf
  refine lv_iload_n hx hb dX8_outputByte_0 rfl (lv_at hl 1 rfl) ?_
  refine lv_if_lt (tgt := 15) hx hb dX8_outputByte_1 (by decide) (fun c1 => ?_) (fun c1 => ?_)
  · rw [if_pos c1] at hf
    cases hf
    refine lv_iconst (v := (-1)) hx hb dX8_outputByte_15 (by decide) ?_
    exact bz_iret X hr rfl hB (Nat.le_of_ble_eq_true rfl) (Nat.le_of_ble_eq_true rfl) dX8_outputByte_16
  · rw [if_neg c1] at hf
    refine lv_iload_n hx hb dX8_outputByte_4 rfl (lv_at hl 1 rfl) ?_
    refine lv_aload_n hx hb dX8_outputByte_5 rfl (lv_at hl 0 rfl) ?_
    refine bz_getR X hB kl_X8 0 lc_X_0 6 (by decide) rfl wm_660 dX8_outputByte_6 ?_
    refine bz_len X hB wm_895 ⟨Nat.le_of_ble_eq_true rfl, Nat.le_of_ble_eq_true rfl⟩ hl.1 (Nat.le_of_ble_eq_true rfl) ⟨Nat.le_of_ble_eq_true rfl, Nat.le_of_ble_eq_true rfl⟩ dX8_outputByte_9 (fun H locs hB => ?_)
    refine lv_icmp_lt (tgt := 17) hx hb dX8_outputByte_12 (by decide) (fun c2 => ?_) (fun c2 => ?_)
    · rw [if_pos c2] at hf
      cases hf
      refine lv_aload_n hx hb dX8_outputByte_17 rfl (lv_at hl 0 rfl) ?_
      refine bz_getR X hB kl_X8 0 lc_X_0 6 (by decide) rfl wm_660 dX8_outputByte_18 ?_
      refine lv_iload_n hx hb dX8_outputByte_21 rfl (lv_at hl 1 rfl) ?_
      refine bz_charAt X hB c1 c2 wm_902 ⟨Nat.le_of_ble_eq_true rfl, Nat.le_of_ble_eq_true rfl⟩ hl.1 (Nat.le_of_ble_eq_true rfl) ⟨Nat.le_of_ble_eq_true rfl, Nat.le_of_ble_eq_true rfl⟩ dX8_outputByte_22 (fun H locs hB => ?_)
      exact bz_iret X hr rfl hB (Nat.le_of_ble_eq_true rfl) (Nat.le_of_ble_eq_true rfl) dX8_outputByte_25
    · rw [if_neg c2] at hf
      cases hf
      refine lv_iconst (v := (-1)) hx hb dX8_outputByte_15 (by decide) ?_
      exact bz_iret X hr rfl hB (Nat.le_of_ble_eq_true rfl) (Nat.le_of_ble_eq_true rfl) dX8_outputByte_16
theorem yv_X8_outputByte : bYv yX8_outputByte RX8 cX8_outputByte 2 (some .int) 1 := ⟨⟨rfl, by decide, by decide, rfl⟩, wm_892, wm_893, wm_1, wm_894⟩
theorem dX8_writeGap_0 : decode cX8_writeGap 0 = .ok (.aload_n 0, 1) := by decide +kernel
theorem dX8_writeGap_1 : decode cX8_writeGap 1 = .ok (.getfield 44, 3) := by decide +kernel
theorem dX8_writeGap_4 : decode cX8_writeGap 4 = .ok (.invokevirtual 345, 3) := by decide +kernel
theorem dX8_writeGap_7 : decode cX8_writeGap 7 = .ok (.ifCond .le 13, 3) := by decide +kernel
theorem dX8_writeGap_10 : decode cX8_writeGap 10 = .ok (.aload_n 0, 1) := by decide +kernel
theorem dX8_writeGap_11 : decode cX8_writeGap 11 = .ok (.getfield 44, 3) := by decide +kernel
theorem dX8_writeGap_14 : decode cX8_writeGap 14 = .ok (.bipush 32, 2) := by decide +kernel
theorem dX8_writeGap_16 : decode cX8_writeGap 16 = .ok (.invokevirtual 362, 3) := by decide +kernel
theorem dX8_writeGap_19 : decode cX8_writeGap 19 = .ok (.pop, 1) := by decide +kernel
theorem dX8_writeGap_20 : decode cX8_writeGap 20 = .ok (.aload_n 0, 1) := by decide +kernel
theorem dX8_writeGap_21 : decode cX8_writeGap 21 = .ok (.getfield 44, 3) := by decide +kernel
theorem dX8_writeGap_24 : decode cX8_writeGap 24 = .ok (.ldc_w 365, 3) := by decide +kernel
theorem dX8_writeGap_27 : decode cX8_writeGap 27 = .ok (.iload_n 1, 1) := by decide +kernel
theorem dX8_writeGap_28 : decode cX8_writeGap 28 = .ok (.invokevirtual 60, 3) := by decide +kernel
theorem dX8_writeGap_31 : decode cX8_writeGap 31 = .ok (.invokevirtual 362, 3) := by decide +kernel
theorem dX8_writeGap_34 : decode cX8_writeGap 34 = .ok (.pop, 1) := by decide +kernel
theorem dX8_writeGap_35 : decode cX8_writeGap 35 = .ok (.aload_n 0, 1) := by decide +kernel
theorem dX8_writeGap_36 : decode cX8_writeGap 36 = .ok (.getfield 44, 3) := by decide +kernel
theorem dX8_writeGap_39 : decode cX8_writeGap 39 = .ok (.iload_n 2, 1) := by decide +kernel
theorem dX8_writeGap_40 : decode cX8_writeGap 40 = .ok (.invokevirtual 367, 3) := by decide +kernel
theorem dX8_writeGap_43 : decode cX8_writeGap 43 = .ok (.pop, 1) := by decide +kernel
theorem dX8_writeGap_44 : decode cX8_writeGap 44 = .ok (.return_, 1) := by decide +kernel
set_option maxRecDepth 100000 in
set_option maxHeartbeats 4000000 in
theorem mX8_writeGap {l : Launch} {p1 p2 : Int32} {v w0 : bM} (hf : fX8_writeGap p1 p2 v = some w0) : bMetz l yX8_writeGap cX8_writeGap 3 none 6 3 603 LX (fun E a => [.ref a, .int p1, .int p2]) v w0 (fun _ => none) := by
  refine bz_start (by decide +kernel) wfX (fun _ _ => Nat.le_of_ble_eq_true rfl) ?_
  intro p e s m args below meth c D E a ls H locs X hr hl hB
  have hx := X.1
  have hb := X.2.1
  have hown := X.2.2.2.1
  have hts := X.2.2.2.2.1
  have hl : lv_has ls 3 [(0, .ref a), (1, .int p1), (2, .int p2)] := hl
  unfold fX8_writeGap at hf
  have hJ : ∀ (v1 : bM) (H : Heap) (locs : List Loc) (ls : Array Slot), fX8_writeGap_J20 p1 p2 v1 = some w0 → bBz D E LX a v1 s H locs → lv_has ls 3 [(0, .ref a), (1, .int p1), (2, .int p2)] → W p l e (rmOf 6 3 603) s m args below meth c H locs 1 201 (bQz below D E LX a w0 none args s 3 603) (F0 m 20 ls []) := by
    intro v1 H locs ls hf hB hl
    unfold fX8_writeGap_J20 at hf
    refine lv_aload_n hx hb dX8_writeGap_20 rfl (lv_at hl 0 rfl) ?_
    refine bz_getR X hB kl_X8 0 lc_X_0 6 (by decide) rfl wm_660 dX8_writeGap_21 ?_
    refine va_ldcSW9 hx hb hown (show vk_R RX8 365 "purtb" (E.1.2 25) s from X.2.2.2.2.2.1.2.2.1 25 ("PennyBakery", 365, "purtb") rfl) dX8_writeGap_24 ?_
    refine lv_iload_n hx hb dX8_writeGap_27 rfl (lv_at hl 1 rfl) ?_
    obtain ⟨h1, hf⟩ := ck_some hf
    refine bz_non (v0 := fun _ => 0) (w0 := fun _ => 0) hB (fun g1 g2 g3 => bk_runVr X (Av := [.int p1]) (rest := [.ref (a + 864)]) (mJ0_charAt_5068e (by decide) h1) yv_J0_charAt_5068e wm_394 ⟨Nat.le_of_ble_eq_true rfl, Nat.le_of_ble_eq_true rfl⟩ rfl rfl hl.1 (bz_txRecv hB (sTx_at (by decide : 25 < 40))) g1 g2 g3 (Nat.le_of_ble_eq_true rfl) ⟨Nat.le_of_ble_eq_true rfl, Nat.le_of_ble_eq_true rfl⟩ dX8_writeGap_28) (fun H locs hB => ?_)
    refine W.eq (g2 := F0 m 31 ls [.int (sAt 25 p1), .ref (a + 864)]) rfl ?_
    obtain ⟨h2, hf⟩ := ck_some hf
    obtain ⟨h3, hf⟩ := ck_some hf
    refine bz_appC X hB h2 h3 wm_1610 ⟨Nat.le_of_ble_eq_true rfl, Nat.le_of_ble_eq_true rfl⟩ hl.1 (Nat.le_of_ble_eq_true rfl) ⟨Nat.le_of_ble_eq_true rfl, Nat.le_of_ble_eq_true rfl⟩ dX8_writeGap_31 (fun H locs hB => ?_)
    refine lv_pop hx hb dX8_writeGap_34 rfl ?_
    obtain ⟨v2, ev2⟩ : ∃ y : bM, y = sbC v1 (sAt 25 p1) := ⟨_, rfl⟩
    have hf := nm_use hf ev2
    rw [← ev2] at hB
    obtain ⟨h4, hf⟩ := ck_some hf
    obtain ⟨t9, ht9, hf⟩ := bnr_some hf
    cases hf
    refine lv_aload_n hx hb dX8_writeGap_35 rfl (lv_at hl 0 rfl) ?_
    refine bz_getR X hB kl_X8 0 lc_X_0 6 (by decide) rfl wm_660 dX8_writeGap_36 ?_
    refine lv_iload_n hx hb dX8_writeGap_39 rfl (lv_at hl 2 rfl) ?_
    refine bz_appI X hB h4 (sLet_num ht9) wm_1624 ⟨Nat.le_of_ble_eq_true rfl, Nat.le_of_ble_eq_true rfl⟩ hl.1 (Nat.le_of_ble_eq_true rfl) ⟨Nat.le_of_ble_eq_true rfl, Nat.le_of_ble_eq_true rfl⟩ dX8_writeGap_40 (fun H locs hB => ?_)
    refine lv_pop hx hb dX8_writeGap_43 rfl ?_
    exact bz_vret X hr rfl hB (Nat.le_of_ble_eq_true rfl) (Nat.le_of_ble_eq_true rfl) dX8_writeGap_44
  refine lv_aload_n hx hb dX8_writeGap_0 rfl (lv_at hl 0 rfl) ?_
  refine bz_getR X hB kl_X8 0 lc_X_0 6 (by decide) rfl wm_660 dX8_writeGap_1 ?_
  refine bz_len X hB wm_895 ⟨Nat.le_of_ble_eq_true rfl, Nat.le_of_ble_eq_true rfl⟩ hl.1 (Nat.le_of_ble_eq_true rfl) ⟨Nat.le_of_ble_eq_true rfl, Nat.le_of_ble_eq_true rfl⟩ dX8_writeGap_4 (fun H locs hB => ?_)
  refine lv_if_le (tgt := 20) hx hb dX8_writeGap_7 (by decide) (fun c1 => ?_) (fun c1 => ?_)
  · rw [if_pos c1] at hf
    refine W.widen (k := 1) (n := 201) (Nat.le_of_ble_eq_true rfl) (Nat.le_of_ble_eq_true rfl) ?_
    exact hJ v H locs ls hf hB hl
  · rw [if_neg c1] at hf
    obtain ⟨h1, hf⟩ := ck_some hf
    refine lv_aload_n hx hb dX8_writeGap_10 rfl (lv_at hl 0 rfl) ?_
    refine bz_getR X hB kl_X8 0 lc_X_0 6 (by decide) rfl wm_660 dX8_writeGap_11 ?_
    refine lv_bipush (v := 32) hx hb dX8_writeGap_14 (by decide) ?_
    refine bz_appC X hB h1 (vp_c 32 128 rfl) wm_1610 ⟨Nat.le_of_ble_eq_true rfl, Nat.le_of_ble_eq_true rfl⟩ hl.1 (Nat.le_of_ble_eq_true rfl) ⟨Nat.le_of_ble_eq_true rfl, Nat.le_of_ble_eq_true rfl⟩ dX8_writeGap_16 (fun H locs hB => ?_)
    refine lv_pop hx hb dX8_writeGap_19 rfl ?_
    exact hJ _ H locs ls hf hB hl
theorem yv_X8_writeGap : bYv yX8_writeGap RX8 cX8_writeGap 3 none 2 := ⟨⟨rfl, by decide, by decide, rfl⟩, wm_1608, wp_25, wm_1, wm_1609⟩
theorem dX8_writeBatch_0 : decode cX8_writeBatch 0 = .ok (.aload_n 0, 1) := by decide +kernel
theorem dX8_writeBatch_1 : decode cX8_writeBatch 1 = .ok (.iload_n 1, 1) := by decide +kernel
theorem dX8_writeBatch_2 : decode cX8_writeBatch 2 = .ok (.invokevirtual 207, 3) := by decide +kernel
theorem dX8_writeBatch_5 : decode cX8_writeBatch 5 = .ok (.aload_n 0, 1) := by decide +kernel
theorem dX8_writeBatch_6 : decode cX8_writeBatch 6 = .ok (.getfield 44, 3) := by decide +kernel
theorem dX8_writeBatch_9 : decode cX8_writeBatch 9 = .ok (.iconst 0, 1) := by decide +kernel
theorem dX8_writeBatch_10 : decode cX8_writeBatch 10 = .ok (.invokevirtual 339, 3) := by decide +kernel
theorem dX8_writeBatch_13 : decode cX8_writeBatch 13 = .ok (.iconst 0, 1) := by decide +kernel
theorem dX8_writeBatch_14 : decode cX8_writeBatch 14 = .ok (.istore_n 2, 1) := by decide +kernel
theorem dX8_writeBatch_15 : decode cX8_writeBatch 15 = .ok (.iload_n 2, 1) := by decide +kernel
theorem dX8_writeBatch_16 : decode cX8_writeBatch 16 = .ok (.iconst 4, 1) := by decide +kernel
theorem dX8_writeBatch_17 : decode cX8_writeBatch 17 = .ok (.if_icmp .gt 34, 3) := by decide +kernel
theorem dX8_writeBatch_20 : decode cX8_writeBatch 20 = .ok (.aload_n 0, 1) := by decide +kernel
theorem dX8_writeBatch_21 : decode cX8_writeBatch 21 = .ok (.getfield 10, 3) := by decide +kernel
theorem dX8_writeBatch_24 : decode cX8_writeBatch 24 = .ok (.getfield 93, 3) := by decide +kernel
theorem dX8_writeBatch_27 : decode cX8_writeBatch 27 = .ok (.getfield 232, 3) := by decide +kernel
theorem dX8_writeBatch_30 : decode cX8_writeBatch 30 = .ok (.iload_n 1, 1) := by decide +kernel
theorem dX8_writeBatch_31 : decode cX8_writeBatch 31 = .ok (.aaload, 1) := by decide +kernel
theorem dX8_writeBatch_32 : decode cX8_writeBatch 32 = .ok (.iload_n 2, 1) := by decide +kernel
theorem dX8_writeBatch_33 : decode cX8_writeBatch 33 = .ok (.iaload, 1) := by decide +kernel
theorem dX8_writeBatch_34 : decode cX8_writeBatch 34 = .ok (.istore_n 3, 1) := by decide +kernel
theorem dX8_writeBatch_35 : decode cX8_writeBatch 35 = .ok (.iload_n 3, 1) := by decide +kernel
theorem dX8_writeBatch_36 : decode cX8_writeBatch 36 = .ok (.ifCond .eq 9, 3) := by decide +kernel
theorem dX8_writeBatch_39 : decode cX8_writeBatch 39 = .ok (.aload_n 0, 1) := by decide +kernel
theorem dX8_writeBatch_40 : decode cX8_writeBatch 40 = .ok (.iload_n 2, 1) := by decide +kernel
theorem dX8_writeBatch_41 : decode cX8_writeBatch 41 = .ok (.iload_n 3, 1) := by decide +kernel
theorem dX8_writeBatch_42 : decode cX8_writeBatch 42 = .ok (.invokevirtual 342, 3) := by decide +kernel
theorem dX8_writeBatch_45 : decode cX8_writeBatch 45 = .ok (.iinc 2 1, 3) := by decide +kernel
theorem dX8_writeBatch_48 : decode cX8_writeBatch 48 = .ok (.goto (-33), 3) := by decide +kernel
theorem dX8_writeBatch_51 : decode cX8_writeBatch 51 = .ok (.aload_n 0, 1) := by decide +kernel
theorem dX8_writeBatch_52 : decode cX8_writeBatch 52 = .ok (.getfield 44, 3) := by decide +kernel
theorem dX8_writeBatch_55 : decode cX8_writeBatch 55 = .ok (.invokevirtual 345, 3) := by decide +kernel
theorem dX8_writeBatch_58 : decode cX8_writeBatch 58 = .ok (.ireturn, 1) := by decide +kernel
set_option maxRecDepth 100000 in
set_option maxHeartbeats 4000000 in
theorem mX8_writeBatch {l : Launch} {p1 r0 : Int32} {v w0 : bM} (hf : fX8_writeBatch p1 v = some (r0, w0)) : bMetz l yX8_writeBatch cX8_writeBatch 4 (some .int) 8 19 3819 LX (fun E a => [.ref a, .int p1]) v w0 (fun _ => some (.int r0)) := by
  refine bz_start (by decide +kernel) wfX (fun _ _ => Nat.le_of_ble_eq_true rfl) ?_
  intro p e s m args below meth c D E a ls H locs X hr hl hB
  have hx := X.1
  have hb := X.2.1
  have hown := X.2.2.2.1
  have hts := X.2.2.2.2.1
  have hl : lv_has ls 4 [(0, .ref a), (1, .int p1)] := hl
  unfold fX8_writeBatch at hf
  have hL : ∀ (n : Nat), n ≤ 6 → ∀ (y : Int32) (v : bM) (H : Heap) (locs : List Loc) (ls : Array Slot), fX8_writeBatch_L p1 n y v = some (r0, w0) → bBz D E LX a v s H locs → lv_has ls 4 [(2, .int y), (0, .ref a), (1, .int p1)] → W p l e (rmOf 8 19 3819) s m args below meth c H locs (19 - 3 * n) (3819 - 603 * n) (bQz below D E LX a w0 (some (.int r0)) args s 19 3819) (F0 m 15 ls []) := by
    intro n
    induction n with
    | zero => intro _ y v H locs ls hf; cases (show (none : Option (Int32 × bM)) = some (r0, w0) from hf)
    | succ n ih =>
      intro hn y v H locs ls hf hB hl
      unfold fX8_writeBatch_L at hf
      refine lv_iload_n hx hb dX8_writeBatch_15 rfl (lv_at hl 0 rfl) ?_
      refine lv_iconst (v := 4) hx hb dX8_writeBatch_16 (by decide) ?_
      refine lv_icmp_gt (tgt := 51) hx hb dX8_writeBatch_17 (by decide) (fun c1 => ?_) (fun c1 => ?_)
      · rw [if_pos c1] at hf
        cases hf
        refine lv_aload_n hx hb dX8_writeBatch_51 rfl (lv_at hl 1 rfl) ?_
        refine bz_getR X hB kl_X8 0 lc_X_0 6 (by decide) rfl wm_660 dX8_writeBatch_52 ?_
        refine bz_len X hB wm_895 ⟨Nat.le_of_ble_eq_true rfl, Nat.le_of_ble_eq_true rfl⟩ hl.1 (Nat.le_of_ble_eq_true rfl) ⟨by show 19 - 3 * (n + 1) ≤ 19; omega, by show 3819 - 603 * (n + 1) ≤ 3819; omega⟩ dX8_writeBatch_55 (fun H locs hB => ?_)
        exact bz_iret X hr rfl hB (by omega) (by omega) dX8_writeBatch_58
      · rw [if_neg c1] at hf
        obtain ⟨h5, hf⟩ := ck_some hf
        obtain ⟨i6, ei6⟩ : ∃ y : Nat, y = (v 0).toNatClampNeg := ⟨_, rfl⟩
        have hf := nm_use hf ei6
        have hi6 : i6 < 12 := by rw [ei6]; exact vp_lt h5
        refine lv_aload_n hx hb dX8_writeBatch_20 rfl (lv_at hl 1 rfl) ?_
        refine bz_getS X hB kl_X8 0 lc_X_0 0 (by decide) rfl h5 wm_654 dX8_writeBatch_21 ?_
        rw [← ei6]
        refine bz_getR X hB kl_X6 (stC i6 + 0) ((subX_St _ hi6).at lc_St_0) 9 (by decide) rfl wm_241 dX8_writeBatch_24 ?_
        refine bz_getR X hB kl_X0 (stC i6 + 37) ((subX_St _ hi6).at lc_St_37) 9 (by decide) rfl wm_198 dX8_writeBatch_27 ?_
        refine lv_iload_n hx hb dX8_writeBatch_30 rfl (lv_at hl 2 rfl) ?_
        obtain ⟨h7, hf⟩ := ck_some hf
        refine bz_rld X hB (stC i6 + 46) ((subX_St _ hi6).at lc_St_46) h7 dX8_writeBatch_31 ?_
        refine lv_iload_n hx hb dX8_writeBatch_32 rfl (lv_at hl 0 rfl) ?_
        obtain ⟨h8, hf⟩ := ck_some hf
        refine bz_ald X hB (stC i6 + 47 + 1 * p1.toNatClampNeg) (lrX (subX_St _ hi6) (lr_St_46 _ (vp_lt h7))) h8 dX8_writeBatch_33 ?_
        refine lv_topi (fun g9 eg9 => ?_)
        have hf := nm_use hf eg9
        refine lv_istore_n (lv' := [(3, .int g9), (2, .int y), (0, .ref a), (1, .int p1)]) hx hb dX8_writeBatch_34 rfl hl (by decide) rfl (fun ls hl => ?_)
        refine lv_iload_n hx hb dX8_writeBatch_35 rfl (lv_at hl 0 rfl) ?_
        obtain ⟨v2, hv2, hf⟩ := bnw_some hf
        refine lv_if_eq (tgt := 45) hx hb dX8_writeBatch_36 (by decide) (fun c2 => ?_) (fun c2 => ?_)
        · rw [if_pos c2] at hv2
          cases hv2
          refine lv_iinc (v := (y + 1)) (lv' := [(2, .int (y + 1)), (3, .int g9), (0, .ref a), (1, .int p1)]) hx hb dX8_writeBatch_45 hl (k := 1) rfl (rfl) (by decide) rfl (fun ls hl => ?_)
          refine lv_goto (tgt := 15) hx hb dX8_writeBatch_48 (by decide) ?_
          refine W.widen (k := 19 - 3 * n) (n := 3819 - 603 * n) (by omega) (by omega) ?_
          exact ih (by omega) _ _ H locs ls hf hB (lv_sub hl [0, 2, 3] rfl)
        · rw [if_neg c2] at hv2
          refine lv_aload_n hx hb dX8_writeBatch_39 rfl (lv_at hl 2 rfl) ?_
          refine lv_iload_n hx hb dX8_writeBatch_40 rfl (lv_at hl 1 rfl) ?_
          refine lv_iload_n hx hb dX8_writeBatch_41 rfl (lv_at hl 0 rfl) ?_
          refine bz_runV X hB (Av := [.int y, .int g9]) (rest := []) (mX8_writeGap hv2) yv_X8_writeGap wm_1606 ⟨Nat.le_of_ble_eq_true rfl, Nat.le_of_ble_eq_true rfl⟩ rfl rfl hl.1 kl_X8.1 (hB.1.obj lc_X_0) (Nat.le_of_ble_eq_true rfl) ⟨by show 19 - 3 * (n + 1) + 3 ≤ 19; omega, by show 3819 - 603 * (n + 1) + 603 ≤ 3819; omega⟩ dX8_writeBatch_42 (fun H locs hB => ?_)
          refine W.eq (g2 := F0 m 45 ls []) rfl ?_
          refine lv_iinc (v := (y + 1)) (lv' := [(2, .int (y + 1)), (3, .int g9), (0, .ref a), (1, .int p1)]) hx hb dX8_writeBatch_45 hl (k := 1) rfl (rfl) (by decide) rfl (fun ls hl => ?_)
          refine lv_goto (tgt := 15) hx hb dX8_writeBatch_48 (by decide) ?_
          refine W.widen (k := 19 - 3 * n) (n := 3819 - 603 * n) (by omega) (by omega) ?_
          exact ih (by omega) _ _ H locs ls hf hB (lv_sub hl [0, 2, 3] rfl)
  refine lv_aload_n hx hb dX8_writeBatch_0 rfl (lv_at hl 0 rfl) ?_
  refine lv_iload_n hx hb dX8_writeBatch_1 rfl (lv_at hl 1 rfl) ?_
  obtain ⟨r2, hc1, hf⟩ := bnr_some hf
  refine bz_all hB (fun h1 h2 h3 => bk_runV X (Av := [.int p1]) (rest := []) (mX8_requireBatch hc1) yv_X8_requireBatch wm_1110 ⟨Nat.le_of_ble_eq_true rfl, Nat.le_of_ble_eq_true rfl⟩ rfl rfl hl.1 kl_X8.1 (hB.1.obj lc_X_0) h1 h2 h3 (Nat.le_of_ble_eq_true rfl) ⟨Nat.le_of_ble_eq_true rfl, Nat.le_of_ble_eq_true rfl⟩ dX8_writeBatch_2) (fun H locs hB => ?_)
  refine W.eq (g2 := F0 m 5 ls []) rfl ?_
  refine lv_aload_n hx hb dX8_writeBatch_5 rfl (lv_at hl 0 rfl) ?_
  refine bz_getR X hB kl_X8 0 lc_X_0 6 (by decide) rfl wm_660 dX8_writeBatch_6 ?_
  refine lv_iconst (v := 0) hx hb dX8_writeBatch_9 (by decide) ?_
  refine bz_set0 X hB wm_1366 ⟨Nat.le_of_ble_eq_true rfl, Nat.le_of_ble_eq_true rfl⟩ hl.1 (Nat.le_of_ble_eq_true rfl) ⟨Nat.le_of_ble_eq_true rfl, Nat.le_of_ble_eq_true rfl⟩ dX8_writeBatch_10 (fun H locs hB => ?_)
  refine lv_iconst (v := 0) hx hb dX8_writeBatch_13 (by decide) ?_
  refine lv_istore_n (lv' := [(2, .int 0), (0, .ref a), (1, .int p1)]) hx hb dX8_writeBatch_14 rfl hl (by decide) rfl (fun ls hl => ?_)
  refine W.widen (k := 19 - 3 * 6) (n := 3819 - 603 * 6) (Nat.le_of_ble_eq_true rfl) (Nat.le_of_ble_eq_true rfl) ?_
  exact hL 6 (Nat.le_of_ble_eq_true rfl) 0 _ H locs ls hf hB hl
theorem yv_X8_writeBatch : bYv yX8_writeBatch RX8 cX8_writeBatch 4 (some .int) 1 := ⟨⟨rfl, by decide, by decide, rfl⟩, wm_1363, wm_1364, wm_1, wm_1365⟩
def xX8_writeBatch (p1 : Int32) (v : bM) : Option Nat :=
  xr (xX8_requireBatch p1 v) <| bnr (fX8_requireBatch p1 v) fun r2 => none
set_option maxRecDepth 100000 in
set_option maxHeartbeats 4000000 in
theorem mxX8_writeBatch {l : Launch} (hlt : l.stackTraces = false) {p1 : Int32} {v : bM} {r0 : Nat} (hf : xX8_writeBatch p1 v = some r0) : bMetX l yX8_writeBatch cX8_writeBatch 4 (some .int) 8 1 6 LX (fun E a => [.ref a, .int p1]) v r0 := by
  refine bk_startX (by decide +kernel) wfX (fun _ _ => Nat.le_of_ble_eq_true rfl) ?_
  intro p e s m args below meth c D E a ls H locs X hr hxt hl hB
  have hx := X.1
  have hb := X.2.1
  have hown := X.2.2.2.1
  have hts := X.2.2.2.2.1
  have hl : lv_has ls 4 [(0, .ref a), (1, .int p1)] := hl
  have hf := (xX8_writeBatch.eq_1 p1 v).symm.trans hf
  refine lv_aload_n hx hb dX8_writeBatch_0 rfl (lv_at hl 0 rfl) ?_
  refine lv_iload_n hx hb dX8_writeBatch_1 rfl (lv_at hl 1 rfl) ?_
  refine xr_cases hf (fun hX => ?_) (fun hf => ?_)
  · exact bk_allX hxt X hB (fun h1 h2 h3 => bk_runVX X (Av := [.int p1]) (rest := []) (mxX8_requireBatch hlt hX) yv_X8_requireBatch wm_1110 ⟨Nat.le_of_ble_eq_true rfl, Nat.le_of_ble_eq_true rfl⟩ rfl rfl hl.1 kl_X8.1 (hB.1.obj lc_X_0) h1 h2 h3 (Nat.le_of_ble_eq_true rfl) ⟨Nat.le_of_ble_eq_true rfl, Nat.le_of_ble_eq_true rfl⟩ dX8_writeBatch_2)
  obtain ⟨r2, hc1, hf⟩ := bnr_some hf
  refine bk_all hB (fun h1 h2 h3 => bk_runV X (Av := [.int p1]) (rest := []) (mX8_requireBatch hc1) yv_X8_requireBatch wm_1110 ⟨Nat.le_of_ble_eq_true rfl, Nat.le_of_ble_eq_true rfl⟩ rfl rfl hl.1 kl_X8.1 (hB.1.obj lc_X_0) h1 h2 h3 (Nat.le_of_ble_eq_true rfl) ⟨Nat.le_of_ble_eq_true rfl, Nat.le_of_ble_eq_true rfl⟩ dX8_writeBatch_2) (fun H locs hB => ?_)
  refine W.eq (g2 := F0 m 5 ls []) rfl ?_
  cases hf

