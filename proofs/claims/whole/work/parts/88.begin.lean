/-! ===== the world of the start ===== -/
def okT (args : Array Value) (s : State) (q : String × Nat × String) (t : List Nat) (a1 a2 : Nat) : Prop := (Term.string q.1 q.2.1).eval args s none [] s = some (.ref a1) ∧ va_O "java/lang/String" a1 (fun q => s.heap.size ≤ q) s s.heap ∧ va_OF "java/lang/String" "coder" "B" (.int 0) a1 (fun q => s.heap.size ≤ q) s s.heap ∧ va_OF "java/lang/String" "value" "[B" (.ref a2) a1 (fun q => s.heap.size ≤ q) s s.heap ∧ va_T .byte a2 t.length (fun j => .int (nI (t.getD j 0))) (fun q => s.heap.size ≤ q) s s.heap
set_option maxRecDepth 100000 in
theorem tx_all {args : Array Value} {s : State} (h1 : narrow_1_1.before args s = true) (h2 : narrow_1_2.before args s = true) (h3 : narrow_1_3.before args s = true) (i : Nat) : ∃ d : Nat × Nat, ∀ (q : String × Nat × String) (t : List Nat), sWd[i]? = some q → sTx[i]? = some t → okT args s q t d.1 d.2 := by
  match i with
  | 0 =>
    obtain ⟨a, b, h⟩ := tx_0 h1 h2 h3
    exact ⟨(a, b), fun q t hq ht => by cases hq; cases ht; exact h⟩
  | 1 =>
    obtain ⟨a, b, h⟩ := tx_1 h1 h2 h3
    exact ⟨(a, b), fun q t hq ht => by cases hq; cases ht; exact h⟩
  | 2 =>
    obtain ⟨a, b, h⟩ := tx_2 h1 h2 h3
    exact ⟨(a, b), fun q t hq ht => by cases hq; cases ht; exact h⟩
  | 3 =>
    obtain ⟨a, b, h⟩ := tx_3 h1 h2 h3
    exact ⟨(a, b), fun q t hq ht => by cases hq; cases ht; exact h⟩
  | 4 =>
    obtain ⟨a, b, h⟩ := tx_4 h1 h2 h3
    exact ⟨(a, b), fun q t hq ht => by cases hq; cases ht; exact h⟩
  | 5 =>
    obtain ⟨a, b, h⟩ := tx_5 h1 h2 h3
    exact ⟨(a, b), fun q t hq ht => by cases hq; cases ht; exact h⟩
  | 6 =>
    obtain ⟨a, b, h⟩ := tx_6 h1 h2 h3
    exact ⟨(a, b), fun q t hq ht => by cases hq; cases ht; exact h⟩
  | 7 =>
    obtain ⟨a, b, h⟩ := tx_7 h1 h2 h3
    exact ⟨(a, b), fun q t hq ht => by cases hq; cases ht; exact h⟩
  | 8 =>
    obtain ⟨a, b, h⟩ := tx_8 h1 h2 h3
    exact ⟨(a, b), fun q t hq ht => by cases hq; cases ht; exact h⟩
  | 9 =>
    obtain ⟨a, b, h⟩ := tx_9 h1 h2 h3
    exact ⟨(a, b), fun q t hq ht => by cases hq; cases ht; exact h⟩
  | 10 =>
    obtain ⟨a, b, h⟩ := tx_10 h1 h2 h3
    exact ⟨(a, b), fun q t hq ht => by cases hq; cases ht; exact h⟩
  | 11 =>
    obtain ⟨a, b, h⟩ := tx_11 h1 h2 h3
    exact ⟨(a, b), fun q t hq ht => by cases hq; cases ht; exact h⟩
  | 12 =>
    obtain ⟨a, b, h⟩ := tx_12 h1 h2 h3
    exact ⟨(a, b), fun q t hq ht => by cases hq; cases ht; exact h⟩
  | 13 =>
    obtain ⟨a, b, h⟩ := tx_13 h1 h2 h3
    exact ⟨(a, b), fun q t hq ht => by cases hq; cases ht; exact h⟩
  | 14 =>
    obtain ⟨a, b, h⟩ := tx_14 h1 h2 h3
    exact ⟨(a, b), fun q t hq ht => by cases hq; cases ht; exact h⟩
  | 15 =>
    obtain ⟨a, b, h⟩ := tx_15 h1 h2 h3
    exact ⟨(a, b), fun q t hq ht => by cases hq; cases ht; exact h⟩
  | 16 =>
    obtain ⟨a, b, h⟩ := tx_16 h1 h2 h3
    exact ⟨(a, b), fun q t hq ht => by cases hq; cases ht; exact h⟩
  | 17 =>
    obtain ⟨a, b, h⟩ := tx_17 h1 h2 h3
    exact ⟨(a, b), fun q t hq ht => by cases hq; cases ht; exact h⟩
  | 18 =>
    obtain ⟨a, b, h⟩ := tx_18 h1 h2 h3
    exact ⟨(a, b), fun q t hq ht => by cases hq; cases ht; exact h⟩
  | 19 =>
    obtain ⟨a, b, h⟩ := tx_19 h1 h2 h3
    exact ⟨(a, b), fun q t hq ht => by cases hq; cases ht; exact h⟩
  | 20 =>
    obtain ⟨a, b, h⟩ := tx_20 h1 h2 h3
    exact ⟨(a, b), fun q t hq ht => by cases hq; cases ht; exact h⟩
  | 21 =>
    obtain ⟨a, b, h⟩ := tx_21 h1 h2 h3
    exact ⟨(a, b), fun q t hq ht => by cases hq; cases ht; exact h⟩
  | 22 =>
    obtain ⟨a, b, h⟩ := tx_22 h1 h2 h3
    exact ⟨(a, b), fun q t hq ht => by cases hq; cases ht; exact h⟩
  | 23 =>
    obtain ⟨a, b, h⟩ := tx_23 h1 h2 h3
    exact ⟨(a, b), fun q t hq ht => by cases hq; cases ht; exact h⟩
  | 24 =>
    obtain ⟨a, b, h⟩ := tx_24 h1 h2 h3
    exact ⟨(a, b), fun q t hq ht => by cases hq; cases ht; exact h⟩
  | 25 =>
    obtain ⟨a, b, h⟩ := tx_25 h1 h2 h3
    exact ⟨(a, b), fun q t hq ht => by cases hq; cases ht; exact h⟩
  | 26 =>
    obtain ⟨a, b, h⟩ := tx_26 h1 h2 h3
    exact ⟨(a, b), fun q t hq ht => by cases hq; cases ht; exact h⟩
  | 27 =>
    obtain ⟨a, b, h⟩ := tx_27 h1 h2 h3
    exact ⟨(a, b), fun q t hq ht => by cases hq; cases ht; exact h⟩
  | 28 =>
    obtain ⟨a, b, h⟩ := tx_28 h1 h2 h3
    exact ⟨(a, b), fun q t hq ht => by cases hq; cases ht; exact h⟩
  | 29 =>
    obtain ⟨a, b, h⟩ := tx_29 h1 h2 h3
    exact ⟨(a, b), fun q t hq ht => by cases hq; cases ht; exact h⟩
  | 30 =>
    obtain ⟨a, b, h⟩ := tx_30 h1 h2 h3
    exact ⟨(a, b), fun q t hq ht => by cases hq; cases ht; exact h⟩
  | 31 =>
    obtain ⟨a, b, h⟩ := tx_31 h1 h2 h3
    exact ⟨(a, b), fun q t hq ht => by cases hq; cases ht; exact h⟩
  | 32 =>
    obtain ⟨a, b, h⟩ := tx_32 h1 h2 h3
    exact ⟨(a, b), fun q t hq ht => by cases hq; cases ht; exact h⟩
  | 33 =>
    obtain ⟨a, b, h⟩ := tx_33 h1 h2 h3
    exact ⟨(a, b), fun q t hq ht => by cases hq; cases ht; exact h⟩
  | 34 =>
    obtain ⟨a, b, h⟩ := tx_34 h1 h2 h3
    exact ⟨(a, b), fun q t hq ht => by cases hq; cases ht; exact h⟩
  | 35 =>
    obtain ⟨a, b, h⟩ := tx_35 h1 h2 h3
    exact ⟨(a, b), fun q t hq ht => by cases hq; cases ht; exact h⟩
  | 36 =>
    obtain ⟨a, b, h⟩ := tx_36 h1 h2 h3
    exact ⟨(a, b), fun q t hq ht => by cases hq; cases ht; exact h⟩
  | 37 =>
    obtain ⟨a, b, h⟩ := tx_37 h1 h2 h3
    exact ⟨(a, b), fun q t hq ht => by cases hq; cases ht; exact h⟩
  | 38 =>
    obtain ⟨a, b, h⟩ := tx_38 h1 h2 h3
    exact ⟨(a, b), fun q t hq ht => by cases hq; cases ht; exact h⟩
  | 39 =>
    obtain ⟨a, b, h⟩ := tx_39 h1 h2 h3
    exact ⟨(a, b), fun q t hq ht => by cases hq; cases ht; exact h⟩
  | n + 40 => exact ⟨(0, 0), fun q t hq _ => by cases hq⟩
theorem sWd_len : sWd.length = 40 := by decide +kernel
theorem sTx_len9 : sTx.length = 40 := by decide +kernel
theorem start_G {args : Array Value} {s : State} (hg : (Cond.and given_1 narrow_1).before args s = true) (hts : ∀ w ∈ lw_tbl, w.before args s = true) : ∃ G : Nat → Nat, (∀ (i : Nat) (q : String × Nat × String) (t : List Nat), sWd[i]? = some q → sTx[i]? = some t → okT args s q t (G i) (G (100 + i))) ∧ (va_Z "java/lang/Integer" "DigitOnes" "[B" (.ref (G 200)) (fun q => s.heap.size ≤ q) s s.heap ∧ va_T .byte (G 200) 100 (fun j => .int (nI (48 + j % 10))) (fun q => s.heap.size ≤ q) s s.heap) ∧ (va_Z "java/lang/Integer" "DigitTens" "[B" (.ref (G 201)) (fun q => s.heap.size ≤ q) s s.heap ∧ va_T .byte (G 201) 100 (fun j => .int (nI (48 + j / 10))) (fun q => s.heap.size ≤ q) s s.heap) := by
  have hn : narrow_1.before args s = true := a_r hg
  have h1 : narrow_1_1.before args s = true := a_l hn
  have h23 : (Cond.and narrow_1_2 narrow_1_3).before args s = true := a_r hn
  have h2 := a_l h23
  have h3 := a_r h23
  obtain ⟨t1, z1, v1⟩ := dg_DigitOnes h1 h2 h3 (hts _ tb_l5) (hts _ tb_i4)
  obtain ⟨t2, z2, v2⟩ := dg_DigitTens h1 h2 h3 (hts _ tb_l6) (hts _ tb_i4)
  have T := tx_all h1 h2 h3
  refine ⟨fun x => if x = 200 then t1 else if x = 201 then t2 else if x < 100 then (Classical.choose (T x)).1 else (Classical.choose (T (x - 100))).2, fun i q t hq ht => ?_, ⟨?_, ?_⟩, ⟨?_, ?_⟩⟩
  · have hi : i < 40 := by
      have h9 := (List.getElem?_eq_some_iff.mp hq).1
      rw [sWd_len] at h9
      exact h9
    have e1 : (if i = 200 then t1 else if i = 201 then t2 else if i < 100 then (Classical.choose (T i)).1 else (Classical.choose (T (i - 100))).2) = (Classical.choose (T i)).1 := by
      rw [if_neg (by omega), if_neg (by omega), if_pos (by omega)]
    have e2 : (if 100 + i = 200 then t1 else if 100 + i = 201 then t2 else if 100 + i < 100 then (Classical.choose (T (100 + i))).1 else (Classical.choose (T (100 + i - 100))).2) = (Classical.choose (T i)).2 := by
      rw [if_neg (by omega), if_neg (by omega), if_neg (by omega), show 100 + i - 100 = i by omega]
    have g := Classical.choose_spec (T i) q t hq ht
    rw [← e1, ← e2] at g
    exact g
  · exact z1
  · exact v1
  · exact z2
  · exact v2
theorem bNest_tab : ∀ w ∈ bNest, w.onTables = true := by
  intro w hw
  have h : bNest.all (fun w => w.onTables) = true := by decide +kernel
  exact List.all_eq_true.mp h w hw
theorem start_C {s : State} {m : MethodId} {meth : Method} {c : Code} {p : Program} {b : Nat} (hx : p.tables.exec = Jvm.exec) (hb : c.code = code) (hml : c.maxLocals = 9) (hown : s.vm.findClass RL = some m.cls) (hts : ∀ w ∈ lw_tbl, w.before #[Value.ref b] s = true) (hlk : meth.locks = false) (hg : (Cond.and given_1 narrow_1).before #[Value.ref b] s = true) : ∃ (D : va_G) (E : bE), bCx p s m #[Value.ref b] meth c RL cL_law 9 D E ∧ E.2 = s.heap.size + 877 ∧ bTx s E s.heap.size s.heap := by
  have hn : narrow_1.before #[Value.ref b] s = true := a_r hg
  have h1 : narrow_1_1.before #[Value.ref b] s = true := a_l hn
  have h23 : (Cond.and narrow_1_2 narrow_1_3).before #[Value.ref b] s = true := a_r hn
  have h2 := a_l h23
  have h3 := a_r h23
  have hA : ∀ a : Nat, a < s.heap.size → ¬ s.heap.size ≤ a := fun a ha => Nat.not_le.mpr ha
  have hw : ∀ w ∈ wAll, w.before #[Value.ref b] s = true := fun w hw => hts w (List.mem_filter.mp hw).1
  obtain ⟨D, hD⟩ := start_D hw
  obtain ⟨F, hF1, hF2⟩ := start_F hw (hts _ tb_o1) (hts _ tb_o2)
  obtain ⟨G, g1, ⟨z1, v1⟩, ⟨z2, v2⟩⟩ := start_G hg hts
  refine ⟨D, ((F, G), s.heap.size + 877), ⟨hx, hb, hml, hown, hw, ⟨⟨hD, hF2⟩, ?_, ?_, ?_⟩, hlk⟩, rfl, ⟨?_, ?_⟩⟩
  · exact fun w hw => va_Nw.of (bNest_tab w hw) (hts w (tb_nest w hw))
  · intro i q hq
    have hi : i < 40 := by
      have h9 := (List.getElem?_eq_some_iff.mp hq).1
      rw [sWd_len] at h9
      exact h9
    have ht : ∃ t, sTx[i]? = some t := ⟨_, List.getElem?_eq_getElem (by rw [sTx_len9]; exact hi)⟩
    obtain ⟨t, ht⟩ := ht
    exact vk_R.of (hts _ (tb_str i q hq)) (g1 i q t hq ht).1
  · exact ⟨fun w hw => va_tabs (bFace_ok w hw).1 rfl (hts w (tb_face w hw)), nc_all h1 h2 h3, va_AO.of (hts _ tb_o2), over_int (hts _ tb_o1), hF1⟩
  · exact ⟨num_of (hts _ tb_l1) (hts _ tb_i1) (gv_cs h1 h2 h3), va_Zqof (hts _ tb_l2) (hts _ tb_i2) (gv_si h1 h2 h3) hA, vx_Zqof (hts _ tb_l3) (hts _ tb_i3) (gv_us h1 h2 h3) hA, vx_Zqof (hts _ tb_l4) (hts _ tb_i3) (gv_ss h1 h2 h3) hA, z1, z2, v1, v2⟩
  · intro i t ht
    have hi : i < 40 := by
      have h9 := (List.getElem?_eq_some_iff.mp ht).1
      rw [sTx_len9] at h9
      exact h9
    have hq : ∃ q, sWd[i]? = some q := ⟨_, List.getElem?_eq_getElem (by rw [sWd_len]; exact hi)⟩
    obtain ⟨q, hq⟩ := hq
    exact (g1 i q t hq ht).2
