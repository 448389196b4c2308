/-! ===== the facts of the start: one text ===== -/
theorem getD_nI (t : List Nat) (j : Nat) : (t.map nI).getD j 0 = nI (t.getD j 0) := by
  rw [List.getD_eq_getElem?_getD, List.getD_eq_getElem?_getD, List.getElem?_map]
  cases t[j]? with
  | none => rfl
  | some x => rfl
theorem one_txt {args : Array Value} {s : State} {own : String} {k : Nat} {t : List Nat} (hn : t.length < 2 ^ 31) (hex : (Cond.exactly (.string own k) "java/lang/String").before args s = true) (hco : (Cond.eq (.field (.string own k) "java/lang/String" "coder" "B") (.int 0)).before args s = true) (har : (Cond.arrayOf (.field (.string own k) "java/lang/String" "value" "[B") .byte).before args s = true) (hle : (Cond.eq (.length (.field (.string own k) "java/lang/String" "value" "[B")) (.int (Int32.ofNat t.length))).before args s = true)
    (hel : ∀ j : Nat, j < t.length → (Cond.eq (.elem (.field (.string own k) "java/lang/String" "value" "[B") (.int (Int32.ofNat j))) (.int (nI (t.getD j 0)))).before args s = true) :
    ∃ a1 a2 : Nat, (Term.string own k).eval args s none [] s = some (.ref a1) ∧ va_O "java/lang/String" a1 (fun q => s.heap.size ≤ q) s s.heap ∧ va_OF "java/lang/String" "coder" "B" (.int 0) a1 (fun q => s.heap.size ≤ q) s s.heap ∧ va_OF "java/lang/String" "value" "[B" (.ref a2) a1 (fun q => s.heap.size ≤ q) s s.heap ∧ va_T .byte a2 t.length (fun j => .int (nI (t.getD j 0))) (fun q => s.heap.size ≤ q) s s.heap := by
  obtain ⟨adK, adV, h, he⟩ := vk_Sof (args := args) (s := s) (N := 1) (tm := fun _ => .string own k) (len := [t.length]) (byt := [t.map nI]) (A := fun q => s.heap.size ≤ q)
    (fun i hi => by rw [show i = 0 by omega]; exact hn) (fun _ _ => hex) (fun _ _ => hco) (fun _ _ => har) (fun i hi => by rw [show i = 0 by omega]; exact hle)
    (fun i hi j hj => by
      rw [show i = 0 by omega] at hj ⊢
      show (Cond.eq (.elem (.field (.string own k) "java/lang/String" "value" "[B") (.int (Int32.ofNat j))) (.int ((t.map nI).getD j 0))).before args s = true
      rw [getD_nI]
      exact hel j hj) (fun i j hi hj hne => absurd (show i = j by omega) hne) (fun a ha => Nat.not_le.mpr ha)
  obtain ⟨h1, h2, h3, h4⟩ := h.1 0 (by decide)
  refine ⟨adK 0, adV 0, he 0 (by decide), h1, h2, h3, ?_⟩
  have e : (fun j : Nat => Value.int (nI (t.getD j 0))) = (fun j : Nat => Value.int ((([t.map nI] : List (List Int32)).getD 0 []).getD j 0)) := funext fun j => by
    show Value.int (nI (t.getD j 0)) = Value.int ((t.map nI).getD j 0)
    rw [getD_nI]
  rw [e]
  exact h4
