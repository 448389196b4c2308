/-! ===== the facts of the start: a static array of bytes, and a static number ===== -/
theorem dig_of {args : Array Value} {s : State} {C nm : String} {N : Nat} {g : Nat → Nat} (hN : N < 2 ^ 31) (hl : (Cond.laysStatic C nm "[B").before args s = true) (hini : (Cond.initialized C).before args s = true) (harr : (Cond.arrayOf (.static C nm "[B") .byte).before args s = true) (hlen : (Cond.eq (.length (.static C nm "[B")) (.int (Int32.ofNat N))).before args s = true) (hel : ∀ j : Nat, j < N → (Cond.eq (.elem (.static C nm "[B") (.int (Int32.ofNat j))) (.int (nI (g j)))).before args s = true) :
    ∃ t : Nat, va_Z C nm "[B" (.ref t) (fun q => s.heap.size ≤ q) s s.heap ∧ va_T .byte t N (fun j => .int (nI (g j))) (fun q => s.heap.size ≤ q) s s.heap := by
  obtain ⟨t, h1, h2⟩ := va_Tof (f := fun j => .int (nI (g j))) (A := fun q => s.heap.size ≤ q) hN harr (va_eqv hlen rfl) (fun j hj => va_eqv (hel j hj) rfl) (fun a ha => Nat.not_le.mpr ha)
  exact ⟨t, va_Zof hl hini h1 (fun a ha => Nat.not_le.mpr ha), h2⟩
theorem num_of {args : Array Value} {s : State} {C nm d : String} {x : Int32} (hl : (Cond.laysStatic C nm d).before args s = true) (hini : (Cond.initialized C).before args s = true) (h : (Cond.eq (.static C nm d) (.int x)).before args s = true) : va_Z C nm d (.int x) (fun q => s.heap.size ≤ q) s s.heap :=
  va_Zof hl hini (va_eqv h rfl) (fun a ha => Nat.not_le.mpr ha)
