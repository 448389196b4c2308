/-! ===== the facts of the start: the array classes ===== -/
theorem over_int {s : State} {args : Array Value} (h : (Cond.arrayOver (.array .int)).before args s = true) : bOI s := by
  simp only [Cond.before, Cond.holds, Cond.value, beq_iff_eq] at h
  cases hc : s.vm.findClass (FieldType.array .int).toString with
  | none => simp [hc] at h
  | some comp =>
    simp only [hc, Option.bind_some, Option.bind_eq_some_iff, Option.map_eq_some_iff] at h
    obtain ⟨c, hi, k, hk, hb⟩ := h
    obtain ⟨hlt, hp, -⟩ := Array.findIdx?_eq_some_iff_getElem.mp hi
    have hkk : s.vm.classes[c] = k := (Array.getElem?_eq_some_iff.mp hk).2
    rw [hkk] at hp
    cases hkind : k.kind with
    | array component ty =>
      rw [hkind] at hb hp
      simp at hb hp
      exact ⟨comp, c, k, hc, hi, hk, by rw [hkind, hp, hb.1], hb.2⟩
    | _ => rw [hkind] at hb; simp at hb
theorem arr_prim {s : State} {args : Array Value} {ty : FieldType} (h : (Cond.arrayClass ty).before args s = true) : ∃ c : ClassId, s.vm.findClass ("[" ++ ty.toString) = some c ∧ ArrOfT s c ty := by
  obtain ⟨c, k, comp, h1, h2, h3⟩ := Cond.arrayClass_spec h
  exact ⟨c, h1, fun n z => ⟨(fun k h => by cases h), k, h2, comp, h3⟩⟩
theorem start_F {s : State} {args : Array Value} (hts : ∀ w ∈ wAll, w.before args s = true) (ho1 : (Cond.arrayOver (.array .int)).before args s = true) (ho2 : (Cond.arrayOver (.object RX6)).before args s = true) : ∃ F : Nat → ClassId, (∀ (k : Nat) (nm : String), bAnm[k]? = some nm → s.vm.findClass nm = some (F k)) ∧ (∀ (k : Nat) (q : ClassId × FieldType), ([(F 0, .int), (F 1, .boolean), (F 2, .array .int), (F 3, .object RX6), (F 4, .byte), (F 5, .long)] : List (ClassId × FieldType))[k]? = some q → ArrOfT s q.1 q.2 ∧ va_RA s q.1 q.2) := by
  obtain ⟨c0, i0, a0⟩ := arr_prim (hts _ wm_89)
  obtain ⟨c1, i1, a1⟩ := arr_prim (hts _ wm_318)
  obtain ⟨c4, i4, a4⟩ := arr_prim (hts _ wm_383)
  obtain ⟨c5, i5, a5⟩ := arr_prim (hts _ wm_2264)
  obtain ⟨m2, c2, k2, o1, o2, o3, o4, o5⟩ := over_int ho1
  obtain ⟨m3, c3, k3, p1, p2, p3, p4, p5⟩ := Cond.arrayOver_spec ho2
  refine ⟨fun k => match k with | 0 => c0 | 1 => c1 | 2 => c2 | 3 => c3 | 4 => c4 | _ => c5, fun k nm h => ?_, fun k q h => ?_⟩
  · match k, h with
    | 0, h => cases h; exact i0
    | 1, h => cases h; exact i1
    | 2, h => cases h; exact o5
    | 3, h => cases h; exact p5
    | 4, h => cases h; exact i4
    | 5, h => cases h; exact i5
    | n + 6, h => cases h
  · match k, h with
    | 0, h => cases h; exact ⟨a0, i0⟩
    | 1, h => cases h; exact ⟨a1, i1⟩
    | 2, h => cases h; exact ⟨fun n z => ⟨(fun k h => by cases h), k2, o3, m2, o4⟩, o5⟩
    | 3, h => cases h; exact ⟨fun n z => ⟨(fun k h => by cases h), k3, p3, m3, p4⟩, k3, m3, p3, p4, p1, p5⟩
    | 4, h => cases h; exact ⟨a4, i4⟩
    | 5, h => cases h; exact ⟨a5, i5⟩
    | n + 6, h => cases h
