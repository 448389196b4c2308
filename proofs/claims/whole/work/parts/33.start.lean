/-! ===== the facts of the start: the classes ===== -/
theorem uw_Jx00060 : ∀ w ∈ u_ws RJx00060 TJx00060 6, w ∈ wAll := by
  intro w hw
  obtain ⟨k, hk, rfl⟩ := List.mem_map.mp hw
  have hk := List.mem_range.mp hk
  match k, hk with
  | 0, _ => exact wm_1585
  | 1, _ => exact wm_1586
  | 2, _ => exact wm_1587
  | 3, _ => exact wm_1588
  | 4, _ => exact wm_1589
  | 5, _ => exact wm_1600
  | n + 6, h => exact absurd h (by omega)
theorem uw_Jx7c733 : ∀ w ∈ u_ws RJx7c733 TJx7c733 6, w ∈ wAll := by
  intro w hw
  obtain ⟨k, hk, rfl⟩ := List.mem_map.mp hw
  have hk := List.mem_range.mp hk
  match k, hk with
  | 0, _ => exact wm_1560
  | 1, _ => exact wm_1561
  | 2, _ => exact wm_1562
  | 3, _ => exact wm_1563
  | 4, _ => exact wm_1564
  | 5, _ => exact wm_1565
  | n + 6, h => exact absurd h (by omega)
theorem start_D {s : State} {args : Array Value} (hts : ∀ w ∈ wAll, w.before args s = true) : ∃ D : va_G, ∀ (c : Nat) (q : vw_C), vwCl[c]? = some q → u_Kn s q.1 q.2.1 q.2.2 (D.1 c) (D.2 c) := by
  have h : ∀ c : Nat, ∃ d : ClassId × (Nat → Nat), ∀ q : vw_C, vwCl[c]? = some q → u_Kn s q.1 q.2.1 q.2.2 d.1 d.2 := by
    intro c
    match c with
    | 0 =>
      obtain ⟨a, b, g⟩ := u_known (T := TJ0) (N := 4) hts uw_J0 (hts _ wm_1506)
      exact ⟨(a, b), fun q hq => by cases hq; exact g⟩
    | 1 =>
      obtain ⟨a, b, g⟩ := u_known (T := TJ4) (N := 4) hts uw_J4 (hts _ wm_352)
      exact ⟨(a, b), fun q hq => by cases hq; exact g⟩
    | 2 =>
      obtain ⟨a, b, g⟩ := u_known (T := TJx00060) (N := 6) hts uw_Jx00060 (hts _ wm_1580)
      exact ⟨(a, b), fun q hq => by cases hq; exact g⟩
    | 3 =>
      obtain ⟨a, b, g⟩ := u_known (T := TJx7c733) (N := 6) hts uw_Jx7c733 (hts _ wm_1374)
      exact ⟨(a, b), fun q hq => by cases hq; exact g⟩
    | 4 =>
      obtain ⟨a, b, g⟩ := u_known (T := TX0) (N := 10) hts uw_X0 (hts _ wm_163)
      exact ⟨(a, b), fun q hq => by cases hq; exact g⟩
    | 5 =>
      obtain ⟨a, b, g⟩ := u_known (T := TX1) (N := 8) hts uw_X1 (hts _ wm_91)
      exact ⟨(a, b), fun q hq => by cases hq; exact g⟩
    | 6 =>
      obtain ⟨a, b, g⟩ := u_known (T := TX2) (N := 7) hts uw_X2 (hts _ wm_47)
      exact ⟨(a, b), fun q hq => by cases hq; exact g⟩
    | 7 =>
      obtain ⟨a, b, g⟩ := u_known (T := TX3) (N := 3) hts uw_X3 (hts _ wm_264)
      exact ⟨(a, b), fun q hq => by cases hq; exact g⟩
    | 8 =>
      obtain ⟨a, b, g⟩ := u_known (T := TX4) (N := 9) hts uw_X4 (hts _ wm_284)
      exact ⟨(a, b), fun q hq => by cases hq; exact g⟩
    | 9 =>
      obtain ⟨a, b, g⟩ := u_known (T := TX5) (N := 4) hts uw_X5 (hts _ wm_137)
      exact ⟨(a, b), fun q hq => by cases hq; exact g⟩
    | 10 =>
      obtain ⟨a, b, g⟩ := u_known (T := TX6) (N := 10) hts uw_X6 (hts _ wm_41)
      exact ⟨(a, b), fun q hq => by cases hq; exact g⟩
    | 11 =>
      obtain ⟨a, b, g⟩ := u_known (T := TX7) (N := 7) hts uw_X7 (hts _ wm_290)
      exact ⟨(a, b), fun q hq => by cases hq; exact g⟩
    | 12 =>
      obtain ⟨a, b, g⟩ := u_known (T := TX8) (N := 7) hts uw_X8 (hts _ wm_33)
      exact ⟨(a, b), fun q hq => by cases hq; exact g⟩
    | 13 =>
      obtain ⟨a, b, g⟩ := u_known (T := TX9) (N := 19) hts uw_X9 (hts _ wm_1626)
      exact ⟨(a, b), fun q hq => by cases hq; exact g⟩
    | n + 14 => exact ⟨(0, fun _ => 0), fun q hq => by cases hq⟩
  exact ⟨(fun c => (Classical.choose (h c)).1, fun c => (Classical.choose (h c)).2), fun c q hq => Classical.choose_spec (h c) q hq⟩
