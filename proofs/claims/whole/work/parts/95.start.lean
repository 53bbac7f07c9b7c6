/-! the start: the classes known, both objects made -/
theorem td_0 : TD 0 0 (fun _ => 0) (fun _ => 0) (fun _ => 0) (fun _ => 0) (fun _ => 0) 0 0 0 (fun _ => 0) (fun _ => 0) (fun _ => 0) (fun _ => 0) (fun _ => 0) (fun _ => 0) (fun _ => 0) := by
  refine ⟨⟨by omega, fun c hc => absurd hc (Nat.not_lt_zero c)⟩, fun c hc => absurd hc (Nat.not_lt_zero c), rfl, rfl, by omega, rfl, rfl, rfl, by omega, by omega, by omega, fun c hc => absurd hc (Nat.not_lt_zero c), fun c hc => absurd hc (Nat.not_lt_zero c), fun c hc => absurd hc (Nat.not_lt_zero c)⟩
theorem tp_0 : TP (fun _ => -1) (fun _ => 0) (fun _ _ => 0) (upd (upd (upd (upd (upd (upd (fun _ => 0) 0 (-1)) 1 (-1)) 2 (-1)) 3 (-1)) 4 (-1)) 5 (-1)) (fun _ => 0) (fun _ => 0) := by
  intro j hj
  refine ⟨?_, rfl, Nat.zero_le 60, fun _ => rfl, Or.inl rfl, fun k hk => rfl⟩
  rcases (show j = 0 ∨ j = 1 ∨ j = 2 ∨ j = 3 ∨ j = 4 ∨ j = 5 by omega) with rfl | rfl | rfl | rfl | rfl | rfl <;> decide
theorem start_perm {a0 a1 a2 a3 a4 a5 a6 a7 a8 a9 a10 a11 a12 a13 a14 a15 t0 t1 t2 t3 t4 t5 M : va_W} {T : Nat → va_W} (h0 : T 0 = t0) (h1 : T 1 = t1) (h2 : T 2 = t2) (h3 : T 3 = t3) (h4 : T 4 = t4) (h5 : T 5 = t5) : ((a0 ++ (a1 ++ (a2 ++ (a3 ++ (a4 ++ (a5 ++ (a6 ++ (a7 ++ (a8 ++ (a9 ++ (a10 ++ (a11 ++ (a12 ++ (a13 ++ (a14 ++ (a15 ++ (t0 ++ (t1 ++ (t2 ++ (t3 ++ (t4 ++ (t5)))))))))))))))))))))) ++ M).Perm (WW [a0, a1, a2, a3, a4, a5, a6, a7, a8, a9, a10, a11, a12, a13, a14, a15, M] T) := by
  have hr : (List.range 6).flatMap T = t0 ++ (t1 ++ (t2 ++ (t3 ++ (t4 ++ (t5))))) := by
    have e : List.range 6 = [0, 1, 2, 3, 4, 5] := by decide
    rw [e]
    simp only [List.flatMap_cons, List.flatMap_nil, List.append_nil, h0, h1, h2, h3, h4, h5]
  unfold WW
  rw [hr]
  simp only [List.flatten_cons, List.flatten_nil, List.append_nil, List.append_assoc]
  refine List.Perm.append_left _ ?_
  refine List.Perm.append_left _ ?_
  refine List.Perm.append_left _ ?_
  refine List.Perm.append_left _ ?_
  refine List.Perm.append_left _ ?_
  refine List.Perm.append_left _ ?_
  refine List.Perm.append_left _ ?_
  refine List.Perm.append_left _ ?_
  refine List.Perm.append_left _ ?_
  refine List.Perm.append_left _ ?_
  refine List.Perm.append_left _ ?_
  refine List.Perm.append_left _ ?_
  refine List.Perm.append_left _ ?_
  refine List.Perm.append_left _ ?_
  refine List.Perm.append_left _ ?_
  refine List.Perm.append_left _ ?_
  have hc := List.perm_append_comm (l₁ := t0 ++ (t1 ++ (t2 ++ (t3 ++ (t4 ++ (t5)))))) (l₂ := M)
  simp only [List.append_assoc] at hc
  exact hc
theorem arr_kn {s : State} {args : Array Value} {ty : FieldType} (hne : ∀ C, ty ≠ .object C) (h : (Cond.arrayClass ty).before args s = true) : ∃ cA : ClassId, ArrOfT s cA ty ∧ va_RA s cA ty := by
  obtain ⟨cA, kA, comp, h1, h2, h3⟩ := Cond.arrayClass_spec h
  refine ⟨cA, fun n z => ⟨fun k h => (by cases h), kA, h2, comp, h3⟩, ?_⟩
  unfold va_RA
  split
  · rename_i C
    exact absurd rfl (hne C)
  · exact h1
theorem arr_ob {s : State} {args : Array Value} {C : String} (h : (Cond.arrayOver (.object C)).before args s = true) : ∃ cA : ClassId, ArrOfT s cA (.object C) ∧ va_RA s cA (.object C) := by
  obtain ⟨comp, cA, kA, h1, -, h2, h3, h4⟩ := Cond.arrayOver_spec h
  exact ⟨cA, fun n z => ⟨fun k h => (by cases h), kA, h2, comp, h3⟩, kA, comp, h2, h3, h1, h4⟩
theorem kx_start {s : State} {args : Array Value} (hts : ∀ w ∈ lw_tbl, w.before args s = true) : ∃ (D : va_G) (cy : Nat → ClassId), KX D cy s := by
  have hG : ∀ w ∈ GW, w.before args s = true := fun w hw => hts w (wsL_law_in w hw)
  obtain ⟨c0, i0, k0⟩ := u_known (C := RX0) (T := TX0) (N := 16) (n := 16) hG inlX0 (hG _ mw1_20)
  obtain ⟨c1, i1, k1⟩ := u_known (C := RX1) (T := TX1) (N := 4) (n := 4) hG inlX1 (hG _ mw2_20)
  obtain ⟨c2, i2, k2⟩ := u_known (C := RX2) (T := TX2) (N := 6) (n := 6) hG inlX2 (hG _ mw2_6)
  obtain ⟨c3, i3, k3⟩ := u_known (C := RX3) (T := TX3) (N := 7) (n := 7) hG inlX3 (hG _ mw2_1)
  obtain ⟨c4, i4, k4⟩ := u_known (C := RX4) (T := TX4) (N := 3) (n := 3) hG inlX4 (hG _ mw2_11)
  obtain ⟨c5, i5, k5⟩ := u_known (C := RX5) (T := TX5) (N := 4) (n := 4) hG inlX5 (hG _ mw1_14)
  obtain ⟨c6, i6, k6⟩ := u_known (C := RX6) (T := TX6) (N := 8) (n := 8) hG inlX6 (hG _ mw1_1)
  obtain ⟨c7, i7, k7⟩ := u_known (C := RX7) (T := TX7) (N := 29) (n := 29) hG inlX7 (hG _ mw1_4)
  obtain ⟨y0, e0⟩ := arr_kn (ty := .int) (fun C h => by cases h) (hts _ (tk1 _ (List.mem_of_getElem? (i := 64) rfl)))
  obtain ⟨y1, e1⟩ := arr_kn (ty := .byte) (fun C h => by cases h) (hts _ (tk1 _ (List.mem_of_getElem? (i := 205) rfl)))
  obtain ⟨y2, e2⟩ := arr_kn (ty := .long) (fun C h => by cases h) (hts _ (tk1 _ (List.mem_of_getElem? (i := 226) rfl)))
  obtain ⟨y3, e3⟩ := arr_ob (C := "ClaimLadder$Tape") (hts _ (tk1 _ (List.mem_of_getElem? (i := 207) rfl)))
  refine ⟨(fun k => [c0, c1, c2, c3, c4, c5, c6, c7].getD k c0, fun k => [i0, i1, i2, i3, i4, i5, i6, i7].getD k i0), fun k => [y0, y1, y2, y3].getD k y0, ⟨fun k q hq => ?_, fun k q hq => ?_⟩, ?_, ?_⟩
  · match k, hq with
    | 0, hq => cases hq; exact k0
    | 1, hq => cases hq; exact k1
    | 2, hq => cases hq; exact k2
    | 3, hq => cases hq; exact k3
    | 4, hq => cases hq; exact k4
    | 5, hq => cases hq; exact k5
    | 6, hq => cases hq; exact k6
    | 7, hq => cases hq; exact k7
    | k + 8, hq => simp [vwCl] at hq
  · match k, hq with
    | 0, hq => cases hq; exact e0
    | 1, hq => cases hq; exact e1
    | 2, hq => cases hq; exact e2
    | 3, hq => cases hq; exact e3
    | k + 4, hq => simp [tyL] at hq
  · exact va_Nw.of rfl (hts _ (tk2 (Cond.methodLinkNest RX0 83 yX6_has "ClaimLadder") (List.mem_of_getElem? (i := 76) rfl)))
  · exact va_Nw.of rfl (hts _ (tk2 (Cond.methodLinkNest RX3 43 yX6_has "ClaimLadder") (List.mem_of_getElem? (i := 47) rfl)))
