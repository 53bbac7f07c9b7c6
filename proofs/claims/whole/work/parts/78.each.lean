/-! shifts: alike -/
theorem bdS0 {jt jo v i j N : Nat} {z : Nat → Int64} : bd_X7_shiftd_122 jt jo v i j 0 N z = vp_updL z (60 * jo + j + N) (z (60 * jt + i + N)) := by
  unfold bd_X7_shiftd_122
  rw [if_pos rfl]
theorem bdS1 {jt jo v i j N : Nat} {z : Nat → Int64} : bd_X7_shiftd_122 jt jo v i j 1 N z = vp_updL z (60 * jo + j + (v - 1 - N)) (z (60 * jt + i + (v - 1 - N))) := by
  unfold bd_X7_shiftd_122
  rw [if_neg (show ¬ (1 : Int32) = 0 by decide)]
theorem shift_up {jt jo v i j : Nat} {f : Nat → Int64} (hd : 60 * jo + j ≤ 60 * jt + i ∨ 60 * jt + i + v ≤ 60 * jo + j) {q : Nat} : ∀ N, N ≤ v → itr (bd_X7_shiftd_122 jt jo v i j 0) N f q = if 60 * jo + j ≤ q ∧ q < 60 * jo + j + N then f (60 * jt + i + (q - (60 * jo + j))) else f q := by
  intro N
  induction N generalizing q with
  | zero => exact fun _ => by rw [if_neg (by omega)]; rfl
  | succ N ih =>
    intro hN
    rw [itr_succ, bdS0]
    by_cases e : q = 60 * jo + j + N
    · subst e
      rw [ul_s, ih (by omega), if_neg (by omega), if_pos (by omega)]
      congr 1
      omega
    · rw [ul_n e, ih (by omega)]
      by_cases c : 60 * jo + j ≤ q ∧ q < 60 * jo + j + N
      · rw [if_pos c, if_pos (by omega)]
      · rw [if_neg c, if_neg (by omega)]
theorem shift_dn {jt jo v i j : Nat} {f : Nat → Int64} (hd : 60 * jt + i < 60 * jo + j) {q : Nat} : ∀ N, N ≤ v → itr (bd_X7_shiftd_122 jt jo v i j 1) N f q = if 60 * jo + j + (v - N) ≤ q ∧ q < 60 * jo + j + v then f (60 * jt + i + (q - (60 * jo + j))) else f q := by
  intro N
  induction N generalizing q with
  | zero => exact fun _ => by rw [if_neg (by omega)]; rfl
  | succ N ih =>
    intro hN
    rw [itr_succ, bdS1]
    by_cases e : q = 60 * jo + j + (v - 1 - N)
    · subst e
      rw [ul_s, ih (by omega), if_neg (by omega), if_pos (by omega)]
      congr 1
      omega
    · rw [ul_n e, ih (by omega)]
      by_cases c : 60 * jo + j + (v - N) ≤ q ∧ q < 60 * jo + j + v
      · rw [if_pos c, if_pos (by omega)]
      · rw [if_neg c, if_neg (by omega)]
/-- what is asked of a stretch, on both sides -/
theorem stretch {l : Nat} (hl : l ≤ 60) {i v : Int32} : ¬ f_X4_hasStretch (nI l) i v = 0 ↔ ∃ x y, i = nI x ∧ v = nI y ∧ x + y ≤ l := by
  unfold f_X4_hasStretch
  by_cases c1 : i < 0
  · rw [if_pos c1]
    refine ⟨fun q => absurd rfl q, ?_⟩
    rintro ⟨x, y, rfl, -, h3⟩
    exact absurd c1 (nI_pos (by omega))
  rw [if_neg c1]
  by_cases c2 : v < 0
  · rw [if_pos c2]
    refine ⟨fun q => absurd rfl q, ?_⟩
    rintro ⟨x, y, -, rfl, h3⟩
    exact absurd c2 (nI_pos (by omega))
  rw [if_neg c2]
  obtain ⟨x, hx, rfl⟩ := nI_of (x := i) c1
  obtain ⟨y, hy, rfl⟩ := nI_of (x := v) c2
  have hu : ∀ x2 y2, nI x = nI x2 → nI y = nI y2 → x2 + y2 ≤ l → x2 = x ∧ y2 = y := fun x2 y2 e1 e2 e3 => ⟨((nI_eq hx (by omega)).mp e1).symm, ((nI_eq hy (by omega)).mp e2).symm⟩
  by_cases c3 : nI l < nI y
  · rw [if_pos c3]
    have := (nI_ltI (a := l) (b := y) (by omega) hy).mp c3
    refine ⟨fun q => absurd rfl q, ?_⟩
    rintro ⟨x2, y2, e1, e2, h3⟩
    obtain ⟨-, g⟩ := hu x2 y2 e1 e2 h3
    omega
  rw [if_neg c3]
  have hyl : y ≤ l := by
    have : ¬ l < y := fun q => c3 ((nI_ltI (a := l) (b := y) (by omega) hy).mpr q)
    omega
  rw [pk_sub hyl]
  by_cases c4 : nI (l - y) < nI x
  · rw [if_pos c4]
    have := (nI_ltI (a := l - y) (b := x) (by omega) hx).mp c4
    refine ⟨fun q => absurd rfl q, ?_⟩
    rintro ⟨x2, y2, e1, e2, h3⟩
    obtain ⟨g1, g⟩ := hu x2 y2 e1 e2 h3
    omega
  · rw [if_neg c4]
    have : ¬ l - y < x := fun q => c4 ((nI_ltI (a := l - y) (b := x) (by omega) hx).mpr q)
    exact ⟨fun _ => ⟨x, y, rfl, rfl, by omega⟩, fun _ => by decide⟩
theorem sub_neg {l y : Nat} (hl : l ≤ 60) (hy : y < 2 ^ 31) (h : l < y) : (nI l - nI y).toInt = (l : Int) - y := by
  rw [Int32.toInt_sub, nI_toInt (by omega), nI_toInt hy]
  exact Int.bmod_eq_of_le (by omega) (by omega)
/-- the reference's own tests of two stretches -/
def st7 {α : Type} (lm lk : Nat) (i j v : Int32) (no yes : α) : α := if v < 0 then no else if i < 0 then no else if j < 0 then no else if nI lm - v < i then no else if j ≤ nI lk - v then yes else no
theorem st7_eq {α : Type} {lm lk : Nat} (h1 : lm ≤ 60) (h2 : lk ≤ 60) {i j v : Int32} {no yes : α} : (¬ f_X4_hasStretch (nI lm) i v = 0 ∧ ¬ f_X4_hasStretch (nI lk) j v = 0 ∧ st7 lm lk i j v no yes = yes) ∨ ((f_X4_hasStretch (nI lm) i v = 0 ∨ (¬ f_X4_hasStretch (nI lm) i v = 0 ∧ f_X4_hasStretch (nI lk) j v = 0)) ∧ st7 lm lk i j v no yes = no) := by
  have key : (((∃ x y, i = nI x ∧ v = nI y ∧ x + y ≤ lm) ∧ ∃ x y, j = nI x ∧ v = nI y ∧ x + y ≤ lk) ∧ st7 lm lk i j v no yes = yes) ∨ ((¬ ((∃ x y, i = nI x ∧ v = nI y ∧ x + y ≤ lm) ∧ ∃ x y, j = nI x ∧ v = nI y ∧ x + y ≤ lk)) ∧ st7 lm lk i j v no yes = no) := by
    unfold st7
    by_cases c1 : v < 0
    · refine Or.inr ⟨?_, if_pos c1⟩
      rintro ⟨⟨x, y, -, rfl, h3⟩, -⟩
      exact absurd c1 (nI_pos (by omega))
    rw [if_neg c1]
    by_cases c2 : i < 0
    · refine Or.inr ⟨?_, if_pos c2⟩
      rintro ⟨⟨x, y, rfl, -, h3⟩, -⟩
      exact absurd c2 (nI_pos (by omega))
    rw [if_neg c2]
    by_cases c3 : j < 0
    · refine Or.inr ⟨?_, if_pos c3⟩
      rintro ⟨-, x, y, rfl, -, h3⟩
      exact absurd c3 (nI_pos (by omega))
    rw [if_neg c3]
    obtain ⟨y, hy, rfl⟩ := nI_of (x := v) c1
    obtain ⟨x, hx, rfl⟩ := nI_of (x := i) c2
    obtain ⟨z, hz, rfl⟩ := nI_of (x := j) c3
    have a1 : nI lm - nI y < nI x ↔ lm < x + y := by
      by_cases q : y ≤ lm
      · rw [pk_sub q, nI_ltI (by omega) hx]; omega
      · rw [Int32.lt_iff_toInt_lt, sub_neg h1 hy (by omega), nI_toInt hx]; omega
    have a2 : nI z ≤ nI lk - nI y ↔ z + y ≤ lk := by
      by_cases q : y ≤ lk
      · rw [pk_sub q, nI_leI hz (by omega)]; omega
      · rw [Int32.le_iff_toInt_le, sub_neg h2 hy (by omega), nI_toInt hz]; omega
    by_cases c4 : nI lm - nI y < nI x
    · have := a1.mp c4
      refine Or.inr ⟨?_, if_pos c4⟩
      rintro ⟨⟨x2, y2, e1, e2, h3⟩, -⟩
      have g1 := (nI_eq hx (by omega)).mp e1
      have g2 := (nI_eq hy (by omega)).mp e2
      omega
    rw [if_neg c4]
    have b1 : ¬ lm < x + y := fun q => c4 (a1.mpr q)
    by_cases c5 : nI z ≤ nI lk - nI y
    · have b2 := a2.mp c5
      exact Or.inl ⟨⟨⟨x, y, rfl, rfl, by omega⟩, z, y, rfl, rfl, b2⟩, if_pos c5⟩
    · refine Or.inr ⟨?_, if_neg c5⟩
      rintro ⟨-, x2, y2, e1, e2, h3⟩
      have g1 := (nI_eq hz (by omega)).mp e1
      have g2 := (nI_eq hy (by omega)).mp e2
      exact c5 (a2.mpr (by omega))
  rw [← stretch h1, ← stretch h2] at key
  rcases key with ⟨⟨k1, k2⟩, k3⟩ | ⟨k1, k3⟩
  · exact Or.inl ⟨k1, k2, k3⟩
  · right
    refine ⟨?_, k3⟩
    by_cases q1 : f_X4_hasStretch (nI lm) i v = 0
    · exact Or.inl q1
    · by_cases q2 : f_X4_hasStretch (nI lk) j v = 0
      · exact Or.inr ⟨q1, q2⟩
      · exact absurd ⟨q1, q2⟩ k1
/-- what the reference lays where, when all tests are passed -/
def mv7 (it : Nat → Int64) (i j v jt jo : Nat) : Int32 × (Nat → Int64) := if nI jt = nI jo then (if nI j ≤ nI i then (nI v, itr (bd_X7_shiftd_122 jt jo v i j 0) v it) else (nI v, itr (bd_X7_shiftd_122 jt jo v i j 1) v it)) else (nI v, itr (bd_X7_shiftd_122 jt jo v i j 0) v it)
theorem mv7_at {it : Nat → Int64} {i j v jt jo : Nat} (hjt : jt < 6) (hjo : jo < 6) (hi : i + v ≤ 60) (hj : j + v ≤ 60) : (mv7 it i j v jt jo).1 = nI v ∧ ∀ q, (mv7 it i j v jt jo).2 q = if 60 * jo + j ≤ q ∧ q < 60 * jo + j + v then it (60 * jt + i + (q - (60 * jo + j))) else it q := by
  unfold mv7
  by_cases c1 : nI jt = nI jo
  · rw [if_pos c1]
    have e := (nI_eq (a := jt) (b := jo) (by omega) (by omega)).mp c1
    subst e
    by_cases c2 : nI j ≤ nI i
    · rw [if_pos c2]
      have := (nI_leI (a := j) (b := i) (by omega) (by omega)).mp c2
      exact ⟨rfl, fun q => shift_up (Or.inl (by omega)) v (Nat.le_refl v)⟩
    · rw [if_neg c2]
      have : ¬ j ≤ i := fun q => c2 ((nI_leI (a := j) (b := i) (by omega) (by omega)).mpr q)
      refine ⟨rfl, fun q => ?_⟩
      have := shift_dn (jt := jt) (jo := jt) (v := v) (i := i) (j := j) (f := it) (by omega) (q := q) v (Nat.le_refl v)
      rw [Nat.sub_self, Nat.add_zero] at this
      exact this
  · rw [if_neg c1]
    have hne : jt ≠ jo := fun q => c1 (by rw [q])
    exact ⟨rfl, fun q => shift_up (by omega) v (Nat.le_refl v)⟩
theorem sh7_eq {so : Nat → Int32} {it : Nat → Int64} {i j v : Int32} {jt jo lm lk : Nat} (hjt : jt < 6) (hjo : jo < 6) : f_X7_shiftd so it i j v jt jo lm lk = if so jt = -1 then (-11, it) else if so jo = -1 then (-11, it) else if so jt = so jo then st7 lm lk i j v (-13, it) (mv7 it i.toNatClampNeg j.toNatClampNeg v.toNatClampNeg jt jo) else (-12, it) := by
  unfold f_X7_shiftd st7 mv7
  rw [if_neg (tape_ok7 hjt), if_neg (tape_ok7 hjo)]
theorem TP_mv {ts : Nat → Int32} {tl : Nat → Nat} {ti : Nat → Nat → Int64} {so sz : Nat → Int32} {it : Nat → Int64} (h : TP ts tl ti so sz it) {i j v jt jo : Nat} (hjt : jt < 6) (hjo : jo < 6) (hi : i + v ≤ 60) (hj : j + v ≤ 60) : TP ts tl (pin ti jo (va_cpy (ti jt) (ti jo) i j v)) so sz (mv7 it i j v jt jo).2 := by
  obtain ⟨h1, h2, h3, h4, h5, h6⟩ := h jo hjo
  obtain ⟨-, -, -, -, -, k6⟩ := h jt hjt
  have m := (mv7_at (it := it) hjt hjo hi hj).2
  have := TP_set h (j := jo) (s2 := ts jo) (l2 := tl jo) (i2 := va_cpy (ti jt) (ti jo) i j v) (so2 := so) (sz2 := sz) (it2 := (mv7 it i j v jt jo).2) ⟨h1, h2, h3, h4, h5, fun k hk => ?_⟩ (fun k hk hne => ⟨rfl, rfl, fun z hz => ?_⟩)
  · rw [pin_same, pin_same] at this
    exact this
  · rw [m]
    unfold va_cpy
    by_cases c : j ≤ k ∧ k < j + v
    · rw [if_pos c, if_pos (by omega), k6 _ (by omega)]
      congr 1
      omega
    · rw [if_neg c, if_neg (by omega), h6 k hk]
  · rw [m, if_neg (by omega)]
theorem e_shiftd {ts : Nat → Int32} {tl : Nat → Nat} {ti : Nat → Nat → Int64} {so sz : Nat → Int32} {it : Nat → Int64} (h : TP ts tl ti so sz it) {jt jo : Nat} (hjt : jt < 6) (hjo : jo < 6) (i j v : Int32) : (f_X6_shiftd (ti jt) (ts jt) (ti jo) (ts jo) i j v jt jo (tl jt) (tl jo)).1 = (f_X7_shiftd so it i j v jt jo (tl jt) (tl jo)).1 ∧ TP ts tl (pin ti jo (f_X6_shiftd (ti jt) (ts jt) (ti jo) (ts jo) i j v jt jo (tl jt) (tl jo)).2) so sz (f_X7_shiftd so it i j v jt jo (tl jt) (tl jo)).2 := by
  obtain ⟨h1, h2, h3, h4, h5, h6⟩ := h jt hjt
  obtain ⟨k1, k2, k3, k4, k5, k6⟩ := h jo hjo
  have hid : TP ts tl (pin ti jo (ti jo)) so sz it := by rw [pin_same]; exact h
  rw [sh7_eq hjt hjo]
  unfold f_X6_shiftd
  rw [if_neg (tape_ok6 hjt), if_neg (tape_ok6 hjo), h1, k1]
  by_cases c1 : so jt = -1
  · rw [if_pos (holds_iff.mpr c1), if_pos c1]; exact ⟨rfl, hid⟩
  rw [if_neg (fun q => c1 (holds_iff.mp q)), if_neg c1]
  by_cases c2 : so jo = -1
  · rw [if_pos (holds_iff.mpr c2), if_pos c2]; exact ⟨rfl, hid⟩
  rw [if_neg (fun q => c2 (holds_iff.mp q)), if_neg c2]
  by_cases c3 : so jt = so jo
  rotate_left
  · rw [if_neg c3, if_neg c3]; exact ⟨rfl, hid⟩
  rw [if_pos c3, if_pos c3]
  rcases st7_eq (lm := tl jt) (lk := tl jo) h3 k3 (i := i) (j := j) (v := v) (no := ((-13 : Int32), it)) (yes := mv7 it i.toNatClampNeg j.toNatClampNeg v.toNatClampNeg jt jo) with ⟨q1, q2, q3⟩ | ⟨q1, q3⟩
  · obtain ⟨x, y, rfl, rfl, hxy⟩ := (stretch h3).mp q1
    obtain ⟨z, y2, rfl, e2, hzy⟩ := (stretch k3).mp q2
    have := (nI_eq (a := y) (b := y2) (by omega) (by omega)).mp e2
    subst this
    rw [q3, if_neg q1, nI_clamp (show y < 2 ^ 31 by omega), if_neg q2, nI_clamp (show x < 2 ^ 31 by omega), nI_clamp (show z < 2 ^ 31 by omega)]
    exact ⟨(mv7_at (it := it) hjt hjo (by omega) (by omega)).1.symm, TP_mv h hjt hjo (by omega) (by omega)⟩
  · rw [q3]
    rcases q1 with q1 | ⟨q0, q1⟩
    · rw [if_pos q1]; exact ⟨rfl, hid⟩
    · obtain ⟨x, y, rfl, rfl, hxy⟩ := (stretch h3).mp q0
      rw [if_neg q0, nI_clamp (show y < 2 ^ 31 by omega), if_pos q1]; exact ⟨rfl, hid⟩
theorem e_shifts {ts : Nat → Int32} {tl : Nat → Nat} {ti : Nat → Nat → Int64} {so sz : Nat → Int32} {it : Nat → Int64} (h : TP ts tl ti so sz it) {jt : Nat} (hjt : jt < 6) (i j v : Int32) : (f_X6_shifts (ti jt) (ts jt) i j v jt (tl jt)).1 = (f_X7_shiftd so it i j v jt jt (tl jt) (tl jt)).1 ∧ TP ts tl (pin ti jt (f_X6_shifts (ti jt) (ts jt) i j v jt (tl jt)).2) so sz (f_X7_shiftd so it i j v jt jt (tl jt) (tl jt)).2 := by
  have e : f_X6_shifts (ti jt) (ts jt) i j v jt (tl jt) = f_X6_shiftd (ti jt) (ts jt) (ti jt) (ts jt) i j v jt jt (tl jt) (tl jt) := by
    unfold f_X6_shifts f_X6_shiftd
    rw [if_neg (tape_ok6 hjt), if_neg (tape_ok6 hjt), if_neg (tape_ok6 hjt)]
    by_cases c : f_X4_holds (ts jt) = 0
    · rw [if_pos c, if_pos c]
    · rw [if_neg c, if_neg c, if_neg c, if_pos rfl]
  rw [e]
  exact e_shiftd h hjt hjt i j v
