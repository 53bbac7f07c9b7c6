/-! tapes: alike -/
/-- one tape, alike on both sides -/
def TP1 (j : Nat) (so : Int32) (ln : Nat) (it : Nat → Int64) (sorts sizes : Nat → Int32) (items : Nat → Int64) : Prop := so = sorts j ∧ sizes j = nI ln ∧ ln ≤ 60 ∧ (so = -1 → ln = 0) ∧ (so = -1 ∨ ∃ x, x ≤ 4 ∧ so = nI x) ∧ ∀ k, k < 60 → it k = items (60 * j + k)
def TP (ts : Nat → Int32) (tl : Nat → Nat) (ti : Nat → Nat → Int64) (sorts sizes : Nat → Int32) (items : Nat → Int64) : Prop := ∀ j, j < 6 → TP1 j (ts j) (tl j) (ti j) sorts sizes items
def pin {α : Type} (f : Nat → α) (j : Nat) (x : α) : Nat → α := fun k => if k = j then x else f k
theorem pin_same {α : Type} (f : Nat → α) (j : Nat) : pin f j (f j) = f := by
  funext k
  unfold pin
  by_cases e : k = j
  · rw [if_pos e, e]
  · rw [if_neg e]
theorem TP_set {ts : Nat → Int32} {tl : Nat → Nat} {ti : Nat → Nat → Int64} {so sz : Nat → Int32} {it : Nat → Int64} (h : TP ts tl ti so sz it) {j : Nat} {s2 : Int32} {l2 : Nat} {i2 : Nat → Int64} {so2 sz2 : Nat → Int32} {it2 : Nat → Int64} (h1 : TP1 j s2 l2 i2 so2 sz2 it2) (h2 : ∀ k, k < 6 → k ≠ j → so2 k = so k ∧ sz2 k = sz k ∧ ∀ x, x < 60 → it2 (60 * k + x) = it (60 * k + x)) : TP (pin ts j s2) (pin tl j l2) (pin ti j i2) so2 sz2 it2 := by
  intro k hk
  unfold pin
  by_cases e : k = j
  · subst e
    rw [if_pos rfl, if_pos rfl, if_pos rfl]
    exact h1
  · rw [if_neg e, if_neg e, if_neg e]
    obtain ⟨g1, g2, g3⟩ := h2 k hk e
    obtain ⟨k1, k2, k3, k4, k5, k6⟩ := h k hk
    exact ⟨k1.trans g1.symm, g2.trans k2, k3, k4, k5, fun x hx => (k6 x hx).trans (g3 x hx).symm⟩
theorem TP_id {ts : Nat → Int32} {tl : Nat → Nat} {ti : Nat → Nat → Int64} {so sz : Nat → Int32} {it : Nat → Int64} (h : TP ts tl ti so sz it) (j : Nat) : TP (pin ts j (ts j)) (pin tl j (tl j)) (pin ti j (ti j)) so sz it := by
  rw [pin_same, pin_same, pin_same]; exact h
theorem tape_iff {t : Int32} : f_X6_isTape t = 0 ↔ f_X7_isTape t = 0 := by
  unfold f_X6_isTape f_X7_isTape
  rw [in32 (A := 0) (B := 5) (by decide) (by decide)]
  by_cases c : t < 0
  · rw [if_pos c]; exact ⟨fun _ => Or.inl c, fun _ => rfl⟩
  · rw [if_neg c]
    obtain ⟨x, hx, rfl⟩ := nI_of (x := t) c
    have a := nI_leI (a := 6) (b := x) (by omega) hx
    have b := nI_ltI (a := 5) (b := x) (by omega) hx
    by_cases c2 : (6 : Int32) ≤ nI x
    · rw [if_pos c2]
      have := a.mp c2
      exact ⟨fun _ => Or.inr (b.mpr (by omega)), fun _ => rfl⟩
    · rw [if_neg c2]
      refine ⟨fun q => absurd q (by decide), fun q => ?_⟩
      rcases q with q | q
      · exact absurd q c
      · have := b.mp q
        exact absurd (a.mpr (by omega)) c2
theorem tape_of {t : Int32} (h : ¬ f_X6_isTape t = 0) : ∃ j, j < 6 ∧ t = nI j := by
  have h7 : ¬ f_X7_isTape t = 0 := fun q => h (tape_iff.mpr q)
  unfold f_X7_isTape at h7
  obtain ⟨x, hx, e⟩ := in_nat (B := 5) (by omega) (by decide) (by decide) h7
  exact ⟨x, by omega, e⟩
theorem tape_ok6 {j : Nat} (hj : j < 6) : ¬ f_X6_isTape (nI j) = 0 := by
  have : ∀ j, j < 6 → ¬ f_X6_isTape (nI j) = 0 := by decide +kernel
  exact this j hj
theorem tape_ok7 {j : Nat} (hj : j < 6) : ¬ f_X7_isTape (nI j) = 0 := fun q => tape_ok6 hj (tape_iff.mpr q)
theorem ul_s {f : Nat → Int64} {k : Nat} {x : Int64} : vp_updL f k x k = x := if_pos rfl
theorem ul_n {f : Nat → Int64} {k q : Nat} {x : Int64} (h : q ≠ k) : vp_updL f k x q = f q := if_neg h
theorem zero4 {f : Nat → Int64} {q : Nat} : ∀ N, itr bd_X4_become_21 N f q = if q < N then 0 else f q
  | 0 => by rw [if_neg (Nat.not_lt_zero q)]; rfl
  | N + 1 => by
    rw [itr_succ]
    show vp_updL (itr bd_X4_become_21 N f) N 0 q = _
    by_cases e : q = N
    · subst e; rw [ul_s, if_pos (by omega)]
    · rw [ul_n e, zero4 N]
      by_cases c : q < N
      · rw [if_pos c, if_pos (by omega)]
      · rw [if_neg c, if_neg (by omega)]
theorem zero7 {j : Nat} {f : Nat → Int64} {q : Nat} : ∀ N, itr (bd_X7_tapev_75 j) N f q = if 60 * j ≤ q ∧ q < 60 * j + N then 0 else f q
  | 0 => by rw [if_neg (by omega)]; rfl
  | N + 1 => by
    rw [itr_succ]
    show vp_updL (itr (bd_X7_tapev_75 j) N f) (60 * j + N) 0 q = _
    by_cases e : q = 60 * j + N
    · subst e; rw [ul_s, if_pos (by omega)]
    · rw [ul_n e, zero7 N]
      by_cases c : 60 * j ≤ q ∧ q < 60 * j + N
      · rw [if_pos c, if_pos (by omega)]
      · rw [if_neg c, if_neg (by omega)]
theorem e_tape {ts : Nat → Int32} {tl : Nat → Nat} {ti : Nat → Nat → Int64} {so sz : Nat → Int32} {it : Nat → Int64} (h : TP ts tl ti so sz it) {j : Nat} (hj : j < 6) (w v : Int32) : (f_X6_tapev (ti j) (ts j) w v j (tl j)).1 = (f_X7_tapev so sz it w v j).1 ∧ TP (pin ts j (f_X6_tapev (ti j) (ts j) w v j (tl j)).2.2.1) (pin tl j (f_X6_tapev (ti j) (ts j) w v j (tl j)).2.2.2) (pin ti j (f_X6_tapev (ti j) (ts j) w v j (tl j)).2.1) (f_X7_tapev so sz it w v j).2.1 (f_X7_tapev so sz it w v j).2.2.1 (f_X7_tapev so sz it w v j).2.2.2 := by
  have hi : f_X7_in w.toInt64 (-1) 4 = 0 ↔ w < -1 ∨ (4 : Int32) < w := in32 (by decide) (by decide)
  unfold f_X6_tapev f_X7_tapev f_X4_become
  rw [if_neg (tape_ok6 hj), if_neg (tape_ok7 hj)]
  by_cases c1 : w < -1
  · rw [if_pos c1, if_pos (hi.mpr (Or.inl c1))]; exact ⟨rfl, TP_id h j⟩
  rw [if_neg c1]
  by_cases c2 : w ≤ 4
  rotate_left
  · rw [if_neg c2, if_pos (hi.mpr (Or.inr (Int32.not_le.mp c2)))]; exact ⟨rfl, TP_id h j⟩
  have c3 : ¬ f_X7_in w.toInt64 (-1) 4 = 0 := fun q => by
    rcases hi.mp q with z | z
    · exact c1 z
    · exact absurd c2 (Int32.not_le.mpr z)
  rw [if_pos c2, if_neg c3]
  have zr : ∀ (s2 : Int32) (l2 : Nat) (v2 : Int32), v2 = nI l2 → l2 ≤ 60 → (s2 = -1 → l2 = 0) → (s2 = -1 ∨ ∃ x, x ≤ 4 ∧ s2 = nI x) → TP (pin ts j s2) (pin tl j l2) (pin ti j (itr bd_X4_become_21 60 (ti j))) (upd so j s2) (upd sz j v2) (itr (bd_X7_tapev_75 j) 60 it) := by
    intro s2 l2 v2 e1 e2 e3 e4
    refine TP_set h ⟨pk_us.symm, pk_us.trans e1, e2, e3, e4, fun k hk => ?_⟩ (fun k hk hne => ⟨pk_un hne, pk_un hne, fun x hx => ?_⟩)
    · rw [zero4, zero7, if_pos hk, if_pos (by omega)]
    · rw [zero7, if_neg (by omega)]
  by_cases c4 : w = -1
  · rw [if_pos c4, if_pos c4, c4]
    exact ⟨rfl, zr (-1) 0 0 rfl (by omega) (fun _ => rfl) (Or.inl rfl)⟩
  rw [if_neg c4, if_neg c4]
  by_cases c5 : v ≤ 60
  rotate_left
  · rw [if_neg c5, if_neg c5]; exact ⟨rfl, TP_id h j⟩
  rw [if_pos c5, if_pos c5]
  by_cases c6 : 0 ≤ v
  rotate_left
  · rw [if_neg c6, if_neg c6]; exact ⟨rfl, TP_id h j⟩
  rw [if_pos c6, if_pos c6]
  obtain ⟨x, hx, rfl⟩ := nI_of (x := v) (Int32.not_lt.mpr c6)
  have hx60 := (nI_leI (a := x) (b := 60) hx (by omega)).mp c5
  rw [nI_clamp hx]
  refine ⟨rfl, zr w x (nI x) rfl hx60 (fun q => absurd q c4) (Or.inr ?_)⟩
  have c7 : ¬ w < 0 := fun q => by
    have q1 := Int32.lt_iff_toInt_lt.mp q
    have q2 : ¬ w.toInt < (-1 : Int32).toInt := fun z => c1 (Int32.lt_iff_toInt_lt.mpr z)
    have e5 : (-1 : Int32).toInt = -1 := by decide
    have e6 : (0 : Int32).toInt = 0 := by decide
    have : w.toInt = (-1 : Int32).toInt := by omega
    exact c4 (Int32.toInt_inj.mp this)
  obtain ⟨y, hy, rfl⟩ := nI_of (x := w) c7
  exact ⟨y, (nI_leI (a := y) (b := 4) hy (by omega)).mp c2, rfl⟩
/-- a place on a tape -/
theorem place_iff {l : Nat} (hl : l < 2 ^ 31) {i : Int32} : f_X4_hasPlace (nI l) i = 0 ↔ f_X7_in i.toInt64 0 (nI l - 1).toInt64 = 0 := one_iff (n := l) hl (c := i)
theorem place_of {l : Nat} (hl : l < 2 ^ 31) {i : Int32} (h : ¬ f_X4_hasPlace (nI l) i = 0) : ∃ x, x < l ∧ i = nI x := (isC_iff (n := l) hl (c := i)).mp h
theorem holds_iff {so : Int32} : f_X4_holds so = 0 ↔ so = -1 := by
  unfold f_X4_holds
  by_cases c : so = -1
  · rw [if_pos c]; exact ⟨fun _ => c, fun _ => rfl⟩
  · rw [if_neg c]; exact ⟨fun q => absurd q (by decide), fun q => absurd q c⟩
theorem e_item {ts : Nat → Int32} {tl : Nat → Nat} {ti : Nat → Nat → Int64} {so sz : Nat → Int32} {it : Nat → Int64} (h : TP ts tl ti so sz it) {j : Nat} (hj : j < 6) (i : Int32) (v : Int64) : (f_X6_itemv (ti j) (ts j) i v j (tl j)).1 = (f_X7_itemv so it i v j (tl j)).1 ∧ TP ts tl (pin ti j (f_X6_itemv (ti j) (ts j) i v j (tl j)).2) so sz (f_X7_itemv so it i v j (tl j)).2 := by
  obtain ⟨h1, h2, h3, h4, h5, h6⟩ := h j hj
  have hid : TP ts tl (pin ti j (ti j)) so sz it := by rw [pin_same]; exact h
  unfold f_X6_itemv f_X7_itemv
  rw [if_neg (tape_ok6 hj), if_neg (tape_ok7 hj)]
  by_cases c1 : so j = -1
  · rw [if_pos (holds_iff.mpr (h1.trans c1)), if_pos c1]; exact ⟨rfl, hid⟩
  rw [if_neg (fun q => c1 (h1.symm.trans (holds_iff.mp q))), if_neg c1]
  by_cases c2 : f_X4_hasPlace (nI (tl j)) i = 0
  · rw [if_pos c2, if_pos ((place_iff (by omega)).mp c2)]; exact ⟨rfl, hid⟩
  rw [if_neg c2, if_neg (fun q => c2 ((place_iff (by omega)).mpr q))]
  obtain ⟨x, hx, rfl⟩ := place_of (by omega) c2
  rw [nI_clamp (show x < 2 ^ 31 by omega)]
  have put : ∀ y : Int64, TP ts tl (pin ti j (vp_updL (ti j) x y)) so sz (vp_updL it (60 * j + x) y) := by
    intro y
    have := TP_set h (j := j) (s2 := ts j) (l2 := tl j) (i2 := vp_updL (ti j) x y) (so2 := so) (sz2 := sz) (it2 := vp_updL it (60 * j + x) y) ⟨h1, h2, h3, h4, h5, fun k hk => ?_⟩ (fun k hk hne => ⟨rfl, rfl, fun z hz => ul_n (by omega)⟩)
    · rw [pin_same, pin_same] at this
      exact this
    · by_cases e : k = x
      · subst e; rw [ul_s, ul_s]
      · rw [ul_n e, ul_n (by omega)]; exact h6 k hk
  unfold f_X6_narrowed
  rw [h1]
  by_cases e0 : so j = 0
  · rw [if_pos e0, if_pos e0]; exact ⟨rfl, put _⟩
  rw [if_neg e0, if_neg e0]
  by_cases e1 : so j = 1
  · rw [if_pos e1, if_pos e1]; exact ⟨rfl, put _⟩
  rw [if_neg e1, if_neg e1]
  by_cases e2 : so j = 2
  · rw [if_pos e2, if_pos e2]; exact ⟨rfl, put _⟩
  rw [if_neg e2, if_neg e2]
  by_cases e3 : so j = 3
  · rw [if_pos e3, if_pos e3]; exact ⟨rfl, put _⟩
  rw [if_neg e3, if_neg e3]
  have e4 : so j = 4 := by
    rcases h5 with q | ⟨y, hy, q⟩
    · exact absurd (h1.symm.trans q) c1
    · have q := h1.symm.trans q
      have : y = 0 ∨ y = 1 ∨ y = 2 ∨ y = 3 ∨ y = 4 := by omega
      rcases this with t | t | t | t | t <;> subst t
      · exact absurd q e0
      · exact absurd q e1
      · exact absurd q e2
      · exact absurd q e3
      · exact q
  rw [if_pos e4]
  by_cases c3 : lg_cmp v 0 = 0
  · rw [if_pos c3, if_pos c3]; exact ⟨rfl, put _⟩
  · rw [if_neg c3, if_neg c3]; exact ⟨rfl, put _⟩
theorem e_peek {ts : Nat → Int32} {tl : Nat → Nat} {ti : Nat → Nat → Int64} {so sz : Nat → Int32} {it : Nat → Int64} (h : TP ts tl ti so sz it) {j : Nat} (hj : j < 6) (i : Int32) : f_X6_peekv (ti j) i j (tl j) = f_X7_peekv so it i j (tl j) := by
  obtain ⟨h1, h2, h3, h4, h5, h6⟩ := h j hj
  unfold f_X6_peekv f_X7_peekv
  rw [if_neg (tape_ok6 hj), if_neg (tape_ok7 hj)]
  by_cases c1 : so j = -1
  · rw [if_pos c1]
    have hl := h4 (h1.trans c1)
    by_cases c2 : f_X4_hasPlace (nI (tl j)) i = 0
    · rw [if_pos c2]
    · obtain ⟨x, hx, -⟩ := place_of (by omega) c2
      omega
  rw [if_neg c1]
  by_cases c2 : f_X4_hasPlace (nI (tl j)) i = 0
  · rw [if_pos c2, if_pos ((place_iff (by omega)).mp c2)]
  rw [if_neg c2, if_neg (fun q => c2 ((place_iff (by omega)).mpr q))]
  obtain ⟨x, hx, rfl⟩ := place_of (by omega) c2
  rw [nI_clamp (show x < 2 ^ 31 by omega)]
  exact h6 x (by omega)
