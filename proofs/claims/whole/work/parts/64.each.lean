/-! rows told by hand: see, book, plan, feed, count: alike -/
theorem TD_rows {n lo : Nat} {kind limit ret quo refers : Nat → Int32} {q1 q2 q3 : Nat} {a1 b1 a2 b2 a3 b3 s : Nat → Int32} (h : TD n lo kind limit ret quo refers q1 q2 q3 a1 b1 a2 b2 a3 b3 s) {p1 p2 p3 : Nat} {c1 d1 c2 d2 c3 d3 t : Nat → Int32} (ht : ∀ j, j < 2 ∨ (4 < j ∧ j < 35) → t j = s j) (hr : RW3 n p1 p2 p3 c1 d1 c2 d2 c3 d3 t) : TD n lo kind limit ret quo refers p1 p2 p3 c1 d1 c2 d2 c3 d3 t := by
  obtain ⟨h1, h2, h3, h4, h5, h6⟩ := h
  have hn := h1.1
  refine ⟨h1, fun c hc => ?_, (ht 0 (by omega)).trans h3, (ht 1 (by omega)).trans h4, h5, hr⟩
  obtain ⟨g1, g2, g3, g4, g5⟩ := h2 c hc
  exact ⟨(ht _ (by omega)).trans g1, (ht _ (by omega)).trans g2, (ht _ (by omega)).trans g3, (ht _ (by omega)).trans g4, (ht _ (by omega)).trans g5⟩
theorem RW_0 {n q1 q2 q3 : Nat} {a1 b1 a2 b2 a3 b3 s : Nat → Int32} (h : RW3 n q1 q2 q3 a1 b1 a2 b2 a3 b3 s) : RW3 n 0 q2 q3 a1 b1 a2 b2 a3 b3 (upd s 2 0) ∧ RW3 n q1 0 q3 a1 b1 a2 b2 a3 b3 (upd s 3 0) ∧ RW3 n q1 q2 0 a1 b1 a2 b2 a3 b3 (upd s 4 0) := by
  obtain ⟨w1, w2, w3, w4, w5, w6, w7, w8, w9⟩ := h
  have z : nI 0 = (0 : Int32) := by decide
  have k1 : ∀ i, i < 5 → ∀ k, k < q1 → upd s i 0 (35 + k) = a1 k ∧ upd s i 0 (40 + k) = b1 k ∧ ∃ c, c < n ∧ a1 k = nI c := fun i hi k hk => by
    obtain ⟨g1, g2, g3⟩ := w7 k hk
    exact ⟨(pk_un (by omega)).trans g1, (pk_un (by omega)).trans g2, g3⟩
  have k2 : ∀ i, i < 5 → ∀ k, k < q2 → upd s i 0 (45 + k) = a2 k ∧ upd s i 0 (53 + k) = b2 k ∧ PV n (a2 k) (b2 k) := fun i hi k hk => by
    obtain ⟨g1, g2, g3⟩ := w8 k hk
    exact ⟨(pk_un (by omega)).trans g1, (pk_un (by omega)).trans g2, g3⟩
  have k3 : ∀ i, i < 5 → ∀ k, k < q3 → upd s i 0 (61 + k) = a3 k ∧ upd s i 0 (69 + k) = b3 k ∧ ∃ c, c < n ∧ a3 k = nI c := fun i hi k hk => by
    obtain ⟨g1, g2, g3⟩ := w9 k hk
    exact ⟨(pk_un (by omega)).trans g1, (pk_un (by omega)).trans g2, g3⟩
  refine ⟨⟨pk_us.trans z.symm, (pk_un (by omega)).trans w2, (pk_un (by omega)).trans w3, by omega, w5, w6, fun k hk => absurd hk (by omega), k2 2 (by omega), k3 2 (by omega)⟩, ⟨(pk_un (by omega)).trans w1, pk_us.trans z.symm, (pk_un (by omega)).trans w3, w4, by omega, w6, k1 3 (by omega), fun k hk => absurd hk (by omega), k3 3 (by omega)⟩, ⟨(pk_un (by omega)).trans w1, (pk_un (by omega)).trans w2, pk_us.trans z.symm, w4, w5, by omega, k1 4 (by omega), k2 4 (by omega), fun k hk => absurd hk (by omega)⟩⟩
theorem RW_1 {n q1 q2 q3 : Nat} {a1 b1 a2 b2 a3 b3 s : Nat → Int32} (h : RW3 n q1 q2 q3 a1 b1 a2 b2 a3 b3 s) (hq : q1 < 5) {c : Nat} (hc : c < n) (v : Int32) : RW3 n (q1 + 1) q2 q3 (upd a1 q1 (nI c)) (upd b1 q1 v) a2 b2 a3 b3 (upd (upd (upd s (35 + q1) (nI c)) (40 + q1) v) 2 (nI (q1 + 1))) := by
  obtain ⟨w1, w2, w3, w4, w5, w6, w7, w8, w9⟩ := h
  refine ⟨pk_us, ?_, ?_, by omega, w5, w6, fun k hk => ?_, fun k hk => ?_, fun k hk => ?_⟩
  · rw [pk_un (by omega), pk_un (by omega), pk_un (by omega)]; exact w2
  · rw [pk_un (by omega), pk_un (by omega), pk_un (by omega)]; exact w3
  · by_cases e : k = q1
    · subst e
      refine ⟨?_, ?_, c, hc, pk_us⟩
      · rw [pk_un (by omega), pk_un (by omega), pk_us, pk_us]
      · rw [pk_un (by omega), pk_us, pk_us]
    · obtain ⟨g1, g2, d, g3, g4⟩ := w7 k (by omega)
      refine ⟨?_, ?_, d, g3, (pk_un e).trans g4⟩
      · rw [pk_un (by omega), pk_un (by omega), pk_un (by omega), pk_un e]; exact g1
      · rw [pk_un (by omega), pk_un (by omega), pk_un (by omega), pk_un e]; exact g2
  · obtain ⟨g1, g2, g3⟩ := w8 k hk
    refine ⟨?_, ?_, g3⟩
    · rw [pk_un (by omega), pk_un (by omega), pk_un (by omega)]; exact g1
    · rw [pk_un (by omega), pk_un (by omega), pk_un (by omega)]; exact g2
  · obtain ⟨g1, g2, g3⟩ := w9 k hk
    refine ⟨?_, ?_, g3⟩
    · rw [pk_un (by omega), pk_un (by omega), pk_un (by omega)]; exact g1
    · rw [pk_un (by omega), pk_un (by omega), pk_un (by omega)]; exact g2
theorem RW_2 {n q1 q2 q3 : Nat} {a1 b1 a2 b2 a3 b3 s : Nat → Int32} (h : RW3 n q1 q2 q3 a1 b1 a2 b2 a3 b3 s) (hq : q2 < 8) {w v : Int32} (hc : PV n w v) : RW3 n q1 (q2 + 1) q3 a1 b1 (upd a2 q2 w) (upd b2 q2 v) a3 b3 (upd (upd (upd s (45 + q2) w) (53 + q2) v) 3 (nI (q2 + 1))) := by
  obtain ⟨w1, w2, w3, w4, w5, w6, w7, w8, w9⟩ := h
  refine ⟨?_, pk_us, ?_, w4, by omega, w6, fun k hk => ?_, fun k hk => ?_, fun k hk => ?_⟩
  · rw [pk_un (by omega), pk_un (by omega), pk_un (by omega)]; exact w1
  · rw [pk_un (by omega), pk_un (by omega), pk_un (by omega)]; exact w3
  · obtain ⟨g1, g2, g3⟩ := w7 k hk
    refine ⟨?_, ?_, g3⟩
    · rw [pk_un (by omega), pk_un (by omega), pk_un (by omega)]; exact g1
    · rw [pk_un (by omega), pk_un (by omega), pk_un (by omega)]; exact g2
  · by_cases e : k = q2
    · subst e
      refine ⟨?_, ?_, ?_⟩
      · rw [pk_un (by omega), pk_un (by omega), pk_us, pk_us]
      · rw [pk_un (by omega), pk_us, pk_us]
      · rw [pk_us, pk_us]; exact hc
    · obtain ⟨g1, g2, g3⟩ := w8 k (by omega)
      refine ⟨?_, ?_, ?_⟩
      · rw [pk_un (by omega), pk_un (by omega), pk_un (by omega), pk_un e]; exact g1
      · rw [pk_un (by omega), pk_un (by omega), pk_un (by omega), pk_un e]; exact g2
      · rw [pk_un e, pk_un e]; exact g3
  · obtain ⟨g1, g2, g3⟩ := w9 k hk
    refine ⟨?_, ?_, g3⟩
    · rw [pk_un (by omega), pk_un (by omega), pk_un (by omega)]; exact g1
    · rw [pk_un (by omega), pk_un (by omega), pk_un (by omega)]; exact g2
theorem RW_3 {n q1 q2 q3 : Nat} {a1 b1 a2 b2 a3 b3 s : Nat → Int32} (h : RW3 n q1 q2 q3 a1 b1 a2 b2 a3 b3 s) (hq : q3 < 8) {c : Nat} (hc : c < n) (v : Int32) : RW3 n q1 q2 (q3 + 1) a1 b1 a2 b2 (upd a3 q3 (nI c)) (upd b3 q3 v) (upd (upd (upd s (61 + q3) (nI c)) (69 + q3) v) 4 (nI (q3 + 1))) := by
  obtain ⟨w1, w2, w3, w4, w5, w6, w7, w8, w9⟩ := h
  refine ⟨?_, ?_, pk_us, w4, w5, by omega, fun k hk => ?_, fun k hk => ?_, fun k hk => ?_⟩
  · rw [pk_un (by omega), pk_un (by omega), pk_un (by omega)]; exact w1
  · rw [pk_un (by omega), pk_un (by omega), pk_un (by omega)]; exact w2
  · obtain ⟨g1, g2, g3⟩ := w7 k hk
    refine ⟨?_, ?_, g3⟩
    · rw [pk_un (by omega), pk_un (by omega), pk_un (by omega)]; exact g1
    · rw [pk_un (by omega), pk_un (by omega), pk_un (by omega)]; exact g2
  · obtain ⟨g1, g2, g3⟩ := w8 k hk
    refine ⟨?_, ?_, g3⟩
    · rw [pk_un (by omega), pk_un (by omega), pk_un (by omega)]; exact g1
    · rw [pk_un (by omega), pk_un (by omega), pk_un (by omega)]; exact g2
  · by_cases e : k = q3
    · subst e
      refine ⟨?_, ?_, c, hc, pk_us⟩
      · rw [pk_un (by omega), pk_un (by omega), pk_us, pk_us]
      · rw [pk_un (by omega), pk_us, pk_us]
    · obtain ⟨g1, g2, d, g3, g4⟩ := w9 k (by omega)
      refine ⟨?_, ?_, d, g3, (pk_un e).trans g4⟩
      · rw [pk_un (by omega), pk_un (by omega), pk_un (by omega), pk_un e]; exact g1
      · rw [pk_un (by omega), pk_un (by omega), pk_un (by omega), pk_un e]; exact g2
theorem add_lt {q m : Nat} (hq : q ≤ m) (hm : m < 100) {M : Int32} (hM : M = nI m) : nI q < nI m ↔ ¬ nI q = M := by
  rw [hM, nI_ltI (by omega) (by omega), nI_eq (by omega) (by omega)]
  omega
theorem e_see {n lo : Nat} {kind limit ret quo refers : Nat → Int32} {q1 q2 q3 : Nat} {a1 b1 a2 b2 a3 b3 s : Nat → Int32} (h : TD n lo kind limit ret quo refers q1 q2 q3 a1 b1 a2 b2 a3 b3 s) (c v : Int32) : (f_X6_see a1 b1 c v n q1 5).1 = (f_X7_see s c v n q1).1 ∧ TD n lo kind limit ret quo refers (f_X6_see a1 b1 c v n q1 5).2.2.2 q2 q3 (f_X6_see a1 b1 c v n q1 5).2.1 (f_X6_see a1 b1 c v n q1 5).2.2.1 a2 b2 a3 b3 (f_X7_see s c v n q1).2 := by
  have hn := h.1.1
  have hr := h.2.2.2.2.2
  have hq := hr.2.2.2.1
  have hi : f_X7_in v.toInt64 0 99 = 0 ↔ v < 0 ∨ (99 : Int32) < v := in32 (by decide) (by decide)
  unfold f_X6_see f_X6_addAmount f_X7_see f_X1_clear f_X1_add
  by_cases c1 : c = (-1 : Int32)
  · rw [if_pos c1, if_pos c1]
    exact ⟨rfl, TD_rows h (fun j hj => pk_un (by omega)) (RW_0 hr).1⟩
  · rw [if_neg c1, if_neg c1]
    by_cases c2 : f_X7_isOne c n = 0
    · rw [if_pos ((one_iff (by omega)).mpr c2), if_pos c2]; exact ⟨rfl, h⟩
    · rw [if_neg (fun q => c2 ((one_iff (by omega)).mp q)), if_neg c2]
      obtain ⟨i, hi2, rfl⟩ := (isO_iff (by omega)).mp c2
      rw [nI_clamp (by omega)]
      by_cases c3 : v < 0
      · rw [if_pos c3, if_pos (hi.mpr (Or.inl c3))]; exact ⟨rfl, h⟩
      · rw [if_neg c3]
        by_cases c4 : v ≤ 99
        · have c5 : ¬ f_X7_in v.toInt64 0 99 = 0 := fun q => by
            rcases hi.mp q with w | w
            · exact c3 w
            · exact absurd c4 (Int32.not_le.mpr w)
          rw [if_pos c4, if_neg c5]
          by_cases c6 : nI q1 = (5 : Int32)
          · rw [if_neg (fun q => (add_lt hq (by omega) (by decide)).mp q c6), if_pos c6]; exact ⟨rfl, h⟩
          · rw [if_pos ((add_lt hq (by omega) (by decide)).mpr c6), if_neg c6]
            have hq2 : q1 < 5 := by
              have : q1 ≠ 5 := fun e => c6 (by rw [e]; decide)
              omega
            exact ⟨rfl, TD_rows h (fun j hj => by
              dsimp only
              rw [pk_un (by omega), pk_un (by omega), pk_un (by omega)]) (RW_1 hr hq2 hi2 v)⟩
        · rw [if_neg c4, if_pos (hi.mpr (Or.inr (Int32.not_le.mp c4)))]; exact ⟨rfl, h⟩
theorem e_book {n lo : Nat} {kind limit ret quo refers : Nat → Int32} {q1 q2 q3 : Nat} {a1 b1 a2 b2 a3 b3 s : Nat → Int32} (h : TD n lo kind limit ret quo refers q1 q2 q3 a1 b1 a2 b2 a3 b3 s) (c v : Int32) : (f_X6_book a3 b3 c v n q3 8).1 = (f_X7_book s c v n q3).1 ∧ TD n lo kind limit ret quo refers q1 q2 (f_X6_book a3 b3 c v n q3 8).2.2.2 a1 b1 a2 b2 (f_X6_book a3 b3 c v n q3 8).2.1 (f_X6_book a3 b3 c v n q3 8).2.2.1 (f_X7_book s c v n q3).2 := by
  have hn := h.1.1
  have hr := h.2.2.2.2.2
  have hq := hr.2.2.2.2.2.1
  have hi : f_X7_in v.toInt64 0 99 = 0 ↔ v < 0 ∨ (99 : Int32) < v := in32 (by decide) (by decide)
  unfold f_X6_book f_X6_addAmount f_X7_book f_X1_clear f_X1_add
  by_cases c1 : c = (-1 : Int32)
  · rw [if_pos c1, if_pos c1]
    exact ⟨rfl, TD_rows h (fun j hj => pk_un (by omega)) (RW_0 hr).2.2⟩
  · rw [if_neg c1, if_neg c1]
    by_cases c2 : f_X7_isOne c n = 0
    · rw [if_pos ((one_iff (by omega)).mpr c2), if_pos c2]; exact ⟨rfl, h⟩
    · rw [if_neg (fun q => c2 ((one_iff (by omega)).mp q)), if_neg c2]
      obtain ⟨i, hi2, rfl⟩ := (isO_iff (by omega)).mp c2
      rw [nI_clamp (by omega)]
      by_cases c3 : v < 0
      · rw [if_pos c3, if_pos (hi.mpr (Or.inl c3))]; exact ⟨rfl, h⟩
      · rw [if_neg c3]
        by_cases c4 : v ≤ 99
        · have c5 : ¬ f_X7_in v.toInt64 0 99 = 0 := fun q => by
            rcases hi.mp q with w | w
            · exact c3 w
            · exact absurd c4 (Int32.not_le.mpr w)
          rw [if_pos c4, if_neg c5]
          by_cases c6 : nI q3 = (8 : Int32)
          · rw [if_neg (fun q => (add_lt hq (by omega) (by decide)).mp q c6), if_pos c6]; exact ⟨rfl, h⟩
          · rw [if_pos ((add_lt hq (by omega) (by decide)).mpr c6), if_neg c6]
            have hq2 : q3 < 8 := by
              have : q3 ≠ 8 := fun e => c6 (by rw [e]; decide)
              omega
            exact ⟨rfl, TD_rows h (fun j hj => by
              dsimp only
              rw [pk_un (by omega), pk_un (by omega), pk_un (by omega)]) (RW_3 hr hq2 hi2 v)⟩
        · rw [if_neg c4, if_pos (hi.mpr (Or.inr (Int32.not_le.mp c4)))]; exact ⟨rfl, h⟩
theorem e_count {n lo : Nat} {kind limit ret quo refers : Nat → Int32} {q1 q2 q3 : Nat} {a1 b1 a2 b2 a3 b3 s : Nat → Int32} (h : TD n lo kind limit ret quo refers q1 q2 q3 a1 b1 a2 b2 a3 b3 s) (l what : Int32) : f_X6_count (nI q1) (nI q2) (nI q3) l what = f_X7_count s l what := by
  have hr := h.2.2.2.2.2
  unfold f_X6_count f_X7_count
  rw [hr.1, hr.2.1, hr.2.2.1]
