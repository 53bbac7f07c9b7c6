/-! renew: alike -/
theorem nv_neg {x M : Nat} (h : x ≤ M) (hM : M < 1000) : ¬ nI x = (-1 : Int32) := fun q => absurd (show nI x < 0 by rw [q]; decide) (nI_pos (by omega))
theorem td_kind {n lo : Nat} {kind limit ret quo refers : Nat → Int32} {q1 q2 q3 : Nat} {a1 b1 a2 b2 a3 b3 s : Nat → Int32} (h : TD n lo kind limit ret quo refers q1 q2 q3 a1 b1 a2 b2 a3 b3 s) {i : Nat} (hi : i < n) {v : Int32} (hv : ∃ x, x ≤ 3 ∧ v = nI x) : TD n lo (upd kind i v) limit ret quo refers q1 q2 q3 a1 b1 a2 b2 a3 b3 (upd s (5 + i) v) := by
  obtain ⟨⟨hn, h1⟩, h2, h3, h4, h5, h6⟩ := h
  refine ⟨⟨hn, fun c hc => ?_⟩, fun c hc => ?_, (pk_un (by omega)).trans h3, (pk_un (by omega)).trans h4, h5, RW3_keep (Nat.le_refl n) (fun t ht ht2 => pk_un (by omega)) h6⟩
  · obtain ⟨g1, g2, g3, g4, g5⟩ := h1 c hc
    by_cases e : c = i
    · subst e; rw [pk_us]; exact ⟨hv, g2, g3, g4, g5⟩
    · rw [pk_un e]; exact ⟨g1, g2, g3, g4, g5⟩
  · obtain ⟨g1, g2, g3, g4, g5⟩ := h2 c hc
    by_cases e : c = i
    · subst e
      rw [pk_us]
      exact ⟨by first | exact pk_us.symm | exact pk_us.trans pk_us.symm, (pk_un (by omega)).trans g2, (pk_un (by omega)).trans g3, (pk_un (by omega)).trans g4, (pk_un (by omega)).trans g5⟩
    · rw [pk_un e]
      exact ⟨(pk_un (by omega)).trans g1, (pk_un (by omega)).trans g2, (pk_un (by omega)).trans g3, (pk_un (by omega)).trans g4, (pk_un (by omega)).trans g5⟩
theorem td_limit {n lo : Nat} {kind limit ret quo refers : Nat → Int32} {q1 q2 q3 : Nat} {a1 b1 a2 b2 a3 b3 s : Nat → Int32} (h : TD n lo kind limit ret quo refers q1 q2 q3 a1 b1 a2 b2 a3 b3 s) {i : Nat} (hi : i < n) {v : Int32} (hv : ∃ x, x ≤ 99 ∧ v = nI x) : TD n lo kind (upd limit i v) ret quo refers q1 q2 q3 a1 b1 a2 b2 a3 b3 (upd s (11 + i) v) := by
  obtain ⟨⟨hn, h1⟩, h2, h3, h4, h5, h6⟩ := h
  refine ⟨⟨hn, fun c hc => ?_⟩, fun c hc => ?_, (pk_un (by omega)).trans h3, (pk_un (by omega)).trans h4, h5, RW3_keep (Nat.le_refl n) (fun t ht ht2 => pk_un (by omega)) h6⟩
  · obtain ⟨g1, g2, g3, g4, g5⟩ := h1 c hc
    by_cases e : c = i
    · subst e; rw [pk_us]; exact ⟨g1, hv, g3, g4, g5⟩
    · rw [pk_un e]; exact ⟨g1, g2, g3, g4, g5⟩
  · obtain ⟨g1, g2, g3, g4, g5⟩ := h2 c hc
    by_cases e : c = i
    · subst e
      rw [pk_us]
      exact ⟨(pk_un (by omega)).trans g1, by first | exact pk_us.symm | exact pk_us.trans pk_us.symm, (pk_un (by omega)).trans g3, (pk_un (by omega)).trans g4, (pk_un (by omega)).trans g5⟩
    · rw [pk_un e]
      exact ⟨(pk_un (by omega)).trans g1, (pk_un (by omega)).trans g2, (pk_un (by omega)).trans g3, (pk_un (by omega)).trans g4, (pk_un (by omega)).trans g5⟩
theorem td_ret {n lo : Nat} {kind limit ret quo refers : Nat → Int32} {q1 q2 q3 : Nat} {a1 b1 a2 b2 a3 b3 s : Nat → Int32} (h : TD n lo kind limit ret quo refers q1 q2 q3 a1 b1 a2 b2 a3 b3 s) {i : Nat} (hi : i < n) {v : Int32} (hv : ∃ x, x ≤ 20 ∧ v = nI x) : TD n lo kind limit (upd ret i v) quo refers q1 q2 q3 a1 b1 a2 b2 a3 b3 (upd s (17 + i) v) := by
  obtain ⟨⟨hn, h1⟩, h2, h3, h4, h5, h6⟩ := h
  refine ⟨⟨hn, fun c hc => ?_⟩, fun c hc => ?_, (pk_un (by omega)).trans h3, (pk_un (by omega)).trans h4, h5, RW3_keep (Nat.le_refl n) (fun t ht ht2 => pk_un (by omega)) h6⟩
  · obtain ⟨g1, g2, g3, g4, g5⟩ := h1 c hc
    by_cases e : c = i
    · subst e; rw [pk_us]; exact ⟨g1, g2, hv, g4, g5⟩
    · rw [pk_un e]; exact ⟨g1, g2, g3, g4, g5⟩
  · obtain ⟨g1, g2, g3, g4, g5⟩ := h2 c hc
    by_cases e : c = i
    · subst e
      rw [pk_us]
      exact ⟨(pk_un (by omega)).trans g1, (pk_un (by omega)).trans g2, by first | exact pk_us.symm | exact pk_us.trans pk_us.symm, (pk_un (by omega)).trans g4, (pk_un (by omega)).trans g5⟩
    · rw [pk_un e]
      exact ⟨(pk_un (by omega)).trans g1, (pk_un (by omega)).trans g2, (pk_un (by omega)).trans g3, (pk_un (by omega)).trans g4, (pk_un (by omega)).trans g5⟩
theorem td_quo {n lo : Nat} {kind limit ret quo refers : Nat → Int32} {q1 q2 q3 : Nat} {a1 b1 a2 b2 a3 b3 s : Nat → Int32} (h : TD n lo kind limit ret quo refers q1 q2 q3 a1 b1 a2 b2 a3 b3 s) {i : Nat} (hi : i < n) {v : Int32} (hv : ∃ x, x ≤ 100 ∧ v = nI x) : TD n lo kind limit ret (upd quo i v) refers q1 q2 q3 a1 b1 a2 b2 a3 b3 (upd s (23 + i) v) := by
  obtain ⟨⟨hn, h1⟩, h2, h3, h4, h5, h6⟩ := h
  refine ⟨⟨hn, fun c hc => ?_⟩, fun c hc => ?_, (pk_un (by omega)).trans h3, (pk_un (by omega)).trans h4, h5, RW3_keep (Nat.le_refl n) (fun t ht ht2 => pk_un (by omega)) h6⟩
  · obtain ⟨g1, g2, g3, g4, g5⟩ := h1 c hc
    by_cases e : c = i
    · subst e; rw [pk_us]; exact ⟨g1, g2, g3, hv, g5⟩
    · rw [pk_un e]; exact ⟨g1, g2, g3, g4, g5⟩
  · obtain ⟨g1, g2, g3, g4, g5⟩ := h2 c hc
    by_cases e : c = i
    · subst e
      rw [pk_us]
      exact ⟨(pk_un (by omega)).trans g1, (pk_un (by omega)).trans g2, (pk_un (by omega)).trans g3, by first | exact pk_us.symm | exact pk_us.trans pk_us.symm, (pk_un (by omega)).trans g5⟩
    · rw [pk_un e]
      exact ⟨(pk_un (by omega)).trans g1, (pk_un (by omega)).trans g2, (pk_un (by omega)).trans g3, (pk_un (by omega)).trans g4, (pk_un (by omega)).trans g5⟩
theorem e_renew {n lo : Nat} {kind limit ret quo refers : Nat → Int32} {q1 q2 q3 : Nat} {a1 b1 a2 b2 a3 b3 s : Nat → Int32} (h : TD n lo kind limit ret quo refers q1 q2 q3 a1 b1 a2 b2 a3 b3 s) (c what v : Int32) : (f_X6_renew kind limit ret quo c what v n).1 = (f_X7_renew s c what v n).1 ∧ TD n lo (f_X6_renew kind limit ret quo c what v n).2.1 (f_X6_renew kind limit ret quo c what v n).2.2.1 (f_X6_renew kind limit ret quo c what v n).2.2.2.1 (f_X6_renew kind limit ret quo c what v n).2.2.2.2 refers q1 q2 q3 a1 b1 a2 b2 a3 b3 (f_X7_renew s c what v n).2 := by
  have h0 := h
  obtain ⟨⟨hn, h1⟩, h2, h3, h4, h5, h6⟩ := h
  unfold f_X6_renew f_X3_change f_X7_renew
  by_cases c1 : f_X7_isOne c n = 0
  · have e : f_X3_term kind limit ret quo c what n = -1 := by unfold f_X3_term; rw [if_pos ((one_iff (by omega)).mpr c1)]
    rw [if_pos e, if_pos c1]; exact ⟨rfl, h0⟩
  · rw [if_neg c1]
    have c1' : ¬ f_X3_isContract (nI n) c = 0 := fun q => c1 ((one_iff (by omega)).mp q)
    by_cases c2 : f_X7_in what.toInt64 0 3 = 0
    · have w : what < 0 ∨ (3 : Int32) < what := (in32 (by decide) (by decide)).mp c2
      have n0 : what ≠ 0 := fun q => by rw [q] at w; revert w; decide
      have n1 : what ≠ 1 := fun q => by rw [q] at w; revert w; decide
      have n2 : what ≠ 2 := fun q => by rw [q] at w; revert w; decide
      have n3 : what ≠ 3 := fun q => by rw [q] at w; revert w; decide
      have e : f_X3_term kind limit ret quo c what n = -1 := by unfold f_X3_term; rw [if_neg c1', if_neg n0, if_neg n1, if_neg n2, if_neg n3]
      rw [if_pos e, if_pos c2]; exact ⟨rfl, h0⟩
    · rw [if_neg c2]
      obtain ⟨x, hx, rfl⟩ := in_nat (B := 3) (by omega) (by decide) (by decide) c2
      obtain ⟨i, hi, rfl⟩ := (isO_iff (by omega)).mp c1
      rw [nI_clamp (show i < 2 ^ 31 by omega)]
      obtain ⟨⟨y1, z1, w1⟩, ⟨y2, z2, w2⟩, ⟨y3, z3, w3⟩, ⟨y4, z4, w4⟩, -⟩ := h1 i hi
      obtain ⟨s1, s2, s3, s4, -⟩ := h2 i hi
      rcases (show x = 0 ∨ x = 1 ∨ x = 2 ∨ x = 3 by omega) with rfl | rfl | rfl | rfl
      · have e : f_X3_term kind limit ret quo (nI i) (nI 0) n = kind i := by unfold f_X3_term; rw [if_neg c1', nI_clamp (show i < 2 ^ 31 by omega), if_pos (show nI 0 = (0 : Int32) from rfl)]
        have m : f_X7_may (nI 0) v = f_X7_in v.toInt64 0 3 := by unfold f_X7_may; rw [if_pos (show nI 0 = (0 : Int32) from rfl)]
        have m2 : f_X3_isTerm (nI 0) v = f_X3_isTerm 0 v := rfl
        rw [e, m, m2, if_neg (show ¬ kind i = -1 by rw [w1]; exact nv_neg z1 (by omega))]
        by_cases c3 : f_X7_in v.toInt64 0 3 = 0
        · rw [if_pos (term0.mpr c3), if_pos c3]; exact ⟨rfl, h0⟩
        · rw [if_neg (fun q => c3 (term0.mp q)), if_neg c3, if_pos (show nI 0 = (0 : Int32) from rfl), if_pos (show nI 0 = (0 : Int32) from rfl)]
          exact ⟨s1.symm, td_kind h0 hi (in_nat (B := 3) (by omega) (by decide) (by decide) c3)⟩
      · have e : f_X3_term kind limit ret quo (nI i) (nI 1) n = limit i := by unfold f_X3_term; rw [if_neg c1', nI_clamp (show i < 2 ^ 31 by omega), if_neg (show ¬ nI 1 = (0 : Int32) by decide), if_pos (show nI 1 = (1 : Int32) from rfl)]
        have m : f_X7_may (nI 1) v = f_X7_in v.toInt64 0 99 := by unfold f_X7_may; rw [if_neg (show ¬ nI 1 = (0 : Int32) by decide), if_pos (show nI 1 = (1 : Int32) from rfl)]
        have m2 : f_X3_isTerm (nI 1) v = f_X3_isTerm 1 v := rfl
        rw [e, m, m2, if_neg (show ¬ limit i = -1 by rw [w2]; exact nv_neg z2 (by omega))]
        by_cases c3 : f_X7_in v.toInt64 0 99 = 0
        · rw [if_pos (term1.mpr c3), if_pos c3]; exact ⟨rfl, h0⟩
        · rw [if_neg (fun q => c3 (term1.mp q)), if_neg c3, if_neg (show ¬ nI 1 = (0 : Int32) by decide), if_pos (show nI 1 = (1 : Int32) from rfl), if_neg (show ¬ nI 1 = (0 : Int32) by decide), if_pos (show nI 1 = (1 : Int32) from rfl)]
          exact ⟨s2.symm, td_limit h0 hi (in_nat (B := 99) (by omega) (by decide) (by decide) c3)⟩
      · have e : f_X3_term kind limit ret quo (nI i) (nI 2) n = ret i := by unfold f_X3_term; rw [if_neg c1', nI_clamp (show i < 2 ^ 31 by omega), if_neg (show ¬ nI 2 = (0 : Int32) by decide), if_neg (show ¬ nI 2 = (1 : Int32) by decide), if_pos (show nI 2 = (2 : Int32) from rfl)]
        have m : f_X7_may (nI 2) v = f_X7_in v.toInt64 0 20 := by unfold f_X7_may; rw [if_neg (show ¬ nI 2 = (0 : Int32) by decide), if_neg (show ¬ nI 2 = (1 : Int32) by decide), if_pos (show nI 2 = (2 : Int32) from rfl)]
        have m2 : f_X3_isTerm (nI 2) v = f_X3_isTerm 2 v := rfl
        rw [e, m, m2, if_neg (show ¬ ret i = -1 by rw [w3]; exact nv_neg z3 (by omega))]
        by_cases c3 : f_X7_in v.toInt64 0 20 = 0
        · rw [if_pos (term2.mpr c3), if_pos c3]; exact ⟨rfl, h0⟩
        · rw [if_neg (fun q => c3 (term2.mp q)), if_neg c3, if_neg (show ¬ nI 2 = (0 : Int32) by decide), if_neg (show ¬ nI 2 = (1 : Int32) by decide), if_pos (show nI 2 = (2 : Int32) from rfl), if_neg (show ¬ nI 2 = (0 : Int32) by decide), if_neg (show ¬ nI 2 = (1 : Int32) by decide), if_pos (show nI 2 = (2 : Int32) from rfl)]
          exact ⟨s3.symm, td_ret h0 hi (in_nat (B := 20) (by omega) (by decide) (by decide) c3)⟩
      · have e : f_X3_term kind limit ret quo (nI i) (nI 3) n = quo i := by unfold f_X3_term; rw [if_neg c1', nI_clamp (show i < 2 ^ 31 by omega), if_neg (show ¬ nI 3 = (0 : Int32) by decide), if_neg (show ¬ nI 3 = (1 : Int32) by decide), if_neg (show ¬ nI 3 = (2 : Int32) by decide), if_pos (show nI 3 = (3 : Int32) from rfl)]
        have m : f_X7_may (nI 3) v = f_X7_in v.toInt64 1 100 := by unfold f_X7_may; rw [if_neg (show ¬ nI 3 = (0 : Int32) by decide), if_neg (show ¬ nI 3 = (1 : Int32) by decide), if_neg (show ¬ nI 3 = (2 : Int32) by decide)]
        have m2 : f_X3_isTerm (nI 3) v = f_X3_isTerm 3 v := rfl
        rw [e, m, m2, if_neg (show ¬ quo i = -1 by rw [w4]; exact nv_neg z4 (by omega))]
        by_cases c3 : f_X7_in v.toInt64 1 100 = 0
        · rw [if_pos (term3.mpr c3), if_pos c3]; exact ⟨rfl, h0⟩
        · rw [if_neg (fun q => c3 (term3.mp q)), if_neg c3, if_neg (show ¬ nI 3 = (0 : Int32) by decide), if_neg (show ¬ nI 3 = (1 : Int32) by decide), if_neg (show ¬ nI 3 = (2 : Int32) by decide), if_neg (show ¬ nI 3 = (0 : Int32) by decide), if_neg (show ¬ nI 3 = (1 : Int32) by decide), if_neg (show ¬ nI 3 = (2 : Int32) by decide)]
          exact ⟨s4.symm, td_quo h0 hi (in_nat (B := 100) (by omega) (by decide) (by decide) c3)⟩
