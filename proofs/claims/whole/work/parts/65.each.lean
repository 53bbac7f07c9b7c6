/-! plan, feed: alike -/
theorem ref2 {v : Int32} {b : Int64} {B : Int32} (hb : b.toInt = B.toInt) : (if v < (0 : Int32) then (-2 : Int32) else (if v ≤ B then (0 : Int32) else (-2 : Int32))) = if f_X7_in v.toInt64 0 b = 0 then (-2 : Int32) else 0 := by
  have hi : f_X7_in v.toInt64 0 b = 0 ↔ v < 0 ∨ B < v := in32 (by decide) hb
  by_cases c1 : v < 0
  · rw [if_pos c1, if_pos (hi.mpr (Or.inl c1))]
  · rw [if_neg c1]
    by_cases c2 : v ≤ B
    · rw [if_pos c2, if_neg (fun q => by
        rcases hi.mp q with w | w
        · exact c1 w
        · exact absurd c2 (Int32.not_le.mpr w))]
    · rw [if_neg c2, if_pos (hi.mpr (Or.inr (Int32.not_le.mp c2)))]
def PL (n q : Nat) (s : Nat → Int32) (what v : Int32) : Prop := (∃ r : Int32, ¬ (0 : Int32) ≤ r ∧ f_X6_planRefusal what v n = r ∧ f_X7_plan s what v n q = (r, s)) ∨ (f_X6_planRefusal what v n = 0 ∧ PV n what v ∧ f_X7_plan s what v n q = (if nI q = (8 : Int32) then ((-4 : Int32), s) else (nI (q + 1), upd (upd (upd s (45 + q) what) (53 + q) v) 3 (nI (q + 1)))))
theorem pl_0 {n q : Nat} {s : Nat → Int32} {v : Int32} : PL n q s 0 v := by
  have r : f_X6_planRefusal 0 v n = if f_X7_in v.toInt64 0 300 = 0 then (-2 : Int32) else 0 := by
    unfold f_X6_planRefusal
    rw [if_pos rfl]
    exact ref2 (by decide)
  have p : f_X7_plan s 0 v n q = if f_X7_in v.toInt64 0 300 = 0 then ((-2 : Int32), s) else (if nI q = (8 : Int32) then ((-4 : Int32), s) else (nI (q + 1), upd (upd (upd s (45 + q) 0) (53 + q) v) 3 (nI (q + 1)))) := by
    unfold f_X7_plan
    rw [if_neg (show ¬ (0 : Int32) = -1 by decide), if_neg (show ¬ f_X7_in (0 : Int32).toInt64 0 3 = 0 by decide), if_pos (show f_X7_in (0 : Int32).toInt64 1 2 = 0 by decide), if_pos rfl]
  by_cases c : f_X7_in v.toInt64 0 300 = 0
  · rw [if_pos c] at r p
    exact Or.inl ⟨-2, by decide, r, p⟩
  · rw [if_neg c] at r p
    exact Or.inr ⟨r, Or.inl ⟨rfl, in_nat (B := 300) (by omega) (by decide) (by decide) c⟩, p⟩
theorem pl_3 {n q : Nat} {s : Nat → Int32} {v : Int32} : PL n q s 3 v := by
  have r : f_X6_planRefusal 3 v n = if f_X7_in v.toInt64 0 20 = 0 then (-2 : Int32) else 0 := by
    unfold f_X6_planRefusal
    rw [if_neg (show ¬ (3 : Int32) = 0 by decide), if_neg (show ¬ (3 : Int32) = 1 by decide), if_neg (show ¬ (3 : Int32) = 2 by decide), if_pos rfl]
    exact ref2 (by decide)
  have p : f_X7_plan s 3 v n q = if f_X7_in v.toInt64 0 20 = 0 then ((-2 : Int32), s) else (if nI q = (8 : Int32) then ((-4 : Int32), s) else (nI (q + 1), upd (upd (upd s (45 + q) 3) (53 + q) v) 3 (nI (q + 1)))) := by
    unfold f_X7_plan
    rw [if_neg (show ¬ (3 : Int32) = -1 by decide), if_neg (show ¬ f_X7_in (3 : Int32).toInt64 0 3 = 0 by decide), if_pos (show f_X7_in (3 : Int32).toInt64 1 2 = 0 by decide), if_neg (show ¬ (3 : Int32) = 0 by decide), if_pos rfl]
  by_cases c : f_X7_in v.toInt64 0 20 = 0
  · rw [if_pos c] at r p
    exact Or.inl ⟨-2, by decide, r, p⟩
  · rw [if_neg c] at r p
    exact Or.inr ⟨r, Or.inr (Or.inr (Or.inr ⟨rfl, in_nat (B := 20) (by omega) (by decide) (by decide) c⟩)), p⟩
theorem pl_1 {n q : Nat} (hn : n < 2 ^ 31) {s : Nat → Int32} {v : Int32} : PL n q s 1 v := by
  have r : f_X6_planRefusal 1 v n = if f_X3_isContract (nI n) v = 0 then (-1 : Int32) else 0 := by
    unfold f_X6_planRefusal
    rw [if_neg (show ¬ (1 : Int32) = 0 by decide), if_pos rfl]
  have p : f_X7_plan s 1 v n q = if f_X7_isOne v n = 0 then ((-1 : Int32), s) else (if nI q = (8 : Int32) then ((-4 : Int32), s) else (nI (q + 1), upd (upd (upd s (45 + q) 1) (53 + q) (nI v.toNatClampNeg)) 3 (nI (q + 1)))) := by
    unfold f_X7_plan
    rw [if_neg (show ¬ (1 : Int32) = -1 by decide), if_neg (show ¬ f_X7_in (1 : Int32).toInt64 0 3 = 0 by decide), if_neg (show ¬ f_X7_in (1 : Int32).toInt64 1 2 = 0 by decide), if_neg (show ¬ (1 : Int32) = 0 by decide), if_neg (show ¬ (1 : Int32) = 3 by decide)]
  by_cases c : f_X7_isOne v n = 0
  · rw [if_pos ((one_iff hn).mpr c)] at r
    rw [if_pos c] at p
    exact Or.inl ⟨-1, by decide, r, p⟩
  · rw [if_neg (fun z => c ((one_iff hn).mp z))] at r
    rw [if_neg c] at p
    obtain ⟨i, hi, rfl⟩ := (isO_iff hn).mp c
    rw [nI_clamp (show i < 2 ^ 31 by omega)] at p
    exact Or.inr ⟨r, Or.inr (Or.inl ⟨rfl, i, hi, rfl⟩), p⟩
theorem pl_2 {n q : Nat} (hn : n < 2 ^ 31) {s : Nat → Int32} {v : Int32} : PL n q s 2 v := by
  have r : f_X6_planRefusal 2 v n = if f_X3_isContract (nI n) v = 0 then (-1 : Int32) else 0 := by
    unfold f_X6_planRefusal
    rw [if_neg (show ¬ (2 : Int32) = 0 by decide), if_neg (show ¬ (2 : Int32) = 1 by decide), if_pos rfl]
  have p : f_X7_plan s 2 v n q = if f_X7_isOne v n = 0 then ((-1 : Int32), s) else (if nI q = (8 : Int32) then ((-4 : Int32), s) else (nI (q + 1), upd (upd (upd s (45 + q) 2) (53 + q) (nI v.toNatClampNeg)) 3 (nI (q + 1)))) := by
    unfold f_X7_plan
    rw [if_neg (show ¬ (2 : Int32) = -1 by decide), if_neg (show ¬ f_X7_in (2 : Int32).toInt64 0 3 = 0 by decide), if_neg (show ¬ f_X7_in (2 : Int32).toInt64 1 2 = 0 by decide), if_neg (show ¬ (2 : Int32) = 0 by decide), if_neg (show ¬ (2 : Int32) = 3 by decide)]
  by_cases c : f_X7_isOne v n = 0
  · rw [if_pos ((one_iff hn).mpr c)] at r
    rw [if_pos c] at p
    exact Or.inl ⟨-1, by decide, r, p⟩
  · rw [if_neg (fun z => c ((one_iff hn).mp z))] at r
    rw [if_neg c] at p
    obtain ⟨i, hi, rfl⟩ := (isO_iff hn).mp c
    rw [nI_clamp (show i < 2 ^ 31 by omega)] at p
    exact Or.inr ⟨r, Or.inr (Or.inr (Or.inl ⟨rfl, i, hi, rfl⟩)), p⟩
theorem pl_all {n q : Nat} (hn : n < 2 ^ 31) {s : Nat → Int32} {what v : Int32} (hw : ¬ what = -1) : PL n q s what v := by
  by_cases e0 : what = 0
  · rw [e0]; exact pl_0
  by_cases e1 : what = 1
  · rw [e1]; exact pl_1 hn
  by_cases e2 : what = 2
  · rw [e2]; exact pl_2 hn
  by_cases e3 : what = 3
  · rw [e3]; exact pl_3
  refine Or.inl ⟨-1, by decide, ?_, ?_⟩
  · unfold f_X6_planRefusal
    rw [if_neg e0, if_neg e1, if_neg e2, if_neg e3]
  · have c : f_X7_in what.toInt64 0 3 = 0 := by
      by_cases c : f_X7_in what.toInt64 0 3 = 0
      · exact c
      · obtain ⟨x, hx, e⟩ := in_nat (B := 3) (by omega) (by decide) (by decide) c
        have : x = 0 ∨ x = 1 ∨ x = 2 ∨ x = 3 := by omega
        rcases this with y | y | y | y <;> subst y
        · exact absurd e e0
        · exact absurd e e1
        · exact absurd e e2
        · exact absurd e e3
    unfold f_X7_plan
    rw [if_neg hw, if_pos c]
theorem e_plan {n lo : Nat} {kind limit ret quo refers : Nat → Int32} {q1 q2 q3 : Nat} {a1 b1 a2 b2 a3 b3 s : Nat → Int32} (h : TD n lo kind limit ret quo refers q1 q2 q3 a1 b1 a2 b2 a3 b3 s) (what v : Int32) : (f_X6_plan a2 b2 what v n q2 8).1 = (f_X7_plan s what v n q2).1 ∧ TD n lo kind limit ret quo refers q1 (f_X6_plan a2 b2 what v n q2 8).2.2.2 q3 a1 b1 (f_X6_plan a2 b2 what v n q2 8).2.1 (f_X6_plan a2 b2 what v n q2 8).2.2.1 a3 b3 (f_X7_plan s what v n q2).2 := by
  have hn := h.1.1
  have hr := h.2.2.2.2.2
  have hq := hr.2.2.2.2.1
  by_cases c1 : what = (-1 : Int32)
  · unfold f_X6_plan f_X7_plan f_X1_clear
    rw [if_pos c1, if_pos c1]
    exact ⟨rfl, TD_rows h (fun j hj => pk_un (by omega)) (RW_0 hr).2.1⟩
  · rcases pl_all (n := n) (q := q2) (by omega) (s := s) (v := v) c1 with ⟨r, g1, g2, g3⟩ | ⟨g1, g2, g3⟩
    · unfold f_X6_plan
      rw [if_neg c1, g2, if_neg g1, g3]
      exact ⟨rfl, h⟩
    · unfold f_X6_plan f_X1_add
      rw [if_neg c1, g1, if_pos (show (0 : Int32) ≤ 0 by decide), g3]
      by_cases c6 : nI q2 = (8 : Int32)
      · rw [if_neg (fun q => (add_lt hq (by omega) (by decide)).mp q c6), if_pos c6]; exact ⟨rfl, h⟩
      · rw [if_pos ((add_lt hq (by omega) (by decide)).mpr c6), if_neg c6]
        have hq2 : q2 < 8 := by
          have : q2 ≠ 8 := fun e => c6 (by rw [e]; decide)
          omega
        exact ⟨rfl, TD_rows h (fun j hj => by
          dsimp only
          rw [pk_un (by omega), pk_un (by omega), pk_un (by omega)]) (RW_2 hr hq2 g2)⟩
/-- the text of a script, alike on both sides: signs up to its length -/
def TX (ln : Nat) (t u : Nat → Int32) : Prop := ln ≤ 100 ∧ ∀ k, k < ln → t k = u k ∧ ∃ x, x ≤ 127 ∧ t k = nI x
theorem nar_sign : ∀ x : Fin 128, vp_nar .byte ((nI x.val).toInt8.toInt32) = nI x.val := by decide +kernel
theorem e_feed {ln : Nat} {t u : Nat → Int32} (h : TX ln t u) (sign : Int32) : (f_X6_feed t sign ln).1 = (f_X7_feed u sign ln).1 ∧ (f_X6_feed t sign ln).2.2 = (f_X7_feed u sign ln).2.2 ∧ TX (f_X6_feed t sign ln).2.2 (f_X6_feed t sign ln).2.1 (f_X7_feed u sign ln).2.1 := by
  have hi : f_X7_in sign.toInt64 0 127 = 0 ↔ sign < 0 ∨ (127 : Int32) < sign := in32 (by decide) (by decide)
  unfold f_X6_feed f_X2_append f_X7_feed
  by_cases c1 : sign < 0
  · rw [if_pos c1, if_pos (hi.mpr (Or.inl c1))]; exact ⟨rfl, rfl, h⟩
  · rw [if_neg c1]
    by_cases c2 : sign ≤ 127
    · have c3 : ¬ f_X7_in sign.toInt64 0 127 = 0 := fun q => by
        rcases hi.mp q with w | w
        · exact c1 w
        · exact absurd c2 (Int32.not_le.mpr w)
      rw [if_pos c2, if_neg c3]
      obtain ⟨x, hx, rfl⟩ := in_nat (B := 127) (by omega) (by decide) (by decide) c3
      have hl := h.1
      by_cases c4 : nI ln = (100 : Int32)
      · rw [if_neg (show ¬ nI ln < (100 : Int32) from fun q => by rw [c4] at q; exact absurd q (by decide)), if_pos c4]; exact ⟨rfl, rfl, h⟩
      · have hl2 : ln < 100 := by
          have : ln ≠ 100 := fun e => c4 (by rw [e]; decide)
          omega
        rw [if_pos (show nI ln < (100 : Int32) from (nI_ltI (a := ln) (b := 100) (by omega) (by omega)).mpr hl2), if_neg c4]
        refine ⟨rfl, rfl, by dsimp only; omega, fun k hk => ?_⟩
        dsimp only at hk ⊢
        by_cases e : k = ln
        · subst e
          rw [pk_us, pk_us, nar_sign ⟨x, by omega⟩]
          exact ⟨rfl, x, hx, rfl⟩
        · rw [pk_un e, pk_un e]
          exact h.2 k (by omega)
    · rw [if_neg c2, if_pos (hi.mpr (Or.inr (Int32.not_le.mp c2)))]; exact ⟨rfl, rfl, h⟩
