/-! tests told alike; what is held of a set-up with the rows told by hand; the calls that change it -/
theorem lgc_lt {x y : Int64} : lg_cmp x y < 0 ↔ x.toInt < y.toInt := by
  unfold lg_cmp
  by_cases c1 : x > y
  · rw [if_pos c1]
    have := Int64.lt_iff_toInt_lt.mp c1
    exact ⟨fun q => absurd q (by decide), fun q => by omega⟩
  · rw [if_neg c1]
    have h1 : ¬ y.toInt < x.toInt := fun q => c1 (Int64.lt_iff_toInt_lt.mpr q)
    by_cases c2 : x = y
    · rw [if_pos c2, c2]
      exact ⟨fun q => absurd q (by decide), fun q => by omega⟩
    · rw [if_neg c2]
      have h2 : x.toInt ≠ y.toInt := fun q => c2 (Int64.toInt_inj.mp q)
      exact ⟨fun _ => by omega, fun _ => by decide⟩
theorem lgc_gt {x y : Int64} : 0 < lg_cmp x y ↔ y.toInt < x.toInt := by
  unfold lg_cmp
  by_cases c1 : x > y
  · rw [if_pos c1]
    exact ⟨fun _ => Int64.lt_iff_toInt_lt.mp c1, fun _ => by decide⟩
  · rw [if_neg c1]
    have h1 : ¬ y.toInt < x.toInt := fun q => c1 (Int64.lt_iff_toInt_lt.mpr q)
    by_cases c2 : x = y
    · rw [if_pos c2]
      exact ⟨fun q => absurd q (by decide), fun q => absurd q h1⟩
    · rw [if_neg c2]
      exact ⟨fun q => absurd q (by decide), fun q => absurd q h1⟩
theorem lgc_eq {x y : Int64} : lg_cmp x y = 0 ↔ x = y := by
  unfold lg_cmp
  by_cases c1 : x > y
  · rw [if_pos c1]
    have := Int64.lt_iff_toInt_lt.mp c1
    exact ⟨fun q => absurd q (by decide), fun q => by rw [q] at this; omega⟩
  · rw [if_neg c1]
    by_cases c2 : x = y
    · rw [if_pos c2]; exact ⟨fun _ => c2, fun _ => rfl⟩
    · rw [if_neg c2]; exact ⟨fun q => absurd q (by decide), fun q => absurd q c2⟩
theorem in7_0 {v lo hi : Int64} : f_X7_in v lo hi = 0 ↔ v.toInt < lo.toInt ∨ hi.toInt < v.toInt := by
  unfold f_X7_in
  by_cases c1 : lg_cmp v lo < 0
  · rw [if_pos c1]; exact ⟨fun _ => Or.inl (lgc_lt.mp c1), fun _ => rfl⟩
  · rw [if_neg c1]
    by_cases c2 : 0 < lg_cmp v hi
    · rw [if_pos c2]; exact ⟨fun _ => Or.inr (lgc_gt.mp c2), fun _ => rfl⟩
    · rw [if_neg c2]
      refine ⟨fun q => absurd q (by decide), fun q => ?_⟩
      rcases q with q | q
      · exact absurd (lgc_lt.mpr q) c1
      · exact absurd (lgc_gt.mpr q) c2
theorem in32 {v : Int32} {a b : Int64} {A B : Int32} (ha : a.toInt = A.toInt) (hb : b.toInt = B.toInt) : f_X7_in v.toInt64 a b = 0 ↔ v < A ∨ B < v := by
  rw [in7_0, Int32.toInt_toInt64, ha, hb, Int32.lt_iff_toInt_lt, Int32.lt_iff_toInt_lt]
theorem rng0 {v A B : Int32} : (if v < A then (0 : Int32) else (if B < v then (0 : Int32) else (1 : Int32))) = 0 ↔ v < A ∨ B < v := by
  by_cases c1 : v < A
  · rw [if_pos c1]; exact ⟨fun _ => Or.inl c1, fun _ => rfl⟩
  · rw [if_neg c1]
    by_cases c2 : B < v
    · rw [if_pos c2]; exact ⟨fun _ => Or.inr c2, fun _ => rfl⟩
    · rw [if_neg c2]
      refine ⟨fun q => absurd q (by decide), fun q => ?_⟩
      rcases q with q | q
      · exact absurd q c1
      · exact absurd q c2
theorem term0 {v : Int32} : f_X3_isTerm 0 v = 0 ↔ f_X7_in v.toInt64 0 3 = 0 := by
  rw [in32 (A := 0) (B := 3) (by decide) (by decide)]
  exact rng0
theorem term1 {v : Int32} : f_X3_isTerm 1 v = 0 ↔ f_X7_in v.toInt64 0 99 = 0 := by
  rw [in32 (A := 0) (B := 99) (by decide) (by decide)]
  exact rng0
theorem term2 {v : Int32} : f_X3_isTerm 2 v = 0 ↔ f_X7_in v.toInt64 0 20 = 0 := by
  rw [in32 (A := 0) (B := 20) (by decide) (by decide)]
  exact rng0
theorem term3 {v : Int32} : f_X3_isTerm 3 v = 0 ↔ f_X7_in v.toInt64 1 100 = 0 := by
  rw [in32 (A := 1) (B := 100) (by decide) (by decide)]
  exact rng0
theorem in_nat {v : Int32} {a b : Int64} {B : Nat} (hB : B < 2 ^ 31) (ha : 0 ≤ a.toInt) (hb : b.toInt = B) (h : ¬ f_X7_in v.toInt64 a b = 0) : ∃ x, x ≤ B ∧ v = nI x := by
  rw [in7_0, Int32.toInt_toInt64] at h
  obtain ⟨x, hx, rfl⟩ := nI_of (x := v) (fun q => by
    have := Int32.lt_iff_toInt_lt.mp q
    have e0 : (0 : Int32).toInt = 0 := by decide
    omega)
  rw [nI_toInt hx] at h
  exact ⟨x, by omega, rfl⟩
theorem isC_iff {n : Nat} (hn : n < 2 ^ 31) {c : Int32} : ¬ f_X3_isContract (nI n) c = 0 ↔ ∃ j, j < n ∧ c = nI j := by
  constructor
  · intro h
    obtain ⟨j, -, h2, h3⟩ := isC_of hn h
    exact ⟨j, h2, h3⟩
  · rintro ⟨j, hj, rfl⟩
    unfold f_X3_isContract
    rw [if_neg (nI_pos (by omega)), if_neg (nI_ge hj hn)]
    decide
theorem isO_iff {n : Nat} (hn : n < 2 ^ 31) {c : Int32} : ¬ f_X7_isOne c n = 0 ↔ ∃ j, j < n ∧ c = nI j := by
  constructor
  · intro h
    obtain ⟨j, -, h2, h3⟩ := isO_of hn h
    exact ⟨j, h2, h3⟩
  · rintro ⟨j, hj, rfl⟩
    unfold f_X7_isOne
    rw [in7_0, Int32.toInt_toInt64, Int32.toInt_toInt64, show n = (n - 1) + 1 by omega, nI_pred, nI_toInt (by omega), nI_toInt (by omega)]
    have e0 : (0 : Int64).toInt = 0 := by decide
    omega
theorem one_iff {n : Nat} (hn : n < 2 ^ 31) {c : Int32} : f_X3_isContract (nI n) c = 0 ↔ f_X7_isOne c n = 0 := by
  have h1 := isC_iff hn (c := c)
  have h2 := isO_iff hn (c := c)
  by_cases a : f_X3_isContract (nI n) c = 0
  · by_cases b : f_X7_isOne c n = 0
    · exact ⟨fun _ => b, fun _ => a⟩
    · exact absurd a (h1.mpr (h2.mp b))
  · by_cases b : f_X7_isOne c n = 0
    · exact absurd b (h2.mpr (h1.mp a))
    · exact ⟨fun q => absurd q a, fun q => absurd q b⟩
/-- a set-up is as it must be -/
def SVp (n : Nat) (kind limit ret quo refers : Nat → Int32) : Prop := n ≤ 6 ∧ ∀ c, c < n → (∃ x, x ≤ 3 ∧ kind c = nI x) ∧ (∃ x, x ≤ 99 ∧ limit c = nI x) ∧ (∃ x, x ≤ 20 ∧ ret c = nI x) ∧ (∃ x, x ≤ 100 ∧ quo c = nI x) ∧ bt (refers c) c = false ∧ ∀ i, 6 ≤ i → bt (refers c) i = false
theorem SVp_SU {n : Nat} {s kind limit ret quo refers : Nat → Int32} (h : SVp n kind limit ret quo refers) (hs : SM n s kind limit ret quo refers) : SU n s kind limit ret quo refers := by
  refine ⟨h.1, ⟨fun c => (kind c).toNatClampNeg, fun c => (limit c).toNatClampNeg, fun c => (ret c).toNatClampNeg, fun c => (quo c).toNatClampNeg, fun c hc => ?_⟩, hs, fun c hc => (h.2 c hc).2.2.2.2.1⟩
  obtain ⟨⟨x1, a1, b1⟩, ⟨x2, a2, b2⟩, ⟨x3, a3, b3⟩, ⟨x4, a4, b4⟩, -⟩ := h.2 c hc
  show kind c = nI (kind c).toNatClampNeg ∧ (kind c).toNatClampNeg ≤ 3 ∧ limit c = nI (limit c).toNatClampNeg ∧ (limit c).toNatClampNeg ≤ 99 ∧ ret c = nI (ret c).toNatClampNeg ∧ (ret c).toNatClampNeg ≤ 20 ∧ quo c = nI (quo c).toNatClampNeg ∧ (quo c).toNatClampNeg ≤ 100
  rw [b1, b2, b3, b4, nI_clamp (by omega), nI_clamp (by omega), nI_clamp (by omega), nI_clamp (by omega)]
  exact ⟨rfl, a1, rfl, a2, rfl, a3, rfl, a4⟩
/-- a row of a plan -/
def PV (n : Nat) (w v : Int32) : Prop := (w = 0 ∧ ∃ x, x ≤ 300 ∧ v = nI x) ∨ (w = 1 ∧ ∃ c, c < n ∧ v = nI c) ∨ (w = 2 ∧ ∃ c, c < n ∧ v = nI c) ∨ (w = 3 ∧ ∃ x, x ≤ 20 ∧ v = nI x)
theorem PV_up {n m : Nat} (h : n ≤ m) {w v : Int32} (hp : PV n w v) : PV m w v := by
  rcases hp with q | ⟨q, c, h1, h2⟩ | ⟨q, c, h1, h2⟩ | q
  · exact Or.inl q
  · exact Or.inr (Or.inl ⟨q, c, by omega, h2⟩)
  · exact Or.inr (Or.inr (Or.inl ⟨q, c, by omega, h2⟩))
  · exact Or.inr (Or.inr (Or.inr q))
/-- the rows told by hand, alike on both sides -/
def RW3 (n q1 q2 q3 : Nat) (a1 b1 a2 b2 a3 b3 s : Nat → Int32) : Prop := s 2 = nI q1 ∧ s 3 = nI q2 ∧ s 4 = nI q3 ∧ q1 ≤ 5 ∧ q2 ≤ 8 ∧ q3 ≤ 8 ∧ (∀ k, k < q1 → s (35 + k) = a1 k ∧ s (40 + k) = b1 k ∧ ∃ c, c < n ∧ a1 k = nI c) ∧ (∀ k, k < q2 → s (45 + k) = a2 k ∧ s (53 + k) = b2 k ∧ PV n (a2 k) (b2 k)) ∧ ∀ k, k < q3 → s (61 + k) = a3 k ∧ s (69 + k) = b3 k ∧ ∃ c, c < n ∧ a3 k = nI c
/-- all that an image holds, alike on both sides -/
def TD (n lo : Nat) (kind limit ret quo refers : Nat → Int32) (q1 q2 q3 : Nat) (a1 b1 a2 b2 a3 b3 s : Nat → Int32) : Prop := SVp n kind limit ret quo refers ∧ SM n s kind limit ret quo refers ∧ s 0 = nI n ∧ s 1 = nI lo ∧ lo ≤ 300 ∧ RW3 n q1 q2 q3 a1 b1 a2 b2 a3 b3 s
/-- rows stay, where only other places change -/
theorem RW3_keep {n m q1 q2 q3 : Nat} (hnm : n ≤ m) {a1 b1 a2 b2 a3 b3 s t : Nat → Int32} (ht : ∀ j, 1 < j → (j < 5 ∨ 34 < j) → t j = s j) (h : RW3 n q1 q2 q3 a1 b1 a2 b2 a3 b3 s) : RW3 m q1 q2 q3 a1 b1 a2 b2 a3 b3 t := by
  obtain ⟨h1, h2, h3, h4, h5, h6, h7, h8, h9⟩ := h
  refine ⟨(ht 2 (by omega) (by omega)).trans h1, (ht 3 (by omega) (by omega)).trans h2, (ht 4 (by omega) (by omega)).trans h3, h4, h5, h6, fun k hk => ?_, fun k hk => ?_, fun k hk => ?_⟩
  · obtain ⟨g1, g2, c, g3, g4⟩ := h7 k hk
    exact ⟨(ht _ (by omega) (by omega)).trans g1, (ht _ (by omega) (by omega)).trans g2, c, by omega, g4⟩
  · obtain ⟨g1, g2, g3⟩ := h8 k hk
    exact ⟨(ht _ (by omega) (by omega)).trans g1, (ht _ (by omega) (by omega)).trans g2, PV_up hnm g3⟩
  · obtain ⟨g1, g2, c, g3, g4⟩ := h9 k hk
    exact ⟨(ht _ (by omega) (by omega)).trans g1, (ht _ (by omega) (by omega)).trans g2, c, by omega, g4⟩
theorem e_loss {n lo : Nat} {kind limit ret quo refers : Nat → Int32} {q1 q2 q3 : Nat} {a1 b1 a2 b2 a3 b3 s : Nat → Int32} (h : TD n lo kind limit ret quo refers q1 q2 q3 a1 b1 a2 b2 a3 b3 s) (v : Int32) : (f_X6_loss (nI lo) v).1 = (f_X7_loss s v).1 ∧ ∃ lo', (f_X6_loss (nI lo) v).2 = nI lo' ∧ TD n lo' kind limit ret quo refers q1 q2 q3 a1 b1 a2 b2 a3 b3 (f_X7_loss s v).2 := by
  obtain ⟨h1, h2, h3, h4, h5, h6⟩ := h
  unfold f_X6_loss f_X3_changeLoss f_X7_loss
  have hi : f_X7_in v.toInt64 0 300 = 0 ↔ v < 0 ∨ (300 : Int32) < v := in32 (by decide) (by decide)
  by_cases c1 : v < 0
  · rw [if_pos c1, if_pos (hi.mpr (Or.inl c1))]
    exact ⟨rfl, lo, rfl, h1, h2, h3, h4, h5, h6⟩
  · rw [if_neg c1]
    by_cases c2 : v ≤ 300
    · have c3 : ¬ f_X7_in v.toInt64 0 300 = 0 := fun q => by
        rcases hi.mp q with w | w
        · exact c1 w
        · exact absurd c2 (Int32.not_le.mpr w)
      rw [if_pos c2, if_neg c3]
      obtain ⟨x, hx, rfl⟩ := in_nat (B := 300) (by omega) (by decide) (by decide) c3
      dsimp only
      refine ⟨h4.symm, x, rfl, h1, fun c hc => ?_, ?_, pk_us, hx, RW3_keep (Nat.le_refl n) (fun j hj _ => pk_un (by omega)) h6⟩
      · obtain ⟨g1, g2, g3, g4, g5⟩ := h2 c hc
        exact ⟨(pk_un (by omega)).trans g1, (pk_un (by omega)).trans g2, (pk_un (by omega)).trans g3, (pk_un (by omega)).trans g4, (pk_un (by omega)).trans g5⟩
      · exact (pk_un (by omega)).trans h3
    · rw [if_neg c2, if_pos (hi.mpr (Or.inr (Int32.not_le.mp c2)))]
      exact ⟨rfl, lo, rfl, h1, h2, h3, h4, h5, h6⟩
