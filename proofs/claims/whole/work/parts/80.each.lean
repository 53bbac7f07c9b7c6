/-! a text read: numbers, signs and clauses are taken alike -/
def DS (t : Nat → Int32) (ln p : Nat) : Prop := nI ln ≤ nI p ∨ t p < 48 ∨ 57 < t p
theorem ds3 {α : Type} {t : Nat → Int32} {ln p : Nat} {x y : α} (h : DS t ln p) : (if nI ln ≤ nI p then x else if t p < 48 then x else if (57 : Int32) < t p then x else y) = x := by
  by_cases a : nI ln ≤ nI p
  · rw [if_pos a]
  rw [if_neg a]
  by_cases b : t p < 48
  · rw [if_pos b]
  rw [if_neg b]
  rcases h with q | q | q
  · exact absurd q a
  · exact absurd q b
  · rw [if_pos q]
theorem ds3n {α : Type} {t : Nat → Int32} {ln p : Nat} {x y : α} (h : ¬ DS t ln p) : (if nI ln ≤ nI p then x else if t p < 48 then x else if (57 : Int32) < t p then x else y) = y := by
  rw [if_neg (fun q => h (Or.inl q)), if_neg (fun q => h (Or.inr (Or.inl q))), if_neg (fun q => h (Or.inr (Or.inr q)))]
theorem ds_lt {t : Nat → Int32} {ln p : Nat} (hl : ln ≤ 100) (h : ¬ DS t ln p) (hp : p < 2 ^ 31) : p < ln := by
  rcases Nat.lt_or_ge p ln with q | q
  · exact q
  · exact absurd (Or.inl ((nI_leI (by omega) hp).mpr q)) h
theorem in7_ds {ln : Nat} {t u : Nat → Int32} (hT : TX ln t u) {p : Nat} (hp : p < 2 ^ 31) : f_X7_in (f_X7_here u ln p).toInt64 48 57 = 0 ↔ DS t ln p := by
  have hl := hT.1
  unfold f_X7_here
  by_cases a : nI ln ≤ nI p
  · rw [if_pos a]
    exact ⟨fun _ => Or.inl a, fun _ => by decide⟩
  · rw [if_neg a]
    have hlt : p < ln := by
      rcases Nat.lt_or_ge p ln with q | q
      · exact q
      · exact absurd ((nI_leI (by omega) hp).mpr q) a
    rw [in32 (A := 48) (B := 57) (by decide) (by decide), ← (hT.2 p hlt).1]
    exact ⟨fun q => Or.inr q, fun q => q.resolve_left a⟩
theorem dig1 (a : Int32) : (0 : Int32) + a - 48 = 0 + (a - 48) := by rw [Int32.zero_add, Int32.zero_add]
theorem dig2 (a b : Int32) : (10 : Int32) * a + b - 48 = a * 10 + (b - 48) := by rw [Int32.mul_comm, Int32.sub_eq_add_neg, Int32.sub_eq_add_neg, Int32.add_assoc]
/-- a number taken on both sides -/
def NR (T : Int32 × (Nat → Int32) × Nat) (M : Int32 × Nat × Int32) (N : Nat → Int32) (sl pt ln : Nat) : Prop := (T = (0, N, pt) ∧ M = (0, pt, 1)) ∨ ∃ v p, T = (1, upd N sl v, p) ∧ M = (v, p, 0) ∧ pt < p ∧ p ≤ ln
theorem sl_ok {sl : Nat} (h : sl < 36) : ¬ nI sl < (0 : Int32) ∧ nI sl < (36 : Int32) := ⟨nI_pos (by omega), (nI_ltI (a := sl) (b := 36) (by omega) (by omega)).mpr h⟩
theorem num1 {ln : Nat} {t u : Nat → Int32} (hT : TX ln t u) (N : Nat → Int32) {sl pt : Nat} (hs : sl < 36) (hp : pt < 1000) : NR (f_X2_takeNumberd1 t N ln pt sl) (f_X7_numberd1 u 0 ln pt) N sl pt ln := by
  obtain ⟨s0, s1⟩ := sl_ok hs
  have hl := hT.1
  have g0 := in7_ds hT (show pt < 2 ^ 31 by omega)
  unfold f_X2_takeNumberd1 f_X7_numberd1
  rw [if_pos (show (0 : Int32) = 0 from rfl), if_neg s0, if_pos s1]
  by_cases c0 : DS t ln pt
  · rw [ds3 c0, if_pos (g0.mpr c0)]
    exact Or.inl ⟨rfl, rfl⟩
  have l0 := ds_lt hl c0 (by omega)
  rw [ds3n c0, if_neg (fun q => c0 (g0.mp q)), ← (hT.2 pt l0).1]
  exact Or.inr ⟨_, _, rfl, by rw [dig1], by omega, by omega⟩
theorem num2 {ln : Nat} {t u : Nat → Int32} (hT : TX ln t u) (N : Nat → Int32) {sl pt : Nat} (hs : sl < 36) (hp : pt < 1000) : NR (f_X2_takeNumberd2 t N ln pt sl) (f_X7_numberd2 u 0 ln pt) N sl pt ln := by
  obtain ⟨s0, s1⟩ := sl_ok hs
  have hl := hT.1
  have g0 := in7_ds hT (show pt < 2 ^ 31 by omega)
  have g1 := in7_ds hT (show pt + 1 < 2 ^ 31 by omega)
  unfold f_X2_takeNumberd2 f_X7_numberd2
  rw [if_pos (show (0 : Int32) = 0 from rfl)]
  simp only [if_neg s0, if_pos s1]
  by_cases c0 : DS t ln pt
  · rw [ds3 c0, if_pos (g0.mpr c0)]
    exact Or.inl ⟨rfl, rfl⟩
  have l0 := ds_lt hl c0 (by omega)
  rw [ds3n c0, if_neg (fun q => c0 (g0.mp q)), ← (hT.2 pt l0).1]
  by_cases c1 : DS t ln (pt + 1)
  · rw [ds3 c1, if_pos (g1.mpr c1)]
    exact Or.inr ⟨_, _, rfl, by rw [dig1], by omega, by omega⟩
  have l1 := ds_lt hl c1 (by omega)
  rw [ds3n c1, if_neg (fun q => c1 (g1.mp q)), ← (hT.2 (pt + 1) l1).1]
  exact Or.inr ⟨_, _, rfl, by rw [dig1, dig2], by omega, by omega⟩
theorem num3 {ln : Nat} {t u : Nat → Int32} (hT : TX ln t u) (N : Nat → Int32) {sl pt : Nat} (hs : sl < 36) (hp : pt < 1000) : NR (f_X2_takeNumberd3 t N ln pt sl) (f_X7_numberd3 u 0 ln pt) N sl pt ln := by
  obtain ⟨s0, s1⟩ := sl_ok hs
  have hl := hT.1
  have g0 := in7_ds hT (show pt < 2 ^ 31 by omega)
  have g1 := in7_ds hT (show pt + 1 < 2 ^ 31 by omega)
  have g2 := in7_ds hT (show pt + 1 + 1 < 2 ^ 31 by omega)
  unfold f_X2_takeNumberd3 f_X7_numberd3
  rw [if_pos (show (0 : Int32) = 0 from rfl)]
  simp only [if_neg s0, if_pos s1]
  by_cases c0 : DS t ln pt
  · rw [ds3 c0, if_pos (g0.mpr c0)]
    exact Or.inl ⟨rfl, rfl⟩
  have l0 := ds_lt hl c0 (by omega)
  rw [ds3n c0, if_neg (fun q => c0 (g0.mp q)), ← (hT.2 pt l0).1]
  by_cases c1 : DS t ln (pt + 1)
  · rw [ds3 c1, if_pos (g1.mpr c1)]
    exact Or.inr ⟨_, _, rfl, by rw [dig1], by omega, by omega⟩
  have l1 := ds_lt hl c1 (by omega)
  rw [ds3n c1, if_neg (fun q => c1 (g1.mp q)), ← (hT.2 (pt + 1) l1).1]
  by_cases c2 : DS t ln (pt + 1 + 1)
  · rw [ds3 c2, if_pos (g2.mpr c2)]
    exact Or.inr ⟨_, _, rfl, by rw [dig1, dig2], by omega, by omega⟩
  have l2 := ds_lt hl c2 (by omega)
  rw [ds3n c2, if_neg (fun q => c2 (g2.mp q)), ← (hT.2 (pt + 1 + 1) l2).1]
  exact Or.inr ⟨_, _, rfl, by rw [dig1, dig2, dig2], by omega, by omega⟩
theorem wrg1 (u : Nat → Int32) (ln p : Nat) : f_X7_numberd1 u 1 ln p = (0, p, 1) := by
  unfold f_X7_numberd1
  rw [if_neg (show ¬ (1 : Int32) = 0 by decide)]
theorem wrg2 (u : Nat → Int32) (ln p : Nat) : f_X7_numberd2 u 1 ln p = (0, p, 1) := by
  unfold f_X7_numberd2
  rw [if_neg (show ¬ (1 : Int32) = 0 by decide)]
theorem wrg3 (u : Nat → Int32) (ln p : Nat) : f_X7_numberd3 u 1 ln p = (0, p, 1) := by
  unfold f_X7_numberd3
  rw [if_neg (show ¬ (1 : Int32) = 0 by decide)]
theorem wrgc (u : Nat → Int32) (ln p : Nat) : f_X7_comma u 1 ln p = (p, 1) := by
  unfold f_X7_comma
  rw [if_neg (show ¬ (1 : Int32) = 0 by decide)]
/-- a sign that stands here, on both sides -/
theorem sign67 {ln : Nat} {t u : Nat → Int32} (hT : TX ln t u) {p : Nat} (hp : p < 1000) (c : Int32) (hc : ¬ (-1 : Int32) = c) : (f_X2_takeSign t c ln p = (0, p) ∧ ¬ f_X7_here u ln p = c) ∨ (f_X2_takeSign t c ln p = (1, p + 1) ∧ f_X7_here u ln p = c ∧ p < ln) := by
  have hl := hT.1
  unfold f_X2_takeSign f_X7_here
  by_cases a : nI ln ≤ nI p
  · rw [if_pos a, if_pos a]; exact Or.inl ⟨rfl, hc⟩
  rw [if_neg a, if_neg a]
  have hlt : p < ln := by
    rcases Nat.lt_or_ge p ln with q | q
    · exact q
    · exact absurd ((nI_leI (by omega) (by omega)).mpr q) a
  rw [← (hT.2 p hlt).1]
  by_cases b : t p = c
  · rw [if_pos b]; exact Or.inr ⟨rfl, b, hlt⟩
  · rw [if_neg b]; exact Or.inl ⟨rfl, b⟩
theorem comma67 {ln : Nat} {t u : Nat → Int32} (hT : TX ln t u) {p : Nat} (hp : p < 1000) : (f_X2_takeSign t 44 ln p = (0, p) ∧ f_X7_comma u 0 ln p = (p, 1)) ∨ (f_X2_takeSign t 44 ln p = (1, p + 1) ∧ f_X7_comma u 0 ln p = (p + 1, 0) ∧ p < ln) := by
  unfold f_X7_comma
  rw [if_pos (show (0 : Int32) = 0 from rfl)]
  rcases sign67 hT hp 44 (by decide) with ⟨a, b⟩ | ⟨a, b, c⟩
  · rw [if_neg b]; exact Or.inl ⟨a, rfl⟩
  · rw [if_pos b]; exact Or.inr ⟨a, rfl, c⟩
/-- a clause taken on both sides -/
def CLO (T : Int32 × (Nat → Int32) × (Nat → Int32) × Nat) (M : Nat × Int32 × Nat × (Nat → Int32) × (Nat → Int32) × (Nat → Int32) × (Nat → Int32)) (L N letters one two three : Nat → Int32) (k pt ln : Nat) : Prop :=
  (T.1 = 0 ∧ M.2.1 = 1 ∧ M.1 = T.2.2.2 ∧ T.2.2.2 ≤ ln) ∨
  ∃ c a b d N2 p, T = (1, upd L k c, N2, p) ∧ M = (p, 0, k + 1, upd letters k c, upd one k a, upd two k b, upd three k d) ∧ pt < p ∧ p ≤ ln ∧ (c = 99 ∨ c = 108 ∨ c = 110 ∨ c = 113 ∨ c = 114) ∧ N2 (k * 3) = a ∧ (c ≠ 108 → N2 (k * 3 + 1) = b) ∧ (c = 99 → N2 (k * 3 + 2) = d) ∧ ∀ q, q < k * 3 → N2 q = N q
theorem e01 : ((1 : Int32) = 0) = False := eq_false (by decide)
theorem clause67 {ln : Nat} {t u : Nat → Int32} (hT : TX ln t u) (L N letters one two three : Nat → Int32) {k pt : Nat} (hk : k < 12) (hp : pt ≤ ln) : CLO (f_X2_takeClause t L N ln pt k) (f_X7_clause u 0 letters one two three ln pt k) L N letters one two three k pt ln := by
  have hl := hT.1
  have hk12 : ¬ nI k = (12 : Int32) := fun q => by
    have := (nI_eq (a := k) (b := 12) (by omega) (by omega)).mp q
    omega
  unfold f_X2_takeClause f_X7_clause
  rw [if_neg hk12]
  by_cases a : nI ln ≤ nI pt
  · have hh : f_X7_here u ln pt = -1 := by unfold f_X7_here; rw [if_pos a]
    rw [if_pos a, hh, if_neg (by decide), if_neg (by decide), if_neg (by decide), if_neg (by decide), if_neg (by decide)]
    exact Or.inl ⟨rfl, rfl, rfl, hp⟩
  have hlt : pt < ln := by
    rcases Nat.lt_or_ge pt ln with q | q
    · exact q
    · exact absurd ((nI_leI (by omega) (by omega)).mpr q) a
  have hh : f_X7_here u ln pt = t pt := by unfold f_X7_here; rw [if_neg a, (hT.2 pt hlt).1]
  rw [if_neg a, hh]
  have A1 := num1 hT N (sl := k * 3) (pt := pt + 1) (by omega) (by omega)
  by_cases c1 : t pt = 99
  · rw [if_pos c1, if_pos c1]
    rcases A1 with ⟨a1, a2⟩ | ⟨v1, p1, a1, a2, a3, a4⟩
    · simp only [a1, a2, wrg2, wrgc, if_true]
      exact Or.inl ⟨rfl, rfl, rfl, by dsimp only; omega⟩
    simp only [a1, a2, e01, if_false]
    rcases num2 hT (upd N (k * 3) v1) (sl := k * 3 + 1) (pt := p1) (by omega) (by omega) with ⟨b1, b2⟩ | ⟨v2, p2, b1, b2, b3, b4⟩
    · simp only [b1, b2, wrg2, wrgc, if_true]
      exact Or.inl ⟨rfl, rfl, rfl, a4⟩
    simp only [b1, b2, e01, if_false]
    rcases comma67 hT (p := p2) (by omega) with ⟨d1, d2⟩ | ⟨d1, d2, d3⟩
    · simp only [d1, d2, wrg2, if_true]
      exact Or.inl ⟨rfl, rfl, rfl, b4⟩
    simp only [d1, d2, e01, if_false]
    rcases num2 hT (upd (upd N (k * 3) v1) (k * 3 + 1) v2) (sl := k * 3 + 2) (pt := p2 + 1) (by omega) (by omega) with ⟨f1, f2⟩ | ⟨v3, p3, f1, f2, f3, f4⟩
    · simp only [f1, f2, if_true]
      exact Or.inl ⟨rfl, rfl, rfl, by dsimp only; omega⟩
    simp only [f1, f2, e01, if_false]
    refine Or.inr ⟨t pt, v1, v2, v3, _, p3, rfl, rfl, by omega, f4, Or.inl c1, ?_, fun _ => ?_, fun _ => pk_us, fun q hq => ?_⟩
    · rw [pk_un (by omega), pk_un (by omega), pk_us]
    · rw [pk_un (by omega), pk_us]
    · rw [pk_un (by omega), pk_un (by omega), pk_un (by omega)]
  rw [if_neg c1, if_neg c1]
  have two1 : (t pt = 110 ∨ t pt = 114) → CLO (if (f_X2_takeNumberd1 t N ln (pt + 1) (k * 3)).1 = (0 : Int32) then ((0 : Int32), (upd L k (t pt), (f_X2_takeNumberd1 t N ln (pt + 1) (k * 3)).2.1, (f_X2_takeNumberd1 t N ln (pt + 1) (k * 3)).2.2)) else (if (f_X2_takeNumberd1 t (f_X2_takeNumberd1 t N ln (pt + 1) (k * 3)).2.1 ln (f_X2_takeNumberd1 t N ln (pt + 1) (k * 3)).2.2 ((k * 3) + 1)).1 = (0 : Int32) then ((0 : Int32), (upd L k (t pt), (f_X2_takeNumberd1 t (f_X2_takeNumberd1 t N ln (pt + 1) (k * 3)).2.1 ln (f_X2_takeNumberd1 t N ln (pt + 1) (k * 3)).2.2 ((k * 3) + 1)).2.1, (f_X2_takeNumberd1 t (f_X2_takeNumberd1 t N ln (pt + 1) (k * 3)).2.1 ln (f_X2_takeNumberd1 t N ln (pt + 1) (k * 3)).2.2 ((k * 3) + 1)).2.2)) else ((1 : Int32), (upd L k (t pt), (f_X2_takeNumberd1 t (f_X2_takeNumberd1 t N ln (pt + 1) (k * 3)).2.1 ln (f_X2_takeNumberd1 t N ln (pt + 1) (k * 3)).2.2 ((k * 3) + 1)).2.1, (f_X2_takeNumberd1 t (f_X2_takeNumberd1 t N ln (pt + 1) (k * 3)).2.1 ln (f_X2_takeNumberd1 t N ln (pt + 1) (k * 3)).2.2 ((k * 3) + 1)).2.2)))) ((f_X7_numberd1 u (f_X7_numberd1 u 0 ln (pt + 1)).2.2 ln (f_X7_numberd1 u 0 ln (pt + 1)).2.1).2.1, (f_X7_numberd1 u (f_X7_numberd1 u 0 ln (pt + 1)).2.2 ln (f_X7_numberd1 u 0 ln (pt + 1)).2.1).2.2, k + 1, upd letters k (t pt), upd one k (f_X7_numberd1 u 0 ln (pt + 1)).1, upd two k (f_X7_numberd1 u (f_X7_numberd1 u 0 ln (pt + 1)).2.2 ln (f_X7_numberd1 u 0 ln (pt + 1)).2.1).1, upd three k (0 : Int32)) L N letters one two three k pt ln := by
    intro hc
    rcases A1 with ⟨a1, a2⟩ | ⟨v1, p1, a1, a2, a3, a4⟩
    · simp only [a1, a2, wrg1, if_true]
      exact Or.inl ⟨rfl, rfl, rfl, by dsimp only; omega⟩
    simp only [a1, a2, e01, if_false]
    rcases num1 hT (upd N (k * 3) v1) (sl := k * 3 + 1) (pt := p1) (by omega) (by omega) with ⟨b1, b2⟩ | ⟨v2, p2, b1, b2, b3, b4⟩
    · simp only [b1, b2, if_true]
      exact Or.inl ⟨rfl, rfl, rfl, a4⟩
    simp only [b1, b2, e01, if_false]
    refine Or.inr ⟨t pt, v1, v2, 0, _, p2, rfl, rfl, by omega, b4, by rcases hc with q | q <;> simp only [q, true_or, or_true], ?_, fun _ => pk_us, fun q => absurd q c1, fun q hq => ?_⟩
    · rw [pk_un (by omega), pk_us]
    · rw [pk_un (by omega), pk_un (by omega)]
  by_cases c5 : t pt = 114
  · rw [if_neg (show ¬ t pt = 108 by rw [c5]; decide), if_neg (show ¬ t pt = 110 by rw [c5]; decide), if_neg (show ¬ t pt = 113 by rw [c5]; decide), if_pos c5, if_pos c5]
    exact two1 (Or.inr c5)
  rw [if_neg c5, if_neg c5]
  by_cases c3 : t pt = 110
  · rw [if_neg (show ¬ t pt = 108 by rw [c3]; decide), if_pos c3, if_pos c3]
    exact two1 (Or.inl c3)
  rw [if_neg c3, if_neg c3]
  by_cases c4 : t pt = 113
  · rw [if_neg (show ¬ t pt = 108 by rw [c4]; decide), if_pos c4, if_pos c4]
    rcases A1 with ⟨a1, a2⟩ | ⟨v1, p1, a1, a2, a3, a4⟩
    · simp only [a1, a2, wrg3, if_true]
      exact Or.inl ⟨rfl, rfl, rfl, by dsimp only; omega⟩
    simp only [a1, a2, e01, if_false]
    rcases num3 hT (upd N (k * 3) v1) (sl := k * 3 + 1) (pt := p1) (by omega) (by omega) with ⟨b1, b2⟩ | ⟨v2, p2, b1, b2, b3, b4⟩
    · simp only [b1, b2, if_true]
      exact Or.inl ⟨rfl, rfl, rfl, a4⟩
    simp only [b1, b2, e01, if_false]
    refine Or.inr ⟨t pt, v1, v2, 0, _, p2, rfl, rfl, by omega, b4, by simp only [c4, true_or, or_true], ?_, fun _ => pk_us, fun q => absurd q c1, fun q hq => ?_⟩
    · rw [pk_un (by omega), pk_us]
    · rw [pk_un (by omega), pk_un (by omega)]
  rw [if_neg c4, if_neg c4]
  by_cases c2 : t pt = 108
  · rw [if_pos c2, if_pos c2]
    rcases num3 hT N (sl := k * 3) (pt := pt + 1) (by omega) (by omega) with ⟨a1, a2⟩ | ⟨v1, p1, a1, a2, a3, a4⟩
    · simp only [a1, a2]
      exact Or.inl ⟨rfl, rfl, rfl, by dsimp only; omega⟩
    simp only [a1, a2]
    exact Or.inr ⟨t pt, v1, 0, 0, _, p1, rfl, rfl, by omega, a4, by simp only [c2, true_or, or_true], pk_us, fun q => absurd c2 q, fun q => absurd q c1, fun q hq => pk_un (by omega)⟩
  · rw [if_neg c2, if_neg c2]
    exact Or.inl ⟨rfl, rfl, rfl, hp⟩
