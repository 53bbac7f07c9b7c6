/-! a text read: all clauses; what they do: alike -/
/-- rows of clauses told alike -/
def RWS (m : Nat) (L N letters one two three : Nat → Int32) : Prop := ∀ k, k < m → L k = letters k ∧ (L k = 99 ∨ L k = 108 ∨ L k = 110 ∨ L k = 113 ∨ L k = 114) ∧ N (k * 3) = one k ∧ (L k ≠ 108 → N (k * 3 + 1) = two k) ∧ (L k = 99 → N (k * 3 + 2) = three k)
theorem RWS_step {m : Nat} {L N N2 letters one two three : Nat → Int32} {c a b d : Int32} (h : RWS m L N letters one two three) (hc : c = 99 ∨ c = 108 ∨ c = 110 ∨ c = 113 ∨ c = 114) (h1 : N2 (m * 3) = a) (h2 : c ≠ 108 → N2 (m * 3 + 1) = b) (h3 : c = 99 → N2 (m * 3 + 2) = d) (h4 : ∀ q, q < m * 3 → N2 q = N q) : RWS (m + 1) (upd L m c) N2 (upd letters m c) (upd one m a) (upd two m b) (upd three m d) := by
  intro k hk
  by_cases e : k = m
  · subst e
    rw [pk_us, pk_us, pk_us, pk_us, pk_us]
    exact ⟨rfl, hc, h1, h2, h3⟩
  · rw [pk_un e, pk_un e, pk_un e, pk_un e, pk_un e, h4 _ (by omega), h4 _ (by omega), h4 _ (by omega)]
    exact h k (by omega)
/-- what both have read -/
def RDS (ln : Nat) (r : Int32 × (Nat → Int32) × (Nat → Int32) × Nat × Nat) (M : Nat × Int32 × Nat × (Nat → Int32) × (Nat → Int32) × (Nat → Int32) × (Nat → Int32)) : Prop :=
  (r.1 = -5 ∧ M.2.1 = 0 ∧ M.1 = ln ∧ r.2.2.2.1 = M.2.2.1 ∧ M.2.2.1 ≤ 12 ∧ RWS M.2.2.1 r.2.1 r.2.2.1 M.2.2.2.1 M.2.2.2.2.1 M.2.2.2.2.2.1 M.2.2.2.2.2.2) ∨
  ∃ p, r.1 = nI p ∧ p ≤ ln ∧ M.1 = p ∧ (M.2.1 = 0 → p < ln)
theorem parse67 {ln : Nat} {t u : Nat → Int32} (hT : TX ln t u) (z0 : (Nat → Int32) × (Nat → Int32) × Nat × Nat) : ∀ (d k : Nat) (L N letters one two three : Nat → Int32) (pt fuel : Nat), k + d = 12 → k < 12 → itE (bd_X2_parse_12 t ln) k z0 = .inl (L, N, k, pt) → pt ≤ ln → RWS k L N letters one two three → d < fuel → ∃ r M, itE (bd_X2_parse_12 t ln) 12 z0 = .inr r ∧ wl (bd_X7_read_19 u ln) fuel (f_X7_clause u 0 letters one two three ln pt k) = some M ∧ RDS ln r M := by
  have hl := hT.1
  intro d
  induction d with
  | zero => intro k L N letters one two three pt fuel h1 h2; omega
  | succ d ih =>
    intro k L N letters one two three pt fuel hkd hk hz hpt hR hf
    obtain ⟨f2, rfl⟩ : ∃ f2, fuel = f2 + 1 := ⟨fuel - 1, by omega⟩
    have hC := clause67 hT L N letters one two three hk hpt
    have hb : ∀ x, bd_X2_parse_12 t ln k (L, N, k, pt) = x → bd_X2_parse_12 t ln k (L, N, k, pt) = x := fun _ h => h
    generalize hM : f_X7_clause u 0 letters one two three ln pt k = M at hC ⊢
    rcases hC with ⟨t1, m1, m2, t2⟩ | ⟨c, a, b, e, N2, p, t1, m1, h1, h2, h3, h4, h5, h6, h7⟩
    · have hbk : bd_X2_parse_12 t ln k (L, N, k, pt) = .inr (nI (f_X2_takeClause t L N ln pt k).2.2.2, ((f_X2_takeClause t L N ln pt k).2.1, (f_X2_takeClause t L N ln pt k).2.2.1, k, (f_X2_takeClause t L N ln pt k).2.2.2)) := by
        unfold bd_X2_parse_12
        dsimp only
        rw [if_pos t1]
      have hw : bd_X7_read_19 u ln M = .inr M := by
        unfold bd_X7_read_19
        rw [m1, if_neg (by decide)]
      exact ⟨_, M, itE_end hz hk hbk, wl_inr hw, Or.inr ⟨_, rfl, t2, m2, fun q => by rw [m1] at q; exact absurd q (by decide)⟩⟩
    · have R2 := RWS_step hR h3 h4 h5 h6 h7
      by_cases c1 : p = ln
      · have hbk : bd_X2_parse_12 t ln k (L, N, k, pt) = .inr ((-5 : Int32), (upd L k c, N2, k + 1, p)) := by
          unfold bd_X2_parse_12
          dsimp only
          rw [t1]
          dsimp only
          rw [if_neg (show ¬ (1 : Int32) = 0 by decide), if_pos (by rw [c1])]
        have hw : bd_X7_read_19 u ln M = .inr M := by
          unfold bd_X7_read_19
          rw [m1]
          dsimp only
          rw [if_pos rfl, if_neg]
          unfold f_X7_here
          rw [c1, if_pos (Int32.le_refl _)]
          decide
        refine ⟨_, M, itE_end hz hk hbk, wl_inr hw, Or.inl ?_⟩
        rw [m1]
        exact ⟨rfl, rfl, c1, rfl, by dsimp only; omega, R2⟩
      · have hpl : ¬ nI p = nI ln := fun q => c1 ((nI_eq (by omega) (by omega)).mp q)
        have stop : bd_X2_parse_12 t ln k (L, N, k, pt) = .inr (nI p, (upd L k c, N2, k + 1, p)) → bd_X7_read_19 u ln M = .inr M → ∃ r M2, itE (bd_X2_parse_12 t ln) 12 z0 = .inr r ∧ wl (bd_X7_read_19 u ln) (f2 + 1) M = some M2 ∧ RDS ln r M2 := fun hbk hw => by
          refine ⟨_, M, itE_end hz hk hbk, wl_inr hw, Or.inr ⟨p, rfl, h2, ?_, fun _ => by omega⟩⟩
          rw [m1]
        by_cases c2 : k + 1 = 12
        · refine stop ?_ ?_
          · unfold bd_X2_parse_12
            dsimp only
            rw [t1]
            dsimp only
            rw [if_neg (show ¬ (1 : Int32) = 0 by decide), if_neg hpl, if_pos (by rw [c2]; rfl)]
          · unfold bd_X7_read_19
            rw [m1]
            dsimp only
            rw [if_pos rfl, c2, if_pos (show (12 : Int32) ≤ nI 12 by decide)]
            split <;> rfl
        · have n12 : ¬ nI (k + 1) = (12 : Int32) := fun q => c2 ((nI_eq (a := k + 1) (b := 12) (by omega) (by omega)).mp q)
          have l12 : ¬ (12 : Int32) ≤ nI (k + 1) := fun q => by
            have := (nI_leI (a := 12) (b := k + 1) (by omega) (by omega)).mp q
            omega
          rcases sign67 hT (p := p) (by omega) 59 (by decide) with ⟨g1, g2⟩ | ⟨g1, g2, g3⟩
          · refine stop ?_ ?_
            · unfold bd_X2_parse_12
              dsimp only
              rw [t1]
              dsimp only
              rw [if_neg (show ¬ (1 : Int32) = 0 by decide), if_neg hpl, if_neg n12, g1, if_pos (show (0 : Int32) = 0 from rfl)]
            · unfold bd_X7_read_19
              rw [m1]
              dsimp only
              rw [if_pos rfl, if_neg g2]
          · have hbk : bd_X2_parse_12 t ln k (L, N, k, pt) = .inl (upd L k c, N2, k + 1, p + 1) := by
              unfold bd_X2_parse_12
              dsimp only
              rw [t1]
              dsimp only
              rw [if_neg (show ¬ (1 : Int32) = 0 by decide), if_neg hpl, if_neg n12, g1, if_neg (show ¬ (1 : Int32) = 0 by decide)]
            have hw : bd_X7_read_19 u ln M = .inl (f_X7_clause u 0 (upd letters k c) (upd one k a) (upd two k b) (upd three k e) ln (p + 1) (k + 1)) := by
              unfold bd_X7_read_19
              rw [m1]
              dsimp only
              rw [if_pos rfl, if_pos g2, if_neg l12]
            rw [wl_inl hw]
            exact ih (k + 1) _ _ _ _ _ _ (p + 1) f2 (by omega) (by omega) ((itE_go hz).trans hbk) (by omega) R2 (by omega)
