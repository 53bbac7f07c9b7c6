/-! why one pays less: alike -/
theorem srch_shift {α : Type} {b : Nat → Option α} : ∀ d k, srch (fun j => b (j + 1)) d k = srch b d (k + 1)
  | 0, _ => rfl
  | d + 1, k => by
    unfold srch
    rw [srch_shift d (k + 1)]
theorem srch_skip {α : Type} {b : Nat → Option α} {d k : Nat} (h : b k = none) : srch b (d + 1) k = srch b d (k + 1) := by
  conv => lhs; unfold srch
  rw [h]
theorem rev_last {g : Nat → Option Int32} {z : Int32} : ∀ N, itr (fun k y => (g k).getD y) N z = (srch (fun k => g (N - 1 - k)) N 0).getD z
  | 0 => rfl
  | N + 1 => by
    rw [itr_succ, rev_last N]
    have e1 : srch (fun k => g (N + 1 - 1 - k)) N (0 + 1) = srch (fun k => g (N - 1 - k)) N 0 := by
      rw [← srch_shift]
      exact srch_cong N 0 (fun j _ hj => by
        show g (N + 1 - 1 - (j + 1)) = g (N - 1 - j)
        congr 1
        omega)
    show (g N).getD _ = _
    cases e : g N with
    | some r =>
      rw [srch_some (b := fun k => g (N + 1 - 1 - k)) (t := 0) (r := r) (fun j hj => absurd hj (Nat.not_lt_zero j)) (by omega) (by
        show g (N + 1 - 1 - 0) = some r
        rw [show N + 1 - 1 - 0 = N by omega]; exact e)]
      rfl
    | none =>
      rw [srch_skip (b := fun k => g (N + 1 - 1 - k)) (d := N) (k := 0) (by
        show g (N + 1 - 1 - 0) = none
        rw [show N + 1 - 1 - 0 = N by omega]; exact e), e1]
      rfl
/-- a payer in ring k, by its place -/
def gP (bits P : Nat → Int32) (k c : Nat) : Option Int32 := if f_X6_has (bits k) (nI c) = 0 then none else if P c ≤ 0 then none else some (nI c)
theorem last67 {n j : Nat} (hn : n ≤ 6) {bits rings P6 P7 : Nat → Int32} (hb : ∀ k, k < j → bits k = rings k) (hp : ∀ c, c < n → P6 c = P7 c) : f_X7_lastAhead rings P7 n j = (srch (bd_X0_lastPayerAhead_4 P6 bits n j) j 0).getD (-1) := by
  have i1 : ∀ k, k < j → ∀ z, bd_X7_lastAhead_4 rings P7 n k z = (srch (fun c => gP bits P6 k (n - 1 - c)) n 0).getD z := by
    intro k hk z
    unfold bd_X7_lastAhead_4
    rw [← rev_last (g := gP bits P6 k)]
    refine itr_eq (fun c hc y => ?_)
    unfold bd_X7_lastAhead_12 gP
    rw [hb k hk, hp c hc]
    by_cases q : bt (rings k) c = false
    · rw [if_pos ((has7_0 (by omega)).mpr q), if_pos ((has6_0 (by omega)).mpr q)]
      rfl
    · rw [if_neg (fun w => q ((has7_0 (by omega)).mp w)), if_neg (fun w => q ((has6_0 (by omega)).mp w))]
      by_cases q2 : P7 c ≤ 0
      · rw [if_pos q2, if_pos q2]; rfl
      · rw [if_neg q2, if_neg q2]; rfl
  unfold f_X7_lastAhead
  rw [itr_eq (b' := fun k y => (srch (fun c => gP bits P6 k (n - 1 - c)) n 0).getD y) (fun k hk y => i1 k hk y), rev_last (g := fun k => srch (fun c => gP bits P6 k (n - 1 - c)) n 0)]
  congr 1
  refine srch_cong j 0 (fun k _ hk => ?_)
  unfold bd_X0_lastPayerAhead_4
  show _ = (srch _ n 0).or none
  rw [Option.or_none]
  exact srch_cong n 0 (fun c _ _ => rfl)
theorem bec_at (w : Nat → Int32) (a b d : Int32) : f_X7_because w a b d 0 = a ∧ f_X7_because w a b d 1 = b ∧ f_X7_because w a b d 2 = d := by
  unfold f_X7_because
  refine ⟨?_, ?_, pk_us⟩
  · rw [pk_un (by omega), pk_un (by omega), pk_us]
  · rw [pk_un (by omega), pk_us]
/-- who stands last among the payers ahead -/
theorem last_ex {n j : Nat} (hn : n ≤ 6) {bits P : Nat → Int32} {pd : Nat → Nat} (hp : ∀ c, c < n → P c = nI (pd c) ∧ pd c ≤ 99) (h : ∃ i c, i < j ∧ c < n ∧ bt (bits i) c = true ∧ 0 < pd c) : ∃ d, d < n ∧ srch (bd_X0_lastPayerAhead_4 P bits n j) j 0 = some (nI d) := by
  have inner : ∀ k, (∃ c, c < n ∧ bt (bits (j - 1 - k)) c = true ∧ 0 < pd c) → ∃ x, bd_X0_lastPayerAhead_4 P bits n j k = some x ∧ ∃ d, d < n ∧ x = nI d := by
    intro k ⟨c, c1, c2, c3⟩
    unfold bd_X0_lastPayerAhead_4
    rw [Option.or_none]
    refine srch_ex' n 0 (fun i _ hi => ?_) ⟨n - 1 - c, by omega, by omega, ?_⟩
    · unfold bd_X0_lastPayerAhead_18
      split
      · exact Or.inl rfl
      · split
        · exact Or.inl rfl
        · exact Or.inr ⟨_, rfl, n - 1 - i, by omega, rfl⟩
    · unfold bd_X0_lastPayerAhead_18
      rw [show n - 1 - (n - 1 - c) = c by omega, if_neg (fun q => by
        have := (has6_0 (b := bits (j - 1 - k)) (c := c) (by omega)).mp q
        rw [c2] at this; cases this), if_neg (fun q => by
        rw [(hp c c1).1] at q
        have := (nI_leI (a := pd c) (b := 0) (by have := (hp c c1).2; omega) (by omega)).mp q
        omega)]
      exact fun q => by cases q
  obtain ⟨i, c, i1, i2, i3, i4⟩ := h
  have all : ∀ k, k < j → bd_X0_lastPayerAhead_4 P bits n j k = none ∨ ∃ x, bd_X0_lastPayerAhead_4 P bits n j k = some x ∧ ∃ d, d < n ∧ x = nI d := by
    intro k _
    unfold bd_X0_lastPayerAhead_4
    rw [Option.or_none]
    cases e : srch (bd_X0_lastPayerAhead_18 P bits n j k) n 0 with
    | none => exact Or.inl rfl
    | some x =>
      refine Or.inr ⟨x, rfl, ?_⟩
      by_cases w : ∃ t, 0 ≤ t ∧ t < 0 + n ∧ bd_X0_lastPayerAhead_18 P bits n j k t ≠ none
      · obtain ⟨y, y1, y2⟩ := srch_ex' (P := fun x => ∃ d, d < n ∧ x = nI d) (b := bd_X0_lastPayerAhead_18 P bits n j k) n 0 (fun t _ ht => by
          unfold bd_X0_lastPayerAhead_18
          split
          · exact Or.inl rfl
          · split
            · exact Or.inl rfl
            · exact Or.inr ⟨_, rfl, n - 1 - t, by omega, rfl⟩) w
        rw [y1] at e
        cases e
        exact y2
      · rw [srch_none (fun t ht => by
          cases q : bd_X0_lastPayerAhead_18 P bits n j k t with
          | none => rfl
          | some v => exact absurd ⟨t, Nat.zero_le t, by omega, by rw [q]; exact fun z => by cases z⟩ w)] at e
        cases e
  obtain ⟨x, x1, d, x2, x3⟩ := srch_ex' (P := fun x => ∃ d, d < n ∧ x = nI d) (b := bd_X0_lastPayerAhead_4 P bits n j) j 0 (fun k _ hk => all k (by omega)) ⟨j - 1 - i, by omega, by omega, by
    obtain ⟨x, x1, -⟩ := inner (j - 1 - i) ⟨c, i2, by rw [show j - 1 - (j - 1 - i) = i by omega]; exact i3, i4⟩
    rw [x1]
    exact fun z => by cases z⟩
  exact ⟨d, x2, by rw [x1, x3]⟩
/-- nobody ahead pays -/
theorem last_no {n j : Nat} (hn : n ≤ 6) {bits P : Nat → Int32} (hp : ∀ c, c < n → P c = nI 0) : srch (bd_X0_lastPayerAhead_4 P bits n j) j 0 = none := by
  refine srch_none (fun k hk => ?_)
  unfold bd_X0_lastPayerAhead_4
  rw [Option.or_none]
  refine srch_none (fun c hc => ?_)
  unfold bd_X0_lastPayerAhead_18
  split
  · rfl
  · rw [hp (n - 1 - c) (by omega), if_pos (show nI 0 ≤ (0 : Int32) by decide)]
