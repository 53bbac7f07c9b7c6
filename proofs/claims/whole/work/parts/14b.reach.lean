/-! who reaches whom: both ways of going through all come to the same -/
theorem b_1 : ∀ i, i < 32 → bt 1 i = decide (i = 0) := by decide +kernel
theorem and1_0 (x : Int32) : (x &&& 1) = 0 ↔ bt x 0 = false := by
  constructor
  · intro h
    have h2 : bt (x &&& 1) 0 = bt 0 0 := by rw [h]
    rw [b_and, b_1 0 (by decide), b_0] at h2
    simpa using h2
  · intro h
    refine b_ext (fun i hi => ?_)
    rw [b_and, b_1 i hi, b_0]
    by_cases e : i = 0
    · subst e; rw [h]; rfl
    · simp [e]
theorem and1_1 (x : Int32) : (x &&& 1) = 1 ↔ bt x 0 = true := by
  constructor
  · intro h
    have h2 : bt (x &&& 1) 0 = bt 1 0 := by rw [h]
    rw [b_and, b_1 0 (by decide)] at h2
    simpa using h2
  · intro h
    refine b_ext (fun i hi => ?_)
    rw [b_and, b_1 i hi]
    by_cases e : i = 0
    · subst e; rw [h]; rfl
    · simp [e]
theorem shr0 {b : Int32} {c : Nat} (hc : c < 32) : bt (b >>> (nI c &&& 31)) 0 = bt b c := by
  rw [b_sshr c hc b (by decide), Nat.add_zero, if_pos hc]
theorem has6_0 {b : Int32} {c : Nat} (hc : c < 32) : f_X6_has b (nI c) = 0 ↔ bt b c = false := by
  unfold f_X6_has
  rw [← shr0 hc, ← and1_0]
  by_cases h : ((b >>> (nI c &&& 31)) &&& (1 : Int32)) = 0
  · rw [if_pos h]; exact ⟨fun _ => h, fun _ => rfl⟩
  · rw [if_neg h]; exact ⟨fun q => absurd q (by decide), fun q => absurd q h⟩
theorem b_one {c i : Nat} (hc : c < 32) (hi : i < 32) : bt ((1 : Int32) <<< (nI c &&& 31)) i = decide (i = c) := by
  rw [b_shl c hc _ hi, b_1 (i - c) (by omega)]
  by_cases e : i = c
  · subst e; simp
  · simp only [e, decide_false, Bool.and_eq_false_iff, decide_eq_false_iff_not]
    omega
theorem bf {x : Bool} : ¬ x = false ↔ x = true := by cases x <;> decide
theorem bool_ext {x y : Bool} (h : x = true ↔ y = true) : x = y := Bool.eq_iff_iff.mpr h
theorem itr_inv {σ : Type} {b : Nat → σ → σ} {P : Nat → σ → Prop} {z : σ} (h0 : P 0 z) : ∀ {n : Nat}, (∀ k y, k < n → P k y → P (k + 1) (b k y)) → P n (itr b n z)
  | 0, _ => h0
  | n + 1, hs => hs n _ (Nat.lt_succ_self n) (itr_inv h0 (fun k y hk => hs k y (Nat.lt_succ_of_lt hk)))
theorem itr_grow {σ : Type} {b : Nat → σ → σ} {P : σ → σ → Prop} (hr : ∀ z, P z z) (ht : ∀ x y z, P x y → P y z → P x z) {n : Nat} (hb : ∀ k z, k < n → P z (b k z)) (z : σ) {m : Nat} : ∀ d, m + d ≤ n → P (itr b m z) (itr b (m + d) z)
  | 0, _ => hr _
  | d + 1, h => ht _ _ _ (itr_grow hr ht hb z d (by omega)) (hb (m + d) _ (by omega))
/-- the closure, row by row -/
theorem w_in {k : Nat} (hk : k < 32) {z : Nat → Int32} : ∀ (j : Nat), j ≤ 32 → ∀ c, itr (bd_X0_findReach_49 k) j z c = if c < j ∧ bt (z c) k = true then z c ||| z k else z c
  | 0, _, c => by rw [if_neg (fun q => absurd q.1 (Nat.not_lt_zero c))]; rfl
  | j + 1, hj, c => by
    have ih := w_in hk (z := z) j (by omega)
    rw [itr_succ]
    generalize itr (bd_X0_findReach_49 k) j z = y at ih ⊢
    have e1 : y j = z j := by rw [ih j, if_neg (fun q => absurd q.1 (Nat.lt_irrefl j))]
    have e2 : y k = z k := by
      rw [ih k]
      by_cases h : k < j ∧ bt (z k) k = true
      · rw [if_pos h]
        exact b_ext (fun i _ => by rw [b_or, Bool.or_self])
      · rw [if_neg h]
    unfold bd_X0_findReach_49
    by_cases h : f_X6_has (y j) (nI k) = 0
    · rw [if_pos h, ih c]
      have h2 := (has6_0 hk).mp h
      rw [e1] at h2
      by_cases e : c = j
      · subst e
        rw [if_neg (fun q => absurd q.1 (Nat.lt_irrefl c)), if_neg (fun q => by rw [h2] at q; cases q.2)]
      · by_cases g : c < j ∧ bt (z c) k = true
        · rw [if_pos g, if_pos ⟨by omega, g.2⟩]
        · rw [if_neg g, if_neg (fun q => g ⟨by omega, q.2⟩)]
    · rw [if_neg h]
      have h2 := bf.mp (fun q => h ((has6_0 hk).mpr q))
      rw [e1] at h2
      by_cases e : c = j
      · subst e
        rw [pk_us, e1, e2, if_pos ⟨by omega, h2⟩]
      · rw [pk_un e, ih c]
        by_cases g : c < j ∧ bt (z c) k = true
        · rw [if_pos g, if_pos ⟨by omega, g.2⟩]
        · rw [if_neg g, if_neg (fun q => g ⟨by omega, q.2⟩)]
theorem w_bit {n k c : Nat} (hn : n ≤ 6) (hk : k < n) (hc : c < n) (z : Nat → Int32) (i : Nat) : bt (itr (bd_X0_findReach_49 k) n z c) i = (bt (z c) i || (bt (z c) k && bt (z k) i)) := by
  rw [w_in (by omega) n (by omega)]
  by_cases h : bt (z c) k = true
  · rw [if_pos ⟨hc, h⟩, b_or, h, Bool.true_and]
  · rw [if_neg (fun q => h q.2)]
    have h2 : bt (z c) k = false := by cases hb : bt (z c) k <;> first | rfl | exact absurd hb h
    rw [h2, Bool.false_and, Bool.or_false]
def TRk (n k : Nat) (z : Nat → Int32) : Prop := ∀ c, c < n → ∀ j, j < k → bt (z c) j = true → ∀ i, bt (z j) i = true → bt (z c) i = true
theorem w_tr {n : Nat} (hn : n ≤ 6) (z0 : Nat → Int32) : TRk n n (itr (bd_X0_findReach_36 n) n z0) := by
  refine itr_inv (P := fun k z => TRk n k z) (fun c _ j hj => absurd hj (Nat.not_lt_zero j)) (fun k z hk ih => ?_)
  intro c hc j hj h i hi
  have hjn : j < n := by omega
  unfold bd_X0_findReach_36 at h hi ⊢
  rw [w_bit hn hk hc] at h ⊢
  rw [w_bit hn hk hjn] at hi
  have A := ih c hc j
  have B := ih k hk j
  rw [Bool.or_eq_true, Bool.and_eq_true] at h hi ⊢
  by_cases e : j = k
  · subst e
    have h1 : bt (z c) j = true := by rcases h with q | q <;> first | exact q | exact q.1
    rcases hi with q | q
    · exact Or.inr ⟨h1, q⟩
    · exact Or.inr ⟨h1, q.2⟩
  · have hj2 : j < k := by omega
    rcases h with h | h
    · rcases hi with q | q
      · exact Or.inl (A hj2 h i q)
      · exact Or.inr ⟨A hj2 h k q.1, q.2⟩
    · rcases hi with q | q
      · exact Or.inr ⟨h.1, B hj2 h.2 i q⟩
      · exact Or.inr ⟨h.1, q.2⟩
def GR (n : Nat) (x y : Nat → Int32) : Prop := ∀ c, c < n → ∀ i, bt (x c) i = true → bt (y c) i = true
theorem GR.rf {n : Nat} (x : Nat → Int32) : GR n x x := fun _ _ _ h => h
theorem GR.tr {n : Nat} (x y z : Nat → Int32) (h1 : GR n x y) (h2 : GR n y z) : GR n x z := fun c hc i h => h2 c hc i (h1 c hc i h)
theorem w_gr {n : Nat} (hn : n ≤ 6) (z0 : Nat → Int32) : GR n z0 (itr (bd_X0_findReach_36 n) n z0) := by
  have h := itr_grow (P := GR n) GR.rf GR.tr (b := bd_X0_findReach_36 n) (n := n) (fun k z hk c hc i h => by
    unfold bd_X0_findReach_36
    rw [w_bit hn hk hc, h, Bool.true_or]) z0 (m := 0) n (by omega)
  rw [Nat.zero_add] at h
  exact h
theorem copies_at {b : Nat → (Nat → Int32) → (Nat → Int32)} {f g : Nat → Int32} (hb : ∀ k z, b k z = upd z k (f k)) : ∀ (N k : Nat), itr b N g k = if k < N then f k else g k
  | 0, k => rfl
  | N + 1, k => by
    rw [itr_succ, hb]
    by_cases e : k = N
    · subst e; rw [pk_us, if_pos (by omega)]
    · rw [pk_un e, copies_at hb N k]
      by_cases h : k < N
      · rw [if_pos h, if_pos (by omega)]
      · rw [if_neg h, if_neg (by omega)]
