/-! who reaches whom: both ways of going through all come to the same -/
theorem b_1 : ∀ i, i < 32 → bt 1 i = decide (i = 0) := by decide +kernel
theorem and1_0 (x : Int32) : (x &&& 1) = 0 ↔ bt x 0 = false := by
  constructor
  · intro h
    have h2 : bt (x &&& 1) 0 = bt 0 0 := by rw [h]
    rw [b_and, b_1 0 (by decide), b_0] at h2
    simpa using h2
  · intro h
    refine b_ext (fun i hi => ?_)
    rw [b_and, b_1 i hi, b_0]
    by_cases e : i = 0
    · subst e; rw [h]; rfl
    · simp [e]
theorem and1_1 (x : Int32) : (x &&& 1) = 1 ↔ bt x 0 = true := by
  constructor
  · intro h
    have h2 : bt (x &&& 1) 0 = bt 1 0 := by rw [h]
    rw [b_and, b_1 0 (by decide)] at h2
    simpa using h2
  · intro h
    refine b_ext (fun i hi => ?_)
    rw [b_and, b_1 i hi]
    by_cases e : i = 0
    · subst e; rw [h]; rfl
    · simp [e]
theorem shr0 {b : Int32} {c : Nat} (hc : c < 32) : bt (b >>> (nI c &&& 31)) 0 = bt b c := by
  rw [b_sshr c hc b (by decide), Nat.add_zero, if_pos hc]
theorem has6_0 {b : Int32} {c : Nat} (hc : c < 32) : f_X6_has b (nI c) = 0 ↔ bt b c = false := by
  unfold f_X6_has
  rw [← shr0 hc, ← and1_0]
  by_cases h : ((b >>> (nI c &&& 31)) &&& (1 : Int32)) = 0
  · rw [if_pos h]; exact ⟨fun _ => h, fun _ => rfl⟩
  · rw [if_neg h]; exact ⟨fun q => absurd q (by decide), fun q => absurd q h⟩
theorem has7_0 {b : Int32} {c : Nat} (hc : c < 32) : f_X7_has b (nI c) = 0 ↔ bt b c = false := by
  unfold f_X7_has
  by_cases h : ((b >>> (nI c &&& 31)) &&& (1 : Int32)) = 1
  · rw [if_pos h]
    have h2 := (and1_1 _).mp h
    rw [shr0 hc] at h2
    rw [h2]
    exact ⟨fun q => absurd q (by decide), fun q => by cases q⟩
  · rw [if_neg h]
    refine ⟨fun _ => ?_, fun _ => rfl⟩
    cases hb : bt b c
    · rfl
    · exact absurd ((and1_1 _).mpr (by rw [shr0 hc]; exact hb)) h
theorem has76 {b : Int32} {c : Nat} (hc : c < 32) : f_X7_has b (nI c) = f_X6_has b (nI c) := by
  cases h : bt b c
  · rw [(has6_0 hc).mpr h, (has7_0 hc).mpr h]
  · have e : ((b >>> (nI c &&& 31)) &&& (1 : Int32)) = 1 := (and1_1 _).mpr (by rw [shr0 hc]; exact h)
    unfold f_X6_has f_X7_has
    rw [if_pos e, if_neg (by rw [e]; decide)]
theorem b_one {c i : Nat} (hc : c < 32) (hi : i < 32) : bt ((1 : Int32) <<< (nI c &&& 31)) i = decide (i = c) := by
  rw [b_shl c hc _ hi, b_1 (i - c) (by omega)]
  by_cases e : i = c
  · subst e; simp
  · simp only [e, decide_false, Bool.and_eq_false_iff, decide_eq_false_iff_not]
    omega
theorem bf {x : Bool} : ¬ x = false ↔ x = true := by cases x <;> decide
theorem bool_ext {x y : Bool} (h : x = true ↔ y = true) : x = y := Bool.eq_iff_iff.mpr h
theorem itr_inv {σ : Type} {b : Nat → σ → σ} {P : Nat → σ → Prop} {z : σ} (h0 : P 0 z) : ∀ {n : Nat}, (∀ k y, k < n → P k y → P (k + 1) (b k y)) → P n (itr b n z)
  | 0, _ => h0
  | n + 1, hs => hs n _ (Nat.lt_succ_self n) (itr_inv h0 (fun k y hk => hs k y (Nat.lt_succ_of_lt hk)))
theorem itr_grow {σ : Type} {b : Nat → σ → σ} {P : σ → σ → Prop} (hr : ∀ z, P z z) (ht : ∀ x y z, P x y → P y z → P x z) {n : Nat} (hb : ∀ k z, k < n → P z (b k z)) (z : σ) {m : Nat} : ∀ d, m + d ≤ n → P (itr b m z) (itr b (m + d) z)
  | 0, _ => hr _
  | d + 1, h => ht _ _ _ (itr_grow hr ht hb z d (by omega)) (hb (m + d) _ (by omega))
/-- the closure, row by row -/
theorem w_in {k : Nat} (hk : k < 32) {z : Nat → Int32} : ∀ (j : Nat), j ≤ 32 → ∀ c, itr (bd_X0_findReach_49 k) j z c = if c < j ∧ bt (z c) k = true then z c ||| z k else z c
  | 0, _, c => by rw [if_neg (fun q => absurd q.1 (Nat.not_lt_zero c))]; rfl
  | j + 1, hj, c => by
    have ih := w_in hk (z := z) j (by omega)
    rw [itr_succ]
    generalize itr (bd_X0_findReach_49 k) j z = y at ih ⊢
    have e1 : y j = z j := by rw [ih j, if_neg (fun q => absurd q.1 (Nat.lt_irrefl j))]
    have e2 : y k = z k := by
      rw [ih k]
      by_cases h : k < j ∧ bt (z k) k = true
      · rw [if_pos h]
        exact b_ext (fun i _ => by rw [b_or, Bool.or_self])
      · rw [if_neg h]
    unfold bd_X0_findReach_49
    by_cases h : f_X6_has (y j) (nI k) = 0
    · rw [if_pos h, ih c]
      have h2 := (has6_0 hk).mp h
      rw [e1] at h2
      by_cases e : c = j
      · subst e
        rw [if_neg (fun q => absurd q.1 (Nat.lt_irrefl c)), if_neg (fun q => by rw [h2] at q; cases q.2)]
      · by_cases g : c < j ∧ bt (z c) k = true
        · rw [if_pos g, if_pos ⟨by omega, g.2⟩]
        · rw [if_neg g, if_neg (fun q => g ⟨by omega, q.2⟩)]
    · rw [if_neg h]
      have h2 := bf.mp (fun q => h ((has6_0 hk).mpr q))
      rw [e1] at h2
      by_cases e : c = j
      · subst e
        rw [pk_us, e1, e2, if_pos ⟨by omega, h2⟩]
      · rw [pk_un e, ih c]
        by_cases g : c < j ∧ bt (z c) k = true
        · rw [if_pos g, if_pos ⟨by omega, g.2⟩]
        · rw [if_neg g, if_neg (fun q => g ⟨by omega, q.2⟩)]
theorem w_bit {n k c : Nat} (hn : n ≤ 6) (hk : k < n) (hc : c < n) (z : Nat → Int32) (i : Nat) : bt (itr (bd_X0_findReach_49 k) n z c) i = (bt (z c) i || (bt (z c) k && bt (z k) i)) := by
  rw [w_in (by omega) n (by omega)]
  by_cases h : bt (z c) k = true
  · rw [if_pos ⟨hc, h⟩, b_or, h, Bool.true_and]
  · rw [if_neg (fun q => h q.2)]
    have h2 : bt (z c) k = false := by cases hb : bt (z c) k <;> first | rfl | exact absurd hb h
    rw [h2, Bool.false_and, Bool.or_false]
def TRk (n k : Nat) (z : Nat → Int32) : Prop := ∀ c, c < n → ∀ j, j < k → bt (z c) j = true → ∀ i, bt (z j) i = true → bt (z c) i = true
theorem w_tr {n : Nat} (hn : n ≤ 6) (z0 : Nat → Int32) : TRk n n (itr (bd_X0_findReach_36 n) n z0) := by
  refine itr_inv (P := fun k z => TRk n k z) (fun c _ j hj => absurd hj (Nat.not_lt_zero j)) (fun k z hk ih => ?_)
  intro c hc j hj h i hi
  have hjn : j < n := by omega
  unfold bd_X0_findReach_36 at h hi ⊢
  rw [w_bit hn hk hc] at h ⊢
  rw [w_bit hn hk hjn] at hi
  have A := ih c hc j
  have B := ih k hk j
  rw [Bool.or_eq_true, Bool.and_eq_true] at h hi ⊢
  by_cases e : j = k
  · subst e
    have h1 : bt (z c) j = true := by rcases h with q | q <;> first | exact q | exact q.1
    rcases hi with q | q
    · exact Or.inr ⟨h1, q⟩
    · exact Or.inr ⟨h1, q.2⟩
  · have hj2 : j < k := by omega
    rcases h with h | h
    · rcases hi with q | q
      · exact Or.inl (A hj2 h i q)
      · exact Or.inr ⟨A hj2 h k q.1, q.2⟩
    · rcases hi with q | q
      · exact Or.inr ⟨h.1, B hj2 h.2 i q⟩
      · exact Or.inr ⟨h.1, q.2⟩
def GR (n : Nat) (x y : Nat → Int32) : Prop := ∀ c, c < n → ∀ i, bt (x c) i = true → bt (y c) i = true
theorem GR.rf {n : Nat} (x : Nat → Int32) : GR n x x := fun _ _ _ h => h
theorem GR.tr {n : Nat} (x y z : Nat → Int32) (h1 : GR n x y) (h2 : GR n y z) : GR n x z := fun c hc i h => h2 c hc i (h1 c hc i h)
theorem w_gr {n : Nat} (hn : n ≤ 6) (z0 : Nat → Int32) : GR n z0 (itr (bd_X0_findReach_36 n) n z0) := by
  have h := itr_grow (P := GR n) GR.rf GR.tr (b := bd_X0_findReach_36 n) (n := n) (fun k z hk c hc i h => by
    unfold bd_X0_findReach_36
    rw [w_bit hn hk hc, h, Bool.true_or]) z0 (m := 0) n (by omega)
  rw [Nat.zero_add] at h
  exact h
/-- the reference's way: a row takes what the rows in it have, over and over -/
theorem m_bit {c d : Nat} (hd : d < 32) (z : Nat → Int32) (x i : Nat) : bt (bd_X7_reach_55 c d z x) i = if x = c then (bt (z c) i || (bt (z c) d && bt (z d) i)) else bt (z x) i := by
  unfold bd_X7_reach_55
  by_cases h : f_X7_has (z c) (nI d) = 0
  · rw [if_pos h]
    have h2 := (has7_0 hd).mp h
    by_cases e : x = c
    · subst e
      rw [pk_us, if_pos rfl, b_or, b_0, h2, Bool.false_and]
    · rw [pk_un e, if_neg e]
  · rw [if_neg h]
    have h2 := bf.mp (fun q => h ((has7_0 hd).mpr q))
    by_cases e : x = c
    · subst e
      rw [pk_us, if_pos rfl, b_or, h2, Bool.true_and]
    · rw [pk_un e, if_neg e]
theorem m_gr1 {n c d : Nat} (hd : d < 32) (z : Nat → Int32) : GR n z (bd_X7_reach_55 c d z) := by
  intro x hx i h
  rw [m_bit hd]
  by_cases e : x = c
  · subst e; rw [if_pos rfl, h, Bool.true_or]
  · rw [if_neg e]; exact h
theorem m_gr2 {n c : Nat} (hn : n ≤ 6) (z : Nat → Int32) {a : Nat} : ∀ d, a + d ≤ n → GR n (itr (bd_X7_reach_55 c) a z) (itr (bd_X7_reach_55 c) (a + d) z) := fun d h => itr_grow (P := GR n) GR.rf GR.tr (n := n) (fun k y hk => m_gr1 (by omega) y) z d h
theorem m_gr2' {n c : Nat} (hn : n ≤ 6) (z : Nat → Int32) : GR n z (itr (bd_X7_reach_55 c) n z) := by
  have h := m_gr2 (c := c) hn z (a := 0) n (by omega)
  rw [Nat.zero_add] at h
  exact h
theorem m_gr3 {n : Nat} (hn : n ≤ 6) (z : Nat → Int32) {a : Nat} : ∀ d, a + d ≤ n → GR n (itr (bd_X7_reach_43 n) a z) (itr (bd_X7_reach_43 n) (a + d) z) := fun d h => itr_grow (P := GR n) GR.rf GR.tr (n := n) (fun k y hk => m_gr2' hn y) z d h
theorem m_gr3' {n : Nat} (hn : n ≤ 6) (z : Nat → Int32) : GR n z (itr (bd_X7_reach_43 n) n z) := by
  have h := m_gr3 hn z (a := 0) n (by omega)
  rw [Nat.zero_add] at h
  exact h
/-- it never goes beyond what is closed -/
theorem m_sd {n : Nat} (hn : n ≤ 6) {T : Nat → Int32} (hT : TRk n n T) {z : Nat → Int32} (h0 : GR n z T) : ∀ m, GR n (itr (bd_X7_reach_35 n) m z) T := by
  intro m
  refine itr_inv (P := fun _ y => GR n y T) h0 (fun t y _ ih => ?_)
  refine itr_inv (P := fun _ y => GR n y T) ih (fun c y hc ih => ?_)
  refine itr_inv (P := fun _ y => GR n y T) ih (fun d y hd ih => ?_)
  intro x hx i h
  rw [m_bit (by omega)] at h
  by_cases e : x = c
  · subst e
    rw [if_pos rfl, Bool.or_eq_true, Bool.and_eq_true] at h
    rcases h with h | h
    · exact ih x hx i h
    · exact hT x hx d hd (ih x hx d h.1) i (ih d hd i h.2)
  · rw [if_neg e] at h
    exact ih x hx i h
/-- a round of it does as much as one step of the other -/
theorem m_step {n t : Nat} (hn : n ≤ 6) (ht : t < n) {w z : Nat → Int32} (h : GR n w z) : GR n (bd_X0_findReach_36 n t w) (bd_X7_reach_35 n t z) := by
  intro c hc i hi
  unfold bd_X0_findReach_36 at hi
  rw [w_bit hn ht hc, Bool.or_eq_true, Bool.and_eq_true] at hi
  unfold bd_X7_reach_35
  have g1 := m_gr3 hn z (a := 0) c (by omega)
  rw [Nat.zero_add] at g1
  have g2 := m_gr3 hn z (a := c + 1) (n - (c + 1)) (by omega)
  rw [show c + 1 + (n - (c + 1)) = n by omega, itr_succ] at g2
  refine g2 c hc i ?_
  have g1 : GR n z (itr (bd_X7_reach_43 n) c z) := g1
  generalize itr (bd_X7_reach_43 n) c z = z1 at g1
  unfold bd_X7_reach_43
  have g3 := m_gr2 (c := c) hn z1 (a := 0) t (by omega)
  rw [Nat.zero_add] at g3
  have g4 := m_gr2 (c := c) hn z1 (a := t + 1) (n - (t + 1)) (by omega)
  rw [show t + 1 + (n - (t + 1)) = n by omega, itr_succ] at g4
  refine g4 c hc i ?_
  have g3 : GR n z1 (itr (bd_X7_reach_55 c) t z1) := g3
  generalize itr (bd_X7_reach_55 c) t z1 = z2 at g3
  rw [m_bit (by omega), if_pos rfl, Bool.or_eq_true, Bool.and_eq_true]
  have up : ∀ a, a < n → ∀ j, bt (w a) j = true → bt (z2 a) j = true := fun a ha j q => g3 a ha j (g1 a ha j (h a ha j q))
  rcases hi with q | q
  · exact Or.inl (up c hc i q)
  · exact Or.inr ⟨up c hc t q.1, up t ht i q.2⟩
theorem m_cp {n : Nat} (hn : n ≤ 6) {w z : Nat → Int32} (h : GR n w z) : ∀ k, k ≤ n → GR n (itr (bd_X0_findReach_36 n) k w) (itr (bd_X7_reach_35 n) k z)
  | 0, _ => h
  | k + 1, hk => m_step hn (by omega) (m_cp hn h k (by omega))
theorem m_gr4 {n : Nat} (hn : n ≤ 6) (z : Nat → Int32) {a : Nat} : ∀ d, a + d ≤ 6 → GR n (itr (bd_X7_reach_35 n) a z) (itr (bd_X7_reach_35 n) (a + d) z) := fun d h => itr_grow (P := GR n) GR.rf GR.tr (n := 6) (fun k y hk => m_gr3' hn y) z d h
theorem reach_rows {n : Nat} (hn : n ≤ 6) {w z : Nat → Int32} (h : ∀ c, c < n → z c = w c) : ∀ c, c < n → itr (bd_X7_reach_35 n) 6 z c = itr (bd_X0_findReach_36 n) n w c := by
  intro c hc
  have e1 : GR n z w := fun a ha i q => by rw [← h a ha]; exact q
  have e2 : GR n w z := fun a ha i q => by rw [h a ha]; exact q
  have up := (m_sd hn (w_tr hn w) (GR.tr _ _ _ e1 (w_gr hn w)) 6) c hc
  have lo := m_cp hn e2 n (Nat.le_refl n) c hc
  have mo := m_gr4 hn z (a := n) (6 - n) (by omega) c hc
  rw [show n + (6 - n) = 6 by omega] at mo
  exact b_ext (fun i _ => bool_ext ⟨up i, fun q => mo i (lo i q)⟩)
