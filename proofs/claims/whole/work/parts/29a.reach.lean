/-! the reference's way of finding who reaches whom -/
theorem has7_0 {b : Int32} {c : Nat} (hc : c < 32) : f_X7_has b (nI c) = 0 ↔ bt b c = false := by
  unfold f_X7_has
  by_cases h : ((b >>> (nI c &&& 31)) &&& (1 : Int32)) = 1
  · rw [if_pos h]
    have h2 := (and1_1 _).mp h
    rw [shr0 hc] at h2
    rw [h2]
    exact ⟨fun q => absurd q (by decide), fun q => by cases q⟩
  · rw [if_neg h]
    refine ⟨fun _ => ?_, fun _ => rfl⟩
    cases hb : bt b c
    · rfl
    · exact absurd ((and1_1 _).mpr (by rw [shr0 hc]; exact hb)) h
theorem has76 {b : Int32} {c : Nat} (hc : c < 32) : f_X7_has b (nI c) = f_X6_has b (nI c) := by
  cases h : bt b c
  · rw [(has6_0 hc).mpr h, (has7_0 hc).mpr h]
  · have e : ((b >>> (nI c &&& 31)) &&& (1 : Int32)) = 1 := (and1_1 _).mpr (by rw [shr0 hc]; exact h)
    unfold f_X6_has f_X7_has
    rw [if_pos e, if_neg (by rw [e]; decide)]
/-- the reference's way: a row takes what the rows in it have, over and over -/
theorem m_bit {c d : Nat} (hd : d < 32) (z : Nat → Int32) (x i : Nat) : bt (bd_X7_reach_55 c d z x) i = if x = c then (bt (z c) i || (bt (z c) d && bt (z d) i)) else bt (z x) i := by
  unfold bd_X7_reach_55
  by_cases h : f_X7_has (z c) (nI d) = 0
  · rw [if_pos h]
    have h2 := (has7_0 hd).mp h
    by_cases e : x = c
    · subst e
      rw [pk_us, if_pos rfl, b_or, b_0, h2, Bool.false_and]
    · rw [pk_un e, if_neg e]
  · rw [if_neg h]
    have h2 := bf.mp (fun q => h ((has7_0 hd).mpr q))
    by_cases e : x = c
    · subst e
      rw [pk_us, if_pos rfl, b_or, h2, Bool.true_and]
    · rw [pk_un e, if_neg e]
theorem m_gr1 {n c d : Nat} (hd : d < 32) (z : Nat → Int32) : GR n z (bd_X7_reach_55 c d z) := by
  intro x hx i h
  rw [m_bit hd]
  by_cases e : x = c
  · subst e; rw [if_pos rfl, h, Bool.true_or]
  · rw [if_neg e]; exact h
theorem m_gr2 {n c : Nat} (hn : n ≤ 6) (z : Nat → Int32) {a : Nat} : ∀ d, a + d ≤ n → GR n (itr (bd_X7_reach_55 c) a z) (itr (bd_X7_reach_55 c) (a + d) z) := fun d h => itr_grow (P := GR n) GR.rf GR.tr (n := n) (fun k y hk => m_gr1 (by omega) y) z d h
theorem m_gr2' {n c : Nat} (hn : n ≤ 6) (z : Nat → Int32) : GR n z (itr (bd_X7_reach_55 c) n z) := by
  have h := m_gr2 (c := c) hn z (a := 0) n (by omega)
  rw [Nat.zero_add] at h
  exact h
theorem m_gr3 {n : Nat} (hn : n ≤ 6) (z : Nat → Int32) {a : Nat} : ∀ d, a + d ≤ n → GR n (itr (bd_X7_reach_43 n) a z) (itr (bd_X7_reach_43 n) (a + d) z) := fun d h => itr_grow (P := GR n) GR.rf GR.tr (n := n) (fun k y hk => m_gr2' hn y) z d h
theorem m_gr3' {n : Nat} (hn : n ≤ 6) (z : Nat → Int32) : GR n z (itr (bd_X7_reach_43 n) n z) := by
  have h := m_gr3 hn z (a := 0) n (by omega)
  rw [Nat.zero_add] at h
  exact h
/-- it never goes beyond what is closed -/
theorem m_sd {n : Nat} (hn : n ≤ 6) {T : Nat → Int32} (hT : TRk n n T) {z : Nat → Int32} (h0 : GR n z T) : ∀ m, GR n (itr (bd_X7_reach_35 n) m z) T := by
  intro m
  refine itr_inv (P := fun _ y => GR n y T) h0 (fun t y _ ih => ?_)
  refine itr_inv (P := fun _ y => GR n y T) ih (fun c y hc ih => ?_)
  refine itr_inv (P := fun _ y => GR n y T) ih (fun d y hd ih => ?_)
  intro x hx i h
  rw [m_bit (by omega)] at h
  by_cases e : x = c
  · subst e
    rw [if_pos rfl, Bool.or_eq_true, Bool.and_eq_true] at h
    rcases h with h | h
    · exact ih x hx i h
    · exact hT x hx d hd (ih x hx d h.1) i (ih d hd i h.2)
  · rw [if_neg e] at h
    exact ih x hx i h
/-- a round of it does as much as one step of the other -/
theorem m_step {n t : Nat} (hn : n ≤ 6) (ht : t < n) {w z : Nat → Int32} (h : GR n w z) : GR n (bd_X0_findReach_36 n t w) (bd_X7_reach_35 n t z) := by
  intro c hc i hi
  unfold bd_X0_findReach_36 at hi
  rw [w_bit hn ht hc, Bool.or_eq_true, Bool.and_eq_true] at hi
  unfold bd_X7_reach_35
  have g1 := m_gr3 hn z (a := 0) c (by omega)
  rw [Nat.zero_add] at g1
  have g2 := m_gr3 hn z (a := c + 1) (n - (c + 1)) (by omega)
  rw [show c + 1 + (n - (c + 1)) = n by omega, itr_succ] at g2
  refine g2 c hc i ?_
  have g1 : GR n z (itr (bd_X7_reach_43 n) c z) := g1
  generalize itr (bd_X7_reach_43 n) c z = z1 at g1
  unfold bd_X7_reach_43
  have g3 := m_gr2 (c := c) hn z1 (a := 0) t (by omega)
  rw [Nat.zero_add] at g3
  have g4 := m_gr2 (c := c) hn z1 (a := t + 1) (n - (t + 1)) (by omega)
  rw [show t + 1 + (n - (t + 1)) = n by omega, itr_succ] at g4
  refine g4 c hc i ?_
  have g3 : GR n z1 (itr (bd_X7_reach_55 c) t z1) := g3
  generalize itr (bd_X7_reach_55 c) t z1 = z2 at g3
  rw [m_bit (by omega), if_pos rfl, Bool.or_eq_true, Bool.and_eq_true]
  have up : ∀ a, a < n → ∀ j, bt (w a) j = true → bt (z2 a) j = true := fun a ha j q => g3 a ha j (g1 a ha j (h a ha j q))
  rcases hi with q | q
  · exact Or.inl (up c hc i q)
  · exact Or.inr ⟨up c hc t q.1, up t ht i q.2⟩
theorem m_cp {n : Nat} (hn : n ≤ 6) {w z : Nat → Int32} (h : GR n w z) : ∀ k, k ≤ n → GR n (itr (bd_X0_findReach_36 n) k w) (itr (bd_X7_reach_35 n) k z)
  | 0, _ => h
  | k + 1, hk => m_step hn (by omega) (m_cp hn h k (by omega))
theorem m_gr4 {n : Nat} (hn : n ≤ 6) (z : Nat → Int32) {a : Nat} : ∀ d, a + d ≤ 6 → GR n (itr (bd_X7_reach_35 n) a z) (itr (bd_X7_reach_35 n) (a + d) z) := fun d h => itr_grow (P := GR n) GR.rf GR.tr (n := 6) (fun k y hk => m_gr3' hn y) z d h
theorem reach_rows {n : Nat} (hn : n ≤ 6) {w z : Nat → Int32} (h : ∀ c, c < n → z c = w c) : ∀ c, c < n → itr (bd_X7_reach_35 n) 6 z c = itr (bd_X0_findReach_36 n) n w c := by
  intro c hc
  have e1 : GR n z w := fun a ha i q => by rw [← h a ha]; exact q
  have e2 : GR n w z := fun a ha i q => by rw [h a ha]; exact q
  have up := (m_sd hn (w_tr hn w) (GR.tr _ _ _ e1 (w_gr hn w)) 6) c hc
  have lo := m_cp hn e2 n (Nat.le_refl n) c hc
  have mo := m_gr4 hn z (a := n) (6 - n) (by omega) c hc
  rw [show n + (6 - n) = 6 by omega] at mo
  exact b_ext (fun i _ => bool_ext ⟨up i, fun q => mo i (lo i q)⟩)
