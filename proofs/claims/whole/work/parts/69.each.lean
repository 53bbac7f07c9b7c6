/-! what is told of all: alike -/
theorem itr_eq {σ : Type} {b b' : Nat → σ → σ} : ∀ {n : Nat} {z : σ}, (∀ k, k < n → ∀ y, b k y = b' k y) → itr b n z = itr b' n z
  | 0, _, _ => rfl
  | n + 1, z, h => by
    rw [itr_succ, itr_succ, itr_eq (n := n) (fun k hk y => h k (by omega) y)]
    exact h n (by omega) _
theorem great7 {n : Nat} (hn : n ≤ 6) {refers U : Nat → Int32} (hU : ∀ c, c < n → U c = nI (RH n refers c)) : (n = 0 ∧ f_X7_greatestRung U n = -5) ∨ (0 < n ∧ ∃ x, x < 100 ∧ f_X7_greatestRung U n = nI x ∧ (∀ c, c < n → RH n refers c ≤ x) ∧ ∃ c, c < n ∧ RH n refers c = x) := by
  have key : ∀ m, m ≤ n → (m = 0 ∧ itr (bd_X7_greatestRung_5 U) m (-5) = -5) ∨ (0 < m ∧ ∃ x, x < 100 ∧ itr (bd_X7_greatestRung_5 U) m (-5) = nI x ∧ (∀ c, c < m → RH n refers c ≤ x) ∧ ∃ c, c < m ∧ RH n refers c = x) := by
    intro m
    induction m with
    | zero => exact fun _ => Or.inl ⟨rfl, rfl⟩
    | succ m ih =>
      intro hm
      have hr := RH_lt hn refers (show m < n by omega)
      refine Or.inr ⟨by omega, ?_⟩
      have st : ∀ y, bd_X7_greatestRung_5 U m y = if nI (RH n refers m) ≤ y then y else nI (RH n refers m) := fun y => by
        unfold bd_X7_greatestRung_5
        rw [hU m (by omega)]
      rw [itr_succ, st]
      rcases ih (by omega) with ⟨e, h⟩ | ⟨-, x, h1, h2, h3, c, h4, h5⟩
      · subst e
        rw [h, if_neg (fun q => by
          have q2 := Int32.le_iff_toInt_le.mp q
          rw [nI_toInt (by omega)] at q2
          have e5 : (-5 : Int32).toInt = -5 := by decide
          omega)]
        exact ⟨RH n refers 0, by omega, rfl, fun c hc => by rw [show c = 0 by omega]; exact Nat.le_refl _, 0, by omega, rfl⟩
      · rw [h2]
        by_cases q : RH n refers m ≤ x
        · rw [if_pos ((nI_leI (by omega) (by omega)).mpr q)]
          refine ⟨x, h1, rfl, fun c hc => ?_, c, by omega, h5⟩
          by_cases e : c = m
          · rw [e]; exact q
          · exact h3 c (by omega)
        · rw [if_neg (fun w => q ((nI_leI (by omega) (by omega)).mp w))]
          refine ⟨RH n refers m, by omega, rfl, fun c hc => ?_, m, by omega, rfl⟩
          by_cases e : c = m
          · rw [e]; exact Nat.le_refl _
          · have := h3 c (by omega); omega
  exact key n (Nat.le_refl n)
theorem if1 {c : Prop} [Decidable c] {α β γ : Type} {a a' : α × β} {b b' : α × γ} (h1 : c → a.1 = b.1) (h2 : ¬ c → a'.1 = b'.1) : (if c then a else a').1 = (if c then b else b').1 := by
  by_cases h : c
  · rw [if_pos h, if_pos h]; exact h1 h
  · rw [if_neg h, if_neg h]; exact h2 h
theorem e_told {n lo : Nat} {kind limit ret quo refers : Nat → Int32} {q1 q2 q3 : Nat} {a1 b1 a2 b2 a3 b3 s : Nat → Int32} (h : TD n lo kind limit ret quo refers q1 q2 q3 a1 b1 a2 b2 a3 b3 s) (r g u o M P F B R L RP a b d e P7 LO RQ mo : Nat → Int32) (what : Int32) : (f_X6_told kind limit ret quo refers (nI lo) r g u o M P F B R L RP what n).1 = (f_X7_told s a b d e P7 LO RQ mo what n).1 := by
  have hS := settle_pay h r g u o M P F B R L RP a b d e P7 LO RQ mo
  have hn := h.1.1
  unfold f_X6_told f_X7_told
  generalize f_X0_settle r g u o M P F B R L RP kind limit ret quo refers (nI lo) n = z at hS ⊢
  generalize f_X7_pay s a b d e P7 LO RQ mo n = w at hS ⊢
  obtain ⟨hB, hM, hP⟩ := hS
  obtain ⟨b1, b2, b3, b4⟩ := hB
  obtain ⟨m1, m2, m3⟩ := hM
  have hl := LM_le n refers
  have hz : z.2.2.2.2.2.2.2.2.2.2.2.1 = w.2.2.2.2.1 := b1.trans m1.symm
  rw [hz]
  rw [hz] at b3
  obtain ⟨LL, pd, lf, rp, p1, p2, p3, p4, e5, e6, -, -⟩ := hP
  have t2 : z.2.2.2.2.2.2.2.2.2.2.2.2.1 = w.2.2.2.2.2.2.2.2.1 := p1.trans p3.symm
  have t3 : z.2.2.2.2.2.2.2.2.2.2.2.2.2 = s 1 - w.2.2.2.2.2.2.2.2.1 := by
    rw [sN h.2.2.2.1 p3 (by omega), p2]
    congr 1
    omega
  have t5 : f_X0_ringsOfSeveral z.2.2.2.2.2.2.2.1 w.2.2.2.2.1 = f_X7_severals w.2.2.2.1 w.2.2.2.2.1 := by
    unfold f_X0_ringsOfSeveral f_X7_severals
    refine itr_eq (fun k hk y => ?_)
    unfold bd_X0_ringsOfSeveral_4 bd_X7_severals_4
    have hk2 : k < LM n refers := by rw [← m1]; exact hk
    have hx : ∀ i, n ≤ i → bt (LG n refers (LF n refers k)) i = false := fun i hi => LG_big hn refers (LF_in hk2).1 hi
    rw [(b3 k hk).2.1, m3 k hk, bc_eq hn hx, bits7 hn hx]
    split
    · exact Int32.add_zero y
    · rfl
  have t6 : f_X0_greatestRung z.2.2.2.2.2.2.2.2.1 w.2.2.2.2.1 = f_X7_greatestRung w.2.2.1 n := by
    unfold f_X0_greatestRung
    rcases great7 hn (refers := refers) (U := w.2.2.1) (fun c hc => (m2 c hc).2.2) with ⟨g1, g2⟩ | ⟨g1, x, g2, g3, g4, c, g5, g6⟩
    · rw [g2, if_pos]
      rw [show w.2.2.2.2.1 = 0 by omega]
      rfl
    · obtain ⟨j, hj, hg⟩ := ix_ex hn refers g5
      have hj2 : j < w.2.2.2.2.1 := by rw [m1]; exact hj
      rw [if_neg (show ¬ nI w.2.2.2.2.1 = (0 : Int32) from fun q => by
        have := (nI_eq (a := w.2.2.2.2.1) (b := 0) (by omega) (by omega)).mp q
        omega), g3, (b3 (w.2.2.2.2.1 - 1) (by omega)).2.2]
      congr 1
      have hlast : w.2.2.2.2.1 - 1 < LM n refers := by omega
      have u1 := g4 _ (LF_in hlast).1
      have u2 := RH_ring hn (LF_in hj).1 g5 hg
      by_cases q : j = w.2.2.2.2.1 - 1
      · rw [← q, u2, g6]
      · have := LF_lt hlast (show j < w.2.2.2.2.1 - 1 by omega)
        omega
  have t7 : f_X0_payers z.2.2.2.2.2.1 n = f_X7_payers w.2.2.2.2.2.1 n := by
    unfold f_X0_payers f_X7_payers
    refine itr_eq (fun k hk y => ?_)
    unfold bd_X0_payers_4 bd_X7_payers_4
    obtain ⟨g1, g2, -⟩ := e6 k hk
    rw [g1, g2]
    split
    · exact Int32.add_zero y
    · rfl
  have t8 : f_X3_references refers n = f_X7_references s n := by
    unfold f_X3_references f_X7_references
    refine itr_eq (fun k hk y => ?_)
    unfold bd_X3_references_4 bd_X7_references_4
    have hx := (h.1.2 k hk).2.2.2.2.2
    rw [(h.2.1 k hk).2.2.2.2, bc_eq (Nat.le_refl 6) hx, bits7 (Nat.le_refl 6) hx]
  refine if1 (fun _ => rfl) (fun _ => if1 (fun _ => h.2.2.2.1.symm) (fun _ => if1 (fun _ => t2) (fun _ => if1 (fun _ => t3) (fun _ => if1 (fun _ => rfl) (fun _ => if1 (fun _ => t5) (fun _ => if1 (fun _ => t6) (fun _ => if1 (fun _ => t7) (fun _ => if1 (fun _ => t8) (fun _ => rfl)))))))))
