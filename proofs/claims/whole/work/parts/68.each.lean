/-! rings, and what is told of all: alike -/
theorem srch_ex' {α : Type} {b : Nat → Option α} {P : α → Prop} : ∀ (d k : Nat), (∀ j, k ≤ j → j < k + d → b j = none ∨ ∃ x, b j = some x ∧ P x) → (∃ j, k ≤ j ∧ j < k + d ∧ b j ≠ none) → ∃ x, srch b d k = some x ∧ P x
  | 0, k, _, h2 => by
    obtain ⟨j, p1, p2, _⟩ := h2
    omega
  | d + 1, k, h1, h2 => by
    unfold srch
    rcases h1 k (Nat.le_refl k) (by omega) with e | ⟨x, e, hx⟩
    · rw [e]
      obtain ⟨j, p1, p2, p3⟩ := h2
      have : j ≠ k := fun q => p3 (by rw [q]; exact e)
      exact srch_ex' d (k + 1) (fun j q1 q2 => h1 j (by omega) (by omega)) ⟨j, by omega, by omega, p3⟩
    · rw [e]
      exact ⟨x, rfl, hx⟩
theorem e_ring {n lo : Nat} {kind limit ret quo refers : Nat → Int32} {q1 q2 q3 : Nat} {a1 b1 a2 b2 a3 b3 s : Nat → Int32} (h : TD n lo kind limit ret quo refers q1 q2 q3 a1 b1 a2 b2 a3 b3 s) (r g u o M P F B R L RP a b d e P7 LO RQ mo : Nat → Int32) (k what : Int32) : (f_X6_ring kind limit ret quo refers (nI lo) r g u o M P F B R L RP k what n).1 = (f_X7_ring s a b d e P7 LO RQ mo k what n).1 := by
  have hS := settle_pay h r g u o M P F B R L RP a b d e P7 LO RQ mo
  have hn := h.1.1
  unfold f_X6_ring f_X7_ring
  generalize f_X0_settle r g u o M P F B R L RP kind limit ret quo refers (nI lo) n = z at hS ⊢
  generalize f_X7_pay s a b d e P7 LO RQ mo n = w at hS ⊢
  obtain ⟨hB, hM, hP⟩ := hS
  obtain ⟨b1, b2, b3, b4⟩ := hB
  obtain ⟨m1, m2, m3⟩ := hM
  have hl := LM_le n refers
  have hz : z.2.2.2.2.2.2.2.2.2.2.2.1 = w.2.2.2.2.1 := b1.trans m1.symm
  rw [hz]
  rw [hz] at b3
  have hm : w.2.2.2.2.1 < 2 ^ 31 := by omega
  by_cases c1 : f_X7_isOne k w.2.2.2.2.1 = 0
  · rw [if_pos (show f_X7_in k.toInt64 0 (nI w.2.2.2.2.1 - 1).toInt64 = 0 from c1)]
    by_cases c2 : k < 0
    · rw [if_pos c2]
    · rw [if_neg c2]
      by_cases c3 : k < nI w.2.2.2.2.1
      · exfalso
        have c4 : ¬ f_X3_isContract (nI w.2.2.2.2.1) k = 0 := by
          unfold f_X3_isContract
          rw [if_neg c2, if_neg (Int32.not_le.mpr c3)]
          decide
        exact c4 ((one_iff hm).mpr c1)
      · rw [if_neg c3]
  · rw [if_neg (show ¬ f_X7_in k.toInt64 0 (nI w.2.2.2.2.1 - 1).toInt64 = 0 from c1)]
    obtain ⟨j, hj, rfl⟩ := (isO_iff hm).mp c1
    have hj2 : j < LM n refers := by rw [← m1]; exact hj
    have hlf := LF_in hj2
    rw [if_neg (nI_pos (by omega)), if_pos ((nI_ltI (by omega) (by omega)).mpr hj), nI_clamp (show j < 2 ^ 31 by omega)]
    obtain ⟨LL, pd, lf, rp, -, -, -, -, e5, -, -, -⟩ := hP
    obtain ⟨g1, g2, g3, g4, -⟩ := e5 j hj2
    have t1 : f_X7_in what.toInt64 0 3 = 0 ↔ what < 0 ∨ (3 : Int32) < what := in32 (by decide) (by decide)
    have hsr : srch (bd_X7_ring_73 j w) n 0 = some (nI (RH n refers (LF n refers j)), w) := by
      obtain ⟨x, x1, x2⟩ := srch_ex' (P := fun x => x = (nI (RH n refers (LF n refers j)), w)) (b := bd_X7_ring_73 j w) n 0 (fun i _ hi => by
        have hi2 : i < n := by omega
        unfold bd_X7_ring_73
        by_cases q : f_X7_has (w.2.2.2.1 j) (nI i) = 0
        · rw [if_pos q]; exact Or.inl rfl
        · rw [if_neg q]
          have hb : gB (tB n refers) (LF n refers j) i = true := by
            rw [← LG_bit hn refers hlf.1 hi2, ← m3 j hj]
            cases e : bt (w.2.2.2.1 j) i
            · exact absurd ((has7_0 (by omega)).mpr e) q
            · rfl
          refine Or.inr ⟨_, rfl, ?_⟩
          rw [(m2 i hi2).2.2, RH_ring hn hlf.1 hi2 hb]) ⟨LF n refers j, by omega, by omega, by
            unfold bd_X7_ring_73
            rw [if_neg (fun q => by
              have q2 := (has7_0 (b := w.2.2.2.1 j) (c := LF n refers j) (by omega)).mp q
              rw [m3 j hj, LG_bit hn refers hlf.1 hlf.1, gB_rf] at q2
              cases q2)]
            exact fun q => by cases q⟩
      rw [x1, x2]
    by_cases e0 : what = 0
    · subst e0
      rw [if_pos rfl, if_neg (show ¬ f_X7_in (0 : Int32).toInt64 0 3 = 0 by decide), if_pos rfl]
      exact ((b3 j hj).2.1).trans (m3 j hj).symm
    by_cases e1 : what = 1
    · subst e1
      rw [if_neg e0, if_pos rfl, if_neg (show ¬ f_X7_in (1 : Int32).toInt64 0 3 = 0 by decide), if_neg e0, if_pos (show (1 : Int32) ≤ 1 by decide), hsr]
      exact (b3 j hj).2.2
    by_cases e2 : what = 2
    · subst e2
      rw [if_neg e0, if_neg e1, if_pos rfl, if_neg (show ¬ f_X7_in (2 : Int32).toInt64 0 3 = 0 by decide), if_neg e0, if_neg (show ¬ (2 : Int32) ≤ 1 by decide), if_pos rfl]
      exact g1.trans g2.symm
    by_cases e3 : what = 3
    · subst e3
      rw [if_neg e0, if_neg e1, if_neg e2, if_pos rfl, if_neg (show ¬ f_X7_in (3 : Int32).toInt64 0 3 = 0 by decide), if_neg e0, if_neg (show ¬ (3 : Int32) ≤ 1 by decide), if_neg e2]
      exact g3.trans g4.symm
    rw [if_neg e0, if_neg e1, if_neg e2, if_neg e3]
    by_cases c5 : f_X7_in what.toInt64 0 3 = 0
    · rw [if_pos c5]
    · exfalso
      obtain ⟨x, hx, ex⟩ := in_nat (v := what) (a := 0) (b := 3) (B := 3) (by omega) (by decide) (by decide) c5
      have : x = 0 ∨ x = 1 ∨ x = 2 ∨ x = 3 := by omega
      rcases this with y | y | y | y <;> subst y
      · exact absurd ex e0
      · exact absurd ex e1
      · exact absurd ex e2
      · exact absurd ex e3
