/-! what one contract has: alike -/
theorem LG_ring {n : Nat} (hn : n ≤ 6) {refers : Nat → Int32} {a c : Nat} (ha : a < n) (hc : c < n) (h : gB (tB n refers) a c = true) : LG n refers a = LG n refers c := by
  refine b_ext (fun d hd => ?_)
  by_cases e : d < n
  · rw [LG_bit hn refers ha e, LG_bit hn refers hc e]
    exact bool_ext ⟨fun q => gB_tr (tB_tr hn refers) hc ha e (gB_sy h) q, fun q => gB_tr (tB_tr hn refers) ha hc e h q⟩
  · rw [LG_big hn refers ha (by omega), LG_big hn refers hc (by omega)]
/-- of one contract both sides have the same -/
theorem spz_of {n lo : Nat} (hn : n ≤ 6) {refers : Nat → Int32} {z : ZT} {w : WT} (h : SPZ n lo refers z w) {i : Nat} (hi : i < n) : z.1 i = w.1 i ∧ z.2.2.2.2.2.2.2.1 (z.2.2.2.1 i).toNatClampNeg = w.2.1 i ∧ z.2.2.2.2.2.2.2.2.1 (z.2.2.2.1 i).toNatClampNeg = w.2.2.1 i ∧ z.2.2.2.2.2.2.2.2.2.1 (z.2.2.2.1 i).toNatClampNeg = w.2.2.2.2.2.2.1 (f_X7_rungAt w.2.2.2.1 w.2.2.2.2.1 i).toNatClampNeg ∧ z.2.2.2.2.2.1 i = w.2.2.2.2.2.1 i := by
  obtain ⟨hB, hM, hP⟩ := h
  obtain ⟨k, hk, hg⟩ := ix_ex hn refers hi
  have hl := LF_in hk
  have hr := rungAt7 hn hM hi (by rw [hM.1]; exact hk) hg
  obtain ⟨b1, b2, b3, b4⟩ := hB
  obtain ⟨m1, m2, m3⟩ := hM
  have hkm : k < z.2.2.2.2.2.2.2.2.2.2.2.1 := by rw [b1]; exact hk
  have ho := b4 i hi k hkm hg
  have hk6 : k < 100 := by have := LM_le n refers; omega
  rw [ho, hr, nI_clamp (by omega)]
  obtain ⟨L, pd, lf, rp, -, -, -, -, e5, e6, -, -⟩ := hP
  obtain ⟨g1, g2, g3, g4, -⟩ := e5 k hk
  obtain ⟨p1, p2, -⟩ := e6 i hi
  refine ⟨(b2 i hi).1.trans (m2 i hi).1.symm, ?_, ?_, g1.trans g2.symm, p1.trans p2.symm⟩
  · rw [(b3 k hkm).2.1, (m2 i hi).2.1]
    exact LG_ring hn hl.1 hi hg
  · rw [(b3 k hkm).2.2, (m2 i hi).2.2, RH_ring hn hl.1 hi hg]
theorem e_of {n lo : Nat} {kind limit ret quo refers : Nat → Int32} {q1 q2 q3 : Nat} {a1 b1 a2 b2 a3 b3 s : Nat → Int32} (h : TD n lo kind limit ret quo refers q1 q2 q3 a1 b1 a2 b2 a3 b3 s) (r g u o M P F B R L RP a b d e P7 LO RQ mo : Nat → Int32) (x6 y6 x7 : Int32) (c what : Int32) (r6 r7 : Nat) : (f_X6_of kind limit ret quo refers (nI lo) r g u o M P F B R L RP x6 y6 c what n r6).1 = (f_X7_of s a b d e P7 LO RQ x7 mo c what n r7).1 := by
  have hS := settle_pay h r g u o M P F B R L RP a b d e P7 LO RQ mo
  have hn := h.1.1
  unfold f_X6_of f_X7_of
  generalize f_X0_settle r g u o M P F B R L RP kind limit ret quo refers (nI lo) n = z at hS ⊢
  generalize f_X7_pay s a b d e P7 LO RQ mo n = w at hS ⊢
  by_cases c1 : f_X7_isOne c n = 0
  · rw [if_pos ((one_iff (by omega)).mpr c1), if_pos c1]
  · rw [if_neg (fun q => c1 ((one_iff (by omega)).mp q)), if_neg c1]
    obtain ⟨i, hi, rfl⟩ := (isO_iff (by omega)).mp c1
    rw [nI_clamp (show i < 2 ^ 31 by omega)]
    obtain ⟨s1, s2, s3, s4, s5⟩ := h.2.1 i hi
    obtain ⟨o1, o2, o3, o4, o5⟩ := spz_of hn hS hi
    have ht : f_X3_term kind limit ret quo (nI i) what n = if what = 0 then kind i else if what = 1 then limit i else if what = 2 then ret i else if what = 3 then quo i else -1 := by
      unfold f_X3_term
      rw [if_neg ((isC_iff (show n < 2 ^ 31 by omega)).mpr ⟨i, hi, rfl⟩), nI_clamp (show i < 2 ^ 31 by omega)]
    rw [ht, s1, s2, s3, s4, s5, o1, o2, o3, o4, o5]
    by_cases e0 : what = 0
    · subst e0
      rfl
    by_cases e1 : what = 1
    · subst e1
      rfl
    by_cases e2 : what = 2
    · subst e2
      rfl
    by_cases e3 : what = 3
    · subst e3
      rfl
    rw [if_neg e0, if_neg e1, if_neg e2, if_neg e3, if_neg e0, if_neg e1, if_neg e2, if_neg e3]
    by_cases f1 : what < 0
    · rw [if_pos f1]
      split <;> (try rfl)
      all_goals split <;> (try rfl)
      all_goals split <;> (try rfl)
      all_goals split <;> (try rfl)
      all_goals split <;> (try rfl)
      all_goals split <;> rfl
    · rw [if_neg f1]
      by_cases f2 : (3 : Int32) < what
      · rw [if_pos f2]
        split <;> (try rfl)
        all_goals split <;> (try rfl)
        all_goals split <;> (try rfl)
        all_goals split <;> (try rfl)
        all_goals split <;> (try rfl)
        all_goals split <;> rfl
      · exfalso
        obtain ⟨x, hx, ex⟩ := in_nat (v := what) (a := 0) (b := 3) (B := 3) (by omega) (by decide) (by decide) (fun q => by
          rcases (in32 (A := 0) (B := 3) (by decide) (by decide)).mp q with z1 | z1
          · exact f1 z1
          · exact f2 z1)
        have : x = 0 ∨ x = 1 ∨ x = 2 ∨ x = 3 := by omega
        rcases this with y | y | y | y <;> subst y
        · exact absurd ex e0
        · exact absurd ex e1
        · exact absurd ex e2
        · exact absurd ex e3
