/-! what is asked once all is settled: alike -/
abbrev ZT : Type := (Nat → Int32) × (Nat → Int32) × (Nat → Int32) × (Nat → Int32) × (Nat → Int32) × (Nat → Int32) × (Nat → Int32) × (Nat → Int32) × (Nat → Int32) × (Nat → Int32) × (Nat → Int32) × Nat × Int32 × Int32
abbrev WT : Type := (Nat → Int32) × (Nat → Int32) × (Nat → Int32) × (Nat → Int32) × Nat × (Nat → Int32) × (Nat → Int32) × (Nat → Int32) × Int32 × (Nat → Int32)
def SPZ (n lo : Nat) (refers : Nat → Int32) (z : ZT) (w : WT) : Prop := BLD n refers z.1 z.2.1 z.2.2.1 z.2.2.2.1 z.2.2.2.2.2.2.1 z.2.2.2.2.2.2.2.1 z.2.2.2.2.2.2.2.2.1 z.2.2.2.2.2.2.2.2.2.2.2.1 ∧ MLD n refers w.1 w.2.1 w.2.2.1 w.2.2.2.1 w.2.2.2.2.1 ∧ PB n lo refers z.2.2.2.2.2.1 w.2.2.2.2.2.1 z.2.2.2.2.2.2.2.2.2.1 w.2.2.2.2.2.2.1 z.2.2.2.2.2.2.2.2.2.2.1 w.2.2.2.2.2.2.2.1 z.2.2.2.2.2.2.2.2.2.2.2.2.1 z.2.2.2.2.2.2.2.2.2.2.2.2.2 w.2.2.2.2.2.2.2.2.1
theorem settle_pay {n lo : Nat} {kind limit ret quo refers : Nat → Int32} {q1 q2 q3 : Nat} {a1 b1 a2 b2 a3 b3 s : Nat → Int32} (h : TD n lo kind limit ret quo refers q1 q2 q3 a1 b1 a2 b2 a3 b3 s) (r g u o M P F B R L RP a b d e P7 LO RQ mo : Nat → Int32) : SPZ n lo refers (f_X0_settle r g u o M P F B R L RP kind limit ret quo refers (nI lo) n) (f_X7_pay s a b d e P7 LO RQ mo n) := by
  obtain ⟨h1, h2, h3, h4, h5, h6⟩ := h
  have hU := SVp_SU h1 h2
  have hB := build6 h1.1 r g u o F B R refers
  have hM : MLD n refers (f_X7_pay s a b d e P7 LO RQ mo n).1 (f_X7_pay s a b d e P7 LO RQ mo n).2.1 (f_X7_pay s a b d e P7 LO RQ mo n).2.2.1 (f_X7_pay s a b d e P7 LO RQ mo n).2.2.2.1 (f_X7_pay s a b d e P7 LO RQ mo n).2.2.2.2.1 := by
    unfold f_X7_pay
    exact ladder7 h1.1 (fun c hc => (h2 c hc).2.2.2.2) a b d e
  have hP := fun rf hrf => pay_both (lo := lo) (by omega) hU h4 hB (rf := rf) hrf M P L RP a b d e P7 LO RQ mo
  have hP := hP _ (first_rf h1.1 hB)
  unfold SPZ f_X0_settle
  dsimp only
  exact ⟨hB, hM, hP⟩
theorem e_pays {n lo : Nat} {kind limit ret quo refers : Nat → Int32} {q1 q2 q3 : Nat} {a1 b1 a2 b2 a3 b3 s : Nat → Int32} (h : TD n lo kind limit ret quo refers q1 q2 q3 a1 b1 a2 b2 a3 b3 s) (r g u o M P F B R L RP a b d e P7 LO RQ mo : Nat → Int32) (x6 y6 x7 : Int32) (c : Int32) (r6 r7 : Nat) : (f_X6_pays kind limit ret quo refers (nI lo) r g u o M P F B R L RP x6 y6 c n r6).1 = (f_X7_pays s a b d e P7 LO RQ x7 mo c n r7).1 := by
  have hS := settle_pay h r g u o M P F B R L RP a b d e P7 LO RQ mo
  have hn := h.1.1
  unfold f_X6_pays f_X7_pays f_X7_of
  dsimp only
  by_cases c1 : f_X7_isOne c n = 0
  · rw [if_pos ((one_iff (by omega)).mpr c1), if_pos c1]
  · rw [if_neg (fun q => c1 ((one_iff (by omega)).mp q)), if_neg c1]
    obtain ⟨i, hi, rfl⟩ := (isO_iff (by omega)).mp c1
    rw [nI_clamp (show i < 2 ^ 31 by omega), if_neg (show ¬ (9 : Int32) = 0 by decide), if_neg (show ¬ (9 : Int32) = 1 by decide), if_neg (show ¬ (9 : Int32) = 2 by decide), if_neg (show ¬ (9 : Int32) = 3 by decide), if_neg (show ¬ (9 : Int32) = 4 by decide), if_neg (show ¬ (9 : Int32) = 5 by decide), if_neg (show ¬ (9 : Int32) = 6 by decide), if_neg (show ¬ (9 : Int32) = 7 by decide), if_neg (show ¬ (9 : Int32) = 8 by decide), if_pos rfl]
    obtain ⟨-, -, LL, pd, lf, rp, e1, e2, e3, e4, e5, e6, e7, e8⟩ := hS
    obtain ⟨k1, k2, -⟩ := e6 i hi
    exact k1.trans k2.symm
