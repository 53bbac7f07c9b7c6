/-! why: alike -/
theorem because0 {w : Nat → Int32} {a b d a' b' d' : Int32} (e : a = a') (f : b = b') (g : d = d') : f_X7_because w a b d 0 = a' ∧ f_X7_because w a b d 1 = b' ∧ f_X7_because w a b d 2 = d' := by
  obtain ⟨g1, g2, g3⟩ := bec_at w a b d
  exact ⟨g1.trans e, g2.trans f, g3.trans g⟩
/-- what stands behind why one pays less, told by the cases of the class -/
theorem whyA {n lo j i lf : Nat} {G P6 bits RL6 RP6 kind limit ret quo refers s rings P7 RL7 RP7 whys : Nat → Int32} {pd : Nat → Nat} {ro : Nat → Nat} (hn : n ≤ 6) (hlo : lo ≤ 300) (hi : i < n) (h1 : s 1 = nI lo) (hb : ∀ k, k < j → bits k = rings k) (hL6 : RL6 j = nI lf) (hL7 : RL7 j = nI lf) (hlf : lf ≤ lo) (hP : ∀ c, c < n → P6 c = nI (pd c) ∧ P7 c = nI (pd c) ∧ pd c ≤ 99) (hA : lf < lo → ∃ i c, i < j ∧ c < n ∧ bt (bits i) c = true ∧ 0 < pd c) (h0 : lo = 0 → ∀ c, c < n → pd c = 0) (hro : ro i = j) (hz : lf = 0) :
    f_X7_tellsWhy s rings P7 RL7 RP7 whys n i j 0 = f_X0_reason G P6 RL6 kind limit ret quo refers n i ro ∧ f_X7_tellsWhy s rings P7 RL7 RP7 whys n i j 1 = f_X0_cause G P6 bits RL6 kind limit quo refers (f_X0_reason G P6 RL6 kind limit ret quo refers n i ro) n i ro ∧ f_X7_tellsWhy s rings P7 RL7 RP7 whys n i j 2 = f_X0_causeBehind G P6 bits RL6 RP6 kind limit ret quo refers (f_X0_reason G P6 RL6 kind limit ret quo refers n i ro) n i ro := by
  subst hz
  have hre : f_X0_reason G P6 RL6 kind limit ret quo refers n i ro = 1 := by
    unfold f_X0_reason
    rw [hro, hL6, if_pos (show nI 0 = (0 : Int32) by decide)]
  have hca : f_X0_cause G P6 bits RL6 kind limit quo refers 1 n i ro = f_X0_lastPayerAhead P6 bits n j := by
    unfold f_X0_cause
    rw [if_pos rfl, hro]
  have hbe : f_X0_causeBehind G P6 bits RL6 RP6 kind limit ret quo refers 1 n i ro = if f_X3_isContract (nI n) (f_X0_lastPayerAhead P6 bits n j) = 0 then 0 else P6 (f_X0_lastPayerAhead P6 bits n j).toNatClampNeg := by
    unfold f_X0_causeBehind
    rw [if_pos rfl, hca]
  rw [hre, hca, hbe]
  have hp67 : ∀ c, c < n → P6 c = P7 c := fun c hc => (hP c hc).1.trans (hP c hc).2.1.symm
  have hla := last67 (j := j) hn hb hp67
  have two : f_X7_tellsWhy s rings P7 RL7 RP7 whys n i j = if lo = 0 then f_X7_because (f_X7_because whys 0 (-5) (-5)) 1 99 0 else if f_X7_lastAhead rings P7 n j = -1 then f_X7_because (f_X7_because whys 0 (-5) (-5)) 1 (f_X7_lastAhead rings P7 n j) 0 else f_X7_because (f_X7_because whys 0 (-5) (-5)) 1 (f_X7_lastAhead rings P7 n j) (P7 (f_X7_lastAhead rings P7 n j).toNatClampNeg) := by
    unfold f_X7_tellsWhy
    rw [hL7, h1]
    have z0 : nI 0 = (0 : Int32) := by decide
    have e : (nI lo = (0 : Int32)) ↔ lo = 0 := nI_eq (a := lo) (b := 0) (by omega) (by omega)
    by_cases al : f_X7_bits (rings j) = 1
    · rw [if_pos al, if_pos z0]
      by_cases q : lo = 0
      · rw [if_pos (e.mpr q), if_pos q]
      · rw [if_neg (fun z => q (e.mp z)), if_neg q]
    · rw [if_neg al, if_pos z0]
      by_cases q : lo = 0
      · rw [if_pos (e.mpr q), if_pos q]
      · rw [if_neg (fun z => q (e.mp z)), if_neg q]
  rw [two]
  unfold f_X0_lastPayerAhead
  by_cases q : lo = 0
  · rw [if_pos q, last_no hn (fun c hc => by rw [(hP c hc).1, h0 q c hc])]
    refine because0 rfl rfl ?_
    rw [Option.getD_none, if_pos]
    unfold f_X3_isContract
    rw [if_neg (by decide), if_pos]
    exact (nI_leI (a := n) (b := 99) (by omega) (by omega)).mpr (by omega)
  · obtain ⟨d, d1, d2⟩ := last_ex (P := P6) (bits := bits) hn (fun c hc => ⟨(hP c hc).1, (hP c hc).2.2⟩) (hA (by omega))
    rw [d2] at hla
    rw [Option.getD_some] at hla
    rw [if_neg q, hla, d2, Option.getD_some, if_neg (show ¬ nI d = (-1 : Int32) from fun z => by
      have := congrArg Int32.toInt z
      rw [nI_toInt (by omega)] at this
      have e5 : (-1 : Int32).toInt = -1 := by decide
      omega)]
    refine because0 rfl rfl ?_
    rw [if_neg ((isC_iff (show n < 2 ^ 31 by omega)).mpr ⟨d, d1, rfl⟩), nI_clamp (show d < 2 ^ 31 by omega)]
    exact (hp67 d d1).symm
