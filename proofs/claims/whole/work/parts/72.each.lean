/-! why, where something is left: alike -/
theorem cau_n {G P bits RL kind limit quo refers : Nat → Int32} {n i : Nat} {ro : Nat → Nat} : f_X0_cause G P bits RL kind limit quo refers 0 n i ro = -5 ∧ f_X0_cause G P bits RL kind limit quo refers 2 n i ro = f_X0_firstPayer P (refers i) n ∧ f_X0_cause G P bits RL kind limit quo refers 3 n i ro = f_X0_shareOf kind quo (RL (ro i)) i ∧ f_X0_cause G P bits RL kind limit quo refers 4 n i ro = limit i ∧ f_X0_cause G P bits RL kind limit quo refers 5 n i ro = G i ∧ f_X0_cause G P bits RL kind limit quo refers 6 n i ro = RL (ro i) - P i := by
  refine ⟨?_, ?_, ?_, ?_, ?_, ?_⟩ <;> unfold f_X0_cause
  · rw [if_neg (by decide), if_neg (by decide), if_neg (by decide), if_neg (by decide), if_neg (by decide), if_neg (by decide)]
  · rw [if_neg (by decide), if_pos (by decide)]
  · rw [if_neg (by decide), if_neg (by decide), if_pos (by decide)]
  · rw [if_neg (by decide), if_neg (by decide), if_neg (by decide), if_pos (by decide)]
  · rw [if_neg (by decide), if_neg (by decide), if_neg (by decide), if_neg (by decide), if_pos (by decide)]
  · rw [if_neg (by decide), if_neg (by decide), if_neg (by decide), if_neg (by decide), if_neg (by decide), if_pos (by decide)]
theorem beh_n {G P bits RL RP kind limit ret quo refers : Nat → Int32} {n i : Nat} {ro : Nat → Nat} : f_X0_causeBehind G P bits RL RP kind limit ret quo refers 0 n i ro = -5 ∧ f_X0_causeBehind G P bits RL RP kind limit ret quo refers 2 n i ro = (if f_X3_isContract (nI n) (f_X0_firstPayer P (refers i) n) = 0 then 0 else P (f_X0_firstPayer P (refers i) n).toNatClampNeg) ∧ f_X0_causeBehind G P bits RL RP kind limit ret quo refers 3 n i ro = ret i ∧ f_X0_causeBehind G P bits RL RP kind limit ret quo refers 4 n i ro = -5 ∧ f_X0_causeBehind G P bits RL RP kind limit ret quo refers 5 n i ro = RP (ro i) ∧ f_X0_causeBehind G P bits RL RP kind limit ret quo refers 6 n i ro = -5 := by
  have e2 := (cau_n (G := G) (P := P) (bits := bits) (RL := RL) (kind := kind) (limit := limit) (quo := quo) (refers := refers) (n := n) (i := i) (ro := ro)).2.1
  refine ⟨?_, ?_, ?_, ?_, ?_, ?_⟩ <;> unfold f_X0_causeBehind
  · rw [if_neg (by decide), if_neg (by decide), if_neg (by decide), if_neg (by decide), if_neg (by decide)]
  · rw [if_neg (by decide), if_pos (by decide), e2]
  · rw [if_neg (by decide), if_neg (by decide), if_pos (by decide)]
  · rw [if_neg (by decide), if_neg (by decide), if_neg (by decide), if_pos (by decide)]
  · rw [if_neg (by decide), if_neg (by decide), if_neg (by decide), if_neg (by decide), if_pos (by decide)]
  · rw [if_neg (by decide), if_neg (by decide), if_neg (by decide), if_neg (by decide), if_neg (by decide)]
/-- the reason as a plain choice -/
def rsn (al : Bool) (left paid lim ret sh : Int32) (k2 pay : Bool) : Int32 := if paid < left then (if k2 = true ∧ al = true ∧ pay = true then 2 else if ret < sh then (if paid = lim then 4 else if al = true then 6 else 5) else 3) else 0
theorem whyB {n j i : Nat} {G P6 bits RL6 RP6 kind limit ret quo refers s rings P7 RL7 RP7 whys : Nat → Int32} {ro : Nat → Nat} (hi : i < n) (hn : n ≤ 6) (h5 : s (5 + i) = kind i) (h11 : s (11 + i) = limit i) (h17 : s (17 + i) = ret i) (h23 : s (23 + i) = quo i) (hL : RL7 j = RL6 j) (hr : rings j = G i) (hrp : RP7 j = RP6 j) (hP : ∀ c, c < n → P7 c = P6 c) (hal : f_X7_bits (rings j) = 1 ↔ ¬ f_X0_isAlone G i = 0) (h29 : s (29 + i) = refers i) (hro : ro i = j) (hne : ¬ RL6 j = 0) :
    f_X7_tellsWhy s rings P7 RL7 RP7 whys n i j 0 = f_X0_reason G P6 RL6 kind limit ret quo refers n i ro ∧ f_X7_tellsWhy s rings P7 RL7 RP7 whys n i j 1 = f_X0_cause G P6 bits RL6 kind limit quo refers (f_X0_reason G P6 RL6 kind limit ret quo refers n i ro) n i ro ∧ f_X7_tellsWhy s rings P7 RL7 RP7 whys n i j 2 = f_X0_causeBehind G P6 bits RL6 RP6 kind limit ret quo refers (f_X0_reason G P6 RL6 kind limit ret quo refers n i ro) n i ro := by
  have hst : f_X7_stead s (RL7 j) i = f_X0_shareOf kind quo (RL6 j) i := by
    unfold f_X7_stead f_X0_shareOf
    rw [h5, h23, hL]
  obtain ⟨u0, u2, u3, u4, u5, u6⟩ := cau_n (G := G) (P := P6) (bits := bits) (RL := RL6) (kind := kind) (limit := limit) (quo := quo) (refers := refers) (n := n) (i := i) (ro := ro)
  obtain ⟨v0, v2, v3, v4, v5, v6⟩ := beh_n (G := G) (P := P6) (bits := bits) (RL := RL6) (RP := RP6) (kind := kind) (limit := limit) (ret := ret) (quo := quo) (refers := refers) (n := n) (i := i) (ro := ro)
  rw [hro] at u3 u6 v5
  have hpe := payer_eq hn (s := s) (P6 := P6) (P7 := P7) (rf := refers i) (f := i) h29 (fun d hd _ => (hP d hd).symm)
  have hpn : f_X0_firstPayer P6 (refers i) n = -5 ↔ f_X7_payer s P7 n i = -1 := payer_no hn h29 (fun d hd _ => (hP d hd).symm)
  by_cases c1 : P6 i < RL6 j
  rotate_left
  · have hR : f_X0_reason G P6 RL6 kind limit ret quo refers n i ro = 0 := by
      unfold f_X0_reason
      rw [hro, if_neg hne, if_neg c1]
    have hT : f_X7_tellsWhy s rings P7 RL7 RP7 whys n i j = f_X7_because whys 0 (-5) (-5) := by
      unfold f_X7_tellsWhy
      rw [hL, hP i hi]
      by_cases al : f_X7_bits (rings j) = 1
      · rw [if_pos al, if_neg hne, if_neg c1]
      · rw [if_neg al, if_neg hne, if_neg c1]
    rw [hR, hT, u0, v0]
    exact because0 rfl rfl rfl
  have hpl : ∀ (x : Int32), x = f_X0_shareOf kind quo (RL6 j) i → f_X7_stead s (RL6 j) i = x := fun x hx => by rw [hx, ← hst, hL]
  have hsh := hpl _ rfl
  by_cases c2 : kind i = 2 ∧ ¬ f_X0_isAlone G i = 0 ∧ ¬ f_X7_payer s P7 n i = -1
  · obtain ⟨c2, c3, c4⟩ := c2
    have al := hal.mpr c3
    have hR : f_X0_reason G P6 RL6 kind limit ret quo refers n i ro = 2 := by
      unfold f_X0_reason f_X0_isEscaped
      rw [hro, if_neg hne, if_pos c1, if_pos c2, if_neg c3, if_neg (fun q => c4 (hpn.mp q)), if_neg (by decide)]
    have hT : f_X7_tellsWhy s rings P7 RL7 RP7 whys n i j = f_X7_because (f_X7_because whys 0 (-5) (-5)) 2 (f_X7_payer s P7 n i) (P7 (f_X7_payer s P7 n i).toNatClampNeg) := by
      unfold f_X7_tellsWhy
      rw [if_pos al, hL, hP i hi, if_neg hne, if_pos c1, h5, if_pos c2, if_neg (by decide), if_neg c4]
    -- the payer
    have hsr : ∃ d, d < n ∧ f_X7_payer s P7 n i = nI d ∧ f_X0_firstPayer P6 (refers i) n = nI d := by
      unfold f_X7_payer f_X0_firstPayer
      rw [hpe]
      cases e : srch (bd_X7_payer_2 s P7 i) n 0 with
      | none =>
        exact absurd (by unfold f_X7_payer; rw [e]; exact Option.getD_none) c4
      | some x =>
        obtain ⟨d, d1, d2, -⟩ := payer_val hn e
        exact ⟨d, d1, d2, d2⟩
    obtain ⟨d, d1, d2, d3⟩ := hsr
    rw [hR, hT, u2, v2, d2, d3]
    refine because0 rfl rfl ?_
    rw [if_neg ((isC_iff (show n < 2 ^ 31 by omega)).mpr ⟨d, d1, rfl⟩), nI_clamp (show d < 2 ^ 31 by omega)]
    exact hP d d1
  · have hE : f_X0_isEscaped G P6 kind refers n i = 0 := by
      unfold f_X0_isEscaped
      by_cases q : kind i = 2
      · rw [if_pos q]
        by_cases q2 : f_X0_isAlone G i = 0
        · rw [if_pos q2]
        · rw [if_neg q2, if_pos]
          refine hpn.mpr ?_
          by_cases q3 : f_X7_payer s P7 n i = -1
          · exact q3
          · exact absurd ⟨q, q2, q3⟩ c2
      · rw [if_neg q]
    by_cases c3 : ret i < f_X0_shareOf kind quo (RL6 j) i
    rotate_left
    · have hR : f_X0_reason G P6 RL6 kind limit ret quo refers n i ro = 3 := by
        unfold f_X0_reason
        rw [hro, if_neg hne, if_pos c1, hE, if_pos rfl, if_neg c3]
      have hT : f_X7_tellsWhy s rings P7 RL7 RP7 whys n i j = f_X7_because (f_X7_because whys 0 (-5) (-5)) 3 (f_X0_shareOf kind quo (RL6 j) i) (ret i) := by
        unfold f_X7_tellsWhy
        by_cases al : f_X7_bits (rings j) = 1
        · rw [if_pos al, hL, hP i hi, if_neg hne, if_pos c1, h5, h17, hsh, h11]
          by_cases q : kind i = 2
          · rw [if_pos q, if_neg (by decide), if_pos, if_neg c3]
            by_cases q3 : f_X7_payer s P7 n i = -1
            · exact q3
            · exact absurd ⟨q, hal.mp al, q3⟩ c2
          · rw [if_neg q, if_neg c3]
        · rw [if_neg al, hL, hP i hi, if_neg hne, if_pos c1, h5, h17, hsh, h11]
          by_cases q : kind i = 2
          · rw [if_pos q, if_pos (by decide), if_neg c3]
          · rw [if_neg q, if_neg c3]
      rw [hR, hT, u3, v3]
      exact because0 rfl rfl rfl
    by_cases c4 : P6 i = limit i
    · have hR : f_X0_reason G P6 RL6 kind limit ret quo refers n i ro = 4 := by
        unfold f_X0_reason
        rw [hro, if_neg hne, if_pos c1, hE, if_pos rfl, if_pos c3, if_pos c4]
      have hT : f_X7_tellsWhy s rings P7 RL7 RP7 whys n i j = f_X7_because (f_X7_because whys 0 (-5) (-5)) 4 (limit i) (-5) := by
        unfold f_X7_tellsWhy
        by_cases al : f_X7_bits (rings j) = 1
        · rw [if_pos al, hL, hP i hi, if_neg hne, if_pos c1, h5, h17, hsh, h11]
          by_cases q : kind i = 2
          · rw [if_pos q, if_neg (by decide), if_pos, if_pos c3, if_pos c4]
            by_cases q3 : f_X7_payer s P7 n i = -1
            · exact q3
            · exact absurd ⟨q, hal.mp al, q3⟩ c2
          · rw [if_neg q, if_pos c3, if_pos c4]
        · rw [if_neg al, hL, hP i hi, if_neg hne, if_pos c1, h5, h17, hsh, h11]
          by_cases q : kind i = 2
          · rw [if_pos q, if_pos (by decide), if_pos c3, if_pos c4]
          · rw [if_neg q, if_pos c3, if_pos c4]
      rw [hR, hT, u4, v4]
      exact because0 rfl rfl rfl
    by_cases c5 : f_X0_isAlone G i = 0
    · have al : ¬ f_X7_bits (rings j) = 1 := fun q => hal.mp q c5
      have hR : f_X0_reason G P6 RL6 kind limit ret quo refers n i ro = 5 := by
        unfold f_X0_reason
        rw [hro, if_neg hne, if_pos c1, hE, if_pos rfl, if_pos c3, if_neg c4, if_pos c5]
      have hT : f_X7_tellsWhy s rings P7 RL7 RP7 whys n i j = f_X7_because (f_X7_because whys 0 (-5) (-5)) 5 (rings j) (RP7 j) := by
        unfold f_X7_tellsWhy
        rw [if_neg al, hL, hP i hi, if_neg hne, if_pos c1, h5, h17, hsh, h11]
        by_cases q : kind i = 2
        · rw [if_pos q, if_pos (by decide), if_pos c3, if_neg c4]
        · rw [if_neg q, if_pos c3, if_neg c4, if_pos (by decide)]
      rw [hR, hT, u5, v5, hr, hrp]
      exact because0 rfl rfl rfl
    · have al := hal.mpr c5
      have hR : f_X0_reason G P6 RL6 kind limit ret quo refers n i ro = 6 := by
        unfold f_X0_reason
        rw [hro, if_neg hne, if_pos c1, hE, if_pos rfl, if_pos c3, if_neg c4, if_neg c5]
      have hT : f_X7_tellsWhy s rings P7 RL7 RP7 whys n i j = f_X7_because (f_X7_because whys 0 (-5) (-5)) 6 (RL6 j - P6 i) (-5) := by
        unfold f_X7_tellsWhy
        rw [if_pos al, hL, hP i hi, if_neg hne, if_pos c1, h5, h17, hsh, h11]
        by_cases q : kind i = 2
        · rw [if_pos q, if_neg (by decide), if_pos, if_pos c3, if_neg c4]
          by_cases q3 : f_X7_payer s P7 n i = -1
          · exact q3
          · exact absurd ⟨q, c5, q3⟩ c2
        · rw [if_neg q, if_pos c3, if_neg c4, if_neg (by decide)]
      rw [hR, hT, u6, v6]
      exact because0 rfl rfl rfl
