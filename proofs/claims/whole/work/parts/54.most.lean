/-! what one would pay, were it alone: both say so alike -/
theorem ne1 {k : Nat} (hk : k ≤ 3) (h : k ≠ 1) : ¬ nI k = (1 : Int32) := fun q => h ((nI_eq (a := k) (b := 1) (by omega) (by decide)).mp q)
theorem ne2 {k : Nat} (hk : k ≤ 3) (h : k ≠ 2) : ¬ nI k = (2 : Int32) := fun q => h ((nI_eq (a := k) (b := 2) (by omega) (by decide)).mp q)
theorem ne3 {k : Nat} (hk : k ≤ 3) (h : k ≠ 3) : ¬ nI k = (3 : Int32) := fun q => h ((nI_eq (a := k) (b := 3) (by omega) (by decide)).mp q)
def shN (kd qu L : Nat) : Nat := if kd = 1 then L * qu / 100 else L
def moN (kd li re qu L : Nat) : Nat := if shN kd qu L ≤ re then 0 else if (if kd = 3 then L else shN kd qu L - re) ≤ li then (if kd = 3 then L else shN kd qu L - re) else li
theorem moN_le {kd li re qu L : Nat} : moN kd li re qu L ≤ li := by
  unfold moN
  generalize (if kd = 3 then L else shN kd qu L - re) = y
  split
  · omega
  · split <;> omega
def SV (n : Nat) (kind limit ret quo : Nat → Int32) (kd li re qu : Nat → Nat) : Prop := ∀ c, c < n → kind c = nI (kd c) ∧ kd c ≤ 3 ∧ limit c = nI (li c) ∧ li c ≤ 99 ∧ ret c = nI (re c) ∧ re c ≤ 20 ∧ quo c = nI (qu c) ∧ qu c ≤ 100
theorem shN_le {kd qu L : Nat} (hq : qu ≤ 100) : shN kd qu L ≤ L := by
  unfold shN
  split
  · have : L * qu ≤ L * 100 := Nat.mul_le_mul_left L hq
    omega
  · exact Nat.le_refl _
theorem mulsmall {L qu : Nat} (hL : L < 1000) (hq : qu ≤ 100) : L * qu ≤ 100000 := Nat.le_trans (Nat.mul_le_mul (show L ≤ 1000 by omega) hq) (Nat.le_refl _)
theorem share6 {n : Nat} {kind limit ret quo : Nat → Int32} {kd li re qu : Nat → Nat} (h : SV n kind limit ret quo kd li re qu) {c : Nat} (hc : c < n) {L : Nat} (hL : L < 1000) : f_X0_shareOf kind quo (nI L) c = nI (shN (kd c) (qu c) L) := by
  obtain ⟨h1, h2, h3, h4, h5, h6, h7, h8⟩ := h c hc
  have hm := mulsmall hL h8
  unfold f_X0_shareOf shN
  rw [h1, h7]
  by_cases e : kd c = 1
  · rw [if_pos (by rw [e]; rfl), if_pos e, pk_mul]
    exact pk_div (a := L * qu c) (d := 100) (by omega) (by omega) (by omega)
  · rw [if_neg (ne1 h2 e), if_neg e]
theorem most6 {n : Nat} {kind limit ret quo : Nat → Int32} {kd li re qu : Nat → Nat} (h : SV n kind limit ret quo kd li re qu) {c : Nat} (hc : c < n) {L : Nat} (hL : L < 1000) : f_X0_mostOf kind limit ret quo (nI L) c = nI (moN (kd c) (li c) (re c) (qu c) L) := by
  obtain ⟨h1, h2, h3, h4, h5, h6, h7, h8⟩ := h c hc
  have hs := shN_le (kd := kd c) (L := L) h8
  unfold f_X0_mostOf moN
  rw [share6 h hc hL, h1, h3, h5]
  generalize shN (kd c) (qu c) L = s at hs ⊢
  by_cases e : s ≤ re c
  · rw [if_neg (fun q => by have := (nI_ltI (by omega) (by omega)).mp q; omega), if_pos e]
    rfl
  · rw [if_pos ((nI_ltI (by omega) (by omega)).mpr (by omega)), if_neg e]
    by_cases k : kd c = 3
    · rw [if_pos (by rw [k]; rfl), if_pos k]
      by_cases g : L ≤ li c
      · rw [if_neg (fun q => by have := (nI_ltI (by omega) (by omega)).mp q; omega), if_pos g]
      · rw [if_pos ((nI_ltI (by omega) (by omega)).mpr (by omega)), if_neg g]
    · rw [if_neg (ne3 h2 k), if_neg k, pk_sub (by omega)]
      by_cases g : s - re c ≤ li c
      · rw [if_neg (fun q => by have := (nI_ltI (by omega) (by omega)).mp q; omega), if_pos g]
      · rw [if_pos ((nI_ltI (by omega) (by omega)).mpr (by omega)), if_neg g]
/-- the reference's rows are the class's -/
def SM (n : Nat) (s kind limit ret quo refers : Nat → Int32) : Prop := ∀ c, c < n → s (5 + c) = kind c ∧ s (11 + c) = limit c ∧ s (17 + c) = ret c ∧ s (23 + c) = quo c ∧ s (29 + c) = refers c
theorem stead7 {n : Nat} {s kind limit ret quo refers : Nat → Int32} {kd li re qu : Nat → Nat} (h : SV n kind limit ret quo kd li re qu) (hs : SM n s kind limit ret quo refers) {c : Nat} (hc : c < n) {L : Nat} (hL : L < 1000) : f_X7_stead s (nI L) c = nI (shN (kd c) (qu c) L) := by
  obtain ⟨s1, s2, s3, s4, s5⟩ := hs c hc
  rw [← share6 h hc hL]
  unfold f_X7_stead f_X0_shareOf
  rw [s1, s4]
theorem plain7 {n : Nat} {s kind limit ret quo refers : Nat → Int32} {kd li re qu : Nat → Nat} (h : SV n kind limit ret quo kd li re qu) (hs : SM n s kind limit ret quo refers) {c : Nat} (hc : c < n) {x : Nat} (hx : x < 1000) : f_X7_plain s (nI x) c = nI (if x ≤ re c then 0 else if x - re c ≤ li c then x - re c else li c) := by
  obtain ⟨h1, h2, h3, h4, h5, h6, h7, h8⟩ := h c hc
  obtain ⟨s1, s2, s3, s4, s5⟩ := hs c hc
  unfold f_X7_plain f_X7_least
  rw [s2, s3, h3, h5]
  by_cases e : x ≤ re c
  · rw [if_pos e]
    by_cases g : x = re c
    · rw [g, pk_sub (Nat.le_refl _), Nat.sub_self, if_pos (show (0 : Int32) ≤ nI 0 from Int32.le_refl _)]
      by_cases w : li c = 0
      · rw [if_pos ((nI_leI (by omega) (by omega)).mpr (by omega)), w]
      · rw [if_neg (fun q => by have := (nI_leI (by omega) (by omega)).mp q; omega)]
    · rw [if_neg (fun q => absurd (pk_sneg (a := x) (b := re c) (by omega) (by omega)) (Int32.not_lt.mpr q))]
      rfl
  · rw [if_neg e, pk_sub (by omega), if_pos (nI_pos' (by omega))]
    by_cases g : x - re c ≤ li c
    · rw [if_pos g]
      by_cases w : li c ≤ x - re c
      · rw [if_pos ((nI_leI (by omega) (by omega)).mpr w)]
        exact congrArg nI (by omega)
      · rw [if_neg (fun q => w ((nI_leI (by omega) (by omega)).mp q))]
    · rw [if_neg g, if_pos ((nI_leI (by omega) (by omega)).mpr (by omega))]
theorem most7 {n : Nat} {s kind limit ret quo refers : Nat → Int32} {kd li re qu : Nat → Nat} (h : SV n kind limit ret quo kd li re qu) (hs : SM n s kind limit ret quo refers) {paid : Nat → Int32} {al : Int32} {c : Nat} (hc : c < n) {L : Nat} (hL : L < 1000) : f_X7_most s paid (nI L) al n c = if ¬ al = 0 ∧ kd c = 2 ∧ ¬ f_X7_payer s paid n c = -1 then 0 else nI (moN (kd c) (li c) (re c) (qu c) L) := by
  obtain ⟨h1, h2, h3, h4, h5, h6, h7, h8⟩ := h c hc
  obtain ⟨s1, s2, s3, s4, s5⟩ := hs c hc
  have hsl := shN_le (kd := kd c) (L := L) h8
  have fin : nI (moN (kd c) (li c) (re c) (qu c) L) = nI (moN (kd c) (li c) (re c) (qu c) L) := rfl
  unfold f_X7_most
  rw [stead7 h hs hc hL, plain7 h hs hc (by omega), s1, s2, h1, h3]
  by_cases k : kd c = 3
  · rw [if_pos (show nI (kd c) = (3 : Int32) by rw [k]; rfl), show (if ¬ al = 0 ∧ kd c = 2 ∧ ¬ f_X7_payer s paid n c = -1 then (0 : Int32) else nI (moN (kd c) (li c) (re c) (qu c) L)) = nI (moN (kd c) (li c) (re c) (qu c) L) from if_neg (fun q => by have := q.2.1; omega)]
    unfold moN
    generalize shN (kd c) (qu c) L = x at hsl ⊢
    rw [show (if kd c = 3 then L else x - re c) = L from if_pos k]
    by_cases e : x ≤ re c
    · rw [if_pos e, if_pos e, if_pos (show nI 0 ≤ (0 : Int32) from Int32.le_refl _)]
      rfl
    · rw [if_neg e, if_neg e]
      by_cases w : li c = 0
      · have w2 : (if x - re c ≤ li c then x - re c else li c) = 0 := by split <;> omega
        have w3 : (if L ≤ li c then L else li c) = 0 := by split <;> omega
        rw [w2, w3, if_pos (show nI 0 ≤ (0 : Int32) from Int32.le_refl _)]
        rfl
      · have w2 : 0 < (if x - re c ≤ li c then x - re c else li c) := by split <;> omega
        have w4 : (if x - re c ≤ li c then x - re c else li c) ≤ 99 := by split <;> omega
        generalize (if x - re c ≤ li c then x - re c else li c) = y at w2 w4 ⊢
        rw [if_neg (show ¬ nI y ≤ (0 : Int32) from fun q => by have := (nI_leI (a := y) (b := 0) (by omega) (by omega)).mp q; omega)]
        unfold f_X7_least
        by_cases g : L ≤ li c
        · rw [if_pos g]
          by_cases v : li c ≤ L
          · rw [if_pos ((nI_leI (by omega) (by omega)).mpr v)]; exact congrArg nI (by omega)
          · rw [if_neg (fun q => v ((nI_leI (by omega) (by omega)).mp q))]
        · rw [if_neg g, if_pos ((nI_leI (by omega) (by omega)).mpr (by omega))]
  · rw [if_neg (ne3 h2 k)]
    have e0 : moN (kd c) (li c) (re c) (qu c) L = (if shN (kd c) (qu c) L ≤ re c then 0 else if shN (kd c) (qu c) L - re c ≤ li c then shN (kd c) (qu c) L - re c else li c) := by
      unfold moN
      rw [show (if kd c = 3 then L else shN (kd c) (qu c) L - re c) = shN (kd c) (qu c) L - re c from if_neg k]
    rw [e0]
    generalize (if shN (kd c) (qu c) L ≤ re c then 0 else if shN (kd c) (qu c) L - re c ≤ li c then shN (kd c) (qu c) L - re c else li c) = y
    by_cases a0 : al = 0
    · rw [if_pos a0, if_neg (fun q => q.1 a0)]
    · rw [if_neg a0]
      by_cases k2 : kd c = 2
      · rw [if_pos (show nI (kd c) = (2 : Int32) by rw [k2]; rfl)]
        by_cases p : f_X7_payer s paid n c = -1
        · rw [if_pos p, if_neg (fun q => q.2.2 p)]
        · rw [if_neg p, if_pos ⟨a0, k2, p⟩]
      · rw [if_neg (ne2 h2 k2), if_neg (fun q => k2 q.2.1)]
