/-! the reference's ladder -/
/-- the reference has it so -/
def OM (n : Nat) (refers : Nat → Int32) (z : Nat × (Nat → Int32)) (L : List Nat) : Prop := z.1 = L.length ∧ ∀ k, k < L.length → z.2 k = LG n refers (L.getD k 0)
theorem OM_step {n : Nat} (hn : n ≤ 6) {refers : Nat → Int32} {W : (Nat → Int32) × (Nat → Int32)} {U : Nat → Int32} (hG : ∀ c, c < n → W.2 c = LG n refers c) (hU : ∀ c, c < n → U c = nI (RH n refers c)) {a b : Nat} (ha : a < 6) (hb : b < n) {z : Nat × (Nat → Int32)} {L : List Nat} (h : OM n refers z L) : OM n refers (bd_X7_ladder_23 a W U b z) (stepL n refers a b L) := by
  obtain ⟨h1, h2⟩ := h
  unfold bd_X7_ladder_23 stepL
  rw [hG b hb, hU b hb]
  have hlt := RH_lt hn refers hb
  by_cases e1 : (LG n refers b &&& (((1 : Int32) <<< (nI b &&& 31)) - (1 : Int32))) = 0
  · rw [if_pos e1]
    by_cases e2 : RH n refers b = a
    · have e3 : leadB n refers b = true ∧ RH n refers b = a := ⟨decide_eq_true e1, e2⟩
      rw [if_pos (by rw [e2]), if_pos e3]
      refine ⟨by show z.1 + 1 = _; rw [List.length_append, List.length_singleton, h1], fun k hk => ?_⟩
      rw [List.length_append, List.length_singleton] at hk
      show upd z.2 z.1 (LG n refers b) k = _
      by_cases q : k = L.length
      · subst q
        rw [← h1, pk_us, h1, gd_r]
      · rw [pk_un (by omega), gd_l (by omega)]
        exact h2 k (by omega)
    · rw [if_neg (fun q => e2 ((nI_eq (by omega) (by omega)).mp q)), if_neg (fun q => e2 q.2)]
      exact ⟨h1, h2⟩
  · rw [if_neg e1, ite_self, if_neg (fun q => e1 (of_decide_eq_true q.1))]
    exact ⟨h1, h2⟩
theorem OM_lev {n : Nat} (hn : n ≤ 6) {refers : Nat → Int32} {W : (Nat → Int32) × (Nat → Int32)} {U : Nat → Int32} (hG : ∀ c, c < n → W.2 c = LG n refers c) (hU : ∀ c, c < n → U c = nI (RH n refers c)) {a : Nat} (ha : a < 6) {z : Nat × (Nat → Int32)} {L : List Nat} (h : OM n refers z L) : OM n refers (bd_X7_ladder_15 n W U a z) (itr (stepL n refers a) n L) := by
  unfold bd_X7_ladder_15
  exact itr2_inv (b := bd_X7_ladder_23 a W U) (c := stepL n refers a) (P := fun b z L => OM n refers z L) h (n := n) (fun b x y hb q => OM_step hn hG hU ha hb q)
theorem LL_more {n : Nat} (hn : n ≤ 6) {refers : Nat → Int32} {a : Nat} (ha : n ≤ a) (L : List Nat) : itr (stepL n refers a) n L = L := by
  refine itr_inv (b := stepL n refers a) (P := fun _ y => y = L) rfl (n := n) (fun b y hb ih => ?_)
  unfold stepL
  have := RH_lt hn refers hb
  rw [if_neg (fun q => by omega), ih]
theorem OM_all {n : Nat} (hn : n ≤ 6) {refers : Nat → Int32} {W : (Nat → Int32) × (Nat → Int32)} {U : Nat → Int32} (hG : ∀ c, c < n → W.2 c = LG n refers c) (hU : ∀ c, c < n → U c = nI (RH n refers c)) (f : Nat → Int32) : OM n refers (itr (bd_X7_ladder_15 n W U) 6 (0, f)) (LL n refers) := by
  have h1 : OM n refers (itr (bd_X7_ladder_15 n W U) 6 (0, f)) (itr (fun a L => itr (stepL n refers a) n L) 6 []) := itr2_inv (b := bd_X7_ladder_15 n W U) (c := fun a L => itr (stepL n refers a) n L) (P := fun _ z L => OM n refers z L) (x := (0, f)) (y := []) ⟨rfl, fun k hk => absurd (show k < 0 from hk) (Nat.not_lt_zero k)⟩ (n := 6) (fun a u v ha ih => OM_lev hn hG hU ha ih)
  have h2 : ∀ d, itr (fun a L => itr (stepL n refers a) n L) (n + d) [] = LL n refers := by
    intro d
    induction d with
    | zero => rfl
    | succ d ih =>
      show itr (stepL n refers (n + d)) n (itr (fun a L => itr (stepL n refers a) n L) (n + d) []) = _
      rw [ih, LL_more hn (by omega)]
  have h3 := h2 (6 - n)
  rw [show n + (6 - n) = 6 by omega] at h3
  rw [h3] at h1
  exact h1
