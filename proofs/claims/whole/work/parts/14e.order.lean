/-! the ladder: the least of each ring, by rungs, then by numbers; both have it so -/
def leadB (n : Nat) (refers : Nat → Int32) (c : Nat) : Bool := decide ((LG n refers c &&& (((1 : Int32) <<< (nI c &&& 31)) - (1 : Int32))) = 0)
theorem b_low : ∀ c, c < 6 → ∀ i, i < 32 → bt (((1 : Int32) <<< (nI c &&& 31)) - (1 : Int32)) i = decide (i < c) := by decide +kernel
theorem lead_iff {n : Nat} (hn : n ≤ 6) (refers : Nat → Int32) {c : Nat} (hc : c < n) : leadB n refers c = true ↔ ∀ d, d < c → gB (tB n refers) c d = false := by
  unfold leadB
  rw [decide_eq_true_eq]
  constructor
  · intro h d hd
    have h2 : bt (LG n refers c &&& (((1 : Int32) <<< (nI c &&& 31)) - (1 : Int32))) d = bt 0 d := by rw [h]
    rw [b_and, b_low c (by omega) d (by omega), b_0, decide_eq_true hd, Bool.and_true] at h2
    rw [← LG_bit hn refers hc (by omega)]; exact h2
  · intro h
    refine b_ext (fun i hi => ?_)
    rw [b_and, b_low c (by omega) i hi, b_0]
    by_cases e : i < c
    · rw [LG_bit hn refers hc (by omega), h i e, Bool.false_and]
    · rw [decide_eq_false e, Bool.and_false]
def stepL (n : Nat) (refers : Nat → Int32) (a b : Nat) (L : List Nat) : List Nat := if leadB n refers b = true ∧ RH n refers b = a then L ++ [b] else L
def LL (n : Nat) (refers : Nat → Int32) : List Nat := itr (fun a L => itr (stepL n refers a) n L) n []
def OI (n : Nat) (refers : Nat → Int32) (a b : Nat) (L : List Nat) : Prop := (∀ c ∈ L, c < n ∧ leadB n refers c = true ∧ (RH n refers c < a ∨ (RH n refers c = a ∧ c < b))) ∧ L.Pairwise (fun c d => RH n refers c < RH n refers d ∨ (RH n refers c = RH n refers d ∧ c < d)) ∧ ∀ c, c < n → leadB n refers c = true → (RH n refers c < a ∨ (RH n refers c = a ∧ c < b)) → c ∈ L
theorem OI_step {n : Nat} {refers : Nat → Int32} {a b : Nat} (hb : b < n) {L : List Nat} (h : OI n refers a b L) : OI n refers a (b + 1) (stepL n refers a b L) := by
  obtain ⟨h1, h2, h3⟩ := h
  unfold stepL
  by_cases e : leadB n refers b = true ∧ RH n refers b = a
  · rw [if_pos e]
    refine ⟨fun c hc => ?_, List.pairwise_append.mpr ⟨h2, List.pairwise_singleton _ _, fun c hc d hd => ?_⟩, fun c hc hl hp => ?_⟩
    · rcases List.mem_append.mp hc with q | q
      · obtain ⟨g1, g2, g3⟩ := h1 c q
        exact ⟨g1, g2, by omega⟩
      · rw [List.mem_singleton] at q
        subst q
        exact ⟨hb, e.1, Or.inr ⟨e.2, by omega⟩⟩
    · rw [List.mem_singleton] at hd
      subst hd
      obtain ⟨-, -, g3⟩ := h1 c hc
      omega
    · by_cases q : c = b
      · subst q; exact List.mem_append_right _ (List.mem_singleton.mpr rfl)
      · exact List.mem_append_left _ (h3 c hc hl (by omega))
  · rw [if_neg e]
    refine ⟨fun c hc => ?_, h2, fun c hc hl hp => ?_⟩
    · obtain ⟨g1, g2, g3⟩ := h1 c hc
      exact ⟨g1, g2, by omega⟩
    · by_cases q : c = b
      · subst q
        refine h3 c hc hl ?_
        have : RH n refers c ≠ a := fun w => e ⟨hl, w⟩
        omega
      · exact h3 c hc hl (by omega)
theorem OI_lev {n : Nat} {refers : Nat → Int32} {a : Nat} {L : List Nat} (h : OI n refers a 0 L) : OI n refers (a + 1) 0 (itr (stepL n refers a) n L) := by
  obtain ⟨h1, h2, h3⟩ := itr_inv (b := stepL n refers a) (P := fun b L => OI n refers a b L) h (n := n) (fun b y hb ih => OI_step hb ih)
  refine ⟨fun c hc => ?_, h2, fun c hc hl hp => h3 c hc hl (by omega)⟩
  obtain ⟨g1, g2, g3⟩ := h1 c hc
  exact ⟨g1, g2, by omega⟩
theorem OI_0 {n : Nat} {refers : Nat → Int32} : OI n refers 0 0 [] := ⟨fun _ h => (by cases h), List.Pairwise.nil, fun _ _ _ h => absurd h (by omega)⟩
theorem OI_LL (n : Nat) (refers : Nat → Int32) : OI n refers n 0 (LL n refers) := itr_inv (b := fun a L => itr (stepL n refers a) n L) (P := fun a L => OI n refers a 0 L) OI_0 (n := n) (fun _ _ _ ih => OI_lev ih)
theorem OI_len {n : Nat} {refers : Nat → Int32} {a b : Nat} {L : List Nat} (h : OI n refers a b L) : L.length ≤ n := by
  obtain ⟨h1, h2, -⟩ := h
  refine fb_holes n L.length (fun i => L.getD i 0) (fun i hi => ?_) (fun i j hij hj => ?_)
  · rw [List.getD_eq_getElem?_getD, List.getElem?_eq_getElem hi]
    exact (h1 _ (List.getElem_mem hi)).1
  · have := List.pairwise_iff_getElem.mp h2 i j (by omega) hj hij
    rw [List.getD_eq_getElem?_getD, List.getElem?_eq_getElem (show i < L.length by omega), List.getD_eq_getElem?_getD, List.getElem?_eq_getElem hj]
    show L[i] ≠ L[j]
    intro e
    rw [e] at this
    omega
theorem gd_l {L : List Nat} {b k : Nat} (h : k < L.length) : (L ++ [b]).getD k 0 = L.getD k 0 := by rw [List.getD_eq_getElem?_getD, List.getD_eq_getElem?_getD, List.getElem?_append_left h]
theorem gd_r {L : List Nat} {b : Nat} : (L ++ [b]).getD L.length 0 = b := by rw [List.getD_eq_getElem?_getD, List.getElem?_append_right (Nat.le_refl _), Nat.sub_self]; rfl
/-- the class has it so -/
def OC (n : Nat) (refers : Nat → Int32) (z : Nat × (Nat → Int32) × (Nat → Int32) × (Nat → Int32)) (L : List Nat) : Prop := z.1 = L.length ∧ ∀ k, k < L.length → z.2.1 k = nI (L.getD k 0) ∧ z.2.2.1 k = LG n refers (L.getD k 0) ∧ z.2.2.2 k = nI (RH n refers (L.getD k 0))
theorem OC_step {n : Nat} (hn : n ≤ 6) {refers G U : Nat → Int32} (hG : ∀ c, c < n → G c = LG n refers c) (hU : ∀ c, c < n → U c = nI (RH n refers c)) {a b : Nat} (ha : a < 6) (hb : b < n) {z : Nat × (Nat → Int32) × (Nat → Int32) × (Nat → Int32)} {L : List Nat} (h : OC n refers z L) (hO : OI n refers a b L) : OC n refers (bd_X0_orderRings_20 G U a b z) (stepL n refers a b L) := by
  obtain ⟨h1, h2⟩ := h
  have hO2 := OI_len (OI_step hb hO)
  unfold bd_X0_orderRings_20
  unfold stepL at hO2 ⊢
  rw [hG b hb, hU b hb]
  have hlt := RH_lt hn refers hb
  by_cases e1 : (LG n refers b &&& (((1 : Int32) <<< (nI b &&& 31)) - (1 : Int32))) = 0
  · rw [if_pos e1]
    by_cases e2 : RH n refers b = a
    · have e3 : leadB n refers b = true ∧ RH n refers b = a := ⟨decide_eq_true e1, e2⟩
      rw [if_pos e3, List.length_append, List.length_singleton] at hO2
      rw [if_pos (by rw [e2]), if_pos e3, if_neg (fun q => by have := (nI_leI (a := 6) (b := z.1) (by omega) (by omega)).mp q; omega)]
      refine ⟨by show z.1 + 1 = _; rw [List.length_append, List.length_singleton, h1], fun k hk => ?_⟩
      rw [List.length_append, List.length_singleton] at hk
      show upd z.2.1 z.1 (nI b) k = _ ∧ upd z.2.2.1 z.1 (LG n refers b) k = _ ∧ upd z.2.2.2 z.1 (nI a) k = _
      by_cases q : k = L.length
      · subst q
        rw [← h1, pk_us, pk_us, pk_us, h1, gd_r, e2]
        exact ⟨rfl, rfl, rfl⟩
      · rw [pk_un (by omega), pk_un (by omega), pk_un (by omega), gd_l (by omega)]
        exact h2 k (by omega)
    · rw [if_neg (fun q => e2 ((nI_eq (by omega) (by omega)).mp q)), if_neg (fun q => e2 q.2)]
      exact ⟨h1, h2⟩
  · rw [if_neg e1, if_neg (fun q => e1 (of_decide_eq_true q.1))]
    exact ⟨h1, h2⟩
theorem itr2_inv {σ τ : Type} {b : Nat → σ → σ} {c : Nat → τ → τ} {P : Nat → σ → τ → Prop} {x : σ} {y : τ} (h0 : P 0 x y) : ∀ {n : Nat}, (∀ k u v, k < n → P k u v → P (k + 1) (b k u) (c k v)) → P n (itr b n x) (itr c n y)
  | 0, _ => h0
  | n + 1, hs => hs n _ _ (Nat.lt_succ_self n) (itr2_inv h0 (fun k u v hk => hs k u v (Nat.lt_succ_of_lt hk)))
theorem OC_all {n : Nat} (hn : n ≤ 6) {refers G U : Nat → Int32} (hG : ∀ c, c < n → G c = LG n refers c) (hU : ∀ c, c < n → U c = nI (RH n refers c)) (f g h : Nat → Int32) : OC n refers (itr (bd_X0_orderRings_7 G U n) n (0, f, g, h)) (LL n refers) := by
  refine (itr2_inv (b := bd_X0_orderRings_7 G U n) (c := fun a L => itr (stepL n refers a) n L) (P := fun a z L => OC n refers z L ∧ OI n refers a 0 L) (x := (0, f, g, h)) (y := []) ⟨⟨rfl, fun k hk => absurd (show k < 0 from hk) (Nat.not_lt_zero k)⟩, OI_0⟩ (n := n) (fun a u v ha ih => ?_)).1
  refine ⟨?_, OI_lev ih.2⟩
  unfold bd_X0_orderRings_7
  exact (itr2_inv (b := bd_X0_orderRings_20 G U a) (c := stepL n refers a) (P := fun b z L => OC n refers z L ∧ OI n refers a b L) ih (n := n) (fun b x y hb q => ⟨OC_step hn hG hU (by omega) hb q.1 q.2, OI_step hb q.2⟩)).1
