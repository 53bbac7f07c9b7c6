/-! rungs: both ways of finding them come to the one that is right -/
def supF (p : Nat → Bool) (f : Nat → Nat) : Nat → Nat
  | 0 => 0
  | m + 1 => if p m = true then (if supF p f m < f m + 1 then f m + 1 else supF p f m) else supF p f m
theorem supF_cong {p q : Nat → Bool} {f g : Nat → Nat} : ∀ {m : Nat}, (∀ k, k < m → p k = q k) → (∀ k, k < m → p k = true → f k = g k) → supF p f m = supF q g m
  | 0, _, _ => rfl
  | m + 1, h1, h2 => by
    have ih := supF_cong (m := m) (fun k hk => h1 k (by omega)) (fun k hk => h2 k (by omega))
    unfold supF
    rw [← h1 m (by omega), ih]
    by_cases e : p m = true
    · rw [if_pos e, if_pos e, h2 m (by omega) e]
    · rw [if_neg e, if_neg e]
theorem supF_ge {p : Nat → Bool} {f : Nat → Nat} : ∀ {m d : Nat}, d < m → p d = true → f d + 1 ≤ supF p f m
  | 0, d, h, _ => absurd h (Nat.not_lt_zero d)
  | m + 1, d, h, hp => by
    unfold supF
    by_cases e : d = m
    · subst e
      rw [if_pos hp]
      by_cases g : supF p f d < f d + 1
      · rw [if_pos g]; exact Nat.le_refl _
      · rw [if_neg g]; omega
    · have ih := supF_ge (m := m) (f := f) (show d < m by omega) hp
      by_cases g : p m = true
      · rw [if_pos g]
        by_cases g2 : supF p f m < f m + 1
        · rw [if_pos g2]; omega
        · rw [if_neg g2]; exact ih
      · rw [if_neg g]; exact ih
theorem supF_at {p : Nat → Bool} {f : Nat → Nat} : ∀ {m : Nat}, supF p f m = 0 ∨ ∃ d, d < m ∧ p d = true ∧ supF p f m = f d + 1
  | 0 => Or.inl rfl
  | m + 1 => by
    have ih := supF_at (p := p) (f := f) (m := m)
    unfold supF
    by_cases g : p m = true
    · rw [if_pos g]
      by_cases g2 : supF p f m < f m + 1
      · rw [if_pos g2]; exact Or.inr ⟨m, by omega, g, rfl⟩
      · rw [if_neg g2]
        rcases ih with h | ⟨d, h1, h2, h3⟩
        · exact Or.inl h
        · exact Or.inr ⟨d, by omega, h2, h3⟩
    · rw [if_neg g]
      rcases ih with h | ⟨d, h1, h2, h3⟩
      · exact Or.inl h
      · exact Or.inr ⟨d, by omega, h2, h3⟩
/-- what is right: 1 more than the greatest below -/
def rhoF (o : Nat → Nat → Bool) (n : Nat) : Nat → Nat → Nat
  | 0, _ => 0
  | k + 1, c => supF (o c) (rhoF o n k) n
theorem rhoF_st {o : Nat → Nat → Bool} {n : Nat} {mu : Nat → Nat} (hd : ∀ c d, c < n → d < n → o c d = true → mu d < mu c) : ∀ k c, c < n → mu c ≤ k → rhoF o n (k + 1) c = rhoF o n k c
  | 0, c, hc, h => by
    show supF (o c) (rhoF o n 0) n = 0
    rcases supF_at (p := o c) (f := rhoF o n 0) (m := n) with e | ⟨d, h1, h2, -⟩
    · exact e
    · exact absurd (hd c d hc h1 h2) (by omega)
  | k + 1, c, hc, h => supF_cong (fun _ _ => rfl) (fun d hdn ho => rhoF_st hd k d hdn (by have := hd c d hc hdn ho; omega))
def rho (o : Nat → Nat → Bool) (n : Nat) (c : Nat) : Nat := rhoF o n n c
theorem rho_eq {o : Nat → Nat → Bool} {n : Nat} {mu : Nat → Nat} (hd : ∀ c d, c < n → d < n → o c d = true → mu d < mu c) (hm : ∀ c, c < n → mu c ≤ n) {c : Nat} (hc : c < n) : rho o n c = supF (o c) (rho o n) n := (rhoF_st hd n c hc (hm c hc)).symm
theorem rho_lt {o : Nat → Nat → Bool} {n : Nat} {mu : Nat → Nat} (hd : ∀ c d, c < n → d < n → o c d = true → mu d < mu c) (hm : ∀ c, c < n → mu c ≤ n) (h0 : ∀ c, c < n → 0 < mu c) : ∀ k c, c < n → mu c ≤ k → rho o n c < mu c
  | 0, c, hc, h => absurd (h0 c hc) (by omega)
  | k + 1, c, hc, h => by
    rw [rho_eq hd hm hc]
    rcases supF_at (p := o c) (f := rho o n) (m := n) with e | ⟨d, h1, h2, h3⟩
    · rw [e]; exact h0 c hc
    · have g := hd c d hc h1 h2
      have ih := rho_lt hd hm h0 k d h1 (by omega)
      omega
/-- what it stands on: relations r (refers), t (reaches, closed), g (of one ring), o (below) -/
def gB (t : Nat → Nat → Bool) (c d : Nat) : Bool := decide (d = c) || (t c d && t d c)
def muT (t : Nat → Nat → Bool) (n c : Nat) : Nat := fb_ct (fun d => decide (d = c) || t c d) n
theorem ct_lt {p q : Nat → Bool} {n k : Nat} (h : ∀ j, j < n → p j = true → q j = true) (hk : k < n) (hp : p k = false) (hq : q k = true) : fb_ct p n < fb_ct q n := by
  have e := fb_ct_upd p true (i := k) (n := n) hk
  have h2 : fb_ct (fun j => if j = k then true else p j) n ≤ fb_ct q n := fb_ct_sub (fun j hj hx => by
    by_cases e : j = k
    · subst e; exact hq
    · rw [if_neg e] at hx; exact h j hj hx)
  rw [hp] at e
  simp only [Bool.false_eq_true, if_false, if_true] at e
  omega
theorem mu_lt {t : Nat → Nat → Bool} {n : Nat} (ht : ∀ c j i, c < n → j < n → t c j = true → t j i = true → t c i = true) {c d : Nat} (hc : c < n) (hdn : d < n) (h : t c d = true) (hg : gB t c d = false) : muT t n d < muT t n c := by
  unfold gB at hg
  rw [Bool.or_eq_false_iff, h, Bool.true_and, decide_eq_false_iff_not] at hg
  refine ct_lt (k := c) (fun j hj hx => ?_) hc ?_ ?_
  · rw [Bool.or_eq_true, decide_eq_true_eq] at hx ⊢
    rcases hx with e | e
    · subst e; exact Or.inr h
    · exact Or.inr (ht c d j hc hdn h e)
  · rw [hg.2, Bool.or_false, decide_eq_false_iff_not]; exact fun q => hg.1 q.symm
  · rw [decide_eq_true rfl, Bool.true_or]
theorem gB_rf (t : Nat → Nat → Bool) (c : Nat) : gB t c c = true := by unfold gB; rw [decide_eq_true rfl, Bool.true_or]
theorem gB_sy {t : Nat → Nat → Bool} {c d : Nat} (h : gB t c d = true) : gB t d c = true := by
  unfold gB at h ⊢
  rw [Bool.or_eq_true, Bool.and_eq_true, decide_eq_true_eq] at h ⊢
  rcases h with e | e
  · exact Or.inl e.symm
  · exact Or.inr ⟨e.2, e.1⟩
theorem gB_tr {t : Nat → Nat → Bool} {n : Nat} (ht : ∀ c j i, c < n → j < n → t c j = true → t j i = true → t c i = true) {c d e : Nat} (hc : c < n) (hd : d < n) (he : e < n) (h1 : gB t c d = true) (h2 : gB t d e = true) : gB t c e = true := by
  unfold gB at h1 h2 ⊢
  rw [Bool.or_eq_true, Bool.and_eq_true, decide_eq_true_eq] at h1 h2 ⊢
  rcases h1 with q | q
  · subst q; exact h2
  · rcases h2 with w | w
    · subst w; exact Or.inr q
    · exact Or.inr ⟨ht c d e hc hd q.1 w.1, ht e d c he hd w.2 q.2⟩
/-- below: one of the ring refers to it, and it isn't of the ring -/
def oP (r t : Nat → Nat → Bool) (n c d : Nat) : Prop := ∃ e, e < n ∧ gB t c e = true ∧ r e d = true ∧ gB t c d = false
theorem o_mu {r t : Nat → Nat → Bool} {n : Nat} (hr : ∀ c d, c < n → r c d = true → t c d = true) (ht : ∀ c j i, c < n → j < n → t c j = true → t j i = true → t c i = true) {c d : Nat} (hc : c < n) (hdn : d < n) (h : oP r t n c d) : muT t n d < muT t n c := by
  obtain ⟨e, h1, h2, h3, h4⟩ := h
  refine mu_lt ht hc hdn ?_ h4
  unfold gB at h2
  rw [Bool.or_eq_true, Bool.and_eq_true, decide_eq_true_eq] at h2
  rcases h2 with q | q
  · subst q; exact hr e d h1 h3
  · exact ht c e d hc h1 q.1 (hr e d h1 h3)
theorem o_ring {r t : Nat → Nat → Bool} {n : Nat} (ht : ∀ c j i, c < n → j < n → t c j = true → t j i = true → t c i = true) {c x d : Nat} (hc : c < n) (hx : x < n) (hd : d < n) (hg : gB t c x = true) (h : oP r t n c d) : oP r t n x d := by
  obtain ⟨e, h1, h2, h3, h4⟩ := h
  refine ⟨e, h1, gB_tr ht hx hc h1 (gB_sy hg) h2, h3, ?_⟩
  cases q : gB t x d
  · rfl
  · rw [gB_tr ht hc hx hd hg q] at h4; cases h4
theorem mu_le (t : Nat → Nat → Bool) (n c : Nat) : muT t n c ≤ n := fb_ct_le _ n
theorem mu_pos {t : Nat → Nat → Bool} {n c : Nat} (hc : c < n) : 0 < muT t n c := fb_ct_pos.mpr ⟨c, hc, by rw [decide_eq_true rfl, Bool.true_or]⟩
