/-! the reference's places -/
/-- what the reference has built -/
def MLD (n : Nat) (refers : Nat → Int32) (reaches ringOf rungOf rings : Nat → Int32) (m : Nat) : Prop :=
  m = LM n refers ∧ (∀ c, c < n → reaches c = LT n refers c ∧ ringOf c = LG n refers c ∧ rungOf c = nI (RH n refers c)) ∧ ∀ k, k < m → rings k = LG n refers (LF n refers k)
theorem ladder7 {n : Nat} (hn : n ≤ 6) {s refers : Nat → Int32} (hs : ∀ c, c < n → s (29 + c) = refers c) (a b d e : Nat → Int32) : MLD n refers (f_X7_ladder s a b d e n).1 (f_X7_ladder s a b d e n).2.1 (f_X7_ladder s a b d e n).2.2.1 (f_X7_ladder s a b d e n).2.2.2.1 (f_X7_ladder s a b d e n).2.2.2.2 := by
  have hG : ∀ c, c < n → (f_X7_reach s a b n).2 c = LG n refers c := fun c hc => rings7 hn hs hc
  have hU : ∀ c, c < n → f_X7_climb s (f_X7_reach s a b n).2 d n c = nI (RH n refers c) := fun c hc => climb7 hn hs hG hc
  have hO := OM_all hn hG hU e
  have hT : ∀ c, c < n → (f_X7_reach s a b n).1 c = LT n refers c := fun c hc => reach7 hn hs hc
  unfold f_X7_ladder
  dsimp only
  generalize f_X7_climb s (f_X7_reach s a b n).2 d n = U at hU hO ⊢
  generalize f_X7_reach s a b n = W at hG hT hO ⊢
  generalize itr (bd_X7_ladder_15 n W U) 6 (0, e) = z at hO ⊢
  exact ⟨hO.1, fun c hc => ⟨hT c hc, hG c hc, hU c hc⟩, fun k hk => hO.2 k (by rw [← hO.1]; exact hk)⟩
theorem rungAt7 {n : Nat} (hn : n ≤ 6) {refers reaches ringOf rungOf rings : Nat → Int32} {m : Nat} (h : MLD n refers reaches ringOf rungOf rings m) {c k : Nat} (hc : c < n) (hk : k < m) (hg : gB (tB n refers) (LF n refers k) c = true) : f_X7_rungAt rings m c = nI k := by
  obtain ⟨h1, -, h3⟩ := h
  have hl := LM_le n refers
  have hbit : ∀ j, j < m → bt (rings j) c = gB (tB n refers) (LF n refers j) c := fun j hj => by rw [h3 j hj]; exact LG_bit hn refers (LF_in (by omega)).1 hc
  unfold f_X7_rungAt
  rw [srch_some (t := k) (r := nI k) (fun j hj => ?_) hk ?_]
  · rfl
  · unfold bd_X7_rungAt_2
    rw [if_neg (fun q => by have := (has7_0 (by omega)).mp q; rw [hbit k hk, hg] at this; cases this)]
  · unfold bd_X7_rungAt_2
    have g0 : gB (tB n refers) (LF n refers j) c = false := by
      cases q : gB (tB n refers) (LF n refers j) c
      · rfl
      · exact absurd (ix_one hn (by omega) (by omega) hc q hg) (by omega)
    rw [if_pos ((has7_0 (by omega)).mpr ((hbit j (by omega)).trans g0))]
