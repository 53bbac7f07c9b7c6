/-! an image taken, and brought back: alike -/
theorem cpy_at {f g : Nat → Int32} {m k : Nat} (h : k < m) : va_cpy f g 0 0 m k = f k := by
  unfold va_cpy
  rw [if_pos ⟨Nat.zero_le k, by omega⟩]
  congr 1
  omega
theorem TD_like {n lo : Nat} {kind limit ret quo refers : Nat → Int32} {q1 q2 q3 : Nat} {a1 b1 a2 b2 a3 b3 s : Nat → Int32} (h : TD n lo kind limit ret quo refers q1 q2 q3 a1 b1 a2 b2 a3 b3 s) {kind' limit' ret' quo' refers' a1' b1' a2' b2' a3' b3' t : Nat → Int32} (k1 : ∀ c, c < 6 → kind' c = kind c) (k2 : ∀ c, c < 6 → limit' c = limit c) (k3 : ∀ c, c < 6 → ret' c = ret c) (k4 : ∀ c, c < 6 → quo' c = quo c) (k5 : ∀ c, c < 6 → refers' c = refers c) (r1 : ∀ c, c < 8 → a1' c = a1 c) (r2 : ∀ c, c < 8 → b1' c = b1 c) (r3 : ∀ c, c < 8 → a2' c = a2 c) (r4 : ∀ c, c < 8 → b2' c = b2 c) (r5 : ∀ c, c < 8 → a3' c = a3 c) (r6 : ∀ c, c < 8 → b3' c = b3 c) (ht : ∀ j, j < 85 → t j = s j) : TD n lo kind' limit' ret' quo' refers' q1 q2 q3 a1' b1' a2' b2' a3' b3' t := by
  obtain ⟨⟨hn, h1⟩, h2, h3, h4, h5, w1, w2, w3, w4, w5, w6, w7, w8, w9⟩ := h
  refine ⟨⟨hn, fun c hc => ?_⟩, fun c hc => ?_, (ht 0 (by omega)).trans h3, (ht 1 (by omega)).trans h4, h5, (ht 2 (by omega)).trans w1, (ht 3 (by omega)).trans w2, (ht 4 (by omega)).trans w3, w4, w5, w6, fun k hk => ?_, fun k hk => ?_, fun k hk => ?_⟩
  · rw [k1 c (by omega), k2 c (by omega), k3 c (by omega), k4 c (by omega), k5 c (by omega)]; exact h1 c hc
  · obtain ⟨g1, g2, g3, g4, g5⟩ := h2 c hc
    refine ⟨?_, ?_, ?_, ?_, ?_⟩
    · rw [ht _ (by omega), k1 c (by omega)]; exact g1
    · rw [ht _ (by omega), k2 c (by omega)]; exact g2
    · rw [ht _ (by omega), k3 c (by omega)]; exact g3
    · rw [ht _ (by omega), k4 c (by omega)]; exact g4
    · rw [ht _ (by omega), k5 c (by omega)]; exact g5
  · rw [ht _ (by omega), ht _ (by omega), r1 k (by omega), r2 k (by omega)]; exact w7 k hk
  · rw [ht _ (by omega), ht _ (by omega), r3 k (by omega), r4 k (by omega)]; exact w8 k hk
  · rw [ht _ (by omega), ht _ (by omega), r5 k (by omega), r6 k (by omega)]; exact w9 k hk
theorem e_image {n lo : Nat} {kind limit ret quo refers : Nat → Int32} {q1 q2 q3 : Nat} {a1 b1 a2 b2 a3 b3 s : Nat → Int32} (h : TD n lo kind limit ret quo refers q1 q2 q3 a1 b1 a2 b2 a3 b3 s) (K L R Q F A1 B1 A2 B2 A3 B3 kept : Nat → Int32) : (f_X6_image kind limit ret quo refers (nI lo) a1 b1 a2 b2 a3 b3 K L R Q F A1 B1 A2 B2 A3 B3 n q1 q2 q3).1 = (f_X7_image s kept).1 ∧ (f_X6_image kind limit ret quo refers (nI lo) a1 b1 a2 b2 a3 b3 K L R Q F A1 B1 A2 B2 A3 B3 n q1 q2 q3).2.1 = (f_X7_image s kept).2.2 ∧ ∀ z, z = (f_X6_image kind limit ret quo refers (nI lo) a1 b1 a2 b2 a3 b3 K L R Q F A1 B1 A2 B2 A3 B3 n q1 q2 q3).2.2 → z.2.2.2.2.2.1 = n ∧ z.2.2.2.2.2.2.1 = nI lo ∧ TD n lo z.1 z.2.1 z.2.2.1 z.2.2.2.1 z.2.2.2.2.1 z.2.2.2.2.2.2.2.2.2.1 z.2.2.2.2.2.2.2.2.2.2.2.2.1 z.2.2.2.2.2.2.2.2.2.2.2.2.2.2.2 z.2.2.2.2.2.2.2.1 z.2.2.2.2.2.2.2.2.1 z.2.2.2.2.2.2.2.2.2.2.1 z.2.2.2.2.2.2.2.2.2.2.2.1 z.2.2.2.2.2.2.2.2.2.2.2.2.2.1 z.2.2.2.2.2.2.2.2.2.2.2.2.2.2.1 (f_X7_image s kept).2.1 := by
  unfold f_X6_image f_X7_image f_X5_copyFrom f_X3_copyFrom f_X1_copyFrom f_X7_copiessk
  dsimp only
  refine ⟨h.2.2.1.symm, rfl, ?_⟩
  intro z hz
  subst hz
  dsimp only
  refine ⟨rfl, rfl, TD_like h (fun c hc => cpy_at hc) (fun c hc => cpy_at hc) (fun c hc => cpy_at hc) (fun c hc => cpy_at hc) (fun c hc => cpy_at hc) (fun c hc => cpy_at hc) (fun c hc => cpy_at hc) (fun c hc => cpy_at hc) (fun c hc => cpy_at hc) (fun c hc => cpy_at hc) (fun c hc => cpy_at hc) (fun j hj => ?_)⟩
  rw [copies_at (b := bd_X7_copiessk_2 s) (f := s) (fun k z => rfl) 85 j, if_pos hj]
theorem e_undo {n lo m l0 : Nat} {kind limit ret quo refers : Nat → Int32} {q1 q2 q3 p1 p2 p3 : Nat} {a1 b1 a2 b2 a3 b3 s K L R Q F A1 B1 A2 B2 A3 B3 kept : Nat → Int32} (h : TD n lo kind limit ret quo refers q1 q2 q3 a1 b1 a2 b2 a3 b3 s) (hk : TD m l0 K L R Q F p1 p2 p3 A1 B1 A2 B2 A3 B3 kept) (it : Int32) : (f_X6_undo it kind limit ret quo refers (nI lo) a1 b1 a2 b2 a3 b3 K L R Q F (nI l0) A1 B1 A2 B2 A3 B3 n q1 q2 q3 m p1 p2 p3).1 = (f_X7_undo s kept it).1 ∧ ∀ z, z = (f_X6_undo it kind limit ret quo refers (nI lo) a1 b1 a2 b2 a3 b3 K L R Q F (nI l0) A1 B1 A2 B2 A3 B3 n q1 q2 q3 m p1 p2 p3).2 → ∃ lz, z.2.2.2.2.2.2.1 = nI lz ∧ TD z.2.2.2.2.2.1 lz z.1 z.2.1 z.2.2.1 z.2.2.2.1 z.2.2.2.2.1 z.2.2.2.2.2.2.2.2.2.1 z.2.2.2.2.2.2.2.2.2.2.2.2.1 z.2.2.2.2.2.2.2.2.2.2.2.2.2.2.2 z.2.2.2.2.2.2.2.1 z.2.2.2.2.2.2.2.2.1 z.2.2.2.2.2.2.2.2.2.2.1 z.2.2.2.2.2.2.2.2.2.2.2.1 z.2.2.2.2.2.2.2.2.2.2.2.2.2.1 z.2.2.2.2.2.2.2.2.2.2.2.2.2.2.1 (f_X7_undo s kept it).2 := by
  have ct : ∀ j, j < 85 → f_X7_copiesks s kept j = kept j := fun j hj => by
    unfold f_X7_copiesks
    rw [copies_at (b := bd_X7_copiesks_2 kept) (f := kept) (fun k z => rfl) 85 j, if_pos hj]
  unfold f_X6_undo f_X7_undo
  by_cases c : it = 0
  · rw [if_pos c, if_pos c]
    refine ⟨rfl, ?_⟩
    intro z hz
    subst hz
    exact ⟨lo, rfl, h⟩
  · rw [if_neg c, if_neg c]
    unfold f_X5_copyFrom f_X3_copyFrom f_X1_copyFrom
    dsimp only
    refine ⟨(hk.2.2.1.symm).trans (ct 0 (by omega)).symm, ?_⟩
    intro z hz
    subst hz
    dsimp only
    exact ⟨l0, rfl, TD_like hk (fun c hc => cpy_at hc) (fun c hc => cpy_at hc) (fun c hc => cpy_at hc) (fun c hc => cpy_at hc) (fun c hc => cpy_at hc) (fun c hc => cpy_at hc) (fun c hc => cpy_at hc) (fun c hc => cpy_at hc) (fun c hc => cpy_at hc) (fun c hc => cpy_at hc) (fun c hc => cpy_at hc) ct⟩
