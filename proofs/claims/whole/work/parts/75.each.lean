/-! what would be paid by another loss: alike -/
theorem td_su {n lo : Nat} {kind limit ret quo refers : Nat → Int32} {q1 q2 q3 : Nat} {a1 b1 a2 b2 a3 b3 s : Nat → Int32} (h : TD n lo kind limit ret quo refers q1 q2 q3 a1 b1 a2 b2 a3 b3 s) (v : Int32) : SU n (upd s 1 v) kind limit ret quo refers := by
  obtain ⟨h1, h2, -⟩ := h
  refine SVp_SU h1 (fun c hc => ?_)
  obtain ⟨g1, g2, g3, g4, g5⟩ := h2 c hc
  exact ⟨(pk_un (by omega)).trans g1, (pk_un (by omega)).trans g2, (pk_un (by omega)).trans g3, (pk_un (by omega)).trans g4, (pk_un (by omega)).trans g5⟩
/-- by a loss v both sides pay alike -/
theorem pay_by {n lo : Nat} {kind limit ret quo refers : Nat → Int32} {q1 q2 q3 : Nat} {a1 b1 a2 b2 a3 b3 s : Nat → Int32} (h : TD n lo kind limit ret quo refers q1 q2 q3 a1 b1 a2 b2 a3 b3 s) {x : Nat} (hx : x < 1000) {reach G U ringOf first bits rung : Nat → Int32} {m : Nat} (hb : BLD n refers reach G U ringOf first bits rung m) (M P6 RL RP a b d e P7 LO RQ mo : Nat → Int32) {c : Nat} (hc : c < n) : ∃ y, y ≤ 99 ∧ (f_X0_payAt G M P6 bits RL RP kind limit ret quo refers (nI x) n m (fun k => (first k).toNatClampNeg)).2.1 c = nI y ∧ (f_X7_pay (upd s 1 (nI x)) a b d e P7 LO RQ mo n).2.2.2.2.2.1 c = nI y := by
  obtain ⟨L, pd, lf, rp, -, -, -, -, -, e6, -, -⟩ := pay_both hx (td_su h (nI x)) pk_us hb (first_rf h.1.1 hb) M P6 RL RP a b d e P7 LO RQ mo
  obtain ⟨k1, k2, k3⟩ := e6 c hc
  exact ⟨pd c, k3, k1, k2⟩
theorem spz_b {n lo : Nat} {kind limit ret quo refers : Nat → Int32} {q1 q2 q3 : Nat} {a1 b1 a2 b2 a3 b3 s : Nat → Int32} (h : TD n lo kind limit ret quo refers q1 q2 q3 a1 b1 a2 b2 a3 b3 s) (r g u o F B R : Nat → Int32) : BLD n refers (f_X0_build r g u o F B R refers n).1 (f_X0_build r g u o F B R refers n).2.1 (f_X0_build r g u o F B R refers n).2.2.1 (f_X0_build r g u o F B R refers n).2.2.2.1 (f_X0_build r g u o F B R refers n).2.2.2.2.1 (f_X0_build r g u o F B R refers n).2.2.2.2.2.1 (f_X0_build r g u o F B R refers n).2.2.2.2.2.2.1 (f_X0_build r g u o F B R refers n).2.2.2.2.2.2.2 := build6 h.1.1 r g u o F B R refers
theorem e_more {n lo : Nat} {kind limit ret quo refers : Nat → Int32} {q1 q2 q3 : Nat} {a1 b1 a2 b2 a3 b3 s : Nat → Int32} (h : TD n lo kind limit ret quo refers q1 q2 q3 a1 b1 a2 b2 a3 b3 s) (r g u o M P F B R L RP a b d e P7 LO RQ mo : Nat → Int32) (x6 y6 x7 : Int32) (c : Int32) (r6 r7 : Nat) : (f_X6_more kind limit ret quo refers (nI lo) r g u o M P F B R L RP x6 y6 c n r6).1 = (f_X7_more s a b d e P7 LO RQ x7 mo c n r7).1 := by
  have hn := h.1.1
  have hlo := h.2.2.2.2.1
  have h1 := h.2.2.2.1
  unfold f_X6_more f_X7_more
  by_cases c1 : f_X7_isOne c n = 0
  · rw [if_pos ((one_iff (by omega)).mpr c1), if_pos c1]
  · rw [if_neg (fun q => c1 ((one_iff (by omega)).mp q)), if_neg c1]
    obtain ⟨i, hi, rfl⟩ := (isO_iff (by omega)).mp c1
    rw [nI_clamp (show i < 2 ^ 31 by omega), h1, show nI lo + (1 : Int32) = nI (lo + 1) from nI_1 lo]
    unfold f_X7_paidBy
    dsimp only
    have hB := spz_b h r g u o F B R
    unfold f_X0_settle
    dsimp only
    generalize f_X0_build r g u o F B R refers n = z at hB ⊢
    obtain ⟨y1, -, k1, k2⟩ := pay_by h (x := lo) (by omega) hB M P L RP (f_X7_pay (upd s 1 (nI (lo + 1))) a b d e P7 LO RQ mo n).1 (f_X7_pay (upd s 1 (nI (lo + 1))) a b d e P7 LO RQ mo n).2.1 (f_X7_pay (upd s 1 (nI (lo + 1))) a b d e P7 LO RQ mo n).2.2.1 (f_X7_pay (upd s 1 (nI (lo + 1))) a b d e P7 LO RQ mo n).2.2.2.1 (f_X7_pay (upd s 1 (nI (lo + 1))) a b d e P7 LO RQ mo n).2.2.2.2.2.1 (f_X7_pay (upd s 1 (nI (lo + 1))) a b d e P7 LO RQ mo n).2.2.2.2.2.2.1 (f_X7_pay (upd s 1 (nI (lo + 1))) a b d e P7 LO RQ mo n).2.2.2.2.2.2.2.1 (f_X7_pay (upd s 1 (nI (lo + 1))) a b d e P7 LO RQ mo n).2.2.2.2.2.2.2.2.2 hi
    obtain ⟨y2, -, j1, j2⟩ := pay_by h (x := lo + 1) (by omega) hB (f_X0_payAt z.2.1 M P z.2.2.2.2.2.1 L RP kind limit ret quo refers (nI lo) n z.2.2.2.2.2.2.2 (fun k => (z.2.2.2.2.1 k).toNatClampNeg)).1 (f_X0_payAt z.2.1 M P z.2.2.2.2.2.1 L RP kind limit ret quo refers (nI lo) n z.2.2.2.2.2.2.2 (fun k => (z.2.2.2.2.1 k).toNatClampNeg)).2.1 (f_X0_payAt z.2.1 M P z.2.2.2.2.2.1 L RP kind limit ret quo refers (nI lo) n z.2.2.2.2.2.2.2 (fun k => (z.2.2.2.2.1 k).toNatClampNeg)).2.2.1 (f_X0_payAt z.2.1 M P z.2.2.2.2.2.1 L RP kind limit ret quo refers (nI lo) n z.2.2.2.2.2.2.2 (fun k => (z.2.2.2.2.1 k).toNatClampNeg)).2.2.2.1 a b d e P7 LO RQ mo hi
    rw [k1, k2, j1, j2]
/-- two loops with early ends, told alike -/
theorem itE2 {σ τ ρ π : Type} {b : Nat → σ → σ ⊕ ρ} {c : Nat → τ → τ ⊕ π} {Q : ρ → π → Prop} {x : σ} {y : τ} : ∀ {N : Nat}, (∀ k z w, k < N → (∃ z' w', b k z = .inl z' ∧ c k w = .inl w') ∨ ∃ r q, b k z = .inr r ∧ c k w = .inr q ∧ Q r q) → (∃ z' w', itE b N x = .inl z' ∧ itE c N y = .inl w') ∨ ∃ r q, itE b N x = .inr r ∧ itE c N y = .inr q ∧ Q r q
  | 0, _ => Or.inl ⟨x, y, rfl, rfl⟩
  | N + 1, h => by
    rcases itE2 (x := x) (y := y) (N := N) (fun k z w hk => h k z w (by omega)) with ⟨z, w, h1, h2⟩ | ⟨r, q, h1, h2, h3⟩
    · rw [itE_go h1, itE_go h2]
      exact h N z w (by omega)
    · exact Or.inr ⟨r, q, itE_end' h1 1, itE_end' h2 1, h3⟩
theorem e_from {n lo : Nat} {kind limit ret quo refers : Nat → Int32} {q1 q2 q3 : Nat} {a1 b1 a2 b2 a3 b3 s : Nat → Int32} (h : TD n lo kind limit ret quo refers q1 q2 q3 a1 b1 a2 b2 a3 b3 s) (r g u o M P F B R L RP a b d e P7 LO RQ mo : Nat → Int32) (x6 y6 x7 : Int32) (c : Int32) (r6 r7 : Nat) : (f_X6_from kind limit ret quo refers r g u o M P F B R L RP x6 y6 c n r6).1 = (f_X7_from s a b d e P7 LO RQ x7 mo c n r7).1 := by
  have hn := h.1.1
  unfold f_X6_from f_X7_from
  by_cases c1 : f_X7_isOne c n = 0
  · rw [if_pos ((one_iff (by omega)).mpr c1), if_pos c1]
  · rw [if_neg (fun q => c1 ((one_iff (by omega)).mp q)), if_neg c1]
    obtain ⟨i, hi, rfl⟩ := (isO_iff (by omega)).mp c1
    rw [nI_clamp (show i < 2 ^ 31 by omega)]
    have hB := spz_b h r g u o F B R
    generalize f_X0_build r g u o F B R refers n = z at hB ⊢
    rcases itE2 (b := bd_X6_from_25 kind limit ret quo refers n i z) (c := bd_X7_from_12 s n i) (Q := fun p q => p.1 = q.1) (x := (M, P, L, RP, x6, y6)) (y := (a, b, d, e, r7, P7, LO, RQ, x7, mo)) (N := 301) (fun k v w hk => by
        obtain ⟨y, hy, k1, k2⟩ := pay_by h (x := k) (by omega) hB v.1 v.2.1 v.2.2.1 v.2.2.2.1 w.1 w.2.1 w.2.2.1 w.2.2.2.1 w.2.2.2.2.2.1 w.2.2.2.2.2.2.1 w.2.2.2.2.2.2.2.1 w.2.2.2.2.2.2.2.2.2 hi
        unfold bd_X6_from_25 bd_X7_from_12 f_X7_paidBy
        dsimp only
        rw [k1, k2]
        by_cases q : nI y ≤ (0 : Int32)
        · rw [if_pos q, if_pos q]; exact Or.inl ⟨_, _, rfl, rfl⟩
        · rw [if_neg q, if_neg q]; exact Or.inr ⟨_, _, rfl, rfl, rfl⟩) with ⟨v, w, h1, h2⟩ | ⟨v, w, h1, h2, h3⟩
    · rw [h1, h2]
    · rw [h1, h2]; exact h3
/-- two counted loops, told alike by what holds between them -/
theorem e_odds_n {n lo : Nat} {kind limit ret quo refers : Nat → Int32} {q1 q2 q3 : Nat} {a1 b1 a2 b2 a3 b3 s : Nat → Int32} (h : TD n lo kind limit ret quo refers q1 q2 q3 a1 b1 a2 b2 a3 b3 s) (r g u o F B R : Nat → Int32) {i : Nat} (hi : i < n) (M P L RP a b d e P7 LO RQ mo : Nat → Int32) (x6 y6 x7 : Int32) (r7 : Nat) : ∀ N, N ≤ 10 → ∃ x, x ≤ N ∧ (itr (bd_X6_odds_34 kind limit ret quo refers n i (f_X0_build r g u o F B R refers n)) N ((0 : Int32), (0 : Int32), M, P, L, RP, x6, y6)).1 = nI N ∧ (itr (bd_X6_odds_34 kind limit ret quo refers n i (f_X0_build r g u o F B R refers n)) N ((0 : Int32), (0 : Int32), M, P, L, RP, x6, y6)).2.1 = nI x ∧ (itr (bd_X7_odds_27 s n i) N ((0 : Int32), a, b, d, e, r7, P7, LO, RQ, x7, mo)).1 = nI x := by
  have hB := spz_b h r g u o F B R
  generalize f_X0_build r g u o F B R refers n = z at hB ⊢
  intro N
  induction N with
  | zero => exact fun _ => ⟨0, Nat.le_refl 0, rfl, rfl, rfl⟩
  | succ N ih =>
    intro hN
    obtain ⟨x, i1, i2, i3, i4⟩ := ih (by omega)
    rw [itr_succ, itr_succ]
    generalize itr (bd_X6_odds_34 kind limit ret quo refers n i z) N ((0 : Int32), (0 : Int32), M, P, L, RP, x6, y6) = v at i2 i3 ⊢
    generalize itr (bd_X7_odds_27 s n i) N ((0 : Int32), a, b, d, e, r7, P7, LO, RQ, x7, mo) = w at i4 ⊢
    obtain ⟨y, hy, k1, k2⟩ := pay_by h (x := 10 * N + 10) (by omega) hB v.2.2.1 v.2.2.2.1 v.2.2.2.2.1 v.2.2.2.2.2.1 w.2.1 w.2.2.1 w.2.2.2.1 w.2.2.2.2.1 w.2.2.2.2.2.2.1 w.2.2.2.2.2.2.2.1 w.2.2.2.2.2.2.2.2.1 w.2.2.2.2.2.2.2.2.2.2 hi
    unfold bd_X6_odds_34 bd_X7_odds_27 f_X7_paidBy
    dsimp only
    rw [show 10 * (1 * N + 1) = 10 * N + 10 by omega, k1, k2]
    by_cases q : nI y ≤ (0 : Int32)
    · rw [if_pos q, if_pos q]
      refine ⟨x, by omega, ?_, ?_, i4⟩
      · show v.1 + 1 = nI (N + 1)
        rw [i2]; exact nI_1 N
      · show v.2.1 + 0 = nI x
        rw [i3]; exact Int32.add_zero _
    · rw [if_neg q, if_neg q]
      refine ⟨x + 1, by omega, ?_, ?_, ?_⟩
      · show v.1 + 1 = nI (N + 1)
        rw [i2]; exact nI_1 N
      · show v.2.1 + 1 = nI (x + 1)
        rw [i3]; exact nI_1 x
      · show w.1 + 1 = nI (x + 1)
        rw [i4]; exact nI_1 x
theorem gcd_t1 : ∀ b, b < 11 → ¬ b = 0 → ∀ a, a < 301 → (itE bd_X6_commonDivisor_7 8 (nI a, nI b)) = .inr (nI (Nat.gcd a b), 0) := by decide +kernel
theorem gcd_t2 : ∀ b, b < 11 → ¬ b = 0 → ∀ a, a < 301 → wl bd_X7_lowest_6 8 ((nI a).toInt64, (nI b).toInt64) = some ((nI (Nat.gcd a b)).toInt64, 0) := by decide +kernel
theorem gcd_t3 : ∀ b, b < 11 → ¬ b = 0 → ∀ a, a < 301 → (0 : Int32) < nI (Nat.gcd a b) ∧ (nI a / nI (Nat.gcd a b)).toInt64 = (nI a).toInt64 / (nI (Nat.gcd a b)).toInt64 ∧ (nI b / nI (Nat.gcd a b)).toInt64 = (nI b).toInt64 / (nI (Nat.gcd a b)).toInt64 := by decide +kernel
theorem gcd_tab : ∀ b, b < 11 → ¬ b = 0 → ∀ a, a < 301 → (itE bd_X6_commonDivisor_7 8 (nI a, nI b)) = .inr (nI (Nat.gcd a b), 0) ∧ wl bd_X7_lowest_6 8 ((nI a).toInt64, (nI b).toInt64) = some ((nI (Nat.gcd a b)).toInt64, 0) ∧ (0 : Int32) < nI (Nat.gcd a b) ∧ (nI a / nI (Nat.gcd a b)).toInt64 = (nI a).toInt64 / (nI (Nat.gcd a b)).toInt64 ∧ (nI b / nI (Nat.gcd a b)).toInt64 = (nI b).toInt64 / (nI (Nat.gcd a b)).toInt64 := fun b h1 h2 a h3 => ⟨gcd_t1 b h1 h2 a h3, gcd_t2 b h1 h2 a h3, gcd_t3 b h1 h2 a h3⟩
theorem frac67 {a b : Nat} (ha : a < 301) (hb : b < 11) (h0 : ¬ b = 0) {part : Int32} (hp : ¬ f_X7_in part.toInt64 0 1 = 0) : f_X6_fractionPart (nI a) (nI b) part = f_X7_lowest (nI a).toInt64 (nI b).toInt64 part := by
  obtain ⟨g1, g2, g3, g4, g5⟩ := gcd_tab b hb h0 a ha
  have hi : f_X7_in part.toInt64 0 1 = 0 ↔ part < 0 ∨ (1 : Int32) < part := in32 (by decide) (by decide)
  have p0 : ¬ part < 0 := fun q => hp (hi.mpr (Or.inl q))
  have p1 : part ≤ 1 := Int32.not_lt.mp (fun q => hp (hi.mpr (Or.inr q)))
  have hc : f_X6_commonDivisor (nI a) (nI b) = nI (Nat.gcd a b) := by
    unfold f_X6_commonDivisor
    rw [itE_end' g1 92]
    rfl
  have hl : wl bd_X7_lowest_6 18446744073709551616 ((nI a).toInt64, (nI b).toInt64) = some ((nI (Nat.gcd a b)).toInt64, 0) := wl_more (d := 8) 18446744073709551608 g2
  have hb0 : ¬ nI b ≤ (0 : Int32) := fun q => by
    have := (nI_leI (a := b) (b := 0) (by omega) (by omega)).mp q
    omega
  unfold f_X6_fractionPart f_X7_lowest
  rw [hc, hl, if_neg hb0, if_neg p0, if_pos p1, if_pos g3, if_pos g3, g4, g5]
  rfl
theorem frac6_no {a b : Int32} {part : Int32} (hp : f_X7_in part.toInt64 0 1 = 0) : f_X6_fractionPart a b part = -9223372036854775808 := by
  have hi : f_X7_in part.toInt64 0 1 = 0 ↔ part < 0 ∨ (1 : Int32) < part := in32 (by decide) (by decide)
  unfold f_X6_fractionPart
  by_cases c : b ≤ 0
  · rw [if_pos c]
  · rw [if_neg c]
    rcases hi.mp hp with q | q
    · rw [if_pos q]
    · by_cases c2 : part < 0
      · rw [if_pos c2]
      · rw [if_neg c2, if_neg (Int32.not_le.mpr q)]
theorem e_odds {n lo : Nat} {kind limit ret quo refers : Nat → Int32} {q1 q2 q3 : Nat} {a1 b1 a2 b2 a3 b3 s : Nat → Int32} (h : TD n lo kind limit ret quo refers q1 q2 q3 a1 b1 a2 b2 a3 b3 s) (r g u o M P F B R L RP a b d e P7 LO RQ mo : Nat → Int32) (x6 y6 x7 : Int32) (c part : Int32) (r6 r7 : Nat) : (f_X6_odds kind limit ret quo refers r g u o M P F B R L RP x6 y6 c part n r6).1 = (f_X7_odds s a b d e P7 LO RQ x7 mo c part n r7).1 := by
  have hn := h.1.1
  unfold f_X6_odds f_X7_odds
  by_cases c1 : f_X7_isOne c n = 0
  · rw [if_pos ((one_iff (by omega)).mpr c1), if_pos c1]
  · rw [if_neg (fun q => c1 ((one_iff (by omega)).mp q)), if_neg c1]
    obtain ⟨i, hi, rfl⟩ := (isO_iff (by omega)).mp c1
    rw [nI_clamp (show i < 2 ^ 31 by omega)]
    obtain ⟨x, hx, k1, k2, k3⟩ := e_odds_n h r g u o F B R hi M P L RP a b d e P7 LO RQ mo x6 y6 x7 r7 10 (Nat.le_refl 10)
    by_cases c2 : f_X7_in part.toInt64 0 1 = 0
    · rw [if_pos c2]
      exact frac6_no c2
    · rw [if_neg c2]
      dsimp only
      rw [k1, k2, k3, frac67 (by omega) (by omega) (by omega) c2]
      rfl
theorem e_mean {n lo : Nat} {kind limit ret quo refers : Nat → Int32} {q1 q2 q3 : Nat} {a1 b1 a2 b2 a3 b3 s : Nat → Int32} (h : TD n lo kind limit ret quo refers q1 q2 q3 a1 b1 a2 b2 a3 b3 s) (r g u o M P F B R L RP a b d e P7 LO RQ mo : Nat → Int32) (x7 : Int32) (part : Int32) (r7 : Nat) : (f_X6_mean kind limit ret quo refers (nI lo) r g u o M P F B R L RP part n).1 = (f_X7_mean s a b d e P7 LO RQ x7 mo part n r7).1 := by
  have hS := settle_pay h r g u o M P F B R L RP a b d e P7 LO RQ mo
  have hn := h.1.1
  have hlo := h.2.2.2.2.1
  unfold f_X6_mean f_X7_mean
  generalize f_X0_settle r g u o M P F B R L RP kind limit ret quo refers (nI lo) n = z at hS ⊢
  generalize f_X7_pay s a b d e P7 LO RQ mo n = w at hS ⊢
  obtain ⟨-, -, LL, pd, lf, rp, p1, p2, p3, p4, e5, e6, -, -⟩ := hS
  have key : ∀ m, m ≤ n → ∃ x, x ≤ m ∧ itr (bd_X0_payers_4 z.2.2.2.2.2.1) m 0 = nI x ∧ itr (bd_X7_payers_4 w.2.2.2.2.2.1) m 0 = nI x := by
    intro m
    induction m with
    | zero => exact fun _ => ⟨0, Nat.le_refl 0, rfl, rfl⟩
    | succ m ih =>
      intro hm
      obtain ⟨x, i1, i2, i3⟩ := ih (by omega)
      obtain ⟨g1, g2, -⟩ := e6 m (by omega)
      rw [itr_succ, itr_succ, i2, i3]
      unfold bd_X0_payers_4 bd_X7_payers_4
      rw [g1, g2]
      by_cases q : nI (pd m) ≤ (0 : Int32)
      · rw [if_pos q, if_pos q]
        exact ⟨x, by omega, Int32.add_zero _, rfl⟩
      · rw [if_neg q, if_neg q]
        exact ⟨x + 1, by omega, nI_1 x, nI_1 x⟩
  obtain ⟨x, hx, k1, k2⟩ := key n (Nat.le_refl n)
  have k1 : f_X0_payers z.2.2.2.2.2.1 n = nI x := k1
  have k2 : f_X7_payers w.2.2.2.2.2.1 n = nI x := k2
  dsimp only
  rw [k1, k2, p1, p3]
  by_cases c2 : f_X7_in part.toInt64 0 1 = 0
  · rw [if_pos c2]
    exact frac6_no c2
  · rw [if_neg c2]
    by_cases c3 : nI x = (0 : Int32)
    · rw [if_pos c3, c3]
      unfold f_X6_fractionPart
      rw [if_pos (show (0 : Int32) ≤ 0 by decide)]
    · rw [if_neg c3]
      have : x ≠ 0 := fun q => c3 (by rw [q]; rfl)
      exact frac67 (by omega) (by omega) this c2
/-- rows told by hand against what is paid -/
theorem first67 {n q : Nat} (hn : n ≤ 6) (hq : q ≤ 8) {f v P6 P7 : Nat → Int32} {sc : Nat → Nat} (hf : ∀ k, k < q → f k = nI (sc k) ∧ sc k < n) (hP : ∀ c, c < n → P6 c = P7 c) : srch (bd_X0_firstOtherwise_2 P6 f v n) q 0 = srch (fun k => if P7 (sc k) = v k then none else some (nI k)) q 0 := by
  refine srch_cong q 0 (fun k _ hk => ?_)
  obtain ⟨g1, g2⟩ := hf k (by omega)
  unfold bd_X0_firstOtherwise_2
  rw [g1, if_neg ((isC_iff (show n < 2 ^ 31 by omega)).mpr ⟨sc k, g2, rfl⟩), nI_clamp (show sc k < 2 ^ 31 by omega), hP _ g2]
theorem srch_pair {α β : Type} {c : Nat → Prop} [∀ k, Decidable (c k)] {f : Nat → α} {u : β} : ∀ d k, srch (fun k => if c k then none else some (f k, u)) d k = (srch (fun k => if c k then none else some (f k)) d k).map (fun x => (x, u))
  | 0, _ => rfl
  | d + 1, k => by
    unfold srch
    by_cases q : c k
    · rw [if_pos q, if_pos q]
      exact srch_pair d (k + 1)
    · rw [if_neg q, if_neg q]
      rfl
theorem e_looked {n lo : Nat} {kind limit ret quo refers : Nat → Int32} {q1 q2 q3 : Nat} {a1 b1 a2 b2 a3 b3 s : Nat → Int32} (h : TD n lo kind limit ret quo refers q1 q2 q3 a1 b1 a2 b2 a3 b3 s) (r g u o M P F B R L RP a b d e P7 LO RQ mo : Nat → Int32) {sc : Nat → Nat} (hsc : ∀ k, k < q3 → s (61 + k) = nI (sc k) ∧ sc k < 6) : (f_X6_looked kind limit ret quo refers (nI lo) r g u o M P F B R L RP a3 b3 n q3).1 = (f_X7_looked s a b d e P7 LO RQ mo n q3 sc).1 := by
  have hS := settle_pay h r g u o M P F B R L RP a b d e P7 LO RQ mo
  have hn := h.1.1
  obtain ⟨-, -, -, -, -, -, w6, -, -, w9⟩ := h.2.2.2.2
  unfold f_X6_looked f_X7_looked f_X0_firstOtherwise
  generalize f_X0_settle r g u o M P F B R L RP kind limit ret quo refers (nI lo) n = z at hS ⊢
  generalize f_X7_pay s a b d e P7 LO RQ mo n = w at hS ⊢
  have hsn : ∀ k, k < q3 → a3 k = nI (sc k) ∧ sc k < n := fun k hk => by
    obtain ⟨g1, g2, c, g3, g4⟩ := w9 k hk
    obtain ⟨j1, j2⟩ := hsc k hk
    have : nI (sc k) = nI c := j1.symm.trans (g1.trans g4)
    have := (nI_eq (a := sc k) (b := c) (by omega) (by omega)).mp this
    exact ⟨g1.symm.trans j1, by omega⟩
  rw [first67 hn w6 hsn (fun c hc => (spz_of hn hS hc).2.2.2.2)]
  have e2 : srch (bd_X7_looked_6 s sc w) q3 0 = srch (fun k => if w.2.2.2.2.2.1 (sc k) = b3 k then none else some (nI k, w)) q3 0 := srch_cong q3 0 (fun k _ hk => by
    unfold bd_X7_looked_6
    rw [(w9 k (by omega)).2.1])
  rw [e2, srch_pair]
  cases srch (fun k => if w.2.2.2.2.2.1 (sc k) = b3 k then none else some (nI k)) q3 0 with
  | none => rfl
  | some x => rfl
theorem e_fits {n lo : Nat} {kind limit ret quo refers : Nat → Int32} {q1 q2 q3 : Nat} {a1 b1 a2 b2 a3 b3 s : Nat → Int32} (h : TD n lo kind limit ret quo refers q1 q2 q3 a1 b1 a2 b2 a3 b3 s) (r g u o M P F B R L RP a b d e P7 LO RQ mo : Nat → Int32) (x6 y6 x7 : Int32) (what : Int32) (r6 r7 : Nat) {sc : Nat → Nat} (hsc : ∀ k, k < q1 → s (35 + k) = nI (sc k) ∧ sc k < 6) : (f_X6_fits kind limit ret quo refers r g u o M P F B R L RP x6 y6 a1 b1 what n r6 q1).1 = (f_X7_fits s a b d e P7 LO RQ x7 mo what n r7 q1 sc).1 := by
  have hn := h.1.1
  obtain ⟨-, -, -, -, w4, -, -, w7, -, -⟩ := h.2.2.2.2
  have hsn : ∀ k, k < q1 → a1 k = nI (sc k) ∧ sc k < n := fun k hk => by
    obtain ⟨g1, g2, c, g3, g4⟩ := w7 k hk
    obtain ⟨j1, j2⟩ := hsc k hk
    have : nI (sc k) = nI c := j1.symm.trans (g1.trans g4)
    have := (nI_eq (a := sc k) (b := c) (by omega) (by omega)).mp this
    exact ⟨g1.symm.trans j1, by omega⟩
  have hB := spz_b h r g u o F B R
  unfold f_X6_fits f_X7_fits
  generalize f_X0_build r g u o F B R refers n = z at hB ⊢
  have key : ∀ N, N ≤ 301 → ∃ x, x ≤ N ∧ (itr (bd_X6_fits_26 kind limit ret quo refers a1 b1 n q1 z) N ((0 : Int32), (-5 : Int32), M, P, L, RP, x6, y6)).1 = nI x ∧ (itr (bd_X7_fits_20 s n q1 sc) N ((0 : Int32), (-5 : Int32), a, b, d, e, r7, P7, LO, RQ, x7, mo)).1 = nI x ∧ (itr (bd_X6_fits_26 kind limit ret quo refers a1 b1 n q1 z) N ((0 : Int32), (-5 : Int32), M, P, L, RP, x6, y6)).2.1 = (itr (bd_X7_fits_20 s n q1 sc) N ((0 : Int32), (-5 : Int32), a, b, d, e, r7, P7, LO, RQ, x7, mo)).2.1 := by
    intro N
    induction N with
    | zero => exact fun _ => ⟨0, Nat.le_refl 0, rfl, rfl, rfl⟩
    | succ N ih =>
      intro hN
      obtain ⟨x, i1, i2, i3, i4⟩ := ih (by omega)
      rw [itr_succ, itr_succ]
      generalize itr (bd_X6_fits_26 kind limit ret quo refers a1 b1 n q1 z) N ((0 : Int32), (-5 : Int32), M, P, L, RP, x6, y6) = v at i2 i4 ⊢
      generalize itr (bd_X7_fits_20 s n q1 sc) N ((0 : Int32), (-5 : Int32), a, b, d, e, r7, P7, LO, RQ, x7, mo) = w at i3 i4 ⊢
      have pb := fun (c : Nat) (hc : c < n) => pay_by h (x := N) (by omega) hB v.2.2.1 v.2.2.2.1 v.2.2.2.2.1 v.2.2.2.2.2.1 w.2.2.1 w.2.2.2.1 w.2.2.2.2.1 w.2.2.2.2.2.1 w.2.2.2.2.2.2.2.1 w.2.2.2.2.2.2.2.2.1 w.2.2.2.2.2.2.2.2.2.1 w.2.2.2.2.2.2.2.2.2.2.2 hc
      unfold bd_X6_fits_26 bd_X7_fits_20 f_X7_fitsBy f_X0_firstOtherwise
      generalize f_X0_payAt z.2.1 v.2.2.1 v.2.2.2.1 z.2.2.2.2.2.1 v.2.2.2.2.1 v.2.2.2.2.2.1 kind limit ret quo refers (nI N) n z.2.2.2.2.2.2.2 (fun k => (z.2.2.2.2.1 k).toNatClampNeg) = A at pb ⊢
      generalize f_X7_pay (upd s 1 (nI N)) w.2.2.1 w.2.2.2.1 w.2.2.2.2.1 w.2.2.2.2.2.1 w.2.2.2.2.2.2.2.1 w.2.2.2.2.2.2.2.2.1 w.2.2.2.2.2.2.2.2.2.1 w.2.2.2.2.2.2.2.2.2.2.2 n = C at pb ⊢
      have hP : ∀ c, c < n → A.2.1 c = C.2.2.2.2.2.1 c := fun c hc => by
        obtain ⟨y, -, k1, k2⟩ := pb c hc
        exact k1.trans k2.symm
      have e2 : srch (bd_X7_fitsBy_27 s sc C) q1 0 = srch (fun k => if C.2.2.2.2.2.1 (sc k) = b1 k then none else some ((0 : Int32), C)) q1 0 := srch_cong q1 0 (fun k _ hk => by
        unfold bd_X7_fitsBy_27
        rw [(w7 k (by omega)).2.1])
      rw [first67 hn (by omega) hsn hP, e2, srch_pair (f := fun _ => (0 : Int32))]
      have both : (srch (fun k => if C.2.2.2.2.2.1 (sc k) = b1 k then none else some (nI k)) q1 0 = none ∧ srch (fun k => if C.2.2.2.2.2.1 (sc k) = b1 k then none else some (0 : Int32)) q1 0 = none) ∨ ∃ k, srch (fun k => if C.2.2.2.2.2.1 (sc k) = b1 k then none else some (nI k)) q1 0 = some (nI k) ∧ k < 100 ∧ srch (fun k => if C.2.2.2.2.2.1 (sc k) = b1 k then none else some (0 : Int32)) q1 0 = some 0 := by
        have gen : ∀ d k, k + d ≤ 50 → (srch (fun k => if C.2.2.2.2.2.1 (sc k) = b1 k then none else some (nI k)) d k = none ∧ srch (fun k => if C.2.2.2.2.2.1 (sc k) = b1 k then none else some (0 : Int32)) d k = none) ∨ ∃ j, srch (fun k => if C.2.2.2.2.2.1 (sc k) = b1 k then none else some (nI k)) d k = some (nI j) ∧ j < 100 ∧ srch (fun k => if C.2.2.2.2.2.1 (sc k) = b1 k then none else some (0 : Int32)) d k = some 0 := by
          intro d
          induction d with
          | zero => exact fun k _ => Or.inl ⟨rfl, rfl⟩
          | succ d ihd =>
            intro k hk
            unfold srch
            by_cases q : C.2.2.2.2.2.1 (sc k) = b1 k
            · rw [if_pos q, if_pos q]
              exact ihd (k + 1) (by omega)
            · rw [if_neg q, if_neg q]
              exact Or.inr ⟨k, rfl, by omega, rfl⟩
        exact gen q1 0 (by omega)
      rcases both with ⟨f1, f2⟩ | ⟨k, f1, f3, f2⟩
      · rw [f1, f2]
        dsimp only [Option.map_none, Option.getD_none]
        rw [if_pos rfl, if_neg (show ¬ (1 : Int32) = 0 by decide)]
        by_cases c0 : x = 0
        · have v0 : v.1 = 0 := by rw [i2, c0]; rfl
          have w0 : w.1 = 0 := by rw [i3, c0]; rfl
          rw [if_pos v0, if_pos w0]
          refine ⟨x + 1, by omega, ?_, ?_, rfl⟩
          · show v.1 + 1 = nI (x + 1)
            rw [i2]; exact nI_1 x
          · show w.1 + 1 = nI (x + 1)
            rw [i3]; exact nI_1 x
        · have v0 : ¬ v.1 = 0 := by rw [i2]; exact fun q => c0 ((nI_eq (a := x) (b := 0) (by omega) (by omega)).mp q)
          have w0 : ¬ w.1 = 0 := by rw [i3]; exact fun q => c0 ((nI_eq (a := x) (b := 0) (by omega) (by omega)).mp q)
          rw [if_neg v0, if_neg w0]
          refine ⟨x + 1, by omega, ?_, ?_, i4⟩
          · show v.1 + 1 = nI (x + 1)
            rw [i2]; exact nI_1 x
          · show w.1 + 1 = nI (x + 1)
            rw [i3]; exact nI_1 x
      · rw [f1, f2]
        dsimp only [Option.map_some, Option.getD_some]
        rw [if_neg (fun q => by
          have := congrArg Int32.toInt q
          rw [nI_toInt (by omega)] at this
          have e5 : (-5 : Int32).toInt = -5 := by decide
          omega), if_pos rfl]
        exact ⟨x, by omega, i2, i3, i4⟩
  obtain ⟨x, -, k1, k2, k3⟩ := key 301 (Nat.le_refl 301)
  by_cases e0 : what = 0
  · subst e0
    rw [if_pos rfl, if_neg (show ¬ f_X7_in (0 : Int32).toInt64 0 1 = 0 by decide), if_pos rfl]
    exact k1.trans k2.symm
  by_cases e1 : what = 1
  · subst e1
    rw [if_neg e0, if_pos rfl, if_neg (show ¬ f_X7_in (1 : Int32).toInt64 0 1 = 0 by decide), if_neg e0]
    exact k3
  rw [if_neg e0, if_neg e1]
  by_cases c5 : f_X7_in what.toInt64 0 1 = 0
  · rw [if_pos c5]
  · exfalso
    obtain ⟨y, hy, ey⟩ := in_nat (v := what) (a := 0) (b := 1) (B := 1) (by omega) (by decide) (by decide) c5
    have : y = 0 ∨ y = 1 := by omega
    rcases this with t | t <;> subst t
    · exact absurd ey e0
    · exact absurd ey e1
