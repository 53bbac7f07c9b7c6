/-! what both have, when all has paid -/
def PB (n lo : Nat) (refers P6 P7 RL6 RL7 RP6 RP7 : Nat → Int32) (A6 O6 A7 : Int32) : Prop := ∃ (L : Nat) (pd lf rp : Nat → Nat), A6 = nI (lo - L) ∧ O6 = nI L ∧ A7 = nI (lo - L) ∧ L ≤ lo ∧
  (∀ k, k < LM n refers → RL6 k = nI (lf k) ∧ RL7 k = nI (lf k) ∧ RP6 k = nI (rp k) ∧ RP7 k = nI (rp k) ∧ lf k ≤ lo ∧ rp k ≤ lo) ∧
  (∀ c, c < n → P6 c = nI (pd c) ∧ P7 c = nI (pd c) ∧ pd c ≤ 99) ∧
  (∀ k, k < LM n refers → lf k < lo → ∃ i c, i < k ∧ c < n ∧ gB (tB n refers) (LF n refers i) c = true ∧ 0 < pd c) ∧
  (lo = 0 → ∀ c, c < n → pd c = 0)
/-- a set-up, told alike on both sides -/
def SU (n : Nat) (s kind limit ret quo refers : Nat → Int32) : Prop := n ≤ 6 ∧ (∃ kd li re qu, SV n kind limit ret quo kd li re qu) ∧ SM n s kind limit ret quo refers ∧ ∀ c, c < n → bt (refers c) c = false
theorem pay_both {n lo : Nat} (hlo : lo < 1000) {s kind limit ret quo refers : Nat → Int32} (hU : SU n s kind limit ret quo refers) (hs1 : s 1 = nI lo) {reach G U ringOf first bits rung : Nat → Int32} {m : Nat} (hb : BLD n refers reach G U ringOf first bits rung m) {rf : Nat → Nat} (hrf : ∀ k, k < m → rf k = LF n refers k) (M P6 RL RP a b d e P7 LO RQ mo : Nat → Int32) :
    PB n lo refers (f_X0_payAt G M P6 bits RL RP kind limit ret quo refers (nI lo) n m rf).2.1 (f_X7_pay s a b d e P7 LO RQ mo n).2.2.2.2.2.1 (f_X0_payAt G M P6 bits RL RP kind limit ret quo refers (nI lo) n m rf).2.2.1 (f_X7_pay s a b d e P7 LO RQ mo n).2.2.2.2.2.2.1 (f_X0_payAt G M P6 bits RL RP kind limit ret quo refers (nI lo) n m rf).2.2.2.1 (f_X7_pay s a b d e P7 LO RQ mo n).2.2.2.2.2.2.2.1 (f_X0_payAt G M P6 bits RL RP kind limit ret quo refers (nI lo) n m rf).2.2.2.2.1 (f_X0_payAt G M P6 bits RL RP kind limit ret quo refers (nI lo) n m rf).2.2.2.2.2 (f_X7_pay s a b d e P7 LO RQ mo n).2.2.2.2.2.2.2.2.1 := by
  obtain ⟨hn, ⟨kd, li, re, qu, hV⟩, hM, hself⟩ := hU
  have hL7 := ladder7 hn (s := s) (refers := refers) (fun c hc => (hM c hc).2.2.2.2) a b d e
  unfold f_X0_payAt f_X7_pay
  dsimp only
  generalize f_X7_ladder s a b d e n = u at hL7 ⊢
  obtain ⟨m1, m2, m3⟩ := hL7
  obtain ⟨b1, b2, b3, b4⟩ := hb
  rw [m1, b1]
  have st : JP n lo refers 0 (nI lo, RL, RP, M, P6) (0, LO, RQ, mo, itr bd_X7_pay_11 6 P7) := ⟨lo, fun _ => 0, fun _ => 0, fun _ => 0, rfl, by rw [Nat.sub_self]; rfl, Nat.le_refl lo, fun j hj => absurd hj (Nat.not_lt_zero j), fun _ _ j hj => absurd hj (Nat.not_lt_zero j), fun j hj => absurd hj (Nat.not_lt_zero j), fun h => absurd h (Nat.lt_irrefl lo), fun _ _ _ j hj => absurd hj (Nat.not_lt_zero j)⟩
  have key := itr2_inv (b := bd_X0_payAt_4 G bits kind limit ret quo refers n rf) (c := bd_X7_pay_32 s n u) (P := fun k z w => JP n lo refers k z w) st (n := LM n refers) (fun k z w hk hJ => JP_step hn hlo hV hM hs1 hself (fun c hc => (b2 c hc).2.1) hk (b3 k (by omega)).2.1 (m3 k (by omega)) (hrf k (by omega)) hJ)
  generalize itr (bd_X0_payAt_4 G bits kind limit ret quo refers n rf) (LM n refers) (nI lo, RL, RP, M, P6) = z at key ⊢
  generalize itr (bd_X7_pay_32 s n u) (LM n refers) (0, LO, RQ, mo, itr bd_X7_pay_11 6 P7) = w at key ⊢
  obtain ⟨L, pd, lf, rp, e1, e2, e3, e4, e5, e6, e7, e8⟩ := key
  refine ⟨L, pd, lf, rp, by rw [e1, pk_sub e3], e1, e2, e3, e4, fun c hc => ?_, e6, fun h0 c hc => ?_⟩
  · obtain ⟨j, hj, hg⟩ := ix_ex hn refers hc
    exact e5 c hc j hj hg
  · obtain ⟨j, hj, hg⟩ := ix_ex hn refers hc
    exact e8 h0 c hc j hj hg
theorem first_rf {n : Nat} (hn : n ≤ 6) {refers reach G U ringOf first bits rung : Nat → Int32} {m : Nat} (hb : BLD n refers reach G U ringOf first bits rung m) : ∀ k, k < m → (fun k => (first k).toNatClampNeg) k = LF n refers k := by
  intro k hk
  have := (LF_in (n := n) (refers := refers) (k := k) (by rw [← hb.1]; exact hk)).1
  show (first k).toNatClampNeg = _
  rw [(hb.2.2.1 k hk).1, nI_clamp (by omega)]
