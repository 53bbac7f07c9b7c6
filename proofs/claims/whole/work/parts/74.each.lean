/-! what comes back: alike -/
theorem pb_6 : bd_X0_openOnespb_6 = bd_X0_openOnesmp_6 := rfl
theorem pb_7 : bd_X0_leastRoompb_7 = bd_X0_leastRoommp_7 := rfl
theorem pb_3 : bd_X0_dealpb_3 = bd_X0_dealmp_3 := rfl
theorem pb_122 : bd_X0_dealpb_122 = bd_X0_dealmp_122 := rfl
theorem pb_open (C H : Nat → Int32) (B : Int32) (n : Nat) : f_X0_openOnespb C H B n = f_X0_openOnesmp C H B n := by
  unfold f_X0_openOnespb f_X0_openOnesmp
  rw [pb_6]
theorem pb_room (C H : Nat → Int32) (B : Int32) (n : Nat) : f_X0_leastRoompb C H B n = f_X0_leastRoommp C H B n := by
  unfold f_X0_leastRoompb f_X0_leastRoommp
  rw [pb_7]
theorem pb_42 (C : Nat → Int32) (B : Int32) (n : Nat) : bd_X0_dealpb_42 C B n = bd_X0_dealmp_42 C B n := by
  funext k z
  unfold bd_X0_dealpb_42 bd_X0_dealmp_42
  simp only [pb_open, pb_room, pb_122]
theorem pb_deal (C H : Nat → Int32) (a B : Int32) (n : Nat) : f_X0_dealpb C H a B n = f_X0_dealmp C H a B n := by
  unfold f_X0_dealpb f_X0_dealmp
  rw [pb_42, pb_3]
theorem onesN {n : Nat} (hn : n ≤ 6) {p : Nat → Bool} {cap : Nat → Nat} {k : Nat} {w : WT} {A : Nat} (hA : A < 1000) (hB : ∀ c, c < n → bt (w.2.2.2.1 (w.2.2.2.2.1 - 1 - k)) c = p c) (hC : ∀ c, c < n → p c = true → w.2.2.2.2.2.1 c = nI (cap c) ∧ cap c < 1000) {P : Nat → Int32} (hP : ∀ c, c < n → p c = true → P c = 0) : OE n p cap A ((wl (bd_X7_net_71 n k w) 4294967296 (nI A, (1 : Int32), P)).getD (nI A, (1 : Int32), P)).1 ((wl (bd_X7_net_71 n k w) 4294967296 (nI A, (1 : Int32), P)).getD (nI A, (1 : Int32), P)).2.2 := by
  have hsome : (wl (bd_X7_net_71 n k w) 4294967296 (nI A, (1 : Int32), P)).isSome = true := net_s1 ⟨A, hA, rfl⟩
  have hl : ∀ c, lvl cap 0 0 c = 0 := fun c => by unfold lvl; simp only [Nat.not_lt_zero, if_false]; split <;> omega
  have h0 : ∀ m, smB p (fun _ => 0) m = 0 := by
    intro m
    induction m with
    | zero => rfl
    | succ m ih => rw [smB_succ, ih]; split <;> rfl
  have st : OH n p cap A (nI A, (1 : Int32), P) := ⟨fun _ => 0, A, rfl, hA, fun c hc hp => hP c hc hp, by rw [h0 n]; omega, ⟨0, 0, fun c _ _ => (hl c).symm⟩, fun _ => ⟨0, fun c _ _ => (hl c).symm⟩, fun w => absurd (show (1 : Int32) = 0 from w) (by decide)⟩
  refine wl_inv (b := bd_X7_net_71 n k w) (I := OH n p cap A) (J := fun x => OE n p cap A x.1 x.2.2) (fun z y hz hb => ?_) (fun z y hz hb => ?_) _ _ _ st (wl_some hsome)
  · unfold bd_X7_net_71 at hb
    by_cases e : z.2.1 = 0
    · rw [if_pos e] at hb; cases hb
    · rw [if_neg e] at hb
      rw [← Sum.inl.inj hb]
      refine OH_pass (b := bd_X7_net_82 k w) (fun k2 q x hk hx => ?_) hz
      exact OP_step (fun c hc hp => (hC c hc hp).2) hk (fun c hc hp => (hC c hc hp).1) hx ((has7_0 (by omega)).trans (by rw [hB k2 hk])) Iff.rfl
  · unfold bd_X7_net_71 at hb
    by_cases e : z.2.1 = 0
    · rw [if_pos e] at hb
      rw [← Sum.inr.inj hb]
      exact OH_end hz e
    · rw [if_neg e] at hb; cases hb
theorem fr_onesN {n : Nat} (hn : n ≤ 6) {k : Nat} {w : WT} {c : Nat} (hc : bt (w.2.2.2.1 (w.2.2.2.2.1 - 1 - k)) c = false) (z : Int32 × Int32 × (Nat → Int32)) (hs : (wl (bd_X7_net_71 n k w) 4294967296 z).isSome = true) : ((wl (bd_X7_net_71 n k w) 4294967296 z).getD z).2.2 c = z.2.2 c := by
  refine wl_inv (b := bd_X7_net_71 n k w) (I := fun x => x.2.2 c = z.2.2 c) (J := fun x => x.2.2 c = z.2.2 c) (fun x y hx hb => ?_) (fun x y hx hb => ?_) _ _ _ rfl (wl_some hs)
  · unfold bd_X7_net_71 at hb
    by_cases e : x.2.1 = 0
    · rw [if_pos e] at hb; cases hb
    · rw [if_neg e] at hb
      rw [← Sum.inl.inj hb]
      show (itr (bd_X7_net_82 k w) n (x.1, 0, x.2.2)).2.2 c = z.2.2 c
      refine itr_inv (b := bd_X7_net_82 k w) (P := fun _ y => y.2.2 c = z.2.2 c) (z := (x.1, 0, x.2.2)) hx (n := n) (fun k2 y hk ih => ?_)
      unfold bd_X7_net_82
      refine iteP (P := fun x : Int32 × Int32 × (Nat → Int32) => x.2.2 c = z.2.2 c) (fun _ => ih) (fun _ => ?_)
      by_cases w2 : f_X7_has (w.2.2.2.1 (w.2.2.2.2.1 - 1 - k)) (nI k2) = 0
      · rw [if_pos w2]; exact ih
      · rw [if_neg w2]
        have hne : c ≠ k2 := fun q => by subst q; exact w2 ((has7_0 (by omega)).mpr hc)
        exact iteP (P := fun x : Int32 × Int32 × (Nat → Int32) => x.2.2 c = z.2.2 c) (fun _ => ih) (fun _ => (pk_un hne).trans ih)
  · unfold bd_X7_net_71 at hb
    by_cases e : x.2.1 = 0
    · rw [if_pos e] at hb
      rw [← Sum.inr.inj hb]
      exact hx
    · rw [if_neg e] at hb; cases hb
/-- what has come back behind k rings from the last one on -/
def JB (n r : Nat) (refers : Nat → Int32) (k : Nat) (z w : Int32 × (Nat → Int32)) : Prop := (∃ A, A < 1000 ∧ z.1 = nI A ∧ w.1 = nI A) ∧ ∀ c, c < n → ∀ j, j < r → gB (tB n refers) (LF n refers j) c = true → (r ≤ j + k → z.2 c = w.2 c) ∧ (¬ r ≤ j + k → w.2 c = 0)
theorem JB_step {n r : Nat} (hn : n ≤ 6) {refers P6 bits : Nat → Int32} {w0 : WT} {pd : Nat → Nat} (hr : r = LM n refers) (hr7 : w0.2.2.2.2.1 = r) (hb6 : ∀ k, k < r → bits k = LG n refers (LF n refers k)) (hb7 : ∀ k, k < r → w0.2.2.2.1 k = LG n refers (LF n refers k)) (hp : ∀ c, c < n → P6 c = nI (pd c) ∧ w0.2.2.2.2.2.1 c = nI (pd c) ∧ pd c ≤ 99) {k : Nat} (hk : k < r) {z w : Int32 × (Nat → Int32)} (h : JB n r refers k z w) : JB n r refers (k + 1) (bd_X0_giveBack_9 P6 bits n r k z) (bd_X7_net_63 n w0 k w) := by
  obtain ⟨⟨A, hA, z1, w1⟩, hc⟩ := h
  have hj : r - 1 - k < r := by omega
  have hjm : r - 1 - k < LM n refers := by omega
  have hf := (LF_in hjm).1
  have hB : ∀ c, c < n → bt (LG n refers (LF n refers (r - 1 - k))) c = gB (tB n refers) (LF n refers (r - 1 - k)) c := fun c hc => LG_bit hn refers hf hc
  have hbits := hb6 _ hj
  have hbits7 : w0.2.2.2.1 (w0.2.2.2.2.1 - 1 - k) = LG n refers (LF n refers (r - 1 - k)) := by rw [hr7]; exact hb7 _ hj
  have d6 := deal6 hn (p := gB (tB n refers) (LF n refers (r - 1 - k))) (cap := pd) (C := P6) (P := z.2) (B := LG n refers (LF n refers (r - 1 - k))) hA hB (fun c hc _ => ⟨(hp c hc).1, by have := (hp c hc).2.2; omega⟩)
  have d7 := onesN hn (p := gB (tB n refers) (LF n refers (r - 1 - k))) (cap := pd) (k := k) (w := w0) hA (P := w.2) (fun c hc => by rw [hbits7]; exact hB c hc) (fun c hc _ => ⟨(hp c hc).2.1, by have := (hp c hc).2.2; omega⟩) (fun c hcn hg => (hc c hcn _ hj hg).2 (by omega))
  have hs : (wl (bd_X7_net_71 n k w0) 4294967296 (nI A, (1 : Int32), w.2)).isSome = true := net_s1 ⟨A, hA, rfl⟩
  have f6 := fun c hcf => fr_deal (C := P6) (P := z.2) (B := LG n refers (LF n refers (r - 1 - k))) (a := nI A) (n := n) (c := c) hn hcf
  have f7 := fun c (hcf : bt (LG n refers (LF n refers (r - 1 - k))) c = false) => fr_onesN hn (k := k) (w := w0) (c := c) (by rw [hbits7]; exact hcf) (nI A, (1 : Int32), w.2) hs
  unfold bd_X0_giveBack_9 bd_X7_net_63
  rw [pb_deal, hbits, z1, w1]
  generalize f_X0_dealmp P6 z.2 (nI A) (LG n refers (LF n refers (r - 1 - k))) n = x at d6 f6 ⊢
  generalize (wl (bd_X7_net_71 n k w0) 4294967296 (nI A, (1 : Int32), w.2)).getD (nI A, (1 : Int32), w.2) = y at d7 f7 ⊢
  obtain ⟨h, R, a1, a2, a3, a4⟩ := d6
  obtain ⟨h', R', b1, b2, b3, b4⟩ := d7
  obtain ⟨g1, g2⟩ := res_one a4 b4
  refine ⟨⟨R, by omega, ?_, ?_⟩, fun c hcn j hjr hg => ?_⟩
  · show nI A - x.1 = nI R
    rw [a1, pk_sub (by omega)]
    congr 1
    omega
  · show y.1 = nI R
    rw [b1, g2]
  · show (r ≤ j + (k + 1) → x.2 c = y.2.2 c) ∧ (¬ r ≤ j + (k + 1) → y.2.2 c = 0)
    by_cases e : j = r - 1 - k
    · subst e
      refine ⟨fun _ => ?_, fun q => absurd (by omega) q⟩
      rw [a3 c hcn hg, b3 c hcn hg, g1 c hcn hg]
    · have hgf : gB (tB n refers) (LF n refers (r - 1 - k)) c = false := by
        cases q : gB (tB n refers) (LF n refers (r - 1 - k)) c
        · rfl
        · exact absurd (ix_one hn (by omega) hjm hcn hg q) e
      have hbf : bt (LG n refers (LF n refers (r - 1 - k))) c = false := by rw [hB c hcn]; exact hgf
      rw [f6 c hbf, f7 c hbf]
      obtain ⟨q1, q2⟩ := hc c hcn j hjr hg
      exact ⟨fun q => q1 (by omega), fun q => q2 (by omega)⟩
theorem zero6 {B : Nat → Int32} {c : Nat} : ∀ m, itr bd_X7_net_34 m B c = if c < m then 0 else B c
  | 0 => by rw [if_neg (Nat.not_lt_zero c)]; rfl
  | m + 1 => by
    rw [itr_succ]
    show upd (itr bd_X7_net_34 m B) m 0 c = _
    by_cases e : c = m
    · subst e; rw [pk_us, if_pos (by omega)]
    · rw [pk_un e, zero6 m]
      by_cases q : c < m
      · rw [if_pos q, if_pos (by omega)]
      · rw [if_neg q, if_neg (by omega)]
theorem net_all {n lo : Nat} (hn : n ≤ 6) {refers : Nat → Int32} {z : ZT} {w : WT} (hS : SPZ n lo refers z w) (K6 K7 : Nat → Int32) {v : Nat} (hv : v < 1000) {c : Nat} (hc : c < n) : f_X0_giveBack z.2.2.2.2.2.1 K6 z.2.2.2.2.2.2.2.1 (nI v) n z.2.2.2.2.2.2.2.2.2.2.2.1 c = (itr (bd_X7_net_63 n w) w.2.2.2.2.1 (nI v, itr bd_X7_net_34 6 K7)).2 c := by
  obtain ⟨⟨b1, b2, b3, b4⟩, ⟨m1, m2, m3⟩, L, pd, lf, rp, -, -, -, -, e5, e6, -, -⟩ := hS
  have hr7 : w.2.2.2.2.1 = z.2.2.2.2.2.2.2.2.2.2.2.1 := m1.trans b1.symm
  obtain ⟨j, hj, hg⟩ := ix_ex hn refers hc
  unfold f_X0_giveBack
  have st : JB n z.2.2.2.2.2.2.2.2.2.2.2.1 refers 0 (nI v, K6) (nI v, itr bd_X7_net_34 6 K7) := ⟨⟨v, hv, rfl, rfl⟩, fun c hc j hj _ => ⟨fun q => absurd q (by omega), fun _ => by
    show itr bd_X7_net_34 6 K7 c = 0
    rw [zero6 6, if_pos (by omega)]⟩⟩
  have key := itr2_inv (b := bd_X0_giveBack_9 z.2.2.2.2.2.1 z.2.2.2.2.2.2.2.1 n z.2.2.2.2.2.2.2.2.2.2.2.1) (c := bd_X7_net_63 n w) (P := fun k x y => JB n z.2.2.2.2.2.2.2.2.2.2.2.1 refers k x y) st (n := z.2.2.2.2.2.2.2.2.2.2.2.1) (fun k x y hk hJ => JB_step hn b1 hr7 (fun k hk => (b3 k hk).2.1) (fun k hk => m3 k (by rw [hr7]; exact hk)) e6 hk hJ)
  rw [hr7]
  exact (key.2 c hc j (by rw [b1]; exact hj) hg).1 (by omega)
theorem e_net {n lo : Nat} {kind limit ret quo refers : Nat → Int32} {q1 q2 q3 : Nat} {a1 b1 a2 b2 a3 b3 s : Nat → Int32} (h : TD n lo kind limit ret quo refers q1 q2 q3 a1 b1 a2 b2 a3 b3 s) (r g u o M P K F B R L RP a b d e P7 LO RQ mo bk : Nat → Int32) (x6 y6 x7 : Int32) (c v : Int32) (r6 r7 : Nat) : (f_X6_net kind limit ret quo refers (nI lo) r g u o M P K F B R L RP x6 y6 c v n r6).1 = (f_X7_net s a b d e P7 LO RQ x7 mo bk c v n r7).1 := by
  have hS := settle_pay h r g u o M P F B R L RP a b d e P7 LO RQ mo
  have hn := h.1.1
  have hi : f_X7_in v.toInt64 0 999 = 0 ↔ v < 0 ∨ (999 : Int32) < v := in32 (by decide) (by decide)
  unfold f_X6_net f_X7_net
  generalize f_X0_settle r g u o M P F B R L RP kind limit ret quo refers (nI lo) n = z at hS ⊢
  generalize f_X7_pay s a b d e P7 LO RQ mo n = w at hS ⊢
  by_cases c1 : f_X7_isOne c n = 0
  · rw [if_pos ((one_iff (by omega)).mpr c1), if_pos c1]
  · rw [if_neg (fun q => c1 ((one_iff (by omega)).mp q)), if_neg c1]
    obtain ⟨i, hi2, rfl⟩ := (isO_iff (by omega)).mp c1
    rw [nI_clamp (show i < 2 ^ 31 by omega)]
    by_cases c3 : v < 0
    · rw [if_pos c3, if_pos (hi.mpr (Or.inl c3))]
    · rw [if_neg c3]
      by_cases c4 : v ≤ 999
      · have c5 : ¬ f_X7_in v.toInt64 0 999 = 0 := fun q => by
          rcases hi.mp q with w | w
          · exact c3 w
          · exact absurd c4 (Int32.not_le.mpr w)
        rw [if_pos c4, if_neg c5]
        obtain ⟨x, hx, rfl⟩ := in_nat (B := 999) (by omega) (by decide) (by decide) c5
        rw [nI_clamp (show x < 2 ^ 31 by omega)]
        have hk := net_all hn hS K bk (v := x) (by omega) hi2
        have hp := (spz_of hn hS hi2).2.2.2.2
        show z.2.2.2.2.2.1 i - _ = w.2.2.2.2.2.1 i - _
        rw [hk, hp]
      · rw [if_neg c4, if_pos (hi.mpr (Or.inr (Int32.not_le.mp c4)))]
