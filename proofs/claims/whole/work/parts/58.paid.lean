/-! all rings pay alike on both sides -/
theorem sm_pos {p : Nat → Bool} {h : Nat → Nat} : ∀ {n : Nat}, 0 < smB p h n → ∃ c, c < n ∧ p c = true ∧ 0 < h c
  | 0, q => absurd (show 0 < 0 from q) (Nat.lt_irrefl 0)
  | n + 1, q => by
    rw [smB_succ] at q
    by_cases w : 0 < smB p h n
    · obtain ⟨c, c1, c2⟩ := sm_pos w
      exact ⟨c, by omega, c2⟩
    · by_cases e : p n = true
      · rw [if_pos e] at q
        exact ⟨n, by omega, e, by omega⟩
      · rw [if_neg e] at q; omega
theorem sm_nil {p : Nat → Bool} {h : Nat → Nat} : ∀ {n : Nat}, smB p h n = 0 → ∀ c, c < n → p c = true → h c = 0
  | 0, _, c, hc, _ => absurd hc (Nat.not_lt_zero c)
  | n + 1, q, c, hc, hp => by
    rw [smB_succ] at q
    by_cases w : c = n
    · subst w; rw [if_pos hp] at q; omega
    · exact sm_nil (n := n) (by omega) c (by omega) hp
theorem sum77 {n k : Nat} (hn : n ≤ 6) {u1 : (Nat → Int32) × (Nat → Int32) × (Nat → Int32) × (Nat → Int32) × Nat} {R : (Nat → Int32) × (Nat → Int32)} {p : Nat → Bool} {pd : Nat → Nat} (hB : ∀ c, c < n → bt (u1.2.2.2.1 k) c = p c) (hR : ∀ c, c < n → p c = true → R.1 c = nI (pd c)) (Y : Nat → Int32) (hY : Y k = 0) : ∀ j, j ≤ n → itr (bd_X7_pay_77 k u1 R) j Y = upd Y k (nI (smB p pd j))
  | 0, _ => by
    funext q
    by_cases e : q = k
    · subst e; rw [pk_us]; exact hY
    · rw [pk_un e]; exact Eq.refl (Y q)
  | j + 1, hj => by
    rw [itr_succ, sum77 hn hB hR Y hY j (by omega), smB_succ]
    unfold bd_X7_pay_77
    by_cases e : p j = true
    · rw [if_neg (fun q => by have := (has7_0 (show j < 32 by omega)).mp q; rw [hB j (by omega), e] at this; cases this), if_pos e, pk_us, hR j (by omega) e, nI_add]
      funext q
      by_cases w : q = k
      · subst w; rw [pk_us, pk_us]
      · rw [pk_un w, pk_un w, pk_un w]
    · rw [if_pos ((has7_0 (show j < 32 by omega)).mpr (by rw [hB j (by omega)]; cases hx : p j <;> first | rfl | exact absurd hx e)), if_neg e, pk_us, show nI (smB p pd j) + (0 : Int32) = nI (smB p pd j + 0) from nI_add _ 0]
      funext q
      by_cases w : q = k
      · subst w; rw [pk_us, pk_us]
      · rw [pk_un w, pk_un w, pk_un w]
def JP (n lo : Nat) (refers : Nat → Int32) (k : Nat) (z w : Int32 × (Nat → Int32) × (Nat → Int32) × (Nat → Int32) × (Nat → Int32)) : Prop := ∃ (L : Nat) (pd lf rp : Nat → Nat),
  z.1 = nI L ∧ w.1 = nI (lo - L) ∧ L ≤ lo ∧
  (∀ j, j < k → z.2.1 j = nI (lf j) ∧ w.2.1 j = nI (lf j) ∧ z.2.2.1 j = nI (rp j) ∧ w.2.2.1 j = nI (rp j) ∧ lf j ≤ lo ∧ rp j ≤ lo) ∧
  (∀ c, c < n → ∀ j, j < k → gB (tB n refers) (LF n refers j) c = true → z.2.2.2.2 c = nI (pd c) ∧ w.2.2.2.2 c = nI (pd c) ∧ pd c ≤ 99) ∧
  (∀ j, j < k → lf j < lo → ∃ i c, i < j ∧ c < n ∧ gB (tB n refers) (LF n refers i) c = true ∧ 0 < pd c) ∧
  (L < lo → ∃ i c, i < k ∧ c < n ∧ gB (tB n refers) (LF n refers i) c = true ∧ 0 < pd c) ∧
  (lo = 0 → ∀ c, c < n → ∀ j, j < k → gB (tB n refers) (LF n refers j) c = true → pd c = 0)
theorem JP_step {n lo : Nat} (hn : n ≤ 6) (hlo : lo < 1000) {s kind limit ret quo refers : Nat → Int32} {kd li re qu : Nat → Nat} (h : SV n kind limit ret quo kd li re qu) (hs : SM n s kind limit ret quo refers) (hs1 : s 1 = nI lo) (hself : ∀ c, c < n → bt (refers c) c = false) {G bits : Nat → Int32} {u1 : (Nat → Int32) × (Nat → Int32) × (Nat → Int32) × (Nat → Int32) × Nat} {rf : Nat → Nat} (hG : ∀ c, c < n → G c = LG n refers c) {k : Nat} (hk : k < LM n refers) (hbits : bits k = LG n refers (LF n refers k)) (hrings : u1.2.2.2.1 k = LG n refers (LF n refers k)) (hrf : rf k = LF n refers k) {z w : Int32 × (Nat → Int32) × (Nat → Int32) × (Nat → Int32) × (Nat → Int32)} (hJ : JP n lo refers k z w) : JP n lo refers (k + 1) (bd_X0_payAt_4 G bits kind limit ret quo refers n rf k z) (bd_X7_pay_32 s n u1 k w) := by
  obtain ⟨L, pd, lf, rp, e1, e2, e3, e4, e5, e6, e7, e8⟩ := hJ
  have hf := (LF_in hk).1
  have hB : ∀ c, c < n → bt (LG n refers (LF n refers k)) c = gB (tB n refers) (LF n refers k) c := fun c hc => LG_bit hn refers hf hc
  have hbig : ∀ i, n ≤ i → bt (LG n refers (LF n refers k)) i = false := fun i hi => LG_big hn refers hf hi
  have hff : bt (LG n refers (LF n refers k)) (LF n refers k) = true := by rw [hB _ hf]; exact gB_rf _ _
  have ha := alone67 hn hf hff hbig
  have hL : L < 1000 := by omega
  have hag : f_X7_bits (LG n refers (LF n refers k)) = 1 → ∀ d, d < n → bt (refers (LF n refers k)) d = true → z.2.2.2.2 d = w.2.2.2.2 d := by
    intro q d hd hr
    have hb := alone_one hn hf (ha.mpr q) d hd
    have hdf : d ≠ LF n refers k := fun q => by subst q; rw [hself _ hf] at hr; cases hr
    have hg : gB (tB n refers) (LF n refers k) d = false := by
      rw [← hB d hd]
      cases x : bt (LG n refers (LF n refers k)) d
      · rfl
      · exact absurd (hb.mp x) hdf
    obtain ⟨j, hj, hjd⟩ := ix_ex hn refers hd
    have hlt := ahead hn hf hd hj hk hjd (gB_rf _ _) hr hg
    obtain ⟨a1, a2, -⟩ := e5 d hd j hlt hjd
    rw [a1, a2]
  -- the ring's pay
  have hlw : s 1 - w.1 = nI L := by rw [hs1, e2, pk_sub (by omega)]; exact congrArg nI (by omega)
  have hpay : RPAY n (gB (tB n refers) (LF n refers k)) L z.2.2.2.2 w.2.2.2.2 (bd_X0_payAt_4 G bits kind limit ret quo refers n rf k z).2.2.2.2 (f_X7_payRing s u1.2.2.2.1 w.2.2.2.2 w.2.2.2.1 (nI L) n k).1 ((bd_X0_payAt_4 G bits kind limit ret quo refers n rf k z).2.2.1 k) ∧ (bd_X0_payAt_4 G bits kind limit ret quo refers n rf k z).1 = nI L - (bd_X0_payAt_4 G bits kind limit ret quo refers n rf k z).2.2.1 k ∧ (bd_X0_payAt_4 G bits kind limit ret quo refers n rf k z).2.1 = upd z.2.1 k (nI L) ∧ ∀ j, j ≠ k → (bd_X0_payAt_4 G bits kind limit ret quo refers n rf k z).2.2.1 j = z.2.2.1 j := by
    unfold bd_X0_payAt_4
    rw [hrf, hbits, e1]
    by_cases q : f_X7_bits (LG n refers (LF n refers k)) = 1
    · have hal : f_X0_isAlone G (LF n refers k) = 1 := by unfold f_X0_isAlone; rw [hG _ hf, if_pos (ha.mpr q)]
      rw [hal, if_neg (show ¬ (1 : Int32) = 0 by decide)]
      dsimp only
      rw [pk_us]
      exact ⟨ring_alone hn h hs hB hL hf hrings (hG _ hf) (ha.mpr q) q (hag q), rfl, rfl, fun j hj => pk_un hj⟩
    · have hal : f_X0_isAlone G (LF n refers k) = 0 := by unfold f_X0_isAlone; rw [hG _ hf, if_neg (fun x => q (ha.mp x))]
      rw [hal, if_pos rfl]
      dsimp only
      rw [pk_us]
      exact ⟨ring_several hn h hs hB hL hrings q, rfl, rfl, fun j hj => pk_un hj⟩
  generalize bd_X0_payAt_4 G bits kind limit ret quo refers n rf k z = z' at hpay ⊢
  obtain ⟨⟨X, pd', x1, x2, x3, x4, x5, x6⟩, y1, y2, y3⟩ := hpay
  rw [x1] at y1
  rw [pk_sub x2] at y1
  -- the reference's step
  have hw : bd_X7_pay_32 s n u1 k w = (nI (lo - (L - X)), upd w.2.1 k (nI L), upd w.2.2.1 k (nI X), (f_X7_payRing s u1.2.2.2.1 w.2.2.2.2 w.2.2.2.1 (nI L) n k).2, (f_X7_payRing s u1.2.2.2.1 w.2.2.2.2 w.2.2.2.1 (nI L) n k).1) := by
    unfold bd_X7_pay_32
    rw [hlw, pk_us, sum77 hn (p := gB (tB n refers) (LF n refers k)) (pd := pd') (fun c hc => by rw [hrings]; exact hB c hc) (fun c hc hp => (x4 c hc hp).2.1) (upd w.2.2.1 k 0) pk_us n (Nat.le_refl n), x3, pk_us, e2, nI_add]
    have g1 : lo - L + X = lo - (L - X) := by omega
    have g2 : upd (upd w.2.2.1 k 0) k (nI X) = upd w.2.2.1 k (nI X) := by
      funext q
      by_cases e : q = k
      · subst e; rw [pk_us, pk_us]
      · rw [pk_un e, pk_un e, pk_un e]
    rw [g1, g2]
  rw [hw]
  have notk : ∀ c, c < n → ∀ j, j < k → gB (tB n refers) (LF n refers j) c = true → gB (tB n refers) (LF n refers k) c = false := fun c hc j hj hg => by
    cases q : gB (tB n refers) (LF n refers k) c
    · rfl
    · exact absurd (ix_one hn (by omega) hk hc hg q) (by omega)
  refine ⟨L - X, fun c => if gB (tB n refers) (LF n refers k) c = true then pd' c else pd c, fun j => if j = k then L else lf j, fun j => if j = k then X else rp j, y1, rfl, by omega, fun j hj => ?_, fun c hc j hj hg => ?_, fun j hj hl => ?_, fun hl => ?_, fun h0 c hc j hj hg => ?_⟩
  · show z'.2.1 j = nI (if j = k then L else lf j) ∧ upd w.2.1 k (nI L) j = nI (if j = k then L else lf j) ∧ z'.2.2.1 j = nI (if j = k then X else rp j) ∧ upd w.2.2.1 k (nI X) j = nI (if j = k then X else rp j) ∧ (if j = k then L else lf j) ≤ lo ∧ (if j = k then X else rp j) ≤ lo
    rw [y2]
    by_cases e : j = k
    · subst e
      rw [pk_us, pk_us, pk_us, if_pos rfl, if_pos rfl, x1]
      exact ⟨rfl, rfl, rfl, rfl, e3, by omega⟩
    · rw [pk_un e, pk_un e, pk_un e, if_neg e, if_neg e, y3 j e]
      exact e4 j (by omega)
  · show z'.2.2.2.2 c = nI (if gB (tB n refers) (LF n refers k) c = true then pd' c else pd c) ∧ _ = nI (if gB (tB n refers) (LF n refers k) c = true then pd' c else pd c) ∧ (if gB (tB n refers) (LF n refers k) c = true then pd' c else pd c) ≤ 99
    by_cases e : gB (tB n refers) (LF n refers k) c = true
    · rw [if_pos e]; exact x4 c hc e
    · rw [if_neg e]
      have e0 : gB (tB n refers) (LF n refers k) c = false := by cases q : gB (tB n refers) (LF n refers k) c <;> first | rfl | exact absurd q e
      have hjk : j < k := by
        rcases Nat.lt_or_ge j k with q | q
        · exact q
        · have : j = k := by omega
          subst this; exact absurd hg e
      obtain ⟨a1, a2⟩ := x5 c hc e0
      obtain ⟨b1, b2, b3⟩ := e5 c hc j hjk hg
      exact ⟨a1.trans b1, a2.trans b2, b3⟩
  · have hl : (if j = k then L else lf j) < lo := hl
    show ∃ i c, i < j ∧ c < n ∧ gB (tB n refers) (LF n refers i) c = true ∧ 0 < (if gB (tB n refers) (LF n refers k) c = true then pd' c else pd c)
    have old : ∃ i c, i < j ∧ c < n ∧ gB (tB n refers) (LF n refers i) c = true ∧ 0 < pd c := by
      by_cases e : j = k
      · subst e; rw [if_pos rfl] at hl; exact e7 hl
      · rw [if_neg e] at hl; exact e6 j (by omega) hl
    obtain ⟨i, c, a1, a2, a3, a4⟩ := old
    refine ⟨i, c, a1, a2, a3, ?_⟩
    rw [notk c a2 i (by omega) a3]
    exact a4
  · show ∃ i c, i < k + 1 ∧ c < n ∧ gB (tB n refers) (LF n refers i) c = true ∧ 0 < (if gB (tB n refers) (LF n refers k) c = true then pd' c else pd c)
    by_cases e : X = 0
    · obtain ⟨i, c, a1, a2, a3, a4⟩ := e7 (by omega)
      refine ⟨i, c, by omega, a2, a3, ?_⟩
      rw [notk c a2 i a1 a3]
      exact a4
    · obtain ⟨c, a1, a2, a3⟩ := sm_pos (p := gB (tB n refers) (LF n refers k)) (h := pd') (n := n) (by omega)
      exact ⟨k, c, by omega, a1, a2, by rw [if_pos a2]; exact a3⟩
  · show (if gB (tB n refers) (LF n refers k) c = true then pd' c else pd c) = 0
    by_cases e : gB (tB n refers) (LF n refers k) c = true
    · rw [if_pos e]
      exact sm_nil (by have := x6 (by omega); omega) c hc e
    · rw [if_neg e]
      have hjk : j < k := by
        rcases Nat.lt_or_ge j k with q | q
        · exact q
        · have : j = k := by omega
          subst this; exact absurd hg e
      exact e8 h0 c hc j hjk hg
