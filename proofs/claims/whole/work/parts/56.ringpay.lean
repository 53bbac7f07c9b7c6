/-! a ring pays alike on both sides -/
theorem z25_in {s : Nat → Int32} {left v20 B : Int32} {n : Nat} (hn : n ≤ 6) {mo P : Nat → Int32} : ∀ j, j ≤ n → ∀ c, c < n → ((itr (bd_X7_payRing_25 s left n v20 B) j (mo, P)).2 c = if c < j ∧ bt B c = true then (if v20 = 0 then 0 else (itr (bd_X7_payRing_25 s left n v20 B) j (mo, P)).1 c) else P c) ∧ (bt B c = false ∨ j ≤ c → (itr (bd_X7_payRing_25 s left n v20 B) j (mo, P)).1 c = mo c)
  | 0, _, c, _ => by
    rw [if_neg (fun q => absurd q.1 (Nat.not_lt_zero c))]
    exact ⟨Eq.refl (P c), fun _ => Eq.refl (mo c)⟩
  | j + 1, hj, c, hc => by
    obtain ⟨ih1, ih2⟩ := z25_in (s := s) (left := left) (v20 := v20) (B := B) hn (mo := mo) (P := P) j (by omega) c hc
    rw [itr_succ]
    generalize itr (bd_X7_payRing_25 s left n v20 B) j (mo, P) = z at ih1 ih2 ⊢
    unfold bd_X7_payRing_25
    by_cases e : bt B j = true
    · rw [if_neg (fun q => by rw [(has7_0 (by omega)).mp q] at e; cases e)]
      by_cases v : v20 = 0
      · rw [if_pos v]
        dsimp only
        by_cases w : c = j
        · subst w
          rw [pk_us, pk_us, if_pos ⟨by omega, e⟩, if_pos v]
          exact ⟨rfl, fun q => by rcases q with q | q; (rw [e] at q; cases q); omega⟩
        · rw [pk_un w, pk_un w, ih1]
          refine ⟨?_, fun q => ih2 (by rcases q with q | q; exact Or.inl q; exact Or.inr (by omega))⟩
          by_cases x : c < j ∧ bt B c = true
          · rw [if_pos x, if_pos (show c < j + 1 ∧ bt B c = true from ⟨by omega, x.2⟩)]
          · rw [if_neg x, if_neg (fun q => x ⟨by omega, q.2⟩)]
      · rw [if_neg v]
        dsimp only
        by_cases w : c = j
        · subst w
          rw [pk_us, pk_us, if_pos ⟨by omega, e⟩, if_neg v]
          exact ⟨rfl, fun q => by rcases q with q | q; (rw [e] at q; cases q); omega⟩
        · rw [pk_un w, pk_un w, ih1]
          refine ⟨?_, fun q => ih2 (by rcases q with q | q; exact Or.inl q; exact Or.inr (by omega))⟩
          by_cases x : c < j ∧ bt B c = true
          · rw [if_pos x, if_pos (show c < j + 1 ∧ bt B c = true from ⟨by omega, x.2⟩)]
          · rw [if_neg x, if_neg (fun q => x ⟨by omega, q.2⟩)]
    · rw [if_pos ((has7_0 (by omega)).mpr (by cases hx : bt B j <;> first | rfl | exact absurd hx e)), ih1]
      have hne : c = j → bt B c = false := fun q => by subst q; cases hx : bt B c <;> first | rfl | exact absurd hx e
      refine ⟨?_, fun q => ih2 (by
        rcases q with q | q
        · exact Or.inl q
        · exact Or.inr (by omega))⟩
      by_cases x : c < j ∧ bt B c = true
      · rw [if_pos x, if_pos (show c < j + 1 ∧ bt B c = true from ⟨by omega, x.2⟩)]
      · have x2 : ¬ (c < j + 1 ∧ bt B c = true) := by
          intro q
          by_cases w : c = j
          · rw [hne w] at q; cases q.2
          · exact x ⟨by omega, q.2⟩
        rw [if_neg x, if_neg x2]
/-- the most of a ring of several, on the reference's side -/
theorem z25_most {n : Nat} (hn : n ≤ 6) {s kind limit ret quo refers : Nat → Int32} {kd li re qu : Nat → Nat} (h : SV n kind limit ret quo kd li re qu) (hs : SM n s kind limit ret quo refers) {B : Int32} {L : Nat} (hL : L < 1000) {mo P : Nat → Int32} : ∀ j, j ≤ n → ∀ c, c < j → bt B c = true → (itr (bd_X7_payRing_25 s (nI L) n 0 B) j (mo, P)).1 c = nI (moN (kd c) (li c) (re c) (qu c) L)
  | 0, _, c, hc, _ => absurd hc (Nat.not_lt_zero c)
  | j + 1, hj, c, hc, hb => by
    have ih := z25_most hn h hs (B := B) hL (mo := mo) (P := P) j (by omega) c
    rw [itr_succ]
    generalize itr (bd_X7_payRing_25 s (nI L) n 0 B) j (mo, P) = z at ih ⊢
    unfold bd_X7_payRing_25
    by_cases e : f_X7_has B (nI j) = 0
    · rw [if_pos e]
      have e2 := (has7_0 (show j < 32 by omega)).mp e
      exact ih (by
        by_cases w : c = j
        · subst w; rw [e2] at hb; cases hb
        · omega) hb
    · rw [if_neg e, if_pos rfl]
      show upd z.1 j (f_X7_most s z.2 (nI L) 0 n j) c = _
      by_cases w : c = j
      · subst w
        rw [pk_us, most7 h hs (by omega) hL, if_neg (fun q => q.1 rfl)]
      · rw [pk_un w]; exact ih (by omega) hb
theorem wl_off {n : Nat} {B x : Int32} {Z : (Nat → Int32) × (Nat → Int32)} {P : Nat → Int32} : ((wl (bd_X7_payRing_117 n B Z) 4294967296 (x, 0, P)).getD (x, 0, P)).2.2 = P := by
  have hb : bd_X7_payRing_117 n B Z (x, 0, P) = .inr (x, 0, P) := by unfold bd_X7_payRing_117; rw [if_pos rfl]
  rw [show (4294967296 : Nat) = 4294967295 + 1 from rfl, wl_inr hb, Option.getD_some]
/-- what both have, when ring k has paid -/
def RPAY (n : Nat) (p : Nat → Bool) (L : Nat) (P6 P7 Q6 Q7 : Nat → Int32) (x : Int32) : Prop := ∃ X pd, x = nI X ∧ X ≤ L ∧ smB p pd n = X ∧ (∀ c, c < n → p c = true → Q6 c = nI (pd c) ∧ Q7 c = nI (pd c) ∧ pd c ≤ 99) ∧ (∀ c, c < n → p c = false → Q6 c = P6 c ∧ Q7 c = P7 c) ∧ (L = 0 → X = 0)
theorem moN_0 {kd li re qu : Nat} : moN kd li re qu 0 = 0 := by
  have e : shN kd qu 0 = 0 := by
    unfold shN
    split
    · rw [Nat.zero_mul]
    · rfl
  unfold moN
  rw [e, if_pos (Nat.zero_le _)]
theorem ring_several {n : Nat} (hn : n ≤ 6) {s kind limit ret quo refers : Nat → Int32} {kd li re qu : Nat → Nat} (h : SV n kind limit ret quo kd li re qu) (hs : SM n s kind limit ret quo refers) {B : Int32} {p : Nat → Bool} (hB : ∀ c, c < n → bt B c = p c) {L : Nat} (hL : L < 1000) {rings P6 P7 M mo : Nat → Int32} {k : Nat} (hk : rings k = B) (hbit : ¬ f_X7_bits B = 1) : RPAY n p L P6 P7 (f_X0_payByTurns M P6 kind limit ret quo B (nI L) n).2.2 (f_X7_payRing s rings P7 mo (nI L) n k).1 (f_X0_payByTurns M P6 kind limit ret quo B (nI L) n).1 := by
  have hcap : ∀ c, c < n → moN (kd c) (li c) (re c) (qu c) L ≤ 99 := fun c hc => Nat.le_trans moN_le (h c hc).2.2.2.1
  -- the class
  have hM : ∀ c, c < n → p c = true → itr (bd_X0_payByTurns_2 kind limit ret quo B (nI L)) n M c = nI (moN (kd c) (li c) (re c) (qu c) L) := by
    have key : ∀ j, j ≤ n → ∀ c, c < j → bt B c = true → itr (bd_X0_payByTurns_2 kind limit ret quo B (nI L)) j M c = nI (moN (kd c) (li c) (re c) (qu c) L) := by
      intro j
      induction j with
      | zero => exact fun _ c hc => absurd hc (Nat.not_lt_zero c)
      | succ j ih =>
        intro hj c hc hb
        rw [itr_succ]
        have ih := ih (by omega) c
        generalize itr (bd_X0_payByTurns_2 kind limit ret quo B (nI L)) j M = y at ih ⊢
        unfold bd_X0_payByTurns_2
        by_cases e : f_X6_has B (nI j) = 0
        · rw [if_pos e]
          have e2 := (has6_0 (show j < 32 by omega)).mp e
          exact ih (by
            by_cases w : c = j
            · subst w; rw [e2] at hb; cases hb
            · omega) hb
        · rw [if_neg e]
          by_cases w : c = j
          · subst w; rw [pk_us]; exact most6 h (by omega) hL
          · rw [pk_un w]; exact ih (by omega) hb
    exact fun c hc hp => key n (Nat.le_refl n) c hc (by rw [hB c hc]; exact hp)
  obtain ⟨h6, R6, a1, a2, a3, a4⟩ := deal6 hn (p := p) (cap := fun c => moN (kd c) (li c) (re c) (qu c) L) (C := itr (bd_X0_payByTurns_2 kind limit ret quo B (nI L)) n M) (P := P6) (B := B) hL hB (fun c hc hp => ⟨hM c hc hp, by have := hcap c hc; omega⟩)
  -- the reference
  have hZ1 : ∀ c, c < n → p c = true → (itr (bd_X7_payRing_25 s (nI L) n 0 B) n (mo, P7)).1 c = nI (moN (kd c) (li c) (re c) (qu c) L) := fun c hc hp => z25_most hn h hs hL n (Nat.le_refl n) c hc (by rw [hB c hc]; exact hp)
  have hZ2 : ∀ c, c < n → p c = true → (itr (bd_X7_payRing_25 s (nI L) n 0 B) n (mo, P7)).2 c = 0 := fun c hc hp => by rw [(z25_in hn n (Nat.le_refl n) c hc).1, if_pos ⟨hc, by rw [hB c hc]; exact hp⟩, if_pos rfl]
  have hZ3 : ∀ c, c < n → p c = false → (itr (bd_X7_payRing_25 s (nI L) n 0 B) n (mo, P7)).2 c = P7 c := fun c hc hp => by rw [(z25_in hn n (Nat.le_refl n) c hc).1, if_neg (fun q => by rw [hB c hc, hp] at q; cases q.2)]
  have e7 : ∃ h7 R7, RES n p (fun c => moN (kd c) (li c) (re c) (qu c) L) L h7 R7 ∧ (∀ c, c < n → p c = true → (f_X7_payRing s rings P7 mo (nI L) n k).1 c = nI (h7 c)) ∧ ∀ c, c < n → p c = false → (f_X7_payRing s rings P7 mo (nI L) n k).1 c = P7 c := by
    unfold f_X7_payRing
    rw [hk, if_neg hbit, if_pos rfl]
    generalize itr (bd_X7_payRing_25 s (nI L) n 0 B) n (mo, P7) = Z at hZ1 hZ2 hZ3 ⊢
    have hC : ∀ c, c < n → p c = true → Z.1 c = nI (moN (kd c) (li c) (re c) (qu c) L) ∧ moN (kd c) (li c) (re c) (qu c) L < 1000 := fun c hc hp => ⟨hZ1 c hc hp, by have := hcap c hc; omega⟩
    by_cases hl : nI L ≤ 0
    · rw [if_pos hl]
      have hL0 : L = 0 := by have := (nI_leI (a := L) (b := 0) (by omega) (by omega)).mp hl; omega
      obtain ⟨h7, R7, f1, f2, f3, f4⟩ := ones7 hn (p := p) (cap := fun c => moN (kd c) (li c) (re c) (qu c) L) (B := B) (Z := Z) hL hB hC (on := 0) (P := Z.2) hZ2 (fun _ => hL0) payR_s0
      exact ⟨h7, R7, f4, f3, fun c hc hp => by
        show ((wl (bd_X7_payRing_117 n B Z) 4294967296 (nI L, 0, Z.2)).getD (nI L, 0, Z.2)).2.2 c = _
        rw [fr_ones hn (by rw [hB c hc]; exact hp) _ payR_s0]; exact hZ3 c hc hp⟩
    · rw [if_neg hl]
      obtain ⟨h7, R7, f1, f2, f3, f4⟩ := ones7 hn (p := p) (cap := fun c => moN (kd c) (li c) (re c) (qu c) L) (B := B) (Z := Z) hL hB hC (on := 1) (P := Z.2) hZ2 (fun q => absurd q (by decide)) (payR_s1 hl)
      exact ⟨h7, R7, f4, f3, fun c hc hp => by
        show ((wl (bd_X7_payRing_117 n B Z) 4294967296 (nI L, 1, Z.2)).getD (nI L, 1, Z.2)).2.2 c = _
        rw [fr_ones hn (by rw [hB c hc]; exact hp) _ (payR_s1 hl)]; exact hZ3 c hc hp⟩
  obtain ⟨h7, R7, b1, b2, b3⟩ := e7
  obtain ⟨u1, u2⟩ := res_one a4 b1
  unfold f_X0_payByTurns
  refine ⟨L - R6, h6, a1, Nat.sub_le _ _, by have := a4.2.1; omega, fun c hc hp => ⟨a3 c hc hp, by rw [b2 c hc hp, u1 c hc hp], ?_⟩, fun c hc hp => ⟨fr_deal hn (by rw [hB c hc]; exact hp), b3 c hc hp⟩, fun q => by omega⟩
  obtain ⟨q, j, w⟩ := a4.1
  rw [w c hc hp]
  exact Nat.le_trans lvl_le (hcap c hc)
