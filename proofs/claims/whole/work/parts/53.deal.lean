/-! the turns of a deal -/
def opB (p : Nat → Bool) (cap h : Nat → Nat) (c : Nat) : Bool := p c && decide (h c < cap c)
def DT (n : Nat) (p : Nat → Bool) (cap : Nat → Nat) (A t : Nat) (z : Int32 × (Nat → Int32)) : Prop := ∃ h R, z.1 = nI R ∧ R < 1000 ∧ (∀ c, c < n → p c = true → z.2 c = nI (h c)) ∧ smB p h n + R = A ∧ (∃ q j, ∀ c, c < n → p c = true → h c = lvl cap q j c) ∧ (R ≠ 0 → ∃ Q, ∀ c, c < n → p c = true → h c = lvl cap Q 0 c) ∧ (R = 0 ∨ fb_ct (opB p cap h) n + t ≤ 6)
theorem lvl_top {cap : Nat → Nat} {q j c : Nat} (h : cap c ≤ q) : lvl cap q j c = cap c := by
  unfold lvl
  rw [if_pos (by omega)]
theorem turn_main {n : Nat} (hn : n ≤ 6) {p : Nat → Bool} {cap h : Nat → Nat} {C H : Nat → Int32} {O : Int32} {A R Q r N0 t : Nat} (hC : ∀ c, c < n → p c = true → C c = nI (cap c) ∧ cap c < 1000) (hH : ∀ c, c < n → p c = true → H c = nI (h c)) (hO : ∀ c, c < n → (bt O c = true ↔ p c = true ∧ h c < cap c)) (hQ : ∀ c, c < n → p c = true → h c = lvl cap Q 0 c) (hr : ∀ c, c < n → bt O c = true → Q + r ≤ cap c) (hT : fb_ct (bt O) n * r + N0 ≤ R) (hR : R < 1000) (hA : smB p h n + R = A) (hct : fb_ct (opB p cap h) n + t ≤ 6)
    (hcase : (N0 = 0 ∧ ∃ c, c < n ∧ bt O c = true ∧ Q + r = cap c) ∨ (fb_ct (bt O) n * r + N0 = R ∧ N0 < fb_ct (bt O) n)) : DT n p cap A (t + 1) ((itr (bd_X0_dealmp_122 C O (nI r)) n (nI R, nI N0, H)).1, (itr (bd_X0_dealmp_122 C O (nI r)) n (nI R, nI N0, H)).2.2) := by
  have st : DIN n p cap h O A R Q r N0 0 (nI R, nI N0, H) := ⟨h, R, N0, 0, rfl, rfl, hH, hA, fun c _ _ => by rw [if_neg (Nat.not_lt_zero c)], Nat.le_refl 0, fun _ => rfl, by
    show R + 0 * r + N0 = R + N0
    rw [Nat.zero_mul]; omega, Nat.le_refl _, fun _ _ => rfl, fun _ => rfl⟩
  obtain ⟨h', R', o, j, e1, e2, e3, e4, e5, e6, e7, e8, e9, e10, e11⟩ := itr_inv (b := bd_X0_dealmp_122 C O (nI r)) (P := fun k y => DIN n p cap h O A R Q r N0 k y) st (n := n) (fun k y hk ih => din_step hn hk hC hO hQ hr hT hR ih)
  have f5 : ∀ c, c < n → p c = true → h' c = lvl cap (Q + r) j c := fun c hc hp => by rw [e5 c hc hp, if_pos hc]
  have ge : ∀ c, c < n → p c = true → h c ≤ h' c := fun c hc hp => by
    rw [f5 c hc hp, hQ c hc hp]
    exact lvl_mono (by omega)
  have dec : (∃ c, c < n ∧ bt O c = true ∧ Q + r = cap c) → fb_ct (opB p cap h') n + (t + 1) ≤ 6 := by
    rintro ⟨c, hc, hb, hx⟩
    obtain ⟨hp, hlt⟩ := (hO c hc).mp hb
    have : fb_ct (opB p cap h') n < fb_ct (opB p cap h) n := by
      refine ct_lt (k := c) (fun d hd w => ?_) hc ?_ ?_
      · unfold opB at w ⊢
        rw [Bool.and_eq_true, decide_eq_true_eq] at w ⊢
        have := ge d hd w.1
        exact ⟨w.1, by omega⟩
      · unfold opB
        rw [hp, Bool.true_and, decide_eq_false_iff_not, f5 c hc hp, lvl_top (by omega)]
        omega
      · unfold opB
        rw [hp, Bool.true_and, decide_eq_true_eq]
        exact hlt
    omega
  refine ⟨h', R', e1, by omega, e3, e4, ⟨Q + r, j, f5⟩, fun w => ?_, ?_⟩
  · rcases hcase with ⟨q, -⟩ | ⟨q1, q2⟩
    · rw [e11 q] at f5
      exact ⟨Q + r, f5⟩
    · have ho : o ≠ 0 := by omega
      rw [e7 ho] at f5
      exact ⟨Q + r + 1, fun c hc hp => by rw [f5 c hc hp]; exact lvl_n hc⟩
  · by_cases w : R' = 0
    · exact Or.inl w
    · refine Or.inr (dec ?_)
      rcases hcase with ⟨-, q⟩ | ⟨q1, q2⟩
      · exact q
      · have ho : o ≠ 0 := by omega
        by_cases x : ∃ c, c < n ∧ bt O c = true ∧ Q + r = cap c
        · exact x
        · have := e10 ho (fun c hc hb q => x ⟨c, hc, hb, q.symm⟩)
          omega
theorem turn_all {n : Nat} (hn : n ≤ 6) {p : Nat → Bool} {cap : Nat → Nat} {C : Nat → Int32} {B : Int32} {A t : Nat} (hB : ∀ c, c < n → bt B c = p c) (hC : ∀ c, c < n → p c = true → C c = nI (cap c) ∧ cap c < 1000) {z : Int32 × (Nat → Int32)} (h : DT n p cap A t z) : (∀ y, bd_X0_dealmp_42 C B n t z = .inl y → DT n p cap A (t + 1) y) ∧ (∀ y, bd_X0_dealmp_42 C B n t z = .inr y → OE n p cap A y.1 y.2) := by
  obtain ⟨h, R, e1, e2, e3, e4, e5, e6, e7⟩ := h
  have hle : ∀ c, c < n → p c = true → h c ≤ cap c := fun c hc hp => by
    obtain ⟨q, j, w⟩ := e5
    rw [w c hc hp]; exact lvl_le
  unfold bd_X0_dealmp_42
  by_cases hR : R = 0
  · rw [if_pos (by rw [e1, hR]; exact Int32.le_refl _)]
    refine ⟨fun y q => (by cases q), fun y q => ?_⟩
    cases q
    exact ⟨h, R, e1, e2, e3, e5, e4, Or.inl hR⟩
  · rw [if_neg (fun q => by rw [e1] at q; have := (nI_leI (a := R) (b := 0) (by omega) (by omega)).mp q; omega)]
    have hOo : ∀ d, d < 32 → (bt (f_X0_openOnesmp C z.2 B n) d = true ↔ d < n ∧ bt B d = true ∧ ¬ C d ≤ z.2 d) := fun d hd => open_or hd n hn
    generalize f_X0_openOnesmp C z.2 B n = O at hOo ⊢
    have hO : ∀ c, c < n → (bt O c = true ↔ p c = true ∧ h c < cap c) := fun c hc => by
      rw [hOo c (by omega), hB c hc]
      constructor
      · rintro ⟨-, q1, q2⟩
        rw [(hC c hc q1).1, e3 c hc q1, nI_leI (by have := (hC c hc q1).2; omega) (by have := (hC c hc q1).2; have := hle c hc q1; omega)] at q2
        exact ⟨q1, by omega⟩
      · rintro ⟨q1, q2⟩
        refine ⟨hc, q1, fun q3 => ?_⟩
        rw [(hC c hc q1).1, e3 c hc q1, nI_leI (by have := (hC c hc q1).2; omega) (by have := (hC c hc q1).2; have := hle c hc q1; omega)] at q3
        omega
    have hOn : ∀ i, n ≤ i → bt O i = false := fun i hi => by
      by_cases q : i < 32
      · cases w : bt O i
        · rfl
        · have := ((hOo i q).mp w).1; omega
      · exact b_big (by omega)
    rw [bc_eq hn hOn, e1]
    have hctO : fb_ct (bt O) n = fb_ct (opB p cap h) n := fb_ct_cong (fun k hk => bool_ext (by
      unfold opB
      rw [hO k hk, Bool.and_eq_true, decide_eq_true_eq]))
    have hTle := fb_ct_le (bt O) n
    by_cases hT0 : fb_ct (bt O) n = 0
    · rw [if_pos (by rw [hT0]; rfl)]
      refine ⟨fun y q => (by cases q), fun y q => ?_⟩
      cases q
      refine ⟨h, R, e1, e2, e3, e5, e4, Or.inr (fun c hc hp => ?_)⟩
      have h1 := fb_ct_zero.mp hT0 c hc
      have h2 := hle c hc hp
      have h3 : ¬ h c < cap c := fun q => by rw [(hO c hc).mpr ⟨hp, q⟩] at h1; cases h1
      omega
    · rw [if_neg (show ¬ nI (fb_ct (bt O) n) = (0 : Int32) from fun q => hT0 ((nI_eq (a := fb_ct (bt O) n) (b := 0) (by omega) (by decide)).mp q))]
      obtain ⟨Q, hQ⟩ := e6 hR
      have hQ0 : ∀ c, c < n → bt O c = true → h c = Q := fun c hc hb => by
        obtain ⟨q1, q2⟩ := (hO c hc).mp hb
        have := hQ c hc q1
        unfold lvl at this
        simp only [Nat.not_lt_zero, if_false, Nat.add_zero] at this
        split at this <;> omega
      obtain ⟨v, v1, v2, v3, v4⟩ := room_in hn (C := C) (H := z.2) (O := O) (cap := cap) (h := h) (fun d hd hb => by
        obtain ⟨q1, q2⟩ := (hO d hd).mp hb
        exact ⟨(hC d hd q1).1, e3 d hd q1, by omega, (hC d hd q1).2⟩) n (Nat.le_refl n)
      have v2' : f_X0_leastRoommp C z.2 O n = nI v := v2
      rw [v2', pk_rem (a := R) (d := fb_ct (bt O) n) (by omega) (by omega) (by omega), pk_div (a := R) (d := fb_ct (bt O) n) (by omega) (by omega) (by omega)]
      have hct : fb_ct (opB p cap h) n + t ≤ 6 := by rcases e7 with q | q; exact absurd q hR; exact q
      have hdm := Nat.div_add_mod R (fb_ct (bt O) n)
      have hml := Nat.mod_lt R (Nat.pos_of_ne_zero hT0)
      have hqR : R / fb_ct (bt O) n ≤ R := Nat.div_le_self _ _
      obtain ⟨d, hd, hdb⟩ := fb_ct_pos.mp (Nat.pos_of_ne_zero hT0)
      have hd1 := v3 d hd hdb
      have hd2 := (hC d hd ((hO d hd).mp hdb).1).2
      have vat : ∃ c, c < n ∧ bt O c = true ∧ v = cap c - h c := by rcases v4 with q | q; omega; exact q
      have hrv : ∀ r, r ≤ v → ∀ c, c < n → bt O c = true → Q + r ≤ cap c := fun r hrv c hc hb => by
        have h1 := v3 c hc hb
        have h2 := hQ0 c hc hb
        have h3 := ((hO c hc).mp hb).2
        omega
      by_cases hcmp : R / fb_ct (bt O) n < v
      · rw [if_pos ((nI_ltI (by omega) (by omega)).mpr hcmp), if_pos rfl]
        refine ⟨fun y q => ?_, fun y q => (by cases q)⟩
        cases q
        exact turn_main hn hC (fun c hc hp => e3 c hc hp) hO hQ (hrv _ (by omega)) (by omega) e2 e4 hct (Or.inr ⟨by omega, hml⟩)
      · rw [if_neg (fun q => hcmp ((nI_ltI (by omega) (by omega)).mp q))]
        by_cases heq : v = R / fb_ct (bt O) n
        · rw [if_pos (by rw [heq])]
          refine ⟨fun y q => ?_, fun y q => (by cases q)⟩
          cases q
          rw [heq]
          exact turn_main hn hC (fun c hc hp => e3 c hc hp) hO hQ (hrv _ (by omega)) (by omega) e2 e4 hct (Or.inr ⟨by omega, hml⟩)
        · rw [if_neg (fun q => heq ((nI_eq (by omega) (by omega)).mp q))]
          refine ⟨fun y q => ?_, fun y q => (by cases q)⟩
          cases q
          have hvm : fb_ct (bt O) n * v ≤ fb_ct (bt O) n * (R / fb_ct (bt O) n) := Nat.mul_le_mul_left _ (by omega)
          obtain ⟨c, c1, c2, c3⟩ := vat
          have h2 := hQ0 c c1 c2
          have h3 := ((hO c c1).mp c2).2
          exact turn_main (r := v) (N0 := 0) hn hC (fun c hc hp => e3 c hc hp) hO hQ (hrv _ (Nat.le_refl v)) (by omega) e2 e4 hct (Or.inl ⟨rfl, c, c1, c2, by omega⟩)
theorem deal_end {n : Nat} {p : Nat → Bool} {cap : Nat → Nat} {A : Nat} {z : Int32 × (Nat → Int32)} (h : DT n p cap A 6 z) : OE n p cap A z.1 z.2 := by
  obtain ⟨h, R, e1, e2, e3, e4, e5, e6, e7⟩ := h
  refine ⟨h, R, e1, e2, e3, e5, e4, ?_⟩
  rcases e7 with q | q
  · exact Or.inl q
  · refine Or.inr (fun c hc hp => ?_)
    have h1 := fb_ct_zero.mp (show fb_ct (opB p cap h) n = 0 by omega) c hc
    unfold opB at h1
    rw [hp, Bool.true_and, decide_eq_false_iff_not] at h1
    obtain ⟨q, j, w⟩ := e5
    have := w c hc hp
    have h2 : lvl cap q j c ≤ cap c := lvl_le
    omega
theorem zero_in {B : Int32} {P : Nat → Int32} {c : Nat} : ∀ m, m ≤ 32 → itr (bd_X0_dealmp_3 B) m P c = if c < m ∧ bt B c = true then 0 else P c
  | 0, _ => by rw [if_neg (fun q => absurd q.1 (Nat.not_lt_zero c))]; exact Eq.refl (P c)
  | m + 1, hm => by
    have ih := zero_in (B := B) (P := P) (c := c) m (by omega)
    rw [itr_succ]
    generalize itr (bd_X0_dealmp_3 B) m P = y at ih ⊢
    unfold bd_X0_dealmp_3
    by_cases e : bt B m = true
    · rw [if_neg (fun q => by rw [(has6_0 (by omega)).mp q] at e; cases e)]
      by_cases w : c = m
      · subst w; rw [pk_us, if_pos ⟨by omega, e⟩]
      · rw [pk_un w, ih]
        by_cases x : c < m ∧ bt B c = true
        · rw [if_pos x, if_pos ⟨by omega, x.2⟩]
        · rw [if_neg x, if_neg (fun q => x ⟨by omega, q.2⟩)]
    · rw [if_pos ((has6_0 (by omega)).mpr (by cases hx : bt B m <;> first | rfl | exact absurd hx e)), ih]
      by_cases x : c < m ∧ bt B c = true
      · rw [if_pos x, if_pos ⟨by omega, x.2⟩]
      · have x2 : ¬ (c < m + 1 ∧ bt B c = true) := by
          intro q
          by_cases w : c = m
          · subst w; exact e q.2
          · exact x ⟨by omega, q.2⟩
        rw [if_neg x, if_neg x2]
/-- a deal: what it answers, and what each has -/
theorem deal6 {n : Nat} (hn : n ≤ 6) {p : Nat → Bool} {cap : Nat → Nat} {C P : Nat → Int32} {B : Int32} {A : Nat} (hA : A < 1000) (hB : ∀ c, c < n → bt B c = p c) (hC : ∀ c, c < n → p c = true → C c = nI (cap c) ∧ cap c < 1000) : ∃ h R, (f_X0_dealmp C P (nI A) B n).1 = nI (A - R) ∧ R ≤ A ∧ (∀ c, c < n → p c = true → (f_X0_dealmp C P (nI A) B n).2 c = nI (h c)) ∧ RES n p cap A h R := by
  have st : DT n p cap A 0 (nI A, itr (bd_X0_dealmp_3 B) n P) := by
    have hl : ∀ c, lvl cap 0 0 c = 0 := fun c => by unfold lvl; simp only [Nat.not_lt_zero, if_false]; split <;> omega
    have h0 : smB p (fun _ => 0) n = 0 := by
      have : ∀ m, smB p (fun _ => 0) m = 0 := by
        intro m
        induction m with
        | zero => rfl
        | succ m ih => rw [smB_succ, ih]; split <;> rfl
      exact this n
    refine ⟨fun _ => 0, A, rfl, hA, fun c hc hp => ?_, by omega, ⟨0, 0, fun c _ _ => (hl c).symm⟩, fun _ => ⟨0, fun c _ _ => (hl c).symm⟩, Or.inr (Nat.le_trans (fb_ct_le _ n) hn)⟩
    show itr (bd_X0_dealmp_3 B) n P c = nI 0
    rw [zero_in n (by omega), if_pos ⟨hc, by rw [hB c hc]; exact hp⟩]
    rfl
  have key : ∀ t, t ≤ 6 → (∀ z, itE (bd_X0_dealmp_42 C B n) t (nI A, itr (bd_X0_dealmp_3 B) n P) = .inl z → DT n p cap A t z) ∧ (∀ z, itE (bd_X0_dealmp_42 C B n) t (nI A, itr (bd_X0_dealmp_3 B) n P) = .inr z → OE n p cap A z.1 z.2) := by
    intro t
    induction t with
    | zero => exact fun _ => ⟨fun z q => (by cases q; exact st), fun z q => (by cases q)⟩
    | succ t ih =>
      intro ht
      obtain ⟨i1, i2⟩ := ih (by omega)
      cases hy : itE (bd_X0_dealmp_42 C B n) t (nI A, itr (bd_X0_dealmp_3 B) n P) with
      | inl y =>
        rw [itE_go hy]
        exact turn_all hn hB hC (i1 y hy)
      | inr y =>
        rw [itE_end' hy 1]
        exact ⟨fun z q => (by cases q), fun z q => (by cases q; exact i2 y hy)⟩
  have fin : OE n p cap A (mrg (itE (bd_X0_dealmp_42 C B n) 6 (nI A, itr (bd_X0_dealmp_3 B) n P))).1 (mrg (itE (bd_X0_dealmp_42 C B n) 6 (nI A, itr (bd_X0_dealmp_3 B) n P))).2 := by
    obtain ⟨k1, k2⟩ := key 6 (Nat.le_refl 6)
    cases hy : itE (bd_X0_dealmp_42 C B n) 6 (nI A, itr (bd_X0_dealmp_3 B) n P) with
    | inl y => exact deal_end (k1 y hy)
    | inr y => exact k2 y hy
  obtain ⟨h, R, f1, f2, f3, f4⟩ := fin
  have hRA : R ≤ A := by have := f4.2.1; omega
  unfold f_X0_dealmp
  rw [f1]
  exact ⟨h, R, pk_sub hRA, hRA, f3, f4⟩
