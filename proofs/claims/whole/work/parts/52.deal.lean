/-! whole rounds dealt at once come to the same level -/
theorem open_or {C H : Nat → Int32} {B : Int32} {d : Nat} (hd : d < 32) : ∀ m, m ≤ 6 → (bt (itr (bd_X0_openOnesmp_6 C H B) m 0) d = true ↔ d < m ∧ bt B d = true ∧ ¬ C d ≤ H d)
  | 0, _ => by
    constructor
    · intro q
      have q2 : bt (0 : Int32) d = true := q
      rw [b_0] at q2
      cases q2
    · rintro ⟨h, _⟩
      exact absurd h (Nat.not_lt_zero d)
  | m + 1, hm => by
    have ih := open_or (C := C) (H := H) (B := B) hd m (by omega)
    rw [itr_succ]
    generalize itr (bd_X0_openOnesmp_6 C H B) m 0 = y at ih ⊢
    unfold bd_X0_openOnesmp_6
    have keep : (¬ (bt B m = true ∧ ¬ C m ≤ H m)) → (bt y d = true ↔ d < m + 1 ∧ bt B d = true ∧ ¬ C d ≤ H d) := by
      intro hno
      rw [ih]
      constructor
      · rintro ⟨h1, h2⟩
        exact ⟨by omega, h2⟩
      · rintro ⟨h1, h2⟩
        by_cases g : d = m
        · subst g; exact absurd h2 hno
        · exact ⟨by omega, h2⟩
    by_cases e : f_X6_has B (nI m) = 0
    · rw [if_pos e]
      exact keep (fun q => by rw [(has6_0 (by omega)).mp e] at q; cases q.1)
    · rw [if_neg e]
      by_cases e2 : C m ≤ H m
      · rw [if_pos e2]
        exact keep (fun q => q.2 e2)
      · rw [if_neg e2, b_or, Bool.or_eq_true, ih, b_one (by omega) hd, decide_eq_true_eq]
        have k1 := bf.mp (fun q => e ((has6_0 (by omega)).mpr q))
        constructor
        · rintro (⟨h1, h2⟩ | h)
          · exact ⟨by omega, h2⟩
          · subst h; exact ⟨by omega, k1, e2⟩
        · rintro ⟨h1, h2⟩
          by_cases g : d = m
          · exact Or.inr g
          · exact Or.inl ⟨by omega, h2⟩
theorem small_of {x : Int32} (h : ∀ i, 6 ≤ i → bt x i = false) : ∃ k, k < 64 ∧ x = nI k := by
  refine ⟨x.toBitVec.toNat, ?_, Int32.toBitVec_inj.mp (by show _ = BitVec.ofNat 32 _; simp)⟩
  refine Nat.lt_pow_two_of_testBit (n := 6) _ (fun i hi => ?_)
  have := h i hi
  unfold bt at this
  rw [← BitVec.testBit_toNat] at this
  exact this
theorem bc_tab : ∀ k, k < 64 → f_J6_bitCount_0f7a4 (nI k) = nI (fb_ct (bt (nI k)) 6) := by decide +kernel
theorem ct_ext {p : Nat → Bool} {n : Nat} (h : ∀ k, n ≤ k → p k = false) : ∀ d, fb_ct p (n + d) = fb_ct p n
  | 0 => rfl
  | d + 1 => by
    rw [show n + (d + 1) = (n + d) + 1 from rfl, fb_ct_succ, ct_ext h d, h (n + d) (by omega)]
    rfl
theorem bc_eq {x : Int32} {n : Nat} (hn : n ≤ 6) (h : ∀ i, n ≤ i → bt x i = false) : f_J6_bitCount_0f7a4 x = nI (fb_ct (bt x) n) := by
  obtain ⟨k, hk, rfl⟩ := small_of (x := x) (fun i hi => h i (by omega))
  rw [bc_tab k hk]
  have := ct_ext (p := bt (nI k)) h (6 - n)
  rw [show n + (6 - n) = 6 by omega] at this
  rw [this]
theorem room_in {C H : Nat → Int32} {O : Int32} {cap h : Nat → Nat} {n : Nat} (hn : n ≤ 6) (hb : ∀ d, d < n → bt O d = true → C d = nI (cap d) ∧ H d = nI (h d) ∧ h d ≤ cap d ∧ cap d < 1000) : ∀ m, m ≤ n → ∃ v, v ≤ 2147483647 ∧ itr (bd_X0_leastRoommp_7 C H O) m 2147483647 = nI v ∧ (∀ d, d < m → bt O d = true → v ≤ cap d - h d) ∧ (v = 2147483647 ∨ ∃ d, d < m ∧ bt O d = true ∧ v = cap d - h d)
  | 0, _ => ⟨2147483647, Nat.le_refl _, (show (2147483647 : Int32) = nI 2147483647 by decide +kernel), fun d hd => absurd hd (Nat.not_lt_zero d), Or.inl rfl⟩
  | m + 1, hm => by
    obtain ⟨v, v1, v2, v3, v4⟩ := room_in hn hb m (by omega)
    rw [itr_succ, v2]
    unfold bd_X0_leastRoommp_7
    have up : (v = 2147483647 ∨ ∃ d, d < m ∧ bt O d = true ∧ v = cap d - h d) → (v = 2147483647 ∨ ∃ d, d < m + 1 ∧ bt O d = true ∧ v = cap d - h d) := by
      rintro (w | ⟨d, d1, d2, d3⟩)
      · exact Or.inl w
      · exact Or.inr ⟨d, by omega, d2, d3⟩
    by_cases e : bt O m = true
    · rw [if_neg (fun q => by rw [(has6_0 (by omega)).mp q] at e; cases e)]
      obtain ⟨b1, b2, b3, b4⟩ := hb m (by omega) e
      rw [b1, b2, pk_sub b3]
      by_cases g : cap m - h m < v
      · rw [if_pos ((nI_ltI (by omega) (by omega)).mpr g)]
        refine ⟨cap m - h m, by omega, rfl, fun d hd ho => ?_, Or.inr ⟨m, by omega, e, rfl⟩⟩
        by_cases w : d = m
        · subst w; exact Nat.le_refl _
        · exact Nat.le_trans (Nat.le_of_lt g) (v3 d (by omega) ho)
      · rw [if_neg (fun q => g ((nI_ltI (by omega) (by omega)).mp q))]
        refine ⟨v, v1, rfl, fun d hd ho => ?_, up v4⟩
        by_cases w : d = m
        · subst w; omega
        · exact v3 d (by omega) ho
    · rw [if_pos ((has6_0 (by omega)).mpr (by cases hx : bt O m <;> first | rfl | exact absurd hx e))]
      refine ⟨v, v1, rfl, fun d hd ho => ?_, up v4⟩
      by_cases w : d = m
      · subst w; exact absurd ho e
      · exact v3 d (by omega) ho
/-- the state of a turn; S: who is of it; O: who is open as the turn begins, at level Q; r rounds and N0 ones are to be dealt -/
def DIN (n : Nat) (p : Nat → Bool) (cap h : Nat → Nat) (O : Int32) (A R Q r N0 k : Nat) (y : Int32 × Int32 × (Nat → Int32)) : Prop := ∃ h' R' o j, y.1 = nI R' ∧ y.2.1 = nI o ∧ (∀ c, c < n → p c = true → y.2.2 c = nI (h' c)) ∧ smB p h' n + R' = A ∧ (∀ c, c < n → p c = true → h' c = if c < k then lvl cap (Q + r) j c else h c) ∧ j ≤ k ∧ (o ≠ 0 → j = k) ∧ R' + fb_ct (bt O) k * r + N0 = R + o ∧ o ≤ N0 ∧ (o ≠ 0 → (∀ c, c < k → bt O c = true → cap c ≠ Q + r) → N0 = o + fb_ct (bt O) k) ∧ (N0 = 0 → j = 0)
theorem din_step {n : Nat} (hn : n ≤ 6) {p : Nat → Bool} {cap h : Nat → Nat} {C : Nat → Int32} {O : Int32} {A R Q r N0 k : Nat} (hk : k < n) (hC : ∀ c, c < n → p c = true → C c = nI (cap c) ∧ cap c < 1000) (hO : ∀ c, c < n → (bt O c = true ↔ p c = true ∧ h c < cap c)) (hQ : ∀ c, c < n → p c = true → h c = lvl cap Q 0 c) (hr : ∀ c, c < n → bt O c = true → Q + r ≤ cap c) (hT : fb_ct (bt O) n * r + N0 ≤ R) (hR : R < 1000) {y : Int32 × Int32 × (Nat → Int32)} (h0 : DIN n p cap h O A R Q r N0 k y) : DIN n p cap h O A R Q r N0 (k + 1) (bd_X0_dealmp_122 C O (nI r) k y) := by
  obtain ⟨h', R', o, j, e1, e2, e3, e4, e5, e6, e7, e8, e9, e10, e11⟩ := h0
  have hQ0 : ∀ c, c < n → p c = true → h c = if cap c ≤ Q then cap c else Q := fun c hc hp => by
    rw [hQ c hc hp]; unfold lvl; simp only [Nat.not_lt_zero, if_false, Nat.add_zero]
  unfold bd_X0_dealmp_122
  by_cases c0 : bt O k = true
  · rw [if_neg (fun q => by rw [(has6_0 (by omega)).mp q] at c0; cases c0)]
    obtain ⟨hp, hlt⟩ := (hO k hk).mp c0
    obtain ⟨hCk, hcb⟩ := hC k hk hp
    have hq := hQ0 k hk hp
    have hhk : h k = Q ∧ Q < cap k := by split at hq <;> omega
    have hrk := hr k hk c0
    have h'k : h' k = Q := by rw [e5 k hk hp, if_neg (Nat.lt_irrefl k)]; exact hhk.1
    have hct : fb_ct (bt O) (k + 1) = fb_ct (bt O) k + 1 := by rw [fb_ct_succ, if_pos c0]
    have hmul : (fb_ct (bt O) k + 1) * r = fb_ct (bt O) k * r + r := Nat.succ_mul _ _
    have hle : (fb_ct (bt O) k + 1) * r ≤ fb_ct (bt O) n * r := Nat.mul_le_mul_right r (by
      have h1 := fb_ct_mono (bt O) (show k + 1 ≤ n by omega)
      omega)
    have y3 := e3 k hk hp
    rw [h'k] at y3
    -- what is given: g, and the new j
    have fin : ∀ (g j' o' : Nat), j' ≤ k + 1 → (o' ≠ 0 → j' = k + 1) → r ≤ g → g ≤ r + 1 → Q + g = lvl cap (Q + r) j' k → (∀ c, c < k → lvl cap (Q + r) j' c = lvl cap (Q + r) j c) → o' + g = o + r → (o' ≠ 0 → (∀ c, c < k + 1 → bt O c = true → cap c ≠ Q + r) → N0 = o' + fb_ct (bt O) (k + 1)) → (N0 = 0 → j' = 0) → g ≤ R' ∧ DIN n p cap h O A R Q r N0 (k + 1) (nI (R' - g), nI o', upd y.2.2 k (nI (Q + g))) := by
      intro g j' o' j1 j2 g1 g2 lk lc og cn jn
      have hgR : g ≤ R' := by omega
      refine ⟨hgR, fun c => if c = k then Q + g else h' c, R' - g, o', j', rfl, rfl, fun c hc hpc => ?_, ?_, fun c hc hpc => ?_, j1, j2, ?_, by omega, cn, jn⟩
      · show upd y.2.2 k (nI (Q + g)) c = nI (if c = k then Q + g else h' c)
        by_cases v : c = k
        · subst v; rw [pk_us, if_pos rfl]
        · rw [pk_un v, if_neg v]; exact e3 c hc hpc
      · have hs := sm_upd (h := h') (v := Q + g) hk hp
        omega
      · show (if c = k then Q + g else h' c) = _
        by_cases v : c = k
        · subst v; rw [if_pos rfl, if_pos (by omega)]; exact lk
        · rw [if_neg v, e5 c hc hpc]
          by_cases w : c < k
          · rw [if_pos w, if_pos (by omega), lc c w]
          · rw [if_neg w, if_neg (by omega)]
      · rw [hct, hmul]; omega
    rw [e1, e2, y3, hCk]
    by_cases c1 : o = 0
    · rw [if_pos (by rw [c1]; exact Int32.le_refl _)]
      obtain ⟨g1, g2⟩ := fin r j o (by omega) (fun q => absurd c1 q) (Nat.le_refl r) (by omega) (by
        unfold lvl; simp only [show ¬ k < j by omega, if_false, Nat.add_zero]; split <;> omega) (fun _ _ => rfl) (by omega) (fun q => absurd c1 q) e11
      rw [show nI r + (0 : Int32) = nI r from nI_add r 0, show nI o - (0 : Int32) = nI o from pk_sub (Nat.zero_le o), pk_sub g1, nI_add]
      exact g2
    · rw [if_neg (fun q => by have := (nI_leI (a := o) (b := 0) (by omega) (by omega)).mp q; omega), nI_add]
      have hj := e7 c1
      have lc : ∀ c, c < k → lvl cap (Q + r) (k + 1) c = lvl cap (Q + r) j c := fun c hc => by rw [hj]; exact lvl_s (by omega)
      by_cases c2 : cap k ≤ Q + r
      · rw [if_pos ((nI_leI (by omega) (by omega)).mpr c2)]
        obtain ⟨g1, g2⟩ := fin r (k + 1) o (Nat.le_refl _) (fun _ => rfl) (Nat.le_refl r) (by omega) (by rw [lvl_k1]; split <;> omega) lc (by omega) (fun q w => absurd (w k (by omega) c0) (by omega)) (fun q => by omega)
        rw [show nI r + (0 : Int32) = nI r from nI_add r 0, show nI o - (0 : Int32) = nI o from pk_sub (Nat.zero_le o), pk_sub g1, nI_add]
        exact g2
      · rw [if_neg (fun q => c2 ((nI_leI (by omega) (by omega)).mp q))]
        obtain ⟨g1, g2⟩ := fin (r + 1) (k + 1) (o - 1) (Nat.le_refl _) (fun _ => rfl) (by omega) (Nat.le_refl _) (by rw [lvl_k1]; split <;> omega) lc (by omega) (fun q w => by
          have := e10 c1 (fun c hc hb => w c (by omega) hb)
          omega) (fun q => by omega)
        rw [show (1 : Int32) = nI 1 from rfl, nI_add, pk_sub g1, pk_sub (show 1 ≤ o by omega), nI_add]
        exact g2
  · have c00 : bt O k = false := by cases hx : bt O k <;> first | rfl | exact absurd hx c0
    rw [if_pos ((has6_0 (by omega)).mpr c00)]
    have hct : fb_ct (bt O) (k + 1) = fb_ct (bt O) k := by rw [fb_ct_succ, c00]; rfl
    refine ⟨h', R', o, if o = 0 then j else k + 1, e1, e2, e3, e4, fun c hc hpc => ?_, by split <;> omega, fun q => by rw [if_neg q], by rw [hct]; exact e8, e9, fun q w => by rw [hct]; exact e10 q (fun c hc hb => w c (by omega) hb), fun q => by rw [if_pos (by omega)]; exact e11 q⟩
    rw [e5 c hc hpc]
    by_cases w : c < k
    · rw [if_pos w, if_pos (by omega)]
      by_cases v : o = 0
      · rw [if_pos v]
      · rw [if_neg v, e7 v, lvl_s (by omega)]
    · rw [if_neg w]
      by_cases v : c = k
      · subst v
        rw [if_pos (by omega), hQ0 c hc hpc]
        have hcl : ¬ h c < cap c := fun q => c0 ((hO c hc).mpr ⟨hpc, q⟩)
        have hh := hQ0 c hc hpc
        have hx : cap c ≤ Q := by split at hh <;> omega
        rw [if_pos hx]
        unfold lvl
        rw [if_pos (by omega)]
      · rw [if_neg (by omega)]
