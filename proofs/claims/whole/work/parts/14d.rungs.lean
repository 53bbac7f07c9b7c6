/-! the class's rings and rungs -/
theorem supF_succ (p : Nat → Bool) (f : Nat → Nat) (m : Nat) : supF p f (m + 1) = if p m = true then (if supF p f m < f m + 1 then f m + 1 else supF p f m) else supF p f m := rfl
theorem rungAbove_eq {rung : Nat → Int32} {bits : Int32} {f : Nat → Nat} : ∀ m, m ≤ 6 → (∀ d, d < m → bt bits d = true → rung d = nI (f d) ∧ f d < 1000) → itr (bd_X0_rungAbove_4 rung bits) m 0 = nI (supF (bt bits) f m) ∧ supF (bt bits) f m ≤ 1000
  | 0, _, _ => ⟨rfl, Nat.zero_le _⟩
  | m + 1, hm, h => by
    obtain ⟨ih, ib⟩ := rungAbove_eq (rung := rung) (bits := bits) (f := f) m (by omega) (fun d hd => h d (by omega))
    rw [itr_succ, ih, supF_succ]
    unfold bd_X0_rungAbove_4
    by_cases e : bt bits m = true
    · obtain ⟨h1, h2⟩ := h m (by omega) e
      rw [if_neg (fun q => by rw [(has6_0 (by omega)).mp q] at e; cases e), if_pos e, h1, nI_1]
      by_cases g : supF (bt bits) f m < f m + 1
      · rw [if_pos g, if_pos ((nI_ltI (by omega) (by omega)).mpr g)]; exact ⟨rfl, by omega⟩
      · rw [if_neg g, if_neg (fun q => g ((nI_ltI (by omega) (by omega)).mp q))]; exact ⟨rfl, ib⟩
    · rw [if_pos ((has6_0 (by omega)).mpr (by cases hb : bt bits m <;> first | rfl | exact absurd hb e)), if_neg e]
      exact ⟨rfl, ib⟩
theorem out_or {refers : Nat → Int32} {ring : Int32} {d : Nat} : ∀ m, m ≤ 6 → (bt (itr (bd_X0_outside_4 refers ring) m 0) d = true ↔ ∃ e, e < m ∧ bt ring e = true ∧ bt (refers e) d = true)
  | 0, _ => by
    constructor
    · intro q
      have q2 : bt (0 : Int32) d = true := q
      rw [b_0] at q2
      cases q2
    · rintro ⟨e, h, _⟩
      exact absurd h (Nat.not_lt_zero e)
  | m + 1, hm => by
    have ih := out_or (refers := refers) (ring := ring) (d := d) m (by omega)
    rw [itr_succ]
    generalize itr (bd_X0_outside_4 refers ring) m 0 = y at ih ⊢
    unfold bd_X0_outside_4
    by_cases e : bt ring m = true
    · rw [if_neg (fun q => by rw [(has6_0 (by omega)).mp q] at e; cases e), b_or, Bool.or_eq_true, ih]
      constructor
      · rintro (⟨a, h1, h2, h3⟩ | h)
        · exact ⟨a, by omega, h2, h3⟩
        · exact ⟨m, by omega, e, h⟩
      · rintro ⟨a, h1, h2, h3⟩
        by_cases g : a = m
        · subst g; exact Or.inr h3
        · exact Or.inl ⟨a, by omega, h2, h3⟩
    · rw [if_pos ((has6_0 (by omega)).mpr (by cases hb : bt ring m <;> first | rfl | exact absurd hb e)), ih]
      constructor
      · rintro ⟨a, h1, h2, h3⟩
        exact ⟨a, by omega, h2, h3⟩
      · rintro ⟨a, h1, h2, h3⟩
        by_cases g : a = m
        · subst g; exact absurd h2 e
        · exact ⟨a, by omega, h2, h3⟩
theorem out_bit {refers : Nat → Int32} {ring : Int32} {n d : Nat} (hn : n ≤ 6) (hd : d < 32) : bt (f_X0_outside refers ring n) d = true ↔ (∃ e, e < n ∧ bt ring e = true ∧ bt (refers e) d = true) ∧ bt ring d = false := by
  unfold f_X0_outside
  rw [b_and, Bool.and_eq_true, out_or n hn, b_xor, b_m1 d hd]
  cases bt ring d <;> simp
theorem ring_or {T : Nat → Int32} {c : Nat} {x : Int32} {d : Nat} (hc : c < 32) (hd : d < 32) : ∀ m, m ≤ 6 → (bt (itr (bd_X0_findRings_19 T c) m x) d = true ↔ bt x d = true ∨ (d < m ∧ bt (T c) d = true ∧ bt (T d) c = true))
  | 0, _ => by
    constructor
    · exact fun q => Or.inl q
    · rintro (q | ⟨h, _⟩)
      · exact q
      · exact absurd h (Nat.not_lt_zero d)
  | m + 1, hm => by
    have ih := ring_or (T := T) (x := x) hc hd m (by omega)
    rw [itr_succ]
    generalize itr (bd_X0_findRings_19 T c) m x = y at ih ⊢
    unfold bd_X0_findRings_19
    have keep : (¬ (bt (T c) m = true ∧ bt (T m) c = true)) → (bt y d = true ↔ bt x d = true ∨ (d < m + 1 ∧ bt (T c) d = true ∧ bt (T d) c = true)) := by
      intro hno
      rw [ih]
      constructor
      · rintro (h | ⟨h1, h2⟩)
        · exact Or.inl h
        · exact Or.inr ⟨by omega, h2⟩
      · rintro (h | ⟨h1, h2⟩)
        · exact Or.inl h
        · by_cases g : d = m
          · subst g; exact absurd h2 hno
          · exact Or.inr ⟨by omega, h2⟩
    by_cases e : f_X6_has (T c) (nI m) = 0
    · rw [if_pos e]
      exact keep (fun q => by rw [(has6_0 (by omega)).mp e] at q; cases q.1)
    · rw [if_neg e]
      by_cases e2 : f_X6_has (T m) (nI c) = 0
      · rw [if_pos e2]
        exact keep (fun q => by rw [(has6_0 hc).mp e2] at q; cases q.2)
      · rw [if_neg e2, b_or, Bool.or_eq_true, ih, b_one (by omega) hd, decide_eq_true_eq]
        have k1 := bf.mp (fun q => e ((has6_0 (by omega)).mpr q))
        have k2 := bf.mp (fun q => e2 ((has6_0 hc).mpr q))
        constructor
        · rintro ((h | ⟨h1, h2⟩) | h)
          · exact Or.inl h
          · exact Or.inr ⟨by omega, h2⟩
          · subst h; exact Or.inr ⟨by omega, k1, k2⟩
        · rintro (h | ⟨h1, h2⟩)
          · exact Or.inl (Or.inl h)
          · by_cases g : d = m
            · exact Or.inr g
            · exact Or.inl (Or.inr ⟨by omega, h2⟩)
/-- what is found, for c, d below n -/
def LT (n : Nat) (refers : Nat → Int32) : Nat → Int32 := itr (bd_X0_findReach_36 n) n refers
theorem w_cong {n : Nat} (hn : n ≤ 6) {x y : Nat → Int32} (h : ∀ c, c < n → x c = y c) : ∀ k, k ≤ n → ∀ c, c < n → itr (bd_X0_findReach_36 n) k x c = itr (bd_X0_findReach_36 n) k y c
  | 0, _, c, hc => h c hc
  | k + 1, hk, c, hc => by
    have ih := w_cong hn h k (by omega)
    show itr (bd_X0_findReach_49 k) n (itr (bd_X0_findReach_36 n) k x) c = itr (bd_X0_findReach_49 k) n (itr (bd_X0_findReach_36 n) k y) c
    exact b_ext (fun i _ => by rw [w_bit hn (by omega) hc, w_bit hn (by omega) hc, ih c hc, ih k (by omega)])
theorem reach6 {n : Nat} (hn : n ≤ 6) {R0 refers : Nat → Int32} {c : Nat} (hc : c < n) : f_X0_findReach R0 refers n c = LT n refers c := w_cong hn (fun a ha => (copies_at (f := refers) (fun _ _ => rfl) n a).trans (if_pos ha)) n (Nat.le_refl n) c hc
def LG (n : Nat) (refers : Nat → Int32) (c : Nat) : Int32 := itr (bd_X0_findRings_19 (LT n refers) c) n ((1 : Int32) <<< (nI c &&& 31))
theorem rings_cong {n : Nat} {x y : Nat → Int32} (h : ∀ c, c < n → x c = y c) {c : Nat} (hc : c < n) {v : Int32} (m : Nat) (hm : m ≤ n) : itr (bd_X0_findRings_19 x c) m v = itr (bd_X0_findRings_19 y c) m v := by
  induction m with
  | zero => exact Eq.refl v
  | succ m ih =>
    rw [itr_succ, itr_succ, ih (by omega)]
    generalize itr (bd_X0_findRings_19 y c) m v = w
    have e1 := h c hc
    have e2 := h m (by omega)
    unfold bd_X0_findRings_19
    generalize x c = a at e1 ⊢
    generalize x m = b at e2 ⊢
    subst e1
    subst e2
    rfl
theorem rings6 {n : Nat} (hn : n ≤ 6) {T G0 refers : Nat → Int32} (hT : ∀ c, c < n → T c = LT n refers c) {c : Nat} (hc : c < n) : f_X0_findRings T G0 n c = LG n refers c := by
  have h := (copies_at (f := fun k => itr (bd_X0_findRings_19 T k) n ((1 : Int32) <<< (nI k &&& 31))) (b := bd_X0_findRings_2 T n) (g := G0) (fun _ _ => rfl) n c).trans (if_pos hc)
  exact h.trans (rings_cong hT hc n (Nat.le_refl n))
def tB (n : Nat) (refers : Nat → Int32) (c d : Nat) : Bool := bt (LT n refers c) d
def rB (refers : Nat → Int32) (c d : Nat) : Bool := bt (refers c) d
theorem tB_tr {n : Nat} (hn : n ≤ 6) (refers : Nat → Int32) : ∀ c j i, c < n → j < n → tB n refers c j = true → tB n refers j i = true → tB n refers c i = true := fun c j i hc hj h1 h2 => w_tr hn refers c hc j hj h1 i h2
theorem tB_r {n : Nat} (hn : n ≤ 6) (refers : Nat → Int32) : ∀ c d, c < n → rB refers c d = true → tB n refers c d = true := fun c d hc h => w_gr hn refers c hc d h
theorem LG_bit {n : Nat} (hn : n ≤ 6) (refers : Nat → Int32) {c d : Nat} (hc : c < n) (hd : d < n) : bt (LG n refers c) d = gB (tB n refers) c d := by
  refine bool_ext ?_
  unfold LG gB tB
  rw [ring_or (by omega) (by omega) n hn, b_one (by omega) (by omega), Bool.or_eq_true, Bool.and_eq_true]
  exact ⟨fun q => by rcases q with q | q; exact Or.inl q; exact Or.inr q.2, fun q => by rcases q with q | q; exact Or.inl q; exact Or.inr ⟨hd, q⟩⟩
theorem LG_big {n : Nat} (hn : n ≤ 6) (refers : Nat → Int32) {c d : Nat} (hc : c < n) (hd : n ≤ d) : bt (LG n refers c) d = false := by
  by_cases h : d < 32
  · cases hb : bt (LG n refers c) d
    · rfl
    · unfold LG at hb
      rw [ring_or (by omega) h n hn, b_one (by omega) h, decide_eq_true_eq] at hb
      omega
  · exact b_big (by omega)
def oB (n : Nat) (refers : Nat → Int32) (c d : Nat) : Bool := bt (f_X0_outside refers (LG n refers c) n) d
theorem oB_iff {n : Nat} (hn : n ≤ 6) (refers : Nat → Int32) {c d : Nat} (hc : c < n) (hd : d < n) : oB n refers c d = true ↔ oP (rB refers) (tB n refers) n c d := by
  unfold oB oP rB
  rw [out_bit hn (by omega), LG_bit hn refers hc hd]
  constructor
  · rintro ⟨⟨e, h1, h2, h3⟩, h4⟩
    exact ⟨e, h1, by rw [← LG_bit hn refers hc h1]; exact h2, h3, h4⟩
  · rintro ⟨e, h1, h2, h3, h4⟩
    exact ⟨⟨e, h1, by rw [LG_bit hn refers hc h1]; exact h2, h3⟩, h4⟩
def muB (n : Nat) (refers : Nat → Int32) (c : Nat) : Nat := muT (tB n refers) n c
theorem oB_mu {n : Nat} (hn : n ≤ 6) (refers : Nat → Int32) : ∀ c d, c < n → d < n → oB n refers c d = true → muB n refers d < muB n refers c := fun c d hc hd h => o_mu (tB_r hn refers) (tB_tr hn refers) hc hd ((oB_iff hn refers hc hd).mp h)
/-- the rung of a contract's ring -/
def RH (n : Nat) (refers : Nat → Int32) (c : Nat) : Nat := rho (oB n refers) n c
theorem RH_eq {n : Nat} (hn : n ≤ 6) (refers : Nat → Int32) {c : Nat} (hc : c < n) : RH n refers c = supF (oB n refers c) (RH n refers) n := rho_eq (oB_mu hn refers) (fun c _ => mu_le _ n c) hc
theorem RH_lt {n : Nat} (hn : n ≤ 6) (refers : Nat → Int32) {c : Nat} (hc : c < n) : RH n refers c < n := Nat.lt_of_lt_of_le (rho_lt (oB_mu hn refers) (fun c _ => mu_le _ n c) (fun c hc => mu_pos hc) _ c hc (Nat.le_refl _)) (mu_le _ n c)
theorem rungs_in {n k : Nat} (hn : n ≤ 6) {refers G z : Nat → Int32} (hG : ∀ c, c < n → G c = LG n refers c) (h : ∀ c, c < n → muB n refers c ≤ k → z c = nI (RH n refers c)) : ∀ c, c < n → muB n refers c ≤ k + 1 → itr (bd_X0_findRungs_41 G refers n) n z c = nI (RH n refers c) := by
  have key := itr_inv (b := bd_X0_findRungs_41 G refers n) (P := fun j y => (∀ c, c < n → muB n refers c ≤ k → y c = nI (RH n refers c)) ∧ (∀ c, c < j → c < n → muB n refers c ≤ k + 1 → y c = nI (RH n refers c))) (z := z) ⟨h, fun c hc => absurd hc (Nat.not_lt_zero c)⟩ (n := n) (fun j y hj ih => by
    obtain ⟨i1, i2⟩ := ih
    have new : muB n refers j ≤ k + 1 → f_X0_rungAbove y (f_X0_outside refers (G j) n) n = nI (RH n refers j) := by
      intro hm
      unfold f_X0_rungAbove
      rw [hG j hj, (rungAbove_eq (f := RH n refers) n hn (fun d hd hb => ?_)).1, RH_eq hn refers hj]
      · rfl
      · have hmu := oB_mu hn refers j d hj hd hb
        have hlt := RH_lt hn refers hd
        exact ⟨i1 d hd (by omega), by omega⟩
    unfold bd_X0_findRungs_41
    refine ⟨fun c hc hm => ?_, fun c hcj hc hm => ?_⟩
    · by_cases e : c = j
      · subst e; rw [pk_us]; exact new (by omega)
      · rw [pk_un e]; exact i1 c hc hm
    · by_cases e : c = j
      · subst e; rw [pk_us]; exact new hm
      · rw [pk_un e]; exact i2 c (by omega) hc hm)
  exact fun c hc hm => key.2 c hc hc hm
theorem rungs6 {n : Nat} (hn : n ≤ 6) {refers G U0 : Nat → Int32} (hG : ∀ c, c < n → G c = LG n refers c) {c : Nat} (hc : c < n) : f_X0_findRungs G U0 refers n c = nI (RH n refers c) := by
  have key := itr_inv (b := bd_X0_findRungs_28 G refers n) (P := fun k y => ∀ c, c < n → muB n refers c ≤ k → y c = nI (RH n refers c)) (z := itr bd_X0_findRungs_2 n U0) (fun c hc hm => absurd (mu_pos (t := tB n refers) hc) (by unfold muB at hm; omega)) (n := n) (fun k y _ ih => rungs_in hn hG ih)
  exact key c hc (mu_le _ n c)
