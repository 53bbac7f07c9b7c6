/-! what is handed out by ones, in turn, round and round: told by a level -/
def lvl (cap : Nat → Nat) (q j c : Nat) : Nat := if cap c ≤ q + (if c < j then 1 else 0) then cap c else q + (if c < j then 1 else 0)
def smB (p : Nat → Bool) (h : Nat → Nat) (n : Nat) : Nat := fb_sm (fun c => if p c = true then h c else 0) n
def RES (n : Nat) (p : Nat → Bool) (cap : Nat → Nat) (A : Nat) (h : Nat → Nat) (R : Nat) : Prop := (∃ q j, ∀ c, c < n → p c = true → h c = lvl cap q j c) ∧ smB p h n + R = A ∧ (R = 0 ∨ ∀ c, c < n → p c = true → h c = cap c)
theorem sm_le {p : Nat → Bool} {f g : Nat → Nat} : ∀ {n : Nat}, (∀ c, c < n → p c = true → f c ≤ g c) → smB p f n ≤ smB p g n := fun h => fb_sm_le (fun k hk => by
  by_cases e : p k = true
  · rw [if_pos e, if_pos e]; exact h k hk e
  · rw [if_neg e, if_neg e]; exact Nat.le_refl _)
theorem smB_succ (p : Nat → Bool) (h : Nat → Nat) (n : Nat) : smB p h (n + 1) = smB p h n + (if p n = true then h n else 0) := rfl
theorem sm_eq {p : Nat → Bool} {f g : Nat → Nat} : ∀ {n : Nat}, (∀ c, c < n → p c = true → f c ≤ g c) → smB p g n ≤ smB p f n → ∀ c, c < n → p c = true → f c = g c
  | 0, _, _, c, hc, _ => absurd hc (Nat.not_lt_zero c)
  | n + 1, h, e, c, hc, hp => by
    rw [smB_succ, smB_succ] at e
    have h1 := sm_le (p := p) (f := f) (g := g) (n := n) (fun c hc => h c (by omega))
    have h2 : (if p n = true then f n else 0) ≤ (if p n = true then g n else 0) := by
      by_cases q : p n = true
      · rw [if_pos q, if_pos q]; exact h n (by omega) q
      · rw [if_neg q, if_neg q]; exact Nat.le_refl _
    by_cases w : c = n
    · subst w
      rw [if_pos hp, if_pos hp] at e h2
      omega
    · exact sm_eq (n := n) (fun c hc => h c (by omega)) (by omega) c (by omega) hp
theorem sm_cong {p : Nat → Bool} {f g : Nat → Nat} {n : Nat} (h : ∀ c, c < n → p c = true → f c = g c) : smB p f n = smB p g n := Nat.le_antisymm (sm_le (fun c hc hp => Nat.le_of_eq (h c hc hp))) (sm_le (fun c hc hp => Nat.le_of_eq (h c hc hp).symm))
theorem lvl_mono {cap : Nat → Nat} {q j q' j' c : Nat} (h : q < q' ∨ (q = q' ∧ j ≤ j')) : lvl cap q j c ≤ lvl cap q' j' c := by
  unfold lvl
  by_cases a : c < j <;> by_cases b : c < j' <;> simp only [a, b, if_true, if_false] <;> split <;> split <;> omega
theorem lvl_le {cap : Nat → Nat} {q j c : Nat} : lvl cap q j c ≤ cap c := by
  unfold lvl
  by_cases a : c < j <;> simp only [a, if_true, if_false] <;> split <;> omega
theorem res_one {n : Nat} {p : Nat → Bool} {cap : Nat → Nat} {A : Nat} {h h' : Nat → Nat} {R R' : Nat} (a : RES n p cap A h R) (b : RES n p cap A h' R') : (∀ c, c < n → p c = true → h c = h' c) ∧ R = R' := by
  have key : ∀ {h h' : Nat → Nat} {R R' : Nat}, RES n p cap A h R → RES n p cap A h' R' → (∀ c, c < n → p c = true → h c ≤ h' c) → (∀ c, c < n → p c = true → h c = h' c) ∧ R = R' := by
    intro h h' R R' a b hle
    obtain ⟨⟨q1, j1, l1⟩, s1, d1⟩ := a
    obtain ⟨⟨q2, j2, l2⟩, s2, d2⟩ := b
    have e : ∀ c, c < n → p c = true → h c = h' c := by
      rcases d1 with d | d
      · have := sm_le hle
        exact sm_eq hle (by omega)
      · intro c hc hp
        have h1 := hle c hc hp
        have h2 := l2 c hc hp
        have h3 := d c hc hp
        have h4 : lvl cap q2 j2 c ≤ cap c := lvl_le
        omega
    have := sm_cong e
    exact ⟨e, by omega⟩
  obtain ⟨q1, j1, l1⟩ := a.1
  obtain ⟨q2, j2, l2⟩ := b.1
  by_cases w : q1 < q2 ∨ (q1 = q2 ∧ j1 ≤ j2)
  · exact key a b (fun c hc hp => by rw [l1 c hc hp, l2 c hc hp]; exact lvl_mono w)
  · obtain ⟨k1, k2⟩ := key b a (fun c hc hp => by rw [l1 c hc hp, l2 c hc hp]; exact lvl_mono (by omega))
    exact ⟨fun c hc hp => (k1 c hc hp).symm, k2.symm⟩
theorem sm_upd {p : Nat → Bool} {h : Nat → Nat} {k v n : Nat} (hk : k < n) (hp : p k = true) : smB p (fun c => if c = k then v else h c) n + h k = smB p h n + v := by
  have e : fb_sm (fun c => if c = k then v else if p c = true then h c else 0) n + (if p k = true then h k else 0) = smB p h n + v := fb_sm_upd (fun c => if p c = true then h c else 0) v (i := k) (n := n) hk
  have e2 : fb_sm (fun c => if c = k then v else if p c = true then h c else 0) n = smB p (fun c => if c = k then v else h c) n := fb_sm_cong (fun c hc => by
    dsimp only
    by_cases q : c = k
    · subst q; rw [if_pos rfl, if_pos hp, if_pos rfl]
    · rw [if_neg q, if_neg q])
  have e3 : (if p k = true then h k else 0) = h k := if_pos hp
  rw [e2, e3] at e
  exact e
/-- a loop without a counter: what holds at its head holds where it ends -/
theorem wl_inv {σ : Type} {b : σ → σ ⊕ σ} {I J : σ → Prop} (hi : ∀ z y, I z → b z = .inl y → I y) (hj : ∀ z y, I z → b z = .inr y → J y) : ∀ (d : Nat) (z x : σ), I z → wl b d z = some x → J x
  | 0, _, _, _, h => by cases h
  | d + 1, z, x, hz, h => by
    cases hb : b z with
    | inl y => rw [wl_inl hb] at h; exact wl_inv hi hj d y x (hi z y hz hb) h
    | inr y => rw [wl_inr hb] at h; exact (Option.some.inj h) ▸ hj z y hz hb
/-- by ones: a pass (q) has come to k -/
def OP (n : Nat) (p : Nat → Bool) (cap : Nat → Nat) (A q k : Nat) (z : Int32 × Int32 × (Nat → Int32)) : Prop := ∃ h R, z.1 = nI R ∧ R < 1000 ∧ (∀ c, c < n → p c = true → z.2.2 c = nI (h c)) ∧ smB p h n + R = A ∧ (∃ q' j', ∀ c, c < n → p c = true → h c = lvl cap q' j' c) ∧ (R ≠ 0 → ∀ c, c < n → p c = true → h c = lvl cap q k c) ∧ (z.2.1 = 0 → R = 0 ∨ ∀ c, c < k → c < n → p c = true → h c = cap c)
theorem lvl_s {cap : Nat → Nat} {q k c : Nat} (h : c ≠ k) : lvl cap q (k + 1) c = lvl cap q k c := by
  unfold lvl
  by_cases a : c < k
  · simp only [a, show c < k + 1 by omega, if_true]
  · simp only [a, show ¬ c < k + 1 by omega, if_false]
theorem lvl_k {cap : Nat → Nat} {q k : Nat} : lvl cap q k k = if cap k ≤ q then cap k else q := by
  unfold lvl
  simp only [Nat.lt_irrefl, if_false, Nat.add_zero]
theorem lvl_k1 {cap : Nat → Nat} {q k : Nat} : lvl cap q (k + 1) k = if cap k ≤ q + 1 then cap k else q + 1 := by
  unfold lvl
  simp only [Nat.lt_succ_self, if_true]
theorem lvl_n {cap : Nat → Nat} {q n c : Nat} (h : c < n) : lvl cap q n c = lvl cap (q + 1) 0 c := by
  unfold lvl
  simp only [h, Nat.not_lt_zero, if_true, if_false, Nat.add_zero]
/-- one turn of a pass -/
theorem OP_step {n : Nat} {p : Nat → Bool} {cap : Nat → Nat} {A q k : Nat} (hcap : ∀ c, c < n → p c = true → cap c < 1000) (hk : k < n) {C0 C1 : Prop} [Decidable C0] [Decidable C1] {z : Int32 × Int32 × (Nat → Int32)} {mo : Nat → Int32} (hmo : ∀ c, c < n → p c = true → mo c = nI (cap c)) (h : OP n p cap A q k z) (h0 : C0 ↔ p k = false) (h1 : C1 ↔ z.2.2 k = mo k) : OP n p cap A q (k + 1) (if z.1 = 0 then z else (if C0 then z else (if C1 then z else (z.1 + (-1), 1, upd z.2.2 k (z.2.2 k + 1))))) := by
  obtain ⟨h, R, e1, e2, e3, e4, e5, e6, e7⟩ := h
  by_cases c0 : z.1 = 0
  · rw [if_pos c0]
    have hR : R = 0 := by
      rw [e1] at c0
      exact (nI_eq (a := R) (b := 0) (by omega) (by decide)).mp c0
    exact ⟨h, R, e1, e2, e3, e4, e5, fun q => absurd hR q, fun _ => Or.inl hR⟩
  · rw [if_neg c0]
    have hR : R ≠ 0 := fun q => c0 (by rw [e1, q]; rfl)
    by_cases c1 : C0
    · rw [if_pos c1]
      have hp := h0.mp c1
      refine ⟨h, R, e1, e2, e3, e4, e5, fun r c hc hpc => ?_, fun r => ?_⟩
      · rw [lvl_s (fun w => by subst w; rw [hp] at hpc; cases hpc)]; exact e6 r c hc hpc
      · rcases e7 r with w | w
        · exact Or.inl w
        · exact Or.inr (fun c hck hc hpc => w c (by
            by_cases v : c = k
            · subst v; rw [hp] at hpc; cases hpc
            · omega) hc hpc)
    · rw [if_neg c1]
      have hp : p k = true := by cases w : p k <;> first | rfl | exact absurd (h0.mpr w) c1
      have hk6 := e6 hR k hk hp
      have hle := lvl_le (cap := cap) (q := q) (j := k) (c := k)
      have hck := hcap k hk hp
      by_cases c2 : C1
      · rw [if_pos c2]
        have hc2 := h1.mp c2
        rw [e3 k hk hp, hmo k hk hp] at hc2
        have hc3 : h k = cap k := (nI_eq (by omega) (by omega)).mp hc2
        refine ⟨h, R, e1, e2, e3, e4, e5, fun r c hc hpc => ?_, fun r => ?_⟩
        · by_cases v : c = k
          · subst v
            rw [lvl_k] at hk6
            rw [lvl_k1, hc3]
            split at hk6
            · rw [if_pos (by omega)]
            · omega
          · rw [lvl_s v]; exact e6 r c hc hpc
        · rcases e7 r with w | w
          · exact Or.inl w
          · refine Or.inr (fun c hck2 hc hpc => ?_)
            by_cases v : c = k
            · subst v; exact hc3
            · exact w c (by omega) hc hpc
      · rw [if_neg c2]
        have hc3 : h k ≠ cap k := fun w => c2 (h1.mpr (by rw [e3 k hk hp, hmo k hk hp, w]))
        rw [lvl_k] at hk6
        have hq : h k = q ∧ q < cap k := by split at hk6 <;> omega
        have fm : ∀ c, c < n → p c = true → (if c = k then h k + 1 else h c) = lvl cap q (k + 1) c := by
          intro c hc hpc
          by_cases v : c = k
          · subst v
            rw [if_pos rfl, lvl_k1]
            split <;> omega
          · rw [if_neg v, lvl_s v]; exact e6 hR c hc hpc
        have hs := sm_upd (h := h) (v := h k + 1) hk hp
        refine ⟨fun c => if c = k then h k + 1 else h c, R - 1, ?_, by omega, fun c hc hpc => ?_, by omega, ⟨q, k + 1, fm⟩, fun _ => fm, fun r : (1 : Int32) = 0 => absurd r (by decide)⟩
        · show z.1 + (-1) = _
          rw [e1, sb_m1 (by omega)]
        · show upd z.2.2 k (z.2.2 k + 1) c = nI (if c = k then h k + 1 else h c)
          by_cases v : c = k
          · subst v; rw [pk_us, if_pos rfl, e3 c hc hpc, nI_1]
          · rw [pk_un v, if_neg v]; exact e3 c hc hpc
/-- what holds at the head of the passes; and at their end -/
def OH (n : Nat) (p : Nat → Bool) (cap : Nat → Nat) (A : Nat) (z : Int32 × Int32 × (Nat → Int32)) : Prop := ∃ h R, z.1 = nI R ∧ R < 1000 ∧ (∀ c, c < n → p c = true → z.2.2 c = nI (h c)) ∧ smB p h n + R = A ∧ (∃ q' j', ∀ c, c < n → p c = true → h c = lvl cap q' j' c) ∧ (R ≠ 0 → ∃ q, ∀ c, c < n → p c = true → h c = lvl cap q 0 c) ∧ (z.2.1 = 0 → R = 0 ∨ ∀ c, c < n → p c = true → h c = cap c)
def OE (n : Nat) (p : Nat → Bool) (cap : Nat → Nat) (A : Nat) (rest : Int32) (had : Nat → Int32) : Prop := ∃ h R, rest = nI R ∧ R < 1000 ∧ (∀ c, c < n → p c = true → had c = nI (h c)) ∧ RES n p cap A h R
theorem OH_pass {n : Nat} {p : Nat → Bool} {cap : Nat → Nat} {A : Nat} {b : Nat → Int32 × Int32 × (Nat → Int32) → Int32 × Int32 × (Nat → Int32)} (hb : ∀ k q z, k < n → OP n p cap A q k z → OP n p cap A q (k + 1) (b k z)) {z : Int32 × Int32 × (Nat → Int32)} (h : OH n p cap A z) : OH n p cap A (itr b n (z.1, 0, z.2.2)) := by
  obtain ⟨h, R, e1, e2, e3, e4, e5, e6, -⟩ := h
  have start : ∃ q, OP n p cap A q 0 (z.1, 0, z.2.2) := by
    by_cases hR : R = 0
    · exact ⟨0, h, R, e1, e2, e3, e4, e5, fun w => absurd hR w, fun _ => Or.inl hR⟩
    · obtain ⟨q, w⟩ := e6 hR
      exact ⟨q, h, R, e1, e2, e3, e4, e5, fun _ => w, fun _ => Or.inr (fun c hc => absurd hc (Nat.not_lt_zero c))⟩
  obtain ⟨q, st⟩ := start
  obtain ⟨h', R', g1, g2, g3, g4, g5, g6, g7⟩ := itr_inv (b := b) (P := fun k y => OP n p cap A q k y) st (n := n) (fun k y hk ih => hb k q y hk ih)
  exact ⟨h', R', g1, g2, g3, g4, g5, fun w => ⟨q + 1, fun c hc hp => by rw [g6 w c hc hp]; exact lvl_n hc⟩, fun w => by
    rcases g7 w with v | v
    · exact Or.inl v
    · exact Or.inr (fun c hc hp => v c hc hc hp)⟩
theorem OH_end {n : Nat} {p : Nat → Bool} {cap : Nat → Nat} {A : Nat} {z : Int32 × Int32 × (Nat → Int32)} (h : OH n p cap A z) (h0 : z.2.1 = 0) : OE n p cap A z.1 z.2.2 := by
  obtain ⟨h, R, e1, e2, e3, e4, e5, e6, e7⟩ := h
  exact ⟨h, R, e1, e2, e3, e5, e4, e7 h0⟩
