/-! a ring pays: frames; alone or not; by ones -/
theorem fr_122 {C : Nat → Int32} {O v : Int32} {k c : Nat} (hk : k < 32) (hc : bt O c = false) (y : Int32 × Int32 × (Nat → Int32)) : (bd_X0_dealmp_122 C O v k y).2.2 c = y.2.2 c := by
  unfold bd_X0_dealmp_122
  by_cases e : f_X6_has O (nI k) = 0
  · rw [if_pos e]
  · rw [if_neg e]
    have hne : c ≠ k := fun q => by subst q; exact e ((has6_0 hk).mpr hc)
    refine iteP (P := fun x : Int32 × Int32 × (Nat → Int32) => x.2.2 c = y.2.2 c) (fun _ => pk_un hne) (fun _ => ?_)
    exact iteP (P := fun x : Int32 × Int32 × (Nat → Int32) => x.2.2 c = y.2.2 c) (fun _ => pk_un hne) (fun _ => pk_un hne)
theorem fr_122n {C : Nat → Int32} {O v : Int32} {n c : Nat} (hn : n ≤ 6) (hc : bt O c = false) (y : Int32 × Int32 × (Nat → Int32)) : (itr (bd_X0_dealmp_122 C O v) n y).2.2 c = y.2.2 c := itr_inv (b := bd_X0_dealmp_122 C O v) (P := fun _ x => x.2.2 c = y.2.2 c) rfl (n := n) (fun k x hk ih => (fr_122 (by omega) hc x).trans ih)
theorem fr_open {C H : Nat → Int32} {B : Int32} {n c : Nat} (hn : n ≤ 6) (hc : bt B c = false) : bt (f_X0_openOnesmp C H B n) c = false := by
  by_cases q : c < 32
  · cases w : bt (f_X0_openOnesmp C H B n) c
    · rfl
    · have := ((open_or q n hn).mp w).2.1
      rw [hc] at this; cases this
  · exact b_big (by omega)
theorem fr_42 {C : Nat → Int32} {B : Int32} {n t c : Nat} (hn : n ≤ 6) (hc : bt B c = false) (z : Int32 × (Nat → Int32)) : (mrg (bd_X0_dealmp_42 C B n t z)).2 c = z.2 c := by
  unfold bd_X0_dealmp_42
  refine iteP (P := fun x : (Int32 × (Nat → Int32)) ⊕ (Int32 × (Nat → Int32)) => (mrg x).2 c = z.2 c) (fun _ => rfl) (fun _ => ?_)
  refine iteP (P := fun x : (Int32 × (Nat → Int32)) ⊕ (Int32 × (Nat → Int32)) => (mrg x).2 c = z.2 c) (fun _ => rfl) (fun _ => ?_)
  exact iteP (P := fun x : (Int32 × (Nat → Int32)) ⊕ (Int32 × (Nat → Int32)) => (mrg x).2 c = z.2 c) (fun _ => fr_122n hn (fr_open hn hc) _) (fun _ => fr_122n hn (fr_open hn hc) _)
theorem fr_deal {C P : Nat → Int32} {B a : Int32} {n c : Nat} (hn : n ≤ 6) (hc : bt B c = false) : (f_X0_dealmp C P a B n).2 c = P c := by
  unfold f_X0_dealmp
  show (mrg (itE (bd_X0_dealmp_42 C B n) 6 (a, itr (bd_X0_dealmp_3 B) n P))).2 c = P c
  have h0 : itr (bd_X0_dealmp_3 B) n P c = P c := by rw [zero_in n (by omega), if_neg (fun q => by rw [hc] at q; cases q.2)]
  have key : ∀ t, (mrg (itE (bd_X0_dealmp_42 C B n) t (a, itr (bd_X0_dealmp_3 B) n P))).2 c = P c := by
    intro t
    induction t with
    | zero => exact h0
    | succ t ih =>
      cases hy : itE (bd_X0_dealmp_42 C B n) t (a, itr (bd_X0_dealmp_3 B) n P) with
      | inl y =>
        rw [hy] at ih
        rw [itE_go hy, fr_42 hn hc]
        exact ih
      | inr y =>
        rw [hy] at ih
        rw [itE_end' hy 1]
        exact ih
  exact key 6
/-- one alone -/
theorem al_tab : ∀ x, x < 64 → ∀ f, f < 6 → bt (nI x) f = true → (decide (nI x = ((1 : Int32) <<< (nI f &&& 31))) = decide (fb_ct (bt (nI x)) 6 = 1)) := by decide +kernel
theorem b7_tab : ∀ x, x < 64 → wl bd_X7_bits_4 7 (0, nI x) = some (nI (fb_ct (bt (nI x)) 6), 0) := by decide +kernel
theorem bits7 {x : Int32} {n : Nat} (hn : n ≤ 6) (h : ∀ i, n ≤ i → bt x i = false) : f_X7_bits x = nI (fb_ct (bt x) n) := by
  obtain ⟨k, hk, rfl⟩ := small_of (x := x) (fun i hi => h i (by omega))
  have e := ct_ext (p := bt (nI k)) h (6 - n)
  rw [show n + (6 - n) = 6 by omega] at e
  have w := wl_more (4294967296 - 7) (b7_tab k hk)
  rw [show 7 + (4294967296 - 7) = 4294967296 from rfl] at w
  unfold f_X7_bits
  rw [w, Option.getD_some, e]
theorem alone67 {n : Nat} (hn : n ≤ 6) {x : Int32} {f : Nat} (hf : f < n) (hb : bt x f = true) (h : ∀ i, n ≤ i → bt x i = false) : x = ((1 : Int32) <<< (nI f &&& 31)) ↔ f_X7_bits x = 1 := by
  have e := bits7 hn h
  have e2 := ct_ext (p := bt x) h (6 - n)
  rw [show n + (6 - n) = 6 by omega] at e2
  rw [e, ← e2]
  obtain ⟨k, hk, rfl⟩ := small_of (x := x) (fun i hi => h i (by omega))
  have t := al_tab k hk f (by omega) hb
  have hle := fb_ct_le (bt (nI k)) 6
  rw [decide_eq_decide] at t
  rw [t]
  constructor
  · intro q; rw [q]; rfl
  · intro q; exact (nI_eq (a := fb_ct (bt (nI k)) 6) (b := 1) (by omega) (by decide)).mp q
theorem alone_one {n : Nat} (hn : n ≤ 6) {x : Int32} {f : Nat} (hf : f < n) (e : x = ((1 : Int32) <<< (nI f &&& 31))) : ∀ d, d < n → (bt x d = true ↔ d = f) := by
  intro d hd
  rw [e, b_one (by omega) (by omega), decide_eq_true_eq]
/-- the first that pays, of those to which one refers -/
theorem srch_cong {α : Type} {b b' : Nat → Option α} : ∀ (d k : Nat), (∀ j, k ≤ j → j < k + d → b j = b' j) → srch b d k = srch b' d k
  | 0, _, _ => rfl
  | d + 1, k, h => by
    unfold srch
    rw [h k (Nat.le_refl k) (by omega), srch_cong d (k + 1) (fun j h1 h2 => h j (by omega) (by omega))]
theorem payer_eq {n : Nat} (hn : n ≤ 6) {s P6 P7 : Nat → Int32} {rf : Int32} {f : Nat} (hs : s (29 + f) = rf) (h : ∀ d, d < n → bt rf d = true → P6 d = P7 d) : srch (bd_X0_firstPayer_2 P6 rf) n 0 = srch (bd_X7_payer_2 s P7 f) n 0 := by
  refine srch_cong n 0 (fun d _ hd => ?_)
  unfold bd_X0_firstPayer_2 bd_X7_payer_2
  rw [hs, has76 (by omega)]
  by_cases e : f_X6_has rf (nI d) = 0
  · rw [if_pos e, if_pos e]
  · rw [if_neg e, if_neg e, h d (by omega) (bf.mp (fun q => e ((has6_0 (by omega)).mpr q)))]
theorem payer_val {n : Nat} (hn : n ≤ 6) {s P7 : Nat → Int32} {f : Nat} {x : Int32} (h : srch (bd_X7_payer_2 s P7 f) n 0 = some x) : ∃ d, d < n ∧ x = nI d ∧ bt (s (29 + f)) d = true ∧ ¬ P7 d ≤ 0 := by
  obtain ⟨j, -, h2, h3⟩ := srch_in _ _ h
  unfold bd_X7_payer_2 at h3
  by_cases e : f_X7_has (s (29 + f)) (nI j) = 0
  · rw [if_pos e] at h3; cases h3
  · rw [if_neg e] at h3
    by_cases g : P7 j ≤ 0
    · rw [if_pos g] at h3; cases h3
    · rw [if_neg g] at h3
      exact ⟨j, by omega, (Option.some.inj h3).symm, bf.mp (fun q => e ((has7_0 (by omega)).mpr q)), g⟩
theorem payer_no {n : Nat} (hn : n ≤ 6) {s P6 P7 : Nat → Int32} {rf : Int32} {f : Nat} (hs : s (29 + f) = rf) (h : ∀ d, d < n → bt rf d = true → P6 d = P7 d) : f_X0_firstPayer P6 rf n = -5 ↔ f_X7_payer s P7 n f = -1 := by
  unfold f_X0_firstPayer f_X7_payer
  rw [payer_eq hn hs h]
  cases q : srch (bd_X7_payer_2 s P7 f) n 0 with
  | none => exact ⟨fun _ => rfl, fun _ => rfl⟩
  | some x =>
    obtain ⟨d, hd, rfl, -, -⟩ := payer_val hn q
    rw [Option.getD_some, Option.getD_some]
    have hpos : ¬ nI d < 0 := nI_pos (by omega)
    exact ⟨fun w => absurd (by rw [w]; decide) hpos, fun w => absurd (by rw [w]; decide) hpos⟩
/-- by ones: the reference's ring of several -/
theorem ones7 {n : Nat} (hn : n ≤ 6) {p : Nat → Bool} {cap : Nat → Nat} {B : Int32} {Z : (Nat → Int32) × (Nat → Int32)} {A : Nat} (hA : A < 1000) (hB : ∀ c, c < n → bt B c = p c) (hC : ∀ c, c < n → p c = true → Z.1 c = nI (cap c) ∧ cap c < 1000) {on : Int32} {P : Nat → Int32} (hP : ∀ c, c < n → p c = true → P c = 0) (hon : on = 0 → A = 0) (hsome : (wl (bd_X7_payRing_117 n B Z) 4294967296 (nI A, on, P)).isSome = true) : OE n p cap A ((wl (bd_X7_payRing_117 n B Z) 4294967296 (nI A, on, P)).getD (nI A, on, P)).1 ((wl (bd_X7_payRing_117 n B Z) 4294967296 (nI A, on, P)).getD (nI A, on, P)).2.2 := by
  have hl : ∀ c, lvl cap 0 0 c = 0 := fun c => by unfold lvl; simp only [Nat.not_lt_zero, if_false]; split <;> omega
  have h0 : ∀ m, smB p (fun _ => 0) m = 0 := by
    intro m
    induction m with
    | zero => rfl
    | succ m ih => rw [smB_succ, ih]; split <;> rfl
  have st : OH n p cap A (nI A, on, P) := ⟨fun _ => 0, A, rfl, hA, fun c hc hp => hP c hc hp, by rw [h0 n]; omega, ⟨0, 0, fun c _ _ => (hl c).symm⟩, fun _ => ⟨0, fun c _ _ => (hl c).symm⟩, fun w => Or.inl (hon w)⟩
  refine wl_inv (b := bd_X7_payRing_117 n B Z) (I := OH n p cap A) (J := fun x => OE n p cap A x.1 x.2.2) (fun z y hz hb => ?_) (fun z y hz hb => ?_) _ _ _ st (wl_some hsome)
  · unfold bd_X7_payRing_117 at hb
    by_cases e : z.2.1 = 0
    · rw [if_pos e] at hb; cases hb
    · rw [if_neg e] at hb
      rw [← Sum.inl.inj hb]
      refine OH_pass (b := bd_X7_payRing_128 B Z) (fun k q x hk hx => ?_) hz
      exact OP_step (fun c hc hp => (hC c hc hp).2) hk (fun c hc hp => (hC c hc hp).1) hx ((has7_0 (by omega)).trans (by rw [hB k hk])) Iff.rfl
  · unfold bd_X7_payRing_117 at hb
    by_cases e : z.2.1 = 0
    · rw [if_pos e] at hb
      rw [← Sum.inr.inj hb]
      exact OH_end hz e
    · rw [if_neg e] at hb; cases hb
theorem fr_ones {n : Nat} (hn : n ≤ 6) {B : Int32} {Z : (Nat → Int32) × (Nat → Int32)} {c : Nat} (hc : bt B c = false) (z : Int32 × Int32 × (Nat → Int32)) (hs : (wl (bd_X7_payRing_117 n B Z) 4294967296 z).isSome = true) : ((wl (bd_X7_payRing_117 n B Z) 4294967296 z).getD z).2.2 c = z.2.2 c := by
  refine wl_inv (b := bd_X7_payRing_117 n B Z) (I := fun x => x.2.2 c = z.2.2 c) (J := fun x => x.2.2 c = z.2.2 c) (fun x y hx hb => ?_) (fun x y hx hb => ?_) _ _ _ rfl (wl_some hs)
  · unfold bd_X7_payRing_117 at hb
    by_cases e : x.2.1 = 0
    · rw [if_pos e] at hb; cases hb
    · rw [if_neg e] at hb
      rw [← Sum.inl.inj hb]
      show (itr (bd_X7_payRing_128 B Z) n (x.1, 0, x.2.2)).2.2 c = z.2.2 c
      refine itr_inv (b := bd_X7_payRing_128 B Z) (P := fun _ y => y.2.2 c = z.2.2 c) (z := (x.1, 0, x.2.2)) hx (n := n) (fun k y hk ih => ?_)
      unfold bd_X7_payRing_128
      refine iteP (P := fun x : Int32 × Int32 × (Nat → Int32) => x.2.2 c = z.2.2 c) (fun _ => ih) (fun _ => ?_)
      by_cases w : f_X7_has B (nI k) = 0
      · rw [if_pos w]; exact ih
      · rw [if_neg w]
        have hne : c ≠ k := fun q => by subst q; exact w ((has7_0 (by omega)).mpr hc)
        exact iteP (P := fun x : Int32 × Int32 × (Nat → Int32) => x.2.2 c = z.2.2 c) (fun _ => ih) (fun _ => (pk_un hne).trans ih)
  · unfold bd_X7_payRing_117 at hb
    by_cases e : x.2.1 = 0
    · rw [if_pos e] at hb
      rw [← Sum.inr.inj hb]
      exact hx
    · rw [if_neg e] at hb; cases hb
