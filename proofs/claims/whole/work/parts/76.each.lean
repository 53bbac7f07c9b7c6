/-! a plan gone through: alike -/
theorem td_ref0 {n lo : Nat} {kind limit ret quo refers : Nat → Int32} {q1 q2 q3 : Nat} {a1 b1 a2 b2 a3 b3 s : Nat → Int32} (h : TD n lo kind limit ret quo refers q1 q2 q3 a1 b1 a2 b2 a3 b3 s) {i : Nat} (hi : i < n) : TD n lo kind limit ret quo (upd refers i 0) q1 q2 q3 a1 b1 a2 b2 a3 b3 (upd s (29 + i) 0) := by
  obtain ⟨⟨hn, h1⟩, h2, h3, h4, h5, h6⟩ := h
  refine ⟨⟨hn, fun c hc => ?_⟩, fun c hc => ?_, (pk_un (by omega)).trans h3, (pk_un (by omega)).trans h4, h5, RW3_keep (Nat.le_refl n) (fun j hj hj2 => pk_un (by omega)) h6⟩
  · obtain ⟨g1, g2, g3, g4, g5, g6⟩ := h1 c hc
    refine ⟨g1, g2, g3, g4, ?_⟩
    by_cases e : c = i
    · subst e
      rw [pk_us]
      exact ⟨b_0 c, fun i _ => b_0 i⟩
    · rw [pk_un e]
      exact ⟨g5, g6⟩
  · obtain ⟨g1, g2, g3, g4, g5⟩ := h2 c hc
    refine ⟨(pk_un (by omega)).trans g1, (pk_un (by omega)).trans g2, (pk_un (by omega)).trans g3, (pk_un (by omega)).trans g4, ?_⟩
    by_cases e : c = i
    · subst e
      rw [pk_us, pk_us]
    · rw [pk_un e, pk_un (by omega)]
      exact g5
/-- a value in its bounds -/
theorem in_ok {x B A : Nat} {a b : Int64} (hB : B < 1000) (ha : a.toInt = A) (hb : b.toInt = B) (h : x ≤ B) (h0 : A ≤ x) : ¬ f_X7_in (nI x).toInt64 a b = 0 := by
  rw [in7_0, Int32.toInt_toInt64, ha, hb, nI_toInt (by omega)]
  omega
theorem chg_lim {n lo : Nat} {kind limit ret quo refers : Nat → Int32} {q1 q2 q3 : Nat} {a1 b1 a2 b2 a3 b3 s : Nat → Int32} (h : TD n lo kind limit ret quo refers q1 q2 q3 a1 b1 a2 b2 a3 b3 s) {i : Nat} (hi : i < n) : TD n lo (f_X3_change kind limit ret quo (nI i) 1 0 n).2.1 (f_X3_change kind limit ret quo (nI i) 1 0 n).2.2.1 (f_X3_change kind limit ret quo (nI i) 1 0 n).2.2.2.1 (f_X3_change kind limit ret quo (nI i) 1 0 n).2.2.2.2 refers q1 q2 q3 a1 b1 a2 b2 a3 b3 (upd s (11 + i) 0) := by
  have hn := h.1.1
  have e := (e_renew h (nI i) 1 0).2
  have g : (f_X7_renew s (nI i) 1 0 n).2 = upd s (11 + i) 0 := by
    unfold f_X7_renew
    rw [if_neg ((isO_iff (show n < 2 ^ 31 by omega)).mpr ⟨i, hi, rfl⟩), if_neg (show ¬ f_X7_in (1 : Int32).toInt64 0 3 = 0 by decide), if_neg (show ¬ f_X7_may 1 0 = 0 by decide), if_neg (show ¬ (1 : Int32) = 0 by decide), if_pos rfl, nI_clamp (show i < 2 ^ 31 by omega)]
  rw [g] at e
  unfold f_X6_renew at e
  exact e
theorem chg_ret {n lo : Nat} {kind limit ret quo refers : Nat → Int32} {q1 q2 q3 : Nat} {a1 b1 a2 b2 a3 b3 s : Nat → Int32} (h : TD n lo kind limit ret quo refers q1 q2 q3 a1 b1 a2 b2 a3 b3 s) {i : Nat} (hi : i < n) {x : Nat} (hx : x ≤ 20) : TD n lo (f_X3_change kind limit ret quo (nI i) 2 (nI x) n).2.1 (f_X3_change kind limit ret quo (nI i) 2 (nI x) n).2.2.1 (f_X3_change kind limit ret quo (nI i) 2 (nI x) n).2.2.2.1 (f_X3_change kind limit ret quo (nI i) 2 (nI x) n).2.2.2.2 refers q1 q2 q3 a1 b1 a2 b2 a3 b3 (upd s (17 + i) (nI x)) := by
  have hn := h.1.1
  have e := (e_renew h (nI i) 2 (nI x)).2
  have g : (f_X7_renew s (nI i) 2 (nI x) n).2 = upd s (17 + i) (nI x) := by
    have m : f_X7_may 2 (nI x) = f_X7_in (nI x).toInt64 0 20 := by
      unfold f_X7_may
      rw [if_neg (show ¬ (2 : Int32) = 0 by decide), if_neg (show ¬ (2 : Int32) = 1 by decide), if_pos rfl]
    unfold f_X7_renew
    rw [m, if_neg ((isO_iff (show n < 2 ^ 31 by omega)).mpr ⟨i, hi, rfl⟩), if_neg (show ¬ f_X7_in (2 : Int32).toInt64 0 3 = 0 by decide), if_neg (in_ok (A := 0) (B := 20) (by omega) (by decide) (by decide) hx (by omega)), if_neg (show ¬ (2 : Int32) = 0 by decide), if_neg (show ¬ (2 : Int32) = 1 by decide), if_pos rfl, nI_clamp (show i < 2 ^ 31 by omega)]
  rw [g] at e
  unfold f_X6_renew at e
  exact e
theorem e_goes {n lo : Nat} {kind limit ret quo refers : Nat → Int32} {q1 q2 q3 : Nat} {a1 b1 a2 b2 a3 b3 s : Nat → Int32} (h : TD n lo kind limit ret quo refers q1 q2 q3 a1 b1 a2 b2 a3 b3 s) {w v : Int32} (hp : PV n w v) : ∃ l2, (f_X3_undergo kind limit ret quo refers (nI lo) w v n).2.2.2.2.2 = nI l2 ∧ TD n l2 (f_X3_undergo kind limit ret quo refers (nI lo) w v n).1 (f_X3_undergo kind limit ret quo refers (nI lo) w v n).2.1 (f_X3_undergo kind limit ret quo refers (nI lo) w v n).2.2.1 (f_X3_undergo kind limit ret quo refers (nI lo) w v n).2.2.2.1 (f_X3_undergo kind limit ret quo refers (nI lo) w v n).2.2.2.2.1 q1 q2 q3 a1 b1 a2 b2 a3 b3 (f_X7_goes s w v n v.toNatClampNeg) := by
  have hn := h.1.1
  rcases hp with ⟨rfl, x, hx, rfl⟩ | ⟨rfl, c, hc, rfl⟩ | ⟨rfl, c, hc, rfl⟩ | ⟨rfl, x, hx, rfl⟩
  · obtain ⟨-, l2, e1, e2⟩ := e_loss h (nI x)
    have g : (f_X7_loss s (nI x)).2 = upd s 1 (nI x) := by
      unfold f_X7_loss
      rw [if_neg (in_ok (A := 0) (B := 300) (by omega) (by decide) (by decide) hx (by omega))]
    rw [g] at e2
    unfold f_X6_loss at e1
    unfold f_X3_undergo f_X7_goes
    rw [if_pos rfl, if_pos rfl]
    exact ⟨l2, e1, e2⟩
  · have e := chg_lim h hc
    unfold f_X3_undergo f_X7_goes
    rw [if_neg (show ¬ (1 : Int32) = 0 by decide), if_pos rfl, if_neg (show ¬ (1 : Int32) = 0 by decide), if_neg (show ¬ (3 : Int32) ≤ 1 by decide), if_pos rfl, nI_clamp (show c < 2 ^ 31 by omega)]
    exact ⟨lo, rfl, e⟩
  · have e := td_ref0 h hc
    unfold f_X3_undergo f_X7_goes
    rw [if_neg (show ¬ (2 : Int32) = 0 by decide), if_neg (show ¬ (2 : Int32) = 1 by decide), if_pos rfl, if_neg (show ¬ (2 : Int32) = 0 by decide), if_neg (show ¬ (3 : Int32) ≤ 2 by decide), if_neg (show ¬ (2 : Int32) = 1 by decide), nI_clamp (show c < 2 ^ 31 by omega), if_neg ((isC_iff (show n < 2 ^ 31 by omega)).mpr ⟨c, hc, rfl⟩)]
    exact ⟨lo, rfl, e⟩
  · unfold f_X3_undergo f_X7_goes
    rw [if_neg (show ¬ (3 : Int32) = 0 by decide), if_neg (show ¬ (3 : Int32) = 1 by decide), if_neg (show ¬ (3 : Int32) = 2 by decide), if_pos rfl, if_neg (show ¬ (3 : Int32) = 0 by decide), if_pos (show (3 : Int32) ≤ 3 by decide)]
    refine ⟨lo, rfl, ?_⟩
    dsimp only
    refine itr2_inv (b := bd_X3_undergo_59 (nI x) n) (c := bd_X7_goes_44 (nI x)) (x := (kind, limit, ret, quo)) (y := s) (P := fun _ z t => TD n lo z.1 z.2.1 z.2.2.1 z.2.2.2 refers q1 q2 q3 a1 b1 a2 b2 a3 b3 t) h (n := n) (fun k z t hk hz => ?_)
    unfold bd_X3_undergo_59 bd_X7_goes_44
    exact chg_ret hz hk hx
theorem e_ends {n lo : Nat} {kind limit ret quo refers : Nat → Int32} {q1 q2 q3 : Nat} {a1 b1 a2 b2 a3 b3 s : Nat → Int32} (h : TD n lo kind limit ret quo refers q1 q2 q3 a1 b1 a2 b2 a3 b3 s) (tk tl tr tq tf r g u o M P F B R L RP aside a b d e P7 LO RQ mo : Nat → Int32) (x7 : Int32) (what : Int32) (r7 : Nat) : (f_X6_ends kind limit ret quo refers (nI lo) a2 b2 tk tl tr tq tf r g u o M P F B R L RP what n q2).1 = (f_X7_ends s aside a b d e P7 LO RQ x7 mo what n r7 q2).1 ∧ TD n lo kind limit ret quo refers q1 q2 q3 a1 b1 a2 b2 a3 b3 (f_X7_ends s aside a b d e P7 LO RQ x7 mo what n r7 q2).2.1 := by
  have hn := h.1.1
  obtain ⟨-, -, -, -, -, w5, -, -, w8, -⟩ := h.2.2.2.2
  have hsa : ∀ j, j < 85 → f_X7_copiessa s aside j = s j := fun j hj => by
    unfold f_X7_copiessa
    rw [copies_at (b := bd_X7_copiessa_2 s) (f := s) (fun k z => rfl) 85 j, if_pos hj]
  have hst : ∀ (X : Nat → Int32), TD n lo kind limit ret quo refers q1 q2 q3 a1 b1 a2 b2 a3 b3 (f_X7_copiesas X (f_X7_copiessa s aside)) := fun X => by
    refine TD_like h (fun c _ => rfl) (fun c _ => rfl) (fun c _ => rfl) (fun c _ => rfl) (fun c _ => rfl) (fun c _ => rfl) (fun c _ => rfl) (fun c _ => rfl) (fun c _ => rfl) (fun c _ => rfl) (fun c _ => rfl) (fun j hj => ?_)
    unfold f_X7_copiesas
    rw [copies_at (b := bd_X7_copiesas_2 (f_X7_copiessa s aside)) (f := f_X7_copiessa s aside) (fun k z => rfl) 85 j, if_pos hj, hsa j hj]
  have h0 : TD n lo (f_X3_copyFrom tk tl tr tq tf kind limit ret quo refers (nI lo) n).1 (f_X3_copyFrom tk tl tr tq tf kind limit ret quo refers (nI lo) n).2.1 (f_X3_copyFrom tk tl tr tq tf kind limit ret quo refers (nI lo) n).2.2.1 (f_X3_copyFrom tk tl tr tq tf kind limit ret quo refers (nI lo) n).2.2.2.1 (f_X3_copyFrom tk tl tr tq tf kind limit ret quo refers (nI lo) n).2.2.2.2.1 q1 q2 q3 a1 b1 a2 b2 a3 b3 s := TD_like h (fun c hc => cpy_at hc) (fun c hc => cpy_at hc) (fun c hc => cpy_at hc) (fun c hc => cpy_at hc) (fun c hc => cpy_at hc) (fun c _ => rfl) (fun c _ => rfl) (fun c _ => rfl) (fun c _ => rfl) (fun c _ => rfl) (fun c _ => rfl) (fun j _ => rfl)
  have hcn : (f_X3_copyFrom tk tl tr tq tf kind limit ret quo refers (nI lo) n).2.2.2.2.2.1 = n := rfl
  have hcl : (f_X3_copyFrom tk tl tr tq tf kind limit ret quo refers (nI lo) n).2.2.2.2.2.2 = nI lo := rfl
  unfold f_X6_ends f_X7_ends
  generalize f_X3_copyFrom tk tl tr tq tf kind limit ret quo refers (nI lo) n = cf at h0 hcn hcl ⊢
  have key := itr2_inv (b := bd_X6_ends_16 a2 b2 cf) (c := bd_X7_ends_27 n (f_X7_copiessa s aside)) (x := (cf.1, cf.2.1, cf.2.2.1, cf.2.2.2.1, cf.2.2.2.2.1, cf.2.2.2.2.2.2)) (y := s) (P := fun _ z t => ∃ l2, z.2.2.2.2.2 = nI l2 ∧ TD n l2 z.1 z.2.1 z.2.2.1 z.2.2.2.1 z.2.2.2.2.1 q1 q2 q3 a1 b1 a2 b2 a3 b3 t) ⟨lo, hcl, h0⟩ (n := q2) (fun k z t hk hz => by
    obtain ⟨l2, z1, z2⟩ := hz
    obtain ⟨g1, g2, g3⟩ := w8 k hk
    unfold bd_X6_ends_16 bd_X7_ends_27
    rw [hsa _ (by omega), hsa _ (by omega), g1, g2, hcn, z1]
    exact e_goes z2 g3)
  generalize itr (bd_X6_ends_16 a2 b2 cf) q2 (cf.1, cf.2.1, cf.2.2.1, cf.2.2.2.1, cf.2.2.2.2.1, cf.2.2.2.2.2.2) = Z at key ⊢
  generalize itr (bd_X7_ends_27 n (f_X7_copiessa s aside)) q2 s = T at key ⊢
  obtain ⟨l2, z1, z2⟩ := key
  have hS := settle_pay z2 r g u o M P F B R L RP a b d e P7 LO RQ mo
  have hT1 := z2.2.2.2.1
  rw [z1]
  try rw [hcn]
  generalize f_X0_settle r g u o M P F B R L RP Z.1 Z.2.1 Z.2.2.1 Z.2.2.2.1 Z.2.2.2.2.1 (nI l2) n = z at hS ⊢
  generalize f_X7_pay T a b d e P7 LO RQ mo n = w at hS ⊢
  obtain ⟨⟨b1, -⟩, ⟨m1, -⟩, LL, pd, lf, rp, p1, p2, p3, p4, -, -, -, -⟩ := hS
  have hz : z.2.2.2.2.2.2.2.2.2.2.2.1 = w.2.2.2.2.1 := b1.trans m1.symm
  have t3 : z.2.2.2.2.2.2.2.2.2.2.2.2.2 = T 1 - w.2.2.2.2.2.2.2.2.1 := by
    rw [sN hT1 p3 (by omega), p2]
    congr 1
    omega
  by_cases e0 : what = 0
  · subst e0
    rw [if_pos rfl, if_neg (show ¬ f_X7_in (0 : Int32).toInt64 0 2 = 0 by decide), if_pos rfl]
    exact ⟨p1.trans p3.symm, hst _⟩
  by_cases e1 : what = 1
  · subst e1
    rw [if_neg e0, if_pos rfl, if_neg (show ¬ f_X7_in (1 : Int32).toInt64 0 2 = 0 by decide), if_neg e0, if_pos rfl]
    exact ⟨t3, hst _⟩
  by_cases e2 : what = 2
  · subst e2
    rw [if_neg e0, if_neg e1, if_pos rfl, if_neg (show ¬ f_X7_in (2 : Int32).toInt64 0 2 = 0 by decide), if_neg e0, if_neg e1]
    exact ⟨congrArg nI hz, hst _⟩
  rw [if_neg e0, if_neg e1, if_neg e2]
  by_cases c5 : f_X7_in what.toInt64 0 2 = 0
  · rw [if_pos c5]
    exact ⟨rfl, h⟩
  · exfalso
    obtain ⟨y, hy, ey⟩ := in_nat (v := what) (a := 0) (b := 2) (B := 2) (by omega) (by decide) (by decide) c5
    have : y = 0 ∨ y = 1 ∨ y = 2 := by omega
    rcases this with t | t | t <;> subst t
    · exact absurd ey e0
    · exact absurd ey e1
    · exact absurd ey e2
