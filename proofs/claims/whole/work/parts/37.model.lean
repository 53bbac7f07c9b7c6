def bd_X7_net_82 (k63 : Nat) (u26 : (Nat → Int32) × (Nat → Int32) × (Nat → Int32) × (Nat → Int32) × Nat × (Nat → Int32) × (Nat → Int32) × (Nat → Int32) × Int32 × (Nat → Int32)) (k82 : Nat) (z82 : Int32 × Int32 × (Nat → Int32)) : Int32 × Int32 × (Nat → Int32) :=
  if z82.1 = (0 : Int32) then z82 else (if (f_X7_has (u26.2.2.2.1 (u26.2.2.2.2.1 - 1 - k63)) (nI k82)) = (0 : Int32) then z82 else (if (z82.2.2 k82) = (u26.2.2.2.2.2.1 k82) then z82 else ((z82.1 + (-1 : Int32)), (1 : Int32), upd z82.2.2 k82 ((z82.2.2 k82) + (1 : Int32)))))
def bd_X7_net_71 (n : Nat) (k63 : Nat) (u26 : (Nat → Int32) × (Nat → Int32) × (Nat → Int32) × (Nat → Int32) × Nat × (Nat → Int32) × (Nat → Int32) × (Nat → Int32) × Int32 × (Nat → Int32)) (z71 : Int32 × Int32 × (Nat → Int32)) : (Int32 × Int32 × (Nat → Int32)) ⊕ (Int32 × Int32 × (Nat → Int32)) :=
  if z71.2.1 = (0 : Int32) then (.inr z71) else (.inl (itr (bd_X7_net_82 k63 u26) n (z71.1, (0 : Int32), z71.2.2)))
def bd_X7_net_63 (n : Nat) (u26 : (Nat → Int32) × (Nat → Int32) × (Nat → Int32) × (Nat → Int32) × Nat × (Nat → Int32) × (Nat → Int32) × (Nat → Int32) × Int32 × (Nat → Int32)) (k63 : Nat) (z63 : Int32 × (Nat → Int32)) : Int32 × (Nat → Int32) :=
  (((wl (bd_X7_net_71 n k63 u26) 4294967296 (z63.1, (1 : Int32), z63.2)).getD (z63.1, (1 : Int32), z63.2)).1, ((wl (bd_X7_net_71 n k63 u26) 4294967296 (z63.1, (1 : Int32), z63.2)).getD (z63.1, (1 : Int32), z63.2)).2.2)
def bd_X7_net_34 (k34 : Nat) (z34 : (Nat → Int32)) : (Nat → Int32) :=
  upd z34 k34 (0 : Int32)
def f_X7_net (om_s : Nat → Int32) (om_reaches : Nat → Int32) (om_ringOf : Nat → Int32) (om_rungOf : Nat → Int32) (om_rings : Nat → Int32) (om_paid : Nat → Int32) (om_leftOf : Nat → Int32) (om_ringPaid : Nat → Int32) (om_paidAll : Int32) (om_mosts : Nat → Int32) (om_backs : Nat → Int32) (c : Int32) (v : Int32) (n : Nat) (r : Nat) : Int32 × (Nat → Int32) × (Nat → Int32) × (Nat → Int32) × (Nat → Int32) × Nat × (Nat → Int32) × (Nat → Int32) × (Nat → Int32) × Int32 × (Nat → Int32) × (Nat → Int32) :=
  if (f_X7_isOne c n) = (0 : Int32) then ((-1 : Int32), (om_reaches, om_ringOf, om_rungOf, om_rings, r, om_paid, om_leftOf, om_ringPaid, om_paidAll, om_mosts, om_backs)) else (if (f_X7_in ((v).toInt64) (0 : Int64) (999 : Int64)) = (0 : Int32) then ((-2 : Int32), (om_reaches, om_ringOf, om_rungOf, om_rings, r, om_paid, om_leftOf, om_ringPaid, om_paidAll, om_mosts, om_backs)) else ((((f_X7_pay om_s om_reaches om_ringOf om_rungOf om_rings om_paid om_leftOf om_ringPaid om_mosts n).2.2.2.2.2.1 c.toNatClampNeg) - ((itr (bd_X7_net_63 n (f_X7_pay om_s om_reaches om_ringOf om_rungOf om_rings om_paid om_leftOf om_ringPaid om_mosts n)) ((f_X7_pay om_s om_reaches om_ringOf om_rungOf om_rings om_paid om_leftOf om_ringPaid om_mosts n).2.2.2.2.1) (nI v.toNatClampNeg, (itr bd_X7_net_34 6 om_backs))).2 c.toNatClampNeg)), ((f_X7_pay om_s om_reaches om_ringOf om_rungOf om_rings om_paid om_leftOf om_ringPaid om_mosts n).1, (f_X7_pay om_s om_reaches om_ringOf om_rungOf om_rings om_paid om_leftOf om_ringPaid om_mosts n).2.1, (f_X7_pay om_s om_reaches om_ringOf om_rungOf om_rings om_paid om_leftOf om_ringPaid om_mosts n).2.2.1, (f_X7_pay om_s om_reaches om_ringOf om_rungOf om_rings om_paid om_leftOf om_ringPaid om_mosts n).2.2.2.1, (f_X7_pay om_s om_reaches om_ringOf om_rungOf om_rings om_paid om_leftOf om_ringPaid om_mosts n).2.2.2.2.1, (f_X7_pay om_s om_reaches om_ringOf om_rungOf om_rings om_paid om_leftOf om_ringPaid om_mosts n).2.2.2.2.2.1, (f_X7_pay om_s om_reaches om_ringOf om_rungOf om_rings om_paid om_leftOf om_ringPaid om_mosts n).2.2.2.2.2.2.1, (f_X7_pay om_s om_reaches om_ringOf om_rungOf om_rings om_paid om_leftOf om_ringPaid om_mosts n).2.2.2.2.2.2.2.1, (f_X7_pay om_s om_reaches om_ringOf om_rungOf om_rings om_paid om_leftOf om_ringPaid om_mosts n).2.2.2.2.2.2.2.2.1, (f_X7_pay om_s om_reaches om_ringOf om_rungOf om_rings om_paid om_leftOf om_ringPaid om_mosts n).2.2.2.2.2.2.2.2.2, (itr (bd_X7_net_63 n (f_X7_pay om_s om_reaches om_ringOf om_rungOf om_rings om_paid om_leftOf om_ringPaid om_mosts n)) ((f_X7_pay om_s om_reaches om_ringOf om_rungOf om_rings om_paid om_leftOf om_ringPaid om_mosts n).2.2.2.2.1) (nI v.toNatClampNeg, (itr bd_X7_net_34 6 om_backs))).2)))
theorem net_in {k63 : Nat} {u26 : (Nat → Int32) × (Nat → Int32) × (Nat → Int32) × (Nat → Int32) × Nat × (Nat → Int32) × (Nat → Int32) × (Nat → Int32) × Int32 × (Nat → Int32)} {m : Nat} {f : Nat → Int32} : ∀ k : Nat, ∃ m' : Nat, (itr (bd_X7_net_82 k63 u26) k (nI m, 0, f)).1 = nI m' ∧ m' ≤ m ∧ ((itr (bd_X7_net_82 k63 u26) k (nI m, 0, f)).2.1 = 0 ∨ m' < m)
  | 0 => ⟨m, rfl, Nat.le_refl m, Or.inl rfl⟩
  | k + 1 => by
    obtain ⟨m', h1, h2, h3⟩ := net_in (m := m) (f := f) k
    rw [itr_succ]
    generalize itr (bd_X7_net_82 k63 u26) k (nI m, 0, f) = y at h1 h3 ⊢
    unfold bd_X7_net_82
    refine iteP (P := fun x : Int32 × Int32 × (Nat → Int32) => ∃ m' : Nat, x.1 = nI m' ∧ m' ≤ m ∧ (x.2.1 = 0 ∨ m' < m)) (fun _ => ⟨m', h1, h2, h3⟩) (fun c1 => ?_)
    refine iteP (P := fun x : Int32 × Int32 × (Nat → Int32) => ∃ m' : Nat, x.1 = nI m' ∧ m' ≤ m ∧ (x.2.1 = 0 ∨ m' < m)) (fun _ => ⟨m', h1, h2, h3⟩) (fun c2 => ?_)
    refine iteP (P := fun x : Int32 × Int32 × (Nat → Int32) => ∃ m' : Nat, x.1 = nI m' ∧ m' ≤ m ∧ (x.2.1 = 0 ∨ m' < m)) (fun _ => ⟨m', h1, h2, h3⟩) (fun c3 => ?_)
    have hm : 0 < m' := Nat.pos_of_ne_zero (fun q => c1 (by rw [h1, q]; rfl))
    exact ⟨m' - 1, by show y.1 + (-1) = _; rw [h1, sb_m1 hm], by omega, Or.inr (by omega)⟩
theorem net_some {n : Nat} {k63 : Nat} {u26 : (Nat → Int32) × (Nat → Int32) × (Nat → Int32) × (Nat → Int32) × Nat × (Nat → Int32) × (Nat → Int32) × (Nat → Int32) × Int32 × (Nat → Int32)} : ∀ (d m : Nat) (on : Int32) (f : Nat → Int32), (on = 0 → 0 < d) → (¬ on = 0 → m + 1 < d) → (wl (bd_X7_net_71 n k63 u26) d (nI m, on, f)).isSome = true
  | 0, m, on, f, h1, h2 => by
    by_cases e : on = 0
    · exact absurd (h1 e) (Nat.lt_irrefl 0)
    · exact absurd (h2 e) (Nat.not_lt_zero _)
  | d + 1, m, on, f, h1, h2 => by
    by_cases e : on = 0
    · have hb : bd_X7_net_71 n k63 u26 (nI m, on, f) = .inr (nI m, on, f) := by unfold bd_X7_net_71; rw [if_pos e]
      rw [wl_inr hb]; rfl
    · have hb : bd_X7_net_71 n k63 u26 (nI m, on, f) = .inl (itr (bd_X7_net_82 k63 u26) n (nI m, 0, f)) := by unfold bd_X7_net_71; rw [if_neg e]
      rw [wl_inl hb]
      obtain ⟨m', g1, g2, g3⟩ := net_in (k63 := k63) (u26 := u26) (m := m) (f := f) n
      generalize itr (bd_X7_net_82 k63 u26) n (nI m, 0, f) = y at g1 g3 ⊢
      obtain ⟨y1, y2, y3⟩ := y
      have g1 : y1 = nI m' := g1
      subst g1
      have h3 := h2 e
      refine net_some d m' y2 y3 (fun _ => by omega) (fun e2 => ?_)
      rcases g3 with g | g
      · exact absurd g e2
      · omega
theorem net_s1 {n : Nat} {k63 : Nat} {u26 : (Nat → Int32) × (Nat → Int32) × (Nat → Int32) × (Nat → Int32) × Nat × (Nat → Int32) × (Nat → Int32) × (Nat → Int32) × Int32 × (Nat → Int32)} {x : Int32} {f : Nat → Int32} (h : ∃ m, m < 1000 ∧ x = nI m) : (wl (bd_X7_net_71 n k63 u26) 4294967296 (x, 1, f)).isSome = true := by
  obtain ⟨m, hm, rfl⟩ := h
  exact net_some _ _ _ _ (fun q => absurd q (by decide)) (fun _ => by omega)
theorem net_wl {n : Nat} {k63 : Nat} {u26 : (Nat → Int32) × (Nat → Int32) × (Nat → Int32) × (Nat → Int32) × Nat × (Nat → Int32) × (Nat → Int32) × (Nat → Int32) × Int32 × (Nat → Int32)} {M : Nat} : ∀ (d : Nat) (z x : Int32 × Int32 × (Nat → Int32)), (∃ m, m < M ∧ z.1 = nI m) → wl (bd_X7_net_71 n k63 u26) d z = some x → ∃ m, m < M ∧ x.1 = nI m
  | 0, z, x, _, h => by cases h
  | d + 1, z, x, hz, h => by
    by_cases e : z.2.1 = 0
    · have hb : bd_X7_net_71 n k63 u26 z = .inr z := by unfold bd_X7_net_71; rw [if_pos e]
      rw [wl_inr hb] at h
      cases h
      exact hz
    · have hb : bd_X7_net_71 n k63 u26 z = .inl (itr (bd_X7_net_82 k63 u26) n (z.1, 0, z.2.2)) := by unfold bd_X7_net_71; rw [if_neg e]
      rw [wl_inl hb] at h
      obtain ⟨m, hm, h1⟩ := hz
      rw [h1] at h
      obtain ⟨m', g1, g2, -⟩ := net_in (k63 := k63) (u26 := u26) (m := m) (f := z.2.2) n
      exact net_wl d _ x ⟨m', by omega, g1⟩ h
theorem net_out {n : Nat} {u26 : (Nat → Int32) × (Nat → Int32) × (Nat → Int32) × (Nat → Int32) × Nat × (Nat → Int32) × (Nat → Int32) × (Nat → Int32) × Int32 × (Nat → Int32)} {m0 : Nat} (h : m0 < 1000) : ∀ (k : Nat) (f : Nat → Int32), ∃ m9, m9 < 1000 ∧ (itr (bd_X7_net_63 n u26) k (nI m0, f)).1 = nI m9
  | 0, f => ⟨m0, h, rfl⟩
  | k + 1, f => by
    rw [itr_succ]
    have ih := net_out (n := n) (u26 := u26) h k f
    generalize itr (bd_X7_net_63 n u26) k (nI m0, f) = y at ih ⊢
    unfold bd_X7_net_63
    exact net_wl _ _ _ ih (wl_some (net_s1 ih))

set_option maxHeartbeats 4000000 in
set_option maxRecDepth 100000 in
theorem c_X7_net (l : Launch) (D : va_G) (cy : Nat → ClassId) (om : Nat → Nat) (om_thrown : Int32) (om_s : Nat → Int32) (om_kept : Nat → Int32) (om_aside : Nat → Int32) (om_isKept : Int32) (om_reaches : Nat → Int32) (om_ringOf : Nat → Int32) (om_rungOf : Nat → Int32) (om_rings : Nat → Int32) (om_paid : Nat → Int32) (om_leftOf : Nat → Int32) (om_ringPaid : Nat → Int32) (om_paidAll : Int32) (om_mosts : Nat → Int32) (om_text : Nat → Int32) (om_signs : Int32) (om_at : Int32) (om_isWrong : Int32) (om_clauses : Int32) (om_letters : Nat → Int32) (om_one : Nat → Int32) (om_two : Nat → Int32) (om_three : Nat → Int32) (om_whys : Nat → Int32) (om_backs : Nat → Int32) (om_sorts : Nat → Int32) (om_sizes : Nat → Int32) (om_items : Nat → Int64) (c : Int32) (v : Int32) (n : Nat) (r : Nat) (hn : n ≤ 6) (hs0 : om_s 0 = nI n) : RwI (S := (Nat → Int32) × (Nat → Int32) × (Nat → Int32) × (Nat → Int32) × Nat × (Nat → Int32) × (Nat → Int32) × (Nat → Int32) × Int32 × (Nat → Int32) × (Nat → Int32)) l D cy yX7_net (.code yX7_net cX7_net 7 (some .int)) 5 (wX7 cy om om_thrown om_s om_kept om_aside om_isKept om_reaches om_ringOf om_rungOf om_rings (nI r) om_paid om_leftOf om_ringPaid om_paidAll om_mosts om_text om_signs om_at om_isWrong om_clauses om_letters om_one om_two om_three om_whys om_backs om_sorts om_sizes om_items) [.ref (om 0), .int c, .int v] (fun rr u => (rr, u) = f_X7_net om_s om_reaches om_ringOf om_rungOf om_rings om_paid om_leftOf om_ringPaid om_paidAll om_mosts om_backs c v n r) (fun u => wX7 cy om om_thrown om_s om_kept om_aside om_isKept u.1 u.2.1 u.2.2.1 u.2.2.2.1 (nI u.2.2.2.2.1) u.2.2.2.2.2.1 u.2.2.2.2.2.2.1 u.2.2.2.2.2.2.2.1 u.2.2.2.2.2.2.2.2.1 u.2.2.2.2.2.2.2.2.2.1 om_text om_signs om_at om_isWrong om_clauses om_letters om_one om_two om_three om_whys u.2.2.2.2.2.2.2.2.2.2 om_sorts om_sizes om_items) := by
  intro sz
  refine Met.ofW (cc := cX7_net) (maxL := 7) (ret := (some .int)) (by decide) rfl ?_
  intro pP eE s0 mM args below meth cC s₁ B hml hv
  obtain ⟨rfl, hsz, hP, hKX, hD0⟩ := hv
  have hx := B.exec
  have hb := B.bytes
  have hr := B.returns
  have hG := gw_hts (atoms_spec (ws := _) B.pre)
  have hown : s0.vm.findClass RX7 = some mM.cls := findClass_of_methodNamed B.named
  have hlocks := B.notSynchronized
  subst hsz
  have hD := hD0.self (sz := s0.heap.size)
  generalize hAe : va_A (wX7 cy om om_thrown om_s om_kept om_aside om_isKept om_reaches om_ringOf om_rungOf om_rings (nI r) om_paid om_leftOf om_ringPaid om_paidAll om_mosts om_text om_signs om_at om_isWrong om_clauses om_letters om_one om_two om_three om_whys om_backs om_sorts om_sizes om_items) s0.heap.size = A at hD ⊢
  have hA : ∀ q : Nat, s0.heap.size ≤ q → A q := fun q h => by rw [← hAe]; exact Or.inr h
  have hS : va_S A s0.heap s0.heap [] := va_S.rf
  have hl := lv_entry ([.ref (om 0), .int c, .int v]) (n := 7) (Nat.le_of_ble_eq_true rfl)
  rw [lg_entry_eq]
  generalize (lg_sl ([.ref (om 0), .int c, .int v]) ++ List.replicate (7 - (lg_sl ([.ref (om 0), .int c, .int v])).length) Slot.unset).toArray = ls at hl ⊢
  have hl : lv_has ls 7 [(0, .ref (om 0)), (1, .int c), (2, .int v)] := hl
  refine lv_aload_n hx hb dX7_net_0 rfl (lv_at hl 0 rfl) ?_
  refine lv_iload_n hx hb dX7_net_1 rfl (lv_at hl 1 rfl) ?_
  refine cRoV (q0 := 0) (ci := 7) mw8_2 mw8_3 mw8_4 mw1_5 mw8_5 rfl rfl hd_X7_isOne hx hb hml hown hG hKX (c_X7_isOne l D cy om om_thrown om_s om_kept om_aside om_isKept om_reaches om_ringOf om_rungOf om_rings (nI r) om_paid om_leftOf om_ringPaid om_paidAll om_mosts om_text om_signs om_at om_isWrong om_clauses om_letters om_one om_two om_three om_whys om_backs om_sorts om_sizes om_items c n hn hs0) ⟨Nat.le_of_ble_eq_true rfl, Nat.le_of_ble_eq_true rfl⟩ ⟨Nat.zero_le _, Nat.zero_le _⟩ hP rfl rfl hl.1 rfl (Nat.le_of_ble_eq_true rfl) dX7_net_2 ?_
  refine lv_if_ne (tgt := 10) hx hb dX7_net_5 (by decide) (fun c1 => ?_) (fun c1 => ?_)
  · obtain ⟨j5, hj5, hlj5, rfl⟩ := isO_of (by omega) c1
    refine lv_iload_n hx hb dX7_net_10 rfl (lv_at hl 2 rfl) ?_
    refine lv_i2l (v := ((v).toInt64)) hx hb dX7_net_11 rfl ?_
    refine lv_lconst (v := (0 : Int64)) hx hb dX7_net_12 (by decide) ?_
    refine lv_ldc2 (v := (999 : Int64)) hx hb hown (hG _ mw24_23) dX7_net_13 ?_
    refine cRoS mw7_3 mw7_4 mw1_5 mw7_5 hd_X7_in hx hb hml hown hG hKX (c_X7_in l D cy ((v).toInt64) (0 : Int64) (999 : Int64)) ⟨Nat.le_of_ble_eq_true rfl, Nat.le_of_ble_eq_true rfl⟩ ⟨Nat.zero_le _, Nat.zero_le _⟩ (hP.sub [] rfl) rfl hl.1 rfl (Nat.le_of_ble_eq_true rfl) dX7_net_16 ?_
    refine lv_if_ne (tgt := 25) hx hb dX7_net_19 (by decide) (fun c2 => ?_) (fun c2 => ?_)
    · obtain ⟨j19, hj19, hlj19, rfl⟩ := inN_of (n := 1000) (by omega) c2
      refine lv_aload_n hx hb dX7_net_25 rfl (lv_at hl 0 rfl) ?_
      refine cRwVV (q0 := 0) (ci := 7) mw14_9 mw14_10 mw14_11 mw1_5 mw14_12 rfl rfl hd_X7_pay hx hb hml hown hG hKX (c_X7_pay l D cy om om_thrown om_s om_kept om_aside om_isKept om_reaches om_ringOf om_rungOf om_rings (nI r) om_paid om_leftOf om_ringPaid om_paidAll om_mosts om_text om_signs om_at om_isWrong om_clauses om_letters om_one om_two om_three om_whys om_backs om_sorts om_sizes om_items n hn hs0) ⟨Nat.le_of_ble_eq_true rfl, Nat.le_of_ble_eq_true rfl⟩ ⟨Nat.zero_le _, Nat.zero_le _⟩ hP hD hS hA [0, 1, 2, 3, 4, 5, 6, 7, 8, 9, 10, 11, 12, 13, 14, 15, 16, 17, 18, 19, 20, 21] [] [0, 1, 2, 3, 4, 5, 6, 7, 8, 9, 10, 11, 12, 13, 14, 15, 16, 17, 18, 19, 20, 21] (wr := []) (wn := fun u26 => wX7 cy om om_thrown om_s om_kept om_aside om_isKept u26.1 u26.2.1 u26.2.2.1 u26.2.2.2.1 (nI u26.2.2.2.2.1) u26.2.2.2.2.2.1 u26.2.2.2.2.2.2.1 u26.2.2.2.2.2.2.2.1 u26.2.2.2.2.2.2.2.2.1 u26.2.2.2.2.2.2.2.2.2 om_text om_signs om_at om_isWrong om_clauses om_letters om_one om_two om_three om_whys om_backs om_sorts om_sizes om_items) rfl (by decide) rfl (by decide) (by decide) (fun _ => rfl) (by decide) rfl rfl hl.1 rfl (Nat.le_of_ble_eq_true rfl) dX7_net_26 (fun u26 H locs hw26 hP hD hS => ?_)
      have hrl : u26.2.2.2.2.1 ≤ 6 := by subst hw26; exact pay_le hn
      have hrg : ∀ k, k < n → (f_X7_rungAt u26.2.2.2.1 u26.2.2.2.2.1 k) = nI (f_X7_rungAt u26.2.2.2.1 u26.2.2.2.2.1 k).toNatClampNeg ∧ (f_X7_rungAt u26.2.2.2.1 u26.2.2.2.2.1 k).toNatClampNeg < 6 := by subst hw26; exact pay_rung hn
      refine lv_iload_n hx hb dX7_net_29 rfl (lv_at hl 2 rfl) ?_
      refine lv_istore_n (lv' := [(3, .int (nI j19)), (0, .ref (om 0)), (1, .int (nI j5)), (2, .int (nI j19))]) hx hb dX7_net_30 rfl hl (by decide) rfl (fun ls hl => ?_)
      refine lv_iconst (v := (0 : Int32)) hx hb dX7_net_31 (by decide) ?_
      refine lv_istore (lv' := [(4, .int (0 : Int32)), (3, .int (nI j19)), (0, .ref (om 0)), (1, .int (nI j5)), (2, .int (nI j19))]) hx hb dX7_net_32 hl (by decide) rfl (fun ls hl => ?_)
      refine loopW bd_X7_net_34 om_backs 6 (fun k34 z34 => [(4, .int (nI k34)), (3, .int (nI j19)), (0, .ref (om 0)), (1, .int (nI j5)), (2, .int (nI j19))]) (fun k34 z34 => wX7 cy om om_thrown om_s om_kept om_aside om_isKept u26.1 u26.2.1 u26.2.2.1 u26.2.2.2.1 (nI u26.2.2.2.2.1) u26.2.2.2.2.2.1 u26.2.2.2.2.2.2.1 u26.2.2.2.2.2.2.2.1 u26.2.2.2.2.2.2.2.2.1 u26.2.2.2.2.2.2.2.2.2 om_text om_signs om_at om_isWrong om_clauses om_letters om_one om_two om_three om_whys z34 om_sorts om_sizes om_items) hP hD hS (lv_sub hl [0, 1, 2, 3, 4] rfl) (fun k34 z34 H locs ls hk34 hz34 hP hD hS hl ih34 => ?_)
      refine lv_iload hx hb dX7_net_34 (lv_at hl 0 rfl) ?_
      refine lv_bipush (v := (6 : Int32)) hx hb dX7_net_36 (by decide) ?_
      refine lv_icmp_ge (tgt := 55) hx hb dX7_net_38 (by decide) (fun c3 => ?_) (fun c3 => ?_)
      · have e_k34 : 6 = k34 := Nat.le_antisymm ((le_n (N := 6) (k := k34) rfl (by omega) (by omega)).mp c3) hk34
        subst e_k34
        refine lv_aload_n hx hb dX7_net_55 rfl (lv_at hl 2 rfl) ?_
        refine gf_X7_115 hx hb hG hown hKX hP 0 rfl rfl dX7_net_56 ?_
        refine lv_iconst (v := (1 : Int32)) hx hb dX7_net_59 (by decide) ?_
        refine lv_isub hx hb dX7_net_60 ?_
        refine lv_istore (lv' := [(4, .int (nI u26.2.2.2.2.1 - (1 : Int32))), (3, .int (nI j19)), (0, .ref (om 0)), (1, .int (nI j5)), (2, .int (nI j19))]) hx hb dX7_net_61 hl (by decide) rfl (fun ls hl => ?_)
        refine loopW (bd_X7_net_63 n u26) (nI j19, z34) u26.2.2.2.2.1 (fun k63 z63 => [(4, .int (nI (u26.2.2.2.2.1 - k63) - (1 : Int32))), (3, .int z63.1), (0, .ref (om 0)), (1, .int (nI j5)), (2, .int (nI j19))]) (fun k63 z63 => wX7 cy om om_thrown om_s om_kept om_aside om_isKept u26.1 u26.2.1 u26.2.2.1 u26.2.2.2.1 (nI u26.2.2.2.2.1) u26.2.2.2.2.2.1 u26.2.2.2.2.2.2.1 u26.2.2.2.2.2.2.2.1 u26.2.2.2.2.2.2.2.2.1 u26.2.2.2.2.2.2.2.2.2 om_text om_signs om_at om_isWrong om_clauses om_letters om_one om_two om_three om_whys z63.2 om_sorts om_sizes om_items) hP hD hS (lv_sub hl [0, 1, 2, 3, 4] rfl) (fun k63 z63 H locs ls hk63 hz63 hP hD hS hl ih63 => ?_)
        refine lv_iload hx hb dX7_net_63 (lv_at hl 0 rfl) ?_
        refine lv_if_lt (tgt := 164) hx hb dX7_net_65 (by decide) (fun c4 => ?_) (fun c4 => ?_)
        · have e_k63 : u26.2.2.2.2.1 = k63 := Nat.le_antisymm ((dn_lt (N := u26.2.2.2.2.1) (j := k63) (by omega) hk63).mp c4) hk63
          subst e_k63
          refine lv_aload_n hx hb dX7_net_164 rfl (lv_at hl 2 rfl) ?_
          refine gf_X7_37 hx hb hG hown hKX hP 0 rfl rfl dX7_net_165 ?_
          refine lv_iload_n hx hb dX7_net_168 rfl (lv_at hl 3 rfl) ?_
          refine iald_n hx hb hKX hP 8 rfl rfl (by omega) (by decide) dX7_net_169 ?_
          refine lv_aload_n hx hb dX7_net_170 rfl (lv_at hl 2 rfl) ?_
          refine gf_X7_67 hx hb hG hown hKX hP 0 rfl rfl dX7_net_171 ?_
          refine lv_iload_n hx hb dX7_net_174 rfl (lv_at hl 3 rfl) ?_
          refine iald_n hx hb hKX hP 18 rfl rfl (by omega) (by decide) dX7_net_175 ?_
          refine lv_isub hx hb dX7_net_176 ?_
          exact W.iret (v := ((u26.2.2.2.2.2.1 j5) - (z63.2 j5))) hx hb hr (fun t ht hW => ⟨⟨((u26.2.2.2.2.2.1 j5) - (z63.2 j5)), (u26.1, u26.2.1, u26.2.2.1, u26.2.2.2.1, u26.2.2.2.2.1, u26.2.2.2.2.2.1, u26.2.2.2.2.2.2.1, u26.2.2.2.2.2.2.2.1, u26.2.2.2.2.2.2.2.2.1, u26.2.2.2.2.2.2.2.2.2, z63.2), rfl, by subst hz63; subst hz34; subst hw26; unfold f_X7_net; (try simp only [hj5, hj19]); rw [if_neg c1, if_neg c2] <;> rfl, by rw [ht]; exact hP, hD⟩, hS.F ht⟩) hS.2.2 dX7_net_177
        · have hlt63 : k63 < u26.2.2.2.2.1 := Nat.lt_of_not_le (fun qq_ => c4 ((dn_lt (N := u26.2.2.2.2.1) (j := k63) (by omega) hk63).mpr qq_))
          have hm63 : ∃ m9, m9 < 1000 ∧ z63.1 = nI m9 := by rw [hz63]; exact net_out (by omega) _ _
          rw [dn_in hlt63] at hl
          refine lv_iconst (v := (1 : Int32)) hx hb dX7_net_68 (by decide) ?_
          refine lv_istore (lv' := [(5, .int (1 : Int32)), (4, .int (nI (u26.2.2.2.2.1 - 1 - k63))), (3, .int z63.1), (0, .ref (om 0)), (1, .int (nI j5)), (2, .int (nI j19))]) hx hb dX7_net_69 hl (by decide) rfl (fun ls hl => ?_)
          refine loopWh (pcX := 158) (bd_X7_net_71 n k63 u26) 4294967296 (z63.1, (1 : Int32), z63.2) ((wl (bd_X7_net_71 n k63 u26) 4294967296 (z63.1, (1 : Int32), z63.2)).getD (z63.1, (1 : Int32), z63.2)) (wl_some (net_s1 hm63)) (fun z71 => [(5, .int z71.2.1), (4, .int (nI (u26.2.2.2.2.1 - 1 - k63))), (3, .int z71.1), (0, .ref (om 0)), (1, .int (nI j5)), (2, .int (nI j19))]) (fun z71 => wX7 cy om om_thrown om_s om_kept om_aside om_isKept u26.1 u26.2.1 u26.2.2.1 u26.2.2.2.1 (nI u26.2.2.2.2.1) u26.2.2.2.2.2.1 u26.2.2.2.2.2.2.1 u26.2.2.2.2.2.2.2.1 u26.2.2.2.2.2.2.2.2.1 u26.2.2.2.2.2.2.2.2.2 om_text om_signs om_at om_isWrong om_clauses om_letters om_one om_two om_three om_whys z71.2.2 om_sorts om_sizes om_items) (fun z71 => [(4, .int (nI (u26.2.2.2.2.1 - 1 - k63))), (3, .int z71.1), (0, .ref (om 0)), (1, .int (nI j5)), (2, .int (nI j19))]) hP hD hS (lv_sub hl [0, 1, 2, 3, 4, 5] rfl) (fun zx71 H locs ls hzx71 hP hD hS hl => ?_) (fun z71 H locs ls hP hD hS hl ih71 br71 => ?_)
          · refine lv_iinc (v := (nI (u26.2.2.2.2.1 - (k63 + 1)) - (1 : Int32))) (lv' := [(4, .int (nI (u26.2.2.2.2.1 - (k63 + 1)) - (1 : Int32))), (3, .int zx71.1), (0, .ref (om 0)), (1, .int (nI j5)), (2, .int (nI j19))]) hx hb dX7_net_158 hl (k := 0) rfl (dn_nx hlt63) (by decide) rfl (fun ls hl => ?_)
            refine lv_goto (tgt := 63) hx hb dX7_net_161 (by decide) ?_
            exact ih63 (zx71.1, zx71.2.2) _ _ _ hlt63 (by subst hzx71; subst hz34; subst hw26; unfold bd_X7_net_63; rfl) hP hD hS (lv_sub hl [0, 1, 2, 3, 4] rfl)
          · refine lv_iload hx hb dX7_net_71 (lv_at hl 0 rfl) ?_
            refine lv_if_eq (tgt := 158) hx hb dX7_net_73 (by decide) (fun c5 => ?_) (fun c5 => ?_)
            · exact br71 z71 _ _ _  (by subst hz34; subst hw26; unfold bd_X7_net_71; rw [if_pos c5] <;> rfl) hP hD hS (lv_sub hl [1, 2, 3, 4, 5] rfl)
            · refine lv_iconst (v := (0 : Int32)) hx hb dX7_net_76 (by decide) ?_
              refine lv_istore (lv' := [(5, .int (0 : Int32)), (4, .int (nI (u26.2.2.2.2.1 - 1 - k63))), (3, .int z71.1), (0, .ref (om 0)), (1, .int (nI j5)), (2, .int (nI j19))]) hx hb dX7_net_77 hl (by decide) rfl (fun ls hl => ?_)
              refine lv_iconst (v := (0 : Int32)) hx hb dX7_net_79 (by decide) ?_
              refine lv_istore (lv' := [(6, .int (0 : Int32)), (5, .int (0 : Int32)), (4, .int (nI (u26.2.2.2.2.1 - 1 - k63))), (3, .int z71.1), (0, .ref (om 0)), (1, .int (nI j5)), (2, .int (nI j19))]) hx hb dX7_net_80 hl (by decide) rfl (fun ls hl => ?_)
              refine loopW (bd_X7_net_82 k63 u26) (z71.1, (0 : Int32), z71.2.2) n (fun k82 z82 => [(6, .int (nI k82)), (5, .int z82.2.1), (4, .int (nI (u26.2.2.2.2.1 - 1 - k63))), (3, .int z82.1), (0, .ref (om 0)), (1, .int (nI j5)), (2, .int (nI j19))]) (fun k82 z82 => wX7 cy om om_thrown om_s om_kept om_aside om_isKept u26.1 u26.2.1 u26.2.2.1 u26.2.2.2.1 (nI u26.2.2.2.2.1) u26.2.2.2.2.2.1 u26.2.2.2.2.2.2.1 u26.2.2.2.2.2.2.2.1 u26.2.2.2.2.2.2.2.2.1 u26.2.2.2.2.2.2.2.2.2 om_text om_signs om_at om_isWrong om_clauses om_letters om_one om_two om_three om_whys z82.2.2 om_sorts om_sizes om_items) hP hD hS (lv_sub hl [0, 1, 2, 3, 4, 5, 6] rfl) (fun k82 z82 H locs ls hk82 hz82 hP hD hS hl ih82 => ?_)
              refine lv_iload hx hb dX7_net_82 (lv_at hl 0 rfl) ?_
              refine lv_aload_n hx hb dX7_net_84 rfl (lv_at hl 4 rfl) ?_
              refine gf_X7_15 hx hb hG hown hKX hP 0 rfl rfl dX7_net_85 ?_
              refine lv_iconst (v := (0 : Int32)) hx hb dX7_net_88 (by decide) ?_
              refine iald_v hx hb hKX hP 1 rfl rfl (by decide) (by decide) hs0 dX7_net_89 ?_
              refine lv_icmp_ge (tgt := 155) hx hb dX7_net_90 (by decide) (fun c6 => ?_) (fun c6 => ?_)
              · have e_k82 : n = k82 := Nat.le_antisymm ((le_n (N := n) (k := k82) rfl (by omega) (by omega)).mp c6) hk82
                subst e_k82
                refine lv_goto (tgt := 71) hx hb dX7_net_155 (by decide) ?_
                exact ih71 z82 _ _ _ (by subst hz82; subst hz34; subst hw26; unfold bd_X7_net_71; rw [if_neg c5] <;> rfl) hP hD hS (lv_sub hl [1, 2, 3, 4, 5, 6] rfl)
              · have hlt82 : k82 < n := Nat.lt_of_not_le (fun qq_ => c6 ((le_n (N := n) (k := k82) rfl (by omega) (by omega)).mpr qq_))
                refine lv_iload_n hx hb dX7_net_93 rfl (lv_at hl 3 rfl) ?_
                refine lv_if_eq (tgt := 149) hx hb dX7_net_94 (by decide) (fun c7 => ?_) (fun c7 => ?_)
                · refine lv_iinc (v := nI (k82 + 1)) (lv' := [(6, .int (nI (k82 + 1))), (5, .int z82.2.1), (4, .int (nI (u26.2.2.2.2.1 - 1 - k63))), (3, .int z82.1), (0, .ref (om 0)), (1, .int (nI j5)), (2, .int (nI j19))]) hx hb dX7_net_149 hl (k := 0) rfl (nI_1 _) (by decide) rfl (fun ls hl => ?_)
                  refine lv_goto (tgt := 82) hx hb dX7_net_152 (by decide) ?_
                  exact ih82 z82 _ _ _ hlt82 (by subst hz34; subst hw26; unfold bd_X7_net_82; rw [if_pos c7] <;> rfl) hP hD hS (lv_sub hl [0, 1, 2, 3, 4, 5, 6] rfl)
                · refine lv_aload_n hx hb dX7_net_97 rfl (lv_at hl 4 rfl) ?_
                  refine gf_X7_34 hx hb hG hown hKX hP 0 rfl rfl dX7_net_98 ?_
                  refine lv_iload hx hb dX7_net_101 (lv_at hl 2 rfl) ?_
                  refine iald_n hx hb hKX hP 7 rfl rfl (by omega) (by decide) dX7_net_103 ?_
                  refine lv_iload hx hb dX7_net_104 (lv_at hl 0 rfl) ?_
                  refine cRoS mw14_23 mw15_0 mw1_5 mw15_1 hd_X7_has hx hb hml hown hG hKX (c_X7_has l D cy (u26.2.2.2.1 (u26.2.2.2.2.1 - 1 - k63)) (nI k82)) ⟨Nat.le_of_ble_eq_true rfl, Nat.le_of_ble_eq_true rfl⟩ ⟨Nat.zero_le _, Nat.zero_le _⟩ (hP.sub [] rfl) rfl hl.1 rfl (Nat.le_of_ble_eq_true rfl) dX7_net_106 ?_
                  refine lv_if_eq (tgt := 149) hx hb dX7_net_109 (by decide) (fun c8 => ?_) (fun c8 => ?_)
                  · refine lv_iinc (v := nI (k82 + 1)) (lv' := [(6, .int (nI (k82 + 1))), (5, .int z82.2.1), (4, .int (nI (u26.2.2.2.2.1 - 1 - k63))), (3, .int z82.1), (0, .ref (om 0)), (1, .int (nI j5)), (2, .int (nI j19))]) hx hb dX7_net_149 hl (k := 0) rfl (nI_1 _) (by decide) rfl (fun ls hl => ?_)
                    refine lv_goto (tgt := 82) hx hb dX7_net_152 (by decide) ?_
                    exact ih82 z82 _ _ _ hlt82 (by subst hz34; subst hw26; unfold bd_X7_net_82; rw [if_neg c7, if_pos c8] <;> rfl) hP hD hS (lv_sub hl [0, 1, 2, 3, 4, 5, 6] rfl)
                  · refine lv_aload_n hx hb dX7_net_112 rfl (lv_at hl 4 rfl) ?_
                    refine gf_X7_67 hx hb hG hown hKX hP 0 rfl rfl dX7_net_113 ?_
                    refine lv_iload hx hb dX7_net_116 (lv_at hl 0 rfl) ?_
                    refine iald_n hx hb hKX hP 18 rfl rfl (by omega) (by decide) dX7_net_118 ?_
                    refine lv_aload_n hx hb dX7_net_119 rfl (lv_at hl 4 rfl) ?_
                    refine gf_X7_37 hx hb hG hown hKX hP 0 rfl rfl dX7_net_120 ?_
                    refine lv_iload hx hb dX7_net_123 (lv_at hl 0 rfl) ?_
                    refine iald_n hx hb hKX hP 8 rfl rfl (by omega) (by decide) dX7_net_125 ?_
                    refine lv_icmp_ne (tgt := 132) hx hb dX7_net_126 (by decide) (fun c9 => ?_) (fun c9 => ?_)
                    · refine lv_aload_n hx hb dX7_net_132 rfl (lv_at hl 4 rfl) ?_
                      refine gf_X7_67 hx hb hG hown hKX hP 0 rfl rfl dX7_net_133 ?_
                      refine lv_iload hx hb dX7_net_136 (lv_at hl 0 rfl) ?_
                      refine lv_dup2_11 hx hb dX7_net_138 rfl rfl ?_
                      refine iald_n hx hb hKX hP 18 rfl rfl (by omega) (by decide) dX7_net_139 ?_
                      refine lv_iconst (v := (1 : Int32)) hx hb dX7_net_140 (by decide) ?_
                      refine lv_iadd hx hb dX7_net_141 ?_
                      refine iast_n hx hb hKX hP hD hS 18 rfl rfl (by omega) (by decide) dX7_net_142 (fun H locs hP hD hS => ?_)
                      have hP : va_P D vwCl (wX7 cy om om_thrown om_s om_kept om_aside om_isKept u26.1 u26.2.1 u26.2.2.1 u26.2.2.2.1 (nI u26.2.2.2.2.1) u26.2.2.2.2.2.1 u26.2.2.2.2.2.2.1 u26.2.2.2.2.2.2.2.1 u26.2.2.2.2.2.2.2.2.1 u26.2.2.2.2.2.2.2.2.2 om_text om_signs om_at om_isWrong om_clauses om_letters om_one om_two om_three om_whys (upd z82.2.2 k82 ((z82.2.2 k82) + (1 : Int32))) om_sorts om_sizes om_items) H := hP
                      have hD : va_D A (wX7 cy om om_thrown om_s om_kept om_aside om_isKept u26.1 u26.2.1 u26.2.2.1 u26.2.2.2.1 (nI u26.2.2.2.2.1) u26.2.2.2.2.2.1 u26.2.2.2.2.2.2.1 u26.2.2.2.2.2.2.2.1 u26.2.2.2.2.2.2.2.2.1 u26.2.2.2.2.2.2.2.2.2 om_text om_signs om_at om_isWrong om_clauses om_letters om_one om_two om_three om_whys (upd z82.2.2 k82 ((z82.2.2 k82) + (1 : Int32))) om_sorts om_sizes om_items) := hD
                      refine lv_iinc (v := (z82.1 + (-1 : Int32))) (lv' := [(3, .int (z82.1 + (-1 : Int32))), (6, .int (nI k82)), (5, .int z82.2.1), (4, .int (nI (u26.2.2.2.2.1 - 1 - k63))), (0, .ref (om 0)), (1, .int (nI j5)), (2, .int (nI j19))]) hx hb dX7_net_143 hl (k := 3) rfl rfl (by decide) rfl (fun ls hl => ?_)
                      refine lv_iconst (v := (1 : Int32)) hx hb dX7_net_146 (by decide) ?_
                      refine lv_istore (lv' := [(5, .int (1 : Int32)), (3, .int (z82.1 + (-1 : Int32))), (6, .int (nI k82)), (4, .int (nI (u26.2.2.2.2.1 - 1 - k63))), (0, .ref (om 0)), (1, .int (nI j5)), (2, .int (nI j19))]) hx hb dX7_net_147 hl (by decide) rfl (fun ls hl => ?_)
                      refine lv_iinc (v := nI (k82 + 1)) (lv' := [(6, .int (nI (k82 + 1))), (5, .int (1 : Int32)), (3, .int (z82.1 + (-1 : Int32))), (4, .int (nI (u26.2.2.2.2.1 - 1 - k63))), (0, .ref (om 0)), (1, .int (nI j5)), (2, .int (nI j19))]) hx hb dX7_net_149 hl (k := 2) rfl (nI_1 _) (by decide) rfl (fun ls hl => ?_)
                      refine lv_goto (tgt := 82) hx hb dX7_net_152 (by decide) ?_
                      exact ih82 ((z82.1 + (-1 : Int32)), (1 : Int32), upd z82.2.2 k82 ((z82.2.2 k82) + (1 : Int32))) _ _ _ hlt82 (by subst hz34; subst hw26; unfold bd_X7_net_82; rw [if_neg c7, if_neg c8, if_neg c9] <;> rfl) hP hD hS (lv_sub hl [0, 1, 3, 2, 4, 5, 6] rfl)
                    · refine lv_goto (tgt := 149) hx hb dX7_net_129 (by decide) ?_
                      refine lv_iinc (v := nI (k82 + 1)) (lv' := [(6, .int (nI (k82 + 1))), (5, .int z82.2.1), (4, .int (nI (u26.2.2.2.2.1 - 1 - k63))), (3, .int z82.1), (0, .ref (om 0)), (1, .int (nI j5)), (2, .int (nI j19))]) hx hb dX7_net_149 hl (k := 0) rfl (nI_1 _) (by decide) rfl (fun ls hl => ?_)
                      refine lv_goto (tgt := 82) hx hb dX7_net_152 (by decide) ?_
                      exact ih82 z82 _ _ _ hlt82 (by subst hz34; subst hw26; unfold bd_X7_net_82; rw [if_neg c7, if_neg c8, if_pos c9] <;> rfl) hP hD hS (lv_sub hl [0, 1, 2, 3, 4, 5, 6] rfl)
      · have hlt34 : k34 < 6 := Nat.lt_of_not_le (fun qq_ => c3 ((le_n (N := 6) (k := k34) rfl (by omega) (by omega)).mpr qq_))
        refine lv_aload_n hx hb dX7_net_41 rfl (lv_at hl 2 rfl) ?_
        refine gf_X7_67 hx hb hG hown hKX hP 0 rfl rfl dX7_net_42 ?_
        refine lv_iload hx hb dX7_net_45 (lv_at hl 0 rfl) ?_
        refine lv_iconst (v := (0 : Int32)) hx hb dX7_net_47 (by decide) ?_
        refine iast_n hx hb hKX hP hD hS 18 rfl rfl (by omega) (by decide) dX7_net_48 (fun H locs hP hD hS => ?_)
        have hP : va_P D vwCl (wX7 cy om om_thrown om_s om_kept om_aside om_isKept u26.1 u26.2.1 u26.2.2.1 u26.2.2.2.1 (nI u26.2.2.2.2.1) u26.2.2.2.2.2.1 u26.2.2.2.2.2.2.1 u26.2.2.2.2.2.2.2.1 u26.2.2.2.2.2.2.2.2.1 u26.2.2.2.2.2.2.2.2.2 om_text om_signs om_at om_isWrong om_clauses om_letters om_one om_two om_three om_whys (upd z34 k34 (0 : Int32)) om_sorts om_sizes om_items) H := hP
        have hD : va_D A (wX7 cy om om_thrown om_s om_kept om_aside om_isKept u26.1 u26.2.1 u26.2.2.1 u26.2.2.2.1 (nI u26.2.2.2.2.1) u26.2.2.2.2.2.1 u26.2.2.2.2.2.2.1 u26.2.2.2.2.2.2.2.1 u26.2.2.2.2.2.2.2.2.1 u26.2.2.2.2.2.2.2.2.2 om_text om_signs om_at om_isWrong om_clauses om_letters om_one om_two om_three om_whys (upd z34 k34 (0 : Int32)) om_sorts om_sizes om_items) := hD
        refine lv_iinc (v := nI (k34 + 1)) (lv' := [(4, .int (nI (k34 + 1))), (3, .int (nI j19)), (0, .ref (om 0)), (1, .int (nI j5)), (2, .int (nI j19))]) hx hb dX7_net_49 hl (k := 0) rfl (nI_1 _) (by decide) rfl (fun ls hl => ?_)
        refine lv_goto (tgt := 34) hx hb dX7_net_52 (by decide) ?_
        exact ih34 (upd z34 k34 (0 : Int32)) _ _ _ hlt34 (by subst hw26; unfold bd_X7_net_34; rfl) hP hD hS (lv_sub hl [0, 1, 2, 3, 4] rfl)
    · refine lv_bipush (v := (-2 : Int32)) hx hb dX7_net_22 (by decide) ?_
      exact W.iret (v := (-2 : Int32)) hx hb hr (fun t ht hW => ⟨⟨(-2 : Int32), (om_reaches, om_ringOf, om_rungOf, om_rings, r, om_paid, om_leftOf, om_ringPaid, om_paidAll, om_mosts, om_backs), rfl, by unfold f_X7_net; (try simp only [hj5]); rw [if_neg c1, if_pos c2] <;> rfl, by rw [ht]; exact hP, hD⟩, hS.F ht⟩) hS.2.2 dX7_net_24
  · refine lv_iconst (v := (-1 : Int32)) hx hb dX7_net_8 (by decide) ?_
    exact W.iret (v := (-1 : Int32)) hx hb hr (fun t ht hW => ⟨⟨(-1 : Int32), (om_reaches, om_ringOf, om_rungOf, om_rings, r, om_paid, om_leftOf, om_ringPaid, om_paidAll, om_mosts, om_backs), rfl, by unfold f_X7_net; rw [if_pos c1] <;> rfl, by rw [ht]; exact hP, hD⟩, hS.F ht⟩) hS.2.2 dX7_net_9
