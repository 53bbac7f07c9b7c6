theorem upd_back (f : Nat → Int32) (i : Nat) (x : Int32) : upd (upd f i x) i (f i) = f := by
  funext j
  by_cases e : j = i
  · subst e; exact pk_us
  · rw [pk_un e, pk_un e]
def f_X7_paidBy (om_s : Nat → Int32) (om_reaches : Nat → Int32) (om_ringOf : Nat → Int32) (om_rungOf : Nat → Int32) (om_rings : Nat → Int32) (om_paid : Nat → Int32) (om_leftOf : Nat → Int32) (om_ringPaid : Nat → Int32) (om_mosts : Nat → Int32) (v : Int32) (n : Nat) (c : Nat) : Int32 × (Nat → Int32) × (Nat → Int32) × (Nat → Int32) × (Nat → Int32) × Nat × (Nat → Int32) × (Nat → Int32) × (Nat → Int32) × Int32 × (Nat → Int32) :=
  (((f_X7_pay (upd om_s 1 v) om_reaches om_ringOf om_rungOf om_rings om_paid om_leftOf om_ringPaid om_mosts n).2.2.2.2.2.1 c), (f_X7_pay (upd om_s 1 v) om_reaches om_ringOf om_rungOf om_rings om_paid om_leftOf om_ringPaid om_mosts n))
set_option maxHeartbeats 4000000 in
set_option maxRecDepth 100000 in
theorem c_X7_paidBy (l : Launch) (D : va_G) (cy : Nat → ClassId) (om : Nat → Nat) (om_thrown : Int32) (om_s : Nat → Int32) (om_kept : Nat → Int32) (om_aside : Nat → Int32) (om_isKept : Int32) (om_reaches : Nat → Int32) (om_ringOf : Nat → Int32) (om_rungOf : Nat → Int32) (om_rings : Nat → Int32) (om_paid : Nat → Int32) (om_leftOf : Nat → Int32) (om_ringPaid : Nat → Int32) (om_paidAll : Int32) (om_mosts : Nat → Int32) (om_text : Nat → Int32) (om_signs : Int32) (om_at : Int32) (om_isWrong : Int32) (om_clauses : Int32) (om_letters : Nat → Int32) (om_one : Nat → Int32) (om_two : Nat → Int32) (om_three : Nat → Int32) (om_whys : Nat → Int32) (om_backs : Nat → Int32) (om_sorts : Nat → Int32) (om_sizes : Nat → Int32) (om_items : Nat → Int64) (v : Int32) (n : Nat) (r : Nat) (c : Nat) (hn : n ≤ 6) (hs0 : om_s 0 = nI n) (hc : c < n) : RwI (S := (Nat → Int32) × (Nat → Int32) × (Nat → Int32) × (Nat → Int32) × Nat × (Nat → Int32) × (Nat → Int32) × (Nat → Int32) × Int32 × (Nat → Int32)) l D cy yX7_paidBy (.code yX7_paidBy cX7_paidBy 4 (some .int)) 5 (wX7 cy om om_thrown om_s om_kept om_aside om_isKept om_reaches om_ringOf om_rungOf om_rings (nI r) om_paid om_leftOf om_ringPaid om_paidAll om_mosts om_text om_signs om_at om_isWrong om_clauses om_letters om_one om_two om_three om_whys om_backs om_sorts om_sizes om_items) [.ref (om 0), .int (nI c), .int v] (fun rr u => (rr, u) = f_X7_paidBy om_s om_reaches om_ringOf om_rungOf om_rings om_paid om_leftOf om_ringPaid om_mosts v n c) (fun u => wX7 cy om om_thrown om_s om_kept om_aside om_isKept u.1 u.2.1 u.2.2.1 u.2.2.2.1 (nI u.2.2.2.2.1) u.2.2.2.2.2.1 u.2.2.2.2.2.2.1 u.2.2.2.2.2.2.2.1 u.2.2.2.2.2.2.2.2.1 u.2.2.2.2.2.2.2.2.2 om_text om_signs om_at om_isWrong om_clauses om_letters om_one om_two om_three om_whys om_backs om_sorts om_sizes om_items) := by
  intro sz
  refine Met.ofW (cc := cX7_paidBy) (maxL := 4) (ret := (some .int)) (by decide) rfl ?_
  intro pP eE s0 mM args below meth cC s₁ B hml hv
  obtain ⟨rfl, hsz, hP, hKX, hD0⟩ := hv
  have hx := B.exec
  have hb := B.bytes
  have hr := B.returns
  have hG := gw_hts (atoms_spec (ws := _) B.pre)
  have hown : s0.vm.findClass RX7 = some mM.cls := findClass_of_methodNamed B.named
  have hlocks := B.notSynchronized
  subst hsz
  have hD := hD0.self (sz := s0.heap.size)
  generalize hAe : va_A (wX7 cy om om_thrown om_s om_kept om_aside om_isKept om_reaches om_ringOf om_rungOf om_rings (nI r) om_paid om_leftOf om_ringPaid om_paidAll om_mosts om_text om_signs om_at om_isWrong om_clauses om_letters om_one om_two om_three om_whys om_backs om_sorts om_sizes om_items) s0.heap.size = A at hD ⊢
  have hA : ∀ q : Nat, s0.heap.size ≤ q → A q := fun q h => by rw [← hAe]; exact Or.inr h
  have hS : va_S A s0.heap s0.heap [] := va_S.rf
  have hl := lv_entry ([.ref (om 0), .int (nI c), .int v]) (n := 4) (Nat.le_of_ble_eq_true rfl)
  rw [lg_entry_eq]
  generalize (lg_sl ([.ref (om 0), .int (nI c), .int v]) ++ List.replicate (4 - (lg_sl ([.ref (om 0), .int (nI c), .int v])).length) Slot.unset).toArray = ls at hl ⊢
  have hl : lv_has ls 4 [(0, .ref (om 0)), (1, .int (nI c)), (2, .int v)] := hl
  refine lv_aload_n hx hb dX7_paidBy_0 rfl (lv_at hl 0 rfl) ?_
  refine gf_X7_15 hx hb hG hown hKX hP 0 rfl rfl dX7_paidBy_1 ?_
  refine lv_iconst (v := (1 : Int32)) hx hb dX7_paidBy_4 (by decide) ?_
  refine iald_n hx hb hKX hP 1 rfl rfl (by decide) (by decide) dX7_paidBy_5 ?_
  refine lv_istore_n (lv' := [(3, .int (om_s 1)), (0, .ref (om 0)), (1, .int (nI c)), (2, .int v)]) hx hb dX7_paidBy_6 rfl hl (by decide) rfl (fun ls hl => ?_)
  refine lv_aload_n hx hb dX7_paidBy_7 rfl (lv_at hl 1 rfl) ?_
  refine gf_X7_15 hx hb hG hown hKX hP 0 rfl rfl dX7_paidBy_8 ?_
  refine lv_iconst (v := (1 : Int32)) hx hb dX7_paidBy_11 (by decide) ?_
  refine lv_iload_n hx hb dX7_paidBy_12 rfl (lv_at hl 3 rfl) ?_
  refine iast_n hx hb hKX hP hD hS 1 rfl rfl (by decide) (by decide) dX7_paidBy_13 (fun H locs hP hD hS => ?_)
  have hP : va_P D vwCl (wX7 cy om om_thrown (upd om_s 1 v) om_kept om_aside om_isKept om_reaches om_ringOf om_rungOf om_rings (nI r) om_paid om_leftOf om_ringPaid om_paidAll om_mosts om_text om_signs om_at om_isWrong om_clauses om_letters om_one om_two om_three om_whys om_backs om_sorts om_sizes om_items) H := hP
  have hD : va_D A (wX7 cy om om_thrown (upd om_s 1 v) om_kept om_aside om_isKept om_reaches om_ringOf om_rungOf om_rings (nI r) om_paid om_leftOf om_ringPaid om_paidAll om_mosts om_text om_signs om_at om_isWrong om_clauses om_letters om_one om_two om_three om_whys om_backs om_sorts om_sizes om_items) := hD
  refine lv_aload_n hx hb dX7_paidBy_14 rfl (lv_at hl 1 rfl) ?_
  refine cRwVV (q0 := 0) (ci := 7) mw14_9 mw14_10 mw14_11 mw1_5 mw14_12 rfl rfl hd_X7_pay hx hb hml hown hG hKX (c_X7_pay l D cy om om_thrown (upd om_s 1 v) om_kept om_aside om_isKept om_reaches om_ringOf om_rungOf om_rings (nI r) om_paid om_leftOf om_ringPaid om_paidAll om_mosts om_text om_signs om_at om_isWrong om_clauses om_letters om_one om_two om_three om_whys om_backs om_sorts om_sizes om_items n hn ((pk_un (by omega)).trans hs0)) ⟨Nat.le_of_ble_eq_true rfl, Nat.le_of_ble_eq_true rfl⟩ ⟨Nat.zero_le _, Nat.zero_le _⟩ hP hD hS hA [0, 1, 2, 3, 4, 5, 6, 7, 8, 9, 10, 11, 12, 13, 14, 15, 16, 17, 18, 19, 20, 21] [] [0, 1, 2, 3, 4, 5, 6, 7, 8, 9, 10, 11, 12, 13, 14, 15, 16, 17, 18, 19, 20, 21] (wr := []) (wn := fun u15 => wX7 cy om om_thrown (upd om_s 1 v) om_kept om_aside om_isKept u15.1 u15.2.1 u15.2.2.1 u15.2.2.2.1 (nI u15.2.2.2.2.1) u15.2.2.2.2.2.1 u15.2.2.2.2.2.2.1 u15.2.2.2.2.2.2.2.1 u15.2.2.2.2.2.2.2.2.1 u15.2.2.2.2.2.2.2.2.2 om_text om_signs om_at om_isWrong om_clauses om_letters om_one om_two om_three om_whys om_backs om_sorts om_sizes om_items) rfl (by decide) rfl (by decide) (by decide) (fun _ => rfl) (by decide) rfl rfl hl.1 rfl (Nat.le_of_ble_eq_true rfl) dX7_paidBy_15 (fun u15 H locs hw15 hP hD hS => ?_)
  refine lv_aload_n hx hb dX7_paidBy_18 rfl (lv_at hl 1 rfl) ?_
  refine gf_X7_15 hx hb hG hown hKX hP 0 rfl rfl dX7_paidBy_19 ?_
  refine lv_iconst (v := (1 : Int32)) hx hb dX7_paidBy_22 (by decide) ?_
  refine lv_iload_n hx hb dX7_paidBy_23 rfl (lv_at hl 0 rfl) ?_
  refine iast_n hx hb hKX hP hD hS 1 rfl rfl (by decide) (by decide) dX7_paidBy_24 (fun H locs hP hD hS => ?_)
  have hP : va_P D vwCl (wX7 cy om om_thrown (upd (upd om_s 1 v) 1 (om_s 1)) om_kept om_aside om_isKept u15.1 u15.2.1 u15.2.2.1 u15.2.2.2.1 (nI u15.2.2.2.2.1) u15.2.2.2.2.2.1 u15.2.2.2.2.2.2.1 u15.2.2.2.2.2.2.2.1 u15.2.2.2.2.2.2.2.2.1 u15.2.2.2.2.2.2.2.2.2 om_text om_signs om_at om_isWrong om_clauses om_letters om_one om_two om_three om_whys om_backs om_sorts om_sizes om_items) H := hP
  have hD : va_D A (wX7 cy om om_thrown (upd (upd om_s 1 v) 1 (om_s 1)) om_kept om_aside om_isKept u15.1 u15.2.1 u15.2.2.1 u15.2.2.2.1 (nI u15.2.2.2.2.1) u15.2.2.2.2.2.1 u15.2.2.2.2.2.2.1 u15.2.2.2.2.2.2.2.1 u15.2.2.2.2.2.2.2.2.1 u15.2.2.2.2.2.2.2.2.2 om_text om_signs om_at om_isWrong om_clauses om_letters om_one om_two om_three om_whys om_backs om_sorts om_sizes om_items) := hD
  have e_back := upd_back om_s 1 v
  rw [e_back] at hP hD
  have hP : va_P D vwCl (wX7 cy om om_thrown om_s om_kept om_aside om_isKept u15.1 u15.2.1 u15.2.2.1 u15.2.2.2.1 (nI u15.2.2.2.2.1) u15.2.2.2.2.2.1 u15.2.2.2.2.2.2.1 u15.2.2.2.2.2.2.2.1 u15.2.2.2.2.2.2.2.2.1 u15.2.2.2.2.2.2.2.2.2 om_text om_signs om_at om_isWrong om_clauses om_letters om_one om_two om_three om_whys om_backs om_sorts om_sizes om_items) H := hP
  have hD : va_D A (wX7 cy om om_thrown om_s om_kept om_aside om_isKept u15.1 u15.2.1 u15.2.2.1 u15.2.2.2.1 (nI u15.2.2.2.2.1) u15.2.2.2.2.2.1 u15.2.2.2.2.2.2.1 u15.2.2.2.2.2.2.2.1 u15.2.2.2.2.2.2.2.2.1 u15.2.2.2.2.2.2.2.2.2 om_text om_signs om_at om_isWrong om_clauses om_letters om_one om_two om_three om_whys om_backs om_sorts om_sizes om_items) := hD
  refine lv_aload_n hx hb dX7_paidBy_25 rfl (lv_at hl 1 rfl) ?_
  refine gf_X7_37 hx hb hG hown hKX hP 0 rfl rfl dX7_paidBy_26 ?_
  refine lv_iload_n hx hb dX7_paidBy_29 rfl (lv_at hl 2 rfl) ?_
  refine iald_n hx hb hKX hP 8 rfl rfl (by omega) (by decide) dX7_paidBy_30 ?_
  exact W.iret (v := (u15.2.2.2.2.2.1 c)) hx hb hr (fun t ht hW => ⟨⟨(u15.2.2.2.2.2.1 c), u15, rfl, by subst hw15; unfold f_X7_paidBy; rfl, by rw [ht]; exact hP, hD⟩, hS.F ht⟩) hS.2.2 dX7_paidBy_31
def f_X7_more (om_s : Nat → Int32) (om_reaches : Nat → Int32) (om_ringOf : Nat → Int32) (om_rungOf : Nat → Int32) (om_rings : Nat → Int32) (om_paid : Nat → Int32) (om_leftOf : Nat → Int32) (om_ringPaid : Nat → Int32) (om_paidAll : Int32) (om_mosts : Nat → Int32) (c : Int32) (n : Nat) (r : Nat) : Int64 × (Nat → Int32) × (Nat → Int32) × (Nat → Int32) × (Nat → Int32) × Nat × (Nat → Int32) × (Nat → Int32) × (Nat → Int32) × Int32 × (Nat → Int32) :=
  if (f_X7_isOne c n) = (0 : Int32) then ((-9223372036854775808 : Int64), (om_reaches, om_ringOf, om_rungOf, om_rings, r, om_paid, om_leftOf, om_ringPaid, om_paidAll, om_mosts)) else (((((f_X7_paidBy om_s om_reaches om_ringOf om_rungOf om_rings om_paid om_leftOf om_ringPaid om_mosts ((om_s 1) + (1 : Int32)) n c.toNatClampNeg).1).toInt64) - (((f_X7_paidBy om_s (f_X7_paidBy om_s om_reaches om_ringOf om_rungOf om_rings om_paid om_leftOf om_ringPaid om_mosts ((om_s 1) + (1 : Int32)) n c.toNatClampNeg).2.1 (f_X7_paidBy om_s om_reaches om_ringOf om_rungOf om_rings om_paid om_leftOf om_ringPaid om_mosts ((om_s 1) + (1 : Int32)) n c.toNatClampNeg).2.2.1 (f_X7_paidBy om_s om_reaches om_ringOf om_rungOf om_rings om_paid om_leftOf om_ringPaid om_mosts ((om_s 1) + (1 : Int32)) n c.toNatClampNeg).2.2.2.1 (f_X7_paidBy om_s om_reaches om_ringOf om_rungOf om_rings om_paid om_leftOf om_ringPaid om_mosts ((om_s 1) + (1 : Int32)) n c.toNatClampNeg).2.2.2.2.1 (f_X7_paidBy om_s om_reaches om_ringOf om_rungOf om_rings om_paid om_leftOf om_ringPaid om_mosts ((om_s 1) + (1 : Int32)) n c.toNatClampNeg).2.2.2.2.2.2.1 (f_X7_paidBy om_s om_reaches om_ringOf om_rungOf om_rings om_paid om_leftOf om_ringPaid om_mosts ((om_s 1) + (1 : Int32)) n c.toNatClampNeg).2.2.2.2.2.2.2.1 (f_X7_paidBy om_s om_reaches om_ringOf om_rungOf om_rings om_paid om_leftOf om_ringPaid om_mosts ((om_s 1) + (1 : Int32)) n c.toNatClampNeg).2.2.2.2.2.2.2.2.1 (f_X7_paidBy om_s om_reaches om_ringOf om_rungOf om_rings om_paid om_leftOf om_ringPaid om_mosts ((om_s 1) + (1 : Int32)) n c.toNatClampNeg).2.2.2.2.2.2.2.2.2.2 (om_s 1) n c.toNatClampNeg).1).toInt64)), (f_X7_paidBy om_s (f_X7_paidBy om_s om_reaches om_ringOf om_rungOf om_rings om_paid om_leftOf om_ringPaid om_mosts ((om_s 1) + (1 : Int32)) n c.toNatClampNeg).2.1 (f_X7_paidBy om_s om_reaches om_ringOf om_rungOf om_rings om_paid om_leftOf om_ringPaid om_mosts ((om_s 1) + (1 : Int32)) n c.toNatClampNeg).2.2.1 (f_X7_paidBy om_s om_reaches om_ringOf om_rungOf om_rings om_paid om_leftOf om_ringPaid om_mosts ((om_s 1) + (1 : Int32)) n c.toNatClampNeg).2.2.2.1 (f_X7_paidBy om_s om_reaches om_ringOf om_rungOf om_rings om_paid om_leftOf om_ringPaid om_mosts ((om_s 1) + (1 : Int32)) n c.toNatClampNeg).2.2.2.2.1 (f_X7_paidBy om_s om_reaches om_ringOf om_rungOf om_rings om_paid om_leftOf om_ringPaid om_mosts ((om_s 1) + (1 : Int32)) n c.toNatClampNeg).2.2.2.2.2.2.1 (f_X7_paidBy om_s om_reaches om_ringOf om_rungOf om_rings om_paid om_leftOf om_ringPaid om_mosts ((om_s 1) + (1 : Int32)) n c.toNatClampNeg).2.2.2.2.2.2.2.1 (f_X7_paidBy om_s om_reaches om_ringOf om_rungOf om_rings om_paid om_leftOf om_ringPaid om_mosts ((om_s 1) + (1 : Int32)) n c.toNatClampNeg).2.2.2.2.2.2.2.2.1 (f_X7_paidBy om_s om_reaches om_ringOf om_rungOf om_rings om_paid om_leftOf om_ringPaid om_mosts ((om_s 1) + (1 : Int32)) n c.toNatClampNeg).2.2.2.2.2.2.2.2.2.2 (om_s 1) n c.toNatClampNeg).2)
set_option maxHeartbeats 4000000 in
set_option maxRecDepth 100000 in
theorem c_X7_more (l : Launch) (D : va_G) (cy : Nat → ClassId) (om : Nat → Nat) (om_thrown : Int32) (om_s : Nat → Int32) (om_kept : Nat → Int32) (om_aside : Nat → Int32) (om_isKept : Int32) (om_reaches : Nat → Int32) (om_ringOf : Nat → Int32) (om_rungOf : Nat → Int32) (om_rings : Nat → Int32) (om_paid : Nat → Int32) (om_leftOf : Nat → Int32) (om_ringPaid : Nat → Int32) (om_paidAll : Int32) (om_mosts : Nat → Int32) (om_text : Nat → Int32) (om_signs : Int32) (om_at : Int32) (om_isWrong : Int32) (om_clauses : Int32) (om_letters : Nat → Int32) (om_one : Nat → Int32) (om_two : Nat → Int32) (om_three : Nat → Int32) (om_whys : Nat → Int32) (om_backs : Nat → Int32) (om_sorts : Nat → Int32) (om_sizes : Nat → Int32) (om_items : Nat → Int64) (c : Int32) (n : Nat) (r : Nat) (hn : n ≤ 6) (hs0 : om_s 0 = nI n) : RwL (S := (Nat → Int32) × (Nat → Int32) × (Nat → Int32) × (Nat → Int32) × Nat × (Nat → Int32) × (Nat → Int32) × (Nat → Int32) × Int32 × (Nat → Int32)) l D cy yX7_more (.code yX7_more cX7_more 3 (some .long)) 6 (wX7 cy om om_thrown om_s om_kept om_aside om_isKept om_reaches om_ringOf om_rungOf om_rings (nI r) om_paid om_leftOf om_ringPaid om_paidAll om_mosts om_text om_signs om_at om_isWrong om_clauses om_letters om_one om_two om_three om_whys om_backs om_sorts om_sizes om_items) [.ref (om 0), .int c] (fun rr u => (rr, u) = f_X7_more om_s om_reaches om_ringOf om_rungOf om_rings om_paid om_leftOf om_ringPaid om_paidAll om_mosts c n r) (fun u => wX7 cy om om_thrown om_s om_kept om_aside om_isKept u.1 u.2.1 u.2.2.1 u.2.2.2.1 (nI u.2.2.2.2.1) u.2.2.2.2.2.1 u.2.2.2.2.2.2.1 u.2.2.2.2.2.2.2.1 u.2.2.2.2.2.2.2.2.1 u.2.2.2.2.2.2.2.2.2 om_text om_signs om_at om_isWrong om_clauses om_letters om_one om_two om_three om_whys om_backs om_sorts om_sizes om_items) := by
  intro sz
  refine Met.ofW (cc := cX7_more) (maxL := 3) (ret := (some .long)) (by decide) rfl ?_
  intro pP eE s0 mM args below meth cC s₁ B hml hv
  obtain ⟨rfl, hsz, hP, hKX, hD0⟩ := hv
  have hx := B.exec
  have hb := B.bytes
  have hr := B.returns
  have hG := gw_hts (atoms_spec (ws := _) B.pre)
  have hown : s0.vm.findClass RX7 = some mM.cls := findClass_of_methodNamed B.named
  have hlocks := B.notSynchronized
  subst hsz
  have hD := hD0.self (sz := s0.heap.size)
  generalize hAe : va_A (wX7 cy om om_thrown om_s om_kept om_aside om_isKept om_reaches om_ringOf om_rungOf om_rings (nI r) om_paid om_leftOf om_ringPaid om_paidAll om_mosts om_text om_signs om_at om_isWrong om_clauses om_letters om_one om_two om_three om_whys om_backs om_sorts om_sizes om_items) s0.heap.size = A at hD ⊢
  have hA : ∀ q : Nat, s0.heap.size ≤ q → A q := fun q h => by rw [← hAe]; exact Or.inr h
  have hS : va_S A s0.heap s0.heap [] := va_S.rf
  have hl := lv_entry ([.ref (om 0), .int c]) (n := 3) (Nat.le_of_ble_eq_true rfl)
  rw [lg_entry_eq]
  generalize (lg_sl ([.ref (om 0), .int c]) ++ List.replicate (3 - (lg_sl ([.ref (om 0), .int c])).length) Slot.unset).toArray = ls at hl ⊢
  have hl : lv_has ls 3 [(0, .ref (om 0)), (1, .int c)] := hl
  refine lv_aload_n hx hb dX7_more_0 rfl (lv_at hl 0 rfl) ?_
  refine lv_iload_n hx hb dX7_more_1 rfl (lv_at hl 1 rfl) ?_
  refine cRoV (q0 := 0) (ci := 7) mw8_2 mw8_3 mw8_4 mw1_5 mw8_5 rfl rfl hd_X7_isOne hx hb hml hown hG hKX (c_X7_isOne l D cy om om_thrown om_s om_kept om_aside om_isKept om_reaches om_ringOf om_rungOf om_rings (nI r) om_paid om_leftOf om_ringPaid om_paidAll om_mosts om_text om_signs om_at om_isWrong om_clauses om_letters om_one om_two om_three om_whys om_backs om_sorts om_sizes om_items c n hn hs0) ⟨Nat.le_of_ble_eq_true rfl, Nat.le_of_ble_eq_true rfl⟩ ⟨Nat.zero_le _, Nat.zero_le _⟩ hP rfl rfl hl.1 rfl (Nat.le_of_ble_eq_true rfl) dX7_more_2 ?_
  refine lv_if_ne (tgt := 12) hx hb dX7_more_5 (by decide) (fun c1 => ?_) (fun c1 => ?_)
  · obtain ⟨j5, hj5, hlj5, rfl⟩ := isO_of (by omega) c1
    refine lv_aload_n hx hb dX7_more_12 rfl (lv_at hl 0 rfl) ?_
    refine lv_iload_n hx hb dX7_more_13 rfl (lv_at hl 1 rfl) ?_
    refine lv_aload_n hx hb dX7_more_14 rfl (lv_at hl 0 rfl) ?_
    refine gf_X7_15 hx hb hG hown hKX hP 0 rfl rfl dX7_more_15 ?_
    refine lv_iconst (v := (1 : Int32)) hx hb dX7_more_18 (by decide) ?_
    refine iald_n hx hb hKX hP 1 rfl rfl (by decide) (by decide) dX7_more_19 ?_
    refine lv_iconst (v := (1 : Int32)) hx hb dX7_more_20 (by decide) ?_
    refine lv_iadd hx hb dX7_more_21 ?_
    refine cRwV (q0 := 0) (ci := 7) mw25_11 mw25_12 mw25_13 mw1_5 mw25_14 rfl rfl hd_X7_paidBy hx hb hml hown hG hKX (c_X7_paidBy l D cy om om_thrown om_s om_kept om_aside om_isKept om_reaches om_ringOf om_rungOf om_rings om_paid om_leftOf om_ringPaid om_paidAll om_mosts om_text om_signs om_at om_isWrong om_clauses om_letters om_one om_two om_three om_whys om_backs om_sorts om_sizes om_items ((om_s 1) + (1 : Int32)) n r j5 hn hs0 hlj5) ⟨Nat.le_of_ble_eq_true rfl, Nat.le_of_ble_eq_true rfl⟩ ⟨Nat.zero_le _, Nat.zero_le _⟩ hP hD hS hA [0, 1, 2, 3, 4, 5, 6, 7, 8, 9, 10, 11, 12, 13, 14, 15, 16, 17, 18, 19, 20, 21] [] [0, 1, 2, 3, 4, 5, 6, 7, 8, 9, 10, 11, 12, 13, 14, 15, 16, 17, 18, 19, 20, 21] (wr := []) (wn := fun u22 => wX7 cy om om_thrown om_s om_kept om_aside om_isKept u22.1 u22.2.1 u22.2.2.1 u22.2.2.2.1 (nI u22.2.2.2.2.1) u22.2.2.2.2.2.1 u22.2.2.2.2.2.2.1 u22.2.2.2.2.2.2.2.1 u22.2.2.2.2.2.2.2.2.1 u22.2.2.2.2.2.2.2.2.2 om_text om_signs om_at om_isWrong om_clauses om_letters om_one om_two om_three om_whys om_backs om_sorts om_sizes om_items) rfl (by decide) rfl (by decide) (by decide) (fun _ => rfl) (by decide) rfl rfl hl.1 rfl (Nat.le_of_ble_eq_true rfl) dX7_more_22 (fun r22 u22 H locs hw22 hP hD hS => ?_)
    refine lv_istore_n (lv' := [(2, .int r22), (0, .ref (om 0)), (1, .int (nI j5))]) hx hb dX7_more_25 rfl hl (by decide) rfl (fun ls hl => ?_)
    refine lv_iload_n hx hb dX7_more_26 rfl (lv_at hl 0 rfl) ?_
    refine lv_i2l (v := ((r22).toInt64)) hx hb dX7_more_27 rfl ?_
    refine lv_aload_n hx hb dX7_more_28 rfl (lv_at hl 1 rfl) ?_
    refine lv_iload_n hx hb dX7_more_29 rfl (lv_at hl 2 rfl) ?_
    refine lv_aload_n hx hb dX7_more_30 rfl (lv_at hl 1 rfl) ?_
    refine gf_X7_15 hx hb hG hown hKX hP 0 rfl rfl dX7_more_31 ?_
    refine lv_iconst (v := (1 : Int32)) hx hb dX7_more_34 (by decide) ?_
    refine iald_n hx hb hKX hP 1 rfl rfl (by decide) (by decide) dX7_more_35 ?_
    refine cRwV (q0 := 0) (ci := 7) mw25_11 mw25_12 mw25_13 mw1_5 mw25_14 rfl rfl hd_X7_paidBy hx hb hml hown hG hKX (c_X7_paidBy l D cy om om_thrown om_s om_kept om_aside om_isKept u22.1 u22.2.1 u22.2.2.1 u22.2.2.2.1 u22.2.2.2.2.2.1 u22.2.2.2.2.2.2.1 u22.2.2.2.2.2.2.2.1 u22.2.2.2.2.2.2.2.2.1 u22.2.2.2.2.2.2.2.2.2 om_text om_signs om_at om_isWrong om_clauses om_letters om_one om_two om_three om_whys om_backs om_sorts om_sizes om_items (om_s 1) n u22.2.2.2.2.1 j5 hn hs0 hlj5) ⟨Nat.le_of_ble_eq_true rfl, Nat.le_of_ble_eq_true rfl⟩ ⟨Nat.zero_le _, Nat.zero_le _⟩ hP hD hS hA [0, 1, 2, 3, 4, 5, 6, 7, 8, 9, 10, 11, 12, 13, 14, 15, 16, 17, 18, 19, 20, 21] [] [0, 1, 2, 3, 4, 5, 6, 7, 8, 9, 10, 11, 12, 13, 14, 15, 16, 17, 18, 19, 20, 21] (wr := []) (wn := fun u36 => wX7 cy om om_thrown om_s om_kept om_aside om_isKept u36.1 u36.2.1 u36.2.2.1 u36.2.2.2.1 (nI u36.2.2.2.2.1) u36.2.2.2.2.2.1 u36.2.2.2.2.2.2.1 u36.2.2.2.2.2.2.2.1 u36.2.2.2.2.2.2.2.2.1 u36.2.2.2.2.2.2.2.2.2 om_text om_signs om_at om_isWrong om_clauses om_letters om_one om_two om_three om_whys om_backs om_sorts om_sizes om_items) rfl (by decide) rfl (by decide) (by decide) (fun _ => rfl) (by decide) rfl rfl hl.1 rfl (Nat.le_of_ble_eq_true rfl) dX7_more_36 (fun r36 u36 H locs hw36 hP hD hS => ?_)
    refine lv_i2l (v := ((r36).toInt64)) hx hb dX7_more_39 rfl ?_
    refine lv_lsub hx hb dX7_more_40 ?_
    exact W.lret (v := (((r22).toInt64) - ((r36).toInt64))) hx hb hr (fun t ht hW => ⟨⟨(((r22).toInt64) - ((r36).toInt64)), u36, rfl, by obtain rfl := congrArg Prod.fst hw36; obtain rfl := congrArg Prod.snd hw36; obtain rfl := congrArg Prod.fst hw22; obtain rfl := congrArg Prod.snd hw22; unfold f_X7_more; (try simp only [hj5]); rw [if_neg c1] <;> rfl, by rw [ht]; exact hP, hD⟩, hS.F ht⟩) hS.2.2 dX7_more_41
  · refine lv_ldc2 (v := (-9223372036854775808 : Int64)) hx hb hown (hG _ mw25_10) dX7_more_8 ?_
    exact W.lret (v := (-9223372036854775808 : Int64)) hx hb hr (fun t ht hW => ⟨⟨(-9223372036854775808 : Int64), (om_reaches, om_ringOf, om_rungOf, om_rings, r, om_paid, om_leftOf, om_ringPaid, om_paidAll, om_mosts), rfl, by unfold f_X7_more; rw [if_pos c1] <;> rfl, by rw [ht]; exact hP, hD⟩, hS.F ht⟩) hS.2.2 dX7_more_11
def bd_X7_from_12 (om_s : Nat → Int32) (n : Nat) (j5 : Nat) (k12 : Nat) (z12 : (Nat → Int32) × (Nat → Int32) × (Nat → Int32) × (Nat → Int32) × Nat × (Nat → Int32) × (Nat → Int32) × (Nat → Int32) × Int32 × (Nat → Int32)) : ((Nat → Int32) × (Nat → Int32) × (Nat → Int32) × (Nat → Int32) × Nat × (Nat → Int32) × (Nat → Int32) × (Nat → Int32) × Int32 × (Nat → Int32)) ⊕ (Int32 × (Nat → Int32) × (Nat → Int32) × (Nat → Int32) × (Nat → Int32) × Nat × (Nat → Int32) × (Nat → Int32) × (Nat → Int32) × Int32 × (Nat → Int32)) :=
  if (f_X7_paidBy om_s z12.1 z12.2.1 z12.2.2.1 z12.2.2.2.1 z12.2.2.2.2.2.1 z12.2.2.2.2.2.2.1 z12.2.2.2.2.2.2.2.1 z12.2.2.2.2.2.2.2.2.2 (nI k12) n j5).1 ≤ (0 : Int32) then (.inl ((f_X7_paidBy om_s z12.1 z12.2.1 z12.2.2.1 z12.2.2.2.1 z12.2.2.2.2.2.1 z12.2.2.2.2.2.2.1 z12.2.2.2.2.2.2.2.1 z12.2.2.2.2.2.2.2.2.2 (nI k12) n j5).2)) else (.inr (nI k12, (f_X7_paidBy om_s z12.1 z12.2.1 z12.2.2.1 z12.2.2.2.1 z12.2.2.2.2.2.1 z12.2.2.2.2.2.2.1 z12.2.2.2.2.2.2.2.1 z12.2.2.2.2.2.2.2.2.2 (nI k12) n j5).2))
def f_X7_from (om_s : Nat → Int32) (om_reaches : Nat → Int32) (om_ringOf : Nat → Int32) (om_rungOf : Nat → Int32) (om_rings : Nat → Int32) (om_paid : Nat → Int32) (om_leftOf : Nat → Int32) (om_ringPaid : Nat → Int32) (om_paidAll : Int32) (om_mosts : Nat → Int32) (c : Int32) (n : Nat) (r : Nat) : Int32 × (Nat → Int32) × (Nat → Int32) × (Nat → Int32) × (Nat → Int32) × Nat × (Nat → Int32) × (Nat → Int32) × (Nat → Int32) × Int32 × (Nat → Int32) :=
  if (f_X7_isOne c n) = (0 : Int32) then ((-1 : Int32), (om_reaches, om_ringOf, om_rungOf, om_rings, r, om_paid, om_leftOf, om_ringPaid, om_paidAll, om_mosts)) else (match itE (bd_X7_from_12 om_s n c.toNatClampNeg) 301 (om_reaches, om_ringOf, om_rungOf, om_rings, r, om_paid, om_leftOf, om_ringPaid, om_paidAll, om_mosts) with | .inl z12 => ((-5 : Int32), z12) | .inr r => r)
set_option maxHeartbeats 4000000 in
set_option maxRecDepth 100000 in
theorem c_X7_from (l : Launch) (D : va_G) (cy : Nat → ClassId) (om : Nat → Nat) (om_thrown : Int32) (om_s : Nat → Int32) (om_kept : Nat → Int32) (om_aside : Nat → Int32) (om_isKept : Int32) (om_reaches : Nat → Int32) (om_ringOf : Nat → Int32) (om_rungOf : Nat → Int32) (om_rings : Nat → Int32) (om_paid : Nat → Int32) (om_leftOf : Nat → Int32) (om_ringPaid : Nat → Int32) (om_paidAll : Int32) (om_mosts : Nat → Int32) (om_text : Nat → Int32) (om_signs : Int32) (om_at : Int32) (om_isWrong : Int32) (om_clauses : Int32) (om_letters : Nat → Int32) (om_one : Nat → Int32) (om_two : Nat → Int32) (om_three : Nat → Int32) (om_whys : Nat → Int32) (om_backs : Nat → Int32) (om_sorts : Nat → Int32) (om_sizes : Nat → Int32) (om_items : Nat → Int64) (c : Int32) (n : Nat) (r : Nat) (hn : n ≤ 6) (hs0 : om_s 0 = nI n) : RwI (S := (Nat → Int32) × (Nat → Int32) × (Nat → Int32) × (Nat → Int32) × Nat × (Nat → Int32) × (Nat → Int32) × (Nat → Int32) × Int32 × (Nat → Int32)) l D cy yX7_from (.code yX7_from cX7_from 3 (some .int)) 6 (wX7 cy om om_thrown om_s om_kept om_aside om_isKept om_reaches om_ringOf om_rungOf om_rings (nI r) om_paid om_leftOf om_ringPaid om_paidAll om_mosts om_text om_signs om_at om_isWrong om_clauses om_letters om_one om_two om_three om_whys om_backs om_sorts om_sizes om_items) [.ref (om 0), .int c] (fun rr u => (rr, u) = f_X7_from om_s om_reaches om_ringOf om_rungOf om_rings om_paid om_leftOf om_ringPaid om_paidAll om_mosts c n r) (fun u => wX7 cy om om_thrown om_s om_kept om_aside om_isKept u.1 u.2.1 u.2.2.1 u.2.2.2.1 (nI u.2.2.2.2.1) u.2.2.2.2.2.1 u.2.2.2.2.2.2.1 u.2.2.2.2.2.2.2.1 u.2.2.2.2.2.2.2.2.1 u.2.2.2.2.2.2.2.2.2 om_text om_signs om_at om_isWrong om_clauses om_letters om_one om_two om_three om_whys om_backs om_sorts om_sizes om_items) := by
  intro sz
  refine Met.ofW (cc := cX7_from) (maxL := 3) (ret := (some .int)) (by decide) rfl ?_
  intro pP eE s0 mM args below meth cC s₁ B hml hv
  obtain ⟨rfl, hsz, hP, hKX, hD0⟩ := hv
  have hx := B.exec
  have hb := B.bytes
  have hr := B.returns
  have hG := gw_hts (atoms_spec (ws := _) B.pre)
  have hown : s0.vm.findClass RX7 = some mM.cls := findClass_of_methodNamed B.named
  have hlocks := B.notSynchronized
  subst hsz
  have hD := hD0.self (sz := s0.heap.size)
  generalize hAe : va_A (wX7 cy om om_thrown om_s om_kept om_aside om_isKept om_reaches om_ringOf om_rungOf om_rings (nI r) om_paid om_leftOf om_ringPaid om_paidAll om_mosts om_text om_signs om_at om_isWrong om_clauses om_letters om_one om_two om_three om_whys om_backs om_sorts om_sizes om_items) s0.heap.size = A at hD ⊢
  have hA : ∀ q : Nat, s0.heap.size ≤ q → A q := fun q h => by rw [← hAe]; exact Or.inr h
  have hS : va_S A s0.heap s0.heap [] := va_S.rf
  have hl := lv_entry ([.ref (om 0), .int c]) (n := 3) (Nat.le_of_ble_eq_true rfl)
  rw [lg_entry_eq]
  generalize (lg_sl ([.ref (om 0), .int c]) ++ List.replicate (3 - (lg_sl ([.ref (om 0), .int c])).length) Slot.unset).toArray = ls at hl ⊢
  have hl : lv_has ls 3 [(0, .ref (om 0)), (1, .int c)] := hl
  refine lv_aload_n hx hb dX7_from_0 rfl (lv_at hl 0 rfl) ?_
  refine lv_iload_n hx hb dX7_from_1 rfl (lv_at hl 1 rfl) ?_
  refine cRoV (q0 := 0) (ci := 7) mw8_2 mw8_3 mw8_4 mw1_5 mw8_5 rfl rfl hd_X7_isOne hx hb hml hown hG hKX (c_X7_isOne l D cy om om_thrown om_s om_kept om_aside om_isKept om_reaches om_ringOf om_rungOf om_rings (nI r) om_paid om_leftOf om_ringPaid om_paidAll om_mosts om_text om_signs om_at om_isWrong om_clauses om_letters om_one om_two om_three om_whys om_backs om_sorts om_sizes om_items c n hn hs0) ⟨Nat.le_of_ble_eq_true rfl, Nat.le_of_ble_eq_true rfl⟩ ⟨Nat.zero_le _, Nat.zero_le _⟩ hP rfl rfl hl.1 rfl (Nat.le_of_ble_eq_true rfl) dX7_from_2 ?_
  refine lv_if_ne (tgt := 10) hx hb dX7_from_5 (by decide) (fun c1 => ?_) (fun c1 => ?_)
  · obtain ⟨j5, hj5, hlj5, rfl⟩ := isO_of (by omega) c1
    refine lv_iconst (v := (0 : Int32)) hx hb dX7_from_10 (by decide) ?_
    refine lv_istore_n (lv' := [(2, .int (0 : Int32)), (0, .ref (om 0)), (1, .int (nI j5))]) hx hb dX7_from_11 rfl hl (by decide) rfl (fun ls hl => ?_)
    refine loopE (bd_X7_from_12 om_s n j5) (om_reaches, om_ringOf, om_rungOf, om_rings, r, om_paid, om_leftOf, om_ringPaid, om_paidAll, om_mosts) 301 (fun k12 z12 => [(2, .int (nI k12)), (0, .ref (om 0)), (1, .int (nI j5))]) (fun k12 z12 => wX7 cy om om_thrown om_s om_kept om_aside om_isKept z12.1 z12.2.1 z12.2.2.1 z12.2.2.2.1 (nI z12.2.2.2.2.1) z12.2.2.2.2.2.1 z12.2.2.2.2.2.2.1 z12.2.2.2.2.2.2.2.1 z12.2.2.2.2.2.2.2.2.1 z12.2.2.2.2.2.2.2.2.2 om_text om_signs om_at om_isWrong om_clauses om_letters om_one om_two om_three om_whys om_backs om_sorts om_sizes om_items) hP hD hS (lv_sub hl [0, 1, 2] rfl) (fun k12 z12 H locs ls hk12 hz12 hP hD hS hl ih12 => ?_)
    refine lv_iload_n hx hb dX7_from_12 rfl (lv_at hl 0 rfl) ?_
    refine lv_sipush (v := (300 : Int32)) hx hb dX7_from_13 (by decide) ?_
    refine lv_icmp_gt (tgt := 36) hx hb dX7_from_16 (by decide) (fun c2 => ?_) (fun c2 => ?_)
    · have e_k12 : 301 = k12 := Nat.le_antisymm ((gt_n (M := 300) (k := k12) (by omega) (by omega)).mp c2) hk12
      subst e_k12
      refine lv_bipush (v := (-5 : Int32)) hx hb dX7_from_36 (by decide) ?_
      exact W.iret (v := (-5 : Int32)) hx hb hr (fun t ht hW => ⟨⟨(-5 : Int32), z12, rfl, by unfold f_X7_from; (try simp only [hj5]); rw [if_neg c1]; rw [hz12] <;> (try dsimp only) <;> rfl, by rw [ht]; exact hP, hD⟩, hS.F ht⟩) hS.2.2 dX7_from_38
    · have hlt12 : k12 < 301 := Nat.lt_of_not_le (fun qq_ => c2 ((gt_n (M := 300) (k := k12) (by omega) (by omega)).mpr qq_))
      refine lv_aload_n hx hb dX7_from_19 rfl (lv_at hl 1 rfl) ?_
      refine lv_iload_n hx hb dX7_from_20 rfl (lv_at hl 2 rfl) ?_
      refine lv_iload_n hx hb dX7_from_21 rfl (lv_at hl 0 rfl) ?_
      refine cRwV (q0 := 0) (ci := 7) mw25_11 mw25_12 mw25_13 mw1_5 mw25_14 rfl rfl hd_X7_paidBy hx hb hml hown hG hKX (c_X7_paidBy l D cy om om_thrown om_s om_kept om_aside om_isKept z12.1 z12.2.1 z12.2.2.1 z12.2.2.2.1 z12.2.2.2.2.2.1 z12.2.2.2.2.2.2.1 z12.2.2.2.2.2.2.2.1 z12.2.2.2.2.2.2.2.2.1 z12.2.2.2.2.2.2.2.2.2 om_text om_signs om_at om_isWrong om_clauses om_letters om_one om_two om_three om_whys om_backs om_sorts om_sizes om_items (nI k12) n z12.2.2.2.2.1 j5 hn hs0 hlj5) ⟨Nat.le_of_ble_eq_true rfl, Nat.le_of_ble_eq_true rfl⟩ ⟨Nat.zero_le _, Nat.zero_le _⟩ hP hD hS hA [0, 1, 2, 3, 4, 5, 6, 7, 8, 9, 10, 11, 12, 13, 14, 15, 16, 17, 18, 19, 20, 21] [] [0, 1, 2, 3, 4, 5, 6, 7, 8, 9, 10, 11, 12, 13, 14, 15, 16, 17, 18, 19, 20, 21] (wr := []) (wn := fun u22 => wX7 cy om om_thrown om_s om_kept om_aside om_isKept u22.1 u22.2.1 u22.2.2.1 u22.2.2.2.1 (nI u22.2.2.2.2.1) u22.2.2.2.2.2.1 u22.2.2.2.2.2.2.1 u22.2.2.2.2.2.2.2.1 u22.2.2.2.2.2.2.2.2.1 u22.2.2.2.2.2.2.2.2.2 om_text om_signs om_at om_isWrong om_clauses om_letters om_one om_two om_three om_whys om_backs om_sorts om_sizes om_items) rfl (by decide) rfl (by decide) (by decide) (fun _ => rfl) (by decide) rfl rfl hl.1 rfl (Nat.le_of_ble_eq_true rfl) dX7_from_22 (fun r22 u22 H locs hw22 hP hD hS => ?_)
      refine lv_if_le (tgt := 30) hx hb dX7_from_25 (by decide) (fun c3 => ?_) (fun c3 => ?_)
      · refine lv_iinc (v := nI (k12 + 1)) (lv' := [(2, .int (nI (k12 + 1))), (0, .ref (om 0)), (1, .int (nI j5))]) hx hb dX7_from_30 hl (k := 0) rfl (nI_1 _) (by decide) rfl (fun ls hl => ?_)
        refine lv_goto (tgt := 12) hx hb dX7_from_33 (by decide) ?_
        exact ih12 u22 _ _ _ hlt12 (by obtain rfl := congrArg Prod.fst hw22; obtain rfl := congrArg Prod.snd hw22; unfold bd_X7_from_12; (try simp only [hj5]); rw [if_pos c3] <;> rfl) hP hD hS (lv_sub hl [0, 1, 2] rfl)
      · refine lv_iload_n hx hb dX7_from_28 rfl (lv_at hl 0 rfl) ?_
        exact W.iret (v := nI k12) hx hb hr (fun t ht hW => ⟨⟨nI k12, u22, rfl, by obtain rfl := congrArg Prod.fst hw22; obtain rfl := congrArg Prod.snd hw22; unfold f_X7_from; (try simp only [hj5]); rw [if_neg c1, itE_end (r := (nI k12, (f_X7_paidBy om_s z12.1 z12.2.1 z12.2.2.1 z12.2.2.2.1 z12.2.2.2.2.2.1 z12.2.2.2.2.2.2.1 z12.2.2.2.2.2.2.2.1 z12.2.2.2.2.2.2.2.2.2 (nI k12) n j5).2)) hz12 hlt12 (by unfold bd_X7_from_12; (try simp only [hj5]); rw [if_neg c3] <;> rfl)] <;> rfl, by rw [ht]; exact hP, hD⟩, hS.F ht⟩) hS.2.2 dX7_from_29
  · refine lv_iconst (v := (-1 : Int32)) hx hb dX7_from_8 (by decide) ?_
    exact W.iret (v := (-1 : Int32)) hx hb hr (fun t ht hW => ⟨⟨(-1 : Int32), (om_reaches, om_ringOf, om_rungOf, om_rings, r, om_paid, om_leftOf, om_ringPaid, om_paidAll, om_mosts), rfl, by unfold f_X7_from; rw [if_pos c1] <;> rfl, by rw [ht]; exact hP, hD⟩, hS.F ht⟩) hS.2.2 dX7_from_9
def bd_X7_fitsBy_27 (om_s : Nat → Int32) (sc : Nat → Nat) (u15 : (Nat → Int32) × (Nat → Int32) × (Nat → Int32) × (Nat → Int32) × Nat × (Nat → Int32) × (Nat → Int32) × (Nat → Int32) × Int32 × (Nat → Int32)) (k27 : Nat) : Option (Int32 × (Nat → Int32) × (Nat → Int32) × (Nat → Int32) × (Nat → Int32) × Nat × (Nat → Int32) × (Nat → Int32) × (Nat → Int32) × Int32 × (Nat → Int32)) :=
  if (u15.2.2.2.2.2.1 (sc k27)) = (om_s (40 + k27)) then none else (some ((0 : Int32), u15))
def f_X7_fitsBy (om_s : Nat → Int32) (om_reaches : Nat → Int32) (om_ringOf : Nat → Int32) (om_rungOf : Nat → Int32) (om_rings : Nat → Int32) (om_paid : Nat → Int32) (om_leftOf : Nat → Int32) (om_ringPaid : Nat → Int32) (om_mosts : Nat → Int32) (v : Int32) (n : Nat) (q : Nat) (sc : Nat → Nat) : Int32 × (Nat → Int32) × (Nat → Int32) × (Nat → Int32) × (Nat → Int32) × Nat × (Nat → Int32) × (Nat → Int32) × (Nat → Int32) × Int32 × (Nat → Int32) :=
  (srch (bd_X7_fitsBy_27 om_s sc (f_X7_pay (upd om_s 1 v) om_reaches om_ringOf om_rungOf om_rings om_paid om_leftOf om_ringPaid om_mosts n)) q 0).getD ((1 : Int32), (f_X7_pay (upd om_s 1 v) om_reaches om_ringOf om_rungOf om_rings om_paid om_leftOf om_ringPaid om_mosts n))
set_option maxHeartbeats 4000000 in
set_option maxRecDepth 100000 in
theorem c_X7_fitsBy (l : Launch) (D : va_G) (cy : Nat → ClassId) (om : Nat → Nat) (om_thrown : Int32) (om_s : Nat → Int32) (om_kept : Nat → Int32) (om_aside : Nat → Int32) (om_isKept : Int32) (om_reaches : Nat → Int32) (om_ringOf : Nat → Int32) (om_rungOf : Nat → Int32) (om_rings : Nat → Int32) (om_paid : Nat → Int32) (om_leftOf : Nat → Int32) (om_ringPaid : Nat → Int32) (om_paidAll : Int32) (om_mosts : Nat → Int32) (om_text : Nat → Int32) (om_signs : Int32) (om_at : Int32) (om_isWrong : Int32) (om_clauses : Int32) (om_letters : Nat → Int32) (om_one : Nat → Int32) (om_two : Nat → Int32) (om_three : Nat → Int32) (om_whys : Nat → Int32) (om_backs : Nat → Int32) (om_sorts : Nat → Int32) (om_sizes : Nat → Int32) (om_items : Nat → Int64) (v : Int32) (n : Nat) (r : Nat) (q : Nat) (sc : Nat → Nat) (hn : n ≤ 6) (hs0 : om_s 0 = nI n) (hs2 : om_s 2 = nI q) (hq : q ≤ 5) (hse : ∀ k, k < q → om_s (35 + k) = nI (sc k) ∧ sc k < 6) : RwI (S := (Nat → Int32) × (Nat → Int32) × (Nat → Int32) × (Nat → Int32) × Nat × (Nat → Int32) × (Nat → Int32) × (Nat → Int32) × Int32 × (Nat → Int32)) l D cy yX7_fitsBy (.code yX7_fitsBy cX7_fitsBy 4 (some .boolean)) 5 (wX7 cy om om_thrown om_s om_kept om_aside om_isKept om_reaches om_ringOf om_rungOf om_rings (nI r) om_paid om_leftOf om_ringPaid om_paidAll om_mosts om_text om_signs om_at om_isWrong om_clauses om_letters om_one om_two om_three om_whys om_backs om_sorts om_sizes om_items) [.ref (om 0), .int v] (fun rr u => (rr, u) = f_X7_fitsBy om_s om_reaches om_ringOf om_rungOf om_rings om_paid om_leftOf om_ringPaid om_mosts v n q sc) (fun u => wX7 cy om om_thrown om_s om_kept om_aside om_isKept u.1 u.2.1 u.2.2.1 u.2.2.2.1 (nI u.2.2.2.2.1) u.2.2.2.2.2.1 u.2.2.2.2.2.2.1 u.2.2.2.2.2.2.2.1 u.2.2.2.2.2.2.2.2.1 u.2.2.2.2.2.2.2.2.2 om_text om_signs om_at om_isWrong om_clauses om_letters om_one om_two om_three om_whys om_backs om_sorts om_sizes om_items) := by
  intro sz
  refine Met.ofW (cc := cX7_fitsBy) (maxL := 4) (ret := (some .boolean)) (by decide) rfl ?_
  intro pP eE s0 mM args below meth cC s₁ B hml hv
  obtain ⟨rfl, hsz, hP, hKX, hD0⟩ := hv
  have hx := B.exec
  have hb := B.bytes
  have hr := B.returns
  have hG := gw_hts (atoms_spec (ws := _) B.pre)
  have hown : s0.vm.findClass RX7 = some mM.cls := findClass_of_methodNamed B.named
  have hlocks := B.notSynchronized
  subst hsz
  have hD := hD0.self (sz := s0.heap.size)
  generalize hAe : va_A (wX7 cy om om_thrown om_s om_kept om_aside om_isKept om_reaches om_ringOf om_rungOf om_rings (nI r) om_paid om_leftOf om_ringPaid om_paidAll om_mosts om_text om_signs om_at om_isWrong om_clauses om_letters om_one om_two om_three om_whys om_backs om_sorts om_sizes om_items) s0.heap.size = A at hD ⊢
  have hA : ∀ q : Nat, s0.heap.size ≤ q → A q := fun q h => by rw [← hAe]; exact Or.inr h
  have hS : va_S A s0.heap s0.heap [] := va_S.rf
  have hl := lv_entry ([.ref (om 0), .int v]) (n := 4) (Nat.le_of_ble_eq_true rfl)
  rw [lg_entry_eq]
  generalize (lg_sl ([.ref (om 0), .int v]) ++ List.replicate (4 - (lg_sl ([.ref (om 0), .int v])).length) Slot.unset).toArray = ls at hl ⊢
  have hl : lv_has ls 4 [(0, .ref (om 0)), (1, .int v)] := hl
  refine lv_aload_n hx hb dX7_fitsBy_0 rfl (lv_at hl 0 rfl) ?_
  refine gf_X7_15 hx hb hG hown hKX hP 0 rfl rfl dX7_fitsBy_1 ?_
  refine lv_iconst (v := (1 : Int32)) hx hb dX7_fitsBy_4 (by decide) ?_
  refine iald_n hx hb hKX hP 1 rfl rfl (by decide) (by decide) dX7_fitsBy_5 ?_
  refine lv_istore_n (lv' := [(2, .int (om_s 1)), (0, .ref (om 0)), (1, .int v)]) hx hb dX7_fitsBy_6 rfl hl (by decide) rfl (fun ls hl => ?_)
  refine lv_aload_n hx hb dX7_fitsBy_7 rfl (lv_at hl 1 rfl) ?_
  refine gf_X7_15 hx hb hG hown hKX hP 0 rfl rfl dX7_fitsBy_8 ?_
  refine lv_iconst (v := (1 : Int32)) hx hb dX7_fitsBy_11 (by decide) ?_
  refine lv_iload_n hx hb dX7_fitsBy_12 rfl (lv_at hl 2 rfl) ?_
  refine iast_n hx hb hKX hP hD hS 1 rfl rfl (by decide) (by decide) dX7_fitsBy_13 (fun H locs hP hD hS => ?_)
  have hP : va_P D vwCl (wX7 cy om om_thrown (upd om_s 1 v) om_kept om_aside om_isKept om_reaches om_ringOf om_rungOf om_rings (nI r) om_paid om_leftOf om_ringPaid om_paidAll om_mosts om_text om_signs om_at om_isWrong om_clauses om_letters om_one om_two om_three om_whys om_backs om_sorts om_sizes om_items) H := hP
  have hD : va_D A (wX7 cy om om_thrown (upd om_s 1 v) om_kept om_aside om_isKept om_reaches om_ringOf om_rungOf om_rings (nI r) om_paid om_leftOf om_ringPaid om_paidAll om_mosts om_text om_signs om_at om_isWrong om_clauses om_letters om_one om_two om_three om_whys om_backs om_sorts om_sizes om_items) := hD
  refine lv_aload_n hx hb dX7_fitsBy_14 rfl (lv_at hl 1 rfl) ?_
  refine cRwVV (q0 := 0) (ci := 7) mw14_9 mw14_10 mw14_11 mw1_5 mw14_12 rfl rfl hd_X7_pay hx hb hml hown hG hKX (c_X7_pay l D cy om om_thrown (upd om_s 1 v) om_kept om_aside om_isKept om_reaches om_ringOf om_rungOf om_rings (nI r) om_paid om_leftOf om_ringPaid om_paidAll om_mosts om_text om_signs om_at om_isWrong om_clauses om_letters om_one om_two om_three om_whys om_backs om_sorts om_sizes om_items n hn ((pk_un (by omega)).trans hs0)) ⟨Nat.le_of_ble_eq_true rfl, Nat.le_of_ble_eq_true rfl⟩ ⟨Nat.zero_le _, Nat.zero_le _⟩ hP hD hS hA [0, 1, 2, 3, 4, 5, 6, 7, 8, 9, 10, 11, 12, 13, 14, 15, 16, 17, 18, 19, 20, 21] [] [0, 1, 2, 3, 4, 5, 6, 7, 8, 9, 10, 11, 12, 13, 14, 15, 16, 17, 18, 19, 20, 21] (wr := []) (wn := fun u15 => wX7 cy om om_thrown (upd om_s 1 v) om_kept om_aside om_isKept u15.1 u15.2.1 u15.2.2.1 u15.2.2.2.1 (nI u15.2.2.2.2.1) u15.2.2.2.2.2.1 u15.2.2.2.2.2.2.1 u15.2.2.2.2.2.2.2.1 u15.2.2.2.2.2.2.2.2.1 u15.2.2.2.2.2.2.2.2.2 om_text om_signs om_at om_isWrong om_clauses om_letters om_one om_two om_three om_whys om_backs om_sorts om_sizes om_items) rfl (by decide) rfl (by decide) (by decide) (fun _ => rfl) (by decide) rfl rfl hl.1 rfl (Nat.le_of_ble_eq_true rfl) dX7_fitsBy_15 (fun u15 H locs hw15 hP hD hS => ?_)
  refine lv_aload_n hx hb dX7_fitsBy_18 rfl (lv_at hl 1 rfl) ?_
  refine gf_X7_15 hx hb hG hown hKX hP 0 rfl rfl dX7_fitsBy_19 ?_
  refine lv_iconst (v := (1 : Int32)) hx hb dX7_fitsBy_22 (by decide) ?_
  refine lv_iload_n hx hb dX7_fitsBy_23 rfl (lv_at hl 0 rfl) ?_
  refine iast_n hx hb hKX hP hD hS 1 rfl rfl (by decide) (by decide) dX7_fitsBy_24 (fun H locs hP hD hS => ?_)
  have hP : va_P D vwCl (wX7 cy om om_thrown (upd (upd om_s 1 v) 1 (om_s 1)) om_kept om_aside om_isKept u15.1 u15.2.1 u15.2.2.1 u15.2.2.2.1 (nI u15.2.2.2.2.1) u15.2.2.2.2.2.1 u15.2.2.2.2.2.2.1 u15.2.2.2.2.2.2.2.1 u15.2.2.2.2.2.2.2.2.1 u15.2.2.2.2.2.2.2.2.2 om_text om_signs om_at om_isWrong om_clauses om_letters om_one om_two om_three om_whys om_backs om_sorts om_sizes om_items) H := hP
  have hD : va_D A (wX7 cy om om_thrown (upd (upd om_s 1 v) 1 (om_s 1)) om_kept om_aside om_isKept u15.1 u15.2.1 u15.2.2.1 u15.2.2.2.1 (nI u15.2.2.2.2.1) u15.2.2.2.2.2.1 u15.2.2.2.2.2.2.1 u15.2.2.2.2.2.2.2.1 u15.2.2.2.2.2.2.2.2.1 u15.2.2.2.2.2.2.2.2.2 om_text om_signs om_at om_isWrong om_clauses om_letters om_one om_two om_three om_whys om_backs om_sorts om_sizes om_items) := hD
  have e_back := upd_back om_s 1 v
  rw [e_back] at hP hD
  have hP : va_P D vwCl (wX7 cy om om_thrown om_s om_kept om_aside om_isKept u15.1 u15.2.1 u15.2.2.1 u15.2.2.2.1 (nI u15.2.2.2.2.1) u15.2.2.2.2.2.1 u15.2.2.2.2.2.2.1 u15.2.2.2.2.2.2.2.1 u15.2.2.2.2.2.2.2.2.1 u15.2.2.2.2.2.2.2.2.2 om_text om_signs om_at om_isWrong om_clauses om_letters om_one om_two om_three om_whys om_backs om_sorts om_sizes om_items) H := hP
  have hD : va_D A (wX7 cy om om_thrown om_s om_kept om_aside om_isKept u15.1 u15.2.1 u15.2.2.1 u15.2.2.2.1 (nI u15.2.2.2.2.1) u15.2.2.2.2.2.1 u15.2.2.2.2.2.2.1 u15.2.2.2.2.2.2.2.1 u15.2.2.2.2.2.2.2.2.1 u15.2.2.2.2.2.2.2.2.2 om_text om_signs om_at om_isWrong om_clauses om_letters om_one om_two om_three om_whys om_backs om_sorts om_sizes om_items) := hD
  refine lv_iconst (v := (0 : Int32)) hx hb dX7_fitsBy_25 (by decide) ?_
  refine lv_istore_n (lv' := [(3, .int (0 : Int32)), (2, .int (om_s 1)), (0, .ref (om 0)), (1, .int v)]) hx hb dX7_fitsBy_26 rfl hl (by decide) rfl (fun ls hl => ?_)
  refine loopS (bd_X7_fitsBy_27 om_s sc u15) q (fun k27 => [(3, .int (nI k27)), (2, .int (om_s 1)), (0, .ref (om 0)), (1, .int v)]) (lv_sub hl [0, 1, 2, 3] rfl) (fun k27 ls hk27 hz27 hl ih27 => ?_)
  refine lv_iload_n hx hb dX7_fitsBy_27 rfl (lv_at hl 0 rfl) ?_
  refine lv_aload_n hx hb dX7_fitsBy_28 rfl (lv_at hl 2 rfl) ?_
  refine gf_X7_15 hx hb hG hown hKX hP 0 rfl rfl dX7_fitsBy_29 ?_
  refine lv_iconst (v := (2 : Int32)) hx hb dX7_fitsBy_32 (by decide) ?_
  refine iald_v hx hb hKX hP 1 rfl rfl (by decide) (by decide) hs2 dX7_fitsBy_33 ?_
  refine lv_icmp_ge (tgt := 71) hx hb dX7_fitsBy_34 (by decide) (fun c1 => ?_) (fun c1 => ?_)
  · have e_k27 : q = k27 := Nat.le_antisymm ((le_n (N := q) (k := k27) rfl (by omega) (by omega)).mp c1) hk27
    subst e_k27
    refine lv_iconst (v := (1 : Int32)) hx hb dX7_fitsBy_71 (by decide) ?_
    exact W.zret (v := (1 : Int32)) hx hb hr rfl (fun t ht hW => ⟨⟨(1 : Int32), u15, rfl, by subst hw15; unfold f_X7_fitsBy; rw [srch_none hz27, Option.getD_none] <;> rfl, by rw [ht]; exact hP, hD⟩, hS.F ht⟩) hS.2.2 dX7_fitsBy_72
  · have hlt27 : k27 < q := Nat.lt_of_not_le (fun qq_ => c1 ((le_n (N := q) (k := k27) rfl (by omega) (by omega)).mpr qq_))
    refine lv_aload_n hx hb dX7_fitsBy_37 rfl (lv_at hl 2 rfl) ?_
    refine gf_X7_37 hx hb hG hown hKX hP 0 rfl rfl dX7_fitsBy_38 ?_
    refine lv_aload_n hx hb dX7_fitsBy_41 rfl (lv_at hl 2 rfl) ?_
    refine gf_X7_15 hx hb hG hown hKX hP 0 rfl rfl dX7_fitsBy_42 ?_
    refine lv_bipush (v := (35 : Int32)) hx hb dX7_fitsBy_45 (by decide) ?_
    refine lv_iload_n hx hb dX7_fitsBy_47 rfl (lv_at hl 0 rfl) ?_
    refine lv_iadd hx hb dX7_fitsBy_48 ?_
    refine topi_eq (y := nI (35 + k27)) (aN rfl rfl) ?_
    refine iald_v hx hb hKX hP 1 rfl rfl (by omega) (by decide) (hse k27 (by omega)).1 dX7_fitsBy_49 ?_
    refine iald_n hx hb hKX hP 8 rfl rfl (hse k27 (by omega)).2 (by decide) dX7_fitsBy_50 ?_
    refine lv_aload_n hx hb dX7_fitsBy_51 rfl (lv_at hl 2 rfl) ?_
    refine gf_X7_15 hx hb hG hown hKX hP 0 rfl rfl dX7_fitsBy_52 ?_
    refine lv_bipush (v := (40 : Int32)) hx hb dX7_fitsBy_55 (by decide) ?_
    refine lv_iload_n hx hb dX7_fitsBy_57 rfl (lv_at hl 0 rfl) ?_
    refine lv_iadd hx hb dX7_fitsBy_58 ?_
    refine topi_eq (y := nI (40 + k27)) (aN rfl rfl) ?_
    refine iald_n hx hb hKX hP 1 rfl rfl (by omega) (by decide) dX7_fitsBy_59 ?_
    refine lv_icmp_eq (tgt := 65) hx hb dX7_fitsBy_60 (by decide) (fun c2 => ?_) (fun c2 => ?_)
    · refine lv_iinc (v := nI (k27 + 1)) (lv' := [(3, .int (nI (k27 + 1))), (2, .int (om_s 1)), (0, .ref (om 0)), (1, .int v)]) hx hb dX7_fitsBy_65 hl (k := 0) rfl (nI_1 _) (by decide) rfl (fun ls hl => ?_)
      refine lv_goto (tgt := 27) hx hb dX7_fitsBy_68 (by decide) ?_
      exact ih27 _ hlt27 (by subst hw15; unfold bd_X7_fitsBy_27; rw [if_pos c2] <;> rfl) (lv_sub hl [0, 1, 2, 3] rfl)
    · refine lv_iconst (v := (0 : Int32)) hx hb dX7_fitsBy_63 (by decide) ?_
      exact W.zret (v := (0 : Int32)) hx hb hr rfl (fun t ht hW => ⟨⟨(0 : Int32), u15, rfl, by subst hw15; unfold f_X7_fitsBy; rw [srch_some (r := ((0 : Int32), (f_X7_pay (upd om_s 1 v) om_reaches om_ringOf om_rungOf om_rings om_paid om_leftOf om_ringPaid om_mosts n))) hz27 hlt27 (by unfold bd_X7_fitsBy_27; rw [if_neg c2] <;> rfl), Option.getD_some] <;> rfl, by rw [ht]; exact hP, hD⟩, hS.F ht⟩) hS.2.2 dX7_fitsBy_64
def bd_X7_fits_20 (om_s : Nat → Int32) (n : Nat) (q : Nat) (sc : Nat → Nat) (k20 : Nat) (z20 : Int32 × Int32 × (Nat → Int32) × (Nat → Int32) × (Nat → Int32) × (Nat → Int32) × Nat × (Nat → Int32) × (Nat → Int32) × (Nat → Int32) × Int32 × (Nat → Int32)) : Int32 × Int32 × (Nat → Int32) × (Nat → Int32) × (Nat → Int32) × (Nat → Int32) × Nat × (Nat → Int32) × (Nat → Int32) × (Nat → Int32) × Int32 × (Nat → Int32) :=
  if (f_X7_fitsBy om_s z20.2.2.1 z20.2.2.2.1 z20.2.2.2.2.1 z20.2.2.2.2.2.1 z20.2.2.2.2.2.2.2.1 z20.2.2.2.2.2.2.2.2.1 z20.2.2.2.2.2.2.2.2.2.1 z20.2.2.2.2.2.2.2.2.2.2.2 (nI k20) n q sc).1 = (0 : Int32) then (z20.1, z20.2.1, (f_X7_fitsBy om_s z20.2.2.1 z20.2.2.2.1 z20.2.2.2.2.1 z20.2.2.2.2.2.1 z20.2.2.2.2.2.2.2.1 z20.2.2.2.2.2.2.2.2.1 z20.2.2.2.2.2.2.2.2.2.1 z20.2.2.2.2.2.2.2.2.2.2.2 (nI k20) n q sc).2.1, (f_X7_fitsBy om_s z20.2.2.1 z20.2.2.2.1 z20.2.2.2.2.1 z20.2.2.2.2.2.1 z20.2.2.2.2.2.2.2.1 z20.2.2.2.2.2.2.2.2.1 z20.2.2.2.2.2.2.2.2.2.1 z20.2.2.2.2.2.2.2.2.2.2.2 (nI k20) n q sc).2.2.1, (f_X7_fitsBy om_s z20.2.2.1 z20.2.2.2.1 z20.2.2.2.2.1 z20.2.2.2.2.2.1 z20.2.2.2.2.2.2.2.1 z20.2.2.2.2.2.2.2.2.1 z20.2.2.2.2.2.2.2.2.2.1 z20.2.2.2.2.2.2.2.2.2.2.2 (nI k20) n q sc).2.2.2.1, (f_X7_fitsBy om_s z20.2.2.1 z20.2.2.2.1 z20.2.2.2.2.1 z20.2.2.2.2.2.1 z20.2.2.2.2.2.2.2.1 z20.2.2.2.2.2.2.2.2.1 z20.2.2.2.2.2.2.2.2.2.1 z20.2.2.2.2.2.2.2.2.2.2.2 (nI k20) n q sc).2.2.2.2.1, (f_X7_fitsBy om_s z20.2.2.1 z20.2.2.2.1 z20.2.2.2.2.1 z20.2.2.2.2.2.1 z20.2.2.2.2.2.2.2.1 z20.2.2.2.2.2.2.2.2.1 z20.2.2.2.2.2.2.2.2.2.1 z20.2.2.2.2.2.2.2.2.2.2.2 (nI k20) n q sc).2.2.2.2.2.1, (f_X7_fitsBy om_s z20.2.2.1 z20.2.2.2.1 z20.2.2.2.2.1 z20.2.2.2.2.2.1 z20.2.2.2.2.2.2.2.1 z20.2.2.2.2.2.2.2.2.1 z20.2.2.2.2.2.2.2.2.2.1 z20.2.2.2.2.2.2.2.2.2.2.2 (nI k20) n q sc).2.2.2.2.2.2.1, (f_X7_fitsBy om_s z20.2.2.1 z20.2.2.2.1 z20.2.2.2.2.1 z20.2.2.2.2.2.1 z20.2.2.2.2.2.2.2.1 z20.2.2.2.2.2.2.2.2.1 z20.2.2.2.2.2.2.2.2.2.1 z20.2.2.2.2.2.2.2.2.2.2.2 (nI k20) n q sc).2.2.2.2.2.2.2.1, (f_X7_fitsBy om_s z20.2.2.1 z20.2.2.2.1 z20.2.2.2.2.1 z20.2.2.2.2.2.1 z20.2.2.2.2.2.2.2.1 z20.2.2.2.2.2.2.2.2.1 z20.2.2.2.2.2.2.2.2.2.1 z20.2.2.2.2.2.2.2.2.2.2.2 (nI k20) n q sc).2.2.2.2.2.2.2.2.1, (f_X7_fitsBy om_s z20.2.2.1 z20.2.2.2.1 z20.2.2.2.2.1 z20.2.2.2.2.2.1 z20.2.2.2.2.2.2.2.1 z20.2.2.2.2.2.2.2.2.1 z20.2.2.2.2.2.2.2.2.2.1 z20.2.2.2.2.2.2.2.2.2.2.2 (nI k20) n q sc).2.2.2.2.2.2.2.2.2.1, (f_X7_fitsBy om_s z20.2.2.1 z20.2.2.2.1 z20.2.2.2.2.1 z20.2.2.2.2.2.1 z20.2.2.2.2.2.2.2.1 z20.2.2.2.2.2.2.2.2.1 z20.2.2.2.2.2.2.2.2.2.1 z20.2.2.2.2.2.2.2.2.2.2.2 (nI k20) n q sc).2.2.2.2.2.2.2.2.2.2) else (if z20.1 = (0 : Int32) then ((z20.1 + (1 : Int32)), nI k20, (f_X7_fitsBy om_s z20.2.2.1 z20.2.2.2.1 z20.2.2.2.2.1 z20.2.2.2.2.2.1 z20.2.2.2.2.2.2.2.1 z20.2.2.2.2.2.2.2.2.1 z20.2.2.2.2.2.2.2.2.2.1 z20.2.2.2.2.2.2.2.2.2.2.2 (nI k20) n q sc).2.1, (f_X7_fitsBy om_s z20.2.2.1 z20.2.2.2.1 z20.2.2.2.2.1 z20.2.2.2.2.2.1 z20.2.2.2.2.2.2.2.1 z20.2.2.2.2.2.2.2.2.1 z20.2.2.2.2.2.2.2.2.2.1 z20.2.2.2.2.2.2.2.2.2.2.2 (nI k20) n q sc).2.2.1, (f_X7_fitsBy om_s z20.2.2.1 z20.2.2.2.1 z20.2.2.2.2.1 z20.2.2.2.2.2.1 z20.2.2.2.2.2.2.2.1 z20.2.2.2.2.2.2.2.2.1 z20.2.2.2.2.2.2.2.2.2.1 z20.2.2.2.2.2.2.2.2.2.2.2 (nI k20) n q sc).2.2.2.1, (f_X7_fitsBy om_s z20.2.2.1 z20.2.2.2.1 z20.2.2.2.2.1 z20.2.2.2.2.2.1 z20.2.2.2.2.2.2.2.1 z20.2.2.2.2.2.2.2.2.1 z20.2.2.2.2.2.2.2.2.2.1 z20.2.2.2.2.2.2.2.2.2.2.2 (nI k20) n q sc).2.2.2.2.1, (f_X7_fitsBy om_s z20.2.2.1 z20.2.2.2.1 z20.2.2.2.2.1 z20.2.2.2.2.2.1 z20.2.2.2.2.2.2.2.1 z20.2.2.2.2.2.2.2.2.1 z20.2.2.2.2.2.2.2.2.2.1 z20.2.2.2.2.2.2.2.2.2.2.2 (nI k20) n q sc).2.2.2.2.2.1, (f_X7_fitsBy om_s z20.2.2.1 z20.2.2.2.1 z20.2.2.2.2.1 z20.2.2.2.2.2.1 z20.2.2.2.2.2.2.2.1 z20.2.2.2.2.2.2.2.2.1 z20.2.2.2.2.2.2.2.2.2.1 z20.2.2.2.2.2.2.2.2.2.2.2 (nI k20) n q sc).2.2.2.2.2.2.1, (f_X7_fitsBy om_s z20.2.2.1 z20.2.2.2.1 z20.2.2.2.2.1 z20.2.2.2.2.2.1 z20.2.2.2.2.2.2.2.1 z20.2.2.2.2.2.2.2.2.1 z20.2.2.2.2.2.2.2.2.2.1 z20.2.2.2.2.2.2.2.2.2.2.2 (nI k20) n q sc).2.2.2.2.2.2.2.1, (f_X7_fitsBy om_s z20.2.2.1 z20.2.2.2.1 z20.2.2.2.2.1 z20.2.2.2.2.2.1 z20.2.2.2.2.2.2.2.1 z20.2.2.2.2.2.2.2.2.1 z20.2.2.2.2.2.2.2.2.2.1 z20.2.2.2.2.2.2.2.2.2.2.2 (nI k20) n q sc).2.2.2.2.2.2.2.2.1, (f_X7_fitsBy om_s z20.2.2.1 z20.2.2.2.1 z20.2.2.2.2.1 z20.2.2.2.2.2.1 z20.2.2.2.2.2.2.2.1 z20.2.2.2.2.2.2.2.2.1 z20.2.2.2.2.2.2.2.2.2.1 z20.2.2.2.2.2.2.2.2.2.2.2 (nI k20) n q sc).2.2.2.2.2.2.2.2.2.1, (f_X7_fitsBy om_s z20.2.2.1 z20.2.2.2.1 z20.2.2.2.2.1 z20.2.2.2.2.2.1 z20.2.2.2.2.2.2.2.1 z20.2.2.2.2.2.2.2.2.1 z20.2.2.2.2.2.2.2.2.2.1 z20.2.2.2.2.2.2.2.2.2.2.2 (nI k20) n q sc).2.2.2.2.2.2.2.2.2.2) else ((z20.1 + (1 : Int32)), z20.2.1, (f_X7_fitsBy om_s z20.2.2.1 z20.2.2.2.1 z20.2.2.2.2.1 z20.2.2.2.2.2.1 z20.2.2.2.2.2.2.2.1 z20.2.2.2.2.2.2.2.2.1 z20.2.2.2.2.2.2.2.2.2.1 z20.2.2.2.2.2.2.2.2.2.2.2 (nI k20) n q sc).2.1, (f_X7_fitsBy om_s z20.2.2.1 z20.2.2.2.1 z20.2.2.2.2.1 z20.2.2.2.2.2.1 z20.2.2.2.2.2.2.2.1 z20.2.2.2.2.2.2.2.2.1 z20.2.2.2.2.2.2.2.2.2.1 z20.2.2.2.2.2.2.2.2.2.2.2 (nI k20) n q sc).2.2.1, (f_X7_fitsBy om_s z20.2.2.1 z20.2.2.2.1 z20.2.2.2.2.1 z20.2.2.2.2.2.1 z20.2.2.2.2.2.2.2.1 z20.2.2.2.2.2.2.2.2.1 z20.2.2.2.2.2.2.2.2.2.1 z20.2.2.2.2.2.2.2.2.2.2.2 (nI k20) n q sc).2.2.2.1, (f_X7_fitsBy om_s z20.2.2.1 z20.2.2.2.1 z20.2.2.2.2.1 z20.2.2.2.2.2.1 z20.2.2.2.2.2.2.2.1 z20.2.2.2.2.2.2.2.2.1 z20.2.2.2.2.2.2.2.2.2.1 z20.2.2.2.2.2.2.2.2.2.2.2 (nI k20) n q sc).2.2.2.2.1, (f_X7_fitsBy om_s z20.2.2.1 z20.2.2.2.1 z20.2.2.2.2.1 z20.2.2.2.2.2.1 z20.2.2.2.2.2.2.2.1 z20.2.2.2.2.2.2.2.2.1 z20.2.2.2.2.2.2.2.2.2.1 z20.2.2.2.2.2.2.2.2.2.2.2 (nI k20) n q sc).2.2.2.2.2.1, (f_X7_fitsBy om_s z20.2.2.1 z20.2.2.2.1 z20.2.2.2.2.1 z20.2.2.2.2.2.1 z20.2.2.2.2.2.2.2.1 z20.2.2.2.2.2.2.2.2.1 z20.2.2.2.2.2.2.2.2.2.1 z20.2.2.2.2.2.2.2.2.2.2.2 (nI k20) n q sc).2.2.2.2.2.2.1, (f_X7_fitsBy om_s z20.2.2.1 z20.2.2.2.1 z20.2.2.2.2.1 z20.2.2.2.2.2.1 z20.2.2.2.2.2.2.2.1 z20.2.2.2.2.2.2.2.2.1 z20.2.2.2.2.2.2.2.2.2.1 z20.2.2.2.2.2.2.2.2.2.2.2 (nI k20) n q sc).2.2.2.2.2.2.2.1, (f_X7_fitsBy om_s z20.2.2.1 z20.2.2.2.1 z20.2.2.2.2.1 z20.2.2.2.2.2.1 z20.2.2.2.2.2.2.2.1 z20.2.2.2.2.2.2.2.2.1 z20.2.2.2.2.2.2.2.2.2.1 z20.2.2.2.2.2.2.2.2.2.2.2 (nI k20) n q sc).2.2.2.2.2.2.2.2.1, (f_X7_fitsBy om_s z20.2.2.1 z20.2.2.2.1 z20.2.2.2.2.1 z20.2.2.2.2.2.1 z20.2.2.2.2.2.2.2.1 z20.2.2.2.2.2.2.2.2.1 z20.2.2.2.2.2.2.2.2.2.1 z20.2.2.2.2.2.2.2.2.2.2.2 (nI k20) n q sc).2.2.2.2.2.2.2.2.2.1, (f_X7_fitsBy om_s z20.2.2.1 z20.2.2.2.1 z20.2.2.2.2.1 z20.2.2.2.2.2.1 z20.2.2.2.2.2.2.2.1 z20.2.2.2.2.2.2.2.2.1 z20.2.2.2.2.2.2.2.2.2.1 z20.2.2.2.2.2.2.2.2.2.2.2 (nI k20) n q sc).2.2.2.2.2.2.2.2.2.2))
def f_X7_fits (om_s : Nat → Int32) (om_reaches : Nat → Int32) (om_ringOf : Nat → Int32) (om_rungOf : Nat → Int32) (om_rings : Nat → Int32) (om_paid : Nat → Int32) (om_leftOf : Nat → Int32) (om_ringPaid : Nat → Int32) (om_paidAll : Int32) (om_mosts : Nat → Int32) (what : Int32) (n : Nat) (r : Nat) (q : Nat) (sc : Nat → Nat) : Int32 × (Nat → Int32) × (Nat → Int32) × (Nat → Int32) × (Nat → Int32) × Nat × (Nat → Int32) × (Nat → Int32) × (Nat → Int32) × Int32 × (Nat → Int32) :=
  if (f_X7_in ((what).toInt64) (0 : Int64) (1 : Int64)) = (0 : Int32) then ((-1 : Int32), (om_reaches, om_ringOf, om_rungOf, om_rings, r, om_paid, om_leftOf, om_ringPaid, om_paidAll, om_mosts)) else (if what = (0 : Int32) then ((itr (bd_X7_fits_20 om_s n q sc) 301 ((0 : Int32), (-5 : Int32), om_reaches, om_ringOf, om_rungOf, om_rings, r, om_paid, om_leftOf, om_ringPaid, om_paidAll, om_mosts)).1, (itr (bd_X7_fits_20 om_s n q sc) 301 ((0 : Int32), (-5 : Int32), om_reaches, om_ringOf, om_rungOf, om_rings, r, om_paid, om_leftOf, om_ringPaid, om_paidAll, om_mosts)).2.2) else ((itr (bd_X7_fits_20 om_s n q sc) 301 ((0 : Int32), (-5 : Int32), om_reaches, om_ringOf, om_rungOf, om_rings, r, om_paid, om_leftOf, om_ringPaid, om_paidAll, om_mosts)).2.1, (itr (bd_X7_fits_20 om_s n q sc) 301 ((0 : Int32), (-5 : Int32), om_reaches, om_ringOf, om_rungOf, om_rings, r, om_paid, om_leftOf, om_ringPaid, om_paidAll, om_mosts)).2.2))
set_option maxHeartbeats 4000000 in
set_option maxRecDepth 100000 in
theorem c_X7_fits (l : Launch) (D : va_G) (cy : Nat → ClassId) (om : Nat → Nat) (om_thrown : Int32) (om_s : Nat → Int32) (om_kept : Nat → Int32) (om_aside : Nat → Int32) (om_isKept : Int32) (om_reaches : Nat → Int32) (om_ringOf : Nat → Int32) (om_rungOf : Nat → Int32) (om_rings : Nat → Int32) (om_paid : Nat → Int32) (om_leftOf : Nat → Int32) (om_ringPaid : Nat → Int32) (om_paidAll : Int32) (om_mosts : Nat → Int32) (om_text : Nat → Int32) (om_signs : Int32) (om_at : Int32) (om_isWrong : Int32) (om_clauses : Int32) (om_letters : Nat → Int32) (om_one : Nat → Int32) (om_two : Nat → Int32) (om_three : Nat → Int32) (om_whys : Nat → Int32) (om_backs : Nat → Int32) (om_sorts : Nat → Int32) (om_sizes : Nat → Int32) (om_items : Nat → Int64) (what : Int32) (n : Nat) (r : Nat) (q : Nat) (sc : Nat → Nat) (hn : n ≤ 6) (hs0 : om_s 0 = nI n) (hs2 : om_s 2 = nI q) (hq : q ≤ 5) (hse : ∀ k, k < q → om_s (35 + k) = nI (sc k) ∧ sc k < 6) : RwI (S := (Nat → Int32) × (Nat → Int32) × (Nat → Int32) × (Nat → Int32) × Nat × (Nat → Int32) × (Nat → Int32) × (Nat → Int32) × Int32 × (Nat → Int32)) l D cy yX7_fits (.code yX7_fits cX7_fits 5 (some .int)) 6 (wX7 cy om om_thrown om_s om_kept om_aside om_isKept om_reaches om_ringOf om_rungOf om_rings (nI r) om_paid om_leftOf om_ringPaid om_paidAll om_mosts om_text om_signs om_at om_isWrong om_clauses om_letters om_one om_two om_three om_whys om_backs om_sorts om_sizes om_items) [.ref (om 0), .int what] (fun rr u => (rr, u) = f_X7_fits om_s om_reaches om_ringOf om_rungOf om_rings om_paid om_leftOf om_ringPaid om_paidAll om_mosts what n r q sc) (fun u => wX7 cy om om_thrown om_s om_kept om_aside om_isKept u.1 u.2.1 u.2.2.1 u.2.2.2.1 (nI u.2.2.2.2.1) u.2.2.2.2.2.1 u.2.2.2.2.2.2.1 u.2.2.2.2.2.2.2.1 u.2.2.2.2.2.2.2.2.1 u.2.2.2.2.2.2.2.2.2 om_text om_signs om_at om_isWrong om_clauses om_letters om_one om_two om_three om_whys om_backs om_sorts om_sizes om_items) := by
  intro sz
  refine Met.ofW (cc := cX7_fits) (maxL := 5) (ret := (some .int)) (by decide) rfl ?_
  intro pP eE s0 mM args below meth cC s₁ B hml hv
  obtain ⟨rfl, hsz, hP, hKX, hD0⟩ := hv
  have hx := B.exec
  have hb := B.bytes
  have hr := B.returns
  have hG := gw_hts (atoms_spec (ws := _) B.pre)
  have hown : s0.vm.findClass RX7 = some mM.cls := findClass_of_methodNamed B.named
  have hlocks := B.notSynchronized
  subst hsz
  have hD := hD0.self (sz := s0.heap.size)
  generalize hAe : va_A (wX7 cy om om_thrown om_s om_kept om_aside om_isKept om_reaches om_ringOf om_rungOf om_rings (nI r) om_paid om_leftOf om_ringPaid om_paidAll om_mosts om_text om_signs om_at om_isWrong om_clauses om_letters om_one om_two om_three om_whys om_backs om_sorts om_sizes om_items) s0.heap.size = A at hD ⊢
  have hA : ∀ q : Nat, s0.heap.size ≤ q → A q := fun q h => by rw [← hAe]; exact Or.inr h
  have hS : va_S A s0.heap s0.heap [] := va_S.rf
  have hl := lv_entry ([.ref (om 0), .int what]) (n := 5) (Nat.le_of_ble_eq_true rfl)
  rw [lg_entry_eq]
  generalize (lg_sl ([.ref (om 0), .int what]) ++ List.replicate (5 - (lg_sl ([.ref (om 0), .int what])).length) Slot.unset).toArray = ls at hl ⊢
  have hl : lv_has ls 5 [(0, .ref (om 0)), (1, .int what)] := hl
  refine lv_iload_n hx hb dX7_fits_0 rfl (lv_at hl 1 rfl) ?_
  refine lv_i2l (v := ((what).toInt64)) hx hb dX7_fits_1 rfl ?_
  refine lv_lconst (v := (0 : Int64)) hx hb dX7_fits_2 (by decide) ?_
  refine lv_lconst (v := (1 : Int64)) hx hb dX7_fits_3 (by decide) ?_
  refine cRoS mw7_3 mw7_4 mw1_5 mw7_5 hd_X7_in hx hb hml hown hG hKX (c_X7_in l D cy ((what).toInt64) (0 : Int64) (1 : Int64)) ⟨Nat.le_of_ble_eq_true rfl, Nat.le_of_ble_eq_true rfl⟩ ⟨Nat.zero_le _, Nat.zero_le _⟩ (hP.sub [] rfl) rfl hl.1 rfl (Nat.le_of_ble_eq_true rfl) dX7_fits_4 ?_
  refine lv_if_ne (tgt := 12) hx hb dX7_fits_7 (by decide) (fun c1 => ?_) (fun c1 => ?_)
  · refine lv_iconst (v := (0 : Int32)) hx hb dX7_fits_12 (by decide) ?_
    refine lv_istore_n (lv' := [(2, .int (0 : Int32)), (0, .ref (om 0)), (1, .int what)]) hx hb dX7_fits_13 rfl hl (by decide) rfl (fun ls hl => ?_)
    refine lv_bipush (v := (-5 : Int32)) hx hb dX7_fits_14 (by decide) ?_
    refine lv_istore_n (lv' := [(3, .int (-5 : Int32)), (2, .int (0 : Int32)), (0, .ref (om 0)), (1, .int what)]) hx hb dX7_fits_16 rfl hl (by decide) rfl (fun ls hl => ?_)
    refine lv_iconst (v := (0 : Int32)) hx hb dX7_fits_17 (by decide) ?_
    refine lv_istore (lv' := [(4, .int (0 : Int32)), (3, .int (-5 : Int32)), (2, .int (0 : Int32)), (0, .ref (om 0)), (1, .int what)]) hx hb dX7_fits_18 hl (by decide) rfl (fun ls hl => ?_)
    refine loopW (bd_X7_fits_20 om_s n q sc) ((0 : Int32), (-5 : Int32), om_reaches, om_ringOf, om_rungOf, om_rings, r, om_paid, om_leftOf, om_ringPaid, om_paidAll, om_mosts) 301 (fun k20 z20 => [(4, .int (nI k20)), (3, .int z20.2.1), (2, .int z20.1), (0, .ref (om 0)), (1, .int what)]) (fun k20 z20 => wX7 cy om om_thrown om_s om_kept om_aside om_isKept z20.2.2.1 z20.2.2.2.1 z20.2.2.2.2.1 z20.2.2.2.2.2.1 (nI z20.2.2.2.2.2.2.1) z20.2.2.2.2.2.2.2.1 z20.2.2.2.2.2.2.2.2.1 z20.2.2.2.2.2.2.2.2.2.1 z20.2.2.2.2.2.2.2.2.2.2.1 z20.2.2.2.2.2.2.2.2.2.2.2 om_text om_signs om_at om_isWrong om_clauses om_letters om_one om_two om_three om_whys om_backs om_sorts om_sizes om_items) hP hD hS (lv_sub hl [0, 1, 2, 3, 4] rfl) (fun k20 z20 H locs ls hk20 hz20 hP hD hS hl ih20 => ?_)
    refine lv_iload hx hb dX7_fits_20 (lv_at hl 0 rfl) ?_
    refine lv_sipush (v := (300 : Int32)) hx hb dX7_fits_22 (by decide) ?_
    refine lv_icmp_gt (tgt := 56) hx hb dX7_fits_25 (by decide) (fun c2 => ?_) (fun c2 => ?_)
    · have e_k20 : 301 = k20 := Nat.le_antisymm ((gt_n (M := 300) (k := k20) (by omega) (by omega)).mp c2) hk20
      subst e_k20
      refine lv_iload_n hx hb dX7_fits_56 rfl (lv_at hl 4 rfl) ?_
      refine lv_if_ne (tgt := 64) hx hb dX7_fits_57 (by decide) (fun c3 => ?_) (fun c3 => ?_)
      · refine lv_iload_n hx hb dX7_fits_64 rfl (lv_at hl 1 rfl) ?_
        exact W.iret (v := z20.2.1) hx hb hr (fun t ht hW => ⟨⟨z20.2.1, z20.2.2, rfl, by subst hz20; unfold f_X7_fits; rw [if_neg c1, if_neg c3] <;> rfl, by rw [ht]; exact hP, hD⟩, hS.F ht⟩) hS.2.2 dX7_fits_65
      · refine lv_iload_n hx hb dX7_fits_60 rfl (lv_at hl 2 rfl) ?_
        refine lv_goto (tgt := 65) hx hb dX7_fits_61 (by decide) ?_
        exact W.iret (v := z20.1) hx hb hr (fun t ht hW => ⟨⟨z20.1, z20.2.2, rfl, by subst hz20; unfold f_X7_fits; rw [if_neg c1, if_pos c3] <;> rfl, by rw [ht]; exact hP, hD⟩, hS.F ht⟩) hS.2.2 dX7_fits_65
    · have hlt20 : k20 < 301 := Nat.lt_of_not_le (fun qq_ => c2 ((gt_n (M := 300) (k := k20) (by omega) (by omega)).mpr qq_))
      refine lv_aload_n hx hb dX7_fits_28 rfl (lv_at hl 3 rfl) ?_
      refine lv_iload hx hb dX7_fits_29 (lv_at hl 0 rfl) ?_
      refine cRwV (q0 := 0) (ci := 7) mw27_13 mw27_14 mw27_15 mw1_5 mw27_16 rfl rfl hd_X7_fitsBy hx hb hml hown hG hKX (c_X7_fitsBy l D cy om om_thrown om_s om_kept om_aside om_isKept z20.2.2.1 z20.2.2.2.1 z20.2.2.2.2.1 z20.2.2.2.2.2.1 z20.2.2.2.2.2.2.2.1 z20.2.2.2.2.2.2.2.2.1 z20.2.2.2.2.2.2.2.2.2.1 z20.2.2.2.2.2.2.2.2.2.2.1 z20.2.2.2.2.2.2.2.2.2.2.2 om_text om_signs om_at om_isWrong om_clauses om_letters om_one om_two om_three om_whys om_backs om_sorts om_sizes om_items (nI k20) n z20.2.2.2.2.2.2.1 q sc hn hs0 hs2 hq hse) ⟨Nat.le_of_ble_eq_true rfl, Nat.le_of_ble_eq_true rfl⟩ ⟨Nat.zero_le _, Nat.zero_le _⟩ hP hD hS hA [0, 1, 2, 3, 4, 5, 6, 7, 8, 9, 10, 11, 12, 13, 14, 15, 16, 17, 18, 19, 20, 21] [] [0, 1, 2, 3, 4, 5, 6, 7, 8, 9, 10, 11, 12, 13, 14, 15, 16, 17, 18, 19, 20, 21] (wr := []) (wn := fun u31 => wX7 cy om om_thrown om_s om_kept om_aside om_isKept u31.1 u31.2.1 u31.2.2.1 u31.2.2.2.1 (nI u31.2.2.2.2.1) u31.2.2.2.2.2.1 u31.2.2.2.2.2.2.1 u31.2.2.2.2.2.2.2.1 u31.2.2.2.2.2.2.2.2.1 u31.2.2.2.2.2.2.2.2.2 om_text om_signs om_at om_isWrong om_clauses om_letters om_one om_two om_three om_whys om_backs om_sorts om_sizes om_items) rfl (by decide) rfl (by decide) (by decide) (fun _ => rfl) (by decide) rfl rfl hl.1 rfl (Nat.le_of_ble_eq_true rfl) dX7_fits_31 (fun r31 u31 H locs hw31 hP hD hS => ?_)
      refine lv_if_ne (tgt := 40) hx hb dX7_fits_34 (by decide) (fun c4 => ?_) (fun c4 => ?_)
      · refine lv_iload_n hx hb dX7_fits_40 rfl (lv_at hl 2 rfl) ?_
        refine lv_if_ne (tgt := 47) hx hb dX7_fits_41 (by decide) (fun c5 => ?_) (fun c5 => ?_)
        · refine lv_iinc (v := (z20.1 + (1 : Int32))) (lv' := [(2, .int (z20.1 + (1 : Int32))), (4, .int (nI k20)), (3, .int z20.2.1), (0, .ref (om 0)), (1, .int what)]) hx hb dX7_fits_47 hl (k := 2) rfl rfl (by decide) rfl (fun ls hl => ?_)
          refine lv_iinc (v := nI (k20 + 1)) (lv' := [(4, .int (nI (k20 + 1))), (2, .int (z20.1 + (1 : Int32))), (3, .int z20.2.1), (0, .ref (om 0)), (1, .int what)]) hx hb dX7_fits_50 hl (k := 1) rfl (nI_1 _) (by decide) rfl (fun ls hl => ?_)
          refine lv_goto (tgt := 20) hx hb dX7_fits_53 (by decide) ?_
          exact ih20 ((z20.1 + (1 : Int32)), z20.2.1, u31.1, u31.2.1, u31.2.2.1, u31.2.2.2.1, u31.2.2.2.2.1, u31.2.2.2.2.2.1, u31.2.2.2.2.2.2.1, u31.2.2.2.2.2.2.2.1, u31.2.2.2.2.2.2.2.2.1, u31.2.2.2.2.2.2.2.2.2) _ _ _ hlt20 (by obtain rfl := congrArg Prod.fst hw31; obtain rfl := congrArg Prod.snd hw31; unfold bd_X7_fits_20; rw [if_neg c4, if_neg c5] <;> rfl) hP hD hS (lv_sub hl [0, 2, 1, 3, 4] rfl)
        · refine lv_iload hx hb dX7_fits_44 (lv_at hl 0 rfl) ?_
          refine lv_istore_n (lv' := [(3, .int (nI k20)), (4, .int (nI k20)), (2, .int z20.1), (0, .ref (om 0)), (1, .int what)]) hx hb dX7_fits_46 rfl hl (by decide) rfl (fun ls hl => ?_)
          refine lv_iinc (v := (z20.1 + (1 : Int32))) (lv' := [(2, .int (z20.1 + (1 : Int32))), (3, .int (nI k20)), (4, .int (nI k20)), (0, .ref (om 0)), (1, .int what)]) hx hb dX7_fits_47 hl (k := 2) rfl rfl (by decide) rfl (fun ls hl => ?_)
          refine lv_iinc (v := nI (k20 + 1)) (lv' := [(4, .int (nI (k20 + 1))), (2, .int (z20.1 + (1 : Int32))), (3, .int (nI k20)), (0, .ref (om 0)), (1, .int what)]) hx hb dX7_fits_50 hl (k := 2) rfl (nI_1 _) (by decide) rfl (fun ls hl => ?_)
          refine lv_goto (tgt := 20) hx hb dX7_fits_53 (by decide) ?_
          exact ih20 ((z20.1 + (1 : Int32)), nI k20, u31.1, u31.2.1, u31.2.2.1, u31.2.2.2.1, u31.2.2.2.2.1, u31.2.2.2.2.2.1, u31.2.2.2.2.2.2.1, u31.2.2.2.2.2.2.2.1, u31.2.2.2.2.2.2.2.2.1, u31.2.2.2.2.2.2.2.2.2) _ _ _ hlt20 (by obtain rfl := congrArg Prod.fst hw31; obtain rfl := congrArg Prod.snd hw31; unfold bd_X7_fits_20; rw [if_neg c4, if_pos c5] <;> rfl) hP hD hS (lv_sub hl [0, 2, 1, 3, 4] rfl)
      · refine lv_goto (tgt := 50) hx hb dX7_fits_37 (by decide) ?_
        refine lv_iinc (v := nI (k20 + 1)) (lv' := [(4, .int (nI (k20 + 1))), (3, .int z20.2.1), (2, .int z20.1), (0, .ref (om 0)), (1, .int what)]) hx hb dX7_fits_50 hl (k := 0) rfl (nI_1 _) (by decide) rfl (fun ls hl => ?_)
        refine lv_goto (tgt := 20) hx hb dX7_fits_53 (by decide) ?_
        exact ih20 (z20.1, z20.2.1, u31.1, u31.2.1, u31.2.2.1, u31.2.2.2.1, u31.2.2.2.2.1, u31.2.2.2.2.2.1, u31.2.2.2.2.2.2.1, u31.2.2.2.2.2.2.2.1, u31.2.2.2.2.2.2.2.2.1, u31.2.2.2.2.2.2.2.2.2) _ _ _ hlt20 (by obtain rfl := congrArg Prod.fst hw31; obtain rfl := congrArg Prod.snd hw31; unfold bd_X7_fits_20; rw [if_pos c4] <;> rfl) hP hD hS (lv_sub hl [0, 1, 2, 3, 4] rfl)
  · refine lv_iconst (v := (-1 : Int32)) hx hb dX7_fits_10 (by decide) ?_
    exact W.iret (v := (-1 : Int32)) hx hb hr (fun t ht hW => ⟨⟨(-1 : Int32), (om_reaches, om_ringOf, om_rungOf, om_rings, r, om_paid, om_leftOf, om_ringPaid, om_paidAll, om_mosts), rfl, by unfold f_X7_fits; rw [if_pos c1] <;> rfl, by rw [ht]; exact hP, hD⟩, hS.F ht⟩) hS.2.2 dX7_fits_11
def bd_X7_lowest_6 (z6 : Int64 × Int64) : (Int64 × Int64) ⊕ (Int64 × Int64) :=
  if (lg_cmp z6.2 (0 : Int64)) = (0 : Int32) then (.inr z6) else (.inl (z6.2, (z6.1 - z6.1 / z6.2 * z6.2)))
def f_X7_lowest (a : Int64) (b : Int64) (part : Int32) : Int64 :=
  if part = (0 : Int32) then (a / ((wl bd_X7_lowest_6 18446744073709551616 (a, b)).getD (a, b)).1) else (b / ((wl bd_X7_lowest_6 18446744073709551616 (a, b)).getD (a, b)).1)
theorem low_some {σ : Type} {bd : Int64 × Int64 → (Int64 × Int64) ⊕ σ} : True := trivial
theorem lowest_some : ∀ (d : Nat) (z : Int64 × Int64), z.2.toInt.natAbs < d → (wl bd_X7_lowest_6 d z).isSome = true
  | 0, z, h => absurd h (Nat.not_lt_zero _)
  | d + 1, z, h => by
    by_cases e : lg_cmp z.2 0 = 0
    · have hb : bd_X7_lowest_6 z = .inr z := by unfold bd_X7_lowest_6; rw [if_pos e] <;> rfl
      rw [wl_inr hb]; rfl
    · have hb : bd_X7_lowest_6 z = .inl (z.2, z.1 - z.1 / z.2 * z.2) := by unfold bd_X7_lowest_6; rw [if_neg e] <;> rfl
      rw [wl_inl hb]
      refine lowest_some d _ ?_
      show (z.1 - z.1 / z.2 * z.2).toInt.natAbs < d
      rw [Jvm.Kit.i64_rem]
      have h0 : z.2.toInt ≠ 0 := by
        intro q
        have h9 : z.2 = 0 := Int64.toInt_inj.mp (q.trans (by decide))
        exact e (by rw [h9]; decide)
      have h1 := Int.natAbs_tmod z.1.toInt z.2.toInt
      rw [h1]
      have h2 := Nat.mod_lt z.1.toInt.natAbs (Nat.pos_of_ne_zero (fun q => h0 (Int.natAbs_eq_zero.mp q)))
      omega
theorem lowest_ok (a b : Int64) : (wl bd_X7_lowest_6 18446744073709551616 (a, b)).isSome = true := lowest_some _ _ (by
  have h1 := Int64.toInt_lt b
  have h2 := Int64.le_toInt b
  show b.toInt.natAbs < _
  omega)
theorem lg_ne0 {y : Int64} (h : ¬ lg_cmp y 0 = 0) : ¬ y = 0 := fun q => h (by rw [q]; decide)
theorem low_inv {z0 : Int64 × Int64} (h0 : z0.1 ≠ 0 ∨ z0.2 ≠ 0) : ∀ (d : Nat) (z x : Int64 × Int64), (z.1 ≠ 0 ∨ z.2 ≠ 0) → wl bd_X7_lowest_6 d z = some x → x.1 ≠ 0
  | 0, z, x, _, h => by cases h
  | d + 1, z, x, hz, h => by
    by_cases e : lg_cmp z.2 0 = 0
    · have hb : bd_X7_lowest_6 z = .inr z := by unfold bd_X7_lowest_6; rw [if_pos e] <;> rfl
      rw [wl_inr hb] at h
      cases h
      have h9 : z.2 = 0 := by
        unfold lg_cmp at e
        by_cases c1 : z.2 > 0
        · rw [if_pos c1] at e; exact absurd e (by decide)
        · rw [if_neg c1] at e
          by_cases c2 : z.2 = 0
          · exact c2
          · rw [if_neg c2] at e; exact absurd e (by decide)
      rcases hz with q | q
      · exact q
      · exact absurd h9 q
    · have hb : bd_X7_lowest_6 z = .inl (z.2, z.1 - z.1 / z.2 * z.2) := by unfold bd_X7_lowest_6; rw [if_neg e] <;> rfl
      rw [wl_inl hb] at h
      exact low_inv h0 d _ x (Or.inl (lg_ne0 e)) h
theorem low_ne {a b : Int64} (hb : b ≠ 0) : ((wl bd_X7_lowest_6 18446744073709551616 (a, b)).getD (a, b)).1 ≠ 0 := low_inv (z0 := (a, b)) (Or.inr hb) _ _ _ (Or.inr hb) (wl_some (lowest_ok a b))

set_option maxHeartbeats 4000000 in
set_option maxRecDepth 100000 in
theorem c_X7_lowest (l : Launch) (D : va_G) (cy : Nat → ClassId) (a : Int64) (b : Int64) (part : Int32) (hb0 : b ≠ 0) : RoL l D cy yX7_lowest (.code yX7_lowest cX7_lowest 11 (some .long)) 0 ([]) [.long a, .long b, .int part] (f_X7_lowest a b part) := by
  refine Met.ofW (cc := cX7_lowest) (maxL := 11) (ret := (some .long)) (by decide) rfl ?_
  intro pP eE s0 mM args below meth cC s₁ B hml hv
  obtain ⟨rfl, hP, hKX⟩ := hv
  have hx := B.exec
  have hb := B.bytes
  have hr := B.returns
  have hG := gw_hts (atoms_spec (ws := _) B.pre)
  have hown : s0.vm.findClass RX7 = some mM.cls := findClass_of_methodNamed B.named
  have hlocks := B.notSynchronized
  have hl := lv_entry ([.long a, .long b, .int part]) (n := 11) (Nat.le_of_ble_eq_true rfl)
  rw [lg_entry_eq]
  generalize (lg_sl ([.long a, .long b, .int part]) ++ List.replicate (11 - (lg_sl ([.long a, .long b, .int part])).length) Slot.unset).toArray = ls at hl ⊢
  have hl : lv_has ls 11 [(0, .long a), (2, .long b), (4, .int part)] := hl
  refine lv_lload_n hx hb dX7_lowest_0 rfl (lv_at hl 0 rfl) ?_
  refine lv_lstore (lv' := [(5, .long a), (0, .long a), (2, .long b), (4, .int part)]) hx hb dX7_lowest_1 hl (by decide) rfl (fun ls hl => ?_)
  refine lv_lload_n hx hb dX7_lowest_3 rfl (lv_at hl 2 rfl) ?_
  refine lv_lstore (lv' := [(7, .long b), (5, .long a), (0, .long a), (2, .long b), (4, .int part)]) hx hb dX7_lowest_4 hl (by decide) rfl (fun ls hl => ?_)
  refine loopWhR (pcX := 31) bd_X7_lowest_6 18446744073709551616 (a, b) ((wl bd_X7_lowest_6 18446744073709551616 (a, b)).getD (a, b)) (wl_some (lowest_ok _ _)) (fun z6 => [(7, .long z6.2), (5, .long z6.1), (0, .long a), (2, .long b), (4, .int part)]) (fun z6 => [(5, .long z6.1), (0, .long a), (2, .long b), (4, .int part)]) (lv_sub hl [0, 1, 2, 3, 4] rfl) (fun zx6 ls hzx6 hl => ?_) (fun z6 ls hl ih6 br6 => ?_)
  · refine lv_iload hx hb dX7_lowest_31 (lv_at hl 3 rfl) ?_
    refine lv_if_ne (tgt := 43) hx hb dX7_lowest_33 (by decide) (fun c1 => ?_) (fun c1 => ?_)
    · refine lv_lload_n hx hb dX7_lowest_43 rfl (lv_at hl 2 rfl) ?_
      refine lv_lload hx hb dX7_lowest_44 (lv_at hl 0 rfl) ?_
      refine lv_ldiv hx hb dX7_lowest_46 (by subst hzx6; exact low_ne hb0) ?_
      exact W.lret (v := (b / zx6.1)) hx hb hr (fun t ht hW => ⟨_, rfl, by subst hzx6; unfold f_X7_lowest; rw [if_neg c1] <;> rfl, ht⟩) (fun q hq => by cases hq) dX7_lowest_47
    · refine lv_lload_n hx hb dX7_lowest_36 rfl (lv_at hl 1 rfl) ?_
      refine lv_lload hx hb dX7_lowest_37 (lv_at hl 0 rfl) ?_
      refine lv_ldiv hx hb dX7_lowest_39 (by subst hzx6; exact low_ne hb0) ?_
      refine lv_goto (tgt := 47) hx hb dX7_lowest_40 (by decide) ?_
      exact W.lret (v := (a / zx6.1)) hx hb hr (fun t ht hW => ⟨_, rfl, by subst hzx6; unfold f_X7_lowest; rw [if_pos c1] <;> rfl, ht⟩) (fun q hq => by cases hq) dX7_lowest_47
  · refine lv_lload hx hb dX7_lowest_6 (lv_at hl 0 rfl) ?_
    refine lv_lconst (v := (0 : Int64)) hx hb dX7_lowest_8 (by decide) ?_
    refine W.lcmp hx hb dX7_lowest_9 ?_
    refine lv_if_eq (tgt := 31) hx hb dX7_lowest_10 (by decide) (fun c2 => ?_) (fun c2 => ?_)
    · exact br6 z6 _  (by unfold bd_X7_lowest_6; rw [if_pos c2] <;> rfl) (lv_sub hl [1, 2, 3, 4] rfl)
    · refine lv_lload hx hb dX7_lowest_13 (lv_at hl 1 rfl) ?_
      refine lv_lload hx hb dX7_lowest_15 (lv_at hl 0 rfl) ?_
      refine lv_lrem hx hb dX7_lowest_17 (lg_ne0 c2) ?_
      refine lv_lstore (lv' := [(9, .long (z6.1 - z6.1 / z6.2 * z6.2)), (7, .long z6.2), (5, .long z6.1), (0, .long a), (2, .long b), (4, .int part)]) hx hb dX7_lowest_18 hl (by decide) rfl (fun ls hl => ?_)
      refine lv_lload hx hb dX7_lowest_20 (lv_at hl 1 rfl) ?_
      refine lv_lstore (lv' := [(5, .long z6.2), (9, .long (z6.1 - z6.1 / z6.2 * z6.2)), (7, .long z6.2), (0, .long a), (2, .long b), (4, .int part)]) hx hb dX7_lowest_22 hl (by decide) rfl (fun ls hl => ?_)
      refine lv_lload hx hb dX7_lowest_24 (lv_at hl 1 rfl) ?_
      refine lv_lstore (lv' := [(7, .long (z6.1 - z6.1 / z6.2 * z6.2)), (5, .long z6.2), (9, .long (z6.1 - z6.1 / z6.2 * z6.2)), (0, .long a), (2, .long b), (4, .int part)]) hx hb dX7_lowest_26 hl (by decide) rfl (fun ls hl => ?_)
      refine lv_goto (tgt := 6) hx hb dX7_lowest_28 (by decide) ?_
      exact ih6 (z6.2, (z6.1 - z6.1 / z6.2 * z6.2)) _ (by unfold bd_X7_lowest_6; rw [if_neg c2] <;> rfl) (lv_sub hl [0, 1, 3, 4, 5] rfl)
def bd_X7_odds_27 (om_s : Nat → Int32) (n : Nat) (j21 : Nat) (k27 : Nat) (z27 : Int32 × (Nat → Int32) × (Nat → Int32) × (Nat → Int32) × (Nat → Int32) × Nat × (Nat → Int32) × (Nat → Int32) × (Nat → Int32) × Int32 × (Nat → Int32)) : Int32 × (Nat → Int32) × (Nat → Int32) × (Nat → Int32) × (Nat → Int32) × Nat × (Nat → Int32) × (Nat → Int32) × (Nat → Int32) × Int32 × (Nat → Int32) :=
  if (f_X7_paidBy om_s z27.2.1 z27.2.2.1 z27.2.2.2.1 z27.2.2.2.2.1 z27.2.2.2.2.2.2.1 z27.2.2.2.2.2.2.2.1 z27.2.2.2.2.2.2.2.2.1 z27.2.2.2.2.2.2.2.2.2.2 (nI (10 * (1 * k27 + 1))) n j21).1 ≤ (0 : Int32) then (z27.1, (f_X7_paidBy om_s z27.2.1 z27.2.2.1 z27.2.2.2.1 z27.2.2.2.2.1 z27.2.2.2.2.2.2.1 z27.2.2.2.2.2.2.2.1 z27.2.2.2.2.2.2.2.2.1 z27.2.2.2.2.2.2.2.2.2.2 (nI (10 * (1 * k27 + 1))) n j21).2.1, (f_X7_paidBy om_s z27.2.1 z27.2.2.1 z27.2.2.2.1 z27.2.2.2.2.1 z27.2.2.2.2.2.2.1 z27.2.2.2.2.2.2.2.1 z27.2.2.2.2.2.2.2.2.1 z27.2.2.2.2.2.2.2.2.2.2 (nI (10 * (1 * k27 + 1))) n j21).2.2.1, (f_X7_paidBy om_s z27.2.1 z27.2.2.1 z27.2.2.2.1 z27.2.2.2.2.1 z27.2.2.2.2.2.2.1 z27.2.2.2.2.2.2.2.1 z27.2.2.2.2.2.2.2.2.1 z27.2.2.2.2.2.2.2.2.2.2 (nI (10 * (1 * k27 + 1))) n j21).2.2.2.1, (f_X7_paidBy om_s z27.2.1 z27.2.2.1 z27.2.2.2.1 z27.2.2.2.2.1 z27.2.2.2.2.2.2.1 z27.2.2.2.2.2.2.2.1 z27.2.2.2.2.2.2.2.2.1 z27.2.2.2.2.2.2.2.2.2.2 (nI (10 * (1 * k27 + 1))) n j21).2.2.2.2.1, (f_X7_paidBy om_s z27.2.1 z27.2.2.1 z27.2.2.2.1 z27.2.2.2.2.1 z27.2.2.2.2.2.2.1 z27.2.2.2.2.2.2.2.1 z27.2.2.2.2.2.2.2.2.1 z27.2.2.2.2.2.2.2.2.2.2 (nI (10 * (1 * k27 + 1))) n j21).2.2.2.2.2.1, (f_X7_paidBy om_s z27.2.1 z27.2.2.1 z27.2.2.2.1 z27.2.2.2.2.1 z27.2.2.2.2.2.2.1 z27.2.2.2.2.2.2.2.1 z27.2.2.2.2.2.2.2.2.1 z27.2.2.2.2.2.2.2.2.2.2 (nI (10 * (1 * k27 + 1))) n j21).2.2.2.2.2.2.1, (f_X7_paidBy om_s z27.2.1 z27.2.2.1 z27.2.2.2.1 z27.2.2.2.2.1 z27.2.2.2.2.2.2.1 z27.2.2.2.2.2.2.2.1 z27.2.2.2.2.2.2.2.2.1 z27.2.2.2.2.2.2.2.2.2.2 (nI (10 * (1 * k27 + 1))) n j21).2.2.2.2.2.2.2.1, (f_X7_paidBy om_s z27.2.1 z27.2.2.1 z27.2.2.2.1 z27.2.2.2.2.1 z27.2.2.2.2.2.2.1 z27.2.2.2.2.2.2.2.1 z27.2.2.2.2.2.2.2.2.1 z27.2.2.2.2.2.2.2.2.2.2 (nI (10 * (1 * k27 + 1))) n j21).2.2.2.2.2.2.2.2.1, (f_X7_paidBy om_s z27.2.1 z27.2.2.1 z27.2.2.2.1 z27.2.2.2.2.1 z27.2.2.2.2.2.2.1 z27.2.2.2.2.2.2.2.1 z27.2.2.2.2.2.2.2.2.1 z27.2.2.2.2.2.2.2.2.2.2 (nI (10 * (1 * k27 + 1))) n j21).2.2.2.2.2.2.2.2.2.1, (f_X7_paidBy om_s z27.2.1 z27.2.2.1 z27.2.2.2.1 z27.2.2.2.2.1 z27.2.2.2.2.2.2.1 z27.2.2.2.2.2.2.2.1 z27.2.2.2.2.2.2.2.2.1 z27.2.2.2.2.2.2.2.2.2.2 (nI (10 * (1 * k27 + 1))) n j21).2.2.2.2.2.2.2.2.2.2) else ((z27.1 + (1 : Int32)), (f_X7_paidBy om_s z27.2.1 z27.2.2.1 z27.2.2.2.1 z27.2.2.2.2.1 z27.2.2.2.2.2.2.1 z27.2.2.2.2.2.2.2.1 z27.2.2.2.2.2.2.2.2.1 z27.2.2.2.2.2.2.2.2.2.2 (nI (10 * (1 * k27 + 1))) n j21).2.1, (f_X7_paidBy om_s z27.2.1 z27.2.2.1 z27.2.2.2.1 z27.2.2.2.2.1 z27.2.2.2.2.2.2.1 z27.2.2.2.2.2.2.2.1 z27.2.2.2.2.2.2.2.2.1 z27.2.2.2.2.2.2.2.2.2.2 (nI (10 * (1 * k27 + 1))) n j21).2.2.1, (f_X7_paidBy om_s z27.2.1 z27.2.2.1 z27.2.2.2.1 z27.2.2.2.2.1 z27.2.2.2.2.2.2.1 z27.2.2.2.2.2.2.2.1 z27.2.2.2.2.2.2.2.2.1 z27.2.2.2.2.2.2.2.2.2.2 (nI (10 * (1 * k27 + 1))) n j21).2.2.2.1, (f_X7_paidBy om_s z27.2.1 z27.2.2.1 z27.2.2.2.1 z27.2.2.2.2.1 z27.2.2.2.2.2.2.1 z27.2.2.2.2.2.2.2.1 z27.2.2.2.2.2.2.2.2.1 z27.2.2.2.2.2.2.2.2.2.2 (nI (10 * (1 * k27 + 1))) n j21).2.2.2.2.1, (f_X7_paidBy om_s z27.2.1 z27.2.2.1 z27.2.2.2.1 z27.2.2.2.2.1 z27.2.2.2.2.2.2.1 z27.2.2.2.2.2.2.2.1 z27.2.2.2.2.2.2.2.2.1 z27.2.2.2.2.2.2.2.2.2.2 (nI (10 * (1 * k27 + 1))) n j21).2.2.2.2.2.1, (f_X7_paidBy om_s z27.2.1 z27.2.2.1 z27.2.2.2.1 z27.2.2.2.2.1 z27.2.2.2.2.2.2.1 z27.2.2.2.2.2.2.2.1 z27.2.2.2.2.2.2.2.2.1 z27.2.2.2.2.2.2.2.2.2.2 (nI (10 * (1 * k27 + 1))) n j21).2.2.2.2.2.2.1, (f_X7_paidBy om_s z27.2.1 z27.2.2.1 z27.2.2.2.1 z27.2.2.2.2.1 z27.2.2.2.2.2.2.1 z27.2.2.2.2.2.2.2.1 z27.2.2.2.2.2.2.2.2.1 z27.2.2.2.2.2.2.2.2.2.2 (nI (10 * (1 * k27 + 1))) n j21).2.2.2.2.2.2.2.1, (f_X7_paidBy om_s z27.2.1 z27.2.2.1 z27.2.2.2.1 z27.2.2.2.2.1 z27.2.2.2.2.2.2.1 z27.2.2.2.2.2.2.2.1 z27.2.2.2.2.2.2.2.2.1 z27.2.2.2.2.2.2.2.2.2.2 (nI (10 * (1 * k27 + 1))) n j21).2.2.2.2.2.2.2.2.1, (f_X7_paidBy om_s z27.2.1 z27.2.2.1 z27.2.2.2.1 z27.2.2.2.2.1 z27.2.2.2.2.2.2.1 z27.2.2.2.2.2.2.2.1 z27.2.2.2.2.2.2.2.2.1 z27.2.2.2.2.2.2.2.2.2.2 (nI (10 * (1 * k27 + 1))) n j21).2.2.2.2.2.2.2.2.2.1, (f_X7_paidBy om_s z27.2.1 z27.2.2.1 z27.2.2.2.1 z27.2.2.2.2.1 z27.2.2.2.2.2.2.1 z27.2.2.2.2.2.2.2.1 z27.2.2.2.2.2.2.2.2.1 z27.2.2.2.2.2.2.2.2.2.2 (nI (10 * (1 * k27 + 1))) n j21).2.2.2.2.2.2.2.2.2.2)
def f_X7_odds (om_s : Nat → Int32) (om_reaches : Nat → Int32) (om_ringOf : Nat → Int32) (om_rungOf : Nat → Int32) (om_rings : Nat → Int32) (om_paid : Nat → Int32) (om_leftOf : Nat → Int32) (om_ringPaid : Nat → Int32) (om_paidAll : Int32) (om_mosts : Nat → Int32) (c : Int32) (part : Int32) (n : Nat) (r : Nat) : Int64 × (Nat → Int32) × (Nat → Int32) × (Nat → Int32) × (Nat → Int32) × Nat × (Nat → Int32) × (Nat → Int32) × (Nat → Int32) × Int32 × (Nat → Int32) :=
  if (f_X7_isOne c n) = (0 : Int32) then ((-9223372036854775808 : Int64), (om_reaches, om_ringOf, om_rungOf, om_rings, r, om_paid, om_leftOf, om_ringPaid, om_paidAll, om_mosts)) else (if (f_X7_in ((part).toInt64) (0 : Int64) (1 : Int64)) = (0 : Int32) then ((-9223372036854775808 : Int64), (om_reaches, om_ringOf, om_rungOf, om_rings, r, om_paid, om_leftOf, om_ringPaid, om_paidAll, om_mosts)) else ((f_X7_lowest (((itr (bd_X7_odds_27 om_s n c.toNatClampNeg) 10 ((0 : Int32), om_reaches, om_ringOf, om_rungOf, om_rings, r, om_paid, om_leftOf, om_ringPaid, om_paidAll, om_mosts)).1).toInt64) (10 : Int64) part), (itr (bd_X7_odds_27 om_s n c.toNatClampNeg) 10 ((0 : Int32), om_reaches, om_ringOf, om_rungOf, om_rings, r, om_paid, om_leftOf, om_ringPaid, om_paidAll, om_mosts)).2))
set_option maxHeartbeats 4000000 in
set_option maxRecDepth 100000 in
theorem c_X7_odds (l : Launch) (D : va_G) (cy : Nat → ClassId) (om : Nat → Nat) (om_thrown : Int32) (om_s : Nat → Int32) (om_kept : Nat → Int32) (om_aside : Nat → Int32) (om_isKept : Int32) (om_reaches : Nat → Int32) (om_ringOf : Nat → Int32) (om_rungOf : Nat → Int32) (om_rings : Nat → Int32) (om_paid : Nat → Int32) (om_leftOf : Nat → Int32) (om_ringPaid : Nat → Int32) (om_paidAll : Int32) (om_mosts : Nat → Int32) (om_text : Nat → Int32) (om_signs : Int32) (om_at : Int32) (om_isWrong : Int32) (om_clauses : Int32) (om_letters : Nat → Int32) (om_one : Nat → Int32) (om_two : Nat → Int32) (om_three : Nat → Int32) (om_whys : Nat → Int32) (om_backs : Nat → Int32) (om_sorts : Nat → Int32) (om_sizes : Nat → Int32) (om_items : Nat → Int64) (c : Int32) (part : Int32) (n : Nat) (r : Nat) (hn : n ≤ 6) (hs0 : om_s 0 = nI n) : RwL (S := (Nat → Int32) × (Nat → Int32) × (Nat → Int32) × (Nat → Int32) × Nat × (Nat → Int32) × (Nat → Int32) × (Nat → Int32) × Int32 × (Nat → Int32)) l D cy yX7_odds (.code yX7_odds cX7_odds 5 (some .long)) 6 (wX7 cy om om_thrown om_s om_kept om_aside om_isKept om_reaches om_ringOf om_rungOf om_rings (nI r) om_paid om_leftOf om_ringPaid om_paidAll om_mosts om_text om_signs om_at om_isWrong om_clauses om_letters om_one om_two om_three om_whys om_backs om_sorts om_sizes om_items) [.ref (om 0), .int c, .int part] (fun rr u => (rr, u) = f_X7_odds om_s om_reaches om_ringOf om_rungOf om_rings om_paid om_leftOf om_ringPaid om_paidAll om_mosts c part n r) (fun u => wX7 cy om om_thrown om_s om_kept om_aside om_isKept u.1 u.2.1 u.2.2.1 u.2.2.2.1 (nI u.2.2.2.2.1) u.2.2.2.2.2.1 u.2.2.2.2.2.2.1 u.2.2.2.2.2.2.2.1 u.2.2.2.2.2.2.2.2.1 u.2.2.2.2.2.2.2.2.2 om_text om_signs om_at om_isWrong om_clauses om_letters om_one om_two om_three om_whys om_backs om_sorts om_sizes om_items) := by
  intro sz
  refine Met.ofW (cc := cX7_odds) (maxL := 5) (ret := (some .long)) (by decide) rfl ?_
  intro pP eE s0 mM args below meth cC s₁ B hml hv
  obtain ⟨rfl, hsz, hP, hKX, hD0⟩ := hv
  have hx := B.exec
  have hb := B.bytes
  have hr := B.returns
  have hG := gw_hts (atoms_spec (ws := _) B.pre)
  have hown : s0.vm.findClass RX7 = some mM.cls := findClass_of_methodNamed B.named
  have hlocks := B.notSynchronized
  subst hsz
  have hD := hD0.self (sz := s0.heap.size)
  generalize hAe : va_A (wX7 cy om om_thrown om_s om_kept om_aside om_isKept om_reaches om_ringOf om_rungOf om_rings (nI r) om_paid om_leftOf om_ringPaid om_paidAll om_mosts om_text om_signs om_at om_isWrong om_clauses om_letters om_one om_two om_three om_whys om_backs om_sorts om_sizes om_items) s0.heap.size = A at hD ⊢
  have hA : ∀ q : Nat, s0.heap.size ≤ q → A q := fun q h => by rw [← hAe]; exact Or.inr h
  have hS : va_S A s0.heap s0.heap [] := va_S.rf
  have hl := lv_entry ([.ref (om 0), .int c, .int part]) (n := 5) (Nat.le_of_ble_eq_true rfl)
  rw [lg_entry_eq]
  generalize (lg_sl ([.ref (om 0), .int c, .int part]) ++ List.replicate (5 - (lg_sl ([.ref (om 0), .int c, .int part])).length) Slot.unset).toArray = ls at hl ⊢
  have hl : lv_has ls 5 [(0, .ref (om 0)), (1, .int c), (2, .int part)] := hl
  refine lv_aload_n hx hb dX7_odds_0 rfl (lv_at hl 0 rfl) ?_
  refine lv_iload_n hx hb dX7_odds_1 rfl (lv_at hl 1 rfl) ?_
  refine cRoV (q0 := 0) (ci := 7) mw8_2 mw8_3 mw8_4 mw1_5 mw8_5 rfl rfl hd_X7_isOne hx hb hml hown hG hKX (c_X7_isOne l D cy om om_thrown om_s om_kept om_aside om_isKept om_reaches om_ringOf om_rungOf om_rings (nI r) om_paid om_leftOf om_ringPaid om_paidAll om_mosts om_text om_signs om_at om_isWrong om_clauses om_letters om_one om_two om_three om_whys om_backs om_sorts om_sizes om_items c n hn hs0) ⟨Nat.le_of_ble_eq_true rfl, Nat.le_of_ble_eq_true rfl⟩ ⟨Nat.zero_le _, Nat.zero_le _⟩ hP rfl rfl hl.1 rfl (Nat.le_of_ble_eq_true rfl) dX7_odds_2 ?_
  refine lv_if_eq (tgt := 18) hx hb dX7_odds_5 (by decide) (fun c1 => ?_) (fun c1 => ?_)
  · refine lv_ldc2 (v := (-9223372036854775808 : Int64)) hx hb hown (hG _ mw25_10) dX7_odds_18 ?_
    exact W.lret (v := (-9223372036854775808 : Int64)) hx hb hr (fun t ht hW => ⟨⟨(-9223372036854775808 : Int64), (om_reaches, om_ringOf, om_rungOf, om_rings, r, om_paid, om_leftOf, om_ringPaid, om_paidAll, om_mosts), rfl, by unfold f_X7_odds; rw [if_pos c1] <;> rfl, by rw [ht]; exact hP, hD⟩, hS.F ht⟩) hS.2.2 dX7_odds_21
  · obtain ⟨j21, hj21, hlj21, rfl⟩ := isO_of (by omega) c1
    refine lv_iload_n hx hb dX7_odds_8 rfl (lv_at hl 2 rfl) ?_
    refine lv_i2l (v := ((part).toInt64)) hx hb dX7_odds_9 rfl ?_
    refine lv_lconst (v := (0 : Int64)) hx hb dX7_odds_10 (by decide) ?_
    refine lv_lconst (v := (1 : Int64)) hx hb dX7_odds_11 (by decide) ?_
    refine cRoS mw7_3 mw7_4 mw1_5 mw7_5 hd_X7_in hx hb hml hown hG hKX (c_X7_in l D cy ((part).toInt64) (0 : Int64) (1 : Int64)) ⟨Nat.le_of_ble_eq_true rfl, Nat.le_of_ble_eq_true rfl⟩ ⟨Nat.zero_le _, Nat.zero_le _⟩ (hP.sub [] rfl) rfl hl.1 rfl (Nat.le_of_ble_eq_true rfl) dX7_odds_12 ?_
    refine lv_if_ne (tgt := 22) hx hb dX7_odds_15 (by decide) (fun c2 => ?_) (fun c2 => ?_)
    · refine lv_iconst (v := (0 : Int32)) hx hb dX7_odds_22 (by decide) ?_
      refine lv_istore_n (lv' := [(3, .int (0 : Int32)), (0, .ref (om 0)), (1, .int (nI j21)), (2, .int part)]) hx hb dX7_odds_23 rfl hl (by decide) rfl (fun ls hl => ?_)
      refine lv_iconst (v := (1 : Int32)) hx hb dX7_odds_24 (by decide) ?_
      refine lv_istore (lv' := [(4, .int (1 : Int32)), (3, .int (0 : Int32)), (0, .ref (om 0)), (1, .int (nI j21)), (2, .int part)]) hx hb dX7_odds_25 hl (by decide) rfl (fun ls hl => ?_)
      refine loopW (bd_X7_odds_27 om_s n j21) ((0 : Int32), om_reaches, om_ringOf, om_rungOf, om_rings, r, om_paid, om_leftOf, om_ringPaid, om_paidAll, om_mosts) 10 (fun k27 z27 => [(4, .int (nI (1 * k27 + 1))), (3, .int z27.1), (0, .ref (om 0)), (1, .int (nI j21)), (2, .int part)]) (fun k27 z27 => wX7 cy om om_thrown om_s om_kept om_aside om_isKept z27.2.1 z27.2.2.1 z27.2.2.2.1 z27.2.2.2.2.1 (nI z27.2.2.2.2.2.1) z27.2.2.2.2.2.2.1 z27.2.2.2.2.2.2.2.1 z27.2.2.2.2.2.2.2.2.1 z27.2.2.2.2.2.2.2.2.2.1 z27.2.2.2.2.2.2.2.2.2.2 om_text om_signs om_at om_isWrong om_clauses om_letters om_one om_two om_three om_whys om_backs om_sorts om_sizes om_items) hP hD hS (lv_sub hl [0, 1, 2, 3, 4] rfl) (fun k27 z27 H locs ls hk27 hz27 hP hD hS hl ih27 => ?_)
      refine lv_iload hx hb dX7_odds_27 (lv_at hl 0 rfl) ?_
      refine lv_bipush (v := (10 : Int32)) hx hb dX7_odds_29 (by decide) ?_
      refine lv_icmp_gt (tgt := 56) hx hb dX7_odds_31 (by decide) (fun c3 => ?_) (fun c3 => ?_)
      · have e_k27 : 10 = k27 := by have := (lin_gt (a := 1) (b := 1) (M := 10) (k := k27) (by omega) (by omega) (by omega)).mp c3; omega
        subst e_k27
        refine lv_iload_n hx hb dX7_odds_56 rfl (lv_at hl 1 rfl) ?_
        refine lv_i2l (v := ((z27.1).toInt64)) hx hb dX7_odds_57 rfl ?_
        refine lv_ldc2 (v := (10 : Int64)) hx hb hown (hG _ mw28_7) dX7_odds_58 ?_
        refine lv_iload_n hx hb dX7_odds_61 rfl (lv_at hl 4 rfl) ?_
        refine cRoSL mw28_8 mw28_9 mw1_5 mw28_10 hd_X7_lowest hx hb hml hown hG hKX (c_X7_lowest l D cy ((z27.1).toInt64) (10 : Int64) part (by decide)) ⟨Nat.le_of_ble_eq_true rfl, Nat.le_of_ble_eq_true rfl⟩ ⟨Nat.zero_le _, Nat.zero_le _⟩ (hP.sub [] rfl) rfl hl.1 rfl (Nat.le_of_ble_eq_true rfl) dX7_odds_62 ?_
        exact W.lret (v := (f_X7_lowest ((z27.1).toInt64) (10 : Int64) part)) hx hb hr (fun t ht hW => ⟨⟨(f_X7_lowest ((z27.1).toInt64) (10 : Int64) part), z27.2, rfl, by subst hz27; unfold f_X7_odds; (try simp only [hj21]); rw [if_neg c1, if_neg c2] <;> rfl, by rw [ht]; exact hP, hD⟩, hS.F ht⟩) hS.2.2 dX7_odds_65
      · have hlt27 : k27 < 10 := by have h9 : ¬ 10 < 1 * k27 + 1 := fun qq_ => c3 ((lin_gt (a := 1) (b := 1) (M := 10) (k := k27) (by omega) (by omega) (by omega)).mpr qq_); omega
        refine lv_aload_n hx hb dX7_odds_34 rfl (lv_at hl 2 rfl) ?_
        refine lv_iload_n hx hb dX7_odds_35 rfl (lv_at hl 3 rfl) ?_
        refine lv_bipush (v := (10 : Int32)) hx hb dX7_odds_36 (by decide) ?_
        refine lv_iload hx hb dX7_odds_38 (lv_at hl 0 rfl) ?_
        refine lv_imul hx hb dX7_odds_40 ?_
        refine topi_eq (y := nI (10 * (1 * k27 + 1))) (mN rfl rfl) ?_
        refine cRwV (q0 := 0) (ci := 7) mw25_11 mw25_12 mw25_13 mw1_5 mw25_14 rfl rfl hd_X7_paidBy hx hb hml hown hG hKX (c_X7_paidBy l D cy om om_thrown om_s om_kept om_aside om_isKept z27.2.1 z27.2.2.1 z27.2.2.2.1 z27.2.2.2.2.1 z27.2.2.2.2.2.2.1 z27.2.2.2.2.2.2.2.1 z27.2.2.2.2.2.2.2.2.1 z27.2.2.2.2.2.2.2.2.2.1 z27.2.2.2.2.2.2.2.2.2.2 om_text om_signs om_at om_isWrong om_clauses om_letters om_one om_two om_three om_whys om_backs om_sorts om_sizes om_items (nI (10 * (1 * k27 + 1))) n z27.2.2.2.2.2.1 j21 hn hs0 hlj21) ⟨Nat.le_of_ble_eq_true rfl, Nat.le_of_ble_eq_true rfl⟩ ⟨Nat.zero_le _, Nat.zero_le _⟩ hP hD hS hA [0, 1, 2, 3, 4, 5, 6, 7, 8, 9, 10, 11, 12, 13, 14, 15, 16, 17, 18, 19, 20, 21] [] [0, 1, 2, 3, 4, 5, 6, 7, 8, 9, 10, 11, 12, 13, 14, 15, 16, 17, 18, 19, 20, 21] (wr := []) (wn := fun u41 => wX7 cy om om_thrown om_s om_kept om_aside om_isKept u41.1 u41.2.1 u41.2.2.1 u41.2.2.2.1 (nI u41.2.2.2.2.1) u41.2.2.2.2.2.1 u41.2.2.2.2.2.2.1 u41.2.2.2.2.2.2.2.1 u41.2.2.2.2.2.2.2.2.1 u41.2.2.2.2.2.2.2.2.2 om_text om_signs om_at om_isWrong om_clauses om_letters om_one om_two om_three om_whys om_backs om_sorts om_sizes om_items) rfl (by decide) rfl (by decide) (by decide) (fun _ => rfl) (by decide) rfl rfl hl.1 rfl (Nat.le_of_ble_eq_true rfl) dX7_odds_41 (fun r41 u41 H locs hw41 hP hD hS => ?_)
        refine lv_if_le (tgt := 50) hx hb dX7_odds_44 (by decide) (fun c4 => ?_) (fun c4 => ?_)
        · refine lv_iinc (v := nI (1 * (k27 + 1) + 1)) (lv' := [(4, .int (nI (1 * (k27 + 1) + 1))), (3, .int z27.1), (0, .ref (om 0)), (1, .int (nI j21)), (2, .int part)]) hx hb dX7_odds_50 hl (k := 0) rfl (linN (a := 1) (b := 1) _) (by decide) rfl (fun ls hl => ?_)
          refine lv_goto (tgt := 27) hx hb dX7_odds_53 (by decide) ?_
          exact ih27 (z27.1, u41.1, u41.2.1, u41.2.2.1, u41.2.2.2.1, u41.2.2.2.2.1, u41.2.2.2.2.2.1, u41.2.2.2.2.2.2.1, u41.2.2.2.2.2.2.2.1, u41.2.2.2.2.2.2.2.2.1, u41.2.2.2.2.2.2.2.2.2) _ _ _ hlt27 (by obtain rfl := congrArg Prod.fst hw41; obtain rfl := congrArg Prod.snd hw41; unfold bd_X7_odds_27; (try simp only [hj21]); rw [if_pos c4] <;> rfl) hP hD hS (lv_sub hl [0, 1, 2, 3, 4] rfl)
        · refine lv_iinc (v := (z27.1 + (1 : Int32))) (lv' := [(3, .int (z27.1 + (1 : Int32))), (4, .int (nI (1 * k27 + 1))), (0, .ref (om 0)), (1, .int (nI j21)), (2, .int part)]) hx hb dX7_odds_47 hl (k := 1) rfl rfl (by decide) rfl (fun ls hl => ?_)
          refine lv_iinc (v := nI (1 * (k27 + 1) + 1)) (lv' := [(4, .int (nI (1 * (k27 + 1) + 1))), (3, .int (z27.1 + (1 : Int32))), (0, .ref (om 0)), (1, .int (nI j21)), (2, .int part)]) hx hb dX7_odds_50 hl (k := 1) rfl (linN (a := 1) (b := 1) _) (by decide) rfl (fun ls hl => ?_)
          refine lv_goto (tgt := 27) hx hb dX7_odds_53 (by decide) ?_
          exact ih27 ((z27.1 + (1 : Int32)), u41.1, u41.2.1, u41.2.2.1, u41.2.2.2.1, u41.2.2.2.2.1, u41.2.2.2.2.2.1, u41.2.2.2.2.2.2.1, u41.2.2.2.2.2.2.2.1, u41.2.2.2.2.2.2.2.2.1, u41.2.2.2.2.2.2.2.2.2) _ _ _ hlt27 (by obtain rfl := congrArg Prod.fst hw41; obtain rfl := congrArg Prod.snd hw41; unfold bd_X7_odds_27; (try simp only [hj21]); rw [if_neg c4] <;> rfl) hP hD hS (lv_sub hl [0, 1, 2, 3, 4] rfl)
    · refine lv_ldc2 (v := (-9223372036854775808 : Int64)) hx hb hown (hG _ mw25_10) dX7_odds_18 ?_
      exact W.lret (v := (-9223372036854775808 : Int64)) hx hb hr (fun t ht hW => ⟨⟨(-9223372036854775808 : Int64), (om_reaches, om_ringOf, om_rungOf, om_rings, r, om_paid, om_leftOf, om_ringPaid, om_paidAll, om_mosts), rfl, by unfold f_X7_odds; (try simp only [hj21]); rw [if_neg c1, if_pos c2] <;> rfl, by rw [ht]; exact hP, hD⟩, hS.F ht⟩) hS.2.2 dX7_odds_21
def f_X7_mean (om_s : Nat → Int32) (om_reaches : Nat → Int32) (om_ringOf : Nat → Int32) (om_rungOf : Nat → Int32) (om_rings : Nat → Int32) (om_paid : Nat → Int32) (om_leftOf : Nat → Int32) (om_ringPaid : Nat → Int32) (om_paidAll : Int32) (om_mosts : Nat → Int32) (part : Int32) (n : Nat) (r : Nat) : Int64 × (Nat → Int32) × (Nat → Int32) × (Nat → Int32) × (Nat → Int32) × Nat × (Nat → Int32) × (Nat → Int32) × (Nat → Int32) × Int32 × (Nat → Int32) :=
  if (f_X7_in ((part).toInt64) (0 : Int64) (1 : Int64)) = (0 : Int32) then ((-9223372036854775808 : Int64), (om_reaches, om_ringOf, om_rungOf, om_rings, r, om_paid, om_leftOf, om_ringPaid, om_paidAll, om_mosts)) else (if (f_X7_payers (f_X7_pay om_s om_reaches om_ringOf om_rungOf om_rings om_paid om_leftOf om_ringPaid om_mosts n).2.2.2.2.2.1 n) = (0 : Int32) then ((-9223372036854775808 : Int64), (f_X7_pay om_s om_reaches om_ringOf om_rungOf om_rings om_paid om_leftOf om_ringPaid om_mosts n)) else ((f_X7_lowest (((f_X7_pay om_s om_reaches om_ringOf om_rungOf om_rings om_paid om_leftOf om_ringPaid om_mosts n).2.2.2.2.2.2.2.2.1).toInt64) (((f_X7_payers (f_X7_pay om_s om_reaches om_ringOf om_rungOf om_rings om_paid om_leftOf om_ringPaid om_mosts n).2.2.2.2.2.1 n)).toInt64) part), (f_X7_pay om_s om_reaches om_ringOf om_rungOf om_rings om_paid om_leftOf om_ringPaid om_mosts n)))
theorem pyr_ne {x : Int32} (h : ¬ x = 0) : x.toInt64 ≠ 0 := by
  intro q
  refine h (Int32.toInt_inj.mp ?_)
  have h1 : x.toInt64.toInt = (0 : Int64).toInt := by rw [q]
  rw [Int32.toInt_toInt64] at h1
  exact h1.trans (by decide)

set_option maxHeartbeats 4000000 in
set_option maxRecDepth 100000 in
theorem c_X7_mean (l : Launch) (D : va_G) (cy : Nat → ClassId) (om : Nat → Nat) (om_thrown : Int32) (om_s : Nat → Int32) (om_kept : Nat → Int32) (om_aside : Nat → Int32) (om_isKept : Int32) (om_reaches : Nat → Int32) (om_ringOf : Nat → Int32) (om_rungOf : Nat → Int32) (om_rings : Nat → Int32) (om_paid : Nat → Int32) (om_leftOf : Nat → Int32) (om_ringPaid : Nat → Int32) (om_paidAll : Int32) (om_mosts : Nat → Int32) (om_text : Nat → Int32) (om_signs : Int32) (om_at : Int32) (om_isWrong : Int32) (om_clauses : Int32) (om_letters : Nat → Int32) (om_one : Nat → Int32) (om_two : Nat → Int32) (om_three : Nat → Int32) (om_whys : Nat → Int32) (om_backs : Nat → Int32) (om_sorts : Nat → Int32) (om_sizes : Nat → Int32) (om_items : Nat → Int64) (part : Int32) (n : Nat) (r : Nat) (hn : n ≤ 6) (hs0 : om_s 0 = nI n) : RwL (S := (Nat → Int32) × (Nat → Int32) × (Nat → Int32) × (Nat → Int32) × Nat × (Nat → Int32) × (Nat → Int32) × (Nat → Int32) × Int32 × (Nat → Int32)) l D cy yX7_mean (.code yX7_mean cX7_mean 2 (some .long)) 5 (wX7 cy om om_thrown om_s om_kept om_aside om_isKept om_reaches om_ringOf om_rungOf om_rings (nI r) om_paid om_leftOf om_ringPaid om_paidAll om_mosts om_text om_signs om_at om_isWrong om_clauses om_letters om_one om_two om_three om_whys om_backs om_sorts om_sizes om_items) [.ref (om 0), .int part] (fun rr u => (rr, u) = f_X7_mean om_s om_reaches om_ringOf om_rungOf om_rings om_paid om_leftOf om_ringPaid om_paidAll om_mosts part n r) (fun u => wX7 cy om om_thrown om_s om_kept om_aside om_isKept u.1 u.2.1 u.2.2.1 u.2.2.2.1 (nI u.2.2.2.2.1) u.2.2.2.2.2.1 u.2.2.2.2.2.2.1 u.2.2.2.2.2.2.2.1 u.2.2.2.2.2.2.2.2.1 u.2.2.2.2.2.2.2.2.2 om_text om_signs om_at om_isWrong om_clauses om_letters om_one om_two om_three om_whys om_backs om_sorts om_sizes om_items) := by
  intro sz
  refine Met.ofW (cc := cX7_mean) (maxL := 2) (ret := (some .long)) (by decide) rfl ?_
  intro pP eE s0 mM args below meth cC s₁ B hml hv
  obtain ⟨rfl, hsz, hP, hKX, hD0⟩ := hv
  have hx := B.exec
  have hb := B.bytes
  have hr := B.returns
  have hG := gw_hts (atoms_spec (ws := _) B.pre)
  have hown : s0.vm.findClass RX7 = some mM.cls := findClass_of_methodNamed B.named
  have hlocks := B.notSynchronized
  subst hsz
  have hD := hD0.self (sz := s0.heap.size)
  generalize hAe : va_A (wX7 cy om om_thrown om_s om_kept om_aside om_isKept om_reaches om_ringOf om_rungOf om_rings (nI r) om_paid om_leftOf om_ringPaid om_paidAll om_mosts om_text om_signs om_at om_isWrong om_clauses om_letters om_one om_two om_three om_whys om_backs om_sorts om_sizes om_items) s0.heap.size = A at hD ⊢
  have hA : ∀ q : Nat, s0.heap.size ≤ q → A q := fun q h => by rw [← hAe]; exact Or.inr h
  have hS : va_S A s0.heap s0.heap [] := va_S.rf
  have hl := lv_entry ([.ref (om 0), .int part]) (n := 2) (Nat.le_of_ble_eq_true rfl)
  rw [lg_entry_eq]
  generalize (lg_sl ([.ref (om 0), .int part]) ++ List.replicate (2 - (lg_sl ([.ref (om 0), .int part])).length) Slot.unset).toArray = ls at hl ⊢
  have hl : lv_has ls 2 [(0, .ref (om 0)), (1, .int part)] := hl
  refine lv_iload_n hx hb dX7_mean_0 rfl (lv_at hl 1 rfl) ?_
  refine lv_i2l (v := ((part).toInt64)) hx hb dX7_mean_1 rfl ?_
  refine lv_lconst (v := (0 : Int64)) hx hb dX7_mean_2 (by decide) ?_
  refine lv_lconst (v := (1 : Int64)) hx hb dX7_mean_3 (by decide) ?_
  refine cRoS mw7_3 mw7_4 mw1_5 mw7_5 hd_X7_in hx hb hml hown hG hKX (c_X7_in l D cy ((part).toInt64) (0 : Int64) (1 : Int64)) ⟨Nat.le_of_ble_eq_true rfl, Nat.le_of_ble_eq_true rfl⟩ ⟨Nat.zero_le _, Nat.zero_le _⟩ (hP.sub [] rfl) rfl hl.1 rfl (Nat.le_of_ble_eq_true rfl) dX7_mean_4 ?_
  refine lv_if_ne (tgt := 14) hx hb dX7_mean_7 (by decide) (fun c1 => ?_) (fun c1 => ?_)
  · refine lv_aload_n hx hb dX7_mean_14 rfl (lv_at hl 0 rfl) ?_
    refine cRwVV (q0 := 0) (ci := 7) mw14_9 mw14_10 mw14_11 mw1_5 mw14_12 rfl rfl hd_X7_pay hx hb hml hown hG hKX (c_X7_pay l D cy om om_thrown om_s om_kept om_aside om_isKept om_reaches om_ringOf om_rungOf om_rings (nI r) om_paid om_leftOf om_ringPaid om_paidAll om_mosts om_text om_signs om_at om_isWrong om_clauses om_letters om_one om_two om_three om_whys om_backs om_sorts om_sizes om_items n hn hs0) ⟨Nat.le_of_ble_eq_true rfl, Nat.le_of_ble_eq_true rfl⟩ ⟨Nat.zero_le _, Nat.zero_le _⟩ hP hD hS hA [0, 1, 2, 3, 4, 5, 6, 7, 8, 9, 10, 11, 12, 13, 14, 15, 16, 17, 18, 19, 20, 21] [] [0, 1, 2, 3, 4, 5, 6, 7, 8, 9, 10, 11, 12, 13, 14, 15, 16, 17, 18, 19, 20, 21] (wr := []) (wn := fun u15 => wX7 cy om om_thrown om_s om_kept om_aside om_isKept u15.1 u15.2.1 u15.2.2.1 u15.2.2.2.1 (nI u15.2.2.2.2.1) u15.2.2.2.2.2.1 u15.2.2.2.2.2.2.1 u15.2.2.2.2.2.2.2.1 u15.2.2.2.2.2.2.2.2.1 u15.2.2.2.2.2.2.2.2.2 om_text om_signs om_at om_isWrong om_clauses om_letters om_one om_two om_three om_whys om_backs om_sorts om_sizes om_items) rfl (by decide) rfl (by decide) (by decide) (fun _ => rfl) (by decide) rfl rfl hl.1 rfl (Nat.le_of_ble_eq_true rfl) dX7_mean_15 (fun u15 H locs hw15 hP hD hS => ?_)
    refine lv_aload_n hx hb dX7_mean_18 rfl (lv_at hl 0 rfl) ?_
    refine cRoV (q0 := 0) (ci := 7) mw22_12 mw22_13 mw22_14 mw1_5 mw22_15 rfl rfl hd_X7_payers hx hb hml hown hG hKX (c_X7_payers l D cy om om_thrown om_s om_kept om_aside om_isKept u15.1 u15.2.1 u15.2.2.1 u15.2.2.2.1 (nI u15.2.2.2.2.1) u15.2.2.2.2.2.1 u15.2.2.2.2.2.2.1 u15.2.2.2.2.2.2.2.1 u15.2.2.2.2.2.2.2.2.1 u15.2.2.2.2.2.2.2.2.2 om_text om_signs om_at om_isWrong om_clauses om_letters om_one om_two om_three om_whys om_backs om_sorts om_sizes om_items n hn hs0) ⟨Nat.le_of_ble_eq_true rfl, Nat.le_of_ble_eq_true rfl⟩ ⟨Nat.zero_le _, Nat.zero_le _⟩ hP rfl rfl hl.1 rfl (Nat.le_of_ble_eq_true rfl) dX7_mean_19 ?_
    refine lv_if_ne (tgt := 31) hx hb dX7_mean_22 (by decide) (fun c2 => ?_) (fun c2 => ?_)
    · refine lv_aload_n hx hb dX7_mean_31 rfl (lv_at hl 0 rfl) ?_
      refine gf_X7_142 hx hb hG hown hKX hP 0 rfl rfl dX7_mean_32 ?_
      refine lv_i2l (v := ((u15.2.2.2.2.2.2.2.2.1).toInt64)) hx hb dX7_mean_35 rfl ?_
      refine lv_aload_n hx hb dX7_mean_36 rfl (lv_at hl 0 rfl) ?_
      refine cRoV (q0 := 0) (ci := 7) mw22_12 mw22_13 mw22_14 mw1_5 mw22_15 rfl rfl hd_X7_payers hx hb hml hown hG hKX (c_X7_payers l D cy om om_thrown om_s om_kept om_aside om_isKept u15.1 u15.2.1 u15.2.2.1 u15.2.2.2.1 (nI u15.2.2.2.2.1) u15.2.2.2.2.2.1 u15.2.2.2.2.2.2.1 u15.2.2.2.2.2.2.2.1 u15.2.2.2.2.2.2.2.2.1 u15.2.2.2.2.2.2.2.2.2 om_text om_signs om_at om_isWrong om_clauses om_letters om_one om_two om_three om_whys om_backs om_sorts om_sizes om_items n hn hs0) ⟨Nat.le_of_ble_eq_true rfl, Nat.le_of_ble_eq_true rfl⟩ ⟨Nat.zero_le _, Nat.zero_le _⟩ hP rfl rfl hl.1 rfl (Nat.le_of_ble_eq_true rfl) dX7_mean_37 ?_
      refine lv_i2l (v := (((f_X7_payers u15.2.2.2.2.2.1 n)).toInt64)) hx hb dX7_mean_40 rfl ?_
      refine lv_iload_n hx hb dX7_mean_41 rfl (lv_at hl 1 rfl) ?_
      refine cRoSL mw28_8 mw28_9 mw1_5 mw28_10 hd_X7_lowest hx hb hml hown hG hKX (c_X7_lowest l D cy ((u15.2.2.2.2.2.2.2.2.1).toInt64) (((f_X7_payers u15.2.2.2.2.2.1 n)).toInt64) part (pyr_ne c2)) ⟨Nat.le_of_ble_eq_true rfl, Nat.le_of_ble_eq_true rfl⟩ ⟨Nat.zero_le _, Nat.zero_le _⟩ (hP.sub [] rfl) rfl hl.1 rfl (Nat.le_of_ble_eq_true rfl) dX7_mean_42 ?_
      exact W.lret (v := (f_X7_lowest ((u15.2.2.2.2.2.2.2.2.1).toInt64) (((f_X7_payers u15.2.2.2.2.2.1 n)).toInt64) part)) hx hb hr (fun t ht hW => ⟨⟨(f_X7_lowest ((u15.2.2.2.2.2.2.2.2.1).toInt64) (((f_X7_payers u15.2.2.2.2.2.1 n)).toInt64) part), u15, rfl, by subst hw15; unfold f_X7_mean; rw [if_neg c1, if_neg c2] <;> rfl, by rw [ht]; exact hP, hD⟩, hS.F ht⟩) hS.2.2 dX7_mean_45
    · refine lv_ldc2 (v := (-9223372036854775808 : Int64)) hx hb hown (hG _ mw25_10) dX7_mean_25 ?_
      refine lv_goto (tgt := 45) hx hb dX7_mean_28 (by decide) ?_
      exact W.lret (v := (-9223372036854775808 : Int64)) hx hb hr (fun t ht hW => ⟨⟨(-9223372036854775808 : Int64), u15, rfl, by subst hw15; unfold f_X7_mean; rw [if_neg c1, if_pos c2] <;> rfl, by rw [ht]; exact hP, hD⟩, hS.F ht⟩) hS.2.2 dX7_mean_45
  · refine lv_ldc2 (v := (-9223372036854775808 : Int64)) hx hb hown (hG _ mw25_10) dX7_mean_10 ?_
    exact W.lret (v := (-9223372036854775808 : Int64)) hx hb hr (fun t ht hW => ⟨⟨(-9223372036854775808 : Int64), (om_reaches, om_ringOf, om_rungOf, om_rings, r, om_paid, om_leftOf, om_ringPaid, om_paidAll, om_mosts), rfl, by unfold f_X7_mean; rw [if_pos c1] <;> rfl, by rw [ht]; exact hP, hD⟩, hS.F ht⟩) hS.2.2 dX7_mean_13
