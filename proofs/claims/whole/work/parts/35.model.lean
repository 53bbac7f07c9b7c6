def bd_X7_looked_6 (om_s : Nat → Int32) (sc : Nat → Nat) (u1 : (Nat → Int32) × (Nat → Int32) × (Nat → Int32) × (Nat → Int32) × Nat × (Nat → Int32) × (Nat → Int32) × (Nat → Int32) × Int32 × (Nat → Int32)) (k6 : Nat) : Option (Int32 × (Nat → Int32) × (Nat → Int32) × (Nat → Int32) × (Nat → Int32) × Nat × (Nat → Int32) × (Nat → Int32) × (Nat → Int32) × Int32 × (Nat → Int32)) :=
  if (u1.2.2.2.2.2.1 (sc k6)) = (om_s (69 + k6)) then none else (some (nI k6, u1))
def f_X7_looked (om_s : Nat → Int32) (om_reaches : Nat → Int32) (om_ringOf : Nat → Int32) (om_rungOf : Nat → Int32) (om_rings : Nat → Int32) (om_paid : Nat → Int32) (om_leftOf : Nat → Int32) (om_ringPaid : Nat → Int32) (om_mosts : Nat → Int32) (n : Nat) (q : Nat) (sc : Nat → Nat) : Int32 × (Nat → Int32) × (Nat → Int32) × (Nat → Int32) × (Nat → Int32) × Nat × (Nat → Int32) × (Nat → Int32) × (Nat → Int32) × Int32 × (Nat → Int32) :=
  (srch (bd_X7_looked_6 om_s sc (f_X7_pay om_s om_reaches om_ringOf om_rungOf om_rings om_paid om_leftOf om_ringPaid om_mosts n)) q 0).getD ((-5 : Int32), (f_X7_pay om_s om_reaches om_ringOf om_rungOf om_rings om_paid om_leftOf om_ringPaid om_mosts n))
set_option maxHeartbeats 4000000 in
set_option maxRecDepth 100000 in
theorem c_X7_looked (l : Launch) (D : va_G) (cy : Nat → ClassId) (om : Nat → Nat) (om_thrown : Int32) (om_s : Nat → Int32) (om_kept : Nat → Int32) (om_aside : Nat → Int32) (om_isKept : Int32) (om_reaches : Nat → Int32) (om_ringOf : Nat → Int32) (om_rungOf : Nat → Int32) (om_rings : Nat → Int32) (om_paid : Nat → Int32) (om_leftOf : Nat → Int32) (om_ringPaid : Nat → Int32) (om_paidAll : Int32) (om_mosts : Nat → Int32) (om_text : Nat → Int32) (om_signs : Int32) (om_at : Int32) (om_isWrong : Int32) (om_clauses : Int32) (om_letters : Nat → Int32) (om_one : Nat → Int32) (om_two : Nat → Int32) (om_three : Nat → Int32) (om_whys : Nat → Int32) (om_backs : Nat → Int32) (om_sorts : Nat → Int32) (om_sizes : Nat → Int32) (om_items : Nat → Int64) (n : Nat) (r : Nat) (q : Nat) (sc : Nat → Nat) (hn : n ≤ 6) (hs0 : om_s 0 = nI n) (hs4 : om_s 4 = nI q) (hq : q ≤ 8) (hse : ∀ k, k < q → om_s (61 + k) = nI (sc k) ∧ sc k < 6) : RwI (S := (Nat → Int32) × (Nat → Int32) × (Nat → Int32) × (Nat → Int32) × Nat × (Nat → Int32) × (Nat → Int32) × (Nat → Int32) × Int32 × (Nat → Int32)) l D cy yX7_looked (.code yX7_looked cX7_looked 2 (some .int)) 5 (wX7 cy om om_thrown om_s om_kept om_aside om_isKept om_reaches om_ringOf om_rungOf om_rings (nI r) om_paid om_leftOf om_ringPaid om_paidAll om_mosts om_text om_signs om_at om_isWrong om_clauses om_letters om_one om_two om_three om_whys om_backs om_sorts om_sizes om_items) [.ref (om 0)] (fun rr u => (rr, u) = f_X7_looked om_s om_reaches om_ringOf om_rungOf om_rings om_paid om_leftOf om_ringPaid om_mosts n q sc) (fun u => wX7 cy om om_thrown om_s om_kept om_aside om_isKept u.1 u.2.1 u.2.2.1 u.2.2.2.1 (nI u.2.2.2.2.1) u.2.2.2.2.2.1 u.2.2.2.2.2.2.1 u.2.2.2.2.2.2.2.1 u.2.2.2.2.2.2.2.2.1 u.2.2.2.2.2.2.2.2.2 om_text om_signs om_at om_isWrong om_clauses om_letters om_one om_two om_three om_whys om_backs om_sorts om_sizes om_items) := by
  intro sz
  refine Met.ofW (cc := cX7_looked) (maxL := 2) (ret := (some .int)) (by decide) rfl ?_
  intro pP eE s0 mM args below meth cC s₁ B hml hv
  obtain ⟨rfl, hsz, hP, hKX, hD0⟩ := hv
  have hx := B.exec
  have hb := B.bytes
  have hr := B.returns
  have hG := gw_hts (atoms_spec (ws := _) B.pre)
  have hown : s0.vm.findClass RX7 = some mM.cls := findClass_of_methodNamed B.named
  have hlocks := B.notSynchronized
  subst hsz
  have hD := hD0.self (sz := s0.heap.size)
  generalize hAe : va_A (wX7 cy om om_thrown om_s om_kept om_aside om_isKept om_reaches om_ringOf om_rungOf om_rings (nI r) om_paid om_leftOf om_ringPaid om_paidAll om_mosts om_text om_signs om_at om_isWrong om_clauses om_letters om_one om_two om_three om_whys om_backs om_sorts om_sizes om_items) s0.heap.size = A at hD ⊢
  have hA : ∀ q : Nat, s0.heap.size ≤ q → A q := fun q h => by rw [← hAe]; exact Or.inr h
  have hS : va_S A s0.heap s0.heap [] := va_S.rf
  have hl := lv_entry ([.ref (om 0)]) (n := 2) (Nat.le_of_ble_eq_true rfl)
  rw [lg_entry_eq]
  generalize (lg_sl ([.ref (om 0)]) ++ List.replicate (2 - (lg_sl ([.ref (om 0)])).length) Slot.unset).toArray = ls at hl ⊢
  have hl : lv_has ls 2 [(0, .ref (om 0))] := hl
  refine lv_aload_n hx hb dX7_looked_0 rfl (lv_at hl 0 rfl) ?_
  refine cRwVV (q0 := 0) (ci := 7) mw14_9 mw14_10 mw14_11 mw1_5 mw14_12 rfl rfl hd_X7_pay hx hb hml hown hG hKX (c_X7_pay l D cy om om_thrown om_s om_kept om_aside om_isKept om_reaches om_ringOf om_rungOf om_rings (nI r) om_paid om_leftOf om_ringPaid om_paidAll om_mosts om_text om_signs om_at om_isWrong om_clauses om_letters om_one om_two om_three om_whys om_backs om_sorts om_sizes om_items n hn hs0) ⟨Nat.le_of_ble_eq_true rfl, Nat.le_of_ble_eq_true rfl⟩ ⟨Nat.zero_le _, Nat.zero_le _⟩ hP hD hS hA [0, 1, 2, 3, 4, 5, 6, 7, 8, 9, 10, 11, 12, 13, 14, 15, 16, 17, 18, 19, 20, 21] [] [0, 1, 2, 3, 4, 5, 6, 7, 8, 9, 10, 11, 12, 13, 14, 15, 16, 17, 18, 19, 20, 21] (wr := []) (wn := fun u1 => wX7 cy om om_thrown om_s om_kept om_aside om_isKept u1.1 u1.2.1 u1.2.2.1 u1.2.2.2.1 (nI u1.2.2.2.2.1) u1.2.2.2.2.2.1 u1.2.2.2.2.2.2.1 u1.2.2.2.2.2.2.2.1 u1.2.2.2.2.2.2.2.2.1 u1.2.2.2.2.2.2.2.2.2 om_text om_signs om_at om_isWrong om_clauses om_letters om_one om_two om_three om_whys om_backs om_sorts om_sizes om_items) rfl (by decide) rfl (by decide) (by decide) (fun _ => rfl) (by decide) rfl rfl hl.1 rfl (Nat.le_of_ble_eq_true rfl) dX7_looked_1 (fun u1 H locs hw1 hP hD hS => ?_)
  refine lv_iconst (v := (0 : Int32)) hx hb dX7_looked_4 (by decide) ?_
  refine lv_istore_n (lv' := [(1, .int (0 : Int32)), (0, .ref (om 0))]) hx hb dX7_looked_5 rfl hl (by decide) rfl (fun ls hl => ?_)
  refine loopS (bd_X7_looked_6 om_s sc u1) q (fun k6 => [(1, .int (nI k6)), (0, .ref (om 0))]) (lv_sub hl [0, 1] rfl) (fun k6 ls hk6 hz6 hl ih6 => ?_)
  refine lv_iload_n hx hb dX7_looked_6 rfl (lv_at hl 0 rfl) ?_
  refine lv_aload_n hx hb dX7_looked_7 rfl (lv_at hl 1 rfl) ?_
  refine gf_X7_15 hx hb hG hown hKX hP 0 rfl rfl dX7_looked_8 ?_
  refine lv_iconst (v := (4 : Int32)) hx hb dX7_looked_11 (by decide) ?_
  refine iald_v hx hb hKX hP 1 rfl rfl (by decide) (by decide) hs4 dX7_looked_12 ?_
  refine lv_icmp_ge (tgt := 50) hx hb dX7_looked_13 (by decide) (fun c1 => ?_) (fun c1 => ?_)
  · have e_k6 : q = k6 := Nat.le_antisymm ((le_n (N := q) (k := k6) rfl (by omega) (by omega)).mp c1) hk6
    subst e_k6
    refine lv_bipush (v := (-5 : Int32)) hx hb dX7_looked_50 (by decide) ?_
    exact W.iret (v := (-5 : Int32)) hx hb hr (fun t ht hW => ⟨⟨(-5 : Int32), u1, rfl, by subst hw1; unfold f_X7_looked; rw [srch_none hz6, Option.getD_none] <;> rfl, by rw [ht]; exact hP, hD⟩, hS.F ht⟩) hS.2.2 dX7_looked_52
  · have hlt6 : k6 < q := Nat.lt_of_not_le (fun qq_ => c1 ((le_n (N := q) (k := k6) rfl (by omega) (by omega)).mpr qq_))
    refine lv_aload_n hx hb dX7_looked_16 rfl (lv_at hl 1 rfl) ?_
    refine gf_X7_37 hx hb hG hown hKX hP 0 rfl rfl dX7_looked_17 ?_
    refine lv_aload_n hx hb dX7_looked_20 rfl (lv_at hl 1 rfl) ?_
    refine gf_X7_15 hx hb hG hown hKX hP 0 rfl rfl dX7_looked_21 ?_
    refine lv_bipush (v := (61 : Int32)) hx hb dX7_looked_24 (by decide) ?_
    refine lv_iload_n hx hb dX7_looked_26 rfl (lv_at hl 0 rfl) ?_
    refine lv_iadd hx hb dX7_looked_27 ?_
    refine topi_eq (y := nI (61 + k6)) (aN rfl rfl) ?_
    refine iald_v hx hb hKX hP 1 rfl rfl (by omega) (by decide) (hse k6 (by omega)).1 dX7_looked_28 ?_
    refine iald_n hx hb hKX hP 8 rfl rfl (hse k6 (by omega)).2 (by decide) dX7_looked_29 ?_
    refine lv_aload_n hx hb dX7_looked_30 rfl (lv_at hl 1 rfl) ?_
    refine gf_X7_15 hx hb hG hown hKX hP 0 rfl rfl dX7_looked_31 ?_
    refine lv_bipush (v := (69 : Int32)) hx hb dX7_looked_34 (by decide) ?_
    refine lv_iload_n hx hb dX7_looked_36 rfl (lv_at hl 0 rfl) ?_
    refine lv_iadd hx hb dX7_looked_37 ?_
    refine topi_eq (y := nI (69 + k6)) (aN rfl rfl) ?_
    refine iald_n hx hb hKX hP 1 rfl rfl (by omega) (by decide) dX7_looked_38 ?_
    refine lv_icmp_eq (tgt := 44) hx hb dX7_looked_39 (by decide) (fun c2 => ?_) (fun c2 => ?_)
    · refine lv_iinc (v := nI (k6 + 1)) (lv' := [(1, .int (nI (k6 + 1))), (0, .ref (om 0))]) hx hb dX7_looked_44 hl (k := 0) rfl (nI_1 _) (by decide) rfl (fun ls hl => ?_)
      refine lv_goto (tgt := 6) hx hb dX7_looked_47 (by decide) ?_
      exact ih6 _ hlt6 (by subst hw1; unfold bd_X7_looked_6; rw [if_pos c2] <;> rfl) (lv_sub hl [0, 1] rfl)
    · refine lv_iload_n hx hb dX7_looked_42 rfl (lv_at hl 0 rfl) ?_
      exact W.iret (v := nI k6) hx hb hr (fun t ht hW => ⟨⟨nI k6, u1, rfl, by subst hw1; unfold f_X7_looked; rw [srch_some (r := (nI k6, (f_X7_pay om_s om_reaches om_ringOf om_rungOf om_rings om_paid om_leftOf om_ringPaid om_mosts n))) hz6 hlt6 (by unfold bd_X7_looked_6; rw [if_neg c2] <;> rfl), Option.getD_some] <;> rfl, by rw [ht]; exact hP, hD⟩, hS.F ht⟩) hS.2.2 dX7_looked_43
def bd_X7_judgev_38 (om_sorts : Nat → Int32) (om_items : Nat → Int64) (i : Int32) (j : Nat) (m : Nat) (u33 : (Nat → Int32) × (Nat → Int32) × (Nat → Int32) × (Nat → Int32) × Nat × (Nat → Int32) × (Nat → Int32) × (Nat → Int32) × Int32 × (Nat → Int32)) (k38 : Nat) : Option (Int32 × (Nat → Int32) × (Nat → Int32) × (Nat → Int32) × (Nat → Int32) × Nat × (Nat → Int32) × (Nat → Int32) × (Nat → Int32) × Int32 × (Nat → Int32)) :=
  if (om_sorts j) = (-1 : Int32) then (some (nI (100 + k38), u33)) else (if (lg_cmp (((i).toInt64) + ((nI k38).toInt64)) (0 : Int64)) < (0 : Int32) then (some (nI (100 + k38), u33)) else (if (lg_cmp (((i).toInt64) + ((nI k38).toInt64)) ((nI m).toInt64)) < (0 : Int32) then (if (lg_cmp (om_items ((60 * j) + ((((i).toInt64) + ((nI k38).toInt64))).toInt32.toNatClampNeg)) (((u33.2.2.2.2.2.1 k38)).toInt64)) = (0 : Int32) then none else (some (nI k38, u33))) else (some (nI (100 + k38), u33))))
def f_X7_judgev (om_s : Nat → Int32) (om_reaches : Nat → Int32) (om_ringOf : Nat → Int32) (om_rungOf : Nat → Int32) (om_rings : Nat → Int32) (om_paid : Nat → Int32) (om_leftOf : Nat → Int32) (om_ringPaid : Nat → Int32) (om_paidAll : Int32) (om_mosts : Nat → Int32) (om_sorts : Nat → Int32) (om_items : Nat → Int64) (i : Int32) (n : Nat) (r : Nat) (j : Nat) (m : Nat) : Int32 × (Nat → Int32) × (Nat → Int32) × (Nat → Int32) × (Nat → Int32) × Nat × (Nat → Int32) × (Nat → Int32) × (Nat → Int32) × Int32 × (Nat → Int32) :=
  if (f_X7_isTape (nI j)) = (0 : Int32) then ((-1 : Int32), (om_reaches, om_ringOf, om_rungOf, om_rings, r, om_paid, om_leftOf, om_ringPaid, om_paidAll, om_mosts)) else (if (om_sorts j) = (-1 : Int32) then ((srch (bd_X7_judgev_38 om_sorts om_items i j m (f_X7_pay om_s om_reaches om_ringOf om_rungOf om_rings om_paid om_leftOf om_ringPaid om_mosts n)) n 0).getD ((-5 : Int32), (f_X7_pay om_s om_reaches om_ringOf om_rungOf om_rings om_paid om_leftOf om_ringPaid om_mosts n))) else (if (om_sorts j) = (3 : Int32) then ((srch (bd_X7_judgev_38 om_sorts om_items i j m (f_X7_pay om_s om_reaches om_ringOf om_rungOf om_rings om_paid om_leftOf om_ringPaid om_mosts n)) n 0).getD ((-5 : Int32), (f_X7_pay om_s om_reaches om_ringOf om_rungOf om_rings om_paid om_leftOf om_ringPaid om_mosts n))) else ((-12 : Int32), (om_reaches, om_ringOf, om_rungOf, om_rings, r, om_paid, om_leftOf, om_ringPaid, om_paidAll, om_mosts))))
set_option maxHeartbeats 4000000 in
set_option maxRecDepth 100000 in
theorem c_X7_judgev (l : Launch) (D : va_G) (cy : Nat → ClassId) (om : Nat → Nat) (om_thrown : Int32) (om_s : Nat → Int32) (om_kept : Nat → Int32) (om_aside : Nat → Int32) (om_isKept : Int32) (om_reaches : Nat → Int32) (om_ringOf : Nat → Int32) (om_rungOf : Nat → Int32) (om_rings : Nat → Int32) (om_paid : Nat → Int32) (om_leftOf : Nat → Int32) (om_ringPaid : Nat → Int32) (om_paidAll : Int32) (om_mosts : Nat → Int32) (om_text : Nat → Int32) (om_signs : Int32) (om_at : Int32) (om_isWrong : Int32) (om_clauses : Int32) (om_letters : Nat → Int32) (om_one : Nat → Int32) (om_two : Nat → Int32) (om_three : Nat → Int32) (om_whys : Nat → Int32) (om_backs : Nat → Int32) (om_sorts : Nat → Int32) (om_sizes : Nat → Int32) (om_items : Nat → Int64) (i : Int32) (n : Nat) (r : Nat) (j : Nat) (m : Nat) (hn : n ≤ 6) (hs0 : om_s 0 = nI n) (hj6 : j < 6) (hsz : om_sizes j = nI m) (hm : m ≤ 60) : RwI (S := (Nat → Int32) × (Nat → Int32) × (Nat → Int32) × (Nat → Int32) × Nat × (Nat → Int32) × (Nat → Int32) × (Nat → Int32) × Int32 × (Nat → Int32)) l D cy yX7_judge (.code yX7_judge cX7_judge 6 (some .int)) 5 (wX7 cy om om_thrown om_s om_kept om_aside om_isKept om_reaches om_ringOf om_rungOf om_rings (nI r) om_paid om_leftOf om_ringPaid om_paidAll om_mosts om_text om_signs om_at om_isWrong om_clauses om_letters om_one om_two om_three om_whys om_backs om_sorts om_sizes om_items) [.ref (om 0), .int (nI j), .int i] (fun rr u => (rr, u) = f_X7_judgev om_s om_reaches om_ringOf om_rungOf om_rings om_paid om_leftOf om_ringPaid om_paidAll om_mosts om_sorts om_items i n r j m) (fun u => wX7 cy om om_thrown om_s om_kept om_aside om_isKept u.1 u.2.1 u.2.2.1 u.2.2.2.1 (nI u.2.2.2.2.1) u.2.2.2.2.2.1 u.2.2.2.2.2.2.1 u.2.2.2.2.2.2.2.1 u.2.2.2.2.2.2.2.2.1 u.2.2.2.2.2.2.2.2.2 om_text om_signs om_at om_isWrong om_clauses om_letters om_one om_two om_three om_whys om_backs om_sorts om_sizes om_items) := by
  intro sz
  refine Met.ofW (cc := cX7_judge) (maxL := 6) (ret := (some .int)) (by decide) rfl ?_
  intro pP eE s0 mM args below meth cC s₁ B hml hv
  obtain ⟨rfl, hsz, hP, hKX, hD0⟩ := hv
  have hx := B.exec
  have hb := B.bytes
  have hr := B.returns
  have hG := gw_hts (atoms_spec (ws := _) B.pre)
  have hown : s0.vm.findClass RX7 = some mM.cls := findClass_of_methodNamed B.named
  have hlocks := B.notSynchronized
  subst hsz
  have hD := hD0.self (sz := s0.heap.size)
  generalize hAe : va_A (wX7 cy om om_thrown om_s om_kept om_aside om_isKept om_reaches om_ringOf om_rungOf om_rings (nI r) om_paid om_leftOf om_ringPaid om_paidAll om_mosts om_text om_signs om_at om_isWrong om_clauses om_letters om_one om_two om_three om_whys om_backs om_sorts om_sizes om_items) s0.heap.size = A at hD ⊢
  have hA : ∀ q : Nat, s0.heap.size ≤ q → A q := fun q h => by rw [← hAe]; exact Or.inr h
  have hS : va_S A s0.heap s0.heap [] := va_S.rf
  have hl := lv_entry ([.ref (om 0), .int (nI j), .int i]) (n := 6) (Nat.le_of_ble_eq_true rfl)
  rw [lg_entry_eq]
  generalize (lg_sl ([.ref (om 0), .int (nI j), .int i]) ++ List.replicate (6 - (lg_sl ([.ref (om 0), .int (nI j), .int i])).length) Slot.unset).toArray = ls at hl ⊢
  have hl : lv_has ls 6 [(0, .ref (om 0)), (1, .int (nI j)), (2, .int i)] := hl
  refine lv_iload_n hx hb dX7_judge_0 rfl (lv_at hl 1 rfl) ?_
  refine cRoS mw32_4 mw32_5 mw1_5 mw32_6 hd_X7_isTape hx hb hml hown hG hKX (c_X7_isTape l D cy (nI j)) ⟨Nat.le_of_ble_eq_true rfl, Nat.le_of_ble_eq_true rfl⟩ ⟨Nat.zero_le _, Nat.zero_le _⟩ (hP.sub [] rfl) rfl hl.1 rfl (Nat.le_of_ble_eq_true rfl) dX7_judge_1 ?_
  refine lv_if_ne (tgt := 9) hx hb dX7_judge_4 (by decide) (fun c1 => ?_) (fun c1 => ?_)
  · refine lv_aload_n hx hb dX7_judge_9 rfl (lv_at hl 0 rfl) ?_
    refine gf_X7_70 hx hb hG hown hKX hP 0 rfl rfl dX7_judge_10 ?_
    refine lv_iload_n hx hb dX7_judge_13 rfl (lv_at hl 1 rfl) ?_
    refine iald_n hx hb hKX hP 19 rfl rfl (by omega) (by decide) dX7_judge_14 ?_
    refine lv_iconst (v := (-1 : Int32)) hx hb dX7_judge_15 (by decide) ?_
    refine lv_icmp_eq (tgt := 32) hx hb dX7_judge_16 (by decide) (fun c2 => ?_) (fun c2 => ?_)
    · refine lv_aload_n hx hb dX7_judge_32 rfl (lv_at hl 0 rfl) ?_
      refine cRwVV (q0 := 0) (ci := 7) mw14_9 mw14_10 mw14_11 mw1_5 mw14_12 rfl rfl hd_X7_pay hx hb hml hown hG hKX (c_X7_pay l D cy om om_thrown om_s om_kept om_aside om_isKept om_reaches om_ringOf om_rungOf om_rings (nI r) om_paid om_leftOf om_ringPaid om_paidAll om_mosts om_text om_signs om_at om_isWrong om_clauses om_letters om_one om_two om_three om_whys om_backs om_sorts om_sizes om_items n hn hs0) ⟨Nat.le_of_ble_eq_true rfl, Nat.le_of_ble_eq_true rfl⟩ ⟨Nat.zero_le _, Nat.zero_le _⟩ hP hD hS hA [0, 1, 2, 3, 4, 5, 6, 7, 8, 9, 10, 11, 12, 13, 14, 15, 16, 17, 18, 19, 20, 21] [] [0, 1, 2, 3, 4, 5, 6, 7, 8, 9, 10, 11, 12, 13, 14, 15, 16, 17, 18, 19, 20, 21] (wr := []) (wn := fun u33 => wX7 cy om om_thrown om_s om_kept om_aside om_isKept u33.1 u33.2.1 u33.2.2.1 u33.2.2.2.1 (nI u33.2.2.2.2.1) u33.2.2.2.2.2.1 u33.2.2.2.2.2.2.1 u33.2.2.2.2.2.2.2.1 u33.2.2.2.2.2.2.2.2.1 u33.2.2.2.2.2.2.2.2.2 om_text om_signs om_at om_isWrong om_clauses om_letters om_one om_two om_three om_whys om_backs om_sorts om_sizes om_items) rfl (by decide) rfl (by decide) (by decide) (fun _ => rfl) (by decide) rfl rfl hl.1 rfl (Nat.le_of_ble_eq_true rfl) dX7_judge_33 (fun u33 H locs hw33 hP hD hS => ?_)
      refine lv_iconst (v := (0 : Int32)) hx hb dX7_judge_36 (by decide) ?_
      refine lv_istore_n (lv' := [(3, .int (0 : Int32)), (0, .ref (om 0)), (1, .int (nI j)), (2, .int i)]) hx hb dX7_judge_37 rfl hl (by decide) rfl (fun ls hl => ?_)
      refine loopS (bd_X7_judgev_38 om_sorts om_items i j m u33) n (fun k38 => [(3, .int (nI k38)), (0, .ref (om 0)), (1, .int (nI j)), (2, .int i)]) (lv_sub hl [0, 1, 2, 3] rfl) (fun k38 ls hk38 hz38 hl ih38 => ?_)
      refine lv_iload_n hx hb dX7_judge_38 rfl (lv_at hl 0 rfl) ?_
      refine lv_aload_n hx hb dX7_judge_39 rfl (lv_at hl 1 rfl) ?_
      refine gf_X7_15 hx hb hG hown hKX hP 0 rfl rfl dX7_judge_40 ?_
      refine lv_iconst (v := (0 : Int32)) hx hb dX7_judge_43 (by decide) ?_
      refine iald_v hx hb hKX hP 1 rfl rfl (by decide) (by decide) hs0 dX7_judge_44 ?_
      refine lv_icmp_ge (tgt := 122) hx hb dX7_judge_45 (by decide) (fun c3 => ?_) (fun c3 => ?_)
      · have e_k38 : n = k38 := Nat.le_antisymm ((le_n (N := n) (k := k38) rfl (by omega) (by omega)).mp c3) hk38
        subst e_k38
        refine lv_bipush (v := (-5 : Int32)) hx hb dX7_judge_122 (by decide) ?_
        exact W.iret (v := (-5 : Int32)) hx hb hr (fun t ht hW => ⟨⟨(-5 : Int32), u33, rfl, by subst hw33; unfold f_X7_judgev; rw [if_neg c1, if_pos c2, srch_none hz38, Option.getD_none] <;> rfl, by rw [ht]; exact hP, hD⟩, hS.F ht⟩) hS.2.2 dX7_judge_124
      · have hlt38 : k38 < n := Nat.lt_of_not_le (fun qq_ => c3 ((le_n (N := n) (k := k38) rfl (by omega) (by omega)).mpr qq_))
        refine lv_iload_n hx hb dX7_judge_48 rfl (lv_at hl 3 rfl) ?_
        refine lv_i2l (v := ((i).toInt64)) hx hb dX7_judge_49 rfl ?_
        refine lv_iload_n hx hb dX7_judge_50 rfl (lv_at hl 0 rfl) ?_
        refine lv_i2l (v := ((nI k38).toInt64)) hx hb dX7_judge_51 rfl ?_
        refine lv_ladd hx hb dX7_judge_52 ?_
        refine lv_lstore (lv' := [(4, .long (((i).toInt64) + ((nI k38).toInt64))), (3, .int (nI k38)), (0, .ref (om 0)), (1, .int (nI j)), (2, .int i)]) hx hb dX7_judge_53 hl (by decide) rfl (fun ls hl => ?_)
        refine lv_aload_n hx hb dX7_judge_55 rfl (lv_at hl 2 rfl) ?_
        refine gf_X7_70 hx hb hG hown hKX hP 0 rfl rfl dX7_judge_56 ?_
        refine lv_iload_n hx hb dX7_judge_59 rfl (lv_at hl 3 rfl) ?_
        refine iald_n hx hb hKX hP 19 rfl rfl (by omega) (by decide) dX7_judge_60 ?_
        refine lv_iconst (v := (-1 : Int32)) hx hb dX7_judge_61 (by decide) ?_
        refine lv_icmp_eq (tgt := 85) hx hb dX7_judge_62 (by decide) (fun c4 => ?_) (fun c4 => ?_)
        · refine lv_bipush (v := (100 : Int32)) hx hb dX7_judge_85 (by decide) ?_
          refine lv_iload_n hx hb dX7_judge_87 rfl (lv_at hl 1 rfl) ?_
          refine lv_iadd hx hb dX7_judge_88 ?_
          refine topi_eq (y := nI (100 + k38)) (aN rfl rfl) ?_
          exact W.iret (v := nI (100 + k38)) hx hb hr (fun t ht hW => ⟨⟨nI (100 + k38), u33, rfl, by subst hw33; unfold f_X7_judgev; rw [if_neg c1, if_pos c2, srch_some (r := (nI (100 + k38), (f_X7_pay om_s om_reaches om_ringOf om_rungOf om_rings om_paid om_leftOf om_ringPaid om_mosts n))) hz38 hlt38 (by unfold bd_X7_judgev_38; rw [if_pos c4] <;> rfl), Option.getD_some] <;> rfl, by rw [ht]; exact hP, hD⟩, hS.F ht⟩) hS.2.2 dX7_judge_89
        · refine lv_lload hx hb dX7_judge_65 (lv_at hl 0 rfl) ?_
          refine lv_lconst (v := (0 : Int64)) hx hb dX7_judge_67 (by decide) ?_
          refine W.lcmp hx hb dX7_judge_68 ?_
          refine lv_if_lt (tgt := 85) hx hb dX7_judge_69 (by decide) (fun c5 => ?_) (fun c5 => ?_)
          · refine lv_bipush (v := (100 : Int32)) hx hb dX7_judge_85 (by decide) ?_
            refine lv_iload_n hx hb dX7_judge_87 rfl (lv_at hl 1 rfl) ?_
            refine lv_iadd hx hb dX7_judge_88 ?_
            refine topi_eq (y := nI (100 + k38)) (aN rfl rfl) ?_
            exact W.iret (v := nI (100 + k38)) hx hb hr (fun t ht hW => ⟨⟨nI (100 + k38), u33, rfl, by subst hw33; unfold f_X7_judgev; rw [if_neg c1, if_pos c2, srch_some (r := (nI (100 + k38), (f_X7_pay om_s om_reaches om_ringOf om_rungOf om_rings om_paid om_leftOf om_ringPaid om_mosts n))) hz38 hlt38 (by unfold bd_X7_judgev_38; rw [if_neg c4, if_pos c5] <;> rfl), Option.getD_some] <;> rfl, by rw [ht]; exact hP, hD⟩, hS.F ht⟩) hS.2.2 dX7_judge_89
          · refine lv_lload hx hb dX7_judge_72 (lv_at hl 0 rfl) ?_
            refine lv_aload_n hx hb dX7_judge_74 rfl (lv_at hl 2 rfl) ?_
            refine gf_X7_73 hx hb hG hown hKX hP 0 rfl rfl dX7_judge_75 ?_
            refine lv_iload_n hx hb dX7_judge_78 rfl (lv_at hl 3 rfl) ?_
            refine iald_v hx hb hKX hP 20 rfl rfl (by omega) (by decide) hsz dX7_judge_79 ?_
            refine lv_i2l (v := ((nI m).toInt64)) hx hb dX7_judge_80 rfl ?_
            refine W.lcmp hx hb dX7_judge_81 ?_
            refine lv_if_lt (tgt := 90) hx hb dX7_judge_82 (by decide) (fun c6 => ?_) (fun c6 => ?_)
            · refine lv_aload_n hx hb dX7_judge_90 rfl (lv_at hl 2 rfl) ?_
              refine gf_X7_76 hx hb hG hown hKX hP 0 rfl rfl dX7_judge_91 ?_
              refine lv_bipush (v := (60 : Int32)) hx hb dX7_judge_94 (by decide) ?_
              refine lv_iload_n hx hb dX7_judge_96 rfl (lv_at hl 3 rfl) ?_
              refine lv_imul hx hb dX7_judge_97 ?_
              refine topi_eq (y := nI (60 * j)) (mN rfl rfl) ?_
              refine lv_lload hx hb dX7_judge_98 (lv_at hl 0 rfl) ?_
              refine lv_l2i (v := (((((i).toInt64) + ((nI k38).toInt64))).toInt32)) hx hb dX7_judge_100 rfl ?_
              obtain ⟨e_j101, hlj101⟩ := jplace hm c5 c6
              generalize hgj101 : ((((i).toInt64) + ((nI k38).toInt64))).toInt32.toNatClampNeg = j101 at e_j101 hlj101
              refine topi_eq (y := nI j101) e_j101 ?_
              refine lv_iadd hx hb dX7_judge_101 ?_
              refine topi_eq (y := nI ((60 * j) + j101)) (aN rfl rfl) ?_
              refine lald_n hx hb hKX hP 21 rfl rfl (by omega) (by decide) dX7_judge_102 ?_
              refine lv_aload_n hx hb dX7_judge_103 rfl (lv_at hl 2 rfl) ?_
              refine gf_X7_37 hx hb hG hown hKX hP 0 rfl rfl dX7_judge_104 ?_
              refine lv_iload_n hx hb dX7_judge_107 rfl (lv_at hl 1 rfl) ?_
              refine iald_n hx hb hKX hP 8 rfl rfl (by omega) (by decide) dX7_judge_108 ?_
              refine lv_i2l (v := (((u33.2.2.2.2.2.1 k38)).toInt64)) hx hb dX7_judge_109 rfl ?_
              refine W.lcmp hx hb dX7_judge_110 ?_
              refine lv_if_eq (tgt := 116) hx hb dX7_judge_111 (by decide) (fun c7 => ?_) (fun c7 => ?_)
              · refine lv_iinc (v := nI (k38 + 1)) (lv' := [(3, .int (nI (k38 + 1))), (4, .long (((i).toInt64) + ((nI k38).toInt64))), (0, .ref (om 0)), (1, .int (nI j)), (2, .int i)]) hx hb dX7_judge_116 hl (k := 1) rfl (nI_1 _) (by decide) rfl (fun ls hl => ?_)
                refine lv_goto (tgt := 38) hx hb dX7_judge_119 (by decide) ?_
                exact ih38 _ hlt38 (by subst hgj101; subst hw33; unfold bd_X7_judgev_38; rw [if_neg c4, if_neg c5, if_pos c6, if_pos c7] <;> rfl) (lv_sub hl [0, 2, 3, 4] rfl)
              · refine lv_iload_n hx hb dX7_judge_114 rfl (lv_at hl 1 rfl) ?_
                exact W.iret (v := nI k38) hx hb hr (fun t ht hW => ⟨⟨nI k38, u33, rfl, by subst hgj101; subst hw33; unfold f_X7_judgev; rw [if_neg c1, if_pos c2, srch_some (r := (nI k38, (f_X7_pay om_s om_reaches om_ringOf om_rungOf om_rings om_paid om_leftOf om_ringPaid om_mosts n))) hz38 hlt38 (by unfold bd_X7_judgev_38; rw [if_neg c4, if_neg c5, if_pos c6, if_neg c7] <;> rfl), Option.getD_some] <;> rfl, by rw [ht]; exact hP, hD⟩, hS.F ht⟩) hS.2.2 dX7_judge_115
            · refine lv_bipush (v := (100 : Int32)) hx hb dX7_judge_85 (by decide) ?_
              refine lv_iload_n hx hb dX7_judge_87 rfl (lv_at hl 1 rfl) ?_
              refine lv_iadd hx hb dX7_judge_88 ?_
              refine topi_eq (y := nI (100 + k38)) (aN rfl rfl) ?_
              exact W.iret (v := nI (100 + k38)) hx hb hr (fun t ht hW => ⟨⟨nI (100 + k38), u33, rfl, by subst hw33; unfold f_X7_judgev; rw [if_neg c1, if_pos c2, srch_some (r := (nI (100 + k38), (f_X7_pay om_s om_reaches om_ringOf om_rungOf om_rings om_paid om_leftOf om_ringPaid om_mosts n))) hz38 hlt38 (by unfold bd_X7_judgev_38; rw [if_neg c4, if_neg c5, if_neg c6] <;> rfl), Option.getD_some] <;> rfl, by rw [ht]; exact hP, hD⟩, hS.F ht⟩) hS.2.2 dX7_judge_89
    · refine lv_aload_n hx hb dX7_judge_19 rfl (lv_at hl 0 rfl) ?_
      refine gf_X7_70 hx hb hG hown hKX hP 0 rfl rfl dX7_judge_20 ?_
      refine lv_iload_n hx hb dX7_judge_23 rfl (lv_at hl 1 rfl) ?_
      refine iald_n hx hb hKX hP 19 rfl rfl (by omega) (by decide) dX7_judge_24 ?_
      refine lv_iconst (v := (3 : Int32)) hx hb dX7_judge_25 (by decide) ?_
      refine lv_icmp_eq (tgt := 32) hx hb dX7_judge_26 (by decide) (fun c8 => ?_) (fun c8 => ?_)
      · refine lv_aload_n hx hb dX7_judge_32 rfl (lv_at hl 0 rfl) ?_
        refine cRwVV (q0 := 0) (ci := 7) mw14_9 mw14_10 mw14_11 mw1_5 mw14_12 rfl rfl hd_X7_pay hx hb hml hown hG hKX (c_X7_pay l D cy om om_thrown om_s om_kept om_aside om_isKept om_reaches om_ringOf om_rungOf om_rings (nI r) om_paid om_leftOf om_ringPaid om_paidAll om_mosts om_text om_signs om_at om_isWrong om_clauses om_letters om_one om_two om_three om_whys om_backs om_sorts om_sizes om_items n hn hs0) ⟨Nat.le_of_ble_eq_true rfl, Nat.le_of_ble_eq_true rfl⟩ ⟨Nat.zero_le _, Nat.zero_le _⟩ hP hD hS hA [0, 1, 2, 3, 4, 5, 6, 7, 8, 9, 10, 11, 12, 13, 14, 15, 16, 17, 18, 19, 20, 21] [] [0, 1, 2, 3, 4, 5, 6, 7, 8, 9, 10, 11, 12, 13, 14, 15, 16, 17, 18, 19, 20, 21] (wr := []) (wn := fun u33 => wX7 cy om om_thrown om_s om_kept om_aside om_isKept u33.1 u33.2.1 u33.2.2.1 u33.2.2.2.1 (nI u33.2.2.2.2.1) u33.2.2.2.2.2.1 u33.2.2.2.2.2.2.1 u33.2.2.2.2.2.2.2.1 u33.2.2.2.2.2.2.2.2.1 u33.2.2.2.2.2.2.2.2.2 om_text om_signs om_at om_isWrong om_clauses om_letters om_one om_two om_three om_whys om_backs om_sorts om_sizes om_items) rfl (by decide) rfl (by decide) (by decide) (fun _ => rfl) (by decide) rfl rfl hl.1 rfl (Nat.le_of_ble_eq_true rfl) dX7_judge_33 (fun u33 H locs hw33 hP hD hS => ?_)
        refine lv_iconst (v := (0 : Int32)) hx hb dX7_judge_36 (by decide) ?_
        refine lv_istore_n (lv' := [(3, .int (0 : Int32)), (0, .ref (om 0)), (1, .int (nI j)), (2, .int i)]) hx hb dX7_judge_37 rfl hl (by decide) rfl (fun ls hl => ?_)
        refine loopS (bd_X7_judgev_38 om_sorts om_items i j m u33) n (fun k38 => [(3, .int (nI k38)), (0, .ref (om 0)), (1, .int (nI j)), (2, .int i)]) (lv_sub hl [0, 1, 2, 3] rfl) (fun k38 ls hk38 hz38 hl ih38 => ?_)
        refine lv_iload_n hx hb dX7_judge_38 rfl (lv_at hl 0 rfl) ?_
        refine lv_aload_n hx hb dX7_judge_39 rfl (lv_at hl 1 rfl) ?_
        refine gf_X7_15 hx hb hG hown hKX hP 0 rfl rfl dX7_judge_40 ?_
        refine lv_iconst (v := (0 : Int32)) hx hb dX7_judge_43 (by decide) ?_
        refine iald_v hx hb hKX hP 1 rfl rfl (by decide) (by decide) hs0 dX7_judge_44 ?_
        refine lv_icmp_ge (tgt := 122) hx hb dX7_judge_45 (by decide) (fun c9 => ?_) (fun c9 => ?_)
        · have e_k38 : n = k38 := Nat.le_antisymm ((le_n (N := n) (k := k38) rfl (by omega) (by omega)).mp c9) hk38
          subst e_k38
          refine lv_bipush (v := (-5 : Int32)) hx hb dX7_judge_122 (by decide) ?_
          exact W.iret (v := (-5 : Int32)) hx hb hr (fun t ht hW => ⟨⟨(-5 : Int32), u33, rfl, by subst hw33; unfold f_X7_judgev; rw [if_neg c1, if_neg c2, if_pos c8, srch_none hz38, Option.getD_none] <;> rfl, by rw [ht]; exact hP, hD⟩, hS.F ht⟩) hS.2.2 dX7_judge_124
        · have hlt38 : k38 < n := Nat.lt_of_not_le (fun qq_ => c9 ((le_n (N := n) (k := k38) rfl (by omega) (by omega)).mpr qq_))
          refine lv_iload_n hx hb dX7_judge_48 rfl (lv_at hl 3 rfl) ?_
          refine lv_i2l (v := ((i).toInt64)) hx hb dX7_judge_49 rfl ?_
          refine lv_iload_n hx hb dX7_judge_50 rfl (lv_at hl 0 rfl) ?_
          refine lv_i2l (v := ((nI k38).toInt64)) hx hb dX7_judge_51 rfl ?_
          refine lv_ladd hx hb dX7_judge_52 ?_
          refine lv_lstore (lv' := [(4, .long (((i).toInt64) + ((nI k38).toInt64))), (3, .int (nI k38)), (0, .ref (om 0)), (1, .int (nI j)), (2, .int i)]) hx hb dX7_judge_53 hl (by decide) rfl (fun ls hl => ?_)
          refine lv_aload_n hx hb dX7_judge_55 rfl (lv_at hl 2 rfl) ?_
          refine gf_X7_70 hx hb hG hown hKX hP 0 rfl rfl dX7_judge_56 ?_
          refine lv_iload_n hx hb dX7_judge_59 rfl (lv_at hl 3 rfl) ?_
          refine iald_n hx hb hKX hP 19 rfl rfl (by omega) (by decide) dX7_judge_60 ?_
          refine lv_iconst (v := (-1 : Int32)) hx hb dX7_judge_61 (by decide) ?_
          refine lv_icmp_eq (tgt := 85) hx hb dX7_judge_62 (by decide) (fun c10 => ?_) (fun c10 => ?_)
          · refine lv_bipush (v := (100 : Int32)) hx hb dX7_judge_85 (by decide) ?_
            refine lv_iload_n hx hb dX7_judge_87 rfl (lv_at hl 1 rfl) ?_
            refine lv_iadd hx hb dX7_judge_88 ?_
            refine topi_eq (y := nI (100 + k38)) (aN rfl rfl) ?_
            exact W.iret (v := nI (100 + k38)) hx hb hr (fun t ht hW => ⟨⟨nI (100 + k38), u33, rfl, by subst hw33; unfold f_X7_judgev; rw [if_neg c1, if_neg c2, if_pos c8, srch_some (r := (nI (100 + k38), (f_X7_pay om_s om_reaches om_ringOf om_rungOf om_rings om_paid om_leftOf om_ringPaid om_mosts n))) hz38 hlt38 (by unfold bd_X7_judgev_38; rw [if_pos c10] <;> rfl), Option.getD_some] <;> rfl, by rw [ht]; exact hP, hD⟩, hS.F ht⟩) hS.2.2 dX7_judge_89
          · refine lv_lload hx hb dX7_judge_65 (lv_at hl 0 rfl) ?_
            refine lv_lconst (v := (0 : Int64)) hx hb dX7_judge_67 (by decide) ?_
            refine W.lcmp hx hb dX7_judge_68 ?_
            refine lv_if_lt (tgt := 85) hx hb dX7_judge_69 (by decide) (fun c11 => ?_) (fun c11 => ?_)
            · refine lv_bipush (v := (100 : Int32)) hx hb dX7_judge_85 (by decide) ?_
              refine lv_iload_n hx hb dX7_judge_87 rfl (lv_at hl 1 rfl) ?_
              refine lv_iadd hx hb dX7_judge_88 ?_
              refine topi_eq (y := nI (100 + k38)) (aN rfl rfl) ?_
              exact W.iret (v := nI (100 + k38)) hx hb hr (fun t ht hW => ⟨⟨nI (100 + k38), u33, rfl, by subst hw33; unfold f_X7_judgev; rw [if_neg c1, if_neg c2, if_pos c8, srch_some (r := (nI (100 + k38), (f_X7_pay om_s om_reaches om_ringOf om_rungOf om_rings om_paid om_leftOf om_ringPaid om_mosts n))) hz38 hlt38 (by unfold bd_X7_judgev_38; rw [if_neg c10, if_pos c11] <;> rfl), Option.getD_some] <;> rfl, by rw [ht]; exact hP, hD⟩, hS.F ht⟩) hS.2.2 dX7_judge_89
            · refine lv_lload hx hb dX7_judge_72 (lv_at hl 0 rfl) ?_
              refine lv_aload_n hx hb dX7_judge_74 rfl (lv_at hl 2 rfl) ?_
              refine gf_X7_73 hx hb hG hown hKX hP 0 rfl rfl dX7_judge_75 ?_
              refine lv_iload_n hx hb dX7_judge_78 rfl (lv_at hl 3 rfl) ?_
              refine iald_v hx hb hKX hP 20 rfl rfl (by omega) (by decide) hsz dX7_judge_79 ?_
              refine lv_i2l (v := ((nI m).toInt64)) hx hb dX7_judge_80 rfl ?_
              refine W.lcmp hx hb dX7_judge_81 ?_
              refine lv_if_lt (tgt := 90) hx hb dX7_judge_82 (by decide) (fun c12 => ?_) (fun c12 => ?_)
              · refine lv_aload_n hx hb dX7_judge_90 rfl (lv_at hl 2 rfl) ?_
                refine gf_X7_76 hx hb hG hown hKX hP 0 rfl rfl dX7_judge_91 ?_
                refine lv_bipush (v := (60 : Int32)) hx hb dX7_judge_94 (by decide) ?_
                refine lv_iload_n hx hb dX7_judge_96 rfl (lv_at hl 3 rfl) ?_
                refine lv_imul hx hb dX7_judge_97 ?_
                refine topi_eq (y := nI (60 * j)) (mN rfl rfl) ?_
                refine lv_lload hx hb dX7_judge_98 (lv_at hl 0 rfl) ?_
                refine lv_l2i (v := (((((i).toInt64) + ((nI k38).toInt64))).toInt32)) hx hb dX7_judge_100 rfl ?_
                obtain ⟨e_j101, hlj101⟩ := jplace hm c11 c12
                generalize hgj101 : ((((i).toInt64) + ((nI k38).toInt64))).toInt32.toNatClampNeg = j101 at e_j101 hlj101
                refine topi_eq (y := nI j101) e_j101 ?_
                refine lv_iadd hx hb dX7_judge_101 ?_
                refine topi_eq (y := nI ((60 * j) + j101)) (aN rfl rfl) ?_
                refine lald_n hx hb hKX hP 21 rfl rfl (by omega) (by decide) dX7_judge_102 ?_
                refine lv_aload_n hx hb dX7_judge_103 rfl (lv_at hl 2 rfl) ?_
                refine gf_X7_37 hx hb hG hown hKX hP 0 rfl rfl dX7_judge_104 ?_
                refine lv_iload_n hx hb dX7_judge_107 rfl (lv_at hl 1 rfl) ?_
                refine iald_n hx hb hKX hP 8 rfl rfl (by omega) (by decide) dX7_judge_108 ?_
                refine lv_i2l (v := (((u33.2.2.2.2.2.1 k38)).toInt64)) hx hb dX7_judge_109 rfl ?_
                refine W.lcmp hx hb dX7_judge_110 ?_
                refine lv_if_eq (tgt := 116) hx hb dX7_judge_111 (by decide) (fun c13 => ?_) (fun c13 => ?_)
                · refine lv_iinc (v := nI (k38 + 1)) (lv' := [(3, .int (nI (k38 + 1))), (4, .long (((i).toInt64) + ((nI k38).toInt64))), (0, .ref (om 0)), (1, .int (nI j)), (2, .int i)]) hx hb dX7_judge_116 hl (k := 1) rfl (nI_1 _) (by decide) rfl (fun ls hl => ?_)
                  refine lv_goto (tgt := 38) hx hb dX7_judge_119 (by decide) ?_
                  exact ih38 _ hlt38 (by subst hgj101; subst hw33; unfold bd_X7_judgev_38; rw [if_neg c10, if_neg c11, if_pos c12, if_pos c13] <;> rfl) (lv_sub hl [0, 2, 3, 4] rfl)
                · refine lv_iload_n hx hb dX7_judge_114 rfl (lv_at hl 1 rfl) ?_
                  exact W.iret (v := nI k38) hx hb hr (fun t ht hW => ⟨⟨nI k38, u33, rfl, by subst hgj101; subst hw33; unfold f_X7_judgev; rw [if_neg c1, if_neg c2, if_pos c8, srch_some (r := (nI k38, (f_X7_pay om_s om_reaches om_ringOf om_rungOf om_rings om_paid om_leftOf om_ringPaid om_mosts n))) hz38 hlt38 (by unfold bd_X7_judgev_38; rw [if_neg c10, if_neg c11, if_pos c12, if_neg c13] <;> rfl), Option.getD_some] <;> rfl, by rw [ht]; exact hP, hD⟩, hS.F ht⟩) hS.2.2 dX7_judge_115
              · refine lv_bipush (v := (100 : Int32)) hx hb dX7_judge_85 (by decide) ?_
                refine lv_iload_n hx hb dX7_judge_87 rfl (lv_at hl 1 rfl) ?_
                refine lv_iadd hx hb dX7_judge_88 ?_
                refine topi_eq (y := nI (100 + k38)) (aN rfl rfl) ?_
                exact W.iret (v := nI (100 + k38)) hx hb hr (fun t ht hW => ⟨⟨nI (100 + k38), u33, rfl, by subst hw33; unfold f_X7_judgev; rw [if_neg c1, if_neg c2, if_pos c8, srch_some (r := (nI (100 + k38), (f_X7_pay om_s om_reaches om_ringOf om_rungOf om_rings om_paid om_leftOf om_ringPaid om_mosts n))) hz38 hlt38 (by unfold bd_X7_judgev_38; rw [if_neg c10, if_neg c11, if_neg c12] <;> rfl), Option.getD_some] <;> rfl, by rw [ht]; exact hP, hD⟩, hS.F ht⟩) hS.2.2 dX7_judge_89
      · refine lv_bipush (v := (-12 : Int32)) hx hb dX7_judge_29 (by decide) ?_
        exact W.iret (v := (-12 : Int32)) hx hb hr (fun t ht hW => ⟨⟨(-12 : Int32), (om_reaches, om_ringOf, om_rungOf, om_rings, r, om_paid, om_leftOf, om_ringPaid, om_paidAll, om_mosts), rfl, by unfold f_X7_judgev; rw [if_neg c1, if_neg c2, if_neg c8] <;> rfl, by rw [ht]; exact hP, hD⟩, hS.F ht⟩) hS.2.2 dX7_judge_31
  · refine lv_iconst (v := (-1 : Int32)) hx hb dX7_judge_7 (by decide) ?_
    exact W.iret (v := (-1 : Int32)) hx hb hr (fun t ht hW => ⟨⟨(-1 : Int32), (om_reaches, om_ringOf, om_rungOf, om_rings, r, om_paid, om_leftOf, om_ringPaid, om_paidAll, om_mosts), rfl, by unfold f_X7_judgev; rw [if_pos c1] <;> rfl, by rw [ht]; exact hP, hD⟩, hS.F ht⟩) hS.2.2 dX7_judge_8
