theorem mladder_le {om_s : Nat → Int32} {om_reaches : Nat → Int32} {om_ringOf : Nat → Int32} {om_rungOf : Nat → Int32} {om_rings : Nat → Int32} {n : Nat} (hn : n ≤ 6) : (f_X7_ladder om_s om_reaches om_ringOf om_rungOf om_rings n).2.2.2.2 ≤ 6 := Nat.le_trans (lpl_len (lpl_out 6 (Nat.le_refl 6))) hn
def bd_X7_pay_77 (k32 : Nat) (u1 : (Nat → Int32) × (Nat → Int32) × (Nat → Int32) × (Nat → Int32) × Nat) (u65 : (Nat → Int32) × (Nat → Int32)) (k77 : Nat) (z77 : (Nat → Int32)) : (Nat → Int32) :=
  if (f_X7_has (u1.2.2.2.1 k32) (nI k77)) = (0 : Int32) then (upd z77 k32 ((z77 k32) + (0 : Int32))) else (upd z77 k32 ((z77 k32) + (u65.1 k77)))
def bd_X7_pay_32 (om_s : Nat → Int32) (n : Nat) (u1 : (Nat → Int32) × (Nat → Int32) × (Nat → Int32) × (Nat → Int32) × Nat) (k32 : Nat) (z32 : Int32 × (Nat → Int32) × (Nat → Int32) × (Nat → Int32) × (Nat → Int32)) : Int32 × (Nat → Int32) × (Nat → Int32) × (Nat → Int32) × (Nat → Int32) :=
  ((z32.1 + ((itr (bd_X7_pay_77 k32 u1 (f_X7_payRing om_s u1.2.2.2.1 z32.2.2.2.2 z32.2.2.2.1 ((upd z32.2.1 k32 ((om_s 1) - z32.1)) k32) n k32)) n (upd z32.2.2.1 k32 (0 : Int32))) k32)), upd z32.2.1 k32 ((om_s 1) - z32.1), (itr (bd_X7_pay_77 k32 u1 (f_X7_payRing om_s u1.2.2.2.1 z32.2.2.2.2 z32.2.2.2.1 ((upd z32.2.1 k32 ((om_s 1) - z32.1)) k32) n k32)) n (upd z32.2.2.1 k32 (0 : Int32))), (f_X7_payRing om_s u1.2.2.2.1 z32.2.2.2.2 z32.2.2.2.1 ((upd z32.2.1 k32 ((om_s 1) - z32.1)) k32) n k32).2, (f_X7_payRing om_s u1.2.2.2.1 z32.2.2.2.2 z32.2.2.2.1 ((upd z32.2.1 k32 ((om_s 1) - z32.1)) k32) n k32).1)
def bd_X7_pay_11 (k11 : Nat) (z11 : (Nat → Int32)) : (Nat → Int32) :=
  upd z11 k11 (0 : Int32)
def f_X7_pay (om_s : Nat → Int32) (om_reaches : Nat → Int32) (om_ringOf : Nat → Int32) (om_rungOf : Nat → Int32) (om_rings : Nat → Int32) (om_paid : Nat → Int32) (om_leftOf : Nat → Int32) (om_ringPaid : Nat → Int32) (om_mosts : Nat → Int32) (n : Nat) : (Nat → Int32) × (Nat → Int32) × (Nat → Int32) × (Nat → Int32) × Nat × (Nat → Int32) × (Nat → Int32) × (Nat → Int32) × Int32 × (Nat → Int32) :=
  ((f_X7_ladder om_s om_reaches om_ringOf om_rungOf om_rings n).1, (f_X7_ladder om_s om_reaches om_ringOf om_rungOf om_rings n).2.1, (f_X7_ladder om_s om_reaches om_ringOf om_rungOf om_rings n).2.2.1, (f_X7_ladder om_s om_reaches om_ringOf om_rungOf om_rings n).2.2.2.1, (f_X7_ladder om_s om_reaches om_ringOf om_rungOf om_rings n).2.2.2.2, (itr (bd_X7_pay_32 om_s n (f_X7_ladder om_s om_reaches om_ringOf om_rungOf om_rings n)) ((f_X7_ladder om_s om_reaches om_ringOf om_rungOf om_rings n).2.2.2.2) ((0 : Int32), om_leftOf, om_ringPaid, om_mosts, (itr bd_X7_pay_11 6 om_paid))).2.2.2.2, (itr (bd_X7_pay_32 om_s n (f_X7_ladder om_s om_reaches om_ringOf om_rungOf om_rings n)) ((f_X7_ladder om_s om_reaches om_ringOf om_rungOf om_rings n).2.2.2.2) ((0 : Int32), om_leftOf, om_ringPaid, om_mosts, (itr bd_X7_pay_11 6 om_paid))).2.1, (itr (bd_X7_pay_32 om_s n (f_X7_ladder om_s om_reaches om_ringOf om_rungOf om_rings n)) ((f_X7_ladder om_s om_reaches om_ringOf om_rungOf om_rings n).2.2.2.2) ((0 : Int32), om_leftOf, om_ringPaid, om_mosts, (itr bd_X7_pay_11 6 om_paid))).2.2.1, (itr (bd_X7_pay_32 om_s n (f_X7_ladder om_s om_reaches om_ringOf om_rungOf om_rings n)) ((f_X7_ladder om_s om_reaches om_ringOf om_rungOf om_rings n).2.2.2.2) ((0 : Int32), om_leftOf, om_ringPaid, om_mosts, (itr bd_X7_pay_11 6 om_paid))).1, (itr (bd_X7_pay_32 om_s n (f_X7_ladder om_s om_reaches om_ringOf om_rungOf om_rings n)) ((f_X7_ladder om_s om_reaches om_ringOf om_rungOf om_rings n).2.2.2.2) ((0 : Int32), om_leftOf, om_ringPaid, om_mosts, (itr bd_X7_pay_11 6 om_paid))).2.2.2.1)
set_option maxHeartbeats 4000000 in
set_option maxRecDepth 100000 in
theorem c_X7_pay (l : Launch) (D : va_G) (cy : Nat → ClassId) (om : Nat → Nat) (om_thrown : Int32) (om_s : Nat → Int32) (om_kept : Nat → Int32) (om_aside : Nat → Int32) (om_isKept : Int32) (om_reaches : Nat → Int32) (om_ringOf : Nat → Int32) (om_rungOf : Nat → Int32) (om_rings : Nat → Int32) (om_ringMany : Int32) (om_paid : Nat → Int32) (om_leftOf : Nat → Int32) (om_ringPaid : Nat → Int32) (om_paidAll : Int32) (om_mosts : Nat → Int32) (om_text : Nat → Int32) (om_signs : Int32) (om_at : Int32) (om_isWrong : Int32) (om_clauses : Int32) (om_letters : Nat → Int32) (om_one : Nat → Int32) (om_two : Nat → Int32) (om_three : Nat → Int32) (om_whys : Nat → Int32) (om_backs : Nat → Int32) (om_sorts : Nat → Int32) (om_sizes : Nat → Int32) (om_items : Nat → Int64) (n : Nat) (hn : n ≤ 6) (hs0 : om_s 0 = nI n) : RwV (S := (Nat → Int32) × (Nat → Int32) × (Nat → Int32) × (Nat → Int32) × Nat × (Nat → Int32) × (Nat → Int32) × (Nat → Int32) × Int32 × (Nat → Int32)) l D cy yX7_pay (.code yX7_pay cX7_pay 3 none) 4 (wX7 cy om om_thrown om_s om_kept om_aside om_isKept om_reaches om_ringOf om_rungOf om_rings om_ringMany om_paid om_leftOf om_ringPaid om_paidAll om_mosts om_text om_signs om_at om_isWrong om_clauses om_letters om_one om_two om_three om_whys om_backs om_sorts om_sizes om_items) [.ref (om 0)] (fun u => u = f_X7_pay om_s om_reaches om_ringOf om_rungOf om_rings om_paid om_leftOf om_ringPaid om_mosts n) (fun u => wX7 cy om om_thrown om_s om_kept om_aside om_isKept u.1 u.2.1 u.2.2.1 u.2.2.2.1 (nI u.2.2.2.2.1) u.2.2.2.2.2.1 u.2.2.2.2.2.2.1 u.2.2.2.2.2.2.2.1 u.2.2.2.2.2.2.2.2.1 u.2.2.2.2.2.2.2.2.2 om_text om_signs om_at om_isWrong om_clauses om_letters om_one om_two om_three om_whys om_backs om_sorts om_sizes om_items) := by
  intro sz
  refine Met.ofW (cc := cX7_pay) (maxL := 3) (ret := none) (by decide) rfl ?_
  intro pP eE s0 mM args below meth cC s₁ B hml hv
  obtain ⟨rfl, hsz, hP, hKX, hD0⟩ := hv
  have hx := B.exec
  have hb := B.bytes
  have hr := B.returns
  have hG := gw_hts (atoms_spec (ws := _) B.pre)
  have hown : s0.vm.findClass RX7 = some mM.cls := findClass_of_methodNamed B.named
  have hlocks := B.notSynchronized
  subst hsz
  have hD := hD0.self (sz := s0.heap.size)
  generalize hAe : va_A (wX7 cy om om_thrown om_s om_kept om_aside om_isKept om_reaches om_ringOf om_rungOf om_rings om_ringMany om_paid om_leftOf om_ringPaid om_paidAll om_mosts om_text om_signs om_at om_isWrong om_clauses om_letters om_one om_two om_three om_whys om_backs om_sorts om_sizes om_items) s0.heap.size = A at hD ⊢
  have hA : ∀ q : Nat, s0.heap.size ≤ q → A q := fun q h => by rw [← hAe]; exact Or.inr h
  have hS : va_S A s0.heap s0.heap [] := va_S.rf
  have hl := lv_entry ([.ref (om 0)]) (n := 3) (Nat.le_of_ble_eq_true rfl)
  rw [lg_entry_eq]
  generalize (lg_sl ([.ref (om 0)]) ++ List.replicate (3 - (lg_sl ([.ref (om 0)])).length) Slot.unset).toArray = ls at hl ⊢
  have hl : lv_has ls 3 [(0, .ref (om 0))] := hl
  refine lv_aload_n hx hb dX7_pay_0 rfl (lv_at hl 0 rfl) ?_
  refine cRwVV (q0 := 0) (ci := 7) mw14_15 mw14_16 mw14_17 mw1_5 mw14_18 rfl rfl hd_X7_ladder hx hb hml hown hG hKX (c_X7_ladder l D cy om om_thrown om_s om_kept om_aside om_isKept om_reaches om_ringOf om_rungOf om_rings om_ringMany om_paid om_leftOf om_ringPaid om_paidAll om_mosts om_text om_signs om_at om_isWrong om_clauses om_letters om_one om_two om_three om_whys om_backs om_sorts om_sizes om_items n hn hs0) ⟨Nat.le_of_ble_eq_true rfl, Nat.le_of_ble_eq_true rfl⟩ ⟨Nat.zero_le _, Nat.zero_le _⟩ hP hD hS hA [0, 1, 2, 3, 4, 5, 6, 7, 8, 9, 10, 11, 12, 13, 14, 15, 16, 17, 18, 19, 20, 21] [] [0, 1, 2, 3, 4, 5, 6, 7, 8, 9, 10, 11, 12, 13, 14, 15, 16, 17, 18, 19, 20, 21] (wr := []) (wn := fun u1 => wX7 cy om om_thrown om_s om_kept om_aside om_isKept u1.1 u1.2.1 u1.2.2.1 u1.2.2.2.1 (nI u1.2.2.2.2) om_paid om_leftOf om_ringPaid om_paidAll om_mosts om_text om_signs om_at om_isWrong om_clauses om_letters om_one om_two om_three om_whys om_backs om_sorts om_sizes om_items) rfl (by decide) rfl (by decide) (by decide) (fun _ => rfl) (by decide) rfl rfl hl.1 rfl (Nat.le_of_ble_eq_true rfl) dX7_pay_1 (fun u1 H locs hw1 hP hD hS => ?_)
  have hrl : u1.2.2.2.2 ≤ 6 := by subst hw1; exact mladder_le hn
  refine lv_aload_n hx hb dX7_pay_4 rfl (lv_at hl 0 rfl) ?_
  refine lv_iconst (v := (0 : Int32)) hx hb dX7_pay_5 (by decide) ?_
  refine pf_X7_142 hx hb hG hown hKX hP hD hS 0 rfl rfl rfl (Nat.le_of_ble_eq_true rfl) dX7_pay_6 (wn := wX7 cy om om_thrown om_s om_kept om_aside om_isKept u1.1 u1.2.1 u1.2.2.1 u1.2.2.2.1 (nI u1.2.2.2.2) om_paid om_leftOf om_ringPaid (0 : Int32) om_mosts om_text om_signs om_at om_isWrong om_clauses om_letters om_one om_two om_three om_whys om_backs om_sorts om_sizes om_items) rfl (fun H locs hP hD hS => ?_)
  refine lv_iconst (v := (0 : Int32)) hx hb dX7_pay_9 (by decide) ?_
  refine lv_istore_n (lv' := [(1, .int (0 : Int32)), (0, .ref (om 0))]) hx hb dX7_pay_10 rfl hl (by decide) rfl (fun ls hl => ?_)
  refine loopW bd_X7_pay_11 om_paid 6 (fun k11 z11 => [(1, .int (nI k11)), (0, .ref (om 0))]) (fun k11 z11 => wX7 cy om om_thrown om_s om_kept om_aside om_isKept u1.1 u1.2.1 u1.2.2.1 u1.2.2.2.1 (nI u1.2.2.2.2) z11 om_leftOf om_ringPaid (0 : Int32) om_mosts om_text om_signs om_at om_isWrong om_clauses om_letters om_one om_two om_three om_whys om_backs om_sorts om_sizes om_items) hP hD hS (lv_sub hl [0, 1] rfl) (fun k11 z11 H locs ls hk11 hz11 hP hD hS hl ih11 => ?_)
  refine lv_iload_n hx hb dX7_pay_11 rfl (lv_at hl 0 rfl) ?_
  refine lv_bipush (v := (6 : Int32)) hx hb dX7_pay_12 (by decide) ?_
  refine lv_icmp_ge (tgt := 30) hx hb dX7_pay_14 (by decide) (fun c1 => ?_) (fun c1 => ?_)
  · have e_k11 : 6 = k11 := Nat.le_antisymm ((le_n (N := 6) (k := k11) rfl (by omega) (by omega)).mp c1) hk11
    subst e_k11
    refine lv_iconst (v := (0 : Int32)) hx hb dX7_pay_30 (by decide) ?_
    refine lv_istore_n (lv' := [(1, .int (0 : Int32)), (0, .ref (om 0))]) hx hb dX7_pay_31 rfl hl (by decide) rfl (fun ls hl => ?_)
    refine loopW (bd_X7_pay_32 om_s n u1) ((0 : Int32), om_leftOf, om_ringPaid, om_mosts, z11) u1.2.2.2.2 (fun k32 z32 => [(1, .int (nI k32)), (0, .ref (om 0))]) (fun k32 z32 => wX7 cy om om_thrown om_s om_kept om_aside om_isKept u1.1 u1.2.1 u1.2.2.1 u1.2.2.2.1 (nI u1.2.2.2.2) z32.2.2.2.2 z32.2.1 z32.2.2.1 z32.1 z32.2.2.2.1 om_text om_signs om_at om_isWrong om_clauses om_letters om_one om_two om_three om_whys om_backs om_sorts om_sizes om_items) hP hD hS (lv_sub hl [0, 1] rfl) (fun k32 z32 H locs ls hk32 hz32 hP hD hS hl ih32 => ?_)
    refine lv_iload_n hx hb dX7_pay_32 rfl (lv_at hl 0 rfl) ?_
    refine lv_aload_n hx hb dX7_pay_33 rfl (lv_at hl 1 rfl) ?_
    refine gf_X7_115 hx hb hG hown hKX hP 0 rfl rfl dX7_pay_34 ?_
    refine lv_icmp_ge (tgt := 146) hx hb dX7_pay_37 (by decide) (fun c2 => ?_) (fun c2 => ?_)
    · have e_k32 : u1.2.2.2.2 = k32 := Nat.le_antisymm ((le_n (N := u1.2.2.2.2) (k := k32) rfl (by omega) (by omega)).mp c2) hk32
      subst e_k32
      exact W.vret hx hb hr (fun t ht hW => ⟨⟨(u1.1, u1.2.1, u1.2.2.1, u1.2.2.2.1, u1.2.2.2.2, z32.2.2.2.2, z32.2.1, z32.2.2.1, z32.1, z32.2.2.2.1), rfl, by subst hz32; subst hz11; subst hw1; unfold f_X7_pay; rfl, by rw [ht]; exact hP, hD⟩, hS.F ht⟩) hS.2.2 dX7_pay_146
    · have hlt32 : k32 < u1.2.2.2.2 := Nat.lt_of_not_le (fun qq_ => c2 ((le_n (N := u1.2.2.2.2) (k := k32) rfl (by omega) (by omega)).mpr qq_))
      refine lv_aload_n hx hb dX7_pay_40 rfl (lv_at hl 1 rfl) ?_
      refine gf_X7_40 hx hb hG hown hKX hP 0 rfl rfl dX7_pay_41 ?_
      refine lv_iload_n hx hb dX7_pay_44 rfl (lv_at hl 0 rfl) ?_
      refine lv_aload_n hx hb dX7_pay_45 rfl (lv_at hl 1 rfl) ?_
      refine gf_X7_15 hx hb hG hown hKX hP 0 rfl rfl dX7_pay_46 ?_
      refine lv_iconst (v := (1 : Int32)) hx hb dX7_pay_49 (by decide) ?_
      refine iald_n hx hb hKX hP 1 rfl rfl (by decide) (by decide) dX7_pay_50 ?_
      refine lv_aload_n hx hb dX7_pay_51 rfl (lv_at hl 1 rfl) ?_
      refine gf_X7_142 hx hb hG hown hKX hP 0 rfl rfl dX7_pay_52 ?_
      refine lv_isub hx hb dX7_pay_55 ?_
      refine iast_n hx hb hKX hP hD hS 9 rfl rfl (by omega) (by decide) dX7_pay_56 (fun H locs hP hD hS => ?_)
      have hP : va_P D vwCl (wX7 cy om om_thrown om_s om_kept om_aside om_isKept u1.1 u1.2.1 u1.2.2.1 u1.2.2.2.1 (nI u1.2.2.2.2) z32.2.2.2.2 (upd z32.2.1 k32 ((om_s 1) - z32.1)) z32.2.2.1 z32.1 z32.2.2.2.1 om_text om_signs om_at om_isWrong om_clauses om_letters om_one om_two om_three om_whys om_backs om_sorts om_sizes om_items) H := hP
      have hD : va_D A (wX7 cy om om_thrown om_s om_kept om_aside om_isKept u1.1 u1.2.1 u1.2.2.1 u1.2.2.2.1 (nI u1.2.2.2.2) z32.2.2.2.2 (upd z32.2.1 k32 ((om_s 1) - z32.1)) z32.2.2.1 z32.1 z32.2.2.2.1 om_text om_signs om_at om_isWrong om_clauses om_letters om_one om_two om_three om_whys om_backs om_sorts om_sizes om_items) := hD
      refine lv_aload_n hx hb dX7_pay_57 rfl (lv_at hl 1 rfl) ?_
      refine lv_iload_n hx hb dX7_pay_58 rfl (lv_at hl 0 rfl) ?_
      refine lv_aload_n hx hb dX7_pay_59 rfl (lv_at hl 1 rfl) ?_
      refine gf_X7_40 hx hb hG hown hKX hP 0 rfl rfl dX7_pay_60 ?_
      refine lv_iload_n hx hb dX7_pay_63 rfl (lv_at hl 0 rfl) ?_
      refine iald_n hx hb hKX hP 9 rfl rfl (by omega) (by decide) dX7_pay_64 ?_
      refine cRwVV (q0 := 0) (ci := 7) mw15_10 mw15_11 mw15_12 mw1_5 mw15_13 rfl rfl hd_X7_payRing hx hb hml hown hG hKX (c_X7_payRing l D cy om om_thrown om_s om_kept om_aside om_isKept u1.1 u1.2.1 u1.2.2.1 u1.2.2.2.1 (nI u1.2.2.2.2) z32.2.2.2.2 (upd z32.2.1 k32 ((om_s 1) - z32.1)) z32.2.2.1 z32.1 z32.2.2.2.1 om_text om_signs om_at om_isWrong om_clauses om_letters om_one om_two om_three om_whys om_backs om_sorts om_sizes om_items ((upd z32.2.1 k32 ((om_s 1) - z32.1)) k32) n k32 hn hs0 (by omega)) ⟨Nat.le_of_ble_eq_true rfl, Nat.le_of_ble_eq_true rfl⟩ ⟨Nat.zero_le _, Nat.zero_le _⟩ hP hD hS hA [0, 1, 2, 3, 4, 5, 6, 7, 8, 9, 10, 11, 12, 13, 14, 15, 16, 17, 18, 19, 20, 21] [] [0, 1, 2, 3, 4, 5, 6, 7, 8, 9, 10, 11, 12, 13, 14, 15, 16, 17, 18, 19, 20, 21] (wr := []) (wn := fun u65 => wX7 cy om om_thrown om_s om_kept om_aside om_isKept u1.1 u1.2.1 u1.2.2.1 u1.2.2.2.1 (nI u1.2.2.2.2) u65.1 (upd z32.2.1 k32 ((om_s 1) - z32.1)) z32.2.2.1 z32.1 u65.2 om_text om_signs om_at om_isWrong om_clauses om_letters om_one om_two om_three om_whys om_backs om_sorts om_sizes om_items) rfl (by decide) rfl (by decide) (by decide) (fun _ => rfl) (by decide) rfl rfl hl.1 rfl (Nat.le_of_ble_eq_true rfl) dX7_pay_65 (fun u65 H locs hw65 hP hD hS => ?_)
      refine lv_aload_n hx hb dX7_pay_68 rfl (lv_at hl 1 rfl) ?_
      refine gf_X7_43 hx hb hG hown hKX hP 0 rfl rfl dX7_pay_69 ?_
      refine lv_iload_n hx hb dX7_pay_72 rfl (lv_at hl 0 rfl) ?_
      refine lv_iconst (v := (0 : Int32)) hx hb dX7_pay_73 (by decide) ?_
      refine iast_n hx hb hKX hP hD hS 10 rfl rfl (by omega) (by decide) dX7_pay_74 (fun H locs hP hD hS => ?_)
      have hP : va_P D vwCl (wX7 cy om om_thrown om_s om_kept om_aside om_isKept u1.1 u1.2.1 u1.2.2.1 u1.2.2.2.1 (nI u1.2.2.2.2) u65.1 (upd z32.2.1 k32 ((om_s 1) - z32.1)) (upd z32.2.2.1 k32 (0 : Int32)) z32.1 u65.2 om_text om_signs om_at om_isWrong om_clauses om_letters om_one om_two om_three om_whys om_backs om_sorts om_sizes om_items) H := hP
      have hD : va_D A (wX7 cy om om_thrown om_s om_kept om_aside om_isKept u1.1 u1.2.1 u1.2.2.1 u1.2.2.2.1 (nI u1.2.2.2.2) u65.1 (upd z32.2.1 k32 ((om_s 1) - z32.1)) (upd z32.2.2.1 k32 (0 : Int32)) z32.1 u65.2 om_text om_signs om_at om_isWrong om_clauses om_letters om_one om_two om_three om_whys om_backs om_sorts om_sizes om_items) := hD
      refine lv_iconst (v := (0 : Int32)) hx hb dX7_pay_75 (by decide) ?_
      refine lv_istore_n (lv' := [(2, .int (0 : Int32)), (1, .int (nI k32)), (0, .ref (om 0))]) hx hb dX7_pay_76 rfl hl (by decide) rfl (fun ls hl => ?_)
      refine loopW (bd_X7_pay_77 k32 u1 u65) (upd z32.2.2.1 k32 (0 : Int32)) n (fun k77 z77 => [(2, .int (nI k77)), (1, .int (nI k32)), (0, .ref (om 0))]) (fun k77 z77 => wX7 cy om om_thrown om_s om_kept om_aside om_isKept u1.1 u1.2.1 u1.2.2.1 u1.2.2.2.1 (nI u1.2.2.2.2) u65.1 (upd z32.2.1 k32 ((om_s 1) - z32.1)) z77 z32.1 u65.2 om_text om_signs om_at om_isWrong om_clauses om_letters om_one om_two om_three om_whys om_backs om_sorts om_sizes om_items) hP hD hS (lv_sub hl [0, 1, 2] rfl) (fun k77 z77 H locs ls hk77 hz77 hP hD hS hl ih77 => ?_)
      refine lv_iload_n hx hb dX7_pay_77 rfl (lv_at hl 0 rfl) ?_
      refine lv_aload_n hx hb dX7_pay_78 rfl (lv_at hl 2 rfl) ?_
      refine gf_X7_15 hx hb hG hown hKX hP 0 rfl rfl dX7_pay_79 ?_
      refine lv_iconst (v := (0 : Int32)) hx hb dX7_pay_82 (by decide) ?_
      refine iald_v hx hb hKX hP 1 rfl rfl (by decide) (by decide) hs0 dX7_pay_83 ?_
      refine lv_icmp_ge (tgt := 125) hx hb dX7_pay_84 (by decide) (fun c3 => ?_) (fun c3 => ?_)
      · have e_k77 : n = k77 := Nat.le_antisymm ((le_n (N := n) (k := k77) rfl (by omega) (by omega)).mp c3) hk77
        subst e_k77
        refine lv_aload_n hx hb dX7_pay_125 rfl (lv_at hl 2 rfl) ?_
        refine lv_dup hx hb dX7_pay_126 rfl ?_
        refine gf_X7_142 hx hb hG hown hKX hP 0 rfl rfl dX7_pay_127 ?_
        refine lv_aload_n hx hb dX7_pay_130 rfl (lv_at hl 2 rfl) ?_
        refine gf_X7_43 hx hb hG hown hKX hP 0 rfl rfl dX7_pay_131 ?_
        refine lv_iload_n hx hb dX7_pay_134 rfl (lv_at hl 1 rfl) ?_
        refine iald_n hx hb hKX hP 10 rfl rfl (by omega) (by decide) dX7_pay_135 ?_
        refine lv_iadd hx hb dX7_pay_136 ?_
        refine pf_X7_142 hx hb hG hown hKX hP hD hS 0 rfl rfl rfl (Nat.le_of_ble_eq_true rfl) dX7_pay_137 (wn := wX7 cy om om_thrown om_s om_kept om_aside om_isKept u1.1 u1.2.1 u1.2.2.1 u1.2.2.2.1 (nI u1.2.2.2.2) u65.1 (upd z32.2.1 k32 ((om_s 1) - z32.1)) z77 (z32.1 + (z77 k32)) u65.2 om_text om_signs om_at om_isWrong om_clauses om_letters om_one om_two om_three om_whys om_backs om_sorts om_sizes om_items) rfl (fun H locs hP hD hS => ?_)
        refine lv_iinc (v := nI (k32 + 1)) (lv' := [(1, .int (nI (k32 + 1))), (2, .int (nI n)), (0, .ref (om 0))]) hx hb dX7_pay_140 hl (k := 1) rfl (nI_1 _) (by decide) rfl (fun ls hl => ?_)
        refine lv_goto (tgt := 32) hx hb dX7_pay_143 (by decide) ?_
        exact ih32 ((z32.1 + (z77 k32)), upd z32.2.1 k32 ((om_s 1) - z32.1), z77, u65.2, u65.1) _ _ _ hlt32 (by subst hz77; subst hw65; subst hz11; subst hw1; unfold bd_X7_pay_32; rfl) hP hD hS (lv_sub hl [0, 2] rfl)
      · have hlt77 : k77 < n := Nat.lt_of_not_le (fun qq_ => c3 ((le_n (N := n) (k := k77) rfl (by omega) (by omega)).mpr qq_))
        refine lv_aload_n hx hb dX7_pay_87 rfl (lv_at hl 2 rfl) ?_
        refine gf_X7_43 hx hb hG hown hKX hP 0 rfl rfl dX7_pay_88 ?_
        refine lv_iload_n hx hb dX7_pay_91 rfl (lv_at hl 1 rfl) ?_
        refine lv_dup2_11 hx hb dX7_pay_92 rfl rfl ?_
        refine iald_n hx hb hKX hP 10 rfl rfl (by omega) (by decide) dX7_pay_93 ?_
        refine lv_aload_n hx hb dX7_pay_94 rfl (lv_at hl 2 rfl) ?_
        refine gf_X7_34 hx hb hG hown hKX hP 0 rfl rfl dX7_pay_95 ?_
        refine lv_iload_n hx hb dX7_pay_98 rfl (lv_at hl 1 rfl) ?_
        refine iald_n hx hb hKX hP 7 rfl rfl (by omega) (by decide) dX7_pay_99 ?_
        refine lv_iload_n hx hb dX7_pay_100 rfl (lv_at hl 0 rfl) ?_
        refine cRoS mw14_23 mw15_0 mw1_5 mw15_1 hd_X7_has hx hb hml hown hG hKX (c_X7_has l D cy (u1.2.2.2.1 k32) (nI k77)) ⟨Nat.le_of_ble_eq_true rfl, Nat.le_of_ble_eq_true rfl⟩ ⟨Nat.zero_le _, Nat.zero_le _⟩ (hP.sub [] rfl) rfl hl.1 rfl (Nat.le_of_ble_eq_true rfl) dX7_pay_101 ?_
        refine lv_if_eq (tgt := 116) hx hb dX7_pay_104 (by decide) (fun c4 => ?_) (fun c4 => ?_)
        · refine lv_iconst (v := (0 : Int32)) hx hb dX7_pay_116 (by decide) ?_
          refine lv_iadd hx hb dX7_pay_117 ?_
          refine iast_n hx hb hKX hP hD hS 10 rfl rfl (by omega) (by decide) dX7_pay_118 (fun H locs hP hD hS => ?_)
          have hP : va_P D vwCl (wX7 cy om om_thrown om_s om_kept om_aside om_isKept u1.1 u1.2.1 u1.2.2.1 u1.2.2.2.1 (nI u1.2.2.2.2) u65.1 (upd z32.2.1 k32 ((om_s 1) - z32.1)) (upd z77 k32 ((z77 k32) + (0 : Int32))) z32.1 u65.2 om_text om_signs om_at om_isWrong om_clauses om_letters om_one om_two om_three om_whys om_backs om_sorts om_sizes om_items) H := hP
          have hD : va_D A (wX7 cy om om_thrown om_s om_kept om_aside om_isKept u1.1 u1.2.1 u1.2.2.1 u1.2.2.2.1 (nI u1.2.2.2.2) u65.1 (upd z32.2.1 k32 ((om_s 1) - z32.1)) (upd z77 k32 ((z77 k32) + (0 : Int32))) z32.1 u65.2 om_text om_signs om_at om_isWrong om_clauses om_letters om_one om_two om_three om_whys om_backs om_sorts om_sizes om_items) := hD
          refine lv_iinc (v := nI (k77 + 1)) (lv' := [(2, .int (nI (k77 + 1))), (1, .int (nI k32)), (0, .ref (om 0))]) hx hb dX7_pay_119 hl (k := 0) rfl (nI_1 _) (by decide) rfl (fun ls hl => ?_)
          refine lv_goto (tgt := 77) hx hb dX7_pay_122 (by decide) ?_
          exact ih77 (upd z77 k32 ((z77 k32) + (0 : Int32))) _ _ _ hlt77 (by subst hw65; subst hz11; subst hw1; unfold bd_X7_pay_77; rw [if_pos c4] <;> rfl) hP hD hS (lv_sub hl [0, 1, 2] rfl)
        · refine lv_aload_n hx hb dX7_pay_107 rfl (lv_at hl 2 rfl) ?_
          refine gf_X7_37 hx hb hG hown hKX hP 0 rfl rfl dX7_pay_108 ?_
          refine lv_iload_n hx hb dX7_pay_111 rfl (lv_at hl 0 rfl) ?_
          refine iald_n hx hb hKX hP 8 rfl rfl (by omega) (by decide) dX7_pay_112 ?_
          refine lv_goto (tgt := 117) hx hb dX7_pay_113 (by decide) ?_
          refine lv_iadd hx hb dX7_pay_117 ?_
          refine iast_n hx hb hKX hP hD hS 10 rfl rfl (by omega) (by decide) dX7_pay_118 (fun H locs hP hD hS => ?_)
          have hP : va_P D vwCl (wX7 cy om om_thrown om_s om_kept om_aside om_isKept u1.1 u1.2.1 u1.2.2.1 u1.2.2.2.1 (nI u1.2.2.2.2) u65.1 (upd z32.2.1 k32 ((om_s 1) - z32.1)) (upd z77 k32 ((z77 k32) + (u65.1 k77))) z32.1 u65.2 om_text om_signs om_at om_isWrong om_clauses om_letters om_one om_two om_three om_whys om_backs om_sorts om_sizes om_items) H := hP
          have hD : va_D A (wX7 cy om om_thrown om_s om_kept om_aside om_isKept u1.1 u1.2.1 u1.2.2.1 u1.2.2.2.1 (nI u1.2.2.2.2) u65.1 (upd z32.2.1 k32 ((om_s 1) - z32.1)) (upd z77 k32 ((z77 k32) + (u65.1 k77))) z32.1 u65.2 om_text om_signs om_at om_isWrong om_clauses om_letters om_one om_two om_three om_whys om_backs om_sorts om_sizes om_items) := hD
          refine lv_iinc (v := nI (k77 + 1)) (lv' := [(2, .int (nI (k77 + 1))), (1, .int (nI k32)), (0, .ref (om 0))]) hx hb dX7_pay_119 hl (k := 0) rfl (nI_1 _) (by decide) rfl (fun ls hl => ?_)
          refine lv_goto (tgt := 77) hx hb dX7_pay_122 (by decide) ?_
          exact ih77 (upd z77 k32 ((z77 k32) + (u65.1 k77))) _ _ _ hlt77 (by subst hw65; subst hz11; subst hw1; unfold bd_X7_pay_77; rw [if_neg c4] <;> rfl) hP hD hS (lv_sub hl [0, 1, 2] rfl)
  · have hlt11 : k11 < 6 := Nat.lt_of_not_le (fun qq_ => c1 ((le_n (N := 6) (k := k11) rfl (by omega) (by omega)).mpr qq_))
    refine lv_aload_n hx hb dX7_pay_17 rfl (lv_at hl 1 rfl) ?_
    refine gf_X7_37 hx hb hG hown hKX hP 0 rfl rfl dX7_pay_18 ?_
    refine lv_iload_n hx hb dX7_pay_21 rfl (lv_at hl 0 rfl) ?_
    refine lv_iconst (v := (0 : Int32)) hx hb dX7_pay_22 (by decide) ?_
    refine iast_n hx hb hKX hP hD hS 8 rfl rfl (by omega) (by decide) dX7_pay_23 (fun H locs hP hD hS => ?_)
    have hP : va_P D vwCl (wX7 cy om om_thrown om_s om_kept om_aside om_isKept u1.1 u1.2.1 u1.2.2.1 u1.2.2.2.1 (nI u1.2.2.2.2) (upd z11 k11 (0 : Int32)) om_leftOf om_ringPaid (0 : Int32) om_mosts om_text om_signs om_at om_isWrong om_clauses om_letters om_one om_two om_three om_whys om_backs om_sorts om_sizes om_items) H := hP
    have hD : va_D A (wX7 cy om om_thrown om_s om_kept om_aside om_isKept u1.1 u1.2.1 u1.2.2.1 u1.2.2.2.1 (nI u1.2.2.2.2) (upd z11 k11 (0 : Int32)) om_leftOf om_ringPaid (0 : Int32) om_mosts om_text om_signs om_at om_isWrong om_clauses om_letters om_one om_two om_three om_whys om_backs om_sorts om_sizes om_items) := hD
    refine lv_iinc (v := nI (k11 + 1)) (lv' := [(1, .int (nI (k11 + 1))), (0, .ref (om 0))]) hx hb dX7_pay_24 hl (k := 0) rfl (nI_1 _) (by decide) rfl (fun ls hl => ?_)
    refine lv_goto (tgt := 11) hx hb dX7_pay_27 (by decide) ?_
    exact ih11 (upd z11 k11 (0 : Int32)) _ _ _ hlt11 (by subst hw1; unfold bd_X7_pay_11; rfl) hP hD hS (lv_sub hl [0, 1] rfl)
