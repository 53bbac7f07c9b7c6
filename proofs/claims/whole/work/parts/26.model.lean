def f_X7_contract (om_s : Nat → Int32) (kind : Int32) (lim : Int32) (ret : Int32) (n : Nat) : Int32 × (Nat → Int32) :=
  if (f_X7_in ((kind).toInt64) (0 : Int64) (3 : Int64)) = (0 : Int32) then ((-2 : Int32), om_s) else (if (f_X7_in ((lim).toInt64) (0 : Int64) (99 : Int64)) = (0 : Int32) then ((-2 : Int32), om_s) else (if (f_X7_in ((ret).toInt64) (0 : Int64) (20 : Int64)) = (0 : Int32) then ((-2 : Int32), om_s) else (if nI n = (6 : Int32) then ((-4 : Int32), om_s) else (nI n, upd (upd (upd (upd (upd (upd om_s (5 + n) kind) (11 + n) lim) (17 + n) ret) (23 + n) (100 : Int32)) (29 + n) (0 : Int32)) 0 (((upd (upd (upd (upd (upd om_s (5 + n) kind) (11 + n) lim) (17 + n) ret) (23 + n) (100 : Int32)) (29 + n) (0 : Int32)) 0) + (1 : Int32))))))
set_option maxHeartbeats 4000000 in
set_option maxRecDepth 100000 in
theorem c_X7_contract (l : Launch) (D : va_G) (cy : Nat → ClassId) (om : Nat → Nat) (om_thrown : Int32) (om_s : Nat → Int32) (om_kept : Nat → Int32) (om_aside : Nat → Int32) (om_isKept : Int32) (om_reaches : Nat → Int32) (om_ringOf : Nat → Int32) (om_rungOf : Nat → Int32) (om_rings : Nat → Int32) (om_ringMany : Int32) (om_paid : Nat → Int32) (om_leftOf : Nat → Int32) (om_ringPaid : Nat → Int32) (om_paidAll : Int32) (om_mosts : Nat → Int32) (om_text : Nat → Int32) (om_signs : Int32) (om_at : Int32) (om_isWrong : Int32) (om_clauses : Int32) (om_letters : Nat → Int32) (om_one : Nat → Int32) (om_two : Nat → Int32) (om_three : Nat → Int32) (om_whys : Nat → Int32) (om_backs : Nat → Int32) (om_sorts : Nat → Int32) (om_sizes : Nat → Int32) (om_items : Nat → Int64) (kind : Int32) (lim : Int32) (ret : Int32) (n : Nat) (hn : n ≤ 6) (hs0 : om_s 0 = nI n) : RwI (S := (Nat → Int32)) l D cy yX7_contract (.code yX7_contract cX7_contract 5 (some .int)) 1 (wX7 cy om om_thrown om_s om_kept om_aside om_isKept om_reaches om_ringOf om_rungOf om_rings om_ringMany om_paid om_leftOf om_ringPaid om_paidAll om_mosts om_text om_signs om_at om_isWrong om_clauses om_letters om_one om_two om_three om_whys om_backs om_sorts om_sizes om_items) [.ref (om 0), .int kind, .int lim, .int ret] (fun rr u => (rr, u) = f_X7_contract om_s kind lim ret n) (fun u => wX7 cy om om_thrown u om_kept om_aside om_isKept om_reaches om_ringOf om_rungOf om_rings om_ringMany om_paid om_leftOf om_ringPaid om_paidAll om_mosts om_text om_signs om_at om_isWrong om_clauses om_letters om_one om_two om_three om_whys om_backs om_sorts om_sizes om_items) := by
  intro sz
  refine Met.ofW (cc := cX7_contract) (maxL := 5) (ret := (some .int)) (by decide) rfl ?_
  intro pP eE s0 mM args below meth cC s₁ B hml hv
  obtain ⟨rfl, hsz, hP, hKX, hD0⟩ := hv
  have hx := B.exec
  have hb := B.bytes
  have hr := B.returns
  have hG := gw_hts (atoms_spec (ws := _) B.pre)
  have hown : s0.vm.findClass RX7 = some mM.cls := findClass_of_methodNamed B.named
  have hlocks := B.notSynchronized
  subst hsz
  have hD := hD0.self (sz := s0.heap.size)
  generalize hAe : va_A (wX7 cy om om_thrown om_s om_kept om_aside om_isKept om_reaches om_ringOf om_rungOf om_rings om_ringMany om_paid om_leftOf om_ringPaid om_paidAll om_mosts om_text om_signs om_at om_isWrong om_clauses om_letters om_one om_two om_three om_whys om_backs om_sorts om_sizes om_items) s0.heap.size = A at hD ⊢
  have hA : ∀ q : Nat, s0.heap.size ≤ q → A q := fun q h => by rw [← hAe]; exact Or.inr h
  have hS : va_S A s0.heap s0.heap [] := va_S.rf
  have hl := lv_entry ([.ref (om 0), .int kind, .int lim, .int ret]) (n := 5) (Nat.le_of_ble_eq_true rfl)
  rw [lg_entry_eq]
  generalize (lg_sl ([.ref (om 0), .int kind, .int lim, .int ret]) ++ List.replicate (5 - (lg_sl ([.ref (om 0), .int kind, .int lim, .int ret])).length) Slot.unset).toArray = ls at hl ⊢
  have hl : lv_has ls 5 [(0, .ref (om 0)), (1, .int kind), (2, .int lim), (3, .int ret)] := hl
  refine lv_iload_n hx hb dX7_contract_0 rfl (lv_at hl 1 rfl) ?_
  refine lv_i2l (v := ((kind).toInt64)) hx hb dX7_contract_1 rfl ?_
  refine lv_lconst (v := (0 : Int64)) hx hb dX7_contract_2 (by decide) ?_
  refine lv_ldc2 (v := (3 : Int64)) hx hb hown (hG _ mw7_0) dX7_contract_3 ?_
  refine cRoS mw7_3 mw7_4 mw1_5 mw7_5 hd_X7_in hx hb hml hown hG hKX (c_X7_in l D cy ((kind).toInt64) (0 : Int64) (3 : Int64)) ⟨Nat.le_of_ble_eq_true rfl, Nat.le_of_ble_eq_true rfl⟩ ⟨Nat.zero_le _, Nat.zero_le _⟩ (hP.sub [] rfl) rfl hl.1 rfl (Nat.le_of_ble_eq_true rfl) dX7_contract_6 ?_
  refine lv_if_eq (tgt := 36) hx hb dX7_contract_9 (by decide) (fun c1 => ?_) (fun c1 => ?_)
  · refine lv_bipush (v := (-2 : Int32)) hx hb dX7_contract_36 (by decide) ?_
    exact W.iret (v := (-2 : Int32)) hx hb hr (fun t ht hW => ⟨⟨(-2 : Int32), om_s, rfl, by unfold f_X7_contract; rw [if_pos c1] <;> rfl, by rw [ht]; exact hP, hD⟩, hS.F ht⟩) hS.2.2 dX7_contract_38
  · refine lv_iload_n hx hb dX7_contract_12 rfl (lv_at hl 2 rfl) ?_
    refine lv_i2l (v := ((lim).toInt64)) hx hb dX7_contract_13 rfl ?_
    refine lv_lconst (v := (0 : Int64)) hx hb dX7_contract_14 (by decide) ?_
    refine lv_ldc2 (v := (99 : Int64)) hx hb hown (hG _ mw7_1) dX7_contract_15 ?_
    refine cRoS mw7_3 mw7_4 mw1_5 mw7_5 hd_X7_in hx hb hml hown hG hKX (c_X7_in l D cy ((lim).toInt64) (0 : Int64) (99 : Int64)) ⟨Nat.le_of_ble_eq_true rfl, Nat.le_of_ble_eq_true rfl⟩ ⟨Nat.zero_le _, Nat.zero_le _⟩ (hP.sub [] rfl) rfl hl.1 rfl (Nat.le_of_ble_eq_true rfl) dX7_contract_18 ?_
    refine lv_if_eq (tgt := 36) hx hb dX7_contract_21 (by decide) (fun c2 => ?_) (fun c2 => ?_)
    · refine lv_bipush (v := (-2 : Int32)) hx hb dX7_contract_36 (by decide) ?_
      exact W.iret (v := (-2 : Int32)) hx hb hr (fun t ht hW => ⟨⟨(-2 : Int32), om_s, rfl, by unfold f_X7_contract; rw [if_neg c1, if_pos c2] <;> rfl, by rw [ht]; exact hP, hD⟩, hS.F ht⟩) hS.2.2 dX7_contract_38
    · refine lv_iload_n hx hb dX7_contract_24 rfl (lv_at hl 3 rfl) ?_
      refine lv_i2l (v := ((ret).toInt64)) hx hb dX7_contract_25 rfl ?_
      refine lv_lconst (v := (0 : Int64)) hx hb dX7_contract_26 (by decide) ?_
      refine lv_ldc2 (v := (20 : Int64)) hx hb hown (hG _ mw7_2) dX7_contract_27 ?_
      refine cRoS mw7_3 mw7_4 mw1_5 mw7_5 hd_X7_in hx hb hml hown hG hKX (c_X7_in l D cy ((ret).toInt64) (0 : Int64) (20 : Int64)) ⟨Nat.le_of_ble_eq_true rfl, Nat.le_of_ble_eq_true rfl⟩ ⟨Nat.zero_le _, Nat.zero_le _⟩ (hP.sub [] rfl) rfl hl.1 rfl (Nat.le_of_ble_eq_true rfl) dX7_contract_30 ?_
      refine lv_if_ne (tgt := 39) hx hb dX7_contract_33 (by decide) (fun c3 => ?_) (fun c3 => ?_)
      · refine lv_aload_n hx hb dX7_contract_39 rfl (lv_at hl 0 rfl) ?_
        refine gf_X7_15 hx hb hG hown hKX hP 0 rfl rfl dX7_contract_40 ?_
        refine lv_iconst (v := (0 : Int32)) hx hb dX7_contract_43 (by decide) ?_
        refine iald_v hx hb hKX hP 1 rfl rfl (by decide) (by decide) hs0 dX7_contract_44 ?_
        refine lv_bipush (v := (6 : Int32)) hx hb dX7_contract_45 (by decide) ?_
        refine lv_icmp_ne (tgt := 53) hx hb dX7_contract_47 (by decide) (fun c4 => ?_) (fun c4 => ?_)
        · have hn6 : n < 6 := by have h9 : n ≠ 6 := fun q => c4 (by rw [q]; rfl); omega
          refine lv_aload_n hx hb dX7_contract_53 rfl (lv_at hl 0 rfl) ?_
          refine gf_X7_15 hx hb hG hown hKX hP 0 rfl rfl dX7_contract_54 ?_
          refine lv_iconst (v := (0 : Int32)) hx hb dX7_contract_57 (by decide) ?_
          refine iald_v hx hb hKX hP 1 rfl rfl (by decide) (by decide) hs0 dX7_contract_58 ?_
          refine lv_istore (lv' := [(4, .int (nI n)), (0, .ref (om 0)), (1, .int kind), (2, .int lim), (3, .int ret)]) hx hb dX7_contract_59 hl (by decide) rfl (fun ls hl => ?_)
          refine lv_aload_n hx hb dX7_contract_61 rfl (lv_at hl 1 rfl) ?_
          refine gf_X7_15 hx hb hG hown hKX hP 0 rfl rfl dX7_contract_62 ?_
          refine lv_iconst (v := (5 : Int32)) hx hb dX7_contract_65 (by decide) ?_
          refine lv_iload hx hb dX7_contract_66 (lv_at hl 0 rfl) ?_
          refine lv_iadd hx hb dX7_contract_68 ?_
          refine topi_eq (y := nI (5 + n)) (aN rfl rfl) ?_
          refine lv_iload_n hx hb dX7_contract_69 rfl (lv_at hl 2 rfl) ?_
          refine iast_n hx hb hKX hP hD hS 1 rfl rfl (by omega) (by decide) dX7_contract_70 (fun H locs hP hD hS => ?_)
          have hP : va_P D vwCl (wX7 cy om om_thrown (upd om_s (5 + n) kind) om_kept om_aside om_isKept om_reaches om_ringOf om_rungOf om_rings om_ringMany om_paid om_leftOf om_ringPaid om_paidAll om_mosts om_text om_signs om_at om_isWrong om_clauses om_letters om_one om_two om_three om_whys om_backs om_sorts om_sizes om_items) H := hP
          have hD : va_D A (wX7 cy om om_thrown (upd om_s (5 + n) kind) om_kept om_aside om_isKept om_reaches om_ringOf om_rungOf om_rings om_ringMany om_paid om_leftOf om_ringPaid om_paidAll om_mosts om_text om_signs om_at om_isWrong om_clauses om_letters om_one om_two om_three om_whys om_backs om_sorts om_sizes om_items) := hD
          refine lv_aload_n hx hb dX7_contract_71 rfl (lv_at hl 1 rfl) ?_
          refine gf_X7_15 hx hb hG hown hKX hP 0 rfl rfl dX7_contract_72 ?_
          refine lv_bipush (v := (11 : Int32)) hx hb dX7_contract_75 (by decide) ?_
          refine lv_iload hx hb dX7_contract_77 (lv_at hl 0 rfl) ?_
          refine lv_iadd hx hb dX7_contract_79 ?_
          refine topi_eq (y := nI (11 + n)) (aN rfl rfl) ?_
          refine lv_iload_n hx hb dX7_contract_80 rfl (lv_at hl 3 rfl) ?_
          refine iast_n hx hb hKX hP hD hS 1 rfl rfl (by omega) (by decide) dX7_contract_81 (fun H locs hP hD hS => ?_)
          have hP : va_P D vwCl (wX7 cy om om_thrown (upd (upd om_s (5 + n) kind) (11 + n) lim) om_kept om_aside om_isKept om_reaches om_ringOf om_rungOf om_rings om_ringMany om_paid om_leftOf om_ringPaid om_paidAll om_mosts om_text om_signs om_at om_isWrong om_clauses om_letters om_one om_two om_three om_whys om_backs om_sorts om_sizes om_items) H := hP
          have hD : va_D A (wX7 cy om om_thrown (upd (upd om_s (5 + n) kind) (11 + n) lim) om_kept om_aside om_isKept om_reaches om_ringOf om_rungOf om_rings om_ringMany om_paid om_leftOf om_ringPaid om_paidAll om_mosts om_text om_signs om_at om_isWrong om_clauses om_letters om_one om_two om_three om_whys om_backs om_sorts om_sizes om_items) := hD
          refine lv_aload_n hx hb dX7_contract_82 rfl (lv_at hl 1 rfl) ?_
          refine gf_X7_15 hx hb hG hown hKX hP 0 rfl rfl dX7_contract_83 ?_
          refine lv_bipush (v := (17 : Int32)) hx hb dX7_contract_86 (by decide) ?_
          refine lv_iload hx hb dX7_contract_88 (lv_at hl 0 rfl) ?_
          refine lv_iadd hx hb dX7_contract_90 ?_
          refine topi_eq (y := nI (17 + n)) (aN rfl rfl) ?_
          refine lv_iload_n hx hb dX7_contract_91 rfl (lv_at hl 4 rfl) ?_
          refine iast_n hx hb hKX hP hD hS 1 rfl rfl (by omega) (by decide) dX7_contract_92 (fun H locs hP hD hS => ?_)
          have hP : va_P D vwCl (wX7 cy om om_thrown (upd (upd (upd om_s (5 + n) kind) (11 + n) lim) (17 + n) ret) om_kept om_aside om_isKept om_reaches om_ringOf om_rungOf om_rings om_ringMany om_paid om_leftOf om_ringPaid om_paidAll om_mosts om_text om_signs om_at om_isWrong om_clauses om_letters om_one om_two om_three om_whys om_backs om_sorts om_sizes om_items) H := hP
          have hD : va_D A (wX7 cy om om_thrown (upd (upd (upd om_s (5 + n) kind) (11 + n) lim) (17 + n) ret) om_kept om_aside om_isKept om_reaches om_ringOf om_rungOf om_rings om_ringMany om_paid om_leftOf om_ringPaid om_paidAll om_mosts om_text om_signs om_at om_isWrong om_clauses om_letters om_one om_two om_three om_whys om_backs om_sorts om_sizes om_items) := hD
          refine lv_aload_n hx hb dX7_contract_93 rfl (lv_at hl 1 rfl) ?_
          refine gf_X7_15 hx hb hG hown hKX hP 0 rfl rfl dX7_contract_94 ?_
          refine lv_bipush (v := (23 : Int32)) hx hb dX7_contract_97 (by decide) ?_
          refine lv_iload hx hb dX7_contract_99 (lv_at hl 0 rfl) ?_
          refine lv_iadd hx hb dX7_contract_101 ?_
          refine topi_eq (y := nI (23 + n)) (aN rfl rfl) ?_
          refine lv_bipush (v := (100 : Int32)) hx hb dX7_contract_102 (by decide) ?_
          refine iast_n hx hb hKX hP hD hS 1 rfl rfl (by omega) (by decide) dX7_contract_104 (fun H locs hP hD hS => ?_)
          have hP : va_P D vwCl (wX7 cy om om_thrown (upd (upd (upd (upd om_s (5 + n) kind) (11 + n) lim) (17 + n) ret) (23 + n) (100 : Int32)) om_kept om_aside om_isKept om_reaches om_ringOf om_rungOf om_rings om_ringMany om_paid om_leftOf om_ringPaid om_paidAll om_mosts om_text om_signs om_at om_isWrong om_clauses om_letters om_one om_two om_three om_whys om_backs om_sorts om_sizes om_items) H := hP
          have hD : va_D A (wX7 cy om om_thrown (upd (upd (upd (upd om_s (5 + n) kind) (11 + n) lim) (17 + n) ret) (23 + n) (100 : Int32)) om_kept om_aside om_isKept om_reaches om_ringOf om_rungOf om_rings om_ringMany om_paid om_leftOf om_ringPaid om_paidAll om_mosts om_text om_signs om_at om_isWrong om_clauses om_letters om_one om_two om_three om_whys om_backs om_sorts om_sizes om_items) := hD
          refine lv_aload_n hx hb dX7_contract_105 rfl (lv_at hl 1 rfl) ?_
          refine gf_X7_15 hx hb hG hown hKX hP 0 rfl rfl dX7_contract_106 ?_
          refine lv_bipush (v := (29 : Int32)) hx hb dX7_contract_109 (by decide) ?_
          refine lv_iload hx hb dX7_contract_111 (lv_at hl 0 rfl) ?_
          refine lv_iadd hx hb dX7_contract_113 ?_
          refine topi_eq (y := nI (29 + n)) (aN rfl rfl) ?_
          refine lv_iconst (v := (0 : Int32)) hx hb dX7_contract_114 (by decide) ?_
          refine iast_n hx hb hKX hP hD hS 1 rfl rfl (by omega) (by decide) dX7_contract_115 (fun H locs hP hD hS => ?_)
          have hP : va_P D vwCl (wX7 cy om om_thrown (upd (upd (upd (upd (upd om_s (5 + n) kind) (11 + n) lim) (17 + n) ret) (23 + n) (100 : Int32)) (29 + n) (0 : Int32)) om_kept om_aside om_isKept om_reaches om_ringOf om_rungOf om_rings om_ringMany om_paid om_leftOf om_ringPaid om_paidAll om_mosts om_text om_signs om_at om_isWrong om_clauses om_letters om_one om_two om_three om_whys om_backs om_sorts om_sizes om_items) H := hP
          have hD : va_D A (wX7 cy om om_thrown (upd (upd (upd (upd (upd om_s (5 + n) kind) (11 + n) lim) (17 + n) ret) (23 + n) (100 : Int32)) (29 + n) (0 : Int32)) om_kept om_aside om_isKept om_reaches om_ringOf om_rungOf om_rings om_ringMany om_paid om_leftOf om_ringPaid om_paidAll om_mosts om_text om_signs om_at om_isWrong om_clauses om_letters om_one om_two om_three om_whys om_backs om_sorts om_sizes om_items) := hD
          refine lv_aload_n hx hb dX7_contract_116 rfl (lv_at hl 1 rfl) ?_
          refine gf_X7_15 hx hb hG hown hKX hP 0 rfl rfl dX7_contract_117 ?_
          refine lv_iconst (v := (0 : Int32)) hx hb dX7_contract_120 (by decide) ?_
          refine lv_dup2_11 hx hb dX7_contract_121 rfl rfl ?_
          refine iald_n hx hb hKX hP 1 rfl rfl (by decide) (by decide) dX7_contract_122 ?_
          refine lv_iconst (v := (1 : Int32)) hx hb dX7_contract_123 (by decide) ?_
          refine lv_iadd hx hb dX7_contract_124 ?_
          refine iast_n hx hb hKX hP hD hS 1 rfl rfl (by decide) (by decide) dX7_contract_125 (fun H locs hP hD hS => ?_)
          have hP : va_P D vwCl (wX7 cy om om_thrown (upd (upd (upd (upd (upd (upd om_s (5 + n) kind) (11 + n) lim) (17 + n) ret) (23 + n) (100 : Int32)) (29 + n) (0 : Int32)) 0 (((upd (upd (upd (upd (upd om_s (5 + n) kind) (11 + n) lim) (17 + n) ret) (23 + n) (100 : Int32)) (29 + n) (0 : Int32)) 0) + (1 : Int32))) om_kept om_aside om_isKept om_reaches om_ringOf om_rungOf om_rings om_ringMany om_paid om_leftOf om_ringPaid om_paidAll om_mosts om_text om_signs om_at om_isWrong om_clauses om_letters om_one om_two om_three om_whys om_backs om_sorts om_sizes om_items) H := hP
          have hD : va_D A (wX7 cy om om_thrown (upd (upd (upd (upd (upd (upd om_s (5 + n) kind) (11 + n) lim) (17 + n) ret) (23 + n) (100 : Int32)) (29 + n) (0 : Int32)) 0 (((upd (upd (upd (upd (upd om_s (5 + n) kind) (11 + n) lim) (17 + n) ret) (23 + n) (100 : Int32)) (29 + n) (0 : Int32)) 0) + (1 : Int32))) om_kept om_aside om_isKept om_reaches om_ringOf om_rungOf om_rings om_ringMany om_paid om_leftOf om_ringPaid om_paidAll om_mosts om_text om_signs om_at om_isWrong om_clauses om_letters om_one om_two om_three om_whys om_backs om_sorts om_sizes om_items) := hD
          refine lv_iload hx hb dX7_contract_126 (lv_at hl 0 rfl) ?_
          exact W.iret (v := nI n) hx hb hr (fun t ht hW => ⟨⟨nI n, upd (upd (upd (upd (upd (upd om_s (5 + n) kind) (11 + n) lim) (17 + n) ret) (23 + n) (100 : Int32)) (29 + n) (0 : Int32)) 0 (((upd (upd (upd (upd (upd om_s (5 + n) kind) (11 + n) lim) (17 + n) ret) (23 + n) (100 : Int32)) (29 + n) (0 : Int32)) 0) + (1 : Int32)), rfl, by unfold f_X7_contract; rw [if_neg c1, if_neg c2, if_neg c3, if_neg c4] <;> rfl, by rw [ht]; exact hP, hD⟩, hS.F ht⟩) hS.2.2 dX7_contract_128
        · refine lv_bipush (v := (-4 : Int32)) hx hb dX7_contract_50 (by decide) ?_
          exact W.iret (v := (-4 : Int32)) hx hb hr (fun t ht hW => ⟨⟨(-4 : Int32), om_s, rfl, by unfold f_X7_contract; rw [if_neg c1, if_neg c2, if_neg c3, if_pos c4] <;> rfl, by rw [ht]; exact hP, hD⟩, hS.F ht⟩) hS.2.2 dX7_contract_52
      · refine lv_bipush (v := (-2 : Int32)) hx hb dX7_contract_36 (by decide) ?_
        exact W.iret (v := (-2 : Int32)) hx hb hr (fun t ht hW => ⟨⟨(-2 : Int32), om_s, rfl, by unfold f_X7_contract; rw [if_neg c1, if_neg c2, if_pos c3] <;> rfl, by rw [ht]; exact hP, hD⟩, hS.F ht⟩) hS.2.2 dX7_contract_38
def f_X7_may (what : Int32) (v : Int32) : Int32 :=
  if what = (0 : Int32) then (f_X7_in ((v).toInt64) (0 : Int64) (3 : Int64)) else (if what = (1 : Int32) then (f_X7_in ((v).toInt64) (0 : Int64) (99 : Int64)) else (if what = (2 : Int32) then (f_X7_in ((v).toInt64) (0 : Int64) (20 : Int64)) else (f_X7_in ((v).toInt64) (1 : Int64) (100 : Int64))))
set_option maxHeartbeats 4000000 in
set_option maxRecDepth 100000 in
theorem c_X7_may (l : Launch) (D : va_G) (cy : Nat → ClassId) (what : Int32) (v : Int32) : RoI l D cy yX7_may (.code yX7_may cX7_may 2 (some .boolean)) 1 ([]) [.int what, .int v] (f_X7_may what v) := by
  refine Met.ofW (cc := cX7_may) (maxL := 2) (ret := (some .boolean)) (by decide) rfl ?_
  intro pP eE s0 mM args below meth cC s₁ B hml hv
  obtain ⟨rfl, hP, hKX⟩ := hv
  have hx := B.exec
  have hb := B.bytes
  have hr := B.returns
  have hG := gw_hts (atoms_spec (ws := _) B.pre)
  have hown : s0.vm.findClass RX7 = some mM.cls := findClass_of_methodNamed B.named
  have hlocks := B.notSynchronized
  have hl := lv_entry ([.int what, .int v]) (n := 2) (Nat.le_of_ble_eq_true rfl)
  rw [lg_entry_eq]
  generalize (lg_sl ([.int what, .int v]) ++ List.replicate (2 - (lg_sl ([.int what, .int v])).length) Slot.unset).toArray = ls at hl ⊢
  have hl : lv_has ls 2 [(0, .int what), (1, .int v)] := hl
  refine lv_iload_n hx hb dX7_may_0 rfl (lv_at hl 0 rfl) ?_
  refine lv_if_ne (tgt := 14) hx hb dX7_may_1 (by decide) (fun c1 => ?_) (fun c1 => ?_)
  · refine lv_iload_n hx hb dX7_may_14 rfl (lv_at hl 0 rfl) ?_
    refine lv_iconst (v := (1 : Int32)) hx hb dX7_may_15 (by decide) ?_
    refine lv_icmp_ne (tgt := 29) hx hb dX7_may_16 (by decide) (fun c2 => ?_) (fun c2 => ?_)
    · refine lv_iload_n hx hb dX7_may_29 rfl (lv_at hl 0 rfl) ?_
      refine lv_iconst (v := (2 : Int32)) hx hb dX7_may_30 (by decide) ?_
      refine lv_icmp_ne (tgt := 46) hx hb dX7_may_31 (by decide) (fun c3 => ?_) (fun c3 => ?_)
      · refine lv_iload_n hx hb dX7_may_46 rfl (lv_at hl 1 rfl) ?_
        refine lv_i2l (v := ((v).toInt64)) hx hb dX7_may_47 rfl ?_
        refine lv_lconst (v := (1 : Int64)) hx hb dX7_may_48 (by decide) ?_
        refine lv_ldc2 (v := (100 : Int64)) hx hb hown (hG _ mw8_9) dX7_may_49 ?_
        refine cRoS mw7_3 mw7_4 mw1_5 mw7_5 hd_X7_in hx hb hml hown hG hKX (c_X7_in l D cy ((v).toInt64) (1 : Int64) (100 : Int64)) ⟨Nat.le_of_ble_eq_true rfl, Nat.le_of_ble_eq_true rfl⟩ ⟨Nat.zero_le _, Nat.zero_le _⟩ hP rfl hl.1 rfl (Nat.le_of_ble_eq_true rfl) dX7_may_52 ?_
        exact W.zret (v := (f_X7_in ((v).toInt64) (1 : Int64) (100 : Int64))) hx hb hr (in_zr _ _ _) (fun t ht hW => ⟨_, rfl, by unfold f_X7_may; rw [if_neg c1, if_neg c2, if_neg c3] <;> rfl, ht⟩) (fun q hq => by cases hq) dX7_may_55
      · refine lv_iload_n hx hb dX7_may_34 rfl (lv_at hl 1 rfl) ?_
        refine lv_i2l (v := ((v).toInt64)) hx hb dX7_may_35 rfl ?_
        refine lv_lconst (v := (0 : Int64)) hx hb dX7_may_36 (by decide) ?_
        refine lv_ldc2 (v := (20 : Int64)) hx hb hown (hG _ mw7_2) dX7_may_37 ?_
        refine cRoS mw7_3 mw7_4 mw1_5 mw7_5 hd_X7_in hx hb hml hown hG hKX (c_X7_in l D cy ((v).toInt64) (0 : Int64) (20 : Int64)) ⟨Nat.le_of_ble_eq_true rfl, Nat.le_of_ble_eq_true rfl⟩ ⟨Nat.zero_le _, Nat.zero_le _⟩ hP rfl hl.1 rfl (Nat.le_of_ble_eq_true rfl) dX7_may_40 ?_
        refine lv_goto (tgt := 55) hx hb dX7_may_43 (by decide) ?_
        exact W.zret (v := (f_X7_in ((v).toInt64) (0 : Int64) (20 : Int64))) hx hb hr (in_zr _ _ _) (fun t ht hW => ⟨_, rfl, by unfold f_X7_may; rw [if_neg c1, if_neg c2, if_pos c3] <;> rfl, ht⟩) (fun q hq => by cases hq) dX7_may_55
    · refine lv_iload_n hx hb dX7_may_19 rfl (lv_at hl 1 rfl) ?_
      refine lv_i2l (v := ((v).toInt64)) hx hb dX7_may_20 rfl ?_
      refine lv_lconst (v := (0 : Int64)) hx hb dX7_may_21 (by decide) ?_
      refine lv_ldc2 (v := (99 : Int64)) hx hb hown (hG _ mw7_1) dX7_may_22 ?_
      refine cRoS mw7_3 mw7_4 mw1_5 mw7_5 hd_X7_in hx hb hml hown hG hKX (c_X7_in l D cy ((v).toInt64) (0 : Int64) (99 : Int64)) ⟨Nat.le_of_ble_eq_true rfl, Nat.le_of_ble_eq_true rfl⟩ ⟨Nat.zero_le _, Nat.zero_le _⟩ hP rfl hl.1 rfl (Nat.le_of_ble_eq_true rfl) dX7_may_25 ?_
      exact W.zret (v := (f_X7_in ((v).toInt64) (0 : Int64) (99 : Int64))) hx hb hr (in_zr _ _ _) (fun t ht hW => ⟨_, rfl, by unfold f_X7_may; rw [if_neg c1, if_pos c2] <;> rfl, ht⟩) (fun q hq => by cases hq) dX7_may_28
  · refine lv_iload_n hx hb dX7_may_4 rfl (lv_at hl 1 rfl) ?_
    refine lv_i2l (v := ((v).toInt64)) hx hb dX7_may_5 rfl ?_
    refine lv_lconst (v := (0 : Int64)) hx hb dX7_may_6 (by decide) ?_
    refine lv_ldc2 (v := (3 : Int64)) hx hb hown (hG _ mw7_0) dX7_may_7 ?_
    refine cRoS mw7_3 mw7_4 mw1_5 mw7_5 hd_X7_in hx hb hml hown hG hKX (c_X7_in l D cy ((v).toInt64) (0 : Int64) (3 : Int64)) ⟨Nat.le_of_ble_eq_true rfl, Nat.le_of_ble_eq_true rfl⟩ ⟨Nat.zero_le _, Nat.zero_le _⟩ hP rfl hl.1 rfl (Nat.le_of_ble_eq_true rfl) dX7_may_10 ?_
    exact W.zret (v := (f_X7_in ((v).toInt64) (0 : Int64) (3 : Int64))) hx hb hr (in_zr _ _ _) (fun t ht hW => ⟨_, rfl, by unfold f_X7_may; rw [if_pos c1] <;> rfl, ht⟩) (fun q hq => by cases hq) dX7_may_13
def f_X7_renew (om_s : Nat → Int32) (c : Int32) (what : Int32) (v : Int32) (n : Nat) : Int32 × (Nat → Int32) :=
  if (f_X7_isOne c n) = (0 : Int32) then ((-1 : Int32), om_s) else (if (f_X7_in ((what).toInt64) (0 : Int64) (3 : Int64)) = (0 : Int32) then ((-1 : Int32), om_s) else (if (f_X7_may what v) = (0 : Int32) then ((-2 : Int32), om_s) else (if what = (0 : Int32) then ((om_s (5 + c.toNatClampNeg)), upd om_s (5 + c.toNatClampNeg) v) else (if what = (1 : Int32) then ((om_s (11 + c.toNatClampNeg)), upd om_s (11 + c.toNatClampNeg) v) else (if what = (2 : Int32) then ((om_s (17 + c.toNatClampNeg)), upd om_s (17 + c.toNatClampNeg) v) else ((om_s (23 + c.toNatClampNeg)), upd om_s (23 + c.toNatClampNeg) v))))))
set_option maxHeartbeats 4000000 in
set_option maxRecDepth 100000 in
theorem c_X7_renew (l : Launch) (D : va_G) (cy : Nat → ClassId) (om : Nat → Nat) (om_thrown : Int32) (om_s : Nat → Int32) (om_kept : Nat → Int32) (om_aside : Nat → Int32) (om_isKept : Int32) (om_reaches : Nat → Int32) (om_ringOf : Nat → Int32) (om_rungOf : Nat → Int32) (om_rings : Nat → Int32) (om_ringMany : Int32) (om_paid : Nat → Int32) (om_leftOf : Nat → Int32) (om_ringPaid : Nat → Int32) (om_paidAll : Int32) (om_mosts : Nat → Int32) (om_text : Nat → Int32) (om_signs : Int32) (om_at : Int32) (om_isWrong : Int32) (om_clauses : Int32) (om_letters : Nat → Int32) (om_one : Nat → Int32) (om_two : Nat → Int32) (om_three : Nat → Int32) (om_whys : Nat → Int32) (om_backs : Nat → Int32) (om_sorts : Nat → Int32) (om_sizes : Nat → Int32) (om_items : Nat → Int64) (c : Int32) (what : Int32) (v : Int32) (n : Nat) (hn : n ≤ 6) (hs0 : om_s 0 = nI n) : RwI (S := (Nat → Int32)) l D cy yX7_renew (.code yX7_renew cX7_renew 6 (some .int)) 2 (wX7 cy om om_thrown om_s om_kept om_aside om_isKept om_reaches om_ringOf om_rungOf om_rings om_ringMany om_paid om_leftOf om_ringPaid om_paidAll om_mosts om_text om_signs om_at om_isWrong om_clauses om_letters om_one om_two om_three om_whys om_backs om_sorts om_sizes om_items) [.ref (om 0), .int c, .int what, .int v] (fun rr u => (rr, u) = f_X7_renew om_s c what v n) (fun u => wX7 cy om om_thrown u om_kept om_aside om_isKept om_reaches om_ringOf om_rungOf om_rings om_ringMany om_paid om_leftOf om_ringPaid om_paidAll om_mosts om_text om_signs om_at om_isWrong om_clauses om_letters om_one om_two om_three om_whys om_backs om_sorts om_sizes om_items) := by
  intro sz
  refine Met.ofW (cc := cX7_renew) (maxL := 6) (ret := (some .int)) (by decide) rfl ?_
  intro pP eE s0 mM args below meth cC s₁ B hml hv
  obtain ⟨rfl, hsz, hP, hKX, hD0⟩ := hv
  have hx := B.exec
  have hb := B.bytes
  have hr := B.returns
  have hG := gw_hts (atoms_spec (ws := _) B.pre)
  have hown : s0.vm.findClass RX7 = some mM.cls := findClass_of_methodNamed B.named
  have hlocks := B.notSynchronized
  subst hsz
  have hD := hD0.self (sz := s0.heap.size)
  generalize hAe : va_A (wX7 cy om om_thrown om_s om_kept om_aside om_isKept om_reaches om_ringOf om_rungOf om_rings om_ringMany om_paid om_leftOf om_ringPaid om_paidAll om_mosts om_text om_signs om_at om_isWrong om_clauses om_letters om_one om_two om_three om_whys om_backs om_sorts om_sizes om_items) s0.heap.size = A at hD ⊢
  have hA : ∀ q : Nat, s0.heap.size ≤ q → A q := fun q h => by rw [← hAe]; exact Or.inr h
  have hS : va_S A s0.heap s0.heap [] := va_S.rf
  have hl := lv_entry ([.ref (om 0), .int c, .int what, .int v]) (n := 6) (Nat.le_of_ble_eq_true rfl)
  rw [lg_entry_eq]
  generalize (lg_sl ([.ref (om 0), .int c, .int what, .int v]) ++ List.replicate (6 - (lg_sl ([.ref (om 0), .int c, .int what, .int v])).length) Slot.unset).toArray = ls at hl ⊢
  have hl : lv_has ls 6 [(0, .ref (om 0)), (1, .int c), (2, .int what), (3, .int v)] := hl
  refine lv_aload_n hx hb dX7_renew_0 rfl (lv_at hl 0 rfl) ?_
  refine lv_iload_n hx hb dX7_renew_1 rfl (lv_at hl 1 rfl) ?_
  refine cRoV (q0 := 0) (ci := 7) mw8_2 mw8_3 mw8_4 mw1_5 mw8_5 rfl rfl hd_X7_isOne hx hb hml hown hG hKX (c_X7_isOne l D cy om om_thrown om_s om_kept om_aside om_isKept om_reaches om_ringOf om_rungOf om_rings om_ringMany om_paid om_leftOf om_ringPaid om_paidAll om_mosts om_text om_signs om_at om_isWrong om_clauses om_letters om_one om_two om_three om_whys om_backs om_sorts om_sizes om_items c n hn hs0) ⟨Nat.le_of_ble_eq_true rfl, Nat.le_of_ble_eq_true rfl⟩ ⟨Nat.zero_le _, Nat.zero_le _⟩ hP rfl rfl hl.1 rfl (Nat.le_of_ble_eq_true rfl) dX7_renew_2 ?_
  refine lv_if_eq (tgt := 20) hx hb dX7_renew_5 (by decide) (fun c1 => ?_) (fun c1 => ?_)
  · refine lv_iconst (v := (-1 : Int32)) hx hb dX7_renew_20 (by decide) ?_
    exact W.iret (v := (-1 : Int32)) hx hb hr (fun t ht hW => ⟨⟨(-1 : Int32), om_s, rfl, by unfold f_X7_renew; rw [if_pos c1] <;> rfl, by rw [ht]; exact hP, hD⟩, hS.F ht⟩) hS.2.2 dX7_renew_21
  · obtain ⟨j21, hj21, hlj21, rfl⟩ := isO_of (by omega) c1
    refine lv_iload_n hx hb dX7_renew_8 rfl (lv_at hl 2 rfl) ?_
    refine lv_i2l (v := ((what).toInt64)) hx hb dX7_renew_9 rfl ?_
    refine lv_lconst (v := (0 : Int64)) hx hb dX7_renew_10 (by decide) ?_
    refine lv_ldc2 (v := (3 : Int64)) hx hb hown (hG _ mw7_0) dX7_renew_11 ?_
    refine cRoS mw7_3 mw7_4 mw1_5 mw7_5 hd_X7_in hx hb hml hown hG hKX (c_X7_in l D cy ((what).toInt64) (0 : Int64) (3 : Int64)) ⟨Nat.le_of_ble_eq_true rfl, Nat.le_of_ble_eq_true rfl⟩ ⟨Nat.zero_le _, Nat.zero_le _⟩ (hP.sub [] rfl) rfl hl.1 rfl (Nat.le_of_ble_eq_true rfl) dX7_renew_14 ?_
    refine lv_if_ne (tgt := 22) hx hb dX7_renew_17 (by decide) (fun c2 => ?_) (fun c2 => ?_)
    · refine lv_iload_n hx hb dX7_renew_22 rfl (lv_at hl 2 rfl) ?_
      refine lv_iload_n hx hb dX7_renew_23 rfl (lv_at hl 3 rfl) ?_
      refine cRoS mw8_6 mw8_7 mw1_5 mw8_8 hd_X7_may hx hb hml hown hG hKX (c_X7_may l D cy what v) ⟨Nat.le_of_ble_eq_true rfl, Nat.le_of_ble_eq_true rfl⟩ ⟨Nat.zero_le _, Nat.zero_le _⟩ (hP.sub [] rfl) rfl hl.1 rfl (Nat.le_of_ble_eq_true rfl) dX7_renew_24 ?_
      refine lv_if_ne (tgt := 33) hx hb dX7_renew_27 (by decide) (fun c3 => ?_) (fun c3 => ?_)
      · refine lv_iload_n hx hb dX7_renew_33 rfl (lv_at hl 2 rfl) ?_
        refine lv_if_ne (tgt := 41) hx hb dX7_renew_34 (by decide) (fun c4 => ?_) (fun c4 => ?_)
        · refine lv_iload_n hx hb dX7_renew_41 rfl (lv_at hl 2 rfl) ?_
          refine lv_iconst (v := (1 : Int32)) hx hb dX7_renew_42 (by decide) ?_
          refine lv_icmp_ne (tgt := 51) hx hb dX7_renew_43 (by decide) (fun c5 => ?_) (fun c5 => ?_)
          · refine lv_iload_n hx hb dX7_renew_51 rfl (lv_at hl 2 rfl) ?_
            refine lv_iconst (v := (2 : Int32)) hx hb dX7_renew_52 (by decide) ?_
            refine lv_icmp_ne (tgt := 61) hx hb dX7_renew_53 (by decide) (fun c6 => ?_) (fun c6 => ?_)
            · refine lv_bipush (v := (23 : Int32)) hx hb dX7_renew_61 (by decide) ?_
              refine lv_iload_n hx hb dX7_renew_63 rfl (lv_at hl 1 rfl) ?_
              refine lv_iadd hx hb dX7_renew_64 ?_
              refine topi_eq (y := nI (23 + j21)) (aN rfl rfl) ?_
              refine lv_istore (lv' := [(4, .int (nI (23 + j21))), (0, .ref (om 0)), (1, .int (nI j21)), (2, .int what), (3, .int v)]) hx hb dX7_renew_65 hl (by decide) rfl (fun ls hl => ?_)
              refine lv_aload_n hx hb dX7_renew_67 rfl (lv_at hl 1 rfl) ?_
              refine gf_X7_15 hx hb hG hown hKX hP 0 rfl rfl dX7_renew_68 ?_
              refine lv_iload hx hb dX7_renew_71 (lv_at hl 0 rfl) ?_
              refine iald_n hx hb hKX hP 1 rfl rfl (by omega) (by decide) dX7_renew_73 ?_
              refine lv_istore (lv' := [(5, .int (om_s (23 + j21))), (4, .int (nI (23 + j21))), (0, .ref (om 0)), (1, .int (nI j21)), (2, .int what), (3, .int v)]) hx hb dX7_renew_74 hl (by decide) rfl (fun ls hl => ?_)
              refine lv_aload_n hx hb dX7_renew_76 rfl (lv_at hl 2 rfl) ?_
              refine gf_X7_15 hx hb hG hown hKX hP 0 rfl rfl dX7_renew_77 ?_
              refine lv_iload hx hb dX7_renew_80 (lv_at hl 1 rfl) ?_
              refine lv_iload_n hx hb dX7_renew_82 rfl (lv_at hl 5 rfl) ?_
              refine iast_n hx hb hKX hP hD hS 1 rfl rfl (by omega) (by decide) dX7_renew_83 (fun H locs hP hD hS => ?_)
              have hP : va_P D vwCl (wX7 cy om om_thrown (upd om_s (23 + j21) v) om_kept om_aside om_isKept om_reaches om_ringOf om_rungOf om_rings om_ringMany om_paid om_leftOf om_ringPaid om_paidAll om_mosts om_text om_signs om_at om_isWrong om_clauses om_letters om_one om_two om_three om_whys om_backs om_sorts om_sizes om_items) H := hP
              have hD : va_D A (wX7 cy om om_thrown (upd om_s (23 + j21) v) om_kept om_aside om_isKept om_reaches om_ringOf om_rungOf om_rings om_ringMany om_paid om_leftOf om_ringPaid om_paidAll om_mosts om_text om_signs om_at om_isWrong om_clauses om_letters om_one om_two om_three om_whys om_backs om_sorts om_sizes om_items) := hD
              refine lv_iload hx hb dX7_renew_84 (lv_at hl 0 rfl) ?_
              exact W.iret (v := (om_s (23 + j21))) hx hb hr (fun t ht hW => ⟨⟨(om_s (23 + j21)), upd om_s (23 + j21) v, rfl, by unfold f_X7_renew; (try simp only [hj21]); rw [if_neg c1, if_neg c2, if_neg c3, if_neg c4, if_neg c5, if_neg c6] <;> rfl, by rw [ht]; exact hP, hD⟩, hS.F ht⟩) hS.2.2 dX7_renew_86
            · refine lv_bipush (v := (17 : Int32)) hx hb dX7_renew_56 (by decide) ?_
              refine lv_goto (tgt := 63) hx hb dX7_renew_58 (by decide) ?_
              refine lv_iload_n hx hb dX7_renew_63 rfl (lv_at hl 1 rfl) ?_
              refine lv_iadd hx hb dX7_renew_64 ?_
              refine topi_eq (y := nI (17 + j21)) (aN rfl rfl) ?_
              refine lv_istore (lv' := [(4, .int (nI (17 + j21))), (0, .ref (om 0)), (1, .int (nI j21)), (2, .int what), (3, .int v)]) hx hb dX7_renew_65 hl (by decide) rfl (fun ls hl => ?_)
              refine lv_aload_n hx hb dX7_renew_67 rfl (lv_at hl 1 rfl) ?_
              refine gf_X7_15 hx hb hG hown hKX hP 0 rfl rfl dX7_renew_68 ?_
              refine lv_iload hx hb dX7_renew_71 (lv_at hl 0 rfl) ?_
              refine iald_n hx hb hKX hP 1 rfl rfl (by omega) (by decide) dX7_renew_73 ?_
              refine lv_istore (lv' := [(5, .int (om_s (17 + j21))), (4, .int (nI (17 + j21))), (0, .ref (om 0)), (1, .int (nI j21)), (2, .int what), (3, .int v)]) hx hb dX7_renew_74 hl (by decide) rfl (fun ls hl => ?_)
              refine lv_aload_n hx hb dX7_renew_76 rfl (lv_at hl 2 rfl) ?_
              refine gf_X7_15 hx hb hG hown hKX hP 0 rfl rfl dX7_renew_77 ?_
              refine lv_iload hx hb dX7_renew_80 (lv_at hl 1 rfl) ?_
              refine lv_iload_n hx hb dX7_renew_82 rfl (lv_at hl 5 rfl) ?_
              refine iast_n hx hb hKX hP hD hS 1 rfl rfl (by omega) (by decide) dX7_renew_83 (fun H locs hP hD hS => ?_)
              have hP : va_P D vwCl (wX7 cy om om_thrown (upd om_s (17 + j21) v) om_kept om_aside om_isKept om_reaches om_ringOf om_rungOf om_rings om_ringMany om_paid om_leftOf om_ringPaid om_paidAll om_mosts om_text om_signs om_at om_isWrong om_clauses om_letters om_one om_two om_three om_whys om_backs om_sorts om_sizes om_items) H := hP
              have hD : va_D A (wX7 cy om om_thrown (upd om_s (17 + j21) v) om_kept om_aside om_isKept om_reaches om_ringOf om_rungOf om_rings om_ringMany om_paid om_leftOf om_ringPaid om_paidAll om_mosts om_text om_signs om_at om_isWrong om_clauses om_letters om_one om_two om_three om_whys om_backs om_sorts om_sizes om_items) := hD
              refine lv_iload hx hb dX7_renew_84 (lv_at hl 0 rfl) ?_
              exact W.iret (v := (om_s (17 + j21))) hx hb hr (fun t ht hW => ⟨⟨(om_s (17 + j21)), upd om_s (17 + j21) v, rfl, by unfold f_X7_renew; (try simp only [hj21]); rw [if_neg c1, if_neg c2, if_neg c3, if_neg c4, if_neg c5, if_pos c6] <;> rfl, by rw [ht]; exact hP, hD⟩, hS.F ht⟩) hS.2.2 dX7_renew_86
          · refine lv_bipush (v := (11 : Int32)) hx hb dX7_renew_46 (by decide) ?_
            refine lv_goto (tgt := 63) hx hb dX7_renew_48 (by decide) ?_
            refine lv_iload_n hx hb dX7_renew_63 rfl (lv_at hl 1 rfl) ?_
            refine lv_iadd hx hb dX7_renew_64 ?_
            refine topi_eq (y := nI (11 + j21)) (aN rfl rfl) ?_
            refine lv_istore (lv' := [(4, .int (nI (11 + j21))), (0, .ref (om 0)), (1, .int (nI j21)), (2, .int what), (3, .int v)]) hx hb dX7_renew_65 hl (by decide) rfl (fun ls hl => ?_)
            refine lv_aload_n hx hb dX7_renew_67 rfl (lv_at hl 1 rfl) ?_
            refine gf_X7_15 hx hb hG hown hKX hP 0 rfl rfl dX7_renew_68 ?_
            refine lv_iload hx hb dX7_renew_71 (lv_at hl 0 rfl) ?_
            refine iald_n hx hb hKX hP 1 rfl rfl (by omega) (by decide) dX7_renew_73 ?_
            refine lv_istore (lv' := [(5, .int (om_s (11 + j21))), (4, .int (nI (11 + j21))), (0, .ref (om 0)), (1, .int (nI j21)), (2, .int what), (3, .int v)]) hx hb dX7_renew_74 hl (by decide) rfl (fun ls hl => ?_)
            refine lv_aload_n hx hb dX7_renew_76 rfl (lv_at hl 2 rfl) ?_
            refine gf_X7_15 hx hb hG hown hKX hP 0 rfl rfl dX7_renew_77 ?_
            refine lv_iload hx hb dX7_renew_80 (lv_at hl 1 rfl) ?_
            refine lv_iload_n hx hb dX7_renew_82 rfl (lv_at hl 5 rfl) ?_
            refine iast_n hx hb hKX hP hD hS 1 rfl rfl (by omega) (by decide) dX7_renew_83 (fun H locs hP hD hS => ?_)
            have hP : va_P D vwCl (wX7 cy om om_thrown (upd om_s (11 + j21) v) om_kept om_aside om_isKept om_reaches om_ringOf om_rungOf om_rings om_ringMany om_paid om_leftOf om_ringPaid om_paidAll om_mosts om_text om_signs om_at om_isWrong om_clauses om_letters om_one om_two om_three om_whys om_backs om_sorts om_sizes om_items) H := hP
            have hD : va_D A (wX7 cy om om_thrown (upd om_s (11 + j21) v) om_kept om_aside om_isKept om_reaches om_ringOf om_rungOf om_rings om_ringMany om_paid om_leftOf om_ringPaid om_paidAll om_mosts om_text om_signs om_at om_isWrong om_clauses om_letters om_one om_two om_three om_whys om_backs om_sorts om_sizes om_items) := hD
            refine lv_iload hx hb dX7_renew_84 (lv_at hl 0 rfl) ?_
            exact W.iret (v := (om_s (11 + j21))) hx hb hr (fun t ht hW => ⟨⟨(om_s (11 + j21)), upd om_s (11 + j21) v, rfl, by unfold f_X7_renew; (try simp only [hj21]); rw [if_neg c1, if_neg c2, if_neg c3, if_neg c4, if_pos c5] <;> rfl, by rw [ht]; exact hP, hD⟩, hS.F ht⟩) hS.2.2 dX7_renew_86
        · refine lv_iconst (v := (5 : Int32)) hx hb dX7_renew_37 (by decide) ?_
          refine lv_goto (tgt := 63) hx hb dX7_renew_38 (by decide) ?_
          refine lv_iload_n hx hb dX7_renew_63 rfl (lv_at hl 1 rfl) ?_
          refine lv_iadd hx hb dX7_renew_64 ?_
          refine topi_eq (y := nI (5 + j21)) (aN rfl rfl) ?_
          refine lv_istore (lv' := [(4, .int (nI (5 + j21))), (0, .ref (om 0)), (1, .int (nI j21)), (2, .int what), (3, .int v)]) hx hb dX7_renew_65 hl (by decide) rfl (fun ls hl => ?_)
          refine lv_aload_n hx hb dX7_renew_67 rfl (lv_at hl 1 rfl) ?_
          refine gf_X7_15 hx hb hG hown hKX hP 0 rfl rfl dX7_renew_68 ?_
          refine lv_iload hx hb dX7_renew_71 (lv_at hl 0 rfl) ?_
          refine iald_n hx hb hKX hP 1 rfl rfl (by omega) (by decide) dX7_renew_73 ?_
          refine lv_istore (lv' := [(5, .int (om_s (5 + j21))), (4, .int (nI (5 + j21))), (0, .ref (om 0)), (1, .int (nI j21)), (2, .int what), (3, .int v)]) hx hb dX7_renew_74 hl (by decide) rfl (fun ls hl => ?_)
          refine lv_aload_n hx hb dX7_renew_76 rfl (lv_at hl 2 rfl) ?_
          refine gf_X7_15 hx hb hG hown hKX hP 0 rfl rfl dX7_renew_77 ?_
          refine lv_iload hx hb dX7_renew_80 (lv_at hl 1 rfl) ?_
          refine lv_iload_n hx hb dX7_renew_82 rfl (lv_at hl 5 rfl) ?_
          refine iast_n hx hb hKX hP hD hS 1 rfl rfl (by omega) (by decide) dX7_renew_83 (fun H locs hP hD hS => ?_)
          have hP : va_P D vwCl (wX7 cy om om_thrown (upd om_s (5 + j21) v) om_kept om_aside om_isKept om_reaches om_ringOf om_rungOf om_rings om_ringMany om_paid om_leftOf om_ringPaid om_paidAll om_mosts om_text om_signs om_at om_isWrong om_clauses om_letters om_one om_two om_three om_whys om_backs om_sorts om_sizes om_items) H := hP
          have hD : va_D A (wX7 cy om om_thrown (upd om_s (5 + j21) v) om_kept om_aside om_isKept om_reaches om_ringOf om_rungOf om_rings om_ringMany om_paid om_leftOf om_ringPaid om_paidAll om_mosts om_text om_signs om_at om_isWrong om_clauses om_letters om_one om_two om_three om_whys om_backs om_sorts om_sizes om_items) := hD
          refine lv_iload hx hb dX7_renew_84 (lv_at hl 0 rfl) ?_
          exact W.iret (v := (om_s (5 + j21))) hx hb hr (fun t ht hW => ⟨⟨(om_s (5 + j21)), upd om_s (5 + j21) v, rfl, by unfold f_X7_renew; (try simp only [hj21]); rw [if_neg c1, if_neg c2, if_neg c3, if_pos c4] <;> rfl, by rw [ht]; exact hP, hD⟩, hS.F ht⟩) hS.2.2 dX7_renew_86
      · refine lv_bipush (v := (-2 : Int32)) hx hb dX7_renew_30 (by decide) ?_
        exact W.iret (v := (-2 : Int32)) hx hb hr (fun t ht hW => ⟨⟨(-2 : Int32), om_s, rfl, by unfold f_X7_renew; (try simp only [hj21]); rw [if_neg c1, if_neg c2, if_pos c3] <;> rfl, by rw [ht]; exact hP, hD⟩, hS.F ht⟩) hS.2.2 dX7_renew_32
    · refine lv_iconst (v := (-1 : Int32)) hx hb dX7_renew_20 (by decide) ?_
      exact W.iret (v := (-1 : Int32)) hx hb hr (fun t ht hW => ⟨⟨(-1 : Int32), om_s, rfl, by unfold f_X7_renew; (try simp only [hj21]); rw [if_neg c1, if_pos c2] <;> rfl, by rw [ht]; exact hP, hD⟩, hS.F ht⟩) hS.2.2 dX7_renew_21
def f_X7_refer (om_s : Nat → Int32) (a : Int32) (b : Int32) (so : Int32) (n : Nat) : Int32 × (Nat → Int32) :=
  if (f_X7_isOne a n) = (0 : Int32) then ((-1 : Int32), om_s) else (if (f_X7_isOne b n) = (0 : Int32) then ((-1 : Int32), om_s) else (if nI a.toNatClampNeg = nI b.toNatClampNeg then ((-1 : Int32), om_s) else (if so = (0 : Int32) then ((((om_s (29 + a.toNatClampNeg)) >>> (nI b.toNatClampNeg &&& 31)) &&& (1 : Int32)), upd om_s (29 + a.toNatClampNeg) (((om_s (29 + a.toNatClampNeg)) &&& (((1 : Int32) <<< (nI b.toNatClampNeg &&& 31)) ^^^ (-1 : Int32))) ||| (0 : Int32))) else ((((om_s (29 + a.toNatClampNeg)) >>> (nI b.toNatClampNeg &&& 31)) &&& (1 : Int32)), upd om_s (29 + a.toNatClampNeg) (((om_s (29 + a.toNatClampNeg)) &&& (((1 : Int32) <<< (nI b.toNatClampNeg &&& 31)) ^^^ (-1 : Int32))) ||| ((1 : Int32) <<< (nI b.toNatClampNeg &&& 31)))))))
set_option maxHeartbeats 4000000 in
set_option maxRecDepth 100000 in
theorem c_X7_refer (l : Launch) (D : va_G) (cy : Nat → ClassId) (om : Nat → Nat) (om_thrown : Int32) (om_s : Nat → Int32) (om_kept : Nat → Int32) (om_aside : Nat → Int32) (om_isKept : Int32) (om_reaches : Nat → Int32) (om_ringOf : Nat → Int32) (om_rungOf : Nat → Int32) (om_rings : Nat → Int32) (om_ringMany : Int32) (om_paid : Nat → Int32) (om_leftOf : Nat → Int32) (om_ringPaid : Nat → Int32) (om_paidAll : Int32) (om_mosts : Nat → Int32) (om_text : Nat → Int32) (om_signs : Int32) (om_at : Int32) (om_isWrong : Int32) (om_clauses : Int32) (om_letters : Nat → Int32) (om_one : Nat → Int32) (om_two : Nat → Int32) (om_three : Nat → Int32) (om_whys : Nat → Int32) (om_backs : Nat → Int32) (om_sorts : Nat → Int32) (om_sizes : Nat → Int32) (om_items : Nat → Int64) (a : Int32) (b : Int32) (so : Int32) (n : Nat) (hn : n ≤ 6) (hs0 : om_s 0 = nI n) : RwI (S := (Nat → Int32)) l D cy yX7_refer (.code yX7_refer cX7_refer 5 (some .int)) 2 (wX7 cy om om_thrown om_s om_kept om_aside om_isKept om_reaches om_ringOf om_rungOf om_rings om_ringMany om_paid om_leftOf om_ringPaid om_paidAll om_mosts om_text om_signs om_at om_isWrong om_clauses om_letters om_one om_two om_three om_whys om_backs om_sorts om_sizes om_items) [.ref (om 0), .int a, .int b, .int so] (fun rr u => (rr, u) = f_X7_refer om_s a b so n) (fun u => wX7 cy om om_thrown u om_kept om_aside om_isKept om_reaches om_ringOf om_rungOf om_rings om_ringMany om_paid om_leftOf om_ringPaid om_paidAll om_mosts om_text om_signs om_at om_isWrong om_clauses om_letters om_one om_two om_three om_whys om_backs om_sorts om_sizes om_items) := by
  intro sz
  refine Met.ofW (cc := cX7_refer) (maxL := 5) (ret := (some .int)) (by decide) rfl ?_
  intro pP eE s0 mM args below meth cC s₁ B hml hv
  obtain ⟨rfl, hsz, hP, hKX, hD0⟩ := hv
  have hx := B.exec
  have hb := B.bytes
  have hr := B.returns
  have hG := gw_hts (atoms_spec (ws := _) B.pre)
  have hown : s0.vm.findClass RX7 = some mM.cls := findClass_of_methodNamed B.named
  have hlocks := B.notSynchronized
  subst hsz
  have hD := hD0.self (sz := s0.heap.size)
  generalize hAe : va_A (wX7 cy om om_thrown om_s om_kept om_aside om_isKept om_reaches om_ringOf om_rungOf om_rings om_ringMany om_paid om_leftOf om_ringPaid om_paidAll om_mosts om_text om_signs om_at om_isWrong om_clauses om_letters om_one om_two om_three om_whys om_backs om_sorts om_sizes om_items) s0.heap.size = A at hD ⊢
  have hA : ∀ q : Nat, s0.heap.size ≤ q → A q := fun q h => by rw [← hAe]; exact Or.inr h
  have hS : va_S A s0.heap s0.heap [] := va_S.rf
  have hl := lv_entry ([.ref (om 0), .int a, .int b, .int so]) (n := 5) (Nat.le_of_ble_eq_true rfl)
  rw [lg_entry_eq]
  generalize (lg_sl ([.ref (om 0), .int a, .int b, .int so]) ++ List.replicate (5 - (lg_sl ([.ref (om 0), .int a, .int b, .int so])).length) Slot.unset).toArray = ls at hl ⊢
  have hl : lv_has ls 5 [(0, .ref (om 0)), (1, .int a), (2, .int b), (3, .int so)] := hl
  refine lv_aload_n hx hb dX7_refer_0 rfl (lv_at hl 0 rfl) ?_
  refine lv_iload_n hx hb dX7_refer_1 rfl (lv_at hl 1 rfl) ?_
  refine cRoV (q0 := 0) (ci := 7) mw8_2 mw8_3 mw8_4 mw1_5 mw8_5 rfl rfl hd_X7_isOne hx hb hml hown hG hKX (c_X7_isOne l D cy om om_thrown om_s om_kept om_aside om_isKept om_reaches om_ringOf om_rungOf om_rings om_ringMany om_paid om_leftOf om_ringPaid om_paidAll om_mosts om_text om_signs om_at om_isWrong om_clauses om_letters om_one om_two om_three om_whys om_backs om_sorts om_sizes om_items a n hn hs0) ⟨Nat.le_of_ble_eq_true rfl, Nat.le_of_ble_eq_true rfl⟩ ⟨Nat.zero_le _, Nat.zero_le _⟩ hP rfl rfl hl.1 rfl (Nat.le_of_ble_eq_true rfl) dX7_refer_2 ?_
  refine lv_if_eq (tgt := 21) hx hb dX7_refer_5 (by decide) (fun c1 => ?_) (fun c1 => ?_)
  · refine lv_iconst (v := (-1 : Int32)) hx hb dX7_refer_21 (by decide) ?_
    exact W.iret (v := (-1 : Int32)) hx hb hr (fun t ht hW => ⟨⟨(-1 : Int32), om_s, rfl, by unfold f_X7_refer; rw [if_pos c1] <;> rfl, by rw [ht]; exact hP, hD⟩, hS.F ht⟩) hS.2.2 dX7_refer_22
  · obtain ⟨j22, hj22, hlj22, rfl⟩ := isO_of (by omega) c1
    refine lv_aload_n hx hb dX7_refer_8 rfl (lv_at hl 0 rfl) ?_
    refine lv_iload_n hx hb dX7_refer_9 rfl (lv_at hl 2 rfl) ?_
    refine cRoV (q0 := 0) (ci := 7) mw8_2 mw8_3 mw8_4 mw1_5 mw8_5 rfl rfl hd_X7_isOne hx hb hml hown hG hKX (c_X7_isOne l D cy om om_thrown om_s om_kept om_aside om_isKept om_reaches om_ringOf om_rungOf om_rings om_ringMany om_paid om_leftOf om_ringPaid om_paidAll om_mosts om_text om_signs om_at om_isWrong om_clauses om_letters om_one om_two om_three om_whys om_backs om_sorts om_sizes om_items b n hn hs0) ⟨Nat.le_of_ble_eq_true rfl, Nat.le_of_ble_eq_true rfl⟩ ⟨Nat.zero_le _, Nat.zero_le _⟩ hP rfl rfl hl.1 rfl (Nat.le_of_ble_eq_true rfl) dX7_refer_10 ?_
    refine lv_if_eq (tgt := 21) hx hb dX7_refer_13 (by decide) (fun c2 => ?_) (fun c2 => ?_)
    · refine lv_iconst (v := (-1 : Int32)) hx hb dX7_refer_21 (by decide) ?_
      exact W.iret (v := (-1 : Int32)) hx hb hr (fun t ht hW => ⟨⟨(-1 : Int32), om_s, rfl, by unfold f_X7_refer; (try simp only [hj22]); rw [if_neg c1, if_pos c2] <;> rfl, by rw [ht]; exact hP, hD⟩, hS.F ht⟩) hS.2.2 dX7_refer_22
    · obtain ⟨j22_1, hj22_1, hlj22_1, rfl⟩ := isO_of (by omega) c2
      refine lv_iload_n hx hb dX7_refer_16 rfl (lv_at hl 1 rfl) ?_
      refine lv_iload_n hx hb dX7_refer_17 rfl (lv_at hl 2 rfl) ?_
      refine lv_icmp_ne (tgt := 23) hx hb dX7_refer_18 (by decide) (fun c3 => ?_) (fun c3 => ?_)
      · refine lv_aload_n hx hb dX7_refer_23 rfl (lv_at hl 0 rfl) ?_
        refine gf_X7_15 hx hb hG hown hKX hP 0 rfl rfl dX7_refer_24 ?_
        refine lv_bipush (v := (29 : Int32)) hx hb dX7_refer_27 (by decide) ?_
        refine lv_iload_n hx hb dX7_refer_29 rfl (lv_at hl 1 rfl) ?_
        refine lv_iadd hx hb dX7_refer_30 ?_
        refine topi_eq (y := nI (29 + j22)) (aN rfl rfl) ?_
        refine iald_n hx hb hKX hP 1 rfl rfl (by omega) (by decide) dX7_refer_31 ?_
        refine lv_iload_n hx hb dX7_refer_32 rfl (lv_at hl 2 rfl) ?_
        refine lv_ishr hx hb dX7_refer_33 ?_
        refine lv_iconst (v := (1 : Int32)) hx hb dX7_refer_34 (by decide) ?_
        refine lv_iand hx hb dX7_refer_35 ?_
        refine lv_istore (lv' := [(4, .int (((om_s (29 + j22)) >>> (nI j22_1 &&& 31)) &&& (1 : Int32))), (0, .ref (om 0)), (1, .int (nI j22)), (2, .int (nI j22_1)), (3, .int so)]) hx hb dX7_refer_36 hl (by decide) rfl (fun ls hl => ?_)
        refine lv_aload_n hx hb dX7_refer_38 rfl (lv_at hl 1 rfl) ?_
        refine gf_X7_15 hx hb hG hown hKX hP 0 rfl rfl dX7_refer_39 ?_
        refine lv_bipush (v := (29 : Int32)) hx hb dX7_refer_42 (by decide) ?_
        refine lv_iload_n hx hb dX7_refer_44 rfl (lv_at hl 2 rfl) ?_
        refine lv_iadd hx hb dX7_refer_45 ?_
        refine topi_eq (y := nI (29 + j22)) (aN rfl rfl) ?_
        refine lv_aload_n hx hb dX7_refer_46 rfl (lv_at hl 1 rfl) ?_
        refine gf_X7_15 hx hb hG hown hKX hP 0 rfl rfl dX7_refer_47 ?_
        refine lv_bipush (v := (29 : Int32)) hx hb dX7_refer_50 (by decide) ?_
        refine lv_iload_n hx hb dX7_refer_52 rfl (lv_at hl 2 rfl) ?_
        refine lv_iadd hx hb dX7_refer_53 ?_
        refine topi_eq (y := nI (29 + j22)) (aN rfl rfl) ?_
        refine iald_n hx hb hKX hP 1 rfl rfl (by omega) (by decide) dX7_refer_54 ?_
        refine lv_iconst (v := (1 : Int32)) hx hb dX7_refer_55 (by decide) ?_
        refine lv_iload_n hx hb dX7_refer_56 rfl (lv_at hl 3 rfl) ?_
        refine lv_ishl hx hb dX7_refer_57 ?_
        refine lv_iconst (v := (-1 : Int32)) hx hb dX7_refer_58 (by decide) ?_
        refine lv_ixor hx hb dX7_refer_59 ?_
        refine lv_iand hx hb dX7_refer_60 ?_
        refine lv_iload_n hx hb dX7_refer_61 rfl (lv_at hl 4 rfl) ?_
        refine lv_if_eq (tgt := 71) hx hb dX7_refer_62 (by decide) (fun c4 => ?_) (fun c4 => ?_)
        · refine lv_iconst (v := (0 : Int32)) hx hb dX7_refer_71 (by decide) ?_
          refine lv_ior hx hb dX7_refer_72 ?_
          refine iast_n hx hb hKX hP hD hS 1 rfl rfl (by omega) (by decide) dX7_refer_73 (fun H locs hP hD hS => ?_)
          have hP : va_P D vwCl (wX7 cy om om_thrown (upd om_s (29 + j22) (((om_s (29 + j22)) &&& (((1 : Int32) <<< (nI j22_1 &&& 31)) ^^^ (-1 : Int32))) ||| (0 : Int32))) om_kept om_aside om_isKept om_reaches om_ringOf om_rungOf om_rings om_ringMany om_paid om_leftOf om_ringPaid om_paidAll om_mosts om_text om_signs om_at om_isWrong om_clauses om_letters om_one om_two om_three om_whys om_backs om_sorts om_sizes om_items) H := hP
          have hD : va_D A (wX7 cy om om_thrown (upd om_s (29 + j22) (((om_s (29 + j22)) &&& (((1 : Int32) <<< (nI j22_1 &&& 31)) ^^^ (-1 : Int32))) ||| (0 : Int32))) om_kept om_aside om_isKept om_reaches om_ringOf om_rungOf om_rings om_ringMany om_paid om_leftOf om_ringPaid om_paidAll om_mosts om_text om_signs om_at om_isWrong om_clauses om_letters om_one om_two om_three om_whys om_backs om_sorts om_sizes om_items) := hD
          refine lv_iload hx hb dX7_refer_74 (lv_at hl 0 rfl) ?_
          exact W.iret (v := (((om_s (29 + j22)) >>> (nI j22_1 &&& 31)) &&& (1 : Int32))) hx hb hr (fun t ht hW => ⟨⟨(((om_s (29 + j22)) >>> (nI j22_1 &&& 31)) &&& (1 : Int32)), upd om_s (29 + j22) (((om_s (29 + j22)) &&& (((1 : Int32) <<< (nI j22_1 &&& 31)) ^^^ (-1 : Int32))) ||| (0 : Int32)), rfl, by unfold f_X7_refer; (try simp only [hj22, hj22_1]); rw [if_neg c1, if_neg c2, if_neg c3, if_pos c4] <;> rfl, by rw [ht]; exact hP, hD⟩, hS.F ht⟩) hS.2.2 dX7_refer_76
        · refine lv_iconst (v := (1 : Int32)) hx hb dX7_refer_65 (by decide) ?_
          refine lv_iload_n hx hb dX7_refer_66 rfl (lv_at hl 3 rfl) ?_
          refine lv_ishl hx hb dX7_refer_67 ?_
          refine lv_goto (tgt := 72) hx hb dX7_refer_68 (by decide) ?_
          refine lv_ior hx hb dX7_refer_72 ?_
          refine iast_n hx hb hKX hP hD hS 1 rfl rfl (by omega) (by decide) dX7_refer_73 (fun H locs hP hD hS => ?_)
          have hP : va_P D vwCl (wX7 cy om om_thrown (upd om_s (29 + j22) (((om_s (29 + j22)) &&& (((1 : Int32) <<< (nI j22_1 &&& 31)) ^^^ (-1 : Int32))) ||| ((1 : Int32) <<< (nI j22_1 &&& 31)))) om_kept om_aside om_isKept om_reaches om_ringOf om_rungOf om_rings om_ringMany om_paid om_leftOf om_ringPaid om_paidAll om_mosts om_text om_signs om_at om_isWrong om_clauses om_letters om_one om_two om_three om_whys om_backs om_sorts om_sizes om_items) H := hP
          have hD : va_D A (wX7 cy om om_thrown (upd om_s (29 + j22) (((om_s (29 + j22)) &&& (((1 : Int32) <<< (nI j22_1 &&& 31)) ^^^ (-1 : Int32))) ||| ((1 : Int32) <<< (nI j22_1 &&& 31)))) om_kept om_aside om_isKept om_reaches om_ringOf om_rungOf om_rings om_ringMany om_paid om_leftOf om_ringPaid om_paidAll om_mosts om_text om_signs om_at om_isWrong om_clauses om_letters om_one om_two om_three om_whys om_backs om_sorts om_sizes om_items) := hD
          refine lv_iload hx hb dX7_refer_74 (lv_at hl 0 rfl) ?_
          exact W.iret (v := (((om_s (29 + j22)) >>> (nI j22_1 &&& 31)) &&& (1 : Int32))) hx hb hr (fun t ht hW => ⟨⟨(((om_s (29 + j22)) >>> (nI j22_1 &&& 31)) &&& (1 : Int32)), upd om_s (29 + j22) (((om_s (29 + j22)) &&& (((1 : Int32) <<< (nI j22_1 &&& 31)) ^^^ (-1 : Int32))) ||| ((1 : Int32) <<< (nI j22_1 &&& 31))), rfl, by unfold f_X7_refer; (try simp only [hj22, hj22_1]); rw [if_neg c1, if_neg c2, if_neg c3, if_neg c4] <;> rfl, by rw [ht]; exact hP, hD⟩, hS.F ht⟩) hS.2.2 dX7_refer_76
      · refine lv_iconst (v := (-1 : Int32)) hx hb dX7_refer_21 (by decide) ?_
        exact W.iret (v := (-1 : Int32)) hx hb hr (fun t ht hW => ⟨⟨(-1 : Int32), om_s, rfl, by unfold f_X7_refer; (try simp only [hj22, hj22_1]); rw [if_neg c1, if_neg c2, if_pos c3] <;> rfl, by rw [ht]; exact hP, hD⟩, hS.F ht⟩) hS.2.2 dX7_refer_22
def f_X7_loss (om_s : Nat → Int32) (v : Int32) : Int32 × (Nat → Int32) :=
  if (f_X7_in ((v).toInt64) (0 : Int64) (300 : Int64)) = (0 : Int32) then ((-2 : Int32), om_s) else ((om_s 1), upd om_s 1 v)
set_option maxHeartbeats 4000000 in
set_option maxRecDepth 100000 in
theorem c_X7_loss (l : Launch) (D : va_G) (cy : Nat → ClassId) (om : Nat → Nat) (om_thrown : Int32) (om_s : Nat → Int32) (om_kept : Nat → Int32) (om_aside : Nat → Int32) (om_isKept : Int32) (om_reaches : Nat → Int32) (om_ringOf : Nat → Int32) (om_rungOf : Nat → Int32) (om_rings : Nat → Int32) (om_ringMany : Int32) (om_paid : Nat → Int32) (om_leftOf : Nat → Int32) (om_ringPaid : Nat → Int32) (om_paidAll : Int32) (om_mosts : Nat → Int32) (om_text : Nat → Int32) (om_signs : Int32) (om_at : Int32) (om_isWrong : Int32) (om_clauses : Int32) (om_letters : Nat → Int32) (om_one : Nat → Int32) (om_two : Nat → Int32) (om_three : Nat → Int32) (om_whys : Nat → Int32) (om_backs : Nat → Int32) (om_sorts : Nat → Int32) (om_sizes : Nat → Int32) (om_items : Nat → Int64) (v : Int32) : RwI (S := (Nat → Int32)) l D cy yX7_loss (.code yX7_loss cX7_loss 3 (some .int)) 1 (wX7 cy om om_thrown om_s om_kept om_aside om_isKept om_reaches om_ringOf om_rungOf om_rings om_ringMany om_paid om_leftOf om_ringPaid om_paidAll om_mosts om_text om_signs om_at om_isWrong om_clauses om_letters om_one om_two om_three om_whys om_backs om_sorts om_sizes om_items) [.ref (om 0), .int v] (fun rr u => (rr, u) = f_X7_loss om_s v) (fun u => wX7 cy om om_thrown u om_kept om_aside om_isKept om_reaches om_ringOf om_rungOf om_rings om_ringMany om_paid om_leftOf om_ringPaid om_paidAll om_mosts om_text om_signs om_at om_isWrong om_clauses om_letters om_one om_two om_three om_whys om_backs om_sorts om_sizes om_items) := by
  intro sz
  refine Met.ofW (cc := cX7_loss) (maxL := 3) (ret := (some .int)) (by decide) rfl ?_
  intro pP eE s0 mM args below meth cC s₁ B hml hv
  obtain ⟨rfl, hsz, hP, hKX, hD0⟩ := hv
  have hx := B.exec
  have hb := B.bytes
  have hr := B.returns
  have hG := gw_hts (atoms_spec (ws := _) B.pre)
  have hown : s0.vm.findClass RX7 = some mM.cls := findClass_of_methodNamed B.named
  have hlocks := B.notSynchronized
  subst hsz
  have hD := hD0.self (sz := s0.heap.size)
  generalize hAe : va_A (wX7 cy om om_thrown om_s om_kept om_aside om_isKept om_reaches om_ringOf om_rungOf om_rings om_ringMany om_paid om_leftOf om_ringPaid om_paidAll om_mosts om_text om_signs om_at om_isWrong om_clauses om_letters om_one om_two om_three om_whys om_backs om_sorts om_sizes om_items) s0.heap.size = A at hD ⊢
  have hA : ∀ q : Nat, s0.heap.size ≤ q → A q := fun q h => by rw [← hAe]; exact Or.inr h
  have hS : va_S A s0.heap s0.heap [] := va_S.rf
  have hl := lv_entry ([.ref (om 0), .int v]) (n := 3) (Nat.le_of_ble_eq_true rfl)
  rw [lg_entry_eq]
  generalize (lg_sl ([.ref (om 0), .int v]) ++ List.replicate (3 - (lg_sl ([.ref (om 0), .int v])).length) Slot.unset).toArray = ls at hl ⊢
  have hl : lv_has ls 3 [(0, .ref (om 0)), (1, .int v)] := hl
  refine lv_iload_n hx hb dX7_loss_0 rfl (lv_at hl 1 rfl) ?_
  refine lv_i2l (v := ((v).toInt64)) hx hb dX7_loss_1 rfl ?_
  refine lv_lconst (v := (0 : Int64)) hx hb dX7_loss_2 (by decide) ?_
  refine lv_ldc2 (v := (300 : Int64)) hx hb hown (hG _ mw9_13) dX7_loss_3 ?_
  refine cRoS mw7_3 mw7_4 mw1_5 mw7_5 hd_X7_in hx hb hml hown hG hKX (c_X7_in l D cy ((v).toInt64) (0 : Int64) (300 : Int64)) ⟨Nat.le_of_ble_eq_true rfl, Nat.le_of_ble_eq_true rfl⟩ ⟨Nat.zero_le _, Nat.zero_le _⟩ (hP.sub [] rfl) rfl hl.1 rfl (Nat.le_of_ble_eq_true rfl) dX7_loss_6 ?_
  refine lv_if_ne (tgt := 15) hx hb dX7_loss_9 (by decide) (fun c1 => ?_) (fun c1 => ?_)
  · refine lv_aload_n hx hb dX7_loss_15 rfl (lv_at hl 0 rfl) ?_
    refine gf_X7_15 hx hb hG hown hKX hP 0 rfl rfl dX7_loss_16 ?_
    refine lv_iconst (v := (1 : Int32)) hx hb dX7_loss_19 (by decide) ?_
    refine iald_n hx hb hKX hP 1 rfl rfl (by decide) (by decide) dX7_loss_20 ?_
    refine lv_istore_n (lv' := [(2, .int (om_s 1)), (0, .ref (om 0)), (1, .int v)]) hx hb dX7_loss_21 rfl hl (by decide) rfl (fun ls hl => ?_)
    refine lv_aload_n hx hb dX7_loss_22 rfl (lv_at hl 1 rfl) ?_
    refine gf_X7_15 hx hb hG hown hKX hP 0 rfl rfl dX7_loss_23 ?_
    refine lv_iconst (v := (1 : Int32)) hx hb dX7_loss_26 (by decide) ?_
    refine lv_iload_n hx hb dX7_loss_27 rfl (lv_at hl 2 rfl) ?_
    refine iast_n hx hb hKX hP hD hS 1 rfl rfl (by decide) (by decide) dX7_loss_28 (fun H locs hP hD hS => ?_)
    have hP : va_P D vwCl (wX7 cy om om_thrown (upd om_s 1 v) om_kept om_aside om_isKept om_reaches om_ringOf om_rungOf om_rings om_ringMany om_paid om_leftOf om_ringPaid om_paidAll om_mosts om_text om_signs om_at om_isWrong om_clauses om_letters om_one om_two om_three om_whys om_backs om_sorts om_sizes om_items) H := hP
    have hD : va_D A (wX7 cy om om_thrown (upd om_s 1 v) om_kept om_aside om_isKept om_reaches om_ringOf om_rungOf om_rings om_ringMany om_paid om_leftOf om_ringPaid om_paidAll om_mosts om_text om_signs om_at om_isWrong om_clauses om_letters om_one om_two om_three om_whys om_backs om_sorts om_sizes om_items) := hD
    refine lv_iload_n hx hb dX7_loss_29 rfl (lv_at hl 0 rfl) ?_
    exact W.iret (v := (om_s 1)) hx hb hr (fun t ht hW => ⟨⟨(om_s 1), upd om_s 1 v, rfl, by unfold f_X7_loss; rw [if_neg c1] <;> rfl, by rw [ht]; exact hP, hD⟩, hS.F ht⟩) hS.2.2 dX7_loss_30
  · refine lv_bipush (v := (-2 : Int32)) hx hb dX7_loss_12 (by decide) ?_
    exact W.iret (v := (-2 : Int32)) hx hb hr (fun t ht hW => ⟨⟨(-2 : Int32), om_s, rfl, by unfold f_X7_loss; rw [if_pos c1] <;> rfl, by rw [ht]; exact hP, hD⟩, hS.F ht⟩) hS.2.2 dX7_loss_14
def bd_X7_reach_138 (k117 : Nat) (z35 : (Nat → Int32)) (k138 : Nat) (z138 : (Nat → Int32)) : (Nat → Int32) :=
  if (f_X7_has (z35 k117) (nI k138)) = (0 : Int32) then z138 else (if (f_X7_has (z35 k138) (nI k117)) = (0 : Int32) then z138 else (upd z138 k117 ((z138 k117) ||| ((1 : Int32) <<< (nI k138 &&& 31)))))
def bd_X7_reach_117 (n : Nat) (z35 : (Nat → Int32)) (k117 : Nat) (z117 : (Nat → Int32)) : (Nat → Int32) :=
  (itr (bd_X7_reach_138 k117 z35) n (upd z117 k117 ((1 : Int32) <<< (nI k117 &&& 31))))
def bd_X7_reach_55 (k43 : Nat) (k55 : Nat) (z55 : (Nat → Int32)) : (Nat → Int32) :=
  if (f_X7_has (z55 k43) (nI k55)) = (0 : Int32) then (upd z55 k43 ((z55 k43) ||| (0 : Int32))) else (upd z55 k43 ((z55 k43) ||| (z55 k55)))
def bd_X7_reach_43 (n : Nat) (k43 : Nat) (z43 : (Nat → Int32)) : (Nat → Int32) :=
  (itr (bd_X7_reach_55 k43) n z43)
def bd_X7_reach_35 (n : Nat) (k35 : Nat) (z35 : (Nat → Int32)) : (Nat → Int32) :=
  (itr (bd_X7_reach_43 n) n z35)
def bd_X7_reach_2 (om_s : Nat → Int32) (k2 : Nat) (z2 : (Nat → Int32)) : (Nat → Int32) :=
  upd z2 k2 (om_s (29 + k2))
def f_X7_reach (om_s : Nat → Int32) (om_reaches : Nat → Int32) (om_ringOf : Nat → Int32) (n : Nat) : (Nat → Int32) × (Nat → Int32) :=
  ((itr (bd_X7_reach_35 n) 6 (itr (bd_X7_reach_2 om_s) n om_reaches)), (itr (bd_X7_reach_117 n (itr (bd_X7_reach_35 n) 6 (itr (bd_X7_reach_2 om_s) n om_reaches))) n om_ringOf))
set_option maxHeartbeats 4000000 in
set_option maxRecDepth 100000 in
theorem c_X7_reach (l : Launch) (D : va_G) (cy : Nat → ClassId) (om : Nat → Nat) (om_thrown : Int32) (om_s : Nat → Int32) (om_kept : Nat → Int32) (om_aside : Nat → Int32) (om_isKept : Int32) (om_reaches : Nat → Int32) (om_ringOf : Nat → Int32) (om_rungOf : Nat → Int32) (om_rings : Nat → Int32) (om_ringMany : Int32) (om_paid : Nat → Int32) (om_leftOf : Nat → Int32) (om_ringPaid : Nat → Int32) (om_paidAll : Int32) (om_mosts : Nat → Int32) (om_text : Nat → Int32) (om_signs : Int32) (om_at : Int32) (om_isWrong : Int32) (om_clauses : Int32) (om_letters : Nat → Int32) (om_one : Nat → Int32) (om_two : Nat → Int32) (om_three : Nat → Int32) (om_whys : Nat → Int32) (om_backs : Nat → Int32) (om_sorts : Nat → Int32) (om_sizes : Nat → Int32) (om_items : Nat → Int64) (n : Nat) (hn : n ≤ 6) (hs0 : om_s 0 = nI n) : RwV (S := (Nat → Int32) × (Nat → Int32)) l D cy yX7_reach (.code yX7_reach cX7_reach 4 none) 1 (wX7 cy om om_thrown om_s om_kept om_aside om_isKept om_reaches om_ringOf om_rungOf om_rings om_ringMany om_paid om_leftOf om_ringPaid om_paidAll om_mosts om_text om_signs om_at om_isWrong om_clauses om_letters om_one om_two om_three om_whys om_backs om_sorts om_sizes om_items) [.ref (om 0)] (fun u => u = f_X7_reach om_s om_reaches om_ringOf n) (fun u => wX7 cy om om_thrown om_s om_kept om_aside om_isKept u.1 u.2 om_rungOf om_rings om_ringMany om_paid om_leftOf om_ringPaid om_paidAll om_mosts om_text om_signs om_at om_isWrong om_clauses om_letters om_one om_two om_three om_whys om_backs om_sorts om_sizes om_items) := by
  intro sz
  refine Met.ofW (cc := cX7_reach) (maxL := 4) (ret := none) (by decide) rfl ?_
  intro pP eE s0 mM args below meth cC s₁ B hml hv
  obtain ⟨rfl, hsz, hP, hKX, hD0⟩ := hv
  have hx := B.exec
  have hb := B.bytes
  have hr := B.returns
  have hG := gw_hts (atoms_spec (ws := _) B.pre)
  have hown : s0.vm.findClass RX7 = some mM.cls := findClass_of_methodNamed B.named
  have hlocks := B.notSynchronized
  subst hsz
  have hD := hD0.self (sz := s0.heap.size)
  generalize hAe : va_A (wX7 cy om om_thrown om_s om_kept om_aside om_isKept om_reaches om_ringOf om_rungOf om_rings om_ringMany om_paid om_leftOf om_ringPaid om_paidAll om_mosts om_text om_signs om_at om_isWrong om_clauses om_letters om_one om_two om_three om_whys om_backs om_sorts om_sizes om_items) s0.heap.size = A at hD ⊢
  have hA : ∀ q : Nat, s0.heap.size ≤ q → A q := fun q h => by rw [← hAe]; exact Or.inr h
  have hS : va_S A s0.heap s0.heap [] := va_S.rf
  have hl := lv_entry ([.ref (om 0)]) (n := 4) (Nat.le_of_ble_eq_true rfl)
  rw [lg_entry_eq]
  generalize (lg_sl ([.ref (om 0)]) ++ List.replicate (4 - (lg_sl ([.ref (om 0)])).length) Slot.unset).toArray = ls at hl ⊢
  have hl : lv_has ls 4 [(0, .ref (om 0))] := hl
  refine lv_iconst (v := (0 : Int32)) hx hb dX7_reach_0 (by decide) ?_
  refine lv_istore_n (lv' := [(1, .int (0 : Int32)), (0, .ref (om 0))]) hx hb dX7_reach_1 rfl hl (by decide) rfl (fun ls hl => ?_)
  refine loopW (bd_X7_reach_2 om_s) om_reaches n (fun k2 z2 => [(1, .int (nI k2)), (0, .ref (om 0))]) (fun k2 z2 => wX7 cy om om_thrown om_s om_kept om_aside om_isKept z2 om_ringOf om_rungOf om_rings om_ringMany om_paid om_leftOf om_ringPaid om_paidAll om_mosts om_text om_signs om_at om_isWrong om_clauses om_letters om_one om_two om_three om_whys om_backs om_sorts om_sizes om_items) hP hD hS (lv_sub hl [0, 1] rfl) (fun k2 z2 H locs ls hk2 hz2 hP hD hS hl ih2 => ?_)
  refine lv_iload_n hx hb dX7_reach_2 rfl (lv_at hl 0 rfl) ?_
  refine lv_aload_n hx hb dX7_reach_3 rfl (lv_at hl 1 rfl) ?_
  refine gf_X7_15 hx hb hG hown hKX hP 0 rfl rfl dX7_reach_4 ?_
  refine lv_iconst (v := (0 : Int32)) hx hb dX7_reach_7 (by decide) ?_
  refine iald_v hx hb hKX hP 1 rfl rfl (by decide) (by decide) hs0 dX7_reach_8 ?_
  refine lv_icmp_ge (tgt := 33) hx hb dX7_reach_9 (by decide) (fun c1 => ?_) (fun c1 => ?_)
  · have e_k2 : n = k2 := Nat.le_antisymm ((le_n (N := n) (k := k2) rfl (by omega) (by omega)).mp c1) hk2
    subst e_k2
    refine lv_iconst (v := (0 : Int32)) hx hb dX7_reach_33 (by decide) ?_
    refine lv_istore_n (lv' := [(1, .int (0 : Int32)), (0, .ref (om 0))]) hx hb dX7_reach_34 rfl hl (by decide) rfl (fun ls hl => ?_)
    refine loopW (bd_X7_reach_35 n) z2 6 (fun k35 z35 => [(1, .int (nI k35)), (0, .ref (om 0))]) (fun k35 z35 => wX7 cy om om_thrown om_s om_kept om_aside om_isKept z35 om_ringOf om_rungOf om_rings om_ringMany om_paid om_leftOf om_ringPaid om_paidAll om_mosts om_text om_signs om_at om_isWrong om_clauses om_letters om_one om_two om_three om_whys om_backs om_sorts om_sizes om_items) hP hD hS (lv_sub hl [0, 1] rfl) (fun k35 z35 H locs ls hk35 hz35 hP hD hS hl ih35 => ?_)
    refine lv_iload_n hx hb dX7_reach_35 rfl (lv_at hl 0 rfl) ?_
    refine lv_bipush (v := (6 : Int32)) hx hb dX7_reach_36 (by decide) ?_
    refine lv_icmp_ge (tgt := 115) hx hb dX7_reach_38 (by decide) (fun c2 => ?_) (fun c2 => ?_)
    · have e_k35 : 6 = k35 := Nat.le_antisymm ((le_n (N := 6) (k := k35) rfl (by omega) (by omega)).mp c2) hk35
      subst e_k35
      refine lv_iconst (v := (0 : Int32)) hx hb dX7_reach_115 (by decide) ?_
      refine lv_istore_n (lv' := [(1, .int (0 : Int32)), (0, .ref (om 0))]) hx hb dX7_reach_116 rfl hl (by decide) rfl (fun ls hl => ?_)
      refine loopW (bd_X7_reach_117 n z35) om_ringOf n (fun k117 z117 => [(1, .int (nI k117)), (0, .ref (om 0))]) (fun k117 z117 => wX7 cy om om_thrown om_s om_kept om_aside om_isKept z35 z117 om_rungOf om_rings om_ringMany om_paid om_leftOf om_ringPaid om_paidAll om_mosts om_text om_signs om_at om_isWrong om_clauses om_letters om_one om_two om_three om_whys om_backs om_sorts om_sizes om_items) hP hD hS (lv_sub hl [0, 1] rfl) (fun k117 z117 H locs ls hk117 hz117 hP hD hS hl ih117 => ?_)
      refine lv_iload_n hx hb dX7_reach_117 rfl (lv_at hl 0 rfl) ?_
      refine lv_aload_n hx hb dX7_reach_118 rfl (lv_at hl 1 rfl) ?_
      refine gf_X7_15 hx hb hG hown hKX hP 0 rfl rfl dX7_reach_119 ?_
      refine lv_iconst (v := (0 : Int32)) hx hb dX7_reach_122 (by decide) ?_
      refine iald_v hx hb hKX hP 1 rfl rfl (by decide) (by decide) hs0 dX7_reach_123 ?_
      refine lv_icmp_ge (tgt := 198) hx hb dX7_reach_124 (by decide) (fun c3 => ?_) (fun c3 => ?_)
      · have e_k117 : n = k117 := Nat.le_antisymm ((le_n (N := n) (k := k117) rfl (by omega) (by omega)).mp c3) hk117
        subst e_k117
        exact W.vret hx hb hr (fun t ht hW => ⟨⟨(z35, z117), rfl, by subst hz117; subst hz35; subst hz2; unfold f_X7_reach; rfl, by rw [ht]; exact hP, hD⟩, hS.F ht⟩) hS.2.2 dX7_reach_198
      · have hlt117 : k117 < n := Nat.lt_of_not_le (fun qq_ => c3 ((le_n (N := n) (k := k117) rfl (by omega) (by omega)).mpr qq_))
        refine lv_aload_n hx hb dX7_reach_127 rfl (lv_at hl 1 rfl) ?_
        refine gf_X7_28 hx hb hG hown hKX hP 0 rfl rfl dX7_reach_128 ?_
        refine lv_iload_n hx hb dX7_reach_131 rfl (lv_at hl 0 rfl) ?_
        refine lv_iconst (v := (1 : Int32)) hx hb dX7_reach_132 (by decide) ?_
        refine lv_iload_n hx hb dX7_reach_133 rfl (lv_at hl 0 rfl) ?_
        refine lv_ishl hx hb dX7_reach_134 ?_
        refine iast_n hx hb hKX hP hD hS 5 rfl rfl (by omega) (by decide) dX7_reach_135 (fun H locs hP hD hS => ?_)
        have hP : va_P D vwCl (wX7 cy om om_thrown om_s om_kept om_aside om_isKept z35 (upd z117 k117 ((1 : Int32) <<< (nI k117 &&& 31))) om_rungOf om_rings om_ringMany om_paid om_leftOf om_ringPaid om_paidAll om_mosts om_text om_signs om_at om_isWrong om_clauses om_letters om_one om_two om_three om_whys om_backs om_sorts om_sizes om_items) H := hP
        have hD : va_D A (wX7 cy om om_thrown om_s om_kept om_aside om_isKept z35 (upd z117 k117 ((1 : Int32) <<< (nI k117 &&& 31))) om_rungOf om_rings om_ringMany om_paid om_leftOf om_ringPaid om_paidAll om_mosts om_text om_signs om_at om_isWrong om_clauses om_letters om_one om_two om_three om_whys om_backs om_sorts om_sizes om_items) := hD
        refine lv_iconst (v := (0 : Int32)) hx hb dX7_reach_136 (by decide) ?_
        refine lv_istore_n (lv' := [(2, .int (0 : Int32)), (1, .int (nI k117)), (0, .ref (om 0))]) hx hb dX7_reach_137 rfl hl (by decide) rfl (fun ls hl => ?_)
        refine loopW (bd_X7_reach_138 k117 z35) (upd z117 k117 ((1 : Int32) <<< (nI k117 &&& 31))) n (fun k138 z138 => [(2, .int (nI k138)), (1, .int (nI k117)), (0, .ref (om 0))]) (fun k138 z138 => wX7 cy om om_thrown om_s om_kept om_aside om_isKept z35 z138 om_rungOf om_rings om_ringMany om_paid om_leftOf om_ringPaid om_paidAll om_mosts om_text om_signs om_at om_isWrong om_clauses om_letters om_one om_two om_three om_whys om_backs om_sorts om_sizes om_items) hP hD hS (lv_sub hl [0, 1, 2] rfl) (fun k138 z138 H locs ls hk138 hz138 hP hD hS hl ih138 => ?_)
        refine lv_iload_n hx hb dX7_reach_138 rfl (lv_at hl 0 rfl) ?_
        refine lv_aload_n hx hb dX7_reach_139 rfl (lv_at hl 2 rfl) ?_
        refine gf_X7_15 hx hb hG hown hKX hP 0 rfl rfl dX7_reach_140 ?_
        refine lv_iconst (v := (0 : Int32)) hx hb dX7_reach_143 (by decide) ?_
        refine iald_v hx hb hKX hP 1 rfl rfl (by decide) (by decide) hs0 dX7_reach_144 ?_
        refine lv_icmp_ge (tgt := 192) hx hb dX7_reach_145 (by decide) (fun c4 => ?_) (fun c4 => ?_)
        · have e_k138 : n = k138 := Nat.le_antisymm ((le_n (N := n) (k := k138) rfl (by omega) (by omega)).mp c4) hk138
          subst e_k138
          refine lv_iinc (v := nI (k117 + 1)) (lv' := [(1, .int (nI (k117 + 1))), (2, .int (nI n)), (0, .ref (om 0))]) hx hb dX7_reach_192 hl (k := 1) rfl (nI_1 _) (by decide) rfl (fun ls hl => ?_)
          refine lv_goto (tgt := 117) hx hb dX7_reach_195 (by decide) ?_
          exact ih117 z138 _ _ _ hlt117 (by subst hz138; subst hz35; subst hz2; unfold bd_X7_reach_117; rfl) hP hD hS (lv_sub hl [0, 2] rfl)
        · have hlt138 : k138 < n := Nat.lt_of_not_le (fun qq_ => c4 ((le_n (N := n) (k := k138) rfl (by omega) (by omega)).mpr qq_))
          refine lv_aload_n hx hb dX7_reach_148 rfl (lv_at hl 2 rfl) ?_
          refine gf_X7_25 hx hb hG hown hKX hP 0 rfl rfl dX7_reach_149 ?_
          refine lv_iload_n hx hb dX7_reach_152 rfl (lv_at hl 1 rfl) ?_
          refine iald_n hx hb hKX hP 4 rfl rfl (by omega) (by decide) dX7_reach_153 ?_
          refine lv_iload_n hx hb dX7_reach_154 rfl (lv_at hl 0 rfl) ?_
          refine cRoS mw14_23 mw15_0 mw1_5 mw15_1 hd_X7_has hx hb hml hown hG hKX (c_X7_has l D cy (z35 k117) (nI k138)) ⟨Nat.le_of_ble_eq_true rfl, Nat.le_of_ble_eq_true rfl⟩ ⟨Nat.zero_le _, Nat.zero_le _⟩ (hP.sub [] rfl) rfl hl.1 rfl (Nat.le_of_ble_eq_true rfl) dX7_reach_155 ?_
          refine lv_if_eq (tgt := 186) hx hb dX7_reach_158 (by decide) (fun c5 => ?_) (fun c5 => ?_)
          · refine lv_iinc (v := nI (k138 + 1)) (lv' := [(2, .int (nI (k138 + 1))), (1, .int (nI k117)), (0, .ref (om 0))]) hx hb dX7_reach_186 hl (k := 0) rfl (nI_1 _) (by decide) rfl (fun ls hl => ?_)
            refine lv_goto (tgt := 138) hx hb dX7_reach_189 (by decide) ?_
            exact ih138 z138 _ _ _ hlt138 (by subst hz35; subst hz2; unfold bd_X7_reach_138; rw [if_pos c5] <;> rfl) hP hD hS (lv_sub hl [0, 1, 2] rfl)
          · refine lv_aload_n hx hb dX7_reach_161 rfl (lv_at hl 2 rfl) ?_
            refine gf_X7_25 hx hb hG hown hKX hP 0 rfl rfl dX7_reach_162 ?_
            refine lv_iload_n hx hb dX7_reach_165 rfl (lv_at hl 0 rfl) ?_
            refine iald_n hx hb hKX hP 4 rfl rfl (by omega) (by decide) dX7_reach_166 ?_
            refine lv_iload_n hx hb dX7_reach_167 rfl (lv_at hl 1 rfl) ?_
            refine cRoS mw14_23 mw15_0 mw1_5 mw15_1 hd_X7_has hx hb hml hown hG hKX (c_X7_has l D cy (z35 k138) (nI k117)) ⟨Nat.le_of_ble_eq_true rfl, Nat.le_of_ble_eq_true rfl⟩ ⟨Nat.zero_le _, Nat.zero_le _⟩ (hP.sub [] rfl) rfl hl.1 rfl (Nat.le_of_ble_eq_true rfl) dX7_reach_168 ?_
            refine lv_if_eq (tgt := 186) hx hb dX7_reach_171 (by decide) (fun c6 => ?_) (fun c6 => ?_)
            · refine lv_iinc (v := nI (k138 + 1)) (lv' := [(2, .int (nI (k138 + 1))), (1, .int (nI k117)), (0, .ref (om 0))]) hx hb dX7_reach_186 hl (k := 0) rfl (nI_1 _) (by decide) rfl (fun ls hl => ?_)
              refine lv_goto (tgt := 138) hx hb dX7_reach_189 (by decide) ?_
              exact ih138 z138 _ _ _ hlt138 (by subst hz35; subst hz2; unfold bd_X7_reach_138; rw [if_neg c5, if_pos c6] <;> rfl) hP hD hS (lv_sub hl [0, 1, 2] rfl)
            · refine lv_aload_n hx hb dX7_reach_174 rfl (lv_at hl 2 rfl) ?_
              refine gf_X7_28 hx hb hG hown hKX hP 0 rfl rfl dX7_reach_175 ?_
              refine lv_iload_n hx hb dX7_reach_178 rfl (lv_at hl 1 rfl) ?_
              refine lv_dup2_11 hx hb dX7_reach_179 rfl rfl ?_
              refine iald_n hx hb hKX hP 5 rfl rfl (by omega) (by decide) dX7_reach_180 ?_
              refine lv_iconst (v := (1 : Int32)) hx hb dX7_reach_181 (by decide) ?_
              refine lv_iload_n hx hb dX7_reach_182 rfl (lv_at hl 0 rfl) ?_
              refine lv_ishl hx hb dX7_reach_183 ?_
              refine lv_ior hx hb dX7_reach_184 ?_
              refine iast_n hx hb hKX hP hD hS 5 rfl rfl (by omega) (by decide) dX7_reach_185 (fun H locs hP hD hS => ?_)
              have hP : va_P D vwCl (wX7 cy om om_thrown om_s om_kept om_aside om_isKept z35 (upd z138 k117 ((z138 k117) ||| ((1 : Int32) <<< (nI k138 &&& 31)))) om_rungOf om_rings om_ringMany om_paid om_leftOf om_ringPaid om_paidAll om_mosts om_text om_signs om_at om_isWrong om_clauses om_letters om_one om_two om_three om_whys om_backs om_sorts om_sizes om_items) H := hP
              have hD : va_D A (wX7 cy om om_thrown om_s om_kept om_aside om_isKept z35 (upd z138 k117 ((z138 k117) ||| ((1 : Int32) <<< (nI k138 &&& 31)))) om_rungOf om_rings om_ringMany om_paid om_leftOf om_ringPaid om_paidAll om_mosts om_text om_signs om_at om_isWrong om_clauses om_letters om_one om_two om_three om_whys om_backs om_sorts om_sizes om_items) := hD
              refine lv_iinc (v := nI (k138 + 1)) (lv' := [(2, .int (nI (k138 + 1))), (1, .int (nI k117)), (0, .ref (om 0))]) hx hb dX7_reach_186 hl (k := 0) rfl (nI_1 _) (by decide) rfl (fun ls hl => ?_)
              refine lv_goto (tgt := 138) hx hb dX7_reach_189 (by decide) ?_
              exact ih138 (upd z138 k117 ((z138 k117) ||| ((1 : Int32) <<< (nI k138 &&& 31)))) _ _ _ hlt138 (by subst hz35; subst hz2; unfold bd_X7_reach_138; rw [if_neg c5, if_neg c6] <;> rfl) hP hD hS (lv_sub hl [0, 1, 2] rfl)
    · have hlt35 : k35 < 6 := Nat.lt_of_not_le (fun qq_ => c2 ((le_n (N := 6) (k := k35) rfl (by omega) (by omega)).mpr qq_))
      refine lv_iconst (v := (0 : Int32)) hx hb dX7_reach_41 (by decide) ?_
      refine lv_istore_n (lv' := [(2, .int (0 : Int32)), (1, .int (nI k35)), (0, .ref (om 0))]) hx hb dX7_reach_42 rfl hl (by decide) rfl (fun ls hl => ?_)
      refine loopW (bd_X7_reach_43 n) z35 n (fun k43 z43 => [(2, .int (nI k43)), (1, .int (nI k35)), (0, .ref (om 0))]) (fun k43 z43 => wX7 cy om om_thrown om_s om_kept om_aside om_isKept z43 om_ringOf om_rungOf om_rings om_ringMany om_paid om_leftOf om_ringPaid om_paidAll om_mosts om_text om_signs om_at om_isWrong om_clauses om_letters om_one om_two om_three om_whys om_backs om_sorts om_sizes om_items) hP hD hS (lv_sub hl [0, 1, 2] rfl) (fun k43 z43 H locs ls hk43 hz43 hP hD hS hl ih43 => ?_)
      refine lv_iload_n hx hb dX7_reach_43 rfl (lv_at hl 0 rfl) ?_
      refine lv_aload_n hx hb dX7_reach_44 rfl (lv_at hl 2 rfl) ?_
      refine gf_X7_15 hx hb hG hown hKX hP 0 rfl rfl dX7_reach_45 ?_
      refine lv_iconst (v := (0 : Int32)) hx hb dX7_reach_48 (by decide) ?_
      refine iald_v hx hb hKX hP 1 rfl rfl (by decide) (by decide) hs0 dX7_reach_49 ?_
      refine lv_icmp_ge (tgt := 109) hx hb dX7_reach_50 (by decide) (fun c7 => ?_) (fun c7 => ?_)
      · have e_k43 : n = k43 := Nat.le_antisymm ((le_n (N := n) (k := k43) rfl (by omega) (by omega)).mp c7) hk43
        subst e_k43
        refine lv_iinc (v := nI (k35 + 1)) (lv' := [(1, .int (nI (k35 + 1))), (2, .int (nI n)), (0, .ref (om 0))]) hx hb dX7_reach_109 hl (k := 1) rfl (nI_1 _) (by decide) rfl (fun ls hl => ?_)
        refine lv_goto (tgt := 35) hx hb dX7_reach_112 (by decide) ?_
        exact ih35 z43 _ _ _ hlt35 (by subst hz43; subst hz2; unfold bd_X7_reach_35; rfl) hP hD hS (lv_sub hl [0, 2] rfl)
      · have hlt43 : k43 < n := Nat.lt_of_not_le (fun qq_ => c7 ((le_n (N := n) (k := k43) rfl (by omega) (by omega)).mpr qq_))
        refine lv_iconst (v := (0 : Int32)) hx hb dX7_reach_53 (by decide) ?_
        refine lv_istore_n (lv' := [(3, .int (0 : Int32)), (2, .int (nI k43)), (1, .int (nI k35)), (0, .ref (om 0))]) hx hb dX7_reach_54 rfl hl (by decide) rfl (fun ls hl => ?_)
        refine loopW (bd_X7_reach_55 k43) z43 n (fun k55 z55 => [(3, .int (nI k55)), (2, .int (nI k43)), (1, .int (nI k35)), (0, .ref (om 0))]) (fun k55 z55 => wX7 cy om om_thrown om_s om_kept om_aside om_isKept z55 om_ringOf om_rungOf om_rings om_ringMany om_paid om_leftOf om_ringPaid om_paidAll om_mosts om_text om_signs om_at om_isWrong om_clauses om_letters om_one om_two om_three om_whys om_backs om_sorts om_sizes om_items) hP hD hS (lv_sub hl [0, 1, 2, 3] rfl) (fun k55 z55 H locs ls hk55 hz55 hP hD hS hl ih55 => ?_)
        refine lv_iload_n hx hb dX7_reach_55 rfl (lv_at hl 0 rfl) ?_
        refine lv_aload_n hx hb dX7_reach_56 rfl (lv_at hl 3 rfl) ?_
        refine gf_X7_15 hx hb hG hown hKX hP 0 rfl rfl dX7_reach_57 ?_
        refine lv_iconst (v := (0 : Int32)) hx hb dX7_reach_60 (by decide) ?_
        refine iald_v hx hb hKX hP 1 rfl rfl (by decide) (by decide) hs0 dX7_reach_61 ?_
        refine lv_icmp_ge (tgt := 103) hx hb dX7_reach_62 (by decide) (fun c8 => ?_) (fun c8 => ?_)
        · have e_k55 : n = k55 := Nat.le_antisymm ((le_n (N := n) (k := k55) rfl (by omega) (by omega)).mp c8) hk55
          subst e_k55
          refine lv_iinc (v := nI (k43 + 1)) (lv' := [(2, .int (nI (k43 + 1))), (3, .int (nI n)), (1, .int (nI k35)), (0, .ref (om 0))]) hx hb dX7_reach_103 hl (k := 1) rfl (nI_1 _) (by decide) rfl (fun ls hl => ?_)
          refine lv_goto (tgt := 43) hx hb dX7_reach_106 (by decide) ?_
          exact ih43 z55 _ _ _ hlt43 (by subst hz55; subst hz2; unfold bd_X7_reach_43; rfl) hP hD hS (lv_sub hl [0, 2, 3] rfl)
        · have hlt55 : k55 < n := Nat.lt_of_not_le (fun qq_ => c8 ((le_n (N := n) (k := k55) rfl (by omega) (by omega)).mpr qq_))
          refine lv_aload_n hx hb dX7_reach_65 rfl (lv_at hl 3 rfl) ?_
          refine gf_X7_25 hx hb hG hown hKX hP 0 rfl rfl dX7_reach_66 ?_
          refine lv_iload_n hx hb dX7_reach_69 rfl (lv_at hl 1 rfl) ?_
          refine lv_dup2_11 hx hb dX7_reach_70 rfl rfl ?_
          refine iald_n hx hb hKX hP 4 rfl rfl (by omega) (by decide) dX7_reach_71 ?_
          refine lv_aload_n hx hb dX7_reach_72 rfl (lv_at hl 3 rfl) ?_
          refine gf_X7_25 hx hb hG hown hKX hP 0 rfl rfl dX7_reach_73 ?_
          refine lv_iload_n hx hb dX7_reach_76 rfl (lv_at hl 1 rfl) ?_
          refine iald_n hx hb hKX hP 4 rfl rfl (by omega) (by decide) dX7_reach_77 ?_
          refine lv_iload_n hx hb dX7_reach_78 rfl (lv_at hl 0 rfl) ?_
          refine cRoS mw14_23 mw15_0 mw1_5 mw15_1 hd_X7_has hx hb hml hown hG hKX (c_X7_has l D cy (z55 k43) (nI k55)) ⟨Nat.le_of_ble_eq_true rfl, Nat.le_of_ble_eq_true rfl⟩ ⟨Nat.zero_le _, Nat.zero_le _⟩ (hP.sub [] rfl) rfl hl.1 rfl (Nat.le_of_ble_eq_true rfl) dX7_reach_79 ?_
          refine lv_if_eq (tgt := 94) hx hb dX7_reach_82 (by decide) (fun c9 => ?_) (fun c9 => ?_)
          · refine lv_iconst (v := (0 : Int32)) hx hb dX7_reach_94 (by decide) ?_
            refine lv_ior hx hb dX7_reach_95 ?_
            refine iast_n hx hb hKX hP hD hS 4 rfl rfl (by omega) (by decide) dX7_reach_96 (fun H locs hP hD hS => ?_)
            have hP : va_P D vwCl (wX7 cy om om_thrown om_s om_kept om_aside om_isKept (upd z55 k43 ((z55 k43) ||| (0 : Int32))) om_ringOf om_rungOf om_rings om_ringMany om_paid om_leftOf om_ringPaid om_paidAll om_mosts om_text om_signs om_at om_isWrong om_clauses om_letters om_one om_two om_three om_whys om_backs om_sorts om_sizes om_items) H := hP
            have hD : va_D A (wX7 cy om om_thrown om_s om_kept om_aside om_isKept (upd z55 k43 ((z55 k43) ||| (0 : Int32))) om_ringOf om_rungOf om_rings om_ringMany om_paid om_leftOf om_ringPaid om_paidAll om_mosts om_text om_signs om_at om_isWrong om_clauses om_letters om_one om_two om_three om_whys om_backs om_sorts om_sizes om_items) := hD
            refine lv_iinc (v := nI (k55 + 1)) (lv' := [(3, .int (nI (k55 + 1))), (2, .int (nI k43)), (1, .int (nI k35)), (0, .ref (om 0))]) hx hb dX7_reach_97 hl (k := 0) rfl (nI_1 _) (by decide) rfl (fun ls hl => ?_)
            refine lv_goto (tgt := 55) hx hb dX7_reach_100 (by decide) ?_
            exact ih55 (upd z55 k43 ((z55 k43) ||| (0 : Int32))) _ _ _ hlt55 (by subst hz2; unfold bd_X7_reach_55; rw [if_pos c9] <;> rfl) hP hD hS (lv_sub hl [0, 1, 2, 3] rfl)
          · refine lv_aload_n hx hb dX7_reach_85 rfl (lv_at hl 3 rfl) ?_
            refine gf_X7_25 hx hb hG hown hKX hP 0 rfl rfl dX7_reach_86 ?_
            refine lv_iload_n hx hb dX7_reach_89 rfl (lv_at hl 0 rfl) ?_
            refine iald_n hx hb hKX hP 4 rfl rfl (by omega) (by decide) dX7_reach_90 ?_
            refine lv_goto (tgt := 95) hx hb dX7_reach_91 (by decide) ?_
            refine lv_ior hx hb dX7_reach_95 ?_
            refine iast_n hx hb hKX hP hD hS 4 rfl rfl (by omega) (by decide) dX7_reach_96 (fun H locs hP hD hS => ?_)
            have hP : va_P D vwCl (wX7 cy om om_thrown om_s om_kept om_aside om_isKept (upd z55 k43 ((z55 k43) ||| (z55 k55))) om_ringOf om_rungOf om_rings om_ringMany om_paid om_leftOf om_ringPaid om_paidAll om_mosts om_text om_signs om_at om_isWrong om_clauses om_letters om_one om_two om_three om_whys om_backs om_sorts om_sizes om_items) H := hP
            have hD : va_D A (wX7 cy om om_thrown om_s om_kept om_aside om_isKept (upd z55 k43 ((z55 k43) ||| (z55 k55))) om_ringOf om_rungOf om_rings om_ringMany om_paid om_leftOf om_ringPaid om_paidAll om_mosts om_text om_signs om_at om_isWrong om_clauses om_letters om_one om_two om_three om_whys om_backs om_sorts om_sizes om_items) := hD
            refine lv_iinc (v := nI (k55 + 1)) (lv' := [(3, .int (nI (k55 + 1))), (2, .int (nI k43)), (1, .int (nI k35)), (0, .ref (om 0))]) hx hb dX7_reach_97 hl (k := 0) rfl (nI_1 _) (by decide) rfl (fun ls hl => ?_)
            refine lv_goto (tgt := 55) hx hb dX7_reach_100 (by decide) ?_
            exact ih55 (upd z55 k43 ((z55 k43) ||| (z55 k55))) _ _ _ hlt55 (by subst hz2; unfold bd_X7_reach_55; rw [if_neg c9] <;> rfl) hP hD hS (lv_sub hl [0, 1, 2, 3] rfl)
  · have hlt2 : k2 < n := Nat.lt_of_not_le (fun qq_ => c1 ((le_n (N := n) (k := k2) rfl (by omega) (by omega)).mpr qq_))
    refine lv_aload_n hx hb dX7_reach_12 rfl (lv_at hl 1 rfl) ?_
    refine gf_X7_25 hx hb hG hown hKX hP 0 rfl rfl dX7_reach_13 ?_
    refine lv_iload_n hx hb dX7_reach_16 rfl (lv_at hl 0 rfl) ?_
    refine lv_aload_n hx hb dX7_reach_17 rfl (lv_at hl 1 rfl) ?_
    refine gf_X7_15 hx hb hG hown hKX hP 0 rfl rfl dX7_reach_18 ?_
    refine lv_bipush (v := (29 : Int32)) hx hb dX7_reach_21 (by decide) ?_
    refine lv_iload_n hx hb dX7_reach_23 rfl (lv_at hl 0 rfl) ?_
    refine lv_iadd hx hb dX7_reach_24 ?_
    refine topi_eq (y := nI (29 + k2)) (aN rfl rfl) ?_
    refine iald_n hx hb hKX hP 1 rfl rfl (by omega) (by decide) dX7_reach_25 ?_
    refine iast_n hx hb hKX hP hD hS 4 rfl rfl (by omega) (by decide) dX7_reach_26 (fun H locs hP hD hS => ?_)
    have hP : va_P D vwCl (wX7 cy om om_thrown om_s om_kept om_aside om_isKept (upd z2 k2 (om_s (29 + k2))) om_ringOf om_rungOf om_rings om_ringMany om_paid om_leftOf om_ringPaid om_paidAll om_mosts om_text om_signs om_at om_isWrong om_clauses om_letters om_one om_two om_three om_whys om_backs om_sorts om_sizes om_items) H := hP
    have hD : va_D A (wX7 cy om om_thrown om_s om_kept om_aside om_isKept (upd z2 k2 (om_s (29 + k2))) om_ringOf om_rungOf om_rings om_ringMany om_paid om_leftOf om_ringPaid om_paidAll om_mosts om_text om_signs om_at om_isWrong om_clauses om_letters om_one om_two om_three om_whys om_backs om_sorts om_sizes om_items) := hD
    refine lv_iinc (v := nI (k2 + 1)) (lv' := [(1, .int (nI (k2 + 1))), (0, .ref (om 0))]) hx hb dX7_reach_27 hl (k := 0) rfl (nI_1 _) (by decide) rfl (fun ls hl => ?_)
    refine lv_goto (tgt := 2) hx hb dX7_reach_30 (by decide) ?_
    exact ih2 (upd z2 k2 (om_s (29 + k2))) _ _ _ hlt2 (by unfold bd_X7_reach_2; rfl) hP hD hS (lv_sub hl [0, 1] rfl)
def bd_X7_rise_47 (om_ringOf : Nat → Int32) (c : Nat) (d : Nat) (k47 : Nat) (z47 : (Nat → Int32)) : (Nat → Int32) :=
  if (f_X7_has (om_ringOf c) (nI k47)) = (0 : Int32) then z47 else (upd z47 k47 ((z47 d) + (1 : Int32)))
def f_X7_rise (om_s : Nat → Int32) (om_ringOf : Nat → Int32) (om_rungOf : Nat → Int32) (n : Nat) (c : Nat) (d : Nat) : (Nat → Int32) :=
  if (f_X7_has (om_s (29 + c)) (nI d)) = (0 : Int32) then om_rungOf else (if (f_X7_has (om_ringOf c) (nI d)) = (0 : Int32) then (if (om_rungOf c) ≤ (om_rungOf d) then (itr (bd_X7_rise_47 om_ringOf c d) n om_rungOf) else om_rungOf) else om_rungOf)
set_option maxHeartbeats 4000000 in
set_option maxRecDepth 100000 in
theorem c_X7_rise (l : Launch) (D : va_G) (cy : Nat → ClassId) (om : Nat → Nat) (om_thrown : Int32) (om_s : Nat → Int32) (om_kept : Nat → Int32) (om_aside : Nat → Int32) (om_isKept : Int32) (om_reaches : Nat → Int32) (om_ringOf : Nat → Int32) (om_rungOf : Nat → Int32) (om_rings : Nat → Int32) (om_ringMany : Int32) (om_paid : Nat → Int32) (om_leftOf : Nat → Int32) (om_ringPaid : Nat → Int32) (om_paidAll : Int32) (om_mosts : Nat → Int32) (om_text : Nat → Int32) (om_signs : Int32) (om_at : Int32) (om_isWrong : Int32) (om_clauses : Int32) (om_letters : Nat → Int32) (om_one : Nat → Int32) (om_two : Nat → Int32) (om_three : Nat → Int32) (om_whys : Nat → Int32) (om_backs : Nat → Int32) (om_sorts : Nat → Int32) (om_sizes : Nat → Int32) (om_items : Nat → Int64) (n : Nat) (c : Nat) (d : Nat) (hn : n ≤ 6) (hs0 : om_s 0 = nI n) (hc : c < n) (hd : d < n) : RwV (S := (Nat → Int32)) l D cy yX7_rise (.code yX7_rise cX7_rise 4 none) 1 (wX7 cy om om_thrown om_s om_kept om_aside om_isKept om_reaches om_ringOf om_rungOf om_rings om_ringMany om_paid om_leftOf om_ringPaid om_paidAll om_mosts om_text om_signs om_at om_isWrong om_clauses om_letters om_one om_two om_three om_whys om_backs om_sorts om_sizes om_items) [.ref (om 0), .int (nI c), .int (nI d)] (fun u => u = f_X7_rise om_s om_ringOf om_rungOf n c d) (fun u => wX7 cy om om_thrown om_s om_kept om_aside om_isKept om_reaches om_ringOf u om_rings om_ringMany om_paid om_leftOf om_ringPaid om_paidAll om_mosts om_text om_signs om_at om_isWrong om_clauses om_letters om_one om_two om_three om_whys om_backs om_sorts om_sizes om_items) := by
  intro sz
  refine Met.ofW (cc := cX7_rise) (maxL := 4) (ret := none) (by decide) rfl ?_
  intro pP eE s0 mM args below meth cC s₁ B hml hv
  obtain ⟨rfl, hsz, hP, hKX, hD0⟩ := hv
  have hx := B.exec
  have hb := B.bytes
  have hr := B.returns
  have hG := gw_hts (atoms_spec (ws := _) B.pre)
  have hown : s0.vm.findClass RX7 = some mM.cls := findClass_of_methodNamed B.named
  have hlocks := B.notSynchronized
  subst hsz
  have hD := hD0.self (sz := s0.heap.size)
  generalize hAe : va_A (wX7 cy om om_thrown om_s om_kept om_aside om_isKept om_reaches om_ringOf om_rungOf om_rings om_ringMany om_paid om_leftOf om_ringPaid om_paidAll om_mosts om_text om_signs om_at om_isWrong om_clauses om_letters om_one om_two om_three om_whys om_backs om_sorts om_sizes om_items) s0.heap.size = A at hD ⊢
  have hA : ∀ q : Nat, s0.heap.size ≤ q → A q := fun q h => by rw [← hAe]; exact Or.inr h
  have hS : va_S A s0.heap s0.heap [] := va_S.rf
  have hl := lv_entry ([.ref (om 0), .int (nI c), .int (nI d)]) (n := 4) (Nat.le_of_ble_eq_true rfl)
  rw [lg_entry_eq]
  generalize (lg_sl ([.ref (om 0), .int (nI c), .int (nI d)]) ++ List.replicate (4 - (lg_sl ([.ref (om 0), .int (nI c), .int (nI d)])).length) Slot.unset).toArray = ls at hl ⊢
  have hl : lv_has ls 4 [(0, .ref (om 0)), (1, .int (nI c)), (2, .int (nI d))] := hl
  refine lv_aload_n hx hb dX7_rise_0 rfl (lv_at hl 0 rfl) ?_
  refine gf_X7_15 hx hb hG hown hKX hP 0 rfl rfl dX7_rise_1 ?_
  refine lv_bipush (v := (29 : Int32)) hx hb dX7_rise_4 (by decide) ?_
  refine lv_iload_n hx hb dX7_rise_6 rfl (lv_at hl 1 rfl) ?_
  refine lv_iadd hx hb dX7_rise_7 ?_
  refine topi_eq (y := nI (29 + c)) (aN rfl rfl) ?_
  refine iald_n hx hb hKX hP 1 rfl rfl (by omega) (by decide) dX7_rise_8 ?_
  refine lv_iload_n hx hb dX7_rise_9 rfl (lv_at hl 2 rfl) ?_
  refine cRoS mw14_23 mw15_0 mw1_5 mw15_1 hd_X7_has hx hb hml hown hG hKX (c_X7_has l D cy (om_s (29 + c)) (nI d)) ⟨Nat.le_of_ble_eq_true rfl, Nat.le_of_ble_eq_true rfl⟩ ⟨Nat.zero_le _, Nat.zero_le _⟩ (hP.sub [] rfl) rfl hl.1 rfl (Nat.le_of_ble_eq_true rfl) dX7_rise_10 ?_
  refine lv_if_eq (tgt := 44) hx hb dX7_rise_13 (by decide) (fun c1 => ?_) (fun c1 => ?_)
  · exact W.vret hx hb hr (fun t ht hW => ⟨⟨om_rungOf, rfl, by unfold f_X7_rise; rw [if_pos c1] <;> rfl, by rw [ht]; exact hP, hD⟩, hS.F ht⟩) hS.2.2 dX7_rise_44
  · refine lv_aload_n hx hb dX7_rise_16 rfl (lv_at hl 0 rfl) ?_
    refine gf_X7_28 hx hb hG hown hKX hP 0 rfl rfl dX7_rise_17 ?_
    refine lv_iload_n hx hb dX7_rise_20 rfl (lv_at hl 1 rfl) ?_
    refine iald_n hx hb hKX hP 5 rfl rfl (by omega) (by decide) dX7_rise_21 ?_
    refine lv_iload_n hx hb dX7_rise_22 rfl (lv_at hl 2 rfl) ?_
    refine cRoS mw14_23 mw15_0 mw1_5 mw15_1 hd_X7_has hx hb hml hown hG hKX (c_X7_has l D cy (om_ringOf c) (nI d)) ⟨Nat.le_of_ble_eq_true rfl, Nat.le_of_ble_eq_true rfl⟩ ⟨Nat.zero_le _, Nat.zero_le _⟩ (hP.sub [] rfl) rfl hl.1 rfl (Nat.le_of_ble_eq_true rfl) dX7_rise_23 ?_
    refine lv_if_ne (tgt := 44) hx hb dX7_rise_26 (by decide) (fun c2 => ?_) (fun c2 => ?_)
    · exact W.vret hx hb hr (fun t ht hW => ⟨⟨om_rungOf, rfl, by unfold f_X7_rise; rw [if_neg c1, if_neg c2] <;> rfl, by rw [ht]; exact hP, hD⟩, hS.F ht⟩) hS.2.2 dX7_rise_44
    · refine lv_aload_n hx hb dX7_rise_29 rfl (lv_at hl 0 rfl) ?_
      refine gf_X7_31 hx hb hG hown hKX hP 0 rfl rfl dX7_rise_30 ?_
      refine lv_iload_n hx hb dX7_rise_33 rfl (lv_at hl 1 rfl) ?_
      refine iald_n hx hb hKX hP 6 rfl rfl (by omega) (by decide) dX7_rise_34 ?_
      refine lv_aload_n hx hb dX7_rise_35 rfl (lv_at hl 0 rfl) ?_
      refine gf_X7_31 hx hb hG hown hKX hP 0 rfl rfl dX7_rise_36 ?_
      refine lv_iload_n hx hb dX7_rise_39 rfl (lv_at hl 2 rfl) ?_
      refine iald_n hx hb hKX hP 6 rfl rfl (by omega) (by decide) dX7_rise_40 ?_
      refine lv_icmp_le (tgt := 45) hx hb dX7_rise_41 (by decide) (fun c3 => ?_) (fun c3 => ?_)
      · refine lv_iconst (v := (0 : Int32)) hx hb dX7_rise_45 (by decide) ?_
        refine lv_istore_n (lv' := [(3, .int (0 : Int32)), (0, .ref (om 0)), (1, .int (nI c)), (2, .int (nI d))]) hx hb dX7_rise_46 rfl hl (by decide) rfl (fun ls hl => ?_)
        refine loopW (bd_X7_rise_47 om_ringOf c d) om_rungOf n (fun k47 z47 => [(3, .int (nI k47)), (0, .ref (om 0)), (1, .int (nI c)), (2, .int (nI d))]) (fun k47 z47 => wX7 cy om om_thrown om_s om_kept om_aside om_isKept om_reaches om_ringOf z47 om_rings om_ringMany om_paid om_leftOf om_ringPaid om_paidAll om_mosts om_text om_signs om_at om_isWrong om_clauses om_letters om_one om_two om_three om_whys om_backs om_sorts om_sizes om_items) hP hD hS (lv_sub hl [0, 1, 2, 3] rfl) (fun k47 z47 H locs ls hk47 hz47 hP hD hS hl ih47 => ?_)
        refine lv_iload_n hx hb dX7_rise_47 rfl (lv_at hl 0 rfl) ?_
        refine lv_aload_n hx hb dX7_rise_48 rfl (lv_at hl 1 rfl) ?_
        refine gf_X7_15 hx hb hG hown hKX hP 0 rfl rfl dX7_rise_49 ?_
        refine lv_iconst (v := (0 : Int32)) hx hb dX7_rise_52 (by decide) ?_
        refine iald_v hx hb hKX hP 1 rfl rfl (by decide) (by decide) hs0 dX7_rise_53 ?_
        refine lv_icmp_ge (tgt := 90) hx hb dX7_rise_54 (by decide) (fun c4 => ?_) (fun c4 => ?_)
        · have e_k47 : n = k47 := Nat.le_antisymm ((le_n (N := n) (k := k47) rfl (by omega) (by omega)).mp c4) hk47
          subst e_k47
          exact W.vret hx hb hr (fun t ht hW => ⟨⟨z47, rfl, by subst hz47; unfold f_X7_rise; rw [if_neg c1, if_pos c2, if_pos c3] <;> rfl, by rw [ht]; exact hP, hD⟩, hS.F ht⟩) hS.2.2 dX7_rise_90
        · have hlt47 : k47 < n := Nat.lt_of_not_le (fun qq_ => c4 ((le_n (N := n) (k := k47) rfl (by omega) (by omega)).mpr qq_))
          refine lv_aload_n hx hb dX7_rise_57 rfl (lv_at hl 1 rfl) ?_
          refine gf_X7_28 hx hb hG hown hKX hP 0 rfl rfl dX7_rise_58 ?_
          refine lv_iload_n hx hb dX7_rise_61 rfl (lv_at hl 2 rfl) ?_
          refine iald_n hx hb hKX hP 5 rfl rfl (by omega) (by decide) dX7_rise_62 ?_
          refine lv_iload_n hx hb dX7_rise_63 rfl (lv_at hl 0 rfl) ?_
          refine cRoS mw14_23 mw15_0 mw1_5 mw15_1 hd_X7_has hx hb hml hown hG hKX (c_X7_has l D cy (om_ringOf c) (nI k47)) ⟨Nat.le_of_ble_eq_true rfl, Nat.le_of_ble_eq_true rfl⟩ ⟨Nat.zero_le _, Nat.zero_le _⟩ (hP.sub [] rfl) rfl hl.1 rfl (Nat.le_of_ble_eq_true rfl) dX7_rise_64 ?_
          refine lv_if_eq (tgt := 84) hx hb dX7_rise_67 (by decide) (fun c5 => ?_) (fun c5 => ?_)
          · refine lv_iinc (v := nI (k47 + 1)) (lv' := [(3, .int (nI (k47 + 1))), (0, .ref (om 0)), (1, .int (nI c)), (2, .int (nI d))]) hx hb dX7_rise_84 hl (k := 0) rfl (nI_1 _) (by decide) rfl (fun ls hl => ?_)
            refine lv_goto (tgt := 47) hx hb dX7_rise_87 (by decide) ?_
            exact ih47 z47 _ _ _ hlt47 (by unfold bd_X7_rise_47; rw [if_pos c5] <;> rfl) hP hD hS (lv_sub hl [0, 1, 2, 3] rfl)
          · refine lv_aload_n hx hb dX7_rise_70 rfl (lv_at hl 1 rfl) ?_
            refine gf_X7_31 hx hb hG hown hKX hP 0 rfl rfl dX7_rise_71 ?_
            refine lv_iload_n hx hb dX7_rise_74 rfl (lv_at hl 0 rfl) ?_
            refine lv_aload_n hx hb dX7_rise_75 rfl (lv_at hl 1 rfl) ?_
            refine gf_X7_31 hx hb hG hown hKX hP 0 rfl rfl dX7_rise_76 ?_
            refine lv_iload_n hx hb dX7_rise_79 rfl (lv_at hl 3 rfl) ?_
            refine iald_n hx hb hKX hP 6 rfl rfl (by omega) (by decide) dX7_rise_80 ?_
            refine lv_iconst (v := (1 : Int32)) hx hb dX7_rise_81 (by decide) ?_
            refine lv_iadd hx hb dX7_rise_82 ?_
            refine iast_n hx hb hKX hP hD hS 6 rfl rfl (by omega) (by decide) dX7_rise_83 (fun H locs hP hD hS => ?_)
            have hP : va_P D vwCl (wX7 cy om om_thrown om_s om_kept om_aside om_isKept om_reaches om_ringOf (upd z47 k47 ((z47 d) + (1 : Int32))) om_rings om_ringMany om_paid om_leftOf om_ringPaid om_paidAll om_mosts om_text om_signs om_at om_isWrong om_clauses om_letters om_one om_two om_three om_whys om_backs om_sorts om_sizes om_items) H := hP
            have hD : va_D A (wX7 cy om om_thrown om_s om_kept om_aside om_isKept om_reaches om_ringOf (upd z47 k47 ((z47 d) + (1 : Int32))) om_rings om_ringMany om_paid om_leftOf om_ringPaid om_paidAll om_mosts om_text om_signs om_at om_isWrong om_clauses om_letters om_one om_two om_three om_whys om_backs om_sorts om_sizes om_items) := hD
            refine lv_iinc (v := nI (k47 + 1)) (lv' := [(3, .int (nI (k47 + 1))), (0, .ref (om 0)), (1, .int (nI c)), (2, .int (nI d))]) hx hb dX7_rise_84 hl (k := 0) rfl (nI_1 _) (by decide) rfl (fun ls hl => ?_)
            refine lv_goto (tgt := 47) hx hb dX7_rise_87 (by decide) ?_
            exact ih47 (upd z47 k47 ((z47 d) + (1 : Int32))) _ _ _ hlt47 (by unfold bd_X7_rise_47; rw [if_neg c5] <;> rfl) hP hD hS (lv_sub hl [0, 1, 2, 3] rfl)
      · exact W.vret hx hb hr (fun t ht hW => ⟨⟨om_rungOf, rfl, by unfold f_X7_rise; rw [if_neg c1, if_pos c2, if_neg c3] <;> rfl, by rw [ht]; exact hP, hD⟩, hS.F ht⟩) hS.2.2 dX7_rise_44
def bd_X7_climb_47 (om_s : Nat → Int32) (om_ringOf : Nat → Int32) (n : Nat) (k35 : Nat) (k47 : Nat) (z47 : (Nat → Int32)) : (Nat → Int32) :=
  (f_X7_rise om_s om_ringOf z47 n k35 k47)
def bd_X7_climb_35 (om_s : Nat → Int32) (om_ringOf : Nat → Int32) (n : Nat) (k35 : Nat) (z35 : (Nat → Int32)) : (Nat → Int32) :=
  (itr (bd_X7_climb_47 om_s om_ringOf n k35) n z35)
def bd_X7_climb_27 (om_s : Nat → Int32) (om_ringOf : Nat → Int32) (n : Nat) (k27 : Nat) (z27 : (Nat → Int32)) : (Nat → Int32) :=
  (itr (bd_X7_climb_35 om_s om_ringOf n) n z27)
def bd_X7_climb_2 (k2 : Nat) (z2 : (Nat → Int32)) : (Nat → Int32) :=
  upd z2 k2 (0 : Int32)
def f_X7_climb (om_s : Nat → Int32) (om_ringOf : Nat → Int32) (om_rungOf : Nat → Int32) (n : Nat) : (Nat → Int32) :=
  (itr (bd_X7_climb_27 om_s om_ringOf n) 7 (itr bd_X7_climb_2 n om_rungOf))
set_option maxHeartbeats 4000000 in
set_option maxRecDepth 100000 in
theorem c_X7_climb (l : Launch) (D : va_G) (cy : Nat → ClassId) (om : Nat → Nat) (om_thrown : Int32) (om_s : Nat → Int32) (om_kept : Nat → Int32) (om_aside : Nat → Int32) (om_isKept : Int32) (om_reaches : Nat → Int32) (om_ringOf : Nat → Int32) (om_rungOf : Nat → Int32) (om_rings : Nat → Int32) (om_ringMany : Int32) (om_paid : Nat → Int32) (om_leftOf : Nat → Int32) (om_ringPaid : Nat → Int32) (om_paidAll : Int32) (om_mosts : Nat → Int32) (om_text : Nat → Int32) (om_signs : Int32) (om_at : Int32) (om_isWrong : Int32) (om_clauses : Int32) (om_letters : Nat → Int32) (om_one : Nat → Int32) (om_two : Nat → Int32) (om_three : Nat → Int32) (om_whys : Nat → Int32) (om_backs : Nat → Int32) (om_sorts : Nat → Int32) (om_sizes : Nat → Int32) (om_items : Nat → Int64) (n : Nat) (hn : n ≤ 6) (hs0 : om_s 0 = nI n) : RwV (S := (Nat → Int32)) l D cy yX7_climb (.code yX7_climb cX7_climb 4 none) 2 (wX7 cy om om_thrown om_s om_kept om_aside om_isKept om_reaches om_ringOf om_rungOf om_rings om_ringMany om_paid om_leftOf om_ringPaid om_paidAll om_mosts om_text om_signs om_at om_isWrong om_clauses om_letters om_one om_two om_three om_whys om_backs om_sorts om_sizes om_items) [.ref (om 0)] (fun u => u = f_X7_climb om_s om_ringOf om_rungOf n) (fun u => wX7 cy om om_thrown om_s om_kept om_aside om_isKept om_reaches om_ringOf u om_rings om_ringMany om_paid om_leftOf om_ringPaid om_paidAll om_mosts om_text om_signs om_at om_isWrong om_clauses om_letters om_one om_two om_three om_whys om_backs om_sorts om_sizes om_items) := by
  intro sz
  refine Met.ofW (cc := cX7_climb) (maxL := 4) (ret := none) (by decide) rfl ?_
  intro pP eE s0 mM args below meth cC s₁ B hml hv
  obtain ⟨rfl, hsz, hP, hKX, hD0⟩ := hv
  have hx := B.exec
  have hb := B.bytes
  have hr := B.returns
  have hG := gw_hts (atoms_spec (ws := _) B.pre)
  have hown : s0.vm.findClass RX7 = some mM.cls := findClass_of_methodNamed B.named
  have hlocks := B.notSynchronized
  subst hsz
  have hD := hD0.self (sz := s0.heap.size)
  generalize hAe : va_A (wX7 cy om om_thrown om_s om_kept om_aside om_isKept om_reaches om_ringOf om_rungOf om_rings om_ringMany om_paid om_leftOf om_ringPaid om_paidAll om_mosts om_text om_signs om_at om_isWrong om_clauses om_letters om_one om_two om_three om_whys om_backs om_sorts om_sizes om_items) s0.heap.size = A at hD ⊢
  have hA : ∀ q : Nat, s0.heap.size ≤ q → A q := fun q h => by rw [← hAe]; exact Or.inr h
  have hS : va_S A s0.heap s0.heap [] := va_S.rf
  have hl := lv_entry ([.ref (om 0)]) (n := 4) (Nat.le_of_ble_eq_true rfl)
  rw [lg_entry_eq]
  generalize (lg_sl ([.ref (om 0)]) ++ List.replicate (4 - (lg_sl ([.ref (om 0)])).length) Slot.unset).toArray = ls at hl ⊢
  have hl : lv_has ls 4 [(0, .ref (om 0))] := hl
  refine lv_iconst (v := (0 : Int32)) hx hb dX7_climb_0 (by decide) ?_
  refine lv_istore_n (lv' := [(1, .int (0 : Int32)), (0, .ref (om 0))]) hx hb dX7_climb_1 rfl hl (by decide) rfl (fun ls hl => ?_)
  refine loopW bd_X7_climb_2 om_rungOf n (fun k2 z2 => [(1, .int (nI k2)), (0, .ref (om 0))]) (fun k2 z2 => wX7 cy om om_thrown om_s om_kept om_aside om_isKept om_reaches om_ringOf z2 om_rings om_ringMany om_paid om_leftOf om_ringPaid om_paidAll om_mosts om_text om_signs om_at om_isWrong om_clauses om_letters om_one om_two om_three om_whys om_backs om_sorts om_sizes om_items) hP hD hS (lv_sub hl [0, 1] rfl) (fun k2 z2 H locs ls hk2 hz2 hP hD hS hl ih2 => ?_)
  refine lv_iload_n hx hb dX7_climb_2 rfl (lv_at hl 0 rfl) ?_
  refine lv_aload_n hx hb dX7_climb_3 rfl (lv_at hl 1 rfl) ?_
  refine gf_X7_15 hx hb hG hown hKX hP 0 rfl rfl dX7_climb_4 ?_
  refine lv_iconst (v := (0 : Int32)) hx hb dX7_climb_7 (by decide) ?_
  refine iald_v hx hb hKX hP 1 rfl rfl (by decide) (by decide) hs0 dX7_climb_8 ?_
  refine lv_icmp_ge (tgt := 25) hx hb dX7_climb_9 (by decide) (fun c1 => ?_) (fun c1 => ?_)
  · have e_k2 : n = k2 := Nat.le_antisymm ((le_n (N := n) (k := k2) rfl (by omega) (by omega)).mp c1) hk2
    subst e_k2
    refine lv_iconst (v := (0 : Int32)) hx hb dX7_climb_25 (by decide) ?_
    refine lv_istore_n (lv' := [(1, .int (0 : Int32)), (0, .ref (om 0))]) hx hb dX7_climb_26 rfl hl (by decide) rfl (fun ls hl => ?_)
    refine loopW (bd_X7_climb_27 om_s om_ringOf n) z2 7 (fun k27 z27 => [(1, .int (nI k27)), (0, .ref (om 0))]) (fun k27 z27 => wX7 cy om om_thrown om_s om_kept om_aside om_isKept om_reaches om_ringOf z27 om_rings om_ringMany om_paid om_leftOf om_ringPaid om_paidAll om_mosts om_text om_signs om_at om_isWrong om_clauses om_letters om_one om_two om_three om_whys om_backs om_sorts om_sizes om_items) hP hD hS (lv_sub hl [0, 1] rfl) (fun k27 z27 H locs ls hk27 hz27 hP hD hS hl ih27 => ?_)
    refine lv_iload_n hx hb dX7_climb_27 rfl (lv_at hl 0 rfl) ?_
    refine lv_bipush (v := (6 : Int32)) hx hb dX7_climb_28 (by decide) ?_
    refine lv_icmp_gt (tgt := 81) hx hb dX7_climb_30 (by decide) (fun c2 => ?_) (fun c2 => ?_)
    · have e_k27 : 7 = k27 := Nat.le_antisymm ((gt_n (M := 6) (k := k27) (by omega) (by omega)).mp c2) hk27
      subst e_k27
      exact W.vret hx hb hr (fun t ht hW => ⟨⟨z27, rfl, by subst hz27; subst hz2; unfold f_X7_climb; rfl, by rw [ht]; exact hP, hD⟩, hS.F ht⟩) hS.2.2 dX7_climb_81
    · have hlt27 : k27 < 7 := Nat.lt_of_not_le (fun qq_ => c2 ((gt_n (M := 6) (k := k27) (by omega) (by omega)).mpr qq_))
      refine lv_iconst (v := (0 : Int32)) hx hb dX7_climb_33 (by decide) ?_
      refine lv_istore_n (lv' := [(2, .int (0 : Int32)), (1, .int (nI k27)), (0, .ref (om 0))]) hx hb dX7_climb_34 rfl hl (by decide) rfl (fun ls hl => ?_)
      refine loopW (bd_X7_climb_35 om_s om_ringOf n) z27 n (fun k35 z35 => [(2, .int (nI k35)), (1, .int (nI k27)), (0, .ref (om 0))]) (fun k35 z35 => wX7 cy om om_thrown om_s om_kept om_aside om_isKept om_reaches om_ringOf z35 om_rings om_ringMany om_paid om_leftOf om_ringPaid om_paidAll om_mosts om_text om_signs om_at om_isWrong om_clauses om_letters om_one om_two om_three om_whys om_backs om_sorts om_sizes om_items) hP hD hS (lv_sub hl [0, 1, 2] rfl) (fun k35 z35 H locs ls hk35 hz35 hP hD hS hl ih35 => ?_)
      refine lv_iload_n hx hb dX7_climb_35 rfl (lv_at hl 0 rfl) ?_
      refine lv_aload_n hx hb dX7_climb_36 rfl (lv_at hl 2 rfl) ?_
      refine gf_X7_15 hx hb hG hown hKX hP 0 rfl rfl dX7_climb_37 ?_
      refine lv_iconst (v := (0 : Int32)) hx hb dX7_climb_40 (by decide) ?_
      refine iald_v hx hb hKX hP 1 rfl rfl (by decide) (by decide) hs0 dX7_climb_41 ?_
      refine lv_icmp_ge (tgt := 75) hx hb dX7_climb_42 (by decide) (fun c3 => ?_) (fun c3 => ?_)
      · have e_k35 : n = k35 := Nat.le_antisymm ((le_n (N := n) (k := k35) rfl (by omega) (by omega)).mp c3) hk35
        subst e_k35
        refine lv_iinc (v := nI (k27 + 1)) (lv' := [(1, .int (nI (k27 + 1))), (2, .int (nI n)), (0, .ref (om 0))]) hx hb dX7_climb_75 hl (k := 1) rfl (nI_1 _) (by decide) rfl (fun ls hl => ?_)
        refine lv_goto (tgt := 27) hx hb dX7_climb_78 (by decide) ?_
        exact ih27 z35 _ _ _ hlt27 (by subst hz35; subst hz2; unfold bd_X7_climb_27; rfl) hP hD hS (lv_sub hl [0, 2] rfl)
      · have hlt35 : k35 < n := Nat.lt_of_not_le (fun qq_ => c3 ((le_n (N := n) (k := k35) rfl (by omega) (by omega)).mpr qq_))
        refine lv_iconst (v := (0 : Int32)) hx hb dX7_climb_45 (by decide) ?_
        refine lv_istore_n (lv' := [(3, .int (0 : Int32)), (2, .int (nI k35)), (1, .int (nI k27)), (0, .ref (om 0))]) hx hb dX7_climb_46 rfl hl (by decide) rfl (fun ls hl => ?_)
        refine loopW (bd_X7_climb_47 om_s om_ringOf n k35) z35 n (fun k47 z47 => [(3, .int (nI k47)), (2, .int (nI k35)), (1, .int (nI k27)), (0, .ref (om 0))]) (fun k47 z47 => wX7 cy om om_thrown om_s om_kept om_aside om_isKept om_reaches om_ringOf z47 om_rings om_ringMany om_paid om_leftOf om_ringPaid om_paidAll om_mosts om_text om_signs om_at om_isWrong om_clauses om_letters om_one om_two om_three om_whys om_backs om_sorts om_sizes om_items) hP hD hS (lv_sub hl [0, 1, 2, 3] rfl) (fun k47 z47 H locs ls hk47 hz47 hP hD hS hl ih47 => ?_)
        refine lv_iload_n hx hb dX7_climb_47 rfl (lv_at hl 0 rfl) ?_
        refine lv_aload_n hx hb dX7_climb_48 rfl (lv_at hl 3 rfl) ?_
        refine gf_X7_15 hx hb hG hown hKX hP 0 rfl rfl dX7_climb_49 ?_
        refine lv_iconst (v := (0 : Int32)) hx hb dX7_climb_52 (by decide) ?_
        refine iald_v hx hb hKX hP 1 rfl rfl (by decide) (by decide) hs0 dX7_climb_53 ?_
        refine lv_icmp_ge (tgt := 69) hx hb dX7_climb_54 (by decide) (fun c4 => ?_) (fun c4 => ?_)
        · have e_k47 : n = k47 := Nat.le_antisymm ((le_n (N := n) (k := k47) rfl (by omega) (by omega)).mp c4) hk47
          subst e_k47
          refine lv_iinc (v := nI (k35 + 1)) (lv' := [(2, .int (nI (k35 + 1))), (3, .int (nI n)), (1, .int (nI k27)), (0, .ref (om 0))]) hx hb dX7_climb_69 hl (k := 1) rfl (nI_1 _) (by decide) rfl (fun ls hl => ?_)
          refine lv_goto (tgt := 35) hx hb dX7_climb_72 (by decide) ?_
          exact ih35 z47 _ _ _ hlt35 (by subst hz47; subst hz2; unfold bd_X7_climb_35; rfl) hP hD hS (lv_sub hl [0, 2, 3] rfl)
        · have hlt47 : k47 < n := Nat.lt_of_not_le (fun qq_ => c4 ((le_n (N := n) (k := k47) rfl (by omega) (by omega)).mpr qq_))
          refine lv_aload_n hx hb dX7_climb_57 rfl (lv_at hl 3 rfl) ?_
          refine lv_iload_n hx hb dX7_climb_58 rfl (lv_at hl 1 rfl) ?_
          refine lv_iload_n hx hb dX7_climb_59 rfl (lv_at hl 0 rfl) ?_
          refine cRwVV (q0 := 0) (ci := 7) mw15_6 mw15_7 mw15_8 mw1_5 mw15_9 rfl rfl hd_X7_rise hx hb hml hown hG hKX (c_X7_rise l D cy om om_thrown om_s om_kept om_aside om_isKept om_reaches om_ringOf z47 om_rings om_ringMany om_paid om_leftOf om_ringPaid om_paidAll om_mosts om_text om_signs om_at om_isWrong om_clauses om_letters om_one om_two om_three om_whys om_backs om_sorts om_sizes om_items n k35 k47 hn hs0 (by omega) (by omega)) ⟨Nat.le_of_ble_eq_true rfl, Nat.le_of_ble_eq_true rfl⟩ ⟨Nat.zero_le _, Nat.zero_le _⟩ hP hD hS hA [0, 1, 2, 3, 4, 5, 6, 7, 8, 9, 10, 11, 12, 13, 14, 15, 16, 17, 18, 19, 20, 21] [] [0, 1, 2, 3, 4, 5, 6, 7, 8, 9, 10, 11, 12, 13, 14, 15, 16, 17, 18, 19, 20, 21] (wr := []) (wn := fun u60 => wX7 cy om om_thrown om_s om_kept om_aside om_isKept om_reaches om_ringOf u60 om_rings om_ringMany om_paid om_leftOf om_ringPaid om_paidAll om_mosts om_text om_signs om_at om_isWrong om_clauses om_letters om_one om_two om_three om_whys om_backs om_sorts om_sizes om_items) rfl (by decide) rfl (by decide) (by decide) (fun _ => rfl) (by decide) rfl rfl hl.1 rfl (Nat.le_of_ble_eq_true rfl) dX7_climb_60 (fun u60 H locs hw60 hP hD hS => ?_)
          refine lv_iinc (v := nI (k47 + 1)) (lv' := [(3, .int (nI (k47 + 1))), (2, .int (nI k35)), (1, .int (nI k27)), (0, .ref (om 0))]) hx hb dX7_climb_63 hl (k := 0) rfl (nI_1 _) (by decide) rfl (fun ls hl => ?_)
          refine lv_goto (tgt := 47) hx hb dX7_climb_66 (by decide) ?_
          exact ih47 u60 _ _ _ hlt47 (by subst hw60; subst hz2; unfold bd_X7_climb_47; rfl) hP hD hS (lv_sub hl [0, 1, 2, 3] rfl)
  · have hlt2 : k2 < n := Nat.lt_of_not_le (fun qq_ => c1 ((le_n (N := n) (k := k2) rfl (by omega) (by omega)).mpr qq_))
    refine lv_aload_n hx hb dX7_climb_12 rfl (lv_at hl 1 rfl) ?_
    refine gf_X7_31 hx hb hG hown hKX hP 0 rfl rfl dX7_climb_13 ?_
    refine lv_iload_n hx hb dX7_climb_16 rfl (lv_at hl 0 rfl) ?_
    refine lv_iconst (v := (0 : Int32)) hx hb dX7_climb_17 (by decide) ?_
    refine iast_n hx hb hKX hP hD hS 6 rfl rfl (by omega) (by decide) dX7_climb_18 (fun H locs hP hD hS => ?_)
    have hP : va_P D vwCl (wX7 cy om om_thrown om_s om_kept om_aside om_isKept om_reaches om_ringOf (upd z2 k2 (0 : Int32)) om_rings om_ringMany om_paid om_leftOf om_ringPaid om_paidAll om_mosts om_text om_signs om_at om_isWrong om_clauses om_letters om_one om_two om_three om_whys om_backs om_sorts om_sizes om_items) H := hP
    have hD : va_D A (wX7 cy om om_thrown om_s om_kept om_aside om_isKept om_reaches om_ringOf (upd z2 k2 (0 : Int32)) om_rings om_ringMany om_paid om_leftOf om_ringPaid om_paidAll om_mosts om_text om_signs om_at om_isWrong om_clauses om_letters om_one om_two om_three om_whys om_backs om_sorts om_sizes om_items) := hD
    refine lv_iinc (v := nI (k2 + 1)) (lv' := [(1, .int (nI (k2 + 1))), (0, .ref (om 0))]) hx hb dX7_climb_19 hl (k := 0) rfl (nI_1 _) (by decide) rfl (fun ls hl => ?_)
    refine lv_goto (tgt := 2) hx hb dX7_climb_22 (by decide) ?_
    exact ih2 (upd z2 k2 (0 : Int32)) _ _ _ hlt2 (by unfold bd_X7_climb_2; rfl) hP hD hS (lv_sub hl [0, 1] rfl)
def bd_X7_ladder_23 (k15 : Nat) (u1 : (Nat → Int32) × (Nat → Int32)) (u5 : (Nat → Int32)) (k23 : Nat) (z23 : Nat × (Nat → Int32)) : Nat × (Nat → Int32) :=
  if ((u1.2 k23) &&& (((1 : Int32) <<< (nI k23 &&& 31)) - (1 : Int32))) = (0 : Int32) then (if (u5 k23) = nI k15 then (z23.1 + 1, upd z23.2 z23.1 (u1.2 k23)) else z23) else (if (u5 k23) = nI k15 then z23 else z23)
def bd_X7_ladder_15 (n : Nat) (u1 : (Nat → Int32) × (Nat → Int32)) (u5 : (Nat → Int32)) (k15 : Nat) (z15 : Nat × (Nat → Int32)) : Nat × (Nat → Int32) :=
  (itr (bd_X7_ladder_23 k15 u1 u5) n z15)
def f_X7_ladder (om_s : Nat → Int32) (om_reaches : Nat → Int32) (om_ringOf : Nat → Int32) (om_rungOf : Nat → Int32) (om_rings : Nat → Int32) (n : Nat) : (Nat → Int32) × (Nat → Int32) × (Nat → Int32) × (Nat → Int32) × Nat :=
  ((f_X7_reach om_s om_reaches om_ringOf n).1, (f_X7_reach om_s om_reaches om_ringOf n).2, (f_X7_climb om_s (f_X7_reach om_s om_reaches om_ringOf n).2 om_rungOf n), (itr (bd_X7_ladder_15 n (f_X7_reach om_s om_reaches om_ringOf n) (f_X7_climb om_s (f_X7_reach om_s om_reaches om_ringOf n).2 om_rungOf n)) 6 (0, om_rings)).2, (itr (bd_X7_ladder_15 n (f_X7_reach om_s om_reaches om_ringOf n) (f_X7_climb om_s (f_X7_reach om_s om_reaches om_ringOf n).2 om_rungOf n)) 6 (0, om_rings)).1)
/-- who has come so far: each but once -/
def LPL (n a q : Nat) (b : Nat → Int32) (m : Nat) : Prop := ∃ L : List Nat, m = L.length ∧ L.Pairwise (fun c d => c ≠ d) ∧ ∀ c ∈ L, c < n ∧ ((b c).toNatClampNeg < a ∨ ((b c).toNatClampNeg = a ∧ c < q))
theorem lpl_len {n a q : Nat} {b : Nat → Int32} {m : Nat} (h : LPL n a q b m) : m ≤ n := by
  obtain ⟨L, h1, h2, h3⟩ := h
  rw [h1]
  refine fb_holes n L.length (fun i => L.getD i 0) (fun i hi => ?_) (fun i j hij hj => ?_)
  · rw [List.getD_eq_getElem?_getD, List.getElem?_eq_getElem hi]
    exact (h3 _ (List.getElem_mem hi)).1
  · have := List.pairwise_iff_getElem.mp h2 i j (by omega) hj hij
    rw [List.getD_eq_getElem?_getD, List.getElem?_eq_getElem (show i < L.length by omega), List.getD_eq_getElem?_getD, List.getElem?_eq_getElem hj]
    exact this
theorem lpl_add {n a q : Nat} {b : Nat → Int32} {m : Nat} (hq : q < n) (ha : a < 6) (hb : b q = nI a) (h : LPL n a q b m) : LPL n a (q + 1) b (m + 1) := by
  obtain ⟨L, h1, h2, h3⟩ := h
  have hc : (b q).toNatClampNeg = a := by rw [hb, nI_clamp (by omega)]
  refine ⟨L ++ [q], by rw [List.length_append, h1]; rfl, List.pairwise_append.mpr ⟨h2, List.pairwise_singleton _ _, fun c hc2 d hd e => ?_⟩, fun c hcm => ?_⟩
  · rw [List.mem_singleton] at hd
    subst hd
    subst e
    have := (h3 c hc2).2
    omega
  · rcases List.mem_append.mp hcm with w | w
    · obtain ⟨g1, g2⟩ := h3 c w
      exact ⟨g1, by omega⟩
    · rw [List.mem_singleton] at w
      subst w
      exact ⟨hq, Or.inr ⟨hc, by omega⟩⟩
theorem lpl_keep {n a q : Nat} {b : Nat → Int32} {m : Nat} (h : LPL n a q b m) : LPL n a (q + 1) b m := by
  obtain ⟨L, h1, h2, h3⟩ := h
  exact ⟨L, h1, h2, fun c hc => ⟨(h3 c hc).1, by have := (h3 c hc).2; omega⟩⟩
theorem lpl_in {w : (Nat → Int32) × (Nat → Int32)} {b : Nat → Int32} {n a : Nat} (ha : a < 6) : ∀ (q : Nat) (z : Nat × (Nat → Int32)), q ≤ n → LPL n a 0 b z.1 → LPL n a q b (itr (bd_X7_ladder_23 a w b) q z).1
  | 0, _, _, h => h
  | q + 1, z, hq, h => by
    have ih := lpl_in (w := w) ha q z (by omega) h
    rw [itr_succ]
    generalize itr (bd_X7_ladder_23 a w b) q z = y at ih ⊢
    unfold bd_X7_ladder_23
    by_cases e1 : ((w.2 q) &&& (((1 : Int32) <<< (nI q &&& 31)) - (1 : Int32))) = (0 : Int32)
    · rw [if_pos e1]
      by_cases e2 : b q = nI a
      · rw [if_pos e2]; exact lpl_add (by omega) ha e2 ih
      · rw [if_neg e2]; exact lpl_keep ih
    · rw [if_neg e1, ite_self]; exact lpl_keep ih
theorem lpl_out {w : (Nat → Int32) × (Nat → Int32)} {b : Nat → Int32} {n : Nat} {f : Nat → Int32} : ∀ a, a ≤ 6 → LPL n a 0 b (itr (bd_X7_ladder_15 n w b) a (0, f)).1
  | 0, _ => ⟨[], rfl, List.Pairwise.nil, fun _ h => (by cases h)⟩
  | a + 1, ha => by
    rw [itr_succ]
    obtain ⟨L, h1, h2, h3⟩ := lpl_in (w := w) (b := b) (n := n) (show a < 6 by omega) n _ (Nat.le_refl n) (lpl_out (w := w) (f := f) a (by omega))
    exact ⟨L, h1, h2, fun c hc => ⟨(h3 c hc).1, by have := h3 c hc; omega⟩⟩
theorem ladder_lt {w : (Nat → Int32) × (Nat → Int32)} {b : Nat → Int32} {n k q : Nat} {f : Nat → Int32} (hn : n ≤ 6) (hq : q < n) (hk : k < 6) (hc : b q = nI k) : (itr (bd_X7_ladder_23 k w b) q (itr (bd_X7_ladder_15 n w b) k (0, f))).1 < 6 := by
  have h := lpl_len (lpl_add hq hk hc (lpl_in (w := w) hk q _ (by omega) (lpl_out (w := w) (f := f) k (by omega))))
  omega

set_option maxHeartbeats 4000000 in
set_option maxRecDepth 100000 in
theorem c_X7_ladder (l : Launch) (D : va_G) (cy : Nat → ClassId) (om : Nat → Nat) (om_thrown : Int32) (om_s : Nat → Int32) (om_kept : Nat → Int32) (om_aside : Nat → Int32) (om_isKept : Int32) (om_reaches : Nat → Int32) (om_ringOf : Nat → Int32) (om_rungOf : Nat → Int32) (om_rings : Nat → Int32) (om_ringMany : Int32) (om_paid : Nat → Int32) (om_leftOf : Nat → Int32) (om_ringPaid : Nat → Int32) (om_paidAll : Int32) (om_mosts : Nat → Int32) (om_text : Nat → Int32) (om_signs : Int32) (om_at : Int32) (om_isWrong : Int32) (om_clauses : Int32) (om_letters : Nat → Int32) (om_one : Nat → Int32) (om_two : Nat → Int32) (om_three : Nat → Int32) (om_whys : Nat → Int32) (om_backs : Nat → Int32) (om_sorts : Nat → Int32) (om_sizes : Nat → Int32) (om_items : Nat → Int64) (n : Nat) (hn : n ≤ 6) (hs0 : om_s 0 = nI n) : RwV (S := (Nat → Int32) × (Nat → Int32) × (Nat → Int32) × (Nat → Int32) × Nat) l D cy yX7_ladder (.code yX7_ladder cX7_ladder 4 none) 3 (wX7 cy om om_thrown om_s om_kept om_aside om_isKept om_reaches om_ringOf om_rungOf om_rings om_ringMany om_paid om_leftOf om_ringPaid om_paidAll om_mosts om_text om_signs om_at om_isWrong om_clauses om_letters om_one om_two om_three om_whys om_backs om_sorts om_sizes om_items) [.ref (om 0)] (fun u => u = f_X7_ladder om_s om_reaches om_ringOf om_rungOf om_rings n) (fun u => wX7 cy om om_thrown om_s om_kept om_aside om_isKept u.1 u.2.1 u.2.2.1 u.2.2.2.1 (nI u.2.2.2.2) om_paid om_leftOf om_ringPaid om_paidAll om_mosts om_text om_signs om_at om_isWrong om_clauses om_letters om_one om_two om_three om_whys om_backs om_sorts om_sizes om_items) := by
  intro sz
  refine Met.ofW (cc := cX7_ladder) (maxL := 4) (ret := none) (by decide) rfl ?_
  intro pP eE s0 mM args below meth cC s₁ B hml hv
  obtain ⟨rfl, hsz, hP, hKX, hD0⟩ := hv
  have hx := B.exec
  have hb := B.bytes
  have hr := B.returns
  have hG := gw_hts (atoms_spec (ws := _) B.pre)
  have hown : s0.vm.findClass RX7 = some mM.cls := findClass_of_methodNamed B.named
  have hlocks := B.notSynchronized
  subst hsz
  have hD := hD0.self (sz := s0.heap.size)
  generalize hAe : va_A (wX7 cy om om_thrown om_s om_kept om_aside om_isKept om_reaches om_ringOf om_rungOf om_rings om_ringMany om_paid om_leftOf om_ringPaid om_paidAll om_mosts om_text om_signs om_at om_isWrong om_clauses om_letters om_one om_two om_three om_whys om_backs om_sorts om_sizes om_items) s0.heap.size = A at hD ⊢
  have hA : ∀ q : Nat, s0.heap.size ≤ q → A q := fun q h => by rw [← hAe]; exact Or.inr h
  have hS : va_S A s0.heap s0.heap [] := va_S.rf
  have hl := lv_entry ([.ref (om 0)]) (n := 4) (Nat.le_of_ble_eq_true rfl)
  rw [lg_entry_eq]
  generalize (lg_sl ([.ref (om 0)]) ++ List.replicate (4 - (lg_sl ([.ref (om 0)])).length) Slot.unset).toArray = ls at hl ⊢
  have hl : lv_has ls 4 [(0, .ref (om 0))] := hl
  refine lv_aload_n hx hb dX7_ladder_0 rfl (lv_at hl 0 rfl) ?_
  refine cRwVV (q0 := 0) (ci := 7) mw14_19 mw14_20 mw14_21 mw1_5 mw14_22 rfl rfl hd_X7_reach hx hb hml hown hG hKX (c_X7_reach l D cy om om_thrown om_s om_kept om_aside om_isKept om_reaches om_ringOf om_rungOf om_rings om_ringMany om_paid om_leftOf om_ringPaid om_paidAll om_mosts om_text om_signs om_at om_isWrong om_clauses om_letters om_one om_two om_three om_whys om_backs om_sorts om_sizes om_items n hn hs0) ⟨Nat.le_of_ble_eq_true rfl, Nat.le_of_ble_eq_true rfl⟩ ⟨Nat.zero_le _, Nat.zero_le _⟩ hP hD hS hA [0, 1, 2, 3, 4, 5, 6, 7, 8, 9, 10, 11, 12, 13, 14, 15, 16, 17, 18, 19, 20, 21] [] [0, 1, 2, 3, 4, 5, 6, 7, 8, 9, 10, 11, 12, 13, 14, 15, 16, 17, 18, 19, 20, 21] (wr := []) (wn := fun u1 => wX7 cy om om_thrown om_s om_kept om_aside om_isKept u1.1 u1.2 om_rungOf om_rings om_ringMany om_paid om_leftOf om_ringPaid om_paidAll om_mosts om_text om_signs om_at om_isWrong om_clauses om_letters om_one om_two om_three om_whys om_backs om_sorts om_sizes om_items) rfl (by decide) rfl (by decide) (by decide) (fun _ => rfl) (by decide) rfl rfl hl.1 rfl (Nat.le_of_ble_eq_true rfl) dX7_ladder_1 (fun u1 H locs hw1 hP hD hS => ?_)
  refine lv_aload_n hx hb dX7_ladder_4 rfl (lv_at hl 0 rfl) ?_
  refine cRwVV (q0 := 0) (ci := 7) mw15_2 mw15_3 mw15_4 mw1_5 mw15_5 rfl rfl hd_X7_climb hx hb hml hown hG hKX (c_X7_climb l D cy om om_thrown om_s om_kept om_aside om_isKept u1.1 u1.2 om_rungOf om_rings om_ringMany om_paid om_leftOf om_ringPaid om_paidAll om_mosts om_text om_signs om_at om_isWrong om_clauses om_letters om_one om_two om_three om_whys om_backs om_sorts om_sizes om_items n hn hs0) ⟨Nat.le_of_ble_eq_true rfl, Nat.le_of_ble_eq_true rfl⟩ ⟨Nat.zero_le _, Nat.zero_le _⟩ hP hD hS hA [0, 1, 2, 3, 4, 5, 6, 7, 8, 9, 10, 11, 12, 13, 14, 15, 16, 17, 18, 19, 20, 21] [] [0, 1, 2, 3, 4, 5, 6, 7, 8, 9, 10, 11, 12, 13, 14, 15, 16, 17, 18, 19, 20, 21] (wr := []) (wn := fun u5 => wX7 cy om om_thrown om_s om_kept om_aside om_isKept u1.1 u1.2 u5 om_rings om_ringMany om_paid om_leftOf om_ringPaid om_paidAll om_mosts om_text om_signs om_at om_isWrong om_clauses om_letters om_one om_two om_three om_whys om_backs om_sorts om_sizes om_items) rfl (by decide) rfl (by decide) (by decide) (fun _ => rfl) (by decide) rfl rfl hl.1 rfl (Nat.le_of_ble_eq_true rfl) dX7_ladder_5 (fun u5 H locs hw5 hP hD hS => ?_)
  refine lv_aload_n hx hb dX7_ladder_8 rfl (lv_at hl 0 rfl) ?_
  refine lv_iconst (v := (0 : Int32)) hx hb dX7_ladder_9 (by decide) ?_
  refine pf_X7_115 hx hb hG hown hKX hP hD hS 0 rfl rfl rfl (Nat.le_of_ble_eq_true rfl) dX7_ladder_10 (wn := wX7 cy om om_thrown om_s om_kept om_aside om_isKept u1.1 u1.2 u5 om_rings (0 : Int32) om_paid om_leftOf om_ringPaid om_paidAll om_mosts om_text om_signs om_at om_isWrong om_clauses om_letters om_one om_two om_three om_whys om_backs om_sorts om_sizes om_items) rfl (fun H locs hP hD hS => ?_)
  refine lv_iconst (v := (0 : Int32)) hx hb dX7_ladder_13 (by decide) ?_
  refine lv_istore_n (lv' := [(1, .int (0 : Int32)), (0, .ref (om 0))]) hx hb dX7_ladder_14 rfl hl (by decide) rfl (fun ls hl => ?_)
  refine loopW (bd_X7_ladder_15 n u1 u5) (0, om_rings) 6 (fun k15 z15 => [(1, .int (nI k15)), (0, .ref (om 0))]) (fun k15 z15 => wX7 cy om om_thrown om_s om_kept om_aside om_isKept u1.1 u1.2 u5 z15.2 (nI z15.1) om_paid om_leftOf om_ringPaid om_paidAll om_mosts om_text om_signs om_at om_isWrong om_clauses om_letters om_one om_two om_three om_whys om_backs om_sorts om_sizes om_items) hP hD hS (lv_sub hl [0, 1] rfl) (fun k15 z15 H locs ls hk15 hz15 hP hD hS hl ih15 => ?_)
  refine lv_iload_n hx hb dX7_ladder_15 rfl (lv_at hl 0 rfl) ?_
  refine lv_bipush (v := (6 : Int32)) hx hb dX7_ladder_16 (by decide) ?_
  refine lv_icmp_ge (tgt := 108) hx hb dX7_ladder_18 (by decide) (fun c1 => ?_) (fun c1 => ?_)
  · have e_k15 : 6 = k15 := Nat.le_antisymm ((le_n (N := 6) (k := k15) rfl (by omega) (by omega)).mp c1) hk15
    subst e_k15
    exact W.vret hx hb hr (fun t ht hW => ⟨⟨(u1.1, u1.2, u5, z15.2, z15.1), rfl, by subst hz15; subst hw5; subst hw1; unfold f_X7_ladder; rfl, by rw [ht]; exact hP, hD⟩, hS.F ht⟩) hS.2.2 dX7_ladder_108
  · have hlt15 : k15 < 6 := Nat.lt_of_not_le (fun qq_ => c1 ((le_n (N := 6) (k := k15) rfl (by omega) (by omega)).mpr qq_))
    refine lv_iconst (v := (0 : Int32)) hx hb dX7_ladder_21 (by decide) ?_
    refine lv_istore_n (lv' := [(2, .int (0 : Int32)), (1, .int (nI k15)), (0, .ref (om 0))]) hx hb dX7_ladder_22 rfl hl (by decide) rfl (fun ls hl => ?_)
    refine loopW (bd_X7_ladder_23 k15 u1 u5) z15 n (fun k23 z23 => [(2, .int (nI k23)), (1, .int (nI k15)), (0, .ref (om 0))]) (fun k23 z23 => wX7 cy om om_thrown om_s om_kept om_aside om_isKept u1.1 u1.2 u5 z23.2 (nI z23.1) om_paid om_leftOf om_ringPaid om_paidAll om_mosts om_text om_signs om_at om_isWrong om_clauses om_letters om_one om_two om_three om_whys om_backs om_sorts om_sizes om_items) hP hD hS (lv_sub hl [0, 1, 2] rfl) (fun k23 z23 H locs ls hk23 hz23 hP hD hS hl ih23 => ?_)
    refine lv_iload_n hx hb dX7_ladder_23 rfl (lv_at hl 0 rfl) ?_
    refine lv_aload_n hx hb dX7_ladder_24 rfl (lv_at hl 2 rfl) ?_
    refine gf_X7_15 hx hb hG hown hKX hP 0 rfl rfl dX7_ladder_25 ?_
    refine lv_iconst (v := (0 : Int32)) hx hb dX7_ladder_28 (by decide) ?_
    refine iald_v hx hb hKX hP 1 rfl rfl (by decide) (by decide) hs0 dX7_ladder_29 ?_
    refine lv_icmp_ge (tgt := 102) hx hb dX7_ladder_30 (by decide) (fun c2 => ?_) (fun c2 => ?_)
    · have e_k23 : n = k23 := Nat.le_antisymm ((le_n (N := n) (k := k23) rfl (by omega) (by omega)).mp c2) hk23
      subst e_k23
      refine lv_iinc (v := nI (k15 + 1)) (lv' := [(1, .int (nI (k15 + 1))), (2, .int (nI n)), (0, .ref (om 0))]) hx hb dX7_ladder_102 hl (k := 1) rfl (nI_1 _) (by decide) rfl (fun ls hl => ?_)
      refine lv_goto (tgt := 15) hx hb dX7_ladder_105 (by decide) ?_
      exact ih15 z23 _ _ _ hlt15 (by subst hz23; subst hw5; subst hw1; unfold bd_X7_ladder_15; rfl) hP hD hS (lv_sub hl [0, 2] rfl)
    · have hlt23 : k23 < n := Nat.lt_of_not_le (fun qq_ => c2 ((le_n (N := n) (k := k23) rfl (by omega) (by omega)).mpr qq_))
      refine lv_aload_n hx hb dX7_ladder_33 rfl (lv_at hl 2 rfl) ?_
      refine gf_X7_28 hx hb hG hown hKX hP 0 rfl rfl dX7_ladder_34 ?_
      refine lv_iload_n hx hb dX7_ladder_37 rfl (lv_at hl 0 rfl) ?_
      refine iald_n hx hb hKX hP 5 rfl rfl (by omega) (by decide) dX7_ladder_38 ?_
      refine lv_iconst (v := (1 : Int32)) hx hb dX7_ladder_39 (by decide) ?_
      refine lv_iload_n hx hb dX7_ladder_40 rfl (lv_at hl 0 rfl) ?_
      refine lv_ishl hx hb dX7_ladder_41 ?_
      refine lv_iconst (v := (1 : Int32)) hx hb dX7_ladder_42 (by decide) ?_
      refine lv_isub hx hb dX7_ladder_43 ?_
      refine lv_iand hx hb dX7_ladder_44 ?_
      refine lv_if_ne (tgt := 52) hx hb dX7_ladder_45 (by decide) (fun c3 => ?_) (fun c3 => ?_)
      · refine lv_iconst (v := (0 : Int32)) hx hb dX7_ladder_52 (by decide) ?_
        refine lv_istore_n (lv' := [(3, .int (0 : Int32)), (2, .int (nI k23)), (1, .int (nI k15)), (0, .ref (om 0))]) hx hb dX7_ladder_53 rfl hl (by decide) rfl (fun ls hl => ?_)
        refine lv_aload_n hx hb dX7_ladder_54 rfl (lv_at hl 3 rfl) ?_
        refine gf_X7_31 hx hb hG hown hKX hP 0 rfl rfl dX7_ladder_55 ?_
        refine lv_iload_n hx hb dX7_ladder_58 rfl (lv_at hl 1 rfl) ?_
        refine iald_n hx hb hKX hP 6 rfl rfl (by omega) (by decide) dX7_ladder_59 ?_
        refine lv_iload_n hx hb dX7_ladder_60 rfl (lv_at hl 2 rfl) ?_
        refine lv_icmp_ne (tgt := 96) hx hb dX7_ladder_61 (by decide) (fun c4 => ?_) (fun c4 => ?_)
        · refine lv_iinc (v := nI (k23 + 1)) (lv' := [(2, .int (nI (k23 + 1))), (3, .int (0 : Int32)), (1, .int (nI k15)), (0, .ref (om 0))]) hx hb dX7_ladder_96 hl (k := 1) rfl (nI_1 _) (by decide) rfl (fun ls hl => ?_)
          refine lv_goto (tgt := 23) hx hb dX7_ladder_99 (by decide) ?_
          exact ih23 z23 _ _ _ hlt23 (by subst hw5; subst hw1; unfold bd_X7_ladder_23; rw [if_neg c3, if_neg c4] <;> rfl) hP hD hS (lv_sub hl [0, 2, 3] rfl)
        · refine lv_iload_n hx hb dX7_ladder_64 rfl (lv_at hl 0 rfl) ?_
          refine lv_if_ne (tgt := 71) hx hb dX7_ladder_65 (by decide) (fun c5 => absurd (by decide) c5) (fun c5 => ?_)
          refine lv_goto (tgt := 96) hx hb dX7_ladder_68 (by decide) ?_
          refine lv_iinc (v := nI (k23 + 1)) (lv' := [(2, .int (nI (k23 + 1))), (3, .int (0 : Int32)), (1, .int (nI k15)), (0, .ref (om 0))]) hx hb dX7_ladder_96 hl (k := 1) rfl (nI_1 _) (by decide) rfl (fun ls hl => ?_)
          refine lv_goto (tgt := 23) hx hb dX7_ladder_99 (by decide) ?_
          exact ih23 z23 _ _ _ hlt23 (by subst hw5; subst hw1; unfold bd_X7_ladder_23; rw [if_neg c3, if_pos c4] <;> rfl) hP hD hS (lv_sub hl [0, 2, 3] rfl)
      · refine lv_iconst (v := (1 : Int32)) hx hb dX7_ladder_48 (by decide) ?_
        refine lv_goto (tgt := 53) hx hb dX7_ladder_49 (by decide) ?_
        refine lv_istore_n (lv' := [(3, .int (1 : Int32)), (2, .int (nI k23)), (1, .int (nI k15)), (0, .ref (om 0))]) hx hb dX7_ladder_53 rfl hl (by decide) rfl (fun ls hl => ?_)
        refine lv_aload_n hx hb dX7_ladder_54 rfl (lv_at hl 3 rfl) ?_
        refine gf_X7_31 hx hb hG hown hKX hP 0 rfl rfl dX7_ladder_55 ?_
        refine lv_iload_n hx hb dX7_ladder_58 rfl (lv_at hl 1 rfl) ?_
        refine iald_n hx hb hKX hP 6 rfl rfl (by omega) (by decide) dX7_ladder_59 ?_
        refine lv_iload_n hx hb dX7_ladder_60 rfl (lv_at hl 2 rfl) ?_
        refine lv_icmp_ne (tgt := 96) hx hb dX7_ladder_61 (by decide) (fun c6 => ?_) (fun c6 => ?_)
        · refine lv_iinc (v := nI (k23 + 1)) (lv' := [(2, .int (nI (k23 + 1))), (3, .int (1 : Int32)), (1, .int (nI k15)), (0, .ref (om 0))]) hx hb dX7_ladder_96 hl (k := 1) rfl (nI_1 _) (by decide) rfl (fun ls hl => ?_)
          refine lv_goto (tgt := 23) hx hb dX7_ladder_99 (by decide) ?_
          exact ih23 z23 _ _ _ hlt23 (by subst hw5; subst hw1; unfold bd_X7_ladder_23; rw [if_pos c3, if_neg c6] <;> rfl) hP hD hS (lv_sub hl [0, 2, 3] rfl)
        · refine lv_iload_n hx hb dX7_ladder_64 rfl (lv_at hl 0 rfl) ?_
          refine lv_if_ne (tgt := 71) hx hb dX7_ladder_65 (by decide) (fun c7 => ?_) (fun c7 => absurd c7 (by decide))
          have hr6 : z23.1 < 6 := by rw [hz23, hz15]; exact ladder_lt hn hlt23 hlt15 c6
          refine lv_aload_n hx hb dX7_ladder_71 rfl (lv_at hl 3 rfl) ?_
          refine gf_X7_34 hx hb hG hown hKX hP 0 rfl rfl dX7_ladder_72 ?_
          refine lv_aload_n hx hb dX7_ladder_75 rfl (lv_at hl 3 rfl) ?_
          refine gf_X7_115 hx hb hG hown hKX hP 0 rfl rfl dX7_ladder_76 ?_
          refine lv_aload_n hx hb dX7_ladder_79 rfl (lv_at hl 3 rfl) ?_
          refine gf_X7_28 hx hb hG hown hKX hP 0 rfl rfl dX7_ladder_80 ?_
          refine lv_iload_n hx hb dX7_ladder_83 rfl (lv_at hl 1 rfl) ?_
          refine iald_n hx hb hKX hP 5 rfl rfl (by omega) (by decide) dX7_ladder_84 ?_
          refine iast_n hx hb hKX hP hD hS 7 rfl rfl (by omega) (by decide) dX7_ladder_85 (fun H locs hP hD hS => ?_)
          have hP : va_P D vwCl (wX7 cy om om_thrown om_s om_kept om_aside om_isKept u1.1 u1.2 u5 (upd z23.2 z23.1 (u1.2 k23)) (nI z23.1) om_paid om_leftOf om_ringPaid om_paidAll om_mosts om_text om_signs om_at om_isWrong om_clauses om_letters om_one om_two om_three om_whys om_backs om_sorts om_sizes om_items) H := hP
          have hD : va_D A (wX7 cy om om_thrown om_s om_kept om_aside om_isKept u1.1 u1.2 u5 (upd z23.2 z23.1 (u1.2 k23)) (nI z23.1) om_paid om_leftOf om_ringPaid om_paidAll om_mosts om_text om_signs om_at om_isWrong om_clauses om_letters om_one om_two om_three om_whys om_backs om_sorts om_sizes om_items) := hD
          refine lv_aload_n hx hb dX7_ladder_86 rfl (lv_at hl 3 rfl) ?_
          refine lv_dup hx hb dX7_ladder_87 rfl ?_
          refine gf_X7_115 hx hb hG hown hKX hP 0 rfl rfl dX7_ladder_88 ?_
          refine lv_iconst (v := (1 : Int32)) hx hb dX7_ladder_91 (by decide) ?_
          refine lv_iadd hx hb dX7_ladder_92 ?_
          refine topi_eq (y := nI (z23.1 + 1)) (aN rfl rfl) ?_
          refine pf_X7_115 hx hb hG hown hKX hP hD hS 0 rfl rfl rfl (Nat.le_of_ble_eq_true rfl) dX7_ladder_93 (wn := wX7 cy om om_thrown om_s om_kept om_aside om_isKept u1.1 u1.2 u5 (upd z23.2 z23.1 (u1.2 k23)) (nI (z23.1 + 1)) om_paid om_leftOf om_ringPaid om_paidAll om_mosts om_text om_signs om_at om_isWrong om_clauses om_letters om_one om_two om_three om_whys om_backs om_sorts om_sizes om_items) rfl (fun H locs hP hD hS => ?_)
          refine lv_iinc (v := nI (k23 + 1)) (lv' := [(2, .int (nI (k23 + 1))), (3, .int (1 : Int32)), (1, .int (nI k15)), (0, .ref (om 0))]) hx hb dX7_ladder_96 hl (k := 1) rfl (nI_1 _) (by decide) rfl (fun ls hl => ?_)
          refine lv_goto (tgt := 23) hx hb dX7_ladder_99 (by decide) ?_
          exact ih23 (z23.1 + 1, upd z23.2 z23.1 (u1.2 k23)) _ _ _ hlt23 (by subst hw5; subst hw1; unfold bd_X7_ladder_23; rw [if_pos c3, if_pos c6] <;> rfl) hP hD hS (lv_sub hl [0, 2, 3] rfl)
