def f_X7_here (om_text : Nat → Int32) (ln : Nat) (pt : Nat) : Int32 :=
  if nI ln ≤ nI pt then (-1 : Int32) else (om_text pt)
set_option maxHeartbeats 4000000 in
set_option maxRecDepth 100000 in
theorem c_X7_here (l : Launch) (D : va_G) (cy : Nat → ClassId) (om : Nat → Nat) (om_thrown : Int32) (om_s : Nat → Int32) (om_kept : Nat → Int32) (om_aside : Nat → Int32) (om_isKept : Int32) (om_reaches : Nat → Int32) (om_ringOf : Nat → Int32) (om_rungOf : Nat → Int32) (om_rings : Nat → Int32) (om_ringMany : Int32) (om_paid : Nat → Int32) (om_leftOf : Nat → Int32) (om_ringPaid : Nat → Int32) (om_paidAll : Int32) (om_mosts : Nat → Int32) (om_text : Nat → Int32) (om_isWrong : Int32) (om_clauses : Int32) (om_letters : Nat → Int32) (om_one : Nat → Int32) (om_two : Nat → Int32) (om_three : Nat → Int32) (om_whys : Nat → Int32) (om_backs : Nat → Int32) (om_sorts : Nat → Int32) (om_sizes : Nat → Int32) (om_items : Nat → Int64) (ln : Nat) (pt : Nat) (hln : ln ≤ 100) (hpt : pt ≤ ln) : RoI l D cy yX7_here (.code yX7_here cX7_here 1 (some .int)) 0 (wX7 cy om om_thrown om_s om_kept om_aside om_isKept om_reaches om_ringOf om_rungOf om_rings om_ringMany om_paid om_leftOf om_ringPaid om_paidAll om_mosts om_text (nI ln) (nI pt) om_isWrong om_clauses om_letters om_one om_two om_three om_whys om_backs om_sorts om_sizes om_items) [.ref (om 0)] (f_X7_here om_text ln pt) := by
  refine Met.ofW (cc := cX7_here) (maxL := 1) (ret := (some .int)) (by decide) rfl ?_
  intro pP eE s0 mM args below meth cC s₁ B hml hv
  obtain ⟨rfl, hP, hKX⟩ := hv
  have hx := B.exec
  have hb := B.bytes
  have hr := B.returns
  have hG := gw_hts (atoms_spec (ws := _) B.pre)
  have hown : s0.vm.findClass RX7 = some mM.cls := findClass_of_methodNamed B.named
  have hlocks := B.notSynchronized
  have hl := lv_entry ([.ref (om 0)]) (n := 1) (Nat.le_of_ble_eq_true rfl)
  rw [lg_entry_eq]
  generalize (lg_sl ([.ref (om 0)]) ++ List.replicate (1 - (lg_sl ([.ref (om 0)])).length) Slot.unset).toArray = ls at hl ⊢
  have hl : lv_has ls 1 [(0, .ref (om 0))] := hl
  refine lv_aload_n hx hb dX7_here_0 rfl (lv_at hl 0 rfl) ?_
  refine gf_X7_159 hx hb hG hown hKX hP 0 rfl rfl dX7_here_1 ?_
  refine lv_aload_n hx hb dX7_here_4 rfl (lv_at hl 0 rfl) ?_
  refine gf_X7_156 hx hb hG hown hKX hP 0 rfl rfl dX7_here_5 ?_
  refine lv_icmp_ge (tgt := 23) hx hb dX7_here_8 (by decide) (fun c1 => ?_) (fun c1 => ?_)
  · refine lv_iconst (v := (-1 : Int32)) hx hb dX7_here_23 (by decide) ?_
    exact W.iret (v := (-1 : Int32)) hx hb hr (fun t ht hW => ⟨_, rfl, by unfold f_X7_here; rw [if_pos c1] <;> rfl, ht⟩) (fun q hq => by cases hq) dX7_here_24
  · have hat2 : pt < ln := Nat.lt_of_not_le (fun qq_ => c1 ((nI_leI (a := ln) (b := pt) (by omega) (by omega)).mpr qq_))
    refine lv_aload_n hx hb dX7_here_11 rfl (lv_at hl 0 rfl) ?_
    refine gf_X7_49 hx hb hG hown hKX hP 0 rfl rfl dX7_here_12 ?_
    refine lv_aload_n hx hb dX7_here_15 rfl (lv_at hl 0 rfl) ?_
    refine gf_X7_159 hx hb hG hown hKX hP 0 rfl rfl dX7_here_16 ?_
    refine iald_n hx hb hKX hP 12 rfl rfl (by omega) (by decide) dX7_here_19 ?_
    refine lv_goto (tgt := 24) hx hb dX7_here_20 (by decide) ?_
    exact W.iret (v := (om_text pt)) hx hb hr (fun t ht hW => ⟨_, rfl, by unfold f_X7_here; rw [if_neg c1] <;> rfl, ht⟩) (fun q hq => by cases hq) dX7_here_24
theorem here_ge {t : Nat → Int32} {ln pt : Nat} (hln : ln ≤ 100) (hpt : pt ≤ ln) (h : ¬ pt < ln) : f_X7_here t ln pt = -1 := by
  unfold f_X7_here
  rw [if_pos ((nI_leI (a := ln) (b := pt) (by omega) (by omega)).mpr (by omega))]
theorem here_in {t : Nat → Int32} {ln pt : Nat} (hln : ln ≤ 100) (hpt : pt ≤ ln) (h : ¬ f_X7_in (f_X7_here t ln pt).toInt64 48 57 = 0) : pt < ln := by
  refine Nat.lt_of_not_le (fun q => h ?_)
  rw [here_ge hln hpt (by omega)]
  decide
theorem here_eq {t : Nat → Int32} {ln pt : Nat} {x : Int32} (hln : ln ≤ 100) (hpt : pt ≤ ln) (hx : ¬ (-1 : Int32) = x) (h : f_X7_here t ln pt = x) : pt < ln := by
  refine Nat.lt_of_not_le (fun q => hx ?_)
  rw [← h, here_ge hln hpt (by omega)]
def f_X7_numberd1 (om_text : Nat → Int32) (om_isWrong : Int32) (ln : Nat) (pt : Nat) : Int32 × Nat × Int32 :=
  if om_isWrong = (0 : Int32) then (if (f_X7_in (((f_X7_here om_text ln pt)).toInt64) (48 : Int64) (57 : Int64)) = (0 : Int32) then ((0 : Int32), (pt, (1 : Int32))) else ((((0 : Int32) + (om_text pt)) - (48 : Int32)), (pt + 1, (0 : Int32)))) else ((0 : Int32), (pt, (1 : Int32)))
set_option maxHeartbeats 4000000 in
set_option maxRecDepth 100000 in
theorem c_X7_numberd1 (l : Launch) (D : va_G) (cy : Nat → ClassId) (om : Nat → Nat) (om_thrown : Int32) (om_s : Nat → Int32) (om_kept : Nat → Int32) (om_aside : Nat → Int32) (om_isKept : Int32) (om_reaches : Nat → Int32) (om_ringOf : Nat → Int32) (om_rungOf : Nat → Int32) (om_rings : Nat → Int32) (om_ringMany : Int32) (om_paid : Nat → Int32) (om_leftOf : Nat → Int32) (om_ringPaid : Nat → Int32) (om_paidAll : Int32) (om_mosts : Nat → Int32) (om_text : Nat → Int32) (om_isWrong : Int32) (om_clauses : Int32) (om_letters : Nat → Int32) (om_one : Nat → Int32) (om_two : Nat → Int32) (om_three : Nat → Int32) (om_whys : Nat → Int32) (om_backs : Nat → Int32) (om_sorts : Nat → Int32) (om_sizes : Nat → Int32) (om_items : Nat → Int64) (ln : Nat) (pt : Nat) (hln : ln ≤ 100) (hpt : pt ≤ ln) : RwI (S := Nat × Int32) l D cy yX7_number (.code yX7_number cX7_number 4 (some .int)) 1 (wX7 cy om om_thrown om_s om_kept om_aside om_isKept om_reaches om_ringOf om_rungOf om_rings om_ringMany om_paid om_leftOf om_ringPaid om_paidAll om_mosts om_text (nI ln) (nI pt) om_isWrong om_clauses om_letters om_one om_two om_three om_whys om_backs om_sorts om_sizes om_items) [.ref (om 0), .int (1 : Int32)] (fun rr u => (rr, u) = f_X7_numberd1 om_text om_isWrong ln pt) (fun u => wX7 cy om om_thrown om_s om_kept om_aside om_isKept om_reaches om_ringOf om_rungOf om_rings om_ringMany om_paid om_leftOf om_ringPaid om_paidAll om_mosts om_text (nI ln) (nI u.1) u.2 om_clauses om_letters om_one om_two om_three om_whys om_backs om_sorts om_sizes om_items) := by
  intro sz
  refine Met.ofW (cc := cX7_number) (maxL := 4) (ret := (some .int)) (by decide) rfl ?_
  intro pP eE s0 mM args below meth cC s₁ B hml hv
  obtain ⟨rfl, hsz, hP, hKX, hD0⟩ := hv
  have hx := B.exec
  have hb := B.bytes
  have hr := B.returns
  have hG := gw_hts (atoms_spec (ws := _) B.pre)
  have hown : s0.vm.findClass RX7 = some mM.cls := findClass_of_methodNamed B.named
  have hlocks := B.notSynchronized
  subst hsz
  have hD := hD0.self (sz := s0.heap.size)
  generalize hAe : va_A (wX7 cy om om_thrown om_s om_kept om_aside om_isKept om_reaches om_ringOf om_rungOf om_rings om_ringMany om_paid om_leftOf om_ringPaid om_paidAll om_mosts om_text (nI ln) (nI pt) om_isWrong om_clauses om_letters om_one om_two om_three om_whys om_backs om_sorts om_sizes om_items) s0.heap.size = A at hD ⊢
  have hA : ∀ q : Nat, s0.heap.size ≤ q → A q := fun q h => by rw [← hAe]; exact Or.inr h
  have hS : va_S A s0.heap s0.heap [] := va_S.rf
  have hl := lv_entry ([.ref (om 0), .int (1 : Int32)]) (n := 4) (Nat.le_of_ble_eq_true rfl)
  rw [lg_entry_eq]
  generalize (lg_sl ([.ref (om 0), .int (1 : Int32)]) ++ List.replicate (4 - (lg_sl ([.ref (om 0), .int (1 : Int32)])).length) Slot.unset).toArray = ls at hl ⊢
  have hl : lv_has ls 4 [(0, .ref (om 0)), (1, .int (1 : Int32))] := hl
  refine lv_iconst (v := (0 : Int32)) hx hb dX7_number_0 (by decide) ?_
  refine lv_istore_n (lv' := [(2, .int (0 : Int32)), (0, .ref (om 0)), (1, .int (1 : Int32))]) hx hb dX7_number_1 rfl hl (by decide) rfl (fun ls hl => ?_)
  refine lv_iconst (v := (0 : Int32)) hx hb dX7_number_2 (by decide) ?_
  refine lv_istore_n (lv' := [(3, .int (0 : Int32)), (2, .int (0 : Int32)), (0, .ref (om 0)), (1, .int (1 : Int32))]) hx hb dX7_number_3 rfl hl (by decide) rfl (fun ls hl => ?_)
  refine lv_aload_n hx hb dX7_number_4 rfl (lv_at hl 2 rfl) ?_
  refine gf_X7_162 hx hb hG hown hKX hP 0 rfl rfl dX7_number_5 ?_
  refine lv_if_ne (tgt := 67) hx hb dX7_number_8 (by decide) (fun c1 => ?_) (fun c1 => ?_)
  · refine lv_aload_n hx hb dX7_number_67 rfl (lv_at hl 2 rfl) ?_
    refine lv_aload_n hx hb dX7_number_68 rfl (lv_at hl 2 rfl) ?_
    refine gf_X7_162 hx hb hG hown hKX hP 0 rfl rfl dX7_number_69 ?_
    refine lv_if_ne (tgt := 79) hx hb dX7_number_72 (by decide) (fun _ => ?_) (fun c2 => absurd c2 c1)
    refine lv_iconst (v := (1 : Int32)) hx hb dX7_number_79 (by decide) ?_
    refine lv_goto (tgt := 84) hx hb dX7_number_80 (by decide) ?_
    refine pf_X7_162 hx hb hG hown hKX hP hD hS 0 rfl rfl rfl (Nat.le_of_ble_eq_true rfl) dX7_number_84 (wn := wX7 cy om om_thrown om_s om_kept om_aside om_isKept om_reaches om_ringOf om_rungOf om_rings om_ringMany om_paid om_leftOf om_ringPaid om_paidAll om_mosts om_text (nI ln) (nI pt) (1 : Int32) om_clauses om_letters om_one om_two om_three om_whys om_backs om_sorts om_sizes om_items) rfl (fun H locs hP hD hS => ?_)
    refine lv_iload_n hx hb dX7_number_87 rfl (lv_at hl 1 rfl) ?_
    exact W.iret (v := (0 : Int32)) hx hb hr (fun t ht hW => ⟨⟨(0 : Int32), (pt, (1 : Int32)), rfl, by unfold f_X7_numberd1; rw [if_neg c1] <;> rfl, by rw [ht]; exact hP, hD⟩, hS.F ht⟩) hS.2.2 dX7_number_88
  · refine lv_iload_n hx hb dX7_number_11 rfl (lv_at hl 0 rfl) ?_
    refine lv_iload_n hx hb dX7_number_12 rfl (lv_at hl 3 rfl) ?_
    refine lv_icmp_ge (tgt := 67) hx hb dX7_number_13 (by decide) (fun c3 => absurd c3 (by decide)) (fun c3 => ?_)
    refine lv_aload_n hx hb dX7_number_16 rfl (lv_at hl 2 rfl) ?_
    refine cRoV (q0 := 0) (ci := 7) mw19_6 mw19_7 mw19_8 mw1_5 mw19_9 rfl rfl hd_X7_here hx hb hml hown hG hKX (c_X7_here l D cy om om_thrown om_s om_kept om_aside om_isKept om_reaches om_ringOf om_rungOf om_rings om_ringMany om_paid om_leftOf om_ringPaid om_paidAll om_mosts om_text om_isWrong om_clauses om_letters om_one om_two om_three om_whys om_backs om_sorts om_sizes om_items ln pt hln hpt) ⟨Nat.le_of_ble_eq_true rfl, Nat.le_of_ble_eq_true rfl⟩ ⟨Nat.zero_le _, Nat.zero_le _⟩ hP rfl rfl hl.1 rfl (Nat.le_of_ble_eq_true rfl) dX7_number_17 ?_
    refine lv_i2l (v := (((f_X7_here om_text ln pt)).toInt64)) hx hb dX7_number_20 rfl ?_
    refine lv_ldc2 (v := (48 : Int64)) hx hb hown (hG _ mw19_14) dX7_number_21 ?_
    refine lv_ldc2 (v := (57 : Int64)) hx hb hown (hG _ mw19_15) dX7_number_24 ?_
    refine cRoS mw7_3 mw7_4 mw1_5 mw7_5 hd_X7_in hx hb hml hown hG hKX (c_X7_in l D cy (((f_X7_here om_text ln pt)).toInt64) (48 : Int64) (57 : Int64)) ⟨Nat.le_of_ble_eq_true rfl, Nat.le_of_ble_eq_true rfl⟩ ⟨Nat.zero_le _, Nat.zero_le _⟩ (hP.sub [] rfl) rfl hl.1 rfl (Nat.le_of_ble_eq_true rfl) dX7_number_27 ?_
    refine lv_if_eq (tgt := 67) hx hb dX7_number_30 (by decide) (fun c4 => ?_) (fun c4 => ?_)
    · refine lv_aload_n hx hb dX7_number_67 rfl (lv_at hl 2 rfl) ?_
      refine lv_aload_n hx hb dX7_number_68 rfl (lv_at hl 2 rfl) ?_
      refine gf_X7_162 hx hb hG hown hKX hP 0 rfl rfl dX7_number_69 ?_
      refine lv_if_ne (tgt := 79) hx hb dX7_number_72 (by decide) (fun c5 => absurd c1 c5) (fun _ => ?_)
      refine lv_iload_n hx hb dX7_number_75 rfl (lv_at hl 0 rfl) ?_
      refine lv_if_ne (tgt := 83) hx hb dX7_number_76 (by decide) (fun c6 => absurd (by decide) c6) (fun c6 => ?_)
      refine lv_iconst (v := (1 : Int32)) hx hb dX7_number_79 (by decide) ?_
      refine lv_goto (tgt := 84) hx hb dX7_number_80 (by decide) ?_
      refine pf_X7_162 hx hb hG hown hKX hP hD hS 0 rfl rfl rfl (Nat.le_of_ble_eq_true rfl) dX7_number_84 (wn := wX7 cy om om_thrown om_s om_kept om_aside om_isKept om_reaches om_ringOf om_rungOf om_rings om_ringMany om_paid om_leftOf om_ringPaid om_paidAll om_mosts om_text (nI ln) (nI pt) (1 : Int32) om_clauses om_letters om_one om_two om_three om_whys om_backs om_sorts om_sizes om_items) rfl (fun H locs hP hD hS => ?_)
      refine lv_iload_n hx hb dX7_number_87 rfl (lv_at hl 1 rfl) ?_
      exact W.iret (v := (0 : Int32)) hx hb hr (fun t ht hW => ⟨⟨(0 : Int32), (pt, (1 : Int32)), rfl, by unfold f_X7_numberd1; rw [if_pos c1, if_pos c4] <;> rfl, by rw [ht]; exact hP, hD⟩, hS.F ht⟩) hS.2.2 dX7_number_88
    · have hat7 : pt < ln := here_in hln (by omega) c4
      refine lv_bipush (v := (10 : Int32)) hx hb dX7_number_33 (by decide) ?_
      refine lv_iload_n hx hb dX7_number_35 rfl (lv_at hl 1 rfl) ?_
      refine lv_imul hx hb dX7_number_36 ?_
      refine topi_eq (y := (0 : Int32)) (by decide) ?_
      refine lv_aload_n hx hb dX7_number_37 rfl (lv_at hl 2 rfl) ?_
      refine gf_X7_49 hx hb hG hown hKX hP 0 rfl rfl dX7_number_38 ?_
      refine lv_aload_n hx hb dX7_number_41 rfl (lv_at hl 2 rfl) ?_
      refine gf_X7_159 hx hb hG hown hKX hP 0 rfl rfl dX7_number_42 ?_
      refine iald_n hx hb hKX hP 12 rfl rfl (by omega) (by decide) dX7_number_45 ?_
      refine lv_iadd hx hb dX7_number_46 ?_
      refine lv_bipush (v := (48 : Int32)) hx hb dX7_number_47 (by decide) ?_
      refine lv_isub hx hb dX7_number_49 ?_
      refine lv_istore_n (lv' := [(2, .int (((0 : Int32) + (om_text pt)) - (48 : Int32))), (3, .int (0 : Int32)), (0, .ref (om 0)), (1, .int (1 : Int32))]) hx hb dX7_number_50 rfl hl (by decide) rfl (fun ls hl => ?_)
      refine lv_aload_n hx hb dX7_number_51 rfl (lv_at hl 2 rfl) ?_
      refine lv_dup hx hb dX7_number_52 rfl ?_
      refine gf_X7_159 hx hb hG hown hKX hP 0 rfl rfl dX7_number_53 ?_
      refine lv_iconst (v := (1 : Int32)) hx hb dX7_number_56 (by decide) ?_
      refine lv_iadd hx hb dX7_number_57 ?_
      refine topi_eq (y := nI (pt + 1)) (aN rfl rfl) ?_
      refine pf_X7_159 hx hb hG hown hKX hP hD hS 0 rfl rfl rfl (Nat.le_of_ble_eq_true rfl) dX7_number_58 (wn := wX7 cy om om_thrown om_s om_kept om_aside om_isKept om_reaches om_ringOf om_rungOf om_rings om_ringMany om_paid om_leftOf om_ringPaid om_paidAll om_mosts om_text (nI ln) (nI (pt + 1)) om_isWrong om_clauses om_letters om_one om_two om_three om_whys om_backs om_sorts om_sizes om_items) rfl (fun H locs hP hD hS => ?_)
      refine lv_iinc (v := (1 : Int32)) (lv' := [(3, .int (1 : Int32)), (2, .int (((0 : Int32) + (om_text pt)) - (48 : Int32))), (0, .ref (om 0)), (1, .int (1 : Int32))]) hx hb dX7_number_61 hl (k := 1) rfl (by decide) (by decide) rfl (fun ls hl => ?_)
      refine lv_goto (tgt := 4) hx hb dX7_number_64 (by decide) ?_
      refine lv_aload_n hx hb dX7_number_4 rfl (lv_at hl 2 rfl) ?_
      refine gf_X7_162 hx hb hG hown hKX hP 0 rfl rfl dX7_number_5 ?_
      refine lv_if_ne (tgt := 67) hx hb dX7_number_8 (by decide) (fun c8 => absurd c1 c8) (fun _ => ?_)
      refine lv_iload_n hx hb dX7_number_11 rfl (lv_at hl 0 rfl) ?_
      refine lv_iload_n hx hb dX7_number_12 rfl (lv_at hl 3 rfl) ?_
      refine lv_icmp_ge (tgt := 67) hx hb dX7_number_13 (by decide) (fun c9 => ?_) (fun c9 => absurd (by decide) c9)
      refine lv_aload_n hx hb dX7_number_67 rfl (lv_at hl 2 rfl) ?_
      refine lv_aload_n hx hb dX7_number_68 rfl (lv_at hl 2 rfl) ?_
      refine gf_X7_162 hx hb hG hown hKX hP 0 rfl rfl dX7_number_69 ?_
      refine lv_if_ne (tgt := 79) hx hb dX7_number_72 (by decide) (fun c10 => absurd c1 c10) (fun _ => ?_)
      refine lv_iload_n hx hb dX7_number_75 rfl (lv_at hl 0 rfl) ?_
      refine lv_if_ne (tgt := 83) hx hb dX7_number_76 (by decide) (fun c11 => ?_) (fun c11 => absurd c11 (by decide))
      refine lv_iconst (v := (0 : Int32)) hx hb dX7_number_83 (by decide) ?_
      refine pf_X7_162 hx hb hG hown hKX hP hD hS 0 rfl rfl rfl (Nat.le_of_ble_eq_true rfl) dX7_number_84 (wn := wX7 cy om om_thrown om_s om_kept om_aside om_isKept om_reaches om_ringOf om_rungOf om_rings om_ringMany om_paid om_leftOf om_ringPaid om_paidAll om_mosts om_text (nI ln) (nI (pt + 1)) (0 : Int32) om_clauses om_letters om_one om_two om_three om_whys om_backs om_sorts om_sizes om_items) rfl (fun H locs hP hD hS => ?_)
      refine lv_iload_n hx hb dX7_number_87 rfl (lv_at hl 1 rfl) ?_
      exact W.iret (v := (((0 : Int32) + (om_text pt)) - (48 : Int32))) hx hb hr (fun t ht hW => ⟨⟨(((0 : Int32) + (om_text pt)) - (48 : Int32)), (pt + 1, (0 : Int32)), rfl, by unfold f_X7_numberd1; rw [if_pos c1, if_neg c4] <;> rfl, by rw [ht]; exact hP, hD⟩, hS.F ht⟩) hS.2.2 dX7_number_88
theorem numberd1_l {f : Nat → Int32} {w : Int32} {ln pt : Nat} (h : pt ≤ ln) (hl : ln ≤ 100) : (f_X7_numberd1 f w ln pt).2.1 ≤ ln := by
  have k0 : ¬ f_X7_in (f_X7_here f ln pt).toInt64 48 57 = 0 → pt + 1 ≤ ln := fun q => here_in hl h q
  have k1 : ¬ f_X7_in (f_X7_here f ln (pt + 1)).toInt64 48 57 = 0 → pt + 1 ≤ ln → pt + 1 + 1 ≤ ln := fun q r => here_in hl r q
  have k2 : ¬ f_X7_in (f_X7_here f ln (pt + 1 + 1)).toInt64 48 57 = 0 → pt + 1 + 1 ≤ ln → pt + 1 + 1 + 1 ≤ ln := fun q r => here_in hl r q
  unfold f_X7_numberd1
  repeat' refine iteP (P := fun x : Int32 × Nat × Int32 => x.2.1 ≤ ln) (fun _ => ?_) (fun _ => ?_)
  all_goals first
    | with_reducible exact h
    | with_reducible exact k0 (by assumption)
    | with_reducible exact k1 (by assumption) (k0 (by assumption))
    | with_reducible exact k2 (by assumption) (k1 (by assumption) (k0 (by assumption)))
theorem numberd1_le {f : Nat → Int32} {w : Int32} {ln pt : Nat} {r : Int32} {u : Nat × Int32} (hw : (r, u) = f_X7_numberd1 f w ln pt) (h : pt ≤ ln) (hl : ln ≤ 100) : u.1 ≤ ln := by
  rw [show u = (f_X7_numberd1 f w ln pt).2 from congrArg Prod.snd hw]
  exact numberd1_l h hl
def f_X7_numberd2 (om_text : Nat → Int32) (om_isWrong : Int32) (ln : Nat) (pt : Nat) : Int32 × Nat × Int32 :=
  if om_isWrong = (0 : Int32) then (if (f_X7_in (((f_X7_here om_text ln pt)).toInt64) (48 : Int64) (57 : Int64)) = (0 : Int32) then ((0 : Int32), (pt, (1 : Int32))) else (if (f_X7_in (((f_X7_here om_text ln (pt + 1))).toInt64) (48 : Int64) (57 : Int64)) = (0 : Int32) then ((((0 : Int32) + (om_text pt)) - (48 : Int32)), (pt + 1, (0 : Int32))) else (((((10 : Int32) * (((0 : Int32) + (om_text pt)) - (48 : Int32))) + (om_text (pt + 1))) - (48 : Int32)), ((pt + 1) + 1, (0 : Int32))))) else ((0 : Int32), (pt, (1 : Int32)))
set_option maxHeartbeats 4000000 in
set_option maxRecDepth 100000 in
theorem c_X7_numberd2 (l : Launch) (D : va_G) (cy : Nat → ClassId) (om : Nat → Nat) (om_thrown : Int32) (om_s : Nat → Int32) (om_kept : Nat → Int32) (om_aside : Nat → Int32) (om_isKept : Int32) (om_reaches : Nat → Int32) (om_ringOf : Nat → Int32) (om_rungOf : Nat → Int32) (om_rings : Nat → Int32) (om_ringMany : Int32) (om_paid : Nat → Int32) (om_leftOf : Nat → Int32) (om_ringPaid : Nat → Int32) (om_paidAll : Int32) (om_mosts : Nat → Int32) (om_text : Nat → Int32) (om_isWrong : Int32) (om_clauses : Int32) (om_letters : Nat → Int32) (om_one : Nat → Int32) (om_two : Nat → Int32) (om_three : Nat → Int32) (om_whys : Nat → Int32) (om_backs : Nat → Int32) (om_sorts : Nat → Int32) (om_sizes : Nat → Int32) (om_items : Nat → Int64) (ln : Nat) (pt : Nat) (hln : ln ≤ 100) (hpt : pt ≤ ln) : RwI (S := Nat × Int32) l D cy yX7_number (.code yX7_number cX7_number 4 (some .int)) 1 (wX7 cy om om_thrown om_s om_kept om_aside om_isKept om_reaches om_ringOf om_rungOf om_rings om_ringMany om_paid om_leftOf om_ringPaid om_paidAll om_mosts om_text (nI ln) (nI pt) om_isWrong om_clauses om_letters om_one om_two om_three om_whys om_backs om_sorts om_sizes om_items) [.ref (om 0), .int (2 : Int32)] (fun rr u => (rr, u) = f_X7_numberd2 om_text om_isWrong ln pt) (fun u => wX7 cy om om_thrown om_s om_kept om_aside om_isKept om_reaches om_ringOf om_rungOf om_rings om_ringMany om_paid om_leftOf om_ringPaid om_paidAll om_mosts om_text (nI ln) (nI u.1) u.2 om_clauses om_letters om_one om_two om_three om_whys om_backs om_sorts om_sizes om_items) := by
  intro sz
  refine Met.ofW (cc := cX7_number) (maxL := 4) (ret := (some .int)) (by decide) rfl ?_
  intro pP eE s0 mM args below meth cC s₁ B hml hv
  obtain ⟨rfl, hsz, hP, hKX, hD0⟩ := hv
  have hx := B.exec
  have hb := B.bytes
  have hr := B.returns
  have hG := gw_hts (atoms_spec (ws := _) B.pre)
  have hown : s0.vm.findClass RX7 = some mM.cls := findClass_of_methodNamed B.named
  have hlocks := B.notSynchronized
  subst hsz
  have hD := hD0.self (sz := s0.heap.size)
  generalize hAe : va_A (wX7 cy om om_thrown om_s om_kept om_aside om_isKept om_reaches om_ringOf om_rungOf om_rings om_ringMany om_paid om_leftOf om_ringPaid om_paidAll om_mosts om_text (nI ln) (nI pt) om_isWrong om_clauses om_letters om_one om_two om_three om_whys om_backs om_sorts om_sizes om_items) s0.heap.size = A at hD ⊢
  have hA : ∀ q : Nat, s0.heap.size ≤ q → A q := fun q h => by rw [← hAe]; exact Or.inr h
  have hS : va_S A s0.heap s0.heap [] := va_S.rf
  have hl := lv_entry ([.ref (om 0), .int (2 : Int32)]) (n := 4) (Nat.le_of_ble_eq_true rfl)
  rw [lg_entry_eq]
  generalize (lg_sl ([.ref (om 0), .int (2 : Int32)]) ++ List.replicate (4 - (lg_sl ([.ref (om 0), .int (2 : Int32)])).length) Slot.unset).toArray = ls at hl ⊢
  have hl : lv_has ls 4 [(0, .ref (om 0)), (1, .int (2 : Int32))] := hl
  refine lv_iconst (v := (0 : Int32)) hx hb dX7_number_0 (by decide) ?_
  refine lv_istore_n (lv' := [(2, .int (0 : Int32)), (0, .ref (om 0)), (1, .int (2 : Int32))]) hx hb dX7_number_1 rfl hl (by decide) rfl (fun ls hl => ?_)
  refine lv_iconst (v := (0 : Int32)) hx hb dX7_number_2 (by decide) ?_
  refine lv_istore_n (lv' := [(3, .int (0 : Int32)), (2, .int (0 : Int32)), (0, .ref (om 0)), (1, .int (2 : Int32))]) hx hb dX7_number_3 rfl hl (by decide) rfl (fun ls hl => ?_)
  refine lv_aload_n hx hb dX7_number_4 rfl (lv_at hl 2 rfl) ?_
  refine gf_X7_162 hx hb hG hown hKX hP 0 rfl rfl dX7_number_5 ?_
  refine lv_if_ne (tgt := 67) hx hb dX7_number_8 (by decide) (fun c1 => ?_) (fun c1 => ?_)
  · refine lv_aload_n hx hb dX7_number_67 rfl (lv_at hl 2 rfl) ?_
    refine lv_aload_n hx hb dX7_number_68 rfl (lv_at hl 2 rfl) ?_
    refine gf_X7_162 hx hb hG hown hKX hP 0 rfl rfl dX7_number_69 ?_
    refine lv_if_ne (tgt := 79) hx hb dX7_number_72 (by decide) (fun _ => ?_) (fun c2 => absurd c2 c1)
    refine lv_iconst (v := (1 : Int32)) hx hb dX7_number_79 (by decide) ?_
    refine lv_goto (tgt := 84) hx hb dX7_number_80 (by decide) ?_
    refine pf_X7_162 hx hb hG hown hKX hP hD hS 0 rfl rfl rfl (Nat.le_of_ble_eq_true rfl) dX7_number_84 (wn := wX7 cy om om_thrown om_s om_kept om_aside om_isKept om_reaches om_ringOf om_rungOf om_rings om_ringMany om_paid om_leftOf om_ringPaid om_paidAll om_mosts om_text (nI ln) (nI pt) (1 : Int32) om_clauses om_letters om_one om_two om_three om_whys om_backs om_sorts om_sizes om_items) rfl (fun H locs hP hD hS => ?_)
    refine lv_iload_n hx hb dX7_number_87 rfl (lv_at hl 1 rfl) ?_
    exact W.iret (v := (0 : Int32)) hx hb hr (fun t ht hW => ⟨⟨(0 : Int32), (pt, (1 : Int32)), rfl, by unfold f_X7_numberd2; rw [if_neg c1] <;> rfl, by rw [ht]; exact hP, hD⟩, hS.F ht⟩) hS.2.2 dX7_number_88
  · refine lv_iload_n hx hb dX7_number_11 rfl (lv_at hl 0 rfl) ?_
    refine lv_iload_n hx hb dX7_number_12 rfl (lv_at hl 3 rfl) ?_
    refine lv_icmp_ge (tgt := 67) hx hb dX7_number_13 (by decide) (fun c3 => absurd c3 (by decide)) (fun c3 => ?_)
    refine lv_aload_n hx hb dX7_number_16 rfl (lv_at hl 2 rfl) ?_
    refine cRoV (q0 := 0) (ci := 7) mw19_6 mw19_7 mw19_8 mw1_5 mw19_9 rfl rfl hd_X7_here hx hb hml hown hG hKX (c_X7_here l D cy om om_thrown om_s om_kept om_aside om_isKept om_reaches om_ringOf om_rungOf om_rings om_ringMany om_paid om_leftOf om_ringPaid om_paidAll om_mosts om_text om_isWrong om_clauses om_letters om_one om_two om_three om_whys om_backs om_sorts om_sizes om_items ln pt hln hpt) ⟨Nat.le_of_ble_eq_true rfl, Nat.le_of_ble_eq_true rfl⟩ ⟨Nat.zero_le _, Nat.zero_le _⟩ hP rfl rfl hl.1 rfl (Nat.le_of_ble_eq_true rfl) dX7_number_17 ?_
    refine lv_i2l (v := (((f_X7_here om_text ln pt)).toInt64)) hx hb dX7_number_20 rfl ?_
    refine lv_ldc2 (v := (48 : Int64)) hx hb hown (hG _ mw19_14) dX7_number_21 ?_
    refine lv_ldc2 (v := (57 : Int64)) hx hb hown (hG _ mw19_15) dX7_number_24 ?_
    refine cRoS mw7_3 mw7_4 mw1_5 mw7_5 hd_X7_in hx hb hml hown hG hKX (c_X7_in l D cy (((f_X7_here om_text ln pt)).toInt64) (48 : Int64) (57 : Int64)) ⟨Nat.le_of_ble_eq_true rfl, Nat.le_of_ble_eq_true rfl⟩ ⟨Nat.zero_le _, Nat.zero_le _⟩ (hP.sub [] rfl) rfl hl.1 rfl (Nat.le_of_ble_eq_true rfl) dX7_number_27 ?_
    refine lv_if_eq (tgt := 67) hx hb dX7_number_30 (by decide) (fun c4 => ?_) (fun c4 => ?_)
    · refine lv_aload_n hx hb dX7_number_67 rfl (lv_at hl 2 rfl) ?_
      refine lv_aload_n hx hb dX7_number_68 rfl (lv_at hl 2 rfl) ?_
      refine gf_X7_162 hx hb hG hown hKX hP 0 rfl rfl dX7_number_69 ?_
      refine lv_if_ne (tgt := 79) hx hb dX7_number_72 (by decide) (fun c5 => absurd c1 c5) (fun _ => ?_)
      refine lv_iload_n hx hb dX7_number_75 rfl (lv_at hl 0 rfl) ?_
      refine lv_if_ne (tgt := 83) hx hb dX7_number_76 (by decide) (fun c6 => absurd (by decide) c6) (fun c6 => ?_)
      refine lv_iconst (v := (1 : Int32)) hx hb dX7_number_79 (by decide) ?_
      refine lv_goto (tgt := 84) hx hb dX7_number_80 (by decide) ?_
      refine pf_X7_162 hx hb hG hown hKX hP hD hS 0 rfl rfl rfl (Nat.le_of_ble_eq_true rfl) dX7_number_84 (wn := wX7 cy om om_thrown om_s om_kept om_aside om_isKept om_reaches om_ringOf om_rungOf om_rings om_ringMany om_paid om_leftOf om_ringPaid om_paidAll om_mosts om_text (nI ln) (nI pt) (1 : Int32) om_clauses om_letters om_one om_two om_three om_whys om_backs om_sorts om_sizes om_items) rfl (fun H locs hP hD hS => ?_)
      refine lv_iload_n hx hb dX7_number_87 rfl (lv_at hl 1 rfl) ?_
      exact W.iret (v := (0 : Int32)) hx hb hr (fun t ht hW => ⟨⟨(0 : Int32), (pt, (1 : Int32)), rfl, by unfold f_X7_numberd2; rw [if_pos c1, if_pos c4] <;> rfl, by rw [ht]; exact hP, hD⟩, hS.F ht⟩) hS.2.2 dX7_number_88
    · have hat7 : pt < ln := here_in hln (by omega) c4
      refine lv_bipush (v := (10 : Int32)) hx hb dX7_number_33 (by decide) ?_
      refine lv_iload_n hx hb dX7_number_35 rfl (lv_at hl 1 rfl) ?_
      refine lv_imul hx hb dX7_number_36 ?_
      refine topi_eq (y := (0 : Int32)) (by decide) ?_
      refine lv_aload_n hx hb dX7_number_37 rfl (lv_at hl 2 rfl) ?_
      refine gf_X7_49 hx hb hG hown hKX hP 0 rfl rfl dX7_number_38 ?_
      refine lv_aload_n hx hb dX7_number_41 rfl (lv_at hl 2 rfl) ?_
      refine gf_X7_159 hx hb hG hown hKX hP 0 rfl rfl dX7_number_42 ?_
      refine iald_n hx hb hKX hP 12 rfl rfl (by omega) (by decide) dX7_number_45 ?_
      refine lv_iadd hx hb dX7_number_46 ?_
      refine lv_bipush (v := (48 : Int32)) hx hb dX7_number_47 (by decide) ?_
      refine lv_isub hx hb dX7_number_49 ?_
      refine lv_istore_n (lv' := [(2, .int (((0 : Int32) + (om_text pt)) - (48 : Int32))), (3, .int (0 : Int32)), (0, .ref (om 0)), (1, .int (2 : Int32))]) hx hb dX7_number_50 rfl hl (by decide) rfl (fun ls hl => ?_)
      refine lv_aload_n hx hb dX7_number_51 rfl (lv_at hl 2 rfl) ?_
      refine lv_dup hx hb dX7_number_52 rfl ?_
      refine gf_X7_159 hx hb hG hown hKX hP 0 rfl rfl dX7_number_53 ?_
      refine lv_iconst (v := (1 : Int32)) hx hb dX7_number_56 (by decide) ?_
      refine lv_iadd hx hb dX7_number_57 ?_
      refine topi_eq (y := nI (pt + 1)) (aN rfl rfl) ?_
      refine pf_X7_159 hx hb hG hown hKX hP hD hS 0 rfl rfl rfl (Nat.le_of_ble_eq_true rfl) dX7_number_58 (wn := wX7 cy om om_thrown om_s om_kept om_aside om_isKept om_reaches om_ringOf om_rungOf om_rings om_ringMany om_paid om_leftOf om_ringPaid om_paidAll om_mosts om_text (nI ln) (nI (pt + 1)) om_isWrong om_clauses om_letters om_one om_two om_three om_whys om_backs om_sorts om_sizes om_items) rfl (fun H locs hP hD hS => ?_)
      refine lv_iinc (v := (1 : Int32)) (lv' := [(3, .int (1 : Int32)), (2, .int (((0 : Int32) + (om_text pt)) - (48 : Int32))), (0, .ref (om 0)), (1, .int (2 : Int32))]) hx hb dX7_number_61 hl (k := 1) rfl (by decide) (by decide) rfl (fun ls hl => ?_)
      refine lv_goto (tgt := 4) hx hb dX7_number_64 (by decide) ?_
      refine lv_aload_n hx hb dX7_number_4 rfl (lv_at hl 2 rfl) ?_
      refine gf_X7_162 hx hb hG hown hKX hP 0 rfl rfl dX7_number_5 ?_
      refine lv_if_ne (tgt := 67) hx hb dX7_number_8 (by decide) (fun c8 => absurd c1 c8) (fun _ => ?_)
      refine lv_iload_n hx hb dX7_number_11 rfl (lv_at hl 0 rfl) ?_
      refine lv_iload_n hx hb dX7_number_12 rfl (lv_at hl 3 rfl) ?_
      refine lv_icmp_ge (tgt := 67) hx hb dX7_number_13 (by decide) (fun c9 => absurd c9 (by decide)) (fun c9 => ?_)
      refine lv_aload_n hx hb dX7_number_16 rfl (lv_at hl 2 rfl) ?_
      refine cRoV (q0 := 0) (ci := 7) mw19_6 mw19_7 mw19_8 mw1_5 mw19_9 rfl rfl hd_X7_here hx hb hml hown hG hKX (c_X7_here l D cy om om_thrown om_s om_kept om_aside om_isKept om_reaches om_ringOf om_rungOf om_rings om_ringMany om_paid om_leftOf om_ringPaid om_paidAll om_mosts om_text om_isWrong om_clauses om_letters om_one om_two om_three om_whys om_backs om_sorts om_sizes om_items ln (pt + 1) hln (by omega)) ⟨Nat.le_of_ble_eq_true rfl, Nat.le_of_ble_eq_true rfl⟩ ⟨Nat.zero_le _, Nat.zero_le _⟩ hP rfl rfl hl.1 rfl (Nat.le_of_ble_eq_true rfl) dX7_number_17 ?_
      refine lv_i2l (v := (((f_X7_here om_text ln (pt + 1))).toInt64)) hx hb dX7_number_20 rfl ?_
      refine lv_ldc2 (v := (48 : Int64)) hx hb hown (hG _ mw19_14) dX7_number_21 ?_
      refine lv_ldc2 (v := (57 : Int64)) hx hb hown (hG _ mw19_15) dX7_number_24 ?_
      refine cRoS mw7_3 mw7_4 mw1_5 mw7_5 hd_X7_in hx hb hml hown hG hKX (c_X7_in l D cy (((f_X7_here om_text ln (pt + 1))).toInt64) (48 : Int64) (57 : Int64)) ⟨Nat.le_of_ble_eq_true rfl, Nat.le_of_ble_eq_true rfl⟩ ⟨Nat.zero_le _, Nat.zero_le _⟩ (hP.sub [] rfl) rfl hl.1 rfl (Nat.le_of_ble_eq_true rfl) dX7_number_27 ?_
      refine lv_if_eq (tgt := 67) hx hb dX7_number_30 (by decide) (fun c10 => ?_) (fun c10 => ?_)
      · refine lv_aload_n hx hb dX7_number_67 rfl (lv_at hl 2 rfl) ?_
        refine lv_aload_n hx hb dX7_number_68 rfl (lv_at hl 2 rfl) ?_
        refine gf_X7_162 hx hb hG hown hKX hP 0 rfl rfl dX7_number_69 ?_
        refine lv_if_ne (tgt := 79) hx hb dX7_number_72 (by decide) (fun c11 => absurd c1 c11) (fun _ => ?_)
        refine lv_iload_n hx hb dX7_number_75 rfl (lv_at hl 0 rfl) ?_
        refine lv_if_ne (tgt := 83) hx hb dX7_number_76 (by decide) (fun c12 => ?_) (fun c12 => absurd c12 (by decide))
        refine lv_iconst (v := (0 : Int32)) hx hb dX7_number_83 (by decide) ?_
        refine pf_X7_162 hx hb hG hown hKX hP hD hS 0 rfl rfl rfl (Nat.le_of_ble_eq_true rfl) dX7_number_84 (wn := wX7 cy om om_thrown om_s om_kept om_aside om_isKept om_reaches om_ringOf om_rungOf om_rings om_ringMany om_paid om_leftOf om_ringPaid om_paidAll om_mosts om_text (nI ln) (nI (pt + 1)) (0 : Int32) om_clauses om_letters om_one om_two om_three om_whys om_backs om_sorts om_sizes om_items) rfl (fun H locs hP hD hS => ?_)
        refine lv_iload_n hx hb dX7_number_87 rfl (lv_at hl 1 rfl) ?_
        exact W.iret (v := (((0 : Int32) + (om_text pt)) - (48 : Int32))) hx hb hr (fun t ht hW => ⟨⟨(((0 : Int32) + (om_text pt)) - (48 : Int32)), (pt + 1, (0 : Int32)), rfl, by unfold f_X7_numberd2; rw [if_pos c1, if_neg c4, if_pos c10] <;> rfl, by rw [ht]; exact hP, hD⟩, hS.F ht⟩) hS.2.2 dX7_number_88
      · have hat13 : pt + 1 < ln := here_in hln (by omega) c10
        refine lv_bipush (v := (10 : Int32)) hx hb dX7_number_33 (by decide) ?_
        refine lv_iload_n hx hb dX7_number_35 rfl (lv_at hl 1 rfl) ?_
        refine lv_imul hx hb dX7_number_36 ?_
        refine lv_aload_n hx hb dX7_number_37 rfl (lv_at hl 2 rfl) ?_
        refine gf_X7_49 hx hb hG hown hKX hP 0 rfl rfl dX7_number_38 ?_
        refine lv_aload_n hx hb dX7_number_41 rfl (lv_at hl 2 rfl) ?_
        refine gf_X7_159 hx hb hG hown hKX hP 0 rfl rfl dX7_number_42 ?_
        refine iald_n hx hb hKX hP 12 rfl rfl (by omega) (by decide) dX7_number_45 ?_
        refine lv_iadd hx hb dX7_number_46 ?_
        refine lv_bipush (v := (48 : Int32)) hx hb dX7_number_47 (by decide) ?_
        refine lv_isub hx hb dX7_number_49 ?_
        refine lv_istore_n (lv' := [(2, .int ((((10 : Int32) * (((0 : Int32) + (om_text pt)) - (48 : Int32))) + (om_text (pt + 1))) - (48 : Int32))), (3, .int (1 : Int32)), (0, .ref (om 0)), (1, .int (2 : Int32))]) hx hb dX7_number_50 rfl hl (by decide) rfl (fun ls hl => ?_)
        refine lv_aload_n hx hb dX7_number_51 rfl (lv_at hl 2 rfl) ?_
        refine lv_dup hx hb dX7_number_52 rfl ?_
        refine gf_X7_159 hx hb hG hown hKX hP 0 rfl rfl dX7_number_53 ?_
        refine lv_iconst (v := (1 : Int32)) hx hb dX7_number_56 (by decide) ?_
        refine lv_iadd hx hb dX7_number_57 ?_
        refine topi_eq (y := nI ((pt + 1) + 1)) (aN rfl rfl) ?_
        refine pf_X7_159 hx hb hG hown hKX hP hD hS 0 rfl rfl rfl (Nat.le_of_ble_eq_true rfl) dX7_number_58 (wn := wX7 cy om om_thrown om_s om_kept om_aside om_isKept om_reaches om_ringOf om_rungOf om_rings om_ringMany om_paid om_leftOf om_ringPaid om_paidAll om_mosts om_text (nI ln) (nI ((pt + 1) + 1)) om_isWrong om_clauses om_letters om_one om_two om_three om_whys om_backs om_sorts om_sizes om_items) rfl (fun H locs hP hD hS => ?_)
        refine lv_iinc (v := (2 : Int32)) (lv' := [(3, .int (2 : Int32)), (2, .int ((((10 : Int32) * (((0 : Int32) + (om_text pt)) - (48 : Int32))) + (om_text (pt + 1))) - (48 : Int32))), (0, .ref (om 0)), (1, .int (2 : Int32))]) hx hb dX7_number_61 hl (k := 1) rfl (by decide) (by decide) rfl (fun ls hl => ?_)
        refine lv_goto (tgt := 4) hx hb dX7_number_64 (by decide) ?_
        refine lv_aload_n hx hb dX7_number_4 rfl (lv_at hl 2 rfl) ?_
        refine gf_X7_162 hx hb hG hown hKX hP 0 rfl rfl dX7_number_5 ?_
        refine lv_if_ne (tgt := 67) hx hb dX7_number_8 (by decide) (fun c14 => absurd c1 c14) (fun _ => ?_)
        refine lv_iload_n hx hb dX7_number_11 rfl (lv_at hl 0 rfl) ?_
        refine lv_iload_n hx hb dX7_number_12 rfl (lv_at hl 3 rfl) ?_
        refine lv_icmp_ge (tgt := 67) hx hb dX7_number_13 (by decide) (fun c15 => ?_) (fun c15 => absurd (by decide) c15)
        refine lv_aload_n hx hb dX7_number_67 rfl (lv_at hl 2 rfl) ?_
        refine lv_aload_n hx hb dX7_number_68 rfl (lv_at hl 2 rfl) ?_
        refine gf_X7_162 hx hb hG hown hKX hP 0 rfl rfl dX7_number_69 ?_
        refine lv_if_ne (tgt := 79) hx hb dX7_number_72 (by decide) (fun c16 => absurd c1 c16) (fun _ => ?_)
        refine lv_iload_n hx hb dX7_number_75 rfl (lv_at hl 0 rfl) ?_
        refine lv_if_ne (tgt := 83) hx hb dX7_number_76 (by decide) (fun c17 => ?_) (fun c17 => absurd c17 (by decide))
        refine lv_iconst (v := (0 : Int32)) hx hb dX7_number_83 (by decide) ?_
        refine pf_X7_162 hx hb hG hown hKX hP hD hS 0 rfl rfl rfl (Nat.le_of_ble_eq_true rfl) dX7_number_84 (wn := wX7 cy om om_thrown om_s om_kept om_aside om_isKept om_reaches om_ringOf om_rungOf om_rings om_ringMany om_paid om_leftOf om_ringPaid om_paidAll om_mosts om_text (nI ln) (nI ((pt + 1) + 1)) (0 : Int32) om_clauses om_letters om_one om_two om_three om_whys om_backs om_sorts om_sizes om_items) rfl (fun H locs hP hD hS => ?_)
        refine lv_iload_n hx hb dX7_number_87 rfl (lv_at hl 1 rfl) ?_
        exact W.iret (v := ((((10 : Int32) * (((0 : Int32) + (om_text pt)) - (48 : Int32))) + (om_text (pt + 1))) - (48 : Int32))) hx hb hr (fun t ht hW => ⟨⟨((((10 : Int32) * (((0 : Int32) + (om_text pt)) - (48 : Int32))) + (om_text (pt + 1))) - (48 : Int32)), ((pt + 1) + 1, (0 : Int32)), rfl, by unfold f_X7_numberd2; rw [if_pos c1, if_neg c4, if_neg c10] <;> rfl, by rw [ht]; exact hP, hD⟩, hS.F ht⟩) hS.2.2 dX7_number_88
theorem numberd2_l {f : Nat → Int32} {w : Int32} {ln pt : Nat} (h : pt ≤ ln) (hl : ln ≤ 100) : (f_X7_numberd2 f w ln pt).2.1 ≤ ln := by
  have k0 : ¬ f_X7_in (f_X7_here f ln pt).toInt64 48 57 = 0 → pt + 1 ≤ ln := fun q => here_in hl h q
  have k1 : ¬ f_X7_in (f_X7_here f ln (pt + 1)).toInt64 48 57 = 0 → pt + 1 ≤ ln → pt + 1 + 1 ≤ ln := fun q r => here_in hl r q
  have k2 : ¬ f_X7_in (f_X7_here f ln (pt + 1 + 1)).toInt64 48 57 = 0 → pt + 1 + 1 ≤ ln → pt + 1 + 1 + 1 ≤ ln := fun q r => here_in hl r q
  unfold f_X7_numberd2
  repeat' refine iteP (P := fun x : Int32 × Nat × Int32 => x.2.1 ≤ ln) (fun _ => ?_) (fun _ => ?_)
  all_goals first
    | with_reducible exact h
    | with_reducible exact k0 (by assumption)
    | with_reducible exact k1 (by assumption) (k0 (by assumption))
    | with_reducible exact k2 (by assumption) (k1 (by assumption) (k0 (by assumption)))
theorem numberd2_le {f : Nat → Int32} {w : Int32} {ln pt : Nat} {r : Int32} {u : Nat × Int32} (hw : (r, u) = f_X7_numberd2 f w ln pt) (h : pt ≤ ln) (hl : ln ≤ 100) : u.1 ≤ ln := by
  rw [show u = (f_X7_numberd2 f w ln pt).2 from congrArg Prod.snd hw]
  exact numberd2_l h hl
def f_X7_numberd3 (om_text : Nat → Int32) (om_isWrong : Int32) (ln : Nat) (pt : Nat) : Int32 × Nat × Int32 :=
  if om_isWrong = (0 : Int32) then (if (f_X7_in (((f_X7_here om_text ln pt)).toInt64) (48 : Int64) (57 : Int64)) = (0 : Int32) then ((0 : Int32), (pt, (1 : Int32))) else (if (f_X7_in (((f_X7_here om_text ln (pt + 1))).toInt64) (48 : Int64) (57 : Int64)) = (0 : Int32) then ((((0 : Int32) + (om_text pt)) - (48 : Int32)), (pt + 1, (0 : Int32))) else (if (f_X7_in (((f_X7_here om_text ln ((pt + 1) + 1))).toInt64) (48 : Int64) (57 : Int64)) = (0 : Int32) then (((((10 : Int32) * (((0 : Int32) + (om_text pt)) - (48 : Int32))) + (om_text (pt + 1))) - (48 : Int32)), ((pt + 1) + 1, (0 : Int32))) else (((((10 : Int32) * ((((10 : Int32) * (((0 : Int32) + (om_text pt)) - (48 : Int32))) + (om_text (pt + 1))) - (48 : Int32))) + (om_text ((pt + 1) + 1))) - (48 : Int32)), (((pt + 1) + 1) + 1, (0 : Int32)))))) else ((0 : Int32), (pt, (1 : Int32)))
set_option maxHeartbeats 4000000 in
set_option maxRecDepth 100000 in
theorem c_X7_numberd3 (l : Launch) (D : va_G) (cy : Nat → ClassId) (om : Nat → Nat) (om_thrown : Int32) (om_s : Nat → Int32) (om_kept : Nat → Int32) (om_aside : Nat → Int32) (om_isKept : Int32) (om_reaches : Nat → Int32) (om_ringOf : Nat → Int32) (om_rungOf : Nat → Int32) (om_rings : Nat → Int32) (om_ringMany : Int32) (om_paid : Nat → Int32) (om_leftOf : Nat → Int32) (om_ringPaid : Nat → Int32) (om_paidAll : Int32) (om_mosts : Nat → Int32) (om_text : Nat → Int32) (om_isWrong : Int32) (om_clauses : Int32) (om_letters : Nat → Int32) (om_one : Nat → Int32) (om_two : Nat → Int32) (om_three : Nat → Int32) (om_whys : Nat → Int32) (om_backs : Nat → Int32) (om_sorts : Nat → Int32) (om_sizes : Nat → Int32) (om_items : Nat → Int64) (ln : Nat) (pt : Nat) (hln : ln ≤ 100) (hpt : pt ≤ ln) : RwI (S := Nat × Int32) l D cy yX7_number (.code yX7_number cX7_number 4 (some .int)) 1 (wX7 cy om om_thrown om_s om_kept om_aside om_isKept om_reaches om_ringOf om_rungOf om_rings om_ringMany om_paid om_leftOf om_ringPaid om_paidAll om_mosts om_text (nI ln) (nI pt) om_isWrong om_clauses om_letters om_one om_two om_three om_whys om_backs om_sorts om_sizes om_items) [.ref (om 0), .int (3 : Int32)] (fun rr u => (rr, u) = f_X7_numberd3 om_text om_isWrong ln pt) (fun u => wX7 cy om om_thrown om_s om_kept om_aside om_isKept om_reaches om_ringOf om_rungOf om_rings om_ringMany om_paid om_leftOf om_ringPaid om_paidAll om_mosts om_text (nI ln) (nI u.1) u.2 om_clauses om_letters om_one om_two om_three om_whys om_backs om_sorts om_sizes om_items) := by
  intro sz
  refine Met.ofW (cc := cX7_number) (maxL := 4) (ret := (some .int)) (by decide) rfl ?_
  intro pP eE s0 mM args below meth cC s₁ B hml hv
  obtain ⟨rfl, hsz, hP, hKX, hD0⟩ := hv
  have hx := B.exec
  have hb := B.bytes
  have hr := B.returns
  have hG := gw_hts (atoms_spec (ws := _) B.pre)
  have hown : s0.vm.findClass RX7 = some mM.cls := findClass_of_methodNamed B.named
  have hlocks := B.notSynchronized
  subst hsz
  have hD := hD0.self (sz := s0.heap.size)
  generalize hAe : va_A (wX7 cy om om_thrown om_s om_kept om_aside om_isKept om_reaches om_ringOf om_rungOf om_rings om_ringMany om_paid om_leftOf om_ringPaid om_paidAll om_mosts om_text (nI ln) (nI pt) om_isWrong om_clauses om_letters om_one om_two om_three om_whys om_backs om_sorts om_sizes om_items) s0.heap.size = A at hD ⊢
  have hA : ∀ q : Nat, s0.heap.size ≤ q → A q := fun q h => by rw [← hAe]; exact Or.inr h
  have hS : va_S A s0.heap s0.heap [] := va_S.rf
  have hl := lv_entry ([.ref (om 0), .int (3 : Int32)]) (n := 4) (Nat.le_of_ble_eq_true rfl)
  rw [lg_entry_eq]
  generalize (lg_sl ([.ref (om 0), .int (3 : Int32)]) ++ List.replicate (4 - (lg_sl ([.ref (om 0), .int (3 : Int32)])).length) Slot.unset).toArray = ls at hl ⊢
  have hl : lv_has ls 4 [(0, .ref (om 0)), (1, .int (3 : Int32))] := hl
  refine lv_iconst (v := (0 : Int32)) hx hb dX7_number_0 (by decide) ?_
  refine lv_istore_n (lv' := [(2, .int (0 : Int32)), (0, .ref (om 0)), (1, .int (3 : Int32))]) hx hb dX7_number_1 rfl hl (by decide) rfl (fun ls hl => ?_)
  refine lv_iconst (v := (0 : Int32)) hx hb dX7_number_2 (by decide) ?_
  refine lv_istore_n (lv' := [(3, .int (0 : Int32)), (2, .int (0 : Int32)), (0, .ref (om 0)), (1, .int (3 : Int32))]) hx hb dX7_number_3 rfl hl (by decide) rfl (fun ls hl => ?_)
  refine lv_aload_n hx hb dX7_number_4 rfl (lv_at hl 2 rfl) ?_
  refine gf_X7_162 hx hb hG hown hKX hP 0 rfl rfl dX7_number_5 ?_
  refine lv_if_ne (tgt := 67) hx hb dX7_number_8 (by decide) (fun c1 => ?_) (fun c1 => ?_)
  · refine lv_aload_n hx hb dX7_number_67 rfl (lv_at hl 2 rfl) ?_
    refine lv_aload_n hx hb dX7_number_68 rfl (lv_at hl 2 rfl) ?_
    refine gf_X7_162 hx hb hG hown hKX hP 0 rfl rfl dX7_number_69 ?_
    refine lv_if_ne (tgt := 79) hx hb dX7_number_72 (by decide) (fun _ => ?_) (fun c2 => absurd c2 c1)
    refine lv_iconst (v := (1 : Int32)) hx hb dX7_number_79 (by decide) ?_
    refine lv_goto (tgt := 84) hx hb dX7_number_80 (by decide) ?_
    refine pf_X7_162 hx hb hG hown hKX hP hD hS 0 rfl rfl rfl (Nat.le_of_ble_eq_true rfl) dX7_number_84 (wn := wX7 cy om om_thrown om_s om_kept om_aside om_isKept om_reaches om_ringOf om_rungOf om_rings om_ringMany om_paid om_leftOf om_ringPaid om_paidAll om_mosts om_text (nI ln) (nI pt) (1 : Int32) om_clauses om_letters om_one om_two om_three om_whys om_backs om_sorts om_sizes om_items) rfl (fun H locs hP hD hS => ?_)
    refine lv_iload_n hx hb dX7_number_87 rfl (lv_at hl 1 rfl) ?_
    exact W.iret (v := (0 : Int32)) hx hb hr (fun t ht hW => ⟨⟨(0 : Int32), (pt, (1 : Int32)), rfl, by unfold f_X7_numberd3; rw [if_neg c1] <;> rfl, by rw [ht]; exact hP, hD⟩, hS.F ht⟩) hS.2.2 dX7_number_88
  · refine lv_iload_n hx hb dX7_number_11 rfl (lv_at hl 0 rfl) ?_
    refine lv_iload_n hx hb dX7_number_12 rfl (lv_at hl 3 rfl) ?_
    refine lv_icmp_ge (tgt := 67) hx hb dX7_number_13 (by decide) (fun c3 => absurd c3 (by decide)) (fun c3 => ?_)
    refine lv_aload_n hx hb dX7_number_16 rfl (lv_at hl 2 rfl) ?_
    refine cRoV (q0 := 0) (ci := 7) mw19_6 mw19_7 mw19_8 mw1_5 mw19_9 rfl rfl hd_X7_here hx hb hml hown hG hKX (c_X7_here l D cy om om_thrown om_s om_kept om_aside om_isKept om_reaches om_ringOf om_rungOf om_rings om_ringMany om_paid om_leftOf om_ringPaid om_paidAll om_mosts om_text om_isWrong om_clauses om_letters om_one om_two om_three om_whys om_backs om_sorts om_sizes om_items ln pt hln hpt) ⟨Nat.le_of_ble_eq_true rfl, Nat.le_of_ble_eq_true rfl⟩ ⟨Nat.zero_le _, Nat.zero_le _⟩ hP rfl rfl hl.1 rfl (Nat.le_of_ble_eq_true rfl) dX7_number_17 ?_
    refine lv_i2l (v := (((f_X7_here om_text ln pt)).toInt64)) hx hb dX7_number_20 rfl ?_
    refine lv_ldc2 (v := (48 : Int64)) hx hb hown (hG _ mw19_14) dX7_number_21 ?_
    refine lv_ldc2 (v := (57 : Int64)) hx hb hown (hG _ mw19_15) dX7_number_24 ?_
    refine cRoS mw7_3 mw7_4 mw1_5 mw7_5 hd_X7_in hx hb hml hown hG hKX (c_X7_in l D cy (((f_X7_here om_text ln pt)).toInt64) (48 : Int64) (57 : Int64)) ⟨Nat.le_of_ble_eq_true rfl, Nat.le_of_ble_eq_true rfl⟩ ⟨Nat.zero_le _, Nat.zero_le _⟩ (hP.sub [] rfl) rfl hl.1 rfl (Nat.le_of_ble_eq_true rfl) dX7_number_27 ?_
    refine lv_if_eq (tgt := 67) hx hb dX7_number_30 (by decide) (fun c4 => ?_) (fun c4 => ?_)
    · refine lv_aload_n hx hb dX7_number_67 rfl (lv_at hl 2 rfl) ?_
      refine lv_aload_n hx hb dX7_number_68 rfl (lv_at hl 2 rfl) ?_
      refine gf_X7_162 hx hb hG hown hKX hP 0 rfl rfl dX7_number_69 ?_
      refine lv_if_ne (tgt := 79) hx hb dX7_number_72 (by decide) (fun c5 => absurd c1 c5) (fun _ => ?_)
      refine lv_iload_n hx hb dX7_number_75 rfl (lv_at hl 0 rfl) ?_
      refine lv_if_ne (tgt := 83) hx hb dX7_number_76 (by decide) (fun c6 => absurd (by decide) c6) (fun c6 => ?_)
      refine lv_iconst (v := (1 : Int32)) hx hb dX7_number_79 (by decide) ?_
      refine lv_goto (tgt := 84) hx hb dX7_number_80 (by decide) ?_
      refine pf_X7_162 hx hb hG hown hKX hP hD hS 0 rfl rfl rfl (Nat.le_of_ble_eq_true rfl) dX7_number_84 (wn := wX7 cy om om_thrown om_s om_kept om_aside om_isKept om_reaches om_ringOf om_rungOf om_rings om_ringMany om_paid om_leftOf om_ringPaid om_paidAll om_mosts om_text (nI ln) (nI pt) (1 : Int32) om_clauses om_letters om_one om_two om_three om_whys om_backs om_sorts om_sizes om_items) rfl (fun H locs hP hD hS => ?_)
      refine lv_iload_n hx hb dX7_number_87 rfl (lv_at hl 1 rfl) ?_
      exact W.iret (v := (0 : Int32)) hx hb hr (fun t ht hW => ⟨⟨(0 : Int32), (pt, (1 : Int32)), rfl, by unfold f_X7_numberd3; rw [if_pos c1, if_pos c4] <;> rfl, by rw [ht]; exact hP, hD⟩, hS.F ht⟩) hS.2.2 dX7_number_88
    · have hat7 : pt < ln := here_in hln (by omega) c4
      refine lv_bipush (v := (10 : Int32)) hx hb dX7_number_33 (by decide) ?_
      refine lv_iload_n hx hb dX7_number_35 rfl (lv_at hl 1 rfl) ?_
      refine lv_imul hx hb dX7_number_36 ?_
      refine topi_eq (y := (0 : Int32)) (by decide) ?_
      refine lv_aload_n hx hb dX7_number_37 rfl (lv_at hl 2 rfl) ?_
      refine gf_X7_49 hx hb hG hown hKX hP 0 rfl rfl dX7_number_38 ?_
      refine lv_aload_n hx hb dX7_number_41 rfl (lv_at hl 2 rfl) ?_
      refine gf_X7_159 hx hb hG hown hKX hP 0 rfl rfl dX7_number_42 ?_
      refine iald_n hx hb hKX hP 12 rfl rfl (by omega) (by decide) dX7_number_45 ?_
      refine lv_iadd hx hb dX7_number_46 ?_
      refine lv_bipush (v := (48 : Int32)) hx hb dX7_number_47 (by decide) ?_
      refine lv_isub hx hb dX7_number_49 ?_
      refine lv_istore_n (lv' := [(2, .int (((0 : Int32) + (om_text pt)) - (48 : Int32))), (3, .int (0 : Int32)), (0, .ref (om 0)), (1, .int (3 : Int32))]) hx hb dX7_number_50 rfl hl (by decide) rfl (fun ls hl => ?_)
      refine lv_aload_n hx hb dX7_number_51 rfl (lv_at hl 2 rfl) ?_
      refine lv_dup hx hb dX7_number_52 rfl ?_
      refine gf_X7_159 hx hb hG hown hKX hP 0 rfl rfl dX7_number_53 ?_
      refine lv_iconst (v := (1 : Int32)) hx hb dX7_number_56 (by decide) ?_
      refine lv_iadd hx hb dX7_number_57 ?_
      refine topi_eq (y := nI (pt + 1)) (aN rfl rfl) ?_
      refine pf_X7_159 hx hb hG hown hKX hP hD hS 0 rfl rfl rfl (Nat.le_of_ble_eq_true rfl) dX7_number_58 (wn := wX7 cy om om_thrown om_s om_kept om_aside om_isKept om_reaches om_ringOf om_rungOf om_rings om_ringMany om_paid om_leftOf om_ringPaid om_paidAll om_mosts om_text (nI ln) (nI (pt + 1)) om_isWrong om_clauses om_letters om_one om_two om_three om_whys om_backs om_sorts om_sizes om_items) rfl (fun H locs hP hD hS => ?_)
      refine lv_iinc (v := (1 : Int32)) (lv' := [(3, .int (1 : Int32)), (2, .int (((0 : Int32) + (om_text pt)) - (48 : Int32))), (0, .ref (om 0)), (1, .int (3 : Int32))]) hx hb dX7_number_61 hl (k := 1) rfl (by decide) (by decide) rfl (fun ls hl => ?_)
      refine lv_goto (tgt := 4) hx hb dX7_number_64 (by decide) ?_
      refine lv_aload_n hx hb dX7_number_4 rfl (lv_at hl 2 rfl) ?_
      refine gf_X7_162 hx hb hG hown hKX hP 0 rfl rfl dX7_number_5 ?_
      refine lv_if_ne (tgt := 67) hx hb dX7_number_8 (by decide) (fun c8 => absurd c1 c8) (fun _ => ?_)
      refine lv_iload_n hx hb dX7_number_11 rfl (lv_at hl 0 rfl) ?_
      refine lv_iload_n hx hb dX7_number_12 rfl (lv_at hl 3 rfl) ?_
      refine lv_icmp_ge (tgt := 67) hx hb dX7_number_13 (by decide) (fun c9 => absurd c9 (by decide)) (fun c9 => ?_)
      refine lv_aload_n hx hb dX7_number_16 rfl (lv_at hl 2 rfl) ?_
      refine cRoV (q0 := 0) (ci := 7) mw19_6 mw19_7 mw19_8 mw1_5 mw19_9 rfl rfl hd_X7_here hx hb hml hown hG hKX (c_X7_here l D cy om om_thrown om_s om_kept om_aside om_isKept om_reaches om_ringOf om_rungOf om_rings om_ringMany om_paid om_leftOf om_ringPaid om_paidAll om_mosts om_text om_isWrong om_clauses om_letters om_one om_two om_three om_whys om_backs om_sorts om_sizes om_items ln (pt + 1) hln (by omega)) ⟨Nat.le_of_ble_eq_true rfl, Nat.le_of_ble_eq_true rfl⟩ ⟨Nat.zero_le _, Nat.zero_le _⟩ hP rfl rfl hl.1 rfl (Nat.le_of_ble_eq_true rfl) dX7_number_17 ?_
      refine lv_i2l (v := (((f_X7_here om_text ln (pt + 1))).toInt64)) hx hb dX7_number_20 rfl ?_
      refine lv_ldc2 (v := (48 : Int64)) hx hb hown (hG _ mw19_14) dX7_number_21 ?_
      refine lv_ldc2 (v := (57 : Int64)) hx hb hown (hG _ mw19_15) dX7_number_24 ?_
      refine cRoS mw7_3 mw7_4 mw1_5 mw7_5 hd_X7_in hx hb hml hown hG hKX (c_X7_in l D cy (((f_X7_here om_text ln (pt + 1))).toInt64) (48 : Int64) (57 : Int64)) ⟨Nat.le_of_ble_eq_true rfl, Nat.le_of_ble_eq_true rfl⟩ ⟨Nat.zero_le _, Nat.zero_le _⟩ (hP.sub [] rfl) rfl hl.1 rfl (Nat.le_of_ble_eq_true rfl) dX7_number_27 ?_
      refine lv_if_eq (tgt := 67) hx hb dX7_number_30 (by decide) (fun c10 => ?_) (fun c10 => ?_)
      · refine lv_aload_n hx hb dX7_number_67 rfl (lv_at hl 2 rfl) ?_
        refine lv_aload_n hx hb dX7_number_68 rfl (lv_at hl 2 rfl) ?_
        refine gf_X7_162 hx hb hG hown hKX hP 0 rfl rfl dX7_number_69 ?_
        refine lv_if_ne (tgt := 79) hx hb dX7_number_72 (by decide) (fun c11 => absurd c1 c11) (fun _ => ?_)
        refine lv_iload_n hx hb dX7_number_75 rfl (lv_at hl 0 rfl) ?_
        refine lv_if_ne (tgt := 83) hx hb dX7_number_76 (by decide) (fun c12 => ?_) (fun c12 => absurd c12 (by decide))
        refine lv_iconst (v := (0 : Int32)) hx hb dX7_number_83 (by decide) ?_
        refine pf_X7_162 hx hb hG hown hKX hP hD hS 0 rfl rfl rfl (Nat.le_of_ble_eq_true rfl) dX7_number_84 (wn := wX7 cy om om_thrown om_s om_kept om_aside om_isKept om_reaches om_ringOf om_rungOf om_rings om_ringMany om_paid om_leftOf om_ringPaid om_paidAll om_mosts om_text (nI ln) (nI (pt + 1)) (0 : Int32) om_clauses om_letters om_one om_two om_three om_whys om_backs om_sorts om_sizes om_items) rfl (fun H locs hP hD hS => ?_)
        refine lv_iload_n hx hb dX7_number_87 rfl (lv_at hl 1 rfl) ?_
        exact W.iret (v := (((0 : Int32) + (om_text pt)) - (48 : Int32))) hx hb hr (fun t ht hW => ⟨⟨(((0 : Int32) + (om_text pt)) - (48 : Int32)), (pt + 1, (0 : Int32)), rfl, by unfold f_X7_numberd3; rw [if_pos c1, if_neg c4, if_pos c10] <;> rfl, by rw [ht]; exact hP, hD⟩, hS.F ht⟩) hS.2.2 dX7_number_88
      · have hat13 : pt + 1 < ln := here_in hln (by omega) c10
        refine lv_bipush (v := (10 : Int32)) hx hb dX7_number_33 (by decide) ?_
        refine lv_iload_n hx hb dX7_number_35 rfl (lv_at hl 1 rfl) ?_
        refine lv_imul hx hb dX7_number_36 ?_
        refine lv_aload_n hx hb dX7_number_37 rfl (lv_at hl 2 rfl) ?_
        refine gf_X7_49 hx hb hG hown hKX hP 0 rfl rfl dX7_number_38 ?_
        refine lv_aload_n hx hb dX7_number_41 rfl (lv_at hl 2 rfl) ?_
        refine gf_X7_159 hx hb hG hown hKX hP 0 rfl rfl dX7_number_42 ?_
        refine iald_n hx hb hKX hP 12 rfl rfl (by omega) (by decide) dX7_number_45 ?_
        refine lv_iadd hx hb dX7_number_46 ?_
        refine lv_bipush (v := (48 : Int32)) hx hb dX7_number_47 (by decide) ?_
        refine lv_isub hx hb dX7_number_49 ?_
        refine lv_istore_n (lv' := [(2, .int ((((10 : Int32) * (((0 : Int32) + (om_text pt)) - (48 : Int32))) + (om_text (pt + 1))) - (48 : Int32))), (3, .int (1 : Int32)), (0, .ref (om 0)), (1, .int (3 : Int32))]) hx hb dX7_number_50 rfl hl (by decide) rfl (fun ls hl => ?_)
        refine lv_aload_n hx hb dX7_number_51 rfl (lv_at hl 2 rfl) ?_
        refine lv_dup hx hb dX7_number_52 rfl ?_
        refine gf_X7_159 hx hb hG hown hKX hP 0 rfl rfl dX7_number_53 ?_
        refine lv_iconst (v := (1 : Int32)) hx hb dX7_number_56 (by decide) ?_
        refine lv_iadd hx hb dX7_number_57 ?_
        refine topi_eq (y := nI ((pt + 1) + 1)) (aN rfl rfl) ?_
        refine pf_X7_159 hx hb hG hown hKX hP hD hS 0 rfl rfl rfl (Nat.le_of_ble_eq_true rfl) dX7_number_58 (wn := wX7 cy om om_thrown om_s om_kept om_aside om_isKept om_reaches om_ringOf om_rungOf om_rings om_ringMany om_paid om_leftOf om_ringPaid om_paidAll om_mosts om_text (nI ln) (nI ((pt + 1) + 1)) om_isWrong om_clauses om_letters om_one om_two om_three om_whys om_backs om_sorts om_sizes om_items) rfl (fun H locs hP hD hS => ?_)
        refine lv_iinc (v := (2 : Int32)) (lv' := [(3, .int (2 : Int32)), (2, .int ((((10 : Int32) * (((0 : Int32) + (om_text pt)) - (48 : Int32))) + (om_text (pt + 1))) - (48 : Int32))), (0, .ref (om 0)), (1, .int (3 : Int32))]) hx hb dX7_number_61 hl (k := 1) rfl (by decide) (by decide) rfl (fun ls hl => ?_)
        refine lv_goto (tgt := 4) hx hb dX7_number_64 (by decide) ?_
        refine lv_aload_n hx hb dX7_number_4 rfl (lv_at hl 2 rfl) ?_
        refine gf_X7_162 hx hb hG hown hKX hP 0 rfl rfl dX7_number_5 ?_
        refine lv_if_ne (tgt := 67) hx hb dX7_number_8 (by decide) (fun c14 => absurd c1 c14) (fun _ => ?_)
        refine lv_iload_n hx hb dX7_number_11 rfl (lv_at hl 0 rfl) ?_
        refine lv_iload_n hx hb dX7_number_12 rfl (lv_at hl 3 rfl) ?_
        refine lv_icmp_ge (tgt := 67) hx hb dX7_number_13 (by decide) (fun c15 => absurd c15 (by decide)) (fun c15 => ?_)
        refine lv_aload_n hx hb dX7_number_16 rfl (lv_at hl 2 rfl) ?_
        refine cRoV (q0 := 0) (ci := 7) mw19_6 mw19_7 mw19_8 mw1_5 mw19_9 rfl rfl hd_X7_here hx hb hml hown hG hKX (c_X7_here l D cy om om_thrown om_s om_kept om_aside om_isKept om_reaches om_ringOf om_rungOf om_rings om_ringMany om_paid om_leftOf om_ringPaid om_paidAll om_mosts om_text om_isWrong om_clauses om_letters om_one om_two om_three om_whys om_backs om_sorts om_sizes om_items ln ((pt + 1) + 1) hln (by omega)) ⟨Nat.le_of_ble_eq_true rfl, Nat.le_of_ble_eq_true rfl⟩ ⟨Nat.zero_le _, Nat.zero_le _⟩ hP rfl rfl hl.1 rfl (Nat.le_of_ble_eq_true rfl) dX7_number_17 ?_
        refine lv_i2l (v := (((f_X7_here om_text ln ((pt + 1) + 1))).toInt64)) hx hb dX7_number_20 rfl ?_
        refine lv_ldc2 (v := (48 : Int64)) hx hb hown (hG _ mw19_14) dX7_number_21 ?_
        refine lv_ldc2 (v := (57 : Int64)) hx hb hown (hG _ mw19_15) dX7_number_24 ?_
        refine cRoS mw7_3 mw7_4 mw1_5 mw7_5 hd_X7_in hx hb hml hown hG hKX (c_X7_in l D cy (((f_X7_here om_text ln ((pt + 1) + 1))).toInt64) (48 : Int64) (57 : Int64)) ⟨Nat.le_of_ble_eq_true rfl, Nat.le_of_ble_eq_true rfl⟩ ⟨Nat.zero_le _, Nat.zero_le _⟩ (hP.sub [] rfl) rfl hl.1 rfl (Nat.le_of_ble_eq_true rfl) dX7_number_27 ?_
        refine lv_if_eq (tgt := 67) hx hb dX7_number_30 (by decide) (fun c16 => ?_) (fun c16 => ?_)
        · refine lv_aload_n hx hb dX7_number_67 rfl (lv_at hl 2 rfl) ?_
          refine lv_aload_n hx hb dX7_number_68 rfl (lv_at hl 2 rfl) ?_
          refine gf_X7_162 hx hb hG hown hKX hP 0 rfl rfl dX7_number_69 ?_
          refine lv_if_ne (tgt := 79) hx hb dX7_number_72 (by decide) (fun c17 => absurd c1 c17) (fun _ => ?_)
          refine lv_iload_n hx hb dX7_number_75 rfl (lv_at hl 0 rfl) ?_
          refine lv_if_ne (tgt := 83) hx hb dX7_number_76 (by decide) (fun c18 => ?_) (fun c18 => absurd c18 (by decide))
          refine lv_iconst (v := (0 : Int32)) hx hb dX7_number_83 (by decide) ?_
          refine pf_X7_162 hx hb hG hown hKX hP hD hS 0 rfl rfl rfl (Nat.le_of_ble_eq_true rfl) dX7_number_84 (wn := wX7 cy om om_thrown om_s om_kept om_aside om_isKept om_reaches om_ringOf om_rungOf om_rings om_ringMany om_paid om_leftOf om_ringPaid om_paidAll om_mosts om_text (nI ln) (nI ((pt + 1) + 1)) (0 : Int32) om_clauses om_letters om_one om_two om_three om_whys om_backs om_sorts om_sizes om_items) rfl (fun H locs hP hD hS => ?_)
          refine lv_iload_n hx hb dX7_number_87 rfl (lv_at hl 1 rfl) ?_
          exact W.iret (v := ((((10 : Int32) * (((0 : Int32) + (om_text pt)) - (48 : Int32))) + (om_text (pt + 1))) - (48 : Int32))) hx hb hr (fun t ht hW => ⟨⟨((((10 : Int32) * (((0 : Int32) + (om_text pt)) - (48 : Int32))) + (om_text (pt + 1))) - (48 : Int32)), ((pt + 1) + 1, (0 : Int32)), rfl, by unfold f_X7_numberd3; rw [if_pos c1, if_neg c4, if_neg c10, if_pos c16] <;> rfl, by rw [ht]; exact hP, hD⟩, hS.F ht⟩) hS.2.2 dX7_number_88
        · have hat19 : (pt + 1) + 1 < ln := here_in hln (by omega) c16
          refine lv_bipush (v := (10 : Int32)) hx hb dX7_number_33 (by decide) ?_
          refine lv_iload_n hx hb dX7_number_35 rfl (lv_at hl 1 rfl) ?_
          refine lv_imul hx hb dX7_number_36 ?_
          refine lv_aload_n hx hb dX7_number_37 rfl (lv_at hl 2 rfl) ?_
          refine gf_X7_49 hx hb hG hown hKX hP 0 rfl rfl dX7_number_38 ?_
          refine lv_aload_n hx hb dX7_number_41 rfl (lv_at hl 2 rfl) ?_
          refine gf_X7_159 hx hb hG hown hKX hP 0 rfl rfl dX7_number_42 ?_
          refine iald_n hx hb hKX hP 12 rfl rfl (by omega) (by decide) dX7_number_45 ?_
          refine lv_iadd hx hb dX7_number_46 ?_
          refine lv_bipush (v := (48 : Int32)) hx hb dX7_number_47 (by decide) ?_
          refine lv_isub hx hb dX7_number_49 ?_
          refine lv_istore_n (lv' := [(2, .int ((((10 : Int32) * ((((10 : Int32) * (((0 : Int32) + (om_text pt)) - (48 : Int32))) + (om_text (pt + 1))) - (48 : Int32))) + (om_text ((pt + 1) + 1))) - (48 : Int32))), (3, .int (2 : Int32)), (0, .ref (om 0)), (1, .int (3 : Int32))]) hx hb dX7_number_50 rfl hl (by decide) rfl (fun ls hl => ?_)
          refine lv_aload_n hx hb dX7_number_51 rfl (lv_at hl 2 rfl) ?_
          refine lv_dup hx hb dX7_number_52 rfl ?_
          refine gf_X7_159 hx hb hG hown hKX hP 0 rfl rfl dX7_number_53 ?_
          refine lv_iconst (v := (1 : Int32)) hx hb dX7_number_56 (by decide) ?_
          refine lv_iadd hx hb dX7_number_57 ?_
          refine topi_eq (y := nI (((pt + 1) + 1) + 1)) (aN rfl rfl) ?_
          refine pf_X7_159 hx hb hG hown hKX hP hD hS 0 rfl rfl rfl (Nat.le_of_ble_eq_true rfl) dX7_number_58 (wn := wX7 cy om om_thrown om_s om_kept om_aside om_isKept om_reaches om_ringOf om_rungOf om_rings om_ringMany om_paid om_leftOf om_ringPaid om_paidAll om_mosts om_text (nI ln) (nI (((pt + 1) + 1) + 1)) om_isWrong om_clauses om_letters om_one om_two om_three om_whys om_backs om_sorts om_sizes om_items) rfl (fun H locs hP hD hS => ?_)
          refine lv_iinc (v := (3 : Int32)) (lv' := [(3, .int (3 : Int32)), (2, .int ((((10 : Int32) * ((((10 : Int32) * (((0 : Int32) + (om_text pt)) - (48 : Int32))) + (om_text (pt + 1))) - (48 : Int32))) + (om_text ((pt + 1) + 1))) - (48 : Int32))), (0, .ref (om 0)), (1, .int (3 : Int32))]) hx hb dX7_number_61 hl (k := 1) rfl (by decide) (by decide) rfl (fun ls hl => ?_)
          refine lv_goto (tgt := 4) hx hb dX7_number_64 (by decide) ?_
          refine lv_aload_n hx hb dX7_number_4 rfl (lv_at hl 2 rfl) ?_
          refine gf_X7_162 hx hb hG hown hKX hP 0 rfl rfl dX7_number_5 ?_
          refine lv_if_ne (tgt := 67) hx hb dX7_number_8 (by decide) (fun c20 => absurd c1 c20) (fun _ => ?_)
          refine lv_iload_n hx hb dX7_number_11 rfl (lv_at hl 0 rfl) ?_
          refine lv_iload_n hx hb dX7_number_12 rfl (lv_at hl 3 rfl) ?_
          refine lv_icmp_ge (tgt := 67) hx hb dX7_number_13 (by decide) (fun c21 => ?_) (fun c21 => absurd (by decide) c21)
          refine lv_aload_n hx hb dX7_number_67 rfl (lv_at hl 2 rfl) ?_
          refine lv_aload_n hx hb dX7_number_68 rfl (lv_at hl 2 rfl) ?_
          refine gf_X7_162 hx hb hG hown hKX hP 0 rfl rfl dX7_number_69 ?_
          refine lv_if_ne (tgt := 79) hx hb dX7_number_72 (by decide) (fun c22 => absurd c1 c22) (fun _ => ?_)
          refine lv_iload_n hx hb dX7_number_75 rfl (lv_at hl 0 rfl) ?_
          refine lv_if_ne (tgt := 83) hx hb dX7_number_76 (by decide) (fun c23 => ?_) (fun c23 => absurd c23 (by decide))
          refine lv_iconst (v := (0 : Int32)) hx hb dX7_number_83 (by decide) ?_
          refine pf_X7_162 hx hb hG hown hKX hP hD hS 0 rfl rfl rfl (Nat.le_of_ble_eq_true rfl) dX7_number_84 (wn := wX7 cy om om_thrown om_s om_kept om_aside om_isKept om_reaches om_ringOf om_rungOf om_rings om_ringMany om_paid om_leftOf om_ringPaid om_paidAll om_mosts om_text (nI ln) (nI (((pt + 1) + 1) + 1)) (0 : Int32) om_clauses om_letters om_one om_two om_three om_whys om_backs om_sorts om_sizes om_items) rfl (fun H locs hP hD hS => ?_)
          refine lv_iload_n hx hb dX7_number_87 rfl (lv_at hl 1 rfl) ?_
          exact W.iret (v := ((((10 : Int32) * ((((10 : Int32) * (((0 : Int32) + (om_text pt)) - (48 : Int32))) + (om_text (pt + 1))) - (48 : Int32))) + (om_text ((pt + 1) + 1))) - (48 : Int32))) hx hb hr (fun t ht hW => ⟨⟨((((10 : Int32) * ((((10 : Int32) * (((0 : Int32) + (om_text pt)) - (48 : Int32))) + (om_text (pt + 1))) - (48 : Int32))) + (om_text ((pt + 1) + 1))) - (48 : Int32)), (((pt + 1) + 1) + 1, (0 : Int32)), rfl, by unfold f_X7_numberd3; rw [if_pos c1, if_neg c4, if_neg c10, if_neg c16] <;> rfl, by rw [ht]; exact hP, hD⟩, hS.F ht⟩) hS.2.2 dX7_number_88
theorem numberd3_l {f : Nat → Int32} {w : Int32} {ln pt : Nat} (h : pt ≤ ln) (hl : ln ≤ 100) : (f_X7_numberd3 f w ln pt).2.1 ≤ ln := by
  have k0 : ¬ f_X7_in (f_X7_here f ln pt).toInt64 48 57 = 0 → pt + 1 ≤ ln := fun q => here_in hl h q
  have k1 : ¬ f_X7_in (f_X7_here f ln (pt + 1)).toInt64 48 57 = 0 → pt + 1 ≤ ln → pt + 1 + 1 ≤ ln := fun q r => here_in hl r q
  have k2 : ¬ f_X7_in (f_X7_here f ln (pt + 1 + 1)).toInt64 48 57 = 0 → pt + 1 + 1 ≤ ln → pt + 1 + 1 + 1 ≤ ln := fun q r => here_in hl r q
  unfold f_X7_numberd3
  repeat' refine iteP (P := fun x : Int32 × Nat × Int32 => x.2.1 ≤ ln) (fun _ => ?_) (fun _ => ?_)
  all_goals first
    | with_reducible exact h
    | with_reducible exact k0 (by assumption)
    | with_reducible exact k1 (by assumption) (k0 (by assumption))
    | with_reducible exact k2 (by assumption) (k1 (by assumption) (k0 (by assumption)))
theorem numberd3_le {f : Nat → Int32} {w : Int32} {ln pt : Nat} {r : Int32} {u : Nat × Int32} (hw : (r, u) = f_X7_numberd3 f w ln pt) (h : pt ≤ ln) (hl : ln ≤ 100) : u.1 ≤ ln := by
  rw [show u = (f_X7_numberd3 f w ln pt).2 from congrArg Prod.snd hw]
  exact numberd3_l h hl
def f_X7_comma (om_text : Nat → Int32) (om_isWrong : Int32) (ln : Nat) (pt : Nat) : Nat × Int32 :=
  if om_isWrong = (0 : Int32) then (if (f_X7_here om_text ln pt) = (44 : Int32) then (pt + 1, om_isWrong) else (pt, (1 : Int32))) else (pt, (1 : Int32))
set_option maxHeartbeats 4000000 in
set_option maxRecDepth 100000 in
theorem c_X7_comma (l : Launch) (D : va_G) (cy : Nat → ClassId) (om : Nat → Nat) (om_thrown : Int32) (om_s : Nat → Int32) (om_kept : Nat → Int32) (om_aside : Nat → Int32) (om_isKept : Int32) (om_reaches : Nat → Int32) (om_ringOf : Nat → Int32) (om_rungOf : Nat → Int32) (om_rings : Nat → Int32) (om_ringMany : Int32) (om_paid : Nat → Int32) (om_leftOf : Nat → Int32) (om_ringPaid : Nat → Int32) (om_paidAll : Int32) (om_mosts : Nat → Int32) (om_text : Nat → Int32) (om_isWrong : Int32) (om_clauses : Int32) (om_letters : Nat → Int32) (om_one : Nat → Int32) (om_two : Nat → Int32) (om_three : Nat → Int32) (om_whys : Nat → Int32) (om_backs : Nat → Int32) (om_sorts : Nat → Int32) (om_sizes : Nat → Int32) (om_items : Nat → Int64) (ln : Nat) (pt : Nat) (hln : ln ≤ 100) (hpt : pt ≤ ln) : RwV (S := Nat × Int32) l D cy yX7_comma (.code yX7_comma cX7_comma 1 none) 1 (wX7 cy om om_thrown om_s om_kept om_aside om_isKept om_reaches om_ringOf om_rungOf om_rings om_ringMany om_paid om_leftOf om_ringPaid om_paidAll om_mosts om_text (nI ln) (nI pt) om_isWrong om_clauses om_letters om_one om_two om_three om_whys om_backs om_sorts om_sizes om_items) [.ref (om 0)] (fun u => u = f_X7_comma om_text om_isWrong ln pt) (fun u => wX7 cy om om_thrown om_s om_kept om_aside om_isKept om_reaches om_ringOf om_rungOf om_rings om_ringMany om_paid om_leftOf om_ringPaid om_paidAll om_mosts om_text (nI ln) (nI u.1) u.2 om_clauses om_letters om_one om_two om_three om_whys om_backs om_sorts om_sizes om_items) := by
  intro sz
  refine Met.ofW (cc := cX7_comma) (maxL := 1) (ret := none) (by decide) rfl ?_
  intro pP eE s0 mM args below meth cC s₁ B hml hv
  obtain ⟨rfl, hsz, hP, hKX, hD0⟩ := hv
  have hx := B.exec
  have hb := B.bytes
  have hr := B.returns
  have hG := gw_hts (atoms_spec (ws := _) B.pre)
  have hown : s0.vm.findClass RX7 = some mM.cls := findClass_of_methodNamed B.named
  have hlocks := B.notSynchronized
  subst hsz
  have hD := hD0.self (sz := s0.heap.size)
  generalize hAe : va_A (wX7 cy om om_thrown om_s om_kept om_aside om_isKept om_reaches om_ringOf om_rungOf om_rings om_ringMany om_paid om_leftOf om_ringPaid om_paidAll om_mosts om_text (nI ln) (nI pt) om_isWrong om_clauses om_letters om_one om_two om_three om_whys om_backs om_sorts om_sizes om_items) s0.heap.size = A at hD ⊢
  have hA : ∀ q : Nat, s0.heap.size ≤ q → A q := fun q h => by rw [← hAe]; exact Or.inr h
  have hS : va_S A s0.heap s0.heap [] := va_S.rf
  have hl := lv_entry ([.ref (om 0)]) (n := 1) (Nat.le_of_ble_eq_true rfl)
  rw [lg_entry_eq]
  generalize (lg_sl ([.ref (om 0)]) ++ List.replicate (1 - (lg_sl ([.ref (om 0)])).length) Slot.unset).toArray = ls at hl ⊢
  have hl : lv_has ls 1 [(0, .ref (om 0))] := hl
  refine lv_aload_n hx hb dX7_comma_0 rfl (lv_at hl 0 rfl) ?_
  refine gf_X7_162 hx hb hG hown hKX hP 0 rfl rfl dX7_comma_1 ?_
  refine lv_if_ne (tgt := 16) hx hb dX7_comma_4 (by decide) (fun c1 => ?_) (fun c1 => ?_)
  · refine lv_aload_n hx hb dX7_comma_16 rfl (lv_at hl 0 rfl) ?_
    refine lv_iconst (v := (1 : Int32)) hx hb dX7_comma_17 (by decide) ?_
    refine pf_X7_162 hx hb hG hown hKX hP hD hS 0 rfl rfl rfl (Nat.le_of_ble_eq_true rfl) dX7_comma_18 (wn := wX7 cy om om_thrown om_s om_kept om_aside om_isKept om_reaches om_ringOf om_rungOf om_rings om_ringMany om_paid om_leftOf om_ringPaid om_paidAll om_mosts om_text (nI ln) (nI pt) (1 : Int32) om_clauses om_letters om_one om_two om_three om_whys om_backs om_sorts om_sizes om_items) rfl (fun H locs hP hD hS => ?_)
    exact W.vret hx hb hr (fun t ht hW => ⟨⟨(pt, (1 : Int32)), rfl, by unfold f_X7_comma; rw [if_neg c1] <;> rfl, by rw [ht]; exact hP, hD⟩, hS.F ht⟩) hS.2.2 dX7_comma_21
  · refine lv_aload_n hx hb dX7_comma_7 rfl (lv_at hl 0 rfl) ?_
    refine cRoV (q0 := 0) (ci := 7) mw19_6 mw19_7 mw19_8 mw1_5 mw19_9 rfl rfl hd_X7_here hx hb hml hown hG hKX (c_X7_here l D cy om om_thrown om_s om_kept om_aside om_isKept om_reaches om_ringOf om_rungOf om_rings om_ringMany om_paid om_leftOf om_ringPaid om_paidAll om_mosts om_text om_isWrong om_clauses om_letters om_one om_two om_three om_whys om_backs om_sorts om_sizes om_items ln pt hln hpt) ⟨Nat.le_of_ble_eq_true rfl, Nat.le_of_ble_eq_true rfl⟩ ⟨Nat.zero_le _, Nat.zero_le _⟩ hP rfl rfl hl.1 rfl (Nat.le_of_ble_eq_true rfl) dX7_comma_8 ?_
    refine lv_bipush (v := (44 : Int32)) hx hb dX7_comma_11 (by decide) ?_
    refine lv_icmp_eq (tgt := 22) hx hb dX7_comma_13 (by decide) (fun c2 => ?_) (fun c2 => ?_)
    · have hat3 : pt < ln := here_eq hln (by omega) (by decide) c2
      refine lv_aload_n hx hb dX7_comma_22 rfl (lv_at hl 0 rfl) ?_
      refine lv_dup hx hb dX7_comma_23 rfl ?_
      refine gf_X7_159 hx hb hG hown hKX hP 0 rfl rfl dX7_comma_24 ?_
      refine lv_iconst (v := (1 : Int32)) hx hb dX7_comma_27 (by decide) ?_
      refine lv_iadd hx hb dX7_comma_28 ?_
      refine topi_eq (y := nI (pt + 1)) (aN rfl rfl) ?_
      refine pf_X7_159 hx hb hG hown hKX hP hD hS 0 rfl rfl rfl (Nat.le_of_ble_eq_true rfl) dX7_comma_29 (wn := wX7 cy om om_thrown om_s om_kept om_aside om_isKept om_reaches om_ringOf om_rungOf om_rings om_ringMany om_paid om_leftOf om_ringPaid om_paidAll om_mosts om_text (nI ln) (nI (pt + 1)) om_isWrong om_clauses om_letters om_one om_two om_three om_whys om_backs om_sorts om_sizes om_items) rfl (fun H locs hP hD hS => ?_)
      exact W.vret hx hb hr (fun t ht hW => ⟨⟨(pt + 1, om_isWrong), rfl, by unfold f_X7_comma; rw [if_pos c1, if_pos c2] <;> rfl, by rw [ht]; exact hP, hD⟩, hS.F ht⟩) hS.2.2 dX7_comma_32
    · refine lv_aload_n hx hb dX7_comma_16 rfl (lv_at hl 0 rfl) ?_
      refine lv_iconst (v := (1 : Int32)) hx hb dX7_comma_17 (by decide) ?_
      refine pf_X7_162 hx hb hG hown hKX hP hD hS 0 rfl rfl rfl (Nat.le_of_ble_eq_true rfl) dX7_comma_18 (wn := wX7 cy om om_thrown om_s om_kept om_aside om_isKept om_reaches om_ringOf om_rungOf om_rings om_ringMany om_paid om_leftOf om_ringPaid om_paidAll om_mosts om_text (nI ln) (nI pt) (1 : Int32) om_clauses om_letters om_one om_two om_three om_whys om_backs om_sorts om_sizes om_items) rfl (fun H locs hP hD hS => ?_)
      exact W.vret hx hb hr (fun t ht hW => ⟨⟨(pt, (1 : Int32)), rfl, by unfold f_X7_comma; rw [if_pos c1, if_neg c2] <;> rfl, by rw [ht]; exact hP, hD⟩, hS.F ht⟩) hS.2.2 dX7_comma_21
