theorem comma_l {f : Nat → Int32} {w : Int32} {ln pt : Nat} (h : pt ≤ ln) (hl : ln ≤ 100) : (f_X7_comma f w ln pt).1 ≤ ln := by
  unfold f_X7_comma
  refine iteP (P := fun x : Nat × Int32 => x.1 ≤ ln) (fun _ => ?_) (fun _ => h)
  exact iteP (P := fun x : Nat × Int32 => x.1 ≤ ln) (fun q => here_eq hl h (by decide) q) (fun _ => h)
theorem comma_le {f : Nat → Int32} {w : Int32} {ln pt : Nat} {u : Nat × Int32} (hw : u = f_X7_comma f w ln pt) (h : pt ≤ ln) (hl : ln ≤ 100) : u.1 ≤ ln := by
  rw [hw]
  exact comma_l h hl
def f_X7_clause (om_text : Nat → Int32) (om_isWrong : Int32) (om_letters : Nat → Int32) (om_one : Nat → Int32) (om_two : Nat → Int32) (om_three : Nat → Int32) (ln : Nat) (pt : Nat) (cl : Nat) : Nat × Int32 × Nat × (Nat → Int32) × (Nat → Int32) × (Nat → Int32) × (Nat → Int32) :=
  if nI cl = (12 : Int32) then (pt, (1 : Int32), cl, om_letters, om_one, om_two, om_three) else (if (f_X7_here om_text ln pt) = (99 : Int32) then ((f_X7_numberd2 om_text (f_X7_comma om_text (f_X7_numberd2 om_text (f_X7_numberd1 om_text om_isWrong ln (pt + 1)).2.2 ln (f_X7_numberd1 om_text om_isWrong ln (pt + 1)).2.1).2.2 ln (f_X7_numberd2 om_text (f_X7_numberd1 om_text om_isWrong ln (pt + 1)).2.2 ln (f_X7_numberd1 om_text om_isWrong ln (pt + 1)).2.1).2.1).2 ln (f_X7_comma om_text (f_X7_numberd2 om_text (f_X7_numberd1 om_text om_isWrong ln (pt + 1)).2.2 ln (f_X7_numberd1 om_text om_isWrong ln (pt + 1)).2.1).2.2 ln (f_X7_numberd2 om_text (f_X7_numberd1 om_text om_isWrong ln (pt + 1)).2.2 ln (f_X7_numberd1 om_text om_isWrong ln (pt + 1)).2.1).2.1).1).2.1, (f_X7_numberd2 om_text (f_X7_comma om_text (f_X7_numberd2 om_text (f_X7_numberd1 om_text om_isWrong ln (pt + 1)).2.2 ln (f_X7_numberd1 om_text om_isWrong ln (pt + 1)).2.1).2.2 ln (f_X7_numberd2 om_text (f_X7_numberd1 om_text om_isWrong ln (pt + 1)).2.2 ln (f_X7_numberd1 om_text om_isWrong ln (pt + 1)).2.1).2.1).2 ln (f_X7_comma om_text (f_X7_numberd2 om_text (f_X7_numberd1 om_text om_isWrong ln (pt + 1)).2.2 ln (f_X7_numberd1 om_text om_isWrong ln (pt + 1)).2.1).2.2 ln (f_X7_numberd2 om_text (f_X7_numberd1 om_text om_isWrong ln (pt + 1)).2.2 ln (f_X7_numberd1 om_text om_isWrong ln (pt + 1)).2.1).2.1).1).2.2, cl + 1, upd om_letters cl (f_X7_here om_text ln pt), upd om_one cl (f_X7_numberd1 om_text om_isWrong ln (pt + 1)).1, upd om_two cl (f_X7_numberd2 om_text (f_X7_numberd1 om_text om_isWrong ln (pt + 1)).2.2 ln (f_X7_numberd1 om_text om_isWrong ln (pt + 1)).2.1).1, upd om_three cl (f_X7_numberd2 om_text (f_X7_comma om_text (f_X7_numberd2 om_text (f_X7_numberd1 om_text om_isWrong ln (pt + 1)).2.2 ln (f_X7_numberd1 om_text om_isWrong ln (pt + 1)).2.1).2.2 ln (f_X7_numberd2 om_text (f_X7_numberd1 om_text om_isWrong ln (pt + 1)).2.2 ln (f_X7_numberd1 om_text om_isWrong ln (pt + 1)).2.1).2.1).2 ln (f_X7_comma om_text (f_X7_numberd2 om_text (f_X7_numberd1 om_text om_isWrong ln (pt + 1)).2.2 ln (f_X7_numberd1 om_text om_isWrong ln (pt + 1)).2.1).2.2 ln (f_X7_numberd2 om_text (f_X7_numberd1 om_text om_isWrong ln (pt + 1)).2.2 ln (f_X7_numberd1 om_text om_isWrong ln (pt + 1)).2.1).2.1).1).1) else (if (f_X7_here om_text ln pt) = (114 : Int32) then ((f_X7_numberd1 om_text (f_X7_numberd1 om_text om_isWrong ln (pt + 1)).2.2 ln (f_X7_numberd1 om_text om_isWrong ln (pt + 1)).2.1).2.1, (f_X7_numberd1 om_text (f_X7_numberd1 om_text om_isWrong ln (pt + 1)).2.2 ln (f_X7_numberd1 om_text om_isWrong ln (pt + 1)).2.1).2.2, cl + 1, upd om_letters cl (f_X7_here om_text ln pt), upd om_one cl (f_X7_numberd1 om_text om_isWrong ln (pt + 1)).1, upd om_two cl (f_X7_numberd1 om_text (f_X7_numberd1 om_text om_isWrong ln (pt + 1)).2.2 ln (f_X7_numberd1 om_text om_isWrong ln (pt + 1)).2.1).1, upd om_three cl (0 : Int32)) else (if (f_X7_here om_text ln pt) = (110 : Int32) then ((f_X7_numberd1 om_text (f_X7_numberd1 om_text om_isWrong ln (pt + 1)).2.2 ln (f_X7_numberd1 om_text om_isWrong ln (pt + 1)).2.1).2.1, (f_X7_numberd1 om_text (f_X7_numberd1 om_text om_isWrong ln (pt + 1)).2.2 ln (f_X7_numberd1 om_text om_isWrong ln (pt + 1)).2.1).2.2, cl + 1, upd om_letters cl (f_X7_here om_text ln pt), upd om_one cl (f_X7_numberd1 om_text om_isWrong ln (pt + 1)).1, upd om_two cl (f_X7_numberd1 om_text (f_X7_numberd1 om_text om_isWrong ln (pt + 1)).2.2 ln (f_X7_numberd1 om_text om_isWrong ln (pt + 1)).2.1).1, upd om_three cl (0 : Int32)) else (if (f_X7_here om_text ln pt) = (113 : Int32) then ((f_X7_numberd3 om_text (f_X7_numberd1 om_text om_isWrong ln (pt + 1)).2.2 ln (f_X7_numberd1 om_text om_isWrong ln (pt + 1)).2.1).2.1, (f_X7_numberd3 om_text (f_X7_numberd1 om_text om_isWrong ln (pt + 1)).2.2 ln (f_X7_numberd1 om_text om_isWrong ln (pt + 1)).2.1).2.2, cl + 1, upd om_letters cl (f_X7_here om_text ln pt), upd om_one cl (f_X7_numberd1 om_text om_isWrong ln (pt + 1)).1, upd om_two cl (f_X7_numberd3 om_text (f_X7_numberd1 om_text om_isWrong ln (pt + 1)).2.2 ln (f_X7_numberd1 om_text om_isWrong ln (pt + 1)).2.1).1, upd om_three cl (0 : Int32)) else (if (f_X7_here om_text ln pt) = (108 : Int32) then ((f_X7_numberd3 om_text om_isWrong ln (pt + 1)).2.1, (f_X7_numberd3 om_text om_isWrong ln (pt + 1)).2.2, cl + 1, upd om_letters cl (f_X7_here om_text ln pt), upd om_one cl (f_X7_numberd3 om_text om_isWrong ln (pt + 1)).1, upd om_two cl (0 : Int32), upd om_three cl (0 : Int32)) else (pt, (1 : Int32), cl, om_letters, om_one, om_two, om_three))))))
set_option maxHeartbeats 4000000 in
set_option maxRecDepth 100000 in
theorem c_X7_clause (l : Launch) (D : va_G) (cy : Nat → ClassId) (om : Nat → Nat) (om_thrown : Int32) (om_s : Nat → Int32) (om_kept : Nat → Int32) (om_aside : Nat → Int32) (om_isKept : Int32) (om_reaches : Nat → Int32) (om_ringOf : Nat → Int32) (om_rungOf : Nat → Int32) (om_rings : Nat → Int32) (om_ringMany : Int32) (om_paid : Nat → Int32) (om_leftOf : Nat → Int32) (om_ringPaid : Nat → Int32) (om_paidAll : Int32) (om_mosts : Nat → Int32) (om_text : Nat → Int32) (om_isWrong : Int32) (om_letters : Nat → Int32) (om_one : Nat → Int32) (om_two : Nat → Int32) (om_three : Nat → Int32) (om_whys : Nat → Int32) (om_backs : Nat → Int32) (om_sorts : Nat → Int32) (om_sizes : Nat → Int32) (om_items : Nat → Int64) (ln : Nat) (pt : Nat) (cl : Nat) (hln : ln ≤ 100) (hpt : pt ≤ ln) (hcl : cl ≤ 12) : RwV (S := Nat × Int32 × Nat × (Nat → Int32) × (Nat → Int32) × (Nat → Int32) × (Nat → Int32)) l D cy yX7_clause (.code yX7_clause cX7_clause 2 none) 2 (wX7 cy om om_thrown om_s om_kept om_aside om_isKept om_reaches om_ringOf om_rungOf om_rings om_ringMany om_paid om_leftOf om_ringPaid om_paidAll om_mosts om_text (nI ln) (nI pt) om_isWrong (nI cl) om_letters om_one om_two om_three om_whys om_backs om_sorts om_sizes om_items) [.ref (om 0)] (fun u => u = f_X7_clause om_text om_isWrong om_letters om_one om_two om_three ln pt cl) (fun u => wX7 cy om om_thrown om_s om_kept om_aside om_isKept om_reaches om_ringOf om_rungOf om_rings om_ringMany om_paid om_leftOf om_ringPaid om_paidAll om_mosts om_text (nI ln) (nI u.1) u.2.1 (nI u.2.2.1) u.2.2.2.1 u.2.2.2.2.1 u.2.2.2.2.2.1 u.2.2.2.2.2.2 om_whys om_backs om_sorts om_sizes om_items) := by
  intro sz
  refine Met.ofW (cc := cX7_clause) (maxL := 2) (ret := none) (by decide) rfl ?_
  intro pP eE s0 mM args below meth cC s₁ B hml hv
  obtain ⟨rfl, hsz, hP, hKX, hD0⟩ := hv
  have hx := B.exec
  have hb := B.bytes
  have hr := B.returns
  have hG := gw_hts (atoms_spec (ws := _) B.pre)
  have hown : s0.vm.findClass RX7 = some mM.cls := findClass_of_methodNamed B.named
  have hlocks := B.notSynchronized
  subst hsz
  have hD := hD0.self (sz := s0.heap.size)
  generalize hAe : va_A (wX7 cy om om_thrown om_s om_kept om_aside om_isKept om_reaches om_ringOf om_rungOf om_rings om_ringMany om_paid om_leftOf om_ringPaid om_paidAll om_mosts om_text (nI ln) (nI pt) om_isWrong (nI cl) om_letters om_one om_two om_three om_whys om_backs om_sorts om_sizes om_items) s0.heap.size = A at hD ⊢
  have hA : ∀ q : Nat, s0.heap.size ≤ q → A q := fun q h => by rw [← hAe]; exact Or.inr h
  have hS : va_S A s0.heap s0.heap [] := va_S.rf
  have hl := lv_entry ([.ref (om 0)]) (n := 2) (Nat.le_of_ble_eq_true rfl)
  rw [lg_entry_eq]
  generalize (lg_sl ([.ref (om 0)]) ++ List.replicate (2 - (lg_sl ([.ref (om 0)])).length) Slot.unset).toArray = ls at hl ⊢
  have hl : lv_has ls 2 [(0, .ref (om 0))] := hl
  refine lv_aload_n hx hb dX7_clause_0 rfl (lv_at hl 0 rfl) ?_
  refine cRoV (q0 := 0) (ci := 7) mw19_6 mw19_7 mw19_8 mw1_5 mw19_9 rfl rfl hd_X7_here hx hb hml hown hG hKX (c_X7_here l D cy om om_thrown om_s om_kept om_aside om_isKept om_reaches om_ringOf om_rungOf om_rings om_ringMany om_paid om_leftOf om_ringPaid om_paidAll om_mosts om_text om_isWrong (nI cl) om_letters om_one om_two om_three om_whys om_backs om_sorts om_sizes om_items ln pt hln hpt) ⟨Nat.le_of_ble_eq_true rfl, Nat.le_of_ble_eq_true rfl⟩ ⟨Nat.zero_le _, Nat.zero_le _⟩ hP rfl rfl hl.1 rfl (Nat.le_of_ble_eq_true rfl) dX7_clause_1 ?_
  refine lv_istore_n (lv' := [(1, .int (f_X7_here om_text ln pt)), (0, .ref (om 0))]) hx hb dX7_clause_4 rfl hl (by decide) rfl (fun ls hl => ?_)
  refine lv_aload_n hx hb dX7_clause_5 rfl (lv_at hl 1 rfl) ?_
  refine gf_X7_174 hx hb hG hown hKX hP 0 rfl rfl dX7_clause_6 ?_
  refine lv_bipush (v := (12 : Int32)) hx hb dX7_clause_9 (by decide) ?_
  refine lv_icmp_eq (tgt := 44) hx hb dX7_clause_11 (by decide) (fun c1 => ?_) (fun c1 => ?_)
  · refine lv_aload_n hx hb dX7_clause_44 rfl (lv_at hl 1 rfl) ?_
    refine lv_iconst (v := (1 : Int32)) hx hb dX7_clause_45 (by decide) ?_
    refine pf_X7_162 hx hb hG hown hKX hP hD hS 0 rfl rfl rfl (Nat.le_of_ble_eq_true rfl) dX7_clause_46 (wn := wX7 cy om om_thrown om_s om_kept om_aside om_isKept om_reaches om_ringOf om_rungOf om_rings om_ringMany om_paid om_leftOf om_ringPaid om_paidAll om_mosts om_text (nI ln) (nI pt) (1 : Int32) (nI cl) om_letters om_one om_two om_three om_whys om_backs om_sorts om_sizes om_items) rfl (fun H locs hP hD hS => ?_)
    exact W.vret hx hb hr (fun t ht hW => ⟨⟨(pt, (1 : Int32), cl, om_letters, om_one, om_two, om_three), rfl, by unfold f_X7_clause; rw [if_pos c1] <;> rfl, by rw [ht]; exact hP, hD⟩, hS.F ht⟩) hS.2.2 dX7_clause_49
  · refine lv_iload_n hx hb dX7_clause_14 rfl (lv_at hl 0 rfl) ?_
    refine lv_bipush (v := (99 : Int32)) hx hb dX7_clause_15 (by decide) ?_
    refine lv_icmp_eq (tgt := 50) hx hb dX7_clause_17 (by decide) (fun c2 => ?_) (fun c2 => ?_)
    · have hat3 : pt < ln := here_eq hln hpt (by decide) c2
      have hcllt : cl < 12 := by have h9 : cl ≠ 12 := fun q9 => c1 (by rw [q9]; rfl); omega
      refine lv_aload_n hx hb dX7_clause_50 rfl (lv_at hl 1 rfl) ?_
      refine lv_dup hx hb dX7_clause_51 rfl ?_
      refine gf_X7_159 hx hb hG hown hKX hP 0 rfl rfl dX7_clause_52 ?_
      refine lv_iconst (v := (1 : Int32)) hx hb dX7_clause_55 (by decide) ?_
      refine lv_iadd hx hb dX7_clause_56 ?_
      refine topi_eq (y := nI (pt + 1)) (aN rfl rfl) ?_
      refine pf_X7_159 hx hb hG hown hKX hP hD hS 0 rfl rfl rfl (Nat.le_of_ble_eq_true rfl) dX7_clause_57 (wn := wX7 cy om om_thrown om_s om_kept om_aside om_isKept om_reaches om_ringOf om_rungOf om_rings om_ringMany om_paid om_leftOf om_ringPaid om_paidAll om_mosts om_text (nI ln) (nI (pt + 1)) om_isWrong (nI cl) om_letters om_one om_two om_three om_whys om_backs om_sorts om_sizes om_items) rfl (fun H locs hP hD hS => ?_)
      refine lv_aload_n hx hb dX7_clause_60 rfl (lv_at hl 1 rfl) ?_
      refine gf_X7_52 hx hb hG hown hKX hP 0 rfl rfl dX7_clause_61 ?_
      refine lv_aload_n hx hb dX7_clause_64 rfl (lv_at hl 1 rfl) ?_
      refine gf_X7_174 hx hb hG hown hKX hP 0 rfl rfl dX7_clause_65 ?_
      refine lv_iload_n hx hb dX7_clause_68 rfl (lv_at hl 0 rfl) ?_
      refine iast_n hx hb hKX hP hD hS 13 rfl rfl (by omega) (by decide) dX7_clause_69 (fun H locs hP hD hS => ?_)
      have hP : va_P D vwCl (wX7 cy om om_thrown om_s om_kept om_aside om_isKept om_reaches om_ringOf om_rungOf om_rings om_ringMany om_paid om_leftOf om_ringPaid om_paidAll om_mosts om_text (nI ln) (nI (pt + 1)) om_isWrong (nI cl) (upd om_letters cl (f_X7_here om_text ln pt)) om_one om_two om_three om_whys om_backs om_sorts om_sizes om_items) H := hP
      have hD : va_D A (wX7 cy om om_thrown om_s om_kept om_aside om_isKept om_reaches om_ringOf om_rungOf om_rings om_ringMany om_paid om_leftOf om_ringPaid om_paidAll om_mosts om_text (nI ln) (nI (pt + 1)) om_isWrong (nI cl) (upd om_letters cl (f_X7_here om_text ln pt)) om_one om_two om_three om_whys om_backs om_sorts om_sizes om_items) := hD
      refine lv_aload_n hx hb dX7_clause_70 rfl (lv_at hl 1 rfl) ?_
      refine gf_X7_55 hx hb hG hown hKX hP 0 rfl rfl dX7_clause_71 ?_
      refine lv_aload_n hx hb dX7_clause_74 rfl (lv_at hl 1 rfl) ?_
      refine gf_X7_174 hx hb hG hown hKX hP 0 rfl rfl dX7_clause_75 ?_
      refine lv_aload_n hx hb dX7_clause_78 rfl (lv_at hl 1 rfl) ?_
      refine lv_iload_n hx hb dX7_clause_79 rfl (lv_at hl 0 rfl) ?_
      refine lv_bipush (v := (108 : Int32)) hx hb dX7_clause_80 (by decide) ?_
      refine lv_icmp_ne (tgt := 89) hx hb dX7_clause_82 (by decide) (fun _ => ?_) (fun c4 => absurd c4 (fun qq_ => absurd (c2.symm.trans qq_) (by decide)))
      refine lv_iconst (v := (1 : Int32)) hx hb dX7_clause_89 (by decide) ?_
      refine cRwV (q0 := 0) (ci := 7) mw19_10 mw19_11 mw19_12 mw1_5 mw19_13 rfl rfl hd_X7_number hx hb hml hown hG hKX (c_X7_numberd1 l D cy om om_thrown om_s om_kept om_aside om_isKept om_reaches om_ringOf om_rungOf om_rings om_ringMany om_paid om_leftOf om_ringPaid om_paidAll om_mosts om_text om_isWrong (nI cl) (upd om_letters cl (f_X7_here om_text ln pt)) om_one om_two om_three om_whys om_backs om_sorts om_sizes om_items ln (pt + 1) hln (by omega)) ⟨Nat.le_of_ble_eq_true rfl, Nat.le_of_ble_eq_true rfl⟩ ⟨Nat.zero_le _, Nat.zero_le _⟩ hP hD hS hA [0, 1, 2, 3, 4, 5, 6, 7, 8, 9, 10, 11, 12, 13, 14, 15, 16, 17, 18, 19, 20, 21] [] [0, 1, 2, 3, 4, 5, 6, 7, 8, 9, 10, 11, 12, 13, 14, 15, 16, 17, 18, 19, 20, 21] (wr := []) (wn := fun u90 => wX7 cy om om_thrown om_s om_kept om_aside om_isKept om_reaches om_ringOf om_rungOf om_rings om_ringMany om_paid om_leftOf om_ringPaid om_paidAll om_mosts om_text (nI ln) (nI u90.1) u90.2 (nI cl) (upd om_letters cl (f_X7_here om_text ln pt)) om_one om_two om_three om_whys om_backs om_sorts om_sizes om_items) rfl (by decide) rfl (by decide) (by decide) (fun _ => rfl) (by decide) rfl rfl hl.1 rfl (Nat.le_of_ble_eq_true rfl) dX7_clause_90 (fun r90 u90 H locs hw90 hP hD hS => ?_)
      have hbu90 := numberd1_le hw90 (by omega) hln
      refine iast_n hx hb hKX hP hD hS 14 rfl rfl (by omega) (by decide) dX7_clause_93 (fun H locs hP hD hS => ?_)
      have hP : va_P D vwCl (wX7 cy om om_thrown om_s om_kept om_aside om_isKept om_reaches om_ringOf om_rungOf om_rings om_ringMany om_paid om_leftOf om_ringPaid om_paidAll om_mosts om_text (nI ln) (nI u90.1) u90.2 (nI cl) (upd om_letters cl (f_X7_here om_text ln pt)) (upd om_one cl r90) om_two om_three om_whys om_backs om_sorts om_sizes om_items) H := hP
      have hD : va_D A (wX7 cy om om_thrown om_s om_kept om_aside om_isKept om_reaches om_ringOf om_rungOf om_rings om_ringMany om_paid om_leftOf om_ringPaid om_paidAll om_mosts om_text (nI ln) (nI u90.1) u90.2 (nI cl) (upd om_letters cl (f_X7_here om_text ln pt)) (upd om_one cl r90) om_two om_three om_whys om_backs om_sorts om_sizes om_items) := hD
      refine lv_aload_n hx hb dX7_clause_94 rfl (lv_at hl 1 rfl) ?_
      refine gf_X7_58 hx hb hG hown hKX hP 0 rfl rfl dX7_clause_95 ?_
      refine lv_aload_n hx hb dX7_clause_98 rfl (lv_at hl 1 rfl) ?_
      refine gf_X7_174 hx hb hG hown hKX hP 0 rfl rfl dX7_clause_99 ?_
      refine lv_iload_n hx hb dX7_clause_102 rfl (lv_at hl 0 rfl) ?_
      refine lv_bipush (v := (108 : Int32)) hx hb dX7_clause_103 (by decide) ?_
      refine lv_icmp_ne (tgt := 112) hx hb dX7_clause_105 (by decide) (fun _ => ?_) (fun c5 => absurd c5 (fun qq_ => absurd (c2.symm.trans qq_) (by decide)))
      refine lv_aload_n hx hb dX7_clause_112 rfl (lv_at hl 1 rfl) ?_
      refine lv_iload_n hx hb dX7_clause_113 rfl (lv_at hl 0 rfl) ?_
      refine lv_bipush (v := (99 : Int32)) hx hb dX7_clause_114 (by decide) ?_
      refine lv_icmp_ne (tgt := 123) hx hb dX7_clause_116 (by decide) (fun c6 => absurd c2 c6) (fun _ => ?_)
      refine lv_iconst (v := (2 : Int32)) hx hb dX7_clause_119 (by decide) ?_
      refine lv_goto (tgt := 134) hx hb dX7_clause_120 (by decide) ?_
      refine cRwV (q0 := 0) (ci := 7) mw19_10 mw19_11 mw19_12 mw1_5 mw19_13 rfl rfl hd_X7_number hx hb hml hown hG hKX (c_X7_numberd2 l D cy om om_thrown om_s om_kept om_aside om_isKept om_reaches om_ringOf om_rungOf om_rings om_ringMany om_paid om_leftOf om_ringPaid om_paidAll om_mosts om_text u90.2 (nI cl) (upd om_letters cl (f_X7_here om_text ln pt)) (upd om_one cl r90) om_two om_three om_whys om_backs om_sorts om_sizes om_items ln u90.1 hln (by omega)) ⟨Nat.le_of_ble_eq_true rfl, Nat.le_of_ble_eq_true rfl⟩ ⟨Nat.zero_le _, Nat.zero_le _⟩ hP hD hS hA [0, 1, 2, 3, 4, 5, 6, 7, 8, 9, 10, 11, 12, 13, 14, 15, 16, 17, 18, 19, 20, 21] [] [0, 1, 2, 3, 4, 5, 6, 7, 8, 9, 10, 11, 12, 13, 14, 15, 16, 17, 18, 19, 20, 21] (wr := []) (wn := fun u134 => wX7 cy om om_thrown om_s om_kept om_aside om_isKept om_reaches om_ringOf om_rungOf om_rings om_ringMany om_paid om_leftOf om_ringPaid om_paidAll om_mosts om_text (nI ln) (nI u134.1) u134.2 (nI cl) (upd om_letters cl (f_X7_here om_text ln pt)) (upd om_one cl r90) om_two om_three om_whys om_backs om_sorts om_sizes om_items) rfl (by decide) rfl (by decide) (by decide) (fun _ => rfl) (by decide) rfl rfl hl.1 rfl (Nat.le_of_ble_eq_true rfl) dX7_clause_134 (fun r134 u134 H locs hw134 hP hD hS => ?_)
      have hbu134 := numberd2_le hw134 (by omega) hln
      refine iast_n hx hb hKX hP hD hS 15 rfl rfl (by omega) (by decide) dX7_clause_137 (fun H locs hP hD hS => ?_)
      have hP : va_P D vwCl (wX7 cy om om_thrown om_s om_kept om_aside om_isKept om_reaches om_ringOf om_rungOf om_rings om_ringMany om_paid om_leftOf om_ringPaid om_paidAll om_mosts om_text (nI ln) (nI u134.1) u134.2 (nI cl) (upd om_letters cl (f_X7_here om_text ln pt)) (upd om_one cl r90) (upd om_two cl r134) om_three om_whys om_backs om_sorts om_sizes om_items) H := hP
      have hD : va_D A (wX7 cy om om_thrown om_s om_kept om_aside om_isKept om_reaches om_ringOf om_rungOf om_rings om_ringMany om_paid om_leftOf om_ringPaid om_paidAll om_mosts om_text (nI ln) (nI u134.1) u134.2 (nI cl) (upd om_letters cl (f_X7_here om_text ln pt)) (upd om_one cl r90) (upd om_two cl r134) om_three om_whys om_backs om_sorts om_sizes om_items) := hD
      refine lv_iload_n hx hb dX7_clause_138 rfl (lv_at hl 0 rfl) ?_
      refine lv_bipush (v := (99 : Int32)) hx hb dX7_clause_139 (by decide) ?_
      refine lv_icmp_ne (tgt := 148) hx hb dX7_clause_141 (by decide) (fun c7 => absurd c2 c7) (fun _ => ?_)
      refine lv_aload_n hx hb dX7_clause_144 rfl (lv_at hl 1 rfl) ?_
      refine cRwVV (q0 := 0) (ci := 7) mw19_16 mw19_17 mw19_18 mw1_5 mw19_19 rfl rfl hd_X7_comma hx hb hml hown hG hKX (c_X7_comma l D cy om om_thrown om_s om_kept om_aside om_isKept om_reaches om_ringOf om_rungOf om_rings om_ringMany om_paid om_leftOf om_ringPaid om_paidAll om_mosts om_text u134.2 (nI cl) (upd om_letters cl (f_X7_here om_text ln pt)) (upd om_one cl r90) (upd om_two cl r134) om_three om_whys om_backs om_sorts om_sizes om_items ln u134.1 hln (by omega)) ⟨Nat.le_of_ble_eq_true rfl, Nat.le_of_ble_eq_true rfl⟩ ⟨Nat.zero_le _, Nat.zero_le _⟩ hP hD hS hA [0, 1, 2, 3, 4, 5, 6, 7, 8, 9, 10, 11, 12, 13, 14, 15, 16, 17, 18, 19, 20, 21] [] [0, 1, 2, 3, 4, 5, 6, 7, 8, 9, 10, 11, 12, 13, 14, 15, 16, 17, 18, 19, 20, 21] (wr := []) (wn := fun u145 => wX7 cy om om_thrown om_s om_kept om_aside om_isKept om_reaches om_ringOf om_rungOf om_rings om_ringMany om_paid om_leftOf om_ringPaid om_paidAll om_mosts om_text (nI ln) (nI u145.1) u145.2 (nI cl) (upd om_letters cl (f_X7_here om_text ln pt)) (upd om_one cl r90) (upd om_two cl r134) om_three om_whys om_backs om_sorts om_sizes om_items) rfl (by decide) rfl (by decide) (by decide) (fun _ => rfl) (by decide) rfl rfl hl.1 rfl (Nat.le_of_ble_eq_true rfl) dX7_clause_145 (fun u145 H locs hw145 hP hD hS => ?_)
      have hbu145 := comma_le hw145 (by omega) hln
      refine lv_aload_n hx hb dX7_clause_148 rfl (lv_at hl 1 rfl) ?_
      refine gf_X7_61 hx hb hG hown hKX hP 0 rfl rfl dX7_clause_149 ?_
      refine lv_aload_n hx hb dX7_clause_152 rfl (lv_at hl 1 rfl) ?_
      refine gf_X7_174 hx hb hG hown hKX hP 0 rfl rfl dX7_clause_153 ?_
      refine lv_iload_n hx hb dX7_clause_156 rfl (lv_at hl 0 rfl) ?_
      refine lv_bipush (v := (99 : Int32)) hx hb dX7_clause_157 (by decide) ?_
      refine lv_icmp_ne (tgt := 170) hx hb dX7_clause_159 (by decide) (fun c8 => absurd c2 c8) (fun _ => ?_)
      refine lv_aload_n hx hb dX7_clause_162 rfl (lv_at hl 1 rfl) ?_
      refine lv_iconst (v := (2 : Int32)) hx hb dX7_clause_163 (by decide) ?_
      refine cRwV (q0 := 0) (ci := 7) mw19_10 mw19_11 mw19_12 mw1_5 mw19_13 rfl rfl hd_X7_number hx hb hml hown hG hKX (c_X7_numberd2 l D cy om om_thrown om_s om_kept om_aside om_isKept om_reaches om_ringOf om_rungOf om_rings om_ringMany om_paid om_leftOf om_ringPaid om_paidAll om_mosts om_text u145.2 (nI cl) (upd om_letters cl (f_X7_here om_text ln pt)) (upd om_one cl r90) (upd om_two cl r134) om_three om_whys om_backs om_sorts om_sizes om_items ln u145.1 hln (by omega)) ⟨Nat.le_of_ble_eq_true rfl, Nat.le_of_ble_eq_true rfl⟩ ⟨Nat.zero_le _, Nat.zero_le _⟩ hP hD hS hA [0, 1, 2, 3, 4, 5, 6, 7, 8, 9, 10, 11, 12, 13, 14, 15, 16, 17, 18, 19, 20, 21] [] [0, 1, 2, 3, 4, 5, 6, 7, 8, 9, 10, 11, 12, 13, 14, 15, 16, 17, 18, 19, 20, 21] (wr := []) (wn := fun u164 => wX7 cy om om_thrown om_s om_kept om_aside om_isKept om_reaches om_ringOf om_rungOf om_rings om_ringMany om_paid om_leftOf om_ringPaid om_paidAll om_mosts om_text (nI ln) (nI u164.1) u164.2 (nI cl) (upd om_letters cl (f_X7_here om_text ln pt)) (upd om_one cl r90) (upd om_two cl r134) om_three om_whys om_backs om_sorts om_sizes om_items) rfl (by decide) rfl (by decide) (by decide) (fun _ => rfl) (by decide) rfl rfl hl.1 rfl (Nat.le_of_ble_eq_true rfl) dX7_clause_164 (fun r164 u164 H locs hw164 hP hD hS => ?_)
      have hbu164 := numberd2_le hw164 (by omega) hln
      refine lv_goto (tgt := 171) hx hb dX7_clause_167 (by decide) ?_
      refine iast_n hx hb hKX hP hD hS 16 rfl rfl (by omega) (by decide) dX7_clause_171 (fun H locs hP hD hS => ?_)
      have hP : va_P D vwCl (wX7 cy om om_thrown om_s om_kept om_aside om_isKept om_reaches om_ringOf om_rungOf om_rings om_ringMany om_paid om_leftOf om_ringPaid om_paidAll om_mosts om_text (nI ln) (nI u164.1) u164.2 (nI cl) (upd om_letters cl (f_X7_here om_text ln pt)) (upd om_one cl r90) (upd om_two cl r134) (upd om_three cl r164) om_whys om_backs om_sorts om_sizes om_items) H := hP
      have hD : va_D A (wX7 cy om om_thrown om_s om_kept om_aside om_isKept om_reaches om_ringOf om_rungOf om_rings om_ringMany om_paid om_leftOf om_ringPaid om_paidAll om_mosts om_text (nI ln) (nI u164.1) u164.2 (nI cl) (upd om_letters cl (f_X7_here om_text ln pt)) (upd om_one cl r90) (upd om_two cl r134) (upd om_three cl r164) om_whys om_backs om_sorts om_sizes om_items) := hD
      refine lv_aload_n hx hb dX7_clause_172 rfl (lv_at hl 1 rfl) ?_
      refine lv_dup hx hb dX7_clause_173 rfl ?_
      refine gf_X7_174 hx hb hG hown hKX hP 0 rfl rfl dX7_clause_174 ?_
      refine lv_iconst (v := (1 : Int32)) hx hb dX7_clause_177 (by decide) ?_
      refine lv_iadd hx hb dX7_clause_178 ?_
      refine topi_eq (y := nI (cl + 1)) (aN rfl rfl) ?_
      refine pf_X7_174 hx hb hG hown hKX hP hD hS 0 rfl rfl rfl (Nat.le_of_ble_eq_true rfl) dX7_clause_179 (wn := wX7 cy om om_thrown om_s om_kept om_aside om_isKept om_reaches om_ringOf om_rungOf om_rings om_ringMany om_paid om_leftOf om_ringPaid om_paidAll om_mosts om_text (nI ln) (nI u164.1) u164.2 (nI (cl + 1)) (upd om_letters cl (f_X7_here om_text ln pt)) (upd om_one cl r90) (upd om_two cl r134) (upd om_three cl r164) om_whys om_backs om_sorts om_sizes om_items) rfl (fun H locs hP hD hS => ?_)
      exact W.vret hx hb hr (fun t ht hW => ⟨⟨(u164.1, u164.2, cl + 1, upd om_letters cl (f_X7_here om_text ln pt), upd om_one cl r90, upd om_two cl r134, upd om_three cl r164), rfl, by obtain rfl := congrArg Prod.fst hw164; obtain rfl := congrArg Prod.snd hw164; subst hw145; obtain rfl := congrArg Prod.fst hw134; obtain rfl := congrArg Prod.snd hw134; obtain rfl := congrArg Prod.fst hw90; obtain rfl := congrArg Prod.snd hw90; unfold f_X7_clause; rw [if_neg c1, if_pos c2] <;> rfl, by rw [ht]; exact hP, hD⟩, hS.F ht⟩) hS.2.2 dX7_clause_182
    · refine lv_iload_n hx hb dX7_clause_20 rfl (lv_at hl 0 rfl) ?_
      refine lv_bipush (v := (114 : Int32)) hx hb dX7_clause_21 (by decide) ?_
      refine lv_icmp_eq (tgt := 50) hx hb dX7_clause_23 (by decide) (fun c9 => ?_) (fun c9 => ?_)
      · have hat10 : pt < ln := here_eq hln hpt (by decide) c9
        have hcllt : cl < 12 := by have h9 : cl ≠ 12 := fun q9 => c1 (by rw [q9]; rfl); omega
        refine lv_aload_n hx hb dX7_clause_50 rfl (lv_at hl 1 rfl) ?_
        refine lv_dup hx hb dX7_clause_51 rfl ?_
        refine gf_X7_159 hx hb hG hown hKX hP 0 rfl rfl dX7_clause_52 ?_
        refine lv_iconst (v := (1 : Int32)) hx hb dX7_clause_55 (by decide) ?_
        refine lv_iadd hx hb dX7_clause_56 ?_
        refine topi_eq (y := nI (pt + 1)) (aN rfl rfl) ?_
        refine pf_X7_159 hx hb hG hown hKX hP hD hS 0 rfl rfl rfl (Nat.le_of_ble_eq_true rfl) dX7_clause_57 (wn := wX7 cy om om_thrown om_s om_kept om_aside om_isKept om_reaches om_ringOf om_rungOf om_rings om_ringMany om_paid om_leftOf om_ringPaid om_paidAll om_mosts om_text (nI ln) (nI (pt + 1)) om_isWrong (nI cl) om_letters om_one om_two om_three om_whys om_backs om_sorts om_sizes om_items) rfl (fun H locs hP hD hS => ?_)
        refine lv_aload_n hx hb dX7_clause_60 rfl (lv_at hl 1 rfl) ?_
        refine gf_X7_52 hx hb hG hown hKX hP 0 rfl rfl dX7_clause_61 ?_
        refine lv_aload_n hx hb dX7_clause_64 rfl (lv_at hl 1 rfl) ?_
        refine gf_X7_174 hx hb hG hown hKX hP 0 rfl rfl dX7_clause_65 ?_
        refine lv_iload_n hx hb dX7_clause_68 rfl (lv_at hl 0 rfl) ?_
        refine iast_n hx hb hKX hP hD hS 13 rfl rfl (by omega) (by decide) dX7_clause_69 (fun H locs hP hD hS => ?_)
        have hP : va_P D vwCl (wX7 cy om om_thrown om_s om_kept om_aside om_isKept om_reaches om_ringOf om_rungOf om_rings om_ringMany om_paid om_leftOf om_ringPaid om_paidAll om_mosts om_text (nI ln) (nI (pt + 1)) om_isWrong (nI cl) (upd om_letters cl (f_X7_here om_text ln pt)) om_one om_two om_three om_whys om_backs om_sorts om_sizes om_items) H := hP
        have hD : va_D A (wX7 cy om om_thrown om_s om_kept om_aside om_isKept om_reaches om_ringOf om_rungOf om_rings om_ringMany om_paid om_leftOf om_ringPaid om_paidAll om_mosts om_text (nI ln) (nI (pt + 1)) om_isWrong (nI cl) (upd om_letters cl (f_X7_here om_text ln pt)) om_one om_two om_three om_whys om_backs om_sorts om_sizes om_items) := hD
        refine lv_aload_n hx hb dX7_clause_70 rfl (lv_at hl 1 rfl) ?_
        refine gf_X7_55 hx hb hG hown hKX hP 0 rfl rfl dX7_clause_71 ?_
        refine lv_aload_n hx hb dX7_clause_74 rfl (lv_at hl 1 rfl) ?_
        refine gf_X7_174 hx hb hG hown hKX hP 0 rfl rfl dX7_clause_75 ?_
        refine lv_aload_n hx hb dX7_clause_78 rfl (lv_at hl 1 rfl) ?_
        refine lv_iload_n hx hb dX7_clause_79 rfl (lv_at hl 0 rfl) ?_
        refine lv_bipush (v := (108 : Int32)) hx hb dX7_clause_80 (by decide) ?_
        refine lv_icmp_ne (tgt := 89) hx hb dX7_clause_82 (by decide) (fun _ => ?_) (fun c11 => absurd c11 (fun qq_ => absurd (c9.symm.trans qq_) (by decide)))
        refine lv_iconst (v := (1 : Int32)) hx hb dX7_clause_89 (by decide) ?_
        refine cRwV (q0 := 0) (ci := 7) mw19_10 mw19_11 mw19_12 mw1_5 mw19_13 rfl rfl hd_X7_number hx hb hml hown hG hKX (c_X7_numberd1 l D cy om om_thrown om_s om_kept om_aside om_isKept om_reaches om_ringOf om_rungOf om_rings om_ringMany om_paid om_leftOf om_ringPaid om_paidAll om_mosts om_text om_isWrong (nI cl) (upd om_letters cl (f_X7_here om_text ln pt)) om_one om_two om_three om_whys om_backs om_sorts om_sizes om_items ln (pt + 1) hln (by omega)) ⟨Nat.le_of_ble_eq_true rfl, Nat.le_of_ble_eq_true rfl⟩ ⟨Nat.zero_le _, Nat.zero_le _⟩ hP hD hS hA [0, 1, 2, 3, 4, 5, 6, 7, 8, 9, 10, 11, 12, 13, 14, 15, 16, 17, 18, 19, 20, 21] [] [0, 1, 2, 3, 4, 5, 6, 7, 8, 9, 10, 11, 12, 13, 14, 15, 16, 17, 18, 19, 20, 21] (wr := []) (wn := fun u90 => wX7 cy om om_thrown om_s om_kept om_aside om_isKept om_reaches om_ringOf om_rungOf om_rings om_ringMany om_paid om_leftOf om_ringPaid om_paidAll om_mosts om_text (nI ln) (nI u90.1) u90.2 (nI cl) (upd om_letters cl (f_X7_here om_text ln pt)) om_one om_two om_three om_whys om_backs om_sorts om_sizes om_items) rfl (by decide) rfl (by decide) (by decide) (fun _ => rfl) (by decide) rfl rfl hl.1 rfl (Nat.le_of_ble_eq_true rfl) dX7_clause_90 (fun r90 u90 H locs hw90 hP hD hS => ?_)
        have hbu90 := numberd1_le hw90 (by omega) hln
        refine iast_n hx hb hKX hP hD hS 14 rfl rfl (by omega) (by decide) dX7_clause_93 (fun H locs hP hD hS => ?_)
        have hP : va_P D vwCl (wX7 cy om om_thrown om_s om_kept om_aside om_isKept om_reaches om_ringOf om_rungOf om_rings om_ringMany om_paid om_leftOf om_ringPaid om_paidAll om_mosts om_text (nI ln) (nI u90.1) u90.2 (nI cl) (upd om_letters cl (f_X7_here om_text ln pt)) (upd om_one cl r90) om_two om_three om_whys om_backs om_sorts om_sizes om_items) H := hP
        have hD : va_D A (wX7 cy om om_thrown om_s om_kept om_aside om_isKept om_reaches om_ringOf om_rungOf om_rings om_ringMany om_paid om_leftOf om_ringPaid om_paidAll om_mosts om_text (nI ln) (nI u90.1) u90.2 (nI cl) (upd om_letters cl (f_X7_here om_text ln pt)) (upd om_one cl r90) om_two om_three om_whys om_backs om_sorts om_sizes om_items) := hD
        refine lv_aload_n hx hb dX7_clause_94 rfl (lv_at hl 1 rfl) ?_
        refine gf_X7_58 hx hb hG hown hKX hP 0 rfl rfl dX7_clause_95 ?_
        refine lv_aload_n hx hb dX7_clause_98 rfl (lv_at hl 1 rfl) ?_
        refine gf_X7_174 hx hb hG hown hKX hP 0 rfl rfl dX7_clause_99 ?_
        refine lv_iload_n hx hb dX7_clause_102 rfl (lv_at hl 0 rfl) ?_
        refine lv_bipush (v := (108 : Int32)) hx hb dX7_clause_103 (by decide) ?_
        refine lv_icmp_ne (tgt := 112) hx hb dX7_clause_105 (by decide) (fun _ => ?_) (fun c12 => absurd c12 (fun qq_ => absurd (c9.symm.trans qq_) (by decide)))
        refine lv_aload_n hx hb dX7_clause_112 rfl (lv_at hl 1 rfl) ?_
        refine lv_iload_n hx hb dX7_clause_113 rfl (lv_at hl 0 rfl) ?_
        refine lv_bipush (v := (99 : Int32)) hx hb dX7_clause_114 (by decide) ?_
        refine lv_icmp_ne (tgt := 123) hx hb dX7_clause_116 (by decide) (fun _ => ?_) (fun c13 => absurd c13 c2)
        refine lv_iload_n hx hb dX7_clause_123 rfl (lv_at hl 0 rfl) ?_
        refine lv_bipush (v := (113 : Int32)) hx hb dX7_clause_124 (by decide) ?_
        refine lv_icmp_ne (tgt := 133) hx hb dX7_clause_126 (by decide) (fun _ => ?_) (fun c14 => absurd c14 (fun qq_ => absurd (c9.symm.trans qq_) (by decide)))
        refine lv_iconst (v := (1 : Int32)) hx hb dX7_clause_133 (by decide) ?_
        refine cRwV (q0 := 0) (ci := 7) mw19_10 mw19_11 mw19_12 mw1_5 mw19_13 rfl rfl hd_X7_number hx hb hml hown hG hKX (c_X7_numberd1 l D cy om om_thrown om_s om_kept om_aside om_isKept om_reaches om_ringOf om_rungOf om_rings om_ringMany om_paid om_leftOf om_ringPaid om_paidAll om_mosts om_text u90.2 (nI cl) (upd om_letters cl (f_X7_here om_text ln pt)) (upd om_one cl r90) om_two om_three om_whys om_backs om_sorts om_sizes om_items ln u90.1 hln (by omega)) ⟨Nat.le_of_ble_eq_true rfl, Nat.le_of_ble_eq_true rfl⟩ ⟨Nat.zero_le _, Nat.zero_le _⟩ hP hD hS hA [0, 1, 2, 3, 4, 5, 6, 7, 8, 9, 10, 11, 12, 13, 14, 15, 16, 17, 18, 19, 20, 21] [] [0, 1, 2, 3, 4, 5, 6, 7, 8, 9, 10, 11, 12, 13, 14, 15, 16, 17, 18, 19, 20, 21] (wr := []) (wn := fun u134 => wX7 cy om om_thrown om_s om_kept om_aside om_isKept om_reaches om_ringOf om_rungOf om_rings om_ringMany om_paid om_leftOf om_ringPaid om_paidAll om_mosts om_text (nI ln) (nI u134.1) u134.2 (nI cl) (upd om_letters cl (f_X7_here om_text ln pt)) (upd om_one cl r90) om_two om_three om_whys om_backs om_sorts om_sizes om_items) rfl (by decide) rfl (by decide) (by decide) (fun _ => rfl) (by decide) rfl rfl hl.1 rfl (Nat.le_of_ble_eq_true rfl) dX7_clause_134 (fun r134 u134 H locs hw134 hP hD hS => ?_)
        have hbu134 := numberd1_le hw134 (by omega) hln
        refine iast_n hx hb hKX hP hD hS 15 rfl rfl (by omega) (by decide) dX7_clause_137 (fun H locs hP hD hS => ?_)
        have hP : va_P D vwCl (wX7 cy om om_thrown om_s om_kept om_aside om_isKept om_reaches om_ringOf om_rungOf om_rings om_ringMany om_paid om_leftOf om_ringPaid om_paidAll om_mosts om_text (nI ln) (nI u134.1) u134.2 (nI cl) (upd om_letters cl (f_X7_here om_text ln pt)) (upd om_one cl r90) (upd om_two cl r134) om_three om_whys om_backs om_sorts om_sizes om_items) H := hP
        have hD : va_D A (wX7 cy om om_thrown om_s om_kept om_aside om_isKept om_reaches om_ringOf om_rungOf om_rings om_ringMany om_paid om_leftOf om_ringPaid om_paidAll om_mosts om_text (nI ln) (nI u134.1) u134.2 (nI cl) (upd om_letters cl (f_X7_here om_text ln pt)) (upd om_one cl r90) (upd om_two cl r134) om_three om_whys om_backs om_sorts om_sizes om_items) := hD
        refine lv_iload_n hx hb dX7_clause_138 rfl (lv_at hl 0 rfl) ?_
        refine lv_bipush (v := (99 : Int32)) hx hb dX7_clause_139 (by decide) ?_
        refine lv_icmp_ne (tgt := 148) hx hb dX7_clause_141 (by decide) (fun _ => ?_) (fun c15 => absurd c15 c2)
        refine lv_aload_n hx hb dX7_clause_148 rfl (lv_at hl 1 rfl) ?_
        refine gf_X7_61 hx hb hG hown hKX hP 0 rfl rfl dX7_clause_149 ?_
        refine lv_aload_n hx hb dX7_clause_152 rfl (lv_at hl 1 rfl) ?_
        refine gf_X7_174 hx hb hG hown hKX hP 0 rfl rfl dX7_clause_153 ?_
        refine lv_iload_n hx hb dX7_clause_156 rfl (lv_at hl 0 rfl) ?_
        refine lv_bipush (v := (99 : Int32)) hx hb dX7_clause_157 (by decide) ?_
        refine lv_icmp_ne (tgt := 170) hx hb dX7_clause_159 (by decide) (fun _ => ?_) (fun c16 => absurd c16 c2)
        refine lv_iconst (v := (0 : Int32)) hx hb dX7_clause_170 (by decide) ?_
        refine iast_n hx hb hKX hP hD hS 16 rfl rfl (by omega) (by decide) dX7_clause_171 (fun H locs hP hD hS => ?_)
        have hP : va_P D vwCl (wX7 cy om om_thrown om_s om_kept om_aside om_isKept om_reaches om_ringOf om_rungOf om_rings om_ringMany om_paid om_leftOf om_ringPaid om_paidAll om_mosts om_text (nI ln) (nI u134.1) u134.2 (nI cl) (upd om_letters cl (f_X7_here om_text ln pt)) (upd om_one cl r90) (upd om_two cl r134) (upd om_three cl (0 : Int32)) om_whys om_backs om_sorts om_sizes om_items) H := hP
        have hD : va_D A (wX7 cy om om_thrown om_s om_kept om_aside om_isKept om_reaches om_ringOf om_rungOf om_rings om_ringMany om_paid om_leftOf om_ringPaid om_paidAll om_mosts om_text (nI ln) (nI u134.1) u134.2 (nI cl) (upd om_letters cl (f_X7_here om_text ln pt)) (upd om_one cl r90) (upd om_two cl r134) (upd om_three cl (0 : Int32)) om_whys om_backs om_sorts om_sizes om_items) := hD
        refine lv_aload_n hx hb dX7_clause_172 rfl (lv_at hl 1 rfl) ?_
        refine lv_dup hx hb dX7_clause_173 rfl ?_
        refine gf_X7_174 hx hb hG hown hKX hP 0 rfl rfl dX7_clause_174 ?_
        refine lv_iconst (v := (1 : Int32)) hx hb dX7_clause_177 (by decide) ?_
        refine lv_iadd hx hb dX7_clause_178 ?_
        refine topi_eq (y := nI (cl + 1)) (aN rfl rfl) ?_
        refine pf_X7_174 hx hb hG hown hKX hP hD hS 0 rfl rfl rfl (Nat.le_of_ble_eq_true rfl) dX7_clause_179 (wn := wX7 cy om om_thrown om_s om_kept om_aside om_isKept om_reaches om_ringOf om_rungOf om_rings om_ringMany om_paid om_leftOf om_ringPaid om_paidAll om_mosts om_text (nI ln) (nI u134.1) u134.2 (nI (cl + 1)) (upd om_letters cl (f_X7_here om_text ln pt)) (upd om_one cl r90) (upd om_two cl r134) (upd om_three cl (0 : Int32)) om_whys om_backs om_sorts om_sizes om_items) rfl (fun H locs hP hD hS => ?_)
        exact W.vret hx hb hr (fun t ht hW => ⟨⟨(u134.1, u134.2, cl + 1, upd om_letters cl (f_X7_here om_text ln pt), upd om_one cl r90, upd om_two cl r134, upd om_three cl (0 : Int32)), rfl, by obtain rfl := congrArg Prod.fst hw134; obtain rfl := congrArg Prod.snd hw134; obtain rfl := congrArg Prod.fst hw90; obtain rfl := congrArg Prod.snd hw90; unfold f_X7_clause; rw [if_neg c1, if_neg c2, if_pos c9] <;> rfl, by rw [ht]; exact hP, hD⟩, hS.F ht⟩) hS.2.2 dX7_clause_182
      · refine lv_iload_n hx hb dX7_clause_26 rfl (lv_at hl 0 rfl) ?_
        refine lv_bipush (v := (110 : Int32)) hx hb dX7_clause_27 (by decide) ?_
        refine lv_icmp_eq (tgt := 50) hx hb dX7_clause_29 (by decide) (fun c17 => ?_) (fun c17 => ?_)
        · have hat18 : pt < ln := here_eq hln hpt (by decide) c17
          have hcllt : cl < 12 := by have h9 : cl ≠ 12 := fun q9 => c1 (by rw [q9]; rfl); omega
          refine lv_aload_n hx hb dX7_clause_50 rfl (lv_at hl 1 rfl) ?_
          refine lv_dup hx hb dX7_clause_51 rfl ?_
          refine gf_X7_159 hx hb hG hown hKX hP 0 rfl rfl dX7_clause_52 ?_
          refine lv_iconst (v := (1 : Int32)) hx hb dX7_clause_55 (by decide) ?_
          refine lv_iadd hx hb dX7_clause_56 ?_
          refine topi_eq (y := nI (pt + 1)) (aN rfl rfl) ?_
          refine pf_X7_159 hx hb hG hown hKX hP hD hS 0 rfl rfl rfl (Nat.le_of_ble_eq_true rfl) dX7_clause_57 (wn := wX7 cy om om_thrown om_s om_kept om_aside om_isKept om_reaches om_ringOf om_rungOf om_rings om_ringMany om_paid om_leftOf om_ringPaid om_paidAll om_mosts om_text (nI ln) (nI (pt + 1)) om_isWrong (nI cl) om_letters om_one om_two om_three om_whys om_backs om_sorts om_sizes om_items) rfl (fun H locs hP hD hS => ?_)
          refine lv_aload_n hx hb dX7_clause_60 rfl (lv_at hl 1 rfl) ?_
          refine gf_X7_52 hx hb hG hown hKX hP 0 rfl rfl dX7_clause_61 ?_
          refine lv_aload_n hx hb dX7_clause_64 rfl (lv_at hl 1 rfl) ?_
          refine gf_X7_174 hx hb hG hown hKX hP 0 rfl rfl dX7_clause_65 ?_
          refine lv_iload_n hx hb dX7_clause_68 rfl (lv_at hl 0 rfl) ?_
          refine iast_n hx hb hKX hP hD hS 13 rfl rfl (by omega) (by decide) dX7_clause_69 (fun H locs hP hD hS => ?_)
          have hP : va_P D vwCl (wX7 cy om om_thrown om_s om_kept om_aside om_isKept om_reaches om_ringOf om_rungOf om_rings om_ringMany om_paid om_leftOf om_ringPaid om_paidAll om_mosts om_text (nI ln) (nI (pt + 1)) om_isWrong (nI cl) (upd om_letters cl (f_X7_here om_text ln pt)) om_one om_two om_three om_whys om_backs om_sorts om_sizes om_items) H := hP
          have hD : va_D A (wX7 cy om om_thrown om_s om_kept om_aside om_isKept om_reaches om_ringOf om_rungOf om_rings om_ringMany om_paid om_leftOf om_ringPaid om_paidAll om_mosts om_text (nI ln) (nI (pt + 1)) om_isWrong (nI cl) (upd om_letters cl (f_X7_here om_text ln pt)) om_one om_two om_three om_whys om_backs om_sorts om_sizes om_items) := hD
          refine lv_aload_n hx hb dX7_clause_70 rfl (lv_at hl 1 rfl) ?_
          refine gf_X7_55 hx hb hG hown hKX hP 0 rfl rfl dX7_clause_71 ?_
          refine lv_aload_n hx hb dX7_clause_74 rfl (lv_at hl 1 rfl) ?_
          refine gf_X7_174 hx hb hG hown hKX hP 0 rfl rfl dX7_clause_75 ?_
          refine lv_aload_n hx hb dX7_clause_78 rfl (lv_at hl 1 rfl) ?_
          refine lv_iload_n hx hb dX7_clause_79 rfl (lv_at hl 0 rfl) ?_
          refine lv_bipush (v := (108 : Int32)) hx hb dX7_clause_80 (by decide) ?_
          refine lv_icmp_ne (tgt := 89) hx hb dX7_clause_82 (by decide) (fun _ => ?_) (fun c19 => absurd c19 (fun qq_ => absurd (c17.symm.trans qq_) (by decide)))
          refine lv_iconst (v := (1 : Int32)) hx hb dX7_clause_89 (by decide) ?_
          refine cRwV (q0 := 0) (ci := 7) mw19_10 mw19_11 mw19_12 mw1_5 mw19_13 rfl rfl hd_X7_number hx hb hml hown hG hKX (c_X7_numberd1 l D cy om om_thrown om_s om_kept om_aside om_isKept om_reaches om_ringOf om_rungOf om_rings om_ringMany om_paid om_leftOf om_ringPaid om_paidAll om_mosts om_text om_isWrong (nI cl) (upd om_letters cl (f_X7_here om_text ln pt)) om_one om_two om_three om_whys om_backs om_sorts om_sizes om_items ln (pt + 1) hln (by omega)) ⟨Nat.le_of_ble_eq_true rfl, Nat.le_of_ble_eq_true rfl⟩ ⟨Nat.zero_le _, Nat.zero_le _⟩ hP hD hS hA [0, 1, 2, 3, 4, 5, 6, 7, 8, 9, 10, 11, 12, 13, 14, 15, 16, 17, 18, 19, 20, 21] [] [0, 1, 2, 3, 4, 5, 6, 7, 8, 9, 10, 11, 12, 13, 14, 15, 16, 17, 18, 19, 20, 21] (wr := []) (wn := fun u90 => wX7 cy om om_thrown om_s om_kept om_aside om_isKept om_reaches om_ringOf om_rungOf om_rings om_ringMany om_paid om_leftOf om_ringPaid om_paidAll om_mosts om_text (nI ln) (nI u90.1) u90.2 (nI cl) (upd om_letters cl (f_X7_here om_text ln pt)) om_one om_two om_three om_whys om_backs om_sorts om_sizes om_items) rfl (by decide) rfl (by decide) (by decide) (fun _ => rfl) (by decide) rfl rfl hl.1 rfl (Nat.le_of_ble_eq_true rfl) dX7_clause_90 (fun r90 u90 H locs hw90 hP hD hS => ?_)
          have hbu90 := numberd1_le hw90 (by omega) hln
          refine iast_n hx hb hKX hP hD hS 14 rfl rfl (by omega) (by decide) dX7_clause_93 (fun H locs hP hD hS => ?_)
          have hP : va_P D vwCl (wX7 cy om om_thrown om_s om_kept om_aside om_isKept om_reaches om_ringOf om_rungOf om_rings om_ringMany om_paid om_leftOf om_ringPaid om_paidAll om_mosts om_text (nI ln) (nI u90.1) u90.2 (nI cl) (upd om_letters cl (f_X7_here om_text ln pt)) (upd om_one cl r90) om_two om_three om_whys om_backs om_sorts om_sizes om_items) H := hP
          have hD : va_D A (wX7 cy om om_thrown om_s om_kept om_aside om_isKept om_reaches om_ringOf om_rungOf om_rings om_ringMany om_paid om_leftOf om_ringPaid om_paidAll om_mosts om_text (nI ln) (nI u90.1) u90.2 (nI cl) (upd om_letters cl (f_X7_here om_text ln pt)) (upd om_one cl r90) om_two om_three om_whys om_backs om_sorts om_sizes om_items) := hD
          refine lv_aload_n hx hb dX7_clause_94 rfl (lv_at hl 1 rfl) ?_
          refine gf_X7_58 hx hb hG hown hKX hP 0 rfl rfl dX7_clause_95 ?_
          refine lv_aload_n hx hb dX7_clause_98 rfl (lv_at hl 1 rfl) ?_
          refine gf_X7_174 hx hb hG hown hKX hP 0 rfl rfl dX7_clause_99 ?_
          refine lv_iload_n hx hb dX7_clause_102 rfl (lv_at hl 0 rfl) ?_
          refine lv_bipush (v := (108 : Int32)) hx hb dX7_clause_103 (by decide) ?_
          refine lv_icmp_ne (tgt := 112) hx hb dX7_clause_105 (by decide) (fun _ => ?_) (fun c20 => absurd c20 (fun qq_ => absurd (c17.symm.trans qq_) (by decide)))
          refine lv_aload_n hx hb dX7_clause_112 rfl (lv_at hl 1 rfl) ?_
          refine lv_iload_n hx hb dX7_clause_113 rfl (lv_at hl 0 rfl) ?_
          refine lv_bipush (v := (99 : Int32)) hx hb dX7_clause_114 (by decide) ?_
          refine lv_icmp_ne (tgt := 123) hx hb dX7_clause_116 (by decide) (fun _ => ?_) (fun c21 => absurd c21 c2)
          refine lv_iload_n hx hb dX7_clause_123 rfl (lv_at hl 0 rfl) ?_
          refine lv_bipush (v := (113 : Int32)) hx hb dX7_clause_124 (by decide) ?_
          refine lv_icmp_ne (tgt := 133) hx hb dX7_clause_126 (by decide) (fun _ => ?_) (fun c22 => absurd c22 (fun qq_ => absurd (c17.symm.trans qq_) (by decide)))
          refine lv_iconst (v := (1 : Int32)) hx hb dX7_clause_133 (by decide) ?_
          refine cRwV (q0 := 0) (ci := 7) mw19_10 mw19_11 mw19_12 mw1_5 mw19_13 rfl rfl hd_X7_number hx hb hml hown hG hKX (c_X7_numberd1 l D cy om om_thrown om_s om_kept om_aside om_isKept om_reaches om_ringOf om_rungOf om_rings om_ringMany om_paid om_leftOf om_ringPaid om_paidAll om_mosts om_text u90.2 (nI cl) (upd om_letters cl (f_X7_here om_text ln pt)) (upd om_one cl r90) om_two om_three om_whys om_backs om_sorts om_sizes om_items ln u90.1 hln (by omega)) ⟨Nat.le_of_ble_eq_true rfl, Nat.le_of_ble_eq_true rfl⟩ ⟨Nat.zero_le _, Nat.zero_le _⟩ hP hD hS hA [0, 1, 2, 3, 4, 5, 6, 7, 8, 9, 10, 11, 12, 13, 14, 15, 16, 17, 18, 19, 20, 21] [] [0, 1, 2, 3, 4, 5, 6, 7, 8, 9, 10, 11, 12, 13, 14, 15, 16, 17, 18, 19, 20, 21] (wr := []) (wn := fun u134 => wX7 cy om om_thrown om_s om_kept om_aside om_isKept om_reaches om_ringOf om_rungOf om_rings om_ringMany om_paid om_leftOf om_ringPaid om_paidAll om_mosts om_text (nI ln) (nI u134.1) u134.2 (nI cl) (upd om_letters cl (f_X7_here om_text ln pt)) (upd om_one cl r90) om_two om_three om_whys om_backs om_sorts om_sizes om_items) rfl (by decide) rfl (by decide) (by decide) (fun _ => rfl) (by decide) rfl rfl hl.1 rfl (Nat.le_of_ble_eq_true rfl) dX7_clause_134 (fun r134 u134 H locs hw134 hP hD hS => ?_)
          have hbu134 := numberd1_le hw134 (by omega) hln
          refine iast_n hx hb hKX hP hD hS 15 rfl rfl (by omega) (by decide) dX7_clause_137 (fun H locs hP hD hS => ?_)
          have hP : va_P D vwCl (wX7 cy om om_thrown om_s om_kept om_aside om_isKept om_reaches om_ringOf om_rungOf om_rings om_ringMany om_paid om_leftOf om_ringPaid om_paidAll om_mosts om_text (nI ln) (nI u134.1) u134.2 (nI cl) (upd om_letters cl (f_X7_here om_text ln pt)) (upd om_one cl r90) (upd om_two cl r134) om_three om_whys om_backs om_sorts om_sizes om_items) H := hP
          have hD : va_D A (wX7 cy om om_thrown om_s om_kept om_aside om_isKept om_reaches om_ringOf om_rungOf om_rings om_ringMany om_paid om_leftOf om_ringPaid om_paidAll om_mosts om_text (nI ln) (nI u134.1) u134.2 (nI cl) (upd om_letters cl (f_X7_here om_text ln pt)) (upd om_one cl r90) (upd om_two cl r134) om_three om_whys om_backs om_sorts om_sizes om_items) := hD
          refine lv_iload_n hx hb dX7_clause_138 rfl (lv_at hl 0 rfl) ?_
          refine lv_bipush (v := (99 : Int32)) hx hb dX7_clause_139 (by decide) ?_
          refine lv_icmp_ne (tgt := 148) hx hb dX7_clause_141 (by decide) (fun _ => ?_) (fun c23 => absurd c23 c2)
          refine lv_aload_n hx hb dX7_clause_148 rfl (lv_at hl 1 rfl) ?_
          refine gf_X7_61 hx hb hG hown hKX hP 0 rfl rfl dX7_clause_149 ?_
          refine lv_aload_n hx hb dX7_clause_152 rfl (lv_at hl 1 rfl) ?_
          refine gf_X7_174 hx hb hG hown hKX hP 0 rfl rfl dX7_clause_153 ?_
          refine lv_iload_n hx hb dX7_clause_156 rfl (lv_at hl 0 rfl) ?_
          refine lv_bipush (v := (99 : Int32)) hx hb dX7_clause_157 (by decide) ?_
          refine lv_icmp_ne (tgt := 170) hx hb dX7_clause_159 (by decide) (fun _ => ?_) (fun c24 => absurd c24 c2)
          refine lv_iconst (v := (0 : Int32)) hx hb dX7_clause_170 (by decide) ?_
          refine iast_n hx hb hKX hP hD hS 16 rfl rfl (by omega) (by decide) dX7_clause_171 (fun H locs hP hD hS => ?_)
          have hP : va_P D vwCl (wX7 cy om om_thrown om_s om_kept om_aside om_isKept om_reaches om_ringOf om_rungOf om_rings om_ringMany om_paid om_leftOf om_ringPaid om_paidAll om_mosts om_text (nI ln) (nI u134.1) u134.2 (nI cl) (upd om_letters cl (f_X7_here om_text ln pt)) (upd om_one cl r90) (upd om_two cl r134) (upd om_three cl (0 : Int32)) om_whys om_backs om_sorts om_sizes om_items) H := hP
          have hD : va_D A (wX7 cy om om_thrown om_s om_kept om_aside om_isKept om_reaches om_ringOf om_rungOf om_rings om_ringMany om_paid om_leftOf om_ringPaid om_paidAll om_mosts om_text (nI ln) (nI u134.1) u134.2 (nI cl) (upd om_letters cl (f_X7_here om_text ln pt)) (upd om_one cl r90) (upd om_two cl r134) (upd om_three cl (0 : Int32)) om_whys om_backs om_sorts om_sizes om_items) := hD
          refine lv_aload_n hx hb dX7_clause_172 rfl (lv_at hl 1 rfl) ?_
          refine lv_dup hx hb dX7_clause_173 rfl ?_
          refine gf_X7_174 hx hb hG hown hKX hP 0 rfl rfl dX7_clause_174 ?_
          refine lv_iconst (v := (1 : Int32)) hx hb dX7_clause_177 (by decide) ?_
          refine lv_iadd hx hb dX7_clause_178 ?_
          refine topi_eq (y := nI (cl + 1)) (aN rfl rfl) ?_
          refine pf_X7_174 hx hb hG hown hKX hP hD hS 0 rfl rfl rfl (Nat.le_of_ble_eq_true rfl) dX7_clause_179 (wn := wX7 cy om om_thrown om_s om_kept om_aside om_isKept om_reaches om_ringOf om_rungOf om_rings om_ringMany om_paid om_leftOf om_ringPaid om_paidAll om_mosts om_text (nI ln) (nI u134.1) u134.2 (nI (cl + 1)) (upd om_letters cl (f_X7_here om_text ln pt)) (upd om_one cl r90) (upd om_two cl r134) (upd om_three cl (0 : Int32)) om_whys om_backs om_sorts om_sizes om_items) rfl (fun H locs hP hD hS => ?_)
          exact W.vret hx hb hr (fun t ht hW => ⟨⟨(u134.1, u134.2, cl + 1, upd om_letters cl (f_X7_here om_text ln pt), upd om_one cl r90, upd om_two cl r134, upd om_three cl (0 : Int32)), rfl, by obtain rfl := congrArg Prod.fst hw134; obtain rfl := congrArg Prod.snd hw134; obtain rfl := congrArg Prod.fst hw90; obtain rfl := congrArg Prod.snd hw90; unfold f_X7_clause; rw [if_neg c1, if_neg c2, if_neg c9, if_pos c17] <;> rfl, by rw [ht]; exact hP, hD⟩, hS.F ht⟩) hS.2.2 dX7_clause_182
        · refine lv_iload_n hx hb dX7_clause_32 rfl (lv_at hl 0 rfl) ?_
          refine lv_bipush (v := (113 : Int32)) hx hb dX7_clause_33 (by decide) ?_
          refine lv_icmp_eq (tgt := 50) hx hb dX7_clause_35 (by decide) (fun c25 => ?_) (fun c25 => ?_)
          · have hat26 : pt < ln := here_eq hln hpt (by decide) c25
            have hcllt : cl < 12 := by have h9 : cl ≠ 12 := fun q9 => c1 (by rw [q9]; rfl); omega
            refine lv_aload_n hx hb dX7_clause_50 rfl (lv_at hl 1 rfl) ?_
            refine lv_dup hx hb dX7_clause_51 rfl ?_
            refine gf_X7_159 hx hb hG hown hKX hP 0 rfl rfl dX7_clause_52 ?_
            refine lv_iconst (v := (1 : Int32)) hx hb dX7_clause_55 (by decide) ?_
            refine lv_iadd hx hb dX7_clause_56 ?_
            refine topi_eq (y := nI (pt + 1)) (aN rfl rfl) ?_
            refine pf_X7_159 hx hb hG hown hKX hP hD hS 0 rfl rfl rfl (Nat.le_of_ble_eq_true rfl) dX7_clause_57 (wn := wX7 cy om om_thrown om_s om_kept om_aside om_isKept om_reaches om_ringOf om_rungOf om_rings om_ringMany om_paid om_leftOf om_ringPaid om_paidAll om_mosts om_text (nI ln) (nI (pt + 1)) om_isWrong (nI cl) om_letters om_one om_two om_three om_whys om_backs om_sorts om_sizes om_items) rfl (fun H locs hP hD hS => ?_)
            refine lv_aload_n hx hb dX7_clause_60 rfl (lv_at hl 1 rfl) ?_
            refine gf_X7_52 hx hb hG hown hKX hP 0 rfl rfl dX7_clause_61 ?_
            refine lv_aload_n hx hb dX7_clause_64 rfl (lv_at hl 1 rfl) ?_
            refine gf_X7_174 hx hb hG hown hKX hP 0 rfl rfl dX7_clause_65 ?_
            refine lv_iload_n hx hb dX7_clause_68 rfl (lv_at hl 0 rfl) ?_
            refine iast_n hx hb hKX hP hD hS 13 rfl rfl (by omega) (by decide) dX7_clause_69 (fun H locs hP hD hS => ?_)
            have hP : va_P D vwCl (wX7 cy om om_thrown om_s om_kept om_aside om_isKept om_reaches om_ringOf om_rungOf om_rings om_ringMany om_paid om_leftOf om_ringPaid om_paidAll om_mosts om_text (nI ln) (nI (pt + 1)) om_isWrong (nI cl) (upd om_letters cl (f_X7_here om_text ln pt)) om_one om_two om_three om_whys om_backs om_sorts om_sizes om_items) H := hP
            have hD : va_D A (wX7 cy om om_thrown om_s om_kept om_aside om_isKept om_reaches om_ringOf om_rungOf om_rings om_ringMany om_paid om_leftOf om_ringPaid om_paidAll om_mosts om_text (nI ln) (nI (pt + 1)) om_isWrong (nI cl) (upd om_letters cl (f_X7_here om_text ln pt)) om_one om_two om_three om_whys om_backs om_sorts om_sizes om_items) := hD
            refine lv_aload_n hx hb dX7_clause_70 rfl (lv_at hl 1 rfl) ?_
            refine gf_X7_55 hx hb hG hown hKX hP 0 rfl rfl dX7_clause_71 ?_
            refine lv_aload_n hx hb dX7_clause_74 rfl (lv_at hl 1 rfl) ?_
            refine gf_X7_174 hx hb hG hown hKX hP 0 rfl rfl dX7_clause_75 ?_
            refine lv_aload_n hx hb dX7_clause_78 rfl (lv_at hl 1 rfl) ?_
            refine lv_iload_n hx hb dX7_clause_79 rfl (lv_at hl 0 rfl) ?_
            refine lv_bipush (v := (108 : Int32)) hx hb dX7_clause_80 (by decide) ?_
            refine lv_icmp_ne (tgt := 89) hx hb dX7_clause_82 (by decide) (fun _ => ?_) (fun c27 => absurd c27 (fun qq_ => absurd (c25.symm.trans qq_) (by decide)))
            refine lv_iconst (v := (1 : Int32)) hx hb dX7_clause_89 (by decide) ?_
            refine cRwV (q0 := 0) (ci := 7) mw19_10 mw19_11 mw19_12 mw1_5 mw19_13 rfl rfl hd_X7_number hx hb hml hown hG hKX (c_X7_numberd1 l D cy om om_thrown om_s om_kept om_aside om_isKept om_reaches om_ringOf om_rungOf om_rings om_ringMany om_paid om_leftOf om_ringPaid om_paidAll om_mosts om_text om_isWrong (nI cl) (upd om_letters cl (f_X7_here om_text ln pt)) om_one om_two om_three om_whys om_backs om_sorts om_sizes om_items ln (pt + 1) hln (by omega)) ⟨Nat.le_of_ble_eq_true rfl, Nat.le_of_ble_eq_true rfl⟩ ⟨Nat.zero_le _, Nat.zero_le _⟩ hP hD hS hA [0, 1, 2, 3, 4, 5, 6, 7, 8, 9, 10, 11, 12, 13, 14, 15, 16, 17, 18, 19, 20, 21] [] [0, 1, 2, 3, 4, 5, 6, 7, 8, 9, 10, 11, 12, 13, 14, 15, 16, 17, 18, 19, 20, 21] (wr := []) (wn := fun u90 => wX7 cy om om_thrown om_s om_kept om_aside om_isKept om_reaches om_ringOf om_rungOf om_rings om_ringMany om_paid om_leftOf om_ringPaid om_paidAll om_mosts om_text (nI ln) (nI u90.1) u90.2 (nI cl) (upd om_letters cl (f_X7_here om_text ln pt)) om_one om_two om_three om_whys om_backs om_sorts om_sizes om_items) rfl (by decide) rfl (by decide) (by decide) (fun _ => rfl) (by decide) rfl rfl hl.1 rfl (Nat.le_of_ble_eq_true rfl) dX7_clause_90 (fun r90 u90 H locs hw90 hP hD hS => ?_)
            have hbu90 := numberd1_le hw90 (by omega) hln
            refine iast_n hx hb hKX hP hD hS 14 rfl rfl (by omega) (by decide) dX7_clause_93 (fun H locs hP hD hS => ?_)
            have hP : va_P D vwCl (wX7 cy om om_thrown om_s om_kept om_aside om_isKept om_reaches om_ringOf om_rungOf om_rings om_ringMany om_paid om_leftOf om_ringPaid om_paidAll om_mosts om_text (nI ln) (nI u90.1) u90.2 (nI cl) (upd om_letters cl (f_X7_here om_text ln pt)) (upd om_one cl r90) om_two om_three om_whys om_backs om_sorts om_sizes om_items) H := hP
            have hD : va_D A (wX7 cy om om_thrown om_s om_kept om_aside om_isKept om_reaches om_ringOf om_rungOf om_rings om_ringMany om_paid om_leftOf om_ringPaid om_paidAll om_mosts om_text (nI ln) (nI u90.1) u90.2 (nI cl) (upd om_letters cl (f_X7_here om_text ln pt)) (upd om_one cl r90) om_two om_three om_whys om_backs om_sorts om_sizes om_items) := hD
            refine lv_aload_n hx hb dX7_clause_94 rfl (lv_at hl 1 rfl) ?_
            refine gf_X7_58 hx hb hG hown hKX hP 0 rfl rfl dX7_clause_95 ?_
            refine lv_aload_n hx hb dX7_clause_98 rfl (lv_at hl 1 rfl) ?_
            refine gf_X7_174 hx hb hG hown hKX hP 0 rfl rfl dX7_clause_99 ?_
            refine lv_iload_n hx hb dX7_clause_102 rfl (lv_at hl 0 rfl) ?_
            refine lv_bipush (v := (108 : Int32)) hx hb dX7_clause_103 (by decide) ?_
            refine lv_icmp_ne (tgt := 112) hx hb dX7_clause_105 (by decide) (fun _ => ?_) (fun c28 => absurd c28 (fun qq_ => absurd (c25.symm.trans qq_) (by decide)))
            refine lv_aload_n hx hb dX7_clause_112 rfl (lv_at hl 1 rfl) ?_
            refine lv_iload_n hx hb dX7_clause_113 rfl (lv_at hl 0 rfl) ?_
            refine lv_bipush (v := (99 : Int32)) hx hb dX7_clause_114 (by decide) ?_
            refine lv_icmp_ne (tgt := 123) hx hb dX7_clause_116 (by decide) (fun _ => ?_) (fun c29 => absurd c29 c2)
            refine lv_iload_n hx hb dX7_clause_123 rfl (lv_at hl 0 rfl) ?_
            refine lv_bipush (v := (113 : Int32)) hx hb dX7_clause_124 (by decide) ?_
            refine lv_icmp_ne (tgt := 133) hx hb dX7_clause_126 (by decide) (fun c30 => absurd c25 c30) (fun _ => ?_)
            refine lv_iconst (v := (3 : Int32)) hx hb dX7_clause_129 (by decide) ?_
            refine lv_goto (tgt := 134) hx hb dX7_clause_130 (by decide) ?_
            refine cRwV (q0 := 0) (ci := 7) mw19_10 mw19_11 mw19_12 mw1_5 mw19_13 rfl rfl hd_X7_number hx hb hml hown hG hKX (c_X7_numberd3 l D cy om om_thrown om_s om_kept om_aside om_isKept om_reaches om_ringOf om_rungOf om_rings om_ringMany om_paid om_leftOf om_ringPaid om_paidAll om_mosts om_text u90.2 (nI cl) (upd om_letters cl (f_X7_here om_text ln pt)) (upd om_one cl r90) om_two om_three om_whys om_backs om_sorts om_sizes om_items ln u90.1 hln (by omega)) ⟨Nat.le_of_ble_eq_true rfl, Nat.le_of_ble_eq_true rfl⟩ ⟨Nat.zero_le _, Nat.zero_le _⟩ hP hD hS hA [0, 1, 2, 3, 4, 5, 6, 7, 8, 9, 10, 11, 12, 13, 14, 15, 16, 17, 18, 19, 20, 21] [] [0, 1, 2, 3, 4, 5, 6, 7, 8, 9, 10, 11, 12, 13, 14, 15, 16, 17, 18, 19, 20, 21] (wr := []) (wn := fun u134 => wX7 cy om om_thrown om_s om_kept om_aside om_isKept om_reaches om_ringOf om_rungOf om_rings om_ringMany om_paid om_leftOf om_ringPaid om_paidAll om_mosts om_text (nI ln) (nI u134.1) u134.2 (nI cl) (upd om_letters cl (f_X7_here om_text ln pt)) (upd om_one cl r90) om_two om_three om_whys om_backs om_sorts om_sizes om_items) rfl (by decide) rfl (by decide) (by decide) (fun _ => rfl) (by decide) rfl rfl hl.1 rfl (Nat.le_of_ble_eq_true rfl) dX7_clause_134 (fun r134 u134 H locs hw134 hP hD hS => ?_)
            have hbu134 := numberd3_le hw134 (by omega) hln
            refine iast_n hx hb hKX hP hD hS 15 rfl rfl (by omega) (by decide) dX7_clause_137 (fun H locs hP hD hS => ?_)
            have hP : va_P D vwCl (wX7 cy om om_thrown om_s om_kept om_aside om_isKept om_reaches om_ringOf om_rungOf om_rings om_ringMany om_paid om_leftOf om_ringPaid om_paidAll om_mosts om_text (nI ln) (nI u134.1) u134.2 (nI cl) (upd om_letters cl (f_X7_here om_text ln pt)) (upd om_one cl r90) (upd om_two cl r134) om_three om_whys om_backs om_sorts om_sizes om_items) H := hP
            have hD : va_D A (wX7 cy om om_thrown om_s om_kept om_aside om_isKept om_reaches om_ringOf om_rungOf om_rings om_ringMany om_paid om_leftOf om_ringPaid om_paidAll om_mosts om_text (nI ln) (nI u134.1) u134.2 (nI cl) (upd om_letters cl (f_X7_here om_text ln pt)) (upd om_one cl r90) (upd om_two cl r134) om_three om_whys om_backs om_sorts om_sizes om_items) := hD
            refine lv_iload_n hx hb dX7_clause_138 rfl (lv_at hl 0 rfl) ?_
            refine lv_bipush (v := (99 : Int32)) hx hb dX7_clause_139 (by decide) ?_
            refine lv_icmp_ne (tgt := 148) hx hb dX7_clause_141 (by decide) (fun _ => ?_) (fun c31 => absurd c31 c2)
            refine lv_aload_n hx hb dX7_clause_148 rfl (lv_at hl 1 rfl) ?_
            refine gf_X7_61 hx hb hG hown hKX hP 0 rfl rfl dX7_clause_149 ?_
            refine lv_aload_n hx hb dX7_clause_152 rfl (lv_at hl 1 rfl) ?_
            refine gf_X7_174 hx hb hG hown hKX hP 0 rfl rfl dX7_clause_153 ?_
            refine lv_iload_n hx hb dX7_clause_156 rfl (lv_at hl 0 rfl) ?_
            refine lv_bipush (v := (99 : Int32)) hx hb dX7_clause_157 (by decide) ?_
            refine lv_icmp_ne (tgt := 170) hx hb dX7_clause_159 (by decide) (fun _ => ?_) (fun c32 => absurd c32 c2)
            refine lv_iconst (v := (0 : Int32)) hx hb dX7_clause_170 (by decide) ?_
            refine iast_n hx hb hKX hP hD hS 16 rfl rfl (by omega) (by decide) dX7_clause_171 (fun H locs hP hD hS => ?_)
            have hP : va_P D vwCl (wX7 cy om om_thrown om_s om_kept om_aside om_isKept om_reaches om_ringOf om_rungOf om_rings om_ringMany om_paid om_leftOf om_ringPaid om_paidAll om_mosts om_text (nI ln) (nI u134.1) u134.2 (nI cl) (upd om_letters cl (f_X7_here om_text ln pt)) (upd om_one cl r90) (upd om_two cl r134) (upd om_three cl (0 : Int32)) om_whys om_backs om_sorts om_sizes om_items) H := hP
            have hD : va_D A (wX7 cy om om_thrown om_s om_kept om_aside om_isKept om_reaches om_ringOf om_rungOf om_rings om_ringMany om_paid om_leftOf om_ringPaid om_paidAll om_mosts om_text (nI ln) (nI u134.1) u134.2 (nI cl) (upd om_letters cl (f_X7_here om_text ln pt)) (upd om_one cl r90) (upd om_two cl r134) (upd om_three cl (0 : Int32)) om_whys om_backs om_sorts om_sizes om_items) := hD
            refine lv_aload_n hx hb dX7_clause_172 rfl (lv_at hl 1 rfl) ?_
            refine lv_dup hx hb dX7_clause_173 rfl ?_
            refine gf_X7_174 hx hb hG hown hKX hP 0 rfl rfl dX7_clause_174 ?_
            refine lv_iconst (v := (1 : Int32)) hx hb dX7_clause_177 (by decide) ?_
            refine lv_iadd hx hb dX7_clause_178 ?_
            refine topi_eq (y := nI (cl + 1)) (aN rfl rfl) ?_
            refine pf_X7_174 hx hb hG hown hKX hP hD hS 0 rfl rfl rfl (Nat.le_of_ble_eq_true rfl) dX7_clause_179 (wn := wX7 cy om om_thrown om_s om_kept om_aside om_isKept om_reaches om_ringOf om_rungOf om_rings om_ringMany om_paid om_leftOf om_ringPaid om_paidAll om_mosts om_text (nI ln) (nI u134.1) u134.2 (nI (cl + 1)) (upd om_letters cl (f_X7_here om_text ln pt)) (upd om_one cl r90) (upd om_two cl r134) (upd om_three cl (0 : Int32)) om_whys om_backs om_sorts om_sizes om_items) rfl (fun H locs hP hD hS => ?_)
            exact W.vret hx hb hr (fun t ht hW => ⟨⟨(u134.1, u134.2, cl + 1, upd om_letters cl (f_X7_here om_text ln pt), upd om_one cl r90, upd om_two cl r134, upd om_three cl (0 : Int32)), rfl, by obtain rfl := congrArg Prod.fst hw134; obtain rfl := congrArg Prod.snd hw134; obtain rfl := congrArg Prod.fst hw90; obtain rfl := congrArg Prod.snd hw90; unfold f_X7_clause; rw [if_neg c1, if_neg c2, if_neg c9, if_neg c17, if_pos c25] <;> rfl, by rw [ht]; exact hP, hD⟩, hS.F ht⟩) hS.2.2 dX7_clause_182
          · refine lv_iload_n hx hb dX7_clause_38 rfl (lv_at hl 0 rfl) ?_
            refine lv_bipush (v := (108 : Int32)) hx hb dX7_clause_39 (by decide) ?_
            refine lv_icmp_eq (tgt := 50) hx hb dX7_clause_41 (by decide) (fun c33 => ?_) (fun c33 => ?_)
            · have hat34 : pt < ln := here_eq hln hpt (by decide) c33
              have hcllt : cl < 12 := by have h9 : cl ≠ 12 := fun q9 => c1 (by rw [q9]; rfl); omega
              refine lv_aload_n hx hb dX7_clause_50 rfl (lv_at hl 1 rfl) ?_
              refine lv_dup hx hb dX7_clause_51 rfl ?_
              refine gf_X7_159 hx hb hG hown hKX hP 0 rfl rfl dX7_clause_52 ?_
              refine lv_iconst (v := (1 : Int32)) hx hb dX7_clause_55 (by decide) ?_
              refine lv_iadd hx hb dX7_clause_56 ?_
              refine topi_eq (y := nI (pt + 1)) (aN rfl rfl) ?_
              refine pf_X7_159 hx hb hG hown hKX hP hD hS 0 rfl rfl rfl (Nat.le_of_ble_eq_true rfl) dX7_clause_57 (wn := wX7 cy om om_thrown om_s om_kept om_aside om_isKept om_reaches om_ringOf om_rungOf om_rings om_ringMany om_paid om_leftOf om_ringPaid om_paidAll om_mosts om_text (nI ln) (nI (pt + 1)) om_isWrong (nI cl) om_letters om_one om_two om_three om_whys om_backs om_sorts om_sizes om_items) rfl (fun H locs hP hD hS => ?_)
              refine lv_aload_n hx hb dX7_clause_60 rfl (lv_at hl 1 rfl) ?_
              refine gf_X7_52 hx hb hG hown hKX hP 0 rfl rfl dX7_clause_61 ?_
              refine lv_aload_n hx hb dX7_clause_64 rfl (lv_at hl 1 rfl) ?_
              refine gf_X7_174 hx hb hG hown hKX hP 0 rfl rfl dX7_clause_65 ?_
              refine lv_iload_n hx hb dX7_clause_68 rfl (lv_at hl 0 rfl) ?_
              refine iast_n hx hb hKX hP hD hS 13 rfl rfl (by omega) (by decide) dX7_clause_69 (fun H locs hP hD hS => ?_)
              have hP : va_P D vwCl (wX7 cy om om_thrown om_s om_kept om_aside om_isKept om_reaches om_ringOf om_rungOf om_rings om_ringMany om_paid om_leftOf om_ringPaid om_paidAll om_mosts om_text (nI ln) (nI (pt + 1)) om_isWrong (nI cl) (upd om_letters cl (f_X7_here om_text ln pt)) om_one om_two om_three om_whys om_backs om_sorts om_sizes om_items) H := hP
              have hD : va_D A (wX7 cy om om_thrown om_s om_kept om_aside om_isKept om_reaches om_ringOf om_rungOf om_rings om_ringMany om_paid om_leftOf om_ringPaid om_paidAll om_mosts om_text (nI ln) (nI (pt + 1)) om_isWrong (nI cl) (upd om_letters cl (f_X7_here om_text ln pt)) om_one om_two om_three om_whys om_backs om_sorts om_sizes om_items) := hD
              refine lv_aload_n hx hb dX7_clause_70 rfl (lv_at hl 1 rfl) ?_
              refine gf_X7_55 hx hb hG hown hKX hP 0 rfl rfl dX7_clause_71 ?_
              refine lv_aload_n hx hb dX7_clause_74 rfl (lv_at hl 1 rfl) ?_
              refine gf_X7_174 hx hb hG hown hKX hP 0 rfl rfl dX7_clause_75 ?_
              refine lv_aload_n hx hb dX7_clause_78 rfl (lv_at hl 1 rfl) ?_
              refine lv_iload_n hx hb dX7_clause_79 rfl (lv_at hl 0 rfl) ?_
              refine lv_bipush (v := (108 : Int32)) hx hb dX7_clause_80 (by decide) ?_
              refine lv_icmp_ne (tgt := 89) hx hb dX7_clause_82 (by decide) (fun c35 => absurd c33 c35) (fun _ => ?_)
              refine lv_iconst (v := (3 : Int32)) hx hb dX7_clause_85 (by decide) ?_
              refine lv_goto (tgt := 90) hx hb dX7_clause_86 (by decide) ?_
              refine cRwV (q0 := 0) (ci := 7) mw19_10 mw19_11 mw19_12 mw1_5 mw19_13 rfl rfl hd_X7_number hx hb hml hown hG hKX (c_X7_numberd3 l D cy om om_thrown om_s om_kept om_aside om_isKept om_reaches om_ringOf om_rungOf om_rings om_ringMany om_paid om_leftOf om_ringPaid om_paidAll om_mosts om_text om_isWrong (nI cl) (upd om_letters cl (f_X7_here om_text ln pt)) om_one om_two om_three om_whys om_backs om_sorts om_sizes om_items ln (pt + 1) hln (by omega)) ⟨Nat.le_of_ble_eq_true rfl, Nat.le_of_ble_eq_true rfl⟩ ⟨Nat.zero_le _, Nat.zero_le _⟩ hP hD hS hA [0, 1, 2, 3, 4, 5, 6, 7, 8, 9, 10, 11, 12, 13, 14, 15, 16, 17, 18, 19, 20, 21] [] [0, 1, 2, 3, 4, 5, 6, 7, 8, 9, 10, 11, 12, 13, 14, 15, 16, 17, 18, 19, 20, 21] (wr := []) (wn := fun u90 => wX7 cy om om_thrown om_s om_kept om_aside om_isKept om_reaches om_ringOf om_rungOf om_rings om_ringMany om_paid om_leftOf om_ringPaid om_paidAll om_mosts om_text (nI ln) (nI u90.1) u90.2 (nI cl) (upd om_letters cl (f_X7_here om_text ln pt)) om_one om_two om_three om_whys om_backs om_sorts om_sizes om_items) rfl (by decide) rfl (by decide) (by decide) (fun _ => rfl) (by decide) rfl rfl hl.1 rfl (Nat.le_of_ble_eq_true rfl) dX7_clause_90 (fun r90 u90 H locs hw90 hP hD hS => ?_)
              have hbu90 := numberd3_le hw90 (by omega) hln
              refine iast_n hx hb hKX hP hD hS 14 rfl rfl (by omega) (by decide) dX7_clause_93 (fun H locs hP hD hS => ?_)
              have hP : va_P D vwCl (wX7 cy om om_thrown om_s om_kept om_aside om_isKept om_reaches om_ringOf om_rungOf om_rings om_ringMany om_paid om_leftOf om_ringPaid om_paidAll om_mosts om_text (nI ln) (nI u90.1) u90.2 (nI cl) (upd om_letters cl (f_X7_here om_text ln pt)) (upd om_one cl r90) om_two om_three om_whys om_backs om_sorts om_sizes om_items) H := hP
              have hD : va_D A (wX7 cy om om_thrown om_s om_kept om_aside om_isKept om_reaches om_ringOf om_rungOf om_rings om_ringMany om_paid om_leftOf om_ringPaid om_paidAll om_mosts om_text (nI ln) (nI u90.1) u90.2 (nI cl) (upd om_letters cl (f_X7_here om_text ln pt)) (upd om_one cl r90) om_two om_three om_whys om_backs om_sorts om_sizes om_items) := hD
              refine lv_aload_n hx hb dX7_clause_94 rfl (lv_at hl 1 rfl) ?_
              refine gf_X7_58 hx hb hG hown hKX hP 0 rfl rfl dX7_clause_95 ?_
              refine lv_aload_n hx hb dX7_clause_98 rfl (lv_at hl 1 rfl) ?_
              refine gf_X7_174 hx hb hG hown hKX hP 0 rfl rfl dX7_clause_99 ?_
              refine lv_iload_n hx hb dX7_clause_102 rfl (lv_at hl 0 rfl) ?_
              refine lv_bipush (v := (108 : Int32)) hx hb dX7_clause_103 (by decide) ?_
              refine lv_icmp_ne (tgt := 112) hx hb dX7_clause_105 (by decide) (fun c36 => absurd c33 c36) (fun _ => ?_)
              refine lv_iconst (v := (0 : Int32)) hx hb dX7_clause_108 (by decide) ?_
              refine lv_goto (tgt := 137) hx hb dX7_clause_109 (by decide) ?_
              refine iast_n hx hb hKX hP hD hS 15 rfl rfl (by omega) (by decide) dX7_clause_137 (fun H locs hP hD hS => ?_)
              have hP : va_P D vwCl (wX7 cy om om_thrown om_s om_kept om_aside om_isKept om_reaches om_ringOf om_rungOf om_rings om_ringMany om_paid om_leftOf om_ringPaid om_paidAll om_mosts om_text (nI ln) (nI u90.1) u90.2 (nI cl) (upd om_letters cl (f_X7_here om_text ln pt)) (upd om_one cl r90) (upd om_two cl (0 : Int32)) om_three om_whys om_backs om_sorts om_sizes om_items) H := hP
              have hD : va_D A (wX7 cy om om_thrown om_s om_kept om_aside om_isKept om_reaches om_ringOf om_rungOf om_rings om_ringMany om_paid om_leftOf om_ringPaid om_paidAll om_mosts om_text (nI ln) (nI u90.1) u90.2 (nI cl) (upd om_letters cl (f_X7_here om_text ln pt)) (upd om_one cl r90) (upd om_two cl (0 : Int32)) om_three om_whys om_backs om_sorts om_sizes om_items) := hD
              refine lv_iload_n hx hb dX7_clause_138 rfl (lv_at hl 0 rfl) ?_
              refine lv_bipush (v := (99 : Int32)) hx hb dX7_clause_139 (by decide) ?_
              refine lv_icmp_ne (tgt := 148) hx hb dX7_clause_141 (by decide) (fun _ => ?_) (fun c37 => absurd c37 c2)
              refine lv_aload_n hx hb dX7_clause_148 rfl (lv_at hl 1 rfl) ?_
              refine gf_X7_61 hx hb hG hown hKX hP 0 rfl rfl dX7_clause_149 ?_
              refine lv_aload_n hx hb dX7_clause_152 rfl (lv_at hl 1 rfl) ?_
              refine gf_X7_174 hx hb hG hown hKX hP 0 rfl rfl dX7_clause_153 ?_
              refine lv_iload_n hx hb dX7_clause_156 rfl (lv_at hl 0 rfl) ?_
              refine lv_bipush (v := (99 : Int32)) hx hb dX7_clause_157 (by decide) ?_
              refine lv_icmp_ne (tgt := 170) hx hb dX7_clause_159 (by decide) (fun _ => ?_) (fun c38 => absurd c38 c2)
              refine lv_iconst (v := (0 : Int32)) hx hb dX7_clause_170 (by decide) ?_
              refine iast_n hx hb hKX hP hD hS 16 rfl rfl (by omega) (by decide) dX7_clause_171 (fun H locs hP hD hS => ?_)
              have hP : va_P D vwCl (wX7 cy om om_thrown om_s om_kept om_aside om_isKept om_reaches om_ringOf om_rungOf om_rings om_ringMany om_paid om_leftOf om_ringPaid om_paidAll om_mosts om_text (nI ln) (nI u90.1) u90.2 (nI cl) (upd om_letters cl (f_X7_here om_text ln pt)) (upd om_one cl r90) (upd om_two cl (0 : Int32)) (upd om_three cl (0 : Int32)) om_whys om_backs om_sorts om_sizes om_items) H := hP
              have hD : va_D A (wX7 cy om om_thrown om_s om_kept om_aside om_isKept om_reaches om_ringOf om_rungOf om_rings om_ringMany om_paid om_leftOf om_ringPaid om_paidAll om_mosts om_text (nI ln) (nI u90.1) u90.2 (nI cl) (upd om_letters cl (f_X7_here om_text ln pt)) (upd om_one cl r90) (upd om_two cl (0 : Int32)) (upd om_three cl (0 : Int32)) om_whys om_backs om_sorts om_sizes om_items) := hD
              refine lv_aload_n hx hb dX7_clause_172 rfl (lv_at hl 1 rfl) ?_
              refine lv_dup hx hb dX7_clause_173 rfl ?_
              refine gf_X7_174 hx hb hG hown hKX hP 0 rfl rfl dX7_clause_174 ?_
              refine lv_iconst (v := (1 : Int32)) hx hb dX7_clause_177 (by decide) ?_
              refine lv_iadd hx hb dX7_clause_178 ?_
              refine topi_eq (y := nI (cl + 1)) (aN rfl rfl) ?_
              refine pf_X7_174 hx hb hG hown hKX hP hD hS 0 rfl rfl rfl (Nat.le_of_ble_eq_true rfl) dX7_clause_179 (wn := wX7 cy om om_thrown om_s om_kept om_aside om_isKept om_reaches om_ringOf om_rungOf om_rings om_ringMany om_paid om_leftOf om_ringPaid om_paidAll om_mosts om_text (nI ln) (nI u90.1) u90.2 (nI (cl + 1)) (upd om_letters cl (f_X7_here om_text ln pt)) (upd om_one cl r90) (upd om_two cl (0 : Int32)) (upd om_three cl (0 : Int32)) om_whys om_backs om_sorts om_sizes om_items) rfl (fun H locs hP hD hS => ?_)
              exact W.vret hx hb hr (fun t ht hW => ⟨⟨(u90.1, u90.2, cl + 1, upd om_letters cl (f_X7_here om_text ln pt), upd om_one cl r90, upd om_two cl (0 : Int32), upd om_three cl (0 : Int32)), rfl, by obtain rfl := congrArg Prod.fst hw90; obtain rfl := congrArg Prod.snd hw90; unfold f_X7_clause; rw [if_neg c1, if_neg c2, if_neg c9, if_neg c17, if_neg c25, if_pos c33] <;> rfl, by rw [ht]; exact hP, hD⟩, hS.F ht⟩) hS.2.2 dX7_clause_182
            · refine lv_aload_n hx hb dX7_clause_44 rfl (lv_at hl 1 rfl) ?_
              refine lv_iconst (v := (1 : Int32)) hx hb dX7_clause_45 (by decide) ?_
              refine pf_X7_162 hx hb hG hown hKX hP hD hS 0 rfl rfl rfl (Nat.le_of_ble_eq_true rfl) dX7_clause_46 (wn := wX7 cy om om_thrown om_s om_kept om_aside om_isKept om_reaches om_ringOf om_rungOf om_rings om_ringMany om_paid om_leftOf om_ringPaid om_paidAll om_mosts om_text (nI ln) (nI pt) (1 : Int32) (nI cl) om_letters om_one om_two om_three om_whys om_backs om_sorts om_sizes om_items) rfl (fun H locs hP hD hS => ?_)
              exact W.vret hx hb hr (fun t ht hW => ⟨⟨(pt, (1 : Int32), cl, om_letters, om_one, om_two, om_three), rfl, by unfold f_X7_clause; rw [if_neg c1, if_neg c2, if_neg c9, if_neg c17, if_neg c25, if_neg c33] <;> rfl, by rw [ht]; exact hP, hD⟩, hS.F ht⟩) hS.2.2 dX7_clause_49
theorem clause_I {t : Nat → Int32} {w : Int32} {a b c d : Nat → Int32} {ln pt cl : Nat} (hp : pt ≤ ln) (hl : ln ≤ 100) (hc : cl ≤ 12) : (f_X7_clause t w a b c d ln pt cl).1 ≤ ln ∧ (f_X7_clause t w a b c d ln pt cl).2.2.1 ≤ 12 ∧ (¬ (f_X7_clause t w a b c d ln pt cl).2.1 = 0 ∨ (f_X7_clause t w a b c d ln pt cl).2.2.1 = cl + 1) := by
  unfold f_X7_clause
  have key : ∀ x : Nat × Int32 × Nat × (Nat → Int32) × (Nat → Int32) × (Nat → Int32) × (Nat → Int32), (x = (pt, 1, cl, a, b, c, d) ∨ (x.1 ≤ ln ∧ x.2.2.1 = cl + 1 ∧ cl + 1 ≤ 12)) → (x.1 ≤ ln ∧ x.2.2.1 ≤ 12 ∧ (¬ x.2.1 = 0 ∨ x.2.2.1 = cl + 1)) := by
    intro x h
    rcases h with h | ⟨h1, h2, h3⟩
    · rw [h]; exact ⟨hp, hc, Or.inl (fun q : (1 : Int32) = 0 => absurd q (by decide))⟩
    · exact ⟨h1, by omega, Or.inr h2⟩
  refine key _ ?_
  refine iteP (P := fun x : Nat × Int32 × Nat × (Nat → Int32) × (Nat → Int32) × (Nat → Int32) × (Nat → Int32) => x = (pt, 1, cl, a, b, c, d) ∨ (x.1 ≤ ln ∧ x.2.2.1 = cl + 1 ∧ cl + 1 ≤ 12)) (fun _ => Or.inl rfl) (fun h0 => ?_)
  have h1 : cl + 1 ≤ 12 := by
    have h9 : cl ≠ 12 := fun q => h0 (by rw [q]; rfl)
    omega
  have h2 : ∀ x : Int32, ¬ (-1 : Int32) = x → f_X7_here t ln pt = x → pt + 1 ≤ ln := fun x hx q => here_eq hl hp hx q
  refine iteP (P := fun x : Nat × Int32 × Nat × (Nat → Int32) × (Nat → Int32) × (Nat → Int32) × (Nat → Int32) => x = (pt, 1, cl, a, b, c, d) ∨ (x.1 ≤ ln ∧ x.2.2.1 = cl + 1 ∧ cl + 1 ≤ 12)) (fun q => Or.inr ⟨numberd2_l (comma_l (numberd2_l (numberd1_l (h2 _ (by decide) q) hl) hl) hl) hl, rfl, h1⟩) (fun _ => ?_)
  refine iteP (P := fun x : Nat × Int32 × Nat × (Nat → Int32) × (Nat → Int32) × (Nat → Int32) × (Nat → Int32) => x = (pt, 1, cl, a, b, c, d) ∨ (x.1 ≤ ln ∧ x.2.2.1 = cl + 1 ∧ cl + 1 ≤ 12)) (fun q => Or.inr ⟨numberd1_l (numberd1_l (h2 _ (by decide) q) hl) hl, rfl, h1⟩) (fun _ => ?_)
  refine iteP (P := fun x : Nat × Int32 × Nat × (Nat → Int32) × (Nat → Int32) × (Nat → Int32) × (Nat → Int32) => x = (pt, 1, cl, a, b, c, d) ∨ (x.1 ≤ ln ∧ x.2.2.1 = cl + 1 ∧ cl + 1 ≤ 12)) (fun q => Or.inr ⟨numberd1_l (numberd1_l (h2 _ (by decide) q) hl) hl, rfl, h1⟩) (fun _ => ?_)
  refine iteP (P := fun x : Nat × Int32 × Nat × (Nat → Int32) × (Nat → Int32) × (Nat → Int32) × (Nat → Int32) => x = (pt, 1, cl, a, b, c, d) ∨ (x.1 ≤ ln ∧ x.2.2.1 = cl + 1 ∧ cl + 1 ≤ 12)) (fun q => Or.inr ⟨numberd3_l (numberd1_l (h2 _ (by decide) q) hl) hl, rfl, h1⟩) (fun _ => ?_)
  exact iteP (P := fun x : Nat × Int32 × Nat × (Nat → Int32) × (Nat → Int32) × (Nat → Int32) × (Nat → Int32) => x = (pt, 1, cl, a, b, c, d) ∨ (x.1 ≤ ln ∧ x.2.2.1 = cl + 1 ∧ cl + 1 ≤ 12)) (fun q => Or.inr ⟨numberd3_l (h2 _ (by decide) q) hl, rfl, h1⟩) (fun _ => Or.inl rfl)
theorem contract_s0 {f : Nat → Int32} {a b c : Int32} {n : Nat} (hs : f 0 = nI n) (hn : n ≤ 6) : (f_X7_contract f a b c n).2 0 = nI ((f_X7_contract f a b c n).2 0).toNatClampNeg ∧ ((f_X7_contract f a b c n).2 0).toNatClampNeg ≤ 6 := by
  have e0 : f 0 = nI (f 0).toNatClampNeg ∧ (f 0).toNatClampNeg ≤ 6 := by rw [hs, nI_clamp (by omega)]; exact ⟨rfl, hn⟩
  unfold f_X7_contract
  refine iteP (P := fun x : Int32 × (Nat → Int32) => x.2 0 = nI (x.2 0).toNatClampNeg ∧ (x.2 0).toNatClampNeg ≤ 6) (fun _ => e0) (fun _ => ?_)
  refine iteP (P := fun x : Int32 × (Nat → Int32) => x.2 0 = nI (x.2 0).toNatClampNeg ∧ (x.2 0).toNatClampNeg ≤ 6) (fun _ => e0) (fun _ => ?_)
  refine iteP (P := fun x : Int32 × (Nat → Int32) => x.2 0 = nI (x.2 0).toNatClampNeg ∧ (x.2 0).toNatClampNeg ≤ 6) (fun _ => e0) (fun _ => ?_)
  refine iteP (P := fun x : Int32 × (Nat → Int32) => x.2 0 = nI (x.2 0).toNatClampNeg ∧ (x.2 0).toNatClampNeg ≤ 6) (fun _ => e0) (fun h => ?_)
  have hn6 : n ≠ 6 := fun q => h (by rw [q]; rfl)
  dsimp only
  rw [pk_us, pk_un (by omega), pk_un (by omega), pk_un (by omega), pk_un (by omega), pk_un (by omega), hs, nI_1, nI_clamp (by omega)]
  exact ⟨rfl, by omega⟩
theorem s0_of {f g : Nat → Int32} {n : Nat} (hs : f 0 = nI n) (hn : n ≤ 6) (h : g 0 = f 0) : g 0 = nI (g 0).toNatClampNeg ∧ (g 0).toNatClampNeg ≤ 6 := by
  rw [h, hs, nI_clamp (by omega)]; exact ⟨rfl, hn⟩
theorem refer_s0 {f : Nat → Int32} {a b c : Int32} {n : Nat} : (f_X7_refer f a b c n).2 0 = f 0 := by
  unfold f_X7_refer
  repeat' refine iteP (P := fun x : Int32 × (Nat → Int32) => x.2 0 = f 0) (fun _ => ?_) (fun _ => ?_)
  all_goals first | rfl | exact pk_un (by omega)
theorem renew_s0 {f : Nat → Int32} {a b c : Int32} {n : Nat} : (f_X7_renew f a b c n).2 0 = f 0 := by
  unfold f_X7_renew
  repeat' refine iteP (P := fun x : Int32 × (Nat → Int32) => x.2 0 = f 0) (fun _ => ?_) (fun _ => ?_)
  all_goals first | rfl | exact pk_un (by omega)
theorem loss_s0 {f : Nat → Int32} {a : Int32} : (f_X7_loss f a).2 0 = f 0 := by
  unfold f_X7_loss
  repeat' refine iteP (P := fun x : Int32 × (Nat → Int32) => x.2 0 = f 0) (fun _ => ?_) (fun _ => ?_)
  all_goals first | rfl | exact pk_un (by omega)
def f_X7_isDone (om_s : Nat → Int32) (om_letters : Nat → Int32) (om_one : Nat → Int32) (om_two : Nat → Int32) (om_three : Nat → Int32) (n : Nat) (k : Nat) : Int32 × (Nat → Int32) :=
  if (om_letters k) = (99 : Int32) then (if (f_X7_contract om_s (om_one k) (om_two k) (om_three k) n).1 < (0 : Int32) then ((0 : Int32), (f_X7_contract om_s (om_one k) (om_two k) (om_three k) n).2) else ((1 : Int32), (f_X7_contract om_s (om_one k) (om_two k) (om_three k) n).2)) else (if (om_letters k) = (110 : Int32) then (if (f_X7_refer om_s (om_one k) (om_two k) (0 : Int32) n).1 < (0 : Int32) then ((0 : Int32), (f_X7_refer om_s (om_one k) (om_two k) (0 : Int32) n).2) else ((1 : Int32), (f_X7_refer om_s (om_one k) (om_two k) (0 : Int32) n).2)) else (if (om_letters k) = (113 : Int32) then (if (f_X7_renew om_s (om_one k) (3 : Int32) (om_two k) n).1 < (0 : Int32) then ((0 : Int32), (f_X7_renew om_s (om_one k) (3 : Int32) (om_two k) n).2) else ((1 : Int32), (f_X7_renew om_s (om_one k) (3 : Int32) (om_two k) n).2)) else (if (om_letters k) = (114 : Int32) then (if (f_X7_refer om_s (om_one k) (om_two k) (1 : Int32) n).1 < (0 : Int32) then ((0 : Int32), (f_X7_refer om_s (om_one k) (om_two k) (1 : Int32) n).2) else ((1 : Int32), (f_X7_refer om_s (om_one k) (om_two k) (1 : Int32) n).2)) else (if (f_X7_loss om_s (om_one k)).1 < (0 : Int32) then ((0 : Int32), (f_X7_loss om_s (om_one k)).2) else ((1 : Int32), (f_X7_loss om_s (om_one k)).2)))))
set_option maxHeartbeats 4000000 in
set_option maxRecDepth 100000 in
theorem c_X7_isDone (l : Launch) (D : va_G) (cy : Nat → ClassId) (om : Nat → Nat) (om_thrown : Int32) (om_s : Nat → Int32) (om_kept : Nat → Int32) (om_aside : Nat → Int32) (om_isKept : Int32) (om_reaches : Nat → Int32) (om_ringOf : Nat → Int32) (om_rungOf : Nat → Int32) (om_rings : Nat → Int32) (om_ringMany : Int32) (om_paid : Nat → Int32) (om_leftOf : Nat → Int32) (om_ringPaid : Nat → Int32) (om_paidAll : Int32) (om_mosts : Nat → Int32) (om_text : Nat → Int32) (om_signs : Int32) (om_at : Int32) (om_isWrong : Int32) (om_clauses : Int32) (om_letters : Nat → Int32) (om_one : Nat → Int32) (om_two : Nat → Int32) (om_three : Nat → Int32) (om_whys : Nat → Int32) (om_backs : Nat → Int32) (om_sorts : Nat → Int32) (om_sizes : Nat → Int32) (om_items : Nat → Int64) (n : Nat) (k : Nat) (hn : n ≤ 6) (hs0 : om_s 0 = nI n) (hk : k < 12) : RwI (S := (Nat → Int32)) l D cy yX7_isDone (.code yX7_isDone cX7_isDone 2 (some .boolean)) 3 (wX7 cy om om_thrown om_s om_kept om_aside om_isKept om_reaches om_ringOf om_rungOf om_rings om_ringMany om_paid om_leftOf om_ringPaid om_paidAll om_mosts om_text om_signs om_at om_isWrong om_clauses om_letters om_one om_two om_three om_whys om_backs om_sorts om_sizes om_items) [.ref (om 0), .int (nI k)] (fun rr u => (rr, u) = f_X7_isDone om_s om_letters om_one om_two om_three n k) (fun u => wX7 cy om om_thrown u om_kept om_aside om_isKept om_reaches om_ringOf om_rungOf om_rings om_ringMany om_paid om_leftOf om_ringPaid om_paidAll om_mosts om_text om_signs om_at om_isWrong om_clauses om_letters om_one om_two om_three om_whys om_backs om_sorts om_sizes om_items) := by
  intro sz
  refine Met.ofW (cc := cX7_isDone) (maxL := 2) (ret := (some .boolean)) (by decide) rfl ?_
  intro pP eE s0 mM args below meth cC s₁ B hml hv
  obtain ⟨rfl, hsz, hP, hKX, hD0⟩ := hv
  have hx := B.exec
  have hb := B.bytes
  have hr := B.returns
  have hG := gw_hts (atoms_spec (ws := _) B.pre)
  have hown : s0.vm.findClass RX7 = some mM.cls := findClass_of_methodNamed B.named
  have hlocks := B.notSynchronized
  subst hsz
  have hD := hD0.self (sz := s0.heap.size)
  generalize hAe : va_A (wX7 cy om om_thrown om_s om_kept om_aside om_isKept om_reaches om_ringOf om_rungOf om_rings om_ringMany om_paid om_leftOf om_ringPaid om_paidAll om_mosts om_text om_signs om_at om_isWrong om_clauses om_letters om_one om_two om_three om_whys om_backs om_sorts om_sizes om_items) s0.heap.size = A at hD ⊢
  have hA : ∀ q : Nat, s0.heap.size ≤ q → A q := fun q h => by rw [← hAe]; exact Or.inr h
  have hS : va_S A s0.heap s0.heap [] := va_S.rf
  have hl := lv_entry ([.ref (om 0), .int (nI k)]) (n := 2) (Nat.le_of_ble_eq_true rfl)
  rw [lg_entry_eq]
  generalize (lg_sl ([.ref (om 0), .int (nI k)]) ++ List.replicate (2 - (lg_sl ([.ref (om 0), .int (nI k)])).length) Slot.unset).toArray = ls at hl ⊢
  have hl : lv_has ls 2 [(0, .ref (om 0)), (1, .int (nI k))] := hl
  refine lv_aload_n hx hb dX7_isDone_0 rfl (lv_at hl 0 rfl) ?_
  refine gf_X7_52 hx hb hG hown hKX hP 0 rfl rfl dX7_isDone_1 ?_
  refine lv_iload_n hx hb dX7_isDone_4 rfl (lv_at hl 1 rfl) ?_
  refine iald_n hx hb hKX hP 13 rfl rfl (by omega) (by decide) dX7_isDone_5 ?_
  by_cases c1 : (om_letters k) = (99 : Int32)
  · refine lv_lookup (off := 42) (tgt := 48) hx hb dX7_isDone_6 (by decide) (by rw [c1]; decide) (by decide) ?_
    refine lv_aload_n hx hb dX7_isDone_48 rfl (lv_at hl 0 rfl) ?_
    refine lv_aload_n hx hb dX7_isDone_49 rfl (lv_at hl 0 rfl) ?_
    refine gf_X7_55 hx hb hG hown hKX hP 0 rfl rfl dX7_isDone_50 ?_
    refine lv_iload_n hx hb dX7_isDone_53 rfl (lv_at hl 1 rfl) ?_
    refine iald_n hx hb hKX hP 14 rfl rfl (by omega) (by decide) dX7_isDone_54 ?_
    refine lv_aload_n hx hb dX7_isDone_55 rfl (lv_at hl 0 rfl) ?_
    refine gf_X7_58 hx hb hG hown hKX hP 0 rfl rfl dX7_isDone_56 ?_
    refine lv_iload_n hx hb dX7_isDone_59 rfl (lv_at hl 1 rfl) ?_
    refine iald_n hx hb hKX hP 15 rfl rfl (by omega) (by decide) dX7_isDone_60 ?_
    refine lv_aload_n hx hb dX7_isDone_61 rfl (lv_at hl 0 rfl) ?_
    refine gf_X7_61 hx hb hG hown hKX hP 0 rfl rfl dX7_isDone_62 ?_
    refine lv_iload_n hx hb dX7_isDone_65 rfl (lv_at hl 1 rfl) ?_
    refine iald_n hx hb hKX hP 16 rfl rfl (by omega) (by decide) dX7_isDone_66 ?_
    refine cRwV (q0 := 0) (ci := 7) mw20_0 mw6_21 mw6_22 mw1_5 mw6_23 rfl rfl hd_X7_contract hx hb hml hown hG hKX (c_X7_contract l D cy om om_thrown om_s om_kept om_aside om_isKept om_reaches om_ringOf om_rungOf om_rings om_ringMany om_paid om_leftOf om_ringPaid om_paidAll om_mosts om_text om_signs om_at om_isWrong om_clauses om_letters om_one om_two om_three om_whys om_backs om_sorts om_sizes om_items (om_one k) (om_two k) (om_three k) n hn hs0) ⟨Nat.le_of_ble_eq_true rfl, Nat.le_of_ble_eq_true rfl⟩ ⟨Nat.zero_le _, Nat.zero_le _⟩ hP hD hS hA [0, 1, 2, 3, 4, 5, 6, 7, 8, 9, 10, 11, 12, 13, 14, 15, 16, 17, 18, 19, 20, 21] [] [0, 1, 2, 3, 4, 5, 6, 7, 8, 9, 10, 11, 12, 13, 14, 15, 16, 17, 18, 19, 20, 21] (wr := []) (wn := fun u67 => wX7 cy om om_thrown u67 om_kept om_aside om_isKept om_reaches om_ringOf om_rungOf om_rings om_ringMany om_paid om_leftOf om_ringPaid om_paidAll om_mosts om_text om_signs om_at om_isWrong om_clauses om_letters om_one om_two om_three om_whys om_backs om_sorts om_sizes om_items) rfl (by decide) rfl (by decide) (by decide) (fun _ => rfl) (by decide) rfl rfl hl.1 rfl (Nat.le_of_ble_eq_true rfl) dX7_isDone_67 (fun r67 u67 H locs hw67 hP hD hS => ?_)
    refine lv_if_lt (tgt := 77) hx hb dX7_isDone_70 (by decide) (fun c2 => ?_) (fun c2 => ?_)
    · refine lv_iconst (v := (0 : Int32)) hx hb dX7_isDone_77 (by decide) ?_
      exact W.zret (v := (0 : Int32)) hx hb hr rfl (fun t ht hW => ⟨⟨(0 : Int32), u67, rfl, by obtain rfl := congrArg Prod.fst hw67; obtain rfl := congrArg Prod.snd hw67; unfold f_X7_isDone; rw [if_pos c1, if_pos c2] <;> rfl, by rw [ht]; exact hP, hD⟩, hS.F ht⟩) hS.2.2 dX7_isDone_78
    · refine lv_iconst (v := (1 : Int32)) hx hb dX7_isDone_73 (by decide) ?_
      refine lv_goto (tgt := 78) hx hb dX7_isDone_74 (by decide) ?_
      exact W.zret (v := (1 : Int32)) hx hb hr rfl (fun t ht hW => ⟨⟨(1 : Int32), u67, rfl, by obtain rfl := congrArg Prod.fst hw67; obtain rfl := congrArg Prod.snd hw67; unfold f_X7_isDone; rw [if_pos c1, if_neg c2] <;> rfl, by rw [ht]; exact hP, hD⟩, hS.F ht⟩) hS.2.2 dX7_isDone_78
  · by_cases c3 : (om_letters k) = (110 : Int32)
    · refine lv_lookup (off := 99) (tgt := 105) hx hb dX7_isDone_6 (by decide) (by rw [c3]; decide) (by decide) ?_
      refine lv_aload_n hx hb dX7_isDone_105 rfl (lv_at hl 0 rfl) ?_
      refine lv_aload_n hx hb dX7_isDone_106 rfl (lv_at hl 0 rfl) ?_
      refine gf_X7_55 hx hb hG hown hKX hP 0 rfl rfl dX7_isDone_107 ?_
      refine lv_iload_n hx hb dX7_isDone_110 rfl (lv_at hl 1 rfl) ?_
      refine iald_n hx hb hKX hP 14 rfl rfl (by omega) (by decide) dX7_isDone_111 ?_
      refine lv_aload_n hx hb dX7_isDone_112 rfl (lv_at hl 0 rfl) ?_
      refine gf_X7_58 hx hb hG hown hKX hP 0 rfl rfl dX7_isDone_113 ?_
      refine lv_iload_n hx hb dX7_isDone_116 rfl (lv_at hl 1 rfl) ?_
      refine iald_n hx hb hKX hP 15 rfl rfl (by omega) (by decide) dX7_isDone_117 ?_
      refine lv_iconst (v := (0 : Int32)) hx hb dX7_isDone_118 (by decide) ?_
      refine cRwV (q0 := 0) (ci := 7) mw20_1 mw8_21 mw8_22 mw1_5 mw8_23 rfl rfl hd_X7_refer hx hb hml hown hG hKX (c_X7_refer l D cy om om_thrown om_s om_kept om_aside om_isKept om_reaches om_ringOf om_rungOf om_rings om_ringMany om_paid om_leftOf om_ringPaid om_paidAll om_mosts om_text om_signs om_at om_isWrong om_clauses om_letters om_one om_two om_three om_whys om_backs om_sorts om_sizes om_items (om_one k) (om_two k) (0 : Int32) n hn hs0) ⟨Nat.le_of_ble_eq_true rfl, Nat.le_of_ble_eq_true rfl⟩ ⟨Nat.zero_le _, Nat.zero_le _⟩ hP hD hS hA [0, 1, 2, 3, 4, 5, 6, 7, 8, 9, 10, 11, 12, 13, 14, 15, 16, 17, 18, 19, 20, 21] [] [0, 1, 2, 3, 4, 5, 6, 7, 8, 9, 10, 11, 12, 13, 14, 15, 16, 17, 18, 19, 20, 21] (wr := []) (wn := fun u119 => wX7 cy om om_thrown u119 om_kept om_aside om_isKept om_reaches om_ringOf om_rungOf om_rings om_ringMany om_paid om_leftOf om_ringPaid om_paidAll om_mosts om_text om_signs om_at om_isWrong om_clauses om_letters om_one om_two om_three om_whys om_backs om_sorts om_sizes om_items) rfl (by decide) rfl (by decide) (by decide) (fun _ => rfl) (by decide) rfl rfl hl.1 rfl (Nat.le_of_ble_eq_true rfl) dX7_isDone_119 (fun r119 u119 H locs hw119 hP hD hS => ?_)
      refine lv_if_lt (tgt := 129) hx hb dX7_isDone_122 (by decide) (fun c4 => ?_) (fun c4 => ?_)
      · refine lv_iconst (v := (0 : Int32)) hx hb dX7_isDone_129 (by decide) ?_
        exact W.zret (v := (0 : Int32)) hx hb hr rfl (fun t ht hW => ⟨⟨(0 : Int32), u119, rfl, by obtain rfl := congrArg Prod.fst hw119; obtain rfl := congrArg Prod.snd hw119; unfold f_X7_isDone; rw [if_neg c1, if_pos c3, if_pos c4] <;> rfl, by rw [ht]; exact hP, hD⟩, hS.F ht⟩) hS.2.2 dX7_isDone_130
      · refine lv_iconst (v := (1 : Int32)) hx hb dX7_isDone_125 (by decide) ?_
        refine lv_goto (tgt := 130) hx hb dX7_isDone_126 (by decide) ?_
        exact W.zret (v := (1 : Int32)) hx hb hr rfl (fun t ht hW => ⟨⟨(1 : Int32), u119, rfl, by obtain rfl := congrArg Prod.fst hw119; obtain rfl := congrArg Prod.snd hw119; unfold f_X7_isDone; rw [if_neg c1, if_pos c3, if_neg c4] <;> rfl, by rw [ht]; exact hP, hD⟩, hS.F ht⟩) hS.2.2 dX7_isDone_130
    · by_cases c5 : (om_letters k) = (113 : Int32)
      · refine lv_lookup (off := 125) (tgt := 131) hx hb dX7_isDone_6 (by decide) (by rw [c5]; decide) (by decide) ?_
        refine lv_aload_n hx hb dX7_isDone_131 rfl (lv_at hl 0 rfl) ?_
        refine lv_aload_n hx hb dX7_isDone_132 rfl (lv_at hl 0 rfl) ?_
        refine gf_X7_55 hx hb hG hown hKX hP 0 rfl rfl dX7_isDone_133 ?_
        refine lv_iload_n hx hb dX7_isDone_136 rfl (lv_at hl 1 rfl) ?_
        refine iald_n hx hb hKX hP 14 rfl rfl (by omega) (by decide) dX7_isDone_137 ?_
        refine lv_iconst (v := (3 : Int32)) hx hb dX7_isDone_138 (by decide) ?_
        refine lv_aload_n hx hb dX7_isDone_139 rfl (lv_at hl 0 rfl) ?_
        refine gf_X7_58 hx hb hG hown hKX hP 0 rfl rfl dX7_isDone_140 ?_
        refine lv_iload_n hx hb dX7_isDone_143 rfl (lv_at hl 1 rfl) ?_
        refine iald_n hx hb hKX hP 15 rfl rfl (by omega) (by decide) dX7_isDone_144 ?_
        refine cRwV (q0 := 0) (ci := 7) mw20_2 mw7_23 mw8_0 mw1_5 mw8_1 rfl rfl hd_X7_renew hx hb hml hown hG hKX (c_X7_renew l D cy om om_thrown om_s om_kept om_aside om_isKept om_reaches om_ringOf om_rungOf om_rings om_ringMany om_paid om_leftOf om_ringPaid om_paidAll om_mosts om_text om_signs om_at om_isWrong om_clauses om_letters om_one om_two om_three om_whys om_backs om_sorts om_sizes om_items (om_one k) (3 : Int32) (om_two k) n hn hs0) ⟨Nat.le_of_ble_eq_true rfl, Nat.le_of_ble_eq_true rfl⟩ ⟨Nat.zero_le _, Nat.zero_le _⟩ hP hD hS hA [0, 1, 2, 3, 4, 5, 6, 7, 8, 9, 10, 11, 12, 13, 14, 15, 16, 17, 18, 19, 20, 21] [] [0, 1, 2, 3, 4, 5, 6, 7, 8, 9, 10, 11, 12, 13, 14, 15, 16, 17, 18, 19, 20, 21] (wr := []) (wn := fun u145 => wX7 cy om om_thrown u145 om_kept om_aside om_isKept om_reaches om_ringOf om_rungOf om_rings om_ringMany om_paid om_leftOf om_ringPaid om_paidAll om_mosts om_text om_signs om_at om_isWrong om_clauses om_letters om_one om_two om_three om_whys om_backs om_sorts om_sizes om_items) rfl (by decide) rfl (by decide) (by decide) (fun _ => rfl) (by decide) rfl rfl hl.1 rfl (Nat.le_of_ble_eq_true rfl) dX7_isDone_145 (fun r145 u145 H locs hw145 hP hD hS => ?_)
        refine lv_if_lt (tgt := 155) hx hb dX7_isDone_148 (by decide) (fun c6 => ?_) (fun c6 => ?_)
        · refine lv_iconst (v := (0 : Int32)) hx hb dX7_isDone_155 (by decide) ?_
          exact W.zret (v := (0 : Int32)) hx hb hr rfl (fun t ht hW => ⟨⟨(0 : Int32), u145, rfl, by obtain rfl := congrArg Prod.fst hw145; obtain rfl := congrArg Prod.snd hw145; unfold f_X7_isDone; rw [if_neg c1, if_neg c3, if_pos c5, if_pos c6] <;> rfl, by rw [ht]; exact hP, hD⟩, hS.F ht⟩) hS.2.2 dX7_isDone_156
        · refine lv_iconst (v := (1 : Int32)) hx hb dX7_isDone_151 (by decide) ?_
          refine lv_goto (tgt := 156) hx hb dX7_isDone_152 (by decide) ?_
          exact W.zret (v := (1 : Int32)) hx hb hr rfl (fun t ht hW => ⟨⟨(1 : Int32), u145, rfl, by obtain rfl := congrArg Prod.fst hw145; obtain rfl := congrArg Prod.snd hw145; unfold f_X7_isDone; rw [if_neg c1, if_neg c3, if_pos c5, if_neg c6] <;> rfl, by rw [ht]; exact hP, hD⟩, hS.F ht⟩) hS.2.2 dX7_isDone_156
      · by_cases c7 : (om_letters k) = (114 : Int32)
        · refine lv_lookup (off := 73) (tgt := 79) hx hb dX7_isDone_6 (by decide) (by rw [c7]; decide) (by decide) ?_
          refine lv_aload_n hx hb dX7_isDone_79 rfl (lv_at hl 0 rfl) ?_
          refine lv_aload_n hx hb dX7_isDone_80 rfl (lv_at hl 0 rfl) ?_
          refine gf_X7_55 hx hb hG hown hKX hP 0 rfl rfl dX7_isDone_81 ?_
          refine lv_iload_n hx hb dX7_isDone_84 rfl (lv_at hl 1 rfl) ?_
          refine iald_n hx hb hKX hP 14 rfl rfl (by omega) (by decide) dX7_isDone_85 ?_
          refine lv_aload_n hx hb dX7_isDone_86 rfl (lv_at hl 0 rfl) ?_
          refine gf_X7_58 hx hb hG hown hKX hP 0 rfl rfl dX7_isDone_87 ?_
          refine lv_iload_n hx hb dX7_isDone_90 rfl (lv_at hl 1 rfl) ?_
          refine iald_n hx hb hKX hP 15 rfl rfl (by omega) (by decide) dX7_isDone_91 ?_
          refine lv_iconst (v := (1 : Int32)) hx hb dX7_isDone_92 (by decide) ?_
          refine cRwV (q0 := 0) (ci := 7) mw20_1 mw8_21 mw8_22 mw1_5 mw8_23 rfl rfl hd_X7_refer hx hb hml hown hG hKX (c_X7_refer l D cy om om_thrown om_s om_kept om_aside om_isKept om_reaches om_ringOf om_rungOf om_rings om_ringMany om_paid om_leftOf om_ringPaid om_paidAll om_mosts om_text om_signs om_at om_isWrong om_clauses om_letters om_one om_two om_three om_whys om_backs om_sorts om_sizes om_items (om_one k) (om_two k) (1 : Int32) n hn hs0) ⟨Nat.le_of_ble_eq_true rfl, Nat.le_of_ble_eq_true rfl⟩ ⟨Nat.zero_le _, Nat.zero_le _⟩ hP hD hS hA [0, 1, 2, 3, 4, 5, 6, 7, 8, 9, 10, 11, 12, 13, 14, 15, 16, 17, 18, 19, 20, 21] [] [0, 1, 2, 3, 4, 5, 6, 7, 8, 9, 10, 11, 12, 13, 14, 15, 16, 17, 18, 19, 20, 21] (wr := []) (wn := fun u93 => wX7 cy om om_thrown u93 om_kept om_aside om_isKept om_reaches om_ringOf om_rungOf om_rings om_ringMany om_paid om_leftOf om_ringPaid om_paidAll om_mosts om_text om_signs om_at om_isWrong om_clauses om_letters om_one om_two om_three om_whys om_backs om_sorts om_sizes om_items) rfl (by decide) rfl (by decide) (by decide) (fun _ => rfl) (by decide) rfl rfl hl.1 rfl (Nat.le_of_ble_eq_true rfl) dX7_isDone_93 (fun r93 u93 H locs hw93 hP hD hS => ?_)
          refine lv_if_lt (tgt := 103) hx hb dX7_isDone_96 (by decide) (fun c8 => ?_) (fun c8 => ?_)
          · refine lv_iconst (v := (0 : Int32)) hx hb dX7_isDone_103 (by decide) ?_
            exact W.zret (v := (0 : Int32)) hx hb hr rfl (fun t ht hW => ⟨⟨(0 : Int32), u93, rfl, by obtain rfl := congrArg Prod.fst hw93; obtain rfl := congrArg Prod.snd hw93; unfold f_X7_isDone; rw [if_neg c1, if_neg c3, if_neg c5, if_pos c7, if_pos c8] <;> rfl, by rw [ht]; exact hP, hD⟩, hS.F ht⟩) hS.2.2 dX7_isDone_104
          · refine lv_iconst (v := (1 : Int32)) hx hb dX7_isDone_99 (by decide) ?_
            refine lv_goto (tgt := 104) hx hb dX7_isDone_100 (by decide) ?_
            exact W.zret (v := (1 : Int32)) hx hb hr rfl (fun t ht hW => ⟨⟨(1 : Int32), u93, rfl, by obtain rfl := congrArg Prod.fst hw93; obtain rfl := congrArg Prod.snd hw93; unfold f_X7_isDone; rw [if_neg c1, if_neg c3, if_neg c5, if_pos c7, if_neg c8] <;> rfl, by rw [ht]; exact hP, hD⟩, hS.F ht⟩) hS.2.2 dX7_isDone_104
        · refine lv_lookup (off := 151) (tgt := 157) hx hb dX7_isDone_6 (by decide) (by rw [lv_osw c1 (by decide)]; rw [lv_osw c3 (by decide)]; rw [lv_osw c5 (by decide)]; rw [lv_osw c7 (by decide)]; rfl) (by decide) ?_
          refine lv_aload_n hx hb dX7_isDone_157 rfl (lv_at hl 0 rfl) ?_
          refine lv_aload_n hx hb dX7_isDone_158 rfl (lv_at hl 0 rfl) ?_
          refine gf_X7_55 hx hb hG hown hKX hP 0 rfl rfl dX7_isDone_159 ?_
          refine lv_iload_n hx hb dX7_isDone_162 rfl (lv_at hl 1 rfl) ?_
          refine iald_n hx hb hKX hP 14 rfl rfl (by omega) (by decide) dX7_isDone_163 ?_
          refine cRwV (q0 := 0) (ci := 7) mw20_3 mw9_10 mw9_11 mw1_5 mw9_12 rfl rfl hd_X7_loss hx hb hml hown hG hKX (c_X7_loss l D cy om om_thrown om_s om_kept om_aside om_isKept om_reaches om_ringOf om_rungOf om_rings om_ringMany om_paid om_leftOf om_ringPaid om_paidAll om_mosts om_text om_signs om_at om_isWrong om_clauses om_letters om_one om_two om_three om_whys om_backs om_sorts om_sizes om_items (om_one k)) ⟨Nat.le_of_ble_eq_true rfl, Nat.le_of_ble_eq_true rfl⟩ ⟨Nat.zero_le _, Nat.zero_le _⟩ hP hD hS hA [0, 1, 2, 3, 4, 5, 6, 7, 8, 9, 10, 11, 12, 13, 14, 15, 16, 17, 18, 19, 20, 21] [] [0, 1, 2, 3, 4, 5, 6, 7, 8, 9, 10, 11, 12, 13, 14, 15, 16, 17, 18, 19, 20, 21] (wr := []) (wn := fun u164 => wX7 cy om om_thrown u164 om_kept om_aside om_isKept om_reaches om_ringOf om_rungOf om_rings om_ringMany om_paid om_leftOf om_ringPaid om_paidAll om_mosts om_text om_signs om_at om_isWrong om_clauses om_letters om_one om_two om_three om_whys om_backs om_sorts om_sizes om_items) rfl (by decide) rfl (by decide) (by decide) (fun _ => rfl) (by decide) rfl rfl hl.1 rfl (Nat.le_of_ble_eq_true rfl) dX7_isDone_164 (fun r164 u164 H locs hw164 hP hD hS => ?_)
          refine lv_if_lt (tgt := 174) hx hb dX7_isDone_167 (by decide) (fun c9 => ?_) (fun c9 => ?_)
          · refine lv_iconst (v := (0 : Int32)) hx hb dX7_isDone_174 (by decide) ?_
            exact W.zret (v := (0 : Int32)) hx hb hr rfl (fun t ht hW => ⟨⟨(0 : Int32), u164, rfl, by obtain rfl := congrArg Prod.fst hw164; obtain rfl := congrArg Prod.snd hw164; unfold f_X7_isDone; rw [if_neg c1, if_neg c3, if_neg c5, if_neg c7, if_pos c9] <;> rfl, by rw [ht]; exact hP, hD⟩, hS.F ht⟩) hS.2.2 dX7_isDone_175
          · refine lv_iconst (v := (1 : Int32)) hx hb dX7_isDone_170 (by decide) ?_
            refine lv_goto (tgt := 175) hx hb dX7_isDone_171 (by decide) ?_
            exact W.zret (v := (1 : Int32)) hx hb hr rfl (fun t ht hW => ⟨⟨(1 : Int32), u164, rfl, by obtain rfl := congrArg Prod.fst hw164; obtain rfl := congrArg Prod.snd hw164; unfold f_X7_isDone; rw [if_neg c1, if_neg c3, if_neg c5, if_neg c7, if_neg c9] <;> rfl, by rw [ht]; exact hP, hD⟩, hS.F ht⟩) hS.2.2 dX7_isDone_175
theorem done_s0 {f a b c d : Nat → Int32} {n k : Nat} (hs : f 0 = nI n) (hn : n ≤ 6) : (f_X7_isDone f a b c d n k).2 0 = nI ((f_X7_isDone f a b c d n k).2 0).toNatClampNeg ∧ ((f_X7_isDone f a b c d n k).2 0).toNatClampNeg ≤ 6 := by
  unfold f_X7_isDone
  refine iteP (P := fun x : Int32 × (Nat → Int32) => x.2 0 = nI (x.2 0).toNatClampNeg ∧ (x.2 0).toNatClampNeg ≤ 6) (fun _ => iteP (P := fun x : Int32 × (Nat → Int32) => x.2 0 = nI (x.2 0).toNatClampNeg ∧ (x.2 0).toNatClampNeg ≤ 6) (fun _ => by dsimp only; exact contract_s0 hs hn) (fun _ => by dsimp only; exact contract_s0 hs hn)) (fun _ => ?_)
  refine iteP (P := fun x : Int32 × (Nat → Int32) => x.2 0 = nI (x.2 0).toNatClampNeg ∧ (x.2 0).toNatClampNeg ≤ 6) (fun _ => iteP (P := fun x : Int32 × (Nat → Int32) => x.2 0 = nI (x.2 0).toNatClampNeg ∧ (x.2 0).toNatClampNeg ≤ 6) (fun _ => by dsimp only; exact s0_of hs hn refer_s0) (fun _ => by dsimp only; exact s0_of hs hn refer_s0)) (fun _ => ?_)
  refine iteP (P := fun x : Int32 × (Nat → Int32) => x.2 0 = nI (x.2 0).toNatClampNeg ∧ (x.2 0).toNatClampNeg ≤ 6) (fun _ => iteP (P := fun x : Int32 × (Nat → Int32) => x.2 0 = nI (x.2 0).toNatClampNeg ∧ (x.2 0).toNatClampNeg ≤ 6) (fun _ => by dsimp only; exact s0_of hs hn renew_s0) (fun _ => by dsimp only; exact s0_of hs hn renew_s0)) (fun _ => ?_)
  refine iteP (P := fun x : Int32 × (Nat → Int32) => x.2 0 = nI (x.2 0).toNatClampNeg ∧ (x.2 0).toNatClampNeg ≤ 6) (fun _ => iteP (P := fun x : Int32 × (Nat → Int32) => x.2 0 = nI (x.2 0).toNatClampNeg ∧ (x.2 0).toNatClampNeg ≤ 6) (fun _ => by dsimp only; exact s0_of hs hn refer_s0) (fun _ => by dsimp only; exact s0_of hs hn refer_s0)) (fun _ => ?_)
  exact iteP (P := fun x : Int32 × (Nat → Int32) => x.2 0 = nI (x.2 0).toNatClampNeg ∧ (x.2 0).toNatClampNeg ≤ 6) (fun _ => by dsimp only; exact s0_of hs hn loss_s0) (fun _ => by dsimp only; exact s0_of hs hn loss_s0)
