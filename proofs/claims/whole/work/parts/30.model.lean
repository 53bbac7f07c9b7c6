def f_X7_tellsWhy (om_s : Nat → Int32) (om_rings : Nat → Int32) (om_paid : Nat → Int32) (om_leftOf : Nat → Int32) (om_ringPaid : Nat → Int32) (om_whys : Nat → Int32) (n : Nat) (c : Nat) (ra : Nat) : (Nat → Int32) :=
  if (f_X7_bits (om_rings ra)) = (1 : Int32) then (if (om_leftOf ra) = (0 : Int32) then (if (om_s 1) = (0 : Int32) then (f_X7_because (f_X7_because om_whys (0 : Int32) (-5 : Int32) (-5 : Int32)) (1 : Int32) (99 : Int32) (0 : Int32)) else (if (f_X7_lastAhead om_rings om_paid n ra) = (-1 : Int32) then (f_X7_because (f_X7_because om_whys (0 : Int32) (-5 : Int32) (-5 : Int32)) (1 : Int32) (f_X7_lastAhead om_rings om_paid n ra) (0 : Int32)) else (f_X7_because (f_X7_because om_whys (0 : Int32) (-5 : Int32) (-5 : Int32)) (1 : Int32) (f_X7_lastAhead om_rings om_paid n ra) (om_paid (f_X7_lastAhead om_rings om_paid n ra).toNatClampNeg)))) else (if (om_paid c) < (om_leftOf ra) then (if (om_s (5 + c)) = (2 : Int32) then (if (1 : Int32) = (0 : Int32) then (if (om_s (17 + c)) < (f_X7_stead om_s (om_leftOf ra) c) then (if (om_paid c) = (om_s (11 + c)) then (f_X7_because (f_X7_because om_whys (0 : Int32) (-5 : Int32) (-5 : Int32)) (4 : Int32) (om_s (11 + c)) (-5 : Int32)) else (f_X7_because (f_X7_because om_whys (0 : Int32) (-5 : Int32) (-5 : Int32)) (5 : Int32) (om_rings ra) (om_ringPaid ra))) else (f_X7_because (f_X7_because om_whys (0 : Int32) (-5 : Int32) (-5 : Int32)) (3 : Int32) (f_X7_stead om_s (om_leftOf ra) c) (om_s (17 + c)))) else (if (f_X7_payer om_s om_paid n c) = (-1 : Int32) then (if (om_s (17 + c)) < (f_X7_stead om_s (om_leftOf ra) c) then (if (om_paid c) = (om_s (11 + c)) then (f_X7_because (f_X7_because om_whys (0 : Int32) (-5 : Int32) (-5 : Int32)) (4 : Int32) (om_s (11 + c)) (-5 : Int32)) else (f_X7_because (f_X7_because om_whys (0 : Int32) (-5 : Int32) (-5 : Int32)) (6 : Int32) ((om_leftOf ra) - (om_paid c)) (-5 : Int32))) else (f_X7_because (f_X7_because om_whys (0 : Int32) (-5 : Int32) (-5 : Int32)) (3 : Int32) (f_X7_stead om_s (om_leftOf ra) c) (om_s (17 + c)))) else (f_X7_because (f_X7_because om_whys (0 : Int32) (-5 : Int32) (-5 : Int32)) (2 : Int32) (f_X7_payer om_s om_paid n c) (om_paid (f_X7_payer om_s om_paid n c).toNatClampNeg)))) else (if (om_s (17 + c)) < (f_X7_stead om_s (om_leftOf ra) c) then (if (om_paid c) = (om_s (11 + c)) then (f_X7_because (f_X7_because om_whys (0 : Int32) (-5 : Int32) (-5 : Int32)) (4 : Int32) (om_s (11 + c)) (-5 : Int32)) else (if (1 : Int32) = (0 : Int32) then (f_X7_because (f_X7_because om_whys (0 : Int32) (-5 : Int32) (-5 : Int32)) (5 : Int32) (om_rings ra) (om_ringPaid ra)) else (f_X7_because (f_X7_because om_whys (0 : Int32) (-5 : Int32) (-5 : Int32)) (6 : Int32) ((om_leftOf ra) - (om_paid c)) (-5 : Int32)))) else (f_X7_because (f_X7_because om_whys (0 : Int32) (-5 : Int32) (-5 : Int32)) (3 : Int32) (f_X7_stead om_s (om_leftOf ra) c) (om_s (17 + c))))) else (f_X7_because om_whys (0 : Int32) (-5 : Int32) (-5 : Int32)))) else (if (om_leftOf ra) = (0 : Int32) then (if (om_s 1) = (0 : Int32) then (f_X7_because (f_X7_because om_whys (0 : Int32) (-5 : Int32) (-5 : Int32)) (1 : Int32) (99 : Int32) (0 : Int32)) else (if (f_X7_lastAhead om_rings om_paid n ra) = (-1 : Int32) then (f_X7_because (f_X7_because om_whys (0 : Int32) (-5 : Int32) (-5 : Int32)) (1 : Int32) (f_X7_lastAhead om_rings om_paid n ra) (0 : Int32)) else (f_X7_because (f_X7_because om_whys (0 : Int32) (-5 : Int32) (-5 : Int32)) (1 : Int32) (f_X7_lastAhead om_rings om_paid n ra) (om_paid (f_X7_lastAhead om_rings om_paid n ra).toNatClampNeg)))) else (if (om_paid c) < (om_leftOf ra) then (if (om_s (5 + c)) = (2 : Int32) then (if (0 : Int32) = (0 : Int32) then (if (om_s (17 + c)) < (f_X7_stead om_s (om_leftOf ra) c) then (if (om_paid c) = (om_s (11 + c)) then (f_X7_because (f_X7_because om_whys (0 : Int32) (-5 : Int32) (-5 : Int32)) (4 : Int32) (om_s (11 + c)) (-5 : Int32)) else (f_X7_because (f_X7_because om_whys (0 : Int32) (-5 : Int32) (-5 : Int32)) (5 : Int32) (om_rings ra) (om_ringPaid ra))) else (f_X7_because (f_X7_because om_whys (0 : Int32) (-5 : Int32) (-5 : Int32)) (3 : Int32) (f_X7_stead om_s (om_leftOf ra) c) (om_s (17 + c)))) else (if (f_X7_payer om_s om_paid n c) = (-1 : Int32) then (if (om_s (17 + c)) < (f_X7_stead om_s (om_leftOf ra) c) then (if (om_paid c) = (om_s (11 + c)) then (f_X7_because (f_X7_because om_whys (0 : Int32) (-5 : Int32) (-5 : Int32)) (4 : Int32) (om_s (11 + c)) (-5 : Int32)) else (f_X7_because (f_X7_because om_whys (0 : Int32) (-5 : Int32) (-5 : Int32)) (6 : Int32) ((om_leftOf ra) - (om_paid c)) (-5 : Int32))) else (f_X7_because (f_X7_because om_whys (0 : Int32) (-5 : Int32) (-5 : Int32)) (3 : Int32) (f_X7_stead om_s (om_leftOf ra) c) (om_s (17 + c)))) else (f_X7_because (f_X7_because om_whys (0 : Int32) (-5 : Int32) (-5 : Int32)) (2 : Int32) (f_X7_payer om_s om_paid n c) (om_paid (f_X7_payer om_s om_paid n c).toNatClampNeg)))) else (if (om_s (17 + c)) < (f_X7_stead om_s (om_leftOf ra) c) then (if (om_paid c) = (om_s (11 + c)) then (f_X7_because (f_X7_because om_whys (0 : Int32) (-5 : Int32) (-5 : Int32)) (4 : Int32) (om_s (11 + c)) (-5 : Int32)) else (if (0 : Int32) = (0 : Int32) then (f_X7_because (f_X7_because om_whys (0 : Int32) (-5 : Int32) (-5 : Int32)) (5 : Int32) (om_rings ra) (om_ringPaid ra)) else (f_X7_because (f_X7_because om_whys (0 : Int32) (-5 : Int32) (-5 : Int32)) (6 : Int32) ((om_leftOf ra) - (om_paid c)) (-5 : Int32)))) else (f_X7_because (f_X7_because om_whys (0 : Int32) (-5 : Int32) (-5 : Int32)) (3 : Int32) (f_X7_stead om_s (om_leftOf ra) c) (om_s (17 + c))))) else (f_X7_because om_whys (0 : Int32) (-5 : Int32) (-5 : Int32))))
set_option maxHeartbeats 4000000 in
set_option maxRecDepth 100000 in
theorem c_X7_tellsWhy (l : Launch) (D : va_G) (cy : Nat → ClassId) (om : Nat → Nat) (om_thrown : Int32) (om_s : Nat → Int32) (om_kept : Nat → Int32) (om_aside : Nat → Int32) (om_isKept : Int32) (om_reaches : Nat → Int32) (om_ringOf : Nat → Int32) (om_rungOf : Nat → Int32) (om_rings : Nat → Int32) (om_paid : Nat → Int32) (om_leftOf : Nat → Int32) (om_ringPaid : Nat → Int32) (om_paidAll : Int32) (om_mosts : Nat → Int32) (om_text : Nat → Int32) (om_signs : Int32) (om_at : Int32) (om_isWrong : Int32) (om_clauses : Int32) (om_letters : Nat → Int32) (om_one : Nat → Int32) (om_two : Nat → Int32) (om_three : Nat → Int32) (om_whys : Nat → Int32) (om_backs : Nat → Int32) (om_sorts : Nat → Int32) (om_sizes : Nat → Int32) (om_items : Nat → Int64) (n : Nat) (r : Nat) (c : Nat) (ra : Nat) (hn : n ≤ 6) (hs0 : om_s 0 = nI n) (hrn : r ≤ 6) (hc : c < n) (hra6 : ra < 6) (hra : f_X7_rungAt om_rings r c = nI ra) : RwV (S := (Nat → Int32)) l D cy yX7_tellsWhy (.code yX7_tellsWhy cX7_tellsWhy 6 none) 2 (wX7 cy om om_thrown om_s om_kept om_aside om_isKept om_reaches om_ringOf om_rungOf om_rings (nI r) om_paid om_leftOf om_ringPaid om_paidAll om_mosts om_text om_signs om_at om_isWrong om_clauses om_letters om_one om_two om_three om_whys om_backs om_sorts om_sizes om_items) [.ref (om 0), .int (nI c)] (fun u => u = f_X7_tellsWhy om_s om_rings om_paid om_leftOf om_ringPaid om_whys n c ra) (fun u => wX7 cy om om_thrown om_s om_kept om_aside om_isKept om_reaches om_ringOf om_rungOf om_rings (nI r) om_paid om_leftOf om_ringPaid om_paidAll om_mosts om_text om_signs om_at om_isWrong om_clauses om_letters om_one om_two om_three u om_backs om_sorts om_sizes om_items) := by
  intro sz
  refine Met.ofW (cc := cX7_tellsWhy) (maxL := 6) (ret := none) (by decide) rfl ?_
  intro pP eE s0 mM args below meth cC s₁ B hml hv
  obtain ⟨rfl, hsz, hP, hKX, hD0⟩ := hv
  have hx := B.exec
  have hb := B.bytes
  have hr := B.returns
  have hG := gw_hts (atoms_spec (ws := _) B.pre)
  have hown : s0.vm.findClass RX7 = some mM.cls := findClass_of_methodNamed B.named
  have hlocks := B.notSynchronized
  subst hsz
  have hD := hD0.self (sz := s0.heap.size)
  generalize hAe : va_A (wX7 cy om om_thrown om_s om_kept om_aside om_isKept om_reaches om_ringOf om_rungOf om_rings (nI r) om_paid om_leftOf om_ringPaid om_paidAll om_mosts om_text om_signs om_at om_isWrong om_clauses om_letters om_one om_two om_three om_whys om_backs om_sorts om_sizes om_items) s0.heap.size = A at hD ⊢
  have hA : ∀ q : Nat, s0.heap.size ≤ q → A q := fun q h => by rw [← hAe]; exact Or.inr h
  have hS : va_S A s0.heap s0.heap [] := va_S.rf
  have hl := lv_entry ([.ref (om 0), .int (nI c)]) (n := 6) (Nat.le_of_ble_eq_true rfl)
  rw [lg_entry_eq]
  generalize (lg_sl ([.ref (om 0), .int (nI c)]) ++ List.replicate (6 - (lg_sl ([.ref (om 0), .int (nI c)])).length) Slot.unset).toArray = ls at hl ⊢
  have hl : lv_has ls 6 [(0, .ref (om 0)), (1, .int (nI c))] := hl
  refine lv_aload_n hx hb dX7_tellsWhy_0 rfl (lv_at hl 0 rfl) ?_
  refine lv_iload_n hx hb dX7_tellsWhy_1 rfl (lv_at hl 1 rfl) ?_
  refine cRoV (q0 := 0) (ci := 7) mw16_13 mw16_14 mw16_15 mw1_5 mw16_16 rfl rfl hd_X7_rungAt hx hb hml hown hG hKX (c_X7_rungAt l D cy om om_thrown om_s om_kept om_aside om_isKept om_reaches om_ringOf om_rungOf om_rings om_paid om_leftOf om_ringPaid om_paidAll om_mosts om_text om_signs om_at om_isWrong om_clauses om_letters om_one om_two om_three om_whys om_backs om_sorts om_sizes om_items n r c hn hs0 hrn hc) ⟨Nat.le_of_ble_eq_true rfl, Nat.le_of_ble_eq_true rfl⟩ ⟨Nat.zero_le _, Nat.zero_le _⟩ hP rfl rfl hl.1 rfl (Nat.le_of_ble_eq_true rfl) dX7_tellsWhy_2 ?_
  refine topi_eq (y := nI ra) hra ?_
  refine lv_istore_n (lv' := [(2, .int (nI ra)), (0, .ref (om 0)), (1, .int (nI c))]) hx hb dX7_tellsWhy_5 rfl hl (by decide) rfl (fun ls hl => ?_)
  refine lv_aload_n hx hb dX7_tellsWhy_6 rfl (lv_at hl 1 rfl) ?_
  refine gf_X7_40 hx hb hG hown hKX hP 0 rfl rfl dX7_tellsWhy_7 ?_
  refine lv_iload_n hx hb dX7_tellsWhy_10 rfl (lv_at hl 0 rfl) ?_
  refine iald_n hx hb hKX hP 9 rfl rfl (by omega) (by decide) dX7_tellsWhy_11 ?_
  refine lv_istore_n (lv' := [(3, .int (om_leftOf ra)), (2, .int (nI ra)), (0, .ref (om 0)), (1, .int (nI c))]) hx hb dX7_tellsWhy_12 rfl hl (by decide) rfl (fun ls hl => ?_)
  refine lv_aload_n hx hb dX7_tellsWhy_13 rfl (lv_at hl 2 rfl) ?_
  refine gf_X7_34 hx hb hG hown hKX hP 0 rfl rfl dX7_tellsWhy_14 ?_
  refine lv_iload_n hx hb dX7_tellsWhy_17 rfl (lv_at hl 1 rfl) ?_
  refine iald_n hx hb hKX hP 7 rfl rfl (by omega) (by decide) dX7_tellsWhy_18 ?_
  refine cRoS mw15_14 mw15_15 mw1_5 mw15_16 hd_X7_bits hx hb hml hown hG hKX (c_X7_bits l D cy (om_rings ra)) ⟨Nat.le_of_ble_eq_true rfl, Nat.le_of_ble_eq_true rfl⟩ ⟨Nat.zero_le _, Nat.zero_le _⟩ (hP.sub [] rfl) rfl hl.1 rfl (Nat.le_of_ble_eq_true rfl) dX7_tellsWhy_19 ?_
  refine lv_iconst (v := (1 : Int32)) hx hb dX7_tellsWhy_22 (by decide) ?_
  refine lv_icmp_ne (tgt := 30) hx hb dX7_tellsWhy_23 (by decide) (fun c1 => ?_) (fun c1 => ?_)
  · refine lv_iconst (v := (0 : Int32)) hx hb dX7_tellsWhy_30 (by decide) ?_
    refine lv_topi (fun v31 ev31 => ?_)
    refine lv_istore (lv' := [(4, .int v31), (3, .int (om_leftOf ra)), (2, .int (nI ra)), (0, .ref (om 0)), (1, .int (nI c))]) hx hb dX7_tellsWhy_31 hl (by decide) rfl (fun ls hl => ?_)
    refine lv_aload_n hx hb dX7_tellsWhy_33 rfl (lv_at hl 3 rfl) ?_
    refine lv_iconst (v := (0 : Int32)) hx hb dX7_tellsWhy_34 (by decide) ?_
    refine lv_bipush (v := (-5 : Int32)) hx hb dX7_tellsWhy_35 (by decide) ?_
    refine lv_bipush (v := (-5 : Int32)) hx hb dX7_tellsWhy_37 (by decide) ?_
    refine cRwVV (q0 := 0) (ci := 7) mw24_2 mw24_3 mw24_4 mw1_5 mw24_5 rfl rfl hd_X7_because hx hb hml hown hG hKX (c_X7_because l D cy om om_thrown om_s om_kept om_aside om_isKept om_reaches om_ringOf om_rungOf om_rings (nI r) om_paid om_leftOf om_ringPaid om_paidAll om_mosts om_text om_signs om_at om_isWrong om_clauses om_letters om_one om_two om_three om_whys om_backs om_sorts om_sizes om_items (0 : Int32) (-5 : Int32) (-5 : Int32)) ⟨Nat.le_of_ble_eq_true rfl, Nat.le_of_ble_eq_true rfl⟩ ⟨Nat.zero_le _, Nat.zero_le _⟩ hP hD hS hA [0, 1, 2, 3, 4, 5, 6, 7, 8, 9, 10, 11, 12, 13, 14, 15, 16, 17, 18, 19, 20, 21] [] [0, 1, 2, 3, 4, 5, 6, 7, 8, 9, 10, 11, 12, 13, 14, 15, 16, 17, 18, 19, 20, 21] (wr := []) (wn := fun u39 => wX7 cy om om_thrown om_s om_kept om_aside om_isKept om_reaches om_ringOf om_rungOf om_rings (nI r) om_paid om_leftOf om_ringPaid om_paidAll om_mosts om_text om_signs om_at om_isWrong om_clauses om_letters om_one om_two om_three u39 om_backs om_sorts om_sizes om_items) rfl (by decide) rfl (by decide) (by decide) (fun _ => rfl) (by decide) rfl rfl hl.1 rfl (Nat.le_of_ble_eq_true rfl) dX7_tellsWhy_39 (fun u39 H locs hw39 hP hD hS => ?_)
    refine lv_iload_n hx hb dX7_tellsWhy_42 rfl (lv_at hl 1 rfl) ?_
    refine lv_if_ne (tgt := 101) hx hb dX7_tellsWhy_43 (by decide) (fun c2 => ?_) (fun c2 => ?_)
    · refine lv_aload_n hx hb dX7_tellsWhy_101 rfl (lv_at hl 3 rfl) ?_
      refine gf_X7_37 hx hb hG hown hKX hP 0 rfl rfl dX7_tellsWhy_102 ?_
      refine lv_iload_n hx hb dX7_tellsWhy_105 rfl (lv_at hl 4 rfl) ?_
      refine iald_n hx hb hKX hP 8 rfl rfl (by omega) (by decide) dX7_tellsWhy_106 ?_
      refine lv_iload_n hx hb dX7_tellsWhy_107 rfl (lv_at hl 1 rfl) ?_
      refine lv_icmp_lt (tgt := 112) hx hb dX7_tellsWhy_108 (by decide) (fun c3 => ?_) (fun c3 => ?_)
      · refine lv_aload_n hx hb dX7_tellsWhy_112 rfl (lv_at hl 3 rfl) ?_
        refine gf_X7_15 hx hb hG hown hKX hP 0 rfl rfl dX7_tellsWhy_113 ?_
        refine lv_iconst (v := (5 : Int32)) hx hb dX7_tellsWhy_116 (by decide) ?_
        refine lv_iload_n hx hb dX7_tellsWhy_117 rfl (lv_at hl 4 rfl) ?_
        refine lv_iadd hx hb dX7_tellsWhy_118 ?_
        refine topi_eq (y := nI (5 + c)) (aN rfl rfl) ?_
        refine iald_n hx hb hKX hP 1 rfl rfl (by omega) (by decide) dX7_tellsWhy_119 ?_
        refine lv_iconst (v := (2 : Int32)) hx hb dX7_tellsWhy_120 (by decide) ?_
        refine lv_icmp_ne (tgt := 161) hx hb dX7_tellsWhy_121 (by decide) (fun c4 => ?_) (fun c4 => ?_)
        · refine lv_aload_n hx hb dX7_tellsWhy_161 rfl (lv_at hl 3 rfl) ?_
          refine lv_iload_n hx hb dX7_tellsWhy_162 rfl (lv_at hl 4 rfl) ?_
          refine lv_iload_n hx hb dX7_tellsWhy_163 rfl (lv_at hl 1 rfl) ?_
          refine cRoV (q0 := 0) (ci := 7) mw15_21 mw15_22 mw15_23 mw1_5 mw16_0 rfl rfl hd_X7_stead hx hb hml hown hG hKX (c_X7_stead l D cy om om_thrown om_s om_kept om_aside om_isKept om_reaches om_ringOf om_rungOf om_rings (nI r) om_paid om_leftOf om_ringPaid om_paidAll om_mosts om_text om_signs om_at om_isWrong om_clauses om_letters om_one om_two om_three u39 om_backs om_sorts om_sizes om_items (om_leftOf ra) n c hn hs0 hc) ⟨Nat.le_of_ble_eq_true rfl, Nat.le_of_ble_eq_true rfl⟩ ⟨Nat.zero_le _, Nat.zero_le _⟩ hP rfl rfl hl.1 rfl (Nat.le_of_ble_eq_true rfl) dX7_tellsWhy_164 ?_
          refine lv_aload_n hx hb dX7_tellsWhy_167 rfl (lv_at hl 3 rfl) ?_
          refine gf_X7_15 hx hb hG hown hKX hP 0 rfl rfl dX7_tellsWhy_168 ?_
          refine lv_bipush (v := (17 : Int32)) hx hb dX7_tellsWhy_171 (by decide) ?_
          refine lv_iload_n hx hb dX7_tellsWhy_173 rfl (lv_at hl 4 rfl) ?_
          refine lv_iadd hx hb dX7_tellsWhy_174 ?_
          refine topi_eq (y := nI (17 + c)) (aN rfl rfl) ?_
          refine iald_n hx hb hKX hP 1 rfl rfl (by omega) (by decide) dX7_tellsWhy_175 ?_
          refine lv_icmp_gt (tgt := 202) hx hb dX7_tellsWhy_176 (by decide) (fun c5 => ?_) (fun c5 => ?_)
          · refine lv_aload_n hx hb dX7_tellsWhy_202 rfl (lv_at hl 3 rfl) ?_
            refine gf_X7_37 hx hb hG hown hKX hP 0 rfl rfl dX7_tellsWhy_203 ?_
            refine lv_iload_n hx hb dX7_tellsWhy_206 rfl (lv_at hl 4 rfl) ?_
            refine iald_n hx hb hKX hP 8 rfl rfl (by omega) (by decide) dX7_tellsWhy_207 ?_
            refine lv_aload_n hx hb dX7_tellsWhy_208 rfl (lv_at hl 3 rfl) ?_
            refine gf_X7_15 hx hb hG hown hKX hP 0 rfl rfl dX7_tellsWhy_209 ?_
            refine lv_bipush (v := (11 : Int32)) hx hb dX7_tellsWhy_212 (by decide) ?_
            refine lv_iload_n hx hb dX7_tellsWhy_214 rfl (lv_at hl 4 rfl) ?_
            refine lv_iadd hx hb dX7_tellsWhy_215 ?_
            refine topi_eq (y := nI (11 + c)) (aN rfl rfl) ?_
            refine iald_n hx hb hKX hP 1 rfl rfl (by omega) (by decide) dX7_tellsWhy_216 ?_
            refine lv_icmp_ne (tgt := 239) hx hb dX7_tellsWhy_217 (by decide) (fun c6 => ?_) (fun c6 => ?_)
            · refine lv_iload hx hb dX7_tellsWhy_239 (lv_at hl 0 rfl) ?_
              refine lv_if_ne (tgt := 264) hx hb dX7_tellsWhy_241 (by decide) (fun c7 => ?_) (fun c7 => ?_)
              · refine lv_aload_n hx hb dX7_tellsWhy_264 rfl (lv_at hl 3 rfl) ?_
                refine lv_bipush (v := (6 : Int32)) hx hb dX7_tellsWhy_265 (by decide) ?_
                refine lv_iload_n hx hb dX7_tellsWhy_267 rfl (lv_at hl 1 rfl) ?_
                refine lv_aload_n hx hb dX7_tellsWhy_268 rfl (lv_at hl 3 rfl) ?_
                refine gf_X7_37 hx hb hG hown hKX hP 0 rfl rfl dX7_tellsWhy_269 ?_
                refine lv_iload_n hx hb dX7_tellsWhy_272 rfl (lv_at hl 4 rfl) ?_
                refine iald_n hx hb hKX hP 8 rfl rfl (by omega) (by decide) dX7_tellsWhy_273 ?_
                refine lv_isub hx hb dX7_tellsWhy_274 ?_
                refine lv_bipush (v := (-5 : Int32)) hx hb dX7_tellsWhy_275 (by decide) ?_
                refine cRwVV (q0 := 0) (ci := 7) mw24_2 mw24_3 mw24_4 mw1_5 mw24_5 rfl rfl hd_X7_because hx hb hml hown hG hKX (c_X7_because l D cy om om_thrown om_s om_kept om_aside om_isKept om_reaches om_ringOf om_rungOf om_rings (nI r) om_paid om_leftOf om_ringPaid om_paidAll om_mosts om_text om_signs om_at om_isWrong om_clauses om_letters om_one om_two om_three u39 om_backs om_sorts om_sizes om_items (6 : Int32) ((om_leftOf ra) - (om_paid c)) (-5 : Int32)) ⟨Nat.le_of_ble_eq_true rfl, Nat.le_of_ble_eq_true rfl⟩ ⟨Nat.zero_le _, Nat.zero_le _⟩ hP hD hS hA [0, 1, 2, 3, 4, 5, 6, 7, 8, 9, 10, 11, 12, 13, 14, 15, 16, 17, 18, 19, 20, 21] [] [0, 1, 2, 3, 4, 5, 6, 7, 8, 9, 10, 11, 12, 13, 14, 15, 16, 17, 18, 19, 20, 21] (wr := []) (wn := fun u277 => wX7 cy om om_thrown om_s om_kept om_aside om_isKept om_reaches om_ringOf om_rungOf om_rings (nI r) om_paid om_leftOf om_ringPaid om_paidAll om_mosts om_text om_signs om_at om_isWrong om_clauses om_letters om_one om_two om_three u277 om_backs om_sorts om_sizes om_items) rfl (by decide) rfl (by decide) (by decide) (fun _ => rfl) (by decide) rfl rfl hl.1 rfl (Nat.le_of_ble_eq_true rfl) dX7_tellsWhy_277 (fun u277 H locs hw277 hP hD hS => ?_)
                exact W.vret hx hb hr (fun t ht hW => ⟨⟨u277, rfl, by subst hw277; subst hw39; subst ev31; unfold f_X7_tellsWhy; rw [if_neg c1, if_neg c2, if_pos c3, if_neg c4, if_pos c5, if_neg c6, if_neg c7] <;> rfl, by rw [ht]; exact hP, hD⟩, hS.F ht⟩) hS.2.2 dX7_tellsWhy_280
              · refine lv_aload_n hx hb dX7_tellsWhy_244 rfl (lv_at hl 3 rfl) ?_
                refine lv_iconst (v := (5 : Int32)) hx hb dX7_tellsWhy_245 (by decide) ?_
                refine lv_aload_n hx hb dX7_tellsWhy_246 rfl (lv_at hl 3 rfl) ?_
                refine gf_X7_34 hx hb hG hown hKX hP 0 rfl rfl dX7_tellsWhy_247 ?_
                refine lv_iload_n hx hb dX7_tellsWhy_250 rfl (lv_at hl 2 rfl) ?_
                refine iald_n hx hb hKX hP 7 rfl rfl (by omega) (by decide) dX7_tellsWhy_251 ?_
                refine lv_aload_n hx hb dX7_tellsWhy_252 rfl (lv_at hl 3 rfl) ?_
                refine gf_X7_43 hx hb hG hown hKX hP 0 rfl rfl dX7_tellsWhy_253 ?_
                refine lv_iload_n hx hb dX7_tellsWhy_256 rfl (lv_at hl 2 rfl) ?_
                refine iald_n hx hb hKX hP 10 rfl rfl (by omega) (by decide) dX7_tellsWhy_257 ?_
                refine cRwVV (q0 := 0) (ci := 7) mw24_2 mw24_3 mw24_4 mw1_5 mw24_5 rfl rfl hd_X7_because hx hb hml hown hG hKX (c_X7_because l D cy om om_thrown om_s om_kept om_aside om_isKept om_reaches om_ringOf om_rungOf om_rings (nI r) om_paid om_leftOf om_ringPaid om_paidAll om_mosts om_text om_signs om_at om_isWrong om_clauses om_letters om_one om_two om_three u39 om_backs om_sorts om_sizes om_items (5 : Int32) (om_rings ra) (om_ringPaid ra)) ⟨Nat.le_of_ble_eq_true rfl, Nat.le_of_ble_eq_true rfl⟩ ⟨Nat.zero_le _, Nat.zero_le _⟩ hP hD hS hA [0, 1, 2, 3, 4, 5, 6, 7, 8, 9, 10, 11, 12, 13, 14, 15, 16, 17, 18, 19, 20, 21] [] [0, 1, 2, 3, 4, 5, 6, 7, 8, 9, 10, 11, 12, 13, 14, 15, 16, 17, 18, 19, 20, 21] (wr := []) (wn := fun u258 => wX7 cy om om_thrown om_s om_kept om_aside om_isKept om_reaches om_ringOf om_rungOf om_rings (nI r) om_paid om_leftOf om_ringPaid om_paidAll om_mosts om_text om_signs om_at om_isWrong om_clauses om_letters om_one om_two om_three u258 om_backs om_sorts om_sizes om_items) rfl (by decide) rfl (by decide) (by decide) (fun _ => rfl) (by decide) rfl rfl hl.1 rfl (Nat.le_of_ble_eq_true rfl) dX7_tellsWhy_258 (fun u258 H locs hw258 hP hD hS => ?_)
                refine lv_goto (tgt := 280) hx hb dX7_tellsWhy_261 (by decide) ?_
                exact W.vret hx hb hr (fun t ht hW => ⟨⟨u258, rfl, by subst hw258; subst hw39; subst ev31; unfold f_X7_tellsWhy; rw [if_neg c1, if_neg c2, if_pos c3, if_neg c4, if_pos c5, if_neg c6, if_pos c7] <;> rfl, by rw [ht]; exact hP, hD⟩, hS.F ht⟩) hS.2.2 dX7_tellsWhy_280
            · refine lv_aload_n hx hb dX7_tellsWhy_220 rfl (lv_at hl 3 rfl) ?_
              refine lv_iconst (v := (4 : Int32)) hx hb dX7_tellsWhy_221 (by decide) ?_
              refine lv_aload_n hx hb dX7_tellsWhy_222 rfl (lv_at hl 3 rfl) ?_
              refine gf_X7_15 hx hb hG hown hKX hP 0 rfl rfl dX7_tellsWhy_223 ?_
              refine lv_bipush (v := (11 : Int32)) hx hb dX7_tellsWhy_226 (by decide) ?_
              refine lv_iload_n hx hb dX7_tellsWhy_228 rfl (lv_at hl 4 rfl) ?_
              refine lv_iadd hx hb dX7_tellsWhy_229 ?_
              refine topi_eq (y := nI (11 + c)) (aN rfl rfl) ?_
              refine iald_n hx hb hKX hP 1 rfl rfl (by omega) (by decide) dX7_tellsWhy_230 ?_
              refine lv_bipush (v := (-5 : Int32)) hx hb dX7_tellsWhy_231 (by decide) ?_
              refine cRwVV (q0 := 0) (ci := 7) mw24_2 mw24_3 mw24_4 mw1_5 mw24_5 rfl rfl hd_X7_because hx hb hml hown hG hKX (c_X7_because l D cy om om_thrown om_s om_kept om_aside om_isKept om_reaches om_ringOf om_rungOf om_rings (nI r) om_paid om_leftOf om_ringPaid om_paidAll om_mosts om_text om_signs om_at om_isWrong om_clauses om_letters om_one om_two om_three u39 om_backs om_sorts om_sizes om_items (4 : Int32) (om_s (11 + c)) (-5 : Int32)) ⟨Nat.le_of_ble_eq_true rfl, Nat.le_of_ble_eq_true rfl⟩ ⟨Nat.zero_le _, Nat.zero_le _⟩ hP hD hS hA [0, 1, 2, 3, 4, 5, 6, 7, 8, 9, 10, 11, 12, 13, 14, 15, 16, 17, 18, 19, 20, 21] [] [0, 1, 2, 3, 4, 5, 6, 7, 8, 9, 10, 11, 12, 13, 14, 15, 16, 17, 18, 19, 20, 21] (wr := []) (wn := fun u233 => wX7 cy om om_thrown om_s om_kept om_aside om_isKept om_reaches om_ringOf om_rungOf om_rings (nI r) om_paid om_leftOf om_ringPaid om_paidAll om_mosts om_text om_signs om_at om_isWrong om_clauses om_letters om_one om_two om_three u233 om_backs om_sorts om_sizes om_items) rfl (by decide) rfl (by decide) (by decide) (fun _ => rfl) (by decide) rfl rfl hl.1 rfl (Nat.le_of_ble_eq_true rfl) dX7_tellsWhy_233 (fun u233 H locs hw233 hP hD hS => ?_)
              refine lv_goto (tgt := 280) hx hb dX7_tellsWhy_236 (by decide) ?_
              exact W.vret hx hb hr (fun t ht hW => ⟨⟨u233, rfl, by subst hw233; subst hw39; subst ev31; unfold f_X7_tellsWhy; rw [if_neg c1, if_neg c2, if_pos c3, if_neg c4, if_pos c5, if_pos c6] <;> rfl, by rw [ht]; exact hP, hD⟩, hS.F ht⟩) hS.2.2 dX7_tellsWhy_280
          · refine lv_aload_n hx hb dX7_tellsWhy_179 rfl (lv_at hl 3 rfl) ?_
            refine lv_iconst (v := (3 : Int32)) hx hb dX7_tellsWhy_180 (by decide) ?_
            refine lv_aload_n hx hb dX7_tellsWhy_181 rfl (lv_at hl 3 rfl) ?_
            refine lv_iload_n hx hb dX7_tellsWhy_182 rfl (lv_at hl 4 rfl) ?_
            refine lv_iload_n hx hb dX7_tellsWhy_183 rfl (lv_at hl 1 rfl) ?_
            refine cRoV (q0 := 0) (ci := 7) mw15_21 mw15_22 mw15_23 mw1_5 mw16_0 rfl rfl hd_X7_stead hx hb hml hown hG hKX (c_X7_stead l D cy om om_thrown om_s om_kept om_aside om_isKept om_reaches om_ringOf om_rungOf om_rings (nI r) om_paid om_leftOf om_ringPaid om_paidAll om_mosts om_text om_signs om_at om_isWrong om_clauses om_letters om_one om_two om_three u39 om_backs om_sorts om_sizes om_items (om_leftOf ra) n c hn hs0 hc) ⟨Nat.le_of_ble_eq_true rfl, Nat.le_of_ble_eq_true rfl⟩ ⟨Nat.zero_le _, Nat.zero_le _⟩ hP rfl rfl hl.1 rfl (Nat.le_of_ble_eq_true rfl) dX7_tellsWhy_184 ?_
            refine lv_aload_n hx hb dX7_tellsWhy_187 rfl (lv_at hl 3 rfl) ?_
            refine gf_X7_15 hx hb hG hown hKX hP 0 rfl rfl dX7_tellsWhy_188 ?_
            refine lv_bipush (v := (17 : Int32)) hx hb dX7_tellsWhy_191 (by decide) ?_
            refine lv_iload_n hx hb dX7_tellsWhy_193 rfl (lv_at hl 4 rfl) ?_
            refine lv_iadd hx hb dX7_tellsWhy_194 ?_
            refine topi_eq (y := nI (17 + c)) (aN rfl rfl) ?_
            refine iald_n hx hb hKX hP 1 rfl rfl (by omega) (by decide) dX7_tellsWhy_195 ?_
            refine cRwVV (q0 := 0) (ci := 7) mw24_2 mw24_3 mw24_4 mw1_5 mw24_5 rfl rfl hd_X7_because hx hb hml hown hG hKX (c_X7_because l D cy om om_thrown om_s om_kept om_aside om_isKept om_reaches om_ringOf om_rungOf om_rings (nI r) om_paid om_leftOf om_ringPaid om_paidAll om_mosts om_text om_signs om_at om_isWrong om_clauses om_letters om_one om_two om_three u39 om_backs om_sorts om_sizes om_items (3 : Int32) (f_X7_stead om_s (om_leftOf ra) c) (om_s (17 + c))) ⟨Nat.le_of_ble_eq_true rfl, Nat.le_of_ble_eq_true rfl⟩ ⟨Nat.zero_le _, Nat.zero_le _⟩ hP hD hS hA [0, 1, 2, 3, 4, 5, 6, 7, 8, 9, 10, 11, 12, 13, 14, 15, 16, 17, 18, 19, 20, 21] [] [0, 1, 2, 3, 4, 5, 6, 7, 8, 9, 10, 11, 12, 13, 14, 15, 16, 17, 18, 19, 20, 21] (wr := []) (wn := fun u196 => wX7 cy om om_thrown om_s om_kept om_aside om_isKept om_reaches om_ringOf om_rungOf om_rings (nI r) om_paid om_leftOf om_ringPaid om_paidAll om_mosts om_text om_signs om_at om_isWrong om_clauses om_letters om_one om_two om_three u196 om_backs om_sorts om_sizes om_items) rfl (by decide) rfl (by decide) (by decide) (fun _ => rfl) (by decide) rfl rfl hl.1 rfl (Nat.le_of_ble_eq_true rfl) dX7_tellsWhy_196 (fun u196 H locs hw196 hP hD hS => ?_)
            refine lv_goto (tgt := 280) hx hb dX7_tellsWhy_199 (by decide) ?_
            exact W.vret hx hb hr (fun t ht hW => ⟨⟨u196, rfl, by subst hw196; subst hw39; subst ev31; unfold f_X7_tellsWhy; rw [if_neg c1, if_neg c2, if_pos c3, if_neg c4, if_neg c5] <;> rfl, by rw [ht]; exact hP, hD⟩, hS.F ht⟩) hS.2.2 dX7_tellsWhy_280
        · refine lv_iload hx hb dX7_tellsWhy_124 (lv_at hl 0 rfl) ?_
          refine lv_if_eq (tgt := 161) hx hb dX7_tellsWhy_126 (by decide) (fun c8 => ?_) (fun c8 => ?_)
          · refine lv_aload_n hx hb dX7_tellsWhy_161 rfl (lv_at hl 3 rfl) ?_
            refine lv_iload_n hx hb dX7_tellsWhy_162 rfl (lv_at hl 4 rfl) ?_
            refine lv_iload_n hx hb dX7_tellsWhy_163 rfl (lv_at hl 1 rfl) ?_
            refine cRoV (q0 := 0) (ci := 7) mw15_21 mw15_22 mw15_23 mw1_5 mw16_0 rfl rfl hd_X7_stead hx hb hml hown hG hKX (c_X7_stead l D cy om om_thrown om_s om_kept om_aside om_isKept om_reaches om_ringOf om_rungOf om_rings (nI r) om_paid om_leftOf om_ringPaid om_paidAll om_mosts om_text om_signs om_at om_isWrong om_clauses om_letters om_one om_two om_three u39 om_backs om_sorts om_sizes om_items (om_leftOf ra) n c hn hs0 hc) ⟨Nat.le_of_ble_eq_true rfl, Nat.le_of_ble_eq_true rfl⟩ ⟨Nat.zero_le _, Nat.zero_le _⟩ hP rfl rfl hl.1 rfl (Nat.le_of_ble_eq_true rfl) dX7_tellsWhy_164 ?_
            refine lv_aload_n hx hb dX7_tellsWhy_167 rfl (lv_at hl 3 rfl) ?_
            refine gf_X7_15 hx hb hG hown hKX hP 0 rfl rfl dX7_tellsWhy_168 ?_
            refine lv_bipush (v := (17 : Int32)) hx hb dX7_tellsWhy_171 (by decide) ?_
            refine lv_iload_n hx hb dX7_tellsWhy_173 rfl (lv_at hl 4 rfl) ?_
            refine lv_iadd hx hb dX7_tellsWhy_174 ?_
            refine topi_eq (y := nI (17 + c)) (aN rfl rfl) ?_
            refine iald_n hx hb hKX hP 1 rfl rfl (by omega) (by decide) dX7_tellsWhy_175 ?_
            refine lv_icmp_gt (tgt := 202) hx hb dX7_tellsWhy_176 (by decide) (fun c9 => ?_) (fun c9 => ?_)
            · refine lv_aload_n hx hb dX7_tellsWhy_202 rfl (lv_at hl 3 rfl) ?_
              refine gf_X7_37 hx hb hG hown hKX hP 0 rfl rfl dX7_tellsWhy_203 ?_
              refine lv_iload_n hx hb dX7_tellsWhy_206 rfl (lv_at hl 4 rfl) ?_
              refine iald_n hx hb hKX hP 8 rfl rfl (by omega) (by decide) dX7_tellsWhy_207 ?_
              refine lv_aload_n hx hb dX7_tellsWhy_208 rfl (lv_at hl 3 rfl) ?_
              refine gf_X7_15 hx hb hG hown hKX hP 0 rfl rfl dX7_tellsWhy_209 ?_
              refine lv_bipush (v := (11 : Int32)) hx hb dX7_tellsWhy_212 (by decide) ?_
              refine lv_iload_n hx hb dX7_tellsWhy_214 rfl (lv_at hl 4 rfl) ?_
              refine lv_iadd hx hb dX7_tellsWhy_215 ?_
              refine topi_eq (y := nI (11 + c)) (aN rfl rfl) ?_
              refine iald_n hx hb hKX hP 1 rfl rfl (by omega) (by decide) dX7_tellsWhy_216 ?_
              refine lv_icmp_ne (tgt := 239) hx hb dX7_tellsWhy_217 (by decide) (fun c10 => ?_) (fun c10 => ?_)
              · refine lv_iload hx hb dX7_tellsWhy_239 (lv_at hl 0 rfl) ?_
                refine lv_if_ne (tgt := 264) hx hb dX7_tellsWhy_241 (by decide) (fun c11 => absurd c8 c11) (fun _ => ?_)
                refine lv_aload_n hx hb dX7_tellsWhy_244 rfl (lv_at hl 3 rfl) ?_
                refine lv_iconst (v := (5 : Int32)) hx hb dX7_tellsWhy_245 (by decide) ?_
                refine lv_aload_n hx hb dX7_tellsWhy_246 rfl (lv_at hl 3 rfl) ?_
                refine gf_X7_34 hx hb hG hown hKX hP 0 rfl rfl dX7_tellsWhy_247 ?_
                refine lv_iload_n hx hb dX7_tellsWhy_250 rfl (lv_at hl 2 rfl) ?_
                refine iald_n hx hb hKX hP 7 rfl rfl (by omega) (by decide) dX7_tellsWhy_251 ?_
                refine lv_aload_n hx hb dX7_tellsWhy_252 rfl (lv_at hl 3 rfl) ?_
                refine gf_X7_43 hx hb hG hown hKX hP 0 rfl rfl dX7_tellsWhy_253 ?_
                refine lv_iload_n hx hb dX7_tellsWhy_256 rfl (lv_at hl 2 rfl) ?_
                refine iald_n hx hb hKX hP 10 rfl rfl (by omega) (by decide) dX7_tellsWhy_257 ?_
                refine cRwVV (q0 := 0) (ci := 7) mw24_2 mw24_3 mw24_4 mw1_5 mw24_5 rfl rfl hd_X7_because hx hb hml hown hG hKX (c_X7_because l D cy om om_thrown om_s om_kept om_aside om_isKept om_reaches om_ringOf om_rungOf om_rings (nI r) om_paid om_leftOf om_ringPaid om_paidAll om_mosts om_text om_signs om_at om_isWrong om_clauses om_letters om_one om_two om_three u39 om_backs om_sorts om_sizes om_items (5 : Int32) (om_rings ra) (om_ringPaid ra)) ⟨Nat.le_of_ble_eq_true rfl, Nat.le_of_ble_eq_true rfl⟩ ⟨Nat.zero_le _, Nat.zero_le _⟩ hP hD hS hA [0, 1, 2, 3, 4, 5, 6, 7, 8, 9, 10, 11, 12, 13, 14, 15, 16, 17, 18, 19, 20, 21] [] [0, 1, 2, 3, 4, 5, 6, 7, 8, 9, 10, 11, 12, 13, 14, 15, 16, 17, 18, 19, 20, 21] (wr := []) (wn := fun u258 => wX7 cy om om_thrown om_s om_kept om_aside om_isKept om_reaches om_ringOf om_rungOf om_rings (nI r) om_paid om_leftOf om_ringPaid om_paidAll om_mosts om_text om_signs om_at om_isWrong om_clauses om_letters om_one om_two om_three u258 om_backs om_sorts om_sizes om_items) rfl (by decide) rfl (by decide) (by decide) (fun _ => rfl) (by decide) rfl rfl hl.1 rfl (Nat.le_of_ble_eq_true rfl) dX7_tellsWhy_258 (fun u258 H locs hw258 hP hD hS => ?_)
                refine lv_goto (tgt := 280) hx hb dX7_tellsWhy_261 (by decide) ?_
                exact W.vret hx hb hr (fun t ht hW => ⟨⟨u258, rfl, by subst hw258; subst hw39; subst ev31; unfold f_X7_tellsWhy; rw [if_neg c1, if_neg c2, if_pos c3, if_pos c4, if_pos c8, if_pos c9, if_neg c10] <;> rfl, by rw [ht]; exact hP, hD⟩, hS.F ht⟩) hS.2.2 dX7_tellsWhy_280
              · refine lv_aload_n hx hb dX7_tellsWhy_220 rfl (lv_at hl 3 rfl) ?_
                refine lv_iconst (v := (4 : Int32)) hx hb dX7_tellsWhy_221 (by decide) ?_
                refine lv_aload_n hx hb dX7_tellsWhy_222 rfl (lv_at hl 3 rfl) ?_
                refine gf_X7_15 hx hb hG hown hKX hP 0 rfl rfl dX7_tellsWhy_223 ?_
                refine lv_bipush (v := (11 : Int32)) hx hb dX7_tellsWhy_226 (by decide) ?_
                refine lv_iload_n hx hb dX7_tellsWhy_228 rfl (lv_at hl 4 rfl) ?_
                refine lv_iadd hx hb dX7_tellsWhy_229 ?_
                refine topi_eq (y := nI (11 + c)) (aN rfl rfl) ?_
                refine iald_n hx hb hKX hP 1 rfl rfl (by omega) (by decide) dX7_tellsWhy_230 ?_
                refine lv_bipush (v := (-5 : Int32)) hx hb dX7_tellsWhy_231 (by decide) ?_
                refine cRwVV (q0 := 0) (ci := 7) mw24_2 mw24_3 mw24_4 mw1_5 mw24_5 rfl rfl hd_X7_because hx hb hml hown hG hKX (c_X7_because l D cy om om_thrown om_s om_kept om_aside om_isKept om_reaches om_ringOf om_rungOf om_rings (nI r) om_paid om_leftOf om_ringPaid om_paidAll om_mosts om_text om_signs om_at om_isWrong om_clauses om_letters om_one om_two om_three u39 om_backs om_sorts om_sizes om_items (4 : Int32) (om_s (11 + c)) (-5 : Int32)) ⟨Nat.le_of_ble_eq_true rfl, Nat.le_of_ble_eq_true rfl⟩ ⟨Nat.zero_le _, Nat.zero_le _⟩ hP hD hS hA [0, 1, 2, 3, 4, 5, 6, 7, 8, 9, 10, 11, 12, 13, 14, 15, 16, 17, 18, 19, 20, 21] [] [0, 1, 2, 3, 4, 5, 6, 7, 8, 9, 10, 11, 12, 13, 14, 15, 16, 17, 18, 19, 20, 21] (wr := []) (wn := fun u233 => wX7 cy om om_thrown om_s om_kept om_aside om_isKept om_reaches om_ringOf om_rungOf om_rings (nI r) om_paid om_leftOf om_ringPaid om_paidAll om_mosts om_text om_signs om_at om_isWrong om_clauses om_letters om_one om_two om_three u233 om_backs om_sorts om_sizes om_items) rfl (by decide) rfl (by decide) (by decide) (fun _ => rfl) (by decide) rfl rfl hl.1 rfl (Nat.le_of_ble_eq_true rfl) dX7_tellsWhy_233 (fun u233 H locs hw233 hP hD hS => ?_)
                refine lv_goto (tgt := 280) hx hb dX7_tellsWhy_236 (by decide) ?_
                exact W.vret hx hb hr (fun t ht hW => ⟨⟨u233, rfl, by subst hw233; subst hw39; subst ev31; unfold f_X7_tellsWhy; rw [if_neg c1, if_neg c2, if_pos c3, if_pos c4, if_pos c8, if_pos c9, if_pos c10] <;> rfl, by rw [ht]; exact hP, hD⟩, hS.F ht⟩) hS.2.2 dX7_tellsWhy_280
            · refine lv_aload_n hx hb dX7_tellsWhy_179 rfl (lv_at hl 3 rfl) ?_
              refine lv_iconst (v := (3 : Int32)) hx hb dX7_tellsWhy_180 (by decide) ?_
              refine lv_aload_n hx hb dX7_tellsWhy_181 rfl (lv_at hl 3 rfl) ?_
              refine lv_iload_n hx hb dX7_tellsWhy_182 rfl (lv_at hl 4 rfl) ?_
              refine lv_iload_n hx hb dX7_tellsWhy_183 rfl (lv_at hl 1 rfl) ?_
              refine cRoV (q0 := 0) (ci := 7) mw15_21 mw15_22 mw15_23 mw1_5 mw16_0 rfl rfl hd_X7_stead hx hb hml hown hG hKX (c_X7_stead l D cy om om_thrown om_s om_kept om_aside om_isKept om_reaches om_ringOf om_rungOf om_rings (nI r) om_paid om_leftOf om_ringPaid om_paidAll om_mosts om_text om_signs om_at om_isWrong om_clauses om_letters om_one om_two om_three u39 om_backs om_sorts om_sizes om_items (om_leftOf ra) n c hn hs0 hc) ⟨Nat.le_of_ble_eq_true rfl, Nat.le_of_ble_eq_true rfl⟩ ⟨Nat.zero_le _, Nat.zero_le _⟩ hP rfl rfl hl.1 rfl (Nat.le_of_ble_eq_true rfl) dX7_tellsWhy_184 ?_
              refine lv_aload_n hx hb dX7_tellsWhy_187 rfl (lv_at hl 3 rfl) ?_
              refine gf_X7_15 hx hb hG hown hKX hP 0 rfl rfl dX7_tellsWhy_188 ?_
              refine lv_bipush (v := (17 : Int32)) hx hb dX7_tellsWhy_191 (by decide) ?_
              refine lv_iload_n hx hb dX7_tellsWhy_193 rfl (lv_at hl 4 rfl) ?_
              refine lv_iadd hx hb dX7_tellsWhy_194 ?_
              refine topi_eq (y := nI (17 + c)) (aN rfl rfl) ?_
              refine iald_n hx hb hKX hP 1 rfl rfl (by omega) (by decide) dX7_tellsWhy_195 ?_
              refine cRwVV (q0 := 0) (ci := 7) mw24_2 mw24_3 mw24_4 mw1_5 mw24_5 rfl rfl hd_X7_because hx hb hml hown hG hKX (c_X7_because l D cy om om_thrown om_s om_kept om_aside om_isKept om_reaches om_ringOf om_rungOf om_rings (nI r) om_paid om_leftOf om_ringPaid om_paidAll om_mosts om_text om_signs om_at om_isWrong om_clauses om_letters om_one om_two om_three u39 om_backs om_sorts om_sizes om_items (3 : Int32) (f_X7_stead om_s (om_leftOf ra) c) (om_s (17 + c))) ⟨Nat.le_of_ble_eq_true rfl, Nat.le_of_ble_eq_true rfl⟩ ⟨Nat.zero_le _, Nat.zero_le _⟩ hP hD hS hA [0, 1, 2, 3, 4, 5, 6, 7, 8, 9, 10, 11, 12, 13, 14, 15, 16, 17, 18, 19, 20, 21] [] [0, 1, 2, 3, 4, 5, 6, 7, 8, 9, 10, 11, 12, 13, 14, 15, 16, 17, 18, 19, 20, 21] (wr := []) (wn := fun u196 => wX7 cy om om_thrown om_s om_kept om_aside om_isKept om_reaches om_ringOf om_rungOf om_rings (nI r) om_paid om_leftOf om_ringPaid om_paidAll om_mosts om_text om_signs om_at om_isWrong om_clauses om_letters om_one om_two om_three u196 om_backs om_sorts om_sizes om_items) rfl (by decide) rfl (by decide) (by decide) (fun _ => rfl) (by decide) rfl rfl hl.1 rfl (Nat.le_of_ble_eq_true rfl) dX7_tellsWhy_196 (fun u196 H locs hw196 hP hD hS => ?_)
              refine lv_goto (tgt := 280) hx hb dX7_tellsWhy_199 (by decide) ?_
              exact W.vret hx hb hr (fun t ht hW => ⟨⟨u196, rfl, by subst hw196; subst hw39; subst ev31; unfold f_X7_tellsWhy; rw [if_neg c1, if_neg c2, if_pos c3, if_pos c4, if_pos c8, if_neg c9] <;> rfl, by rw [ht]; exact hP, hD⟩, hS.F ht⟩) hS.2.2 dX7_tellsWhy_280
          · refine lv_aload_n hx hb dX7_tellsWhy_129 rfl (lv_at hl 3 rfl) ?_
            refine lv_iload_n hx hb dX7_tellsWhy_130 rfl (lv_at hl 4 rfl) ?_
            refine cRoV (q0 := 0) (ci := 7) mw16_9 mw16_10 mw16_11 mw1_5 mw16_12 rfl rfl hd_X7_payer hx hb hml hown hG hKX (c_X7_payer l D cy om om_thrown om_s om_kept om_aside om_isKept om_reaches om_ringOf om_rungOf om_rings (nI r) om_paid om_leftOf om_ringPaid om_paidAll om_mosts om_text om_signs om_at om_isWrong om_clauses om_letters om_one om_two om_three u39 om_backs om_sorts om_sizes om_items n c hn hs0 hc) ⟨Nat.le_of_ble_eq_true rfl, Nat.le_of_ble_eq_true rfl⟩ ⟨Nat.zero_le _, Nat.zero_le _⟩ hP rfl rfl hl.1 rfl (Nat.le_of_ble_eq_true rfl) dX7_tellsWhy_131 ?_
            refine lv_iconst (v := (-1 : Int32)) hx hb dX7_tellsWhy_134 (by decide) ?_
            refine lv_icmp_eq (tgt := 161) hx hb dX7_tellsWhy_135 (by decide) (fun c12 => ?_) (fun c12 => ?_)
            · refine lv_aload_n hx hb dX7_tellsWhy_161 rfl (lv_at hl 3 rfl) ?_
              refine lv_iload_n hx hb dX7_tellsWhy_162 rfl (lv_at hl 4 rfl) ?_
              refine lv_iload_n hx hb dX7_tellsWhy_163 rfl (lv_at hl 1 rfl) ?_
              refine cRoV (q0 := 0) (ci := 7) mw15_21 mw15_22 mw15_23 mw1_5 mw16_0 rfl rfl hd_X7_stead hx hb hml hown hG hKX (c_X7_stead l D cy om om_thrown om_s om_kept om_aside om_isKept om_reaches om_ringOf om_rungOf om_rings (nI r) om_paid om_leftOf om_ringPaid om_paidAll om_mosts om_text om_signs om_at om_isWrong om_clauses om_letters om_one om_two om_three u39 om_backs om_sorts om_sizes om_items (om_leftOf ra) n c hn hs0 hc) ⟨Nat.le_of_ble_eq_true rfl, Nat.le_of_ble_eq_true rfl⟩ ⟨Nat.zero_le _, Nat.zero_le _⟩ hP rfl rfl hl.1 rfl (Nat.le_of_ble_eq_true rfl) dX7_tellsWhy_164 ?_
              refine lv_aload_n hx hb dX7_tellsWhy_167 rfl (lv_at hl 3 rfl) ?_
              refine gf_X7_15 hx hb hG hown hKX hP 0 rfl rfl dX7_tellsWhy_168 ?_
              refine lv_bipush (v := (17 : Int32)) hx hb dX7_tellsWhy_171 (by decide) ?_
              refine lv_iload_n hx hb dX7_tellsWhy_173 rfl (lv_at hl 4 rfl) ?_
              refine lv_iadd hx hb dX7_tellsWhy_174 ?_
              refine topi_eq (y := nI (17 + c)) (aN rfl rfl) ?_
              refine iald_n hx hb hKX hP 1 rfl rfl (by omega) (by decide) dX7_tellsWhy_175 ?_
              refine lv_icmp_gt (tgt := 202) hx hb dX7_tellsWhy_176 (by decide) (fun c13 => ?_) (fun c13 => ?_)
              · refine lv_aload_n hx hb dX7_tellsWhy_202 rfl (lv_at hl 3 rfl) ?_
                refine gf_X7_37 hx hb hG hown hKX hP 0 rfl rfl dX7_tellsWhy_203 ?_
                refine lv_iload_n hx hb dX7_tellsWhy_206 rfl (lv_at hl 4 rfl) ?_
                refine iald_n hx hb hKX hP 8 rfl rfl (by omega) (by decide) dX7_tellsWhy_207 ?_
                refine lv_aload_n hx hb dX7_tellsWhy_208 rfl (lv_at hl 3 rfl) ?_
                refine gf_X7_15 hx hb hG hown hKX hP 0 rfl rfl dX7_tellsWhy_209 ?_
                refine lv_bipush (v := (11 : Int32)) hx hb dX7_tellsWhy_212 (by decide) ?_
                refine lv_iload_n hx hb dX7_tellsWhy_214 rfl (lv_at hl 4 rfl) ?_
                refine lv_iadd hx hb dX7_tellsWhy_215 ?_
                refine topi_eq (y := nI (11 + c)) (aN rfl rfl) ?_
                refine iald_n hx hb hKX hP 1 rfl rfl (by omega) (by decide) dX7_tellsWhy_216 ?_
                refine lv_icmp_ne (tgt := 239) hx hb dX7_tellsWhy_217 (by decide) (fun c14 => ?_) (fun c14 => ?_)
                · refine lv_iload hx hb dX7_tellsWhy_239 (lv_at hl 0 rfl) ?_
                  refine lv_if_ne (tgt := 264) hx hb dX7_tellsWhy_241 (by decide) (fun _ => ?_) (fun c15 => absurd c15 c8)
                  refine lv_aload_n hx hb dX7_tellsWhy_264 rfl (lv_at hl 3 rfl) ?_
                  refine lv_bipush (v := (6 : Int32)) hx hb dX7_tellsWhy_265 (by decide) ?_
                  refine lv_iload_n hx hb dX7_tellsWhy_267 rfl (lv_at hl 1 rfl) ?_
                  refine lv_aload_n hx hb dX7_tellsWhy_268 rfl (lv_at hl 3 rfl) ?_
                  refine gf_X7_37 hx hb hG hown hKX hP 0 rfl rfl dX7_tellsWhy_269 ?_
                  refine lv_iload_n hx hb dX7_tellsWhy_272 rfl (lv_at hl 4 rfl) ?_
                  refine iald_n hx hb hKX hP 8 rfl rfl (by omega) (by decide) dX7_tellsWhy_273 ?_
                  refine lv_isub hx hb dX7_tellsWhy_274 ?_
                  refine lv_bipush (v := (-5 : Int32)) hx hb dX7_tellsWhy_275 (by decide) ?_
                  refine cRwVV (q0 := 0) (ci := 7) mw24_2 mw24_3 mw24_4 mw1_5 mw24_5 rfl rfl hd_X7_because hx hb hml hown hG hKX (c_X7_because l D cy om om_thrown om_s om_kept om_aside om_isKept om_reaches om_ringOf om_rungOf om_rings (nI r) om_paid om_leftOf om_ringPaid om_paidAll om_mosts om_text om_signs om_at om_isWrong om_clauses om_letters om_one om_two om_three u39 om_backs om_sorts om_sizes om_items (6 : Int32) ((om_leftOf ra) - (om_paid c)) (-5 : Int32)) ⟨Nat.le_of_ble_eq_true rfl, Nat.le_of_ble_eq_true rfl⟩ ⟨Nat.zero_le _, Nat.zero_le _⟩ hP hD hS hA [0, 1, 2, 3, 4, 5, 6, 7, 8, 9, 10, 11, 12, 13, 14, 15, 16, 17, 18, 19, 20, 21] [] [0, 1, 2, 3, 4, 5, 6, 7, 8, 9, 10, 11, 12, 13, 14, 15, 16, 17, 18, 19, 20, 21] (wr := []) (wn := fun u277 => wX7 cy om om_thrown om_s om_kept om_aside om_isKept om_reaches om_ringOf om_rungOf om_rings (nI r) om_paid om_leftOf om_ringPaid om_paidAll om_mosts om_text om_signs om_at om_isWrong om_clauses om_letters om_one om_two om_three u277 om_backs om_sorts om_sizes om_items) rfl (by decide) rfl (by decide) (by decide) (fun _ => rfl) (by decide) rfl rfl hl.1 rfl (Nat.le_of_ble_eq_true rfl) dX7_tellsWhy_277 (fun u277 H locs hw277 hP hD hS => ?_)
                  exact W.vret hx hb hr (fun t ht hW => ⟨⟨u277, rfl, by subst hw277; subst hw39; subst ev31; unfold f_X7_tellsWhy; rw [if_neg c1, if_neg c2, if_pos c3, if_pos c4, if_neg c8, if_pos c12, if_pos c13, if_neg c14] <;> rfl, by rw [ht]; exact hP, hD⟩, hS.F ht⟩) hS.2.2 dX7_tellsWhy_280
                · refine lv_aload_n hx hb dX7_tellsWhy_220 rfl (lv_at hl 3 rfl) ?_
                  refine lv_iconst (v := (4 : Int32)) hx hb dX7_tellsWhy_221 (by decide) ?_
                  refine lv_aload_n hx hb dX7_tellsWhy_222 rfl (lv_at hl 3 rfl) ?_
                  refine gf_X7_15 hx hb hG hown hKX hP 0 rfl rfl dX7_tellsWhy_223 ?_
                  refine lv_bipush (v := (11 : Int32)) hx hb dX7_tellsWhy_226 (by decide) ?_
                  refine lv_iload_n hx hb dX7_tellsWhy_228 rfl (lv_at hl 4 rfl) ?_
                  refine lv_iadd hx hb dX7_tellsWhy_229 ?_
                  refine topi_eq (y := nI (11 + c)) (aN rfl rfl) ?_
                  refine iald_n hx hb hKX hP 1 rfl rfl (by omega) (by decide) dX7_tellsWhy_230 ?_
                  refine lv_bipush (v := (-5 : Int32)) hx hb dX7_tellsWhy_231 (by decide) ?_
                  refine cRwVV (q0 := 0) (ci := 7) mw24_2 mw24_3 mw24_4 mw1_5 mw24_5 rfl rfl hd_X7_because hx hb hml hown hG hKX (c_X7_because l D cy om om_thrown om_s om_kept om_aside om_isKept om_reaches om_ringOf om_rungOf om_rings (nI r) om_paid om_leftOf om_ringPaid om_paidAll om_mosts om_text om_signs om_at om_isWrong om_clauses om_letters om_one om_two om_three u39 om_backs om_sorts om_sizes om_items (4 : Int32) (om_s (11 + c)) (-5 : Int32)) ⟨Nat.le_of_ble_eq_true rfl, Nat.le_of_ble_eq_true rfl⟩ ⟨Nat.zero_le _, Nat.zero_le _⟩ hP hD hS hA [0, 1, 2, 3, 4, 5, 6, 7, 8, 9, 10, 11, 12, 13, 14, 15, 16, 17, 18, 19, 20, 21] [] [0, 1, 2, 3, 4, 5, 6, 7, 8, 9, 10, 11, 12, 13, 14, 15, 16, 17, 18, 19, 20, 21] (wr := []) (wn := fun u233 => wX7 cy om om_thrown om_s om_kept om_aside om_isKept om_reaches om_ringOf om_rungOf om_rings (nI r) om_paid om_leftOf om_ringPaid om_paidAll om_mosts om_text om_signs om_at om_isWrong om_clauses om_letters om_one om_two om_three u233 om_backs om_sorts om_sizes om_items) rfl (by decide) rfl (by decide) (by decide) (fun _ => rfl) (by decide) rfl rfl hl.1 rfl (Nat.le_of_ble_eq_true rfl) dX7_tellsWhy_233 (fun u233 H locs hw233 hP hD hS => ?_)
                  refine lv_goto (tgt := 280) hx hb dX7_tellsWhy_236 (by decide) ?_
                  exact W.vret hx hb hr (fun t ht hW => ⟨⟨u233, rfl, by subst hw233; subst hw39; subst ev31; unfold f_X7_tellsWhy; rw [if_neg c1, if_neg c2, if_pos c3, if_pos c4, if_neg c8, if_pos c12, if_pos c13, if_pos c14] <;> rfl, by rw [ht]; exact hP, hD⟩, hS.F ht⟩) hS.2.2 dX7_tellsWhy_280
              · refine lv_aload_n hx hb dX7_tellsWhy_179 rfl (lv_at hl 3 rfl) ?_
                refine lv_iconst (v := (3 : Int32)) hx hb dX7_tellsWhy_180 (by decide) ?_
                refine lv_aload_n hx hb dX7_tellsWhy_181 rfl (lv_at hl 3 rfl) ?_
                refine lv_iload_n hx hb dX7_tellsWhy_182 rfl (lv_at hl 4 rfl) ?_
                refine lv_iload_n hx hb dX7_tellsWhy_183 rfl (lv_at hl 1 rfl) ?_
                refine cRoV (q0 := 0) (ci := 7) mw15_21 mw15_22 mw15_23 mw1_5 mw16_0 rfl rfl hd_X7_stead hx hb hml hown hG hKX (c_X7_stead l D cy om om_thrown om_s om_kept om_aside om_isKept om_reaches om_ringOf om_rungOf om_rings (nI r) om_paid om_leftOf om_ringPaid om_paidAll om_mosts om_text om_signs om_at om_isWrong om_clauses om_letters om_one om_two om_three u39 om_backs om_sorts om_sizes om_items (om_leftOf ra) n c hn hs0 hc) ⟨Nat.le_of_ble_eq_true rfl, Nat.le_of_ble_eq_true rfl⟩ ⟨Nat.zero_le _, Nat.zero_le _⟩ hP rfl rfl hl.1 rfl (Nat.le_of_ble_eq_true rfl) dX7_tellsWhy_184 ?_
                refine lv_aload_n hx hb dX7_tellsWhy_187 rfl (lv_at hl 3 rfl) ?_
                refine gf_X7_15 hx hb hG hown hKX hP 0 rfl rfl dX7_tellsWhy_188 ?_
                refine lv_bipush (v := (17 : Int32)) hx hb dX7_tellsWhy_191 (by decide) ?_
                refine lv_iload_n hx hb dX7_tellsWhy_193 rfl (lv_at hl 4 rfl) ?_
                refine lv_iadd hx hb dX7_tellsWhy_194 ?_
                refine topi_eq (y := nI (17 + c)) (aN rfl rfl) ?_
                refine iald_n hx hb hKX hP 1 rfl rfl (by omega) (by decide) dX7_tellsWhy_195 ?_
                refine cRwVV (q0 := 0) (ci := 7) mw24_2 mw24_3 mw24_4 mw1_5 mw24_5 rfl rfl hd_X7_because hx hb hml hown hG hKX (c_X7_because l D cy om om_thrown om_s om_kept om_aside om_isKept om_reaches om_ringOf om_rungOf om_rings (nI r) om_paid om_leftOf om_ringPaid om_paidAll om_mosts om_text om_signs om_at om_isWrong om_clauses om_letters om_one om_two om_three u39 om_backs om_sorts om_sizes om_items (3 : Int32) (f_X7_stead om_s (om_leftOf ra) c) (om_s (17 + c))) ⟨Nat.le_of_ble_eq_true rfl, Nat.le_of_ble_eq_true rfl⟩ ⟨Nat.zero_le _, Nat.zero_le _⟩ hP hD hS hA [0, 1, 2, 3, 4, 5, 6, 7, 8, 9, 10, 11, 12, 13, 14, 15, 16, 17, 18, 19, 20, 21] [] [0, 1, 2, 3, 4, 5, 6, 7, 8, 9, 10, 11, 12, 13, 14, 15, 16, 17, 18, 19, 20, 21] (wr := []) (wn := fun u196 => wX7 cy om om_thrown om_s om_kept om_aside om_isKept om_reaches om_ringOf om_rungOf om_rings (nI r) om_paid om_leftOf om_ringPaid om_paidAll om_mosts om_text om_signs om_at om_isWrong om_clauses om_letters om_one om_two om_three u196 om_backs om_sorts om_sizes om_items) rfl (by decide) rfl (by decide) (by decide) (fun _ => rfl) (by decide) rfl rfl hl.1 rfl (Nat.le_of_ble_eq_true rfl) dX7_tellsWhy_196 (fun u196 H locs hw196 hP hD hS => ?_)
                refine lv_goto (tgt := 280) hx hb dX7_tellsWhy_199 (by decide) ?_
                exact W.vret hx hb hr (fun t ht hW => ⟨⟨u196, rfl, by subst hw196; subst hw39; subst ev31; unfold f_X7_tellsWhy; rw [if_neg c1, if_neg c2, if_pos c3, if_pos c4, if_neg c8, if_pos c12, if_neg c13] <;> rfl, by rw [ht]; exact hP, hD⟩, hS.F ht⟩) hS.2.2 dX7_tellsWhy_280
            · obtain ⟨j280, hj280, hlj280, hcj280⟩ := pyr_of (by omega) c12
              refine lv_aload_n hx hb dX7_tellsWhy_138 rfl (lv_at hl 3 rfl) ?_
              refine lv_iconst (v := (2 : Int32)) hx hb dX7_tellsWhy_139 (by decide) ?_
              refine lv_aload_n hx hb dX7_tellsWhy_140 rfl (lv_at hl 3 rfl) ?_
              refine lv_iload_n hx hb dX7_tellsWhy_141 rfl (lv_at hl 4 rfl) ?_
              refine cRoV (q0 := 0) (ci := 7) mw16_9 mw16_10 mw16_11 mw1_5 mw16_12 rfl rfl hd_X7_payer hx hb hml hown hG hKX (c_X7_payer l D cy om om_thrown om_s om_kept om_aside om_isKept om_reaches om_ringOf om_rungOf om_rings (nI r) om_paid om_leftOf om_ringPaid om_paidAll om_mosts om_text om_signs om_at om_isWrong om_clauses om_letters om_one om_two om_three u39 om_backs om_sorts om_sizes om_items n c hn hs0 hc) ⟨Nat.le_of_ble_eq_true rfl, Nat.le_of_ble_eq_true rfl⟩ ⟨Nat.zero_le _, Nat.zero_le _⟩ hP rfl rfl hl.1 rfl (Nat.le_of_ble_eq_true rfl) dX7_tellsWhy_142 ?_
              refine lv_aload_n hx hb dX7_tellsWhy_145 rfl (lv_at hl 3 rfl) ?_
              refine gf_X7_37 hx hb hG hown hKX hP 0 rfl rfl dX7_tellsWhy_146 ?_
              refine lv_aload_n hx hb dX7_tellsWhy_149 rfl (lv_at hl 3 rfl) ?_
              refine lv_iload_n hx hb dX7_tellsWhy_150 rfl (lv_at hl 4 rfl) ?_
              refine cRoV (q0 := 0) (ci := 7) mw16_9 mw16_10 mw16_11 mw1_5 mw16_12 rfl rfl hd_X7_payer hx hb hml hown hG hKX (c_X7_payer l D cy om om_thrown om_s om_kept om_aside om_isKept om_reaches om_ringOf om_rungOf om_rings (nI r) om_paid om_leftOf om_ringPaid om_paidAll om_mosts om_text om_signs om_at om_isWrong om_clauses om_letters om_one om_two om_three u39 om_backs om_sorts om_sizes om_items n c hn hs0 hc) ⟨Nat.le_of_ble_eq_true rfl, Nat.le_of_ble_eq_true rfl⟩ ⟨Nat.zero_le _, Nat.zero_le _⟩ hP rfl rfl hl.1 rfl (Nat.le_of_ble_eq_true rfl) dX7_tellsWhy_151 ?_
              refine iald_n hx hb hKX hP 8 rfl hcj280 (by omega) (by decide) dX7_tellsWhy_154 ?_
              refine cRwVV (q0 := 0) (ci := 7) mw24_2 mw24_3 mw24_4 mw1_5 mw24_5 rfl rfl hd_X7_because hx hb hml hown hG hKX (c_X7_because l D cy om om_thrown om_s om_kept om_aside om_isKept om_reaches om_ringOf om_rungOf om_rings (nI r) om_paid om_leftOf om_ringPaid om_paidAll om_mosts om_text om_signs om_at om_isWrong om_clauses om_letters om_one om_two om_three u39 om_backs om_sorts om_sizes om_items (2 : Int32) (f_X7_payer om_s om_paid n c) (om_paid j280)) ⟨Nat.le_of_ble_eq_true rfl, Nat.le_of_ble_eq_true rfl⟩ ⟨Nat.zero_le _, Nat.zero_le _⟩ hP hD hS hA [0, 1, 2, 3, 4, 5, 6, 7, 8, 9, 10, 11, 12, 13, 14, 15, 16, 17, 18, 19, 20, 21] [] [0, 1, 2, 3, 4, 5, 6, 7, 8, 9, 10, 11, 12, 13, 14, 15, 16, 17, 18, 19, 20, 21] (wr := []) (wn := fun u155 => wX7 cy om om_thrown om_s om_kept om_aside om_isKept om_reaches om_ringOf om_rungOf om_rings (nI r) om_paid om_leftOf om_ringPaid om_paidAll om_mosts om_text om_signs om_at om_isWrong om_clauses om_letters om_one om_two om_three u155 om_backs om_sorts om_sizes om_items) rfl (by decide) rfl (by decide) (by decide) (fun _ => rfl) (by decide) rfl rfl hl.1 rfl (Nat.le_of_ble_eq_true rfl) dX7_tellsWhy_155 (fun u155 H locs hw155 hP hD hS => ?_)
              refine lv_goto (tgt := 280) hx hb dX7_tellsWhy_158 (by decide) ?_
              exact W.vret hx hb hr (fun t ht hW => ⟨⟨u155, rfl, by subst hw155; subst hj280; subst hw39; subst ev31; unfold f_X7_tellsWhy; rw [if_neg c1, if_neg c2, if_pos c3, if_pos c4, if_neg c8, if_neg c12] <;> rfl, by rw [ht]; exact hP, hD⟩, hS.F ht⟩) hS.2.2 dX7_tellsWhy_280
      · exact W.vret hx hb hr (fun t ht hW => ⟨⟨u39, rfl, by subst hw39; subst ev31; unfold f_X7_tellsWhy; rw [if_neg c1, if_neg c2, if_neg c3] <;> rfl, by rw [ht]; exact hP, hD⟩, hS.F ht⟩) hS.2.2 dX7_tellsWhy_111
    · refine lv_aload_n hx hb dX7_tellsWhy_46 rfl (lv_at hl 3 rfl) ?_
      refine lv_iload_n hx hb dX7_tellsWhy_47 rfl (lv_at hl 2 rfl) ?_
      refine cRoV (q0 := 0) (ci := 7) mw24_6 mw24_7 mw24_8 mw1_5 mw24_9 rfl rfl hd_X7_lastAhead hx hb hml hown hG hKX (c_X7_lastAhead l D cy om om_thrown om_s om_kept om_aside om_isKept om_reaches om_ringOf om_rungOf om_rings (nI r) om_paid om_leftOf om_ringPaid om_paidAll om_mosts om_text om_signs om_at om_isWrong om_clauses om_letters om_one om_two om_three u39 om_backs om_sorts om_sizes om_items n ra hn hs0 hra6) ⟨Nat.le_of_ble_eq_true rfl, Nat.le_of_ble_eq_true rfl⟩ ⟨Nat.zero_le _, Nat.zero_le _⟩ hP rfl rfl hl.1 rfl (Nat.le_of_ble_eq_true rfl) dX7_tellsWhy_48 ?_
      refine lv_istore (lv' := [(5, .int (f_X7_lastAhead om_rings om_paid n ra)), (4, .int v31), (3, .int (om_leftOf ra)), (2, .int (nI ra)), (0, .ref (om 0)), (1, .int (nI c))]) hx hb dX7_tellsWhy_51 hl (by decide) rfl (fun ls hl => ?_)
      refine lv_aload_n hx hb dX7_tellsWhy_53 rfl (lv_at hl 4 rfl) ?_
      refine lv_iconst (v := (1 : Int32)) hx hb dX7_tellsWhy_54 (by decide) ?_
      refine lv_aload_n hx hb dX7_tellsWhy_55 rfl (lv_at hl 4 rfl) ?_
      refine gf_X7_15 hx hb hG hown hKX hP 0 rfl rfl dX7_tellsWhy_56 ?_
      refine lv_iconst (v := (1 : Int32)) hx hb dX7_tellsWhy_59 (by decide) ?_
      refine iald_n hx hb hKX hP 1 rfl rfl (by decide) (by decide) dX7_tellsWhy_60 ?_
      refine lv_if_ne (tgt := 69) hx hb dX7_tellsWhy_61 (by decide) (fun c16 => ?_) (fun c16 => ?_)
      · refine lv_iload hx hb dX7_tellsWhy_69 (lv_at hl 0 rfl) ?_
        refine lv_aload_n hx hb dX7_tellsWhy_71 rfl (lv_at hl 4 rfl) ?_
        refine gf_X7_15 hx hb hG hown hKX hP 0 rfl rfl dX7_tellsWhy_72 ?_
        refine lv_iconst (v := (1 : Int32)) hx hb dX7_tellsWhy_75 (by decide) ?_
        refine iald_n hx hb hKX hP 1 rfl rfl (by decide) (by decide) dX7_tellsWhy_76 ?_
        refine lv_if_eq (tgt := 86) hx hb dX7_tellsWhy_77 (by decide) (fun c17 => absurd c17 c16) (fun _ => ?_)
        refine lv_iload hx hb dX7_tellsWhy_80 (lv_at hl 0 rfl) ?_
        refine lv_iconst (v := (-1 : Int32)) hx hb dX7_tellsWhy_82 (by decide) ?_
        refine lv_icmp_ne (tgt := 90) hx hb dX7_tellsWhy_83 (by decide) (fun c18 => ?_) (fun c18 => ?_)
        · obtain ⟨j83, hj83, hlj83, hcj83⟩ := la_of (by omega) c18
          refine lv_aload_n hx hb dX7_tellsWhy_90 rfl (lv_at hl 4 rfl) ?_
          refine gf_X7_37 hx hb hG hown hKX hP 0 rfl rfl dX7_tellsWhy_91 ?_
          refine lv_iload hx hb dX7_tellsWhy_94 (lv_at hl 0 rfl) ?_
          refine iald_n hx hb hKX hP 8 rfl hcj83 (by omega) (by decide) dX7_tellsWhy_96 ?_
          refine cRwVV (q0 := 0) (ci := 7) mw24_2 mw24_3 mw24_4 mw1_5 mw24_5 rfl rfl hd_X7_because hx hb hml hown hG hKX (c_X7_because l D cy om om_thrown om_s om_kept om_aside om_isKept om_reaches om_ringOf om_rungOf om_rings (nI r) om_paid om_leftOf om_ringPaid om_paidAll om_mosts om_text om_signs om_at om_isWrong om_clauses om_letters om_one om_two om_three u39 om_backs om_sorts om_sizes om_items (1 : Int32) (f_X7_lastAhead om_rings om_paid n ra) (om_paid j83)) ⟨Nat.le_of_ble_eq_true rfl, Nat.le_of_ble_eq_true rfl⟩ ⟨Nat.zero_le _, Nat.zero_le _⟩ hP hD hS hA [0, 1, 2, 3, 4, 5, 6, 7, 8, 9, 10, 11, 12, 13, 14, 15, 16, 17, 18, 19, 20, 21] [] [0, 1, 2, 3, 4, 5, 6, 7, 8, 9, 10, 11, 12, 13, 14, 15, 16, 17, 18, 19, 20, 21] (wr := []) (wn := fun u97 => wX7 cy om om_thrown om_s om_kept om_aside om_isKept om_reaches om_ringOf om_rungOf om_rings (nI r) om_paid om_leftOf om_ringPaid om_paidAll om_mosts om_text om_signs om_at om_isWrong om_clauses om_letters om_one om_two om_three u97 om_backs om_sorts om_sizes om_items) rfl (by decide) rfl (by decide) (by decide) (fun _ => rfl) (by decide) rfl rfl hl.1 rfl (Nat.le_of_ble_eq_true rfl) dX7_tellsWhy_97 (fun u97 H locs hw97 hP hD hS => ?_)
          exact W.vret hx hb hr (fun t ht hW => ⟨⟨u97, rfl, by subst hw97; subst hj83; subst hw39; subst ev31; unfold f_X7_tellsWhy; rw [if_neg c1, if_pos c2, if_neg c16, if_neg c18] <;> rfl, by rw [ht]; exact hP, hD⟩, hS.F ht⟩) hS.2.2 dX7_tellsWhy_100
        · refine lv_iconst (v := (0 : Int32)) hx hb dX7_tellsWhy_86 (by decide) ?_
          refine lv_goto (tgt := 97) hx hb dX7_tellsWhy_87 (by decide) ?_
          refine cRwVV (q0 := 0) (ci := 7) mw24_2 mw24_3 mw24_4 mw1_5 mw24_5 rfl rfl hd_X7_because hx hb hml hown hG hKX (c_X7_because l D cy om om_thrown om_s om_kept om_aside om_isKept om_reaches om_ringOf om_rungOf om_rings (nI r) om_paid om_leftOf om_ringPaid om_paidAll om_mosts om_text om_signs om_at om_isWrong om_clauses om_letters om_one om_two om_three u39 om_backs om_sorts om_sizes om_items (1 : Int32) (f_X7_lastAhead om_rings om_paid n ra) (0 : Int32)) ⟨Nat.le_of_ble_eq_true rfl, Nat.le_of_ble_eq_true rfl⟩ ⟨Nat.zero_le _, Nat.zero_le _⟩ hP hD hS hA [0, 1, 2, 3, 4, 5, 6, 7, 8, 9, 10, 11, 12, 13, 14, 15, 16, 17, 18, 19, 20, 21] [] [0, 1, 2, 3, 4, 5, 6, 7, 8, 9, 10, 11, 12, 13, 14, 15, 16, 17, 18, 19, 20, 21] (wr := []) (wn := fun u97 => wX7 cy om om_thrown om_s om_kept om_aside om_isKept om_reaches om_ringOf om_rungOf om_rings (nI r) om_paid om_leftOf om_ringPaid om_paidAll om_mosts om_text om_signs om_at om_isWrong om_clauses om_letters om_one om_two om_three u97 om_backs om_sorts om_sizes om_items) rfl (by decide) rfl (by decide) (by decide) (fun _ => rfl) (by decide) rfl rfl hl.1 rfl (Nat.le_of_ble_eq_true rfl) dX7_tellsWhy_97 (fun u97 H locs hw97 hP hD hS => ?_)
          exact W.vret hx hb hr (fun t ht hW => ⟨⟨u97, rfl, by subst hw97; subst hw39; subst ev31; unfold f_X7_tellsWhy; rw [if_neg c1, if_pos c2, if_neg c16, if_pos c18] <;> rfl, by rw [ht]; exact hP, hD⟩, hS.F ht⟩) hS.2.2 dX7_tellsWhy_100
      · refine lv_bipush (v := (99 : Int32)) hx hb dX7_tellsWhy_64 (by decide) ?_
        refine lv_goto (tgt := 71) hx hb dX7_tellsWhy_66 (by decide) ?_
        refine lv_aload_n hx hb dX7_tellsWhy_71 rfl (lv_at hl 4 rfl) ?_
        refine gf_X7_15 hx hb hG hown hKX hP 0 rfl rfl dX7_tellsWhy_72 ?_
        refine lv_iconst (v := (1 : Int32)) hx hb dX7_tellsWhy_75 (by decide) ?_
        refine iald_n hx hb hKX hP 1 rfl rfl (by decide) (by decide) dX7_tellsWhy_76 ?_
        refine lv_if_eq (tgt := 86) hx hb dX7_tellsWhy_77 (by decide) (fun _ => ?_) (fun c19 => absurd c16 c19)
        refine lv_iconst (v := (0 : Int32)) hx hb dX7_tellsWhy_86 (by decide) ?_
        refine lv_goto (tgt := 97) hx hb dX7_tellsWhy_87 (by decide) ?_
        refine cRwVV (q0 := 0) (ci := 7) mw24_2 mw24_3 mw24_4 mw1_5 mw24_5 rfl rfl hd_X7_because hx hb hml hown hG hKX (c_X7_because l D cy om om_thrown om_s om_kept om_aside om_isKept om_reaches om_ringOf om_rungOf om_rings (nI r) om_paid om_leftOf om_ringPaid om_paidAll om_mosts om_text om_signs om_at om_isWrong om_clauses om_letters om_one om_two om_three u39 om_backs om_sorts om_sizes om_items (1 : Int32) (99 : Int32) (0 : Int32)) ⟨Nat.le_of_ble_eq_true rfl, Nat.le_of_ble_eq_true rfl⟩ ⟨Nat.zero_le _, Nat.zero_le _⟩ hP hD hS hA [0, 1, 2, 3, 4, 5, 6, 7, 8, 9, 10, 11, 12, 13, 14, 15, 16, 17, 18, 19, 20, 21] [] [0, 1, 2, 3, 4, 5, 6, 7, 8, 9, 10, 11, 12, 13, 14, 15, 16, 17, 18, 19, 20, 21] (wr := []) (wn := fun u97 => wX7 cy om om_thrown om_s om_kept om_aside om_isKept om_reaches om_ringOf om_rungOf om_rings (nI r) om_paid om_leftOf om_ringPaid om_paidAll om_mosts om_text om_signs om_at om_isWrong om_clauses om_letters om_one om_two om_three u97 om_backs om_sorts om_sizes om_items) rfl (by decide) rfl (by decide) (by decide) (fun _ => rfl) (by decide) rfl rfl hl.1 rfl (Nat.le_of_ble_eq_true rfl) dX7_tellsWhy_97 (fun u97 H locs hw97 hP hD hS => ?_)
        exact W.vret hx hb hr (fun t ht hW => ⟨⟨u97, rfl, by subst hw97; subst hw39; subst ev31; unfold f_X7_tellsWhy; rw [if_neg c1, if_pos c2, if_pos c16] <;> rfl, by rw [ht]; exact hP, hD⟩, hS.F ht⟩) hS.2.2 dX7_tellsWhy_100
  · refine lv_iconst (v := (1 : Int32)) hx hb dX7_tellsWhy_26 (by decide) ?_
    refine lv_goto (tgt := 31) hx hb dX7_tellsWhy_27 (by decide) ?_
    refine lv_topi (fun v31 ev31 => ?_)
    refine lv_istore (lv' := [(4, .int v31), (3, .int (om_leftOf ra)), (2, .int (nI ra)), (0, .ref (om 0)), (1, .int (nI c))]) hx hb dX7_tellsWhy_31 hl (by decide) rfl (fun ls hl => ?_)
    refine lv_aload_n hx hb dX7_tellsWhy_33 rfl (lv_at hl 3 rfl) ?_
    refine lv_iconst (v := (0 : Int32)) hx hb dX7_tellsWhy_34 (by decide) ?_
    refine lv_bipush (v := (-5 : Int32)) hx hb dX7_tellsWhy_35 (by decide) ?_
    refine lv_bipush (v := (-5 : Int32)) hx hb dX7_tellsWhy_37 (by decide) ?_
    refine cRwVV (q0 := 0) (ci := 7) mw24_2 mw24_3 mw24_4 mw1_5 mw24_5 rfl rfl hd_X7_because hx hb hml hown hG hKX (c_X7_because l D cy om om_thrown om_s om_kept om_aside om_isKept om_reaches om_ringOf om_rungOf om_rings (nI r) om_paid om_leftOf om_ringPaid om_paidAll om_mosts om_text om_signs om_at om_isWrong om_clauses om_letters om_one om_two om_three om_whys om_backs om_sorts om_sizes om_items (0 : Int32) (-5 : Int32) (-5 : Int32)) ⟨Nat.le_of_ble_eq_true rfl, Nat.le_of_ble_eq_true rfl⟩ ⟨Nat.zero_le _, Nat.zero_le _⟩ hP hD hS hA [0, 1, 2, 3, 4, 5, 6, 7, 8, 9, 10, 11, 12, 13, 14, 15, 16, 17, 18, 19, 20, 21] [] [0, 1, 2, 3, 4, 5, 6, 7, 8, 9, 10, 11, 12, 13, 14, 15, 16, 17, 18, 19, 20, 21] (wr := []) (wn := fun u39 => wX7 cy om om_thrown om_s om_kept om_aside om_isKept om_reaches om_ringOf om_rungOf om_rings (nI r) om_paid om_leftOf om_ringPaid om_paidAll om_mosts om_text om_signs om_at om_isWrong om_clauses om_letters om_one om_two om_three u39 om_backs om_sorts om_sizes om_items) rfl (by decide) rfl (by decide) (by decide) (fun _ => rfl) (by decide) rfl rfl hl.1 rfl (Nat.le_of_ble_eq_true rfl) dX7_tellsWhy_39 (fun u39 H locs hw39 hP hD hS => ?_)
    refine lv_iload_n hx hb dX7_tellsWhy_42 rfl (lv_at hl 1 rfl) ?_
    refine lv_if_ne (tgt := 101) hx hb dX7_tellsWhy_43 (by decide) (fun c20 => ?_) (fun c20 => ?_)
    · refine lv_aload_n hx hb dX7_tellsWhy_101 rfl (lv_at hl 3 rfl) ?_
      refine gf_X7_37 hx hb hG hown hKX hP 0 rfl rfl dX7_tellsWhy_102 ?_
      refine lv_iload_n hx hb dX7_tellsWhy_105 rfl (lv_at hl 4 rfl) ?_
      refine iald_n hx hb hKX hP 8 rfl rfl (by omega) (by decide) dX7_tellsWhy_106 ?_
      refine lv_iload_n hx hb dX7_tellsWhy_107 rfl (lv_at hl 1 rfl) ?_
      refine lv_icmp_lt (tgt := 112) hx hb dX7_tellsWhy_108 (by decide) (fun c21 => ?_) (fun c21 => ?_)
      · refine lv_aload_n hx hb dX7_tellsWhy_112 rfl (lv_at hl 3 rfl) ?_
        refine gf_X7_15 hx hb hG hown hKX hP 0 rfl rfl dX7_tellsWhy_113 ?_
        refine lv_iconst (v := (5 : Int32)) hx hb dX7_tellsWhy_116 (by decide) ?_
        refine lv_iload_n hx hb dX7_tellsWhy_117 rfl (lv_at hl 4 rfl) ?_
        refine lv_iadd hx hb dX7_tellsWhy_118 ?_
        refine topi_eq (y := nI (5 + c)) (aN rfl rfl) ?_
        refine iald_n hx hb hKX hP 1 rfl rfl (by omega) (by decide) dX7_tellsWhy_119 ?_
        refine lv_iconst (v := (2 : Int32)) hx hb dX7_tellsWhy_120 (by decide) ?_
        refine lv_icmp_ne (tgt := 161) hx hb dX7_tellsWhy_121 (by decide) (fun c22 => ?_) (fun c22 => ?_)
        · refine lv_aload_n hx hb dX7_tellsWhy_161 rfl (lv_at hl 3 rfl) ?_
          refine lv_iload_n hx hb dX7_tellsWhy_162 rfl (lv_at hl 4 rfl) ?_
          refine lv_iload_n hx hb dX7_tellsWhy_163 rfl (lv_at hl 1 rfl) ?_
          refine cRoV (q0 := 0) (ci := 7) mw15_21 mw15_22 mw15_23 mw1_5 mw16_0 rfl rfl hd_X7_stead hx hb hml hown hG hKX (c_X7_stead l D cy om om_thrown om_s om_kept om_aside om_isKept om_reaches om_ringOf om_rungOf om_rings (nI r) om_paid om_leftOf om_ringPaid om_paidAll om_mosts om_text om_signs om_at om_isWrong om_clauses om_letters om_one om_two om_three u39 om_backs om_sorts om_sizes om_items (om_leftOf ra) n c hn hs0 hc) ⟨Nat.le_of_ble_eq_true rfl, Nat.le_of_ble_eq_true rfl⟩ ⟨Nat.zero_le _, Nat.zero_le _⟩ hP rfl rfl hl.1 rfl (Nat.le_of_ble_eq_true rfl) dX7_tellsWhy_164 ?_
          refine lv_aload_n hx hb dX7_tellsWhy_167 rfl (lv_at hl 3 rfl) ?_
          refine gf_X7_15 hx hb hG hown hKX hP 0 rfl rfl dX7_tellsWhy_168 ?_
          refine lv_bipush (v := (17 : Int32)) hx hb dX7_tellsWhy_171 (by decide) ?_
          refine lv_iload_n hx hb dX7_tellsWhy_173 rfl (lv_at hl 4 rfl) ?_
          refine lv_iadd hx hb dX7_tellsWhy_174 ?_
          refine topi_eq (y := nI (17 + c)) (aN rfl rfl) ?_
          refine iald_n hx hb hKX hP 1 rfl rfl (by omega) (by decide) dX7_tellsWhy_175 ?_
          refine lv_icmp_gt (tgt := 202) hx hb dX7_tellsWhy_176 (by decide) (fun c23 => ?_) (fun c23 => ?_)
          · refine lv_aload_n hx hb dX7_tellsWhy_202 rfl (lv_at hl 3 rfl) ?_
            refine gf_X7_37 hx hb hG hown hKX hP 0 rfl rfl dX7_tellsWhy_203 ?_
            refine lv_iload_n hx hb dX7_tellsWhy_206 rfl (lv_at hl 4 rfl) ?_
            refine iald_n hx hb hKX hP 8 rfl rfl (by omega) (by decide) dX7_tellsWhy_207 ?_
            refine lv_aload_n hx hb dX7_tellsWhy_208 rfl (lv_at hl 3 rfl) ?_
            refine gf_X7_15 hx hb hG hown hKX hP 0 rfl rfl dX7_tellsWhy_209 ?_
            refine lv_bipush (v := (11 : Int32)) hx hb dX7_tellsWhy_212 (by decide) ?_
            refine lv_iload_n hx hb dX7_tellsWhy_214 rfl (lv_at hl 4 rfl) ?_
            refine lv_iadd hx hb dX7_tellsWhy_215 ?_
            refine topi_eq (y := nI (11 + c)) (aN rfl rfl) ?_
            refine iald_n hx hb hKX hP 1 rfl rfl (by omega) (by decide) dX7_tellsWhy_216 ?_
            refine lv_icmp_ne (tgt := 239) hx hb dX7_tellsWhy_217 (by decide) (fun c24 => ?_) (fun c24 => ?_)
            · refine lv_iload hx hb dX7_tellsWhy_239 (lv_at hl 0 rfl) ?_
              refine lv_if_ne (tgt := 264) hx hb dX7_tellsWhy_241 (by decide) (fun c25 => ?_) (fun c25 => ?_)
              · refine lv_aload_n hx hb dX7_tellsWhy_264 rfl (lv_at hl 3 rfl) ?_
                refine lv_bipush (v := (6 : Int32)) hx hb dX7_tellsWhy_265 (by decide) ?_
                refine lv_iload_n hx hb dX7_tellsWhy_267 rfl (lv_at hl 1 rfl) ?_
                refine lv_aload_n hx hb dX7_tellsWhy_268 rfl (lv_at hl 3 rfl) ?_
                refine gf_X7_37 hx hb hG hown hKX hP 0 rfl rfl dX7_tellsWhy_269 ?_
                refine lv_iload_n hx hb dX7_tellsWhy_272 rfl (lv_at hl 4 rfl) ?_
                refine iald_n hx hb hKX hP 8 rfl rfl (by omega) (by decide) dX7_tellsWhy_273 ?_
                refine lv_isub hx hb dX7_tellsWhy_274 ?_
                refine lv_bipush (v := (-5 : Int32)) hx hb dX7_tellsWhy_275 (by decide) ?_
                refine cRwVV (q0 := 0) (ci := 7) mw24_2 mw24_3 mw24_4 mw1_5 mw24_5 rfl rfl hd_X7_because hx hb hml hown hG hKX (c_X7_because l D cy om om_thrown om_s om_kept om_aside om_isKept om_reaches om_ringOf om_rungOf om_rings (nI r) om_paid om_leftOf om_ringPaid om_paidAll om_mosts om_text om_signs om_at om_isWrong om_clauses om_letters om_one om_two om_three u39 om_backs om_sorts om_sizes om_items (6 : Int32) ((om_leftOf ra) - (om_paid c)) (-5 : Int32)) ⟨Nat.le_of_ble_eq_true rfl, Nat.le_of_ble_eq_true rfl⟩ ⟨Nat.zero_le _, Nat.zero_le _⟩ hP hD hS hA [0, 1, 2, 3, 4, 5, 6, 7, 8, 9, 10, 11, 12, 13, 14, 15, 16, 17, 18, 19, 20, 21] [] [0, 1, 2, 3, 4, 5, 6, 7, 8, 9, 10, 11, 12, 13, 14, 15, 16, 17, 18, 19, 20, 21] (wr := []) (wn := fun u277 => wX7 cy om om_thrown om_s om_kept om_aside om_isKept om_reaches om_ringOf om_rungOf om_rings (nI r) om_paid om_leftOf om_ringPaid om_paidAll om_mosts om_text om_signs om_at om_isWrong om_clauses om_letters om_one om_two om_three u277 om_backs om_sorts om_sizes om_items) rfl (by decide) rfl (by decide) (by decide) (fun _ => rfl) (by decide) rfl rfl hl.1 rfl (Nat.le_of_ble_eq_true rfl) dX7_tellsWhy_277 (fun u277 H locs hw277 hP hD hS => ?_)
                exact W.vret hx hb hr (fun t ht hW => ⟨⟨u277, rfl, by subst hw277; subst hw39; subst ev31; unfold f_X7_tellsWhy; rw [if_pos c1, if_neg c20, if_pos c21, if_neg c22, if_pos c23, if_neg c24, if_neg c25] <;> rfl, by rw [ht]; exact hP, hD⟩, hS.F ht⟩) hS.2.2 dX7_tellsWhy_280
              · refine lv_aload_n hx hb dX7_tellsWhy_244 rfl (lv_at hl 3 rfl) ?_
                refine lv_iconst (v := (5 : Int32)) hx hb dX7_tellsWhy_245 (by decide) ?_
                refine lv_aload_n hx hb dX7_tellsWhy_246 rfl (lv_at hl 3 rfl) ?_
                refine gf_X7_34 hx hb hG hown hKX hP 0 rfl rfl dX7_tellsWhy_247 ?_
                refine lv_iload_n hx hb dX7_tellsWhy_250 rfl (lv_at hl 2 rfl) ?_
                refine iald_n hx hb hKX hP 7 rfl rfl (by omega) (by decide) dX7_tellsWhy_251 ?_
                refine lv_aload_n hx hb dX7_tellsWhy_252 rfl (lv_at hl 3 rfl) ?_
                refine gf_X7_43 hx hb hG hown hKX hP 0 rfl rfl dX7_tellsWhy_253 ?_
                refine lv_iload_n hx hb dX7_tellsWhy_256 rfl (lv_at hl 2 rfl) ?_
                refine iald_n hx hb hKX hP 10 rfl rfl (by omega) (by decide) dX7_tellsWhy_257 ?_
                refine cRwVV (q0 := 0) (ci := 7) mw24_2 mw24_3 mw24_4 mw1_5 mw24_5 rfl rfl hd_X7_because hx hb hml hown hG hKX (c_X7_because l D cy om om_thrown om_s om_kept om_aside om_isKept om_reaches om_ringOf om_rungOf om_rings (nI r) om_paid om_leftOf om_ringPaid om_paidAll om_mosts om_text om_signs om_at om_isWrong om_clauses om_letters om_one om_two om_three u39 om_backs om_sorts om_sizes om_items (5 : Int32) (om_rings ra) (om_ringPaid ra)) ⟨Nat.le_of_ble_eq_true rfl, Nat.le_of_ble_eq_true rfl⟩ ⟨Nat.zero_le _, Nat.zero_le _⟩ hP hD hS hA [0, 1, 2, 3, 4, 5, 6, 7, 8, 9, 10, 11, 12, 13, 14, 15, 16, 17, 18, 19, 20, 21] [] [0, 1, 2, 3, 4, 5, 6, 7, 8, 9, 10, 11, 12, 13, 14, 15, 16, 17, 18, 19, 20, 21] (wr := []) (wn := fun u258 => wX7 cy om om_thrown om_s om_kept om_aside om_isKept om_reaches om_ringOf om_rungOf om_rings (nI r) om_paid om_leftOf om_ringPaid om_paidAll om_mosts om_text om_signs om_at om_isWrong om_clauses om_letters om_one om_two om_three u258 om_backs om_sorts om_sizes om_items) rfl (by decide) rfl (by decide) (by decide) (fun _ => rfl) (by decide) rfl rfl hl.1 rfl (Nat.le_of_ble_eq_true rfl) dX7_tellsWhy_258 (fun u258 H locs hw258 hP hD hS => ?_)
                refine lv_goto (tgt := 280) hx hb dX7_tellsWhy_261 (by decide) ?_
                exact W.vret hx hb hr (fun t ht hW => ⟨⟨u258, rfl, by subst hw258; subst hw39; subst ev31; unfold f_X7_tellsWhy; rw [if_pos c1, if_neg c20, if_pos c21, if_neg c22, if_pos c23, if_neg c24, if_pos c25] <;> rfl, by rw [ht]; exact hP, hD⟩, hS.F ht⟩) hS.2.2 dX7_tellsWhy_280
            · refine lv_aload_n hx hb dX7_tellsWhy_220 rfl (lv_at hl 3 rfl) ?_
              refine lv_iconst (v := (4 : Int32)) hx hb dX7_tellsWhy_221 (by decide) ?_
              refine lv_aload_n hx hb dX7_tellsWhy_222 rfl (lv_at hl 3 rfl) ?_
              refine gf_X7_15 hx hb hG hown hKX hP 0 rfl rfl dX7_tellsWhy_223 ?_
              refine lv_bipush (v := (11 : Int32)) hx hb dX7_tellsWhy_226 (by decide) ?_
              refine lv_iload_n hx hb dX7_tellsWhy_228 rfl (lv_at hl 4 rfl) ?_
              refine lv_iadd hx hb dX7_tellsWhy_229 ?_
              refine topi_eq (y := nI (11 + c)) (aN rfl rfl) ?_
              refine iald_n hx hb hKX hP 1 rfl rfl (by omega) (by decide) dX7_tellsWhy_230 ?_
              refine lv_bipush (v := (-5 : Int32)) hx hb dX7_tellsWhy_231 (by decide) ?_
              refine cRwVV (q0 := 0) (ci := 7) mw24_2 mw24_3 mw24_4 mw1_5 mw24_5 rfl rfl hd_X7_because hx hb hml hown hG hKX (c_X7_because l D cy om om_thrown om_s om_kept om_aside om_isKept om_reaches om_ringOf om_rungOf om_rings (nI r) om_paid om_leftOf om_ringPaid om_paidAll om_mosts om_text om_signs om_at om_isWrong om_clauses om_letters om_one om_two om_three u39 om_backs om_sorts om_sizes om_items (4 : Int32) (om_s (11 + c)) (-5 : Int32)) ⟨Nat.le_of_ble_eq_true rfl, Nat.le_of_ble_eq_true rfl⟩ ⟨Nat.zero_le _, Nat.zero_le _⟩ hP hD hS hA [0, 1, 2, 3, 4, 5, 6, 7, 8, 9, 10, 11, 12, 13, 14, 15, 16, 17, 18, 19, 20, 21] [] [0, 1, 2, 3, 4, 5, 6, 7, 8, 9, 10, 11, 12, 13, 14, 15, 16, 17, 18, 19, 20, 21] (wr := []) (wn := fun u233 => wX7 cy om om_thrown om_s om_kept om_aside om_isKept om_reaches om_ringOf om_rungOf om_rings (nI r) om_paid om_leftOf om_ringPaid om_paidAll om_mosts om_text om_signs om_at om_isWrong om_clauses om_letters om_one om_two om_three u233 om_backs om_sorts om_sizes om_items) rfl (by decide) rfl (by decide) (by decide) (fun _ => rfl) (by decide) rfl rfl hl.1 rfl (Nat.le_of_ble_eq_true rfl) dX7_tellsWhy_233 (fun u233 H locs hw233 hP hD hS => ?_)
              refine lv_goto (tgt := 280) hx hb dX7_tellsWhy_236 (by decide) ?_
              exact W.vret hx hb hr (fun t ht hW => ⟨⟨u233, rfl, by subst hw233; subst hw39; subst ev31; unfold f_X7_tellsWhy; rw [if_pos c1, if_neg c20, if_pos c21, if_neg c22, if_pos c23, if_pos c24] <;> rfl, by rw [ht]; exact hP, hD⟩, hS.F ht⟩) hS.2.2 dX7_tellsWhy_280
          · refine lv_aload_n hx hb dX7_tellsWhy_179 rfl (lv_at hl 3 rfl) ?_
            refine lv_iconst (v := (3 : Int32)) hx hb dX7_tellsWhy_180 (by decide) ?_
            refine lv_aload_n hx hb dX7_tellsWhy_181 rfl (lv_at hl 3 rfl) ?_
            refine lv_iload_n hx hb dX7_tellsWhy_182 rfl (lv_at hl 4 rfl) ?_
            refine lv_iload_n hx hb dX7_tellsWhy_183 rfl (lv_at hl 1 rfl) ?_
            refine cRoV (q0 := 0) (ci := 7) mw15_21 mw15_22 mw15_23 mw1_5 mw16_0 rfl rfl hd_X7_stead hx hb hml hown hG hKX (c_X7_stead l D cy om om_thrown om_s om_kept om_aside om_isKept om_reaches om_ringOf om_rungOf om_rings (nI r) om_paid om_leftOf om_ringPaid om_paidAll om_mosts om_text om_signs om_at om_isWrong om_clauses om_letters om_one om_two om_three u39 om_backs om_sorts om_sizes om_items (om_leftOf ra) n c hn hs0 hc) ⟨Nat.le_of_ble_eq_true rfl, Nat.le_of_ble_eq_true rfl⟩ ⟨Nat.zero_le _, Nat.zero_le _⟩ hP rfl rfl hl.1 rfl (Nat.le_of_ble_eq_true rfl) dX7_tellsWhy_184 ?_
            refine lv_aload_n hx hb dX7_tellsWhy_187 rfl (lv_at hl 3 rfl) ?_
            refine gf_X7_15 hx hb hG hown hKX hP 0 rfl rfl dX7_tellsWhy_188 ?_
            refine lv_bipush (v := (17 : Int32)) hx hb dX7_tellsWhy_191 (by decide) ?_
            refine lv_iload_n hx hb dX7_tellsWhy_193 rfl (lv_at hl 4 rfl) ?_
            refine lv_iadd hx hb dX7_tellsWhy_194 ?_
            refine topi_eq (y := nI (17 + c)) (aN rfl rfl) ?_
            refine iald_n hx hb hKX hP 1 rfl rfl (by omega) (by decide) dX7_tellsWhy_195 ?_
            refine cRwVV (q0 := 0) (ci := 7) mw24_2 mw24_3 mw24_4 mw1_5 mw24_5 rfl rfl hd_X7_because hx hb hml hown hG hKX (c_X7_because l D cy om om_thrown om_s om_kept om_aside om_isKept om_reaches om_ringOf om_rungOf om_rings (nI r) om_paid om_leftOf om_ringPaid om_paidAll om_mosts om_text om_signs om_at om_isWrong om_clauses om_letters om_one om_two om_three u39 om_backs om_sorts om_sizes om_items (3 : Int32) (f_X7_stead om_s (om_leftOf ra) c) (om_s (17 + c))) ⟨Nat.le_of_ble_eq_true rfl, Nat.le_of_ble_eq_true rfl⟩ ⟨Nat.zero_le _, Nat.zero_le _⟩ hP hD hS hA [0, 1, 2, 3, 4, 5, 6, 7, 8, 9, 10, 11, 12, 13, 14, 15, 16, 17, 18, 19, 20, 21] [] [0, 1, 2, 3, 4, 5, 6, 7, 8, 9, 10, 11, 12, 13, 14, 15, 16, 17, 18, 19, 20, 21] (wr := []) (wn := fun u196 => wX7 cy om om_thrown om_s om_kept om_aside om_isKept om_reaches om_ringOf om_rungOf om_rings (nI r) om_paid om_leftOf om_ringPaid om_paidAll om_mosts om_text om_signs om_at om_isWrong om_clauses om_letters om_one om_two om_three u196 om_backs om_sorts om_sizes om_items) rfl (by decide) rfl (by decide) (by decide) (fun _ => rfl) (by decide) rfl rfl hl.1 rfl (Nat.le_of_ble_eq_true rfl) dX7_tellsWhy_196 (fun u196 H locs hw196 hP hD hS => ?_)
            refine lv_goto (tgt := 280) hx hb dX7_tellsWhy_199 (by decide) ?_
            exact W.vret hx hb hr (fun t ht hW => ⟨⟨u196, rfl, by subst hw196; subst hw39; subst ev31; unfold f_X7_tellsWhy; rw [if_pos c1, if_neg c20, if_pos c21, if_neg c22, if_neg c23] <;> rfl, by rw [ht]; exact hP, hD⟩, hS.F ht⟩) hS.2.2 dX7_tellsWhy_280
        · refine lv_iload hx hb dX7_tellsWhy_124 (lv_at hl 0 rfl) ?_
          refine lv_if_eq (tgt := 161) hx hb dX7_tellsWhy_126 (by decide) (fun c26 => ?_) (fun c26 => ?_)
          · refine lv_aload_n hx hb dX7_tellsWhy_161 rfl (lv_at hl 3 rfl) ?_
            refine lv_iload_n hx hb dX7_tellsWhy_162 rfl (lv_at hl 4 rfl) ?_
            refine lv_iload_n hx hb dX7_tellsWhy_163 rfl (lv_at hl 1 rfl) ?_
            refine cRoV (q0 := 0) (ci := 7) mw15_21 mw15_22 mw15_23 mw1_5 mw16_0 rfl rfl hd_X7_stead hx hb hml hown hG hKX (c_X7_stead l D cy om om_thrown om_s om_kept om_aside om_isKept om_reaches om_ringOf om_rungOf om_rings (nI r) om_paid om_leftOf om_ringPaid om_paidAll om_mosts om_text om_signs om_at om_isWrong om_clauses om_letters om_one om_two om_three u39 om_backs om_sorts om_sizes om_items (om_leftOf ra) n c hn hs0 hc) ⟨Nat.le_of_ble_eq_true rfl, Nat.le_of_ble_eq_true rfl⟩ ⟨Nat.zero_le _, Nat.zero_le _⟩ hP rfl rfl hl.1 rfl (Nat.le_of_ble_eq_true rfl) dX7_tellsWhy_164 ?_
            refine lv_aload_n hx hb dX7_tellsWhy_167 rfl (lv_at hl 3 rfl) ?_
            refine gf_X7_15 hx hb hG hown hKX hP 0 rfl rfl dX7_tellsWhy_168 ?_
            refine lv_bipush (v := (17 : Int32)) hx hb dX7_tellsWhy_171 (by decide) ?_
            refine lv_iload_n hx hb dX7_tellsWhy_173 rfl (lv_at hl 4 rfl) ?_
            refine lv_iadd hx hb dX7_tellsWhy_174 ?_
            refine topi_eq (y := nI (17 + c)) (aN rfl rfl) ?_
            refine iald_n hx hb hKX hP 1 rfl rfl (by omega) (by decide) dX7_tellsWhy_175 ?_
            refine lv_icmp_gt (tgt := 202) hx hb dX7_tellsWhy_176 (by decide) (fun c27 => ?_) (fun c27 => ?_)
            · refine lv_aload_n hx hb dX7_tellsWhy_202 rfl (lv_at hl 3 rfl) ?_
              refine gf_X7_37 hx hb hG hown hKX hP 0 rfl rfl dX7_tellsWhy_203 ?_
              refine lv_iload_n hx hb dX7_tellsWhy_206 rfl (lv_at hl 4 rfl) ?_
              refine iald_n hx hb hKX hP 8 rfl rfl (by omega) (by decide) dX7_tellsWhy_207 ?_
              refine lv_aload_n hx hb dX7_tellsWhy_208 rfl (lv_at hl 3 rfl) ?_
              refine gf_X7_15 hx hb hG hown hKX hP 0 rfl rfl dX7_tellsWhy_209 ?_
              refine lv_bipush (v := (11 : Int32)) hx hb dX7_tellsWhy_212 (by decide) ?_
              refine lv_iload_n hx hb dX7_tellsWhy_214 rfl (lv_at hl 4 rfl) ?_
              refine lv_iadd hx hb dX7_tellsWhy_215 ?_
              refine topi_eq (y := nI (11 + c)) (aN rfl rfl) ?_
              refine iald_n hx hb hKX hP 1 rfl rfl (by omega) (by decide) dX7_tellsWhy_216 ?_
              refine lv_icmp_ne (tgt := 239) hx hb dX7_tellsWhy_217 (by decide) (fun c28 => ?_) (fun c28 => ?_)
              · refine lv_iload hx hb dX7_tellsWhy_239 (lv_at hl 0 rfl) ?_
                refine lv_if_ne (tgt := 264) hx hb dX7_tellsWhy_241 (by decide) (fun c29 => absurd c26 c29) (fun _ => ?_)
                refine lv_aload_n hx hb dX7_tellsWhy_244 rfl (lv_at hl 3 rfl) ?_
                refine lv_iconst (v := (5 : Int32)) hx hb dX7_tellsWhy_245 (by decide) ?_
                refine lv_aload_n hx hb dX7_tellsWhy_246 rfl (lv_at hl 3 rfl) ?_
                refine gf_X7_34 hx hb hG hown hKX hP 0 rfl rfl dX7_tellsWhy_247 ?_
                refine lv_iload_n hx hb dX7_tellsWhy_250 rfl (lv_at hl 2 rfl) ?_
                refine iald_n hx hb hKX hP 7 rfl rfl (by omega) (by decide) dX7_tellsWhy_251 ?_
                refine lv_aload_n hx hb dX7_tellsWhy_252 rfl (lv_at hl 3 rfl) ?_
                refine gf_X7_43 hx hb hG hown hKX hP 0 rfl rfl dX7_tellsWhy_253 ?_
                refine lv_iload_n hx hb dX7_tellsWhy_256 rfl (lv_at hl 2 rfl) ?_
                refine iald_n hx hb hKX hP 10 rfl rfl (by omega) (by decide) dX7_tellsWhy_257 ?_
                refine cRwVV (q0 := 0) (ci := 7) mw24_2 mw24_3 mw24_4 mw1_5 mw24_5 rfl rfl hd_X7_because hx hb hml hown hG hKX (c_X7_because l D cy om om_thrown om_s om_kept om_aside om_isKept om_reaches om_ringOf om_rungOf om_rings (nI r) om_paid om_leftOf om_ringPaid om_paidAll om_mosts om_text om_signs om_at om_isWrong om_clauses om_letters om_one om_two om_three u39 om_backs om_sorts om_sizes om_items (5 : Int32) (om_rings ra) (om_ringPaid ra)) ⟨Nat.le_of_ble_eq_true rfl, Nat.le_of_ble_eq_true rfl⟩ ⟨Nat.zero_le _, Nat.zero_le _⟩ hP hD hS hA [0, 1, 2, 3, 4, 5, 6, 7, 8, 9, 10, 11, 12, 13, 14, 15, 16, 17, 18, 19, 20, 21] [] [0, 1, 2, 3, 4, 5, 6, 7, 8, 9, 10, 11, 12, 13, 14, 15, 16, 17, 18, 19, 20, 21] (wr := []) (wn := fun u258 => wX7 cy om om_thrown om_s om_kept om_aside om_isKept om_reaches om_ringOf om_rungOf om_rings (nI r) om_paid om_leftOf om_ringPaid om_paidAll om_mosts om_text om_signs om_at om_isWrong om_clauses om_letters om_one om_two om_three u258 om_backs om_sorts om_sizes om_items) rfl (by decide) rfl (by decide) (by decide) (fun _ => rfl) (by decide) rfl rfl hl.1 rfl (Nat.le_of_ble_eq_true rfl) dX7_tellsWhy_258 (fun u258 H locs hw258 hP hD hS => ?_)
                refine lv_goto (tgt := 280) hx hb dX7_tellsWhy_261 (by decide) ?_
                exact W.vret hx hb hr (fun t ht hW => ⟨⟨u258, rfl, by subst hw258; subst hw39; subst ev31; unfold f_X7_tellsWhy; rw [if_pos c1, if_neg c20, if_pos c21, if_pos c22, if_pos c26, if_pos c27, if_neg c28] <;> rfl, by rw [ht]; exact hP, hD⟩, hS.F ht⟩) hS.2.2 dX7_tellsWhy_280
              · refine lv_aload_n hx hb dX7_tellsWhy_220 rfl (lv_at hl 3 rfl) ?_
                refine lv_iconst (v := (4 : Int32)) hx hb dX7_tellsWhy_221 (by decide) ?_
                refine lv_aload_n hx hb dX7_tellsWhy_222 rfl (lv_at hl 3 rfl) ?_
                refine gf_X7_15 hx hb hG hown hKX hP 0 rfl rfl dX7_tellsWhy_223 ?_
                refine lv_bipush (v := (11 : Int32)) hx hb dX7_tellsWhy_226 (by decide) ?_
                refine lv_iload_n hx hb dX7_tellsWhy_228 rfl (lv_at hl 4 rfl) ?_
                refine lv_iadd hx hb dX7_tellsWhy_229 ?_
                refine topi_eq (y := nI (11 + c)) (aN rfl rfl) ?_
                refine iald_n hx hb hKX hP 1 rfl rfl (by omega) (by decide) dX7_tellsWhy_230 ?_
                refine lv_bipush (v := (-5 : Int32)) hx hb dX7_tellsWhy_231 (by decide) ?_
                refine cRwVV (q0 := 0) (ci := 7) mw24_2 mw24_3 mw24_4 mw1_5 mw24_5 rfl rfl hd_X7_because hx hb hml hown hG hKX (c_X7_because l D cy om om_thrown om_s om_kept om_aside om_isKept om_reaches om_ringOf om_rungOf om_rings (nI r) om_paid om_leftOf om_ringPaid om_paidAll om_mosts om_text om_signs om_at om_isWrong om_clauses om_letters om_one om_two om_three u39 om_backs om_sorts om_sizes om_items (4 : Int32) (om_s (11 + c)) (-5 : Int32)) ⟨Nat.le_of_ble_eq_true rfl, Nat.le_of_ble_eq_true rfl⟩ ⟨Nat.zero_le _, Nat.zero_le _⟩ hP hD hS hA [0, 1, 2, 3, 4, 5, 6, 7, 8, 9, 10, 11, 12, 13, 14, 15, 16, 17, 18, 19, 20, 21] [] [0, 1, 2, 3, 4, 5, 6, 7, 8, 9, 10, 11, 12, 13, 14, 15, 16, 17, 18, 19, 20, 21] (wr := []) (wn := fun u233 => wX7 cy om om_thrown om_s om_kept om_aside om_isKept om_reaches om_ringOf om_rungOf om_rings (nI r) om_paid om_leftOf om_ringPaid om_paidAll om_mosts om_text om_signs om_at om_isWrong om_clauses om_letters om_one om_two om_three u233 om_backs om_sorts om_sizes om_items) rfl (by decide) rfl (by decide) (by decide) (fun _ => rfl) (by decide) rfl rfl hl.1 rfl (Nat.le_of_ble_eq_true rfl) dX7_tellsWhy_233 (fun u233 H locs hw233 hP hD hS => ?_)
                refine lv_goto (tgt := 280) hx hb dX7_tellsWhy_236 (by decide) ?_
                exact W.vret hx hb hr (fun t ht hW => ⟨⟨u233, rfl, by subst hw233; subst hw39; subst ev31; unfold f_X7_tellsWhy; rw [if_pos c1, if_neg c20, if_pos c21, if_pos c22, if_pos c26, if_pos c27, if_pos c28] <;> rfl, by rw [ht]; exact hP, hD⟩, hS.F ht⟩) hS.2.2 dX7_tellsWhy_280
            · refine lv_aload_n hx hb dX7_tellsWhy_179 rfl (lv_at hl 3 rfl) ?_
              refine lv_iconst (v := (3 : Int32)) hx hb dX7_tellsWhy_180 (by decide) ?_
              refine lv_aload_n hx hb dX7_tellsWhy_181 rfl (lv_at hl 3 rfl) ?_
              refine lv_iload_n hx hb dX7_tellsWhy_182 rfl (lv_at hl 4 rfl) ?_
              refine lv_iload_n hx hb dX7_tellsWhy_183 rfl (lv_at hl 1 rfl) ?_
              refine cRoV (q0 := 0) (ci := 7) mw15_21 mw15_22 mw15_23 mw1_5 mw16_0 rfl rfl hd_X7_stead hx hb hml hown hG hKX (c_X7_stead l D cy om om_thrown om_s om_kept om_aside om_isKept om_reaches om_ringOf om_rungOf om_rings (nI r) om_paid om_leftOf om_ringPaid om_paidAll om_mosts om_text om_signs om_at om_isWrong om_clauses om_letters om_one om_two om_three u39 om_backs om_sorts om_sizes om_items (om_leftOf ra) n c hn hs0 hc) ⟨Nat.le_of_ble_eq_true rfl, Nat.le_of_ble_eq_true rfl⟩ ⟨Nat.zero_le _, Nat.zero_le _⟩ hP rfl rfl hl.1 rfl (Nat.le_of_ble_eq_true rfl) dX7_tellsWhy_184 ?_
              refine lv_aload_n hx hb dX7_tellsWhy_187 rfl (lv_at hl 3 rfl) ?_
              refine gf_X7_15 hx hb hG hown hKX hP 0 rfl rfl dX7_tellsWhy_188 ?_
              refine lv_bipush (v := (17 : Int32)) hx hb dX7_tellsWhy_191 (by decide) ?_
              refine lv_iload_n hx hb dX7_tellsWhy_193 rfl (lv_at hl 4 rfl) ?_
              refine lv_iadd hx hb dX7_tellsWhy_194 ?_
              refine topi_eq (y := nI (17 + c)) (aN rfl rfl) ?_
              refine iald_n hx hb hKX hP 1 rfl rfl (by omega) (by decide) dX7_tellsWhy_195 ?_
              refine cRwVV (q0 := 0) (ci := 7) mw24_2 mw24_3 mw24_4 mw1_5 mw24_5 rfl rfl hd_X7_because hx hb hml hown hG hKX (c_X7_because l D cy om om_thrown om_s om_kept om_aside om_isKept om_reaches om_ringOf om_rungOf om_rings (nI r) om_paid om_leftOf om_ringPaid om_paidAll om_mosts om_text om_signs om_at om_isWrong om_clauses om_letters om_one om_two om_three u39 om_backs om_sorts om_sizes om_items (3 : Int32) (f_X7_stead om_s (om_leftOf ra) c) (om_s (17 + c))) ⟨Nat.le_of_ble_eq_true rfl, Nat.le_of_ble_eq_true rfl⟩ ⟨Nat.zero_le _, Nat.zero_le _⟩ hP hD hS hA [0, 1, 2, 3, 4, 5, 6, 7, 8, 9, 10, 11, 12, 13, 14, 15, 16, 17, 18, 19, 20, 21] [] [0, 1, 2, 3, 4, 5, 6, 7, 8, 9, 10, 11, 12, 13, 14, 15, 16, 17, 18, 19, 20, 21] (wr := []) (wn := fun u196 => wX7 cy om om_thrown om_s om_kept om_aside om_isKept om_reaches om_ringOf om_rungOf om_rings (nI r) om_paid om_leftOf om_ringPaid om_paidAll om_mosts om_text om_signs om_at om_isWrong om_clauses om_letters om_one om_two om_three u196 om_backs om_sorts om_sizes om_items) rfl (by decide) rfl (by decide) (by decide) (fun _ => rfl) (by decide) rfl rfl hl.1 rfl (Nat.le_of_ble_eq_true rfl) dX7_tellsWhy_196 (fun u196 H locs hw196 hP hD hS => ?_)
              refine lv_goto (tgt := 280) hx hb dX7_tellsWhy_199 (by decide) ?_
              exact W.vret hx hb hr (fun t ht hW => ⟨⟨u196, rfl, by subst hw196; subst hw39; subst ev31; unfold f_X7_tellsWhy; rw [if_pos c1, if_neg c20, if_pos c21, if_pos c22, if_pos c26, if_neg c27] <;> rfl, by rw [ht]; exact hP, hD⟩, hS.F ht⟩) hS.2.2 dX7_tellsWhy_280
          · refine lv_aload_n hx hb dX7_tellsWhy_129 rfl (lv_at hl 3 rfl) ?_
            refine lv_iload_n hx hb dX7_tellsWhy_130 rfl (lv_at hl 4 rfl) ?_
            refine cRoV (q0 := 0) (ci := 7) mw16_9 mw16_10 mw16_11 mw1_5 mw16_12 rfl rfl hd_X7_payer hx hb hml hown hG hKX (c_X7_payer l D cy om om_thrown om_s om_kept om_aside om_isKept om_reaches om_ringOf om_rungOf om_rings (nI r) om_paid om_leftOf om_ringPaid om_paidAll om_mosts om_text om_signs om_at om_isWrong om_clauses om_letters om_one om_two om_three u39 om_backs om_sorts om_sizes om_items n c hn hs0 hc) ⟨Nat.le_of_ble_eq_true rfl, Nat.le_of_ble_eq_true rfl⟩ ⟨Nat.zero_le _, Nat.zero_le _⟩ hP rfl rfl hl.1 rfl (Nat.le_of_ble_eq_true rfl) dX7_tellsWhy_131 ?_
            refine lv_iconst (v := (-1 : Int32)) hx hb dX7_tellsWhy_134 (by decide) ?_
            refine lv_icmp_eq (tgt := 161) hx hb dX7_tellsWhy_135 (by decide) (fun c30 => ?_) (fun c30 => ?_)
            · refine lv_aload_n hx hb dX7_tellsWhy_161 rfl (lv_at hl 3 rfl) ?_
              refine lv_iload_n hx hb dX7_tellsWhy_162 rfl (lv_at hl 4 rfl) ?_
              refine lv_iload_n hx hb dX7_tellsWhy_163 rfl (lv_at hl 1 rfl) ?_
              refine cRoV (q0 := 0) (ci := 7) mw15_21 mw15_22 mw15_23 mw1_5 mw16_0 rfl rfl hd_X7_stead hx hb hml hown hG hKX (c_X7_stead l D cy om om_thrown om_s om_kept om_aside om_isKept om_reaches om_ringOf om_rungOf om_rings (nI r) om_paid om_leftOf om_ringPaid om_paidAll om_mosts om_text om_signs om_at om_isWrong om_clauses om_letters om_one om_two om_three u39 om_backs om_sorts om_sizes om_items (om_leftOf ra) n c hn hs0 hc) ⟨Nat.le_of_ble_eq_true rfl, Nat.le_of_ble_eq_true rfl⟩ ⟨Nat.zero_le _, Nat.zero_le _⟩ hP rfl rfl hl.1 rfl (Nat.le_of_ble_eq_true rfl) dX7_tellsWhy_164 ?_
              refine lv_aload_n hx hb dX7_tellsWhy_167 rfl (lv_at hl 3 rfl) ?_
              refine gf_X7_15 hx hb hG hown hKX hP 0 rfl rfl dX7_tellsWhy_168 ?_
              refine lv_bipush (v := (17 : Int32)) hx hb dX7_tellsWhy_171 (by decide) ?_
              refine lv_iload_n hx hb dX7_tellsWhy_173 rfl (lv_at hl 4 rfl) ?_
              refine lv_iadd hx hb dX7_tellsWhy_174 ?_
              refine topi_eq (y := nI (17 + c)) (aN rfl rfl) ?_
              refine iald_n hx hb hKX hP 1 rfl rfl (by omega) (by decide) dX7_tellsWhy_175 ?_
              refine lv_icmp_gt (tgt := 202) hx hb dX7_tellsWhy_176 (by decide) (fun c31 => ?_) (fun c31 => ?_)
              · refine lv_aload_n hx hb dX7_tellsWhy_202 rfl (lv_at hl 3 rfl) ?_
                refine gf_X7_37 hx hb hG hown hKX hP 0 rfl rfl dX7_tellsWhy_203 ?_
                refine lv_iload_n hx hb dX7_tellsWhy_206 rfl (lv_at hl 4 rfl) ?_
                refine iald_n hx hb hKX hP 8 rfl rfl (by omega) (by decide) dX7_tellsWhy_207 ?_
                refine lv_aload_n hx hb dX7_tellsWhy_208 rfl (lv_at hl 3 rfl) ?_
                refine gf_X7_15 hx hb hG hown hKX hP 0 rfl rfl dX7_tellsWhy_209 ?_
                refine lv_bipush (v := (11 : Int32)) hx hb dX7_tellsWhy_212 (by decide) ?_
                refine lv_iload_n hx hb dX7_tellsWhy_214 rfl (lv_at hl 4 rfl) ?_
                refine lv_iadd hx hb dX7_tellsWhy_215 ?_
                refine topi_eq (y := nI (11 + c)) (aN rfl rfl) ?_
                refine iald_n hx hb hKX hP 1 rfl rfl (by omega) (by decide) dX7_tellsWhy_216 ?_
                refine lv_icmp_ne (tgt := 239) hx hb dX7_tellsWhy_217 (by decide) (fun c32 => ?_) (fun c32 => ?_)
                · refine lv_iload hx hb dX7_tellsWhy_239 (lv_at hl 0 rfl) ?_
                  refine lv_if_ne (tgt := 264) hx hb dX7_tellsWhy_241 (by decide) (fun _ => ?_) (fun c33 => absurd c33 c26)
                  refine lv_aload_n hx hb dX7_tellsWhy_264 rfl (lv_at hl 3 rfl) ?_
                  refine lv_bipush (v := (6 : Int32)) hx hb dX7_tellsWhy_265 (by decide) ?_
                  refine lv_iload_n hx hb dX7_tellsWhy_267 rfl (lv_at hl 1 rfl) ?_
                  refine lv_aload_n hx hb dX7_tellsWhy_268 rfl (lv_at hl 3 rfl) ?_
                  refine gf_X7_37 hx hb hG hown hKX hP 0 rfl rfl dX7_tellsWhy_269 ?_
                  refine lv_iload_n hx hb dX7_tellsWhy_272 rfl (lv_at hl 4 rfl) ?_
                  refine iald_n hx hb hKX hP 8 rfl rfl (by omega) (by decide) dX7_tellsWhy_273 ?_
                  refine lv_isub hx hb dX7_tellsWhy_274 ?_
                  refine lv_bipush (v := (-5 : Int32)) hx hb dX7_tellsWhy_275 (by decide) ?_
                  refine cRwVV (q0 := 0) (ci := 7) mw24_2 mw24_3 mw24_4 mw1_5 mw24_5 rfl rfl hd_X7_because hx hb hml hown hG hKX (c_X7_because l D cy om om_thrown om_s om_kept om_aside om_isKept om_reaches om_ringOf om_rungOf om_rings (nI r) om_paid om_leftOf om_ringPaid om_paidAll om_mosts om_text om_signs om_at om_isWrong om_clauses om_letters om_one om_two om_three u39 om_backs om_sorts om_sizes om_items (6 : Int32) ((om_leftOf ra) - (om_paid c)) (-5 : Int32)) ⟨Nat.le_of_ble_eq_true rfl, Nat.le_of_ble_eq_true rfl⟩ ⟨Nat.zero_le _, Nat.zero_le _⟩ hP hD hS hA [0, 1, 2, 3, 4, 5, 6, 7, 8, 9, 10, 11, 12, 13, 14, 15, 16, 17, 18, 19, 20, 21] [] [0, 1, 2, 3, 4, 5, 6, 7, 8, 9, 10, 11, 12, 13, 14, 15, 16, 17, 18, 19, 20, 21] (wr := []) (wn := fun u277 => wX7 cy om om_thrown om_s om_kept om_aside om_isKept om_reaches om_ringOf om_rungOf om_rings (nI r) om_paid om_leftOf om_ringPaid om_paidAll om_mosts om_text om_signs om_at om_isWrong om_clauses om_letters om_one om_two om_three u277 om_backs om_sorts om_sizes om_items) rfl (by decide) rfl (by decide) (by decide) (fun _ => rfl) (by decide) rfl rfl hl.1 rfl (Nat.le_of_ble_eq_true rfl) dX7_tellsWhy_277 (fun u277 H locs hw277 hP hD hS => ?_)
                  exact W.vret hx hb hr (fun t ht hW => ⟨⟨u277, rfl, by subst hw277; subst hw39; subst ev31; unfold f_X7_tellsWhy; rw [if_pos c1, if_neg c20, if_pos c21, if_pos c22, if_neg c26, if_pos c30, if_pos c31, if_neg c32] <;> rfl, by rw [ht]; exact hP, hD⟩, hS.F ht⟩) hS.2.2 dX7_tellsWhy_280
                · refine lv_aload_n hx hb dX7_tellsWhy_220 rfl (lv_at hl 3 rfl) ?_
                  refine lv_iconst (v := (4 : Int32)) hx hb dX7_tellsWhy_221 (by decide) ?_
                  refine lv_aload_n hx hb dX7_tellsWhy_222 rfl (lv_at hl 3 rfl) ?_
                  refine gf_X7_15 hx hb hG hown hKX hP 0 rfl rfl dX7_tellsWhy_223 ?_
                  refine lv_bipush (v := (11 : Int32)) hx hb dX7_tellsWhy_226 (by decide) ?_
                  refine lv_iload_n hx hb dX7_tellsWhy_228 rfl (lv_at hl 4 rfl) ?_
                  refine lv_iadd hx hb dX7_tellsWhy_229 ?_
                  refine topi_eq (y := nI (11 + c)) (aN rfl rfl) ?_
                  refine iald_n hx hb hKX hP 1 rfl rfl (by omega) (by decide) dX7_tellsWhy_230 ?_
                  refine lv_bipush (v := (-5 : Int32)) hx hb dX7_tellsWhy_231 (by decide) ?_
                  refine cRwVV (q0 := 0) (ci := 7) mw24_2 mw24_3 mw24_4 mw1_5 mw24_5 rfl rfl hd_X7_because hx hb hml hown hG hKX (c_X7_because l D cy om om_thrown om_s om_kept om_aside om_isKept om_reaches om_ringOf om_rungOf om_rings (nI r) om_paid om_leftOf om_ringPaid om_paidAll om_mosts om_text om_signs om_at om_isWrong om_clauses om_letters om_one om_two om_three u39 om_backs om_sorts om_sizes om_items (4 : Int32) (om_s (11 + c)) (-5 : Int32)) ⟨Nat.le_of_ble_eq_true rfl, Nat.le_of_ble_eq_true rfl⟩ ⟨Nat.zero_le _, Nat.zero_le _⟩ hP hD hS hA [0, 1, 2, 3, 4, 5, 6, 7, 8, 9, 10, 11, 12, 13, 14, 15, 16, 17, 18, 19, 20, 21] [] [0, 1, 2, 3, 4, 5, 6, 7, 8, 9, 10, 11, 12, 13, 14, 15, 16, 17, 18, 19, 20, 21] (wr := []) (wn := fun u233 => wX7 cy om om_thrown om_s om_kept om_aside om_isKept om_reaches om_ringOf om_rungOf om_rings (nI r) om_paid om_leftOf om_ringPaid om_paidAll om_mosts om_text om_signs om_at om_isWrong om_clauses om_letters om_one om_two om_three u233 om_backs om_sorts om_sizes om_items) rfl (by decide) rfl (by decide) (by decide) (fun _ => rfl) (by decide) rfl rfl hl.1 rfl (Nat.le_of_ble_eq_true rfl) dX7_tellsWhy_233 (fun u233 H locs hw233 hP hD hS => ?_)
                  refine lv_goto (tgt := 280) hx hb dX7_tellsWhy_236 (by decide) ?_
                  exact W.vret hx hb hr (fun t ht hW => ⟨⟨u233, rfl, by subst hw233; subst hw39; subst ev31; unfold f_X7_tellsWhy; rw [if_pos c1, if_neg c20, if_pos c21, if_pos c22, if_neg c26, if_pos c30, if_pos c31, if_pos c32] <;> rfl, by rw [ht]; exact hP, hD⟩, hS.F ht⟩) hS.2.2 dX7_tellsWhy_280
              · refine lv_aload_n hx hb dX7_tellsWhy_179 rfl (lv_at hl 3 rfl) ?_
                refine lv_iconst (v := (3 : Int32)) hx hb dX7_tellsWhy_180 (by decide) ?_
                refine lv_aload_n hx hb dX7_tellsWhy_181 rfl (lv_at hl 3 rfl) ?_
                refine lv_iload_n hx hb dX7_tellsWhy_182 rfl (lv_at hl 4 rfl) ?_
                refine lv_iload_n hx hb dX7_tellsWhy_183 rfl (lv_at hl 1 rfl) ?_
                refine cRoV (q0 := 0) (ci := 7) mw15_21 mw15_22 mw15_23 mw1_5 mw16_0 rfl rfl hd_X7_stead hx hb hml hown hG hKX (c_X7_stead l D cy om om_thrown om_s om_kept om_aside om_isKept om_reaches om_ringOf om_rungOf om_rings (nI r) om_paid om_leftOf om_ringPaid om_paidAll om_mosts om_text om_signs om_at om_isWrong om_clauses om_letters om_one om_two om_three u39 om_backs om_sorts om_sizes om_items (om_leftOf ra) n c hn hs0 hc) ⟨Nat.le_of_ble_eq_true rfl, Nat.le_of_ble_eq_true rfl⟩ ⟨Nat.zero_le _, Nat.zero_le _⟩ hP rfl rfl hl.1 rfl (Nat.le_of_ble_eq_true rfl) dX7_tellsWhy_184 ?_
                refine lv_aload_n hx hb dX7_tellsWhy_187 rfl (lv_at hl 3 rfl) ?_
                refine gf_X7_15 hx hb hG hown hKX hP 0 rfl rfl dX7_tellsWhy_188 ?_
                refine lv_bipush (v := (17 : Int32)) hx hb dX7_tellsWhy_191 (by decide) ?_
                refine lv_iload_n hx hb dX7_tellsWhy_193 rfl (lv_at hl 4 rfl) ?_
                refine lv_iadd hx hb dX7_tellsWhy_194 ?_
                refine topi_eq (y := nI (17 + c)) (aN rfl rfl) ?_
                refine iald_n hx hb hKX hP 1 rfl rfl (by omega) (by decide) dX7_tellsWhy_195 ?_
                refine cRwVV (q0 := 0) (ci := 7) mw24_2 mw24_3 mw24_4 mw1_5 mw24_5 rfl rfl hd_X7_because hx hb hml hown hG hKX (c_X7_because l D cy om om_thrown om_s om_kept om_aside om_isKept om_reaches om_ringOf om_rungOf om_rings (nI r) om_paid om_leftOf om_ringPaid om_paidAll om_mosts om_text om_signs om_at om_isWrong om_clauses om_letters om_one om_two om_three u39 om_backs om_sorts om_sizes om_items (3 : Int32) (f_X7_stead om_s (om_leftOf ra) c) (om_s (17 + c))) ⟨Nat.le_of_ble_eq_true rfl, Nat.le_of_ble_eq_true rfl⟩ ⟨Nat.zero_le _, Nat.zero_le _⟩ hP hD hS hA [0, 1, 2, 3, 4, 5, 6, 7, 8, 9, 10, 11, 12, 13, 14, 15, 16, 17, 18, 19, 20, 21] [] [0, 1, 2, 3, 4, 5, 6, 7, 8, 9, 10, 11, 12, 13, 14, 15, 16, 17, 18, 19, 20, 21] (wr := []) (wn := fun u196 => wX7 cy om om_thrown om_s om_kept om_aside om_isKept om_reaches om_ringOf om_rungOf om_rings (nI r) om_paid om_leftOf om_ringPaid om_paidAll om_mosts om_text om_signs om_at om_isWrong om_clauses om_letters om_one om_two om_three u196 om_backs om_sorts om_sizes om_items) rfl (by decide) rfl (by decide) (by decide) (fun _ => rfl) (by decide) rfl rfl hl.1 rfl (Nat.le_of_ble_eq_true rfl) dX7_tellsWhy_196 (fun u196 H locs hw196 hP hD hS => ?_)
                refine lv_goto (tgt := 280) hx hb dX7_tellsWhy_199 (by decide) ?_
                exact W.vret hx hb hr (fun t ht hW => ⟨⟨u196, rfl, by subst hw196; subst hw39; subst ev31; unfold f_X7_tellsWhy; rw [if_pos c1, if_neg c20, if_pos c21, if_pos c22, if_neg c26, if_pos c30, if_neg c31] <;> rfl, by rw [ht]; exact hP, hD⟩, hS.F ht⟩) hS.2.2 dX7_tellsWhy_280
            · obtain ⟨j280, hj280, hlj280, hcj280⟩ := pyr_of (by omega) c30
              refine lv_aload_n hx hb dX7_tellsWhy_138 rfl (lv_at hl 3 rfl) ?_
              refine lv_iconst (v := (2 : Int32)) hx hb dX7_tellsWhy_139 (by decide) ?_
              refine lv_aload_n hx hb dX7_tellsWhy_140 rfl (lv_at hl 3 rfl) ?_
              refine lv_iload_n hx hb dX7_tellsWhy_141 rfl (lv_at hl 4 rfl) ?_
              refine cRoV (q0 := 0) (ci := 7) mw16_9 mw16_10 mw16_11 mw1_5 mw16_12 rfl rfl hd_X7_payer hx hb hml hown hG hKX (c_X7_payer l D cy om om_thrown om_s om_kept om_aside om_isKept om_reaches om_ringOf om_rungOf om_rings (nI r) om_paid om_leftOf om_ringPaid om_paidAll om_mosts om_text om_signs om_at om_isWrong om_clauses om_letters om_one om_two om_three u39 om_backs om_sorts om_sizes om_items n c hn hs0 hc) ⟨Nat.le_of_ble_eq_true rfl, Nat.le_of_ble_eq_true rfl⟩ ⟨Nat.zero_le _, Nat.zero_le _⟩ hP rfl rfl hl.1 rfl (Nat.le_of_ble_eq_true rfl) dX7_tellsWhy_142 ?_
              refine lv_aload_n hx hb dX7_tellsWhy_145 rfl (lv_at hl 3 rfl) ?_
              refine gf_X7_37 hx hb hG hown hKX hP 0 rfl rfl dX7_tellsWhy_146 ?_
              refine lv_aload_n hx hb dX7_tellsWhy_149 rfl (lv_at hl 3 rfl) ?_
              refine lv_iload_n hx hb dX7_tellsWhy_150 rfl (lv_at hl 4 rfl) ?_
              refine cRoV (q0 := 0) (ci := 7) mw16_9 mw16_10 mw16_11 mw1_5 mw16_12 rfl rfl hd_X7_payer hx hb hml hown hG hKX (c_X7_payer l D cy om om_thrown om_s om_kept om_aside om_isKept om_reaches om_ringOf om_rungOf om_rings (nI r) om_paid om_leftOf om_ringPaid om_paidAll om_mosts om_text om_signs om_at om_isWrong om_clauses om_letters om_one om_two om_three u39 om_backs om_sorts om_sizes om_items n c hn hs0 hc) ⟨Nat.le_of_ble_eq_true rfl, Nat.le_of_ble_eq_true rfl⟩ ⟨Nat.zero_le _, Nat.zero_le _⟩ hP rfl rfl hl.1 rfl (Nat.le_of_ble_eq_true rfl) dX7_tellsWhy_151 ?_
              refine iald_n hx hb hKX hP 8 rfl hcj280 (by omega) (by decide) dX7_tellsWhy_154 ?_
              refine cRwVV (q0 := 0) (ci := 7) mw24_2 mw24_3 mw24_4 mw1_5 mw24_5 rfl rfl hd_X7_because hx hb hml hown hG hKX (c_X7_because l D cy om om_thrown om_s om_kept om_aside om_isKept om_reaches om_ringOf om_rungOf om_rings (nI r) om_paid om_leftOf om_ringPaid om_paidAll om_mosts om_text om_signs om_at om_isWrong om_clauses om_letters om_one om_two om_three u39 om_backs om_sorts om_sizes om_items (2 : Int32) (f_X7_payer om_s om_paid n c) (om_paid j280)) ⟨Nat.le_of_ble_eq_true rfl, Nat.le_of_ble_eq_true rfl⟩ ⟨Nat.zero_le _, Nat.zero_le _⟩ hP hD hS hA [0, 1, 2, 3, 4, 5, 6, 7, 8, 9, 10, 11, 12, 13, 14, 15, 16, 17, 18, 19, 20, 21] [] [0, 1, 2, 3, 4, 5, 6, 7, 8, 9, 10, 11, 12, 13, 14, 15, 16, 17, 18, 19, 20, 21] (wr := []) (wn := fun u155 => wX7 cy om om_thrown om_s om_kept om_aside om_isKept om_reaches om_ringOf om_rungOf om_rings (nI r) om_paid om_leftOf om_ringPaid om_paidAll om_mosts om_text om_signs om_at om_isWrong om_clauses om_letters om_one om_two om_three u155 om_backs om_sorts om_sizes om_items) rfl (by decide) rfl (by decide) (by decide) (fun _ => rfl) (by decide) rfl rfl hl.1 rfl (Nat.le_of_ble_eq_true rfl) dX7_tellsWhy_155 (fun u155 H locs hw155 hP hD hS => ?_)
              refine lv_goto (tgt := 280) hx hb dX7_tellsWhy_158 (by decide) ?_
              exact W.vret hx hb hr (fun t ht hW => ⟨⟨u155, rfl, by subst hw155; subst hj280; subst hw39; subst ev31; unfold f_X7_tellsWhy; rw [if_pos c1, if_neg c20, if_pos c21, if_pos c22, if_neg c26, if_neg c30] <;> rfl, by rw [ht]; exact hP, hD⟩, hS.F ht⟩) hS.2.2 dX7_tellsWhy_280
      · exact W.vret hx hb hr (fun t ht hW => ⟨⟨u39, rfl, by subst hw39; subst ev31; unfold f_X7_tellsWhy; rw [if_pos c1, if_neg c20, if_neg c21] <;> rfl, by rw [ht]; exact hP, hD⟩, hS.F ht⟩) hS.2.2 dX7_tellsWhy_111
    · refine lv_aload_n hx hb dX7_tellsWhy_46 rfl (lv_at hl 3 rfl) ?_
      refine lv_iload_n hx hb dX7_tellsWhy_47 rfl (lv_at hl 2 rfl) ?_
      refine cRoV (q0 := 0) (ci := 7) mw24_6 mw24_7 mw24_8 mw1_5 mw24_9 rfl rfl hd_X7_lastAhead hx hb hml hown hG hKX (c_X7_lastAhead l D cy om om_thrown om_s om_kept om_aside om_isKept om_reaches om_ringOf om_rungOf om_rings (nI r) om_paid om_leftOf om_ringPaid om_paidAll om_mosts om_text om_signs om_at om_isWrong om_clauses om_letters om_one om_two om_three u39 om_backs om_sorts om_sizes om_items n ra hn hs0 hra6) ⟨Nat.le_of_ble_eq_true rfl, Nat.le_of_ble_eq_true rfl⟩ ⟨Nat.zero_le _, Nat.zero_le _⟩ hP rfl rfl hl.1 rfl (Nat.le_of_ble_eq_true rfl) dX7_tellsWhy_48 ?_
      refine lv_istore (lv' := [(5, .int (f_X7_lastAhead om_rings om_paid n ra)), (4, .int v31), (3, .int (om_leftOf ra)), (2, .int (nI ra)), (0, .ref (om 0)), (1, .int (nI c))]) hx hb dX7_tellsWhy_51 hl (by decide) rfl (fun ls hl => ?_)
      refine lv_aload_n hx hb dX7_tellsWhy_53 rfl (lv_at hl 4 rfl) ?_
      refine lv_iconst (v := (1 : Int32)) hx hb dX7_tellsWhy_54 (by decide) ?_
      refine lv_aload_n hx hb dX7_tellsWhy_55 rfl (lv_at hl 4 rfl) ?_
      refine gf_X7_15 hx hb hG hown hKX hP 0 rfl rfl dX7_tellsWhy_56 ?_
      refine lv_iconst (v := (1 : Int32)) hx hb dX7_tellsWhy_59 (by decide) ?_
      refine iald_n hx hb hKX hP 1 rfl rfl (by decide) (by decide) dX7_tellsWhy_60 ?_
      refine lv_if_ne (tgt := 69) hx hb dX7_tellsWhy_61 (by decide) (fun c34 => ?_) (fun c34 => ?_)
      · refine lv_iload hx hb dX7_tellsWhy_69 (lv_at hl 0 rfl) ?_
        refine lv_aload_n hx hb dX7_tellsWhy_71 rfl (lv_at hl 4 rfl) ?_
        refine gf_X7_15 hx hb hG hown hKX hP 0 rfl rfl dX7_tellsWhy_72 ?_
        refine lv_iconst (v := (1 : Int32)) hx hb dX7_tellsWhy_75 (by decide) ?_
        refine iald_n hx hb hKX hP 1 rfl rfl (by decide) (by decide) dX7_tellsWhy_76 ?_
        refine lv_if_eq (tgt := 86) hx hb dX7_tellsWhy_77 (by decide) (fun c35 => absurd c35 c34) (fun _ => ?_)
        refine lv_iload hx hb dX7_tellsWhy_80 (lv_at hl 0 rfl) ?_
        refine lv_iconst (v := (-1 : Int32)) hx hb dX7_tellsWhy_82 (by decide) ?_
        refine lv_icmp_ne (tgt := 90) hx hb dX7_tellsWhy_83 (by decide) (fun c36 => ?_) (fun c36 => ?_)
        · obtain ⟨j83, hj83, hlj83, hcj83⟩ := la_of (by omega) c36
          refine lv_aload_n hx hb dX7_tellsWhy_90 rfl (lv_at hl 4 rfl) ?_
          refine gf_X7_37 hx hb hG hown hKX hP 0 rfl rfl dX7_tellsWhy_91 ?_
          refine lv_iload hx hb dX7_tellsWhy_94 (lv_at hl 0 rfl) ?_
          refine iald_n hx hb hKX hP 8 rfl hcj83 (by omega) (by decide) dX7_tellsWhy_96 ?_
          refine cRwVV (q0 := 0) (ci := 7) mw24_2 mw24_3 mw24_4 mw1_5 mw24_5 rfl rfl hd_X7_because hx hb hml hown hG hKX (c_X7_because l D cy om om_thrown om_s om_kept om_aside om_isKept om_reaches om_ringOf om_rungOf om_rings (nI r) om_paid om_leftOf om_ringPaid om_paidAll om_mosts om_text om_signs om_at om_isWrong om_clauses om_letters om_one om_two om_three u39 om_backs om_sorts om_sizes om_items (1 : Int32) (f_X7_lastAhead om_rings om_paid n ra) (om_paid j83)) ⟨Nat.le_of_ble_eq_true rfl, Nat.le_of_ble_eq_true rfl⟩ ⟨Nat.zero_le _, Nat.zero_le _⟩ hP hD hS hA [0, 1, 2, 3, 4, 5, 6, 7, 8, 9, 10, 11, 12, 13, 14, 15, 16, 17, 18, 19, 20, 21] [] [0, 1, 2, 3, 4, 5, 6, 7, 8, 9, 10, 11, 12, 13, 14, 15, 16, 17, 18, 19, 20, 21] (wr := []) (wn := fun u97 => wX7 cy om om_thrown om_s om_kept om_aside om_isKept om_reaches om_ringOf om_rungOf om_rings (nI r) om_paid om_leftOf om_ringPaid om_paidAll om_mosts om_text om_signs om_at om_isWrong om_clauses om_letters om_one om_two om_three u97 om_backs om_sorts om_sizes om_items) rfl (by decide) rfl (by decide) (by decide) (fun _ => rfl) (by decide) rfl rfl hl.1 rfl (Nat.le_of_ble_eq_true rfl) dX7_tellsWhy_97 (fun u97 H locs hw97 hP hD hS => ?_)
          exact W.vret hx hb hr (fun t ht hW => ⟨⟨u97, rfl, by subst hw97; subst hj83; subst hw39; subst ev31; unfold f_X7_tellsWhy; rw [if_pos c1, if_pos c20, if_neg c34, if_neg c36] <;> rfl, by rw [ht]; exact hP, hD⟩, hS.F ht⟩) hS.2.2 dX7_tellsWhy_100
        · refine lv_iconst (v := (0 : Int32)) hx hb dX7_tellsWhy_86 (by decide) ?_
          refine lv_goto (tgt := 97) hx hb dX7_tellsWhy_87 (by decide) ?_
          refine cRwVV (q0 := 0) (ci := 7) mw24_2 mw24_3 mw24_4 mw1_5 mw24_5 rfl rfl hd_X7_because hx hb hml hown hG hKX (c_X7_because l D cy om om_thrown om_s om_kept om_aside om_isKept om_reaches om_ringOf om_rungOf om_rings (nI r) om_paid om_leftOf om_ringPaid om_paidAll om_mosts om_text om_signs om_at om_isWrong om_clauses om_letters om_one om_two om_three u39 om_backs om_sorts om_sizes om_items (1 : Int32) (f_X7_lastAhead om_rings om_paid n ra) (0 : Int32)) ⟨Nat.le_of_ble_eq_true rfl, Nat.le_of_ble_eq_true rfl⟩ ⟨Nat.zero_le _, Nat.zero_le _⟩ hP hD hS hA [0, 1, 2, 3, 4, 5, 6, 7, 8, 9, 10, 11, 12, 13, 14, 15, 16, 17, 18, 19, 20, 21] [] [0, 1, 2, 3, 4, 5, 6, 7, 8, 9, 10, 11, 12, 13, 14, 15, 16, 17, 18, 19, 20, 21] (wr := []) (wn := fun u97 => wX7 cy om om_thrown om_s om_kept om_aside om_isKept om_reaches om_ringOf om_rungOf om_rings (nI r) om_paid om_leftOf om_ringPaid om_paidAll om_mosts om_text om_signs om_at om_isWrong om_clauses om_letters om_one om_two om_three u97 om_backs om_sorts om_sizes om_items) rfl (by decide) rfl (by decide) (by decide) (fun _ => rfl) (by decide) rfl rfl hl.1 rfl (Nat.le_of_ble_eq_true rfl) dX7_tellsWhy_97 (fun u97 H locs hw97 hP hD hS => ?_)
          exact W.vret hx hb hr (fun t ht hW => ⟨⟨u97, rfl, by subst hw97; subst hw39; subst ev31; unfold f_X7_tellsWhy; rw [if_pos c1, if_pos c20, if_neg c34, if_pos c36] <;> rfl, by rw [ht]; exact hP, hD⟩, hS.F ht⟩) hS.2.2 dX7_tellsWhy_100
      · refine lv_bipush (v := (99 : Int32)) hx hb dX7_tellsWhy_64 (by decide) ?_
        refine lv_goto (tgt := 71) hx hb dX7_tellsWhy_66 (by decide) ?_
        refine lv_aload_n hx hb dX7_tellsWhy_71 rfl (lv_at hl 4 rfl) ?_
        refine gf_X7_15 hx hb hG hown hKX hP 0 rfl rfl dX7_tellsWhy_72 ?_
        refine lv_iconst (v := (1 : Int32)) hx hb dX7_tellsWhy_75 (by decide) ?_
        refine iald_n hx hb hKX hP 1 rfl rfl (by decide) (by decide) dX7_tellsWhy_76 ?_
        refine lv_if_eq (tgt := 86) hx hb dX7_tellsWhy_77 (by decide) (fun _ => ?_) (fun c37 => absurd c34 c37)
        refine lv_iconst (v := (0 : Int32)) hx hb dX7_tellsWhy_86 (by decide) ?_
        refine lv_goto (tgt := 97) hx hb dX7_tellsWhy_87 (by decide) ?_
        refine cRwVV (q0 := 0) (ci := 7) mw24_2 mw24_3 mw24_4 mw1_5 mw24_5 rfl rfl hd_X7_because hx hb hml hown hG hKX (c_X7_because l D cy om om_thrown om_s om_kept om_aside om_isKept om_reaches om_ringOf om_rungOf om_rings (nI r) om_paid om_leftOf om_ringPaid om_paidAll om_mosts om_text om_signs om_at om_isWrong om_clauses om_letters om_one om_two om_three u39 om_backs om_sorts om_sizes om_items (1 : Int32) (99 : Int32) (0 : Int32)) ⟨Nat.le_of_ble_eq_true rfl, Nat.le_of_ble_eq_true rfl⟩ ⟨Nat.zero_le _, Nat.zero_le _⟩ hP hD hS hA [0, 1, 2, 3, 4, 5, 6, 7, 8, 9, 10, 11, 12, 13, 14, 15, 16, 17, 18, 19, 20, 21] [] [0, 1, 2, 3, 4, 5, 6, 7, 8, 9, 10, 11, 12, 13, 14, 15, 16, 17, 18, 19, 20, 21] (wr := []) (wn := fun u97 => wX7 cy om om_thrown om_s om_kept om_aside om_isKept om_reaches om_ringOf om_rungOf om_rings (nI r) om_paid om_leftOf om_ringPaid om_paidAll om_mosts om_text om_signs om_at om_isWrong om_clauses om_letters om_one om_two om_three u97 om_backs om_sorts om_sizes om_items) rfl (by decide) rfl (by decide) (by decide) (fun _ => rfl) (by decide) rfl rfl hl.1 rfl (Nat.le_of_ble_eq_true rfl) dX7_tellsWhy_97 (fun u97 H locs hw97 hP hD hS => ?_)
        exact W.vret hx hb hr (fun t ht hW => ⟨⟨u97, rfl, by subst hw97; subst hw39; subst ev31; unfold f_X7_tellsWhy; rw [if_pos c1, if_pos c20, if_pos c34] <;> rfl, by rw [ht]; exact hP, hD⟩, hS.F ht⟩) hS.2.2 dX7_tellsWhy_100
