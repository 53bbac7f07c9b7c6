def bd_X6_judgev_78 (op_items : Nat → Int64) (lm : Nat) (j68 : Nat) (u72 : (Nat → Int32) × (Nat → Int32) × (Nat → Int32) × (Nat → Int32) × (Nat → Int32) × (Nat → Int32) × (Nat → Int32) × (Nat → Int32) × (Nat → Int32) × (Nat → Int32) × (Nat → Int32) × Nat × Int32 × Int32) (k78 : Nat) : Option (Int32 × (Nat → Int32) × (Nat → Int32) × (Nat → Int32) × (Nat → Int32) × (Nat → Int32) × (Nat → Int32) × (Nat → Int32) × (Nat → Int32) × (Nat → Int32) × (Nat → Int32) × (Nat → Int32) × Nat × Int32 × Int32) :=
  if nI j68 < (nI lm - nI k78) then (if (lg_cmp (op_items (j68 + k78)) (((u72.2.2.2.2.2.1 k78)).toInt64)) = (0 : Int32) then none else (some (nI k78, u72))) else (some (nI (100 + k78), u72))
def f_X6_judgev (os_kind : Nat → Int32) (os_limit : Nat → Int32) (os_retention : Nat → Int32) (os_quota : Nat → Int32) (os_refers : Nat → Int32) (os_lossNow : Int32) (ol_reach : Nat → Int32) (ol_ringWith : Nat → Int32) (ol_rungOf : Nat → Int32) (ol_ringOf : Nat → Int32) (ol_most : Nat → Int32) (ol_paid : Nat → Int32) (ol_ringFirst : Nat → Int32) (ol_ringBits : Nat → Int32) (ol_ringRung : Nat → Int32) (ol_ringLeft : Nat → Int32) (ol_ringPaid : Nat → Int32) (ol_paidInAll : Int32) (ol_over : Int32) (op_items : Nat → Int64) (op_sort : Int32) (i : Int32) (n : Nat) (r : Nat) (j : Nat) (lm : Nat) : Int32 × (Nat → Int32) × (Nat → Int32) × (Nat → Int32) × (Nat → Int32) × (Nat → Int32) × (Nat → Int32) × (Nat → Int32) × (Nat → Int32) × (Nat → Int32) × (Nat → Int32) × (Nat → Int32) × Nat × Int32 × Int32 :=
  if (f_X6_isTape (nI j)) = (0 : Int32) then ((-1 : Int32), (ol_reach, ol_ringWith, ol_rungOf, ol_ringOf, ol_most, ol_paid, ol_ringFirst, ol_ringBits, ol_ringRung, ol_ringLeft, ol_ringPaid, r, ol_paidInAll, ol_over)) else (if (f_X4_holds op_sort) = (0 : Int32) then (if nI n = (0 : Int32) then ((-5 : Int32), (ol_reach, ol_ringWith, ol_rungOf, ol_ringOf, ol_most, ol_paid, ol_ringFirst, ol_ringBits, ol_ringRung, ol_ringLeft, ol_ringPaid, r, ol_paidInAll, ol_over)) else ((100 : Int32), (ol_reach, ol_ringWith, ol_rungOf, ol_ringOf, ol_most, ol_paid, ol_ringFirst, ol_ringBits, ol_ringRung, ol_ringLeft, ol_ringPaid, r, ol_paidInAll, ol_over))) else (if op_sort = (3 : Int32) then (if nI n = (0 : Int32) then ((-5 : Int32), (ol_reach, ol_ringWith, ol_rungOf, ol_ringOf, ol_most, ol_paid, ol_ringFirst, ol_ringBits, ol_ringRung, ol_ringLeft, ol_ringPaid, r, ol_paidInAll, ol_over)) else (if (0 : Int32) ≤ i then ((srch (bd_X6_judgev_78 op_items lm i.toNatClampNeg (f_X0_settle ol_reach ol_ringWith ol_rungOf ol_ringOf ol_most ol_paid ol_ringFirst ol_ringBits ol_ringRung ol_ringLeft ol_ringPaid os_kind os_limit os_retention os_quota os_refers os_lossNow n)) n 0).getD ((-5 : Int32), (f_X0_settle ol_reach ol_ringWith ol_rungOf ol_ringOf ol_most ol_paid ol_ringFirst ol_ringBits ol_ringRung ol_ringLeft ol_ringPaid os_kind os_limit os_retention os_quota os_refers os_lossNow n))) else ((100 : Int32), (ol_reach, ol_ringWith, ol_rungOf, ol_ringOf, ol_most, ol_paid, ol_ringFirst, ol_ringBits, ol_ringRung, ol_ringLeft, ol_ringPaid, r, ol_paidInAll, ol_over)))) else ((-12 : Int32), (ol_reach, ol_ringWith, ol_rungOf, ol_ringOf, ol_most, ol_paid, ol_ringFirst, ol_ringBits, ol_ringRung, ol_ringLeft, ol_ringPaid, r, ol_paidInAll, ol_over))))
set_option maxHeartbeats 4000000 in
set_option maxRecDepth 100000 in
theorem c_X6_judgev (l : Launch) (D : va_G) (cy : Nat → ClassId) (ox : Nat → Nat) (nt : Nat → Nat) (os : Nat → Nat) (ol : Nat → Nat) (ta : Nat → Nat) (op : Nat → Nat) (tt : Nat → Nat) (ts : Nat → Nat) (tl : Nat → Nat) (oc : Nat → Nat) (r1 : Nat → Nat) (r2 : Nat → Nat) (r3 : Nat → Nat) (ox_isTaken : Int32) (os_kind : Nat → Int32) (os_limit : Nat → Int32) (os_retention : Nat → Int32) (os_quota : Nat → Int32) (os_refers : Nat → Int32) (os_lossNow : Int32) (ol_reach : Nat → Int32) (ol_ringWith : Nat → Int32) (ol_rungOf : Nat → Int32) (ol_ringOf : Nat → Int32) (ol_most : Nat → Int32) (ol_paid : Nat → Int32) (ol_back : Nat → Int32) (ol_ringFirst : Nat → Int32) (ol_ringBits : Nat → Int32) (ol_ringRung : Nat → Int32) (ol_ringLeft : Nat → Int32) (ol_ringPaid : Nat → Int32) (ol_paidInAll : Int32) (ol_over : Int32) (ta_tf : Nat → Option Nat) (op_items : Nat → Int64) (op_sort : Int32) (i : Int32) (n : Nat) (r : Nat) (j : Nat) (lm : Nat) (hn : n ≤ 6) (hj6 : j < 6) (htf : ta_tf j = some (op 0)) (hlm : lm ≤ 60) : RwI (S := (Nat → Int32) × (Nat → Int32) × (Nat → Int32) × (Nat → Int32) × (Nat → Int32) × (Nat → Int32) × (Nat → Int32) × (Nat → Int32) × (Nat → Int32) × (Nat → Int32) × (Nat → Int32) × Nat × Int32 × Int32) l D cy yX6_judge (.code yX6_judge cX6_judge 6 (some .int)) 6 ((wX6 cy ox (nt 0) (tt 0) (ol 0) (ts 0) (tl 0) (oc 0) (ta 0) ox_isTaken) ++ (wX5 cy nt (os 0) (r1 0) (r2 0) (r3 0)) ++ (wX3 cy os os_kind os_limit os_retention os_quota os_refers (nI n) os_lossNow) ++ (wX0 cy ol (os 0) ol_reach ol_ringWith ol_rungOf ol_ringOf ol_most ol_paid ol_back ol_ringFirst ol_ringBits ol_ringRung ol_ringLeft ol_ringPaid (nI r) ol_paidInAll ol_over) ++ (wTA cy ta ta_tf) ++ (wX4 cy op op_items op_sort (nI lm))) [.ref (ox 0), .int (nI j), .int i] (fun rr u => (rr, u) = f_X6_judgev os_kind os_limit os_retention os_quota os_refers os_lossNow ol_reach ol_ringWith ol_rungOf ol_ringOf ol_most ol_paid ol_ringFirst ol_ringBits ol_ringRung ol_ringLeft ol_ringPaid ol_paidInAll ol_over op_items op_sort i n r j lm) (fun u => (wX6 cy ox (nt 0) (tt 0) (ol 0) (ts 0) (tl 0) (oc 0) (ta 0) ox_isTaken) ++ (wX5 cy nt (os 0) (r1 0) (r2 0) (r3 0)) ++ (wX3 cy os os_kind os_limit os_retention os_quota os_refers (nI n) os_lossNow) ++ (wX0 cy ol (os 0) u.1 u.2.1 u.2.2.1 u.2.2.2.1 u.2.2.2.2.1 u.2.2.2.2.2.1 ol_back u.2.2.2.2.2.2.1 u.2.2.2.2.2.2.2.1 u.2.2.2.2.2.2.2.2.1 u.2.2.2.2.2.2.2.2.2.1 u.2.2.2.2.2.2.2.2.2.2.1 (nI u.2.2.2.2.2.2.2.2.2.2.2.1) u.2.2.2.2.2.2.2.2.2.2.2.2.1 u.2.2.2.2.2.2.2.2.2.2.2.2.2) ++ (wTA cy ta ta_tf) ++ (wX4 cy op op_items op_sort (nI lm))) := by
  intro sz
  refine Met.ofW (cc := cX6_judge) (maxL := 6) (ret := (some .int)) (by decide) rfl ?_
  intro pP eE s0 mM args below meth cC s₁ B hml hv
  obtain ⟨rfl, hsz, hP, hKX, hD0⟩ := hv
  have hx := B.exec
  have hb := B.bytes
  have hr := B.returns
  have hG := gw_hts (atoms_spec (ws := _) B.pre)
  have hown : s0.vm.findClass RX6 = some mM.cls := findClass_of_methodNamed B.named
  have hlocks := B.notSynchronized
  subst hsz
  have hD := hD0.self (sz := s0.heap.size)
  generalize hAe : va_A ((wX6 cy ox (nt 0) (tt 0) (ol 0) (ts 0) (tl 0) (oc 0) (ta 0) ox_isTaken) ++ (wX5 cy nt (os 0) (r1 0) (r2 0) (r3 0)) ++ (wX3 cy os os_kind os_limit os_retention os_quota os_refers (nI n) os_lossNow) ++ (wX0 cy ol (os 0) ol_reach ol_ringWith ol_rungOf ol_ringOf ol_most ol_paid ol_back ol_ringFirst ol_ringBits ol_ringRung ol_ringLeft ol_ringPaid (nI r) ol_paidInAll ol_over) ++ (wTA cy ta ta_tf) ++ (wX4 cy op op_items op_sort (nI lm))) s0.heap.size = A at hD ⊢
  have hA : ∀ q : Nat, s0.heap.size ≤ q → A q := fun q h => by rw [← hAe]; exact Or.inr h
  have hS : va_S A s0.heap s0.heap [] := va_S.rf
  have hl := lv_entry ([.ref (ox 0), .int (nI j), .int i]) (n := 6) (Nat.le_of_ble_eq_true rfl)
  rw [lg_entry_eq]
  generalize (lg_sl ([.ref (ox 0), .int (nI j), .int i]) ++ List.replicate (6 - (lg_sl ([.ref (ox 0), .int (nI j), .int i])).length) Slot.unset).toArray = ls at hl ⊢
  have hl : lv_has ls 6 [(0, .ref (ox 0)), (1, .int (nI j)), (2, .int i)] := hl
  refine lv_iload_n hx hb dX6_judge_0 rfl (lv_at hl 1 rfl) ?_
  refine cRoS mw31_17 mw31_18 mw1_2 mw31_19 hd_X6_isTape hx hb hml hown hG hKX (c_X6_isTape l D cy (nI j)) ⟨Nat.le_of_ble_eq_true rfl, Nat.le_of_ble_eq_true rfl⟩ ⟨Nat.zero_le _, Nat.zero_le _⟩ (hP.sub [] rfl) rfl hl.1 rfl (Nat.le_of_ble_eq_true rfl) dX6_judge_1 ?_
  refine lv_if_ne (tgt := 9) hx hb dX6_judge_4 (by decide) (fun c1 => ?_) (fun c1 => ?_)
  · refine lv_aload_n hx hb dX6_judge_9 rfl (lv_at hl 0 rfl) ?_
    refine gf_X6_56 hx hb hG hown hKX hP 0 rfl rfl dX6_judge_10 ?_
    refine lv_iload_n hx hb dX6_judge_13 rfl (lv_at hl 1 rfl) ?_
    refine aald_n hx hb hKX hP 21 rfl rfl (by omega) (by decide) htf dX6_judge_14 ?_
    refine lv_astore_n (lv' := [(3, .ref (op 0)), (0, .ref (ox 0)), (1, .int (nI j)), (2, .int i)]) hx hb dX6_judge_15 rfl hl (by decide) rfl (fun ls hl => ?_)
    refine lv_aload_n hx hb dX6_judge_16 rfl (lv_at hl 0 rfl) ?_
    refine cRoV (q0 := 0) (ci := 4) mw31_20 mw31_21 mw31_22 mw2_12 mw31_23 rfl rfl hd_X4_holds hx hb hml hown hG hKX (c_X4_holds l D cy op op_items op_sort (nI lm)) ⟨Nat.le_of_ble_eq_true rfl, Nat.le_of_ble_eq_true rfl⟩ ⟨Nat.zero_le _, Nat.zero_le _⟩ (hP.sub [22, 23] rfl) rfl rfl hl.1 rfl (Nat.le_of_ble_eq_true rfl) dX6_judge_17 ?_
    refine lv_if_eq (tgt := 34) hx hb dX6_judge_20 (by decide) (fun c2 => ?_) (fun c2 => ?_)
    · refine lv_aload_n hx hb dX6_judge_34 rfl (lv_at hl 1 rfl) ?_
      refine gf_X6_12 hx hb hG hown hKX hP 0 rfl rfl dX6_judge_35 ?_
      refine gf_X6_27 hx hb hG hown hKX hP 1 rfl rfl dX6_judge_38 ?_
      refine gf_X6_133 hx hb hG hown hKX hP 2 rfl rfl dX6_judge_41 ?_
      refine lv_istore (lv' := [(4, .int (nI n)), (3, .ref (op 0)), (0, .ref (ox 0)), (1, .int (nI j)), (2, .int i)]) hx hb dX6_judge_44 hl (by decide) rfl (fun ls hl => ?_)
      refine lv_iload hx hb dX6_judge_46 (lv_at hl 0 rfl) ?_
      refine lv_if_ne (tgt := 54) hx hb dX6_judge_48 (by decide) (fun c3 => ?_) (fun c3 => ?_)
      · refine lv_aload_n hx hb dX6_judge_54 rfl (lv_at hl 1 rfl) ?_
        refine cRoV (q0 := 0) (ci := 4) mw31_20 mw31_21 mw31_22 mw2_12 mw31_23 rfl rfl hd_X4_holds hx hb hml hown hG hKX (c_X4_holds l D cy op op_items op_sort (nI lm)) ⟨Nat.le_of_ble_eq_true rfl, Nat.le_of_ble_eq_true rfl⟩ ⟨Nat.zero_le _, Nat.zero_le _⟩ (hP.sub [22, 23] rfl) rfl rfl hl.1 rfl (Nat.le_of_ble_eq_true rfl) dX6_judge_55 ?_
        refine lv_if_eq (tgt := 65) hx hb dX6_judge_58 (by decide) (fun _ => ?_) (fun c4 => absurd c2 c4)
        refine lv_bipush (v := (100 : Int32)) hx hb dX6_judge_65 (by decide) ?_
        exact W.iret (v := (100 : Int32)) hx hb hr (fun t ht hW => ⟨⟨(100 : Int32), (ol_reach, ol_ringWith, ol_rungOf, ol_ringOf, ol_most, ol_paid, ol_ringFirst, ol_ringBits, ol_ringRung, ol_ringLeft, ol_ringPaid, r, ol_paidInAll, ol_over), rfl, by unfold f_X6_judgev; rw [if_neg c1, if_pos c2, if_neg c3] <;> rfl, by rw [ht]; exact hP, hD⟩, hS.F ht⟩) hS.2.2 dX6_judge_67
      · refine lv_bipush (v := (-5 : Int32)) hx hb dX6_judge_51 (by decide) ?_
        exact W.iret (v := (-5 : Int32)) hx hb hr (fun t ht hW => ⟨⟨(-5 : Int32), (ol_reach, ol_ringWith, ol_rungOf, ol_ringOf, ol_most, ol_paid, ol_ringFirst, ol_ringBits, ol_ringRung, ol_ringLeft, ol_ringPaid, r, ol_paidInAll, ol_over), rfl, by unfold f_X6_judgev; rw [if_neg c1, if_pos c2, if_pos c3] <;> rfl, by rw [ht]; exact hP, hD⟩, hS.F ht⟩) hS.2.2 dX6_judge_53
    · refine lv_aload_n hx hb dX6_judge_23 rfl (lv_at hl 0 rfl) ?_
      refine gf_X6_234 hx hb hG hown hKX hP 22 rfl rfl dX6_judge_24 ?_
      refine lv_iconst (v := (3 : Int32)) hx hb dX6_judge_27 (by decide) ?_
      refine lv_icmp_eq (tgt := 34) hx hb dX6_judge_28 (by decide) (fun c5 => ?_) (fun c5 => ?_)
      · refine lv_aload_n hx hb dX6_judge_34 rfl (lv_at hl 1 rfl) ?_
        refine gf_X6_12 hx hb hG hown hKX hP 0 rfl rfl dX6_judge_35 ?_
        refine gf_X6_27 hx hb hG hown hKX hP 1 rfl rfl dX6_judge_38 ?_
        refine gf_X6_133 hx hb hG hown hKX hP 2 rfl rfl dX6_judge_41 ?_
        refine lv_istore (lv' := [(4, .int (nI n)), (3, .ref (op 0)), (0, .ref (ox 0)), (1, .int (nI j)), (2, .int i)]) hx hb dX6_judge_44 hl (by decide) rfl (fun ls hl => ?_)
        refine lv_iload hx hb dX6_judge_46 (lv_at hl 0 rfl) ?_
        refine lv_if_ne (tgt := 54) hx hb dX6_judge_48 (by decide) (fun c6 => ?_) (fun c6 => ?_)
        · refine lv_aload_n hx hb dX6_judge_54 rfl (lv_at hl 1 rfl) ?_
          refine cRoV (q0 := 0) (ci := 4) mw31_20 mw31_21 mw31_22 mw2_12 mw31_23 rfl rfl hd_X4_holds hx hb hml hown hG hKX (c_X4_holds l D cy op op_items op_sort (nI lm)) ⟨Nat.le_of_ble_eq_true rfl, Nat.le_of_ble_eq_true rfl⟩ ⟨Nat.zero_le _, Nat.zero_le _⟩ (hP.sub [22, 23] rfl) rfl rfl hl.1 rfl (Nat.le_of_ble_eq_true rfl) dX6_judge_55 ?_
          refine lv_if_eq (tgt := 65) hx hb dX6_judge_58 (by decide) (fun c7 => absurd c7 c2) (fun _ => ?_)
          refine lv_iload_n hx hb dX6_judge_61 rfl (lv_at hl 4 rfl) ?_
          refine lv_if_ge (tgt := 68) hx hb dX6_judge_62 (by decide) (fun c8 => ?_) (fun c8 => ?_)
          · obtain ⟨j68, hj68, hlj68, rfl⟩ := nneg_of c8
            refine lv_aload_n hx hb dX6_judge_68 rfl (lv_at hl 2 rfl) ?_
            refine gf_X6_34 hx hb hG hown hKX hP 0 rfl rfl dX6_judge_69 ?_
            refine cRwVV (q0 := 0) (ci := 0) mw10_3 mw10_4 mw10_5 mw1_21 mw10_6 rfl rfl hd_X0_settle hx hb hml hown hG hKX (c_X0_settle l D cy ol os ol_reach ol_ringWith ol_rungOf ol_ringOf ol_most ol_paid ol_back ol_ringFirst ol_ringBits ol_ringRung ol_ringLeft ol_ringPaid (nI r) ol_paidInAll ol_over os_kind os_limit os_retention os_quota os_refers os_lossNow n hn) ⟨Nat.le_of_ble_eq_true rfl, Nat.le_of_ble_eq_true rfl⟩ ⟨Nat.zero_le _, Nat.zero_le _⟩ hP hD hS hA [8, 9, 10, 11, 12, 13, 14, 15, 16, 17, 18, 19, 20, 2, 3, 4, 5, 6, 7] [0, 1, 21, 22, 23] [0, 1, 18, 19, 20, 21, 22, 23, 5, 6, 7, 8, 9, 10, 11, 12, 13, 14, 15, 16, 17, 2, 3, 4] (wr := (wX6 cy ox (nt 0) (tt 0) (ol 0) (ts 0) (tl 0) (oc 0) (ta 0) ox_isTaken) ++ (wX5 cy nt (os 0) (r1 0) (r2 0) (r3 0)) ++ (wTA cy ta ta_tf) ++ (wX4 cy op op_items op_sort (nI lm))) (wn := fun u72 => (wX6 cy ox (nt 0) (tt 0) (ol 0) (ts 0) (tl 0) (oc 0) (ta 0) ox_isTaken) ++ (wX5 cy nt (os 0) (r1 0) (r2 0) (r3 0)) ++ (wX3 cy os os_kind os_limit os_retention os_quota os_refers (nI n) os_lossNow) ++ (wX0 cy ol (os 0) u72.1 u72.2.1 u72.2.2.1 u72.2.2.2.1 u72.2.2.2.2.1 u72.2.2.2.2.2.1 ol_back u72.2.2.2.2.2.2.1 u72.2.2.2.2.2.2.2.1 u72.2.2.2.2.2.2.2.2.1 u72.2.2.2.2.2.2.2.2.2.1 u72.2.2.2.2.2.2.2.2.2.2.1 (nI u72.2.2.2.2.2.2.2.2.2.2.2.1) u72.2.2.2.2.2.2.2.2.2.2.2.2.1 u72.2.2.2.2.2.2.2.2.2.2.2.2.2) ++ (wTA cy ta ta_tf) ++ (wX4 cy op op_items op_sort (nI lm))) rfl (by decide) rfl (by decide) (by decide) (fun _ => rfl) (by decide) rfl rfl hl.1 rfl (Nat.le_of_ble_eq_true rfl) dX6_judge_72 (fun u72 H locs hw72 hP hD hS => ?_)
            have hrl : u72.2.2.2.2.2.2.2.2.2.2.2.1 ≤ 6 := by subst hw72; exact settle_le
            have hfst : ∀ k, k < u72.2.2.2.2.2.2.2.2.2.2.2.1 → u72.2.2.2.2.2.2.1 k = nI (u72.2.2.2.2.2.2.1 k).toNatClampNeg ∧ (u72.2.2.2.2.2.2.1 k).toNatClampNeg < n := by subst hw72; exact settle_first hn
            have hro : ∀ k, k < n → u72.2.2.2.1 k = nI (u72.2.2.2.1 k).toNatClampNeg ∧ (u72.2.2.2.1 k).toNatClampNeg < 6 := by subst hw72; exact settle_ro hn
            refine lv_iconst (v := (0 : Int32)) hx hb dX6_judge_75 (by decide) ?_
            refine lv_istore (lv' := [(5, .int (0 : Int32)), (4, .int (nI n)), (3, .ref (op 0)), (0, .ref (ox 0)), (1, .int (nI j)), (2, .int (nI j68))]) hx hb dX6_judge_76 hl (by decide) rfl (fun ls hl => ?_)
            refine loopS (bd_X6_judgev_78 op_items lm j68 u72) n (fun k78 => [(5, .int (nI k78)), (4, .int (nI n)), (3, .ref (op 0)), (0, .ref (ox 0)), (1, .int (nI j)), (2, .int (nI j68))]) (lv_sub hl [0, 1, 2, 3, 4, 5] rfl) (fun k78 ls hk78 hz78 hl ih78 => ?_)
            refine lv_iload hx hb dX6_judge_78 (lv_at hl 0 rfl) ?_
            refine lv_iload hx hb dX6_judge_80 (lv_at hl 1 rfl) ?_
            refine lv_icmp_ge (tgt := 135) hx hb dX6_judge_82 (by decide) (fun c9 => ?_) (fun c9 => ?_)
            · have e_k78 : n = k78 := Nat.le_antisymm ((le_n (N := n) (k := k78) rfl (by omega) (by omega)).mp c9) hk78
              subst e_k78
              refine lv_bipush (v := (-5 : Int32)) hx hb dX6_judge_135 (by decide) ?_
              exact W.iret (v := (-5 : Int32)) hx hb hr (fun t ht hW => ⟨⟨(-5 : Int32), u72, rfl, by subst hw72; unfold f_X6_judgev; (try simp only [hj68]); rw [if_neg c1, if_neg c2, if_pos c5, if_neg c6, if_pos c8, srch_none hz78, Option.getD_none] <;> rfl, by rw [ht]; exact hP, hD⟩, hS.F ht⟩) hS.2.2 dX6_judge_137
            · have hlt78 : k78 < n := Nat.lt_of_not_le (fun qq_ => c9 ((le_n (N := n) (k := k78) rfl (by omega) (by omega)).mpr qq_))
              refine lv_iload_n hx hb dX6_judge_85 rfl (lv_at hl 5 rfl) ?_
              refine lv_aload_n hx hb dX6_judge_86 rfl (lv_at hl 2 rfl) ?_
              refine gf_X6_237 hx hb hG hown hKX hP 22 rfl rfl dX6_judge_87 ?_
              refine lv_iload hx hb dX6_judge_90 (lv_at hl 0 rfl) ?_
              refine lv_isub hx hb dX6_judge_92 ?_
              refine lv_icmp_lt (tgt := 102) hx hb dX6_judge_93 (by decide) (fun c10 => ?_) (fun c10 => ?_)
              · have hjd := jd_lt hlj68 hlm (by omega) c10
                refine lv_aload_n hx hb dX6_judge_102 rfl (lv_at hl 2 rfl) ?_
                refine gf_X6_240 hx hb hG hown hKX hP 22 rfl rfl dX6_judge_103 ?_
                refine lv_iload_n hx hb dX6_judge_106 rfl (lv_at hl 5 rfl) ?_
                refine lv_iload hx hb dX6_judge_107 (lv_at hl 0 rfl) ?_
                refine lv_iadd hx hb dX6_judge_109 ?_
                refine topi_eq (y := nI (j68 + k78)) (aN rfl rfl) ?_
                refine lald_n hx hb hKX hP 23 rfl rfl (by omega) (by decide) dX6_judge_110 ?_
                refine lv_aload_n hx hb dX6_judge_111 rfl (lv_at hl 3 rfl) ?_
                refine gf_X6_34 hx hb hG hown hKX hP 0 rfl rfl dX6_judge_112 ?_
                refine gf_X6_106 hx hb hG hown hKX hP 8 rfl rfl dX6_judge_115 ?_
                refine lv_iload hx hb dX6_judge_118 (lv_at hl 0 rfl) ?_
                refine iald_n hx hb hKX hP 14 rfl rfl (by omega) (by decide) dX6_judge_120 ?_
                refine lv_i2l (v := (((u72.2.2.2.2.2.1 k78)).toInt64)) hx hb dX6_judge_121 rfl ?_
                refine W.lcmp hx hb dX6_judge_122 ?_
                refine lv_if_eq (tgt := 129) hx hb dX6_judge_123 (by decide) (fun c11 => ?_) (fun c11 => ?_)
                · refine lv_iinc (v := nI (k78 + 1)) (lv' := [(5, .int (nI (k78 + 1))), (4, .int (nI n)), (3, .ref (op 0)), (0, .ref (ox 0)), (1, .int (nI j)), (2, .int (nI j68))]) hx hb dX6_judge_129 hl (k := 0) rfl (nI_1 _) (by decide) rfl (fun ls hl => ?_)
                  refine lv_goto (tgt := 78) hx hb dX6_judge_132 (by decide) ?_
                  exact ih78 _ hlt78 (by subst hw72; unfold bd_X6_judgev_78; (try simp only [hj68]); rw [if_pos c10, if_pos c11] <;> rfl) (lv_sub hl [0, 1, 2, 3, 4, 5] rfl)
                · refine lv_iload hx hb dX6_judge_126 (lv_at hl 0 rfl) ?_
                  exact W.iret (v := nI k78) hx hb hr (fun t ht hW => ⟨⟨nI k78, u72, rfl, by subst hw72; unfold f_X6_judgev; (try simp only [hj68]); rw [if_neg c1, if_neg c2, if_pos c5, if_neg c6, if_pos c8, srch_some (r := (nI k78, (f_X0_settle ol_reach ol_ringWith ol_rungOf ol_ringOf ol_most ol_paid ol_ringFirst ol_ringBits ol_ringRung ol_ringLeft ol_ringPaid os_kind os_limit os_retention os_quota os_refers os_lossNow n))) hz78 hlt78 (by unfold bd_X6_judgev_78; (try simp only [hj68]); rw [if_pos c10, if_neg c11] <;> rfl), Option.getD_some] <;> rfl, by rw [ht]; exact hP, hD⟩, hS.F ht⟩) hS.2.2 dX6_judge_128
              · refine lv_bipush (v := (100 : Int32)) hx hb dX6_judge_96 (by decide) ?_
                refine lv_iload hx hb dX6_judge_98 (lv_at hl 0 rfl) ?_
                refine lv_iadd hx hb dX6_judge_100 ?_
                refine topi_eq (y := nI (100 + k78)) (aN rfl rfl) ?_
                exact W.iret (v := nI (100 + k78)) hx hb hr (fun t ht hW => ⟨⟨nI (100 + k78), u72, rfl, by subst hw72; unfold f_X6_judgev; (try simp only [hj68]); rw [if_neg c1, if_neg c2, if_pos c5, if_neg c6, if_pos c8, srch_some (r := (nI (100 + k78), (f_X0_settle ol_reach ol_ringWith ol_rungOf ol_ringOf ol_most ol_paid ol_ringFirst ol_ringBits ol_ringRung ol_ringLeft ol_ringPaid os_kind os_limit os_retention os_quota os_refers os_lossNow n))) hz78 hlt78 (by unfold bd_X6_judgev_78; (try simp only [hj68]); rw [if_neg c10] <;> rfl), Option.getD_some] <;> rfl, by rw [ht]; exact hP, hD⟩, hS.F ht⟩) hS.2.2 dX6_judge_101
          · refine lv_bipush (v := (100 : Int32)) hx hb dX6_judge_65 (by decide) ?_
            exact W.iret (v := (100 : Int32)) hx hb hr (fun t ht hW => ⟨⟨(100 : Int32), (ol_reach, ol_ringWith, ol_rungOf, ol_ringOf, ol_most, ol_paid, ol_ringFirst, ol_ringBits, ol_ringRung, ol_ringLeft, ol_ringPaid, r, ol_paidInAll, ol_over), rfl, by unfold f_X6_judgev; rw [if_neg c1, if_neg c2, if_pos c5, if_neg c6, if_neg c8] <;> rfl, by rw [ht]; exact hP, hD⟩, hS.F ht⟩) hS.2.2 dX6_judge_67
        · refine lv_bipush (v := (-5 : Int32)) hx hb dX6_judge_51 (by decide) ?_
          exact W.iret (v := (-5 : Int32)) hx hb hr (fun t ht hW => ⟨⟨(-5 : Int32), (ol_reach, ol_ringWith, ol_rungOf, ol_ringOf, ol_most, ol_paid, ol_ringFirst, ol_ringBits, ol_ringRung, ol_ringLeft, ol_ringPaid, r, ol_paidInAll, ol_over), rfl, by unfold f_X6_judgev; rw [if_neg c1, if_neg c2, if_pos c5, if_pos c6] <;> rfl, by rw [ht]; exact hP, hD⟩, hS.F ht⟩) hS.2.2 dX6_judge_53
      · refine lv_bipush (v := (-12 : Int32)) hx hb dX6_judge_31 (by decide) ?_
        exact W.iret (v := (-12 : Int32)) hx hb hr (fun t ht hW => ⟨⟨(-12 : Int32), (ol_reach, ol_ringWith, ol_rungOf, ol_ringOf, ol_most, ol_paid, ol_ringFirst, ol_ringBits, ol_ringRung, ol_ringLeft, ol_ringPaid, r, ol_paidInAll, ol_over), rfl, by unfold f_X6_judgev; rw [if_neg c1, if_neg c2, if_neg c5] <;> rfl, by rw [ht]; exact hP, hD⟩, hS.F ht⟩) hS.2.2 dX6_judge_33
  · refine lv_iconst (v := (-1 : Int32)) hx hb dX6_judge_7 (by decide) ?_
    exact W.iret (v := (-1 : Int32)) hx hb hr (fun t ht hW => ⟨⟨(-1 : Int32), (ol_reach, ol_ringWith, ol_rungOf, ol_ringOf, ol_most, ol_paid, ol_ringFirst, ol_ringBits, ol_ringRung, ol_ringLeft, ol_ringPaid, r, ol_paidInAll, ol_over), rfl, by unfold f_X6_judgev; rw [if_pos c1] <;> rfl, by rw [ht]; exact hP, hD⟩, hS.F ht⟩) hS.2.2 dX6_judge_8
