def f_X0_isAlone (ol_ringWith : Nat → Int32) (c : Nat) : Int32 :=
  if (ol_ringWith c) = ((1 : Int32) <<< (nI c &&& 31)) then (1 : Int32) else (0 : Int32)
set_option maxHeartbeats 4000000 in
set_option maxRecDepth 100000 in
theorem c_X0_isAlone (l : Launch) (D : va_G) (cy : Nat → ClassId) (ol : Nat → Nat) (os : Nat → Nat) (ol_reach : Nat → Int32) (ol_ringWith : Nat → Int32) (ol_rungOf : Nat → Int32) (ol_ringOf : Nat → Int32) (ol_most : Nat → Int32) (ol_paid : Nat → Int32) (ol_back : Nat → Int32) (ol_ringFirst : Nat → Int32) (ol_ringBits : Nat → Int32) (ol_ringRung : Nat → Int32) (ol_ringLeft : Nat → Int32) (ol_ringPaid : Nat → Int32) (ol_rings : Int32) (ol_paidInAll : Int32) (ol_over : Int32) (os_kind : Nat → Int32) (os_limit : Nat → Int32) (os_retention : Nat → Int32) (os_quota : Nat → Int32) (os_refers : Nat → Int32) (os_lossNow : Int32) (n : Nat) (c : Nat) (hn : n ≤ 6) (hc : c < n) : RoI l D cy yX0_isAlone (.code yX0_isAlone cX0_isAlone 2 (some .boolean)) 0 ((wX0 cy ol (os 0) ol_reach ol_ringWith ol_rungOf ol_ringOf ol_most ol_paid ol_back ol_ringFirst ol_ringBits ol_ringRung ol_ringLeft ol_ringPaid ol_rings ol_paidInAll ol_over) ++ (wX3 cy os os_kind os_limit os_retention os_quota os_refers (nI n) os_lossNow)) [.ref (ol 0), .int (nI c)] (f_X0_isAlone ol_ringWith c) := by
  refine Met.ofW (cc := cX0_isAlone) (maxL := 2) (ret := (some .boolean)) (by decide) rfl ?_
  intro pP eE s0 mM args below meth cC s₁ B hml hv
  obtain ⟨rfl, hP, hKX⟩ := hv
  have hx := B.exec
  have hb := B.bytes
  have hr := B.returns
  have hG := gw_hts (atoms_spec (ws := _) B.pre)
  have hown : s0.vm.findClass RX0 = some mM.cls := findClass_of_methodNamed B.named
  have hlocks := B.notSynchronized
  have hl := lv_entry ([.ref (ol 0), .int (nI c)]) (n := 2) (Nat.le_of_ble_eq_true rfl)
  rw [lg_entry_eq]
  generalize (lg_sl ([.ref (ol 0), .int (nI c)]) ++ List.replicate (2 - (lg_sl ([.ref (ol 0), .int (nI c)])).length) Slot.unset).toArray = ls at hl ⊢
  have hl : lv_has ls 2 [(0, .ref (ol 0)), (1, .int (nI c))] := hl
  refine lv_aload_n hx hb dX0_isAlone_0 rfl (lv_at hl 0 rfl) ?_
  refine gf_X0_19 hx hb hG hown hKX hP 0 rfl rfl dX0_isAlone_1 ?_
  refine lv_iload_n hx hb dX0_isAlone_4 rfl (lv_at hl 1 rfl) ?_
  refine iald_n hx hb hKX hP 2 rfl rfl (by omega) (by decide) dX0_isAlone_5 ?_
  refine lv_iconst (v := (1 : Int32)) hx hb dX0_isAlone_6 (by decide) ?_
  refine lv_iload_n hx hb dX0_isAlone_7 rfl (lv_at hl 1 rfl) ?_
  refine lv_ishl hx hb dX0_isAlone_8 ?_
  refine lv_icmp_ne (tgt := 16) hx hb dX0_isAlone_9 (by decide) (fun c1 => ?_) (fun c1 => ?_)
  · refine lv_iconst (v := (0 : Int32)) hx hb dX0_isAlone_16 (by decide) ?_
    exact W.zret (v := (0 : Int32)) hx hb hr rfl (fun t ht hW => ⟨_, rfl, by unfold f_X0_isAlone; rw [if_neg c1] <;> rfl, ht⟩) (fun q hq => by cases hq) dX0_isAlone_17
  · refine lv_iconst (v := (1 : Int32)) hx hb dX0_isAlone_12 (by decide) ?_
    refine lv_goto (tgt := 17) hx hb dX0_isAlone_13 (by decide) ?_
    exact W.zret (v := (1 : Int32)) hx hb hr rfl (fun t ht hW => ⟨_, rfl, by unfold f_X0_isAlone; rw [if_pos c1] <;> rfl, ht⟩) (fun q hq => by cases hq) dX0_isAlone_17
def bd_X0_firstPayer_2 (ol_paid : Nat → Int32) (bits : Int32) (k2 : Nat) : Option Int32 :=
  if (f_X6_has bits (nI k2)) = (0 : Int32) then none else (if (ol_paid k2) ≤ (0 : Int32) then none else (some (nI k2)))
def f_X0_firstPayer (ol_paid : Nat → Int32) (bits : Int32) (n : Nat) : Int32 :=
  (srch (bd_X0_firstPayer_2 ol_paid bits) n 0).getD (-5 : Int32)
set_option maxHeartbeats 4000000 in
set_option maxRecDepth 100000 in
theorem c_X0_firstPayer (l : Launch) (D : va_G) (cy : Nat → ClassId) (ol : Nat → Nat) (os : Nat → Nat) (ol_reach : Nat → Int32) (ol_ringWith : Nat → Int32) (ol_rungOf : Nat → Int32) (ol_ringOf : Nat → Int32) (ol_most : Nat → Int32) (ol_paid : Nat → Int32) (ol_back : Nat → Int32) (ol_ringFirst : Nat → Int32) (ol_ringBits : Nat → Int32) (ol_ringRung : Nat → Int32) (ol_ringLeft : Nat → Int32) (ol_ringPaid : Nat → Int32) (ol_rings : Int32) (ol_paidInAll : Int32) (ol_over : Int32) (os_kind : Nat → Int32) (os_limit : Nat → Int32) (os_retention : Nat → Int32) (os_quota : Nat → Int32) (os_refers : Nat → Int32) (os_lossNow : Int32) (bits : Int32) (n : Nat) (hn : n ≤ 6) : RoI l D cy yX0_firstPayer (.code yX0_firstPayer cX0_firstPayer 3 (some .int)) 1 ((wX0 cy ol (os 0) ol_reach ol_ringWith ol_rungOf ol_ringOf ol_most ol_paid ol_back ol_ringFirst ol_ringBits ol_ringRung ol_ringLeft ol_ringPaid ol_rings ol_paidInAll ol_over) ++ (wX3 cy os os_kind os_limit os_retention os_quota os_refers (nI n) os_lossNow)) [.ref (ol 0), .int bits] (f_X0_firstPayer ol_paid bits n) := by
  refine Met.ofW (cc := cX0_firstPayer) (maxL := 3) (ret := (some .int)) (by decide) rfl ?_
  intro pP eE s0 mM args below meth cC s₁ B hml hv
  obtain ⟨rfl, hP, hKX⟩ := hv
  have hx := B.exec
  have hb := B.bytes
  have hr := B.returns
  have hG := gw_hts (atoms_spec (ws := _) B.pre)
  have hown : s0.vm.findClass RX0 = some mM.cls := findClass_of_methodNamed B.named
  have hlocks := B.notSynchronized
  have hl := lv_entry ([.ref (ol 0), .int bits]) (n := 3) (Nat.le_of_ble_eq_true rfl)
  rw [lg_entry_eq]
  generalize (lg_sl ([.ref (ol 0), .int bits]) ++ List.replicate (3 - (lg_sl ([.ref (ol 0), .int bits])).length) Slot.unset).toArray = ls at hl ⊢
  have hl : lv_has ls 3 [(0, .ref (ol 0)), (1, .int bits)] := hl
  refine lv_iconst (v := (0 : Int32)) hx hb dX0_firstPayer_0 (by decide) ?_
  refine lv_istore_n (lv' := [(2, .int (0 : Int32)), (0, .ref (ol 0)), (1, .int bits)]) hx hb dX0_firstPayer_1 rfl hl (by decide) rfl (fun ls hl => ?_)
  refine loopS (bd_X0_firstPayer_2 ol_paid bits) n (fun k2 => [(2, .int (nI k2)), (0, .ref (ol 0)), (1, .int bits)]) (lv_sub hl [0, 1, 2] rfl) (fun k2 ls hk2 hz2 hl ih2 => ?_)
  refine lv_iload_n hx hb dX0_firstPayer_2 rfl (lv_at hl 0 rfl) ?_
  refine lv_aload_n hx hb dX0_firstPayer_3 rfl (lv_at hl 1 rfl) ?_
  refine gf_X0_9 hx hb hG hown hKX hP 0 rfl rfl dX0_firstPayer_4 ?_
  refine gf_X0_77 hx hb hG hown hKX hP 13 rfl rfl dX0_firstPayer_7 ?_
  refine lv_icmp_ge (tgt := 38) hx hb dX0_firstPayer_10 (by decide) (fun c1 => ?_) (fun c1 => ?_)
  · have e_k2 : n = k2 := Nat.le_antisymm ((le_n (N := n) (k := k2) rfl (by omega) (by omega)).mp c1) hk2
    subst e_k2
    refine lv_bipush (v := (-5 : Int32)) hx hb dX0_firstPayer_38 (by decide) ?_
    exact W.iret (v := (-5 : Int32)) hx hb hr (fun t ht hW => ⟨_, rfl, by unfold f_X0_firstPayer; rw [srch_none hz2, Option.getD_none] <;> rfl, ht⟩) (fun q hq => by cases hq) dX0_firstPayer_40
  · have hlt2 : k2 < n := Nat.lt_of_not_le (fun qq_ => c1 ((le_n (N := n) (k := k2) rfl (by omega) (by omega)).mpr qq_))
    refine lv_iload_n hx hb dX0_firstPayer_13 rfl (lv_at hl 2 rfl) ?_
    refine lv_iload_n hx hb dX0_firstPayer_14 rfl (lv_at hl 0 rfl) ?_
    refine cRoN mw8_18 mw1_2 mw8_19 hd_X6_has hKX.2.1 hx hb hml hown hG hKX (c_X6_has l D cy bits (nI k2)) ⟨Nat.le_of_ble_eq_true rfl, Nat.le_of_ble_eq_true rfl⟩ ⟨Nat.zero_le _, Nat.zero_le _⟩ (hP.sub [] rfl) rfl hl.1 rfl (Nat.le_of_ble_eq_true rfl) dX0_firstPayer_15 ?_
    refine lv_if_eq (tgt := 32) hx hb dX0_firstPayer_18 (by decide) (fun c2 => ?_) (fun c2 => ?_)
    · refine lv_iinc (v := nI (k2 + 1)) (lv' := [(2, .int (nI (k2 + 1))), (0, .ref (ol 0)), (1, .int bits)]) hx hb dX0_firstPayer_32 hl (k := 0) rfl (nI_1 _) (by decide) rfl (fun ls hl => ?_)
      refine lv_goto (tgt := 2) hx hb dX0_firstPayer_35 (by decide) ?_
      exact ih2 _ hlt2 (by unfold bd_X0_firstPayer_2; rw [if_pos c2] <;> rfl) (lv_sub hl [0, 1, 2] rfl)
    · refine lv_aload_n hx hb dX0_firstPayer_21 rfl (lv_at hl 1 rfl) ?_
      refine gf_X0_31 hx hb hG hown hKX hP 0 rfl rfl dX0_firstPayer_22 ?_
      refine lv_iload_n hx hb dX0_firstPayer_25 rfl (lv_at hl 0 rfl) ?_
      refine iald_n hx hb hKX hP 6 rfl rfl (by omega) (by decide) dX0_firstPayer_26 ?_
      refine lv_if_le (tgt := 32) hx hb dX0_firstPayer_27 (by decide) (fun c3 => ?_) (fun c3 => ?_)
      · refine lv_iinc (v := nI (k2 + 1)) (lv' := [(2, .int (nI (k2 + 1))), (0, .ref (ol 0)), (1, .int bits)]) hx hb dX0_firstPayer_32 hl (k := 0) rfl (nI_1 _) (by decide) rfl (fun ls hl => ?_)
        refine lv_goto (tgt := 2) hx hb dX0_firstPayer_35 (by decide) ?_
        exact ih2 _ hlt2 (by unfold bd_X0_firstPayer_2; rw [if_neg c2, if_pos c3] <;> rfl) (lv_sub hl [0, 1, 2] rfl)
      · refine lv_iload_n hx hb dX0_firstPayer_30 rfl (lv_at hl 0 rfl) ?_
        exact W.iret (v := nI k2) hx hb hr (fun t ht hW => ⟨_, rfl, by unfold f_X0_firstPayer; rw [srch_some (r := nI k2) hz2 hlt2 (by unfold bd_X0_firstPayer_2; rw [if_neg c2, if_neg c3] <;> rfl), Option.getD_some] <;> rfl, ht⟩) (fun q hq => by cases hq) dX0_firstPayer_31
def f_X0_isEscaped (ol_ringWith : Nat → Int32) (ol_paid : Nat → Int32) (os_kind : Nat → Int32) (os_refers : Nat → Int32) (n : Nat) (c : Nat) : Int32 :=
  if (os_kind c) = (2 : Int32) then (if (f_X0_isAlone ol_ringWith c) = (0 : Int32) then (0 : Int32) else (if (f_X0_firstPayer ol_paid (os_refers c) n) = (-5 : Int32) then (0 : Int32) else (1 : Int32))) else (0 : Int32)
set_option maxHeartbeats 4000000 in
set_option maxRecDepth 100000 in
theorem c_X0_isEscaped (l : Launch) (D : va_G) (cy : Nat → ClassId) (ol : Nat → Nat) (os : Nat → Nat) (ol_reach : Nat → Int32) (ol_ringWith : Nat → Int32) (ol_rungOf : Nat → Int32) (ol_ringOf : Nat → Int32) (ol_most : Nat → Int32) (ol_paid : Nat → Int32) (ol_back : Nat → Int32) (ol_ringFirst : Nat → Int32) (ol_ringBits : Nat → Int32) (ol_ringRung : Nat → Int32) (ol_ringLeft : Nat → Int32) (ol_ringPaid : Nat → Int32) (ol_rings : Int32) (ol_paidInAll : Int32) (ol_over : Int32) (os_kind : Nat → Int32) (os_limit : Nat → Int32) (os_retention : Nat → Int32) (os_quota : Nat → Int32) (os_refers : Nat → Int32) (os_lossNow : Int32) (n : Nat) (c : Nat) (hn : n ≤ 6) (hc : c < n) : RoI l D cy yX0_isEscaped (.code yX0_isEscaped cX0_isEscaped 2 (some .boolean)) 2 ((wX0 cy ol (os 0) ol_reach ol_ringWith ol_rungOf ol_ringOf ol_most ol_paid ol_back ol_ringFirst ol_ringBits ol_ringRung ol_ringLeft ol_ringPaid ol_rings ol_paidInAll ol_over) ++ (wX3 cy os os_kind os_limit os_retention os_quota os_refers (nI n) os_lossNow)) [.ref (ol 0), .int (nI c)] (f_X0_isEscaped ol_ringWith ol_paid os_kind os_refers n c) := by
  refine Met.ofW (cc := cX0_isEscaped) (maxL := 2) (ret := (some .boolean)) (by decide) rfl ?_
  intro pP eE s0 mM args below meth cC s₁ B hml hv
  obtain ⟨rfl, hP, hKX⟩ := hv
  have hx := B.exec
  have hb := B.bytes
  have hr := B.returns
  have hG := gw_hts (atoms_spec (ws := _) B.pre)
  have hown : s0.vm.findClass RX0 = some mM.cls := findClass_of_methodNamed B.named
  have hlocks := B.notSynchronized
  have hl := lv_entry ([.ref (ol 0), .int (nI c)]) (n := 2) (Nat.le_of_ble_eq_true rfl)
  rw [lg_entry_eq]
  generalize (lg_sl ([.ref (ol 0), .int (nI c)]) ++ List.replicate (2 - (lg_sl ([.ref (ol 0), .int (nI c)])).length) Slot.unset).toArray = ls at hl ⊢
  have hl : lv_has ls 2 [(0, .ref (ol 0)), (1, .int (nI c))] := hl
  refine lv_aload_n hx hb dX0_isEscaped_0 rfl (lv_at hl 0 rfl) ?_
  refine gf_X0_9 hx hb hG hown hKX hP 0 rfl rfl dX0_isEscaped_1 ?_
  refine gf_X0_129 hx hb hG hown hKX hP 13 rfl rfl dX0_isEscaped_4 ?_
  refine lv_iload_n hx hb dX0_isEscaped_7 rfl (lv_at hl 1 rfl) ?_
  refine iald_n hx hb hKX hP 14 rfl rfl (by omega) (by decide) dX0_isEscaped_8 ?_
  refine lv_iconst (v := (2 : Int32)) hx hb dX0_isEscaped_9 (by decide) ?_
  refine lv_icmp_ne (tgt := 43) hx hb dX0_isEscaped_10 (by decide) (fun c1 => ?_) (fun c1 => ?_)
  · refine lv_iconst (v := (0 : Int32)) hx hb dX0_isEscaped_43 (by decide) ?_
    exact W.zret (v := (0 : Int32)) hx hb hr rfl (fun t ht hW => ⟨_, rfl, by unfold f_X0_isEscaped; rw [if_neg c1] <;> rfl, ht⟩) (fun q hq => by cases hq) dX0_isEscaped_44
  · refine lv_aload_n hx hb dX0_isEscaped_13 rfl (lv_at hl 0 rfl) ?_
    refine lv_iload_n hx hb dX0_isEscaped_14 rfl (lv_at hl 1 rfl) ?_
    refine cRoV (q0 := 0) (ci := 0) mw12_0 mw12_1 mw12_2 mw1_21 mw12_3 rfl rfl hd_X0_isAlone hx hb hml hown hG hKX (c_X0_isAlone l D cy ol os ol_reach ol_ringWith ol_rungOf ol_ringOf ol_most ol_paid ol_back ol_ringFirst ol_ringBits ol_ringRung ol_ringLeft ol_ringPaid ol_rings ol_paidInAll ol_over os_kind os_limit os_retention os_quota os_refers os_lossNow n c hn hc) ⟨Nat.le_of_ble_eq_true rfl, Nat.le_of_ble_eq_true rfl⟩ ⟨Nat.zero_le _, Nat.zero_le _⟩ hP rfl rfl hl.1 rfl (Nat.le_of_ble_eq_true rfl) dX0_isEscaped_15 ?_
    refine lv_if_eq (tgt := 43) hx hb dX0_isEscaped_18 (by decide) (fun c2 => ?_) (fun c2 => ?_)
    · refine lv_iconst (v := (0 : Int32)) hx hb dX0_isEscaped_43 (by decide) ?_
      exact W.zret (v := (0 : Int32)) hx hb hr rfl (fun t ht hW => ⟨_, rfl, by unfold f_X0_isEscaped; rw [if_pos c1, if_pos c2] <;> rfl, ht⟩) (fun q hq => by cases hq) dX0_isEscaped_44
    · refine lv_aload_n hx hb dX0_isEscaped_21 rfl (lv_at hl 0 rfl) ?_
      refine lv_aload_n hx hb dX0_isEscaped_22 rfl (lv_at hl 0 rfl) ?_
      refine gf_X0_9 hx hb hG hown hKX hP 0 rfl rfl dX0_isEscaped_23 ?_
      refine gf_X0_80 hx hb hG hown hKX hP 13 rfl rfl dX0_isEscaped_26 ?_
      refine lv_iload_n hx hb dX0_isEscaped_29 rfl (lv_at hl 1 rfl) ?_
      refine iald_n hx hb hKX hP 18 rfl rfl (by omega) (by decide) dX0_isEscaped_30 ?_
      refine cRoV (q0 := 0) (ci := 0) mw12_13 mw12_14 mw12_15 mw1_21 mw12_16 rfl rfl hd_X0_firstPayer hx hb hml hown hG hKX (c_X0_firstPayer l D cy ol os ol_reach ol_ringWith ol_rungOf ol_ringOf ol_most ol_paid ol_back ol_ringFirst ol_ringBits ol_ringRung ol_ringLeft ol_ringPaid ol_rings ol_paidInAll ol_over os_kind os_limit os_retention os_quota os_refers os_lossNow (os_refers c) n hn) ⟨Nat.le_of_ble_eq_true rfl, Nat.le_of_ble_eq_true rfl⟩ ⟨Nat.zero_le _, Nat.zero_le _⟩ hP rfl rfl hl.1 rfl (Nat.le_of_ble_eq_true rfl) dX0_isEscaped_31 ?_
      refine lv_bipush (v := (-5 : Int32)) hx hb dX0_isEscaped_34 (by decide) ?_
      refine lv_icmp_eq (tgt := 43) hx hb dX0_isEscaped_36 (by decide) (fun c3 => ?_) (fun c3 => ?_)
      · refine lv_iconst (v := (0 : Int32)) hx hb dX0_isEscaped_43 (by decide) ?_
        exact W.zret (v := (0 : Int32)) hx hb hr rfl (fun t ht hW => ⟨_, rfl, by unfold f_X0_isEscaped; rw [if_pos c1, if_neg c2, if_pos c3] <;> rfl, ht⟩) (fun q hq => by cases hq) dX0_isEscaped_44
      · refine lv_iconst (v := (1 : Int32)) hx hb dX0_isEscaped_39 (by decide) ?_
        refine lv_goto (tgt := 44) hx hb dX0_isEscaped_40 (by decide) ?_
        exact W.zret (v := (1 : Int32)) hx hb hr rfl (fun t ht hW => ⟨_, rfl, by unfold f_X0_isEscaped; rw [if_pos c1, if_neg c2, if_neg c3] <;> rfl, ht⟩) (fun q hq => by cases hq) dX0_isEscaped_44
def f_X0_shareOf (os_kind : Nat → Int32) (os_quota : Nat → Int32) (left : Int32) (c : Nat) : Int32 :=
  if (os_kind c) = (1 : Int32) then ((left * (os_quota c)) / (100 : Int32)) else left
set_option maxHeartbeats 4000000 in
set_option maxRecDepth 100000 in
theorem c_X0_shareOf (l : Launch) (D : va_G) (cy : Nat → ClassId) (ol : Nat → Nat) (os : Nat → Nat) (ol_reach : Nat → Int32) (ol_ringWith : Nat → Int32) (ol_rungOf : Nat → Int32) (ol_ringOf : Nat → Int32) (ol_most : Nat → Int32) (ol_paid : Nat → Int32) (ol_back : Nat → Int32) (ol_ringFirst : Nat → Int32) (ol_ringBits : Nat → Int32) (ol_ringRung : Nat → Int32) (ol_ringLeft : Nat → Int32) (ol_ringPaid : Nat → Int32) (ol_rings : Int32) (ol_paidInAll : Int32) (ol_over : Int32) (os_kind : Nat → Int32) (os_limit : Nat → Int32) (os_retention : Nat → Int32) (os_quota : Nat → Int32) (os_refers : Nat → Int32) (os_lossNow : Int32) (left : Int32) (n : Nat) (c : Nat) (hn : n ≤ 6) (hc : c < n) : RoI l D cy yX0_shareOf (.code yX0_shareOf cX0_shareOf 3 (some .int)) 0 ((wX0 cy ol (os 0) ol_reach ol_ringWith ol_rungOf ol_ringOf ol_most ol_paid ol_back ol_ringFirst ol_ringBits ol_ringRung ol_ringLeft ol_ringPaid ol_rings ol_paidInAll ol_over) ++ (wX3 cy os os_kind os_limit os_retention os_quota os_refers (nI n) os_lossNow)) [.ref (ol 0), .int (nI c), .int left] (f_X0_shareOf os_kind os_quota left c) := by
  refine Met.ofW (cc := cX0_shareOf) (maxL := 3) (ret := (some .int)) (by decide) rfl ?_
  intro pP eE s0 mM args below meth cC s₁ B hml hv
  obtain ⟨rfl, hP, hKX⟩ := hv
  have hx := B.exec
  have hb := B.bytes
  have hr := B.returns
  have hG := gw_hts (atoms_spec (ws := _) B.pre)
  have hown : s0.vm.findClass RX0 = some mM.cls := findClass_of_methodNamed B.named
  have hlocks := B.notSynchronized
  have hl := lv_entry ([.ref (ol 0), .int (nI c), .int left]) (n := 3) (Nat.le_of_ble_eq_true rfl)
  rw [lg_entry_eq]
  generalize (lg_sl ([.ref (ol 0), .int (nI c), .int left]) ++ List.replicate (3 - (lg_sl ([.ref (ol 0), .int (nI c), .int left])).length) Slot.unset).toArray = ls at hl ⊢
  have hl : lv_has ls 3 [(0, .ref (ol 0)), (1, .int (nI c)), (2, .int left)] := hl
  refine lv_aload_n hx hb dX0_shareOf_0 rfl (lv_at hl 0 rfl) ?_
  refine gf_X0_9 hx hb hG hown hKX hP 0 rfl rfl dX0_shareOf_1 ?_
  refine gf_X0_129 hx hb hG hown hKX hP 13 rfl rfl dX0_shareOf_4 ?_
  refine lv_iload_n hx hb dX0_shareOf_7 rfl (lv_at hl 1 rfl) ?_
  refine iald_n hx hb hKX hP 14 rfl rfl (by omega) (by decide) dX0_shareOf_8 ?_
  refine lv_iconst (v := (1 : Int32)) hx hb dX0_shareOf_9 (by decide) ?_
  refine lv_icmp_ne (tgt := 30) hx hb dX0_shareOf_10 (by decide) (fun c1 => ?_) (fun c1 => ?_)
  · refine lv_iload_n hx hb dX0_shareOf_30 rfl (lv_at hl 2 rfl) ?_
    exact W.iret (v := left) hx hb hr (fun t ht hW => ⟨_, rfl, by unfold f_X0_shareOf; rw [if_neg c1] <;> rfl, ht⟩) (fun q hq => by cases hq) dX0_shareOf_31
  · refine lv_iload_n hx hb dX0_shareOf_13 rfl (lv_at hl 2 rfl) ?_
    refine lv_aload_n hx hb dX0_shareOf_14 rfl (lv_at hl 0 rfl) ?_
    refine gf_X0_9 hx hb hG hown hKX hP 0 rfl rfl dX0_shareOf_15 ?_
    refine gf_X0_135 hx hb hG hown hKX hP 13 rfl rfl dX0_shareOf_18 ?_
    refine lv_iload_n hx hb dX0_shareOf_21 rfl (lv_at hl 1 rfl) ?_
    refine iald_n hx hb hKX hP 17 rfl rfl (by omega) (by decide) dX0_shareOf_22 ?_
    refine lv_imul hx hb dX0_shareOf_23 ?_
    refine lv_bipush (v := (100 : Int32)) hx hb dX0_shareOf_24 (by decide) ?_
    refine lv_idiv hx hb dX0_shareOf_26 (by decide) ?_
    refine lv_goto (tgt := 31) hx hb dX0_shareOf_27 (by decide) ?_
    exact W.iret (v := ((left * (os_quota c)) / (100 : Int32))) hx hb hr (fun t ht hW => ⟨_, rfl, by unfold f_X0_shareOf; rw [if_pos c1] <;> rfl, ht⟩) (fun q hq => by cases hq) dX0_shareOf_31
def f_X0_mostOf (os_kind : Nat → Int32) (os_limit : Nat → Int32) (os_retention : Nat → Int32) (os_quota : Nat → Int32) (left : Int32) (c : Nat) : Int32 :=
  if (os_retention c) < (f_X0_shareOf os_kind os_quota left c) then (if (os_kind c) = (3 : Int32) then (if (os_limit c) < left then (os_limit c) else left) else (if (os_limit c) < ((f_X0_shareOf os_kind os_quota left c) - (os_retention c)) then (os_limit c) else ((f_X0_shareOf os_kind os_quota left c) - (os_retention c)))) else (0 : Int32)
set_option maxHeartbeats 4000000 in
set_option maxRecDepth 100000 in
theorem c_X0_mostOf (l : Launch) (D : va_G) (cy : Nat → ClassId) (ol : Nat → Nat) (os : Nat → Nat) (ol_reach : Nat → Int32) (ol_ringWith : Nat → Int32) (ol_rungOf : Nat → Int32) (ol_ringOf : Nat → Int32) (ol_most : Nat → Int32) (ol_paid : Nat → Int32) (ol_back : Nat → Int32) (ol_ringFirst : Nat → Int32) (ol_ringBits : Nat → Int32) (ol_ringRung : Nat → Int32) (ol_ringLeft : Nat → Int32) (ol_ringPaid : Nat → Int32) (ol_rings : Int32) (ol_paidInAll : Int32) (ol_over : Int32) (os_kind : Nat → Int32) (os_limit : Nat → Int32) (os_retention : Nat → Int32) (os_quota : Nat → Int32) (os_refers : Nat → Int32) (os_lossNow : Int32) (left : Int32) (n : Nat) (c : Nat) (hn : n ≤ 6) (hc : c < n) : RoI l D cy yX0_mostOf (.code yX0_mostOf cX0_mostOf 5 (some .int)) 1 ((wX0 cy ol (os 0) ol_reach ol_ringWith ol_rungOf ol_ringOf ol_most ol_paid ol_back ol_ringFirst ol_ringBits ol_ringRung ol_ringLeft ol_ringPaid ol_rings ol_paidInAll ol_over) ++ (wX3 cy os os_kind os_limit os_retention os_quota os_refers (nI n) os_lossNow)) [.ref (ol 0), .int (nI c), .int left] (f_X0_mostOf os_kind os_limit os_retention os_quota left c) := by
  refine Met.ofW (cc := cX0_mostOf) (maxL := 5) (ret := (some .int)) (by decide) rfl ?_
  intro pP eE s0 mM args below meth cC s₁ B hml hv
  obtain ⟨rfl, hP, hKX⟩ := hv
  have hx := B.exec
  have hb := B.bytes
  have hr := B.returns
  have hG := gw_hts (atoms_spec (ws := _) B.pre)
  have hown : s0.vm.findClass RX0 = some mM.cls := findClass_of_methodNamed B.named
  have hlocks := B.notSynchronized
  have hl := lv_entry ([.ref (ol 0), .int (nI c), .int left]) (n := 5) (Nat.le_of_ble_eq_true rfl)
  rw [lg_entry_eq]
  generalize (lg_sl ([.ref (ol 0), .int (nI c), .int left]) ++ List.replicate (5 - (lg_sl ([.ref (ol 0), .int (nI c), .int left])).length) Slot.unset).toArray = ls at hl ⊢
  have hl : lv_has ls 5 [(0, .ref (ol 0)), (1, .int (nI c)), (2, .int left)] := hl
  refine lv_aload_n hx hb dX0_mostOf_0 rfl (lv_at hl 0 rfl) ?_
  refine lv_iload_n hx hb dX0_mostOf_1 rfl (lv_at hl 1 rfl) ?_
  refine lv_iload_n hx hb dX0_mostOf_2 rfl (lv_at hl 2 rfl) ?_
  refine cRoV (q0 := 0) (ci := 0) mw13_0 mw13_1 mw13_2 mw1_21 mw13_3 rfl rfl hd_X0_shareOf hx hb hml hown hG hKX (c_X0_shareOf l D cy ol os ol_reach ol_ringWith ol_rungOf ol_ringOf ol_most ol_paid ol_back ol_ringFirst ol_ringBits ol_ringRung ol_ringLeft ol_ringPaid ol_rings ol_paidInAll ol_over os_kind os_limit os_retention os_quota os_refers os_lossNow left n c hn hc) ⟨Nat.le_of_ble_eq_true rfl, Nat.le_of_ble_eq_true rfl⟩ ⟨Nat.zero_le _, Nat.zero_le _⟩ hP rfl rfl hl.1 rfl (Nat.le_of_ble_eq_true rfl) dX0_mostOf_3 ?_
  refine lv_istore_n (lv' := [(3, .int (f_X0_shareOf os_kind os_quota left c)), (0, .ref (ol 0)), (1, .int (nI c)), (2, .int left)]) hx hb dX0_mostOf_6 rfl hl (by decide) rfl (fun ls hl => ?_)
  refine lv_iload_n hx hb dX0_mostOf_7 rfl (lv_at hl 0 rfl) ?_
  refine lv_aload_n hx hb dX0_mostOf_8 rfl (lv_at hl 1 rfl) ?_
  refine gf_X0_9 hx hb hG hown hKX hP 0 rfl rfl dX0_mostOf_9 ?_
  refine gf_X0_141 hx hb hG hown hKX hP 13 rfl rfl dX0_mostOf_12 ?_
  refine lv_iload_n hx hb dX0_mostOf_15 rfl (lv_at hl 2 rfl) ?_
  refine iald_n hx hb hKX hP 16 rfl rfl (by omega) (by decide) dX0_mostOf_16 ?_
  refine lv_icmp_gt (tgt := 22) hx hb dX0_mostOf_17 (by decide) (fun c1 => ?_) (fun c1 => ?_)
  · refine lv_aload_n hx hb dX0_mostOf_22 rfl (lv_at hl 1 rfl) ?_
    refine gf_X0_9 hx hb hG hown hKX hP 0 rfl rfl dX0_mostOf_23 ?_
    refine gf_X0_129 hx hb hG hown hKX hP 13 rfl rfl dX0_mostOf_26 ?_
    refine lv_iload_n hx hb dX0_mostOf_29 rfl (lv_at hl 2 rfl) ?_
    refine iald_n hx hb hKX hP 14 rfl rfl (by omega) (by decide) dX0_mostOf_30 ?_
    refine lv_iconst (v := (3 : Int32)) hx hb dX0_mostOf_31 (by decide) ?_
    refine lv_icmp_ne (tgt := 39) hx hb dX0_mostOf_32 (by decide) (fun c2 => ?_) (fun c2 => ?_)
    · refine lv_iload_n hx hb dX0_mostOf_39 rfl (lv_at hl 0 rfl) ?_
      refine lv_aload_n hx hb dX0_mostOf_40 rfl (lv_at hl 1 rfl) ?_
      refine gf_X0_9 hx hb hG hown hKX hP 0 rfl rfl dX0_mostOf_41 ?_
      refine gf_X0_141 hx hb hG hown hKX hP 13 rfl rfl dX0_mostOf_44 ?_
      refine lv_iload_n hx hb dX0_mostOf_47 rfl (lv_at hl 2 rfl) ?_
      refine iald_n hx hb hKX hP 16 rfl rfl (by omega) (by decide) dX0_mostOf_48 ?_
      refine lv_isub hx hb dX0_mostOf_49 ?_
      refine lv_istore (lv' := [(4, .int ((f_X0_shareOf os_kind os_quota left c) - (os_retention c))), (3, .int (f_X0_shareOf os_kind os_quota left c)), (0, .ref (ol 0)), (1, .int (nI c)), (2, .int left)]) hx hb dX0_mostOf_50 hl (by decide) rfl (fun ls hl => ?_)
      refine lv_iload hx hb dX0_mostOf_52 (lv_at hl 0 rfl) ?_
      refine lv_aload_n hx hb dX0_mostOf_54 rfl (lv_at hl 2 rfl) ?_
      refine gf_X0_9 hx hb hG hown hKX hP 0 rfl rfl dX0_mostOf_55 ?_
      refine gf_X0_144 hx hb hG hown hKX hP 13 rfl rfl dX0_mostOf_58 ?_
      refine lv_iload_n hx hb dX0_mostOf_61 rfl (lv_at hl 3 rfl) ?_
      refine iald_n hx hb hKX hP 15 rfl rfl (by omega) (by decide) dX0_mostOf_62 ?_
      refine va_mmin hx hb (hml.trans hl.1.symm) hown (hG _ mw12_23) (hG _ mw3_16) (hG _ mw3_17) (hG _ mw3_18) (Nat.le_of_ble_eq_true rfl) (Nat.le_of_ble_eq_true rfl) (Nat.zero_le _) (Nat.zero_le _) dX0_mostOf_63 ?_
      exact W.iret (v := (if (os_limit c) < ((f_X0_shareOf os_kind os_quota left c) - (os_retention c)) then (os_limit c) else ((f_X0_shareOf os_kind os_quota left c) - (os_retention c)))) hx hb hr (fun t ht hW => ⟨_, rfl, by unfold f_X0_mostOf; rw [if_pos c1, if_neg c2] <;> rfl, ht⟩) (fun q hq => by cases hq) dX0_mostOf_66
    · refine lv_iload_n hx hb dX0_mostOf_35 rfl (lv_at hl 3 rfl) ?_
      refine lv_goto (tgt := 50) hx hb dX0_mostOf_36 (by decide) ?_
      refine lv_istore (lv' := [(4, .int left), (3, .int (f_X0_shareOf os_kind os_quota left c)), (0, .ref (ol 0)), (1, .int (nI c)), (2, .int left)]) hx hb dX0_mostOf_50 hl (by decide) rfl (fun ls hl => ?_)
      refine lv_iload hx hb dX0_mostOf_52 (lv_at hl 0 rfl) ?_
      refine lv_aload_n hx hb dX0_mostOf_54 rfl (lv_at hl 2 rfl) ?_
      refine gf_X0_9 hx hb hG hown hKX hP 0 rfl rfl dX0_mostOf_55 ?_
      refine gf_X0_144 hx hb hG hown hKX hP 13 rfl rfl dX0_mostOf_58 ?_
      refine lv_iload_n hx hb dX0_mostOf_61 rfl (lv_at hl 3 rfl) ?_
      refine iald_n hx hb hKX hP 15 rfl rfl (by omega) (by decide) dX0_mostOf_62 ?_
      refine va_mmin hx hb (hml.trans hl.1.symm) hown (hG _ mw12_23) (hG _ mw3_16) (hG _ mw3_17) (hG _ mw3_18) (Nat.le_of_ble_eq_true rfl) (Nat.le_of_ble_eq_true rfl) (Nat.zero_le _) (Nat.zero_le _) dX0_mostOf_63 ?_
      exact W.iret (v := (if (os_limit c) < left then (os_limit c) else left)) hx hb hr (fun t ht hW => ⟨_, rfl, by unfold f_X0_mostOf; rw [if_pos c1, if_pos c2] <;> rfl, ht⟩) (fun q hq => by cases hq) dX0_mostOf_66
  · refine lv_iconst (v := (0 : Int32)) hx hb dX0_mostOf_20 (by decide) ?_
    exact W.iret (v := (0 : Int32)) hx hb hr (fun t ht hW => ⟨_, rfl, by unfold f_X0_mostOf; rw [if_neg c1] <;> rfl, ht⟩) (fun q hq => by cases hq) dX0_mostOf_21
def bd_X0_openOnesmp_6 (ol_most : Nat → Int32) (ol_paid : Nat → Int32) (bits : Int32) (k6 : Nat) (z6 : Int32) : Int32 :=
  if (f_X6_has bits (nI k6)) = (0 : Int32) then z6 else (if (ol_most k6) ≤ (ol_paid k6) then z6 else (z6 ||| ((1 : Int32) <<< (nI k6 &&& 31))))
def f_X0_openOnesmp (ol_most : Nat → Int32) (ol_paid : Nat → Int32) (bits : Int32) (n : Nat) : Int32 :=
  (itr (bd_X0_openOnesmp_6 ol_most ol_paid bits) n (0 : Int32))
set_option maxHeartbeats 4000000 in
set_option maxRecDepth 100000 in
theorem c_X0_openOnesmp (l : Launch) (D : va_G) (cy : Nat → ClassId) (ol : Nat → Nat) (os : Nat → Nat) (ol_reach : Nat → Int32) (ol_ringWith : Nat → Int32) (ol_rungOf : Nat → Int32) (ol_ringOf : Nat → Int32) (ol_most : Nat → Int32) (ol_paid : Nat → Int32) (ol_back : Nat → Int32) (ol_ringFirst : Nat → Int32) (ol_ringBits : Nat → Int32) (ol_ringRung : Nat → Int32) (ol_ringLeft : Nat → Int32) (ol_ringPaid : Nat → Int32) (ol_rings : Int32) (ol_paidInAll : Int32) (ol_over : Int32) (os_kind : Nat → Int32) (os_limit : Nat → Int32) (os_retention : Nat → Int32) (os_quota : Nat → Int32) (os_refers : Nat → Int32) (os_lossNow : Int32) (bits : Int32) (n : Nat) (hn : n ≤ 6) : RoI l D cy yX0_openOnes (.code yX0_openOnes cX0_openOnes 6 (some .int)) 1 ((wX0 cy ol (os 0) ol_reach ol_ringWith ol_rungOf ol_ringOf ol_most ol_paid ol_back ol_ringFirst ol_ringBits ol_ringRung ol_ringLeft ol_ringPaid ol_rings ol_paidInAll ol_over) ++ (wX3 cy os os_kind os_limit os_retention os_quota os_refers (nI n) os_lossNow)) [.ref (ol 0), .int bits, .ref (ol 5), .ref (ol 6)] (f_X0_openOnesmp ol_most ol_paid bits n) := by
  refine Met.ofW (cc := cX0_openOnes) (maxL := 6) (ret := (some .int)) (by decide) rfl ?_
  intro pP eE s0 mM args below meth cC s₁ B hml hv
  obtain ⟨rfl, hP, hKX⟩ := hv
  have hx := B.exec
  have hb := B.bytes
  have hr := B.returns
  have hG := gw_hts (atoms_spec (ws := _) B.pre)
  have hown : s0.vm.findClass RX0 = some mM.cls := findClass_of_methodNamed B.named
  have hlocks := B.notSynchronized
  have hl := lv_entry ([.ref (ol 0), .int bits, .ref (ol 5), .ref (ol 6)]) (n := 6) (Nat.le_of_ble_eq_true rfl)
  rw [lg_entry_eq]
  generalize (lg_sl ([.ref (ol 0), .int bits, .ref (ol 5), .ref (ol 6)]) ++ List.replicate (6 - (lg_sl ([.ref (ol 0), .int bits, .ref (ol 5), .ref (ol 6)])).length) Slot.unset).toArray = ls at hl ⊢
  have hl : lv_has ls 6 [(0, .ref (ol 0)), (1, .int bits), (2, .ref (ol 5)), (3, .ref (ol 6))] := hl
  refine lv_iconst (v := (0 : Int32)) hx hb dX0_openOnes_0 (by decide) ?_
  refine lv_istore (lv' := [(4, .int (0 : Int32)), (0, .ref (ol 0)), (1, .int bits), (2, .ref (ol 5)), (3, .ref (ol 6))]) hx hb dX0_openOnes_1 hl (by decide) rfl (fun ls hl => ?_)
  refine lv_iconst (v := (0 : Int32)) hx hb dX0_openOnes_3 (by decide) ?_
  refine lv_istore (lv' := [(5, .int (0 : Int32)), (4, .int (0 : Int32)), (0, .ref (ol 0)), (1, .int bits), (2, .ref (ol 5)), (3, .ref (ol 6))]) hx hb dX0_openOnes_4 hl (by decide) rfl (fun ls hl => ?_)
  refine loopR (bd_X0_openOnesmp_6 ol_most ol_paid bits) (0 : Int32) n (fun k6 z6 => [(5, .int (nI k6)), (4, .int z6), (0, .ref (ol 0)), (1, .int bits), (2, .ref (ol 5)), (3, .ref (ol 6))]) (lv_sub hl [0, 1, 2, 3, 4, 5] rfl) (fun k6 z6 ls hk6 hz6 hl ih6 => ?_)
  refine lv_iload hx hb dX0_openOnes_6 (lv_at hl 0 rfl) ?_
  refine lv_aload_n hx hb dX0_openOnes_8 rfl (lv_at hl 2 rfl) ?_
  refine gf_X0_9 hx hb hG hown hKX hP 0 rfl rfl dX0_openOnes_9 ?_
  refine gf_X0_77 hx hb hG hown hKX hP 13 rfl rfl dX0_openOnes_12 ?_
  refine lv_icmp_ge (tgt := 53) hx hb dX0_openOnes_15 (by decide) (fun c1 => ?_) (fun c1 => ?_)
  · have e_k6 : n = k6 := Nat.le_antisymm ((le_n (N := n) (k := k6) rfl (by omega) (by omega)).mp c1) hk6
    subst e_k6
    refine lv_iload hx hb dX0_openOnes_53 (lv_at hl 1 rfl) ?_
    exact W.iret (v := z6) hx hb hr (fun t ht hW => ⟨_, rfl, by subst hz6; unfold f_X0_openOnesmp; rfl, ht⟩) (fun q hq => by cases hq) dX0_openOnes_55
  · have hlt6 : k6 < n := Nat.lt_of_not_le (fun qq_ => c1 ((le_n (N := n) (k := k6) rfl (by omega) (by omega)).mpr qq_))
    refine lv_iload_n hx hb dX0_openOnes_18 rfl (lv_at hl 3 rfl) ?_
    refine lv_iload hx hb dX0_openOnes_19 (lv_at hl 0 rfl) ?_
    refine cRoN mw8_18 mw1_2 mw8_19 hd_X6_has hKX.2.1 hx hb hml hown hG hKX (c_X6_has l D cy bits (nI k6)) ⟨Nat.le_of_ble_eq_true rfl, Nat.le_of_ble_eq_true rfl⟩ ⟨Nat.zero_le _, Nat.zero_le _⟩ (hP.sub [] rfl) rfl hl.1 rfl (Nat.le_of_ble_eq_true rfl) dX0_openOnes_21 ?_
    refine lv_if_eq (tgt := 47) hx hb dX0_openOnes_24 (by decide) (fun c2 => ?_) (fun c2 => ?_)
    · refine lv_iinc (v := nI (k6 + 1)) (lv' := [(5, .int (nI (k6 + 1))), (4, .int z6), (0, .ref (ol 0)), (1, .int bits), (2, .ref (ol 5)), (3, .ref (ol 6))]) hx hb dX0_openOnes_47 hl (k := 0) rfl (nI_1 _) (by decide) rfl (fun ls hl => ?_)
      refine lv_goto (tgt := 6) hx hb dX0_openOnes_50 (by decide) ?_
      exact ih6 z6 _ hlt6 (by unfold bd_X0_openOnesmp_6; rw [if_pos c2] <;> rfl) (lv_sub hl [0, 1, 2, 3, 4, 5] rfl)
    · refine lv_aload_n hx hb dX0_openOnes_27 rfl (lv_at hl 5 rfl) ?_
      refine lv_iload hx hb dX0_openOnes_28 (lv_at hl 0 rfl) ?_
      refine iald_n hx hb hKX hP 6 rfl rfl (by omega) (by decide) dX0_openOnes_30 ?_
      refine lv_aload_n hx hb dX0_openOnes_31 rfl (lv_at hl 4 rfl) ?_
      refine lv_iload hx hb dX0_openOnes_32 (lv_at hl 0 rfl) ?_
      refine iald_n hx hb hKX hP 5 rfl rfl (by omega) (by decide) dX0_openOnes_34 ?_
      refine lv_icmp_ge (tgt := 47) hx hb dX0_openOnes_35 (by decide) (fun c3 => ?_) (fun c3 => ?_)
      · refine lv_iinc (v := nI (k6 + 1)) (lv' := [(5, .int (nI (k6 + 1))), (4, .int z6), (0, .ref (ol 0)), (1, .int bits), (2, .ref (ol 5)), (3, .ref (ol 6))]) hx hb dX0_openOnes_47 hl (k := 0) rfl (nI_1 _) (by decide) rfl (fun ls hl => ?_)
        refine lv_goto (tgt := 6) hx hb dX0_openOnes_50 (by decide) ?_
        exact ih6 z6 _ hlt6 (by unfold bd_X0_openOnesmp_6; rw [if_neg c2, if_pos c3] <;> rfl) (lv_sub hl [0, 1, 2, 3, 4, 5] rfl)
      · refine lv_iload hx hb dX0_openOnes_38 (lv_at hl 1 rfl) ?_
        refine lv_iconst (v := (1 : Int32)) hx hb dX0_openOnes_40 (by decide) ?_
        refine lv_iload hx hb dX0_openOnes_41 (lv_at hl 0 rfl) ?_
        refine lv_ishl hx hb dX0_openOnes_43 ?_
        refine lv_ior hx hb dX0_openOnes_44 ?_
        refine lv_istore (lv' := [(4, .int (z6 ||| ((1 : Int32) <<< (nI k6 &&& 31)))), (5, .int (nI k6)), (0, .ref (ol 0)), (1, .int bits), (2, .ref (ol 5)), (3, .ref (ol 6))]) hx hb dX0_openOnes_45 hl (by decide) rfl (fun ls hl => ?_)
        refine lv_iinc (v := nI (k6 + 1)) (lv' := [(5, .int (nI (k6 + 1))), (4, .int (z6 ||| ((1 : Int32) <<< (nI k6 &&& 31)))), (0, .ref (ol 0)), (1, .int bits), (2, .ref (ol 5)), (3, .ref (ol 6))]) hx hb dX0_openOnes_47 hl (k := 1) rfl (nI_1 _) (by decide) rfl (fun ls hl => ?_)
        refine lv_goto (tgt := 6) hx hb dX0_openOnes_50 (by decide) ?_
        exact ih6 (z6 ||| ((1 : Int32) <<< (nI k6 &&& 31))) _ hlt6 (by unfold bd_X0_openOnesmp_6; rw [if_neg c2, if_neg c3] <;> rfl) (lv_sub hl [0, 1, 2, 3, 4, 5] rfl)
def bd_X0_leastRoommp_7 (ol_most : Nat → Int32) (ol_paid : Nat → Int32) (opn : Int32) (k7 : Nat) (z7 : Int32) : Int32 :=
  if (f_X6_has opn (nI k7)) = (0 : Int32) then z7 else (if ((ol_most k7) - (ol_paid k7)) < z7 then ((ol_most k7) - (ol_paid k7)) else z7)
def f_X0_leastRoommp (ol_most : Nat → Int32) (ol_paid : Nat → Int32) (opn : Int32) (n : Nat) : Int32 :=
  (itr (bd_X0_leastRoommp_7 ol_most ol_paid opn) n (2147483647 : Int32))
set_option maxHeartbeats 4000000 in
set_option maxRecDepth 100000 in
theorem c_X0_leastRoommp (l : Launch) (D : va_G) (cy : Nat → ClassId) (ol : Nat → Nat) (os : Nat → Nat) (ol_reach : Nat → Int32) (ol_ringWith : Nat → Int32) (ol_rungOf : Nat → Int32) (ol_ringOf : Nat → Int32) (ol_most : Nat → Int32) (ol_paid : Nat → Int32) (ol_back : Nat → Int32) (ol_ringFirst : Nat → Int32) (ol_ringBits : Nat → Int32) (ol_ringRung : Nat → Int32) (ol_ringLeft : Nat → Int32) (ol_ringPaid : Nat → Int32) (ol_rings : Int32) (ol_paidInAll : Int32) (ol_over : Int32) (os_kind : Nat → Int32) (os_limit : Nat → Int32) (os_retention : Nat → Int32) (os_quota : Nat → Int32) (os_refers : Nat → Int32) (os_lossNow : Int32) (opn : Int32) (n : Nat) (hn : n ≤ 6) : RoI l D cy yX0_leastRoom (.code yX0_leastRoom cX0_leastRoom 6 (some .int)) 1 ((wX0 cy ol (os 0) ol_reach ol_ringWith ol_rungOf ol_ringOf ol_most ol_paid ol_back ol_ringFirst ol_ringBits ol_ringRung ol_ringLeft ol_ringPaid ol_rings ol_paidInAll ol_over) ++ (wX3 cy os os_kind os_limit os_retention os_quota os_refers (nI n) os_lossNow)) [.ref (ol 0), .int opn, .ref (ol 5), .ref (ol 6)] (f_X0_leastRoommp ol_most ol_paid opn n) := by
  refine Met.ofW (cc := cX0_leastRoom) (maxL := 6) (ret := (some .int)) (by decide) rfl ?_
  intro pP eE s0 mM args below meth cC s₁ B hml hv
  obtain ⟨rfl, hP, hKX⟩ := hv
  have hx := B.exec
  have hb := B.bytes
  have hr := B.returns
  have hG := gw_hts (atoms_spec (ws := _) B.pre)
  have hown : s0.vm.findClass RX0 = some mM.cls := findClass_of_methodNamed B.named
  have hlocks := B.notSynchronized
  have hl := lv_entry ([.ref (ol 0), .int opn, .ref (ol 5), .ref (ol 6)]) (n := 6) (Nat.le_of_ble_eq_true rfl)
  rw [lg_entry_eq]
  generalize (lg_sl ([.ref (ol 0), .int opn, .ref (ol 5), .ref (ol 6)]) ++ List.replicate (6 - (lg_sl ([.ref (ol 0), .int opn, .ref (ol 5), .ref (ol 6)])).length) Slot.unset).toArray = ls at hl ⊢
  have hl : lv_has ls 6 [(0, .ref (ol 0)), (1, .int opn), (2, .ref (ol 5)), (3, .ref (ol 6))] := hl
  refine lv_ldc (v := (2147483647 : Int32)) hx hb hown (hG _ mw14_4) dX0_leastRoom_0 ?_
  refine lv_istore (lv' := [(4, .int (2147483647 : Int32)), (0, .ref (ol 0)), (1, .int opn), (2, .ref (ol 5)), (3, .ref (ol 6))]) hx hb dX0_leastRoom_2 hl (by decide) rfl (fun ls hl => ?_)
  refine lv_iconst (v := (0 : Int32)) hx hb dX0_leastRoom_4 (by decide) ?_
  refine lv_istore (lv' := [(5, .int (0 : Int32)), (4, .int (2147483647 : Int32)), (0, .ref (ol 0)), (1, .int opn), (2, .ref (ol 5)), (3, .ref (ol 6))]) hx hb dX0_leastRoom_5 hl (by decide) rfl (fun ls hl => ?_)
  refine loopR (bd_X0_leastRoommp_7 ol_most ol_paid opn) (2147483647 : Int32) n (fun k7 z7 => [(5, .int (nI k7)), (4, .int z7), (0, .ref (ol 0)), (1, .int opn), (2, .ref (ol 5)), (3, .ref (ol 6))]) (lv_sub hl [0, 1, 2, 3, 4, 5] rfl) (fun k7 z7 ls hk7 hz7 hl ih7 => ?_)
  refine lv_iload hx hb dX0_leastRoom_7 (lv_at hl 0 rfl) ?_
  refine lv_aload_n hx hb dX0_leastRoom_9 rfl (lv_at hl 2 rfl) ?_
  refine gf_X0_9 hx hb hG hown hKX hP 0 rfl rfl dX0_leastRoom_10 ?_
  refine gf_X0_77 hx hb hG hown hKX hP 13 rfl rfl dX0_leastRoom_13 ?_
  refine lv_icmp_ge (tgt := 50) hx hb dX0_leastRoom_16 (by decide) (fun c1 => ?_) (fun c1 => ?_)
  · have e_k7 : n = k7 := Nat.le_antisymm ((le_n (N := n) (k := k7) rfl (by omega) (by omega)).mp c1) hk7
    subst e_k7
    refine lv_iload hx hb dX0_leastRoom_50 (lv_at hl 1 rfl) ?_
    exact W.iret (v := z7) hx hb hr (fun t ht hW => ⟨_, rfl, by subst hz7; unfold f_X0_leastRoommp; rfl, ht⟩) (fun q hq => by cases hq) dX0_leastRoom_52
  · have hlt7 : k7 < n := Nat.lt_of_not_le (fun qq_ => c1 ((le_n (N := n) (k := k7) rfl (by omega) (by omega)).mpr qq_))
    refine lv_iload_n hx hb dX0_leastRoom_19 rfl (lv_at hl 3 rfl) ?_
    refine lv_iload hx hb dX0_leastRoom_20 (lv_at hl 0 rfl) ?_
    refine cRoN mw8_18 mw1_2 mw8_19 hd_X6_has hKX.2.1 hx hb hml hown hG hKX (c_X6_has l D cy opn (nI k7)) ⟨Nat.le_of_ble_eq_true rfl, Nat.le_of_ble_eq_true rfl⟩ ⟨Nat.zero_le _, Nat.zero_le _⟩ (hP.sub [] rfl) rfl hl.1 rfl (Nat.le_of_ble_eq_true rfl) dX0_leastRoom_22 ?_
    refine lv_if_eq (tgt := 44) hx hb dX0_leastRoom_25 (by decide) (fun c2 => ?_) (fun c2 => ?_)
    · refine lv_iinc (v := nI (k7 + 1)) (lv' := [(5, .int (nI (k7 + 1))), (4, .int z7), (0, .ref (ol 0)), (1, .int opn), (2, .ref (ol 5)), (3, .ref (ol 6))]) hx hb dX0_leastRoom_44 hl (k := 0) rfl (nI_1 _) (by decide) rfl (fun ls hl => ?_)
      refine lv_goto (tgt := 7) hx hb dX0_leastRoom_47 (by decide) ?_
      exact ih7 z7 _ hlt7 (by unfold bd_X0_leastRoommp_7; rw [if_pos c2] <;> rfl) (lv_sub hl [0, 1, 2, 3, 4, 5] rfl)
    · refine lv_iload hx hb dX0_leastRoom_28 (lv_at hl 1 rfl) ?_
      refine lv_aload_n hx hb dX0_leastRoom_30 rfl (lv_at hl 4 rfl) ?_
      refine lv_iload hx hb dX0_leastRoom_31 (lv_at hl 0 rfl) ?_
      refine iald_n hx hb hKX hP 5 rfl rfl (by omega) (by decide) dX0_leastRoom_33 ?_
      refine lv_aload_n hx hb dX0_leastRoom_34 rfl (lv_at hl 5 rfl) ?_
      refine lv_iload hx hb dX0_leastRoom_35 (lv_at hl 0 rfl) ?_
      refine iald_n hx hb hKX hP 6 rfl rfl (by omega) (by decide) dX0_leastRoom_37 ?_
      refine lv_isub hx hb dX0_leastRoom_38 ?_
      refine va_mmin hx hb (hml.trans hl.1.symm) hown (hG _ mw12_23) (hG _ mw3_16) (hG _ mw3_17) (hG _ mw3_18) (Nat.le_of_ble_eq_true rfl) (Nat.le_of_ble_eq_true rfl) (Nat.zero_le _) (Nat.zero_le _) dX0_leastRoom_39 ?_
      refine lv_istore (lv' := [(4, .int (if ((ol_most k7) - (ol_paid k7)) < z7 then ((ol_most k7) - (ol_paid k7)) else z7)), (5, .int (nI k7)), (0, .ref (ol 0)), (1, .int opn), (2, .ref (ol 5)), (3, .ref (ol 6))]) hx hb dX0_leastRoom_42 hl (by decide) rfl (fun ls hl => ?_)
      refine lv_iinc (v := nI (k7 + 1)) (lv' := [(5, .int (nI (k7 + 1))), (4, .int (if ((ol_most k7) - (ol_paid k7)) < z7 then ((ol_most k7) - (ol_paid k7)) else z7)), (0, .ref (ol 0)), (1, .int opn), (2, .ref (ol 5)), (3, .ref (ol 6))]) hx hb dX0_leastRoom_44 hl (k := 1) rfl (nI_1 _) (by decide) rfl (fun ls hl => ?_)
      refine lv_goto (tgt := 7) hx hb dX0_leastRoom_47 (by decide) ?_
      exact ih7 (if ((ol_most k7) - (ol_paid k7)) < z7 then ((ol_most k7) - (ol_paid k7)) else z7) _ hlt7 (by unfold bd_X0_leastRoommp_7; rw [if_neg c2] <;> rfl) (lv_sub hl [0, 1, 2, 3, 4, 5] rfl)
def bd_X0_dealmp_122 (ol_most : Nat → Int32) (v62 : Int32) (v96 : Int32) (k122 : Nat) (z122 : Int32 × Int32 × (Nat → Int32)) : Int32 × Int32 × (Nat → Int32) :=
  if (f_X6_has v62 (nI k122)) = (0 : Int32) then z122 else (if z122.2.1 ≤ (0 : Int32) then ((z122.1 - (v96 + (0 : Int32))), (z122.2.1 - (0 : Int32)), upd z122.2.2 k122 ((z122.2.2 k122) + (v96 + (0 : Int32)))) else (if (ol_most k122) ≤ ((z122.2.2 k122) + v96) then ((z122.1 - (v96 + (0 : Int32))), (z122.2.1 - (0 : Int32)), upd z122.2.2 k122 ((z122.2.2 k122) + (v96 + (0 : Int32)))) else ((z122.1 - (v96 + (1 : Int32))), (z122.2.1 - (1 : Int32)), upd z122.2.2 k122 ((z122.2.2 k122) + (v96 + (1 : Int32))))))
def bd_X0_dealmp_42 (ol_most : Nat → Int32) (bits : Int32) (n : Nat) (k42 : Nat) (z42 : Int32 × (Nat → Int32)) : (Int32 × (Nat → Int32)) ⊕ (Int32 × (Nat → Int32)) :=
  if z42.1 ≤ (0 : Int32) then (.inr z42) else (if (f_J6_bitCount_0f7a4 (f_X0_openOnesmp ol_most z42.2 bits n)) = (0 : Int32) then (.inr z42) else (if (if (z42.1 / (f_J6_bitCount_0f7a4 (f_X0_openOnesmp ol_most z42.2 bits n))) < (f_X0_leastRoommp ol_most z42.2 (f_X0_openOnesmp ol_most z42.2 bits n) n) then (z42.1 / (f_J6_bitCount_0f7a4 (f_X0_openOnesmp ol_most z42.2 bits n))) else (f_X0_leastRoommp ol_most z42.2 (f_X0_openOnesmp ol_most z42.2 bits n) n)) = (z42.1 / (f_J6_bitCount_0f7a4 (f_X0_openOnesmp ol_most z42.2 bits n))) then (.inl ((itr (bd_X0_dealmp_122 ol_most (f_X0_openOnesmp ol_most z42.2 bits n) (if (z42.1 / (f_J6_bitCount_0f7a4 (f_X0_openOnesmp ol_most z42.2 bits n))) < (f_X0_leastRoommp ol_most z42.2 (f_X0_openOnesmp ol_most z42.2 bits n) n) then (z42.1 / (f_J6_bitCount_0f7a4 (f_X0_openOnesmp ol_most z42.2 bits n))) else (f_X0_leastRoommp ol_most z42.2 (f_X0_openOnesmp ol_most z42.2 bits n) n))) n (z42.1, (z42.1 - z42.1 / (f_J6_bitCount_0f7a4 (f_X0_openOnesmp ol_most z42.2 bits n)) * (f_J6_bitCount_0f7a4 (f_X0_openOnesmp ol_most z42.2 bits n))), z42.2)).1, (itr (bd_X0_dealmp_122 ol_most (f_X0_openOnesmp ol_most z42.2 bits n) (if (z42.1 / (f_J6_bitCount_0f7a4 (f_X0_openOnesmp ol_most z42.2 bits n))) < (f_X0_leastRoommp ol_most z42.2 (f_X0_openOnesmp ol_most z42.2 bits n) n) then (z42.1 / (f_J6_bitCount_0f7a4 (f_X0_openOnesmp ol_most z42.2 bits n))) else (f_X0_leastRoommp ol_most z42.2 (f_X0_openOnesmp ol_most z42.2 bits n) n))) n (z42.1, (z42.1 - z42.1 / (f_J6_bitCount_0f7a4 (f_X0_openOnesmp ol_most z42.2 bits n)) * (f_J6_bitCount_0f7a4 (f_X0_openOnesmp ol_most z42.2 bits n))), z42.2)).2.2)) else (.inl ((itr (bd_X0_dealmp_122 ol_most (f_X0_openOnesmp ol_most z42.2 bits n) (if (z42.1 / (f_J6_bitCount_0f7a4 (f_X0_openOnesmp ol_most z42.2 bits n))) < (f_X0_leastRoommp ol_most z42.2 (f_X0_openOnesmp ol_most z42.2 bits n) n) then (z42.1 / (f_J6_bitCount_0f7a4 (f_X0_openOnesmp ol_most z42.2 bits n))) else (f_X0_leastRoommp ol_most z42.2 (f_X0_openOnesmp ol_most z42.2 bits n) n))) n (z42.1, (0 : Int32), z42.2)).1, (itr (bd_X0_dealmp_122 ol_most (f_X0_openOnesmp ol_most z42.2 bits n) (if (z42.1 / (f_J6_bitCount_0f7a4 (f_X0_openOnesmp ol_most z42.2 bits n))) < (f_X0_leastRoommp ol_most z42.2 (f_X0_openOnesmp ol_most z42.2 bits n) n) then (z42.1 / (f_J6_bitCount_0f7a4 (f_X0_openOnesmp ol_most z42.2 bits n))) else (f_X0_leastRoommp ol_most z42.2 (f_X0_openOnesmp ol_most z42.2 bits n) n))) n (z42.1, (0 : Int32), z42.2)).2.2))))
def bd_X0_dealmp_3 (bits : Int32) (k3 : Nat) (z3 : (Nat → Int32)) : (Nat → Int32) :=
  if (f_X6_has bits (nI k3)) = (0 : Int32) then z3 else (upd z3 k3 (0 : Int32))
def f_X0_dealmp (ol_most : Nat → Int32) (ol_paid : Nat → Int32) (amount : Int32) (bits : Int32) (n : Nat) : Int32 × (Nat → Int32) :=
  ((amount - (mrg (itE (bd_X0_dealmp_42 ol_most bits n) 6 (amount, (itr (bd_X0_dealmp_3 bits) n ol_paid)))).1), (mrg (itE (bd_X0_dealmp_42 ol_most bits n) 6 (amount, (itr (bd_X0_dealmp_3 bits) n ol_paid)))).2)
set_option maxHeartbeats 4000000 in
set_option maxRecDepth 100000 in
theorem c_X0_dealmp (l : Launch) (D : va_G) (cy : Nat → ClassId) (ol : Nat → Nat) (os : Nat → Nat) (ol_reach : Nat → Int32) (ol_ringWith : Nat → Int32) (ol_rungOf : Nat → Int32) (ol_ringOf : Nat → Int32) (ol_most : Nat → Int32) (ol_paid : Nat → Int32) (ol_back : Nat → Int32) (ol_ringFirst : Nat → Int32) (ol_ringBits : Nat → Int32) (ol_ringRung : Nat → Int32) (ol_ringLeft : Nat → Int32) (ol_ringPaid : Nat → Int32) (ol_rings : Int32) (ol_paidInAll : Int32) (ol_over : Int32) (os_kind : Nat → Int32) (os_limit : Nat → Int32) (os_retention : Nat → Int32) (os_quota : Nat → Int32) (os_refers : Nat → Int32) (os_lossNow : Int32) (amount : Int32) (bits : Int32) (n : Nat) (hn : n ≤ 6) : RwI (S := (Nat → Int32)) l D cy yX0_deal (.code yX0_deal cX0_deal 13 (some .int)) 2 ((wX0 cy ol (os 0) ol_reach ol_ringWith ol_rungOf ol_ringOf ol_most ol_paid ol_back ol_ringFirst ol_ringBits ol_ringRung ol_ringLeft ol_ringPaid ol_rings ol_paidInAll ol_over) ++ (wX3 cy os os_kind os_limit os_retention os_quota os_refers (nI n) os_lossNow)) [.ref (ol 0), .int amount, .int bits, .ref (ol 5), .ref (ol 6)] (fun rr u => (rr, u) = f_X0_dealmp ol_most ol_paid amount bits n) (fun u => (wX0 cy ol (os 0) ol_reach ol_ringWith ol_rungOf ol_ringOf ol_most u ol_back ol_ringFirst ol_ringBits ol_ringRung ol_ringLeft ol_ringPaid ol_rings ol_paidInAll ol_over) ++ (wX3 cy os os_kind os_limit os_retention os_quota os_refers (nI n) os_lossNow)) := by
  intro sz
  refine Met.ofW (cc := cX0_deal) (maxL := 13) (ret := (some .int)) (by decide) rfl ?_
  intro pP eE s0 mM args below meth cC s₁ B hml hv
  obtain ⟨rfl, hsz, hP, hKX, hD0⟩ := hv
  have hx := B.exec
  have hb := B.bytes
  have hr := B.returns
  have hG := gw_hts (atoms_spec (ws := _) B.pre)
  have hown : s0.vm.findClass RX0 = some mM.cls := findClass_of_methodNamed B.named
  have hlocks := B.notSynchronized
  subst hsz
  have hD := hD0.self (sz := s0.heap.size)
  generalize hAe : va_A ((wX0 cy ol (os 0) ol_reach ol_ringWith ol_rungOf ol_ringOf ol_most ol_paid ol_back ol_ringFirst ol_ringBits ol_ringRung ol_ringLeft ol_ringPaid ol_rings ol_paidInAll ol_over) ++ (wX3 cy os os_kind os_limit os_retention os_quota os_refers (nI n) os_lossNow)) s0.heap.size = A at hD ⊢
  have hA : ∀ q : Nat, s0.heap.size ≤ q → A q := fun q h => by rw [← hAe]; exact Or.inr h
  have hS : va_S A s0.heap s0.heap [] := va_S.rf
  have hl := lv_entry ([.ref (ol 0), .int amount, .int bits, .ref (ol 5), .ref (ol 6)]) (n := 13) (Nat.le_of_ble_eq_true rfl)
  rw [lg_entry_eq]
  generalize (lg_sl ([.ref (ol 0), .int amount, .int bits, .ref (ol 5), .ref (ol 6)]) ++ List.replicate (13 - (lg_sl ([.ref (ol 0), .int amount, .int bits, .ref (ol 5), .ref (ol 6)])).length) Slot.unset).toArray = ls at hl ⊢
  have hl : lv_has ls 13 [(0, .ref (ol 0)), (1, .int amount), (2, .int bits), (3, .ref (ol 5)), (4, .ref (ol 6))] := hl
  refine lv_iconst (v := (0 : Int32)) hx hb dX0_deal_0 (by decide) ?_
  refine lv_istore (lv' := [(5, .int (0 : Int32)), (0, .ref (ol 0)), (1, .int amount), (2, .int bits), (3, .ref (ol 5)), (4, .ref (ol 6))]) hx hb dX0_deal_1 hl (by decide) rfl (fun ls hl => ?_)
  refine loopW (bd_X0_dealmp_3 bits) ol_paid n (fun k3 z3 => [(5, .int (nI k3)), (0, .ref (ol 0)), (1, .int amount), (2, .int bits), (3, .ref (ol 5)), (4, .ref (ol 6))]) (fun k3 z3 => (wX0 cy ol (os 0) ol_reach ol_ringWith ol_rungOf ol_ringOf ol_most z3 ol_back ol_ringFirst ol_ringBits ol_ringRung ol_ringLeft ol_ringPaid ol_rings ol_paidInAll ol_over) ++ (wX3 cy os os_kind os_limit os_retention os_quota os_refers (nI n) os_lossNow)) hP hD hS (lv_sub hl [0, 1, 2, 3, 4, 5] rfl) (fun k3 z3 H locs ls hk3 hz3 hP hD hS hl ih3 => ?_)
  refine lv_iload hx hb dX0_deal_3 (lv_at hl 0 rfl) ?_
  refine lv_aload_n hx hb dX0_deal_5 rfl (lv_at hl 1 rfl) ?_
  refine gf_X0_9 hx hb hG hown hKX hP 0 rfl rfl dX0_deal_6 ?_
  refine gf_X0_77 hx hb hG hown hKX hP 13 rfl rfl dX0_deal_9 ?_
  refine lv_icmp_ge (tgt := 36) hx hb dX0_deal_12 (by decide) (fun c1 => ?_) (fun c1 => ?_)
  · have e_k3 : n = k3 := Nat.le_antisymm ((le_n (N := n) (k := k3) rfl (by omega) (by omega)).mp c1) hk3
    subst e_k3
    refine lv_iload_n hx hb dX0_deal_36 rfl (lv_at hl 2 rfl) ?_
    refine lv_istore (lv' := [(5, .int amount), (0, .ref (ol 0)), (1, .int amount), (2, .int bits), (3, .ref (ol 5)), (4, .ref (ol 6))]) hx hb dX0_deal_37 hl (by decide) rfl (fun ls hl => ?_)
    refine lv_iconst (v := (0 : Int32)) hx hb dX0_deal_39 (by decide) ?_
    refine lv_istore (lv' := [(6, .int (0 : Int32)), (5, .int amount), (0, .ref (ol 0)), (1, .int amount), (2, .int bits), (3, .ref (ol 5)), (4, .ref (ol 6))]) hx hb dX0_deal_40 hl (by decide) rfl (fun ls hl => ?_)
    refine loopB (pcX := 213) (bd_X0_dealmp_42 ol_most bits n) (amount, z3) 6 (fun k42 z42 => [(6, .int (nI k42)), (5, .int z42.1), (0, .ref (ol 0)), (1, .int amount), (2, .int bits), (3, .ref (ol 5)), (4, .ref (ol 6))]) (fun z42 => (wX0 cy ol (os 0) ol_reach ol_ringWith ol_rungOf ol_ringOf ol_most z42.2 ol_back ol_ringFirst ol_ringBits ol_ringRung ol_ringLeft ol_ringPaid ol_rings ol_paidInAll ol_over) ++ (wX3 cy os os_kind os_limit os_retention os_quota os_refers (nI n) os_lossNow)) (fun z42 => [(5, .int z42.1), (0, .ref (ol 0)), (1, .int amount), (2, .int bits), (3, .ref (ol 5)), (4, .ref (ol 6))]) hP hD hS (lv_sub hl [0, 1, 2, 3, 4, 5, 6] rfl) (fun zx42 H locs ls hzx42 hP hD hS hl => ?_) (fun k42 z42 H locs ls hk42 hz42 hP hD hS hl ih42 br42 fin42 => ?_)
    · refine lv_iload_n hx hb dX0_deal_213 rfl (lv_at hl 2 rfl) ?_
      refine lv_iload hx hb dX0_deal_214 (lv_at hl 0 rfl) ?_
      refine lv_isub hx hb dX0_deal_216 ?_
      exact W.iret (v := (amount - zx42.1)) hx hb hr (fun t ht hW => ⟨⟨(amount - zx42.1), zx42.2, rfl, by subst hzx42; subst hz3; unfold f_X0_dealmp; rfl, by rw [ht]; exact hP, hD⟩, hS.F ht⟩) hS.2.2 dX0_deal_217
    · refine lv_iload hx hb dX0_deal_42 (lv_at hl 0 rfl) ?_
      refine lv_bipush (v := (6 : Int32)) hx hb dX0_deal_44 (by decide) ?_
      refine lv_icmp_ge (tgt := 213) hx hb dX0_deal_46 (by decide) (fun c2 => ?_) (fun c2 => ?_)
      · have e_k42 : 6 = k42 := Nat.le_antisymm ((le_n (N := 6) (k := k42) rfl (by omega) (by omega)).mp c2) hk42
        exact fin42 _ _ _ e_k42 hP hD hS (lv_sub hl [1, 2, 3, 4, 5, 6] rfl)
      · have hlt42 : k42 < 6 := Nat.lt_of_not_le (fun qq_ => c2 ((le_n (N := 6) (k := k42) rfl (by omega) (by omega)).mpr qq_))
        refine lv_iload hx hb dX0_deal_49 (lv_at hl 1 rfl) ?_
        refine lv_if_le (tgt := 213) hx hb dX0_deal_51 (by decide) (fun c3 => ?_) (fun c3 => ?_)
        · exact br42 z42 _ _ _ hlt42 (by subst hz3; unfold bd_X0_dealmp_42; rw [if_pos c3] <;> rfl) hP hD hS (lv_sub hl [1, 2, 3, 4, 5, 6] rfl)
        · refine lv_aload_n hx hb dX0_deal_54 rfl (lv_at hl 2 rfl) ?_
          refine lv_iload_n hx hb dX0_deal_55 rfl (lv_at hl 4 rfl) ?_
          refine lv_aload_n hx hb dX0_deal_56 rfl (lv_at hl 5 rfl) ?_
          refine lv_aload hx hb dX0_deal_57 (lv_at hl 6 rfl) ?_
          refine cRoV (q0 := 0) (ci := 0) mw13_13 mw13_14 mw13_15 mw1_21 mw13_16 rfl rfl hd_X0_openOnes hx hb hml hown hG hKX (c_X0_openOnesmp l D cy ol os ol_reach ol_ringWith ol_rungOf ol_ringOf ol_most z42.2 ol_back ol_ringFirst ol_ringBits ol_ringRung ol_ringLeft ol_ringPaid ol_rings ol_paidInAll ol_over os_kind os_limit os_retention os_quota os_refers os_lossNow bits n hn) ⟨Nat.le_of_ble_eq_true rfl, Nat.le_of_ble_eq_true rfl⟩ ⟨Nat.zero_le _, Nat.zero_le _⟩ hP rfl rfl hl.1 rfl (Nat.le_of_ble_eq_true rfl) dX0_deal_59 ?_
          refine lv_topi (fun v62 ev62 => ?_)
          refine lv_istore (lv' := [(7, .int v62), (6, .int (nI k42)), (5, .int z42.1), (0, .ref (ol 0)), (1, .int amount), (2, .int bits), (3, .ref (ol 5)), (4, .ref (ol 6))]) hx hb dX0_deal_62 hl (by decide) rfl (fun ls hl => ?_)
          refine lv_iload hx hb dX0_deal_64 (lv_at hl 0 rfl) ?_
          refine cRoS mw13_17 mw13_18 mw13_19 mw13_20 hd_J6_bitCount_0f7a4 hx hb hml hown hG hKX (c_J6_bitCount_0f7a4 l D cy v62) ⟨Nat.le_of_ble_eq_true rfl, Nat.le_of_ble_eq_true rfl⟩ ⟨Nat.zero_le _, Nat.zero_le _⟩ (hP.sub [] rfl) rfl hl.1 rfl (Nat.le_of_ble_eq_true rfl) dX0_deal_66 ?_
          refine lv_topi (fun v69 ev69 => ?_)
          refine lv_istore (lv' := [(8, .int v69), (7, .int v62), (6, .int (nI k42)), (5, .int z42.1), (0, .ref (ol 0)), (1, .int amount), (2, .int bits), (3, .ref (ol 5)), (4, .ref (ol 6))]) hx hb dX0_deal_69 hl (by decide) rfl (fun ls hl => ?_)
          refine lv_iload hx hb dX0_deal_71 (lv_at hl 0 rfl) ?_
          refine lv_if_ne (tgt := 79) hx hb dX0_deal_73 (by decide) (fun c4 => ?_) (fun c4 => ?_)
          · refine lv_aload_n hx hb dX0_deal_79 rfl (lv_at hl 4 rfl) ?_
            refine lv_iload hx hb dX0_deal_80 (lv_at hl 1 rfl) ?_
            refine lv_aload_n hx hb dX0_deal_82 rfl (lv_at hl 7 rfl) ?_
            refine lv_aload hx hb dX0_deal_83 (lv_at hl 8 rfl) ?_
            refine cRoV (q0 := 0) (ci := 0) mw14_0 mw14_1 mw14_2 mw1_21 mw14_3 rfl rfl hd_X0_leastRoom hx hb hml hown hG hKX (c_X0_leastRoommp l D cy ol os ol_reach ol_ringWith ol_rungOf ol_ringOf ol_most z42.2 ol_back ol_ringFirst ol_ringBits ol_ringRung ol_ringLeft ol_ringPaid ol_rings ol_paidInAll ol_over os_kind os_limit os_retention os_quota os_refers os_lossNow v62 n hn) ⟨Nat.le_of_ble_eq_true rfl, Nat.le_of_ble_eq_true rfl⟩ ⟨Nat.zero_le _, Nat.zero_le _⟩ hP rfl rfl hl.1 rfl (Nat.le_of_ble_eq_true rfl) dX0_deal_85 ?_
            refine lv_iload hx hb dX0_deal_88 (lv_at hl 3 rfl) ?_
            refine lv_iload hx hb dX0_deal_90 (lv_at hl 0 rfl) ?_
            refine lv_idiv hx hb dX0_deal_92 c4 ?_
            refine va_mmin hx hb (hml.trans hl.1.symm) hown (hG _ mw12_23) (hG _ mw3_16) (hG _ mw3_17) (hG _ mw3_18) (Nat.le_of_ble_eq_true rfl) (Nat.le_of_ble_eq_true rfl) (Nat.zero_le _) (Nat.zero_le _) dX0_deal_93 ?_
            refine lv_topi (fun v96 ev96 => ?_)
            refine lv_istore (lv' := [(9, .int v96), (8, .int v69), (7, .int v62), (6, .int (nI k42)), (5, .int z42.1), (0, .ref (ol 0)), (1, .int amount), (2, .int bits), (3, .ref (ol 5)), (4, .ref (ol 6))]) hx hb dX0_deal_96 hl (by decide) rfl (fun ls hl => ?_)
            refine lv_iload hx hb dX0_deal_98 (lv_at hl 0 rfl) ?_
            refine lv_iload hx hb dX0_deal_100 (lv_at hl 4 rfl) ?_
            refine lv_iload hx hb dX0_deal_102 (lv_at hl 1 rfl) ?_
            refine lv_idiv hx hb dX0_deal_104 c4 ?_
            refine lv_icmp_ne (tgt := 116) hx hb dX0_deal_105 (by decide) (fun c5 => ?_) (fun c5 => ?_)
            · refine lv_iconst (v := (0 : Int32)) hx hb dX0_deal_116 (by decide) ?_
              refine lv_topi (fun v117 ev117 => ?_)
              refine lv_istore (lv' := [(10, .int v117), (9, .int v96), (8, .int v69), (7, .int v62), (6, .int (nI k42)), (5, .int z42.1), (0, .ref (ol 0)), (1, .int amount), (2, .int bits), (3, .ref (ol 5)), (4, .ref (ol 6))]) hx hb dX0_deal_117 hl (by decide) rfl (fun ls hl => ?_)
              refine lv_iconst (v := (0 : Int32)) hx hb dX0_deal_119 (by decide) ?_
              refine lv_istore (lv' := [(11, .int (0 : Int32)), (10, .int v117), (9, .int v96), (8, .int v69), (7, .int v62), (6, .int (nI k42)), (5, .int z42.1), (0, .ref (ol 0)), (1, .int amount), (2, .int bits), (3, .ref (ol 5)), (4, .ref (ol 6))]) hx hb dX0_deal_120 hl (by decide) rfl (fun ls hl => ?_)
              refine loopW (bd_X0_dealmp_122 ol_most v62 v96) (z42.1, v117, z42.2) n (fun k122 z122 => [(11, .int (nI k122)), (10, .int z122.2.1), (9, .int v96), (8, .int v69), (7, .int v62), (6, .int (nI k42)), (5, .int z122.1), (0, .ref (ol 0)), (1, .int amount), (2, .int bits), (3, .ref (ol 5)), (4, .ref (ol 6))]) (fun k122 z122 => (wX0 cy ol (os 0) ol_reach ol_ringWith ol_rungOf ol_ringOf ol_most z122.2.2 ol_back ol_ringFirst ol_ringBits ol_ringRung ol_ringLeft ol_ringPaid ol_rings ol_paidInAll ol_over) ++ (wX3 cy os os_kind os_limit os_retention os_quota os_refers (nI n) os_lossNow)) hP hD hS (lv_sub hl [0, 1, 2, 3, 4, 5, 6, 7, 8, 9, 10, 11] rfl) (fun k122 z122 H locs ls hk122 hz122 hP hD hS hl ih122 => ?_)
              refine lv_iload hx hb dX0_deal_122 (lv_at hl 0 rfl) ?_
              refine lv_aload_n hx hb dX0_deal_124 rfl (lv_at hl 7 rfl) ?_
              refine gf_X0_9 hx hb hG hown hKX hP 0 rfl rfl dX0_deal_125 ?_
              refine gf_X0_77 hx hb hG hown hKX hP 13 rfl rfl dX0_deal_128 ?_
              refine lv_icmp_ge (tgt := 207) hx hb dX0_deal_131 (by decide) (fun c6 => ?_) (fun c6 => ?_)
              · have e_k122 : n = k122 := Nat.le_antisymm ((le_n (N := n) (k := k122) rfl (by omega) (by omega)).mp c6) hk122
                subst e_k122
                refine lv_iinc (v := nI (k42 + 1)) (lv' := [(6, .int (nI (k42 + 1))), (11, .int (nI n)), (10, .int z122.2.1), (9, .int v96), (8, .int v69), (7, .int v62), (5, .int z122.1), (0, .ref (ol 0)), (1, .int amount), (2, .int bits), (3, .ref (ol 5)), (4, .ref (ol 6))]) hx hb dX0_deal_207 hl (k := 5) rfl (nI_1 _) (by decide) rfl (fun ls hl => ?_)
                refine lv_goto (tgt := 42) hx hb dX0_deal_210 (by decide) ?_
                exact ih42 (z122.1, z122.2.2) _ _ _ hlt42 (by subst hz122; subst ev117; subst ev96; subst ev69; subst ev62; subst hz3; unfold bd_X0_dealmp_42; rw [if_neg c3, if_neg c4, if_neg c5] <;> rfl) hP hD hS (lv_sub hl [0, 6, 7, 8, 9, 10, 11] rfl)
              · have hlt122 : k122 < n := Nat.lt_of_not_le (fun qq_ => c6 ((le_n (N := n) (k := k122) rfl (by omega) (by omega)).mpr qq_))
                refine lv_iload hx hb dX0_deal_134 (lv_at hl 4 rfl) ?_
                refine lv_iload hx hb dX0_deal_136 (lv_at hl 0 rfl) ?_
                refine cRoN mw8_18 mw1_2 mw8_19 hd_X6_has hKX.2.1 hx hb hml hown hG hKX (c_X6_has l D cy v62 (nI k122)) ⟨Nat.le_of_ble_eq_true rfl, Nat.le_of_ble_eq_true rfl⟩ ⟨Nat.zero_le _, Nat.zero_le _⟩ (hP.sub [] rfl) rfl hl.1 rfl (Nat.le_of_ble_eq_true rfl) dX0_deal_138 ?_
                refine lv_if_eq (tgt := 201) hx hb dX0_deal_141 (by decide) (fun c7 => ?_) (fun c7 => ?_)
                · refine lv_iinc (v := nI (k122 + 1)) (lv' := [(11, .int (nI (k122 + 1))), (10, .int z122.2.1), (9, .int v96), (8, .int v69), (7, .int v62), (6, .int (nI k42)), (5, .int z122.1), (0, .ref (ol 0)), (1, .int amount), (2, .int bits), (3, .ref (ol 5)), (4, .ref (ol 6))]) hx hb dX0_deal_201 hl (k := 0) rfl (nI_1 _) (by decide) rfl (fun ls hl => ?_)
                  refine lv_goto (tgt := 122) hx hb dX0_deal_204 (by decide) ?_
                  exact ih122 z122 _ _ _ hlt122 (by subst ev117; subst ev96; subst ev69; subst ev62; subst hz3; unfold bd_X0_dealmp_122; rw [if_pos c7] <;> rfl) hP hD hS (lv_sub hl [0, 1, 2, 3, 4, 5, 6, 7, 8, 9, 10, 11] rfl)
                · refine lv_iload hx hb dX0_deal_144 (lv_at hl 1 rfl) ?_
                  refine lv_if_le (tgt := 168) hx hb dX0_deal_146 (by decide) (fun c8 => ?_) (fun c8 => ?_)
                  · refine lv_iconst (v := (0 : Int32)) hx hb dX0_deal_168 (by decide) ?_
                    refine lv_istore (lv' := [(12, .int (0 : Int32)), (11, .int (nI k122)), (10, .int z122.2.1), (9, .int v96), (8, .int v69), (7, .int v62), (6, .int (nI k42)), (5, .int z122.1), (0, .ref (ol 0)), (1, .int amount), (2, .int bits), (3, .ref (ol 5)), (4, .ref (ol 6))]) hx hb dX0_deal_169 hl (by decide) rfl (fun ls hl => ?_)
                    refine lv_aload hx hb dX0_deal_171 (lv_at hl 12 rfl) ?_
                    refine lv_iload hx hb dX0_deal_173 (lv_at hl 1 rfl) ?_
                    refine lv_dup2_11 hx hb dX0_deal_175 rfl rfl ?_
                    refine iald_n hx hb hKX hP 6 rfl rfl (by omega) (by decide) dX0_deal_176 ?_
                    refine lv_iload hx hb dX0_deal_177 (lv_at hl 3 rfl) ?_
                    refine lv_iload hx hb dX0_deal_179 (lv_at hl 0 rfl) ?_
                    refine lv_iadd hx hb dX0_deal_181 ?_
                    refine lv_iadd hx hb dX0_deal_182 ?_
                    refine iast_n hx hb hKX hP hD hS 6 rfl rfl (by omega) (by decide) dX0_deal_183 (fun H locs hP hD hS => ?_)
                    have hP : va_P D vwCl ((wX0 cy ol (os 0) ol_reach ol_ringWith ol_rungOf ol_ringOf ol_most (upd z122.2.2 k122 ((z122.2.2 k122) + (v96 + (0 : Int32)))) ol_back ol_ringFirst ol_ringBits ol_ringRung ol_ringLeft ol_ringPaid ol_rings ol_paidInAll ol_over) ++ (wX3 cy os os_kind os_limit os_retention os_quota os_refers (nI n) os_lossNow)) H := hP
                    have hD : va_D A ((wX0 cy ol (os 0) ol_reach ol_ringWith ol_rungOf ol_ringOf ol_most (upd z122.2.2 k122 ((z122.2.2 k122) + (v96 + (0 : Int32)))) ol_back ol_ringFirst ol_ringBits ol_ringRung ol_ringLeft ol_ringPaid ol_rings ol_paidInAll ol_over) ++ (wX3 cy os os_kind os_limit os_retention os_quota os_refers (nI n) os_lossNow)) := hD
                    refine lv_iload hx hb dX0_deal_184 (lv_at hl 7 rfl) ?_
                    refine lv_iload hx hb dX0_deal_186 (lv_at hl 3 rfl) ?_
                    refine lv_iload hx hb dX0_deal_188 (lv_at hl 0 rfl) ?_
                    refine lv_iadd hx hb dX0_deal_190 ?_
                    refine lv_isub hx hb dX0_deal_191 ?_
                    refine lv_istore (lv' := [(5, .int (z122.1 - (v96 + (0 : Int32)))), (12, .int (0 : Int32)), (11, .int (nI k122)), (10, .int z122.2.1), (9, .int v96), (8, .int v69), (7, .int v62), (6, .int (nI k42)), (0, .ref (ol 0)), (1, .int amount), (2, .int bits), (3, .ref (ol 5)), (4, .ref (ol 6))]) hx hb dX0_deal_192 hl (by decide) rfl (fun ls hl => ?_)
                    refine lv_iload hx hb dX0_deal_194 (lv_at hl 3 rfl) ?_
                    refine lv_iload hx hb dX0_deal_196 (lv_at hl 1 rfl) ?_
                    refine lv_isub hx hb dX0_deal_198 ?_
                    refine lv_istore (lv' := [(10, .int (z122.2.1 - (0 : Int32))), (5, .int (z122.1 - (v96 + (0 : Int32)))), (12, .int (0 : Int32)), (11, .int (nI k122)), (9, .int v96), (8, .int v69), (7, .int v62), (6, .int (nI k42)), (0, .ref (ol 0)), (1, .int amount), (2, .int bits), (3, .ref (ol 5)), (4, .ref (ol 6))]) hx hb dX0_deal_199 hl (by decide) rfl (fun ls hl => ?_)
                    refine lv_iinc (v := nI (k122 + 1)) (lv' := [(11, .int (nI (k122 + 1))), (10, .int (z122.2.1 - (0 : Int32))), (5, .int (z122.1 - (v96 + (0 : Int32)))), (12, .int (0 : Int32)), (9, .int v96), (8, .int v69), (7, .int v62), (6, .int (nI k42)), (0, .ref (ol 0)), (1, .int amount), (2, .int bits), (3, .ref (ol 5)), (4, .ref (ol 6))]) hx hb dX0_deal_201 hl (k := 3) rfl (nI_1 _) (by decide) rfl (fun ls hl => ?_)
                    refine lv_goto (tgt := 122) hx hb dX0_deal_204 (by decide) ?_
                    exact ih122 ((z122.1 - (v96 + (0 : Int32))), (z122.2.1 - (0 : Int32)), upd z122.2.2 k122 ((z122.2.2 k122) + (v96 + (0 : Int32)))) _ _ _ hlt122 (by subst ev117; subst ev96; subst ev69; subst ev62; subst hz3; unfold bd_X0_dealmp_122; rw [if_neg c7, if_pos c8] <;> rfl) hP hD hS (lv_sub hl [0, 1, 4, 5, 6, 7, 2, 8, 9, 10, 11, 12] rfl)
                  · refine lv_aload hx hb dX0_deal_149 (lv_at hl 11 rfl) ?_
                    refine lv_iload hx hb dX0_deal_151 (lv_at hl 0 rfl) ?_
                    refine iald_n hx hb hKX hP 6 rfl rfl (by omega) (by decide) dX0_deal_153 ?_
                    refine lv_iload hx hb dX0_deal_154 (lv_at hl 2 rfl) ?_
                    refine lv_iadd hx hb dX0_deal_156 ?_
                    refine lv_aload_n hx hb dX0_deal_157 rfl (lv_at hl 10 rfl) ?_
                    refine lv_iload hx hb dX0_deal_158 (lv_at hl 0 rfl) ?_
                    refine iald_n hx hb hKX hP 5 rfl rfl (by omega) (by decide) dX0_deal_160 ?_
                    refine lv_icmp_ge (tgt := 168) hx hb dX0_deal_161 (by decide) (fun c9 => ?_) (fun c9 => ?_)
                    · refine lv_iconst (v := (0 : Int32)) hx hb dX0_deal_168 (by decide) ?_
                      refine lv_istore (lv' := [(12, .int (0 : Int32)), (11, .int (nI k122)), (10, .int z122.2.1), (9, .int v96), (8, .int v69), (7, .int v62), (6, .int (nI k42)), (5, .int z122.1), (0, .ref (ol 0)), (1, .int amount), (2, .int bits), (3, .ref (ol 5)), (4, .ref (ol 6))]) hx hb dX0_deal_169 hl (by decide) rfl (fun ls hl => ?_)
                      refine lv_aload hx hb dX0_deal_171 (lv_at hl 12 rfl) ?_
                      refine lv_iload hx hb dX0_deal_173 (lv_at hl 1 rfl) ?_
                      refine lv_dup2_11 hx hb dX0_deal_175 rfl rfl ?_
                      refine iald_n hx hb hKX hP 6 rfl rfl (by omega) (by decide) dX0_deal_176 ?_
                      refine lv_iload hx hb dX0_deal_177 (lv_at hl 3 rfl) ?_
                      refine lv_iload hx hb dX0_deal_179 (lv_at hl 0 rfl) ?_
                      refine lv_iadd hx hb dX0_deal_181 ?_
                      refine lv_iadd hx hb dX0_deal_182 ?_
                      refine iast_n hx hb hKX hP hD hS 6 rfl rfl (by omega) (by decide) dX0_deal_183 (fun H locs hP hD hS => ?_)
                      have hP : va_P D vwCl ((wX0 cy ol (os 0) ol_reach ol_ringWith ol_rungOf ol_ringOf ol_most (upd z122.2.2 k122 ((z122.2.2 k122) + (v96 + (0 : Int32)))) ol_back ol_ringFirst ol_ringBits ol_ringRung ol_ringLeft ol_ringPaid ol_rings ol_paidInAll ol_over) ++ (wX3 cy os os_kind os_limit os_retention os_quota os_refers (nI n) os_lossNow)) H := hP
                      have hD : va_D A ((wX0 cy ol (os 0) ol_reach ol_ringWith ol_rungOf ol_ringOf ol_most (upd z122.2.2 k122 ((z122.2.2 k122) + (v96 + (0 : Int32)))) ol_back ol_ringFirst ol_ringBits ol_ringRung ol_ringLeft ol_ringPaid ol_rings ol_paidInAll ol_over) ++ (wX3 cy os os_kind os_limit os_retention os_quota os_refers (nI n) os_lossNow)) := hD
                      refine lv_iload hx hb dX0_deal_184 (lv_at hl 7 rfl) ?_
                      refine lv_iload hx hb dX0_deal_186 (lv_at hl 3 rfl) ?_
                      refine lv_iload hx hb dX0_deal_188 (lv_at hl 0 rfl) ?_
                      refine lv_iadd hx hb dX0_deal_190 ?_
                      refine lv_isub hx hb dX0_deal_191 ?_
                      refine lv_istore (lv' := [(5, .int (z122.1 - (v96 + (0 : Int32)))), (12, .int (0 : Int32)), (11, .int (nI k122)), (10, .int z122.2.1), (9, .int v96), (8, .int v69), (7, .int v62), (6, .int (nI k42)), (0, .ref (ol 0)), (1, .int amount), (2, .int bits), (3, .ref (ol 5)), (4, .ref (ol 6))]) hx hb dX0_deal_192 hl (by decide) rfl (fun ls hl => ?_)
                      refine lv_iload hx hb dX0_deal_194 (lv_at hl 3 rfl) ?_
                      refine lv_iload hx hb dX0_deal_196 (lv_at hl 1 rfl) ?_
                      refine lv_isub hx hb dX0_deal_198 ?_
                      refine lv_istore (lv' := [(10, .int (z122.2.1 - (0 : Int32))), (5, .int (z122.1 - (v96 + (0 : Int32)))), (12, .int (0 : Int32)), (11, .int (nI k122)), (9, .int v96), (8, .int v69), (7, .int v62), (6, .int (nI k42)), (0, .ref (ol 0)), (1, .int amount), (2, .int bits), (3, .ref (ol 5)), (4, .ref (ol 6))]) hx hb dX0_deal_199 hl (by decide) rfl (fun ls hl => ?_)
                      refine lv_iinc (v := nI (k122 + 1)) (lv' := [(11, .int (nI (k122 + 1))), (10, .int (z122.2.1 - (0 : Int32))), (5, .int (z122.1 - (v96 + (0 : Int32)))), (12, .int (0 : Int32)), (9, .int v96), (8, .int v69), (7, .int v62), (6, .int (nI k42)), (0, .ref (ol 0)), (1, .int amount), (2, .int bits), (3, .ref (ol 5)), (4, .ref (ol 6))]) hx hb dX0_deal_201 hl (k := 3) rfl (nI_1 _) (by decide) rfl (fun ls hl => ?_)
                      refine lv_goto (tgt := 122) hx hb dX0_deal_204 (by decide) ?_
                      exact ih122 ((z122.1 - (v96 + (0 : Int32))), (z122.2.1 - (0 : Int32)), upd z122.2.2 k122 ((z122.2.2 k122) + (v96 + (0 : Int32)))) _ _ _ hlt122 (by subst ev117; subst ev96; subst ev69; subst ev62; subst hz3; unfold bd_X0_dealmp_122; rw [if_neg c7, if_neg c8, if_pos c9] <;> rfl) hP hD hS (lv_sub hl [0, 1, 4, 5, 6, 7, 2, 8, 9, 10, 11, 12] rfl)
                    · refine lv_iconst (v := (1 : Int32)) hx hb dX0_deal_164 (by decide) ?_
                      refine lv_goto (tgt := 169) hx hb dX0_deal_165 (by decide) ?_
                      refine lv_istore (lv' := [(12, .int (1 : Int32)), (11, .int (nI k122)), (10, .int z122.2.1), (9, .int v96), (8, .int v69), (7, .int v62), (6, .int (nI k42)), (5, .int z122.1), (0, .ref (ol 0)), (1, .int amount), (2, .int bits), (3, .ref (ol 5)), (4, .ref (ol 6))]) hx hb dX0_deal_169 hl (by decide) rfl (fun ls hl => ?_)
                      refine lv_aload hx hb dX0_deal_171 (lv_at hl 12 rfl) ?_
                      refine lv_iload hx hb dX0_deal_173 (lv_at hl 1 rfl) ?_
                      refine lv_dup2_11 hx hb dX0_deal_175 rfl rfl ?_
                      refine iald_n hx hb hKX hP 6 rfl rfl (by omega) (by decide) dX0_deal_176 ?_
                      refine lv_iload hx hb dX0_deal_177 (lv_at hl 3 rfl) ?_
                      refine lv_iload hx hb dX0_deal_179 (lv_at hl 0 rfl) ?_
                      refine lv_iadd hx hb dX0_deal_181 ?_
                      refine lv_iadd hx hb dX0_deal_182 ?_
                      refine iast_n hx hb hKX hP hD hS 6 rfl rfl (by omega) (by decide) dX0_deal_183 (fun H locs hP hD hS => ?_)
                      have hP : va_P D vwCl ((wX0 cy ol (os 0) ol_reach ol_ringWith ol_rungOf ol_ringOf ol_most (upd z122.2.2 k122 ((z122.2.2 k122) + (v96 + (1 : Int32)))) ol_back ol_ringFirst ol_ringBits ol_ringRung ol_ringLeft ol_ringPaid ol_rings ol_paidInAll ol_over) ++ (wX3 cy os os_kind os_limit os_retention os_quota os_refers (nI n) os_lossNow)) H := hP
                      have hD : va_D A ((wX0 cy ol (os 0) ol_reach ol_ringWith ol_rungOf ol_ringOf ol_most (upd z122.2.2 k122 ((z122.2.2 k122) + (v96 + (1 : Int32)))) ol_back ol_ringFirst ol_ringBits ol_ringRung ol_ringLeft ol_ringPaid ol_rings ol_paidInAll ol_over) ++ (wX3 cy os os_kind os_limit os_retention os_quota os_refers (nI n) os_lossNow)) := hD
                      refine lv_iload hx hb dX0_deal_184 (lv_at hl 7 rfl) ?_
                      refine lv_iload hx hb dX0_deal_186 (lv_at hl 3 rfl) ?_
                      refine lv_iload hx hb dX0_deal_188 (lv_at hl 0 rfl) ?_
                      refine lv_iadd hx hb dX0_deal_190 ?_
                      refine lv_isub hx hb dX0_deal_191 ?_
                      refine lv_istore (lv' := [(5, .int (z122.1 - (v96 + (1 : Int32)))), (12, .int (1 : Int32)), (11, .int (nI k122)), (10, .int z122.2.1), (9, .int v96), (8, .int v69), (7, .int v62), (6, .int (nI k42)), (0, .ref (ol 0)), (1, .int amount), (2, .int bits), (3, .ref (ol 5)), (4, .ref (ol 6))]) hx hb dX0_deal_192 hl (by decide) rfl (fun ls hl => ?_)
                      refine lv_iload hx hb dX0_deal_194 (lv_at hl 3 rfl) ?_
                      refine lv_iload hx hb dX0_deal_196 (lv_at hl 1 rfl) ?_
                      refine lv_isub hx hb dX0_deal_198 ?_
                      refine lv_istore (lv' := [(10, .int (z122.2.1 - (1 : Int32))), (5, .int (z122.1 - (v96 + (1 : Int32)))), (12, .int (1 : Int32)), (11, .int (nI k122)), (9, .int v96), (8, .int v69), (7, .int v62), (6, .int (nI k42)), (0, .ref (ol 0)), (1, .int amount), (2, .int bits), (3, .ref (ol 5)), (4, .ref (ol 6))]) hx hb dX0_deal_199 hl (by decide) rfl (fun ls hl => ?_)
                      refine lv_iinc (v := nI (k122 + 1)) (lv' := [(11, .int (nI (k122 + 1))), (10, .int (z122.2.1 - (1 : Int32))), (5, .int (z122.1 - (v96 + (1 : Int32)))), (12, .int (1 : Int32)), (9, .int v96), (8, .int v69), (7, .int v62), (6, .int (nI k42)), (0, .ref (ol 0)), (1, .int amount), (2, .int bits), (3, .ref (ol 5)), (4, .ref (ol 6))]) hx hb dX0_deal_201 hl (k := 3) rfl (nI_1 _) (by decide) rfl (fun ls hl => ?_)
                      refine lv_goto (tgt := 122) hx hb dX0_deal_204 (by decide) ?_
                      exact ih122 ((z122.1 - (v96 + (1 : Int32))), (z122.2.1 - (1 : Int32)), upd z122.2.2 k122 ((z122.2.2 k122) + (v96 + (1 : Int32)))) _ _ _ hlt122 (by subst ev117; subst ev96; subst ev69; subst ev62; subst hz3; unfold bd_X0_dealmp_122; rw [if_neg c7, if_neg c8, if_neg c9] <;> rfl) hP hD hS (lv_sub hl [0, 1, 4, 5, 6, 7, 2, 8, 9, 10, 11, 12] rfl)
            · refine lv_iload hx hb dX0_deal_108 (lv_at hl 4 rfl) ?_
              refine lv_iload hx hb dX0_deal_110 (lv_at hl 1 rfl) ?_
              refine lv_irem hx hb dX0_deal_112 c4 ?_
              refine lv_goto (tgt := 117) hx hb dX0_deal_113 (by decide) ?_
              refine lv_topi (fun v117 ev117 => ?_)
              refine lv_istore (lv' := [(10, .int v117), (9, .int v96), (8, .int v69), (7, .int v62), (6, .int (nI k42)), (5, .int z42.1), (0, .ref (ol 0)), (1, .int amount), (2, .int bits), (3, .ref (ol 5)), (4, .ref (ol 6))]) hx hb dX0_deal_117 hl (by decide) rfl (fun ls hl => ?_)
              refine lv_iconst (v := (0 : Int32)) hx hb dX0_deal_119 (by decide) ?_
              refine lv_istore (lv' := [(11, .int (0 : Int32)), (10, .int v117), (9, .int v96), (8, .int v69), (7, .int v62), (6, .int (nI k42)), (5, .int z42.1), (0, .ref (ol 0)), (1, .int amount), (2, .int bits), (3, .ref (ol 5)), (4, .ref (ol 6))]) hx hb dX0_deal_120 hl (by decide) rfl (fun ls hl => ?_)
              refine loopW (bd_X0_dealmp_122 ol_most v62 v96) (z42.1, v117, z42.2) n (fun k122 z122 => [(11, .int (nI k122)), (10, .int z122.2.1), (9, .int v96), (8, .int v69), (7, .int v62), (6, .int (nI k42)), (5, .int z122.1), (0, .ref (ol 0)), (1, .int amount), (2, .int bits), (3, .ref (ol 5)), (4, .ref (ol 6))]) (fun k122 z122 => (wX0 cy ol (os 0) ol_reach ol_ringWith ol_rungOf ol_ringOf ol_most z122.2.2 ol_back ol_ringFirst ol_ringBits ol_ringRung ol_ringLeft ol_ringPaid ol_rings ol_paidInAll ol_over) ++ (wX3 cy os os_kind os_limit os_retention os_quota os_refers (nI n) os_lossNow)) hP hD hS (lv_sub hl [0, 1, 2, 3, 4, 5, 6, 7, 8, 9, 10, 11] rfl) (fun k122 z122 H locs ls hk122 hz122 hP hD hS hl ih122 => ?_)
              refine lv_iload hx hb dX0_deal_122 (lv_at hl 0 rfl) ?_
              refine lv_aload_n hx hb dX0_deal_124 rfl (lv_at hl 7 rfl) ?_
              refine gf_X0_9 hx hb hG hown hKX hP 0 rfl rfl dX0_deal_125 ?_
              refine gf_X0_77 hx hb hG hown hKX hP 13 rfl rfl dX0_deal_128 ?_
              refine lv_icmp_ge (tgt := 207) hx hb dX0_deal_131 (by decide) (fun c10 => ?_) (fun c10 => ?_)
              · have e_k122 : n = k122 := Nat.le_antisymm ((le_n (N := n) (k := k122) rfl (by omega) (by omega)).mp c10) hk122
                subst e_k122
                refine lv_iinc (v := nI (k42 + 1)) (lv' := [(6, .int (nI (k42 + 1))), (11, .int (nI n)), (10, .int z122.2.1), (9, .int v96), (8, .int v69), (7, .int v62), (5, .int z122.1), (0, .ref (ol 0)), (1, .int amount), (2, .int bits), (3, .ref (ol 5)), (4, .ref (ol 6))]) hx hb dX0_deal_207 hl (k := 5) rfl (nI_1 _) (by decide) rfl (fun ls hl => ?_)
                refine lv_goto (tgt := 42) hx hb dX0_deal_210 (by decide) ?_
                exact ih42 (z122.1, z122.2.2) _ _ _ hlt42 (by subst hz122; subst ev117; subst ev96; subst ev69; subst ev62; subst hz3; unfold bd_X0_dealmp_42; rw [if_neg c3, if_neg c4, if_pos c5] <;> rfl) hP hD hS (lv_sub hl [0, 6, 7, 8, 9, 10, 11] rfl)
              · have hlt122 : k122 < n := Nat.lt_of_not_le (fun qq_ => c10 ((le_n (N := n) (k := k122) rfl (by omega) (by omega)).mpr qq_))
                refine lv_iload hx hb dX0_deal_134 (lv_at hl 4 rfl) ?_
                refine lv_iload hx hb dX0_deal_136 (lv_at hl 0 rfl) ?_
                refine cRoN mw8_18 mw1_2 mw8_19 hd_X6_has hKX.2.1 hx hb hml hown hG hKX (c_X6_has l D cy v62 (nI k122)) ⟨Nat.le_of_ble_eq_true rfl, Nat.le_of_ble_eq_true rfl⟩ ⟨Nat.zero_le _, Nat.zero_le _⟩ (hP.sub [] rfl) rfl hl.1 rfl (Nat.le_of_ble_eq_true rfl) dX0_deal_138 ?_
                refine lv_if_eq (tgt := 201) hx hb dX0_deal_141 (by decide) (fun c11 => ?_) (fun c11 => ?_)
                · refine lv_iinc (v := nI (k122 + 1)) (lv' := [(11, .int (nI (k122 + 1))), (10, .int z122.2.1), (9, .int v96), (8, .int v69), (7, .int v62), (6, .int (nI k42)), (5, .int z122.1), (0, .ref (ol 0)), (1, .int amount), (2, .int bits), (3, .ref (ol 5)), (4, .ref (ol 6))]) hx hb dX0_deal_201 hl (k := 0) rfl (nI_1 _) (by decide) rfl (fun ls hl => ?_)
                  refine lv_goto (tgt := 122) hx hb dX0_deal_204 (by decide) ?_
                  exact ih122 z122 _ _ _ hlt122 (by subst ev117; subst ev96; subst ev69; subst ev62; subst hz3; unfold bd_X0_dealmp_122; rw [if_pos c11] <;> rfl) hP hD hS (lv_sub hl [0, 1, 2, 3, 4, 5, 6, 7, 8, 9, 10, 11] rfl)
                · refine lv_iload hx hb dX0_deal_144 (lv_at hl 1 rfl) ?_
                  refine lv_if_le (tgt := 168) hx hb dX0_deal_146 (by decide) (fun c12 => ?_) (fun c12 => ?_)
                  · refine lv_iconst (v := (0 : Int32)) hx hb dX0_deal_168 (by decide) ?_
                    refine lv_istore (lv' := [(12, .int (0 : Int32)), (11, .int (nI k122)), (10, .int z122.2.1), (9, .int v96), (8, .int v69), (7, .int v62), (6, .int (nI k42)), (5, .int z122.1), (0, .ref (ol 0)), (1, .int amount), (2, .int bits), (3, .ref (ol 5)), (4, .ref (ol 6))]) hx hb dX0_deal_169 hl (by decide) rfl (fun ls hl => ?_)
                    refine lv_aload hx hb dX0_deal_171 (lv_at hl 12 rfl) ?_
                    refine lv_iload hx hb dX0_deal_173 (lv_at hl 1 rfl) ?_
                    refine lv_dup2_11 hx hb dX0_deal_175 rfl rfl ?_
                    refine iald_n hx hb hKX hP 6 rfl rfl (by omega) (by decide) dX0_deal_176 ?_
                    refine lv_iload hx hb dX0_deal_177 (lv_at hl 3 rfl) ?_
                    refine lv_iload hx hb dX0_deal_179 (lv_at hl 0 rfl) ?_
                    refine lv_iadd hx hb dX0_deal_181 ?_
                    refine lv_iadd hx hb dX0_deal_182 ?_
                    refine iast_n hx hb hKX hP hD hS 6 rfl rfl (by omega) (by decide) dX0_deal_183 (fun H locs hP hD hS => ?_)
                    have hP : va_P D vwCl ((wX0 cy ol (os 0) ol_reach ol_ringWith ol_rungOf ol_ringOf ol_most (upd z122.2.2 k122 ((z122.2.2 k122) + (v96 + (0 : Int32)))) ol_back ol_ringFirst ol_ringBits ol_ringRung ol_ringLeft ol_ringPaid ol_rings ol_paidInAll ol_over) ++ (wX3 cy os os_kind os_limit os_retention os_quota os_refers (nI n) os_lossNow)) H := hP
                    have hD : va_D A ((wX0 cy ol (os 0) ol_reach ol_ringWith ol_rungOf ol_ringOf ol_most (upd z122.2.2 k122 ((z122.2.2 k122) + (v96 + (0 : Int32)))) ol_back ol_ringFirst ol_ringBits ol_ringRung ol_ringLeft ol_ringPaid ol_rings ol_paidInAll ol_over) ++ (wX3 cy os os_kind os_limit os_retention os_quota os_refers (nI n) os_lossNow)) := hD
                    refine lv_iload hx hb dX0_deal_184 (lv_at hl 7 rfl) ?_
                    refine lv_iload hx hb dX0_deal_186 (lv_at hl 3 rfl) ?_
                    refine lv_iload hx hb dX0_deal_188 (lv_at hl 0 rfl) ?_
                    refine lv_iadd hx hb dX0_deal_190 ?_
                    refine lv_isub hx hb dX0_deal_191 ?_
                    refine lv_istore (lv' := [(5, .int (z122.1 - (v96 + (0 : Int32)))), (12, .int (0 : Int32)), (11, .int (nI k122)), (10, .int z122.2.1), (9, .int v96), (8, .int v69), (7, .int v62), (6, .int (nI k42)), (0, .ref (ol 0)), (1, .int amount), (2, .int bits), (3, .ref (ol 5)), (4, .ref (ol 6))]) hx hb dX0_deal_192 hl (by decide) rfl (fun ls hl => ?_)
                    refine lv_iload hx hb dX0_deal_194 (lv_at hl 3 rfl) ?_
                    refine lv_iload hx hb dX0_deal_196 (lv_at hl 1 rfl) ?_
                    refine lv_isub hx hb dX0_deal_198 ?_
                    refine lv_istore (lv' := [(10, .int (z122.2.1 - (0 : Int32))), (5, .int (z122.1 - (v96 + (0 : Int32)))), (12, .int (0 : Int32)), (11, .int (nI k122)), (9, .int v96), (8, .int v69), (7, .int v62), (6, .int (nI k42)), (0, .ref (ol 0)), (1, .int amount), (2, .int bits), (3, .ref (ol 5)), (4, .ref (ol 6))]) hx hb dX0_deal_199 hl (by decide) rfl (fun ls hl => ?_)
                    refine lv_iinc (v := nI (k122 + 1)) (lv' := [(11, .int (nI (k122 + 1))), (10, .int (z122.2.1 - (0 : Int32))), (5, .int (z122.1 - (v96 + (0 : Int32)))), (12, .int (0 : Int32)), (9, .int v96), (8, .int v69), (7, .int v62), (6, .int (nI k42)), (0, .ref (ol 0)), (1, .int amount), (2, .int bits), (3, .ref (ol 5)), (4, .ref (ol 6))]) hx hb dX0_deal_201 hl (k := 3) rfl (nI_1 _) (by decide) rfl (fun ls hl => ?_)
                    refine lv_goto (tgt := 122) hx hb dX0_deal_204 (by decide) ?_
                    exact ih122 ((z122.1 - (v96 + (0 : Int32))), (z122.2.1 - (0 : Int32)), upd z122.2.2 k122 ((z122.2.2 k122) + (v96 + (0 : Int32)))) _ _ _ hlt122 (by subst ev117; subst ev96; subst ev69; subst ev62; subst hz3; unfold bd_X0_dealmp_122; rw [if_neg c11, if_pos c12] <;> rfl) hP hD hS (lv_sub hl [0, 1, 4, 5, 6, 7, 2, 8, 9, 10, 11, 12] rfl)
                  · refine lv_aload hx hb dX0_deal_149 (lv_at hl 11 rfl) ?_
                    refine lv_iload hx hb dX0_deal_151 (lv_at hl 0 rfl) ?_
                    refine iald_n hx hb hKX hP 6 rfl rfl (by omega) (by decide) dX0_deal_153 ?_
                    refine lv_iload hx hb dX0_deal_154 (lv_at hl 2 rfl) ?_
                    refine lv_iadd hx hb dX0_deal_156 ?_
                    refine lv_aload_n hx hb dX0_deal_157 rfl (lv_at hl 10 rfl) ?_
                    refine lv_iload hx hb dX0_deal_158 (lv_at hl 0 rfl) ?_
                    refine iald_n hx hb hKX hP 5 rfl rfl (by omega) (by decide) dX0_deal_160 ?_
                    refine lv_icmp_ge (tgt := 168) hx hb dX0_deal_161 (by decide) (fun c13 => ?_) (fun c13 => ?_)
                    · refine lv_iconst (v := (0 : Int32)) hx hb dX0_deal_168 (by decide) ?_
                      refine lv_istore (lv' := [(12, .int (0 : Int32)), (11, .int (nI k122)), (10, .int z122.2.1), (9, .int v96), (8, .int v69), (7, .int v62), (6, .int (nI k42)), (5, .int z122.1), (0, .ref (ol 0)), (1, .int amount), (2, .int bits), (3, .ref (ol 5)), (4, .ref (ol 6))]) hx hb dX0_deal_169 hl (by decide) rfl (fun ls hl => ?_)
                      refine lv_aload hx hb dX0_deal_171 (lv_at hl 12 rfl) ?_
                      refine lv_iload hx hb dX0_deal_173 (lv_at hl 1 rfl) ?_
                      refine lv_dup2_11 hx hb dX0_deal_175 rfl rfl ?_
                      refine iald_n hx hb hKX hP 6 rfl rfl (by omega) (by decide) dX0_deal_176 ?_
                      refine lv_iload hx hb dX0_deal_177 (lv_at hl 3 rfl) ?_
                      refine lv_iload hx hb dX0_deal_179 (lv_at hl 0 rfl) ?_
                      refine lv_iadd hx hb dX0_deal_181 ?_
                      refine lv_iadd hx hb dX0_deal_182 ?_
                      refine iast_n hx hb hKX hP hD hS 6 rfl rfl (by omega) (by decide) dX0_deal_183 (fun H locs hP hD hS => ?_)
                      have hP : va_P D vwCl ((wX0 cy ol (os 0) ol_reach ol_ringWith ol_rungOf ol_ringOf ol_most (upd z122.2.2 k122 ((z122.2.2 k122) + (v96 + (0 : Int32)))) ol_back ol_ringFirst ol_ringBits ol_ringRung ol_ringLeft ol_ringPaid ol_rings ol_paidInAll ol_over) ++ (wX3 cy os os_kind os_limit os_retention os_quota os_refers (nI n) os_lossNow)) H := hP
                      have hD : va_D A ((wX0 cy ol (os 0) ol_reach ol_ringWith ol_rungOf ol_ringOf ol_most (upd z122.2.2 k122 ((z122.2.2 k122) + (v96 + (0 : Int32)))) ol_back ol_ringFirst ol_ringBits ol_ringRung ol_ringLeft ol_ringPaid ol_rings ol_paidInAll ol_over) ++ (wX3 cy os os_kind os_limit os_retention os_quota os_refers (nI n) os_lossNow)) := hD
                      refine lv_iload hx hb dX0_deal_184 (lv_at hl 7 rfl) ?_
                      refine lv_iload hx hb dX0_deal_186 (lv_at hl 3 rfl) ?_
                      refine lv_iload hx hb dX0_deal_188 (lv_at hl 0 rfl) ?_
                      refine lv_iadd hx hb dX0_deal_190 ?_
                      refine lv_isub hx hb dX0_deal_191 ?_
                      refine lv_istore (lv' := [(5, .int (z122.1 - (v96 + (0 : Int32)))), (12, .int (0 : Int32)), (11, .int (nI k122)), (10, .int z122.2.1), (9, .int v96), (8, .int v69), (7, .int v62), (6, .int (nI k42)), (0, .ref (ol 0)), (1, .int amount), (2, .int bits), (3, .ref (ol 5)), (4, .ref (ol 6))]) hx hb dX0_deal_192 hl (by decide) rfl (fun ls hl => ?_)
                      refine lv_iload hx hb dX0_deal_194 (lv_at hl 3 rfl) ?_
                      refine lv_iload hx hb dX0_deal_196 (lv_at hl 1 rfl) ?_
                      refine lv_isub hx hb dX0_deal_198 ?_
                      refine lv_istore (lv' := [(10, .int (z122.2.1 - (0 : Int32))), (5, .int (z122.1 - (v96 + (0 : Int32)))), (12, .int (0 : Int32)), (11, .int (nI k122)), (9, .int v96), (8, .int v69), (7, .int v62), (6, .int (nI k42)), (0, .ref (ol 0)), (1, .int amount), (2, .int bits), (3, .ref (ol 5)), (4, .ref (ol 6))]) hx hb dX0_deal_199 hl (by decide) rfl (fun ls hl => ?_)
                      refine lv_iinc (v := nI (k122 + 1)) (lv' := [(11, .int (nI (k122 + 1))), (10, .int (z122.2.1 - (0 : Int32))), (5, .int (z122.1 - (v96 + (0 : Int32)))), (12, .int (0 : Int32)), (9, .int v96), (8, .int v69), (7, .int v62), (6, .int (nI k42)), (0, .ref (ol 0)), (1, .int amount), (2, .int bits), (3, .ref (ol 5)), (4, .ref (ol 6))]) hx hb dX0_deal_201 hl (k := 3) rfl (nI_1 _) (by decide) rfl (fun ls hl => ?_)
                      refine lv_goto (tgt := 122) hx hb dX0_deal_204 (by decide) ?_
                      exact ih122 ((z122.1 - (v96 + (0 : Int32))), (z122.2.1 - (0 : Int32)), upd z122.2.2 k122 ((z122.2.2 k122) + (v96 + (0 : Int32)))) _ _ _ hlt122 (by subst ev117; subst ev96; subst ev69; subst ev62; subst hz3; unfold bd_X0_dealmp_122; rw [if_neg c11, if_neg c12, if_pos c13] <;> rfl) hP hD hS (lv_sub hl [0, 1, 4, 5, 6, 7, 2, 8, 9, 10, 11, 12] rfl)
                    · refine lv_iconst (v := (1 : Int32)) hx hb dX0_deal_164 (by decide) ?_
                      refine lv_goto (tgt := 169) hx hb dX0_deal_165 (by decide) ?_
                      refine lv_istore (lv' := [(12, .int (1 : Int32)), (11, .int (nI k122)), (10, .int z122.2.1), (9, .int v96), (8, .int v69), (7, .int v62), (6, .int (nI k42)), (5, .int z122.1), (0, .ref (ol 0)), (1, .int amount), (2, .int bits), (3, .ref (ol 5)), (4, .ref (ol 6))]) hx hb dX0_deal_169 hl (by decide) rfl (fun ls hl => ?_)
                      refine lv_aload hx hb dX0_deal_171 (lv_at hl 12 rfl) ?_
                      refine lv_iload hx hb dX0_deal_173 (lv_at hl 1 rfl) ?_
                      refine lv_dup2_11 hx hb dX0_deal_175 rfl rfl ?_
                      refine iald_n hx hb hKX hP 6 rfl rfl (by omega) (by decide) dX0_deal_176 ?_
                      refine lv_iload hx hb dX0_deal_177 (lv_at hl 3 rfl) ?_
                      refine lv_iload hx hb dX0_deal_179 (lv_at hl 0 rfl) ?_
                      refine lv_iadd hx hb dX0_deal_181 ?_
                      refine lv_iadd hx hb dX0_deal_182 ?_
                      refine iast_n hx hb hKX hP hD hS 6 rfl rfl (by omega) (by decide) dX0_deal_183 (fun H locs hP hD hS => ?_)
                      have hP : va_P D vwCl ((wX0 cy ol (os 0) ol_reach ol_ringWith ol_rungOf ol_ringOf ol_most (upd z122.2.2 k122 ((z122.2.2 k122) + (v96 + (1 : Int32)))) ol_back ol_ringFirst ol_ringBits ol_ringRung ol_ringLeft ol_ringPaid ol_rings ol_paidInAll ol_over) ++ (wX3 cy os os_kind os_limit os_retention os_quota os_refers (nI n) os_lossNow)) H := hP
                      have hD : va_D A ((wX0 cy ol (os 0) ol_reach ol_ringWith ol_rungOf ol_ringOf ol_most (upd z122.2.2 k122 ((z122.2.2 k122) + (v96 + (1 : Int32)))) ol_back ol_ringFirst ol_ringBits ol_ringRung ol_ringLeft ol_ringPaid ol_rings ol_paidInAll ol_over) ++ (wX3 cy os os_kind os_limit os_retention os_quota os_refers (nI n) os_lossNow)) := hD
                      refine lv_iload hx hb dX0_deal_184 (lv_at hl 7 rfl) ?_
                      refine lv_iload hx hb dX0_deal_186 (lv_at hl 3 rfl) ?_
                      refine lv_iload hx hb dX0_deal_188 (lv_at hl 0 rfl) ?_
                      refine lv_iadd hx hb dX0_deal_190 ?_
                      refine lv_isub hx hb dX0_deal_191 ?_
                      refine lv_istore (lv' := [(5, .int (z122.1 - (v96 + (1 : Int32)))), (12, .int (1 : Int32)), (11, .int (nI k122)), (10, .int z122.2.1), (9, .int v96), (8, .int v69), (7, .int v62), (6, .int (nI k42)), (0, .ref (ol 0)), (1, .int amount), (2, .int bits), (3, .ref (ol 5)), (4, .ref (ol 6))]) hx hb dX0_deal_192 hl (by decide) rfl (fun ls hl => ?_)
                      refine lv_iload hx hb dX0_deal_194 (lv_at hl 3 rfl) ?_
                      refine lv_iload hx hb dX0_deal_196 (lv_at hl 1 rfl) ?_
                      refine lv_isub hx hb dX0_deal_198 ?_
                      refine lv_istore (lv' := [(10, .int (z122.2.1 - (1 : Int32))), (5, .int (z122.1 - (v96 + (1 : Int32)))), (12, .int (1 : Int32)), (11, .int (nI k122)), (9, .int v96), (8, .int v69), (7, .int v62), (6, .int (nI k42)), (0, .ref (ol 0)), (1, .int amount), (2, .int bits), (3, .ref (ol 5)), (4, .ref (ol 6))]) hx hb dX0_deal_199 hl (by decide) rfl (fun ls hl => ?_)
                      refine lv_iinc (v := nI (k122 + 1)) (lv' := [(11, .int (nI (k122 + 1))), (10, .int (z122.2.1 - (1 : Int32))), (5, .int (z122.1 - (v96 + (1 : Int32)))), (12, .int (1 : Int32)), (9, .int v96), (8, .int v69), (7, .int v62), (6, .int (nI k42)), (0, .ref (ol 0)), (1, .int amount), (2, .int bits), (3, .ref (ol 5)), (4, .ref (ol 6))]) hx hb dX0_deal_201 hl (k := 3) rfl (nI_1 _) (by decide) rfl (fun ls hl => ?_)
                      refine lv_goto (tgt := 122) hx hb dX0_deal_204 (by decide) ?_
                      exact ih122 ((z122.1 - (v96 + (1 : Int32))), (z122.2.1 - (1 : Int32)), upd z122.2.2 k122 ((z122.2.2 k122) + (v96 + (1 : Int32)))) _ _ _ hlt122 (by subst ev117; subst ev96; subst ev69; subst ev62; subst hz3; unfold bd_X0_dealmp_122; rw [if_neg c11, if_neg c12, if_neg c13] <;> rfl) hP hD hS (lv_sub hl [0, 1, 4, 5, 6, 7, 2, 8, 9, 10, 11, 12] rfl)
          · refine lv_goto (tgt := 213) hx hb dX0_deal_76 (by decide) ?_
            exact br42 z42 _ _ _ hlt42 (by subst ev69; subst ev62; subst hz3; unfold bd_X0_dealmp_42; rw [if_neg c3, if_pos c4] <;> rfl) hP hD hS (lv_sub hl [3, 4, 5, 6, 7, 8] rfl)
  · have hlt3 : k3 < n := Nat.lt_of_not_le (fun qq_ => c1 ((le_n (N := n) (k := k3) rfl (by omega) (by omega)).mpr qq_))
    refine lv_iload_n hx hb dX0_deal_15 rfl (lv_at hl 3 rfl) ?_
    refine lv_iload hx hb dX0_deal_16 (lv_at hl 0 rfl) ?_
    refine cRoN mw8_18 mw1_2 mw8_19 hd_X6_has hKX.2.1 hx hb hml hown hG hKX (c_X6_has l D cy bits (nI k3)) ⟨Nat.le_of_ble_eq_true rfl, Nat.le_of_ble_eq_true rfl⟩ ⟨Nat.zero_le _, Nat.zero_le _⟩ (hP.sub [] rfl) rfl hl.1 rfl (Nat.le_of_ble_eq_true rfl) dX0_deal_18 ?_
    refine lv_if_eq (tgt := 30) hx hb dX0_deal_21 (by decide) (fun c14 => ?_) (fun c14 => ?_)
    · refine lv_iinc (v := nI (k3 + 1)) (lv' := [(5, .int (nI (k3 + 1))), (0, .ref (ol 0)), (1, .int amount), (2, .int bits), (3, .ref (ol 5)), (4, .ref (ol 6))]) hx hb dX0_deal_30 hl (k := 0) rfl (nI_1 _) (by decide) rfl (fun ls hl => ?_)
      refine lv_goto (tgt := 3) hx hb dX0_deal_33 (by decide) ?_
      exact ih3 z3 _ _ _ hlt3 (by unfold bd_X0_dealmp_3; rw [if_pos c14] <;> rfl) hP hD hS (lv_sub hl [0, 1, 2, 3, 4, 5] rfl)
    · refine lv_aload hx hb dX0_deal_24 (lv_at hl 5 rfl) ?_
      refine lv_iload hx hb dX0_deal_26 (lv_at hl 0 rfl) ?_
      refine lv_iconst (v := (0 : Int32)) hx hb dX0_deal_28 (by decide) ?_
      refine iast_n hx hb hKX hP hD hS 6 rfl rfl (by omega) (by decide) dX0_deal_29 (fun H locs hP hD hS => ?_)
      have hP : va_P D vwCl ((wX0 cy ol (os 0) ol_reach ol_ringWith ol_rungOf ol_ringOf ol_most (upd z3 k3 (0 : Int32)) ol_back ol_ringFirst ol_ringBits ol_ringRung ol_ringLeft ol_ringPaid ol_rings ol_paidInAll ol_over) ++ (wX3 cy os os_kind os_limit os_retention os_quota os_refers (nI n) os_lossNow)) H := hP
      have hD : va_D A ((wX0 cy ol (os 0) ol_reach ol_ringWith ol_rungOf ol_ringOf ol_most (upd z3 k3 (0 : Int32)) ol_back ol_ringFirst ol_ringBits ol_ringRung ol_ringLeft ol_ringPaid ol_rings ol_paidInAll ol_over) ++ (wX3 cy os os_kind os_limit os_retention os_quota os_refers (nI n) os_lossNow)) := hD
      refine lv_iinc (v := nI (k3 + 1)) (lv' := [(5, .int (nI (k3 + 1))), (0, .ref (ol 0)), (1, .int amount), (2, .int bits), (3, .ref (ol 5)), (4, .ref (ol 6))]) hx hb dX0_deal_30 hl (k := 0) rfl (nI_1 _) (by decide) rfl (fun ls hl => ?_)
      refine lv_goto (tgt := 3) hx hb dX0_deal_33 (by decide) ?_
      exact ih3 (upd z3 k3 (0 : Int32)) _ _ _ hlt3 (by unfold bd_X0_dealmp_3; rw [if_neg c14] <;> rfl) hP hD hS (lv_sub hl [0, 1, 2, 3, 4, 5] rfl)
def bd_X0_openOnespb_6 (ol_paid : Nat → Int32) (ol_back : Nat → Int32) (bits : Int32) (k6 : Nat) (z6 : Int32) : Int32 :=
  if (f_X6_has bits (nI k6)) = (0 : Int32) then z6 else (if (ol_paid k6) ≤ (ol_back k6) then z6 else (z6 ||| ((1 : Int32) <<< (nI k6 &&& 31))))
def f_X0_openOnespb (ol_paid : Nat → Int32) (ol_back : Nat → Int32) (bits : Int32) (n : Nat) : Int32 :=
  (itr (bd_X0_openOnespb_6 ol_paid ol_back bits) n (0 : Int32))
set_option maxHeartbeats 4000000 in
set_option maxRecDepth 100000 in
theorem c_X0_openOnespb (l : Launch) (D : va_G) (cy : Nat → ClassId) (ol : Nat → Nat) (os : Nat → Nat) (ol_reach : Nat → Int32) (ol_ringWith : Nat → Int32) (ol_rungOf : Nat → Int32) (ol_ringOf : Nat → Int32) (ol_most : Nat → Int32) (ol_paid : Nat → Int32) (ol_back : Nat → Int32) (ol_ringFirst : Nat → Int32) (ol_ringBits : Nat → Int32) (ol_ringRung : Nat → Int32) (ol_ringLeft : Nat → Int32) (ol_ringPaid : Nat → Int32) (ol_rings : Int32) (ol_paidInAll : Int32) (ol_over : Int32) (os_kind : Nat → Int32) (os_limit : Nat → Int32) (os_retention : Nat → Int32) (os_quota : Nat → Int32) (os_refers : Nat → Int32) (os_lossNow : Int32) (bits : Int32) (n : Nat) (hn : n ≤ 6) : RoI l D cy yX0_openOnes (.code yX0_openOnes cX0_openOnes 6 (some .int)) 1 ((wX0 cy ol (os 0) ol_reach ol_ringWith ol_rungOf ol_ringOf ol_most ol_paid ol_back ol_ringFirst ol_ringBits ol_ringRung ol_ringLeft ol_ringPaid ol_rings ol_paidInAll ol_over) ++ (wX3 cy os os_kind os_limit os_retention os_quota os_refers (nI n) os_lossNow)) [.ref (ol 0), .int bits, .ref (ol 6), .ref (ol 7)] (f_X0_openOnespb ol_paid ol_back bits n) := by
  refine Met.ofW (cc := cX0_openOnes) (maxL := 6) (ret := (some .int)) (by decide) rfl ?_
  intro pP eE s0 mM args below meth cC s₁ B hml hv
  obtain ⟨rfl, hP, hKX⟩ := hv
  have hx := B.exec
  have hb := B.bytes
  have hr := B.returns
  have hG := gw_hts (atoms_spec (ws := _) B.pre)
  have hown : s0.vm.findClass RX0 = some mM.cls := findClass_of_methodNamed B.named
  have hlocks := B.notSynchronized
  have hl := lv_entry ([.ref (ol 0), .int bits, .ref (ol 6), .ref (ol 7)]) (n := 6) (Nat.le_of_ble_eq_true rfl)
  rw [lg_entry_eq]
  generalize (lg_sl ([.ref (ol 0), .int bits, .ref (ol 6), .ref (ol 7)]) ++ List.replicate (6 - (lg_sl ([.ref (ol 0), .int bits, .ref (ol 6), .ref (ol 7)])).length) Slot.unset).toArray = ls at hl ⊢
  have hl : lv_has ls 6 [(0, .ref (ol 0)), (1, .int bits), (2, .ref (ol 6)), (3, .ref (ol 7))] := hl
  refine lv_iconst (v := (0 : Int32)) hx hb dX0_openOnes_0 (by decide) ?_
  refine lv_istore (lv' := [(4, .int (0 : Int32)), (0, .ref (ol 0)), (1, .int bits), (2, .ref (ol 6)), (3, .ref (ol 7))]) hx hb dX0_openOnes_1 hl (by decide) rfl (fun ls hl => ?_)
  refine lv_iconst (v := (0 : Int32)) hx hb dX0_openOnes_3 (by decide) ?_
  refine lv_istore (lv' := [(5, .int (0 : Int32)), (4, .int (0 : Int32)), (0, .ref (ol 0)), (1, .int bits), (2, .ref (ol 6)), (3, .ref (ol 7))]) hx hb dX0_openOnes_4 hl (by decide) rfl (fun ls hl => ?_)
  refine loopR (bd_X0_openOnespb_6 ol_paid ol_back bits) (0 : Int32) n (fun k6 z6 => [(5, .int (nI k6)), (4, .int z6), (0, .ref (ol 0)), (1, .int bits), (2, .ref (ol 6)), (3, .ref (ol 7))]) (lv_sub hl [0, 1, 2, 3, 4, 5] rfl) (fun k6 z6 ls hk6 hz6 hl ih6 => ?_)
  refine lv_iload hx hb dX0_openOnes_6 (lv_at hl 0 rfl) ?_
  refine lv_aload_n hx hb dX0_openOnes_8 rfl (lv_at hl 2 rfl) ?_
  refine gf_X0_9 hx hb hG hown hKX hP 0 rfl rfl dX0_openOnes_9 ?_
  refine gf_X0_77 hx hb hG hown hKX hP 13 rfl rfl dX0_openOnes_12 ?_
  refine lv_icmp_ge (tgt := 53) hx hb dX0_openOnes_15 (by decide) (fun c1 => ?_) (fun c1 => ?_)
  · have e_k6 : n = k6 := Nat.le_antisymm ((le_n (N := n) (k := k6) rfl (by omega) (by omega)).mp c1) hk6
    subst e_k6
    refine lv_iload hx hb dX0_openOnes_53 (lv_at hl 1 rfl) ?_
    exact W.iret (v := z6) hx hb hr (fun t ht hW => ⟨_, rfl, by subst hz6; unfold f_X0_openOnespb; rfl, ht⟩) (fun q hq => by cases hq) dX0_openOnes_55
  · have hlt6 : k6 < n := Nat.lt_of_not_le (fun qq_ => c1 ((le_n (N := n) (k := k6) rfl (by omega) (by omega)).mpr qq_))
    refine lv_iload_n hx hb dX0_openOnes_18 rfl (lv_at hl 3 rfl) ?_
    refine lv_iload hx hb dX0_openOnes_19 (lv_at hl 0 rfl) ?_
    refine cRoN mw8_18 mw1_2 mw8_19 hd_X6_has hKX.2.1 hx hb hml hown hG hKX (c_X6_has l D cy bits (nI k6)) ⟨Nat.le_of_ble_eq_true rfl, Nat.le_of_ble_eq_true rfl⟩ ⟨Nat.zero_le _, Nat.zero_le _⟩ (hP.sub [] rfl) rfl hl.1 rfl (Nat.le_of_ble_eq_true rfl) dX0_openOnes_21 ?_
    refine lv_if_eq (tgt := 47) hx hb dX0_openOnes_24 (by decide) (fun c2 => ?_) (fun c2 => ?_)
    · refine lv_iinc (v := nI (k6 + 1)) (lv' := [(5, .int (nI (k6 + 1))), (4, .int z6), (0, .ref (ol 0)), (1, .int bits), (2, .ref (ol 6)), (3, .ref (ol 7))]) hx hb dX0_openOnes_47 hl (k := 0) rfl (nI_1 _) (by decide) rfl (fun ls hl => ?_)
      refine lv_goto (tgt := 6) hx hb dX0_openOnes_50 (by decide) ?_
      exact ih6 z6 _ hlt6 (by unfold bd_X0_openOnespb_6; rw [if_pos c2] <;> rfl) (lv_sub hl [0, 1, 2, 3, 4, 5] rfl)
    · refine lv_aload_n hx hb dX0_openOnes_27 rfl (lv_at hl 5 rfl) ?_
      refine lv_iload hx hb dX0_openOnes_28 (lv_at hl 0 rfl) ?_
      refine iald_n hx hb hKX hP 7 rfl rfl (by omega) (by decide) dX0_openOnes_30 ?_
      refine lv_aload_n hx hb dX0_openOnes_31 rfl (lv_at hl 4 rfl) ?_
      refine lv_iload hx hb dX0_openOnes_32 (lv_at hl 0 rfl) ?_
      refine iald_n hx hb hKX hP 6 rfl rfl (by omega) (by decide) dX0_openOnes_34 ?_
      refine lv_icmp_ge (tgt := 47) hx hb dX0_openOnes_35 (by decide) (fun c3 => ?_) (fun c3 => ?_)
      · refine lv_iinc (v := nI (k6 + 1)) (lv' := [(5, .int (nI (k6 + 1))), (4, .int z6), (0, .ref (ol 0)), (1, .int bits), (2, .ref (ol 6)), (3, .ref (ol 7))]) hx hb dX0_openOnes_47 hl (k := 0) rfl (nI_1 _) (by decide) rfl (fun ls hl => ?_)
        refine lv_goto (tgt := 6) hx hb dX0_openOnes_50 (by decide) ?_
        exact ih6 z6 _ hlt6 (by unfold bd_X0_openOnespb_6; rw [if_neg c2, if_pos c3] <;> rfl) (lv_sub hl [0, 1, 2, 3, 4, 5] rfl)
      · refine lv_iload hx hb dX0_openOnes_38 (lv_at hl 1 rfl) ?_
        refine lv_iconst (v := (1 : Int32)) hx hb dX0_openOnes_40 (by decide) ?_
        refine lv_iload hx hb dX0_openOnes_41 (lv_at hl 0 rfl) ?_
        refine lv_ishl hx hb dX0_openOnes_43 ?_
        refine lv_ior hx hb dX0_openOnes_44 ?_
        refine lv_istore (lv' := [(4, .int (z6 ||| ((1 : Int32) <<< (nI k6 &&& 31)))), (5, .int (nI k6)), (0, .ref (ol 0)), (1, .int bits), (2, .ref (ol 6)), (3, .ref (ol 7))]) hx hb dX0_openOnes_45 hl (by decide) rfl (fun ls hl => ?_)
        refine lv_iinc (v := nI (k6 + 1)) (lv' := [(5, .int (nI (k6 + 1))), (4, .int (z6 ||| ((1 : Int32) <<< (nI k6 &&& 31)))), (0, .ref (ol 0)), (1, .int bits), (2, .ref (ol 6)), (3, .ref (ol 7))]) hx hb dX0_openOnes_47 hl (k := 1) rfl (nI_1 _) (by decide) rfl (fun ls hl => ?_)
        refine lv_goto (tgt := 6) hx hb dX0_openOnes_50 (by decide) ?_
        exact ih6 (z6 ||| ((1 : Int32) <<< (nI k6 &&& 31))) _ hlt6 (by unfold bd_X0_openOnespb_6; rw [if_neg c2, if_neg c3] <;> rfl) (lv_sub hl [0, 1, 2, 3, 4, 5] rfl)
def bd_X0_leastRoompb_7 (ol_paid : Nat → Int32) (ol_back : Nat → Int32) (opn : Int32) (k7 : Nat) (z7 : Int32) : Int32 :=
  if (f_X6_has opn (nI k7)) = (0 : Int32) then z7 else (if ((ol_paid k7) - (ol_back k7)) < z7 then ((ol_paid k7) - (ol_back k7)) else z7)
def f_X0_leastRoompb (ol_paid : Nat → Int32) (ol_back : Nat → Int32) (opn : Int32) (n : Nat) : Int32 :=
  (itr (bd_X0_leastRoompb_7 ol_paid ol_back opn) n (2147483647 : Int32))
set_option maxHeartbeats 4000000 in
set_option maxRecDepth 100000 in
theorem c_X0_leastRoompb (l : Launch) (D : va_G) (cy : Nat → ClassId) (ol : Nat → Nat) (os : Nat → Nat) (ol_reach : Nat → Int32) (ol_ringWith : Nat → Int32) (ol_rungOf : Nat → Int32) (ol_ringOf : Nat → Int32) (ol_most : Nat → Int32) (ol_paid : Nat → Int32) (ol_back : Nat → Int32) (ol_ringFirst : Nat → Int32) (ol_ringBits : Nat → Int32) (ol_ringRung : Nat → Int32) (ol_ringLeft : Nat → Int32) (ol_ringPaid : Nat → Int32) (ol_rings : Int32) (ol_paidInAll : Int32) (ol_over : Int32) (os_kind : Nat → Int32) (os_limit : Nat → Int32) (os_retention : Nat → Int32) (os_quota : Nat → Int32) (os_refers : Nat → Int32) (os_lossNow : Int32) (opn : Int32) (n : Nat) (hn : n ≤ 6) : RoI l D cy yX0_leastRoom (.code yX0_leastRoom cX0_leastRoom 6 (some .int)) 1 ((wX0 cy ol (os 0) ol_reach ol_ringWith ol_rungOf ol_ringOf ol_most ol_paid ol_back ol_ringFirst ol_ringBits ol_ringRung ol_ringLeft ol_ringPaid ol_rings ol_paidInAll ol_over) ++ (wX3 cy os os_kind os_limit os_retention os_quota os_refers (nI n) os_lossNow)) [.ref (ol 0), .int opn, .ref (ol 6), .ref (ol 7)] (f_X0_leastRoompb ol_paid ol_back opn n) := by
  refine Met.ofW (cc := cX0_leastRoom) (maxL := 6) (ret := (some .int)) (by decide) rfl ?_
  intro pP eE s0 mM args below meth cC s₁ B hml hv
  obtain ⟨rfl, hP, hKX⟩ := hv
  have hx := B.exec
  have hb := B.bytes
  have hr := B.returns
  have hG := gw_hts (atoms_spec (ws := _) B.pre)
  have hown : s0.vm.findClass RX0 = some mM.cls := findClass_of_methodNamed B.named
  have hlocks := B.notSynchronized
  have hl := lv_entry ([.ref (ol 0), .int opn, .ref (ol 6), .ref (ol 7)]) (n := 6) (Nat.le_of_ble_eq_true rfl)
  rw [lg_entry_eq]
  generalize (lg_sl ([.ref (ol 0), .int opn, .ref (ol 6), .ref (ol 7)]) ++ List.replicate (6 - (lg_sl ([.ref (ol 0), .int opn, .ref (ol 6), .ref (ol 7)])).length) Slot.unset).toArray = ls at hl ⊢
  have hl : lv_has ls 6 [(0, .ref (ol 0)), (1, .int opn), (2, .ref (ol 6)), (3, .ref (ol 7))] := hl
  refine lv_ldc (v := (2147483647 : Int32)) hx hb hown (hG _ mw14_4) dX0_leastRoom_0 ?_
  refine lv_istore (lv' := [(4, .int (2147483647 : Int32)), (0, .ref (ol 0)), (1, .int opn), (2, .ref (ol 6)), (3, .ref (ol 7))]) hx hb dX0_leastRoom_2 hl (by decide) rfl (fun ls hl => ?_)
  refine lv_iconst (v := (0 : Int32)) hx hb dX0_leastRoom_4 (by decide) ?_
  refine lv_istore (lv' := [(5, .int (0 : Int32)), (4, .int (2147483647 : Int32)), (0, .ref (ol 0)), (1, .int opn), (2, .ref (ol 6)), (3, .ref (ol 7))]) hx hb dX0_leastRoom_5 hl (by decide) rfl (fun ls hl => ?_)
  refine loopR (bd_X0_leastRoompb_7 ol_paid ol_back opn) (2147483647 : Int32) n (fun k7 z7 => [(5, .int (nI k7)), (4, .int z7), (0, .ref (ol 0)), (1, .int opn), (2, .ref (ol 6)), (3, .ref (ol 7))]) (lv_sub hl [0, 1, 2, 3, 4, 5] rfl) (fun k7 z7 ls hk7 hz7 hl ih7 => ?_)
  refine lv_iload hx hb dX0_leastRoom_7 (lv_at hl 0 rfl) ?_
  refine lv_aload_n hx hb dX0_leastRoom_9 rfl (lv_at hl 2 rfl) ?_
  refine gf_X0_9 hx hb hG hown hKX hP 0 rfl rfl dX0_leastRoom_10 ?_
  refine gf_X0_77 hx hb hG hown hKX hP 13 rfl rfl dX0_leastRoom_13 ?_
  refine lv_icmp_ge (tgt := 50) hx hb dX0_leastRoom_16 (by decide) (fun c1 => ?_) (fun c1 => ?_)
  · have e_k7 : n = k7 := Nat.le_antisymm ((le_n (N := n) (k := k7) rfl (by omega) (by omega)).mp c1) hk7
    subst e_k7
    refine lv_iload hx hb dX0_leastRoom_50 (lv_at hl 1 rfl) ?_
    exact W.iret (v := z7) hx hb hr (fun t ht hW => ⟨_, rfl, by subst hz7; unfold f_X0_leastRoompb; rfl, ht⟩) (fun q hq => by cases hq) dX0_leastRoom_52
  · have hlt7 : k7 < n := Nat.lt_of_not_le (fun qq_ => c1 ((le_n (N := n) (k := k7) rfl (by omega) (by omega)).mpr qq_))
    refine lv_iload_n hx hb dX0_leastRoom_19 rfl (lv_at hl 3 rfl) ?_
    refine lv_iload hx hb dX0_leastRoom_20 (lv_at hl 0 rfl) ?_
    refine cRoN mw8_18 mw1_2 mw8_19 hd_X6_has hKX.2.1 hx hb hml hown hG hKX (c_X6_has l D cy opn (nI k7)) ⟨Nat.le_of_ble_eq_true rfl, Nat.le_of_ble_eq_true rfl⟩ ⟨Nat.zero_le _, Nat.zero_le _⟩ (hP.sub [] rfl) rfl hl.1 rfl (Nat.le_of_ble_eq_true rfl) dX0_leastRoom_22 ?_
    refine lv_if_eq (tgt := 44) hx hb dX0_leastRoom_25 (by decide) (fun c2 => ?_) (fun c2 => ?_)
    · refine lv_iinc (v := nI (k7 + 1)) (lv' := [(5, .int (nI (k7 + 1))), (4, .int z7), (0, .ref (ol 0)), (1, .int opn), (2, .ref (ol 6)), (3, .ref (ol 7))]) hx hb dX0_leastRoom_44 hl (k := 0) rfl (nI_1 _) (by decide) rfl (fun ls hl => ?_)
      refine lv_goto (tgt := 7) hx hb dX0_leastRoom_47 (by decide) ?_
      exact ih7 z7 _ hlt7 (by unfold bd_X0_leastRoompb_7; rw [if_pos c2] <;> rfl) (lv_sub hl [0, 1, 2, 3, 4, 5] rfl)
    · refine lv_iload hx hb dX0_leastRoom_28 (lv_at hl 1 rfl) ?_
      refine lv_aload_n hx hb dX0_leastRoom_30 rfl (lv_at hl 4 rfl) ?_
      refine lv_iload hx hb dX0_leastRoom_31 (lv_at hl 0 rfl) ?_
      refine iald_n hx hb hKX hP 6 rfl rfl (by omega) (by decide) dX0_leastRoom_33 ?_
      refine lv_aload_n hx hb dX0_leastRoom_34 rfl (lv_at hl 5 rfl) ?_
      refine lv_iload hx hb dX0_leastRoom_35 (lv_at hl 0 rfl) ?_
      refine iald_n hx hb hKX hP 7 rfl rfl (by omega) (by decide) dX0_leastRoom_37 ?_
      refine lv_isub hx hb dX0_leastRoom_38 ?_
      refine va_mmin hx hb (hml.trans hl.1.symm) hown (hG _ mw12_23) (hG _ mw3_16) (hG _ mw3_17) (hG _ mw3_18) (Nat.le_of_ble_eq_true rfl) (Nat.le_of_ble_eq_true rfl) (Nat.zero_le _) (Nat.zero_le _) dX0_leastRoom_39 ?_
      refine lv_istore (lv' := [(4, .int (if ((ol_paid k7) - (ol_back k7)) < z7 then ((ol_paid k7) - (ol_back k7)) else z7)), (5, .int (nI k7)), (0, .ref (ol 0)), (1, .int opn), (2, .ref (ol 6)), (3, .ref (ol 7))]) hx hb dX0_leastRoom_42 hl (by decide) rfl (fun ls hl => ?_)
      refine lv_iinc (v := nI (k7 + 1)) (lv' := [(5, .int (nI (k7 + 1))), (4, .int (if ((ol_paid k7) - (ol_back k7)) < z7 then ((ol_paid k7) - (ol_back k7)) else z7)), (0, .ref (ol 0)), (1, .int opn), (2, .ref (ol 6)), (3, .ref (ol 7))]) hx hb dX0_leastRoom_44 hl (k := 1) rfl (nI_1 _) (by decide) rfl (fun ls hl => ?_)
      refine lv_goto (tgt := 7) hx hb dX0_leastRoom_47 (by decide) ?_
      exact ih7 (if ((ol_paid k7) - (ol_back k7)) < z7 then ((ol_paid k7) - (ol_back k7)) else z7) _ hlt7 (by unfold bd_X0_leastRoompb_7; rw [if_neg c2] <;> rfl) (lv_sub hl [0, 1, 2, 3, 4, 5] rfl)
def bd_X0_dealpb_122 (ol_paid : Nat → Int32) (v62 : Int32) (v96 : Int32) (k122 : Nat) (z122 : Int32 × Int32 × (Nat → Int32)) : Int32 × Int32 × (Nat → Int32) :=
  if (f_X6_has v62 (nI k122)) = (0 : Int32) then z122 else (if z122.2.1 ≤ (0 : Int32) then ((z122.1 - (v96 + (0 : Int32))), (z122.2.1 - (0 : Int32)), upd z122.2.2 k122 ((z122.2.2 k122) + (v96 + (0 : Int32)))) else (if (ol_paid k122) ≤ ((z122.2.2 k122) + v96) then ((z122.1 - (v96 + (0 : Int32))), (z122.2.1 - (0 : Int32)), upd z122.2.2 k122 ((z122.2.2 k122) + (v96 + (0 : Int32)))) else ((z122.1 - (v96 + (1 : Int32))), (z122.2.1 - (1 : Int32)), upd z122.2.2 k122 ((z122.2.2 k122) + (v96 + (1 : Int32))))))
def bd_X0_dealpb_42 (ol_paid : Nat → Int32) (bits : Int32) (n : Nat) (k42 : Nat) (z42 : Int32 × (Nat → Int32)) : (Int32 × (Nat → Int32)) ⊕ (Int32 × (Nat → Int32)) :=
  if z42.1 ≤ (0 : Int32) then (.inr z42) else (if (f_J6_bitCount_0f7a4 (f_X0_openOnespb ol_paid z42.2 bits n)) = (0 : Int32) then (.inr z42) else (if (if (z42.1 / (f_J6_bitCount_0f7a4 (f_X0_openOnespb ol_paid z42.2 bits n))) < (f_X0_leastRoompb ol_paid z42.2 (f_X0_openOnespb ol_paid z42.2 bits n) n) then (z42.1 / (f_J6_bitCount_0f7a4 (f_X0_openOnespb ol_paid z42.2 bits n))) else (f_X0_leastRoompb ol_paid z42.2 (f_X0_openOnespb ol_paid z42.2 bits n) n)) = (z42.1 / (f_J6_bitCount_0f7a4 (f_X0_openOnespb ol_paid z42.2 bits n))) then (.inl ((itr (bd_X0_dealpb_122 ol_paid (f_X0_openOnespb ol_paid z42.2 bits n) (if (z42.1 / (f_J6_bitCount_0f7a4 (f_X0_openOnespb ol_paid z42.2 bits n))) < (f_X0_leastRoompb ol_paid z42.2 (f_X0_openOnespb ol_paid z42.2 bits n) n) then (z42.1 / (f_J6_bitCount_0f7a4 (f_X0_openOnespb ol_paid z42.2 bits n))) else (f_X0_leastRoompb ol_paid z42.2 (f_X0_openOnespb ol_paid z42.2 bits n) n))) n (z42.1, (z42.1 - z42.1 / (f_J6_bitCount_0f7a4 (f_X0_openOnespb ol_paid z42.2 bits n)) * (f_J6_bitCount_0f7a4 (f_X0_openOnespb ol_paid z42.2 bits n))), z42.2)).1, (itr (bd_X0_dealpb_122 ol_paid (f_X0_openOnespb ol_paid z42.2 bits n) (if (z42.1 / (f_J6_bitCount_0f7a4 (f_X0_openOnespb ol_paid z42.2 bits n))) < (f_X0_leastRoompb ol_paid z42.2 (f_X0_openOnespb ol_paid z42.2 bits n) n) then (z42.1 / (f_J6_bitCount_0f7a4 (f_X0_openOnespb ol_paid z42.2 bits n))) else (f_X0_leastRoompb ol_paid z42.2 (f_X0_openOnespb ol_paid z42.2 bits n) n))) n (z42.1, (z42.1 - z42.1 / (f_J6_bitCount_0f7a4 (f_X0_openOnespb ol_paid z42.2 bits n)) * (f_J6_bitCount_0f7a4 (f_X0_openOnespb ol_paid z42.2 bits n))), z42.2)).2.2)) else (.inl ((itr (bd_X0_dealpb_122 ol_paid (f_X0_openOnespb ol_paid z42.2 bits n) (if (z42.1 / (f_J6_bitCount_0f7a4 (f_X0_openOnespb ol_paid z42.2 bits n))) < (f_X0_leastRoompb ol_paid z42.2 (f_X0_openOnespb ol_paid z42.2 bits n) n) then (z42.1 / (f_J6_bitCount_0f7a4 (f_X0_openOnespb ol_paid z42.2 bits n))) else (f_X0_leastRoompb ol_paid z42.2 (f_X0_openOnespb ol_paid z42.2 bits n) n))) n (z42.1, (0 : Int32), z42.2)).1, (itr (bd_X0_dealpb_122 ol_paid (f_X0_openOnespb ol_paid z42.2 bits n) (if (z42.1 / (f_J6_bitCount_0f7a4 (f_X0_openOnespb ol_paid z42.2 bits n))) < (f_X0_leastRoompb ol_paid z42.2 (f_X0_openOnespb ol_paid z42.2 bits n) n) then (z42.1 / (f_J6_bitCount_0f7a4 (f_X0_openOnespb ol_paid z42.2 bits n))) else (f_X0_leastRoompb ol_paid z42.2 (f_X0_openOnespb ol_paid z42.2 bits n) n))) n (z42.1, (0 : Int32), z42.2)).2.2))))
def bd_X0_dealpb_3 (bits : Int32) (k3 : Nat) (z3 : (Nat → Int32)) : (Nat → Int32) :=
  if (f_X6_has bits (nI k3)) = (0 : Int32) then z3 else (upd z3 k3 (0 : Int32))
def f_X0_dealpb (ol_paid : Nat → Int32) (ol_back : Nat → Int32) (amount : Int32) (bits : Int32) (n : Nat) : Int32 × (Nat → Int32) :=
  ((amount - (mrg (itE (bd_X0_dealpb_42 ol_paid bits n) 6 (amount, (itr (bd_X0_dealpb_3 bits) n ol_back)))).1), (mrg (itE (bd_X0_dealpb_42 ol_paid bits n) 6 (amount, (itr (bd_X0_dealpb_3 bits) n ol_back)))).2)
set_option maxHeartbeats 4000000 in
set_option maxRecDepth 100000 in
theorem c_X0_dealpb (l : Launch) (D : va_G) (cy : Nat → ClassId) (ol : Nat → Nat) (os : Nat → Nat) (ol_reach : Nat → Int32) (ol_ringWith : Nat → Int32) (ol_rungOf : Nat → Int32) (ol_ringOf : Nat → Int32) (ol_most : Nat → Int32) (ol_paid : Nat → Int32) (ol_back : Nat → Int32) (ol_ringFirst : Nat → Int32) (ol_ringBits : Nat → Int32) (ol_ringRung : Nat → Int32) (ol_ringLeft : Nat → Int32) (ol_ringPaid : Nat → Int32) (ol_rings : Int32) (ol_paidInAll : Int32) (ol_over : Int32) (os_kind : Nat → Int32) (os_limit : Nat → Int32) (os_retention : Nat → Int32) (os_quota : Nat → Int32) (os_refers : Nat → Int32) (os_lossNow : Int32) (amount : Int32) (bits : Int32) (n : Nat) (hn : n ≤ 6) : RwI (S := (Nat → Int32)) l D cy yX0_deal (.code yX0_deal cX0_deal 13 (some .int)) 2 ((wX0 cy ol (os 0) ol_reach ol_ringWith ol_rungOf ol_ringOf ol_most ol_paid ol_back ol_ringFirst ol_ringBits ol_ringRung ol_ringLeft ol_ringPaid ol_rings ol_paidInAll ol_over) ++ (wX3 cy os os_kind os_limit os_retention os_quota os_refers (nI n) os_lossNow)) [.ref (ol 0), .int amount, .int bits, .ref (ol 6), .ref (ol 7)] (fun rr u => (rr, u) = f_X0_dealpb ol_paid ol_back amount bits n) (fun u => (wX0 cy ol (os 0) ol_reach ol_ringWith ol_rungOf ol_ringOf ol_most ol_paid u ol_ringFirst ol_ringBits ol_ringRung ol_ringLeft ol_ringPaid ol_rings ol_paidInAll ol_over) ++ (wX3 cy os os_kind os_limit os_retention os_quota os_refers (nI n) os_lossNow)) := by
  intro sz
  refine Met.ofW (cc := cX0_deal) (maxL := 13) (ret := (some .int)) (by decide) rfl ?_
  intro pP eE s0 mM args below meth cC s₁ B hml hv
  obtain ⟨rfl, hsz, hP, hKX, hD0⟩ := hv
  have hx := B.exec
  have hb := B.bytes
  have hr := B.returns
  have hG := gw_hts (atoms_spec (ws := _) B.pre)
  have hown : s0.vm.findClass RX0 = some mM.cls := findClass_of_methodNamed B.named
  have hlocks := B.notSynchronized
  subst hsz
  have hD := hD0.self (sz := s0.heap.size)
  generalize hAe : va_A ((wX0 cy ol (os 0) ol_reach ol_ringWith ol_rungOf ol_ringOf ol_most ol_paid ol_back ol_ringFirst ol_ringBits ol_ringRung ol_ringLeft ol_ringPaid ol_rings ol_paidInAll ol_over) ++ (wX3 cy os os_kind os_limit os_retention os_quota os_refers (nI n) os_lossNow)) s0.heap.size = A at hD ⊢
  have hA : ∀ q : Nat, s0.heap.size ≤ q → A q := fun q h => by rw [← hAe]; exact Or.inr h
  have hS : va_S A s0.heap s0.heap [] := va_S.rf
  have hl := lv_entry ([.ref (ol 0), .int amount, .int bits, .ref (ol 6), .ref (ol 7)]) (n := 13) (Nat.le_of_ble_eq_true rfl)
  rw [lg_entry_eq]
  generalize (lg_sl ([.ref (ol 0), .int amount, .int bits, .ref (ol 6), .ref (ol 7)]) ++ List.replicate (13 - (lg_sl ([.ref (ol 0), .int amount, .int bits, .ref (ol 6), .ref (ol 7)])).length) Slot.unset).toArray = ls at hl ⊢
  have hl : lv_has ls 13 [(0, .ref (ol 0)), (1, .int amount), (2, .int bits), (3, .ref (ol 6)), (4, .ref (ol 7))] := hl
  refine lv_iconst (v := (0 : Int32)) hx hb dX0_deal_0 (by decide) ?_
  refine lv_istore (lv' := [(5, .int (0 : Int32)), (0, .ref (ol 0)), (1, .int amount), (2, .int bits), (3, .ref (ol 6)), (4, .ref (ol 7))]) hx hb dX0_deal_1 hl (by decide) rfl (fun ls hl => ?_)
  refine loopW (bd_X0_dealpb_3 bits) ol_back n (fun k3 z3 => [(5, .int (nI k3)), (0, .ref (ol 0)), (1, .int amount), (2, .int bits), (3, .ref (ol 6)), (4, .ref (ol 7))]) (fun k3 z3 => (wX0 cy ol (os 0) ol_reach ol_ringWith ol_rungOf ol_ringOf ol_most ol_paid z3 ol_ringFirst ol_ringBits ol_ringRung ol_ringLeft ol_ringPaid ol_rings ol_paidInAll ol_over) ++ (wX3 cy os os_kind os_limit os_retention os_quota os_refers (nI n) os_lossNow)) hP hD hS (lv_sub hl [0, 1, 2, 3, 4, 5] rfl) (fun k3 z3 H locs ls hk3 hz3 hP hD hS hl ih3 => ?_)
  refine lv_iload hx hb dX0_deal_3 (lv_at hl 0 rfl) ?_
  refine lv_aload_n hx hb dX0_deal_5 rfl (lv_at hl 1 rfl) ?_
  refine gf_X0_9 hx hb hG hown hKX hP 0 rfl rfl dX0_deal_6 ?_
  refine gf_X0_77 hx hb hG hown hKX hP 13 rfl rfl dX0_deal_9 ?_
  refine lv_icmp_ge (tgt := 36) hx hb dX0_deal_12 (by decide) (fun c1 => ?_) (fun c1 => ?_)
  · have e_k3 : n = k3 := Nat.le_antisymm ((le_n (N := n) (k := k3) rfl (by omega) (by omega)).mp c1) hk3
    subst e_k3
    refine lv_iload_n hx hb dX0_deal_36 rfl (lv_at hl 2 rfl) ?_
    refine lv_istore (lv' := [(5, .int amount), (0, .ref (ol 0)), (1, .int amount), (2, .int bits), (3, .ref (ol 6)), (4, .ref (ol 7))]) hx hb dX0_deal_37 hl (by decide) rfl (fun ls hl => ?_)
    refine lv_iconst (v := (0 : Int32)) hx hb dX0_deal_39 (by decide) ?_
    refine lv_istore (lv' := [(6, .int (0 : Int32)), (5, .int amount), (0, .ref (ol 0)), (1, .int amount), (2, .int bits), (3, .ref (ol 6)), (4, .ref (ol 7))]) hx hb dX0_deal_40 hl (by decide) rfl (fun ls hl => ?_)
    refine loopB (pcX := 213) (bd_X0_dealpb_42 ol_paid bits n) (amount, z3) 6 (fun k42 z42 => [(6, .int (nI k42)), (5, .int z42.1), (0, .ref (ol 0)), (1, .int amount), (2, .int bits), (3, .ref (ol 6)), (4, .ref (ol 7))]) (fun z42 => (wX0 cy ol (os 0) ol_reach ol_ringWith ol_rungOf ol_ringOf ol_most ol_paid z42.2 ol_ringFirst ol_ringBits ol_ringRung ol_ringLeft ol_ringPaid ol_rings ol_paidInAll ol_over) ++ (wX3 cy os os_kind os_limit os_retention os_quota os_refers (nI n) os_lossNow)) (fun z42 => [(5, .int z42.1), (0, .ref (ol 0)), (1, .int amount), (2, .int bits), (3, .ref (ol 6)), (4, .ref (ol 7))]) hP hD hS (lv_sub hl [0, 1, 2, 3, 4, 5, 6] rfl) (fun zx42 H locs ls hzx42 hP hD hS hl => ?_) (fun k42 z42 H locs ls hk42 hz42 hP hD hS hl ih42 br42 fin42 => ?_)
    · refine lv_iload_n hx hb dX0_deal_213 rfl (lv_at hl 2 rfl) ?_
      refine lv_iload hx hb dX0_deal_214 (lv_at hl 0 rfl) ?_
      refine lv_isub hx hb dX0_deal_216 ?_
      exact W.iret (v := (amount - zx42.1)) hx hb hr (fun t ht hW => ⟨⟨(amount - zx42.1), zx42.2, rfl, by subst hzx42; subst hz3; unfold f_X0_dealpb; rfl, by rw [ht]; exact hP, hD⟩, hS.F ht⟩) hS.2.2 dX0_deal_217
    · refine lv_iload hx hb dX0_deal_42 (lv_at hl 0 rfl) ?_
      refine lv_bipush (v := (6 : Int32)) hx hb dX0_deal_44 (by decide) ?_
      refine lv_icmp_ge (tgt := 213) hx hb dX0_deal_46 (by decide) (fun c2 => ?_) (fun c2 => ?_)
      · have e_k42 : 6 = k42 := Nat.le_antisymm ((le_n (N := 6) (k := k42) rfl (by omega) (by omega)).mp c2) hk42
        exact fin42 _ _ _ e_k42 hP hD hS (lv_sub hl [1, 2, 3, 4, 5, 6] rfl)
      · have hlt42 : k42 < 6 := Nat.lt_of_not_le (fun qq_ => c2 ((le_n (N := 6) (k := k42) rfl (by omega) (by omega)).mpr qq_))
        refine lv_iload hx hb dX0_deal_49 (lv_at hl 1 rfl) ?_
        refine lv_if_le (tgt := 213) hx hb dX0_deal_51 (by decide) (fun c3 => ?_) (fun c3 => ?_)
        · exact br42 z42 _ _ _ hlt42 (by subst hz3; unfold bd_X0_dealpb_42; rw [if_pos c3] <;> rfl) hP hD hS (lv_sub hl [1, 2, 3, 4, 5, 6] rfl)
        · refine lv_aload_n hx hb dX0_deal_54 rfl (lv_at hl 2 rfl) ?_
          refine lv_iload_n hx hb dX0_deal_55 rfl (lv_at hl 4 rfl) ?_
          refine lv_aload_n hx hb dX0_deal_56 rfl (lv_at hl 5 rfl) ?_
          refine lv_aload hx hb dX0_deal_57 (lv_at hl 6 rfl) ?_
          refine cRoV (q0 := 0) (ci := 0) mw13_13 mw13_14 mw13_15 mw1_21 mw13_16 rfl rfl hd_X0_openOnes hx hb hml hown hG hKX (c_X0_openOnespb l D cy ol os ol_reach ol_ringWith ol_rungOf ol_ringOf ol_most ol_paid z42.2 ol_ringFirst ol_ringBits ol_ringRung ol_ringLeft ol_ringPaid ol_rings ol_paidInAll ol_over os_kind os_limit os_retention os_quota os_refers os_lossNow bits n hn) ⟨Nat.le_of_ble_eq_true rfl, Nat.le_of_ble_eq_true rfl⟩ ⟨Nat.zero_le _, Nat.zero_le _⟩ hP rfl rfl hl.1 rfl (Nat.le_of_ble_eq_true rfl) dX0_deal_59 ?_
          refine lv_topi (fun v62 ev62 => ?_)
          refine lv_istore (lv' := [(7, .int v62), (6, .int (nI k42)), (5, .int z42.1), (0, .ref (ol 0)), (1, .int amount), (2, .int bits), (3, .ref (ol 6)), (4, .ref (ol 7))]) hx hb dX0_deal_62 hl (by decide) rfl (fun ls hl => ?_)
          refine lv_iload hx hb dX0_deal_64 (lv_at hl 0 rfl) ?_
          refine cRoS mw13_17 mw13_18 mw13_19 mw13_20 hd_J6_bitCount_0f7a4 hx hb hml hown hG hKX (c_J6_bitCount_0f7a4 l D cy v62) ⟨Nat.le_of_ble_eq_true rfl, Nat.le_of_ble_eq_true rfl⟩ ⟨Nat.zero_le _, Nat.zero_le _⟩ (hP.sub [] rfl) rfl hl.1 rfl (Nat.le_of_ble_eq_true rfl) dX0_deal_66 ?_
          refine lv_topi (fun v69 ev69 => ?_)
          refine lv_istore (lv' := [(8, .int v69), (7, .int v62), (6, .int (nI k42)), (5, .int z42.1), (0, .ref (ol 0)), (1, .int amount), (2, .int bits), (3, .ref (ol 6)), (4, .ref (ol 7))]) hx hb dX0_deal_69 hl (by decide) rfl (fun ls hl => ?_)
          refine lv_iload hx hb dX0_deal_71 (lv_at hl 0 rfl) ?_
          refine lv_if_ne (tgt := 79) hx hb dX0_deal_73 (by decide) (fun c4 => ?_) (fun c4 => ?_)
          · refine lv_aload_n hx hb dX0_deal_79 rfl (lv_at hl 4 rfl) ?_
            refine lv_iload hx hb dX0_deal_80 (lv_at hl 1 rfl) ?_
            refine lv_aload_n hx hb dX0_deal_82 rfl (lv_at hl 7 rfl) ?_
            refine lv_aload hx hb dX0_deal_83 (lv_at hl 8 rfl) ?_
            refine cRoV (q0 := 0) (ci := 0) mw14_0 mw14_1 mw14_2 mw1_21 mw14_3 rfl rfl hd_X0_leastRoom hx hb hml hown hG hKX (c_X0_leastRoompb l D cy ol os ol_reach ol_ringWith ol_rungOf ol_ringOf ol_most ol_paid z42.2 ol_ringFirst ol_ringBits ol_ringRung ol_ringLeft ol_ringPaid ol_rings ol_paidInAll ol_over os_kind os_limit os_retention os_quota os_refers os_lossNow v62 n hn) ⟨Nat.le_of_ble_eq_true rfl, Nat.le_of_ble_eq_true rfl⟩ ⟨Nat.zero_le _, Nat.zero_le _⟩ hP rfl rfl hl.1 rfl (Nat.le_of_ble_eq_true rfl) dX0_deal_85 ?_
            refine lv_iload hx hb dX0_deal_88 (lv_at hl 3 rfl) ?_
            refine lv_iload hx hb dX0_deal_90 (lv_at hl 0 rfl) ?_
            refine lv_idiv hx hb dX0_deal_92 c4 ?_
            refine va_mmin hx hb (hml.trans hl.1.symm) hown (hG _ mw12_23) (hG _ mw3_16) (hG _ mw3_17) (hG _ mw3_18) (Nat.le_of_ble_eq_true rfl) (Nat.le_of_ble_eq_true rfl) (Nat.zero_le _) (Nat.zero_le _) dX0_deal_93 ?_
            refine lv_topi (fun v96 ev96 => ?_)
            refine lv_istore (lv' := [(9, .int v96), (8, .int v69), (7, .int v62), (6, .int (nI k42)), (5, .int z42.1), (0, .ref (ol 0)), (1, .int amount), (2, .int bits), (3, .ref (ol 6)), (4, .ref (ol 7))]) hx hb dX0_deal_96 hl (by decide) rfl (fun ls hl => ?_)
            refine lv_iload hx hb dX0_deal_98 (lv_at hl 0 rfl) ?_
            refine lv_iload hx hb dX0_deal_100 (lv_at hl 4 rfl) ?_
            refine lv_iload hx hb dX0_deal_102 (lv_at hl 1 rfl) ?_
            refine lv_idiv hx hb dX0_deal_104 c4 ?_
            refine lv_icmp_ne (tgt := 116) hx hb dX0_deal_105 (by decide) (fun c5 => ?_) (fun c5 => ?_)
            · refine lv_iconst (v := (0 : Int32)) hx hb dX0_deal_116 (by decide) ?_
              refine lv_topi (fun v117 ev117 => ?_)
              refine lv_istore (lv' := [(10, .int v117), (9, .int v96), (8, .int v69), (7, .int v62), (6, .int (nI k42)), (5, .int z42.1), (0, .ref (ol 0)), (1, .int amount), (2, .int bits), (3, .ref (ol 6)), (4, .ref (ol 7))]) hx hb dX0_deal_117 hl (by decide) rfl (fun ls hl => ?_)
              refine lv_iconst (v := (0 : Int32)) hx hb dX0_deal_119 (by decide) ?_
              refine lv_istore (lv' := [(11, .int (0 : Int32)), (10, .int v117), (9, .int v96), (8, .int v69), (7, .int v62), (6, .int (nI k42)), (5, .int z42.1), (0, .ref (ol 0)), (1, .int amount), (2, .int bits), (3, .ref (ol 6)), (4, .ref (ol 7))]) hx hb dX0_deal_120 hl (by decide) rfl (fun ls hl => ?_)
              refine loopW (bd_X0_dealpb_122 ol_paid v62 v96) (z42.1, v117, z42.2) n (fun k122 z122 => [(11, .int (nI k122)), (10, .int z122.2.1), (9, .int v96), (8, .int v69), (7, .int v62), (6, .int (nI k42)), (5, .int z122.1), (0, .ref (ol 0)), (1, .int amount), (2, .int bits), (3, .ref (ol 6)), (4, .ref (ol 7))]) (fun k122 z122 => (wX0 cy ol (os 0) ol_reach ol_ringWith ol_rungOf ol_ringOf ol_most ol_paid z122.2.2 ol_ringFirst ol_ringBits ol_ringRung ol_ringLeft ol_ringPaid ol_rings ol_paidInAll ol_over) ++ (wX3 cy os os_kind os_limit os_retention os_quota os_refers (nI n) os_lossNow)) hP hD hS (lv_sub hl [0, 1, 2, 3, 4, 5, 6, 7, 8, 9, 10, 11] rfl) (fun k122 z122 H locs ls hk122 hz122 hP hD hS hl ih122 => ?_)
              refine lv_iload hx hb dX0_deal_122 (lv_at hl 0 rfl) ?_
              refine lv_aload_n hx hb dX0_deal_124 rfl (lv_at hl 7 rfl) ?_
              refine gf_X0_9 hx hb hG hown hKX hP 0 rfl rfl dX0_deal_125 ?_
              refine gf_X0_77 hx hb hG hown hKX hP 13 rfl rfl dX0_deal_128 ?_
              refine lv_icmp_ge (tgt := 207) hx hb dX0_deal_131 (by decide) (fun c6 => ?_) (fun c6 => ?_)
              · have e_k122 : n = k122 := Nat.le_antisymm ((le_n (N := n) (k := k122) rfl (by omega) (by omega)).mp c6) hk122
                subst e_k122
                refine lv_iinc (v := nI (k42 + 1)) (lv' := [(6, .int (nI (k42 + 1))), (11, .int (nI n)), (10, .int z122.2.1), (9, .int v96), (8, .int v69), (7, .int v62), (5, .int z122.1), (0, .ref (ol 0)), (1, .int amount), (2, .int bits), (3, .ref (ol 6)), (4, .ref (ol 7))]) hx hb dX0_deal_207 hl (k := 5) rfl (nI_1 _) (by decide) rfl (fun ls hl => ?_)
                refine lv_goto (tgt := 42) hx hb dX0_deal_210 (by decide) ?_
                exact ih42 (z122.1, z122.2.2) _ _ _ hlt42 (by subst hz122; subst ev117; subst ev96; subst ev69; subst ev62; subst hz3; unfold bd_X0_dealpb_42; rw [if_neg c3, if_neg c4, if_neg c5] <;> rfl) hP hD hS (lv_sub hl [0, 6, 7, 8, 9, 10, 11] rfl)
              · have hlt122 : k122 < n := Nat.lt_of_not_le (fun qq_ => c6 ((le_n (N := n) (k := k122) rfl (by omega) (by omega)).mpr qq_))
                refine lv_iload hx hb dX0_deal_134 (lv_at hl 4 rfl) ?_
                refine lv_iload hx hb dX0_deal_136 (lv_at hl 0 rfl) ?_
                refine cRoN mw8_18 mw1_2 mw8_19 hd_X6_has hKX.2.1 hx hb hml hown hG hKX (c_X6_has l D cy v62 (nI k122)) ⟨Nat.le_of_ble_eq_true rfl, Nat.le_of_ble_eq_true rfl⟩ ⟨Nat.zero_le _, Nat.zero_le _⟩ (hP.sub [] rfl) rfl hl.1 rfl (Nat.le_of_ble_eq_true rfl) dX0_deal_138 ?_
                refine lv_if_eq (tgt := 201) hx hb dX0_deal_141 (by decide) (fun c7 => ?_) (fun c7 => ?_)
                · refine lv_iinc (v := nI (k122 + 1)) (lv' := [(11, .int (nI (k122 + 1))), (10, .int z122.2.1), (9, .int v96), (8, .int v69), (7, .int v62), (6, .int (nI k42)), (5, .int z122.1), (0, .ref (ol 0)), (1, .int amount), (2, .int bits), (3, .ref (ol 6)), (4, .ref (ol 7))]) hx hb dX0_deal_201 hl (k := 0) rfl (nI_1 _) (by decide) rfl (fun ls hl => ?_)
                  refine lv_goto (tgt := 122) hx hb dX0_deal_204 (by decide) ?_
                  exact ih122 z122 _ _ _ hlt122 (by subst ev117; subst ev96; subst ev69; subst ev62; subst hz3; unfold bd_X0_dealpb_122; rw [if_pos c7] <;> rfl) hP hD hS (lv_sub hl [0, 1, 2, 3, 4, 5, 6, 7, 8, 9, 10, 11] rfl)
                · refine lv_iload hx hb dX0_deal_144 (lv_at hl 1 rfl) ?_
                  refine lv_if_le (tgt := 168) hx hb dX0_deal_146 (by decide) (fun c8 => ?_) (fun c8 => ?_)
                  · refine lv_iconst (v := (0 : Int32)) hx hb dX0_deal_168 (by decide) ?_
                    refine lv_istore (lv' := [(12, .int (0 : Int32)), (11, .int (nI k122)), (10, .int z122.2.1), (9, .int v96), (8, .int v69), (7, .int v62), (6, .int (nI k42)), (5, .int z122.1), (0, .ref (ol 0)), (1, .int amount), (2, .int bits), (3, .ref (ol 6)), (4, .ref (ol 7))]) hx hb dX0_deal_169 hl (by decide) rfl (fun ls hl => ?_)
                    refine lv_aload hx hb dX0_deal_171 (lv_at hl 12 rfl) ?_
                    refine lv_iload hx hb dX0_deal_173 (lv_at hl 1 rfl) ?_
                    refine lv_dup2_11 hx hb dX0_deal_175 rfl rfl ?_
                    refine iald_n hx hb hKX hP 7 rfl rfl (by omega) (by decide) dX0_deal_176 ?_
                    refine lv_iload hx hb dX0_deal_177 (lv_at hl 3 rfl) ?_
                    refine lv_iload hx hb dX0_deal_179 (lv_at hl 0 rfl) ?_
                    refine lv_iadd hx hb dX0_deal_181 ?_
                    refine lv_iadd hx hb dX0_deal_182 ?_
                    refine iast_n hx hb hKX hP hD hS 7 rfl rfl (by omega) (by decide) dX0_deal_183 (fun H locs hP hD hS => ?_)
                    have hP : va_P D vwCl ((wX0 cy ol (os 0) ol_reach ol_ringWith ol_rungOf ol_ringOf ol_most ol_paid (upd z122.2.2 k122 ((z122.2.2 k122) + (v96 + (0 : Int32)))) ol_ringFirst ol_ringBits ol_ringRung ol_ringLeft ol_ringPaid ol_rings ol_paidInAll ol_over) ++ (wX3 cy os os_kind os_limit os_retention os_quota os_refers (nI n) os_lossNow)) H := hP
                    have hD : va_D A ((wX0 cy ol (os 0) ol_reach ol_ringWith ol_rungOf ol_ringOf ol_most ol_paid (upd z122.2.2 k122 ((z122.2.2 k122) + (v96 + (0 : Int32)))) ol_ringFirst ol_ringBits ol_ringRung ol_ringLeft ol_ringPaid ol_rings ol_paidInAll ol_over) ++ (wX3 cy os os_kind os_limit os_retention os_quota os_refers (nI n) os_lossNow)) := hD
                    refine lv_iload hx hb dX0_deal_184 (lv_at hl 7 rfl) ?_
                    refine lv_iload hx hb dX0_deal_186 (lv_at hl 3 rfl) ?_
                    refine lv_iload hx hb dX0_deal_188 (lv_at hl 0 rfl) ?_
                    refine lv_iadd hx hb dX0_deal_190 ?_
                    refine lv_isub hx hb dX0_deal_191 ?_
                    refine lv_istore (lv' := [(5, .int (z122.1 - (v96 + (0 : Int32)))), (12, .int (0 : Int32)), (11, .int (nI k122)), (10, .int z122.2.1), (9, .int v96), (8, .int v69), (7, .int v62), (6, .int (nI k42)), (0, .ref (ol 0)), (1, .int amount), (2, .int bits), (3, .ref (ol 6)), (4, .ref (ol 7))]) hx hb dX0_deal_192 hl (by decide) rfl (fun ls hl => ?_)
                    refine lv_iload hx hb dX0_deal_194 (lv_at hl 3 rfl) ?_
                    refine lv_iload hx hb dX0_deal_196 (lv_at hl 1 rfl) ?_
                    refine lv_isub hx hb dX0_deal_198 ?_
                    refine lv_istore (lv' := [(10, .int (z122.2.1 - (0 : Int32))), (5, .int (z122.1 - (v96 + (0 : Int32)))), (12, .int (0 : Int32)), (11, .int (nI k122)), (9, .int v96), (8, .int v69), (7, .int v62), (6, .int (nI k42)), (0, .ref (ol 0)), (1, .int amount), (2, .int bits), (3, .ref (ol 6)), (4, .ref (ol 7))]) hx hb dX0_deal_199 hl (by decide) rfl (fun ls hl => ?_)
                    refine lv_iinc (v := nI (k122 + 1)) (lv' := [(11, .int (nI (k122 + 1))), (10, .int (z122.2.1 - (0 : Int32))), (5, .int (z122.1 - (v96 + (0 : Int32)))), (12, .int (0 : Int32)), (9, .int v96), (8, .int v69), (7, .int v62), (6, .int (nI k42)), (0, .ref (ol 0)), (1, .int amount), (2, .int bits), (3, .ref (ol 6)), (4, .ref (ol 7))]) hx hb dX0_deal_201 hl (k := 3) rfl (nI_1 _) (by decide) rfl (fun ls hl => ?_)
                    refine lv_goto (tgt := 122) hx hb dX0_deal_204 (by decide) ?_
                    exact ih122 ((z122.1 - (v96 + (0 : Int32))), (z122.2.1 - (0 : Int32)), upd z122.2.2 k122 ((z122.2.2 k122) + (v96 + (0 : Int32)))) _ _ _ hlt122 (by subst ev117; subst ev96; subst ev69; subst ev62; subst hz3; unfold bd_X0_dealpb_122; rw [if_neg c7, if_pos c8] <;> rfl) hP hD hS (lv_sub hl [0, 1, 4, 5, 6, 7, 2, 8, 9, 10, 11, 12] rfl)
                  · refine lv_aload hx hb dX0_deal_149 (lv_at hl 11 rfl) ?_
                    refine lv_iload hx hb dX0_deal_151 (lv_at hl 0 rfl) ?_
                    refine iald_n hx hb hKX hP 7 rfl rfl (by omega) (by decide) dX0_deal_153 ?_
                    refine lv_iload hx hb dX0_deal_154 (lv_at hl 2 rfl) ?_
                    refine lv_iadd hx hb dX0_deal_156 ?_
                    refine lv_aload_n hx hb dX0_deal_157 rfl (lv_at hl 10 rfl) ?_
                    refine lv_iload hx hb dX0_deal_158 (lv_at hl 0 rfl) ?_
                    refine iald_n hx hb hKX hP 6 rfl rfl (by omega) (by decide) dX0_deal_160 ?_
                    refine lv_icmp_ge (tgt := 168) hx hb dX0_deal_161 (by decide) (fun c9 => ?_) (fun c9 => ?_)
                    · refine lv_iconst (v := (0 : Int32)) hx hb dX0_deal_168 (by decide) ?_
                      refine lv_istore (lv' := [(12, .int (0 : Int32)), (11, .int (nI k122)), (10, .int z122.2.1), (9, .int v96), (8, .int v69), (7, .int v62), (6, .int (nI k42)), (5, .int z122.1), (0, .ref (ol 0)), (1, .int amount), (2, .int bits), (3, .ref (ol 6)), (4, .ref (ol 7))]) hx hb dX0_deal_169 hl (by decide) rfl (fun ls hl => ?_)
                      refine lv_aload hx hb dX0_deal_171 (lv_at hl 12 rfl) ?_
                      refine lv_iload hx hb dX0_deal_173 (lv_at hl 1 rfl) ?_
                      refine lv_dup2_11 hx hb dX0_deal_175 rfl rfl ?_
                      refine iald_n hx hb hKX hP 7 rfl rfl (by omega) (by decide) dX0_deal_176 ?_
                      refine lv_iload hx hb dX0_deal_177 (lv_at hl 3 rfl) ?_
                      refine lv_iload hx hb dX0_deal_179 (lv_at hl 0 rfl) ?_
                      refine lv_iadd hx hb dX0_deal_181 ?_
                      refine lv_iadd hx hb dX0_deal_182 ?_
                      refine iast_n hx hb hKX hP hD hS 7 rfl rfl (by omega) (by decide) dX0_deal_183 (fun H locs hP hD hS => ?_)
                      have hP : va_P D vwCl ((wX0 cy ol (os 0) ol_reach ol_ringWith ol_rungOf ol_ringOf ol_most ol_paid (upd z122.2.2 k122 ((z122.2.2 k122) + (v96 + (0 : Int32)))) ol_ringFirst ol_ringBits ol_ringRung ol_ringLeft ol_ringPaid ol_rings ol_paidInAll ol_over) ++ (wX3 cy os os_kind os_limit os_retention os_quota os_refers (nI n) os_lossNow)) H := hP
                      have hD : va_D A ((wX0 cy ol (os 0) ol_reach ol_ringWith ol_rungOf ol_ringOf ol_most ol_paid (upd z122.2.2 k122 ((z122.2.2 k122) + (v96 + (0 : Int32)))) ol_ringFirst ol_ringBits ol_ringRung ol_ringLeft ol_ringPaid ol_rings ol_paidInAll ol_over) ++ (wX3 cy os os_kind os_limit os_retention os_quota os_refers (nI n) os_lossNow)) := hD
                      refine lv_iload hx hb dX0_deal_184 (lv_at hl 7 rfl) ?_
                      refine lv_iload hx hb dX0_deal_186 (lv_at hl 3 rfl) ?_
                      refine lv_iload hx hb dX0_deal_188 (lv_at hl 0 rfl) ?_
                      refine lv_iadd hx hb dX0_deal_190 ?_
                      refine lv_isub hx hb dX0_deal_191 ?_
                      refine lv_istore (lv' := [(5, .int (z122.1 - (v96 + (0 : Int32)))), (12, .int (0 : Int32)), (11, .int (nI k122)), (10, .int z122.2.1), (9, .int v96), (8, .int v69), (7, .int v62), (6, .int (nI k42)), (0, .ref (ol 0)), (1, .int amount), (2, .int bits), (3, .ref (ol 6)), (4, .ref (ol 7))]) hx hb dX0_deal_192 hl (by decide) rfl (fun ls hl => ?_)
                      refine lv_iload hx hb dX0_deal_194 (lv_at hl 3 rfl) ?_
                      refine lv_iload hx hb dX0_deal_196 (lv_at hl 1 rfl) ?_
                      refine lv_isub hx hb dX0_deal_198 ?_
                      refine lv_istore (lv' := [(10, .int (z122.2.1 - (0 : Int32))), (5, .int (z122.1 - (v96 + (0 : Int32)))), (12, .int (0 : Int32)), (11, .int (nI k122)), (9, .int v96), (8, .int v69), (7, .int v62), (6, .int (nI k42)), (0, .ref (ol 0)), (1, .int amount), (2, .int bits), (3, .ref (ol 6)), (4, .ref (ol 7))]) hx hb dX0_deal_199 hl (by decide) rfl (fun ls hl => ?_)
                      refine lv_iinc (v := nI (k122 + 1)) (lv' := [(11, .int (nI (k122 + 1))), (10, .int (z122.2.1 - (0 : Int32))), (5, .int (z122.1 - (v96 + (0 : Int32)))), (12, .int (0 : Int32)), (9, .int v96), (8, .int v69), (7, .int v62), (6, .int (nI k42)), (0, .ref (ol 0)), (1, .int amount), (2, .int bits), (3, .ref (ol 6)), (4, .ref (ol 7))]) hx hb dX0_deal_201 hl (k := 3) rfl (nI_1 _) (by decide) rfl (fun ls hl => ?_)
                      refine lv_goto (tgt := 122) hx hb dX0_deal_204 (by decide) ?_
                      exact ih122 ((z122.1 - (v96 + (0 : Int32))), (z122.2.1 - (0 : Int32)), upd z122.2.2 k122 ((z122.2.2 k122) + (v96 + (0 : Int32)))) _ _ _ hlt122 (by subst ev117; subst ev96; subst ev69; subst ev62; subst hz3; unfold bd_X0_dealpb_122; rw [if_neg c7, if_neg c8, if_pos c9] <;> rfl) hP hD hS (lv_sub hl [0, 1, 4, 5, 6, 7, 2, 8, 9, 10, 11, 12] rfl)
                    · refine lv_iconst (v := (1 : Int32)) hx hb dX0_deal_164 (by decide) ?_
                      refine lv_goto (tgt := 169) hx hb dX0_deal_165 (by decide) ?_
                      refine lv_istore (lv' := [(12, .int (1 : Int32)), (11, .int (nI k122)), (10, .int z122.2.1), (9, .int v96), (8, .int v69), (7, .int v62), (6, .int (nI k42)), (5, .int z122.1), (0, .ref (ol 0)), (1, .int amount), (2, .int bits), (3, .ref (ol 6)), (4, .ref (ol 7))]) hx hb dX0_deal_169 hl (by decide) rfl (fun ls hl => ?_)
                      refine lv_aload hx hb dX0_deal_171 (lv_at hl 12 rfl) ?_
                      refine lv_iload hx hb dX0_deal_173 (lv_at hl 1 rfl) ?_
                      refine lv_dup2_11 hx hb dX0_deal_175 rfl rfl ?_
                      refine iald_n hx hb hKX hP 7 rfl rfl (by omega) (by decide) dX0_deal_176 ?_
                      refine lv_iload hx hb dX0_deal_177 (lv_at hl 3 rfl) ?_
                      refine lv_iload hx hb dX0_deal_179 (lv_at hl 0 rfl) ?_
                      refine lv_iadd hx hb dX0_deal_181 ?_
                      refine lv_iadd hx hb dX0_deal_182 ?_
                      refine iast_n hx hb hKX hP hD hS 7 rfl rfl (by omega) (by decide) dX0_deal_183 (fun H locs hP hD hS => ?_)
                      have hP : va_P D vwCl ((wX0 cy ol (os 0) ol_reach ol_ringWith ol_rungOf ol_ringOf ol_most ol_paid (upd z122.2.2 k122 ((z122.2.2 k122) + (v96 + (1 : Int32)))) ol_ringFirst ol_ringBits ol_ringRung ol_ringLeft ol_ringPaid ol_rings ol_paidInAll ol_over) ++ (wX3 cy os os_kind os_limit os_retention os_quota os_refers (nI n) os_lossNow)) H := hP
                      have hD : va_D A ((wX0 cy ol (os 0) ol_reach ol_ringWith ol_rungOf ol_ringOf ol_most ol_paid (upd z122.2.2 k122 ((z122.2.2 k122) + (v96 + (1 : Int32)))) ol_ringFirst ol_ringBits ol_ringRung ol_ringLeft ol_ringPaid ol_rings ol_paidInAll ol_over) ++ (wX3 cy os os_kind os_limit os_retention os_quota os_refers (nI n) os_lossNow)) := hD
                      refine lv_iload hx hb dX0_deal_184 (lv_at hl 7 rfl) ?_
                      refine lv_iload hx hb dX0_deal_186 (lv_at hl 3 rfl) ?_
                      refine lv_iload hx hb dX0_deal_188 (lv_at hl 0 rfl) ?_
                      refine lv_iadd hx hb dX0_deal_190 ?_
                      refine lv_isub hx hb dX0_deal_191 ?_
                      refine lv_istore (lv' := [(5, .int (z122.1 - (v96 + (1 : Int32)))), (12, .int (1 : Int32)), (11, .int (nI k122)), (10, .int z122.2.1), (9, .int v96), (8, .int v69), (7, .int v62), (6, .int (nI k42)), (0, .ref (ol 0)), (1, .int amount), (2, .int bits), (3, .ref (ol 6)), (4, .ref (ol 7))]) hx hb dX0_deal_192 hl (by decide) rfl (fun ls hl => ?_)
                      refine lv_iload hx hb dX0_deal_194 (lv_at hl 3 rfl) ?_
                      refine lv_iload hx hb dX0_deal_196 (lv_at hl 1 rfl) ?_
                      refine lv_isub hx hb dX0_deal_198 ?_
                      refine lv_istore (lv' := [(10, .int (z122.2.1 - (1 : Int32))), (5, .int (z122.1 - (v96 + (1 : Int32)))), (12, .int (1 : Int32)), (11, .int (nI k122)), (9, .int v96), (8, .int v69), (7, .int v62), (6, .int (nI k42)), (0, .ref (ol 0)), (1, .int amount), (2, .int bits), (3, .ref (ol 6)), (4, .ref (ol 7))]) hx hb dX0_deal_199 hl (by decide) rfl (fun ls hl => ?_)
                      refine lv_iinc (v := nI (k122 + 1)) (lv' := [(11, .int (nI (k122 + 1))), (10, .int (z122.2.1 - (1 : Int32))), (5, .int (z122.1 - (v96 + (1 : Int32)))), (12, .int (1 : Int32)), (9, .int v96), (8, .int v69), (7, .int v62), (6, .int (nI k42)), (0, .ref (ol 0)), (1, .int amount), (2, .int bits), (3, .ref (ol 6)), (4, .ref (ol 7))]) hx hb dX0_deal_201 hl (k := 3) rfl (nI_1 _) (by decide) rfl (fun ls hl => ?_)
                      refine lv_goto (tgt := 122) hx hb dX0_deal_204 (by decide) ?_
                      exact ih122 ((z122.1 - (v96 + (1 : Int32))), (z122.2.1 - (1 : Int32)), upd z122.2.2 k122 ((z122.2.2 k122) + (v96 + (1 : Int32)))) _ _ _ hlt122 (by subst ev117; subst ev96; subst ev69; subst ev62; subst hz3; unfold bd_X0_dealpb_122; rw [if_neg c7, if_neg c8, if_neg c9] <;> rfl) hP hD hS (lv_sub hl [0, 1, 4, 5, 6, 7, 2, 8, 9, 10, 11, 12] rfl)
            · refine lv_iload hx hb dX0_deal_108 (lv_at hl 4 rfl) ?_
              refine lv_iload hx hb dX0_deal_110 (lv_at hl 1 rfl) ?_
              refine lv_irem hx hb dX0_deal_112 c4 ?_
              refine lv_goto (tgt := 117) hx hb dX0_deal_113 (by decide) ?_
              refine lv_topi (fun v117 ev117 => ?_)
              refine lv_istore (lv' := [(10, .int v117), (9, .int v96), (8, .int v69), (7, .int v62), (6, .int (nI k42)), (5, .int z42.1), (0, .ref (ol 0)), (1, .int amount), (2, .int bits), (3, .ref (ol 6)), (4, .ref (ol 7))]) hx hb dX0_deal_117 hl (by decide) rfl (fun ls hl => ?_)
              refine lv_iconst (v := (0 : Int32)) hx hb dX0_deal_119 (by decide) ?_
              refine lv_istore (lv' := [(11, .int (0 : Int32)), (10, .int v117), (9, .int v96), (8, .int v69), (7, .int v62), (6, .int (nI k42)), (5, .int z42.1), (0, .ref (ol 0)), (1, .int amount), (2, .int bits), (3, .ref (ol 6)), (4, .ref (ol 7))]) hx hb dX0_deal_120 hl (by decide) rfl (fun ls hl => ?_)
              refine loopW (bd_X0_dealpb_122 ol_paid v62 v96) (z42.1, v117, z42.2) n (fun k122 z122 => [(11, .int (nI k122)), (10, .int z122.2.1), (9, .int v96), (8, .int v69), (7, .int v62), (6, .int (nI k42)), (5, .int z122.1), (0, .ref (ol 0)), (1, .int amount), (2, .int bits), (3, .ref (ol 6)), (4, .ref (ol 7))]) (fun k122 z122 => (wX0 cy ol (os 0) ol_reach ol_ringWith ol_rungOf ol_ringOf ol_most ol_paid z122.2.2 ol_ringFirst ol_ringBits ol_ringRung ol_ringLeft ol_ringPaid ol_rings ol_paidInAll ol_over) ++ (wX3 cy os os_kind os_limit os_retention os_quota os_refers (nI n) os_lossNow)) hP hD hS (lv_sub hl [0, 1, 2, 3, 4, 5, 6, 7, 8, 9, 10, 11] rfl) (fun k122 z122 H locs ls hk122 hz122 hP hD hS hl ih122 => ?_)
              refine lv_iload hx hb dX0_deal_122 (lv_at hl 0 rfl) ?_
              refine lv_aload_n hx hb dX0_deal_124 rfl (lv_at hl 7 rfl) ?_
              refine gf_X0_9 hx hb hG hown hKX hP 0 rfl rfl dX0_deal_125 ?_
              refine gf_X0_77 hx hb hG hown hKX hP 13 rfl rfl dX0_deal_128 ?_
              refine lv_icmp_ge (tgt := 207) hx hb dX0_deal_131 (by decide) (fun c10 => ?_) (fun c10 => ?_)
              · have e_k122 : n = k122 := Nat.le_antisymm ((le_n (N := n) (k := k122) rfl (by omega) (by omega)).mp c10) hk122
                subst e_k122
                refine lv_iinc (v := nI (k42 + 1)) (lv' := [(6, .int (nI (k42 + 1))), (11, .int (nI n)), (10, .int z122.2.1), (9, .int v96), (8, .int v69), (7, .int v62), (5, .int z122.1), (0, .ref (ol 0)), (1, .int amount), (2, .int bits), (3, .ref (ol 6)), (4, .ref (ol 7))]) hx hb dX0_deal_207 hl (k := 5) rfl (nI_1 _) (by decide) rfl (fun ls hl => ?_)
                refine lv_goto (tgt := 42) hx hb dX0_deal_210 (by decide) ?_
                exact ih42 (z122.1, z122.2.2) _ _ _ hlt42 (by subst hz122; subst ev117; subst ev96; subst ev69; subst ev62; subst hz3; unfold bd_X0_dealpb_42; rw [if_neg c3, if_neg c4, if_pos c5] <;> rfl) hP hD hS (lv_sub hl [0, 6, 7, 8, 9, 10, 11] rfl)
              · have hlt122 : k122 < n := Nat.lt_of_not_le (fun qq_ => c10 ((le_n (N := n) (k := k122) rfl (by omega) (by omega)).mpr qq_))
                refine lv_iload hx hb dX0_deal_134 (lv_at hl 4 rfl) ?_
                refine lv_iload hx hb dX0_deal_136 (lv_at hl 0 rfl) ?_
                refine cRoN mw8_18 mw1_2 mw8_19 hd_X6_has hKX.2.1 hx hb hml hown hG hKX (c_X6_has l D cy v62 (nI k122)) ⟨Nat.le_of_ble_eq_true rfl, Nat.le_of_ble_eq_true rfl⟩ ⟨Nat.zero_le _, Nat.zero_le _⟩ (hP.sub [] rfl) rfl hl.1 rfl (Nat.le_of_ble_eq_true rfl) dX0_deal_138 ?_
                refine lv_if_eq (tgt := 201) hx hb dX0_deal_141 (by decide) (fun c11 => ?_) (fun c11 => ?_)
                · refine lv_iinc (v := nI (k122 + 1)) (lv' := [(11, .int (nI (k122 + 1))), (10, .int z122.2.1), (9, .int v96), (8, .int v69), (7, .int v62), (6, .int (nI k42)), (5, .int z122.1), (0, .ref (ol 0)), (1, .int amount), (2, .int bits), (3, .ref (ol 6)), (4, .ref (ol 7))]) hx hb dX0_deal_201 hl (k := 0) rfl (nI_1 _) (by decide) rfl (fun ls hl => ?_)
                  refine lv_goto (tgt := 122) hx hb dX0_deal_204 (by decide) ?_
                  exact ih122 z122 _ _ _ hlt122 (by subst ev117; subst ev96; subst ev69; subst ev62; subst hz3; unfold bd_X0_dealpb_122; rw [if_pos c11] <;> rfl) hP hD hS (lv_sub hl [0, 1, 2, 3, 4, 5, 6, 7, 8, 9, 10, 11] rfl)
                · refine lv_iload hx hb dX0_deal_144 (lv_at hl 1 rfl) ?_
                  refine lv_if_le (tgt := 168) hx hb dX0_deal_146 (by decide) (fun c12 => ?_) (fun c12 => ?_)
                  · refine lv_iconst (v := (0 : Int32)) hx hb dX0_deal_168 (by decide) ?_
                    refine lv_istore (lv' := [(12, .int (0 : Int32)), (11, .int (nI k122)), (10, .int z122.2.1), (9, .int v96), (8, .int v69), (7, .int v62), (6, .int (nI k42)), (5, .int z122.1), (0, .ref (ol 0)), (1, .int amount), (2, .int bits), (3, .ref (ol 6)), (4, .ref (ol 7))]) hx hb dX0_deal_169 hl (by decide) rfl (fun ls hl => ?_)
                    refine lv_aload hx hb dX0_deal_171 (lv_at hl 12 rfl) ?_
                    refine lv_iload hx hb dX0_deal_173 (lv_at hl 1 rfl) ?_
                    refine lv_dup2_11 hx hb dX0_deal_175 rfl rfl ?_
                    refine iald_n hx hb hKX hP 7 rfl rfl (by omega) (by decide) dX0_deal_176 ?_
                    refine lv_iload hx hb dX0_deal_177 (lv_at hl 3 rfl) ?_
                    refine lv_iload hx hb dX0_deal_179 (lv_at hl 0 rfl) ?_
                    refine lv_iadd hx hb dX0_deal_181 ?_
                    refine lv_iadd hx hb dX0_deal_182 ?_
                    refine iast_n hx hb hKX hP hD hS 7 rfl rfl (by omega) (by decide) dX0_deal_183 (fun H locs hP hD hS => ?_)
                    have hP : va_P D vwCl ((wX0 cy ol (os 0) ol_reach ol_ringWith ol_rungOf ol_ringOf ol_most ol_paid (upd z122.2.2 k122 ((z122.2.2 k122) + (v96 + (0 : Int32)))) ol_ringFirst ol_ringBits ol_ringRung ol_ringLeft ol_ringPaid ol_rings ol_paidInAll ol_over) ++ (wX3 cy os os_kind os_limit os_retention os_quota os_refers (nI n) os_lossNow)) H := hP
                    have hD : va_D A ((wX0 cy ol (os 0) ol_reach ol_ringWith ol_rungOf ol_ringOf ol_most ol_paid (upd z122.2.2 k122 ((z122.2.2 k122) + (v96 + (0 : Int32)))) ol_ringFirst ol_ringBits ol_ringRung ol_ringLeft ol_ringPaid ol_rings ol_paidInAll ol_over) ++ (wX3 cy os os_kind os_limit os_retention os_quota os_refers (nI n) os_lossNow)) := hD
                    refine lv_iload hx hb dX0_deal_184 (lv_at hl 7 rfl) ?_
                    refine lv_iload hx hb dX0_deal_186 (lv_at hl 3 rfl) ?_
                    refine lv_iload hx hb dX0_deal_188 (lv_at hl 0 rfl) ?_
                    refine lv_iadd hx hb dX0_deal_190 ?_
                    refine lv_isub hx hb dX0_deal_191 ?_
                    refine lv_istore (lv' := [(5, .int (z122.1 - (v96 + (0 : Int32)))), (12, .int (0 : Int32)), (11, .int (nI k122)), (10, .int z122.2.1), (9, .int v96), (8, .int v69), (7, .int v62), (6, .int (nI k42)), (0, .ref (ol 0)), (1, .int amount), (2, .int bits), (3, .ref (ol 6)), (4, .ref (ol 7))]) hx hb dX0_deal_192 hl (by decide) rfl (fun ls hl => ?_)
                    refine lv_iload hx hb dX0_deal_194 (lv_at hl 3 rfl) ?_
                    refine lv_iload hx hb dX0_deal_196 (lv_at hl 1 rfl) ?_
                    refine lv_isub hx hb dX0_deal_198 ?_
                    refine lv_istore (lv' := [(10, .int (z122.2.1 - (0 : Int32))), (5, .int (z122.1 - (v96 + (0 : Int32)))), (12, .int (0 : Int32)), (11, .int (nI k122)), (9, .int v96), (8, .int v69), (7, .int v62), (6, .int (nI k42)), (0, .ref (ol 0)), (1, .int amount), (2, .int bits), (3, .ref (ol 6)), (4, .ref (ol 7))]) hx hb dX0_deal_199 hl (by decide) rfl (fun ls hl => ?_)
                    refine lv_iinc (v := nI (k122 + 1)) (lv' := [(11, .int (nI (k122 + 1))), (10, .int (z122.2.1 - (0 : Int32))), (5, .int (z122.1 - (v96 + (0 : Int32)))), (12, .int (0 : Int32)), (9, .int v96), (8, .int v69), (7, .int v62), (6, .int (nI k42)), (0, .ref (ol 0)), (1, .int amount), (2, .int bits), (3, .ref (ol 6)), (4, .ref (ol 7))]) hx hb dX0_deal_201 hl (k := 3) rfl (nI_1 _) (by decide) rfl (fun ls hl => ?_)
                    refine lv_goto (tgt := 122) hx hb dX0_deal_204 (by decide) ?_
                    exact ih122 ((z122.1 - (v96 + (0 : Int32))), (z122.2.1 - (0 : Int32)), upd z122.2.2 k122 ((z122.2.2 k122) + (v96 + (0 : Int32)))) _ _ _ hlt122 (by subst ev117; subst ev96; subst ev69; subst ev62; subst hz3; unfold bd_X0_dealpb_122; rw [if_neg c11, if_pos c12] <;> rfl) hP hD hS (lv_sub hl [0, 1, 4, 5, 6, 7, 2, 8, 9, 10, 11, 12] rfl)
                  · refine lv_aload hx hb dX0_deal_149 (lv_at hl 11 rfl) ?_
                    refine lv_iload hx hb dX0_deal_151 (lv_at hl 0 rfl) ?_
                    refine iald_n hx hb hKX hP 7 rfl rfl (by omega) (by decide) dX0_deal_153 ?_
                    refine lv_iload hx hb dX0_deal_154 (lv_at hl 2 rfl) ?_
                    refine lv_iadd hx hb dX0_deal_156 ?_
                    refine lv_aload_n hx hb dX0_deal_157 rfl (lv_at hl 10 rfl) ?_
                    refine lv_iload hx hb dX0_deal_158 (lv_at hl 0 rfl) ?_
                    refine iald_n hx hb hKX hP 6 rfl rfl (by omega) (by decide) dX0_deal_160 ?_
                    refine lv_icmp_ge (tgt := 168) hx hb dX0_deal_161 (by decide) (fun c13 => ?_) (fun c13 => ?_)
                    · refine lv_iconst (v := (0 : Int32)) hx hb dX0_deal_168 (by decide) ?_
                      refine lv_istore (lv' := [(12, .int (0 : Int32)), (11, .int (nI k122)), (10, .int z122.2.1), (9, .int v96), (8, .int v69), (7, .int v62), (6, .int (nI k42)), (5, .int z122.1), (0, .ref (ol 0)), (1, .int amount), (2, .int bits), (3, .ref (ol 6)), (4, .ref (ol 7))]) hx hb dX0_deal_169 hl (by decide) rfl (fun ls hl => ?_)
                      refine lv_aload hx hb dX0_deal_171 (lv_at hl 12 rfl) ?_
                      refine lv_iload hx hb dX0_deal_173 (lv_at hl 1 rfl) ?_
                      refine lv_dup2_11 hx hb dX0_deal_175 rfl rfl ?_
                      refine iald_n hx hb hKX hP 7 rfl rfl (by omega) (by decide) dX0_deal_176 ?_
                      refine lv_iload hx hb dX0_deal_177 (lv_at hl 3 rfl) ?_
                      refine lv_iload hx hb dX0_deal_179 (lv_at hl 0 rfl) ?_
                      refine lv_iadd hx hb dX0_deal_181 ?_
                      refine lv_iadd hx hb dX0_deal_182 ?_
                      refine iast_n hx hb hKX hP hD hS 7 rfl rfl (by omega) (by decide) dX0_deal_183 (fun H locs hP hD hS => ?_)
                      have hP : va_P D vwCl ((wX0 cy ol (os 0) ol_reach ol_ringWith ol_rungOf ol_ringOf ol_most ol_paid (upd z122.2.2 k122 ((z122.2.2 k122) + (v96 + (0 : Int32)))) ol_ringFirst ol_ringBits ol_ringRung ol_ringLeft ol_ringPaid ol_rings ol_paidInAll ol_over) ++ (wX3 cy os os_kind os_limit os_retention os_quota os_refers (nI n) os_lossNow)) H := hP
                      have hD : va_D A ((wX0 cy ol (os 0) ol_reach ol_ringWith ol_rungOf ol_ringOf ol_most ol_paid (upd z122.2.2 k122 ((z122.2.2 k122) + (v96 + (0 : Int32)))) ol_ringFirst ol_ringBits ol_ringRung ol_ringLeft ol_ringPaid ol_rings ol_paidInAll ol_over) ++ (wX3 cy os os_kind os_limit os_retention os_quota os_refers (nI n) os_lossNow)) := hD
                      refine lv_iload hx hb dX0_deal_184 (lv_at hl 7 rfl) ?_
                      refine lv_iload hx hb dX0_deal_186 (lv_at hl 3 rfl) ?_
                      refine lv_iload hx hb dX0_deal_188 (lv_at hl 0 rfl) ?_
                      refine lv_iadd hx hb dX0_deal_190 ?_
                      refine lv_isub hx hb dX0_deal_191 ?_
                      refine lv_istore (lv' := [(5, .int (z122.1 - (v96 + (0 : Int32)))), (12, .int (0 : Int32)), (11, .int (nI k122)), (10, .int z122.2.1), (9, .int v96), (8, .int v69), (7, .int v62), (6, .int (nI k42)), (0, .ref (ol 0)), (1, .int amount), (2, .int bits), (3, .ref (ol 6)), (4, .ref (ol 7))]) hx hb dX0_deal_192 hl (by decide) rfl (fun ls hl => ?_)
                      refine lv_iload hx hb dX0_deal_194 (lv_at hl 3 rfl) ?_
                      refine lv_iload hx hb dX0_deal_196 (lv_at hl 1 rfl) ?_
                      refine lv_isub hx hb dX0_deal_198 ?_
                      refine lv_istore (lv' := [(10, .int (z122.2.1 - (0 : Int32))), (5, .int (z122.1 - (v96 + (0 : Int32)))), (12, .int (0 : Int32)), (11, .int (nI k122)), (9, .int v96), (8, .int v69), (7, .int v62), (6, .int (nI k42)), (0, .ref (ol 0)), (1, .int amount), (2, .int bits), (3, .ref (ol 6)), (4, .ref (ol 7))]) hx hb dX0_deal_199 hl (by decide) rfl (fun ls hl => ?_)
                      refine lv_iinc (v := nI (k122 + 1)) (lv' := [(11, .int (nI (k122 + 1))), (10, .int (z122.2.1 - (0 : Int32))), (5, .int (z122.1 - (v96 + (0 : Int32)))), (12, .int (0 : Int32)), (9, .int v96), (8, .int v69), (7, .int v62), (6, .int (nI k42)), (0, .ref (ol 0)), (1, .int amount), (2, .int bits), (3, .ref (ol 6)), (4, .ref (ol 7))]) hx hb dX0_deal_201 hl (k := 3) rfl (nI_1 _) (by decide) rfl (fun ls hl => ?_)
                      refine lv_goto (tgt := 122) hx hb dX0_deal_204 (by decide) ?_
                      exact ih122 ((z122.1 - (v96 + (0 : Int32))), (z122.2.1 - (0 : Int32)), upd z122.2.2 k122 ((z122.2.2 k122) + (v96 + (0 : Int32)))) _ _ _ hlt122 (by subst ev117; subst ev96; subst ev69; subst ev62; subst hz3; unfold bd_X0_dealpb_122; rw [if_neg c11, if_neg c12, if_pos c13] <;> rfl) hP hD hS (lv_sub hl [0, 1, 4, 5, 6, 7, 2, 8, 9, 10, 11, 12] rfl)
                    · refine lv_iconst (v := (1 : Int32)) hx hb dX0_deal_164 (by decide) ?_
                      refine lv_goto (tgt := 169) hx hb dX0_deal_165 (by decide) ?_
                      refine lv_istore (lv' := [(12, .int (1 : Int32)), (11, .int (nI k122)), (10, .int z122.2.1), (9, .int v96), (8, .int v69), (7, .int v62), (6, .int (nI k42)), (5, .int z122.1), (0, .ref (ol 0)), (1, .int amount), (2, .int bits), (3, .ref (ol 6)), (4, .ref (ol 7))]) hx hb dX0_deal_169 hl (by decide) rfl (fun ls hl => ?_)
                      refine lv_aload hx hb dX0_deal_171 (lv_at hl 12 rfl) ?_
                      refine lv_iload hx hb dX0_deal_173 (lv_at hl 1 rfl) ?_
                      refine lv_dup2_11 hx hb dX0_deal_175 rfl rfl ?_
                      refine iald_n hx hb hKX hP 7 rfl rfl (by omega) (by decide) dX0_deal_176 ?_
                      refine lv_iload hx hb dX0_deal_177 (lv_at hl 3 rfl) ?_
                      refine lv_iload hx hb dX0_deal_179 (lv_at hl 0 rfl) ?_
                      refine lv_iadd hx hb dX0_deal_181 ?_
                      refine lv_iadd hx hb dX0_deal_182 ?_
                      refine iast_n hx hb hKX hP hD hS 7 rfl rfl (by omega) (by decide) dX0_deal_183 (fun H locs hP hD hS => ?_)
                      have hP : va_P D vwCl ((wX0 cy ol (os 0) ol_reach ol_ringWith ol_rungOf ol_ringOf ol_most ol_paid (upd z122.2.2 k122 ((z122.2.2 k122) + (v96 + (1 : Int32)))) ol_ringFirst ol_ringBits ol_ringRung ol_ringLeft ol_ringPaid ol_rings ol_paidInAll ol_over) ++ (wX3 cy os os_kind os_limit os_retention os_quota os_refers (nI n) os_lossNow)) H := hP
                      have hD : va_D A ((wX0 cy ol (os 0) ol_reach ol_ringWith ol_rungOf ol_ringOf ol_most ol_paid (upd z122.2.2 k122 ((z122.2.2 k122) + (v96 + (1 : Int32)))) ol_ringFirst ol_ringBits ol_ringRung ol_ringLeft ol_ringPaid ol_rings ol_paidInAll ol_over) ++ (wX3 cy os os_kind os_limit os_retention os_quota os_refers (nI n) os_lossNow)) := hD
                      refine lv_iload hx hb dX0_deal_184 (lv_at hl 7 rfl) ?_
                      refine lv_iload hx hb dX0_deal_186 (lv_at hl 3 rfl) ?_
                      refine lv_iload hx hb dX0_deal_188 (lv_at hl 0 rfl) ?_
                      refine lv_iadd hx hb dX0_deal_190 ?_
                      refine lv_isub hx hb dX0_deal_191 ?_
                      refine lv_istore (lv' := [(5, .int (z122.1 - (v96 + (1 : Int32)))), (12, .int (1 : Int32)), (11, .int (nI k122)), (10, .int z122.2.1), (9, .int v96), (8, .int v69), (7, .int v62), (6, .int (nI k42)), (0, .ref (ol 0)), (1, .int amount), (2, .int bits), (3, .ref (ol 6)), (4, .ref (ol 7))]) hx hb dX0_deal_192 hl (by decide) rfl (fun ls hl => ?_)
                      refine lv_iload hx hb dX0_deal_194 (lv_at hl 3 rfl) ?_
                      refine lv_iload hx hb dX0_deal_196 (lv_at hl 1 rfl) ?_
                      refine lv_isub hx hb dX0_deal_198 ?_
                      refine lv_istore (lv' := [(10, .int (z122.2.1 - (1 : Int32))), (5, .int (z122.1 - (v96 + (1 : Int32)))), (12, .int (1 : Int32)), (11, .int (nI k122)), (9, .int v96), (8, .int v69), (7, .int v62), (6, .int (nI k42)), (0, .ref (ol 0)), (1, .int amount), (2, .int bits), (3, .ref (ol 6)), (4, .ref (ol 7))]) hx hb dX0_deal_199 hl (by decide) rfl (fun ls hl => ?_)
                      refine lv_iinc (v := nI (k122 + 1)) (lv' := [(11, .int (nI (k122 + 1))), (10, .int (z122.2.1 - (1 : Int32))), (5, .int (z122.1 - (v96 + (1 : Int32)))), (12, .int (1 : Int32)), (9, .int v96), (8, .int v69), (7, .int v62), (6, .int (nI k42)), (0, .ref (ol 0)), (1, .int amount), (2, .int bits), (3, .ref (ol 6)), (4, .ref (ol 7))]) hx hb dX0_deal_201 hl (k := 3) rfl (nI_1 _) (by decide) rfl (fun ls hl => ?_)
                      refine lv_goto (tgt := 122) hx hb dX0_deal_204 (by decide) ?_
                      exact ih122 ((z122.1 - (v96 + (1 : Int32))), (z122.2.1 - (1 : Int32)), upd z122.2.2 k122 ((z122.2.2 k122) + (v96 + (1 : Int32)))) _ _ _ hlt122 (by subst ev117; subst ev96; subst ev69; subst ev62; subst hz3; unfold bd_X0_dealpb_122; rw [if_neg c11, if_neg c12, if_neg c13] <;> rfl) hP hD hS (lv_sub hl [0, 1, 4, 5, 6, 7, 2, 8, 9, 10, 11, 12] rfl)
          · refine lv_goto (tgt := 213) hx hb dX0_deal_76 (by decide) ?_
            exact br42 z42 _ _ _ hlt42 (by subst ev69; subst ev62; subst hz3; unfold bd_X0_dealpb_42; rw [if_neg c3, if_pos c4] <;> rfl) hP hD hS (lv_sub hl [3, 4, 5, 6, 7, 8] rfl)
  · have hlt3 : k3 < n := Nat.lt_of_not_le (fun qq_ => c1 ((le_n (N := n) (k := k3) rfl (by omega) (by omega)).mpr qq_))
    refine lv_iload_n hx hb dX0_deal_15 rfl (lv_at hl 3 rfl) ?_
    refine lv_iload hx hb dX0_deal_16 (lv_at hl 0 rfl) ?_
    refine cRoN mw8_18 mw1_2 mw8_19 hd_X6_has hKX.2.1 hx hb hml hown hG hKX (c_X6_has l D cy bits (nI k3)) ⟨Nat.le_of_ble_eq_true rfl, Nat.le_of_ble_eq_true rfl⟩ ⟨Nat.zero_le _, Nat.zero_le _⟩ (hP.sub [] rfl) rfl hl.1 rfl (Nat.le_of_ble_eq_true rfl) dX0_deal_18 ?_
    refine lv_if_eq (tgt := 30) hx hb dX0_deal_21 (by decide) (fun c14 => ?_) (fun c14 => ?_)
    · refine lv_iinc (v := nI (k3 + 1)) (lv' := [(5, .int (nI (k3 + 1))), (0, .ref (ol 0)), (1, .int amount), (2, .int bits), (3, .ref (ol 6)), (4, .ref (ol 7))]) hx hb dX0_deal_30 hl (k := 0) rfl (nI_1 _) (by decide) rfl (fun ls hl => ?_)
      refine lv_goto (tgt := 3) hx hb dX0_deal_33 (by decide) ?_
      exact ih3 z3 _ _ _ hlt3 (by unfold bd_X0_dealpb_3; rw [if_pos c14] <;> rfl) hP hD hS (lv_sub hl [0, 1, 2, 3, 4, 5] rfl)
    · refine lv_aload hx hb dX0_deal_24 (lv_at hl 5 rfl) ?_
      refine lv_iload hx hb dX0_deal_26 (lv_at hl 0 rfl) ?_
      refine lv_iconst (v := (0 : Int32)) hx hb dX0_deal_28 (by decide) ?_
      refine iast_n hx hb hKX hP hD hS 7 rfl rfl (by omega) (by decide) dX0_deal_29 (fun H locs hP hD hS => ?_)
      have hP : va_P D vwCl ((wX0 cy ol (os 0) ol_reach ol_ringWith ol_rungOf ol_ringOf ol_most ol_paid (upd z3 k3 (0 : Int32)) ol_ringFirst ol_ringBits ol_ringRung ol_ringLeft ol_ringPaid ol_rings ol_paidInAll ol_over) ++ (wX3 cy os os_kind os_limit os_retention os_quota os_refers (nI n) os_lossNow)) H := hP
      have hD : va_D A ((wX0 cy ol (os 0) ol_reach ol_ringWith ol_rungOf ol_ringOf ol_most ol_paid (upd z3 k3 (0 : Int32)) ol_ringFirst ol_ringBits ol_ringRung ol_ringLeft ol_ringPaid ol_rings ol_paidInAll ol_over) ++ (wX3 cy os os_kind os_limit os_retention os_quota os_refers (nI n) os_lossNow)) := hD
      refine lv_iinc (v := nI (k3 + 1)) (lv' := [(5, .int (nI (k3 + 1))), (0, .ref (ol 0)), (1, .int amount), (2, .int bits), (3, .ref (ol 6)), (4, .ref (ol 7))]) hx hb dX0_deal_30 hl (k := 0) rfl (nI_1 _) (by decide) rfl (fun ls hl => ?_)
      refine lv_goto (tgt := 3) hx hb dX0_deal_33 (by decide) ?_
      exact ih3 (upd z3 k3 (0 : Int32)) _ _ _ hlt3 (by unfold bd_X0_dealpb_3; rw [if_neg c14] <;> rfl) hP hD hS (lv_sub hl [0, 1, 2, 3, 4, 5] rfl)
def f_X0_payAlone (ol_ringWith : Nat → Int32) (ol_paid : Nat → Int32) (os_kind : Nat → Int32) (os_limit : Nat → Int32) (os_retention : Nat → Int32) (os_quota : Nat → Int32) (os_refers : Nat → Int32) (left : Int32) (n : Nat) (c : Nat) : Int32 × (Nat → Int32) :=
  if (f_X0_isEscaped ol_ringWith ol_paid os_kind os_refers n c) = (0 : Int32) then (((upd ol_paid c (f_X0_mostOf os_kind os_limit os_retention os_quota left c)) c), upd ol_paid c (f_X0_mostOf os_kind os_limit os_retention os_quota left c)) else (((upd ol_paid c (0 : Int32)) c), upd ol_paid c (0 : Int32))
set_option maxHeartbeats 4000000 in
set_option maxRecDepth 100000 in
theorem c_X0_payAlone (l : Launch) (D : va_G) (cy : Nat → ClassId) (ol : Nat → Nat) (os : Nat → Nat) (ol_reach : Nat → Int32) (ol_ringWith : Nat → Int32) (ol_rungOf : Nat → Int32) (ol_ringOf : Nat → Int32) (ol_most : Nat → Int32) (ol_paid : Nat → Int32) (ol_back : Nat → Int32) (ol_ringFirst : Nat → Int32) (ol_ringBits : Nat → Int32) (ol_ringRung : Nat → Int32) (ol_ringLeft : Nat → Int32) (ol_ringPaid : Nat → Int32) (ol_rings : Int32) (ol_paidInAll : Int32) (ol_over : Int32) (os_kind : Nat → Int32) (os_limit : Nat → Int32) (os_retention : Nat → Int32) (os_quota : Nat → Int32) (os_refers : Nat → Int32) (os_lossNow : Int32) (left : Int32) (n : Nat) (c : Nat) (hn : n ≤ 6) (hc : c < n) : RwI (S := (Nat → Int32)) l D cy yX0_payAlone (.code yX0_payAlone cX0_payAlone 3 (some .int)) 3 ((wX0 cy ol (os 0) ol_reach ol_ringWith ol_rungOf ol_ringOf ol_most ol_paid ol_back ol_ringFirst ol_ringBits ol_ringRung ol_ringLeft ol_ringPaid ol_rings ol_paidInAll ol_over) ++ (wX3 cy os os_kind os_limit os_retention os_quota os_refers (nI n) os_lossNow)) [.ref (ol 0), .int (nI c), .int left] (fun rr u => (rr, u) = f_X0_payAlone ol_ringWith ol_paid os_kind os_limit os_retention os_quota os_refers left n c) (fun u => (wX0 cy ol (os 0) ol_reach ol_ringWith ol_rungOf ol_ringOf ol_most u ol_back ol_ringFirst ol_ringBits ol_ringRung ol_ringLeft ol_ringPaid ol_rings ol_paidInAll ol_over) ++ (wX3 cy os os_kind os_limit os_retention os_quota os_refers (nI n) os_lossNow)) := by
  intro sz
  refine Met.ofW (cc := cX0_payAlone) (maxL := 3) (ret := (some .int)) (by decide) rfl ?_
  intro pP eE s0 mM args below meth cC s₁ B hml hv
  obtain ⟨rfl, hsz, hP, hKX, hD0⟩ := hv
  have hx := B.exec
  have hb := B.bytes
  have hr := B.returns
  have hG := gw_hts (atoms_spec (ws := _) B.pre)
  have hown : s0.vm.findClass RX0 = some mM.cls := findClass_of_methodNamed B.named
  have hlocks := B.notSynchronized
  subst hsz
  have hD := hD0.self (sz := s0.heap.size)
  generalize hAe : va_A ((wX0 cy ol (os 0) ol_reach ol_ringWith ol_rungOf ol_ringOf ol_most ol_paid ol_back ol_ringFirst ol_ringBits ol_ringRung ol_ringLeft ol_ringPaid ol_rings ol_paidInAll ol_over) ++ (wX3 cy os os_kind os_limit os_retention os_quota os_refers (nI n) os_lossNow)) s0.heap.size = A at hD ⊢
  have hA : ∀ q : Nat, s0.heap.size ≤ q → A q := fun q h => by rw [← hAe]; exact Or.inr h
  have hS : va_S A s0.heap s0.heap [] := va_S.rf
  have hl := lv_entry ([.ref (ol 0), .int (nI c), .int left]) (n := 3) (Nat.le_of_ble_eq_true rfl)
  rw [lg_entry_eq]
  generalize (lg_sl ([.ref (ol 0), .int (nI c), .int left]) ++ List.replicate (3 - (lg_sl ([.ref (ol 0), .int (nI c), .int left])).length) Slot.unset).toArray = ls at hl ⊢
  have hl : lv_has ls 3 [(0, .ref (ol 0)), (1, .int (nI c)), (2, .int left)] := hl
  refine lv_aload_n hx hb dX0_payAlone_0 rfl (lv_at hl 0 rfl) ?_
  refine gf_X0_31 hx hb hG hown hKX hP 0 rfl rfl dX0_payAlone_1 ?_
  refine lv_iload_n hx hb dX0_payAlone_4 rfl (lv_at hl 1 rfl) ?_
  refine lv_aload_n hx hb dX0_payAlone_5 rfl (lv_at hl 0 rfl) ?_
  refine lv_iload_n hx hb dX0_payAlone_6 rfl (lv_at hl 1 rfl) ?_
  refine cRoV (q0 := 0) (ci := 0) mw12_8 mw12_9 mw12_10 mw1_21 mw12_11 rfl rfl hd_X0_isEscaped hx hb hml hown hG hKX (c_X0_isEscaped l D cy ol os ol_reach ol_ringWith ol_rungOf ol_ringOf ol_most ol_paid ol_back ol_ringFirst ol_ringBits ol_ringRung ol_ringLeft ol_ringPaid ol_rings ol_paidInAll ol_over os_kind os_limit os_retention os_quota os_refers os_lossNow n c hn hc) ⟨Nat.le_of_ble_eq_true rfl, Nat.le_of_ble_eq_true rfl⟩ ⟨Nat.zero_le _, Nat.zero_le _⟩ hP rfl rfl hl.1 rfl (Nat.le_of_ble_eq_true rfl) dX0_payAlone_7 ?_
  refine lv_if_eq (tgt := 17) hx hb dX0_payAlone_10 (by decide) (fun c1 => ?_) (fun c1 => ?_)
  · refine lv_aload_n hx hb dX0_payAlone_17 rfl (lv_at hl 0 rfl) ?_
    refine lv_iload_n hx hb dX0_payAlone_18 rfl (lv_at hl 1 rfl) ?_
    refine lv_iload_n hx hb dX0_payAlone_19 rfl (lv_at hl 2 rfl) ?_
    refine cRoV (q0 := 0) (ci := 0) mw12_17 mw12_18 mw12_19 mw1_21 mw12_20 rfl rfl hd_X0_mostOf hx hb hml hown hG hKX (c_X0_mostOf l D cy ol os ol_reach ol_ringWith ol_rungOf ol_ringOf ol_most ol_paid ol_back ol_ringFirst ol_ringBits ol_ringRung ol_ringLeft ol_ringPaid ol_rings ol_paidInAll ol_over os_kind os_limit os_retention os_quota os_refers os_lossNow left n c hn hc) ⟨Nat.le_of_ble_eq_true rfl, Nat.le_of_ble_eq_true rfl⟩ ⟨Nat.zero_le _, Nat.zero_le _⟩ hP rfl rfl hl.1 rfl (Nat.le_of_ble_eq_true rfl) dX0_payAlone_20 ?_
    refine iast_n hx hb hKX hP hD hS 6 rfl rfl (by omega) (by decide) dX0_payAlone_23 (fun H locs hP hD hS => ?_)
    have hP : va_P D vwCl ((wX0 cy ol (os 0) ol_reach ol_ringWith ol_rungOf ol_ringOf ol_most (upd ol_paid c (f_X0_mostOf os_kind os_limit os_retention os_quota left c)) ol_back ol_ringFirst ol_ringBits ol_ringRung ol_ringLeft ol_ringPaid ol_rings ol_paidInAll ol_over) ++ (wX3 cy os os_kind os_limit os_retention os_quota os_refers (nI n) os_lossNow)) H := hP
    have hD : va_D A ((wX0 cy ol (os 0) ol_reach ol_ringWith ol_rungOf ol_ringOf ol_most (upd ol_paid c (f_X0_mostOf os_kind os_limit os_retention os_quota left c)) ol_back ol_ringFirst ol_ringBits ol_ringRung ol_ringLeft ol_ringPaid ol_rings ol_paidInAll ol_over) ++ (wX3 cy os os_kind os_limit os_retention os_quota os_refers (nI n) os_lossNow)) := hD
    refine lv_aload_n hx hb dX0_payAlone_24 rfl (lv_at hl 0 rfl) ?_
    refine gf_X0_31 hx hb hG hown hKX hP 0 rfl rfl dX0_payAlone_25 ?_
    refine lv_iload_n hx hb dX0_payAlone_28 rfl (lv_at hl 1 rfl) ?_
    refine iald_n hx hb hKX hP 6 rfl rfl (by omega) (by decide) dX0_payAlone_29 ?_
    exact W.iret (v := ((upd ol_paid c (f_X0_mostOf os_kind os_limit os_retention os_quota left c)) c)) hx hb hr (fun t ht hW => ⟨⟨((upd ol_paid c (f_X0_mostOf os_kind os_limit os_retention os_quota left c)) c), upd ol_paid c (f_X0_mostOf os_kind os_limit os_retention os_quota left c), rfl, by unfold f_X0_payAlone; rw [if_pos c1] <;> rfl, by rw [ht]; exact hP, hD⟩, hS.F ht⟩) hS.2.2 dX0_payAlone_30
  · refine lv_iconst (v := (0 : Int32)) hx hb dX0_payAlone_13 (by decide) ?_
    refine lv_goto (tgt := 23) hx hb dX0_payAlone_14 (by decide) ?_
    refine iast_n hx hb hKX hP hD hS 6 rfl rfl (by omega) (by decide) dX0_payAlone_23 (fun H locs hP hD hS => ?_)
    have hP : va_P D vwCl ((wX0 cy ol (os 0) ol_reach ol_ringWith ol_rungOf ol_ringOf ol_most (upd ol_paid c (0 : Int32)) ol_back ol_ringFirst ol_ringBits ol_ringRung ol_ringLeft ol_ringPaid ol_rings ol_paidInAll ol_over) ++ (wX3 cy os os_kind os_limit os_retention os_quota os_refers (nI n) os_lossNow)) H := hP
    have hD : va_D A ((wX0 cy ol (os 0) ol_reach ol_ringWith ol_rungOf ol_ringOf ol_most (upd ol_paid c (0 : Int32)) ol_back ol_ringFirst ol_ringBits ol_ringRung ol_ringLeft ol_ringPaid ol_rings ol_paidInAll ol_over) ++ (wX3 cy os os_kind os_limit os_retention os_quota os_refers (nI n) os_lossNow)) := hD
    refine lv_aload_n hx hb dX0_payAlone_24 rfl (lv_at hl 0 rfl) ?_
    refine gf_X0_31 hx hb hG hown hKX hP 0 rfl rfl dX0_payAlone_25 ?_
    refine lv_iload_n hx hb dX0_payAlone_28 rfl (lv_at hl 1 rfl) ?_
    refine iald_n hx hb hKX hP 6 rfl rfl (by omega) (by decide) dX0_payAlone_29 ?_
    exact W.iret (v := ((upd ol_paid c (0 : Int32)) c)) hx hb hr (fun t ht hW => ⟨⟨((upd ol_paid c (0 : Int32)) c), upd ol_paid c (0 : Int32), rfl, by unfold f_X0_payAlone; rw [if_neg c1] <;> rfl, by rw [ht]; exact hP, hD⟩, hS.F ht⟩) hS.2.2 dX0_payAlone_30
def bd_X0_payByTurns_2 (os_kind : Nat → Int32) (os_limit : Nat → Int32) (os_retention : Nat → Int32) (os_quota : Nat → Int32) (bits : Int32) (left : Int32) (k2 : Nat) (z2 : (Nat → Int32)) : (Nat → Int32) :=
  if (f_X6_has bits (nI k2)) = (0 : Int32) then z2 else (upd z2 k2 (f_X0_mostOf os_kind os_limit os_retention os_quota left k2))
def f_X0_payByTurns (ol_most : Nat → Int32) (ol_paid : Nat → Int32) (os_kind : Nat → Int32) (os_limit : Nat → Int32) (os_retention : Nat → Int32) (os_quota : Nat → Int32) (bits : Int32) (left : Int32) (n : Nat) : Int32 × (Nat → Int32) × (Nat → Int32) :=
  ((f_X0_dealmp (itr (bd_X0_payByTurns_2 os_kind os_limit os_retention os_quota bits left) n ol_most) ol_paid left bits n).1, ((itr (bd_X0_payByTurns_2 os_kind os_limit os_retention os_quota bits left) n ol_most), (f_X0_dealmp (itr (bd_X0_payByTurns_2 os_kind os_limit os_retention os_quota bits left) n ol_most) ol_paid left bits n).2))
set_option maxHeartbeats 4000000 in
set_option maxRecDepth 100000 in
theorem c_X0_payByTurns (l : Launch) (D : va_G) (cy : Nat → ClassId) (ol : Nat → Nat) (os : Nat → Nat) (ol_reach : Nat → Int32) (ol_ringWith : Nat → Int32) (ol_rungOf : Nat → Int32) (ol_ringOf : Nat → Int32) (ol_most : Nat → Int32) (ol_paid : Nat → Int32) (ol_back : Nat → Int32) (ol_ringFirst : Nat → Int32) (ol_ringBits : Nat → Int32) (ol_ringRung : Nat → Int32) (ol_ringLeft : Nat → Int32) (ol_ringPaid : Nat → Int32) (ol_rings : Int32) (ol_paidInAll : Int32) (ol_over : Int32) (os_kind : Nat → Int32) (os_limit : Nat → Int32) (os_retention : Nat → Int32) (os_quota : Nat → Int32) (os_refers : Nat → Int32) (os_lossNow : Int32) (bits : Int32) (left : Int32) (n : Nat) (hn : n ≤ 6) : RwI (S := (Nat → Int32) × (Nat → Int32)) l D cy yX0_payByTurns (.code yX0_payByTurns cX0_payByTurns 4 (some .int)) 3 ((wX0 cy ol (os 0) ol_reach ol_ringWith ol_rungOf ol_ringOf ol_most ol_paid ol_back ol_ringFirst ol_ringBits ol_ringRung ol_ringLeft ol_ringPaid ol_rings ol_paidInAll ol_over) ++ (wX3 cy os os_kind os_limit os_retention os_quota os_refers (nI n) os_lossNow)) [.ref (ol 0), .int bits, .int left] (fun rr u => (rr, u) = f_X0_payByTurns ol_most ol_paid os_kind os_limit os_retention os_quota bits left n) (fun u => (wX0 cy ol (os 0) ol_reach ol_ringWith ol_rungOf ol_ringOf u.1 u.2 ol_back ol_ringFirst ol_ringBits ol_ringRung ol_ringLeft ol_ringPaid ol_rings ol_paidInAll ol_over) ++ (wX3 cy os os_kind os_limit os_retention os_quota os_refers (nI n) os_lossNow)) := by
  intro sz
  refine Met.ofW (cc := cX0_payByTurns) (maxL := 4) (ret := (some .int)) (by decide) rfl ?_
  intro pP eE s0 mM args below meth cC s₁ B hml hv
  obtain ⟨rfl, hsz, hP, hKX, hD0⟩ := hv
  have hx := B.exec
  have hb := B.bytes
  have hr := B.returns
  have hG := gw_hts (atoms_spec (ws := _) B.pre)
  have hown : s0.vm.findClass RX0 = some mM.cls := findClass_of_methodNamed B.named
  have hlocks := B.notSynchronized
  subst hsz
  have hD := hD0.self (sz := s0.heap.size)
  generalize hAe : va_A ((wX0 cy ol (os 0) ol_reach ol_ringWith ol_rungOf ol_ringOf ol_most ol_paid ol_back ol_ringFirst ol_ringBits ol_ringRung ol_ringLeft ol_ringPaid ol_rings ol_paidInAll ol_over) ++ (wX3 cy os os_kind os_limit os_retention os_quota os_refers (nI n) os_lossNow)) s0.heap.size = A at hD ⊢
  have hA : ∀ q : Nat, s0.heap.size ≤ q → A q := fun q h => by rw [← hAe]; exact Or.inr h
  have hS : va_S A s0.heap s0.heap [] := va_S.rf
  have hl := lv_entry ([.ref (ol 0), .int bits, .int left]) (n := 4) (Nat.le_of_ble_eq_true rfl)
  rw [lg_entry_eq]
  generalize (lg_sl ([.ref (ol 0), .int bits, .int left]) ++ List.replicate (4 - (lg_sl ([.ref (ol 0), .int bits, .int left])).length) Slot.unset).toArray = ls at hl ⊢
  have hl : lv_has ls 4 [(0, .ref (ol 0)), (1, .int bits), (2, .int left)] := hl
  refine lv_iconst (v := (0 : Int32)) hx hb dX0_payByTurns_0 (by decide) ?_
  refine lv_istore_n (lv' := [(3, .int (0 : Int32)), (0, .ref (ol 0)), (1, .int bits), (2, .int left)]) hx hb dX0_payByTurns_1 rfl hl (by decide) rfl (fun ls hl => ?_)
  refine loopW (bd_X0_payByTurns_2 os_kind os_limit os_retention os_quota bits left) ol_most n (fun k2 z2 => [(3, .int (nI k2)), (0, .ref (ol 0)), (1, .int bits), (2, .int left)]) (fun k2 z2 => (wX0 cy ol (os 0) ol_reach ol_ringWith ol_rungOf ol_ringOf z2 ol_paid ol_back ol_ringFirst ol_ringBits ol_ringRung ol_ringLeft ol_ringPaid ol_rings ol_paidInAll ol_over) ++ (wX3 cy os os_kind os_limit os_retention os_quota os_refers (nI n) os_lossNow)) hP hD hS (lv_sub hl [0, 1, 2, 3] rfl) (fun k2 z2 H locs ls hk2 hz2 hP hD hS hl ih2 => ?_)
  refine lv_iload_n hx hb dX0_payByTurns_2 rfl (lv_at hl 0 rfl) ?_
  refine lv_aload_n hx hb dX0_payByTurns_3 rfl (lv_at hl 1 rfl) ?_
  refine gf_X0_9 hx hb hG hown hKX hP 0 rfl rfl dX0_payByTurns_4 ?_
  refine gf_X0_77 hx hb hG hown hKX hP 13 rfl rfl dX0_payByTurns_7 ?_
  refine lv_icmp_ge (tgt := 39) hx hb dX0_payByTurns_10 (by decide) (fun c1 => ?_) (fun c1 => ?_)
  · have e_k2 : n = k2 := Nat.le_antisymm ((le_n (N := n) (k := k2) rfl (by omega) (by omega)).mp c1) hk2
    subst e_k2
    refine lv_aload_n hx hb dX0_payByTurns_39 rfl (lv_at hl 1 rfl) ?_
    refine lv_iload_n hx hb dX0_payByTurns_40 rfl (lv_at hl 3 rfl) ?_
    refine lv_iload_n hx hb dX0_payByTurns_41 rfl (lv_at hl 2 rfl) ?_
    refine lv_aload_n hx hb dX0_payByTurns_42 rfl (lv_at hl 1 rfl) ?_
    refine gf_X0_28 hx hb hG hown hKX hP 0 rfl rfl dX0_payByTurns_43 ?_
    refine lv_aload_n hx hb dX0_payByTurns_46 rfl (lv_at hl 1 rfl) ?_
    refine gf_X0_31 hx hb hG hown hKX hP 0 rfl rfl dX0_payByTurns_47 ?_
    refine cRwV (q0 := 0) (ci := 0) mw13_9 mw13_10 mw13_11 mw1_21 mw13_12 rfl rfl hd_X0_deal hx hb hml hown hG hKX (c_X0_dealmp l D cy ol os ol_reach ol_ringWith ol_rungOf ol_ringOf z2 ol_paid ol_back ol_ringFirst ol_ringBits ol_ringRung ol_ringLeft ol_ringPaid ol_rings ol_paidInAll ol_over os_kind os_limit os_retention os_quota os_refers os_lossNow left bits n hn) ⟨Nat.le_of_ble_eq_true rfl, Nat.le_of_ble_eq_true rfl⟩ ⟨Nat.zero_le _, Nat.zero_le _⟩ hP hD hS hA [0, 1, 2, 3, 4, 5, 6, 7, 8, 9, 10, 11, 12, 13, 14, 15, 16, 17, 18] [] [0, 1, 2, 3, 4, 5, 6, 7, 8, 9, 10, 11, 12, 13, 14, 15, 16, 17, 18] (wr := []) (wn := fun u50 => (wX0 cy ol (os 0) ol_reach ol_ringWith ol_rungOf ol_ringOf z2 u50 ol_back ol_ringFirst ol_ringBits ol_ringRung ol_ringLeft ol_ringPaid ol_rings ol_paidInAll ol_over) ++ (wX3 cy os os_kind os_limit os_retention os_quota os_refers (nI n) os_lossNow)) rfl (by decide) rfl (by decide) (by decide) (fun _ => rfl) (by decide) rfl rfl hl.1 rfl (Nat.le_of_ble_eq_true rfl) dX0_payByTurns_50 (fun r50 u50 H locs hw50 hP hD hS => ?_)
    exact W.iret (v := r50) hx hb hr (fun t ht hW => ⟨⟨r50, (z2, u50), rfl, by obtain rfl := congrArg Prod.fst hw50; obtain rfl := congrArg Prod.snd hw50; subst hz2; unfold f_X0_payByTurns; rfl, by rw [ht]; exact hP, hD⟩, hS.F ht⟩) hS.2.2 dX0_payByTurns_53
  · have hlt2 : k2 < n := Nat.lt_of_not_le (fun qq_ => c1 ((le_n (N := n) (k := k2) rfl (by omega) (by omega)).mpr qq_))
    refine lv_iload_n hx hb dX0_payByTurns_13 rfl (lv_at hl 2 rfl) ?_
    refine lv_iload_n hx hb dX0_payByTurns_14 rfl (lv_at hl 0 rfl) ?_
    refine cRoN mw8_18 mw1_2 mw8_19 hd_X6_has hKX.2.1 hx hb hml hown hG hKX (c_X6_has l D cy bits (nI k2)) ⟨Nat.le_of_ble_eq_true rfl, Nat.le_of_ble_eq_true rfl⟩ ⟨Nat.zero_le _, Nat.zero_le _⟩ (hP.sub [] rfl) rfl hl.1 rfl (Nat.le_of_ble_eq_true rfl) dX0_payByTurns_15 ?_
    refine lv_if_eq (tgt := 33) hx hb dX0_payByTurns_18 (by decide) (fun c2 => ?_) (fun c2 => ?_)
    · refine lv_iinc (v := nI (k2 + 1)) (lv' := [(3, .int (nI (k2 + 1))), (0, .ref (ol 0)), (1, .int bits), (2, .int left)]) hx hb dX0_payByTurns_33 hl (k := 0) rfl (nI_1 _) (by decide) rfl (fun ls hl => ?_)
      refine lv_goto (tgt := 2) hx hb dX0_payByTurns_36 (by decide) ?_
      exact ih2 z2 _ _ _ hlt2 (by unfold bd_X0_payByTurns_2; rw [if_pos c2] <;> rfl) hP hD hS (lv_sub hl [0, 1, 2, 3] rfl)
    · refine lv_aload_n hx hb dX0_payByTurns_21 rfl (lv_at hl 1 rfl) ?_
      refine gf_X0_28 hx hb hG hown hKX hP 0 rfl rfl dX0_payByTurns_22 ?_
      refine lv_iload_n hx hb dX0_payByTurns_25 rfl (lv_at hl 0 rfl) ?_
      refine lv_aload_n hx hb dX0_payByTurns_26 rfl (lv_at hl 1 rfl) ?_
      refine lv_iload_n hx hb dX0_payByTurns_27 rfl (lv_at hl 0 rfl) ?_
      refine lv_iload_n hx hb dX0_payByTurns_28 rfl (lv_at hl 3 rfl) ?_
      refine cRoV (q0 := 0) (ci := 0) mw12_17 mw12_18 mw12_19 mw1_21 mw12_20 rfl rfl hd_X0_mostOf hx hb hml hown hG hKX (c_X0_mostOf l D cy ol os ol_reach ol_ringWith ol_rungOf ol_ringOf z2 ol_paid ol_back ol_ringFirst ol_ringBits ol_ringRung ol_ringLeft ol_ringPaid ol_rings ol_paidInAll ol_over os_kind os_limit os_retention os_quota os_refers os_lossNow left n k2 hn (by omega)) ⟨Nat.le_of_ble_eq_true rfl, Nat.le_of_ble_eq_true rfl⟩ ⟨Nat.zero_le _, Nat.zero_le _⟩ hP rfl rfl hl.1 rfl (Nat.le_of_ble_eq_true rfl) dX0_payByTurns_29 ?_
      refine iast_n hx hb hKX hP hD hS 5 rfl rfl (by omega) (by decide) dX0_payByTurns_32 (fun H locs hP hD hS => ?_)
      have hP : va_P D vwCl ((wX0 cy ol (os 0) ol_reach ol_ringWith ol_rungOf ol_ringOf (upd z2 k2 (f_X0_mostOf os_kind os_limit os_retention os_quota left k2)) ol_paid ol_back ol_ringFirst ol_ringBits ol_ringRung ol_ringLeft ol_ringPaid ol_rings ol_paidInAll ol_over) ++ (wX3 cy os os_kind os_limit os_retention os_quota os_refers (nI n) os_lossNow)) H := hP
      have hD : va_D A ((wX0 cy ol (os 0) ol_reach ol_ringWith ol_rungOf ol_ringOf (upd z2 k2 (f_X0_mostOf os_kind os_limit os_retention os_quota left k2)) ol_paid ol_back ol_ringFirst ol_ringBits ol_ringRung ol_ringLeft ol_ringPaid ol_rings ol_paidInAll ol_over) ++ (wX3 cy os os_kind os_limit os_retention os_quota os_refers (nI n) os_lossNow)) := hD
      refine lv_iinc (v := nI (k2 + 1)) (lv' := [(3, .int (nI (k2 + 1))), (0, .ref (ol 0)), (1, .int bits), (2, .int left)]) hx hb dX0_payByTurns_33 hl (k := 0) rfl (nI_1 _) (by decide) rfl (fun ls hl => ?_)
      refine lv_goto (tgt := 2) hx hb dX0_payByTurns_36 (by decide) ?_
      exact ih2 (upd z2 k2 (f_X0_mostOf os_kind os_limit os_retention os_quota left k2)) _ _ _ hlt2 (by unfold bd_X0_payByTurns_2; rw [if_neg c2] <;> rfl) hP hD hS (lv_sub hl [0, 1, 2, 3] rfl)
def bd_X0_payAt_4 (ol_ringWith : Nat → Int32) (ol_ringBits : Nat → Int32) (os_kind : Nat → Int32) (os_limit : Nat → Int32) (os_retention : Nat → Int32) (os_quota : Nat → Int32) (os_refers : Nat → Int32) (n : Nat) (rf : Nat → Nat) (k4 : Nat) (z4 : Int32 × (Nat → Int32) × (Nat → Int32) × (Nat → Int32) × (Nat → Int32)) : Int32 × (Nat → Int32) × (Nat → Int32) × (Nat → Int32) × (Nat → Int32) :=
  if (f_X0_isAlone ol_ringWith (rf k4)) = (0 : Int32) then ((z4.1 - ((upd z4.2.2.1 k4 (f_X0_payByTurns z4.2.2.2.1 z4.2.2.2.2 os_kind os_limit os_retention os_quota (ol_ringBits k4) z4.1 n).1) k4)), upd z4.2.1 k4 z4.1, upd z4.2.2.1 k4 (f_X0_payByTurns z4.2.2.2.1 z4.2.2.2.2 os_kind os_limit os_retention os_quota (ol_ringBits k4) z4.1 n).1, (f_X0_payByTurns z4.2.2.2.1 z4.2.2.2.2 os_kind os_limit os_retention os_quota (ol_ringBits k4) z4.1 n).2.1, (f_X0_payByTurns z4.2.2.2.1 z4.2.2.2.2 os_kind os_limit os_retention os_quota (ol_ringBits k4) z4.1 n).2.2) else ((z4.1 - ((upd z4.2.2.1 k4 (f_X0_payAlone ol_ringWith z4.2.2.2.2 os_kind os_limit os_retention os_quota os_refers z4.1 n (rf k4)).1) k4)), upd z4.2.1 k4 z4.1, upd z4.2.2.1 k4 (f_X0_payAlone ol_ringWith z4.2.2.2.2 os_kind os_limit os_retention os_quota os_refers z4.1 n (rf k4)).1, z4.2.2.2.1, (f_X0_payAlone ol_ringWith z4.2.2.2.2 os_kind os_limit os_retention os_quota os_refers z4.1 n (rf k4)).2)
def f_X0_payAt (ol_ringWith : Nat → Int32) (ol_most : Nat → Int32) (ol_paid : Nat → Int32) (ol_ringBits : Nat → Int32) (ol_ringLeft : Nat → Int32) (ol_ringPaid : Nat → Int32) (os_kind : Nat → Int32) (os_limit : Nat → Int32) (os_retention : Nat → Int32) (os_quota : Nat → Int32) (os_refers : Nat → Int32) (loss : Int32) (n : Nat) (r : Nat) (rf : Nat → Nat) : (Nat → Int32) × (Nat → Int32) × (Nat → Int32) × (Nat → Int32) × Int32 × Int32 :=
  ((itr (bd_X0_payAt_4 ol_ringWith ol_ringBits os_kind os_limit os_retention os_quota os_refers n rf) r (loss, ol_ringLeft, ol_ringPaid, ol_most, ol_paid)).2.2.2.1, (itr (bd_X0_payAt_4 ol_ringWith ol_ringBits os_kind os_limit os_retention os_quota os_refers n rf) r (loss, ol_ringLeft, ol_ringPaid, ol_most, ol_paid)).2.2.2.2, (itr (bd_X0_payAt_4 ol_ringWith ol_ringBits os_kind os_limit os_retention os_quota os_refers n rf) r (loss, ol_ringLeft, ol_ringPaid, ol_most, ol_paid)).2.1, (itr (bd_X0_payAt_4 ol_ringWith ol_ringBits os_kind os_limit os_retention os_quota os_refers n rf) r (loss, ol_ringLeft, ol_ringPaid, ol_most, ol_paid)).2.2.1, (loss - (itr (bd_X0_payAt_4 ol_ringWith ol_ringBits os_kind os_limit os_retention os_quota os_refers n rf) r (loss, ol_ringLeft, ol_ringPaid, ol_most, ol_paid)).1), (itr (bd_X0_payAt_4 ol_ringWith ol_ringBits os_kind os_limit os_retention os_quota os_refers n rf) r (loss, ol_ringLeft, ol_ringPaid, ol_most, ol_paid)).1)
set_option maxHeartbeats 4000000 in
set_option maxRecDepth 100000 in
theorem c_X0_payAt (l : Launch) (D : va_G) (cy : Nat → ClassId) (ol : Nat → Nat) (os : Nat → Nat) (ol_reach : Nat → Int32) (ol_ringWith : Nat → Int32) (ol_rungOf : Nat → Int32) (ol_ringOf : Nat → Int32) (ol_most : Nat → Int32) (ol_paid : Nat → Int32) (ol_back : Nat → Int32) (ol_ringFirst : Nat → Int32) (ol_ringBits : Nat → Int32) (ol_ringRung : Nat → Int32) (ol_ringLeft : Nat → Int32) (ol_ringPaid : Nat → Int32) (ol_paidInAll : Int32) (ol_over : Int32) (os_kind : Nat → Int32) (os_limit : Nat → Int32) (os_retention : Nat → Int32) (os_quota : Nat → Int32) (os_refers : Nat → Int32) (os_lossNow : Int32) (loss : Int32) (n : Nat) (r : Nat) (rf : Nat → Nat) (hn : n ≤ 6) (hrn : r ≤ 6) (hfst : ∀ k, k < r → ol_ringFirst k = nI (rf k) ∧ rf k < n) : RwV (S := (Nat → Int32) × (Nat → Int32) × (Nat → Int32) × (Nat → Int32) × Int32 × Int32) l D cy yX0_payAt (.code yX0_payAt cX0_payAt 4 none) 4 ((wX0 cy ol (os 0) ol_reach ol_ringWith ol_rungOf ol_ringOf ol_most ol_paid ol_back ol_ringFirst ol_ringBits ol_ringRung ol_ringLeft ol_ringPaid (nI r) ol_paidInAll ol_over) ++ (wX3 cy os os_kind os_limit os_retention os_quota os_refers (nI n) os_lossNow)) [.ref (ol 0), .int loss] (fun u => u = f_X0_payAt ol_ringWith ol_most ol_paid ol_ringBits ol_ringLeft ol_ringPaid os_kind os_limit os_retention os_quota os_refers loss n r rf) (fun u => (wX0 cy ol (os 0) ol_reach ol_ringWith ol_rungOf ol_ringOf u.1 u.2.1 ol_back ol_ringFirst ol_ringBits ol_ringRung u.2.2.1 u.2.2.2.1 (nI r) u.2.2.2.2.1 u.2.2.2.2.2) ++ (wX3 cy os os_kind os_limit os_retention os_quota os_refers (nI n) os_lossNow)) := by
  intro sz
  refine Met.ofW (cc := cX0_payAt) (maxL := 4) (ret := none) (by decide) rfl ?_
  intro pP eE s0 mM args below meth cC s₁ B hml hv
  obtain ⟨rfl, hsz, hP, hKX, hD0⟩ := hv
  have hx := B.exec
  have hb := B.bytes
  have hr := B.returns
  have hG := gw_hts (atoms_spec (ws := _) B.pre)
  have hown : s0.vm.findClass RX0 = some mM.cls := findClass_of_methodNamed B.named
  have hlocks := B.notSynchronized
  subst hsz
  have hD := hD0.self (sz := s0.heap.size)
  generalize hAe : va_A ((wX0 cy ol (os 0) ol_reach ol_ringWith ol_rungOf ol_ringOf ol_most ol_paid ol_back ol_ringFirst ol_ringBits ol_ringRung ol_ringLeft ol_ringPaid (nI r) ol_paidInAll ol_over) ++ (wX3 cy os os_kind os_limit os_retention os_quota os_refers (nI n) os_lossNow)) s0.heap.size = A at hD ⊢
  have hA : ∀ q : Nat, s0.heap.size ≤ q → A q := fun q h => by rw [← hAe]; exact Or.inr h
  have hS : va_S A s0.heap s0.heap [] := va_S.rf
  have hl := lv_entry ([.ref (ol 0), .int loss]) (n := 4) (Nat.le_of_ble_eq_true rfl)
  rw [lg_entry_eq]
  generalize (lg_sl ([.ref (ol 0), .int loss]) ++ List.replicate (4 - (lg_sl ([.ref (ol 0), .int loss])).length) Slot.unset).toArray = ls at hl ⊢
  have hl : lv_has ls 4 [(0, .ref (ol 0)), (1, .int loss)] := hl
  refine lv_iload_n hx hb dX0_payAt_0 rfl (lv_at hl 1 rfl) ?_
  refine lv_istore_n (lv' := [(2, .int loss), (0, .ref (ol 0)), (1, .int loss)]) hx hb dX0_payAt_1 rfl hl (by decide) rfl (fun ls hl => ?_)
  refine lv_iconst (v := (0 : Int32)) hx hb dX0_payAt_2 (by decide) ?_
  refine lv_istore_n (lv' := [(3, .int (0 : Int32)), (2, .int loss), (0, .ref (ol 0)), (1, .int loss)]) hx hb dX0_payAt_3 rfl hl (by decide) rfl (fun ls hl => ?_)
  refine loopW (bd_X0_payAt_4 ol_ringWith ol_ringBits os_kind os_limit os_retention os_quota os_refers n rf) (loss, ol_ringLeft, ol_ringPaid, ol_most, ol_paid) r (fun k4 z4 => [(3, .int (nI k4)), (2, .int z4.1), (0, .ref (ol 0)), (1, .int loss)]) (fun k4 z4 => (wX0 cy ol (os 0) ol_reach ol_ringWith ol_rungOf ol_ringOf z4.2.2.2.1 z4.2.2.2.2 ol_back ol_ringFirst ol_ringBits ol_ringRung z4.2.1 z4.2.2.1 (nI r) ol_paidInAll ol_over) ++ (wX3 cy os os_kind os_limit os_retention os_quota os_refers (nI n) os_lossNow)) hP hD hS (lv_sub hl [0, 1, 2, 3] rfl) (fun k4 z4 H locs ls hk4 hz4 hP hD hS hl ih4 => ?_)
  refine lv_iload_n hx hb dX0_payAt_4 rfl (lv_at hl 0 rfl) ?_
  refine lv_aload_n hx hb dX0_payAt_5 rfl (lv_at hl 2 rfl) ?_
  refine gf_X0_100 hx hb hG hown hKX hP 0 rfl rfl dX0_payAt_6 ?_
  refine lv_icmp_ge (tgt := 78) hx hb dX0_payAt_9 (by decide) (fun c1 => ?_) (fun c1 => ?_)
  · have e_k4 : r = k4 := Nat.le_antisymm ((le_n (N := r) (k := k4) rfl (by omega) (by omega)).mp c1) hk4
    subst e_k4
    refine lv_aload_n hx hb dX0_payAt_78 rfl (lv_at hl 2 rfl) ?_
    refine lv_iload_n hx hb dX0_payAt_79 rfl (lv_at hl 3 rfl) ?_
    refine lv_iload_n hx hb dX0_payAt_80 rfl (lv_at hl 1 rfl) ?_
    refine lv_isub hx hb dX0_payAt_81 ?_
    refine pf_X0_113 hx hb hG hown hKX hP hD hS 0 rfl rfl rfl (Nat.le_of_ble_eq_true rfl) dX0_payAt_82 (wn := (wX0 cy ol (os 0) ol_reach ol_ringWith ol_rungOf ol_ringOf z4.2.2.2.1 z4.2.2.2.2 ol_back ol_ringFirst ol_ringBits ol_ringRung z4.2.1 z4.2.2.1 (nI r) (loss - z4.1) ol_over) ++ (wX3 cy os os_kind os_limit os_retention os_quota os_refers (nI n) os_lossNow)) rfl (fun H locs hP hD hS => ?_)
    refine lv_aload_n hx hb dX0_payAt_85 rfl (lv_at hl 2 rfl) ?_
    refine lv_iload_n hx hb dX0_payAt_86 rfl (lv_at hl 1 rfl) ?_
    refine pf_X0_116 hx hb hG hown hKX hP hD hS 0 rfl rfl rfl (Nat.le_of_ble_eq_true rfl) dX0_payAt_87 (wn := (wX0 cy ol (os 0) ol_reach ol_ringWith ol_rungOf ol_ringOf z4.2.2.2.1 z4.2.2.2.2 ol_back ol_ringFirst ol_ringBits ol_ringRung z4.2.1 z4.2.2.1 (nI r) (loss - z4.1) z4.1) ++ (wX3 cy os os_kind os_limit os_retention os_quota os_refers (nI n) os_lossNow)) rfl (fun H locs hP hD hS => ?_)
    exact W.vret hx hb hr (fun t ht hW => ⟨⟨(z4.2.2.2.1, z4.2.2.2.2, z4.2.1, z4.2.2.1, (loss - z4.1), z4.1), rfl, by subst hz4; unfold f_X0_payAt; rfl, by rw [ht]; exact hP, hD⟩, hS.F ht⟩) hS.2.2 dX0_payAt_90
  · have hlt4 : k4 < r := Nat.lt_of_not_le (fun qq_ => c1 ((le_n (N := r) (k := k4) rfl (by omega) (by omega)).mpr qq_))
    refine lv_aload_n hx hb dX0_payAt_12 rfl (lv_at hl 2 rfl) ?_
    refine gf_X0_46 hx hb hG hown hKX hP 0 rfl rfl dX0_payAt_13 ?_
    refine lv_iload_n hx hb dX0_payAt_16 rfl (lv_at hl 0 rfl) ?_
    refine lv_iload_n hx hb dX0_payAt_17 rfl (lv_at hl 1 rfl) ?_
    refine iast_n hx hb hKX hP hD hS 11 rfl rfl (by omega) (by decide) dX0_payAt_18 (fun H locs hP hD hS => ?_)
    have hP : va_P D vwCl ((wX0 cy ol (os 0) ol_reach ol_ringWith ol_rungOf ol_ringOf z4.2.2.2.1 z4.2.2.2.2 ol_back ol_ringFirst ol_ringBits ol_ringRung (upd z4.2.1 k4 z4.1) z4.2.2.1 (nI r) ol_paidInAll ol_over) ++ (wX3 cy os os_kind os_limit os_retention os_quota os_refers (nI n) os_lossNow)) H := hP
    have hD : va_D A ((wX0 cy ol (os 0) ol_reach ol_ringWith ol_rungOf ol_ringOf z4.2.2.2.1 z4.2.2.2.2 ol_back ol_ringFirst ol_ringBits ol_ringRung (upd z4.2.1 k4 z4.1) z4.2.2.1 (nI r) ol_paidInAll ol_over) ++ (wX3 cy os os_kind os_limit os_retention os_quota os_refers (nI n) os_lossNow)) := hD
    refine lv_aload_n hx hb dX0_payAt_19 rfl (lv_at hl 2 rfl) ?_
    refine gf_X0_49 hx hb hG hown hKX hP 0 rfl rfl dX0_payAt_20 ?_
    refine lv_iload_n hx hb dX0_payAt_23 rfl (lv_at hl 0 rfl) ?_
    refine lv_aload_n hx hb dX0_payAt_24 rfl (lv_at hl 2 rfl) ?_
    refine lv_aload_n hx hb dX0_payAt_25 rfl (lv_at hl 2 rfl) ?_
    refine gf_X0_37 hx hb hG hown hKX hP 0 rfl rfl dX0_payAt_26 ?_
    refine lv_iload_n hx hb dX0_payAt_29 rfl (lv_at hl 0 rfl) ?_
    refine iald_v hx hb hKX hP 8 rfl rfl (by omega) (by decide) (hfst k4 (by omega)).1 dX0_payAt_30 ?_
    refine cRoV (q0 := 0) (ci := 0) mw12_0 mw12_1 mw12_2 mw1_21 mw12_3 rfl rfl hd_X0_isAlone hx hb hml hown hG hKX (c_X0_isAlone l D cy ol os ol_reach ol_ringWith ol_rungOf ol_ringOf z4.2.2.2.1 z4.2.2.2.2 ol_back ol_ringFirst ol_ringBits ol_ringRung (upd z4.2.1 k4 z4.1) z4.2.2.1 (nI r) ol_paidInAll ol_over os_kind os_limit os_retention os_quota os_refers os_lossNow n (rf k4) hn (hfst k4 (by omega)).2) ⟨Nat.le_of_ble_eq_true rfl, Nat.le_of_ble_eq_true rfl⟩ ⟨Nat.zero_le _, Nat.zero_le _⟩ hP rfl rfl hl.1 rfl (Nat.le_of_ble_eq_true rfl) dX0_payAt_31 ?_
    refine lv_if_eq (tgt := 51) hx hb dX0_payAt_34 (by decide) (fun c2 => ?_) (fun c2 => ?_)
    · refine lv_aload_n hx hb dX0_payAt_51 rfl (lv_at hl 2 rfl) ?_
      refine lv_aload_n hx hb dX0_payAt_52 rfl (lv_at hl 2 rfl) ?_
      refine gf_X0_40 hx hb hG hown hKX hP 0 rfl rfl dX0_payAt_53 ?_
      refine lv_iload_n hx hb dX0_payAt_56 rfl (lv_at hl 0 rfl) ?_
      refine iald_n hx hb hKX hP 9 rfl rfl (by omega) (by decide) dX0_payAt_57 ?_
      refine lv_iload_n hx hb dX0_payAt_58 rfl (lv_at hl 1 rfl) ?_
      refine cRwV (q0 := 0) (ci := 0) mw13_5 mw13_6 mw13_7 mw1_21 mw13_8 rfl rfl hd_X0_payByTurns hx hb hml hown hG hKX (c_X0_payByTurns l D cy ol os ol_reach ol_ringWith ol_rungOf ol_ringOf z4.2.2.2.1 z4.2.2.2.2 ol_back ol_ringFirst ol_ringBits ol_ringRung (upd z4.2.1 k4 z4.1) z4.2.2.1 (nI r) ol_paidInAll ol_over os_kind os_limit os_retention os_quota os_refers os_lossNow (ol_ringBits k4) z4.1 n hn) ⟨Nat.le_of_ble_eq_true rfl, Nat.le_of_ble_eq_true rfl⟩ ⟨Nat.zero_le _, Nat.zero_le _⟩ hP hD hS hA [0, 1, 2, 3, 4, 5, 6, 7, 8, 9, 10, 11, 12, 13, 14, 15, 16, 17, 18] [] [0, 1, 2, 3, 4, 5, 6, 7, 8, 9, 10, 11, 12, 13, 14, 15, 16, 17, 18] (wr := []) (wn := fun u59 => (wX0 cy ol (os 0) ol_reach ol_ringWith ol_rungOf ol_ringOf u59.1 u59.2 ol_back ol_ringFirst ol_ringBits ol_ringRung (upd z4.2.1 k4 z4.1) z4.2.2.1 (nI r) ol_paidInAll ol_over) ++ (wX3 cy os os_kind os_limit os_retention os_quota os_refers (nI n) os_lossNow)) rfl (by decide) rfl (by decide) (by decide) (fun _ => rfl) (by decide) rfl rfl hl.1 rfl (Nat.le_of_ble_eq_true rfl) dX0_payAt_59 (fun r59 u59 H locs hw59 hP hD hS => ?_)
      refine iast_n hx hb hKX hP hD hS 12 rfl rfl (by omega) (by decide) dX0_payAt_62 (fun H locs hP hD hS => ?_)
      have hP : va_P D vwCl ((wX0 cy ol (os 0) ol_reach ol_ringWith ol_rungOf ol_ringOf u59.1 u59.2 ol_back ol_ringFirst ol_ringBits ol_ringRung (upd z4.2.1 k4 z4.1) (upd z4.2.2.1 k4 r59) (nI r) ol_paidInAll ol_over) ++ (wX3 cy os os_kind os_limit os_retention os_quota os_refers (nI n) os_lossNow)) H := hP
      have hD : va_D A ((wX0 cy ol (os 0) ol_reach ol_ringWith ol_rungOf ol_ringOf u59.1 u59.2 ol_back ol_ringFirst ol_ringBits ol_ringRung (upd z4.2.1 k4 z4.1) (upd z4.2.2.1 k4 r59) (nI r) ol_paidInAll ol_over) ++ (wX3 cy os os_kind os_limit os_retention os_quota os_refers (nI n) os_lossNow)) := hD
      refine lv_iload_n hx hb dX0_payAt_63 rfl (lv_at hl 1 rfl) ?_
      refine lv_aload_n hx hb dX0_payAt_64 rfl (lv_at hl 2 rfl) ?_
      refine gf_X0_49 hx hb hG hown hKX hP 0 rfl rfl dX0_payAt_65 ?_
      refine lv_iload_n hx hb dX0_payAt_68 rfl (lv_at hl 0 rfl) ?_
      refine iald_n hx hb hKX hP 12 rfl rfl (by omega) (by decide) dX0_payAt_69 ?_
      refine lv_isub hx hb dX0_payAt_70 ?_
      refine lv_istore_n (lv' := [(2, .int (z4.1 - ((upd z4.2.2.1 k4 r59) k4))), (3, .int (nI k4)), (0, .ref (ol 0)), (1, .int loss)]) hx hb dX0_payAt_71 rfl hl (by decide) rfl (fun ls hl => ?_)
      refine lv_iinc (v := nI (k4 + 1)) (lv' := [(3, .int (nI (k4 + 1))), (2, .int (z4.1 - ((upd z4.2.2.1 k4 r59) k4))), (0, .ref (ol 0)), (1, .int loss)]) hx hb dX0_payAt_72 hl (k := 1) rfl (nI_1 _) (by decide) rfl (fun ls hl => ?_)
      refine lv_goto (tgt := 4) hx hb dX0_payAt_75 (by decide) ?_
      exact ih4 ((z4.1 - ((upd z4.2.2.1 k4 r59) k4)), upd z4.2.1 k4 z4.1, upd z4.2.2.1 k4 r59, u59.1, u59.2) _ _ _ hlt4 (by obtain rfl := congrArg Prod.fst hw59; obtain rfl := congrArg Prod.snd hw59; unfold bd_X0_payAt_4; rw [if_pos c2] <;> rfl) hP hD hS (lv_sub hl [0, 1, 2, 3] rfl)
    · refine lv_aload_n hx hb dX0_payAt_37 rfl (lv_at hl 2 rfl) ?_
      refine lv_aload_n hx hb dX0_payAt_38 rfl (lv_at hl 2 rfl) ?_
      refine gf_X0_37 hx hb hG hown hKX hP 0 rfl rfl dX0_payAt_39 ?_
      refine lv_iload_n hx hb dX0_payAt_42 rfl (lv_at hl 0 rfl) ?_
      refine iald_v hx hb hKX hP 8 rfl rfl (by omega) (by decide) (hfst k4 (by omega)).1 dX0_payAt_43 ?_
      refine lv_iload_n hx hb dX0_payAt_44 rfl (lv_at hl 1 rfl) ?_
      refine cRwV (q0 := 0) (ci := 0) mw12_4 mw12_5 mw12_6 mw1_21 mw12_7 rfl rfl hd_X0_payAlone hx hb hml hown hG hKX (c_X0_payAlone l D cy ol os ol_reach ol_ringWith ol_rungOf ol_ringOf z4.2.2.2.1 z4.2.2.2.2 ol_back ol_ringFirst ol_ringBits ol_ringRung (upd z4.2.1 k4 z4.1) z4.2.2.1 (nI r) ol_paidInAll ol_over os_kind os_limit os_retention os_quota os_refers os_lossNow z4.1 n (rf k4) hn (hfst k4 (by omega)).2) ⟨Nat.le_of_ble_eq_true rfl, Nat.le_of_ble_eq_true rfl⟩ ⟨Nat.zero_le _, Nat.zero_le _⟩ hP hD hS hA [0, 1, 2, 3, 4, 5, 6, 7, 8, 9, 10, 11, 12, 13, 14, 15, 16, 17, 18] [] [0, 1, 2, 3, 4, 5, 6, 7, 8, 9, 10, 11, 12, 13, 14, 15, 16, 17, 18] (wr := []) (wn := fun u45 => (wX0 cy ol (os 0) ol_reach ol_ringWith ol_rungOf ol_ringOf z4.2.2.2.1 u45 ol_back ol_ringFirst ol_ringBits ol_ringRung (upd z4.2.1 k4 z4.1) z4.2.2.1 (nI r) ol_paidInAll ol_over) ++ (wX3 cy os os_kind os_limit os_retention os_quota os_refers (nI n) os_lossNow)) rfl (by decide) rfl (by decide) (by decide) (fun _ => rfl) (by decide) rfl rfl hl.1 rfl (Nat.le_of_ble_eq_true rfl) dX0_payAt_45 (fun r45 u45 H locs hw45 hP hD hS => ?_)
      refine lv_goto (tgt := 62) hx hb dX0_payAt_48 (by decide) ?_
      refine iast_n hx hb hKX hP hD hS 12 rfl rfl (by omega) (by decide) dX0_payAt_62 (fun H locs hP hD hS => ?_)
      have hP : va_P D vwCl ((wX0 cy ol (os 0) ol_reach ol_ringWith ol_rungOf ol_ringOf z4.2.2.2.1 u45 ol_back ol_ringFirst ol_ringBits ol_ringRung (upd z4.2.1 k4 z4.1) (upd z4.2.2.1 k4 r45) (nI r) ol_paidInAll ol_over) ++ (wX3 cy os os_kind os_limit os_retention os_quota os_refers (nI n) os_lossNow)) H := hP
      have hD : va_D A ((wX0 cy ol (os 0) ol_reach ol_ringWith ol_rungOf ol_ringOf z4.2.2.2.1 u45 ol_back ol_ringFirst ol_ringBits ol_ringRung (upd z4.2.1 k4 z4.1) (upd z4.2.2.1 k4 r45) (nI r) ol_paidInAll ol_over) ++ (wX3 cy os os_kind os_limit os_retention os_quota os_refers (nI n) os_lossNow)) := hD
      refine lv_iload_n hx hb dX0_payAt_63 rfl (lv_at hl 1 rfl) ?_
      refine lv_aload_n hx hb dX0_payAt_64 rfl (lv_at hl 2 rfl) ?_
      refine gf_X0_49 hx hb hG hown hKX hP 0 rfl rfl dX0_payAt_65 ?_
      refine lv_iload_n hx hb dX0_payAt_68 rfl (lv_at hl 0 rfl) ?_
      refine iald_n hx hb hKX hP 12 rfl rfl (by omega) (by decide) dX0_payAt_69 ?_
      refine lv_isub hx hb dX0_payAt_70 ?_
      refine lv_istore_n (lv' := [(2, .int (z4.1 - ((upd z4.2.2.1 k4 r45) k4))), (3, .int (nI k4)), (0, .ref (ol 0)), (1, .int loss)]) hx hb dX0_payAt_71 rfl hl (by decide) rfl (fun ls hl => ?_)
      refine lv_iinc (v := nI (k4 + 1)) (lv' := [(3, .int (nI (k4 + 1))), (2, .int (z4.1 - ((upd z4.2.2.1 k4 r45) k4))), (0, .ref (ol 0)), (1, .int loss)]) hx hb dX0_payAt_72 hl (k := 1) rfl (nI_1 _) (by decide) rfl (fun ls hl => ?_)
      refine lv_goto (tgt := 4) hx hb dX0_payAt_75 (by decide) ?_
      exact ih4 ((z4.1 - ((upd z4.2.2.1 k4 r45) k4)), upd z4.2.1 k4 z4.1, upd z4.2.2.1 k4 r45, z4.2.2.2.1, u45) _ _ _ hlt4 (by obtain rfl := congrArg Prod.fst hw45; obtain rfl := congrArg Prod.snd hw45; unfold bd_X0_payAt_4; rw [if_neg c2] <;> rfl) hP hD hS (lv_sub hl [0, 1, 2, 3] rfl)
