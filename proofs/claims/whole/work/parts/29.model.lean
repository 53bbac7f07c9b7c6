def bd_X7_rungAt_2 (om_rings : Nat → Int32) (c : Nat) (k2 : Nat) : Option Int32 :=
  if (f_X7_has (om_rings k2) (nI c)) = (0 : Int32) then none else (some (nI k2))
def f_X7_rungAt (om_rings : Nat → Int32) (r : Nat) (c : Nat) : Int32 :=
  (srch (bd_X7_rungAt_2 om_rings c) r 0).getD (-1 : Int32)
set_option maxHeartbeats 4000000 in
set_option maxRecDepth 100000 in
theorem c_X7_rungAt (l : Launch) (D : va_G) (cy : Nat → ClassId) (om : Nat → Nat) (om_thrown : Int32) (om_s : Nat → Int32) (om_kept : Nat → Int32) (om_aside : Nat → Int32) (om_isKept : Int32) (om_reaches : Nat → Int32) (om_ringOf : Nat → Int32) (om_rungOf : Nat → Int32) (om_rings : Nat → Int32) (om_paid : Nat → Int32) (om_leftOf : Nat → Int32) (om_ringPaid : Nat → Int32) (om_paidAll : Int32) (om_mosts : Nat → Int32) (om_text : Nat → Int32) (om_signs : Int32) (om_at : Int32) (om_isWrong : Int32) (om_clauses : Int32) (om_letters : Nat → Int32) (om_one : Nat → Int32) (om_two : Nat → Int32) (om_three : Nat → Int32) (om_whys : Nat → Int32) (om_backs : Nat → Int32) (om_sorts : Nat → Int32) (om_sizes : Nat → Int32) (om_items : Nat → Int64) (n : Nat) (r : Nat) (c : Nat) (hn : n ≤ 6) (hs0 : om_s 0 = nI n) (hrn : r ≤ 6) (hc : c < n) : RoI l D cy yX7_rungAt (.code yX7_rungAt cX7_rungAt 3 (some .int)) 1 (wX7 cy om om_thrown om_s om_kept om_aside om_isKept om_reaches om_ringOf om_rungOf om_rings (nI r) om_paid om_leftOf om_ringPaid om_paidAll om_mosts om_text om_signs om_at om_isWrong om_clauses om_letters om_one om_two om_three om_whys om_backs om_sorts om_sizes om_items) [.ref (om 0), .int (nI c)] (f_X7_rungAt om_rings r c) := by
  refine Met.ofW (cc := cX7_rungAt) (maxL := 3) (ret := (some .int)) (by decide) rfl ?_
  intro pP eE s0 mM args below meth cC s₁ B hml hv
  obtain ⟨rfl, hP, hKX⟩ := hv
  have hx := B.exec
  have hb := B.bytes
  have hr := B.returns
  have hG := gw_hts (atoms_spec (ws := _) B.pre)
  have hown : s0.vm.findClass RX7 = some mM.cls := findClass_of_methodNamed B.named
  have hlocks := B.notSynchronized
  have hl := lv_entry ([.ref (om 0), .int (nI c)]) (n := 3) (Nat.le_of_ble_eq_true rfl)
  rw [lg_entry_eq]
  generalize (lg_sl ([.ref (om 0), .int (nI c)]) ++ List.replicate (3 - (lg_sl ([.ref (om 0), .int (nI c)])).length) Slot.unset).toArray = ls at hl ⊢
  have hl : lv_has ls 3 [(0, .ref (om 0)), (1, .int (nI c))] := hl
  refine lv_iconst (v := (0 : Int32)) hx hb dX7_rungAt_0 (by decide) ?_
  refine lv_istore_n (lv' := [(2, .int (0 : Int32)), (0, .ref (om 0)), (1, .int (nI c))]) hx hb dX7_rungAt_1 rfl hl (by decide) rfl (fun ls hl => ?_)
  refine loopS (bd_X7_rungAt_2 om_rings c) r (fun k2 => [(2, .int (nI k2)), (0, .ref (om 0)), (1, .int (nI c))]) (lv_sub hl [0, 1, 2] rfl) (fun k2 ls hk2 hz2 hl ih2 => ?_)
  refine lv_iload_n hx hb dX7_rungAt_2 rfl (lv_at hl 0 rfl) ?_
  refine lv_aload_n hx hb dX7_rungAt_3 rfl (lv_at hl 1 rfl) ?_
  refine gf_X7_115 hx hb hG hown hKX hP 0 rfl rfl dX7_rungAt_4 ?_
  refine lv_icmp_ge (tgt := 31) hx hb dX7_rungAt_7 (by decide) (fun c1 => ?_) (fun c1 => ?_)
  · have e_k2 : r = k2 := Nat.le_antisymm ((le_n (N := r) (k := k2) rfl (by omega) (by omega)).mp c1) hk2
    subst e_k2
    refine lv_iconst (v := (-1 : Int32)) hx hb dX7_rungAt_31 (by decide) ?_
    exact W.iret (v := (-1 : Int32)) hx hb hr (fun t ht hW => ⟨_, rfl, by unfold f_X7_rungAt; rw [srch_none hz2, Option.getD_none] <;> rfl, ht⟩) (fun q hq => by cases hq) dX7_rungAt_32
  · have hlt2 : k2 < r := Nat.lt_of_not_le (fun qq_ => c1 ((le_n (N := r) (k := k2) rfl (by omega) (by omega)).mpr qq_))
    refine lv_aload_n hx hb dX7_rungAt_10 rfl (lv_at hl 1 rfl) ?_
    refine gf_X7_34 hx hb hG hown hKX hP 0 rfl rfl dX7_rungAt_11 ?_
    refine lv_iload_n hx hb dX7_rungAt_14 rfl (lv_at hl 0 rfl) ?_
    refine iald_n hx hb hKX hP 7 rfl rfl (by omega) (by decide) dX7_rungAt_15 ?_
    refine lv_iload_n hx hb dX7_rungAt_16 rfl (lv_at hl 2 rfl) ?_
    refine cRoS mw14_23 mw15_0 mw1_5 mw15_1 hd_X7_has hx hb hml hown hG hKX (c_X7_has l D cy (om_rings k2) (nI c)) ⟨Nat.le_of_ble_eq_true rfl, Nat.le_of_ble_eq_true rfl⟩ ⟨Nat.zero_le _, Nat.zero_le _⟩ (hP.sub [] rfl) rfl hl.1 rfl (Nat.le_of_ble_eq_true rfl) dX7_rungAt_17 ?_
    refine lv_if_eq (tgt := 25) hx hb dX7_rungAt_20 (by decide) (fun c2 => ?_) (fun c2 => ?_)
    · refine lv_iinc (v := nI (k2 + 1)) (lv' := [(2, .int (nI (k2 + 1))), (0, .ref (om 0)), (1, .int (nI c))]) hx hb dX7_rungAt_25 hl (k := 0) rfl (nI_1 _) (by decide) rfl (fun ls hl => ?_)
      refine lv_goto (tgt := 2) hx hb dX7_rungAt_28 (by decide) ?_
      exact ih2 _ hlt2 (by unfold bd_X7_rungAt_2; rw [if_pos c2] <;> rfl) (lv_sub hl [0, 1, 2] rfl)
    · refine lv_iload_n hx hb dX7_rungAt_23 rfl (lv_at hl 0 rfl) ?_
      exact W.iret (v := nI k2) hx hb hr (fun t ht hW => ⟨_, rfl, by unfold f_X7_rungAt; rw [srch_some (r := nI k2) hz2 hlt2 (by unfold bd_X7_rungAt_2; rw [if_neg c2] <;> rfl), Option.getD_some] <;> rfl, ht⟩) (fun q hq => by cases hq) dX7_rungAt_24
def bd_X7_payers_4 (om_paid : Nat → Int32) (k4 : Nat) (z4 : Int32) : Int32 :=
  if (om_paid k4) ≤ (0 : Int32) then z4 else (z4 + (1 : Int32))
def f_X7_payers (om_paid : Nat → Int32) (n : Nat) : Int32 :=
  (itr (bd_X7_payers_4 om_paid) n (0 : Int32))
set_option maxHeartbeats 4000000 in
set_option maxRecDepth 100000 in
theorem c_X7_payers (l : Launch) (D : va_G) (cy : Nat → ClassId) (om : Nat → Nat) (om_thrown : Int32) (om_s : Nat → Int32) (om_kept : Nat → Int32) (om_aside : Nat → Int32) (om_isKept : Int32) (om_reaches : Nat → Int32) (om_ringOf : Nat → Int32) (om_rungOf : Nat → Int32) (om_rings : Nat → Int32) (om_ringMany : Int32) (om_paid : Nat → Int32) (om_leftOf : Nat → Int32) (om_ringPaid : Nat → Int32) (om_paidAll : Int32) (om_mosts : Nat → Int32) (om_text : Nat → Int32) (om_signs : Int32) (om_at : Int32) (om_isWrong : Int32) (om_clauses : Int32) (om_letters : Nat → Int32) (om_one : Nat → Int32) (om_two : Nat → Int32) (om_three : Nat → Int32) (om_whys : Nat → Int32) (om_backs : Nat → Int32) (om_sorts : Nat → Int32) (om_sizes : Nat → Int32) (om_items : Nat → Int64) (n : Nat) (hn : n ≤ 6) (hs0 : om_s 0 = nI n) : RoI l D cy yX7_payers (.code yX7_payers cX7_payers 3 (some .int)) 0 (wX7 cy om om_thrown om_s om_kept om_aside om_isKept om_reaches om_ringOf om_rungOf om_rings om_ringMany om_paid om_leftOf om_ringPaid om_paidAll om_mosts om_text om_signs om_at om_isWrong om_clauses om_letters om_one om_two om_three om_whys om_backs om_sorts om_sizes om_items) [.ref (om 0)] (f_X7_payers om_paid n) := by
  refine Met.ofW (cc := cX7_payers) (maxL := 3) (ret := (some .int)) (by decide) rfl ?_
  intro pP eE s0 mM args below meth cC s₁ B hml hv
  obtain ⟨rfl, hP, hKX⟩ := hv
  have hx := B.exec
  have hb := B.bytes
  have hr := B.returns
  have hG := gw_hts (atoms_spec (ws := _) B.pre)
  have hown : s0.vm.findClass RX7 = some mM.cls := findClass_of_methodNamed B.named
  have hlocks := B.notSynchronized
  have hl := lv_entry ([.ref (om 0)]) (n := 3) (Nat.le_of_ble_eq_true rfl)
  rw [lg_entry_eq]
  generalize (lg_sl ([.ref (om 0)]) ++ List.replicate (3 - (lg_sl ([.ref (om 0)])).length) Slot.unset).toArray = ls at hl ⊢
  have hl : lv_has ls 3 [(0, .ref (om 0))] := hl
  refine lv_iconst (v := (0 : Int32)) hx hb dX7_payers_0 (by decide) ?_
  refine lv_istore_n (lv' := [(1, .int (0 : Int32)), (0, .ref (om 0))]) hx hb dX7_payers_1 rfl hl (by decide) rfl (fun ls hl => ?_)
  refine lv_iconst (v := (0 : Int32)) hx hb dX7_payers_2 (by decide) ?_
  refine lv_istore_n (lv' := [(2, .int (0 : Int32)), (1, .int (0 : Int32)), (0, .ref (om 0))]) hx hb dX7_payers_3 rfl hl (by decide) rfl (fun ls hl => ?_)
  refine loopR (bd_X7_payers_4 om_paid) (0 : Int32) n (fun k4 z4 => [(2, .int (nI k4)), (1, .int z4), (0, .ref (om 0))]) (lv_sub hl [0, 1, 2] rfl) (fun k4 z4 ls hk4 hz4 hl ih4 => ?_)
  refine lv_iload_n hx hb dX7_payers_4 rfl (lv_at hl 0 rfl) ?_
  refine lv_aload_n hx hb dX7_payers_5 rfl (lv_at hl 2 rfl) ?_
  refine gf_X7_15 hx hb hG hown hKX hP 0 rfl rfl dX7_payers_6 ?_
  refine lv_iconst (v := (0 : Int32)) hx hb dX7_payers_9 (by decide) ?_
  refine iald_v hx hb hKX hP 1 rfl rfl (by decide) (by decide) hs0 dX7_payers_10 ?_
  refine lv_icmp_ge (tgt := 32) hx hb dX7_payers_11 (by decide) (fun c1 => ?_) (fun c1 => ?_)
  · have e_k4 : n = k4 := Nat.le_antisymm ((le_n (N := n) (k := k4) rfl (by omega) (by omega)).mp c1) hk4
    subst e_k4
    refine lv_iload_n hx hb dX7_payers_32 rfl (lv_at hl 1 rfl) ?_
    exact W.iret (v := z4) hx hb hr (fun t ht hW => ⟨_, rfl, by subst hz4; unfold f_X7_payers; rfl, ht⟩) (fun q hq => by cases hq) dX7_payers_33
  · have hlt4 : k4 < n := Nat.lt_of_not_le (fun qq_ => c1 ((le_n (N := n) (k := k4) rfl (by omega) (by omega)).mpr qq_))
    refine lv_aload_n hx hb dX7_payers_14 rfl (lv_at hl 2 rfl) ?_
    refine gf_X7_37 hx hb hG hown hKX hP 0 rfl rfl dX7_payers_15 ?_
    refine lv_iload_n hx hb dX7_payers_18 rfl (lv_at hl 0 rfl) ?_
    refine iald_n hx hb hKX hP 8 rfl rfl (by omega) (by decide) dX7_payers_19 ?_
    refine lv_if_le (tgt := 26) hx hb dX7_payers_20 (by decide) (fun c2 => ?_) (fun c2 => ?_)
    · refine lv_iinc (v := nI (k4 + 1)) (lv' := [(2, .int (nI (k4 + 1))), (1, .int z4), (0, .ref (om 0))]) hx hb dX7_payers_26 hl (k := 0) rfl (nI_1 _) (by decide) rfl (fun ls hl => ?_)
      refine lv_goto (tgt := 4) hx hb dX7_payers_29 (by decide) ?_
      exact ih4 z4 _ hlt4 (by unfold bd_X7_payers_4; rw [if_pos c2] <;> rfl) (lv_sub hl [0, 1, 2] rfl)
    · refine lv_iinc (v := (z4 + (1 : Int32))) (lv' := [(1, .int (z4 + (1 : Int32))), (2, .int (nI k4)), (0, .ref (om 0))]) hx hb dX7_payers_23 hl (k := 1) rfl rfl (by decide) rfl (fun ls hl => ?_)
      refine lv_iinc (v := nI (k4 + 1)) (lv' := [(2, .int (nI (k4 + 1))), (1, .int (z4 + (1 : Int32))), (0, .ref (om 0))]) hx hb dX7_payers_26 hl (k := 1) rfl (nI_1 _) (by decide) rfl (fun ls hl => ?_)
      refine lv_goto (tgt := 4) hx hb dX7_payers_29 (by decide) ?_
      exact ih4 (z4 + (1 : Int32)) _ hlt4 (by unfold bd_X7_payers_4; rw [if_neg c2] <;> rfl) (lv_sub hl [0, 1, 2] rfl)
def bd_X7_severals_4 (om_rings : Nat → Int32) (k4 : Nat) (z4 : Int32) : Int32 :=
  if (f_X7_bits (om_rings k4)) ≤ (1 : Int32) then z4 else (z4 + (1 : Int32))
def f_X7_severals (om_rings : Nat → Int32) (r : Nat) : Int32 :=
  (itr (bd_X7_severals_4 om_rings) r (0 : Int32))
set_option maxHeartbeats 4000000 in
set_option maxRecDepth 100000 in
theorem c_X7_severals (l : Launch) (D : va_G) (cy : Nat → ClassId) (om : Nat → Nat) (om_thrown : Int32) (om_s : Nat → Int32) (om_kept : Nat → Int32) (om_aside : Nat → Int32) (om_isKept : Int32) (om_reaches : Nat → Int32) (om_ringOf : Nat → Int32) (om_rungOf : Nat → Int32) (om_rings : Nat → Int32) (om_paid : Nat → Int32) (om_leftOf : Nat → Int32) (om_ringPaid : Nat → Int32) (om_paidAll : Int32) (om_mosts : Nat → Int32) (om_text : Nat → Int32) (om_signs : Int32) (om_at : Int32) (om_isWrong : Int32) (om_clauses : Int32) (om_letters : Nat → Int32) (om_one : Nat → Int32) (om_two : Nat → Int32) (om_three : Nat → Int32) (om_whys : Nat → Int32) (om_backs : Nat → Int32) (om_sorts : Nat → Int32) (om_sizes : Nat → Int32) (om_items : Nat → Int64) (n : Nat) (r : Nat) (hn : n ≤ 6) (hs0 : om_s 0 = nI n) (hrn : r ≤ 6) : RoI l D cy yX7_severals (.code yX7_severals cX7_severals 3 (some .int)) 1 (wX7 cy om om_thrown om_s om_kept om_aside om_isKept om_reaches om_ringOf om_rungOf om_rings (nI r) om_paid om_leftOf om_ringPaid om_paidAll om_mosts om_text om_signs om_at om_isWrong om_clauses om_letters om_one om_two om_three om_whys om_backs om_sorts om_sizes om_items) [.ref (om 0)] (f_X7_severals om_rings r) := by
  refine Met.ofW (cc := cX7_severals) (maxL := 3) (ret := (some .int)) (by decide) rfl ?_
  intro pP eE s0 mM args below meth cC s₁ B hml hv
  obtain ⟨rfl, hP, hKX⟩ := hv
  have hx := B.exec
  have hb := B.bytes
  have hr := B.returns
  have hG := gw_hts (atoms_spec (ws := _) B.pre)
  have hown : s0.vm.findClass RX7 = some mM.cls := findClass_of_methodNamed B.named
  have hlocks := B.notSynchronized
  have hl := lv_entry ([.ref (om 0)]) (n := 3) (Nat.le_of_ble_eq_true rfl)
  rw [lg_entry_eq]
  generalize (lg_sl ([.ref (om 0)]) ++ List.replicate (3 - (lg_sl ([.ref (om 0)])).length) Slot.unset).toArray = ls at hl ⊢
  have hl : lv_has ls 3 [(0, .ref (om 0))] := hl
  refine lv_iconst (v := (0 : Int32)) hx hb dX7_severals_0 (by decide) ?_
  refine lv_istore_n (lv' := [(1, .int (0 : Int32)), (0, .ref (om 0))]) hx hb dX7_severals_1 rfl hl (by decide) rfl (fun ls hl => ?_)
  refine lv_iconst (v := (0 : Int32)) hx hb dX7_severals_2 (by decide) ?_
  refine lv_istore_n (lv' := [(2, .int (0 : Int32)), (1, .int (0 : Int32)), (0, .ref (om 0))]) hx hb dX7_severals_3 rfl hl (by decide) rfl (fun ls hl => ?_)
  refine loopR (bd_X7_severals_4 om_rings) (0 : Int32) r (fun k4 z4 => [(2, .int (nI k4)), (1, .int z4), (0, .ref (om 0))]) (lv_sub hl [0, 1, 2] rfl) (fun k4 z4 ls hk4 hz4 hl ih4 => ?_)
  refine lv_iload_n hx hb dX7_severals_4 rfl (lv_at hl 0 rfl) ?_
  refine lv_aload_n hx hb dX7_severals_5 rfl (lv_at hl 2 rfl) ?_
  refine gf_X7_115 hx hb hG hown hKX hP 0 rfl rfl dX7_severals_6 ?_
  refine lv_icmp_ge (tgt := 34) hx hb dX7_severals_9 (by decide) (fun c1 => ?_) (fun c1 => ?_)
  · have e_k4 : r = k4 := Nat.le_antisymm ((le_n (N := r) (k := k4) rfl (by omega) (by omega)).mp c1) hk4
    subst e_k4
    refine lv_iload_n hx hb dX7_severals_34 rfl (lv_at hl 1 rfl) ?_
    exact W.iret (v := z4) hx hb hr (fun t ht hW => ⟨_, rfl, by subst hz4; unfold f_X7_severals; rfl, ht⟩) (fun q hq => by cases hq) dX7_severals_35
  · have hlt4 : k4 < r := Nat.lt_of_not_le (fun qq_ => c1 ((le_n (N := r) (k := k4) rfl (by omega) (by omega)).mpr qq_))
    refine lv_aload_n hx hb dX7_severals_12 rfl (lv_at hl 2 rfl) ?_
    refine gf_X7_34 hx hb hG hown hKX hP 0 rfl rfl dX7_severals_13 ?_
    refine lv_iload_n hx hb dX7_severals_16 rfl (lv_at hl 0 rfl) ?_
    refine iald_n hx hb hKX hP 7 rfl rfl (by omega) (by decide) dX7_severals_17 ?_
    refine cRoS mw15_14 mw15_15 mw1_5 mw15_16 hd_X7_bits hx hb hml hown hG hKX (c_X7_bits l D cy (om_rings k4)) ⟨Nat.le_of_ble_eq_true rfl, Nat.le_of_ble_eq_true rfl⟩ ⟨Nat.zero_le _, Nat.zero_le _⟩ (hP.sub [] rfl) rfl hl.1 rfl (Nat.le_of_ble_eq_true rfl) dX7_severals_18 ?_
    refine lv_iconst (v := (1 : Int32)) hx hb dX7_severals_21 (by decide) ?_
    refine lv_icmp_le (tgt := 28) hx hb dX7_severals_22 (by decide) (fun c2 => ?_) (fun c2 => ?_)
    · refine lv_iinc (v := nI (k4 + 1)) (lv' := [(2, .int (nI (k4 + 1))), (1, .int z4), (0, .ref (om 0))]) hx hb dX7_severals_28 hl (k := 0) rfl (nI_1 _) (by decide) rfl (fun ls hl => ?_)
      refine lv_goto (tgt := 4) hx hb dX7_severals_31 (by decide) ?_
      exact ih4 z4 _ hlt4 (by unfold bd_X7_severals_4; rw [if_pos c2] <;> rfl) (lv_sub hl [0, 1, 2] rfl)
    · refine lv_iinc (v := (z4 + (1 : Int32))) (lv' := [(1, .int (z4 + (1 : Int32))), (2, .int (nI k4)), (0, .ref (om 0))]) hx hb dX7_severals_25 hl (k := 1) rfl rfl (by decide) rfl (fun ls hl => ?_)
      refine lv_iinc (v := nI (k4 + 1)) (lv' := [(2, .int (nI (k4 + 1))), (1, .int (z4 + (1 : Int32))), (0, .ref (om 0))]) hx hb dX7_severals_28 hl (k := 1) rfl (nI_1 _) (by decide) rfl (fun ls hl => ?_)
      refine lv_goto (tgt := 4) hx hb dX7_severals_31 (by decide) ?_
      exact ih4 (z4 + (1 : Int32)) _ hlt4 (by unfold bd_X7_severals_4; rw [if_neg c2] <;> rfl) (lv_sub hl [0, 1, 2] rfl)
def bd_X7_greatestRung_5 (om_rungOf : Nat → Int32) (k5 : Nat) (z5 : Int32) : Int32 :=
  if (om_rungOf k5) ≤ z5 then z5 else (om_rungOf k5)
def f_X7_greatestRung (om_rungOf : Nat → Int32) (n : Nat) : Int32 :=
  (itr (bd_X7_greatestRung_5 om_rungOf) n (-5 : Int32))
set_option maxHeartbeats 4000000 in
set_option maxRecDepth 100000 in
theorem c_X7_greatestRung (l : Launch) (D : va_G) (cy : Nat → ClassId) (om : Nat → Nat) (om_thrown : Int32) (om_s : Nat → Int32) (om_kept : Nat → Int32) (om_aside : Nat → Int32) (om_isKept : Int32) (om_reaches : Nat → Int32) (om_ringOf : Nat → Int32) (om_rungOf : Nat → Int32) (om_rings : Nat → Int32) (om_ringMany : Int32) (om_paid : Nat → Int32) (om_leftOf : Nat → Int32) (om_ringPaid : Nat → Int32) (om_paidAll : Int32) (om_mosts : Nat → Int32) (om_text : Nat → Int32) (om_signs : Int32) (om_at : Int32) (om_isWrong : Int32) (om_clauses : Int32) (om_letters : Nat → Int32) (om_one : Nat → Int32) (om_two : Nat → Int32) (om_three : Nat → Int32) (om_whys : Nat → Int32) (om_backs : Nat → Int32) (om_sorts : Nat → Int32) (om_sizes : Nat → Int32) (om_items : Nat → Int64) (n : Nat) (hn : n ≤ 6) (hs0 : om_s 0 = nI n) : RoI l D cy yX7_greatestRung (.code yX7_greatestRung cX7_greatestRung 3 (some .int)) 0 (wX7 cy om om_thrown om_s om_kept om_aside om_isKept om_reaches om_ringOf om_rungOf om_rings om_ringMany om_paid om_leftOf om_ringPaid om_paidAll om_mosts om_text om_signs om_at om_isWrong om_clauses om_letters om_one om_two om_three om_whys om_backs om_sorts om_sizes om_items) [.ref (om 0)] (f_X7_greatestRung om_rungOf n) := by
  refine Met.ofW (cc := cX7_greatestRung) (maxL := 3) (ret := (some .int)) (by decide) rfl ?_
  intro pP eE s0 mM args below meth cC s₁ B hml hv
  obtain ⟨rfl, hP, hKX⟩ := hv
  have hx := B.exec
  have hb := B.bytes
  have hr := B.returns
  have hG := gw_hts (atoms_spec (ws := _) B.pre)
  have hown : s0.vm.findClass RX7 = some mM.cls := findClass_of_methodNamed B.named
  have hlocks := B.notSynchronized
  have hl := lv_entry ([.ref (om 0)]) (n := 3) (Nat.le_of_ble_eq_true rfl)
  rw [lg_entry_eq]
  generalize (lg_sl ([.ref (om 0)]) ++ List.replicate (3 - (lg_sl ([.ref (om 0)])).length) Slot.unset).toArray = ls at hl ⊢
  have hl : lv_has ls 3 [(0, .ref (om 0))] := hl
  refine lv_bipush (v := (-5 : Int32)) hx hb dX7_greatestRung_0 (by decide) ?_
  refine lv_istore_n (lv' := [(1, .int (-5 : Int32)), (0, .ref (om 0))]) hx hb dX7_greatestRung_2 rfl hl (by decide) rfl (fun ls hl => ?_)
  refine lv_iconst (v := (0 : Int32)) hx hb dX7_greatestRung_3 (by decide) ?_
  refine lv_istore_n (lv' := [(2, .int (0 : Int32)), (1, .int (-5 : Int32)), (0, .ref (om 0))]) hx hb dX7_greatestRung_4 rfl hl (by decide) rfl (fun ls hl => ?_)
  refine loopR (bd_X7_greatestRung_5 om_rungOf) (-5 : Int32) n (fun k5 z5 => [(2, .int (nI k5)), (1, .int z5), (0, .ref (om 0))]) (lv_sub hl [0, 1, 2] rfl) (fun k5 z5 ls hk5 hz5 hl ih5 => ?_)
  refine lv_iload_n hx hb dX7_greatestRung_5 rfl (lv_at hl 0 rfl) ?_
  refine lv_aload_n hx hb dX7_greatestRung_6 rfl (lv_at hl 2 rfl) ?_
  refine gf_X7_15 hx hb hG hown hKX hP 0 rfl rfl dX7_greatestRung_7 ?_
  refine lv_iconst (v := (0 : Int32)) hx hb dX7_greatestRung_10 (by decide) ?_
  refine iald_v hx hb hKX hP 1 rfl rfl (by decide) (by decide) hs0 dX7_greatestRung_11 ?_
  refine lv_icmp_ge (tgt := 42) hx hb dX7_greatestRung_12 (by decide) (fun c1 => ?_) (fun c1 => ?_)
  · have e_k5 : n = k5 := Nat.le_antisymm ((le_n (N := n) (k := k5) rfl (by omega) (by omega)).mp c1) hk5
    subst e_k5
    refine lv_iload_n hx hb dX7_greatestRung_42 rfl (lv_at hl 1 rfl) ?_
    exact W.iret (v := z5) hx hb hr (fun t ht hW => ⟨_, rfl, by subst hz5; unfold f_X7_greatestRung; rfl, ht⟩) (fun q hq => by cases hq) dX7_greatestRung_43
  · have hlt5 : k5 < n := Nat.lt_of_not_le (fun qq_ => c1 ((le_n (N := n) (k := k5) rfl (by omega) (by omega)).mpr qq_))
    refine lv_aload_n hx hb dX7_greatestRung_15 rfl (lv_at hl 2 rfl) ?_
    refine gf_X7_31 hx hb hG hown hKX hP 0 rfl rfl dX7_greatestRung_16 ?_
    refine lv_iload_n hx hb dX7_greatestRung_19 rfl (lv_at hl 0 rfl) ?_
    refine iald_n hx hb hKX hP 6 rfl rfl (by omega) (by decide) dX7_greatestRung_20 ?_
    refine lv_iload_n hx hb dX7_greatestRung_21 rfl (lv_at hl 1 rfl) ?_
    refine lv_icmp_le (tgt := 34) hx hb dX7_greatestRung_22 (by decide) (fun c2 => ?_) (fun c2 => ?_)
    · refine lv_iload_n hx hb dX7_greatestRung_34 rfl (lv_at hl 1 rfl) ?_
      refine lv_istore_n (lv' := [(1, .int z5), (2, .int (nI k5)), (0, .ref (om 0))]) hx hb dX7_greatestRung_35 rfl hl (by decide) rfl (fun ls hl => ?_)
      refine lv_iinc (v := nI (k5 + 1)) (lv' := [(2, .int (nI (k5 + 1))), (1, .int z5), (0, .ref (om 0))]) hx hb dX7_greatestRung_36 hl (k := 1) rfl (nI_1 _) (by decide) rfl (fun ls hl => ?_)
      refine lv_goto (tgt := 5) hx hb dX7_greatestRung_39 (by decide) ?_
      exact ih5 z5 _ hlt5 (by unfold bd_X7_greatestRung_5; rw [if_pos c2] <;> rfl) (lv_sub hl [0, 1, 2] rfl)
    · refine lv_aload_n hx hb dX7_greatestRung_25 rfl (lv_at hl 2 rfl) ?_
      refine gf_X7_31 hx hb hG hown hKX hP 0 rfl rfl dX7_greatestRung_26 ?_
      refine lv_iload_n hx hb dX7_greatestRung_29 rfl (lv_at hl 0 rfl) ?_
      refine iald_n hx hb hKX hP 6 rfl rfl (by omega) (by decide) dX7_greatestRung_30 ?_
      refine lv_goto (tgt := 35) hx hb dX7_greatestRung_31 (by decide) ?_
      refine lv_istore_n (lv' := [(1, .int (om_rungOf k5)), (2, .int (nI k5)), (0, .ref (om 0))]) hx hb dX7_greatestRung_35 rfl hl (by decide) rfl (fun ls hl => ?_)
      refine lv_iinc (v := nI (k5 + 1)) (lv' := [(2, .int (nI (k5 + 1))), (1, .int (om_rungOf k5)), (0, .ref (om 0))]) hx hb dX7_greatestRung_36 hl (k := 1) rfl (nI_1 _) (by decide) rfl (fun ls hl => ?_)
      refine lv_goto (tgt := 5) hx hb dX7_greatestRung_39 (by decide) ?_
      exact ih5 (om_rungOf k5) _ hlt5 (by unfold bd_X7_greatestRung_5; rw [if_neg c2] <;> rfl) (lv_sub hl [0, 1, 2] rfl)
def bd_X7_references_4 (om_s : Nat → Int32) (k4 : Nat) (z4 : Int32) : Int32 :=
  (z4 + (f_X7_bits (om_s (29 + k4))))
def f_X7_references (om_s : Nat → Int32) (n : Nat) : Int32 :=
  (itr (bd_X7_references_4 om_s) n (0 : Int32))
set_option maxHeartbeats 4000000 in
set_option maxRecDepth 100000 in
theorem c_X7_references (l : Launch) (D : va_G) (cy : Nat → ClassId) (om : Nat → Nat) (om_thrown : Int32) (om_s : Nat → Int32) (om_kept : Nat → Int32) (om_aside : Nat → Int32) (om_isKept : Int32) (om_reaches : Nat → Int32) (om_ringOf : Nat → Int32) (om_rungOf : Nat → Int32) (om_rings : Nat → Int32) (om_ringMany : Int32) (om_paid : Nat → Int32) (om_leftOf : Nat → Int32) (om_ringPaid : Nat → Int32) (om_paidAll : Int32) (om_mosts : Nat → Int32) (om_text : Nat → Int32) (om_signs : Int32) (om_at : Int32) (om_isWrong : Int32) (om_clauses : Int32) (om_letters : Nat → Int32) (om_one : Nat → Int32) (om_two : Nat → Int32) (om_three : Nat → Int32) (om_whys : Nat → Int32) (om_backs : Nat → Int32) (om_sorts : Nat → Int32) (om_sizes : Nat → Int32) (om_items : Nat → Int64) (n : Nat) (hn : n ≤ 6) (hs0 : om_s 0 = nI n) : RoI l D cy yX7_references (.code yX7_references cX7_references 3 (some .int)) 1 (wX7 cy om om_thrown om_s om_kept om_aside om_isKept om_reaches om_ringOf om_rungOf om_rings om_ringMany om_paid om_leftOf om_ringPaid om_paidAll om_mosts om_text om_signs om_at om_isWrong om_clauses om_letters om_one om_two om_three om_whys om_backs om_sorts om_sizes om_items) [.ref (om 0)] (f_X7_references om_s n) := by
  refine Met.ofW (cc := cX7_references) (maxL := 3) (ret := (some .int)) (by decide) rfl ?_
  intro pP eE s0 mM args below meth cC s₁ B hml hv
  obtain ⟨rfl, hP, hKX⟩ := hv
  have hx := B.exec
  have hb := B.bytes
  have hr := B.returns
  have hG := gw_hts (atoms_spec (ws := _) B.pre)
  have hown : s0.vm.findClass RX7 = some mM.cls := findClass_of_methodNamed B.named
  have hlocks := B.notSynchronized
  have hl := lv_entry ([.ref (om 0)]) (n := 3) (Nat.le_of_ble_eq_true rfl)
  rw [lg_entry_eq]
  generalize (lg_sl ([.ref (om 0)]) ++ List.replicate (3 - (lg_sl ([.ref (om 0)])).length) Slot.unset).toArray = ls at hl ⊢
  have hl : lv_has ls 3 [(0, .ref (om 0))] := hl
  refine lv_iconst (v := (0 : Int32)) hx hb dX7_references_0 (by decide) ?_
  refine lv_istore_n (lv' := [(1, .int (0 : Int32)), (0, .ref (om 0))]) hx hb dX7_references_1 rfl hl (by decide) rfl (fun ls hl => ?_)
  refine lv_iconst (v := (0 : Int32)) hx hb dX7_references_2 (by decide) ?_
  refine lv_istore_n (lv' := [(2, .int (0 : Int32)), (1, .int (0 : Int32)), (0, .ref (om 0))]) hx hb dX7_references_3 rfl hl (by decide) rfl (fun ls hl => ?_)
  refine loopR (bd_X7_references_4 om_s) (0 : Int32) n (fun k4 z4 => [(2, .int (nI k4)), (1, .int z4), (0, .ref (om 0))]) (lv_sub hl [0, 1, 2] rfl) (fun k4 z4 ls hk4 hz4 hl ih4 => ?_)
  refine lv_iload_n hx hb dX7_references_4 rfl (lv_at hl 0 rfl) ?_
  refine lv_aload_n hx hb dX7_references_5 rfl (lv_at hl 2 rfl) ?_
  refine gf_X7_15 hx hb hG hown hKX hP 0 rfl rfl dX7_references_6 ?_
  refine lv_iconst (v := (0 : Int32)) hx hb dX7_references_9 (by decide) ?_
  refine iald_v hx hb hKX hP 1 rfl rfl (by decide) (by decide) hs0 dX7_references_10 ?_
  refine lv_icmp_ge (tgt := 35) hx hb dX7_references_11 (by decide) (fun c1 => ?_) (fun c1 => ?_)
  · have e_k4 : n = k4 := Nat.le_antisymm ((le_n (N := n) (k := k4) rfl (by omega) (by omega)).mp c1) hk4
    subst e_k4
    refine lv_iload_n hx hb dX7_references_35 rfl (lv_at hl 1 rfl) ?_
    exact W.iret (v := z4) hx hb hr (fun t ht hW => ⟨_, rfl, by subst hz4; unfold f_X7_references; rfl, ht⟩) (fun q hq => by cases hq) dX7_references_36
  · have hlt4 : k4 < n := Nat.lt_of_not_le (fun qq_ => c1 ((le_n (N := n) (k := k4) rfl (by omega) (by omega)).mpr qq_))
    refine lv_iload_n hx hb dX7_references_14 rfl (lv_at hl 1 rfl) ?_
    refine lv_aload_n hx hb dX7_references_15 rfl (lv_at hl 2 rfl) ?_
    refine gf_X7_15 hx hb hG hown hKX hP 0 rfl rfl dX7_references_16 ?_
    refine lv_bipush (v := (29 : Int32)) hx hb dX7_references_19 (by decide) ?_
    refine lv_iload_n hx hb dX7_references_21 rfl (lv_at hl 0 rfl) ?_
    refine lv_iadd hx hb dX7_references_22 ?_
    refine topi_eq (y := nI (29 + k4)) (aN rfl rfl) ?_
    refine iald_n hx hb hKX hP 1 rfl rfl (by omega) (by decide) dX7_references_23 ?_
    refine cRoS mw15_14 mw15_15 mw1_5 mw15_16 hd_X7_bits hx hb hml hown hG hKX (c_X7_bits l D cy (om_s (29 + k4))) ⟨Nat.le_of_ble_eq_true rfl, Nat.le_of_ble_eq_true rfl⟩ ⟨Nat.zero_le _, Nat.zero_le _⟩ (hP.sub [] rfl) rfl hl.1 rfl (Nat.le_of_ble_eq_true rfl) dX7_references_24 ?_
    refine lv_iadd hx hb dX7_references_27 ?_
    refine lv_istore_n (lv' := [(1, .int (z4 + (f_X7_bits (om_s (29 + k4))))), (2, .int (nI k4)), (0, .ref (om 0))]) hx hb dX7_references_28 rfl hl (by decide) rfl (fun ls hl => ?_)
    refine lv_iinc (v := nI (k4 + 1)) (lv' := [(2, .int (nI (k4 + 1))), (1, .int (z4 + (f_X7_bits (om_s (29 + k4))))), (0, .ref (om 0))]) hx hb dX7_references_29 hl (k := 1) rfl (nI_1 _) (by decide) rfl (fun ls hl => ?_)
    refine lv_goto (tgt := 4) hx hb dX7_references_32 (by decide) ?_
    exact ih4 (z4 + (f_X7_bits (om_s (29 + k4)))) _ hlt4 (by unfold bd_X7_references_4; rfl) (lv_sub hl [0, 1, 2] rfl)
def f_X7_because (om_whys : Nat → Int32) (a : Int32) (b : Int32) (d : Int32) : (Nat → Int32) :=
  upd (upd (upd om_whys 0 a) 1 b) 2 d
set_option maxHeartbeats 4000000 in
set_option maxRecDepth 100000 in
theorem c_X7_because (l : Launch) (D : va_G) (cy : Nat → ClassId) (om : Nat → Nat) (om_thrown : Int32) (om_s : Nat → Int32) (om_kept : Nat → Int32) (om_aside : Nat → Int32) (om_isKept : Int32) (om_reaches : Nat → Int32) (om_ringOf : Nat → Int32) (om_rungOf : Nat → Int32) (om_rings : Nat → Int32) (om_ringMany : Int32) (om_paid : Nat → Int32) (om_leftOf : Nat → Int32) (om_ringPaid : Nat → Int32) (om_paidAll : Int32) (om_mosts : Nat → Int32) (om_text : Nat → Int32) (om_signs : Int32) (om_at : Int32) (om_isWrong : Int32) (om_clauses : Int32) (om_letters : Nat → Int32) (om_one : Nat → Int32) (om_two : Nat → Int32) (om_three : Nat → Int32) (om_whys : Nat → Int32) (om_backs : Nat → Int32) (om_sorts : Nat → Int32) (om_sizes : Nat → Int32) (om_items : Nat → Int64) (a : Int32) (b : Int32) (d : Int32) : RwV (S := (Nat → Int32)) l D cy yX7_because (.code yX7_because cX7_because 4 none) 0 (wX7 cy om om_thrown om_s om_kept om_aside om_isKept om_reaches om_ringOf om_rungOf om_rings om_ringMany om_paid om_leftOf om_ringPaid om_paidAll om_mosts om_text om_signs om_at om_isWrong om_clauses om_letters om_one om_two om_three om_whys om_backs om_sorts om_sizes om_items) [.ref (om 0), .int a, .int b, .int d] (fun u => u = f_X7_because om_whys a b d) (fun u => wX7 cy om om_thrown om_s om_kept om_aside om_isKept om_reaches om_ringOf om_rungOf om_rings om_ringMany om_paid om_leftOf om_ringPaid om_paidAll om_mosts om_text om_signs om_at om_isWrong om_clauses om_letters om_one om_two om_three u om_backs om_sorts om_sizes om_items) := by
  intro sz
  refine Met.ofW (cc := cX7_because) (maxL := 4) (ret := none) (by decide) rfl ?_
  intro pP eE s0 mM args below meth cC s₁ B hml hv
  obtain ⟨rfl, hsz, hP, hKX, hD0⟩ := hv
  have hx := B.exec
  have hb := B.bytes
  have hr := B.returns
  have hG := gw_hts (atoms_spec (ws := _) B.pre)
  have hown : s0.vm.findClass RX7 = some mM.cls := findClass_of_methodNamed B.named
  have hlocks := B.notSynchronized
  subst hsz
  have hD := hD0.self (sz := s0.heap.size)
  generalize hAe : va_A (wX7 cy om om_thrown om_s om_kept om_aside om_isKept om_reaches om_ringOf om_rungOf om_rings om_ringMany om_paid om_leftOf om_ringPaid om_paidAll om_mosts om_text om_signs om_at om_isWrong om_clauses om_letters om_one om_two om_three om_whys om_backs om_sorts om_sizes om_items) s0.heap.size = A at hD ⊢
  have hA : ∀ q : Nat, s0.heap.size ≤ q → A q := fun q h => by rw [← hAe]; exact Or.inr h
  have hS : va_S A s0.heap s0.heap [] := va_S.rf
  have hl := lv_entry ([.ref (om 0), .int a, .int b, .int d]) (n := 4) (Nat.le_of_ble_eq_true rfl)
  rw [lg_entry_eq]
  generalize (lg_sl ([.ref (om 0), .int a, .int b, .int d]) ++ List.replicate (4 - (lg_sl ([.ref (om 0), .int a, .int b, .int d])).length) Slot.unset).toArray = ls at hl ⊢
  have hl : lv_has ls 4 [(0, .ref (om 0)), (1, .int a), (2, .int b), (3, .int d)] := hl
  refine lv_aload_n hx hb dX7_because_0 rfl (lv_at hl 0 rfl) ?_
  refine gf_X7_64 hx hb hG hown hKX hP 0 rfl rfl dX7_because_1 ?_
  refine lv_iconst (v := (0 : Int32)) hx hb dX7_because_4 (by decide) ?_
  refine lv_iload_n hx hb dX7_because_5 rfl (lv_at hl 1 rfl) ?_
  refine iast_n hx hb hKX hP hD hS 17 rfl rfl (by decide) (by decide) dX7_because_6 (fun H locs hP hD hS => ?_)
  have hP : va_P D vwCl (wX7 cy om om_thrown om_s om_kept om_aside om_isKept om_reaches om_ringOf om_rungOf om_rings om_ringMany om_paid om_leftOf om_ringPaid om_paidAll om_mosts om_text om_signs om_at om_isWrong om_clauses om_letters om_one om_two om_three (upd om_whys 0 a) om_backs om_sorts om_sizes om_items) H := hP
  have hD : va_D A (wX7 cy om om_thrown om_s om_kept om_aside om_isKept om_reaches om_ringOf om_rungOf om_rings om_ringMany om_paid om_leftOf om_ringPaid om_paidAll om_mosts om_text om_signs om_at om_isWrong om_clauses om_letters om_one om_two om_three (upd om_whys 0 a) om_backs om_sorts om_sizes om_items) := hD
  refine lv_aload_n hx hb dX7_because_7 rfl (lv_at hl 0 rfl) ?_
  refine gf_X7_64 hx hb hG hown hKX hP 0 rfl rfl dX7_because_8 ?_
  refine lv_iconst (v := (1 : Int32)) hx hb dX7_because_11 (by decide) ?_
  refine lv_iload_n hx hb dX7_because_12 rfl (lv_at hl 2 rfl) ?_
  refine iast_n hx hb hKX hP hD hS 17 rfl rfl (by decide) (by decide) dX7_because_13 (fun H locs hP hD hS => ?_)
  have hP : va_P D vwCl (wX7 cy om om_thrown om_s om_kept om_aside om_isKept om_reaches om_ringOf om_rungOf om_rings om_ringMany om_paid om_leftOf om_ringPaid om_paidAll om_mosts om_text om_signs om_at om_isWrong om_clauses om_letters om_one om_two om_three (upd (upd om_whys 0 a) 1 b) om_backs om_sorts om_sizes om_items) H := hP
  have hD : va_D A (wX7 cy om om_thrown om_s om_kept om_aside om_isKept om_reaches om_ringOf om_rungOf om_rings om_ringMany om_paid om_leftOf om_ringPaid om_paidAll om_mosts om_text om_signs om_at om_isWrong om_clauses om_letters om_one om_two om_three (upd (upd om_whys 0 a) 1 b) om_backs om_sorts om_sizes om_items) := hD
  refine lv_aload_n hx hb dX7_because_14 rfl (lv_at hl 0 rfl) ?_
  refine gf_X7_64 hx hb hG hown hKX hP 0 rfl rfl dX7_because_15 ?_
  refine lv_iconst (v := (2 : Int32)) hx hb dX7_because_18 (by decide) ?_
  refine lv_iload_n hx hb dX7_because_19 rfl (lv_at hl 3 rfl) ?_
  refine iast_n hx hb hKX hP hD hS 17 rfl rfl (by decide) (by decide) dX7_because_20 (fun H locs hP hD hS => ?_)
  have hP : va_P D vwCl (wX7 cy om om_thrown om_s om_kept om_aside om_isKept om_reaches om_ringOf om_rungOf om_rings om_ringMany om_paid om_leftOf om_ringPaid om_paidAll om_mosts om_text om_signs om_at om_isWrong om_clauses om_letters om_one om_two om_three (upd (upd (upd om_whys 0 a) 1 b) 2 d) om_backs om_sorts om_sizes om_items) H := hP
  have hD : va_D A (wX7 cy om om_thrown om_s om_kept om_aside om_isKept om_reaches om_ringOf om_rungOf om_rings om_ringMany om_paid om_leftOf om_ringPaid om_paidAll om_mosts om_text om_signs om_at om_isWrong om_clauses om_letters om_one om_two om_three (upd (upd (upd om_whys 0 a) 1 b) 2 d) om_backs om_sorts om_sizes om_items) := hD
  exact W.vret hx hb hr (fun t ht hW => ⟨⟨upd (upd (upd om_whys 0 a) 1 b) 2 d, rfl, by unfold f_X7_because; rfl, by rw [ht]; exact hP, hD⟩, hS.F ht⟩) hS.2.2 dX7_because_21
def bd_X7_lastAhead_12 (om_rings : Nat → Int32) (om_paid : Nat → Int32) (k4 : Nat) (k12 : Nat) (z12 : Int32) : Int32 :=
  if (f_X7_has (om_rings k4) (nI k12)) = (0 : Int32) then z12 else (if (om_paid k12) ≤ (0 : Int32) then z12 else (nI k12))
def bd_X7_lastAhead_4 (om_rings : Nat → Int32) (om_paid : Nat → Int32) (n : Nat) (k4 : Nat) (z4 : Int32) : Int32 :=
  (itr (bd_X7_lastAhead_12 om_rings om_paid k4) n z4)
def f_X7_lastAhead (om_rings : Nat → Int32) (om_paid : Nat → Int32) (n : Nat) (ra : Nat) : Int32 :=
  (itr (bd_X7_lastAhead_4 om_rings om_paid n) ra (-1 : Int32))
set_option maxHeartbeats 4000000 in
set_option maxRecDepth 100000 in
theorem c_X7_lastAhead (l : Launch) (D : va_G) (cy : Nat → ClassId) (om : Nat → Nat) (om_thrown : Int32) (om_s : Nat → Int32) (om_kept : Nat → Int32) (om_aside : Nat → Int32) (om_isKept : Int32) (om_reaches : Nat → Int32) (om_ringOf : Nat → Int32) (om_rungOf : Nat → Int32) (om_rings : Nat → Int32) (om_ringMany : Int32) (om_paid : Nat → Int32) (om_leftOf : Nat → Int32) (om_ringPaid : Nat → Int32) (om_paidAll : Int32) (om_mosts : Nat → Int32) (om_text : Nat → Int32) (om_signs : Int32) (om_at : Int32) (om_isWrong : Int32) (om_clauses : Int32) (om_letters : Nat → Int32) (om_one : Nat → Int32) (om_two : Nat → Int32) (om_three : Nat → Int32) (om_whys : Nat → Int32) (om_backs : Nat → Int32) (om_sorts : Nat → Int32) (om_sizes : Nat → Int32) (om_items : Nat → Int64) (n : Nat) (ra : Nat) (hn : n ≤ 6) (hs0 : om_s 0 = nI n) (hra6 : ra < 6) : RoI l D cy yX7_lastAhead (.code yX7_lastAhead cX7_lastAhead 5 (some .int)) 1 (wX7 cy om om_thrown om_s om_kept om_aside om_isKept om_reaches om_ringOf om_rungOf om_rings om_ringMany om_paid om_leftOf om_ringPaid om_paidAll om_mosts om_text om_signs om_at om_isWrong om_clauses om_letters om_one om_two om_three om_whys om_backs om_sorts om_sizes om_items) [.ref (om 0), .int (nI ra)] (f_X7_lastAhead om_rings om_paid n ra) := by
  refine Met.ofW (cc := cX7_lastAhead) (maxL := 5) (ret := (some .int)) (by decide) rfl ?_
  intro pP eE s0 mM args below meth cC s₁ B hml hv
  obtain ⟨rfl, hP, hKX⟩ := hv
  have hx := B.exec
  have hb := B.bytes
  have hr := B.returns
  have hG := gw_hts (atoms_spec (ws := _) B.pre)
  have hown : s0.vm.findClass RX7 = some mM.cls := findClass_of_methodNamed B.named
  have hlocks := B.notSynchronized
  have hl := lv_entry ([.ref (om 0), .int (nI ra)]) (n := 5) (Nat.le_of_ble_eq_true rfl)
  rw [lg_entry_eq]
  generalize (lg_sl ([.ref (om 0), .int (nI ra)]) ++ List.replicate (5 - (lg_sl ([.ref (om 0), .int (nI ra)])).length) Slot.unset).toArray = ls at hl ⊢
  have hl : lv_has ls 5 [(0, .ref (om 0)), (1, .int (nI ra))] := hl
  refine lv_iconst (v := (-1 : Int32)) hx hb dX7_lastAhead_0 (by decide) ?_
  refine lv_istore_n (lv' := [(2, .int (-1 : Int32)), (0, .ref (om 0)), (1, .int (nI ra))]) hx hb dX7_lastAhead_1 rfl hl (by decide) rfl (fun ls hl => ?_)
  refine lv_iconst (v := (0 : Int32)) hx hb dX7_lastAhead_2 (by decide) ?_
  refine lv_istore_n (lv' := [(3, .int (0 : Int32)), (2, .int (-1 : Int32)), (0, .ref (om 0)), (1, .int (nI ra))]) hx hb dX7_lastAhead_3 rfl hl (by decide) rfl (fun ls hl => ?_)
  refine loopR (bd_X7_lastAhead_4 om_rings om_paid n) (-1 : Int32) ra (fun k4 z4 => [(3, .int (nI k4)), (2, .int z4), (0, .ref (om 0)), (1, .int (nI ra))]) (lv_sub hl [0, 1, 2, 3] rfl) (fun k4 z4 ls hk4 hz4 hl ih4 => ?_)
  refine lv_iload_n hx hb dX7_lastAhead_4 rfl (lv_at hl 0 rfl) ?_
  refine lv_iload_n hx hb dX7_lastAhead_5 rfl (lv_at hl 3 rfl) ?_
  refine lv_icmp_ge (tgt := 62) hx hb dX7_lastAhead_6 (by decide) (fun c1 => ?_) (fun c1 => ?_)
  · have e_k4 : ra = k4 := Nat.le_antisymm ((le_n (N := ra) (k := k4) rfl (by omega) (by omega)).mp c1) hk4
    subst e_k4
    refine lv_iload_n hx hb dX7_lastAhead_62 rfl (lv_at hl 1 rfl) ?_
    exact W.iret (v := z4) hx hb hr (fun t ht hW => ⟨_, rfl, by subst hz4; unfold f_X7_lastAhead; rfl, ht⟩) (fun q hq => by cases hq) dX7_lastAhead_63
  · have hlt4 : k4 < ra := Nat.lt_of_not_le (fun qq_ => c1 ((le_n (N := ra) (k := k4) rfl (by omega) (by omega)).mpr qq_))
    refine lv_iconst (v := (0 : Int32)) hx hb dX7_lastAhead_9 (by decide) ?_
    refine lv_istore (lv' := [(4, .int (0 : Int32)), (3, .int (nI k4)), (2, .int z4), (0, .ref (om 0)), (1, .int (nI ra))]) hx hb dX7_lastAhead_10 hl (by decide) rfl (fun ls hl => ?_)
    refine loopR (bd_X7_lastAhead_12 om_rings om_paid k4) z4 n (fun k12 z12 => [(4, .int (nI k12)), (3, .int (nI k4)), (2, .int z12), (0, .ref (om 0)), (1, .int (nI ra))]) (lv_sub hl [0, 1, 2, 3, 4] rfl) (fun k12 z12 ls hk12 hz12 hl ih12 => ?_)
    refine lv_iload hx hb dX7_lastAhead_12 (lv_at hl 0 rfl) ?_
    refine lv_aload_n hx hb dX7_lastAhead_14 rfl (lv_at hl 3 rfl) ?_
    refine gf_X7_15 hx hb hG hown hKX hP 0 rfl rfl dX7_lastAhead_15 ?_
    refine lv_iconst (v := (0 : Int32)) hx hb dX7_lastAhead_18 (by decide) ?_
    refine iald_v hx hb hKX hP 1 rfl rfl (by decide) (by decide) hs0 dX7_lastAhead_19 ?_
    refine lv_icmp_ge (tgt := 56) hx hb dX7_lastAhead_20 (by decide) (fun c2 => ?_) (fun c2 => ?_)
    · have e_k12 : n = k12 := Nat.le_antisymm ((le_n (N := n) (k := k12) rfl (by omega) (by omega)).mp c2) hk12
      subst e_k12
      refine lv_iinc (v := nI (k4 + 1)) (lv' := [(3, .int (nI (k4 + 1))), (4, .int (nI n)), (2, .int z12), (0, .ref (om 0)), (1, .int (nI ra))]) hx hb dX7_lastAhead_56 hl (k := 1) rfl (nI_1 _) (by decide) rfl (fun ls hl => ?_)
      refine lv_goto (tgt := 4) hx hb dX7_lastAhead_59 (by decide) ?_
      exact ih4 z12 _ hlt4 (by subst hz12; unfold bd_X7_lastAhead_4; rfl) (lv_sub hl [0, 2, 3, 4] rfl)
    · have hlt12 : k12 < n := Nat.lt_of_not_le (fun qq_ => c2 ((le_n (N := n) (k := k12) rfl (by omega) (by omega)).mpr qq_))
      refine lv_aload_n hx hb dX7_lastAhead_23 rfl (lv_at hl 3 rfl) ?_
      refine gf_X7_34 hx hb hG hown hKX hP 0 rfl rfl dX7_lastAhead_24 ?_
      refine lv_iload_n hx hb dX7_lastAhead_27 rfl (lv_at hl 1 rfl) ?_
      refine iald_n hx hb hKX hP 7 rfl rfl (by omega) (by decide) dX7_lastAhead_28 ?_
      refine lv_iload hx hb dX7_lastAhead_29 (lv_at hl 0 rfl) ?_
      refine cRoS mw14_23 mw15_0 mw1_5 mw15_1 hd_X7_has hx hb hml hown hG hKX (c_X7_has l D cy (om_rings k4) (nI k12)) ⟨Nat.le_of_ble_eq_true rfl, Nat.le_of_ble_eq_true rfl⟩ ⟨Nat.zero_le _, Nat.zero_le _⟩ (hP.sub [] rfl) rfl hl.1 rfl (Nat.le_of_ble_eq_true rfl) dX7_lastAhead_31 ?_
      refine lv_if_eq (tgt := 50) hx hb dX7_lastAhead_34 (by decide) (fun c3 => ?_) (fun c3 => ?_)
      · refine lv_iinc (v := nI (k12 + 1)) (lv' := [(4, .int (nI (k12 + 1))), (3, .int (nI k4)), (2, .int z12), (0, .ref (om 0)), (1, .int (nI ra))]) hx hb dX7_lastAhead_50 hl (k := 0) rfl (nI_1 _) (by decide) rfl (fun ls hl => ?_)
        refine lv_goto (tgt := 12) hx hb dX7_lastAhead_53 (by decide) ?_
        exact ih12 z12 _ hlt12 (by unfold bd_X7_lastAhead_12; rw [if_pos c3] <;> rfl) (lv_sub hl [0, 1, 2, 3, 4] rfl)
      · refine lv_aload_n hx hb dX7_lastAhead_37 rfl (lv_at hl 3 rfl) ?_
        refine gf_X7_37 hx hb hG hown hKX hP 0 rfl rfl dX7_lastAhead_38 ?_
        refine lv_iload hx hb dX7_lastAhead_41 (lv_at hl 0 rfl) ?_
        refine iald_n hx hb hKX hP 8 rfl rfl (by omega) (by decide) dX7_lastAhead_43 ?_
        refine lv_if_le (tgt := 50) hx hb dX7_lastAhead_44 (by decide) (fun c4 => ?_) (fun c4 => ?_)
        · refine lv_iinc (v := nI (k12 + 1)) (lv' := [(4, .int (nI (k12 + 1))), (3, .int (nI k4)), (2, .int z12), (0, .ref (om 0)), (1, .int (nI ra))]) hx hb dX7_lastAhead_50 hl (k := 0) rfl (nI_1 _) (by decide) rfl (fun ls hl => ?_)
          refine lv_goto (tgt := 12) hx hb dX7_lastAhead_53 (by decide) ?_
          exact ih12 z12 _ hlt12 (by unfold bd_X7_lastAhead_12; rw [if_neg c3, if_pos c4] <;> rfl) (lv_sub hl [0, 1, 2, 3, 4] rfl)
        · refine lv_iload hx hb dX7_lastAhead_47 (lv_at hl 0 rfl) ?_
          refine lv_istore_n (lv' := [(2, .int (nI k12)), (4, .int (nI k12)), (3, .int (nI k4)), (0, .ref (om 0)), (1, .int (nI ra))]) hx hb dX7_lastAhead_49 rfl hl (by decide) rfl (fun ls hl => ?_)
          refine lv_iinc (v := nI (k12 + 1)) (lv' := [(4, .int (nI (k12 + 1))), (2, .int (nI k12)), (3, .int (nI k4)), (0, .ref (om 0)), (1, .int (nI ra))]) hx hb dX7_lastAhead_50 hl (k := 1) rfl (nI_1 _) (by decide) rfl (fun ls hl => ?_)
          refine lv_goto (tgt := 12) hx hb dX7_lastAhead_53 (by decide) ?_
          exact ih12 (nI k12) _ hlt12 (by unfold bd_X7_lastAhead_12; rw [if_neg c3, if_neg c4] <;> rfl) (lv_sub hl [0, 2, 1, 3, 4] rfl)
theorem la_in {a b : Nat → Int32} {n q : Nat} : ∀ (k : Nat), k ≤ n → ∀ z : Int32, (z = -1 ∨ ∃ j, j < n ∧ z = nI j) → (itr (bd_X7_lastAhead_12 a b q) k z = -1 ∨ ∃ j, j < n ∧ itr (bd_X7_lastAhead_12 a b q) k z = nI j)
  | 0, _, z, h => h
  | k + 1, hk, z, h => by
    have ih := la_in (a := a) (b := b) (n := n) (q := q) k (by omega) z h
    rw [itr_succ]
    generalize itr (bd_X7_lastAhead_12 a b q) k z = y at ih ⊢
    unfold bd_X7_lastAhead_12
    refine iteP (P := fun x : Int32 => x = -1 ∨ ∃ j, j < n ∧ x = nI j) (fun _ => ih) (fun _ => ?_)
    exact iteP (P := fun x : Int32 => x = -1 ∨ ∃ j, j < n ∧ x = nI j) (fun _ => ih) (fun _ => Or.inr ⟨k, by omega, rfl⟩)
theorem la_out {a b : Nat → Int32} {n : Nat} : ∀ (k : Nat), (itr (bd_X7_lastAhead_4 a b n) k (-1) = -1 ∨ ∃ j, j < n ∧ itr (bd_X7_lastAhead_4 a b n) k (-1) = nI j)
  | 0 => Or.inl rfl
  | k + 1 => by
    rw [itr_succ]
    exact la_in n (Nat.le_refl n) _ (la_out k)
theorem la_of {a b : Nat → Int32} {n k : Nat} (hn : n < 2 ^ 31) (h : ¬ f_X7_lastAhead a b n k = -1) : ∃ j, (f_X7_lastAhead a b n k).toNatClampNeg = j ∧ j < n ∧ f_X7_lastAhead a b n k = nI j := by
  rcases la_out (a := a) (b := b) (n := n) k with e | ⟨j, h1, h2⟩
  · exact absurd e h
  · have h2 : f_X7_lastAhead a b n k = nI j := h2
    rw [h2]
    exact ⟨j, nI_clamp (by omega), h1, rfl⟩
