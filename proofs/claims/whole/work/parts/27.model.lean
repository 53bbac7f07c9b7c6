def f_X7_least (a : Int32) (b : Int32) : Int32 :=
  if b ≤ a then b else a
set_option maxHeartbeats 4000000 in
set_option maxRecDepth 100000 in
theorem c_X7_least (l : Launch) (D : va_G) (cy : Nat → ClassId) (om : Nat → Nat) (om_thrown : Int32) (om_s : Nat → Int32) (om_kept : Nat → Int32) (om_aside : Nat → Int32) (om_isKept : Int32) (om_reaches : Nat → Int32) (om_ringOf : Nat → Int32) (om_rungOf : Nat → Int32) (om_rings : Nat → Int32) (om_ringMany : Int32) (om_paid : Nat → Int32) (om_leftOf : Nat → Int32) (om_ringPaid : Nat → Int32) (om_paidAll : Int32) (om_mosts : Nat → Int32) (om_text : Nat → Int32) (om_signs : Int32) (om_at : Int32) (om_isWrong : Int32) (om_clauses : Int32) (om_letters : Nat → Int32) (om_one : Nat → Int32) (om_two : Nat → Int32) (om_three : Nat → Int32) (om_whys : Nat → Int32) (om_backs : Nat → Int32) (om_sorts : Nat → Int32) (om_sizes : Nat → Int32) (om_items : Nat → Int64) (a : Int32) (b : Int32) : RoI l D cy yX7_least (.code yX7_least cX7_least 3 (some .int)) 0 (wX7 cy om om_thrown om_s om_kept om_aside om_isKept om_reaches om_ringOf om_rungOf om_rings om_ringMany om_paid om_leftOf om_ringPaid om_paidAll om_mosts om_text om_signs om_at om_isWrong om_clauses om_letters om_one om_two om_three om_whys om_backs om_sorts om_sizes om_items) [.ref (om 0), .int a, .int b] (f_X7_least a b) := by
  refine Met.ofW (cc := cX7_least) (maxL := 3) (ret := (some .int)) (by decide) rfl ?_
  intro pP eE s0 mM args below meth cC s₁ B hml hv
  obtain ⟨rfl, hP, hKX⟩ := hv
  have hx := B.exec
  have hb := B.bytes
  have hr := B.returns
  have hG := gw_hts (atoms_spec (ws := _) B.pre)
  have hown : s0.vm.findClass RX7 = some mM.cls := findClass_of_methodNamed B.named
  have hlocks := B.notSynchronized
  have hl := lv_entry ([.ref (om 0), .int a, .int b]) (n := 3) (Nat.le_of_ble_eq_true rfl)
  rw [lg_entry_eq]
  generalize (lg_sl ([.ref (om 0), .int a, .int b]) ++ List.replicate (3 - (lg_sl ([.ref (om 0), .int a, .int b])).length) Slot.unset).toArray = ls at hl ⊢
  have hl : lv_has ls 3 [(0, .ref (om 0)), (1, .int a), (2, .int b)] := hl
  refine lv_iload_n hx hb dX7_least_0 rfl (lv_at hl 1 rfl) ?_
  refine lv_iload_n hx hb dX7_least_1 rfl (lv_at hl 2 rfl) ?_
  refine lv_icmp_ge (tgt := 9) hx hb dX7_least_2 (by decide) (fun c1 => ?_) (fun c1 => ?_)
  · refine lv_iload_n hx hb dX7_least_9 rfl (lv_at hl 2 rfl) ?_
    exact W.iret (v := b) hx hb hr (fun t ht hW => ⟨_, rfl, by unfold f_X7_least; rw [if_pos c1] <;> rfl, ht⟩) (fun q hq => by cases hq) dX7_least_10
  · refine lv_iload_n hx hb dX7_least_5 rfl (lv_at hl 1 rfl) ?_
    refine lv_goto (tgt := 10) hx hb dX7_least_6 (by decide) ?_
    exact W.iret (v := a) hx hb hr (fun t ht hW => ⟨_, rfl, by unfold f_X7_least; rw [if_neg c1] <;> rfl, ht⟩) (fun q hq => by cases hq) dX7_least_10
def f_X7_stead (om_s : Nat → Int32) (left : Int32) (c : Nat) : Int32 :=
  if (om_s (5 + c)) = (1 : Int32) then ((left * (om_s (23 + c))) / (100 : Int32)) else left
set_option maxHeartbeats 4000000 in
set_option maxRecDepth 100000 in
theorem c_X7_stead (l : Launch) (D : va_G) (cy : Nat → ClassId) (om : Nat → Nat) (om_thrown : Int32) (om_s : Nat → Int32) (om_kept : Nat → Int32) (om_aside : Nat → Int32) (om_isKept : Int32) (om_reaches : Nat → Int32) (om_ringOf : Nat → Int32) (om_rungOf : Nat → Int32) (om_rings : Nat → Int32) (om_ringMany : Int32) (om_paid : Nat → Int32) (om_leftOf : Nat → Int32) (om_ringPaid : Nat → Int32) (om_paidAll : Int32) (om_mosts : Nat → Int32) (om_text : Nat → Int32) (om_signs : Int32) (om_at : Int32) (om_isWrong : Int32) (om_clauses : Int32) (om_letters : Nat → Int32) (om_one : Nat → Int32) (om_two : Nat → Int32) (om_three : Nat → Int32) (om_whys : Nat → Int32) (om_backs : Nat → Int32) (om_sorts : Nat → Int32) (om_sizes : Nat → Int32) (om_items : Nat → Int64) (left : Int32) (n : Nat) (c : Nat) (hn : n ≤ 6) (hs0 : om_s 0 = nI n) (hc : c < n) : RoI l D cy yX7_stead (.code yX7_stead cX7_stead 3 (some .int)) 0 (wX7 cy om om_thrown om_s om_kept om_aside om_isKept om_reaches om_ringOf om_rungOf om_rings om_ringMany om_paid om_leftOf om_ringPaid om_paidAll om_mosts om_text om_signs om_at om_isWrong om_clauses om_letters om_one om_two om_three om_whys om_backs om_sorts om_sizes om_items) [.ref (om 0), .int (nI c), .int left] (f_X7_stead om_s left c) := by
  refine Met.ofW (cc := cX7_stead) (maxL := 3) (ret := (some .int)) (by decide) rfl ?_
  intro pP eE s0 mM args below meth cC s₁ B hml hv
  obtain ⟨rfl, hP, hKX⟩ := hv
  have hx := B.exec
  have hb := B.bytes
  have hr := B.returns
  have hG := gw_hts (atoms_spec (ws := _) B.pre)
  have hown : s0.vm.findClass RX7 = some mM.cls := findClass_of_methodNamed B.named
  have hlocks := B.notSynchronized
  have hl := lv_entry ([.ref (om 0), .int (nI c), .int left]) (n := 3) (Nat.le_of_ble_eq_true rfl)
  rw [lg_entry_eq]
  generalize (lg_sl ([.ref (om 0), .int (nI c), .int left]) ++ List.replicate (3 - (lg_sl ([.ref (om 0), .int (nI c), .int left])).length) Slot.unset).toArray = ls at hl ⊢
  have hl : lv_has ls 3 [(0, .ref (om 0)), (1, .int (nI c)), (2, .int left)] := hl
  refine lv_aload_n hx hb dX7_stead_0 rfl (lv_at hl 0 rfl) ?_
  refine gf_X7_15 hx hb hG hown hKX hP 0 rfl rfl dX7_stead_1 ?_
  refine lv_iconst (v := (5 : Int32)) hx hb dX7_stead_4 (by decide) ?_
  refine lv_iload_n hx hb dX7_stead_5 rfl (lv_at hl 1 rfl) ?_
  refine lv_iadd hx hb dX7_stead_6 ?_
  refine topi_eq (y := nI (5 + c)) (aN rfl rfl) ?_
  refine iald_n hx hb hKX hP 1 rfl rfl (by omega) (by decide) dX7_stead_7 ?_
  refine lv_iconst (v := (1 : Int32)) hx hb dX7_stead_8 (by decide) ?_
  refine lv_icmp_ne (tgt := 29) hx hb dX7_stead_9 (by decide) (fun c1 => ?_) (fun c1 => ?_)
  · refine lv_iload_n hx hb dX7_stead_29 rfl (lv_at hl 2 rfl) ?_
    exact W.iret (v := left) hx hb hr (fun t ht hW => ⟨_, rfl, by unfold f_X7_stead; rw [if_neg c1] <;> rfl, ht⟩) (fun q hq => by cases hq) dX7_stead_30
  · refine lv_iload_n hx hb dX7_stead_12 rfl (lv_at hl 2 rfl) ?_
    refine lv_aload_n hx hb dX7_stead_13 rfl (lv_at hl 0 rfl) ?_
    refine gf_X7_15 hx hb hG hown hKX hP 0 rfl rfl dX7_stead_14 ?_
    refine lv_bipush (v := (23 : Int32)) hx hb dX7_stead_17 (by decide) ?_
    refine lv_iload_n hx hb dX7_stead_19 rfl (lv_at hl 1 rfl) ?_
    refine lv_iadd hx hb dX7_stead_20 ?_
    refine topi_eq (y := nI (23 + c)) (aN rfl rfl) ?_
    refine iald_n hx hb hKX hP 1 rfl rfl (by omega) (by decide) dX7_stead_21 ?_
    refine lv_imul hx hb dX7_stead_22 ?_
    refine lv_bipush (v := (100 : Int32)) hx hb dX7_stead_23 (by decide) ?_
    refine lv_idiv hx hb dX7_stead_25 (by decide) ?_
    refine lv_goto (tgt := 30) hx hb dX7_stead_26 (by decide) ?_
    exact W.iret (v := ((left * (om_s (23 + c))) / (100 : Int32))) hx hb hr (fun t ht hW => ⟨_, rfl, by unfold f_X7_stead; rw [if_pos c1] <;> rfl, ht⟩) (fun q hq => by cases hq) dX7_stead_30
def f_X7_plain (om_s : Nat → Int32) (left : Int32) (c : Nat) : Int32 :=
  if (0 : Int32) ≤ (left - (om_s (17 + c))) then (f_X7_least (left - (om_s (17 + c))) (om_s (11 + c))) else (0 : Int32)
set_option maxHeartbeats 4000000 in
set_option maxRecDepth 100000 in
theorem c_X7_plain (l : Launch) (D : va_G) (cy : Nat → ClassId) (om : Nat → Nat) (om_thrown : Int32) (om_s : Nat → Int32) (om_kept : Nat → Int32) (om_aside : Nat → Int32) (om_isKept : Int32) (om_reaches : Nat → Int32) (om_ringOf : Nat → Int32) (om_rungOf : Nat → Int32) (om_rings : Nat → Int32) (om_ringMany : Int32) (om_paid : Nat → Int32) (om_leftOf : Nat → Int32) (om_ringPaid : Nat → Int32) (om_paidAll : Int32) (om_mosts : Nat → Int32) (om_text : Nat → Int32) (om_signs : Int32) (om_at : Int32) (om_isWrong : Int32) (om_clauses : Int32) (om_letters : Nat → Int32) (om_one : Nat → Int32) (om_two : Nat → Int32) (om_three : Nat → Int32) (om_whys : Nat → Int32) (om_backs : Nat → Int32) (om_sorts : Nat → Int32) (om_sizes : Nat → Int32) (om_items : Nat → Int64) (left : Int32) (n : Nat) (c : Nat) (hn : n ≤ 6) (hs0 : om_s 0 = nI n) (hc : c < n) : RoI l D cy yX7_plain (.code yX7_plain cX7_plain 4 (some .int)) 1 (wX7 cy om om_thrown om_s om_kept om_aside om_isKept om_reaches om_ringOf om_rungOf om_rings om_ringMany om_paid om_leftOf om_ringPaid om_paidAll om_mosts om_text om_signs om_at om_isWrong om_clauses om_letters om_one om_two om_three om_whys om_backs om_sorts om_sizes om_items) [.ref (om 0), .int (nI c), .int left] (f_X7_plain om_s left c) := by
  refine Met.ofW (cc := cX7_plain) (maxL := 4) (ret := (some .int)) (by decide) rfl ?_
  intro pP eE s0 mM args below meth cC s₁ B hml hv
  obtain ⟨rfl, hP, hKX⟩ := hv
  have hx := B.exec
  have hb := B.bytes
  have hr := B.returns
  have hG := gw_hts (atoms_spec (ws := _) B.pre)
  have hown : s0.vm.findClass RX7 = some mM.cls := findClass_of_methodNamed B.named
  have hlocks := B.notSynchronized
  have hl := lv_entry ([.ref (om 0), .int (nI c), .int left]) (n := 4) (Nat.le_of_ble_eq_true rfl)
  rw [lg_entry_eq]
  generalize (lg_sl ([.ref (om 0), .int (nI c), .int left]) ++ List.replicate (4 - (lg_sl ([.ref (om 0), .int (nI c), .int left])).length) Slot.unset).toArray = ls at hl ⊢
  have hl : lv_has ls 4 [(0, .ref (om 0)), (1, .int (nI c)), (2, .int left)] := hl
  refine lv_iload_n hx hb dX7_plain_0 rfl (lv_at hl 2 rfl) ?_
  refine lv_aload_n hx hb dX7_plain_1 rfl (lv_at hl 0 rfl) ?_
  refine gf_X7_15 hx hb hG hown hKX hP 0 rfl rfl dX7_plain_2 ?_
  refine lv_bipush (v := (17 : Int32)) hx hb dX7_plain_5 (by decide) ?_
  refine lv_iload_n hx hb dX7_plain_7 rfl (lv_at hl 1 rfl) ?_
  refine lv_iadd hx hb dX7_plain_8 ?_
  refine topi_eq (y := nI (17 + c)) (aN rfl rfl) ?_
  refine iald_n hx hb hKX hP 1 rfl rfl (by omega) (by decide) dX7_plain_9 ?_
  refine lv_isub hx hb dX7_plain_10 ?_
  refine lv_istore_n (lv' := [(3, .int (left - (om_s (17 + c)))), (0, .ref (om 0)), (1, .int (nI c)), (2, .int left)]) hx hb dX7_plain_11 rfl hl (by decide) rfl (fun ls hl => ?_)
  refine lv_iload_n hx hb dX7_plain_12 rfl (lv_at hl 0 rfl) ?_
  refine lv_if_ge (tgt := 20) hx hb dX7_plain_13 (by decide) (fun c1 => ?_) (fun c1 => ?_)
  · refine lv_aload_n hx hb dX7_plain_20 rfl (lv_at hl 1 rfl) ?_
    refine lv_iload_n hx hb dX7_plain_21 rfl (lv_at hl 0 rfl) ?_
    refine lv_aload_n hx hb dX7_plain_22 rfl (lv_at hl 1 rfl) ?_
    refine gf_X7_15 hx hb hG hown hKX hP 0 rfl rfl dX7_plain_23 ?_
    refine lv_bipush (v := (11 : Int32)) hx hb dX7_plain_26 (by decide) ?_
    refine lv_iload_n hx hb dX7_plain_28 rfl (lv_at hl 2 rfl) ?_
    refine lv_iadd hx hb dX7_plain_29 ?_
    refine topi_eq (y := nI (11 + c)) (aN rfl rfl) ?_
    refine iald_n hx hb hKX hP 1 rfl rfl (by omega) (by decide) dX7_plain_30 ?_
    refine cRoV (q0 := 0) (ci := 7) mw16_5 mw16_6 mw16_7 mw1_5 mw16_8 rfl rfl hd_X7_least hx hb hml hown hG hKX (c_X7_least l D cy om om_thrown om_s om_kept om_aside om_isKept om_reaches om_ringOf om_rungOf om_rings om_ringMany om_paid om_leftOf om_ringPaid om_paidAll om_mosts om_text om_signs om_at om_isWrong om_clauses om_letters om_one om_two om_three om_whys om_backs om_sorts om_sizes om_items (left - (om_s (17 + c))) (om_s (11 + c))) ⟨Nat.le_of_ble_eq_true rfl, Nat.le_of_ble_eq_true rfl⟩ ⟨Nat.zero_le _, Nat.zero_le _⟩ hP rfl rfl hl.1 rfl (Nat.le_of_ble_eq_true rfl) dX7_plain_31 ?_
    exact W.iret (v := (f_X7_least (left - (om_s (17 + c))) (om_s (11 + c)))) hx hb hr (fun t ht hW => ⟨_, rfl, by unfold f_X7_plain; rw [if_pos c1] <;> rfl, ht⟩) (fun q hq => by cases hq) dX7_plain_34
  · refine lv_iconst (v := (0 : Int32)) hx hb dX7_plain_16 (by decide) ?_
    refine lv_goto (tgt := 34) hx hb dX7_plain_17 (by decide) ?_
    exact W.iret (v := (0 : Int32)) hx hb hr (fun t ht hW => ⟨_, rfl, by unfold f_X7_plain; rw [if_neg c1] <;> rfl, ht⟩) (fun q hq => by cases hq) dX7_plain_34
def bd_X7_payer_2 (om_s : Nat → Int32) (om_paid : Nat → Int32) (c : Nat) (k2 : Nat) : Option Int32 :=
  if (f_X7_has (om_s (29 + c)) (nI k2)) = (0 : Int32) then none else (if (om_paid k2) ≤ (0 : Int32) then none else (some (nI k2)))
def f_X7_payer (om_s : Nat → Int32) (om_paid : Nat → Int32) (n : Nat) (c : Nat) : Int32 :=
  (srch (bd_X7_payer_2 om_s om_paid c) n 0).getD (-1 : Int32)
set_option maxHeartbeats 4000000 in
set_option maxRecDepth 100000 in
theorem c_X7_payer (l : Launch) (D : va_G) (cy : Nat → ClassId) (om : Nat → Nat) (om_thrown : Int32) (om_s : Nat → Int32) (om_kept : Nat → Int32) (om_aside : Nat → Int32) (om_isKept : Int32) (om_reaches : Nat → Int32) (om_ringOf : Nat → Int32) (om_rungOf : Nat → Int32) (om_rings : Nat → Int32) (om_ringMany : Int32) (om_paid : Nat → Int32) (om_leftOf : Nat → Int32) (om_ringPaid : Nat → Int32) (om_paidAll : Int32) (om_mosts : Nat → Int32) (om_text : Nat → Int32) (om_signs : Int32) (om_at : Int32) (om_isWrong : Int32) (om_clauses : Int32) (om_letters : Nat → Int32) (om_one : Nat → Int32) (om_two : Nat → Int32) (om_three : Nat → Int32) (om_whys : Nat → Int32) (om_backs : Nat → Int32) (om_sorts : Nat → Int32) (om_sizes : Nat → Int32) (om_items : Nat → Int64) (n : Nat) (c : Nat) (hn : n ≤ 6) (hs0 : om_s 0 = nI n) (hc : c < n) : RoI l D cy yX7_payer (.code yX7_payer cX7_payer 3 (some .int)) 1 (wX7 cy om om_thrown om_s om_kept om_aside om_isKept om_reaches om_ringOf om_rungOf om_rings om_ringMany om_paid om_leftOf om_ringPaid om_paidAll om_mosts om_text om_signs om_at om_isWrong om_clauses om_letters om_one om_two om_three om_whys om_backs om_sorts om_sizes om_items) [.ref (om 0), .int (nI c)] (f_X7_payer om_s om_paid n c) := by
  refine Met.ofW (cc := cX7_payer) (maxL := 3) (ret := (some .int)) (by decide) rfl ?_
  intro pP eE s0 mM args below meth cC s₁ B hml hv
  obtain ⟨rfl, hP, hKX⟩ := hv
  have hx := B.exec
  have hb := B.bytes
  have hr := B.returns
  have hG := gw_hts (atoms_spec (ws := _) B.pre)
  have hown : s0.vm.findClass RX7 = some mM.cls := findClass_of_methodNamed B.named
  have hlocks := B.notSynchronized
  have hl := lv_entry ([.ref (om 0), .int (nI c)]) (n := 3) (Nat.le_of_ble_eq_true rfl)
  rw [lg_entry_eq]
  generalize (lg_sl ([.ref (om 0), .int (nI c)]) ++ List.replicate (3 - (lg_sl ([.ref (om 0), .int (nI c)])).length) Slot.unset).toArray = ls at hl ⊢
  have hl : lv_has ls 3 [(0, .ref (om 0)), (1, .int (nI c))] := hl
  refine lv_iconst (v := (0 : Int32)) hx hb dX7_payer_0 (by decide) ?_
  refine lv_istore_n (lv' := [(2, .int (0 : Int32)), (0, .ref (om 0)), (1, .int (nI c))]) hx hb dX7_payer_1 rfl hl (by decide) rfl (fun ls hl => ?_)
  refine loopS (bd_X7_payer_2 om_s om_paid c) n (fun k2 => [(2, .int (nI k2)), (0, .ref (om 0)), (1, .int (nI c))]) (lv_sub hl [0, 1, 2] rfl) (fun k2 ls hk2 hz2 hl ih2 => ?_)
  refine lv_iload_n hx hb dX7_payer_2 rfl (lv_at hl 0 rfl) ?_
  refine lv_aload_n hx hb dX7_payer_3 rfl (lv_at hl 1 rfl) ?_
  refine gf_X7_15 hx hb hG hown hKX hP 0 rfl rfl dX7_payer_4 ?_
  refine lv_iconst (v := (0 : Int32)) hx hb dX7_payer_7 (by decide) ?_
  refine iald_v hx hb hKX hP 1 rfl rfl (by decide) (by decide) hs0 dX7_payer_8 ?_
  refine lv_icmp_ge (tgt := 45) hx hb dX7_payer_9 (by decide) (fun c1 => ?_) (fun c1 => ?_)
  · have e_k2 : n = k2 := Nat.le_antisymm ((le_n (N := n) (k := k2) rfl (by omega) (by omega)).mp c1) hk2
    subst e_k2
    refine lv_iconst (v := (-1 : Int32)) hx hb dX7_payer_45 (by decide) ?_
    exact W.iret (v := (-1 : Int32)) hx hb hr (fun t ht hW => ⟨_, rfl, by unfold f_X7_payer; rw [srch_none hz2, Option.getD_none] <;> rfl, ht⟩) (fun q hq => by cases hq) dX7_payer_46
  · have hlt2 : k2 < n := Nat.lt_of_not_le (fun qq_ => c1 ((le_n (N := n) (k := k2) rfl (by omega) (by omega)).mpr qq_))
    refine lv_aload_n hx hb dX7_payer_12 rfl (lv_at hl 1 rfl) ?_
    refine gf_X7_15 hx hb hG hown hKX hP 0 rfl rfl dX7_payer_13 ?_
    refine lv_bipush (v := (29 : Int32)) hx hb dX7_payer_16 (by decide) ?_
    refine lv_iload_n hx hb dX7_payer_18 rfl (lv_at hl 2 rfl) ?_
    refine lv_iadd hx hb dX7_payer_19 ?_
    refine topi_eq (y := nI (29 + c)) (aN rfl rfl) ?_
    refine iald_n hx hb hKX hP 1 rfl rfl (by omega) (by decide) dX7_payer_20 ?_
    refine lv_iload_n hx hb dX7_payer_21 rfl (lv_at hl 0 rfl) ?_
    refine cRoS mw14_23 mw15_0 mw1_5 mw15_1 hd_X7_has hx hb hml hown hG hKX (c_X7_has l D cy (om_s (29 + c)) (nI k2)) ⟨Nat.le_of_ble_eq_true rfl, Nat.le_of_ble_eq_true rfl⟩ ⟨Nat.zero_le _, Nat.zero_le _⟩ (hP.sub [] rfl) rfl hl.1 rfl (Nat.le_of_ble_eq_true rfl) dX7_payer_22 ?_
    refine lv_if_eq (tgt := 39) hx hb dX7_payer_25 (by decide) (fun c2 => ?_) (fun c2 => ?_)
    · refine lv_iinc (v := nI (k2 + 1)) (lv' := [(2, .int (nI (k2 + 1))), (0, .ref (om 0)), (1, .int (nI c))]) hx hb dX7_payer_39 hl (k := 0) rfl (nI_1 _) (by decide) rfl (fun ls hl => ?_)
      refine lv_goto (tgt := 2) hx hb dX7_payer_42 (by decide) ?_
      exact ih2 _ hlt2 (by unfold bd_X7_payer_2; rw [if_pos c2] <;> rfl) (lv_sub hl [0, 1, 2] rfl)
    · refine lv_aload_n hx hb dX7_payer_28 rfl (lv_at hl 1 rfl) ?_
      refine gf_X7_37 hx hb hG hown hKX hP 0 rfl rfl dX7_payer_29 ?_
      refine lv_iload_n hx hb dX7_payer_32 rfl (lv_at hl 0 rfl) ?_
      refine iald_n hx hb hKX hP 8 rfl rfl (by omega) (by decide) dX7_payer_33 ?_
      refine lv_if_le (tgt := 39) hx hb dX7_payer_34 (by decide) (fun c3 => ?_) (fun c3 => ?_)
      · refine lv_iinc (v := nI (k2 + 1)) (lv' := [(2, .int (nI (k2 + 1))), (0, .ref (om 0)), (1, .int (nI c))]) hx hb dX7_payer_39 hl (k := 0) rfl (nI_1 _) (by decide) rfl (fun ls hl => ?_)
        refine lv_goto (tgt := 2) hx hb dX7_payer_42 (by decide) ?_
        exact ih2 _ hlt2 (by unfold bd_X7_payer_2; rw [if_neg c2, if_pos c3] <;> rfl) (lv_sub hl [0, 1, 2] rfl)
      · refine lv_iload_n hx hb dX7_payer_37 rfl (lv_at hl 0 rfl) ?_
        exact W.iret (v := nI k2) hx hb hr (fun t ht hW => ⟨_, rfl, by unfold f_X7_payer; rw [srch_some (r := nI k2) hz2 hlt2 (by unfold bd_X7_payer_2; rw [if_neg c2, if_neg c3] <;> rfl), Option.getD_some] <;> rfl, ht⟩) (fun q hq => by cases hq) dX7_payer_38
theorem srch_in {α : Type} {b : Nat → Option α} {r : α} : ∀ (d k : Nat), srch b d k = some r → ∃ j, k ≤ j ∧ j < k + d ∧ b j = some r
  | 0, k, h => by cases h
  | d + 1, k, h => by
    unfold srch at h
    cases hb : b k with
    | some x =>
      rw [hb] at h
      exact ⟨k, Nat.le_refl k, by omega, by rw [hb]; exact h⟩
    | none =>
      rw [hb] at h
      obtain ⟨j, h1, h2, h3⟩ := srch_in d (k + 1) h
      exact ⟨j, by omega, by omega, h3⟩
theorem pyr_of {a b : Nat → Int32} {n c : Nat} (hn : n < 2 ^ 31) (h : ¬ f_X7_payer a b n c = -1) : ∃ j, (f_X7_payer a b n c).toNatClampNeg = j ∧ j < n ∧ f_X7_payer a b n c = nI j := by
  unfold f_X7_payer at h ⊢
  cases hs : srch (bd_X7_payer_2 a b c) n 0 with
  | none => rw [hs] at h; exact absurd rfl h
  | some r =>
    obtain ⟨j, -, h2, h3⟩ := srch_in _ _ hs
    have e : r = nI j := by
      unfold bd_X7_payer_2 at h3
      split at h3
      · cases h3
      · split at h3
        · cases h3
        · exact (Option.some.inj h3).symm
    rw [Option.getD_some, e]
    exact ⟨j, nI_clamp (by omega), by omega, rfl⟩
def f_X7_most (om_s : Nat → Int32) (om_paid : Nat → Int32) (left : Int32) (al : Int32) (n : Nat) (c : Nat) : Int32 :=
  if (om_s (5 + c)) = (3 : Int32) then (if (f_X7_plain om_s (f_X7_stead om_s left c) c) ≤ (0 : Int32) then (0 : Int32) else (f_X7_least left (om_s (11 + c)))) else (if al = (0 : Int32) then (f_X7_plain om_s (f_X7_stead om_s left c) c) else (if (om_s (5 + c)) = (2 : Int32) then (if (f_X7_payer om_s om_paid n c) = (-1 : Int32) then (f_X7_plain om_s (f_X7_stead om_s left c) c) else (0 : Int32)) else (f_X7_plain om_s (f_X7_stead om_s left c) c)))
set_option maxHeartbeats 4000000 in
set_option maxRecDepth 100000 in
theorem c_X7_most (l : Launch) (D : va_G) (cy : Nat → ClassId) (om : Nat → Nat) (om_thrown : Int32) (om_s : Nat → Int32) (om_kept : Nat → Int32) (om_aside : Nat → Int32) (om_isKept : Int32) (om_reaches : Nat → Int32) (om_ringOf : Nat → Int32) (om_rungOf : Nat → Int32) (om_rings : Nat → Int32) (om_ringMany : Int32) (om_paid : Nat → Int32) (om_leftOf : Nat → Int32) (om_ringPaid : Nat → Int32) (om_paidAll : Int32) (om_mosts : Nat → Int32) (om_text : Nat → Int32) (om_signs : Int32) (om_at : Int32) (om_isWrong : Int32) (om_clauses : Int32) (om_letters : Nat → Int32) (om_one : Nat → Int32) (om_two : Nat → Int32) (om_three : Nat → Int32) (om_whys : Nat → Int32) (om_backs : Nat → Int32) (om_sorts : Nat → Int32) (om_sizes : Nat → Int32) (om_items : Nat → Int64) (left : Int32) (al : Int32) (n : Nat) (c : Nat) (hn : n ≤ 6) (hs0 : om_s 0 = nI n) (hc : c < n) : RoI l D cy yX7_most (.code yX7_most cX7_most 5 (some .int)) 2 (wX7 cy om om_thrown om_s om_kept om_aside om_isKept om_reaches om_ringOf om_rungOf om_rings om_ringMany om_paid om_leftOf om_ringPaid om_paidAll om_mosts om_text om_signs om_at om_isWrong om_clauses om_letters om_one om_two om_three om_whys om_backs om_sorts om_sizes om_items) [.ref (om 0), .int (nI c), .int left, .int al] (f_X7_most om_s om_paid left al n c) := by
  refine Met.ofW (cc := cX7_most) (maxL := 5) (ret := (some .int)) (by decide) rfl ?_
  intro pP eE s0 mM args below meth cC s₁ B hml hv
  obtain ⟨rfl, hP, hKX⟩ := hv
  have hx := B.exec
  have hb := B.bytes
  have hr := B.returns
  have hG := gw_hts (atoms_spec (ws := _) B.pre)
  have hown : s0.vm.findClass RX7 = some mM.cls := findClass_of_methodNamed B.named
  have hlocks := B.notSynchronized
  have hl := lv_entry ([.ref (om 0), .int (nI c), .int left, .int al]) (n := 5) (Nat.le_of_ble_eq_true rfl)
  rw [lg_entry_eq]
  generalize (lg_sl ([.ref (om 0), .int (nI c), .int left, .int al]) ++ List.replicate (5 - (lg_sl ([.ref (om 0), .int (nI c), .int left, .int al])).length) Slot.unset).toArray = ls at hl ⊢
  have hl : lv_has ls 5 [(0, .ref (om 0)), (1, .int (nI c)), (2, .int left), (3, .int al)] := hl
  refine lv_aload_n hx hb dX7_most_0 rfl (lv_at hl 0 rfl) ?_
  refine lv_iload_n hx hb dX7_most_1 rfl (lv_at hl 1 rfl) ?_
  refine lv_aload_n hx hb dX7_most_2 rfl (lv_at hl 0 rfl) ?_
  refine lv_iload_n hx hb dX7_most_3 rfl (lv_at hl 1 rfl) ?_
  refine lv_iload_n hx hb dX7_most_4 rfl (lv_at hl 2 rfl) ?_
  refine cRoV (q0 := 0) (ci := 7) mw15_21 mw15_22 mw15_23 mw1_5 mw16_0 rfl rfl hd_X7_stead hx hb hml hown hG hKX (c_X7_stead l D cy om om_thrown om_s om_kept om_aside om_isKept om_reaches om_ringOf om_rungOf om_rings om_ringMany om_paid om_leftOf om_ringPaid om_paidAll om_mosts om_text om_signs om_at om_isWrong om_clauses om_letters om_one om_two om_three om_whys om_backs om_sorts om_sizes om_items left n c hn hs0 hc) ⟨Nat.le_of_ble_eq_true rfl, Nat.le_of_ble_eq_true rfl⟩ ⟨Nat.zero_le _, Nat.zero_le _⟩ hP rfl rfl hl.1 rfl (Nat.le_of_ble_eq_true rfl) dX7_most_5 ?_
  refine cRoV (q0 := 0) (ci := 7) mw16_1 mw16_2 mw16_3 mw1_5 mw16_4 rfl rfl hd_X7_plain hx hb hml hown hG hKX (c_X7_plain l D cy om om_thrown om_s om_kept om_aside om_isKept om_reaches om_ringOf om_rungOf om_rings om_ringMany om_paid om_leftOf om_ringPaid om_paidAll om_mosts om_text om_signs om_at om_isWrong om_clauses om_letters om_one om_two om_three om_whys om_backs om_sorts om_sizes om_items (f_X7_stead om_s left c) n c hn hs0 hc) ⟨Nat.le_of_ble_eq_true rfl, Nat.le_of_ble_eq_true rfl⟩ ⟨Nat.zero_le _, Nat.zero_le _⟩ hP rfl rfl hl.1 rfl (Nat.le_of_ble_eq_true rfl) dX7_most_8 ?_
  refine lv_istore (lv' := [(4, .int (f_X7_plain om_s (f_X7_stead om_s left c) c)), (0, .ref (om 0)), (1, .int (nI c)), (2, .int left), (3, .int al)]) hx hb dX7_most_11 hl (by decide) rfl (fun ls hl => ?_)
  refine lv_aload_n hx hb dX7_most_13 rfl (lv_at hl 1 rfl) ?_
  refine gf_X7_15 hx hb hG hown hKX hP 0 rfl rfl dX7_most_14 ?_
  refine lv_iconst (v := (5 : Int32)) hx hb dX7_most_17 (by decide) ?_
  refine lv_iload_n hx hb dX7_most_18 rfl (lv_at hl 2 rfl) ?_
  refine lv_iadd hx hb dX7_most_19 ?_
  refine topi_eq (y := nI (5 + c)) (aN rfl rfl) ?_
  refine iald_n hx hb hKX hP 1 rfl rfl (by omega) (by decide) dX7_most_20 ?_
  refine lv_iconst (v := (3 : Int32)) hx hb dX7_most_21 (by decide) ?_
  refine lv_icmp_ne (tgt := 49) hx hb dX7_most_22 (by decide) (fun c1 => ?_) (fun c1 => ?_)
  · refine lv_iload_n hx hb dX7_most_49 rfl (lv_at hl 4 rfl) ?_
    refine lv_if_eq (tgt := 78) hx hb dX7_most_50 (by decide) (fun c2 => ?_) (fun c2 => ?_)
    · refine lv_iload hx hb dX7_most_78 (lv_at hl 0 rfl) ?_
      exact W.iret (v := (f_X7_plain om_s (f_X7_stead om_s left c) c)) hx hb hr (fun t ht hW => ⟨_, rfl, by unfold f_X7_most; rw [if_neg c1, if_pos c2] <;> rfl, ht⟩) (fun q hq => by cases hq) dX7_most_80
    · refine lv_aload_n hx hb dX7_most_53 rfl (lv_at hl 1 rfl) ?_
      refine gf_X7_15 hx hb hG hown hKX hP 0 rfl rfl dX7_most_54 ?_
      refine lv_iconst (v := (5 : Int32)) hx hb dX7_most_57 (by decide) ?_
      refine lv_iload_n hx hb dX7_most_58 rfl (lv_at hl 2 rfl) ?_
      refine lv_iadd hx hb dX7_most_59 ?_
      refine topi_eq (y := nI (5 + c)) (aN rfl rfl) ?_
      refine iald_n hx hb hKX hP 1 rfl rfl (by omega) (by decide) dX7_most_60 ?_
      refine lv_iconst (v := (2 : Int32)) hx hb dX7_most_61 (by decide) ?_
      refine lv_icmp_ne (tgt := 78) hx hb dX7_most_62 (by decide) (fun c3 => ?_) (fun c3 => ?_)
      · refine lv_iload hx hb dX7_most_78 (lv_at hl 0 rfl) ?_
        exact W.iret (v := (f_X7_plain om_s (f_X7_stead om_s left c) c)) hx hb hr (fun t ht hW => ⟨_, rfl, by unfold f_X7_most; rw [if_neg c1, if_neg c2, if_neg c3] <;> rfl, ht⟩) (fun q hq => by cases hq) dX7_most_80
      · refine lv_aload_n hx hb dX7_most_65 rfl (lv_at hl 1 rfl) ?_
        refine lv_iload_n hx hb dX7_most_66 rfl (lv_at hl 2 rfl) ?_
        refine cRoV (q0 := 0) (ci := 7) mw16_9 mw16_10 mw16_11 mw1_5 mw16_12 rfl rfl hd_X7_payer hx hb hml hown hG hKX (c_X7_payer l D cy om om_thrown om_s om_kept om_aside om_isKept om_reaches om_ringOf om_rungOf om_rings om_ringMany om_paid om_leftOf om_ringPaid om_paidAll om_mosts om_text om_signs om_at om_isWrong om_clauses om_letters om_one om_two om_three om_whys om_backs om_sorts om_sizes om_items n c hn hs0 hc) ⟨Nat.le_of_ble_eq_true rfl, Nat.le_of_ble_eq_true rfl⟩ ⟨Nat.zero_le _, Nat.zero_le _⟩ hP rfl rfl hl.1 rfl (Nat.le_of_ble_eq_true rfl) dX7_most_67 ?_
        refine lv_iconst (v := (-1 : Int32)) hx hb dX7_most_70 (by decide) ?_
        refine lv_icmp_eq (tgt := 78) hx hb dX7_most_71 (by decide) (fun c4 => ?_) (fun c4 => ?_)
        · refine lv_iload hx hb dX7_most_78 (lv_at hl 0 rfl) ?_
          exact W.iret (v := (f_X7_plain om_s (f_X7_stead om_s left c) c)) hx hb hr (fun t ht hW => ⟨_, rfl, by unfold f_X7_most; rw [if_neg c1, if_neg c2, if_pos c3, if_pos c4] <;> rfl, ht⟩) (fun q hq => by cases hq) dX7_most_80
        · obtain ⟨j80, hj80, hlj80, hcj80⟩ := pyr_of (by omega) c4
          refine lv_iconst (v := (0 : Int32)) hx hb dX7_most_74 (by decide) ?_
          refine lv_goto (tgt := 80) hx hb dX7_most_75 (by decide) ?_
          exact W.iret (v := (0 : Int32)) hx hb hr (fun t ht hW => ⟨_, rfl, by subst hj80; unfold f_X7_most; rw [if_neg c1, if_neg c2, if_pos c3, if_neg c4] <;> rfl, ht⟩) (fun q hq => by cases hq) dX7_most_80
  · refine lv_iload hx hb dX7_most_25 (lv_at hl 0 rfl) ?_
    refine lv_if_le (tgt := 47) hx hb dX7_most_27 (by decide) (fun c5 => ?_) (fun c5 => ?_)
    · refine lv_iconst (v := (0 : Int32)) hx hb dX7_most_47 (by decide) ?_
      exact W.iret (v := (0 : Int32)) hx hb hr (fun t ht hW => ⟨_, rfl, by unfold f_X7_most; rw [if_pos c1, if_pos c5] <;> rfl, ht⟩) (fun q hq => by cases hq) dX7_most_48
    · refine lv_aload_n hx hb dX7_most_30 rfl (lv_at hl 1 rfl) ?_
      refine lv_iload_n hx hb dX7_most_31 rfl (lv_at hl 3 rfl) ?_
      refine lv_aload_n hx hb dX7_most_32 rfl (lv_at hl 1 rfl) ?_
      refine gf_X7_15 hx hb hG hown hKX hP 0 rfl rfl dX7_most_33 ?_
      refine lv_bipush (v := (11 : Int32)) hx hb dX7_most_36 (by decide) ?_
      refine lv_iload_n hx hb dX7_most_38 rfl (lv_at hl 2 rfl) ?_
      refine lv_iadd hx hb dX7_most_39 ?_
      refine topi_eq (y := nI (11 + c)) (aN rfl rfl) ?_
      refine iald_n hx hb hKX hP 1 rfl rfl (by omega) (by decide) dX7_most_40 ?_
      refine cRoV (q0 := 0) (ci := 7) mw16_5 mw16_6 mw16_7 mw1_5 mw16_8 rfl rfl hd_X7_least hx hb hml hown hG hKX (c_X7_least l D cy om om_thrown om_s om_kept om_aside om_isKept om_reaches om_ringOf om_rungOf om_rings om_ringMany om_paid om_leftOf om_ringPaid om_paidAll om_mosts om_text om_signs om_at om_isWrong om_clauses om_letters om_one om_two om_three om_whys om_backs om_sorts om_sizes om_items left (om_s (11 + c))) ⟨Nat.le_of_ble_eq_true rfl, Nat.le_of_ble_eq_true rfl⟩ ⟨Nat.zero_le _, Nat.zero_le _⟩ hP rfl rfl hl.1 rfl (Nat.le_of_ble_eq_true rfl) dX7_most_41 ?_
      refine lv_goto (tgt := 48) hx hb dX7_most_44 (by decide) ?_
      exact W.iret (v := (f_X7_least left (om_s (11 + c)))) hx hb hr (fun t ht hW => ⟨_, rfl, by unfold f_X7_most; rw [if_pos c1, if_neg c5] <;> rfl, ht⟩) (fun q hq => by cases hq) dX7_most_48
def bd_X7_payRing_128 (v6 : Int32) (z25 : (Nat → Int32) × (Nat → Int32)) (k128 : Nat) (z128 : Int32 × Int32 × (Nat → Int32)) : Int32 × Int32 × (Nat → Int32) :=
  if z128.1 = (0 : Int32) then z128 else (if (f_X7_has v6 (nI k128)) = (0 : Int32) then z128 else (if (z128.2.2 k128) = (z25.1 k128) then z128 else ((z128.1 + (-1 : Int32)), (1 : Int32), upd z128.2.2 k128 ((z128.2.2 k128) + (1 : Int32)))))
def bd_X7_payRing_117 (n : Nat) (v6 : Int32) (z25 : (Nat → Int32) × (Nat → Int32)) (z117 : Int32 × Int32 × (Nat → Int32)) : (Int32 × Int32 × (Nat → Int32)) ⊕ (Int32 × Int32 × (Nat → Int32)) :=
  if z117.2.1 = (0 : Int32) then (.inr z117) else (.inl (itr (bd_X7_payRing_128 v6 z25) n (z117.1, (0 : Int32), z117.2.2)))
def bd_X7_payRing_25 (om_s : Nat → Int32) (left : Int32) (n : Nat) (v20 : Int32) (v6 : Int32) (k25 : Nat) (z25 : (Nat → Int32) × (Nat → Int32)) : (Nat → Int32) × (Nat → Int32) :=
  if (f_X7_has v6 (nI k25)) = (0 : Int32) then z25 else (if v20 = (0 : Int32) then (upd z25.1 k25 (f_X7_most om_s z25.2 left v20 n k25), upd z25.2 k25 (0 : Int32)) else (upd z25.1 k25 (f_X7_most om_s z25.2 left v20 n k25), upd z25.2 k25 ((upd z25.1 k25 (f_X7_most om_s z25.2 left v20 n k25)) k25)))
def f_X7_payRing (om_s : Nat → Int32) (om_rings : Nat → Int32) (om_paid : Nat → Int32) (om_mosts : Nat → Int32) (left : Int32) (n : Nat) (kr : Nat) : (Nat → Int32) × (Nat → Int32) :=
  if (f_X7_bits (om_rings kr)) = (1 : Int32) then (if (1 : Int32) = (0 : Int32) then (if left ≤ (0 : Int32) then (((wl (bd_X7_payRing_117 n (om_rings kr) (itr (bd_X7_payRing_25 om_s left n (1 : Int32) (om_rings kr)) n (om_mosts, om_paid))) 4294967296 (left, (0 : Int32), (itr (bd_X7_payRing_25 om_s left n (1 : Int32) (om_rings kr)) n (om_mosts, om_paid)).2)).getD (left, (0 : Int32), (itr (bd_X7_payRing_25 om_s left n (1 : Int32) (om_rings kr)) n (om_mosts, om_paid)).2)).2.2, (itr (bd_X7_payRing_25 om_s left n (1 : Int32) (om_rings kr)) n (om_mosts, om_paid)).1) else (((wl (bd_X7_payRing_117 n (om_rings kr) (itr (bd_X7_payRing_25 om_s left n (1 : Int32) (om_rings kr)) n (om_mosts, om_paid))) 4294967296 (left, (1 : Int32), (itr (bd_X7_payRing_25 om_s left n (1 : Int32) (om_rings kr)) n (om_mosts, om_paid)).2)).getD (left, (1 : Int32), (itr (bd_X7_payRing_25 om_s left n (1 : Int32) (om_rings kr)) n (om_mosts, om_paid)).2)).2.2, (itr (bd_X7_payRing_25 om_s left n (1 : Int32) (om_rings kr)) n (om_mosts, om_paid)).1)) else (((wl (bd_X7_payRing_117 n (om_rings kr) (itr (bd_X7_payRing_25 om_s left n (1 : Int32) (om_rings kr)) n (om_mosts, om_paid))) 4294967296 ((0 : Int32), (0 : Int32), (itr (bd_X7_payRing_25 om_s left n (1 : Int32) (om_rings kr)) n (om_mosts, om_paid)).2)).getD ((0 : Int32), (0 : Int32), (itr (bd_X7_payRing_25 om_s left n (1 : Int32) (om_rings kr)) n (om_mosts, om_paid)).2)).2.2, (itr (bd_X7_payRing_25 om_s left n (1 : Int32) (om_rings kr)) n (om_mosts, om_paid)).1)) else (if (0 : Int32) = (0 : Int32) then (if left ≤ (0 : Int32) then (((wl (bd_X7_payRing_117 n (om_rings kr) (itr (bd_X7_payRing_25 om_s left n (0 : Int32) (om_rings kr)) n (om_mosts, om_paid))) 4294967296 (left, (0 : Int32), (itr (bd_X7_payRing_25 om_s left n (0 : Int32) (om_rings kr)) n (om_mosts, om_paid)).2)).getD (left, (0 : Int32), (itr (bd_X7_payRing_25 om_s left n (0 : Int32) (om_rings kr)) n (om_mosts, om_paid)).2)).2.2, (itr (bd_X7_payRing_25 om_s left n (0 : Int32) (om_rings kr)) n (om_mosts, om_paid)).1) else (((wl (bd_X7_payRing_117 n (om_rings kr) (itr (bd_X7_payRing_25 om_s left n (0 : Int32) (om_rings kr)) n (om_mosts, om_paid))) 4294967296 (left, (1 : Int32), (itr (bd_X7_payRing_25 om_s left n (0 : Int32) (om_rings kr)) n (om_mosts, om_paid)).2)).getD (left, (1 : Int32), (itr (bd_X7_payRing_25 om_s left n (0 : Int32) (om_rings kr)) n (om_mosts, om_paid)).2)).2.2, (itr (bd_X7_payRing_25 om_s left n (0 : Int32) (om_rings kr)) n (om_mosts, om_paid)).1)) else (((wl (bd_X7_payRing_117 n (om_rings kr) (itr (bd_X7_payRing_25 om_s left n (0 : Int32) (om_rings kr)) n (om_mosts, om_paid))) 4294967296 ((0 : Int32), (0 : Int32), (itr (bd_X7_payRing_25 om_s left n (0 : Int32) (om_rings kr)) n (om_mosts, om_paid)).2)).getD ((0 : Int32), (0 : Int32), (itr (bd_X7_payRing_25 om_s left n (0 : Int32) (om_rings kr)) n (om_mosts, om_paid)).2)).2.2, (itr (bd_X7_payRing_25 om_s left n (0 : Int32) (om_rings kr)) n (om_mosts, om_paid)).1))
theorem pr_in {v : Int32} {z : (Nat → Int32) × (Nat → Int32)} {m : Nat} {f : Nat → Int32} : ∀ k : Nat, ∃ m' : Nat, (itr (bd_X7_payRing_128 v z) k (nI m, 0, f)).1 = nI m' ∧ m' ≤ m ∧ ((itr (bd_X7_payRing_128 v z) k (nI m, 0, f)).2.1 = 0 ∨ m' < m)
  | 0 => ⟨m, rfl, Nat.le_refl m, Or.inl rfl⟩
  | k + 1 => by
    obtain ⟨m', h1, h2, h3⟩ := pr_in (v := v) (z := z) (m := m) (f := f) k
    rw [itr_succ]
    generalize itr (bd_X7_payRing_128 v z) k (nI m, 0, f) = y at h1 h3 ⊢
    unfold bd_X7_payRing_128
    by_cases c1 : y.1 = 0
    · rw [if_pos c1]; exact ⟨m', h1, h2, h3⟩
    · rw [if_neg c1]
      by_cases c2 : f_X7_has v (nI k) = 0
      · rw [if_pos c2]; exact ⟨m', h1, h2, h3⟩
      · rw [if_neg c2]
        by_cases c3 : y.2.2 k = z.1 k
        · rw [if_pos c3]; exact ⟨m', h1, h2, h3⟩
        · rw [if_neg c3]
          have hm : 0 < m' := Nat.pos_of_ne_zero (fun q => c1 (by rw [h1, q]; rfl))
          exact ⟨m' - 1, by show y.1 + (-1) = _; rw [h1, sb_m1 hm], by omega, Or.inr (by omega)⟩
theorem pr_some {n : Nat} {v : Int32} {z : (Nat → Int32) × (Nat → Int32)} : ∀ (d m : Nat) (on : Int32) (f : Nat → Int32), (on = 0 → 0 < d) → (¬ on = 0 → m + 1 < d) → (wl (bd_X7_payRing_117 n v z) d (nI m, on, f)).isSome = true
  | 0, m, on, f, h1, h2 => by
    by_cases e : on = 0
    · exact absurd (h1 e) (Nat.lt_irrefl 0)
    · exact absurd (h2 e) (Nat.not_lt_zero _)
  | d + 1, m, on, f, h1, h2 => by
    by_cases e : on = 0
    · have hb : bd_X7_payRing_117 n v z (nI m, on, f) = .inr (nI m, on, f) := by unfold bd_X7_payRing_117; rw [if_pos e]
      rw [wl_inr hb]; rfl
    · have hb : bd_X7_payRing_117 n v z (nI m, on, f) = .inl (itr (bd_X7_payRing_128 v z) n (nI m, 0, f)) := by unfold bd_X7_payRing_117; rw [if_neg e]
      rw [wl_inl hb]
      obtain ⟨m', g1, g2, g3⟩ := pr_in (v := v) (z := z) (m := m) (f := f) n
      generalize itr (bd_X7_payRing_128 v z) n (nI m, 0, f) = y at g1 g3 ⊢
      obtain ⟨y1, y2, y3⟩ := y
      have g1 : y1 = nI m' := g1
      subst g1
      have h3 := h2 e
      refine pr_some d m' y2 y3 (fun _ => by omega) (fun e2 => ?_)
      rcases g3 with g | g
      · exact absurd g e2
      · omega
theorem payR_s0 {n : Nat} {v : Int32} {z : (Nat → Int32) × (Nat → Int32)} {x : Int32} {f : Nat → Int32} : (wl (bd_X7_payRing_117 n v z) 4294967296 (x, 0, f)).isSome = true := by
  have hb : bd_X7_payRing_117 n v z (x, 0, f) = .inr (x, 0, f) := by unfold bd_X7_payRing_117; rw [if_pos rfl]
  rw [show (4294967296 : Nat) = 4294967295 + 1 from rfl, wl_inr hb]; rfl
theorem payR_s1 {n : Nat} {v : Int32} {z : (Nat → Int32) × (Nat → Int32)} {x : Int32} {f : Nat → Int32} (h : ¬ x ≤ 0) : (wl (bd_X7_payRing_117 n v z) 4294967296 (x, 1, f)).isSome = true := by
  obtain ⟨m, hm, rfl⟩ := nI_of (x := x) (fun q => h (Int32.le_of_lt q))
  exact pr_some _ _ _ _ (fun _ => Nat.lt_of_lt_of_le (Nat.zero_lt_succ 0) (Nat.le_of_ble_eq_true rfl)) (fun _ => by omega)

set_option maxHeartbeats 4000000 in
set_option maxRecDepth 100000 in
theorem c_X7_payRing (l : Launch) (D : va_G) (cy : Nat → ClassId) (om : Nat → Nat) (om_thrown : Int32) (om_s : Nat → Int32) (om_kept : Nat → Int32) (om_aside : Nat → Int32) (om_isKept : Int32) (om_reaches : Nat → Int32) (om_ringOf : Nat → Int32) (om_rungOf : Nat → Int32) (om_rings : Nat → Int32) (om_ringMany : Int32) (om_paid : Nat → Int32) (om_leftOf : Nat → Int32) (om_ringPaid : Nat → Int32) (om_paidAll : Int32) (om_mosts : Nat → Int32) (om_text : Nat → Int32) (om_signs : Int32) (om_at : Int32) (om_isWrong : Int32) (om_clauses : Int32) (om_letters : Nat → Int32) (om_one : Nat → Int32) (om_two : Nat → Int32) (om_three : Nat → Int32) (om_whys : Nat → Int32) (om_backs : Nat → Int32) (om_sorts : Nat → Int32) (om_sizes : Nat → Int32) (om_items : Nat → Int64) (left : Int32) (n : Nat) (kr : Nat) (hn : n ≤ 6) (hs0 : om_s 0 = nI n) (hkr : kr < 6) : RwV (S := (Nat → Int32) × (Nat → Int32)) l D cy yX7_payRing (.code yX7_payRing cX7_payRing 8 none) 3 (wX7 cy om om_thrown om_s om_kept om_aside om_isKept om_reaches om_ringOf om_rungOf om_rings om_ringMany om_paid om_leftOf om_ringPaid om_paidAll om_mosts om_text om_signs om_at om_isWrong om_clauses om_letters om_one om_two om_three om_whys om_backs om_sorts om_sizes om_items) [.ref (om 0), .int (nI kr), .int left] (fun u => u = f_X7_payRing om_s om_rings om_paid om_mosts left n kr) (fun u => wX7 cy om om_thrown om_s om_kept om_aside om_isKept om_reaches om_ringOf om_rungOf om_rings om_ringMany u.1 om_leftOf om_ringPaid om_paidAll u.2 om_text om_signs om_at om_isWrong om_clauses om_letters om_one om_two om_three om_whys om_backs om_sorts om_sizes om_items) := by
  intro sz
  refine Met.ofW (cc := cX7_payRing) (maxL := 8) (ret := none) (by decide) rfl ?_
  intro pP eE s0 mM args below meth cC s₁ B hml hv
  obtain ⟨rfl, hsz, hP, hKX, hD0⟩ := hv
  have hx := B.exec
  have hb := B.bytes
  have hr := B.returns
  have hG := gw_hts (atoms_spec (ws := _) B.pre)
  have hown : s0.vm.findClass RX7 = some mM.cls := findClass_of_methodNamed B.named
  have hlocks := B.notSynchronized
  subst hsz
  have hD := hD0.self (sz := s0.heap.size)
  generalize hAe : va_A (wX7 cy om om_thrown om_s om_kept om_aside om_isKept om_reaches om_ringOf om_rungOf om_rings om_ringMany om_paid om_leftOf om_ringPaid om_paidAll om_mosts om_text om_signs om_at om_isWrong om_clauses om_letters om_one om_two om_three om_whys om_backs om_sorts om_sizes om_items) s0.heap.size = A at hD ⊢
  have hA : ∀ q : Nat, s0.heap.size ≤ q → A q := fun q h => by rw [← hAe]; exact Or.inr h
  have hS : va_S A s0.heap s0.heap [] := va_S.rf
  have hl := lv_entry ([.ref (om 0), .int (nI kr), .int left]) (n := 8) (Nat.le_of_ble_eq_true rfl)
  rw [lg_entry_eq]
  generalize (lg_sl ([.ref (om 0), .int (nI kr), .int left]) ++ List.replicate (8 - (lg_sl ([.ref (om 0), .int (nI kr), .int left])).length) Slot.unset).toArray = ls at hl ⊢
  have hl : lv_has ls 8 [(0, .ref (om 0)), (1, .int (nI kr)), (2, .int left)] := hl
  refine lv_aload_n hx hb dX7_payRing_0 rfl (lv_at hl 0 rfl) ?_
  refine gf_X7_34 hx hb hG hown hKX hP 0 rfl rfl dX7_payRing_1 ?_
  refine lv_iload_n hx hb dX7_payRing_4 rfl (lv_at hl 1 rfl) ?_
  refine iald_n hx hb hKX hP 7 rfl rfl (by omega) (by decide) dX7_payRing_5 ?_
  refine lv_topi (fun v6 ev6 => ?_)
  refine lv_istore_n (lv' := [(3, .int v6), (0, .ref (om 0)), (1, .int (nI kr)), (2, .int left)]) hx hb dX7_payRing_6 rfl hl (by decide) rfl (fun ls hl => ?_)
  refine lv_iload_n hx hb dX7_payRing_7 rfl (lv_at hl 0 rfl) ?_
  refine cRoS mw15_14 mw15_15 mw1_5 mw15_16 hd_X7_bits hx hb hml hown hG hKX (c_X7_bits l D cy v6) ⟨Nat.le_of_ble_eq_true rfl, Nat.le_of_ble_eq_true rfl⟩ ⟨Nat.zero_le _, Nat.zero_le _⟩ (hP.sub [] rfl) rfl hl.1 rfl (Nat.le_of_ble_eq_true rfl) dX7_payRing_8 ?_
  refine lv_iconst (v := (1 : Int32)) hx hb dX7_payRing_11 (by decide) ?_
  refine lv_icmp_ne (tgt := 19) hx hb dX7_payRing_12 (by decide) (fun c1 => ?_) (fun c1 => ?_)
  · refine lv_iconst (v := (0 : Int32)) hx hb dX7_payRing_19 (by decide) ?_
    refine lv_topi (fun v20 ev20 => ?_)
    refine lv_istore (lv' := [(4, .int v20), (3, .int v6), (0, .ref (om 0)), (1, .int (nI kr)), (2, .int left)]) hx hb dX7_payRing_20 hl (by decide) rfl (fun ls hl => ?_)
    refine lv_iconst (v := (0 : Int32)) hx hb dX7_payRing_22 (by decide) ?_
    refine lv_istore (lv' := [(5, .int (0 : Int32)), (4, .int v20), (3, .int v6), (0, .ref (om 0)), (1, .int (nI kr)), (2, .int left)]) hx hb dX7_payRing_23 hl (by decide) rfl (fun ls hl => ?_)
    refine loopW (bd_X7_payRing_25 om_s left n v20 v6) (om_mosts, om_paid) n (fun k25 z25 => [(5, .int (nI k25)), (4, .int v20), (3, .int v6), (0, .ref (om 0)), (1, .int (nI kr)), (2, .int left)]) (fun k25 z25 => wX7 cy om om_thrown om_s om_kept om_aside om_isKept om_reaches om_ringOf om_rungOf om_rings om_ringMany z25.2 om_leftOf om_ringPaid om_paidAll z25.1 om_text om_signs om_at om_isWrong om_clauses om_letters om_one om_two om_three om_whys om_backs om_sorts om_sizes om_items) hP hD hS (lv_sub hl [0, 1, 2, 3, 4, 5] rfl) (fun k25 z25 H locs ls hk25 hz25 hP hD hS hl ih25 => ?_)
    refine lv_iload hx hb dX7_payRing_25 (lv_at hl 0 rfl) ?_
    refine lv_aload_n hx hb dX7_payRing_27 rfl (lv_at hl 3 rfl) ?_
    refine gf_X7_15 hx hb hG hown hKX hP 0 rfl rfl dX7_payRing_28 ?_
    refine lv_iconst (v := (0 : Int32)) hx hb dX7_payRing_31 (by decide) ?_
    refine iald_v hx hb hKX hP 1 rfl rfl (by decide) (by decide) hs0 dX7_payRing_32 ?_
    refine lv_icmp_ge (tgt := 93) hx hb dX7_payRing_33 (by decide) (fun c2 => ?_) (fun c2 => ?_)
    · have e_k25 : n = k25 := Nat.le_antisymm ((le_n (N := n) (k := k25) rfl (by omega) (by omega)).mp c2) hk25
      subst e_k25
      refine lv_iload hx hb dX7_payRing_93 (lv_at hl 1 rfl) ?_
      refine lv_if_eq (tgt := 102) hx hb dX7_payRing_95 (by decide) (fun c3 => ?_) (fun c3 => ?_)
      · refine lv_iload_n hx hb dX7_payRing_102 rfl (lv_at hl 5 rfl) ?_
        refine lv_istore (lv' := [(5, .int left), (4, .int v20), (3, .int v6), (0, .ref (om 0)), (1, .int (nI kr)), (2, .int left)]) hx hb dX7_payRing_103 hl (by decide) rfl (fun ls hl => ?_)
        refine lv_iload hx hb dX7_payRing_105 (lv_at hl 0 rfl) ?_
        refine lv_if_le (tgt := 114) hx hb dX7_payRing_107 (by decide) (fun c4 => ?_) (fun c4 => ?_)
        · refine lv_iconst (v := (0 : Int32)) hx hb dX7_payRing_114 (by decide) ?_
          refine lv_istore (lv' := [(6, .int (0 : Int32)), (5, .int left), (4, .int v20), (3, .int v6), (0, .ref (om 0)), (1, .int (nI kr)), (2, .int left)]) hx hb dX7_payRing_115 hl (by decide) rfl (fun ls hl => ?_)
          refine loopWh (pcX := 199) (bd_X7_payRing_117 n v6 z25) 4294967296 (left, (0 : Int32), z25.2) ((wl (bd_X7_payRing_117 n v6 z25) 4294967296 (left, (0 : Int32), z25.2)).getD (left, (0 : Int32), z25.2)) (wl_some payR_s0) (fun z117 => [(6, .int z117.2.1), (5, .int z117.1), (4, .int v20), (3, .int v6), (0, .ref (om 0)), (1, .int (nI kr)), (2, .int left)]) (fun z117 => wX7 cy om om_thrown om_s om_kept om_aside om_isKept om_reaches om_ringOf om_rungOf om_rings om_ringMany z117.2.2 om_leftOf om_ringPaid om_paidAll z25.1 om_text om_signs om_at om_isWrong om_clauses om_letters om_one om_two om_three om_whys om_backs om_sorts om_sizes om_items) (fun z117 => [(0, .ref (om 0))]) hP hD hS (lv_sub hl [0, 1, 2, 3, 4, 5, 6] rfl) (fun zx117 H locs ls hzx117 hP hD hS hl => ?_) (fun z117 H locs ls hP hD hS hl ih117 br117 => ?_)
          · exact W.vret hx hb hr (fun t ht hW => ⟨⟨(zx117.2.2, z25.1), rfl, by subst hzx117; subst hz25; subst ev20; subst ev6; unfold f_X7_payRing; rw [if_neg c1, if_pos c3, if_pos c4] <;> rfl, by rw [ht]; exact hP, hD⟩, hS.F ht⟩) hS.2.2 dX7_payRing_199
          · refine lv_iload hx hb dX7_payRing_117 (lv_at hl 0 rfl) ?_
            refine lv_if_eq (tgt := 199) hx hb dX7_payRing_119 (by decide) (fun c5 => ?_) (fun c5 => ?_)
            · exact br117 z117 _ _ _  (by subst hz25; subst ev20; subst ev6; unfold bd_X7_payRing_117; rw [if_pos c5] <;> rfl) hP hD hS (lv_sub hl [4] rfl)
            · refine lv_iconst (v := (0 : Int32)) hx hb dX7_payRing_122 (by decide) ?_
              refine lv_istore (lv' := [(6, .int (0 : Int32)), (5, .int z117.1), (4, .int v20), (3, .int v6), (0, .ref (om 0)), (1, .int (nI kr)), (2, .int left)]) hx hb dX7_payRing_123 hl (by decide) rfl (fun ls hl => ?_)
              refine lv_iconst (v := (0 : Int32)) hx hb dX7_payRing_125 (by decide) ?_
              refine lv_istore (lv' := [(7, .int (0 : Int32)), (6, .int (0 : Int32)), (5, .int z117.1), (4, .int v20), (3, .int v6), (0, .ref (om 0)), (1, .int (nI kr)), (2, .int left)]) hx hb dX7_payRing_126 hl (by decide) rfl (fun ls hl => ?_)
              refine loopW (bd_X7_payRing_128 v6 z25) (z117.1, (0 : Int32), z117.2.2) n (fun k128 z128 => [(7, .int (nI k128)), (6, .int z128.2.1), (5, .int z128.1), (4, .int v20), (3, .int v6), (0, .ref (om 0)), (1, .int (nI kr)), (2, .int left)]) (fun k128 z128 => wX7 cy om om_thrown om_s om_kept om_aside om_isKept om_reaches om_ringOf om_rungOf om_rings om_ringMany z128.2.2 om_leftOf om_ringPaid om_paidAll z25.1 om_text om_signs om_at om_isWrong om_clauses om_letters om_one om_two om_three om_whys om_backs om_sorts om_sizes om_items) hP hD hS (lv_sub hl [0, 1, 2, 3, 4, 5, 6, 7] rfl) (fun k128 z128 H locs ls hk128 hz128 hP hD hS hl ih128 => ?_)
              refine lv_iload hx hb dX7_payRing_128 (lv_at hl 0 rfl) ?_
              refine lv_aload_n hx hb dX7_payRing_130 rfl (lv_at hl 5 rfl) ?_
              refine gf_X7_15 hx hb hG hown hKX hP 0 rfl rfl dX7_payRing_131 ?_
              refine lv_iconst (v := (0 : Int32)) hx hb dX7_payRing_134 (by decide) ?_
              refine iald_v hx hb hKX hP 1 rfl rfl (by decide) (by decide) hs0 dX7_payRing_135 ?_
              refine lv_icmp_ge (tgt := 196) hx hb dX7_payRing_136 (by decide) (fun c6 => ?_) (fun c6 => ?_)
              · have e_k128 : n = k128 := Nat.le_antisymm ((le_n (N := n) (k := k128) rfl (by omega) (by omega)).mp c6) hk128
                subst e_k128
                refine lv_goto (tgt := 117) hx hb dX7_payRing_196 (by decide) ?_
                exact ih117 z128 _ _ _ (by subst hz128; subst hz25; subst ev20; subst ev6; unfold bd_X7_payRing_117; rw [if_neg c5] <;> rfl) hP hD hS (lv_sub hl [1, 2, 3, 4, 5, 6, 7] rfl)
              · have hlt128 : k128 < n := Nat.lt_of_not_le (fun qq_ => c6 ((le_n (N := n) (k := k128) rfl (by omega) (by omega)).mpr qq_))
                refine lv_iload hx hb dX7_payRing_139 (lv_at hl 2 rfl) ?_
                refine lv_if_eq (tgt := 190) hx hb dX7_payRing_141 (by decide) (fun c7 => ?_) (fun c7 => ?_)
                · refine lv_iinc (v := nI (k128 + 1)) (lv' := [(7, .int (nI (k128 + 1))), (6, .int z128.2.1), (5, .int z128.1), (4, .int v20), (3, .int v6), (0, .ref (om 0)), (1, .int (nI kr)), (2, .int left)]) hx hb dX7_payRing_190 hl (k := 0) rfl (nI_1 _) (by decide) rfl (fun ls hl => ?_)
                  refine lv_goto (tgt := 128) hx hb dX7_payRing_193 (by decide) ?_
                  exact ih128 z128 _ _ _ hlt128 (by subst hz25; subst ev20; subst ev6; unfold bd_X7_payRing_128; rw [if_pos c7] <;> rfl) hP hD hS (lv_sub hl [0, 1, 2, 3, 4, 5, 6, 7] rfl)
                · refine lv_iload_n hx hb dX7_payRing_144 rfl (lv_at hl 4 rfl) ?_
                  refine lv_iload hx hb dX7_payRing_145 (lv_at hl 0 rfl) ?_
                  refine cRoS mw14_23 mw15_0 mw1_5 mw15_1 hd_X7_has hx hb hml hown hG hKX (c_X7_has l D cy v6 (nI k128)) ⟨Nat.le_of_ble_eq_true rfl, Nat.le_of_ble_eq_true rfl⟩ ⟨Nat.zero_le _, Nat.zero_le _⟩ (hP.sub [] rfl) rfl hl.1 rfl (Nat.le_of_ble_eq_true rfl) dX7_payRing_147 ?_
                  refine lv_if_eq (tgt := 190) hx hb dX7_payRing_150 (by decide) (fun c8 => ?_) (fun c8 => ?_)
                  · refine lv_iinc (v := nI (k128 + 1)) (lv' := [(7, .int (nI (k128 + 1))), (6, .int z128.2.1), (5, .int z128.1), (4, .int v20), (3, .int v6), (0, .ref (om 0)), (1, .int (nI kr)), (2, .int left)]) hx hb dX7_payRing_190 hl (k := 0) rfl (nI_1 _) (by decide) rfl (fun ls hl => ?_)
                    refine lv_goto (tgt := 128) hx hb dX7_payRing_193 (by decide) ?_
                    exact ih128 z128 _ _ _ hlt128 (by subst hz25; subst ev20; subst ev6; unfold bd_X7_payRing_128; rw [if_neg c7, if_pos c8] <;> rfl) hP hD hS (lv_sub hl [0, 1, 2, 3, 4, 5, 6, 7] rfl)
                  · refine lv_aload_n hx hb dX7_payRing_153 rfl (lv_at hl 5 rfl) ?_
                    refine gf_X7_37 hx hb hG hown hKX hP 0 rfl rfl dX7_payRing_154 ?_
                    refine lv_iload hx hb dX7_payRing_157 (lv_at hl 0 rfl) ?_
                    refine iald_n hx hb hKX hP 8 rfl rfl (by omega) (by decide) dX7_payRing_159 ?_
                    refine lv_aload_n hx hb dX7_payRing_160 rfl (lv_at hl 5 rfl) ?_
                    refine gf_X7_46 hx hb hG hown hKX hP 0 rfl rfl dX7_payRing_161 ?_
                    refine lv_iload hx hb dX7_payRing_164 (lv_at hl 0 rfl) ?_
                    refine iald_n hx hb hKX hP 11 rfl rfl (by omega) (by decide) dX7_payRing_166 ?_
                    refine lv_icmp_ne (tgt := 173) hx hb dX7_payRing_167 (by decide) (fun c9 => ?_) (fun c9 => ?_)
                    · refine lv_aload_n hx hb dX7_payRing_173 rfl (lv_at hl 5 rfl) ?_
                      refine gf_X7_37 hx hb hG hown hKX hP 0 rfl rfl dX7_payRing_174 ?_
                      refine lv_iload hx hb dX7_payRing_177 (lv_at hl 0 rfl) ?_
                      refine lv_dup2_11 hx hb dX7_payRing_179 rfl rfl ?_
                      refine iald_n hx hb hKX hP 8 rfl rfl (by omega) (by decide) dX7_payRing_180 ?_
                      refine lv_iconst (v := (1 : Int32)) hx hb dX7_payRing_181 (by decide) ?_
                      refine lv_iadd hx hb dX7_payRing_182 ?_
                      refine iast_n hx hb hKX hP hD hS 8 rfl rfl (by omega) (by decide) dX7_payRing_183 (fun H locs hP hD hS => ?_)
                      have hP : va_P D vwCl (wX7 cy om om_thrown om_s om_kept om_aside om_isKept om_reaches om_ringOf om_rungOf om_rings om_ringMany (upd z128.2.2 k128 ((z128.2.2 k128) + (1 : Int32))) om_leftOf om_ringPaid om_paidAll z25.1 om_text om_signs om_at om_isWrong om_clauses om_letters om_one om_two om_three om_whys om_backs om_sorts om_sizes om_items) H := hP
                      have hD : va_D A (wX7 cy om om_thrown om_s om_kept om_aside om_isKept om_reaches om_ringOf om_rungOf om_rings om_ringMany (upd z128.2.2 k128 ((z128.2.2 k128) + (1 : Int32))) om_leftOf om_ringPaid om_paidAll z25.1 om_text om_signs om_at om_isWrong om_clauses om_letters om_one om_two om_three om_whys om_backs om_sorts om_sizes om_items) := hD
                      refine lv_iinc (v := (z128.1 + (-1 : Int32))) (lv' := [(5, .int (z128.1 + (-1 : Int32))), (7, .int (nI k128)), (6, .int z128.2.1), (4, .int v20), (3, .int v6), (0, .ref (om 0)), (1, .int (nI kr)), (2, .int left)]) hx hb dX7_payRing_184 hl (k := 2) rfl rfl (by decide) rfl (fun ls hl => ?_)
                      refine lv_iconst (v := (1 : Int32)) hx hb dX7_payRing_187 (by decide) ?_
                      refine lv_istore (lv' := [(6, .int (1 : Int32)), (5, .int (z128.1 + (-1 : Int32))), (7, .int (nI k128)), (4, .int v20), (3, .int v6), (0, .ref (om 0)), (1, .int (nI kr)), (2, .int left)]) hx hb dX7_payRing_188 hl (by decide) rfl (fun ls hl => ?_)
                      refine lv_iinc (v := nI (k128 + 1)) (lv' := [(7, .int (nI (k128 + 1))), (6, .int (1 : Int32)), (5, .int (z128.1 + (-1 : Int32))), (4, .int v20), (3, .int v6), (0, .ref (om 0)), (1, .int (nI kr)), (2, .int left)]) hx hb dX7_payRing_190 hl (k := 2) rfl (nI_1 _) (by decide) rfl (fun ls hl => ?_)
                      refine lv_goto (tgt := 128) hx hb dX7_payRing_193 (by decide) ?_
                      exact ih128 ((z128.1 + (-1 : Int32)), (1 : Int32), upd z128.2.2 k128 ((z128.2.2 k128) + (1 : Int32))) _ _ _ hlt128 (by subst hz25; subst ev20; subst ev6; unfold bd_X7_payRing_128; rw [if_neg c7, if_neg c8, if_neg c9] <;> rfl) hP hD hS (lv_sub hl [0, 1, 2, 3, 4, 5, 6, 7] rfl)
                    · refine lv_goto (tgt := 190) hx hb dX7_payRing_170 (by decide) ?_
                      refine lv_iinc (v := nI (k128 + 1)) (lv' := [(7, .int (nI (k128 + 1))), (6, .int z128.2.1), (5, .int z128.1), (4, .int v20), (3, .int v6), (0, .ref (om 0)), (1, .int (nI kr)), (2, .int left)]) hx hb dX7_payRing_190 hl (k := 0) rfl (nI_1 _) (by decide) rfl (fun ls hl => ?_)
                      refine lv_goto (tgt := 128) hx hb dX7_payRing_193 (by decide) ?_
                      exact ih128 z128 _ _ _ hlt128 (by subst hz25; subst ev20; subst ev6; unfold bd_X7_payRing_128; rw [if_neg c7, if_neg c8, if_pos c9] <;> rfl) hP hD hS (lv_sub hl [0, 1, 2, 3, 4, 5, 6, 7] rfl)
        · refine lv_iconst (v := (1 : Int32)) hx hb dX7_payRing_110 (by decide) ?_
          refine lv_goto (tgt := 115) hx hb dX7_payRing_111 (by decide) ?_
          refine lv_istore (lv' := [(6, .int (1 : Int32)), (5, .int left), (4, .int v20), (3, .int v6), (0, .ref (om 0)), (1, .int (nI kr)), (2, .int left)]) hx hb dX7_payRing_115 hl (by decide) rfl (fun ls hl => ?_)
          refine loopWh (pcX := 199) (bd_X7_payRing_117 n v6 z25) 4294967296 (left, (1 : Int32), z25.2) ((wl (bd_X7_payRing_117 n v6 z25) 4294967296 (left, (1 : Int32), z25.2)).getD (left, (1 : Int32), z25.2)) (wl_some (payR_s1 c4)) (fun z117 => [(6, .int z117.2.1), (5, .int z117.1), (4, .int v20), (3, .int v6), (0, .ref (om 0)), (1, .int (nI kr)), (2, .int left)]) (fun z117 => wX7 cy om om_thrown om_s om_kept om_aside om_isKept om_reaches om_ringOf om_rungOf om_rings om_ringMany z117.2.2 om_leftOf om_ringPaid om_paidAll z25.1 om_text om_signs om_at om_isWrong om_clauses om_letters om_one om_two om_three om_whys om_backs om_sorts om_sizes om_items) (fun z117 => [(0, .ref (om 0))]) hP hD hS (lv_sub hl [0, 1, 2, 3, 4, 5, 6] rfl) (fun zx117 H locs ls hzx117 hP hD hS hl => ?_) (fun z117 H locs ls hP hD hS hl ih117 br117 => ?_)
          · exact W.vret hx hb hr (fun t ht hW => ⟨⟨(zx117.2.2, z25.1), rfl, by subst hzx117; subst hz25; subst ev20; subst ev6; unfold f_X7_payRing; rw [if_neg c1, if_pos c3, if_neg c4] <;> rfl, by rw [ht]; exact hP, hD⟩, hS.F ht⟩) hS.2.2 dX7_payRing_199
          · refine lv_iload hx hb dX7_payRing_117 (lv_at hl 0 rfl) ?_
            refine lv_if_eq (tgt := 199) hx hb dX7_payRing_119 (by decide) (fun c10 => ?_) (fun c10 => ?_)
            · exact br117 z117 _ _ _  (by subst hz25; subst ev20; subst ev6; unfold bd_X7_payRing_117; rw [if_pos c10] <;> rfl) hP hD hS (lv_sub hl [4] rfl)
            · refine lv_iconst (v := (0 : Int32)) hx hb dX7_payRing_122 (by decide) ?_
              refine lv_istore (lv' := [(6, .int (0 : Int32)), (5, .int z117.1), (4, .int v20), (3, .int v6), (0, .ref (om 0)), (1, .int (nI kr)), (2, .int left)]) hx hb dX7_payRing_123 hl (by decide) rfl (fun ls hl => ?_)
              refine lv_iconst (v := (0 : Int32)) hx hb dX7_payRing_125 (by decide) ?_
              refine lv_istore (lv' := [(7, .int (0 : Int32)), (6, .int (0 : Int32)), (5, .int z117.1), (4, .int v20), (3, .int v6), (0, .ref (om 0)), (1, .int (nI kr)), (2, .int left)]) hx hb dX7_payRing_126 hl (by decide) rfl (fun ls hl => ?_)
              refine loopW (bd_X7_payRing_128 v6 z25) (z117.1, (0 : Int32), z117.2.2) n (fun k128 z128 => [(7, .int (nI k128)), (6, .int z128.2.1), (5, .int z128.1), (4, .int v20), (3, .int v6), (0, .ref (om 0)), (1, .int (nI kr)), (2, .int left)]) (fun k128 z128 => wX7 cy om om_thrown om_s om_kept om_aside om_isKept om_reaches om_ringOf om_rungOf om_rings om_ringMany z128.2.2 om_leftOf om_ringPaid om_paidAll z25.1 om_text om_signs om_at om_isWrong om_clauses om_letters om_one om_two om_three om_whys om_backs om_sorts om_sizes om_items) hP hD hS (lv_sub hl [0, 1, 2, 3, 4, 5, 6, 7] rfl) (fun k128 z128 H locs ls hk128 hz128 hP hD hS hl ih128 => ?_)
              refine lv_iload hx hb dX7_payRing_128 (lv_at hl 0 rfl) ?_
              refine lv_aload_n hx hb dX7_payRing_130 rfl (lv_at hl 5 rfl) ?_
              refine gf_X7_15 hx hb hG hown hKX hP 0 rfl rfl dX7_payRing_131 ?_
              refine lv_iconst (v := (0 : Int32)) hx hb dX7_payRing_134 (by decide) ?_
              refine iald_v hx hb hKX hP 1 rfl rfl (by decide) (by decide) hs0 dX7_payRing_135 ?_
              refine lv_icmp_ge (tgt := 196) hx hb dX7_payRing_136 (by decide) (fun c11 => ?_) (fun c11 => ?_)
              · have e_k128 : n = k128 := Nat.le_antisymm ((le_n (N := n) (k := k128) rfl (by omega) (by omega)).mp c11) hk128
                subst e_k128
                refine lv_goto (tgt := 117) hx hb dX7_payRing_196 (by decide) ?_
                exact ih117 z128 _ _ _ (by subst hz128; subst hz25; subst ev20; subst ev6; unfold bd_X7_payRing_117; rw [if_neg c10] <;> rfl) hP hD hS (lv_sub hl [1, 2, 3, 4, 5, 6, 7] rfl)
              · have hlt128 : k128 < n := Nat.lt_of_not_le (fun qq_ => c11 ((le_n (N := n) (k := k128) rfl (by omega) (by omega)).mpr qq_))
                refine lv_iload hx hb dX7_payRing_139 (lv_at hl 2 rfl) ?_
                refine lv_if_eq (tgt := 190) hx hb dX7_payRing_141 (by decide) (fun c12 => ?_) (fun c12 => ?_)
                · refine lv_iinc (v := nI (k128 + 1)) (lv' := [(7, .int (nI (k128 + 1))), (6, .int z128.2.1), (5, .int z128.1), (4, .int v20), (3, .int v6), (0, .ref (om 0)), (1, .int (nI kr)), (2, .int left)]) hx hb dX7_payRing_190 hl (k := 0) rfl (nI_1 _) (by decide) rfl (fun ls hl => ?_)
                  refine lv_goto (tgt := 128) hx hb dX7_payRing_193 (by decide) ?_
                  exact ih128 z128 _ _ _ hlt128 (by subst hz25; subst ev20; subst ev6; unfold bd_X7_payRing_128; rw [if_pos c12] <;> rfl) hP hD hS (lv_sub hl [0, 1, 2, 3, 4, 5, 6, 7] rfl)
                · refine lv_iload_n hx hb dX7_payRing_144 rfl (lv_at hl 4 rfl) ?_
                  refine lv_iload hx hb dX7_payRing_145 (lv_at hl 0 rfl) ?_
                  refine cRoS mw14_23 mw15_0 mw1_5 mw15_1 hd_X7_has hx hb hml hown hG hKX (c_X7_has l D cy v6 (nI k128)) ⟨Nat.le_of_ble_eq_true rfl, Nat.le_of_ble_eq_true rfl⟩ ⟨Nat.zero_le _, Nat.zero_le _⟩ (hP.sub [] rfl) rfl hl.1 rfl (Nat.le_of_ble_eq_true rfl) dX7_payRing_147 ?_
                  refine lv_if_eq (tgt := 190) hx hb dX7_payRing_150 (by decide) (fun c13 => ?_) (fun c13 => ?_)
                  · refine lv_iinc (v := nI (k128 + 1)) (lv' := [(7, .int (nI (k128 + 1))), (6, .int z128.2.1), (5, .int z128.1), (4, .int v20), (3, .int v6), (0, .ref (om 0)), (1, .int (nI kr)), (2, .int left)]) hx hb dX7_payRing_190 hl (k := 0) rfl (nI_1 _) (by decide) rfl (fun ls hl => ?_)
                    refine lv_goto (tgt := 128) hx hb dX7_payRing_193 (by decide) ?_
                    exact ih128 z128 _ _ _ hlt128 (by subst hz25; subst ev20; subst ev6; unfold bd_X7_payRing_128; rw [if_neg c12, if_pos c13] <;> rfl) hP hD hS (lv_sub hl [0, 1, 2, 3, 4, 5, 6, 7] rfl)
                  · refine lv_aload_n hx hb dX7_payRing_153 rfl (lv_at hl 5 rfl) ?_
                    refine gf_X7_37 hx hb hG hown hKX hP 0 rfl rfl dX7_payRing_154 ?_
                    refine lv_iload hx hb dX7_payRing_157 (lv_at hl 0 rfl) ?_
                    refine iald_n hx hb hKX hP 8 rfl rfl (by omega) (by decide) dX7_payRing_159 ?_
                    refine lv_aload_n hx hb dX7_payRing_160 rfl (lv_at hl 5 rfl) ?_
                    refine gf_X7_46 hx hb hG hown hKX hP 0 rfl rfl dX7_payRing_161 ?_
                    refine lv_iload hx hb dX7_payRing_164 (lv_at hl 0 rfl) ?_
                    refine iald_n hx hb hKX hP 11 rfl rfl (by omega) (by decide) dX7_payRing_166 ?_
                    refine lv_icmp_ne (tgt := 173) hx hb dX7_payRing_167 (by decide) (fun c14 => ?_) (fun c14 => ?_)
                    · refine lv_aload_n hx hb dX7_payRing_173 rfl (lv_at hl 5 rfl) ?_
                      refine gf_X7_37 hx hb hG hown hKX hP 0 rfl rfl dX7_payRing_174 ?_
                      refine lv_iload hx hb dX7_payRing_177 (lv_at hl 0 rfl) ?_
                      refine lv_dup2_11 hx hb dX7_payRing_179 rfl rfl ?_
                      refine iald_n hx hb hKX hP 8 rfl rfl (by omega) (by decide) dX7_payRing_180 ?_
                      refine lv_iconst (v := (1 : Int32)) hx hb dX7_payRing_181 (by decide) ?_
                      refine lv_iadd hx hb dX7_payRing_182 ?_
                      refine iast_n hx hb hKX hP hD hS 8 rfl rfl (by omega) (by decide) dX7_payRing_183 (fun H locs hP hD hS => ?_)
                      have hP : va_P D vwCl (wX7 cy om om_thrown om_s om_kept om_aside om_isKept om_reaches om_ringOf om_rungOf om_rings om_ringMany (upd z128.2.2 k128 ((z128.2.2 k128) + (1 : Int32))) om_leftOf om_ringPaid om_paidAll z25.1 om_text om_signs om_at om_isWrong om_clauses om_letters om_one om_two om_three om_whys om_backs om_sorts om_sizes om_items) H := hP
                      have hD : va_D A (wX7 cy om om_thrown om_s om_kept om_aside om_isKept om_reaches om_ringOf om_rungOf om_rings om_ringMany (upd z128.2.2 k128 ((z128.2.2 k128) + (1 : Int32))) om_leftOf om_ringPaid om_paidAll z25.1 om_text om_signs om_at om_isWrong om_clauses om_letters om_one om_two om_three om_whys om_backs om_sorts om_sizes om_items) := hD
                      refine lv_iinc (v := (z128.1 + (-1 : Int32))) (lv' := [(5, .int (z128.1 + (-1 : Int32))), (7, .int (nI k128)), (6, .int z128.2.1), (4, .int v20), (3, .int v6), (0, .ref (om 0)), (1, .int (nI kr)), (2, .int left)]) hx hb dX7_payRing_184 hl (k := 2) rfl rfl (by decide) rfl (fun ls hl => ?_)
                      refine lv_iconst (v := (1 : Int32)) hx hb dX7_payRing_187 (by decide) ?_
                      refine lv_istore (lv' := [(6, .int (1 : Int32)), (5, .int (z128.1 + (-1 : Int32))), (7, .int (nI k128)), (4, .int v20), (3, .int v6), (0, .ref (om 0)), (1, .int (nI kr)), (2, .int left)]) hx hb dX7_payRing_188 hl (by decide) rfl (fun ls hl => ?_)
                      refine lv_iinc (v := nI (k128 + 1)) (lv' := [(7, .int (nI (k128 + 1))), (6, .int (1 : Int32)), (5, .int (z128.1 + (-1 : Int32))), (4, .int v20), (3, .int v6), (0, .ref (om 0)), (1, .int (nI kr)), (2, .int left)]) hx hb dX7_payRing_190 hl (k := 2) rfl (nI_1 _) (by decide) rfl (fun ls hl => ?_)
                      refine lv_goto (tgt := 128) hx hb dX7_payRing_193 (by decide) ?_
                      exact ih128 ((z128.1 + (-1 : Int32)), (1 : Int32), upd z128.2.2 k128 ((z128.2.2 k128) + (1 : Int32))) _ _ _ hlt128 (by subst hz25; subst ev20; subst ev6; unfold bd_X7_payRing_128; rw [if_neg c12, if_neg c13, if_neg c14] <;> rfl) hP hD hS (lv_sub hl [0, 1, 2, 3, 4, 5, 6, 7] rfl)
                    · refine lv_goto (tgt := 190) hx hb dX7_payRing_170 (by decide) ?_
                      refine lv_iinc (v := nI (k128 + 1)) (lv' := [(7, .int (nI (k128 + 1))), (6, .int z128.2.1), (5, .int z128.1), (4, .int v20), (3, .int v6), (0, .ref (om 0)), (1, .int (nI kr)), (2, .int left)]) hx hb dX7_payRing_190 hl (k := 0) rfl (nI_1 _) (by decide) rfl (fun ls hl => ?_)
                      refine lv_goto (tgt := 128) hx hb dX7_payRing_193 (by decide) ?_
                      exact ih128 z128 _ _ _ hlt128 (by subst hz25; subst ev20; subst ev6; unfold bd_X7_payRing_128; rw [if_neg c12, if_neg c13, if_pos c14] <;> rfl) hP hD hS (lv_sub hl [0, 1, 2, 3, 4, 5, 6, 7] rfl)
      · refine lv_iconst (v := (0 : Int32)) hx hb dX7_payRing_98 (by decide) ?_
        refine lv_goto (tgt := 103) hx hb dX7_payRing_99 (by decide) ?_
        refine lv_istore (lv' := [(5, .int (0 : Int32)), (4, .int v20), (3, .int v6), (0, .ref (om 0)), (1, .int (nI kr)), (2, .int left)]) hx hb dX7_payRing_103 hl (by decide) rfl (fun ls hl => ?_)
        refine lv_iload hx hb dX7_payRing_105 (lv_at hl 0 rfl) ?_
        refine lv_if_le (tgt := 114) hx hb dX7_payRing_107 (by decide) (fun c15 => ?_) (fun c15 => absurd (by decide) c15)
        refine lv_iconst (v := (0 : Int32)) hx hb dX7_payRing_114 (by decide) ?_
        refine lv_istore (lv' := [(6, .int (0 : Int32)), (5, .int (0 : Int32)), (4, .int v20), (3, .int v6), (0, .ref (om 0)), (1, .int (nI kr)), (2, .int left)]) hx hb dX7_payRing_115 hl (by decide) rfl (fun ls hl => ?_)
        refine loopWh (pcX := 199) (bd_X7_payRing_117 n v6 z25) 4294967296 ((0 : Int32), (0 : Int32), z25.2) ((wl (bd_X7_payRing_117 n v6 z25) 4294967296 ((0 : Int32), (0 : Int32), z25.2)).getD ((0 : Int32), (0 : Int32), z25.2)) (wl_some payR_s0) (fun z117 => [(6, .int z117.2.1), (5, .int z117.1), (4, .int v20), (3, .int v6), (0, .ref (om 0)), (1, .int (nI kr)), (2, .int left)]) (fun z117 => wX7 cy om om_thrown om_s om_kept om_aside om_isKept om_reaches om_ringOf om_rungOf om_rings om_ringMany z117.2.2 om_leftOf om_ringPaid om_paidAll z25.1 om_text om_signs om_at om_isWrong om_clauses om_letters om_one om_two om_three om_whys om_backs om_sorts om_sizes om_items) (fun z117 => [(0, .ref (om 0))]) hP hD hS (lv_sub hl [0, 1, 2, 3, 4, 5, 6] rfl) (fun zx117 H locs ls hzx117 hP hD hS hl => ?_) (fun z117 H locs ls hP hD hS hl ih117 br117 => ?_)
        · exact W.vret hx hb hr (fun t ht hW => ⟨⟨(zx117.2.2, z25.1), rfl, by subst hzx117; subst hz25; subst ev20; subst ev6; unfold f_X7_payRing; rw [if_neg c1, if_neg c3] <;> rfl, by rw [ht]; exact hP, hD⟩, hS.F ht⟩) hS.2.2 dX7_payRing_199
        · refine lv_iload hx hb dX7_payRing_117 (lv_at hl 0 rfl) ?_
          refine lv_if_eq (tgt := 199) hx hb dX7_payRing_119 (by decide) (fun c16 => ?_) (fun c16 => ?_)
          · exact br117 z117 _ _ _  (by subst hz25; subst ev20; subst ev6; unfold bd_X7_payRing_117; rw [if_pos c16] <;> rfl) hP hD hS (lv_sub hl [4] rfl)
          · refine lv_iconst (v := (0 : Int32)) hx hb dX7_payRing_122 (by decide) ?_
            refine lv_istore (lv' := [(6, .int (0 : Int32)), (5, .int z117.1), (4, .int v20), (3, .int v6), (0, .ref (om 0)), (1, .int (nI kr)), (2, .int left)]) hx hb dX7_payRing_123 hl (by decide) rfl (fun ls hl => ?_)
            refine lv_iconst (v := (0 : Int32)) hx hb dX7_payRing_125 (by decide) ?_
            refine lv_istore (lv' := [(7, .int (0 : Int32)), (6, .int (0 : Int32)), (5, .int z117.1), (4, .int v20), (3, .int v6), (0, .ref (om 0)), (1, .int (nI kr)), (2, .int left)]) hx hb dX7_payRing_126 hl (by decide) rfl (fun ls hl => ?_)
            refine loopW (bd_X7_payRing_128 v6 z25) (z117.1, (0 : Int32), z117.2.2) n (fun k128 z128 => [(7, .int (nI k128)), (6, .int z128.2.1), (5, .int z128.1), (4, .int v20), (3, .int v6), (0, .ref (om 0)), (1, .int (nI kr)), (2, .int left)]) (fun k128 z128 => wX7 cy om om_thrown om_s om_kept om_aside om_isKept om_reaches om_ringOf om_rungOf om_rings om_ringMany z128.2.2 om_leftOf om_ringPaid om_paidAll z25.1 om_text om_signs om_at om_isWrong om_clauses om_letters om_one om_two om_three om_whys om_backs om_sorts om_sizes om_items) hP hD hS (lv_sub hl [0, 1, 2, 3, 4, 5, 6, 7] rfl) (fun k128 z128 H locs ls hk128 hz128 hP hD hS hl ih128 => ?_)
            refine lv_iload hx hb dX7_payRing_128 (lv_at hl 0 rfl) ?_
            refine lv_aload_n hx hb dX7_payRing_130 rfl (lv_at hl 5 rfl) ?_
            refine gf_X7_15 hx hb hG hown hKX hP 0 rfl rfl dX7_payRing_131 ?_
            refine lv_iconst (v := (0 : Int32)) hx hb dX7_payRing_134 (by decide) ?_
            refine iald_v hx hb hKX hP 1 rfl rfl (by decide) (by decide) hs0 dX7_payRing_135 ?_
            refine lv_icmp_ge (tgt := 196) hx hb dX7_payRing_136 (by decide) (fun c17 => ?_) (fun c17 => ?_)
            · have e_k128 : n = k128 := Nat.le_antisymm ((le_n (N := n) (k := k128) rfl (by omega) (by omega)).mp c17) hk128
              subst e_k128
              refine lv_goto (tgt := 117) hx hb dX7_payRing_196 (by decide) ?_
              exact ih117 z128 _ _ _ (by subst hz128; subst hz25; subst ev20; subst ev6; unfold bd_X7_payRing_117; rw [if_neg c16] <;> rfl) hP hD hS (lv_sub hl [1, 2, 3, 4, 5, 6, 7] rfl)
            · have hlt128 : k128 < n := Nat.lt_of_not_le (fun qq_ => c17 ((le_n (N := n) (k := k128) rfl (by omega) (by omega)).mpr qq_))
              refine lv_iload hx hb dX7_payRing_139 (lv_at hl 2 rfl) ?_
              refine lv_if_eq (tgt := 190) hx hb dX7_payRing_141 (by decide) (fun c18 => ?_) (fun c18 => ?_)
              · refine lv_iinc (v := nI (k128 + 1)) (lv' := [(7, .int (nI (k128 + 1))), (6, .int z128.2.1), (5, .int z128.1), (4, .int v20), (3, .int v6), (0, .ref (om 0)), (1, .int (nI kr)), (2, .int left)]) hx hb dX7_payRing_190 hl (k := 0) rfl (nI_1 _) (by decide) rfl (fun ls hl => ?_)
                refine lv_goto (tgt := 128) hx hb dX7_payRing_193 (by decide) ?_
                exact ih128 z128 _ _ _ hlt128 (by subst hz25; subst ev20; subst ev6; unfold bd_X7_payRing_128; rw [if_pos c18] <;> rfl) hP hD hS (lv_sub hl [0, 1, 2, 3, 4, 5, 6, 7] rfl)
              · refine lv_iload_n hx hb dX7_payRing_144 rfl (lv_at hl 4 rfl) ?_
                refine lv_iload hx hb dX7_payRing_145 (lv_at hl 0 rfl) ?_
                refine cRoS mw14_23 mw15_0 mw1_5 mw15_1 hd_X7_has hx hb hml hown hG hKX (c_X7_has l D cy v6 (nI k128)) ⟨Nat.le_of_ble_eq_true rfl, Nat.le_of_ble_eq_true rfl⟩ ⟨Nat.zero_le _, Nat.zero_le _⟩ (hP.sub [] rfl) rfl hl.1 rfl (Nat.le_of_ble_eq_true rfl) dX7_payRing_147 ?_
                refine lv_if_eq (tgt := 190) hx hb dX7_payRing_150 (by decide) (fun c19 => ?_) (fun c19 => ?_)
                · refine lv_iinc (v := nI (k128 + 1)) (lv' := [(7, .int (nI (k128 + 1))), (6, .int z128.2.1), (5, .int z128.1), (4, .int v20), (3, .int v6), (0, .ref (om 0)), (1, .int (nI kr)), (2, .int left)]) hx hb dX7_payRing_190 hl (k := 0) rfl (nI_1 _) (by decide) rfl (fun ls hl => ?_)
                  refine lv_goto (tgt := 128) hx hb dX7_payRing_193 (by decide) ?_
                  exact ih128 z128 _ _ _ hlt128 (by subst hz25; subst ev20; subst ev6; unfold bd_X7_payRing_128; rw [if_neg c18, if_pos c19] <;> rfl) hP hD hS (lv_sub hl [0, 1, 2, 3, 4, 5, 6, 7] rfl)
                · refine lv_aload_n hx hb dX7_payRing_153 rfl (lv_at hl 5 rfl) ?_
                  refine gf_X7_37 hx hb hG hown hKX hP 0 rfl rfl dX7_payRing_154 ?_
                  refine lv_iload hx hb dX7_payRing_157 (lv_at hl 0 rfl) ?_
                  refine iald_n hx hb hKX hP 8 rfl rfl (by omega) (by decide) dX7_payRing_159 ?_
                  refine lv_aload_n hx hb dX7_payRing_160 rfl (lv_at hl 5 rfl) ?_
                  refine gf_X7_46 hx hb hG hown hKX hP 0 rfl rfl dX7_payRing_161 ?_
                  refine lv_iload hx hb dX7_payRing_164 (lv_at hl 0 rfl) ?_
                  refine iald_n hx hb hKX hP 11 rfl rfl (by omega) (by decide) dX7_payRing_166 ?_
                  refine lv_icmp_ne (tgt := 173) hx hb dX7_payRing_167 (by decide) (fun c20 => ?_) (fun c20 => ?_)
                  · refine lv_aload_n hx hb dX7_payRing_173 rfl (lv_at hl 5 rfl) ?_
                    refine gf_X7_37 hx hb hG hown hKX hP 0 rfl rfl dX7_payRing_174 ?_
                    refine lv_iload hx hb dX7_payRing_177 (lv_at hl 0 rfl) ?_
                    refine lv_dup2_11 hx hb dX7_payRing_179 rfl rfl ?_
                    refine iald_n hx hb hKX hP 8 rfl rfl (by omega) (by decide) dX7_payRing_180 ?_
                    refine lv_iconst (v := (1 : Int32)) hx hb dX7_payRing_181 (by decide) ?_
                    refine lv_iadd hx hb dX7_payRing_182 ?_
                    refine iast_n hx hb hKX hP hD hS 8 rfl rfl (by omega) (by decide) dX7_payRing_183 (fun H locs hP hD hS => ?_)
                    have hP : va_P D vwCl (wX7 cy om om_thrown om_s om_kept om_aside om_isKept om_reaches om_ringOf om_rungOf om_rings om_ringMany (upd z128.2.2 k128 ((z128.2.2 k128) + (1 : Int32))) om_leftOf om_ringPaid om_paidAll z25.1 om_text om_signs om_at om_isWrong om_clauses om_letters om_one om_two om_three om_whys om_backs om_sorts om_sizes om_items) H := hP
                    have hD : va_D A (wX7 cy om om_thrown om_s om_kept om_aside om_isKept om_reaches om_ringOf om_rungOf om_rings om_ringMany (upd z128.2.2 k128 ((z128.2.2 k128) + (1 : Int32))) om_leftOf om_ringPaid om_paidAll z25.1 om_text om_signs om_at om_isWrong om_clauses om_letters om_one om_two om_three om_whys om_backs om_sorts om_sizes om_items) := hD
                    refine lv_iinc (v := (z128.1 + (-1 : Int32))) (lv' := [(5, .int (z128.1 + (-1 : Int32))), (7, .int (nI k128)), (6, .int z128.2.1), (4, .int v20), (3, .int v6), (0, .ref (om 0)), (1, .int (nI kr)), (2, .int left)]) hx hb dX7_payRing_184 hl (k := 2) rfl rfl (by decide) rfl (fun ls hl => ?_)
                    refine lv_iconst (v := (1 : Int32)) hx hb dX7_payRing_187 (by decide) ?_
                    refine lv_istore (lv' := [(6, .int (1 : Int32)), (5, .int (z128.1 + (-1 : Int32))), (7, .int (nI k128)), (4, .int v20), (3, .int v6), (0, .ref (om 0)), (1, .int (nI kr)), (2, .int left)]) hx hb dX7_payRing_188 hl (by decide) rfl (fun ls hl => ?_)
                    refine lv_iinc (v := nI (k128 + 1)) (lv' := [(7, .int (nI (k128 + 1))), (6, .int (1 : Int32)), (5, .int (z128.1 + (-1 : Int32))), (4, .int v20), (3, .int v6), (0, .ref (om 0)), (1, .int (nI kr)), (2, .int left)]) hx hb dX7_payRing_190 hl (k := 2) rfl (nI_1 _) (by decide) rfl (fun ls hl => ?_)
                    refine lv_goto (tgt := 128) hx hb dX7_payRing_193 (by decide) ?_
                    exact ih128 ((z128.1 + (-1 : Int32)), (1 : Int32), upd z128.2.2 k128 ((z128.2.2 k128) + (1 : Int32))) _ _ _ hlt128 (by subst hz25; subst ev20; subst ev6; unfold bd_X7_payRing_128; rw [if_neg c18, if_neg c19, if_neg c20] <;> rfl) hP hD hS (lv_sub hl [0, 1, 2, 3, 4, 5, 6, 7] rfl)
                  · refine lv_goto (tgt := 190) hx hb dX7_payRing_170 (by decide) ?_
                    refine lv_iinc (v := nI (k128 + 1)) (lv' := [(7, .int (nI (k128 + 1))), (6, .int z128.2.1), (5, .int z128.1), (4, .int v20), (3, .int v6), (0, .ref (om 0)), (1, .int (nI kr)), (2, .int left)]) hx hb dX7_payRing_190 hl (k := 0) rfl (nI_1 _) (by decide) rfl (fun ls hl => ?_)
                    refine lv_goto (tgt := 128) hx hb dX7_payRing_193 (by decide) ?_
                    exact ih128 z128 _ _ _ hlt128 (by subst hz25; subst ev20; subst ev6; unfold bd_X7_payRing_128; rw [if_neg c18, if_neg c19, if_pos c20] <;> rfl) hP hD hS (lv_sub hl [0, 1, 2, 3, 4, 5, 6, 7] rfl)
    · have hlt25 : k25 < n := Nat.lt_of_not_le (fun qq_ => c2 ((le_n (N := n) (k := k25) rfl (by omega) (by omega)).mpr qq_))
      refine lv_iload_n hx hb dX7_payRing_36 rfl (lv_at hl 2 rfl) ?_
      refine lv_iload hx hb dX7_payRing_37 (lv_at hl 0 rfl) ?_
      refine cRoS mw14_23 mw15_0 mw1_5 mw15_1 hd_X7_has hx hb hml hown hG hKX (c_X7_has l D cy v6 (nI k25)) ⟨Nat.le_of_ble_eq_true rfl, Nat.le_of_ble_eq_true rfl⟩ ⟨Nat.zero_le _, Nat.zero_le _⟩ (hP.sub [] rfl) rfl hl.1 rfl (Nat.le_of_ble_eq_true rfl) dX7_payRing_39 ?_
      refine lv_if_ne (tgt := 48) hx hb dX7_payRing_42 (by decide) (fun c21 => ?_) (fun c21 => ?_)
      · refine lv_aload_n hx hb dX7_payRing_48 rfl (lv_at hl 3 rfl) ?_
        refine gf_X7_46 hx hb hG hown hKX hP 0 rfl rfl dX7_payRing_49 ?_
        refine lv_iload hx hb dX7_payRing_52 (lv_at hl 0 rfl) ?_
        refine lv_aload_n hx hb dX7_payRing_54 rfl (lv_at hl 3 rfl) ?_
        refine lv_iload hx hb dX7_payRing_55 (lv_at hl 0 rfl) ?_
        refine lv_iload_n hx hb dX7_payRing_57 rfl (lv_at hl 5 rfl) ?_
        refine lv_iload hx hb dX7_payRing_58 (lv_at hl 1 rfl) ?_
        refine cRoV (q0 := 0) (ci := 7) mw15_17 mw15_18 mw15_19 mw1_5 mw15_20 rfl rfl hd_X7_most hx hb hml hown hG hKX (c_X7_most l D cy om om_thrown om_s om_kept om_aside om_isKept om_reaches om_ringOf om_rungOf om_rings om_ringMany z25.2 om_leftOf om_ringPaid om_paidAll z25.1 om_text om_signs om_at om_isWrong om_clauses om_letters om_one om_two om_three om_whys om_backs om_sorts om_sizes om_items left v20 n k25 hn hs0 (by omega)) ⟨Nat.le_of_ble_eq_true rfl, Nat.le_of_ble_eq_true rfl⟩ ⟨Nat.zero_le _, Nat.zero_le _⟩ hP rfl rfl hl.1 rfl (Nat.le_of_ble_eq_true rfl) dX7_payRing_60 ?_
        refine iast_n hx hb hKX hP hD hS 11 rfl rfl (by omega) (by decide) dX7_payRing_63 (fun H locs hP hD hS => ?_)
        have hP : va_P D vwCl (wX7 cy om om_thrown om_s om_kept om_aside om_isKept om_reaches om_ringOf om_rungOf om_rings om_ringMany z25.2 om_leftOf om_ringPaid om_paidAll (upd z25.1 k25 (f_X7_most om_s z25.2 left v20 n k25)) om_text om_signs om_at om_isWrong om_clauses om_letters om_one om_two om_three om_whys om_backs om_sorts om_sizes om_items) H := hP
        have hD : va_D A (wX7 cy om om_thrown om_s om_kept om_aside om_isKept om_reaches om_ringOf om_rungOf om_rings om_ringMany z25.2 om_leftOf om_ringPaid om_paidAll (upd z25.1 k25 (f_X7_most om_s z25.2 left v20 n k25)) om_text om_signs om_at om_isWrong om_clauses om_letters om_one om_two om_three om_whys om_backs om_sorts om_sizes om_items) := hD
        refine lv_aload_n hx hb dX7_payRing_64 rfl (lv_at hl 3 rfl) ?_
        refine gf_X7_37 hx hb hG hown hKX hP 0 rfl rfl dX7_payRing_65 ?_
        refine lv_iload hx hb dX7_payRing_68 (lv_at hl 0 rfl) ?_
        refine lv_iload hx hb dX7_payRing_70 (lv_at hl 1 rfl) ?_
        refine lv_if_eq (tgt := 85) hx hb dX7_payRing_72 (by decide) (fun c22 => ?_) (fun c22 => ?_)
        · refine lv_iconst (v := (0 : Int32)) hx hb dX7_payRing_85 (by decide) ?_
          refine iast_n hx hb hKX hP hD hS 8 rfl rfl (by omega) (by decide) dX7_payRing_86 (fun H locs hP hD hS => ?_)
          have hP : va_P D vwCl (wX7 cy om om_thrown om_s om_kept om_aside om_isKept om_reaches om_ringOf om_rungOf om_rings om_ringMany (upd z25.2 k25 (0 : Int32)) om_leftOf om_ringPaid om_paidAll (upd z25.1 k25 (f_X7_most om_s z25.2 left v20 n k25)) om_text om_signs om_at om_isWrong om_clauses om_letters om_one om_two om_three om_whys om_backs om_sorts om_sizes om_items) H := hP
          have hD : va_D A (wX7 cy om om_thrown om_s om_kept om_aside om_isKept om_reaches om_ringOf om_rungOf om_rings om_ringMany (upd z25.2 k25 (0 : Int32)) om_leftOf om_ringPaid om_paidAll (upd z25.1 k25 (f_X7_most om_s z25.2 left v20 n k25)) om_text om_signs om_at om_isWrong om_clauses om_letters om_one om_two om_three om_whys om_backs om_sorts om_sizes om_items) := hD
          refine lv_iinc (v := nI (k25 + 1)) (lv' := [(5, .int (nI (k25 + 1))), (4, .int v20), (3, .int v6), (0, .ref (om 0)), (1, .int (nI kr)), (2, .int left)]) hx hb dX7_payRing_87 hl (k := 0) rfl (nI_1 _) (by decide) rfl (fun ls hl => ?_)
          refine lv_goto (tgt := 25) hx hb dX7_payRing_90 (by decide) ?_
          exact ih25 (upd z25.1 k25 (f_X7_most om_s z25.2 left v20 n k25), upd z25.2 k25 (0 : Int32)) _ _ _ hlt25 (by subst ev20; subst ev6; unfold bd_X7_payRing_25; rw [if_neg c21, if_pos c22] <;> rfl) hP hD hS (lv_sub hl [0, 1, 2, 3, 4, 5] rfl)
        · refine lv_aload_n hx hb dX7_payRing_75 rfl (lv_at hl 3 rfl) ?_
          refine gf_X7_46 hx hb hG hown hKX hP 0 rfl rfl dX7_payRing_76 ?_
          refine lv_iload hx hb dX7_payRing_79 (lv_at hl 0 rfl) ?_
          refine iald_n hx hb hKX hP 11 rfl rfl (by omega) (by decide) dX7_payRing_81 ?_
          refine lv_goto (tgt := 86) hx hb dX7_payRing_82 (by decide) ?_
          refine iast_n hx hb hKX hP hD hS 8 rfl rfl (by omega) (by decide) dX7_payRing_86 (fun H locs hP hD hS => ?_)
          have hP : va_P D vwCl (wX7 cy om om_thrown om_s om_kept om_aside om_isKept om_reaches om_ringOf om_rungOf om_rings om_ringMany (upd z25.2 k25 ((upd z25.1 k25 (f_X7_most om_s z25.2 left v20 n k25)) k25)) om_leftOf om_ringPaid om_paidAll (upd z25.1 k25 (f_X7_most om_s z25.2 left v20 n k25)) om_text om_signs om_at om_isWrong om_clauses om_letters om_one om_two om_three om_whys om_backs om_sorts om_sizes om_items) H := hP
          have hD : va_D A (wX7 cy om om_thrown om_s om_kept om_aside om_isKept om_reaches om_ringOf om_rungOf om_rings om_ringMany (upd z25.2 k25 ((upd z25.1 k25 (f_X7_most om_s z25.2 left v20 n k25)) k25)) om_leftOf om_ringPaid om_paidAll (upd z25.1 k25 (f_X7_most om_s z25.2 left v20 n k25)) om_text om_signs om_at om_isWrong om_clauses om_letters om_one om_two om_three om_whys om_backs om_sorts om_sizes om_items) := hD
          refine lv_iinc (v := nI (k25 + 1)) (lv' := [(5, .int (nI (k25 + 1))), (4, .int v20), (3, .int v6), (0, .ref (om 0)), (1, .int (nI kr)), (2, .int left)]) hx hb dX7_payRing_87 hl (k := 0) rfl (nI_1 _) (by decide) rfl (fun ls hl => ?_)
          refine lv_goto (tgt := 25) hx hb dX7_payRing_90 (by decide) ?_
          exact ih25 (upd z25.1 k25 (f_X7_most om_s z25.2 left v20 n k25), upd z25.2 k25 ((upd z25.1 k25 (f_X7_most om_s z25.2 left v20 n k25)) k25)) _ _ _ hlt25 (by subst ev20; subst ev6; unfold bd_X7_payRing_25; rw [if_neg c21, if_neg c22] <;> rfl) hP hD hS (lv_sub hl [0, 1, 2, 3, 4, 5] rfl)
      · refine lv_goto (tgt := 87) hx hb dX7_payRing_45 (by decide) ?_
        refine lv_iinc (v := nI (k25 + 1)) (lv' := [(5, .int (nI (k25 + 1))), (4, .int v20), (3, .int v6), (0, .ref (om 0)), (1, .int (nI kr)), (2, .int left)]) hx hb dX7_payRing_87 hl (k := 0) rfl (nI_1 _) (by decide) rfl (fun ls hl => ?_)
        refine lv_goto (tgt := 25) hx hb dX7_payRing_90 (by decide) ?_
        exact ih25 z25 _ _ _ hlt25 (by subst ev20; subst ev6; unfold bd_X7_payRing_25; rw [if_pos c21] <;> rfl) hP hD hS (lv_sub hl [0, 1, 2, 3, 4, 5] rfl)
  · refine lv_iconst (v := (1 : Int32)) hx hb dX7_payRing_15 (by decide) ?_
    refine lv_goto (tgt := 20) hx hb dX7_payRing_16 (by decide) ?_
    refine lv_topi (fun v20 ev20 => ?_)
    refine lv_istore (lv' := [(4, .int v20), (3, .int v6), (0, .ref (om 0)), (1, .int (nI kr)), (2, .int left)]) hx hb dX7_payRing_20 hl (by decide) rfl (fun ls hl => ?_)
    refine lv_iconst (v := (0 : Int32)) hx hb dX7_payRing_22 (by decide) ?_
    refine lv_istore (lv' := [(5, .int (0 : Int32)), (4, .int v20), (3, .int v6), (0, .ref (om 0)), (1, .int (nI kr)), (2, .int left)]) hx hb dX7_payRing_23 hl (by decide) rfl (fun ls hl => ?_)
    refine loopW (bd_X7_payRing_25 om_s left n v20 v6) (om_mosts, om_paid) n (fun k25 z25 => [(5, .int (nI k25)), (4, .int v20), (3, .int v6), (0, .ref (om 0)), (1, .int (nI kr)), (2, .int left)]) (fun k25 z25 => wX7 cy om om_thrown om_s om_kept om_aside om_isKept om_reaches om_ringOf om_rungOf om_rings om_ringMany z25.2 om_leftOf om_ringPaid om_paidAll z25.1 om_text om_signs om_at om_isWrong om_clauses om_letters om_one om_two om_three om_whys om_backs om_sorts om_sizes om_items) hP hD hS (lv_sub hl [0, 1, 2, 3, 4, 5] rfl) (fun k25 z25 H locs ls hk25 hz25 hP hD hS hl ih25 => ?_)
    refine lv_iload hx hb dX7_payRing_25 (lv_at hl 0 rfl) ?_
    refine lv_aload_n hx hb dX7_payRing_27 rfl (lv_at hl 3 rfl) ?_
    refine gf_X7_15 hx hb hG hown hKX hP 0 rfl rfl dX7_payRing_28 ?_
    refine lv_iconst (v := (0 : Int32)) hx hb dX7_payRing_31 (by decide) ?_
    refine iald_v hx hb hKX hP 1 rfl rfl (by decide) (by decide) hs0 dX7_payRing_32 ?_
    refine lv_icmp_ge (tgt := 93) hx hb dX7_payRing_33 (by decide) (fun c23 => ?_) (fun c23 => ?_)
    · have e_k25 : n = k25 := Nat.le_antisymm ((le_n (N := n) (k := k25) rfl (by omega) (by omega)).mp c23) hk25
      subst e_k25
      refine lv_iload hx hb dX7_payRing_93 (lv_at hl 1 rfl) ?_
      refine lv_if_eq (tgt := 102) hx hb dX7_payRing_95 (by decide) (fun c24 => ?_) (fun c24 => ?_)
      · refine lv_iload_n hx hb dX7_payRing_102 rfl (lv_at hl 5 rfl) ?_
        refine lv_istore (lv' := [(5, .int left), (4, .int v20), (3, .int v6), (0, .ref (om 0)), (1, .int (nI kr)), (2, .int left)]) hx hb dX7_payRing_103 hl (by decide) rfl (fun ls hl => ?_)
        refine lv_iload hx hb dX7_payRing_105 (lv_at hl 0 rfl) ?_
        refine lv_if_le (tgt := 114) hx hb dX7_payRing_107 (by decide) (fun c25 => ?_) (fun c25 => ?_)
        · refine lv_iconst (v := (0 : Int32)) hx hb dX7_payRing_114 (by decide) ?_
          refine lv_istore (lv' := [(6, .int (0 : Int32)), (5, .int left), (4, .int v20), (3, .int v6), (0, .ref (om 0)), (1, .int (nI kr)), (2, .int left)]) hx hb dX7_payRing_115 hl (by decide) rfl (fun ls hl => ?_)
          refine loopWh (pcX := 199) (bd_X7_payRing_117 n v6 z25) 4294967296 (left, (0 : Int32), z25.2) ((wl (bd_X7_payRing_117 n v6 z25) 4294967296 (left, (0 : Int32), z25.2)).getD (left, (0 : Int32), z25.2)) (wl_some payR_s0) (fun z117 => [(6, .int z117.2.1), (5, .int z117.1), (4, .int v20), (3, .int v6), (0, .ref (om 0)), (1, .int (nI kr)), (2, .int left)]) (fun z117 => wX7 cy om om_thrown om_s om_kept om_aside om_isKept om_reaches om_ringOf om_rungOf om_rings om_ringMany z117.2.2 om_leftOf om_ringPaid om_paidAll z25.1 om_text om_signs om_at om_isWrong om_clauses om_letters om_one om_two om_three om_whys om_backs om_sorts om_sizes om_items) (fun z117 => [(0, .ref (om 0))]) hP hD hS (lv_sub hl [0, 1, 2, 3, 4, 5, 6] rfl) (fun zx117 H locs ls hzx117 hP hD hS hl => ?_) (fun z117 H locs ls hP hD hS hl ih117 br117 => ?_)
          · exact W.vret hx hb hr (fun t ht hW => ⟨⟨(zx117.2.2, z25.1), rfl, by subst hzx117; subst hz25; subst ev20; subst ev6; unfold f_X7_payRing; rw [if_pos c1, if_pos c24, if_pos c25] <;> rfl, by rw [ht]; exact hP, hD⟩, hS.F ht⟩) hS.2.2 dX7_payRing_199
          · refine lv_iload hx hb dX7_payRing_117 (lv_at hl 0 rfl) ?_
            refine lv_if_eq (tgt := 199) hx hb dX7_payRing_119 (by decide) (fun c26 => ?_) (fun c26 => ?_)
            · exact br117 z117 _ _ _  (by subst hz25; subst ev20; subst ev6; unfold bd_X7_payRing_117; rw [if_pos c26] <;> rfl) hP hD hS (lv_sub hl [4] rfl)
            · refine lv_iconst (v := (0 : Int32)) hx hb dX7_payRing_122 (by decide) ?_
              refine lv_istore (lv' := [(6, .int (0 : Int32)), (5, .int z117.1), (4, .int v20), (3, .int v6), (0, .ref (om 0)), (1, .int (nI kr)), (2, .int left)]) hx hb dX7_payRing_123 hl (by decide) rfl (fun ls hl => ?_)
              refine lv_iconst (v := (0 : Int32)) hx hb dX7_payRing_125 (by decide) ?_
              refine lv_istore (lv' := [(7, .int (0 : Int32)), (6, .int (0 : Int32)), (5, .int z117.1), (4, .int v20), (3, .int v6), (0, .ref (om 0)), (1, .int (nI kr)), (2, .int left)]) hx hb dX7_payRing_126 hl (by decide) rfl (fun ls hl => ?_)
              refine loopW (bd_X7_payRing_128 v6 z25) (z117.1, (0 : Int32), z117.2.2) n (fun k128 z128 => [(7, .int (nI k128)), (6, .int z128.2.1), (5, .int z128.1), (4, .int v20), (3, .int v6), (0, .ref (om 0)), (1, .int (nI kr)), (2, .int left)]) (fun k128 z128 => wX7 cy om om_thrown om_s om_kept om_aside om_isKept om_reaches om_ringOf om_rungOf om_rings om_ringMany z128.2.2 om_leftOf om_ringPaid om_paidAll z25.1 om_text om_signs om_at om_isWrong om_clauses om_letters om_one om_two om_three om_whys om_backs om_sorts om_sizes om_items) hP hD hS (lv_sub hl [0, 1, 2, 3, 4, 5, 6, 7] rfl) (fun k128 z128 H locs ls hk128 hz128 hP hD hS hl ih128 => ?_)
              refine lv_iload hx hb dX7_payRing_128 (lv_at hl 0 rfl) ?_
              refine lv_aload_n hx hb dX7_payRing_130 rfl (lv_at hl 5 rfl) ?_
              refine gf_X7_15 hx hb hG hown hKX hP 0 rfl rfl dX7_payRing_131 ?_
              refine lv_iconst (v := (0 : Int32)) hx hb dX7_payRing_134 (by decide) ?_
              refine iald_v hx hb hKX hP 1 rfl rfl (by decide) (by decide) hs0 dX7_payRing_135 ?_
              refine lv_icmp_ge (tgt := 196) hx hb dX7_payRing_136 (by decide) (fun c27 => ?_) (fun c27 => ?_)
              · have e_k128 : n = k128 := Nat.le_antisymm ((le_n (N := n) (k := k128) rfl (by omega) (by omega)).mp c27) hk128
                subst e_k128
                refine lv_goto (tgt := 117) hx hb dX7_payRing_196 (by decide) ?_
                exact ih117 z128 _ _ _ (by subst hz128; subst hz25; subst ev20; subst ev6; unfold bd_X7_payRing_117; rw [if_neg c26] <;> rfl) hP hD hS (lv_sub hl [1, 2, 3, 4, 5, 6, 7] rfl)
              · have hlt128 : k128 < n := Nat.lt_of_not_le (fun qq_ => c27 ((le_n (N := n) (k := k128) rfl (by omega) (by omega)).mpr qq_))
                refine lv_iload hx hb dX7_payRing_139 (lv_at hl 2 rfl) ?_
                refine lv_if_eq (tgt := 190) hx hb dX7_payRing_141 (by decide) (fun c28 => ?_) (fun c28 => ?_)
                · refine lv_iinc (v := nI (k128 + 1)) (lv' := [(7, .int (nI (k128 + 1))), (6, .int z128.2.1), (5, .int z128.1), (4, .int v20), (3, .int v6), (0, .ref (om 0)), (1, .int (nI kr)), (2, .int left)]) hx hb dX7_payRing_190 hl (k := 0) rfl (nI_1 _) (by decide) rfl (fun ls hl => ?_)
                  refine lv_goto (tgt := 128) hx hb dX7_payRing_193 (by decide) ?_
                  exact ih128 z128 _ _ _ hlt128 (by subst hz25; subst ev20; subst ev6; unfold bd_X7_payRing_128; rw [if_pos c28] <;> rfl) hP hD hS (lv_sub hl [0, 1, 2, 3, 4, 5, 6, 7] rfl)
                · refine lv_iload_n hx hb dX7_payRing_144 rfl (lv_at hl 4 rfl) ?_
                  refine lv_iload hx hb dX7_payRing_145 (lv_at hl 0 rfl) ?_
                  refine cRoS mw14_23 mw15_0 mw1_5 mw15_1 hd_X7_has hx hb hml hown hG hKX (c_X7_has l D cy v6 (nI k128)) ⟨Nat.le_of_ble_eq_true rfl, Nat.le_of_ble_eq_true rfl⟩ ⟨Nat.zero_le _, Nat.zero_le _⟩ (hP.sub [] rfl) rfl hl.1 rfl (Nat.le_of_ble_eq_true rfl) dX7_payRing_147 ?_
                  refine lv_if_eq (tgt := 190) hx hb dX7_payRing_150 (by decide) (fun c29 => ?_) (fun c29 => ?_)
                  · refine lv_iinc (v := nI (k128 + 1)) (lv' := [(7, .int (nI (k128 + 1))), (6, .int z128.2.1), (5, .int z128.1), (4, .int v20), (3, .int v6), (0, .ref (om 0)), (1, .int (nI kr)), (2, .int left)]) hx hb dX7_payRing_190 hl (k := 0) rfl (nI_1 _) (by decide) rfl (fun ls hl => ?_)
                    refine lv_goto (tgt := 128) hx hb dX7_payRing_193 (by decide) ?_
                    exact ih128 z128 _ _ _ hlt128 (by subst hz25; subst ev20; subst ev6; unfold bd_X7_payRing_128; rw [if_neg c28, if_pos c29] <;> rfl) hP hD hS (lv_sub hl [0, 1, 2, 3, 4, 5, 6, 7] rfl)
                  · refine lv_aload_n hx hb dX7_payRing_153 rfl (lv_at hl 5 rfl) ?_
                    refine gf_X7_37 hx hb hG hown hKX hP 0 rfl rfl dX7_payRing_154 ?_
                    refine lv_iload hx hb dX7_payRing_157 (lv_at hl 0 rfl) ?_
                    refine iald_n hx hb hKX hP 8 rfl rfl (by omega) (by decide) dX7_payRing_159 ?_
                    refine lv_aload_n hx hb dX7_payRing_160 rfl (lv_at hl 5 rfl) ?_
                    refine gf_X7_46 hx hb hG hown hKX hP 0 rfl rfl dX7_payRing_161 ?_
                    refine lv_iload hx hb dX7_payRing_164 (lv_at hl 0 rfl) ?_
                    refine iald_n hx hb hKX hP 11 rfl rfl (by omega) (by decide) dX7_payRing_166 ?_
                    refine lv_icmp_ne (tgt := 173) hx hb dX7_payRing_167 (by decide) (fun c30 => ?_) (fun c30 => ?_)
                    · refine lv_aload_n hx hb dX7_payRing_173 rfl (lv_at hl 5 rfl) ?_
                      refine gf_X7_37 hx hb hG hown hKX hP 0 rfl rfl dX7_payRing_174 ?_
                      refine lv_iload hx hb dX7_payRing_177 (lv_at hl 0 rfl) ?_
                      refine lv_dup2_11 hx hb dX7_payRing_179 rfl rfl ?_
                      refine iald_n hx hb hKX hP 8 rfl rfl (by omega) (by decide) dX7_payRing_180 ?_
                      refine lv_iconst (v := (1 : Int32)) hx hb dX7_payRing_181 (by decide) ?_
                      refine lv_iadd hx hb dX7_payRing_182 ?_
                      refine iast_n hx hb hKX hP hD hS 8 rfl rfl (by omega) (by decide) dX7_payRing_183 (fun H locs hP hD hS => ?_)
                      have hP : va_P D vwCl (wX7 cy om om_thrown om_s om_kept om_aside om_isKept om_reaches om_ringOf om_rungOf om_rings om_ringMany (upd z128.2.2 k128 ((z128.2.2 k128) + (1 : Int32))) om_leftOf om_ringPaid om_paidAll z25.1 om_text om_signs om_at om_isWrong om_clauses om_letters om_one om_two om_three om_whys om_backs om_sorts om_sizes om_items) H := hP
                      have hD : va_D A (wX7 cy om om_thrown om_s om_kept om_aside om_isKept om_reaches om_ringOf om_rungOf om_rings om_ringMany (upd z128.2.2 k128 ((z128.2.2 k128) + (1 : Int32))) om_leftOf om_ringPaid om_paidAll z25.1 om_text om_signs om_at om_isWrong om_clauses om_letters om_one om_two om_three om_whys om_backs om_sorts om_sizes om_items) := hD
                      refine lv_iinc (v := (z128.1 + (-1 : Int32))) (lv' := [(5, .int (z128.1 + (-1 : Int32))), (7, .int (nI k128)), (6, .int z128.2.1), (4, .int v20), (3, .int v6), (0, .ref (om 0)), (1, .int (nI kr)), (2, .int left)]) hx hb dX7_payRing_184 hl (k := 2) rfl rfl (by decide) rfl (fun ls hl => ?_)
                      refine lv_iconst (v := (1 : Int32)) hx hb dX7_payRing_187 (by decide) ?_
                      refine lv_istore (lv' := [(6, .int (1 : Int32)), (5, .int (z128.1 + (-1 : Int32))), (7, .int (nI k128)), (4, .int v20), (3, .int v6), (0, .ref (om 0)), (1, .int (nI kr)), (2, .int left)]) hx hb dX7_payRing_188 hl (by decide) rfl (fun ls hl => ?_)
                      refine lv_iinc (v := nI (k128 + 1)) (lv' := [(7, .int (nI (k128 + 1))), (6, .int (1 : Int32)), (5, .int (z128.1 + (-1 : Int32))), (4, .int v20), (3, .int v6), (0, .ref (om 0)), (1, .int (nI kr)), (2, .int left)]) hx hb dX7_payRing_190 hl (k := 2) rfl (nI_1 _) (by decide) rfl (fun ls hl => ?_)
                      refine lv_goto (tgt := 128) hx hb dX7_payRing_193 (by decide) ?_
                      exact ih128 ((z128.1 + (-1 : Int32)), (1 : Int32), upd z128.2.2 k128 ((z128.2.2 k128) + (1 : Int32))) _ _ _ hlt128 (by subst hz25; subst ev20; subst ev6; unfold bd_X7_payRing_128; rw [if_neg c28, if_neg c29, if_neg c30] <;> rfl) hP hD hS (lv_sub hl [0, 1, 2, 3, 4, 5, 6, 7] rfl)
                    · refine lv_goto (tgt := 190) hx hb dX7_payRing_170 (by decide) ?_
                      refine lv_iinc (v := nI (k128 + 1)) (lv' := [(7, .int (nI (k128 + 1))), (6, .int z128.2.1), (5, .int z128.1), (4, .int v20), (3, .int v6), (0, .ref (om 0)), (1, .int (nI kr)), (2, .int left)]) hx hb dX7_payRing_190 hl (k := 0) rfl (nI_1 _) (by decide) rfl (fun ls hl => ?_)
                      refine lv_goto (tgt := 128) hx hb dX7_payRing_193 (by decide) ?_
                      exact ih128 z128 _ _ _ hlt128 (by subst hz25; subst ev20; subst ev6; unfold bd_X7_payRing_128; rw [if_neg c28, if_neg c29, if_pos c30] <;> rfl) hP hD hS (lv_sub hl [0, 1, 2, 3, 4, 5, 6, 7] rfl)
        · refine lv_iconst (v := (1 : Int32)) hx hb dX7_payRing_110 (by decide) ?_
          refine lv_goto (tgt := 115) hx hb dX7_payRing_111 (by decide) ?_
          refine lv_istore (lv' := [(6, .int (1 : Int32)), (5, .int left), (4, .int v20), (3, .int v6), (0, .ref (om 0)), (1, .int (nI kr)), (2, .int left)]) hx hb dX7_payRing_115 hl (by decide) rfl (fun ls hl => ?_)
          refine loopWh (pcX := 199) (bd_X7_payRing_117 n v6 z25) 4294967296 (left, (1 : Int32), z25.2) ((wl (bd_X7_payRing_117 n v6 z25) 4294967296 (left, (1 : Int32), z25.2)).getD (left, (1 : Int32), z25.2)) (wl_some (payR_s1 c25)) (fun z117 => [(6, .int z117.2.1), (5, .int z117.1), (4, .int v20), (3, .int v6), (0, .ref (om 0)), (1, .int (nI kr)), (2, .int left)]) (fun z117 => wX7 cy om om_thrown om_s om_kept om_aside om_isKept om_reaches om_ringOf om_rungOf om_rings om_ringMany z117.2.2 om_leftOf om_ringPaid om_paidAll z25.1 om_text om_signs om_at om_isWrong om_clauses om_letters om_one om_two om_three om_whys om_backs om_sorts om_sizes om_items) (fun z117 => [(0, .ref (om 0))]) hP hD hS (lv_sub hl [0, 1, 2, 3, 4, 5, 6] rfl) (fun zx117 H locs ls hzx117 hP hD hS hl => ?_) (fun z117 H locs ls hP hD hS hl ih117 br117 => ?_)
          · exact W.vret hx hb hr (fun t ht hW => ⟨⟨(zx117.2.2, z25.1), rfl, by subst hzx117; subst hz25; subst ev20; subst ev6; unfold f_X7_payRing; rw [if_pos c1, if_pos c24, if_neg c25] <;> rfl, by rw [ht]; exact hP, hD⟩, hS.F ht⟩) hS.2.2 dX7_payRing_199
          · refine lv_iload hx hb dX7_payRing_117 (lv_at hl 0 rfl) ?_
            refine lv_if_eq (tgt := 199) hx hb dX7_payRing_119 (by decide) (fun c31 => ?_) (fun c31 => ?_)
            · exact br117 z117 _ _ _  (by subst hz25; subst ev20; subst ev6; unfold bd_X7_payRing_117; rw [if_pos c31] <;> rfl) hP hD hS (lv_sub hl [4] rfl)
            · refine lv_iconst (v := (0 : Int32)) hx hb dX7_payRing_122 (by decide) ?_
              refine lv_istore (lv' := [(6, .int (0 : Int32)), (5, .int z117.1), (4, .int v20), (3, .int v6), (0, .ref (om 0)), (1, .int (nI kr)), (2, .int left)]) hx hb dX7_payRing_123 hl (by decide) rfl (fun ls hl => ?_)
              refine lv_iconst (v := (0 : Int32)) hx hb dX7_payRing_125 (by decide) ?_
              refine lv_istore (lv' := [(7, .int (0 : Int32)), (6, .int (0 : Int32)), (5, .int z117.1), (4, .int v20), (3, .int v6), (0, .ref (om 0)), (1, .int (nI kr)), (2, .int left)]) hx hb dX7_payRing_126 hl (by decide) rfl (fun ls hl => ?_)
              refine loopW (bd_X7_payRing_128 v6 z25) (z117.1, (0 : Int32), z117.2.2) n (fun k128 z128 => [(7, .int (nI k128)), (6, .int z128.2.1), (5, .int z128.1), (4, .int v20), (3, .int v6), (0, .ref (om 0)), (1, .int (nI kr)), (2, .int left)]) (fun k128 z128 => wX7 cy om om_thrown om_s om_kept om_aside om_isKept om_reaches om_ringOf om_rungOf om_rings om_ringMany z128.2.2 om_leftOf om_ringPaid om_paidAll z25.1 om_text om_signs om_at om_isWrong om_clauses om_letters om_one om_two om_three om_whys om_backs om_sorts om_sizes om_items) hP hD hS (lv_sub hl [0, 1, 2, 3, 4, 5, 6, 7] rfl) (fun k128 z128 H locs ls hk128 hz128 hP hD hS hl ih128 => ?_)
              refine lv_iload hx hb dX7_payRing_128 (lv_at hl 0 rfl) ?_
              refine lv_aload_n hx hb dX7_payRing_130 rfl (lv_at hl 5 rfl) ?_
              refine gf_X7_15 hx hb hG hown hKX hP 0 rfl rfl dX7_payRing_131 ?_
              refine lv_iconst (v := (0 : Int32)) hx hb dX7_payRing_134 (by decide) ?_
              refine iald_v hx hb hKX hP 1 rfl rfl (by decide) (by decide) hs0 dX7_payRing_135 ?_
              refine lv_icmp_ge (tgt := 196) hx hb dX7_payRing_136 (by decide) (fun c32 => ?_) (fun c32 => ?_)
              · have e_k128 : n = k128 := Nat.le_antisymm ((le_n (N := n) (k := k128) rfl (by omega) (by omega)).mp c32) hk128
                subst e_k128
                refine lv_goto (tgt := 117) hx hb dX7_payRing_196 (by decide) ?_
                exact ih117 z128 _ _ _ (by subst hz128; subst hz25; subst ev20; subst ev6; unfold bd_X7_payRing_117; rw [if_neg c31] <;> rfl) hP hD hS (lv_sub hl [1, 2, 3, 4, 5, 6, 7] rfl)
              · have hlt128 : k128 < n := Nat.lt_of_not_le (fun qq_ => c32 ((le_n (N := n) (k := k128) rfl (by omega) (by omega)).mpr qq_))
                refine lv_iload hx hb dX7_payRing_139 (lv_at hl 2 rfl) ?_
                refine lv_if_eq (tgt := 190) hx hb dX7_payRing_141 (by decide) (fun c33 => ?_) (fun c33 => ?_)
                · refine lv_iinc (v := nI (k128 + 1)) (lv' := [(7, .int (nI (k128 + 1))), (6, .int z128.2.1), (5, .int z128.1), (4, .int v20), (3, .int v6), (0, .ref (om 0)), (1, .int (nI kr)), (2, .int left)]) hx hb dX7_payRing_190 hl (k := 0) rfl (nI_1 _) (by decide) rfl (fun ls hl => ?_)
                  refine lv_goto (tgt := 128) hx hb dX7_payRing_193 (by decide) ?_
                  exact ih128 z128 _ _ _ hlt128 (by subst hz25; subst ev20; subst ev6; unfold bd_X7_payRing_128; rw [if_pos c33] <;> rfl) hP hD hS (lv_sub hl [0, 1, 2, 3, 4, 5, 6, 7] rfl)
                · refine lv_iload_n hx hb dX7_payRing_144 rfl (lv_at hl 4 rfl) ?_
                  refine lv_iload hx hb dX7_payRing_145 (lv_at hl 0 rfl) ?_
                  refine cRoS mw14_23 mw15_0 mw1_5 mw15_1 hd_X7_has hx hb hml hown hG hKX (c_X7_has l D cy v6 (nI k128)) ⟨Nat.le_of_ble_eq_true rfl, Nat.le_of_ble_eq_true rfl⟩ ⟨Nat.zero_le _, Nat.zero_le _⟩ (hP.sub [] rfl) rfl hl.1 rfl (Nat.le_of_ble_eq_true rfl) dX7_payRing_147 ?_
                  refine lv_if_eq (tgt := 190) hx hb dX7_payRing_150 (by decide) (fun c34 => ?_) (fun c34 => ?_)
                  · refine lv_iinc (v := nI (k128 + 1)) (lv' := [(7, .int (nI (k128 + 1))), (6, .int z128.2.1), (5, .int z128.1), (4, .int v20), (3, .int v6), (0, .ref (om 0)), (1, .int (nI kr)), (2, .int left)]) hx hb dX7_payRing_190 hl (k := 0) rfl (nI_1 _) (by decide) rfl (fun ls hl => ?_)
                    refine lv_goto (tgt := 128) hx hb dX7_payRing_193 (by decide) ?_
                    exact ih128 z128 _ _ _ hlt128 (by subst hz25; subst ev20; subst ev6; unfold bd_X7_payRing_128; rw [if_neg c33, if_pos c34] <;> rfl) hP hD hS (lv_sub hl [0, 1, 2, 3, 4, 5, 6, 7] rfl)
                  · refine lv_aload_n hx hb dX7_payRing_153 rfl (lv_at hl 5 rfl) ?_
                    refine gf_X7_37 hx hb hG hown hKX hP 0 rfl rfl dX7_payRing_154 ?_
                    refine lv_iload hx hb dX7_payRing_157 (lv_at hl 0 rfl) ?_
                    refine iald_n hx hb hKX hP 8 rfl rfl (by omega) (by decide) dX7_payRing_159 ?_
                    refine lv_aload_n hx hb dX7_payRing_160 rfl (lv_at hl 5 rfl) ?_
                    refine gf_X7_46 hx hb hG hown hKX hP 0 rfl rfl dX7_payRing_161 ?_
                    refine lv_iload hx hb dX7_payRing_164 (lv_at hl 0 rfl) ?_
                    refine iald_n hx hb hKX hP 11 rfl rfl (by omega) (by decide) dX7_payRing_166 ?_
                    refine lv_icmp_ne (tgt := 173) hx hb dX7_payRing_167 (by decide) (fun c35 => ?_) (fun c35 => ?_)
                    · refine lv_aload_n hx hb dX7_payRing_173 rfl (lv_at hl 5 rfl) ?_
                      refine gf_X7_37 hx hb hG hown hKX hP 0 rfl rfl dX7_payRing_174 ?_
                      refine lv_iload hx hb dX7_payRing_177 (lv_at hl 0 rfl) ?_
                      refine lv_dup2_11 hx hb dX7_payRing_179 rfl rfl ?_
                      refine iald_n hx hb hKX hP 8 rfl rfl (by omega) (by decide) dX7_payRing_180 ?_
                      refine lv_iconst (v := (1 : Int32)) hx hb dX7_payRing_181 (by decide) ?_
                      refine lv_iadd hx hb dX7_payRing_182 ?_
                      refine iast_n hx hb hKX hP hD hS 8 rfl rfl (by omega) (by decide) dX7_payRing_183 (fun H locs hP hD hS => ?_)
                      have hP : va_P D vwCl (wX7 cy om om_thrown om_s om_kept om_aside om_isKept om_reaches om_ringOf om_rungOf om_rings om_ringMany (upd z128.2.2 k128 ((z128.2.2 k128) + (1 : Int32))) om_leftOf om_ringPaid om_paidAll z25.1 om_text om_signs om_at om_isWrong om_clauses om_letters om_one om_two om_three om_whys om_backs om_sorts om_sizes om_items) H := hP
                      have hD : va_D A (wX7 cy om om_thrown om_s om_kept om_aside om_isKept om_reaches om_ringOf om_rungOf om_rings om_ringMany (upd z128.2.2 k128 ((z128.2.2 k128) + (1 : Int32))) om_leftOf om_ringPaid om_paidAll z25.1 om_text om_signs om_at om_isWrong om_clauses om_letters om_one om_two om_three om_whys om_backs om_sorts om_sizes om_items) := hD
                      refine lv_iinc (v := (z128.1 + (-1 : Int32))) (lv' := [(5, .int (z128.1 + (-1 : Int32))), (7, .int (nI k128)), (6, .int z128.2.1), (4, .int v20), (3, .int v6), (0, .ref (om 0)), (1, .int (nI kr)), (2, .int left)]) hx hb dX7_payRing_184 hl (k := 2) rfl rfl (by decide) rfl (fun ls hl => ?_)
                      refine lv_iconst (v := (1 : Int32)) hx hb dX7_payRing_187 (by decide) ?_
                      refine lv_istore (lv' := [(6, .int (1 : Int32)), (5, .int (z128.1 + (-1 : Int32))), (7, .int (nI k128)), (4, .int v20), (3, .int v6), (0, .ref (om 0)), (1, .int (nI kr)), (2, .int left)]) hx hb dX7_payRing_188 hl (by decide) rfl (fun ls hl => ?_)
                      refine lv_iinc (v := nI (k128 + 1)) (lv' := [(7, .int (nI (k128 + 1))), (6, .int (1 : Int32)), (5, .int (z128.1 + (-1 : Int32))), (4, .int v20), (3, .int v6), (0, .ref (om 0)), (1, .int (nI kr)), (2, .int left)]) hx hb dX7_payRing_190 hl (k := 2) rfl (nI_1 _) (by decide) rfl (fun ls hl => ?_)
                      refine lv_goto (tgt := 128) hx hb dX7_payRing_193 (by decide) ?_
                      exact ih128 ((z128.1 + (-1 : Int32)), (1 : Int32), upd z128.2.2 k128 ((z128.2.2 k128) + (1 : Int32))) _ _ _ hlt128 (by subst hz25; subst ev20; subst ev6; unfold bd_X7_payRing_128; rw [if_neg c33, if_neg c34, if_neg c35] <;> rfl) hP hD hS (lv_sub hl [0, 1, 2, 3, 4, 5, 6, 7] rfl)
                    · refine lv_goto (tgt := 190) hx hb dX7_payRing_170 (by decide) ?_
                      refine lv_iinc (v := nI (k128 + 1)) (lv' := [(7, .int (nI (k128 + 1))), (6, .int z128.2.1), (5, .int z128.1), (4, .int v20), (3, .int v6), (0, .ref (om 0)), (1, .int (nI kr)), (2, .int left)]) hx hb dX7_payRing_190 hl (k := 0) rfl (nI_1 _) (by decide) rfl (fun ls hl => ?_)
                      refine lv_goto (tgt := 128) hx hb dX7_payRing_193 (by decide) ?_
                      exact ih128 z128 _ _ _ hlt128 (by subst hz25; subst ev20; subst ev6; unfold bd_X7_payRing_128; rw [if_neg c33, if_neg c34, if_pos c35] <;> rfl) hP hD hS (lv_sub hl [0, 1, 2, 3, 4, 5, 6, 7] rfl)
      · refine lv_iconst (v := (0 : Int32)) hx hb dX7_payRing_98 (by decide) ?_
        refine lv_goto (tgt := 103) hx hb dX7_payRing_99 (by decide) ?_
        refine lv_istore (lv' := [(5, .int (0 : Int32)), (4, .int v20), (3, .int v6), (0, .ref (om 0)), (1, .int (nI kr)), (2, .int left)]) hx hb dX7_payRing_103 hl (by decide) rfl (fun ls hl => ?_)
        refine lv_iload hx hb dX7_payRing_105 (lv_at hl 0 rfl) ?_
        refine lv_if_le (tgt := 114) hx hb dX7_payRing_107 (by decide) (fun c36 => ?_) (fun c36 => absurd (by decide) c36)
        refine lv_iconst (v := (0 : Int32)) hx hb dX7_payRing_114 (by decide) ?_
        refine lv_istore (lv' := [(6, .int (0 : Int32)), (5, .int (0 : Int32)), (4, .int v20), (3, .int v6), (0, .ref (om 0)), (1, .int (nI kr)), (2, .int left)]) hx hb dX7_payRing_115 hl (by decide) rfl (fun ls hl => ?_)
        refine loopWh (pcX := 199) (bd_X7_payRing_117 n v6 z25) 4294967296 ((0 : Int32), (0 : Int32), z25.2) ((wl (bd_X7_payRing_117 n v6 z25) 4294967296 ((0 : Int32), (0 : Int32), z25.2)).getD ((0 : Int32), (0 : Int32), z25.2)) (wl_some payR_s0) (fun z117 => [(6, .int z117.2.1), (5, .int z117.1), (4, .int v20), (3, .int v6), (0, .ref (om 0)), (1, .int (nI kr)), (2, .int left)]) (fun z117 => wX7 cy om om_thrown om_s om_kept om_aside om_isKept om_reaches om_ringOf om_rungOf om_rings om_ringMany z117.2.2 om_leftOf om_ringPaid om_paidAll z25.1 om_text om_signs om_at om_isWrong om_clauses om_letters om_one om_two om_three om_whys om_backs om_sorts om_sizes om_items) (fun z117 => [(0, .ref (om 0))]) hP hD hS (lv_sub hl [0, 1, 2, 3, 4, 5, 6] rfl) (fun zx117 H locs ls hzx117 hP hD hS hl => ?_) (fun z117 H locs ls hP hD hS hl ih117 br117 => ?_)
        · exact W.vret hx hb hr (fun t ht hW => ⟨⟨(zx117.2.2, z25.1), rfl, by subst hzx117; subst hz25; subst ev20; subst ev6; unfold f_X7_payRing; rw [if_pos c1, if_neg c24] <;> rfl, by rw [ht]; exact hP, hD⟩, hS.F ht⟩) hS.2.2 dX7_payRing_199
        · refine lv_iload hx hb dX7_payRing_117 (lv_at hl 0 rfl) ?_
          refine lv_if_eq (tgt := 199) hx hb dX7_payRing_119 (by decide) (fun c37 => ?_) (fun c37 => ?_)
          · exact br117 z117 _ _ _  (by subst hz25; subst ev20; subst ev6; unfold bd_X7_payRing_117; rw [if_pos c37] <;> rfl) hP hD hS (lv_sub hl [4] rfl)
          · refine lv_iconst (v := (0 : Int32)) hx hb dX7_payRing_122 (by decide) ?_
            refine lv_istore (lv' := [(6, .int (0 : Int32)), (5, .int z117.1), (4, .int v20), (3, .int v6), (0, .ref (om 0)), (1, .int (nI kr)), (2, .int left)]) hx hb dX7_payRing_123 hl (by decide) rfl (fun ls hl => ?_)
            refine lv_iconst (v := (0 : Int32)) hx hb dX7_payRing_125 (by decide) ?_
            refine lv_istore (lv' := [(7, .int (0 : Int32)), (6, .int (0 : Int32)), (5, .int z117.1), (4, .int v20), (3, .int v6), (0, .ref (om 0)), (1, .int (nI kr)), (2, .int left)]) hx hb dX7_payRing_126 hl (by decide) rfl (fun ls hl => ?_)
            refine loopW (bd_X7_payRing_128 v6 z25) (z117.1, (0 : Int32), z117.2.2) n (fun k128 z128 => [(7, .int (nI k128)), (6, .int z128.2.1), (5, .int z128.1), (4, .int v20), (3, .int v6), (0, .ref (om 0)), (1, .int (nI kr)), (2, .int left)]) (fun k128 z128 => wX7 cy om om_thrown om_s om_kept om_aside om_isKept om_reaches om_ringOf om_rungOf om_rings om_ringMany z128.2.2 om_leftOf om_ringPaid om_paidAll z25.1 om_text om_signs om_at om_isWrong om_clauses om_letters om_one om_two om_three om_whys om_backs om_sorts om_sizes om_items) hP hD hS (lv_sub hl [0, 1, 2, 3, 4, 5, 6, 7] rfl) (fun k128 z128 H locs ls hk128 hz128 hP hD hS hl ih128 => ?_)
            refine lv_iload hx hb dX7_payRing_128 (lv_at hl 0 rfl) ?_
            refine lv_aload_n hx hb dX7_payRing_130 rfl (lv_at hl 5 rfl) ?_
            refine gf_X7_15 hx hb hG hown hKX hP 0 rfl rfl dX7_payRing_131 ?_
            refine lv_iconst (v := (0 : Int32)) hx hb dX7_payRing_134 (by decide) ?_
            refine iald_v hx hb hKX hP 1 rfl rfl (by decide) (by decide) hs0 dX7_payRing_135 ?_
            refine lv_icmp_ge (tgt := 196) hx hb dX7_payRing_136 (by decide) (fun c38 => ?_) (fun c38 => ?_)
            · have e_k128 : n = k128 := Nat.le_antisymm ((le_n (N := n) (k := k128) rfl (by omega) (by omega)).mp c38) hk128
              subst e_k128
              refine lv_goto (tgt := 117) hx hb dX7_payRing_196 (by decide) ?_
              exact ih117 z128 _ _ _ (by subst hz128; subst hz25; subst ev20; subst ev6; unfold bd_X7_payRing_117; rw [if_neg c37] <;> rfl) hP hD hS (lv_sub hl [1, 2, 3, 4, 5, 6, 7] rfl)
            · have hlt128 : k128 < n := Nat.lt_of_not_le (fun qq_ => c38 ((le_n (N := n) (k := k128) rfl (by omega) (by omega)).mpr qq_))
              refine lv_iload hx hb dX7_payRing_139 (lv_at hl 2 rfl) ?_
              refine lv_if_eq (tgt := 190) hx hb dX7_payRing_141 (by decide) (fun c39 => ?_) (fun c39 => ?_)
              · refine lv_iinc (v := nI (k128 + 1)) (lv' := [(7, .int (nI (k128 + 1))), (6, .int z128.2.1), (5, .int z128.1), (4, .int v20), (3, .int v6), (0, .ref (om 0)), (1, .int (nI kr)), (2, .int left)]) hx hb dX7_payRing_190 hl (k := 0) rfl (nI_1 _) (by decide) rfl (fun ls hl => ?_)
                refine lv_goto (tgt := 128) hx hb dX7_payRing_193 (by decide) ?_
                exact ih128 z128 _ _ _ hlt128 (by subst hz25; subst ev20; subst ev6; unfold bd_X7_payRing_128; rw [if_pos c39] <;> rfl) hP hD hS (lv_sub hl [0, 1, 2, 3, 4, 5, 6, 7] rfl)
              · refine lv_iload_n hx hb dX7_payRing_144 rfl (lv_at hl 4 rfl) ?_
                refine lv_iload hx hb dX7_payRing_145 (lv_at hl 0 rfl) ?_
                refine cRoS mw14_23 mw15_0 mw1_5 mw15_1 hd_X7_has hx hb hml hown hG hKX (c_X7_has l D cy v6 (nI k128)) ⟨Nat.le_of_ble_eq_true rfl, Nat.le_of_ble_eq_true rfl⟩ ⟨Nat.zero_le _, Nat.zero_le _⟩ (hP.sub [] rfl) rfl hl.1 rfl (Nat.le_of_ble_eq_true rfl) dX7_payRing_147 ?_
                refine lv_if_eq (tgt := 190) hx hb dX7_payRing_150 (by decide) (fun c40 => ?_) (fun c40 => ?_)
                · refine lv_iinc (v := nI (k128 + 1)) (lv' := [(7, .int (nI (k128 + 1))), (6, .int z128.2.1), (5, .int z128.1), (4, .int v20), (3, .int v6), (0, .ref (om 0)), (1, .int (nI kr)), (2, .int left)]) hx hb dX7_payRing_190 hl (k := 0) rfl (nI_1 _) (by decide) rfl (fun ls hl => ?_)
                  refine lv_goto (tgt := 128) hx hb dX7_payRing_193 (by decide) ?_
                  exact ih128 z128 _ _ _ hlt128 (by subst hz25; subst ev20; subst ev6; unfold bd_X7_payRing_128; rw [if_neg c39, if_pos c40] <;> rfl) hP hD hS (lv_sub hl [0, 1, 2, 3, 4, 5, 6, 7] rfl)
                · refine lv_aload_n hx hb dX7_payRing_153 rfl (lv_at hl 5 rfl) ?_
                  refine gf_X7_37 hx hb hG hown hKX hP 0 rfl rfl dX7_payRing_154 ?_
                  refine lv_iload hx hb dX7_payRing_157 (lv_at hl 0 rfl) ?_
                  refine iald_n hx hb hKX hP 8 rfl rfl (by omega) (by decide) dX7_payRing_159 ?_
                  refine lv_aload_n hx hb dX7_payRing_160 rfl (lv_at hl 5 rfl) ?_
                  refine gf_X7_46 hx hb hG hown hKX hP 0 rfl rfl dX7_payRing_161 ?_
                  refine lv_iload hx hb dX7_payRing_164 (lv_at hl 0 rfl) ?_
                  refine iald_n hx hb hKX hP 11 rfl rfl (by omega) (by decide) dX7_payRing_166 ?_
                  refine lv_icmp_ne (tgt := 173) hx hb dX7_payRing_167 (by decide) (fun c41 => ?_) (fun c41 => ?_)
                  · refine lv_aload_n hx hb dX7_payRing_173 rfl (lv_at hl 5 rfl) ?_
                    refine gf_X7_37 hx hb hG hown hKX hP 0 rfl rfl dX7_payRing_174 ?_
                    refine lv_iload hx hb dX7_payRing_177 (lv_at hl 0 rfl) ?_
                    refine lv_dup2_11 hx hb dX7_payRing_179 rfl rfl ?_
                    refine iald_n hx hb hKX hP 8 rfl rfl (by omega) (by decide) dX7_payRing_180 ?_
                    refine lv_iconst (v := (1 : Int32)) hx hb dX7_payRing_181 (by decide) ?_
                    refine lv_iadd hx hb dX7_payRing_182 ?_
                    refine iast_n hx hb hKX hP hD hS 8 rfl rfl (by omega) (by decide) dX7_payRing_183 (fun H locs hP hD hS => ?_)
                    have hP : va_P D vwCl (wX7 cy om om_thrown om_s om_kept om_aside om_isKept om_reaches om_ringOf om_rungOf om_rings om_ringMany (upd z128.2.2 k128 ((z128.2.2 k128) + (1 : Int32))) om_leftOf om_ringPaid om_paidAll z25.1 om_text om_signs om_at om_isWrong om_clauses om_letters om_one om_two om_three om_whys om_backs om_sorts om_sizes om_items) H := hP
                    have hD : va_D A (wX7 cy om om_thrown om_s om_kept om_aside om_isKept om_reaches om_ringOf om_rungOf om_rings om_ringMany (upd z128.2.2 k128 ((z128.2.2 k128) + (1 : Int32))) om_leftOf om_ringPaid om_paidAll z25.1 om_text om_signs om_at om_isWrong om_clauses om_letters om_one om_two om_three om_whys om_backs om_sorts om_sizes om_items) := hD
                    refine lv_iinc (v := (z128.1 + (-1 : Int32))) (lv' := [(5, .int (z128.1 + (-1 : Int32))), (7, .int (nI k128)), (6, .int z128.2.1), (4, .int v20), (3, .int v6), (0, .ref (om 0)), (1, .int (nI kr)), (2, .int left)]) hx hb dX7_payRing_184 hl (k := 2) rfl rfl (by decide) rfl (fun ls hl => ?_)
                    refine lv_iconst (v := (1 : Int32)) hx hb dX7_payRing_187 (by decide) ?_
                    refine lv_istore (lv' := [(6, .int (1 : Int32)), (5, .int (z128.1 + (-1 : Int32))), (7, .int (nI k128)), (4, .int v20), (3, .int v6), (0, .ref (om 0)), (1, .int (nI kr)), (2, .int left)]) hx hb dX7_payRing_188 hl (by decide) rfl (fun ls hl => ?_)
                    refine lv_iinc (v := nI (k128 + 1)) (lv' := [(7, .int (nI (k128 + 1))), (6, .int (1 : Int32)), (5, .int (z128.1 + (-1 : Int32))), (4, .int v20), (3, .int v6), (0, .ref (om 0)), (1, .int (nI kr)), (2, .int left)]) hx hb dX7_payRing_190 hl (k := 2) rfl (nI_1 _) (by decide) rfl (fun ls hl => ?_)
                    refine lv_goto (tgt := 128) hx hb dX7_payRing_193 (by decide) ?_
                    exact ih128 ((z128.1 + (-1 : Int32)), (1 : Int32), upd z128.2.2 k128 ((z128.2.2 k128) + (1 : Int32))) _ _ _ hlt128 (by subst hz25; subst ev20; subst ev6; unfold bd_X7_payRing_128; rw [if_neg c39, if_neg c40, if_neg c41] <;> rfl) hP hD hS (lv_sub hl [0, 1, 2, 3, 4, 5, 6, 7] rfl)
                  · refine lv_goto (tgt := 190) hx hb dX7_payRing_170 (by decide) ?_
                    refine lv_iinc (v := nI (k128 + 1)) (lv' := [(7, .int (nI (k128 + 1))), (6, .int z128.2.1), (5, .int z128.1), (4, .int v20), (3, .int v6), (0, .ref (om 0)), (1, .int (nI kr)), (2, .int left)]) hx hb dX7_payRing_190 hl (k := 0) rfl (nI_1 _) (by decide) rfl (fun ls hl => ?_)
                    refine lv_goto (tgt := 128) hx hb dX7_payRing_193 (by decide) ?_
                    exact ih128 z128 _ _ _ hlt128 (by subst hz25; subst ev20; subst ev6; unfold bd_X7_payRing_128; rw [if_neg c39, if_neg c40, if_pos c41] <;> rfl) hP hD hS (lv_sub hl [0, 1, 2, 3, 4, 5, 6, 7] rfl)
    · have hlt25 : k25 < n := Nat.lt_of_not_le (fun qq_ => c23 ((le_n (N := n) (k := k25) rfl (by omega) (by omega)).mpr qq_))
      refine lv_iload_n hx hb dX7_payRing_36 rfl (lv_at hl 2 rfl) ?_
      refine lv_iload hx hb dX7_payRing_37 (lv_at hl 0 rfl) ?_
      refine cRoS mw14_23 mw15_0 mw1_5 mw15_1 hd_X7_has hx hb hml hown hG hKX (c_X7_has l D cy v6 (nI k25)) ⟨Nat.le_of_ble_eq_true rfl, Nat.le_of_ble_eq_true rfl⟩ ⟨Nat.zero_le _, Nat.zero_le _⟩ (hP.sub [] rfl) rfl hl.1 rfl (Nat.le_of_ble_eq_true rfl) dX7_payRing_39 ?_
      refine lv_if_ne (tgt := 48) hx hb dX7_payRing_42 (by decide) (fun c42 => ?_) (fun c42 => ?_)
      · refine lv_aload_n hx hb dX7_payRing_48 rfl (lv_at hl 3 rfl) ?_
        refine gf_X7_46 hx hb hG hown hKX hP 0 rfl rfl dX7_payRing_49 ?_
        refine lv_iload hx hb dX7_payRing_52 (lv_at hl 0 rfl) ?_
        refine lv_aload_n hx hb dX7_payRing_54 rfl (lv_at hl 3 rfl) ?_
        refine lv_iload hx hb dX7_payRing_55 (lv_at hl 0 rfl) ?_
        refine lv_iload_n hx hb dX7_payRing_57 rfl (lv_at hl 5 rfl) ?_
        refine lv_iload hx hb dX7_payRing_58 (lv_at hl 1 rfl) ?_
        refine cRoV (q0 := 0) (ci := 7) mw15_17 mw15_18 mw15_19 mw1_5 mw15_20 rfl rfl hd_X7_most hx hb hml hown hG hKX (c_X7_most l D cy om om_thrown om_s om_kept om_aside om_isKept om_reaches om_ringOf om_rungOf om_rings om_ringMany z25.2 om_leftOf om_ringPaid om_paidAll z25.1 om_text om_signs om_at om_isWrong om_clauses om_letters om_one om_two om_three om_whys om_backs om_sorts om_sizes om_items left v20 n k25 hn hs0 (by omega)) ⟨Nat.le_of_ble_eq_true rfl, Nat.le_of_ble_eq_true rfl⟩ ⟨Nat.zero_le _, Nat.zero_le _⟩ hP rfl rfl hl.1 rfl (Nat.le_of_ble_eq_true rfl) dX7_payRing_60 ?_
        refine iast_n hx hb hKX hP hD hS 11 rfl rfl (by omega) (by decide) dX7_payRing_63 (fun H locs hP hD hS => ?_)
        have hP : va_P D vwCl (wX7 cy om om_thrown om_s om_kept om_aside om_isKept om_reaches om_ringOf om_rungOf om_rings om_ringMany z25.2 om_leftOf om_ringPaid om_paidAll (upd z25.1 k25 (f_X7_most om_s z25.2 left v20 n k25)) om_text om_signs om_at om_isWrong om_clauses om_letters om_one om_two om_three om_whys om_backs om_sorts om_sizes om_items) H := hP
        have hD : va_D A (wX7 cy om om_thrown om_s om_kept om_aside om_isKept om_reaches om_ringOf om_rungOf om_rings om_ringMany z25.2 om_leftOf om_ringPaid om_paidAll (upd z25.1 k25 (f_X7_most om_s z25.2 left v20 n k25)) om_text om_signs om_at om_isWrong om_clauses om_letters om_one om_two om_three om_whys om_backs om_sorts om_sizes om_items) := hD
        refine lv_aload_n hx hb dX7_payRing_64 rfl (lv_at hl 3 rfl) ?_
        refine gf_X7_37 hx hb hG hown hKX hP 0 rfl rfl dX7_payRing_65 ?_
        refine lv_iload hx hb dX7_payRing_68 (lv_at hl 0 rfl) ?_
        refine lv_iload hx hb dX7_payRing_70 (lv_at hl 1 rfl) ?_
        refine lv_if_eq (tgt := 85) hx hb dX7_payRing_72 (by decide) (fun c43 => ?_) (fun c43 => ?_)
        · refine lv_iconst (v := (0 : Int32)) hx hb dX7_payRing_85 (by decide) ?_
          refine iast_n hx hb hKX hP hD hS 8 rfl rfl (by omega) (by decide) dX7_payRing_86 (fun H locs hP hD hS => ?_)
          have hP : va_P D vwCl (wX7 cy om om_thrown om_s om_kept om_aside om_isKept om_reaches om_ringOf om_rungOf om_rings om_ringMany (upd z25.2 k25 (0 : Int32)) om_leftOf om_ringPaid om_paidAll (upd z25.1 k25 (f_X7_most om_s z25.2 left v20 n k25)) om_text om_signs om_at om_isWrong om_clauses om_letters om_one om_two om_three om_whys om_backs om_sorts om_sizes om_items) H := hP
          have hD : va_D A (wX7 cy om om_thrown om_s om_kept om_aside om_isKept om_reaches om_ringOf om_rungOf om_rings om_ringMany (upd z25.2 k25 (0 : Int32)) om_leftOf om_ringPaid om_paidAll (upd z25.1 k25 (f_X7_most om_s z25.2 left v20 n k25)) om_text om_signs om_at om_isWrong om_clauses om_letters om_one om_two om_three om_whys om_backs om_sorts om_sizes om_items) := hD
          refine lv_iinc (v := nI (k25 + 1)) (lv' := [(5, .int (nI (k25 + 1))), (4, .int v20), (3, .int v6), (0, .ref (om 0)), (1, .int (nI kr)), (2, .int left)]) hx hb dX7_payRing_87 hl (k := 0) rfl (nI_1 _) (by decide) rfl (fun ls hl => ?_)
          refine lv_goto (tgt := 25) hx hb dX7_payRing_90 (by decide) ?_
          exact ih25 (upd z25.1 k25 (f_X7_most om_s z25.2 left v20 n k25), upd z25.2 k25 (0 : Int32)) _ _ _ hlt25 (by subst ev20; subst ev6; unfold bd_X7_payRing_25; rw [if_neg c42, if_pos c43] <;> rfl) hP hD hS (lv_sub hl [0, 1, 2, 3, 4, 5] rfl)
        · refine lv_aload_n hx hb dX7_payRing_75 rfl (lv_at hl 3 rfl) ?_
          refine gf_X7_46 hx hb hG hown hKX hP 0 rfl rfl dX7_payRing_76 ?_
          refine lv_iload hx hb dX7_payRing_79 (lv_at hl 0 rfl) ?_
          refine iald_n hx hb hKX hP 11 rfl rfl (by omega) (by decide) dX7_payRing_81 ?_
          refine lv_goto (tgt := 86) hx hb dX7_payRing_82 (by decide) ?_
          refine iast_n hx hb hKX hP hD hS 8 rfl rfl (by omega) (by decide) dX7_payRing_86 (fun H locs hP hD hS => ?_)
          have hP : va_P D vwCl (wX7 cy om om_thrown om_s om_kept om_aside om_isKept om_reaches om_ringOf om_rungOf om_rings om_ringMany (upd z25.2 k25 ((upd z25.1 k25 (f_X7_most om_s z25.2 left v20 n k25)) k25)) om_leftOf om_ringPaid om_paidAll (upd z25.1 k25 (f_X7_most om_s z25.2 left v20 n k25)) om_text om_signs om_at om_isWrong om_clauses om_letters om_one om_two om_three om_whys om_backs om_sorts om_sizes om_items) H := hP
          have hD : va_D A (wX7 cy om om_thrown om_s om_kept om_aside om_isKept om_reaches om_ringOf om_rungOf om_rings om_ringMany (upd z25.2 k25 ((upd z25.1 k25 (f_X7_most om_s z25.2 left v20 n k25)) k25)) om_leftOf om_ringPaid om_paidAll (upd z25.1 k25 (f_X7_most om_s z25.2 left v20 n k25)) om_text om_signs om_at om_isWrong om_clauses om_letters om_one om_two om_three om_whys om_backs om_sorts om_sizes om_items) := hD
          refine lv_iinc (v := nI (k25 + 1)) (lv' := [(5, .int (nI (k25 + 1))), (4, .int v20), (3, .int v6), (0, .ref (om 0)), (1, .int (nI kr)), (2, .int left)]) hx hb dX7_payRing_87 hl (k := 0) rfl (nI_1 _) (by decide) rfl (fun ls hl => ?_)
          refine lv_goto (tgt := 25) hx hb dX7_payRing_90 (by decide) ?_
          exact ih25 (upd z25.1 k25 (f_X7_most om_s z25.2 left v20 n k25), upd z25.2 k25 ((upd z25.1 k25 (f_X7_most om_s z25.2 left v20 n k25)) k25)) _ _ _ hlt25 (by subst ev20; subst ev6; unfold bd_X7_payRing_25; rw [if_neg c42, if_neg c43] <;> rfl) hP hD hS (lv_sub hl [0, 1, 2, 3, 4, 5] rfl)
      · refine lv_goto (tgt := 87) hx hb dX7_payRing_45 (by decide) ?_
        refine lv_iinc (v := nI (k25 + 1)) (lv' := [(5, .int (nI (k25 + 1))), (4, .int v20), (3, .int v6), (0, .ref (om 0)), (1, .int (nI kr)), (2, .int left)]) hx hb dX7_payRing_87 hl (k := 0) rfl (nI_1 _) (by decide) rfl (fun ls hl => ?_)
        refine lv_goto (tgt := 25) hx hb dX7_payRing_90 (by decide) ?_
        exact ih25 z25 _ _ _ hlt25 (by subst ev20; subst ev6; unfold bd_X7_payRing_25; rw [if_pos c42] <;> rfl) hP hD hS (lv_sub hl [0, 1, 2, 3, 4, 5] rfl)
