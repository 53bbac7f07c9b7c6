def f_X7_in (v : Int64) (lo : Int64) (hi : Int64) : Int32 :=
  if (lg_cmp v lo) < (0 : Int32) then (0 : Int32) else (if (0 : Int32) < (lg_cmp v hi) then (0 : Int32) else (1 : Int32))
set_option maxHeartbeats 4000000 in
set_option maxRecDepth 100000 in
theorem c_X7_in (l : Launch) (D : va_G) (cy : Nat → ClassId) (v : Int64) (lo : Int64) (hi : Int64) : RoI l D cy yX7_in (.code yX7_in cX7_in 6 (some .boolean)) 0 ([]) [.long v, .long lo, .long hi] (f_X7_in v lo hi) := by
  refine Met.ofW (cc := cX7_in) (maxL := 6) (ret := (some .boolean)) (by decide) rfl ?_
  intro pP eE s0 mM args below meth cC s₁ B hml hv
  obtain ⟨rfl, hP, hKX⟩ := hv
  have hx := B.exec
  have hb := B.bytes
  have hr := B.returns
  have hG := gw_hts (atoms_spec (ws := _) B.pre)
  have hown : s0.vm.findClass RX7 = some mM.cls := findClass_of_methodNamed B.named
  have hlocks := B.notSynchronized
  have hl := lv_entry ([.long v, .long lo, .long hi]) (n := 6) (Nat.le_of_ble_eq_true rfl)
  rw [lg_entry_eq]
  generalize (lg_sl ([.long v, .long lo, .long hi]) ++ List.replicate (6 - (lg_sl ([.long v, .long lo, .long hi])).length) Slot.unset).toArray = ls at hl ⊢
  have hl : lv_has ls 6 [(0, .long v), (2, .long lo), (4, .long hi)] := hl
  refine lv_lload_n hx hb dX7_in_0 rfl (lv_at hl 0 rfl) ?_
  refine lv_lload_n hx hb dX7_in_1 rfl (lv_at hl 1 rfl) ?_
  refine W.lcmp hx hb dX7_in_2 ?_
  refine lv_if_lt (tgt := 17) hx hb dX7_in_3 (by decide) (fun c1 => ?_) (fun c1 => ?_)
  · refine lv_iconst (v := (0 : Int32)) hx hb dX7_in_17 (by decide) ?_
    exact W.zret (v := (0 : Int32)) hx hb hr rfl (fun t ht hW => ⟨_, rfl, by unfold f_X7_in; rw [if_pos c1] <;> rfl, ht⟩) (fun q hq => by cases hq) dX7_in_18
  · refine lv_lload_n hx hb dX7_in_6 rfl (lv_at hl 0 rfl) ?_
    refine lv_lload hx hb dX7_in_7 (lv_at hl 2 rfl) ?_
    refine W.lcmp hx hb dX7_in_9 ?_
    refine lv_if_gt (tgt := 17) hx hb dX7_in_10 (by decide) (fun c2 => ?_) (fun c2 => ?_)
    · refine lv_iconst (v := (0 : Int32)) hx hb dX7_in_17 (by decide) ?_
      exact W.zret (v := (0 : Int32)) hx hb hr rfl (fun t ht hW => ⟨_, rfl, by unfold f_X7_in; rw [if_neg c1, if_pos c2] <;> rfl, ht⟩) (fun q hq => by cases hq) dX7_in_18
    · refine lv_iconst (v := (1 : Int32)) hx hb dX7_in_13 (by decide) ?_
      refine lv_goto (tgt := 18) hx hb dX7_in_14 (by decide) ?_
      exact W.zret (v := (1 : Int32)) hx hb hr rfl (fun t ht hW => ⟨_, rfl, by unfold f_X7_in; rw [if_neg c1, if_neg c2] <;> rfl, ht⟩) (fun q hq => by cases hq) dX7_in_18
def bd_X7_copiessk_2 (om_s : Nat → Int32) (k2 : Nat) (z2 : (Nat → Int32)) : (Nat → Int32) :=
  upd z2 k2 (om_s k2)
def f_X7_copiessk (om_s : Nat → Int32) (om_kept : Nat → Int32) : (Nat → Int32) :=
  (itr (bd_X7_copiessk_2 om_s) 85 om_kept)
set_option maxHeartbeats 4000000 in
set_option maxRecDepth 100000 in
theorem c_X7_copiessk (l : Launch) (D : va_G) (cy : Nat → ClassId) (om : Nat → Nat) (om_thrown : Int32) (om_s : Nat → Int32) (om_kept : Nat → Int32) (om_aside : Nat → Int32) (om_isKept : Int32) (om_reaches : Nat → Int32) (om_ringOf : Nat → Int32) (om_rungOf : Nat → Int32) (om_rings : Nat → Int32) (om_ringMany : Int32) (om_paid : Nat → Int32) (om_leftOf : Nat → Int32) (om_ringPaid : Nat → Int32) (om_paidAll : Int32) (om_mosts : Nat → Int32) (om_text : Nat → Int32) (om_signs : Int32) (om_at : Int32) (om_isWrong : Int32) (om_clauses : Int32) (om_letters : Nat → Int32) (om_one : Nat → Int32) (om_two : Nat → Int32) (om_three : Nat → Int32) (om_whys : Nat → Int32) (om_backs : Nat → Int32) (om_sorts : Nat → Int32) (om_sizes : Nat → Int32) (om_items : Nat → Int64) : RwV (S := (Nat → Int32)) l D cy yX7_copies (.code yX7_copies cX7_copies 3 none) 0 (wX7 cy om om_thrown om_s om_kept om_aside om_isKept om_reaches om_ringOf om_rungOf om_rings om_ringMany om_paid om_leftOf om_ringPaid om_paidAll om_mosts om_text om_signs om_at om_isWrong om_clauses om_letters om_one om_two om_three om_whys om_backs om_sorts om_sizes om_items) [.ref (om 1), .ref (om 2)] (fun u => u = f_X7_copiessk om_s om_kept) (fun u => wX7 cy om om_thrown om_s u om_aside om_isKept om_reaches om_ringOf om_rungOf om_rings om_ringMany om_paid om_leftOf om_ringPaid om_paidAll om_mosts om_text om_signs om_at om_isWrong om_clauses om_letters om_one om_two om_three om_whys om_backs om_sorts om_sizes om_items) := by
  intro sz
  refine Met.ofW (cc := cX7_copies) (maxL := 3) (ret := none) (by decide) rfl ?_
  intro pP eE s0 mM args below meth cC s₁ B hml hv
  obtain ⟨rfl, hsz, hP, hKX, hD0⟩ := hv
  have hx := B.exec
  have hb := B.bytes
  have hr := B.returns
  have hG := gw_hts (atoms_spec (ws := _) B.pre)
  have hown : s0.vm.findClass RX7 = some mM.cls := findClass_of_methodNamed B.named
  have hlocks := B.notSynchronized
  subst hsz
  have hD := hD0.self (sz := s0.heap.size)
  generalize hAe : va_A (wX7 cy om om_thrown om_s om_kept om_aside om_isKept om_reaches om_ringOf om_rungOf om_rings om_ringMany om_paid om_leftOf om_ringPaid om_paidAll om_mosts om_text om_signs om_at om_isWrong om_clauses om_letters om_one om_two om_three om_whys om_backs om_sorts om_sizes om_items) s0.heap.size = A at hD ⊢
  have hA : ∀ q : Nat, s0.heap.size ≤ q → A q := fun q h => by rw [← hAe]; exact Or.inr h
  have hS : va_S A s0.heap s0.heap [] := va_S.rf
  have hl := lv_entry ([.ref (om 1), .ref (om 2)]) (n := 3) (Nat.le_of_ble_eq_true rfl)
  rw [lg_entry_eq]
  generalize (lg_sl ([.ref (om 1), .ref (om 2)]) ++ List.replicate (3 - (lg_sl ([.ref (om 1), .ref (om 2)])).length) Slot.unset).toArray = ls at hl ⊢
  have hl : lv_has ls 3 [(0, .ref (om 1)), (1, .ref (om 2))] := hl
  refine lv_iconst (v := (0 : Int32)) hx hb dX7_copies_0 (by decide) ?_
  refine lv_istore_n (lv' := [(2, .int (0 : Int32)), (0, .ref (om 1)), (1, .ref (om 2))]) hx hb dX7_copies_1 rfl hl (by decide) rfl (fun ls hl => ?_)
  refine loopW (bd_X7_copiessk_2 om_s) om_kept 85 (fun k2 z2 => [(2, .int (nI k2)), (0, .ref (om 1)), (1, .ref (om 2))]) (fun k2 z2 => wX7 cy om om_thrown om_s z2 om_aside om_isKept om_reaches om_ringOf om_rungOf om_rings om_ringMany om_paid om_leftOf om_ringPaid om_paidAll om_mosts om_text om_signs om_at om_isWrong om_clauses om_letters om_one om_two om_three om_whys om_backs om_sorts om_sizes om_items) hP hD hS (lv_sub hl [0, 1, 2] rfl) (fun k2 z2 H locs ls hk2 hz2 hP hD hS hl ih2 => ?_)
  refine lv_iload_n hx hb dX7_copies_2 rfl (lv_at hl 0 rfl) ?_
  refine lv_bipush (v := (85 : Int32)) hx hb dX7_copies_3 (by decide) ?_
  refine lv_icmp_ge (tgt := 20) hx hb dX7_copies_5 (by decide) (fun c1 => ?_) (fun c1 => ?_)
  · have e_k2 : 85 = k2 := Nat.le_antisymm ((le_n (N := 85) (k := k2) rfl (by omega) (by omega)).mp c1) hk2
    subst e_k2
    exact W.vret hx hb hr (fun t ht hW => ⟨⟨z2, rfl, by subst hz2; unfold f_X7_copiessk; rfl, by rw [ht]; exact hP, hD⟩, hS.F ht⟩) hS.2.2 dX7_copies_20
  · have hlt2 : k2 < 85 := Nat.lt_of_not_le (fun qq_ => c1 ((le_n (N := 85) (k := k2) rfl (by omega) (by omega)).mpr qq_))
    refine lv_aload_n hx hb dX7_copies_8 rfl (lv_at hl 2 rfl) ?_
    refine lv_iload_n hx hb dX7_copies_9 rfl (lv_at hl 0 rfl) ?_
    refine lv_aload_n hx hb dX7_copies_10 rfl (lv_at hl 1 rfl) ?_
    refine lv_iload_n hx hb dX7_copies_11 rfl (lv_at hl 0 rfl) ?_
    refine iald_n hx hb hKX hP 1 rfl rfl (by omega) (by decide) dX7_copies_12 ?_
    refine iast_n hx hb hKX hP hD hS 2 rfl rfl (by omega) (by decide) dX7_copies_13 (fun H locs hP hD hS => ?_)
    have hP : va_P D vwCl (wX7 cy om om_thrown om_s (upd z2 k2 (om_s k2)) om_aside om_isKept om_reaches om_ringOf om_rungOf om_rings om_ringMany om_paid om_leftOf om_ringPaid om_paidAll om_mosts om_text om_signs om_at om_isWrong om_clauses om_letters om_one om_two om_three om_whys om_backs om_sorts om_sizes om_items) H := hP
    have hD : va_D A (wX7 cy om om_thrown om_s (upd z2 k2 (om_s k2)) om_aside om_isKept om_reaches om_ringOf om_rungOf om_rings om_ringMany om_paid om_leftOf om_ringPaid om_paidAll om_mosts om_text om_signs om_at om_isWrong om_clauses om_letters om_one om_two om_three om_whys om_backs om_sorts om_sizes om_items) := hD
    refine lv_iinc (v := nI (k2 + 1)) (lv' := [(2, .int (nI (k2 + 1))), (0, .ref (om 1)), (1, .ref (om 2))]) hx hb dX7_copies_14 hl (k := 0) rfl (nI_1 _) (by decide) rfl (fun ls hl => ?_)
    refine lv_goto (tgt := 2) hx hb dX7_copies_17 (by decide) ?_
    exact ih2 (upd z2 k2 (om_s k2)) _ _ _ hlt2 (by unfold bd_X7_copiessk_2; rfl) hP hD hS (lv_sub hl [0, 1, 2] rfl)
def bd_X7_copiesks_2 (om_kept : Nat → Int32) (k2 : Nat) (z2 : (Nat → Int32)) : (Nat → Int32) :=
  upd z2 k2 (om_kept k2)
def f_X7_copiesks (om_s : Nat → Int32) (om_kept : Nat → Int32) : (Nat → Int32) :=
  (itr (bd_X7_copiesks_2 om_kept) 85 om_s)
set_option maxHeartbeats 4000000 in
set_option maxRecDepth 100000 in
theorem c_X7_copiesks (l : Launch) (D : va_G) (cy : Nat → ClassId) (om : Nat → Nat) (om_thrown : Int32) (om_s : Nat → Int32) (om_kept : Nat → Int32) (om_aside : Nat → Int32) (om_isKept : Int32) (om_reaches : Nat → Int32) (om_ringOf : Nat → Int32) (om_rungOf : Nat → Int32) (om_rings : Nat → Int32) (om_ringMany : Int32) (om_paid : Nat → Int32) (om_leftOf : Nat → Int32) (om_ringPaid : Nat → Int32) (om_paidAll : Int32) (om_mosts : Nat → Int32) (om_text : Nat → Int32) (om_signs : Int32) (om_at : Int32) (om_isWrong : Int32) (om_clauses : Int32) (om_letters : Nat → Int32) (om_one : Nat → Int32) (om_two : Nat → Int32) (om_three : Nat → Int32) (om_whys : Nat → Int32) (om_backs : Nat → Int32) (om_sorts : Nat → Int32) (om_sizes : Nat → Int32) (om_items : Nat → Int64) : RwV (S := (Nat → Int32)) l D cy yX7_copies (.code yX7_copies cX7_copies 3 none) 0 (wX7 cy om om_thrown om_s om_kept om_aside om_isKept om_reaches om_ringOf om_rungOf om_rings om_ringMany om_paid om_leftOf om_ringPaid om_paidAll om_mosts om_text om_signs om_at om_isWrong om_clauses om_letters om_one om_two om_three om_whys om_backs om_sorts om_sizes om_items) [.ref (om 2), .ref (om 1)] (fun u => u = f_X7_copiesks om_s om_kept) (fun u => wX7 cy om om_thrown u om_kept om_aside om_isKept om_reaches om_ringOf om_rungOf om_rings om_ringMany om_paid om_leftOf om_ringPaid om_paidAll om_mosts om_text om_signs om_at om_isWrong om_clauses om_letters om_one om_two om_three om_whys om_backs om_sorts om_sizes om_items) := by
  intro sz
  refine Met.ofW (cc := cX7_copies) (maxL := 3) (ret := none) (by decide) rfl ?_
  intro pP eE s0 mM args below meth cC s₁ B hml hv
  obtain ⟨rfl, hsz, hP, hKX, hD0⟩ := hv
  have hx := B.exec
  have hb := B.bytes
  have hr := B.returns
  have hG := gw_hts (atoms_spec (ws := _) B.pre)
  have hown : s0.vm.findClass RX7 = some mM.cls := findClass_of_methodNamed B.named
  have hlocks := B.notSynchronized
  subst hsz
  have hD := hD0.self (sz := s0.heap.size)
  generalize hAe : va_A (wX7 cy om om_thrown om_s om_kept om_aside om_isKept om_reaches om_ringOf om_rungOf om_rings om_ringMany om_paid om_leftOf om_ringPaid om_paidAll om_mosts om_text om_signs om_at om_isWrong om_clauses om_letters om_one om_two om_three om_whys om_backs om_sorts om_sizes om_items) s0.heap.size = A at hD ⊢
  have hA : ∀ q : Nat, s0.heap.size ≤ q → A q := fun q h => by rw [← hAe]; exact Or.inr h
  have hS : va_S A s0.heap s0.heap [] := va_S.rf
  have hl := lv_entry ([.ref (om 2), .ref (om 1)]) (n := 3) (Nat.le_of_ble_eq_true rfl)
  rw [lg_entry_eq]
  generalize (lg_sl ([.ref (om 2), .ref (om 1)]) ++ List.replicate (3 - (lg_sl ([.ref (om 2), .ref (om 1)])).length) Slot.unset).toArray = ls at hl ⊢
  have hl : lv_has ls 3 [(0, .ref (om 2)), (1, .ref (om 1))] := hl
  refine lv_iconst (v := (0 : Int32)) hx hb dX7_copies_0 (by decide) ?_
  refine lv_istore_n (lv' := [(2, .int (0 : Int32)), (0, .ref (om 2)), (1, .ref (om 1))]) hx hb dX7_copies_1 rfl hl (by decide) rfl (fun ls hl => ?_)
  refine loopW (bd_X7_copiesks_2 om_kept) om_s 85 (fun k2 z2 => [(2, .int (nI k2)), (0, .ref (om 2)), (1, .ref (om 1))]) (fun k2 z2 => wX7 cy om om_thrown z2 om_kept om_aside om_isKept om_reaches om_ringOf om_rungOf om_rings om_ringMany om_paid om_leftOf om_ringPaid om_paidAll om_mosts om_text om_signs om_at om_isWrong om_clauses om_letters om_one om_two om_three om_whys om_backs om_sorts om_sizes om_items) hP hD hS (lv_sub hl [0, 1, 2] rfl) (fun k2 z2 H locs ls hk2 hz2 hP hD hS hl ih2 => ?_)
  refine lv_iload_n hx hb dX7_copies_2 rfl (lv_at hl 0 rfl) ?_
  refine lv_bipush (v := (85 : Int32)) hx hb dX7_copies_3 (by decide) ?_
  refine lv_icmp_ge (tgt := 20) hx hb dX7_copies_5 (by decide) (fun c1 => ?_) (fun c1 => ?_)
  · have e_k2 : 85 = k2 := Nat.le_antisymm ((le_n (N := 85) (k := k2) rfl (by omega) (by omega)).mp c1) hk2
    subst e_k2
    exact W.vret hx hb hr (fun t ht hW => ⟨⟨z2, rfl, by subst hz2; unfold f_X7_copiesks; rfl, by rw [ht]; exact hP, hD⟩, hS.F ht⟩) hS.2.2 dX7_copies_20
  · have hlt2 : k2 < 85 := Nat.lt_of_not_le (fun qq_ => c1 ((le_n (N := 85) (k := k2) rfl (by omega) (by omega)).mpr qq_))
    refine lv_aload_n hx hb dX7_copies_8 rfl (lv_at hl 2 rfl) ?_
    refine lv_iload_n hx hb dX7_copies_9 rfl (lv_at hl 0 rfl) ?_
    refine lv_aload_n hx hb dX7_copies_10 rfl (lv_at hl 1 rfl) ?_
    refine lv_iload_n hx hb dX7_copies_11 rfl (lv_at hl 0 rfl) ?_
    refine iald_n hx hb hKX hP 2 rfl rfl (by omega) (by decide) dX7_copies_12 ?_
    refine iast_n hx hb hKX hP hD hS 1 rfl rfl (by omega) (by decide) dX7_copies_13 (fun H locs hP hD hS => ?_)
    have hP : va_P D vwCl (wX7 cy om om_thrown (upd z2 k2 (om_kept k2)) om_kept om_aside om_isKept om_reaches om_ringOf om_rungOf om_rings om_ringMany om_paid om_leftOf om_ringPaid om_paidAll om_mosts om_text om_signs om_at om_isWrong om_clauses om_letters om_one om_two om_three om_whys om_backs om_sorts om_sizes om_items) H := hP
    have hD : va_D A (wX7 cy om om_thrown (upd z2 k2 (om_kept k2)) om_kept om_aside om_isKept om_reaches om_ringOf om_rungOf om_rings om_ringMany om_paid om_leftOf om_ringPaid om_paidAll om_mosts om_text om_signs om_at om_isWrong om_clauses om_letters om_one om_two om_three om_whys om_backs om_sorts om_sizes om_items) := hD
    refine lv_iinc (v := nI (k2 + 1)) (lv' := [(2, .int (nI (k2 + 1))), (0, .ref (om 2)), (1, .ref (om 1))]) hx hb dX7_copies_14 hl (k := 0) rfl (nI_1 _) (by decide) rfl (fun ls hl => ?_)
    refine lv_goto (tgt := 2) hx hb dX7_copies_17 (by decide) ?_
    exact ih2 (upd z2 k2 (om_kept k2)) _ _ _ hlt2 (by unfold bd_X7_copiesks_2; rfl) hP hD hS (lv_sub hl [0, 1, 2] rfl)
def bd_X7_copiessa_2 (om_s : Nat → Int32) (k2 : Nat) (z2 : (Nat → Int32)) : (Nat → Int32) :=
  upd z2 k2 (om_s k2)
def f_X7_copiessa (om_s : Nat → Int32) (om_aside : Nat → Int32) : (Nat → Int32) :=
  (itr (bd_X7_copiessa_2 om_s) 85 om_aside)
set_option maxHeartbeats 4000000 in
set_option maxRecDepth 100000 in
theorem c_X7_copiessa (l : Launch) (D : va_G) (cy : Nat → ClassId) (om : Nat → Nat) (om_thrown : Int32) (om_s : Nat → Int32) (om_kept : Nat → Int32) (om_aside : Nat → Int32) (om_isKept : Int32) (om_reaches : Nat → Int32) (om_ringOf : Nat → Int32) (om_rungOf : Nat → Int32) (om_rings : Nat → Int32) (om_ringMany : Int32) (om_paid : Nat → Int32) (om_leftOf : Nat → Int32) (om_ringPaid : Nat → Int32) (om_paidAll : Int32) (om_mosts : Nat → Int32) (om_text : Nat → Int32) (om_signs : Int32) (om_at : Int32) (om_isWrong : Int32) (om_clauses : Int32) (om_letters : Nat → Int32) (om_one : Nat → Int32) (om_two : Nat → Int32) (om_three : Nat → Int32) (om_whys : Nat → Int32) (om_backs : Nat → Int32) (om_sorts : Nat → Int32) (om_sizes : Nat → Int32) (om_items : Nat → Int64) : RwV (S := (Nat → Int32)) l D cy yX7_copies (.code yX7_copies cX7_copies 3 none) 0 (wX7 cy om om_thrown om_s om_kept om_aside om_isKept om_reaches om_ringOf om_rungOf om_rings om_ringMany om_paid om_leftOf om_ringPaid om_paidAll om_mosts om_text om_signs om_at om_isWrong om_clauses om_letters om_one om_two om_three om_whys om_backs om_sorts om_sizes om_items) [.ref (om 1), .ref (om 3)] (fun u => u = f_X7_copiessa om_s om_aside) (fun u => wX7 cy om om_thrown om_s om_kept u om_isKept om_reaches om_ringOf om_rungOf om_rings om_ringMany om_paid om_leftOf om_ringPaid om_paidAll om_mosts om_text om_signs om_at om_isWrong om_clauses om_letters om_one om_two om_three om_whys om_backs om_sorts om_sizes om_items) := by
  intro sz
  refine Met.ofW (cc := cX7_copies) (maxL := 3) (ret := none) (by decide) rfl ?_
  intro pP eE s0 mM args below meth cC s₁ B hml hv
  obtain ⟨rfl, hsz, hP, hKX, hD0⟩ := hv
  have hx := B.exec
  have hb := B.bytes
  have hr := B.returns
  have hG := gw_hts (atoms_spec (ws := _) B.pre)
  have hown : s0.vm.findClass RX7 = some mM.cls := findClass_of_methodNamed B.named
  have hlocks := B.notSynchronized
  subst hsz
  have hD := hD0.self (sz := s0.heap.size)
  generalize hAe : va_A (wX7 cy om om_thrown om_s om_kept om_aside om_isKept om_reaches om_ringOf om_rungOf om_rings om_ringMany om_paid om_leftOf om_ringPaid om_paidAll om_mosts om_text om_signs om_at om_isWrong om_clauses om_letters om_one om_two om_three om_whys om_backs om_sorts om_sizes om_items) s0.heap.size = A at hD ⊢
  have hA : ∀ q : Nat, s0.heap.size ≤ q → A q := fun q h => by rw [← hAe]; exact Or.inr h
  have hS : va_S A s0.heap s0.heap [] := va_S.rf
  have hl := lv_entry ([.ref (om 1), .ref (om 3)]) (n := 3) (Nat.le_of_ble_eq_true rfl)
  rw [lg_entry_eq]
  generalize (lg_sl ([.ref (om 1), .ref (om 3)]) ++ List.replicate (3 - (lg_sl ([.ref (om 1), .ref (om 3)])).length) Slot.unset).toArray = ls at hl ⊢
  have hl : lv_has ls 3 [(0, .ref (om 1)), (1, .ref (om 3))] := hl
  refine lv_iconst (v := (0 : Int32)) hx hb dX7_copies_0 (by decide) ?_
  refine lv_istore_n (lv' := [(2, .int (0 : Int32)), (0, .ref (om 1)), (1, .ref (om 3))]) hx hb dX7_copies_1 rfl hl (by decide) rfl (fun ls hl => ?_)
  refine loopW (bd_X7_copiessa_2 om_s) om_aside 85 (fun k2 z2 => [(2, .int (nI k2)), (0, .ref (om 1)), (1, .ref (om 3))]) (fun k2 z2 => wX7 cy om om_thrown om_s om_kept z2 om_isKept om_reaches om_ringOf om_rungOf om_rings om_ringMany om_paid om_leftOf om_ringPaid om_paidAll om_mosts om_text om_signs om_at om_isWrong om_clauses om_letters om_one om_two om_three om_whys om_backs om_sorts om_sizes om_items) hP hD hS (lv_sub hl [0, 1, 2] rfl) (fun k2 z2 H locs ls hk2 hz2 hP hD hS hl ih2 => ?_)
  refine lv_iload_n hx hb dX7_copies_2 rfl (lv_at hl 0 rfl) ?_
  refine lv_bipush (v := (85 : Int32)) hx hb dX7_copies_3 (by decide) ?_
  refine lv_icmp_ge (tgt := 20) hx hb dX7_copies_5 (by decide) (fun c1 => ?_) (fun c1 => ?_)
  · have e_k2 : 85 = k2 := Nat.le_antisymm ((le_n (N := 85) (k := k2) rfl (by omega) (by omega)).mp c1) hk2
    subst e_k2
    exact W.vret hx hb hr (fun t ht hW => ⟨⟨z2, rfl, by subst hz2; unfold f_X7_copiessa; rfl, by rw [ht]; exact hP, hD⟩, hS.F ht⟩) hS.2.2 dX7_copies_20
  · have hlt2 : k2 < 85 := Nat.lt_of_not_le (fun qq_ => c1 ((le_n (N := 85) (k := k2) rfl (by omega) (by omega)).mpr qq_))
    refine lv_aload_n hx hb dX7_copies_8 rfl (lv_at hl 2 rfl) ?_
    refine lv_iload_n hx hb dX7_copies_9 rfl (lv_at hl 0 rfl) ?_
    refine lv_aload_n hx hb dX7_copies_10 rfl (lv_at hl 1 rfl) ?_
    refine lv_iload_n hx hb dX7_copies_11 rfl (lv_at hl 0 rfl) ?_
    refine iald_n hx hb hKX hP 1 rfl rfl (by omega) (by decide) dX7_copies_12 ?_
    refine iast_n hx hb hKX hP hD hS 3 rfl rfl (by omega) (by decide) dX7_copies_13 (fun H locs hP hD hS => ?_)
    have hP : va_P D vwCl (wX7 cy om om_thrown om_s om_kept (upd z2 k2 (om_s k2)) om_isKept om_reaches om_ringOf om_rungOf om_rings om_ringMany om_paid om_leftOf om_ringPaid om_paidAll om_mosts om_text om_signs om_at om_isWrong om_clauses om_letters om_one om_two om_three om_whys om_backs om_sorts om_sizes om_items) H := hP
    have hD : va_D A (wX7 cy om om_thrown om_s om_kept (upd z2 k2 (om_s k2)) om_isKept om_reaches om_ringOf om_rungOf om_rings om_ringMany om_paid om_leftOf om_ringPaid om_paidAll om_mosts om_text om_signs om_at om_isWrong om_clauses om_letters om_one om_two om_three om_whys om_backs om_sorts om_sizes om_items) := hD
    refine lv_iinc (v := nI (k2 + 1)) (lv' := [(2, .int (nI (k2 + 1))), (0, .ref (om 1)), (1, .ref (om 3))]) hx hb dX7_copies_14 hl (k := 0) rfl (nI_1 _) (by decide) rfl (fun ls hl => ?_)
    refine lv_goto (tgt := 2) hx hb dX7_copies_17 (by decide) ?_
    exact ih2 (upd z2 k2 (om_s k2)) _ _ _ hlt2 (by unfold bd_X7_copiessa_2; rfl) hP hD hS (lv_sub hl [0, 1, 2] rfl)
def bd_X7_copiesas_2 (om_aside : Nat → Int32) (k2 : Nat) (z2 : (Nat → Int32)) : (Nat → Int32) :=
  upd z2 k2 (om_aside k2)
def f_X7_copiesas (om_s : Nat → Int32) (om_aside : Nat → Int32) : (Nat → Int32) :=
  (itr (bd_X7_copiesas_2 om_aside) 85 om_s)
set_option maxHeartbeats 4000000 in
set_option maxRecDepth 100000 in
theorem c_X7_copiesas (l : Launch) (D : va_G) (cy : Nat → ClassId) (om : Nat → Nat) (om_thrown : Int32) (om_s : Nat → Int32) (om_kept : Nat → Int32) (om_aside : Nat → Int32) (om_isKept : Int32) (om_reaches : Nat → Int32) (om_ringOf : Nat → Int32) (om_rungOf : Nat → Int32) (om_rings : Nat → Int32) (om_ringMany : Int32) (om_paid : Nat → Int32) (om_leftOf : Nat → Int32) (om_ringPaid : Nat → Int32) (om_paidAll : Int32) (om_mosts : Nat → Int32) (om_text : Nat → Int32) (om_signs : Int32) (om_at : Int32) (om_isWrong : Int32) (om_clauses : Int32) (om_letters : Nat → Int32) (om_one : Nat → Int32) (om_two : Nat → Int32) (om_three : Nat → Int32) (om_whys : Nat → Int32) (om_backs : Nat → Int32) (om_sorts : Nat → Int32) (om_sizes : Nat → Int32) (om_items : Nat → Int64) : RwV (S := (Nat → Int32)) l D cy yX7_copies (.code yX7_copies cX7_copies 3 none) 0 (wX7 cy om om_thrown om_s om_kept om_aside om_isKept om_reaches om_ringOf om_rungOf om_rings om_ringMany om_paid om_leftOf om_ringPaid om_paidAll om_mosts om_text om_signs om_at om_isWrong om_clauses om_letters om_one om_two om_three om_whys om_backs om_sorts om_sizes om_items) [.ref (om 3), .ref (om 1)] (fun u => u = f_X7_copiesas om_s om_aside) (fun u => wX7 cy om om_thrown u om_kept om_aside om_isKept om_reaches om_ringOf om_rungOf om_rings om_ringMany om_paid om_leftOf om_ringPaid om_paidAll om_mosts om_text om_signs om_at om_isWrong om_clauses om_letters om_one om_two om_three om_whys om_backs om_sorts om_sizes om_items) := by
  intro sz
  refine Met.ofW (cc := cX7_copies) (maxL := 3) (ret := none) (by decide) rfl ?_
  intro pP eE s0 mM args below meth cC s₁ B hml hv
  obtain ⟨rfl, hsz, hP, hKX, hD0⟩ := hv
  have hx := B.exec
  have hb := B.bytes
  have hr := B.returns
  have hG := gw_hts (atoms_spec (ws := _) B.pre)
  have hown : s0.vm.findClass RX7 = some mM.cls := findClass_of_methodNamed B.named
  have hlocks := B.notSynchronized
  subst hsz
  have hD := hD0.self (sz := s0.heap.size)
  generalize hAe : va_A (wX7 cy om om_thrown om_s om_kept om_aside om_isKept om_reaches om_ringOf om_rungOf om_rings om_ringMany om_paid om_leftOf om_ringPaid om_paidAll om_mosts om_text om_signs om_at om_isWrong om_clauses om_letters om_one om_two om_three om_whys om_backs om_sorts om_sizes om_items) s0.heap.size = A at hD ⊢
  have hA : ∀ q : Nat, s0.heap.size ≤ q → A q := fun q h => by rw [← hAe]; exact Or.inr h
  have hS : va_S A s0.heap s0.heap [] := va_S.rf
  have hl := lv_entry ([.ref (om 3), .ref (om 1)]) (n := 3) (Nat.le_of_ble_eq_true rfl)
  rw [lg_entry_eq]
  generalize (lg_sl ([.ref (om 3), .ref (om 1)]) ++ List.replicate (3 - (lg_sl ([.ref (om 3), .ref (om 1)])).length) Slot.unset).toArray = ls at hl ⊢
  have hl : lv_has ls 3 [(0, .ref (om 3)), (1, .ref (om 1))] := hl
  refine lv_iconst (v := (0 : Int32)) hx hb dX7_copies_0 (by decide) ?_
  refine lv_istore_n (lv' := [(2, .int (0 : Int32)), (0, .ref (om 3)), (1, .ref (om 1))]) hx hb dX7_copies_1 rfl hl (by decide) rfl (fun ls hl => ?_)
  refine loopW (bd_X7_copiesas_2 om_aside) om_s 85 (fun k2 z2 => [(2, .int (nI k2)), (0, .ref (om 3)), (1, .ref (om 1))]) (fun k2 z2 => wX7 cy om om_thrown z2 om_kept om_aside om_isKept om_reaches om_ringOf om_rungOf om_rings om_ringMany om_paid om_leftOf om_ringPaid om_paidAll om_mosts om_text om_signs om_at om_isWrong om_clauses om_letters om_one om_two om_three om_whys om_backs om_sorts om_sizes om_items) hP hD hS (lv_sub hl [0, 1, 2] rfl) (fun k2 z2 H locs ls hk2 hz2 hP hD hS hl ih2 => ?_)
  refine lv_iload_n hx hb dX7_copies_2 rfl (lv_at hl 0 rfl) ?_
  refine lv_bipush (v := (85 : Int32)) hx hb dX7_copies_3 (by decide) ?_
  refine lv_icmp_ge (tgt := 20) hx hb dX7_copies_5 (by decide) (fun c1 => ?_) (fun c1 => ?_)
  · have e_k2 : 85 = k2 := Nat.le_antisymm ((le_n (N := 85) (k := k2) rfl (by omega) (by omega)).mp c1) hk2
    subst e_k2
    exact W.vret hx hb hr (fun t ht hW => ⟨⟨z2, rfl, by subst hz2; unfold f_X7_copiesas; rfl, by rw [ht]; exact hP, hD⟩, hS.F ht⟩) hS.2.2 dX7_copies_20
  · have hlt2 : k2 < 85 := Nat.lt_of_not_le (fun qq_ => c1 ((le_n (N := 85) (k := k2) rfl (by omega) (by omega)).mpr qq_))
    refine lv_aload_n hx hb dX7_copies_8 rfl (lv_at hl 2 rfl) ?_
    refine lv_iload_n hx hb dX7_copies_9 rfl (lv_at hl 0 rfl) ?_
    refine lv_aload_n hx hb dX7_copies_10 rfl (lv_at hl 1 rfl) ?_
    refine lv_iload_n hx hb dX7_copies_11 rfl (lv_at hl 0 rfl) ?_
    refine iald_n hx hb hKX hP 3 rfl rfl (by omega) (by decide) dX7_copies_12 ?_
    refine iast_n hx hb hKX hP hD hS 1 rfl rfl (by omega) (by decide) dX7_copies_13 (fun H locs hP hD hS => ?_)
    have hP : va_P D vwCl (wX7 cy om om_thrown (upd z2 k2 (om_aside k2)) om_kept om_aside om_isKept om_reaches om_ringOf om_rungOf om_rings om_ringMany om_paid om_leftOf om_ringPaid om_paidAll om_mosts om_text om_signs om_at om_isWrong om_clauses om_letters om_one om_two om_three om_whys om_backs om_sorts om_sizes om_items) H := hP
    have hD : va_D A (wX7 cy om om_thrown (upd z2 k2 (om_aside k2)) om_kept om_aside om_isKept om_reaches om_ringOf om_rungOf om_rings om_ringMany om_paid om_leftOf om_ringPaid om_paidAll om_mosts om_text om_signs om_at om_isWrong om_clauses om_letters om_one om_two om_three om_whys om_backs om_sorts om_sizes om_items) := hD
    refine lv_iinc (v := nI (k2 + 1)) (lv' := [(2, .int (nI (k2 + 1))), (0, .ref (om 3)), (1, .ref (om 1))]) hx hb dX7_copies_14 hl (k := 0) rfl (nI_1 _) (by decide) rfl (fun ls hl => ?_)
    refine lv_goto (tgt := 2) hx hb dX7_copies_17 (by decide) ?_
    exact ih2 (upd z2 k2 (om_aside k2)) _ _ _ hlt2 (by unfold bd_X7_copiesas_2; rfl) hP hD hS (lv_sub hl [0, 1, 2] rfl)
def bd_X7_bits_4 (z4 : Int32 × Int32) : (Int32 × Int32) ⊕ (Int32 × Int32) :=
  if z4.2 = (0 : Int32) then (.inr z4) else (.inl ((z4.1 + (1 : Int32)), (z4.2 &&& (z4.2 - (1 : Int32)))))
def f_X7_bits (v : Int32) : Int32 :=
  ((wl bd_X7_bits_4 4294967296 ((0 : Int32), v)).getD ((0 : Int32), v)).1
theorem bits_some : ∀ (d : Nat) (z : Int32 × Int32), z.2.toBitVec.toNat < d → (wl bd_X7_bits_4 d z).isSome = true
  | 0, z, h => absurd h (Nat.not_lt_zero _)
  | d + 1, z, h => by
    by_cases e : z.2 = 0
    · have hb : bd_X7_bits_4 z = .inr z := by unfold bd_X7_bits_4; rw [if_pos e] <;> rfl
      rw [wl_inr hb]; rfl
    · have hb : bd_X7_bits_4 z = .inl (z.1 + 1, z.2 &&& (z.2 - 1)) := by unfold bd_X7_bits_4; rw [if_neg e] <;> rfl
      rw [wl_inl hb]
      refine bits_some d _ ?_
      show (z.2.toBitVec &&& (z.2.toBitVec - 1#32)).toNat < d
      have h0 : z.2.toBitVec.toNat ≠ 0 := fun q => e (Int32.toBitVec.inj (BitVec.eq_of_toNat_eq (by rw [q]; rfl)))
      rw [BitVec.toNat_and]
      have h1 : z.2.toBitVec.toNat &&& (z.2.toBitVec - 1#32).toNat ≤ (z.2.toBitVec - 1#32).toNat := Nat.and_le_right
      have h2 : (z.2.toBitVec - 1#32).toNat = z.2.toBitVec.toNat - 1 := by
        have := z.2.toBitVec.isLt
        rw [BitVec.toNat_sub]
        show (2 ^ 32 - 1 + z.2.toBitVec.toNat) % 2 ^ 32 = _
        omega
      omega
theorem bits_ok (v x : Int32) : (wl bd_X7_bits_4 4294967296 (x, v)).isSome = true := bits_some _ _ v.toBitVec.isLt

set_option maxHeartbeats 4000000 in
set_option maxRecDepth 100000 in
theorem c_X7_bits (l : Launch) (D : va_G) (cy : Nat → ClassId) (v : Int32) : RoI l D cy yX7_bits (.code yX7_bits cX7_bits 3 (some .int)) 0 ([]) [.int v] (f_X7_bits v) := by
  refine Met.ofW (cc := cX7_bits) (maxL := 3) (ret := (some .int)) (by decide) rfl ?_
  intro pP eE s0 mM args below meth cC s₁ B hml hv
  obtain ⟨rfl, hP, hKX⟩ := hv
  have hx := B.exec
  have hb := B.bytes
  have hr := B.returns
  have hG := gw_hts (atoms_spec (ws := _) B.pre)
  have hown : s0.vm.findClass RX7 = some mM.cls := findClass_of_methodNamed B.named
  have hlocks := B.notSynchronized
  have hl := lv_entry ([.int v]) (n := 3) (Nat.le_of_ble_eq_true rfl)
  rw [lg_entry_eq]
  generalize (lg_sl ([.int v]) ++ List.replicate (3 - (lg_sl ([.int v])).length) Slot.unset).toArray = ls at hl ⊢
  have hl : lv_has ls 3 [(0, .int v)] := hl
  refine lv_iconst (v := (0 : Int32)) hx hb dX7_bits_0 (by decide) ?_
  refine lv_istore_n (lv' := [(1, .int (0 : Int32)), (0, .int v)]) hx hb dX7_bits_1 rfl hl (by decide) rfl (fun ls hl => ?_)
  refine lv_iload_n hx hb dX7_bits_2 rfl (lv_at hl 1 rfl) ?_
  refine lv_istore_n (lv' := [(2, .int v), (1, .int (0 : Int32)), (0, .int v)]) hx hb dX7_bits_3 rfl hl (by decide) rfl (fun ls hl => ?_)
  refine loopWhR (pcX := 20) bd_X7_bits_4 4294967296 ((0 : Int32), v) ((wl bd_X7_bits_4 4294967296 ((0 : Int32), v)).getD ((0 : Int32), v)) (wl_some (bits_ok _ _)) (fun z4 => [(2, .int z4.2), (1, .int z4.1), (0, .int v)]) (fun z4 => [(1, .int z4.1)]) (lv_sub hl [0, 1, 2] rfl) (fun zx4 ls hzx4 hl => ?_) (fun z4 ls hl ih4 br4 => ?_)
  · refine lv_iload_n hx hb dX7_bits_20 rfl (lv_at hl 0 rfl) ?_
    exact W.iret (v := zx4.1) hx hb hr (fun t ht hW => ⟨_, rfl, by subst hzx4; unfold f_X7_bits; rfl, ht⟩) (fun q hq => by cases hq) dX7_bits_21
  · refine lv_iload_n hx hb dX7_bits_4 rfl (lv_at hl 0 rfl) ?_
    refine lv_if_eq (tgt := 20) hx hb dX7_bits_5 (by decide) (fun c1 => ?_) (fun c1 => ?_)
    · exact br4 z4 _  (by unfold bd_X7_bits_4; rw [if_pos c1] <;> rfl) (lv_sub hl [1] rfl)
    · refine lv_iinc (v := (z4.1 + (1 : Int32))) (lv' := [(1, .int (z4.1 + (1 : Int32))), (2, .int z4.2), (0, .int v)]) hx hb dX7_bits_8 hl (k := 1) rfl rfl (by decide) rfl (fun ls hl => ?_)
      refine lv_iload_n hx hb dX7_bits_11 rfl (lv_at hl 1 rfl) ?_
      refine lv_iload_n hx hb dX7_bits_12 rfl (lv_at hl 1 rfl) ?_
      refine lv_iconst (v := (1 : Int32)) hx hb dX7_bits_13 (by decide) ?_
      refine lv_isub hx hb dX7_bits_14 ?_
      refine lv_iand hx hb dX7_bits_15 ?_
      refine lv_istore_n (lv' := [(2, .int (z4.2 &&& (z4.2 - (1 : Int32)))), (1, .int (z4.1 + (1 : Int32))), (0, .int v)]) hx hb dX7_bits_16 rfl hl (by decide) rfl (fun ls hl => ?_)
      refine lv_goto (tgt := 4) hx hb dX7_bits_17 (by decide) ?_
      exact ih4 ((z4.1 + (1 : Int32)), (z4.2 &&& (z4.2 - (1 : Int32)))) _ (by unfold bd_X7_bits_4; rw [if_neg c1] <;> rfl) (lv_sub hl [0, 1, 2] rfl)
def f_X7_has (set : Int32) (c : Int32) : Int32 :=
  if ((set >>> (c &&& 31)) &&& (1 : Int32)) = (1 : Int32) then (1 : Int32) else (0 : Int32)
set_option maxHeartbeats 4000000 in
set_option maxRecDepth 100000 in
theorem c_X7_has (l : Launch) (D : va_G) (cy : Nat → ClassId) (set : Int32) (c : Int32) : RoI l D cy yX7_has (.code yX7_has cX7_has 2 (some .boolean)) 0 ([]) [.int set, .int c] (f_X7_has set c) := by
  refine Met.ofW (cc := cX7_has) (maxL := 2) (ret := (some .boolean)) (by decide) rfl ?_
  intro pP eE s0 mM args below meth cC s₁ B hml hv
  obtain ⟨rfl, hP, hKX⟩ := hv
  have hx := B.exec
  have hb := B.bytes
  have hr := B.returns
  have hG := gw_hts (atoms_spec (ws := _) B.pre)
  have hown : s0.vm.findClass RX7 = some mM.cls := findClass_of_methodNamed B.named
  have hlocks := B.notSynchronized
  have hl := lv_entry ([.int set, .int c]) (n := 2) (Nat.le_of_ble_eq_true rfl)
  rw [lg_entry_eq]
  generalize (lg_sl ([.int set, .int c]) ++ List.replicate (2 - (lg_sl ([.int set, .int c])).length) Slot.unset).toArray = ls at hl ⊢
  have hl : lv_has ls 2 [(0, .int set), (1, .int c)] := hl
  refine lv_iload_n hx hb dX7_has_0 rfl (lv_at hl 0 rfl) ?_
  refine lv_iload_n hx hb dX7_has_1 rfl (lv_at hl 1 rfl) ?_
  refine lv_ishr hx hb dX7_has_2 ?_
  refine lv_iconst (v := (1 : Int32)) hx hb dX7_has_3 (by decide) ?_
  refine lv_iand hx hb dX7_has_4 ?_
  refine lv_iconst (v := (1 : Int32)) hx hb dX7_has_5 (by decide) ?_
  refine lv_icmp_ne (tgt := 13) hx hb dX7_has_6 (by decide) (fun c1 => ?_) (fun c1 => ?_)
  · refine lv_iconst (v := (0 : Int32)) hx hb dX7_has_13 (by decide) ?_
    exact W.zret (v := (0 : Int32)) hx hb hr rfl (fun t ht hW => ⟨_, rfl, by unfold f_X7_has; rw [if_neg c1] <;> rfl, ht⟩) (fun q hq => by cases hq) dX7_has_14
  · refine lv_iconst (v := (1 : Int32)) hx hb dX7_has_9 (by decide) ?_
    refine lv_goto (tgt := 14) hx hb dX7_has_10 (by decide) ?_
    exact W.zret (v := (1 : Int32)) hx hb hr rfl (fun t ht hW => ⟨_, rfl, by unfold f_X7_has; rw [if_pos c1] <;> rfl, ht⟩) (fun q hq => by cases hq) dX7_has_14
theorem in_zr (a b c : Int64) : narrow .boolean (.int (f_X7_in a b c)) = .int (f_X7_in a b c) := by
  refine zr_of ?_
  unfold f_X7_in
  repeat' refine iteP (P := fun x : Int32 => x = 0 ∨ x = 1) (fun _ => ?_) (fun _ => ?_)
  all_goals first | exact Or.inl rfl | exact Or.inr rfl
def f_X7_isOne (c : Int32) (n : Nat) : Int32 :=
  (f_X7_in ((c).toInt64) (0 : Int64) (((nI n - (1 : Int32))).toInt64))
set_option maxHeartbeats 4000000 in
set_option maxRecDepth 100000 in
theorem c_X7_isOne (l : Launch) (D : va_G) (cy : Nat → ClassId) (om : Nat → Nat) (om_thrown : Int32) (om_s : Nat → Int32) (om_kept : Nat → Int32) (om_aside : Nat → Int32) (om_isKept : Int32) (om_reaches : Nat → Int32) (om_ringOf : Nat → Int32) (om_rungOf : Nat → Int32) (om_rings : Nat → Int32) (om_ringMany : Int32) (om_paid : Nat → Int32) (om_leftOf : Nat → Int32) (om_ringPaid : Nat → Int32) (om_paidAll : Int32) (om_mosts : Nat → Int32) (om_text : Nat → Int32) (om_signs : Int32) (om_at : Int32) (om_isWrong : Int32) (om_clauses : Int32) (om_letters : Nat → Int32) (om_one : Nat → Int32) (om_two : Nat → Int32) (om_three : Nat → Int32) (om_whys : Nat → Int32) (om_backs : Nat → Int32) (om_sorts : Nat → Int32) (om_sizes : Nat → Int32) (om_items : Nat → Int64) (c : Int32) (n : Nat) (hn : n ≤ 6) (hs0 : om_s 0 = nI n) : RoI l D cy yX7_isOne (.code yX7_isOne cX7_isOne 2 (some .boolean)) 1 (wX7 cy om om_thrown om_s om_kept om_aside om_isKept om_reaches om_ringOf om_rungOf om_rings om_ringMany om_paid om_leftOf om_ringPaid om_paidAll om_mosts om_text om_signs om_at om_isWrong om_clauses om_letters om_one om_two om_three om_whys om_backs om_sorts om_sizes om_items) [.ref (om 0), .int c] (f_X7_isOne c n) := by
  refine Met.ofW (cc := cX7_isOne) (maxL := 2) (ret := (some .boolean)) (by decide) rfl ?_
  intro pP eE s0 mM args below meth cC s₁ B hml hv
  obtain ⟨rfl, hP, hKX⟩ := hv
  have hx := B.exec
  have hb := B.bytes
  have hr := B.returns
  have hG := gw_hts (atoms_spec (ws := _) B.pre)
  have hown : s0.vm.findClass RX7 = some mM.cls := findClass_of_methodNamed B.named
  have hlocks := B.notSynchronized
  have hl := lv_entry ([.ref (om 0), .int c]) (n := 2) (Nat.le_of_ble_eq_true rfl)
  rw [lg_entry_eq]
  generalize (lg_sl ([.ref (om 0), .int c]) ++ List.replicate (2 - (lg_sl ([.ref (om 0), .int c])).length) Slot.unset).toArray = ls at hl ⊢
  have hl : lv_has ls 2 [(0, .ref (om 0)), (1, .int c)] := hl
  refine lv_iload_n hx hb dX7_isOne_0 rfl (lv_at hl 1 rfl) ?_
  refine lv_i2l (v := ((c).toInt64)) hx hb dX7_isOne_1 rfl ?_
  refine lv_lconst (v := (0 : Int64)) hx hb dX7_isOne_2 (by decide) ?_
  refine lv_aload_n hx hb dX7_isOne_3 rfl (lv_at hl 0 rfl) ?_
  refine gf_X7_15 hx hb hG hown hKX hP 0 rfl rfl dX7_isOne_4 ?_
  refine lv_iconst (v := (0 : Int32)) hx hb dX7_isOne_7 (by decide) ?_
  refine iald_v hx hb hKX hP 1 rfl rfl (by decide) (by decide) hs0 dX7_isOne_8 ?_
  refine lv_iconst (v := (1 : Int32)) hx hb dX7_isOne_9 (by decide) ?_
  refine lv_isub hx hb dX7_isOne_10 ?_
  refine lv_i2l (v := (((nI n - (1 : Int32))).toInt64)) hx hb dX7_isOne_11 rfl ?_
  refine cRoS mw7_3 mw7_4 mw1_5 mw7_5 hd_X7_in hx hb hml hown hG hKX (c_X7_in l D cy ((c).toInt64) (0 : Int64) (((nI n - (1 : Int32))).toInt64)) ⟨Nat.le_of_ble_eq_true rfl, Nat.le_of_ble_eq_true rfl⟩ ⟨Nat.zero_le _, Nat.zero_le _⟩ (hP.sub [] rfl) rfl hl.1 rfl (Nat.le_of_ble_eq_true rfl) dX7_isOne_12 ?_
  exact W.zret (v := (f_X7_in ((c).toInt64) (0 : Int64) (((nI n - (1 : Int32))).toInt64))) hx hb hr (in_zr _ _ _) (fun t ht hW => ⟨_, rfl, by unfold f_X7_isOne; rfl, ht⟩) (fun q hq => by cases hq) dX7_isOne_15
theorem isO_of {n : Nat} {c : Int32} (hn : n < 2 ^ 31) (h : ¬ f_X7_isOne c n = 0) : ∃ j, c.toNatClampNeg = j ∧ j < n ∧ c = nI j := by
  refine in_of hn (fun q => h ?_) (fun q => h ?_)
  · unfold f_X7_isOne f_X7_in lg_cmp
    have h1 : ¬ c.toInt64 > (0 : Int64) := by
      intro h2
      have h3 := Int64.lt_iff_toInt_lt.mp h2
      have h4 := Int32.lt_iff_toInt_lt.mp q
      rw [Int32.toInt_toInt64] at h3
      have e1 : (0 : Int64).toInt = 0 := by decide
      have e2 : (0 : Int32).toInt = 0 := by decide
      omega
    have h5 : ¬ c.toInt64 = (0 : Int64) := by
      intro h2
      have h3 : c.toInt64.toInt = (0 : Int64).toInt := by rw [h2]
      have h4 := Int32.lt_iff_toInt_lt.mp q
      rw [Int32.toInt_toInt64] at h3
      have e1 : (0 : Int64).toInt = 0 := by decide
      have e2 : (0 : Int32).toInt = 0 := by decide
      omega
    rw [if_neg h1, if_neg h5]
    rw [if_pos (by decide)]
  · have hc := Int32.le_iff_toInt_le.mp q
    rw [nI_toInt hn] at hc
    have hm : (nI n - 1).toInt = (n : Int) - 1 := by
      rcases Nat.eq_zero_or_pos n with e | e
      · subst e; decide
      · rw [show n = (n - 1) + 1 by omega, nI_pred, nI_toInt (by omega)]; omega
    have h3 : c.toInt64 > (nI n - 1).toInt64 := by
      refine Int64.lt_iff_toInt_lt.mpr ?_
      rw [Int32.toInt_toInt64, Int32.toInt_toInt64, hm]
      omega
    unfold f_X7_isOne f_X7_in
    refine iteP (P := fun x : Int32 => x = 0) (fun _ => rfl) (fun _ => ?_)
    unfold lg_cmp
    rw [if_pos h3, if_pos (by decide)]
theorem isO_lt {n k : Nat} (hn : n < 2 ^ 31) (hk : k < 2 ^ 31) (h : ¬ f_X7_isOne (nI k) n = 0) : k < n := by
  obtain ⟨j, h1, h2, -⟩ := isO_of hn h
  rw [nI_clamp hk] at h1
  omega
