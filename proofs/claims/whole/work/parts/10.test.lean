def f_X6_has (bits : Int32) (c : Int32) : Int32 :=
  if ((bits >>> (c &&& 31)) &&& (1 : Int32)) = (0 : Int32) then (0 : Int32) else (1 : Int32)
set_option maxHeartbeats 4000000 in
set_option maxRecDepth 100000 in
theorem c_X6_has (l : Launch) (D : va_G) (cy : Nat → ClassId) (bits : Int32) (c : Int32) : RoI l D cy yX6_has (.code yX6_has cX6_has 2 (some .boolean)) 0 ([]) [.int bits, .int c] (f_X6_has bits c) := by
  refine Met.ofW (cc := cX6_has) (maxL := 2) (ret := (some .boolean)) (by decide) rfl ?_
  intro pP eE s0 mM args below meth cC s₁ B hml hv
  obtain ⟨rfl, hP, hKX⟩ := hv
  have hx := B.exec
  have hb := B.bytes
  have hr := B.returns
  have hG := gw_hts (atoms_spec (ws := _) B.pre)
  have hown : s0.vm.findClass RX6 = some mM.cls := findClass_of_methodNamed B.named
  have hlocks := B.notSynchronized
  have hl := lv_entry ([.int bits, .int c]) (n := 2) (Nat.le_of_ble_eq_true rfl)
  rw [lg_entry_eq]
  generalize (lg_sl ([.int bits, .int c]) ++ List.replicate (2 - (lg_sl ([.int bits, .int c])).length) Slot.unset).toArray = ls at hl ⊢
  have hl : lv_has ls 2 [(0, .int bits), (1, .int c)] := hl
  refine lv_iload_n hx hb dX6_has_0 rfl (lv_at hl 0 rfl) ?_
  refine lv_iload_n hx hb dX6_has_1 rfl (lv_at hl 1 rfl) ?_
  refine lv_ishr hx hb dX6_has_2 ?_
  refine lv_iconst (v := (1 : Int32)) hx hb dX6_has_3 (by decide) ?_
  refine lv_iand hx hb dX6_has_4 ?_
  refine lv_if_eq (tgt := 12) hx hb dX6_has_5 (by decide) (fun c1 => ?_) (fun c1 => ?_)
  · refine lv_iconst (v := (0 : Int32)) hx hb dX6_has_12 (by decide) ?_
    exact W.zret (v := (0 : Int32)) hx hb hr rfl (fun t ht hW => ⟨_, rfl, by unfold f_X6_has; rw [if_pos c1] <;> rfl, ht⟩) (fun q hq => by cases hq) dX6_has_13
  · refine lv_iconst (v := (1 : Int32)) hx hb dX6_has_8 (by decide) ?_
    refine lv_goto (tgt := 13) hx hb dX6_has_9 (by decide) ?_
    exact W.zret (v := (1 : Int32)) hx hb hr rfl (fun t ht hW => ⟨_, rfl, by unfold f_X6_has; rw [if_neg c1] <;> rfl, ht⟩) (fun q hq => by cases hq) dX6_has_13
def f_X3_isContract (os_size : Int32) (c : Int32) : Int32 :=
  if c < (0 : Int32) then (0 : Int32) else (if os_size ≤ c then (0 : Int32) else (1 : Int32))
set_option maxHeartbeats 4000000 in
set_option maxRecDepth 100000 in
theorem c_X3_isContract (l : Launch) (D : va_G) (cy : Nat → ClassId) (os : Nat → Nat) (os_kind : Nat → Int32) (os_limit : Nat → Int32) (os_retention : Nat → Int32) (os_quota : Nat → Int32) (os_refers : Nat → Int32) (os_size : Int32) (os_lossNow : Int32) (c : Int32) : RoI l D cy yX3_isContract (.code yX3_isContract cX3_isContract 2 (some .boolean)) 0 (wX3 cy os os_kind os_limit os_retention os_quota os_refers os_size os_lossNow) [.ref (os 0), .int c] (f_X3_isContract os_size c) := by
  refine Met.ofW (cc := cX3_isContract) (maxL := 2) (ret := (some .boolean)) (by decide) rfl ?_
  intro pP eE s0 mM args below meth cC s₁ B hml hv
  obtain ⟨rfl, hP, hKX⟩ := hv
  have hx := B.exec
  have hb := B.bytes
  have hr := B.returns
  have hG := gw_hts (atoms_spec (ws := _) B.pre)
  have hown : s0.vm.findClass RX3 = some mM.cls := findClass_of_methodNamed B.named
  have hlocks := B.notSynchronized
  have hl := lv_entry ([.ref (os 0), .int c]) (n := 2) (Nat.le_of_ble_eq_true rfl)
  rw [lg_entry_eq]
  generalize (lg_sl ([.ref (os 0), .int c]) ++ List.replicate (2 - (lg_sl ([.ref (os 0), .int c])).length) Slot.unset).toArray = ls at hl ⊢
  have hl : lv_has ls 2 [(0, .ref (os 0)), (1, .int c)] := hl
  refine lv_iload_n hx hb dX3_isContract_0 rfl (lv_at hl 1 rfl) ?_
  refine lv_if_lt (tgt := 16) hx hb dX3_isContract_1 (by decide) (fun c1 => ?_) (fun c1 => ?_)
  · refine lv_iconst (v := (0 : Int32)) hx hb dX3_isContract_16 (by decide) ?_
    exact W.zret (v := (0 : Int32)) hx hb hr rfl (fun t ht hW => ⟨_, rfl, by unfold f_X3_isContract; rw [if_pos c1] <;> rfl, ht⟩) (fun q hq => by cases hq) dX3_isContract_17
  · refine lv_iload_n hx hb dX3_isContract_4 rfl (lv_at hl 1 rfl) ?_
    refine lv_aload_n hx hb dX3_isContract_5 rfl (lv_at hl 0 rfl) ?_
    refine gf_X3_27 hx hb hG hown hKX hP 0 rfl rfl dX3_isContract_6 ?_
    refine lv_icmp_ge (tgt := 16) hx hb dX3_isContract_9 (by decide) (fun c2 => ?_) (fun c2 => ?_)
    · refine lv_iconst (v := (0 : Int32)) hx hb dX3_isContract_16 (by decide) ?_
      exact W.zret (v := (0 : Int32)) hx hb hr rfl (fun t ht hW => ⟨_, rfl, by unfold f_X3_isContract; rw [if_neg c1, if_pos c2] <;> rfl, ht⟩) (fun q hq => by cases hq) dX3_isContract_17
    · refine lv_iconst (v := (1 : Int32)) hx hb dX3_isContract_12 (by decide) ?_
      refine lv_goto (tgt := 17) hx hb dX3_isContract_13 (by decide) ?_
      exact W.zret (v := (1 : Int32)) hx hb hr rfl (fun t ht hW => ⟨_, rfl, by unfold f_X3_isContract; rw [if_neg c1, if_neg c2] <;> rfl, ht⟩) (fun q hq => by cases hq) dX3_isContract_17
def bd_X0_outside_4 (os_refers : Nat → Int32) (ring : Int32) (k4 : Nat) (z4 : Int32) : Int32 :=
  if (f_X6_has ring (nI k4)) = (0 : Int32) then z4 else (z4 ||| (os_refers k4))
def f_X0_outside (os_refers : Nat → Int32) (ring : Int32) (n : Nat) : Int32 :=
  ((itr (bd_X0_outside_4 os_refers ring) n (0 : Int32)) &&& (ring ^^^ (-1 : Int32)))
set_option maxHeartbeats 4000000 in
set_option maxRecDepth 100000 in
theorem c_X0_outside (l : Launch) (D : va_G) (cy : Nat → ClassId) (ol : Nat → Nat) (os : Nat → Nat) (ol_reach : Nat → Int32) (ol_ringWith : Nat → Int32) (ol_rungOf : Nat → Int32) (ol_ringOf : Nat → Int32) (ol_most : Nat → Int32) (ol_paid : Nat → Int32) (ol_back : Nat → Int32) (ol_ringFirst : Nat → Int32) (ol_ringBits : Nat → Int32) (ol_ringRung : Nat → Int32) (ol_ringLeft : Nat → Int32) (ol_ringPaid : Nat → Int32) (ol_rings : Int32) (ol_paidInAll : Int32) (ol_over : Int32) (os_kind : Nat → Int32) (os_limit : Nat → Int32) (os_retention : Nat → Int32) (os_quota : Nat → Int32) (os_refers : Nat → Int32) (os_lossNow : Int32) (ring : Int32) (n : Nat) (hn : n ≤ 6) : RoI l D cy yX0_outside (.code yX0_outside cX0_outside 4 (some .int)) 1 ((wX0 cy ol (os 0) ol_reach ol_ringWith ol_rungOf ol_ringOf ol_most ol_paid ol_back ol_ringFirst ol_ringBits ol_ringRung ol_ringLeft ol_ringPaid ol_rings ol_paidInAll ol_over) ++ (wX3 cy os os_kind os_limit os_retention os_quota os_refers (nI n) os_lossNow)) [.ref (ol 0), .int ring] (f_X0_outside os_refers ring n) := by
  refine Met.ofW (cc := cX0_outside) (maxL := 4) (ret := (some .int)) (by decide) rfl ?_
  intro pP eE s0 mM args below meth cC s₁ B hml hv
  obtain ⟨rfl, hP, hKX⟩ := hv
  have hx := B.exec
  have hb := B.bytes
  have hr := B.returns
  have hG := gw_hts (atoms_spec (ws := _) B.pre)
  have hown : s0.vm.findClass RX0 = some mM.cls := findClass_of_methodNamed B.named
  have hlocks := B.notSynchronized
  have hl := lv_entry ([.ref (ol 0), .int ring]) (n := 4) (Nat.le_of_ble_eq_true rfl)
  rw [lg_entry_eq]
  generalize (lg_sl ([.ref (ol 0), .int ring]) ++ List.replicate (4 - (lg_sl ([.ref (ol 0), .int ring])).length) Slot.unset).toArray = ls at hl ⊢
  have hl : lv_has ls 4 [(0, .ref (ol 0)), (1, .int ring)] := hl
  refine lv_iconst (v := (0 : Int32)) hx hb dX0_outside_0 (by decide) ?_
  refine lv_istore_n (lv' := [(2, .int (0 : Int32)), (0, .ref (ol 0)), (1, .int ring)]) hx hb dX0_outside_1 rfl hl (by decide) rfl (fun ls hl => ?_)
  refine lv_iconst (v := (0 : Int32)) hx hb dX0_outside_2 (by decide) ?_
  refine lv_istore_n (lv' := [(3, .int (0 : Int32)), (2, .int (0 : Int32)), (0, .ref (ol 0)), (1, .int ring)]) hx hb dX0_outside_3 rfl hl (by decide) rfl (fun ls hl => ?_)
  refine loopR (bd_X0_outside_4 os_refers ring) (0 : Int32) n (fun k4 z4 => [(3, .int (nI k4)), (2, .int z4), (0, .ref (ol 0)), (1, .int ring)]) (lv_sub hl [0, 1, 2, 3] rfl) (fun k4 z4 ls hk4 hz4 hl ih4 => ?_)
  refine lv_iload_n hx hb dX0_outside_4 rfl (lv_at hl 0 rfl) ?_
  refine lv_aload_n hx hb dX0_outside_5 rfl (lv_at hl 2 rfl) ?_
  refine gf_X0_9 hx hb hG hown hKX hP 0 rfl rfl dX0_outside_6 ?_
  refine gf_X0_77 hx hb hG hown hKX hP 13 rfl rfl dX0_outside_9 ?_
  refine lv_icmp_ge (tgt := 41) hx hb dX0_outside_12 (by decide) (fun c1 => ?_) (fun c1 => ?_)
  · have e_k4 : n = k4 := Nat.le_antisymm ((nI_leI (a := n) (b := k4) (by omega) (by omega)).mp c1) hk4
    subst e_k4
    refine lv_iload_n hx hb dX0_outside_41 rfl (lv_at hl 1 rfl) ?_
    refine lv_iload_n hx hb dX0_outside_42 rfl (lv_at hl 3 rfl) ?_
    refine lv_iconst (v := (-1 : Int32)) hx hb dX0_outside_43 (by decide) ?_
    refine lv_ixor hx hb dX0_outside_44 ?_
    refine lv_iand hx hb dX0_outside_45 ?_
    exact W.iret (v := (z4 &&& (ring ^^^ (-1 : Int32)))) hx hb hr (fun t ht hW => ⟨_, rfl, by subst hz4; unfold f_X0_outside; rfl, ht⟩) (fun q hq => by cases hq) dX0_outside_46
  · have hlt4 : k4 < n := Nat.lt_of_not_le (fun q => c1 ((nI_leI (a := n) (b := k4) (by omega) (by omega)).mpr q))
    refine lv_iload_n hx hb dX0_outside_15 rfl (lv_at hl 3 rfl) ?_
    refine lv_iload_n hx hb dX0_outside_16 rfl (lv_at hl 0 rfl) ?_
    refine cRoN mw8_18 mw1_2 mw8_19 hd_X6_has hKX.2.1 hx hb hml hown hG hKX (c_X6_has l D cy ring (nI k4)) ⟨Nat.le_of_ble_eq_true rfl, Nat.le_of_ble_eq_true rfl⟩ ⟨Nat.zero_le _, Nat.zero_le _⟩ (hP.sub [] rfl) rfl hl.1 rfl (Nat.le_of_ble_eq_true rfl) dX0_outside_17 ?_
    refine lv_if_eq (tgt := 35) hx hb dX0_outside_20 (by decide) (fun c2 => ?_) (fun c2 => ?_)
    · refine lv_iinc (v := nI (k4 + 1)) (lv' := [(3, .int (nI (k4 + 1))), (2, .int z4), (0, .ref (ol 0)), (1, .int ring)]) hx hb dX0_outside_35 hl (k := 0) rfl (nI_1 _) (by decide) rfl (fun ls hl => ?_)
      refine lv_goto (tgt := 4) hx hb dX0_outside_38 (by decide) ?_
      exact ih4 z4 _ hlt4 (by unfold bd_X0_outside_4; rw [if_pos c2] <;> rfl) (lv_sub hl [0, 1, 2, 3] rfl)
    · refine lv_iload_n hx hb dX0_outside_23 rfl (lv_at hl 1 rfl) ?_
      refine lv_aload_n hx hb dX0_outside_24 rfl (lv_at hl 2 rfl) ?_
      refine gf_X0_9 hx hb hG hown hKX hP 0 rfl rfl dX0_outside_25 ?_
      refine gf_X0_80 hx hb hG hown hKX hP 13 rfl rfl dX0_outside_28 ?_
      refine lv_iload_n hx hb dX0_outside_31 rfl (lv_at hl 0 rfl) ?_
      refine iald_n hx hb hKX hP 18 rfl rfl (by omega) (by decide) dX0_outside_32 ?_
      refine lv_ior hx hb dX0_outside_33 ?_
      refine lv_istore_n (lv' := [(2, .int (z4 ||| (os_refers k4))), (3, .int (nI k4)), (0, .ref (ol 0)), (1, .int ring)]) hx hb dX0_outside_34 rfl hl (by decide) rfl (fun ls hl => ?_)
      refine lv_iinc (v := nI (k4 + 1)) (lv' := [(3, .int (nI (k4 + 1))), (2, .int (z4 ||| (os_refers k4))), (0, .ref (ol 0)), (1, .int ring)]) hx hb dX0_outside_35 hl (k := 1) rfl (nI_1 _) (by decide) rfl (fun ls hl => ?_)
      refine lv_goto (tgt := 4) hx hb dX0_outside_38 (by decide) ?_
      exact ih4 (z4 ||| (os_refers k4)) _ hlt4 (by unfold bd_X0_outside_4; rw [if_neg c2] <;> rfl) (lv_sub hl [0, 1, 2, 3] rfl)
def bd_X0_findReach_49 (k36 : Nat) (k49 : Nat) (z49 : (Nat → Int32)) : (Nat → Int32) :=
  if (f_X6_has (z49 k49) (nI k36)) = (0 : Int32) then z49 else (upd z49 k49 ((z49 k49) ||| (z49 k36)))
def bd_X0_findReach_36 (n : Nat) (k36 : Nat) (z36 : (Nat → Int32)) : (Nat → Int32) :=
  (itr (bd_X0_findReach_49 k36) n z36)
def bd_X0_findReach_2 (os_refers : Nat → Int32) (k2 : Nat) (z2 : (Nat → Int32)) : (Nat → Int32) :=
  upd z2 k2 (os_refers k2)
def f_X0_findReach (ol_reach : Nat → Int32) (os_refers : Nat → Int32) (n : Nat) : (Nat → Int32) :=
  (itr (bd_X0_findReach_36 n) n (itr (bd_X0_findReach_2 os_refers) n ol_reach))
set_option maxHeartbeats 4000000 in
set_option maxRecDepth 100000 in
theorem c_X0_findReach (l : Launch) (D : va_G) (cy : Nat → ClassId) (ol : Nat → Nat) (os : Nat → Nat) (ol_reach : Nat → Int32) (ol_ringWith : Nat → Int32) (ol_rungOf : Nat → Int32) (ol_ringOf : Nat → Int32) (ol_most : Nat → Int32) (ol_paid : Nat → Int32) (ol_back : Nat → Int32) (ol_ringFirst : Nat → Int32) (ol_ringBits : Nat → Int32) (ol_ringRung : Nat → Int32) (ol_ringLeft : Nat → Int32) (ol_ringPaid : Nat → Int32) (ol_rings : Int32) (ol_paidInAll : Int32) (ol_over : Int32) (os_kind : Nat → Int32) (os_limit : Nat → Int32) (os_retention : Nat → Int32) (os_quota : Nat → Int32) (os_refers : Nat → Int32) (os_lossNow : Int32) (n : Nat) (hn : n ≤ 6) : RwV (S := (Nat → Int32)) l D cy yX0_findReach (.code yX0_findReach cX0_findReach 3 none) 1 ((wX0 cy ol (os 0) ol_reach ol_ringWith ol_rungOf ol_ringOf ol_most ol_paid ol_back ol_ringFirst ol_ringBits ol_ringRung ol_ringLeft ol_ringPaid ol_rings ol_paidInAll ol_over) ++ (wX3 cy os os_kind os_limit os_retention os_quota os_refers (nI n) os_lossNow)) [.ref (ol 0)] (fun u => u = f_X0_findReach ol_reach os_refers n) (fun u => (wX0 cy ol (os 0) u ol_ringWith ol_rungOf ol_ringOf ol_most ol_paid ol_back ol_ringFirst ol_ringBits ol_ringRung ol_ringLeft ol_ringPaid ol_rings ol_paidInAll ol_over) ++ (wX3 cy os os_kind os_limit os_retention os_quota os_refers (nI n) os_lossNow)) := by
  intro sz
  refine Met.ofW (cc := cX0_findReach) (maxL := 3) (ret := none) (by decide) rfl ?_
  intro pP eE s0 mM args below meth cC s₁ B hml hv
  obtain ⟨rfl, hsz, hP, hKX, hD0⟩ := hv
  have hx := B.exec
  have hb := B.bytes
  have hr := B.returns
  have hG := gw_hts (atoms_spec (ws := _) B.pre)
  have hown : s0.vm.findClass RX0 = some mM.cls := findClass_of_methodNamed B.named
  have hlocks := B.notSynchronized
  subst hsz
  have hD := hD0.self (sz := s0.heap.size)
  generalize hAe : va_A ((wX0 cy ol (os 0) ol_reach ol_ringWith ol_rungOf ol_ringOf ol_most ol_paid ol_back ol_ringFirst ol_ringBits ol_ringRung ol_ringLeft ol_ringPaid ol_rings ol_paidInAll ol_over) ++ (wX3 cy os os_kind os_limit os_retention os_quota os_refers (nI n) os_lossNow)) s0.heap.size = A at hD ⊢
  have hA : ∀ q : Nat, s0.heap.size ≤ q → A q := fun q h => by rw [← hAe]; exact Or.inr h
  have hS : va_S A s0.heap s0.heap [] := va_S.rf
  have hl := lv_entry ([.ref (ol 0)]) (n := 3) (Nat.le_of_ble_eq_true rfl)
  rw [lg_entry_eq]
  generalize (lg_sl ([.ref (ol 0)]) ++ List.replicate (3 - (lg_sl ([.ref (ol 0)])).length) Slot.unset).toArray = ls at hl ⊢
  have hl : lv_has ls 3 [(0, .ref (ol 0))] := hl
  refine lv_iconst (v := (0 : Int32)) hx hb dX0_findReach_0 (by decide) ?_
  refine lv_istore_n (lv' := [(1, .int (0 : Int32)), (0, .ref (ol 0))]) hx hb dX0_findReach_1 rfl hl (by decide) rfl (fun ls hl => ?_)
  refine loopW (bd_X0_findReach_2 os_refers) ol_reach n (fun k2 z2 => [(1, .int (nI k2)), (0, .ref (ol 0))]) (fun k2 z2 => (wX0 cy ol (os 0) z2 ol_ringWith ol_rungOf ol_ringOf ol_most ol_paid ol_back ol_ringFirst ol_ringBits ol_ringRung ol_ringLeft ol_ringPaid ol_rings ol_paidInAll ol_over) ++ (wX3 cy os os_kind os_limit os_retention os_quota os_refers (nI n) os_lossNow)) hP hD hS (lv_sub hl [0, 1] rfl) (fun k2 z2 H locs ls hk2 hz2 hP hD hS hl ih2 => ?_)
  refine lv_iload_n hx hb dX0_findReach_2 rfl (lv_at hl 0 rfl) ?_
  refine lv_aload_n hx hb dX0_findReach_3 rfl (lv_at hl 1 rfl) ?_
  refine gf_X0_9 hx hb hG hown hKX hP 0 rfl rfl dX0_findReach_4 ?_
  refine gf_X0_77 hx hb hG hown hKX hP 13 rfl rfl dX0_findReach_7 ?_
  refine lv_icmp_ge (tgt := 34) hx hb dX0_findReach_10 (by decide) (fun c1 => ?_) (fun c1 => ?_)
  · have e_k2 : n = k2 := Nat.le_antisymm ((nI_leI (a := n) (b := k2) (by omega) (by omega)).mp c1) hk2
    subst e_k2
    refine lv_iconst (v := (0 : Int32)) hx hb dX0_findReach_34 (by decide) ?_
    refine lv_istore_n (lv' := [(1, .int (0 : Int32)), (0, .ref (ol 0))]) hx hb dX0_findReach_35 rfl hl (by decide) rfl (fun ls hl => ?_)
    refine loopW (bd_X0_findReach_36 n) z2 n (fun k36 z36 => [(1, .int (nI k36)), (0, .ref (ol 0))]) (fun k36 z36 => (wX0 cy ol (os 0) z36 ol_ringWith ol_rungOf ol_ringOf ol_most ol_paid ol_back ol_ringFirst ol_ringBits ol_ringRung ol_ringLeft ol_ringPaid ol_rings ol_paidInAll ol_over) ++ (wX3 cy os os_kind os_limit os_retention os_quota os_refers (nI n) os_lossNow)) hP hD hS (lv_sub hl [0, 1] rfl) (fun k36 z36 H locs ls hk36 hz36 hP hD hS hl ih36 => ?_)
    refine lv_iload_n hx hb dX0_findReach_36 rfl (lv_at hl 0 rfl) ?_
    refine lv_aload_n hx hb dX0_findReach_37 rfl (lv_at hl 1 rfl) ?_
    refine gf_X0_9 hx hb hG hown hKX hP 0 rfl rfl dX0_findReach_38 ?_
    refine gf_X0_77 hx hb hG hown hKX hP 13 rfl rfl dX0_findReach_41 ?_
    refine lv_icmp_ge (tgt := 100) hx hb dX0_findReach_44 (by decide) (fun c2 => ?_) (fun c2 => ?_)
    · have e_k36 : n = k36 := Nat.le_antisymm ((nI_leI (a := n) (b := k36) (by omega) (by omega)).mp c2) hk36
      subst e_k36
      exact W.vret hx hb hr (fun t ht hW => ⟨⟨z36, rfl, by subst hz36; subst hz2; unfold f_X0_findReach; rfl, by rw [ht]; exact hP, hD⟩, hS.F ht⟩) hS.2.2 dX0_findReach_100
    · have hlt36 : k36 < n := Nat.lt_of_not_le (fun q => c2 ((nI_leI (a := n) (b := k36) (by omega) (by omega)).mpr q))
      refine lv_iconst (v := (0 : Int32)) hx hb dX0_findReach_47 (by decide) ?_
      refine lv_istore_n (lv' := [(2, .int (0 : Int32)), (1, .int (nI k36)), (0, .ref (ol 0))]) hx hb dX0_findReach_48 rfl hl (by decide) rfl (fun ls hl => ?_)
      refine loopW (bd_X0_findReach_49 k36) z36 n (fun k49 z49 => [(2, .int (nI k49)), (1, .int (nI k36)), (0, .ref (ol 0))]) (fun k49 z49 => (wX0 cy ol (os 0) z49 ol_ringWith ol_rungOf ol_ringOf ol_most ol_paid ol_back ol_ringFirst ol_ringBits ol_ringRung ol_ringLeft ol_ringPaid ol_rings ol_paidInAll ol_over) ++ (wX3 cy os os_kind os_limit os_retention os_quota os_refers (nI n) os_lossNow)) hP hD hS (lv_sub hl [0, 1, 2] rfl) (fun k49 z49 H locs ls hk49 hz49 hP hD hS hl ih49 => ?_)
      refine lv_iload_n hx hb dX0_findReach_49 rfl (lv_at hl 0 rfl) ?_
      refine lv_aload_n hx hb dX0_findReach_50 rfl (lv_at hl 2 rfl) ?_
      refine gf_X0_9 hx hb hG hown hKX hP 0 rfl rfl dX0_findReach_51 ?_
      refine gf_X0_77 hx hb hG hown hKX hP 13 rfl rfl dX0_findReach_54 ?_
      refine lv_icmp_ge (tgt := 94) hx hb dX0_findReach_57 (by decide) (fun c3 => ?_) (fun c3 => ?_)
      · have e_k49 : n = k49 := Nat.le_antisymm ((nI_leI (a := n) (b := k49) (by omega) (by omega)).mp c3) hk49
        subst e_k49
        refine lv_iinc (v := nI (k36 + 1)) (lv' := [(1, .int (nI (k36 + 1))), (2, .int (nI n)), (0, .ref (ol 0))]) hx hb dX0_findReach_94 hl (k := 1) rfl (nI_1 _) (by decide) rfl (fun ls hl => ?_)
        refine lv_goto (tgt := 36) hx hb dX0_findReach_97 (by decide) ?_
        exact ih36 z49 _ _ _ hlt36 (by subst hz49; subst hz2; unfold bd_X0_findReach_36; rfl) hP hD hS (lv_sub hl [0, 2] rfl)
      · have hlt49 : k49 < n := Nat.lt_of_not_le (fun q => c3 ((nI_leI (a := n) (b := k49) (by omega) (by omega)).mpr q))
        refine lv_aload_n hx hb dX0_findReach_60 rfl (lv_at hl 2 rfl) ?_
        refine gf_X0_15 hx hb hG hown hKX hP 0 rfl rfl dX0_findReach_61 ?_
        refine lv_iload_n hx hb dX0_findReach_64 rfl (lv_at hl 0 rfl) ?_
        refine iald_n hx hb hKX hP 1 rfl rfl (by omega) (by decide) dX0_findReach_65 ?_
        refine lv_iload_n hx hb dX0_findReach_66 rfl (lv_at hl 1 rfl) ?_
        refine cRoN mw8_18 mw1_2 mw8_19 hd_X6_has hKX.2.1 hx hb hml hown hG hKX (c_X6_has l D cy (z49 k49) (nI k36)) ⟨Nat.le_of_ble_eq_true rfl, Nat.le_of_ble_eq_true rfl⟩ ⟨Nat.zero_le _, Nat.zero_le _⟩ (hP.sub [] rfl) rfl hl.1 rfl (Nat.le_of_ble_eq_true rfl) dX0_findReach_67 ?_
        refine lv_if_eq (tgt := 88) hx hb dX0_findReach_70 (by decide) (fun c4 => ?_) (fun c4 => ?_)
        · refine lv_iinc (v := nI (k49 + 1)) (lv' := [(2, .int (nI (k49 + 1))), (1, .int (nI k36)), (0, .ref (ol 0))]) hx hb dX0_findReach_88 hl (k := 0) rfl (nI_1 _) (by decide) rfl (fun ls hl => ?_)
          refine lv_goto (tgt := 49) hx hb dX0_findReach_91 (by decide) ?_
          exact ih49 z49 _ _ _ hlt49 (by subst hz2; unfold bd_X0_findReach_49; rw [if_pos c4] <;> rfl) hP hD hS (lv_sub hl [0, 1, 2] rfl)
        · refine lv_aload_n hx hb dX0_findReach_73 rfl (lv_at hl 2 rfl) ?_
          refine gf_X0_15 hx hb hG hown hKX hP 0 rfl rfl dX0_findReach_74 ?_
          refine lv_iload_n hx hb dX0_findReach_77 rfl (lv_at hl 0 rfl) ?_
          refine lv_dup2_11 hx hb dX0_findReach_78 rfl rfl ?_
          refine iald_n hx hb hKX hP 1 rfl rfl (by omega) (by decide) dX0_findReach_79 ?_
          refine lv_aload_n hx hb dX0_findReach_80 rfl (lv_at hl 2 rfl) ?_
          refine gf_X0_15 hx hb hG hown hKX hP 0 rfl rfl dX0_findReach_81 ?_
          refine lv_iload_n hx hb dX0_findReach_84 rfl (lv_at hl 1 rfl) ?_
          refine iald_n hx hb hKX hP 1 rfl rfl (by omega) (by decide) dX0_findReach_85 ?_
          refine lv_ior hx hb dX0_findReach_86 ?_
          refine iast_n hx hb hKX hP hD hS 1 rfl rfl (by omega) (by decide) dX0_findReach_87 (fun H locs hP hD hS => ?_)
          have hP : va_P D vwCl ((wX0 cy ol (os 0) (upd z49 k49 ((z49 k49) ||| (z49 k36))) ol_ringWith ol_rungOf ol_ringOf ol_most ol_paid ol_back ol_ringFirst ol_ringBits ol_ringRung ol_ringLeft ol_ringPaid ol_rings ol_paidInAll ol_over) ++ (wX3 cy os os_kind os_limit os_retention os_quota os_refers (nI n) os_lossNow)) H := hP
          have hD : va_D A ((wX0 cy ol (os 0) (upd z49 k49 ((z49 k49) ||| (z49 k36))) ol_ringWith ol_rungOf ol_ringOf ol_most ol_paid ol_back ol_ringFirst ol_ringBits ol_ringRung ol_ringLeft ol_ringPaid ol_rings ol_paidInAll ol_over) ++ (wX3 cy os os_kind os_limit os_retention os_quota os_refers (nI n) os_lossNow)) := hD
          refine lv_iinc (v := nI (k49 + 1)) (lv' := [(2, .int (nI (k49 + 1))), (1, .int (nI k36)), (0, .ref (ol 0))]) hx hb dX0_findReach_88 hl (k := 0) rfl (nI_1 _) (by decide) rfl (fun ls hl => ?_)
          refine lv_goto (tgt := 49) hx hb dX0_findReach_91 (by decide) ?_
          exact ih49 (upd z49 k49 ((z49 k49) ||| (z49 k36))) _ _ _ hlt49 (by subst hz2; unfold bd_X0_findReach_49; rw [if_neg c4] <;> rfl) hP hD hS (lv_sub hl [0, 1, 2] rfl)
  · have hlt2 : k2 < n := Nat.lt_of_not_le (fun q => c1 ((nI_leI (a := n) (b := k2) (by omega) (by omega)).mpr q))
    refine lv_aload_n hx hb dX0_findReach_13 rfl (lv_at hl 1 rfl) ?_
    refine gf_X0_15 hx hb hG hown hKX hP 0 rfl rfl dX0_findReach_14 ?_
    refine lv_iload_n hx hb dX0_findReach_17 rfl (lv_at hl 0 rfl) ?_
    refine lv_aload_n hx hb dX0_findReach_18 rfl (lv_at hl 1 rfl) ?_
    refine gf_X0_9 hx hb hG hown hKX hP 0 rfl rfl dX0_findReach_19 ?_
    refine gf_X0_80 hx hb hG hown hKX hP 13 rfl rfl dX0_findReach_22 ?_
    refine lv_iload_n hx hb dX0_findReach_25 rfl (lv_at hl 0 rfl) ?_
    refine iald_n hx hb hKX hP 18 rfl rfl (by omega) (by decide) dX0_findReach_26 ?_
    refine iast_n hx hb hKX hP hD hS 1 rfl rfl (by omega) (by decide) dX0_findReach_27 (fun H locs hP hD hS => ?_)
    have hP : va_P D vwCl ((wX0 cy ol (os 0) (upd z2 k2 (os_refers k2)) ol_ringWith ol_rungOf ol_ringOf ol_most ol_paid ol_back ol_ringFirst ol_ringBits ol_ringRung ol_ringLeft ol_ringPaid ol_rings ol_paidInAll ol_over) ++ (wX3 cy os os_kind os_limit os_retention os_quota os_refers (nI n) os_lossNow)) H := hP
    have hD : va_D A ((wX0 cy ol (os 0) (upd z2 k2 (os_refers k2)) ol_ringWith ol_rungOf ol_ringOf ol_most ol_paid ol_back ol_ringFirst ol_ringBits ol_ringRung ol_ringLeft ol_ringPaid ol_rings ol_paidInAll ol_over) ++ (wX3 cy os os_kind os_limit os_retention os_quota os_refers (nI n) os_lossNow)) := hD
    refine lv_iinc (v := nI (k2 + 1)) (lv' := [(1, .int (nI (k2 + 1))), (0, .ref (ol 0))]) hx hb dX0_findReach_28 hl (k := 0) rfl (nI_1 _) (by decide) rfl (fun ls hl => ?_)
    refine lv_goto (tgt := 2) hx hb dX0_findReach_31 (by decide) ?_
    exact ih2 (upd z2 k2 (os_refers k2)) _ _ _ hlt2 (by unfold bd_X0_findReach_2; rfl) hP hD hS (lv_sub hl [0, 1] rfl)
