def bd_X0_findReach_49 (k36 : Nat) (k49 : Nat) (z49 : (Nat → Int32)) : (Nat → Int32) :=
  if (f_X6_has (z49 k49) (nI k36)) = (0 : Int32) then z49 else (upd z49 k49 ((z49 k49) ||| (z49 k36)))
def bd_X0_findReach_36 (n : Nat) (k36 : Nat) (z36 : (Nat → Int32)) : (Nat → Int32) :=
  (itr (bd_X0_findReach_49 k36) n z36)
def bd_X0_findReach_2 (os_refers : Nat → Int32) (k2 : Nat) (z2 : (Nat → Int32)) : (Nat → Int32) :=
  upd z2 k2 (os_refers k2)
def f_X0_findReach (ol_reach : Nat → Int32) (os_refers : Nat → Int32) (n : Nat) : (Nat → Int32) :=
  (itr (bd_X0_findReach_36 n) n (itr (bd_X0_findReach_2 os_refers) n ol_reach))
set_option maxHeartbeats 4000000 in
set_option maxRecDepth 100000 in
theorem c_X0_findReach (l : Launch) (D : va_G) (cy : Nat → ClassId) (ol : Nat → Nat) (os : Nat → Nat) (ol_reach : Nat → Int32) (ol_ringWith : Nat → Int32) (ol_rungOf : Nat → Int32) (ol_ringOf : Nat → Int32) (ol_most : Nat → Int32) (ol_paid : Nat → Int32) (ol_back : Nat → Int32) (ol_ringFirst : Nat → Int32) (ol_ringBits : Nat → Int32) (ol_ringRung : Nat → Int32) (ol_ringLeft : Nat → Int32) (ol_ringPaid : Nat → Int32) (ol_rings : Int32) (ol_paidInAll : Int32) (ol_over : Int32) (os_kind : Nat → Int32) (os_limit : Nat → Int32) (os_retention : Nat → Int32) (os_quota : Nat → Int32) (os_refers : Nat → Int32) (os_lossNow : Int32) (n : Nat) (hn : n ≤ 6) : RwV (S := (Nat → Int32)) l D cy yX0_findReach (.code yX0_findReach cX0_findReach 3 none) 1 ((wX0 cy ol (os 0) ol_reach ol_ringWith ol_rungOf ol_ringOf ol_most ol_paid ol_back ol_ringFirst ol_ringBits ol_ringRung ol_ringLeft ol_ringPaid ol_rings ol_paidInAll ol_over) ++ (wX3 cy os os_kind os_limit os_retention os_quota os_refers (nI n) os_lossNow)) [.ref (ol 0)] (fun u => u = f_X0_findReach ol_reach os_refers n) (fun u => (wX0 cy ol (os 0) u ol_ringWith ol_rungOf ol_ringOf ol_most ol_paid ol_back ol_ringFirst ol_ringBits ol_ringRung ol_ringLeft ol_ringPaid ol_rings ol_paidInAll ol_over) ++ (wX3 cy os os_kind os_limit os_retention os_quota os_refers (nI n) os_lossNow)) := by
  intro sz
  refine Met.ofW (cc := cX0_findReach) (maxL := 3) (ret := none) (by decide) rfl ?_
  intro pP eE s0 mM args below meth cC s₁ B hml hv
  obtain ⟨rfl, hsz, hP, hKX, hD0⟩ := hv
  have hx := B.exec
  have hb := B.bytes
  have hr := B.returns
  have hG := gw_hts (atoms_spec (ws := _) B.pre)
  have hown : s0.vm.findClass RX0 = some mM.cls := findClass_of_methodNamed B.named
  have hlocks := B.notSynchronized
  subst hsz
  have hD := hD0.self (sz := s0.heap.size)
  generalize hAe : va_A ((wX0 cy ol (os 0) ol_reach ol_ringWith ol_rungOf ol_ringOf ol_most ol_paid ol_back ol_ringFirst ol_ringBits ol_ringRung ol_ringLeft ol_ringPaid ol_rings ol_paidInAll ol_over) ++ (wX3 cy os os_kind os_limit os_retention os_quota os_refers (nI n) os_lossNow)) s0.heap.size = A at hD ⊢
  have hA : ∀ q : Nat, s0.heap.size ≤ q → A q := fun q h => by rw [← hAe]; exact Or.inr h
  have hS : va_S A s0.heap s0.heap [] := va_S.rf
  have hl := lv_entry ([.ref (ol 0)]) (n := 3) (Nat.le_of_ble_eq_true rfl)
  rw [lg_entry_eq]
  generalize (lg_sl ([.ref (ol 0)]) ++ List.replicate (3 - (lg_sl ([.ref (ol 0)])).length) Slot.unset).toArray = ls at hl ⊢
  have hl : lv_has ls 3 [(0, .ref (ol 0))] := hl
  refine lv_iconst (v := (0 : Int32)) hx hb dX0_findReach_0 (by decide) ?_
  refine lv_istore_n (lv' := [(1, .int (0 : Int32)), (0, .ref (ol 0))]) hx hb dX0_findReach_1 rfl hl (by decide) rfl (fun ls hl => ?_)
  refine loopW (bd_X0_findReach_2 os_refers) ol_reach n (fun k2 z2 => [(1, .int (nI k2)), (0, .ref (ol 0))]) (fun k2 z2 => (wX0 cy ol (os 0) z2 ol_ringWith ol_rungOf ol_ringOf ol_most ol_paid ol_back ol_ringFirst ol_ringBits ol_ringRung ol_ringLeft ol_ringPaid ol_rings ol_paidInAll ol_over) ++ (wX3 cy os os_kind os_limit os_retention os_quota os_refers (nI n) os_lossNow)) hP hD hS (lv_sub hl [0, 1] rfl) (fun k2 z2 H locs ls hk2 hz2 hP hD hS hl ih2 => ?_)
  refine lv_iload_n hx hb dX0_findReach_2 rfl (lv_at hl 0 rfl) ?_
  refine lv_aload_n hx hb dX0_findReach_3 rfl (lv_at hl 1 rfl) ?_
  refine gf_X0_9 hx hb hG hown hKX hP 0 rfl rfl dX0_findReach_4 ?_
  refine gf_X0_77 hx hb hG hown hKX hP 13 rfl rfl dX0_findReach_7 ?_
  refine lv_icmp_ge (tgt := 34) hx hb dX0_findReach_10 (by decide) (fun c1 => ?_) (fun c1 => ?_)
  · have e_k2 : n = k2 := Nat.le_antisymm ((le_n (N := n) (k := k2) rfl (by omega) (by omega)).mp c1) hk2
    subst e_k2
    refine lv_iconst (v := (0 : Int32)) hx hb dX0_findReach_34 (by decide) ?_
    refine lv_istore_n (lv' := [(1, .int (0 : Int32)), (0, .ref (ol 0))]) hx hb dX0_findReach_35 rfl hl (by decide) rfl (fun ls hl => ?_)
    refine loopW (bd_X0_findReach_36 n) z2 n (fun k36 z36 => [(1, .int (nI k36)), (0, .ref (ol 0))]) (fun k36 z36 => (wX0 cy ol (os 0) z36 ol_ringWith ol_rungOf ol_ringOf ol_most ol_paid ol_back ol_ringFirst ol_ringBits ol_ringRung ol_ringLeft ol_ringPaid ol_rings ol_paidInAll ol_over) ++ (wX3 cy os os_kind os_limit os_retention os_quota os_refers (nI n) os_lossNow)) hP hD hS (lv_sub hl [0, 1] rfl) (fun k36 z36 H locs ls hk36 hz36 hP hD hS hl ih36 => ?_)
    refine lv_iload_n hx hb dX0_findReach_36 rfl (lv_at hl 0 rfl) ?_
    refine lv_aload_n hx hb dX0_findReach_37 rfl (lv_at hl 1 rfl) ?_
    refine gf_X0_9 hx hb hG hown hKX hP 0 rfl rfl dX0_findReach_38 ?_
    refine gf_X0_77 hx hb hG hown hKX hP 13 rfl rfl dX0_findReach_41 ?_
    refine lv_icmp_ge (tgt := 100) hx hb dX0_findReach_44 (by decide) (fun c2 => ?_) (fun c2 => ?_)
    · have e_k36 : n = k36 := Nat.le_antisymm ((le_n (N := n) (k := k36) rfl (by omega) (by omega)).mp c2) hk36
      subst e_k36
      exact W.vret hx hb hr (fun t ht hW => ⟨⟨z36, rfl, by subst hz36; subst hz2; unfold f_X0_findReach; rfl, by rw [ht]; exact hP, hD⟩, hS.F ht⟩) hS.2.2 dX0_findReach_100
    · have hlt36 : k36 < n := Nat.lt_of_not_le (fun qq_ => c2 ((le_n (N := n) (k := k36) rfl (by omega) (by omega)).mpr qq_))
      refine lv_iconst (v := (0 : Int32)) hx hb dX0_findReach_47 (by decide) ?_
      refine lv_istore_n (lv' := [(2, .int (0 : Int32)), (1, .int (nI k36)), (0, .ref (ol 0))]) hx hb dX0_findReach_48 rfl hl (by decide) rfl (fun ls hl => ?_)
      refine loopW (bd_X0_findReach_49 k36) z36 n (fun k49 z49 => [(2, .int (nI k49)), (1, .int (nI k36)), (0, .ref (ol 0))]) (fun k49 z49 => (wX0 cy ol (os 0) z49 ol_ringWith ol_rungOf ol_ringOf ol_most ol_paid ol_back ol_ringFirst ol_ringBits ol_ringRung ol_ringLeft ol_ringPaid ol_rings ol_paidInAll ol_over) ++ (wX3 cy os os_kind os_limit os_retention os_quota os_refers (nI n) os_lossNow)) hP hD hS (lv_sub hl [0, 1, 2] rfl) (fun k49 z49 H locs ls hk49 hz49 hP hD hS hl ih49 => ?_)
      refine lv_iload_n hx hb dX0_findReach_49 rfl (lv_at hl 0 rfl) ?_
      refine lv_aload_n hx hb dX0_findReach_50 rfl (lv_at hl 2 rfl) ?_
      refine gf_X0_9 hx hb hG hown hKX hP 0 rfl rfl dX0_findReach_51 ?_
      refine gf_X0_77 hx hb hG hown hKX hP 13 rfl rfl dX0_findReach_54 ?_
      refine lv_icmp_ge (tgt := 94) hx hb dX0_findReach_57 (by decide) (fun c3 => ?_) (fun c3 => ?_)
      · have e_k49 : n = k49 := Nat.le_antisymm ((le_n (N := n) (k := k49) rfl (by omega) (by omega)).mp c3) hk49
        subst e_k49
        refine lv_iinc (v := nI (k36 + 1)) (lv' := [(1, .int (nI (k36 + 1))), (2, .int (nI n)), (0, .ref (ol 0))]) hx hb dX0_findReach_94 hl (k := 1) rfl (nI_1 _) (by decide) rfl (fun ls hl => ?_)
        refine lv_goto (tgt := 36) hx hb dX0_findReach_97 (by decide) ?_
        exact ih36 z49 _ _ _ hlt36 (by subst hz49; subst hz2; unfold bd_X0_findReach_36; rfl) hP hD hS (lv_sub hl [0, 2] rfl)
      · have hlt49 : k49 < n := Nat.lt_of_not_le (fun qq_ => c3 ((le_n (N := n) (k := k49) rfl (by omega) (by omega)).mpr qq_))
        refine lv_aload_n hx hb dX0_findReach_60 rfl (lv_at hl 2 rfl) ?_
        refine gf_X0_15 hx hb hG hown hKX hP 0 rfl rfl dX0_findReach_61 ?_
        refine lv_iload_n hx hb dX0_findReach_64 rfl (lv_at hl 0 rfl) ?_
        refine iald_n hx hb hKX hP 1 rfl rfl (by omega) (by decide) dX0_findReach_65 ?_
        refine lv_iload_n hx hb dX0_findReach_66 rfl (lv_at hl 1 rfl) ?_
        refine cRoN mw8_18 mw1_2 mw8_19 hd_X6_has hKX.2.1 hx hb hml hown hG hKX (c_X6_has l D cy (z49 k49) (nI k36)) ⟨Nat.le_of_ble_eq_true rfl, Nat.le_of_ble_eq_true rfl⟩ ⟨Nat.zero_le _, Nat.zero_le _⟩ (hP.sub [] rfl) rfl hl.1 rfl (Nat.le_of_ble_eq_true rfl) dX0_findReach_67 ?_
        refine lv_if_eq (tgt := 88) hx hb dX0_findReach_70 (by decide) (fun c4 => ?_) (fun c4 => ?_)
        · refine lv_iinc (v := nI (k49 + 1)) (lv' := [(2, .int (nI (k49 + 1))), (1, .int (nI k36)), (0, .ref (ol 0))]) hx hb dX0_findReach_88 hl (k := 0) rfl (nI_1 _) (by decide) rfl (fun ls hl => ?_)
          refine lv_goto (tgt := 49) hx hb dX0_findReach_91 (by decide) ?_
          exact ih49 z49 _ _ _ hlt49 (by subst hz2; unfold bd_X0_findReach_49; rw [if_pos c4] <;> rfl) hP hD hS (lv_sub hl [0, 1, 2] rfl)
        · refine lv_aload_n hx hb dX0_findReach_73 rfl (lv_at hl 2 rfl) ?_
          refine gf_X0_15 hx hb hG hown hKX hP 0 rfl rfl dX0_findReach_74 ?_
          refine lv_iload_n hx hb dX0_findReach_77 rfl (lv_at hl 0 rfl) ?_
          refine lv_dup2_11 hx hb dX0_findReach_78 rfl rfl ?_
          refine iald_n hx hb hKX hP 1 rfl rfl (by omega) (by decide) dX0_findReach_79 ?_
          refine lv_aload_n hx hb dX0_findReach_80 rfl (lv_at hl 2 rfl) ?_
          refine gf_X0_15 hx hb hG hown hKX hP 0 rfl rfl dX0_findReach_81 ?_
          refine lv_iload_n hx hb dX0_findReach_84 rfl (lv_at hl 1 rfl) ?_
          refine iald_n hx hb hKX hP 1 rfl rfl (by omega) (by decide) dX0_findReach_85 ?_
          refine lv_ior hx hb dX0_findReach_86 ?_
          refine iast_n hx hb hKX hP hD hS 1 rfl rfl (by omega) (by decide) dX0_findReach_87 (fun H locs hP hD hS => ?_)
          have hP : va_P D vwCl ((wX0 cy ol (os 0) (upd z49 k49 ((z49 k49) ||| (z49 k36))) ol_ringWith ol_rungOf ol_ringOf ol_most ol_paid ol_back ol_ringFirst ol_ringBits ol_ringRung ol_ringLeft ol_ringPaid ol_rings ol_paidInAll ol_over) ++ (wX3 cy os os_kind os_limit os_retention os_quota os_refers (nI n) os_lossNow)) H := hP
          have hD : va_D A ((wX0 cy ol (os 0) (upd z49 k49 ((z49 k49) ||| (z49 k36))) ol_ringWith ol_rungOf ol_ringOf ol_most ol_paid ol_back ol_ringFirst ol_ringBits ol_ringRung ol_ringLeft ol_ringPaid ol_rings ol_paidInAll ol_over) ++ (wX3 cy os os_kind os_limit os_retention os_quota os_refers (nI n) os_lossNow)) := hD
          refine lv_iinc (v := nI (k49 + 1)) (lv' := [(2, .int (nI (k49 + 1))), (1, .int (nI k36)), (0, .ref (ol 0))]) hx hb dX0_findReach_88 hl (k := 0) rfl (nI_1 _) (by decide) rfl (fun ls hl => ?_)
          refine lv_goto (tgt := 49) hx hb dX0_findReach_91 (by decide) ?_
          exact ih49 (upd z49 k49 ((z49 k49) ||| (z49 k36))) _ _ _ hlt49 (by subst hz2; unfold bd_X0_findReach_49; rw [if_neg c4] <;> rfl) hP hD hS (lv_sub hl [0, 1, 2] rfl)
  · have hlt2 : k2 < n := Nat.lt_of_not_le (fun qq_ => c1 ((le_n (N := n) (k := k2) rfl (by omega) (by omega)).mpr qq_))
    refine lv_aload_n hx hb dX0_findReach_13 rfl (lv_at hl 1 rfl) ?_
    refine gf_X0_15 hx hb hG hown hKX hP 0 rfl rfl dX0_findReach_14 ?_
    refine lv_iload_n hx hb dX0_findReach_17 rfl (lv_at hl 0 rfl) ?_
    refine lv_aload_n hx hb dX0_findReach_18 rfl (lv_at hl 1 rfl) ?_
    refine gf_X0_9 hx hb hG hown hKX hP 0 rfl rfl dX0_findReach_19 ?_
    refine gf_X0_80 hx hb hG hown hKX hP 13 rfl rfl dX0_findReach_22 ?_
    refine lv_iload_n hx hb dX0_findReach_25 rfl (lv_at hl 0 rfl) ?_
    refine iald_n hx hb hKX hP 18 rfl rfl (by omega) (by decide) dX0_findReach_26 ?_
    refine iast_n hx hb hKX hP hD hS 1 rfl rfl (by omega) (by decide) dX0_findReach_27 (fun H locs hP hD hS => ?_)
    have hP : va_P D vwCl ((wX0 cy ol (os 0) (upd z2 k2 (os_refers k2)) ol_ringWith ol_rungOf ol_ringOf ol_most ol_paid ol_back ol_ringFirst ol_ringBits ol_ringRung ol_ringLeft ol_ringPaid ol_rings ol_paidInAll ol_over) ++ (wX3 cy os os_kind os_limit os_retention os_quota os_refers (nI n) os_lossNow)) H := hP
    have hD : va_D A ((wX0 cy ol (os 0) (upd z2 k2 (os_refers k2)) ol_ringWith ol_rungOf ol_ringOf ol_most ol_paid ol_back ol_ringFirst ol_ringBits ol_ringRung ol_ringLeft ol_ringPaid ol_rings ol_paidInAll ol_over) ++ (wX3 cy os os_kind os_limit os_retention os_quota os_refers (nI n) os_lossNow)) := hD
    refine lv_iinc (v := nI (k2 + 1)) (lv' := [(1, .int (nI (k2 + 1))), (0, .ref (ol 0))]) hx hb dX0_findReach_28 hl (k := 0) rfl (nI_1 _) (by decide) rfl (fun ls hl => ?_)
    refine lv_goto (tgt := 2) hx hb dX0_findReach_31 (by decide) ?_
    exact ih2 (upd z2 k2 (os_refers k2)) _ _ _ hlt2 (by unfold bd_X0_findReach_2; rfl) hP hD hS (lv_sub hl [0, 1] rfl)
def bd_X0_findRings_19 (ol_reach : Nat → Int32) (k2 : Nat) (k19 : Nat) (z19 : Int32) : Int32 :=
  if (f_X6_has (ol_reach k2) (nI k19)) = (0 : Int32) then z19 else (if (f_X6_has (ol_reach k19) (nI k2)) = (0 : Int32) then z19 else (z19 ||| ((1 : Int32) <<< (nI k19 &&& 31))))
def bd_X0_findRings_2 (ol_reach : Nat → Int32) (n : Nat) (k2 : Nat) (z2 : (Nat → Int32)) : (Nat → Int32) :=
  upd z2 k2 (itr (bd_X0_findRings_19 ol_reach k2) n ((1 : Int32) <<< (nI k2 &&& 31)))
def f_X0_findRings (ol_reach : Nat → Int32) (ol_ringWith : Nat → Int32) (n : Nat) : (Nat → Int32) :=
  (itr (bd_X0_findRings_2 ol_reach n) n ol_ringWith)
set_option maxHeartbeats 4000000 in
set_option maxRecDepth 100000 in
theorem c_X0_findRings (l : Launch) (D : va_G) (cy : Nat → ClassId) (ol : Nat → Nat) (os : Nat → Nat) (ol_reach : Nat → Int32) (ol_ringWith : Nat → Int32) (ol_rungOf : Nat → Int32) (ol_ringOf : Nat → Int32) (ol_most : Nat → Int32) (ol_paid : Nat → Int32) (ol_back : Nat → Int32) (ol_ringFirst : Nat → Int32) (ol_ringBits : Nat → Int32) (ol_ringRung : Nat → Int32) (ol_ringLeft : Nat → Int32) (ol_ringPaid : Nat → Int32) (ol_rings : Int32) (ol_paidInAll : Int32) (ol_over : Int32) (os_kind : Nat → Int32) (os_limit : Nat → Int32) (os_retention : Nat → Int32) (os_quota : Nat → Int32) (os_refers : Nat → Int32) (os_lossNow : Int32) (n : Nat) (hn : n ≤ 6) : RwV (S := (Nat → Int32)) l D cy yX0_findRings (.code yX0_findRings cX0_findRings 4 none) 1 ((wX0 cy ol (os 0) ol_reach ol_ringWith ol_rungOf ol_ringOf ol_most ol_paid ol_back ol_ringFirst ol_ringBits ol_ringRung ol_ringLeft ol_ringPaid ol_rings ol_paidInAll ol_over) ++ (wX3 cy os os_kind os_limit os_retention os_quota os_refers (nI n) os_lossNow)) [.ref (ol 0)] (fun u => u = f_X0_findRings ol_reach ol_ringWith n) (fun u => (wX0 cy ol (os 0) ol_reach u ol_rungOf ol_ringOf ol_most ol_paid ol_back ol_ringFirst ol_ringBits ol_ringRung ol_ringLeft ol_ringPaid ol_rings ol_paidInAll ol_over) ++ (wX3 cy os os_kind os_limit os_retention os_quota os_refers (nI n) os_lossNow)) := by
  intro sz
  refine Met.ofW (cc := cX0_findRings) (maxL := 4) (ret := none) (by decide) rfl ?_
  intro pP eE s0 mM args below meth cC s₁ B hml hv
  obtain ⟨rfl, hsz, hP, hKX, hD0⟩ := hv
  have hx := B.exec
  have hb := B.bytes
  have hr := B.returns
  have hG := gw_hts (atoms_spec (ws := _) B.pre)
  have hown : s0.vm.findClass RX0 = some mM.cls := findClass_of_methodNamed B.named
  have hlocks := B.notSynchronized
  subst hsz
  have hD := hD0.self (sz := s0.heap.size)
  generalize hAe : va_A ((wX0 cy ol (os 0) ol_reach ol_ringWith ol_rungOf ol_ringOf ol_most ol_paid ol_back ol_ringFirst ol_ringBits ol_ringRung ol_ringLeft ol_ringPaid ol_rings ol_paidInAll ol_over) ++ (wX3 cy os os_kind os_limit os_retention os_quota os_refers (nI n) os_lossNow)) s0.heap.size = A at hD ⊢
  have hA : ∀ q : Nat, s0.heap.size ≤ q → A q := fun q h => by rw [← hAe]; exact Or.inr h
  have hS : va_S A s0.heap s0.heap [] := va_S.rf
  have hl := lv_entry ([.ref (ol 0)]) (n := 4) (Nat.le_of_ble_eq_true rfl)
  rw [lg_entry_eq]
  generalize (lg_sl ([.ref (ol 0)]) ++ List.replicate (4 - (lg_sl ([.ref (ol 0)])).length) Slot.unset).toArray = ls at hl ⊢
  have hl : lv_has ls 4 [(0, .ref (ol 0))] := hl
  refine lv_iconst (v := (0 : Int32)) hx hb dX0_findRings_0 (by decide) ?_
  refine lv_istore_n (lv' := [(1, .int (0 : Int32)), (0, .ref (ol 0))]) hx hb dX0_findRings_1 rfl hl (by decide) rfl (fun ls hl => ?_)
  refine loopW (bd_X0_findRings_2 ol_reach n) ol_ringWith n (fun k2 z2 => [(1, .int (nI k2)), (0, .ref (ol 0))]) (fun k2 z2 => (wX0 cy ol (os 0) ol_reach z2 ol_rungOf ol_ringOf ol_most ol_paid ol_back ol_ringFirst ol_ringBits ol_ringRung ol_ringLeft ol_ringPaid ol_rings ol_paidInAll ol_over) ++ (wX3 cy os os_kind os_limit os_retention os_quota os_refers (nI n) os_lossNow)) hP hD hS (lv_sub hl [0, 1] rfl) (fun k2 z2 H locs ls hk2 hz2 hP hD hS hl ih2 => ?_)
  refine lv_iload_n hx hb dX0_findRings_2 rfl (lv_at hl 0 rfl) ?_
  refine lv_aload_n hx hb dX0_findRings_3 rfl (lv_at hl 1 rfl) ?_
  refine gf_X0_9 hx hb hG hown hKX hP 0 rfl rfl dX0_findRings_4 ?_
  refine gf_X0_77 hx hb hG hown hKX hP 13 rfl rfl dX0_findRings_7 ?_
  refine lv_icmp_ge (tgt := 81) hx hb dX0_findRings_10 (by decide) (fun c1 => ?_) (fun c1 => ?_)
  · have e_k2 : n = k2 := Nat.le_antisymm ((le_n (N := n) (k := k2) rfl (by omega) (by omega)).mp c1) hk2
    subst e_k2
    exact W.vret hx hb hr (fun t ht hW => ⟨⟨z2, rfl, by subst hz2; unfold f_X0_findRings; rfl, by rw [ht]; exact hP, hD⟩, hS.F ht⟩) hS.2.2 dX0_findRings_81
  · have hlt2 : k2 < n := Nat.lt_of_not_le (fun qq_ => c1 ((le_n (N := n) (k := k2) rfl (by omega) (by omega)).mpr qq_))
    refine lv_iconst (v := (1 : Int32)) hx hb dX0_findRings_13 (by decide) ?_
    refine lv_iload_n hx hb dX0_findRings_14 rfl (lv_at hl 0 rfl) ?_
    refine lv_ishl hx hb dX0_findRings_15 ?_
    refine lv_istore_n (lv' := [(2, .int ((1 : Int32) <<< (nI k2 &&& 31))), (1, .int (nI k2)), (0, .ref (ol 0))]) hx hb dX0_findRings_16 rfl hl (by decide) rfl (fun ls hl => ?_)
    refine lv_iconst (v := (0 : Int32)) hx hb dX0_findRings_17 (by decide) ?_
    refine lv_istore_n (lv' := [(3, .int (0 : Int32)), (2, .int ((1 : Int32) <<< (nI k2 &&& 31))), (1, .int (nI k2)), (0, .ref (ol 0))]) hx hb dX0_findRings_18 rfl hl (by decide) rfl (fun ls hl => ?_)
    refine loopW (bd_X0_findRings_19 ol_reach k2) ((1 : Int32) <<< (nI k2 &&& 31)) n (fun k19 z19 => [(3, .int (nI k19)), (2, .int z19), (1, .int (nI k2)), (0, .ref (ol 0))]) (fun k19 z19 => (wX0 cy ol (os 0) ol_reach z2 ol_rungOf ol_ringOf ol_most ol_paid ol_back ol_ringFirst ol_ringBits ol_ringRung ol_ringLeft ol_ringPaid ol_rings ol_paidInAll ol_over) ++ (wX3 cy os os_kind os_limit os_retention os_quota os_refers (nI n) os_lossNow)) hP hD hS (lv_sub hl [0, 1, 2, 3] rfl) (fun k19 z19 H locs ls hk19 hz19 hP hD hS hl ih19 => ?_)
    refine lv_iload_n hx hb dX0_findRings_19 rfl (lv_at hl 0 rfl) ?_
    refine lv_aload_n hx hb dX0_findRings_20 rfl (lv_at hl 3 rfl) ?_
    refine gf_X0_9 hx hb hG hown hKX hP 0 rfl rfl dX0_findRings_21 ?_
    refine gf_X0_77 hx hb hG hown hKX hP 13 rfl rfl dX0_findRings_24 ?_
    refine lv_icmp_ge (tgt := 68) hx hb dX0_findRings_27 (by decide) (fun c2 => ?_) (fun c2 => ?_)
    · have e_k19 : n = k19 := Nat.le_antisymm ((le_n (N := n) (k := k19) rfl (by omega) (by omega)).mp c2) hk19
      subst e_k19
      refine lv_aload_n hx hb dX0_findRings_68 rfl (lv_at hl 3 rfl) ?_
      refine gf_X0_19 hx hb hG hown hKX hP 0 rfl rfl dX0_findRings_69 ?_
      refine lv_iload_n hx hb dX0_findRings_72 rfl (lv_at hl 2 rfl) ?_
      refine lv_iload_n hx hb dX0_findRings_73 rfl (lv_at hl 1 rfl) ?_
      refine iast_n hx hb hKX hP hD hS 2 rfl rfl (by omega) (by decide) dX0_findRings_74 (fun H locs hP hD hS => ?_)
      have hP : va_P D vwCl ((wX0 cy ol (os 0) ol_reach (upd z2 k2 z19) ol_rungOf ol_ringOf ol_most ol_paid ol_back ol_ringFirst ol_ringBits ol_ringRung ol_ringLeft ol_ringPaid ol_rings ol_paidInAll ol_over) ++ (wX3 cy os os_kind os_limit os_retention os_quota os_refers (nI n) os_lossNow)) H := hP
      have hD : va_D A ((wX0 cy ol (os 0) ol_reach (upd z2 k2 z19) ol_rungOf ol_ringOf ol_most ol_paid ol_back ol_ringFirst ol_ringBits ol_ringRung ol_ringLeft ol_ringPaid ol_rings ol_paidInAll ol_over) ++ (wX3 cy os os_kind os_limit os_retention os_quota os_refers (nI n) os_lossNow)) := hD
      refine lv_iinc (v := nI (k2 + 1)) (lv' := [(1, .int (nI (k2 + 1))), (3, .int (nI n)), (2, .int z19), (0, .ref (ol 0))]) hx hb dX0_findRings_75 hl (k := 2) rfl (nI_1 _) (by decide) rfl (fun ls hl => ?_)
      refine lv_goto (tgt := 2) hx hb dX0_findRings_78 (by decide) ?_
      exact ih2 (upd z2 k2 z19) _ _ _ hlt2 (by subst hz19; unfold bd_X0_findRings_2; rfl) hP hD hS (lv_sub hl [0, 3] rfl)
    · have hlt19 : k19 < n := Nat.lt_of_not_le (fun qq_ => c2 ((le_n (N := n) (k := k19) rfl (by omega) (by omega)).mpr qq_))
      refine lv_aload_n hx hb dX0_findRings_30 rfl (lv_at hl 3 rfl) ?_
      refine gf_X0_15 hx hb hG hown hKX hP 0 rfl rfl dX0_findRings_31 ?_
      refine lv_iload_n hx hb dX0_findRings_34 rfl (lv_at hl 2 rfl) ?_
      refine iald_n hx hb hKX hP 1 rfl rfl (by omega) (by decide) dX0_findRings_35 ?_
      refine lv_iload_n hx hb dX0_findRings_36 rfl (lv_at hl 0 rfl) ?_
      refine cRoN mw8_18 mw1_2 mw8_19 hd_X6_has hKX.2.1 hx hb hml hown hG hKX (c_X6_has l D cy (ol_reach k2) (nI k19)) ⟨Nat.le_of_ble_eq_true rfl, Nat.le_of_ble_eq_true rfl⟩ ⟨Nat.zero_le _, Nat.zero_le _⟩ (hP.sub [] rfl) rfl hl.1 rfl (Nat.le_of_ble_eq_true rfl) dX0_findRings_37 ?_
      refine lv_if_eq (tgt := 62) hx hb dX0_findRings_40 (by decide) (fun c3 => ?_) (fun c3 => ?_)
      · refine lv_iinc (v := nI (k19 + 1)) (lv' := [(3, .int (nI (k19 + 1))), (2, .int z19), (1, .int (nI k2)), (0, .ref (ol 0))]) hx hb dX0_findRings_62 hl (k := 0) rfl (nI_1 _) (by decide) rfl (fun ls hl => ?_)
        refine lv_goto (tgt := 19) hx hb dX0_findRings_65 (by decide) ?_
        exact ih19 z19 _ _ _ hlt19 (by unfold bd_X0_findRings_19; rw [if_pos c3] <;> rfl) hP hD hS (lv_sub hl [0, 1, 2, 3] rfl)
      · refine lv_aload_n hx hb dX0_findRings_43 rfl (lv_at hl 3 rfl) ?_
        refine gf_X0_15 hx hb hG hown hKX hP 0 rfl rfl dX0_findRings_44 ?_
        refine lv_iload_n hx hb dX0_findRings_47 rfl (lv_at hl 0 rfl) ?_
        refine iald_n hx hb hKX hP 1 rfl rfl (by omega) (by decide) dX0_findRings_48 ?_
        refine lv_iload_n hx hb dX0_findRings_49 rfl (lv_at hl 2 rfl) ?_
        refine cRoN mw8_18 mw1_2 mw8_19 hd_X6_has hKX.2.1 hx hb hml hown hG hKX (c_X6_has l D cy (ol_reach k19) (nI k2)) ⟨Nat.le_of_ble_eq_true rfl, Nat.le_of_ble_eq_true rfl⟩ ⟨Nat.zero_le _, Nat.zero_le _⟩ (hP.sub [] rfl) rfl hl.1 rfl (Nat.le_of_ble_eq_true rfl) dX0_findRings_50 ?_
        refine lv_if_eq (tgt := 62) hx hb dX0_findRings_53 (by decide) (fun c4 => ?_) (fun c4 => ?_)
        · refine lv_iinc (v := nI (k19 + 1)) (lv' := [(3, .int (nI (k19 + 1))), (2, .int z19), (1, .int (nI k2)), (0, .ref (ol 0))]) hx hb dX0_findRings_62 hl (k := 0) rfl (nI_1 _) (by decide) rfl (fun ls hl => ?_)
          refine lv_goto (tgt := 19) hx hb dX0_findRings_65 (by decide) ?_
          exact ih19 z19 _ _ _ hlt19 (by unfold bd_X0_findRings_19; rw [if_neg c3, if_pos c4] <;> rfl) hP hD hS (lv_sub hl [0, 1, 2, 3] rfl)
        · refine lv_iload_n hx hb dX0_findRings_56 rfl (lv_at hl 1 rfl) ?_
          refine lv_iconst (v := (1 : Int32)) hx hb dX0_findRings_57 (by decide) ?_
          refine lv_iload_n hx hb dX0_findRings_58 rfl (lv_at hl 0 rfl) ?_
          refine lv_ishl hx hb dX0_findRings_59 ?_
          refine lv_ior hx hb dX0_findRings_60 ?_
          refine lv_istore_n (lv' := [(2, .int (z19 ||| ((1 : Int32) <<< (nI k19 &&& 31)))), (3, .int (nI k19)), (1, .int (nI k2)), (0, .ref (ol 0))]) hx hb dX0_findRings_61 rfl hl (by decide) rfl (fun ls hl => ?_)
          refine lv_iinc (v := nI (k19 + 1)) (lv' := [(3, .int (nI (k19 + 1))), (2, .int (z19 ||| ((1 : Int32) <<< (nI k19 &&& 31)))), (1, .int (nI k2)), (0, .ref (ol 0))]) hx hb dX0_findRings_62 hl (k := 1) rfl (nI_1 _) (by decide) rfl (fun ls hl => ?_)
          refine lv_goto (tgt := 19) hx hb dX0_findRings_65 (by decide) ?_
          exact ih19 (z19 ||| ((1 : Int32) <<< (nI k19 &&& 31))) _ _ _ hlt19 (by unfold bd_X0_findRings_19; rw [if_neg c3, if_neg c4] <;> rfl) hP hD hS (lv_sub hl [0, 1, 2, 3] rfl)
def bd_X0_outside_4 (os_refers : Nat → Int32) (ring : Int32) (k4 : Nat) (z4 : Int32) : Int32 :=
  if (f_X6_has ring (nI k4)) = (0 : Int32) then z4 else (z4 ||| (os_refers k4))
def f_X0_outside (os_refers : Nat → Int32) (ring : Int32) (n : Nat) : Int32 :=
  ((itr (bd_X0_outside_4 os_refers ring) n (0 : Int32)) &&& (ring ^^^ (-1 : Int32)))
set_option maxHeartbeats 4000000 in
set_option maxRecDepth 100000 in
theorem c_X0_outside (l : Launch) (D : va_G) (cy : Nat → ClassId) (ol : Nat → Nat) (os : Nat → Nat) (ol_reach : Nat → Int32) (ol_ringWith : Nat → Int32) (ol_rungOf : Nat → Int32) (ol_ringOf : Nat → Int32) (ol_most : Nat → Int32) (ol_paid : Nat → Int32) (ol_back : Nat → Int32) (ol_ringFirst : Nat → Int32) (ol_ringBits : Nat → Int32) (ol_ringRung : Nat → Int32) (ol_ringLeft : Nat → Int32) (ol_ringPaid : Nat → Int32) (ol_rings : Int32) (ol_paidInAll : Int32) (ol_over : Int32) (os_kind : Nat → Int32) (os_limit : Nat → Int32) (os_retention : Nat → Int32) (os_quota : Nat → Int32) (os_refers : Nat → Int32) (os_lossNow : Int32) (ring : Int32) (n : Nat) (hn : n ≤ 6) : RoI l D cy yX0_outside (.code yX0_outside cX0_outside 4 (some .int)) 1 ((wX0 cy ol (os 0) ol_reach ol_ringWith ol_rungOf ol_ringOf ol_most ol_paid ol_back ol_ringFirst ol_ringBits ol_ringRung ol_ringLeft ol_ringPaid ol_rings ol_paidInAll ol_over) ++ (wX3 cy os os_kind os_limit os_retention os_quota os_refers (nI n) os_lossNow)) [.ref (ol 0), .int ring] (f_X0_outside os_refers ring n) := by
  refine Met.ofW (cc := cX0_outside) (maxL := 4) (ret := (some .int)) (by decide) rfl ?_
  intro pP eE s0 mM args below meth cC s₁ B hml hv
  obtain ⟨rfl, hP, hKX⟩ := hv
  have hx := B.exec
  have hb := B.bytes
  have hr := B.returns
  have hG := gw_hts (atoms_spec (ws := _) B.pre)
  have hown : s0.vm.findClass RX0 = some mM.cls := findClass_of_methodNamed B.named
  have hlocks := B.notSynchronized
  have hl := lv_entry ([.ref (ol 0), .int ring]) (n := 4) (Nat.le_of_ble_eq_true rfl)
  rw [lg_entry_eq]
  generalize (lg_sl ([.ref (ol 0), .int ring]) ++ List.replicate (4 - (lg_sl ([.ref (ol 0), .int ring])).length) Slot.unset).toArray = ls at hl ⊢
  have hl : lv_has ls 4 [(0, .ref (ol 0)), (1, .int ring)] := hl
  refine lv_iconst (v := (0 : Int32)) hx hb dX0_outside_0 (by decide) ?_
  refine lv_istore_n (lv' := [(2, .int (0 : Int32)), (0, .ref (ol 0)), (1, .int ring)]) hx hb dX0_outside_1 rfl hl (by decide) rfl (fun ls hl => ?_)
  refine lv_iconst (v := (0 : Int32)) hx hb dX0_outside_2 (by decide) ?_
  refine lv_istore_n (lv' := [(3, .int (0 : Int32)), (2, .int (0 : Int32)), (0, .ref (ol 0)), (1, .int ring)]) hx hb dX0_outside_3 rfl hl (by decide) rfl (fun ls hl => ?_)
  refine loopR (bd_X0_outside_4 os_refers ring) (0 : Int32) n (fun k4 z4 => [(3, .int (nI k4)), (2, .int z4), (0, .ref (ol 0)), (1, .int ring)]) (lv_sub hl [0, 1, 2, 3] rfl) (fun k4 z4 ls hk4 hz4 hl ih4 => ?_)
  refine lv_iload_n hx hb dX0_outside_4 rfl (lv_at hl 0 rfl) ?_
  refine lv_aload_n hx hb dX0_outside_5 rfl (lv_at hl 2 rfl) ?_
  refine gf_X0_9 hx hb hG hown hKX hP 0 rfl rfl dX0_outside_6 ?_
  refine gf_X0_77 hx hb hG hown hKX hP 13 rfl rfl dX0_outside_9 ?_
  refine lv_icmp_ge (tgt := 41) hx hb dX0_outside_12 (by decide) (fun c1 => ?_) (fun c1 => ?_)
  · have e_k4 : n = k4 := Nat.le_antisymm ((le_n (N := n) (k := k4) rfl (by omega) (by omega)).mp c1) hk4
    subst e_k4
    refine lv_iload_n hx hb dX0_outside_41 rfl (lv_at hl 1 rfl) ?_
    refine lv_iload_n hx hb dX0_outside_42 rfl (lv_at hl 3 rfl) ?_
    refine lv_iconst (v := (-1 : Int32)) hx hb dX0_outside_43 (by decide) ?_
    refine lv_ixor hx hb dX0_outside_44 ?_
    refine lv_iand hx hb dX0_outside_45 ?_
    exact W.iret (v := (z4 &&& (ring ^^^ (-1 : Int32)))) hx hb hr (fun t ht hW => ⟨_, rfl, by subst hz4; unfold f_X0_outside; rfl, ht⟩) (fun q hq => by cases hq) dX0_outside_46
  · have hlt4 : k4 < n := Nat.lt_of_not_le (fun qq_ => c1 ((le_n (N := n) (k := k4) rfl (by omega) (by omega)).mpr qq_))
    refine lv_iload_n hx hb dX0_outside_15 rfl (lv_at hl 3 rfl) ?_
    refine lv_iload_n hx hb dX0_outside_16 rfl (lv_at hl 0 rfl) ?_
    refine cRoN mw8_18 mw1_2 mw8_19 hd_X6_has hKX.2.1 hx hb hml hown hG hKX (c_X6_has l D cy ring (nI k4)) ⟨Nat.le_of_ble_eq_true rfl, Nat.le_of_ble_eq_true rfl⟩ ⟨Nat.zero_le _, Nat.zero_le _⟩ (hP.sub [] rfl) rfl hl.1 rfl (Nat.le_of_ble_eq_true rfl) dX0_outside_17 ?_
    refine lv_if_eq (tgt := 35) hx hb dX0_outside_20 (by decide) (fun c2 => ?_) (fun c2 => ?_)
    · refine lv_iinc (v := nI (k4 + 1)) (lv' := [(3, .int (nI (k4 + 1))), (2, .int z4), (0, .ref (ol 0)), (1, .int ring)]) hx hb dX0_outside_35 hl (k := 0) rfl (nI_1 _) (by decide) rfl (fun ls hl => ?_)
      refine lv_goto (tgt := 4) hx hb dX0_outside_38 (by decide) ?_
      exact ih4 z4 _ hlt4 (by unfold bd_X0_outside_4; rw [if_pos c2] <;> rfl) (lv_sub hl [0, 1, 2, 3] rfl)
    · refine lv_iload_n hx hb dX0_outside_23 rfl (lv_at hl 1 rfl) ?_
      refine lv_aload_n hx hb dX0_outside_24 rfl (lv_at hl 2 rfl) ?_
      refine gf_X0_9 hx hb hG hown hKX hP 0 rfl rfl dX0_outside_25 ?_
      refine gf_X0_80 hx hb hG hown hKX hP 13 rfl rfl dX0_outside_28 ?_
      refine lv_iload_n hx hb dX0_outside_31 rfl (lv_at hl 0 rfl) ?_
      refine iald_n hx hb hKX hP 18 rfl rfl (by omega) (by decide) dX0_outside_32 ?_
      refine lv_ior hx hb dX0_outside_33 ?_
      refine lv_istore_n (lv' := [(2, .int (z4 ||| (os_refers k4))), (3, .int (nI k4)), (0, .ref (ol 0)), (1, .int ring)]) hx hb dX0_outside_34 rfl hl (by decide) rfl (fun ls hl => ?_)
      refine lv_iinc (v := nI (k4 + 1)) (lv' := [(3, .int (nI (k4 + 1))), (2, .int (z4 ||| (os_refers k4))), (0, .ref (ol 0)), (1, .int ring)]) hx hb dX0_outside_35 hl (k := 1) rfl (nI_1 _) (by decide) rfl (fun ls hl => ?_)
      refine lv_goto (tgt := 4) hx hb dX0_outside_38 (by decide) ?_
      exact ih4 (z4 ||| (os_refers k4)) _ hlt4 (by unfold bd_X0_outside_4; rw [if_neg c2] <;> rfl) (lv_sub hl [0, 1, 2, 3] rfl)
def bd_X0_rungAbove_4 (ol_rungOf : Nat → Int32) (bits : Int32) (k4 : Nat) (z4 : Int32) : Int32 :=
  if (f_X6_has bits (nI k4)) = (0 : Int32) then z4 else (if z4 < ((ol_rungOf k4) + (1 : Int32)) then ((ol_rungOf k4) + (1 : Int32)) else z4)
def f_X0_rungAbove (ol_rungOf : Nat → Int32) (bits : Int32) (n : Nat) : Int32 :=
  (itr (bd_X0_rungAbove_4 ol_rungOf bits) n (0 : Int32))
set_option maxHeartbeats 4000000 in
set_option maxRecDepth 100000 in
theorem c_X0_rungAbove (l : Launch) (D : va_G) (cy : Nat → ClassId) (ol : Nat → Nat) (os : Nat → Nat) (ol_reach : Nat → Int32) (ol_ringWith : Nat → Int32) (ol_rungOf : Nat → Int32) (ol_ringOf : Nat → Int32) (ol_most : Nat → Int32) (ol_paid : Nat → Int32) (ol_back : Nat → Int32) (ol_ringFirst : Nat → Int32) (ol_ringBits : Nat → Int32) (ol_ringRung : Nat → Int32) (ol_ringLeft : Nat → Int32) (ol_ringPaid : Nat → Int32) (ol_rings : Int32) (ol_paidInAll : Int32) (ol_over : Int32) (os_kind : Nat → Int32) (os_limit : Nat → Int32) (os_retention : Nat → Int32) (os_quota : Nat → Int32) (os_refers : Nat → Int32) (os_lossNow : Int32) (bits : Int32) (n : Nat) (hn : n ≤ 6) : RoI l D cy yX0_rungAbove (.code yX0_rungAbove cX0_rungAbove 4 (some .int)) 1 ((wX0 cy ol (os 0) ol_reach ol_ringWith ol_rungOf ol_ringOf ol_most ol_paid ol_back ol_ringFirst ol_ringBits ol_ringRung ol_ringLeft ol_ringPaid ol_rings ol_paidInAll ol_over) ++ (wX3 cy os os_kind os_limit os_retention os_quota os_refers (nI n) os_lossNow)) [.ref (ol 0), .int bits] (f_X0_rungAbove ol_rungOf bits n) := by
  refine Met.ofW (cc := cX0_rungAbove) (maxL := 4) (ret := (some .int)) (by decide) rfl ?_
  intro pP eE s0 mM args below meth cC s₁ B hml hv
  obtain ⟨rfl, hP, hKX⟩ := hv
  have hx := B.exec
  have hb := B.bytes
  have hr := B.returns
  have hG := gw_hts (atoms_spec (ws := _) B.pre)
  have hown : s0.vm.findClass RX0 = some mM.cls := findClass_of_methodNamed B.named
  have hlocks := B.notSynchronized
  have hl := lv_entry ([.ref (ol 0), .int bits]) (n := 4) (Nat.le_of_ble_eq_true rfl)
  rw [lg_entry_eq]
  generalize (lg_sl ([.ref (ol 0), .int bits]) ++ List.replicate (4 - (lg_sl ([.ref (ol 0), .int bits])).length) Slot.unset).toArray = ls at hl ⊢
  have hl : lv_has ls 4 [(0, .ref (ol 0)), (1, .int bits)] := hl
  refine lv_iconst (v := (0 : Int32)) hx hb dX0_rungAbove_0 (by decide) ?_
  refine lv_istore_n (lv' := [(2, .int (0 : Int32)), (0, .ref (ol 0)), (1, .int bits)]) hx hb dX0_rungAbove_1 rfl hl (by decide) rfl (fun ls hl => ?_)
  refine lv_iconst (v := (0 : Int32)) hx hb dX0_rungAbove_2 (by decide) ?_
  refine lv_istore_n (lv' := [(3, .int (0 : Int32)), (2, .int (0 : Int32)), (0, .ref (ol 0)), (1, .int bits)]) hx hb dX0_rungAbove_3 rfl hl (by decide) rfl (fun ls hl => ?_)
  refine loopR (bd_X0_rungAbove_4 ol_rungOf bits) (0 : Int32) n (fun k4 z4 => [(3, .int (nI k4)), (2, .int z4), (0, .ref (ol 0)), (1, .int bits)]) (lv_sub hl [0, 1, 2, 3] rfl) (fun k4 z4 ls hk4 hz4 hl ih4 => ?_)
  refine lv_iload_n hx hb dX0_rungAbove_4 rfl (lv_at hl 0 rfl) ?_
  refine lv_aload_n hx hb dX0_rungAbove_5 rfl (lv_at hl 2 rfl) ?_
  refine gf_X0_9 hx hb hG hown hKX hP 0 rfl rfl dX0_rungAbove_6 ?_
  refine gf_X0_77 hx hb hG hown hKX hP 13 rfl rfl dX0_rungAbove_9 ?_
  refine lv_icmp_ge (tgt := 42) hx hb dX0_rungAbove_12 (by decide) (fun c1 => ?_) (fun c1 => ?_)
  · have e_k4 : n = k4 := Nat.le_antisymm ((le_n (N := n) (k := k4) rfl (by omega) (by omega)).mp c1) hk4
    subst e_k4
    refine lv_iload_n hx hb dX0_rungAbove_42 rfl (lv_at hl 1 rfl) ?_
    exact W.iret (v := z4) hx hb hr (fun t ht hW => ⟨_, rfl, by subst hz4; unfold f_X0_rungAbove; rfl, ht⟩) (fun q hq => by cases hq) dX0_rungAbove_43
  · have hlt4 : k4 < n := Nat.lt_of_not_le (fun qq_ => c1 ((le_n (N := n) (k := k4) rfl (by omega) (by omega)).mpr qq_))
    refine lv_iload_n hx hb dX0_rungAbove_15 rfl (lv_at hl 3 rfl) ?_
    refine lv_iload_n hx hb dX0_rungAbove_16 rfl (lv_at hl 0 rfl) ?_
    refine cRoN mw8_18 mw1_2 mw8_19 hd_X6_has hKX.2.1 hx hb hml hown hG hKX (c_X6_has l D cy bits (nI k4)) ⟨Nat.le_of_ble_eq_true rfl, Nat.le_of_ble_eq_true rfl⟩ ⟨Nat.zero_le _, Nat.zero_le _⟩ (hP.sub [] rfl) rfl hl.1 rfl (Nat.le_of_ble_eq_true rfl) dX0_rungAbove_17 ?_
    refine lv_if_eq (tgt := 36) hx hb dX0_rungAbove_20 (by decide) (fun c2 => ?_) (fun c2 => ?_)
    · refine lv_iinc (v := nI (k4 + 1)) (lv' := [(3, .int (nI (k4 + 1))), (2, .int z4), (0, .ref (ol 0)), (1, .int bits)]) hx hb dX0_rungAbove_36 hl (k := 0) rfl (nI_1 _) (by decide) rfl (fun ls hl => ?_)
      refine lv_goto (tgt := 4) hx hb dX0_rungAbove_39 (by decide) ?_
      exact ih4 z4 _ hlt4 (by unfold bd_X0_rungAbove_4; rw [if_pos c2] <;> rfl) (lv_sub hl [0, 1, 2, 3] rfl)
    · refine lv_iload_n hx hb dX0_rungAbove_23 rfl (lv_at hl 1 rfl) ?_
      refine lv_aload_n hx hb dX0_rungAbove_24 rfl (lv_at hl 2 rfl) ?_
      refine gf_X0_22 hx hb hG hown hKX hP 0 rfl rfl dX0_rungAbove_25 ?_
      refine lv_iload_n hx hb dX0_rungAbove_28 rfl (lv_at hl 0 rfl) ?_
      refine iald_n hx hb hKX hP 3 rfl rfl (by omega) (by decide) dX0_rungAbove_29 ?_
      refine lv_iconst (v := (1 : Int32)) hx hb dX0_rungAbove_30 (by decide) ?_
      refine lv_iadd hx hb dX0_rungAbove_31 ?_
      refine va_mmax hx hb (hml.trans hl.1.symm) hown (hG _ mw11_10) (hG _ mw11_11) (hG _ mw3_17) (hG _ mw11_12) (Nat.le_of_ble_eq_true rfl) (Nat.le_of_ble_eq_true rfl) (Nat.zero_le _) (Nat.zero_le _) dX0_rungAbove_32 ?_
      refine lv_istore_n (lv' := [(2, .int (if z4 < ((ol_rungOf k4) + (1 : Int32)) then ((ol_rungOf k4) + (1 : Int32)) else z4)), (3, .int (nI k4)), (0, .ref (ol 0)), (1, .int bits)]) hx hb dX0_rungAbove_35 rfl hl (by decide) rfl (fun ls hl => ?_)
      refine lv_iinc (v := nI (k4 + 1)) (lv' := [(3, .int (nI (k4 + 1))), (2, .int (if z4 < ((ol_rungOf k4) + (1 : Int32)) then ((ol_rungOf k4) + (1 : Int32)) else z4)), (0, .ref (ol 0)), (1, .int bits)]) hx hb dX0_rungAbove_36 hl (k := 1) rfl (nI_1 _) (by decide) rfl (fun ls hl => ?_)
      refine lv_goto (tgt := 4) hx hb dX0_rungAbove_39 (by decide) ?_
      exact ih4 (if z4 < ((ol_rungOf k4) + (1 : Int32)) then ((ol_rungOf k4) + (1 : Int32)) else z4) _ hlt4 (by unfold bd_X0_rungAbove_4; rw [if_neg c2] <;> rfl) (lv_sub hl [0, 1, 2, 3] rfl)
def bd_X0_findRungs_41 (ol_ringWith : Nat → Int32) (os_refers : Nat → Int32) (n : Nat) (k41 : Nat) (z41 : (Nat → Int32)) : (Nat → Int32) :=
  upd z41 k41 (f_X0_rungAbove z41 (f_X0_outside os_refers (ol_ringWith k41) n) n)
def bd_X0_findRungs_28 (ol_ringWith : Nat → Int32) (os_refers : Nat → Int32) (n : Nat) (k28 : Nat) (z28 : (Nat → Int32)) : (Nat → Int32) :=
  (itr (bd_X0_findRungs_41 ol_ringWith os_refers n) n z28)
def bd_X0_findRungs_2 (k2 : Nat) (z2 : (Nat → Int32)) : (Nat → Int32) :=
  upd z2 k2 (0 : Int32)
def f_X0_findRungs (ol_ringWith : Nat → Int32) (ol_rungOf : Nat → Int32) (os_refers : Nat → Int32) (n : Nat) : (Nat → Int32) :=
  (itr (bd_X0_findRungs_28 ol_ringWith os_refers n) n (itr bd_X0_findRungs_2 n ol_rungOf))
set_option maxHeartbeats 4000000 in
set_option maxRecDepth 100000 in
theorem c_X0_findRungs (l : Launch) (D : va_G) (cy : Nat → ClassId) (ol : Nat → Nat) (os : Nat → Nat) (ol_reach : Nat → Int32) (ol_ringWith : Nat → Int32) (ol_rungOf : Nat → Int32) (ol_ringOf : Nat → Int32) (ol_most : Nat → Int32) (ol_paid : Nat → Int32) (ol_back : Nat → Int32) (ol_ringFirst : Nat → Int32) (ol_ringBits : Nat → Int32) (ol_ringRung : Nat → Int32) (ol_ringLeft : Nat → Int32) (ol_ringPaid : Nat → Int32) (ol_rings : Int32) (ol_paidInAll : Int32) (ol_over : Int32) (os_kind : Nat → Int32) (os_limit : Nat → Int32) (os_retention : Nat → Int32) (os_quota : Nat → Int32) (os_refers : Nat → Int32) (os_lossNow : Int32) (n : Nat) (hn : n ≤ 6) : RwV (S := (Nat → Int32)) l D cy yX0_findRungs (.code yX0_findRungs cX0_findRungs 3 none) 2 ((wX0 cy ol (os 0) ol_reach ol_ringWith ol_rungOf ol_ringOf ol_most ol_paid ol_back ol_ringFirst ol_ringBits ol_ringRung ol_ringLeft ol_ringPaid ol_rings ol_paidInAll ol_over) ++ (wX3 cy os os_kind os_limit os_retention os_quota os_refers (nI n) os_lossNow)) [.ref (ol 0)] (fun u => u = f_X0_findRungs ol_ringWith ol_rungOf os_refers n) (fun u => (wX0 cy ol (os 0) ol_reach ol_ringWith u ol_ringOf ol_most ol_paid ol_back ol_ringFirst ol_ringBits ol_ringRung ol_ringLeft ol_ringPaid ol_rings ol_paidInAll ol_over) ++ (wX3 cy os os_kind os_limit os_retention os_quota os_refers (nI n) os_lossNow)) := by
  intro sz
  refine Met.ofW (cc := cX0_findRungs) (maxL := 3) (ret := none) (by decide) rfl ?_
  intro pP eE s0 mM args below meth cC s₁ B hml hv
  obtain ⟨rfl, hsz, hP, hKX, hD0⟩ := hv
  have hx := B.exec
  have hb := B.bytes
  have hr := B.returns
  have hG := gw_hts (atoms_spec (ws := _) B.pre)
  have hown : s0.vm.findClass RX0 = some mM.cls := findClass_of_methodNamed B.named
  have hlocks := B.notSynchronized
  subst hsz
  have hD := hD0.self (sz := s0.heap.size)
  generalize hAe : va_A ((wX0 cy ol (os 0) ol_reach ol_ringWith ol_rungOf ol_ringOf ol_most ol_paid ol_back ol_ringFirst ol_ringBits ol_ringRung ol_ringLeft ol_ringPaid ol_rings ol_paidInAll ol_over) ++ (wX3 cy os os_kind os_limit os_retention os_quota os_refers (nI n) os_lossNow)) s0.heap.size = A at hD ⊢
  have hA : ∀ q : Nat, s0.heap.size ≤ q → A q := fun q h => by rw [← hAe]; exact Or.inr h
  have hS : va_S A s0.heap s0.heap [] := va_S.rf
  have hl := lv_entry ([.ref (ol 0)]) (n := 3) (Nat.le_of_ble_eq_true rfl)
  rw [lg_entry_eq]
  generalize (lg_sl ([.ref (ol 0)]) ++ List.replicate (3 - (lg_sl ([.ref (ol 0)])).length) Slot.unset).toArray = ls at hl ⊢
  have hl : lv_has ls 3 [(0, .ref (ol 0))] := hl
  refine lv_iconst (v := (0 : Int32)) hx hb dX0_findRungs_0 (by decide) ?_
  refine lv_istore_n (lv' := [(1, .int (0 : Int32)), (0, .ref (ol 0))]) hx hb dX0_findRungs_1 rfl hl (by decide) rfl (fun ls hl => ?_)
  refine loopW bd_X0_findRungs_2 ol_rungOf n (fun k2 z2 => [(1, .int (nI k2)), (0, .ref (ol 0))]) (fun k2 z2 => (wX0 cy ol (os 0) ol_reach ol_ringWith z2 ol_ringOf ol_most ol_paid ol_back ol_ringFirst ol_ringBits ol_ringRung ol_ringLeft ol_ringPaid ol_rings ol_paidInAll ol_over) ++ (wX3 cy os os_kind os_limit os_retention os_quota os_refers (nI n) os_lossNow)) hP hD hS (lv_sub hl [0, 1] rfl) (fun k2 z2 H locs ls hk2 hz2 hP hD hS hl ih2 => ?_)
  refine lv_iload_n hx hb dX0_findRungs_2 rfl (lv_at hl 0 rfl) ?_
  refine lv_aload_n hx hb dX0_findRungs_3 rfl (lv_at hl 1 rfl) ?_
  refine gf_X0_9 hx hb hG hown hKX hP 0 rfl rfl dX0_findRungs_4 ?_
  refine gf_X0_77 hx hb hG hown hKX hP 13 rfl rfl dX0_findRungs_7 ?_
  refine lv_icmp_ge (tgt := 26) hx hb dX0_findRungs_10 (by decide) (fun c1 => ?_) (fun c1 => ?_)
  · have e_k2 : n = k2 := Nat.le_antisymm ((le_n (N := n) (k := k2) rfl (by omega) (by omega)).mp c1) hk2
    subst e_k2
    refine lv_iconst (v := (0 : Int32)) hx hb dX0_findRungs_26 (by decide) ?_
    refine lv_istore_n (lv' := [(1, .int (0 : Int32)), (0, .ref (ol 0))]) hx hb dX0_findRungs_27 rfl hl (by decide) rfl (fun ls hl => ?_)
    refine loopW (bd_X0_findRungs_28 ol_ringWith os_refers n) z2 n (fun k28 z28 => [(1, .int (nI k28)), (0, .ref (ol 0))]) (fun k28 z28 => (wX0 cy ol (os 0) ol_reach ol_ringWith z28 ol_ringOf ol_most ol_paid ol_back ol_ringFirst ol_ringBits ol_ringRung ol_ringLeft ol_ringPaid ol_rings ol_paidInAll ol_over) ++ (wX3 cy os os_kind os_limit os_retention os_quota os_refers (nI n) os_lossNow)) hP hD hS (lv_sub hl [0, 1] rfl) (fun k28 z28 H locs ls hk28 hz28 hP hD hS hl ih28 => ?_)
    refine lv_iload_n hx hb dX0_findRungs_28 rfl (lv_at hl 0 rfl) ?_
    refine lv_aload_n hx hb dX0_findRungs_29 rfl (lv_at hl 1 rfl) ?_
    refine gf_X0_9 hx hb hG hown hKX hP 0 rfl rfl dX0_findRungs_30 ?_
    refine gf_X0_77 hx hb hG hown hKX hP 13 rfl rfl dX0_findRungs_33 ?_
    refine lv_icmp_ge (tgt := 84) hx hb dX0_findRungs_36 (by decide) (fun c2 => ?_) (fun c2 => ?_)
    · have e_k28 : n = k28 := Nat.le_antisymm ((le_n (N := n) (k := k28) rfl (by omega) (by omega)).mp c2) hk28
      subst e_k28
      exact W.vret hx hb hr (fun t ht hW => ⟨⟨z28, rfl, by subst hz28; subst hz2; unfold f_X0_findRungs; rfl, by rw [ht]; exact hP, hD⟩, hS.F ht⟩) hS.2.2 dX0_findRungs_84
    · have hlt28 : k28 < n := Nat.lt_of_not_le (fun qq_ => c2 ((le_n (N := n) (k := k28) rfl (by omega) (by omega)).mpr qq_))
      refine lv_iconst (v := (0 : Int32)) hx hb dX0_findRungs_39 (by decide) ?_
      refine lv_istore_n (lv' := [(2, .int (0 : Int32)), (1, .int (nI k28)), (0, .ref (ol 0))]) hx hb dX0_findRungs_40 rfl hl (by decide) rfl (fun ls hl => ?_)
      refine loopW (bd_X0_findRungs_41 ol_ringWith os_refers n) z28 n (fun k41 z41 => [(2, .int (nI k41)), (1, .int (nI k28)), (0, .ref (ol 0))]) (fun k41 z41 => (wX0 cy ol (os 0) ol_reach ol_ringWith z41 ol_ringOf ol_most ol_paid ol_back ol_ringFirst ol_ringBits ol_ringRung ol_ringLeft ol_ringPaid ol_rings ol_paidInAll ol_over) ++ (wX3 cy os os_kind os_limit os_retention os_quota os_refers (nI n) os_lossNow)) hP hD hS (lv_sub hl [0, 1, 2] rfl) (fun k41 z41 H locs ls hk41 hz41 hP hD hS hl ih41 => ?_)
      refine lv_iload_n hx hb dX0_findRungs_41 rfl (lv_at hl 0 rfl) ?_
      refine lv_aload_n hx hb dX0_findRungs_42 rfl (lv_at hl 2 rfl) ?_
      refine gf_X0_9 hx hb hG hown hKX hP 0 rfl rfl dX0_findRungs_43 ?_
      refine gf_X0_77 hx hb hG hown hKX hP 13 rfl rfl dX0_findRungs_46 ?_
      refine lv_icmp_ge (tgt := 78) hx hb dX0_findRungs_49 (by decide) (fun c3 => ?_) (fun c3 => ?_)
      · have e_k41 : n = k41 := Nat.le_antisymm ((le_n (N := n) (k := k41) rfl (by omega) (by omega)).mp c3) hk41
        subst e_k41
        refine lv_iinc (v := nI (k28 + 1)) (lv' := [(1, .int (nI (k28 + 1))), (2, .int (nI n)), (0, .ref (ol 0))]) hx hb dX0_findRungs_78 hl (k := 1) rfl (nI_1 _) (by decide) rfl (fun ls hl => ?_)
        refine lv_goto (tgt := 28) hx hb dX0_findRungs_81 (by decide) ?_
        exact ih28 z41 _ _ _ hlt28 (by subst hz41; subst hz2; unfold bd_X0_findRungs_28; rfl) hP hD hS (lv_sub hl [0, 2] rfl)
      · have hlt41 : k41 < n := Nat.lt_of_not_le (fun qq_ => c3 ((le_n (N := n) (k := k41) rfl (by omega) (by omega)).mpr qq_))
        refine lv_aload_n hx hb dX0_findRungs_52 rfl (lv_at hl 2 rfl) ?_
        refine gf_X0_22 hx hb hG hown hKX hP 0 rfl rfl dX0_findRungs_53 ?_
        refine lv_iload_n hx hb dX0_findRungs_56 rfl (lv_at hl 0 rfl) ?_
        refine lv_aload_n hx hb dX0_findRungs_57 rfl (lv_at hl 2 rfl) ?_
        refine lv_aload_n hx hb dX0_findRungs_58 rfl (lv_at hl 2 rfl) ?_
        refine lv_aload_n hx hb dX0_findRungs_59 rfl (lv_at hl 2 rfl) ?_
        refine gf_X0_19 hx hb hG hown hKX hP 0 rfl rfl dX0_findRungs_60 ?_
        refine lv_iload_n hx hb dX0_findRungs_63 rfl (lv_at hl 0 rfl) ?_
        refine iald_n hx hb hKX hP 2 rfl rfl (by omega) (by decide) dX0_findRungs_64 ?_
        refine cRoV (q0 := 0) (ci := 0) mw11_2 mw11_3 mw11_4 mw1_21 mw11_5 rfl rfl hd_X0_outside hx hb hml hown hG hKX (c_X0_outside l D cy ol os ol_reach ol_ringWith z41 ol_ringOf ol_most ol_paid ol_back ol_ringFirst ol_ringBits ol_ringRung ol_ringLeft ol_ringPaid ol_rings ol_paidInAll ol_over os_kind os_limit os_retention os_quota os_refers os_lossNow (ol_ringWith k41) n hn) ⟨Nat.le_of_ble_eq_true rfl, Nat.le_of_ble_eq_true rfl⟩ ⟨Nat.zero_le _, Nat.zero_le _⟩ hP rfl rfl hl.1 rfl (Nat.le_of_ble_eq_true rfl) dX0_findRungs_65 ?_
        refine cRoV (q0 := 0) (ci := 0) mw11_6 mw11_7 mw11_8 mw1_21 mw11_9 rfl rfl hd_X0_rungAbove hx hb hml hown hG hKX (c_X0_rungAbove l D cy ol os ol_reach ol_ringWith z41 ol_ringOf ol_most ol_paid ol_back ol_ringFirst ol_ringBits ol_ringRung ol_ringLeft ol_ringPaid ol_rings ol_paidInAll ol_over os_kind os_limit os_retention os_quota os_refers os_lossNow (f_X0_outside os_refers (ol_ringWith k41) n) n hn) ⟨Nat.le_of_ble_eq_true rfl, Nat.le_of_ble_eq_true rfl⟩ ⟨Nat.zero_le _, Nat.zero_le _⟩ hP rfl rfl hl.1 rfl (Nat.le_of_ble_eq_true rfl) dX0_findRungs_68 ?_
        refine iast_n hx hb hKX hP hD hS 3 rfl rfl (by omega) (by decide) dX0_findRungs_71 (fun H locs hP hD hS => ?_)
        have hP : va_P D vwCl ((wX0 cy ol (os 0) ol_reach ol_ringWith (upd z41 k41 (f_X0_rungAbove z41 (f_X0_outside os_refers (ol_ringWith k41) n) n)) ol_ringOf ol_most ol_paid ol_back ol_ringFirst ol_ringBits ol_ringRung ol_ringLeft ol_ringPaid ol_rings ol_paidInAll ol_over) ++ (wX3 cy os os_kind os_limit os_retention os_quota os_refers (nI n) os_lossNow)) H := hP
        have hD : va_D A ((wX0 cy ol (os 0) ol_reach ol_ringWith (upd z41 k41 (f_X0_rungAbove z41 (f_X0_outside os_refers (ol_ringWith k41) n) n)) ol_ringOf ol_most ol_paid ol_back ol_ringFirst ol_ringBits ol_ringRung ol_ringLeft ol_ringPaid ol_rings ol_paidInAll ol_over) ++ (wX3 cy os os_kind os_limit os_retention os_quota os_refers (nI n) os_lossNow)) := hD
        refine lv_iinc (v := nI (k41 + 1)) (lv' := [(2, .int (nI (k41 + 1))), (1, .int (nI k28)), (0, .ref (ol 0))]) hx hb dX0_findRungs_72 hl (k := 0) rfl (nI_1 _) (by decide) rfl (fun ls hl => ?_)
        refine lv_goto (tgt := 41) hx hb dX0_findRungs_75 (by decide) ?_
        exact ih41 (upd z41 k41 (f_X0_rungAbove z41 (f_X0_outside os_refers (ol_ringWith k41) n) n)) _ _ _ hlt41 (by subst hz2; unfold bd_X0_findRungs_41; rfl) hP hD hS (lv_sub hl [0, 1, 2] rfl)
  · have hlt2 : k2 < n := Nat.lt_of_not_le (fun qq_ => c1 ((le_n (N := n) (k := k2) rfl (by omega) (by omega)).mpr qq_))
    refine lv_aload_n hx hb dX0_findRungs_13 rfl (lv_at hl 1 rfl) ?_
    refine gf_X0_22 hx hb hG hown hKX hP 0 rfl rfl dX0_findRungs_14 ?_
    refine lv_iload_n hx hb dX0_findRungs_17 rfl (lv_at hl 0 rfl) ?_
    refine lv_iconst (v := (0 : Int32)) hx hb dX0_findRungs_18 (by decide) ?_
    refine iast_n hx hb hKX hP hD hS 3 rfl rfl (by omega) (by decide) dX0_findRungs_19 (fun H locs hP hD hS => ?_)
    have hP : va_P D vwCl ((wX0 cy ol (os 0) ol_reach ol_ringWith (upd z2 k2 (0 : Int32)) ol_ringOf ol_most ol_paid ol_back ol_ringFirst ol_ringBits ol_ringRung ol_ringLeft ol_ringPaid ol_rings ol_paidInAll ol_over) ++ (wX3 cy os os_kind os_limit os_retention os_quota os_refers (nI n) os_lossNow)) H := hP
    have hD : va_D A ((wX0 cy ol (os 0) ol_reach ol_ringWith (upd z2 k2 (0 : Int32)) ol_ringOf ol_most ol_paid ol_back ol_ringFirst ol_ringBits ol_ringRung ol_ringLeft ol_ringPaid ol_rings ol_paidInAll ol_over) ++ (wX3 cy os os_kind os_limit os_retention os_quota os_refers (nI n) os_lossNow)) := hD
    refine lv_iinc (v := nI (k2 + 1)) (lv' := [(1, .int (nI (k2 + 1))), (0, .ref (ol 0))]) hx hb dX0_findRungs_20 hl (k := 0) rfl (nI_1 _) (by decide) rfl (fun ls hl => ?_)
    refine lv_goto (tgt := 2) hx hb dX0_findRungs_23 (by decide) ?_
    exact ih2 (upd z2 k2 (0 : Int32)) _ _ _ hlt2 (by unfold bd_X0_findRungs_2; rfl) hP hD hS (lv_sub hl [0, 1] rfl)
def bd_X0_orderRings_144 (k134 : Nat) (z7 : Nat × (Nat → Int32) × (Nat → Int32) × (Nat → Int32)) (k144 : Nat) (z144 : (Nat → Int32)) : (Nat → Int32) :=
  if (f_X6_has (z7.2.2.1 k134) (nI k144)) = (0 : Int32) then z144 else (upd z144 k144 (nI k134))
def bd_X0_orderRings_134 (n : Nat) (z7 : Nat × (Nat → Int32) × (Nat → Int32) × (Nat → Int32)) (k134 : Nat) (z134 : (Nat → Int32)) : (Nat → Int32) :=
  (itr (bd_X0_orderRings_144 k134 z7) n z134)
def bd_X0_orderRings_20 (ol_ringWith : Nat → Int32) (ol_rungOf : Nat → Int32) (k7 : Nat) (k20 : Nat) (z20 : Nat × (Nat → Int32) × (Nat → Int32) × (Nat → Int32)) : Nat × (Nat → Int32) × (Nat → Int32) × (Nat → Int32) :=
  if ((ol_ringWith k20) &&& (((1 : Int32) <<< (nI k20 &&& 31)) - (1 : Int32))) = (0 : Int32) then (if (ol_rungOf k20) = nI k7 then (if (6 : Int32) ≤ nI z20.1 then z20 else (z20.1 + 1, upd z20.2.1 z20.1 (nI k20), upd z20.2.2.1 z20.1 (ol_ringWith k20), upd z20.2.2.2 z20.1 (nI k7))) else z20) else z20
def bd_X0_orderRings_7 (ol_ringWith : Nat → Int32) (ol_rungOf : Nat → Int32) (n : Nat) (k7 : Nat) (z7 : Nat × (Nat → Int32) × (Nat → Int32) × (Nat → Int32)) : Nat × (Nat → Int32) × (Nat → Int32) × (Nat → Int32) :=
  (itr (bd_X0_orderRings_20 ol_ringWith ol_rungOf k7) n z7)
def f_X0_orderRings (ol_ringWith : Nat → Int32) (ol_rungOf : Nat → Int32) (ol_ringOf : Nat → Int32) (ol_ringFirst : Nat → Int32) (ol_ringBits : Nat → Int32) (ol_ringRung : Nat → Int32) (n : Nat) : (Nat → Int32) × (Nat → Int32) × (Nat → Int32) × (Nat → Int32) × Nat :=
  ((itr (bd_X0_orderRings_134 n (itr (bd_X0_orderRings_7 ol_ringWith ol_rungOf n) n (0, ol_ringFirst, ol_ringBits, ol_ringRung))) ((itr (bd_X0_orderRings_7 ol_ringWith ol_rungOf n) n (0, ol_ringFirst, ol_ringBits, ol_ringRung)).1) ol_ringOf), (itr (bd_X0_orderRings_7 ol_ringWith ol_rungOf n) n (0, ol_ringFirst, ol_ringBits, ol_ringRung)).2.1, (itr (bd_X0_orderRings_7 ol_ringWith ol_rungOf n) n (0, ol_ringFirst, ol_ringBits, ol_ringRung)).2.2.1, (itr (bd_X0_orderRings_7 ol_ringWith ol_rungOf n) n (0, ol_ringFirst, ol_ringBits, ol_ringRung)).2.2.2, (itr (bd_X0_orderRings_7 ol_ringWith ol_rungOf n) n (0, ol_ringFirst, ol_ringBits, ol_ringRung)).1)
theorem order_in (a b : Nat → Int32) (q : Nat) : ∀ (k : Nat) (z : Nat × (Nat → Int32) × (Nat → Int32) × (Nat → Int32)), z.1 ≤ 6 → (itr (bd_X0_orderRings_20 a b q) k z).1 ≤ 6
  | 0, z, h => h
  | k + 1, z, h => by
    have ih := order_in a b q k z h
    rw [itr_succ]
    generalize itr (bd_X0_orderRings_20 a b q) k z = y at ih ⊢
    unfold bd_X0_orderRings_20
    split
    · split
      · split
        · exact ih
        · rename_i h6
          show y.1 + 1 ≤ 6
          have : ¬ 6 ≤ y.1 := fun q => h6 ((nI_leI (a := 6) (b := y.1) (by omega) (by omega)).mpr q)
          omega
      · exact ih
    · exact ih
theorem order_le (a b : Nat → Int32) (n : Nat) (f g h : Nat → Int32) : ∀ k : Nat, (itr (bd_X0_orderRings_7 a b n) k (0, f, g, h)).1 ≤ 6
  | 0 => Nat.zero_le 6
  | k + 1 => by
    rw [itr_succ]
    exact order_in _ _ _ _ _ (order_le a b n f g h k)

set_option maxHeartbeats 4000000 in
set_option maxRecDepth 100000 in
theorem c_X0_orderRings (l : Launch) (D : va_G) (cy : Nat → ClassId) (ol : Nat → Nat) (os : Nat → Nat) (ol_reach : Nat → Int32) (ol_ringWith : Nat → Int32) (ol_rungOf : Nat → Int32) (ol_ringOf : Nat → Int32) (ol_most : Nat → Int32) (ol_paid : Nat → Int32) (ol_back : Nat → Int32) (ol_ringFirst : Nat → Int32) (ol_ringBits : Nat → Int32) (ol_ringRung : Nat → Int32) (ol_ringLeft : Nat → Int32) (ol_ringPaid : Nat → Int32) (ol_rings : Int32) (ol_paidInAll : Int32) (ol_over : Int32) (os_kind : Nat → Int32) (os_limit : Nat → Int32) (os_retention : Nat → Int32) (os_quota : Nat → Int32) (os_refers : Nat → Int32) (os_lossNow : Int32) (n : Nat) (hn : n ≤ 6) : RwV (S := (Nat → Int32) × (Nat → Int32) × (Nat → Int32) × (Nat → Int32) × Nat) l D cy yX0_orderRings (.code yX0_orderRings cX0_orderRings 4 none) 1 ((wX0 cy ol (os 0) ol_reach ol_ringWith ol_rungOf ol_ringOf ol_most ol_paid ol_back ol_ringFirst ol_ringBits ol_ringRung ol_ringLeft ol_ringPaid ol_rings ol_paidInAll ol_over) ++ (wX3 cy os os_kind os_limit os_retention os_quota os_refers (nI n) os_lossNow)) [.ref (ol 0)] (fun u => u = f_X0_orderRings ol_ringWith ol_rungOf ol_ringOf ol_ringFirst ol_ringBits ol_ringRung n) (fun u => (wX0 cy ol (os 0) ol_reach ol_ringWith ol_rungOf u.1 ol_most ol_paid ol_back u.2.1 u.2.2.1 u.2.2.2.1 ol_ringLeft ol_ringPaid (nI u.2.2.2.2) ol_paidInAll ol_over) ++ (wX3 cy os os_kind os_limit os_retention os_quota os_refers (nI n) os_lossNow)) := by
  intro sz
  refine Met.ofW (cc := cX0_orderRings) (maxL := 4) (ret := none) (by decide) rfl ?_
  intro pP eE s0 mM args below meth cC s₁ B hml hv
  obtain ⟨rfl, hsz, hP, hKX, hD0⟩ := hv
  have hx := B.exec
  have hb := B.bytes
  have hr := B.returns
  have hG := gw_hts (atoms_spec (ws := _) B.pre)
  have hown : s0.vm.findClass RX0 = some mM.cls := findClass_of_methodNamed B.named
  have hlocks := B.notSynchronized
  subst hsz
  have hD := hD0.self (sz := s0.heap.size)
  generalize hAe : va_A ((wX0 cy ol (os 0) ol_reach ol_ringWith ol_rungOf ol_ringOf ol_most ol_paid ol_back ol_ringFirst ol_ringBits ol_ringRung ol_ringLeft ol_ringPaid ol_rings ol_paidInAll ol_over) ++ (wX3 cy os os_kind os_limit os_retention os_quota os_refers (nI n) os_lossNow)) s0.heap.size = A at hD ⊢
  have hA : ∀ q : Nat, s0.heap.size ≤ q → A q := fun q h => by rw [← hAe]; exact Or.inr h
  have hS : va_S A s0.heap s0.heap [] := va_S.rf
  have hl := lv_entry ([.ref (ol 0)]) (n := 4) (Nat.le_of_ble_eq_true rfl)
  rw [lg_entry_eq]
  generalize (lg_sl ([.ref (ol 0)]) ++ List.replicate (4 - (lg_sl ([.ref (ol 0)])).length) Slot.unset).toArray = ls at hl ⊢
  have hl : lv_has ls 4 [(0, .ref (ol 0))] := hl
  refine lv_aload_n hx hb dX0_orderRings_0 rfl (lv_at hl 0 rfl) ?_
  refine lv_iconst (v := (0 : Int32)) hx hb dX0_orderRings_1 (by decide) ?_
  refine pf_X0_100 hx hb hG hown hKX hP hD hS 0 rfl rfl rfl (Nat.le_of_ble_eq_true rfl) dX0_orderRings_2 (wn := (wX0 cy ol (os 0) ol_reach ol_ringWith ol_rungOf ol_ringOf ol_most ol_paid ol_back ol_ringFirst ol_ringBits ol_ringRung ol_ringLeft ol_ringPaid (0 : Int32) ol_paidInAll ol_over) ++ (wX3 cy os os_kind os_limit os_retention os_quota os_refers (nI n) os_lossNow)) rfl (fun H locs hP hD hS => ?_)
  refine lv_iconst (v := (0 : Int32)) hx hb dX0_orderRings_5 (by decide) ?_
  refine lv_istore_n (lv' := [(1, .int (0 : Int32)), (0, .ref (ol 0))]) hx hb dX0_orderRings_6 rfl hl (by decide) rfl (fun ls hl => ?_)
  refine loopW (bd_X0_orderRings_7 ol_ringWith ol_rungOf n) (0, ol_ringFirst, ol_ringBits, ol_ringRung) n (fun k7 z7 => [(1, .int (nI k7)), (0, .ref (ol 0))]) (fun k7 z7 => (wX0 cy ol (os 0) ol_reach ol_ringWith ol_rungOf ol_ringOf ol_most ol_paid ol_back z7.2.1 z7.2.2.1 z7.2.2.2 ol_ringLeft ol_ringPaid (nI z7.1) ol_paidInAll ol_over) ++ (wX3 cy os os_kind os_limit os_retention os_quota os_refers (nI n) os_lossNow)) hP hD hS (lv_sub hl [0, 1] rfl) (fun k7 z7 H locs ls hk7 hz7 hP hD hS hl ih7 => ?_)
  refine lv_iload_n hx hb dX0_orderRings_7 rfl (lv_at hl 0 rfl) ?_
  refine lv_aload_n hx hb dX0_orderRings_8 rfl (lv_at hl 1 rfl) ?_
  refine gf_X0_9 hx hb hG hown hKX hP 0 rfl rfl dX0_orderRings_9 ?_
  refine gf_X0_77 hx hb hG hown hKX hP 13 rfl rfl dX0_orderRings_12 ?_
  refine lv_icmp_ge (tgt := 132) hx hb dX0_orderRings_15 (by decide) (fun c1 => ?_) (fun c1 => ?_)
  · have e_k7 : n = k7 := Nat.le_antisymm ((le_n (N := n) (k := k7) rfl (by omega) (by omega)).mp c1) hk7
    subst e_k7
    have hr7 : z7.1 ≤ 6 := by rw [hz7]; exact order_le _ _ _ _ _ _ _
    refine lv_iconst (v := (0 : Int32)) hx hb dX0_orderRings_132 (by decide) ?_
    refine lv_istore_n (lv' := [(1, .int (0 : Int32)), (0, .ref (ol 0))]) hx hb dX0_orderRings_133 rfl hl (by decide) rfl (fun ls hl => ?_)
    refine loopW (bd_X0_orderRings_134 n z7) ol_ringOf z7.1 (fun k134 z134 => [(1, .int (nI k134)), (0, .ref (ol 0))]) (fun k134 z134 => (wX0 cy ol (os 0) ol_reach ol_ringWith ol_rungOf z134 ol_most ol_paid ol_back z7.2.1 z7.2.2.1 z7.2.2.2 ol_ringLeft ol_ringPaid (nI z7.1) ol_paidInAll ol_over) ++ (wX3 cy os os_kind os_limit os_retention os_quota os_refers (nI n) os_lossNow)) hP hD hS (lv_sub hl [0, 1] rfl) (fun k134 z134 H locs ls hk134 hz134 hP hD hS hl ih134 => ?_)
    refine lv_iload_n hx hb dX0_orderRings_134 rfl (lv_at hl 0 rfl) ?_
    refine lv_aload_n hx hb dX0_orderRings_135 rfl (lv_at hl 1 rfl) ?_
    refine gf_X0_100 hx hb hG hown hKX hP 0 rfl rfl dX0_orderRings_136 ?_
    refine lv_icmp_ge (tgt := 187) hx hb dX0_orderRings_139 (by decide) (fun c2 => ?_) (fun c2 => ?_)
    · have e_k134 : z7.1 = k134 := Nat.le_antisymm ((le_n (N := z7.1) (k := k134) rfl (by omega) (by omega)).mp c2) hk134
      subst e_k134
      exact W.vret hx hb hr (fun t ht hW => ⟨⟨(z134, z7.2.1, z7.2.2.1, z7.2.2.2, z7.1), rfl, by subst hz134; subst hz7; unfold f_X0_orderRings; rfl, by rw [ht]; exact hP, hD⟩, hS.F ht⟩) hS.2.2 dX0_orderRings_187
    · have hlt134 : k134 < z7.1 := Nat.lt_of_not_le (fun qq_ => c2 ((le_n (N := z7.1) (k := k134) rfl (by omega) (by omega)).mpr qq_))
      refine lv_iconst (v := (0 : Int32)) hx hb dX0_orderRings_142 (by decide) ?_
      refine lv_istore_n (lv' := [(2, .int (0 : Int32)), (1, .int (nI k134)), (0, .ref (ol 0))]) hx hb dX0_orderRings_143 rfl hl (by decide) rfl (fun ls hl => ?_)
      refine loopW (bd_X0_orderRings_144 k134 z7) z134 n (fun k144 z144 => [(2, .int (nI k144)), (1, .int (nI k134)), (0, .ref (ol 0))]) (fun k144 z144 => (wX0 cy ol (os 0) ol_reach ol_ringWith ol_rungOf z144 ol_most ol_paid ol_back z7.2.1 z7.2.2.1 z7.2.2.2 ol_ringLeft ol_ringPaid (nI z7.1) ol_paidInAll ol_over) ++ (wX3 cy os os_kind os_limit os_retention os_quota os_refers (nI n) os_lossNow)) hP hD hS (lv_sub hl [0, 1, 2] rfl) (fun k144 z144 H locs ls hk144 hz144 hP hD hS hl ih144 => ?_)
      refine lv_iload_n hx hb dX0_orderRings_144 rfl (lv_at hl 0 rfl) ?_
      refine lv_aload_n hx hb dX0_orderRings_145 rfl (lv_at hl 2 rfl) ?_
      refine gf_X0_9 hx hb hG hown hKX hP 0 rfl rfl dX0_orderRings_146 ?_
      refine gf_X0_77 hx hb hG hown hKX hP 13 rfl rfl dX0_orderRings_149 ?_
      refine lv_icmp_ge (tgt := 181) hx hb dX0_orderRings_152 (by decide) (fun c3 => ?_) (fun c3 => ?_)
      · have e_k144 : n = k144 := Nat.le_antisymm ((le_n (N := n) (k := k144) rfl (by omega) (by omega)).mp c3) hk144
        subst e_k144
        refine lv_iinc (v := nI (k134 + 1)) (lv' := [(1, .int (nI (k134 + 1))), (2, .int (nI n)), (0, .ref (ol 0))]) hx hb dX0_orderRings_181 hl (k := 1) rfl (nI_1 _) (by decide) rfl (fun ls hl => ?_)
        refine lv_goto (tgt := 134) hx hb dX0_orderRings_184 (by decide) ?_
        exact ih134 z144 _ _ _ hlt134 (by subst hz144; subst hz7; unfold bd_X0_orderRings_134; rfl) hP hD hS (lv_sub hl [0, 2] rfl)
      · have hlt144 : k144 < n := Nat.lt_of_not_le (fun qq_ => c3 ((le_n (N := n) (k := k144) rfl (by omega) (by omega)).mpr qq_))
        refine lv_aload_n hx hb dX0_orderRings_155 rfl (lv_at hl 2 rfl) ?_
        refine gf_X0_40 hx hb hG hown hKX hP 0 rfl rfl dX0_orderRings_156 ?_
        refine lv_iload_n hx hb dX0_orderRings_159 rfl (lv_at hl 1 rfl) ?_
        refine iald_n hx hb hKX hP 9 rfl rfl (by omega) (by decide) dX0_orderRings_160 ?_
        refine lv_iload_n hx hb dX0_orderRings_161 rfl (lv_at hl 0 rfl) ?_
        refine cRoN mw8_18 mw1_2 mw8_19 hd_X6_has hKX.2.1 hx hb hml hown hG hKX (c_X6_has l D cy (z7.2.2.1 k134) (nI k144)) ⟨Nat.le_of_ble_eq_true rfl, Nat.le_of_ble_eq_true rfl⟩ ⟨Nat.zero_le _, Nat.zero_le _⟩ (hP.sub [] rfl) rfl hl.1 rfl (Nat.le_of_ble_eq_true rfl) dX0_orderRings_162 ?_
        refine lv_if_eq (tgt := 175) hx hb dX0_orderRings_165 (by decide) (fun c4 => ?_) (fun c4 => ?_)
        · refine lv_iinc (v := nI (k144 + 1)) (lv' := [(2, .int (nI (k144 + 1))), (1, .int (nI k134)), (0, .ref (ol 0))]) hx hb dX0_orderRings_175 hl (k := 0) rfl (nI_1 _) (by decide) rfl (fun ls hl => ?_)
          refine lv_goto (tgt := 144) hx hb dX0_orderRings_178 (by decide) ?_
          exact ih144 z144 _ _ _ hlt144 (by subst hz7; unfold bd_X0_orderRings_144; rw [if_pos c4] <;> rfl) hP hD hS (lv_sub hl [0, 1, 2] rfl)
        · refine lv_aload_n hx hb dX0_orderRings_168 rfl (lv_at hl 2 rfl) ?_
          refine gf_X0_25 hx hb hG hown hKX hP 0 rfl rfl dX0_orderRings_169 ?_
          refine lv_iload_n hx hb dX0_orderRings_172 rfl (lv_at hl 0 rfl) ?_
          refine lv_iload_n hx hb dX0_orderRings_173 rfl (lv_at hl 1 rfl) ?_
          refine iast_n hx hb hKX hP hD hS 4 rfl rfl (by omega) (by decide) dX0_orderRings_174 (fun H locs hP hD hS => ?_)
          have hP : va_P D vwCl ((wX0 cy ol (os 0) ol_reach ol_ringWith ol_rungOf (upd z144 k144 (nI k134)) ol_most ol_paid ol_back z7.2.1 z7.2.2.1 z7.2.2.2 ol_ringLeft ol_ringPaid (nI z7.1) ol_paidInAll ol_over) ++ (wX3 cy os os_kind os_limit os_retention os_quota os_refers (nI n) os_lossNow)) H := hP
          have hD : va_D A ((wX0 cy ol (os 0) ol_reach ol_ringWith ol_rungOf (upd z144 k144 (nI k134)) ol_most ol_paid ol_back z7.2.1 z7.2.2.1 z7.2.2.2 ol_ringLeft ol_ringPaid (nI z7.1) ol_paidInAll ol_over) ++ (wX3 cy os os_kind os_limit os_retention os_quota os_refers (nI n) os_lossNow)) := hD
          refine lv_iinc (v := nI (k144 + 1)) (lv' := [(2, .int (nI (k144 + 1))), (1, .int (nI k134)), (0, .ref (ol 0))]) hx hb dX0_orderRings_175 hl (k := 0) rfl (nI_1 _) (by decide) rfl (fun ls hl => ?_)
          refine lv_goto (tgt := 144) hx hb dX0_orderRings_178 (by decide) ?_
          exact ih144 (upd z144 k144 (nI k134)) _ _ _ hlt144 (by subst hz7; unfold bd_X0_orderRings_144; rw [if_neg c4] <;> rfl) hP hD hS (lv_sub hl [0, 1, 2] rfl)
  · have hlt7 : k7 < n := Nat.lt_of_not_le (fun qq_ => c1 ((le_n (N := n) (k := k7) rfl (by omega) (by omega)).mpr qq_))
    refine lv_iconst (v := (0 : Int32)) hx hb dX0_orderRings_18 (by decide) ?_
    refine lv_istore_n (lv' := [(2, .int (0 : Int32)), (1, .int (nI k7)), (0, .ref (ol 0))]) hx hb dX0_orderRings_19 rfl hl (by decide) rfl (fun ls hl => ?_)
    refine loopW (bd_X0_orderRings_20 ol_ringWith ol_rungOf k7) z7 n (fun k20 z20 => [(2, .int (nI k20)), (1, .int (nI k7)), (0, .ref (ol 0))]) (fun k20 z20 => (wX0 cy ol (os 0) ol_reach ol_ringWith ol_rungOf ol_ringOf ol_most ol_paid ol_back z20.2.1 z20.2.2.1 z20.2.2.2 ol_ringLeft ol_ringPaid (nI z20.1) ol_paidInAll ol_over) ++ (wX3 cy os os_kind os_limit os_retention os_quota os_refers (nI n) os_lossNow)) hP hD hS (lv_sub hl [0, 1, 2] rfl) (fun k20 z20 H locs ls hk20 hz20 hP hD hS hl ih20 => ?_)
    refine lv_iload_n hx hb dX0_orderRings_20 rfl (lv_at hl 0 rfl) ?_
    refine lv_aload_n hx hb dX0_orderRings_21 rfl (lv_at hl 2 rfl) ?_
    refine gf_X0_9 hx hb hG hown hKX hP 0 rfl rfl dX0_orderRings_22 ?_
    refine gf_X0_77 hx hb hG hown hKX hP 13 rfl rfl dX0_orderRings_25 ?_
    refine lv_icmp_ge (tgt := 126) hx hb dX0_orderRings_28 (by decide) (fun c5 => ?_) (fun c5 => ?_)
    · have e_k20 : n = k20 := Nat.le_antisymm ((le_n (N := n) (k := k20) rfl (by omega) (by omega)).mp c5) hk20
      subst e_k20
      refine lv_iinc (v := nI (k7 + 1)) (lv' := [(1, .int (nI (k7 + 1))), (2, .int (nI n)), (0, .ref (ol 0))]) hx hb dX0_orderRings_126 hl (k := 1) rfl (nI_1 _) (by decide) rfl (fun ls hl => ?_)
      refine lv_goto (tgt := 7) hx hb dX0_orderRings_129 (by decide) ?_
      exact ih7 z20 _ _ _ hlt7 (by subst hz20; unfold bd_X0_orderRings_7; rfl) hP hD hS (lv_sub hl [0, 2] rfl)
    · have hlt20 : k20 < n := Nat.lt_of_not_le (fun qq_ => c5 ((le_n (N := n) (k := k20) rfl (by omega) (by omega)).mpr qq_))
      refine lv_aload_n hx hb dX0_orderRings_31 rfl (lv_at hl 2 rfl) ?_
      refine gf_X0_19 hx hb hG hown hKX hP 0 rfl rfl dX0_orderRings_32 ?_
      refine lv_iload_n hx hb dX0_orderRings_35 rfl (lv_at hl 0 rfl) ?_
      refine iald_n hx hb hKX hP 2 rfl rfl (by omega) (by decide) dX0_orderRings_36 ?_
      refine lv_iconst (v := (1 : Int32)) hx hb dX0_orderRings_37 (by decide) ?_
      refine lv_iload_n hx hb dX0_orderRings_38 rfl (lv_at hl 0 rfl) ?_
      refine lv_ishl hx hb dX0_orderRings_39 ?_
      refine lv_iconst (v := (1 : Int32)) hx hb dX0_orderRings_40 (by decide) ?_
      refine lv_isub hx hb dX0_orderRings_41 ?_
      refine lv_iand hx hb dX0_orderRings_42 ?_
      refine lv_if_ne (tgt := 50) hx hb dX0_orderRings_43 (by decide) (fun c6 => ?_) (fun c6 => ?_)
      · refine lv_iconst (v := (0 : Int32)) hx hb dX0_orderRings_50 (by decide) ?_
        refine lv_istore_n (lv' := [(3, .int (0 : Int32)), (2, .int (nI k20)), (1, .int (nI k7)), (0, .ref (ol 0))]) hx hb dX0_orderRings_51 rfl hl (by decide) rfl (fun ls hl => ?_)
        refine lv_iload_n hx hb dX0_orderRings_52 rfl (lv_at hl 0 rfl) ?_
        refine lv_if_eq (tgt := 120) hx hb dX0_orderRings_53 (by decide) (fun c7 => ?_) (fun c7 => absurd (by decide) c7)
        refine lv_iinc (v := nI (k20 + 1)) (lv' := [(2, .int (nI (k20 + 1))), (3, .int (0 : Int32)), (1, .int (nI k7)), (0, .ref (ol 0))]) hx hb dX0_orderRings_120 hl (k := 1) rfl (nI_1 _) (by decide) rfl (fun ls hl => ?_)
        refine lv_goto (tgt := 20) hx hb dX0_orderRings_123 (by decide) ?_
        exact ih20 z20 _ _ _ hlt20 (by unfold bd_X0_orderRings_20; rw [if_neg c6] <;> rfl) hP hD hS (lv_sub hl [0, 2, 3] rfl)
      · refine lv_iconst (v := (1 : Int32)) hx hb dX0_orderRings_46 (by decide) ?_
        refine lv_goto (tgt := 51) hx hb dX0_orderRings_47 (by decide) ?_
        refine lv_istore_n (lv' := [(3, .int (1 : Int32)), (2, .int (nI k20)), (1, .int (nI k7)), (0, .ref (ol 0))]) hx hb dX0_orderRings_51 rfl hl (by decide) rfl (fun ls hl => ?_)
        refine lv_iload_n hx hb dX0_orderRings_52 rfl (lv_at hl 0 rfl) ?_
        refine lv_if_eq (tgt := 120) hx hb dX0_orderRings_53 (by decide) (fun c8 => absurd c8 (by decide)) (fun c8 => ?_)
        refine lv_aload_n hx hb dX0_orderRings_56 rfl (lv_at hl 3 rfl) ?_
        refine gf_X0_22 hx hb hG hown hKX hP 0 rfl rfl dX0_orderRings_57 ?_
        refine lv_iload_n hx hb dX0_orderRings_60 rfl (lv_at hl 1 rfl) ?_
        refine iald_n hx hb hKX hP 3 rfl rfl (by omega) (by decide) dX0_orderRings_61 ?_
        refine lv_iload_n hx hb dX0_orderRings_62 rfl (lv_at hl 2 rfl) ?_
        refine lv_icmp_ne (tgt := 120) hx hb dX0_orderRings_63 (by decide) (fun c9 => ?_) (fun c9 => ?_)
        · refine lv_iinc (v := nI (k20 + 1)) (lv' := [(2, .int (nI (k20 + 1))), (3, .int (1 : Int32)), (1, .int (nI k7)), (0, .ref (ol 0))]) hx hb dX0_orderRings_120 hl (k := 1) rfl (nI_1 _) (by decide) rfl (fun ls hl => ?_)
          refine lv_goto (tgt := 20) hx hb dX0_orderRings_123 (by decide) ?_
          exact ih20 z20 _ _ _ hlt20 (by unfold bd_X0_orderRings_20; rw [if_pos c6, if_neg c9] <;> rfl) hP hD hS (lv_sub hl [0, 2, 3] rfl)
        · refine lv_aload_n hx hb dX0_orderRings_66 rfl (lv_at hl 3 rfl) ?_
          refine gf_X0_100 hx hb hG hown hKX hP 0 rfl rfl dX0_orderRings_67 ?_
          refine lv_bipush (v := (6 : Int32)) hx hb dX0_orderRings_70 (by decide) ?_
          refine lv_icmp_ge (tgt := 120) hx hb dX0_orderRings_72 (by decide) (fun c10 => ?_) (fun c10 => ?_)
          · refine lv_iinc (v := nI (k20 + 1)) (lv' := [(2, .int (nI (k20 + 1))), (3, .int (1 : Int32)), (1, .int (nI k7)), (0, .ref (ol 0))]) hx hb dX0_orderRings_120 hl (k := 1) rfl (nI_1 _) (by decide) rfl (fun ls hl => ?_)
            refine lv_goto (tgt := 20) hx hb dX0_orderRings_123 (by decide) ?_
            exact ih20 z20 _ _ _ hlt20 (by unfold bd_X0_orderRings_20; rw [if_pos c6, if_pos c9, if_pos c10] <;> rfl) hP hD hS (lv_sub hl [0, 2, 3] rfl)
          · have hr6 : z20.1 ≤ 6 := by rw [hz20]; exact order_in _ _ _ _ _ (by rw [hz7]; exact order_le _ _ _ _ _ _ _)
            have hr6 : z20.1 < 6 := Nat.lt_of_not_le (fun q => c10 ((nI_leI (a := 6) (b := z20.1) (by omega) (by omega)).mpr q))
            refine lv_aload_n hx hb dX0_orderRings_75 rfl (lv_at hl 3 rfl) ?_
            refine gf_X0_37 hx hb hG hown hKX hP 0 rfl rfl dX0_orderRings_76 ?_
            refine lv_aload_n hx hb dX0_orderRings_79 rfl (lv_at hl 3 rfl) ?_
            refine gf_X0_100 hx hb hG hown hKX hP 0 rfl rfl dX0_orderRings_80 ?_
            refine lv_iload_n hx hb dX0_orderRings_83 rfl (lv_at hl 1 rfl) ?_
            refine iast_n hx hb hKX hP hD hS 8 rfl rfl (by omega) (by decide) dX0_orderRings_84 (fun H locs hP hD hS => ?_)
            have hP : va_P D vwCl ((wX0 cy ol (os 0) ol_reach ol_ringWith ol_rungOf ol_ringOf ol_most ol_paid ol_back (upd z20.2.1 z20.1 (nI k20)) z20.2.2.1 z20.2.2.2 ol_ringLeft ol_ringPaid (nI z20.1) ol_paidInAll ol_over) ++ (wX3 cy os os_kind os_limit os_retention os_quota os_refers (nI n) os_lossNow)) H := hP
            have hD : va_D A ((wX0 cy ol (os 0) ol_reach ol_ringWith ol_rungOf ol_ringOf ol_most ol_paid ol_back (upd z20.2.1 z20.1 (nI k20)) z20.2.2.1 z20.2.2.2 ol_ringLeft ol_ringPaid (nI z20.1) ol_paidInAll ol_over) ++ (wX3 cy os os_kind os_limit os_retention os_quota os_refers (nI n) os_lossNow)) := hD
            refine lv_aload_n hx hb dX0_orderRings_85 rfl (lv_at hl 3 rfl) ?_
            refine gf_X0_40 hx hb hG hown hKX hP 0 rfl rfl dX0_orderRings_86 ?_
            refine lv_aload_n hx hb dX0_orderRings_89 rfl (lv_at hl 3 rfl) ?_
            refine gf_X0_100 hx hb hG hown hKX hP 0 rfl rfl dX0_orderRings_90 ?_
            refine lv_aload_n hx hb dX0_orderRings_93 rfl (lv_at hl 3 rfl) ?_
            refine gf_X0_19 hx hb hG hown hKX hP 0 rfl rfl dX0_orderRings_94 ?_
            refine lv_iload_n hx hb dX0_orderRings_97 rfl (lv_at hl 1 rfl) ?_
            refine iald_n hx hb hKX hP 2 rfl rfl (by omega) (by decide) dX0_orderRings_98 ?_
            refine iast_n hx hb hKX hP hD hS 9 rfl rfl (by omega) (by decide) dX0_orderRings_99 (fun H locs hP hD hS => ?_)
            have hP : va_P D vwCl ((wX0 cy ol (os 0) ol_reach ol_ringWith ol_rungOf ol_ringOf ol_most ol_paid ol_back (upd z20.2.1 z20.1 (nI k20)) (upd z20.2.2.1 z20.1 (ol_ringWith k20)) z20.2.2.2 ol_ringLeft ol_ringPaid (nI z20.1) ol_paidInAll ol_over) ++ (wX3 cy os os_kind os_limit os_retention os_quota os_refers (nI n) os_lossNow)) H := hP
            have hD : va_D A ((wX0 cy ol (os 0) ol_reach ol_ringWith ol_rungOf ol_ringOf ol_most ol_paid ol_back (upd z20.2.1 z20.1 (nI k20)) (upd z20.2.2.1 z20.1 (ol_ringWith k20)) z20.2.2.2 ol_ringLeft ol_ringPaid (nI z20.1) ol_paidInAll ol_over) ++ (wX3 cy os os_kind os_limit os_retention os_quota os_refers (nI n) os_lossNow)) := hD
            refine lv_aload_n hx hb dX0_orderRings_100 rfl (lv_at hl 3 rfl) ?_
            refine gf_X0_43 hx hb hG hown hKX hP 0 rfl rfl dX0_orderRings_101 ?_
            refine lv_aload_n hx hb dX0_orderRings_104 rfl (lv_at hl 3 rfl) ?_
            refine gf_X0_100 hx hb hG hown hKX hP 0 rfl rfl dX0_orderRings_105 ?_
            refine lv_iload_n hx hb dX0_orderRings_108 rfl (lv_at hl 2 rfl) ?_
            refine iast_n hx hb hKX hP hD hS 10 rfl rfl (by omega) (by decide) dX0_orderRings_109 (fun H locs hP hD hS => ?_)
            have hP : va_P D vwCl ((wX0 cy ol (os 0) ol_reach ol_ringWith ol_rungOf ol_ringOf ol_most ol_paid ol_back (upd z20.2.1 z20.1 (nI k20)) (upd z20.2.2.1 z20.1 (ol_ringWith k20)) (upd z20.2.2.2 z20.1 (nI k7)) ol_ringLeft ol_ringPaid (nI z20.1) ol_paidInAll ol_over) ++ (wX3 cy os os_kind os_limit os_retention os_quota os_refers (nI n) os_lossNow)) H := hP
            have hD : va_D A ((wX0 cy ol (os 0) ol_reach ol_ringWith ol_rungOf ol_ringOf ol_most ol_paid ol_back (upd z20.2.1 z20.1 (nI k20)) (upd z20.2.2.1 z20.1 (ol_ringWith k20)) (upd z20.2.2.2 z20.1 (nI k7)) ol_ringLeft ol_ringPaid (nI z20.1) ol_paidInAll ol_over) ++ (wX3 cy os os_kind os_limit os_retention os_quota os_refers (nI n) os_lossNow)) := hD
            refine lv_aload_n hx hb dX0_orderRings_110 rfl (lv_at hl 3 rfl) ?_
            refine lv_dup hx hb dX0_orderRings_111 rfl ?_
            refine gf_X0_100 hx hb hG hown hKX hP 0 rfl rfl dX0_orderRings_112 ?_
            refine lv_iconst (v := (1 : Int32)) hx hb dX0_orderRings_115 (by decide) ?_
            refine lv_iadd hx hb dX0_orderRings_116 ?_
            refine topi_eq (y := nI (z20.1 + 1)) (aN rfl rfl) ?_
            refine pf_X0_100 hx hb hG hown hKX hP hD hS 0 rfl rfl rfl (Nat.le_of_ble_eq_true rfl) dX0_orderRings_117 (wn := (wX0 cy ol (os 0) ol_reach ol_ringWith ol_rungOf ol_ringOf ol_most ol_paid ol_back (upd z20.2.1 z20.1 (nI k20)) (upd z20.2.2.1 z20.1 (ol_ringWith k20)) (upd z20.2.2.2 z20.1 (nI k7)) ol_ringLeft ol_ringPaid (nI (z20.1 + 1)) ol_paidInAll ol_over) ++ (wX3 cy os os_kind os_limit os_retention os_quota os_refers (nI n) os_lossNow)) rfl (fun H locs hP hD hS => ?_)
            refine lv_iinc (v := nI (k20 + 1)) (lv' := [(2, .int (nI (k20 + 1))), (3, .int (1 : Int32)), (1, .int (nI k7)), (0, .ref (ol 0))]) hx hb dX0_orderRings_120 hl (k := 1) rfl (nI_1 _) (by decide) rfl (fun ls hl => ?_)
            refine lv_goto (tgt := 20) hx hb dX0_orderRings_123 (by decide) ?_
            exact ih20 (z20.1 + 1, upd z20.2.1 z20.1 (nI k20), upd z20.2.2.1 z20.1 (ol_ringWith k20), upd z20.2.2.2 z20.1 (nI k7)) _ _ _ hlt20 (by unfold bd_X0_orderRings_20; rw [if_pos c6, if_pos c9, if_neg c10] <;> rfl) hP hD hS (lv_sub hl [0, 2, 3] rfl)
