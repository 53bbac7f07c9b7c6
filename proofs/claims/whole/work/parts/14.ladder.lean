theorem order_first_in (a b : Nat → Int32) (q n : Nat) : ∀ (k : Nat), k ≤ n → ∀ (z : Nat × (Nat → Int32) × (Nat → Int32) × (Nat → Int32)), (∀ j, j < z.1 → ∃ m, m < n ∧ z.2.1 j = nI m) → ∀ j, j < (itr (bd_X0_orderRings_20 a b q) k z).1 → ∃ m, m < n ∧ (itr (bd_X0_orderRings_20 a b q) k z).2.1 j = nI m
  | 0, _, z, h => h
  | k + 1, hk, z, h => by
    have ih := order_first_in a b q n k (by omega) z h
    rw [itr_succ]
    generalize itr (bd_X0_orderRings_20 a b q) k z = y at ih ⊢
    unfold bd_X0_orderRings_20
    split
    · split
      · split
        · exact ih
        · intro j hj
          show ∃ m, m < n ∧ upd y.2.1 y.1 (nI k) j = nI m
          by_cases e : j = y.1
          · subst e
            exact ⟨k, by omega, pk_us⟩
          · rw [pk_un e]
            have hj2 : j < y.1 + 1 := hj
            exact ih j (by omega)
      · exact ih
    · exact ih
theorem order_first (a b : Nat → Int32) (n : Nat) (f g h : Nat → Int32) : ∀ k : Nat, ∀ j, j < (itr (bd_X0_orderRings_7 a b n) k (0, f, g, h)).1 → ∃ m, m < n ∧ (itr (bd_X0_orderRings_7 a b n) k (0, f, g, h)).2.1 j = nI m
  | 0 => fun j hj => absurd hj (Nat.not_lt_zero j)
  | k + 1 => by
    rw [itr_succ]
    exact order_first_in _ _ _ _ _ (Nat.le_refl n) _ (order_first a b n f g h k)
theorem clampN_of {x : Int32} {n : Nat} (hn : n < 2 ^ 31) (h : ∃ m, m < n ∧ x = nI m) : x = nI x.toNatClampNeg ∧ x.toNatClampNeg < n := by
  obtain ⟨m, h1, rfl⟩ := h
  rw [nI_clamp (by omega)]
  exact ⟨rfl, h1⟩
def f_X0_build (ol_reach : Nat → Int32) (ol_ringWith : Nat → Int32) (ol_rungOf : Nat → Int32) (ol_ringOf : Nat → Int32) (ol_ringFirst : Nat → Int32) (ol_ringBits : Nat → Int32) (ol_ringRung : Nat → Int32) (os_refers : Nat → Int32) (n : Nat) : (Nat → Int32) × (Nat → Int32) × (Nat → Int32) × (Nat → Int32) × (Nat → Int32) × (Nat → Int32) × (Nat → Int32) × Nat :=
  ((f_X0_findReach ol_reach os_refers n), (f_X0_findRings (f_X0_findReach ol_reach os_refers n) ol_ringWith n), (f_X0_findRungs (f_X0_findRings (f_X0_findReach ol_reach os_refers n) ol_ringWith n) ol_rungOf os_refers n), (f_X0_orderRings (f_X0_findRings (f_X0_findReach ol_reach os_refers n) ol_ringWith n) (f_X0_findRungs (f_X0_findRings (f_X0_findReach ol_reach os_refers n) ol_ringWith n) ol_rungOf os_refers n) ol_ringOf ol_ringFirst ol_ringBits ol_ringRung n).1, (f_X0_orderRings (f_X0_findRings (f_X0_findReach ol_reach os_refers n) ol_ringWith n) (f_X0_findRungs (f_X0_findRings (f_X0_findReach ol_reach os_refers n) ol_ringWith n) ol_rungOf os_refers n) ol_ringOf ol_ringFirst ol_ringBits ol_ringRung n).2.1, (f_X0_orderRings (f_X0_findRings (f_X0_findReach ol_reach os_refers n) ol_ringWith n) (f_X0_findRungs (f_X0_findRings (f_X0_findReach ol_reach os_refers n) ol_ringWith n) ol_rungOf os_refers n) ol_ringOf ol_ringFirst ol_ringBits ol_ringRung n).2.2.1, (f_X0_orderRings (f_X0_findRings (f_X0_findReach ol_reach os_refers n) ol_ringWith n) (f_X0_findRungs (f_X0_findRings (f_X0_findReach ol_reach os_refers n) ol_ringWith n) ol_rungOf os_refers n) ol_ringOf ol_ringFirst ol_ringBits ol_ringRung n).2.2.2.1, (f_X0_orderRings (f_X0_findRings (f_X0_findReach ol_reach os_refers n) ol_ringWith n) (f_X0_findRungs (f_X0_findRings (f_X0_findReach ol_reach os_refers n) ol_ringWith n) ol_rungOf os_refers n) ol_ringOf ol_ringFirst ol_ringBits ol_ringRung n).2.2.2.2)
set_option maxHeartbeats 4000000 in
set_option maxRecDepth 100000 in
theorem c_X0_build (l : Launch) (D : va_G) (cy : Nat → ClassId) (ol : Nat → Nat) (os : Nat → Nat) (ol_reach : Nat → Int32) (ol_ringWith : Nat → Int32) (ol_rungOf : Nat → Int32) (ol_ringOf : Nat → Int32) (ol_most : Nat → Int32) (ol_paid : Nat → Int32) (ol_back : Nat → Int32) (ol_ringFirst : Nat → Int32) (ol_ringBits : Nat → Int32) (ol_ringRung : Nat → Int32) (ol_ringLeft : Nat → Int32) (ol_ringPaid : Nat → Int32) (ol_rings : Int32) (ol_paidInAll : Int32) (ol_over : Int32) (os_kind : Nat → Int32) (os_limit : Nat → Int32) (os_retention : Nat → Int32) (os_quota : Nat → Int32) (os_refers : Nat → Int32) (os_lossNow : Int32) (n : Nat) (hn : n ≤ 6) : RwV (S := (Nat → Int32) × (Nat → Int32) × (Nat → Int32) × (Nat → Int32) × (Nat → Int32) × (Nat → Int32) × (Nat → Int32) × Nat) l D cy yX0_build (.code yX0_build cX0_build 1 none) 3 ((wX0 cy ol (os 0) ol_reach ol_ringWith ol_rungOf ol_ringOf ol_most ol_paid ol_back ol_ringFirst ol_ringBits ol_ringRung ol_ringLeft ol_ringPaid ol_rings ol_paidInAll ol_over) ++ (wX3 cy os os_kind os_limit os_retention os_quota os_refers (nI n) os_lossNow)) [.ref (ol 0)] (fun u => u = f_X0_build ol_reach ol_ringWith ol_rungOf ol_ringOf ol_ringFirst ol_ringBits ol_ringRung os_refers n) (fun u => (wX0 cy ol (os 0) u.1 u.2.1 u.2.2.1 u.2.2.2.1 ol_most ol_paid ol_back u.2.2.2.2.1 u.2.2.2.2.2.1 u.2.2.2.2.2.2.1 ol_ringLeft ol_ringPaid (nI u.2.2.2.2.2.2.2) ol_paidInAll ol_over) ++ (wX3 cy os os_kind os_limit os_retention os_quota os_refers (nI n) os_lossNow)) := by
  intro sz
  refine Met.ofW (cc := cX0_build) (maxL := 1) (ret := none) (by decide) rfl ?_
  intro pP eE s0 mM args below meth cC s₁ B hml hv
  obtain ⟨rfl, hsz, hP, hKX, hD0⟩ := hv
  have hx := B.exec
  have hb := B.bytes
  have hr := B.returns
  have hG := gw_hts (atoms_spec (ws := _) B.pre)
  have hown : s0.vm.findClass RX0 = some mM.cls := findClass_of_methodNamed B.named
  have hlocks := B.notSynchronized
  subst hsz
  have hD := hD0.self (sz := s0.heap.size)
  generalize hAe : va_A ((wX0 cy ol (os 0) ol_reach ol_ringWith ol_rungOf ol_ringOf ol_most ol_paid ol_back ol_ringFirst ol_ringBits ol_ringRung ol_ringLeft ol_ringPaid ol_rings ol_paidInAll ol_over) ++ (wX3 cy os os_kind os_limit os_retention os_quota os_refers (nI n) os_lossNow)) s0.heap.size = A at hD ⊢
  have hA : ∀ q : Nat, s0.heap.size ≤ q → A q := fun q h => by rw [← hAe]; exact Or.inr h
  have hS : va_S A s0.heap s0.heap [] := va_S.rf
  have hl := lv_entry ([.ref (ol 0)]) (n := 1) (Nat.le_of_ble_eq_true rfl)
  rw [lg_entry_eq]
  generalize (lg_sl ([.ref (ol 0)]) ++ List.replicate (1 - (lg_sl ([.ref (ol 0)])).length) Slot.unset).toArray = ls at hl ⊢
  have hl : lv_has ls 1 [(0, .ref (ol 0))] := hl
  refine lv_aload_n hx hb dX0_build_0 rfl (lv_at hl 0 rfl) ?_
  refine cRwVV (q0 := 0) (ci := 0) mw10_12 mw10_13 mw10_14 mw1_21 mw10_15 rfl rfl hd_X0_findReach hx hb hml hown hG hKX (c_X0_findReach l D cy ol os ol_reach ol_ringWith ol_rungOf ol_ringOf ol_most ol_paid ol_back ol_ringFirst ol_ringBits ol_ringRung ol_ringLeft ol_ringPaid ol_rings ol_paidInAll ol_over os_kind os_limit os_retention os_quota os_refers os_lossNow n hn) ⟨Nat.le_of_ble_eq_true rfl, Nat.le_of_ble_eq_true rfl⟩ ⟨Nat.zero_le _, Nat.zero_le _⟩ hP hD hS hA [0, 1, 2, 3, 4, 5, 6, 7, 8, 9, 10, 11, 12, 13, 14, 15, 16, 17, 18] [] [0, 1, 2, 3, 4, 5, 6, 7, 8, 9, 10, 11, 12, 13, 14, 15, 16, 17, 18] (wr := []) (wn := fun u1 => (wX0 cy ol (os 0) u1 ol_ringWith ol_rungOf ol_ringOf ol_most ol_paid ol_back ol_ringFirst ol_ringBits ol_ringRung ol_ringLeft ol_ringPaid ol_rings ol_paidInAll ol_over) ++ (wX3 cy os os_kind os_limit os_retention os_quota os_refers (nI n) os_lossNow)) rfl (by decide) rfl (by decide) (by decide) (fun _ => rfl) (by decide) rfl rfl hl.1 rfl (Nat.le_of_ble_eq_true rfl) dX0_build_1 (fun u1 H locs hw1 hP hD hS => ?_)
  refine lv_aload_n hx hb dX0_build_4 rfl (lv_at hl 0 rfl) ?_
  refine cRwVV (q0 := 0) (ci := 0) mw10_18 mw10_19 mw10_20 mw1_21 mw10_21 rfl rfl hd_X0_findRings hx hb hml hown hG hKX (c_X0_findRings l D cy ol os u1 ol_ringWith ol_rungOf ol_ringOf ol_most ol_paid ol_back ol_ringFirst ol_ringBits ol_ringRung ol_ringLeft ol_ringPaid ol_rings ol_paidInAll ol_over os_kind os_limit os_retention os_quota os_refers os_lossNow n hn) ⟨Nat.le_of_ble_eq_true rfl, Nat.le_of_ble_eq_true rfl⟩ ⟨Nat.zero_le _, Nat.zero_le _⟩ hP hD hS hA [0, 1, 2, 3, 4, 5, 6, 7, 8, 9, 10, 11, 12, 13, 14, 15, 16, 17, 18] [] [0, 1, 2, 3, 4, 5, 6, 7, 8, 9, 10, 11, 12, 13, 14, 15, 16, 17, 18] (wr := []) (wn := fun u5 => (wX0 cy ol (os 0) u1 u5 ol_rungOf ol_ringOf ol_most ol_paid ol_back ol_ringFirst ol_ringBits ol_ringRung ol_ringLeft ol_ringPaid ol_rings ol_paidInAll ol_over) ++ (wX3 cy os os_kind os_limit os_retention os_quota os_refers (nI n) os_lossNow)) rfl (by decide) rfl (by decide) (by decide) (fun _ => rfl) (by decide) rfl rfl hl.1 rfl (Nat.le_of_ble_eq_true rfl) dX0_build_5 (fun u5 H locs hw5 hP hD hS => ?_)
  refine lv_aload_n hx hb dX0_build_8 rfl (lv_at hl 0 rfl) ?_
  refine cRwVV (q0 := 0) (ci := 0) mw10_22 mw10_23 mw11_0 mw1_21 mw11_1 rfl rfl hd_X0_findRungs hx hb hml hown hG hKX (c_X0_findRungs l D cy ol os u1 u5 ol_rungOf ol_ringOf ol_most ol_paid ol_back ol_ringFirst ol_ringBits ol_ringRung ol_ringLeft ol_ringPaid ol_rings ol_paidInAll ol_over os_kind os_limit os_retention os_quota os_refers os_lossNow n hn) ⟨Nat.le_of_ble_eq_true rfl, Nat.le_of_ble_eq_true rfl⟩ ⟨Nat.zero_le _, Nat.zero_le _⟩ hP hD hS hA [0, 1, 2, 3, 4, 5, 6, 7, 8, 9, 10, 11, 12, 13, 14, 15, 16, 17, 18] [] [0, 1, 2, 3, 4, 5, 6, 7, 8, 9, 10, 11, 12, 13, 14, 15, 16, 17, 18] (wr := []) (wn := fun u9 => (wX0 cy ol (os 0) u1 u5 u9 ol_ringOf ol_most ol_paid ol_back ol_ringFirst ol_ringBits ol_ringRung ol_ringLeft ol_ringPaid ol_rings ol_paidInAll ol_over) ++ (wX3 cy os os_kind os_limit os_retention os_quota os_refers (nI n) os_lossNow)) rfl (by decide) rfl (by decide) (by decide) (fun _ => rfl) (by decide) rfl rfl hl.1 rfl (Nat.le_of_ble_eq_true rfl) dX0_build_9 (fun u9 H locs hw9 hP hD hS => ?_)
  refine lv_aload_n hx hb dX0_build_12 rfl (lv_at hl 0 rfl) ?_
  refine cRwVV (q0 := 0) (ci := 0) mw11_13 mw11_14 mw11_15 mw1_21 mw11_16 rfl rfl hd_X0_orderRings hx hb hml hown hG hKX (c_X0_orderRings l D cy ol os u1 u5 u9 ol_ringOf ol_most ol_paid ol_back ol_ringFirst ol_ringBits ol_ringRung ol_ringLeft ol_ringPaid ol_rings ol_paidInAll ol_over os_kind os_limit os_retention os_quota os_refers os_lossNow n hn) ⟨Nat.le_of_ble_eq_true rfl, Nat.le_of_ble_eq_true rfl⟩ ⟨Nat.zero_le _, Nat.zero_le _⟩ hP hD hS hA [0, 1, 2, 3, 4, 5, 6, 7, 8, 9, 10, 11, 12, 13, 14, 15, 16, 17, 18] [] [0, 1, 2, 3, 4, 5, 6, 7, 8, 9, 10, 11, 12, 13, 14, 15, 16, 17, 18] (wr := []) (wn := fun u13 => (wX0 cy ol (os 0) u1 u5 u9 u13.1 ol_most ol_paid ol_back u13.2.1 u13.2.2.1 u13.2.2.2.1 ol_ringLeft ol_ringPaid (nI u13.2.2.2.2) ol_paidInAll ol_over) ++ (wX3 cy os os_kind os_limit os_retention os_quota os_refers (nI n) os_lossNow)) rfl (by decide) rfl (by decide) (by decide) (fun _ => rfl) (by decide) rfl rfl hl.1 rfl (Nat.le_of_ble_eq_true rfl) dX0_build_13 (fun u13 H locs hw13 hP hD hS => ?_)
  exact W.vret hx hb hr (fun t ht hW => ⟨⟨(u1, u5, u9, u13.1, u13.2.1, u13.2.2.1, u13.2.2.2.1, u13.2.2.2.2), rfl, by subst hw13; subst hw9; subst hw5; subst hw1; unfold f_X0_build; rfl, by rw [ht]; exact hP, hD⟩, hS.F ht⟩) hS.2.2 dX0_build_16
theorem build_le {a b d e f g h i : Nat → Int32} {n : Nat} : (f_X0_build a b d e f g h i n).2.2.2.2.2.2.2 ≤ 6 := order_le _ _ _ _ _ _ _
theorem build_first {a b d e f g h i : Nat → Int32} {n : Nat} (hn : n ≤ 6) (k : Nat) (hk : k < (f_X0_build a b d e f g h i n).2.2.2.2.2.2.2) : (f_X0_build a b d e f g h i n).2.2.2.2.1 k = nI ((f_X0_build a b d e f g h i n).2.2.2.2.1 k).toNatClampNeg ∧ ((f_X0_build a b d e f g h i n).2.2.2.2.1 k).toNatClampNeg < n := clampN_of (by omega) (order_first _ _ _ _ _ _ _ k hk)
def f_X0_settle (ol_reach : Nat → Int32) (ol_ringWith : Nat → Int32) (ol_rungOf : Nat → Int32) (ol_ringOf : Nat → Int32) (ol_most : Nat → Int32) (ol_paid : Nat → Int32) (ol_ringFirst : Nat → Int32) (ol_ringBits : Nat → Int32) (ol_ringRung : Nat → Int32) (ol_ringLeft : Nat → Int32) (ol_ringPaid : Nat → Int32) (os_kind : Nat → Int32) (os_limit : Nat → Int32) (os_retention : Nat → Int32) (os_quota : Nat → Int32) (os_refers : Nat → Int32) (os_lossNow : Int32) (n : Nat) : (Nat → Int32) × (Nat → Int32) × (Nat → Int32) × (Nat → Int32) × (Nat → Int32) × (Nat → Int32) × (Nat → Int32) × (Nat → Int32) × (Nat → Int32) × (Nat → Int32) × (Nat → Int32) × Nat × Int32 × Int32 :=
  ((f_X0_build ol_reach ol_ringWith ol_rungOf ol_ringOf ol_ringFirst ol_ringBits ol_ringRung os_refers n).1, (f_X0_build ol_reach ol_ringWith ol_rungOf ol_ringOf ol_ringFirst ol_ringBits ol_ringRung os_refers n).2.1, (f_X0_build ol_reach ol_ringWith ol_rungOf ol_ringOf ol_ringFirst ol_ringBits ol_ringRung os_refers n).2.2.1, (f_X0_build ol_reach ol_ringWith ol_rungOf ol_ringOf ol_ringFirst ol_ringBits ol_ringRung os_refers n).2.2.2.1, (f_X0_payAt (f_X0_build ol_reach ol_ringWith ol_rungOf ol_ringOf ol_ringFirst ol_ringBits ol_ringRung os_refers n).2.1 ol_most ol_paid (f_X0_build ol_reach ol_ringWith ol_rungOf ol_ringOf ol_ringFirst ol_ringBits ol_ringRung os_refers n).2.2.2.2.2.1 ol_ringLeft ol_ringPaid os_kind os_limit os_retention os_quota os_refers os_lossNow n (f_X0_build ol_reach ol_ringWith ol_rungOf ol_ringOf ol_ringFirst ol_ringBits ol_ringRung os_refers n).2.2.2.2.2.2.2 (fun k => ((f_X0_build ol_reach ol_ringWith ol_rungOf ol_ringOf ol_ringFirst ol_ringBits ol_ringRung os_refers n).2.2.2.2.1 k).toNatClampNeg)).1, (f_X0_payAt (f_X0_build ol_reach ol_ringWith ol_rungOf ol_ringOf ol_ringFirst ol_ringBits ol_ringRung os_refers n).2.1 ol_most ol_paid (f_X0_build ol_reach ol_ringWith ol_rungOf ol_ringOf ol_ringFirst ol_ringBits ol_ringRung os_refers n).2.2.2.2.2.1 ol_ringLeft ol_ringPaid os_kind os_limit os_retention os_quota os_refers os_lossNow n (f_X0_build ol_reach ol_ringWith ol_rungOf ol_ringOf ol_ringFirst ol_ringBits ol_ringRung os_refers n).2.2.2.2.2.2.2 (fun k => ((f_X0_build ol_reach ol_ringWith ol_rungOf ol_ringOf ol_ringFirst ol_ringBits ol_ringRung os_refers n).2.2.2.2.1 k).toNatClampNeg)).2.1, (f_X0_build ol_reach ol_ringWith ol_rungOf ol_ringOf ol_ringFirst ol_ringBits ol_ringRung os_refers n).2.2.2.2.1, (f_X0_build ol_reach ol_ringWith ol_rungOf ol_ringOf ol_ringFirst ol_ringBits ol_ringRung os_refers n).2.2.2.2.2.1, (f_X0_build ol_reach ol_ringWith ol_rungOf ol_ringOf ol_ringFirst ol_ringBits ol_ringRung os_refers n).2.2.2.2.2.2.1, (f_X0_payAt (f_X0_build ol_reach ol_ringWith ol_rungOf ol_ringOf ol_ringFirst ol_ringBits ol_ringRung os_refers n).2.1 ol_most ol_paid (f_X0_build ol_reach ol_ringWith ol_rungOf ol_ringOf ol_ringFirst ol_ringBits ol_ringRung os_refers n).2.2.2.2.2.1 ol_ringLeft ol_ringPaid os_kind os_limit os_retention os_quota os_refers os_lossNow n (f_X0_build ol_reach ol_ringWith ol_rungOf ol_ringOf ol_ringFirst ol_ringBits ol_ringRung os_refers n).2.2.2.2.2.2.2 (fun k => ((f_X0_build ol_reach ol_ringWith ol_rungOf ol_ringOf ol_ringFirst ol_ringBits ol_ringRung os_refers n).2.2.2.2.1 k).toNatClampNeg)).2.2.1, (f_X0_payAt (f_X0_build ol_reach ol_ringWith ol_rungOf ol_ringOf ol_ringFirst ol_ringBits ol_ringRung os_refers n).2.1 ol_most ol_paid (f_X0_build ol_reach ol_ringWith ol_rungOf ol_ringOf ol_ringFirst ol_ringBits ol_ringRung os_refers n).2.2.2.2.2.1 ol_ringLeft ol_ringPaid os_kind os_limit os_retention os_quota os_refers os_lossNow n (f_X0_build ol_reach ol_ringWith ol_rungOf ol_ringOf ol_ringFirst ol_ringBits ol_ringRung os_refers n).2.2.2.2.2.2.2 (fun k => ((f_X0_build ol_reach ol_ringWith ol_rungOf ol_ringOf ol_ringFirst ol_ringBits ol_ringRung os_refers n).2.2.2.2.1 k).toNatClampNeg)).2.2.2.1, (f_X0_build ol_reach ol_ringWith ol_rungOf ol_ringOf ol_ringFirst ol_ringBits ol_ringRung os_refers n).2.2.2.2.2.2.2, (f_X0_payAt (f_X0_build ol_reach ol_ringWith ol_rungOf ol_ringOf ol_ringFirst ol_ringBits ol_ringRung os_refers n).2.1 ol_most ol_paid (f_X0_build ol_reach ol_ringWith ol_rungOf ol_ringOf ol_ringFirst ol_ringBits ol_ringRung os_refers n).2.2.2.2.2.1 ol_ringLeft ol_ringPaid os_kind os_limit os_retention os_quota os_refers os_lossNow n (f_X0_build ol_reach ol_ringWith ol_rungOf ol_ringOf ol_ringFirst ol_ringBits ol_ringRung os_refers n).2.2.2.2.2.2.2 (fun k => ((f_X0_build ol_reach ol_ringWith ol_rungOf ol_ringOf ol_ringFirst ol_ringBits ol_ringRung os_refers n).2.2.2.2.1 k).toNatClampNeg)).2.2.2.2.1, (f_X0_payAt (f_X0_build ol_reach ol_ringWith ol_rungOf ol_ringOf ol_ringFirst ol_ringBits ol_ringRung os_refers n).2.1 ol_most ol_paid (f_X0_build ol_reach ol_ringWith ol_rungOf ol_ringOf ol_ringFirst ol_ringBits ol_ringRung os_refers n).2.2.2.2.2.1 ol_ringLeft ol_ringPaid os_kind os_limit os_retention os_quota os_refers os_lossNow n (f_X0_build ol_reach ol_ringWith ol_rungOf ol_ringOf ol_ringFirst ol_ringBits ol_ringRung os_refers n).2.2.2.2.2.2.2 (fun k => ((f_X0_build ol_reach ol_ringWith ol_rungOf ol_ringOf ol_ringFirst ol_ringBits ol_ringRung os_refers n).2.2.2.2.1 k).toNatClampNeg)).2.2.2.2.2)
set_option maxHeartbeats 4000000 in
set_option maxRecDepth 100000 in
theorem c_X0_settle (l : Launch) (D : va_G) (cy : Nat → ClassId) (ol : Nat → Nat) (os : Nat → Nat) (ol_reach : Nat → Int32) (ol_ringWith : Nat → Int32) (ol_rungOf : Nat → Int32) (ol_ringOf : Nat → Int32) (ol_most : Nat → Int32) (ol_paid : Nat → Int32) (ol_back : Nat → Int32) (ol_ringFirst : Nat → Int32) (ol_ringBits : Nat → Int32) (ol_ringRung : Nat → Int32) (ol_ringLeft : Nat → Int32) (ol_ringPaid : Nat → Int32) (ol_rings : Int32) (ol_paidInAll : Int32) (ol_over : Int32) (os_kind : Nat → Int32) (os_limit : Nat → Int32) (os_retention : Nat → Int32) (os_quota : Nat → Int32) (os_refers : Nat → Int32) (os_lossNow : Int32) (n : Nat) (hn : n ≤ 6) : RwV (S := (Nat → Int32) × (Nat → Int32) × (Nat → Int32) × (Nat → Int32) × (Nat → Int32) × (Nat → Int32) × (Nat → Int32) × (Nat → Int32) × (Nat → Int32) × (Nat → Int32) × (Nat → Int32) × Nat × Int32 × Int32) l D cy yX0_settle (.code yX0_settle cX0_settle 1 none) 5 ((wX0 cy ol (os 0) ol_reach ol_ringWith ol_rungOf ol_ringOf ol_most ol_paid ol_back ol_ringFirst ol_ringBits ol_ringRung ol_ringLeft ol_ringPaid ol_rings ol_paidInAll ol_over) ++ (wX3 cy os os_kind os_limit os_retention os_quota os_refers (nI n) os_lossNow)) [.ref (ol 0)] (fun u => u = f_X0_settle ol_reach ol_ringWith ol_rungOf ol_ringOf ol_most ol_paid ol_ringFirst ol_ringBits ol_ringRung ol_ringLeft ol_ringPaid os_kind os_limit os_retention os_quota os_refers os_lossNow n) (fun u => (wX0 cy ol (os 0) u.1 u.2.1 u.2.2.1 u.2.2.2.1 u.2.2.2.2.1 u.2.2.2.2.2.1 ol_back u.2.2.2.2.2.2.1 u.2.2.2.2.2.2.2.1 u.2.2.2.2.2.2.2.2.1 u.2.2.2.2.2.2.2.2.2.1 u.2.2.2.2.2.2.2.2.2.2.1 (nI u.2.2.2.2.2.2.2.2.2.2.2.1) u.2.2.2.2.2.2.2.2.2.2.2.2.1 u.2.2.2.2.2.2.2.2.2.2.2.2.2) ++ (wX3 cy os os_kind os_limit os_retention os_quota os_refers (nI n) os_lossNow)) := by
  intro sz
  refine Met.ofW (cc := cX0_settle) (maxL := 1) (ret := none) (by decide) rfl ?_
  intro pP eE s0 mM args below meth cC s₁ B hml hv
  obtain ⟨rfl, hsz, hP, hKX, hD0⟩ := hv
  have hx := B.exec
  have hb := B.bytes
  have hr := B.returns
  have hG := gw_hts (atoms_spec (ws := _) B.pre)
  have hown : s0.vm.findClass RX0 = some mM.cls := findClass_of_methodNamed B.named
  have hlocks := B.notSynchronized
  subst hsz
  have hD := hD0.self (sz := s0.heap.size)
  generalize hAe : va_A ((wX0 cy ol (os 0) ol_reach ol_ringWith ol_rungOf ol_ringOf ol_most ol_paid ol_back ol_ringFirst ol_ringBits ol_ringRung ol_ringLeft ol_ringPaid ol_rings ol_paidInAll ol_over) ++ (wX3 cy os os_kind os_limit os_retention os_quota os_refers (nI n) os_lossNow)) s0.heap.size = A at hD ⊢
  have hA : ∀ q : Nat, s0.heap.size ≤ q → A q := fun q h => by rw [← hAe]; exact Or.inr h
  have hS : va_S A s0.heap s0.heap [] := va_S.rf
  have hl := lv_entry ([.ref (ol 0)]) (n := 1) (Nat.le_of_ble_eq_true rfl)
  rw [lg_entry_eq]
  generalize (lg_sl ([.ref (ol 0)]) ++ List.replicate (1 - (lg_sl ([.ref (ol 0)])).length) Slot.unset).toArray = ls at hl ⊢
  have hl : lv_has ls 1 [(0, .ref (ol 0))] := hl
  refine lv_aload_n hx hb dX0_settle_0 rfl (lv_at hl 0 rfl) ?_
  refine cRwVV (q0 := 0) (ci := 0) mw10_8 mw10_9 mw10_10 mw1_21 mw10_11 rfl rfl hd_X0_build hx hb hml hown hG hKX (c_X0_build l D cy ol os ol_reach ol_ringWith ol_rungOf ol_ringOf ol_most ol_paid ol_back ol_ringFirst ol_ringBits ol_ringRung ol_ringLeft ol_ringPaid ol_rings ol_paidInAll ol_over os_kind os_limit os_retention os_quota os_refers os_lossNow n hn) ⟨Nat.le_of_ble_eq_true rfl, Nat.le_of_ble_eq_true rfl⟩ ⟨Nat.zero_le _, Nat.zero_le _⟩ hP hD hS hA [0, 1, 2, 3, 4, 5, 6, 7, 8, 9, 10, 11, 12, 13, 14, 15, 16, 17, 18] [] [0, 1, 2, 3, 4, 5, 6, 7, 8, 9, 10, 11, 12, 13, 14, 15, 16, 17, 18] (wr := []) (wn := fun u1 => (wX0 cy ol (os 0) u1.1 u1.2.1 u1.2.2.1 u1.2.2.2.1 ol_most ol_paid ol_back u1.2.2.2.2.1 u1.2.2.2.2.2.1 u1.2.2.2.2.2.2.1 ol_ringLeft ol_ringPaid (nI u1.2.2.2.2.2.2.2) ol_paidInAll ol_over) ++ (wX3 cy os os_kind os_limit os_retention os_quota os_refers (nI n) os_lossNow)) rfl (by decide) rfl (by decide) (by decide) (fun _ => rfl) (by decide) rfl rfl hl.1 rfl (Nat.le_of_ble_eq_true rfl) dX0_settle_1 (fun u1 H locs hw1 hP hD hS => ?_)
  refine lv_aload_n hx hb dX0_settle_4 rfl (lv_at hl 0 rfl) ?_
  refine lv_aload_n hx hb dX0_settle_5 rfl (lv_at hl 0 rfl) ?_
  refine gf_X0_9 hx hb hG hown hKX hP 0 rfl rfl dX0_settle_6 ?_
  refine gf_X0_55 hx hb hG hown hKX hP 13 rfl rfl dX0_settle_9 ?_
  refine cRwVV (q0 := 0) (ci := 0) mw11_18 mw11_19 mw11_20 mw1_21 mw11_21 rfl rfl hd_X0_payAt hx hb hml hown hG hKX (c_X0_payAt l D cy ol os u1.1 u1.2.1 u1.2.2.1 u1.2.2.2.1 ol_most ol_paid ol_back u1.2.2.2.2.1 u1.2.2.2.2.2.1 u1.2.2.2.2.2.2.1 ol_ringLeft ol_ringPaid ol_paidInAll ol_over os_kind os_limit os_retention os_quota os_refers os_lossNow os_lossNow n u1.2.2.2.2.2.2.2 (fun k => (u1.2.2.2.2.1 k).toNatClampNeg) hn (by subst hw1; exact build_le) (by subst hw1; exact build_first hn)) ⟨Nat.le_of_ble_eq_true rfl, Nat.le_of_ble_eq_true rfl⟩ ⟨Nat.zero_le _, Nat.zero_le _⟩ hP hD hS hA [0, 1, 2, 3, 4, 5, 6, 7, 8, 9, 10, 11, 12, 13, 14, 15, 16, 17, 18] [] [0, 1, 2, 3, 4, 5, 6, 7, 8, 9, 10, 11, 12, 13, 14, 15, 16, 17, 18] (wr := []) (wn := fun u12 => (wX0 cy ol (os 0) u1.1 u1.2.1 u1.2.2.1 u1.2.2.2.1 u12.1 u12.2.1 ol_back u1.2.2.2.2.1 u1.2.2.2.2.2.1 u1.2.2.2.2.2.2.1 u12.2.2.1 u12.2.2.2.1 (nI u1.2.2.2.2.2.2.2) u12.2.2.2.2.1 u12.2.2.2.2.2) ++ (wX3 cy os os_kind os_limit os_retention os_quota os_refers (nI n) os_lossNow)) rfl (by decide) rfl (by decide) (by decide) (fun _ => rfl) (by decide) rfl rfl hl.1 rfl (Nat.le_of_ble_eq_true rfl) dX0_settle_12 (fun u12 H locs hw12 hP hD hS => ?_)
  exact W.vret hx hb hr (fun t ht hW => ⟨⟨(u1.1, u1.2.1, u1.2.2.1, u1.2.2.2.1, u12.1, u12.2.1, u1.2.2.2.2.1, u1.2.2.2.2.2.1, u1.2.2.2.2.2.2.1, u12.2.2.1, u12.2.2.2.1, u1.2.2.2.2.2.2.2, u12.2.2.2.2.1, u12.2.2.2.2.2), rfl, by subst hw12; subst hw1; unfold f_X0_settle; rfl, by rw [ht]; exact hP, hD⟩, hS.F ht⟩) hS.2.2 dX0_settle_15
def bd_X0_giveBack_9 (ol_paid : Nat → Int32) (ol_ringBits : Nat → Int32) (n : Nat) (r : Nat) (k9 : Nat) (z9 : Int32 × (Nat → Int32)) : Int32 × (Nat → Int32) :=
  ((z9.1 - (f_X0_dealpb ol_paid z9.2 z9.1 (ol_ringBits (r - 1 - k9)) n).1), (f_X0_dealpb ol_paid z9.2 z9.1 (ol_ringBits (r - 1 - k9)) n).2)
def f_X0_giveBack (ol_paid : Nat → Int32) (ol_back : Nat → Int32) (ol_ringBits : Nat → Int32) (v : Int32) (n : Nat) (r : Nat) : (Nat → Int32) :=
  (itr (bd_X0_giveBack_9 ol_paid ol_ringBits n r) r (v, ol_back)).2
set_option maxHeartbeats 4000000 in
set_option maxRecDepth 100000 in
theorem c_X0_giveBack (l : Launch) (D : va_G) (cy : Nat → ClassId) (ol : Nat → Nat) (os : Nat → Nat) (ol_reach : Nat → Int32) (ol_ringWith : Nat → Int32) (ol_rungOf : Nat → Int32) (ol_ringOf : Nat → Int32) (ol_most : Nat → Int32) (ol_paid : Nat → Int32) (ol_back : Nat → Int32) (ol_ringFirst : Nat → Int32) (ol_ringBits : Nat → Int32) (ol_ringRung : Nat → Int32) (ol_ringLeft : Nat → Int32) (ol_ringPaid : Nat → Int32) (ol_paidInAll : Int32) (ol_over : Int32) (os_kind : Nat → Int32) (os_limit : Nat → Int32) (os_retention : Nat → Int32) (os_quota : Nat → Int32) (os_refers : Nat → Int32) (os_lossNow : Int32) (v : Int32) (n : Nat) (r : Nat) (hn : n ≤ 6) (hrn : r ≤ 6) : RwV (S := (Nat → Int32)) l D cy yX0_giveBack (.code yX0_giveBack cX0_giveBack 4 none) 3 ((wX0 cy ol (os 0) ol_reach ol_ringWith ol_rungOf ol_ringOf ol_most ol_paid ol_back ol_ringFirst ol_ringBits ol_ringRung ol_ringLeft ol_ringPaid (nI r) ol_paidInAll ol_over) ++ (wX3 cy os os_kind os_limit os_retention os_quota os_refers (nI n) os_lossNow)) [.ref (ol 0), .int v] (fun u => u = f_X0_giveBack ol_paid ol_back ol_ringBits v n r) (fun u => (wX0 cy ol (os 0) ol_reach ol_ringWith ol_rungOf ol_ringOf ol_most ol_paid u ol_ringFirst ol_ringBits ol_ringRung ol_ringLeft ol_ringPaid (nI r) ol_paidInAll ol_over) ++ (wX3 cy os os_kind os_limit os_retention os_quota os_refers (nI n) os_lossNow)) := by
  intro sz
  refine Met.ofW (cc := cX0_giveBack) (maxL := 4) (ret := none) (by decide) rfl ?_
  intro pP eE s0 mM args below meth cC s₁ B hml hv
  obtain ⟨rfl, hsz, hP, hKX, hD0⟩ := hv
  have hx := B.exec
  have hb := B.bytes
  have hr := B.returns
  have hG := gw_hts (atoms_spec (ws := _) B.pre)
  have hown : s0.vm.findClass RX0 = some mM.cls := findClass_of_methodNamed B.named
  have hlocks := B.notSynchronized
  subst hsz
  have hD := hD0.self (sz := s0.heap.size)
  generalize hAe : va_A ((wX0 cy ol (os 0) ol_reach ol_ringWith ol_rungOf ol_ringOf ol_most ol_paid ol_back ol_ringFirst ol_ringBits ol_ringRung ol_ringLeft ol_ringPaid (nI r) ol_paidInAll ol_over) ++ (wX3 cy os os_kind os_limit os_retention os_quota os_refers (nI n) os_lossNow)) s0.heap.size = A at hD ⊢
  have hA : ∀ q : Nat, s0.heap.size ≤ q → A q := fun q h => by rw [← hAe]; exact Or.inr h
  have hS : va_S A s0.heap s0.heap [] := va_S.rf
  have hl := lv_entry ([.ref (ol 0), .int v]) (n := 4) (Nat.le_of_ble_eq_true rfl)
  rw [lg_entry_eq]
  generalize (lg_sl ([.ref (ol 0), .int v]) ++ List.replicate (4 - (lg_sl ([.ref (ol 0), .int v])).length) Slot.unset).toArray = ls at hl ⊢
  have hl : lv_has ls 4 [(0, .ref (ol 0)), (1, .int v)] := hl
  refine lv_iload_n hx hb dX0_giveBack_0 rfl (lv_at hl 1 rfl) ?_
  refine lv_istore_n (lv' := [(2, .int v), (0, .ref (ol 0)), (1, .int v)]) hx hb dX0_giveBack_1 rfl hl (by decide) rfl (fun ls hl => ?_)
  refine lv_aload_n hx hb dX0_giveBack_2 rfl (lv_at hl 1 rfl) ?_
  refine gf_X0_100 hx hb hG hown hKX hP 0 rfl rfl dX0_giveBack_3 ?_
  refine lv_iconst (v := (1 : Int32)) hx hb dX0_giveBack_6 (by decide) ?_
  refine lv_isub hx hb dX0_giveBack_7 ?_
  refine lv_istore_n (lv' := [(3, .int (nI r - (1 : Int32))), (2, .int v), (0, .ref (ol 0)), (1, .int v)]) hx hb dX0_giveBack_8 rfl hl (by decide) rfl (fun ls hl => ?_)
  refine loopW (bd_X0_giveBack_9 ol_paid ol_ringBits n r) (v, ol_back) r (fun k9 z9 => [(3, .int (nI (r - k9) - (1 : Int32))), (2, .int z9.1), (0, .ref (ol 0)), (1, .int v)]) (fun k9 z9 => (wX0 cy ol (os 0) ol_reach ol_ringWith ol_rungOf ol_ringOf ol_most ol_paid z9.2 ol_ringFirst ol_ringBits ol_ringRung ol_ringLeft ol_ringPaid (nI r) ol_paidInAll ol_over) ++ (wX3 cy os os_kind os_limit os_retention os_quota os_refers (nI n) os_lossNow)) hP hD hS (lv_sub hl [0, 1, 2, 3] rfl) (fun k9 z9 H locs ls hk9 hz9 hP hD hS hl ih9 => ?_)
  refine lv_iload_n hx hb dX0_giveBack_9 rfl (lv_at hl 0 rfl) ?_
  refine lv_if_lt (tgt := 41) hx hb dX0_giveBack_10 (by decide) (fun c1 => ?_) (fun c1 => ?_)
  · have e_k9 : r = k9 := Nat.le_antisymm ((dn_lt (N := r) (j := k9) (by omega) hk9).mp c1) hk9
    subst e_k9
    exact W.vret hx hb hr (fun t ht hW => ⟨⟨z9.2, rfl, by subst hz9; unfold f_X0_giveBack; rfl, by rw [ht]; exact hP, hD⟩, hS.F ht⟩) hS.2.2 dX0_giveBack_41
  · have hlt9 : k9 < r := Nat.lt_of_not_le (fun qq_ => c1 ((dn_lt (N := r) (j := k9) (by omega) hk9).mpr qq_))
    rw [dn_in hlt9] at hl
    refine lv_iload_n hx hb dX0_giveBack_13 rfl (lv_at hl 1 rfl) ?_
    refine lv_aload_n hx hb dX0_giveBack_14 rfl (lv_at hl 2 rfl) ?_
    refine lv_iload_n hx hb dX0_giveBack_15 rfl (lv_at hl 1 rfl) ?_
    refine lv_aload_n hx hb dX0_giveBack_16 rfl (lv_at hl 2 rfl) ?_
    refine gf_X0_40 hx hb hG hown hKX hP 0 rfl rfl dX0_giveBack_17 ?_
    refine lv_iload_n hx hb dX0_giveBack_20 rfl (lv_at hl 0 rfl) ?_
    refine iald_n hx hb hKX hP 9 rfl rfl (by omega) (by decide) dX0_giveBack_21 ?_
    refine lv_aload_n hx hb dX0_giveBack_22 rfl (lv_at hl 2 rfl) ?_
    refine gf_X0_31 hx hb hG hown hKX hP 0 rfl rfl dX0_giveBack_23 ?_
    refine lv_aload_n hx hb dX0_giveBack_26 rfl (lv_at hl 2 rfl) ?_
    refine gf_X0_34 hx hb hG hown hKX hP 0 rfl rfl dX0_giveBack_27 ?_
    refine cRwV (q0 := 0) (ci := 0) mw13_9 mw13_10 mw13_11 mw1_21 mw13_12 rfl rfl hd_X0_deal hx hb hml hown hG hKX (c_X0_dealpb l D cy ol os ol_reach ol_ringWith ol_rungOf ol_ringOf ol_most ol_paid z9.2 ol_ringFirst ol_ringBits ol_ringRung ol_ringLeft ol_ringPaid (nI r) ol_paidInAll ol_over os_kind os_limit os_retention os_quota os_refers os_lossNow z9.1 (ol_ringBits (r - 1 - k9)) n hn) ⟨Nat.le_of_ble_eq_true rfl, Nat.le_of_ble_eq_true rfl⟩ ⟨Nat.zero_le _, Nat.zero_le _⟩ hP hD hS hA [0, 1, 2, 3, 4, 5, 6, 7, 8, 9, 10, 11, 12, 13, 14, 15, 16, 17, 18] [] [0, 1, 2, 3, 4, 5, 6, 7, 8, 9, 10, 11, 12, 13, 14, 15, 16, 17, 18] (wr := []) (wn := fun u30 => (wX0 cy ol (os 0) ol_reach ol_ringWith ol_rungOf ol_ringOf ol_most ol_paid u30 ol_ringFirst ol_ringBits ol_ringRung ol_ringLeft ol_ringPaid (nI r) ol_paidInAll ol_over) ++ (wX3 cy os os_kind os_limit os_retention os_quota os_refers (nI n) os_lossNow)) rfl (by decide) rfl (by decide) (by decide) (fun _ => rfl) (by decide) rfl rfl hl.1 rfl (Nat.le_of_ble_eq_true rfl) dX0_giveBack_30 (fun r30 u30 H locs hw30 hP hD hS => ?_)
    refine lv_isub hx hb dX0_giveBack_33 ?_
    refine lv_istore_n (lv' := [(2, .int (z9.1 - r30)), (3, .int (nI (r - 1 - k9))), (0, .ref (ol 0)), (1, .int v)]) hx hb dX0_giveBack_34 rfl hl (by decide) rfl (fun ls hl => ?_)
    refine lv_iinc (v := (nI (r - (k9 + 1)) - (1 : Int32))) (lv' := [(3, .int (nI (r - (k9 + 1)) - (1 : Int32))), (2, .int (z9.1 - r30)), (0, .ref (ol 0)), (1, .int v)]) hx hb dX0_giveBack_35 hl (k := 1) rfl (dn_nx hlt9) (by decide) rfl (fun ls hl => ?_)
    refine lv_goto (tgt := 9) hx hb dX0_giveBack_38 (by decide) ?_
    exact ih9 ((z9.1 - r30), u30) _ _ _ hlt9 (by obtain rfl := congrArg Prod.fst hw30; obtain rfl := congrArg Prod.snd hw30; unfold bd_X0_giveBack_9; rfl) hP hD hS (lv_sub hl [0, 1, 2, 3] rfl)
def bd_X0_ringsOfSeveral_4 (ol_ringBits : Nat → Int32) (k4 : Nat) (z4 : Int32) : Int32 :=
  if (f_J6_bitCount_0f7a4 (ol_ringBits k4)) ≤ (1 : Int32) then (z4 + (0 : Int32)) else (z4 + (1 : Int32))
def f_X0_ringsOfSeveral (ol_ringBits : Nat → Int32) (r : Nat) : Int32 :=
  (itr (bd_X0_ringsOfSeveral_4 ol_ringBits) r (0 : Int32))
set_option maxHeartbeats 4000000 in
set_option maxRecDepth 100000 in
theorem c_X0_ringsOfSeveral (l : Launch) (D : va_G) (cy : Nat → ClassId) (ol : Nat → Nat) (os : Nat → Nat) (ol_reach : Nat → Int32) (ol_ringWith : Nat → Int32) (ol_rungOf : Nat → Int32) (ol_ringOf : Nat → Int32) (ol_most : Nat → Int32) (ol_paid : Nat → Int32) (ol_back : Nat → Int32) (ol_ringFirst : Nat → Int32) (ol_ringBits : Nat → Int32) (ol_ringRung : Nat → Int32) (ol_ringLeft : Nat → Int32) (ol_ringPaid : Nat → Int32) (ol_paidInAll : Int32) (ol_over : Int32) (os_kind : Nat → Int32) (os_limit : Nat → Int32) (os_retention : Nat → Int32) (os_quota : Nat → Int32) (os_refers : Nat → Int32) (os_lossNow : Int32) (n : Nat) (r : Nat) (hn : n ≤ 6) (hrn : r ≤ 6) : RoI l D cy yX0_ringsOfSeveral (.code yX0_ringsOfSeveral cX0_ringsOfSeveral 3 (some .int)) 1 ((wX0 cy ol (os 0) ol_reach ol_ringWith ol_rungOf ol_ringOf ol_most ol_paid ol_back ol_ringFirst ol_ringBits ol_ringRung ol_ringLeft ol_ringPaid (nI r) ol_paidInAll ol_over) ++ (wX3 cy os os_kind os_limit os_retention os_quota os_refers (nI n) os_lossNow)) [.ref (ol 0)] (f_X0_ringsOfSeveral ol_ringBits r) := by
  refine Met.ofW (cc := cX0_ringsOfSeveral) (maxL := 3) (ret := (some .int)) (by decide) rfl ?_
  intro pP eE s0 mM args below meth cC s₁ B hml hv
  obtain ⟨rfl, hP, hKX⟩ := hv
  have hx := B.exec
  have hb := B.bytes
  have hr := B.returns
  have hG := gw_hts (atoms_spec (ws := _) B.pre)
  have hown : s0.vm.findClass RX0 = some mM.cls := findClass_of_methodNamed B.named
  have hlocks := B.notSynchronized
  have hl := lv_entry ([.ref (ol 0)]) (n := 3) (Nat.le_of_ble_eq_true rfl)
  rw [lg_entry_eq]
  generalize (lg_sl ([.ref (ol 0)]) ++ List.replicate (3 - (lg_sl ([.ref (ol 0)])).length) Slot.unset).toArray = ls at hl ⊢
  have hl : lv_has ls 3 [(0, .ref (ol 0))] := hl
  refine lv_iconst (v := (0 : Int32)) hx hb dX0_ringsOfSeveral_0 (by decide) ?_
  refine lv_istore_n (lv' := [(1, .int (0 : Int32)), (0, .ref (ol 0))]) hx hb dX0_ringsOfSeveral_1 rfl hl (by decide) rfl (fun ls hl => ?_)
  refine lv_iconst (v := (0 : Int32)) hx hb dX0_ringsOfSeveral_2 (by decide) ?_
  refine lv_istore_n (lv' := [(2, .int (0 : Int32)), (1, .int (0 : Int32)), (0, .ref (ol 0))]) hx hb dX0_ringsOfSeveral_3 rfl hl (by decide) rfl (fun ls hl => ?_)
  refine loopR (bd_X0_ringsOfSeveral_4 ol_ringBits) (0 : Int32) r (fun k4 z4 => [(2, .int (nI k4)), (1, .int z4), (0, .ref (ol 0))]) (lv_sub hl [0, 1, 2] rfl) (fun k4 z4 ls hk4 hz4 hl ih4 => ?_)
  refine lv_iload_n hx hb dX0_ringsOfSeveral_4 rfl (lv_at hl 0 rfl) ?_
  refine lv_aload_n hx hb dX0_ringsOfSeveral_5 rfl (lv_at hl 2 rfl) ?_
  refine gf_X0_100 hx hb hG hown hKX hP 0 rfl rfl dX0_ringsOfSeveral_6 ?_
  refine lv_icmp_ge (tgt := 39) hx hb dX0_ringsOfSeveral_9 (by decide) (fun c1 => ?_) (fun c1 => ?_)
  · have e_k4 : r = k4 := Nat.le_antisymm ((le_n (N := r) (k := k4) rfl (by omega) (by omega)).mp c1) hk4
    subst e_k4
    refine lv_iload_n hx hb dX0_ringsOfSeveral_39 rfl (lv_at hl 1 rfl) ?_
    exact W.iret (v := z4) hx hb hr (fun t ht hW => ⟨_, rfl, by subst hz4; unfold f_X0_ringsOfSeveral; rfl, ht⟩) (fun q hq => by cases hq) dX0_ringsOfSeveral_40
  · have hlt4 : k4 < r := Nat.lt_of_not_le (fun qq_ => c1 ((le_n (N := r) (k := k4) rfl (by omega) (by omega)).mpr qq_))
    refine lv_iload_n hx hb dX0_ringsOfSeveral_12 rfl (lv_at hl 1 rfl) ?_
    refine lv_aload_n hx hb dX0_ringsOfSeveral_13 rfl (lv_at hl 2 rfl) ?_
    refine gf_X0_40 hx hb hG hown hKX hP 0 rfl rfl dX0_ringsOfSeveral_14 ?_
    refine lv_iload_n hx hb dX0_ringsOfSeveral_17 rfl (lv_at hl 0 rfl) ?_
    refine iald_n hx hb hKX hP 9 rfl rfl (by omega) (by decide) dX0_ringsOfSeveral_18 ?_
    refine cRoS mw13_17 mw13_18 mw13_19 mw13_20 hd_J6_bitCount_0f7a4 hx hb hml hown hG hKX (c_J6_bitCount_0f7a4 l D cy (ol_ringBits k4)) ⟨Nat.le_of_ble_eq_true rfl, Nat.le_of_ble_eq_true rfl⟩ ⟨Nat.zero_le _, Nat.zero_le _⟩ (hP.sub [] rfl) rfl hl.1 rfl (Nat.le_of_ble_eq_true rfl) dX0_ringsOfSeveral_19 ?_
    refine lv_iconst (v := (1 : Int32)) hx hb dX0_ringsOfSeveral_22 (by decide) ?_
    refine lv_icmp_le (tgt := 30) hx hb dX0_ringsOfSeveral_23 (by decide) (fun c2 => ?_) (fun c2 => ?_)
    · refine lv_iconst (v := (0 : Int32)) hx hb dX0_ringsOfSeveral_30 (by decide) ?_
      refine lv_iadd hx hb dX0_ringsOfSeveral_31 ?_
      refine lv_istore_n (lv' := [(1, .int (z4 + (0 : Int32))), (2, .int (nI k4)), (0, .ref (ol 0))]) hx hb dX0_ringsOfSeveral_32 rfl hl (by decide) rfl (fun ls hl => ?_)
      refine lv_iinc (v := nI (k4 + 1)) (lv' := [(2, .int (nI (k4 + 1))), (1, .int (z4 + (0 : Int32))), (0, .ref (ol 0))]) hx hb dX0_ringsOfSeveral_33 hl (k := 1) rfl (nI_1 _) (by decide) rfl (fun ls hl => ?_)
      refine lv_goto (tgt := 4) hx hb dX0_ringsOfSeveral_36 (by decide) ?_
      exact ih4 (z4 + (0 : Int32)) _ hlt4 (by unfold bd_X0_ringsOfSeveral_4; rw [if_pos c2] <;> rfl) (lv_sub hl [0, 1, 2] rfl)
    · refine lv_iconst (v := (1 : Int32)) hx hb dX0_ringsOfSeveral_26 (by decide) ?_
      refine lv_goto (tgt := 31) hx hb dX0_ringsOfSeveral_27 (by decide) ?_
      refine lv_iadd hx hb dX0_ringsOfSeveral_31 ?_
      refine lv_istore_n (lv' := [(1, .int (z4 + (1 : Int32))), (2, .int (nI k4)), (0, .ref (ol 0))]) hx hb dX0_ringsOfSeveral_32 rfl hl (by decide) rfl (fun ls hl => ?_)
      refine lv_iinc (v := nI (k4 + 1)) (lv' := [(2, .int (nI (k4 + 1))), (1, .int (z4 + (1 : Int32))), (0, .ref (ol 0))]) hx hb dX0_ringsOfSeveral_33 hl (k := 1) rfl (nI_1 _) (by decide) rfl (fun ls hl => ?_)
      refine lv_goto (tgt := 4) hx hb dX0_ringsOfSeveral_36 (by decide) ?_
      exact ih4 (z4 + (1 : Int32)) _ hlt4 (by unfold bd_X0_ringsOfSeveral_4; rw [if_neg c2] <;> rfl) (lv_sub hl [0, 1, 2] rfl)
def f_X0_greatestRung (ol_ringRung : Nat → Int32) (r : Nat) : Int32 :=
  if nI r = (0 : Int32) then (-5 : Int32) else (ol_ringRung (r - 1))
set_option maxHeartbeats 4000000 in
set_option maxRecDepth 100000 in
theorem c_X0_greatestRung (l : Launch) (D : va_G) (cy : Nat → ClassId) (ol : Nat → Nat) (os : Nat → Nat) (ol_reach : Nat → Int32) (ol_ringWith : Nat → Int32) (ol_rungOf : Nat → Int32) (ol_ringOf : Nat → Int32) (ol_most : Nat → Int32) (ol_paid : Nat → Int32) (ol_back : Nat → Int32) (ol_ringFirst : Nat → Int32) (ol_ringBits : Nat → Int32) (ol_ringRung : Nat → Int32) (ol_ringLeft : Nat → Int32) (ol_ringPaid : Nat → Int32) (ol_paidInAll : Int32) (ol_over : Int32) (os_kind : Nat → Int32) (os_limit : Nat → Int32) (os_retention : Nat → Int32) (os_quota : Nat → Int32) (os_refers : Nat → Int32) (os_lossNow : Int32) (n : Nat) (r : Nat) (hn : n ≤ 6) (hrn : r ≤ 6) : RoI l D cy yX0_greatestRung (.code yX0_greatestRung cX0_greatestRung 1 (some .int)) 0 ((wX0 cy ol (os 0) ol_reach ol_ringWith ol_rungOf ol_ringOf ol_most ol_paid ol_back ol_ringFirst ol_ringBits ol_ringRung ol_ringLeft ol_ringPaid (nI r) ol_paidInAll ol_over) ++ (wX3 cy os os_kind os_limit os_retention os_quota os_refers (nI n) os_lossNow)) [.ref (ol 0)] (f_X0_greatestRung ol_ringRung r) := by
  refine Met.ofW (cc := cX0_greatestRung) (maxL := 1) (ret := (some .int)) (by decide) rfl ?_
  intro pP eE s0 mM args below meth cC s₁ B hml hv
  obtain ⟨rfl, hP, hKX⟩ := hv
  have hx := B.exec
  have hb := B.bytes
  have hr := B.returns
  have hG := gw_hts (atoms_spec (ws := _) B.pre)
  have hown : s0.vm.findClass RX0 = some mM.cls := findClass_of_methodNamed B.named
  have hlocks := B.notSynchronized
  have hl := lv_entry ([.ref (ol 0)]) (n := 1) (Nat.le_of_ble_eq_true rfl)
  rw [lg_entry_eq]
  generalize (lg_sl ([.ref (ol 0)]) ++ List.replicate (1 - (lg_sl ([.ref (ol 0)])).length) Slot.unset).toArray = ls at hl ⊢
  have hl : lv_has ls 1 [(0, .ref (ol 0))] := hl
  refine lv_aload_n hx hb dX0_greatestRung_0 rfl (lv_at hl 0 rfl) ?_
  refine gf_X0_100 hx hb hG hown hKX hP 0 rfl rfl dX0_greatestRung_1 ?_
  refine lv_if_ne (tgt := 12) hx hb dX0_greatestRung_4 (by decide) (fun c1 => ?_) (fun c1 => ?_)
  · have hr0 : r ≠ 0 := fun q => c1 (by rw [q]; rfl)
    refine lv_aload_n hx hb dX0_greatestRung_12 rfl (lv_at hl 0 rfl) ?_
    refine gf_X0_43 hx hb hG hown hKX hP 0 rfl rfl dX0_greatestRung_13 ?_
    refine lv_aload_n hx hb dX0_greatestRung_16 rfl (lv_at hl 0 rfl) ?_
    refine gf_X0_100 hx hb hG hown hKX hP 0 rfl rfl dX0_greatestRung_17 ?_
    refine lv_iconst (v := (1 : Int32)) hx hb dX0_greatestRung_20 (by decide) ?_
    refine lv_isub hx hb dX0_greatestRung_21 ?_
    refine iald_n hx hb hKX hP 10 rfl (sN (a := r) (b := 1) rfl rfl (by omega)) (by omega) (by decide) dX0_greatestRung_22 ?_
    exact W.iret (v := (ol_ringRung (r - 1))) hx hb hr (fun t ht hW => ⟨_, rfl, by unfold f_X0_greatestRung; rw [if_neg c1] <;> rfl, ht⟩) (fun q hq => by cases hq) dX0_greatestRung_23
  · refine lv_bipush (v := (-5 : Int32)) hx hb dX0_greatestRung_7 (by decide) ?_
    refine lv_goto (tgt := 23) hx hb dX0_greatestRung_9 (by decide) ?_
    exact W.iret (v := (-5 : Int32)) hx hb hr (fun t ht hW => ⟨_, rfl, by unfold f_X0_greatestRung; rw [if_pos c1] <;> rfl, ht⟩) (fun q hq => by cases hq) dX0_greatestRung_23
def bd_X0_payers_4 (ol_paid : Nat → Int32) (k4 : Nat) (z4 : Int32) : Int32 :=
  if (ol_paid k4) ≤ (0 : Int32) then (z4 + (0 : Int32)) else (z4 + (1 : Int32))
def f_X0_payers (ol_paid : Nat → Int32) (n : Nat) : Int32 :=
  (itr (bd_X0_payers_4 ol_paid) n (0 : Int32))
set_option maxHeartbeats 4000000 in
set_option maxRecDepth 100000 in
theorem c_X0_payers (l : Launch) (D : va_G) (cy : Nat → ClassId) (ol : Nat → Nat) (os : Nat → Nat) (ol_reach : Nat → Int32) (ol_ringWith : Nat → Int32) (ol_rungOf : Nat → Int32) (ol_ringOf : Nat → Int32) (ol_most : Nat → Int32) (ol_paid : Nat → Int32) (ol_back : Nat → Int32) (ol_ringFirst : Nat → Int32) (ol_ringBits : Nat → Int32) (ol_ringRung : Nat → Int32) (ol_ringLeft : Nat → Int32) (ol_ringPaid : Nat → Int32) (ol_rings : Int32) (ol_paidInAll : Int32) (ol_over : Int32) (os_kind : Nat → Int32) (os_limit : Nat → Int32) (os_retention : Nat → Int32) (os_quota : Nat → Int32) (os_refers : Nat → Int32) (os_lossNow : Int32) (n : Nat) (hn : n ≤ 6) : RoI l D cy yX0_payers (.code yX0_payers cX0_payers 3 (some .int)) 0 ((wX0 cy ol (os 0) ol_reach ol_ringWith ol_rungOf ol_ringOf ol_most ol_paid ol_back ol_ringFirst ol_ringBits ol_ringRung ol_ringLeft ol_ringPaid ol_rings ol_paidInAll ol_over) ++ (wX3 cy os os_kind os_limit os_retention os_quota os_refers (nI n) os_lossNow)) [.ref (ol 0)] (f_X0_payers ol_paid n) := by
  refine Met.ofW (cc := cX0_payers) (maxL := 3) (ret := (some .int)) (by decide) rfl ?_
  intro pP eE s0 mM args below meth cC s₁ B hml hv
  obtain ⟨rfl, hP, hKX⟩ := hv
  have hx := B.exec
  have hb := B.bytes
  have hr := B.returns
  have hG := gw_hts (atoms_spec (ws := _) B.pre)
  have hown : s0.vm.findClass RX0 = some mM.cls := findClass_of_methodNamed B.named
  have hlocks := B.notSynchronized
  have hl := lv_entry ([.ref (ol 0)]) (n := 3) (Nat.le_of_ble_eq_true rfl)
  rw [lg_entry_eq]
  generalize (lg_sl ([.ref (ol 0)]) ++ List.replicate (3 - (lg_sl ([.ref (ol 0)])).length) Slot.unset).toArray = ls at hl ⊢
  have hl : lv_has ls 3 [(0, .ref (ol 0))] := hl
  refine lv_iconst (v := (0 : Int32)) hx hb dX0_payers_0 (by decide) ?_
  refine lv_istore_n (lv' := [(1, .int (0 : Int32)), (0, .ref (ol 0))]) hx hb dX0_payers_1 rfl hl (by decide) rfl (fun ls hl => ?_)
  refine lv_iconst (v := (0 : Int32)) hx hb dX0_payers_2 (by decide) ?_
  refine lv_istore_n (lv' := [(2, .int (0 : Int32)), (1, .int (0 : Int32)), (0, .ref (ol 0))]) hx hb dX0_payers_3 rfl hl (by decide) rfl (fun ls hl => ?_)
  refine loopR (bd_X0_payers_4 ol_paid) (0 : Int32) n (fun k4 z4 => [(2, .int (nI k4)), (1, .int z4), (0, .ref (ol 0))]) (lv_sub hl [0, 1, 2] rfl) (fun k4 z4 ls hk4 hz4 hl ih4 => ?_)
  refine lv_iload_n hx hb dX0_payers_4 rfl (lv_at hl 0 rfl) ?_
  refine lv_aload_n hx hb dX0_payers_5 rfl (lv_at hl 2 rfl) ?_
  refine gf_X0_9 hx hb hG hown hKX hP 0 rfl rfl dX0_payers_6 ?_
  refine gf_X0_77 hx hb hG hown hKX hP 13 rfl rfl dX0_payers_9 ?_
  refine lv_icmp_ge (tgt := 38) hx hb dX0_payers_12 (by decide) (fun c1 => ?_) (fun c1 => ?_)
  · have e_k4 : n = k4 := Nat.le_antisymm ((le_n (N := n) (k := k4) rfl (by omega) (by omega)).mp c1) hk4
    subst e_k4
    refine lv_iload_n hx hb dX0_payers_38 rfl (lv_at hl 1 rfl) ?_
    exact W.iret (v := z4) hx hb hr (fun t ht hW => ⟨_, rfl, by subst hz4; unfold f_X0_payers; rfl, ht⟩) (fun q hq => by cases hq) dX0_payers_39
  · have hlt4 : k4 < n := Nat.lt_of_not_le (fun qq_ => c1 ((le_n (N := n) (k := k4) rfl (by omega) (by omega)).mpr qq_))
    refine lv_iload_n hx hb dX0_payers_15 rfl (lv_at hl 1 rfl) ?_
    refine lv_aload_n hx hb dX0_payers_16 rfl (lv_at hl 2 rfl) ?_
    refine gf_X0_31 hx hb hG hown hKX hP 0 rfl rfl dX0_payers_17 ?_
    refine lv_iload_n hx hb dX0_payers_20 rfl (lv_at hl 0 rfl) ?_
    refine iald_n hx hb hKX hP 6 rfl rfl (by omega) (by decide) dX0_payers_21 ?_
    refine lv_if_le (tgt := 29) hx hb dX0_payers_22 (by decide) (fun c2 => ?_) (fun c2 => ?_)
    · refine lv_iconst (v := (0 : Int32)) hx hb dX0_payers_29 (by decide) ?_
      refine lv_iadd hx hb dX0_payers_30 ?_
      refine lv_istore_n (lv' := [(1, .int (z4 + (0 : Int32))), (2, .int (nI k4)), (0, .ref (ol 0))]) hx hb dX0_payers_31 rfl hl (by decide) rfl (fun ls hl => ?_)
      refine lv_iinc (v := nI (k4 + 1)) (lv' := [(2, .int (nI (k4 + 1))), (1, .int (z4 + (0 : Int32))), (0, .ref (ol 0))]) hx hb dX0_payers_32 hl (k := 1) rfl (nI_1 _) (by decide) rfl (fun ls hl => ?_)
      refine lv_goto (tgt := 4) hx hb dX0_payers_35 (by decide) ?_
      exact ih4 (z4 + (0 : Int32)) _ hlt4 (by unfold bd_X0_payers_4; rw [if_pos c2] <;> rfl) (lv_sub hl [0, 1, 2] rfl)
    · refine lv_iconst (v := (1 : Int32)) hx hb dX0_payers_25 (by decide) ?_
      refine lv_goto (tgt := 30) hx hb dX0_payers_26 (by decide) ?_
      refine lv_iadd hx hb dX0_payers_30 ?_
      refine lv_istore_n (lv' := [(1, .int (z4 + (1 : Int32))), (2, .int (nI k4)), (0, .ref (ol 0))]) hx hb dX0_payers_31 rfl hl (by decide) rfl (fun ls hl => ?_)
      refine lv_iinc (v := nI (k4 + 1)) (lv' := [(2, .int (nI (k4 + 1))), (1, .int (z4 + (1 : Int32))), (0, .ref (ol 0))]) hx hb dX0_payers_32 hl (k := 1) rfl (nI_1 _) (by decide) rfl (fun ls hl => ?_)
      refine lv_goto (tgt := 4) hx hb dX0_payers_35 (by decide) ?_
      exact ih4 (z4 + (1 : Int32)) _ hlt4 (by unfold bd_X0_payers_4; rw [if_neg c2] <;> rfl) (lv_sub hl [0, 1, 2] rfl)
def bd_X0_firstOtherwise_2 (ol_paid : Nat → Int32) (ow_first : Nat → Int32) (ow_second : Nat → Int32) (n : Nat) (k2 : Nat) : Option Int32 :=
  if (f_X3_isContract (nI n) (ow_first k2)) = (0 : Int32) then (some (nI k2)) else (if (ol_paid (ow_first k2).toNatClampNeg) = (ow_second k2) then none else (some (nI k2)))
def f_X0_firstOtherwise (ol_paid : Nat → Int32) (ow_first : Nat → Int32) (ow_second : Nat → Int32) (n : Nat) (q : Nat) : Int32 :=
  (srch (bd_X0_firstOtherwise_2 ol_paid ow_first ow_second n) q 0).getD (-5 : Int32)
set_option maxHeartbeats 4000000 in
set_option maxRecDepth 100000 in
theorem c_X0_firstOtherwise (l : Launch) (D : va_G) (cy : Nat → ClassId) (ol : Nat → Nat) (os : Nat → Nat) (ow : Nat → Nat) (ol_reach : Nat → Int32) (ol_ringWith : Nat → Int32) (ol_rungOf : Nat → Int32) (ol_ringOf : Nat → Int32) (ol_most : Nat → Int32) (ol_paid : Nat → Int32) (ol_back : Nat → Int32) (ol_ringFirst : Nat → Int32) (ol_ringBits : Nat → Int32) (ol_ringRung : Nat → Int32) (ol_ringLeft : Nat → Int32) (ol_ringPaid : Nat → Int32) (ol_rings : Int32) (ol_paidInAll : Int32) (ol_over : Int32) (os_kind : Nat → Int32) (os_limit : Nat → Int32) (os_retention : Nat → Int32) (os_quota : Nat → Int32) (os_refers : Nat → Int32) (os_lossNow : Int32) (ow_most : Int32) (ow_first : Nat → Int32) (ow_second : Nat → Int32) (n : Nat) (q : Nat) (hn : n ≤ 6) (hq8 : q ≤ 8) : RoI l D cy yX0_firstOtherwise (.code yX0_firstOtherwise cX0_firstOtherwise 4 (some .int)) 1 ((wX0 cy ol (os 0) ol_reach ol_ringWith ol_rungOf ol_ringOf ol_most ol_paid ol_back ol_ringFirst ol_ringBits ol_ringRung ol_ringLeft ol_ringPaid ol_rings ol_paidInAll ol_over) ++ (wX3 cy os os_kind os_limit os_retention os_quota os_refers (nI n) os_lossNow) ++ (wX1 cy ow ow_most ow_first ow_second (nI q))) [.ref (ol 0), .ref (ow 0)] (f_X0_firstOtherwise ol_paid ow_first ow_second n q) := by
  refine Met.ofW (cc := cX0_firstOtherwise) (maxL := 4) (ret := (some .int)) (by decide) rfl ?_
  intro pP eE s0 mM args below meth cC s₁ B hml hv
  obtain ⟨rfl, hP, hKX⟩ := hv
  have hx := B.exec
  have hb := B.bytes
  have hr := B.returns
  have hG := gw_hts (atoms_spec (ws := _) B.pre)
  have hown : s0.vm.findClass RX0 = some mM.cls := findClass_of_methodNamed B.named
  have hlocks := B.notSynchronized
  have hl := lv_entry ([.ref (ol 0), .ref (ow 0)]) (n := 4) (Nat.le_of_ble_eq_true rfl)
  rw [lg_entry_eq]
  generalize (lg_sl ([.ref (ol 0), .ref (ow 0)]) ++ List.replicate (4 - (lg_sl ([.ref (ol 0), .ref (ow 0)])).length) Slot.unset).toArray = ls at hl ⊢
  have hl : lv_has ls 4 [(0, .ref (ol 0)), (1, .ref (ow 0))] := hl
  refine lv_iconst (v := (0 : Int32)) hx hb dX0_firstOtherwise_0 (by decide) ?_
  refine lv_istore_n (lv' := [(2, .int (0 : Int32)), (0, .ref (ol 0)), (1, .ref (ow 0))]) hx hb dX0_firstOtherwise_1 rfl hl (by decide) rfl (fun ls hl => ?_)
  refine loopS (bd_X0_firstOtherwise_2 ol_paid ow_first ow_second n) q (fun k2 => [(2, .int (nI k2)), (0, .ref (ol 0)), (1, .ref (ow 0))]) (lv_sub hl [0, 1, 2] rfl) (fun k2 ls hk2 hz2 hl ih2 => ?_)
  refine lv_iload_n hx hb dX0_firstOtherwise_2 rfl (lv_at hl 0 rfl) ?_
  refine lv_aload_n hx hb dX0_firstOtherwise_3 rfl (lv_at hl 2 rfl) ?_
  refine gf_X0_163 hx hb hG hown hKX hP 19 rfl rfl dX0_firstOtherwise_4 ?_
  refine lv_icmp_ge (tgt := 51) hx hb dX0_firstOtherwise_7 (by decide) (fun c1 => ?_) (fun c1 => ?_)
  · have e_k2 : q = k2 := Nat.le_antisymm ((le_n (N := q) (k := k2) rfl (by omega) (by omega)).mp c1) hk2
    subst e_k2
    refine lv_bipush (v := (-5 : Int32)) hx hb dX0_firstOtherwise_51 (by decide) ?_
    exact W.iret (v := (-5 : Int32)) hx hb hr (fun t ht hW => ⟨_, rfl, by unfold f_X0_firstOtherwise; rw [srch_none hz2, Option.getD_none] <;> rfl, ht⟩) (fun q hq => by cases hq) dX0_firstOtherwise_53
  · have hlt2 : k2 < q := Nat.lt_of_not_le (fun qq_ => c1 ((le_n (N := q) (k := k2) rfl (by omega) (by omega)).mpr qq_))
    refine lv_aload_n hx hb dX0_firstOtherwise_10 rfl (lv_at hl 2 rfl) ?_
    refine gf_X0_166 hx hb hG hown hKX hP 19 rfl rfl dX0_firstOtherwise_11 ?_
    refine lv_iload_n hx hb dX0_firstOtherwise_14 rfl (lv_at hl 0 rfl) ?_
    refine iald_n hx hb hKX hP 20 rfl rfl (by omega) (by decide) dX0_firstOtherwise_15 ?_
    refine lv_istore_n (lv' := [(3, .int (ow_first k2)), (2, .int (nI k2)), (0, .ref (ol 0)), (1, .ref (ow 0))]) hx hb dX0_firstOtherwise_16 rfl hl (by decide) rfl (fun ls hl => ?_)
    refine lv_aload_n hx hb dX0_firstOtherwise_17 rfl (lv_at hl 2 rfl) ?_
    refine gf_X0_9 hx hb hG hown hKX hP 0 rfl rfl dX0_firstOtherwise_18 ?_
    refine lv_iload_n hx hb dX0_firstOtherwise_21 rfl (lv_at hl 0 rfl) ?_
    refine cRoV (q0 := 0) (ci := 3) mw23_17 mw7_19 mw7_20 mw2_2 mw7_21 rfl rfl hd_X3_isContract hx hb hml hown hG hKX (c_X3_isContract l D cy os os_kind os_limit os_retention os_quota os_refers (nI n) os_lossNow (ow_first k2)) ⟨Nat.le_of_ble_eq_true rfl, Nat.le_of_ble_eq_true rfl⟩ ⟨Nat.zero_le _, Nat.zero_le _⟩ (hP.sub [13, 14, 15, 16, 17, 18] rfl) rfl rfl hl.1 rfl (Nat.le_of_ble_eq_true rfl) dX0_firstOtherwise_22 ?_
    refine lv_if_eq (tgt := 43) hx hb dX0_firstOtherwise_25 (by decide) (fun c2 => ?_) (fun c2 => ?_)
    · refine lv_iload_n hx hb dX0_firstOtherwise_43 rfl (lv_at hl 1 rfl) ?_
      exact W.iret (v := nI k2) hx hb hr (fun t ht hW => ⟨_, rfl, by unfold f_X0_firstOtherwise; rw [srch_some (r := nI k2) hz2 hlt2 (by unfold bd_X0_firstOtherwise_2; rw [if_pos c2] <;> rfl), Option.getD_some] <;> rfl, ht⟩) (fun q hq => by cases hq) dX0_firstOtherwise_44
    · obtain ⟨j44, hj44, hlj44, hcj44⟩ := isC_of (by omega) c2
      refine lv_aload_n hx hb dX0_firstOtherwise_28 rfl (lv_at hl 2 rfl) ?_
      refine gf_X0_31 hx hb hG hown hKX hP 0 rfl rfl dX0_firstOtherwise_29 ?_
      refine lv_iload_n hx hb dX0_firstOtherwise_32 rfl (lv_at hl 0 rfl) ?_
      refine iald_n hx hb hKX hP 6 rfl hcj44 (by omega) (by decide) dX0_firstOtherwise_33 ?_
      refine lv_aload_n hx hb dX0_firstOtherwise_34 rfl (lv_at hl 3 rfl) ?_
      refine gf_X0_172 hx hb hG hown hKX hP 19 rfl rfl dX0_firstOtherwise_35 ?_
      refine lv_iload_n hx hb dX0_firstOtherwise_38 rfl (lv_at hl 1 rfl) ?_
      refine iald_n hx hb hKX hP 21 rfl rfl (by omega) (by decide) dX0_firstOtherwise_39 ?_
      refine lv_icmp_eq (tgt := 45) hx hb dX0_firstOtherwise_40 (by decide) (fun c3 => ?_) (fun c3 => ?_)
      · refine lv_iinc (v := nI (k2 + 1)) (lv' := [(2, .int (nI (k2 + 1))), (3, .int (ow_first k2)), (0, .ref (ol 0)), (1, .ref (ow 0))]) hx hb dX0_firstOtherwise_45 hl (k := 1) rfl (nI_1 _) (by decide) rfl (fun ls hl => ?_)
        refine lv_goto (tgt := 2) hx hb dX0_firstOtherwise_48 (by decide) ?_
        exact ih2 _ hlt2 (by subst hj44; unfold bd_X0_firstOtherwise_2; rw [if_neg c2, if_pos c3] <;> rfl) (lv_sub hl [0, 2, 3] rfl)
      · refine lv_iload_n hx hb dX0_firstOtherwise_43 rfl (lv_at hl 1 rfl) ?_
        exact W.iret (v := nI k2) hx hb hr (fun t ht hW => ⟨_, rfl, by subst hj44; unfold f_X0_firstOtherwise; rw [srch_some (r := nI k2) hz2 hlt2 (by unfold bd_X0_firstOtherwise_2; rw [if_neg c2, if_neg c3] <;> rfl), Option.getD_some] <;> rfl, ht⟩) (fun q hq => by cases hq) dX0_firstOtherwise_44
def bd_X0_lastPayerAhead_18 (ol_paid : Nat → Int32) (ol_ringBits : Nat → Int32) (n : Nat) (q : Nat) (k4 : Nat) (k18 : Nat) : Option Int32 :=
  if (f_X6_has (ol_ringBits (q - 1 - k4)) (nI (n - 1 - k18))) = (0 : Int32) then none else (if (ol_paid (n - 1 - k18)) ≤ (0 : Int32) then none else (some (nI (n - 1 - k18))))
def bd_X0_lastPayerAhead_4 (ol_paid : Nat → Int32) (ol_ringBits : Nat → Int32) (n : Nat) (q : Nat) (k4 : Nat) : Option Int32 :=
  (srch (bd_X0_lastPayerAhead_18 ol_paid ol_ringBits n q k4) n 0).or none
def f_X0_lastPayerAhead (ol_paid : Nat → Int32) (ol_ringBits : Nat → Int32) (n : Nat) (q : Nat) : Int32 :=
  (srch (bd_X0_lastPayerAhead_4 ol_paid ol_ringBits n q) q 0).getD (99 : Int32)
set_option maxHeartbeats 4000000 in
set_option maxRecDepth 100000 in
theorem c_X0_lastPayerAhead (l : Launch) (D : va_G) (cy : Nat → ClassId) (ol : Nat → Nat) (os : Nat → Nat) (ol_reach : Nat → Int32) (ol_ringWith : Nat → Int32) (ol_rungOf : Nat → Int32) (ol_ringOf : Nat → Int32) (ol_most : Nat → Int32) (ol_paid : Nat → Int32) (ol_back : Nat → Int32) (ol_ringFirst : Nat → Int32) (ol_ringBits : Nat → Int32) (ol_ringRung : Nat → Int32) (ol_ringLeft : Nat → Int32) (ol_ringPaid : Nat → Int32) (ol_rings : Int32) (ol_paidInAll : Int32) (ol_over : Int32) (os_kind : Nat → Int32) (os_limit : Nat → Int32) (os_retention : Nat → Int32) (os_quota : Nat → Int32) (os_refers : Nat → Int32) (os_lossNow : Int32) (n : Nat) (q : Nat) (hn : n ≤ 6) (hq6 : q ≤ 6) : RoI l D cy yX0_lastPayerAhead (.code yX0_lastPayerAhead cX0_lastPayerAhead 4 (some .int)) 1 ((wX0 cy ol (os 0) ol_reach ol_ringWith ol_rungOf ol_ringOf ol_most ol_paid ol_back ol_ringFirst ol_ringBits ol_ringRung ol_ringLeft ol_ringPaid ol_rings ol_paidInAll ol_over) ++ (wX3 cy os os_kind os_limit os_retention os_quota os_refers (nI n) os_lossNow)) [.ref (ol 0), .int (nI q)] (f_X0_lastPayerAhead ol_paid ol_ringBits n q) := by
  refine Met.ofW (cc := cX0_lastPayerAhead) (maxL := 4) (ret := (some .int)) (by decide) rfl ?_
  intro pP eE s0 mM args below meth cC s₁ B hml hv
  obtain ⟨rfl, hP, hKX⟩ := hv
  have hx := B.exec
  have hb := B.bytes
  have hr := B.returns
  have hG := gw_hts (atoms_spec (ws := _) B.pre)
  have hown : s0.vm.findClass RX0 = some mM.cls := findClass_of_methodNamed B.named
  have hlocks := B.notSynchronized
  have hl := lv_entry ([.ref (ol 0), .int (nI q)]) (n := 4) (Nat.le_of_ble_eq_true rfl)
  rw [lg_entry_eq]
  generalize (lg_sl ([.ref (ol 0), .int (nI q)]) ++ List.replicate (4 - (lg_sl ([.ref (ol 0), .int (nI q)])).length) Slot.unset).toArray = ls at hl ⊢
  have hl : lv_has ls 4 [(0, .ref (ol 0)), (1, .int (nI q))] := hl
  refine lv_iload_n hx hb dX0_lastPayerAhead_0 rfl (lv_at hl 1 rfl) ?_
  refine lv_iconst (v := (1 : Int32)) hx hb dX0_lastPayerAhead_1 (by decide) ?_
  refine lv_isub hx hb dX0_lastPayerAhead_2 ?_
  refine lv_istore_n (lv' := [(2, .int (nI q - (1 : Int32))), (0, .ref (ol 0)), (1, .int (nI q))]) hx hb dX0_lastPayerAhead_3 rfl hl (by decide) rfl (fun ls hl => ?_)
  refine loopS (bd_X0_lastPayerAhead_4 ol_paid ol_ringBits n q) q (fun k4 => [(2, .int (nI (q - k4) - (1 : Int32))), (0, .ref (ol 0)), (1, .int (nI q))]) (lv_sub hl [0, 1, 2] rfl) (fun k4 ls hk4 hz4 hl ih4 => ?_)
  refine lv_iload_n hx hb dX0_lastPayerAhead_4 rfl (lv_at hl 0 rfl) ?_
  refine lv_if_lt (tgt := 58) hx hb dX0_lastPayerAhead_5 (by decide) (fun c1 => ?_) (fun c1 => ?_)
  · have e_k4 : q = k4 := Nat.le_antisymm ((dn_lt (N := q) (j := k4) (by omega) hk4).mp c1) hk4
    subst e_k4
    refine lv_bipush (v := (99 : Int32)) hx hb dX0_lastPayerAhead_58 (by decide) ?_
    exact W.iret (v := (99 : Int32)) hx hb hr (fun t ht hW => ⟨_, rfl, by unfold f_X0_lastPayerAhead; rw [srch_none hz4, Option.getD_none] <;> rfl, ht⟩) (fun q hq => by cases hq) dX0_lastPayerAhead_60
  · have hlt4 : k4 < q := Nat.lt_of_not_le (fun qq_ => c1 ((dn_lt (N := q) (j := k4) (by omega) hk4).mpr qq_))
    rw [dn_in hlt4] at hl
    refine lv_aload_n hx hb dX0_lastPayerAhead_8 rfl (lv_at hl 1 rfl) ?_
    refine gf_X0_9 hx hb hG hown hKX hP 0 rfl rfl dX0_lastPayerAhead_9 ?_
    refine gf_X0_77 hx hb hG hown hKX hP 13 rfl rfl dX0_lastPayerAhead_12 ?_
    refine lv_iconst (v := (1 : Int32)) hx hb dX0_lastPayerAhead_15 (by decide) ?_
    refine lv_isub hx hb dX0_lastPayerAhead_16 ?_
    refine lv_istore_n (lv' := [(3, .int (nI n - (1 : Int32))), (2, .int (nI (q - 1 - k4))), (0, .ref (ol 0)), (1, .int (nI q))]) hx hb dX0_lastPayerAhead_17 rfl hl (by decide) rfl (fun ls hl => ?_)
    refine loopS (bd_X0_lastPayerAhead_18 ol_paid ol_ringBits n q k4) n (fun k18 => [(3, .int (nI (n - k18) - (1 : Int32))), (2, .int (nI (q - 1 - k4))), (0, .ref (ol 0)), (1, .int (nI q))]) (lv_sub hl [0, 1, 2, 3] rfl) (fun k18 ls hk18 hz18 hl ih18 => ?_)
    refine lv_iload_n hx hb dX0_lastPayerAhead_18 rfl (lv_at hl 0 rfl) ?_
    refine lv_if_lt (tgt := 52) hx hb dX0_lastPayerAhead_19 (by decide) (fun c2 => ?_) (fun c2 => ?_)
    · have e_k18 : n = k18 := Nat.le_antisymm ((dn_lt (N := n) (j := k18) (by omega) hk18).mp c2) hk18
      subst e_k18
      refine lv_iinc (v := (nI (q - (k4 + 1)) - (1 : Int32))) (lv' := [(2, .int (nI (q - (k4 + 1)) - (1 : Int32))), (3, .int (nI (n - n) - (1 : Int32))), (0, .ref (ol 0)), (1, .int (nI q))]) hx hb dX0_lastPayerAhead_52 hl (k := 1) rfl (dn_nx hlt4) (by decide) rfl (fun ls hl => ?_)
      refine lv_goto (tgt := 4) hx hb dX0_lastPayerAhead_55 (by decide) ?_
      exact ih4 _ hlt4 (by unfold bd_X0_lastPayerAhead_4; rw [srch_none hz18, Option.none_or] <;> rfl) (lv_sub hl [0, 2, 3] rfl)
    · have hlt18 : k18 < n := Nat.lt_of_not_le (fun qq_ => c2 ((dn_lt (N := n) (j := k18) (by omega) hk18).mpr qq_))
      rw [dn_in hlt18] at hl
      refine lv_aload_n hx hb dX0_lastPayerAhead_22 rfl (lv_at hl 2 rfl) ?_
      refine gf_X0_40 hx hb hG hown hKX hP 0 rfl rfl dX0_lastPayerAhead_23 ?_
      refine lv_iload_n hx hb dX0_lastPayerAhead_26 rfl (lv_at hl 1 rfl) ?_
      refine iald_n hx hb hKX hP 9 rfl rfl (by omega) (by decide) dX0_lastPayerAhead_27 ?_
      refine lv_iload_n hx hb dX0_lastPayerAhead_28 rfl (lv_at hl 0 rfl) ?_
      refine cRoN mw8_18 mw1_2 mw8_19 hd_X6_has hKX.2.1 hx hb hml hown hG hKX (c_X6_has l D cy (ol_ringBits (q - 1 - k4)) (nI (n - 1 - k18))) ⟨Nat.le_of_ble_eq_true rfl, Nat.le_of_ble_eq_true rfl⟩ ⟨Nat.zero_le _, Nat.zero_le _⟩ (hP.sub [] rfl) rfl hl.1 rfl (Nat.le_of_ble_eq_true rfl) dX0_lastPayerAhead_29 ?_
      refine lv_if_eq (tgt := 46) hx hb dX0_lastPayerAhead_32 (by decide) (fun c3 => ?_) (fun c3 => ?_)
      · refine lv_iinc (v := (nI (n - (k18 + 1)) - (1 : Int32))) (lv' := [(3, .int (nI (n - (k18 + 1)) - (1 : Int32))), (2, .int (nI (q - 1 - k4))), (0, .ref (ol 0)), (1, .int (nI q))]) hx hb dX0_lastPayerAhead_46 hl (k := 0) rfl (dn_nx hlt18) (by decide) rfl (fun ls hl => ?_)
        refine lv_goto (tgt := 18) hx hb dX0_lastPayerAhead_49 (by decide) ?_
        exact ih18 _ hlt18 (by unfold bd_X0_lastPayerAhead_18; rw [if_pos c3] <;> rfl) (lv_sub hl [0, 1, 2, 3] rfl)
      · refine lv_aload_n hx hb dX0_lastPayerAhead_35 rfl (lv_at hl 2 rfl) ?_
        refine gf_X0_31 hx hb hG hown hKX hP 0 rfl rfl dX0_lastPayerAhead_36 ?_
        refine lv_iload_n hx hb dX0_lastPayerAhead_39 rfl (lv_at hl 0 rfl) ?_
        refine iald_n hx hb hKX hP 6 rfl rfl (by omega) (by decide) dX0_lastPayerAhead_40 ?_
        refine lv_if_le (tgt := 46) hx hb dX0_lastPayerAhead_41 (by decide) (fun c4 => ?_) (fun c4 => ?_)
        · refine lv_iinc (v := (nI (n - (k18 + 1)) - (1 : Int32))) (lv' := [(3, .int (nI (n - (k18 + 1)) - (1 : Int32))), (2, .int (nI (q - 1 - k4))), (0, .ref (ol 0)), (1, .int (nI q))]) hx hb dX0_lastPayerAhead_46 hl (k := 0) rfl (dn_nx hlt18) (by decide) rfl (fun ls hl => ?_)
          refine lv_goto (tgt := 18) hx hb dX0_lastPayerAhead_49 (by decide) ?_
          exact ih18 _ hlt18 (by unfold bd_X0_lastPayerAhead_18; rw [if_neg c3, if_pos c4] <;> rfl) (lv_sub hl [0, 1, 2, 3] rfl)
        · refine lv_iload_n hx hb dX0_lastPayerAhead_44 rfl (lv_at hl 0 rfl) ?_
          exact W.iret (v := nI (n - 1 - k18)) hx hb hr (fun t ht hW => ⟨_, rfl, by unfold f_X0_lastPayerAhead; rw [srch_some (r := nI (n - 1 - k18)) hz4 hlt4 (by unfold bd_X0_lastPayerAhead_4; rw [srch_some (r := nI (n - 1 - k18)) hz18 hlt18 (by unfold bd_X0_lastPayerAhead_18; rw [if_neg c3, if_neg c4] <;> rfl), Option.some_or] <;> rfl), Option.getD_some] <;> rfl, ht⟩) (fun q hq => by cases hq) dX0_lastPayerAhead_45
def f_X0_reason (ol_ringWith : Nat → Int32) (ol_paid : Nat → Int32) (ol_ringLeft : Nat → Int32) (os_kind : Nat → Int32) (os_limit : Nat → Int32) (os_retention : Nat → Int32) (os_quota : Nat → Int32) (os_refers : Nat → Int32) (n : Nat) (c : Nat) (ro : Nat → Nat) : Int32 :=
  if (ol_ringLeft (ro c)) = (0 : Int32) then (1 : Int32) else (if (ol_paid c) < (ol_ringLeft (ro c)) then (if (f_X0_isEscaped ol_ringWith ol_paid os_kind os_refers n c) = (0 : Int32) then (if (os_retention c) < (f_X0_shareOf os_kind os_quota (ol_ringLeft (ro c)) c) then (if (ol_paid c) = (os_limit c) then (4 : Int32) else (if (f_X0_isAlone ol_ringWith c) = (0 : Int32) then (5 : Int32) else (6 : Int32))) else (3 : Int32)) else (2 : Int32)) else (0 : Int32))
set_option maxHeartbeats 4000000 in
set_option maxRecDepth 100000 in
theorem c_X0_reason (l : Launch) (D : va_G) (cy : Nat → ClassId) (ol : Nat → Nat) (os : Nat → Nat) (ol_reach : Nat → Int32) (ol_ringWith : Nat → Int32) (ol_rungOf : Nat → Int32) (ol_ringOf : Nat → Int32) (ol_most : Nat → Int32) (ol_paid : Nat → Int32) (ol_back : Nat → Int32) (ol_ringFirst : Nat → Int32) (ol_ringBits : Nat → Int32) (ol_ringRung : Nat → Int32) (ol_ringLeft : Nat → Int32) (ol_ringPaid : Nat → Int32) (ol_rings : Int32) (ol_paidInAll : Int32) (ol_over : Int32) (os_kind : Nat → Int32) (os_limit : Nat → Int32) (os_retention : Nat → Int32) (os_quota : Nat → Int32) (os_refers : Nat → Int32) (os_lossNow : Int32) (n : Nat) (c : Nat) (ro : Nat → Nat) (hn : n ≤ 6) (hc : c < n) (hrof : ∀ k, k < n → ol_ringOf k = nI (ro k) ∧ ro k < 6) : RoI l D cy yX0_reason (.code yX0_reason cX0_reason 3 (some .int)) 3 ((wX0 cy ol (os 0) ol_reach ol_ringWith ol_rungOf ol_ringOf ol_most ol_paid ol_back ol_ringFirst ol_ringBits ol_ringRung ol_ringLeft ol_ringPaid ol_rings ol_paidInAll ol_over) ++ (wX3 cy os os_kind os_limit os_retention os_quota os_refers (nI n) os_lossNow)) [.ref (ol 0), .int (nI c)] (f_X0_reason ol_ringWith ol_paid ol_ringLeft os_kind os_limit os_retention os_quota os_refers n c ro) := by
  refine Met.ofW (cc := cX0_reason) (maxL := 3) (ret := (some .int)) (by decide) rfl ?_
  intro pP eE s0 mM args below meth cC s₁ B hml hv
  obtain ⟨rfl, hP, hKX⟩ := hv
  have hx := B.exec
  have hb := B.bytes
  have hr := B.returns
  have hG := gw_hts (atoms_spec (ws := _) B.pre)
  have hown : s0.vm.findClass RX0 = some mM.cls := findClass_of_methodNamed B.named
  have hlocks := B.notSynchronized
  have hl := lv_entry ([.ref (ol 0), .int (nI c)]) (n := 3) (Nat.le_of_ble_eq_true rfl)
  rw [lg_entry_eq]
  generalize (lg_sl ([.ref (ol 0), .int (nI c)]) ++ List.replicate (3 - (lg_sl ([.ref (ol 0), .int (nI c)])).length) Slot.unset).toArray = ls at hl ⊢
  have hl : lv_has ls 3 [(0, .ref (ol 0)), (1, .int (nI c))] := hl
  refine lv_aload_n hx hb dX0_reason_0 rfl (lv_at hl 0 rfl) ?_
  refine gf_X0_46 hx hb hG hown hKX hP 0 rfl rfl dX0_reason_1 ?_
  refine lv_aload_n hx hb dX0_reason_4 rfl (lv_at hl 0 rfl) ?_
  refine gf_X0_25 hx hb hG hown hKX hP 0 rfl rfl dX0_reason_5 ?_
  refine lv_iload_n hx hb dX0_reason_8 rfl (lv_at hl 1 rfl) ?_
  refine iald_v hx hb hKX hP 4 rfl rfl (by omega) (by decide) (hrof c (by omega)).1 dX0_reason_9 ?_
  refine iald_n hx hb hKX hP 11 rfl rfl (hrof c hc).2 (by decide) dX0_reason_10 ?_
  refine lv_istore_n (lv' := [(2, .int (ol_ringLeft (ro c))), (0, .ref (ol 0)), (1, .int (nI c))]) hx hb dX0_reason_11 rfl hl (by decide) rfl (fun ls hl => ?_)
  refine lv_iload_n hx hb dX0_reason_12 rfl (lv_at hl 0 rfl) ?_
  refine lv_if_ne (tgt := 18) hx hb dX0_reason_13 (by decide) (fun c1 => ?_) (fun c1 => ?_)
  · refine lv_aload_n hx hb dX0_reason_18 rfl (lv_at hl 1 rfl) ?_
    refine gf_X0_31 hx hb hG hown hKX hP 0 rfl rfl dX0_reason_19 ?_
    refine lv_iload_n hx hb dX0_reason_22 rfl (lv_at hl 2 rfl) ?_
    refine iald_n hx hb hKX hP 6 rfl rfl (by omega) (by decide) dX0_reason_23 ?_
    refine lv_iload_n hx hb dX0_reason_24 rfl (lv_at hl 0 rfl) ?_
    refine lv_icmp_lt (tgt := 30) hx hb dX0_reason_25 (by decide) (fun c2 => ?_) (fun c2 => ?_)
    · refine lv_aload_n hx hb dX0_reason_30 rfl (lv_at hl 1 rfl) ?_
      refine lv_iload_n hx hb dX0_reason_31 rfl (lv_at hl 2 rfl) ?_
      refine cRoV (q0 := 0) (ci := 0) mw12_8 mw12_9 mw12_10 mw1_21 mw12_11 rfl rfl hd_X0_isEscaped hx hb hml hown hG hKX (c_X0_isEscaped l D cy ol os ol_reach ol_ringWith ol_rungOf ol_ringOf ol_most ol_paid ol_back ol_ringFirst ol_ringBits ol_ringRung ol_ringLeft ol_ringPaid ol_rings ol_paidInAll ol_over os_kind os_limit os_retention os_quota os_refers os_lossNow n c hn hc) ⟨Nat.le_of_ble_eq_true rfl, Nat.le_of_ble_eq_true rfl⟩ ⟨Nat.zero_le _, Nat.zero_le _⟩ hP rfl rfl hl.1 rfl (Nat.le_of_ble_eq_true rfl) dX0_reason_32 ?_
      refine lv_if_eq (tgt := 40) hx hb dX0_reason_35 (by decide) (fun c3 => ?_) (fun c3 => ?_)
      · refine lv_aload_n hx hb dX0_reason_40 rfl (lv_at hl 1 rfl) ?_
        refine lv_iload_n hx hb dX0_reason_41 rfl (lv_at hl 2 rfl) ?_
        refine lv_iload_n hx hb dX0_reason_42 rfl (lv_at hl 0 rfl) ?_
        refine cRoV (q0 := 0) (ci := 0) mw13_0 mw13_1 mw13_2 mw1_21 mw13_3 rfl rfl hd_X0_shareOf hx hb hml hown hG hKX (c_X0_shareOf l D cy ol os ol_reach ol_ringWith ol_rungOf ol_ringOf ol_most ol_paid ol_back ol_ringFirst ol_ringBits ol_ringRung ol_ringLeft ol_ringPaid ol_rings ol_paidInAll ol_over os_kind os_limit os_retention os_quota os_refers os_lossNow (ol_ringLeft (ro c)) n c hn hc) ⟨Nat.le_of_ble_eq_true rfl, Nat.le_of_ble_eq_true rfl⟩ ⟨Nat.zero_le _, Nat.zero_le _⟩ hP rfl rfl hl.1 rfl (Nat.le_of_ble_eq_true rfl) dX0_reason_43 ?_
        refine lv_aload_n hx hb dX0_reason_46 rfl (lv_at hl 1 rfl) ?_
        refine gf_X0_9 hx hb hG hown hKX hP 0 rfl rfl dX0_reason_47 ?_
        refine gf_X0_141 hx hb hG hown hKX hP 13 rfl rfl dX0_reason_50 ?_
        refine lv_iload_n hx hb dX0_reason_53 rfl (lv_at hl 2 rfl) ?_
        refine iald_n hx hb hKX hP 16 rfl rfl (by omega) (by decide) dX0_reason_54 ?_
        refine lv_icmp_gt (tgt := 60) hx hb dX0_reason_55 (by decide) (fun c4 => ?_) (fun c4 => ?_)
        · refine lv_aload_n hx hb dX0_reason_60 rfl (lv_at hl 1 rfl) ?_
          refine gf_X0_31 hx hb hG hown hKX hP 0 rfl rfl dX0_reason_61 ?_
          refine lv_iload_n hx hb dX0_reason_64 rfl (lv_at hl 2 rfl) ?_
          refine iald_n hx hb hKX hP 6 rfl rfl (by omega) (by decide) dX0_reason_65 ?_
          refine lv_aload_n hx hb dX0_reason_66 rfl (lv_at hl 1 rfl) ?_
          refine gf_X0_9 hx hb hG hown hKX hP 0 rfl rfl dX0_reason_67 ?_
          refine gf_X0_144 hx hb hG hown hKX hP 13 rfl rfl dX0_reason_70 ?_
          refine lv_iload_n hx hb dX0_reason_73 rfl (lv_at hl 2 rfl) ?_
          refine iald_n hx hb hKX hP 15 rfl rfl (by omega) (by decide) dX0_reason_74 ?_
          refine lv_icmp_ne (tgt := 80) hx hb dX0_reason_75 (by decide) (fun c5 => ?_) (fun c5 => ?_)
          · refine lv_aload_n hx hb dX0_reason_80 rfl (lv_at hl 1 rfl) ?_
            refine lv_iload_n hx hb dX0_reason_81 rfl (lv_at hl 2 rfl) ?_
            refine cRoV (q0 := 0) (ci := 0) mw12_0 mw12_1 mw12_2 mw1_21 mw12_3 rfl rfl hd_X0_isAlone hx hb hml hown hG hKX (c_X0_isAlone l D cy ol os ol_reach ol_ringWith ol_rungOf ol_ringOf ol_most ol_paid ol_back ol_ringFirst ol_ringBits ol_ringRung ol_ringLeft ol_ringPaid ol_rings ol_paidInAll ol_over os_kind os_limit os_retention os_quota os_refers os_lossNow n c hn hc) ⟨Nat.le_of_ble_eq_true rfl, Nat.le_of_ble_eq_true rfl⟩ ⟨Nat.zero_le _, Nat.zero_le _⟩ hP rfl rfl hl.1 rfl (Nat.le_of_ble_eq_true rfl) dX0_reason_82 ?_
            refine lv_if_eq (tgt := 93) hx hb dX0_reason_85 (by decide) (fun c6 => ?_) (fun c6 => ?_)
            · refine lv_iconst (v := (5 : Int32)) hx hb dX0_reason_93 (by decide) ?_
              exact W.iret (v := (5 : Int32)) hx hb hr (fun t ht hW => ⟨_, rfl, by unfold f_X0_reason; rw [if_neg c1, if_pos c2, if_pos c3, if_pos c4, if_neg c5, if_pos c6] <;> rfl, ht⟩) (fun q hq => by cases hq) dX0_reason_94
            · refine lv_bipush (v := (6 : Int32)) hx hb dX0_reason_88 (by decide) ?_
              refine lv_goto (tgt := 94) hx hb dX0_reason_90 (by decide) ?_
              exact W.iret (v := (6 : Int32)) hx hb hr (fun t ht hW => ⟨_, rfl, by unfold f_X0_reason; rw [if_neg c1, if_pos c2, if_pos c3, if_pos c4, if_neg c5, if_neg c6] <;> rfl, ht⟩) (fun q hq => by cases hq) dX0_reason_94
          · refine lv_iconst (v := (4 : Int32)) hx hb dX0_reason_78 (by decide) ?_
            exact W.iret (v := (4 : Int32)) hx hb hr (fun t ht hW => ⟨_, rfl, by unfold f_X0_reason; rw [if_neg c1, if_pos c2, if_pos c3, if_pos c4, if_pos c5] <;> rfl, ht⟩) (fun q hq => by cases hq) dX0_reason_79
        · refine lv_iconst (v := (3 : Int32)) hx hb dX0_reason_58 (by decide) ?_
          exact W.iret (v := (3 : Int32)) hx hb hr (fun t ht hW => ⟨_, rfl, by unfold f_X0_reason; rw [if_neg c1, if_pos c2, if_pos c3, if_neg c4] <;> rfl, ht⟩) (fun q hq => by cases hq) dX0_reason_59
      · refine lv_iconst (v := (2 : Int32)) hx hb dX0_reason_38 (by decide) ?_
        exact W.iret (v := (2 : Int32)) hx hb hr (fun t ht hW => ⟨_, rfl, by unfold f_X0_reason; rw [if_neg c1, if_pos c2, if_neg c3] <;> rfl, ht⟩) (fun q hq => by cases hq) dX0_reason_39
    · refine lv_iconst (v := (0 : Int32)) hx hb dX0_reason_28 (by decide) ?_
      exact W.iret (v := (0 : Int32)) hx hb hr (fun t ht hW => ⟨_, rfl, by unfold f_X0_reason; rw [if_neg c1, if_neg c2] <;> rfl, ht⟩) (fun q hq => by cases hq) dX0_reason_29
  · refine lv_iconst (v := (1 : Int32)) hx hb dX0_reason_16 (by decide) ?_
    exact W.iret (v := (1 : Int32)) hx hb hr (fun t ht hW => ⟨_, rfl, by unfold f_X0_reason; rw [if_pos c1] <;> rfl, ht⟩) (fun q hq => by cases hq) dX0_reason_17
def f_X0_cause (ol_ringWith : Nat → Int32) (ol_paid : Nat → Int32) (ol_ringBits : Nat → Int32) (ol_ringLeft : Nat → Int32) (os_kind : Nat → Int32) (os_limit : Nat → Int32) (os_quota : Nat → Int32) (os_refers : Nat → Int32) (why : Int32) (n : Nat) (c : Nat) (ro : Nat → Nat) : Int32 :=
  if why = (1 : Int32) then (f_X0_lastPayerAhead ol_paid ol_ringBits n (ro c)) else (if why = (2 : Int32) then (f_X0_firstPayer ol_paid (os_refers c) n) else (if why = (3 : Int32) then (f_X0_shareOf os_kind os_quota (ol_ringLeft (ro c)) c) else (if why = (4 : Int32) then (os_limit c) else (if why = (5 : Int32) then (ol_ringWith c) else (if why = (6 : Int32) then ((ol_ringLeft (ro c)) - (ol_paid c)) else (-5 : Int32))))))
set_option maxHeartbeats 4000000 in
set_option maxRecDepth 100000 in
theorem c_X0_cause (l : Launch) (D : va_G) (cy : Nat → ClassId) (ol : Nat → Nat) (os : Nat → Nat) (ol_reach : Nat → Int32) (ol_ringWith : Nat → Int32) (ol_rungOf : Nat → Int32) (ol_ringOf : Nat → Int32) (ol_most : Nat → Int32) (ol_paid : Nat → Int32) (ol_back : Nat → Int32) (ol_ringFirst : Nat → Int32) (ol_ringBits : Nat → Int32) (ol_ringRung : Nat → Int32) (ol_ringLeft : Nat → Int32) (ol_ringPaid : Nat → Int32) (ol_rings : Int32) (ol_paidInAll : Int32) (ol_over : Int32) (os_kind : Nat → Int32) (os_limit : Nat → Int32) (os_retention : Nat → Int32) (os_quota : Nat → Int32) (os_refers : Nat → Int32) (os_lossNow : Int32) (why : Int32) (n : Nat) (c : Nat) (ro : Nat → Nat) (hn : n ≤ 6) (hc : c < n) (hrof : ∀ k, k < n → ol_ringOf k = nI (ro k) ∧ ro k < 6) : RoI l D cy yX0_cause (.code yX0_cause cX0_cause 4 (some .int)) 2 ((wX0 cy ol (os 0) ol_reach ol_ringWith ol_rungOf ol_ringOf ol_most ol_paid ol_back ol_ringFirst ol_ringBits ol_ringRung ol_ringLeft ol_ringPaid ol_rings ol_paidInAll ol_over) ++ (wX3 cy os os_kind os_limit os_retention os_quota os_refers (nI n) os_lossNow)) [.ref (ol 0), .int (nI c), .int why] (f_X0_cause ol_ringWith ol_paid ol_ringBits ol_ringLeft os_kind os_limit os_quota os_refers why n c ro) := by
  refine Met.ofW (cc := cX0_cause) (maxL := 4) (ret := (some .int)) (by decide) rfl ?_
  intro pP eE s0 mM args below meth cC s₁ B hml hv
  obtain ⟨rfl, hP, hKX⟩ := hv
  have hx := B.exec
  have hb := B.bytes
  have hr := B.returns
  have hG := gw_hts (atoms_spec (ws := _) B.pre)
  have hown : s0.vm.findClass RX0 = some mM.cls := findClass_of_methodNamed B.named
  have hlocks := B.notSynchronized
  have hl := lv_entry ([.ref (ol 0), .int (nI c), .int why]) (n := 4) (Nat.le_of_ble_eq_true rfl)
  rw [lg_entry_eq]
  generalize (lg_sl ([.ref (ol 0), .int (nI c), .int why]) ++ List.replicate (4 - (lg_sl ([.ref (ol 0), .int (nI c), .int why])).length) Slot.unset).toArray = ls at hl ⊢
  have hl : lv_has ls 4 [(0, .ref (ol 0)), (1, .int (nI c)), (2, .int why)] := hl
  refine lv_aload_n hx hb dX0_cause_0 rfl (lv_at hl 0 rfl) ?_
  refine gf_X0_46 hx hb hG hown hKX hP 0 rfl rfl dX0_cause_1 ?_
  refine lv_aload_n hx hb dX0_cause_4 rfl (lv_at hl 0 rfl) ?_
  refine gf_X0_25 hx hb hG hown hKX hP 0 rfl rfl dX0_cause_5 ?_
  refine lv_iload_n hx hb dX0_cause_8 rfl (lv_at hl 1 rfl) ?_
  refine iald_v hx hb hKX hP 4 rfl rfl (by omega) (by decide) (hrof c (by omega)).1 dX0_cause_9 ?_
  refine iald_n hx hb hKX hP 11 rfl rfl (hrof c hc).2 (by decide) dX0_cause_10 ?_
  refine lv_istore_n (lv' := [(3, .int (ol_ringLeft (ro c))), (0, .ref (ol 0)), (1, .int (nI c)), (2, .int why)]) hx hb dX0_cause_11 rfl hl (by decide) rfl (fun ls hl => ?_)
  refine lv_iload_n hx hb dX0_cause_12 rfl (lv_at hl 3 rfl) ?_
  by_cases c1 : why = (1 : Int32)
  · refine lv_tableIn (tgt := 52) hx hb dX0_cause_13 (by rw [c1]; decide) (by rw [c1]; decide) (by rw [c1]; rfl) (by decide) ?_
    refine lv_aload_n hx hb dX0_cause_52 rfl (lv_at hl 1 rfl) ?_
    refine lv_aload_n hx hb dX0_cause_53 rfl (lv_at hl 1 rfl) ?_
    refine gf_X0_25 hx hb hG hown hKX hP 0 rfl rfl dX0_cause_54 ?_
    refine lv_iload_n hx hb dX0_cause_57 rfl (lv_at hl 2 rfl) ?_
    refine iald_v hx hb hKX hP 4 rfl rfl (by omega) (by decide) (hrof c (by omega)).1 dX0_cause_58 ?_
    refine cRoV (q0 := 0) (ci := 0) mw23_8 mw23_9 mw23_10 mw1_21 mw23_11 rfl rfl hd_X0_lastPayerAhead hx hb hml hown hG hKX (c_X0_lastPayerAhead l D cy ol os ol_reach ol_ringWith ol_rungOf ol_ringOf ol_most ol_paid ol_back ol_ringFirst ol_ringBits ol_ringRung ol_ringLeft ol_ringPaid ol_rings ol_paidInAll ol_over os_kind os_limit os_retention os_quota os_refers os_lossNow n (ro c) hn (Nat.le_of_lt (hrof c hc).2)) ⟨Nat.le_of_ble_eq_true rfl, Nat.le_of_ble_eq_true rfl⟩ ⟨Nat.zero_le _, Nat.zero_le _⟩ hP rfl rfl hl.1 rfl (Nat.le_of_ble_eq_true rfl) dX0_cause_59 ?_
    exact W.iret (v := (f_X0_lastPayerAhead ol_paid ol_ringBits n (ro c))) hx hb hr (fun t ht hW => ⟨_, rfl, by unfold f_X0_cause; rw [if_pos c1] <;> rfl, ht⟩) (fun q hq => by cases hq) dX0_cause_62
  · by_cases c2 : why = (2 : Int32)
    · refine lv_tableIn (tgt := 63) hx hb dX0_cause_13 (by rw [c2]; decide) (by rw [c2]; decide) (by rw [c2]; rfl) (by decide) ?_
      refine lv_aload_n hx hb dX0_cause_63 rfl (lv_at hl 1 rfl) ?_
      refine lv_aload_n hx hb dX0_cause_64 rfl (lv_at hl 1 rfl) ?_
      refine gf_X0_9 hx hb hG hown hKX hP 0 rfl rfl dX0_cause_65 ?_
      refine gf_X0_80 hx hb hG hown hKX hP 13 rfl rfl dX0_cause_68 ?_
      refine lv_iload_n hx hb dX0_cause_71 rfl (lv_at hl 2 rfl) ?_
      refine iald_n hx hb hKX hP 18 rfl rfl (by omega) (by decide) dX0_cause_72 ?_
      refine cRoV (q0 := 0) (ci := 0) mw12_13 mw12_14 mw12_15 mw1_21 mw12_16 rfl rfl hd_X0_firstPayer hx hb hml hown hG hKX (c_X0_firstPayer l D cy ol os ol_reach ol_ringWith ol_rungOf ol_ringOf ol_most ol_paid ol_back ol_ringFirst ol_ringBits ol_ringRung ol_ringLeft ol_ringPaid ol_rings ol_paidInAll ol_over os_kind os_limit os_retention os_quota os_refers os_lossNow (os_refers c) n hn) ⟨Nat.le_of_ble_eq_true rfl, Nat.le_of_ble_eq_true rfl⟩ ⟨Nat.zero_le _, Nat.zero_le _⟩ hP rfl rfl hl.1 rfl (Nat.le_of_ble_eq_true rfl) dX0_cause_73 ?_
      exact W.iret (v := (f_X0_firstPayer ol_paid (os_refers c) n)) hx hb hr (fun t ht hW => ⟨_, rfl, by unfold f_X0_cause; rw [if_neg c1, if_pos c2] <;> rfl, ht⟩) (fun q hq => by cases hq) dX0_cause_76
    · by_cases c3 : why = (3 : Int32)
      · refine lv_tableIn (tgt := 77) hx hb dX0_cause_13 (by rw [c3]; decide) (by rw [c3]; decide) (by rw [c3]; rfl) (by decide) ?_
        refine lv_aload_n hx hb dX0_cause_77 rfl (lv_at hl 1 rfl) ?_
        refine lv_iload_n hx hb dX0_cause_78 rfl (lv_at hl 2 rfl) ?_
        refine lv_iload_n hx hb dX0_cause_79 rfl (lv_at hl 0 rfl) ?_
        refine cRoV (q0 := 0) (ci := 0) mw13_0 mw13_1 mw13_2 mw1_21 mw13_3 rfl rfl hd_X0_shareOf hx hb hml hown hG hKX (c_X0_shareOf l D cy ol os ol_reach ol_ringWith ol_rungOf ol_ringOf ol_most ol_paid ol_back ol_ringFirst ol_ringBits ol_ringRung ol_ringLeft ol_ringPaid ol_rings ol_paidInAll ol_over os_kind os_limit os_retention os_quota os_refers os_lossNow (ol_ringLeft (ro c)) n c hn hc) ⟨Nat.le_of_ble_eq_true rfl, Nat.le_of_ble_eq_true rfl⟩ ⟨Nat.zero_le _, Nat.zero_le _⟩ hP rfl rfl hl.1 rfl (Nat.le_of_ble_eq_true rfl) dX0_cause_80 ?_
        exact W.iret (v := (f_X0_shareOf os_kind os_quota (ol_ringLeft (ro c)) c)) hx hb hr (fun t ht hW => ⟨_, rfl, by unfold f_X0_cause; rw [if_neg c1, if_neg c2, if_pos c3] <;> rfl, ht⟩) (fun q hq => by cases hq) dX0_cause_83
      · by_cases c4 : why = (4 : Int32)
        · refine lv_tableIn (tgt := 84) hx hb dX0_cause_13 (by rw [c4]; decide) (by rw [c4]; decide) (by rw [c4]; rfl) (by decide) ?_
          refine lv_aload_n hx hb dX0_cause_84 rfl (lv_at hl 1 rfl) ?_
          refine gf_X0_9 hx hb hG hown hKX hP 0 rfl rfl dX0_cause_85 ?_
          refine gf_X0_144 hx hb hG hown hKX hP 13 rfl rfl dX0_cause_88 ?_
          refine lv_iload_n hx hb dX0_cause_91 rfl (lv_at hl 2 rfl) ?_
          refine iald_n hx hb hKX hP 15 rfl rfl (by omega) (by decide) dX0_cause_92 ?_
          exact W.iret (v := (os_limit c)) hx hb hr (fun t ht hW => ⟨_, rfl, by unfold f_X0_cause; rw [if_neg c1, if_neg c2, if_neg c3, if_pos c4] <;> rfl, ht⟩) (fun q hq => by cases hq) dX0_cause_93
        · by_cases c5 : why = (5 : Int32)
          · refine lv_tableIn (tgt := 94) hx hb dX0_cause_13 (by rw [c5]; decide) (by rw [c5]; decide) (by rw [c5]; rfl) (by decide) ?_
            refine lv_aload_n hx hb dX0_cause_94 rfl (lv_at hl 1 rfl) ?_
            refine gf_X0_19 hx hb hG hown hKX hP 0 rfl rfl dX0_cause_95 ?_
            refine lv_iload_n hx hb dX0_cause_98 rfl (lv_at hl 2 rfl) ?_
            refine iald_n hx hb hKX hP 2 rfl rfl (by omega) (by decide) dX0_cause_99 ?_
            exact W.iret (v := (ol_ringWith c)) hx hb hr (fun t ht hW => ⟨_, rfl, by unfold f_X0_cause; rw [if_neg c1, if_neg c2, if_neg c3, if_neg c4, if_pos c5] <;> rfl, ht⟩) (fun q hq => by cases hq) dX0_cause_100
          · by_cases c6 : why = (6 : Int32)
            · refine lv_tableIn (tgt := 101) hx hb dX0_cause_13 (by rw [c6]; decide) (by rw [c6]; decide) (by rw [c6]; rfl) (by decide) ?_
              refine lv_iload_n hx hb dX0_cause_101 rfl (lv_at hl 0 rfl) ?_
              refine lv_aload_n hx hb dX0_cause_102 rfl (lv_at hl 1 rfl) ?_
              refine gf_X0_31 hx hb hG hown hKX hP 0 rfl rfl dX0_cause_103 ?_
              refine lv_iload_n hx hb dX0_cause_106 rfl (lv_at hl 2 rfl) ?_
              refine iald_n hx hb hKX hP 6 rfl rfl (by omega) (by decide) dX0_cause_107 ?_
              refine lv_isub hx hb dX0_cause_108 ?_
              exact W.iret (v := ((ol_ringLeft (ro c)) - (ol_paid c))) hx hb hr (fun t ht hW => ⟨_, rfl, by unfold f_X0_cause; rw [if_neg c1, if_neg c2, if_neg c3, if_neg c4, if_neg c5, if_pos c6] <;> rfl, ht⟩) (fun q hq => by cases hq) dX0_cause_109
            · refine lv_tableOut (tgt := 110) hx hb dX0_cause_13 (by have q0 := ne_t c1 (z := 1) (by decide); have q1 := ne_t c2 (z := 2) (by decide); have q2 := ne_t c3 (z := 3) (by decide); have q3 := ne_t c4 (z := 4) (by decide); have q4 := ne_t c5 (z := 5) (by decide); have q5 := ne_t c6 (z := 6) (by decide); omega) (by decide) ?_
              refine lv_bipush (v := (-5 : Int32)) hx hb dX0_cause_110 (by decide) ?_
              exact W.iret (v := (-5 : Int32)) hx hb hr (fun t ht hW => ⟨_, rfl, by unfold f_X0_cause; rw [if_neg c1, if_neg c2, if_neg c3, if_neg c4, if_neg c5, if_neg c6] <;> rfl, ht⟩) (fun q hq => by cases hq) dX0_cause_112
def f_X0_causeBehind (ol_ringWith : Nat → Int32) (ol_paid : Nat → Int32) (ol_ringBits : Nat → Int32) (ol_ringLeft : Nat → Int32) (ol_ringPaid : Nat → Int32) (os_kind : Nat → Int32) (os_limit : Nat → Int32) (os_retention : Nat → Int32) (os_quota : Nat → Int32) (os_refers : Nat → Int32) (why : Int32) (n : Nat) (c : Nat) (ro : Nat → Nat) : Int32 :=
  if why = (1 : Int32) then (if (f_X3_isContract (nI n) (f_X0_cause ol_ringWith ol_paid ol_ringBits ol_ringLeft os_kind os_limit os_quota os_refers why n c ro)) = (0 : Int32) then (0 : Int32) else (ol_paid (f_X0_cause ol_ringWith ol_paid ol_ringBits ol_ringLeft os_kind os_limit os_quota os_refers why n c ro).toNatClampNeg)) else (if why = (2 : Int32) then (if (f_X3_isContract (nI n) (f_X0_cause ol_ringWith ol_paid ol_ringBits ol_ringLeft os_kind os_limit os_quota os_refers why n c ro)) = (0 : Int32) then (0 : Int32) else (ol_paid (f_X0_cause ol_ringWith ol_paid ol_ringBits ol_ringLeft os_kind os_limit os_quota os_refers why n c ro).toNatClampNeg)) else (if why = (3 : Int32) then (os_retention c) else (if why = (4 : Int32) then (-5 : Int32) else (if why = (5 : Int32) then (ol_ringPaid (ro c)) else (-5 : Int32)))))
set_option maxHeartbeats 4000000 in
set_option maxRecDepth 100000 in
theorem c_X0_causeBehind (l : Launch) (D : va_G) (cy : Nat → ClassId) (ol : Nat → Nat) (os : Nat → Nat) (ol_reach : Nat → Int32) (ol_ringWith : Nat → Int32) (ol_rungOf : Nat → Int32) (ol_ringOf : Nat → Int32) (ol_most : Nat → Int32) (ol_paid : Nat → Int32) (ol_back : Nat → Int32) (ol_ringFirst : Nat → Int32) (ol_ringBits : Nat → Int32) (ol_ringRung : Nat → Int32) (ol_ringLeft : Nat → Int32) (ol_ringPaid : Nat → Int32) (ol_rings : Int32) (ol_paidInAll : Int32) (ol_over : Int32) (os_kind : Nat → Int32) (os_limit : Nat → Int32) (os_retention : Nat → Int32) (os_quota : Nat → Int32) (os_refers : Nat → Int32) (os_lossNow : Int32) (why : Int32) (n : Nat) (c : Nat) (ro : Nat → Nat) (hn : n ≤ 6) (hc : c < n) (hrof : ∀ k, k < n → ol_ringOf k = nI (ro k) ∧ ro k < 6) : RoI l D cy yX0_causeBehind (.code yX0_causeBehind cX0_causeBehind 4 (some .int)) 3 ((wX0 cy ol (os 0) ol_reach ol_ringWith ol_rungOf ol_ringOf ol_most ol_paid ol_back ol_ringFirst ol_ringBits ol_ringRung ol_ringLeft ol_ringPaid ol_rings ol_paidInAll ol_over) ++ (wX3 cy os os_kind os_limit os_retention os_quota os_refers (nI n) os_lossNow)) [.ref (ol 0), .int (nI c), .int why] (f_X0_causeBehind ol_ringWith ol_paid ol_ringBits ol_ringLeft ol_ringPaid os_kind os_limit os_retention os_quota os_refers why n c ro) := by
  refine Met.ofW (cc := cX0_causeBehind) (maxL := 4) (ret := (some .int)) (by decide) rfl ?_
  intro pP eE s0 mM args below meth cC s₁ B hml hv
  obtain ⟨rfl, hP, hKX⟩ := hv
  have hx := B.exec
  have hb := B.bytes
  have hr := B.returns
  have hG := gw_hts (atoms_spec (ws := _) B.pre)
  have hown : s0.vm.findClass RX0 = some mM.cls := findClass_of_methodNamed B.named
  have hlocks := B.notSynchronized
  have hl := lv_entry ([.ref (ol 0), .int (nI c), .int why]) (n := 4) (Nat.le_of_ble_eq_true rfl)
  rw [lg_entry_eq]
  generalize (lg_sl ([.ref (ol 0), .int (nI c), .int why]) ++ List.replicate (4 - (lg_sl ([.ref (ol 0), .int (nI c), .int why])).length) Slot.unset).toArray = ls at hl ⊢
  have hl : lv_has ls 4 [(0, .ref (ol 0)), (1, .int (nI c)), (2, .int why)] := hl
  refine lv_iload_n hx hb dX0_causeBehind_0 rfl (lv_at hl 2 rfl) ?_
  by_cases c1 : why = (1 : Int32)
  · refine lv_tableIn (tgt := 36) hx hb dX0_causeBehind_1 (by rw [c1]; decide) (by rw [c1]; decide) (by rw [c1]; rfl) (by decide) ?_
    refine lv_aload_n hx hb dX0_causeBehind_36 rfl (lv_at hl 0 rfl) ?_
    refine lv_iload_n hx hb dX0_causeBehind_37 rfl (lv_at hl 1 rfl) ?_
    refine lv_iload_n hx hb dX0_causeBehind_38 rfl (lv_at hl 2 rfl) ?_
    refine cRoV (q0 := 0) (ci := 0) mw23_16 mw23_5 mw23_6 mw1_21 mw23_7 rfl rfl hd_X0_cause hx hb hml hown hG hKX (c_X0_cause l D cy ol os ol_reach ol_ringWith ol_rungOf ol_ringOf ol_most ol_paid ol_back ol_ringFirst ol_ringBits ol_ringRung ol_ringLeft ol_ringPaid ol_rings ol_paidInAll ol_over os_kind os_limit os_retention os_quota os_refers os_lossNow why n c ro hn hc hrof) ⟨Nat.le_of_ble_eq_true rfl, Nat.le_of_ble_eq_true rfl⟩ ⟨Nat.zero_le _, Nat.zero_le _⟩ hP rfl rfl hl.1 rfl (Nat.le_of_ble_eq_true rfl) dX0_causeBehind_39 ?_
    refine lv_istore_n (lv' := [(3, .int (f_X0_cause ol_ringWith ol_paid ol_ringBits ol_ringLeft os_kind os_limit os_quota os_refers why n c ro)), (0, .ref (ol 0)), (1, .int (nI c)), (2, .int why)]) hx hb dX0_causeBehind_42 rfl hl (by decide) rfl (fun ls hl => ?_)
    refine lv_aload_n hx hb dX0_causeBehind_43 rfl (lv_at hl 1 rfl) ?_
    refine gf_X0_9 hx hb hG hown hKX hP 0 rfl rfl dX0_causeBehind_44 ?_
    refine lv_iload_n hx hb dX0_causeBehind_47 rfl (lv_at hl 0 rfl) ?_
    refine cRoV (q0 := 0) (ci := 3) mw23_17 mw7_19 mw7_20 mw2_2 mw7_21 rfl rfl hd_X3_isContract hx hb hml hown hG hKX (c_X3_isContract l D cy os os_kind os_limit os_retention os_quota os_refers (nI n) os_lossNow (f_X0_cause ol_ringWith ol_paid ol_ringBits ol_ringLeft os_kind os_limit os_quota os_refers why n c ro)) ⟨Nat.le_of_ble_eq_true rfl, Nat.le_of_ble_eq_true rfl⟩ ⟨Nat.zero_le _, Nat.zero_le _⟩ (hP.sub [13, 14, 15, 16, 17, 18] rfl) rfl rfl hl.1 rfl (Nat.le_of_ble_eq_true rfl) dX0_causeBehind_48 ?_
    refine lv_if_eq (tgt := 63) hx hb dX0_causeBehind_51 (by decide) (fun c2 => ?_) (fun c2 => ?_)
    · refine lv_iconst (v := (0 : Int32)) hx hb dX0_causeBehind_63 (by decide) ?_
      exact W.iret (v := (0 : Int32)) hx hb hr (fun t ht hW => ⟨_, rfl, by unfold f_X0_causeBehind; rw [if_pos c1, if_pos c2] <;> rfl, ht⟩) (fun q hq => by cases hq) dX0_causeBehind_64
    · obtain ⟨j64, hj64, hlj64, hcj64⟩ := isC_of (by omega) c2
      refine lv_aload_n hx hb dX0_causeBehind_54 rfl (lv_at hl 1 rfl) ?_
      refine gf_X0_31 hx hb hG hown hKX hP 0 rfl rfl dX0_causeBehind_55 ?_
      refine lv_iload_n hx hb dX0_causeBehind_58 rfl (lv_at hl 0 rfl) ?_
      refine iald_n hx hb hKX hP 6 rfl hcj64 (by omega) (by decide) dX0_causeBehind_59 ?_
      refine lv_goto (tgt := 64) hx hb dX0_causeBehind_60 (by decide) ?_
      exact W.iret (v := (ol_paid j64)) hx hb hr (fun t ht hW => ⟨_, rfl, by subst hj64; unfold f_X0_causeBehind; rw [if_pos c1, if_neg c2] <;> rfl, ht⟩) (fun q hq => by cases hq) dX0_causeBehind_64
  · by_cases c3 : why = (2 : Int32)
    · refine lv_tableIn (tgt := 36) hx hb dX0_causeBehind_1 (by rw [c3]; decide) (by rw [c3]; decide) (by rw [c3]; rfl) (by decide) ?_
      refine lv_aload_n hx hb dX0_causeBehind_36 rfl (lv_at hl 0 rfl) ?_
      refine lv_iload_n hx hb dX0_causeBehind_37 rfl (lv_at hl 1 rfl) ?_
      refine lv_iload_n hx hb dX0_causeBehind_38 rfl (lv_at hl 2 rfl) ?_
      refine cRoV (q0 := 0) (ci := 0) mw23_16 mw23_5 mw23_6 mw1_21 mw23_7 rfl rfl hd_X0_cause hx hb hml hown hG hKX (c_X0_cause l D cy ol os ol_reach ol_ringWith ol_rungOf ol_ringOf ol_most ol_paid ol_back ol_ringFirst ol_ringBits ol_ringRung ol_ringLeft ol_ringPaid ol_rings ol_paidInAll ol_over os_kind os_limit os_retention os_quota os_refers os_lossNow why n c ro hn hc hrof) ⟨Nat.le_of_ble_eq_true rfl, Nat.le_of_ble_eq_true rfl⟩ ⟨Nat.zero_le _, Nat.zero_le _⟩ hP rfl rfl hl.1 rfl (Nat.le_of_ble_eq_true rfl) dX0_causeBehind_39 ?_
      refine lv_istore_n (lv' := [(3, .int (f_X0_cause ol_ringWith ol_paid ol_ringBits ol_ringLeft os_kind os_limit os_quota os_refers why n c ro)), (0, .ref (ol 0)), (1, .int (nI c)), (2, .int why)]) hx hb dX0_causeBehind_42 rfl hl (by decide) rfl (fun ls hl => ?_)
      refine lv_aload_n hx hb dX0_causeBehind_43 rfl (lv_at hl 1 rfl) ?_
      refine gf_X0_9 hx hb hG hown hKX hP 0 rfl rfl dX0_causeBehind_44 ?_
      refine lv_iload_n hx hb dX0_causeBehind_47 rfl (lv_at hl 0 rfl) ?_
      refine cRoV (q0 := 0) (ci := 3) mw23_17 mw7_19 mw7_20 mw2_2 mw7_21 rfl rfl hd_X3_isContract hx hb hml hown hG hKX (c_X3_isContract l D cy os os_kind os_limit os_retention os_quota os_refers (nI n) os_lossNow (f_X0_cause ol_ringWith ol_paid ol_ringBits ol_ringLeft os_kind os_limit os_quota os_refers why n c ro)) ⟨Nat.le_of_ble_eq_true rfl, Nat.le_of_ble_eq_true rfl⟩ ⟨Nat.zero_le _, Nat.zero_le _⟩ (hP.sub [13, 14, 15, 16, 17, 18] rfl) rfl rfl hl.1 rfl (Nat.le_of_ble_eq_true rfl) dX0_causeBehind_48 ?_
      refine lv_if_eq (tgt := 63) hx hb dX0_causeBehind_51 (by decide) (fun c4 => ?_) (fun c4 => ?_)
      · refine lv_iconst (v := (0 : Int32)) hx hb dX0_causeBehind_63 (by decide) ?_
        exact W.iret (v := (0 : Int32)) hx hb hr (fun t ht hW => ⟨_, rfl, by unfold f_X0_causeBehind; rw [if_neg c1, if_pos c3, if_pos c4] <;> rfl, ht⟩) (fun q hq => by cases hq) dX0_causeBehind_64
      · obtain ⟨j64, hj64, hlj64, hcj64⟩ := isC_of (by omega) c4
        refine lv_aload_n hx hb dX0_causeBehind_54 rfl (lv_at hl 1 rfl) ?_
        refine gf_X0_31 hx hb hG hown hKX hP 0 rfl rfl dX0_causeBehind_55 ?_
        refine lv_iload_n hx hb dX0_causeBehind_58 rfl (lv_at hl 0 rfl) ?_
        refine iald_n hx hb hKX hP 6 rfl hcj64 (by omega) (by decide) dX0_causeBehind_59 ?_
        refine lv_goto (tgt := 64) hx hb dX0_causeBehind_60 (by decide) ?_
        exact W.iret (v := (ol_paid j64)) hx hb hr (fun t ht hW => ⟨_, rfl, by subst hj64; unfold f_X0_causeBehind; rw [if_neg c1, if_pos c3, if_neg c4] <;> rfl, ht⟩) (fun q hq => by cases hq) dX0_causeBehind_64
    · by_cases c5 : why = (3 : Int32)
      · refine lv_tableIn (tgt := 65) hx hb dX0_causeBehind_1 (by rw [c5]; decide) (by rw [c5]; decide) (by rw [c5]; rfl) (by decide) ?_
        refine lv_aload_n hx hb dX0_causeBehind_65 rfl (lv_at hl 0 rfl) ?_
        refine gf_X0_9 hx hb hG hown hKX hP 0 rfl rfl dX0_causeBehind_66 ?_
        refine gf_X0_141 hx hb hG hown hKX hP 13 rfl rfl dX0_causeBehind_69 ?_
        refine lv_iload_n hx hb dX0_causeBehind_72 rfl (lv_at hl 1 rfl) ?_
        refine iald_n hx hb hKX hP 16 rfl rfl (by omega) (by decide) dX0_causeBehind_73 ?_
        exact W.iret (v := (os_retention c)) hx hb hr (fun t ht hW => ⟨_, rfl, by unfold f_X0_causeBehind; rw [if_neg c1, if_neg c3, if_pos c5] <;> rfl, ht⟩) (fun q hq => by cases hq) dX0_causeBehind_74
      · by_cases c6 : why = (4 : Int32)
        · refine lv_tableIn (tgt := 87) hx hb dX0_causeBehind_1 (by rw [c6]; decide) (by rw [c6]; decide) (by rw [c6]; rfl) (by decide) ?_
          refine lv_bipush (v := (-5 : Int32)) hx hb dX0_causeBehind_87 (by decide) ?_
          exact W.iret (v := (-5 : Int32)) hx hb hr (fun t ht hW => ⟨_, rfl, by unfold f_X0_causeBehind; rw [if_neg c1, if_neg c3, if_neg c5, if_pos c6] <;> rfl, ht⟩) (fun q hq => by cases hq) dX0_causeBehind_89
        · by_cases c7 : why = (5 : Int32)
          · refine lv_tableIn (tgt := 75) hx hb dX0_causeBehind_1 (by rw [c7]; decide) (by rw [c7]; decide) (by rw [c7]; rfl) (by decide) ?_
            refine lv_aload_n hx hb dX0_causeBehind_75 rfl (lv_at hl 0 rfl) ?_
            refine gf_X0_49 hx hb hG hown hKX hP 0 rfl rfl dX0_causeBehind_76 ?_
            refine lv_aload_n hx hb dX0_causeBehind_79 rfl (lv_at hl 0 rfl) ?_
            refine gf_X0_25 hx hb hG hown hKX hP 0 rfl rfl dX0_causeBehind_80 ?_
            refine lv_iload_n hx hb dX0_causeBehind_83 rfl (lv_at hl 1 rfl) ?_
            refine iald_v hx hb hKX hP 4 rfl rfl (by omega) (by decide) (hrof c (by omega)).1 dX0_causeBehind_84 ?_
            refine iald_n hx hb hKX hP 12 rfl rfl (hrof c hc).2 (by decide) dX0_causeBehind_85 ?_
            exact W.iret (v := (ol_ringPaid (ro c))) hx hb hr (fun t ht hW => ⟨_, rfl, by unfold f_X0_causeBehind; rw [if_neg c1, if_neg c3, if_neg c5, if_neg c6, if_pos c7] <;> rfl, ht⟩) (fun q hq => by cases hq) dX0_causeBehind_86
          · refine lv_tableOut (tgt := 87) hx hb dX0_causeBehind_1 (by have q0 := ne_t c1 (z := 1) (by decide); have q1 := ne_t c3 (z := 2) (by decide); have q2 := ne_t c5 (z := 3) (by decide); have q3 := ne_t c6 (z := 4) (by decide); have q4 := ne_t c7 (z := 5) (by decide); omega) (by decide) ?_
            refine lv_bipush (v := (-5 : Int32)) hx hb dX0_causeBehind_87 (by decide) ?_
            exact W.iret (v := (-5 : Int32)) hx hb hr (fun t ht hW => ⟨_, rfl, by unfold f_X0_causeBehind; rw [if_neg c1, if_neg c3, if_neg c5, if_neg c6, if_neg c7] <;> rfl, ht⟩) (fun q hq => by cases hq) dX0_causeBehind_89
