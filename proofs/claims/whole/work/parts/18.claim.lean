theorem linN {a b : Nat} (k : Nat) : nI (a * k + b) + nI a = nI (a * (k + 1) + b) := by
  rw [nI_add, Nat.mul_succ]
  congr 1
  omega
theorem lin_gt {a b M k : Nat} (hM : M < 2 ^ 31) (hk : a * k + b < 2 ^ 31) (ha : 0 < a) : nI M < nI (a * k + b) ↔ M < a * k + b := nI_ltI hM hk
theorem build_ro {ol_reach : Nat → Int32} {ol_ringWith : Nat → Int32} {ol_rungOf : Nat → Int32} {ol_ringOf : Nat → Int32} {ol_ringFirst : Nat → Int32} {ol_ringBits : Nat → Int32} {ol_ringRung : Nat → Int32} {os_refers : Nat → Int32} {n : Nat} (hn : n ≤ 6) : ∀ k, k < n → (f_X0_build ol_reach ol_ringWith ol_rungOf ol_ringOf ol_ringFirst ol_ringBits ol_ringRung os_refers n).2.2.2.1 k = nI ((f_X0_build ol_reach ol_ringWith ol_rungOf ol_ringOf ol_ringFirst ol_ringBits ol_ringRung os_refers n).2.2.2.1 k).toNatClampNeg ∧ ((f_X0_build ol_reach ol_ringWith ol_rungOf ol_ringOf ol_ringFirst ol_ringBits ol_ringRung os_refers n).2.2.2.1 k).toNatClampNeg < 6 := bld_ro hn (build6 hn ol_reach ol_ringWith ol_rungOf ol_ringOf ol_ringFirst ol_ringBits ol_ringRung os_refers)
theorem settle_le {ol_reach : Nat → Int32} {ol_ringWith : Nat → Int32} {ol_rungOf : Nat → Int32} {ol_ringOf : Nat → Int32} {ol_most : Nat → Int32} {ol_paid : Nat → Int32} {ol_ringFirst : Nat → Int32} {ol_ringBits : Nat → Int32} {ol_ringRung : Nat → Int32} {ol_ringLeft : Nat → Int32} {ol_ringPaid : Nat → Int32} {os_kind : Nat → Int32} {os_limit : Nat → Int32} {os_retention : Nat → Int32} {os_quota : Nat → Int32} {os_refers : Nat → Int32} {os_lossNow : Int32} {n : Nat} : (f_X0_settle ol_reach ol_ringWith ol_rungOf ol_ringOf ol_most ol_paid ol_ringFirst ol_ringBits ol_ringRung ol_ringLeft ol_ringPaid os_kind os_limit os_retention os_quota os_refers os_lossNow n).2.2.2.2.2.2.2.2.2.2.2.1 ≤ 6 := order_le _ _ _ _ _ _ _
theorem settle_first {ol_reach : Nat → Int32} {ol_ringWith : Nat → Int32} {ol_rungOf : Nat → Int32} {ol_ringOf : Nat → Int32} {ol_most : Nat → Int32} {ol_paid : Nat → Int32} {ol_ringFirst : Nat → Int32} {ol_ringBits : Nat → Int32} {ol_ringRung : Nat → Int32} {ol_ringLeft : Nat → Int32} {ol_ringPaid : Nat → Int32} {os_kind : Nat → Int32} {os_limit : Nat → Int32} {os_retention : Nat → Int32} {os_quota : Nat → Int32} {os_refers : Nat → Int32} {os_lossNow : Int32} {n : Nat} (hn : n ≤ 6) : ∀ k, k < (f_X0_settle ol_reach ol_ringWith ol_rungOf ol_ringOf ol_most ol_paid ol_ringFirst ol_ringBits ol_ringRung ol_ringLeft ol_ringPaid os_kind os_limit os_retention os_quota os_refers os_lossNow n).2.2.2.2.2.2.2.2.2.2.2.1 → (f_X0_settle ol_reach ol_ringWith ol_rungOf ol_ringOf ol_most ol_paid ol_ringFirst ol_ringBits ol_ringRung ol_ringLeft ol_ringPaid os_kind os_limit os_retention os_quota os_refers os_lossNow n).2.2.2.2.2.2.1 k = nI ((f_X0_settle ol_reach ol_ringWith ol_rungOf ol_ringOf ol_most ol_paid ol_ringFirst ol_ringBits ol_ringRung ol_ringLeft ol_ringPaid os_kind os_limit os_retention os_quota os_refers os_lossNow n).2.2.2.2.2.2.1 k).toNatClampNeg ∧ ((f_X0_settle ol_reach ol_ringWith ol_rungOf ol_ringOf ol_most ol_paid ol_ringFirst ol_ringBits ol_ringRung ol_ringLeft ol_ringPaid os_kind os_limit os_retention os_quota os_refers os_lossNow n).2.2.2.2.2.2.1 k).toNatClampNeg < n := fun k hk => clampN_of (by omega) (order_first _ _ _ _ _ _ _ k hk)
theorem settle_ro {ol_reach : Nat → Int32} {ol_ringWith : Nat → Int32} {ol_rungOf : Nat → Int32} {ol_ringOf : Nat → Int32} {ol_most : Nat → Int32} {ol_paid : Nat → Int32} {ol_ringFirst : Nat → Int32} {ol_ringBits : Nat → Int32} {ol_ringRung : Nat → Int32} {ol_ringLeft : Nat → Int32} {ol_ringPaid : Nat → Int32} {os_kind : Nat → Int32} {os_limit : Nat → Int32} {os_retention : Nat → Int32} {os_quota : Nat → Int32} {os_refers : Nat → Int32} {os_lossNow : Int32} {n : Nat} (hn : n ≤ 6) : ∀ k, k < n → (f_X0_settle ol_reach ol_ringWith ol_rungOf ol_ringOf ol_most ol_paid ol_ringFirst ol_ringBits ol_ringRung ol_ringLeft ol_ringPaid os_kind os_limit os_retention os_quota os_refers os_lossNow n).2.2.2.1 k = nI ((f_X0_settle ol_reach ol_ringWith ol_rungOf ol_ringOf ol_most ol_paid ol_ringFirst ol_ringBits ol_ringRung ol_ringLeft ol_ringPaid os_kind os_limit os_retention os_quota os_refers os_lossNow n).2.2.2.1 k).toNatClampNeg ∧ ((f_X0_settle ol_reach ol_ringWith ol_rungOf ol_ringOf ol_most ol_paid ol_ringFirst ol_ringBits ol_ringRung ol_ringLeft ol_ringPaid os_kind os_limit os_retention os_quota os_refers os_lossNow n).2.2.2.1 k).toNatClampNeg < 6 := build_ro hn
def f_X6_contract (os_kind : Nat → Int32) (os_limit : Nat → Int32) (os_retention : Nat → Int32) (os_quota : Nat → Int32) (os_refers : Nat → Int32) (kind : Int32) (lim : Int32) (ret : Int32) (n : Nat) : Int32 × (Nat → Int32) × (Nat → Int32) × (Nat → Int32) × (Nat → Int32) × (Nat → Int32) × Nat :=
  ((f_X3_addContract os_kind os_limit os_retention os_quota os_refers kind lim ret n).1, (f_X3_addContract os_kind os_limit os_retention os_quota os_refers kind lim ret n).2)
set_option maxHeartbeats 4000000 in
set_option maxRecDepth 100000 in
theorem c_X6_contract (l : Launch) (D : va_G) (cy : Nat → ClassId) (ox : Nat → Nat) (nt : Nat → Nat) (os : Nat → Nat) (tt : Nat → Nat) (ol : Nat → Nat) (ts : Nat → Nat) (tl : Nat → Nat) (oc : Nat → Nat) (ta : Nat → Nat) (r1 : Nat → Nat) (r2 : Nat → Nat) (r3 : Nat → Nat) (ox_isTaken : Int32) (os_kind : Nat → Int32) (os_limit : Nat → Int32) (os_retention : Nat → Int32) (os_quota : Nat → Int32) (os_refers : Nat → Int32) (os_lossNow : Int32) (kind : Int32) (lim : Int32) (ret : Int32) (n : Nat) (hn : n ≤ 6) : RwI (S := (Nat → Int32) × (Nat → Int32) × (Nat → Int32) × (Nat → Int32) × (Nat → Int32) × Nat) l D cy yX6_contract (.code yX6_contract cX6_contract 4 (some .int)) 2 ((wX6 cy ox (nt 0) (tt 0) (ol 0) (ts 0) (tl 0) (oc 0) (ta 0) ox_isTaken) ++ (wX5 cy nt (os 0) (r1 0) (r2 0) (r3 0)) ++ (wX3 cy os os_kind os_limit os_retention os_quota os_refers (nI n) os_lossNow)) [.ref (ox 0), .int kind, .int lim, .int ret] (fun rr u => (rr, u) = f_X6_contract os_kind os_limit os_retention os_quota os_refers kind lim ret n) (fun u => (wX6 cy ox (nt 0) (tt 0) (ol 0) (ts 0) (tl 0) (oc 0) (ta 0) ox_isTaken) ++ (wX5 cy nt (os 0) (r1 0) (r2 0) (r3 0)) ++ (wX3 cy os u.1 u.2.1 u.2.2.1 u.2.2.2.1 u.2.2.2.2.1 (nI u.2.2.2.2.2) os_lossNow)) := by
  intro sz
  refine Met.ofW (cc := cX6_contract) (maxL := 4) (ret := (some .int)) (by decide) rfl ?_
  intro pP eE s0 mM args below meth cC s₁ B hml hv
  obtain ⟨rfl, hsz, hP, hKX, hD0⟩ := hv
  have hx := B.exec
  have hb := B.bytes
  have hr := B.returns
  have hG := gw_hts (atoms_spec (ws := _) B.pre)
  have hown : s0.vm.findClass RX6 = some mM.cls := findClass_of_methodNamed B.named
  have hlocks := B.notSynchronized
  subst hsz
  have hD := hD0.self (sz := s0.heap.size)
  generalize hAe : va_A ((wX6 cy ox (nt 0) (tt 0) (ol 0) (ts 0) (tl 0) (oc 0) (ta 0) ox_isTaken) ++ (wX5 cy nt (os 0) (r1 0) (r2 0) (r3 0)) ++ (wX3 cy os os_kind os_limit os_retention os_quota os_refers (nI n) os_lossNow)) s0.heap.size = A at hD ⊢
  have hA : ∀ q : Nat, s0.heap.size ≤ q → A q := fun q h => by rw [← hAe]; exact Or.inr h
  have hS : va_S A s0.heap s0.heap [] := va_S.rf
  have hl := lv_entry ([.ref (ox 0), .int kind, .int lim, .int ret]) (n := 4) (Nat.le_of_ble_eq_true rfl)
  rw [lg_entry_eq]
  generalize (lg_sl ([.ref (ox 0), .int kind, .int lim, .int ret]) ++ List.replicate (4 - (lg_sl ([.ref (ox 0), .int kind, .int lim, .int ret])).length) Slot.unset).toArray = ls at hl ⊢
  have hl : lv_has ls 4 [(0, .ref (ox 0)), (1, .int kind), (2, .int lim), (3, .int ret)] := hl
  refine lv_aload_n hx hb dX6_contract_0 rfl (lv_at hl 0 rfl) ?_
  refine gf_X6_12 hx hb hG hown hKX hP 0 rfl rfl dX6_contract_1 ?_
  refine gf_X6_27 hx hb hG hown hKX hP 1 rfl rfl dX6_contract_4 ?_
  refine lv_iload_n hx hb dX6_contract_7 rfl (lv_at hl 1 rfl) ?_
  refine lv_iload_n hx hb dX6_contract_8 rfl (lv_at hl 2 rfl) ?_
  refine lv_iload_n hx hb dX6_contract_9 rfl (lv_at hl 3 rfl) ?_
  refine cRwV (q0 := 0) (ci := 3) mw6_12 mw6_13 mw6_14 mw2_2 mw6_15 rfl rfl hd_X3_addContract hx hb hml hown hG hKX (c_X3_addContract l D cy os os_kind os_limit os_retention os_quota os_refers os_lossNow kind lim ret n hn) ⟨Nat.le_of_ble_eq_true rfl, Nat.le_of_ble_eq_true rfl⟩ ⟨Nat.zero_le _, Nat.zero_le _⟩ hP hD hS hA [2, 3, 4, 5, 6, 7] [0, 1] [0, 1, 2, 3, 4, 5, 6, 7] (wr := (wX6 cy ox (nt 0) (tt 0) (ol 0) (ts 0) (tl 0) (oc 0) (ta 0) ox_isTaken) ++ (wX5 cy nt (os 0) (r1 0) (r2 0) (r3 0))) (wn := fun u10 => (wX6 cy ox (nt 0) (tt 0) (ol 0) (ts 0) (tl 0) (oc 0) (ta 0) ox_isTaken) ++ (wX5 cy nt (os 0) (r1 0) (r2 0) (r3 0)) ++ (wX3 cy os u10.1 u10.2.1 u10.2.2.1 u10.2.2.2.1 u10.2.2.2.2.1 (nI u10.2.2.2.2.2) os_lossNow)) rfl (by decide) rfl (by decide) (by decide) (fun _ => rfl) (by decide) rfl rfl hl.1 rfl (Nat.le_of_ble_eq_true rfl) dX6_contract_10 (fun r10 u10 H locs hw10 hP hD hS => ?_)
  exact W.iret (v := r10) hx hb hr (fun t ht hW => ⟨⟨r10, u10, rfl, by obtain rfl := congrArg Prod.fst hw10; obtain rfl := congrArg Prod.snd hw10; unfold f_X6_contract; rfl, by rw [ht]; exact hP, hD⟩, hS.F ht⟩) hS.2.2 dX6_contract_13
def f_X6_renew (os_kind : Nat → Int32) (os_limit : Nat → Int32) (os_retention : Nat → Int32) (os_quota : Nat → Int32) (c : Int32) (what : Int32) (v : Int32) (n : Nat) : Int32 × (Nat → Int32) × (Nat → Int32) × (Nat → Int32) × (Nat → Int32) :=
  ((f_X3_change os_kind os_limit os_retention os_quota c what v n).1, (f_X3_change os_kind os_limit os_retention os_quota c what v n).2)
set_option maxHeartbeats 4000000 in
set_option maxRecDepth 100000 in
theorem c_X6_renew (l : Launch) (D : va_G) (cy : Nat → ClassId) (ox : Nat → Nat) (nt : Nat → Nat) (os : Nat → Nat) (tt : Nat → Nat) (ol : Nat → Nat) (ts : Nat → Nat) (tl : Nat → Nat) (oc : Nat → Nat) (ta : Nat → Nat) (r1 : Nat → Nat) (r2 : Nat → Nat) (r3 : Nat → Nat) (ox_isTaken : Int32) (os_kind : Nat → Int32) (os_limit : Nat → Int32) (os_retention : Nat → Int32) (os_quota : Nat → Int32) (os_refers : Nat → Int32) (os_lossNow : Int32) (c : Int32) (what : Int32) (v : Int32) (n : Nat) (hn : n ≤ 6) : RwI (S := (Nat → Int32) × (Nat → Int32) × (Nat → Int32) × (Nat → Int32)) l D cy yX6_renew (.code yX6_renew cX6_renew 4 (some .int)) 3 ((wX6 cy ox (nt 0) (tt 0) (ol 0) (ts 0) (tl 0) (oc 0) (ta 0) ox_isTaken) ++ (wX5 cy nt (os 0) (r1 0) (r2 0) (r3 0)) ++ (wX3 cy os os_kind os_limit os_retention os_quota os_refers (nI n) os_lossNow)) [.ref (ox 0), .int c, .int what, .int v] (fun rr u => (rr, u) = f_X6_renew os_kind os_limit os_retention os_quota c what v n) (fun u => (wX6 cy ox (nt 0) (tt 0) (ol 0) (ts 0) (tl 0) (oc 0) (ta 0) ox_isTaken) ++ (wX5 cy nt (os 0) (r1 0) (r2 0) (r3 0)) ++ (wX3 cy os u.1 u.2.1 u.2.2.1 u.2.2.2 os_refers (nI n) os_lossNow)) := by
  intro sz
  refine Met.ofW (cc := cX6_renew) (maxL := 4) (ret := (some .int)) (by decide) rfl ?_
  intro pP eE s0 mM args below meth cC s₁ B hml hv
  obtain ⟨rfl, hsz, hP, hKX, hD0⟩ := hv
  have hx := B.exec
  have hb := B.bytes
  have hr := B.returns
  have hG := gw_hts (atoms_spec (ws := _) B.pre)
  have hown : s0.vm.findClass RX6 = some mM.cls := findClass_of_methodNamed B.named
  have hlocks := B.notSynchronized
  subst hsz
  have hD := hD0.self (sz := s0.heap.size)
  generalize hAe : va_A ((wX6 cy ox (nt 0) (tt 0) (ol 0) (ts 0) (tl 0) (oc 0) (ta 0) ox_isTaken) ++ (wX5 cy nt (os 0) (r1 0) (r2 0) (r3 0)) ++ (wX3 cy os os_kind os_limit os_retention os_quota os_refers (nI n) os_lossNow)) s0.heap.size = A at hD ⊢
  have hA : ∀ q : Nat, s0.heap.size ≤ q → A q := fun q h => by rw [← hAe]; exact Or.inr h
  have hS : va_S A s0.heap s0.heap [] := va_S.rf
  have hl := lv_entry ([.ref (ox 0), .int c, .int what, .int v]) (n := 4) (Nat.le_of_ble_eq_true rfl)
  rw [lg_entry_eq]
  generalize (lg_sl ([.ref (ox 0), .int c, .int what, .int v]) ++ List.replicate (4 - (lg_sl ([.ref (ox 0), .int c, .int what, .int v])).length) Slot.unset).toArray = ls at hl ⊢
  have hl : lv_has ls 4 [(0, .ref (ox 0)), (1, .int c), (2, .int what), (3, .int v)] := hl
  refine lv_aload_n hx hb dX6_renew_0 rfl (lv_at hl 0 rfl) ?_
  refine gf_X6_12 hx hb hG hown hKX hP 0 rfl rfl dX6_renew_1 ?_
  refine gf_X6_27 hx hb hG hown hKX hP 1 rfl rfl dX6_renew_4 ?_
  refine lv_iload_n hx hb dX6_renew_7 rfl (lv_at hl 1 rfl) ?_
  refine lv_iload_n hx hb dX6_renew_8 rfl (lv_at hl 2 rfl) ?_
  refine lv_iload_n hx hb dX6_renew_9 rfl (lv_at hl 3 rfl) ?_
  refine cRwV (q0 := 0) (ci := 3) mw7_10 mw7_11 mw7_12 mw2_2 mw7_13 rfl rfl hd_X3_change hx hb hml hown hG hKX (c_X3_change l D cy os os_kind os_limit os_retention os_quota os_refers os_lossNow c what v n hn) ⟨Nat.le_of_ble_eq_true rfl, Nat.le_of_ble_eq_true rfl⟩ ⟨Nat.zero_le _, Nat.zero_le _⟩ hP hD hS hA [2, 3, 4, 5, 6, 7] [0, 1] [0, 1, 2, 3, 4, 5, 6, 7] (wr := (wX6 cy ox (nt 0) (tt 0) (ol 0) (ts 0) (tl 0) (oc 0) (ta 0) ox_isTaken) ++ (wX5 cy nt (os 0) (r1 0) (r2 0) (r3 0))) (wn := fun u10 => (wX6 cy ox (nt 0) (tt 0) (ol 0) (ts 0) (tl 0) (oc 0) (ta 0) ox_isTaken) ++ (wX5 cy nt (os 0) (r1 0) (r2 0) (r3 0)) ++ (wX3 cy os u10.1 u10.2.1 u10.2.2.1 u10.2.2.2 os_refers (nI n) os_lossNow)) rfl (by decide) rfl (by decide) (by decide) (fun _ => rfl) (by decide) rfl rfl hl.1 rfl (Nat.le_of_ble_eq_true rfl) dX6_renew_10 (fun r10 u10 H locs hw10 hP hD hS => ?_)
  exact W.iret (v := r10) hx hb hr (fun t ht hW => ⟨⟨r10, u10, rfl, by obtain rfl := congrArg Prod.fst hw10; obtain rfl := congrArg Prod.snd hw10; unfold f_X6_renew; rfl, by rw [ht]; exact hP, hD⟩, hS.F ht⟩) hS.2.2 dX6_renew_13
def f_X6_refer (os_refers : Nat → Int32) (a : Int32) (b : Int32) (so : Int32) (n : Nat) : Int32 × (Nat → Int32) :=
  ((f_X3_link os_refers a b so n).1, (f_X3_link os_refers a b so n).2)
set_option maxHeartbeats 4000000 in
set_option maxRecDepth 100000 in
theorem c_X6_refer (l : Launch) (D : va_G) (cy : Nat → ClassId) (ox : Nat → Nat) (nt : Nat → Nat) (os : Nat → Nat) (tt : Nat → Nat) (ol : Nat → Nat) (ts : Nat → Nat) (tl : Nat → Nat) (oc : Nat → Nat) (ta : Nat → Nat) (r1 : Nat → Nat) (r2 : Nat → Nat) (r3 : Nat → Nat) (ox_isTaken : Int32) (os_kind : Nat → Int32) (os_limit : Nat → Int32) (os_retention : Nat → Int32) (os_quota : Nat → Int32) (os_refers : Nat → Int32) (os_lossNow : Int32) (a : Int32) (b : Int32) (so : Int32) (n : Nat) (hn : n ≤ 6) : RwI (S := (Nat → Int32)) l D cy yX6_refer (.code yX6_refer cX6_refer 4 (some .int)) 2 ((wX6 cy ox (nt 0) (tt 0) (ol 0) (ts 0) (tl 0) (oc 0) (ta 0) ox_isTaken) ++ (wX5 cy nt (os 0) (r1 0) (r2 0) (r3 0)) ++ (wX3 cy os os_kind os_limit os_retention os_quota os_refers (nI n) os_lossNow)) [.ref (ox 0), .int a, .int b, .int so] (fun rr u => (rr, u) = f_X6_refer os_refers a b so n) (fun u => (wX6 cy ox (nt 0) (tt 0) (ol 0) (ts 0) (tl 0) (oc 0) (ta 0) ox_isTaken) ++ (wX5 cy nt (os 0) (r1 0) (r2 0) (r3 0)) ++ (wX3 cy os os_kind os_limit os_retention os_quota u (nI n) os_lossNow)) := by
  intro sz
  refine Met.ofW (cc := cX6_refer) (maxL := 4) (ret := (some .int)) (by decide) rfl ?_
  intro pP eE s0 mM args below meth cC s₁ B hml hv
  obtain ⟨rfl, hsz, hP, hKX, hD0⟩ := hv
  have hx := B.exec
  have hb := B.bytes
  have hr := B.returns
  have hG := gw_hts (atoms_spec (ws := _) B.pre)
  have hown : s0.vm.findClass RX6 = some mM.cls := findClass_of_methodNamed B.named
  have hlocks := B.notSynchronized
  subst hsz
  have hD := hD0.self (sz := s0.heap.size)
  generalize hAe : va_A ((wX6 cy ox (nt 0) (tt 0) (ol 0) (ts 0) (tl 0) (oc 0) (ta 0) ox_isTaken) ++ (wX5 cy nt (os 0) (r1 0) (r2 0) (r3 0)) ++ (wX3 cy os os_kind os_limit os_retention os_quota os_refers (nI n) os_lossNow)) s0.heap.size = A at hD ⊢
  have hA : ∀ q : Nat, s0.heap.size ≤ q → A q := fun q h => by rw [← hAe]; exact Or.inr h
  have hS : va_S A s0.heap s0.heap [] := va_S.rf
  have hl := lv_entry ([.ref (ox 0), .int a, .int b, .int so]) (n := 4) (Nat.le_of_ble_eq_true rfl)
  rw [lg_entry_eq]
  generalize (lg_sl ([.ref (ox 0), .int a, .int b, .int so]) ++ List.replicate (4 - (lg_sl ([.ref (ox 0), .int a, .int b, .int so])).length) Slot.unset).toArray = ls at hl ⊢
  have hl : lv_has ls 4 [(0, .ref (ox 0)), (1, .int a), (2, .int b), (3, .int so)] := hl
  refine lv_aload_n hx hb dX6_refer_0 rfl (lv_at hl 0 rfl) ?_
  refine gf_X6_12 hx hb hG hown hKX hP 0 rfl rfl dX6_refer_1 ?_
  refine gf_X6_27 hx hb hG hown hKX hP 1 rfl rfl dX6_refer_4 ?_
  refine lv_iload_n hx hb dX6_refer_7 rfl (lv_at hl 1 rfl) ?_
  refine lv_iload_n hx hb dX6_refer_8 rfl (lv_at hl 2 rfl) ?_
  refine lv_iload_n hx hb dX6_refer_9 rfl (lv_at hl 3 rfl) ?_
  refine cRwV (q0 := 0) (ci := 3) mw8_14 mw8_15 mw8_16 mw2_2 mw8_17 rfl rfl hd_X3_link hx hb hml hown hG hKX (c_X3_link l D cy os os_kind os_limit os_retention os_quota os_refers os_lossNow a b so n hn) ⟨Nat.le_of_ble_eq_true rfl, Nat.le_of_ble_eq_true rfl⟩ ⟨Nat.zero_le _, Nat.zero_le _⟩ hP hD hS hA [2, 3, 4, 5, 6, 7] [0, 1] [0, 1, 2, 3, 4, 5, 6, 7] (wr := (wX6 cy ox (nt 0) (tt 0) (ol 0) (ts 0) (tl 0) (oc 0) (ta 0) ox_isTaken) ++ (wX5 cy nt (os 0) (r1 0) (r2 0) (r3 0))) (wn := fun u10 => (wX6 cy ox (nt 0) (tt 0) (ol 0) (ts 0) (tl 0) (oc 0) (ta 0) ox_isTaken) ++ (wX5 cy nt (os 0) (r1 0) (r2 0) (r3 0)) ++ (wX3 cy os os_kind os_limit os_retention os_quota u10 (nI n) os_lossNow)) rfl (by decide) rfl (by decide) (by decide) (fun _ => rfl) (by decide) rfl rfl hl.1 rfl (Nat.le_of_ble_eq_true rfl) dX6_refer_10 (fun r10 u10 H locs hw10 hP hD hS => ?_)
  exact W.iret (v := r10) hx hb hr (fun t ht hW => ⟨⟨r10, u10, rfl, by obtain rfl := congrArg Prod.fst hw10; obtain rfl := congrArg Prod.snd hw10; unfold f_X6_refer; rfl, by rw [ht]; exact hP, hD⟩, hS.F ht⟩) hS.2.2 dX6_refer_13
def f_X6_loss (os_lossNow : Int32) (v : Int32) : Int32 × Int32 :=
  ((f_X3_changeLoss os_lossNow v).1, (f_X3_changeLoss os_lossNow v).2)
set_option maxHeartbeats 4000000 in
set_option maxRecDepth 100000 in
theorem c_X6_loss (l : Launch) (D : va_G) (cy : Nat → ClassId) (ox : Nat → Nat) (nt : Nat → Nat) (os : Nat → Nat) (tt : Nat → Nat) (ol : Nat → Nat) (ts : Nat → Nat) (tl : Nat → Nat) (oc : Nat → Nat) (ta : Nat → Nat) (r1 : Nat → Nat) (r2 : Nat → Nat) (r3 : Nat → Nat) (ox_isTaken : Int32) (os_kind : Nat → Int32) (os_limit : Nat → Int32) (os_retention : Nat → Int32) (os_quota : Nat → Int32) (os_refers : Nat → Int32) (os_lossNow : Int32) (v : Int32) (n : Nat) (hn : n ≤ 6) : RwI (S := Int32) l D cy yX6_loss (.code yX6_loss cX6_loss 2 (some .int)) 1 ((wX6 cy ox (nt 0) (tt 0) (ol 0) (ts 0) (tl 0) (oc 0) (ta 0) ox_isTaken) ++ (wX5 cy nt (os 0) (r1 0) (r2 0) (r3 0)) ++ (wX3 cy os os_kind os_limit os_retention os_quota os_refers (nI n) os_lossNow)) [.ref (ox 0), .int v] (fun rr u => (rr, u) = f_X6_loss os_lossNow v) (fun u => (wX6 cy ox (nt 0) (tt 0) (ol 0) (ts 0) (tl 0) (oc 0) (ta 0) ox_isTaken) ++ (wX5 cy nt (os 0) (r1 0) (r2 0) (r3 0)) ++ (wX3 cy os os_kind os_limit os_retention os_quota os_refers (nI n) u)) := by
  intro sz
  refine Met.ofW (cc := cX6_loss) (maxL := 2) (ret := (some .int)) (by decide) rfl ?_
  intro pP eE s0 mM args below meth cC s₁ B hml hv
  obtain ⟨rfl, hsz, hP, hKX, hD0⟩ := hv
  have hx := B.exec
  have hb := B.bytes
  have hr := B.returns
  have hG := gw_hts (atoms_spec (ws := _) B.pre)
  have hown : s0.vm.findClass RX6 = some mM.cls := findClass_of_methodNamed B.named
  have hlocks := B.notSynchronized
  subst hsz
  have hD := hD0.self (sz := s0.heap.size)
  generalize hAe : va_A ((wX6 cy ox (nt 0) (tt 0) (ol 0) (ts 0) (tl 0) (oc 0) (ta 0) ox_isTaken) ++ (wX5 cy nt (os 0) (r1 0) (r2 0) (r3 0)) ++ (wX3 cy os os_kind os_limit os_retention os_quota os_refers (nI n) os_lossNow)) s0.heap.size = A at hD ⊢
  have hA : ∀ q : Nat, s0.heap.size ≤ q → A q := fun q h => by rw [← hAe]; exact Or.inr h
  have hS : va_S A s0.heap s0.heap [] := va_S.rf
  have hl := lv_entry ([.ref (ox 0), .int v]) (n := 2) (Nat.le_of_ble_eq_true rfl)
  rw [lg_entry_eq]
  generalize (lg_sl ([.ref (ox 0), .int v]) ++ List.replicate (2 - (lg_sl ([.ref (ox 0), .int v])).length) Slot.unset).toArray = ls at hl ⊢
  have hl : lv_has ls 2 [(0, .ref (ox 0)), (1, .int v)] := hl
  refine lv_aload_n hx hb dX6_loss_0 rfl (lv_at hl 0 rfl) ?_
  refine gf_X6_12 hx hb hG hown hKX hP 0 rfl rfl dX6_loss_1 ?_
  refine gf_X6_27 hx hb hG hown hKX hP 1 rfl rfl dX6_loss_4 ?_
  refine lv_iload_n hx hb dX6_loss_7 rfl (lv_at hl 1 rfl) ?_
  refine cRwV (q0 := 0) (ci := 3) mw9_4 mw9_5 mw9_6 mw2_2 mw9_7 rfl rfl hd_X3_changeLoss hx hb hml hown hG hKX (c_X3_changeLoss l D cy os os_kind os_limit os_retention os_quota os_refers (nI n) os_lossNow v) ⟨Nat.le_of_ble_eq_true rfl, Nat.le_of_ble_eq_true rfl⟩ ⟨Nat.zero_le _, Nat.zero_le _⟩ hP hD hS hA [2, 3, 4, 5, 6, 7] [0, 1] [0, 1, 2, 3, 4, 5, 6, 7] (wr := (wX6 cy ox (nt 0) (tt 0) (ol 0) (ts 0) (tl 0) (oc 0) (ta 0) ox_isTaken) ++ (wX5 cy nt (os 0) (r1 0) (r2 0) (r3 0))) (wn := fun u8 => (wX6 cy ox (nt 0) (tt 0) (ol 0) (ts 0) (tl 0) (oc 0) (ta 0) ox_isTaken) ++ (wX5 cy nt (os 0) (r1 0) (r2 0) (r3 0)) ++ (wX3 cy os os_kind os_limit os_retention os_quota os_refers (nI n) u8)) rfl (by decide) rfl (by decide) (by decide) (fun _ => rfl) (by decide) rfl rfl hl.1 rfl (Nat.le_of_ble_eq_true rfl) dX6_loss_8 (fun r8 u8 H locs hw8 hP hD hS => ?_)
  exact W.iret (v := r8) hx hb hr (fun t ht hW => ⟨⟨r8, u8, rfl, by obtain rfl := congrArg Prod.fst hw8; obtain rfl := congrArg Prod.snd hw8; unfold f_X6_loss; rfl, by rw [ht]; exact hP, hD⟩, hS.F ht⟩) hS.2.2 dX6_loss_11
def f_X6_of (os_kind : Nat → Int32) (os_limit : Nat → Int32) (os_retention : Nat → Int32) (os_quota : Nat → Int32) (os_refers : Nat → Int32) (os_lossNow : Int32) (ol_reach : Nat → Int32) (ol_ringWith : Nat → Int32) (ol_rungOf : Nat → Int32) (ol_ringOf : Nat → Int32) (ol_most : Nat → Int32) (ol_paid : Nat → Int32) (ol_ringFirst : Nat → Int32) (ol_ringBits : Nat → Int32) (ol_ringRung : Nat → Int32) (ol_ringLeft : Nat → Int32) (ol_ringPaid : Nat → Int32) (ol_paidInAll : Int32) (ol_over : Int32) (c : Int32) (what : Int32) (n : Nat) (r : Nat) : Int32 × (Nat → Int32) × (Nat → Int32) × (Nat → Int32) × (Nat → Int32) × (Nat → Int32) × (Nat → Int32) × (Nat → Int32) × (Nat → Int32) × (Nat → Int32) × (Nat → Int32) × (Nat → Int32) × Nat × Int32 × Int32 :=
  if (f_X3_isContract (nI n) c) = (0 : Int32) then ((-1 : Int32), (ol_reach, ol_ringWith, ol_rungOf, ol_ringOf, ol_most, ol_paid, ol_ringFirst, ol_ringBits, ol_ringRung, ol_ringLeft, ol_ringPaid, r, ol_paidInAll, ol_over)) else (if what < (0 : Int32) then (if what = (4 : Int32) then ((os_refers c.toNatClampNeg), (f_X0_settle ol_reach ol_ringWith ol_rungOf ol_ringOf ol_most ol_paid ol_ringFirst ol_ringBits ol_ringRung ol_ringLeft ol_ringPaid os_kind os_limit os_retention os_quota os_refers os_lossNow n)) else (if what = (5 : Int32) then ((((f_X0_settle ol_reach ol_ringWith ol_rungOf ol_ringOf ol_most ol_paid ol_ringFirst ol_ringBits ol_ringRung ol_ringLeft ol_ringPaid os_kind os_limit os_retention os_quota os_refers os_lossNow n).1 c.toNatClampNeg) &&& (((1 : Int32) <<< (nI c.toNatClampNeg &&& 31)) ^^^ (-1 : Int32))), (f_X0_settle ol_reach ol_ringWith ol_rungOf ol_ringOf ol_most ol_paid ol_ringFirst ol_ringBits ol_ringRung ol_ringLeft ol_ringPaid os_kind os_limit os_retention os_quota os_refers os_lossNow n)) else (if what = (6 : Int32) then (((f_X0_settle ol_reach ol_ringWith ol_rungOf ol_ringOf ol_most ol_paid ol_ringFirst ol_ringBits ol_ringRung ol_ringLeft ol_ringPaid os_kind os_limit os_retention os_quota os_refers os_lossNow n).2.2.2.2.2.2.2.1 (((f_X0_settle ol_reach ol_ringWith ol_rungOf ol_ringOf ol_most ol_paid ol_ringFirst ol_ringBits ol_ringRung ol_ringLeft ol_ringPaid os_kind os_limit os_retention os_quota os_refers os_lossNow n).2.2.2.1 c.toNatClampNeg).toNatClampNeg)), (f_X0_settle ol_reach ol_ringWith ol_rungOf ol_ringOf ol_most ol_paid ol_ringFirst ol_ringBits ol_ringRung ol_ringLeft ol_ringPaid os_kind os_limit os_retention os_quota os_refers os_lossNow n)) else (if what = (7 : Int32) then (((f_X0_settle ol_reach ol_ringWith ol_rungOf ol_ringOf ol_most ol_paid ol_ringFirst ol_ringBits ol_ringRung ol_ringLeft ol_ringPaid os_kind os_limit os_retention os_quota os_refers os_lossNow n).2.2.2.2.2.2.2.2.1 (((f_X0_settle ol_reach ol_ringWith ol_rungOf ol_ringOf ol_most ol_paid ol_ringFirst ol_ringBits ol_ringRung ol_ringLeft ol_ringPaid os_kind os_limit os_retention os_quota os_refers os_lossNow n).2.2.2.1 c.toNatClampNeg).toNatClampNeg)), (f_X0_settle ol_reach ol_ringWith ol_rungOf ol_ringOf ol_most ol_paid ol_ringFirst ol_ringBits ol_ringRung ol_ringLeft ol_ringPaid os_kind os_limit os_retention os_quota os_refers os_lossNow n)) else (if what = (8 : Int32) then (((f_X0_settle ol_reach ol_ringWith ol_rungOf ol_ringOf ol_most ol_paid ol_ringFirst ol_ringBits ol_ringRung ol_ringLeft ol_ringPaid os_kind os_limit os_retention os_quota os_refers os_lossNow n).2.2.2.2.2.2.2.2.2.1 (((f_X0_settle ol_reach ol_ringWith ol_rungOf ol_ringOf ol_most ol_paid ol_ringFirst ol_ringBits ol_ringRung ol_ringLeft ol_ringPaid os_kind os_limit os_retention os_quota os_refers os_lossNow n).2.2.2.1 c.toNatClampNeg).toNatClampNeg)), (f_X0_settle ol_reach ol_ringWith ol_rungOf ol_ringOf ol_most ol_paid ol_ringFirst ol_ringBits ol_ringRung ol_ringLeft ol_ringPaid os_kind os_limit os_retention os_quota os_refers os_lossNow n)) else (if what = (9 : Int32) then (((f_X0_settle ol_reach ol_ringWith ol_rungOf ol_ringOf ol_most ol_paid ol_ringFirst ol_ringBits ol_ringRung ol_ringLeft ol_ringPaid os_kind os_limit os_retention os_quota os_refers os_lossNow n).2.2.2.2.2.1 c.toNatClampNeg), (f_X0_settle ol_reach ol_ringWith ol_rungOf ol_ringOf ol_most ol_paid ol_ringFirst ol_ringBits ol_ringRung ol_ringLeft ol_ringPaid os_kind os_limit os_retention os_quota os_refers os_lossNow n)) else ((-1 : Int32), (f_X0_settle ol_reach ol_ringWith ol_rungOf ol_ringOf ol_most ol_paid ol_ringFirst ol_ringBits ol_ringRung ol_ringLeft ol_ringPaid os_kind os_limit os_retention os_quota os_refers os_lossNow n)))))))) else (if (3 : Int32) < what then (if what = (4 : Int32) then ((os_refers c.toNatClampNeg), (f_X0_settle ol_reach ol_ringWith ol_rungOf ol_ringOf ol_most ol_paid ol_ringFirst ol_ringBits ol_ringRung ol_ringLeft ol_ringPaid os_kind os_limit os_retention os_quota os_refers os_lossNow n)) else (if what = (5 : Int32) then ((((f_X0_settle ol_reach ol_ringWith ol_rungOf ol_ringOf ol_most ol_paid ol_ringFirst ol_ringBits ol_ringRung ol_ringLeft ol_ringPaid os_kind os_limit os_retention os_quota os_refers os_lossNow n).1 c.toNatClampNeg) &&& (((1 : Int32) <<< (nI c.toNatClampNeg &&& 31)) ^^^ (-1 : Int32))), (f_X0_settle ol_reach ol_ringWith ol_rungOf ol_ringOf ol_most ol_paid ol_ringFirst ol_ringBits ol_ringRung ol_ringLeft ol_ringPaid os_kind os_limit os_retention os_quota os_refers os_lossNow n)) else (if what = (6 : Int32) then (((f_X0_settle ol_reach ol_ringWith ol_rungOf ol_ringOf ol_most ol_paid ol_ringFirst ol_ringBits ol_ringRung ol_ringLeft ol_ringPaid os_kind os_limit os_retention os_quota os_refers os_lossNow n).2.2.2.2.2.2.2.1 (((f_X0_settle ol_reach ol_ringWith ol_rungOf ol_ringOf ol_most ol_paid ol_ringFirst ol_ringBits ol_ringRung ol_ringLeft ol_ringPaid os_kind os_limit os_retention os_quota os_refers os_lossNow n).2.2.2.1 c.toNatClampNeg).toNatClampNeg)), (f_X0_settle ol_reach ol_ringWith ol_rungOf ol_ringOf ol_most ol_paid ol_ringFirst ol_ringBits ol_ringRung ol_ringLeft ol_ringPaid os_kind os_limit os_retention os_quota os_refers os_lossNow n)) else (if what = (7 : Int32) then (((f_X0_settle ol_reach ol_ringWith ol_rungOf ol_ringOf ol_most ol_paid ol_ringFirst ol_ringBits ol_ringRung ol_ringLeft ol_ringPaid os_kind os_limit os_retention os_quota os_refers os_lossNow n).2.2.2.2.2.2.2.2.1 (((f_X0_settle ol_reach ol_ringWith ol_rungOf ol_ringOf ol_most ol_paid ol_ringFirst ol_ringBits ol_ringRung ol_ringLeft ol_ringPaid os_kind os_limit os_retention os_quota os_refers os_lossNow n).2.2.2.1 c.toNatClampNeg).toNatClampNeg)), (f_X0_settle ol_reach ol_ringWith ol_rungOf ol_ringOf ol_most ol_paid ol_ringFirst ol_ringBits ol_ringRung ol_ringLeft ol_ringPaid os_kind os_limit os_retention os_quota os_refers os_lossNow n)) else (if what = (8 : Int32) then (((f_X0_settle ol_reach ol_ringWith ol_rungOf ol_ringOf ol_most ol_paid ol_ringFirst ol_ringBits ol_ringRung ol_ringLeft ol_ringPaid os_kind os_limit os_retention os_quota os_refers os_lossNow n).2.2.2.2.2.2.2.2.2.1 (((f_X0_settle ol_reach ol_ringWith ol_rungOf ol_ringOf ol_most ol_paid ol_ringFirst ol_ringBits ol_ringRung ol_ringLeft ol_ringPaid os_kind os_limit os_retention os_quota os_refers os_lossNow n).2.2.2.1 c.toNatClampNeg).toNatClampNeg)), (f_X0_settle ol_reach ol_ringWith ol_rungOf ol_ringOf ol_most ol_paid ol_ringFirst ol_ringBits ol_ringRung ol_ringLeft ol_ringPaid os_kind os_limit os_retention os_quota os_refers os_lossNow n)) else (if what = (9 : Int32) then (((f_X0_settle ol_reach ol_ringWith ol_rungOf ol_ringOf ol_most ol_paid ol_ringFirst ol_ringBits ol_ringRung ol_ringLeft ol_ringPaid os_kind os_limit os_retention os_quota os_refers os_lossNow n).2.2.2.2.2.1 c.toNatClampNeg), (f_X0_settle ol_reach ol_ringWith ol_rungOf ol_ringOf ol_most ol_paid ol_ringFirst ol_ringBits ol_ringRung ol_ringLeft ol_ringPaid os_kind os_limit os_retention os_quota os_refers os_lossNow n)) else ((-1 : Int32), (f_X0_settle ol_reach ol_ringWith ol_rungOf ol_ringOf ol_most ol_paid ol_ringFirst ol_ringBits ol_ringRung ol_ringLeft ol_ringPaid os_kind os_limit os_retention os_quota os_refers os_lossNow n)))))))) else ((f_X3_term os_kind os_limit os_retention os_quota (nI c.toNatClampNeg) what n), (ol_reach, ol_ringWith, ol_rungOf, ol_ringOf, ol_most, ol_paid, ol_ringFirst, ol_ringBits, ol_ringRung, ol_ringLeft, ol_ringPaid, r, ol_paidInAll, ol_over))))
set_option maxHeartbeats 4000000 in
set_option maxRecDepth 100000 in
theorem c_X6_of (l : Launch) (D : va_G) (cy : Nat → ClassId) (ox : Nat → Nat) (nt : Nat → Nat) (os : Nat → Nat) (ol : Nat → Nat) (tt : Nat → Nat) (ts : Nat → Nat) (tl : Nat → Nat) (oc : Nat → Nat) (ta : Nat → Nat) (r1 : Nat → Nat) (r2 : Nat → Nat) (r3 : Nat → Nat) (ox_isTaken : Int32) (os_kind : Nat → Int32) (os_limit : Nat → Int32) (os_retention : Nat → Int32) (os_quota : Nat → Int32) (os_refers : Nat → Int32) (os_lossNow : Int32) (ol_reach : Nat → Int32) (ol_ringWith : Nat → Int32) (ol_rungOf : Nat → Int32) (ol_ringOf : Nat → Int32) (ol_most : Nat → Int32) (ol_paid : Nat → Int32) (ol_back : Nat → Int32) (ol_ringFirst : Nat → Int32) (ol_ringBits : Nat → Int32) (ol_ringRung : Nat → Int32) (ol_ringLeft : Nat → Int32) (ol_ringPaid : Nat → Int32) (ol_paidInAll : Int32) (ol_over : Int32) (c : Int32) (what : Int32) (n : Nat) (r : Nat) (hn : n ≤ 6) : RwI (S := (Nat → Int32) × (Nat → Int32) × (Nat → Int32) × (Nat → Int32) × (Nat → Int32) × (Nat → Int32) × (Nat → Int32) × (Nat → Int32) × (Nat → Int32) × (Nat → Int32) × (Nat → Int32) × Nat × Int32 × Int32) l D cy yX6_of (.code yX6_of cX6_of 3 (some .int)) 6 ((wX6 cy ox (nt 0) (tt 0) (ol 0) (ts 0) (tl 0) (oc 0) (ta 0) ox_isTaken) ++ (wX5 cy nt (os 0) (r1 0) (r2 0) (r3 0)) ++ (wX3 cy os os_kind os_limit os_retention os_quota os_refers (nI n) os_lossNow) ++ (wX0 cy ol (os 0) ol_reach ol_ringWith ol_rungOf ol_ringOf ol_most ol_paid ol_back ol_ringFirst ol_ringBits ol_ringRung ol_ringLeft ol_ringPaid (nI r) ol_paidInAll ol_over)) [.ref (ox 0), .int c, .int what] (fun rr u => (rr, u) = f_X6_of os_kind os_limit os_retention os_quota os_refers os_lossNow ol_reach ol_ringWith ol_rungOf ol_ringOf ol_most ol_paid ol_ringFirst ol_ringBits ol_ringRung ol_ringLeft ol_ringPaid ol_paidInAll ol_over c what n r) (fun u => (wX6 cy ox (nt 0) (tt 0) (ol 0) (ts 0) (tl 0) (oc 0) (ta 0) ox_isTaken) ++ (wX5 cy nt (os 0) (r1 0) (r2 0) (r3 0)) ++ (wX3 cy os os_kind os_limit os_retention os_quota os_refers (nI n) os_lossNow) ++ (wX0 cy ol (os 0) u.1 u.2.1 u.2.2.1 u.2.2.2.1 u.2.2.2.2.1 u.2.2.2.2.2.1 ol_back u.2.2.2.2.2.2.1 u.2.2.2.2.2.2.2.1 u.2.2.2.2.2.2.2.2.1 u.2.2.2.2.2.2.2.2.2.1 u.2.2.2.2.2.2.2.2.2.2.1 (nI u.2.2.2.2.2.2.2.2.2.2.2.1) u.2.2.2.2.2.2.2.2.2.2.2.2.1 u.2.2.2.2.2.2.2.2.2.2.2.2.2)) := by
  intro sz
  refine Met.ofW (cc := cX6_of) (maxL := 3) (ret := (some .int)) (by decide) rfl ?_
  intro pP eE s0 mM args below meth cC s₁ B hml hv
  obtain ⟨rfl, hsz, hP, hKX, hD0⟩ := hv
  have hx := B.exec
  have hb := B.bytes
  have hr := B.returns
  have hG := gw_hts (atoms_spec (ws := _) B.pre)
  have hown : s0.vm.findClass RX6 = some mM.cls := findClass_of_methodNamed B.named
  have hlocks := B.notSynchronized
  subst hsz
  have hD := hD0.self (sz := s0.heap.size)
  generalize hAe : va_A ((wX6 cy ox (nt 0) (tt 0) (ol 0) (ts 0) (tl 0) (oc 0) (ta 0) ox_isTaken) ++ (wX5 cy nt (os 0) (r1 0) (r2 0) (r3 0)) ++ (wX3 cy os os_kind os_limit os_retention os_quota os_refers (nI n) os_lossNow) ++ (wX0 cy ol (os 0) ol_reach ol_ringWith ol_rungOf ol_ringOf ol_most ol_paid ol_back ol_ringFirst ol_ringBits ol_ringRung ol_ringLeft ol_ringPaid (nI r) ol_paidInAll ol_over)) s0.heap.size = A at hD ⊢
  have hA : ∀ q : Nat, s0.heap.size ≤ q → A q := fun q h => by rw [← hAe]; exact Or.inr h
  have hS : va_S A s0.heap s0.heap [] := va_S.rf
  have hl := lv_entry ([.ref (ox 0), .int c, .int what]) (n := 3) (Nat.le_of_ble_eq_true rfl)
  rw [lg_entry_eq]
  generalize (lg_sl ([.ref (ox 0), .int c, .int what]) ++ List.replicate (3 - (lg_sl ([.ref (ox 0), .int c, .int what])).length) Slot.unset).toArray = ls at hl ⊢
  have hl : lv_has ls 3 [(0, .ref (ox 0)), (1, .int c), (2, .int what)] := hl
  refine lv_aload_n hx hb dX6_of_0 rfl (lv_at hl 0 rfl) ?_
  refine gf_X6_12 hx hb hG hown hKX hP 0 rfl rfl dX6_of_1 ?_
  refine gf_X6_27 hx hb hG hown hKX hP 1 rfl rfl dX6_of_4 ?_
  refine lv_iload_n hx hb dX6_of_7 rfl (lv_at hl 1 rfl) ?_
  refine cRoV (q0 := 0) (ci := 3) mw10_1 mw7_19 mw7_20 mw2_2 mw7_21 rfl rfl hd_X3_isContract hx hb hml hown hG hKX (c_X3_isContract l D cy os os_kind os_limit os_retention os_quota os_refers (nI n) os_lossNow c) ⟨Nat.le_of_ble_eq_true rfl, Nat.le_of_ble_eq_true rfl⟩ ⟨Nat.zero_le _, Nat.zero_le _⟩ (hP.sub [2, 3, 4, 5, 6, 7] rfl) rfl rfl hl.1 rfl (Nat.le_of_ble_eq_true rfl) dX6_of_8 ?_
  refine lv_if_ne (tgt := 16) hx hb dX6_of_11 (by decide) (fun c1 => ?_) (fun c1 => ?_)
  · obtain ⟨j11, hj11, hlj11, rfl⟩ := isC_of (by omega) c1
    refine lv_iload_n hx hb dX6_of_16 rfl (lv_at hl 2 rfl) ?_
    refine lv_if_lt (tgt := 38) hx hb dX6_of_17 (by decide) (fun c2 => ?_) (fun c2 => ?_)
    · refine lv_aload_n hx hb dX6_of_38 rfl (lv_at hl 0 rfl) ?_
      refine gf_X6_34 hx hb hG hown hKX hP 0 rfl rfl dX6_of_39 ?_
      refine cRwVV (q0 := 0) (ci := 0) mw10_3 mw10_4 mw10_5 mw1_21 mw10_6 rfl rfl hd_X0_settle hx hb hml hown hG hKX (c_X0_settle l D cy ol os ol_reach ol_ringWith ol_rungOf ol_ringOf ol_most ol_paid ol_back ol_ringFirst ol_ringBits ol_ringRung ol_ringLeft ol_ringPaid (nI r) ol_paidInAll ol_over os_kind os_limit os_retention os_quota os_refers os_lossNow n hn) ⟨Nat.le_of_ble_eq_true rfl, Nat.le_of_ble_eq_true rfl⟩ ⟨Nat.zero_le _, Nat.zero_le _⟩ hP hD hS hA [8, 9, 10, 11, 12, 13, 14, 15, 16, 17, 18, 19, 20, 2, 3, 4, 5, 6, 7] [0, 1] [0, 1, 15, 16, 17, 18, 19, 20, 2, 3, 4, 5, 6, 7, 8, 9, 10, 11, 12, 13, 14] (wr := (wX6 cy ox (nt 0) (tt 0) (ol 0) (ts 0) (tl 0) (oc 0) (ta 0) ox_isTaken) ++ (wX5 cy nt (os 0) (r1 0) (r2 0) (r3 0))) (wn := fun u42 => (wX6 cy ox (nt 0) (tt 0) (ol 0) (ts 0) (tl 0) (oc 0) (ta 0) ox_isTaken) ++ (wX5 cy nt (os 0) (r1 0) (r2 0) (r3 0)) ++ (wX3 cy os os_kind os_limit os_retention os_quota os_refers (nI n) os_lossNow) ++ (wX0 cy ol (os 0) u42.1 u42.2.1 u42.2.2.1 u42.2.2.2.1 u42.2.2.2.2.1 u42.2.2.2.2.2.1 ol_back u42.2.2.2.2.2.2.1 u42.2.2.2.2.2.2.2.1 u42.2.2.2.2.2.2.2.2.1 u42.2.2.2.2.2.2.2.2.2.1 u42.2.2.2.2.2.2.2.2.2.2.1 (nI u42.2.2.2.2.2.2.2.2.2.2.2.1) u42.2.2.2.2.2.2.2.2.2.2.2.2.1 u42.2.2.2.2.2.2.2.2.2.2.2.2.2)) rfl (by decide) rfl (by decide) (by decide) (fun _ => rfl) (by decide) rfl rfl hl.1 rfl (Nat.le_of_ble_eq_true rfl) dX6_of_42 (fun u42 H locs hw42 hP hD hS => ?_)
      have hrl : u42.2.2.2.2.2.2.2.2.2.2.2.1 ≤ 6 := by subst hw42; exact settle_le
      have hfst : ∀ k, k < u42.2.2.2.2.2.2.2.2.2.2.2.1 → u42.2.2.2.2.2.2.1 k = nI (u42.2.2.2.2.2.2.1 k).toNatClampNeg ∧ (u42.2.2.2.2.2.2.1 k).toNatClampNeg < n := by subst hw42; exact settle_first hn
      have hro : ∀ k, k < n → u42.2.2.2.1 k = nI (u42.2.2.2.1 k).toNatClampNeg ∧ (u42.2.2.2.1 k).toNatClampNeg < 6 := by subst hw42; exact settle_ro hn
      refine lv_iload_n hx hb dX6_of_45 rfl (lv_at hl 2 rfl) ?_
      by_cases c3 : what = (4 : Int32)
      · refine lv_tableIn (tgt := 84) hx hb dX6_of_46 (by rw [c3]; decide) (by rw [c3]; decide) (by rw [c3]; rfl) (by decide) ?_
        refine lv_aload_n hx hb dX6_of_84 rfl (lv_at hl 0 rfl) ?_
        refine gf_X6_12 hx hb hG hown hKX hP 0 rfl rfl dX6_of_85 ?_
        refine gf_X6_27 hx hb hG hown hKX hP 1 rfl rfl dX6_of_88 ?_
        refine gf_X6_87 hx hb hG hown hKX hP 2 rfl rfl dX6_of_91 ?_
        refine lv_iload_n hx hb dX6_of_94 rfl (lv_at hl 1 rfl) ?_
        refine iald_n hx hb hKX hP 7 rfl rfl (by omega) (by decide) dX6_of_95 ?_
        exact W.iret (v := (os_refers j11)) hx hb hr (fun t ht hW => ⟨⟨(os_refers j11), u42, rfl, by subst hw42; unfold f_X6_of; (try simp only [hj11]); rw [if_neg c1, if_pos c2, if_pos c3] <;> rfl, by rw [ht]; exact hP, hD⟩, hS.F ht⟩) hS.2.2 dX6_of_96
      · by_cases c4 : what = (5 : Int32)
        · refine lv_tableIn (tgt := 97) hx hb dX6_of_46 (by rw [c4]; decide) (by rw [c4]; decide) (by rw [c4]; rfl) (by decide) ?_
          refine lv_aload_n hx hb dX6_of_97 rfl (lv_at hl 0 rfl) ?_
          refine gf_X6_34 hx hb hG hown hKX hP 0 rfl rfl dX6_of_98 ?_
          refine gf_X6_91 hx hb hG hown hKX hP 8 rfl rfl dX6_of_101 ?_
          refine lv_iload_n hx hb dX6_of_104 rfl (lv_at hl 1 rfl) ?_
          refine iald_n hx hb hKX hP 9 rfl rfl (by omega) (by decide) dX6_of_105 ?_
          refine lv_iconst (v := (1 : Int32)) hx hb dX6_of_106 (by decide) ?_
          refine lv_iload_n hx hb dX6_of_107 rfl (lv_at hl 1 rfl) ?_
          refine lv_ishl hx hb dX6_of_108 ?_
          refine lv_iconst (v := (-1 : Int32)) hx hb dX6_of_109 (by decide) ?_
          refine lv_ixor hx hb dX6_of_110 ?_
          refine lv_iand hx hb dX6_of_111 ?_
          exact W.iret (v := ((u42.1 j11) &&& (((1 : Int32) <<< (nI j11 &&& 31)) ^^^ (-1 : Int32)))) hx hb hr (fun t ht hW => ⟨⟨((u42.1 j11) &&& (((1 : Int32) <<< (nI j11 &&& 31)) ^^^ (-1 : Int32))), u42, rfl, by subst hw42; unfold f_X6_of; (try simp only [hj11]); rw [if_neg c1, if_pos c2, if_neg c3, if_pos c4] <;> rfl, by rw [ht]; exact hP, hD⟩, hS.F ht⟩) hS.2.2 dX6_of_112
        · by_cases c5 : what = (6 : Int32)
          · refine lv_tableIn (tgt := 113) hx hb dX6_of_46 (by rw [c5]; decide) (by rw [c5]; decide) (by rw [c5]; rfl) (by decide) ?_
            refine lv_aload_n hx hb dX6_of_113 rfl (lv_at hl 0 rfl) ?_
            refine gf_X6_34 hx hb hG hown hKX hP 0 rfl rfl dX6_of_114 ?_
            refine gf_X6_94 hx hb hG hown hKX hP 8 rfl rfl dX6_of_117 ?_
            refine lv_aload_n hx hb dX6_of_120 rfl (lv_at hl 0 rfl) ?_
            refine gf_X6_34 hx hb hG hown hKX hP 0 rfl rfl dX6_of_121 ?_
            refine gf_X6_97 hx hb hG hown hKX hP 8 rfl rfl dX6_of_124 ?_
            refine lv_iload_n hx hb dX6_of_127 rfl (lv_at hl 1 rfl) ?_
            refine iald_v hx hb hKX hP 12 rfl rfl (by omega) (by decide) (hro j11 (by omega)).1 dX6_of_128 ?_
            refine iald_n hx hb hKX hP 17 rfl rfl (hro j11 (by omega)).2 (by decide) dX6_of_129 ?_
            exact W.iret (v := (u42.2.2.2.2.2.2.2.1 ((u42.2.2.2.1 j11).toNatClampNeg))) hx hb hr (fun t ht hW => ⟨⟨(u42.2.2.2.2.2.2.2.1 ((u42.2.2.2.1 j11).toNatClampNeg)), u42, rfl, by subst hw42; unfold f_X6_of; (try simp only [hj11]); rw [if_neg c1, if_pos c2, if_neg c3, if_neg c4, if_pos c5] <;> rfl, by rw [ht]; exact hP, hD⟩, hS.F ht⟩) hS.2.2 dX6_of_130
          · by_cases c6 : what = (7 : Int32)
            · refine lv_tableIn (tgt := 131) hx hb dX6_of_46 (by rw [c6]; decide) (by rw [c6]; decide) (by rw [c6]; rfl) (by decide) ?_
              refine lv_aload_n hx hb dX6_of_131 rfl (lv_at hl 0 rfl) ?_
              refine gf_X6_34 hx hb hG hown hKX hP 0 rfl rfl dX6_of_132 ?_
              refine gf_X6_100 hx hb hG hown hKX hP 8 rfl rfl dX6_of_135 ?_
              refine lv_aload_n hx hb dX6_of_138 rfl (lv_at hl 0 rfl) ?_
              refine gf_X6_34 hx hb hG hown hKX hP 0 rfl rfl dX6_of_139 ?_
              refine gf_X6_97 hx hb hG hown hKX hP 8 rfl rfl dX6_of_142 ?_
              refine lv_iload_n hx hb dX6_of_145 rfl (lv_at hl 1 rfl) ?_
              refine iald_v hx hb hKX hP 12 rfl rfl (by omega) (by decide) (hro j11 (by omega)).1 dX6_of_146 ?_
              refine iald_n hx hb hKX hP 18 rfl rfl (hro j11 (by omega)).2 (by decide) dX6_of_147 ?_
              exact W.iret (v := (u42.2.2.2.2.2.2.2.2.1 ((u42.2.2.2.1 j11).toNatClampNeg))) hx hb hr (fun t ht hW => ⟨⟨(u42.2.2.2.2.2.2.2.2.1 ((u42.2.2.2.1 j11).toNatClampNeg)), u42, rfl, by subst hw42; unfold f_X6_of; (try simp only [hj11]); rw [if_neg c1, if_pos c2, if_neg c3, if_neg c4, if_neg c5, if_pos c6] <;> rfl, by rw [ht]; exact hP, hD⟩, hS.F ht⟩) hS.2.2 dX6_of_148
            · by_cases c7 : what = (8 : Int32)
              · refine lv_tableIn (tgt := 149) hx hb dX6_of_46 (by rw [c7]; decide) (by rw [c7]; decide) (by rw [c7]; rfl) (by decide) ?_
                refine lv_aload_n hx hb dX6_of_149 rfl (lv_at hl 0 rfl) ?_
                refine gf_X6_34 hx hb hG hown hKX hP 0 rfl rfl dX6_of_150 ?_
                refine gf_X6_103 hx hb hG hown hKX hP 8 rfl rfl dX6_of_153 ?_
                refine lv_aload_n hx hb dX6_of_156 rfl (lv_at hl 0 rfl) ?_
                refine gf_X6_34 hx hb hG hown hKX hP 0 rfl rfl dX6_of_157 ?_
                refine gf_X6_97 hx hb hG hown hKX hP 8 rfl rfl dX6_of_160 ?_
                refine lv_iload_n hx hb dX6_of_163 rfl (lv_at hl 1 rfl) ?_
                refine iald_v hx hb hKX hP 12 rfl rfl (by omega) (by decide) (hro j11 (by omega)).1 dX6_of_164 ?_
                refine iald_n hx hb hKX hP 19 rfl rfl (hro j11 (by omega)).2 (by decide) dX6_of_165 ?_
                exact W.iret (v := (u42.2.2.2.2.2.2.2.2.2.1 ((u42.2.2.2.1 j11).toNatClampNeg))) hx hb hr (fun t ht hW => ⟨⟨(u42.2.2.2.2.2.2.2.2.2.1 ((u42.2.2.2.1 j11).toNatClampNeg)), u42, rfl, by subst hw42; unfold f_X6_of; (try simp only [hj11]); rw [if_neg c1, if_pos c2, if_neg c3, if_neg c4, if_neg c5, if_neg c6, if_pos c7] <;> rfl, by rw [ht]; exact hP, hD⟩, hS.F ht⟩) hS.2.2 dX6_of_166
              · by_cases c8 : what = (9 : Int32)
                · refine lv_tableIn (tgt := 167) hx hb dX6_of_46 (by rw [c8]; decide) (by rw [c8]; decide) (by rw [c8]; rfl) (by decide) ?_
                  refine lv_aload_n hx hb dX6_of_167 rfl (lv_at hl 0 rfl) ?_
                  refine gf_X6_34 hx hb hG hown hKX hP 0 rfl rfl dX6_of_168 ?_
                  refine gf_X6_106 hx hb hG hown hKX hP 8 rfl rfl dX6_of_171 ?_
                  refine lv_iload_n hx hb dX6_of_174 rfl (lv_at hl 1 rfl) ?_
                  refine iald_n hx hb hKX hP 14 rfl rfl (by omega) (by decide) dX6_of_175 ?_
                  exact W.iret (v := (u42.2.2.2.2.2.1 j11)) hx hb hr (fun t ht hW => ⟨⟨(u42.2.2.2.2.2.1 j11), u42, rfl, by subst hw42; unfold f_X6_of; (try simp only [hj11]); rw [if_neg c1, if_pos c2, if_neg c3, if_neg c4, if_neg c5, if_neg c6, if_neg c7, if_pos c8] <;> rfl, by rw [ht]; exact hP, hD⟩, hS.F ht⟩) hS.2.2 dX6_of_176
                · refine lv_tableOut (tgt := 177) hx hb dX6_of_46 (by have q0 := ne_t c3 (z := 4) (by decide); have q1 := ne_t c4 (z := 5) (by decide); have q2 := ne_t c5 (z := 6) (by decide); have q3 := ne_t c6 (z := 7) (by decide); have q4 := ne_t c7 (z := 8) (by decide); have q5 := ne_t c8 (z := 9) (by decide); omega) (by decide) ?_
                  refine lv_iconst (v := (-1 : Int32)) hx hb dX6_of_177 (by decide) ?_
                  exact W.iret (v := (-1 : Int32)) hx hb hr (fun t ht hW => ⟨⟨(-1 : Int32), u42, rfl, by subst hw42; unfold f_X6_of; (try simp only [hj11]); rw [if_neg c1, if_pos c2, if_neg c3, if_neg c4, if_neg c5, if_neg c6, if_neg c7, if_neg c8] <;> rfl, by rw [ht]; exact hP, hD⟩, hS.F ht⟩) hS.2.2 dX6_of_178
    · refine lv_iload_n hx hb dX6_of_20 rfl (lv_at hl 2 rfl) ?_
      refine lv_iconst (v := (3 : Int32)) hx hb dX6_of_21 (by decide) ?_
      refine lv_icmp_gt (tgt := 38) hx hb dX6_of_22 (by decide) (fun c9 => ?_) (fun c9 => ?_)
      · refine lv_aload_n hx hb dX6_of_38 rfl (lv_at hl 0 rfl) ?_
        refine gf_X6_34 hx hb hG hown hKX hP 0 rfl rfl dX6_of_39 ?_
        refine cRwVV (q0 := 0) (ci := 0) mw10_3 mw10_4 mw10_5 mw1_21 mw10_6 rfl rfl hd_X0_settle hx hb hml hown hG hKX (c_X0_settle l D cy ol os ol_reach ol_ringWith ol_rungOf ol_ringOf ol_most ol_paid ol_back ol_ringFirst ol_ringBits ol_ringRung ol_ringLeft ol_ringPaid (nI r) ol_paidInAll ol_over os_kind os_limit os_retention os_quota os_refers os_lossNow n hn) ⟨Nat.le_of_ble_eq_true rfl, Nat.le_of_ble_eq_true rfl⟩ ⟨Nat.zero_le _, Nat.zero_le _⟩ hP hD hS hA [8, 9, 10, 11, 12, 13, 14, 15, 16, 17, 18, 19, 20, 2, 3, 4, 5, 6, 7] [0, 1] [0, 1, 15, 16, 17, 18, 19, 20, 2, 3, 4, 5, 6, 7, 8, 9, 10, 11, 12, 13, 14] (wr := (wX6 cy ox (nt 0) (tt 0) (ol 0) (ts 0) (tl 0) (oc 0) (ta 0) ox_isTaken) ++ (wX5 cy nt (os 0) (r1 0) (r2 0) (r3 0))) (wn := fun u42 => (wX6 cy ox (nt 0) (tt 0) (ol 0) (ts 0) (tl 0) (oc 0) (ta 0) ox_isTaken) ++ (wX5 cy nt (os 0) (r1 0) (r2 0) (r3 0)) ++ (wX3 cy os os_kind os_limit os_retention os_quota os_refers (nI n) os_lossNow) ++ (wX0 cy ol (os 0) u42.1 u42.2.1 u42.2.2.1 u42.2.2.2.1 u42.2.2.2.2.1 u42.2.2.2.2.2.1 ol_back u42.2.2.2.2.2.2.1 u42.2.2.2.2.2.2.2.1 u42.2.2.2.2.2.2.2.2.1 u42.2.2.2.2.2.2.2.2.2.1 u42.2.2.2.2.2.2.2.2.2.2.1 (nI u42.2.2.2.2.2.2.2.2.2.2.2.1) u42.2.2.2.2.2.2.2.2.2.2.2.2.1 u42.2.2.2.2.2.2.2.2.2.2.2.2.2)) rfl (by decide) rfl (by decide) (by decide) (fun _ => rfl) (by decide) rfl rfl hl.1 rfl (Nat.le_of_ble_eq_true rfl) dX6_of_42 (fun u42 H locs hw42 hP hD hS => ?_)
        have hrl : u42.2.2.2.2.2.2.2.2.2.2.2.1 ≤ 6 := by subst hw42; exact settle_le
        have hfst : ∀ k, k < u42.2.2.2.2.2.2.2.2.2.2.2.1 → u42.2.2.2.2.2.2.1 k = nI (u42.2.2.2.2.2.2.1 k).toNatClampNeg ∧ (u42.2.2.2.2.2.2.1 k).toNatClampNeg < n := by subst hw42; exact settle_first hn
        have hro : ∀ k, k < n → u42.2.2.2.1 k = nI (u42.2.2.2.1 k).toNatClampNeg ∧ (u42.2.2.2.1 k).toNatClampNeg < 6 := by subst hw42; exact settle_ro hn
        refine lv_iload_n hx hb dX6_of_45 rfl (lv_at hl 2 rfl) ?_
        by_cases c10 : what = (4 : Int32)
        · refine lv_tableIn (tgt := 84) hx hb dX6_of_46 (by rw [c10]; decide) (by rw [c10]; decide) (by rw [c10]; rfl) (by decide) ?_
          refine lv_aload_n hx hb dX6_of_84 rfl (lv_at hl 0 rfl) ?_
          refine gf_X6_12 hx hb hG hown hKX hP 0 rfl rfl dX6_of_85 ?_
          refine gf_X6_27 hx hb hG hown hKX hP 1 rfl rfl dX6_of_88 ?_
          refine gf_X6_87 hx hb hG hown hKX hP 2 rfl rfl dX6_of_91 ?_
          refine lv_iload_n hx hb dX6_of_94 rfl (lv_at hl 1 rfl) ?_
          refine iald_n hx hb hKX hP 7 rfl rfl (by omega) (by decide) dX6_of_95 ?_
          exact W.iret (v := (os_refers j11)) hx hb hr (fun t ht hW => ⟨⟨(os_refers j11), u42, rfl, by subst hw42; unfold f_X6_of; (try simp only [hj11]); rw [if_neg c1, if_neg c2, if_pos c9, if_pos c10] <;> rfl, by rw [ht]; exact hP, hD⟩, hS.F ht⟩) hS.2.2 dX6_of_96
        · by_cases c11 : what = (5 : Int32)
          · refine lv_tableIn (tgt := 97) hx hb dX6_of_46 (by rw [c11]; decide) (by rw [c11]; decide) (by rw [c11]; rfl) (by decide) ?_
            refine lv_aload_n hx hb dX6_of_97 rfl (lv_at hl 0 rfl) ?_
            refine gf_X6_34 hx hb hG hown hKX hP 0 rfl rfl dX6_of_98 ?_
            refine gf_X6_91 hx hb hG hown hKX hP 8 rfl rfl dX6_of_101 ?_
            refine lv_iload_n hx hb dX6_of_104 rfl (lv_at hl 1 rfl) ?_
            refine iald_n hx hb hKX hP 9 rfl rfl (by omega) (by decide) dX6_of_105 ?_
            refine lv_iconst (v := (1 : Int32)) hx hb dX6_of_106 (by decide) ?_
            refine lv_iload_n hx hb dX6_of_107 rfl (lv_at hl 1 rfl) ?_
            refine lv_ishl hx hb dX6_of_108 ?_
            refine lv_iconst (v := (-1 : Int32)) hx hb dX6_of_109 (by decide) ?_
            refine lv_ixor hx hb dX6_of_110 ?_
            refine lv_iand hx hb dX6_of_111 ?_
            exact W.iret (v := ((u42.1 j11) &&& (((1 : Int32) <<< (nI j11 &&& 31)) ^^^ (-1 : Int32)))) hx hb hr (fun t ht hW => ⟨⟨((u42.1 j11) &&& (((1 : Int32) <<< (nI j11 &&& 31)) ^^^ (-1 : Int32))), u42, rfl, by subst hw42; unfold f_X6_of; (try simp only [hj11]); rw [if_neg c1, if_neg c2, if_pos c9, if_neg c10, if_pos c11] <;> rfl, by rw [ht]; exact hP, hD⟩, hS.F ht⟩) hS.2.2 dX6_of_112
          · by_cases c12 : what = (6 : Int32)
            · refine lv_tableIn (tgt := 113) hx hb dX6_of_46 (by rw [c12]; decide) (by rw [c12]; decide) (by rw [c12]; rfl) (by decide) ?_
              refine lv_aload_n hx hb dX6_of_113 rfl (lv_at hl 0 rfl) ?_
              refine gf_X6_34 hx hb hG hown hKX hP 0 rfl rfl dX6_of_114 ?_
              refine gf_X6_94 hx hb hG hown hKX hP 8 rfl rfl dX6_of_117 ?_
              refine lv_aload_n hx hb dX6_of_120 rfl (lv_at hl 0 rfl) ?_
              refine gf_X6_34 hx hb hG hown hKX hP 0 rfl rfl dX6_of_121 ?_
              refine gf_X6_97 hx hb hG hown hKX hP 8 rfl rfl dX6_of_124 ?_
              refine lv_iload_n hx hb dX6_of_127 rfl (lv_at hl 1 rfl) ?_
              refine iald_v hx hb hKX hP 12 rfl rfl (by omega) (by decide) (hro j11 (by omega)).1 dX6_of_128 ?_
              refine iald_n hx hb hKX hP 17 rfl rfl (hro j11 (by omega)).2 (by decide) dX6_of_129 ?_
              exact W.iret (v := (u42.2.2.2.2.2.2.2.1 ((u42.2.2.2.1 j11).toNatClampNeg))) hx hb hr (fun t ht hW => ⟨⟨(u42.2.2.2.2.2.2.2.1 ((u42.2.2.2.1 j11).toNatClampNeg)), u42, rfl, by subst hw42; unfold f_X6_of; (try simp only [hj11]); rw [if_neg c1, if_neg c2, if_pos c9, if_neg c10, if_neg c11, if_pos c12] <;> rfl, by rw [ht]; exact hP, hD⟩, hS.F ht⟩) hS.2.2 dX6_of_130
            · by_cases c13 : what = (7 : Int32)
              · refine lv_tableIn (tgt := 131) hx hb dX6_of_46 (by rw [c13]; decide) (by rw [c13]; decide) (by rw [c13]; rfl) (by decide) ?_
                refine lv_aload_n hx hb dX6_of_131 rfl (lv_at hl 0 rfl) ?_
                refine gf_X6_34 hx hb hG hown hKX hP 0 rfl rfl dX6_of_132 ?_
                refine gf_X6_100 hx hb hG hown hKX hP 8 rfl rfl dX6_of_135 ?_
                refine lv_aload_n hx hb dX6_of_138 rfl (lv_at hl 0 rfl) ?_
                refine gf_X6_34 hx hb hG hown hKX hP 0 rfl rfl dX6_of_139 ?_
                refine gf_X6_97 hx hb hG hown hKX hP 8 rfl rfl dX6_of_142 ?_
                refine lv_iload_n hx hb dX6_of_145 rfl (lv_at hl 1 rfl) ?_
                refine iald_v hx hb hKX hP 12 rfl rfl (by omega) (by decide) (hro j11 (by omega)).1 dX6_of_146 ?_
                refine iald_n hx hb hKX hP 18 rfl rfl (hro j11 (by omega)).2 (by decide) dX6_of_147 ?_
                exact W.iret (v := (u42.2.2.2.2.2.2.2.2.1 ((u42.2.2.2.1 j11).toNatClampNeg))) hx hb hr (fun t ht hW => ⟨⟨(u42.2.2.2.2.2.2.2.2.1 ((u42.2.2.2.1 j11).toNatClampNeg)), u42, rfl, by subst hw42; unfold f_X6_of; (try simp only [hj11]); rw [if_neg c1, if_neg c2, if_pos c9, if_neg c10, if_neg c11, if_neg c12, if_pos c13] <;> rfl, by rw [ht]; exact hP, hD⟩, hS.F ht⟩) hS.2.2 dX6_of_148
              · by_cases c14 : what = (8 : Int32)
                · refine lv_tableIn (tgt := 149) hx hb dX6_of_46 (by rw [c14]; decide) (by rw [c14]; decide) (by rw [c14]; rfl) (by decide) ?_
                  refine lv_aload_n hx hb dX6_of_149 rfl (lv_at hl 0 rfl) ?_
                  refine gf_X6_34 hx hb hG hown hKX hP 0 rfl rfl dX6_of_150 ?_
                  refine gf_X6_103 hx hb hG hown hKX hP 8 rfl rfl dX6_of_153 ?_
                  refine lv_aload_n hx hb dX6_of_156 rfl (lv_at hl 0 rfl) ?_
                  refine gf_X6_34 hx hb hG hown hKX hP 0 rfl rfl dX6_of_157 ?_
                  refine gf_X6_97 hx hb hG hown hKX hP 8 rfl rfl dX6_of_160 ?_
                  refine lv_iload_n hx hb dX6_of_163 rfl (lv_at hl 1 rfl) ?_
                  refine iald_v hx hb hKX hP 12 rfl rfl (by omega) (by decide) (hro j11 (by omega)).1 dX6_of_164 ?_
                  refine iald_n hx hb hKX hP 19 rfl rfl (hro j11 (by omega)).2 (by decide) dX6_of_165 ?_
                  exact W.iret (v := (u42.2.2.2.2.2.2.2.2.2.1 ((u42.2.2.2.1 j11).toNatClampNeg))) hx hb hr (fun t ht hW => ⟨⟨(u42.2.2.2.2.2.2.2.2.2.1 ((u42.2.2.2.1 j11).toNatClampNeg)), u42, rfl, by subst hw42; unfold f_X6_of; (try simp only [hj11]); rw [if_neg c1, if_neg c2, if_pos c9, if_neg c10, if_neg c11, if_neg c12, if_neg c13, if_pos c14] <;> rfl, by rw [ht]; exact hP, hD⟩, hS.F ht⟩) hS.2.2 dX6_of_166
                · by_cases c15 : what = (9 : Int32)
                  · refine lv_tableIn (tgt := 167) hx hb dX6_of_46 (by rw [c15]; decide) (by rw [c15]; decide) (by rw [c15]; rfl) (by decide) ?_
                    refine lv_aload_n hx hb dX6_of_167 rfl (lv_at hl 0 rfl) ?_
                    refine gf_X6_34 hx hb hG hown hKX hP 0 rfl rfl dX6_of_168 ?_
                    refine gf_X6_106 hx hb hG hown hKX hP 8 rfl rfl dX6_of_171 ?_
                    refine lv_iload_n hx hb dX6_of_174 rfl (lv_at hl 1 rfl) ?_
                    refine iald_n hx hb hKX hP 14 rfl rfl (by omega) (by decide) dX6_of_175 ?_
                    exact W.iret (v := (u42.2.2.2.2.2.1 j11)) hx hb hr (fun t ht hW => ⟨⟨(u42.2.2.2.2.2.1 j11), u42, rfl, by subst hw42; unfold f_X6_of; (try simp only [hj11]); rw [if_neg c1, if_neg c2, if_pos c9, if_neg c10, if_neg c11, if_neg c12, if_neg c13, if_neg c14, if_pos c15] <;> rfl, by rw [ht]; exact hP, hD⟩, hS.F ht⟩) hS.2.2 dX6_of_176
                  · refine lv_tableOut (tgt := 177) hx hb dX6_of_46 (by have q0 := ne_t c10 (z := 4) (by decide); have q1 := ne_t c11 (z := 5) (by decide); have q2 := ne_t c12 (z := 6) (by decide); have q3 := ne_t c13 (z := 7) (by decide); have q4 := ne_t c14 (z := 8) (by decide); have q5 := ne_t c15 (z := 9) (by decide); omega) (by decide) ?_
                    refine lv_iconst (v := (-1 : Int32)) hx hb dX6_of_177 (by decide) ?_
                    exact W.iret (v := (-1 : Int32)) hx hb hr (fun t ht hW => ⟨⟨(-1 : Int32), u42, rfl, by subst hw42; unfold f_X6_of; (try simp only [hj11]); rw [if_neg c1, if_neg c2, if_pos c9, if_neg c10, if_neg c11, if_neg c12, if_neg c13, if_neg c14, if_neg c15] <;> rfl, by rw [ht]; exact hP, hD⟩, hS.F ht⟩) hS.2.2 dX6_of_178
      · refine lv_aload_n hx hb dX6_of_25 rfl (lv_at hl 0 rfl) ?_
        refine gf_X6_12 hx hb hG hown hKX hP 0 rfl rfl dX6_of_26 ?_
        refine gf_X6_27 hx hb hG hown hKX hP 1 rfl rfl dX6_of_29 ?_
        refine lv_iload_n hx hb dX6_of_32 rfl (lv_at hl 1 rfl) ?_
        refine lv_iload_n hx hb dX6_of_33 rfl (lv_at hl 2 rfl) ?_
        refine cRoV (q0 := 0) (ci := 3) mw10_2 mw7_15 mw7_16 mw2_2 mw7_17 rfl rfl hd_X3_term hx hb hml hown hG hKX (c_X3_term l D cy os os_kind os_limit os_retention os_quota os_refers os_lossNow (nI j11) what n hn) ⟨Nat.le_of_ble_eq_true rfl, Nat.le_of_ble_eq_true rfl⟩ ⟨Nat.zero_le _, Nat.zero_le _⟩ (hP.sub [2, 3, 4, 5, 6, 7] rfl) rfl rfl hl.1 rfl (Nat.le_of_ble_eq_true rfl) dX6_of_34 ?_
        exact W.iret (v := (f_X3_term os_kind os_limit os_retention os_quota (nI j11) what n)) hx hb hr (fun t ht hW => ⟨⟨(f_X3_term os_kind os_limit os_retention os_quota (nI j11) what n), (ol_reach, ol_ringWith, ol_rungOf, ol_ringOf, ol_most, ol_paid, ol_ringFirst, ol_ringBits, ol_ringRung, ol_ringLeft, ol_ringPaid, r, ol_paidInAll, ol_over), rfl, by unfold f_X6_of; (try simp only [hj11]); rw [if_neg c1, if_neg c2, if_neg c9] <;> rfl, by rw [ht]; exact hP, hD⟩, hS.F ht⟩) hS.2.2 dX6_of_37
  · refine lv_iconst (v := (-1 : Int32)) hx hb dX6_of_14 (by decide) ?_
    exact W.iret (v := (-1 : Int32)) hx hb hr (fun t ht hW => ⟨⟨(-1 : Int32), (ol_reach, ol_ringWith, ol_rungOf, ol_ringOf, ol_most, ol_paid, ol_ringFirst, ol_ringBits, ol_ringRung, ol_ringLeft, ol_ringPaid, r, ol_paidInAll, ol_over), rfl, by unfold f_X6_of; rw [if_pos c1] <;> rfl, by rw [ht]; exact hP, hD⟩, hS.F ht⟩) hS.2.2 dX6_of_15
def f_X6_ring (os_kind : Nat → Int32) (os_limit : Nat → Int32) (os_retention : Nat → Int32) (os_quota : Nat → Int32) (os_refers : Nat → Int32) (os_lossNow : Int32) (ol_reach : Nat → Int32) (ol_ringWith : Nat → Int32) (ol_rungOf : Nat → Int32) (ol_ringOf : Nat → Int32) (ol_most : Nat → Int32) (ol_paid : Nat → Int32) (ol_ringFirst : Nat → Int32) (ol_ringBits : Nat → Int32) (ol_ringRung : Nat → Int32) (ol_ringLeft : Nat → Int32) (ol_ringPaid : Nat → Int32) (k : Int32) (what : Int32) (n : Nat) : Int32 × (Nat → Int32) × (Nat → Int32) × (Nat → Int32) × (Nat → Int32) × (Nat → Int32) × (Nat → Int32) × (Nat → Int32) × (Nat → Int32) × (Nat → Int32) × (Nat → Int32) × (Nat → Int32) × Nat × Int32 × Int32 :=
  if k < (0 : Int32) then ((-1 : Int32), (f_X0_settle ol_reach ol_ringWith ol_rungOf ol_ringOf ol_most ol_paid ol_ringFirst ol_ringBits ol_ringRung ol_ringLeft ol_ringPaid os_kind os_limit os_retention os_quota os_refers os_lossNow n)) else (if k < nI (f_X0_settle ol_reach ol_ringWith ol_rungOf ol_ringOf ol_most ol_paid ol_ringFirst ol_ringBits ol_ringRung ol_ringLeft ol_ringPaid os_kind os_limit os_retention os_quota os_refers os_lossNow n).2.2.2.2.2.2.2.2.2.2.2.1 then (if what = (0 : Int32) then (((f_X0_settle ol_reach ol_ringWith ol_rungOf ol_ringOf ol_most ol_paid ol_ringFirst ol_ringBits ol_ringRung ol_ringLeft ol_ringPaid os_kind os_limit os_retention os_quota os_refers os_lossNow n).2.2.2.2.2.2.2.1 k.toNatClampNeg), (f_X0_settle ol_reach ol_ringWith ol_rungOf ol_ringOf ol_most ol_paid ol_ringFirst ol_ringBits ol_ringRung ol_ringLeft ol_ringPaid os_kind os_limit os_retention os_quota os_refers os_lossNow n)) else (if what = (1 : Int32) then (((f_X0_settle ol_reach ol_ringWith ol_rungOf ol_ringOf ol_most ol_paid ol_ringFirst ol_ringBits ol_ringRung ol_ringLeft ol_ringPaid os_kind os_limit os_retention os_quota os_refers os_lossNow n).2.2.2.2.2.2.2.2.1 k.toNatClampNeg), (f_X0_settle ol_reach ol_ringWith ol_rungOf ol_ringOf ol_most ol_paid ol_ringFirst ol_ringBits ol_ringRung ol_ringLeft ol_ringPaid os_kind os_limit os_retention os_quota os_refers os_lossNow n)) else (if what = (2 : Int32) then (((f_X0_settle ol_reach ol_ringWith ol_rungOf ol_ringOf ol_most ol_paid ol_ringFirst ol_ringBits ol_ringRung ol_ringLeft ol_ringPaid os_kind os_limit os_retention os_quota os_refers os_lossNow n).2.2.2.2.2.2.2.2.2.1 k.toNatClampNeg), (f_X0_settle ol_reach ol_ringWith ol_rungOf ol_ringOf ol_most ol_paid ol_ringFirst ol_ringBits ol_ringRung ol_ringLeft ol_ringPaid os_kind os_limit os_retention os_quota os_refers os_lossNow n)) else (if what = (3 : Int32) then (((f_X0_settle ol_reach ol_ringWith ol_rungOf ol_ringOf ol_most ol_paid ol_ringFirst ol_ringBits ol_ringRung ol_ringLeft ol_ringPaid os_kind os_limit os_retention os_quota os_refers os_lossNow n).2.2.2.2.2.2.2.2.2.2.1 k.toNatClampNeg), (f_X0_settle ol_reach ol_ringWith ol_rungOf ol_ringOf ol_most ol_paid ol_ringFirst ol_ringBits ol_ringRung ol_ringLeft ol_ringPaid os_kind os_limit os_retention os_quota os_refers os_lossNow n)) else ((-1 : Int32), (f_X0_settle ol_reach ol_ringWith ol_rungOf ol_ringOf ol_most ol_paid ol_ringFirst ol_ringBits ol_ringRung ol_ringLeft ol_ringPaid os_kind os_limit os_retention os_quota os_refers os_lossNow n)))))) else ((-1 : Int32), (f_X0_settle ol_reach ol_ringWith ol_rungOf ol_ringOf ol_most ol_paid ol_ringFirst ol_ringBits ol_ringRung ol_ringLeft ol_ringPaid os_kind os_limit os_retention os_quota os_refers os_lossNow n)))
set_option maxHeartbeats 4000000 in
set_option maxRecDepth 100000 in
theorem c_X6_ring (l : Launch) (D : va_G) (cy : Nat → ClassId) (ox : Nat → Nat) (nt : Nat → Nat) (os : Nat → Nat) (ol : Nat → Nat) (tt : Nat → Nat) (ts : Nat → Nat) (tl : Nat → Nat) (oc : Nat → Nat) (ta : Nat → Nat) (r1 : Nat → Nat) (r2 : Nat → Nat) (r3 : Nat → Nat) (ox_isTaken : Int32) (os_kind : Nat → Int32) (os_limit : Nat → Int32) (os_retention : Nat → Int32) (os_quota : Nat → Int32) (os_refers : Nat → Int32) (os_lossNow : Int32) (ol_reach : Nat → Int32) (ol_ringWith : Nat → Int32) (ol_rungOf : Nat → Int32) (ol_ringOf : Nat → Int32) (ol_most : Nat → Int32) (ol_paid : Nat → Int32) (ol_back : Nat → Int32) (ol_ringFirst : Nat → Int32) (ol_ringBits : Nat → Int32) (ol_ringRung : Nat → Int32) (ol_ringLeft : Nat → Int32) (ol_ringPaid : Nat → Int32) (ol_paidInAll : Int32) (ol_over : Int32) (k : Int32) (what : Int32) (n : Nat) (r : Nat) (hn : n ≤ 6) : RwI (S := (Nat → Int32) × (Nat → Int32) × (Nat → Int32) × (Nat → Int32) × (Nat → Int32) × (Nat → Int32) × (Nat → Int32) × (Nat → Int32) × (Nat → Int32) × (Nat → Int32) × (Nat → Int32) × Nat × Int32 × Int32) l D cy yX6_ring (.code yX6_ring cX6_ring 3 (some .int)) 6 ((wX6 cy ox (nt 0) (tt 0) (ol 0) (ts 0) (tl 0) (oc 0) (ta 0) ox_isTaken) ++ (wX5 cy nt (os 0) (r1 0) (r2 0) (r3 0)) ++ (wX3 cy os os_kind os_limit os_retention os_quota os_refers (nI n) os_lossNow) ++ (wX0 cy ol (os 0) ol_reach ol_ringWith ol_rungOf ol_ringOf ol_most ol_paid ol_back ol_ringFirst ol_ringBits ol_ringRung ol_ringLeft ol_ringPaid (nI r) ol_paidInAll ol_over)) [.ref (ox 0), .int k, .int what] (fun rr u => (rr, u) = f_X6_ring os_kind os_limit os_retention os_quota os_refers os_lossNow ol_reach ol_ringWith ol_rungOf ol_ringOf ol_most ol_paid ol_ringFirst ol_ringBits ol_ringRung ol_ringLeft ol_ringPaid k what n) (fun u => (wX6 cy ox (nt 0) (tt 0) (ol 0) (ts 0) (tl 0) (oc 0) (ta 0) ox_isTaken) ++ (wX5 cy nt (os 0) (r1 0) (r2 0) (r3 0)) ++ (wX3 cy os os_kind os_limit os_retention os_quota os_refers (nI n) os_lossNow) ++ (wX0 cy ol (os 0) u.1 u.2.1 u.2.2.1 u.2.2.2.1 u.2.2.2.2.1 u.2.2.2.2.2.1 ol_back u.2.2.2.2.2.2.1 u.2.2.2.2.2.2.2.1 u.2.2.2.2.2.2.2.2.1 u.2.2.2.2.2.2.2.2.2.1 u.2.2.2.2.2.2.2.2.2.2.1 (nI u.2.2.2.2.2.2.2.2.2.2.2.1) u.2.2.2.2.2.2.2.2.2.2.2.2.1 u.2.2.2.2.2.2.2.2.2.2.2.2.2)) := by
  intro sz
  refine Met.ofW (cc := cX6_ring) (maxL := 3) (ret := (some .int)) (by decide) rfl ?_
  intro pP eE s0 mM args below meth cC s₁ B hml hv
  obtain ⟨rfl, hsz, hP, hKX, hD0⟩ := hv
  have hx := B.exec
  have hb := B.bytes
  have hr := B.returns
  have hG := gw_hts (atoms_spec (ws := _) B.pre)
  have hown : s0.vm.findClass RX6 = some mM.cls := findClass_of_methodNamed B.named
  have hlocks := B.notSynchronized
  subst hsz
  have hD := hD0.self (sz := s0.heap.size)
  generalize hAe : va_A ((wX6 cy ox (nt 0) (tt 0) (ol 0) (ts 0) (tl 0) (oc 0) (ta 0) ox_isTaken) ++ (wX5 cy nt (os 0) (r1 0) (r2 0) (r3 0)) ++ (wX3 cy os os_kind os_limit os_retention os_quota os_refers (nI n) os_lossNow) ++ (wX0 cy ol (os 0) ol_reach ol_ringWith ol_rungOf ol_ringOf ol_most ol_paid ol_back ol_ringFirst ol_ringBits ol_ringRung ol_ringLeft ol_ringPaid (nI r) ol_paidInAll ol_over)) s0.heap.size = A at hD ⊢
  have hA : ∀ q : Nat, s0.heap.size ≤ q → A q := fun q h => by rw [← hAe]; exact Or.inr h
  have hS : va_S A s0.heap s0.heap [] := va_S.rf
  have hl := lv_entry ([.ref (ox 0), .int k, .int what]) (n := 3) (Nat.le_of_ble_eq_true rfl)
  rw [lg_entry_eq]
  generalize (lg_sl ([.ref (ox 0), .int k, .int what]) ++ List.replicate (3 - (lg_sl ([.ref (ox 0), .int k, .int what])).length) Slot.unset).toArray = ls at hl ⊢
  have hl : lv_has ls 3 [(0, .ref (ox 0)), (1, .int k), (2, .int what)] := hl
  refine lv_aload_n hx hb dX6_ring_0 rfl (lv_at hl 0 rfl) ?_
  refine gf_X6_34 hx hb hG hown hKX hP 0 rfl rfl dX6_ring_1 ?_
  refine cRwVV (q0 := 0) (ci := 0) mw10_3 mw10_4 mw10_5 mw1_21 mw10_6 rfl rfl hd_X0_settle hx hb hml hown hG hKX (c_X0_settle l D cy ol os ol_reach ol_ringWith ol_rungOf ol_ringOf ol_most ol_paid ol_back ol_ringFirst ol_ringBits ol_ringRung ol_ringLeft ol_ringPaid (nI r) ol_paidInAll ol_over os_kind os_limit os_retention os_quota os_refers os_lossNow n hn) ⟨Nat.le_of_ble_eq_true rfl, Nat.le_of_ble_eq_true rfl⟩ ⟨Nat.zero_le _, Nat.zero_le _⟩ hP hD hS hA [8, 9, 10, 11, 12, 13, 14, 15, 16, 17, 18, 19, 20, 2, 3, 4, 5, 6, 7] [0, 1] [0, 1, 15, 16, 17, 18, 19, 20, 2, 3, 4, 5, 6, 7, 8, 9, 10, 11, 12, 13, 14] (wr := (wX6 cy ox (nt 0) (tt 0) (ol 0) (ts 0) (tl 0) (oc 0) (ta 0) ox_isTaken) ++ (wX5 cy nt (os 0) (r1 0) (r2 0) (r3 0))) (wn := fun u4 => (wX6 cy ox (nt 0) (tt 0) (ol 0) (ts 0) (tl 0) (oc 0) (ta 0) ox_isTaken) ++ (wX5 cy nt (os 0) (r1 0) (r2 0) (r3 0)) ++ (wX3 cy os os_kind os_limit os_retention os_quota os_refers (nI n) os_lossNow) ++ (wX0 cy ol (os 0) u4.1 u4.2.1 u4.2.2.1 u4.2.2.2.1 u4.2.2.2.2.1 u4.2.2.2.2.2.1 ol_back u4.2.2.2.2.2.2.1 u4.2.2.2.2.2.2.2.1 u4.2.2.2.2.2.2.2.2.1 u4.2.2.2.2.2.2.2.2.2.1 u4.2.2.2.2.2.2.2.2.2.2.1 (nI u4.2.2.2.2.2.2.2.2.2.2.2.1) u4.2.2.2.2.2.2.2.2.2.2.2.2.1 u4.2.2.2.2.2.2.2.2.2.2.2.2.2)) rfl (by decide) rfl (by decide) (by decide) (fun _ => rfl) (by decide) rfl rfl hl.1 rfl (Nat.le_of_ble_eq_true rfl) dX6_ring_4 (fun u4 H locs hw4 hP hD hS => ?_)
  have hrl : u4.2.2.2.2.2.2.2.2.2.2.2.1 ≤ 6 := by subst hw4; exact settle_le
  have hfst : ∀ k, k < u4.2.2.2.2.2.2.2.2.2.2.2.1 → u4.2.2.2.2.2.2.1 k = nI (u4.2.2.2.2.2.2.1 k).toNatClampNeg ∧ (u4.2.2.2.2.2.2.1 k).toNatClampNeg < n := by subst hw4; exact settle_first hn
  have hro : ∀ k, k < n → u4.2.2.2.1 k = nI (u4.2.2.2.1 k).toNatClampNeg ∧ (u4.2.2.2.1 k).toNatClampNeg < 6 := by subst hw4; exact settle_ro hn
  refine lv_iload_n hx hb dX6_ring_7 rfl (lv_at hl 1 rfl) ?_
  refine lv_if_lt (tgt := 22) hx hb dX6_ring_8 (by decide) (fun c1 => ?_) (fun c1 => ?_)
  · refine lv_iconst (v := (-1 : Int32)) hx hb dX6_ring_22 (by decide) ?_
    exact W.iret (v := (-1 : Int32)) hx hb hr (fun t ht hW => ⟨⟨(-1 : Int32), u4, rfl, by subst hw4; unfold f_X6_ring; rw [if_pos c1] <;> rfl, by rw [ht]; exact hP, hD⟩, hS.F ht⟩) hS.2.2 dX6_ring_23
  · refine lv_iload_n hx hb dX6_ring_11 rfl (lv_at hl 1 rfl) ?_
    refine lv_aload_n hx hb dX6_ring_12 rfl (lv_at hl 0 rfl) ?_
    refine gf_X6_34 hx hb hG hown hKX hP 0 rfl rfl dX6_ring_13 ?_
    refine gf_X6_127 hx hb hG hown hKX hP 8 rfl rfl dX6_ring_16 ?_
    refine lv_icmp_lt (tgt := 24) hx hb dX6_ring_19 (by decide) (fun c2 => ?_) (fun c2 => ?_)
    · obtain ⟨j19, hj19, hlj19, rfl⟩ := in_of (n := u4.2.2.2.2.2.2.2.2.2.2.2.1) (by omega) c1 (fun qq_ => absurd c2 (Int32.not_lt.mpr qq_))
      refine lv_iload_n hx hb dX6_ring_24 rfl (lv_at hl 2 rfl) ?_
      by_cases c3 : what = (0 : Int32)
      · refine lv_tableIn (tgt := 56) hx hb dX6_ring_25 (by rw [c3]; decide) (by rw [c3]; decide) (by rw [c3]; rfl) (by decide) ?_
        refine lv_aload_n hx hb dX6_ring_56 rfl (lv_at hl 0 rfl) ?_
        refine gf_X6_34 hx hb hG hown hKX hP 0 rfl rfl dX6_ring_57 ?_
        refine gf_X6_94 hx hb hG hown hKX hP 8 rfl rfl dX6_ring_60 ?_
        refine lv_iload_n hx hb dX6_ring_63 rfl (lv_at hl 1 rfl) ?_
        refine iald_n hx hb hKX hP 17 rfl rfl (by omega) (by decide) dX6_ring_64 ?_
        exact W.iret (v := (u4.2.2.2.2.2.2.2.1 j19)) hx hb hr (fun t ht hW => ⟨⟨(u4.2.2.2.2.2.2.2.1 j19), u4, rfl, by subst hw4; unfold f_X6_ring; (try simp only [hj19]); rw [if_neg c1, if_pos c2, if_pos c3] <;> rfl, by rw [ht]; exact hP, hD⟩, hS.F ht⟩) hS.2.2 dX6_ring_65
      · by_cases c4 : what = (1 : Int32)
        · refine lv_tableIn (tgt := 66) hx hb dX6_ring_25 (by rw [c4]; decide) (by rw [c4]; decide) (by rw [c4]; rfl) (by decide) ?_
          refine lv_aload_n hx hb dX6_ring_66 rfl (lv_at hl 0 rfl) ?_
          refine gf_X6_34 hx hb hG hown hKX hP 0 rfl rfl dX6_ring_67 ?_
          refine gf_X6_100 hx hb hG hown hKX hP 8 rfl rfl dX6_ring_70 ?_
          refine lv_iload_n hx hb dX6_ring_73 rfl (lv_at hl 1 rfl) ?_
          refine iald_n hx hb hKX hP 18 rfl rfl (by omega) (by decide) dX6_ring_74 ?_
          exact W.iret (v := (u4.2.2.2.2.2.2.2.2.1 j19)) hx hb hr (fun t ht hW => ⟨⟨(u4.2.2.2.2.2.2.2.2.1 j19), u4, rfl, by subst hw4; unfold f_X6_ring; (try simp only [hj19]); rw [if_neg c1, if_pos c2, if_neg c3, if_pos c4] <;> rfl, by rw [ht]; exact hP, hD⟩, hS.F ht⟩) hS.2.2 dX6_ring_75
        · by_cases c5 : what = (2 : Int32)
          · refine lv_tableIn (tgt := 76) hx hb dX6_ring_25 (by rw [c5]; decide) (by rw [c5]; decide) (by rw [c5]; rfl) (by decide) ?_
            refine lv_aload_n hx hb dX6_ring_76 rfl (lv_at hl 0 rfl) ?_
            refine gf_X6_34 hx hb hG hown hKX hP 0 rfl rfl dX6_ring_77 ?_
            refine gf_X6_103 hx hb hG hown hKX hP 8 rfl rfl dX6_ring_80 ?_
            refine lv_iload_n hx hb dX6_ring_83 rfl (lv_at hl 1 rfl) ?_
            refine iald_n hx hb hKX hP 19 rfl rfl (by omega) (by decide) dX6_ring_84 ?_
            exact W.iret (v := (u4.2.2.2.2.2.2.2.2.2.1 j19)) hx hb hr (fun t ht hW => ⟨⟨(u4.2.2.2.2.2.2.2.2.2.1 j19), u4, rfl, by subst hw4; unfold f_X6_ring; (try simp only [hj19]); rw [if_neg c1, if_pos c2, if_neg c3, if_neg c4, if_pos c5] <;> rfl, by rw [ht]; exact hP, hD⟩, hS.F ht⟩) hS.2.2 dX6_ring_85
          · by_cases c6 : what = (3 : Int32)
            · refine lv_tableIn (tgt := 86) hx hb dX6_ring_25 (by rw [c6]; decide) (by rw [c6]; decide) (by rw [c6]; rfl) (by decide) ?_
              refine lv_aload_n hx hb dX6_ring_86 rfl (lv_at hl 0 rfl) ?_
              refine gf_X6_34 hx hb hG hown hKX hP 0 rfl rfl dX6_ring_87 ?_
              refine gf_X6_130 hx hb hG hown hKX hP 8 rfl rfl dX6_ring_90 ?_
              refine lv_iload_n hx hb dX6_ring_93 rfl (lv_at hl 1 rfl) ?_
              refine iald_n hx hb hKX hP 20 rfl rfl (by omega) (by decide) dX6_ring_94 ?_
              exact W.iret (v := (u4.2.2.2.2.2.2.2.2.2.2.1 j19)) hx hb hr (fun t ht hW => ⟨⟨(u4.2.2.2.2.2.2.2.2.2.2.1 j19), u4, rfl, by subst hw4; unfold f_X6_ring; (try simp only [hj19]); rw [if_neg c1, if_pos c2, if_neg c3, if_neg c4, if_neg c5, if_pos c6] <;> rfl, by rw [ht]; exact hP, hD⟩, hS.F ht⟩) hS.2.2 dX6_ring_95
            · refine lv_tableOut (tgt := 96) hx hb dX6_ring_25 (by have q0 := ne_t c3 (z := 0) (by decide); have q1 := ne_t c4 (z := 1) (by decide); have q2 := ne_t c5 (z := 2) (by decide); have q3 := ne_t c6 (z := 3) (by decide); omega) (by decide) ?_
              refine lv_iconst (v := (-1 : Int32)) hx hb dX6_ring_96 (by decide) ?_
              exact W.iret (v := (-1 : Int32)) hx hb hr (fun t ht hW => ⟨⟨(-1 : Int32), u4, rfl, by subst hw4; unfold f_X6_ring; (try simp only [hj19]); rw [if_neg c1, if_pos c2, if_neg c3, if_neg c4, if_neg c5, if_neg c6] <;> rfl, by rw [ht]; exact hP, hD⟩, hS.F ht⟩) hS.2.2 dX6_ring_97
    · refine lv_iconst (v := (-1 : Int32)) hx hb dX6_ring_22 (by decide) ?_
      exact W.iret (v := (-1 : Int32)) hx hb hr (fun t ht hW => ⟨⟨(-1 : Int32), u4, rfl, by subst hw4; unfold f_X6_ring; rw [if_neg c1, if_neg c2] <;> rfl, by rw [ht]; exact hP, hD⟩, hS.F ht⟩) hS.2.2 dX6_ring_23
def f_X6_pays (os_kind : Nat → Int32) (os_limit : Nat → Int32) (os_retention : Nat → Int32) (os_quota : Nat → Int32) (os_refers : Nat → Int32) (os_lossNow : Int32) (ol_reach : Nat → Int32) (ol_ringWith : Nat → Int32) (ol_rungOf : Nat → Int32) (ol_ringOf : Nat → Int32) (ol_most : Nat → Int32) (ol_paid : Nat → Int32) (ol_ringFirst : Nat → Int32) (ol_ringBits : Nat → Int32) (ol_ringRung : Nat → Int32) (ol_ringLeft : Nat → Int32) (ol_ringPaid : Nat → Int32) (ol_paidInAll : Int32) (ol_over : Int32) (c : Int32) (n : Nat) (r : Nat) : Int32 × (Nat → Int32) × (Nat → Int32) × (Nat → Int32) × (Nat → Int32) × (Nat → Int32) × (Nat → Int32) × (Nat → Int32) × (Nat → Int32) × (Nat → Int32) × (Nat → Int32) × (Nat → Int32) × Nat × Int32 × Int32 :=
  if (f_X3_isContract (nI n) c) = (0 : Int32) then ((-1 : Int32), (ol_reach, ol_ringWith, ol_rungOf, ol_ringOf, ol_most, ol_paid, ol_ringFirst, ol_ringBits, ol_ringRung, ol_ringLeft, ol_ringPaid, r, ol_paidInAll, ol_over)) else (((f_X0_settle ol_reach ol_ringWith ol_rungOf ol_ringOf ol_most ol_paid ol_ringFirst ol_ringBits ol_ringRung ol_ringLeft ol_ringPaid os_kind os_limit os_retention os_quota os_refers os_lossNow n).2.2.2.2.2.1 c.toNatClampNeg), (f_X0_settle ol_reach ol_ringWith ol_rungOf ol_ringOf ol_most ol_paid ol_ringFirst ol_ringBits ol_ringRung ol_ringLeft ol_ringPaid os_kind os_limit os_retention os_quota os_refers os_lossNow n))
set_option maxHeartbeats 4000000 in
set_option maxRecDepth 100000 in
theorem c_X6_pays (l : Launch) (D : va_G) (cy : Nat → ClassId) (ox : Nat → Nat) (nt : Nat → Nat) (os : Nat → Nat) (ol : Nat → Nat) (tt : Nat → Nat) (ts : Nat → Nat) (tl : Nat → Nat) (oc : Nat → Nat) (ta : Nat → Nat) (r1 : Nat → Nat) (r2 : Nat → Nat) (r3 : Nat → Nat) (ox_isTaken : Int32) (os_kind : Nat → Int32) (os_limit : Nat → Int32) (os_retention : Nat → Int32) (os_quota : Nat → Int32) (os_refers : Nat → Int32) (os_lossNow : Int32) (ol_reach : Nat → Int32) (ol_ringWith : Nat → Int32) (ol_rungOf : Nat → Int32) (ol_ringOf : Nat → Int32) (ol_most : Nat → Int32) (ol_paid : Nat → Int32) (ol_back : Nat → Int32) (ol_ringFirst : Nat → Int32) (ol_ringBits : Nat → Int32) (ol_ringRung : Nat → Int32) (ol_ringLeft : Nat → Int32) (ol_ringPaid : Nat → Int32) (ol_paidInAll : Int32) (ol_over : Int32) (c : Int32) (n : Nat) (r : Nat) (hn : n ≤ 6) : RwI (S := (Nat → Int32) × (Nat → Int32) × (Nat → Int32) × (Nat → Int32) × (Nat → Int32) × (Nat → Int32) × (Nat → Int32) × (Nat → Int32) × (Nat → Int32) × (Nat → Int32) × (Nat → Int32) × Nat × Int32 × Int32) l D cy yX6_pays (.code yX6_pays cX6_pays 2 (some .int)) 6 ((wX6 cy ox (nt 0) (tt 0) (ol 0) (ts 0) (tl 0) (oc 0) (ta 0) ox_isTaken) ++ (wX5 cy nt (os 0) (r1 0) (r2 0) (r3 0)) ++ (wX3 cy os os_kind os_limit os_retention os_quota os_refers (nI n) os_lossNow) ++ (wX0 cy ol (os 0) ol_reach ol_ringWith ol_rungOf ol_ringOf ol_most ol_paid ol_back ol_ringFirst ol_ringBits ol_ringRung ol_ringLeft ol_ringPaid (nI r) ol_paidInAll ol_over)) [.ref (ox 0), .int c] (fun rr u => (rr, u) = f_X6_pays os_kind os_limit os_retention os_quota os_refers os_lossNow ol_reach ol_ringWith ol_rungOf ol_ringOf ol_most ol_paid ol_ringFirst ol_ringBits ol_ringRung ol_ringLeft ol_ringPaid ol_paidInAll ol_over c n r) (fun u => (wX6 cy ox (nt 0) (tt 0) (ol 0) (ts 0) (tl 0) (oc 0) (ta 0) ox_isTaken) ++ (wX5 cy nt (os 0) (r1 0) (r2 0) (r3 0)) ++ (wX3 cy os os_kind os_limit os_retention os_quota os_refers (nI n) os_lossNow) ++ (wX0 cy ol (os 0) u.1 u.2.1 u.2.2.1 u.2.2.2.1 u.2.2.2.2.1 u.2.2.2.2.2.1 ol_back u.2.2.2.2.2.2.1 u.2.2.2.2.2.2.2.1 u.2.2.2.2.2.2.2.2.1 u.2.2.2.2.2.2.2.2.2.1 u.2.2.2.2.2.2.2.2.2.2.1 (nI u.2.2.2.2.2.2.2.2.2.2.2.1) u.2.2.2.2.2.2.2.2.2.2.2.2.1 u.2.2.2.2.2.2.2.2.2.2.2.2.2)) := by
  intro sz
  refine Met.ofW (cc := cX6_pays) (maxL := 2) (ret := (some .int)) (by decide) rfl ?_
  intro pP eE s0 mM args below meth cC s₁ B hml hv
  obtain ⟨rfl, hsz, hP, hKX, hD0⟩ := hv
  have hx := B.exec
  have hb := B.bytes
  have hr := B.returns
  have hG := gw_hts (atoms_spec (ws := _) B.pre)
  have hown : s0.vm.findClass RX6 = some mM.cls := findClass_of_methodNamed B.named
  have hlocks := B.notSynchronized
  subst hsz
  have hD := hD0.self (sz := s0.heap.size)
  generalize hAe : va_A ((wX6 cy ox (nt 0) (tt 0) (ol 0) (ts 0) (tl 0) (oc 0) (ta 0) ox_isTaken) ++ (wX5 cy nt (os 0) (r1 0) (r2 0) (r3 0)) ++ (wX3 cy os os_kind os_limit os_retention os_quota os_refers (nI n) os_lossNow) ++ (wX0 cy ol (os 0) ol_reach ol_ringWith ol_rungOf ol_ringOf ol_most ol_paid ol_back ol_ringFirst ol_ringBits ol_ringRung ol_ringLeft ol_ringPaid (nI r) ol_paidInAll ol_over)) s0.heap.size = A at hD ⊢
  have hA : ∀ q : Nat, s0.heap.size ≤ q → A q := fun q h => by rw [← hAe]; exact Or.inr h
  have hS : va_S A s0.heap s0.heap [] := va_S.rf
  have hl := lv_entry ([.ref (ox 0), .int c]) (n := 2) (Nat.le_of_ble_eq_true rfl)
  rw [lg_entry_eq]
  generalize (lg_sl ([.ref (ox 0), .int c]) ++ List.replicate (2 - (lg_sl ([.ref (ox 0), .int c])).length) Slot.unset).toArray = ls at hl ⊢
  have hl : lv_has ls 2 [(0, .ref (ox 0)), (1, .int c)] := hl
  refine lv_aload_n hx hb dX6_pays_0 rfl (lv_at hl 0 rfl) ?_
  refine gf_X6_12 hx hb hG hown hKX hP 0 rfl rfl dX6_pays_1 ?_
  refine gf_X6_27 hx hb hG hown hKX hP 1 rfl rfl dX6_pays_4 ?_
  refine lv_iload_n hx hb dX6_pays_7 rfl (lv_at hl 1 rfl) ?_
  refine cRoV (q0 := 0) (ci := 3) mw10_1 mw7_19 mw7_20 mw2_2 mw7_21 rfl rfl hd_X3_isContract hx hb hml hown hG hKX (c_X3_isContract l D cy os os_kind os_limit os_retention os_quota os_refers (nI n) os_lossNow c) ⟨Nat.le_of_ble_eq_true rfl, Nat.le_of_ble_eq_true rfl⟩ ⟨Nat.zero_le _, Nat.zero_le _⟩ (hP.sub [2, 3, 4, 5, 6, 7] rfl) rfl rfl hl.1 rfl (Nat.le_of_ble_eq_true rfl) dX6_pays_8 ?_
  refine lv_if_ne (tgt := 16) hx hb dX6_pays_11 (by decide) (fun c1 => ?_) (fun c1 => ?_)
  · obtain ⟨j11, hj11, hlj11, rfl⟩ := isC_of (by omega) c1
    refine lv_aload_n hx hb dX6_pays_16 rfl (lv_at hl 0 rfl) ?_
    refine gf_X6_34 hx hb hG hown hKX hP 0 rfl rfl dX6_pays_17 ?_
    refine cRwVV (q0 := 0) (ci := 0) mw10_3 mw10_4 mw10_5 mw1_21 mw10_6 rfl rfl hd_X0_settle hx hb hml hown hG hKX (c_X0_settle l D cy ol os ol_reach ol_ringWith ol_rungOf ol_ringOf ol_most ol_paid ol_back ol_ringFirst ol_ringBits ol_ringRung ol_ringLeft ol_ringPaid (nI r) ol_paidInAll ol_over os_kind os_limit os_retention os_quota os_refers os_lossNow n hn) ⟨Nat.le_of_ble_eq_true rfl, Nat.le_of_ble_eq_true rfl⟩ ⟨Nat.zero_le _, Nat.zero_le _⟩ hP hD hS hA [8, 9, 10, 11, 12, 13, 14, 15, 16, 17, 18, 19, 20, 2, 3, 4, 5, 6, 7] [0, 1] [0, 1, 15, 16, 17, 18, 19, 20, 2, 3, 4, 5, 6, 7, 8, 9, 10, 11, 12, 13, 14] (wr := (wX6 cy ox (nt 0) (tt 0) (ol 0) (ts 0) (tl 0) (oc 0) (ta 0) ox_isTaken) ++ (wX5 cy nt (os 0) (r1 0) (r2 0) (r3 0))) (wn := fun u20 => (wX6 cy ox (nt 0) (tt 0) (ol 0) (ts 0) (tl 0) (oc 0) (ta 0) ox_isTaken) ++ (wX5 cy nt (os 0) (r1 0) (r2 0) (r3 0)) ++ (wX3 cy os os_kind os_limit os_retention os_quota os_refers (nI n) os_lossNow) ++ (wX0 cy ol (os 0) u20.1 u20.2.1 u20.2.2.1 u20.2.2.2.1 u20.2.2.2.2.1 u20.2.2.2.2.2.1 ol_back u20.2.2.2.2.2.2.1 u20.2.2.2.2.2.2.2.1 u20.2.2.2.2.2.2.2.2.1 u20.2.2.2.2.2.2.2.2.2.1 u20.2.2.2.2.2.2.2.2.2.2.1 (nI u20.2.2.2.2.2.2.2.2.2.2.2.1) u20.2.2.2.2.2.2.2.2.2.2.2.2.1 u20.2.2.2.2.2.2.2.2.2.2.2.2.2)) rfl (by decide) rfl (by decide) (by decide) (fun _ => rfl) (by decide) rfl rfl hl.1 rfl (Nat.le_of_ble_eq_true rfl) dX6_pays_20 (fun u20 H locs hw20 hP hD hS => ?_)
    have hrl : u20.2.2.2.2.2.2.2.2.2.2.2.1 ≤ 6 := by subst hw20; exact settle_le
    have hfst : ∀ k, k < u20.2.2.2.2.2.2.2.2.2.2.2.1 → u20.2.2.2.2.2.2.1 k = nI (u20.2.2.2.2.2.2.1 k).toNatClampNeg ∧ (u20.2.2.2.2.2.2.1 k).toNatClampNeg < n := by subst hw20; exact settle_first hn
    have hro : ∀ k, k < n → u20.2.2.2.1 k = nI (u20.2.2.2.1 k).toNatClampNeg ∧ (u20.2.2.2.1 k).toNatClampNeg < 6 := by subst hw20; exact settle_ro hn
    refine lv_aload_n hx hb dX6_pays_23 rfl (lv_at hl 0 rfl) ?_
    refine gf_X6_34 hx hb hG hown hKX hP 0 rfl rfl dX6_pays_24 ?_
    refine gf_X6_106 hx hb hG hown hKX hP 8 rfl rfl dX6_pays_27 ?_
    refine lv_iload_n hx hb dX6_pays_30 rfl (lv_at hl 1 rfl) ?_
    refine iald_n hx hb hKX hP 14 rfl rfl (by omega) (by decide) dX6_pays_31 ?_
    exact W.iret (v := (u20.2.2.2.2.2.1 j11)) hx hb hr (fun t ht hW => ⟨⟨(u20.2.2.2.2.2.1 j11), u20, rfl, by subst hw20; unfold f_X6_pays; (try simp only [hj11]); rw [if_neg c1] <;> rfl, by rw [ht]; exact hP, hD⟩, hS.F ht⟩) hS.2.2 dX6_pays_32
  · refine lv_iconst (v := (-1 : Int32)) hx hb dX6_pays_14 (by decide) ?_
    exact W.iret (v := (-1 : Int32)) hx hb hr (fun t ht hW => ⟨⟨(-1 : Int32), (ol_reach, ol_ringWith, ol_rungOf, ol_ringOf, ol_most, ol_paid, ol_ringFirst, ol_ringBits, ol_ringRung, ol_ringLeft, ol_ringPaid, r, ol_paidInAll, ol_over), rfl, by unfold f_X6_pays; rw [if_pos c1] <;> rfl, by rw [ht]; exact hP, hD⟩, hS.F ht⟩) hS.2.2 dX6_pays_15
def f_X6_told (os_kind : Nat → Int32) (os_limit : Nat → Int32) (os_retention : Nat → Int32) (os_quota : Nat → Int32) (os_refers : Nat → Int32) (os_lossNow : Int32) (ol_reach : Nat → Int32) (ol_ringWith : Nat → Int32) (ol_rungOf : Nat → Int32) (ol_ringOf : Nat → Int32) (ol_most : Nat → Int32) (ol_paid : Nat → Int32) (ol_ringFirst : Nat → Int32) (ol_ringBits : Nat → Int32) (ol_ringRung : Nat → Int32) (ol_ringLeft : Nat → Int32) (ol_ringPaid : Nat → Int32) (what : Int32) (n : Nat) : Int32 × (Nat → Int32) × (Nat → Int32) × (Nat → Int32) × (Nat → Int32) × (Nat → Int32) × (Nat → Int32) × (Nat → Int32) × (Nat → Int32) × (Nat → Int32) × (Nat → Int32) × (Nat → Int32) × Nat × Int32 × Int32 :=
  if what = (0 : Int32) then (nI n, (f_X0_settle ol_reach ol_ringWith ol_rungOf ol_ringOf ol_most ol_paid ol_ringFirst ol_ringBits ol_ringRung ol_ringLeft ol_ringPaid os_kind os_limit os_retention os_quota os_refers os_lossNow n)) else (if what = (1 : Int32) then (os_lossNow, (f_X0_settle ol_reach ol_ringWith ol_rungOf ol_ringOf ol_most ol_paid ol_ringFirst ol_ringBits ol_ringRung ol_ringLeft ol_ringPaid os_kind os_limit os_retention os_quota os_refers os_lossNow n)) else (if what = (2 : Int32) then ((f_X0_settle ol_reach ol_ringWith ol_rungOf ol_ringOf ol_most ol_paid ol_ringFirst ol_ringBits ol_ringRung ol_ringLeft ol_ringPaid os_kind os_limit os_retention os_quota os_refers os_lossNow n).2.2.2.2.2.2.2.2.2.2.2.2.1, (f_X0_settle ol_reach ol_ringWith ol_rungOf ol_ringOf ol_most ol_paid ol_ringFirst ol_ringBits ol_ringRung ol_ringLeft ol_ringPaid os_kind os_limit os_retention os_quota os_refers os_lossNow n)) else (if what = (3 : Int32) then ((f_X0_settle ol_reach ol_ringWith ol_rungOf ol_ringOf ol_most ol_paid ol_ringFirst ol_ringBits ol_ringRung ol_ringLeft ol_ringPaid os_kind os_limit os_retention os_quota os_refers os_lossNow n).2.2.2.2.2.2.2.2.2.2.2.2.2, (f_X0_settle ol_reach ol_ringWith ol_rungOf ol_ringOf ol_most ol_paid ol_ringFirst ol_ringBits ol_ringRung ol_ringLeft ol_ringPaid os_kind os_limit os_retention os_quota os_refers os_lossNow n)) else (if what = (4 : Int32) then (nI (f_X0_settle ol_reach ol_ringWith ol_rungOf ol_ringOf ol_most ol_paid ol_ringFirst ol_ringBits ol_ringRung ol_ringLeft ol_ringPaid os_kind os_limit os_retention os_quota os_refers os_lossNow n).2.2.2.2.2.2.2.2.2.2.2.1, (f_X0_settle ol_reach ol_ringWith ol_rungOf ol_ringOf ol_most ol_paid ol_ringFirst ol_ringBits ol_ringRung ol_ringLeft ol_ringPaid os_kind os_limit os_retention os_quota os_refers os_lossNow n)) else (if what = (5 : Int32) then ((f_X0_ringsOfSeveral (f_X0_settle ol_reach ol_ringWith ol_rungOf ol_ringOf ol_most ol_paid ol_ringFirst ol_ringBits ol_ringRung ol_ringLeft ol_ringPaid os_kind os_limit os_retention os_quota os_refers os_lossNow n).2.2.2.2.2.2.2.1 (f_X0_settle ol_reach ol_ringWith ol_rungOf ol_ringOf ol_most ol_paid ol_ringFirst ol_ringBits ol_ringRung ol_ringLeft ol_ringPaid os_kind os_limit os_retention os_quota os_refers os_lossNow n).2.2.2.2.2.2.2.2.2.2.2.1), (f_X0_settle ol_reach ol_ringWith ol_rungOf ol_ringOf ol_most ol_paid ol_ringFirst ol_ringBits ol_ringRung ol_ringLeft ol_ringPaid os_kind os_limit os_retention os_quota os_refers os_lossNow n)) else (if what = (6 : Int32) then ((f_X0_greatestRung (f_X0_settle ol_reach ol_ringWith ol_rungOf ol_ringOf ol_most ol_paid ol_ringFirst ol_ringBits ol_ringRung ol_ringLeft ol_ringPaid os_kind os_limit os_retention os_quota os_refers os_lossNow n).2.2.2.2.2.2.2.2.1 (f_X0_settle ol_reach ol_ringWith ol_rungOf ol_ringOf ol_most ol_paid ol_ringFirst ol_ringBits ol_ringRung ol_ringLeft ol_ringPaid os_kind os_limit os_retention os_quota os_refers os_lossNow n).2.2.2.2.2.2.2.2.2.2.2.1), (f_X0_settle ol_reach ol_ringWith ol_rungOf ol_ringOf ol_most ol_paid ol_ringFirst ol_ringBits ol_ringRung ol_ringLeft ol_ringPaid os_kind os_limit os_retention os_quota os_refers os_lossNow n)) else (if what = (7 : Int32) then ((f_X0_payers (f_X0_settle ol_reach ol_ringWith ol_rungOf ol_ringOf ol_most ol_paid ol_ringFirst ol_ringBits ol_ringRung ol_ringLeft ol_ringPaid os_kind os_limit os_retention os_quota os_refers os_lossNow n).2.2.2.2.2.1 n), (f_X0_settle ol_reach ol_ringWith ol_rungOf ol_ringOf ol_most ol_paid ol_ringFirst ol_ringBits ol_ringRung ol_ringLeft ol_ringPaid os_kind os_limit os_retention os_quota os_refers os_lossNow n)) else (if what = (8 : Int32) then ((f_X3_references os_refers n), (f_X0_settle ol_reach ol_ringWith ol_rungOf ol_ringOf ol_most ol_paid ol_ringFirst ol_ringBits ol_ringRung ol_ringLeft ol_ringPaid os_kind os_limit os_retention os_quota os_refers os_lossNow n)) else ((-1 : Int32), (f_X0_settle ol_reach ol_ringWith ol_rungOf ol_ringOf ol_most ol_paid ol_ringFirst ol_ringBits ol_ringRung ol_ringLeft ol_ringPaid os_kind os_limit os_retention os_quota os_refers os_lossNow n))))))))))
set_option maxHeartbeats 4000000 in
set_option maxRecDepth 100000 in
theorem c_X6_told (l : Launch) (D : va_G) (cy : Nat → ClassId) (ox : Nat → Nat) (nt : Nat → Nat) (os : Nat → Nat) (ol : Nat → Nat) (tt : Nat → Nat) (ts : Nat → Nat) (tl : Nat → Nat) (oc : Nat → Nat) (ta : Nat → Nat) (r1 : Nat → Nat) (r2 : Nat → Nat) (r3 : Nat → Nat) (ox_isTaken : Int32) (os_kind : Nat → Int32) (os_limit : Nat → Int32) (os_retention : Nat → Int32) (os_quota : Nat → Int32) (os_refers : Nat → Int32) (os_lossNow : Int32) (ol_reach : Nat → Int32) (ol_ringWith : Nat → Int32) (ol_rungOf : Nat → Int32) (ol_ringOf : Nat → Int32) (ol_most : Nat → Int32) (ol_paid : Nat → Int32) (ol_back : Nat → Int32) (ol_ringFirst : Nat → Int32) (ol_ringBits : Nat → Int32) (ol_ringRung : Nat → Int32) (ol_ringLeft : Nat → Int32) (ol_ringPaid : Nat → Int32) (ol_paidInAll : Int32) (ol_over : Int32) (what : Int32) (n : Nat) (r : Nat) (hn : n ≤ 6) : RwI (S := (Nat → Int32) × (Nat → Int32) × (Nat → Int32) × (Nat → Int32) × (Nat → Int32) × (Nat → Int32) × (Nat → Int32) × (Nat → Int32) × (Nat → Int32) × (Nat → Int32) × (Nat → Int32) × Nat × Int32 × Int32) l D cy yX6_told (.code yX6_told cX6_told 2 (some .int)) 6 ((wX6 cy ox (nt 0) (tt 0) (ol 0) (ts 0) (tl 0) (oc 0) (ta 0) ox_isTaken) ++ (wX5 cy nt (os 0) (r1 0) (r2 0) (r3 0)) ++ (wX3 cy os os_kind os_limit os_retention os_quota os_refers (nI n) os_lossNow) ++ (wX0 cy ol (os 0) ol_reach ol_ringWith ol_rungOf ol_ringOf ol_most ol_paid ol_back ol_ringFirst ol_ringBits ol_ringRung ol_ringLeft ol_ringPaid (nI r) ol_paidInAll ol_over)) [.ref (ox 0), .int what] (fun rr u => (rr, u) = f_X6_told os_kind os_limit os_retention os_quota os_refers os_lossNow ol_reach ol_ringWith ol_rungOf ol_ringOf ol_most ol_paid ol_ringFirst ol_ringBits ol_ringRung ol_ringLeft ol_ringPaid what n) (fun u => (wX6 cy ox (nt 0) (tt 0) (ol 0) (ts 0) (tl 0) (oc 0) (ta 0) ox_isTaken) ++ (wX5 cy nt (os 0) (r1 0) (r2 0) (r3 0)) ++ (wX3 cy os os_kind os_limit os_retention os_quota os_refers (nI n) os_lossNow) ++ (wX0 cy ol (os 0) u.1 u.2.1 u.2.2.1 u.2.2.2.1 u.2.2.2.2.1 u.2.2.2.2.2.1 ol_back u.2.2.2.2.2.2.1 u.2.2.2.2.2.2.2.1 u.2.2.2.2.2.2.2.2.1 u.2.2.2.2.2.2.2.2.2.1 u.2.2.2.2.2.2.2.2.2.2.1 (nI u.2.2.2.2.2.2.2.2.2.2.2.1) u.2.2.2.2.2.2.2.2.2.2.2.2.1 u.2.2.2.2.2.2.2.2.2.2.2.2.2)) := by
  intro sz
  refine Met.ofW (cc := cX6_told) (maxL := 2) (ret := (some .int)) (by decide) rfl ?_
  intro pP eE s0 mM args below meth cC s₁ B hml hv
  obtain ⟨rfl, hsz, hP, hKX, hD0⟩ := hv
  have hx := B.exec
  have hb := B.bytes
  have hr := B.returns
  have hG := gw_hts (atoms_spec (ws := _) B.pre)
  have hown : s0.vm.findClass RX6 = some mM.cls := findClass_of_methodNamed B.named
  have hlocks := B.notSynchronized
  subst hsz
  have hD := hD0.self (sz := s0.heap.size)
  generalize hAe : va_A ((wX6 cy ox (nt 0) (tt 0) (ol 0) (ts 0) (tl 0) (oc 0) (ta 0) ox_isTaken) ++ (wX5 cy nt (os 0) (r1 0) (r2 0) (r3 0)) ++ (wX3 cy os os_kind os_limit os_retention os_quota os_refers (nI n) os_lossNow) ++ (wX0 cy ol (os 0) ol_reach ol_ringWith ol_rungOf ol_ringOf ol_most ol_paid ol_back ol_ringFirst ol_ringBits ol_ringRung ol_ringLeft ol_ringPaid (nI r) ol_paidInAll ol_over)) s0.heap.size = A at hD ⊢
  have hA : ∀ q : Nat, s0.heap.size ≤ q → A q := fun q h => by rw [← hAe]; exact Or.inr h
  have hS : va_S A s0.heap s0.heap [] := va_S.rf
  have hl := lv_entry ([.ref (ox 0), .int what]) (n := 2) (Nat.le_of_ble_eq_true rfl)
  rw [lg_entry_eq]
  generalize (lg_sl ([.ref (ox 0), .int what]) ++ List.replicate (2 - (lg_sl ([.ref (ox 0), .int what])).length) Slot.unset).toArray = ls at hl ⊢
  have hl : lv_has ls 2 [(0, .ref (ox 0)), (1, .int what)] := hl
  refine lv_aload_n hx hb dX6_told_0 rfl (lv_at hl 0 rfl) ?_
  refine gf_X6_34 hx hb hG hown hKX hP 0 rfl rfl dX6_told_1 ?_
  refine cRwVV (q0 := 0) (ci := 0) mw10_3 mw10_4 mw10_5 mw1_21 mw10_6 rfl rfl hd_X0_settle hx hb hml hown hG hKX (c_X0_settle l D cy ol os ol_reach ol_ringWith ol_rungOf ol_ringOf ol_most ol_paid ol_back ol_ringFirst ol_ringBits ol_ringRung ol_ringLeft ol_ringPaid (nI r) ol_paidInAll ol_over os_kind os_limit os_retention os_quota os_refers os_lossNow n hn) ⟨Nat.le_of_ble_eq_true rfl, Nat.le_of_ble_eq_true rfl⟩ ⟨Nat.zero_le _, Nat.zero_le _⟩ hP hD hS hA [8, 9, 10, 11, 12, 13, 14, 15, 16, 17, 18, 19, 20, 2, 3, 4, 5, 6, 7] [0, 1] [0, 1, 15, 16, 17, 18, 19, 20, 2, 3, 4, 5, 6, 7, 8, 9, 10, 11, 12, 13, 14] (wr := (wX6 cy ox (nt 0) (tt 0) (ol 0) (ts 0) (tl 0) (oc 0) (ta 0) ox_isTaken) ++ (wX5 cy nt (os 0) (r1 0) (r2 0) (r3 0))) (wn := fun u4 => (wX6 cy ox (nt 0) (tt 0) (ol 0) (ts 0) (tl 0) (oc 0) (ta 0) ox_isTaken) ++ (wX5 cy nt (os 0) (r1 0) (r2 0) (r3 0)) ++ (wX3 cy os os_kind os_limit os_retention os_quota os_refers (nI n) os_lossNow) ++ (wX0 cy ol (os 0) u4.1 u4.2.1 u4.2.2.1 u4.2.2.2.1 u4.2.2.2.2.1 u4.2.2.2.2.2.1 ol_back u4.2.2.2.2.2.2.1 u4.2.2.2.2.2.2.2.1 u4.2.2.2.2.2.2.2.2.1 u4.2.2.2.2.2.2.2.2.2.1 u4.2.2.2.2.2.2.2.2.2.2.1 (nI u4.2.2.2.2.2.2.2.2.2.2.2.1) u4.2.2.2.2.2.2.2.2.2.2.2.2.1 u4.2.2.2.2.2.2.2.2.2.2.2.2.2)) rfl (by decide) rfl (by decide) (by decide) (fun _ => rfl) (by decide) rfl rfl hl.1 rfl (Nat.le_of_ble_eq_true rfl) dX6_told_4 (fun u4 H locs hw4 hP hD hS => ?_)
  have hrl : u4.2.2.2.2.2.2.2.2.2.2.2.1 ≤ 6 := by subst hw4; exact settle_le
  have hfst : ∀ k, k < u4.2.2.2.2.2.2.2.2.2.2.2.1 → u4.2.2.2.2.2.2.1 k = nI (u4.2.2.2.2.2.2.1 k).toNatClampNeg ∧ (u4.2.2.2.2.2.2.1 k).toNatClampNeg < n := by subst hw4; exact settle_first hn
  have hro : ∀ k, k < n → u4.2.2.2.1 k = nI (u4.2.2.2.1 k).toNatClampNeg ∧ (u4.2.2.2.1 k).toNatClampNeg < 6 := by subst hw4; exact settle_ro hn
  refine lv_iload_n hx hb dX6_told_7 rfl (lv_at hl 1 rfl) ?_
  by_cases c1 : what = (0 : Int32)
  · refine lv_tableIn (tgt := 60) hx hb dX6_told_8 (by rw [c1]; decide) (by rw [c1]; decide) (by rw [c1]; rfl) (by decide) ?_
    refine lv_aload_n hx hb dX6_told_60 rfl (lv_at hl 0 rfl) ?_
    refine gf_X6_12 hx hb hG hown hKX hP 0 rfl rfl dX6_told_61 ?_
    refine gf_X6_27 hx hb hG hown hKX hP 1 rfl rfl dX6_told_64 ?_
    refine gf_X6_133 hx hb hG hown hKX hP 2 rfl rfl dX6_told_67 ?_
    exact W.iret (v := nI n) hx hb hr (fun t ht hW => ⟨⟨nI n, u4, rfl, by subst hw4; unfold f_X6_told; rw [if_pos c1] <;> rfl, by rw [ht]; exact hP, hD⟩, hS.F ht⟩) hS.2.2 dX6_told_70
  · by_cases c2 : what = (1 : Int32)
    · refine lv_tableIn (tgt := 71) hx hb dX6_told_8 (by rw [c2]; decide) (by rw [c2]; decide) (by rw [c2]; rfl) (by decide) ?_
      refine lv_aload_n hx hb dX6_told_71 rfl (lv_at hl 0 rfl) ?_
      refine gf_X6_12 hx hb hG hown hKX hP 0 rfl rfl dX6_told_72 ?_
      refine gf_X6_27 hx hb hG hown hKX hP 1 rfl rfl dX6_told_75 ?_
      refine gf_X6_136 hx hb hG hown hKX hP 2 rfl rfl dX6_told_78 ?_
      exact W.iret (v := os_lossNow) hx hb hr (fun t ht hW => ⟨⟨os_lossNow, u4, rfl, by subst hw4; unfold f_X6_told; rw [if_neg c1, if_pos c2] <;> rfl, by rw [ht]; exact hP, hD⟩, hS.F ht⟩) hS.2.2 dX6_told_81
    · by_cases c3 : what = (2 : Int32)
      · refine lv_tableIn (tgt := 82) hx hb dX6_told_8 (by rw [c3]; decide) (by rw [c3]; decide) (by rw [c3]; rfl) (by decide) ?_
        refine lv_aload_n hx hb dX6_told_82 rfl (lv_at hl 0 rfl) ?_
        refine gf_X6_34 hx hb hG hown hKX hP 0 rfl rfl dX6_told_83 ?_
        refine gf_X6_139 hx hb hG hown hKX hP 8 rfl rfl dX6_told_86 ?_
        exact W.iret (v := u4.2.2.2.2.2.2.2.2.2.2.2.2.1) hx hb hr (fun t ht hW => ⟨⟨u4.2.2.2.2.2.2.2.2.2.2.2.2.1, u4, rfl, by subst hw4; unfold f_X6_told; rw [if_neg c1, if_neg c2, if_pos c3] <;> rfl, by rw [ht]; exact hP, hD⟩, hS.F ht⟩) hS.2.2 dX6_told_89
      · by_cases c4 : what = (3 : Int32)
        · refine lv_tableIn (tgt := 90) hx hb dX6_told_8 (by rw [c4]; decide) (by rw [c4]; decide) (by rw [c4]; rfl) (by decide) ?_
          refine lv_aload_n hx hb dX6_told_90 rfl (lv_at hl 0 rfl) ?_
          refine gf_X6_34 hx hb hG hown hKX hP 0 rfl rfl dX6_told_91 ?_
          refine gf_X6_142 hx hb hG hown hKX hP 8 rfl rfl dX6_told_94 ?_
          exact W.iret (v := u4.2.2.2.2.2.2.2.2.2.2.2.2.2) hx hb hr (fun t ht hW => ⟨⟨u4.2.2.2.2.2.2.2.2.2.2.2.2.2, u4, rfl, by subst hw4; unfold f_X6_told; rw [if_neg c1, if_neg c2, if_neg c3, if_pos c4] <;> rfl, by rw [ht]; exact hP, hD⟩, hS.F ht⟩) hS.2.2 dX6_told_97
        · by_cases c5 : what = (4 : Int32)
          · refine lv_tableIn (tgt := 98) hx hb dX6_told_8 (by rw [c5]; decide) (by rw [c5]; decide) (by rw [c5]; rfl) (by decide) ?_
            refine lv_aload_n hx hb dX6_told_98 rfl (lv_at hl 0 rfl) ?_
            refine gf_X6_34 hx hb hG hown hKX hP 0 rfl rfl dX6_told_99 ?_
            refine gf_X6_127 hx hb hG hown hKX hP 8 rfl rfl dX6_told_102 ?_
            exact W.iret (v := nI u4.2.2.2.2.2.2.2.2.2.2.2.1) hx hb hr (fun t ht hW => ⟨⟨nI u4.2.2.2.2.2.2.2.2.2.2.2.1, u4, rfl, by subst hw4; unfold f_X6_told; rw [if_neg c1, if_neg c2, if_neg c3, if_neg c4, if_pos c5] <;> rfl, by rw [ht]; exact hP, hD⟩, hS.F ht⟩) hS.2.2 dX6_told_105
          · by_cases c6 : what = (5 : Int32)
            · refine lv_tableIn (tgt := 106) hx hb dX6_told_8 (by rw [c6]; decide) (by rw [c6]; decide) (by rw [c6]; rfl) (by decide) ?_
              refine lv_aload_n hx hb dX6_told_106 rfl (lv_at hl 0 rfl) ?_
              refine gf_X6_34 hx hb hG hown hKX hP 0 rfl rfl dX6_told_107 ?_
              refine cRoV (q0 := 0) (ci := 0) mw21_7 mw21_8 mw21_9 mw1_21 mw21_10 rfl rfl hd_X0_ringsOfSeveral hx hb hml hown hG hKX (c_X0_ringsOfSeveral l D cy ol os u4.1 u4.2.1 u4.2.2.1 u4.2.2.2.1 u4.2.2.2.2.1 u4.2.2.2.2.2.1 ol_back u4.2.2.2.2.2.2.1 u4.2.2.2.2.2.2.2.1 u4.2.2.2.2.2.2.2.2.1 u4.2.2.2.2.2.2.2.2.2.1 u4.2.2.2.2.2.2.2.2.2.2.1 u4.2.2.2.2.2.2.2.2.2.2.2.2.1 u4.2.2.2.2.2.2.2.2.2.2.2.2.2 os_kind os_limit os_retention os_quota os_refers os_lossNow n u4.2.2.2.2.2.2.2.2.2.2.2.1 hn (by omega)) ⟨Nat.le_of_ble_eq_true rfl, Nat.le_of_ble_eq_true rfl⟩ ⟨Nat.zero_le _, Nat.zero_le _⟩ (hP.sub [8, 9, 10, 11, 12, 13, 14, 15, 16, 17, 18, 19, 20, 2, 3, 4, 5, 6, 7] rfl) rfl rfl hl.1 rfl (Nat.le_of_ble_eq_true rfl) dX6_told_110 ?_
              exact W.iret (v := (f_X0_ringsOfSeveral u4.2.2.2.2.2.2.2.1 u4.2.2.2.2.2.2.2.2.2.2.2.1)) hx hb hr (fun t ht hW => ⟨⟨(f_X0_ringsOfSeveral u4.2.2.2.2.2.2.2.1 u4.2.2.2.2.2.2.2.2.2.2.2.1), u4, rfl, by subst hw4; unfold f_X6_told; rw [if_neg c1, if_neg c2, if_neg c3, if_neg c4, if_neg c5, if_pos c6] <;> rfl, by rw [ht]; exact hP, hD⟩, hS.F ht⟩) hS.2.2 dX6_told_113
            · by_cases c7 : what = (6 : Int32)
              · refine lv_tableIn (tgt := 114) hx hb dX6_told_8 (by rw [c7]; decide) (by rw [c7]; decide) (by rw [c7]; rfl) (by decide) ?_
                refine lv_aload_n hx hb dX6_told_114 rfl (lv_at hl 0 rfl) ?_
                refine gf_X6_34 hx hb hG hown hKX hP 0 rfl rfl dX6_told_115 ?_
                refine cRoV (q0 := 0) (ci := 0) mw21_11 mw21_12 mw21_13 mw1_21 mw21_14 rfl rfl hd_X0_greatestRung hx hb hml hown hG hKX (c_X0_greatestRung l D cy ol os u4.1 u4.2.1 u4.2.2.1 u4.2.2.2.1 u4.2.2.2.2.1 u4.2.2.2.2.2.1 ol_back u4.2.2.2.2.2.2.1 u4.2.2.2.2.2.2.2.1 u4.2.2.2.2.2.2.2.2.1 u4.2.2.2.2.2.2.2.2.2.1 u4.2.2.2.2.2.2.2.2.2.2.1 u4.2.2.2.2.2.2.2.2.2.2.2.2.1 u4.2.2.2.2.2.2.2.2.2.2.2.2.2 os_kind os_limit os_retention os_quota os_refers os_lossNow n u4.2.2.2.2.2.2.2.2.2.2.2.1 hn (by omega)) ⟨Nat.le_of_ble_eq_true rfl, Nat.le_of_ble_eq_true rfl⟩ ⟨Nat.zero_le _, Nat.zero_le _⟩ (hP.sub [8, 9, 10, 11, 12, 13, 14, 15, 16, 17, 18, 19, 20, 2, 3, 4, 5, 6, 7] rfl) rfl rfl hl.1 rfl (Nat.le_of_ble_eq_true rfl) dX6_told_118 ?_
                exact W.iret (v := (f_X0_greatestRung u4.2.2.2.2.2.2.2.2.1 u4.2.2.2.2.2.2.2.2.2.2.2.1)) hx hb hr (fun t ht hW => ⟨⟨(f_X0_greatestRung u4.2.2.2.2.2.2.2.2.1 u4.2.2.2.2.2.2.2.2.2.2.2.1), u4, rfl, by subst hw4; unfold f_X6_told; rw [if_neg c1, if_neg c2, if_neg c3, if_neg c4, if_neg c5, if_neg c6, if_pos c7] <;> rfl, by rw [ht]; exact hP, hD⟩, hS.F ht⟩) hS.2.2 dX6_told_121
              · by_cases c8 : what = (7 : Int32)
                · refine lv_tableIn (tgt := 122) hx hb dX6_told_8 (by rw [c8]; decide) (by rw [c8]; decide) (by rw [c8]; rfl) (by decide) ?_
                  refine lv_aload_n hx hb dX6_told_122 rfl (lv_at hl 0 rfl) ?_
                  refine gf_X6_34 hx hb hG hown hKX hP 0 rfl rfl dX6_told_123 ?_
                  refine cRoV (q0 := 0) (ci := 0) mw21_15 mw21_16 mw21_17 mw1_21 mw21_18 rfl rfl hd_X0_payers hx hb hml hown hG hKX (c_X0_payers l D cy ol os u4.1 u4.2.1 u4.2.2.1 u4.2.2.2.1 u4.2.2.2.2.1 u4.2.2.2.2.2.1 ol_back u4.2.2.2.2.2.2.1 u4.2.2.2.2.2.2.2.1 u4.2.2.2.2.2.2.2.2.1 u4.2.2.2.2.2.2.2.2.2.1 u4.2.2.2.2.2.2.2.2.2.2.1 (nI u4.2.2.2.2.2.2.2.2.2.2.2.1) u4.2.2.2.2.2.2.2.2.2.2.2.2.1 u4.2.2.2.2.2.2.2.2.2.2.2.2.2 os_kind os_limit os_retention os_quota os_refers os_lossNow n hn) ⟨Nat.le_of_ble_eq_true rfl, Nat.le_of_ble_eq_true rfl⟩ ⟨Nat.zero_le _, Nat.zero_le _⟩ (hP.sub [8, 9, 10, 11, 12, 13, 14, 15, 16, 17, 18, 19, 20, 2, 3, 4, 5, 6, 7] rfl) rfl rfl hl.1 rfl (Nat.le_of_ble_eq_true rfl) dX6_told_126 ?_
                  exact W.iret (v := (f_X0_payers u4.2.2.2.2.2.1 n)) hx hb hr (fun t ht hW => ⟨⟨(f_X0_payers u4.2.2.2.2.2.1 n), u4, rfl, by subst hw4; unfold f_X6_told; rw [if_neg c1, if_neg c2, if_neg c3, if_neg c4, if_neg c5, if_neg c6, if_neg c7, if_pos c8] <;> rfl, by rw [ht]; exact hP, hD⟩, hS.F ht⟩) hS.2.2 dX6_told_129
                · by_cases c9 : what = (8 : Int32)
                  · refine lv_tableIn (tgt := 130) hx hb dX6_told_8 (by rw [c9]; decide) (by rw [c9]; decide) (by rw [c9]; rfl) (by decide) ?_
                    refine lv_aload_n hx hb dX6_told_130 rfl (lv_at hl 0 rfl) ?_
                    refine gf_X6_12 hx hb hG hown hKX hP 0 rfl rfl dX6_told_131 ?_
                    refine gf_X6_27 hx hb hG hown hKX hP 1 rfl rfl dX6_told_134 ?_
                    refine cRoV (q0 := 0) (ci := 3) mw21_19 mw21_20 mw21_21 mw2_2 mw21_22 rfl rfl hd_X3_references hx hb hml hown hG hKX (c_X3_references l D cy os os_kind os_limit os_retention os_quota os_refers os_lossNow n hn) ⟨Nat.le_of_ble_eq_true rfl, Nat.le_of_ble_eq_true rfl⟩ ⟨Nat.zero_le _, Nat.zero_le _⟩ (hP.sub [2, 3, 4, 5, 6, 7] rfl) rfl rfl hl.1 rfl (Nat.le_of_ble_eq_true rfl) dX6_told_137 ?_
                    exact W.iret (v := (f_X3_references os_refers n)) hx hb hr (fun t ht hW => ⟨⟨(f_X3_references os_refers n), u4, rfl, by subst hw4; unfold f_X6_told; rw [if_neg c1, if_neg c2, if_neg c3, if_neg c4, if_neg c5, if_neg c6, if_neg c7, if_neg c8, if_pos c9] <;> rfl, by rw [ht]; exact hP, hD⟩, hS.F ht⟩) hS.2.2 dX6_told_140
                  · refine lv_tableOut (tgt := 141) hx hb dX6_told_8 (by have q0 := ne_t c1 (z := 0) (by decide); have q1 := ne_t c2 (z := 1) (by decide); have q2 := ne_t c3 (z := 2) (by decide); have q3 := ne_t c4 (z := 3) (by decide); have q4 := ne_t c5 (z := 4) (by decide); have q5 := ne_t c6 (z := 5) (by decide); have q6 := ne_t c7 (z := 6) (by decide); have q7 := ne_t c8 (z := 7) (by decide); have q8 := ne_t c9 (z := 8) (by decide); omega) (by decide) ?_
                    refine lv_iconst (v := (-1 : Int32)) hx hb dX6_told_141 (by decide) ?_
                    exact W.iret (v := (-1 : Int32)) hx hb hr (fun t ht hW => ⟨⟨(-1 : Int32), u4, rfl, by subst hw4; unfold f_X6_told; rw [if_neg c1, if_neg c2, if_neg c3, if_neg c4, if_neg c5, if_neg c6, if_neg c7, if_neg c8, if_neg c9] <;> rfl, by rw [ht]; exact hP, hD⟩, hS.F ht⟩) hS.2.2 dX6_told_142
