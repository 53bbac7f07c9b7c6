def f_X1_add (ow_first : Nat → Int32) (ow_second : Nat → Int32) (a : Int32) (b : Int32) (q : Nat) (mx : Nat) : Int32 × (Nat → Int32) × (Nat → Int32) × Nat :=
  if nI q < nI mx then (nI (q + 1), (upd ow_first q a, upd ow_second q b, q + 1)) else ((-4 : Int32), (ow_first, ow_second, q))
set_option maxHeartbeats 4000000 in
set_option maxRecDepth 100000 in
theorem c_X1_add (l : Launch) (D : va_G) (cy : Nat → ClassId) (ow : Nat → Nat) (ow_first : Nat → Int32) (ow_second : Nat → Int32) (a : Int32) (b : Int32) (q : Nat) (mx : Nat) (hq8 : q ≤ 8) (hmx : mx ≤ 8) : RwI (S := (Nat → Int32) × (Nat → Int32) × Nat) l D cy yX1_add (.code yX1_add cX1_add 3 (some .int)) 0 (wX1 cy ow (nI mx) ow_first ow_second (nI q)) [.ref (ow 0), .int a, .int b] (fun rr u => (rr, u) = f_X1_add ow_first ow_second a b q mx) (fun u => wX1 cy ow (nI mx) u.1 u.2.1 (nI u.2.2)) := by
  intro sz
  refine Met.ofW (cc := cX1_add) (maxL := 3) (ret := (some .int)) (by decide) rfl ?_
  intro pP eE s0 mM args below meth cC s₁ B hml hv
  obtain ⟨rfl, hsz, hP, hKX, hD0⟩ := hv
  have hx := B.exec
  have hb := B.bytes
  have hr := B.returns
  have hG := gw_hts (atoms_spec (ws := _) B.pre)
  have hown : s0.vm.findClass RX1 = some mM.cls := findClass_of_methodNamed B.named
  have hlocks := B.notSynchronized
  subst hsz
  have hD := hD0.self (sz := s0.heap.size)
  generalize hAe : va_A (wX1 cy ow (nI mx) ow_first ow_second (nI q)) s0.heap.size = A at hD ⊢
  have hA : ∀ q : Nat, s0.heap.size ≤ q → A q := fun q h => by rw [← hAe]; exact Or.inr h
  have hS : va_S A s0.heap s0.heap [] := va_S.rf
  have hl := lv_entry ([.ref (ow 0), .int a, .int b]) (n := 3) (Nat.le_of_ble_eq_true rfl)
  rw [lg_entry_eq]
  generalize (lg_sl ([.ref (ow 0), .int a, .int b]) ++ List.replicate (3 - (lg_sl ([.ref (ow 0), .int a, .int b])).length) Slot.unset).toArray = ls at hl ⊢
  have hl : lv_has ls 3 [(0, .ref (ow 0)), (1, .int a), (2, .int b)] := hl
  refine lv_aload_n hx hb dX1_add_0 rfl (lv_at hl 0 rfl) ?_
  refine gf_X1_28 hx hb hG hown hKX hP 0 rfl rfl dX1_add_1 ?_
  refine lv_aload_n hx hb dX1_add_4 rfl (lv_at hl 0 rfl) ?_
  refine gf_X1_15 hx hb hG hown hKX hP 0 rfl rfl dX1_add_5 ?_
  refine lv_icmp_lt (tgt := 14) hx hb dX1_add_8 (by decide) (fun c1 => ?_) (fun c1 => ?_)
  · have hqm : q < mx := (nI_ltI (a := q) (b := mx) (by omega) (by omega)).mp c1
    refine lv_aload_n hx hb dX1_add_14 rfl (lv_at hl 0 rfl) ?_
    refine gf_X1_21 hx hb hG hown hKX hP 0 rfl rfl dX1_add_15 ?_
    refine lv_aload_n hx hb dX1_add_18 rfl (lv_at hl 0 rfl) ?_
    refine gf_X1_28 hx hb hG hown hKX hP 0 rfl rfl dX1_add_19 ?_
    refine lv_iload_n hx hb dX1_add_22 rfl (lv_at hl 1 rfl) ?_
    refine iast_n hx hb hKX hP hD hS 1 rfl rfl (by omega) (by decide) dX1_add_23 (fun H locs hP hD hS => ?_)
    have hP : va_P D vwCl (wX1 cy ow (nI mx) (upd ow_first q a) ow_second (nI q)) H := hP
    have hD : va_D A (wX1 cy ow (nI mx) (upd ow_first q a) ow_second (nI q)) := hD
    refine lv_aload_n hx hb dX1_add_24 rfl (lv_at hl 0 rfl) ?_
    refine gf_X1_25 hx hb hG hown hKX hP 0 rfl rfl dX1_add_25 ?_
    refine lv_aload_n hx hb dX1_add_28 rfl (lv_at hl 0 rfl) ?_
    refine gf_X1_28 hx hb hG hown hKX hP 0 rfl rfl dX1_add_29 ?_
    refine lv_iload_n hx hb dX1_add_32 rfl (lv_at hl 2 rfl) ?_
    refine iast_n hx hb hKX hP hD hS 2 rfl rfl (by omega) (by decide) dX1_add_33 (fun H locs hP hD hS => ?_)
    have hP : va_P D vwCl (wX1 cy ow (nI mx) (upd ow_first q a) (upd ow_second q b) (nI q)) H := hP
    have hD : va_D A (wX1 cy ow (nI mx) (upd ow_first q a) (upd ow_second q b) (nI q)) := hD
    refine lv_aload_n hx hb dX1_add_34 rfl (lv_at hl 0 rfl) ?_
    refine lv_dup hx hb dX1_add_35 rfl ?_
    refine gf_X1_28 hx hb hG hown hKX hP 0 rfl rfl dX1_add_36 ?_
    refine lv_iconst (v := (1 : Int32)) hx hb dX1_add_39 (by decide) ?_
    refine lv_iadd hx hb dX1_add_40 ?_
    refine topi_eq (y := nI (q + 1)) (aN rfl rfl) ?_
    refine pf_X1_28 hx hb hG hown hKX hP hD hS 0 rfl rfl rfl (Nat.le_of_ble_eq_true rfl) dX1_add_41 (wn := wX1 cy ow (nI mx) (upd ow_first q a) (upd ow_second q b) (nI (q + 1))) rfl (fun H locs hP hD hS => ?_)
    refine lv_aload_n hx hb dX1_add_44 rfl (lv_at hl 0 rfl) ?_
    refine gf_X1_28 hx hb hG hown hKX hP 0 rfl rfl dX1_add_45 ?_
    exact W.iret (v := nI (q + 1)) hx hb hr (fun t ht hW => ⟨⟨nI (q + 1), (upd ow_first q a, upd ow_second q b, q + 1), rfl, by unfold f_X1_add; rw [if_pos c1] <;> rfl, by rw [ht]; exact hP, hD⟩, hS.F ht⟩) hS.2.2 dX1_add_48
  · refine lv_bipush (v := (-4 : Int32)) hx hb dX1_add_11 (by decide) ?_
    exact W.iret (v := (-4 : Int32)) hx hb hr (fun t ht hW => ⟨⟨(-4 : Int32), (ow_first, ow_second, q), rfl, by unfold f_X1_add; rw [if_neg c1] <;> rfl, by rw [ht]; exact hP, hD⟩, hS.F ht⟩) hS.2.2 dX1_add_13
def f_X1_clear : Int32 × Nat :=
  ((0 : Int32), 0)
set_option maxHeartbeats 4000000 in
set_option maxRecDepth 100000 in
theorem c_X1_clear (l : Launch) (D : va_G) (cy : Nat → ClassId) (ow : Nat → Nat) (ow_most : Int32) (ow_first : Nat → Int32) (ow_second : Nat → Int32) (ow_size : Int32) : RwI (S := Nat) l D cy yX1_clear (.code yX1_clear cX1_clear 1 (some .int)) 0 (wX1 cy ow ow_most ow_first ow_second ow_size) [.ref (ow 0)] (fun rr u => (rr, u) = f_X1_clear) (fun u => wX1 cy ow ow_most ow_first ow_second (nI u)) := by
  intro sz
  refine Met.ofW (cc := cX1_clear) (maxL := 1) (ret := (some .int)) (by decide) rfl ?_
  intro pP eE s0 mM args below meth cC s₁ B hml hv
  obtain ⟨rfl, hsz, hP, hKX, hD0⟩ := hv
  have hx := B.exec
  have hb := B.bytes
  have hr := B.returns
  have hG := gw_hts (atoms_spec (ws := _) B.pre)
  have hown : s0.vm.findClass RX1 = some mM.cls := findClass_of_methodNamed B.named
  have hlocks := B.notSynchronized
  subst hsz
  have hD := hD0.self (sz := s0.heap.size)
  generalize hAe : va_A (wX1 cy ow ow_most ow_first ow_second ow_size) s0.heap.size = A at hD ⊢
  have hA : ∀ q : Nat, s0.heap.size ≤ q → A q := fun q h => by rw [← hAe]; exact Or.inr h
  have hS : va_S A s0.heap s0.heap [] := va_S.rf
  have hl := lv_entry ([.ref (ow 0)]) (n := 1) (Nat.le_of_ble_eq_true rfl)
  rw [lg_entry_eq]
  generalize (lg_sl ([.ref (ow 0)]) ++ List.replicate (1 - (lg_sl ([.ref (ow 0)])).length) Slot.unset).toArray = ls at hl ⊢
  have hl : lv_has ls 1 [(0, .ref (ow 0))] := hl
  refine lv_aload_n hx hb dX1_clear_0 rfl (lv_at hl 0 rfl) ?_
  refine lv_iconst (v := (0 : Int32)) hx hb dX1_clear_1 (by decide) ?_
  refine pf_X1_28 hx hb hG hown hKX hP hD hS 0 rfl rfl rfl (Nat.le_of_ble_eq_true rfl) dX1_clear_2 (wn := wX1 cy ow ow_most ow_first ow_second (0 : Int32)) rfl (fun H locs hP hD hS => ?_)
  refine lv_iconst (v := (0 : Int32)) hx hb dX1_clear_5 (by decide) ?_
  exact W.iret (v := (0 : Int32)) hx hb hr (fun t ht hW => ⟨⟨(0 : Int32), 0, rfl, by unfold f_X1_clear; rfl, by rw [ht]; exact hP, hD⟩, hS.F ht⟩) hS.2.2 dX1_clear_6
def f_X1_copyFrom (ow_first : Nat → Int32) (ow_second : Nat → Int32) (ov_first : Nat → Int32) (ov_second : Nat → Int32) (m : Nat) : (Nat → Int32) × (Nat → Int32) × Nat :=
  (va_cpy ov_first ow_first 0 0 8, va_cpy ov_second ow_second 0 0 8, m)
set_option maxHeartbeats 4000000 in
set_option maxRecDepth 100000 in
theorem c_X1_copyFrom (l : Launch) (D : va_G) (cy : Nat → ClassId) (ow : Nat → Nat) (ov : Nat → Nat) (ow_most : Int32) (ow_first : Nat → Int32) (ow_second : Nat → Int32) (ow_size : Int32) (ov_most : Int32) (ov_first : Nat → Int32) (ov_second : Nat → Int32) (m : Nat) : RwV (S := (Nat → Int32) × (Nat → Int32) × Nat) l D cy yX1_copyFrom (.code yX1_copyFrom cX1_copyFrom 2 none) 1 ((wX1 cy ow ow_most ow_first ow_second ow_size) ++ (wX1 cy ov ov_most ov_first ov_second (nI m))) [.ref (ow 0), .ref (ov 0)] (fun u => u = f_X1_copyFrom ow_first ow_second ov_first ov_second m) (fun u => (wX1 cy ow ow_most u.1 u.2.1 (nI u.2.2)) ++ (wX1 cy ov ov_most ov_first ov_second (nI m))) := by
  intro sz
  refine Met.ofW (cc := cX1_copyFrom) (maxL := 2) (ret := none) (by decide) rfl ?_
  intro pP eE s0 mM args below meth cC s₁ B hml hv
  obtain ⟨rfl, hsz, hP, hKX, hD0⟩ := hv
  have hx := B.exec
  have hb := B.bytes
  have hr := B.returns
  have hG := gw_hts (atoms_spec (ws := _) B.pre)
  have hown : s0.vm.findClass RX1 = some mM.cls := findClass_of_methodNamed B.named
  have hlocks := B.notSynchronized
  subst hsz
  have hD := hD0.self (sz := s0.heap.size)
  generalize hAe : va_A ((wX1 cy ow ow_most ow_first ow_second ow_size) ++ (wX1 cy ov ov_most ov_first ov_second (nI m))) s0.heap.size = A at hD ⊢
  have hA : ∀ q : Nat, s0.heap.size ≤ q → A q := fun q h => by rw [← hAe]; exact Or.inr h
  have hS : va_S A s0.heap s0.heap [] := va_S.rf
  have hl := lv_entry ([.ref (ow 0), .ref (ov 0)]) (n := 2) (Nat.le_of_ble_eq_true rfl)
  rw [lg_entry_eq]
  generalize (lg_sl ([.ref (ow 0), .ref (ov 0)]) ++ List.replicate (2 - (lg_sl ([.ref (ow 0), .ref (ov 0)])).length) Slot.unset).toArray = ls at hl ⊢
  have hl : lv_has ls 2 [(0, .ref (ow 0)), (1, .ref (ov 0))] := hl
  refine lv_aload_n hx hb dX1_copyFrom_0 rfl (lv_at hl 1 rfl) ?_
  refine gf_X1_21 hx hb hG hown hKX hP 3 rfl rfl dX1_copyFrom_1 ?_
  refine lv_iconst (v := (0 : Int32)) hx hb dX1_copyFrom_4 (by decide) ?_
  refine lv_aload_n hx hb dX1_copyFrom_5 rfl (lv_at hl 0 rfl) ?_
  refine gf_X1_21 hx hb hG hown hKX hP 0 rfl rfl dX1_copyFrom_6 ?_
  refine lv_iconst (v := (0 : Int32)) hx hb dX1_copyFrom_9 (by decide) ?_
  refine lv_bipush (v := (8 : Int32)) hx hb dX1_copyFrom_10 (by decide) ?_
  refine copyi_n mw32_21 hx hb (hml.trans hl.1.symm) hG hown hKX hP hD hS 4 1 rfl rfl rfl rfl rfl (by decide) (by decide) (by decide) (by decide) mw29_21 mw29_22 mw29_23 (Nat.le_of_ble_eq_true rfl) (Nat.le_of_ble_eq_true rfl) dX1_copyFrom_12 (fun H locs hP hD hS => ?_)
  have hP : va_P D vwCl ((wX1 cy ow ow_most (va_cpy ov_first ow_first 0 0 8) ow_second ow_size) ++ (wX1 cy ov ov_most ov_first ov_second (nI m))) H := hP
  have hD : va_D A ((wX1 cy ow ow_most (va_cpy ov_first ow_first 0 0 8) ow_second ow_size) ++ (wX1 cy ov ov_most ov_first ov_second (nI m))) := hD
  refine lv_aload_n hx hb dX1_copyFrom_15 rfl (lv_at hl 1 rfl) ?_
  refine gf_X1_25 hx hb hG hown hKX hP 3 rfl rfl dX1_copyFrom_16 ?_
  refine lv_iconst (v := (0 : Int32)) hx hb dX1_copyFrom_19 (by decide) ?_
  refine lv_aload_n hx hb dX1_copyFrom_20 rfl (lv_at hl 0 rfl) ?_
  refine gf_X1_25 hx hb hG hown hKX hP 0 rfl rfl dX1_copyFrom_21 ?_
  refine lv_iconst (v := (0 : Int32)) hx hb dX1_copyFrom_24 (by decide) ?_
  refine lv_bipush (v := (8 : Int32)) hx hb dX1_copyFrom_25 (by decide) ?_
  refine copyi_n mw32_21 hx hb (hml.trans hl.1.symm) hG hown hKX hP hD hS 5 2 rfl rfl rfl rfl rfl (by decide) (by decide) (by decide) (by decide) mw29_21 mw29_22 mw29_23 (Nat.le_of_ble_eq_true rfl) (Nat.le_of_ble_eq_true rfl) dX1_copyFrom_27 (fun H locs hP hD hS => ?_)
  have hP : va_P D vwCl ((wX1 cy ow ow_most (va_cpy ov_first ow_first 0 0 8) (va_cpy ov_second ow_second 0 0 8) ow_size) ++ (wX1 cy ov ov_most ov_first ov_second (nI m))) H := hP
  have hD : va_D A ((wX1 cy ow ow_most (va_cpy ov_first ow_first 0 0 8) (va_cpy ov_second ow_second 0 0 8) ow_size) ++ (wX1 cy ov ov_most ov_first ov_second (nI m))) := hD
  refine lv_aload_n hx hb dX1_copyFrom_30 rfl (lv_at hl 0 rfl) ?_
  refine lv_aload_n hx hb dX1_copyFrom_31 rfl (lv_at hl 1 rfl) ?_
  refine gf_X1_28 hx hb hG hown hKX hP 3 rfl rfl dX1_copyFrom_32 ?_
  refine pf_X1_28 hx hb hG hown hKX hP hD hS 0 rfl rfl rfl (Nat.le_of_ble_eq_true rfl) dX1_copyFrom_35 (wn := (wX1 cy ow ow_most (va_cpy ov_first ow_first 0 0 8) (va_cpy ov_second ow_second 0 0 8) (nI m)) ++ (wX1 cy ov ov_most ov_first ov_second (nI m))) rfl (fun H locs hP hD hS => ?_)
  exact W.vret hx hb hr (fun t ht hW => ⟨⟨(va_cpy ov_first ow_first 0 0 8, va_cpy ov_second ow_second 0 0 8, m), rfl, by unfold f_X1_copyFrom; rfl, by rw [ht]; exact hP, hD⟩, hS.F ht⟩) hS.2.2 dX1_copyFrom_38
def f_X4_holds (op_sort : Int32) : Int32 :=
  if op_sort = (-1 : Int32) then (0 : Int32) else (1 : Int32)
set_option maxHeartbeats 4000000 in
set_option maxRecDepth 100000 in
theorem c_X4_holds (l : Launch) (D : va_G) (cy : Nat → ClassId) (op : Nat → Nat) (op_items : Nat → Int64) (op_sort : Int32) (op_length : Int32) : RoI l D cy yX4_holds (.code yX4_holds cX4_holds 1 (some .boolean)) 0 (wX4 cy op op_items op_sort op_length) [.ref (op 0)] (f_X4_holds op_sort) := by
  refine Met.ofW (cc := cX4_holds) (maxL := 1) (ret := (some .boolean)) (by decide) rfl ?_
  intro pP eE s0 mM args below meth cC s₁ B hml hv
  obtain ⟨rfl, hP, hKX⟩ := hv
  have hx := B.exec
  have hb := B.bytes
  have hr := B.returns
  have hG := gw_hts (atoms_spec (ws := _) B.pre)
  have hown : s0.vm.findClass RX4 = some mM.cls := findClass_of_methodNamed B.named
  have hlocks := B.notSynchronized
  have hl := lv_entry ([.ref (op 0)]) (n := 1) (Nat.le_of_ble_eq_true rfl)
  rw [lg_entry_eq]
  generalize (lg_sl ([.ref (op 0)]) ++ List.replicate (1 - (lg_sl ([.ref (op 0)])).length) Slot.unset).toArray = ls at hl ⊢
  have hl : lv_has ls 1 [(0, .ref (op 0))] := hl
  refine lv_aload_n hx hb dX4_holds_0 rfl (lv_at hl 0 rfl) ?_
  refine gf_X4_15 hx hb hG hown hKX hP 0 rfl rfl dX4_holds_1 ?_
  refine lv_iconst (v := (-1 : Int32)) hx hb dX4_holds_4 (by decide) ?_
  refine lv_icmp_eq (tgt := 12) hx hb dX4_holds_5 (by decide) (fun c1 => ?_) (fun c1 => ?_)
  · refine lv_iconst (v := (0 : Int32)) hx hb dX4_holds_12 (by decide) ?_
    exact W.zret (v := (0 : Int32)) hx hb hr rfl (fun t ht hW => ⟨_, rfl, by unfold f_X4_holds; rw [if_pos c1] <;> rfl, ht⟩) (fun q hq => by cases hq) dX4_holds_13
  · refine lv_iconst (v := (1 : Int32)) hx hb dX4_holds_8 (by decide) ?_
    refine lv_goto (tgt := 13) hx hb dX4_holds_9 (by decide) ?_
    exact W.zret (v := (1 : Int32)) hx hb hr rfl (fun t ht hW => ⟨_, rfl, by unfold f_X4_holds; rw [if_neg c1] <;> rfl, ht⟩) (fun q hq => by cases hq) dX4_holds_13
theorem bec_len {b : Nat} (h : b ≤ 60) : (if (0 : Int32) < (if (60 : Int32) < nI b then (60 : Int32) else nI b) then (if (60 : Int32) < nI b then (60 : Int32) else nI b) else (0 : Int32)) = nI b := by
  have h1 : ¬ (60 : Int32) < nI b := fun q => absurd ((nI_ltI (a := 60) (b := b) (by omega) (by omega)).mp q) (by omega)
  rw [if_neg h1]
  by_cases h2 : (0 : Int32) < nI b
  · rw [if_pos h2]
  · rw [if_neg h2]
    have h3 : ¬ 0 < b := fun q => h2 ((nI_ltI (a := 0) (b := b) (by omega) (by omega)).mpr q)
    rw [show b = 0 by omega]
    rfl
def bd_X4_become_21 (k21 : Nat) (z21 : (Nat → Int64)) : (Nat → Int64) :=
  vp_updL z21 k21 (0 : Int64)
def f_X4_become (op_items : Nat → Int64) (so : Int32) (b : Nat) : (Nat → Int64) × Int32 × Nat :=
  ((itr bd_X4_become_21 60 op_items), so, b)
set_option maxHeartbeats 4000000 in
set_option maxRecDepth 100000 in
theorem c_X4_become (l : Launch) (D : va_G) (cy : Nat → ClassId) (op : Nat → Nat) (op_items : Nat → Int64) (op_sort : Int32) (op_length : Int32) (so : Int32) (b : Nat) (hb60 : b ≤ 60) : RwV (S := (Nat → Int64) × Int32 × Nat) l D cy yX4_become (.code yX4_become cX4_become 4 none) 1 (wX4 cy op op_items op_sort op_length) [.ref (op 0), .int so, .int (nI b)] (fun u => u = f_X4_become op_items so b) (fun u => wX4 cy op u.1 u.2.1 (nI u.2.2)) := by
  intro sz
  refine Met.ofW (cc := cX4_become) (maxL := 4) (ret := none) (by decide) rfl ?_
  intro pP eE s0 mM args below meth cC s₁ B hml hv
  obtain ⟨rfl, hsz, hP, hKX, hD0⟩ := hv
  have hx := B.exec
  have hb := B.bytes
  have hr := B.returns
  have hG := gw_hts (atoms_spec (ws := _) B.pre)
  have hown : s0.vm.findClass RX4 = some mM.cls := findClass_of_methodNamed B.named
  have hlocks := B.notSynchronized
  subst hsz
  have hD := hD0.self (sz := s0.heap.size)
  generalize hAe : va_A (wX4 cy op op_items op_sort op_length) s0.heap.size = A at hD ⊢
  have hA : ∀ q : Nat, s0.heap.size ≤ q → A q := fun q h => by rw [← hAe]; exact Or.inr h
  have hS : va_S A s0.heap s0.heap [] := va_S.rf
  have hl := lv_entry ([.ref (op 0), .int so, .int (nI b)]) (n := 4) (Nat.le_of_ble_eq_true rfl)
  rw [lg_entry_eq]
  generalize (lg_sl ([.ref (op 0), .int so, .int (nI b)]) ++ List.replicate (4 - (lg_sl ([.ref (op 0), .int so, .int (nI b)])).length) Slot.unset).toArray = ls at hl ⊢
  have hl : lv_has ls 4 [(0, .ref (op 0)), (1, .int so), (2, .int (nI b))] := hl
  refine lv_aload_n hx hb dX4_become_0 rfl (lv_at hl 0 rfl) ?_
  refine lv_iload_n hx hb dX4_become_1 rfl (lv_at hl 1 rfl) ?_
  refine pf_X4_15 hx hb hG hown hKX hP hD hS 0 rfl rfl rfl (Nat.le_of_ble_eq_true rfl) dX4_become_2 (wn := wX4 cy op op_items so op_length) rfl (fun H locs hP hD hS => ?_)
  refine lv_aload_n hx hb dX4_become_5 rfl (lv_at hl 0 rfl) ?_
  refine lv_iconst (v := (0 : Int32)) hx hb dX4_become_6 (by decide) ?_
  refine lv_iload_n hx hb dX4_become_7 rfl (lv_at hl 2 rfl) ?_
  refine lv_bipush (v := (60 : Int32)) hx hb dX4_become_8 (by decide) ?_
  refine va_mmin hx hb (hml.trans hl.1.symm) hown (hG _ mw34_4) (hG _ mw3_16) (hG _ mw3_17) (hG _ mw3_18) (Nat.le_of_ble_eq_true rfl) (Nat.le_of_ble_eq_true rfl) (Nat.zero_le _) (Nat.zero_le _) dX4_become_10 ?_
  refine va_mmax hx hb (hml.trans hl.1.symm) hown (hG _ mw34_5) (hG _ mw11_11) (hG _ mw3_17) (hG _ mw11_12) (Nat.le_of_ble_eq_true rfl) (Nat.le_of_ble_eq_true rfl) (Nat.zero_le _) (Nat.zero_le _) dX4_become_13 ?_
  refine topi_eq (y := nI b) (bec_len hb60) ?_
  refine pf_X4_28 hx hb hG hown hKX hP hD hS 0 rfl rfl rfl (Nat.le_of_ble_eq_true rfl) dX4_become_16 (wn := wX4 cy op op_items so (nI b)) rfl (fun H locs hP hD hS => ?_)
  refine lv_iconst (v := (0 : Int32)) hx hb dX4_become_19 (by decide) ?_
  refine lv_istore_n (lv' := [(3, .int (0 : Int32)), (0, .ref (op 0)), (1, .int so), (2, .int (nI b))]) hx hb dX4_become_20 rfl hl (by decide) rfl (fun ls hl => ?_)
  refine loopW bd_X4_become_21 op_items 60 (fun k21 z21 => [(3, .int (nI k21)), (0, .ref (op 0)), (1, .int so), (2, .int (nI b))]) (fun k21 z21 => wX4 cy op z21 so (nI b)) hP hD hS (lv_sub hl [0, 1, 2, 3] rfl) (fun k21 z21 H locs ls hk21 hz21 hP hD hS hl ih21 => ?_)
  refine lv_iload_n hx hb dX4_become_21 rfl (lv_at hl 0 rfl) ?_
  refine lv_bipush (v := (60 : Int32)) hx hb dX4_become_22 (by decide) ?_
  refine lv_icmp_ge (tgt := 40) hx hb dX4_become_24 (by decide) (fun c1 => ?_) (fun c1 => ?_)
  · have e_k21 : 60 = k21 := Nat.le_antisymm ((le_n (N := 60) (k := k21) rfl (by omega) (by omega)).mp c1) hk21
    subst e_k21
    exact W.vret hx hb hr (fun t ht hW => ⟨⟨(z21, so, b), rfl, by subst hz21; unfold f_X4_become; rfl, by rw [ht]; exact hP, hD⟩, hS.F ht⟩) hS.2.2 dX4_become_40
  · have hlt21 : k21 < 60 := Nat.lt_of_not_le (fun qq_ => c1 ((le_n (N := 60) (k := k21) rfl (by omega) (by omega)).mpr qq_))
    refine lv_aload_n hx hb dX4_become_27 rfl (lv_at hl 1 rfl) ?_
    refine gf_X4_9 hx hb hG hown hKX hP 0 rfl rfl dX4_become_28 ?_
    refine lv_iload_n hx hb dX4_become_31 rfl (lv_at hl 0 rfl) ?_
    refine lv_lconst (v := (0 : Int64)) hx hb dX4_become_32 (by decide) ?_
    refine last_n hx hb hKX hP hD hS 1 rfl rfl (by omega) (by decide) dX4_become_33 (fun H locs hP hD hS => ?_)
    have hP : va_P D vwCl (wX4 cy op (vp_updL z21 k21 (0 : Int64)) so (nI b)) H := hP
    have hD : va_D A (wX4 cy op (vp_updL z21 k21 (0 : Int64)) so (nI b)) := hD
    refine lv_iinc (v := nI (k21 + 1)) (lv' := [(3, .int (nI (k21 + 1))), (0, .ref (op 0)), (1, .int so), (2, .int (nI b))]) hx hb dX4_become_34 hl (k := 0) rfl (nI_1 _) (by decide) rfl (fun ls hl => ?_)
    refine lv_goto (tgt := 21) hx hb dX4_become_37 (by decide) ?_
    exact ih21 (vp_updL z21 k21 (0 : Int64)) _ _ _ hlt21 (by unfold bd_X4_become_21; rfl) hP hD hS (lv_sub hl [0, 1, 2, 3] rfl)
def f_X4_hasPlace (op_length : Int32) (i : Int32) : Int32 :=
  if i < (0 : Int32) then (0 : Int32) else (if op_length ≤ i then (0 : Int32) else (1 : Int32))
set_option maxHeartbeats 4000000 in
set_option maxRecDepth 100000 in
theorem c_X4_hasPlace (l : Launch) (D : va_G) (cy : Nat → ClassId) (op : Nat → Nat) (op_items : Nat → Int64) (op_sort : Int32) (op_length : Int32) (i : Int32) : RoI l D cy yX4_hasPlace (.code yX4_hasPlace cX4_hasPlace 2 (some .boolean)) 0 (wX4 cy op op_items op_sort op_length) [.ref (op 0), .int i] (f_X4_hasPlace op_length i) := by
  refine Met.ofW (cc := cX4_hasPlace) (maxL := 2) (ret := (some .boolean)) (by decide) rfl ?_
  intro pP eE s0 mM args below meth cC s₁ B hml hv
  obtain ⟨rfl, hP, hKX⟩ := hv
  have hx := B.exec
  have hb := B.bytes
  have hr := B.returns
  have hG := gw_hts (atoms_spec (ws := _) B.pre)
  have hown : s0.vm.findClass RX4 = some mM.cls := findClass_of_methodNamed B.named
  have hlocks := B.notSynchronized
  have hl := lv_entry ([.ref (op 0), .int i]) (n := 2) (Nat.le_of_ble_eq_true rfl)
  rw [lg_entry_eq]
  generalize (lg_sl ([.ref (op 0), .int i]) ++ List.replicate (2 - (lg_sl ([.ref (op 0), .int i])).length) Slot.unset).toArray = ls at hl ⊢
  have hl : lv_has ls 2 [(0, .ref (op 0)), (1, .int i)] := hl
  refine lv_iload_n hx hb dX4_hasPlace_0 rfl (lv_at hl 1 rfl) ?_
  refine lv_if_lt (tgt := 16) hx hb dX4_hasPlace_1 (by decide) (fun c1 => ?_) (fun c1 => ?_)
  · refine lv_iconst (v := (0 : Int32)) hx hb dX4_hasPlace_16 (by decide) ?_
    exact W.zret (v := (0 : Int32)) hx hb hr rfl (fun t ht hW => ⟨_, rfl, by unfold f_X4_hasPlace; rw [if_pos c1] <;> rfl, ht⟩) (fun q hq => by cases hq) dX4_hasPlace_17
  · refine lv_iload_n hx hb dX4_hasPlace_4 rfl (lv_at hl 1 rfl) ?_
    refine lv_aload_n hx hb dX4_hasPlace_5 rfl (lv_at hl 0 rfl) ?_
    refine gf_X4_28 hx hb hG hown hKX hP 0 rfl rfl dX4_hasPlace_6 ?_
    refine lv_icmp_ge (tgt := 16) hx hb dX4_hasPlace_9 (by decide) (fun c2 => ?_) (fun c2 => ?_)
    · refine lv_iconst (v := (0 : Int32)) hx hb dX4_hasPlace_16 (by decide) ?_
      exact W.zret (v := (0 : Int32)) hx hb hr rfl (fun t ht hW => ⟨_, rfl, by unfold f_X4_hasPlace; rw [if_neg c1, if_pos c2] <;> rfl, ht⟩) (fun q hq => by cases hq) dX4_hasPlace_17
    · refine lv_iconst (v := (1 : Int32)) hx hb dX4_hasPlace_12 (by decide) ?_
      refine lv_goto (tgt := 17) hx hb dX4_hasPlace_13 (by decide) ?_
      exact W.zret (v := (1 : Int32)) hx hb hr rfl (fun t ht hW => ⟨_, rfl, by unfold f_X4_hasPlace; rw [if_neg c1, if_neg c2] <;> rfl, ht⟩) (fun q hq => by cases hq) dX4_hasPlace_17
def f_X4_hasStretch (op_length : Int32) (i : Int32) (v : Int32) : Int32 :=
  if i < (0 : Int32) then (0 : Int32) else (if v < (0 : Int32) then (0 : Int32) else (if op_length < v then (0 : Int32) else (if (op_length - v) < i then (0 : Int32) else (1 : Int32))))
set_option maxHeartbeats 4000000 in
set_option maxRecDepth 100000 in
theorem c_X4_hasStretch (l : Launch) (D : va_G) (cy : Nat → ClassId) (op : Nat → Nat) (op_items : Nat → Int64) (op_sort : Int32) (op_length : Int32) (i : Int32) (v : Int32) : RoI l D cy yX4_hasStretch (.code yX4_hasStretch cX4_hasStretch 3 (some .boolean)) 0 (wX4 cy op op_items op_sort op_length) [.ref (op 0), .int i, .int v] (f_X4_hasStretch op_length i v) := by
  refine Met.ofW (cc := cX4_hasStretch) (maxL := 3) (ret := (some .boolean)) (by decide) rfl ?_
  intro pP eE s0 mM args below meth cC s₁ B hml hv
  obtain ⟨rfl, hP, hKX⟩ := hv
  have hx := B.exec
  have hb := B.bytes
  have hr := B.returns
  have hG := gw_hts (atoms_spec (ws := _) B.pre)
  have hown : s0.vm.findClass RX4 = some mM.cls := findClass_of_methodNamed B.named
  have hlocks := B.notSynchronized
  have hl := lv_entry ([.ref (op 0), .int i, .int v]) (n := 3) (Nat.le_of_ble_eq_true rfl)
  rw [lg_entry_eq]
  generalize (lg_sl ([.ref (op 0), .int i, .int v]) ++ List.replicate (3 - (lg_sl ([.ref (op 0), .int i, .int v])).length) Slot.unset).toArray = ls at hl ⊢
  have hl : lv_has ls 3 [(0, .ref (op 0)), (1, .int i), (2, .int v)] := hl
  refine lv_iload_n hx hb dX4_hasStretch_0 rfl (lv_at hl 1 rfl) ?_
  refine lv_if_lt (tgt := 30) hx hb dX4_hasStretch_1 (by decide) (fun c1 => ?_) (fun c1 => ?_)
  · refine lv_iconst (v := (0 : Int32)) hx hb dX4_hasStretch_30 (by decide) ?_
    exact W.zret (v := (0 : Int32)) hx hb hr rfl (fun t ht hW => ⟨_, rfl, by unfold f_X4_hasStretch; rw [if_pos c1] <;> rfl, ht⟩) (fun q hq => by cases hq) dX4_hasStretch_31
  · refine lv_iload_n hx hb dX4_hasStretch_4 rfl (lv_at hl 2 rfl) ?_
    refine lv_if_lt (tgt := 30) hx hb dX4_hasStretch_5 (by decide) (fun c2 => ?_) (fun c2 => ?_)
    · refine lv_iconst (v := (0 : Int32)) hx hb dX4_hasStretch_30 (by decide) ?_
      exact W.zret (v := (0 : Int32)) hx hb hr rfl (fun t ht hW => ⟨_, rfl, by unfold f_X4_hasStretch; rw [if_neg c1, if_pos c2] <;> rfl, ht⟩) (fun q hq => by cases hq) dX4_hasStretch_31
    · refine lv_iload_n hx hb dX4_hasStretch_8 rfl (lv_at hl 2 rfl) ?_
      refine lv_aload_n hx hb dX4_hasStretch_9 rfl (lv_at hl 0 rfl) ?_
      refine gf_X4_28 hx hb hG hown hKX hP 0 rfl rfl dX4_hasStretch_10 ?_
      refine lv_icmp_gt (tgt := 30) hx hb dX4_hasStretch_13 (by decide) (fun c3 => ?_) (fun c3 => ?_)
      · refine lv_iconst (v := (0 : Int32)) hx hb dX4_hasStretch_30 (by decide) ?_
        exact W.zret (v := (0 : Int32)) hx hb hr rfl (fun t ht hW => ⟨_, rfl, by unfold f_X4_hasStretch; rw [if_neg c1, if_neg c2, if_pos c3] <;> rfl, ht⟩) (fun q hq => by cases hq) dX4_hasStretch_31
      · refine lv_iload_n hx hb dX4_hasStretch_16 rfl (lv_at hl 1 rfl) ?_
        refine lv_aload_n hx hb dX4_hasStretch_17 rfl (lv_at hl 0 rfl) ?_
        refine gf_X4_28 hx hb hG hown hKX hP 0 rfl rfl dX4_hasStretch_18 ?_
        refine lv_iload_n hx hb dX4_hasStretch_21 rfl (lv_at hl 2 rfl) ?_
        refine lv_isub hx hb dX4_hasStretch_22 ?_
        refine lv_icmp_gt (tgt := 30) hx hb dX4_hasStretch_23 (by decide) (fun c4 => ?_) (fun c4 => ?_)
        · refine lv_iconst (v := (0 : Int32)) hx hb dX4_hasStretch_30 (by decide) ?_
          exact W.zret (v := (0 : Int32)) hx hb hr rfl (fun t ht hW => ⟨_, rfl, by unfold f_X4_hasStretch; rw [if_neg c1, if_neg c2, if_neg c3, if_pos c4] <;> rfl, ht⟩) (fun q hq => by cases hq) dX4_hasStretch_31
        · refine lv_iconst (v := (1 : Int32)) hx hb dX4_hasStretch_26 (by decide) ?_
          refine lv_goto (tgt := 31) hx hb dX4_hasStretch_27 (by decide) ?_
          exact W.zret (v := (1 : Int32)) hx hb hr rfl (fun t ht hW => ⟨_, rfl, by unfold f_X4_hasStretch; rw [if_neg c1, if_neg c2, if_neg c3, if_neg c4] <;> rfl, ht⟩) (fun q hq => by cases hq) dX4_hasStretch_31
def f_X5_copyFrom (sa_kind : Nat → Int32) (sa_limit : Nat → Int32) (sa_retention : Nat → Int32) (sa_quota : Nat → Int32) (sa_refers : Nat → Int32) (ra_first : Nat → Int32) (ra_second : Nat → Int32) (rb_first : Nat → Int32) (rb_second : Nat → Int32) (rc_first : Nat → Int32) (rc_second : Nat → Int32) (sb_kind : Nat → Int32) (sb_limit : Nat → Int32) (sb_retention : Nat → Int32) (sb_quota : Nat → Int32) (sb_refers : Nat → Int32) (sb_lossNow : Int32) (rd_first : Nat → Int32) (rd_second : Nat → Int32) (re_first : Nat → Int32) (re_second : Nat → Int32) (rg_first : Nat → Int32) (rg_second : Nat → Int32) (m0 : Nat) (m1 : Nat) (m2 : Nat) (m3 : Nat) : (Nat → Int32) × (Nat → Int32) × (Nat → Int32) × (Nat → Int32) × (Nat → Int32) × Nat × Int32 × (Nat → Int32) × (Nat → Int32) × Nat × (Nat → Int32) × (Nat → Int32) × Nat × (Nat → Int32) × (Nat → Int32) × Nat :=
  ((f_X3_copyFrom sa_kind sa_limit sa_retention sa_quota sa_refers sb_kind sb_limit sb_retention sb_quota sb_refers sb_lossNow m0).1, (f_X3_copyFrom sa_kind sa_limit sa_retention sa_quota sa_refers sb_kind sb_limit sb_retention sb_quota sb_refers sb_lossNow m0).2.1, (f_X3_copyFrom sa_kind sa_limit sa_retention sa_quota sa_refers sb_kind sb_limit sb_retention sb_quota sb_refers sb_lossNow m0).2.2.1, (f_X3_copyFrom sa_kind sa_limit sa_retention sa_quota sa_refers sb_kind sb_limit sb_retention sb_quota sb_refers sb_lossNow m0).2.2.2.1, (f_X3_copyFrom sa_kind sa_limit sa_retention sa_quota sa_refers sb_kind sb_limit sb_retention sb_quota sb_refers sb_lossNow m0).2.2.2.2.1, (f_X3_copyFrom sa_kind sa_limit sa_retention sa_quota sa_refers sb_kind sb_limit sb_retention sb_quota sb_refers sb_lossNow m0).2.2.2.2.2.1, (f_X3_copyFrom sa_kind sa_limit sa_retention sa_quota sa_refers sb_kind sb_limit sb_retention sb_quota sb_refers sb_lossNow m0).2.2.2.2.2.2, (f_X1_copyFrom ra_first ra_second rd_first rd_second m1).1, (f_X1_copyFrom ra_first ra_second rd_first rd_second m1).2.1, (f_X1_copyFrom ra_first ra_second rd_first rd_second m1).2.2, (f_X1_copyFrom rb_first rb_second re_first re_second m2).1, (f_X1_copyFrom rb_first rb_second re_first re_second m2).2.1, (f_X1_copyFrom rb_first rb_second re_first re_second m2).2.2, (f_X1_copyFrom rc_first rc_second rg_first rg_second m3).1, (f_X1_copyFrom rc_first rc_second rg_first rg_second m3).2.1, (f_X1_copyFrom rc_first rc_second rg_first rg_second m3).2.2)
set_option maxHeartbeats 4000000 in
set_option maxRecDepth 100000 in
theorem c_X5_copyFrom (l : Launch) (D : va_G) (cy : Nat → ClassId) (ta : Nat → Nat) (sa : Nat → Nat) (ra : Nat → Nat) (rb : Nat → Nat) (rc : Nat → Nat) (tb : Nat → Nat) (sb : Nat → Nat) (rd : Nat → Nat) (re : Nat → Nat) (rg : Nat → Nat) (sa_kind : Nat → Int32) (sa_limit : Nat → Int32) (sa_retention : Nat → Int32) (sa_quota : Nat → Int32) (sa_refers : Nat → Int32) (sa_size : Int32) (sa_lossNow : Int32) (ra_most : Int32) (ra_first : Nat → Int32) (ra_second : Nat → Int32) (ra_size : Int32) (rb_most : Int32) (rb_first : Nat → Int32) (rb_second : Nat → Int32) (rb_size : Int32) (rc_most : Int32) (rc_first : Nat → Int32) (rc_second : Nat → Int32) (rc_size : Int32) (sb_kind : Nat → Int32) (sb_limit : Nat → Int32) (sb_retention : Nat → Int32) (sb_quota : Nat → Int32) (sb_refers : Nat → Int32) (sb_lossNow : Int32) (rd_most : Int32) (rd_first : Nat → Int32) (rd_second : Nat → Int32) (re_most : Int32) (re_first : Nat → Int32) (re_second : Nat → Int32) (rg_most : Int32) (rg_first : Nat → Int32) (rg_second : Nat → Int32) (m0 : Nat) (m1 : Nat) (m2 : Nat) (m3 : Nat) : RwV (S := (Nat → Int32) × (Nat → Int32) × (Nat → Int32) × (Nat → Int32) × (Nat → Int32) × Nat × Int32 × (Nat → Int32) × (Nat → Int32) × Nat × (Nat → Int32) × (Nat → Int32) × Nat × (Nat → Int32) × (Nat → Int32) × Nat) l D cy yX5_copyFrom (.code yX5_copyFrom cX5_copyFrom 2 none) 2 ((wX5 cy ta (sa 0) (ra 0) (rb 0) (rc 0)) ++ (wX3 cy sa sa_kind sa_limit sa_retention sa_quota sa_refers sa_size sa_lossNow) ++ (wX1 cy ra ra_most ra_first ra_second ra_size) ++ (wX1 cy rb rb_most rb_first rb_second rb_size) ++ (wX1 cy rc rc_most rc_first rc_second rc_size) ++ (wX5 cy tb (sb 0) (rd 0) (re 0) (rg 0)) ++ (wX3 cy sb sb_kind sb_limit sb_retention sb_quota sb_refers (nI m0) sb_lossNow) ++ (wX1 cy rd rd_most rd_first rd_second (nI m1)) ++ (wX1 cy re re_most re_first re_second (nI m2)) ++ (wX1 cy rg rg_most rg_first rg_second (nI m3))) [.ref (ta 0), .ref (tb 0)] (fun u => u = f_X5_copyFrom sa_kind sa_limit sa_retention sa_quota sa_refers ra_first ra_second rb_first rb_second rc_first rc_second sb_kind sb_limit sb_retention sb_quota sb_refers sb_lossNow rd_first rd_second re_first re_second rg_first rg_second m0 m1 m2 m3) (fun u => (wX5 cy ta (sa 0) (ra 0) (rb 0) (rc 0)) ++ (wX3 cy sa u.1 u.2.1 u.2.2.1 u.2.2.2.1 u.2.2.2.2.1 (nI u.2.2.2.2.2.1) u.2.2.2.2.2.2.1) ++ (wX1 cy ra ra_most u.2.2.2.2.2.2.2.1 u.2.2.2.2.2.2.2.2.1 (nI u.2.2.2.2.2.2.2.2.2.1)) ++ (wX1 cy rb rb_most u.2.2.2.2.2.2.2.2.2.2.1 u.2.2.2.2.2.2.2.2.2.2.2.1 (nI u.2.2.2.2.2.2.2.2.2.2.2.2.1)) ++ (wX1 cy rc rc_most u.2.2.2.2.2.2.2.2.2.2.2.2.2.1 u.2.2.2.2.2.2.2.2.2.2.2.2.2.2.1 (nI u.2.2.2.2.2.2.2.2.2.2.2.2.2.2.2)) ++ (wX5 cy tb (sb 0) (rd 0) (re 0) (rg 0)) ++ (wX3 cy sb sb_kind sb_limit sb_retention sb_quota sb_refers (nI m0) sb_lossNow) ++ (wX1 cy rd rd_most rd_first rd_second (nI m1)) ++ (wX1 cy re re_most re_first re_second (nI m2)) ++ (wX1 cy rg rg_most rg_first rg_second (nI m3))) := by
  intro sz
  refine Met.ofW (cc := cX5_copyFrom) (maxL := 2) (ret := none) (by decide) rfl ?_
  intro pP eE s0 mM args below meth cC s₁ B hml hv
  obtain ⟨rfl, hsz, hP, hKX, hD0⟩ := hv
  have hx := B.exec
  have hb := B.bytes
  have hr := B.returns
  have hG := gw_hts (atoms_spec (ws := _) B.pre)
  have hown : s0.vm.findClass RX5 = some mM.cls := findClass_of_methodNamed B.named
  have hlocks := B.notSynchronized
  subst hsz
  have hD := hD0.self (sz := s0.heap.size)
  generalize hAe : va_A ((wX5 cy ta (sa 0) (ra 0) (rb 0) (rc 0)) ++ (wX3 cy sa sa_kind sa_limit sa_retention sa_quota sa_refers sa_size sa_lossNow) ++ (wX1 cy ra ra_most ra_first ra_second ra_size) ++ (wX1 cy rb rb_most rb_first rb_second rb_size) ++ (wX1 cy rc rc_most rc_first rc_second rc_size) ++ (wX5 cy tb (sb 0) (rd 0) (re 0) (rg 0)) ++ (wX3 cy sb sb_kind sb_limit sb_retention sb_quota sb_refers (nI m0) sb_lossNow) ++ (wX1 cy rd rd_most rd_first rd_second (nI m1)) ++ (wX1 cy re re_most re_first re_second (nI m2)) ++ (wX1 cy rg rg_most rg_first rg_second (nI m3))) s0.heap.size = A at hD ⊢
  have hA : ∀ q : Nat, s0.heap.size ≤ q → A q := fun q h => by rw [← hAe]; exact Or.inr h
  have hS : va_S A s0.heap s0.heap [] := va_S.rf
  have hl := lv_entry ([.ref (ta 0), .ref (tb 0)]) (n := 2) (Nat.le_of_ble_eq_true rfl)
  rw [lg_entry_eq]
  generalize (lg_sl ([.ref (ta 0), .ref (tb 0)]) ++ List.replicate (2 - (lg_sl ([.ref (ta 0), .ref (tb 0)])).length) Slot.unset).toArray = ls at hl ⊢
  have hl : lv_has ls 2 [(0, .ref (ta 0)), (1, .ref (tb 0))] := hl
  refine lv_aload_n hx hb dX5_copyFrom_0 rfl (lv_at hl 0 rfl) ?_
  refine gf_X5_12 hx hb hG hown hKX hP 0 rfl rfl dX5_copyFrom_1 ?_
  refine lv_aload_n hx hb dX5_copyFrom_4 rfl (lv_at hl 1 rfl) ?_
  refine gf_X5_12 hx hb hG hown hKX hP 16 rfl rfl dX5_copyFrom_5 ?_
  refine cRwVV (q0 := 0) (ci := 3) mw32_16 mw29_17 mw29_18 mw2_2 mw29_19 rfl rfl hd_X3_copyFrom hx hb hml hown hG hKX (c_X3_copyFrom l D cy sa sb sa_kind sa_limit sa_retention sa_quota sa_refers sa_size sa_lossNow sb_kind sb_limit sb_retention sb_quota sb_refers sb_lossNow m0) ⟨Nat.le_of_ble_eq_true rfl, Nat.le_of_ble_eq_true rfl⟩ ⟨Nat.zero_le _, Nat.zero_le _⟩ hP hD hS hA [1, 2, 3, 4, 5, 6, 17, 18, 19, 20, 21, 22] [0, 7, 8, 9, 10, 11, 12, 13, 14, 15, 16, 23, 24, 25, 26, 27, 28, 29, 30, 31] [0, 20, 21, 22, 23, 24, 25, 1, 2, 3, 4, 5, 6, 7, 8, 9, 10, 26, 27, 28, 29, 30, 31, 11, 12, 13, 14, 15, 16, 17, 18, 19] (wr := (wX5 cy ta (sa 0) (ra 0) (rb 0) (rc 0)) ++ (wX1 cy ra ra_most ra_first ra_second ra_size) ++ (wX1 cy rb rb_most rb_first rb_second rb_size) ++ (wX1 cy rc rc_most rc_first rc_second rc_size) ++ (wX5 cy tb (sb 0) (rd 0) (re 0) (rg 0)) ++ (wX1 cy rd rd_most rd_first rd_second (nI m1)) ++ (wX1 cy re re_most re_first re_second (nI m2)) ++ (wX1 cy rg rg_most rg_first rg_second (nI m3))) (wn := fun u8 => (wX5 cy ta (sa 0) (ra 0) (rb 0) (rc 0)) ++ (wX3 cy sa u8.1 u8.2.1 u8.2.2.1 u8.2.2.2.1 u8.2.2.2.2.1 (nI u8.2.2.2.2.2.1) u8.2.2.2.2.2.2) ++ (wX1 cy ra ra_most ra_first ra_second ra_size) ++ (wX1 cy rb rb_most rb_first rb_second rb_size) ++ (wX1 cy rc rc_most rc_first rc_second rc_size) ++ (wX5 cy tb (sb 0) (rd 0) (re 0) (rg 0)) ++ (wX3 cy sb sb_kind sb_limit sb_retention sb_quota sb_refers (nI m0) sb_lossNow) ++ (wX1 cy rd rd_most rd_first rd_second (nI m1)) ++ (wX1 cy re re_most re_first re_second (nI m2)) ++ (wX1 cy rg rg_most rg_first rg_second (nI m3))) rfl (by decide) rfl (by decide) (by decide) (fun _ => rfl) (by decide) rfl rfl hl.1 rfl (Nat.le_of_ble_eq_true rfl) dX5_copyFrom_8 (fun u8 H locs hw8 hP hD hS => ?_)
  refine lv_aload_n hx hb dX5_copyFrom_11 rfl (lv_at hl 0 rfl) ?_
  refine gf_X5_23 hx hb hG hown hKX hP 0 rfl rfl dX5_copyFrom_12 ?_
  refine lv_aload_n hx hb dX5_copyFrom_15 rfl (lv_at hl 1 rfl) ?_
  refine gf_X5_23 hx hb hG hown hKX hP 16 rfl rfl dX5_copyFrom_16 ?_
  refine cRwVV (q0 := 0) (ci := 1) mw32_17 mw32_18 mw32_19 mw2_21 mw32_20 rfl rfl hd_X1_copyFrom hx hb hml hown hG hKX (c_X1_copyFrom l D cy ra rd ra_most ra_first ra_second ra_size rd_most rd_first rd_second m1) ⟨Nat.le_of_ble_eq_true rfl, Nat.le_of_ble_eq_true rfl⟩ ⟨Nat.zero_le _, Nat.zero_le _⟩ hP hD hS hA [7, 8, 9, 23, 24, 25] [0, 1, 2, 3, 4, 5, 6, 10, 11, 12, 13, 14, 15, 16, 17, 18, 19, 20, 21, 22, 26, 27, 28, 29, 30, 31] [0, 1, 2, 3, 4, 5, 6, 26, 27, 28, 7, 8, 9, 10, 11, 12, 13, 14, 15, 16, 17, 18, 19, 29, 30, 31, 20, 21, 22, 23, 24, 25] (wr := (wX5 cy ta (sa 0) (ra 0) (rb 0) (rc 0)) ++ (wX3 cy sa u8.1 u8.2.1 u8.2.2.1 u8.2.2.2.1 u8.2.2.2.2.1 (nI u8.2.2.2.2.2.1) u8.2.2.2.2.2.2) ++ (wX1 cy rb rb_most rb_first rb_second rb_size) ++ (wX1 cy rc rc_most rc_first rc_second rc_size) ++ (wX5 cy tb (sb 0) (rd 0) (re 0) (rg 0)) ++ (wX3 cy sb sb_kind sb_limit sb_retention sb_quota sb_refers (nI m0) sb_lossNow) ++ (wX1 cy re re_most re_first re_second (nI m2)) ++ (wX1 cy rg rg_most rg_first rg_second (nI m3))) (wn := fun u19 => (wX5 cy ta (sa 0) (ra 0) (rb 0) (rc 0)) ++ (wX3 cy sa u8.1 u8.2.1 u8.2.2.1 u8.2.2.2.1 u8.2.2.2.2.1 (nI u8.2.2.2.2.2.1) u8.2.2.2.2.2.2) ++ (wX1 cy ra ra_most u19.1 u19.2.1 (nI u19.2.2)) ++ (wX1 cy rb rb_most rb_first rb_second rb_size) ++ (wX1 cy rc rc_most rc_first rc_second rc_size) ++ (wX5 cy tb (sb 0) (rd 0) (re 0) (rg 0)) ++ (wX3 cy sb sb_kind sb_limit sb_retention sb_quota sb_refers (nI m0) sb_lossNow) ++ (wX1 cy rd rd_most rd_first rd_second (nI m1)) ++ (wX1 cy re re_most re_first re_second (nI m2)) ++ (wX1 cy rg rg_most rg_first rg_second (nI m3))) rfl (by decide) rfl (by decide) (by decide) (fun _ => rfl) (by decide) rfl rfl hl.1 rfl (Nat.le_of_ble_eq_true rfl) dX5_copyFrom_19 (fun u19 H locs hw19 hP hD hS => ?_)
  refine lv_aload_n hx hb dX5_copyFrom_22 rfl (lv_at hl 0 rfl) ?_
  refine gf_X5_27 hx hb hG hown hKX hP 0 rfl rfl dX5_copyFrom_23 ?_
  refine lv_aload_n hx hb dX5_copyFrom_26 rfl (lv_at hl 1 rfl) ?_
  refine gf_X5_27 hx hb hG hown hKX hP 16 rfl rfl dX5_copyFrom_27 ?_
  refine cRwVV (q0 := 0) (ci := 1) mw32_17 mw32_18 mw32_19 mw2_21 mw32_20 rfl rfl hd_X1_copyFrom hx hb hml hown hG hKX (c_X1_copyFrom l D cy rb re rb_most rb_first rb_second rb_size re_most re_first re_second m2) ⟨Nat.le_of_ble_eq_true rfl, Nat.le_of_ble_eq_true rfl⟩ ⟨Nat.zero_le _, Nat.zero_le _⟩ hP hD hS hA [10, 11, 12, 26, 27, 28] [0, 1, 2, 3, 4, 5, 6, 7, 8, 9, 13, 14, 15, 16, 17, 18, 19, 20, 21, 22, 23, 24, 25, 29, 30, 31] [0, 1, 2, 3, 4, 5, 6, 7, 8, 9, 26, 27, 28, 10, 11, 12, 13, 14, 15, 16, 17, 18, 19, 20, 21, 22, 29, 30, 31, 23, 24, 25] (wr := (wX5 cy ta (sa 0) (ra 0) (rb 0) (rc 0)) ++ (wX3 cy sa u8.1 u8.2.1 u8.2.2.1 u8.2.2.2.1 u8.2.2.2.2.1 (nI u8.2.2.2.2.2.1) u8.2.2.2.2.2.2) ++ (wX1 cy ra ra_most u19.1 u19.2.1 (nI u19.2.2)) ++ (wX1 cy rc rc_most rc_first rc_second rc_size) ++ (wX5 cy tb (sb 0) (rd 0) (re 0) (rg 0)) ++ (wX3 cy sb sb_kind sb_limit sb_retention sb_quota sb_refers (nI m0) sb_lossNow) ++ (wX1 cy rd rd_most rd_first rd_second (nI m1)) ++ (wX1 cy rg rg_most rg_first rg_second (nI m3))) (wn := fun u30 => (wX5 cy ta (sa 0) (ra 0) (rb 0) (rc 0)) ++ (wX3 cy sa u8.1 u8.2.1 u8.2.2.1 u8.2.2.2.1 u8.2.2.2.2.1 (nI u8.2.2.2.2.2.1) u8.2.2.2.2.2.2) ++ (wX1 cy ra ra_most u19.1 u19.2.1 (nI u19.2.2)) ++ (wX1 cy rb rb_most u30.1 u30.2.1 (nI u30.2.2)) ++ (wX1 cy rc rc_most rc_first rc_second rc_size) ++ (wX5 cy tb (sb 0) (rd 0) (re 0) (rg 0)) ++ (wX3 cy sb sb_kind sb_limit sb_retention sb_quota sb_refers (nI m0) sb_lossNow) ++ (wX1 cy rd rd_most rd_first rd_second (nI m1)) ++ (wX1 cy re re_most re_first re_second (nI m2)) ++ (wX1 cy rg rg_most rg_first rg_second (nI m3))) rfl (by decide) rfl (by decide) (by decide) (fun _ => rfl) (by decide) rfl rfl hl.1 rfl (Nat.le_of_ble_eq_true rfl) dX5_copyFrom_30 (fun u30 H locs hw30 hP hD hS => ?_)
  refine lv_aload_n hx hb dX5_copyFrom_33 rfl (lv_at hl 0 rfl) ?_
  refine gf_X5_30 hx hb hG hown hKX hP 0 rfl rfl dX5_copyFrom_34 ?_
  refine lv_aload_n hx hb dX5_copyFrom_37 rfl (lv_at hl 1 rfl) ?_
  refine gf_X5_30 hx hb hG hown hKX hP 16 rfl rfl dX5_copyFrom_38 ?_
  refine cRwVV (q0 := 0) (ci := 1) mw32_17 mw32_18 mw32_19 mw2_21 mw32_20 rfl rfl hd_X1_copyFrom hx hb hml hown hG hKX (c_X1_copyFrom l D cy rc rg rc_most rc_first rc_second rc_size rg_most rg_first rg_second m3) ⟨Nat.le_of_ble_eq_true rfl, Nat.le_of_ble_eq_true rfl⟩ ⟨Nat.zero_le _, Nat.zero_le _⟩ hP hD hS hA [13, 14, 15, 29, 30, 31] [0, 1, 2, 3, 4, 5, 6, 7, 8, 9, 10, 11, 12, 16, 17, 18, 19, 20, 21, 22, 23, 24, 25, 26, 27, 28] [0, 1, 2, 3, 4, 5, 6, 7, 8, 9, 10, 11, 12, 26, 27, 28, 13, 14, 15, 16, 17, 18, 19, 20, 21, 22, 23, 24, 25, 29, 30, 31] (wr := (wX5 cy ta (sa 0) (ra 0) (rb 0) (rc 0)) ++ (wX3 cy sa u8.1 u8.2.1 u8.2.2.1 u8.2.2.2.1 u8.2.2.2.2.1 (nI u8.2.2.2.2.2.1) u8.2.2.2.2.2.2) ++ (wX1 cy ra ra_most u19.1 u19.2.1 (nI u19.2.2)) ++ (wX1 cy rb rb_most u30.1 u30.2.1 (nI u30.2.2)) ++ (wX5 cy tb (sb 0) (rd 0) (re 0) (rg 0)) ++ (wX3 cy sb sb_kind sb_limit sb_retention sb_quota sb_refers (nI m0) sb_lossNow) ++ (wX1 cy rd rd_most rd_first rd_second (nI m1)) ++ (wX1 cy re re_most re_first re_second (nI m2))) (wn := fun u41 => (wX5 cy ta (sa 0) (ra 0) (rb 0) (rc 0)) ++ (wX3 cy sa u8.1 u8.2.1 u8.2.2.1 u8.2.2.2.1 u8.2.2.2.2.1 (nI u8.2.2.2.2.2.1) u8.2.2.2.2.2.2) ++ (wX1 cy ra ra_most u19.1 u19.2.1 (nI u19.2.2)) ++ (wX1 cy rb rb_most u30.1 u30.2.1 (nI u30.2.2)) ++ (wX1 cy rc rc_most u41.1 u41.2.1 (nI u41.2.2)) ++ (wX5 cy tb (sb 0) (rd 0) (re 0) (rg 0)) ++ (wX3 cy sb sb_kind sb_limit sb_retention sb_quota sb_refers (nI m0) sb_lossNow) ++ (wX1 cy rd rd_most rd_first rd_second (nI m1)) ++ (wX1 cy re re_most re_first re_second (nI m2)) ++ (wX1 cy rg rg_most rg_first rg_second (nI m3))) rfl (by decide) rfl (by decide) (by decide) (fun _ => rfl) (by decide) rfl rfl hl.1 rfl (Nat.le_of_ble_eq_true rfl) dX5_copyFrom_41 (fun u41 H locs hw41 hP hD hS => ?_)
  exact W.vret hx hb hr (fun t ht hW => ⟨⟨(u8.1, u8.2.1, u8.2.2.1, u8.2.2.2.1, u8.2.2.2.2.1, u8.2.2.2.2.2.1, u8.2.2.2.2.2.2, u19.1, u19.2.1, u19.2.2, u30.1, u30.2.1, u30.2.2, u41.1, u41.2.1, u41.2.2), rfl, by subst hw41; subst hw30; subst hw19; subst hw8; unfold f_X5_copyFrom; rfl, by rw [ht]; exact hP, hD⟩, hS.F ht⟩) hS.2.2 dX5_copyFrom_44
