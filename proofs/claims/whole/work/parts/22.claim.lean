theorem hasP_of {n : Nat} {c : Int32} (hn : n < 2 ^ 31) (h : ¬ f_X4_hasPlace (nI n) c = 0) : ∃ j, c.toNatClampNeg = j ∧ j < n ∧ c = nI j := by
  unfold f_X4_hasPlace at h
  by_cases h1 : c < 0
  · rw [if_pos h1] at h; exact absurd rfl h
  · rw [if_neg h1] at h
    by_cases h2 : nI n ≤ c
    · rw [if_pos h2] at h; exact absurd rfl h
    · exact in_of hn h1 h2
theorem rng_of {v : Int32} {M : Nat} (hM : M + 1 < 2 ^ 31) (h1 : 0 ≤ v) (h2 : v ≤ nI M) : ∃ j, v.toNatClampNeg = j ∧ j < M + 1 ∧ v = nI j := by
  refine in_of hM (Int32.not_lt.mpr h1) (fun q => ?_)
  have h3 : nI (M + 1) ≤ nI M := Int32.le_trans q h2
  have := (nI_leI (by omega) (by omega)).mp h3
  omega
theorem nneg_of {v : Int32} (h1 : 0 ≤ v) : ∃ j, v.toNatClampNeg = j ∧ j < 2 ^ 31 ∧ v = nI j := by
  obtain ⟨j, h2, rfl⟩ := nI_of (Int32.not_lt.mpr h1)
  exact ⟨j, nI_clamp h2, h2, rfl⟩
theorem hasS_of {n : Nat} {i v : Int32} (hn : n < 2 ^ 30) (h : ¬ f_X4_hasStretch (nI n) i v = 0) : ∃ a b, i.toNatClampNeg = a ∧ v.toNatClampNeg = b ∧ a + b ≤ n ∧ i = nI a ∧ v = nI b := by
  unfold f_X4_hasStretch at h
  by_cases h1 : i < 0
  · rw [if_pos h1] at h; exact absurd rfl h
  · rw [if_neg h1] at h
    by_cases h2 : v < 0
    · rw [if_pos h2] at h; exact absurd rfl h
    · rw [if_neg h2] at h
      by_cases h3 : nI n < v
      · rw [if_pos h3] at h; exact absurd rfl h
      · rw [if_neg h3] at h
        by_cases h4 : (nI n - v) < i
        · rw [if_pos h4] at h; exact absurd rfl h
        · obtain ⟨a, ha, rfl⟩ := nI_of h1
          obtain ⟨b, hb, rfl⟩ := nI_of h2
          have h5 : b ≤ n := (nI_leI hb (by omega)).mp (Int32.not_lt.mp h3)
          rw [pk_sub h5] at h4
          have h6 : a ≤ n - b := (nI_leI ha (by omega)).mp (Int32.not_lt.mp h4)
          exact ⟨a, b, nI_clamp ha, nI_clamp hb, by omega, rfl, rfl⟩
theorem hasS_of2 {n b : Nat} {i : Int32} (hn : n < 2 ^ 30) (hb : b < 2 ^ 31) (h : ¬ f_X4_hasStretch (nI n) i (nI b) = 0) : ∃ a, i.toNatClampNeg = a ∧ a + b ≤ n ∧ i = nI a := by
  obtain ⟨a, b', h1, h2, h3, h4, h5⟩ := hasS_of hn h
  have : b = b' := by rw [← h2, nI_clamp hb]
  exact ⟨a, h1, by omega, h4⟩
theorem jd_lt {a m k : Nat} (ha : a < 2 ^ 31) (hm : m ≤ 60) (hk : k ≤ 6) (h : nI a < nI m - nI k) : a + k < m := by
  have h1 := pk_sub_toInt (a := m) (b := k) (by omega) (by omega)
  have h2 : (nI a).toInt < (nI m - nI k).toInt := Int32.lt_iff_toInt_lt.mp h
  rw [nI_toInt ha, h1] at h2
  omega
def f_X6_isTape (t : Int32) : Int32 :=
  if t < (0 : Int32) then (0 : Int32) else (if (6 : Int32) ≤ t then (0 : Int32) else (1 : Int32))
set_option maxHeartbeats 4000000 in
set_option maxRecDepth 100000 in
theorem c_X6_isTape (l : Launch) (D : va_G) (cy : Nat → ClassId) (t : Int32) : RoI l D cy yX6_isTape (.code yX6_isTape cX6_isTape 1 (some .boolean)) 0 ([]) [.int t] (f_X6_isTape t) := by
  refine Met.ofW (cc := cX6_isTape) (maxL := 1) (ret := (some .boolean)) (by decide) rfl ?_
  intro pP eE s0 mM args below meth cC s₁ B hml hv
  obtain ⟨rfl, hP, hKX⟩ := hv
  have hx := B.exec
  have hb := B.bytes
  have hr := B.returns
  have hG := gw_hts (atoms_spec (ws := _) B.pre)
  have hown : s0.vm.findClass RX6 = some mM.cls := findClass_of_methodNamed B.named
  have hlocks := B.notSynchronized
  have hl := lv_entry ([.int t]) (n := 1) (Nat.le_of_ble_eq_true rfl)
  rw [lg_entry_eq]
  generalize (lg_sl ([.int t]) ++ List.replicate (1 - (lg_sl ([.int t])).length) Slot.unset).toArray = ls at hl ⊢
  have hl : lv_has ls 1 [(0, .int t)] := hl
  refine lv_iload_n hx hb dX6_isTape_0 rfl (lv_at hl 0 rfl) ?_
  refine lv_if_lt (tgt := 14) hx hb dX6_isTape_1 (by decide) (fun c1 => ?_) (fun c1 => ?_)
  · refine lv_iconst (v := (0 : Int32)) hx hb dX6_isTape_14 (by decide) ?_
    exact W.zret (v := (0 : Int32)) hx hb hr rfl (fun t ht hW => ⟨_, rfl, by unfold f_X6_isTape; rw [if_pos c1] <;> rfl, ht⟩) (fun q hq => by cases hq) dX6_isTape_15
  · refine lv_iload_n hx hb dX6_isTape_4 rfl (lv_at hl 0 rfl) ?_
    refine lv_bipush (v := (6 : Int32)) hx hb dX6_isTape_5 (by decide) ?_
    refine lv_icmp_ge (tgt := 14) hx hb dX6_isTape_7 (by decide) (fun c2 => ?_) (fun c2 => ?_)
    · refine lv_iconst (v := (0 : Int32)) hx hb dX6_isTape_14 (by decide) ?_
      exact W.zret (v := (0 : Int32)) hx hb hr rfl (fun t ht hW => ⟨_, rfl, by unfold f_X6_isTape; rw [if_neg c1, if_pos c2] <;> rfl, ht⟩) (fun q hq => by cases hq) dX6_isTape_15
    · refine lv_iconst (v := (1 : Int32)) hx hb dX6_isTape_10 (by decide) ?_
      refine lv_goto (tgt := 15) hx hb dX6_isTape_11 (by decide) ?_
      exact W.zret (v := (1 : Int32)) hx hb hr rfl (fun t ht hW => ⟨_, rfl, by unfold f_X6_isTape; rw [if_neg c1, if_neg c2] <;> rfl, ht⟩) (fun q hq => by cases hq) dX6_isTape_15
def f_X6_narrowed (so : Int32) (v : Int64) : Int64 :=
  if so = (0 : Int32) then ((((((v).toInt32)).toInt8.toInt32)).toInt64) else (if so = (1 : Int32) then ((((((v).toInt32)).toInt16.toInt32)).toInt64) else (if so = (2 : Int32) then ((((v).toInt32)).toInt64) else (if so = (3 : Int32) then v else (if so = (4 : Int32) then (if (lg_cmp v (0 : Int64)) = (0 : Int32) then (0 : Int64) else (1 : Int64)) else v))))
set_option maxHeartbeats 4000000 in
set_option maxRecDepth 100000 in
theorem c_X6_narrowed (l : Launch) (D : va_G) (cy : Nat → ClassId) (so : Int32) (v : Int64) : RoL l D cy yX6_narrowed (.code yX6_narrowed cX6_narrowed 3 (some .long)) 0 ([]) [.int so, .long v] (f_X6_narrowed so v) := by
  refine Met.ofW (cc := cX6_narrowed) (maxL := 3) (ret := (some .long)) (by decide) rfl ?_
  intro pP eE s0 mM args below meth cC s₁ B hml hv
  obtain ⟨rfl, hP, hKX⟩ := hv
  have hx := B.exec
  have hb := B.bytes
  have hr := B.returns
  have hG := gw_hts (atoms_spec (ws := _) B.pre)
  have hown : s0.vm.findClass RX6 = some mM.cls := findClass_of_methodNamed B.named
  have hlocks := B.notSynchronized
  have hl := lv_entry ([.int so, .long v]) (n := 3) (Nat.le_of_ble_eq_true rfl)
  rw [lg_entry_eq]
  generalize (lg_sl ([.int so, .long v]) ++ List.replicate (3 - (lg_sl ([.int so, .long v])).length) Slot.unset).toArray = ls at hl ⊢
  have hl : lv_has ls 3 [(0, .int so), (1, .long v)] := hl
  refine lv_iload_n hx hb dX6_narrowed_0 rfl (lv_at hl 0 rfl) ?_
  by_cases c1 : so = (0 : Int32)
  · refine lv_tableIn (tgt := 36) hx hb dX6_narrowed_1 (by rw [c1]; decide) (by rw [c1]; decide) (by rw [c1]; rfl) (by decide) ?_
    refine lv_lload_n hx hb dX6_narrowed_36 rfl (lv_at hl 1 rfl) ?_
    refine lv_l2i (v := ((v).toInt32)) hx hb dX6_narrowed_37 rfl ?_
    refine lv_i2b (v := ((((v).toInt32)).toInt8.toInt32)) hx hb dX6_narrowed_38 rfl ?_
    refine lv_i2l (v := ((((((v).toInt32)).toInt8.toInt32)).toInt64)) hx hb dX6_narrowed_39 rfl ?_
    exact W.lret (v := ((((((v).toInt32)).toInt8.toInt32)).toInt64)) hx hb hr (fun t ht hW => ⟨_, rfl, by unfold f_X6_narrowed; rw [if_pos c1] <;> rfl, ht⟩) (fun q hq => by cases hq) dX6_narrowed_40
  · by_cases c2 : so = (1 : Int32)
    · refine lv_tableIn (tgt := 41) hx hb dX6_narrowed_1 (by rw [c2]; decide) (by rw [c2]; decide) (by rw [c2]; rfl) (by decide) ?_
      refine lv_lload_n hx hb dX6_narrowed_41 rfl (lv_at hl 1 rfl) ?_
      refine lv_l2i (v := ((v).toInt32)) hx hb dX6_narrowed_42 rfl ?_
      refine lv_i2s (v := ((((v).toInt32)).toInt16.toInt32)) hx hb dX6_narrowed_43 rfl ?_
      refine lv_i2l (v := ((((((v).toInt32)).toInt16.toInt32)).toInt64)) hx hb dX6_narrowed_44 rfl ?_
      exact W.lret (v := ((((((v).toInt32)).toInt16.toInt32)).toInt64)) hx hb hr (fun t ht hW => ⟨_, rfl, by unfold f_X6_narrowed; rw [if_neg c1, if_pos c2] <;> rfl, ht⟩) (fun q hq => by cases hq) dX6_narrowed_45
    · by_cases c3 : so = (2 : Int32)
      · refine lv_tableIn (tgt := 46) hx hb dX6_narrowed_1 (by rw [c3]; decide) (by rw [c3]; decide) (by rw [c3]; rfl) (by decide) ?_
        refine lv_lload_n hx hb dX6_narrowed_46 rfl (lv_at hl 1 rfl) ?_
        refine lv_l2i (v := ((v).toInt32)) hx hb dX6_narrowed_47 rfl ?_
        refine lv_i2l (v := ((((v).toInt32)).toInt64)) hx hb dX6_narrowed_48 rfl ?_
        exact W.lret (v := ((((v).toInt32)).toInt64)) hx hb hr (fun t ht hW => ⟨_, rfl, by unfold f_X6_narrowed; rw [if_neg c1, if_neg c2, if_pos c3] <;> rfl, ht⟩) (fun q hq => by cases hq) dX6_narrowed_49
      · by_cases c4 : so = (3 : Int32)
        · refine lv_tableIn (tgt := 62) hx hb dX6_narrowed_1 (by rw [c4]; decide) (by rw [c4]; decide) (by rw [c4]; rfl) (by decide) ?_
          refine lv_lload_n hx hb dX6_narrowed_62 rfl (lv_at hl 1 rfl) ?_
          exact W.lret (v := v) hx hb hr (fun t ht hW => ⟨_, rfl, by unfold f_X6_narrowed; rw [if_neg c1, if_neg c2, if_neg c3, if_pos c4] <;> rfl, ht⟩) (fun q hq => by cases hq) dX6_narrowed_63
        · by_cases c5 : so = (4 : Int32)
          · refine lv_tableIn (tgt := 50) hx hb dX6_narrowed_1 (by rw [c5]; decide) (by rw [c5]; decide) (by rw [c5]; rfl) (by decide) ?_
            refine lv_lload_n hx hb dX6_narrowed_50 rfl (lv_at hl 1 rfl) ?_
            refine lv_lconst (v := (0 : Int64)) hx hb dX6_narrowed_51 (by decide) ?_
            refine W.lcmp hx hb dX6_narrowed_52 ?_
            refine lv_if_eq (tgt := 60) hx hb dX6_narrowed_53 (by decide) (fun c6 => ?_) (fun c6 => ?_)
            · refine lv_lconst (v := (0 : Int64)) hx hb dX6_narrowed_60 (by decide) ?_
              exact W.lret (v := (0 : Int64)) hx hb hr (fun t ht hW => ⟨_, rfl, by unfold f_X6_narrowed; rw [if_neg c1, if_neg c2, if_neg c3, if_neg c4, if_pos c5, if_pos c6] <;> rfl, ht⟩) (fun q hq => by cases hq) dX6_narrowed_61
            · refine lv_lconst (v := (1 : Int64)) hx hb dX6_narrowed_56 (by decide) ?_
              refine lv_goto (tgt := 61) hx hb dX6_narrowed_57 (by decide) ?_
              exact W.lret (v := (1 : Int64)) hx hb hr (fun t ht hW => ⟨_, rfl, by unfold f_X6_narrowed; rw [if_neg c1, if_neg c2, if_neg c3, if_neg c4, if_pos c5, if_neg c6] <;> rfl, ht⟩) (fun q hq => by cases hq) dX6_narrowed_61
          · refine lv_tableOut (tgt := 62) hx hb dX6_narrowed_1 (by have q0 := ne_t c1 (z := 0) (by decide); have q1 := ne_t c2 (z := 1) (by decide); have q2 := ne_t c3 (z := 2) (by decide); have q3 := ne_t c4 (z := 3) (by decide); have q4 := ne_t c5 (z := 4) (by decide); omega) (by decide) ?_
            refine lv_lload_n hx hb dX6_narrowed_62 rfl (lv_at hl 1 rfl) ?_
            exact W.lret (v := v) hx hb hr (fun t ht hW => ⟨_, rfl, by unfold f_X6_narrowed; rw [if_neg c1, if_neg c2, if_neg c3, if_neg c4, if_neg c5] <;> rfl, ht⟩) (fun q hq => by cases hq) dX6_narrowed_63
def f_X6_tapeb : Int32 × Unit :=
  ((-1 : Int32), ())
set_option maxHeartbeats 4000000 in
set_option maxRecDepth 100000 in
theorem c_X6_tapeb (l : Launch) (D : va_G) (cy : Nat → ClassId) (ox : Nat → Nat) (nt : Nat → Nat) (tt : Nat → Nat) (ol : Nat → Nat) (ts : Nat → Nat) (tl : Nat → Nat) (oc : Nat → Nat) (ta : Nat → Nat) (ox_isTaken : Int32) (t : Int32) (so : Int32) (v : Int32) (hbad : f_X6_isTape t = 0) : RwI (S := Unit) l D cy yX6_tape (.code yX6_tape cX6_tape 4 (some .int)) 1 (wX6 cy ox (nt 0) (tt 0) (ol 0) (ts 0) (tl 0) (oc 0) (ta 0) ox_isTaken) [.ref (ox 0), .int t, .int so, .int v] (fun rr u => (rr, u) = f_X6_tapeb) (fun u => wX6 cy ox (nt 0) (tt 0) (ol 0) (ts 0) (tl 0) (oc 0) (ta 0) ox_isTaken) := by
  intro sz
  refine Met.ofW (cc := cX6_tape) (maxL := 4) (ret := (some .int)) (by decide) rfl ?_
  intro pP eE s0 mM args below meth cC s₁ B hml hv
  obtain ⟨rfl, hsz, hP, hKX, hD0⟩ := hv
  have hx := B.exec
  have hb := B.bytes
  have hr := B.returns
  have hG := gw_hts (atoms_spec (ws := _) B.pre)
  have hown : s0.vm.findClass RX6 = some mM.cls := findClass_of_methodNamed B.named
  have hlocks := B.notSynchronized
  subst hsz
  have hD := hD0.self (sz := s0.heap.size)
  generalize hAe : va_A (wX6 cy ox (nt 0) (tt 0) (ol 0) (ts 0) (tl 0) (oc 0) (ta 0) ox_isTaken) s0.heap.size = A at hD ⊢
  have hA : ∀ q : Nat, s0.heap.size ≤ q → A q := fun q h => by rw [← hAe]; exact Or.inr h
  have hS : va_S A s0.heap s0.heap [] := va_S.rf
  have hl := lv_entry ([.ref (ox 0), .int t, .int so, .int v]) (n := 4) (Nat.le_of_ble_eq_true rfl)
  rw [lg_entry_eq]
  generalize (lg_sl ([.ref (ox 0), .int t, .int so, .int v]) ++ List.replicate (4 - (lg_sl ([.ref (ox 0), .int t, .int so, .int v])).length) Slot.unset).toArray = ls at hl ⊢
  have hl : lv_has ls 4 [(0, .ref (ox 0)), (1, .int t), (2, .int so), (3, .int v)] := hl
  refine lv_iload_n hx hb dX6_tape_0 rfl (lv_at hl 1 rfl) ?_
  refine cRoS mw31_17 mw31_18 mw1_2 mw31_19 hd_X6_isTape hx hb hml hown hG hKX (c_X6_isTape l D cy t) ⟨Nat.le_of_ble_eq_true rfl, Nat.le_of_ble_eq_true rfl⟩ ⟨Nat.zero_le _, Nat.zero_le _⟩ (hP.sub [] rfl) rfl hl.1 rfl (Nat.le_of_ble_eq_true rfl) dX6_tape_1 ?_
  refine lv_if_ne (tgt := 9) hx hb dX6_tape_4 (by decide) (fun c1 => absurd hbad c1) (fun _ => ?_)
  refine lv_iconst (v := (-1 : Int32)) hx hb dX6_tape_7 (by decide) ?_
  exact W.iret (v := (-1 : Int32)) hx hb hr (fun t ht hW => ⟨⟨(-1 : Int32), (), rfl, by unfold f_X6_tapeb; rfl, by rw [ht]; exact hP, hD⟩, hS.F ht⟩) hS.2.2 dX6_tape_8
def f_X6_itemb : Int32 × Unit :=
  ((-1 : Int32), ())
set_option maxHeartbeats 4000000 in
set_option maxRecDepth 100000 in
theorem c_X6_itemb (l : Launch) (D : va_G) (cy : Nat → ClassId) (ox : Nat → Nat) (nt : Nat → Nat) (tt : Nat → Nat) (ol : Nat → Nat) (ts : Nat → Nat) (tl : Nat → Nat) (oc : Nat → Nat) (ta : Nat → Nat) (ox_isTaken : Int32) (t : Int32) (i : Int32) (v : Int64) (hbad : f_X6_isTape t = 0) : RwI (S := Unit) l D cy yX6_item (.code yX6_item cX6_item 5 (some .int)) 1 (wX6 cy ox (nt 0) (tt 0) (ol 0) (ts 0) (tl 0) (oc 0) (ta 0) ox_isTaken) [.ref (ox 0), .int t, .int i, .long v] (fun rr u => (rr, u) = f_X6_itemb) (fun u => wX6 cy ox (nt 0) (tt 0) (ol 0) (ts 0) (tl 0) (oc 0) (ta 0) ox_isTaken) := by
  intro sz
  refine Met.ofW (cc := cX6_item) (maxL := 5) (ret := (some .int)) (by decide) rfl ?_
  intro pP eE s0 mM args below meth cC s₁ B hml hv
  obtain ⟨rfl, hsz, hP, hKX, hD0⟩ := hv
  have hx := B.exec
  have hb := B.bytes
  have hr := B.returns
  have hG := gw_hts (atoms_spec (ws := _) B.pre)
  have hown : s0.vm.findClass RX6 = some mM.cls := findClass_of_methodNamed B.named
  have hlocks := B.notSynchronized
  subst hsz
  have hD := hD0.self (sz := s0.heap.size)
  generalize hAe : va_A (wX6 cy ox (nt 0) (tt 0) (ol 0) (ts 0) (tl 0) (oc 0) (ta 0) ox_isTaken) s0.heap.size = A at hD ⊢
  have hA : ∀ q : Nat, s0.heap.size ≤ q → A q := fun q h => by rw [← hAe]; exact Or.inr h
  have hS : va_S A s0.heap s0.heap [] := va_S.rf
  have hl := lv_entry ([.ref (ox 0), .int t, .int i, .long v]) (n := 5) (Nat.le_of_ble_eq_true rfl)
  rw [lg_entry_eq]
  generalize (lg_sl ([.ref (ox 0), .int t, .int i, .long v]) ++ List.replicate (5 - (lg_sl ([.ref (ox 0), .int t, .int i, .long v])).length) Slot.unset).toArray = ls at hl ⊢
  have hl : lv_has ls 5 [(0, .ref (ox 0)), (1, .int t), (2, .int i), (3, .long v)] := hl
  refine lv_iload_n hx hb dX6_item_0 rfl (lv_at hl 1 rfl) ?_
  refine cRoS mw31_17 mw31_18 mw1_2 mw31_19 hd_X6_isTape hx hb hml hown hG hKX (c_X6_isTape l D cy t) ⟨Nat.le_of_ble_eq_true rfl, Nat.le_of_ble_eq_true rfl⟩ ⟨Nat.zero_le _, Nat.zero_le _⟩ (hP.sub [] rfl) rfl hl.1 rfl (Nat.le_of_ble_eq_true rfl) dX6_item_1 ?_
  refine lv_if_ne (tgt := 9) hx hb dX6_item_4 (by decide) (fun c1 => absurd hbad c1) (fun _ => ?_)
  refine lv_iconst (v := (-1 : Int32)) hx hb dX6_item_7 (by decide) ?_
  exact W.iret (v := (-1 : Int32)) hx hb hr (fun t ht hW => ⟨⟨(-1 : Int32), (), rfl, by unfold f_X6_itemb; rfl, by rw [ht]; exact hP, hD⟩, hS.F ht⟩) hS.2.2 dX6_item_8
def f_X6_peekb : Int64 :=
  (-9223372036854775808 : Int64)
set_option maxHeartbeats 4000000 in
set_option maxRecDepth 100000 in
theorem c_X6_peekb (l : Launch) (D : va_G) (cy : Nat → ClassId) (ox : Nat → Nat) (nt : Nat → Nat) (tt : Nat → Nat) (ol : Nat → Nat) (ts : Nat → Nat) (tl : Nat → Nat) (oc : Nat → Nat) (ta : Nat → Nat) (ox_isTaken : Int32) (t : Int32) (i : Int32) (hbad : f_X6_isTape t = 0) : RoL l D cy yX6_peek (.code yX6_peek cX6_peek 3 (some .long)) 1 (wX6 cy ox (nt 0) (tt 0) (ol 0) (ts 0) (tl 0) (oc 0) (ta 0) ox_isTaken) [.ref (ox 0), .int t, .int i] (f_X6_peekb) := by
  refine Met.ofW (cc := cX6_peek) (maxL := 3) (ret := (some .long)) (by decide) rfl ?_
  intro pP eE s0 mM args below meth cC s₁ B hml hv
  obtain ⟨rfl, hP, hKX⟩ := hv
  have hx := B.exec
  have hb := B.bytes
  have hr := B.returns
  have hG := gw_hts (atoms_spec (ws := _) B.pre)
  have hown : s0.vm.findClass RX6 = some mM.cls := findClass_of_methodNamed B.named
  have hlocks := B.notSynchronized
  have hl := lv_entry ([.ref (ox 0), .int t, .int i]) (n := 3) (Nat.le_of_ble_eq_true rfl)
  rw [lg_entry_eq]
  generalize (lg_sl ([.ref (ox 0), .int t, .int i]) ++ List.replicate (3 - (lg_sl ([.ref (ox 0), .int t, .int i])).length) Slot.unset).toArray = ls at hl ⊢
  have hl : lv_has ls 3 [(0, .ref (ox 0)), (1, .int t), (2, .int i)] := hl
  refine lv_iload_n hx hb dX6_peek_0 rfl (lv_at hl 1 rfl) ?_
  refine cRoS mw31_17 mw31_18 mw1_2 mw31_19 hd_X6_isTape hx hb hml hown hG hKX (c_X6_isTape l D cy t) ⟨Nat.le_of_ble_eq_true rfl, Nat.le_of_ble_eq_true rfl⟩ ⟨Nat.zero_le _, Nat.zero_le _⟩ (hP.sub [] rfl) rfl hl.1 rfl (Nat.le_of_ble_eq_true rfl) dX6_peek_1 ?_
  refine lv_if_eq (tgt := 20) hx hb dX6_peek_4 (by decide) (fun _ => ?_) (fun c1 => absurd hbad c1)
  refine lv_ldc2 (v := (-9223372036854775808 : Int64)) hx hb hown (hG _ mw25_4) dX6_peek_20 ?_
  exact W.lret (v := (-9223372036854775808 : Int64)) hx hb hr (fun t ht hW => ⟨_, rfl, by unfold f_X6_peekb; rfl, ht⟩) (fun q hq => by cases hq) dX6_peek_23
def f_X6_judgeb : Int32 × Unit :=
  ((-1 : Int32), ())
set_option maxHeartbeats 4000000 in
set_option maxRecDepth 100000 in
theorem c_X6_judgeb (l : Launch) (D : va_G) (cy : Nat → ClassId) (ox : Nat → Nat) (nt : Nat → Nat) (tt : Nat → Nat) (ol : Nat → Nat) (ts : Nat → Nat) (tl : Nat → Nat) (oc : Nat → Nat) (ta : Nat → Nat) (ox_isTaken : Int32) (t : Int32) (i : Int32) (hbad : f_X6_isTape t = 0) : RwI (S := Unit) l D cy yX6_judge (.code yX6_judge cX6_judge 6 (some .int)) 1 (wX6 cy ox (nt 0) (tt 0) (ol 0) (ts 0) (tl 0) (oc 0) (ta 0) ox_isTaken) [.ref (ox 0), .int t, .int i] (fun rr u => (rr, u) = f_X6_judgeb) (fun u => wX6 cy ox (nt 0) (tt 0) (ol 0) (ts 0) (tl 0) (oc 0) (ta 0) ox_isTaken) := by
  intro sz
  refine Met.ofW (cc := cX6_judge) (maxL := 6) (ret := (some .int)) (by decide) rfl ?_
  intro pP eE s0 mM args below meth cC s₁ B hml hv
  obtain ⟨rfl, hsz, hP, hKX, hD0⟩ := hv
  have hx := B.exec
  have hb := B.bytes
  have hr := B.returns
  have hG := gw_hts (atoms_spec (ws := _) B.pre)
  have hown : s0.vm.findClass RX6 = some mM.cls := findClass_of_methodNamed B.named
  have hlocks := B.notSynchronized
  subst hsz
  have hD := hD0.self (sz := s0.heap.size)
  generalize hAe : va_A (wX6 cy ox (nt 0) (tt 0) (ol 0) (ts 0) (tl 0) (oc 0) (ta 0) ox_isTaken) s0.heap.size = A at hD ⊢
  have hA : ∀ q : Nat, s0.heap.size ≤ q → A q := fun q h => by rw [← hAe]; exact Or.inr h
  have hS : va_S A s0.heap s0.heap [] := va_S.rf
  have hl := lv_entry ([.ref (ox 0), .int t, .int i]) (n := 6) (Nat.le_of_ble_eq_true rfl)
  rw [lg_entry_eq]
  generalize (lg_sl ([.ref (ox 0), .int t, .int i]) ++ List.replicate (6 - (lg_sl ([.ref (ox 0), .int t, .int i])).length) Slot.unset).toArray = ls at hl ⊢
  have hl : lv_has ls 6 [(0, .ref (ox 0)), (1, .int t), (2, .int i)] := hl
  refine lv_iload_n hx hb dX6_judge_0 rfl (lv_at hl 1 rfl) ?_
  refine cRoS mw31_17 mw31_18 mw1_2 mw31_19 hd_X6_isTape hx hb hml hown hG hKX (c_X6_isTape l D cy t) ⟨Nat.le_of_ble_eq_true rfl, Nat.le_of_ble_eq_true rfl⟩ ⟨Nat.zero_le _, Nat.zero_le _⟩ (hP.sub [] rfl) rfl hl.1 rfl (Nat.le_of_ble_eq_true rfl) dX6_judge_1 ?_
  refine lv_if_ne (tgt := 9) hx hb dX6_judge_4 (by decide) (fun c1 => absurd hbad c1) (fun _ => ?_)
  refine lv_iconst (v := (-1 : Int32)) hx hb dX6_judge_7 (by decide) ?_
  exact W.iret (v := (-1 : Int32)) hx hb hr (fun t ht hW => ⟨⟨(-1 : Int32), (), rfl, by unfold f_X6_judgeb; rfl, by rw [ht]; exact hP, hD⟩, hS.F ht⟩) hS.2.2 dX6_judge_8
def f_X6_tapev (op_items : Nat → Int64) (op_sort : Int32) (so : Int32) (v : Int32) (j : Nat) (lm : Nat) : Int32 × (Nat → Int64) × Int32 × Nat :=
  if (f_X6_isTape (nI j)) = (0 : Int32) then ((-1 : Int32), (op_items, op_sort, lm)) else (if so < (-1 : Int32) then ((-2 : Int32), (op_items, op_sort, lm)) else (if so ≤ (4 : Int32) then (if so = (-1 : Int32) then ((1 : Int32), (f_X4_become op_items (-1 : Int32) 0)) else (if v ≤ (60 : Int32) then (if (0 : Int32) ≤ v then ((1 : Int32), (f_X4_become op_items so v.toNatClampNeg)) else ((-14 : Int32), (op_items, op_sort, lm))) else ((-2 : Int32), (op_items, op_sort, lm)))) else ((-2 : Int32), (op_items, op_sort, lm))))
set_option maxHeartbeats 4000000 in
set_option maxRecDepth 100000 in
theorem c_X6_tapev (l : Launch) (D : va_G) (cy : Nat → ClassId) (ox : Nat → Nat) (ta : Nat → Nat) (op : Nat → Nat) (nt : Nat → Nat) (tt : Nat → Nat) (ol : Nat → Nat) (ts : Nat → Nat) (tl : Nat → Nat) (oc : Nat → Nat) (ox_isTaken : Int32) (ta_tf : Nat → Option Nat) (op_items : Nat → Int64) (op_sort : Int32) (so : Int32) (v : Int32) (j : Nat) (lm : Nat) (hj6 : j < 6) (htf : ta_tf j = some (op 0)) (hlm : lm ≤ 60) : RwI (S := (Nat → Int64) × Int32 × Nat) l D cy yX6_tape (.code yX6_tape cX6_tape 4 (some .int)) 2 ((wX6 cy ox (nt 0) (tt 0) (ol 0) (ts 0) (tl 0) (oc 0) (ta 0) ox_isTaken) ++ (wTA cy ta ta_tf) ++ (wX4 cy op op_items op_sort (nI lm))) [.ref (ox 0), .int (nI j), .int so, .int v] (fun rr u => (rr, u) = f_X6_tapev op_items op_sort so v j lm) (fun u => (wX6 cy ox (nt 0) (tt 0) (ol 0) (ts 0) (tl 0) (oc 0) (ta 0) ox_isTaken) ++ (wTA cy ta ta_tf) ++ (wX4 cy op u.1 u.2.1 (nI u.2.2))) := by
  intro sz
  refine Met.ofW (cc := cX6_tape) (maxL := 4) (ret := (some .int)) (by decide) rfl ?_
  intro pP eE s0 mM args below meth cC s₁ B hml hv
  obtain ⟨rfl, hsz, hP, hKX, hD0⟩ := hv
  have hx := B.exec
  have hb := B.bytes
  have hr := B.returns
  have hG := gw_hts (atoms_spec (ws := _) B.pre)
  have hown : s0.vm.findClass RX6 = some mM.cls := findClass_of_methodNamed B.named
  have hlocks := B.notSynchronized
  subst hsz
  have hD := hD0.self (sz := s0.heap.size)
  generalize hAe : va_A ((wX6 cy ox (nt 0) (tt 0) (ol 0) (ts 0) (tl 0) (oc 0) (ta 0) ox_isTaken) ++ (wTA cy ta ta_tf) ++ (wX4 cy op op_items op_sort (nI lm))) s0.heap.size = A at hD ⊢
  have hA : ∀ q : Nat, s0.heap.size ≤ q → A q := fun q h => by rw [← hAe]; exact Or.inr h
  have hS : va_S A s0.heap s0.heap [] := va_S.rf
  have hl := lv_entry ([.ref (ox 0), .int (nI j), .int so, .int v]) (n := 4) (Nat.le_of_ble_eq_true rfl)
  rw [lg_entry_eq]
  generalize (lg_sl ([.ref (ox 0), .int (nI j), .int so, .int v]) ++ List.replicate (4 - (lg_sl ([.ref (ox 0), .int (nI j), .int so, .int v])).length) Slot.unset).toArray = ls at hl ⊢
  have hl : lv_has ls 4 [(0, .ref (ox 0)), (1, .int (nI j)), (2, .int so), (3, .int v)] := hl
  refine lv_iload_n hx hb dX6_tape_0 rfl (lv_at hl 1 rfl) ?_
  refine cRoS mw31_17 mw31_18 mw1_2 mw31_19 hd_X6_isTape hx hb hml hown hG hKX (c_X6_isTape l D cy (nI j)) ⟨Nat.le_of_ble_eq_true rfl, Nat.le_of_ble_eq_true rfl⟩ ⟨Nat.zero_le _, Nat.zero_le _⟩ (hP.sub [] rfl) rfl hl.1 rfl (Nat.le_of_ble_eq_true rfl) dX6_tape_1 ?_
  refine lv_if_ne (tgt := 9) hx hb dX6_tape_4 (by decide) (fun c1 => ?_) (fun c1 => ?_)
  · refine lv_iload_n hx hb dX6_tape_9 rfl (lv_at hl 2 rfl) ?_
    refine lv_iconst (v := (-1 : Int32)) hx hb dX6_tape_10 (by decide) ?_
    refine lv_icmp_lt (tgt := 19) hx hb dX6_tape_11 (by decide) (fun c2 => ?_) (fun c2 => ?_)
    · refine lv_bipush (v := (-2 : Int32)) hx hb dX6_tape_19 (by decide) ?_
      exact W.iret (v := (-2 : Int32)) hx hb hr (fun t ht hW => ⟨⟨(-2 : Int32), (op_items, op_sort, lm), rfl, by unfold f_X6_tapev; rw [if_neg c1, if_pos c2] <;> rfl, by rw [ht]; exact hP, hD⟩, hS.F ht⟩) hS.2.2 dX6_tape_21
    · refine lv_iload_n hx hb dX6_tape_14 rfl (lv_at hl 2 rfl) ?_
      refine lv_iconst (v := (4 : Int32)) hx hb dX6_tape_15 (by decide) ?_
      refine lv_icmp_le (tgt := 22) hx hb dX6_tape_16 (by decide) (fun c3 => ?_) (fun c3 => ?_)
      · refine lv_iload_n hx hb dX6_tape_22 rfl (lv_at hl 2 rfl) ?_
        refine lv_iconst (v := (-1 : Int32)) hx hb dX6_tape_23 (by decide) ?_
        refine lv_icmp_ne (tgt := 40) hx hb dX6_tape_24 (by decide) (fun c4 => ?_) (fun c4 => ?_)
        · refine lv_iload_n hx hb dX6_tape_40 rfl (lv_at hl 3 rfl) ?_
          refine lv_bipush (v := (60 : Int32)) hx hb dX6_tape_41 (by decide) ?_
          refine lv_icmp_le (tgt := 49) hx hb dX6_tape_43 (by decide) (fun c5 => ?_) (fun c5 => ?_)
          · refine lv_iload_n hx hb dX6_tape_49 rfl (lv_at hl 3 rfl) ?_
            refine lv_if_ge (tgt := 56) hx hb dX6_tape_50 (by decide) (fun c6 => ?_) (fun c6 => ?_)
            · obtain ⟨j56, hj56, hlj56, rfl⟩ := rng_of (M := 60) (by omega) c6 c5
              refine lv_aload_n hx hb dX6_tape_56 rfl (lv_at hl 0 rfl) ?_
              refine gf_X6_56 hx hb hG hown hKX hP 0 rfl rfl dX6_tape_57 ?_
              refine lv_iload_n hx hb dX6_tape_60 rfl (lv_at hl 1 rfl) ?_
              refine aald_n hx hb hKX hP 1 rfl rfl (by omega) (by decide) htf dX6_tape_61 ?_
              refine lv_iload_n hx hb dX6_tape_62 rfl (lv_at hl 2 rfl) ?_
              refine lv_iload_n hx hb dX6_tape_63 rfl (lv_at hl 3 rfl) ?_
              refine cRwVV (q0 := 0) (ci := 4) mw34_0 mw34_1 mw34_2 mw2_12 mw34_3 rfl rfl hd_X4_become hx hb hml hown hG hKX (c_X4_become l D cy op op_items op_sort (nI lm) so j56 (by omega)) ⟨Nat.le_of_ble_eq_true rfl, Nat.le_of_ble_eq_true rfl⟩ ⟨Nat.zero_le _, Nat.zero_le _⟩ hP hD hS hA [2, 3] [0, 1] [0, 1, 2, 3] (wr := (wX6 cy ox (nt 0) (tt 0) (ol 0) (ts 0) (tl 0) (oc 0) (ta 0) ox_isTaken) ++ (wTA cy ta ta_tf)) (wn := fun u64 => (wX6 cy ox (nt 0) (tt 0) (ol 0) (ts 0) (tl 0) (oc 0) (ta 0) ox_isTaken) ++ (wTA cy ta ta_tf) ++ (wX4 cy op u64.1 u64.2.1 (nI u64.2.2))) rfl (by decide) rfl (by decide) (by decide) (fun _ => rfl) (by decide) rfl rfl hl.1 rfl (Nat.le_of_ble_eq_true rfl) dX6_tape_64 (fun u64 H locs hw64 hP hD hS => ?_)
              refine lv_iconst (v := (1 : Int32)) hx hb dX6_tape_67 (by decide) ?_
              exact W.iret (v := (1 : Int32)) hx hb hr (fun t ht hW => ⟨⟨(1 : Int32), u64, rfl, by subst hw64; unfold f_X6_tapev; (try simp only [hj56]); rw [if_neg c1, if_neg c2, if_pos c3, if_neg c4, if_pos c5, if_pos c6] <;> rfl, by rw [ht]; exact hP, hD⟩, hS.F ht⟩) hS.2.2 dX6_tape_68
            · refine lv_bipush (v := (-14 : Int32)) hx hb dX6_tape_53 (by decide) ?_
              exact W.iret (v := (-14 : Int32)) hx hb hr (fun t ht hW => ⟨⟨(-14 : Int32), (op_items, op_sort, lm), rfl, by unfold f_X6_tapev; rw [if_neg c1, if_neg c2, if_pos c3, if_neg c4, if_pos c5, if_neg c6] <;> rfl, by rw [ht]; exact hP, hD⟩, hS.F ht⟩) hS.2.2 dX6_tape_55
          · refine lv_bipush (v := (-2 : Int32)) hx hb dX6_tape_46 (by decide) ?_
            exact W.iret (v := (-2 : Int32)) hx hb hr (fun t ht hW => ⟨⟨(-2 : Int32), (op_items, op_sort, lm), rfl, by unfold f_X6_tapev; rw [if_neg c1, if_neg c2, if_pos c3, if_neg c4, if_neg c5] <;> rfl, by rw [ht]; exact hP, hD⟩, hS.F ht⟩) hS.2.2 dX6_tape_48
        · refine lv_aload_n hx hb dX6_tape_27 rfl (lv_at hl 0 rfl) ?_
          refine gf_X6_56 hx hb hG hown hKX hP 0 rfl rfl dX6_tape_28 ?_
          refine lv_iload_n hx hb dX6_tape_31 rfl (lv_at hl 1 rfl) ?_
          refine aald_n hx hb hKX hP 1 rfl rfl (by omega) (by decide) htf dX6_tape_32 ?_
          refine lv_iconst (v := (-1 : Int32)) hx hb dX6_tape_33 (by decide) ?_
          refine lv_iconst (v := (0 : Int32)) hx hb dX6_tape_34 (by decide) ?_
          refine cRwVV (q0 := 0) (ci := 4) mw34_0 mw34_1 mw34_2 mw2_12 mw34_3 rfl rfl hd_X4_become hx hb hml hown hG hKX (c_X4_become l D cy op op_items op_sort (nI lm) (-1 : Int32) 0 (by omega)) ⟨Nat.le_of_ble_eq_true rfl, Nat.le_of_ble_eq_true rfl⟩ ⟨Nat.zero_le _, Nat.zero_le _⟩ hP hD hS hA [2, 3] [0, 1] [0, 1, 2, 3] (wr := (wX6 cy ox (nt 0) (tt 0) (ol 0) (ts 0) (tl 0) (oc 0) (ta 0) ox_isTaken) ++ (wTA cy ta ta_tf)) (wn := fun u35 => (wX6 cy ox (nt 0) (tt 0) (ol 0) (ts 0) (tl 0) (oc 0) (ta 0) ox_isTaken) ++ (wTA cy ta ta_tf) ++ (wX4 cy op u35.1 u35.2.1 (nI u35.2.2))) rfl (by decide) rfl (by decide) (by decide) (fun _ => rfl) (by decide) rfl rfl hl.1 rfl (Nat.le_of_ble_eq_true rfl) dX6_tape_35 (fun u35 H locs hw35 hP hD hS => ?_)
          refine lv_iconst (v := (1 : Int32)) hx hb dX6_tape_38 (by decide) ?_
          exact W.iret (v := (1 : Int32)) hx hb hr (fun t ht hW => ⟨⟨(1 : Int32), u35, rfl, by subst hw35; unfold f_X6_tapev; rw [if_neg c1, if_neg c2, if_pos c3, if_pos c4] <;> rfl, by rw [ht]; exact hP, hD⟩, hS.F ht⟩) hS.2.2 dX6_tape_39
      · refine lv_bipush (v := (-2 : Int32)) hx hb dX6_tape_19 (by decide) ?_
        exact W.iret (v := (-2 : Int32)) hx hb hr (fun t ht hW => ⟨⟨(-2 : Int32), (op_items, op_sort, lm), rfl, by unfold f_X6_tapev; rw [if_neg c1, if_neg c2, if_neg c3] <;> rfl, by rw [ht]; exact hP, hD⟩, hS.F ht⟩) hS.2.2 dX6_tape_21
  · refine lv_iconst (v := (-1 : Int32)) hx hb dX6_tape_7 (by decide) ?_
    exact W.iret (v := (-1 : Int32)) hx hb hr (fun t ht hW => ⟨⟨(-1 : Int32), (op_items, op_sort, lm), rfl, by unfold f_X6_tapev; rw [if_pos c1] <;> rfl, by rw [ht]; exact hP, hD⟩, hS.F ht⟩) hS.2.2 dX6_tape_8
def f_X6_itemv (op_items : Nat → Int64) (op_sort : Int32) (i : Int32) (v : Int64) (j : Nat) (lm : Nat) : Int32 × (Nat → Int64) :=
  if (f_X6_isTape (nI j)) = (0 : Int32) then ((-1 : Int32), op_items) else (if (f_X4_holds op_sort) = (0 : Int32) then ((-11 : Int32), op_items) else (if (f_X4_hasPlace (nI lm) i) = (0 : Int32) then ((-13 : Int32), op_items) else ((1 : Int32), vp_updL op_items i.toNatClampNeg (f_X6_narrowed op_sort v))))
set_option maxHeartbeats 4000000 in
set_option maxRecDepth 100000 in
theorem c_X6_itemv (l : Launch) (D : va_G) (cy : Nat → ClassId) (ox : Nat → Nat) (ta : Nat → Nat) (op : Nat → Nat) (nt : Nat → Nat) (tt : Nat → Nat) (ol : Nat → Nat) (ts : Nat → Nat) (tl : Nat → Nat) (oc : Nat → Nat) (ox_isTaken : Int32) (ta_tf : Nat → Option Nat) (op_items : Nat → Int64) (op_sort : Int32) (i : Int32) (v : Int64) (j : Nat) (lm : Nat) (hj6 : j < 6) (htf : ta_tf j = some (op 0)) (hlm : lm ≤ 60) : RwI (S := (Nat → Int64)) l D cy yX6_item (.code yX6_item cX6_item 5 (some .int)) 1 ((wX6 cy ox (nt 0) (tt 0) (ol 0) (ts 0) (tl 0) (oc 0) (ta 0) ox_isTaken) ++ (wTA cy ta ta_tf) ++ (wX4 cy op op_items op_sort (nI lm))) [.ref (ox 0), .int (nI j), .int i, .long v] (fun rr u => (rr, u) = f_X6_itemv op_items op_sort i v j lm) (fun u => (wX6 cy ox (nt 0) (tt 0) (ol 0) (ts 0) (tl 0) (oc 0) (ta 0) ox_isTaken) ++ (wTA cy ta ta_tf) ++ (wX4 cy op u op_sort (nI lm))) := by
  intro sz
  refine Met.ofW (cc := cX6_item) (maxL := 5) (ret := (some .int)) (by decide) rfl ?_
  intro pP eE s0 mM args below meth cC s₁ B hml hv
  obtain ⟨rfl, hsz, hP, hKX, hD0⟩ := hv
  have hx := B.exec
  have hb := B.bytes
  have hr := B.returns
  have hG := gw_hts (atoms_spec (ws := _) B.pre)
  have hown : s0.vm.findClass RX6 = some mM.cls := findClass_of_methodNamed B.named
  have hlocks := B.notSynchronized
  subst hsz
  have hD := hD0.self (sz := s0.heap.size)
  generalize hAe : va_A ((wX6 cy ox (nt 0) (tt 0) (ol 0) (ts 0) (tl 0) (oc 0) (ta 0) ox_isTaken) ++ (wTA cy ta ta_tf) ++ (wX4 cy op op_items op_sort (nI lm))) s0.heap.size = A at hD ⊢
  have hA : ∀ q : Nat, s0.heap.size ≤ q → A q := fun q h => by rw [← hAe]; exact Or.inr h
  have hS : va_S A s0.heap s0.heap [] := va_S.rf
  have hl := lv_entry ([.ref (ox 0), .int (nI j), .int i, .long v]) (n := 5) (Nat.le_of_ble_eq_true rfl)
  rw [lg_entry_eq]
  generalize (lg_sl ([.ref (ox 0), .int (nI j), .int i, .long v]) ++ List.replicate (5 - (lg_sl ([.ref (ox 0), .int (nI j), .int i, .long v])).length) Slot.unset).toArray = ls at hl ⊢
  have hl : lv_has ls 5 [(0, .ref (ox 0)), (1, .int (nI j)), (2, .int i), (3, .long v)] := hl
  refine lv_iload_n hx hb dX6_item_0 rfl (lv_at hl 1 rfl) ?_
  refine cRoS mw31_17 mw31_18 mw1_2 mw31_19 hd_X6_isTape hx hb hml hown hG hKX (c_X6_isTape l D cy (nI j)) ⟨Nat.le_of_ble_eq_true rfl, Nat.le_of_ble_eq_true rfl⟩ ⟨Nat.zero_le _, Nat.zero_le _⟩ (hP.sub [] rfl) rfl hl.1 rfl (Nat.le_of_ble_eq_true rfl) dX6_item_1 ?_
  refine lv_if_ne (tgt := 9) hx hb dX6_item_4 (by decide) (fun c1 => ?_) (fun c1 => ?_)
  · refine lv_aload_n hx hb dX6_item_9 rfl (lv_at hl 0 rfl) ?_
    refine gf_X6_56 hx hb hG hown hKX hP 0 rfl rfl dX6_item_10 ?_
    refine lv_iload_n hx hb dX6_item_13 rfl (lv_at hl 1 rfl) ?_
    refine aald_n hx hb hKX hP 1 rfl rfl (by omega) (by decide) htf dX6_item_14 ?_
    refine cRoV (q0 := 0) (ci := 4) mw31_20 mw31_21 mw31_22 mw2_12 mw31_23 rfl rfl hd_X4_holds hx hb hml hown hG hKX (c_X4_holds l D cy op op_items op_sort (nI lm)) ⟨Nat.le_of_ble_eq_true rfl, Nat.le_of_ble_eq_true rfl⟩ ⟨Nat.zero_le _, Nat.zero_le _⟩ (hP.sub [2, 3] rfl) rfl rfl hl.1 rfl (Nat.le_of_ble_eq_true rfl) dX6_item_15 ?_
    refine lv_if_ne (tgt := 24) hx hb dX6_item_18 (by decide) (fun c2 => ?_) (fun c2 => ?_)
    · refine lv_aload_n hx hb dX6_item_24 rfl (lv_at hl 0 rfl) ?_
      refine gf_X6_56 hx hb hG hown hKX hP 0 rfl rfl dX6_item_25 ?_
      refine lv_iload_n hx hb dX6_item_28 rfl (lv_at hl 1 rfl) ?_
      refine aald_n hx hb hKX hP 1 rfl rfl (by omega) (by decide) htf dX6_item_29 ?_
      refine lv_iload_n hx hb dX6_item_30 rfl (lv_at hl 2 rfl) ?_
      refine cRoV (q0 := 0) (ci := 4) mw34_17 mw34_18 mw34_19 mw2_12 mw34_20 rfl rfl hd_X4_hasPlace hx hb hml hown hG hKX (c_X4_hasPlace l D cy op op_items op_sort (nI lm) i) ⟨Nat.le_of_ble_eq_true rfl, Nat.le_of_ble_eq_true rfl⟩ ⟨Nat.zero_le _, Nat.zero_le _⟩ (hP.sub [2, 3] rfl) rfl rfl hl.1 rfl (Nat.le_of_ble_eq_true rfl) dX6_item_31 ?_
      refine lv_if_ne (tgt := 40) hx hb dX6_item_34 (by decide) (fun c3 => ?_) (fun c3 => ?_)
      · obtain ⟨j34, hj34, hlj34, rfl⟩ := hasP_of (by omega) c3
        refine lv_aload_n hx hb dX6_item_40 rfl (lv_at hl 0 rfl) ?_
        refine gf_X6_56 hx hb hG hown hKX hP 0 rfl rfl dX6_item_41 ?_
        refine lv_iload_n hx hb dX6_item_44 rfl (lv_at hl 1 rfl) ?_
        refine aald_n hx hb hKX hP 1 rfl rfl (by omega) (by decide) htf dX6_item_45 ?_
        refine gf_X6_240 hx hb hG hown hKX hP 2 rfl rfl dX6_item_46 ?_
        refine lv_iload_n hx hb dX6_item_49 rfl (lv_at hl 2 rfl) ?_
        refine lv_aload_n hx hb dX6_item_50 rfl (lv_at hl 0 rfl) ?_
        refine gf_X6_56 hx hb hG hown hKX hP 0 rfl rfl dX6_item_51 ?_
        refine lv_iload_n hx hb dX6_item_54 rfl (lv_at hl 1 rfl) ?_
        refine aald_n hx hb hKX hP 1 rfl rfl (by omega) (by decide) htf dX6_item_55 ?_
        refine gf_X6_234 hx hb hG hown hKX hP 2 rfl rfl dX6_item_56 ?_
        refine lv_lload_n hx hb dX6_item_59 rfl (lv_at hl 3 rfl) ?_
        refine cRoSL mw34_21 mw34_22 mw1_2 mw34_23 hd_X6_narrowed hx hb hml hown hG hKX (c_X6_narrowed l D cy op_sort v) ⟨Nat.le_of_ble_eq_true rfl, Nat.le_of_ble_eq_true rfl⟩ ⟨Nat.zero_le _, Nat.zero_le _⟩ (hP.sub [] rfl) rfl hl.1 rfl (Nat.le_of_ble_eq_true rfl) dX6_item_60 ?_
        refine last_n hx hb hKX hP hD hS 3 rfl rfl (by omega) (by decide) dX6_item_63 (fun H locs hP hD hS => ?_)
        have hP : va_P D vwCl ((wX6 cy ox (nt 0) (tt 0) (ol 0) (ts 0) (tl 0) (oc 0) (ta 0) ox_isTaken) ++ (wTA cy ta ta_tf) ++ (wX4 cy op (vp_updL op_items j34 (f_X6_narrowed op_sort v)) op_sort (nI lm))) H := hP
        have hD : va_D A ((wX6 cy ox (nt 0) (tt 0) (ol 0) (ts 0) (tl 0) (oc 0) (ta 0) ox_isTaken) ++ (wTA cy ta ta_tf) ++ (wX4 cy op (vp_updL op_items j34 (f_X6_narrowed op_sort v)) op_sort (nI lm))) := hD
        refine lv_iconst (v := (1 : Int32)) hx hb dX6_item_64 (by decide) ?_
        exact W.iret (v := (1 : Int32)) hx hb hr (fun t ht hW => ⟨⟨(1 : Int32), vp_updL op_items j34 (f_X6_narrowed op_sort v), rfl, by unfold f_X6_itemv; (try simp only [hj34]); rw [if_neg c1, if_neg c2, if_neg c3] <;> rfl, by rw [ht]; exact hP, hD⟩, hS.F ht⟩) hS.2.2 dX6_item_65
      · refine lv_bipush (v := (-13 : Int32)) hx hb dX6_item_37 (by decide) ?_
        exact W.iret (v := (-13 : Int32)) hx hb hr (fun t ht hW => ⟨⟨(-13 : Int32), op_items, rfl, by unfold f_X6_itemv; rw [if_neg c1, if_neg c2, if_pos c3] <;> rfl, by rw [ht]; exact hP, hD⟩, hS.F ht⟩) hS.2.2 dX6_item_39
    · refine lv_bipush (v := (-11 : Int32)) hx hb dX6_item_21 (by decide) ?_
      exact W.iret (v := (-11 : Int32)) hx hb hr (fun t ht hW => ⟨⟨(-11 : Int32), op_items, rfl, by unfold f_X6_itemv; rw [if_neg c1, if_pos c2] <;> rfl, by rw [ht]; exact hP, hD⟩, hS.F ht⟩) hS.2.2 dX6_item_23
  · refine lv_iconst (v := (-1 : Int32)) hx hb dX6_item_7 (by decide) ?_
    exact W.iret (v := (-1 : Int32)) hx hb hr (fun t ht hW => ⟨⟨(-1 : Int32), op_items, rfl, by unfold f_X6_itemv; rw [if_pos c1] <;> rfl, by rw [ht]; exact hP, hD⟩, hS.F ht⟩) hS.2.2 dX6_item_8
def f_X6_peekv (op_items : Nat → Int64) (i : Int32) (j : Nat) (lm : Nat) : Int64 :=
  if (f_X6_isTape (nI j)) = (0 : Int32) then (-9223372036854775808 : Int64) else (if (f_X4_hasPlace (nI lm) i) = (0 : Int32) then (-9223372036854775808 : Int64) else (op_items i.toNatClampNeg))
set_option maxHeartbeats 4000000 in
set_option maxRecDepth 100000 in
theorem c_X6_peekv (l : Launch) (D : va_G) (cy : Nat → ClassId) (ox : Nat → Nat) (ta : Nat → Nat) (op : Nat → Nat) (nt : Nat → Nat) (tt : Nat → Nat) (ol : Nat → Nat) (ts : Nat → Nat) (tl : Nat → Nat) (oc : Nat → Nat) (ox_isTaken : Int32) (ta_tf : Nat → Option Nat) (op_items : Nat → Int64) (op_sort : Int32) (i : Int32) (j : Nat) (lm : Nat) (hj6 : j < 6) (htf : ta_tf j = some (op 0)) (hlm : lm ≤ 60) : RoL l D cy yX6_peek (.code yX6_peek cX6_peek 3 (some .long)) 1 ((wX6 cy ox (nt 0) (tt 0) (ol 0) (ts 0) (tl 0) (oc 0) (ta 0) ox_isTaken) ++ (wTA cy ta ta_tf) ++ (wX4 cy op op_items op_sort (nI lm))) [.ref (ox 0), .int (nI j), .int i] (f_X6_peekv op_items i j lm) := by
  refine Met.ofW (cc := cX6_peek) (maxL := 3) (ret := (some .long)) (by decide) rfl ?_
  intro pP eE s0 mM args below meth cC s₁ B hml hv
  obtain ⟨rfl, hP, hKX⟩ := hv
  have hx := B.exec
  have hb := B.bytes
  have hr := B.returns
  have hG := gw_hts (atoms_spec (ws := _) B.pre)
  have hown : s0.vm.findClass RX6 = some mM.cls := findClass_of_methodNamed B.named
  have hlocks := B.notSynchronized
  have hl := lv_entry ([.ref (ox 0), .int (nI j), .int i]) (n := 3) (Nat.le_of_ble_eq_true rfl)
  rw [lg_entry_eq]
  generalize (lg_sl ([.ref (ox 0), .int (nI j), .int i]) ++ List.replicate (3 - (lg_sl ([.ref (ox 0), .int (nI j), .int i])).length) Slot.unset).toArray = ls at hl ⊢
  have hl : lv_has ls 3 [(0, .ref (ox 0)), (1, .int (nI j)), (2, .int i)] := hl
  refine lv_iload_n hx hb dX6_peek_0 rfl (lv_at hl 1 rfl) ?_
  refine cRoS mw31_17 mw31_18 mw1_2 mw31_19 hd_X6_isTape hx hb hml hown hG hKX (c_X6_isTape l D cy (nI j)) ⟨Nat.le_of_ble_eq_true rfl, Nat.le_of_ble_eq_true rfl⟩ ⟨Nat.zero_le _, Nat.zero_le _⟩ (hP.sub [] rfl) rfl hl.1 rfl (Nat.le_of_ble_eq_true rfl) dX6_peek_1 ?_
  refine lv_if_eq (tgt := 20) hx hb dX6_peek_4 (by decide) (fun c1 => ?_) (fun c1 => ?_)
  · refine lv_ldc2 (v := (-9223372036854775808 : Int64)) hx hb hown (hG _ mw25_4) dX6_peek_20 ?_
    exact W.lret (v := (-9223372036854775808 : Int64)) hx hb hr (fun t ht hW => ⟨_, rfl, by unfold f_X6_peekv; rw [if_pos c1] <;> rfl, ht⟩) (fun q hq => by cases hq) dX6_peek_23
  · refine lv_aload_n hx hb dX6_peek_7 rfl (lv_at hl 0 rfl) ?_
    refine gf_X6_56 hx hb hG hown hKX hP 0 rfl rfl dX6_peek_8 ?_
    refine lv_iload_n hx hb dX6_peek_11 rfl (lv_at hl 1 rfl) ?_
    refine aald_n hx hb hKX hP 1 rfl rfl (by omega) (by decide) htf dX6_peek_12 ?_
    refine lv_iload_n hx hb dX6_peek_13 rfl (lv_at hl 2 rfl) ?_
    refine cRoV (q0 := 0) (ci := 4) mw34_17 mw34_18 mw34_19 mw2_12 mw34_20 rfl rfl hd_X4_hasPlace hx hb hml hown hG hKX (c_X4_hasPlace l D cy op op_items op_sort (nI lm) i) ⟨Nat.le_of_ble_eq_true rfl, Nat.le_of_ble_eq_true rfl⟩ ⟨Nat.zero_le _, Nat.zero_le _⟩ (hP.sub [2, 3] rfl) rfl rfl hl.1 rfl (Nat.le_of_ble_eq_true rfl) dX6_peek_14 ?_
    refine lv_if_ne (tgt := 24) hx hb dX6_peek_17 (by decide) (fun c2 => ?_) (fun c2 => ?_)
    · obtain ⟨j17, hj17, hlj17, rfl⟩ := hasP_of (by omega) c2
      refine lv_aload_n hx hb dX6_peek_24 rfl (lv_at hl 0 rfl) ?_
      refine gf_X6_56 hx hb hG hown hKX hP 0 rfl rfl dX6_peek_25 ?_
      refine lv_iload_n hx hb dX6_peek_28 rfl (lv_at hl 1 rfl) ?_
      refine aald_n hx hb hKX hP 1 rfl rfl (by omega) (by decide) htf dX6_peek_29 ?_
      refine gf_X6_240 hx hb hG hown hKX hP 2 rfl rfl dX6_peek_30 ?_
      refine lv_iload_n hx hb dX6_peek_33 rfl (lv_at hl 2 rfl) ?_
      refine lald_n hx hb hKX hP 3 rfl rfl (by omega) (by decide) dX6_peek_34 ?_
      exact W.lret (v := (op_items j17)) hx hb hr (fun t ht hW => ⟨_, rfl, by unfold f_X6_peekv; (try simp only [hj17]); rw [if_neg c1, if_neg c2] <;> rfl, ht⟩) (fun q hq => by cases hq) dX6_peek_35
    · refine lv_ldc2 (v := (-9223372036854775808 : Int64)) hx hb hown (hG _ mw25_4) dX6_peek_20 ?_
      exact W.lret (v := (-9223372036854775808 : Int64)) hx hb hr (fun t ht hW => ⟨_, rfl, by unfold f_X6_peekv; rw [if_neg c1, if_pos c2] <;> rfl, ht⟩) (fun q hq => by cases hq) dX6_peek_23
def f_X6_shiftb : Int32 × Unit :=
  ((-1 : Int32), ())
set_option maxHeartbeats 4000000 in
set_option maxRecDepth 100000 in
theorem c_X6_shiftb (l : Launch) (D : va_G) (cy : Nat → ClassId) (ox : Nat → Nat) (nt : Nat → Nat) (tt : Nat → Nat) (ol : Nat → Nat) (ts : Nat → Nat) (tl : Nat → Nat) (oc : Nat → Nat) (ta : Nat → Nat) (ox_isTaken : Int32) (t : Int32) (i : Int32) (o : Int32) (j : Int32) (v : Int32) (hbad : f_X6_isTape t = 0) : RwI (S := Unit) l D cy yX6_shift (.code yX6_shift cX6_shift 8 (some .int)) 1 (wX6 cy ox (nt 0) (tt 0) (ol 0) (ts 0) (tl 0) (oc 0) (ta 0) ox_isTaken) [.ref (ox 0), .int t, .int i, .int o, .int j, .int v] (fun rr u => (rr, u) = f_X6_shiftb) (fun u => wX6 cy ox (nt 0) (tt 0) (ol 0) (ts 0) (tl 0) (oc 0) (ta 0) ox_isTaken) := by
  intro sz
  refine Met.ofW (cc := cX6_shift) (maxL := 8) (ret := (some .int)) (by decide) rfl ?_
  intro pP eE s0 mM args below meth cC s₁ B hml hv
  obtain ⟨rfl, hsz, hP, hKX, hD0⟩ := hv
  have hx := B.exec
  have hb := B.bytes
  have hr := B.returns
  have hG := gw_hts (atoms_spec (ws := _) B.pre)
  have hown : s0.vm.findClass RX6 = some mM.cls := findClass_of_methodNamed B.named
  have hlocks := B.notSynchronized
  subst hsz
  have hD := hD0.self (sz := s0.heap.size)
  generalize hAe : va_A (wX6 cy ox (nt 0) (tt 0) (ol 0) (ts 0) (tl 0) (oc 0) (ta 0) ox_isTaken) s0.heap.size = A at hD ⊢
  have hA : ∀ q : Nat, s0.heap.size ≤ q → A q := fun q h => by rw [← hAe]; exact Or.inr h
  have hS : va_S A s0.heap s0.heap [] := va_S.rf
  have hl := lv_entry ([.ref (ox 0), .int t, .int i, .int o, .int j, .int v]) (n := 8) (Nat.le_of_ble_eq_true rfl)
  rw [lg_entry_eq]
  generalize (lg_sl ([.ref (ox 0), .int t, .int i, .int o, .int j, .int v]) ++ List.replicate (8 - (lg_sl ([.ref (ox 0), .int t, .int i, .int o, .int j, .int v])).length) Slot.unset).toArray = ls at hl ⊢
  have hl : lv_has ls 8 [(0, .ref (ox 0)), (1, .int t), (2, .int i), (3, .int o), (4, .int j), (5, .int v)] := hl
  refine lv_iload_n hx hb dX6_shift_0 rfl (lv_at hl 1 rfl) ?_
  refine cRoS mw31_17 mw31_18 mw1_2 mw31_19 hd_X6_isTape hx hb hml hown hG hKX (c_X6_isTape l D cy t) ⟨Nat.le_of_ble_eq_true rfl, Nat.le_of_ble_eq_true rfl⟩ ⟨Nat.zero_le _, Nat.zero_le _⟩ (hP.sub [] rfl) rfl hl.1 rfl (Nat.le_of_ble_eq_true rfl) dX6_shift_1 ?_
  refine lv_if_eq (tgt := 14) hx hb dX6_shift_4 (by decide) (fun _ => ?_) (fun c1 => absurd hbad c1)
  refine lv_iconst (v := (-1 : Int32)) hx hb dX6_shift_14 (by decide) ?_
  exact W.iret (v := (-1 : Int32)) hx hb hr (fun t ht hW => ⟨⟨(-1 : Int32), (), rfl, by unfold f_X6_shiftb; rfl, by rw [ht]; exact hP, hD⟩, hS.F ht⟩) hS.2.2 dX6_shift_15
def f_X6_shiftc : Int32 × Unit :=
  ((-1 : Int32), ())
set_option maxHeartbeats 4000000 in
set_option maxRecDepth 100000 in
theorem c_X6_shiftc (l : Launch) (D : va_G) (cy : Nat → ClassId) (ox : Nat → Nat) (nt : Nat → Nat) (tt : Nat → Nat) (ol : Nat → Nat) (ts : Nat → Nat) (tl : Nat → Nat) (oc : Nat → Nat) (ta : Nat → Nat) (ox_isTaken : Int32) (t : Int32) (i : Int32) (o : Int32) (j : Int32) (v : Int32) (hgood : ¬ f_X6_isTape t = 0) (hbad : f_X6_isTape o = 0) : RwI (S := Unit) l D cy yX6_shift (.code yX6_shift cX6_shift 8 (some .int)) 1 (wX6 cy ox (nt 0) (tt 0) (ol 0) (ts 0) (tl 0) (oc 0) (ta 0) ox_isTaken) [.ref (ox 0), .int t, .int i, .int o, .int j, .int v] (fun rr u => (rr, u) = f_X6_shiftc) (fun u => wX6 cy ox (nt 0) (tt 0) (ol 0) (ts 0) (tl 0) (oc 0) (ta 0) ox_isTaken) := by
  intro sz
  refine Met.ofW (cc := cX6_shift) (maxL := 8) (ret := (some .int)) (by decide) rfl ?_
  intro pP eE s0 mM args below meth cC s₁ B hml hv
  obtain ⟨rfl, hsz, hP, hKX, hD0⟩ := hv
  have hx := B.exec
  have hb := B.bytes
  have hr := B.returns
  have hG := gw_hts (atoms_spec (ws := _) B.pre)
  have hown : s0.vm.findClass RX6 = some mM.cls := findClass_of_methodNamed B.named
  have hlocks := B.notSynchronized
  subst hsz
  have hD := hD0.self (sz := s0.heap.size)
  generalize hAe : va_A (wX6 cy ox (nt 0) (tt 0) (ol 0) (ts 0) (tl 0) (oc 0) (ta 0) ox_isTaken) s0.heap.size = A at hD ⊢
  have hA : ∀ q : Nat, s0.heap.size ≤ q → A q := fun q h => by rw [← hAe]; exact Or.inr h
  have hS : va_S A s0.heap s0.heap [] := va_S.rf
  have hl := lv_entry ([.ref (ox 0), .int t, .int i, .int o, .int j, .int v]) (n := 8) (Nat.le_of_ble_eq_true rfl)
  rw [lg_entry_eq]
  generalize (lg_sl ([.ref (ox 0), .int t, .int i, .int o, .int j, .int v]) ++ List.replicate (8 - (lg_sl ([.ref (ox 0), .int t, .int i, .int o, .int j, .int v])).length) Slot.unset).toArray = ls at hl ⊢
  have hl : lv_has ls 8 [(0, .ref (ox 0)), (1, .int t), (2, .int i), (3, .int o), (4, .int j), (5, .int v)] := hl
  refine lv_iload_n hx hb dX6_shift_0 rfl (lv_at hl 1 rfl) ?_
  refine cRoS mw31_17 mw31_18 mw1_2 mw31_19 hd_X6_isTape hx hb hml hown hG hKX (c_X6_isTape l D cy t) ⟨Nat.le_of_ble_eq_true rfl, Nat.le_of_ble_eq_true rfl⟩ ⟨Nat.zero_le _, Nat.zero_le _⟩ (hP.sub [] rfl) rfl hl.1 rfl (Nat.le_of_ble_eq_true rfl) dX6_shift_1 ?_
  refine lv_if_eq (tgt := 14) hx hb dX6_shift_4 (by decide) (fun c1 => absurd c1 hgood) (fun _ => ?_)
  refine lv_iload_n hx hb dX6_shift_7 rfl (lv_at hl 3 rfl) ?_
  refine cRoS mw31_17 mw31_18 mw1_2 mw31_19 hd_X6_isTape hx hb hml hown hG hKX (c_X6_isTape l D cy o) ⟨Nat.le_of_ble_eq_true rfl, Nat.le_of_ble_eq_true rfl⟩ ⟨Nat.zero_le _, Nat.zero_le _⟩ (hP.sub [] rfl) rfl hl.1 rfl (Nat.le_of_ble_eq_true rfl) dX6_shift_8 ?_
  refine lv_if_ne (tgt := 16) hx hb dX6_shift_11 (by decide) (fun c2 => absurd hbad c2) (fun _ => ?_)
  refine lv_iconst (v := (-1 : Int32)) hx hb dX6_shift_14 (by decide) ?_
  exact W.iret (v := (-1 : Int32)) hx hb hr (fun t ht hW => ⟨⟨(-1 : Int32), (), rfl, by unfold f_X6_shiftc; rfl, by rw [ht]; exact hP, hD⟩, hS.F ht⟩) hS.2.2 dX6_shift_15
def f_X6_shifts (op_items : Nat → Int64) (op_sort : Int32) (i : Int32) (j : Int32) (v : Int32) (jt : Nat) (lm : Nat) : Int32 × (Nat → Int64) :=
  if (f_X6_isTape (nI jt)) = (0 : Int32) then ((-1 : Int32), op_items) else (if (f_X4_holds op_sort) = (0 : Int32) then ((-11 : Int32), op_items) else (if (f_X4_hasStretch (nI lm) i v) = (0 : Int32) then ((-13 : Int32), op_items) else (if (f_X4_hasStretch (nI lm) j (nI v.toNatClampNeg)) = (0 : Int32) then ((-13 : Int32), op_items) else (nI v.toNatClampNeg, va_cpy op_items op_items i.toNatClampNeg j.toNatClampNeg v.toNatClampNeg))))
set_option maxHeartbeats 4000000 in
set_option maxRecDepth 100000 in
theorem c_X6_shifts (l : Launch) (D : va_G) (cy : Nat → ClassId) (ox : Nat → Nat) (ta : Nat → Nat) (op : Nat → Nat) (nt : Nat → Nat) (tt : Nat → Nat) (ol : Nat → Nat) (ts : Nat → Nat) (tl : Nat → Nat) (oc : Nat → Nat) (ox_isTaken : Int32) (ta_tf : Nat → Option Nat) (op_items : Nat → Int64) (op_sort : Int32) (i : Int32) (j : Int32) (v : Int32) (jt : Nat) (lm : Nat) (hj6 : jt < 6) (htf : ta_tf jt = some (op 0)) (hlm : lm ≤ 60) : RwI (S := (Nat → Int64)) l D cy yX6_shift (.code yX6_shift cX6_shift 8 (some .int)) 1 ((wX6 cy ox (nt 0) (tt 0) (ol 0) (ts 0) (tl 0) (oc 0) (ta 0) ox_isTaken) ++ (wTA cy ta ta_tf) ++ (wX4 cy op op_items op_sort (nI lm))) [.ref (ox 0), .int (nI jt), .int i, .int (nI jt), .int j, .int v] (fun rr u => (rr, u) = f_X6_shifts op_items op_sort i j v jt lm) (fun u => (wX6 cy ox (nt 0) (tt 0) (ol 0) (ts 0) (tl 0) (oc 0) (ta 0) ox_isTaken) ++ (wTA cy ta ta_tf) ++ (wX4 cy op u op_sort (nI lm))) := by
  intro sz
  refine Met.ofW (cc := cX6_shift) (maxL := 8) (ret := (some .int)) (by decide) rfl ?_
  intro pP eE s0 mM args below meth cC s₁ B hml hv
  obtain ⟨rfl, hsz, hP, hKX, hD0⟩ := hv
  have hx := B.exec
  have hb := B.bytes
  have hr := B.returns
  have hG := gw_hts (atoms_spec (ws := _) B.pre)
  have hown : s0.vm.findClass RX6 = some mM.cls := findClass_of_methodNamed B.named
  have hlocks := B.notSynchronized
  subst hsz
  have hD := hD0.self (sz := s0.heap.size)
  generalize hAe : va_A ((wX6 cy ox (nt 0) (tt 0) (ol 0) (ts 0) (tl 0) (oc 0) (ta 0) ox_isTaken) ++ (wTA cy ta ta_tf) ++ (wX4 cy op op_items op_sort (nI lm))) s0.heap.size = A at hD ⊢
  have hA : ∀ q : Nat, s0.heap.size ≤ q → A q := fun q h => by rw [← hAe]; exact Or.inr h
  have hS : va_S A s0.heap s0.heap [] := va_S.rf
  have hl := lv_entry ([.ref (ox 0), .int (nI jt), .int i, .int (nI jt), .int j, .int v]) (n := 8) (Nat.le_of_ble_eq_true rfl)
  rw [lg_entry_eq]
  generalize (lg_sl ([.ref (ox 0), .int (nI jt), .int i, .int (nI jt), .int j, .int v]) ++ List.replicate (8 - (lg_sl ([.ref (ox 0), .int (nI jt), .int i, .int (nI jt), .int j, .int v])).length) Slot.unset).toArray = ls at hl ⊢
  have hl : lv_has ls 8 [(0, .ref (ox 0)), (1, .int (nI jt)), (2, .int i), (3, .int (nI jt)), (4, .int j), (5, .int v)] := hl
  refine lv_iload_n hx hb dX6_shift_0 rfl (lv_at hl 1 rfl) ?_
  refine cRoS mw31_17 mw31_18 mw1_2 mw31_19 hd_X6_isTape hx hb hml hown hG hKX (c_X6_isTape l D cy (nI jt)) ⟨Nat.le_of_ble_eq_true rfl, Nat.le_of_ble_eq_true rfl⟩ ⟨Nat.zero_le _, Nat.zero_le _⟩ (hP.sub [] rfl) rfl hl.1 rfl (Nat.le_of_ble_eq_true rfl) dX6_shift_1 ?_
  refine lv_if_eq (tgt := 14) hx hb dX6_shift_4 (by decide) (fun c1 => ?_) (fun c1 => ?_)
  · refine lv_iconst (v := (-1 : Int32)) hx hb dX6_shift_14 (by decide) ?_
    exact W.iret (v := (-1 : Int32)) hx hb hr (fun t ht hW => ⟨⟨(-1 : Int32), op_items, rfl, by unfold f_X6_shifts; rw [if_pos c1] <;> rfl, by rw [ht]; exact hP, hD⟩, hS.F ht⟩) hS.2.2 dX6_shift_15
  · refine lv_iload_n hx hb dX6_shift_7 rfl (lv_at hl 3 rfl) ?_
    refine cRoS mw31_17 mw31_18 mw1_2 mw31_19 hd_X6_isTape hx hb hml hown hG hKX (c_X6_isTape l D cy (nI jt)) ⟨Nat.le_of_ble_eq_true rfl, Nat.le_of_ble_eq_true rfl⟩ ⟨Nat.zero_le _, Nat.zero_le _⟩ (hP.sub [] rfl) rfl hl.1 rfl (Nat.le_of_ble_eq_true rfl) dX6_shift_8 ?_
    refine lv_if_ne (tgt := 16) hx hb dX6_shift_11 (by decide) (fun _ => ?_) (fun c2 => absurd c2 c1)
    refine lv_aload_n hx hb dX6_shift_16 rfl (lv_at hl 0 rfl) ?_
    refine gf_X6_56 hx hb hG hown hKX hP 0 rfl rfl dX6_shift_17 ?_
    refine lv_iload_n hx hb dX6_shift_20 rfl (lv_at hl 1 rfl) ?_
    refine aald_n hx hb hKX hP 1 rfl rfl (by omega) (by decide) htf dX6_shift_21 ?_
    refine lv_astore (lv' := [(6, .ref (op 0)), (0, .ref (ox 0)), (1, .int (nI jt)), (2, .int i), (3, .int (nI jt)), (4, .int j), (5, .int v)]) hx hb dX6_shift_22 hl (by decide) rfl (fun ls hl => ?_)
    refine lv_aload_n hx hb dX6_shift_24 rfl (lv_at hl 1 rfl) ?_
    refine gf_X6_56 hx hb hG hown hKX hP 0 rfl rfl dX6_shift_25 ?_
    refine lv_iload_n hx hb dX6_shift_28 rfl (lv_at hl 4 rfl) ?_
    refine aald_n hx hb hKX hP 1 rfl rfl (by omega) (by decide) htf dX6_shift_29 ?_
    refine lv_astore (lv' := [(7, .ref (op 0)), (6, .ref (op 0)), (0, .ref (ox 0)), (1, .int (nI jt)), (2, .int i), (3, .int (nI jt)), (4, .int j), (5, .int v)]) hx hb dX6_shift_30 hl (by decide) rfl (fun ls hl => ?_)
    refine lv_aload hx hb dX6_shift_32 (lv_at hl 1 rfl) ?_
    refine cRoV (q0 := 0) (ci := 4) mw31_20 mw31_21 mw31_22 mw2_12 mw31_23 rfl rfl hd_X4_holds hx hb hml hown hG hKX (c_X4_holds l D cy op op_items op_sort (nI lm)) ⟨Nat.le_of_ble_eq_true rfl, Nat.le_of_ble_eq_true rfl⟩ ⟨Nat.zero_le _, Nat.zero_le _⟩ (hP.sub [2, 3] rfl) rfl rfl hl.1 rfl (Nat.le_of_ble_eq_true rfl) dX6_shift_34 ?_
    refine lv_if_eq (tgt := 48) hx hb dX6_shift_37 (by decide) (fun c3 => ?_) (fun c3 => ?_)
    · refine lv_bipush (v := (-11 : Int32)) hx hb dX6_shift_48 (by decide) ?_
      exact W.iret (v := (-11 : Int32)) hx hb hr (fun t ht hW => ⟨⟨(-11 : Int32), op_items, rfl, by unfold f_X6_shifts; rw [if_neg c1, if_pos c3] <;> rfl, by rw [ht]; exact hP, hD⟩, hS.F ht⟩) hS.2.2 dX6_shift_50
    · refine lv_aload hx hb dX6_shift_40 (lv_at hl 0 rfl) ?_
      refine cRoV (q0 := 0) (ci := 4) mw31_20 mw31_21 mw31_22 mw2_12 mw31_23 rfl rfl hd_X4_holds hx hb hml hown hG hKX (c_X4_holds l D cy op op_items op_sort (nI lm)) ⟨Nat.le_of_ble_eq_true rfl, Nat.le_of_ble_eq_true rfl⟩ ⟨Nat.zero_le _, Nat.zero_le _⟩ (hP.sub [2, 3] rfl) rfl rfl hl.1 rfl (Nat.le_of_ble_eq_true rfl) dX6_shift_42 ?_
      refine lv_if_ne (tgt := 51) hx hb dX6_shift_45 (by decide) (fun _ => ?_) (fun c4 => absurd c4 c3)
      refine lv_aload hx hb dX6_shift_51 (lv_at hl 1 rfl) ?_
      refine gf_X6_234 hx hb hG hown hKX hP 2 rfl rfl dX6_shift_53 ?_
      refine lv_aload hx hb dX6_shift_56 (lv_at hl 0 rfl) ?_
      refine gf_X6_234 hx hb hG hown hKX hP 2 rfl rfl dX6_shift_58 ?_
      refine lv_icmp_eq (tgt := 67) hx hb dX6_shift_61 (by decide) (fun _ => ?_) (fun c5 => absurd rfl c5)
      refine lv_aload hx hb dX6_shift_67 (lv_at hl 1 rfl) ?_
      refine lv_iload_n hx hb dX6_shift_69 rfl (lv_at hl 4 rfl) ?_
      refine lv_iload hx hb dX6_shift_70 (lv_at hl 7 rfl) ?_
      refine cRoV (q0 := 0) (ci := 4) mw35_17 mw35_18 mw35_19 mw2_12 mw35_20 rfl rfl hd_X4_hasStretch hx hb hml hown hG hKX (c_X4_hasStretch l D cy op op_items op_sort (nI lm) i v) ⟨Nat.le_of_ble_eq_true rfl, Nat.le_of_ble_eq_true rfl⟩ ⟨Nat.zero_le _, Nat.zero_le _⟩ (hP.sub [2, 3] rfl) rfl rfl hl.1 rfl (Nat.le_of_ble_eq_true rfl) dX6_shift_72 ?_
      refine lv_if_eq (tgt := 90) hx hb dX6_shift_75 (by decide) (fun c6 => ?_) (fun c6 => ?_)
      · refine lv_bipush (v := (-13 : Int32)) hx hb dX6_shift_90 (by decide) ?_
        exact W.iret (v := (-13 : Int32)) hx hb hr (fun t ht hW => ⟨⟨(-13 : Int32), op_items, rfl, by unfold f_X6_shifts; rw [if_neg c1, if_neg c3, if_pos c6] <;> rfl, by rw [ht]; exact hP, hD⟩, hS.F ht⟩) hS.2.2 dX6_shift_92
      · obtain ⟨j92, j92_1, hj92, hj92_1, hlj92, rfl, rfl⟩ := hasS_of (by omega) c6
        refine lv_aload hx hb dX6_shift_78 (lv_at hl 0 rfl) ?_
        refine lv_iload hx hb dX6_shift_80 (lv_at hl 6 rfl) ?_
        refine lv_iload hx hb dX6_shift_82 (lv_at hl 7 rfl) ?_
        refine cRoV (q0 := 0) (ci := 4) mw35_17 mw35_18 mw35_19 mw2_12 mw35_20 rfl rfl hd_X4_hasStretch hx hb hml hown hG hKX (c_X4_hasStretch l D cy op op_items op_sort (nI lm) j (nI j92_1)) ⟨Nat.le_of_ble_eq_true rfl, Nat.le_of_ble_eq_true rfl⟩ ⟨Nat.zero_le _, Nat.zero_le _⟩ (hP.sub [2, 3] rfl) rfl rfl hl.1 rfl (Nat.le_of_ble_eq_true rfl) dX6_shift_84 ?_
        refine lv_if_ne (tgt := 93) hx hb dX6_shift_87 (by decide) (fun c7 => ?_) (fun c7 => ?_)
        · obtain ⟨j87, hj87, hlj87, rfl⟩ := hasS_of2 (by omega) (by omega) c7
          refine lv_aload hx hb dX6_shift_93 (lv_at hl 1 rfl) ?_
          refine gf_X6_240 hx hb hG hown hKX hP 2 rfl rfl dX6_shift_95 ?_
          refine lv_iload_n hx hb dX6_shift_98 rfl (lv_at hl 4 rfl) ?_
          refine lv_aload hx hb dX6_shift_99 (lv_at hl 0 rfl) ?_
          refine gf_X6_240 hx hb hG hown hKX hP 2 rfl rfl dX6_shift_101 ?_
          refine lv_iload hx hb dX6_shift_104 (lv_at hl 6 rfl) ?_
          refine lv_iload hx hb dX6_shift_106 (lv_at hl 7 rfl) ?_
          refine copyl_n mw35_16 hx hb (hml.trans hl.1.symm) hG hown hKX hP hD hS 3 3 rfl rfl rfl rfl rfl (by omega) (by omega) (by decide) (by decide) mw29_21 mw29_22 mw29_23 (Nat.le_of_ble_eq_true rfl) (Nat.le_of_ble_eq_true rfl) dX6_shift_108 (fun H locs hP hD hS => ?_)
          have hP : va_P D vwCl ((wX6 cy ox (nt 0) (tt 0) (ol 0) (ts 0) (tl 0) (oc 0) (ta 0) ox_isTaken) ++ (wTA cy ta ta_tf) ++ (wX4 cy op (va_cpy op_items op_items j92 j87 j92_1) op_sort (nI lm))) H := hP
          have hD : va_D A ((wX6 cy ox (nt 0) (tt 0) (ol 0) (ts 0) (tl 0) (oc 0) (ta 0) ox_isTaken) ++ (wTA cy ta ta_tf) ++ (wX4 cy op (va_cpy op_items op_items j92 j87 j92_1) op_sort (nI lm))) := hD
          refine lv_iload hx hb dX6_shift_111 (lv_at hl 7 rfl) ?_
          exact W.iret (v := nI j92_1) hx hb hr (fun t ht hW => ⟨⟨nI j92_1, va_cpy op_items op_items j92 j87 j92_1, rfl, by unfold f_X6_shifts; (try simp only [hj92, hj92_1, hj87]); rw [if_neg c1, if_neg c3, if_neg c6, if_neg c7] <;> rfl, by rw [ht]; exact hP, hD⟩, hS.F ht⟩) hS.2.2 dX6_shift_113
        · refine lv_bipush (v := (-13 : Int32)) hx hb dX6_shift_90 (by decide) ?_
          exact W.iret (v := (-13 : Int32)) hx hb hr (fun t ht hW => ⟨⟨(-13 : Int32), op_items, rfl, by unfold f_X6_shifts; (try simp only [hj92, hj92_1]); rw [if_neg c1, if_neg c3, if_neg c6, if_pos c7] <;> rfl, by rw [ht]; exact hP, hD⟩, hS.F ht⟩) hS.2.2 dX6_shift_92
def f_X6_shiftd (op_items : Nat → Int64) (op_sort : Int32) (oq_items : Nat → Int64) (oq_sort : Int32) (i : Int32) (j : Int32) (v : Int32) (jt : Nat) (jo : Nat) (lm : Nat) (lk : Nat) : Int32 × (Nat → Int64) :=
  if (f_X6_isTape (nI jt)) = (0 : Int32) then ((-1 : Int32), oq_items) else (if (f_X6_isTape (nI jo)) = (0 : Int32) then ((-1 : Int32), oq_items) else (if (f_X4_holds op_sort) = (0 : Int32) then ((-11 : Int32), oq_items) else (if (f_X4_holds oq_sort) = (0 : Int32) then ((-11 : Int32), oq_items) else (if op_sort = oq_sort then (if (f_X4_hasStretch (nI lm) i v) = (0 : Int32) then ((-13 : Int32), oq_items) else (if (f_X4_hasStretch (nI lk) j (nI v.toNatClampNeg)) = (0 : Int32) then ((-13 : Int32), oq_items) else (nI v.toNatClampNeg, va_cpy op_items oq_items i.toNatClampNeg j.toNatClampNeg v.toNatClampNeg))) else ((-12 : Int32), oq_items)))))
set_option maxHeartbeats 4000000 in
set_option maxRecDepth 100000 in
theorem c_X6_shiftd (l : Launch) (D : va_G) (cy : Nat → ClassId) (ox : Nat → Nat) (ta : Nat → Nat) (op : Nat → Nat) (oq : Nat → Nat) (nt : Nat → Nat) (tt : Nat → Nat) (ol : Nat → Nat) (ts : Nat → Nat) (tl : Nat → Nat) (oc : Nat → Nat) (ox_isTaken : Int32) (ta_tf : Nat → Option Nat) (op_items : Nat → Int64) (op_sort : Int32) (oq_items : Nat → Int64) (oq_sort : Int32) (i : Int32) (j : Int32) (v : Int32) (jt : Nat) (jo : Nat) (lm : Nat) (lk : Nat) (hj6 : jt < 6) (ho6 : jo < 6) (htf : ta_tf jt = some (op 0)) (hof : ta_tf jo = some (oq 0)) (hlm : lm ≤ 60) (hlk : lk ≤ 60) : RwI (S := (Nat → Int64)) l D cy yX6_shift (.code yX6_shift cX6_shift 8 (some .int)) 1 ((wX6 cy ox (nt 0) (tt 0) (ol 0) (ts 0) (tl 0) (oc 0) (ta 0) ox_isTaken) ++ (wTA cy ta ta_tf) ++ (wX4 cy op op_items op_sort (nI lm)) ++ (wX4 cy oq oq_items oq_sort (nI lk))) [.ref (ox 0), .int (nI jt), .int i, .int (nI jo), .int j, .int v] (fun rr u => (rr, u) = f_X6_shiftd op_items op_sort oq_items oq_sort i j v jt jo lm lk) (fun u => (wX6 cy ox (nt 0) (tt 0) (ol 0) (ts 0) (tl 0) (oc 0) (ta 0) ox_isTaken) ++ (wTA cy ta ta_tf) ++ (wX4 cy op op_items op_sort (nI lm)) ++ (wX4 cy oq u oq_sort (nI lk))) := by
  intro sz
  refine Met.ofW (cc := cX6_shift) (maxL := 8) (ret := (some .int)) (by decide) rfl ?_
  intro pP eE s0 mM args below meth cC s₁ B hml hv
  obtain ⟨rfl, hsz, hP, hKX, hD0⟩ := hv
  have hx := B.exec
  have hb := B.bytes
  have hr := B.returns
  have hG := gw_hts (atoms_spec (ws := _) B.pre)
  have hown : s0.vm.findClass RX6 = some mM.cls := findClass_of_methodNamed B.named
  have hlocks := B.notSynchronized
  subst hsz
  have hD := hD0.self (sz := s0.heap.size)
  generalize hAe : va_A ((wX6 cy ox (nt 0) (tt 0) (ol 0) (ts 0) (tl 0) (oc 0) (ta 0) ox_isTaken) ++ (wTA cy ta ta_tf) ++ (wX4 cy op op_items op_sort (nI lm)) ++ (wX4 cy oq oq_items oq_sort (nI lk))) s0.heap.size = A at hD ⊢
  have hA : ∀ q : Nat, s0.heap.size ≤ q → A q := fun q h => by rw [← hAe]; exact Or.inr h
  have hS : va_S A s0.heap s0.heap [] := va_S.rf
  have hl := lv_entry ([.ref (ox 0), .int (nI jt), .int i, .int (nI jo), .int j, .int v]) (n := 8) (Nat.le_of_ble_eq_true rfl)
  rw [lg_entry_eq]
  generalize (lg_sl ([.ref (ox 0), .int (nI jt), .int i, .int (nI jo), .int j, .int v]) ++ List.replicate (8 - (lg_sl ([.ref (ox 0), .int (nI jt), .int i, .int (nI jo), .int j, .int v])).length) Slot.unset).toArray = ls at hl ⊢
  have hl : lv_has ls 8 [(0, .ref (ox 0)), (1, .int (nI jt)), (2, .int i), (3, .int (nI jo)), (4, .int j), (5, .int v)] := hl
  refine lv_iload_n hx hb dX6_shift_0 rfl (lv_at hl 1 rfl) ?_
  refine cRoS mw31_17 mw31_18 mw1_2 mw31_19 hd_X6_isTape hx hb hml hown hG hKX (c_X6_isTape l D cy (nI jt)) ⟨Nat.le_of_ble_eq_true rfl, Nat.le_of_ble_eq_true rfl⟩ ⟨Nat.zero_le _, Nat.zero_le _⟩ (hP.sub [] rfl) rfl hl.1 rfl (Nat.le_of_ble_eq_true rfl) dX6_shift_1 ?_
  refine lv_if_eq (tgt := 14) hx hb dX6_shift_4 (by decide) (fun c1 => ?_) (fun c1 => ?_)
  · refine lv_iconst (v := (-1 : Int32)) hx hb dX6_shift_14 (by decide) ?_
    exact W.iret (v := (-1 : Int32)) hx hb hr (fun t ht hW => ⟨⟨(-1 : Int32), oq_items, rfl, by unfold f_X6_shiftd; rw [if_pos c1] <;> rfl, by rw [ht]; exact hP, hD⟩, hS.F ht⟩) hS.2.2 dX6_shift_15
  · refine lv_iload_n hx hb dX6_shift_7 rfl (lv_at hl 3 rfl) ?_
    refine cRoS mw31_17 mw31_18 mw1_2 mw31_19 hd_X6_isTape hx hb hml hown hG hKX (c_X6_isTape l D cy (nI jo)) ⟨Nat.le_of_ble_eq_true rfl, Nat.le_of_ble_eq_true rfl⟩ ⟨Nat.zero_le _, Nat.zero_le _⟩ (hP.sub [] rfl) rfl hl.1 rfl (Nat.le_of_ble_eq_true rfl) dX6_shift_8 ?_
    refine lv_if_ne (tgt := 16) hx hb dX6_shift_11 (by decide) (fun c2 => ?_) (fun c2 => ?_)
    · refine lv_aload_n hx hb dX6_shift_16 rfl (lv_at hl 0 rfl) ?_
      refine gf_X6_56 hx hb hG hown hKX hP 0 rfl rfl dX6_shift_17 ?_
      refine lv_iload_n hx hb dX6_shift_20 rfl (lv_at hl 1 rfl) ?_
      refine aald_n hx hb hKX hP 1 rfl rfl (by omega) (by decide) htf dX6_shift_21 ?_
      refine lv_astore (lv' := [(6, .ref (op 0)), (0, .ref (ox 0)), (1, .int (nI jt)), (2, .int i), (3, .int (nI jo)), (4, .int j), (5, .int v)]) hx hb dX6_shift_22 hl (by decide) rfl (fun ls hl => ?_)
      refine lv_aload_n hx hb dX6_shift_24 rfl (lv_at hl 1 rfl) ?_
      refine gf_X6_56 hx hb hG hown hKX hP 0 rfl rfl dX6_shift_25 ?_
      refine lv_iload_n hx hb dX6_shift_28 rfl (lv_at hl 4 rfl) ?_
      refine aald_n hx hb hKX hP 1 rfl rfl (by omega) (by decide) hof dX6_shift_29 ?_
      refine lv_astore (lv' := [(7, .ref (oq 0)), (6, .ref (op 0)), (0, .ref (ox 0)), (1, .int (nI jt)), (2, .int i), (3, .int (nI jo)), (4, .int j), (5, .int v)]) hx hb dX6_shift_30 hl (by decide) rfl (fun ls hl => ?_)
      refine lv_aload hx hb dX6_shift_32 (lv_at hl 1 rfl) ?_
      refine cRoV (q0 := 0) (ci := 4) mw31_20 mw31_21 mw31_22 mw2_12 mw31_23 rfl rfl hd_X4_holds hx hb hml hown hG hKX (c_X4_holds l D cy op op_items op_sort (nI lm)) ⟨Nat.le_of_ble_eq_true rfl, Nat.le_of_ble_eq_true rfl⟩ ⟨Nat.zero_le _, Nat.zero_le _⟩ (hP.sub [2, 3] rfl) rfl rfl hl.1 rfl (Nat.le_of_ble_eq_true rfl) dX6_shift_34 ?_
      refine lv_if_eq (tgt := 48) hx hb dX6_shift_37 (by decide) (fun c3 => ?_) (fun c3 => ?_)
      · refine lv_bipush (v := (-11 : Int32)) hx hb dX6_shift_48 (by decide) ?_
        exact W.iret (v := (-11 : Int32)) hx hb hr (fun t ht hW => ⟨⟨(-11 : Int32), oq_items, rfl, by unfold f_X6_shiftd; rw [if_neg c1, if_neg c2, if_pos c3] <;> rfl, by rw [ht]; exact hP, hD⟩, hS.F ht⟩) hS.2.2 dX6_shift_50
      · refine lv_aload hx hb dX6_shift_40 (lv_at hl 0 rfl) ?_
        refine cRoV (q0 := 0) (ci := 4) mw31_20 mw31_21 mw31_22 mw2_12 mw31_23 rfl rfl hd_X4_holds hx hb hml hown hG hKX (c_X4_holds l D cy oq oq_items oq_sort (nI lk)) ⟨Nat.le_of_ble_eq_true rfl, Nat.le_of_ble_eq_true rfl⟩ ⟨Nat.zero_le _, Nat.zero_le _⟩ (hP.sub [4, 5] rfl) rfl rfl hl.1 rfl (Nat.le_of_ble_eq_true rfl) dX6_shift_42 ?_
        refine lv_if_ne (tgt := 51) hx hb dX6_shift_45 (by decide) (fun c4 => ?_) (fun c4 => ?_)
        · refine lv_aload hx hb dX6_shift_51 (lv_at hl 1 rfl) ?_
          refine gf_X6_234 hx hb hG hown hKX hP 2 rfl rfl dX6_shift_53 ?_
          refine lv_aload hx hb dX6_shift_56 (lv_at hl 0 rfl) ?_
          refine gf_X6_234 hx hb hG hown hKX hP 4 rfl rfl dX6_shift_58 ?_
          refine lv_icmp_eq (tgt := 67) hx hb dX6_shift_61 (by decide) (fun c5 => ?_) (fun c5 => ?_)
          · refine lv_aload hx hb dX6_shift_67 (lv_at hl 1 rfl) ?_
            refine lv_iload_n hx hb dX6_shift_69 rfl (lv_at hl 4 rfl) ?_
            refine lv_iload hx hb dX6_shift_70 (lv_at hl 7 rfl) ?_
            refine cRoV (q0 := 0) (ci := 4) mw35_17 mw35_18 mw35_19 mw2_12 mw35_20 rfl rfl hd_X4_hasStretch hx hb hml hown hG hKX (c_X4_hasStretch l D cy op op_items op_sort (nI lm) i v) ⟨Nat.le_of_ble_eq_true rfl, Nat.le_of_ble_eq_true rfl⟩ ⟨Nat.zero_le _, Nat.zero_le _⟩ (hP.sub [2, 3] rfl) rfl rfl hl.1 rfl (Nat.le_of_ble_eq_true rfl) dX6_shift_72 ?_
            refine lv_if_eq (tgt := 90) hx hb dX6_shift_75 (by decide) (fun c6 => ?_) (fun c6 => ?_)
            · refine lv_bipush (v := (-13 : Int32)) hx hb dX6_shift_90 (by decide) ?_
              exact W.iret (v := (-13 : Int32)) hx hb hr (fun t ht hW => ⟨⟨(-13 : Int32), oq_items, rfl, by unfold f_X6_shiftd; rw [if_neg c1, if_neg c2, if_neg c3, if_neg c4, if_pos c5, if_pos c6] <;> rfl, by rw [ht]; exact hP, hD⟩, hS.F ht⟩) hS.2.2 dX6_shift_92
            · obtain ⟨j92, j92_1, hj92, hj92_1, hlj92, rfl, rfl⟩ := hasS_of (by omega) c6
              refine lv_aload hx hb dX6_shift_78 (lv_at hl 0 rfl) ?_
              refine lv_iload hx hb dX6_shift_80 (lv_at hl 6 rfl) ?_
              refine lv_iload hx hb dX6_shift_82 (lv_at hl 7 rfl) ?_
              refine cRoV (q0 := 0) (ci := 4) mw35_17 mw35_18 mw35_19 mw2_12 mw35_20 rfl rfl hd_X4_hasStretch hx hb hml hown hG hKX (c_X4_hasStretch l D cy oq oq_items oq_sort (nI lk) j (nI j92_1)) ⟨Nat.le_of_ble_eq_true rfl, Nat.le_of_ble_eq_true rfl⟩ ⟨Nat.zero_le _, Nat.zero_le _⟩ (hP.sub [4, 5] rfl) rfl rfl hl.1 rfl (Nat.le_of_ble_eq_true rfl) dX6_shift_84 ?_
              refine lv_if_ne (tgt := 93) hx hb dX6_shift_87 (by decide) (fun c7 => ?_) (fun c7 => ?_)
              · obtain ⟨j87, hj87, hlj87, rfl⟩ := hasS_of2 (by omega) (by omega) c7
                refine lv_aload hx hb dX6_shift_93 (lv_at hl 1 rfl) ?_
                refine gf_X6_240 hx hb hG hown hKX hP 2 rfl rfl dX6_shift_95 ?_
                refine lv_iload_n hx hb dX6_shift_98 rfl (lv_at hl 4 rfl) ?_
                refine lv_aload hx hb dX6_shift_99 (lv_at hl 0 rfl) ?_
                refine gf_X6_240 hx hb hG hown hKX hP 4 rfl rfl dX6_shift_101 ?_
                refine lv_iload hx hb dX6_shift_104 (lv_at hl 6 rfl) ?_
                refine lv_iload hx hb dX6_shift_106 (lv_at hl 7 rfl) ?_
                refine copyl_n mw35_16 hx hb (hml.trans hl.1.symm) hG hown hKX hP hD hS 3 5 rfl rfl rfl rfl rfl (by omega) (by omega) (by decide) (by decide) mw29_21 mw29_22 mw29_23 (Nat.le_of_ble_eq_true rfl) (Nat.le_of_ble_eq_true rfl) dX6_shift_108 (fun H locs hP hD hS => ?_)
                have hP : va_P D vwCl ((wX6 cy ox (nt 0) (tt 0) (ol 0) (ts 0) (tl 0) (oc 0) (ta 0) ox_isTaken) ++ (wTA cy ta ta_tf) ++ (wX4 cy op op_items op_sort (nI lm)) ++ (wX4 cy oq (va_cpy op_items oq_items j92 j87 j92_1) oq_sort (nI lk))) H := hP
                have hD : va_D A ((wX6 cy ox (nt 0) (tt 0) (ol 0) (ts 0) (tl 0) (oc 0) (ta 0) ox_isTaken) ++ (wTA cy ta ta_tf) ++ (wX4 cy op op_items op_sort (nI lm)) ++ (wX4 cy oq (va_cpy op_items oq_items j92 j87 j92_1) oq_sort (nI lk))) := hD
                refine lv_iload hx hb dX6_shift_111 (lv_at hl 7 rfl) ?_
                exact W.iret (v := nI j92_1) hx hb hr (fun t ht hW => ⟨⟨nI j92_1, va_cpy op_items oq_items j92 j87 j92_1, rfl, by unfold f_X6_shiftd; (try simp only [hj92, hj92_1, hj87]); rw [if_neg c1, if_neg c2, if_neg c3, if_neg c4, if_pos c5, if_neg c6, if_neg c7] <;> rfl, by rw [ht]; exact hP, hD⟩, hS.F ht⟩) hS.2.2 dX6_shift_113
              · refine lv_bipush (v := (-13 : Int32)) hx hb dX6_shift_90 (by decide) ?_
                exact W.iret (v := (-13 : Int32)) hx hb hr (fun t ht hW => ⟨⟨(-13 : Int32), oq_items, rfl, by unfold f_X6_shiftd; (try simp only [hj92, hj92_1]); rw [if_neg c1, if_neg c2, if_neg c3, if_neg c4, if_pos c5, if_neg c6, if_pos c7] <;> rfl, by rw [ht]; exact hP, hD⟩, hS.F ht⟩) hS.2.2 dX6_shift_92
          · refine lv_bipush (v := (-12 : Int32)) hx hb dX6_shift_64 (by decide) ?_
            exact W.iret (v := (-12 : Int32)) hx hb hr (fun t ht hW => ⟨⟨(-12 : Int32), oq_items, rfl, by unfold f_X6_shiftd; rw [if_neg c1, if_neg c2, if_neg c3, if_neg c4, if_neg c5] <;> rfl, by rw [ht]; exact hP, hD⟩, hS.F ht⟩) hS.2.2 dX6_shift_66
        · refine lv_bipush (v := (-11 : Int32)) hx hb dX6_shift_48 (by decide) ?_
          exact W.iret (v := (-11 : Int32)) hx hb hr (fun t ht hW => ⟨⟨(-11 : Int32), oq_items, rfl, by unfold f_X6_shiftd; rw [if_neg c1, if_neg c2, if_neg c3, if_pos c4] <;> rfl, by rw [ht]; exact hP, hD⟩, hS.F ht⟩) hS.2.2 dX6_shift_50
    · refine lv_iconst (v := (-1 : Int32)) hx hb dX6_shift_14 (by decide) ?_
      exact W.iret (v := (-1 : Int32)) hx hb hr (fun t ht hW => ⟨⟨(-1 : Int32), oq_items, rfl, by unfold f_X6_shiftd; rw [if_neg c1, if_pos c2] <;> rfl, by rw [ht]; exact hP, hD⟩, hS.F ht⟩) hS.2.2 dX6_shift_15
